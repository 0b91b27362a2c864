section ConR2
variable {X : CX} {cc : ByteArray} {own : String} {mL d K pc : Nat} {lv : List (Nat × Value)} {st stk : List Value} {ws l9 : va_W} {cl sl : Nat} {Q : State → Prop}
theorem c_newO {idx ci N : Nat} {C : String} {T : u_T} {ty0 : Nat → FieldType} (fs : List Value) (hcf : CLf ci C T N ty0) (w1 : Cond.classLink own idx C ∈ GW) (w2 : Cond.instantiable C N ∈ GW) (w3 : Cond.initialized C ∈ GW) (hfs : ∀ j, j < N → defaultValue (ty0 j) = vp_V fs j) (hdg : decode cc pc = .ok (.new idx, 3)) (hcl : cl + 1 ≤ K) (hsl : sl + N ≤ 6 * K)
    (k : ∀ q : Nat, Con X cc own mL d K (pc + 3) lv (.ref q :: st) (ws ++ (l9 ++ [(q, .inr (ci, fs))])) (cl + 1) (sl + N) Q) : Con X cc own mL d K pc lv st (ws ++ l9) cl sl Q := by
  obtain ⟨p, l, e, R, s, m, args, below, meth, co, Dg, cy, N0, n0, ad0, sv, hh⟩ := X
  intro C9 h0 hi hn H locs ls hP hD hS hl9
  obtain ⟨hx, hb, hml, hret, hlocks, hown, hts, hK, hN1, hfr, hlo, hce, hsl', htr, htb, hE⟩ := id C9
  obtain ⟨hc, hin, hty, hnm, -, -⟩ := hcf
  subst h0
  refine va_new (ci := ci) (fs := fs) (C := C) (T := T) (N := N) hx hb hts hin ty0 hty hown (hts _ w1) (hts _ w2) (hts _ w3) hK hP hD hS (fun q h => Nat.le_trans hN1 h) hc hfs (by omega) (by omega) hdg (fun q H1 hP1 hD1 hS1 => ?_)
  rw [List.append_assoc] at hP1 hD1
  exact k q C9 rfl hi hn H1 locs ls hP1 hD1 hS1 hl9
theorem c_putF {idx ci N a j : Nat} {C : String} {T : u_T} {ty0 : Nat → FieldType} {fs : List Value} {v : Value} (k9 : Nat) (hcf : CLf ci C T N ty0) (hj : j < N) (hw : Cond.fieldLink own idx (T j).1 (T j).2.1 (T j).2.2.1 ∈ GW) (hfin : (T j).2.2.2 = true) (hdecl : (T j).1 = own) (hnr : narrow (ty0 j) v = v) (hft : fits (ty0 j) v = true) (hlen : j < fs.length) (he : l9[k9]? = some (a, .inr (ci, fs))) (hdg : decode cc pc = .ok (.putfield idx, 3))
    (k : Con X cc own mL d K (pc + 3) lv st (ws ++ l9.set k9 (a, .inr (ci, fs.set j v))) cl sl Q) : Con X cc own mL d K pc lv (v :: .ref a :: st) (ws ++ l9) cl sl Q := by
  obtain ⟨p, l, e, R, s, m, args, below, meth, co, Dg, cy, N0, n0, ad0, sv, hh⟩ := X
  intro C9 h0 hi hn H locs ls hP hD hS hl9
  obtain ⟨hx, hb, hml, hret, hlocks, hown, hts, hK, hN1, hfr, hlo, hce, hsl', htr, htb, hE⟩ := id C9
  obtain ⟨hc, hin, hty, hnm, -, -⟩ := hcf
  refine va_putF hx hb hts hin ty0 hty hnm hown hK hP hD hS (ws.length + k9) (ap_at he) hc j hj (hts _ hw) (fun x h => h) hfin hi hdecl (hty j hj) hnr hft hlen hdg (fun H1 locs1 hP1 hD1 hS1 => ?_)
  rw [ap_set] at hP1 hD1
  exact k C9 h0 hi hn H1 locs1 ls hP1 hD1 hS1 hl9
theorem c_put {idx ci N a j : Nat} {C : String} {T : u_T} {ty0 : Nat → FieldType} {fs : List Value} {v : Value} (k9 : Nat) (hcf : CLf ci C T N ty0) (hj : j < N) (hw : Cond.fieldLink own idx (T j).1 (T j).2.1 (T j).2.2.1 ∈ GW) (hfin : (T j).2.2.2 = false) (hnr : narrow (ty0 j) v = v) (hft : fits (ty0 j) v = true) (hlen : j < fs.length) (he : l9[k9]? = some (a, .inr (ci, fs))) (hdg : decode cc pc = .ok (.putfield idx, 3))
    (k : Con X cc own mL d K (pc + 3) lv st (ws ++ l9.set k9 (a, .inr (ci, fs.set j v))) cl sl Q) : Con X cc own mL d K pc lv (v :: .ref a :: st) (ws ++ l9) cl sl Q := by
  obtain ⟨p, l, e, R, s, m, args, below, meth, co, Dg, cy, N0, n0, ad0, sv, hh⟩ := X
  intro C9 h0 hi hn H locs ls hP hD hS hl9
  obtain ⟨hx, hb, hml, hret, hlocks, hown, hts, hK, hN1, hfr, hlo, hce, hsl', htr, htb, hE⟩ := id C9
  obtain ⟨hc, hin, hty, hnm, -, -⟩ := hcf
  refine va_put hx hb hts hin ty0 hty hnm hown hK hP hD hS (ws.length + k9) (ap_at he) hc j hj (hts _ hw) (fun x h => h) hfin (hty j hj) hnr hft hlen hdg (fun H1 locs1 hP1 hD1 hS1 => ?_)
  rw [ap_set] at hP1 hD1
  exact k C9 h0 hi hn H1 locs1 ls hP1 hD1 hS1 hl9
theorem c_get {idx ci N a j : Nat} {C : String} {T : u_T} {ty0 : Nat → FieldType} {fs : List Value} {v : Value} (k9 : Nat) (hcf : CLf ci C T N ty0) (hj : j < N) (hw : Cond.fieldLink own idx (T j).1 (T j).2.1 (T j).2.2.1 ∈ GW) (he : l9[k9]? = some (a, .inr (ci, fs))) (hv : fs[j]? = some v) (hdg : decode cc pc = .ok (.getfield idx, 3))
    (k : Con X cc own mL d K (pc + 3) lv (v :: st) (ws ++ l9) cl sl Q) : Con X cc own mL d K pc lv (.ref a :: st) (ws ++ l9) cl sl Q := by
  obtain ⟨p, l, e, R, s, m, args, below, meth, co, Dg, cy, N0, n0, ad0, sv, hh⟩ := X
  intro C9 h0 hi hn H locs ls hP hD hS hl9
  obtain ⟨hx, hb, hml, hret, hlocks, hown, hts, hK, hN1, hfr, hlo, hce, hsl', htr, htb, hE⟩ := id C9
  obtain ⟨hc, hin, hty, hnm, -, -⟩ := hcf
  exact va_get hx hb hts hin hown hK hP (ws.length + k9) (ap_at he) hc j hj (hts _ hw) (fun x h => h) hv hdg (k C9 h0 hi hn H locs ls hP hD hS hl9)
theorem c_iast {a N : Nat} {f : Nat → Int32} {i v : Int32} (k9 : Nat) (he : l9[k9]? = some (a, .inl (cyX X 0, N, .inl f))) (hi9 : inb i N = true) (hdg : decode cc pc = .ok (.iastore, 1)) (k : Con X cc own mL d K (pc + 1) lv st (ws ++ l9.set k9 (a, .inl (cyX X 0, N, .inl (upd f i.toNatClampNeg v)))) cl sl Q) : Con X cc own mL d K pc lv (.int v :: .int i :: .ref a :: st) (ws ++ l9) cl sl Q := by
  obtain ⟨p, l, e, R, s, m, args, below, meth, co, Dg, cy, N0, n0, ad0, sv, hh⟩ := X
  intro C9 h0 hi hn H locs ls hP hD hS hl9
  obtain ⟨hx, hb, hml, hret, hlocks, hown, hts, hK, hN1, hfr, hlo, hce, hsl', htr, htb, hE⟩ := id C9
  refine va_iast hx hb hK hP hD hS (ws.length + k9) 0 (ap_at he) rfl (inb_in hi9) hdg (fun H1 locs1 hP1 hD1 hS1 => ?_)
  rw [ap_set] at hP1 hD1
  exact k C9 h0 hi hn H1 locs1 ls hP1 hD1 hS1 hl9
theorem c_newS {idx : Nat} {n : Int32} {N : Nat} (hw : Cond.classLink own idx "java/lang/String" ∈ GW) (hdg : decode cc pc = .ok (.anewarray idx, 3)) (hn9 : ¬ n < 0) (hN : n.toNatClampNeg = N) (hb9 : N * 4 ≤ 536870912) (hcl : cl + 1 ≤ K) (hsl : sl + N ≤ 6 * K) (k : ∀ q : Nat, Con X cc own mL d K (pc + 3) lv (.ref q :: st) (ws ++ (l9 ++ [(q, .inl (cyX X 3, N, .inr (.inr (.inr (.inr (fun _ => none))))))])) (cl + 1) (sl + N) Q) : Con X cc own mL d K pc lv (.int n :: st) (ws ++ l9) cl sl Q := by
  obtain ⟨p, l, e, R, s, m, args, below, meth, co, Dg, cy, N0, n0, ad0, sv, hh⟩ := X
  intro C h0 hi hn H locs ls hP hD hS hl9
  obtain ⟨hx, hb, hml, hret, hlocks, hown, hts, hK, hN1, hfr, hlo, hce, hsl', htr, htb, hE⟩ := id C
  subst h0
  refine va_newq (C := "java/lang/String") hx hb hown (hts _ hw) hn.2.2.2.2 hK hP hD hS (fun q h => Nat.le_trans hN1 h) hn9 hN hb9 (by omega) (by omega) hdg (fun q cA H1 hK1 hP1 hD1 hS1 => ?_)
  have e1 : cA = cy 3 := by
    obtain ⟨_, _, _, _, _, f1⟩ := (hK1.2 5 _ rfl).2
    obtain ⟨_, _, _, _, _, f2⟩ := (hK.2 3 _ rfl).2
    exact Option.some.inj (f1.symm.trans f2)
  subst e1
  rw [List.append_assoc] at hP1 hD1
  exact k q C rfl hi hn H1 locs ls hP1 hD1 hS1 hl9
theorem c_sast {a N j : Nat} {f : Nat → Option Nat} {i : Int32} (k9 : Nat) (hj : j < nStr) (he : l9[k9]? = some (a, .inl (cyX X 3, N, .inr (.inr (.inr (.inr f)))))) (hi9 : inb i N = true) (hdg : decode cc pc = .ok (.aastore, 1)) (k : Con X cc own mL d K (pc + 1) lv st (ws ++ l9.set k9 (a, .inl (cyX X 3, N, .inr (.inr (.inr (.inr (va_up f i.toNatClampNeg (some (adX X (90, j, 0)))))))))) cl sl Q) : Con X cc own mL d K pc lv (.ref (adX X (90, j, 0)) :: .int i :: .ref a :: st) (ws ++ l9) cl sl Q := by
  obtain ⟨p, l, e, R, s, m, args, below, meth, co, Dg, cy, N0, n0, ad0, sv, hh⟩ := X
  intro C9 h0 hi hn H locs ls hP hD hS hl9
  obtain ⟨hx, hb, hml, hret, hlocks, hown, hts, hK, hN1, hfr, hlo, hce, hsl', htr, htb, hE⟩ := id C9
  refine vb_astq (E := "java/lang/String") (C := "java/lang/String") hx hb hK hP hD hS (ws.length + k9) 3 (ap_at he) rfl (vk_recv hE.2.1 hj hS) vb_asgS (inb_in hi9) hdg (fun H1 locs1 hP1 hD1 hS1 => ?_)
  rw [ap_set] at hP1 hD1
  exact k C9 h0 hi hn H1 locs1 ls hP1 hD1 hS1 hl9
theorem c_ret {post : (Nat → ClassId) → (Id3 → Nat) → va_W → Prop} (hdg : decode cc pc = .ok (.return_, 1)) (hcl : cl ≤ K) (hsl : sl ≤ 6 * K) (hp : post (cyX X) (adX X) ws) (E : CEnd X cc own mL d K post Q) : Con X cc own mL d K pc lv [] ws cl sl Q := by
  obtain ⟨p, l, e, R, s, m, args, below, meth, co, Dg, cy, N0, n0, ad0, sv, hh⟩ := X
  intro C9 h0 hi hn H locs ls hP hD hS hl9
  exact W.widen hcl hsl (E C9 H locs ls pc ws hp hP hD hS hdg)
theorem CPc.blind {N0 : Nat} {Dg : va_G} {cy : Nat → ClassId} {ad0 : Id3 → Nat} {avs : List Value} {ws0 : va_W} : FrameBlind (CPc N0 Dg cy ad0 avs ws0) := by
  intro a U g mk q
  obtain ⟨q0, q1, qP, qK, qD, qE, qN⟩ := q
  exact ⟨q0, q1, qP, va_K.moved (u := U) (U := U.calling g mk a) (Vm.Alike.refl U.vm) qK, qD, qE.calling g mk a, qN.calling g mk a⟩
theorem c_call {y : MethodName} {bytes : ByteArray} {maxL d' K' idx na a : Nat} {As : List Value} {ws0 : (Nat → ClassId) → va_W} {post : (Nat → ClassId) → (Id3 → Nat) → va_W → Prop} (hM : CMet y bytes maxL d' K' (.ref a :: As) ws0 post) (w1 : Cond.initialized y.cls ∈ GW) (w3 : Cond.instanceMethod y ∈ GW) (w4 : Cond.code y bytes maxL none ∈ GW) (hnm : y.name = "<init>")
    (w2 : Cond.methodLink own idx y ∈ GW ∨ (∀ s, NestX s → va_Nw (.methodLinkNest own idx y RX7) s))
    (hw2 : y.cls ≠ "java/lang/invoke/MethodHandle" ∧ y.cls ≠ "java/lang/invoke/VarHandle" ∧ (parseMethodDescriptor y.desc).map (fun d => d.parameters.length) = some na) (hmL : maxL ≤ 40) (hdg : decode cc pc = .ok (.invokespecial idx, 3)) (hna : As.length = na) (hd : d' + 1 ≤ d) (hr : (st.map fun v => v.category).sum ≤ 8) (hcl : cl + K' ≤ K) (hsl : sl + 6 * K' ≤ 6 * K)
    (hst : stk = As.reverse ++ .ref a :: st) (hws : ws = ws0 (cyX X)) (k : ∀ ws1, post (cyX X) (adX X) ws1 → Con X cc own mL d K (pc + 3) lv st ws1 (cl + K') (sl + 6 * K') Q) : Con X cc own mL d K pc lv stk ws cl sl Q := by
  obtain ⟨p, l, e, R, s, m, args, below, meth, co, Dg, cy, N0, n0, ad0, sv, hh⟩ := X
  intro C9 h0 hi hn H locs ls hP hD hS hl9
  obtain ⟨hx, hb, hml, hret, hlocks, hown, hts, hK, hN1, hfr, hlo, hce, hsl', htr, htb, hE⟩ := id C9
  subst h0
  subst hst
  have hws : ws = ws0 cy := hws
  subst hws
  have hG : GoodIn GW (WS y bytes maxL none) := GoodGW (fun w hw => by
    rcases List.mem_cons.mp hw with rfl | h
    · exact w4
    · exact h)
  have hpre : PreS s H (CPc N0 Dg cy ad0 (.ref a :: As) (ws0 cy)) (.ref a :: As) := ⟨CPc.blind, fun U hU hW => ⟨rfl, by rw [hU]; exact Nat.le_trans hN1 hS.1, by rw [hU]; exact hP, va_K.moved hW.alike hK, hD, hE.at hS hU hW, hn.warm hW⟩⟩
  have hroom : (rmd d' K').frames + 1 ≤ R.frames ∧ 8 + (maxL + 11) + (rmd d' K').locals ≤ R.locals := ⟨by show d' + 1 ≤ R.frames; omega, by show 8 + (maxL + 11) + 64 * d' ≤ R.locals; omega⟩
  have hrun : va_Run p l e R s m args below meth co H locs cl sl K' (6 * K') (F0 m pc ls (As.reverse ++ .ref a :: st)) st (CQc N0 Dg cy ad0 post (Value.ref a :: As).toArray) (AN N0) := by
    rcases w2 with w2 | w2
    · exact va_runI (As := As) (rest := st) (b := a) ⟨hx, hb, hml, hown, hts⟩ (hM l N0 Dg cy ad0 htr) (cwI na hts hG rfl rfl rfl (hts _ w1) (hts _ w2) (hts _ w3) hnm hw2 hroom) hpre rfl hna hl9.1 rfl (lv_room hr) hdg ⟨by omega, by omega⟩
    · exact va_runIN (As := As) (rest := st) (b := a) ⟨hx, hb, hml, hown, hts⟩ (hM l N0 Dg cy ad0 htr) ⟨va_cnB na hts hG rfl rfl rfl (w2 s hn) (hts _ w1) hw2 hroom, hnm, hts _ w3⟩ hpre rfl hna hl9.1 rfl (lv_room hr) hdg ⟨by omega, by omega⟩
  intro T hT X9
  obtain ⟨v9, st₀, t, T', L, e0, X', hL, e1, e2, ⟨hv9, ws1, hpost, hP', hD', hF'⟩, go⟩ := hrun T hT X9
  cases hv9
  have hS' : va_S (AN N0) s.heap T'.heap (locs ++ L) := by
    rw [e1]
    refine ⟨Nat.le_trans hS.1 (by rw [← e0]; exact hF'.1), fun q h1 h2 => ?_, fun q hq => ?_⟩
    · rw [hF'.2 q (by rw [e0]; exact Nat.lt_of_lt_of_le h1 hS.1) h2, e0]
      exact hS.2.1 q h1 h2
    · rcases List.mem_append.mp hq with h | h
      · exact hS.2.2 q h
      · exact hL q h
  obtain ⟨t2, a1, b1⟩ := k ws1 hpost C9 rfl hi hn T'.heap (locs ++ L) ls (by rw [e1]; exact hP') hD' hS' hl9 T' rfl X'
  exact ⟨t2, go t2 a1, b1⟩
end ConR2
