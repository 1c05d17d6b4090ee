section AWF
variable {p : Program} {l : Launch} {e : Env} {R : Room} {s : State} {m : MethodId} {args : Array Value} {below : List Frame} {meth : Method} {c : Code} {nL : Nat} {G : va_G × (Nat → ClassId)} {A : Nat → Prop} {H0 : Heap} {cells slots : Nat} {Q : State → Prop}
variable {cc : ByteArray} {ret : Option FieldType} {Ts : List Cond} {own : String} {lv : List (Nat × Value)} {pc : Nat} {st : List Value}
variable {wc wr : va_W} {y : MethodName} {ws9 : List Cond} {rm : Room} {b index maxL : Nat} {Cn host : String} {bytes : ByteArray} {rt : Option FieldType} {ci q0 : Nat} {fs : List Value} {rc : vw_C}
theorem cW0i {post : Int → va_W → Prop} (C : cx p l s m args meth c cc nL ret Ts own G A H0) (hN : NX s) (hM : Mi l G y ws9 rm [.ref b] wc post) (cw : CallW R s args own Cn index y bytes maxL rt ws9 rm 0 0 0) (hc : vwCl[ci]? = some rc) (hCn : rc.1 = Cn) (he : wc[q0]? = some (b, .inr (ci, fs))) (hcat : Nat.ble (st.map fun v => v.category).sum 8 = true) (hd : decode cc pc = .ok (.invokevirtual index, 3)) (hf : cells ≤ R.cells ∧ slots ≤ R.slots) (kk : ∀ (r : Int) (u : va_W), post r u → AW p l e R s m args below meth c nL G A H0 cells slots Q (u ++ wr) lv (pc + 3) (.int (zI r) :: st)) : AW p l e R s m args below meth c nL G A H0 cells slots Q (wc ++ wr) lv pc (.ref b :: st) := aw_callVi (As := []) C hN hM cw hc hCn he rfl hcat hd hf kk
theorem cW1i {a1 : Value} {post : Int → va_W → Prop} (C : cx p l s m args meth c cc nL ret Ts own G A H0) (hN : NX s) (hM : Mi l G y ws9 rm [.ref b, a1] wc post) (cw : CallW R s args own Cn index y bytes maxL rt ws9 rm 0 0 1) (hc : vwCl[ci]? = some rc) (hCn : rc.1 = Cn) (he : wc[q0]? = some (b, .inr (ci, fs))) (hcat : Nat.ble (st.map fun v => v.category).sum 8 = true) (hd : decode cc pc = .ok (.invokevirtual index, 3)) (hf : cells ≤ R.cells ∧ slots ≤ R.slots) (kk : ∀ (r : Int) (u : va_W), post r u → AW p l e R s m args below meth c nL G A H0 cells slots Q (u ++ wr) lv (pc + 3) (.int (zI r) :: st)) : AW p l e R s m args below meth c nL G A H0 cells slots Q (wc ++ wr) lv pc (a1 :: .ref b :: st) := aw_callVi (As := [a1]) C hN hM cw hc hCn he rfl hcat hd hf kk
theorem cW2i {a1 : Value} {a2 : Value} {post : Int → va_W → Prop} (C : cx p l s m args meth c cc nL ret Ts own G A H0) (hN : NX s) (hM : Mi l G y ws9 rm [.ref b, a1, a2] wc post) (cw : CallW R s args own Cn index y bytes maxL rt ws9 rm 0 0 2) (hc : vwCl[ci]? = some rc) (hCn : rc.1 = Cn) (he : wc[q0]? = some (b, .inr (ci, fs))) (hcat : Nat.ble (st.map fun v => v.category).sum 8 = true) (hd : decode cc pc = .ok (.invokevirtual index, 3)) (hf : cells ≤ R.cells ∧ slots ≤ R.slots) (kk : ∀ (r : Int) (u : va_W), post r u → AW p l e R s m args below meth c nL G A H0 cells slots Q (u ++ wr) lv (pc + 3) (.int (zI r) :: st)) : AW p l e R s m args below meth c nL G A H0 cells slots Q (wc ++ wr) lv pc (a2 :: a1 :: .ref b :: st) := aw_callVi (As := [a1, a2]) C hN hM cw hc hCn he rfl hcat hd hf kk
theorem cW3i {a1 : Value} {a2 : Value} {a3 : Value} {post : Int → va_W → Prop} (C : cx p l s m args meth c cc nL ret Ts own G A H0) (hN : NX s) (hM : Mi l G y ws9 rm [.ref b, a1, a2, a3] wc post) (cw : CallW R s args own Cn index y bytes maxL rt ws9 rm 0 0 3) (hc : vwCl[ci]? = some rc) (hCn : rc.1 = Cn) (he : wc[q0]? = some (b, .inr (ci, fs))) (hcat : Nat.ble (st.map fun v => v.category).sum 8 = true) (hd : decode cc pc = .ok (.invokevirtual index, 3)) (hf : cells ≤ R.cells ∧ slots ≤ R.slots) (kk : ∀ (r : Int) (u : va_W), post r u → AW p l e R s m args below meth c nL G A H0 cells slots Q (u ++ wr) lv (pc + 3) (.int (zI r) :: st)) : AW p l e R s m args below meth c nL G A H0 cells slots Q (wc ++ wr) lv pc (a3 :: a2 :: a1 :: .ref b :: st) := aw_callVi (As := [a1, a2, a3]) C hN hM cw hc hCn he rfl hcat hd hf kk
theorem cW2v {a1 : Value} {a2 : Value} {post : va_W → Prop} (C : cx p l s m args meth c cc nL ret Ts own G A H0) (hN : NX s) (hM : Mv l G y ws9 rm [.ref b, a1, a2] wc post) (cw : CallW R s args own Cn index y bytes maxL rt ws9 rm 0 0 2) (hc : vwCl[ci]? = some rc) (hCn : rc.1 = Cn) (he : wc[q0]? = some (b, .inr (ci, fs))) (hcat : Nat.ble (st.map fun v => v.category).sum 8 = true) (hd : decode cc pc = .ok (.invokevirtual index, 3)) (hf : cells ≤ R.cells ∧ slots ≤ R.slots) (kk : ∀ (u : va_W), post u → AW p l e R s m args below meth c nL G A H0 cells slots Q (u ++ wr) lv (pc + 3) st) : AW p l e R s m args below meth c nL G A H0 cells slots Q (wc ++ wr) lv pc (a2 :: a1 :: .ref b :: st) := aw_callVv (As := [a1, a2]) C hN hM cw hc hCn he rfl hcat hd hf kk
end AWF
set_option maxHeartbeats 4000000 in
set_option maxRecDepth 100000 in
theorem law_begin {p : Program} {l : Launch} {e : Env} {s : State} {m : MethodId} {args : Array Value} {below : List Frame} {meth : Method} {c : Code} {G : va_G × (Nat → ClassId)} {A : Nat → Prop} {cells slots : Nat} {Q : State → Prop} {sa : Nat → Nat} {b L : Nat} {xs : Nat → Int32} {ad am : Nat → Nat} {o : Nat} {f : Nat → Int64} {S P PM : St} {i : Int} (C : cx p l s m args meth c cL_law 7 (some .boolean) wsL_law RL G A s.heap) (X : XL l s sa A b L xs) (hI : Inv2 S) (h0 : 0 ≤ i) (h4 : i + 4 ≤ (L : Int)) (hf : cells + 1 ≤ room_1.cells ∧ slots + 6 ≤ room_1.slots) (K : ∀ (S1 P1 PM1 : St) (f1 : Nat → Int64), Inv2 S1 → AW p l e room_1 s m args below meth c 7 G A s.heap (cells + 1) (slots + 6) Q ((WX G.2 ad S1 P1 ++ [oL G.2 o f1]) ++ WM G.2 am S1 PM1) [(0, .ref b), (1, .ref (ad 0)), (2, .ref (am 0)), (3, .ref o), (4, .int (zI i))] 1257 []) : AW p l e room_1 s m args below meth c 7 G A s.heap cells slots Q ((WX G.2 ad S P ++ [oL G.2 o f]) ++ WM G.2 am S PM) [(0, .ref b), (1, .ref (ad 0)), (2, .ref (am 0)), (3, .ref o), (4, .int (zI i))] 148 [] := by
  have hts := C.2.2.2.2.1
  have hN : NX s := X.2.1.1
  refine aw_aload_n C dL_law_148 rfl ?_
  refine aw_aload_n C dL_law_149 rfl ?_
  refine aw_iload C dL_law_150 rfl ?_
  refine aw_iconst C dL_law_152 ?_
  refine aw_iadd C dL_law_153 ?_
  refine aw_sld C X (by omega) (by omega) dL_law_154 ?_
  refine aw_aload_n C dL_law_155 rfl ?_
  refine aw_iload C dL_law_156 rfl ?_
  refine aw_iconst C dL_law_158 ?_
  refine aw_iadd C dL_law_159 ?_
  refine aw_sld C X (by omega) (by omega) dL_law_160 ?_
  refine aw_aload_n C dL_law_161 rfl ?_
  refine aw_iload C dL_law_162 rfl ?_
  refine aw_iconst C dL_law_164 ?_
  refine aw_iadd C dL_law_165 ?_
  refine aw_sld C X (by omega) (by omega) dL_law_166 ?_
  refine aw_aload_n C dL_law_167 rfl ?_
  refine aw_hs (As := [.ref (ad 0), .int (zI (xs (i + 1).toNat).toInt), .int (zI (xs (i + 2).toNat).toInt), .int (zI (xs (i + 3).toNat).toInt), .ref o]) C X (h_begin X.1 (zI_rng _) (zI_rng _) (zI_rng _)) (vx_cwSW 5 hts gL_law_L_begin rfl rfl rfl (by decide +kernel) ⟨Nat.le_of_ble_eq_true rfl, Nat.le_of_ble_eq_true rfl⟩) rfl rfl dL_law_168 hf (fun r u q => ?_)
  obtain ⟨rfl, S1, P9, f9, rfl, g1, g2⟩ := pH_get q
  have hk9 : 0 ≤ kBeg (xs (i + 1).toNat).toInt (xs (i + 2).toNat).toInt (xs (i + 3).toNat).toInt ∧ kBeg (xs (i + 1).toNat).toInt (xs (i + 2).toNat).toInt (xs (i + 3).toNat).toInt ≤ 3 := by unfold kBeg; (repeat' split) <;> omega
  refine aw_istore C dL_law_171 rfl rfl ?_
  refine aw_swap ?_
  refine aw_aload_n C dL_law_173 rfl ?_
  refine aw_aload_n C dL_law_174 rfl ?_
  refine aw_iload C dL_law_175 rfl ?_
  refine aw_iconst C dL_law_177 ?_
  refine aw_iadd C dL_law_178 ?_
  refine aw_sld C X (by omega) (by omega) dL_law_179 ?_
  refine aw_aload_n C dL_law_180 rfl ?_
  refine aw_iload C dL_law_181 rfl ?_
  refine aw_iconst C dL_law_183 ?_
  refine aw_iadd C dL_law_184 ?_
  refine aw_sld C X (by omega) (by omega) dL_law_185 ?_
  refine aw_aload_n C dL_law_186 rfl ?_
  refine aw_iload C dL_law_187 rfl ?_
  refine aw_iconst C dL_law_189 ?_
  refine aw_iadd C dL_law_190 ?_
  refine aw_sld C X (by omega) (by omega) dL_law_191 ?_
  refine cW3i (ci := 3) (q0 := 0) C hN (c_X3_begin (zI_rng _) (zI_rng _) (zI_rng _)) (by exact cwV 3 hts gL_law_X3_begin rfl rfl rfl (by decide +kernel) ⟨Nat.le_of_ble_eq_true rfl, Nat.le_of_ble_eq_true rfl⟩) rfl rfl rfl rfl dL_law_192 hf (fun r2 u2 q => ?_)
  obtain ⟨PM9, t1, rfl, t2⟩ := pM_get (fun x => (g1 x).1) g2 q
  refine aw_istore C dL_law_195 rfl rfl ?_
  have KT : AW p l e room_1 s m args below meth c 7 G A s.heap (cells + 1) (slots + 6) Q (WM G.2 am S1 PM9 ++ (WX G.2 ad S1 P9 ++ [oL G.2 o f9])) [(0, .ref b), (1, .ref (ad 0)), (2, .ref (am 0)), (3, .ref o), (4, .int (zI i)), (5, .int (zI (kBeg (xs (i + 1).toNat).toInt (xs (i + 2).toNat).toInt (xs (i + 3).toNat).toInt))), (6, .int (zI r2))] 225 [] := by
    refine aw_goto (tgt := 1257) C dL_law_225 (by decide) ?_
    refine aw_swap ?_
    exact aw_lsub (lv' := [(0, .ref b), (1, .ref (ad 0)), (2, .ref (am 0)), (3, .ref o), (4, .int (zI i))]) (fun q hq => List.mem_append_left ([(5, Value.int (zI (kBeg (xs (i + 1).toNat).toInt (xs (i + 2).toNat).toInt (xs (i + 3).toNat).toInt))), (6, Value.int (zI r2))] : List (Nat × Value)) hq) (K S1 P9 PM9 f9 (inv_if hI (fun x => inv_beg hI x) (fun x => (g1 x).1) g2))
  refine aw_aload_n C dL_law_197 rfl ?_
  refine cW0i (ci := 3) (q0 := 0) C hN c_X3_thrown (by exact cwV 0 hts gL_law_X3_thrown rfl rfl rfl (by decide +kernel) ⟨Nat.le_of_ble_eq_true rfl, Nat.le_of_ble_eq_true rfl⟩) rfl rfl rfl rfl dL_law_198 hf (fun r3 u3 q => ?_)
  obtain ⟨rfl, rfl⟩ := q
  rw [t1]
  refine aw_iload C dL_law_201 rfl ?_
  refine aw_same (tgt := 208) C dL_law_203 (by decide) ?_
  refine aw_iload C dL_law_208 rfl ?_
  refine aw_if_ne (tgt := 225) C dL_law_210 (by decide) (by omega) (fun _ => KT) (fun hz9 => ?_)
  refine aw_aload_n C dL_law_213 rfl ?_
  refine aw_iconst C dL_law_214 ?_
  refine aw_laload (q0 := 36) (f := f9) C rfl dL_law_215 ?_
  refine aw_iload C dL_law_216 rfl ?_
  refine aw_i2l C dL_law_218 ?_
  rw [(g1 hz9).2, t2 hz9]
  refine aw_lcmp C dL_law_219 ?_
  refine aw_if_eq (tgt := 225) C dL_law_220 (by decide) (by omega) (fun _ => ?_) (fun h => absurd rfl h)
  rw [t2 hz9] at KT
  exact KT
set_option maxHeartbeats 4000000 in
set_option maxRecDepth 100000 in
theorem law_setRules {p : Program} {l : Launch} {e : Env} {s : State} {m : MethodId} {args : Array Value} {below : List Frame} {meth : Method} {c : Code} {G : va_G × (Nat → ClassId)} {A : Nat → Prop} {cells slots : Nat} {Q : State → Prop} {sa : Nat → Nat} {b L : Nat} {xs : Nat → Int32} {ad am : Nat → Nat} {o : Nat} {f : Nat → Int64} {S P PM : St} {i : Int} (C : cx p l s m args meth c cL_law 7 (some .boolean) wsL_law RL G A s.heap) (X : XL l s sa A b L xs) (hI : Inv2 S) (h0 : 0 ≤ i) (h4 : i + 4 ≤ (L : Int)) (hf : cells + 1 ≤ room_1.cells ∧ slots + 6 ≤ room_1.slots) (K : ∀ (S1 P1 PM1 : St) (f1 : Nat → Int64), Inv2 S1 → AW p l e room_1 s m args below meth c 7 G A s.heap (cells + 1) (slots + 6) Q ((WX G.2 ad S1 P1 ++ [oL G.2 o f1]) ++ WM G.2 am S1 PM1) [(0, .ref b), (1, .ref (ad 0)), (2, .ref (am 0)), (3, .ref o), (4, .int (zI i))] 1257 []) : AW p l e room_1 s m args below meth c 7 G A s.heap cells slots Q ((WX G.2 ad S P ++ [oL G.2 o f]) ++ WM G.2 am S PM) [(0, .ref b), (1, .ref (ad 0)), (2, .ref (am 0)), (3, .ref o), (4, .int (zI i))] 228 [] := by
  have hts := C.2.2.2.2.1
  have hN : NX s := X.2.1.1
  refine aw_aload_n C dL_law_228 rfl ?_
  refine aw_aload_n C dL_law_229 rfl ?_
  refine aw_iload C dL_law_230 rfl ?_
  refine aw_iconst C dL_law_232 ?_
  refine aw_iadd C dL_law_233 ?_
  refine aw_sld C X (by omega) (by omega) dL_law_234 ?_
  refine aw_aload_n C dL_law_235 rfl ?_
  refine aw_iload C dL_law_236 rfl ?_
  refine aw_iconst C dL_law_238 ?_
  refine aw_iadd C dL_law_239 ?_
  refine aw_sld C X (by omega) (by omega) dL_law_240 ?_
  rw [List.append_assoc]
  refine aw_hs (As := [.ref (ad 0), .int (zI (xs (i + 1).toNat).toInt), .int (zI (xs (i + 2).toNat).toInt)]) C X (h_setRules X.1 (zI_rng _) (zI_rng _)) (vx_cwSW 3 hts gL_law_L_setRules rfl rfl rfl (by decide +kernel) ⟨Nat.le_of_ble_eq_true rfl, Nat.le_of_ble_eq_true rfl⟩) rfl rfl dL_law_241 hf (fun r u q => ?_)
  obtain ⟨rfl, S1, P9, rfl, g1, g2⟩ := pV_get q
  rw [← List.append_assoc]
  have hf9 : f = f := rfl
  have hk9 : 0 ≤ kSet (xs (i + 1).toNat).toInt (xs (i + 2).toNat).toInt ∧ kSet (xs (i + 1).toNat).toInt (xs (i + 2).toNat).toInt ≤ 3 := by unfold kSet; (repeat' split) <;> omega
  refine aw_istore C dL_law_244 rfl rfl ?_
  refine aw_swap ?_
  refine aw_aload_n C dL_law_246 rfl ?_
  refine aw_aload_n C dL_law_247 rfl ?_
  refine aw_iload C dL_law_248 rfl ?_
  refine aw_iconst C dL_law_250 ?_
  refine aw_iadd C dL_law_251 ?_
  refine aw_sld C X (by omega) (by omega) dL_law_252 ?_
  refine aw_aload_n C dL_law_253 rfl ?_
  refine aw_iload C dL_law_254 rfl ?_
  refine aw_iconst C dL_law_256 ?_
  refine aw_iadd C dL_law_257 ?_
  refine aw_sld C X (by omega) (by omega) dL_law_258 ?_
  refine cW2v (ci := 3) (q0 := 0) C hN (c_X3_setRules (zI_rng _) (zI_rng _)) (by exact cwV 2 hts gL_law_X3_setRules rfl rfl rfl (by decide +kernel) ⟨Nat.le_of_ble_eq_true rfl, Nat.le_of_ble_eq_true rfl⟩) rfl rfl rfl rfl dL_law_259 hf (fun u2 q => ?_)
  obtain ⟨PM9, t1, rfl⟩ := pMv_get g1 g2 q
  have KT : AW p l e room_1 s m args below meth c 7 G A s.heap (cells + 1) (slots + 6) Q (WM G.2 am S1 PM9 ++ (WX G.2 ad S1 P9 ++ [oL G.2 o f])) [(0, .ref b), (1, .ref (ad 0)), (2, .ref (am 0)), (3, .ref o), (4, .int (zI i)), (5, .int (zI (kSet (xs (i + 1).toNat).toInt (xs (i + 2).toNat).toInt)))] 273 [] := by
    refine aw_goto (tgt := 1257) C dL_law_273 (by decide) ?_
    refine aw_swap ?_
    exact aw_lsub (lv' := [(0, .ref b), (1, .ref (ad 0)), (2, .ref (am 0)), (3, .ref o), (4, .int (zI i))]) (fun q hq => List.mem_append_left ([(5, Value.int (zI (kSet (xs (i + 1).toNat).toInt (xs (i + 2).toNat).toInt)))] : List (Nat × Value)) hq) (K S1 P9 PM9 f (inv_if hI (fun x => iv_set hI x) g1 g2))
  refine aw_aload_n C dL_law_262 rfl ?_
  refine cW0i (ci := 3) (q0 := 0) C hN c_X3_thrown (by exact cwV 0 hts gL_law_X3_thrown rfl rfl rfl (by decide +kernel) ⟨Nat.le_of_ble_eq_true rfl, Nat.le_of_ble_eq_true rfl⟩) rfl rfl rfl rfl dL_law_263 hf (fun r3 u3 q => ?_)
  obtain ⟨rfl, rfl⟩ := q
  rw [t1]
  refine aw_iload C dL_law_266 rfl ?_
  refine aw_same (tgt := 273) C dL_law_268 (by decide) ?_
  exact KT
set_option maxHeartbeats 4000000 in
set_option maxRecDepth 100000 in
theorem law_arrive {p : Program} {l : Launch} {e : Env} {s : State} {m : MethodId} {args : Array Value} {below : List Frame} {meth : Method} {c : Code} {G : va_G × (Nat → ClassId)} {A : Nat → Prop} {cells slots : Nat} {Q : State → Prop} {sa : Nat → Nat} {b L : Nat} {xs : Nat → Int32} {ad am : Nat → Nat} {o : Nat} {f : Nat → Int64} {S P PM : St} {i : Int} (C : cx p l s m args meth c cL_law 7 (some .boolean) wsL_law RL G A s.heap) (X : XL l s sa A b L xs) (hI : Inv2 S) (h0 : 0 ≤ i) (h4 : i + 4 ≤ (L : Int)) (hf : cells + 1 ≤ room_1.cells ∧ slots + 6 ≤ room_1.slots) (K : ∀ (S1 P1 PM1 : St) (f1 : Nat → Int64), Inv2 S1 → AW p l e room_1 s m args below meth c 7 G A s.heap (cells + 1) (slots + 6) Q ((WX G.2 ad S1 P1 ++ [oL G.2 o f1]) ++ WM G.2 am S1 PM1) [(0, .ref b), (1, .ref (ad 0)), (2, .ref (am 0)), (3, .ref o), (4, .int (zI i))] 1257 []) : AW p l e room_1 s m args below meth c 7 G A s.heap cells slots Q ((WX G.2 ad S P ++ [oL G.2 o f]) ++ WM G.2 am S PM) [(0, .ref b), (1, .ref (ad 0)), (2, .ref (am 0)), (3, .ref o), (4, .int (zI i))] 276 [] := by
  have hts := C.2.2.2.2.1
  have hN : NX s := X.2.1.1
  refine aw_aload_n C dL_law_276 rfl ?_
  refine aw_aload_n C dL_law_277 rfl ?_
  refine aw_iload C dL_law_278 rfl ?_
  refine aw_iconst C dL_law_280 ?_
  refine aw_iadd C dL_law_281 ?_
  refine aw_sld C X (by omega) (by omega) dL_law_282 ?_
  refine aw_aload_n C dL_law_283 rfl ?_
  refine aw_hs (As := [.ref (ad 0), .int (zI (xs (i + 1).toNat).toInt), .ref o]) C X (h_arrive X.1 hI.1 (zI_rng _)) (vx_cwSW 3 hts gL_law_L_arrive rfl rfl rfl (by decide +kernel) ⟨Nat.le_of_ble_eq_true rfl, Nat.le_of_ble_eq_true rfl⟩) rfl rfl dL_law_284 hf (fun r u q => ?_)
  obtain ⟨rfl, S1, P9, f9, rfl, g1, g2⟩ := pH_get q
  have hk9 : 0 ≤ kArr S (xs (i + 1).toNat).toInt ∧ kArr S (xs (i + 1).toNat).toInt ≤ 3 := by unfold kArr; (repeat' split) <;> omega
  refine aw_istore C dL_law_287 rfl rfl ?_
  refine aw_swap ?_
  refine aw_aload_n C dL_law_289 rfl ?_
  refine aw_aload_n C dL_law_290 rfl ?_
  refine aw_iload C dL_law_291 rfl ?_
  refine aw_iconst C dL_law_293 ?_
  refine aw_iadd C dL_law_294 ?_
  refine aw_sld C X (by omega) (by omega) dL_law_295 ?_
  refine cW1i (ci := 3) (q0 := 0) C hN (c_X3_arrive hI.1 (zI_rng _)) (by exact cwV 1 hts gL_law_X3_arrive rfl rfl rfl (by decide +kernel) ⟨Nat.le_of_ble_eq_true rfl, Nat.le_of_ble_eq_true rfl⟩) rfl rfl rfl rfl dL_law_296 hf (fun r2 u2 q => ?_)
  obtain ⟨PM9, t1, rfl, t2⟩ := pM_get (fun x => (g1 x).1) g2 q
  refine aw_istore C dL_law_299 rfl rfl ?_
  have KT : AW p l e room_1 s m args below meth c 7 G A s.heap (cells + 1) (slots + 6) Q (WM G.2 am S1 PM9 ++ (WX G.2 ad S1 P9 ++ [oL G.2 o f9])) [(0, .ref b), (1, .ref (ad 0)), (2, .ref (am 0)), (3, .ref o), (4, .int (zI i)), (5, .int (zI (kArr S (xs (i + 1).toNat).toInt))), (6, .int (zI r2))] 329 [] := by
    refine aw_goto (tgt := 1257) C dL_law_329 (by decide) ?_
    refine aw_swap ?_
    exact aw_lsub (lv' := [(0, .ref b), (1, .ref (ad 0)), (2, .ref (am 0)), (3, .ref o), (4, .int (zI i))]) (fun q hq => List.mem_append_left ([(5, Value.int (zI (kArr S (xs (i + 1).toNat).toInt))), (6, Value.int (zI r2))] : List (Nat × Value)) hq) (K S1 P9 PM9 f9 (inv_if hI (fun x => iv_arr hI x) (fun x => (g1 x).1) g2))
  refine aw_aload_n C dL_law_301 rfl ?_
  refine cW0i (ci := 3) (q0 := 0) C hN c_X3_thrown (by exact cwV 0 hts gL_law_X3_thrown rfl rfl rfl (by decide +kernel) ⟨Nat.le_of_ble_eq_true rfl, Nat.le_of_ble_eq_true rfl⟩) rfl rfl rfl rfl dL_law_302 hf (fun r3 u3 q => ?_)
  obtain ⟨rfl, rfl⟩ := q
  rw [t1]
  refine aw_iload C dL_law_305 rfl ?_
  refine aw_same (tgt := 312) C dL_law_307 (by decide) ?_
  refine aw_iload C dL_law_312 rfl ?_
  refine aw_if_ne (tgt := 329) C dL_law_314 (by decide) (by omega) (fun _ => KT) (fun hz9 => ?_)
  refine aw_aload_n C dL_law_317 rfl ?_
  refine aw_iconst C dL_law_318 ?_
  refine aw_laload (q0 := 36) (f := f9) C rfl dL_law_319 ?_
  refine aw_iload C dL_law_320 rfl ?_
  refine aw_i2l C dL_law_322 ?_
  rw [(g1 hz9).2, t2 hz9]
  refine aw_lcmp C dL_law_323 ?_
  refine aw_if_eq (tgt := 329) C dL_law_324 (by decide) (by omega) (fun _ => ?_) (fun h => absurd rfl h)
  rw [t2 hz9] at KT
  exact KT
set_option maxHeartbeats 4000000 in
set_option maxRecDepth 100000 in
theorem law_arriveIn {p : Program} {l : Launch} {e : Env} {s : State} {m : MethodId} {args : Array Value} {below : List Frame} {meth : Method} {c : Code} {G : va_G × (Nat → ClassId)} {A : Nat → Prop} {cells slots : Nat} {Q : State → Prop} {sa : Nat → Nat} {b L : Nat} {xs : Nat → Int32} {ad am : Nat → Nat} {o : Nat} {f : Nat → Int64} {S P PM : St} {i : Int} (C : cx p l s m args meth c cL_law 7 (some .boolean) wsL_law RL G A s.heap) (X : XL l s sa A b L xs) (hI : Inv2 S) (h0 : 0 ≤ i) (h4 : i + 4 ≤ (L : Int)) (hf : cells + 1 ≤ room_1.cells ∧ slots + 6 ≤ room_1.slots) (K : ∀ (S1 P1 PM1 : St) (f1 : Nat → Int64), Inv2 S1 → AW p l e room_1 s m args below meth c 7 G A s.heap (cells + 1) (slots + 6) Q ((WX G.2 ad S1 P1 ++ [oL G.2 o f1]) ++ WM G.2 am S1 PM1) [(0, .ref b), (1, .ref (ad 0)), (2, .ref (am 0)), (3, .ref o), (4, .int (zI i))] 1257 []) : AW p l e room_1 s m args below meth c 7 G A s.heap cells slots Q ((WX G.2 ad S P ++ [oL G.2 o f]) ++ WM G.2 am S PM) [(0, .ref b), (1, .ref (ad 0)), (2, .ref (am 0)), (3, .ref o), (4, .int (zI i))] 332 [] := by
  have hts := C.2.2.2.2.1
  have hN : NX s := X.2.1.1
  refine aw_aload_n C dL_law_332 rfl ?_
  refine aw_aload_n C dL_law_333 rfl ?_
  refine aw_iload C dL_law_334 rfl ?_
  refine aw_iconst C dL_law_336 ?_
  refine aw_iadd C dL_law_337 ?_
  refine aw_sld C X (by omega) (by omega) dL_law_338 ?_
  refine aw_aload_n C dL_law_339 rfl ?_
  refine aw_iload C dL_law_340 rfl ?_
  refine aw_iconst C dL_law_342 ?_
  refine aw_iadd C dL_law_343 ?_
  refine aw_sld C X (by omega) (by omega) dL_law_344 ?_
  refine aw_aload_n C dL_law_345 rfl ?_
  refine aw_hs (As := [.ref (ad 0), .int (zI (xs (i + 1).toNat).toInt), .int (zI (xs (i + 2).toNat).toInt), .ref o]) C X (h_arriveIn X.1 hI.1 (zI_rng _) (zI_rng _)) (vx_cwSW 4 hts gL_law_L_arriveIn rfl rfl rfl (by decide +kernel) ⟨Nat.le_of_ble_eq_true rfl, Nat.le_of_ble_eq_true rfl⟩) rfl rfl dL_law_346 hf (fun r u q => ?_)
  obtain ⟨rfl, S1, P9, f9, rfl, g1, g2⟩ := pH_get q
  have hk9 : 0 ≤ kArI S (xs (i + 1).toNat).toInt (xs (i + 2).toNat).toInt ∧ kArI S (xs (i + 1).toNat).toInt (xs (i + 2).toNat).toInt ≤ 3 := by unfold kArI; (repeat' split) <;> omega
  refine aw_istore C dL_law_349 rfl rfl ?_
  refine aw_swap ?_
  refine aw_aload_n C dL_law_351 rfl ?_
  refine aw_aload_n C dL_law_352 rfl ?_
  refine aw_iload C dL_law_353 rfl ?_
  refine aw_iconst C dL_law_355 ?_
  refine aw_iadd C dL_law_356 ?_
  refine aw_sld C X (by omega) (by omega) dL_law_357 ?_
  refine aw_aload_n C dL_law_358 rfl ?_
  refine aw_iload C dL_law_359 rfl ?_
  refine aw_iconst C dL_law_361 ?_
  refine aw_iadd C dL_law_362 ?_
  refine aw_sld C X (by omega) (by omega) dL_law_363 ?_
  refine cW2i (ci := 3) (q0 := 0) C hN (c_X3_arriveIn hI.1 (zI_rng _) (zI_rng _)) (by exact cwV 2 hts gL_law_X3_arriveIn rfl rfl rfl (by decide +kernel) ⟨Nat.le_of_ble_eq_true rfl, Nat.le_of_ble_eq_true rfl⟩) rfl rfl rfl rfl dL_law_364 hf (fun r2 u2 q => ?_)
  obtain ⟨PM9, t1, rfl, t2⟩ := pM_get (fun x => (g1 x).1) g2 q
  refine aw_istore C dL_law_367 rfl rfl ?_
  have KT : AW p l e room_1 s m args below meth c 7 G A s.heap (cells + 1) (slots + 6) Q (WM G.2 am S1 PM9 ++ (WX G.2 ad S1 P9 ++ [oL G.2 o f9])) [(0, .ref b), (1, .ref (ad 0)), (2, .ref (am 0)), (3, .ref o), (4, .int (zI i)), (5, .int (zI (kArI S (xs (i + 1).toNat).toInt (xs (i + 2).toNat).toInt))), (6, .int (zI r2))] 397 [] := by
    refine aw_goto (tgt := 1257) C dL_law_397 (by decide) ?_
    refine aw_swap ?_
    exact aw_lsub (lv' := [(0, .ref b), (1, .ref (ad 0)), (2, .ref (am 0)), (3, .ref o), (4, .int (zI i))]) (fun q hq => List.mem_append_left ([(5, Value.int (zI (kArI S (xs (i + 1).toNat).toInt (xs (i + 2).toNat).toInt))), (6, Value.int (zI r2))] : List (Nat × Value)) hq) (K S1 P9 PM9 f9 (inv_if hI (fun x => iv_arI hI x) (fun x => (g1 x).1) g2))
  refine aw_aload_n C dL_law_369 rfl ?_
  refine cW0i (ci := 3) (q0 := 0) C hN c_X3_thrown (by exact cwV 0 hts gL_law_X3_thrown rfl rfl rfl (by decide +kernel) ⟨Nat.le_of_ble_eq_true rfl, Nat.le_of_ble_eq_true rfl⟩) rfl rfl rfl rfl dL_law_370 hf (fun r3 u3 q => ?_)
  obtain ⟨rfl, rfl⟩ := q
  rw [t1]
  refine aw_iload C dL_law_373 rfl ?_
  refine aw_same (tgt := 380) C dL_law_375 (by decide) ?_
  refine aw_iload C dL_law_380 rfl ?_
  refine aw_if_ne (tgt := 397) C dL_law_382 (by decide) (by omega) (fun _ => KT) (fun hz9 => ?_)
  refine aw_aload_n C dL_law_385 rfl ?_
  refine aw_iconst C dL_law_386 ?_
  refine aw_laload (q0 := 36) (f := f9) C rfl dL_law_387 ?_
  refine aw_iload C dL_law_388 rfl ?_
  refine aw_i2l C dL_law_390 ?_
  rw [(g1 hz9).2, t2 hz9]
  refine aw_lcmp C dL_law_391 ?_
  refine aw_if_eq (tgt := 397) C dL_law_392 (by decide) (by omega) (fun _ => ?_) (fun h => absurd rfl h)
  rw [t2 hz9] at KT
  exact KT
set_option maxHeartbeats 4000000 in
set_option maxRecDepth 100000 in
theorem law_release {p : Program} {l : Launch} {e : Env} {s : State} {m : MethodId} {args : Array Value} {below : List Frame} {meth : Method} {c : Code} {G : va_G × (Nat → ClassId)} {A : Nat → Prop} {cells slots : Nat} {Q : State → Prop} {sa : Nat → Nat} {b L : Nat} {xs : Nat → Int32} {ad am : Nat → Nat} {o : Nat} {f : Nat → Int64} {S P PM : St} {i : Int} (C : cx p l s m args meth c cL_law 7 (some .boolean) wsL_law RL G A s.heap) (X : XL l s sa A b L xs) (hI : Inv2 S) (h0 : 0 ≤ i) (h4 : i + 4 ≤ (L : Int)) (hf : cells + 1 ≤ room_1.cells ∧ slots + 6 ≤ room_1.slots) (K : ∀ (S1 P1 PM1 : St) (f1 : Nat → Int64), Inv2 S1 → AW p l e room_1 s m args below meth c 7 G A s.heap (cells + 1) (slots + 6) Q ((WX G.2 ad S1 P1 ++ [oL G.2 o f1]) ++ WM G.2 am S1 PM1) [(0, .ref b), (1, .ref (ad 0)), (2, .ref (am 0)), (3, .ref o), (4, .int (zI i))] 1257 []) : AW p l e room_1 s m args below meth c 7 G A s.heap cells slots Q ((WX G.2 ad S P ++ [oL G.2 o f]) ++ WM G.2 am S PM) [(0, .ref b), (1, .ref (ad 0)), (2, .ref (am 0)), (3, .ref o), (4, .int (zI i))] 400 [] := by
  have hts := C.2.2.2.2.1
  have hN : NX s := X.2.1.1
  refine aw_aload_n C dL_law_400 rfl ?_
  refine aw_aload_n C dL_law_401 rfl ?_
  refine aw_hs (As := [.ref (ad 0), .ref o]) C X (h_release X.1 hI.1 ) (vx_cwSW 2 hts gL_law_L_release rfl rfl rfl (by decide +kernel) ⟨Nat.le_of_ble_eq_true rfl, Nat.le_of_ble_eq_true rfl⟩) rfl rfl dL_law_402 hf (fun r u q => ?_)
  obtain ⟨rfl, S1, P9, f9, rfl, g1, g2⟩ := pH_get q
  have hk9 : 0 ≤ kRel S ∧ kRel S ≤ 3 := by unfold kRel; (repeat' split) <;> omega
  refine aw_istore C dL_law_405 rfl rfl ?_
  refine aw_swap ?_
  refine aw_aload_n C dL_law_407 rfl ?_
  refine cW0i (ci := 3) (q0 := 0) C hN (c_X3_release hI.1) (by exact cwV 0 hts gL_law_X3_release rfl rfl rfl (by decide +kernel) ⟨Nat.le_of_ble_eq_true rfl, Nat.le_of_ble_eq_true rfl⟩) rfl rfl rfl rfl dL_law_408 hf (fun r2 u2 q => ?_)
  obtain ⟨PM9, t1, rfl, t2⟩ := pM_get (fun x => (g1 x).1) g2 q
  refine aw_istore C dL_law_411 rfl rfl ?_
  have KT : AW p l e room_1 s m args below meth c 7 G A s.heap (cells + 1) (slots + 6) Q (WM G.2 am S1 PM9 ++ (WX G.2 ad S1 P9 ++ [oL G.2 o f9])) [(0, .ref b), (1, .ref (ad 0)), (2, .ref (am 0)), (3, .ref o), (4, .int (zI i)), (5, .int (zI (kRel S))), (6, .int (zI r2))] 441 [] := by
    refine aw_goto (tgt := 1257) C dL_law_441 (by decide) ?_
    refine aw_swap ?_
    exact aw_lsub (lv' := [(0, .ref b), (1, .ref (ad 0)), (2, .ref (am 0)), (3, .ref o), (4, .int (zI i))]) (fun q hq => List.mem_append_left ([(5, Value.int (zI (kRel S))), (6, Value.int (zI r2))] : List (Nat × Value)) hq) (K S1 P9 PM9 f9 (inv_if hI (fun x => iv_rel hI x) (fun x => (g1 x).1) g2))
  refine aw_aload_n C dL_law_413 rfl ?_
  refine cW0i (ci := 3) (q0 := 0) C hN c_X3_thrown (by exact cwV 0 hts gL_law_X3_thrown rfl rfl rfl (by decide +kernel) ⟨Nat.le_of_ble_eq_true rfl, Nat.le_of_ble_eq_true rfl⟩) rfl rfl rfl rfl dL_law_414 hf (fun r3 u3 q => ?_)
  obtain ⟨rfl, rfl⟩ := q
  rw [t1]
  refine aw_iload C dL_law_417 rfl ?_
  refine aw_same (tgt := 424) C dL_law_419 (by decide) ?_
  refine aw_iload C dL_law_424 rfl ?_
  refine aw_if_ne (tgt := 441) C dL_law_426 (by decide) (by omega) (fun _ => KT) (fun hz9 => ?_)
  refine aw_aload_n C dL_law_429 rfl ?_
  refine aw_iconst C dL_law_430 ?_
  refine aw_laload (q0 := 36) (f := f9) C rfl dL_law_431 ?_
  refine aw_iload C dL_law_432 rfl ?_
  refine aw_i2l C dL_law_434 ?_
  rw [(g1 hz9).2, t2 hz9]
  refine aw_lcmp C dL_law_435 ?_
  refine aw_if_eq (tgt := 441) C dL_law_436 (by decide) (by omega) (fun _ => ?_) (fun h => absurd rfl h)
  rw [t2 hz9] at KT
  exact KT
set_option maxHeartbeats 4000000 in
set_option maxRecDepth 100000 in
theorem law_releaseFrom {p : Program} {l : Launch} {e : Env} {s : State} {m : MethodId} {args : Array Value} {below : List Frame} {meth : Method} {c : Code} {G : va_G × (Nat → ClassId)} {A : Nat → Prop} {cells slots : Nat} {Q : State → Prop} {sa : Nat → Nat} {b L : Nat} {xs : Nat → Int32} {ad am : Nat → Nat} {o : Nat} {f : Nat → Int64} {S P PM : St} {i : Int} (C : cx p l s m args meth c cL_law 7 (some .boolean) wsL_law RL G A s.heap) (X : XL l s sa A b L xs) (hI : Inv2 S) (h0 : 0 ≤ i) (h4 : i + 4 ≤ (L : Int)) (hf : cells + 1 ≤ room_1.cells ∧ slots + 6 ≤ room_1.slots) (K : ∀ (S1 P1 PM1 : St) (f1 : Nat → Int64), Inv2 S1 → AW p l e room_1 s m args below meth c 7 G A s.heap (cells + 1) (slots + 6) Q ((WX G.2 ad S1 P1 ++ [oL G.2 o f1]) ++ WM G.2 am S1 PM1) [(0, .ref b), (1, .ref (ad 0)), (2, .ref (am 0)), (3, .ref o), (4, .int (zI i))] 1257 []) : AW p l e room_1 s m args below meth c 7 G A s.heap cells slots Q ((WX G.2 ad S P ++ [oL G.2 o f]) ++ WM G.2 am S PM) [(0, .ref b), (1, .ref (ad 0)), (2, .ref (am 0)), (3, .ref o), (4, .int (zI i))] 444 [] := by
  have hts := C.2.2.2.2.1
  have hN : NX s := X.2.1.1
  refine aw_aload_n C dL_law_444 rfl ?_
  refine aw_aload_n C dL_law_445 rfl ?_
  refine aw_iload C dL_law_446 rfl ?_
  refine aw_iconst C dL_law_448 ?_
  refine aw_iadd C dL_law_449 ?_
  refine aw_sld C X (by omega) (by omega) dL_law_450 ?_
  refine aw_aload_n C dL_law_451 rfl ?_
  refine aw_hs (As := [.ref (ad 0), .int (zI (xs (i + 1).toNat).toInt), .ref o]) C X (h_releaseFrom X.1 hI.1 (zI_rng _)) (vx_cwSW 3 hts gL_law_L_releaseFrom rfl rfl rfl (by decide +kernel) ⟨Nat.le_of_ble_eq_true rfl, Nat.le_of_ble_eq_true rfl⟩) rfl rfl dL_law_452 hf (fun r u q => ?_)
  obtain ⟨rfl, S1, P9, f9, rfl, g1, g2⟩ := pH_get q
  have hk9 : 0 ≤ kReF S (xs (i + 1).toNat).toInt ∧ kReF S (xs (i + 1).toNat).toInt ≤ 3 := by unfold kReF; (repeat' split) <;> omega
  refine aw_istore C dL_law_455 rfl rfl ?_
  refine aw_swap ?_
  refine aw_aload_n C dL_law_457 rfl ?_
  refine aw_aload_n C dL_law_458 rfl ?_
  refine aw_iload C dL_law_459 rfl ?_
  refine aw_iconst C dL_law_461 ?_
  refine aw_iadd C dL_law_462 ?_
  refine aw_sld C X (by omega) (by omega) dL_law_463 ?_
  refine cW1i (ci := 3) (q0 := 0) C hN (c_X3_releaseFrom hI.1 (zI_rng _)) (by exact cwV 1 hts gL_law_X3_releaseFrom rfl rfl rfl (by decide +kernel) ⟨Nat.le_of_ble_eq_true rfl, Nat.le_of_ble_eq_true rfl⟩) rfl rfl rfl rfl dL_law_464 hf (fun r2 u2 q => ?_)
  obtain ⟨PM9, t1, rfl, t2⟩ := pM_get (fun x => (g1 x).1) g2 q
  refine aw_istore C dL_law_467 rfl rfl ?_
  have KT : AW p l e room_1 s m args below meth c 7 G A s.heap (cells + 1) (slots + 6) Q (WM G.2 am S1 PM9 ++ (WX G.2 ad S1 P9 ++ [oL G.2 o f9])) [(0, .ref b), (1, .ref (ad 0)), (2, .ref (am 0)), (3, .ref o), (4, .int (zI i)), (5, .int (zI (kReF S (xs (i + 1).toNat).toInt))), (6, .int (zI r2))] 497 [] := by
    refine aw_goto (tgt := 1257) C dL_law_497 (by decide) ?_
    refine aw_swap ?_
    exact aw_lsub (lv' := [(0, .ref b), (1, .ref (ad 0)), (2, .ref (am 0)), (3, .ref o), (4, .int (zI i))]) (fun q hq => List.mem_append_left ([(5, Value.int (zI (kReF S (xs (i + 1).toNat).toInt))), (6, Value.int (zI r2))] : List (Nat × Value)) hq) (K S1 P9 PM9 f9 (inv_if hI (fun x => iv_reF hI x) (fun x => (g1 x).1) g2))
  refine aw_aload_n C dL_law_469 rfl ?_
  refine cW0i (ci := 3) (q0 := 0) C hN c_X3_thrown (by exact cwV 0 hts gL_law_X3_thrown rfl rfl rfl (by decide +kernel) ⟨Nat.le_of_ble_eq_true rfl, Nat.le_of_ble_eq_true rfl⟩) rfl rfl rfl rfl dL_law_470 hf (fun r3 u3 q => ?_)
  obtain ⟨rfl, rfl⟩ := q
  rw [t1]
  refine aw_iload C dL_law_473 rfl ?_
  refine aw_same (tgt := 480) C dL_law_475 (by decide) ?_
  refine aw_iload C dL_law_480 rfl ?_
  refine aw_if_ne (tgt := 497) C dL_law_482 (by decide) (by omega) (fun _ => KT) (fun hz9 => ?_)
  refine aw_aload_n C dL_law_485 rfl ?_
  refine aw_iconst C dL_law_486 ?_
  refine aw_laload (q0 := 36) (f := f9) C rfl dL_law_487 ?_
  refine aw_iload C dL_law_488 rfl ?_
  refine aw_i2l C dL_law_490 ?_
  rw [(g1 hz9).2, t2 hz9]
  refine aw_lcmp C dL_law_491 ?_
  refine aw_if_eq (tgt := 497) C dL_law_492 (by decide) (by omega) (fun _ => ?_) (fun h => absurd rfl h)
  rw [t2 hz9] at KT
  exact KT
set_option maxHeartbeats 4000000 in
set_option maxRecDepth 100000 in
theorem law_releaseBest {p : Program} {l : Launch} {e : Env} {s : State} {m : MethodId} {args : Array Value} {below : List Frame} {meth : Method} {c : Code} {G : va_G × (Nat → ClassId)} {A : Nat → Prop} {cells slots : Nat} {Q : State → Prop} {sa : Nat → Nat} {b L : Nat} {xs : Nat → Int32} {ad am : Nat → Nat} {o : Nat} {f : Nat → Int64} {S P PM : St} {i : Int} (C : cx p l s m args meth c cL_law 7 (some .boolean) wsL_law RL G A s.heap) (X : XL l s sa A b L xs) (hI : Inv2 S) (h0 : 0 ≤ i) (h4 : i + 4 ≤ (L : Int)) (hf : cells + 1 ≤ room_1.cells ∧ slots + 6 ≤ room_1.slots) (K : ∀ (S1 P1 PM1 : St) (f1 : Nat → Int64), Inv2 S1 → AW p l e room_1 s m args below meth c 7 G A s.heap (cells + 1) (slots + 6) Q ((WX G.2 ad S1 P1 ++ [oL G.2 o f1]) ++ WM G.2 am S1 PM1) [(0, .ref b), (1, .ref (ad 0)), (2, .ref (am 0)), (3, .ref o), (4, .int (zI i))] 1257 []) : AW p l e room_1 s m args below meth c 7 G A s.heap cells slots Q ((WX G.2 ad S P ++ [oL G.2 o f]) ++ WM G.2 am S PM) [(0, .ref b), (1, .ref (ad 0)), (2, .ref (am 0)), (3, .ref o), (4, .int (zI i))] 500 [] := by
  have hts := C.2.2.2.2.1
  have hN : NX s := X.2.1.1
  refine aw_aload_n C dL_law_500 rfl ?_
  refine aw_aload_n C dL_law_501 rfl ?_
  refine aw_hs (As := [.ref (ad 0), .ref o]) C X (h_releaseBest X.1 hI.1 ) (vx_cwSW 2 hts gL_law_L_releaseBest rfl rfl rfl (by decide +kernel) ⟨Nat.le_of_ble_eq_true rfl, Nat.le_of_ble_eq_true rfl⟩) rfl rfl dL_law_502 hf (fun r u q => ?_)
  obtain ⟨rfl, S1, P9, f9, rfl, g1, g2⟩ := pH_get q
  have hk9 : 0 ≤ kReB S ∧ kReB S ≤ 3 := by unfold kReB; (repeat' split) <;> omega
  refine aw_istore C dL_law_505 rfl rfl ?_
  refine aw_swap ?_
  refine aw_aload_n C dL_law_507 rfl ?_
  refine cW0i (ci := 3) (q0 := 0) C hN (c_X3_releaseBest hI.1) (by exact cwV 0 hts gL_law_X3_releaseBest rfl rfl rfl (by decide +kernel) ⟨Nat.le_of_ble_eq_true rfl, Nat.le_of_ble_eq_true rfl⟩) rfl rfl rfl rfl dL_law_508 hf (fun r2 u2 q => ?_)
  obtain ⟨PM9, t1, rfl, t2⟩ := pM_get (fun x => (g1 x).1) g2 q
  refine aw_istore C dL_law_511 rfl rfl ?_
  have KT : AW p l e room_1 s m args below meth c 7 G A s.heap (cells + 1) (slots + 6) Q (WM G.2 am S1 PM9 ++ (WX G.2 ad S1 P9 ++ [oL G.2 o f9])) [(0, .ref b), (1, .ref (ad 0)), (2, .ref (am 0)), (3, .ref o), (4, .int (zI i)), (5, .int (zI (kReB S))), (6, .int (zI r2))] 541 [] := by
    refine aw_goto (tgt := 1257) C dL_law_541 (by decide) ?_
    refine aw_swap ?_
    exact aw_lsub (lv' := [(0, .ref b), (1, .ref (ad 0)), (2, .ref (am 0)), (3, .ref o), (4, .int (zI i))]) (fun q hq => List.mem_append_left ([(5, Value.int (zI (kReB S))), (6, Value.int (zI r2))] : List (Nat × Value)) hq) (K S1 P9 PM9 f9 (inv_if hI (fun x => iv_reB hI x) (fun x => (g1 x).1) g2))
  refine aw_aload_n C dL_law_513 rfl ?_
  refine cW0i (ci := 3) (q0 := 0) C hN c_X3_thrown (by exact cwV 0 hts gL_law_X3_thrown rfl rfl rfl (by decide +kernel) ⟨Nat.le_of_ble_eq_true rfl, Nat.le_of_ble_eq_true rfl⟩) rfl rfl rfl rfl dL_law_514 hf (fun r3 u3 q => ?_)
  obtain ⟨rfl, rfl⟩ := q
  rw [t1]
  refine aw_iload C dL_law_517 rfl ?_
  refine aw_same (tgt := 524) C dL_law_519 (by decide) ?_
  refine aw_iload C dL_law_524 rfl ?_
  refine aw_if_ne (tgt := 541) C dL_law_526 (by decide) (by omega) (fun _ => KT) (fun hz9 => ?_)
  refine aw_aload_n C dL_law_529 rfl ?_
  refine aw_iconst C dL_law_530 ?_
  refine aw_laload (q0 := 36) (f := f9) C rfl dL_law_531 ?_
  refine aw_iload C dL_law_532 rfl ?_
  refine aw_i2l C dL_law_534 ?_
  rw [(g1 hz9).2, t2 hz9]
  refine aw_lcmp C dL_law_535 ?_
  refine aw_if_eq (tgt := 541) C dL_law_536 (by decide) (by omega) (fun _ => ?_) (fun h => absurd rfl h)
  rw [t2 hz9] at KT
  exact KT
set_option maxHeartbeats 4000000 in
set_option maxRecDepth 100000 in
theorem law_sendBack {p : Program} {l : Launch} {e : Env} {s : State} {m : MethodId} {args : Array Value} {below : List Frame} {meth : Method} {c : Code} {G : va_G × (Nat → ClassId)} {A : Nat → Prop} {cells slots : Nat} {Q : State → Prop} {sa : Nat → Nat} {b L : Nat} {xs : Nat → Int32} {ad am : Nat → Nat} {o : Nat} {f : Nat → Int64} {S P PM : St} {i : Int} (C : cx p l s m args meth c cL_law 7 (some .boolean) wsL_law RL G A s.heap) (X : XL l s sa A b L xs) (hI : Inv2 S) (h0 : 0 ≤ i) (h4 : i + 4 ≤ (L : Int)) (hf : cells + 1 ≤ room_1.cells ∧ slots + 6 ≤ room_1.slots) (K : ∀ (S1 P1 PM1 : St) (f1 : Nat → Int64), Inv2 S1 → AW p l e room_1 s m args below meth c 7 G A s.heap (cells + 1) (slots + 6) Q ((WX G.2 ad S1 P1 ++ [oL G.2 o f1]) ++ WM G.2 am S1 PM1) [(0, .ref b), (1, .ref (ad 0)), (2, .ref (am 0)), (3, .ref o), (4, .int (zI i))] 1257 []) : AW p l e room_1 s m args below meth c 7 G A s.heap cells slots Q ((WX G.2 ad S P ++ [oL G.2 o f]) ++ WM G.2 am S PM) [(0, .ref b), (1, .ref (ad 0)), (2, .ref (am 0)), (3, .ref o), (4, .int (zI i))] 544 [] := by
  have hts := C.2.2.2.2.1
  have hN : NX s := X.2.1.1
  refine aw_aload_n C dL_law_544 rfl ?_
  refine aw_aload_n C dL_law_545 rfl ?_
  refine aw_iload C dL_law_546 rfl ?_
  refine aw_iconst C dL_law_548 ?_
  refine aw_iadd C dL_law_549 ?_
  refine aw_sld C X (by omega) (by omega) dL_law_550 ?_
  refine aw_aload_n C dL_law_551 rfl ?_
  refine aw_hs (As := [.ref (ad 0), .int (zI (xs (i + 1).toNat).toInt), .ref o]) C X (h_sendBack X.1 hI.1 (zI_rng _)) (vx_cwSW 3 hts gL_law_L_sendBack rfl rfl rfl (by decide +kernel) ⟨Nat.le_of_ble_eq_true rfl, Nat.le_of_ble_eq_true rfl⟩) rfl rfl dL_law_552 hf (fun r u q => ?_)
  obtain ⟨rfl, S1, P9, f9, rfl, g1, g2⟩ := pH_get q
  have hk9 : 0 ≤ kSeB S (xs (i + 1).toNat).toInt ∧ kSeB S (xs (i + 1).toNat).toInt ≤ 3 := by unfold kSeB; (repeat' split) <;> omega
  refine aw_istore C dL_law_555 rfl rfl ?_
  refine aw_swap ?_
  refine aw_aload_n C dL_law_557 rfl ?_
  refine aw_aload_n C dL_law_558 rfl ?_
  refine aw_iload C dL_law_559 rfl ?_
  refine aw_iconst C dL_law_561 ?_
  refine aw_iadd C dL_law_562 ?_
  refine aw_sld C X (by omega) (by omega) dL_law_563 ?_
  refine cW1i (ci := 3) (q0 := 0) C hN (c_X3_sendBack hI.1 (zI_rng _)) (by exact cwV 1 hts gL_law_X3_sendBack rfl rfl rfl (by decide +kernel) ⟨Nat.le_of_ble_eq_true rfl, Nat.le_of_ble_eq_true rfl⟩) rfl rfl rfl rfl dL_law_564 hf (fun r2 u2 q => ?_)
  obtain ⟨PM9, t1, rfl, t2⟩ := pM_get (fun x => (g1 x).1) g2 q
  refine aw_istore C dL_law_567 rfl rfl ?_
  have KT : AW p l e room_1 s m args below meth c 7 G A s.heap (cells + 1) (slots + 6) Q (WM G.2 am S1 PM9 ++ (WX G.2 ad S1 P9 ++ [oL G.2 o f9])) [(0, .ref b), (1, .ref (ad 0)), (2, .ref (am 0)), (3, .ref o), (4, .int (zI i)), (5, .int (zI (kSeB S (xs (i + 1).toNat).toInt))), (6, .int (zI r2))] 597 [] := by
    refine aw_goto (tgt := 1257) C dL_law_597 (by decide) ?_
    refine aw_swap ?_
    exact aw_lsub (lv' := [(0, .ref b), (1, .ref (ad 0)), (2, .ref (am 0)), (3, .ref o), (4, .int (zI i))]) (fun q hq => List.mem_append_left ([(5, Value.int (zI (kSeB S (xs (i + 1).toNat).toInt))), (6, Value.int (zI r2))] : List (Nat × Value)) hq) (K S1 P9 PM9 f9 (inv_if hI (fun x => iv_seB hI x) (fun x => (g1 x).1) g2))
  refine aw_aload_n C dL_law_569 rfl ?_
  refine cW0i (ci := 3) (q0 := 0) C hN c_X3_thrown (by exact cwV 0 hts gL_law_X3_thrown rfl rfl rfl (by decide +kernel) ⟨Nat.le_of_ble_eq_true rfl, Nat.le_of_ble_eq_true rfl⟩) rfl rfl rfl rfl dL_law_570 hf (fun r3 u3 q => ?_)
  obtain ⟨rfl, rfl⟩ := q
  rw [t1]
  refine aw_iload C dL_law_573 rfl ?_
  refine aw_same (tgt := 580) C dL_law_575 (by decide) ?_
  refine aw_iload C dL_law_580 rfl ?_
  refine aw_if_ne (tgt := 597) C dL_law_582 (by decide) (by omega) (fun _ => KT) (fun hz9 => ?_)
  refine aw_aload_n C dL_law_585 rfl ?_
  refine aw_iconst C dL_law_586 ?_
  refine aw_laload (q0 := 36) (f := f9) C rfl dL_law_587 ?_
  refine aw_iload C dL_law_588 rfl ?_
  refine aw_i2l C dL_law_590 ?_
  rw [(g1 hz9).2, t2 hz9]
  refine aw_lcmp C dL_law_591 ?_
  refine aw_if_eq (tgt := 597) C dL_law_592 (by decide) (by omega) (fun _ => ?_) (fun h => absurd rfl h)
  rw [t2 hz9] at KT
  exact KT
set_option maxHeartbeats 4000000 in
set_option maxRecDepth 100000 in
theorem law_reenter {p : Program} {l : Launch} {e : Env} {s : State} {m : MethodId} {args : Array Value} {below : List Frame} {meth : Method} {c : Code} {G : va_G × (Nat → ClassId)} {A : Nat → Prop} {cells slots : Nat} {Q : State → Prop} {sa : Nat → Nat} {b L : Nat} {xs : Nat → Int32} {ad am : Nat → Nat} {o : Nat} {f : Nat → Int64} {S P PM : St} {i : Int} (C : cx p l s m args meth c cL_law 7 (some .boolean) wsL_law RL G A s.heap) (X : XL l s sa A b L xs) (hI : Inv2 S) (h0 : 0 ≤ i) (h4 : i + 4 ≤ (L : Int)) (hf : cells + 1 ≤ room_1.cells ∧ slots + 6 ≤ room_1.slots) (K : ∀ (S1 P1 PM1 : St) (f1 : Nat → Int64), Inv2 S1 → AW p l e room_1 s m args below meth c 7 G A s.heap (cells + 1) (slots + 6) Q ((WX G.2 ad S1 P1 ++ [oL G.2 o f1]) ++ WM G.2 am S1 PM1) [(0, .ref b), (1, .ref (ad 0)), (2, .ref (am 0)), (3, .ref o), (4, .int (zI i))] 1257 []) : AW p l e room_1 s m args below meth c 7 G A s.heap cells slots Q ((WX G.2 ad S P ++ [oL G.2 o f]) ++ WM G.2 am S PM) [(0, .ref b), (1, .ref (ad 0)), (2, .ref (am 0)), (3, .ref o), (4, .int (zI i))] 600 [] := by
  have hts := C.2.2.2.2.1
  have hN : NX s := X.2.1.1
  refine aw_aload_n C dL_law_600 rfl ?_
  refine aw_aload_n C dL_law_601 rfl ?_
  refine aw_iload C dL_law_602 rfl ?_
  refine aw_iconst C dL_law_604 ?_
  refine aw_iadd C dL_law_605 ?_
  refine aw_sld C X (by omega) (by omega) dL_law_606 ?_
  refine aw_aload_n C dL_law_607 rfl ?_
  refine aw_hs (As := [.ref (ad 0), .int (zI (xs (i + 1).toNat).toInt), .ref o]) C X (h_reenter X.1 hI.1 (zI_rng _)) (vx_cwSW 3 hts gL_law_L_reenter rfl rfl rfl (by decide +kernel) ⟨Nat.le_of_ble_eq_true rfl, Nat.le_of_ble_eq_true rfl⟩) rfl rfl dL_law_608 hf (fun r u q => ?_)
  obtain ⟨rfl, S1, P9, f9, rfl, g1, g2⟩ := pH_get q
  have hk9 : 0 ≤ kRee S (xs (i + 1).toNat).toInt ∧ kRee S (xs (i + 1).toNat).toInt ≤ 3 := by unfold kRee; (repeat' split) <;> omega
  refine aw_istore C dL_law_611 rfl rfl ?_
  refine aw_swap ?_
  refine aw_aload_n C dL_law_613 rfl ?_
  refine aw_aload_n C dL_law_614 rfl ?_
  refine aw_iload C dL_law_615 rfl ?_
  refine aw_iconst C dL_law_617 ?_
  refine aw_iadd C dL_law_618 ?_
  refine aw_sld C X (by omega) (by omega) dL_law_619 ?_
  refine cW1i (ci := 3) (q0 := 0) C hN (c_X3_reenter hI.1 (zI_rng _)) (by exact cwV 1 hts gL_law_X3_reenter rfl rfl rfl (by decide +kernel) ⟨Nat.le_of_ble_eq_true rfl, Nat.le_of_ble_eq_true rfl⟩) rfl rfl rfl rfl dL_law_620 hf (fun r2 u2 q => ?_)
  obtain ⟨PM9, t1, rfl, t2⟩ := pM_get (fun x => (g1 x).1) g2 q
  refine aw_istore C dL_law_623 rfl rfl ?_
  have KT : AW p l e room_1 s m args below meth c 7 G A s.heap (cells + 1) (slots + 6) Q (WM G.2 am S1 PM9 ++ (WX G.2 ad S1 P9 ++ [oL G.2 o f9])) [(0, .ref b), (1, .ref (ad 0)), (2, .ref (am 0)), (3, .ref o), (4, .int (zI i)), (5, .int (zI (kRee S (xs (i + 1).toNat).toInt))), (6, .int (zI r2))] 653 [] := by
    refine aw_goto (tgt := 1257) C dL_law_653 (by decide) ?_
    refine aw_swap ?_
    exact aw_lsub (lv' := [(0, .ref b), (1, .ref (ad 0)), (2, .ref (am 0)), (3, .ref o), (4, .int (zI i))]) (fun q hq => List.mem_append_left ([(5, Value.int (zI (kRee S (xs (i + 1).toNat).toInt))), (6, Value.int (zI r2))] : List (Nat × Value)) hq) (K S1 P9 PM9 f9 (inv_if hI (fun x => iv_ree hI x) (fun x => (g1 x).1) g2))
  refine aw_aload_n C dL_law_625 rfl ?_
  refine cW0i (ci := 3) (q0 := 0) C hN c_X3_thrown (by exact cwV 0 hts gL_law_X3_thrown rfl rfl rfl (by decide +kernel) ⟨Nat.le_of_ble_eq_true rfl, Nat.le_of_ble_eq_true rfl⟩) rfl rfl rfl rfl dL_law_626 hf (fun r3 u3 q => ?_)
  obtain ⟨rfl, rfl⟩ := q
  rw [t1]
  refine aw_iload C dL_law_629 rfl ?_
  refine aw_same (tgt := 636) C dL_law_631 (by decide) ?_
  refine aw_iload C dL_law_636 rfl ?_
  refine aw_if_ne (tgt := 653) C dL_law_638 (by decide) (by omega) (fun _ => KT) (fun hz9 => ?_)
  refine aw_aload_n C dL_law_641 rfl ?_
  refine aw_iconst C dL_law_642 ?_
  refine aw_laload (q0 := 36) (f := f9) C rfl dL_law_643 ?_
  refine aw_iload C dL_law_644 rfl ?_
  refine aw_i2l C dL_law_646 ?_
  rw [(g1 hz9).2, t2 hz9]
  refine aw_lcmp C dL_law_647 ?_
  refine aw_if_eq (tgt := 653) C dL_law_648 (by decide) (by omega) (fun _ => ?_) (fun h => absurd rfl h)
  rw [t2 hz9] at KT
  exact KT
set_option maxHeartbeats 4000000 in
set_option maxRecDepth 100000 in
theorem law_assemble {p : Program} {l : Launch} {e : Env} {s : State} {m : MethodId} {args : Array Value} {below : List Frame} {meth : Method} {c : Code} {G : va_G × (Nat → ClassId)} {A : Nat → Prop} {cells slots : Nat} {Q : State → Prop} {sa : Nat → Nat} {b L : Nat} {xs : Nat → Int32} {ad am : Nat → Nat} {o : Nat} {f : Nat → Int64} {S P PM : St} {i : Int} (C : cx p l s m args meth c cL_law 7 (some .boolean) wsL_law RL G A s.heap) (X : XL l s sa A b L xs) (hI : Inv2 S) (h0 : 0 ≤ i) (h4 : i + 4 ≤ (L : Int)) (hf : cells + 1 ≤ room_1.cells ∧ slots + 6 ≤ room_1.slots) (K : ∀ (S1 P1 PM1 : St) (f1 : Nat → Int64), Inv2 S1 → AW p l e room_1 s m args below meth c 7 G A s.heap (cells + 1) (slots + 6) Q ((WX G.2 ad S1 P1 ++ [oL G.2 o f1]) ++ WM G.2 am S1 PM1) [(0, .ref b), (1, .ref (ad 0)), (2, .ref (am 0)), (3, .ref o), (4, .int (zI i))] 1257 []) : AW p l e room_1 s m args below meth c 7 G A s.heap cells slots Q ((WX G.2 ad S P ++ [oL G.2 o f]) ++ WM G.2 am S PM) [(0, .ref b), (1, .ref (ad 0)), (2, .ref (am 0)), (3, .ref o), (4, .int (zI i))] 656 [] := by
  have hts := C.2.2.2.2.1
  have hN : NX s := X.2.1.1
  refine aw_aload_n C dL_law_656 rfl ?_
  refine aw_aload_n C dL_law_657 rfl ?_
  refine aw_hs (As := [.ref (ad 0), .ref o]) C X (h_assemble X.1 hI.1 ) (vx_cwSW 2 hts gL_law_L_assemble rfl rfl rfl (by decide +kernel) ⟨Nat.le_of_ble_eq_true rfl, Nat.le_of_ble_eq_true rfl⟩) rfl rfl dL_law_658 hf (fun r u q => ?_)
  obtain ⟨rfl, S1, P9, f9, rfl, g1, g2⟩ := pH_get q
  have hk9 : 0 ≤ kAsm S ∧ kAsm S ≤ 3 := by unfold kAsm; (repeat' split) <;> omega
  refine aw_istore C dL_law_661 rfl rfl ?_
  refine aw_swap ?_
  refine aw_aload_n C dL_law_663 rfl ?_
  refine cW0i (ci := 3) (q0 := 0) C hN (c_X3_assemble hI.1) (by exact cwV 0 hts gL_law_X3_assemble rfl rfl rfl (by decide +kernel) ⟨Nat.le_of_ble_eq_true rfl, Nat.le_of_ble_eq_true rfl⟩) rfl rfl rfl rfl dL_law_664 hf (fun r2 u2 q => ?_)
  obtain ⟨PM9, t1, rfl, t2⟩ := pM_get (fun x => (g1 x).1) g2 q
  refine aw_istore C dL_law_667 rfl rfl ?_
  have KT : AW p l e room_1 s m args below meth c 7 G A s.heap (cells + 1) (slots + 6) Q (WM G.2 am S1 PM9 ++ (WX G.2 ad S1 P9 ++ [oL G.2 o f9])) [(0, .ref b), (1, .ref (ad 0)), (2, .ref (am 0)), (3, .ref o), (4, .int (zI i)), (5, .int (zI (kAsm S))), (6, .int (zI r2))] 697 [] := by
    refine aw_goto (tgt := 1257) C dL_law_697 (by decide) ?_
    refine aw_swap ?_
    exact aw_lsub (lv' := [(0, .ref b), (1, .ref (ad 0)), (2, .ref (am 0)), (3, .ref o), (4, .int (zI i))]) (fun q hq => List.mem_append_left ([(5, Value.int (zI (kAsm S))), (6, Value.int (zI r2))] : List (Nat × Value)) hq) (K S1 P9 PM9 f9 (inv_if hI (fun x => iv_asm hI x) (fun x => (g1 x).1) g2))
  refine aw_aload_n C dL_law_669 rfl ?_
  refine cW0i (ci := 3) (q0 := 0) C hN c_X3_thrown (by exact cwV 0 hts gL_law_X3_thrown rfl rfl rfl (by decide +kernel) ⟨Nat.le_of_ble_eq_true rfl, Nat.le_of_ble_eq_true rfl⟩) rfl rfl rfl rfl dL_law_670 hf (fun r3 u3 q => ?_)
  obtain ⟨rfl, rfl⟩ := q
  rw [t1]
  refine aw_iload C dL_law_673 rfl ?_
  refine aw_same (tgt := 680) C dL_law_675 (by decide) ?_
  refine aw_iload C dL_law_680 rfl ?_
  refine aw_if_ne (tgt := 697) C dL_law_682 (by decide) (by omega) (fun _ => KT) (fun hz9 => ?_)
  refine aw_aload_n C dL_law_685 rfl ?_
  refine aw_iconst C dL_law_686 ?_
  refine aw_laload (q0 := 36) (f := f9) C rfl dL_law_687 ?_
  refine aw_iload C dL_law_688 rfl ?_
  refine aw_i2l C dL_law_690 ?_
  rw [(g1 hz9).2, t2 hz9]
  refine aw_lcmp C dL_law_691 ?_
  refine aw_if_eq (tgt := 697) C dL_law_692 (by decide) (by omega) (fun _ => ?_) (fun h => absurd rfl h)
  rw [t2 hz9] at KT
  exact KT
set_option maxHeartbeats 4000000 in
set_option maxRecDepth 100000 in
theorem law_bodies {p : Program} {l : Launch} {e : Env} {s : State} {m : MethodId} {args : Array Value} {below : List Frame} {meth : Method} {c : Code} {G : va_G × (Nat → ClassId)} {A : Nat → Prop} {cells slots : Nat} {Q : State → Prop} {sa : Nat → Nat} {b L : Nat} {xs : Nat → Int32} {ad am : Nat → Nat} {o : Nat} {f : Nat → Int64} {S P PM : St} {i : Int} (C : cx p l s m args meth c cL_law 7 (some .boolean) wsL_law RL G A s.heap) (X : XL l s sa A b L xs) (hI : Inv2 S) (h0 : 0 ≤ i) (h4 : i + 4 ≤ (L : Int)) (hf : cells + 1 ≤ room_1.cells ∧ slots + 6 ≤ room_1.slots) (K : ∀ (S1 P1 PM1 : St) (f1 : Nat → Int64), Inv2 S1 → AW p l e room_1 s m args below meth c 7 G A s.heap (cells + 1) (slots + 6) Q ((WX G.2 ad S1 P1 ++ [oL G.2 o f1]) ++ WM G.2 am S1 PM1) [(0, .ref b), (1, .ref (ad 0)), (2, .ref (am 0)), (3, .ref o), (4, .int (zI i))] 1257 []) : AW p l e room_1 s m args below meth c 7 G A s.heap cells slots Q ((WX G.2 ad S P ++ [oL G.2 o f]) ++ WM G.2 am S PM) [(0, .ref b), (1, .ref (ad 0)), (2, .ref (am 0)), (3, .ref o), (4, .int (zI i))] 700 [] := by
  have hts := C.2.2.2.2.1
  have hN : NX s := X.2.1.1
  refine aw_widen (k := cells + 1) (n := slots + 6) (Nat.le_succ _) (Nat.le_add_right _ _) ?_
  refine aw_aload_n C dL_law_700 rfl ?_
  rw [List.append_assoc]
  refine cW0i (ci := 2) (q0 := 0) C hN (c_X2_bodies) (by exact cwV 0 hts gL_law_X2_bodies rfl rfl rfl (by decide +kernel) ⟨Nat.le_of_ble_eq_true rfl, Nat.le_of_ble_eq_true rfl⟩) rfl rfl rfl rfl dL_law_701 ⟨Nat.le_trans (Nat.le_refl _) hf.1, Nat.le_trans (Nat.le_refl _) hf.2⟩ (fun r u q => ?_)
  obtain ⟨rfl, rfl⟩ := q
  rw [← List.append_assoc]
  refine aw_swap ?_
  refine aw_aload_n C dL_law_704 rfl ?_
  refine cW0i (ci := 3) (q0 := 0) C hN (c_X3_bodies) (by exact cwV 0 hts gL_law_X3_bodies rfl rfl rfl (by decide +kernel) ⟨Nat.le_of_ble_eq_true rfl, Nat.le_of_ble_eq_true rfl⟩) rfl rfl rfl rfl dL_law_705 ⟨Nat.le_trans (Nat.le_refl _) hf.1, Nat.le_trans (Nat.le_refl _) hf.2⟩ (fun r2 u2 q => ?_)
  obtain ⟨rfl, PM9, rfl⟩ := q
  refine aw_same (tgt := 1257) C dL_law_708 (by decide) ?_
  exact aw_swap (K S P PM9 f hI)
set_option maxHeartbeats 4000000 in
set_option maxRecDepth 100000 in
theorem law_colour {p : Program} {l : Launch} {e : Env} {s : State} {m : MethodId} {args : Array Value} {below : List Frame} {meth : Method} {c : Code} {G : va_G × (Nat → ClassId)} {A : Nat → Prop} {cells slots : Nat} {Q : State → Prop} {sa : Nat → Nat} {b L : Nat} {xs : Nat → Int32} {ad am : Nat → Nat} {o : Nat} {f : Nat → Int64} {S P PM : St} {i : Int} (C : cx p l s m args meth c cL_law 7 (some .boolean) wsL_law RL G A s.heap) (X : XL l s sa A b L xs) (hI : Inv2 S) (h0 : 0 ≤ i) (h4 : i + 4 ≤ (L : Int)) (hf : cells + 1 ≤ room_1.cells ∧ slots + 6 ≤ room_1.slots) (K : ∀ (S1 P1 PM1 : St) (f1 : Nat → Int64), Inv2 S1 → AW p l e room_1 s m args below meth c 7 G A s.heap (cells + 1) (slots + 6) Q ((WX G.2 ad S1 P1 ++ [oL G.2 o f1]) ++ WM G.2 am S1 PM1) [(0, .ref b), (1, .ref (ad 0)), (2, .ref (am 0)), (3, .ref o), (4, .int (zI i))] 1257 []) : AW p l e room_1 s m args below meth c 7 G A s.heap cells slots Q ((WX G.2 ad S P ++ [oL G.2 o f]) ++ WM G.2 am S PM) [(0, .ref b), (1, .ref (ad 0)), (2, .ref (am 0)), (3, .ref o), (4, .int (zI i))] 713 [] := by
  have hts := C.2.2.2.2.1
  have hN : NX s := X.2.1.1
  refine aw_aload_n C dL_law_713 rfl ?_
  refine aw_aload_n C dL_law_714 rfl ?_
  refine aw_iload C dL_law_715 rfl ?_
  refine aw_iconst C dL_law_717 ?_
  refine aw_iadd C dL_law_718 ?_
  refine aw_sld C X (by omega) (by omega) dL_law_719 ?_
  refine aw_aload_n C dL_law_720 rfl ?_
  refine aw_hs (As := [.ref (ad 0), .int (zI (xs (i + 1).toNat).toInt), .ref o]) C X (h_colour X.1 hI.1 (zI_rng _)) (vx_cwSW 3 hts gL_law_L_colour rfl rfl rfl (by decide +kernel) ⟨Nat.le_of_ble_eq_true rfl, Nat.le_of_ble_eq_true rfl⟩) rfl rfl dL_law_721 hf (fun r u q => ?_)
  obtain ⟨rfl, S1, P9, f9, rfl, g1, g2⟩ := pH_get q
  have hk9 : 0 ≤ kBod S (xs (i + 1).toNat).toInt ∧ kBod S (xs (i + 1).toNat).toInt ≤ 3 := by unfold kBod; (repeat' split) <;> omega
  refine aw_istore C dL_law_724 rfl rfl ?_
  refine aw_swap ?_
  refine aw_aload_n C dL_law_726 rfl ?_
  refine aw_aload_n C dL_law_727 rfl ?_
  refine aw_iload C dL_law_728 rfl ?_
  refine aw_iconst C dL_law_730 ?_
  refine aw_iadd C dL_law_731 ?_
  refine aw_sld C X (by omega) (by omega) dL_law_732 ?_
  refine cW1i (ci := 3) (q0 := 0) C hN (c_X3_colour hI.1 (zI_rng _)) (by exact cwV 1 hts gL_law_X3_colour rfl rfl rfl (by decide +kernel) ⟨Nat.le_of_ble_eq_true rfl, Nat.le_of_ble_eq_true rfl⟩) rfl rfl rfl rfl dL_law_733 hf (fun r2 u2 q => ?_)
  obtain ⟨PM9, t1, rfl, t2⟩ := pM_get (fun x => (g1 x).1) g2 q
  refine aw_istore C dL_law_736 rfl rfl ?_
  have KT : AW p l e room_1 s m args below meth c 7 G A s.heap (cells + 1) (slots + 6) Q (WM G.2 am S1 PM9 ++ (WX G.2 ad S1 P9 ++ [oL G.2 o f9])) [(0, .ref b), (1, .ref (ad 0)), (2, .ref (am 0)), (3, .ref o), (4, .int (zI i)), (5, .int (zI (kBod S (xs (i + 1).toNat).toInt))), (6, .int (zI r2))] 766 [] := by
    refine aw_goto (tgt := 1257) C dL_law_766 (by decide) ?_
    refine aw_swap ?_
    exact aw_lsub (lv' := [(0, .ref b), (1, .ref (ad 0)), (2, .ref (am 0)), (3, .ref o), (4, .int (zI i))]) (fun q hq => List.mem_append_left ([(5, Value.int (zI (kBod S (xs (i + 1).toNat).toInt))), (6, Value.int (zI r2))] : List (Nat × Value)) hq) (K S1 P9 PM9 f9 (inv_if hI (fun _ => hI) (fun x => (g1 x).1) g2))
  refine aw_aload_n C dL_law_738 rfl ?_
  refine cW0i (ci := 3) (q0 := 0) C hN c_X3_thrown (by exact cwV 0 hts gL_law_X3_thrown rfl rfl rfl (by decide +kernel) ⟨Nat.le_of_ble_eq_true rfl, Nat.le_of_ble_eq_true rfl⟩) rfl rfl rfl rfl dL_law_739 hf (fun r3 u3 q => ?_)
  obtain ⟨rfl, rfl⟩ := q
  rw [t1]
  refine aw_iload C dL_law_742 rfl ?_
  refine aw_same (tgt := 749) C dL_law_744 (by decide) ?_
  refine aw_iload C dL_law_749 rfl ?_
  refine aw_if_ne (tgt := 766) C dL_law_751 (by decide) (by omega) (fun _ => KT) (fun hz9 => ?_)
  refine aw_aload_n C dL_law_754 rfl ?_
  refine aw_iconst C dL_law_755 ?_
  refine aw_laload (q0 := 36) (f := f9) C rfl dL_law_756 ?_
  refine aw_iload C dL_law_757 rfl ?_
  refine aw_i2l C dL_law_759 ?_
  rw [(g1 hz9).2, t2 hz9]
  refine aw_lcmp C dL_law_760 ?_
  refine aw_if_eq (tgt := 766) C dL_law_761 (by decide) (by omega) (fun _ => ?_) (fun h => absurd rfl h)
  rw [t2 hz9] at KT
  exact KT
set_option maxHeartbeats 4000000 in
set_option maxRecDepth 100000 in
theorem law_where {p : Program} {l : Launch} {e : Env} {s : State} {m : MethodId} {args : Array Value} {below : List Frame} {meth : Method} {c : Code} {G : va_G × (Nat → ClassId)} {A : Nat → Prop} {cells slots : Nat} {Q : State → Prop} {sa : Nat → Nat} {b L : Nat} {xs : Nat → Int32} {ad am : Nat → Nat} {o : Nat} {f : Nat → Int64} {S P PM : St} {i : Int} (C : cx p l s m args meth c cL_law 7 (some .boolean) wsL_law RL G A s.heap) (X : XL l s sa A b L xs) (hI : Inv2 S) (h0 : 0 ≤ i) (h4 : i + 4 ≤ (L : Int)) (hf : cells + 1 ≤ room_1.cells ∧ slots + 6 ≤ room_1.slots) (K : ∀ (S1 P1 PM1 : St) (f1 : Nat → Int64), Inv2 S1 → AW p l e room_1 s m args below meth c 7 G A s.heap (cells + 1) (slots + 6) Q ((WX G.2 ad S1 P1 ++ [oL G.2 o f1]) ++ WM G.2 am S1 PM1) [(0, .ref b), (1, .ref (ad 0)), (2, .ref (am 0)), (3, .ref o), (4, .int (zI i))] 1257 []) : AW p l e room_1 s m args below meth c 7 G A s.heap cells slots Q ((WX G.2 ad S P ++ [oL G.2 o f]) ++ WM G.2 am S PM) [(0, .ref b), (1, .ref (ad 0)), (2, .ref (am 0)), (3, .ref o), (4, .int (zI i))] 769 [] := by
  have hts := C.2.2.2.2.1
  have hN : NX s := X.2.1.1
  refine aw_aload_n C dL_law_769 rfl ?_
  refine aw_aload_n C dL_law_770 rfl ?_
  refine aw_iload C dL_law_771 rfl ?_
  refine aw_iconst C dL_law_773 ?_
  refine aw_iadd C dL_law_774 ?_
  refine aw_sld C X (by omega) (by omega) dL_law_775 ?_
  refine aw_aload_n C dL_law_776 rfl ?_
  refine aw_hs (As := [.ref (ad 0), .int (zI (xs (i + 1).toNat).toInt), .ref o]) C X (h_where X.1 hI.1 (zI_rng _)) (vx_cwSW 3 hts gL_law_L_where rfl rfl rfl (by decide +kernel) ⟨Nat.le_of_ble_eq_true rfl, Nat.le_of_ble_eq_true rfl⟩) rfl rfl dL_law_777 hf (fun r u q => ?_)
  obtain ⟨rfl, S1, P9, f9, rfl, g1, g2⟩ := pH_get q
  have hk9 : 0 ≤ kBod S (xs (i + 1).toNat).toInt ∧ kBod S (xs (i + 1).toNat).toInt ≤ 3 := by unfold kBod; (repeat' split) <;> omega
  refine aw_istore C dL_law_780 rfl rfl ?_
  refine aw_swap ?_
  refine aw_aload_n C dL_law_782 rfl ?_
  refine aw_aload_n C dL_law_783 rfl ?_
  refine aw_iload C dL_law_784 rfl ?_
  refine aw_iconst C dL_law_786 ?_
  refine aw_iadd C dL_law_787 ?_
  refine aw_sld C X (by omega) (by omega) dL_law_788 ?_
  refine cW1i (ci := 3) (q0 := 0) C hN (c_X3_where hI.1 (zI_rng _)) (by exact cwV 1 hts gL_law_X3_where rfl rfl rfl (by decide +kernel) ⟨Nat.le_of_ble_eq_true rfl, Nat.le_of_ble_eq_true rfl⟩) rfl rfl rfl rfl dL_law_789 hf (fun r2 u2 q => ?_)
  obtain ⟨PM9, t1, rfl, t2⟩ := pM_get (fun x => (g1 x).1) g2 q
  refine aw_istore C dL_law_792 rfl rfl ?_
  have KT : AW p l e room_1 s m args below meth c 7 G A s.heap (cells + 1) (slots + 6) Q (WM G.2 am S1 PM9 ++ (WX G.2 ad S1 P9 ++ [oL G.2 o f9])) [(0, .ref b), (1, .ref (ad 0)), (2, .ref (am 0)), (3, .ref o), (4, .int (zI i)), (5, .int (zI (kBod S (xs (i + 1).toNat).toInt))), (6, .int (zI r2))] 822 [] := by
    refine aw_goto (tgt := 1257) C dL_law_822 (by decide) ?_
    refine aw_swap ?_
    exact aw_lsub (lv' := [(0, .ref b), (1, .ref (ad 0)), (2, .ref (am 0)), (3, .ref o), (4, .int (zI i))]) (fun q hq => List.mem_append_left ([(5, Value.int (zI (kBod S (xs (i + 1).toNat).toInt))), (6, Value.int (zI r2))] : List (Nat × Value)) hq) (K S1 P9 PM9 f9 (inv_if hI (fun _ => hI) (fun x => (g1 x).1) g2))
  refine aw_aload_n C dL_law_794 rfl ?_
  refine cW0i (ci := 3) (q0 := 0) C hN c_X3_thrown (by exact cwV 0 hts gL_law_X3_thrown rfl rfl rfl (by decide +kernel) ⟨Nat.le_of_ble_eq_true rfl, Nat.le_of_ble_eq_true rfl⟩) rfl rfl rfl rfl dL_law_795 hf (fun r3 u3 q => ?_)
  obtain ⟨rfl, rfl⟩ := q
  rw [t1]
  refine aw_iload C dL_law_798 rfl ?_
  refine aw_same (tgt := 805) C dL_law_800 (by decide) ?_
  refine aw_iload C dL_law_805 rfl ?_
  refine aw_if_ne (tgt := 822) C dL_law_807 (by decide) (by omega) (fun _ => KT) (fun hz9 => ?_)
  refine aw_aload_n C dL_law_810 rfl ?_
  refine aw_iconst C dL_law_811 ?_
  refine aw_laload (q0 := 36) (f := f9) C rfl dL_law_812 ?_
  refine aw_iload C dL_law_813 rfl ?_
  refine aw_i2l C dL_law_815 ?_
  rw [(g1 hz9).2, t2 hz9]
  refine aw_lcmp C dL_law_816 ?_
  refine aw_if_eq (tgt := 822) C dL_law_817 (by decide) (by omega) (fun _ => ?_) (fun h => absurd rfl h)
  rw [t2 hz9] at KT
  exact KT
set_option maxHeartbeats 4000000 in
set_option maxRecDepth 100000 in
theorem law_inLane {p : Program} {l : Launch} {e : Env} {s : State} {m : MethodId} {args : Array Value} {below : List Frame} {meth : Method} {c : Code} {G : va_G × (Nat → ClassId)} {A : Nat → Prop} {cells slots : Nat} {Q : State → Prop} {sa : Nat → Nat} {b L : Nat} {xs : Nat → Int32} {ad am : Nat → Nat} {o : Nat} {f : Nat → Int64} {S P PM : St} {i : Int} (C : cx p l s m args meth c cL_law 7 (some .boolean) wsL_law RL G A s.heap) (X : XL l s sa A b L xs) (hI : Inv2 S) (h0 : 0 ≤ i) (h4 : i + 4 ≤ (L : Int)) (hf : cells + 1 ≤ room_1.cells ∧ slots + 6 ≤ room_1.slots) (K : ∀ (S1 P1 PM1 : St) (f1 : Nat → Int64), Inv2 S1 → AW p l e room_1 s m args below meth c 7 G A s.heap (cells + 1) (slots + 6) Q ((WX G.2 ad S1 P1 ++ [oL G.2 o f1]) ++ WM G.2 am S1 PM1) [(0, .ref b), (1, .ref (ad 0)), (2, .ref (am 0)), (3, .ref o), (4, .int (zI i))] 1257 []) : AW p l e room_1 s m args below meth c 7 G A s.heap cells slots Q ((WX G.2 ad S P ++ [oL G.2 o f]) ++ WM G.2 am S PM) [(0, .ref b), (1, .ref (ad 0)), (2, .ref (am 0)), (3, .ref o), (4, .int (zI i))] 825 [] := by
  have hts := C.2.2.2.2.1
  have hN : NX s := X.2.1.1
  refine aw_aload_n C dL_law_825 rfl ?_
  refine aw_aload_n C dL_law_826 rfl ?_
  refine aw_iload C dL_law_827 rfl ?_
  refine aw_iconst C dL_law_829 ?_
  refine aw_iadd C dL_law_830 ?_
  refine aw_sld C X (by omega) (by omega) dL_law_831 ?_
  refine aw_aload_n C dL_law_832 rfl ?_
  refine aw_hs (As := [.ref (ad 0), .int (zI (xs (i + 1).toNat).toInt), .ref o]) C X (h_inLane X.1 hI.1 (zI_rng _)) (vx_cwSW 3 hts gL_law_L_inLane rfl rfl rfl (by decide +kernel) ⟨Nat.le_of_ble_eq_true rfl, Nat.le_of_ble_eq_true rfl⟩) rfl rfl dL_law_833 hf (fun r u q => ?_)
  obtain ⟨rfl, S1, P9, f9, rfl, g1, g2⟩ := pH_get q
  have hk9 : 0 ≤ kLan S (xs (i + 1).toNat).toInt ∧ kLan S (xs (i + 1).toNat).toInt ≤ 3 := by unfold kLan; (repeat' split) <;> omega
  refine aw_istore C dL_law_836 rfl rfl ?_
  refine aw_swap ?_
  refine aw_aload_n C dL_law_838 rfl ?_
  refine aw_aload_n C dL_law_839 rfl ?_
  refine aw_iload C dL_law_840 rfl ?_
  refine aw_iconst C dL_law_842 ?_
  refine aw_iadd C dL_law_843 ?_
  refine aw_sld C X (by omega) (by omega) dL_law_844 ?_
  refine cW1i (ci := 3) (q0 := 0) C hN (c_X3_inLane hI.1 (zI_rng _)) (by exact cwV 1 hts gL_law_X3_inLane rfl rfl rfl (by decide +kernel) ⟨Nat.le_of_ble_eq_true rfl, Nat.le_of_ble_eq_true rfl⟩) rfl rfl rfl rfl dL_law_845 hf (fun r2 u2 q => ?_)
  obtain ⟨PM9, t1, rfl, t2⟩ := pM_get (fun x => (g1 x).1) g2 q
  refine aw_istore C dL_law_848 rfl rfl ?_
  have KT : AW p l e room_1 s m args below meth c 7 G A s.heap (cells + 1) (slots + 6) Q (WM G.2 am S1 PM9 ++ (WX G.2 ad S1 P9 ++ [oL G.2 o f9])) [(0, .ref b), (1, .ref (ad 0)), (2, .ref (am 0)), (3, .ref o), (4, .int (zI i)), (5, .int (zI (kLan S (xs (i + 1).toNat).toInt))), (6, .int (zI r2))] 878 [] := by
    refine aw_goto (tgt := 1257) C dL_law_878 (by decide) ?_
    refine aw_swap ?_
    exact aw_lsub (lv' := [(0, .ref b), (1, .ref (ad 0)), (2, .ref (am 0)), (3, .ref o), (4, .int (zI i))]) (fun q hq => List.mem_append_left ([(5, Value.int (zI (kLan S (xs (i + 1).toNat).toInt))), (6, Value.int (zI r2))] : List (Nat × Value)) hq) (K S1 P9 PM9 f9 (inv_if hI (fun _ => hI) (fun x => (g1 x).1) g2))
  refine aw_aload_n C dL_law_850 rfl ?_
  refine cW0i (ci := 3) (q0 := 0) C hN c_X3_thrown (by exact cwV 0 hts gL_law_X3_thrown rfl rfl rfl (by decide +kernel) ⟨Nat.le_of_ble_eq_true rfl, Nat.le_of_ble_eq_true rfl⟩) rfl rfl rfl rfl dL_law_851 hf (fun r3 u3 q => ?_)
  obtain ⟨rfl, rfl⟩ := q
  rw [t1]
  refine aw_iload C dL_law_854 rfl ?_
  refine aw_same (tgt := 861) C dL_law_856 (by decide) ?_
  refine aw_iload C dL_law_861 rfl ?_
  refine aw_if_ne (tgt := 878) C dL_law_863 (by decide) (by omega) (fun _ => KT) (fun hz9 => ?_)
  refine aw_aload_n C dL_law_866 rfl ?_
  refine aw_iconst C dL_law_867 ?_
  refine aw_laload (q0 := 36) (f := f9) C rfl dL_law_868 ?_
  refine aw_iload C dL_law_869 rfl ?_
  refine aw_i2l C dL_law_871 ?_
  rw [(g1 hz9).2, t2 hz9]
  refine aw_lcmp C dL_law_872 ?_
  refine aw_if_eq (tgt := 878) C dL_law_873 (by decide) (by omega) (fun _ => ?_) (fun h => absurd rfl h)
  rw [t2 hz9] at KT
  exact KT
set_option maxHeartbeats 4000000 in
set_option maxRecDepth 100000 in
theorem law_bodyAt {p : Program} {l : Launch} {e : Env} {s : State} {m : MethodId} {args : Array Value} {below : List Frame} {meth : Method} {c : Code} {G : va_G × (Nat → ClassId)} {A : Nat → Prop} {cells slots : Nat} {Q : State → Prop} {sa : Nat → Nat} {b L : Nat} {xs : Nat → Int32} {ad am : Nat → Nat} {o : Nat} {f : Nat → Int64} {S P PM : St} {i : Int} (C : cx p l s m args meth c cL_law 7 (some .boolean) wsL_law RL G A s.heap) (X : XL l s sa A b L xs) (hI : Inv2 S) (h0 : 0 ≤ i) (h4 : i + 4 ≤ (L : Int)) (hf : cells + 1 ≤ room_1.cells ∧ slots + 6 ≤ room_1.slots) (K : ∀ (S1 P1 PM1 : St) (f1 : Nat → Int64), Inv2 S1 → AW p l e room_1 s m args below meth c 7 G A s.heap (cells + 1) (slots + 6) Q ((WX G.2 ad S1 P1 ++ [oL G.2 o f1]) ++ WM G.2 am S1 PM1) [(0, .ref b), (1, .ref (ad 0)), (2, .ref (am 0)), (3, .ref o), (4, .int (zI i))] 1257 []) : AW p l e room_1 s m args below meth c 7 G A s.heap cells slots Q ((WX G.2 ad S P ++ [oL G.2 o f]) ++ WM G.2 am S PM) [(0, .ref b), (1, .ref (ad 0)), (2, .ref (am 0)), (3, .ref o), (4, .int (zI i))] 881 [] := by
  have hts := C.2.2.2.2.1
  have hN : NX s := X.2.1.1
  refine aw_aload_n C dL_law_881 rfl ?_
  refine aw_aload_n C dL_law_882 rfl ?_
  refine aw_iload C dL_law_883 rfl ?_
  refine aw_iconst C dL_law_885 ?_
  refine aw_iadd C dL_law_886 ?_
  refine aw_sld C X (by omega) (by omega) dL_law_887 ?_
  refine aw_aload_n C dL_law_888 rfl ?_
  refine aw_iload C dL_law_889 rfl ?_
  refine aw_iconst C dL_law_891 ?_
  refine aw_iadd C dL_law_892 ?_
  refine aw_sld C X (by omega) (by omega) dL_law_893 ?_
  refine aw_aload_n C dL_law_894 rfl ?_
  refine aw_hs (As := [.ref (ad 0), .int (zI (xs (i + 1).toNat).toInt), .int (zI (xs (i + 2).toNat).toInt), .ref o]) C X (h_bodyAt X.1 hI.1 (zI_rng _) (zI_rng _)) (vx_cwSW 4 hts gL_law_L_bodyAt rfl rfl rfl (by decide +kernel) ⟨Nat.le_of_ble_eq_true rfl, Nat.le_of_ble_eq_true rfl⟩) rfl rfl dL_law_895 hf (fun r u q => ?_)
  obtain ⟨rfl, S1, P9, f9, rfl, g1, g2⟩ := pH_get q
  have hk9 : 0 ≤ kBAt S (xs (i + 1).toNat).toInt (xs (i + 2).toNat).toInt ∧ kBAt S (xs (i + 1).toNat).toInt (xs (i + 2).toNat).toInt ≤ 3 := by unfold kBAt; (repeat' split) <;> omega
  refine aw_istore C dL_law_898 rfl rfl ?_
  refine aw_swap ?_
  refine aw_aload_n C dL_law_900 rfl ?_
  refine aw_aload_n C dL_law_901 rfl ?_
  refine aw_iload C dL_law_902 rfl ?_
  refine aw_iconst C dL_law_904 ?_
  refine aw_iadd C dL_law_905 ?_
  refine aw_sld C X (by omega) (by omega) dL_law_906 ?_
  refine aw_aload_n C dL_law_907 rfl ?_
  refine aw_iload C dL_law_908 rfl ?_
  refine aw_iconst C dL_law_910 ?_
  refine aw_iadd C dL_law_911 ?_
  refine aw_sld C X (by omega) (by omega) dL_law_912 ?_
  refine cW2i (ci := 3) (q0 := 0) C hN (c_X3_bodyAt hI.1 (zI_rng _) (zI_rng _)) (by exact cwV 2 hts gL_law_X3_bodyAt rfl rfl rfl (by decide +kernel) ⟨Nat.le_of_ble_eq_true rfl, Nat.le_of_ble_eq_true rfl⟩) rfl rfl rfl rfl dL_law_913 hf (fun r2 u2 q => ?_)
  obtain ⟨PM9, t1, rfl, t2⟩ := pM_get (fun x => (g1 x).1) g2 q
  refine aw_istore C dL_law_916 rfl rfl ?_
  have KT : AW p l e room_1 s m args below meth c 7 G A s.heap (cells + 1) (slots + 6) Q (WM G.2 am S1 PM9 ++ (WX G.2 ad S1 P9 ++ [oL G.2 o f9])) [(0, .ref b), (1, .ref (ad 0)), (2, .ref (am 0)), (3, .ref o), (4, .int (zI i)), (5, .int (zI (kBAt S (xs (i + 1).toNat).toInt (xs (i + 2).toNat).toInt))), (6, .int (zI r2))] 946 [] := by
    refine aw_goto (tgt := 1257) C dL_law_946 (by decide) ?_
    refine aw_swap ?_
    exact aw_lsub (lv' := [(0, .ref b), (1, .ref (ad 0)), (2, .ref (am 0)), (3, .ref o), (4, .int (zI i))]) (fun q hq => List.mem_append_left ([(5, Value.int (zI (kBAt S (xs (i + 1).toNat).toInt (xs (i + 2).toNat).toInt))), (6, Value.int (zI r2))] : List (Nat × Value)) hq) (K S1 P9 PM9 f9 (inv_if hI (fun _ => hI) (fun x => (g1 x).1) g2))
  refine aw_aload_n C dL_law_918 rfl ?_
  refine cW0i (ci := 3) (q0 := 0) C hN c_X3_thrown (by exact cwV 0 hts gL_law_X3_thrown rfl rfl rfl (by decide +kernel) ⟨Nat.le_of_ble_eq_true rfl, Nat.le_of_ble_eq_true rfl⟩) rfl rfl rfl rfl dL_law_919 hf (fun r3 u3 q => ?_)
  obtain ⟨rfl, rfl⟩ := q
  rw [t1]
  refine aw_iload C dL_law_922 rfl ?_
  refine aw_same (tgt := 929) C dL_law_924 (by decide) ?_
  refine aw_iload C dL_law_929 rfl ?_
  refine aw_if_ne (tgt := 946) C dL_law_931 (by decide) (by omega) (fun _ => KT) (fun hz9 => ?_)
  refine aw_aload_n C dL_law_934 rfl ?_
  refine aw_iconst C dL_law_935 ?_
  refine aw_laload (q0 := 36) (f := f9) C rfl dL_law_936 ?_
  refine aw_iload C dL_law_937 rfl ?_
  refine aw_i2l C dL_law_939 ?_
  rw [(g1 hz9).2, t2 hz9]
  refine aw_lcmp C dL_law_940 ?_
  refine aw_if_eq (tgt := 946) C dL_law_941 (by decide) (by omega) (fun _ => ?_) (fun h => absurd rfl h)
  rw [t2 hz9] at KT
  exact KT
set_option maxHeartbeats 4000000 in
set_option maxRecDepth 100000 in
theorem law_block {p : Program} {l : Launch} {e : Env} {s : State} {m : MethodId} {args : Array Value} {below : List Frame} {meth : Method} {c : Code} {G : va_G × (Nat → ClassId)} {A : Nat → Prop} {cells slots : Nat} {Q : State → Prop} {sa : Nat → Nat} {b L : Nat} {xs : Nat → Int32} {ad am : Nat → Nat} {o : Nat} {f : Nat → Int64} {S P PM : St} {i : Int} (C : cx p l s m args meth c cL_law 7 (some .boolean) wsL_law RL G A s.heap) (X : XL l s sa A b L xs) (hI : Inv2 S) (h0 : 0 ≤ i) (h4 : i + 4 ≤ (L : Int)) (hf : cells + 1 ≤ room_1.cells ∧ slots + 6 ≤ room_1.slots) (K : ∀ (S1 P1 PM1 : St) (f1 : Nat → Int64), Inv2 S1 → AW p l e room_1 s m args below meth c 7 G A s.heap (cells + 1) (slots + 6) Q ((WX G.2 ad S1 P1 ++ [oL G.2 o f1]) ++ WM G.2 am S1 PM1) [(0, .ref b), (1, .ref (ad 0)), (2, .ref (am 0)), (3, .ref o), (4, .int (zI i))] 1257 []) : AW p l e room_1 s m args below meth c 7 G A s.heap cells slots Q ((WX G.2 ad S P ++ [oL G.2 o f]) ++ WM G.2 am S PM) [(0, .ref b), (1, .ref (ad 0)), (2, .ref (am 0)), (3, .ref o), (4, .int (zI i))] 949 [] := by
  have hts := C.2.2.2.2.1
  have hN : NX s := X.2.1.1
  refine aw_aload_n C dL_law_949 rfl ?_
  refine aw_aload_n C dL_law_950 rfl ?_
  refine aw_iload C dL_law_951 rfl ?_
  refine aw_iconst C dL_law_953 ?_
  refine aw_iadd C dL_law_954 ?_
  refine aw_sld C X (by omega) (by omega) dL_law_955 ?_
  refine aw_aload_n C dL_law_956 rfl ?_
  refine aw_hs (As := [.ref (ad 0), .int (zI (xs (i + 1).toNat).toInt), .ref o]) C X (h_block X.1 hI.1 (zI_rng _)) (vx_cwSW 3 hts gL_law_L_block rfl rfl rfl (by decide +kernel) ⟨Nat.le_of_ble_eq_true rfl, Nat.le_of_ble_eq_true rfl⟩) rfl rfl dL_law_957 hf (fun r u q => ?_)
  obtain ⟨rfl, S1, P9, f9, rfl, g1, g2⟩ := pH_get q
  have hk9 : 0 ≤ kLan S (xs (i + 1).toNat).toInt ∧ kLan S (xs (i + 1).toNat).toInt ≤ 3 := by unfold kLan; (repeat' split) <;> omega
  refine aw_istore C dL_law_960 rfl rfl ?_
  refine aw_swap ?_
  refine aw_aload_n C dL_law_962 rfl ?_
  refine aw_aload_n C dL_law_963 rfl ?_
  refine aw_iload C dL_law_964 rfl ?_
  refine aw_iconst C dL_law_966 ?_
  refine aw_iadd C dL_law_967 ?_
  refine aw_sld C X (by omega) (by omega) dL_law_968 ?_
  refine cW1i (ci := 3) (q0 := 0) C hN (c_X3_block hI.1 (zI_rng _)) (by exact cwV 1 hts gL_law_X3_block rfl rfl rfl (by decide +kernel) ⟨Nat.le_of_ble_eq_true rfl, Nat.le_of_ble_eq_true rfl⟩) rfl rfl rfl rfl dL_law_969 hf (fun r2 u2 q => ?_)
  obtain ⟨PM9, t1, rfl, t2⟩ := pM_get (fun x => (g1 x).1) g2 q
  refine aw_istore C dL_law_972 rfl rfl ?_
  have KT : AW p l e room_1 s m args below meth c 7 G A s.heap (cells + 1) (slots + 6) Q (WM G.2 am S1 PM9 ++ (WX G.2 ad S1 P9 ++ [oL G.2 o f9])) [(0, .ref b), (1, .ref (ad 0)), (2, .ref (am 0)), (3, .ref o), (4, .int (zI i)), (5, .int (zI (kLan S (xs (i + 1).toNat).toInt))), (6, .int (zI r2))] 1002 [] := by
    refine aw_goto (tgt := 1257) C dL_law_1002 (by decide) ?_
    refine aw_swap ?_
    exact aw_lsub (lv' := [(0, .ref b), (1, .ref (ad 0)), (2, .ref (am 0)), (3, .ref o), (4, .int (zI i))]) (fun q hq => List.mem_append_left ([(5, Value.int (zI (kLan S (xs (i + 1).toNat).toInt))), (6, Value.int (zI r2))] : List (Nat × Value)) hq) (K S1 P9 PM9 f9 (inv_if hI (fun _ => hI) (fun x => (g1 x).1) g2))
  refine aw_aload_n C dL_law_974 rfl ?_
  refine cW0i (ci := 3) (q0 := 0) C hN c_X3_thrown (by exact cwV 0 hts gL_law_X3_thrown rfl rfl rfl (by decide +kernel) ⟨Nat.le_of_ble_eq_true rfl, Nat.le_of_ble_eq_true rfl⟩) rfl rfl rfl rfl dL_law_975 hf (fun r3 u3 q => ?_)
  obtain ⟨rfl, rfl⟩ := q
  rw [t1]
  refine aw_iload C dL_law_978 rfl ?_
  refine aw_same (tgt := 985) C dL_law_980 (by decide) ?_
  refine aw_iload C dL_law_985 rfl ?_
  refine aw_if_ne (tgt := 1002) C dL_law_987 (by decide) (by omega) (fun _ => KT) (fun hz9 => ?_)
  refine aw_aload_n C dL_law_990 rfl ?_
  refine aw_iconst C dL_law_991 ?_
  refine aw_laload (q0 := 36) (f := f9) C rfl dL_law_992 ?_
  refine aw_iload C dL_law_993 rfl ?_
  refine aw_i2l C dL_law_995 ?_
  rw [(g1 hz9).2, t2 hz9]
  refine aw_lcmp C dL_law_996 ?_
  refine aw_if_eq (tgt := 1002) C dL_law_997 (by decide) (by omega) (fun _ => ?_) (fun h => absurd rfl h)
  rw [t2 hz9] at KT
  exact KT
set_option maxHeartbeats 4000000 in
set_option maxRecDepth 100000 in
theorem law_stored {p : Program} {l : Launch} {e : Env} {s : State} {m : MethodId} {args : Array Value} {below : List Frame} {meth : Method} {c : Code} {G : va_G × (Nat → ClassId)} {A : Nat → Prop} {cells slots : Nat} {Q : State → Prop} {sa : Nat → Nat} {b L : Nat} {xs : Nat → Int32} {ad am : Nat → Nat} {o : Nat} {f : Nat → Int64} {S P PM : St} {i : Int} (C : cx p l s m args meth c cL_law 7 (some .boolean) wsL_law RL G A s.heap) (X : XL l s sa A b L xs) (hI : Inv2 S) (h0 : 0 ≤ i) (h4 : i + 4 ≤ (L : Int)) (hf : cells + 1 ≤ room_1.cells ∧ slots + 6 ≤ room_1.slots) (K : ∀ (S1 P1 PM1 : St) (f1 : Nat → Int64), Inv2 S1 → AW p l e room_1 s m args below meth c 7 G A s.heap (cells + 1) (slots + 6) Q ((WX G.2 ad S1 P1 ++ [oL G.2 o f1]) ++ WM G.2 am S1 PM1) [(0, .ref b), (1, .ref (ad 0)), (2, .ref (am 0)), (3, .ref o), (4, .int (zI i))] 1257 []) : AW p l e room_1 s m args below meth c 7 G A s.heap cells slots Q ((WX G.2 ad S P ++ [oL G.2 o f]) ++ WM G.2 am S PM) [(0, .ref b), (1, .ref (ad 0)), (2, .ref (am 0)), (3, .ref o), (4, .int (zI i))] 1005 [] := by
  have hts := C.2.2.2.2.1
  have hN : NX s := X.2.1.1
  refine aw_widen (k := cells + 1) (n := slots + 6) (Nat.le_succ _) (Nat.le_add_right _ _) ?_
  refine aw_aload_n C dL_law_1005 rfl ?_
  rw [List.append_assoc]
  refine cW0i (ci := 2) (q0 := 0) C hN (c_X2_stored hI.1) (by exact cwV 0 hts gL_law_X2_stored rfl rfl rfl (by decide +kernel) ⟨Nat.le_of_ble_eq_true rfl, Nat.le_of_ble_eq_true rfl⟩) rfl rfl rfl rfl dL_law_1006 ⟨Nat.le_trans (Nat.le_refl _) hf.1, Nat.le_trans (Nat.le_refl _) hf.2⟩ (fun r u q => ?_)
  obtain ⟨rfl, rfl⟩ := q
  rw [← List.append_assoc]
  refine aw_swap ?_
  refine aw_aload_n C dL_law_1009 rfl ?_
  refine cW0i (ci := 3) (q0 := 0) C hN (c_X3_stored hI.1) (by exact cwV 0 hts gL_law_X3_stored rfl rfl rfl (by decide +kernel) ⟨Nat.le_of_ble_eq_true rfl, Nat.le_of_ble_eq_true rfl⟩) rfl rfl rfl rfl dL_law_1010 ⟨Nat.le_trans (Nat.le_refl _) hf.1, Nat.le_trans (Nat.le_refl _) hf.2⟩ (fun r2 u2 q => ?_)
  obtain ⟨rfl, PM9, rfl⟩ := q
  refine aw_same (tgt := 1257) C dL_law_1013 (by decide) ?_
  exact aw_swap (K S P PM9 f hI)
set_option maxHeartbeats 4000000 in
set_option maxRecDepth 100000 in
theorem law_changes {p : Program} {l : Launch} {e : Env} {s : State} {m : MethodId} {args : Array Value} {below : List Frame} {meth : Method} {c : Code} {G : va_G × (Nat → ClassId)} {A : Nat → Prop} {cells slots : Nat} {Q : State → Prop} {sa : Nat → Nat} {b L : Nat} {xs : Nat → Int32} {ad am : Nat → Nat} {o : Nat} {f : Nat → Int64} {S P PM : St} {i : Int} (C : cx p l s m args meth c cL_law 7 (some .boolean) wsL_law RL G A s.heap) (X : XL l s sa A b L xs) (hI : Inv2 S) (h0 : 0 ≤ i) (h4 : i + 4 ≤ (L : Int)) (hf : cells + 1 ≤ room_1.cells ∧ slots + 6 ≤ room_1.slots) (K : ∀ (S1 P1 PM1 : St) (f1 : Nat → Int64), Inv2 S1 → AW p l e room_1 s m args below meth c 7 G A s.heap (cells + 1) (slots + 6) Q ((WX G.2 ad S1 P1 ++ [oL G.2 o f1]) ++ WM G.2 am S1 PM1) [(0, .ref b), (1, .ref (ad 0)), (2, .ref (am 0)), (3, .ref o), (4, .int (zI i))] 1257 []) : AW p l e room_1 s m args below meth c 7 G A s.heap cells slots Q ((WX G.2 ad S P ++ [oL G.2 o f]) ++ WM G.2 am S PM) [(0, .ref b), (1, .ref (ad 0)), (2, .ref (am 0)), (3, .ref o), (4, .int (zI i))] 1018 [] := by
  have hts := C.2.2.2.2.1
  have hN : NX s := X.2.1.1
  refine aw_widen (k := cells + 1) (n := slots + 6) (Nat.le_succ _) (Nat.le_add_right _ _) ?_
  refine aw_aload_n C dL_law_1018 rfl ?_
  rw [List.append_assoc]
  refine cW0i (ci := 2) (q0 := 0) C hN (c_X2_changes) (by exact cwV 0 hts gL_law_X2_changes rfl rfl rfl (by decide +kernel) ⟨Nat.le_of_ble_eq_true rfl, Nat.le_of_ble_eq_true rfl⟩) rfl rfl rfl rfl dL_law_1019 ⟨Nat.le_trans (Nat.le_refl _) hf.1, Nat.le_trans (Nat.le_refl _) hf.2⟩ (fun r u q => ?_)
  obtain ⟨rfl, rfl⟩ := q
  rw [← List.append_assoc]
  refine aw_swap ?_
  refine aw_aload_n C dL_law_1022 rfl ?_
  refine cW0i (ci := 3) (q0 := 0) C hN (c_X3_changes) (by exact cwV 0 hts gL_law_X3_changes rfl rfl rfl (by decide +kernel) ⟨Nat.le_of_ble_eq_true rfl, Nat.le_of_ble_eq_true rfl⟩) rfl rfl rfl rfl dL_law_1023 ⟨Nat.le_trans (Nat.le_refl _) hf.1, Nat.le_trans (Nat.le_refl _) hf.2⟩ (fun r2 u2 q => ?_)
  obtain ⟨rfl, PM9, rfl⟩ := q
  refine aw_same (tgt := 1257) C dL_law_1026 (by decide) ?_
  exact aw_swap (K S P PM9 f hI)
set_option maxHeartbeats 4000000 in
set_option maxRecDepth 100000 in
theorem law_released {p : Program} {l : Launch} {e : Env} {s : State} {m : MethodId} {args : Array Value} {below : List Frame} {meth : Method} {c : Code} {G : va_G × (Nat → ClassId)} {A : Nat → Prop} {cells slots : Nat} {Q : State → Prop} {sa : Nat → Nat} {b L : Nat} {xs : Nat → Int32} {ad am : Nat → Nat} {o : Nat} {f : Nat → Int64} {S P PM : St} {i : Int} (C : cx p l s m args meth c cL_law 7 (some .boolean) wsL_law RL G A s.heap) (X : XL l s sa A b L xs) (hI : Inv2 S) (h0 : 0 ≤ i) (h4 : i + 4 ≤ (L : Int)) (hf : cells + 1 ≤ room_1.cells ∧ slots + 6 ≤ room_1.slots) (K : ∀ (S1 P1 PM1 : St) (f1 : Nat → Int64), Inv2 S1 → AW p l e room_1 s m args below meth c 7 G A s.heap (cells + 1) (slots + 6) Q ((WX G.2 ad S1 P1 ++ [oL G.2 o f1]) ++ WM G.2 am S1 PM1) [(0, .ref b), (1, .ref (ad 0)), (2, .ref (am 0)), (3, .ref o), (4, .int (zI i))] 1257 []) : AW p l e room_1 s m args below meth c 7 G A s.heap cells slots Q ((WX G.2 ad S P ++ [oL G.2 o f]) ++ WM G.2 am S PM) [(0, .ref b), (1, .ref (ad 0)), (2, .ref (am 0)), (3, .ref o), (4, .int (zI i))] 1031 [] := by
  have hts := C.2.2.2.2.1
  have hN : NX s := X.2.1.1
  refine aw_widen (k := cells + 1) (n := slots + 6) (Nat.le_succ _) (Nat.le_add_right _ _) ?_
  refine aw_aload_n C dL_law_1031 rfl ?_
  rw [List.append_assoc]
  refine cW0i (ci := 2) (q0 := 0) C hN (c_X2_released) (by exact cwV 0 hts gL_law_X2_released rfl rfl rfl (by decide +kernel) ⟨Nat.le_of_ble_eq_true rfl, Nat.le_of_ble_eq_true rfl⟩) rfl rfl rfl rfl dL_law_1032 ⟨Nat.le_trans (Nat.le_refl _) hf.1, Nat.le_trans (Nat.le_refl _) hf.2⟩ (fun r u q => ?_)
  obtain ⟨rfl, rfl⟩ := q
  rw [← List.append_assoc]
  refine aw_swap ?_
  refine aw_aload_n C dL_law_1035 rfl ?_
  refine cW0i (ci := 3) (q0 := 0) C hN (c_X3_released) (by exact cwV 0 hts gL_law_X3_released rfl rfl rfl (by decide +kernel) ⟨Nat.le_of_ble_eq_true rfl, Nat.le_of_ble_eq_true rfl⟩) rfl rfl rfl rfl dL_law_1036 ⟨Nat.le_trans (Nat.le_refl _) hf.1, Nat.le_trans (Nat.le_refl _) hf.2⟩ (fun r2 u2 q => ?_)
  obtain ⟨rfl, PM9, rfl⟩ := q
  refine aw_same (tgt := 1257) C dL_law_1039 (by decide) ?_
  exact aw_swap (K S P PM9 f hI)
set_option maxHeartbeats 4000000 in
set_option maxRecDepth 100000 in
theorem law_assembledAt {p : Program} {l : Launch} {e : Env} {s : State} {m : MethodId} {args : Array Value} {below : List Frame} {meth : Method} {c : Code} {G : va_G × (Nat → ClassId)} {A : Nat → Prop} {cells slots : Nat} {Q : State → Prop} {sa : Nat → Nat} {b L : Nat} {xs : Nat → Int32} {ad am : Nat → Nat} {o : Nat} {f : Nat → Int64} {S P PM : St} {i : Int} (C : cx p l s m args meth c cL_law 7 (some .boolean) wsL_law RL G A s.heap) (X : XL l s sa A b L xs) (hI : Inv2 S) (h0 : 0 ≤ i) (h4 : i + 4 ≤ (L : Int)) (hf : cells + 1 ≤ room_1.cells ∧ slots + 6 ≤ room_1.slots) (K : ∀ (S1 P1 PM1 : St) (f1 : Nat → Int64), Inv2 S1 → AW p l e room_1 s m args below meth c 7 G A s.heap (cells + 1) (slots + 6) Q ((WX G.2 ad S1 P1 ++ [oL G.2 o f1]) ++ WM G.2 am S1 PM1) [(0, .ref b), (1, .ref (ad 0)), (2, .ref (am 0)), (3, .ref o), (4, .int (zI i))] 1257 []) : AW p l e room_1 s m args below meth c 7 G A s.heap cells slots Q ((WX G.2 ad S P ++ [oL G.2 o f]) ++ WM G.2 am S PM) [(0, .ref b), (1, .ref (ad 0)), (2, .ref (am 0)), (3, .ref o), (4, .int (zI i))] 1044 [] := by
  have hts := C.2.2.2.2.1
  have hN : NX s := X.2.1.1
  refine aw_aload_n C dL_law_1044 rfl ?_
  refine aw_aload_n C dL_law_1045 rfl ?_
  refine aw_iload C dL_law_1046 rfl ?_
  refine aw_iconst C dL_law_1048 ?_
  refine aw_iadd C dL_law_1049 ?_
  refine aw_sld C X (by omega) (by omega) dL_law_1050 ?_
  refine aw_aload_n C dL_law_1051 rfl ?_
  refine aw_hs (As := [.ref (ad 0), .int (zI (xs (i + 1).toNat).toInt), .ref o]) C X (h_assembledAt X.1 hI.1 (zI_rng _)) (vx_cwSW 3 hts gL_law_L_assembledAt rfl rfl rfl (by decide +kernel) ⟨Nat.le_of_ble_eq_true rfl, Nat.le_of_ble_eq_true rfl⟩) rfl rfl dL_law_1052 hf (fun r u q => ?_)
  obtain ⟨rfl, S1, P9, f9, rfl, g1, g2⟩ := pH_get q
  have hk9 : 0 ≤ kAsA S (xs (i + 1).toNat).toInt ∧ kAsA S (xs (i + 1).toNat).toInt ≤ 3 := by unfold kAsA; (repeat' split) <;> omega
  refine aw_istore C dL_law_1055 rfl rfl ?_
  refine aw_swap ?_
  refine aw_aload_n C dL_law_1057 rfl ?_
  refine aw_aload_n C dL_law_1058 rfl ?_
  refine aw_iload C dL_law_1059 rfl ?_
  refine aw_iconst C dL_law_1061 ?_
  refine aw_iadd C dL_law_1062 ?_
  refine aw_sld C X (by omega) (by omega) dL_law_1063 ?_
  refine cW1i (ci := 3) (q0 := 0) C hN (c_X3_assembledAt hI.1 (zI_rng _)) (by exact cwV 1 hts gL_law_X3_assembledAt rfl rfl rfl (by decide +kernel) ⟨Nat.le_of_ble_eq_true rfl, Nat.le_of_ble_eq_true rfl⟩) rfl rfl rfl rfl dL_law_1064 hf (fun r2 u2 q => ?_)
  obtain ⟨PM9, t1, rfl, t2⟩ := pM_get (fun x => (g1 x).1) g2 q
  refine aw_istore C dL_law_1067 rfl rfl ?_
  have KT : AW p l e room_1 s m args below meth c 7 G A s.heap (cells + 1) (slots + 6) Q (WM G.2 am S1 PM9 ++ (WX G.2 ad S1 P9 ++ [oL G.2 o f9])) [(0, .ref b), (1, .ref (ad 0)), (2, .ref (am 0)), (3, .ref o), (4, .int (zI i)), (5, .int (zI (kAsA S (xs (i + 1).toNat).toInt))), (6, .int (zI r2))] 1097 [] := by
    refine aw_goto (tgt := 1257) C dL_law_1097 (by decide) ?_
    refine aw_swap ?_
    exact aw_lsub (lv' := [(0, .ref b), (1, .ref (ad 0)), (2, .ref (am 0)), (3, .ref o), (4, .int (zI i))]) (fun q hq => List.mem_append_left ([(5, Value.int (zI (kAsA S (xs (i + 1).toNat).toInt))), (6, Value.int (zI r2))] : List (Nat × Value)) hq) (K S1 P9 PM9 f9 (inv_if hI (fun _ => hI) (fun x => (g1 x).1) g2))
  refine aw_aload_n C dL_law_1069 rfl ?_
  refine cW0i (ci := 3) (q0 := 0) C hN c_X3_thrown (by exact cwV 0 hts gL_law_X3_thrown rfl rfl rfl (by decide +kernel) ⟨Nat.le_of_ble_eq_true rfl, Nat.le_of_ble_eq_true rfl⟩) rfl rfl rfl rfl dL_law_1070 hf (fun r3 u3 q => ?_)
  obtain ⟨rfl, rfl⟩ := q
  rw [t1]
  refine aw_iload C dL_law_1073 rfl ?_
  refine aw_same (tgt := 1080) C dL_law_1075 (by decide) ?_
  refine aw_iload C dL_law_1080 rfl ?_
  refine aw_if_ne (tgt := 1097) C dL_law_1082 (by decide) (by omega) (fun _ => KT) (fun hz9 => ?_)
  refine aw_aload_n C dL_law_1085 rfl ?_
  refine aw_iconst C dL_law_1086 ?_
  refine aw_laload (q0 := 36) (f := f9) C rfl dL_law_1087 ?_
  refine aw_iload C dL_law_1088 rfl ?_
  refine aw_i2l C dL_law_1090 ?_
  rw [(g1 hz9).2, t2 hz9]
  refine aw_lcmp C dL_law_1091 ?_
  refine aw_if_eq (tgt := 1097) C dL_law_1092 (by decide) (by omega) (fun _ => ?_) (fun h => absurd rfl h)
  rw [t2 hz9] at KT
  exact KT
set_option maxHeartbeats 4000000 in
set_option maxRecDepth 100000 in
theorem law_lateness {p : Program} {l : Launch} {e : Env} {s : State} {m : MethodId} {args : Array Value} {below : List Frame} {meth : Method} {c : Code} {G : va_G × (Nat → ClassId)} {A : Nat → Prop} {cells slots : Nat} {Q : State → Prop} {sa : Nat → Nat} {b L : Nat} {xs : Nat → Int32} {ad am : Nat → Nat} {o : Nat} {f : Nat → Int64} {S P PM : St} {i : Int} (C : cx p l s m args meth c cL_law 7 (some .boolean) wsL_law RL G A s.heap) (X : XL l s sa A b L xs) (hI : Inv2 S) (h0 : 0 ≤ i) (h4 : i + 4 ≤ (L : Int)) (hf : cells + 1 ≤ room_1.cells ∧ slots + 6 ≤ room_1.slots) (K : ∀ (S1 P1 PM1 : St) (f1 : Nat → Int64), Inv2 S1 → AW p l e room_1 s m args below meth c 7 G A s.heap (cells + 1) (slots + 6) Q ((WX G.2 ad S1 P1 ++ [oL G.2 o f1]) ++ WM G.2 am S1 PM1) [(0, .ref b), (1, .ref (ad 0)), (2, .ref (am 0)), (3, .ref o), (4, .int (zI i))] 1257 []) : AW p l e room_1 s m args below meth c 7 G A s.heap cells slots Q ((WX G.2 ad S P ++ [oL G.2 o f]) ++ WM G.2 am S PM) [(0, .ref b), (1, .ref (ad 0)), (2, .ref (am 0)), (3, .ref o), (4, .int (zI i))] 1100 [] := by
  have hts := C.2.2.2.2.1
  have hN : NX s := X.2.1.1
  refine aw_aload_n C dL_law_1100 rfl ?_
  refine aw_aload_n C dL_law_1101 rfl ?_
  refine aw_iload C dL_law_1102 rfl ?_
  refine aw_iconst C dL_law_1104 ?_
  refine aw_iadd C dL_law_1105 ?_
  refine aw_sld C X (by omega) (by omega) dL_law_1106 ?_
  refine aw_aload_n C dL_law_1107 rfl ?_
  refine aw_hs (As := [.ref (ad 0), .int (zI (xs (i + 1).toNat).toInt), .ref o]) C X (h_lateness X.1 hI.1 (zI_rng _)) (vx_cwSW 3 hts gL_law_L_lateness rfl rfl rfl (by decide +kernel) ⟨Nat.le_of_ble_eq_true rfl, Nat.le_of_ble_eq_true rfl⟩) rfl rfl dL_law_1108 hf (fun r u q => ?_)
  obtain ⟨rfl, S1, P9, f9, rfl, g1, g2⟩ := pH_get q
  have hk9 : 0 ≤ kLat S (xs (i + 1).toNat).toInt ∧ kLat S (xs (i + 1).toNat).toInt ≤ 3 := by unfold kLat; (repeat' split) <;> omega
  refine aw_istore C dL_law_1111 rfl rfl ?_
  refine aw_swap ?_
  refine aw_aload_n C dL_law_1113 rfl ?_
  refine aw_aload_n C dL_law_1114 rfl ?_
  refine aw_iload C dL_law_1115 rfl ?_
  refine aw_iconst C dL_law_1117 ?_
  refine aw_iadd C dL_law_1118 ?_
  refine aw_sld C X (by omega) (by omega) dL_law_1119 ?_
  refine cW1i (ci := 3) (q0 := 0) C hN (c_X3_lateness hI.1 (zI_rng _)) (by exact cwV 1 hts gL_law_X3_lateness rfl rfl rfl (by decide +kernel) ⟨Nat.le_of_ble_eq_true rfl, Nat.le_of_ble_eq_true rfl⟩) rfl rfl rfl rfl dL_law_1120 hf (fun r2 u2 q => ?_)
  obtain ⟨PM9, t1, rfl, t2⟩ := pM_get (fun x => (g1 x).1) g2 q
  refine aw_istore C dL_law_1123 rfl rfl ?_
  have KT : AW p l e room_1 s m args below meth c 7 G A s.heap (cells + 1) (slots + 6) Q (WM G.2 am S1 PM9 ++ (WX G.2 ad S1 P9 ++ [oL G.2 o f9])) [(0, .ref b), (1, .ref (ad 0)), (2, .ref (am 0)), (3, .ref o), (4, .int (zI i)), (5, .int (zI (kLat S (xs (i + 1).toNat).toInt))), (6, .int (zI r2))] 1153 [] := by
    refine aw_goto (tgt := 1257) C dL_law_1153 (by decide) ?_
    refine aw_swap ?_
    exact aw_lsub (lv' := [(0, .ref b), (1, .ref (ad 0)), (2, .ref (am 0)), (3, .ref o), (4, .int (zI i))]) (fun q hq => List.mem_append_left ([(5, Value.int (zI (kLat S (xs (i + 1).toNat).toInt))), (6, Value.int (zI r2))] : List (Nat × Value)) hq) (K S1 P9 PM9 f9 (inv_if hI (fun _ => hI) (fun x => (g1 x).1) g2))
  refine aw_aload_n C dL_law_1125 rfl ?_
  refine cW0i (ci := 3) (q0 := 0) C hN c_X3_thrown (by exact cwV 0 hts gL_law_X3_thrown rfl rfl rfl (by decide +kernel) ⟨Nat.le_of_ble_eq_true rfl, Nat.le_of_ble_eq_true rfl⟩) rfl rfl rfl rfl dL_law_1126 hf (fun r3 u3 q => ?_)
  obtain ⟨rfl, rfl⟩ := q
  rw [t1]
  refine aw_iload C dL_law_1129 rfl ?_
  refine aw_same (tgt := 1136) C dL_law_1131 (by decide) ?_
  refine aw_iload C dL_law_1136 rfl ?_
  refine aw_if_ne (tgt := 1153) C dL_law_1138 (by decide) (by omega) (fun _ => KT) (fun hz9 => ?_)
  refine aw_aload_n C dL_law_1141 rfl ?_
  refine aw_iconst C dL_law_1142 ?_
  refine aw_laload (q0 := 36) (f := f9) C rfl dL_law_1143 ?_
  refine aw_iload C dL_law_1144 rfl ?_
  refine aw_i2l C dL_law_1146 ?_
  rw [(g1 hz9).2, t2 hz9]
  refine aw_lcmp C dL_law_1147 ?_
  refine aw_if_eq (tgt := 1153) C dL_law_1148 (by decide) (by omega) (fun _ => ?_) (fun h => absurd rfl h)
  rw [t2 hz9] at KT
  exact KT
set_option maxHeartbeats 4000000 in
set_option maxRecDepth 100000 in
theorem law_worstLateness {p : Program} {l : Launch} {e : Env} {s : State} {m : MethodId} {args : Array Value} {below : List Frame} {meth : Method} {c : Code} {G : va_G × (Nat → ClassId)} {A : Nat → Prop} {cells slots : Nat} {Q : State → Prop} {sa : Nat → Nat} {b L : Nat} {xs : Nat → Int32} {ad am : Nat → Nat} {o : Nat} {f : Nat → Int64} {S P PM : St} {i : Int} (C : cx p l s m args meth c cL_law 7 (some .boolean) wsL_law RL G A s.heap) (X : XL l s sa A b L xs) (hI : Inv2 S) (h0 : 0 ≤ i) (h4 : i + 4 ≤ (L : Int)) (hf : cells + 1 ≤ room_1.cells ∧ slots + 6 ≤ room_1.slots) (K : ∀ (S1 P1 PM1 : St) (f1 : Nat → Int64), Inv2 S1 → AW p l e room_1 s m args below meth c 7 G A s.heap (cells + 1) (slots + 6) Q ((WX G.2 ad S1 P1 ++ [oL G.2 o f1]) ++ WM G.2 am S1 PM1) [(0, .ref b), (1, .ref (ad 0)), (2, .ref (am 0)), (3, .ref o), (4, .int (zI i))] 1257 []) : AW p l e room_1 s m args below meth c 7 G A s.heap cells slots Q ((WX G.2 ad S P ++ [oL G.2 o f]) ++ WM G.2 am S PM) [(0, .ref b), (1, .ref (ad 0)), (2, .ref (am 0)), (3, .ref o), (4, .int (zI i))] 1156 [] := by
  have hts := C.2.2.2.2.1
  have hN : NX s := X.2.1.1
  refine aw_widen (k := cells + 1) (n := slots + 6) (Nat.le_succ _) (Nat.le_add_right _ _) ?_
  refine aw_aload_n C dL_law_1156 rfl ?_
  rw [List.append_assoc]
  refine cW0i (ci := 2) (q0 := 0) C hN (c_X2_worstLateness hI.1) (by exact cwV 0 hts gL_law_X2_worstLateness rfl rfl rfl (by decide +kernel) ⟨Nat.le_of_ble_eq_true rfl, Nat.le_of_ble_eq_true rfl⟩) rfl rfl rfl rfl dL_law_1157 ⟨Nat.le_trans (Nat.le_refl _) hf.1, Nat.le_trans (Nat.le_refl _) hf.2⟩ (fun r u q => ?_)
  obtain ⟨rfl, rfl⟩ := q
  rw [← List.append_assoc]
  refine aw_swap ?_
  refine aw_aload_n C dL_law_1160 rfl ?_
  refine cW0i (ci := 3) (q0 := 0) C hN (c_X3_worstLateness hI.1) (by exact cwV 0 hts gL_law_X3_worstLateness rfl rfl rfl (by decide +kernel) ⟨Nat.le_of_ble_eq_true rfl, Nat.le_of_ble_eq_true rfl⟩) rfl rfl rfl rfl dL_law_1161 ⟨Nat.le_trans (Nat.le_refl _) hf.1, Nat.le_trans (Nat.le_refl _) hf.2⟩ (fun r2 u2 q => ?_)
  obtain ⟨rfl, PM9, rfl⟩ := q
  refine aw_same (tgt := 1257) C dL_law_1164 (by decide) ?_
  exact aw_swap (K S P PM9 f hI)
set_option maxHeartbeats 4000000 in
set_option maxRecDepth 100000 in
theorem law_fewestChanges {p : Program} {l : Launch} {e : Env} {s : State} {m : MethodId} {args : Array Value} {below : List Frame} {meth : Method} {c : Code} {G : va_G × (Nat → ClassId)} {A : Nat → Prop} {cells slots : Nat} {Q : State → Prop} {sa : Nat → Nat} {b L : Nat} {xs : Nat → Int32} {ad am : Nat → Nat} {o : Nat} {f : Nat → Int64} {S P PM : St} {i : Int} (C : cx p l s m args meth c cL_law 7 (some .boolean) wsL_law RL G A s.heap) (X : XL l s sa A b L xs) (hI : Inv2 S) (h0 : 0 ≤ i) (h4 : i + 4 ≤ (L : Int)) (hf : cells + 1 ≤ room_1.cells ∧ slots + 6 ≤ room_1.slots) (K : ∀ (S1 P1 PM1 : St) (f1 : Nat → Int64), Inv2 S1 → AW p l e room_1 s m args below meth c 7 G A s.heap (cells + 1) (slots + 6) Q ((WX G.2 ad S1 P1 ++ [oL G.2 o f1]) ++ WM G.2 am S1 PM1) [(0, .ref b), (1, .ref (ad 0)), (2, .ref (am 0)), (3, .ref o), (4, .int (zI i))] 1257 []) : AW p l e room_1 s m args below meth c 7 G A s.heap cells slots Q ((WX G.2 ad S P ++ [oL G.2 o f]) ++ WM G.2 am S PM) [(0, .ref b), (1, .ref (ad 0)), (2, .ref (am 0)), (3, .ref o), (4, .int (zI i))] 1169 [] := by
  have hts := C.2.2.2.2.1
  have hN : NX s := X.2.1.1
  refine aw_aload_n C dL_law_1169 rfl ?_
  refine aw_aload_n C dL_law_1170 rfl ?_
  refine aw_hs (As := [.ref (ad 0), .ref o]) C X (h_fewestChanges X.1 hI.1 ) (vx_cwSW 2 hts gL_law_L_fewestChanges rfl rfl rfl (by decide +kernel) ⟨Nat.le_of_ble_eq_true rfl, Nat.le_of_ble_eq_true rfl⟩) rfl rfl dL_law_1171 hf (fun r u q => ?_)
  obtain ⟨rfl, S1, P9, f9, rfl, g1, g2⟩ := pH_get q
  have hk9 : 0 ≤ kFew S 12 ∧ kFew S 12 ≤ 3 := by unfold kFew; (repeat' split) <;> omega
  refine aw_istore C dL_law_1174 rfl rfl ?_
  refine aw_swap ?_
  refine aw_aload_n C dL_law_1176 rfl ?_
  refine cW0i (ci := 3) (q0 := 0) C hN (c_X3_fewestChanges hI.1) (by exact cwV 0 hts gL_law_X3_fewestChanges rfl rfl rfl (by decide +kernel) ⟨Nat.le_of_ble_eq_true rfl, Nat.le_of_ble_eq_true rfl⟩) rfl rfl rfl rfl dL_law_1177 hf (fun r2 u2 q => ?_)
  obtain ⟨PM9, t1, rfl, t2⟩ := pM_get (fun x => (g1 x).1) g2 q
  refine aw_istore C dL_law_1180 rfl rfl ?_
  have KT : AW p l e room_1 s m args below meth c 7 G A s.heap (cells + 1) (slots + 6) Q (WM G.2 am S1 PM9 ++ (WX G.2 ad S1 P9 ++ [oL G.2 o f9])) [(0, .ref b), (1, .ref (ad 0)), (2, .ref (am 0)), (3, .ref o), (4, .int (zI i)), (5, .int (zI (kFew S 12))), (6, .int (zI r2))] 1210 [] := by
    refine aw_goto (tgt := 1257) C dL_law_1210 (by decide) ?_
    refine aw_swap ?_
    exact aw_lsub (lv' := [(0, .ref b), (1, .ref (ad 0)), (2, .ref (am 0)), (3, .ref o), (4, .int (zI i))]) (fun q hq => List.mem_append_left ([(5, Value.int (zI (kFew S 12))), (6, Value.int (zI r2))] : List (Nat × Value)) hq) (K S1 P9 PM9 f9 (inv_if hI (fun _ => hI) (fun x => (g1 x).1) g2))
  refine aw_aload_n C dL_law_1182 rfl ?_
  refine cW0i (ci := 3) (q0 := 0) C hN c_X3_thrown (by exact cwV 0 hts gL_law_X3_thrown rfl rfl rfl (by decide +kernel) ⟨Nat.le_of_ble_eq_true rfl, Nat.le_of_ble_eq_true rfl⟩) rfl rfl rfl rfl dL_law_1183 hf (fun r3 u3 q => ?_)
  obtain ⟨rfl, rfl⟩ := q
  rw [t1]
  refine aw_iload C dL_law_1186 rfl ?_
  refine aw_same (tgt := 1193) C dL_law_1188 (by decide) ?_
  refine aw_iload C dL_law_1193 rfl ?_
  refine aw_if_ne (tgt := 1210) C dL_law_1195 (by decide) (by omega) (fun _ => KT) (fun hz9 => ?_)
  refine aw_aload_n C dL_law_1198 rfl ?_
  refine aw_iconst C dL_law_1199 ?_
  refine aw_laload (q0 := 36) (f := f9) C rfl dL_law_1200 ?_
  refine aw_iload C dL_law_1201 rfl ?_
  refine aw_i2l C dL_law_1203 ?_
  rw [(g1 hz9).2, t2 hz9]
  refine aw_lcmp C dL_law_1204 ?_
  refine aw_if_eq (tgt := 1210) C dL_law_1205 (by decide) (by omega) (fun _ => ?_) (fun h => absurd rfl h)
  rw [t2 hz9] at KT
  exact KT
set_option maxHeartbeats 4000000 in
set_option maxRecDepth 100000 in
theorem law_fewestByAll {p : Program} {l : Launch} {e : Env} {s : State} {m : MethodId} {args : Array Value} {below : List Frame} {meth : Method} {c : Code} {G : va_G × (Nat → ClassId)} {A : Nat → Prop} {cells slots : Nat} {Q : State → Prop} {sa : Nat → Nat} {b L : Nat} {xs : Nat → Int32} {ad am : Nat → Nat} {o : Nat} {f : Nat → Int64} {S P PM : St} {i : Int} (C : cx p l s m args meth c cL_law 7 (some .boolean) wsL_law RL G A s.heap) (X : XL l s sa A b L xs) (hI : Inv2 S) (h0 : 0 ≤ i) (h4 : i + 4 ≤ (L : Int)) (hf : cells + 1 ≤ room_1.cells ∧ slots + 6 ≤ room_1.slots) (K : ∀ (S1 P1 PM1 : St) (f1 : Nat → Int64), Inv2 S1 → AW p l e room_1 s m args below meth c 7 G A s.heap (cells + 1) (slots + 6) Q ((WX G.2 ad S1 P1 ++ [oL G.2 o f1]) ++ WM G.2 am S1 PM1) [(0, .ref b), (1, .ref (ad 0)), (2, .ref (am 0)), (3, .ref o), (4, .int (zI i))] 1257 []) : AW p l e room_1 s m args below meth c 7 G A s.heap cells slots Q ((WX G.2 ad S P ++ [oL G.2 o f]) ++ WM G.2 am S PM) [(0, .ref b), (1, .ref (ad 0)), (2, .ref (am 0)), (3, .ref o), (4, .int (zI i))] 1213 [] := by
  have hts := C.2.2.2.2.1
  have hN : NX s := X.2.1.1
  refine aw_aload_n C dL_law_1213 rfl ?_
  refine aw_aload_n C dL_law_1214 rfl ?_
  refine aw_hs (As := [.ref (ad 0), .ref o]) C X (h_fewestByAll X.1 hI.1 ) (vx_cwSW 2 hts gL_law_L_fewestByAll rfl rfl rfl (by decide +kernel) ⟨Nat.le_of_ble_eq_true rfl, Nat.le_of_ble_eq_true rfl⟩) rfl rfl dL_law_1215 hf (fun r u q => ?_)
  obtain ⟨rfl, S1, P9, f9, rfl, g1, g2⟩ := pH_get q
  have hk9 : 0 ≤ kFew S 8 ∧ kFew S 8 ≤ 3 := by unfold kFew; (repeat' split) <;> omega
  refine aw_istore C dL_law_1218 rfl rfl ?_
  refine aw_swap ?_
  refine aw_aload_n C dL_law_1220 rfl ?_
  refine cW0i (ci := 3) (q0 := 0) C hN (c_X3_fewestByAll hI.1) (by exact cwV 0 hts gL_law_X3_fewestByAll rfl rfl rfl (by decide +kernel) ⟨Nat.le_of_ble_eq_true rfl, Nat.le_of_ble_eq_true rfl⟩) rfl rfl rfl rfl dL_law_1221 hf (fun r2 u2 q => ?_)
  obtain ⟨PM9, t1, rfl, t2⟩ := pM_get (fun x => (g1 x).1) g2 q
  refine aw_istore C dL_law_1224 rfl rfl ?_
  have KT : AW p l e room_1 s m args below meth c 7 G A s.heap (cells + 1) (slots + 6) Q (WM G.2 am S1 PM9 ++ (WX G.2 ad S1 P9 ++ [oL G.2 o f9])) [(0, .ref b), (1, .ref (ad 0)), (2, .ref (am 0)), (3, .ref o), (4, .int (zI i)), (5, .int (zI (kFew S 8))), (6, .int (zI r2))] 1254 [] := by
    refine aw_goto (tgt := 1257) C dL_law_1254 (by decide) ?_
    refine aw_swap ?_
    exact aw_lsub (lv' := [(0, .ref b), (1, .ref (ad 0)), (2, .ref (am 0)), (3, .ref o), (4, .int (zI i))]) (fun q hq => List.mem_append_left ([(5, Value.int (zI (kFew S 8))), (6, Value.int (zI r2))] : List (Nat × Value)) hq) (K S1 P9 PM9 f9 (inv_if hI (fun _ => hI) (fun x => (g1 x).1) g2))
  refine aw_aload_n C dL_law_1226 rfl ?_
  refine cW0i (ci := 3) (q0 := 0) C hN c_X3_thrown (by exact cwV 0 hts gL_law_X3_thrown rfl rfl rfl (by decide +kernel) ⟨Nat.le_of_ble_eq_true rfl, Nat.le_of_ble_eq_true rfl⟩) rfl rfl rfl rfl dL_law_1227 hf (fun r3 u3 q => ?_)
  obtain ⟨rfl, rfl⟩ := q
  rw [t1]
  refine aw_iload C dL_law_1230 rfl ?_
  refine aw_same (tgt := 1237) C dL_law_1232 (by decide) ?_
  refine aw_iload C dL_law_1237 rfl ?_
  refine aw_if_ne (tgt := 1254) C dL_law_1239 (by decide) (by omega) (fun _ => KT) (fun hz9 => ?_)
  refine aw_aload_n C dL_law_1242 rfl ?_
  refine aw_iconst C dL_law_1243 ?_
  refine aw_laload (q0 := 36) (f := f9) C rfl dL_law_1244 ?_
  refine aw_iload C dL_law_1245 rfl ?_
  refine aw_i2l C dL_law_1247 ?_
  rw [(g1 hz9).2, t2 hz9]
  refine aw_lcmp C dL_law_1248 ?_
  refine aw_if_eq (tgt := 1254) C dL_law_1249 (by decide) (by omega) (fun _ => ?_) (fun h => absurd rfl h)
  rw [t2 hz9] at KT
  exact KT
