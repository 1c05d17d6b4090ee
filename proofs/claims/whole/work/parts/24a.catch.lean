/-! A CALL THAT IS CAUGHT -/
def NH (U : State) : Prop := va_Nc eISE eIAE U ∧ va_Nc eIOB eIAE U ∧ va_Nc eISE eIOB U
theorem NH.moved {u U : State} (hvm : u.vm.Alike U.vm) (h : NH u) : NH U := ⟨h.1.moved hvm, h.2.1.moved hvm, h.2.2.moved hvm⟩
def PXh (G : va_G × (Nat → ClassId)) (sa : Nat → Nat) (As : List Value) (w0 : va_W) (sz : Nat) : Array Value → State → Prop := va_Pc As (fun U => U.heap.size = sz ∧ va_P G.1 vwCl w0 U.heap ∧ va_K G.1 vwCl (tG G) U ∧ va_D (fun _ => True) w0 ∧ NT sa U ∧ ZQ (va_A w0 sz) U U.heap ∧ NH U)
theorem PXh_blind {G : va_G × (Nat → ClassId)} {sa : Nat → Nat} {As : List Value} {w0 : va_W} {sz : Nat} : FrameBlind (PXh G sa As w0 sz) := fun a U g mk q => by
  obtain ⟨q0, q1, qP, qK, qD, qN, qZ, qH⟩ := q
  exact ⟨q0, q1, qP, va_K.moved (u := U) (U := U.calling g mk a) (Vm.Alike.refl U.vm) qK, qD, NT.same (rfl : U.vm = (U.calling g mk a).vm) qN, ZQ.moved (u := U) (U := U.calling g mk a) (Vm.Alike.refl U.vm) qZ, NH.moved (u := U) (U := U.calling g mk a) (Vm.Alike.refl U.vm) qH⟩
/-- a helper of the law: it always returns -/
def Mh (l : Launch) (G : va_G × (Nat → ClassId)) (sa : Nat → Nat) (y : MethodName) (ws : List Cond) (rm : Room) (As : List Value) (w0 : va_W) (post : Int → va_W → Prop) : Prop := ∀ sz : Nat, Met l y ws rm (PXh G sa As w0 sz) (QPi G post (va_A w0 sz)) 1 6 (va_A w0 sz)
def XH (l : Launch) (s : State) (c : Code) (sa : Nat → Nat) (A : Nat → Prop) (hh : List (Nat × Nat × Nat × Nat)) : Prop := l.stackTraces = false ∧ NT sa s ∧ ZQ A s s.heap ∧ NH s ∧ c.exceptionTable.toList = tableOf hh
theorem Mh.of {own : String} {l : Launch} {G : va_G × (Nat → ClassId)} {sa : Nat → Nat} {y : MethodName} {ws ws' : List Cond} {rm : Room} {As : List Value} {w0 : va_W} {post : Int → va_W → Prop} {cc : ByteArray} {maxL : Nat} {ret : Option FieldType} {hh : List (Nat × Nat × Nat × Nat)} (hl : l.stackTraces = false) (hy : plainName y.cls = true) (ho : y.cls = own) (hw : ws = Cond.codeWith y cc maxL ret hh :: ws') (hlen : Nat.ble (lg_sl As).length maxL = true)
    (body : ∀ (p : Program) (e : Env) (s : State) (m : MethodId) (args : Array Value) (below : List Frame) (meth : Method) (c : Code) (A : Nat → Prop), cx p l s m args meth c cc maxL ret ws own G A s.heap → XH l s c sa A hh → AW p l e (headSpec ws rm).room s m args below meth c maxL G A s.heap 0 0 (MQ below (QPi G post A) args s 1 6 A) w0 (lv_args 0 As) 0 []) : Mh l G sa y ws rm As w0 post := by
  intro sz
  refine MetFree.of_bodyS (code := cc) (maxLocals := maxL) (ret := ret) hy ?_ ?_
  · intro args s m h hn
    obtain ⟨m9, meth, c, hn9, h1, h2, h3, h4, -, h5, h6, -⟩ := Cond.codeWith_spec (atoms_spec (ws := ws) h _ (by rw [hw]; exact List.mem_cons_self))
    cases hn.symm.trans hn9
    exact ⟨meth, c, h1, h2, h3, h4, h5, h6⟩
  · intro p e s m args below meth c s₁ B hml hP _
    have hh0 : s₁.heap = s.heap := by rw [B.state]; rfl
    obtain ⟨rfl, hsz, hPw, hK, hD0, hN, hZ, hH⟩ := hP
    have hts := atoms_spec (ws := ws) B.pre
    subst hsz
    have ht := vx_table (x := y) B (hts _ (by rw [hw]; exact List.mem_cons_self))
    have K := body p e s m _ below meth c (va_A w0 s.heap.size) ⟨B.exec, B.bytes, hml, (by rw [← ho]; exact findClass_of_methodNamed B.named), hts, hK, fun _ h => Or.inr h, B.notSynchronized, B.returns⟩ ⟨hl, hN, hZ, hH, ht⟩ s.heap [] _ hPw hD0.self va_S.rf (lv_entry As (Nat.le_of_ble_eq_true hlen))
    rw [← lg_entry_eq] at K
    obtain ⟨t, a1, o, b1, b2, b3⟩ := K s₁ hh0 (Stand.of_body B)
    exact ⟨t, o, a1, b1, b2, ⟨b3.1, b3.2⟩⟩
section AWH
variable {p : Program} {l : Launch} {e : Env} {R : Room} {s : State} {m : MethodId} {args : Array Value} {below : List Frame} {meth : Method} {c : Code} {nL : Nat} {G : va_G × (Nat → ClassId)} {A : Nat → Prop} {cells slots : Nat} {Q : State → Prop} {H0 : Heap}
variable {cc : ByteArray} {ret : Option FieldType} {Ts : List Cond} {own : String} {ws : va_W} {lv : List (Nat × Value)} {pc : Nat} {st : List Value} {sa : Nat → Nat} {hh : List (Nat × Nat × Nat × Nat)}
theorem aw_iretH {post : Int → va_W → Prop} {z : Int} (C : cx p l s m args meth c cc nL (some .int) Ts own G A s.heap) (hd : decode cc pc = .ok (.ireturn, 1)) (h : post z ws) : AW p l e R s m args below meth c nL G A s.heap cells slots (MQ below (QPi G post A) args s cells slots A) ws lv pc [.int (zI z)] :=
  fun H locs ls hP hD hS hl => W.iret C.1 C.2.1 C.2.2.2.2.2.2.2.2 (fun t ht hW => ⟨⟨zI z, (z, ws), rfl, ⟨rfl, h⟩, by rw [ht]; exact hP, hD⟩, hS.F ht⟩) hS.2.2 hd C.2.2.2.2.2.2.2.1
theorem aw_i2l (C : cx p l s m args meth c cc nL ret Ts own G A H0) {x : Int32} (hd : decode cc pc = .ok (.i2l, 1)) (k : AW p l e R s m args below meth c nL G A H0 cells slots Q ws lv (pc + 1) (.long x.toInt64 :: st)) : AW p l e R s m args below meth c nL G A H0 cells slots Q ws lv pc (.int x :: st) :=
  fun H locs ls hP hD hS hl => lv_i2l C.1 C.2.1 hd rfl (k H locs ls hP hD hS hl)
abbrev oL (kc : Nat → ClassId) (o : Nat) (f : Nat → Int64) : Nat × va_E := (o, .inl (kc 3, 1, .inr (.inl f)))
theorem aw_lastore (C : cx p l s m args meth c cc nL ret Ts own G A H0) {q0 o : Nat} {f : Nat → Int64} {x : Int64} {ws' : va_W} (he : ws[q0]? = some (oL G.2 o f)) (hw : ws.set q0 (oL G.2 o (vp_updL f 0 x)) = ws') (hd : decode cc pc = .ok (.lastore, 1)) (k : AW p l e R s m args below meth c nL G A H0 cells slots Q ws' lv (pc + 1) st) : AW p l e R s m args below meth c nL G A H0 cells slots Q ws lv pc (.long x :: .int (zI 0) :: .ref o :: st) := by
  subst hw
  exact fun H locs ls hP hD hS hl => va_last C.1 C.2.1 C.2.2.2.2.2.1 hP hD hS q0 3 he rfl (zI_in (n := 1) (by omega) (by omega) (by omega)) hd (fun H1 locs1 hP1 hD1 hS1 => k H1 locs1 ls hP1 hD1 hS1 hl)
theorem aw_laload (C : cx p l s m args meth c cc nL ret Ts own G A H0) {q0 o : Nat} {f : Nat → Int64} (he : ws[q0]? = some (oL G.2 o f)) (hd : decode cc pc = .ok (.laload, 1)) (k : AW p l e R s m args below meth c nL G A H0 cells slots Q ws lv (pc + 1) (.long (f 0) :: st)) : AW p l e R s m args below meth c nL G A H0 cells slots Q ws lv pc (.int (zI 0) :: .ref o :: st) :=
  fun H locs ls hP hD hS hl => va_lald C.1 C.2.1 C.2.2.2.2.2.1 hP q0 3 he rfl (zI_in (n := 1) (by omega) (by omega) (by omega)) hd (k H locs ls hP hD hS hl)
theorem preX_at (C : cx p l s m args meth c cc nL ret Ts own G A s.heap) (X : XH l s c sa A hh) {wc : va_W} {H : Heap} {locs : List Loc} {As : List Value} (hS : va_S A s.heap H locs) (hF : ∀ q, va_A wc H.size q → A q) (hP : va_P G.1 vwCl wc H) (hD : va_D (fun _ => True) wc) : ∀ U : State, U.heap = H → s.WarmedH U.vm → PXx G sa As wc H.size As.toArray U := fun U hU hW => ⟨rfl, by rw [hU], by rw [hU]; exact hP, va_K.moved hW.alike C.2.2.2.2.2.1, hD, NT.warm hW X.2.1, by
  rw [hU]
  exact ZQ.moved hW.alike ((X.2.2.1.kept (fun a ha hn => hS.2.1 a ha hn)).narrow hF)⟩
/-- where a thrown E goes, from pc -/
def gox (c : Code) (s : State) (args : Array Value) (own : String) (pc : Nat) (hh : List (Nat × Nat × Nat × Nat)) (E : String) (h : Nat) : Prop :=
  ∃ (pre : List (Nat × Nat × Nat × Nat)) (x : Nat × Nat × Nat × Nat) (suf : List (Nat × Nat × Nat × Nat)) (nm : String), hh = pre ++ x :: suf ∧ x.2.2.1 = h ∧ (∀ z ∈ pre, ¬ z.2.2.2 = 0 ∧ ∃ n9 : String, (Cond.classLink own z.2.2.2 n9).before args s = true ∧ va_Nc E n9 s) ∧ covers ⟨x.1, x.2.1, x.2.2.1, x.2.2.2⟩ pc = true ∧ ¬ x.2.2.2 = 0 ∧ (Cond.classLink own x.2.2.2 nm).before args s = true ∧ (Cond.castable E nm).before args s = true
theorem gox_W {H : Heap} {locs : List Loc} {ls : Array Slot} {E : String} {h q9 : Nat} {ce : Cell} (C : cx p l s m args meth c cc nL ret Ts own G A s.heap) (X : XH l s c sa A hh) (g : gox c s args own pc hh E h) (hcell : H[q9]? = some ce) (hv : ce.vm = .none) (hcl : s.vm.findClass E = some ce.cls) (kk : W p l e R s m args below meth c H locs cells slots Q (F0 m h ls [.ref q9])) : vx_W p l e R s m args below meth c H locs cells slots Q (F0 m pc ls st) q9 := by
  obtain ⟨pre, x, suf, nm, rfl, rfl, h1, h2, h3, h4, h5⟩ := g
  exact vx_catch C.2.2.2.1 (tableOf pre) ⟨x.1, x.2.1, x.2.2.1, x.2.2.2⟩ (tableOf suf) (by rw [X.2.2.2.2]; unfold tableOf; simp) (fun z hz => by
    unfold tableOf at hz
    obtain ⟨y, hy, rfl⟩ := List.mem_map.mp hz
    exact Or.inr (h1 y hy)) h2 h3 h4 h5 hcell hv hcl kk
variable {wc wr : va_W} {y : MethodName} {ws9 : List Cond} {rm : Room} {As : List Value} {b index maxL n : Nat} {Cn : String} {bytes : ByteArray} {rt : Option FieldType}
theorem aw_hi {post : Int → va_W → Prop} {postX : String → va_W → Prop} {ci q0 : Nat} {fs : List Value} {rc : vw_C} (C : cx p l s m args meth c cc nL ret Ts own G A s.heap) (X : XH l s c sa A hh) (hM : Xi l G sa y ws9 rm (.ref b :: As) wc post postX) (cw : CallW R s args own Cn index y bytes maxL rt ws9 rm 1 6 n) (hc : vwCl[ci]? = some rc) (hCn : rc.1 = Cn) (he : wc[q0]? = some (b, .inr (ci, fs))) (hn : As.length = n) (hcat : Nat.ble (st.map fun v => v.category).sum 8 = true) (hd : decode cc pc = .ok (.invokevirtual index, 3)) (hf : cells + 1 ≤ R.cells ∧ slots + 6 ≤ R.slots)
    (kx : ∀ (E : String) (u : va_W), postX E u → ∃ h : Nat, gox c s args own pc hh E h ∧ ∀ q9 : Nat, AW p l e R s m args below meth c nL G A s.heap (cells + 1) (slots + 6) Q (u ++ wr) lv h [.ref q9])
    (kk : ∀ (r : Int) (u : va_W), post r u → AW p l e R s m args below meth c nL G A s.heap (cells + 1) (slots + 6) Q (u ++ wr) lv (pc + 3) (.int (zI r) :: st)) : AW p l e R s m args below meth c nL G A s.heap cells slots Q (wc ++ wr) lv pc (As.reverse ++ .ref b :: st) :=
  fun H locs ls hP hD hS hl => by
    obtain ⟨hPc, hDc, hFc⟩ := aw_pre C hP hD hS
    have hr := vx_runV (e := e) (below := below) (meth := meth) (cells := cells) (slots := slots) (locs := locs) (g := F0 m pc ls (As.reverse ++ .ref b :: st)) (As := As) (rest := st) (fix_of C) (hM H.size) cw ⟨PXx_blind, by obtain ⟨cell, h1, h2, h3⟩ := va_recv C.2.2.2.2.2.1 hPc hc he; exact ⟨cell, h1, h2, by rw [← hCn]; exact h3⟩, preX_at C X hS hFc hPc hDc⟩ rfl hn hl.1 rfl (lv_room (Nat.le_of_ble_eq_true hcat)) hd hf
    refine vx_calli hr hS (fun q _ h => hFc q h) hFc (fun q _ h => hFc q h) (fun E ce q9 u t H1 locs1 ht hvm hpx hB hz1 hk1 hS1 hce hcv hcl => ?_) (fun r u t H1 locs1 ht hvm hw hB hz1 hk1 hS1 => ?_)
    · obtain ⟨hpX, hP1, hD1⟩ := hB
      rw [ht] at hP1
      obtain ⟨hP2, hD2⟩ := jn hP hD hk1 hFc hP1 hD1
      obtain ⟨h, hg, kh⟩ := kx E u hpX
      exact gox_W C X hg hce hcv hcl (kh q9 H1 locs1 ls hP2 hD2 hS1 hl)
    · obtain ⟨rfl, hp⟩ := hw
      obtain ⟨hP1, hD1⟩ := hB
      rw [ht] at hP1
      obtain ⟨hP2, hD2⟩ := jn hP hD hk1 hFc hP1 hD1
      exact kk u.1 u.2 hp H1 locs1 ls hP2 hD2 hS1 hl
theorem aw_hv {post : va_W → Prop} {postX : String → va_W → Prop} {ci q0 : Nat} {fs : List Value} {rc : vw_C} (C : cx p l s m args meth c cc nL ret Ts own G A s.heap) (X : XH l s c sa A hh) (hM : Xv l G sa y ws9 rm (.ref b :: As) wc post postX) (cw : CallW R s args own Cn index y bytes maxL rt ws9 rm 1 6 n) (hc : vwCl[ci]? = some rc) (hCn : rc.1 = Cn) (he : wc[q0]? = some (b, .inr (ci, fs))) (hn : As.length = n) (hcat : Nat.ble (st.map fun v => v.category).sum 8 = true) (hd : decode cc pc = .ok (.invokevirtual index, 3)) (hf : cells + 1 ≤ R.cells ∧ slots + 6 ≤ R.slots)
    (kx : ∀ (E : String) (u : va_W), postX E u → ∃ h : Nat, gox c s args own pc hh E h ∧ ∀ q9 : Nat, AW p l e R s m args below meth c nL G A s.heap (cells + 1) (slots + 6) Q (u ++ wr) lv h [.ref q9])
    (kk : ∀ (u : va_W), post u → AW p l e R s m args below meth c nL G A s.heap (cells + 1) (slots + 6) Q (u ++ wr) lv (pc + 3) st) : AW p l e R s m args below meth c nL G A s.heap cells slots Q (wc ++ wr) lv pc (As.reverse ++ .ref b :: st) :=
  fun H locs ls hP hD hS hl => by
    obtain ⟨hPc, hDc, hFc⟩ := aw_pre C hP hD hS
    have hr := vx_runV (e := e) (below := below) (meth := meth) (cells := cells) (slots := slots) (locs := locs) (g := F0 m pc ls (As.reverse ++ .ref b :: st)) (As := As) (rest := st) (fix_of C) (hM H.size) cw ⟨PXx_blind, by obtain ⟨cell, h1, h2, h3⟩ := va_recv C.2.2.2.2.2.1 hPc hc he; exact ⟨cell, h1, h2, by rw [← hCn]; exact h3⟩, preX_at C X hS hFc hPc hDc⟩ rfl hn hl.1 rfl (lv_room (Nat.le_of_ble_eq_true hcat)) hd hf
    refine vx_callv hr hS (fun q _ h => hFc q h) hFc (fun q _ h => hFc q h) (fun E ce q9 u t H1 locs1 ht hvm hpx hB hz1 hk1 hS1 hce hcv hcl => ?_) (fun u t H1 locs1 ht hvm hw hB hz1 hk1 hS1 => ?_)
    · obtain ⟨hpX, hP1, hD1⟩ := hB
      rw [ht] at hP1
      obtain ⟨hP2, hD2⟩ := jn hP hD hk1 hFc hP1 hD1
      obtain ⟨h, hg, kh⟩ := kx E u hpX
      exact gox_W C X hg hce hcv hcl (kh q9 H1 locs1 ls hP2 hD2 hS1 hl)
    · obtain ⟨hP1, hD1⟩ := hB
      rw [ht] at hP1
      obtain ⟨hP2, hD2⟩ := jn hP hD hk1 hFc hP1 hD1
      exact kk u hw H1 locs1 ls hP2 hD2 hS1 hl
end AWH
/-- what a helper leaves: its number tells how the call ended, the value stands in out -/
def pH (G : va_G × (Nat → ClassId)) (ad : Nat → Nat) (o : Nat) (S S' : St) (k v : Int) : Int → va_W → Prop := fun r u => r = k ∧ ∃ (P9 : St) (f : Nat → Int64), (k = 0 → u = WX G.2 ad S' P9 ++ [oL G.2 o f] ∧ f 0 = (zI v).toInt64) ∧ (¬ k = 0 → u = WX G.2 ad S P9 ++ [oL G.2 o f])
