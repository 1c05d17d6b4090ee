/-! METHODS THAT RETURN OR THROW -/
def eIAE : String := "java/lang/IllegalArgumentException"
def eISE : String := "java/lang/IllegalStateException"
def eIOB : String := "java/lang/IndexOutOfBoundsException"
def eNm : List String := ["java/lang/RuntimeException", "java/lang/Exception"]
def strsX : List (Nat × String) := [(51, "lanes is out of range"), (56, "depth is out of range"), (58, "store is out of range"), (80, "colour is out of range"), (84, "there were 99 bodies"), (105, "there is no such lane"), (111, "the lane has no room"), (117, "the store is full"), (123, "all lanes are empty"), (131, "the lane is empty"), (136, "there are more than 12 bodies in lanes"), (147, "there is no such body"), (159, "the store is empty"), (181, "there is no such position so far"), (183, "the body is not assembled"), (188, "there are more than 8 bodies in lanes")]
def dR : Cond := .declares (Bundle.initS "java/lang/RuntimeException")
def dE : Cond := .declares (Bundle.initS "java/lang/Exception")
def dT : Cond := .declares (Bundle.initS "java/lang/Throwable")
/-- what the tables say of the three exceptions and of the texts -/
def NT (sa : Nat → Nat) (U : State) : Prop := NX U ∧ (va_Nw (.castable eIAE eIAE) U ∧ va_Nw (.castable eISE eISE) U ∧ va_Nw (.castable eIOB eIOB) U) ∧ (va_Nw dR U ∧ va_Nw dE U ∧ va_Nw dT U) ∧ ∀ q ∈ strsX, vk_R RX2 q.1 q.2 (sa q.1) U
theorem NT.warm {sa : Nat → Nat} {s U : State} (hW : s.WarmedH U.vm) (h : NT sa s) : NT sa U := ⟨va_Nw.warmM hW h.1, ⟨va_Nw.warmC hW h.2.1.1, va_Nw.warmC hW h.2.1.2.1, va_Nw.warmC hW h.2.1.2.2⟩, ⟨va_Nw.warmD hW h.2.2.1.1, va_Nw.warmD hW h.2.2.1.2.1, va_Nw.warmD hW h.2.2.1.2.2⟩, fun q hq => (h.2.2.2 q hq).warm hW⟩
theorem NT.same {sa : Nat → Nat} {u U : State} (e : u.vm = U.vm) (h : NT sa u) : NT sa U := ⟨va_Nw.same rfl e h.1, ⟨va_Nw.same rfl e h.2.1.1, va_Nw.same rfl e h.2.1.2.1, va_Nw.same rfl e h.2.1.2.2⟩, ⟨va_Nw.same rfl e h.2.2.1.1, va_Nw.same rfl e h.2.2.1.2.1, va_Nw.same rfl e h.2.2.1.2.2⟩, fun q hq => (h.2.2.2 q hq).same e.symm⟩
/-- the two statics that a Throwable reads: they lie outside A -/
def ZQ (A : Nat → Prop) (U : State) (H : Heap) : Prop := vx_Zq Bundle.tN "UNASSIGNED_STACK" Bundle.steD A U H ∧ vx_Zq Bundle.tN "SUPPRESSED_SENTINEL" Bundle.listD A U H
theorem ZQ.moved {A : Nat → Prop} {u U : State} {H : Heap} (hvm : u.vm.Alike U.vm) (h : ZQ A u H) : ZQ A U H := ⟨h.1.moved hvm, h.2.moved hvm⟩
theorem ZQ.kept {A : Nat → Prop} {U : State} {H H1 : Heap} (h : ZQ A U H) (hq : ∀ a : Nat, a < H.size → ¬ A a → H1[a]? = H[a]?) : ZQ A U H1 := ⟨h.1.kept hq, h.2.kept hq⟩
theorem ZQ.narrow {A B : Nat → Prop} {U : State} {H : Heap} (h : ZQ A U H) (hAB : ∀ q, B q → A q) : ZQ B U H := ⟨h.1.narrow hAB, h.2.narrow hAB⟩
def PXx (G : va_G × (Nat → ClassId)) (sa : Nat → Nat) (As : List Value) (w0 : va_W) (sz : Nat) : Array Value → State → Prop := va_Pc As (fun U => U.heap.size = sz ∧ va_P G.1 vwCl w0 U.heap ∧ va_K G.1 vwCl (tG G) U ∧ va_D (fun _ => True) w0 ∧ NT sa U ∧ ZQ (va_A w0 sz) U U.heap)
theorem PXx_blind {G : va_G × (Nat → ClassId)} {sa : Nat → Nat} {As : List Value} {w0 : va_W} {sz : Nat} : FrameBlind (PXx G sa As w0 sz) := fun a U g mk q => by
  obtain ⟨q0, q1, qP, qK, qD, qN, qZ⟩ := q
  exact ⟨q0, q1, qP, va_K.moved (u := U) (U := U.calling g mk a) (Vm.Alike.refl U.vm) qK, qD, NT.same (rfl : U.vm = (U.calling g mk a).vm) qN, ZQ.moved (u := U) (U := U.calling g mk a) (Vm.Alike.refl U.vm) qZ⟩
/-- where it throws: which class, and the world behind it -/
def XC9 (G : va_G × (Nat → ClassId)) (postX : String → va_W → Prop) (A : Nat → Prop) : String → State → State → Prop := vx_X (fun _ : va_W => True) (fun E u t => postX E u ∧ va_P G.1 vwCl u t.heap ∧ va_D A u) A
def Xi (l : Launch) (G : va_G × (Nat → ClassId)) (sa : Nat → Nat) (y : MethodName) (ws : List Cond) (rm : Room) (As : List Value) (w0 : va_W) (post : Int → va_W → Prop) (postX : String → va_W → Prop) : Prop := ∀ sz : Nat, vx_Met l y ws rm (PXx G sa As w0 sz) (QPi G post (va_A w0 sz)) (XC9 G postX (va_A w0 sz)) 1 6 (va_A w0 sz)
def Xv (l : Launch) (G : va_G × (Nat → ClassId)) (sa : Nat → Nat) (y : MethodName) (ws : List Cond) (rm : Room) (As : List Value) (w0 : va_W) (post : va_W → Prop) (postX : String → va_W → Prop) : Prop := ∀ sz : Nat, vx_Met l y ws rm (PXx G sa As w0 sz) (QPv G post (va_A w0 sz)) (XC9 G postX (va_A w0 sz)) 1 6 (va_A w0 sz)
/-- what a body that may throw knows -/
def XE (l : Launch) (s : State) (c : Code) (sa : Nat → Nat) (A : Nat → Prop) : Prop := l.stackTraces = false ∧ NT sa s ∧ ZQ A s s.heap ∧ ∀ x ∈ c.exceptionTable.toList, False
theorem Xi.of {own : String} {l : Launch} {G : va_G × (Nat → ClassId)} {sa : Nat → Nat} {y : MethodName} {ws ws' : List Cond} {rm : Room} {As : List Value} {w0 : va_W} {post : Int → va_W → Prop} {postX : String → va_W → Prop} {cc : ByteArray} {maxL : Nat} {ret : Option FieldType} (hl : l.stackTraces = false) (hy : plainName y.cls = true) (ho : y.cls = own) (hw : ws = Cond.code y cc maxL ret :: ws') (hlen : Nat.ble (lg_sl As).length maxL = true)
    (body : ∀ (p : Program) (e : Env) (s : State) (m : MethodId) (args : Array Value) (below : List Frame) (meth : Method) (c : Code) (A : Nat → Prop), cx p l s m args meth c cc maxL ret ws own G A s.heap → NX s → XE l s c sa A → AW p l e (headSpec ws rm).room s m args below meth c maxL G A s.heap 0 0 (vx_MQ below (QPi G post A) (XC9 G postX A) args s 1 6 A) w0 (lv_args 0 As) 0 []) : Xi l G sa y ws rm As w0 post postX := by
  intro sz
  refine vx_ofW (cc := cc) (maxL := maxL) (ret := ret) hy hw ?_
  intro p e s m args below meth c s₁ B hml ht hv
  obtain ⟨rfl, hsz, hP, hK, hD0, hN, hZ⟩ := hv
  have hts := atoms_spec (ws := ws) B.pre
  subst hsz
  rw [lg_entry_eq]
  exact body p e s m _ below meth c (va_A w0 s.heap.size) ⟨B.exec, B.bytes, hml, (by rw [← ho]; exact findClass_of_methodNamed B.named), hts, hK, fun _ h => Or.inr h, B.notSynchronized, B.returns⟩ hN.1 ⟨hl, hN, hZ, ht⟩ s.heap [] _ hP hD0.self va_S.rf (lv_entry As (Nat.le_of_ble_eq_true hlen))
theorem Xv.of {own : String} {l : Launch} {G : va_G × (Nat → ClassId)} {sa : Nat → Nat} {y : MethodName} {ws ws' : List Cond} {rm : Room} {As : List Value} {w0 : va_W} {post : va_W → Prop} {postX : String → va_W → Prop} {cc : ByteArray} {maxL : Nat} {ret : Option FieldType} (hl : l.stackTraces = false) (hy : plainName y.cls = true) (ho : y.cls = own) (hw : ws = Cond.code y cc maxL ret :: ws') (hlen : Nat.ble (lg_sl As).length maxL = true)
    (body : ∀ (p : Program) (e : Env) (s : State) (m : MethodId) (args : Array Value) (below : List Frame) (meth : Method) (c : Code) (A : Nat → Prop), cx p l s m args meth c cc maxL ret ws own G A s.heap → NX s → XE l s c sa A → AW p l e (headSpec ws rm).room s m args below meth c maxL G A s.heap 0 0 (vx_MQ below (QPv G post A) (XC9 G postX A) args s 1 6 A) w0 (lv_args 0 As) 0 []) : Xv l G sa y ws rm As w0 post postX := by
  intro sz
  refine vx_ofW (cc := cc) (maxL := maxL) (ret := ret) hy hw ?_
  intro p e s m args below meth c s₁ B hml ht hv
  obtain ⟨rfl, hsz, hP, hK, hD0, hN, hZ⟩ := hv
  have hts := atoms_spec (ws := ws) B.pre
  subst hsz
  rw [lg_entry_eq]
  exact body p e s m _ below meth c (va_A w0 s.heap.size) ⟨B.exec, B.bytes, hml, (by rw [← ho]; exact findClass_of_methodNamed B.named), hts, hK, fun _ h => Or.inr h, B.notSynchronized, B.returns⟩ hN.1 ⟨hl, hN, hZ, ht⟩ s.heap [] _ hP hD0.self va_S.rf (lv_entry As (Nat.le_of_ble_eq_true hlen))
section AWX
variable {p : Program} {l : Launch} {e : Env} {R : Room} {s : State} {m : MethodId} {args : Array Value} {below : List Frame} {meth : Method} {c : Code} {nL : Nat} {G : va_G × (Nat → ClassId)} {A : Nat → Prop}
variable {cc : ByteArray} {ret : Option FieldType} {Ts : List Cond} {own : String} {ws : va_W} {lv : List (Nat × Value)} {pc : Nat} {st : List Value} {sa : Nat → Nat}
theorem aw_iretX {post : Int → va_W → Prop} {XC : String → State → State → Prop} {z : Int} (C : cx p l s m args meth c cc nL (some .int) Ts own G A s.heap) (hd : decode cc pc = .ok (.ireturn, 1)) (h : post z ws) : AW p l e R s m args below meth c nL G A s.heap 0 0 (vx_MQ below (QPi G post A) XC args s 1 6 A) ws lv pc [.int (zI z)] :=
  fun H locs ls hP hD hS hl => vx_ret (W.widen (k := 1) (n := 6) (Nat.zero_le _) (Nat.zero_le _) (W.iret C.1 C.2.1 C.2.2.2.2.2.2.2.2 (fun t ht hW => ⟨⟨zI z, (z, ws), rfl, ⟨rfl, h⟩, by rw [ht]; exact hP, hD⟩, hS.F ht⟩) hS.2.2 hd C.2.2.2.2.2.2.2.1))
theorem aw_vretX {post : va_W → Prop} {XC : String → State → State → Prop} (C : cx p l s m args meth c cc nL none Ts own G A s.heap) (hd : decode cc pc = .ok (.return_, 1)) (h : post ws) : AW p l e R s m args below meth c nL G A s.heap 0 0 (vx_MQ below (QPv G post A) XC args s 1 6 A) ws lv pc [] :=
  fun H locs ls hP hD hS hl => vx_ret (W.widen (k := 1) (n := 6) (Nat.zero_le _) (Nat.zero_le _) (W.vret C.1 C.2.1 C.2.2.2.2.2.2.2.2 (fun t ht hW => ⟨⟨ws, rfl, h, by rw [ht]; exact hP, hD⟩, hS.F ht⟩) hS.2.2 hd C.2.2.2.2.2.2.2.1))
theorem aw_throw {Qc : Array Value → State → Outcome → State → Prop} {postX : String → va_W → Prop} {ik is ic q : Nat} {cls text : String} (C : cx p l s m args meth c cc nL ret Ts own G A s.heap) (X : XE l s c sa A) (hcls : Bundle.fit cls = true) (hk : (Cond.classLink own ik cls).before args s = true) (hini : (Cond.initialized cls).before args s = true) (hstr : vk_R own is text q s) (hat : ∀ w ∈ vx_atS own ic cls eNm, w.before args s = true) (hgood : ∀ w ∈ Cond.classLink own ik cls :: Cond.initialized cls :: vx_atS own ic cls eNm, vx_ot w = true)
    (d0 : decode cc pc = .ok (.new ik, 3)) (d3 : decode cc (pc + 3) = .ok (.dup, 1)) (d4 : decode cc (pc + 4) = .ok (.ldc is, 2)) (d6 : decode cc (pc + 6) = .ok (.invokespecial ic, 3)) (d9 : decode cc (pc + 9) = .ok (.athrow, 1))
    (hR : Nat.ble 6 R.frames = true ∧ Nat.ble ((st.map fun v => v.category).sum + 82) R.locals = true ∧ Nat.ble 1 R.cells = true ∧ Nat.ble 6 R.slots = true) (h : postX cls ws) : AW p l e R s m args below meth c nL G A s.heap 0 0 (vx_MQ below Qc (XC9 G postX A) args s 1 6 A) ws lv pc st :=
  fun H locs ls hP hD hS hl => by
    have h1 := Nat.le_of_ble_eq_true hR.1
    have h2 := Nat.le_of_ble_eq_true hR.2.1
    have h3 := Nat.le_of_ble_eq_true hR.2.2.1
    have h4 := Nat.le_of_ble_eq_true hR.2.2.2
    refine vx_throwS (names := eNm) (A := A) C.1 C.2.1 X.1 C.2.2.2.1 hcls (by decide +kernel) hk hini hstr hat hgood X.2.2.1.1 X.2.2.1.2 hS (hl.1.trans C.2.2.1.symm) d0 d3 d4 d6 d9 (fun x hx => (X.2.2.2 x hx).elim) (by show 2 + 3 < R.frames; omega) (by show _ + (13 * (2 + 1) + 43) ≤ R.locals; omega) (by omega) (by omega) C.2.2.2.2.2.2.2.1 (fun t ha hz hk9 => ?_) hS.2.2 (Nat.le_refl _) (Nat.le_refl _)
    refine ⟨ws, trivial, ⟨h, hP.kept (fun k q hq => hk9 q.1 (hP k q hq).lt), hD⟩, Nat.le_trans hS.1 hz, fun q hq hnA => ?_⟩
    rw [hk9 q (Nat.lt_of_lt_of_le hq hS.1)]
    exact hS.2.1 q hq hnA
end AWX
/-! the words of the three exceptions in the class's own methods -/
theorem at_good {args : Array Value} {s : State} {Ts : List Cond} {sa : Nat → Nat} {ic : Nat} {cls : String} (hts : ∀ w ∈ Ts, w.before args s = true) (hin : ∀ w ∈ (vx_atS RX2 ic cls eNm).filter goodWord, w ∈ Ts) (hno : ∀ w ∈ (vx_atS RX2 ic cls eNm).filter (fun w => !goodWord w), w ∈ [Cond.castable cls cls, dR, dE, dT]) (hc : va_Nw (.castable cls cls) s) (hN : NT sa s) : ∀ w ∈ vx_atS RX2 ic cls eNm, w.before args s = true :=
  vx_hat (fun w hw => hts w (hin w hw)) hno (vx_c (va_Nw.use rfl hc) (vx_c (va_Nw.use rfl hN.2.2.1.1) (vx_c (va_Nw.use rfl hN.2.2.1.2.1) (vx_c (va_Nw.use rfl hN.2.2.1.2.2) vx_n))))
theorem no_IAE : ∀ w ∈ (vx_atS RX2 53 eIAE eNm).filter (fun w => !goodWord w), w ∈ [Cond.castable eIAE eIAE, dR, dE, dT] := by decide +kernel
theorem no_ISE : ∀ w ∈ (vx_atS RX2 86 eISE eNm).filter (fun w => !goodWord w), w ∈ [Cond.castable eISE eISE, dR, dE, dT] := by decide +kernel
theorem no_IOB : ∀ w ∈ (vx_atS RX2 107 eIOB eNm).filter (fun w => !goodWord w), w ∈ [Cond.castable eIOB eIOB, dR, dE, dT] := by decide +kernel
theorem ok_IAE : ∀ w ∈ Cond.classLink RX2 49 eIAE :: Cond.initialized eIAE :: vx_atS RX2 53 eIAE eNm, vx_ot w = true := by decide +kernel
theorem ok_ISE : ∀ w ∈ Cond.classLink RX2 82 eISE :: Cond.initialized eISE :: vx_atS RX2 86 eISE eNm, vx_ot w = true := by decide +kernel
theorem ok_IOB : ∀ w ∈ Cond.classLink RX2 103 eIOB :: Cond.initialized eIOB :: vx_atS RX2 107 eIOB eNm, vx_ot w = true := by decide +kernel

