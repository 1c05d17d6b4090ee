/-! MAKING: constructors -/
theorem va_AOA.moved {u U : State} (hvm : u.vm.Alike U.vm) (h : va_AOA .int u) : va_AOA .int U := Jvm.Stand.arrayOver_alikeB hvm h
def NK (U : State) : Prop := va_Nw (.methodLinkNest "PaintSequencer" 15 yX0_init "PaintSequencer") U ∧ va_Nw (.methodLinkNest "PaintSequencer" 31 yX1_init "PaintSequencer") U ∧ va_AO RX0 U ∧ va_AOA .int U
theorem NK.warm {s U : State} (hW : s.WarmedH U.vm) (h : NK s) : NK U := ⟨va_Nw.warmM hW h.1, va_Nw.warmM hW h.2.1, va_AO.moved hW.alike h.2.2.1, va_AOA.moved hW.alike h.2.2.2⟩
theorem NK.same {u U : State} (e : u.vm = U.vm) (h : NK u) : NK U := ⟨va_Nw.same rfl e h.1, va_Nw.same rfl e h.2.1, va_AO.moved (by rw [e]; exact Vm.Alike.refl _) h.2.2.1, va_AOA.moved (by rw [e]; exact Vm.Alike.refl _) h.2.2.2⟩
def PXc (G : va_G × (Nat → ClassId)) (As : List Value) (w0 : va_W) (sz : Nat) : Array Value → State → Prop := va_Pc As (fun U => U.heap.size = sz ∧ va_P G.1 vwCl w0 U.heap ∧ va_K G.1 vwCl (tG G) U ∧ va_D (fun _ => True) w0 ∧ NX U ∧ NK U)
theorem PXc_blind {G : va_G × (Nat → ClassId)} {As : List Value} {w0 : va_W} {sz : Nat} : FrameBlind (PXc G As w0 sz) := fun a U g mk q => by
  obtain ⟨q0, q1, qP, qK, qD, qN, qM⟩ := q
  exact ⟨q0, q1, qP, va_K.moved (u := U) (U := U.calling g mk a) (Vm.Alike.refl U.vm) qK, qD, va_Nw.same rfl (rfl : U.vm = (U.calling g mk a).vm) qN, NK.same (rfl : U.vm = (U.calling g mk a).vm) qM⟩
def Mc (l : Launch) (G : va_G × (Nat → ClassId)) (y : MethodName) (ws : List Cond) (rm : Room) (As : List Value) (w0 : va_W) (post : va_W → Prop) (mc ms : Nat) : Prop := ∀ sz : Nat, Met l y ws rm (PXc G As w0 sz) (QPv G post (va_A w0 sz)) mc ms (va_A w0 sz)
theorem Mc.of {own : String} {l : Launch} {G : va_G × (Nat → ClassId)} {y : MethodName} {ws ws' : List Cond} {rm : Room} {As : List Value} {w0 : va_W} {post : va_W → Prop} {mc ms : Nat} {cc : ByteArray} {maxL : Nat} {ret : Option FieldType} (hy : plainName y.cls = true) (ho : y.cls = own) (hw : ws = Cond.code y cc maxL ret :: ws') (hlen : Nat.ble (lg_sl As).length maxL = true)
    (body : ∀ (p : Program) (e : Env) (s : State) (m : MethodId) (args : Array Value) (below : List Frame) (meth : Method) (c : Code) (A : Nat → Prop), cx p l s m args meth c cc maxL ret ws own G A s.heap → NX s → NK s → meth.name = y.name → AW p l e (headSpec ws rm).room s m args below meth c maxL G A s.heap 0 0 (MQ below (QPv G post A) args s mc ms A) w0 (lv_args 0 As) 0 []) : Mc l G y ws rm As w0 post mc ms := by
  intro sz
  refine Met.ofW (cc := cc) (maxL := maxL) (ret := ret) hy hw ?_
  intro p e s m args below meth c s₁ B hml hv
  obtain ⟨rfl, hsz, hP, hK, hD0, hN, hM⟩ := hv
  have hts := atoms_spec (ws := ws) B.pre
  subst hsz
  rw [lg_entry_eq]
  exact body p e s m _ below meth c (va_A w0 s.heap.size) ⟨B.exec, B.bytes, hml, (by rw [← ho]; exact findClass_of_methodNamed B.named), hts, hK, fun _ h => Or.inr h, B.notSynchronized, B.returns⟩ hN hM (name_of_methodNamed B.named B.method).1 s.heap [] _ hP hD0.self va_S.rf (lv_entry As (Nat.le_of_ble_eq_true hlen))
section AWN
variable {p : Program} {l : Launch} {e : Env} {R : Room} {s : State} {m : MethodId} {args : Array Value} {below : List Frame} {meth : Method} {c : Code} {nL : Nat} {G : va_G × (Nat → ClassId)} {A : Nat → Prop} {cells slots : Nat} {Q : State → Prop} {H0 : Heap}
variable {cc : ByteArray} {ret : Option FieldType} {Ts : List Cond} {own : String} {ws : va_W} {lv : List (Nat × Value)} {pc : Nat} {st : List Value}
theorem aw_vretC {post : va_W → Prop} (C : cx p l s m args meth c cc nL none Ts own G A s.heap) (hd : decode cc pc = .ok (.return_, 1)) (h : post ws) : AW p l e R s m args below meth c nL G A s.heap cells slots (MQ below (QPv G post A) args s cells slots A) ws lv pc [] :=
  fun H locs ls hP hD hS hl => W.vret C.1 C.2.1 C.2.2.2.2.2.2.2.2 (fun t ht hW => ⟨⟨ws, rfl, h, by rw [ht]; exact hP, hD⟩, hS.F ht⟩) hS.2.2 hd C.2.2.2.2.2.2.2.1
theorem aw_objinit (C : cx p l s m args meth c cc nL ret Ts own G A H0) {idx a : Nat} (h1 : (Cond.methodLink own idx objectInit).before args s = true) (h2 : (Cond.instanceMethod objectInit).before args s = true) (h3 : (Cond.code objectInit ⟨#[0xb1]⟩ 1 none).before args s = true) (hd : decode cc pc = .ok (.invokespecial idx, 3)) (hf : Nat.ble 1 R.frames = true) (hlo : Nat.ble 12 R.locals = true) (k : AW p l e R s m args below meth c nL G A H0 cells slots Q ws lv (pc + 3) []) : AW p l e R s m args below meth c nL G A H0 cells slots Q ws lv pc [.ref a] :=
  fun H locs ls hP hD hS hl => W.objInit C.1 C.2.1 C.2.2.2.1 h1 h2 h3 rfl (hl.1.trans C.2.2.1.symm) rfl hd (Nat.le_of_ble_eq_true hf) (Nat.le_of_ble_eq_true hlo) (W.eq (g2 := F0 m (pc + 3) ls []) rfl (k H locs ls hP hD hS hl))
theorem cls_int (C : cx p l s m args meth c cc nL ret Ts own G A H0) {D : va_G} {cA : ClassId} {ty : FieldType} {i : Nat} {t0 : List (ClassId × FieldType)} (h : va_K D vwCl (t0 ++ [(cA, ty)]) s) (hi : (tG G)[i]? = some (G.2 i, ty)) (hty : ∀ C9 : String, ty ≠ .object C9) : cA = G.2 i := by
  have h1 := (h.2 t0.length (cA, ty) (by rw [List.getElem?_append_right (Nat.le_refl _), Nat.sub_self]; rfl)).2
  have h2 := (C.2.2.2.2.2.1.2 i _ hi).2
  cases ty with
  | object C9 => exact absurd rfl (hty C9)
  | _ => exact Option.some.inj (Eq.trans (Eq.symm h1) h2)
theorem cls_obj (C : cx p l s m args meth c cc nL ret Ts own G A H0) {D : va_G} {cA : ClassId} {C9 : String} {i : Nat} {t0 : List (ClassId × FieldType)} (h : va_K D vwCl (t0 ++ [(cA, .object C9)]) s) (hi : (tG G)[i]? = some (G.2 i, .object C9)) : cA = G.2 i := by
  obtain ⟨-, -, -, -, -, h1⟩ := (h.2 t0.length (cA, .object C9) (by rw [List.getElem?_append_right (Nat.le_refl _), Nat.sub_self]; rfl)).2
  obtain ⟨-, -, -, -, -, h2⟩ := (C.2.2.2.2.2.1.2 i _ hi).2
  exact Option.some.inj (Eq.trans (Eq.symm h1) h2)
theorem aw_newI (C : cx p l s m args meth c cc nL ret Ts own G A H0) {n : Int} {N : Nat} (hN : n = (N : Int)) (hb : Nat.ble N 100000 = true) (harr : (Cond.arrayClass .int).before args s = true) (hd : decode cc pc = .ok (.newarray .int, 2)) (hc : Nat.ble (cells + 1) R.cells = true) (hs : Nat.ble (slots + N) R.slots = true) (kk : ∀ q : Nat, AW p l e R s m args below meth c nL G A H0 (cells + 1) (slots + N) Q (ws ++ [(q, arI G.2 N (fun _ => 0))]) lv (pc + 2) (.ref q :: st)) : AW p l e R s m args below meth c nL G A H0 cells slots Q ws lv pc (.int (zI n) :: st) :=
  fun H locs ls hP hD hS hl => by
    subst hN
    have hb' := Nat.le_of_ble_eq_true hb
    refine va_newa (atype := .int) (ty := .int) (a0 := (N, .inl (fun _ => zI 0))) (N' := N) C.1 C.2.1 harr rfl C.2.2.2.2.2.1 hP hD hS C.2.2.2.2.2.2.1 (fun cA => rfl) (by rw [Int32.lt_iff_toInt_lt, zI_toInt (by omega)]; simp) (by rw [zI_clamp (by omega) (by omega)]; simp) (by show N * 4 ≤ _; omega) (Nat.le_of_ble_eq_true hc) (Nat.le_of_ble_eq_true hs) hd (fun q cA H1 hK1 hP1 hD1 hS1 => ?_)
    obtain rfl := cls_int (i := 0) C hK1 rfl (fun _ h => by cases h)
    exact kk q H1 locs ls hP1 hD1 hS1 hl
theorem aw_new (C : cx p l s m args meth c cc nL ret Ts own G A H0) {Cn : String} {T : u_T} {N ci index : Nat} {ty : Nat → FieldType} {fs : List Value} (hin : ∀ w ∈ u_ws Cn T N, w ∈ Ts) (hty : ∀ k, k < N → parseFieldDescriptor (T k).2.2.1 = some (ty k)) (hcl : (Cond.classLink own index Cn).before args s = true) (hinst : (Cond.instantiable Cn N).before args s = true) (hini : (Cond.initialized Cn).before args s = true) (hci : vwCl[ci]? = some (Cn, T, N)) (hfs : ∀ j, j < N → defaultValue (ty j) = vp_V fs j) (hd : decode cc pc = .ok (.new index, 3)) (hc : Nat.ble (cells + 1) R.cells = true) (hs : Nat.ble (slots + N) R.slots = true) (kk : ∀ q : Nat, AW p l e R s m args below meth c nL G A H0 (cells + 1) (slots + N) Q (ws ++ [(q, .inr (ci, fs))]) lv (pc + 3) (.ref q :: st)) : AW p l e R s m args below meth c nL G A H0 cells slots Q ws lv pc st :=
  fun H locs ls hP hD hS hl => va_new (ci := ci) (fs := fs) (C := Cn) (T := T) (N := N) C.1 C.2.1 C.2.2.2.2.1 hin ty hty C.2.2.2.1 hcl hinst hini C.2.2.2.2.2.1 hP hD hS C.2.2.2.2.2.2.1 hci hfs (Nat.le_of_ble_eq_true hc) (Nat.le_of_ble_eq_true hs) hd (fun q H1 hP1 hD1 hS1 => kk q H1 locs ls hP1 hD1 hS1 hl)
theorem aw_putF (C : cx p l s m args meth c cc nL ret Ts own G A H0) {Cn : String} {T : u_T} {N ci index q0 k : Nat} {ty0 : Nat → FieldType} {a v : Nat} {fs : List Value} {ws' : va_W} (hin : ∀ w ∈ u_ws Cn T N, w ∈ Ts) (hty : ∀ k, k < N → parseFieldDescriptor (T k).2.2.1 = some (ty0 k)) (hnm : ∀ a, a < N → ∀ b, b < N → a ≠ b → (T a).2.1 ≠ (T b).2.1) (hlink : (Cond.fieldLink own index (T k).1 (T k).2.1 (T k).2.2.1).before args s = true) (he : ws[q0]? = some (a, .inr (ci, fs))) (hc : vwCl[ci]? = some (Cn, T, N)) (hk : Nat.ble (k + 1) N = true) (hfin : (T k).2.2.2 = true) (hinit : meth.name = "<init>") (hdecl : (T k).1 = own) (hn : narrow (ty0 k) (.ref v) = .ref v) (hfit : fits (ty0 k) (.ref v) = true) (hl9 : Nat.ble (k + 1) fs.length = true) (hw : ws.set q0 (a, .inr (ci, fs.set k (.ref v))) = ws') (hd : decode cc pc = .ok (.putfield index, 3)) (kk : AW p l e R s m args below meth c nL G A H0 cells slots Q ws' lv (pc + 3) st) : AW p l e R s m args below meth c nL G A H0 cells slots Q ws lv pc (.ref v :: .ref a :: st) :=
  fun H locs ls hP hD hS hl => va_putF (v := .ref v) (ty := ty0 k) C.1 C.2.1 C.2.2.2.2.1 hin ty0 hty hnm C.2.2.2.1 C.2.2.2.2.2.1 hP hD hS q0 he hc k (Nat.le_of_ble_eq_true hk) hlink (fun _ h => h) hfin hinit hdecl (hty k (Nat.le_of_ble_eq_true hk)) hn hfit (Nat.le_of_ble_eq_true hl9) hd (fun H1 locs1 hP1 hD1 hS1 => by subst hw; exact kk H1 locs1 ls hP1 hD1 hS1 hl)
theorem aw_newq (C : cx p l s m args meth c cc nL ret Ts own G A H0) {index : Nat} (hcl : (Cond.classLink own index RX0).before args s = true) (hM : NK s) (hd : decode cc pc = .ok (.anewarray index, 3)) (hc : Nat.ble (cells + 1) R.cells = true) (hs : Nat.ble (slots + 5) R.slots = true) (kk : ∀ q : Nat, AW p l e R s m args below meth c nL G A H0 (cells + 1) (slots + 5) Q (ws ++ [(q, .inl (G.2 1, 5, .inr (.inr (.inr (.inr (fun _ => none))))))]) lv (pc + 3) (.ref q :: st)) : AW p l e R s m args below meth c nL G A H0 cells slots Q ws lv pc (.int (zI 5) :: st) :=
  fun H locs ls hP hD hS hl => by
    refine va_newq (N' := 5) C.1 C.2.1 C.2.2.2.1 hcl hM.2.2.1 C.2.2.2.2.2.1 hP hD hS C.2.2.2.2.2.2.1 (by decide) (by decide) (by decide) (Nat.le_of_ble_eq_true hc) (Nat.le_of_ble_eq_true hs) hd (fun q cA H1 hK1 hP1 hD1 hS1 => ?_)
    obtain rfl := cls_obj (i := 1) C hK1 rfl
    exact kk q H1 locs ls hP1 hD1 hS1 hl
theorem aw_astq (C : cx p l s m args meth c cc nL ret Ts own G A H0) {q0 qk a v : Nat} {f : Nat → Option Nat} {vs : List Value} {i : Int} {ws' : va_W} (he : ws[q0]? = some (a, .inl (G.2 1, 5, .inr (.inr (.inr (.inr f)))))) (hv : ws[qk]? = some (v, .inr (0, vs))) (h0 : 0 ≤ i) (h5 : i < 5) (hw : ws.set q0 (a, .inl (G.2 1, 5, .inr (.inr (.inr (.inr (va_up f i.toNat (some v))))))) = ws') (hd : decode cc pc = .ok (.aastore, 1)) (kk : AW p l e R s m args below meth c nL G A H0 cells slots Q ws' lv (pc + 1) st) : AW p l e R s m args below meth c nL G A H0 cells slots Q ws lv pc (.ref v :: .int (zI i) :: .ref a :: st) :=
  fun H locs ls hP hD hS hl => va_astq C.1 C.2.1 C.2.2.2.2.2.1 hP hD hS q0 1 qk 0 he rfl hv rfl (zI_in (n := 5) h0 (by omega) (by omega)) hd (fun H1 locs1 hP1 hD1 hS1 => by
    rw [zI_clamp h0 (by omega)] at hP1 hD1
    subst hw
    exact kk H1 locs1 ls hP1 hD1 hS1 hl)
/-- the same cells told by other words -/
theorem aw_cells {ws' : va_W} (h : ws.length = ws'.length) (h2 : ∀ (k : Nat) (q : Nat × va_E), ws'[k]? = some q → ∃ q' : Nat × va_E, ws[k]? = some q' ∧ q'.1 = q.1 ∧ (q'.2 = q.2 ∨ ∃ (cA : ClassId) (x y : vp_A), q'.2 = .inl (cA, x) ∧ q.2 = .inl (cA, y) ∧ vp_cell cA x = vp_cell cA y)) (kk : AW p l e R s m args below meth c nL G A H0 cells slots Q ws' lv pc st) : AW p l e R s m args below meth c nL G A H0 cells slots Q ws lv pc st :=
  fun H locs ls hP hD hS hl => kk H locs ls (fun k q hq => by
    obtain ⟨⟨a', x'⟩, g1, g2, g3⟩ := h2 k q hq
    obtain ⟨a, x⟩ := q
    have h3 := hP k _ g1
    dsimp only at g2 g3
    subst g2
    rcases g3 with rfl | ⟨cA, x1, y1, rfl, rfl, g4⟩
    · exact h3
    · have h4 : H[a']? = some (vp_cell cA x1) := h3
      show H[a']? = some (vp_cell cA y1)
      rw [← g4]
      exact h4) ⟨fun i j x y hx hy hxy => by
    obtain ⟨x', g1, g2, -⟩ := h2 i x hx
    obtain ⟨y', g3, g4, -⟩ := h2 j y hy
    exact hD.1 i j x' y' g1 g3 (by rw [g2, g4, hxy]), fun k q hq => by
    obtain ⟨q', g1, g2, -⟩ := h2 k q hq
    rw [← g2]
    exact hD.2 k q' g1⟩ hS hl
/-- the cells in another order -/
theorem aw_perm (is : List Nat) {ws' : va_W} (hn : va_nd is = true) (hs : is.map (fun i => ws[i]?) = ws'.map some) (kk : AW p l e R s m args below meth c nL G A H0 cells slots Q ws' lv pc st) : AW p l e R s m args below meth c nL G A H0 cells slots Q ws lv pc st :=
  fun H locs ls hP hD hS hl => by
    have key : ∀ (k : Nat) (q : Nat × va_E), ws'[k]? = some q → ∃ i, ws[i]? = some q := fun k q hq => by
      have h1 : (ws'.map some)[k]? = some (some q) := by rw [List.getElem?_map, hq]; rfl
      rw [← hs, List.getElem?_map] at h1
      cases hk : is[k]? with
      | none => rw [hk] at h1; cases h1
      | some i =>
        rw [hk] at h1
        exact ⟨i, Option.some.inj h1⟩
    exact kk H locs ls (fun k q hq => by
      obtain ⟨i, hi⟩ := key k q hq
      exact hP i q hi) (hD.sub is hn hs) hS hl
theorem aw_cvM {post : va_W → Prop} {wc wr : va_W} {As : List Value} {mc ms : Nat} (C : cx p l s m args meth c cc nL ret Ts own G A H0) (hr : ∀ (H : Heap) (locs : List Loc) (ls : Array Slot), va_P G.1 vwCl wc H → va_D (fun _ => True) wc → ls.size = nL → va_Run p l e R s m args below meth c H locs cells slots mc ms (F0 m pc ls (As ++ st)) st (QPv G post (va_A wc H.size) #[]) (va_A wc H.size)) (kk : ∀ (u : va_W), post u → AW p l e R s m args below meth c nL G A H0 (cells + mc) (slots + ms) Q (u ++ wr) lv (pc + 3) st) : AW p l e R s m args below meth c nL G A H0 cells slots Q (wc ++ wr) lv pc (As ++ st) :=
  fun H locs ls hP hD hS hl => by
    obtain ⟨hPc, hDc, hFc⟩ := aw_pre C hP hD hS
    refine va_callv (hr H locs ls hPc hDc hl.1) hS (fun q _ h => hFc q h) hFc (fun u t H1 locs1 ht hvm hw hB hz1 hk1 hS1 => ?_)
    obtain ⟨hP1, hD1⟩ := hB
    rw [ht] at hP1
    obtain ⟨hP2, hD2⟩ := jn hP hD hk1 hFc hP1 hD1
    exact kk u hw H1 locs1 ls hP2 hD2 hS1 hl
theorem preC_at (C : cx p l s m args meth c cc nL ret Ts own G A H0) (hN : NX s) (hM : NK s) {wc : va_W} {H : Heap} {As : List Value} (hP : va_P G.1 vwCl wc H) (hD : va_D (fun _ => True) wc) : ∀ U : State, U.heap = H → s.WarmedH U.vm → PXc G As wc H.size As.toArray U := fun U hU hW => ⟨rfl, by rw [hU], by rw [hU]; exact hP, va_K.moved hW.alike C.2.2.2.2.2.1, hD, va_Nw.warmM hW hN, NK.warm hW hM⟩
variable {wc wr : va_W} {y : MethodName} {ws9 : List Cond} {rm : Room} {b index maxL : Nat} {host : String} {bytes : ByteArray} {mc ms : Nat}
/-- a nest-mate's private constructor -/
theorem aw_cN {post : va_W → Prop} (C : cx p l s m args meth c cc nL ret Ts own G A H0) (hN : NX s) (hM : NK s) (hMc : Mc l G y ws9 rm [.ref b] wc post mc ms) (cw : va_CN R s args own index y host bytes maxL none ws9 rm mc ms 0 ∧ y.name = "<init>" ∧ (Cond.instanceMethod y).before args s = true) (hcat : Nat.ble (st.map fun v => v.category).sum 8 = true) (hd : decode cc pc = .ok (.invokespecial index, 3)) (hf : Nat.ble (cells + mc) R.cells = true ∧ Nat.ble (slots + ms) R.slots = true) (kk : ∀ (u : va_W), post u → AW p l e R s m args below meth c nL G A H0 (cells + mc) (slots + ms) Q (u ++ wr) lv (pc + 3) st) : AW p l e R s m args below meth c nL G A H0 cells slots Q (wc ++ wr) lv pc (.ref b :: st) :=
  aw_cvM (As := [.ref b]) C (fun H locs ls hP hD hl => va_runIN (As := []) (fix_of C) (hMc H.size) cw ⟨PXc_blind, preC_at C hN hM hP hD⟩ rfl rfl hl rfl (lv_room (Nat.le_of_ble_eq_true hcat)) hd ⟨Nat.le_of_ble_eq_true hf.1, Nat.le_of_ble_eq_true hf.2⟩) kk
theorem aw_cI {post : va_W → Prop} (C : cx p l s m args meth c cc nL ret Ts own G A H0) (hN : NX s) (hM : NK s) (hMc : Mc l G y ws9 rm [.ref b] wc post mc ms) (cw : CallB R s args own index y bytes maxL none ws9 rm mc ms 0 ∧ y.name = "<init>" ∧ (Cond.instanceMethod y).before args s = true) (hcat : Nat.ble (st.map fun v => v.category).sum 8 = true) (hd : decode cc pc = .ok (.invokespecial index, 3)) (hf : Nat.ble (cells + mc) R.cells = true ∧ Nat.ble (slots + ms) R.slots = true) (kk : ∀ (u : va_W), post u → AW p l e R s m args below meth c nL G A H0 (cells + mc) (slots + ms) Q (u ++ wr) lv (pc + 3) st) : AW p l e R s m args below meth c nL G A H0 cells slots Q (wc ++ wr) lv pc (.ref b :: st) :=
  aw_cvM (As := [.ref b]) C (fun H locs ls hP hD hl => va_runI (As := []) (fix_of C) (hMc H.size) cw ⟨PXc_blind, preC_at C hN hM hP hD⟩ rfl rfl hl rfl (lv_room (Nat.le_of_ble_eq_true hcat)) hd ⟨Nat.le_of_ble_eq_true hf.1, Nat.le_of_ble_eq_true hf.2⟩) kk
end AWN

