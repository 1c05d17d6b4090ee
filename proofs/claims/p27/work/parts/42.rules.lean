/-! METHODS OF THE LAW: they always return; the class's methods that may throw don't throw here -/
def XN (l : Launch) (s : State) (sa : Nat → Nat) (A : Nat → Prop) : Prop := l.stackTraces = false ∧ NT sa s ∧ ZQ A s s.heap
def Mn (l : Launch) (G : va_G × (Nat → ClassId)) (sa : Nat → Nat) (y : MethodName) (ws : List Cond) (rm : Room) (As : List Value) (w0 : va_W) (post : Int → va_W → Prop) (mc ms : Nat) : Prop := ∀ sz : Nat, Met l y ws rm (PXx G sa As w0 sz) (QPi G post (va_A w0 sz)) mc ms (va_A w0 sz)
theorem Mn.of {own : String} {l : Launch} {G : va_G × (Nat → ClassId)} {sa : Nat → Nat} {y : MethodName} {ws ws' : List Cond} {rm : Room} {As : List Value} {w0 : va_W} {post : Int → va_W → Prop} {mc ms : Nat} {cc : ByteArray} {maxL : Nat} {ret : Option FieldType} (hl : l.stackTraces = false) (hy : plainName y.cls = true) (ho : y.cls = own) (hw : ws = Cond.code y cc maxL ret :: ws') (hlen : Nat.ble (lg_sl As).length maxL = true)
    (body : ∀ (p : Program) (e : Env) (s : State) (m : MethodId) (args : Array Value) (below : List Frame) (meth : Method) (c : Code) (A : Nat → Prop), cx p l s m args meth c cc maxL ret ws own G A s.heap → NX s → XN l s sa A → AW p l e (headSpec ws rm).room s m args below meth c maxL G A s.heap 0 0 (MQ below (QPi G post A) args s mc ms A) w0 (lv_args 0 As) 0 []) : Mn l G sa y ws rm As w0 post mc ms := by
  intro sz
  refine Met.ofW (cc := cc) (maxL := maxL) (ret := ret) hy hw ?_
  intro p e s m args below meth c s₁ B hml hv
  obtain ⟨rfl, hsz, hP, hK, hD0, hN, hZ⟩ := hv
  have hts := atoms_spec (ws := ws) B.pre
  subst hsz
  rw [lg_entry_eq]
  exact body p e s m _ below meth c (va_A w0 s.heap.size) ⟨B.exec, B.bytes, hml, (by rw [← ho]; exact findClass_of_methodNamed B.named), hts, hK, fun _ h => Or.inr h, B.notSynchronized, B.returns⟩ hN.1 ⟨hl, hN, hZ⟩ s.heap [] _ hP hD0.self va_S.rf (lv_entry As (Nat.le_of_ble_eq_true hlen))
/-- a method of the law that reads the script -/
def PSs (G : va_G × (Nat → ClassId)) (b L : Nat) (xs : Nat → Int32) (As : List Value) (sz : Nat) : Array Value → State → Prop := va_Pc As (fun U => U.heap.size = sz ∧ va_K G.1 vwCl (tG G) U ∧ va_X b L xs U U.heap ∧ b < sz)
theorem PSs_blind {G : va_G × (Nat → ClassId)} {b L : Nat} {xs : Nat → Int32} {As : List Value} {sz : Nat} : FrameBlind (PSs G b L xs As sz) := fun a U g mk q => by
  obtain ⟨q0, q1, qK, qX, qb⟩ := q
  exact ⟨q0, q1, va_K.moved (u := U) (U := U.calling g mk a) (Vm.Alike.refl U.vm) qK, va_X.moved (u := U) (U := U.calling g mk a) (Vm.Alike.refl U.vm) qX, qb⟩
def Ms (l : Launch) (G : va_G × (Nat → ClassId)) (b L : Nat) (xs : Nat → Int32) (y : MethodName) (ws : List Cond) (rm : Room) (As : List Value) (post : Int → va_W → Prop) : Prop := ∀ sz : Nat, Met l y ws rm (PSs G b L xs As sz) (QPi G post (va_A [] sz)) 0 0 (va_A [] sz)
/-- the script, outside A -/
def XS (b L : Nat) (xs : Nat → Int32) (s : State) (A : Nat → Prop) : Prop := va_X b L xs s s.heap ∧ b < s.heap.size ∧ ¬ A b ∧ L ≤ 260
theorem Ms.of {own : String} {l : Launch} {G : va_G × (Nat → ClassId)} {b L : Nat} {xs : Nat → Int32} {y : MethodName} {ws ws' : List Cond} {rm : Room} {As : List Value} {post : Int → va_W → Prop} {cc : ByteArray} {maxL : Nat} {ret : Option FieldType} (hL : L ≤ 260) (hy : plainName y.cls = true) (ho : y.cls = own) (hw : ws = Cond.code y cc maxL ret :: ws') (hlen : Nat.ble (lg_sl As).length maxL = true)
    (body : ∀ (p : Program) (e : Env) (s : State) (m : MethodId) (args : Array Value) (below : List Frame) (meth : Method) (c : Code) (A : Nat → Prop), cx p l s m args meth c cc maxL ret ws own G A s.heap → XS b L xs s A → AW p l e (headSpec ws rm).room s m args below meth c maxL G A s.heap 0 0 (MQ below (QPi G post A) args s 0 0 A) [] (lv_args 0 As) 0 []) : Ms l G b L xs y ws rm As post := by
  intro sz
  refine Met.ofW (cc := cc) (maxL := maxL) (ret := ret) hy hw ?_
  intro p e s m args below meth c s₁ B hml hv
  obtain ⟨rfl, hsz, hK, hX, hb⟩ := hv
  have hts := atoms_spec (ws := ws) B.pre
  subst hsz
  rw [lg_entry_eq]
  refine body p e s m _ below meth c (va_A [] s.heap.size) ⟨B.exec, B.bytes, hml, (by rw [← ho]; exact findClass_of_methodNamed B.named), hts, hK, fun _ h => Or.inr h, B.notSynchronized, B.returns⟩ ⟨hX, hb, fun h => ?_, hL⟩ s.heap [] _ (fun k q h => (by cases h)) ⟨fun i j p q h => (by cases h), fun k q h => (by cases h)⟩ va_S.rf (lv_entry As (Nat.le_of_ble_eq_true hlen))
  rcases h with ⟨k, e, h⟩ | h
  · cases h
  · omega
theorem zI_rem {x y : Int} (h0 : 0 ≤ x) (h1 : x < 2147483648) (h2 : 0 < y) (h3 : y < 2147483648) : zI x - zI x / zI y * zI y = zI (x % y) := by
  have hx : zI x = nI x.toNat := by show zI x = zI (x.toNat : Int); rw [Int.toNat_of_nonneg h0]
  have hy : zI y = nI y.toNat := by show zI y = zI (y.toNat : Int); rw [Int.toNat_of_nonneg (by omega)]
  rw [hx, hy, pk_rem (by omega) (by omega) (by omega)]
  show zI ((x.toNat % y.toNat : Nat) : Int) = _
  rw [Int.natCast_emod, Int.toNat_of_nonneg h0, Int.toNat_of_nonneg (by omega)]
section AWN
variable {p : Program} {l : Launch} {e : Env} {R : Room} {s : State} {m : MethodId} {args : Array Value} {below : List Frame} {meth : Method} {c : Code} {nL : Nat} {G : va_G × (Nat → ClassId)} {A : Nat → Prop} {cells slots : Nat} {Q : State → Prop} {H0 : Heap}
variable {cc : ByteArray} {ret : Option FieldType} {Ts : List Cond} {own : String} {ws : va_W} {lv : List (Nat × Value)} {pc : Nat} {st : List Value} {sa : Nat → Nat}
theorem aw_iretN {post : Int → va_W → Prop} {z : Int} {mc ms : Nat} (C : cx p l s m args meth c cc nL (some .int) Ts own G A s.heap) (h1 : cells ≤ mc) (h2 : slots ≤ ms) (hd : decode cc pc = .ok (.ireturn, 1)) (h : post z ws) : AW p l e R s m args below meth c nL G A s.heap cells slots (MQ below (QPi G post A) args s mc ms A) ws lv pc [.int (zI z)] :=
  aw_widen h1 h2 (fun H locs ls hP hD hS hl => W.iret C.1 C.2.1 C.2.2.2.2.2.2.2.2 (fun t ht hW => ⟨⟨zI z, (z, ws), rfl, ⟨rfl, h⟩, by rw [ht]; exact hP, hD⟩, hS.F ht⟩) hS.2.2 hd C.2.2.2.2.2.2.2.1)
theorem aw_zretN {post : Int → va_W → Prop} {z : Int} {mc ms : Nat} (C : cx p l s m args meth c cc nL (some .boolean) Ts own G A s.heap) (h1 : cells ≤ mc) (h2 : slots ≤ ms) (hd : decode cc pc = .ok (.ireturn, 1)) (hn : narrow .boolean (.int (zI z)) = .int (zI z)) (h : post z ws) : AW p l e R s m args below meth c nL G A s.heap cells slots (MQ below (QPi G post A) args s mc ms A) ws lv pc [.int (zI z)] :=
  aw_widen h1 h2 (fun H locs ls hP hD hS hl => W.zret C.1 C.2.1 C.2.2.2.2.2.2.2.2 hn (fun t ht hW => ⟨⟨zI z, (z, ws), rfl, ⟨rfl, h⟩, by rw [ht]; exact hP, hD⟩, hS.F ht⟩) hS.2.2 hd C.2.2.2.2.2.2.2.1)
def shrI (x y : Int) : Int := (zI x >>> (zI y &&& 31)).toInt
def ushI (v : Int) : Int := (((zI v).toUInt32 >>> ((zI 1).toUInt32 &&& Int32.toUInt32 31)).toInt32).toInt
theorem ushI_b (v : Int) : 0 ≤ ushI v ∧ ushI v < 2147483648 := by
  refine ⟨?_, (zI_rng _).2⟩
  have e : ((zI 1).toUInt32 &&& Int32.toUInt32 31) = 1 := by decide
  unfold ushI
  rw [e]
  generalize (zI v).toUInt32 = u
  have h1 : (u >>> 1).toNat = u.toNat / 2 := by
    rw [UInt32.toNat_shiftRight]
    show u.toNat >>> 1 = u.toNat / 2
    rw [Nat.shiftRight_eq_div_pow]
  have h2 : u.toNat < 4294967296 := u.toNat_lt
  show 0 ≤ (u >>> 1).toBitVec.toInt
  rw [BitVec.toInt_eq_toNat_of_lt (by show 2 * (u >>> 1).toNat < 4294967296; omega)]
  omega
theorem aw_shr (C : cx p l s m args meth c cc nL ret Ts own G A H0) {x y : Int} (hd : decode cc pc = .ok (.ishr, 1)) (k : AW p l e R s m args below meth c nL G A H0 cells slots Q ws lv (pc + 1) (.int (zI (shrI x y)) :: st)) : AW p l e R s m args below meth c nL G A H0 cells slots Q ws lv pc (.int (zI y) :: .int (zI x) :: st) :=
  fun H locs ls hP hD hS hl => lv_ishr C.1 C.2.1 hd (by have h := k H locs ls hP hD hS hl; unfold shrI at h; rw [zI_self] at h; exact h)
theorem aw_ush (C : cx p l s m args meth c cc nL ret Ts own G A H0) {x : Int} (hd : decode cc pc = .ok (.iushr, 1)) (k : AW p l e R s m args below meth c nL G A H0 cells slots Q ws lv (pc + 1) (.int (zI (ushI x)) :: st)) : AW p l e R s m args below meth c nL G A H0 cells slots Q ws lv pc (.int (zI 1) :: .int (zI x) :: st) :=
  fun H locs ls hP hD hS hl => lv_iushr C.1 C.2.1 hd rfl (by have h := k H locs ls hP hD hS hl; unfold ushI at h; rw [zI_self] at h; exact h)
theorem aw_irem (C : cx p l s m args meth c cc nL ret Ts own G A H0) {x y : Int} (hd : decode cc pc = .ok (.irem, 1)) (hx : 0 ≤ x ∧ x < 2147483648) (hy : 0 < y ∧ y < 2147483648) (k : AW p l e R s m args below meth c nL G A H0 cells slots Q ws lv (pc + 1) (.int (zI (x % y)) :: st)) : AW p l e R s m args below meth c nL G A H0 cells slots Q ws lv pc (.int (zI y) :: .int (zI x) :: st) :=
  fun H locs ls hP hD hS hl => lv_irem C.1 C.2.1 hd (fun h => by have := (zI_eq (a := y) (b := 0) (by omega) (by omega)).mp h; omega) (by rw [zI_rem hx.1 hx.2 hy.1 hy.2]; exact k H locs ls hP hD hS hl)
theorem aw_rem (C : cx p l s m args meth c cc nL ret Ts own G A H0) {x y : Int} (hd : decode cc pc = .ok (.irem, 1)) (hx : 0 ≤ x ∧ x < 2147483648) (hy : 0 < y ∧ y < 2147483648) (k : AW p l e R s m args below meth c nL G A H0 cells slots Q ws lv (pc + 1) (.int (zI (x % y)) :: st)) : AW p l e R s m args below meth c nL G A H0 cells slots Q ws lv pc (.int (zI y) :: .int (zI x) :: st) := aw_irem C hd hx hy k
theorem aw_ldc (C : cx p l s m args meth c cc nL ret Ts own G A H0) {index : Nat} {v : Int} (hk : (Cond.constant own index (zI v)).before args s = true) (hd : decode cc pc = .ok (.ldc index, 2)) (k : AW p l e R s m args below meth c nL G A H0 cells slots Q ws lv (pc + 2) (.int (zI v) :: st)) : AW p l e R s m args below meth c nL G A H0 cells slots Q ws lv pc st :=
  fun H locs ls hP hD hS hl => lv_ldc C.1 C.2.1 C.2.2.2.1 hk hd (k H locs ls hP hD hS hl)
theorem aw_sld (C : cx p l s m args meth c cc nL ret Ts own G A s.heap) {b L : Nat} {xs : Nat → Int32} (X : XS b L xs s A) {i : Int} (h0 : 0 ≤ i) (h1 : i < (L : Int)) (hd : decode cc pc = .ok (.iaload, 1)) (kk : AW p l e R s m args below meth c nL G A s.heap cells slots Q ws lv (pc + 1) (.int (zI (xs i.toNat).toInt) :: st)) : AW p l e R s m args below meth c nL G A s.heap cells slots Q ws lv pc (.int (zI i) :: .ref b :: st) :=
  fun H locs ls hP hD hS hl => by
    have hL := X.2.2.2
    refine va_sld C.1 C.2.1 X.1 X.2.1 X.2.2.1 hS (zI_in h0 h1 (by omega)) hd ?_
    rw [zI_clamp h0 (by omega), ← zI_self (xs i.toNat)]
    exact kk H locs ls hP hD hS hl
theorem aw_slen (C : cx p l s m args meth c cc nL ret Ts own G A s.heap) {b L : Nat} {xs : Nat → Int32} (X : XS b L xs s A) (hd : decode cc pc = .ok (.arraylength, 1)) (kk : AW p l e R s m args below meth c nL G A s.heap cells slots Q ws lv (pc + 1) (.int (zI (L : Int)) :: st)) : AW p l e R s m args below meth c nL G A s.heap cells slots Q ws lv pc (.ref b :: st) :=
  fun H locs ls hP hD hS hl => va_slen C.1 C.2.1 X.1 X.2.1 X.2.2.1 hS hd (kk H locs ls hP hD hS hl)
theorem preN_at (C : cx p l s m args meth c cc nL ret Ts own G A s.heap) (X : XN l s sa A) {wc : va_W} {H : Heap} {locs : List Loc} {As : List Value} (hS : va_S A s.heap H locs) (hF : ∀ q, va_A wc H.size q → A q) (hP : va_P G.1 vwCl wc H) (hD : va_D (fun _ => True) wc) : ∀ U : State, U.heap = H → s.WarmedH U.vm → PXx G sa As wc H.size As.toArray U := fun U hU hW => ⟨rfl, by rw [hU], by rw [hU]; exact hP, va_K.moved hW.alike C.2.2.2.2.2.1, hD, NT.warm hW X.2.1, by
  rw [hU]
  exact ZQ.moved hW.alike ((X.2.2.kept (fun a ha hn => hS.2.1 a ha hn)).narrow hF)⟩
variable {wc wr : va_W} {y : MethodName} {ws9 : List Cond} {rm : Room} {As : List Value} {b index maxL n : Nat} {Cn : String} {bytes : ByteArray} {rt : Option FieldType}
theorem aw_xi {post : Int → va_W → Prop} {postX : String → va_W → Prop} {ci q0 : Nat} {fs : List Value} {rc : vw_C} (C : cx p l s m args meth c cc nL ret Ts own G A s.heap) (X : XN l s sa A) (hM : Xi l G sa y ws9 rm (.ref b :: As) wc post postX) (cw : CallW R s args own Cn index y bytes maxL rt ws9 rm 1 6 n) (hc : vwCl[ci]? = some rc) (hCn : rc.1 = Cn) (he : wc[q0]? = some (b, .inr (ci, fs))) (hn : As.length = n) (hcat : Nat.ble (st.map fun v => v.category).sum 8 = true) (hd : decode cc pc = .ok (.invokevirtual index, 3)) (hf : cells + 1 ≤ R.cells ∧ slots + 6 ≤ R.slots)
    (kx : ∀ (E : String) (u : va_W), ¬ postX E u)
    (kk : ∀ (r : Int) (u : va_W), post r u → AW p l e R s m args below meth c nL G A s.heap (cells + 1) (slots + 6) Q (u ++ wr) lv (pc + 3) (.int (zI r) :: st)) : AW p l e R s m args below meth c nL G A s.heap cells slots Q (wc ++ wr) lv pc (As.reverse ++ .ref b :: st) :=
  fun H locs ls hP hD hS hl => by
    obtain ⟨hPc, hDc, hFc⟩ := aw_pre C hP hD hS
    have hr := vx_runV (e := e) (below := below) (meth := meth) (cells := cells) (slots := slots) (locs := locs) (g := F0 m pc ls (As.reverse ++ .ref b :: st)) (As := As) (rest := st) (fix_of C) (hM H.size) cw ⟨PXx_blind, by obtain ⟨cell, h1, h2, h3⟩ := va_recv C.2.2.2.2.2.1 hPc hc he; exact ⟨cell, h1, h2, by rw [← hCn]; exact h3⟩, preN_at C X hS hFc hPc hDc⟩ rfl hn hl.1 rfl (lv_room (Nat.le_of_ble_eq_true hcat)) hd hf
    refine vx_calli hr hS (fun q _ h => hFc q h) hFc (fun q _ h => hFc q h) (fun E ce q9 u t H1 locs1 ht hvm hpx hB hz1 hk1 hS1 hce hcv hcl => ?_) (fun r u t H1 locs1 ht hvm hw hB hz1 hk1 hS1 => ?_)
    · exact absurd hB.1 (kx E u)
    · obtain ⟨rfl, hp⟩ := hw
      obtain ⟨hP1, hD1⟩ := hB
      rw [ht] at hP1
      obtain ⟨hP2, hD2⟩ := jn hP hD hk1 hFc hP1 hD1
      exact kk u.1 u.2 hp H1 locs1 ls hP2 hD2 hS1 hl
theorem aw_mn {post : Int → va_W → Prop} {mc ms : Nat} (C : cx p l s m args meth c cc nL ret Ts own G A s.heap) (X : XN l s sa A) (hM : Mn l G sa y ws9 rm As wc post mc ms) (cw : CallB R s args own index y bytes maxL rt ws9 rm mc ms n ∧ (Cond.static y).before args s = true) (hn : As.length = n) (hcat : Nat.ble (st.map fun v => v.category).sum 8 = true) (hd : decode cc pc = .ok (.invokestatic index, 3)) (hf : cells + mc ≤ R.cells ∧ slots + ms ≤ R.slots)
    (kk : ∀ (r : Int) (u : va_W), post r u → AW p l e R s m args below meth c nL G A s.heap (cells + mc) (slots + ms) Q (u ++ wr) lv (pc + 3) (.int (zI r) :: st)) : AW p l e R s m args below meth c nL G A s.heap cells slots Q (wc ++ wr) lv pc (As.reverse ++ st) :=
  fun H locs ls hP hD hS hl => by
    obtain ⟨hPc, hDc, hFc⟩ := aw_pre C hP hD hS
    refine va_calli (va_runS (e := e) (below := below) (meth := meth) (cells := cells) (slots := slots) (locs := locs) (g := F0 m pc ls (As.reverse ++ st)) (As := As) (rest := st) (fix_of C) (hM H.size) cw ⟨PXx_blind, preN_at C X hS hFc hPc hDc⟩ rfl hn hl.1 rfl (lv_room (Nat.le_of_ble_eq_true hcat)) hd hf) hS (fun q _ h => hFc q h) hFc (fun r u t H1 locs1 ht hvm hw hB hz1 hk1 hS1 => ?_)
    obtain ⟨rfl, hp⟩ := hw
    obtain ⟨hP1, hD1⟩ := hB
    rw [ht] at hP1
    obtain ⟨hP2, hD2⟩ := jn hP hD hk1 hFc hP1 hD1
    exact kk u.1 u.2 hp H1 locs1 ls hP2 hD2 hS1 hl
theorem aw_ms {post : Int → va_W → Prop} {L b9 : Nat} {xs : Nat → Int32} (C : cx p l s m args meth c cc nL ret Ts own G A s.heap) (X : XS b9 L xs s A) (hM : Ms l G b9 L xs y ws9 rm As post) (cw : CallB R s args own index y bytes maxL rt ws9 rm 0 0 n ∧ (Cond.static y).before args s = true) (hn : As.length = n) (hcat : Nat.ble (st.map fun v => v.category).sum 8 = true) (hd : decode cc pc = .ok (.invokestatic index, 3)) (hf : cells ≤ R.cells ∧ slots ≤ R.slots)
    (kk : ∀ (r : Int) (u : va_W), post r u → AW p l e R s m args below meth c nL G A s.heap cells slots Q (u ++ ws) lv (pc + 3) (.int (zI r) :: st)) : AW p l e R s m args below meth c nL G A s.heap cells slots Q ws lv pc (As.reverse ++ st) :=
  fun H locs ls hP hD hS hl => by
    obtain ⟨hPc, hDc, hFc⟩ := aw_pre (wc := []) (wr := ws) C hP hD hS
    refine va_calli (va_runS (e := e) (below := below) (meth := meth) (cells := cells) (slots := slots) (locs := locs) (g := F0 m pc ls (As.reverse ++ st)) (As := As) (rest := st) (fix_of C) (hM H.size) cw ⟨PSs_blind, fun U hU hW => ⟨rfl, by rw [hU], va_K.moved hW.alike C.2.2.2.2.2.1, by rw [hU]; exact va_X.moved hW.alike (X.1.kept (hS.2.1 b9 X.2.1 X.2.2.1)), Nat.lt_of_lt_of_le X.2.1 hS.1⟩⟩ rfl hn hl.1 rfl (lv_room (Nat.le_of_ble_eq_true hcat)) hd hf) hS (fun q _ h => hFc q h) hFc (fun r u t H1 locs1 ht hvm hw hB hz1 hk1 hS1 => ?_)
    obtain ⟨rfl, hp⟩ := hw
    obtain ⟨hP1, hD1⟩ := hB
    rw [ht] at hP1
    obtain ⟨hP2, hD2⟩ := jn (wc := []) hP hD hk1 hFc hP1 hD1
    exact kk u.1 u.2 hp H1 locs1 ls hP2 hD2 hS1 hl
/-! the same, by the number of arguments -/
theorem cX0 {post : Int → va_W → Prop} {postX : String → va_W → Prop} {ci q0 : Nat} {fs : List Value} {rc : vw_C} (C : cx p l s m args meth c cc nL ret Ts own G A s.heap) (X : XN l s sa A) (hM : Xi l G sa y ws9 rm [.ref b] wc post postX) (cw : CallW R s args own Cn index y bytes maxL rt ws9 rm 1 6 0) (hc : vwCl[ci]? = some rc) (hCn : rc.1 = Cn) (he : wc[q0]? = some (b, .inr (ci, fs))) (hcat : Nat.ble (st.map fun v => v.category).sum 8 = true) (hd : decode cc pc = .ok (.invokevirtual index, 3)) (hf : cells + 1 ≤ R.cells ∧ slots + 6 ≤ R.slots) (kx : ∀ (E : String) (u : va_W), ¬ postX E u) (kk : ∀ (r : Int) (u : va_W), post r u → AW p l e R s m args below meth c nL G A s.heap (cells + 1) (slots + 6) Q u lv (pc + 3) (.int (zI r) :: st)) : AW p l e R s m args below meth c nL G A s.heap cells slots Q wc lv pc (.ref b :: st) := by
  have h := aw_xi (As := []) (wr := []) (e := e) (below := below) (Q := Q) (lv := lv) C X hM cw hc hCn he rfl hcat hd hf kx (fun r u hp => by rw [List.append_nil]; exact kk r u hp)
  rw [List.append_nil] at h
  exact h
theorem cX1 {a1 : Value} {post : Int → va_W → Prop} {postX : String → va_W → Prop} {ci q0 : Nat} {fs : List Value} {rc : vw_C} (C : cx p l s m args meth c cc nL ret Ts own G A s.heap) (X : XN l s sa A) (hM : Xi l G sa y ws9 rm [.ref b, a1] wc post postX) (cw : CallW R s args own Cn index y bytes maxL rt ws9 rm 1 6 1) (hc : vwCl[ci]? = some rc) (hCn : rc.1 = Cn) (he : wc[q0]? = some (b, .inr (ci, fs))) (hcat : Nat.ble (st.map fun v => v.category).sum 8 = true) (hd : decode cc pc = .ok (.invokevirtual index, 3)) (hf : cells + 1 ≤ R.cells ∧ slots + 6 ≤ R.slots) (kx : ∀ (E : String) (u : va_W), ¬ postX E u) (kk : ∀ (r : Int) (u : va_W), post r u → AW p l e R s m args below meth c nL G A s.heap (cells + 1) (slots + 6) Q u lv (pc + 3) (.int (zI r) :: st)) : AW p l e R s m args below meth c nL G A s.heap cells slots Q wc lv pc (a1 :: .ref b :: st) := by
  have h := aw_xi (As := [a1]) (wr := []) (e := e) (below := below) (Q := Q) (lv := lv) C X hM cw hc hCn he rfl hcat hd hf kx (fun r u hp => by rw [List.append_nil]; exact kk r u hp)
  rw [List.append_nil] at h
  exact h
theorem cX2 {a1 : Value} {a2 : Value} {post : Int → va_W → Prop} {postX : String → va_W → Prop} {ci q0 : Nat} {fs : List Value} {rc : vw_C} (C : cx p l s m args meth c cc nL ret Ts own G A s.heap) (X : XN l s sa A) (hM : Xi l G sa y ws9 rm [.ref b, a1, a2] wc post postX) (cw : CallW R s args own Cn index y bytes maxL rt ws9 rm 1 6 2) (hc : vwCl[ci]? = some rc) (hCn : rc.1 = Cn) (he : wc[q0]? = some (b, .inr (ci, fs))) (hcat : Nat.ble (st.map fun v => v.category).sum 8 = true) (hd : decode cc pc = .ok (.invokevirtual index, 3)) (hf : cells + 1 ≤ R.cells ∧ slots + 6 ≤ R.slots) (kx : ∀ (E : String) (u : va_W), ¬ postX E u) (kk : ∀ (r : Int) (u : va_W), post r u → AW p l e R s m args below meth c nL G A s.heap (cells + 1) (slots + 6) Q u lv (pc + 3) (.int (zI r) :: st)) : AW p l e R s m args below meth c nL G A s.heap cells slots Q wc lv pc (a2 :: a1 :: .ref b :: st) := by
  have h := aw_xi (As := [a1, a2]) (wr := []) (e := e) (below := below) (Q := Q) (lv := lv) C X hM cw hc hCn he rfl hcat hd hf kx (fun r u hp => by rw [List.append_nil]; exact kk r u hp)
  rw [List.append_nil] at h
  exact h
theorem cX3 {a1 : Value} {a2 : Value} {a3 : Value} {post : Int → va_W → Prop} {postX : String → va_W → Prop} {ci q0 : Nat} {fs : List Value} {rc : vw_C} (C : cx p l s m args meth c cc nL ret Ts own G A s.heap) (X : XN l s sa A) (hM : Xi l G sa y ws9 rm [.ref b, a1, a2, a3] wc post postX) (cw : CallW R s args own Cn index y bytes maxL rt ws9 rm 1 6 3) (hc : vwCl[ci]? = some rc) (hCn : rc.1 = Cn) (he : wc[q0]? = some (b, .inr (ci, fs))) (hcat : Nat.ble (st.map fun v => v.category).sum 8 = true) (hd : decode cc pc = .ok (.invokevirtual index, 3)) (hf : cells + 1 ≤ R.cells ∧ slots + 6 ≤ R.slots) (kx : ∀ (E : String) (u : va_W), ¬ postX E u) (kk : ∀ (r : Int) (u : va_W), post r u → AW p l e R s m args below meth c nL G A s.heap (cells + 1) (slots + 6) Q u lv (pc + 3) (.int (zI r) :: st)) : AW p l e R s m args below meth c nL G A s.heap cells slots Q wc lv pc (a3 :: a2 :: a1 :: .ref b :: st) := by
  have h := aw_xi (As := [a1, a2, a3]) (wr := []) (e := e) (below := below) (Q := Q) (lv := lv) C X hM cw hc hCn he rfl hcat hd hf kx (fun r u hp => by rw [List.append_nil]; exact kk r u hp)
  rw [List.append_nil] at h
  exact h
theorem cM2 {a1 : Value} {a2 : Value} {post : Int → va_W → Prop} {mc ms : Nat} (C : cx p l s m args meth c cc nL ret Ts own G A s.heap) (X : XN l s sa A) (hM : Mn l G sa y ws9 rm [a1, a2] wc post mc ms) (cw : CallB R s args own index y bytes maxL rt ws9 rm mc ms 2 ∧ (Cond.static y).before args s = true) (hcat : Nat.ble (st.map fun v => v.category).sum 8 = true) (hd : decode cc pc = .ok (.invokestatic index, 3)) (hf : cells + mc ≤ R.cells ∧ slots + ms ≤ R.slots) (kk : ∀ (r : Int) (u : va_W), post r u → AW p l e R s m args below meth c nL G A s.heap (cells + mc) (slots + ms) Q u lv (pc + 3) (.int (zI r) :: st)) : AW p l e R s m args below meth c nL G A s.heap cells slots Q wc lv pc (a2 :: a1 :: st) := by
  have h := aw_mn (As := [a1, a2]) (wr := []) (e := e) (below := below) (Q := Q) (lv := lv) C X hM cw rfl hcat hd hf (fun r u hp => by rw [List.append_nil]; exact kk r u hp)
  rw [List.append_nil] at h
  exact h
theorem cM4 {a1 : Value} {a2 : Value} {a3 : Value} {a4 : Value} {post : Int → va_W → Prop} {mc ms : Nat} (C : cx p l s m args meth c cc nL ret Ts own G A s.heap) (X : XN l s sa A) (hM : Mn l G sa y ws9 rm [a1, a2, a3, a4] wc post mc ms) (cw : CallB R s args own index y bytes maxL rt ws9 rm mc ms 4 ∧ (Cond.static y).before args s = true) (hcat : Nat.ble (st.map fun v => v.category).sum 8 = true) (hd : decode cc pc = .ok (.invokestatic index, 3)) (hf : cells + mc ≤ R.cells ∧ slots + ms ≤ R.slots) (kk : ∀ (r : Int) (u : va_W), post r u → AW p l e R s m args below meth c nL G A s.heap (cells + mc) (slots + ms) Q u lv (pc + 3) (.int (zI r) :: st)) : AW p l e R s m args below meth c nL G A s.heap cells slots Q wc lv pc (a4 :: a3 :: a2 :: a1 :: st) := by
  have h := aw_mn (As := [a1, a2, a3, a4]) (wr := []) (e := e) (below := below) (Q := Q) (lv := lv) C X hM cw rfl hcat hd hf (fun r u hp => by rw [List.append_nil]; exact kk r u hp)
  rw [List.append_nil] at h
  exact h
theorem cM6 {a1 : Value} {a2 : Value} {a3 : Value} {a4 : Value} {a5 : Value} {a6 : Value} {post : Int → va_W → Prop} {mc ms : Nat} (C : cx p l s m args meth c cc nL ret Ts own G A s.heap) (X : XN l s sa A) (hM : Mn l G sa y ws9 rm [a1, a2, a3, a4, a5, a6] wc post mc ms) (cw : CallB R s args own index y bytes maxL rt ws9 rm mc ms 6 ∧ (Cond.static y).before args s = true) (hcat : Nat.ble (st.map fun v => v.category).sum 8 = true) (hd : decode cc pc = .ok (.invokestatic index, 3)) (hf : cells + mc ≤ R.cells ∧ slots + ms ≤ R.slots) (kk : ∀ (r : Int) (u : va_W), post r u → AW p l e R s m args below meth c nL G A s.heap (cells + mc) (slots + ms) Q u lv (pc + 3) (.int (zI r) :: st)) : AW p l e R s m args below meth c nL G A s.heap cells slots Q wc lv pc (a6 :: a5 :: a4 :: a3 :: a2 :: a1 :: st) := by
  have h := aw_mn (As := [a1, a2, a3, a4, a5, a6]) (wr := []) (e := e) (below := below) (Q := Q) (lv := lv) C X hM cw rfl hcat hd hf (fun r u hp => by rw [List.append_nil]; exact kk r u hp)
  rw [List.append_nil] at h
  exact h
end AWN
