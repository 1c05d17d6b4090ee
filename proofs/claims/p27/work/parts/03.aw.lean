/-! THE WALK IN SHORT WORDS: the world is a list of cells, the locals a list of places, all ints are zI of whole numbers. -/
def zI (z : Int) : Int32 := Int32.ofInt z
theorem zI_toInt {a : Int} (h : -2147483648 ≤ a ∧ a < 2147483648) : (zI a).toInt = a := Int32.toInt_ofInt_of_le (by have := h.1; simpa using this) (by have := h.2; simpa using this)
theorem zI_eq {a b : Int} (ha : -2147483648 ≤ a ∧ a < 2147483648) (hb : -2147483648 ≤ b ∧ b < 2147483648) : zI a = zI b ↔ a = b := ⟨fun h => by rw [← zI_toInt ha, ← zI_toInt hb, h], fun h => by rw [h]⟩
theorem zI_le {a b : Int} (ha : -2147483648 ≤ a ∧ a < 2147483648) (hb : -2147483648 ≤ b ∧ b < 2147483648) : zI a ≤ zI b ↔ a ≤ b := by rw [Int32.le_iff_toInt_le, zI_toInt ha, zI_toInt hb]
theorem zI_lt {a b : Int} (ha : -2147483648 ≤ a ∧ a < 2147483648) (hb : -2147483648 ≤ b ∧ b < 2147483648) : zI a < zI b ↔ a < b := by rw [Int32.lt_iff_toInt_lt, zI_toInt ha, zI_toInt hb]
theorem zI_add (a b : Int) : zI a + zI b = zI (a + b) := (Int32.ofInt_add a b).symm
theorem zI_sub (a b : Int) : zI a - zI b = zI (a - b) := (Int32.ofInt_sub a b).symm
theorem zI_mul (a b : Int) : zI a * zI b = zI (a * b) := (Int32.ofInt_mul a b).symm
theorem zI_self (x : Int32) : zI x.toInt = x := Int32.ofInt_toInt x
theorem zI_rng (x : Int32) : -2147483648 ≤ x.toInt ∧ x.toInt < 2147483648 := ⟨Int32.le_toInt x, Int32.toInt_lt x⟩
theorem zI_clamp {a : Int} (h : 0 ≤ a) (h2 : a < 2147483648) : (zI a).toNatClampNeg = a.toNat := by
  show (zI a).toInt.toNat = a.toNat
  rw [zI_toInt ⟨by omega, h2⟩]
theorem zI_in {a : Int} {n : Nat} (h : 0 ≤ a) (h2 : a < (n : Int)) (hn : n ≤ 100000) : vp_in (zI a) n := by
  rw [vp_in_iff, zI_toInt ⟨by omega, by omega⟩]
  exact ⟨h, h2⟩
theorem zI_n (n : Nat) : zI (n : Int) = nI n := rfl
/-! locals -/
def lgU : List (Nat × Value) → Nat → Option Value
  | [], _ => none
  | (j, v) :: r, i => match Nat.beq j i with
    | true => some v
    | false => lgU r i
theorem lgU_mem : ∀ {lv : List (Nat × Value)} {i : Nat} {v : Value}, lgU lv i = some v → (i, v) ∈ lv
  | [], _, _, h => by cases h
  | (j, w) :: r, i, v, h => by
    unfold lgU at h
    cases hb : Nat.beq j i with
    | true =>
      rw [hb] at h
      have e : j = i := Nat.eq_of_beq_eq_true hb
      cases h
      subst e
      exact List.mem_cons_self
    | false =>
      rw [hb] at h
      exact List.mem_cons_of_mem _ (lgU_mem h)
/-- the list with v at the place i, the other places as they were -/
def lpU : List (Nat × Value) → Nat → Value → List (Nat × Value)
  | [], i, v => [(i, v)]
  | (j, w) :: r, i, v => match Nat.beq j i with
    | true => (i, v) :: r.filter (fun q => !(Nat.beq q.1 i))
    | false => (j, w) :: lpU r i v
theorem lpU_mem : ∀ {lv : List (Nat × Value)} {i : Nat} {v : Value} {q : Nat × Value}, q ∈ lpU lv i v → q = (i, v) ∨ (q ∈ lv ∧ Nat.beq q.1 i = false)
  | [], i, v, q, h => by
    unfold lpU at h
    exact Or.inl (List.mem_singleton.mp h)
  | (j, w) :: r, i, v, q, h => by
    unfold lpU at h
    cases hb : Nat.beq j i with
    | true =>
      rw [hb] at h
      rcases List.mem_cons.mp h with e | h
      · exact Or.inl e
      · obtain ⟨h1, h2⟩ := List.mem_filter.mp h
        exact Or.inr ⟨List.mem_cons_of_mem _ h1, by simpa using h2⟩
    | false =>
      rw [hb] at h
      rcases List.mem_cons.mp h with e | h
      · subst e
        exact Or.inr ⟨List.mem_cons_self, hb⟩
      · rcases lpU_mem h with h | ⟨h1, h2⟩
        · exact Or.inl h
        · exact Or.inr ⟨List.mem_cons_of_mem _ h1, h2⟩
/-- no long, no double among them -/
def lcU (lv : List (Nat × Value)) : Bool := lv.all (fun q => match q.2 with
  | .int _ => true
  | .ref _ => true
  | .null => true
  | _ => false)
theorem lcU_cat {lv : List (Nat × Value)} (h : lcU lv = true) {q : Nat × Value} (hq : q ∈ lv) : (q.2.category == 2) = false := by
  have h1 := List.all_eq_true.mp h q hq
  revert h1
  cases q.2 <;> simp [Value.category]
theorem lv_lpU {ls : Array Slot} {nL : Nat} {lv : List (Nat × Value)} {i : Nat} {v : Value} (hc : lcU lv = true) (h : lv_has ls nL ((i, v) :: lv.filter (fun q => !(q.1 == i) && !(q.1 + 1 == i && q.2.category == 2)))) : lv_has ls nL (lpU lv i v) := by
  refine ⟨h.1, h.2.1, fun q hq => h.2.2 q ?_⟩
  rcases lpU_mem hq with e | ⟨h1, h2⟩
  · rw [e]; exact List.mem_cons_self
  · refine List.mem_cons_of_mem _ (List.mem_filter.mpr ⟨h1, ?_⟩)
    have h3 : (q.1 == i) = false := by
      cases h9 : (q.1 == i) with
      | false => rfl
      | true =>
        have e9 : q.1 = i := eq_of_beq h9
        rw [e9, Nat.beq_refl] at h2
        cases h2
    rw [h3, lcU_cat hc h1]
    simp
/-! what is fixed in a method's walk, and the walk -/
abbrev tG (G : va_G × (Nat → ClassId)) : List (ClassId × FieldType) := [(G.2 0, .int), (G.2 1, .object RX0), (G.2 2, .array .int)]
def cx (p : Program) (l : Launch) (s : State) (m : MethodId) (args : Array Value) (meth : Method) (c : Code) (cc : ByteArray) (nL : Nat) (ret : Option FieldType) (Ts : List Cond) (own : String) (G : va_G × (Nat → ClassId)) (A : Nat → Prop) (H0 : Heap) : Prop :=
  p.tables.exec = Jvm.exec ∧ c.code = cc ∧ c.maxLocals = nL ∧ s.vm.findClass own = some m.cls ∧ (∀ w ∈ Ts, w.before args s = true) ∧ va_K G.1 vwCl (tG G) s ∧ (∀ q, H0.size ≤ q → A q) ∧ meth.locks = false ∧ meth.sig.returnType = ret
def AW (p : Program) (l : Launch) (e : Env) (R : Room) (s : State) (m : MethodId) (args : Array Value) (below : List Frame) (meth : Method) (c : Code) (nL : Nat) (G : va_G × (Nat → ClassId)) (A : Nat → Prop) (H0 : Heap) (cells slots : Nat) (Q : State → Prop) (ws : va_W) (lv : List (Nat × Value)) (pc : Nat) (st : List Value) : Prop :=
  ∀ (H : Heap) (locs : List Loc) (ls : Array Slot), va_P G.1 vwCl ws H → va_D A ws → va_S A H0 H locs → lv_has ls nL lv → W p l e R s m args below meth c H locs cells slots Q (F0 m pc ls st)
section AWS
variable {p : Program} {l : Launch} {e : Env} {R : Room} {s : State} {m : MethodId} {args : Array Value} {below : List Frame} {meth : Method} {c : Code} {nL : Nat} {G : va_G × (Nat → ClassId)} {A : Nat → Prop} {H0 : Heap} {cells slots : Nat} {Q : State → Prop}
variable {cc : ByteArray} {ret : Option FieldType} {Ts : List Cond} {own : String} {ws : va_W} {lv : List (Nat × Value)} {pc : Nat} {st : List Value}
theorem aw_iconst (C : cx p l s m args meth c cc nL ret Ts own G A H0) {n : Int} (hd : decode cc pc = .ok (.iconst n, 1)) (k : AW p l e R s m args below meth c nL G A H0 cells slots Q ws lv (pc + 1) (.int (zI n) :: st)) : AW p l e R s m args below meth c nL G A H0 cells slots Q ws lv pc st :=
  fun H locs ls hP hD hS hl => lv_iconst C.1 C.2.1 hd rfl (k H locs ls hP hD hS hl)
theorem aw_bipush (C : cx p l s m args meth c cc nL ret Ts own G A H0) {n : Int} (hd : decode cc pc = .ok (.bipush n, 2)) (hn : (Int8.ofInt n).toInt32 = zI n) (k : AW p l e R s m args below meth c nL G A H0 cells slots Q ws lv (pc + 2) (.int (zI n) :: st)) : AW p l e R s m args below meth c nL G A H0 cells slots Q ws lv pc st :=
  fun H locs ls hP hD hS hl => lv_bipush C.1 C.2.1 hd hn (k H locs ls hP hD hS hl)
theorem aw_sipush (C : cx p l s m args meth c cc nL ret Ts own G A H0) {n : Int} (hd : decode cc pc = .ok (.sipush n, 3)) (hn : (Int16.ofInt n).toInt32 = zI n) (k : AW p l e R s m args below meth c nL G A H0 cells slots Q ws lv (pc + 3) (.int (zI n) :: st)) : AW p l e R s m args below meth c nL G A H0 cells slots Q ws lv pc st :=
  fun H locs ls hP hD hS hl => lv_sipush C.1 C.2.1 hd hn (k H locs ls hP hD hS hl)
theorem aw_iload_n (C : cx p l s m args meth c cc nL ret Ts own G A H0) {i : Fin 4} {x : Int32} (hd : decode cc pc = .ok (.iload_n i, 1)) (hi : lgU lv i = some (.int x)) (k : AW p l e R s m args below meth c nL G A H0 cells slots Q ws lv (pc + 1) (.int x :: st)) : AW p l e R s m args below meth c nL G A H0 cells slots Q ws lv pc st :=
  fun H locs ls hP hD hS hl => lv_iload_n C.1 C.2.1 hd rfl (hl.2.2 _ (lgU_mem hi)) (k H locs ls hP hD hS hl)
theorem aw_iload (C : cx p l s m args meth c cc nL ret Ts own G A H0) {i : Nat} {x : Int32} (hd : decode cc pc = .ok (.iload i, 2)) (hi : lgU lv i = some (.int x)) (k : AW p l e R s m args below meth c nL G A H0 cells slots Q ws lv (pc + 2) (.int x :: st)) : AW p l e R s m args below meth c nL G A H0 cells slots Q ws lv pc st :=
  fun H locs ls hP hD hS hl => lv_iload C.1 C.2.1 hd (hl.2.2 _ (lgU_mem hi)) (k H locs ls hP hD hS hl)
theorem aw_aload_n (C : cx p l s m args meth c cc nL ret Ts own G A H0) {i : Fin 4} {x : Nat} (hd : decode cc pc = .ok (.aload_n i, 1)) (hi : lgU lv i = some (.ref x)) (k : AW p l e R s m args below meth c nL G A H0 cells slots Q ws lv (pc + 1) (.ref x :: st)) : AW p l e R s m args below meth c nL G A H0 cells slots Q ws lv pc st :=
  fun H locs ls hP hD hS hl => lv_aload_n C.1 C.2.1 hd rfl (hl.2.2 _ (lgU_mem hi)) (k H locs ls hP hD hS hl)
theorem aw_aload (C : cx p l s m args meth c cc nL ret Ts own G A H0) {i : Nat} {x : Nat} (hd : decode cc pc = .ok (.aload i, 2)) (hi : lgU lv i = some (.ref x)) (k : AW p l e R s m args below meth c nL G A H0 cells slots Q ws lv (pc + 2) (.ref x :: st)) : AW p l e R s m args below meth c nL G A H0 cells slots Q ws lv pc st :=
  fun H locs ls hP hD hS hl => lv_aload C.1 C.2.1 hd (hl.2.2 _ (lgU_mem hi)) (k H locs ls hP hD hS hl)
theorem aw_istore_n (C : cx p l s m args meth c cc nL ret Ts own G A H0) {i : Fin 4} {x : Int32} (hd : decode cc pc = .ok (.istore_n i, 1)) (hn : Nat.ble (i + 1) nL = true) (hc : lcU lv = true) (k : AW p l e R s m args below meth c nL G A H0 cells slots Q ws (lpU lv i (.int x)) (pc + 1) st) : AW p l e R s m args below meth c nL G A H0 cells slots Q ws lv pc (.int x :: st) :=
  fun H locs ls hP hD hS hl => lv_istore_n C.1 C.2.1 hd rfl hl (Nat.le_of_ble_eq_true hn) rfl (fun ls' hl' => k H locs ls' hP hD hS (lv_lpU hc hl'))
theorem aw_istore (C : cx p l s m args meth c cc nL ret Ts own G A H0) {i : Nat} {x : Int32} (hd : decode cc pc = .ok (.istore i, 2)) (hn : Nat.ble (i + 1) nL = true) (hc : lcU lv = true) (k : AW p l e R s m args below meth c nL G A H0 cells slots Q ws (lpU lv i (.int x)) (pc + 2) st) : AW p l e R s m args below meth c nL G A H0 cells slots Q ws lv pc (.int x :: st) :=
  fun H locs ls hP hD hS hl => lv_istore C.1 C.2.1 hd hl (Nat.le_of_ble_eq_true hn) rfl (fun ls' hl' => k H locs ls' hP hD hS (lv_lpU hc hl'))
theorem aw_astore_n (C : cx p l s m args meth c cc nL ret Ts own G A H0) {i : Fin 4} {x : Nat} (hd : decode cc pc = .ok (.astore_n i, 1)) (hn : Nat.ble (i + 1) nL = true) (hc : lcU lv = true) (k : AW p l e R s m args below meth c nL G A H0 cells slots Q ws (lpU lv i (.ref x)) (pc + 1) st) : AW p l e R s m args below meth c nL G A H0 cells slots Q ws lv pc (.ref x :: st) :=
  fun H locs ls hP hD hS hl => lv_astore_n C.1 C.2.1 hd rfl hl (Nat.le_of_ble_eq_true hn) rfl (fun ls' hl' => k H locs ls' hP hD hS (lv_lpU hc hl'))
theorem aw_astore (C : cx p l s m args meth c cc nL ret Ts own G A H0) {i : Nat} {x : Nat} (hd : decode cc pc = .ok (.astore i, 2)) (hn : Nat.ble (i + 1) nL = true) (hc : lcU lv = true) (k : AW p l e R s m args below meth c nL G A H0 cells slots Q ws (lpU lv i (.ref x)) (pc + 2) st) : AW p l e R s m args below meth c nL G A H0 cells slots Q ws lv pc (.ref x :: st) :=
  fun H locs ls hP hD hS hl => lv_astore C.1 C.2.1 hd hl (Nat.le_of_ble_eq_true hn) rfl (fun ls' hl' => k H locs ls' hP hD hS (lv_lpU hc hl'))
theorem lgU_at : ∀ {lv : List (Nat × Value)} {i : Nat} {v : Value}, lgU lv i = some v → ∃ k : Nat, lv[k]? = some (i, v) := fun h => List.mem_iff_getElem?.mp (lgU_mem h)
theorem aw_iinc (C : cx p l s m args meth c cc nL ret Ts own G A H0) {i : Nat} {n z : Int} (hd : decode cc pc = .ok (.iinc i n, 3)) (hi : lgU lv i = some (.int (zI z))) (hn : Nat.ble (i + 1) nL = true) (hc : lcU lv = true) (k : AW p l e R s m args below meth c nL G A H0 cells slots Q ws (lpU lv i (.int (zI (z + n)))) (pc + 3) st) : AW p l e R s m args below meth c nL G A H0 cells slots Q ws lv pc st :=
  fun H locs ls hP hD hS hl => by
    obtain ⟨j, hj⟩ := lgU_at hi
    exact lv_iinc C.1 C.2.1 hd hl hj (zI_add z n) (Nat.le_of_ble_eq_true hn) rfl (fun ls' hl' => k H locs ls' hP hD hS (lv_lpU hc hl'))
theorem aw_dup (C : cx p l s m args meth c cc nL ret Ts own G A H0) {v : Value} (hd : decode cc pc = .ok (.dup, 1)) (hv : v.category = 1) (k : AW p l e R s m args below meth c nL G A H0 cells slots Q ws lv (pc + 1) (v :: v :: st)) : AW p l e R s m args below meth c nL G A H0 cells slots Q ws lv pc (v :: st) :=
  fun H locs ls hP hD hS hl => lv_dup C.1 C.2.1 hd hv (k H locs ls hP hD hS hl)
theorem aw_dup2 (C : cx p l s m args meth c cc nL ret Ts own G A H0) {v w : Value} (hd : decode cc pc = .ok (.dup2, 1)) (hv : v.category = 1) (hw : w.category = 1) (k : AW p l e R s m args below meth c nL G A H0 cells slots Q ws lv (pc + 1) (v :: w :: v :: w :: st)) : AW p l e R s m args below meth c nL G A H0 cells slots Q ws lv pc (v :: w :: st) :=
  fun H locs ls hP hD hS hl => lv_dup2_11 C.1 C.2.1 hd hv hw (k H locs ls hP hD hS hl)
theorem aw_pop (C : cx p l s m args meth c cc nL ret Ts own G A H0) {v : Value} (hd : decode cc pc = .ok (.pop, 1)) (hv : v.category = 1) (k : AW p l e R s m args below meth c nL G A H0 cells slots Q ws lv (pc + 1) st) : AW p l e R s m args below meth c nL G A H0 cells slots Q ws lv pc (v :: st) :=
  fun H locs ls hP hD hS hl => lv_pop C.1 C.2.1 hd hv (k H locs ls hP hD hS hl)
theorem aw_iadd (C : cx p l s m args meth c cc nL ret Ts own G A H0) {x y : Int} (hd : decode cc pc = .ok (.iadd, 1)) (k : AW p l e R s m args below meth c nL G A H0 cells slots Q ws lv (pc + 1) (.int (zI (x + y)) :: st)) : AW p l e R s m args below meth c nL G A H0 cells slots Q ws lv pc (.int (zI y) :: .int (zI x) :: st) :=
  fun H locs ls hP hD hS hl => lv_iadd C.1 C.2.1 hd (by rw [zI_add]; exact k H locs ls hP hD hS hl)
theorem aw_isub (C : cx p l s m args meth c cc nL ret Ts own G A H0) {x y : Int} (hd : decode cc pc = .ok (.isub, 1)) (k : AW p l e R s m args below meth c nL G A H0 cells slots Q ws lv (pc + 1) (.int (zI (x - y)) :: st)) : AW p l e R s m args below meth c nL G A H0 cells slots Q ws lv pc (.int (zI y) :: .int (zI x) :: st) :=
  fun H locs ls hP hD hS hl => lv_isub C.1 C.2.1 hd (by rw [zI_sub]; exact k H locs ls hP hD hS hl)
theorem aw_imul (C : cx p l s m args meth c cc nL ret Ts own G A H0) {x y : Int} (hd : decode cc pc = .ok (.imul, 1)) (k : AW p l e R s m args below meth c nL G A H0 cells slots Q ws lv (pc + 1) (.int (zI (x * y)) :: st)) : AW p l e R s m args below meth c nL G A H0 cells slots Q ws lv pc (.int (zI y) :: .int (zI x) :: st) :=
  fun H locs ls hP hD hS hl => lv_imul C.1 C.2.1 hd (by rw [zI_mul]; exact k H locs ls hP hD hS hl)
theorem aw_icmp_eq (C : cx p l s m args meth c cc nL ret Ts own G A H0) {x y : Int} {off : Int} {tgt : Nat} (hd : decode cc pc = .ok (.if_icmp .eq off, 3)) (ht : (pc : Int) + off = (tgt : Int)) (hx : -2147483648 ≤ x ∧ x < 2147483648) (hy : -2147483648 ≤ y ∧ y < 2147483648) (kt : x = y → AW p l e R s m args below meth c nL G A H0 cells slots Q ws lv tgt st) (kf : ¬ x = y → AW p l e R s m args below meth c nL G A H0 cells slots Q ws lv (pc + 3) st) : AW p l e R s m args below meth c nL G A H0 cells slots Q ws lv pc (.int (zI y) :: .int (zI x) :: st) :=
  fun H locs ls hP hD hS hl => lv_icmp_eq C.1 C.2.1 hd ht (fun h => kt ((zI_eq hx hy).mp h) H locs ls hP hD hS hl) (fun h => kf (fun q => h ((zI_eq hx hy).mpr q)) H locs ls hP hD hS hl)
theorem aw_icmp_ne (C : cx p l s m args meth c cc nL ret Ts own G A H0) {x y : Int} {off : Int} {tgt : Nat} (hd : decode cc pc = .ok (.if_icmp .ne off, 3)) (ht : (pc : Int) + off = (tgt : Int)) (hx : -2147483648 ≤ x ∧ x < 2147483648) (hy : -2147483648 ≤ y ∧ y < 2147483648) (kt : ¬ x = y → AW p l e R s m args below meth c nL G A H0 cells slots Q ws lv tgt st) (kf : x = y → AW p l e R s m args below meth c nL G A H0 cells slots Q ws lv (pc + 3) st) : AW p l e R s m args below meth c nL G A H0 cells slots Q ws lv pc (.int (zI y) :: .int (zI x) :: st) :=
  fun H locs ls hP hD hS hl => lv_icmp_ne C.1 C.2.1 hd ht (fun h => kt (fun q => h ((zI_eq hx hy).mpr q)) H locs ls hP hD hS hl) (fun h => kf ((zI_eq hx hy).mp h) H locs ls hP hD hS hl)
theorem aw_icmp_lt (C : cx p l s m args meth c cc nL ret Ts own G A H0) {x y : Int} {off : Int} {tgt : Nat} (hd : decode cc pc = .ok (.if_icmp .lt off, 3)) (ht : (pc : Int) + off = (tgt : Int)) (hx : -2147483648 ≤ x ∧ x < 2147483648) (hy : -2147483648 ≤ y ∧ y < 2147483648) (kt : x < y → AW p l e R s m args below meth c nL G A H0 cells slots Q ws lv tgt st) (kf : y ≤ x → AW p l e R s m args below meth c nL G A H0 cells slots Q ws lv (pc + 3) st) : AW p l e R s m args below meth c nL G A H0 cells slots Q ws lv pc (.int (zI y) :: .int (zI x) :: st) :=
  fun H locs ls hP hD hS hl => lv_icmp_lt C.1 C.2.1 hd ht (fun h => kt ((zI_lt hx hy).mp h) H locs ls hP hD hS hl) (fun h => kf (Int.not_lt.mp (fun q => h ((zI_lt hx hy).mpr q))) H locs ls hP hD hS hl)
theorem aw_icmp_ge (C : cx p l s m args meth c cc nL ret Ts own G A H0) {x y : Int} {off : Int} {tgt : Nat} (hd : decode cc pc = .ok (.if_icmp .ge off, 3)) (ht : (pc : Int) + off = (tgt : Int)) (hx : -2147483648 ≤ x ∧ x < 2147483648) (hy : -2147483648 ≤ y ∧ y < 2147483648) (kt : y ≤ x → AW p l e R s m args below meth c nL G A H0 cells slots Q ws lv tgt st) (kf : x < y → AW p l e R s m args below meth c nL G A H0 cells slots Q ws lv (pc + 3) st) : AW p l e R s m args below meth c nL G A H0 cells slots Q ws lv pc (.int (zI y) :: .int (zI x) :: st) :=
  fun H locs ls hP hD hS hl => lv_icmp_ge C.1 C.2.1 hd ht (fun h => kt ((zI_le hy hx).mp h) H locs ls hP hD hS hl) (fun h => kf (Int.not_le.mp (fun q => h ((zI_le hy hx).mpr q))) H locs ls hP hD hS hl)
theorem aw_icmp_gt (C : cx p l s m args meth c cc nL ret Ts own G A H0) {x y : Int} {off : Int} {tgt : Nat} (hd : decode cc pc = .ok (.if_icmp .gt off, 3)) (ht : (pc : Int) + off = (tgt : Int)) (hx : -2147483648 ≤ x ∧ x < 2147483648) (hy : -2147483648 ≤ y ∧ y < 2147483648) (kt : y < x → AW p l e R s m args below meth c nL G A H0 cells slots Q ws lv tgt st) (kf : x ≤ y → AW p l e R s m args below meth c nL G A H0 cells slots Q ws lv (pc + 3) st) : AW p l e R s m args below meth c nL G A H0 cells slots Q ws lv pc (.int (zI y) :: .int (zI x) :: st) :=
  fun H locs ls hP hD hS hl => lv_icmp_gt C.1 C.2.1 hd ht (fun h => kt ((zI_lt hy hx).mp h) H locs ls hP hD hS hl) (fun h => kf (Int.not_lt.mp (fun q => h ((zI_lt hy hx).mpr q))) H locs ls hP hD hS hl)
theorem aw_icmp_le (C : cx p l s m args meth c cc nL ret Ts own G A H0) {x y : Int} {off : Int} {tgt : Nat} (hd : decode cc pc = .ok (.if_icmp .le off, 3)) (ht : (pc : Int) + off = (tgt : Int)) (hx : -2147483648 ≤ x ∧ x < 2147483648) (hy : -2147483648 ≤ y ∧ y < 2147483648) (kt : x ≤ y → AW p l e R s m args below meth c nL G A H0 cells slots Q ws lv tgt st) (kf : y < x → AW p l e R s m args below meth c nL G A H0 cells slots Q ws lv (pc + 3) st) : AW p l e R s m args below meth c nL G A H0 cells slots Q ws lv pc (.int (zI y) :: .int (zI x) :: st) :=
  fun H locs ls hP hD hS hl => lv_icmp_le C.1 C.2.1 hd ht (fun h => kt ((zI_le hx hy).mp h) H locs ls hP hD hS hl) (fun h => kf (Int.not_le.mp (fun q => h ((zI_le hx hy).mpr q))) H locs ls hP hD hS hl)
theorem zI_00 : (0 : Int32) = zI 0 := rfl
theorem zI_r0 : -2147483648 ≤ (0 : Int) ∧ (0 : Int) < 2147483648 := ⟨by decide, by decide⟩
theorem aw_if_eq (C : cx p l s m args meth c cc nL ret Ts own G A H0) {x : Int} {off : Int} {tgt : Nat} (hd : decode cc pc = .ok (.ifCond .eq off, 3)) (ht : (pc : Int) + off = (tgt : Int)) (hx : -2147483648 ≤ x ∧ x < 2147483648) (kt : x = 0 → AW p l e R s m args below meth c nL G A H0 cells slots Q ws lv tgt st) (kf : ¬ x = 0 → AW p l e R s m args below meth c nL G A H0 cells slots Q ws lv (pc + 3) st) : AW p l e R s m args below meth c nL G A H0 cells slots Q ws lv pc (.int (zI x) :: st) :=
  fun H locs ls hP hD hS hl => lv_if_eq C.1 C.2.1 hd ht (fun h => kt ((zI_eq hx zI_r0).mp h) H locs ls hP hD hS hl) (fun h => kf (fun q => h ((zI_eq hx zI_r0).mpr q)) H locs ls hP hD hS hl)
theorem aw_if_ne (C : cx p l s m args meth c cc nL ret Ts own G A H0) {x : Int} {off : Int} {tgt : Nat} (hd : decode cc pc = .ok (.ifCond .ne off, 3)) (ht : (pc : Int) + off = (tgt : Int)) (hx : -2147483648 ≤ x ∧ x < 2147483648) (kt : ¬ x = 0 → AW p l e R s m args below meth c nL G A H0 cells slots Q ws lv tgt st) (kf : x = 0 → AW p l e R s m args below meth c nL G A H0 cells slots Q ws lv (pc + 3) st) : AW p l e R s m args below meth c nL G A H0 cells slots Q ws lv pc (.int (zI x) :: st) :=
  fun H locs ls hP hD hS hl => lv_if_ne C.1 C.2.1 hd ht (fun h => kt (fun q => h ((zI_eq hx zI_r0).mpr q)) H locs ls hP hD hS hl) (fun h => kf ((zI_eq hx zI_r0).mp h) H locs ls hP hD hS hl)
theorem aw_if_lt (C : cx p l s m args meth c cc nL ret Ts own G A H0) {x : Int} {off : Int} {tgt : Nat} (hd : decode cc pc = .ok (.ifCond .lt off, 3)) (ht : (pc : Int) + off = (tgt : Int)) (hx : -2147483648 ≤ x ∧ x < 2147483648) (kt : x < 0 → AW p l e R s m args below meth c nL G A H0 cells slots Q ws lv tgt st) (kf : 0 ≤ x → AW p l e R s m args below meth c nL G A H0 cells slots Q ws lv (pc + 3) st) : AW p l e R s m args below meth c nL G A H0 cells slots Q ws lv pc (.int (zI x) :: st) :=
  fun H locs ls hP hD hS hl => lv_if_lt C.1 C.2.1 hd ht (fun h => kt ((zI_lt hx zI_r0).mp h) H locs ls hP hD hS hl) (fun h => kf (Int.not_lt.mp (fun q => h ((zI_lt hx zI_r0).mpr q))) H locs ls hP hD hS hl)
theorem aw_if_ge (C : cx p l s m args meth c cc nL ret Ts own G A H0) {x : Int} {off : Int} {tgt : Nat} (hd : decode cc pc = .ok (.ifCond .ge off, 3)) (ht : (pc : Int) + off = (tgt : Int)) (hx : -2147483648 ≤ x ∧ x < 2147483648) (kt : 0 ≤ x → AW p l e R s m args below meth c nL G A H0 cells slots Q ws lv tgt st) (kf : x < 0 → AW p l e R s m args below meth c nL G A H0 cells slots Q ws lv (pc + 3) st) : AW p l e R s m args below meth c nL G A H0 cells slots Q ws lv pc (.int (zI x) :: st) :=
  fun H locs ls hP hD hS hl => lv_if_ge C.1 C.2.1 hd ht (fun h => kt ((zI_le zI_r0 hx).mp h) H locs ls hP hD hS hl) (fun h => kf (Int.not_le.mp (fun q => h ((zI_le zI_r0 hx).mpr q))) H locs ls hP hD hS hl)
theorem aw_if_gt (C : cx p l s m args meth c cc nL ret Ts own G A H0) {x : Int} {off : Int} {tgt : Nat} (hd : decode cc pc = .ok (.ifCond .gt off, 3)) (ht : (pc : Int) + off = (tgt : Int)) (hx : -2147483648 ≤ x ∧ x < 2147483648) (kt : 0 < x → AW p l e R s m args below meth c nL G A H0 cells slots Q ws lv tgt st) (kf : x ≤ 0 → AW p l e R s m args below meth c nL G A H0 cells slots Q ws lv (pc + 3) st) : AW p l e R s m args below meth c nL G A H0 cells slots Q ws lv pc (.int (zI x) :: st) :=
  fun H locs ls hP hD hS hl => lv_if_gt C.1 C.2.1 hd ht (fun h => kt ((zI_lt zI_r0 hx).mp h) H locs ls hP hD hS hl) (fun h => kf (Int.not_lt.mp (fun q => h ((zI_lt zI_r0 hx).mpr q))) H locs ls hP hD hS hl)
theorem aw_if_le (C : cx p l s m args meth c cc nL ret Ts own G A H0) {x : Int} {off : Int} {tgt : Nat} (hd : decode cc pc = .ok (.ifCond .le off, 3)) (ht : (pc : Int) + off = (tgt : Int)) (hx : -2147483648 ≤ x ∧ x < 2147483648) (kt : x ≤ 0 → AW p l e R s m args below meth c nL G A H0 cells slots Q ws lv tgt st) (kf : 0 < x → AW p l e R s m args below meth c nL G A H0 cells slots Q ws lv (pc + 3) st) : AW p l e R s m args below meth c nL G A H0 cells slots Q ws lv pc (.int (zI x) :: st) :=
  fun H locs ls hP hD hS hl => lv_if_le C.1 C.2.1 hd ht (fun h => kt ((zI_le hx zI_r0).mp h) H locs ls hP hD hS hl) (fun h => kf (Int.not_le.mp (fun q => h ((zI_le hx zI_r0).mpr q))) H locs ls hP hD hS hl)
theorem aw_goto (C : cx p l s m args meth c cc nL ret Ts own G A H0) {off : Int} {tgt : Nat} (hd : decode cc pc = .ok (.goto off, 3)) (ht : (pc : Int) + off = (tgt : Int)) (k : AW p l e R s m args below meth c nL G A H0 cells slots Q ws lv tgt st) : AW p l e R s m args below meth c nL G A H0 cells slots Q ws lv pc st :=
  fun H locs ls hP hD hS hl => lv_goto C.1 C.2.1 hd ht (k H locs ls hP hD hS hl)
/-- an int of the stack told otherwise -/
theorem aw_top {x y : Int} (h : x = y) (k : AW p l e R s m args below meth c nL G A H0 cells slots Q ws lv pc (.int (zI y) :: st)) : AW p l e R s m args below meth c nL G A H0 cells slots Q ws lv pc (.int (zI x) :: st) := h ▸ k
/-- the world told otherwise -/
theorem aw_ws {ws' : va_W} (h : ws = ws') (k : AW p l e R s m args below meth c nL G A H0 cells slots Q ws' lv pc st) : AW p l e R s m args below meth c nL G A H0 cells slots Q ws lv pc st := h ▸ k
/-- the locals told otherwise -/
theorem aw_lv {lv' : List (Nat × Value)} (h : lv = lv') (k : AW p l e R s m args below meth c nL G A H0 cells slots Q ws lv' pc st) : AW p l e R s m args below meth c nL G A H0 cells slots Q ws lv pc st := h ▸ k
/-- fewer locals -/
theorem aw_less {lv' : List (Nat × Value)} (h : ∀ q ∈ lv', q ∈ lv) (k : AW p l e R s m args below meth c nL G A H0 cells slots Q ws lv' pc st) : AW p l e R s m args below meth c nL G A H0 cells slots Q ws lv pc st :=
  fun H locs ls hP hD hS hl => k H locs ls hP hD hS ⟨hl.1, hl.2.1, fun q hq => hl.2.2 q (h q hq)⟩
theorem aw_get (C : cx p l s m args meth c cc nL ret Ts own G A H0) {Cn : String} {T : u_T} {N ci index q0 k : Nat} {a : Nat} {fs : List Value} {v : Value} (hin : ∀ w ∈ u_ws Cn T N, w ∈ Ts) (hlink : (Cond.fieldLink own index (T k).1 (T k).2.1 (T k).2.2.1).before args s = true) (he : ws[q0]? = some (a, .inr (ci, fs))) (hc : vwCl[ci]? = some (Cn, T, N)) (hk : Nat.ble (k + 1) N = true) (hv : fs[k]? = some v) (hd : decode cc pc = .ok (.getfield index, 3)) (kk : AW p l e R s m args below meth c nL G A H0 cells slots Q ws lv (pc + 3) (v :: st)) : AW p l e R s m args below meth c nL G A H0 cells slots Q ws lv pc (.ref a :: st) :=
  fun H locs ls hP hD hS hl => va_get C.1 C.2.1 C.2.2.2.2.1 hin C.2.2.2.1 C.2.2.2.2.2.1 hP q0 he hc k (Nat.le_of_ble_eq_true hk) hlink (fun _ h => h) hv hd (kk H locs ls hP hD hS hl)
theorem aw_put (C : cx p l s m args meth c cc nL ret Ts own G A H0) {Cn : String} {T : u_T} {N ci index q0 k : Nat} {ty0 : Nat → FieldType} {a : Nat} {fs : List Value} {z : Int} {ws' : va_W} (hin : ∀ w ∈ u_ws Cn T N, w ∈ Ts) (hty : ∀ k, k < N → parseFieldDescriptor (T k).2.2.1 = some (ty0 k)) (hnm : ∀ a, a < N → ∀ b, b < N → a ≠ b → (T a).2.1 ≠ (T b).2.1) (hlink : (Cond.fieldLink own index (T k).1 (T k).2.1 (T k).2.2.1).before args s = true) (he : ws[q0]? = some (a, .inr (ci, fs))) (hc : vwCl[ci]? = some (Cn, T, N)) (hk : Nat.ble (k + 1) N = true) (hfin : (T k).2.2.2 = false) (hi : ty0 k = .int) (hl9 : Nat.ble (k + 1) fs.length = true) (hw : ws.set q0 (a, .inr (ci, fs.set k (.int (zI z)))) = ws') (hd : decode cc pc = .ok (.putfield index, 3)) (kk : AW p l e R s m args below meth c nL G A H0 cells slots Q ws' lv (pc + 3) st) : AW p l e R s m args below meth c nL G A H0 cells slots Q ws lv pc (.int (zI z) :: .ref a :: st) :=
  fun H locs ls hP hD hS hl => va_put (v := .int (zI z)) (ty := .int) C.1 C.2.1 C.2.2.2.2.1 hin ty0 hty hnm C.2.2.2.1 C.2.2.2.2.2.1 hP hD hS q0 he hc k (Nat.le_of_ble_eq_true hk) hlink (fun _ h => h) hfin (by rw [hty k (Nat.le_of_ble_eq_true hk), hi]) rfl rfl (Nat.le_of_ble_eq_true hl9) hd (fun H1 locs1 hP1 hD1 hS1 => by subst hw; exact kk H1 locs1 ls hP1 hD1 hS1 hl)
theorem aw_iald (C : cx p l s m args meth c cc nL ret Ts own G A H0) {q0 n : Nat} {a : Nat} {f : Nat → Int32} {i v : Int} (he : ws[q0]? = some (a, .inl (G.2 0, n, .inl f))) (h0 : 0 ≤ i) (hn : i < (n : Int)) (hb : Nat.ble n 100000 = true) (hv : f i.toNat = zI v) (hd : decode cc pc = .ok (.iaload, 1)) (k : AW p l e R s m args below meth c nL G A H0 cells slots Q ws lv (pc + 1) (.int (zI v) :: st)) : AW p l e R s m args below meth c nL G A H0 cells slots Q ws lv pc (.int (zI i) :: .ref a :: st) :=
  fun H locs ls hP hD hS hl => by
    have hb' := Nat.le_of_ble_eq_true hb
    refine va_iald C.1 C.2.1 C.2.2.2.2.2.1 hP q0 0 he rfl (zI_in h0 hn hb') hd ?_
    rw [zI_clamp h0 (by omega), hv]
    exact k H locs ls hP hD hS hl
theorem aw_iast (C : cx p l s m args meth c cc nL ret Ts own G A H0) {q0 n : Nat} {a : Nat} {f : Nat → Int32} {i x : Int} {ws' : va_W} (he : ws[q0]? = some (a, .inl (G.2 0, n, .inl f))) (h0 : 0 ≤ i) (hn : i < (n : Int)) (hb : Nat.ble n 100000 = true) (hw : ws.set q0 (a, .inl (G.2 0, n, .inl (upd f i.toNat (zI x)))) = ws') (hd : decode cc pc = .ok (.iastore, 1)) (k : AW p l e R s m args below meth c nL G A H0 cells slots Q ws' lv (pc + 1) st) : AW p l e R s m args below meth c nL G A H0 cells slots Q ws lv pc (.int (zI x) :: .int (zI i) :: .ref a :: st) :=
  fun H locs ls hP hD hS hl => by
    have hb' := Nat.le_of_ble_eq_true hb
    refine va_iast C.1 C.2.1 C.2.2.2.2.2.1 hP hD hS q0 0 he rfl (zI_in h0 hn hb') hd (fun H1 locs1 hP1 hD1 hS1 => ?_)
    rw [zI_clamp h0 (by omega), hw] at hP1 hD1
    exact k H1 locs1 ls hP1 hD1 hS1 hl
/-- a lane out of the row of lanes -/
theorem aw_aldL (C : cx p l s m args meth c cc nL ret Ts own G A H0) {q0 n : Nat} {a r : Nat} {f : Nat → Option Nat} {i : Int} (he : ws[q0]? = some (a, .inl (G.2 1, n, .inr (.inr (.inr (.inr f)))))) (h0 : 0 ≤ i) (hn : i < (n : Int)) (hb : Nat.ble n 100000 = true) (hv : f i.toNat = some r) (hd : decode cc pc = .ok (.aaload, 1)) (k : AW p l e R s m args below meth c nL G A H0 cells slots Q ws lv (pc + 1) (.ref r :: st)) : AW p l e R s m args below meth c nL G A H0 cells slots Q ws lv pc (.int (zI i) :: .ref a :: st) :=
  fun H locs ls hP hD hS hl => by
    have hb' := Nat.le_of_ble_eq_true hb
    refine va_aldq C.1 C.2.1 C.2.2.2.2.2.1 hP q0 1 he rfl (zI_in h0 hn hb') hd ?_
    rw [zI_clamp h0 (by omega), hv]
    exact k H locs ls hP hD hS hl
end AWS
section AWT
variable {p : Program} {l : Launch} {e : Env} {R : Room} {s : State} {m : MethodId} {args : Array Value} {below : List Frame} {meth : Method} {c : Code} {nL : Nat} {G : va_G × (Nat → ClassId)} {A : Nat → Prop} {H0 : Heap} {cells slots : Nat} {Q : State → Prop}
variable {cc : ByteArray} {ret : Option FieldType} {Ts : List Cond} {own : String} {ws : va_W} {lv : List (Nat × Value)} {pc : Nat} {st : List Value}
/-- a row out of a grid -/
theorem aw_aldA (C : cx p l s m args meth c cc nL ret Ts own G A H0) {q0 n : Nat} {a r : Nat} {f : Nat → Option Nat} {i : Int} (he : ws[q0]? = some (a, .inl (G.2 2, n, .inr (.inr (.inr (.inr f)))))) (h0 : 0 ≤ i) (hn : i < (n : Int)) (hb : Nat.ble n 100000 = true) (hv : f i.toNat = some r) (hd : decode cc pc = .ok (.aaload, 1)) (k : AW p l e R s m args below meth c nL G A H0 cells slots Q ws lv (pc + 1) (.ref r :: st)) : AW p l e R s m args below meth c nL G A H0 cells slots Q ws lv pc (.int (zI i) :: .ref a :: st) :=
  fun H locs ls hP hD hS hl => by
    have hb' := Nat.le_of_ble_eq_true hb
    have hin : vp_in (zI i) n := zI_in h0 hn hb'
    have hlt : (zI i).toNatClampNeg < n := Nat.not_le.mp fun q => hin (Or.inr q)
    have hK := C.2.2.2.2.2.1
    have ec : (zI i).toNatClampNeg = i.toNat := zI_clamp h0 (by omega)
    refine W.aald (v := va_rf (f (zI i).toNatClampNeg)) (ty := .array .int) C.1 C.2.1 (hP q0 _ he) ((hK.2 2 _ rfl).1 n (fun j => va_rf (f j))) rfl (fun q => by cases q) (by show ¬ (zI i < 0 ∨ (arrV _ _ _).slots.size ≤ _); rw [arrV_size]; exact hin) (by show (arrV _ _ _).slots[_]? = _; rw [arrV_read _ _ hlt]) rfl rfl hd ?_
    rw [ec, hv]
    exact k H locs ls hP hD hS hl
end AWT
/-! CONTRACTS: from the world w0 (beside which anything may lie) the method returns; its answer and the world behind it hold post; no other cell changes; nothing is made -/
def NX (U : State) : Prop := va_Nw (.methodLinkNest "PaintSequencer$Plan" 46 yX2_changeBetween "PaintSequencer") U
def PX (G : va_G × (Nat → ClassId)) (As : List Value) (w0 : va_W) (sz : Nat) : Array Value → State → Prop := va_Pc As (fun U => U.heap.size = sz ∧ va_P G.1 vwCl w0 U.heap ∧ va_K G.1 vwCl (tG G) U ∧ va_D (fun _ => True) w0 ∧ NX U)
theorem PX_blind {G : va_G × (Nat → ClassId)} {As : List Value} {w0 : va_W} {sz : Nat} : FrameBlind (PX G As w0 sz) := fun a U g mk q => by
  obtain ⟨q0, q1, qP, qK, qD, qN⟩ := q
  exact ⟨q0, q1, qP, va_K.moved (u := U) (U := U.calling g mk a) (Vm.Alike.refl U.vm) qK, qD, va_Nw.same rfl (rfl : U.vm = (U.calling g mk a).vm) qN⟩
def QPi (G : va_G × (Nat → ClassId)) (post : Int → va_W → Prop) (A : Nat → Prop) : Array Value → State → Outcome → State → Prop := va_Qi (fun (r : Int32) (u : Int × va_W) => r = zI u.1 ∧ post u.1 u.2) (fun u t => va_P G.1 vwCl u.2 t.heap ∧ va_D A u.2) A
def QPv (G : va_G × (Nat → ClassId)) (post : va_W → Prop) (A : Nat → Prop) : Array Value → State → Outcome → State → Prop := va_Qv (fun (u : va_W) => post u) (fun u t => va_P G.1 vwCl u t.heap ∧ va_D A u) A
def Mi (l : Launch) (G : va_G × (Nat → ClassId)) (y : MethodName) (ws : List Cond) (rm : Room) (As : List Value) (w0 : va_W) (post : Int → va_W → Prop) : Prop := ∀ sz : Nat, Met l y ws rm (PX G As w0 sz) (QPi G post (va_A w0 sz)) 0 0 (va_A w0 sz)
def Mv (l : Launch) (G : va_G × (Nat → ClassId)) (y : MethodName) (ws : List Cond) (rm : Room) (As : List Value) (w0 : va_W) (post : va_W → Prop) : Prop := ∀ sz : Nat, Met l y ws rm (PX G As w0 sz) (QPv G post (va_A w0 sz)) 0 0 (va_A w0 sz)
theorem Mi.of {own : String} {l : Launch} {G : va_G × (Nat → ClassId)} {y : MethodName} {ws ws' : List Cond} {rm : Room} {As : List Value} {w0 : va_W} {post : Int → va_W → Prop} {cc : ByteArray} {maxL : Nat} {ret : Option FieldType} (hy : plainName y.cls = true) (ho : y.cls = own) (hw : ws = Cond.code y cc maxL ret :: ws') (hlen : Nat.ble (lg_sl As).length maxL = true)
    (body : ∀ (p : Program) (e : Env) (s : State) (m : MethodId) (args : Array Value) (below : List Frame) (meth : Method) (c : Code) (A : Nat → Prop), cx p l s m args meth c cc maxL ret ws own G A s.heap → NX s → AW p l e (headSpec ws rm).room s m args below meth c maxL G A s.heap 0 0 (MQ below (QPi G post A) args s 0 0 A) w0 (lv_args 0 As) 0 []) : Mi l G y ws rm As w0 post := by
  intro sz
  refine Met.ofW (cc := cc) (maxL := maxL) (ret := ret) hy hw ?_
  intro p e s m args below meth c s₁ B hml hv
  obtain ⟨rfl, hsz, hP, hK, hD0, hN⟩ := hv
  have hts := atoms_spec (ws := ws) B.pre
  subst hsz
  rw [lg_entry_eq]
  exact body p e s m _ below meth c (va_A w0 s.heap.size) ⟨B.exec, B.bytes, hml, (by rw [← ho]; exact findClass_of_methodNamed B.named), hts, hK, fun _ h => Or.inr h, B.notSynchronized, B.returns⟩ hN s.heap [] _ hP hD0.self va_S.rf (lv_entry As (Nat.le_of_ble_eq_true hlen))
theorem Mv.of {own : String} {l : Launch} {G : va_G × (Nat → ClassId)} {y : MethodName} {ws ws' : List Cond} {rm : Room} {As : List Value} {w0 : va_W} {post : va_W → Prop} {cc : ByteArray} {maxL : Nat} {ret : Option FieldType} (hy : plainName y.cls = true) (ho : y.cls = own) (hw : ws = Cond.code y cc maxL ret :: ws') (hlen : Nat.ble (lg_sl As).length maxL = true)
    (body : ∀ (p : Program) (e : Env) (s : State) (m : MethodId) (args : Array Value) (below : List Frame) (meth : Method) (c : Code) (A : Nat → Prop), cx p l s m args meth c cc maxL ret ws own G A s.heap → NX s → AW p l e (headSpec ws rm).room s m args below meth c maxL G A s.heap 0 0 (MQ below (QPv G post A) args s 0 0 A) w0 (lv_args 0 As) 0 []) : Mv l G y ws rm As w0 post := by
  intro sz
  refine Met.ofW (cc := cc) (maxL := maxL) (ret := ret) hy hw ?_
  intro p e s m args below meth c s₁ B hml hv
  obtain ⟨rfl, hsz, hP, hK, hD0, hN⟩ := hv
  have hts := atoms_spec (ws := ws) B.pre
  subst hsz
  rw [lg_entry_eq]
  exact body p e s m _ below meth c (va_A w0 s.heap.size) ⟨B.exec, B.bytes, hml, (by rw [← ho]; exact findClass_of_methodNamed B.named), hts, hK, fun _ h => Or.inr h, B.notSynchronized, B.returns⟩ hN s.heap [] _ hP hD0.self va_S.rf (lv_entry As (Nat.le_of_ble_eq_true hlen))
theorem jn {A0 : Nat → Prop} {D : va_G} {cl : List vw_C} {wc wr w1 : va_W} {H H1 : Heap} (hP : va_P D cl (wc ++ wr) H) (hD : va_D A0 (wc ++ wr)) (hk : ∀ q : Nat, q < H.size → ¬ va_A wc H.size q → H1[q]? = H[q]?) (hF : ∀ q, va_A wc H.size q → A0 q) (hP1 : va_P D cl w1 H1) (hD1 : va_D (va_A wc H.size) w1) : va_P D cl (w1 ++ wr) H1 ∧ va_D A0 (w1 ++ wr) := by
  have at2 : ∀ (k : Nat) (q : Nat × va_E), wr[k]? = some q → (wc ++ wr)[wc.length + k]? = some q := fun k q h => by rw [List.getElem?_append_right (Nat.le_add_right _ _), Nat.add_sub_cancel_left]; exact h
  have at1 : ∀ (k : Nat) (q : Nat × va_E), wc[k]? = some q → (wc ++ wr)[k]? = some q := fun k q h => by rw [List.getElem?_append_left (List.getElem?_eq_some_iff.mp h).1]; exact h
  have off : ∀ (k : Nat) (q : Nat × va_E), wr[k]? = some q → ¬ va_A wc H.size q.1 := by
    intro k q hq hA
    have hlt := (hP _ _ (at2 k q hq)).lt
    rcases hA with ⟨j, e, hj⟩ | h
    · have h1 := hD.1 _ _ _ _ (at1 j _ hj) (at2 k q hq) rfl
      have h2 := (List.getElem?_eq_some_iff.mp hj).1
      omega
    · omega
  refine ⟨fun k q h => ?_, ?_⟩
  · by_cases hl : k < w1.length
    · rw [List.getElem?_append_left hl] at h
      exact hP1 k q h
    · rw [List.getElem?_append_right (Nat.le_of_not_lt hl)] at h
      exact (hP _ _ (at2 _ q h)).kept (hk q.1 (hP _ _ (at2 _ q h)).lt (off _ q h))
  · refine va_D.app (hD1.weaken (fun _ q _ h => hF _ h)) ⟨fun i j x y hx hy hxy => ?_, fun k q h => hD.2 _ q (at2 k q h)⟩ (fun i j x y hx hy hxy => ?_)
    · have := hD.1 _ _ _ _ (at2 i x hx) (at2 j y hy) hxy
      omega
    · exact off j y hy (hxy ▸ hD1.2 i x hx)
section AWC
variable {p : Program} {l : Launch} {e : Env} {R : Room} {s : State} {m : MethodId} {args : Array Value} {below : List Frame} {meth : Method} {c : Code} {nL : Nat} {G : va_G × (Nat → ClassId)} {A : Nat → Prop} {H0 : Heap} {cells slots : Nat} {Q : State → Prop}
variable {cc : ByteArray} {ret : Option FieldType} {Ts : List Cond} {own : String} {ws : va_W} {lv : List (Nat × Value)} {pc : Nat} {st : List Value}
theorem aw_iret {post : Int → va_W → Prop} {z : Int} (C : cx p l s m args meth c cc nL (some .int) Ts own G A s.heap) (hd : decode cc pc = .ok (.ireturn, 1)) (h : post z ws) : AW p l e R s m args below meth c nL G A s.heap 0 0 (MQ below (QPi G post A) args s 0 0 A) ws lv pc [.int (zI z)] :=
  fun H locs ls hP hD hS hl => W.iret C.1 C.2.1 C.2.2.2.2.2.2.2.2 (fun t ht hW => ⟨⟨zI z, (z, ws), rfl, ⟨rfl, h⟩, by rw [ht]; exact hP, hD⟩, hS.F ht⟩) hS.2.2 hd C.2.2.2.2.2.2.2.1
theorem aw_zret {post : Int → va_W → Prop} {z : Int} (C : cx p l s m args meth c cc nL (some .boolean) Ts own G A s.heap) (hd : decode cc pc = .ok (.ireturn, 1)) (hn : narrow .boolean (.int (zI z)) = .int (zI z)) (h : post z ws) : AW p l e R s m args below meth c nL G A s.heap 0 0 (MQ below (QPi G post A) args s 0 0 A) ws lv pc [.int (zI z)] :=
  fun H locs ls hP hD hS hl => W.zret C.1 C.2.1 C.2.2.2.2.2.2.2.2 hn (fun t ht hW => ⟨⟨zI z, (z, ws), rfl, ⟨rfl, h⟩, by rw [ht]; exact hP, hD⟩, hS.F ht⟩) hS.2.2 hd C.2.2.2.2.2.2.2.1
theorem aw_vret {post : va_W → Prop} (C : cx p l s m args meth c cc nL none Ts own G A s.heap) (hd : decode cc pc = .ok (.return_, 1)) (h : post ws) : AW p l e R s m args below meth c nL G A s.heap 0 0 (MQ below (QPv G post A) args s 0 0 A) ws lv pc [] :=
  fun H locs ls hP hD hS hl => W.vret C.1 C.2.1 C.2.2.2.2.2.2.2.2 (fun t ht hW => ⟨⟨ws, rfl, h, by rw [ht]; exact hP, hD⟩, hS.F ht⟩) hS.2.2 hd C.2.2.2.2.2.2.2.1
/-- what a call finds: the callee's cells first -/
theorem aw_pre {wc wr : va_W} {H : Heap} {locs : List Loc} (C : cx p l s m args meth c cc nL ret Ts own G A H0) (hP : va_P G.1 vwCl (wc ++ wr) H) (hD : va_D A (wc ++ wr)) (hS : va_S A H0 H locs) : va_P G.1 vwCl wc H ∧ va_D (fun _ => True) wc ∧ ∀ q, va_A wc H.size q → A q := by
  have at1 : ∀ (k : Nat) (q : Nat × va_E), wc[k]? = some q → (wc ++ wr)[k]? = some q := fun k q h => by rw [List.getElem?_append_left (List.getElem?_eq_some_iff.mp h).1]; exact h
  refine ⟨fun k q h => hP k q (at1 k q h), ⟨fun i j x y hx hy hxy => hD.1 i j x y (at1 i x hx) (at1 j y hy) hxy, fun _ _ _ => trivial⟩, fun q hq => ?_⟩
  rcases hq with ⟨k, e, hk⟩ | h
  · exact hD.2 k _ (at1 k _ hk)
  · exact C.2.2.2.2.2.2.1 q (Nat.le_trans hS.1 h)
theorem aw_ci {post : Int → va_W → Prop} {wc wr : va_W} {As : List Value} (C : cx p l s m args meth c cc nL ret Ts own G A H0) (hr : ∀ (H : Heap) (locs : List Loc) (ls : Array Slot), va_P G.1 vwCl wc H → va_D (fun _ => True) wc → ls.size = nL → va_Run p l e R s m args below meth c H locs cells slots 0 0 (F0 m pc ls (As ++ st)) st (QPi G post (va_A wc H.size) #[]) (va_A wc H.size)) (kk : ∀ (r : Int) (u : va_W), post r u → AW p l e R s m args below meth c nL G A H0 cells slots Q (u ++ wr) lv (pc + 3) (.int (zI r) :: st)) : AW p l e R s m args below meth c nL G A H0 cells slots Q (wc ++ wr) lv pc (As ++ st) :=
  fun H locs ls hP hD hS hl => by
    obtain ⟨hPc, hDc, hFc⟩ := aw_pre C hP hD hS
    refine va_calli (hr H locs ls hPc hDc hl.1) hS (fun q _ h => hFc q h) hFc (fun r u t H1 locs1 ht hvm hw hB hz1 hk1 hS1 => ?_)
    obtain ⟨rfl, hp⟩ := hw
    obtain ⟨hP1, hD1⟩ := hB
    rw [ht] at hP1
    obtain ⟨hP2, hD2⟩ := jn hP hD hk1 hFc hP1 hD1
    exact kk u.1 u.2 hp H1 locs1 ls hP2 hD2 hS1 hl
theorem aw_cv {post : va_W → Prop} {wc wr : va_W} {As : List Value} (C : cx p l s m args meth c cc nL ret Ts own G A H0) (hr : ∀ (H : Heap) (locs : List Loc) (ls : Array Slot), va_P G.1 vwCl wc H → va_D (fun _ => True) wc → ls.size = nL → va_Run p l e R s m args below meth c H locs cells slots 0 0 (F0 m pc ls (As ++ st)) st (QPv G post (va_A wc H.size) #[]) (va_A wc H.size)) (kk : ∀ (u : va_W), post u → AW p l e R s m args below meth c nL G A H0 cells slots Q (u ++ wr) lv (pc + 3) st) : AW p l e R s m args below meth c nL G A H0 cells slots Q (wc ++ wr) lv pc (As ++ st) :=
  fun H locs ls hP hD hS hl => by
    obtain ⟨hPc, hDc, hFc⟩ := aw_pre C hP hD hS
    refine va_callv (hr H locs ls hPc hDc hl.1) hS (fun q _ h => hFc q h) hFc (fun u t H1 locs1 ht hvm hw hB hz1 hk1 hS1 => ?_)
    obtain ⟨hP1, hD1⟩ := hB
    rw [ht] at hP1
    obtain ⟨hP2, hD2⟩ := jn hP hD hk1 hFc hP1 hD1
    exact kk u hw H1 locs1 ls hP2 hD2 hS1 hl
theorem pre_at (C : cx p l s m args meth c cc nL ret Ts own G A H0) (hN : NX s) {wc : va_W} {H : Heap} {As : List Value} (hP : va_P G.1 vwCl wc H) (hD : va_D (fun _ => True) wc) : ∀ U : State, U.heap = H → s.WarmedH U.vm → PX G As wc H.size As.toArray U := fun U hU hW => ⟨rfl, by rw [hU], by rw [hU]; exact hP, va_K.moved hW.alike C.2.2.2.2.2.1, hD, va_Nw.warmM hW hN⟩
theorem fix_of (C : cx p l s m args meth c cc nL ret Ts own G A H0) : CallFix p m c cc nL s args Ts own := ⟨C.1, C.2.1, C.2.2.1, C.2.2.2.1, C.2.2.2.2.1⟩
variable {wc wr : va_W} {y : MethodName} {ws9 : List Cond} {rm : Room} {As : List Value} {b index maxL n : Nat} {Cn host : String} {bytes : ByteArray} {rt : Option FieldType}
theorem aw_callVi {post : Int → va_W → Prop} {ci q0 : Nat} {fs : List Value} {rc : vw_C} (C : cx p l s m args meth c cc nL ret Ts own G A H0) (hN : NX s) (hM : Mi l G y ws9 rm (.ref b :: As) wc post) (cw : CallW R s args own Cn index y bytes maxL rt ws9 rm 0 0 n) (hc : vwCl[ci]? = some rc) (hCn : rc.1 = Cn) (he : wc[q0]? = some (b, .inr (ci, fs))) (hn : As.length = n) (hcat : Nat.ble (st.map fun v => v.category).sum 8 = true) (hd : decode cc pc = .ok (.invokevirtual index, 3)) (hf : cells ≤ R.cells ∧ slots ≤ R.slots) (kk : ∀ (r : Int) (u : va_W), post r u → AW p l e R s m args below meth c nL G A H0 cells slots Q (u ++ wr) lv (pc + 3) (.int (zI r) :: st)) : AW p l e R s m args below meth c nL G A H0 cells slots Q (wc ++ wr) lv pc (As.reverse ++ .ref b :: st) := by
  have h := aw_ci (As := As.reverse ++ [.ref b]) (e := e) (below := below) (wr := wr) (lv := lv) (Q := Q) (st := st) (pc := pc) (cells := cells) (slots := slots) C (fun H locs ls hP hD hl => by
    have h := va_runV (e := e) (below := below) (meth := meth) (cells := cells) (slots := slots) (locs := locs) (g := F0 m pc ls (As.reverse ++ .ref b :: st)) (As := As) (rest := st) (fix_of C) (hM H.size) cw ⟨PX_blind, by obtain ⟨cell, h1, h2, h3⟩ := va_recv C.2.2.2.2.2.1 hP hc he; exact ⟨cell, h1, h2, by rw [← hCn]; exact h3⟩, pre_at C hN hP hD⟩ rfl hn hl rfl (lv_room (Nat.le_of_ble_eq_true hcat)) hd hf
    rw [List.append_assoc]
    exact h) kk
  rw [List.append_assoc] at h
  exact h
theorem aw_callVv {post : va_W → Prop} {ci q0 : Nat} {fs : List Value} {rc : vw_C} (C : cx p l s m args meth c cc nL ret Ts own G A H0) (hN : NX s) (hM : Mv l G y ws9 rm (.ref b :: As) wc post) (cw : CallW R s args own Cn index y bytes maxL rt ws9 rm 0 0 n) (hc : vwCl[ci]? = some rc) (hCn : rc.1 = Cn) (he : wc[q0]? = some (b, .inr (ci, fs))) (hn : As.length = n) (hcat : Nat.ble (st.map fun v => v.category).sum 8 = true) (hd : decode cc pc = .ok (.invokevirtual index, 3)) (hf : cells ≤ R.cells ∧ slots ≤ R.slots) (kk : ∀ (u : va_W), post u → AW p l e R s m args below meth c nL G A H0 cells slots Q (u ++ wr) lv (pc + 3) st) : AW p l e R s m args below meth c nL G A H0 cells slots Q (wc ++ wr) lv pc (As.reverse ++ .ref b :: st) := by
  have h := aw_cv (As := As.reverse ++ [.ref b]) (e := e) (below := below) (wr := wr) (lv := lv) (Q := Q) (st := st) (pc := pc) (cells := cells) (slots := slots) C (fun H locs ls hP hD hl => by
    have h := va_runV (e := e) (below := below) (meth := meth) (cells := cells) (slots := slots) (locs := locs) (g := F0 m pc ls (As.reverse ++ .ref b :: st)) (As := As) (rest := st) (fix_of C) (hM H.size) cw ⟨PX_blind, by obtain ⟨cell, h1, h2, h3⟩ := va_recv C.2.2.2.2.2.1 hP hc he; exact ⟨cell, h1, h2, by rw [← hCn]; exact h3⟩, pre_at C hN hP hD⟩ rfl hn hl rfl (lv_room (Nat.le_of_ble_eq_true hcat)) hd hf
    rw [List.append_assoc]
    exact h) kk
  rw [List.append_assoc] at h
  exact h
theorem aw_callSi {post : Int → va_W → Prop} (C : cx p l s m args meth c cc nL ret Ts own G A H0) (hN : NX s) (hM : Mi l G y ws9 rm As wc post) (cw : CallB R s args own index y bytes maxL rt ws9 rm 0 0 n ∧ (Cond.static y).before args s = true) (hn : As.length = n) (hcat : Nat.ble (st.map fun v => v.category).sum 8 = true) (hd : decode cc pc = .ok (.invokestatic index, 3)) (hf : cells ≤ R.cells ∧ slots ≤ R.slots) (kk : ∀ (r : Int) (u : va_W), post r u → AW p l e R s m args below meth c nL G A H0 cells slots Q (u ++ wr) lv (pc + 3) (.int (zI r) :: st)) : AW p l e R s m args below meth c nL G A H0 cells slots Q (wc ++ wr) lv pc (As.reverse ++ st) :=
  aw_ci (As := As.reverse) C (fun H locs ls hP hD hl => va_runS (As := As) (fix_of C) (hM H.size) cw ⟨PX_blind, pre_at C hN hP hD⟩ rfl hn hl rfl (lv_room (Nat.le_of_ble_eq_true hcat)) hd hf) kk
theorem aw_callSNi {post : Int → va_W → Prop} (C : cx p l s m args meth c cc nL ret Ts own G A H0) (hN : NX s) (hM : Mi l G y ws9 rm As wc post) (cw : va_CN R s args own index y host bytes maxL rt ws9 rm 0 0 n ∧ (Cond.static y).before args s = true ∧ True) (hn : As.length = n) (hcat : Nat.ble (st.map fun v => v.category).sum 8 = true) (hd : decode cc pc = .ok (.invokestatic index, 3)) (hf : cells ≤ R.cells ∧ slots ≤ R.slots) (kk : ∀ (r : Int) (u : va_W), post r u → AW p l e R s m args below meth c nL G A H0 cells slots Q (u ++ wr) lv (pc + 3) (.int (zI r) :: st)) : AW p l e R s m args below meth c nL G A H0 cells slots Q (wc ++ wr) lv pc (As.reverse ++ st) :=
  aw_ci (As := As.reverse) C (fun H locs ls hP hD hl => va_runSN (As := As) (fix_of C) (hM H.size) cw ⟨PX_blind, pre_at C hN hP hD⟩ rfl hn hl rfl (lv_room (Nat.le_of_ble_eq_true hcat)) hd hf) kk
end AWC

