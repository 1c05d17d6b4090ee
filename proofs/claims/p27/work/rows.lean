section
-- ===== PART A: goes FIRST, ahead of the names: the tables' words, and 'selects' of the private methods out of them =====
/-- a private method of a class that the tables say can be made, by its rows of tables_1 -/
def lw_okq (q : MethodName × Nat) : Prop := (q.1.cls ≠ "java/lang/invoke/MethodHandle" ∧ q.1.cls ≠ "java/lang/invoke/VarHandle") ∧ Cond.instantiable q.1.cls q.2 ∈ tables_1 ∧ Cond.privateMethod q.1 ∈ tables_1 ∧ Cond.instanceMethod q.1 ∈ tables_1
theorem lw_p0 : lw_okq (⟨"java/lang/Throwable", "fillInStackTrace", "(I)Ljava/lang/Throwable;"⟩, 6) := ⟨⟨by decide +kernel, by decide +kernel⟩, List.mem_of_getElem? (i := 166) (by decide +kernel), List.mem_of_getElem? (i := 164) (by decide +kernel), List.mem_of_getElem? (i := 165) (by decide +kernel)⟩
theorem lw_p1 : lw_okq (⟨"PaintSequencer", "forgetBodies", "()V"⟩, 17) := ⟨⟨by decide +kernel, by decide +kernel⟩, List.mem_of_getElem? (i := 11) (by decide +kernel), List.mem_of_getElem? (i := 198) (by decide +kernel), List.mem_of_getElem? (i := 199) (by decide +kernel)⟩
theorem lw_p2 : lw_okq (⟨"PaintSequencer", "isLane", "(I)Z"⟩, 17) := ⟨⟨by decide +kernel, by decide +kernel⟩, List.mem_of_getElem? (i := 11) (by decide +kernel), List.mem_of_getElem? (i := 210) (by decide +kernel), List.mem_of_getElem? (i := 211) (by decide +kernel)⟩
theorem lw_p3 : lw_okq (⟨"PaintSequencer", "hasRoom", "(I)Z"⟩, 17) := ⟨⟨by decide +kernel, by decide +kernel⟩, List.mem_of_getElem? (i := 11) (by decide +kernel), List.mem_of_getElem? (i := 258) (by decide +kernel), List.mem_of_getElem? (i := 259) (by decide +kernel)⟩
theorem lw_p4 : lw_okq (⟨"PaintSequencer", "newBody", "(I)I"⟩, 17) := ⟨⟨by decide +kernel, by decide +kernel⟩, List.mem_of_getElem? (i := 11) (by decide +kernel), List.mem_of_getElem? (i := 263) (by decide +kernel), List.mem_of_getElem? (i := 264) (by decide +kernel)⟩
theorem lw_p5 : lw_okq (⟨"PaintSequencer", "putInto", "(II)V"⟩, 17) := ⟨⟨by decide +kernel, by decide +kernel⟩, List.mem_of_getElem? (i := 11) (by decide +kernel), List.mem_of_getElem? (i := 267) (by decide +kernel), List.mem_of_getElem? (i := 268) (by decide +kernel)⟩
theorem lw_p6 : lw_okq (⟨"PaintSequencer", "laneBehind", "(I)I"⟩, 17) := ⟨⟨by decide +kernel, by decide +kernel⟩, List.mem_of_getElem? (i := 11) (by decide +kernel), List.mem_of_getElem? (i := 275) (by decide +kernel), List.mem_of_getElem? (i := 276) (by decide +kernel)⟩
theorem lw_p7 : lw_okq (⟨"PaintSequencer", "storeIsFull", "()Z"⟩, 17) := ⟨⟨by decide +kernel, by decide +kernel⟩, List.mem_of_getElem? (i := 11) (by decide +kernel), List.mem_of_getElem? (i := 295) (by decide +kernel), List.mem_of_getElem? (i := 296) (by decide +kernel)⟩
theorem lw_p8 : lw_okq (⟨"PaintSequencer", "countAt", "(I)I"⟩, 17) := ⟨⟨by decide +kernel, by decide +kernel⟩, List.mem_of_getElem? (i := 11) (by decide +kernel), List.mem_of_getElem? (i := 299) (by decide +kernel), List.mem_of_getElem? (i := 300) (by decide +kernel)⟩
theorem lw_p9 : lw_okq (⟨"PaintSequencer", "takeHeadOf", "(I)I"⟩, 17) := ⟨⟨by decide +kernel, by decide +kernel⟩, List.mem_of_getElem? (i := 11) (by decide +kernel), List.mem_of_getElem? (i := 304) (by decide +kernel), List.mem_of_getElem? (i := 305) (by decide +kernel)⟩
theorem lw_p10 : lw_okq (⟨"PaintSequencer", "isBody", "(I)Z"⟩, 17) := ⟨⟨by decide +kernel, by decide +kernel⟩, List.mem_of_getElem? (i := 11) (by decide +kernel), List.mem_of_getElem? (i := 316) (by decide +kernel), List.mem_of_getElem? (i := 317) (by decide +kernel)⟩
theorem lw_p11 : lw_okq (⟨"PaintSequencer", "lowestInStore", "()I"⟩, 17) := ⟨⟨by decide +kernel, by decide +kernel⟩, List.mem_of_getElem? (i := 11) (by decide +kernel), List.mem_of_getElem? (i := 331) (by decide +kernel), List.mem_of_getElem? (i := 332) (by decide +kernel)⟩
theorem lw_p12 : lw_okq (⟨"PaintSequencer", "countInLanes", "()I"⟩, 17) := ⟨⟨by decide +kernel, by decide +kernel⟩, List.mem_of_getElem? (i := 11) (by decide +kernel), List.mem_of_getElem? (i := 345) (by decide +kernel), List.mem_of_getElem? (i := 346) (by decide +kernel)⟩
theorem lw_p13 : lw_okq (⟨"PaintSequencer", "copyLanesIntoPlan", "()V"⟩, 17) := ⟨⟨by decide +kernel, by decide +kernel⟩, List.mem_of_getElem? (i := 11) (by decide +kernel), List.mem_of_getElem? (i := 350) (by decide +kernel), List.mem_of_getElem? (i := 351) (by decide +kernel)⟩
theorem lw_p14 : lw_okq (⟨"PaintSequencer", "colourOf", "(I)I"⟩, 17) := ⟨⟨by decide +kernel, by decide +kernel⟩, List.mem_of_getElem? (i := 11) (by decide +kernel), List.mem_of_getElem? (i := 359) (by decide +kernel), List.mem_of_getElem? (i := 360) (by decide +kernel)⟩
theorem lw_p15 : lw_okq (⟨"PaintSequencer$Plan", "fillTable", "()V"⟩, 6) := ⟨⟨by decide +kernel, by decide +kernel⟩, List.mem_of_getElem? (i := 34) (by decide +kernel), List.mem_of_getElem? (i := 371) (by decide +kernel), List.mem_of_getElem? (i := 372) (by decide +kernel)⟩
def lw_privs_1 : List (MethodName × Nat) := [(⟨"java/lang/Throwable", "fillInStackTrace", "(I)Ljava/lang/Throwable;"⟩, 6), (⟨"PaintSequencer", "forgetBodies", "()V"⟩, 17), (⟨"PaintSequencer", "isLane", "(I)Z"⟩, 17), (⟨"PaintSequencer", "hasRoom", "(I)Z"⟩, 17), (⟨"PaintSequencer", "newBody", "(I)I"⟩, 17), (⟨"PaintSequencer", "putInto", "(II)V"⟩, 17), (⟨"PaintSequencer", "laneBehind", "(I)I"⟩, 17), (⟨"PaintSequencer", "storeIsFull", "()Z"⟩, 17), (⟨"PaintSequencer", "countAt", "(I)I"⟩, 17), (⟨"PaintSequencer", "takeHeadOf", "(I)I"⟩, 17), (⟨"PaintSequencer", "isBody", "(I)Z"⟩, 17), (⟨"PaintSequencer", "lowestInStore", "()I"⟩, 17), (⟨"PaintSequencer", "countInLanes", "()I"⟩, 17), (⟨"PaintSequencer", "copyLanesIntoPlan", "()V"⟩, 17), (⟨"PaintSequencer", "colourOf", "(I)I"⟩, 17), (⟨"PaintSequencer$Plan", "fillTable", "()V"⟩, 6)]
theorem lw_r1 : ∀ q ∈ lw_privs_1, lw_okq q := List.forall_mem_cons.mpr ⟨lw_p0, List.forall_mem_cons.mpr ⟨lw_p1, List.forall_mem_cons.mpr ⟨lw_p2, List.forall_mem_cons.mpr ⟨lw_p3, List.forall_mem_cons.mpr ⟨lw_p4, List.forall_mem_cons.mpr ⟨lw_p5, List.forall_mem_cons.mpr ⟨lw_p6, List.forall_mem_cons.mpr ⟨lw_p7, List.forall_mem_cons.mpr ⟨lw_p8, List.forall_mem_cons.mpr ⟨lw_p9, List.forall_mem_cons.mpr ⟨lw_p10, List.forall_mem_cons.mpr ⟨lw_p11, List.forall_mem_cons.mpr ⟨lw_p12, List.forall_mem_cons.mpr ⟨lw_p13, List.forall_mem_cons.mpr ⟨lw_p14, List.forall_mem_cons.mpr ⟨lw_p15, fun _ h => absurd h List.not_mem_nil⟩⟩⟩⟩⟩⟩⟩⟩⟩⟩⟩⟩⟩⟩⟩⟩
theorem lw_p16 : lw_okq (⟨"PaintSequencer$Plan", "layStrides", "()I"⟩, 6) := ⟨⟨by decide +kernel, by decide +kernel⟩, List.mem_of_getElem? (i := 34) (by decide +kernel), List.mem_of_getElem? (i := 375) (by decide +kernel), List.mem_of_getElem? (i := 376) (by decide +kernel)⟩
theorem lw_p17 : lw_okq (⟨"PaintSequencer$Plan", "fillState", "(I)V"⟩, 6) := ⟨⟨by decide +kernel, by decide +kernel⟩, List.mem_of_getElem? (i := 34) (by decide +kernel), List.mem_of_getElem? (i := 379) (by decide +kernel), List.mem_of_getElem? (i := 380) (by decide +kernel)⟩
theorem lw_p18 : lw_okq (⟨"PaintSequencer$Plan", "fewestFrom", "(II)I"⟩, 6) := ⟨⟨by decide +kernel, by decide +kernel⟩, List.mem_of_getElem? (i := 34) (by decide +kernel), List.mem_of_getElem? (i := 383) (by decide +kernel), List.mem_of_getElem? (i := 384) (by decide +kernel)⟩
theorem lw_p19 : lw_okq (⟨"PaintSequencer$Plan", "stepBack", "()V"⟩, 6) := ⟨⟨by decide +kernel, by decide +kernel⟩, List.mem_of_getElem? (i := 34) (by decide +kernel), List.mem_of_getElem? (i := 387) (by decide +kernel), List.mem_of_getElem? (i := 388) (by decide +kernel)⟩
theorem lw_p20 : lw_okq (⟨"PaintSequencer$Plan", "fewestWith", "(II)I"⟩, 6) := ⟨⟨by decide +kernel, by decide +kernel⟩, List.mem_of_getElem? (i := 34) (by decide +kernel), List.mem_of_getElem? (i := 424) (by decide +kernel), List.mem_of_getElem? (i := 425) (by decide +kernel)⟩
def lw_privs_2 : List (MethodName × Nat) := [(⟨"PaintSequencer$Plan", "layStrides", "()I"⟩, 6), (⟨"PaintSequencer$Plan", "fillState", "(I)V"⟩, 6), (⟨"PaintSequencer$Plan", "fewestFrom", "(II)I"⟩, 6), (⟨"PaintSequencer$Plan", "stepBack", "()V"⟩, 6), (⟨"PaintSequencer$Plan", "fewestWith", "(II)I"⟩, 6)]
theorem lw_r2 : ∀ q ∈ lw_privs_2, lw_okq q := List.forall_mem_cons.mpr ⟨lw_p16, List.forall_mem_cons.mpr ⟨lw_p17, List.forall_mem_cons.mpr ⟨lw_p18, List.forall_mem_cons.mpr ⟨lw_p19, List.forall_mem_cons.mpr ⟨lw_p20, fun _ h => absurd h List.not_mem_nil⟩⟩⟩⟩⟩
def lw_privs : List (MethodName × Nat) := lw_privs_1 ++ (lw_privs_2)
def lw_tbl : List Cond := k2_sels lw_privs ++ tables_1
theorem lw_privs_ok : ∀ q ∈ lw_privs, lw_okq q := by
  show ∀ q ∈ lw_privs_1 ++ (lw_privs_2), lw_okq q
  exact List.forall_mem_append.mpr ⟨lw_r1, lw_r2⟩
end
section
/-- the tables have the class of arrays over arrays of ty (the printed laws speak of it, the kit of this claim lacks it) -/
def va_AOA (ty : FieldType) (U : State) : Prop := (Cond.arrayOver (.array ty)).before #[] U = true
theorem va_AOA.use {ty : FieldType} {A : Array Value} {U : State} (h : va_AOA ty U) : (Cond.arrayOver (.array ty)).before A U = true := h
/-! ===== BEGIN words of one list among another's, by their places ===== -/
theorem goodIn_r {big : List Cond} (ws : List Cond) (ps : List Nat) (hp : ws = ps.filterMap (fun i => big[i]?)) (h : ws.all goodWord = true) : GoodIn big ws := by
  intro w hw
  have h1 := List.all_eq_true.mp h w hw
  rw [hp] at hw
  obtain ⟨i, -, hi⟩ := List.mem_filterMap.mp hw
  have hm : w ∈ big := by first | exact List.mem_of_getElem? hi | exact List.getElem?_mem hi
  exact ⟨hm, good_of_word h1⟩
theorem goodIn_app {big a b : List Cond} (ha : GoodIn big a) (hb : GoodIn big b) : GoodIn big (a ++ b) := fun w h => (List.mem_append.mp h).elim (ha w) (hb w)
theorem goodIn_ca {big a b : List Cond} {c : Cond} (ha : GoodIn big (c :: a)) (hb : GoodIn big b) : GoodIn big (c :: (a ++ b)) := fun w h => (List.mem_cons.mp h).elim (fun e => ha w (List.mem_cons.mpr (Or.inl e))) (fun h => (List.mem_append.mp h).elim (fun h => ha w (List.mem_cons.mpr (Or.inr h))) (hb w))
theorem goodIn_sub {big ws : List Cond} (hm : ∀ w ∈ ws, w ∈ big) (h : ws.all goodWord = true) : GoodIn big ws := fun w hw => ⟨hm w hw, good_of_word (List.all_eq_true.mp h w hw)⟩
/-! ===== END ===== -/

/-! ===== BEGIN new T[n][m]: the outer array a place, the inner ones among the pooled ===== -/
/-- f, but v at every address of l -/
def vr_up {α : Type} (f : Nat → α) (l : List Nat) (v : α) : Nat → α := fun a => if a ∈ l then v else f a
theorem vr_up_in {α : Type} {f : Nat → α} {l : List Nat} {v : α} {a : Nat} (h : a ∈ l) : vr_up f l v a = v := if_pos h
theorem vr_up_ne {α : Type} {f : Nat → α} {l : List Nat} {v : α} {a : Nat} (h : a ∉ l) : vr_up f l v a = f a := if_neg h
theorem vr_rows {L l : List Nat} {f : Nat → va_E} {e : va_E} (h : ∀ a, a ∈ l → a ∉ L) : va_pl L f ++ l.map (fun a => (a, e)) = va_pl (L ++ l) (vr_up f l e) := by
  unfold va_pl
  rw [List.map_append]
  congr 1
  · apply List.map_congr_left
    intro a ha
    rw [vr_up_ne (fun q => h a q ha)]
  · apply List.map_congr_left
    intro a ha
    rw [vr_up_in ha]
theorem vr_lay {X rows : va_W} {x : Nat × va_E} {pl : va_W} {D : va_G} {cl : List vw_C} {H : Heap} (hP : va_P D cl (((X ++ pl) ++ [x]) ++ rows) H) : va_P D cl ((X ++ [x]) ++ (pl ++ rows)) H := by
  rw [List.append_assoc (X ++ pl)] at hP
  have h := va_P.swap hP
  rw [← List.append_assoc X] at h
  have h2 := va_P.swap h
  rw [List.append_assoc (X ++ [x])] at h2
  exact h2
theorem vr_layD {X rows : va_W} {x : Nat × va_E} {pl : va_W} {A : Nat → Prop} (hD : va_D A (((X ++ pl) ++ [x]) ++ rows)) : va_D A ((X ++ [x]) ++ (pl ++ rows)) := by
  rw [List.append_assoc (X ++ pl)] at hD
  have h := va_D.swap hD
  rw [← List.append_assoc X] at h
  have h2 := va_D.swap h
  rw [List.append_assoc (X ++ [x])] at h2
  exact h2
theorem vr_outer (c : ClassId) (N h0 : Nat) : ∀ i : Nat, Jvm.Free.Multi.outerC c N h0 i = arrV c N (fun j => va_rf (if j < i then some (h0 + 1 + j) else none))
  | 0 => by
    show ({ cls := c, slots := Array.replicate N .null, vm := .none } : Cell) = _
    rw [arrV_new]
    refine congrArg (arrV c N) (funext fun j => ?_)
    simp [va_rf]
  | i + 1 => by
    show (Jvm.Free.Multi.outerC c N h0 i).setSlot i (.ref (h0 + 1 + i)) = _
    rw [vr_outer c N h0 i, arrV_store]
    refine congrArg (arrV c N) (funext fun j => ?_)
    by_cases e : j = i
    · subst e
      simp [updV, va_rf]
    · by_cases h : j < i
      · simp [updV, e, h, Nat.lt_succ_of_lt h]
      · simp [updV, e, h, show ¬ j < i + 1 by omega]
section VGM
variable {p : Program} {l : Launch} {e : Env} {R : Room} {s : State} {m : MethodId} {args : Array Value} {below : List Frame} {meth : Method} {c : Code} {H : Heap} {locs : List Loc} {cells slots : Nat} {Q : State → Prop}
variable {cc : ByteArray} {pc : Nat} {ls : Array Slot} {rest : List Value} {D : va_G} {cl : List vw_C} {A : Nat → Prop} {a : Nat} {tys : List (ClassId × FieldType)} {ws : va_W} {H0 : Heap}
theorem va_mna {X : va_W} {L : List Nat} {f : Nat → va_E} {cc : ByteArray} (hexec : p.tables.exec = Jvm.exec) (hb : c.code = cc) {own : String} {index : Nat} {ty : FieldType} {cy : ClassId} (hown : s.vm.findClass own = some m.cls) (hclink : (Cond.classLink own index ("[" ++ (FieldType.array ty).toString)).before args s = true) (hover : va_AOA ty s) (harr : (Cond.arrayClass ty).before args s = true) (hcy : s.vm.findClass (FieldType.array ty).toString = some cy)
    (hK : va_K D cl tys s) (hP : va_P D cl (X ++ va_pl L f) H) (hD : va_D A (X ++ va_pl L f)) (hS : va_S A H0 H locs) (hA : ∀ q, H0.size ≤ q → A q) {n k : Int32} {N' K' : Nat} {z : vp_A} (hn : ¬ n < 0) (hk : ¬ k < 0) (hN : n.toNatClampNeg = N') (hM : k.toNatClampNeg = K')
    (hb1 : N' * 4 ≤ 536870912) (hb2 : K' * componentBytes ty ≤ 536870912) (hb3 : K' ≤ 536870912) (hdf : fits ty (defaultValue ty) = true) (hdd : (defaultValue ty).isDefault = true) (hcells : cells + (1 + N') ≤ R.cells) (hslots : slots + (N' + N' * K') ≤ R.slots) (hz : ∀ c : ClassId, Jvm.Free.Multi.innerC c K' (defaultValue ty) = vp_cell c z) (hdg : decode cc pc = .ok (.multianewarray index 2, 4))
    (kk : ∀ (q : Nat) (r : Nat → Nat) (cA : ClassId) (H1 : Heap), (∀ i j : Nat, i < N' → j < N' → r i = r j → i = j) → (∀ i : Nat, i < N' → r i ∉ L) → va_K D cl (tys ++ [(cA, .array ty)]) s →
      va_P D cl ((X ++ [(q, .inl (cA, N', .inr (.inr (.inr (.inr (fun i => if i < N' then some (r i) else none))))))]) ++ va_pl (L ++ (List.range N').map r) (vr_up f ((List.range N').map r) (.inl (cy, z)))) H1 → va_D A ((X ++ [(q, .inl (cA, N', .inr (.inr (.inr (.inr (fun i => if i < N' then some (r i) else none))))))]) ++ va_pl (L ++ (List.range N').map r) (vr_up f ((List.range N').map r) (.inl (cy, z)))) → va_S A H0 H1 locs →
      W p l e R s m args below meth c H1 locs (cells + 1 + N') (slots + N' + N' * K') Q (F0 m (pc + 4) ls (.ref q :: rest))) : W p l e R s m args below meth c H locs cells slots Q (F0 m pc ls (.int k :: .int n :: rest)) := by
  subst hN
  subst hM
  intro T hT Xs
  obtain ⟨vm₁, cA, comp, -, fA, fC, hO, -, X', step⟩ := Xs.multianewarray2F hexec hown hclink (va_AOA.use hover) harr (g := F0 m pc ls (.int k :: .int n :: rest)) rfl (by rw [hb]; exact hdg) rfl hn hk hb1 hb2 hb3 hdf hdd hcells hslots
  have ec : some cy = some comp := hcy.symm.trans fC
  cases ec
  generalize hF : Jvm.Free.Multi.fill (T.setVm vm₁) cA cy n.toNatClampNeg k.toNatClampNeg (defaultValue ty) n.toNatClampNeg = F at X' step
  have hTh : (T.setVm vm₁).heap = H := hT
  obtain ⟨f1, f2, -, -⟩ := Jvm.Free.Multi.fill_facts (T.setVm vm₁) cA cy n.toNatClampNeg k.toNatClampNeg (defaultValue ty) n.toNatClampNeg
  rw [hF, hTh] at f1 f2
  have hold : ∀ x : Nat, x < H.size → F.heap[x]? = H[x]? := fun x hx => by
    have := Jvm.Free.Multi.fill_old (T.setVm vm₁) cA cy n.toNatClampNeg k.toNatClampNeg (defaultValue ty) (a := x) (by rw [hTh]; exact hx) n.toNatClampNeg
    rw [hF, hTh] at this
    exact this
  have hrow : ∀ j : Nat, j < n.toNatClampNeg → F.heap[H.size + 1 + j]? = some (vp_cell cy z) := fun j hj => by
    have := Jvm.Free.Multi.fill_inner (T.setVm vm₁) cA cy n.toNatClampNeg k.toNatClampNeg (defaultValue ty) n.toNatClampNeg j hj
    rw [hF, hTh, hz] at this
    exact this
  have hout : Jvm.Free.Multi.outerC cA n.toNatClampNeg H.size n.toNatClampNeg = vp_cell cA (n.toNatClampNeg, .inr (.inr (.inr (.inr (fun i => if i < n.toNatClampNeg then some (H.size + 1 + i) else none))))) := by
    rw [vp_cell_q]
    exact vr_outer cA n.toNatClampNeg H.size n.toNatClampNeg
  rw [hout] at f2
  have hlt : ∀ a, a ∈ L → a < H.size := fun a ha => by
    obtain ⟨k9, hk9⟩ := va_pl_get (X := X) (f := f) ha
    exact (hP k9 _ hk9).lt
  have hnl : ∀ i : Nat, i < n.toNatClampNeg → H.size + 1 + i ∉ L := fun i _ h => by
    have := hlt _ h
    omega
  have hnm : ∀ a, a ∈ (List.range n.toNatClampNeg).map (fun i => H.size + 1 + i) → a ∉ L := fun a ha h => by
    obtain ⟨i, -, rfl⟩ := List.mem_map.mp ha
    have := hlt _ h
    omega
  have hP0 : va_P D cl (X ++ va_pl L f) F.heap := hP.kept (fun k9 x hx => hold x.1 ((hP k9 x hx).lt))
  have hP1 : va_P D cl ((X ++ va_pl L f) ++ [(H.size, .inl (cA, n.toNatClampNeg, .inr (.inr (.inr (.inr (fun i => if i < n.toNatClampNeg then some (H.size + 1 + i) else none))))))]) F.heap := hP0.app (fun k9 x hx => by
    have h0 : k9 < 1 := (List.getElem?_eq_some_iff.mp hx).1
    rw [show k9 = 0 by omega] at hx
    cases hx
    exact f2)
  have hP2 : va_P D cl (((X ++ va_pl L f) ++ [(H.size, .inl (cA, n.toNatClampNeg, .inr (.inr (.inr (.inr (fun i => if i < n.toNatClampNeg then some (H.size + 1 + i) else none))))))]) ++ ((List.range n.toNatClampNeg).map (fun i => H.size + 1 + i)).map (fun a => (a, .inl (cy, z)))) F.heap := hP1.app (fun k9 x hx => by
    obtain ⟨a, ha, rfl⟩ := List.mem_map.mp (List.mem_of_getElem? hx)
    obtain ⟨i, hi, rfl⟩ := List.mem_map.mp ha
    exact hrow i (List.mem_range.mp hi))
  have hD2 : va_D A (((X ++ va_pl L f) ++ [(H.size, .inl (cA, n.toNatClampNeg, .inr (.inr (.inr (.inr (fun i => if i < n.toNatClampNeg then some (H.size + 1 + i) else none))))))]) ++ ((List.range n.toNatClampNeg).map (fun i => H.size + 1 + i)).map (fun a => (a, .inl (cy, z)))) := by
    have hD1 := hD.push (e := .inl (cA, n.toNatClampNeg, .inr (.inr (.inr (.inr (fun i => if i < n.toNatClampNeg then some (H.size + 1 + i) else none)))))) hP rfl (hA _ hS.1)
    generalize hW1 : (X ++ va_pl L f) ++ [(H.size, .inl (cA, n.toNatClampNeg, .inr (.inr (.inr (.inr (fun i => if i < n.toNatClampNeg then some (H.size + 1 + i) else none))))))] = W1 at hD1 hP1 ⊢
    have hle : ∀ (k9 : Nat) (x : Nat × va_E), W1[k9]? = some x → x.1 ≤ H.size := fun k9 x hx => by
      rw [← hW1] at hx
      by_cases hl : k9 < (X ++ va_pl L f).length
      · rw [List.getElem?_append_left hl] at hx
        exact Nat.le_of_lt ((hP k9 x hx).lt)
      · rw [List.getElem?_append_right (by omega)] at hx
        have h0 : k9 - (X ++ va_pl L f).length < 1 := (List.getElem?_eq_some_iff.mp hx).1
        rw [show k9 - (X ++ va_pl L f).length = 0 by omega] at hx
        cases hx
        exact Nat.le_refl _
    have hr : ∀ (k9 : Nat) (x : Nat × va_E), (((List.range n.toNatClampNeg).map (fun i => H.size + 1 + i)).map (fun a => ((a, .inl (cy, z)) : Nat × va_E)))[k9]? = some x → x.1 = H.size + 1 + k9 := fun k9 x hx => by
      rw [List.getElem?_map, List.getElem?_map] at hx
      by_cases h9 : k9 < n.toNatClampNeg
      · rw [List.getElem?_range h9] at hx
        cases hx
        rfl
      · have hn0 : (List.range n.toNatClampNeg)[k9]? = none := List.getElem?_eq_none (by rw [List.length_range]; omega)
        rw [hn0] at hx
        cases hx
    refine ⟨fun i j x y hi hj hxy => ?_, fun k9 x hx => ?_⟩
    · by_cases h1 : i < W1.length <;> by_cases h2 : j < W1.length
      · rw [List.getElem?_append_left h1] at hi
        rw [List.getElem?_append_left h2] at hj
        exact hD1.1 i j x y hi hj hxy
      · rw [List.getElem?_append_left h1] at hi
        rw [List.getElem?_append_right (by omega)] at hj
        have := hle _ _ hi
        have := hr _ _ hj
        omega
      · rw [List.getElem?_append_right (by omega)] at hi
        rw [List.getElem?_append_left h2] at hj
        have := hle _ _ hj
        have := hr _ _ hi
        omega
      · rw [List.getElem?_append_right (by omega)] at hi hj
        have := hr _ _ hi
        have := hr _ _ hj
        omega
    · by_cases h1 : k9 < W1.length
      · rw [List.getElem?_append_left h1] at hx
        exact hD1.2 k9 x hx
      · rw [List.getElem?_append_right (by omega)] at hx
        have := hr _ _ hx
        exact hA _ (by have := hS.1; omega)
  have hAr : ArrOfT s cA (.array ty) := fun N9 z9 => by
    obtain ⟨-, k9, hk9, cm9, hkk9⟩ := (hO 0 0 0).1
    exact ⟨(fun q hq => by cases hq), k9, hk9, cm9, hkk9⟩
  have hK2 : va_K D cl (tys ++ [(cA, .array ty)]) s := ⟨hK.1, fun k9 x hx => by
    by_cases hl : k9 < tys.length
    · rw [List.getElem?_append_left hl] at hx
      exact hK.2 k9 x hx
    · rw [List.getElem?_append_right (by omega)] at hx
      have h0 : k9 - tys.length < 1 := (List.getElem?_eq_some_iff.mp hx).1
      rw [show k9 - tys.length = 0 by omega] at hx
      cases hx
      exact ⟨hAr, fA⟩⟩
  obtain ⟨t, a1, b1⟩ := kk H.size (fun i => H.size + 1 + i) cA F.heap (fun i j _ _ h => by have h9 : H.size + 1 + i = H.size + 1 + j := h; omega) hnl hK2 (by rw [← vr_rows hnm]; exact vr_lay hP2) (by rw [← vr_rows hnm]; exact vr_layD hD2) ⟨by rw [f1]; have := hS.1; omega, fun x h1 h2 => (hold x (Nat.lt_of_lt_of_le h1 hS.1)).trans (hS.2.1 x h1 h2), hS.2.2⟩ F rfl X'
  refine ⟨t, step t ?_, b1⟩
  have e : T.heap.size = H.size := by rw [hT]
  rw [e]
  exact a1
end VGM
/-! ===== END ===== -/

/-! ===== BEGIN exceptions that leave a method, and their catching by the caller (launches without stack traces) ===== -/
section VXA
/-! The laws vx_back, vx_callV, vx_callS, vx_callSW, vx_throw0, vx_throwS follow proofs of the library, with one case more: JvmDerived/Free/Laws.lean (Back.of_free), Shelf42/LK1.lean (callV, callS), Shelf/KitTraced.lean (throwNew0V, throwNewS). -/
/-- where a method has thrown q: the class by its name, the cell, what was written, the world -/
def vx_T (XC : String → State → State → Prop) (st : State) (q : Addr) (t : State) (mc ms : Nat) (free : Addr → Prop) : Prop :=
  ∃ (E : String) (ce : Cell) (L : List Loc), XC E st t ∧ t.heap[q]? = some ce ∧ ce.vm = .none ∧ st.vm.findClass E = some ce.cls ∧ st.WarmedH t.vm ∧ st.sameButNew ({ t with vm := st.vm } : State) L mc ms ∧ ∀ z ∈ L, free z.base
def vx_Q (Qc : Array Value → State → Outcome → State → Prop) (XC : String → State → State → Prop) (mc ms : Nat) (free : Addr → Prop) : Array Value → State → Outcome → State → Prop := fun a st o t =>
  (Qc a st o t ∧ ∃ L, FrameEnd st o t L mc ms ∧ ∀ q ∈ L, free q.base) ∨ ∃ q, o = .threw q ∧ vx_T XC st q t mc ms free
/-- a callee that returns or throws -/
def vx_Met (l : Launch) (y : MethodName) (ws : List Cond) (rm : Room) (Pc : Array Value → State → Prop) (Qc : Array Value → State → Outcome → State → Prop) (XC : String → State → State → Prop) (mc ms : Nat) (free : Addr → Prop) : Prop :=
  MetFree l y (headSpec ws rm) Pc (fun _ _ _ _ _ => True) (vx_Q Qc XC mc ms free)
def vx_Post (XC : String → State → State → Prop) (mc ms : Nat) (free : Addr → Prop) : Pt → Array Value → Addr → Pt → Prop := fun A a q B =>
  ∃ (g : JFrame) (mk : MethodId) (t : State) (L : List Loc) (E : String) (ce : Cell), B.U.heap = t.heap ∧ B.U.vm = t.vm ∧ XC E (A.U.calling g mk a) t ∧ t.heap[q]? = some ce ∧ ce.vm = .none ∧ A.U.vm.findClass E = some ce.cls ∧ B.locs = A.locs ++ L ∧ (∀ z ∈ L, free z.base) ∧ B.cells = A.cells + mc ∧ B.slots = A.slots + ms
def vx_Back (l : Launch) (R : Room) (p : Program) (e : Env) (below : List Frame) (s : State) (sargs : Array Value) (y : MethodName) (len W9 : Nat)
    (Pre : Pt → Array Value → Prop) (Post : Pt → Array Value → Option Value → Pt → Prop) (PostX : Pt → Array Value → Addr → Pt → Prop) : Prop :=
  ∀ (m : MethodId) (meth : Method) (c : Code) (A : Pt) (g : JFrame) (ig : Instr) (mk : MethodId) (a : Array Value),
    Stand p l e R s m sargs below meth c A.U A.locs A.cells A.slots → g.method = m → g.locals.size = c.maxLocals → decode c.code g.pc = .ok (ig, len) →
    2 * g.monitorRoom + (g.stack.map fun v => v.category).sum ≤ W9 → A.U.methodNamed? y = some mk → Pre A a →
    (∃ (v : Option Value) (B : Pt), Stand p l e R s m sargs below meth c B.U B.locs B.cells B.slots ∧ Post A a v B ∧
      Steps p.tables e below (doInvoke e (A.U.setTop g) [] mk a).1 (B.U.setTop { g with pc := g.pc + len, stack := v.toList ++ g.stack })) ∨
    (∃ (q : Addr) (B : Pt), Stand p l e R s m sargs below meth c B.U B.locs B.cells B.slots ∧ PostX A a q B ∧
      Steps p.tables e below (doInvoke e (A.U.setTop g) [] mk a).1 ((B.U.setTop g).pushFrame (.throwing q)))
section Payer
variable {l : Launch} {R : Room} {p : Program} {e : Env} {below : List Frame} {s : State} {sargs : Array Value} {y : MethodName} {len W9 : Nat}
theorem vx_back {ws : List Cond} {rm : Room} {Pc : Array Value → State → Prop} {Qc : Array Value → State → Outcome → State → Prop} {XC : String → State → State → Prop} {mc ms : Nat} {free : Addr → Prop} {bytes : ByteArray} {maxL : Nat} {ret : Option FieldType}
    (hM : vx_Met l y ws rm Pc Qc XC mc ms free) (hblind : FrameBlind Pc) (hrc : rm.cells = mc) (hrs : rm.slots = ms)
    (hframes : rm.frames + 1 ≤ R.frames) (hlocals : W9 + (maxL + 11) + rm.locals ≤ R.locals)
    (hws : ∀ w ∈ ws, ∀ a' U, s.WarmedH U.vm → w.before a' U = true) (hcode : Cond.code y bytes maxL ret ∈ ws) (hinit : ∀ a' U, s.WarmedH U.vm → (Cond.initialized y.cls).before a' U = true) :
    vx_Back l R p e below s sargs y len W9 (PreOf R mc ms Pc) (PostOf Qc mc ms free) (vx_Post XC mc ms free) := by
  intro m meth c A g ig mk a X hg hsize hdg hW hn hp
  have h1 : (headSpec ws rm).pre.before a A.U = true := atoms_intro fun w hw => hws w hw _ _ X.warmed
  have h2 : (Cond.code y bytes maxL ret).before a A.U = true := hws _ hcode _ _ X.warmed
  have h3 : (Cond.initialized y.cls).before a A.U = true := hinit _ _ X.warmed
  have h4 : A.cells + (headSpec ws rm).room.cells ≤ R.cells := by rw [show (headSpec ws rm).room.cells = mc from hrc]; exact hp.1
  have h5 : A.slots + (headSpec ws rm).room.slots ≤ R.slots := by rw [show (headSpec ws rm).room.slots = ms from hrs]; exact hp.2.1
  have hPc : Pc a (A.U.calling g mk a) := hblind _ _ _ _ hp.2.2
  obtain ⟨U, Ls, c0, s0⟩ := A
  dsimp only [Pt.U, Pt.locs, Pt.cells, Pt.slots] at h1 h2 h3 h4 h5 X hn hPc ⊢
  obtain ⟨methY, cY, hmY, hcY, -, hlY, -, -, -, -⟩ := Cond.code_spec hn h2
  obtain ⟨kY, hkY, -⟩ := className_of_methodNamed hn
  have hinitY : kY.init = .initialized := Cond.initialized_spec (findClass_of_methodNamed hn) hkY h3
  have h : At U g.method c below := by rw [hg]; exact X.here
  have hlocals9 : W9 + (maxL + 11) + (headSpec ws rm).room.locals ≤ R.locals := hlocals
  have happ : (headSpec ws rm).appliesLoose y e.platform (U.calling g mk a) = true :=
    Spec.appliesLoose_calling (g := g) h hdg hn hkY hinitY
      (X.room_calling (g := g) (R' := (headSpec ws rm).room) hsize hmY hcY hframes (by rw [hlY]; omega) h4 h5) h1
  obtain ⟨mid, hmid⟩ := h.above
  have hfr : (U.setTop g).frames = (.java g :: mid) ++ below := by rw [State.frames_setTop' g h.top, hmid]; rfl
  obtain ⟨o, s₂, hsteps, -, hend, hq⟩ := Steps.callFree hM p X.admits X.cas X.clock (acts := []) hfr happ hPc trivial
  have hq' : vx_Q Qc XC mc ms free a (U.calling g mk a) o s₂ := hq
  rw [State.frames_setTop' g h.top] at hend
  obtain ⟨g₀, hg0⟩ := Option.isSome_iff_exists.mp h.top
  obtain ⟨r, hr⟩ := State.topJava?_eq_some.mp hg0
  have hr' : (({ U with heap := s₂.heap, slotsUsed := s₂.slotsUsed } : State).setVm s₂.vm).frames = .java g₀ :: r := hr
  rcases hq' with ⟨hqc, L, hfe, hL⟩ | ⟨q, rfl, E, ce, L, hx, hce, hcv, hcl, hW₂, hsm, hL⟩
  · obtain ⟨⟨v, rfl⟩, hW₂, e2, q2, q3, q4, q5, q6⟩ := id hfe
    have e3 : s₂ = ({ (U.calling g mk a).setFrames s₂.frames with heap := s₂.heap, slotsUsed := s₂.slotsUsed } : State).setVm s₂.vm := by
      have : s₂ = ({ s₂ with vm := (U.calling g mk a).vm } : State).setVm s₂.vm := rfl
      rw [e2] at this
      exact this
    obtain ⟨c₂, i₂, len₂, hc₂, hd₂, hf₂⟩ := hend
    have hW' : U.WarmedH s₂.vm := hW₂
    have hcc : c₂ = c := by
      have h1 : s₂.code? g.method = U.code? g.method := by
        rw [State.code?_eq, State.code?_eq, hW'.alike.method?]
      exact Option.some.inj (hc₂.symm.trans (h1.trans h.code))
    subst hcc
    have hlen : len₂ = len := by rw [hdg] at hd₂; cases hd₂; rfl
    subst hlen
    have hs₂ : s₂ = (({ U with heap := s₂.heap, slotsUsed := s₂.slotsUsed } : State).setVm s₂.vm).setTop { g with pc := g.pc + len₂, stack := v.toList ++ g.stack } := by
      refine e3.trans ?_
      rw [hf₂, State.calling_eq h.top, State.setFrames_setFrames, State.setTop_of_frames _ hr', hr]
      rfl
    have hsame : U.sameButNew ({ U with heap := s₂.heap, slotsUsed := s₂.slotsUsed } : State) L mc ms := by
      refine ⟨?_, q2, q3, q4, q5, q6⟩
      obtain ⟨t, ht, -⟩ := State.frames_cons hr
      show ({ U with heap := s₂.heap, slotsUsed := s₂.slotsUsed } : State) = { U.setFrames U.frames with heap := s₂.heap, slotsUsed := s₂.slotsUsed }
      rw [State.setFrames_self ht]
    subst hg
    refine Or.inl ⟨v, ⟨(({ U with heap := s₂.heap, slotsUsed := s₂.slotsUsed } : State).setVm s₂.vm), Ls ++ L, c0 + mc, s0 + ms⟩,
      ⟨X.admits, X.cas, X.clock, X.frames, X.room, X.hears, X.method, X.code, (X.here.setHeapUsed s₂.heap s₂.slotsUsed).setVm hW'.alike, X.tail, State.WarmedH.trans X.warmed hW', X.limits, X.bytes, X.same.trans (hsame.setVm s.vm)⟩,
      ⟨g, mk, s₂, L, rfl, rfl, hqc, rfl, hL, rfl, rfl⟩, ?_⟩
    show Steps p.tables e below _ ((({ U with heap := s₂.heap, slotsUsed := s₂.slotsUsed } : State).setVm s₂.vm).setTop { g with pc := g.pc + len₂, stack := v.toList ++ g.stack })
    rw [← hs₂]
    exact hsteps
  · obtain ⟨e2, q2, q3, q4, q5, q6⟩ := id hsm
    have e3 : s₂ = ({ (U.calling g mk a).setFrames s₂.frames with heap := s₂.heap, slotsUsed := s₂.slotsUsed } : State).setVm s₂.vm := by
      have : s₂ = ({ s₂ with vm := (U.calling g mk a).vm } : State).setVm s₂.vm := rfl
      rw [e2] at this
      exact this
    have hf₂ : s₂.frames = .throwing q :: .java g :: U.frames.tail := hend
    have hW' : U.WarmedH s₂.vm := hW₂
    have hs₂ : s₂ = ((({ U with heap := s₂.heap, slotsUsed := s₂.slotsUsed } : State).setVm s₂.vm).setTop g).pushFrame (.throwing q) := by
      refine e3.trans ?_
      rw [hf₂, State.calling_eq h.top, State.setFrames_setFrames, State.pushFrame, State.frames_setTop _ hr', State.setTop_of_frames _ hr', State.setFrames_setFrames, hr]
      rfl
    have hsame : U.sameButNew ({ U with heap := s₂.heap, slotsUsed := s₂.slotsUsed } : State) L mc ms := by
      refine ⟨?_, q2, q3, q4, q5, q6⟩
      obtain ⟨t, ht, -⟩ := State.frames_cons hr
      show ({ U with heap := s₂.heap, slotsUsed := s₂.slotsUsed } : State) = { U.setFrames U.frames with heap := s₂.heap, slotsUsed := s₂.slotsUsed }
      rw [State.setFrames_self ht]
    subst hg
    refine Or.inr ⟨q, ⟨(({ U with heap := s₂.heap, slotsUsed := s₂.slotsUsed } : State).setVm s₂.vm), Ls ++ L, c0 + mc, s0 + ms⟩,
      ⟨X.admits, X.cas, X.clock, X.frames, X.room, X.hears, X.method, X.code, (X.here.setHeapUsed s₂.heap s₂.slotsUsed).setVm hW'.alike, X.tail, State.WarmedH.trans X.warmed hW', X.limits, X.bytes, X.same.trans (hsame.setVm s.vm)⟩,
      ⟨g, mk, s₂, L, E, ce, rfl, rfl, hx, hce, hcv, hcl, rfl, hL, rfl, rfl⟩, ?_⟩
    show Steps p.tables e below _ (((({ U with heap := s₂.heap, slotsUsed := s₂.slotsUsed } : State).setVm s₂.vm).setTop g).pushFrame (.throwing q))
    rw [← hs₂]
    exact hsteps
end Payer
section Calls
variable {p : Program} {l : Launch} {e : Env} {R : Room} {s : State} {m : MethodId} {args : Array Value} {below : List Frame} {meth : Method} {c : Code} {T : State} {locs : List Loc} {cells slots : Nat}
theorem vx_callV (X : Stand p l e R s m args below meth c T locs cells slots) (hexec : p.tables.exec = Jvm.exec) {own C : String} {index : Nat} {y : MethodName} {bytes : ByteArray} {maxL : Nat} {ret : Option FieldType}
    (hown : s.vm.findClass own = some m.cls) (hlink : (Cond.methodLink own index y).before args s = true) (hinst : (Cond.instanceMethod y).before args s = true) (hsel : (Cond.selects C y y).before args s = true)
    (hcode : (Cond.code y bytes maxL ret).before args s = true) (hy : y.cls ≠ "java/lang/invoke/MethodHandle" ∧ y.cls ≠ "java/lang/invoke/VarHandle")
    {W9 : Nat} {Pre : Pt → Array Value → Prop} {Post : Pt → Array Value → Option Value → Pt → Prop} {PostX : Pt → Array Value → Addr → Pt → Prop} (hK : vx_Back l R p e below s args y 3 W9 Pre Post PostX)
    {b : Addr} {cellB : Cell} (hcell : T.heap[b]? = some cellB) (hobj : cellB.vm.isStatics = false) (hcls : s.vm.findClass C = some cellB.cls)
    {g : JFrame} (hg : g.method = m) (hsize : g.locals.size = c.maxLocals) {argsL rest : List Value} (hlen : ∀ sig, parseMethodDescriptor y.desc = some sig → argsL.length = sig.parameters.length)
    (hstack : g.stack = argsL.reverse ++ .ref b :: rest) (hW : 2 * g.monitorRoom + (rest.map fun v => v.category).sum ≤ W9) (hdg : decode c.code g.pc = .ok (.invokevirtual index, 3))
    (hpre : ∀ vm₁, s.WarmedH vm₁ → Pre ⟨T.setVm vm₁, locs, cells, slots⟩ (Value.ref b :: argsL).toArray) :
    (∃ (v : Option Value) (vm₁ : Vm) (B : Pt), s.WarmedH vm₁ ∧ Stand p l e R s m args below meth c B.U B.locs B.cells B.slots ∧ Post ⟨T.setVm vm₁, locs, cells, slots⟩ (Value.ref b :: argsL).toArray v B ∧
      ∀ target, Steps p.tables e below (B.U.setTop { g with pc := g.pc + 3, stack := v.toList ++ rest }) target → Steps p.tables e below (T.setTop g) target) ∨
    (∃ (q : Addr) (vm₁ : Vm) (B : Pt), s.WarmedH vm₁ ∧ Stand p l e R s m args below meth c B.U B.locs B.cells B.slots ∧ PostX ⟨T.setVm vm₁, locs, cells, slots⟩ (Value.ref b :: argsL).toArray q B ∧
      Steps p.tables e below (T.setTop g) ((B.U.setTop { g with stack := rest }).pushFrame (.throwing q))) := by
  obtain ⟨mk, methM, hnamed, hmethM, hstM, habM⟩ := Cond.instanceMethod_spec hinst
  obtain ⟨methM', cM, hmethM', -, -, -, -, -, -, hsigM⟩ := Cond.code_spec hnamed hcode
  cases hmethM.symm.trans hmethM'
  obtain ⟨c2, r2, m2, q1, q2, q3, q4, kP, hkP, hkPi⟩ := Cond.selects_spec hsel
  cases hcls.symm.trans q1
  cases (State.methodFound?_of_named hnamed hy).symm.trans q2
  cases hnamed.symm.trans q3
  have hselP : selectMethod e.platform s.vm cellB.cls mk = .method mk := by rw [Launch.admits_selectMethod X.admits]; exact q4
  obtain ⟨vm₁, X₁, hstep₁⟩ := X.invokevirtual hexec hown hlink hnamed hmethM hstM hkP hkPi hy (a := b) (cell := cellB) hcell
    (fun z h => by rw [h] at hobj; cases hobj) hselP hmethM habM hkP hkPi (g := g) hg (argsL := argsL) (rest := rest) (hlen _ hsigM) hstack hdg
  rcases hK m meth c ⟨T.setVm vm₁, locs, cells, slots⟩ { g with stack := rest } (.invokevirtual index) mk (Value.ref b :: argsL).toArray X₁ hg hsize hdg hW (X₁.named hnamed) (hpre vm₁ X₁.warmed) with ⟨v, B, X', hpost, hsteps⟩ | ⟨q, B, X', hpost, hsteps⟩
  · exact Or.inl ⟨v, vm₁, B, X₁.warmed, X', hpost, fun target h => hstep₁ _ fun acts => by rw [doInvoke_state]; exact hsteps.trans h⟩
  · exact Or.inr ⟨q, vm₁, B, X₁.warmed, X', hpost, hstep₁ _ fun acts => by rw [doInvoke_state]; exact hsteps⟩
theorem vx_callS (X : Stand p l e R s m args below meth c T locs cells slots) (hexec : p.tables.exec = Jvm.exec) {own : String} {index : Nat} {y : MethodName} {bytes : ByteArray} {maxL : Nat} {ret : Option FieldType}
    (hown : s.vm.findClass own = some m.cls) (hlink : (Cond.methodLink own index y).before args s = true) (hstat : (Cond.static y).before args s = true) (hinit : (Cond.initialized y.cls).before args s = true)
    (hcode : (Cond.code y bytes maxL ret).before args s = true) (hy : y.cls ≠ "java/lang/invoke/MethodHandle" ∧ y.cls ≠ "java/lang/invoke/VarHandle")
    {W9 : Nat} {Pre : Pt → Array Value → Prop} {Post : Pt → Array Value → Option Value → Pt → Prop} {PostX : Pt → Array Value → Addr → Pt → Prop} (hK : vx_Back l R p e below s args y 3 W9 Pre Post PostX)
    {g : JFrame} (hg : g.method = m) (hsize : g.locals.size = c.maxLocals) {argsL rest : List Value} (hlen : ∀ sig, parseMethodDescriptor y.desc = some sig → argsL.length = sig.parameters.length)
    (hstack : g.stack = argsL.reverse ++ rest) (hW : 2 * g.monitorRoom + (rest.map fun v => v.category).sum ≤ W9) (hdg : decode c.code g.pc = .ok (.invokestatic index, 3))
    (hpre : ∀ vm₁, s.WarmedH vm₁ → Pre ⟨T.setVm vm₁, locs, cells, slots⟩ argsL.toArray) :
    (∃ (v : Option Value) (vm₁ : Vm) (B : Pt), s.WarmedH vm₁ ∧ Stand p l e R s m args below meth c B.U B.locs B.cells B.slots ∧ Post ⟨T.setVm vm₁, locs, cells, slots⟩ argsL.toArray v B ∧
      ∀ target, Steps p.tables e below (B.U.setTop { g with pc := g.pc + 3, stack := v.toList ++ rest }) target → Steps p.tables e below (T.setTop g) target) ∨
    (∃ (q : Addr) (vm₁ : Vm) (B : Pt), s.WarmedH vm₁ ∧ Stand p l e R s m args below meth c B.U B.locs B.cells B.slots ∧ PostX ⟨T.setVm vm₁, locs, cells, slots⟩ argsL.toArray q B ∧
      Steps p.tables e below (T.setTop g) ((B.U.setTop { g with stack := rest }).pushFrame (.throwing q))) := by
  obtain ⟨mk, hnamed⟩ := Cond.code_named hcode
  obtain ⟨methM, cM, hmethM, -, -, -, -, -, -, hsigM⟩ := Cond.code_spec hnamed hcode
  have hstatic : methM.isStatic = true := Cond.static_spec hnamed hmethM hstat
  obtain ⟨kP, hkP, -⟩ := className_of_methodNamed hnamed
  have hinitP : kP.init = .initialized := Cond.initialized_spec (findClass_of_methodNamed hnamed) hkP hinit
  obtain ⟨vm₁, X₁, hstep₁⟩ := X.invokestatic hexec hown hlink hnamed hmethM hstatic hkP hinitP hy (g := g) hg (argsL := argsL) (rest := rest) (hlen _ hsigM) hstack hdg
  rcases hK m meth c ⟨T.setVm vm₁, locs, cells, slots⟩ { g with stack := rest } (.invokestatic index) mk argsL.toArray X₁ hg hsize hdg hW (X₁.named hnamed) (hpre vm₁ X₁.warmed) with ⟨v, B, X', hpost, hsteps⟩ | ⟨q, B, X', hpost, hsteps⟩
  · exact Or.inl ⟨v, vm₁, B, X₁.warmed, X', hpost, fun target h => hstep₁ _ fun acts => by rw [doInvoke_state]; exact hsteps.trans h⟩
  · exact Or.inr ⟨q, vm₁, B, X₁.warmed, X', hpost, hstep₁ _ fun acts => by rw [doInvoke_state]; exact hsteps⟩
end Calls
theorem vx_cls {s : State} {T : State} {vm₁ : Vm} {E : String} {k : ClassId} (hW : s.WarmedH vm₁) (h : (T.setVm vm₁).vm.findClass E = some k) : s.vm.findClass E = some k := by
  have h1 : vm₁.findClass E = some k := h
  rw [hW.alike.findClass] at h1
  exact h1
/-- the method's frame g, with q thrown over it -/
def vx_W (p : Program) (l : Launch) (e : Env) (R : Room) (s : State) (m : MethodId) (args : Array Value) (below : List Frame) (meth : Method) (c : Code) (H : Heap) (locs : List Loc) (cells slots : Nat) (Q : State → Prop) (g : JFrame) (q : Addr) : Prop :=
  ∀ T : State, T.heap = H → Stand p l e R s m args below meth c T locs cells slots → ∃ t, Steps p.tables e below ((T.setTop g).pushFrame (.throwing q)) t ∧ Q t
def vx_Run (p : Program) (l : Launch) (e : Env) (R : Room) (s : State) (m : MethodId) (args : Array Value) (below : List Frame) (meth : Method) (c : Code) (H : Heap) (locs : List Loc) (cells slots mc ms : Nat) (g : JFrame) (rest : List Value) (Qa : State → Outcome → State → Prop) (XC : String → State → State → Prop) (free : Addr → Prop) : Prop :=
  ∀ T : State, T.heap = H → Stand p l e R s m args below meth c T locs cells slots →
    (∃ (v : Option Value) (st₀ t T' : State) (L : List Loc), st₀.heap = H ∧ Stand p l e R s m args below meth c T' (locs ++ L) (cells + mc) (slots + ms) ∧ (∀ q ∈ L, free q.base) ∧ T'.heap = t.heap ∧ T'.vm = t.vm ∧ Qa st₀ (.returned v) t ∧
      Goes p e below T g T' { g with pc := g.pc + 3, stack := v.toList ++ rest }) ∨
    (∃ (q : Addr) (st₀ t T' : State) (L : List Loc) (E : String) (ce : Cell), st₀.heap = H ∧ Stand p l e R s m args below meth c T' (locs ++ L) (cells + mc) (slots + ms) ∧ (∀ z ∈ L, free z.base) ∧ T'.heap = t.heap ∧ T'.vm = t.vm ∧ XC E st₀ t ∧ t.heap[q]? = some ce ∧ ce.vm = .none ∧ s.vm.findClass E = some ce.cls ∧
      Steps p.tables e below (T.setTop g) ((T'.setTop { g with stack := rest }).pushFrame (.throwing q)))
def vx_X {S : Type} (px : S → Prop) (B : String → S → State → Prop) (A : Nat → Prop) : String → State → State → Prop := fun E st t => ∃ u : S, px u ∧ B E u t ∧ va_F A st t
section Runs
variable {p : Program} {l : Launch} {e : Env} {R : Room} {s : State} {m : MethodId} {args : Array Value} {below : List Frame} {meth : Method} {c : Code} {H : Heap} {locs : List Loc} {cells slots : Nat}
variable {y : MethodName} {bytes cc : ByteArray} {maxL nL mc ms n index : Nat} {ret : Option FieldType} {ws : List Cond} {rm : Room} {Pc : Array Value → State → Prop} {Qc : Array Value → State → Outcome → State → Prop} {XC : String → State → State → Prop} {free : Addr → Prop} {Ts : List Cond} {own C : String} {b : Addr} {As rest : List Value} {g : JFrame}
theorem vx_callBack (cb : CallB R s args own index y bytes maxL ret ws rm mc ms n) (hM : vx_Met l y ws rm Pc Qc XC mc ms free) (hbl : FrameBlind Pc) : vx_Back l R p e below s args y 3 8 (PreOf R mc ms Pc) (PostOf Qc mc ms free) (vx_Post XC mc ms free) := by
  obtain ⟨hrc, hrs, hfr, hlo, hws, hcw, -, hini, -⟩ := cb
  exact vx_back (bytes := bytes) (maxL := maxL) (ret := ret) hM hbl hrc hrs hfr hlo hws hcw (fun a' U hW => word_at hW (Or.inl (by first | rfl | simp [Cond.onTables, Cond.keeps, Cond.steady])) hini)
theorem vx_runV (S : CallFix p m c cc nL s args Ts own) (hM : vx_Met l y ws rm Pc Qc XC mc ms free) (cw : CallW R s args own C index y bytes maxL ret ws rm mc ms n) (hp : PreV s H C b Pc As)
    (hg : g.method = m) (hn : As.length = n) (hsize : g.locals.size = nL) (hstack : g.stack = As.reverse ++ .ref b :: rest) (hW : 2 * g.monitorRoom + (rest.map fun v => v.category).sum ≤ 8) (hdg : decode cc g.pc = .ok (.invokevirtual index, 3)) (hf : cells + mc ≤ R.cells ∧ slots + ms ≤ R.slots) :
    vx_Run p l e R s m args below meth c H locs cells slots mc ms g rest (Qc (Value.ref b :: As).toArray) XC free := by
  have hK : vx_Back l R p e below s args y 3 8 (PreOf R mc ms Pc) (PostOf Qc mc ms free) (vx_Post XC mc ms free) := vx_callBack cw.1 hM hp.1
  obtain ⟨⟨-, -, -, -, -, -, hcode, -, hy, hlen, hl⟩, hin, hse⟩ := cw
  obtain ⟨hx, hb, hml, ho, -⟩ := S
  obtain ⟨-, ⟨cellB, hcB, hoB, hclB⟩, hPc⟩ := hp
  intro T hT X
  rcases vx_callV X hx (C := C) (bytes := bytes) (maxL := maxL) (ret := ret) ho hl hin hse hcode hy hK (by rw [hT]; exact hcB) hoB hclB hg (hsize.trans hml.symm) (argsL := As) (rest := rest) (fun sig h => hn.trans (hlen sig h)) hstack hW (by rw [hb]; exact hdg)
    (fun vm₁ hW₁ => ⟨hf.1, hf.2, hPc (T.setVm vm₁) hT hW₁⟩) with ⟨v, vm₁, ⟨U', l2, c2, s2⟩, hW₁, X', ⟨g', mk, t, L, e1, e2, hq, h1, hL, h2, h3⟩, st⟩ | ⟨q, vm₁, ⟨U', l2, c2, s2⟩, hW₁, X', ⟨g', mk, t, L, E, ce, e1, e2, hq, hce, hcv, hcl, h1, hL, h2, h3⟩, st⟩
  · dsimp only [Pt.U, Pt.locs, Pt.cells, Pt.slots] at X' e1 e2 h1 h2 h3 st
    subst h1; subst h2; subst h3
    exact Or.inl ⟨v, (T.setVm vm₁).calling g' mk (Value.ref b :: As).toArray, t, U', L, hT, X', hL, e1, e2, hq, st⟩
  · dsimp only [Pt.U, Pt.locs, Pt.cells, Pt.slots] at X' e1 e2 h1 h2 h3 st hcl
    subst h1; subst h2; subst h3
    exact Or.inr ⟨q, (T.setVm vm₁).calling g' mk (Value.ref b :: As).toArray, t, U', L, E, ce, hT, X', hL, e1, e2, hq, hce, hcv, vx_cls hW₁ hcl, st⟩
theorem vx_runS (S : CallFix p m c cc nL s args Ts own) (hM : vx_Met l y ws rm Pc Qc XC mc ms free) (cw : CallB R s args own index y bytes maxL ret ws rm mc ms n ∧ (Cond.static y).before args s = true) (hp : PreS s H Pc As)
    (hg : g.method = m) (hn : As.length = n) (hsize : g.locals.size = nL) (hstack : g.stack = As.reverse ++ rest) (hW : 2 * g.monitorRoom + (rest.map fun v => v.category).sum ≤ 8) (hdg : decode cc g.pc = .ok (.invokestatic index, 3)) (hf : cells + mc ≤ R.cells ∧ slots + ms ≤ R.slots) :
    vx_Run p l e R s m args below meth c H locs cells slots mc ms g rest (Qc As.toArray) XC free := by
  have hK : vx_Back l R p e below s args y 3 8 (PreOf R mc ms Pc) (PostOf Qc mc ms free) (vx_Post XC mc ms free) := vx_callBack cw.1 hM hp.1
  obtain ⟨⟨-, -, -, -, -, -, hcode, hini, hy, hlen, hl⟩, hstt⟩ := cw
  obtain ⟨hx, hb, hml, ho, -⟩ := S
  intro T hT X
  rcases vx_callS X hx (bytes := bytes) (maxL := maxL) (ret := ret) ho hl hstt hini hcode hy hK hg (hsize.trans hml.symm) (argsL := As) (rest := rest) (fun sig h => hn.trans (hlen sig h)) hstack hW (by rw [hb]; exact hdg)
    (fun vm₁ hW₁ => ⟨hf.1, hf.2, hp.2 (T.setVm vm₁) hT hW₁⟩) with ⟨v, vm₁, ⟨U', l2, c2, s2⟩, hW₁, X', ⟨g', mk, t, L, e1, e2, hq, h1, hL, h2, h3⟩, st⟩ | ⟨q, vm₁, ⟨U', l2, c2, s2⟩, hW₁, X', ⟨g', mk, t, L, E, ce, e1, e2, hq, hce, hcv, hcl, h1, hL, h2, h3⟩, st⟩
  · dsimp only [Pt.U, Pt.locs, Pt.cells, Pt.slots] at X' e1 e2 h1 h2 h3 st
    subst h1; subst h2; subst h3
    exact Or.inl ⟨v, (T.setVm vm₁).calling g' mk As.toArray, t, U', L, hT, X', hL, e1, e2, hq, st⟩
  · dsimp only [Pt.U, Pt.locs, Pt.cells, Pt.slots] at X' e1 e2 h1 h2 h3 st hcl
    subst h1; subst h2; subst h3
    exact Or.inr ⟨q, (T.setVm vm₁).calling g' mk As.toArray, t, U', L, E, ce, hT, X', hL, e1, e2, hq, hce, hcv, vx_cls hW₁ hcl, st⟩
end Runs
section Rows
variable {p : Program} {l : Launch} {e : Env} {R : Room} {s : State} {m : MethodId} {args : Array Value} {below : List Frame} {meth : Method} {c : Code} {H : Heap} {locs : List Loc} {cells slots : Nat} {Q : State → Prop}
variable {mc ms : Nat} {free : Addr → Prop} {A0 A1 : Nat → Prop} {H0 : Heap} {a : Array Value} {pc : Nat} {ls : Array Slot} {st0 rest : List Value}
theorem vx_keep {st₀ t T' : State} {L : List Loc} (h0 : st₀.heap = H) (e1 : T'.heap = t.heap) (hS : va_S A0 H0 H locs) (hA : ∀ q, q < H.size → A1 q → A0 q) (hf : ∀ q, free q → A0 q) (hL : ∀ q ∈ L, free q.base) (hF : va_F A1 st₀ t) :
    H.size ≤ T'.heap.size ∧ (∀ q : Nat, q < H.size → ¬ A1 q → T'.heap[q]? = H[q]?) ∧ va_S A0 H0 T'.heap (locs ++ L) := by
  obtain ⟨hz, hk⟩ := hF
  rw [h0] at hz hk
  exact ⟨by rw [e1]; exact hz, fun q h1 h2 => by rw [e1]; exact hk q h1 h2,
    ⟨Nat.le_trans hS.1 (by rw [e1]; exact hz), fun q h1 h2 => by rw [e1, hk q (Nat.lt_of_lt_of_le h1 hS.1) (fun z => h2 (hA q (Nat.lt_of_lt_of_le h1 hS.1) z))]; exact hS.2.1 q h1 h2, fun q hq => by
      rcases List.mem_append.mp hq with h | h
      · exact hS.2.2 q h
      · exact hf _ (hL q h)⟩⟩
theorem vx_calli {S SX : Type} {post : Int32 → S → Prop} {px : SX → Prop} {B : S → State → Prop} {BX : String → SX → State → Prop} {AX : Nat → Prop} (hr : vx_Run p l e R s m args below meth c H locs cells slots mc ms (F0 m pc ls st0) rest (va_Qi post B A1 a) (vx_X px BX AX) free) (hS : va_S A0 H0 H locs) (hA : ∀ q, q < H.size → A1 q → A0 q) (hf : ∀ q, free q → A0 q) (hAX : ∀ q, q < H.size → AX q → A0 q)
    (kx : ∀ (E : String) (ce : Cell) (q9 : Addr) (u : SX) (t : State) (H1 : Heap) (locs1 : List Loc), t.heap = H1 → s.vm.Alike t.vm → px u → BX E u t → H.size ≤ H1.size → (∀ q : Nat, q < H.size → ¬ AX q → H1[q]? = H[q]?) → va_S A0 H0 H1 locs1 → H1[q9]? = some ce → ce.vm = .none → s.vm.findClass E = some ce.cls → vx_W p l e R s m args below meth c H1 locs1 (cells + mc) (slots + ms) Q (F0 m pc ls rest) q9)
    (kk : ∀ (r : Int32) (u : S) (t : State) (H1 : Heap) (locs1 : List Loc), t.heap = H1 → s.vm.Alike t.vm → post r u → B u t → H.size ≤ H1.size → (∀ q : Nat, q < H.size → ¬ A1 q → H1[q]? = H[q]?) → va_S A0 H0 H1 locs1 → W p l e R s m args below meth c H1 locs1 (cells + mc) (slots + ms) Q (F0 m (pc + 3) ls (.int r :: rest))) : W p l e R s m args below meth c H locs cells slots Q (F0 m pc ls st0) := by
  intro T hT X
  rcases hr T hT X with ⟨v, st₀, t, T', L, h0, X', hL, e1, e2, ⟨⟨r, u, hv, hp, hb⟩, hF⟩, st⟩ | ⟨q, st₀, t, T', L, E, ce, h0, X', hL, e1, e2, ⟨u, hp, hb, hF⟩, hce, hcv, hcl, st⟩
  · cases hv
    obtain ⟨k1, k2, k3⟩ := vx_keep h0 e1 hS hA hf hL hF
    obtain ⟨t2, a1, b1⟩ := kk r u t T'.heap (locs ++ L) e1.symm (by rw [← e2]; exact X'.warmed.alike) hp hb k1 k2 k3 T' rfl X'
    exact ⟨t2, st t2 a1, b1⟩
  · obtain ⟨k1, k2, k3⟩ := vx_keep h0 e1 hS hAX hf hL hF
    obtain ⟨t2, a1, b1⟩ := kx E ce q u t T'.heap (locs ++ L) e1.symm (by rw [← e2]; exact X'.warmed.alike) hp hb k1 k2 k3 (by rw [e1]; exact hce) hcv hcl T' rfl X'
    exact ⟨t2, st.trans a1, b1⟩
theorem vx_calll {S SX : Type} {post : Int64 → S → Prop} {px : SX → Prop} {B : S → State → Prop} {BX : String → SX → State → Prop} {AX : Nat → Prop} (hr : vx_Run p l e R s m args below meth c H locs cells slots mc ms (F0 m pc ls st0) rest (va_Ql post B A1 a) (vx_X px BX AX) free) (hS : va_S A0 H0 H locs) (hA : ∀ q, q < H.size → A1 q → A0 q) (hf : ∀ q, free q → A0 q) (hAX : ∀ q, q < H.size → AX q → A0 q)
    (kx : ∀ (E : String) (ce : Cell) (q9 : Addr) (u : SX) (t : State) (H1 : Heap) (locs1 : List Loc), t.heap = H1 → s.vm.Alike t.vm → px u → BX E u t → H.size ≤ H1.size → (∀ q : Nat, q < H.size → ¬ AX q → H1[q]? = H[q]?) → va_S A0 H0 H1 locs1 → H1[q9]? = some ce → ce.vm = .none → s.vm.findClass E = some ce.cls → vx_W p l e R s m args below meth c H1 locs1 (cells + mc) (slots + ms) Q (F0 m pc ls rest) q9)
    (kk : ∀ (r : Int64) (u : S) (t : State) (H1 : Heap) (locs1 : List Loc), t.heap = H1 → s.vm.Alike t.vm → post r u → B u t → H.size ≤ H1.size → (∀ q : Nat, q < H.size → ¬ A1 q → H1[q]? = H[q]?) → va_S A0 H0 H1 locs1 → W p l e R s m args below meth c H1 locs1 (cells + mc) (slots + ms) Q (F0 m (pc + 3) ls (.long r :: rest))) : W p l e R s m args below meth c H locs cells slots Q (F0 m pc ls st0) := by
  intro T hT X
  rcases hr T hT X with ⟨v, st₀, t, T', L, h0, X', hL, e1, e2, ⟨⟨r, u, hv, hp, hb⟩, hF⟩, st⟩ | ⟨q, st₀, t, T', L, E, ce, h0, X', hL, e1, e2, ⟨u, hp, hb, hF⟩, hce, hcv, hcl, st⟩
  · cases hv
    obtain ⟨k1, k2, k3⟩ := vx_keep h0 e1 hS hA hf hL hF
    obtain ⟨t2, a1, b1⟩ := kk r u t T'.heap (locs ++ L) e1.symm (by rw [← e2]; exact X'.warmed.alike) hp hb k1 k2 k3 T' rfl X'
    exact ⟨t2, st t2 a1, b1⟩
  · obtain ⟨k1, k2, k3⟩ := vx_keep h0 e1 hS hAX hf hL hF
    obtain ⟨t2, a1, b1⟩ := kx E ce q u t T'.heap (locs ++ L) e1.symm (by rw [← e2]; exact X'.warmed.alike) hp hb k1 k2 k3 (by rw [e1]; exact hce) hcv hcl T' rfl X'
    exact ⟨t2, st.trans a1, b1⟩
theorem vx_callf {S SX : Type} {post : UInt32 → S → Prop} {px : SX → Prop} {B : S → State → Prop} {BX : String → SX → State → Prop} {AX : Nat → Prop} (hr : vx_Run p l e R s m args below meth c H locs cells slots mc ms (F0 m pc ls st0) rest (va_Qf post B A1 a) (vx_X px BX AX) free) (hS : va_S A0 H0 H locs) (hA : ∀ q, q < H.size → A1 q → A0 q) (hf : ∀ q, free q → A0 q) (hAX : ∀ q, q < H.size → AX q → A0 q)
    (kx : ∀ (E : String) (ce : Cell) (q9 : Addr) (u : SX) (t : State) (H1 : Heap) (locs1 : List Loc), t.heap = H1 → s.vm.Alike t.vm → px u → BX E u t → H.size ≤ H1.size → (∀ q : Nat, q < H.size → ¬ AX q → H1[q]? = H[q]?) → va_S A0 H0 H1 locs1 → H1[q9]? = some ce → ce.vm = .none → s.vm.findClass E = some ce.cls → vx_W p l e R s m args below meth c H1 locs1 (cells + mc) (slots + ms) Q (F0 m pc ls rest) q9)
    (kk : ∀ (r : UInt32) (u : S) (t : State) (H1 : Heap) (locs1 : List Loc), t.heap = H1 → s.vm.Alike t.vm → post r u → B u t → H.size ≤ H1.size → (∀ q : Nat, q < H.size → ¬ A1 q → H1[q]? = H[q]?) → va_S A0 H0 H1 locs1 → W p l e R s m args below meth c H1 locs1 (cells + mc) (slots + ms) Q (F0 m (pc + 3) ls (.float r :: rest))) : W p l e R s m args below meth c H locs cells slots Q (F0 m pc ls st0) := by
  intro T hT X
  rcases hr T hT X with ⟨v, st₀, t, T', L, h0, X', hL, e1, e2, ⟨⟨r, u, hv, hp, hb⟩, hF⟩, st⟩ | ⟨q, st₀, t, T', L, E, ce, h0, X', hL, e1, e2, ⟨u, hp, hb, hF⟩, hce, hcv, hcl, st⟩
  · cases hv
    obtain ⟨k1, k2, k3⟩ := vx_keep h0 e1 hS hA hf hL hF
    obtain ⟨t2, a1, b1⟩ := kk r u t T'.heap (locs ++ L) e1.symm (by rw [← e2]; exact X'.warmed.alike) hp hb k1 k2 k3 T' rfl X'
    exact ⟨t2, st t2 a1, b1⟩
  · obtain ⟨k1, k2, k3⟩ := vx_keep h0 e1 hS hAX hf hL hF
    obtain ⟨t2, a1, b1⟩ := kx E ce q u t T'.heap (locs ++ L) e1.symm (by rw [← e2]; exact X'.warmed.alike) hp hb k1 k2 k3 (by rw [e1]; exact hce) hcv hcl T' rfl X'
    exact ⟨t2, st.trans a1, b1⟩
theorem vx_calld {S SX : Type} {post : UInt64 → S → Prop} {px : SX → Prop} {B : S → State → Prop} {BX : String → SX → State → Prop} {AX : Nat → Prop} (hr : vx_Run p l e R s m args below meth c H locs cells slots mc ms (F0 m pc ls st0) rest (va_Qd post B A1 a) (vx_X px BX AX) free) (hS : va_S A0 H0 H locs) (hA : ∀ q, q < H.size → A1 q → A0 q) (hf : ∀ q, free q → A0 q) (hAX : ∀ q, q < H.size → AX q → A0 q)
    (kx : ∀ (E : String) (ce : Cell) (q9 : Addr) (u : SX) (t : State) (H1 : Heap) (locs1 : List Loc), t.heap = H1 → s.vm.Alike t.vm → px u → BX E u t → H.size ≤ H1.size → (∀ q : Nat, q < H.size → ¬ AX q → H1[q]? = H[q]?) → va_S A0 H0 H1 locs1 → H1[q9]? = some ce → ce.vm = .none → s.vm.findClass E = some ce.cls → vx_W p l e R s m args below meth c H1 locs1 (cells + mc) (slots + ms) Q (F0 m pc ls rest) q9)
    (kk : ∀ (r : UInt64) (u : S) (t : State) (H1 : Heap) (locs1 : List Loc), t.heap = H1 → s.vm.Alike t.vm → post r u → B u t → H.size ≤ H1.size → (∀ q : Nat, q < H.size → ¬ A1 q → H1[q]? = H[q]?) → va_S A0 H0 H1 locs1 → W p l e R s m args below meth c H1 locs1 (cells + mc) (slots + ms) Q (F0 m (pc + 3) ls (.double r :: rest))) : W p l e R s m args below meth c H locs cells slots Q (F0 m pc ls st0) := by
  intro T hT X
  rcases hr T hT X with ⟨v, st₀, t, T', L, h0, X', hL, e1, e2, ⟨⟨r, u, hv, hp, hb⟩, hF⟩, st⟩ | ⟨q, st₀, t, T', L, E, ce, h0, X', hL, e1, e2, ⟨u, hp, hb, hF⟩, hce, hcv, hcl, st⟩
  · cases hv
    obtain ⟨k1, k2, k3⟩ := vx_keep h0 e1 hS hA hf hL hF
    obtain ⟨t2, a1, b1⟩ := kk r u t T'.heap (locs ++ L) e1.symm (by rw [← e2]; exact X'.warmed.alike) hp hb k1 k2 k3 T' rfl X'
    exact ⟨t2, st t2 a1, b1⟩
  · obtain ⟨k1, k2, k3⟩ := vx_keep h0 e1 hS hAX hf hL hF
    obtain ⟨t2, a1, b1⟩ := kx E ce q u t T'.heap (locs ++ L) e1.symm (by rw [← e2]; exact X'.warmed.alike) hp hb k1 k2 k3 (by rw [e1]; exact hce) hcv hcl T' rfl X'
    exact ⟨t2, st.trans a1, b1⟩
theorem vx_callv {S SX : Type} {post : S → Prop} {px : SX → Prop} {B : S → State → Prop} {BX : String → SX → State → Prop} {AX : Nat → Prop} (hr : vx_Run p l e R s m args below meth c H locs cells slots mc ms (F0 m pc ls st0) rest (va_Qv post B A1 a) (vx_X px BX AX) free) (hS : va_S A0 H0 H locs) (hA : ∀ q, q < H.size → A1 q → A0 q) (hf : ∀ q, free q → A0 q) (hAX : ∀ q, q < H.size → AX q → A0 q)
    (kx : ∀ (E : String) (ce : Cell) (q9 : Addr) (u : SX) (t : State) (H1 : Heap) (locs1 : List Loc), t.heap = H1 → s.vm.Alike t.vm → px u → BX E u t → H.size ≤ H1.size → (∀ q : Nat, q < H.size → ¬ AX q → H1[q]? = H[q]?) → va_S A0 H0 H1 locs1 → H1[q9]? = some ce → ce.vm = .none → s.vm.findClass E = some ce.cls → vx_W p l e R s m args below meth c H1 locs1 (cells + mc) (slots + ms) Q (F0 m pc ls rest) q9)
    (kk : ∀ (u : S) (t : State) (H1 : Heap) (locs1 : List Loc), t.heap = H1 → s.vm.Alike t.vm → post u → B u t → H.size ≤ H1.size → (∀ q : Nat, q < H.size → ¬ A1 q → H1[q]? = H[q]?) → va_S A0 H0 H1 locs1 → W p l e R s m args below meth c H1 locs1 (cells + mc) (slots + ms) Q (F0 m (pc + 3) ls (rest))) : W p l e R s m args below meth c H locs cells slots Q (F0 m pc ls st0) := by
  intro T hT X
  rcases hr T hT X with ⟨v, st₀, t, T', L, h0, X', hL, e1, e2, ⟨⟨u, hv, hp, hb⟩, hF⟩, st⟩ | ⟨q, st₀, t, T', L, E, ce, h0, X', hL, e1, e2, ⟨u, hp, hb, hF⟩, hce, hcv, hcl, st⟩
  · cases hv
    obtain ⟨k1, k2, k3⟩ := vx_keep h0 e1 hS hA hf hL hF
    obtain ⟨t2, a1, b1⟩ := kk u t T'.heap (locs ++ L) e1.symm (by rw [← e2]; exact X'.warmed.alike) hp hb k1 k2 k3 T' rfl X'
    exact ⟨t2, st t2 a1, b1⟩
  · obtain ⟨k1, k2, k3⟩ := vx_keep h0 e1 hS hAX hf hL hF
    obtain ⟨t2, a1, b1⟩ := kx E ce q u t T'.heap (locs ++ L) e1.symm (by rw [← e2]; exact X'.warmed.alike) hp hb k1 k2 k3 (by rw [e1]; exact hce) hcv hcl T' rfl X'
    exact ⟨t2, st.trans a1, b1⟩
/-- caught by the row x of this method's table; the rows ahead don't take it -/
theorem vx_catch {own name : String} {E : String} {ce : Cell} {q : Addr} (hown : s.vm.findClass own = some m.cls) (pre : List ExceptionTableEntry) (x : ExceptionTableEntry) (suf : List ExceptionTableEntry) (hsplit : c.exceptionTable.toList = pre ++ x :: suf)
    (hpass : ∀ z ∈ pre, covers z pc = false ∨ (z.catchType ≠ 0 ∧ ∃ nm : String, (Cond.classLink own z.catchType nm).before args s = true ∧ va_Nc E nm s)) (hx : covers x pc = true) (h0 : x.catchType ≠ 0)
    (hlink : (Cond.classLink own x.catchType name).before args s = true) (hcast : (Cond.castable E name).before args s = true) (hcell : H[q]? = some ce) (hv : ce.vm = .none) (hcl : s.vm.findClass E = some ce.cls)
    (kk : W p l e R s m args below meth c H locs cells slots Q (F0 m x.handlerPc ls [.ref q])) : vx_W p l e R s m args below meth c H locs cells slots Q (F0 m pc ls rest) q := by
  intro T hT X
  have hpl : e.platform.magicAccessors = ({} : Platform).magicAccessors := by rw [X.admits.platform]
  obtain ⟨c3, c4, hc3, hc4, hasg⟩ := Cond.castable_spec hcast
  cases Option.some.inj (hc3.symm.trans hcl)
  obtain ⟨c5, hc5, hcl5⟩ := Cond.classLink_spec hown hlink e.platform hpl
  cases Option.some.inj (hc4.symm.trans hc5)
  obtain ⟨vm', X', st⟩ := X.thenCaughtThrough q (g := F0 m pc ls rest) rfl (Steps.refl _) (by rw [hT]; exact hcell) (by rw [hv]; rfl) (by obtain ⟨k9, h9, -⟩ := Vm.findClass_spec hcl; exact ⟨k9, h9⟩) pre x suf hsplit
    (fun z hz => by
      rcases hpass z hz with h | ⟨hz0, nm, hl1, hn1⟩
      · exact Or.inl h
      · obtain ⟨c6, hc6, hcl6⟩ := Cond.classLink_spec hown hl1 e.platform hpl
        obtain ⟨a8, b8, h1, h2, h3⟩ := hn1
        cases Option.some.inj (h1.symm.trans hcl)
        cases Option.some.inj (h2.symm.trans hc6)
        exact Or.inr ⟨hz0, _, hcl6, h3⟩) hx (Or.inr ⟨h0, c4, hcl5, hasg⟩)
  obtain ⟨t, a1, b1⟩ := kk (T.setVm vm') hT X'
  exact ⟨t, st.trans a1, b1⟩
end Rows
section Ends
variable {p : Program} {l : Launch} {e : Env} {R : Room} {s : State} {m : MethodId} {args : Array Value} {below : List Frame} {meth : Method} {c : Code} {H : Heap} {locs : List Loc} {cells slots : Nat} {Q : State → Prop}
variable {mc ms : Nat} {free : Addr → Prop} {A0 A1 : Nat → Prop} {H0 : Heap} {a : Array Value} {ls : Array Slot} {st0 rest : List Value}
variable {Qc : Array Value → State → Outcome → State → Prop} {XC : String → State → State → Prop}
/-- what a body that may throw owes at its end -/
def vx_MQ (below : List Frame) (Qc : Array Value → State → Outcome → State → Prop) (XC : String → State → State → Prop) (a : Array Value) (s : State) (mc ms : Nat) (free : Addr → Prop) : State → Prop := fun t =>
  ∃ o, t.status = .running ∧ Ended t below o ∧ vx_Q Qc XC mc ms free a s o t
theorem vx_ret {g : JFrame} {mc ms : Nat} (k : W p l e R s m args below meth c H locs cells slots (MQ below Qc args s mc ms free) g) : W p l e R s m args below meth c H locs cells slots (vx_MQ below Qc XC args s mc ms free) g := by
  intro T hT X
  obtain ⟨t, a1, o, b1, b2, b3, b4⟩ := k T hT X
  exact ⟨t, a1, o, b1, b2, Or.inl ⟨b3, b4⟩⟩
/-- not caught here: it goes on to the caller -/
theorem vx_widen {g : JFrame} {q : Addr} {k n : Nat} (h1 : cells ≤ k) (h2 : slots ≤ n) (kk : vx_W p l e R s m args below meth c H locs k n Q g q) : vx_W p l e R s m args below meth c H locs cells slots Q g q := fun T hT X => kk T hT (stand_widen X h1 h2)
theorem vx_out {pc : Nat} {E : String} {ce : Cell} {q : Addr} {mc ms : Nat} (hout : ∀ x ∈ c.exceptionTable.toList, covers x pc = false) (hlocks : meth.locks = false) (hcell : H[q]? = some ce) (hv : ce.vm = .none) (hcl : s.vm.findClass E = some ce.cls)
    (hx : ∀ t : State, t.heap = H → s.vm.Alike t.vm → XC E s t) (hf : ∀ z ∈ locs, free z.base) (hc : cells ≤ mc) (hs : slots ≤ ms) :
    vx_W p l e R s m args below meth c H locs cells slots (vx_MQ below Qc XC args s mc ms free) (F0 m pc ls rest) q := by
  intro T hT X
  obtain ⟨st1, hrun, hend, hW, hsm⟩ := X.leaveThrown q (g := F0 m pc ls rest) rfl rfl rfl hout hlocks
  have hcell9 : (T.setFrames (.throwing q :: below)).heap[q]? = some ce := by
    show T.heap[q]? = some ce
    rw [hT]; exact hcell
  exact ⟨_, st1, .threw q, hrun, hend, Or.inr ⟨q, rfl, E, ce, locs, hx _ hT hW.alike, hcell9, hv, hcl, hW, hsm.mono hc hs, hf⟩⟩
theorem vx_frame {U : State} {k n : Nat} (h : s.sameButNew ({ U with vm := s.vm } : State) locs k n) : s.heap.size ≤ U.heap.size ∧ ∀ q : Nat, q < s.heap.size → (∀ z ∈ locs, z.base ≠ q) → U.heap[q]? = s.heap[q]? := by
  obtain ⟨-, h2, -, -, -, h6⟩ := h
  refine ⟨h2, fun q hq hz => ?_⟩
  obtain ⟨c9, e1, e2, e3, e4⟩ := h6 q _ (Array.getElem?_eq_getElem hq)
  have hs : c9.slots = (s.heap[q]).slots := Array.ext_getElem? fun i => e4 i fun hm => hz _ hm rfl
  have h9 : c9 = s.heap[q] := by
    rw [hs] at e2
    exact e2
  have e5 : U.heap[q]? = some c9 := e1
  rw [e5, h9, Array.getElem?_eq_getElem hq]
/-- the words of a throw but the four that speak of the heap -/
def vx_no (w : Cond) : Bool := decide (w ≠ .isRef (.static Bundle.tN "UNASSIGNED_STACK" Bundle.steD)) && decide (w ≠ .isRef (.static Bundle.tN "SUPPRESSED_SENTINEL" Bundle.listD)) && decide (w ≠ .laysStatic Bundle.tN "UNASSIGNED_STACK" Bundle.steD) && decide (w ≠ .laysStatic Bundle.tN "SUPPRESSED_SENTINEL" Bundle.listD)
def vx_at0 (own : String) (ic : Nat) (X : String) (names : List String) : List Cond := (Bundle.ownAtoms0 own ic X names).filter vx_no
def vx_atS (own : String) (ic : Nat) (X : String) (names : List String) : List Cond := (Bundle.ownAtoms own ic X names).filter vx_no
/-- a word that the tables alone decide, or a good one -/
def vx_ot (w : Cond) : Bool := w.onTables || goodWord w
theorem vx_ot_at {args a' : Array Value} {s U : State} {w : Cond} (hW : s.WarmedH U.vm) (hvm : s.vm = U.vm) (hg : vx_ot w = true) (h : w.before args s = true) : w.before a' U = true := by
  simp only [vx_ot, Bool.or_eq_true] at hg
  rcases hg with hg | hg
  · exact va_tabs hg hvm h
  · exact word_at hW (good_of_word hg) h
/-- a list's words: the good ones out of the method's own list, the others by premises of their own -/
theorem vx_hat {args : Array Value} {s : State} {L B : List Cond} (h1 : ∀ w ∈ L.filter goodWord, w.before args s = true) (h2 : ∀ w ∈ L.filter (fun w => !goodWord w), w ∈ B) (h3 : ∀ w ∈ B, w.before args s = true) : ∀ w ∈ L, w.before args s = true := by
  intro w hw
  by_cases g : goodWord w = true
  · exact h1 w (List.mem_filter.mpr ⟨hw, g⟩)
  · refine h3 w (h2 w (List.mem_filter.mpr ⟨hw, ?_⟩))
    show (!goodWord w) = true
    cases hgw : goodWord w
    · rfl
    · exact absurd hgw g
theorem vx_c {args : Array Value} {s : State} {w : Cond} {B : List Cond} (h : w.before args s = true) (t : ∀ w ∈ B, w.before args s = true) : ∀ w' ∈ w :: B, w'.before args s = true := fun w' h' => (List.mem_cons.mp h').elim (fun e => by rw [e]; exact h) (t w')
theorem vx_n {args : Array Value} {s : State} : ∀ w ∈ ([] : List Cond), w.before args s = true := fun _ h => nomatch h
theorem vx_own {args : Array Value} {s : State} {L : List Cond} (h1 : ∀ w ∈ L.filter vx_no, w.before args s = true)
    (hU : (Cond.isRef (.static Bundle.tN "UNASSIGNED_STACK" Bundle.steD)).before args s = true) (hN : (Cond.isRef (.static Bundle.tN "SUPPRESSED_SENTINEL" Bundle.listD)).before args s = true)
    (lU : (Cond.laysStatic Bundle.tN "UNASSIGNED_STACK" Bundle.steD).before args s = true) (lN : (Cond.laysStatic Bundle.tN "SUPPRESSED_SENTINEL" Bundle.listD).before args s = true) : ∀ w ∈ L, w.before args s = true := by
  intro w hw
  by_cases e1 : w = .isRef (.static Bundle.tN "UNASSIGNED_STACK" Bundle.steD)
  · rw [e1]; exact hU
  · by_cases e2 : w = .isRef (.static Bundle.tN "SUPPRESSED_SENTINEL" Bundle.listD)
    · rw [e2]; exact hN
    · by_cases e3 : w = .laysStatic Bundle.tN "UNASSIGNED_STACK" Bundle.steD
      · rw [e3]; exact lU
      · by_cases e4 : w = .laysStatic Bundle.tN "SUPPRESSED_SENTINEL" Bundle.listD
        · rw [e4]; exact lN
        · exact h1 w (List.mem_filter.mpr ⟨hw, by unfold vx_no; rw [decide_eq_true e1, decide_eq_true e2, decide_eq_true e3, decide_eq_true e4]; rfl⟩)
/-- where a static field lies, its class's statics cell in H -/
def vx_L (C n d : String) (A : Nat → Prop) (U : State) (H : Heap) : Prop := ∃ (c : ClassId) (k : Class) (i : Nat) (f : Field) (a : Nat) (cell : Cell), U.vm.findClass C = some c ∧ U.fieldFound? C n d = some (c, k, i, f) ∧ f.isStatic = true ∧ k.statics = some a ∧ H[a]? = some cell ∧ cell.vm.isStatics = true ∧ cell.cls = c ∧ f.slot < cell.slots.size ∧ k.staticTypes[f.slot]? = some f.type ∧ ¬ A a
theorem vx_L.moved {C n d : String} {A : Nat → Prop} {u U : State} {H : Heap} (hvm : u.vm.Alike U.vm) (h : vx_L C n d A u H) : vx_L C n d A U H := by
  obtain ⟨c, k, i, f, a, cell, h1, h2, h3, h4, h5, h6, h7, h8, h9, h10⟩ := h
  obtain ⟨k', hi', he⟩ := State.fieldFound?_setVm hvm h2
  exact ⟨c, k', i, f, a, cell, by rw [hvm.findClass]; exact h1, hi', h3, by rw [he]; exact h4, h5, h6, h7, h8, by rw [he]; exact h9, h10⟩
theorem vx_L.kept {C n d : String} {A : Nat → Prop} {U : State} {H H1 : Heap} (h : vx_L C n d A U H) (hq : ∀ a : Nat, a < H.size → ¬ A a → H1[a]? = H[a]?) : vx_L C n d A U H1 := by
  obtain ⟨c, k, i, f, a, cell, h1, h2, h3, h4, h5, h6, h7, h8, h9, h10⟩ := h
  exact ⟨c, k, i, f, a, cell, h1, h2, h3, h4, by rw [hq a (Array.getElem?_eq_some_iff.mp h5).1 h10]; exact h5, h6, h7, h8, h9, h10⟩
theorem vx_L.narrow {C n d : String} {A B : Nat → Prop} {U : State} {H : Heap} (h : vx_L C n d A U H) (hAB : ∀ q, B q → A q) : vx_L C n d B U H := by
  obtain ⟨c, k, i, f, a, cell, h1, h2, h3, h4, h5, h6, h7, h8, h9, h10⟩ := h
  exact ⟨c, k, i, f, a, cell, h1, h2, h3, h4, h5, h6, h7, h8, h9, fun z => h10 (hAB _ z)⟩
theorem vx_L.word {C n d : String} {A : Nat → Prop} {s : State} {args : Array Value} (h : vx_L C n d A s s.heap) : (Cond.laysStatic C n d).before args s = true := by
  obtain ⟨c, k, i, f, a, cell, h1, h2, h3, h4, h5, h6, h7, h8, h9, -⟩ := h
  show (Cond.laysStatic C n d).holds args s none s [] = true
  exact Cond.laysStatic_of h1 h2 h3 h4 h5 h6 h7 h8 h9
/-- .. and what it holds: null or some reference -/
def vx_Zq (C n d : String) (A : Nat → Prop) (U : State) (H : Heap) : Prop := va_Zq C n d A U H ∧ vx_L C n d A U H
theorem vx_Zq.moved {C n d : String} {A : Nat → Prop} {u U : State} {H : Heap} (hvm : u.vm.Alike U.vm) (h : vx_Zq C n d A u H) : vx_Zq C n d A U H := ⟨va_Zq.moved hvm h.1, vx_L.moved hvm h.2⟩
theorem vx_Zq.kept {C n d : String} {A : Nat → Prop} {U : State} {H H1 : Heap} (h : vx_Zq C n d A U H) (hq : ∀ a : Nat, a < H.size → ¬ A a → H1[a]? = H[a]?) : vx_Zq C n d A U H1 := ⟨va_Zq.kept h.1 hq, vx_L.kept h.2 hq⟩
theorem vx_Zq.narrow {C n d : String} {A B : Nat → Prop} {U : State} {H : Heap} (h : vx_Zq C n d A U H) (hAB : ∀ q, B q → A q) : vx_Zq C n d B U H := ⟨va_Zq.narrow h.1 hAB, vx_L.narrow h.2 hAB⟩
theorem vx_Zqof {args : Array Value} {s : State} {C n d : String} {A : Nat → Prop} (hl : (Cond.laysStatic C n d).before args s = true) (hini : (Cond.initialized C).before args s = true) (h : (Cond.isRef (.static C n d)).before args s = true) (hA : ∀ a : Nat, a < s.heap.size → ¬ A a) : vx_Zq C n d A s s.heap := by
  refine ⟨va_Zqof hl hini h hA, ?_⟩
  obtain ⟨c, k, i, f, a, cell, h1, h2, h3, h4, h5, h6, h7, h8, h9⟩ := Cond.laysStatic_spec hl
  exact ⟨c, k, i, f, a, cell, h1, h2, h3, h4, h5, h6, h7, h8, h9, hA a (Array.getElem?_eq_some_iff.mp h5).1⟩
theorem vx_isRef {C n d : String} {v : Value} {A : Nat → Prop} {s : State} {args : Array Value} (h : va_Z C n d v A s s.heap) (hv : v.isRef = true) : (Cond.isRef (.static C n d)).before args s = true := by
  obtain ⟨cf, kf, fi, f, a, cell, h1, h2, h3, h4, h5, h6, h7, -⟩ := h
  have he : (Term.static C n d).eval args s none [] s = some v := by
    simp [Term.eval, State.fieldNamed?, h1, h2, h4, h5, h6, h7]
  simp only [Cond.before, Cond.holds, Cond.value, he]
  cases v <;> simp_all [Value.isRef]
theorem vx_isRefq {C n d : String} {A : Nat → Prop} {s : State} {args : Array Value} (h : va_Zq C n d A s s.heap) : (Cond.isRef (.static C n d)).before args s = true := by
  rcases h with h | ⟨t, h⟩
  · exact vx_isRef h rfl
  · exact vx_isRef h rfl
/-- the same frame, seen from here: as if the method were called anew in this heap -/
theorem vx_rebase {T : State} (X : Stand p l e R s m args below meth c T locs cells slots) {R' : Room} (hf : R'.frames ≤ R.frames) (hl : R'.locals ≤ R.locals) (hc : cells + R'.cells ≤ R.cells) (hs : slots + R'.slots ≤ R.slots) :
    Stand p l e R' ((T.setVm s.vm).setFrames (.invoking m args :: below)) m args below meth c T [] 0 0 := by
  have htop : (T.setVm s.vm).topJava?.isSome := X.here.top
  have hF : ((T.setVm s.vm).setFrames (.invoking m args :: below)).frames = .invoking m args :: below := State.frames_setFrames _ (State.cur_lt_of_top htop)
  obtain ⟨g₀, hg0⟩ := Option.isSome_iff_exists.mp htop
  obtain ⟨r, hr⟩ := State.topJava?_eq_some.mp hg0
  have hl9 : e.platform.stackLimits (T.setVm s.vm).me = e.platform.stackLimits s.me := X.limits
  have hb9 : (T.setVm s.vm).me.stackBytes = s.me.stackBytes := X.bytes
  refine ⟨X.admits, X.cas, X.clock, hF, ?_, X.hears, X.method, X.code, X.here, X.tail, X.warmed, ?_, ?_, ?_⟩
  · have h := X.room
    have hU : ((T.setVm s.vm).setFrames (.invoking m args :: below)).localsInUse = s.localsInUse := by
      rw [State.localsInUse_invoking hF (meth := meth) (c := c) X.method X.code, State.localsInUse_invoking X.frames X.method X.code]
    simp only [State.hasRoom, Bool.and_eq_true, decide_eq_true_eq] at h ⊢
    obtain ⟨⟨⟨⟨h1, h2, h3, h4, h5, h6⟩, h7⟩, h8⟩, h9⟩ := h
    rw [X.frames, List.length_cons] at h2 h3
    have q1 := X.heapSize
    have q2 := X.used
    simp only [hF, hU, List.length_cons, State.stackLimits_setFrames, State.stackBytes_setFrames, hl9, hb9]
    refine ⟨⟨⟨⟨by omega, by omega, by omega, by omega, by omega, h6⟩, ?_⟩, ?_⟩, X.book⟩
    · show T.heap.size + R'.cells ≤ e.platform.maxCells
      omega
    · show T.slotsUsed + R'.slots ≤ e.platform.maxSlots
      omega
  · rw [State.stackLimits_setFrames]; rfl
  · rw [State.stackBytes_setFrames]; rfl
  · refine ⟨?_, Nat.le_refl _, Nat.le_refl _, ?_, ?_, fun a c9 h9 => ⟨c9, h9, rfl, rfl, fun _ _ => rfl⟩⟩
    · obtain ⟨t, ht, -⟩ := State.frames_cons hr
      show T.setVm s.vm = { ((T.setVm s.vm).setFrames (.invoking m args :: below)).setFrames (T.setVm s.vm).frames with heap := T.heap, slotsUsed := T.slotsUsed }
      rw [State.setFrames_setFrames, State.setFrames_self ht]
      rfl
    · show T.slotsUsed = T.slotsUsed + ((T.heap.toList.drop T.heap.size).map (·.slots.size)).sum
      rw [List.drop_eq_nil_of_le (Nat.le_of_eq Array.length_toList)]
      rfl
    · show ((T.heap.toList.drop T.heap.size).map (·.slots.size)).sum ≤ 0
      rw [List.drop_eq_nil_of_le (Nat.le_of_eq Array.length_toList)]
      exact Nat.le_refl _
/-- 'throw new E()': new; dup; invokespecial; athrow -/
theorem vx_throw0 {cc : ByteArray} {pc : Nat} (hexec : p.tables.exec = Jvm.exec) (hb : c.code = cc) (hl : l.stackTraces = false) {own cls : String} {names : List String} {ik ic mc ms : Nat} {A : Nat → Prop}
    (hown : s.vm.findClass own = some m.cls) (hcls : Bundle.fit cls = true) (hnames : ∀ n ∈ names, Bundle.fit n = true)
    (hk : (Cond.classLink own ik cls).before args s = true) (hini : (Cond.initialized cls).before args s = true) (hat : ∀ w ∈ vx_at0 own ic cls names, w.before args s = true)
    (hgood : ∀ w ∈ Cond.classLink own ik cls :: Cond.initialized cls :: vx_at0 own ic cls names, vx_ot w = true)
    (hU : vx_Zq Bundle.tN "UNASSIGNED_STACK" Bundle.steD A s s.heap) (hN : vx_Zq Bundle.tN "SUPPRESSED_SENTINEL" Bundle.listD A s s.heap) (hS : va_S A s.heap H locs) (hsize : ls.size = c.maxLocals)
    (d0 : decode cc pc = .ok (.new ik, 3)) (d3 : decode cc (pc + 3) = .ok (.dup, 1)) (d4 : decode cc (pc + 4) = .ok (.invokespecial ic, 3)) (d7 : decode cc (pc + 7) = .ok (.athrow, 1))
    (hout : ∀ x ∈ c.exceptionTable.toList, covers x (pc + 7) = false)
    (hRframes : names.length + 3 < R.frames) (hRlocals : (rest.map fun v => v.category).sum + (13 * (names.length + 1) + 42) ≤ R.locals) (hRcells : cells + 1 ≤ R.cells) (hRslots : slots + 6 ≤ R.slots) (hlocks : meth.locks = false)
    (hx : ∀ t : State, s.vm.Alike t.vm → H.size ≤ t.heap.size → (∀ q : Nat, q < H.size → t.heap[q]? = H[q]?) → XC cls s t)
    (hf : ∀ z ∈ locs, free z.base) (hc : cells + 1 ≤ mc) (hs : slots + 6 ≤ ms) :
    W p l e R s m args below meth c H locs cells slots (vx_MQ below Qc XC args s mc ms free) (F0 m pc ls rest) := by
  intro T hT X
  have htr : e.platform.stackTraces = false := (show e.platform.stackTraces = l.stackTraces by rw [X.admits.platform]).trans hl
  have Y := vx_rebase X (R' := { frames := R.frames, locals := R.locals, cells := 1, slots := 6 }) (Nat.le_refl _) (Nat.le_refl _) hRcells hRslots
  obtain ⟨s', hA⟩ : ∃ z, z = (T.setVm s.vm).setFrames (.invoking m args :: below) := ⟨_, rfl⟩
  rw [← hA] at Y
  have hvm : s'.vm = s.vm := by rw [hA]; rfl
  have hhp : s'.heap = H := by rw [hA]; exact hT
  have hW0 : s.WarmedH s'.vm := by rw [hvm]; exact State.WarmedH.refl s
  have hat' : ∀ w ∈ vx_at0 own ic cls names, w.before args s' = true := fun w hw => vx_ot_at hW0 hvm.symm (hgood w (List.mem_cons_of_mem _ (List.mem_cons_of_mem _ hw))) (hat w hw)
  have hk' : (Cond.classLink own ik cls).before args s' = true := vx_ot_at hW0 hvm.symm (hgood _ List.mem_cons_self) hk
  have hini' : (Cond.initialized cls).before args s' = true := vx_ot_at hW0 hvm.symm (hgood _ (List.mem_cons_of_mem _ List.mem_cons_self)) hini
  have hU' : vx_Zq Bundle.tN "UNASSIGNED_STACK" Bundle.steD A s' s'.heap := by rw [hhp]; exact vx_Zq.moved hW0.alike (hU.kept hS.2.1)
  have hN' : vx_Zq Bundle.tN "SUPPRESSED_SENTINEL" Bundle.listD A s' s'.heap := by rw [hhp]; exact vx_Zq.moved hW0.alike (hN.kept hS.2.1)
  have h : ∀ w ∈ Bundle.ownAtoms0 own ic cls names, w.before args s' = true := vx_own hat' (vx_isRefq hU'.1) (vx_isRefq hN'.1) hU'.2.word hN'.2.word
  have hown' : s'.vm.findClass own = some m.cls := by rw [hvm]; exact hown
  have hins : (Cond.instantiable cls 6).before args s' = true := h _ (by simp [Bundle.ownAtoms0])
  obtain ⟨vm₁, cX, kX, hfX, hkX, -, -, X₁, st1⟩ := Y.newCold hexec (own := own) (C := cls) (index := ik) (n := 6) hown' hk' hins hini'
    (g := F0 m pc ls rest) rfl (by rw [hb]; exact d0) (Nat.le_refl _) (Nat.le_refl _)
  generalize hT1 : (T.setVm vm₁).pushCell { cls := cX, slots := kX.instanceTypes.map defaultValue, vm := .none } = T1 at X₁ st1
  have hcat : (Value.ref T.heap.size).category = 1 := rfl
  have hcellA : T1.heap[T.heap.size]? = some (freshCell cX kX) := by rw [← hT1]; exact State.heap_pushCell_size _ _
  have d3' : decode c.code (pc + 3) = .ok (.dup, 1) := by rw [hb]; exact d3
  obtain ⟨U, hsteps, hrun, hend, hW, hsame, ce, hce, hO⟩ := X₁.ctorThrow0 hexec htr (own := own) (cls := cls) (names := names) (ic := ic) hown' hcls hnames h (fun x hx => nomatch hx) hfX hkX hcellA (by rw [hhp, hT]; exact Nat.le_refl _)
    (g := { method := m, pc := pc + 4, locals := ls, stack := .ref T.heap.size :: .ref T.heap.size :: rest, locked := none }) rfl hsize rfl rfl (rest := rest) rfl
    (by rw [hb]; exact d4) (by rw [hb]; exact d7) hout hRframes (by simp only [List.map_cons, List.sum_cons, hcat]; omega) hlocks
  obtain ⟨f1, f2⟩ := vx_frame hsame
  rw [hhp] at f1 f2
  have hWs : s.WarmedH U.vm := State.WarmedH.trans hW0 hW
  have hcl : s.vm.findClass cls = some ce.cls := by
    have h9 := hO.cls
    rw [hvm] at h9
    exact h9
  have hall : s.sameButNew ({ U with vm := s.vm } : State) locs mc ms := by
    subst hA
    obtain ⟨e1, e2⟩ := hsame
    rw [State.setFrames_setFrames] at e1
    have h2 : (T.setVm s.vm).sameButNew ({ U with vm := s.vm } : State) [] (0 + 1) (0 + 6) := ⟨e1, e2⟩
    have h3 := X.same.trans h2
    rw [List.append_nil] at h3
    exact h3.mono hc hs
  refine ⟨U, ?_, .threw T.heap.size, hrun, hend, Or.inr ⟨T.heap.size, rfl, cls, ce, locs, hx U hWs.alike f1 (fun q hq => f2 q hq (fun z hz => nomatch hz)), hce, hO.vm, hcl, hWs, hall, hf⟩⟩
  refine st1 _ ?_
  show Steps p.tables e below (T1.setTop { method := m, pc := pc + 3, locals := ls, stack := .ref T.heap.size :: rest, locked := none }) _
  jvm_step X₁.here [X₁.here.top, hexec, d3', Value.category]
  exact hsteps
/-- 'throw new E("text")': new; dup; ldc; invokespecial; athrow -/
theorem vx_throwS {cc : ByteArray} {pc : Nat} (hexec : p.tables.exec = Jvm.exec) (hb : c.code = cc) (hl : l.stackTraces = false) {own cls text : String} {names : List String} {ik is ic mc ms sa : Nat} {A : Nat → Prop}
    (hown : s.vm.findClass own = some m.cls) (hcls : Bundle.fit cls = true) (hnames : ∀ n ∈ names, Bundle.fit n = true)
    (hk : (Cond.classLink own ik cls).before args s = true) (hini : (Cond.initialized cls).before args s = true) (hstr : vk_R own is text sa s) (hat : ∀ w ∈ vx_atS own ic cls names, w.before args s = true)
    (hgood : ∀ w ∈ Cond.classLink own ik cls :: Cond.initialized cls :: vx_atS own ic cls names, vx_ot w = true)
    (hU : vx_Zq Bundle.tN "UNASSIGNED_STACK" Bundle.steD A s s.heap) (hN : vx_Zq Bundle.tN "SUPPRESSED_SENTINEL" Bundle.listD A s s.heap) (hS : va_S A s.heap H locs) (hsize : ls.size = c.maxLocals)
    (d0 : decode cc pc = .ok (.new ik, 3)) (d3 : decode cc (pc + 3) = .ok (.dup, 1)) (d4 : decode cc (pc + 4) = .ok (.ldc is, 2)) (d6 : decode cc (pc + 6) = .ok (.invokespecial ic, 3)) (d9 : decode cc (pc + 9) = .ok (.athrow, 1))
    (hout : ∀ x ∈ c.exceptionTable.toList, covers x (pc + 9) = false)
    (hRframes : names.length + 3 < R.frames) (hRlocals : (rest.map fun v => v.category).sum + (13 * (names.length + 1) + 43) ≤ R.locals) (hRcells : cells + 1 ≤ R.cells) (hRslots : slots + 6 ≤ R.slots) (hlocks : meth.locks = false)
    (hx : ∀ t : State, s.vm.Alike t.vm → H.size ≤ t.heap.size → (∀ q : Nat, q < H.size → t.heap[q]? = H[q]?) → XC cls s t)
    (hf : ∀ z ∈ locs, free z.base) (hc : cells + 1 ≤ mc) (hs : slots + 6 ≤ ms) :
    W p l e R s m args below meth c H locs cells slots (vx_MQ below Qc XC args s mc ms free) (F0 m pc ls rest) := by
  intro T hT X
  have htr : e.platform.stackTraces = false := (show e.platform.stackTraces = l.stackTraces by rw [X.admits.platform]).trans hl
  have Y := vx_rebase X (R' := { frames := R.frames, locals := R.locals, cells := 1, slots := 6 }) (Nat.le_refl _) (Nat.le_refl _) hRcells hRslots
  obtain ⟨s', hA⟩ : ∃ z, z = (T.setVm s.vm).setFrames (.invoking m args :: below) := ⟨_, rfl⟩
  rw [← hA] at Y
  have hvm : s'.vm = s.vm := by rw [hA]; rfl
  have hhp : s'.heap = H := by rw [hA]; exact hT
  have hW0 : s.WarmedH s'.vm := by rw [hvm]; exact State.WarmedH.refl s
  have hat' : ∀ w ∈ vx_atS own ic cls names, w.before args s' = true := fun w hw => vx_ot_at hW0 hvm.symm (hgood w (List.mem_cons_of_mem _ (List.mem_cons_of_mem _ hw))) (hat w hw)
  have hk' : (Cond.classLink own ik cls).before args s' = true := vx_ot_at hW0 hvm.symm (hgood _ List.mem_cons_self) hk
  have hini' : (Cond.initialized cls).before args s' = true := vx_ot_at hW0 hvm.symm (hgood _ (List.mem_cons_of_mem _ List.mem_cons_self)) hini
  have hU' : vx_Zq Bundle.tN "UNASSIGNED_STACK" Bundle.steD A s' s'.heap := by rw [hhp]; exact vx_Zq.moved hW0.alike (hU.kept hS.2.1)
  have hN' : vx_Zq Bundle.tN "SUPPRESSED_SENTINEL" Bundle.listD A s' s'.heap := by rw [hhp]; exact vx_Zq.moved hW0.alike (hN.kept hS.2.1)
  have h : ∀ w ∈ Bundle.ownAtoms own ic cls names, w.before args s' = true := vx_own hat' (vx_isRefq hU'.1) (vx_isRefq hN'.1) hU'.2.word hN'.2.word
  have hown' : s'.vm.findClass own = some m.cls := by rw [hvm]; exact hown
  have hins : (Cond.instantiable cls 6).before args s' = true := h _ (by simp [Bundle.ownAtoms])
  obtain ⟨vm₁, cX, kX, hfX, hkX, -, -, X₁, st1⟩ := Y.newCold hexec (own := own) (C := cls) (index := ik) (n := 6) hown' hk' hins hini'
    (g := F0 m pc ls rest) rfl (by rw [hb]; exact d0) (Nat.le_refl _) (Nat.le_refl _)
  generalize hT1 : (T.setVm vm₁).pushCell { cls := cX, slots := kX.instanceTypes.map defaultValue, vm := .none } = T1 at X₁ st1
  have hcat : (Value.ref T.heap.size).category = 1 := rfl
  have hcellA : T1.heap[T.heap.size]? = some (freshCell cX kX) := by rw [← hT1]; exact State.heap_pushCell_size _ _
  have d3' : decode c.code (pc + 3) = .ok (.dup, 1) := by rw [hb]; exact d3
  have d4' : decode c.code (pc + 4) = .ok (.ldc is, 2) := by rw [hb]; exact d4
  have hstr' : vk_R own is text sa s' := vk_R.warm hW0 hstr
  obtain ⟨U, hsteps, hrun, hend, hW, hsame, ce, hce, hO⟩ := X₁.ctorThrowS hexec htr (own := own) (cls := cls) (names := names) (ic := ic) hown' hcls hnames h (fun x hx => nomatch hx) hfX hkX hcellA (by rw [hhp, hT]; exact Nat.le_refl _) (msg := .ref sa) rfl
    (g := { method := m, pc := pc + 6, locals := ls, stack := .ref sa :: .ref T.heap.size :: .ref T.heap.size :: rest, locked := none }) rfl hsize rfl rfl (rest := rest) rfl
    (by rw [hb]; exact d6) (by rw [hb]; exact d9) hout hRframes (by simp only [List.map_cons, List.sum_cons, hcat]; omega) hlocks
  obtain ⟨f1, f2⟩ := vx_frame hsame
  rw [hhp] at f1 f2
  have hWs : s.WarmedH U.vm := State.WarmedH.trans hW0 hW
  have hcl : s.vm.findClass cls = some ce.cls := by
    have h9 := hO.cls
    rw [hvm] at h9
    exact h9
  have hall : s.sameButNew ({ U with vm := s.vm } : State) locs mc ms := by
    subst hA
    obtain ⟨e1, e2⟩ := hsame
    rw [State.setFrames_setFrames] at e1
    have h2 : (T.setVm s.vm).sameButNew ({ U with vm := s.vm } : State) [] (0 + 1) (0 + 6) := ⟨e1, e2⟩
    have h3 := X.same.trans h2
    rw [List.append_nil] at h3
    exact h3.mono hc hs
  refine ⟨U, ?_, .threw T.heap.size, hrun, hend, Or.inr ⟨T.heap.size, rfl, cls, ce, locs, hx U hWs.alike f1 (fun q hq => f2 q hq (fun z hz => nomatch hz)), hce, hO.vm, hcl, hWs, hall, hf⟩⟩
  refine st1 _ ?_
  show Steps p.tables e below (T1.setTop { method := m, pc := pc + 3, locals := ls, stack := .ref T.heap.size :: rest, locked := none }) _
  jvm_step X₁.here [X₁.here.top, hexec, d3', Value.category]
  exact X₁.ldcString hexec (own := own) (text := text) (index := is) (a := sa) hown' hstr'.1 hstr'.2
    (g := { method := m, pc := pc + 4, locals := ls, stack := .ref T.heap.size :: .ref T.heap.size :: rest, locked := none }) rfl d4' _ hsteps
/-- 'throw new E("text")', the text by a wide index -/
theorem vx_throwSW {cc : ByteArray} {pc : Nat} (hexec : p.tables.exec = Jvm.exec) (hb : c.code = cc) (hl : l.stackTraces = false) {own cls text : String} {names : List String} {ik is ic mc ms sa : Nat} {A : Nat → Prop}
    (hown : s.vm.findClass own = some m.cls) (hcls : Bundle.fit cls = true) (hnames : ∀ n ∈ names, Bundle.fit n = true)
    (hk : (Cond.classLink own ik cls).before args s = true) (hini : (Cond.initialized cls).before args s = true) (hstr : vk_R own is text sa s) (hat : ∀ w ∈ vx_atS own ic cls names, w.before args s = true)
    (hgood : ∀ w ∈ Cond.classLink own ik cls :: Cond.initialized cls :: vx_atS own ic cls names, vx_ot w = true)
    (hU : vx_Zq Bundle.tN "UNASSIGNED_STACK" Bundle.steD A s s.heap) (hN : vx_Zq Bundle.tN "SUPPRESSED_SENTINEL" Bundle.listD A s s.heap) (hS : va_S A s.heap H locs) (hsize : ls.size = c.maxLocals)
    (d0 : decode cc pc = .ok (.new ik, 3)) (d3 : decode cc (pc + 3) = .ok (.dup, 1)) (d4 : decode cc (pc + 4) = .ok (.ldc_w is, 3)) (d7 : decode cc (pc + 7) = .ok (.invokespecial ic, 3)) (d10 : decode cc (pc + 10) = .ok (.athrow, 1))
    (hout : ∀ x ∈ c.exceptionTable.toList, covers x (pc + 10) = false)
    (hRframes : names.length + 3 < R.frames) (hRlocals : (rest.map fun v => v.category).sum + (13 * (names.length + 1) + 43) ≤ R.locals) (hRcells : cells + 1 ≤ R.cells) (hRslots : slots + 6 ≤ R.slots) (hlocks : meth.locks = false)
    (hx : ∀ t : State, s.vm.Alike t.vm → H.size ≤ t.heap.size → (∀ q : Nat, q < H.size → t.heap[q]? = H[q]?) → XC cls s t)
    (hf : ∀ z ∈ locs, free z.base) (hc : cells + 1 ≤ mc) (hs : slots + 6 ≤ ms) :
    W p l e R s m args below meth c H locs cells slots (vx_MQ below Qc XC args s mc ms free) (F0 m pc ls rest) := by
  intro T hT X
  have htr : e.platform.stackTraces = false := (show e.platform.stackTraces = l.stackTraces by rw [X.admits.platform]).trans hl
  have Y := vx_rebase X (R' := { frames := R.frames, locals := R.locals, cells := 1, slots := 6 }) (Nat.le_refl _) (Nat.le_refl _) hRcells hRslots
  obtain ⟨s', hA⟩ : ∃ z, z = (T.setVm s.vm).setFrames (.invoking m args :: below) := ⟨_, rfl⟩
  rw [← hA] at Y
  have hvm : s'.vm = s.vm := by rw [hA]; rfl
  have hhp : s'.heap = H := by rw [hA]; exact hT
  have hW0 : s.WarmedH s'.vm := by rw [hvm]; exact State.WarmedH.refl s
  have hat' : ∀ w ∈ vx_atS own ic cls names, w.before args s' = true := fun w hw => vx_ot_at hW0 hvm.symm (hgood w (List.mem_cons_of_mem _ (List.mem_cons_of_mem _ hw))) (hat w hw)
  have hk' : (Cond.classLink own ik cls).before args s' = true := vx_ot_at hW0 hvm.symm (hgood _ List.mem_cons_self) hk
  have hini' : (Cond.initialized cls).before args s' = true := vx_ot_at hW0 hvm.symm (hgood _ (List.mem_cons_of_mem _ List.mem_cons_self)) hini
  have hU' : vx_Zq Bundle.tN "UNASSIGNED_STACK" Bundle.steD A s' s'.heap := by rw [hhp]; exact vx_Zq.moved hW0.alike (hU.kept hS.2.1)
  have hN' : vx_Zq Bundle.tN "SUPPRESSED_SENTINEL" Bundle.listD A s' s'.heap := by rw [hhp]; exact vx_Zq.moved hW0.alike (hN.kept hS.2.1)
  have h : ∀ w ∈ Bundle.ownAtoms own ic cls names, w.before args s' = true := vx_own hat' (vx_isRefq hU'.1) (vx_isRefq hN'.1) hU'.2.word hN'.2.word
  have hown' : s'.vm.findClass own = some m.cls := by rw [hvm]; exact hown
  have hins : (Cond.instantiable cls 6).before args s' = true := h _ (by simp [Bundle.ownAtoms])
  obtain ⟨vm₁, cX, kX, hfX, hkX, -, -, X₁, st1⟩ := Y.newCold hexec (own := own) (C := cls) (index := ik) (n := 6) hown' hk' hins hini'
    (g := F0 m pc ls rest) rfl (by rw [hb]; exact d0) (Nat.le_refl _) (Nat.le_refl _)
  generalize hT1 : (T.setVm vm₁).pushCell { cls := cX, slots := kX.instanceTypes.map defaultValue, vm := .none } = T1 at X₁ st1
  have hcat : (Value.ref T.heap.size).category = 1 := rfl
  have hcellA : T1.heap[T.heap.size]? = some (freshCell cX kX) := by rw [← hT1]; exact State.heap_pushCell_size _ _
  have d3' : decode c.code (pc + 3) = .ok (.dup, 1) := by rw [hb]; exact d3
  have d4' : decode c.code (pc + 4) = .ok (.ldc_w is, 3) := by rw [hb]; exact d4
  have hstr' : vk_R own is text sa s' := vk_R.warm hW0 hstr
  obtain ⟨U, hsteps, hrun, hend, hW, hsame, ce, hce, hO⟩ := X₁.ctorThrowS hexec htr (own := own) (cls := cls) (names := names) (ic := ic) hown' hcls hnames h (fun x hx => nomatch hx) hfX hkX hcellA (by rw [hhp, hT]; exact Nat.le_refl _) (msg := .ref sa) rfl
    (g := { method := m, pc := pc + 7, locals := ls, stack := .ref sa :: .ref T.heap.size :: .ref T.heap.size :: rest, locked := none }) rfl hsize rfl rfl (rest := rest) rfl
    (by rw [hb]; exact d7) (by rw [hb]; exact d10) hout hRframes (by simp only [List.map_cons, List.sum_cons, hcat]; omega) hlocks
  obtain ⟨f1, f2⟩ := vx_frame hsame
  rw [hhp] at f1 f2
  have hWs : s.WarmedH U.vm := State.WarmedH.trans hW0 hW
  have hcl : s.vm.findClass cls = some ce.cls := by
    have h9 := hO.cls
    rw [hvm] at h9
    exact h9
  have hall : s.sameButNew ({ U with vm := s.vm } : State) locs mc ms := by
    subst hA
    obtain ⟨e1, e2⟩ := hsame
    rw [State.setFrames_setFrames] at e1
    have h2 : (T.setVm s.vm).sameButNew ({ U with vm := s.vm } : State) [] (0 + 1) (0 + 6) := ⟨e1, e2⟩
    have h3 := X.same.trans h2
    rw [List.append_nil] at h3
    exact h3.mono hc hs
  refine ⟨U, ?_, .threw T.heap.size, hrun, hend, Or.inr ⟨T.heap.size, rfl, cls, ce, locs, hx U hWs.alike f1 (fun q hq => f2 q hq (fun z hz => nomatch hz)), hce, hO.vm, hcl, hWs, hall, hf⟩⟩
  refine st1 _ ?_
  show Steps p.tables e below (T1.setTop { method := m, pc := pc + 3, locals := ls, stack := .ref T.heap.size :: rest, locked := none }) _
  jvm_step X₁.here [X₁.here.top, hexec, d3', Value.category]
  exact X₁.ldcStringW hexec (own := own) (text := text) (index := is) (a := sa) hown' hstr'.1 hstr'.2
    (g := { method := m, pc := pc + 4, locals := ls, stack := .ref T.heap.size :: .ref T.heap.size :: rest, locked := none }) rfl d4' _ hsteps
end Ends
section Bodies
variable {l : Launch}
theorem vx_ofW {y : MethodName} {ws ws' : List Cond} {rm : Room} {Pc : Array Value → State → Prop} {Qc : Array Value → State → Outcome → State → Prop} {XC : String → State → State → Prop} {mc ms : Nat} {free : Addr → Prop} {cc : ByteArray} {maxL : Nat} {ret : Option FieldType}
    (hy : plainName y.cls = true) (hw : ws = Cond.code y cc maxL ret :: ws')
    (body : ∀ p e s m args below meth c s₁, BodyLoose p l y (headSpec ws rm) cc maxL ret e s m args below meth c s₁ → c.maxLocals = maxL → (∀ x ∈ c.exceptionTable.toList, False) → Pc args s →
      W p l e (headSpec ws rm).room s m args below meth c s.heap [] 0 0 (vx_MQ below Qc XC args s mc ms free) (entryFrame m args maxL)) : vx_Met l y ws rm Pc Qc XC mc ms free := by
  refine MetFree.of_bodyS (code := cc) (maxLocals := maxL) (ret := ret) hy ?_ ?_
  · intro args s m h hn
    obtain ⟨meth, c, h1, h2, h3, h4, h5, h6, -, -⟩ := Cond.code_spec hn (atoms_spec (ws := ws) h _ (by rw [hw]; exact List.mem_cons_self))
    exact ⟨meth, c, h1, h2, h3, h4, h5, h6⟩
  · intro p e s m args below meth c s₁ B hml hP _
    have hh0 : s₁.heap = s.heap := by rw [B.state]; rfl
    have ht : ∀ x ∈ c.exceptionTable.toList, False := by
      obtain ⟨meth9, c9, h1, h2, -, -, -, -, h7, -⟩ := Cond.code_spec B.named (atoms_spec (ws := ws) B.pre _ (by rw [hw]; exact List.mem_cons_self))
      cases Option.some.inj (h1.symm.trans B.method)
      cases Option.some.inj (h2.symm.trans (Stand.of_body B).code)
      intro x hx
      rw [Array.isEmpty_iff.mp h7] at hx
      cases hx
    obtain ⟨t, a1, o, b1, b2, b3⟩ := body p e s m args below meth c s₁ B hml ht hP s₁ hh0 (Stand.of_body B)
    exact ⟨t, o, a1, b1, b2, b3⟩
/-- the table of a body with handlers -/
theorem vx_table {p : Program} {x y : MethodName} {S : Spec} {cc bytes : ByteArray} {maxL maxL' : Nat} {ret ret' : Option FieldType} {e : Env} {s s₁ : State} {m : MethodId} {args : Array Value} {below : List Frame} {meth : Method} {c : Code} {hh : List (Nat × Nat × Nat × Nat)}
    (B : BodyLoose p l y S cc maxL ret e s m args below meth c s₁) (h : (Cond.codeWith y bytes maxL' ret' hh).before args s = true) : c.exceptionTable.toList = tableOf hh := by
  obtain ⟨m9, meth9, c9, hn9, h1, h2, -, -, h6, -⟩ := Cond.codeWith_spec h
  cases Option.some.inj (hn9.symm.trans B.named)
  cases Option.some.inj (h1.symm.trans B.method)
  cases Option.some.inj (h2.symm.trans (Stand.of_body B).code)
  rw [← h6, table_eq]
end Bodies
end VXA
/-! ===== END ===== -/
/-! ===== BEGIN a static call of a method with an exception table ===== -/
section VXS
variable {p : Program} {l : Launch} {e : Env} {R : Room} {s : State} {m : MethodId} {args : Array Value} {below : List Frame} {meth : Method} {c : Code} {T : State} {H : Heap} {locs : List Loc} {cells slots : Nat}
abbrev vx_CSW (R : Room) (s : State) (args : Array Value) (own : String) (index : Nat) (y : MethodName) (bytes : ByteArray) (maxL : Nat) (ret : Option FieldType) (hh : List (Nat × Nat × Nat × Nat)) (ws : List Cond) (rm : Room) (mc ms n : Nat) : Prop :=
  (rm.cells = mc ∧ rm.slots = ms ∧ rm.frames + 1 ≤ R.frames ∧ 8 + (maxL + 11) + rm.locals ≤ R.locals ∧ (∀ w ∈ ws, ∀ (a' : Array Value) (U : State), s.WarmedH U.vm → w.before a' U = true) ∧ Cond.codeWith y bytes maxL ret hh ∈ ws) ∧
  (Cond.codeWith y bytes maxL ret hh).before args s = true ∧ (Cond.initialized y.cls).before args s = true ∧ (y.cls ≠ "java/lang/invoke/MethodHandle" ∧ y.cls ≠ "java/lang/invoke/VarHandle") ∧
  (∀ sig, parseMethodDescriptor y.desc = some sig → n = sig.parameters.length) ∧ (Cond.methodLink own index y).before args s = true ∧ (Cond.static y).before args s = true
theorem vx_cwSW {own : String} {index maxL mc ms : Nat} {y : MethodName} {bytes : ByteArray} {ret : Option FieldType} {hh : List (Nat × Nat × Nat × Nat)} {Ts ws ws' : List Cond} {rm : Room} (n : Nat) (ht : ∀ w ∈ Ts, w.before args s = true) (hT : GoodIn Ts (va_wsS own index y ws)) (hw : ws = Cond.codeWith y bytes maxL ret hh :: ws') (hrc : rm.cells = mc) (hrs : rm.slots = ms)
    (hd : y.cls ≠ "java/lang/invoke/MethodHandle" ∧ y.cls ≠ "java/lang/invoke/VarHandle" ∧ (parseMethodDescriptor y.desc).map (fun d => d.parameters.length) = some n) (hR : rm.frames + 1 ≤ R.frames ∧ 8 + (maxL + 11) + rm.locals ≤ R.locals) :
    vx_CSW R s args own index y bytes maxL ret hh ws rm mc ms n := by
  have ok : ∀ w ∈ va_wsS own index y ws, w.before args s = true := fun w h => ht w (hT w h).1
  have hG : GoodIn Ts ws := fun w h => hT w (by unfold va_wsS; exact List.mem_append_right _ h)
  have hc : Cond.codeWith y bytes maxL ret hh ∈ ws := by rw [hw]; exact List.mem_cons_self
  refine ⟨⟨hrc, hrs, hR.1, hR.2, pay_in ht hG, hc⟩, ht _ (hG _ hc).1, ok _ (by simp [va_wsS]), ⟨hd.1, hd.2.1⟩, fun sig h => ?_, ok _ (by simp [va_wsS]), ok _ (by simp [va_wsS])⟩
  have h2 := hd.2.2
  rw [h] at h2
  exact (Option.some.inj h2).symm
theorem vx_callSW (X : Stand p l e R s m args below meth c T locs cells slots) (hexec : p.tables.exec = Jvm.exec) {own : String} {index : Nat} {y : MethodName} {bytes : ByteArray} {maxL : Nat} {ret : Option FieldType} {hh : List (Nat × Nat × Nat × Nat)}
    (hown : s.vm.findClass own = some m.cls) (hlink : (Cond.methodLink own index y).before args s = true) (hstat : (Cond.static y).before args s = true) (hinit : (Cond.initialized y.cls).before args s = true)
    (hcode : (Cond.codeWith y bytes maxL ret hh).before args s = true) (hy : y.cls ≠ "java/lang/invoke/MethodHandle" ∧ y.cls ≠ "java/lang/invoke/VarHandle")
    {W9 : Nat} {Pre : Pt → Array Value → Prop} {Post : Pt → Array Value → Option Value → Pt → Prop} (hK : Back l R p e below s args y 3 W9 Pre Post)
    {g : JFrame} (hg : g.method = m) (hsize : g.locals.size = c.maxLocals) {argsL rest : List Value} (hlen : ∀ sig, parseMethodDescriptor y.desc = some sig → argsL.length = sig.parameters.length)
    (hstack : g.stack = argsL.reverse ++ rest) (hW : 2 * g.monitorRoom + (rest.map fun v => v.category).sum ≤ W9) (hdg : decode c.code g.pc = .ok (.invokestatic index, 3))
    (hpre : ∀ vm₁, s.WarmedH vm₁ → Pre ⟨T.setVm vm₁, locs, cells, slots⟩ argsL.toArray) :
    ∃ (v : Option Value) (vm₁ : Vm) (B : Pt), s.WarmedH vm₁ ∧ Stand p l e R s m args below meth c B.U B.locs B.cells B.slots ∧ Post ⟨T.setVm vm₁, locs, cells, slots⟩ argsL.toArray v B ∧
      ∀ target, Steps p.tables e below (B.U.setTop { g with pc := g.pc + 3, stack := v.toList ++ rest }) target → Steps p.tables e below (T.setTop g) target := by
  obtain ⟨mk, methM, cM, hnamed, hmethM, -, -, -, -, -, -, hsigM⟩ := Cond.codeWith_spec hcode
  have hstatic : methM.isStatic = true := Cond.static_spec hnamed hmethM hstat
  obtain ⟨kP, hkP, -⟩ := className_of_methodNamed hnamed
  have hinitP : kP.init = .initialized := Cond.initialized_spec (findClass_of_methodNamed hnamed) hkP hinit
  obtain ⟨vm₁, X₁, hstep₁⟩ := X.invokestatic hexec hown hlink hnamed hmethM hstatic hkP hinitP hy (g := g) hg (argsL := argsL) (rest := rest) (hlen _ hsigM) hstack hdg
  obtain ⟨v, B, X', hpost, hsteps⟩ := hK m meth c ⟨T.setVm vm₁, locs, cells, slots⟩ { g with stack := rest } (.invokestatic index) mk argsL.toArray X₁ hg hsize hdg hW (X₁.named hnamed) (hpre vm₁ X₁.warmed)
  exact ⟨v, vm₁, B, X₁.warmed, X', hpost, fun target h => hstep₁ _ fun acts => by rw [doInvoke_state]; exact hsteps.trans h⟩
theorem vx_runSW {y : MethodName} {bytes cc : ByteArray} {maxL nL mc ms n index : Nat} {ret : Option FieldType} {hh : List (Nat × Nat × Nat × Nat)} {ws : List Cond} {rm : Room} {Pc : Array Value → State → Prop} {Qc : Array Value → State → Outcome → State → Prop} {free : Addr → Prop} {Ts : List Cond} {own : String} {As rest : List Value} {g : JFrame}
    (S : CallFix p m c cc nL s args Ts own) (hM : Met l y ws rm Pc Qc mc ms free) (cw : vx_CSW R s args own index y bytes maxL ret hh ws rm mc ms n) (hp : PreS s H Pc As)
    (hg : g.method = m) (hn : As.length = n) (hsize : g.locals.size = nL) (hstack : g.stack = As.reverse ++ rest) (hW : 2 * g.monitorRoom + (rest.map fun v => v.category).sum ≤ 8) (hdg : decode cc g.pc = .ok (.invokestatic index, 3)) (hf : cells + mc ≤ R.cells ∧ slots + ms ≤ R.slots) :
    va_Run p l e R s m args below meth c H locs cells slots mc ms g rest (Qc As.toArray) (free) := by
  obtain ⟨⟨hrc, hrs, hfr, hlo, hws, hcw⟩, hcode, hini, hy, hlen, hl, hstt⟩ := cw
  have hK : Back l R p e below s args y 3 8 (PreOf R mc ms Pc) (PostOf Qc mc ms free) := va_backW (hh := hh) (bytes := bytes) (maxL := maxL) (ret := ret) hM hp.1 hrc hrs hfr hlo hws hcw (fun a' U hW => word_at hW (Or.inl (by first | rfl | simp [Cond.onTables, Cond.keeps, Cond.steady])) hini)
  obtain ⟨hx, hb, hml, ho, -⟩ := S
  intro T hT X
  obtain ⟨v, vm₁, ⟨U', l2, c2, s2⟩, hW₁, X', ⟨g', mk, t, L, e1, e2, hq, h1, hL, h2, h3⟩, st⟩ := vx_callSW X hx (hh := hh) (bytes := bytes) (maxL := maxL) (ret := ret) ho hl hstt hini hcode hy hK hg (hsize.trans hml.symm) (argsL := As) (rest := rest) (fun sig h => hn.trans (hlen sig h)) hstack hW (by rw [hb]; exact hdg)
    (fun vm₁ hW₁ => ⟨hf.1, hf.2, hp.2 (T.setVm vm₁) hT hW₁⟩)
  dsimp only [Pt.U, Pt.locs, Pt.cells, Pt.slots] at X' e1 e2 h1 h2 h3 st
  subst h1; subst h2; subst h3
  exact ⟨v, (T.setVm vm₁).calling g' mk As.toArray, t, U', L, hT, X', hL, e1, e2, hq, st⟩
/-- not caught here, past rows that name other classes: it goes on to the caller -/
theorem vx_outP {p : Program} {l : Launch} {e : Env} {R : Room} {s : State} {m : MethodId} {args : Array Value} {below : List Frame} {meth : Method} {c : Code} {H : Heap} {locs : List Loc} {cells slots : Nat} {free : Addr → Prop} {ls : Array Slot} {rest : List Value} {Qc : Array Value → State → Outcome → State → Prop} {XC : String → State → State → Prop}
    {pc : Nat} {own E : String} {ce : Cell} {q : Addr} {mc ms : Nat} (hown : s.vm.findClass own = some m.cls) (hlocks : meth.locks = false)
    (hpass : ∀ z ∈ c.exceptionTable.toList, covers z pc = false ∨ (z.catchType ≠ 0 ∧ ∃ nm : String, (Cond.classLink own z.catchType nm).before args s = true ∧ va_Nc E nm s)) (hcell : H[q]? = some ce) (hv : ce.vm = .none) (hcl : s.vm.findClass E = some ce.cls)
    (hx : ∀ t : State, t.heap = H → s.vm.Alike t.vm → XC E s t) (hf : ∀ z ∈ locs, free z.base) (hc : cells ≤ mc) (hs : slots ≤ ms) :
    vx_W p l e R s m args below meth c H locs cells slots (vx_MQ below Qc XC args s mc ms free) (F0 m pc ls rest) q := by
  intro T hT X
  have hpl : e.platform.magicAccessors = ({} : Platform).magicAccessors := by rw [X.admits.platform]
  obtain ⟨vm', hW', X', st⟩ := X.outThrough hlocks q (g := F0 m pc ls rest) rfl rfl rfl (cell := ce) (by rw [hT]; exact hcell) (by rw [hv]; rfl)
    (by obtain ⟨k9, h9, -⟩ := Vm.findClass_spec hcl; exact ⟨k9, h9⟩) (fun z hz => by
      rcases hpass z hz with h | ⟨hz0, nm, hl1, hn1⟩
      · exact Or.inl h
      · obtain ⟨c6, hc6, hcl6⟩ := Cond.classLink_spec hown hl1 e.platform hpl
        obtain ⟨a8, b8, h1, h2, h3⟩ := hn1
        cases Option.some.inj (h1.symm.trans hcl)
        cases Option.some.inj (h2.symm.trans hc6)
        exact Or.inr ⟨hz0, _, hcl6, h3⟩)
  obtain ⟨g₀, hfr⟩ := X'.frames_eq
  have hcell9 : ((T.setVm vm').setFrames (.throwing q :: below)).heap[q]? = some ce := by
    show T.heap[q]? = some ce
    rw [hT]; exact hcell
  have hend : Ended ((T.setVm vm').setFrames (.throwing q :: below)) below (.threw q) := State.frames_setFrames _ (State.cur_lt_of_frames hfr)
  refine ⟨(T.setVm vm').setFrames (.throwing q :: below), ?_, .threw q, X'.here.running, hend, Or.inr ⟨q, rfl, E, ce, locs, hx _ hT (X'.ends _).1.alike, hcell9, hv, hcl, (X'.ends _).1, (X'.ends _).2.mono hc hs, hf⟩⟩
  rw [X.pushThrowing_eq]
  exact st
/-- a thing of a world lies in the heap -/
theorem vx_lt {D : va_G} {cl : List vw_C} {ws : va_W} {H1 : Heap} (h : va_P D cl ws H1) {k : Nat} {q : Nat × va_E} (hk : ws[k]? = some q) : q.1 < H1.size := (h k q hk).lt
end VXS
/-! ===== END ===== -/
/-! ===== BEGIN methods with a table of their own: called by a name, returning or throwing ===== -/
section VXH
/-! vx_backW, vx_callVX, vx_callSX, vx_callVW, vx_runVW, vx_runVX, vx_runSX, vx_ofWH follow the same proofs as their sisters above (Free/Laws.lean, Shelf42/LK1.lean); vx_outP calls Shelf42/NT130.lean (outThrough). -/
section
variable {l : Launch} {R : Room} {p : Program} {e : Env} {below : List Frame} {s : State} {sargs : Array Value} {y : MethodName} {len W9 : Nat}
theorem vx_backW {ws : List Cond} {rm : Room} {Pc : Array Value → State → Prop} {Qc : Array Value → State → Outcome → State → Prop} {XC : String → State → State → Prop} {mc ms : Nat} {free : Addr → Prop} {bytes : ByteArray} {maxL : Nat} {ret : Option FieldType} {hh : List (Nat × Nat × Nat × Nat)}
    (hM : vx_Met l y ws rm Pc Qc XC mc ms free) (hblind : FrameBlind Pc) (hrc : rm.cells = mc) (hrs : rm.slots = ms)
    (hframes : rm.frames + 1 ≤ R.frames) (hlocals : W9 + (maxL + 11) + rm.locals ≤ R.locals)
    (hws : ∀ w ∈ ws, ∀ a' U, s.WarmedH U.vm → w.before a' U = true) (hcode : Cond.codeWith y bytes maxL ret hh ∈ ws) (hinit : ∀ a' U, s.WarmedH U.vm → (Cond.initialized y.cls).before a' U = true) :
    vx_Back l R p e below s sargs y len W9 (PreOf R mc ms Pc) (PostOf Qc mc ms free) (vx_Post XC mc ms free) := by
  intro m meth c A g ig mk a X hg hsize hdg hW hn hp
  have h1 : (headSpec ws rm).pre.before a A.U = true := atoms_intro fun w hw => hws w hw _ _ X.warmed
  have h2 : (Cond.codeWith y bytes maxL ret hh).before a A.U = true := hws _ hcode _ _ X.warmed
  have h3 : (Cond.initialized y.cls).before a A.U = true := hinit _ _ X.warmed
  have h4 : A.cells + (headSpec ws rm).room.cells ≤ R.cells := by rw [show (headSpec ws rm).room.cells = mc from hrc]; exact hp.1
  have h5 : A.slots + (headSpec ws rm).room.slots ≤ R.slots := by rw [show (headSpec ws rm).room.slots = ms from hrs]; exact hp.2.1
  have hPc : Pc a (A.U.calling g mk a) := hblind _ _ _ _ hp.2.2
  obtain ⟨U, Ls, c0, s0⟩ := A
  dsimp only [Pt.U, Pt.locs, Pt.cells, Pt.slots] at h1 h2 h3 h4 h5 X hn hPc ⊢
  obtain ⟨m9, methY, cY, hn9, hmY, hcY, -, hlY, -⟩ := Cond.codeWith_spec h2
  cases Option.some.inj (hn9.symm.trans hn)
  obtain ⟨kY, hkY, -⟩ := className_of_methodNamed hn
  have hinitY : kY.init = .initialized := Cond.initialized_spec (findClass_of_methodNamed hn) hkY h3
  have h : At U g.method c below := by rw [hg]; exact X.here
  have hlocals9 : W9 + (maxL + 11) + (headSpec ws rm).room.locals ≤ R.locals := hlocals
  have happ : (headSpec ws rm).appliesLoose y e.platform (U.calling g mk a) = true :=
    Spec.appliesLoose_calling (g := g) h hdg hn hkY hinitY
      (X.room_calling (g := g) (R' := (headSpec ws rm).room) hsize hmY hcY hframes (by rw [hlY]; omega) h4 h5) h1
  obtain ⟨mid, hmid⟩ := h.above
  have hfr : (U.setTop g).frames = (.java g :: mid) ++ below := by rw [State.frames_setTop' g h.top, hmid]; rfl
  obtain ⟨o, s₂, hsteps, -, hend, hq⟩ := Steps.callFree hM p X.admits X.cas X.clock (acts := []) hfr happ hPc trivial
  have hq' : vx_Q Qc XC mc ms free a (U.calling g mk a) o s₂ := hq
  rw [State.frames_setTop' g h.top] at hend
  obtain ⟨g₀, hg0⟩ := Option.isSome_iff_exists.mp h.top
  obtain ⟨r, hr⟩ := State.topJava?_eq_some.mp hg0
  have hr' : (({ U with heap := s₂.heap, slotsUsed := s₂.slotsUsed } : State).setVm s₂.vm).frames = .java g₀ :: r := hr
  rcases hq' with ⟨hqc, L, hfe, hL⟩ | ⟨q, rfl, E, ce, L, hx, hce, hcv, hcl, hW₂, hsm, hL⟩
  · obtain ⟨⟨v, rfl⟩, hW₂, e2, q2, q3, q4, q5, q6⟩ := id hfe
    have e3 : s₂ = ({ (U.calling g mk a).setFrames s₂.frames with heap := s₂.heap, slotsUsed := s₂.slotsUsed } : State).setVm s₂.vm := by
      have : s₂ = ({ s₂ with vm := (U.calling g mk a).vm } : State).setVm s₂.vm := rfl
      rw [e2] at this
      exact this
    obtain ⟨c₂, i₂, len₂, hc₂, hd₂, hf₂⟩ := hend
    have hW' : U.WarmedH s₂.vm := hW₂
    have hcc : c₂ = c := by
      have h1 : s₂.code? g.method = U.code? g.method := by
        rw [State.code?_eq, State.code?_eq, hW'.alike.method?]
      exact Option.some.inj (hc₂.symm.trans (h1.trans h.code))
    subst hcc
    have hlen : len₂ = len := by rw [hdg] at hd₂; cases hd₂; rfl
    subst hlen
    have hs₂ : s₂ = (({ U with heap := s₂.heap, slotsUsed := s₂.slotsUsed } : State).setVm s₂.vm).setTop { g with pc := g.pc + len₂, stack := v.toList ++ g.stack } := by
      refine e3.trans ?_
      rw [hf₂, State.calling_eq h.top, State.setFrames_setFrames, State.setTop_of_frames _ hr', hr]
      rfl
    have hsame : U.sameButNew ({ U with heap := s₂.heap, slotsUsed := s₂.slotsUsed } : State) L mc ms := by
      refine ⟨?_, q2, q3, q4, q5, q6⟩
      obtain ⟨t, ht, -⟩ := State.frames_cons hr
      show ({ U with heap := s₂.heap, slotsUsed := s₂.slotsUsed } : State) = { U.setFrames U.frames with heap := s₂.heap, slotsUsed := s₂.slotsUsed }
      rw [State.setFrames_self ht]
    subst hg
    refine Or.inl ⟨v, ⟨(({ U with heap := s₂.heap, slotsUsed := s₂.slotsUsed } : State).setVm s₂.vm), Ls ++ L, c0 + mc, s0 + ms⟩,
      ⟨X.admits, X.cas, X.clock, X.frames, X.room, X.hears, X.method, X.code, (X.here.setHeapUsed s₂.heap s₂.slotsUsed).setVm hW'.alike, X.tail, State.WarmedH.trans X.warmed hW', X.limits, X.bytes, X.same.trans (hsame.setVm s.vm)⟩,
      ⟨g, mk, s₂, L, rfl, rfl, hqc, rfl, hL, rfl, rfl⟩, ?_⟩
    show Steps p.tables e below _ ((({ U with heap := s₂.heap, slotsUsed := s₂.slotsUsed } : State).setVm s₂.vm).setTop { g with pc := g.pc + len₂, stack := v.toList ++ g.stack })
    rw [← hs₂]
    exact hsteps
  · obtain ⟨e2, q2, q3, q4, q5, q6⟩ := id hsm
    have e3 : s₂ = ({ (U.calling g mk a).setFrames s₂.frames with heap := s₂.heap, slotsUsed := s₂.slotsUsed } : State).setVm s₂.vm := by
      have : s₂ = ({ s₂ with vm := (U.calling g mk a).vm } : State).setVm s₂.vm := rfl
      rw [e2] at this
      exact this
    have hf₂ : s₂.frames = .throwing q :: .java g :: U.frames.tail := hend
    have hW' : U.WarmedH s₂.vm := hW₂
    have hs₂ : s₂ = ((({ U with heap := s₂.heap, slotsUsed := s₂.slotsUsed } : State).setVm s₂.vm).setTop g).pushFrame (.throwing q) := by
      refine e3.trans ?_
      rw [hf₂, State.calling_eq h.top, State.setFrames_setFrames, State.pushFrame, State.frames_setTop _ hr', State.setTop_of_frames _ hr', State.setFrames_setFrames, hr]
      rfl
    have hsame : U.sameButNew ({ U with heap := s₂.heap, slotsUsed := s₂.slotsUsed } : State) L mc ms := by
      refine ⟨?_, q2, q3, q4, q5, q6⟩
      obtain ⟨t, ht, -⟩ := State.frames_cons hr
      show ({ U with heap := s₂.heap, slotsUsed := s₂.slotsUsed } : State) = { U.setFrames U.frames with heap := s₂.heap, slotsUsed := s₂.slotsUsed }
      rw [State.setFrames_self ht]
    subst hg
    refine Or.inr ⟨q, ⟨(({ U with heap := s₂.heap, slotsUsed := s₂.slotsUsed } : State).setVm s₂.vm), Ls ++ L, c0 + mc, s0 + ms⟩,
      ⟨X.admits, X.cas, X.clock, X.frames, X.room, X.hears, X.method, X.code, (X.here.setHeapUsed s₂.heap s₂.slotsUsed).setVm hW'.alike, X.tail, State.WarmedH.trans X.warmed hW', X.limits, X.bytes, X.same.trans (hsame.setVm s.vm)⟩,
      ⟨g, mk, s₂, L, E, ce, rfl, rfl, hx, hce, hcv, hcl, rfl, hL, rfl, rfl⟩, ?_⟩
    show Steps p.tables e below _ (((({ U with heap := s₂.heap, slotsUsed := s₂.slotsUsed } : State).setVm s₂.vm).setTop g).pushFrame (.throwing q))
    rw [← hs₂]
    exact hsteps
end
variable {p : Program} {l : Launch} {e : Env} {R : Room} {s : State} {m : MethodId} {args : Array Value} {below : List Frame} {meth : Method} {c : Code} {T : State} {H : Heap} {locs : List Loc} {cells slots : Nat}
theorem vx_callVX (X : Stand p l e R s m args below meth c T locs cells slots) (hexec : p.tables.exec = Jvm.exec) {own C : String} {index : Nat} {y : MethodName} {bytes : ByteArray} {maxL : Nat} {ret : Option FieldType} {hh : List (Nat × Nat × Nat × Nat)}
    (hown : s.vm.findClass own = some m.cls) (hlink : (Cond.methodLink own index y).before args s = true) (hinst : (Cond.instanceMethod y).before args s = true) (hsel : (Cond.selects C y y).before args s = true)
    (hcode : (Cond.codeWith y bytes maxL ret hh).before args s = true) (hy : y.cls ≠ "java/lang/invoke/MethodHandle" ∧ y.cls ≠ "java/lang/invoke/VarHandle")
    {W9 : Nat} {Pre : Pt → Array Value → Prop} {Post : Pt → Array Value → Option Value → Pt → Prop} {PostX : Pt → Array Value → Addr → Pt → Prop} (hK : vx_Back l R p e below s args y 3 W9 Pre Post PostX)
    {b : Addr} {cellB : Cell} (hcell : T.heap[b]? = some cellB) (hobj : cellB.vm.isStatics = false) (hcls : s.vm.findClass C = some cellB.cls)
    {g : JFrame} (hg : g.method = m) (hsize : g.locals.size = c.maxLocals) {argsL rest : List Value} (hlen : ∀ sig, parseMethodDescriptor y.desc = some sig → argsL.length = sig.parameters.length)
    (hstack : g.stack = argsL.reverse ++ .ref b :: rest) (hW : 2 * g.monitorRoom + (rest.map fun v => v.category).sum ≤ W9) (hdg : decode c.code g.pc = .ok (.invokevirtual index, 3))
    (hpre : ∀ vm₁, s.WarmedH vm₁ → Pre ⟨T.setVm vm₁, locs, cells, slots⟩ (Value.ref b :: argsL).toArray) :
    (∃ (v : Option Value) (vm₁ : Vm) (B : Pt), s.WarmedH vm₁ ∧ Stand p l e R s m args below meth c B.U B.locs B.cells B.slots ∧ Post ⟨T.setVm vm₁, locs, cells, slots⟩ (Value.ref b :: argsL).toArray v B ∧
      ∀ target, Steps p.tables e below (B.U.setTop { g with pc := g.pc + 3, stack := v.toList ++ rest }) target → Steps p.tables e below (T.setTop g) target) ∨
    (∃ (q : Addr) (vm₁ : Vm) (B : Pt), s.WarmedH vm₁ ∧ Stand p l e R s m args below meth c B.U B.locs B.cells B.slots ∧ PostX ⟨T.setVm vm₁, locs, cells, slots⟩ (Value.ref b :: argsL).toArray q B ∧
      Steps p.tables e below (T.setTop g) ((B.U.setTop { g with stack := rest }).pushFrame (.throwing q))) := by
  obtain ⟨mk, methM, hnamed, hmethM, hstM, habM⟩ := Cond.instanceMethod_spec hinst
  obtain ⟨m8, methM', cM, hn8, hmethM', -, -, -, -, -, -, hsigM⟩ := Cond.codeWith_spec hcode
  cases Option.some.inj (hn8.symm.trans hnamed)
  cases hmethM.symm.trans hmethM'
  obtain ⟨c2, r2, m2, q1, q2, q3, q4, kP, hkP, hkPi⟩ := Cond.selects_spec hsel
  cases hcls.symm.trans q1
  cases (State.methodFound?_of_named hnamed hy).symm.trans q2
  cases hnamed.symm.trans q3
  have hselP : selectMethod e.platform s.vm cellB.cls mk = .method mk := by rw [Launch.admits_selectMethod X.admits]; exact q4
  obtain ⟨vm₁, X₁, hstep₁⟩ := X.invokevirtual hexec hown hlink hnamed hmethM hstM hkP hkPi hy (a := b) (cell := cellB) hcell
    (fun z h => by rw [h] at hobj; cases hobj) hselP hmethM habM hkP hkPi (g := g) hg (argsL := argsL) (rest := rest) (hlen _ hsigM) hstack hdg
  rcases hK m meth c ⟨T.setVm vm₁, locs, cells, slots⟩ { g with stack := rest } (.invokevirtual index) mk (Value.ref b :: argsL).toArray X₁ hg hsize hdg hW (X₁.named hnamed) (hpre vm₁ X₁.warmed) with ⟨v, B, X', hpost, hsteps⟩ | ⟨q, B, X', hpost, hsteps⟩
  · exact Or.inl ⟨v, vm₁, B, X₁.warmed, X', hpost, fun target h => hstep₁ _ fun acts => by rw [doInvoke_state]; exact hsteps.trans h⟩
  · exact Or.inr ⟨q, vm₁, B, X₁.warmed, X', hpost, hstep₁ _ fun acts => by rw [doInvoke_state]; exact hsteps⟩
theorem vx_callSX (X : Stand p l e R s m args below meth c T locs cells slots) (hexec : p.tables.exec = Jvm.exec) {own : String} {index : Nat} {y : MethodName} {bytes : ByteArray} {maxL : Nat} {ret : Option FieldType} {hh : List (Nat × Nat × Nat × Nat)}
    (hown : s.vm.findClass own = some m.cls) (hlink : (Cond.methodLink own index y).before args s = true) (hstat : (Cond.static y).before args s = true) (hinit : (Cond.initialized y.cls).before args s = true)
    (hcode : (Cond.codeWith y bytes maxL ret hh).before args s = true) (hy : y.cls ≠ "java/lang/invoke/MethodHandle" ∧ y.cls ≠ "java/lang/invoke/VarHandle")
    {W9 : Nat} {Pre : Pt → Array Value → Prop} {Post : Pt → Array Value → Option Value → Pt → Prop} {PostX : Pt → Array Value → Addr → Pt → Prop} (hK : vx_Back l R p e below s args y 3 W9 Pre Post PostX)
    {g : JFrame} (hg : g.method = m) (hsize : g.locals.size = c.maxLocals) {argsL rest : List Value} (hlen : ∀ sig, parseMethodDescriptor y.desc = some sig → argsL.length = sig.parameters.length)
    (hstack : g.stack = argsL.reverse ++ rest) (hW : 2 * g.monitorRoom + (rest.map fun v => v.category).sum ≤ W9) (hdg : decode c.code g.pc = .ok (.invokestatic index, 3))
    (hpre : ∀ vm₁, s.WarmedH vm₁ → Pre ⟨T.setVm vm₁, locs, cells, slots⟩ argsL.toArray) :
    (∃ (v : Option Value) (vm₁ : Vm) (B : Pt), s.WarmedH vm₁ ∧ Stand p l e R s m args below meth c B.U B.locs B.cells B.slots ∧ Post ⟨T.setVm vm₁, locs, cells, slots⟩ argsL.toArray v B ∧
      ∀ target, Steps p.tables e below (B.U.setTop { g with pc := g.pc + 3, stack := v.toList ++ rest }) target → Steps p.tables e below (T.setTop g) target) ∨
    (∃ (q : Addr) (vm₁ : Vm) (B : Pt), s.WarmedH vm₁ ∧ Stand p l e R s m args below meth c B.U B.locs B.cells B.slots ∧ PostX ⟨T.setVm vm₁, locs, cells, slots⟩ argsL.toArray q B ∧
      Steps p.tables e below (T.setTop g) ((B.U.setTop { g with stack := rest }).pushFrame (.throwing q))) := by
  obtain ⟨mk, methM, cM, hnamed, hmethM, -, -, -, -, -, -, hsigM⟩ := Cond.codeWith_spec hcode
  have hstatic : methM.isStatic = true := Cond.static_spec hnamed hmethM hstat
  obtain ⟨kP, hkP, -⟩ := className_of_methodNamed hnamed
  have hinitP : kP.init = .initialized := Cond.initialized_spec (findClass_of_methodNamed hnamed) hkP hinit
  obtain ⟨vm₁, X₁, hstep₁⟩ := X.invokestatic hexec hown hlink hnamed hmethM hstatic hkP hinitP hy (g := g) hg (argsL := argsL) (rest := rest) (hlen _ hsigM) hstack hdg
  rcases hK m meth c ⟨T.setVm vm₁, locs, cells, slots⟩ { g with stack := rest } (.invokestatic index) mk argsL.toArray X₁ hg hsize hdg hW (X₁.named hnamed) (hpre vm₁ X₁.warmed) with ⟨v, B, X', hpost, hsteps⟩ | ⟨q, B, X', hpost, hsteps⟩
  · exact Or.inl ⟨v, vm₁, B, X₁.warmed, X', hpost, fun target h => hstep₁ _ fun acts => by rw [doInvoke_state]; exact hsteps.trans h⟩
  · exact Or.inr ⟨q, vm₁, B, X₁.warmed, X', hpost, hstep₁ _ fun acts => by rw [doInvoke_state]; exact hsteps⟩
theorem vx_callVW (X : Stand p l e R s m args below meth c T locs cells slots) (hexec : p.tables.exec = Jvm.exec) {own C : String} {index : Nat} {y : MethodName} {bytes : ByteArray} {maxL : Nat} {ret : Option FieldType} {hh : List (Nat × Nat × Nat × Nat)}
    (hown : s.vm.findClass own = some m.cls) (hlink : (Cond.methodLink own index y).before args s = true) (hinst : (Cond.instanceMethod y).before args s = true) (hsel : (Cond.selects C y y).before args s = true)
    (hcode : (Cond.codeWith y bytes maxL ret hh).before args s = true) (hy : y.cls ≠ "java/lang/invoke/MethodHandle" ∧ y.cls ≠ "java/lang/invoke/VarHandle")
    {W9 : Nat} {Pre : Pt → Array Value → Prop} {Post : Pt → Array Value → Option Value → Pt → Prop} (hK : Back l R p e below s args y 3 W9 Pre Post)
    {b : Addr} {cellB : Cell} (hcell : T.heap[b]? = some cellB) (hobj : cellB.vm.isStatics = false) (hcls : s.vm.findClass C = some cellB.cls)
    {g : JFrame} (hg : g.method = m) (hsize : g.locals.size = c.maxLocals) {argsL rest : List Value} (hlen : ∀ sig, parseMethodDescriptor y.desc = some sig → argsL.length = sig.parameters.length)
    (hstack : g.stack = argsL.reverse ++ .ref b :: rest) (hW : 2 * g.monitorRoom + (rest.map fun v => v.category).sum ≤ W9) (hdg : decode c.code g.pc = .ok (.invokevirtual index, 3))
    (hpre : ∀ vm₁, s.WarmedH vm₁ → Pre ⟨T.setVm vm₁, locs, cells, slots⟩ (Value.ref b :: argsL).toArray) :
    ∃ (v : Option Value) (vm₁ : Vm) (B : Pt), s.WarmedH vm₁ ∧ Stand p l e R s m args below meth c B.U B.locs B.cells B.slots ∧ Post ⟨T.setVm vm₁, locs, cells, slots⟩ (Value.ref b :: argsL).toArray v B ∧
      ∀ target, Steps p.tables e below (B.U.setTop { g with pc := g.pc + 3, stack := v.toList ++ rest }) target → Steps p.tables e below (T.setTop g) target := by
  obtain ⟨mk, methM, hnamed, hmethM, hstM, habM⟩ := Cond.instanceMethod_spec hinst
  obtain ⟨m8, methM', cM, hn8, hmethM', -, -, -, -, -, -, hsigM⟩ := Cond.codeWith_spec hcode
  cases Option.some.inj (hn8.symm.trans hnamed)
  cases hmethM.symm.trans hmethM'
  obtain ⟨c2, r2, m2, q1, q2, q3, q4, kP, hkP, hkPi⟩ := Cond.selects_spec hsel
  cases hcls.symm.trans q1
  cases (State.methodFound?_of_named hnamed hy).symm.trans q2
  cases hnamed.symm.trans q3
  have hselP : selectMethod e.platform s.vm cellB.cls mk = .method mk := by rw [Launch.admits_selectMethod X.admits]; exact q4
  obtain ⟨vm₁, X₁, hstep₁⟩ := X.invokevirtual hexec hown hlink hnamed hmethM hstM hkP hkPi hy (a := b) (cell := cellB) hcell
    (fun z h => by rw [h] at hobj; cases hobj) hselP hmethM habM hkP hkPi (g := g) hg (argsL := argsL) (rest := rest) (hlen _ hsigM) hstack hdg
  obtain ⟨v, B, X', hpost, hsteps⟩ := hK m meth c ⟨T.setVm vm₁, locs, cells, slots⟩ { g with stack := rest } (.invokevirtual index) mk (Value.ref b :: argsL).toArray X₁ hg hsize hdg hW (X₁.named hnamed) (hpre vm₁ X₁.warmed)
  exact ⟨v, vm₁, B, X₁.warmed, X', hpost, fun target h => hstep₁ _ fun acts => by rw [doInvoke_state]; exact hsteps.trans h⟩
abbrev vx_CVW (R : Room) (s : State) (args : Array Value) (own C : String) (index : Nat) (y : MethodName) (bytes : ByteArray) (maxL : Nat) (ret : Option FieldType) (hh : List (Nat × Nat × Nat × Nat)) (ws : List Cond) (rm : Room) (mc ms n : Nat) : Prop :=
  (rm.cells = mc ∧ rm.slots = ms ∧ rm.frames + 1 ≤ R.frames ∧ 8 + (maxL + 11) + rm.locals ≤ R.locals ∧ (∀ w ∈ ws, ∀ (a' : Array Value) (U : State), s.WarmedH U.vm → w.before a' U = true) ∧ Cond.codeWith y bytes maxL ret hh ∈ ws) ∧
  (Cond.codeWith y bytes maxL ret hh).before args s = true ∧ (Cond.initialized y.cls).before args s = true ∧ (y.cls ≠ "java/lang/invoke/MethodHandle" ∧ y.cls ≠ "java/lang/invoke/VarHandle") ∧
  (∀ sig, parseMethodDescriptor y.desc = some sig → n = sig.parameters.length) ∧ (Cond.methodLink own index y).before args s = true ∧ (Cond.instanceMethod y).before args s = true ∧ (Cond.selects C y y).before args s = true
theorem vx_cwVW {own C : String} {index maxL mc ms : Nat} {y : MethodName} {bytes : ByteArray} {ret : Option FieldType} {hh : List (Nat × Nat × Nat × Nat)} {Ts ws ws' : List Cond} {rm : Room} (n : Nat) (ht : ∀ w ∈ Ts, w.before args s = true) (hT : GoodIn Ts (wsV own index C y ws)) (hw : ws = Cond.codeWith y bytes maxL ret hh :: ws') (hrc : rm.cells = mc) (hrs : rm.slots = ms)
    (hd : y.cls = C ∧ y.cls ≠ "java/lang/invoke/MethodHandle" ∧ y.cls ≠ "java/lang/invoke/VarHandle" ∧ (parseMethodDescriptor y.desc).map (fun d => d.parameters.length) = some n) (hR : rm.frames + 1 ≤ R.frames ∧ 8 + (maxL + 11) + rm.locals ≤ R.locals) :
    vx_CVW R s args own C index y bytes maxL ret hh ws rm mc ms n := by
  obtain ⟨hC, hd⟩ := hd
  subst hC
  have ok : ∀ w ∈ wsV own index y.cls y ws, w.before args s = true := fun w h => ht w (hT w h).1
  have hG : GoodIn Ts ws := fun w h => hT w (by unfold wsV; exact List.mem_append_right _ h)
  have hc : Cond.codeWith y bytes maxL ret hh ∈ ws := by rw [hw]; exact List.mem_cons_self
  refine ⟨⟨hrc, hrs, hR.1, hR.2, pay_in ht hG, hc⟩, ht _ (hG _ hc).1, ok _ (by simp [wsV]), ⟨hd.1, hd.2.1⟩, fun sig h => ?_, ok _ (by simp [wsV]), ok _ (by simp [wsV]), ok _ (by simp [wsV])⟩
  have h2 := hd.2.2
  rw [h] at h2
  exact (Option.some.inj h2).symm
theorem vx_runVW {y : MethodName} {bytes cc : ByteArray} {maxL nL mc ms n index : Nat} {ret : Option FieldType} {hh : List (Nat × Nat × Nat × Nat)} {ws : List Cond} {rm : Room} {Pc : Array Value → State → Prop} {Qc : Array Value → State → Outcome → State → Prop} {free : Addr → Prop} {Ts : List Cond} {own C : String} {b : Addr} {As rest : List Value} {g : JFrame}
    (S : CallFix p m c cc nL s args Ts own) (hM : Met l y ws rm Pc Qc mc ms free) (cw : vx_CVW R s args own C index y bytes maxL ret hh ws rm mc ms n) (hp : PreV s H C b Pc As)
    (hg : g.method = m) (hn : As.length = n) (hsize : g.locals.size = nL) (hstack : g.stack = As.reverse ++ .ref b :: rest) (hW : 2 * g.monitorRoom + (rest.map fun v => v.category).sum ≤ 8) (hdg : decode cc g.pc = .ok (.invokevirtual index, 3)) (hf : cells + mc ≤ R.cells ∧ slots + ms ≤ R.slots) :
    va_Run p l e R s m args below meth c H locs cells slots mc ms g rest (Qc (Value.ref b :: As).toArray) free := by
  obtain ⟨⟨hrc, hrs, hfr, hlo, hws, hcw⟩, hcode, hini, hy, hlen, hl, hin, hse⟩ := cw
  have hK : Back l R p e below s args y 3 8 (PreOf R mc ms Pc) (PostOf Qc mc ms free) := va_backW (hh := hh) (bytes := bytes) (maxL := maxL) (ret := ret) hM hp.1 hrc hrs hfr hlo hws hcw (fun a' U hW => word_at hW (Or.inl (by first | rfl | simp [Cond.onTables, Cond.keeps, Cond.steady])) hini)
  obtain ⟨hx, hb, hml, ho, -⟩ := S
  obtain ⟨-, ⟨cellB, hcB, hoB, hclB⟩, hPc⟩ := hp
  intro T hT X
  obtain ⟨v, vm₁, ⟨U', l2, c2, s2⟩, hW₁, X', ⟨g', mk, t, L, e1, e2, hq, h1, hL, h2, h3⟩, st⟩ := vx_callVW X hx (C := C) (hh := hh) (bytes := bytes) (maxL := maxL) (ret := ret) ho hl hin hse hcode hy hK (by rw [hT]; exact hcB) hoB hclB hg (hsize.trans hml.symm) (argsL := As) (rest := rest) (fun sig h => hn.trans (hlen sig h)) hstack hW (by rw [hb]; exact hdg)
    (fun vm₁ hW₁ => ⟨hf.1, hf.2, hPc (T.setVm vm₁) hT hW₁⟩)
  dsimp only [Pt.U, Pt.locs, Pt.cells, Pt.slots] at X' e1 e2 h1 h2 h3 st
  subst h1; subst h2; subst h3
  exact ⟨v, (T.setVm vm₁).calling g' mk (Value.ref b :: As).toArray, t, U', L, hT, X', hL, e1, e2, hq, st⟩
section
variable {y : MethodName} {bytes cc : ByteArray} {maxL nL mc ms n index : Nat} {ret : Option FieldType} {ws : List Cond} {rm : Room} {Pc : Array Value → State → Prop} {Qc : Array Value → State → Outcome → State → Prop} {XC : String → State → State → Prop} {free : Addr → Prop} {Ts : List Cond} {own C : String} {b : Addr} {As rest : List Value} {g : JFrame}
theorem vx_runVX {hh : List (Nat × Nat × Nat × Nat)} (S : CallFix p m c cc nL s args Ts own) (hM : vx_Met l y ws rm Pc Qc XC mc ms free) (cw : vx_CVW R s args own C index y bytes maxL ret hh ws rm mc ms n) (hp : PreV s H C b Pc As)
    (hg : g.method = m) (hn : As.length = n) (hsize : g.locals.size = nL) (hstack : g.stack = As.reverse ++ .ref b :: rest) (hW : 2 * g.monitorRoom + (rest.map fun v => v.category).sum ≤ 8) (hdg : decode cc g.pc = .ok (.invokevirtual index, 3)) (hf : cells + mc ≤ R.cells ∧ slots + ms ≤ R.slots) :
    vx_Run p l e R s m args below meth c H locs cells slots mc ms g rest (Qc (Value.ref b :: As).toArray) XC free := by
  obtain ⟨⟨hrc, hrs, hfr, hlo, hws, hcw⟩, hcode, hini, hy, hlen, hl, hin, hse⟩ := cw
  have hK : vx_Back l R p e below s args y 3 8 (PreOf R mc ms Pc) (PostOf Qc mc ms free) (vx_Post XC mc ms free) := vx_backW (hh := hh) (bytes := bytes) (maxL := maxL) (ret := ret) hM hp.1 hrc hrs hfr hlo hws hcw (fun a' U hW => word_at hW (Or.inl (by first | rfl | simp [Cond.onTables, Cond.keeps, Cond.steady])) hini)
  obtain ⟨hx, hb, hml, ho, -⟩ := S
  obtain ⟨-, ⟨cellB, hcB, hoB, hclB⟩, hPc⟩ := hp
  intro T hT X
  rcases vx_callVX X hx (C := C) (hh := hh) (bytes := bytes) (maxL := maxL) (ret := ret) ho hl hin hse hcode hy hK (by rw [hT]; exact hcB) hoB hclB hg (hsize.trans hml.symm) (argsL := As) (rest := rest) (fun sig h => hn.trans (hlen sig h)) hstack hW (by rw [hb]; exact hdg)
    (fun vm₁ hW₁ => ⟨hf.1, hf.2, hPc (T.setVm vm₁) hT hW₁⟩) with ⟨v, vm₁, ⟨U', l2, c2, s2⟩, hW₁, X', ⟨g', mk, t, L, e1, e2, hq, h1, hL, h2, h3⟩, st⟩ | ⟨q, vm₁, ⟨U', l2, c2, s2⟩, hW₁, X', ⟨g', mk, t, L, E, ce, e1, e2, hq, hce, hcv, hcl, h1, hL, h2, h3⟩, st⟩
  · dsimp only [Pt.U, Pt.locs, Pt.cells, Pt.slots] at X' e1 e2 h1 h2 h3 st
    subst h1; subst h2; subst h3
    exact Or.inl ⟨v, (T.setVm vm₁).calling g' mk (Value.ref b :: As).toArray, t, U', L, hT, X', hL, e1, e2, hq, st⟩
  · dsimp only [Pt.U, Pt.locs, Pt.cells, Pt.slots] at X' e1 e2 h1 h2 h3 st hcl
    subst h1; subst h2; subst h3
    exact Or.inr ⟨q, (T.setVm vm₁).calling g' mk (Value.ref b :: As).toArray, t, U', L, E, ce, hT, X', hL, e1, e2, hq, hce, hcv, vx_cls hW₁ hcl, st⟩
theorem vx_runSX {hh : List (Nat × Nat × Nat × Nat)} (S : CallFix p m c cc nL s args Ts own) (hM : vx_Met l y ws rm Pc Qc XC mc ms free) (cw : vx_CSW R s args own index y bytes maxL ret hh ws rm mc ms n) (hp : PreS s H Pc As)
    (hg : g.method = m) (hn : As.length = n) (hsize : g.locals.size = nL) (hstack : g.stack = As.reverse ++ rest) (hW : 2 * g.monitorRoom + (rest.map fun v => v.category).sum ≤ 8) (hdg : decode cc g.pc = .ok (.invokestatic index, 3)) (hf : cells + mc ≤ R.cells ∧ slots + ms ≤ R.slots) :
    vx_Run p l e R s m args below meth c H locs cells slots mc ms g rest (Qc As.toArray) XC free := by
  obtain ⟨⟨hrc, hrs, hfr, hlo, hws, hcw⟩, hcode, hini, hy, hlen, hl, hstt⟩ := cw
  have hK : vx_Back l R p e below s args y 3 8 (PreOf R mc ms Pc) (PostOf Qc mc ms free) (vx_Post XC mc ms free) := vx_backW (hh := hh) (bytes := bytes) (maxL := maxL) (ret := ret) hM hp.1 hrc hrs hfr hlo hws hcw (fun a' U hW => word_at hW (Or.inl (by first | rfl | simp [Cond.onTables, Cond.keeps, Cond.steady])) hini)
  obtain ⟨hx, hb, hml, ho, -⟩ := S
  intro T hT X
  rcases vx_callSX X hx (hh := hh) (bytes := bytes) (maxL := maxL) (ret := ret) ho hl hstt hini hcode hy hK hg (hsize.trans hml.symm) (argsL := As) (rest := rest) (fun sig h => hn.trans (hlen sig h)) hstack hW (by rw [hb]; exact hdg)
    (fun vm₁ hW₁ => ⟨hf.1, hf.2, hp.2 (T.setVm vm₁) hT hW₁⟩) with ⟨v, vm₁, ⟨U', l2, c2, s2⟩, hW₁, X', ⟨g', mk, t, L, e1, e2, hq, h1, hL, h2, h3⟩, st⟩ | ⟨q, vm₁, ⟨U', l2, c2, s2⟩, hW₁, X', ⟨g', mk, t, L, E, ce, e1, e2, hq, hce, hcv, hcl, h1, hL, h2, h3⟩, st⟩
  · dsimp only [Pt.U, Pt.locs, Pt.cells, Pt.slots] at X' e1 e2 h1 h2 h3 st
    subst h1; subst h2; subst h3
    exact Or.inl ⟨v, (T.setVm vm₁).calling g' mk As.toArray, t, U', L, hT, X', hL, e1, e2, hq, st⟩
  · dsimp only [Pt.U, Pt.locs, Pt.cells, Pt.slots] at X' e1 e2 h1 h2 h3 st hcl
    subst h1; subst h2; subst h3
    exact Or.inr ⟨q, (T.setVm vm₁).calling g' mk As.toArray, t, U', L, E, ce, hT, X', hL, e1, e2, hq, hce, hcv, vx_cls hW₁ hcl, st⟩
end
end VXH
theorem vx_ofWH {l : Launch} {y : MethodName} {ws ws' : List Cond} {rm : Room} {Pc : Array Value → State → Prop} {Qc : Array Value → State → Outcome → State → Prop} {XC : String → State → State → Prop} {mc ms : Nat} {free : Addr → Prop} {cc : ByteArray} {maxL : Nat} {ret : Option FieldType} {hh : List (Nat × Nat × Nat × Nat)}
    (hy : plainName y.cls = true) (hw : ws = Cond.codeWith y cc maxL ret hh :: ws')
    (body : ∀ p e s m args below meth c s₁, BodyLoose p l y (headSpec ws rm) cc maxL ret e s m args below meth c s₁ → c.maxLocals = maxL → Pc args s →
      W p l e (headSpec ws rm).room s m args below meth c s.heap [] 0 0 (vx_MQ below Qc XC args s mc ms free) (entryFrame m args maxL)) : vx_Met l y ws rm Pc Qc XC mc ms free := by
  refine MetFree.of_bodyS (code := cc) (maxLocals := maxL) (ret := ret) hy ?_ ?_
  · intro args s m h hn
    obtain ⟨m9, meth, c, hn9, h1, h2, h3, h4, -, h5, h6, -⟩ := Cond.codeWith_spec (atoms_spec (ws := ws) h _ (by rw [hw]; exact List.mem_cons_self))
    cases hn.symm.trans hn9
    exact ⟨meth, c, h1, h2, h3, h4, h5, h6⟩
  · intro p e s m args below meth c s₁ B hml hP _
    have hh0 : s₁.heap = s.heap := by rw [B.state]; rfl
    obtain ⟨t, a1, o, b1, b2, b3⟩ := body p e s m args below meth c s₁ B hml hP s₁ hh0 (Stand.of_body B)
    exact ⟨t, o, a1, b1, b2, b3⟩
/-! ===== END ===== -/
end
section
def RX0 : String := "PaintSequencer$Lane"
def TX0 : u_T := fun k => match k with
  | 0 => ("PaintSequencer$Lane", "row", "[I", true)
  | _ => ("PaintSequencer$Lane", "size", "I", false)
def tyX0 : Nat → FieldType := fun k => match k with
  | 0 => .array .int
  | _ => .int
abbrev wsX00 : List Cond := u_ws RX0 TX0 2
theorem nmX0 : ∀ a, a < 2 → ∀ b, b < 2 → a ≠ b → (TX0 a).2.1 ≠ (TX0 b).2.1 := by decide +kernel
theorem tyX0_ok : ∀ k, k < 2 → parseFieldDescriptor (TX0 k).2.2.1 = some (tyX0 k) := by decide +kernel
abbrev cX0_init : ByteArray := prog_2_method_1_code
def yX0_init : MethodName := ⟨RX0, "<init>", "()V"⟩
abbrev cX0_count : ByteArray := prog_2_method_2_code
def yX0_count : MethodName := ⟨RX0, "count", "()I"⟩
abbrev cX0_isEmpty : ByteArray := prog_2_method_3_code
def yX0_isEmpty : MethodName := ⟨RX0, "isEmpty", "()Z"⟩
abbrev cX0_at : ByteArray := prog_2_method_4_code
def yX0_at : MethodName := ⟨RX0, "at", "(I)I"⟩
abbrev cX0_add : ByteArray := prog_2_method_6_code
def yX0_add : MethodName := ⟨RX0, "add", "(I)V"⟩
abbrev cX0_takeHead : ByteArray := prog_2_method_7_code
def yX0_takeHead : MethodName := ⟨RX0, "takeHead", "()I"⟩
abbrev cX0_clear : ByteArray := prog_2_method_8_code
def yX0_clear : MethodName := ⟨RX0, "clear", "()V"⟩
def RX1 : String := "PaintSequencer$Plan"
def TX1 : u_T := fun k => match k with
  | 0 => ("PaintSequencer$Plan", "waiting", "[[I", true)
  | 1 => ("PaintSequencer$Plan", "sizes", "[I", true)
  | 2 => ("PaintSequencer$Plan", "taken", "[I", true)
  | 3 => ("PaintSequencer$Plan", "strides", "[I", true)
  | 4 => ("PaintSequencer$Plan", "leasts", "[I", true)
  | _ => ("PaintSequencer$Plan", "starts", "[I", true)
def tyX1 : Nat → FieldType := fun k => match k with
  | 0 => .array (.array .int)
  | 1 => .array .int
  | 2 => .array .int
  | 3 => .array .int
  | 4 => .array .int
  | _ => .array .int
abbrev wsX10 : List Cond := u_ws RX1 TX1 6
theorem nmX1 : ∀ a, a < 6 → ∀ b, b < 6 → a ≠ b → (TX1 a).2.1 ≠ (TX1 b).2.1 := by decide +kernel
theorem tyX1_ok : ∀ k, k < 6 → parseFieldDescriptor (TX1 k).2.2.1 = some (tyX1 k) := by decide +kernel
abbrev cX1_init : ByteArray := prog_3_method_1_code
def yX1_init : MethodName := ⟨RX1, "<init>", "()V"⟩
abbrev cX1_clear : ByteArray := prog_3_method_2_code
def yX1_clear : MethodName := ⟨RX1, "clear", "()V"⟩
abbrev cX1_add : ByteArray := prog_3_method_3_code
def yX1_add : MethodName := ⟨RX1, "add", "(II)V"⟩
abbrev cX1_fewest : ByteArray := prog_3_method_4_code
def yX1_fewest : MethodName := ⟨RX1, "fewest", "(I)I"⟩
abbrev cX1_bestLane : ByteArray := prog_3_method_5_code
def yX1_bestLane : MethodName := ⟨RX1, "bestLane", "(I)I"⟩
abbrev cX1_fewestWith : ByteArray := prog_3_method_6_code
def yX1_fewestWith : MethodName := ⟨RX1, "fewestWith", "(II)I"⟩
abbrev cX1_fillTable : ByteArray := prog_3_method_7_code
def yX1_fillTable : MethodName := ⟨RX1, "fillTable", "()V"⟩
abbrev cX1_layStrides : ByteArray := prog_3_method_8_code
def yX1_layStrides : MethodName := ⟨RX1, "layStrides", "()I"⟩
abbrev cX1_stepBack : ByteArray := prog_3_method_9_code
def yX1_stepBack : MethodName := ⟨RX1, "stepBack", "()V"⟩
abbrev cX1_fillState : ByteArray := prog_3_method_10_code
def yX1_fillState : MethodName := ⟨RX1, "fillState", "(I)V"⟩
abbrev cX1_fewestFrom : ByteArray := prog_3_method_11_code
def yX1_fewestFrom : MethodName := ⟨RX1, "fewestFrom", "(II)I"⟩
abbrev cX1_fewestOfAllOrders : ByteArray := prog_3_method_12_code
def yX1_fewestOfAllOrders : MethodName := ⟨RX1, "fewestOfAllOrders", "(I)I"⟩
abbrev cX1_tryOrders : ByteArray := prog_3_method_13_code
def yX1_tryOrders : MethodName := ⟨RX1, "tryOrders", "(LPaintSequencer$Plan;IIII)I"⟩
def RX2 : String := "PaintSequencer"
def TX2 : u_T := fun k => match k with
  | 0 => ("PaintSequencer", "lanes", "[LPaintSequencer$Lane;", true)
  | 1 => ("PaintSequencer", "colours", "[I", true)
  | 2 => ("PaintSequencer", "places", "[I", true)
  | 3 => ("PaintSequencer", "positions", "[I", true)
  | 4 => ("PaintSequencer", "order", "[I", true)
  | 5 => ("PaintSequencer", "plan", "LPaintSequencer$Plan;", true)
  | 6 => ("PaintSequencer", "laneCount", "I", false)
  | 7 => ("PaintSequencer", "depth", "I", false)
  | 8 => ("PaintSequencer", "storeRoom", "I", false)
  | 9 => ("PaintSequencer", "entryRule", "I", false)
  | 10 => ("PaintSequencer", "exitRule", "I", false)
  | 11 => ("PaintSequencer", "bodies", "I", false)
  | 12 => ("PaintSequencer", "assembled", "I", false)
  | 13 => ("PaintSequencer", "laneInTurn", "I", false)
  | 14 => ("PaintSequencer", "latestColour", "I", false)
  | 15 => ("PaintSequencer", "changes", "I", false)
  | _ => ("PaintSequencer", "released", "I", false)
def tyX2 : Nat → FieldType := fun k => match k with
  | 0 => .array (.object "PaintSequencer$Lane")
  | 1 => .array .int
  | 2 => .array .int
  | 3 => .array .int
  | 4 => .array .int
  | 5 => .object "PaintSequencer$Plan"
  | 6 => .int
  | 7 => .int
  | 8 => .int
  | 9 => .int
  | 10 => .int
  | 11 => .int
  | 12 => .int
  | 13 => .int
  | 14 => .int
  | 15 => .int
  | _ => .int
abbrev wsX20 : List Cond := u_ws RX2 TX2 17
theorem nmX2 : ∀ a, a < 17 → ∀ b, b < 17 → a ≠ b → (TX2 a).2.1 ≠ (TX2 b).2.1 := by decide +kernel
theorem tyX2_ok : ∀ k, k < 17 → parseFieldDescriptor (TX2 k).2.2.1 = some (tyX2 k) := by decide +kernel
abbrev cX2_init : ByteArray := prog_1_method_1_code
def yX2_init : MethodName := ⟨RX2, "<init>", "()V"⟩
abbrev cX2_begin : ByteArray := prog_1_method_2_code
def yX2_begin : MethodName := ⟨RX2, "begin", "(III)I"⟩
abbrev cX2_arriveIn : ByteArray := prog_1_method_5_code
def yX2_arriveIn : MethodName := ⟨RX2, "arriveIn", "(II)I"⟩
abbrev cX2_releaseFrom : ByteArray := prog_1_method_7_code
def yX2_releaseFrom : MethodName := ⟨RX2, "releaseFrom", "(I)I"⟩
abbrev cX2_releaseBest : ByteArray := prog_1_method_8_code
def yX2_releaseBest : MethodName := ⟨RX2, "releaseBest", "()I"⟩
abbrev cX2_assemble : ByteArray := prog_1_method_11_code
def yX2_assemble : MethodName := ⟨RX2, "assemble", "()I"⟩
abbrev cX2_bodies : ByteArray := prog_1_method_12_code
def yX2_bodies : MethodName := ⟨RX2, "bodies", "()I"⟩
abbrev cX2_where : ByteArray := prog_1_method_14_code
def yX2_where : MethodName := ⟨RX2, "where", "(I)I"⟩
abbrev cX2_inLane : ByteArray := prog_1_method_15_code
def yX2_inLane : MethodName := ⟨RX2, "inLane", "(I)I"⟩
abbrev cX2_stored : ByteArray := prog_1_method_18_code
def yX2_stored : MethodName := ⟨RX2, "stored", "()I"⟩
abbrev cX2_changes : ByteArray := prog_1_method_19_code
def yX2_changes : MethodName := ⟨RX2, "changes", "()I"⟩
abbrev cX2_released : ByteArray := prog_1_method_20_code
def yX2_released : MethodName := ⟨RX2, "released", "()I"⟩
abbrev cX2_assembledAt : ByteArray := prog_1_method_21_code
def yX2_assembledAt : MethodName := ⟨RX2, "assembledAt", "(I)I"⟩
abbrev cX2_lateness : ByteArray := prog_1_method_22_code
def yX2_lateness : MethodName := ⟨RX2, "lateness", "(I)I"⟩
abbrev cX2_worstLateness : ByteArray := prog_1_method_23_code
def yX2_worstLateness : MethodName := ⟨RX2, "worstLateness", "()I"⟩
abbrev cX2_fewestChanges : ByteArray := prog_1_method_24_code
def yX2_fewestChanges : MethodName := ⟨RX2, "fewestChanges", "()I"⟩
abbrev cX2_fewestByAll : ByteArray := prog_1_method_25_code
def yX2_fewestByAll : MethodName := ⟨RX2, "fewestByAll", "()I"⟩
abbrev cX2_isColour : ByteArray := prog_1_method_26_code
def yX2_isColour : MethodName := ⟨RX2, "isColour", "(I)Z"⟩
abbrev cX2_isLane : ByteArray := prog_1_method_27_code
def yX2_isLane : MethodName := ⟨RX2, "isLane", "(I)Z"⟩
abbrev cX2_isBody : ByteArray := prog_1_method_28_code
def yX2_isBody : MethodName := ⟨RX2, "isBody", "(I)Z"⟩
abbrev cX2_hasRoom : ByteArray := prog_1_method_29_code
def yX2_hasRoom : MethodName := ⟨RX2, "hasRoom", "(I)Z"⟩
abbrev cX2_storeIsFull : ByteArray := prog_1_method_30_code
def yX2_storeIsFull : MethodName := ⟨RX2, "storeIsFull", "()Z"⟩
abbrev cX2_countAt : ByteArray := prog_1_method_31_code
def yX2_countAt : MethodName := ⟨RX2, "countAt", "(I)I"⟩
abbrev cX2_countInLanes : ByteArray := prog_1_method_32_code
def yX2_countInLanes : MethodName := ⟨RX2, "countInLanes", "()I"⟩
abbrev cX2_lowestInStore : ByteArray := prog_1_method_33_code
def yX2_lowestInStore : MethodName := ⟨RX2, "lowestInStore", "()I"⟩
abbrev cX2_laneBehind : ByteArray := prog_1_method_38_code
def yX2_laneBehind : MethodName := ⟨RX2, "laneBehind", "(I)I"⟩
abbrev cX2_newBody : ByteArray := prog_1_method_39_code
def yX2_newBody : MethodName := ⟨RX2, "newBody", "(I)I"⟩
abbrev cX2_putInto : ByteArray := prog_1_method_40_code
def yX2_putInto : MethodName := ⟨RX2, "putInto", "(II)V"⟩
abbrev cX2_colourOf : ByteArray := prog_1_method_45_code
def yX2_colourOf : MethodName := ⟨RX2, "colourOf", "(I)I"⟩
abbrev cX2_takeHeadOf : ByteArray := prog_1_method_46_code
def yX2_takeHeadOf : MethodName := ⟨RX2, "takeHeadOf", "(I)I"⟩
abbrev cX2_changeBetween : ByteArray := prog_1_method_47_code
def yX2_changeBetween : MethodName := ⟨RX2, "changeBetween", "(II)I"⟩
abbrev cX2_forgetBodies : ByteArray := prog_1_method_48_code
def yX2_forgetBodies : MethodName := ⟨RX2, "forgetBodies", "()V"⟩
abbrev cX2_copyLanesIntoPlan : ByteArray := prog_1_method_49_code
def yX2_copyLanesIntoPlan : MethodName := ⟨RX2, "copyLanesIntoPlan", "()V"⟩
def RX3 : String := "PaintSequencerModel"
def TX3 : u_T := fun k => match k with
  | _ => ("", "", "", false)
def tyX3 : Nat → FieldType := fun k => match k with
  | _ => .int
abbrev wsX30 : List Cond := u_ws RX3 TX3 0
theorem nmX3 : ∀ a, a < 0 → ∀ b, b < 0 → a ≠ b → (TX3 a).2.1 ≠ (TX3 b).2.1 := by decide +kernel
theorem tyX3_ok : ∀ k, k < 0 → parseFieldDescriptor (TX3 k).2.2.1 = some (tyX3 k) := by decide +kernel
def RJ0 : String := "java/lang/String"
def TJ0 : u_T := fun k => match k with
  | _ => ("", "", "", false)
def tyJ0 : Nat → FieldType := fun k => match k with
  | _ => .int
abbrev wsJ00 : List Cond := u_ws RJ0 TJ0 0
theorem nmJ0 : ∀ a, a < 0 → ∀ b, b < 0 → a ≠ b → (TJ0 a).2.1 ≠ (TJ0 b).2.1 := by decide +kernel
theorem tyJ0_ok : ∀ k, k < 0 → parseFieldDescriptor (TJ0 k).2.2.1 = some (tyJ0 k) := by decide +kernel
def RL : String := "PaintSequencerLaw"
abbrev cL_cell : ByteArray := method_2_code
def yL_cell : MethodName := ⟨RL, "cell", "([II)I"⟩
abbrev cL_at : ByteArray := method_3_code
def yL_at : MethodName := ⟨RL, "at", "(II)I"⟩
abbrev cL_fill : ByteArray := method_4_code
def yL_fill : MethodName := ⟨RL, "fill", "(LPaintSequencer;III)I"⟩
abbrev cL_first : ByteArray := method_5_code
def yL_first : MethodName := ⟨RL, "first", "(LPaintSequencer;III)Z"⟩
abbrev cL_bounds : ByteArray := method_6_code
def yL_bounds : MethodName := ⟨RL, "bounds", "(LPaintSequencer;IIIII)Z"⟩
abbrev cL_follows : ByteArray := method_7_code
def yL_follows : MethodName := ⟨RL, "follows", "(LPaintSequencer;I)Z"⟩
abbrev cL_ends : ByteArray := method_8_code
def yL_ends : MethodName := ⟨RL, "ends", "(LPaintSequencer;I)Z"⟩
abbrev cL_round : ByteArray := method_9_code
def yL_round : MethodName := ⟨RL, "round", "(LPaintSequencer;III)Z"⟩
abbrev cL_law : ByteArray := code
def yL_law : MethodName := ⟨RL, "law", "([I)Z"⟩
def wsX0_init : List Cond := .code yX0_init cX0_init 1 none :: ([.methodLink RX0 3 objectInit, .instanceMethod objectInit, .code objectInit ⟨#[0xb1]⟩ 1 none, .arrayClass .int, .fieldLink RX0 9 "PaintSequencer$Lane" "row" "[I"] ++ wsX00)
def wsX0_count : List Cond := .code yX0_count cX0_count 1 (some .int) :: ([.fieldLink RX0 15 "PaintSequencer$Lane" "size" "I"] ++ wsX00)
def wsX0_isEmpty : List Cond := .code yX0_isEmpty cX0_isEmpty 1 (some .boolean) :: ([.fieldLink RX0 15 "PaintSequencer$Lane" "size" "I"] ++ wsX00)
def wsX0_at : List Cond := .code yX0_at cX0_at 2 (some .int) :: ([.fieldLink RX0 15 "PaintSequencer$Lane" "size" "I", .fieldLink RX0 9 "PaintSequencer$Lane" "row" "[I"] ++ wsX00)
def wsX0_add : List Cond := .code yX0_add cX0_add 2 none :: ([.fieldLink RX0 15 "PaintSequencer$Lane" "size" "I", .fieldLink RX0 9 "PaintSequencer$Lane" "row" "[I"] ++ wsX00)
def wsX0_takeHead : List Cond := .code yX0_takeHead cX0_takeHead 3 (some .int) :: ([.fieldLink RX0 15 "PaintSequencer$Lane" "size" "I", .fieldLink RX0 9 "PaintSequencer$Lane" "row" "[I", .methodLink RX0 19 yX0_at, .instanceMethod yX0_at, .selects RX0 yX0_at yX0_at, .initialized RX0, .code yX0_at cX0_at 2 (some .int)] ++ wsX00)
def wsX0_clear : List Cond := .code yX0_clear cX0_clear 1 none :: ([.fieldLink RX0 15 "PaintSequencer$Lane" "size" "I"] ++ wsX00)
def wsX1_init : List Cond := .code yX1_init cX1_init 1 none :: ([.methodLink RX1 3 objectInit, .instanceMethod objectInit, .code objectInit ⟨#[0xb1]⟩ 1 none, .classLink RX1 9 "[[I", .arrayClass .int, .fieldLink RX1 11 "PaintSequencer$Plan" "waiting" "[[I", .fieldLink RX1 16 "PaintSequencer$Plan" "sizes" "[I", .fieldLink RX1 20 "PaintSequencer$Plan" "taken" "[I", .fieldLink RX1 23 "PaintSequencer$Plan" "strides" "[I", .fieldLink RX1 26 "PaintSequencer$Plan" "leasts" "[I", .fieldLink RX1 29 "PaintSequencer$Plan" "starts" "[I"] ++ wsX10)
def wsX1_clear : List Cond := .code yX1_clear cX1_clear 2 none :: ([.fieldLink RX1 16 "PaintSequencer$Plan" "sizes" "[I"] ++ wsX10)
def wsX1_add : List Cond := .code yX1_add cX1_add 3 none :: ([.fieldLink RX1 16 "PaintSequencer$Plan" "sizes" "[I", .fieldLink RX1 11 "PaintSequencer$Plan" "waiting" "[[I"] ++ wsX10)
def wsX1_layStrides : List Cond := .code yX1_layStrides cX1_layStrides 3 (some .int) :: ([.fieldLink RX1 23 "PaintSequencer$Plan" "strides" "[I", .fieldLink RX1 16 "PaintSequencer$Plan" "sizes" "[I"] ++ wsX10)
def wsX1_fewestFrom : List Cond := .code yX1_fewestFrom cX1_fewestFrom 5 (some .int) :: ([.fieldLink RX1 29 "PaintSequencer$Plan" "starts" "[I", .fieldLink RX1 26 "PaintSequencer$Plan" "leasts" "[I"] ++ wsX10)
def wsX1_fillState : List Cond := .code yX1_fillState cX1_fillState 7 none :: ([.fieldLink RX1 20 "PaintSequencer$Plan" "taken" "[I", .fieldLink RX1 16 "PaintSequencer$Plan" "sizes" "[I", .fieldLink RX1 11 "PaintSequencer$Plan" "waiting" "[[I", .fieldLink RX1 23 "PaintSequencer$Plan" "strides" "[I", .fieldLink RX1 26 "PaintSequencer$Plan" "leasts" "[I", .fieldLink RX1 29 "PaintSequencer$Plan" "starts" "[I", .methodLink RX1 35 yX1_fewestFrom, .instanceMethod yX1_fewestFrom, .selects RX1 yX1_fewestFrom yX1_fewestFrom, .initialized RX1, .code yX1_fewestFrom cX1_fewestFrom 5 (some .int)] ++ wsX10)
def wsX1_stepBack : List Cond := .code yX1_stepBack cX1_stepBack 2 none :: ([.fieldLink RX1 20 "PaintSequencer$Plan" "taken" "[I", .fieldLink RX1 16 "PaintSequencer$Plan" "sizes" "[I"] ++ wsX10)
def wsX1_fillTable : List Cond := .code yX1_fillTable cX1_fillTable 3 none :: ([.fieldLink RX1 20 "PaintSequencer$Plan" "taken" "[I", .fieldLink RX1 16 "PaintSequencer$Plan" "sizes" "[I", .methodLink RX1 49 yX1_layStrides, .instanceMethod yX1_layStrides, .selects RX1 yX1_layStrides yX1_layStrides, .initialized RX1, .code yX1_layStrides cX1_layStrides 3 (some .int), .fieldLink RX1 23 "PaintSequencer$Plan" "strides" "[I", .methodLink RX1 53 yX1_fillState, .instanceMethod yX1_fillState, .selects RX1 yX1_fillState yX1_fillState, .code yX1_fillState cX1_fillState 7 none, .fieldLink RX1 11 "PaintSequencer$Plan" "waiting" "[[I", .fieldLink RX1 26 "PaintSequencer$Plan" "leasts" "[I", .fieldLink RX1 29 "PaintSequencer$Plan" "starts" "[I", .methodLink RX1 35 yX1_fewestFrom, .instanceMethod yX1_fewestFrom, .selects RX1 yX1_fewestFrom yX1_fewestFrom, .code yX1_fewestFrom cX1_fewestFrom 5 (some .int), .methodLink RX1 57 yX1_stepBack, .instanceMethod yX1_stepBack, .selects RX1 yX1_stepBack yX1_stepBack, .code yX1_stepBack cX1_stepBack 2 none] ++ wsX10)
def wsX1_fewest_r1 : List Cond := [Cond.methodLink RX1 32 yX1_fillTable, Cond.instanceMethod yX1_fillTable, Cond.selects RX1 yX1_fillTable yX1_fillTable, Cond.initialized RX1, Cond.code yX1_fillTable cX1_fillTable 3 none, Cond.fieldLink RX1 20 "PaintSequencer$Plan" "taken" "[I", Cond.fieldLink RX1 16 "PaintSequencer$Plan" "sizes" "[I", Cond.methodLink RX1 49 yX1_layStrides, Cond.instanceMethod yX1_layStrides, Cond.selects RX1 yX1_layStrides yX1_layStrides, Cond.code yX1_layStrides cX1_layStrides 3 (some .int), Cond.fieldLink RX1 23 "PaintSequencer$Plan" "strides" "[I", Cond.methodLink RX1 53 yX1_fillState, Cond.instanceMethod yX1_fillState, Cond.selects RX1 yX1_fillState yX1_fillState, Cond.code yX1_fillState cX1_fillState 7 none, Cond.fieldLink RX1 11 "PaintSequencer$Plan" "waiting" "[[I", Cond.fieldLink RX1 26 "PaintSequencer$Plan" "leasts" "[I", Cond.fieldLink RX1 29 "PaintSequencer$Plan" "starts" "[I", Cond.methodLink RX1 35 yX1_fewestFrom, Cond.instanceMethod yX1_fewestFrom, Cond.selects RX1 yX1_fewestFrom yX1_fewestFrom, Cond.code yX1_fewestFrom cX1_fewestFrom 5 (some .int), Cond.methodLink RX1 57 yX1_stepBack]
def wsX1_fewest_r2 : List Cond := [Cond.instanceMethod yX1_stepBack, Cond.selects RX1 yX1_stepBack yX1_stepBack, Cond.code yX1_stepBack cX1_stepBack 2 none]
def wsX1_fewest : List Cond := .code yX1_fewest cX1_fewest 2 (some .int) :: ((wsX1_fewest_r1 ++ wsX1_fewest_r2) ++ wsX10)
def wsX2_changeBetween : List Cond := .code yX2_changeBetween cX2_changeBetween 2 (some .int) :: ([])
def wsX1_fewestWith : List Cond := .code yX1_fewestWith cX1_fewestWith 4 (some .int) :: ([.fieldLink RX1 11 "PaintSequencer$Plan" "waiting" "[[I", .fieldLink RX1 23 "PaintSequencer$Plan" "strides" "[I", .static yX2_changeBetween, .initialized RX2, .code yX2_changeBetween cX2_changeBetween 2 (some .int), .methodLink RX1 35 yX1_fewestFrom, .instanceMethod yX1_fewestFrom, .selects RX1 yX1_fewestFrom yX1_fewestFrom, .initialized RX1, .code yX1_fewestFrom cX1_fewestFrom 5 (some .int), .fieldLink RX1 29 "PaintSequencer$Plan" "starts" "[I", .fieldLink RX1 26 "PaintSequencer$Plan" "leasts" "[I"] ++ wsX10)
def wsX1_bestLane_r1 : List Cond := [Cond.fieldLink RX1 16 "PaintSequencer$Plan" "sizes" "[I", Cond.methodLink RX1 39 yX1_fewest, Cond.instanceMethod yX1_fewest, Cond.selects RX1 yX1_fewest yX1_fewest, Cond.initialized RX1, Cond.code yX1_fewest cX1_fewest 2 (some .int), Cond.methodLink RX1 32 yX1_fillTable, Cond.instanceMethod yX1_fillTable, Cond.selects RX1 yX1_fillTable yX1_fillTable, Cond.code yX1_fillTable cX1_fillTable 3 none, Cond.fieldLink RX1 20 "PaintSequencer$Plan" "taken" "[I", Cond.methodLink RX1 49 yX1_layStrides, Cond.instanceMethod yX1_layStrides, Cond.selects RX1 yX1_layStrides yX1_layStrides, Cond.code yX1_layStrides cX1_layStrides 3 (some .int), Cond.fieldLink RX1 23 "PaintSequencer$Plan" "strides" "[I", Cond.methodLink RX1 53 yX1_fillState, Cond.instanceMethod yX1_fillState, Cond.selects RX1 yX1_fillState yX1_fillState, Cond.code yX1_fillState cX1_fillState 7 none, Cond.fieldLink RX1 11 "PaintSequencer$Plan" "waiting" "[[I", Cond.fieldLink RX1 26 "PaintSequencer$Plan" "leasts" "[I", Cond.fieldLink RX1 29 "PaintSequencer$Plan" "starts" "[I", Cond.methodLink RX1 35 yX1_fewestFrom]
def wsX1_bestLane_r2 : List Cond := [Cond.instanceMethod yX1_fewestFrom, Cond.selects RX1 yX1_fewestFrom yX1_fewestFrom, Cond.code yX1_fewestFrom cX1_fewestFrom 5 (some .int), Cond.methodLink RX1 57 yX1_stepBack, Cond.instanceMethod yX1_stepBack, Cond.selects RX1 yX1_stepBack yX1_stepBack, Cond.code yX1_stepBack cX1_stepBack 2 none, Cond.methodLink RX1 43 yX1_fewestWith, Cond.instanceMethod yX1_fewestWith, Cond.selects RX1 yX1_fewestWith yX1_fewestWith, Cond.code yX1_fewestWith cX1_fewestWith 4 (some .int), Cond.static yX2_changeBetween, Cond.initialized RX2, Cond.code yX2_changeBetween cX2_changeBetween 2 (some .int)]
def wsX1_bestLane : List Cond := .code yX1_bestLane cX1_bestLane 4 (some .int) :: ((wsX1_bestLane_r1 ++ wsX1_bestLane_r2) ++ wsX10)
def wsX1_tryOrders : List Cond := .code yX1_tryOrders cX1_tryOrders 10 (some .int) :: ([.fieldLink RX1 20 "PaintSequencer$Plan" "taken" "[I", .fieldLink RX1 16 "PaintSequencer$Plan" "sizes" "[I", .fieldLink RX1 11 "PaintSequencer$Plan" "waiting" "[[I", .static yX2_changeBetween, .initialized RX2, .code yX2_changeBetween cX2_changeBetween 2 (some .int), .methodLink RX1 60 yX1_tryOrders, .static yX1_tryOrders, .initialized RX1] ++ wsX10)
def wsX1_fewestOfAllOrders : List Cond := .code yX1_fewestOfAllOrders cX1_fewestOfAllOrders 4 (some .int) :: ([.fieldLink RX1 20 "PaintSequencer$Plan" "taken" "[I", .fieldLink RX1 16 "PaintSequencer$Plan" "sizes" "[I", .methodLink RX1 60 yX1_tryOrders, .static yX1_tryOrders, .initialized RX1, .code yX1_tryOrders cX1_tryOrders 10 (some .int), .fieldLink RX1 11 "PaintSequencer$Plan" "waiting" "[[I", .static yX2_changeBetween, .initialized RX2, .code yX2_changeBetween cX2_changeBetween 2 (some .int)] ++ wsX10)
def wsX2_init_r1 : List Cond := [Cond.methodLink RX2 1 objectInit, Cond.instanceMethod objectInit, Cond.code objectInit ⟨#[0xb1]⟩ 1 none, Cond.classLink RX2 9 RX0, Cond.fieldLink RX2 11 "PaintSequencer" "lanes" "[LPaintSequencer$Lane;", Cond.instantiable RX0 2, Cond.initialized RX0, Cond.arrayClass .int, Cond.fieldLink RX2 16 "PaintSequencer" "colours" "[I", Cond.fieldLink RX2 20 "PaintSequencer" "places" "[I", Cond.fieldLink RX2 23 "PaintSequencer" "positions" "[I", Cond.fieldLink RX2 26 "PaintSequencer" "order" "[I", Cond.classLink RX2 29 RX1, Cond.instantiable RX1 6, Cond.initialized RX1, Cond.fieldLink RX2 32 "PaintSequencer" "plan" "LPaintSequencer$Plan;", Cond.fieldLink RX2 36 "PaintSequencer" "laneCount" "I", Cond.fieldLink RX2 40 "PaintSequencer" "depth" "I", Cond.fieldLink RX2 43 "PaintSequencer" "storeRoom" "I", Cond.fieldLink RX2 46 "PaintSequencer" "latestColour" "I", Cond.instanceMethod yX0_init, Cond.code yX0_init cX0_init 1 none, Cond.methodLink RX0 3 objectInit, Cond.fieldLink RX0 9 "PaintSequencer$Lane" "row" "[I"]
def wsX2_init_r2 : List Cond := [Cond.instanceMethod yX1_init, Cond.code yX1_init cX1_init 1 none, Cond.methodLink RX1 3 objectInit, Cond.classLink RX1 9 "[[I", Cond.fieldLink RX1 11 "PaintSequencer$Plan" "waiting" "[[I", Cond.fieldLink RX1 16 "PaintSequencer$Plan" "sizes" "[I", Cond.fieldLink RX1 20 "PaintSequencer$Plan" "taken" "[I", Cond.fieldLink RX1 23 "PaintSequencer$Plan" "strides" "[I", Cond.fieldLink RX1 26 "PaintSequencer$Plan" "leasts" "[I", Cond.fieldLink RX1 29 "PaintSequencer$Plan" "starts" "[I"]
def wsX2_init : List Cond := .code yX2_init cX2_init 2 none :: ((wsX2_init_r1 ++ wsX2_init_r2) ++ wsX20 ++ wsX00 ++ wsX10)
def wsX2_forgetBodies : List Cond := .code yX2_forgetBodies cX2_forgetBodies 2 none :: ([.fieldLink RX2 11 "PaintSequencer" "lanes" "[LPaintSequencer$Lane;", .fieldLink RX2 60 "PaintSequencer" "bodies" "I", .fieldLink RX2 161 "PaintSequencer" "assembled" "I", .fieldLink RX2 208 "PaintSequencer" "laneInTurn" "I", .fieldLink RX2 46 "PaintSequencer" "latestColour" "I", .fieldLink RX2 175 "PaintSequencer" "changes" "I", .fieldLink RX2 178 "PaintSequencer" "released" "I", .methodLink RX2 231 yX0_clear, .instanceMethod yX0_clear, .selects RX0 yX0_clear yX0_clear, .initialized RX0, .code yX0_clear cX0_clear 1 none, .fieldLink RX0 15 "PaintSequencer$Lane" "size" "I"] ++ wsX20 ++ wsX00)
def wsX2_begin : List Cond := .code yX2_begin cX2_begin 5 (some .int) :: ([.classLink RX2 49 "java/lang/IllegalArgumentException", .initialized "java/lang/IllegalArgumentException", .fieldLink RX2 60 "PaintSequencer" "bodies" "I", .fieldLink RX2 36 "PaintSequencer" "laneCount" "I", .fieldLink RX2 40 "PaintSequencer" "depth" "I", .fieldLink RX2 43 "PaintSequencer" "storeRoom" "I", .methodLink RX2 63 yX2_forgetBodies, .instanceMethod yX2_forgetBodies, .selects RX2 yX2_forgetBodies yX2_forgetBodies, .initialized RX2, .code yX2_forgetBodies cX2_forgetBodies 2 none, .fieldLink RX2 11 "PaintSequencer" "lanes" "[LPaintSequencer$Lane;", .fieldLink RX2 161 "PaintSequencer" "assembled" "I", .fieldLink RX2 208 "PaintSequencer" "laneInTurn" "I", .fieldLink RX2 46 "PaintSequencer" "latestColour" "I", .fieldLink RX2 175 "PaintSequencer" "changes" "I", .fieldLink RX2 178 "PaintSequencer" "released" "I", .methodLink RX2 231 yX0_clear, .instanceMethod yX0_clear, .selects RX0 yX0_clear yX0_clear, .initialized RX0, .code yX0_clear cX0_clear 1 none, .fieldLink RX0 15 "PaintSequencer$Lane" "size" "I"] ++ wsX20 ++ wsX00 ++ (vx_atS RX2 53 "java/lang/IllegalArgumentException" ["java/lang/RuntimeException", "java/lang/Exception"]).filter goodWord)
def wsX2_isColour : List Cond := .code yX2_isColour cX2_isColour 1 (some .boolean) :: ([])
def wsX2_isLane : List Cond := .code yX2_isLane cX2_isLane 2 (some .boolean) :: ([.fieldLink RX2 36 "PaintSequencer" "laneCount" "I"] ++ wsX20)
def wsX2_hasRoom : List Cond := .code yX2_hasRoom cX2_hasRoom 2 (some .boolean) :: ([.fieldLink RX2 11 "PaintSequencer" "lanes" "[LPaintSequencer$Lane;", .fieldLink RX2 40 "PaintSequencer" "depth" "I", .methodLink RX2 164 yX0_count, .instanceMethod yX0_count, .selects RX0 yX0_count yX0_count, .initialized RX0, .code yX0_count cX0_count 1 (some .int), .fieldLink RX0 15 "PaintSequencer$Lane" "size" "I"] ++ wsX20 ++ wsX00)
def wsX2_newBody : List Cond := .code yX2_newBody cX2_newBody 3 (some .int) :: ([.fieldLink RX2 60 "PaintSequencer" "bodies" "I", .fieldLink RX2 16 "PaintSequencer" "colours" "[I"] ++ wsX20)
def wsX2_laneBehind : List Cond := .code yX2_laneBehind cX2_laneBehind 2 (some .int) :: ([.fieldLink RX2 36 "PaintSequencer" "laneCount" "I"] ++ wsX20)
def wsX2_putInto : List Cond := .code yX2_putInto cX2_putInto 3 none :: ([.fieldLink RX2 11 "PaintSequencer" "lanes" "[LPaintSequencer$Lane;", .fieldLink RX2 20 "PaintSequencer" "places" "[I", .fieldLink RX2 208 "PaintSequencer" "laneInTurn" "I", .methodLink RX2 214 yX0_add, .instanceMethod yX0_add, .selects RX0 yX0_add yX0_add, .initialized RX0, .code yX0_add cX0_add 2 none, .fieldLink RX0 15 "PaintSequencer$Lane" "size" "I", .fieldLink RX0 9 "PaintSequencer$Lane" "row" "[I", .methodLink RX2 211 yX2_laneBehind, .instanceMethod yX2_laneBehind, .selects RX2 yX2_laneBehind yX2_laneBehind, .initialized RX2, .code yX2_laneBehind cX2_laneBehind 2 (some .int), .fieldLink RX2 36 "PaintSequencer" "laneCount" "I"] ++ wsX20 ++ wsX00)
def wsX2_arriveIn_r1 : List Cond := [Cond.classLink RX2 49 "java/lang/IllegalArgumentException", Cond.initialized "java/lang/IllegalArgumentException", Cond.classLink RX2 103 "java/lang/IndexOutOfBoundsException", Cond.initialized "java/lang/IndexOutOfBoundsException", Cond.classLink RX2 82 "java/lang/IllegalStateException", Cond.initialized "java/lang/IllegalStateException", Cond.fieldLink RX2 60 "PaintSequencer" "bodies" "I", Cond.methodLink RX2 76 yX2_isColour, Cond.static yX2_isColour, Cond.initialized RX2, Cond.code yX2_isColour cX2_isColour 1 (some .boolean), Cond.methodLink RX2 100 yX2_isLane, Cond.instanceMethod yX2_isLane, Cond.selects RX2 yX2_isLane yX2_isLane, Cond.code yX2_isLane cX2_isLane 2 (some .boolean), Cond.fieldLink RX2 36 "PaintSequencer" "laneCount" "I", Cond.methodLink RX2 108 yX2_hasRoom, Cond.instanceMethod yX2_hasRoom, Cond.selects RX2 yX2_hasRoom yX2_hasRoom, Cond.code yX2_hasRoom cX2_hasRoom 2 (some .boolean), Cond.fieldLink RX2 11 "PaintSequencer" "lanes" "[LPaintSequencer$Lane;", Cond.fieldLink RX2 40 "PaintSequencer" "depth" "I", Cond.methodLink RX2 164 yX0_count, Cond.instanceMethod yX0_count]
def wsX2_arriveIn_r2 : List Cond := [Cond.selects RX0 yX0_count yX0_count, Cond.initialized RX0, Cond.code yX0_count cX0_count 1 (some .int), Cond.fieldLink RX0 15 "PaintSequencer$Lane" "size" "I", Cond.methodLink RX2 93 yX2_newBody, Cond.instanceMethod yX2_newBody, Cond.selects RX2 yX2_newBody yX2_newBody, Cond.code yX2_newBody cX2_newBody 3 (some .int), Cond.fieldLink RX2 16 "PaintSequencer" "colours" "[I", Cond.methodLink RX2 96 yX2_putInto, Cond.instanceMethod yX2_putInto, Cond.selects RX2 yX2_putInto yX2_putInto, Cond.code yX2_putInto cX2_putInto 3 none, Cond.fieldLink RX2 20 "PaintSequencer" "places" "[I", Cond.fieldLink RX2 208 "PaintSequencer" "laneInTurn" "I", Cond.methodLink RX2 214 yX0_add, Cond.instanceMethod yX0_add, Cond.selects RX0 yX0_add yX0_add, Cond.code yX0_add cX0_add 2 none, Cond.fieldLink RX0 9 "PaintSequencer$Lane" "row" "[I", Cond.methodLink RX2 211 yX2_laneBehind, Cond.instanceMethod yX2_laneBehind, Cond.selects RX2 yX2_laneBehind yX2_laneBehind, Cond.code yX2_laneBehind cX2_laneBehind 2 (some .int)]
def wsX2_arriveIn : List Cond := .code yX2_arriveIn cX2_arriveIn 4 (some .int) :: ((wsX2_arriveIn_r1 ++ wsX2_arriveIn_r2) ++ wsX20 ++ wsX00 ++ (vx_atS RX2 53 "java/lang/IllegalArgumentException" ["java/lang/RuntimeException", "java/lang/Exception"]).filter goodWord ++ (vx_atS RX2 107 "java/lang/IndexOutOfBoundsException" ["java/lang/RuntimeException", "java/lang/Exception"]).filter goodWord ++ (vx_atS RX2 86 "java/lang/IllegalStateException" ["java/lang/RuntimeException", "java/lang/Exception"]).filter goodWord)
def wsX2_countAt : List Cond := .code yX2_countAt cX2_countAt 4 (some .int) :: ([.fieldLink RX2 60 "PaintSequencer" "bodies" "I", .fieldLink RX2 20 "PaintSequencer" "places" "[I"] ++ wsX20)
def wsX2_storeIsFull : List Cond := .code yX2_storeIsFull cX2_storeIsFull 1 (some .boolean) :: ([.fieldLink RX2 43 "PaintSequencer" "storeRoom" "I", .methodLink RX2 151 yX2_countAt, .instanceMethod yX2_countAt, .selects RX2 yX2_countAt yX2_countAt, .initialized RX2, .code yX2_countAt cX2_countAt 4 (some .int), .fieldLink RX2 60 "PaintSequencer" "bodies" "I", .fieldLink RX2 20 "PaintSequencer" "places" "[I"] ++ wsX20)
def wsX2_isBody : List Cond := .code yX2_isBody cX2_isBody 2 (some .boolean) :: ([.fieldLink RX2 60 "PaintSequencer" "bodies" "I"] ++ wsX20)
def wsX2_takeHeadOf_r1 : List Cond := [Cond.fieldLink RX2 11 "PaintSequencer" "lanes" "[LPaintSequencer$Lane;", Cond.fieldLink RX2 20 "PaintSequencer" "places" "[I", Cond.fieldLink RX2 175 "PaintSequencer" "changes" "I", Cond.fieldLink RX2 46 "PaintSequencer" "latestColour" "I", Cond.fieldLink RX2 16 "PaintSequencer" "colours" "[I", Cond.fieldLink RX2 178 "PaintSequencer" "released" "I", Cond.methodLink RX2 225 yX0_takeHead, Cond.instanceMethod yX0_takeHead, Cond.selects RX0 yX0_takeHead yX0_takeHead, Cond.initialized RX0, Cond.code yX0_takeHead cX0_takeHead 3 (some .int), Cond.fieldLink RX0 15 "PaintSequencer$Lane" "size" "I", Cond.fieldLink RX0 9 "PaintSequencer$Lane" "row" "[I", Cond.methodLink RX0 19 yX0_at, Cond.instanceMethod yX0_at, Cond.selects RX0 yX0_at yX0_at, Cond.code yX0_at cX0_at 2 (some .int), Cond.methodLink RX2 144 yX2_isBody, Cond.instanceMethod yX2_isBody, Cond.selects RX2 yX2_isBody yX2_isBody, Cond.initialized RX2, Cond.code yX2_isBody cX2_isBody 2 (some .boolean), Cond.fieldLink RX2 60 "PaintSequencer" "bodies" "I", Cond.methodLink RX2 228 yX2_changeBetween]
def wsX2_takeHeadOf_r2 : List Cond := [Cond.static yX2_changeBetween, Cond.code yX2_changeBetween cX2_changeBetween 2 (some .int)]
def wsX2_takeHeadOf : List Cond := .code yX2_takeHeadOf cX2_takeHeadOf 3 (some .int) :: ((wsX2_takeHeadOf_r1 ++ wsX2_takeHeadOf_r2) ++ wsX20 ++ wsX00)
def wsX2_releaseFrom_r1 : List Cond := [Cond.classLink RX2 103 "java/lang/IndexOutOfBoundsException", Cond.initialized "java/lang/IndexOutOfBoundsException", Cond.classLink RX2 82 "java/lang/IllegalStateException", Cond.initialized "java/lang/IllegalStateException", Cond.fieldLink RX2 11 "PaintSequencer" "lanes" "[LPaintSequencer$Lane;", Cond.methodLink RX2 100 yX2_isLane, Cond.instanceMethod yX2_isLane, Cond.selects RX2 yX2_isLane yX2_isLane, Cond.initialized RX2, Cond.code yX2_isLane cX2_isLane 2 (some .boolean), Cond.fieldLink RX2 36 "PaintSequencer" "laneCount" "I", Cond.methodLink RX2 128 yX0_isEmpty, Cond.instanceMethod yX0_isEmpty, Cond.selects RX0 yX0_isEmpty yX0_isEmpty, Cond.initialized RX0, Cond.code yX0_isEmpty cX0_isEmpty 1 (some .boolean), Cond.fieldLink RX0 15 "PaintSequencer$Lane" "size" "I", Cond.methodLink RX2 113 yX2_storeIsFull, Cond.instanceMethod yX2_storeIsFull, Cond.selects RX2 yX2_storeIsFull yX2_storeIsFull, Cond.code yX2_storeIsFull cX2_storeIsFull 1 (some .boolean), Cond.fieldLink RX2 43 "PaintSequencer" "storeRoom" "I", Cond.methodLink RX2 151 yX2_countAt, Cond.instanceMethod yX2_countAt]
def wsX2_releaseFrom_r2 : List Cond := [Cond.selects RX2 yX2_countAt yX2_countAt, Cond.code yX2_countAt cX2_countAt 4 (some .int), Cond.fieldLink RX2 60 "PaintSequencer" "bodies" "I", Cond.fieldLink RX2 20 "PaintSequencer" "places" "[I", Cond.methodLink RX2 125 yX2_takeHeadOf, Cond.instanceMethod yX2_takeHeadOf, Cond.selects RX2 yX2_takeHeadOf yX2_takeHeadOf, Cond.code yX2_takeHeadOf cX2_takeHeadOf 3 (some .int), Cond.fieldLink RX2 175 "PaintSequencer" "changes" "I", Cond.fieldLink RX2 46 "PaintSequencer" "latestColour" "I", Cond.fieldLink RX2 16 "PaintSequencer" "colours" "[I", Cond.fieldLink RX2 178 "PaintSequencer" "released" "I", Cond.methodLink RX2 225 yX0_takeHead, Cond.instanceMethod yX0_takeHead, Cond.selects RX0 yX0_takeHead yX0_takeHead, Cond.code yX0_takeHead cX0_takeHead 3 (some .int), Cond.fieldLink RX0 9 "PaintSequencer$Lane" "row" "[I", Cond.methodLink RX0 19 yX0_at, Cond.instanceMethod yX0_at, Cond.selects RX0 yX0_at yX0_at, Cond.code yX0_at cX0_at 2 (some .int), Cond.methodLink RX2 144 yX2_isBody, Cond.instanceMethod yX2_isBody, Cond.selects RX2 yX2_isBody yX2_isBody]
def wsX2_releaseFrom_r3 : List Cond := [Cond.code yX2_isBody cX2_isBody 2 (some .boolean), Cond.methodLink RX2 228 yX2_changeBetween, Cond.static yX2_changeBetween, Cond.code yX2_changeBetween cX2_changeBetween 2 (some .int)]
def wsX2_releaseFrom : List Cond := .code yX2_releaseFrom cX2_releaseFrom 2 (some .int) :: ((wsX2_releaseFrom_r1 ++ (wsX2_releaseFrom_r2 ++ wsX2_releaseFrom_r3)) ++ wsX20 ++ wsX00 ++ (vx_atS RX2 107 "java/lang/IndexOutOfBoundsException" ["java/lang/RuntimeException", "java/lang/Exception"]).filter goodWord ++ (vx_atS RX2 86 "java/lang/IllegalStateException" ["java/lang/RuntimeException", "java/lang/Exception"]).filter goodWord)
def wsX2_countInLanes : List Cond := .code yX2_countInLanes cX2_countInLanes 3 (some .int) :: ([.fieldLink RX2 36 "PaintSequencer" "laneCount" "I", .fieldLink RX2 11 "PaintSequencer" "lanes" "[LPaintSequencer$Lane;", .methodLink RX2 164 yX0_count, .instanceMethod yX0_count, .selects RX0 yX0_count yX0_count, .initialized RX0, .code yX0_count cX0_count 1 (some .int), .fieldLink RX0 15 "PaintSequencer$Lane" "size" "I"] ++ wsX20 ++ wsX00)
def wsX2_colourOf : List Cond := .code yX2_colourOf cX2_colourOf 2 (some .int) :: ([.fieldLink RX2 16 "PaintSequencer" "colours" "[I", .methodLink RX2 144 yX2_isBody, .instanceMethod yX2_isBody, .selects RX2 yX2_isBody yX2_isBody, .initialized RX2, .code yX2_isBody cX2_isBody 2 (some .boolean), .fieldLink RX2 60 "PaintSequencer" "bodies" "I"] ++ wsX20)
def wsX2_copyLanesIntoPlan_r1 : List Cond := [Cond.fieldLink RX2 32 "PaintSequencer" "plan" "LPaintSequencer$Plan;", Cond.fieldLink RX2 36 "PaintSequencer" "laneCount" "I", Cond.fieldLink RX2 11 "PaintSequencer" "lanes" "[LPaintSequencer$Lane;", Cond.methodLink RX2 234 yX1_clear, Cond.instanceMethod yX1_clear, Cond.selects RX1 yX1_clear yX1_clear, Cond.initialized RX1, Cond.code yX1_clear cX1_clear 2 none, Cond.fieldLink RX1 16 "PaintSequencer$Plan" "sizes" "[I", Cond.methodLink RX2 164 yX0_count, Cond.instanceMethod yX0_count, Cond.selects RX0 yX0_count yX0_count, Cond.initialized RX0, Cond.code yX0_count cX0_count 1 (some .int), Cond.fieldLink RX0 15 "PaintSequencer$Lane" "size" "I", Cond.methodLink RX2 167 yX0_at, Cond.instanceMethod yX0_at, Cond.selects RX0 yX0_at yX0_at, Cond.code yX0_at cX0_at 2 (some .int), Cond.fieldLink RX0 9 "PaintSequencer$Lane" "row" "[I", Cond.methodLink RX2 205 yX2_colourOf, Cond.instanceMethod yX2_colourOf, Cond.selects RX2 yX2_colourOf yX2_colourOf, Cond.initialized RX2]
def wsX2_copyLanesIntoPlan_r2 : List Cond := [Cond.code yX2_colourOf cX2_colourOf 2 (some .int), Cond.fieldLink RX2 16 "PaintSequencer" "colours" "[I", Cond.methodLink RX2 144 yX2_isBody, Cond.instanceMethod yX2_isBody, Cond.selects RX2 yX2_isBody yX2_isBody, Cond.code yX2_isBody cX2_isBody 2 (some .boolean), Cond.fieldLink RX2 60 "PaintSequencer" "bodies" "I", Cond.methodLink RX2 235 yX1_add, Cond.instanceMethod yX1_add, Cond.selects RX1 yX1_add yX1_add, Cond.code yX1_add cX1_add 3 none, Cond.fieldLink RX1 11 "PaintSequencer$Plan" "waiting" "[[I"]
def wsX2_copyLanesIntoPlan : List Cond := .code yX2_copyLanesIntoPlan cX2_copyLanesIntoPlan 3 none :: ((wsX2_copyLanesIntoPlan_r1 ++ wsX2_copyLanesIntoPlan_r2) ++ wsX20 ++ wsX10 ++ wsX00)
def wsX2_releaseBest_r1 : List Cond := [Cond.classLink RX2 82 "java/lang/IllegalStateException", Cond.initialized "java/lang/IllegalStateException", Cond.fieldLink RX2 32 "PaintSequencer" "plan" "LPaintSequencer$Plan;", Cond.fieldLink RX2 46 "PaintSequencer" "latestColour" "I", Cond.methodLink RX2 113 yX2_storeIsFull, Cond.instanceMethod yX2_storeIsFull, Cond.selects RX2 yX2_storeIsFull yX2_storeIsFull, Cond.initialized RX2, Cond.code yX2_storeIsFull cX2_storeIsFull 1 (some .boolean), Cond.fieldLink RX2 43 "PaintSequencer" "storeRoom" "I", Cond.methodLink RX2 151 yX2_countAt, Cond.instanceMethod yX2_countAt, Cond.selects RX2 yX2_countAt yX2_countAt, Cond.code yX2_countAt cX2_countAt 4 (some .int), Cond.fieldLink RX2 60 "PaintSequencer" "bodies" "I", Cond.fieldLink RX2 20 "PaintSequencer" "places" "[I", Cond.methodLink RX2 133 yX2_countInLanes, Cond.instanceMethod yX2_countInLanes, Cond.selects RX2 yX2_countInLanes yX2_countInLanes, Cond.code yX2_countInLanes cX2_countInLanes 3 (some .int), Cond.fieldLink RX2 36 "PaintSequencer" "laneCount" "I", Cond.fieldLink RX2 11 "PaintSequencer" "lanes" "[LPaintSequencer$Lane;", Cond.methodLink RX2 164 yX0_count, Cond.instanceMethod yX0_count]
def wsX2_releaseBest_r2 : List Cond := [Cond.selects RX0 yX0_count yX0_count, Cond.initialized RX0, Cond.code yX0_count cX0_count 1 (some .int), Cond.fieldLink RX0 15 "PaintSequencer$Lane" "size" "I", Cond.methodLink RX2 138 yX2_copyLanesIntoPlan, Cond.instanceMethod yX2_copyLanesIntoPlan, Cond.selects RX2 yX2_copyLanesIntoPlan yX2_copyLanesIntoPlan, Cond.code yX2_copyLanesIntoPlan cX2_copyLanesIntoPlan 3 none, Cond.methodLink RX2 234 yX1_clear, Cond.instanceMethod yX1_clear, Cond.selects RX1 yX1_clear yX1_clear, Cond.initialized RX1, Cond.code yX1_clear cX1_clear 2 none, Cond.fieldLink RX1 16 "PaintSequencer$Plan" "sizes" "[I", Cond.methodLink RX2 167 yX0_at, Cond.instanceMethod yX0_at, Cond.selects RX0 yX0_at yX0_at, Cond.code yX0_at cX0_at 2 (some .int), Cond.fieldLink RX0 9 "PaintSequencer$Lane" "row" "[I", Cond.methodLink RX2 205 yX2_colourOf, Cond.instanceMethod yX2_colourOf, Cond.selects RX2 yX2_colourOf yX2_colourOf, Cond.code yX2_colourOf cX2_colourOf 2 (some .int), Cond.fieldLink RX2 16 "PaintSequencer" "colours" "[I"]
def wsX2_releaseBest_r3 : List Cond := [Cond.methodLink RX2 144 yX2_isBody, Cond.instanceMethod yX2_isBody, Cond.selects RX2 yX2_isBody yX2_isBody, Cond.code yX2_isBody cX2_isBody 2 (some .boolean), Cond.methodLink RX2 235 yX1_add, Cond.instanceMethod yX1_add, Cond.selects RX1 yX1_add yX1_add, Cond.code yX1_add cX1_add 3 none, Cond.fieldLink RX1 11 "PaintSequencer$Plan" "waiting" "[[I", Cond.methodLink RX2 141 yX1_bestLane, Cond.instanceMethod yX1_bestLane, Cond.selects RX1 yX1_bestLane yX1_bestLane, Cond.code yX1_bestLane cX1_bestLane 4 (some .int), Cond.methodLink RX1 39 yX1_fewest, Cond.instanceMethod yX1_fewest, Cond.selects RX1 yX1_fewest yX1_fewest, Cond.code yX1_fewest cX1_fewest 2 (some .int), Cond.methodLink RX1 32 yX1_fillTable, Cond.instanceMethod yX1_fillTable, Cond.selects RX1 yX1_fillTable yX1_fillTable, Cond.code yX1_fillTable cX1_fillTable 3 none, Cond.fieldLink RX1 20 "PaintSequencer$Plan" "taken" "[I", Cond.methodLink RX1 49 yX1_layStrides, Cond.instanceMethod yX1_layStrides]
def wsX2_releaseBest_r4 : List Cond := [Cond.selects RX1 yX1_layStrides yX1_layStrides, Cond.code yX1_layStrides cX1_layStrides 3 (some .int), Cond.fieldLink RX1 23 "PaintSequencer$Plan" "strides" "[I", Cond.methodLink RX1 53 yX1_fillState, Cond.instanceMethod yX1_fillState, Cond.selects RX1 yX1_fillState yX1_fillState, Cond.code yX1_fillState cX1_fillState 7 none, Cond.fieldLink RX1 26 "PaintSequencer$Plan" "leasts" "[I", Cond.fieldLink RX1 29 "PaintSequencer$Plan" "starts" "[I", Cond.methodLink RX1 35 yX1_fewestFrom, Cond.instanceMethod yX1_fewestFrom, Cond.selects RX1 yX1_fewestFrom yX1_fewestFrom, Cond.code yX1_fewestFrom cX1_fewestFrom 5 (some .int), Cond.methodLink RX1 57 yX1_stepBack, Cond.instanceMethod yX1_stepBack, Cond.selects RX1 yX1_stepBack yX1_stepBack, Cond.code yX1_stepBack cX1_stepBack 2 none, Cond.methodLink RX1 43 yX1_fewestWith, Cond.instanceMethod yX1_fewestWith, Cond.selects RX1 yX1_fewestWith yX1_fewestWith, Cond.code yX1_fewestWith cX1_fewestWith 4 (some .int), Cond.static yX2_changeBetween, Cond.code yX2_changeBetween cX2_changeBetween 2 (some .int), Cond.methodLink RX2 125 yX2_takeHeadOf]
def wsX2_releaseBest_r5 : List Cond := [Cond.instanceMethod yX2_takeHeadOf, Cond.selects RX2 yX2_takeHeadOf yX2_takeHeadOf, Cond.code yX2_takeHeadOf cX2_takeHeadOf 3 (some .int), Cond.fieldLink RX2 175 "PaintSequencer" "changes" "I", Cond.fieldLink RX2 178 "PaintSequencer" "released" "I", Cond.methodLink RX2 225 yX0_takeHead, Cond.instanceMethod yX0_takeHead, Cond.selects RX0 yX0_takeHead yX0_takeHead, Cond.code yX0_takeHead cX0_takeHead 3 (some .int), Cond.methodLink RX0 19 yX0_at, Cond.methodLink RX2 228 yX2_changeBetween]
def wsX2_releaseBest : List Cond := .code yX2_releaseBest cX2_releaseBest 2 (some .int) :: ((wsX2_releaseBest_r1 ++ (wsX2_releaseBest_r2 ++ (wsX2_releaseBest_r3 ++ (wsX2_releaseBest_r4 ++ wsX2_releaseBest_r5)))) ++ wsX20 ++ wsX00 ++ wsX10 ++ (vx_atS RX2 86 "java/lang/IllegalStateException" ["java/lang/RuntimeException", "java/lang/Exception"]).filter goodWord)
def wsX2_lowestInStore : List Cond := .code yX2_lowestInStore cX2_lowestInStore 2 (some .int) :: ([.fieldLink RX2 60 "PaintSequencer" "bodies" "I", .fieldLink RX2 20 "PaintSequencer" "places" "[I"] ++ wsX20)
def wsX2_assemble : List Cond := .code yX2_assemble cX2_assemble 2 (some .int) :: ([.classLink RX2 82 "java/lang/IllegalStateException", .initialized "java/lang/IllegalStateException", .fieldLink RX2 20 "PaintSequencer" "places" "[I", .fieldLink RX2 23 "PaintSequencer" "positions" "[I", .fieldLink RX2 161 "PaintSequencer" "assembled" "I", .fieldLink RX2 26 "PaintSequencer" "order" "[I", .methodLink RX2 156 yX2_lowestInStore, .instanceMethod yX2_lowestInStore, .selects RX2 yX2_lowestInStore yX2_lowestInStore, .initialized RX2, .code yX2_lowestInStore cX2_lowestInStore 2 (some .int), .fieldLink RX2 60 "PaintSequencer" "bodies" "I"] ++ wsX20 ++ (vx_atS RX2 86 "java/lang/IllegalStateException" ["java/lang/RuntimeException", "java/lang/Exception"]).filter goodWord)
def wsX2_bodies : List Cond := .code yX2_bodies cX2_bodies 1 (some .int) :: ([.fieldLink RX2 60 "PaintSequencer" "bodies" "I"] ++ wsX20)
def wsX2_where : List Cond := .code yX2_where cX2_where 2 (some .int) :: ([.classLink RX2 103 "java/lang/IndexOutOfBoundsException", .initialized "java/lang/IndexOutOfBoundsException", .fieldLink RX2 20 "PaintSequencer" "places" "[I", .methodLink RX2 144 yX2_isBody, .instanceMethod yX2_isBody, .selects RX2 yX2_isBody yX2_isBody, .initialized RX2, .code yX2_isBody cX2_isBody 2 (some .boolean), .fieldLink RX2 60 "PaintSequencer" "bodies" "I"] ++ wsX20 ++ (vx_atS RX2 107 "java/lang/IndexOutOfBoundsException" ["java/lang/RuntimeException", "java/lang/Exception"]).filter goodWord)
def wsX2_inLane : List Cond := .code yX2_inLane cX2_inLane 2 (some .int) :: ([.classLink RX2 103 "java/lang/IndexOutOfBoundsException", .initialized "java/lang/IndexOutOfBoundsException", .fieldLink RX2 11 "PaintSequencer" "lanes" "[LPaintSequencer$Lane;", .methodLink RX2 100 yX2_isLane, .instanceMethod yX2_isLane, .selects RX2 yX2_isLane yX2_isLane, .initialized RX2, .code yX2_isLane cX2_isLane 2 (some .boolean), .fieldLink RX2 36 "PaintSequencer" "laneCount" "I", .methodLink RX2 164 yX0_count, .instanceMethod yX0_count, .selects RX0 yX0_count yX0_count, .initialized RX0, .code yX0_count cX0_count 1 (some .int), .fieldLink RX0 15 "PaintSequencer$Lane" "size" "I"] ++ wsX20 ++ wsX00 ++ (vx_atS RX2 107 "java/lang/IndexOutOfBoundsException" ["java/lang/RuntimeException", "java/lang/Exception"]).filter goodWord)
def wsX2_stored : List Cond := .code yX2_stored cX2_stored 1 (some .int) :: ([.methodLink RX2 151 yX2_countAt, .instanceMethod yX2_countAt, .selects RX2 yX2_countAt yX2_countAt, .initialized RX2, .code yX2_countAt cX2_countAt 4 (some .int), .fieldLink RX2 60 "PaintSequencer" "bodies" "I", .fieldLink RX2 20 "PaintSequencer" "places" "[I"] ++ wsX20)
def wsX2_changes : List Cond := .code yX2_changes cX2_changes 1 (some .int) :: ([.fieldLink RX2 175 "PaintSequencer" "changes" "I"] ++ wsX20)
def wsX2_released : List Cond := .code yX2_released cX2_released 1 (some .int) :: ([.fieldLink RX2 178 "PaintSequencer" "released" "I"] ++ wsX20)
def wsX2_assembledAt : List Cond := .code yX2_assembledAt cX2_assembledAt 2 (some .int) :: ([.classLink RX2 103 "java/lang/IndexOutOfBoundsException", .initialized "java/lang/IndexOutOfBoundsException", .fieldLink RX2 161 "PaintSequencer" "assembled" "I", .fieldLink RX2 26 "PaintSequencer" "order" "[I"] ++ wsX20 ++ (vx_atS RX2 107 "java/lang/IndexOutOfBoundsException" ["java/lang/RuntimeException", "java/lang/Exception"]).filter goodWord)
def wsX2_lateness : List Cond := .code yX2_lateness cX2_lateness 2 (some .int) :: ([.classLink RX2 103 "java/lang/IndexOutOfBoundsException", .initialized "java/lang/IndexOutOfBoundsException", .classLink RX2 82 "java/lang/IllegalStateException", .initialized "java/lang/IllegalStateException", .fieldLink RX2 20 "PaintSequencer" "places" "[I", .fieldLink RX2 23 "PaintSequencer" "positions" "[I", .methodLink RX2 144 yX2_isBody, .instanceMethod yX2_isBody, .selects RX2 yX2_isBody yX2_isBody, .initialized RX2, .code yX2_isBody cX2_isBody 2 (some .boolean), .fieldLink RX2 60 "PaintSequencer" "bodies" "I"] ++ wsX20 ++ (vx_atS RX2 107 "java/lang/IndexOutOfBoundsException" ["java/lang/RuntimeException", "java/lang/Exception"]).filter goodWord ++ (vx_atS RX2 86 "java/lang/IllegalStateException" ["java/lang/RuntimeException", "java/lang/Exception"]).filter goodWord)
def wsX2_worstLateness : List Cond := .code yX2_worstLateness cX2_worstLateness 4 (some .int) :: ([.fieldLink RX2 161 "PaintSequencer" "assembled" "I", .fieldLink RX2 26 "PaintSequencer" "order" "[I"] ++ wsX20)
def wsX2_fewestChanges_r1 : List Cond := [Cond.classLink RX2 82 "java/lang/IllegalStateException", Cond.initialized "java/lang/IllegalStateException", Cond.fieldLink RX2 32 "PaintSequencer" "plan" "LPaintSequencer$Plan;", Cond.fieldLink RX2 46 "PaintSequencer" "latestColour" "I", Cond.methodLink RX2 133 yX2_countInLanes, Cond.instanceMethod yX2_countInLanes, Cond.selects RX2 yX2_countInLanes yX2_countInLanes, Cond.initialized RX2, Cond.code yX2_countInLanes cX2_countInLanes 3 (some .int), Cond.fieldLink RX2 36 "PaintSequencer" "laneCount" "I", Cond.fieldLink RX2 11 "PaintSequencer" "lanes" "[LPaintSequencer$Lane;", Cond.methodLink RX2 164 yX0_count, Cond.instanceMethod yX0_count, Cond.selects RX0 yX0_count yX0_count, Cond.initialized RX0, Cond.code yX0_count cX0_count 1 (some .int), Cond.fieldLink RX0 15 "PaintSequencer$Lane" "size" "I", Cond.methodLink RX2 138 yX2_copyLanesIntoPlan, Cond.instanceMethod yX2_copyLanesIntoPlan, Cond.selects RX2 yX2_copyLanesIntoPlan yX2_copyLanesIntoPlan, Cond.code yX2_copyLanesIntoPlan cX2_copyLanesIntoPlan 3 none, Cond.methodLink RX2 234 yX1_clear, Cond.instanceMethod yX1_clear, Cond.selects RX1 yX1_clear yX1_clear]
def wsX2_fewestChanges_r2 : List Cond := [Cond.initialized RX1, Cond.code yX1_clear cX1_clear 2 none, Cond.fieldLink RX1 16 "PaintSequencer$Plan" "sizes" "[I", Cond.methodLink RX2 167 yX0_at, Cond.instanceMethod yX0_at, Cond.selects RX0 yX0_at yX0_at, Cond.code yX0_at cX0_at 2 (some .int), Cond.fieldLink RX0 9 "PaintSequencer$Lane" "row" "[I", Cond.methodLink RX2 205 yX2_colourOf, Cond.instanceMethod yX2_colourOf, Cond.selects RX2 yX2_colourOf yX2_colourOf, Cond.code yX2_colourOf cX2_colourOf 2 (some .int), Cond.fieldLink RX2 16 "PaintSequencer" "colours" "[I", Cond.methodLink RX2 144 yX2_isBody, Cond.instanceMethod yX2_isBody, Cond.selects RX2 yX2_isBody yX2_isBody, Cond.code yX2_isBody cX2_isBody 2 (some .boolean), Cond.fieldLink RX2 60 "PaintSequencer" "bodies" "I", Cond.methodLink RX2 235 yX1_add, Cond.instanceMethod yX1_add, Cond.selects RX1 yX1_add yX1_add, Cond.code yX1_add cX1_add 3 none, Cond.fieldLink RX1 11 "PaintSequencer$Plan" "waiting" "[[I", Cond.methodLink RX2 185 yX1_fewest]
def wsX2_fewestChanges_r3 : List Cond := [Cond.instanceMethod yX1_fewest, Cond.selects RX1 yX1_fewest yX1_fewest, Cond.code yX1_fewest cX1_fewest 2 (some .int), Cond.methodLink RX1 32 yX1_fillTable, Cond.instanceMethod yX1_fillTable, Cond.selects RX1 yX1_fillTable yX1_fillTable, Cond.code yX1_fillTable cX1_fillTable 3 none, Cond.fieldLink RX1 20 "PaintSequencer$Plan" "taken" "[I", Cond.methodLink RX1 49 yX1_layStrides, Cond.instanceMethod yX1_layStrides, Cond.selects RX1 yX1_layStrides yX1_layStrides, Cond.code yX1_layStrides cX1_layStrides 3 (some .int), Cond.fieldLink RX1 23 "PaintSequencer$Plan" "strides" "[I", Cond.methodLink RX1 53 yX1_fillState, Cond.instanceMethod yX1_fillState, Cond.selects RX1 yX1_fillState yX1_fillState, Cond.code yX1_fillState cX1_fillState 7 none, Cond.fieldLink RX1 26 "PaintSequencer$Plan" "leasts" "[I", Cond.fieldLink RX1 29 "PaintSequencer$Plan" "starts" "[I", Cond.methodLink RX1 35 yX1_fewestFrom, Cond.instanceMethod yX1_fewestFrom, Cond.selects RX1 yX1_fewestFrom yX1_fewestFrom, Cond.code yX1_fewestFrom cX1_fewestFrom 5 (some .int), Cond.methodLink RX1 57 yX1_stepBack]
def wsX2_fewestChanges_r4 : List Cond := [Cond.instanceMethod yX1_stepBack, Cond.selects RX1 yX1_stepBack yX1_stepBack, Cond.code yX1_stepBack cX1_stepBack 2 none]
def wsX2_fewestChanges : List Cond := .code yX2_fewestChanges cX2_fewestChanges 1 (some .int) :: ((wsX2_fewestChanges_r1 ++ (wsX2_fewestChanges_r2 ++ (wsX2_fewestChanges_r3 ++ wsX2_fewestChanges_r4))) ++ wsX20 ++ wsX00 ++ wsX10 ++ (vx_atS RX2 86 "java/lang/IllegalStateException" ["java/lang/RuntimeException", "java/lang/Exception"]).filter goodWord)
def wsX2_fewestByAll_r1 : List Cond := [Cond.classLink RX2 82 "java/lang/IllegalStateException", Cond.initialized "java/lang/IllegalStateException", Cond.fieldLink RX2 32 "PaintSequencer" "plan" "LPaintSequencer$Plan;", Cond.fieldLink RX2 46 "PaintSequencer" "latestColour" "I", Cond.methodLink RX2 133 yX2_countInLanes, Cond.instanceMethod yX2_countInLanes, Cond.selects RX2 yX2_countInLanes yX2_countInLanes, Cond.initialized RX2, Cond.code yX2_countInLanes cX2_countInLanes 3 (some .int), Cond.fieldLink RX2 36 "PaintSequencer" "laneCount" "I", Cond.fieldLink RX2 11 "PaintSequencer" "lanes" "[LPaintSequencer$Lane;", Cond.methodLink RX2 164 yX0_count, Cond.instanceMethod yX0_count, Cond.selects RX0 yX0_count yX0_count, Cond.initialized RX0, Cond.code yX0_count cX0_count 1 (some .int), Cond.fieldLink RX0 15 "PaintSequencer$Lane" "size" "I", Cond.methodLink RX2 138 yX2_copyLanesIntoPlan, Cond.instanceMethod yX2_copyLanesIntoPlan, Cond.selects RX2 yX2_copyLanesIntoPlan yX2_copyLanesIntoPlan, Cond.code yX2_copyLanesIntoPlan cX2_copyLanesIntoPlan 3 none, Cond.methodLink RX2 234 yX1_clear, Cond.instanceMethod yX1_clear, Cond.selects RX1 yX1_clear yX1_clear]
def wsX2_fewestByAll_r2 : List Cond := [Cond.initialized RX1, Cond.code yX1_clear cX1_clear 2 none, Cond.fieldLink RX1 16 "PaintSequencer$Plan" "sizes" "[I", Cond.methodLink RX2 167 yX0_at, Cond.instanceMethod yX0_at, Cond.selects RX0 yX0_at yX0_at, Cond.code yX0_at cX0_at 2 (some .int), Cond.fieldLink RX0 9 "PaintSequencer$Lane" "row" "[I", Cond.methodLink RX2 205 yX2_colourOf, Cond.instanceMethod yX2_colourOf, Cond.selects RX2 yX2_colourOf yX2_colourOf, Cond.code yX2_colourOf cX2_colourOf 2 (some .int), Cond.fieldLink RX2 16 "PaintSequencer" "colours" "[I", Cond.methodLink RX2 144 yX2_isBody, Cond.instanceMethod yX2_isBody, Cond.selects RX2 yX2_isBody yX2_isBody, Cond.code yX2_isBody cX2_isBody 2 (some .boolean), Cond.fieldLink RX2 60 "PaintSequencer" "bodies" "I", Cond.methodLink RX2 235 yX1_add, Cond.instanceMethod yX1_add, Cond.selects RX1 yX1_add yX1_add, Cond.code yX1_add cX1_add 3 none, Cond.fieldLink RX1 11 "PaintSequencer$Plan" "waiting" "[[I", Cond.methodLink RX2 190 yX1_fewestOfAllOrders]
def wsX2_fewestByAll_r3 : List Cond := [Cond.instanceMethod yX1_fewestOfAllOrders, Cond.selects RX1 yX1_fewestOfAllOrders yX1_fewestOfAllOrders, Cond.code yX1_fewestOfAllOrders cX1_fewestOfAllOrders 4 (some .int), Cond.fieldLink RX1 20 "PaintSequencer$Plan" "taken" "[I", Cond.methodLink RX1 60 yX1_tryOrders, Cond.static yX1_tryOrders, Cond.code yX1_tryOrders cX1_tryOrders 10 (some .int), Cond.static yX2_changeBetween, Cond.code yX2_changeBetween cX2_changeBetween 2 (some .int)]
def wsX2_fewestByAll : List Cond := .code yX2_fewestByAll cX2_fewestByAll 1 (some .int) :: ((wsX2_fewestByAll_r1 ++ (wsX2_fewestByAll_r2 ++ wsX2_fewestByAll_r3)) ++ wsX20 ++ wsX00 ++ wsX10 ++ (vx_atS RX2 86 "java/lang/IllegalStateException" ["java/lang/RuntimeException", "java/lang/Exception"]).filter goodWord)
def wsL_cell : List Cond := .code yL_cell cL_cell 2 (some .int) :: ([.constant RL 7 (513132451)])
def wsL_at : List Cond := .code yL_at cL_at 2 (some .int) :: ([])
def wsL_fill_r1 : List Cond := [Cond.methodLink RL 8 yX2_begin, Cond.instanceMethod yX2_begin, Cond.selects RX2 yX2_begin yX2_begin, Cond.initialized RX2, Cond.code yX2_begin cX2_begin 5 (some .int), Cond.classLink RX2 49 "java/lang/IllegalArgumentException", Cond.initialized "java/lang/IllegalArgumentException", Cond.fieldLink RX2 60 "PaintSequencer" "bodies" "I", Cond.fieldLink RX2 36 "PaintSequencer" "laneCount" "I", Cond.fieldLink RX2 40 "PaintSequencer" "depth" "I", Cond.fieldLink RX2 43 "PaintSequencer" "storeRoom" "I", Cond.methodLink RX2 63 yX2_forgetBodies, Cond.instanceMethod yX2_forgetBodies, Cond.selects RX2 yX2_forgetBodies yX2_forgetBodies, Cond.code yX2_forgetBodies cX2_forgetBodies 2 none, Cond.fieldLink RX2 11 "PaintSequencer" "lanes" "[LPaintSequencer$Lane;", Cond.fieldLink RX2 161 "PaintSequencer" "assembled" "I", Cond.fieldLink RX2 208 "PaintSequencer" "laneInTurn" "I", Cond.fieldLink RX2 46 "PaintSequencer" "latestColour" "I", Cond.fieldLink RX2 175 "PaintSequencer" "changes" "I", Cond.fieldLink RX2 178 "PaintSequencer" "released" "I", Cond.methodLink RX2 231 yX0_clear, Cond.instanceMethod yX0_clear, Cond.selects RX0 yX0_clear yX0_clear]
def wsL_fill_r2 : List Cond := [Cond.initialized RX0, Cond.code yX0_clear cX0_clear 1 none, Cond.fieldLink RX0 15 "PaintSequencer$Lane" "size" "I", Cond.methodLink RL 14 yL_at, Cond.static yL_at, Cond.initialized RL, Cond.code yL_at cL_at 2 (some .int), Cond.methodLink RL 20 yX2_inLane, Cond.instanceMethod yX2_inLane, Cond.selects RX2 yX2_inLane yX2_inLane, Cond.code yX2_inLane cX2_inLane 2 (some .int), Cond.classLink RX2 103 "java/lang/IndexOutOfBoundsException", Cond.initialized "java/lang/IndexOutOfBoundsException", Cond.methodLink RX2 100 yX2_isLane, Cond.instanceMethod yX2_isLane, Cond.selects RX2 yX2_isLane yX2_isLane, Cond.code yX2_isLane cX2_isLane 2 (some .boolean), Cond.methodLink RX2 164 yX0_count, Cond.instanceMethod yX0_count, Cond.selects RX0 yX0_count yX0_count, Cond.code yX0_count cX0_count 1 (some .int), Cond.methodLink RL 24 yX2_arriveIn, Cond.instanceMethod yX2_arriveIn, Cond.selects RX2 yX2_arriveIn yX2_arriveIn]
def wsL_fill_r3 : List Cond := [Cond.code yX2_arriveIn cX2_arriveIn 4 (some .int), Cond.classLink RX2 82 "java/lang/IllegalStateException", Cond.initialized "java/lang/IllegalStateException", Cond.methodLink RX2 76 yX2_isColour, Cond.static yX2_isColour, Cond.code yX2_isColour cX2_isColour 1 (some .boolean), Cond.methodLink RX2 108 yX2_hasRoom, Cond.instanceMethod yX2_hasRoom, Cond.selects RX2 yX2_hasRoom yX2_hasRoom, Cond.code yX2_hasRoom cX2_hasRoom 2 (some .boolean), Cond.methodLink RX2 93 yX2_newBody, Cond.instanceMethod yX2_newBody, Cond.selects RX2 yX2_newBody yX2_newBody, Cond.code yX2_newBody cX2_newBody 3 (some .int), Cond.fieldLink RX2 16 "PaintSequencer" "colours" "[I", Cond.methodLink RX2 96 yX2_putInto, Cond.instanceMethod yX2_putInto, Cond.selects RX2 yX2_putInto yX2_putInto, Cond.code yX2_putInto cX2_putInto 3 none, Cond.fieldLink RX2 20 "PaintSequencer" "places" "[I", Cond.methodLink RX2 214 yX0_add, Cond.instanceMethod yX0_add, Cond.selects RX0 yX0_add yX0_add, Cond.code yX0_add cX0_add 2 none]
def wsL_fill_r4 : List Cond := [Cond.fieldLink RX0 9 "PaintSequencer$Lane" "row" "[I", Cond.methodLink RX2 211 yX2_laneBehind, Cond.instanceMethod yX2_laneBehind, Cond.selects RX2 yX2_laneBehind yX2_laneBehind, Cond.code yX2_laneBehind cX2_laneBehind 2 (some .int), Cond.methodLink RL 27 yX2_bodies, Cond.instanceMethod yX2_bodies, Cond.selects RX2 yX2_bodies yX2_bodies, Cond.code yX2_bodies cX2_bodies 1 (some .int)]
def wsL_fill : List Cond := .code yL_fill cL_fill 7 (some .int) :: ((wsL_fill_r1 ++ (wsL_fill_r2 ++ (wsL_fill_r3 ++ wsL_fill_r4))) ++ wsX20 ++ wsX00 ++ (vx_atS RX2 53 "java/lang/IllegalArgumentException" ["java/lang/RuntimeException", "java/lang/Exception"]).filter goodWord ++ (vx_atS RX2 107 "java/lang/IndexOutOfBoundsException" ["java/lang/RuntimeException", "java/lang/Exception"]).filter goodWord ++ (vx_atS RX2 86 "java/lang/IllegalStateException" ["java/lang/RuntimeException", "java/lang/Exception"]).filter goodWord)
def wsL_first_r1 : List Cond := [Cond.methodLink RL 14 yL_at, Cond.static yL_at, Cond.initialized RL, Cond.code yL_at cL_at 2 (some .int), Cond.methodLink RL 20 yX2_inLane, Cond.instanceMethod yX2_inLane, Cond.selects RX2 yX2_inLane yX2_inLane, Cond.initialized RX2, Cond.code yX2_inLane cX2_inLane 2 (some .int), Cond.classLink RX2 103 "java/lang/IndexOutOfBoundsException", Cond.initialized "java/lang/IndexOutOfBoundsException", Cond.fieldLink RX2 11 "PaintSequencer" "lanes" "[LPaintSequencer$Lane;", Cond.methodLink RX2 100 yX2_isLane, Cond.instanceMethod yX2_isLane, Cond.selects RX2 yX2_isLane yX2_isLane, Cond.code yX2_isLane cX2_isLane 2 (some .boolean), Cond.fieldLink RX2 36 "PaintSequencer" "laneCount" "I", Cond.methodLink RX2 164 yX0_count, Cond.instanceMethod yX0_count, Cond.selects RX0 yX0_count yX0_count, Cond.initialized RX0, Cond.code yX0_count cX0_count 1 (some .int), Cond.fieldLink RX0 15 "PaintSequencer$Lane" "size" "I", Cond.methodLink RL 31 yX2_releaseFrom]
def wsL_first_r2 : List Cond := [Cond.instanceMethod yX2_releaseFrom, Cond.selects RX2 yX2_releaseFrom yX2_releaseFrom, Cond.code yX2_releaseFrom cX2_releaseFrom 2 (some .int), Cond.classLink RX2 82 "java/lang/IllegalStateException", Cond.initialized "java/lang/IllegalStateException", Cond.methodLink RX2 128 yX0_isEmpty, Cond.instanceMethod yX0_isEmpty, Cond.selects RX0 yX0_isEmpty yX0_isEmpty, Cond.code yX0_isEmpty cX0_isEmpty 1 (some .boolean), Cond.methodLink RX2 113 yX2_storeIsFull, Cond.instanceMethod yX2_storeIsFull, Cond.selects RX2 yX2_storeIsFull yX2_storeIsFull, Cond.code yX2_storeIsFull cX2_storeIsFull 1 (some .boolean), Cond.fieldLink RX2 43 "PaintSequencer" "storeRoom" "I", Cond.methodLink RX2 151 yX2_countAt, Cond.instanceMethod yX2_countAt, Cond.selects RX2 yX2_countAt yX2_countAt, Cond.code yX2_countAt cX2_countAt 4 (some .int), Cond.fieldLink RX2 60 "PaintSequencer" "bodies" "I", Cond.fieldLink RX2 20 "PaintSequencer" "places" "[I", Cond.methodLink RX2 125 yX2_takeHeadOf, Cond.instanceMethod yX2_takeHeadOf, Cond.selects RX2 yX2_takeHeadOf yX2_takeHeadOf, Cond.code yX2_takeHeadOf cX2_takeHeadOf 3 (some .int)]
def wsL_first_r3 : List Cond := [Cond.fieldLink RX2 175 "PaintSequencer" "changes" "I", Cond.fieldLink RX2 46 "PaintSequencer" "latestColour" "I", Cond.fieldLink RX2 16 "PaintSequencer" "colours" "[I", Cond.fieldLink RX2 178 "PaintSequencer" "released" "I", Cond.methodLink RX2 225 yX0_takeHead, Cond.instanceMethod yX0_takeHead, Cond.selects RX0 yX0_takeHead yX0_takeHead, Cond.code yX0_takeHead cX0_takeHead 3 (some .int), Cond.fieldLink RX0 9 "PaintSequencer$Lane" "row" "[I", Cond.methodLink RX0 19 yX0_at, Cond.instanceMethod yX0_at, Cond.selects RX0 yX0_at yX0_at, Cond.code yX0_at cX0_at 2 (some .int), Cond.methodLink RX2 144 yX2_isBody, Cond.instanceMethod yX2_isBody, Cond.selects RX2 yX2_isBody yX2_isBody, Cond.code yX2_isBody cX2_isBody 2 (some .boolean), Cond.methodLink RX2 228 yX2_changeBetween, Cond.static yX2_changeBetween, Cond.code yX2_changeBetween cX2_changeBetween 2 (some .int), Cond.methodLink RL 34 yX2_stored, Cond.instanceMethod yX2_stored, Cond.selects RX2 yX2_stored yX2_stored, Cond.code yX2_stored cX2_stored 1 (some .int)]
def wsL_first_r4 : List Cond := [Cond.methodLink RL 37 yX2_assemble, Cond.instanceMethod yX2_assemble, Cond.selects RX2 yX2_assemble yX2_assemble, Cond.code yX2_assemble cX2_assemble 2 (some .int), Cond.fieldLink RX2 23 "PaintSequencer" "positions" "[I", Cond.fieldLink RX2 161 "PaintSequencer" "assembled" "I", Cond.fieldLink RX2 26 "PaintSequencer" "order" "[I", Cond.methodLink RX2 156 yX2_lowestInStore, Cond.instanceMethod yX2_lowestInStore, Cond.selects RX2 yX2_lowestInStore yX2_lowestInStore, Cond.code yX2_lowestInStore cX2_lowestInStore 2 (some .int), Cond.methodLink RL 40 yX2_where, Cond.instanceMethod yX2_where, Cond.selects RX2 yX2_where yX2_where, Cond.code yX2_where cX2_where 2 (some .int)]
def wsL_first : List Cond := .code yL_first cL_first 7 (some .boolean) :: ((wsL_first_r1 ++ (wsL_first_r2 ++ (wsL_first_r3 ++ wsL_first_r4))) ++ wsX20 ++ wsX00 ++ (vx_atS RX2 107 "java/lang/IndexOutOfBoundsException" ["java/lang/RuntimeException", "java/lang/Exception"]).filter goodWord ++ (vx_atS RX2 86 "java/lang/IllegalStateException" ["java/lang/RuntimeException", "java/lang/Exception"]).filter goodWord)
def wsL_bounds_r1 : List Cond := [Cond.methodLink RL 43 yL_fill, Cond.static yL_fill, Cond.initialized RL, Cond.code yL_fill cL_fill 7 (some .int), Cond.methodLink RL 8 yX2_begin, Cond.instanceMethod yX2_begin, Cond.selects RX2 yX2_begin yX2_begin, Cond.initialized RX2, Cond.code yX2_begin cX2_begin 5 (some .int), Cond.classLink RX2 49 "java/lang/IllegalArgumentException", Cond.initialized "java/lang/IllegalArgumentException", Cond.fieldLink RX2 60 "PaintSequencer" "bodies" "I", Cond.fieldLink RX2 36 "PaintSequencer" "laneCount" "I", Cond.fieldLink RX2 40 "PaintSequencer" "depth" "I", Cond.fieldLink RX2 43 "PaintSequencer" "storeRoom" "I", Cond.methodLink RX2 63 yX2_forgetBodies, Cond.instanceMethod yX2_forgetBodies, Cond.selects RX2 yX2_forgetBodies yX2_forgetBodies, Cond.code yX2_forgetBodies cX2_forgetBodies 2 none, Cond.fieldLink RX2 11 "PaintSequencer" "lanes" "[LPaintSequencer$Lane;", Cond.fieldLink RX2 161 "PaintSequencer" "assembled" "I", Cond.fieldLink RX2 208 "PaintSequencer" "laneInTurn" "I", Cond.fieldLink RX2 46 "PaintSequencer" "latestColour" "I", Cond.fieldLink RX2 175 "PaintSequencer" "changes" "I"]
def wsL_bounds_r2 : List Cond := [Cond.fieldLink RX2 178 "PaintSequencer" "released" "I", Cond.methodLink RX2 231 yX0_clear, Cond.instanceMethod yX0_clear, Cond.selects RX0 yX0_clear yX0_clear, Cond.initialized RX0, Cond.code yX0_clear cX0_clear 1 none, Cond.fieldLink RX0 15 "PaintSequencer$Lane" "size" "I", Cond.methodLink RL 14 yL_at, Cond.static yL_at, Cond.code yL_at cL_at 2 (some .int), Cond.methodLink RL 20 yX2_inLane, Cond.instanceMethod yX2_inLane, Cond.selects RX2 yX2_inLane yX2_inLane, Cond.code yX2_inLane cX2_inLane 2 (some .int), Cond.classLink RX2 103 "java/lang/IndexOutOfBoundsException", Cond.initialized "java/lang/IndexOutOfBoundsException", Cond.methodLink RX2 100 yX2_isLane, Cond.instanceMethod yX2_isLane, Cond.selects RX2 yX2_isLane yX2_isLane, Cond.code yX2_isLane cX2_isLane 2 (some .boolean), Cond.methodLink RX2 164 yX0_count, Cond.instanceMethod yX0_count, Cond.selects RX0 yX0_count yX0_count, Cond.code yX0_count cX0_count 1 (some .int)]
def wsL_bounds_r3 : List Cond := [Cond.methodLink RL 24 yX2_arriveIn, Cond.instanceMethod yX2_arriveIn, Cond.selects RX2 yX2_arriveIn yX2_arriveIn, Cond.code yX2_arriveIn cX2_arriveIn 4 (some .int), Cond.classLink RX2 82 "java/lang/IllegalStateException", Cond.initialized "java/lang/IllegalStateException", Cond.methodLink RX2 76 yX2_isColour, Cond.static yX2_isColour, Cond.code yX2_isColour cX2_isColour 1 (some .boolean), Cond.methodLink RX2 108 yX2_hasRoom, Cond.instanceMethod yX2_hasRoom, Cond.selects RX2 yX2_hasRoom yX2_hasRoom, Cond.code yX2_hasRoom cX2_hasRoom 2 (some .boolean), Cond.methodLink RX2 93 yX2_newBody, Cond.instanceMethod yX2_newBody, Cond.selects RX2 yX2_newBody yX2_newBody, Cond.code yX2_newBody cX2_newBody 3 (some .int), Cond.fieldLink RX2 16 "PaintSequencer" "colours" "[I", Cond.methodLink RX2 96 yX2_putInto, Cond.instanceMethod yX2_putInto, Cond.selects RX2 yX2_putInto yX2_putInto, Cond.code yX2_putInto cX2_putInto 3 none, Cond.fieldLink RX2 20 "PaintSequencer" "places" "[I", Cond.methodLink RX2 214 yX0_add]
def wsL_bounds_r4 : List Cond := [Cond.instanceMethod yX0_add, Cond.selects RX0 yX0_add yX0_add, Cond.code yX0_add cX0_add 2 none, Cond.fieldLink RX0 9 "PaintSequencer$Lane" "row" "[I", Cond.methodLink RX2 211 yX2_laneBehind, Cond.instanceMethod yX2_laneBehind, Cond.selects RX2 yX2_laneBehind yX2_laneBehind, Cond.code yX2_laneBehind cX2_laneBehind 2 (some .int), Cond.methodLink RL 27 yX2_bodies, Cond.instanceMethod yX2_bodies, Cond.selects RX2 yX2_bodies yX2_bodies, Cond.code yX2_bodies cX2_bodies 1 (some .int), Cond.methodLink RL 47 yL_first, Cond.static yL_first, Cond.code yL_first cL_first 7 (some .boolean), Cond.methodLink RL 31 yX2_releaseFrom, Cond.instanceMethod yX2_releaseFrom, Cond.selects RX2 yX2_releaseFrom yX2_releaseFrom, Cond.code yX2_releaseFrom cX2_releaseFrom 2 (some .int), Cond.methodLink RX2 128 yX0_isEmpty, Cond.instanceMethod yX0_isEmpty, Cond.selects RX0 yX0_isEmpty yX0_isEmpty, Cond.code yX0_isEmpty cX0_isEmpty 1 (some .boolean), Cond.methodLink RX2 113 yX2_storeIsFull]
def wsL_bounds_r5 : List Cond := [Cond.instanceMethod yX2_storeIsFull, Cond.selects RX2 yX2_storeIsFull yX2_storeIsFull, Cond.code yX2_storeIsFull cX2_storeIsFull 1 (some .boolean), Cond.methodLink RX2 151 yX2_countAt, Cond.instanceMethod yX2_countAt, Cond.selects RX2 yX2_countAt yX2_countAt, Cond.code yX2_countAt cX2_countAt 4 (some .int), Cond.methodLink RX2 125 yX2_takeHeadOf, Cond.instanceMethod yX2_takeHeadOf, Cond.selects RX2 yX2_takeHeadOf yX2_takeHeadOf, Cond.code yX2_takeHeadOf cX2_takeHeadOf 3 (some .int), Cond.methodLink RX2 225 yX0_takeHead, Cond.instanceMethod yX0_takeHead, Cond.selects RX0 yX0_takeHead yX0_takeHead, Cond.code yX0_takeHead cX0_takeHead 3 (some .int), Cond.methodLink RX0 19 yX0_at, Cond.instanceMethod yX0_at, Cond.selects RX0 yX0_at yX0_at, Cond.code yX0_at cX0_at 2 (some .int), Cond.methodLink RX2 144 yX2_isBody, Cond.instanceMethod yX2_isBody, Cond.selects RX2 yX2_isBody yX2_isBody, Cond.code yX2_isBody cX2_isBody 2 (some .boolean), Cond.methodLink RX2 228 yX2_changeBetween]
def wsL_bounds_r6 : List Cond := [Cond.static yX2_changeBetween, Cond.code yX2_changeBetween cX2_changeBetween 2 (some .int), Cond.methodLink RL 34 yX2_stored, Cond.instanceMethod yX2_stored, Cond.selects RX2 yX2_stored yX2_stored, Cond.code yX2_stored cX2_stored 1 (some .int), Cond.methodLink RL 37 yX2_assemble, Cond.instanceMethod yX2_assemble, Cond.selects RX2 yX2_assemble yX2_assemble, Cond.code yX2_assemble cX2_assemble 2 (some .int), Cond.fieldLink RX2 23 "PaintSequencer" "positions" "[I", Cond.fieldLink RX2 26 "PaintSequencer" "order" "[I", Cond.methodLink RX2 156 yX2_lowestInStore, Cond.instanceMethod yX2_lowestInStore, Cond.selects RX2 yX2_lowestInStore yX2_lowestInStore, Cond.code yX2_lowestInStore cX2_lowestInStore 2 (some .int), Cond.methodLink RL 40 yX2_where, Cond.instanceMethod yX2_where, Cond.selects RX2 yX2_where yX2_where, Cond.code yX2_where cX2_where 2 (some .int), Cond.methodLink RL 51 yX2_changes, Cond.instanceMethod yX2_changes, Cond.selects RX2 yX2_changes yX2_changes, Cond.code yX2_changes cX2_changes 1 (some .int)]
def wsL_bounds_r7 : List Cond := [Cond.methodLink RL 54 yX2_fewestChanges, Cond.instanceMethod yX2_fewestChanges, Cond.selects RX2 yX2_fewestChanges yX2_fewestChanges, Cond.code yX2_fewestChanges cX2_fewestChanges 1 (some .int), Cond.fieldLink RX2 32 "PaintSequencer" "plan" "LPaintSequencer$Plan;", Cond.methodLink RX2 133 yX2_countInLanes, Cond.instanceMethod yX2_countInLanes, Cond.selects RX2 yX2_countInLanes yX2_countInLanes, Cond.code yX2_countInLanes cX2_countInLanes 3 (some .int), Cond.methodLink RX2 138 yX2_copyLanesIntoPlan, Cond.instanceMethod yX2_copyLanesIntoPlan, Cond.selects RX2 yX2_copyLanesIntoPlan yX2_copyLanesIntoPlan, Cond.code yX2_copyLanesIntoPlan cX2_copyLanesIntoPlan 3 none, Cond.methodLink RX2 234 yX1_clear, Cond.instanceMethod yX1_clear, Cond.selects RX1 yX1_clear yX1_clear, Cond.initialized RX1, Cond.code yX1_clear cX1_clear 2 none, Cond.fieldLink RX1 16 "PaintSequencer$Plan" "sizes" "[I", Cond.methodLink RX2 167 yX0_at, Cond.methodLink RX2 205 yX2_colourOf, Cond.instanceMethod yX2_colourOf, Cond.selects RX2 yX2_colourOf yX2_colourOf, Cond.code yX2_colourOf cX2_colourOf 2 (some .int)]
def wsL_bounds_r8 : List Cond := [Cond.methodLink RX2 235 yX1_add, Cond.instanceMethod yX1_add, Cond.selects RX1 yX1_add yX1_add, Cond.code yX1_add cX1_add 3 none, Cond.fieldLink RX1 11 "PaintSequencer$Plan" "waiting" "[[I", Cond.methodLink RX2 185 yX1_fewest, Cond.instanceMethod yX1_fewest, Cond.selects RX1 yX1_fewest yX1_fewest, Cond.code yX1_fewest cX1_fewest 2 (some .int), Cond.methodLink RX1 32 yX1_fillTable, Cond.instanceMethod yX1_fillTable, Cond.selects RX1 yX1_fillTable yX1_fillTable, Cond.code yX1_fillTable cX1_fillTable 3 none, Cond.fieldLink RX1 20 "PaintSequencer$Plan" "taken" "[I", Cond.methodLink RX1 49 yX1_layStrides, Cond.instanceMethod yX1_layStrides, Cond.selects RX1 yX1_layStrides yX1_layStrides, Cond.code yX1_layStrides cX1_layStrides 3 (some .int), Cond.fieldLink RX1 23 "PaintSequencer$Plan" "strides" "[I", Cond.methodLink RX1 53 yX1_fillState, Cond.instanceMethod yX1_fillState, Cond.selects RX1 yX1_fillState yX1_fillState, Cond.code yX1_fillState cX1_fillState 7 none, Cond.fieldLink RX1 26 "PaintSequencer$Plan" "leasts" "[I"]
def wsL_bounds_r9 : List Cond := [Cond.fieldLink RX1 29 "PaintSequencer$Plan" "starts" "[I", Cond.methodLink RX1 35 yX1_fewestFrom, Cond.instanceMethod yX1_fewestFrom, Cond.selects RX1 yX1_fewestFrom yX1_fewestFrom, Cond.code yX1_fewestFrom cX1_fewestFrom 5 (some .int), Cond.methodLink RX1 57 yX1_stepBack, Cond.instanceMethod yX1_stepBack, Cond.selects RX1 yX1_stepBack yX1_stepBack, Cond.code yX1_stepBack cX1_stepBack 2 none]
def wsL_bounds : List Cond := .code yL_bounds cL_bounds 8 (some .boolean) :: ((wsL_bounds_r1 ++ (wsL_bounds_r2 ++ (wsL_bounds_r3 ++ (wsL_bounds_r4 ++ (wsL_bounds_r5 ++ (wsL_bounds_r6 ++ (wsL_bounds_r7 ++ (wsL_bounds_r8 ++ wsL_bounds_r9)))))))) ++ wsX20 ++ wsX00 ++ wsX10 ++ (vx_atS RX2 53 "java/lang/IllegalArgumentException" ["java/lang/RuntimeException", "java/lang/Exception"]).filter goodWord ++ (vx_atS RX2 107 "java/lang/IndexOutOfBoundsException" ["java/lang/RuntimeException", "java/lang/Exception"]).filter goodWord ++ (vx_atS RX2 86 "java/lang/IllegalStateException" ["java/lang/RuntimeException", "java/lang/Exception"]).filter goodWord)
def wsL_follows_r1 : List Cond := [Cond.methodLink RL 51 yX2_changes, Cond.instanceMethod yX2_changes, Cond.selects RX2 yX2_changes yX2_changes, Cond.initialized RX2, Cond.code yX2_changes cX2_changes 1 (some .int), Cond.fieldLink RX2 175 "PaintSequencer" "changes" "I", Cond.methodLink RL 57 yX2_released, Cond.instanceMethod yX2_released, Cond.selects RX2 yX2_released yX2_released, Cond.code yX2_released cX2_released 1 (some .int), Cond.fieldLink RX2 178 "PaintSequencer" "released" "I", Cond.methodLink RL 27 yX2_bodies, Cond.instanceMethod yX2_bodies, Cond.selects RX2 yX2_bodies yX2_bodies, Cond.code yX2_bodies cX2_bodies 1 (some .int), Cond.fieldLink RX2 60 "PaintSequencer" "bodies" "I", Cond.methodLink RL 60 yX2_releaseBest, Cond.instanceMethod yX2_releaseBest, Cond.selects RX2 yX2_releaseBest yX2_releaseBest, Cond.code yX2_releaseBest cX2_releaseBest 2 (some .int), Cond.classLink RX2 82 "java/lang/IllegalStateException", Cond.initialized "java/lang/IllegalStateException", Cond.fieldLink RX2 32 "PaintSequencer" "plan" "LPaintSequencer$Plan;", Cond.fieldLink RX2 46 "PaintSequencer" "latestColour" "I"]
def wsL_follows_r2 : List Cond := [Cond.methodLink RX2 113 yX2_storeIsFull, Cond.instanceMethod yX2_storeIsFull, Cond.selects RX2 yX2_storeIsFull yX2_storeIsFull, Cond.code yX2_storeIsFull cX2_storeIsFull 1 (some .boolean), Cond.fieldLink RX2 43 "PaintSequencer" "storeRoom" "I", Cond.methodLink RX2 151 yX2_countAt, Cond.instanceMethod yX2_countAt, Cond.selects RX2 yX2_countAt yX2_countAt, Cond.code yX2_countAt cX2_countAt 4 (some .int), Cond.fieldLink RX2 20 "PaintSequencer" "places" "[I", Cond.methodLink RX2 133 yX2_countInLanes, Cond.instanceMethod yX2_countInLanes, Cond.selects RX2 yX2_countInLanes yX2_countInLanes, Cond.code yX2_countInLanes cX2_countInLanes 3 (some .int), Cond.fieldLink RX2 36 "PaintSequencer" "laneCount" "I", Cond.fieldLink RX2 11 "PaintSequencer" "lanes" "[LPaintSequencer$Lane;", Cond.methodLink RX2 164 yX0_count, Cond.instanceMethod yX0_count, Cond.selects RX0 yX0_count yX0_count, Cond.initialized RX0, Cond.code yX0_count cX0_count 1 (some .int), Cond.fieldLink RX0 15 "PaintSequencer$Lane" "size" "I", Cond.methodLink RX2 138 yX2_copyLanesIntoPlan, Cond.instanceMethod yX2_copyLanesIntoPlan]
def wsL_follows_r3 : List Cond := [Cond.selects RX2 yX2_copyLanesIntoPlan yX2_copyLanesIntoPlan, Cond.code yX2_copyLanesIntoPlan cX2_copyLanesIntoPlan 3 none, Cond.methodLink RX2 234 yX1_clear, Cond.instanceMethod yX1_clear, Cond.selects RX1 yX1_clear yX1_clear, Cond.initialized RX1, Cond.code yX1_clear cX1_clear 2 none, Cond.fieldLink RX1 16 "PaintSequencer$Plan" "sizes" "[I", Cond.methodLink RX2 167 yX0_at, Cond.instanceMethod yX0_at, Cond.selects RX0 yX0_at yX0_at, Cond.code yX0_at cX0_at 2 (some .int), Cond.fieldLink RX0 9 "PaintSequencer$Lane" "row" "[I", Cond.methodLink RX2 205 yX2_colourOf, Cond.instanceMethod yX2_colourOf, Cond.selects RX2 yX2_colourOf yX2_colourOf, Cond.code yX2_colourOf cX2_colourOf 2 (some .int), Cond.fieldLink RX2 16 "PaintSequencer" "colours" "[I", Cond.methodLink RX2 144 yX2_isBody, Cond.instanceMethod yX2_isBody, Cond.selects RX2 yX2_isBody yX2_isBody, Cond.code yX2_isBody cX2_isBody 2 (some .boolean), Cond.methodLink RX2 235 yX1_add, Cond.instanceMethod yX1_add]
def wsL_follows_r4 : List Cond := [Cond.selects RX1 yX1_add yX1_add, Cond.code yX1_add cX1_add 3 none, Cond.fieldLink RX1 11 "PaintSequencer$Plan" "waiting" "[[I", Cond.methodLink RX2 141 yX1_bestLane, Cond.instanceMethod yX1_bestLane, Cond.selects RX1 yX1_bestLane yX1_bestLane, Cond.code yX1_bestLane cX1_bestLane 4 (some .int), Cond.methodLink RX1 39 yX1_fewest, Cond.instanceMethod yX1_fewest, Cond.selects RX1 yX1_fewest yX1_fewest, Cond.code yX1_fewest cX1_fewest 2 (some .int), Cond.methodLink RX1 32 yX1_fillTable, Cond.instanceMethod yX1_fillTable, Cond.selects RX1 yX1_fillTable yX1_fillTable, Cond.code yX1_fillTable cX1_fillTable 3 none, Cond.fieldLink RX1 20 "PaintSequencer$Plan" "taken" "[I", Cond.methodLink RX1 49 yX1_layStrides, Cond.instanceMethod yX1_layStrides, Cond.selects RX1 yX1_layStrides yX1_layStrides, Cond.code yX1_layStrides cX1_layStrides 3 (some .int), Cond.fieldLink RX1 23 "PaintSequencer$Plan" "strides" "[I", Cond.methodLink RX1 53 yX1_fillState, Cond.instanceMethod yX1_fillState, Cond.selects RX1 yX1_fillState yX1_fillState]
def wsL_follows_r5 : List Cond := [Cond.code yX1_fillState cX1_fillState 7 none, Cond.fieldLink RX1 26 "PaintSequencer$Plan" "leasts" "[I", Cond.fieldLink RX1 29 "PaintSequencer$Plan" "starts" "[I", Cond.methodLink RX1 35 yX1_fewestFrom, Cond.instanceMethod yX1_fewestFrom, Cond.selects RX1 yX1_fewestFrom yX1_fewestFrom, Cond.code yX1_fewestFrom cX1_fewestFrom 5 (some .int), Cond.methodLink RX1 57 yX1_stepBack, Cond.instanceMethod yX1_stepBack, Cond.selects RX1 yX1_stepBack yX1_stepBack, Cond.code yX1_stepBack cX1_stepBack 2 none, Cond.methodLink RX1 43 yX1_fewestWith, Cond.instanceMethod yX1_fewestWith, Cond.selects RX1 yX1_fewestWith yX1_fewestWith, Cond.code yX1_fewestWith cX1_fewestWith 4 (some .int), Cond.static yX2_changeBetween, Cond.code yX2_changeBetween cX2_changeBetween 2 (some .int), Cond.methodLink RX2 125 yX2_takeHeadOf, Cond.instanceMethod yX2_takeHeadOf, Cond.selects RX2 yX2_takeHeadOf yX2_takeHeadOf, Cond.code yX2_takeHeadOf cX2_takeHeadOf 3 (some .int), Cond.methodLink RX2 225 yX0_takeHead, Cond.instanceMethod yX0_takeHead, Cond.selects RX0 yX0_takeHead yX0_takeHead]
def wsL_follows_r6 : List Cond := [Cond.code yX0_takeHead cX0_takeHead 3 (some .int), Cond.methodLink RX0 19 yX0_at, Cond.methodLink RX2 228 yX2_changeBetween, Cond.methodLink RL 54 yX2_fewestChanges, Cond.instanceMethod yX2_fewestChanges, Cond.selects RX2 yX2_fewestChanges yX2_fewestChanges, Cond.code yX2_fewestChanges cX2_fewestChanges 1 (some .int), Cond.methodLink RX2 185 yX1_fewest, Cond.methodLink RL 37 yX2_assemble, Cond.instanceMethod yX2_assemble, Cond.selects RX2 yX2_assemble yX2_assemble, Cond.code yX2_assemble cX2_assemble 2 (some .int), Cond.fieldLink RX2 23 "PaintSequencer" "positions" "[I", Cond.fieldLink RX2 161 "PaintSequencer" "assembled" "I", Cond.fieldLink RX2 26 "PaintSequencer" "order" "[I", Cond.methodLink RX2 156 yX2_lowestInStore, Cond.instanceMethod yX2_lowestInStore, Cond.selects RX2 yX2_lowestInStore yX2_lowestInStore, Cond.code yX2_lowestInStore cX2_lowestInStore 2 (some .int)]
def wsL_follows : List Cond := .code yL_follows cL_follows 6 (some .boolean) :: ((wsL_follows_r1 ++ (wsL_follows_r2 ++ (wsL_follows_r3 ++ (wsL_follows_r4 ++ (wsL_follows_r5 ++ wsL_follows_r6))))) ++ wsX20 ++ wsX00 ++ wsX10 ++ (vx_atS RX2 86 "java/lang/IllegalStateException" ["java/lang/RuntimeException", "java/lang/Exception"]).filter goodWord)
def wsL_ends_r1 : List Cond := [Cond.methodLink RL 63 yX2_assembledAt, Cond.instanceMethod yX2_assembledAt, Cond.selects RX2 yX2_assembledAt yX2_assembledAt, Cond.initialized RX2, Cond.code yX2_assembledAt cX2_assembledAt 2 (some .int), Cond.classLink RX2 103 "java/lang/IndexOutOfBoundsException", Cond.initialized "java/lang/IndexOutOfBoundsException", Cond.fieldLink RX2 161 "PaintSequencer" "assembled" "I", Cond.fieldLink RX2 26 "PaintSequencer" "order" "[I", Cond.methodLink RL 66 yX2_lateness, Cond.instanceMethod yX2_lateness, Cond.selects RX2 yX2_lateness yX2_lateness, Cond.code yX2_lateness cX2_lateness 2 (some .int), Cond.classLink RX2 82 "java/lang/IllegalStateException", Cond.initialized "java/lang/IllegalStateException", Cond.fieldLink RX2 20 "PaintSequencer" "places" "[I", Cond.fieldLink RX2 23 "PaintSequencer" "positions" "[I", Cond.methodLink RX2 144 yX2_isBody, Cond.instanceMethod yX2_isBody, Cond.selects RX2 yX2_isBody yX2_isBody, Cond.code yX2_isBody cX2_isBody 2 (some .boolean), Cond.fieldLink RX2 60 "PaintSequencer" "bodies" "I", Cond.methodLink RL 69 yX2_worstLateness, Cond.instanceMethod yX2_worstLateness]
def wsL_ends_r2 : List Cond := [Cond.selects RX2 yX2_worstLateness yX2_worstLateness, Cond.code yX2_worstLateness cX2_worstLateness 4 (some .int), Cond.methodLink RL 34 yX2_stored, Cond.instanceMethod yX2_stored, Cond.selects RX2 yX2_stored yX2_stored, Cond.code yX2_stored cX2_stored 1 (some .int), Cond.methodLink RX2 151 yX2_countAt, Cond.instanceMethod yX2_countAt, Cond.selects RX2 yX2_countAt yX2_countAt, Cond.code yX2_countAt cX2_countAt 4 (some .int)]
def wsL_ends : List Cond := .code yL_ends cL_ends 7 (some .boolean) :: ((wsL_ends_r1 ++ wsL_ends_r2) ++ wsX20 ++ (vx_atS RX2 107 "java/lang/IndexOutOfBoundsException" ["java/lang/RuntimeException", "java/lang/Exception"]).filter goodWord ++ (vx_atS RX2 86 "java/lang/IllegalStateException" ["java/lang/RuntimeException", "java/lang/Exception"]).filter goodWord)
def wsL_round_r1 : List Cond := [Cond.methodLink RL 14 yL_at, Cond.static yL_at, Cond.initialized RL, Cond.code yL_at cL_at 2 (some .int), Cond.methodLink RL 43 yL_fill, Cond.static yL_fill, Cond.code yL_fill cL_fill 7 (some .int), Cond.methodLink RL 8 yX2_begin, Cond.instanceMethod yX2_begin, Cond.selects RX2 yX2_begin yX2_begin, Cond.initialized RX2, Cond.code yX2_begin cX2_begin 5 (some .int), Cond.classLink RX2 49 "java/lang/IllegalArgumentException", Cond.initialized "java/lang/IllegalArgumentException", Cond.fieldLink RX2 60 "PaintSequencer" "bodies" "I", Cond.fieldLink RX2 36 "PaintSequencer" "laneCount" "I", Cond.fieldLink RX2 40 "PaintSequencer" "depth" "I", Cond.fieldLink RX2 43 "PaintSequencer" "storeRoom" "I", Cond.methodLink RX2 63 yX2_forgetBodies, Cond.instanceMethod yX2_forgetBodies, Cond.selects RX2 yX2_forgetBodies yX2_forgetBodies, Cond.code yX2_forgetBodies cX2_forgetBodies 2 none, Cond.fieldLink RX2 11 "PaintSequencer" "lanes" "[LPaintSequencer$Lane;", Cond.fieldLink RX2 161 "PaintSequencer" "assembled" "I"]
def wsL_round_r2 : List Cond := [Cond.fieldLink RX2 208 "PaintSequencer" "laneInTurn" "I", Cond.fieldLink RX2 46 "PaintSequencer" "latestColour" "I", Cond.fieldLink RX2 175 "PaintSequencer" "changes" "I", Cond.fieldLink RX2 178 "PaintSequencer" "released" "I", Cond.methodLink RX2 231 yX0_clear, Cond.instanceMethod yX0_clear, Cond.selects RX0 yX0_clear yX0_clear, Cond.initialized RX0, Cond.code yX0_clear cX0_clear 1 none, Cond.fieldLink RX0 15 "PaintSequencer$Lane" "size" "I", Cond.methodLink RL 20 yX2_inLane, Cond.instanceMethod yX2_inLane, Cond.selects RX2 yX2_inLane yX2_inLane, Cond.code yX2_inLane cX2_inLane 2 (some .int), Cond.classLink RX2 103 "java/lang/IndexOutOfBoundsException", Cond.initialized "java/lang/IndexOutOfBoundsException", Cond.methodLink RX2 100 yX2_isLane, Cond.instanceMethod yX2_isLane, Cond.selects RX2 yX2_isLane yX2_isLane, Cond.code yX2_isLane cX2_isLane 2 (some .boolean), Cond.methodLink RX2 164 yX0_count, Cond.instanceMethod yX0_count, Cond.selects RX0 yX0_count yX0_count, Cond.code yX0_count cX0_count 1 (some .int)]
def wsL_round_r3 : List Cond := [Cond.methodLink RL 24 yX2_arriveIn, Cond.instanceMethod yX2_arriveIn, Cond.selects RX2 yX2_arriveIn yX2_arriveIn, Cond.code yX2_arriveIn cX2_arriveIn 4 (some .int), Cond.classLink RX2 82 "java/lang/IllegalStateException", Cond.initialized "java/lang/IllegalStateException", Cond.methodLink RX2 76 yX2_isColour, Cond.static yX2_isColour, Cond.code yX2_isColour cX2_isColour 1 (some .boolean), Cond.methodLink RX2 108 yX2_hasRoom, Cond.instanceMethod yX2_hasRoom, Cond.selects RX2 yX2_hasRoom yX2_hasRoom, Cond.code yX2_hasRoom cX2_hasRoom 2 (some .boolean), Cond.methodLink RX2 93 yX2_newBody, Cond.instanceMethod yX2_newBody, Cond.selects RX2 yX2_newBody yX2_newBody, Cond.code yX2_newBody cX2_newBody 3 (some .int), Cond.fieldLink RX2 16 "PaintSequencer" "colours" "[I", Cond.methodLink RX2 96 yX2_putInto, Cond.instanceMethod yX2_putInto, Cond.selects RX2 yX2_putInto yX2_putInto, Cond.code yX2_putInto cX2_putInto 3 none, Cond.fieldLink RX2 20 "PaintSequencer" "places" "[I", Cond.methodLink RX2 214 yX0_add]
def wsL_round_r4 : List Cond := [Cond.instanceMethod yX0_add, Cond.selects RX0 yX0_add yX0_add, Cond.code yX0_add cX0_add 2 none, Cond.fieldLink RX0 9 "PaintSequencer$Lane" "row" "[I", Cond.methodLink RX2 211 yX2_laneBehind, Cond.instanceMethod yX2_laneBehind, Cond.selects RX2 yX2_laneBehind yX2_laneBehind, Cond.code yX2_laneBehind cX2_laneBehind 2 (some .int), Cond.methodLink RL 27 yX2_bodies, Cond.instanceMethod yX2_bodies, Cond.selects RX2 yX2_bodies yX2_bodies, Cond.code yX2_bodies cX2_bodies 1 (some .int), Cond.methodLink RL 47 yL_first, Cond.static yL_first, Cond.code yL_first cL_first 7 (some .boolean), Cond.methodLink RL 31 yX2_releaseFrom, Cond.instanceMethod yX2_releaseFrom, Cond.selects RX2 yX2_releaseFrom yX2_releaseFrom, Cond.code yX2_releaseFrom cX2_releaseFrom 2 (some .int), Cond.methodLink RX2 128 yX0_isEmpty, Cond.instanceMethod yX0_isEmpty, Cond.selects RX0 yX0_isEmpty yX0_isEmpty, Cond.code yX0_isEmpty cX0_isEmpty 1 (some .boolean), Cond.methodLink RX2 113 yX2_storeIsFull]
def wsL_round_r5 : List Cond := [Cond.instanceMethod yX2_storeIsFull, Cond.selects RX2 yX2_storeIsFull yX2_storeIsFull, Cond.code yX2_storeIsFull cX2_storeIsFull 1 (some .boolean), Cond.methodLink RX2 151 yX2_countAt, Cond.instanceMethod yX2_countAt, Cond.selects RX2 yX2_countAt yX2_countAt, Cond.code yX2_countAt cX2_countAt 4 (some .int), Cond.methodLink RX2 125 yX2_takeHeadOf, Cond.instanceMethod yX2_takeHeadOf, Cond.selects RX2 yX2_takeHeadOf yX2_takeHeadOf, Cond.code yX2_takeHeadOf cX2_takeHeadOf 3 (some .int), Cond.methodLink RX2 225 yX0_takeHead, Cond.instanceMethod yX0_takeHead, Cond.selects RX0 yX0_takeHead yX0_takeHead, Cond.code yX0_takeHead cX0_takeHead 3 (some .int), Cond.methodLink RX0 19 yX0_at, Cond.instanceMethod yX0_at, Cond.selects RX0 yX0_at yX0_at, Cond.code yX0_at cX0_at 2 (some .int), Cond.methodLink RX2 144 yX2_isBody, Cond.instanceMethod yX2_isBody, Cond.selects RX2 yX2_isBody yX2_isBody, Cond.code yX2_isBody cX2_isBody 2 (some .boolean), Cond.methodLink RX2 228 yX2_changeBetween]
def wsL_round_r6 : List Cond := [Cond.static yX2_changeBetween, Cond.code yX2_changeBetween cX2_changeBetween 2 (some .int), Cond.methodLink RL 34 yX2_stored, Cond.instanceMethod yX2_stored, Cond.selects RX2 yX2_stored yX2_stored, Cond.code yX2_stored cX2_stored 1 (some .int), Cond.methodLink RL 37 yX2_assemble, Cond.instanceMethod yX2_assemble, Cond.selects RX2 yX2_assemble yX2_assemble, Cond.code yX2_assemble cX2_assemble 2 (some .int), Cond.fieldLink RX2 23 "PaintSequencer" "positions" "[I", Cond.fieldLink RX2 26 "PaintSequencer" "order" "[I", Cond.methodLink RX2 156 yX2_lowestInStore, Cond.instanceMethod yX2_lowestInStore, Cond.selects RX2 yX2_lowestInStore yX2_lowestInStore, Cond.code yX2_lowestInStore cX2_lowestInStore 2 (some .int), Cond.methodLink RL 40 yX2_where, Cond.instanceMethod yX2_where, Cond.selects RX2 yX2_where yX2_where, Cond.code yX2_where cX2_where 2 (some .int), Cond.methodLink RL 54 yX2_fewestChanges, Cond.instanceMethod yX2_fewestChanges, Cond.selects RX2 yX2_fewestChanges yX2_fewestChanges, Cond.code yX2_fewestChanges cX2_fewestChanges 1 (some .int)]
def wsL_round_r7 : List Cond := [Cond.fieldLink RX2 32 "PaintSequencer" "plan" "LPaintSequencer$Plan;", Cond.methodLink RX2 133 yX2_countInLanes, Cond.instanceMethod yX2_countInLanes, Cond.selects RX2 yX2_countInLanes yX2_countInLanes, Cond.code yX2_countInLanes cX2_countInLanes 3 (some .int), Cond.methodLink RX2 138 yX2_copyLanesIntoPlan, Cond.instanceMethod yX2_copyLanesIntoPlan, Cond.selects RX2 yX2_copyLanesIntoPlan yX2_copyLanesIntoPlan, Cond.code yX2_copyLanesIntoPlan cX2_copyLanesIntoPlan 3 none, Cond.methodLink RX2 234 yX1_clear, Cond.instanceMethod yX1_clear, Cond.selects RX1 yX1_clear yX1_clear, Cond.initialized RX1, Cond.code yX1_clear cX1_clear 2 none, Cond.fieldLink RX1 16 "PaintSequencer$Plan" "sizes" "[I", Cond.methodLink RX2 167 yX0_at, Cond.methodLink RX2 205 yX2_colourOf, Cond.instanceMethod yX2_colourOf, Cond.selects RX2 yX2_colourOf yX2_colourOf, Cond.code yX2_colourOf cX2_colourOf 2 (some .int), Cond.methodLink RX2 235 yX1_add, Cond.instanceMethod yX1_add, Cond.selects RX1 yX1_add yX1_add, Cond.code yX1_add cX1_add 3 none]
def wsL_round_r8 : List Cond := [Cond.fieldLink RX1 11 "PaintSequencer$Plan" "waiting" "[[I", Cond.methodLink RX2 185 yX1_fewest, Cond.instanceMethod yX1_fewest, Cond.selects RX1 yX1_fewest yX1_fewest, Cond.code yX1_fewest cX1_fewest 2 (some .int), Cond.methodLink RX1 32 yX1_fillTable, Cond.instanceMethod yX1_fillTable, Cond.selects RX1 yX1_fillTable yX1_fillTable, Cond.code yX1_fillTable cX1_fillTable 3 none, Cond.fieldLink RX1 20 "PaintSequencer$Plan" "taken" "[I", Cond.methodLink RX1 49 yX1_layStrides, Cond.instanceMethod yX1_layStrides, Cond.selects RX1 yX1_layStrides yX1_layStrides, Cond.code yX1_layStrides cX1_layStrides 3 (some .int), Cond.fieldLink RX1 23 "PaintSequencer$Plan" "strides" "[I", Cond.methodLink RX1 53 yX1_fillState, Cond.instanceMethod yX1_fillState, Cond.selects RX1 yX1_fillState yX1_fillState, Cond.code yX1_fillState cX1_fillState 7 none, Cond.fieldLink RX1 26 "PaintSequencer$Plan" "leasts" "[I", Cond.fieldLink RX1 29 "PaintSequencer$Plan" "starts" "[I", Cond.methodLink RX1 35 yX1_fewestFrom, Cond.instanceMethod yX1_fewestFrom, Cond.selects RX1 yX1_fewestFrom yX1_fewestFrom]
def wsL_round_r9 : List Cond := [Cond.code yX1_fewestFrom cX1_fewestFrom 5 (some .int), Cond.methodLink RX1 57 yX1_stepBack, Cond.instanceMethod yX1_stepBack, Cond.selects RX1 yX1_stepBack yX1_stepBack, Cond.code yX1_stepBack cX1_stepBack 2 none, Cond.methodLink RL 57 yX2_released, Cond.instanceMethod yX2_released, Cond.selects RX2 yX2_released yX2_released, Cond.code yX2_released cX2_released 1 (some .int), Cond.methodLink RL 72 yX2_fewestByAll, Cond.instanceMethod yX2_fewestByAll, Cond.selects RX2 yX2_fewestByAll yX2_fewestByAll, Cond.code yX2_fewestByAll cX2_fewestByAll 1 (some .int), Cond.methodLink RX2 190 yX1_fewestOfAllOrders, Cond.instanceMethod yX1_fewestOfAllOrders, Cond.selects RX1 yX1_fewestOfAllOrders yX1_fewestOfAllOrders, Cond.code yX1_fewestOfAllOrders cX1_fewestOfAllOrders 4 (some .int), Cond.methodLink RX1 60 yX1_tryOrders, Cond.static yX1_tryOrders, Cond.code yX1_tryOrders cX1_tryOrders 10 (some .int), Cond.methodLink RL 75 yL_follows, Cond.static yL_follows, Cond.code yL_follows cL_follows 6 (some .boolean), Cond.methodLink RL 51 yX2_changes]
def wsL_round_r10 : List Cond := [Cond.instanceMethod yX2_changes, Cond.selects RX2 yX2_changes yX2_changes, Cond.code yX2_changes cX2_changes 1 (some .int), Cond.methodLink RL 60 yX2_releaseBest, Cond.instanceMethod yX2_releaseBest, Cond.selects RX2 yX2_releaseBest yX2_releaseBest, Cond.code yX2_releaseBest cX2_releaseBest 2 (some .int), Cond.methodLink RX2 141 yX1_bestLane, Cond.instanceMethod yX1_bestLane, Cond.selects RX1 yX1_bestLane yX1_bestLane, Cond.code yX1_bestLane cX1_bestLane 4 (some .int), Cond.methodLink RX1 39 yX1_fewest, Cond.methodLink RX1 43 yX1_fewestWith, Cond.instanceMethod yX1_fewestWith, Cond.selects RX1 yX1_fewestWith yX1_fewestWith, Cond.code yX1_fewestWith cX1_fewestWith 4 (some .int), Cond.methodLink RL 79 yL_ends, Cond.static yL_ends, Cond.code yL_ends cL_ends 7 (some .boolean), Cond.methodLink RL 63 yX2_assembledAt, Cond.instanceMethod yX2_assembledAt, Cond.selects RX2 yX2_assembledAt yX2_assembledAt, Cond.code yX2_assembledAt cX2_assembledAt 2 (some .int), Cond.methodLink RL 66 yX2_lateness]
def wsL_round_r11 : List Cond := [Cond.instanceMethod yX2_lateness, Cond.selects RX2 yX2_lateness yX2_lateness, Cond.code yX2_lateness cX2_lateness 2 (some .int), Cond.methodLink RL 69 yX2_worstLateness, Cond.instanceMethod yX2_worstLateness, Cond.selects RX2 yX2_worstLateness yX2_worstLateness, Cond.code yX2_worstLateness cX2_worstLateness 4 (some .int), Cond.methodLink RL 82 yL_bounds, Cond.static yL_bounds, Cond.code yL_bounds cL_bounds 8 (some .boolean)]
def wsL_round : List Cond := .code yL_round cL_round 7 (some .boolean) :: ((wsL_round_r1 ++ (wsL_round_r2 ++ (wsL_round_r3 ++ (wsL_round_r4 ++ (wsL_round_r5 ++ (wsL_round_r6 ++ (wsL_round_r7 ++ (wsL_round_r8 ++ (wsL_round_r9 ++ (wsL_round_r10 ++ wsL_round_r11)))))))))) ++ wsX20 ++ wsX00 ++ wsX10 ++ (vx_atS RX2 53 "java/lang/IllegalArgumentException" ["java/lang/RuntimeException", "java/lang/Exception"]).filter goodWord ++ (vx_atS RX2 107 "java/lang/IndexOutOfBoundsException" ["java/lang/RuntimeException", "java/lang/Exception"]).filter goodWord ++ (vx_atS RX2 86 "java/lang/IllegalStateException" ["java/lang/RuntimeException", "java/lang/Exception"]).filter goodWord)
def wsL_law0_r1 : List Cond := [Cond.classLink RL 9 RX2, Cond.instantiable RX2 17, Cond.initialized RX2, Cond.constant RL 91 (2147483647), Cond.methodLink RL 86 yX2_init, Cond.instanceMethod yX2_init, Cond.code yX2_init cX2_init 2 none, Cond.methodLink RX2 1 objectInit, Cond.instanceMethod objectInit, Cond.code objectInit ⟨#[0xb1]⟩ 1 none, Cond.classLink RX2 9 RX0, Cond.fieldLink RX2 11 "PaintSequencer" "lanes" "[LPaintSequencer$Lane;", Cond.instantiable RX0 2, Cond.initialized RX0, Cond.arrayClass .int, Cond.fieldLink RX2 16 "PaintSequencer" "colours" "[I", Cond.fieldLink RX2 20 "PaintSequencer" "places" "[I", Cond.fieldLink RX2 23 "PaintSequencer" "positions" "[I", Cond.fieldLink RX2 26 "PaintSequencer" "order" "[I", Cond.classLink RX2 29 RX1, Cond.instantiable RX1 6, Cond.initialized RX1, Cond.fieldLink RX2 32 "PaintSequencer" "plan" "LPaintSequencer$Plan;", Cond.fieldLink RX2 36 "PaintSequencer" "laneCount" "I"]
def wsL_law0_r2 : List Cond := [Cond.fieldLink RX2 40 "PaintSequencer" "depth" "I", Cond.fieldLink RX2 43 "PaintSequencer" "storeRoom" "I", Cond.fieldLink RX2 46 "PaintSequencer" "latestColour" "I", Cond.instanceMethod yX0_init, Cond.code yX0_init cX0_init 1 none, Cond.methodLink RX0 3 objectInit, Cond.fieldLink RX0 9 "PaintSequencer$Lane" "row" "[I", Cond.instanceMethod yX1_init, Cond.code yX1_init cX1_init 1 none, Cond.methodLink RX1 3 objectInit, Cond.classLink RX1 9 "[[I", Cond.fieldLink RX1 11 "PaintSequencer$Plan" "waiting" "[[I", Cond.fieldLink RX1 16 "PaintSequencer$Plan" "sizes" "[I", Cond.fieldLink RX1 20 "PaintSequencer$Plan" "taken" "[I", Cond.fieldLink RX1 23 "PaintSequencer$Plan" "strides" "[I", Cond.fieldLink RX1 26 "PaintSequencer$Plan" "leasts" "[I", Cond.fieldLink RX1 29 "PaintSequencer$Plan" "starts" "[I", Cond.methodLink RL 87 yL_cell, Cond.static yL_cell, Cond.initialized RL, Cond.code yL_cell cL_cell 2 (some .int), Cond.constant RL 7 (513132451), Cond.methodLink RL 92 yL_round, Cond.static yL_round]
def wsL_law0_r3 : List Cond := [Cond.code yL_round cL_round 7 (some .boolean), Cond.methodLink RL 14 yL_at, Cond.static yL_at, Cond.code yL_at cL_at 2 (some .int), Cond.methodLink RL 43 yL_fill, Cond.static yL_fill, Cond.code yL_fill cL_fill 7 (some .int), Cond.methodLink RL 8 yX2_begin, Cond.instanceMethod yX2_begin, Cond.selects RX2 yX2_begin yX2_begin, Cond.code yX2_begin cX2_begin 5 (some .int), Cond.classLink RX2 49 "java/lang/IllegalArgumentException", Cond.initialized "java/lang/IllegalArgumentException", Cond.fieldLink RX2 60 "PaintSequencer" "bodies" "I", Cond.methodLink RX2 63 yX2_forgetBodies, Cond.instanceMethod yX2_forgetBodies, Cond.selects RX2 yX2_forgetBodies yX2_forgetBodies, Cond.code yX2_forgetBodies cX2_forgetBodies 2 none, Cond.fieldLink RX2 161 "PaintSequencer" "assembled" "I", Cond.fieldLink RX2 208 "PaintSequencer" "laneInTurn" "I", Cond.fieldLink RX2 175 "PaintSequencer" "changes" "I", Cond.fieldLink RX2 178 "PaintSequencer" "released" "I", Cond.methodLink RX2 231 yX0_clear, Cond.instanceMethod yX0_clear]
def wsL_law0_r4 : List Cond := [Cond.selects RX0 yX0_clear yX0_clear, Cond.code yX0_clear cX0_clear 1 none, Cond.fieldLink RX0 15 "PaintSequencer$Lane" "size" "I", Cond.methodLink RL 20 yX2_inLane, Cond.instanceMethod yX2_inLane, Cond.selects RX2 yX2_inLane yX2_inLane, Cond.code yX2_inLane cX2_inLane 2 (some .int), Cond.classLink RX2 103 "java/lang/IndexOutOfBoundsException", Cond.initialized "java/lang/IndexOutOfBoundsException", Cond.methodLink RX2 100 yX2_isLane, Cond.instanceMethod yX2_isLane, Cond.selects RX2 yX2_isLane yX2_isLane, Cond.code yX2_isLane cX2_isLane 2 (some .boolean), Cond.methodLink RX2 164 yX0_count, Cond.instanceMethod yX0_count, Cond.selects RX0 yX0_count yX0_count, Cond.code yX0_count cX0_count 1 (some .int), Cond.methodLink RL 24 yX2_arriveIn, Cond.instanceMethod yX2_arriveIn, Cond.selects RX2 yX2_arriveIn yX2_arriveIn, Cond.code yX2_arriveIn cX2_arriveIn 4 (some .int), Cond.classLink RX2 82 "java/lang/IllegalStateException", Cond.initialized "java/lang/IllegalStateException", Cond.methodLink RX2 76 yX2_isColour]
def wsL_law0_r5 : List Cond := [Cond.static yX2_isColour, Cond.code yX2_isColour cX2_isColour 1 (some .boolean), Cond.methodLink RX2 108 yX2_hasRoom, Cond.instanceMethod yX2_hasRoom, Cond.selects RX2 yX2_hasRoom yX2_hasRoom, Cond.code yX2_hasRoom cX2_hasRoom 2 (some .boolean), Cond.methodLink RX2 93 yX2_newBody, Cond.instanceMethod yX2_newBody, Cond.selects RX2 yX2_newBody yX2_newBody, Cond.code yX2_newBody cX2_newBody 3 (some .int), Cond.methodLink RX2 96 yX2_putInto, Cond.instanceMethod yX2_putInto, Cond.selects RX2 yX2_putInto yX2_putInto, Cond.code yX2_putInto cX2_putInto 3 none, Cond.methodLink RX2 214 yX0_add, Cond.instanceMethod yX0_add, Cond.selects RX0 yX0_add yX0_add, Cond.code yX0_add cX0_add 2 none, Cond.methodLink RX2 211 yX2_laneBehind, Cond.instanceMethod yX2_laneBehind, Cond.selects RX2 yX2_laneBehind yX2_laneBehind, Cond.code yX2_laneBehind cX2_laneBehind 2 (some .int), Cond.methodLink RL 27 yX2_bodies, Cond.instanceMethod yX2_bodies]
def wsL_law0_r6 : List Cond := [Cond.selects RX2 yX2_bodies yX2_bodies, Cond.code yX2_bodies cX2_bodies 1 (some .int), Cond.methodLink RL 47 yL_first, Cond.static yL_first, Cond.code yL_first cL_first 7 (some .boolean), Cond.methodLink RL 31 yX2_releaseFrom, Cond.instanceMethod yX2_releaseFrom, Cond.selects RX2 yX2_releaseFrom yX2_releaseFrom, Cond.code yX2_releaseFrom cX2_releaseFrom 2 (some .int), Cond.methodLink RX2 128 yX0_isEmpty, Cond.instanceMethod yX0_isEmpty, Cond.selects RX0 yX0_isEmpty yX0_isEmpty, Cond.code yX0_isEmpty cX0_isEmpty 1 (some .boolean), Cond.methodLink RX2 113 yX2_storeIsFull, Cond.instanceMethod yX2_storeIsFull, Cond.selects RX2 yX2_storeIsFull yX2_storeIsFull, Cond.code yX2_storeIsFull cX2_storeIsFull 1 (some .boolean), Cond.methodLink RX2 151 yX2_countAt, Cond.instanceMethod yX2_countAt, Cond.selects RX2 yX2_countAt yX2_countAt, Cond.code yX2_countAt cX2_countAt 4 (some .int), Cond.methodLink RX2 125 yX2_takeHeadOf, Cond.instanceMethod yX2_takeHeadOf, Cond.selects RX2 yX2_takeHeadOf yX2_takeHeadOf]
def wsL_law0_r7 : List Cond := [Cond.code yX2_takeHeadOf cX2_takeHeadOf 3 (some .int), Cond.methodLink RX2 225 yX0_takeHead, Cond.instanceMethod yX0_takeHead, Cond.selects RX0 yX0_takeHead yX0_takeHead, Cond.code yX0_takeHead cX0_takeHead 3 (some .int), Cond.methodLink RX0 19 yX0_at, Cond.instanceMethod yX0_at, Cond.selects RX0 yX0_at yX0_at, Cond.code yX0_at cX0_at 2 (some .int), Cond.methodLink RX2 144 yX2_isBody, Cond.instanceMethod yX2_isBody, Cond.selects RX2 yX2_isBody yX2_isBody, Cond.code yX2_isBody cX2_isBody 2 (some .boolean), Cond.methodLink RX2 228 yX2_changeBetween, Cond.static yX2_changeBetween, Cond.code yX2_changeBetween cX2_changeBetween 2 (some .int), Cond.methodLink RL 34 yX2_stored, Cond.instanceMethod yX2_stored, Cond.selects RX2 yX2_stored yX2_stored, Cond.code yX2_stored cX2_stored 1 (some .int), Cond.methodLink RL 37 yX2_assemble, Cond.instanceMethod yX2_assemble, Cond.selects RX2 yX2_assemble yX2_assemble, Cond.code yX2_assemble cX2_assemble 2 (some .int)]
def wsL_law0_r8 : List Cond := [Cond.methodLink RX2 156 yX2_lowestInStore, Cond.instanceMethod yX2_lowestInStore, Cond.selects RX2 yX2_lowestInStore yX2_lowestInStore, Cond.code yX2_lowestInStore cX2_lowestInStore 2 (some .int), Cond.methodLink RL 40 yX2_where, Cond.instanceMethod yX2_where, Cond.selects RX2 yX2_where yX2_where, Cond.code yX2_where cX2_where 2 (some .int), Cond.methodLink RL 54 yX2_fewestChanges, Cond.instanceMethod yX2_fewestChanges, Cond.selects RX2 yX2_fewestChanges yX2_fewestChanges, Cond.code yX2_fewestChanges cX2_fewestChanges 1 (some .int), Cond.methodLink RX2 133 yX2_countInLanes, Cond.instanceMethod yX2_countInLanes, Cond.selects RX2 yX2_countInLanes yX2_countInLanes, Cond.code yX2_countInLanes cX2_countInLanes 3 (some .int), Cond.methodLink RX2 138 yX2_copyLanesIntoPlan, Cond.instanceMethod yX2_copyLanesIntoPlan, Cond.selects RX2 yX2_copyLanesIntoPlan yX2_copyLanesIntoPlan, Cond.code yX2_copyLanesIntoPlan cX2_copyLanesIntoPlan 3 none, Cond.methodLink RX2 234 yX1_clear, Cond.instanceMethod yX1_clear, Cond.selects RX1 yX1_clear yX1_clear, Cond.code yX1_clear cX1_clear 2 none]
def wsL_law0_r9 : List Cond := [Cond.methodLink RX2 167 yX0_at, Cond.methodLink RX2 205 yX2_colourOf, Cond.instanceMethod yX2_colourOf, Cond.selects RX2 yX2_colourOf yX2_colourOf, Cond.code yX2_colourOf cX2_colourOf 2 (some .int), Cond.methodLink RX2 235 yX1_add, Cond.instanceMethod yX1_add, Cond.selects RX1 yX1_add yX1_add, Cond.code yX1_add cX1_add 3 none, Cond.methodLink RX2 185 yX1_fewest, Cond.instanceMethod yX1_fewest, Cond.selects RX1 yX1_fewest yX1_fewest, Cond.code yX1_fewest cX1_fewest 2 (some .int), Cond.methodLink RX1 32 yX1_fillTable, Cond.instanceMethod yX1_fillTable, Cond.selects RX1 yX1_fillTable yX1_fillTable, Cond.code yX1_fillTable cX1_fillTable 3 none, Cond.methodLink RX1 49 yX1_layStrides, Cond.instanceMethod yX1_layStrides, Cond.selects RX1 yX1_layStrides yX1_layStrides, Cond.code yX1_layStrides cX1_layStrides 3 (some .int), Cond.methodLink RX1 53 yX1_fillState, Cond.instanceMethod yX1_fillState, Cond.selects RX1 yX1_fillState yX1_fillState]
def wsL_law0_r10 : List Cond := [Cond.code yX1_fillState cX1_fillState 7 none, Cond.methodLink RX1 35 yX1_fewestFrom, Cond.instanceMethod yX1_fewestFrom, Cond.selects RX1 yX1_fewestFrom yX1_fewestFrom, Cond.code yX1_fewestFrom cX1_fewestFrom 5 (some .int), Cond.methodLink RX1 57 yX1_stepBack, Cond.instanceMethod yX1_stepBack, Cond.selects RX1 yX1_stepBack yX1_stepBack, Cond.code yX1_stepBack cX1_stepBack 2 none, Cond.methodLink RL 57 yX2_released, Cond.instanceMethod yX2_released, Cond.selects RX2 yX2_released yX2_released, Cond.code yX2_released cX2_released 1 (some .int), Cond.methodLink RL 72 yX2_fewestByAll, Cond.instanceMethod yX2_fewestByAll, Cond.selects RX2 yX2_fewestByAll yX2_fewestByAll, Cond.code yX2_fewestByAll cX2_fewestByAll 1 (some .int), Cond.methodLink RX2 190 yX1_fewestOfAllOrders, Cond.instanceMethod yX1_fewestOfAllOrders, Cond.selects RX1 yX1_fewestOfAllOrders yX1_fewestOfAllOrders, Cond.code yX1_fewestOfAllOrders cX1_fewestOfAllOrders 4 (some .int), Cond.methodLink RX1 60 yX1_tryOrders, Cond.static yX1_tryOrders, Cond.code yX1_tryOrders cX1_tryOrders 10 (some .int)]
def wsL_law0_r11 : List Cond := [Cond.methodLink RL 75 yL_follows, Cond.static yL_follows, Cond.code yL_follows cL_follows 6 (some .boolean), Cond.methodLink RL 51 yX2_changes, Cond.instanceMethod yX2_changes, Cond.selects RX2 yX2_changes yX2_changes, Cond.code yX2_changes cX2_changes 1 (some .int), Cond.methodLink RL 60 yX2_releaseBest, Cond.instanceMethod yX2_releaseBest, Cond.selects RX2 yX2_releaseBest yX2_releaseBest, Cond.code yX2_releaseBest cX2_releaseBest 2 (some .int), Cond.methodLink RX2 141 yX1_bestLane, Cond.instanceMethod yX1_bestLane, Cond.selects RX1 yX1_bestLane yX1_bestLane, Cond.code yX1_bestLane cX1_bestLane 4 (some .int), Cond.methodLink RX1 39 yX1_fewest, Cond.methodLink RX1 43 yX1_fewestWith, Cond.instanceMethod yX1_fewestWith, Cond.selects RX1 yX1_fewestWith yX1_fewestWith, Cond.code yX1_fewestWith cX1_fewestWith 4 (some .int), Cond.methodLink RL 79 yL_ends, Cond.static yL_ends, Cond.code yL_ends cL_ends 7 (some .boolean), Cond.methodLink RL 63 yX2_assembledAt]
def wsL_law0_r12 : List Cond := [Cond.instanceMethod yX2_assembledAt, Cond.selects RX2 yX2_assembledAt yX2_assembledAt, Cond.code yX2_assembledAt cX2_assembledAt 2 (some .int), Cond.methodLink RL 66 yX2_lateness, Cond.instanceMethod yX2_lateness, Cond.selects RX2 yX2_lateness yX2_lateness, Cond.code yX2_lateness cX2_lateness 2 (some .int), Cond.methodLink RL 69 yX2_worstLateness, Cond.instanceMethod yX2_worstLateness, Cond.selects RX2 yX2_worstLateness yX2_worstLateness, Cond.code yX2_worstLateness cX2_worstLateness 4 (some .int), Cond.methodLink RL 82 yL_bounds, Cond.static yL_bounds, Cond.code yL_bounds cL_bounds 8 (some .boolean)]
def wsL_law0 : List Cond := (wsL_law0_r1 ++ (wsL_law0_r2 ++ (wsL_law0_r3 ++ (wsL_law0_r4 ++ (wsL_law0_r5 ++ (wsL_law0_r6 ++ (wsL_law0_r7 ++ (wsL_law0_r8 ++ (wsL_law0_r9 ++ (wsL_law0_r10 ++ (wsL_law0_r11 ++ wsL_law0_r12))))))))))) ++ wsX20 ++ wsX00 ++ wsX10 ++ ([] : List Cond)
def wsL_law : List Cond := wsL_law0 ++ (vx_atS RX2 53 "java/lang/IllegalArgumentException" ["java/lang/RuntimeException", "java/lang/Exception"]).filter goodWord ++ (vx_atS RX2 107 "java/lang/IndexOutOfBoundsException" ["java/lang/RuntimeException", "java/lang/Exception"]).filter goodWord ++ (vx_atS RX2 86 "java/lang/IllegalStateException" ["java/lang/RuntimeException", "java/lang/Exception"]).filter goodWord
abbrev vwCl : List vw_C := [(RX0, TX0, 2), (RX1, TX1, 6), (RX2, TX2, 17)]
end
section
theorem dX0_init_0 : decode cX0_init 0 = .ok (.aload_n 0, 1) := by decide +kernel
theorem dX0_init_1 : decode cX0_init 1 = .ok (.invokespecial 3, 3) := by decide +kernel
theorem dX0_init_4 : decode cX0_init 4 = .ok (.aload_n 0, 1) := by decide +kernel
theorem dX0_init_5 : decode cX0_init 5 = .ok (.bipush 6, 2) := by decide +kernel
theorem dX0_init_7 : decode cX0_init 7 = .ok (.newarray .int, 2) := by decide +kernel
theorem dX0_init_9 : decode cX0_init 9 = .ok (.putfield 9, 3) := by decide +kernel
theorem dX0_init_12 : decode cX0_init 12 = .ok (.return_, 1) := by decide +kernel
theorem dX0_count_0 : decode cX0_count 0 = .ok (.aload_n 0, 1) := by decide +kernel
theorem dX0_count_1 : decode cX0_count 1 = .ok (.getfield 15, 3) := by decide +kernel
theorem dX0_count_4 : decode cX0_count 4 = .ok (.ireturn, 1) := by decide +kernel
theorem dX0_isEmpty_0 : decode cX0_isEmpty 0 = .ok (.aload_n 0, 1) := by decide +kernel
theorem dX0_isEmpty_1 : decode cX0_isEmpty 1 = .ok (.getfield 15, 3) := by decide +kernel
theorem dX0_isEmpty_4 : decode cX0_isEmpty 4 = .ok (.ifCond .ne 7, 3) := by decide +kernel
theorem dX0_isEmpty_7 : decode cX0_isEmpty 7 = .ok (.iconst 1, 1) := by decide +kernel
theorem dX0_isEmpty_8 : decode cX0_isEmpty 8 = .ok (.goto 4, 3) := by decide +kernel
theorem dX0_isEmpty_11 : decode cX0_isEmpty 11 = .ok (.iconst 0, 1) := by decide +kernel
theorem dX0_isEmpty_12 : decode cX0_isEmpty 12 = .ok (.ireturn, 1) := by decide +kernel
theorem dX0_at_0 : decode cX0_at 0 = .ok (.iload_n 1, 1) := by decide +kernel
theorem dX0_at_1 : decode cX0_at 1 = .ok (.ifCond .lt 20, 3) := by decide +kernel
theorem dX0_at_4 : decode cX0_at 4 = .ok (.iload_n 1, 1) := by decide +kernel
theorem dX0_at_5 : decode cX0_at 5 = .ok (.aload_n 0, 1) := by decide +kernel
theorem dX0_at_6 : decode cX0_at 6 = .ok (.getfield 15, 3) := by decide +kernel
theorem dX0_at_9 : decode cX0_at 9 = .ok (.if_icmp .ge 12, 3) := by decide +kernel
theorem dX0_at_12 : decode cX0_at 12 = .ok (.aload_n 0, 1) := by decide +kernel
theorem dX0_at_13 : decode cX0_at 13 = .ok (.getfield 9, 3) := by decide +kernel
theorem dX0_at_16 : decode cX0_at 16 = .ok (.iload_n 1, 1) := by decide +kernel
theorem dX0_at_17 : decode cX0_at 17 = .ok (.iaload, 1) := by decide +kernel
theorem dX0_at_18 : decode cX0_at 18 = .ok (.goto 4, 3) := by decide +kernel
theorem dX0_at_21 : decode cX0_at 21 = .ok (.iconst (-1), 1) := by decide +kernel
theorem dX0_at_22 : decode cX0_at 22 = .ok (.ireturn, 1) := by decide +kernel
theorem dX0_add_0 : decode cX0_add 0 = .ok (.aload_n 0, 1) := by decide +kernel
theorem dX0_add_1 : decode cX0_add 1 = .ok (.getfield 15, 3) := by decide +kernel
theorem dX0_add_4 : decode cX0_add 4 = .ok (.bipush 6, 2) := by decide +kernel
theorem dX0_add_6 : decode cX0_add 6 = .ok (.if_icmp .ge 23, 3) := by decide +kernel
theorem dX0_add_9 : decode cX0_add 9 = .ok (.aload_n 0, 1) := by decide +kernel
theorem dX0_add_10 : decode cX0_add 10 = .ok (.getfield 9, 3) := by decide +kernel
theorem dX0_add_13 : decode cX0_add 13 = .ok (.aload_n 0, 1) := by decide +kernel
theorem dX0_add_14 : decode cX0_add 14 = .ok (.getfield 15, 3) := by decide +kernel
theorem dX0_add_17 : decode cX0_add 17 = .ok (.iload_n 1, 1) := by decide +kernel
theorem dX0_add_18 : decode cX0_add 18 = .ok (.iastore, 1) := by decide +kernel
theorem dX0_add_19 : decode cX0_add 19 = .ok (.aload_n 0, 1) := by decide +kernel
theorem dX0_add_20 : decode cX0_add 20 = .ok (.dup, 1) := by decide +kernel
theorem dX0_add_21 : decode cX0_add 21 = .ok (.getfield 15, 3) := by decide +kernel
theorem dX0_add_24 : decode cX0_add 24 = .ok (.iconst 1, 1) := by decide +kernel
theorem dX0_add_25 : decode cX0_add 25 = .ok (.iadd, 1) := by decide +kernel
theorem dX0_add_26 : decode cX0_add 26 = .ok (.putfield 15, 3) := by decide +kernel
theorem dX0_add_29 : decode cX0_add 29 = .ok (.return_, 1) := by decide +kernel
set_option maxRecDepth 20000 in
theorem ggX0_takeHead_X0_at : GoodIn wsX0_takeHead wsX0_at := goodIn_r _ [7, 1, 2, 8, 9] (by decide +kernel) (by decide +kernel)
set_option maxRecDepth 20000 in
theorem gX0_takeHead_X0_at : GoodIn wsX0_takeHead (wsV RX0 19 RX0 yX0_at wsX0_at) := goodIn_app (goodIn_of _ (by decide +kernel)) ggX0_takeHead_X0_at
theorem dX0_takeHead_0 : decode cX0_takeHead 0 = .ok (.aload_n 0, 1) := by decide +kernel
theorem dX0_takeHead_1 : decode cX0_takeHead 1 = .ok (.iconst 0, 1) := by decide +kernel
theorem dX0_takeHead_2 : decode cX0_takeHead 2 = .ok (.invokevirtual 19, 3) := by decide +kernel
theorem dX0_takeHead_5 : decode cX0_takeHead 5 = .ok (.istore_n 1, 1) := by decide +kernel
theorem dX0_takeHead_6 : decode cX0_takeHead 6 = .ok (.iconst 1, 1) := by decide +kernel
theorem dX0_takeHead_7 : decode cX0_takeHead 7 = .ok (.istore_n 2, 1) := by decide +kernel
theorem dX0_takeHead_8 : decode cX0_takeHead 8 = .ok (.iload_n 2, 1) := by decide +kernel
theorem dX0_takeHead_9 : decode cX0_takeHead 9 = .ok (.aload_n 0, 1) := by decide +kernel
theorem dX0_takeHead_10 : decode cX0_takeHead 10 = .ok (.getfield 15, 3) := by decide +kernel
theorem dX0_takeHead_13 : decode cX0_takeHead 13 = .ok (.if_icmp .ge 23, 3) := by decide +kernel
theorem dX0_takeHead_16 : decode cX0_takeHead 16 = .ok (.aload_n 0, 1) := by decide +kernel
theorem dX0_takeHead_17 : decode cX0_takeHead 17 = .ok (.getfield 9, 3) := by decide +kernel
theorem dX0_takeHead_20 : decode cX0_takeHead 20 = .ok (.iload_n 2, 1) := by decide +kernel
theorem dX0_takeHead_21 : decode cX0_takeHead 21 = .ok (.iconst 1, 1) := by decide +kernel
theorem dX0_takeHead_22 : decode cX0_takeHead 22 = .ok (.isub, 1) := by decide +kernel
theorem dX0_takeHead_23 : decode cX0_takeHead 23 = .ok (.aload_n 0, 1) := by decide +kernel
theorem dX0_takeHead_24 : decode cX0_takeHead 24 = .ok (.getfield 9, 3) := by decide +kernel
theorem dX0_takeHead_27 : decode cX0_takeHead 27 = .ok (.iload_n 2, 1) := by decide +kernel
theorem dX0_takeHead_28 : decode cX0_takeHead 28 = .ok (.iaload, 1) := by decide +kernel
theorem dX0_takeHead_29 : decode cX0_takeHead 29 = .ok (.iastore, 1) := by decide +kernel
theorem dX0_takeHead_30 : decode cX0_takeHead 30 = .ok (.iinc 2 1, 3) := by decide +kernel
theorem dX0_takeHead_33 : decode cX0_takeHead 33 = .ok (.goto (-25), 3) := by decide +kernel
theorem dX0_takeHead_36 : decode cX0_takeHead 36 = .ok (.aload_n 0, 1) := by decide +kernel
theorem dX0_takeHead_37 : decode cX0_takeHead 37 = .ok (.aload_n 0, 1) := by decide +kernel
theorem dX0_takeHead_38 : decode cX0_takeHead 38 = .ok (.getfield 15, 3) := by decide +kernel
theorem dX0_takeHead_41 : decode cX0_takeHead 41 = .ok (.ifCond .le 12, 3) := by decide +kernel
theorem dX0_takeHead_44 : decode cX0_takeHead 44 = .ok (.aload_n 0, 1) := by decide +kernel
theorem dX0_takeHead_45 : decode cX0_takeHead 45 = .ok (.getfield 15, 3) := by decide +kernel
theorem dX0_takeHead_48 : decode cX0_takeHead 48 = .ok (.iconst 1, 1) := by decide +kernel
theorem dX0_takeHead_49 : decode cX0_takeHead 49 = .ok (.isub, 1) := by decide +kernel
theorem dX0_takeHead_50 : decode cX0_takeHead 50 = .ok (.goto 4, 3) := by decide +kernel
theorem dX0_takeHead_53 : decode cX0_takeHead 53 = .ok (.iconst 0, 1) := by decide +kernel
theorem dX0_takeHead_54 : decode cX0_takeHead 54 = .ok (.putfield 15, 3) := by decide +kernel
theorem dX0_takeHead_57 : decode cX0_takeHead 57 = .ok (.iload_n 1, 1) := by decide +kernel
theorem dX0_takeHead_58 : decode cX0_takeHead 58 = .ok (.ireturn, 1) := by decide +kernel
theorem dX0_clear_0 : decode cX0_clear 0 = .ok (.aload_n 0, 1) := by decide +kernel
theorem dX0_clear_1 : decode cX0_clear 1 = .ok (.iconst 0, 1) := by decide +kernel
theorem dX0_clear_2 : decode cX0_clear 2 = .ok (.putfield 15, 3) := by decide +kernel
theorem dX0_clear_5 : decode cX0_clear 5 = .ok (.return_, 1) := by decide +kernel
theorem dX1_init_0 : decode cX1_init 0 = .ok (.aload_n 0, 1) := by decide +kernel
theorem dX1_init_1 : decode cX1_init 1 = .ok (.invokespecial 3, 3) := by decide +kernel
theorem dX1_init_4 : decode cX1_init 4 = .ok (.aload_n 0, 1) := by decide +kernel
theorem dX1_init_5 : decode cX1_init 5 = .ok (.iconst 5, 1) := by decide +kernel
theorem dX1_init_6 : decode cX1_init 6 = .ok (.bipush 6, 2) := by decide +kernel
theorem dX1_init_8 : decode cX1_init 8 = .ok (.multianewarray 9 2, 4) := by decide +kernel
theorem dX1_init_12 : decode cX1_init 12 = .ok (.putfield 11, 3) := by decide +kernel
theorem dX1_init_15 : decode cX1_init 15 = .ok (.aload_n 0, 1) := by decide +kernel
theorem dX1_init_16 : decode cX1_init 16 = .ok (.iconst 5, 1) := by decide +kernel
theorem dX1_init_17 : decode cX1_init 17 = .ok (.newarray .int, 2) := by decide +kernel
theorem dX1_init_19 : decode cX1_init 19 = .ok (.putfield 16, 3) := by decide +kernel
theorem dX1_init_22 : decode cX1_init 22 = .ok (.aload_n 0, 1) := by decide +kernel
theorem dX1_init_23 : decode cX1_init 23 = .ok (.iconst 5, 1) := by decide +kernel
theorem dX1_init_24 : decode cX1_init 24 = .ok (.newarray .int, 2) := by decide +kernel
theorem dX1_init_26 : decode cX1_init 26 = .ok (.putfield 20, 3) := by decide +kernel
theorem dX1_init_29 : decode cX1_init 29 = .ok (.aload_n 0, 1) := by decide +kernel
theorem dX1_init_30 : decode cX1_init 30 = .ok (.iconst 5, 1) := by decide +kernel
theorem dX1_init_31 : decode cX1_init 31 = .ok (.newarray .int, 2) := by decide +kernel
theorem dX1_init_33 : decode cX1_init 33 = .ok (.putfield 23, 3) := by decide +kernel
theorem dX1_init_36 : decode cX1_init 36 = .ok (.aload_n 0, 1) := by decide +kernel
theorem dX1_init_37 : decode cX1_init 37 = .ok (.sipush 432, 3) := by decide +kernel
theorem dX1_init_40 : decode cX1_init 40 = .ok (.newarray .int, 2) := by decide +kernel
theorem dX1_init_42 : decode cX1_init 42 = .ok (.putfield 26, 3) := by decide +kernel
theorem dX1_init_45 : decode cX1_init 45 = .ok (.aload_n 0, 1) := by decide +kernel
theorem dX1_init_46 : decode cX1_init 46 = .ok (.sipush 432, 3) := by decide +kernel
theorem dX1_init_49 : decode cX1_init 49 = .ok (.newarray .int, 2) := by decide +kernel
theorem dX1_init_51 : decode cX1_init 51 = .ok (.putfield 29, 3) := by decide +kernel
theorem dX1_init_54 : decode cX1_init 54 = .ok (.return_, 1) := by decide +kernel
theorem dX1_clear_0 : decode cX1_clear 0 = .ok (.iconst 0, 1) := by decide +kernel
theorem dX1_clear_1 : decode cX1_clear 1 = .ok (.istore_n 1, 1) := by decide +kernel
theorem dX1_clear_2 : decode cX1_clear 2 = .ok (.iload_n 1, 1) := by decide +kernel
theorem dX1_clear_3 : decode cX1_clear 3 = .ok (.iconst 5, 1) := by decide +kernel
theorem dX1_clear_4 : decode cX1_clear 4 = .ok (.if_icmp .ge 16, 3) := by decide +kernel
theorem dX1_clear_7 : decode cX1_clear 7 = .ok (.aload_n 0, 1) := by decide +kernel
theorem dX1_clear_8 : decode cX1_clear 8 = .ok (.getfield 16, 3) := by decide +kernel
theorem dX1_clear_11 : decode cX1_clear 11 = .ok (.iload_n 1, 1) := by decide +kernel
theorem dX1_clear_12 : decode cX1_clear 12 = .ok (.iconst 0, 1) := by decide +kernel
theorem dX1_clear_13 : decode cX1_clear 13 = .ok (.iastore, 1) := by decide +kernel
theorem dX1_clear_14 : decode cX1_clear 14 = .ok (.iinc 1 1, 3) := by decide +kernel
theorem dX1_clear_17 : decode cX1_clear 17 = .ok (.goto (-15), 3) := by decide +kernel
theorem dX1_clear_20 : decode cX1_clear 20 = .ok (.return_, 1) := by decide +kernel
theorem dX1_add_0 : decode cX1_add 0 = .ok (.aload_n 0, 1) := by decide +kernel
theorem dX1_add_1 : decode cX1_add 1 = .ok (.getfield 16, 3) := by decide +kernel
theorem dX1_add_4 : decode cX1_add 4 = .ok (.iload_n 1, 1) := by decide +kernel
theorem dX1_add_5 : decode cX1_add 5 = .ok (.iaload, 1) := by decide +kernel
theorem dX1_add_6 : decode cX1_add 6 = .ok (.bipush 6, 2) := by decide +kernel
theorem dX1_add_8 : decode cX1_add 8 = .ok (.if_icmp .ge 27, 3) := by decide +kernel
theorem dX1_add_11 : decode cX1_add 11 = .ok (.aload_n 0, 1) := by decide +kernel
theorem dX1_add_12 : decode cX1_add 12 = .ok (.getfield 11, 3) := by decide +kernel
theorem dX1_add_15 : decode cX1_add 15 = .ok (.iload_n 1, 1) := by decide +kernel
theorem dX1_add_16 : decode cX1_add 16 = .ok (.aaload, 1) := by decide +kernel
theorem dX1_add_17 : decode cX1_add 17 = .ok (.aload_n 0, 1) := by decide +kernel
theorem dX1_add_18 : decode cX1_add 18 = .ok (.getfield 16, 3) := by decide +kernel
theorem dX1_add_21 : decode cX1_add 21 = .ok (.iload_n 1, 1) := by decide +kernel
theorem dX1_add_22 : decode cX1_add 22 = .ok (.iaload, 1) := by decide +kernel
theorem dX1_add_23 : decode cX1_add 23 = .ok (.iload_n 2, 1) := by decide +kernel
theorem dX1_add_24 : decode cX1_add 24 = .ok (.iastore, 1) := by decide +kernel
theorem dX1_add_25 : decode cX1_add 25 = .ok (.aload_n 0, 1) := by decide +kernel
theorem dX1_add_26 : decode cX1_add 26 = .ok (.getfield 16, 3) := by decide +kernel
theorem dX1_add_29 : decode cX1_add 29 = .ok (.iload_n 1, 1) := by decide +kernel
theorem dX1_add_30 : decode cX1_add 30 = .ok (.dup2, 1) := by decide +kernel
theorem dX1_add_31 : decode cX1_add 31 = .ok (.iaload, 1) := by decide +kernel
theorem dX1_add_32 : decode cX1_add 32 = .ok (.iconst 1, 1) := by decide +kernel
theorem dX1_add_33 : decode cX1_add 33 = .ok (.iadd, 1) := by decide +kernel
theorem dX1_add_34 : decode cX1_add 34 = .ok (.iastore, 1) := by decide +kernel
theorem dX1_add_35 : decode cX1_add 35 = .ok (.return_, 1) := by decide +kernel
set_option maxRecDepth 20000 in
theorem ggX1_fewest_X1_fillTable : GoodIn wsX1_fewest wsX1_fillTable := goodIn_r _ [5, 6, 7, 8, 9, 10, 4, 11, 12, 13, 14, 15, 16, 17, 18, 19, 20, 21, 22, 23, 24, 25, 26, 27, 28, 29, 30, 31, 32, 33] (by decide +kernel) (by decide +kernel)
set_option maxRecDepth 20000 in
theorem gX1_fewest_X1_fillTable : GoodIn wsX1_fewest (wsV RX1 32 RX1 yX1_fillTable wsX1_fillTable) := goodIn_app (goodIn_of _ (by decide +kernel)) ggX1_fewest_X1_fillTable
set_option maxRecDepth 20000 in
theorem ggX1_fewest_X1_fewestFrom : GoodIn wsX1_fewest wsX1_fewestFrom := goodIn_r _ [23, 19, 18, 28, 29, 30, 31, 32, 33] (by decide +kernel) (by decide +kernel)
set_option maxRecDepth 20000 in
theorem gX1_fewest_X1_fewestFrom : GoodIn wsX1_fewest (wsV RX1 35 RX1 yX1_fewestFrom wsX1_fewestFrom) := goodIn_app (goodIn_of _ (by decide +kernel)) ggX1_fewest_X1_fewestFrom
theorem dX1_fewest_0 : decode cX1_fewest 0 = .ok (.aload_n 0, 1) := by decide +kernel
theorem dX1_fewest_1 : decode cX1_fewest 1 = .ok (.invokevirtual 32, 3) := by decide +kernel
theorem dX1_fewest_4 : decode cX1_fewest 4 = .ok (.aload_n 0, 1) := by decide +kernel
theorem dX1_fewest_5 : decode cX1_fewest 5 = .ok (.iconst 0, 1) := by decide +kernel
theorem dX1_fewest_6 : decode cX1_fewest 6 = .ok (.iload_n 1, 1) := by decide +kernel
theorem dX1_fewest_7 : decode cX1_fewest 7 = .ok (.invokevirtual 35, 3) := by decide +kernel
theorem dX1_fewest_10 : decode cX1_fewest 10 = .ok (.ireturn, 1) := by decide +kernel
set_option maxRecDepth 20000 in
theorem ggX1_bestLane_X1_fewest : GoodIn wsX1_bestLane wsX1_fewest := goodIn_r _ [6, 7, 8, 9, 5, 10, 11, 1, 12, 13, 14, 15, 16, 17, 18, 19, 20, 21, 22, 23, 24, 25, 26, 27, 28, 29, 30, 31, 39, 40, 41, 42, 43, 44] (by decide +kernel) (by decide +kernel)
set_option maxRecDepth 20000 in
theorem gX1_bestLane_X1_fewest : GoodIn wsX1_bestLane (wsV RX1 39 RX1 yX1_fewest wsX1_fewest) := goodIn_app (goodIn_of _ (by decide +kernel)) ggX1_bestLane_X1_fewest
set_option maxRecDepth 20000 in
theorem ggX1_bestLane_X1_fewestWith : GoodIn wsX1_bestLane wsX1_fewestWith := goodIn_r _ [35, 21, 16, 36, 37, 38, 24, 25, 26, 5, 27, 23, 22, 39, 40, 41, 42, 43, 44] (by decide +kernel) (by decide +kernel)
set_option maxRecDepth 20000 in
theorem gX1_bestLane_X1_fewestWith : GoodIn wsX1_bestLane (wsV RX1 43 RX1 yX1_fewestWith wsX1_fewestWith) := goodIn_app (goodIn_of _ (by decide +kernel)) ggX1_bestLane_X1_fewestWith
theorem dX1_bestLane_0 : decode cX1_bestLane 0 = .ok (.aload_n 0, 1) := by decide +kernel
theorem dX1_bestLane_1 : decode cX1_bestLane 1 = .ok (.iload_n 1, 1) := by decide +kernel
theorem dX1_bestLane_2 : decode cX1_bestLane 2 = .ok (.invokevirtual 39, 3) := by decide +kernel
theorem dX1_bestLane_5 : decode cX1_bestLane 5 = .ok (.istore_n 2, 1) := by decide +kernel
theorem dX1_bestLane_6 : decode cX1_bestLane 6 = .ok (.iconst 0, 1) := by decide +kernel
theorem dX1_bestLane_7 : decode cX1_bestLane 7 = .ok (.istore_n 3, 1) := by decide +kernel
theorem dX1_bestLane_8 : decode cX1_bestLane 8 = .ok (.iload_n 3, 1) := by decide +kernel
theorem dX1_bestLane_9 : decode cX1_bestLane 9 = .ok (.iconst 5, 1) := by decide +kernel
theorem dX1_bestLane_10 : decode cX1_bestLane 10 = .ok (.if_icmp .ge 30, 3) := by decide +kernel
theorem dX1_bestLane_13 : decode cX1_bestLane 13 = .ok (.aload_n 0, 1) := by decide +kernel
theorem dX1_bestLane_14 : decode cX1_bestLane 14 = .ok (.getfield 16, 3) := by decide +kernel
theorem dX1_bestLane_17 : decode cX1_bestLane 17 = .ok (.iload_n 3, 1) := by decide +kernel
theorem dX1_bestLane_18 : decode cX1_bestLane 18 = .ok (.iaload, 1) := by decide +kernel
theorem dX1_bestLane_19 : decode cX1_bestLane 19 = .ok (.ifCond .le 15, 3) := by decide +kernel
theorem dX1_bestLane_22 : decode cX1_bestLane 22 = .ok (.aload_n 0, 1) := by decide +kernel
theorem dX1_bestLane_23 : decode cX1_bestLane 23 = .ok (.iload_n 3, 1) := by decide +kernel
theorem dX1_bestLane_24 : decode cX1_bestLane 24 = .ok (.iload_n 1, 1) := by decide +kernel
theorem dX1_bestLane_25 : decode cX1_bestLane 25 = .ok (.invokevirtual 43, 3) := by decide +kernel
theorem dX1_bestLane_28 : decode cX1_bestLane 28 = .ok (.iload_n 2, 1) := by decide +kernel
theorem dX1_bestLane_29 : decode cX1_bestLane 29 = .ok (.if_icmp .ne 5, 3) := by decide +kernel
theorem dX1_bestLane_32 : decode cX1_bestLane 32 = .ok (.iload_n 3, 1) := by decide +kernel
theorem dX1_bestLane_33 : decode cX1_bestLane 33 = .ok (.ireturn, 1) := by decide +kernel
theorem dX1_bestLane_34 : decode cX1_bestLane 34 = .ok (.iinc 3 1, 3) := by decide +kernel
theorem dX1_bestLane_37 : decode cX1_bestLane 37 = .ok (.goto (-29), 3) := by decide +kernel
theorem dX1_bestLane_40 : decode cX1_bestLane 40 = .ok (.iconst (-1), 1) := by decide +kernel
theorem dX1_bestLane_41 : decode cX1_bestLane 41 = .ok (.ireturn, 1) := by decide +kernel
set_option maxRecDepth 20000 in
theorem ggX1_fewestWith_X2_changeBetween : GoodIn wsX1_fewestWith wsX2_changeBetween := goodIn_r _ [5] (by decide +kernel) (by decide +kernel)
set_option maxRecDepth 20000 in
theorem gX1_fewestWith_X2_changeBetween_n46 : GoodIn wsX1_fewestWith (wsX2_changeBetween) := ggX1_fewestWith_X2_changeBetween
set_option maxRecDepth 20000 in
theorem ggX1_fewestWith_X1_fewestFrom : GoodIn wsX1_fewestWith wsX1_fewestFrom := goodIn_r _ [10, 11, 12, 13, 14, 15, 16, 17, 18] (by decide +kernel) (by decide +kernel)
set_option maxRecDepth 20000 in
theorem gX1_fewestWith_X1_fewestFrom : GoodIn wsX1_fewestWith (wsV RX1 35 RX1 yX1_fewestFrom wsX1_fewestFrom) := goodIn_app (goodIn_of _ (by decide +kernel)) ggX1_fewestWith_X1_fewestFrom
theorem dX1_fewestWith_0 : decode cX1_fewestWith 0 = .ok (.aload_n 0, 1) := by decide +kernel
theorem dX1_fewestWith_1 : decode cX1_fewestWith 1 = .ok (.getfield 11, 3) := by decide +kernel
theorem dX1_fewestWith_4 : decode cX1_fewestWith 4 = .ok (.iload_n 1, 1) := by decide +kernel
theorem dX1_fewestWith_5 : decode cX1_fewestWith 5 = .ok (.aaload, 1) := by decide +kernel
theorem dX1_fewestWith_6 : decode cX1_fewestWith 6 = .ok (.iconst 0, 1) := by decide +kernel
theorem dX1_fewestWith_7 : decode cX1_fewestWith 7 = .ok (.iaload, 1) := by decide +kernel
theorem dX1_fewestWith_8 : decode cX1_fewestWith 8 = .ok (.istore_n 3, 1) := by decide +kernel
theorem dX1_fewestWith_9 : decode cX1_fewestWith 9 = .ok (.iload_n 2, 1) := by decide +kernel
theorem dX1_fewestWith_10 : decode cX1_fewestWith 10 = .ok (.iload_n 3, 1) := by decide +kernel
theorem dX1_fewestWith_11 : decode cX1_fewestWith 11 = .ok (.invokestatic 46, 3) := by decide +kernel
theorem dX1_fewestWith_14 : decode cX1_fewestWith 14 = .ok (.aload_n 0, 1) := by decide +kernel
theorem dX1_fewestWith_15 : decode cX1_fewestWith 15 = .ok (.aload_n 0, 1) := by decide +kernel
theorem dX1_fewestWith_16 : decode cX1_fewestWith 16 = .ok (.getfield 23, 3) := by decide +kernel
theorem dX1_fewestWith_19 : decode cX1_fewestWith 19 = .ok (.iload_n 1, 1) := by decide +kernel
theorem dX1_fewestWith_20 : decode cX1_fewestWith 20 = .ok (.iaload, 1) := by decide +kernel
theorem dX1_fewestWith_21 : decode cX1_fewestWith 21 = .ok (.iload_n 3, 1) := by decide +kernel
theorem dX1_fewestWith_22 : decode cX1_fewestWith 22 = .ok (.invokevirtual 35, 3) := by decide +kernel
theorem dX1_fewestWith_25 : decode cX1_fewestWith 25 = .ok (.iadd, 1) := by decide +kernel
theorem dX1_fewestWith_26 : decode cX1_fewestWith 26 = .ok (.ireturn, 1) := by decide +kernel
set_option maxRecDepth 20000 in
theorem ggX1_fillTable_X1_layStrides : GoodIn wsX1_fillTable wsX1_layStrides := goodIn_r _ [7, 8, 2, 24, 25, 26, 27, 28, 29] (by decide +kernel) (by decide +kernel)
set_option maxRecDepth 20000 in
theorem gX1_fillTable_X1_layStrides : GoodIn wsX1_fillTable (wsV RX1 49 RX1 yX1_layStrides wsX1_layStrides) := goodIn_app (goodIn_of _ (by decide +kernel)) ggX1_fillTable_X1_layStrides
set_option maxRecDepth 20000 in
theorem ggX1_fillTable_X1_fillState : GoodIn wsX1_fillTable wsX1_fillState := goodIn_r _ [12, 1, 2, 13, 8, 14, 15, 16, 17, 18, 6, 19, 24, 25, 26, 27, 28, 29] (by decide +kernel) (by decide +kernel)
set_option maxRecDepth 20000 in
theorem gX1_fillTable_X1_fillState : GoodIn wsX1_fillTable (wsV RX1 53 RX1 yX1_fillState wsX1_fillState) := goodIn_app (goodIn_of _ (by decide +kernel)) ggX1_fillTable_X1_fillState
set_option maxRecDepth 20000 in
theorem ggX1_fillTable_X1_stepBack : GoodIn wsX1_fillTable wsX1_stepBack := goodIn_r _ [23, 1, 2, 24, 25, 26, 27, 28, 29] (by decide +kernel) (by decide +kernel)
set_option maxRecDepth 20000 in
theorem gX1_fillTable_X1_stepBack : GoodIn wsX1_fillTable (wsV RX1 57 RX1 yX1_stepBack wsX1_stepBack) := goodIn_app (goodIn_of _ (by decide +kernel)) ggX1_fillTable_X1_stepBack
theorem dX1_fillTable_0 : decode cX1_fillTable 0 = .ok (.aload_n 0, 1) := by decide +kernel
theorem dX1_fillTable_1 : decode cX1_fillTable 1 = .ok (.invokevirtual 49, 3) := by decide +kernel
theorem dX1_fillTable_4 : decode cX1_fillTable 4 = .ok (.istore_n 1, 1) := by decide +kernel
theorem dX1_fillTable_5 : decode cX1_fillTable 5 = .ok (.iconst 0, 1) := by decide +kernel
theorem dX1_fillTable_6 : decode cX1_fillTable 6 = .ok (.istore_n 2, 1) := by decide +kernel
theorem dX1_fillTable_7 : decode cX1_fillTable 7 = .ok (.iload_n 2, 1) := by decide +kernel
theorem dX1_fillTable_8 : decode cX1_fillTable 8 = .ok (.iconst 5, 1) := by decide +kernel
theorem dX1_fillTable_9 : decode cX1_fillTable 9 = .ok (.if_icmp .ge 21, 3) := by decide +kernel
theorem dX1_fillTable_12 : decode cX1_fillTable 12 = .ok (.aload_n 0, 1) := by decide +kernel
theorem dX1_fillTable_13 : decode cX1_fillTable 13 = .ok (.getfield 20, 3) := by decide +kernel
theorem dX1_fillTable_16 : decode cX1_fillTable 16 = .ok (.iload_n 2, 1) := by decide +kernel
theorem dX1_fillTable_17 : decode cX1_fillTable 17 = .ok (.aload_n 0, 1) := by decide +kernel
theorem dX1_fillTable_18 : decode cX1_fillTable 18 = .ok (.getfield 16, 3) := by decide +kernel
theorem dX1_fillTable_21 : decode cX1_fillTable 21 = .ok (.iload_n 2, 1) := by decide +kernel
theorem dX1_fillTable_22 : decode cX1_fillTable 22 = .ok (.iaload, 1) := by decide +kernel
theorem dX1_fillTable_23 : decode cX1_fillTable 23 = .ok (.iastore, 1) := by decide +kernel
theorem dX1_fillTable_24 : decode cX1_fillTable 24 = .ok (.iinc 2 1, 3) := by decide +kernel
theorem dX1_fillTable_27 : decode cX1_fillTable 27 = .ok (.goto (-20), 3) := by decide +kernel
theorem dX1_fillTable_30 : decode cX1_fillTable 30 = .ok (.iload_n 1, 1) := by decide +kernel
theorem dX1_fillTable_31 : decode cX1_fillTable 31 = .ok (.iconst 1, 1) := by decide +kernel
theorem dX1_fillTable_32 : decode cX1_fillTable 32 = .ok (.isub, 1) := by decide +kernel
theorem dX1_fillTable_33 : decode cX1_fillTable 33 = .ok (.istore_n 2, 1) := by decide +kernel
theorem dX1_fillTable_34 : decode cX1_fillTable 34 = .ok (.iload_n 2, 1) := by decide +kernel
theorem dX1_fillTable_35 : decode cX1_fillTable 35 = .ok (.ifCond .lt 18, 3) := by decide +kernel
theorem dX1_fillTable_38 : decode cX1_fillTable 38 = .ok (.aload_n 0, 1) := by decide +kernel
theorem dX1_fillTable_39 : decode cX1_fillTable 39 = .ok (.iload_n 2, 1) := by decide +kernel
theorem dX1_fillTable_40 : decode cX1_fillTable 40 = .ok (.invokevirtual 53, 3) := by decide +kernel
theorem dX1_fillTable_43 : decode cX1_fillTable 43 = .ok (.aload_n 0, 1) := by decide +kernel
theorem dX1_fillTable_44 : decode cX1_fillTable 44 = .ok (.invokevirtual 57, 3) := by decide +kernel
theorem dX1_fillTable_47 : decode cX1_fillTable 47 = .ok (.iinc 2 (-1), 3) := by decide +kernel
theorem dX1_fillTable_50 : decode cX1_fillTable 50 = .ok (.goto (-16), 3) := by decide +kernel
theorem dX1_fillTable_53 : decode cX1_fillTable 53 = .ok (.return_, 1) := by decide +kernel
theorem dX1_layStrides_0 : decode cX1_layStrides 0 = .ok (.iconst 1, 1) := by decide +kernel
theorem dX1_layStrides_1 : decode cX1_layStrides 1 = .ok (.istore_n 1, 1) := by decide +kernel
theorem dX1_layStrides_2 : decode cX1_layStrides 2 = .ok (.iconst 0, 1) := by decide +kernel
theorem dX1_layStrides_3 : decode cX1_layStrides 3 = .ok (.istore_n 2, 1) := by decide +kernel
theorem dX1_layStrides_4 : decode cX1_layStrides 4 = .ok (.iload_n 2, 1) := by decide +kernel
theorem dX1_layStrides_5 : decode cX1_layStrides 5 = .ok (.iconst 5, 1) := by decide +kernel
theorem dX1_layStrides_6 : decode cX1_layStrides 6 = .ok (.if_icmp .ge 27, 3) := by decide +kernel
theorem dX1_layStrides_9 : decode cX1_layStrides 9 = .ok (.aload_n 0, 1) := by decide +kernel
theorem dX1_layStrides_10 : decode cX1_layStrides 10 = .ok (.getfield 23, 3) := by decide +kernel
theorem dX1_layStrides_13 : decode cX1_layStrides 13 = .ok (.iload_n 2, 1) := by decide +kernel
theorem dX1_layStrides_14 : decode cX1_layStrides 14 = .ok (.iload_n 1, 1) := by decide +kernel
theorem dX1_layStrides_15 : decode cX1_layStrides 15 = .ok (.iastore, 1) := by decide +kernel
theorem dX1_layStrides_16 : decode cX1_layStrides 16 = .ok (.iload_n 1, 1) := by decide +kernel
theorem dX1_layStrides_17 : decode cX1_layStrides 17 = .ok (.aload_n 0, 1) := by decide +kernel
theorem dX1_layStrides_18 : decode cX1_layStrides 18 = .ok (.getfield 16, 3) := by decide +kernel
theorem dX1_layStrides_21 : decode cX1_layStrides 21 = .ok (.iload_n 2, 1) := by decide +kernel
theorem dX1_layStrides_22 : decode cX1_layStrides 22 = .ok (.iaload, 1) := by decide +kernel
theorem dX1_layStrides_23 : decode cX1_layStrides 23 = .ok (.iconst 1, 1) := by decide +kernel
theorem dX1_layStrides_24 : decode cX1_layStrides 24 = .ok (.iadd, 1) := by decide +kernel
theorem dX1_layStrides_25 : decode cX1_layStrides 25 = .ok (.imul, 1) := by decide +kernel
theorem dX1_layStrides_26 : decode cX1_layStrides 26 = .ok (.istore_n 1, 1) := by decide +kernel
theorem dX1_layStrides_27 : decode cX1_layStrides 27 = .ok (.iinc 2 1, 3) := by decide +kernel
theorem dX1_layStrides_30 : decode cX1_layStrides 30 = .ok (.goto (-26), 3) := by decide +kernel
theorem dX1_layStrides_33 : decode cX1_layStrides 33 = .ok (.iload_n 1, 1) := by decide +kernel
theorem dX1_layStrides_34 : decode cX1_layStrides 34 = .ok (.sipush 432, 3) := by decide +kernel
theorem dX1_layStrides_37 : decode cX1_layStrides 37 = .ok (.if_icmp .ge 7, 3) := by decide +kernel
theorem dX1_layStrides_40 : decode cX1_layStrides 40 = .ok (.iload_n 1, 1) := by decide +kernel
theorem dX1_layStrides_41 : decode cX1_layStrides 41 = .ok (.goto 6, 3) := by decide +kernel
theorem dX1_layStrides_44 : decode cX1_layStrides 44 = .ok (.sipush 432, 3) := by decide +kernel
theorem dX1_layStrides_47 : decode cX1_layStrides 47 = .ok (.ireturn, 1) := by decide +kernel
theorem dX1_stepBack_0 : decode cX1_stepBack 0 = .ok (.iconst 0, 1) := by decide +kernel
theorem dX1_stepBack_1 : decode cX1_stepBack 1 = .ok (.istore_n 1, 1) := by decide +kernel
theorem dX1_stepBack_2 : decode cX1_stepBack 2 = .ok (.iload_n 1, 1) := by decide +kernel
theorem dX1_stepBack_3 : decode cX1_stepBack 3 = .ok (.iconst 5, 1) := by decide +kernel
theorem dX1_stepBack_4 : decode cX1_stepBack 4 = .ok (.if_icmp .ge 41, 3) := by decide +kernel
theorem dX1_stepBack_7 : decode cX1_stepBack 7 = .ok (.aload_n 0, 1) := by decide +kernel
theorem dX1_stepBack_8 : decode cX1_stepBack 8 = .ok (.getfield 20, 3) := by decide +kernel
theorem dX1_stepBack_11 : decode cX1_stepBack 11 = .ok (.iload_n 1, 1) := by decide +kernel
theorem dX1_stepBack_12 : decode cX1_stepBack 12 = .ok (.iaload, 1) := by decide +kernel
theorem dX1_stepBack_13 : decode cX1_stepBack 13 = .ok (.ifCond .le 14, 3) := by decide +kernel
theorem dX1_stepBack_16 : decode cX1_stepBack 16 = .ok (.aload_n 0, 1) := by decide +kernel
theorem dX1_stepBack_17 : decode cX1_stepBack 17 = .ok (.getfield 20, 3) := by decide +kernel
theorem dX1_stepBack_20 : decode cX1_stepBack 20 = .ok (.iload_n 1, 1) := by decide +kernel
theorem dX1_stepBack_21 : decode cX1_stepBack 21 = .ok (.dup2, 1) := by decide +kernel
theorem dX1_stepBack_22 : decode cX1_stepBack 22 = .ok (.iaload, 1) := by decide +kernel
theorem dX1_stepBack_23 : decode cX1_stepBack 23 = .ok (.iconst 1, 1) := by decide +kernel
theorem dX1_stepBack_24 : decode cX1_stepBack 24 = .ok (.isub, 1) := by decide +kernel
theorem dX1_stepBack_25 : decode cX1_stepBack 25 = .ok (.iastore, 1) := by decide +kernel
theorem dX1_stepBack_26 : decode cX1_stepBack 26 = .ok (.return_, 1) := by decide +kernel
theorem dX1_stepBack_27 : decode cX1_stepBack 27 = .ok (.aload_n 0, 1) := by decide +kernel
theorem dX1_stepBack_28 : decode cX1_stepBack 28 = .ok (.getfield 20, 3) := by decide +kernel
theorem dX1_stepBack_31 : decode cX1_stepBack 31 = .ok (.iload_n 1, 1) := by decide +kernel
theorem dX1_stepBack_32 : decode cX1_stepBack 32 = .ok (.aload_n 0, 1) := by decide +kernel
theorem dX1_stepBack_33 : decode cX1_stepBack 33 = .ok (.getfield 16, 3) := by decide +kernel
theorem dX1_stepBack_36 : decode cX1_stepBack 36 = .ok (.iload_n 1, 1) := by decide +kernel
theorem dX1_stepBack_37 : decode cX1_stepBack 37 = .ok (.iaload, 1) := by decide +kernel
theorem dX1_stepBack_38 : decode cX1_stepBack 38 = .ok (.iastore, 1) := by decide +kernel
theorem dX1_stepBack_39 : decode cX1_stepBack 39 = .ok (.iinc 1 1, 3) := by decide +kernel
theorem dX1_stepBack_42 : decode cX1_stepBack 42 = .ok (.goto (-40), 3) := by decide +kernel
theorem dX1_stepBack_45 : decode cX1_stepBack 45 = .ok (.return_, 1) := by decide +kernel
set_option maxRecDepth 20000 in
theorem ggX1_fillState_X1_fewestFrom : GoodIn wsX1_fillState wsX1_fewestFrom := goodIn_r _ [11, 6, 5, 12, 13, 14, 15, 16, 17] (by decide +kernel) (by decide +kernel)
set_option maxRecDepth 20000 in
theorem gX1_fillState_X1_fewestFrom : GoodIn wsX1_fillState (wsV RX1 35 RX1 yX1_fewestFrom wsX1_fewestFrom) := goodIn_app (goodIn_of _ (by decide +kernel)) ggX1_fillState_X1_fewestFrom
theorem dX1_fillState_0 : decode cX1_fillState 0 = .ok (.iconst 0, 1) := by decide +kernel
theorem dX1_fillState_1 : decode cX1_fillState 1 = .ok (.istore_n 2, 1) := by decide +kernel
theorem dX1_fillState_2 : decode cX1_fillState 2 = .ok (.iconst 0, 1) := by decide +kernel
theorem dX1_fillState_3 : decode cX1_fillState 3 = .ok (.istore_n 3, 1) := by decide +kernel
theorem dX1_fillState_4 : decode cX1_fillState 4 = .ok (.iconst 0, 1) := by decide +kernel
theorem dX1_fillState_5 : decode cX1_fillState 5 = .ok (.istore 4, 2) := by decide +kernel
theorem dX1_fillState_7 : decode cX1_fillState 7 = .ok (.iload 4, 2) := by decide +kernel
theorem dX1_fillState_9 : decode cX1_fillState 9 = .ok (.iconst 5, 1) := by decide +kernel
theorem dX1_fillState_10 : decode cX1_fillState 10 = .ok (.if_icmp .ge 94, 3) := by decide +kernel
theorem dX1_fillState_13 : decode cX1_fillState 13 = .ok (.aload_n 0, 1) := by decide +kernel
theorem dX1_fillState_14 : decode cX1_fillState 14 = .ok (.getfield 20, 3) := by decide +kernel
theorem dX1_fillState_17 : decode cX1_fillState 17 = .ok (.iload 4, 2) := by decide +kernel
theorem dX1_fillState_19 : decode cX1_fillState 19 = .ok (.iaload, 1) := by decide +kernel
theorem dX1_fillState_20 : decode cX1_fillState 20 = .ok (.aload_n 0, 1) := by decide +kernel
theorem dX1_fillState_21 : decode cX1_fillState 21 = .ok (.getfield 16, 3) := by decide +kernel
theorem dX1_fillState_24 : decode cX1_fillState 24 = .ok (.iload 4, 2) := by decide +kernel
theorem dX1_fillState_26 : decode cX1_fillState 26 = .ok (.iaload, 1) := by decide +kernel
theorem dX1_fillState_27 : decode cX1_fillState 27 = .ok (.if_icmp .ge 71, 3) := by decide +kernel
theorem dX1_fillState_30 : decode cX1_fillState 30 = .ok (.aload_n 0, 1) := by decide +kernel
theorem dX1_fillState_31 : decode cX1_fillState 31 = .ok (.getfield 11, 3) := by decide +kernel
theorem dX1_fillState_34 : decode cX1_fillState 34 = .ok (.iload 4, 2) := by decide +kernel
theorem dX1_fillState_36 : decode cX1_fillState 36 = .ok (.aaload, 1) := by decide +kernel
theorem dX1_fillState_37 : decode cX1_fillState 37 = .ok (.aload_n 0, 1) := by decide +kernel
theorem dX1_fillState_38 : decode cX1_fillState 38 = .ok (.getfield 20, 3) := by decide +kernel
theorem dX1_fillState_41 : decode cX1_fillState 41 = .ok (.iload 4, 2) := by decide +kernel
theorem dX1_fillState_43 : decode cX1_fillState 43 = .ok (.iaload, 1) := by decide +kernel
theorem dX1_fillState_44 : decode cX1_fillState 44 = .ok (.iaload, 1) := by decide +kernel
theorem dX1_fillState_45 : decode cX1_fillState 45 = .ok (.istore 5, 2) := by decide +kernel
theorem dX1_fillState_47 : decode cX1_fillState 47 = .ok (.aload_n 0, 1) := by decide +kernel
theorem dX1_fillState_48 : decode cX1_fillState 48 = .ok (.iload_n 1, 1) := by decide +kernel
theorem dX1_fillState_49 : decode cX1_fillState 49 = .ok (.aload_n 0, 1) := by decide +kernel
theorem dX1_fillState_50 : decode cX1_fillState 50 = .ok (.getfield 23, 3) := by decide +kernel
theorem dX1_fillState_53 : decode cX1_fillState 53 = .ok (.iload 4, 2) := by decide +kernel
theorem dX1_fillState_55 : decode cX1_fillState 55 = .ok (.iaload, 1) := by decide +kernel
theorem dX1_fillState_56 : decode cX1_fillState 56 = .ok (.iadd, 1) := by decide +kernel
theorem dX1_fillState_57 : decode cX1_fillState 57 = .ok (.iload 5, 2) := by decide +kernel
theorem dX1_fillState_59 : decode cX1_fillState 59 = .ok (.invokevirtual 35, 3) := by decide +kernel
theorem dX1_fillState_62 : decode cX1_fillState 62 = .ok (.istore 6, 2) := by decide +kernel
theorem dX1_fillState_64 : decode cX1_fillState 64 = .ok (.iload_n 3, 1) := by decide +kernel
theorem dX1_fillState_65 : decode cX1_fillState 65 = .ok (.ifCond .eq 9, 3) := by decide +kernel
theorem dX1_fillState_68 : decode cX1_fillState 68 = .ok (.iload 6, 2) := by decide +kernel
theorem dX1_fillState_70 : decode cX1_fillState 70 = .ok (.iload_n 2, 1) := by decide +kernel
theorem dX1_fillState_71 : decode cX1_fillState 71 = .ok (.if_icmp .ge 14, 3) := by decide +kernel
theorem dX1_fillState_74 : decode cX1_fillState 74 = .ok (.iload 6, 2) := by decide +kernel
theorem dX1_fillState_76 : decode cX1_fillState 76 = .ok (.istore_n 2, 1) := by decide +kernel
theorem dX1_fillState_77 : decode cX1_fillState 77 = .ok (.iconst 1, 1) := by decide +kernel
theorem dX1_fillState_78 : decode cX1_fillState 78 = .ok (.iload 5, 2) := by decide +kernel
theorem dX1_fillState_80 : decode cX1_fillState 80 = .ok (.ishl, 1) := by decide +kernel
theorem dX1_fillState_81 : decode cX1_fillState 81 = .ok (.istore_n 3, 1) := by decide +kernel
theorem dX1_fillState_82 : decode cX1_fillState 82 = .ok (.goto 16, 3) := by decide +kernel
theorem dX1_fillState_85 : decode cX1_fillState 85 = .ok (.iload 6, 2) := by decide +kernel
theorem dX1_fillState_87 : decode cX1_fillState 87 = .ok (.iload_n 2, 1) := by decide +kernel
theorem dX1_fillState_88 : decode cX1_fillState 88 = .ok (.if_icmp .ne 10, 3) := by decide +kernel
theorem dX1_fillState_91 : decode cX1_fillState 91 = .ok (.iload_n 3, 1) := by decide +kernel
theorem dX1_fillState_92 : decode cX1_fillState 92 = .ok (.iconst 1, 1) := by decide +kernel
theorem dX1_fillState_93 : decode cX1_fillState 93 = .ok (.iload 5, 2) := by decide +kernel
theorem dX1_fillState_95 : decode cX1_fillState 95 = .ok (.ishl, 1) := by decide +kernel
theorem dX1_fillState_96 : decode cX1_fillState 96 = .ok (.ior, 1) := by decide +kernel
theorem dX1_fillState_97 : decode cX1_fillState 97 = .ok (.istore_n 3, 1) := by decide +kernel
theorem dX1_fillState_98 : decode cX1_fillState 98 = .ok (.iinc 4 1, 3) := by decide +kernel
theorem dX1_fillState_101 : decode cX1_fillState 101 = .ok (.goto (-94), 3) := by decide +kernel
theorem dX1_fillState_104 : decode cX1_fillState 104 = .ok (.aload_n 0, 1) := by decide +kernel
theorem dX1_fillState_105 : decode cX1_fillState 105 = .ok (.getfield 26, 3) := by decide +kernel
theorem dX1_fillState_108 : decode cX1_fillState 108 = .ok (.iload_n 1, 1) := by decide +kernel
theorem dX1_fillState_109 : decode cX1_fillState 109 = .ok (.iload_n 2, 1) := by decide +kernel
theorem dX1_fillState_110 : decode cX1_fillState 110 = .ok (.iastore, 1) := by decide +kernel
theorem dX1_fillState_111 : decode cX1_fillState 111 = .ok (.aload_n 0, 1) := by decide +kernel
theorem dX1_fillState_112 : decode cX1_fillState 112 = .ok (.getfield 29, 3) := by decide +kernel
theorem dX1_fillState_115 : decode cX1_fillState 115 = .ok (.iload_n 1, 1) := by decide +kernel
theorem dX1_fillState_116 : decode cX1_fillState 116 = .ok (.iload_n 3, 1) := by decide +kernel
theorem dX1_fillState_117 : decode cX1_fillState 117 = .ok (.iastore, 1) := by decide +kernel
theorem dX1_fillState_118 : decode cX1_fillState 118 = .ok (.return_, 1) := by decide +kernel
theorem dX1_fewestFrom_0 : decode cX1_fewestFrom 0 = .ok (.iload_n 1, 1) := by decide +kernel
theorem dX1_fewestFrom_1 : decode cX1_fewestFrom 1 = .ok (.ifCond .lt 10, 3) := by decide +kernel
theorem dX1_fewestFrom_4 : decode cX1_fewestFrom 4 = .ok (.iload_n 1, 1) := by decide +kernel
theorem dX1_fewestFrom_5 : decode cX1_fewestFrom 5 = .ok (.sipush 432, 3) := by decide +kernel
theorem dX1_fewestFrom_8 : decode cX1_fewestFrom 8 = .ok (.if_icmp .lt 5, 3) := by decide +kernel
theorem dX1_fewestFrom_11 : decode cX1_fewestFrom 11 = .ok (.iconst 0, 1) := by decide +kernel
theorem dX1_fewestFrom_12 : decode cX1_fewestFrom 12 = .ok (.ireturn, 1) := by decide +kernel
theorem dX1_fewestFrom_13 : decode cX1_fewestFrom 13 = .ok (.iload_n 2, 1) := by decide +kernel
theorem dX1_fewestFrom_14 : decode cX1_fewestFrom 14 = .ok (.iconst (-1), 1) := by decide +kernel
theorem dX1_fewestFrom_15 : decode cX1_fewestFrom 15 = .ok (.if_icmp .eq 12, 3) := by decide +kernel
theorem dX1_fewestFrom_18 : decode cX1_fewestFrom 18 = .ok (.aload_n 0, 1) := by decide +kernel
theorem dX1_fewestFrom_19 : decode cX1_fewestFrom 19 = .ok (.getfield 29, 3) := by decide +kernel
theorem dX1_fewestFrom_22 : decode cX1_fewestFrom 22 = .ok (.iload_n 1, 1) := by decide +kernel
theorem dX1_fewestFrom_23 : decode cX1_fewestFrom 23 = .ok (.iaload, 1) := by decide +kernel
theorem dX1_fewestFrom_24 : decode cX1_fewestFrom 24 = .ok (.ifCond .ne 7, 3) := by decide +kernel
theorem dX1_fewestFrom_27 : decode cX1_fewestFrom 27 = .ok (.iconst 1, 1) := by decide +kernel
theorem dX1_fewestFrom_28 : decode cX1_fewestFrom 28 = .ok (.goto 4, 3) := by decide +kernel
theorem dX1_fewestFrom_31 : decode cX1_fewestFrom 31 = .ok (.iconst 0, 1) := by decide +kernel
theorem dX1_fewestFrom_32 : decode cX1_fewestFrom 32 = .ok (.istore_n 3, 1) := by decide +kernel
theorem dX1_fewestFrom_33 : decode cX1_fewestFrom 33 = .ok (.iload_n 3, 1) := by decide +kernel
theorem dX1_fewestFrom_34 : decode cX1_fewestFrom 34 = .ok (.ifCond .ne 17, 3) := by decide +kernel
theorem dX1_fewestFrom_37 : decode cX1_fewestFrom 37 = .ok (.aload_n 0, 1) := by decide +kernel
theorem dX1_fewestFrom_38 : decode cX1_fewestFrom 38 = .ok (.getfield 29, 3) := by decide +kernel
theorem dX1_fewestFrom_41 : decode cX1_fewestFrom 41 = .ok (.iload_n 1, 1) := by decide +kernel
theorem dX1_fewestFrom_42 : decode cX1_fewestFrom 42 = .ok (.iaload, 1) := by decide +kernel
theorem dX1_fewestFrom_43 : decode cX1_fewestFrom 43 = .ok (.iload_n 2, 1) := by decide +kernel
theorem dX1_fewestFrom_44 : decode cX1_fewestFrom 44 = .ok (.ishr, 1) := by decide +kernel
theorem dX1_fewestFrom_45 : decode cX1_fewestFrom 45 = .ok (.iconst 1, 1) := by decide +kernel
theorem dX1_fewestFrom_46 : decode cX1_fewestFrom 46 = .ok (.iand, 1) := by decide +kernel
theorem dX1_fewestFrom_47 : decode cX1_fewestFrom 47 = .ok (.iconst 1, 1) := by decide +kernel
theorem dX1_fewestFrom_48 : decode cX1_fewestFrom 48 = .ok (.if_icmp .ne 7, 3) := by decide +kernel
theorem dX1_fewestFrom_51 : decode cX1_fewestFrom 51 = .ok (.iconst 1, 1) := by decide +kernel
theorem dX1_fewestFrom_52 : decode cX1_fewestFrom 52 = .ok (.goto 4, 3) := by decide +kernel
theorem dX1_fewestFrom_55 : decode cX1_fewestFrom 55 = .ok (.iconst 0, 1) := by decide +kernel
theorem dX1_fewestFrom_56 : decode cX1_fewestFrom 56 = .ok (.istore 4, 2) := by decide +kernel
theorem dX1_fewestFrom_58 : decode cX1_fewestFrom 58 = .ok (.iload 4, 2) := by decide +kernel
theorem dX1_fewestFrom_60 : decode cX1_fewestFrom 60 = .ok (.ifCond .eq 12, 3) := by decide +kernel
theorem dX1_fewestFrom_63 : decode cX1_fewestFrom 63 = .ok (.aload_n 0, 1) := by decide +kernel
theorem dX1_fewestFrom_64 : decode cX1_fewestFrom 64 = .ok (.getfield 26, 3) := by decide +kernel
theorem dX1_fewestFrom_67 : decode cX1_fewestFrom 67 = .ok (.iload_n 1, 1) := by decide +kernel
theorem dX1_fewestFrom_68 : decode cX1_fewestFrom 68 = .ok (.iaload, 1) := by decide +kernel
theorem dX1_fewestFrom_69 : decode cX1_fewestFrom 69 = .ok (.goto 11, 3) := by decide +kernel
theorem dX1_fewestFrom_72 : decode cX1_fewestFrom 72 = .ok (.aload_n 0, 1) := by decide +kernel
theorem dX1_fewestFrom_73 : decode cX1_fewestFrom 73 = .ok (.getfield 26, 3) := by decide +kernel
theorem dX1_fewestFrom_76 : decode cX1_fewestFrom 76 = .ok (.iload_n 1, 1) := by decide +kernel
theorem dX1_fewestFrom_77 : decode cX1_fewestFrom 77 = .ok (.iaload, 1) := by decide +kernel
theorem dX1_fewestFrom_78 : decode cX1_fewestFrom 78 = .ok (.iconst 1, 1) := by decide +kernel
theorem dX1_fewestFrom_79 : decode cX1_fewestFrom 79 = .ok (.iadd, 1) := by decide +kernel
theorem dX1_fewestFrom_80 : decode cX1_fewestFrom 80 = .ok (.ireturn, 1) := by decide +kernel
set_option maxRecDepth 20000 in
theorem ggX1_fewestOfAllOrders_X1_tryOrders : GoodIn wsX1_fewestOfAllOrders wsX1_tryOrders := goodIn_r _ [6, 1, 2, 7, 8, 9, 10, 3, 4, 5, 11, 12, 13, 14, 15, 16] (by decide +kernel) (by decide +kernel)
set_option maxRecDepth 20000 in
theorem gX1_fewestOfAllOrders_X1_tryOrders : GoodIn wsX1_fewestOfAllOrders (va_wsS RX1 60 yX1_tryOrders wsX1_tryOrders) := goodIn_app (goodIn_of _ (by decide +kernel)) ggX1_fewestOfAllOrders_X1_tryOrders
theorem dX1_fewestOfAllOrders_0 : decode cX1_fewestOfAllOrders 0 = .ok (.iconst 0, 1) := by decide +kernel
theorem dX1_fewestOfAllOrders_1 : decode cX1_fewestOfAllOrders 1 = .ok (.istore_n 2, 1) := by decide +kernel
theorem dX1_fewestOfAllOrders_2 : decode cX1_fewestOfAllOrders 2 = .ok (.iconst 0, 1) := by decide +kernel
theorem dX1_fewestOfAllOrders_3 : decode cX1_fewestOfAllOrders 3 = .ok (.istore_n 3, 1) := by decide +kernel
theorem dX1_fewestOfAllOrders_4 : decode cX1_fewestOfAllOrders 4 = .ok (.iload_n 3, 1) := by decide +kernel
theorem dX1_fewestOfAllOrders_5 : decode cX1_fewestOfAllOrders 5 = .ok (.iconst 5, 1) := by decide +kernel
theorem dX1_fewestOfAllOrders_6 : decode cX1_fewestOfAllOrders 6 = .ok (.if_icmp .ge 25, 3) := by decide +kernel
theorem dX1_fewestOfAllOrders_9 : decode cX1_fewestOfAllOrders 9 = .ok (.aload_n 0, 1) := by decide +kernel
theorem dX1_fewestOfAllOrders_10 : decode cX1_fewestOfAllOrders 10 = .ok (.getfield 20, 3) := by decide +kernel
theorem dX1_fewestOfAllOrders_13 : decode cX1_fewestOfAllOrders 13 = .ok (.iload_n 3, 1) := by decide +kernel
theorem dX1_fewestOfAllOrders_14 : decode cX1_fewestOfAllOrders 14 = .ok (.iconst 0, 1) := by decide +kernel
theorem dX1_fewestOfAllOrders_15 : decode cX1_fewestOfAllOrders 15 = .ok (.iastore, 1) := by decide +kernel
theorem dX1_fewestOfAllOrders_16 : decode cX1_fewestOfAllOrders 16 = .ok (.iload_n 2, 1) := by decide +kernel
theorem dX1_fewestOfAllOrders_17 : decode cX1_fewestOfAllOrders 17 = .ok (.aload_n 0, 1) := by decide +kernel
theorem dX1_fewestOfAllOrders_18 : decode cX1_fewestOfAllOrders 18 = .ok (.getfield 16, 3) := by decide +kernel
theorem dX1_fewestOfAllOrders_21 : decode cX1_fewestOfAllOrders 21 = .ok (.iload_n 3, 1) := by decide +kernel
theorem dX1_fewestOfAllOrders_22 : decode cX1_fewestOfAllOrders 22 = .ok (.iaload, 1) := by decide +kernel
theorem dX1_fewestOfAllOrders_23 : decode cX1_fewestOfAllOrders 23 = .ok (.iadd, 1) := by decide +kernel
theorem dX1_fewestOfAllOrders_24 : decode cX1_fewestOfAllOrders 24 = .ok (.istore_n 2, 1) := by decide +kernel
theorem dX1_fewestOfAllOrders_25 : decode cX1_fewestOfAllOrders 25 = .ok (.iinc 3 1, 3) := by decide +kernel
theorem dX1_fewestOfAllOrders_28 : decode cX1_fewestOfAllOrders 28 = .ok (.goto (-24), 3) := by decide +kernel
theorem dX1_fewestOfAllOrders_31 : decode cX1_fewestOfAllOrders 31 = .ok (.aload_n 0, 1) := by decide +kernel
theorem dX1_fewestOfAllOrders_32 : decode cX1_fewestOfAllOrders 32 = .ok (.iload_n 2, 1) := by decide +kernel
theorem dX1_fewestOfAllOrders_33 : decode cX1_fewestOfAllOrders 33 = .ok (.iload_n 1, 1) := by decide +kernel
theorem dX1_fewestOfAllOrders_34 : decode cX1_fewestOfAllOrders 34 = .ok (.iconst 0, 1) := by decide +kernel
theorem dX1_fewestOfAllOrders_35 : decode cX1_fewestOfAllOrders 35 = .ok (.iload_n 2, 1) := by decide +kernel
theorem dX1_fewestOfAllOrders_36 : decode cX1_fewestOfAllOrders 36 = .ok (.iconst 1, 1) := by decide +kernel
theorem dX1_fewestOfAllOrders_37 : decode cX1_fewestOfAllOrders 37 = .ok (.iadd, 1) := by decide +kernel
theorem dX1_fewestOfAllOrders_38 : decode cX1_fewestOfAllOrders 38 = .ok (.invokestatic 60, 3) := by decide +kernel
theorem dX1_fewestOfAllOrders_41 : decode cX1_fewestOfAllOrders 41 = .ok (.ireturn, 1) := by decide +kernel
set_option maxRecDepth 20000 in
theorem ggX1_tryOrders_X2_changeBetween : GoodIn wsX1_tryOrders wsX2_changeBetween := goodIn_r _ [6] (by decide +kernel) (by decide +kernel)
set_option maxRecDepth 20000 in
theorem gX1_tryOrders_X2_changeBetween_n46 : GoodIn wsX1_tryOrders (wsX2_changeBetween) := ggX1_tryOrders_X2_changeBetween
set_option maxRecDepth 20000 in
theorem ggX1_tryOrders_X1_tryOrders : GoodIn wsX1_tryOrders wsX1_tryOrders := goodIn_r _ [0, 1, 2, 3, 4, 5, 6, 7, 8, 9, 10, 11, 12, 13, 14, 15] (by decide +kernel) (by decide +kernel)
set_option maxRecDepth 20000 in
theorem gX1_tryOrders_X1_tryOrders : GoodIn wsX1_tryOrders (va_wsS RX1 60 yX1_tryOrders wsX1_tryOrders) := goodIn_app (goodIn_of _ (by decide +kernel)) ggX1_tryOrders_X1_tryOrders
theorem dX1_tryOrders_0 : decode cX1_tryOrders 0 = .ok (.iload_n 3, 1) := by decide +kernel
theorem dX1_tryOrders_1 : decode cX1_tryOrders 1 = .ok (.iload 4, 2) := by decide +kernel
theorem dX1_tryOrders_3 : decode cX1_tryOrders 3 = .ok (.if_icmp .lt 6, 3) := by decide +kernel
theorem dX1_tryOrders_6 : decode cX1_tryOrders 6 = .ok (.iload 4, 2) := by decide +kernel
theorem dX1_tryOrders_8 : decode cX1_tryOrders 8 = .ok (.ireturn, 1) := by decide +kernel
theorem dX1_tryOrders_9 : decode cX1_tryOrders 9 = .ok (.iload_n 1, 1) := by decide +kernel
theorem dX1_tryOrders_10 : decode cX1_tryOrders 10 = .ok (.ifCond .gt 5, 3) := by decide +kernel
theorem dX1_tryOrders_13 : decode cX1_tryOrders 13 = .ok (.iload_n 3, 1) := by decide +kernel
theorem dX1_tryOrders_14 : decode cX1_tryOrders 14 = .ok (.ireturn, 1) := by decide +kernel
theorem dX1_tryOrders_15 : decode cX1_tryOrders 15 = .ok (.iload 4, 2) := by decide +kernel
theorem dX1_tryOrders_17 : decode cX1_tryOrders 17 = .ok (.istore 5, 2) := by decide +kernel
theorem dX1_tryOrders_19 : decode cX1_tryOrders 19 = .ok (.iconst 0, 1) := by decide +kernel
theorem dX1_tryOrders_20 : decode cX1_tryOrders 20 = .ok (.istore 6, 2) := by decide +kernel
theorem dX1_tryOrders_22 : decode cX1_tryOrders 22 = .ok (.iload 6, 2) := by decide +kernel
theorem dX1_tryOrders_24 : decode cX1_tryOrders 24 = .ok (.iconst 5, 1) := by decide +kernel
theorem dX1_tryOrders_25 : decode cX1_tryOrders 25 = .ok (.if_icmp .ge 87, 3) := by decide +kernel
theorem dX1_tryOrders_28 : decode cX1_tryOrders 28 = .ok (.aload_n 0, 1) := by decide +kernel
theorem dX1_tryOrders_29 : decode cX1_tryOrders 29 = .ok (.getfield 20, 3) := by decide +kernel
theorem dX1_tryOrders_32 : decode cX1_tryOrders 32 = .ok (.iload 6, 2) := by decide +kernel
theorem dX1_tryOrders_34 : decode cX1_tryOrders 34 = .ok (.iaload, 1) := by decide +kernel
theorem dX1_tryOrders_35 : decode cX1_tryOrders 35 = .ok (.istore 7, 2) := by decide +kernel
theorem dX1_tryOrders_37 : decode cX1_tryOrders 37 = .ok (.iload 7, 2) := by decide +kernel
theorem dX1_tryOrders_39 : decode cX1_tryOrders 39 = .ok (.aload_n 0, 1) := by decide +kernel
theorem dX1_tryOrders_40 : decode cX1_tryOrders 40 = .ok (.getfield 16, 3) := by decide +kernel
theorem dX1_tryOrders_43 : decode cX1_tryOrders 43 = .ok (.iload 6, 2) := by decide +kernel
theorem dX1_tryOrders_45 : decode cX1_tryOrders 45 = .ok (.iaload, 1) := by decide +kernel
theorem dX1_tryOrders_46 : decode cX1_tryOrders 46 = .ok (.if_icmp .ge 60, 3) := by decide +kernel
theorem dX1_tryOrders_49 : decode cX1_tryOrders 49 = .ok (.aload_n 0, 1) := by decide +kernel
theorem dX1_tryOrders_50 : decode cX1_tryOrders 50 = .ok (.getfield 11, 3) := by decide +kernel
theorem dX1_tryOrders_53 : decode cX1_tryOrders 53 = .ok (.iload 6, 2) := by decide +kernel
theorem dX1_tryOrders_55 : decode cX1_tryOrders 55 = .ok (.aaload, 1) := by decide +kernel
theorem dX1_tryOrders_56 : decode cX1_tryOrders 56 = .ok (.iload 7, 2) := by decide +kernel
theorem dX1_tryOrders_58 : decode cX1_tryOrders 58 = .ok (.iaload, 1) := by decide +kernel
theorem dX1_tryOrders_59 : decode cX1_tryOrders 59 = .ok (.istore 8, 2) := by decide +kernel
theorem dX1_tryOrders_61 : decode cX1_tryOrders 61 = .ok (.iload_n 3, 1) := by decide +kernel
theorem dX1_tryOrders_62 : decode cX1_tryOrders 62 = .ok (.iload_n 2, 1) := by decide +kernel
theorem dX1_tryOrders_63 : decode cX1_tryOrders 63 = .ok (.iload 8, 2) := by decide +kernel
theorem dX1_tryOrders_65 : decode cX1_tryOrders 65 = .ok (.invokestatic 46, 3) := by decide +kernel
theorem dX1_tryOrders_68 : decode cX1_tryOrders 68 = .ok (.iadd, 1) := by decide +kernel
theorem dX1_tryOrders_69 : decode cX1_tryOrders 69 = .ok (.istore 9, 2) := by decide +kernel
theorem dX1_tryOrders_71 : decode cX1_tryOrders 71 = .ok (.aload_n 0, 1) := by decide +kernel
theorem dX1_tryOrders_72 : decode cX1_tryOrders 72 = .ok (.getfield 20, 3) := by decide +kernel
theorem dX1_tryOrders_75 : decode cX1_tryOrders 75 = .ok (.iload 6, 2) := by decide +kernel
theorem dX1_tryOrders_77 : decode cX1_tryOrders 77 = .ok (.iload 7, 2) := by decide +kernel
theorem dX1_tryOrders_79 : decode cX1_tryOrders 79 = .ok (.iconst 1, 1) := by decide +kernel
theorem dX1_tryOrders_80 : decode cX1_tryOrders 80 = .ok (.iadd, 1) := by decide +kernel
theorem dX1_tryOrders_81 : decode cX1_tryOrders 81 = .ok (.iastore, 1) := by decide +kernel
theorem dX1_tryOrders_82 : decode cX1_tryOrders 82 = .ok (.aload_n 0, 1) := by decide +kernel
theorem dX1_tryOrders_83 : decode cX1_tryOrders 83 = .ok (.iload_n 1, 1) := by decide +kernel
theorem dX1_tryOrders_84 : decode cX1_tryOrders 84 = .ok (.iconst 1, 1) := by decide +kernel
theorem dX1_tryOrders_85 : decode cX1_tryOrders 85 = .ok (.isub, 1) := by decide +kernel
theorem dX1_tryOrders_86 : decode cX1_tryOrders 86 = .ok (.iload 8, 2) := by decide +kernel
theorem dX1_tryOrders_88 : decode cX1_tryOrders 88 = .ok (.iload 9, 2) := by decide +kernel
theorem dX1_tryOrders_90 : decode cX1_tryOrders 90 = .ok (.iload 5, 2) := by decide +kernel
theorem dX1_tryOrders_92 : decode cX1_tryOrders 92 = .ok (.invokestatic 60, 3) := by decide +kernel
theorem dX1_tryOrders_95 : decode cX1_tryOrders 95 = .ok (.istore 5, 2) := by decide +kernel
theorem dX1_tryOrders_97 : decode cX1_tryOrders 97 = .ok (.aload_n 0, 1) := by decide +kernel
theorem dX1_tryOrders_98 : decode cX1_tryOrders 98 = .ok (.getfield 20, 3) := by decide +kernel
theorem dX1_tryOrders_101 : decode cX1_tryOrders 101 = .ok (.iload 6, 2) := by decide +kernel
theorem dX1_tryOrders_103 : decode cX1_tryOrders 103 = .ok (.iload 7, 2) := by decide +kernel
theorem dX1_tryOrders_105 : decode cX1_tryOrders 105 = .ok (.iastore, 1) := by decide +kernel
theorem dX1_tryOrders_106 : decode cX1_tryOrders 106 = .ok (.iinc 6 1, 3) := by decide +kernel
theorem dX1_tryOrders_109 : decode cX1_tryOrders 109 = .ok (.goto (-87), 3) := by decide +kernel
theorem dX1_tryOrders_112 : decode cX1_tryOrders 112 = .ok (.iload 5, 2) := by decide +kernel
theorem dX1_tryOrders_114 : decode cX1_tryOrders 114 = .ok (.ireturn, 1) := by decide +kernel
end
section
/-! THE WALK IN SHORT WORDS: the world is a list of cells, the locals a list of places, all ints are zI of whole numbers. -/
def zI (z : Int) : Int32 := Int32.ofInt z
theorem zI_toInt {a : Int} (h : -2147483648 ≤ a ∧ a < 2147483648) : (zI a).toInt = a := Int32.toInt_ofInt_of_le (by have := h.1; simpa using this) (by have := h.2; simpa using this)
theorem zI_eq {a b : Int} (ha : -2147483648 ≤ a ∧ a < 2147483648) (hb : -2147483648 ≤ b ∧ b < 2147483648) : zI a = zI b ↔ a = b := ⟨fun h => by rw [← zI_toInt ha, ← zI_toInt hb, h], fun h => by rw [h]⟩
theorem zI_le {a b : Int} (ha : -2147483648 ≤ a ∧ a < 2147483648) (hb : -2147483648 ≤ b ∧ b < 2147483648) : zI a ≤ zI b ↔ a ≤ b := by rw [Int32.le_iff_toInt_le, zI_toInt ha, zI_toInt hb]
theorem zI_lt {a b : Int} (ha : -2147483648 ≤ a ∧ a < 2147483648) (hb : -2147483648 ≤ b ∧ b < 2147483648) : zI a < zI b ↔ a < b := by rw [Int32.lt_iff_toInt_lt, zI_toInt ha, zI_toInt hb]
theorem zI_add (a b : Int) : zI a + zI b = zI (a + b) := (Int32.ofInt_add a b).symm
theorem zI_sub (a b : Int) : zI a - zI b = zI (a - b) := (Int32.ofInt_sub a b).symm
theorem zI_mul (a b : Int) : zI a * zI b = zI (a * b) := (Int32.ofInt_mul a b).symm
theorem zI_self (x : Int32) : zI x.toInt = x := Int32.ofInt_toInt x
theorem zI_rng (x : Int32) : -2147483648 ≤ x.toInt ∧ x.toInt < 2147483648 := ⟨Int32.le_toInt x, Int32.toInt_lt x⟩
theorem zI_clamp {a : Int} (h : 0 ≤ a) (h2 : a < 2147483648) : (zI a).toNatClampNeg = a.toNat := by
  show (zI a).toInt.toNat = a.toNat
  rw [zI_toInt ⟨by omega, h2⟩]
theorem zI_in {a : Int} {n : Nat} (h : 0 ≤ a) (h2 : a < (n : Int)) (hn : n ≤ 100000) : vp_in (zI a) n := by
  rw [vp_in_iff, zI_toInt ⟨by omega, by omega⟩]
  exact ⟨h, h2⟩
theorem zI_n (n : Nat) : zI (n : Int) = nI n := rfl
/-! locals -/
def lgU : List (Nat × Value) → Nat → Option Value
  | [], _ => none
  | (j, v) :: r, i => match Nat.beq j i with
    | true => some v
    | false => lgU r i
theorem lgU_mem : ∀ {lv : List (Nat × Value)} {i : Nat} {v : Value}, lgU lv i = some v → (i, v) ∈ lv
  | [], _, _, h => by cases h
  | (j, w) :: r, i, v, h => by
    unfold lgU at h
    cases hb : Nat.beq j i with
    | true =>
      rw [hb] at h
      have e : j = i := Nat.eq_of_beq_eq_true hb
      cases h
      subst e
      exact List.mem_cons_self
    | false =>
      rw [hb] at h
      exact List.mem_cons_of_mem _ (lgU_mem h)
/-- the list with v at the place i, the other places as they were -/
def lpU : List (Nat × Value) → Nat → Value → List (Nat × Value)
  | [], i, v => [(i, v)]
  | (j, w) :: r, i, v => match Nat.beq j i with
    | true => (i, v) :: r.filter (fun q => !(Nat.beq q.1 i))
    | false => (j, w) :: lpU r i v
theorem lpU_mem : ∀ {lv : List (Nat × Value)} {i : Nat} {v : Value} {q : Nat × Value}, q ∈ lpU lv i v → q = (i, v) ∨ (q ∈ lv ∧ Nat.beq q.1 i = false)
  | [], i, v, q, h => by
    unfold lpU at h
    exact Or.inl (List.mem_singleton.mp h)
  | (j, w) :: r, i, v, q, h => by
    unfold lpU at h
    cases hb : Nat.beq j i with
    | true =>
      rw [hb] at h
      rcases List.mem_cons.mp h with e | h
      · exact Or.inl e
      · obtain ⟨h1, h2⟩ := List.mem_filter.mp h
        exact Or.inr ⟨List.mem_cons_of_mem _ h1, by simpa using h2⟩
    | false =>
      rw [hb] at h
      rcases List.mem_cons.mp h with e | h
      · subst e
        exact Or.inr ⟨List.mem_cons_self, hb⟩
      · rcases lpU_mem h with h | ⟨h1, h2⟩
        · exact Or.inl h
        · exact Or.inr ⟨List.mem_cons_of_mem _ h1, h2⟩
/-- no long, no double among them -/
def lcU (lv : List (Nat × Value)) : Bool := lv.all (fun q => match q.2 with
  | .int _ => true
  | .ref _ => true
  | .null => true
  | _ => false)
theorem lcU_cat {lv : List (Nat × Value)} (h : lcU lv = true) {q : Nat × Value} (hq : q ∈ lv) : (q.2.category == 2) = false := by
  have h1 := List.all_eq_true.mp h q hq
  revert h1
  cases q.2 <;> simp [Value.category]
theorem lv_lpU {ls : Array Slot} {nL : Nat} {lv : List (Nat × Value)} {i : Nat} {v : Value} (hc : lcU lv = true) (h : lv_has ls nL ((i, v) :: lv.filter (fun q => !(q.1 == i) && !(q.1 + 1 == i && q.2.category == 2)))) : lv_has ls nL (lpU lv i v) := by
  refine ⟨h.1, h.2.1, fun q hq => h.2.2 q ?_⟩
  rcases lpU_mem hq with e | ⟨h1, h2⟩
  · rw [e]; exact List.mem_cons_self
  · refine List.mem_cons_of_mem _ (List.mem_filter.mpr ⟨h1, ?_⟩)
    have h3 : (q.1 == i) = false := by
      cases h9 : (q.1 == i) with
      | false => rfl
      | true =>
        have e9 : q.1 = i := eq_of_beq h9
        rw [e9, Nat.beq_refl] at h2
        cases h2
    rw [h3, lcU_cat hc h1]
    simp
/-! what is fixed in a method's walk, and the walk -/
abbrev tG (G : va_G × (Nat → ClassId)) : List (ClassId × FieldType) := [(G.2 0, .int), (G.2 1, .object RX0), (G.2 2, .array .int), (G.2 3, .long)]
def cx (p : Program) (l : Launch) (s : State) (m : MethodId) (args : Array Value) (meth : Method) (c : Code) (cc : ByteArray) (nL : Nat) (ret : Option FieldType) (Ts : List Cond) (own : String) (G : va_G × (Nat → ClassId)) (A : Nat → Prop) (H0 : Heap) : Prop :=
  p.tables.exec = Jvm.exec ∧ c.code = cc ∧ c.maxLocals = nL ∧ s.vm.findClass own = some m.cls ∧ (∀ w ∈ Ts, w.before args s = true) ∧ va_K G.1 vwCl (tG G) s ∧ (∀ q, H0.size ≤ q → A q) ∧ meth.locks = false ∧ meth.sig.returnType = ret
def AW (p : Program) (l : Launch) (e : Env) (R : Room) (s : State) (m : MethodId) (args : Array Value) (below : List Frame) (meth : Method) (c : Code) (nL : Nat) (G : va_G × (Nat → ClassId)) (A : Nat → Prop) (H0 : Heap) (cells slots : Nat) (Q : State → Prop) (ws : va_W) (lv : List (Nat × Value)) (pc : Nat) (st : List Value) : Prop :=
  ∀ (H : Heap) (locs : List Loc) (ls : Array Slot), va_P G.1 vwCl ws H → va_D A ws → va_S A H0 H locs → lv_has ls nL lv → W p l e R s m args below meth c H locs cells slots Q (F0 m pc ls st)
section AWS
variable {p : Program} {l : Launch} {e : Env} {R : Room} {s : State} {m : MethodId} {args : Array Value} {below : List Frame} {meth : Method} {c : Code} {nL : Nat} {G : va_G × (Nat → ClassId)} {A : Nat → Prop} {H0 : Heap} {cells slots : Nat} {Q : State → Prop}
variable {cc : ByteArray} {ret : Option FieldType} {Ts : List Cond} {own : String} {ws : va_W} {lv : List (Nat × Value)} {pc : Nat} {st : List Value}
theorem aw_iconst (C : cx p l s m args meth c cc nL ret Ts own G A H0) {n : Int} (hd : decode cc pc = .ok (.iconst n, 1)) (k : AW p l e R s m args below meth c nL G A H0 cells slots Q ws lv (pc + 1) (.int (zI n) :: st)) : AW p l e R s m args below meth c nL G A H0 cells slots Q ws lv pc st :=
  fun H locs ls hP hD hS hl => lv_iconst C.1 C.2.1 hd rfl (k H locs ls hP hD hS hl)
theorem aw_bipush (C : cx p l s m args meth c cc nL ret Ts own G A H0) {n : Int} (hd : decode cc pc = .ok (.bipush n, 2)) (hn : (Int8.ofInt n).toInt32 = zI n) (k : AW p l e R s m args below meth c nL G A H0 cells slots Q ws lv (pc + 2) (.int (zI n) :: st)) : AW p l e R s m args below meth c nL G A H0 cells slots Q ws lv pc st :=
  fun H locs ls hP hD hS hl => lv_bipush C.1 C.2.1 hd hn (k H locs ls hP hD hS hl)
theorem aw_sipush (C : cx p l s m args meth c cc nL ret Ts own G A H0) {n : Int} (hd : decode cc pc = .ok (.sipush n, 3)) (hn : (Int16.ofInt n).toInt32 = zI n) (k : AW p l e R s m args below meth c nL G A H0 cells slots Q ws lv (pc + 3) (.int (zI n) :: st)) : AW p l e R s m args below meth c nL G A H0 cells slots Q ws lv pc st :=
  fun H locs ls hP hD hS hl => lv_sipush C.1 C.2.1 hd hn (k H locs ls hP hD hS hl)
theorem aw_iload_n (C : cx p l s m args meth c cc nL ret Ts own G A H0) {i : Fin 4} {x : Int32} (hd : decode cc pc = .ok (.iload_n i, 1)) (hi : lgU lv i = some (.int x)) (k : AW p l e R s m args below meth c nL G A H0 cells slots Q ws lv (pc + 1) (.int x :: st)) : AW p l e R s m args below meth c nL G A H0 cells slots Q ws lv pc st :=
  fun H locs ls hP hD hS hl => lv_iload_n C.1 C.2.1 hd rfl (hl.2.2 _ (lgU_mem hi)) (k H locs ls hP hD hS hl)
theorem aw_iload (C : cx p l s m args meth c cc nL ret Ts own G A H0) {i : Nat} {x : Int32} (hd : decode cc pc = .ok (.iload i, 2)) (hi : lgU lv i = some (.int x)) (k : AW p l e R s m args below meth c nL G A H0 cells slots Q ws lv (pc + 2) (.int x :: st)) : AW p l e R s m args below meth c nL G A H0 cells slots Q ws lv pc st :=
  fun H locs ls hP hD hS hl => lv_iload C.1 C.2.1 hd (hl.2.2 _ (lgU_mem hi)) (k H locs ls hP hD hS hl)
theorem aw_aload_n (C : cx p l s m args meth c cc nL ret Ts own G A H0) {i : Fin 4} {x : Nat} (hd : decode cc pc = .ok (.aload_n i, 1)) (hi : lgU lv i = some (.ref x)) (k : AW p l e R s m args below meth c nL G A H0 cells slots Q ws lv (pc + 1) (.ref x :: st)) : AW p l e R s m args below meth c nL G A H0 cells slots Q ws lv pc st :=
  fun H locs ls hP hD hS hl => lv_aload_n C.1 C.2.1 hd rfl (hl.2.2 _ (lgU_mem hi)) (k H locs ls hP hD hS hl)
theorem aw_aload (C : cx p l s m args meth c cc nL ret Ts own G A H0) {i : Nat} {x : Nat} (hd : decode cc pc = .ok (.aload i, 2)) (hi : lgU lv i = some (.ref x)) (k : AW p l e R s m args below meth c nL G A H0 cells slots Q ws lv (pc + 2) (.ref x :: st)) : AW p l e R s m args below meth c nL G A H0 cells slots Q ws lv pc st :=
  fun H locs ls hP hD hS hl => lv_aload C.1 C.2.1 hd (hl.2.2 _ (lgU_mem hi)) (k H locs ls hP hD hS hl)
theorem aw_istore_n (C : cx p l s m args meth c cc nL ret Ts own G A H0) {i : Fin 4} {x : Int32} (hd : decode cc pc = .ok (.istore_n i, 1)) (hn : Nat.ble (i + 1) nL = true) (hc : lcU lv = true) (k : AW p l e R s m args below meth c nL G A H0 cells slots Q ws (lpU lv i (.int x)) (pc + 1) st) : AW p l e R s m args below meth c nL G A H0 cells slots Q ws lv pc (.int x :: st) :=
  fun H locs ls hP hD hS hl => lv_istore_n C.1 C.2.1 hd rfl hl (Nat.le_of_ble_eq_true hn) rfl (fun ls' hl' => k H locs ls' hP hD hS (lv_lpU hc hl'))
theorem aw_istore (C : cx p l s m args meth c cc nL ret Ts own G A H0) {i : Nat} {x : Int32} (hd : decode cc pc = .ok (.istore i, 2)) (hn : Nat.ble (i + 1) nL = true) (hc : lcU lv = true) (k : AW p l e R s m args below meth c nL G A H0 cells slots Q ws (lpU lv i (.int x)) (pc + 2) st) : AW p l e R s m args below meth c nL G A H0 cells slots Q ws lv pc (.int x :: st) :=
  fun H locs ls hP hD hS hl => lv_istore C.1 C.2.1 hd hl (Nat.le_of_ble_eq_true hn) rfl (fun ls' hl' => k H locs ls' hP hD hS (lv_lpU hc hl'))
theorem aw_astore_n (C : cx p l s m args meth c cc nL ret Ts own G A H0) {i : Fin 4} {x : Nat} (hd : decode cc pc = .ok (.astore_n i, 1)) (hn : Nat.ble (i + 1) nL = true) (hc : lcU lv = true) (k : AW p l e R s m args below meth c nL G A H0 cells slots Q ws (lpU lv i (.ref x)) (pc + 1) st) : AW p l e R s m args below meth c nL G A H0 cells slots Q ws lv pc (.ref x :: st) :=
  fun H locs ls hP hD hS hl => lv_astore_n C.1 C.2.1 hd rfl hl (Nat.le_of_ble_eq_true hn) rfl (fun ls' hl' => k H locs ls' hP hD hS (lv_lpU hc hl'))
theorem aw_astore (C : cx p l s m args meth c cc nL ret Ts own G A H0) {i : Nat} {x : Nat} (hd : decode cc pc = .ok (.astore i, 2)) (hn : Nat.ble (i + 1) nL = true) (hc : lcU lv = true) (k : AW p l e R s m args below meth c nL G A H0 cells slots Q ws (lpU lv i (.ref x)) (pc + 2) st) : AW p l e R s m args below meth c nL G A H0 cells slots Q ws lv pc (.ref x :: st) :=
  fun H locs ls hP hD hS hl => lv_astore C.1 C.2.1 hd hl (Nat.le_of_ble_eq_true hn) rfl (fun ls' hl' => k H locs ls' hP hD hS (lv_lpU hc hl'))
theorem lgU_at : ∀ {lv : List (Nat × Value)} {i : Nat} {v : Value}, lgU lv i = some v → ∃ k : Nat, lv[k]? = some (i, v) := fun h => List.mem_iff_getElem?.mp (lgU_mem h)
theorem aw_iinc (C : cx p l s m args meth c cc nL ret Ts own G A H0) {i : Nat} {n z : Int} (hd : decode cc pc = .ok (.iinc i n, 3)) (hi : lgU lv i = some (.int (zI z))) (hn : Nat.ble (i + 1) nL = true) (hc : lcU lv = true) (k : AW p l e R s m args below meth c nL G A H0 cells slots Q ws (lpU lv i (.int (zI (z + n)))) (pc + 3) st) : AW p l e R s m args below meth c nL G A H0 cells slots Q ws lv pc st :=
  fun H locs ls hP hD hS hl => by
    obtain ⟨j, hj⟩ := lgU_at hi
    exact lv_iinc C.1 C.2.1 hd hl hj (zI_add z n) (Nat.le_of_ble_eq_true hn) rfl (fun ls' hl' => k H locs ls' hP hD hS (lv_lpU hc hl'))
theorem aw_dup (C : cx p l s m args meth c cc nL ret Ts own G A H0) {v : Value} (hd : decode cc pc = .ok (.dup, 1)) (hv : v.category = 1) (k : AW p l e R s m args below meth c nL G A H0 cells slots Q ws lv (pc + 1) (v :: v :: st)) : AW p l e R s m args below meth c nL G A H0 cells slots Q ws lv pc (v :: st) :=
  fun H locs ls hP hD hS hl => lv_dup C.1 C.2.1 hd hv (k H locs ls hP hD hS hl)
theorem aw_dup2 (C : cx p l s m args meth c cc nL ret Ts own G A H0) {v w : Value} (hd : decode cc pc = .ok (.dup2, 1)) (hv : v.category = 1) (hw : w.category = 1) (k : AW p l e R s m args below meth c nL G A H0 cells slots Q ws lv (pc + 1) (v :: w :: v :: w :: st)) : AW p l e R s m args below meth c nL G A H0 cells slots Q ws lv pc (v :: w :: st) :=
  fun H locs ls hP hD hS hl => lv_dup2_11 C.1 C.2.1 hd hv hw (k H locs ls hP hD hS hl)
theorem aw_pop (C : cx p l s m args meth c cc nL ret Ts own G A H0) {v : Value} (hd : decode cc pc = .ok (.pop, 1)) (hv : v.category = 1) (k : AW p l e R s m args below meth c nL G A H0 cells slots Q ws lv (pc + 1) st) : AW p l e R s m args below meth c nL G A H0 cells slots Q ws lv pc (v :: st) :=
  fun H locs ls hP hD hS hl => lv_pop C.1 C.2.1 hd hv (k H locs ls hP hD hS hl)
theorem aw_iadd (C : cx p l s m args meth c cc nL ret Ts own G A H0) {x y : Int} (hd : decode cc pc = .ok (.iadd, 1)) (k : AW p l e R s m args below meth c nL G A H0 cells slots Q ws lv (pc + 1) (.int (zI (x + y)) :: st)) : AW p l e R s m args below meth c nL G A H0 cells slots Q ws lv pc (.int (zI y) :: .int (zI x) :: st) :=
  fun H locs ls hP hD hS hl => lv_iadd C.1 C.2.1 hd (by rw [zI_add]; exact k H locs ls hP hD hS hl)
theorem aw_isub (C : cx p l s m args meth c cc nL ret Ts own G A H0) {x y : Int} (hd : decode cc pc = .ok (.isub, 1)) (k : AW p l e R s m args below meth c nL G A H0 cells slots Q ws lv (pc + 1) (.int (zI (x - y)) :: st)) : AW p l e R s m args below meth c nL G A H0 cells slots Q ws lv pc (.int (zI y) :: .int (zI x) :: st) :=
  fun H locs ls hP hD hS hl => lv_isub C.1 C.2.1 hd (by rw [zI_sub]; exact k H locs ls hP hD hS hl)
theorem aw_imul (C : cx p l s m args meth c cc nL ret Ts own G A H0) {x y : Int} (hd : decode cc pc = .ok (.imul, 1)) (k : AW p l e R s m args below meth c nL G A H0 cells slots Q ws lv (pc + 1) (.int (zI (x * y)) :: st)) : AW p l e R s m args below meth c nL G A H0 cells slots Q ws lv pc (.int (zI y) :: .int (zI x) :: st) :=
  fun H locs ls hP hD hS hl => lv_imul C.1 C.2.1 hd (by rw [zI_mul]; exact k H locs ls hP hD hS hl)
theorem aw_icmp_eq (C : cx p l s m args meth c cc nL ret Ts own G A H0) {x y : Int} {off : Int} {tgt : Nat} (hd : decode cc pc = .ok (.if_icmp .eq off, 3)) (ht : (pc : Int) + off = (tgt : Int)) (hx : -2147483648 ≤ x ∧ x < 2147483648) (hy : -2147483648 ≤ y ∧ y < 2147483648) (kt : x = y → AW p l e R s m args below meth c nL G A H0 cells slots Q ws lv tgt st) (kf : ¬ x = y → AW p l e R s m args below meth c nL G A H0 cells slots Q ws lv (pc + 3) st) : AW p l e R s m args below meth c nL G A H0 cells slots Q ws lv pc (.int (zI y) :: .int (zI x) :: st) :=
  fun H locs ls hP hD hS hl => lv_icmp_eq C.1 C.2.1 hd ht (fun h => kt ((zI_eq hx hy).mp h) H locs ls hP hD hS hl) (fun h => kf (fun q => h ((zI_eq hx hy).mpr q)) H locs ls hP hD hS hl)
theorem aw_icmp_ne (C : cx p l s m args meth c cc nL ret Ts own G A H0) {x y : Int} {off : Int} {tgt : Nat} (hd : decode cc pc = .ok (.if_icmp .ne off, 3)) (ht : (pc : Int) + off = (tgt : Int)) (hx : -2147483648 ≤ x ∧ x < 2147483648) (hy : -2147483648 ≤ y ∧ y < 2147483648) (kt : ¬ x = y → AW p l e R s m args below meth c nL G A H0 cells slots Q ws lv tgt st) (kf : x = y → AW p l e R s m args below meth c nL G A H0 cells slots Q ws lv (pc + 3) st) : AW p l e R s m args below meth c nL G A H0 cells slots Q ws lv pc (.int (zI y) :: .int (zI x) :: st) :=
  fun H locs ls hP hD hS hl => lv_icmp_ne C.1 C.2.1 hd ht (fun h => kt (fun q => h ((zI_eq hx hy).mpr q)) H locs ls hP hD hS hl) (fun h => kf ((zI_eq hx hy).mp h) H locs ls hP hD hS hl)
theorem aw_icmp_lt (C : cx p l s m args meth c cc nL ret Ts own G A H0) {x y : Int} {off : Int} {tgt : Nat} (hd : decode cc pc = .ok (.if_icmp .lt off, 3)) (ht : (pc : Int) + off = (tgt : Int)) (hx : -2147483648 ≤ x ∧ x < 2147483648) (hy : -2147483648 ≤ y ∧ y < 2147483648) (kt : x < y → AW p l e R s m args below meth c nL G A H0 cells slots Q ws lv tgt st) (kf : y ≤ x → AW p l e R s m args below meth c nL G A H0 cells slots Q ws lv (pc + 3) st) : AW p l e R s m args below meth c nL G A H0 cells slots Q ws lv pc (.int (zI y) :: .int (zI x) :: st) :=
  fun H locs ls hP hD hS hl => lv_icmp_lt C.1 C.2.1 hd ht (fun h => kt ((zI_lt hx hy).mp h) H locs ls hP hD hS hl) (fun h => kf (Int.not_lt.mp (fun q => h ((zI_lt hx hy).mpr q))) H locs ls hP hD hS hl)
theorem aw_icmp_ge (C : cx p l s m args meth c cc nL ret Ts own G A H0) {x y : Int} {off : Int} {tgt : Nat} (hd : decode cc pc = .ok (.if_icmp .ge off, 3)) (ht : (pc : Int) + off = (tgt : Int)) (hx : -2147483648 ≤ x ∧ x < 2147483648) (hy : -2147483648 ≤ y ∧ y < 2147483648) (kt : y ≤ x → AW p l e R s m args below meth c nL G A H0 cells slots Q ws lv tgt st) (kf : x < y → AW p l e R s m args below meth c nL G A H0 cells slots Q ws lv (pc + 3) st) : AW p l e R s m args below meth c nL G A H0 cells slots Q ws lv pc (.int (zI y) :: .int (zI x) :: st) :=
  fun H locs ls hP hD hS hl => lv_icmp_ge C.1 C.2.1 hd ht (fun h => kt ((zI_le hy hx).mp h) H locs ls hP hD hS hl) (fun h => kf (Int.not_le.mp (fun q => h ((zI_le hy hx).mpr q))) H locs ls hP hD hS hl)
theorem aw_icmp_gt (C : cx p l s m args meth c cc nL ret Ts own G A H0) {x y : Int} {off : Int} {tgt : Nat} (hd : decode cc pc = .ok (.if_icmp .gt off, 3)) (ht : (pc : Int) + off = (tgt : Int)) (hx : -2147483648 ≤ x ∧ x < 2147483648) (hy : -2147483648 ≤ y ∧ y < 2147483648) (kt : y < x → AW p l e R s m args below meth c nL G A H0 cells slots Q ws lv tgt st) (kf : x ≤ y → AW p l e R s m args below meth c nL G A H0 cells slots Q ws lv (pc + 3) st) : AW p l e R s m args below meth c nL G A H0 cells slots Q ws lv pc (.int (zI y) :: .int (zI x) :: st) :=
  fun H locs ls hP hD hS hl => lv_icmp_gt C.1 C.2.1 hd ht (fun h => kt ((zI_lt hy hx).mp h) H locs ls hP hD hS hl) (fun h => kf (Int.not_lt.mp (fun q => h ((zI_lt hy hx).mpr q))) H locs ls hP hD hS hl)
theorem aw_icmp_le (C : cx p l s m args meth c cc nL ret Ts own G A H0) {x y : Int} {off : Int} {tgt : Nat} (hd : decode cc pc = .ok (.if_icmp .le off, 3)) (ht : (pc : Int) + off = (tgt : Int)) (hx : -2147483648 ≤ x ∧ x < 2147483648) (hy : -2147483648 ≤ y ∧ y < 2147483648) (kt : x ≤ y → AW p l e R s m args below meth c nL G A H0 cells slots Q ws lv tgt st) (kf : y < x → AW p l e R s m args below meth c nL G A H0 cells slots Q ws lv (pc + 3) st) : AW p l e R s m args below meth c nL G A H0 cells slots Q ws lv pc (.int (zI y) :: .int (zI x) :: st) :=
  fun H locs ls hP hD hS hl => lv_icmp_le C.1 C.2.1 hd ht (fun h => kt ((zI_le hx hy).mp h) H locs ls hP hD hS hl) (fun h => kf (Int.not_le.mp (fun q => h ((zI_le hx hy).mpr q))) H locs ls hP hD hS hl)
theorem zI_00 : (0 : Int32) = zI 0 := rfl
theorem zI_r0 : -2147483648 ≤ (0 : Int) ∧ (0 : Int) < 2147483648 := ⟨by decide, by decide⟩
theorem aw_if_eq (C : cx p l s m args meth c cc nL ret Ts own G A H0) {x : Int} {off : Int} {tgt : Nat} (hd : decode cc pc = .ok (.ifCond .eq off, 3)) (ht : (pc : Int) + off = (tgt : Int)) (hx : -2147483648 ≤ x ∧ x < 2147483648) (kt : x = 0 → AW p l e R s m args below meth c nL G A H0 cells slots Q ws lv tgt st) (kf : ¬ x = 0 → AW p l e R s m args below meth c nL G A H0 cells slots Q ws lv (pc + 3) st) : AW p l e R s m args below meth c nL G A H0 cells slots Q ws lv pc (.int (zI x) :: st) :=
  fun H locs ls hP hD hS hl => lv_if_eq C.1 C.2.1 hd ht (fun h => kt ((zI_eq hx zI_r0).mp h) H locs ls hP hD hS hl) (fun h => kf (fun q => h ((zI_eq hx zI_r0).mpr q)) H locs ls hP hD hS hl)
theorem aw_if_ne (C : cx p l s m args meth c cc nL ret Ts own G A H0) {x : Int} {off : Int} {tgt : Nat} (hd : decode cc pc = .ok (.ifCond .ne off, 3)) (ht : (pc : Int) + off = (tgt : Int)) (hx : -2147483648 ≤ x ∧ x < 2147483648) (kt : ¬ x = 0 → AW p l e R s m args below meth c nL G A H0 cells slots Q ws lv tgt st) (kf : x = 0 → AW p l e R s m args below meth c nL G A H0 cells slots Q ws lv (pc + 3) st) : AW p l e R s m args below meth c nL G A H0 cells slots Q ws lv pc (.int (zI x) :: st) :=
  fun H locs ls hP hD hS hl => lv_if_ne C.1 C.2.1 hd ht (fun h => kt (fun q => h ((zI_eq hx zI_r0).mpr q)) H locs ls hP hD hS hl) (fun h => kf ((zI_eq hx zI_r0).mp h) H locs ls hP hD hS hl)
theorem aw_if_lt (C : cx p l s m args meth c cc nL ret Ts own G A H0) {x : Int} {off : Int} {tgt : Nat} (hd : decode cc pc = .ok (.ifCond .lt off, 3)) (ht : (pc : Int) + off = (tgt : Int)) (hx : -2147483648 ≤ x ∧ x < 2147483648) (kt : x < 0 → AW p l e R s m args below meth c nL G A H0 cells slots Q ws lv tgt st) (kf : 0 ≤ x → AW p l e R s m args below meth c nL G A H0 cells slots Q ws lv (pc + 3) st) : AW p l e R s m args below meth c nL G A H0 cells slots Q ws lv pc (.int (zI x) :: st) :=
  fun H locs ls hP hD hS hl => lv_if_lt C.1 C.2.1 hd ht (fun h => kt ((zI_lt hx zI_r0).mp h) H locs ls hP hD hS hl) (fun h => kf (Int.not_lt.mp (fun q => h ((zI_lt hx zI_r0).mpr q))) H locs ls hP hD hS hl)
theorem aw_if_ge (C : cx p l s m args meth c cc nL ret Ts own G A H0) {x : Int} {off : Int} {tgt : Nat} (hd : decode cc pc = .ok (.ifCond .ge off, 3)) (ht : (pc : Int) + off = (tgt : Int)) (hx : -2147483648 ≤ x ∧ x < 2147483648) (kt : 0 ≤ x → AW p l e R s m args below meth c nL G A H0 cells slots Q ws lv tgt st) (kf : x < 0 → AW p l e R s m args below meth c nL G A H0 cells slots Q ws lv (pc + 3) st) : AW p l e R s m args below meth c nL G A H0 cells slots Q ws lv pc (.int (zI x) :: st) :=
  fun H locs ls hP hD hS hl => lv_if_ge C.1 C.2.1 hd ht (fun h => kt ((zI_le zI_r0 hx).mp h) H locs ls hP hD hS hl) (fun h => kf (Int.not_le.mp (fun q => h ((zI_le zI_r0 hx).mpr q))) H locs ls hP hD hS hl)
theorem aw_if_gt (C : cx p l s m args meth c cc nL ret Ts own G A H0) {x : Int} {off : Int} {tgt : Nat} (hd : decode cc pc = .ok (.ifCond .gt off, 3)) (ht : (pc : Int) + off = (tgt : Int)) (hx : -2147483648 ≤ x ∧ x < 2147483648) (kt : 0 < x → AW p l e R s m args below meth c nL G A H0 cells slots Q ws lv tgt st) (kf : x ≤ 0 → AW p l e R s m args below meth c nL G A H0 cells slots Q ws lv (pc + 3) st) : AW p l e R s m args below meth c nL G A H0 cells slots Q ws lv pc (.int (zI x) :: st) :=
  fun H locs ls hP hD hS hl => lv_if_gt C.1 C.2.1 hd ht (fun h => kt ((zI_lt zI_r0 hx).mp h) H locs ls hP hD hS hl) (fun h => kf (Int.not_lt.mp (fun q => h ((zI_lt zI_r0 hx).mpr q))) H locs ls hP hD hS hl)
theorem aw_if_le (C : cx p l s m args meth c cc nL ret Ts own G A H0) {x : Int} {off : Int} {tgt : Nat} (hd : decode cc pc = .ok (.ifCond .le off, 3)) (ht : (pc : Int) + off = (tgt : Int)) (hx : -2147483648 ≤ x ∧ x < 2147483648) (kt : x ≤ 0 → AW p l e R s m args below meth c nL G A H0 cells slots Q ws lv tgt st) (kf : 0 < x → AW p l e R s m args below meth c nL G A H0 cells slots Q ws lv (pc + 3) st) : AW p l e R s m args below meth c nL G A H0 cells slots Q ws lv pc (.int (zI x) :: st) :=
  fun H locs ls hP hD hS hl => lv_if_le C.1 C.2.1 hd ht (fun h => kt ((zI_le hx zI_r0).mp h) H locs ls hP hD hS hl) (fun h => kf (Int.not_le.mp (fun q => h ((zI_le hx zI_r0).mpr q))) H locs ls hP hD hS hl)
theorem aw_goto (C : cx p l s m args meth c cc nL ret Ts own G A H0) {off : Int} {tgt : Nat} (hd : decode cc pc = .ok (.goto off, 3)) (ht : (pc : Int) + off = (tgt : Int)) (k : AW p l e R s m args below meth c nL G A H0 cells slots Q ws lv tgt st) : AW p l e R s m args below meth c nL G A H0 cells slots Q ws lv pc st :=
  fun H locs ls hP hD hS hl => lv_goto C.1 C.2.1 hd ht (k H locs ls hP hD hS hl)
/-- an int of the stack told otherwise -/
theorem aw_top {x y : Int} (h : x = y) (k : AW p l e R s m args below meth c nL G A H0 cells slots Q ws lv pc (.int (zI y) :: st)) : AW p l e R s m args below meth c nL G A H0 cells slots Q ws lv pc (.int (zI x) :: st) := h ▸ k
/-- the world told otherwise -/
theorem aw_ws {ws' : va_W} (h : ws = ws') (k : AW p l e R s m args below meth c nL G A H0 cells slots Q ws' lv pc st) : AW p l e R s m args below meth c nL G A H0 cells slots Q ws lv pc st := h ▸ k
/-- the locals told otherwise -/
theorem aw_lv {lv' : List (Nat × Value)} (h : lv = lv') (k : AW p l e R s m args below meth c nL G A H0 cells slots Q ws lv' pc st) : AW p l e R s m args below meth c nL G A H0 cells slots Q ws lv pc st := h ▸ k
/-- fewer locals -/
theorem aw_less {lv' : List (Nat × Value)} (h : ∀ q ∈ lv', q ∈ lv) (k : AW p l e R s m args below meth c nL G A H0 cells slots Q ws lv' pc st) : AW p l e R s m args below meth c nL G A H0 cells slots Q ws lv pc st :=
  fun H locs ls hP hD hS hl => k H locs ls hP hD hS ⟨hl.1, hl.2.1, fun q hq => hl.2.2 q (h q hq)⟩
theorem aw_get (C : cx p l s m args meth c cc nL ret Ts own G A H0) {Cn : String} {T : u_T} {N ci index q0 k : Nat} {a : Nat} {fs : List Value} {v : Value} (hin : ∀ w ∈ u_ws Cn T N, w ∈ Ts) (hlink : (Cond.fieldLink own index (T k).1 (T k).2.1 (T k).2.2.1).before args s = true) (he : ws[q0]? = some (a, .inr (ci, fs))) (hc : vwCl[ci]? = some (Cn, T, N)) (hk : Nat.ble (k + 1) N = true) (hv : fs[k]? = some v) (hd : decode cc pc = .ok (.getfield index, 3)) (kk : AW p l e R s m args below meth c nL G A H0 cells slots Q ws lv (pc + 3) (v :: st)) : AW p l e R s m args below meth c nL G A H0 cells slots Q ws lv pc (.ref a :: st) :=
  fun H locs ls hP hD hS hl => va_get C.1 C.2.1 C.2.2.2.2.1 hin C.2.2.2.1 C.2.2.2.2.2.1 hP q0 he hc k (Nat.le_of_ble_eq_true hk) hlink (fun _ h => h) hv hd (kk H locs ls hP hD hS hl)
theorem aw_put (C : cx p l s m args meth c cc nL ret Ts own G A H0) {Cn : String} {T : u_T} {N ci index q0 k : Nat} {ty0 : Nat → FieldType} {a : Nat} {fs : List Value} {z : Int} {ws' : va_W} (hin : ∀ w ∈ u_ws Cn T N, w ∈ Ts) (hty : ∀ k, k < N → parseFieldDescriptor (T k).2.2.1 = some (ty0 k)) (hnm : ∀ a, a < N → ∀ b, b < N → a ≠ b → (T a).2.1 ≠ (T b).2.1) (hlink : (Cond.fieldLink own index (T k).1 (T k).2.1 (T k).2.2.1).before args s = true) (he : ws[q0]? = some (a, .inr (ci, fs))) (hc : vwCl[ci]? = some (Cn, T, N)) (hk : Nat.ble (k + 1) N = true) (hfin : (T k).2.2.2 = false) (hi : ty0 k = .int) (hl9 : Nat.ble (k + 1) fs.length = true) (hw : ws.set q0 (a, .inr (ci, fs.set k (.int (zI z)))) = ws') (hd : decode cc pc = .ok (.putfield index, 3)) (kk : AW p l e R s m args below meth c nL G A H0 cells slots Q ws' lv (pc + 3) st) : AW p l e R s m args below meth c nL G A H0 cells slots Q ws lv pc (.int (zI z) :: .ref a :: st) :=
  fun H locs ls hP hD hS hl => va_put (v := .int (zI z)) (ty := .int) C.1 C.2.1 C.2.2.2.2.1 hin ty0 hty hnm C.2.2.2.1 C.2.2.2.2.2.1 hP hD hS q0 he hc k (Nat.le_of_ble_eq_true hk) hlink (fun _ h => h) hfin (by rw [hty k (Nat.le_of_ble_eq_true hk), hi]) rfl rfl (Nat.le_of_ble_eq_true hl9) hd (fun H1 locs1 hP1 hD1 hS1 => by subst hw; exact kk H1 locs1 ls hP1 hD1 hS1 hl)
theorem aw_iald (C : cx p l s m args meth c cc nL ret Ts own G A H0) {q0 n : Nat} {a : Nat} {f : Nat → Int32} {i v : Int} (he : ws[q0]? = some (a, .inl (G.2 0, n, .inl f))) (h0 : 0 ≤ i) (hn : i < (n : Int)) (hb : Nat.ble n 100000 = true) (hv : f i.toNat = zI v) (hd : decode cc pc = .ok (.iaload, 1)) (k : AW p l e R s m args below meth c nL G A H0 cells slots Q ws lv (pc + 1) (.int (zI v) :: st)) : AW p l e R s m args below meth c nL G A H0 cells slots Q ws lv pc (.int (zI i) :: .ref a :: st) :=
  fun H locs ls hP hD hS hl => by
    have hb' := Nat.le_of_ble_eq_true hb
    refine va_iald C.1 C.2.1 C.2.2.2.2.2.1 hP q0 0 he rfl (zI_in h0 hn hb') hd ?_
    rw [zI_clamp h0 (by omega), hv]
    exact k H locs ls hP hD hS hl
theorem aw_iast (C : cx p l s m args meth c cc nL ret Ts own G A H0) {q0 n : Nat} {a : Nat} {f : Nat → Int32} {i x : Int} {ws' : va_W} (he : ws[q0]? = some (a, .inl (G.2 0, n, .inl f))) (h0 : 0 ≤ i) (hn : i < (n : Int)) (hb : Nat.ble n 100000 = true) (hw : ws.set q0 (a, .inl (G.2 0, n, .inl (upd f i.toNat (zI x)))) = ws') (hd : decode cc pc = .ok (.iastore, 1)) (k : AW p l e R s m args below meth c nL G A H0 cells slots Q ws' lv (pc + 1) st) : AW p l e R s m args below meth c nL G A H0 cells slots Q ws lv pc (.int (zI x) :: .int (zI i) :: .ref a :: st) :=
  fun H locs ls hP hD hS hl => by
    have hb' := Nat.le_of_ble_eq_true hb
    refine va_iast C.1 C.2.1 C.2.2.2.2.2.1 hP hD hS q0 0 he rfl (zI_in h0 hn hb') hd (fun H1 locs1 hP1 hD1 hS1 => ?_)
    rw [zI_clamp h0 (by omega), hw] at hP1 hD1
    exact k H1 locs1 ls hP1 hD1 hS1 hl
/-- a lane out of the row of lanes -/
theorem aw_aldL (C : cx p l s m args meth c cc nL ret Ts own G A H0) {q0 n : Nat} {a r : Nat} {f : Nat → Option Nat} {i : Int} (he : ws[q0]? = some (a, .inl (G.2 1, n, .inr (.inr (.inr (.inr f)))))) (h0 : 0 ≤ i) (hn : i < (n : Int)) (hb : Nat.ble n 100000 = true) (hv : f i.toNat = some r) (hd : decode cc pc = .ok (.aaload, 1)) (k : AW p l e R s m args below meth c nL G A H0 cells slots Q ws lv (pc + 1) (.ref r :: st)) : AW p l e R s m args below meth c nL G A H0 cells slots Q ws lv pc (.int (zI i) :: .ref a :: st) :=
  fun H locs ls hP hD hS hl => by
    have hb' := Nat.le_of_ble_eq_true hb
    refine va_aldq C.1 C.2.1 C.2.2.2.2.2.1 hP q0 1 he rfl (zI_in h0 hn hb') hd ?_
    rw [zI_clamp h0 (by omega), hv]
    exact k H locs ls hP hD hS hl
end AWS
section AWT
variable {p : Program} {l : Launch} {e : Env} {R : Room} {s : State} {m : MethodId} {args : Array Value} {below : List Frame} {meth : Method} {c : Code} {nL : Nat} {G : va_G × (Nat → ClassId)} {A : Nat → Prop} {H0 : Heap} {cells slots : Nat} {Q : State → Prop}
variable {cc : ByteArray} {ret : Option FieldType} {Ts : List Cond} {own : String} {ws : va_W} {lv : List (Nat × Value)} {pc : Nat} {st : List Value}
/-- a row out of a grid -/
theorem aw_aldA (C : cx p l s m args meth c cc nL ret Ts own G A H0) {q0 n : Nat} {a r : Nat} {f : Nat → Option Nat} {i : Int} (he : ws[q0]? = some (a, .inl (G.2 2, n, .inr (.inr (.inr (.inr f)))))) (h0 : 0 ≤ i) (hn : i < (n : Int)) (hb : Nat.ble n 100000 = true) (hv : f i.toNat = some r) (hd : decode cc pc = .ok (.aaload, 1)) (k : AW p l e R s m args below meth c nL G A H0 cells slots Q ws lv (pc + 1) (.ref r :: st)) : AW p l e R s m args below meth c nL G A H0 cells slots Q ws lv pc (.int (zI i) :: .ref a :: st) :=
  fun H locs ls hP hD hS hl => by
    have hb' := Nat.le_of_ble_eq_true hb
    have hin : vp_in (zI i) n := zI_in h0 hn hb'
    have hlt : (zI i).toNatClampNeg < n := Nat.not_le.mp fun q => hin (Or.inr q)
    have hK := C.2.2.2.2.2.1
    have ec : (zI i).toNatClampNeg = i.toNat := zI_clamp h0 (by omega)
    refine W.aald (v := va_rf (f (zI i).toNatClampNeg)) (ty := .array .int) C.1 C.2.1 (hP q0 _ he) ((hK.2 2 _ rfl).1 n (fun j => va_rf (f j))) rfl (fun q => by cases q) (by show ¬ (zI i < 0 ∨ (arrV _ _ _).slots.size ≤ _); rw [arrV_size]; exact hin) (by show (arrV _ _ _).slots[_]? = _; rw [arrV_read _ _ hlt]) rfl rfl hd ?_
    rw [ec, hv]
    exact k H locs ls hP hD hS hl
end AWT
/-! CONTRACTS: from the world w0 (beside which anything may lie) the method returns; its answer and the world behind it hold post; no other cell changes; nothing is made -/
def NX (U : State) : Prop := va_Nw (.methodLinkNest "PaintSequencer$Plan" 46 yX2_changeBetween "PaintSequencer") U
def PX (G : va_G × (Nat → ClassId)) (As : List Value) (w0 : va_W) (sz : Nat) : Array Value → State → Prop := va_Pc As (fun U => U.heap.size = sz ∧ va_P G.1 vwCl w0 U.heap ∧ va_K G.1 vwCl (tG G) U ∧ va_D (fun _ => True) w0 ∧ NX U)
theorem PX_blind {G : va_G × (Nat → ClassId)} {As : List Value} {w0 : va_W} {sz : Nat} : FrameBlind (PX G As w0 sz) := fun a U g mk q => by
  obtain ⟨q0, q1, qP, qK, qD, qN⟩ := q
  exact ⟨q0, q1, qP, va_K.moved (u := U) (U := U.calling g mk a) (Vm.Alike.refl U.vm) qK, qD, va_Nw.same rfl (rfl : U.vm = (U.calling g mk a).vm) qN⟩
def QPi (G : va_G × (Nat → ClassId)) (post : Int → va_W → Prop) (A : Nat → Prop) : Array Value → State → Outcome → State → Prop := va_Qi (fun (r : Int32) (u : Int × va_W) => r = zI u.1 ∧ post u.1 u.2) (fun u t => va_P G.1 vwCl u.2 t.heap ∧ va_D A u.2) A
def QPv (G : va_G × (Nat → ClassId)) (post : va_W → Prop) (A : Nat → Prop) : Array Value → State → Outcome → State → Prop := va_Qv (fun (u : va_W) => post u) (fun u t => va_P G.1 vwCl u t.heap ∧ va_D A u) A
def Mi (l : Launch) (G : va_G × (Nat → ClassId)) (y : MethodName) (ws : List Cond) (rm : Room) (As : List Value) (w0 : va_W) (post : Int → va_W → Prop) : Prop := ∀ sz : Nat, Met l y ws rm (PX G As w0 sz) (QPi G post (va_A w0 sz)) 0 0 (va_A w0 sz)
def Mv (l : Launch) (G : va_G × (Nat → ClassId)) (y : MethodName) (ws : List Cond) (rm : Room) (As : List Value) (w0 : va_W) (post : va_W → Prop) : Prop := ∀ sz : Nat, Met l y ws rm (PX G As w0 sz) (QPv G post (va_A w0 sz)) 0 0 (va_A w0 sz)
theorem Mi.of {own : String} {l : Launch} {G : va_G × (Nat → ClassId)} {y : MethodName} {ws ws' : List Cond} {rm : Room} {As : List Value} {w0 : va_W} {post : Int → va_W → Prop} {cc : ByteArray} {maxL : Nat} {ret : Option FieldType} (hy : plainName y.cls = true) (ho : y.cls = own) (hw : ws = Cond.code y cc maxL ret :: ws') (hlen : Nat.ble (lg_sl As).length maxL = true)
    (body : ∀ (p : Program) (e : Env) (s : State) (m : MethodId) (args : Array Value) (below : List Frame) (meth : Method) (c : Code) (A : Nat → Prop), cx p l s m args meth c cc maxL ret ws own G A s.heap → NX s → AW p l e (headSpec ws rm).room s m args below meth c maxL G A s.heap 0 0 (MQ below (QPi G post A) args s 0 0 A) w0 (lv_args 0 As) 0 []) : Mi l G y ws rm As w0 post := by
  intro sz
  refine Met.ofW (cc := cc) (maxL := maxL) (ret := ret) hy hw ?_
  intro p e s m args below meth c s₁ B hml hv
  obtain ⟨rfl, hsz, hP, hK, hD0, hN⟩ := hv
  have hts := atoms_spec (ws := ws) B.pre
  subst hsz
  rw [lg_entry_eq]
  exact body p e s m _ below meth c (va_A w0 s.heap.size) ⟨B.exec, B.bytes, hml, (by rw [← ho]; exact findClass_of_methodNamed B.named), hts, hK, fun _ h => Or.inr h, B.notSynchronized, B.returns⟩ hN s.heap [] _ hP hD0.self va_S.rf (lv_entry As (Nat.le_of_ble_eq_true hlen))
theorem Mv.of {own : String} {l : Launch} {G : va_G × (Nat → ClassId)} {y : MethodName} {ws ws' : List Cond} {rm : Room} {As : List Value} {w0 : va_W} {post : va_W → Prop} {cc : ByteArray} {maxL : Nat} {ret : Option FieldType} (hy : plainName y.cls = true) (ho : y.cls = own) (hw : ws = Cond.code y cc maxL ret :: ws') (hlen : Nat.ble (lg_sl As).length maxL = true)
    (body : ∀ (p : Program) (e : Env) (s : State) (m : MethodId) (args : Array Value) (below : List Frame) (meth : Method) (c : Code) (A : Nat → Prop), cx p l s m args meth c cc maxL ret ws own G A s.heap → NX s → AW p l e (headSpec ws rm).room s m args below meth c maxL G A s.heap 0 0 (MQ below (QPv G post A) args s 0 0 A) w0 (lv_args 0 As) 0 []) : Mv l G y ws rm As w0 post := by
  intro sz
  refine Met.ofW (cc := cc) (maxL := maxL) (ret := ret) hy hw ?_
  intro p e s m args below meth c s₁ B hml hv
  obtain ⟨rfl, hsz, hP, hK, hD0, hN⟩ := hv
  have hts := atoms_spec (ws := ws) B.pre
  subst hsz
  rw [lg_entry_eq]
  exact body p e s m _ below meth c (va_A w0 s.heap.size) ⟨B.exec, B.bytes, hml, (by rw [← ho]; exact findClass_of_methodNamed B.named), hts, hK, fun _ h => Or.inr h, B.notSynchronized, B.returns⟩ hN s.heap [] _ hP hD0.self va_S.rf (lv_entry As (Nat.le_of_ble_eq_true hlen))
theorem jn {A0 : Nat → Prop} {D : va_G} {cl : List vw_C} {wc wr w1 : va_W} {H H1 : Heap} (hP : va_P D cl (wc ++ wr) H) (hD : va_D A0 (wc ++ wr)) (hk : ∀ q : Nat, q < H.size → ¬ va_A wc H.size q → H1[q]? = H[q]?) (hF : ∀ q, va_A wc H.size q → A0 q) (hP1 : va_P D cl w1 H1) (hD1 : va_D (va_A wc H.size) w1) : va_P D cl (w1 ++ wr) H1 ∧ va_D A0 (w1 ++ wr) := by
  have at2 : ∀ (k : Nat) (q : Nat × va_E), wr[k]? = some q → (wc ++ wr)[wc.length + k]? = some q := fun k q h => by rw [List.getElem?_append_right (Nat.le_add_right _ _), Nat.add_sub_cancel_left]; exact h
  have at1 : ∀ (k : Nat) (q : Nat × va_E), wc[k]? = some q → (wc ++ wr)[k]? = some q := fun k q h => by rw [List.getElem?_append_left (List.getElem?_eq_some_iff.mp h).1]; exact h
  have off : ∀ (k : Nat) (q : Nat × va_E), wr[k]? = some q → ¬ va_A wc H.size q.1 := by
    intro k q hq hA
    have hlt := (hP _ _ (at2 k q hq)).lt
    rcases hA with ⟨j, e, hj⟩ | h
    · have h1 := hD.1 _ _ _ _ (at1 j _ hj) (at2 k q hq) rfl
      have h2 := (List.getElem?_eq_some_iff.mp hj).1
      omega
    · omega
  refine ⟨fun k q h => ?_, ?_⟩
  · by_cases hl : k < w1.length
    · rw [List.getElem?_append_left hl] at h
      exact hP1 k q h
    · rw [List.getElem?_append_right (Nat.le_of_not_lt hl)] at h
      exact (hP _ _ (at2 _ q h)).kept (hk q.1 (hP _ _ (at2 _ q h)).lt (off _ q h))
  · refine va_D.app (hD1.weaken (fun _ q _ h => hF _ h)) ⟨fun i j x y hx hy hxy => ?_, fun k q h => hD.2 _ q (at2 k q h)⟩ (fun i j x y hx hy hxy => ?_)
    · have := hD.1 _ _ _ _ (at2 i x hx) (at2 j y hy) hxy
      omega
    · exact off j y hy (hxy ▸ hD1.2 i x hx)
section AWC
variable {p : Program} {l : Launch} {e : Env} {R : Room} {s : State} {m : MethodId} {args : Array Value} {below : List Frame} {meth : Method} {c : Code} {nL : Nat} {G : va_G × (Nat → ClassId)} {A : Nat → Prop} {H0 : Heap} {cells slots : Nat} {Q : State → Prop}
variable {cc : ByteArray} {ret : Option FieldType} {Ts : List Cond} {own : String} {ws : va_W} {lv : List (Nat × Value)} {pc : Nat} {st : List Value}
theorem aw_iret {post : Int → va_W → Prop} {z : Int} (C : cx p l s m args meth c cc nL (some .int) Ts own G A s.heap) (hd : decode cc pc = .ok (.ireturn, 1)) (h : post z ws) : AW p l e R s m args below meth c nL G A s.heap 0 0 (MQ below (QPi G post A) args s 0 0 A) ws lv pc [.int (zI z)] :=
  fun H locs ls hP hD hS hl => W.iret C.1 C.2.1 C.2.2.2.2.2.2.2.2 (fun t ht hW => ⟨⟨zI z, (z, ws), rfl, ⟨rfl, h⟩, by rw [ht]; exact hP, hD⟩, hS.F ht⟩) hS.2.2 hd C.2.2.2.2.2.2.2.1
theorem aw_zret {post : Int → va_W → Prop} {z : Int} (C : cx p l s m args meth c cc nL (some .boolean) Ts own G A s.heap) (hd : decode cc pc = .ok (.ireturn, 1)) (hn : narrow .boolean (.int (zI z)) = .int (zI z)) (h : post z ws) : AW p l e R s m args below meth c nL G A s.heap 0 0 (MQ below (QPi G post A) args s 0 0 A) ws lv pc [.int (zI z)] :=
  fun H locs ls hP hD hS hl => W.zret C.1 C.2.1 C.2.2.2.2.2.2.2.2 hn (fun t ht hW => ⟨⟨zI z, (z, ws), rfl, ⟨rfl, h⟩, by rw [ht]; exact hP, hD⟩, hS.F ht⟩) hS.2.2 hd C.2.2.2.2.2.2.2.1
theorem aw_vret {post : va_W → Prop} (C : cx p l s m args meth c cc nL none Ts own G A s.heap) (hd : decode cc pc = .ok (.return_, 1)) (h : post ws) : AW p l e R s m args below meth c nL G A s.heap 0 0 (MQ below (QPv G post A) args s 0 0 A) ws lv pc [] :=
  fun H locs ls hP hD hS hl => W.vret C.1 C.2.1 C.2.2.2.2.2.2.2.2 (fun t ht hW => ⟨⟨ws, rfl, h, by rw [ht]; exact hP, hD⟩, hS.F ht⟩) hS.2.2 hd C.2.2.2.2.2.2.2.1
/-- what a call finds: the callee's cells first -/
theorem aw_pre {wc wr : va_W} {H : Heap} {locs : List Loc} (C : cx p l s m args meth c cc nL ret Ts own G A H0) (hP : va_P G.1 vwCl (wc ++ wr) H) (hD : va_D A (wc ++ wr)) (hS : va_S A H0 H locs) : va_P G.1 vwCl wc H ∧ va_D (fun _ => True) wc ∧ ∀ q, va_A wc H.size q → A q := by
  have at1 : ∀ (k : Nat) (q : Nat × va_E), wc[k]? = some q → (wc ++ wr)[k]? = some q := fun k q h => by rw [List.getElem?_append_left (List.getElem?_eq_some_iff.mp h).1]; exact h
  refine ⟨fun k q h => hP k q (at1 k q h), ⟨fun i j x y hx hy hxy => hD.1 i j x y (at1 i x hx) (at1 j y hy) hxy, fun _ _ _ => trivial⟩, fun q hq => ?_⟩
  rcases hq with ⟨k, e, hk⟩ | h
  · exact hD.2 k _ (at1 k _ hk)
  · exact C.2.2.2.2.2.2.1 q (Nat.le_trans hS.1 h)
theorem aw_ci {post : Int → va_W → Prop} {wc wr : va_W} {As : List Value} (C : cx p l s m args meth c cc nL ret Ts own G A H0) (hr : ∀ (H : Heap) (locs : List Loc) (ls : Array Slot), va_P G.1 vwCl wc H → va_D (fun _ => True) wc → ls.size = nL → va_Run p l e R s m args below meth c H locs cells slots 0 0 (F0 m pc ls (As ++ st)) st (QPi G post (va_A wc H.size) #[]) (va_A wc H.size)) (kk : ∀ (r : Int) (u : va_W), post r u → AW p l e R s m args below meth c nL G A H0 cells slots Q (u ++ wr) lv (pc + 3) (.int (zI r) :: st)) : AW p l e R s m args below meth c nL G A H0 cells slots Q (wc ++ wr) lv pc (As ++ st) :=
  fun H locs ls hP hD hS hl => by
    obtain ⟨hPc, hDc, hFc⟩ := aw_pre C hP hD hS
    refine va_calli (hr H locs ls hPc hDc hl.1) hS (fun q _ h => hFc q h) hFc (fun r u t H1 locs1 ht hvm hw hB hz1 hk1 hS1 => ?_)
    obtain ⟨rfl, hp⟩ := hw
    obtain ⟨hP1, hD1⟩ := hB
    rw [ht] at hP1
    obtain ⟨hP2, hD2⟩ := jn hP hD hk1 hFc hP1 hD1
    exact kk u.1 u.2 hp H1 locs1 ls hP2 hD2 hS1 hl
theorem aw_cv {post : va_W → Prop} {wc wr : va_W} {As : List Value} (C : cx p l s m args meth c cc nL ret Ts own G A H0) (hr : ∀ (H : Heap) (locs : List Loc) (ls : Array Slot), va_P G.1 vwCl wc H → va_D (fun _ => True) wc → ls.size = nL → va_Run p l e R s m args below meth c H locs cells slots 0 0 (F0 m pc ls (As ++ st)) st (QPv G post (va_A wc H.size) #[]) (va_A wc H.size)) (kk : ∀ (u : va_W), post u → AW p l e R s m args below meth c nL G A H0 cells slots Q (u ++ wr) lv (pc + 3) st) : AW p l e R s m args below meth c nL G A H0 cells slots Q (wc ++ wr) lv pc (As ++ st) :=
  fun H locs ls hP hD hS hl => by
    obtain ⟨hPc, hDc, hFc⟩ := aw_pre C hP hD hS
    refine va_callv (hr H locs ls hPc hDc hl.1) hS (fun q _ h => hFc q h) hFc (fun u t H1 locs1 ht hvm hw hB hz1 hk1 hS1 => ?_)
    obtain ⟨hP1, hD1⟩ := hB
    rw [ht] at hP1
    obtain ⟨hP2, hD2⟩ := jn hP hD hk1 hFc hP1 hD1
    exact kk u hw H1 locs1 ls hP2 hD2 hS1 hl
theorem pre_at (C : cx p l s m args meth c cc nL ret Ts own G A H0) (hN : NX s) {wc : va_W} {H : Heap} {As : List Value} (hP : va_P G.1 vwCl wc H) (hD : va_D (fun _ => True) wc) : ∀ U : State, U.heap = H → s.WarmedH U.vm → PX G As wc H.size As.toArray U := fun U hU hW => ⟨rfl, by rw [hU], by rw [hU]; exact hP, va_K.moved hW.alike C.2.2.2.2.2.1, hD, va_Nw.warmM hW hN⟩
theorem fix_of (C : cx p l s m args meth c cc nL ret Ts own G A H0) : CallFix p m c cc nL s args Ts own := ⟨C.1, C.2.1, C.2.2.1, C.2.2.2.1, C.2.2.2.2.1⟩
variable {wc wr : va_W} {y : MethodName} {ws9 : List Cond} {rm : Room} {As : List Value} {b index maxL n : Nat} {Cn host : String} {bytes : ByteArray} {rt : Option FieldType}
theorem aw_callVi {post : Int → va_W → Prop} {ci q0 : Nat} {fs : List Value} {rc : vw_C} (C : cx p l s m args meth c cc nL ret Ts own G A H0) (hN : NX s) (hM : Mi l G y ws9 rm (.ref b :: As) wc post) (cw : CallW R s args own Cn index y bytes maxL rt ws9 rm 0 0 n) (hc : vwCl[ci]? = some rc) (hCn : rc.1 = Cn) (he : wc[q0]? = some (b, .inr (ci, fs))) (hn : As.length = n) (hcat : Nat.ble (st.map fun v => v.category).sum 8 = true) (hd : decode cc pc = .ok (.invokevirtual index, 3)) (hf : cells ≤ R.cells ∧ slots ≤ R.slots) (kk : ∀ (r : Int) (u : va_W), post r u → AW p l e R s m args below meth c nL G A H0 cells slots Q (u ++ wr) lv (pc + 3) (.int (zI r) :: st)) : AW p l e R s m args below meth c nL G A H0 cells slots Q (wc ++ wr) lv pc (As.reverse ++ .ref b :: st) := by
  have h := aw_ci (As := As.reverse ++ [.ref b]) (e := e) (below := below) (wr := wr) (lv := lv) (Q := Q) (st := st) (pc := pc) (cells := cells) (slots := slots) C (fun H locs ls hP hD hl => by
    have h := va_runV (e := e) (below := below) (meth := meth) (cells := cells) (slots := slots) (locs := locs) (g := F0 m pc ls (As.reverse ++ .ref b :: st)) (As := As) (rest := st) (fix_of C) (hM H.size) cw ⟨PX_blind, by obtain ⟨cell, h1, h2, h3⟩ := va_recv C.2.2.2.2.2.1 hP hc he; exact ⟨cell, h1, h2, by rw [← hCn]; exact h3⟩, pre_at C hN hP hD⟩ rfl hn hl rfl (lv_room (Nat.le_of_ble_eq_true hcat)) hd hf
    rw [List.append_assoc]
    exact h) kk
  rw [List.append_assoc] at h
  exact h
theorem aw_callVv {post : va_W → Prop} {ci q0 : Nat} {fs : List Value} {rc : vw_C} (C : cx p l s m args meth c cc nL ret Ts own G A H0) (hN : NX s) (hM : Mv l G y ws9 rm (.ref b :: As) wc post) (cw : CallW R s args own Cn index y bytes maxL rt ws9 rm 0 0 n) (hc : vwCl[ci]? = some rc) (hCn : rc.1 = Cn) (he : wc[q0]? = some (b, .inr (ci, fs))) (hn : As.length = n) (hcat : Nat.ble (st.map fun v => v.category).sum 8 = true) (hd : decode cc pc = .ok (.invokevirtual index, 3)) (hf : cells ≤ R.cells ∧ slots ≤ R.slots) (kk : ∀ (u : va_W), post u → AW p l e R s m args below meth c nL G A H0 cells slots Q (u ++ wr) lv (pc + 3) st) : AW p l e R s m args below meth c nL G A H0 cells slots Q (wc ++ wr) lv pc (As.reverse ++ .ref b :: st) := by
  have h := aw_cv (As := As.reverse ++ [.ref b]) (e := e) (below := below) (wr := wr) (lv := lv) (Q := Q) (st := st) (pc := pc) (cells := cells) (slots := slots) C (fun H locs ls hP hD hl => by
    have h := va_runV (e := e) (below := below) (meth := meth) (cells := cells) (slots := slots) (locs := locs) (g := F0 m pc ls (As.reverse ++ .ref b :: st)) (As := As) (rest := st) (fix_of C) (hM H.size) cw ⟨PX_blind, by obtain ⟨cell, h1, h2, h3⟩ := va_recv C.2.2.2.2.2.1 hP hc he; exact ⟨cell, h1, h2, by rw [← hCn]; exact h3⟩, pre_at C hN hP hD⟩ rfl hn hl rfl (lv_room (Nat.le_of_ble_eq_true hcat)) hd hf
    rw [List.append_assoc]
    exact h) kk
  rw [List.append_assoc] at h
  exact h
theorem aw_callSi {post : Int → va_W → Prop} (C : cx p l s m args meth c cc nL ret Ts own G A H0) (hN : NX s) (hM : Mi l G y ws9 rm As wc post) (cw : CallB R s args own index y bytes maxL rt ws9 rm 0 0 n ∧ (Cond.static y).before args s = true) (hn : As.length = n) (hcat : Nat.ble (st.map fun v => v.category).sum 8 = true) (hd : decode cc pc = .ok (.invokestatic index, 3)) (hf : cells ≤ R.cells ∧ slots ≤ R.slots) (kk : ∀ (r : Int) (u : va_W), post r u → AW p l e R s m args below meth c nL G A H0 cells slots Q (u ++ wr) lv (pc + 3) (.int (zI r) :: st)) : AW p l e R s m args below meth c nL G A H0 cells slots Q (wc ++ wr) lv pc (As.reverse ++ st) :=
  aw_ci (As := As.reverse) C (fun H locs ls hP hD hl => va_runS (As := As) (fix_of C) (hM H.size) cw ⟨PX_blind, pre_at C hN hP hD⟩ rfl hn hl rfl (lv_room (Nat.le_of_ble_eq_true hcat)) hd hf) kk
theorem aw_callSNi {post : Int → va_W → Prop} (C : cx p l s m args meth c cc nL ret Ts own G A H0) (hN : NX s) (hM : Mi l G y ws9 rm As wc post) (cw : va_CN R s args own index y host bytes maxL rt ws9 rm 0 0 n ∧ (Cond.static y).before args s = true ∧ True) (hn : As.length = n) (hcat : Nat.ble (st.map fun v => v.category).sum 8 = true) (hd : decode cc pc = .ok (.invokestatic index, 3)) (hf : cells ≤ R.cells ∧ slots ≤ R.slots) (kk : ∀ (r : Int) (u : va_W), post r u → AW p l e R s m args below meth c nL G A H0 cells slots Q (u ++ wr) lv (pc + 3) (.int (zI r) :: st)) : AW p l e R s m args below meth c nL G A H0 cells slots Q (wc ++ wr) lv pc (As.reverse ++ st) :=
  aw_ci (As := As.reverse) C (fun H locs ls hP hD hl => va_runSN (As := As) (fix_of C) (hM H.size) cw ⟨PX_blind, pre_at C hN hP hD⟩ rfl hn hl rfl (lv_room (Nat.le_of_ble_eq_true hcat)) hd hf) kk
end AWC
end
section
/-! THE STATE: S.1 k the numbers, S.2 a the rows.
S.1: 0 lanes, 1 depth, 2 store, 3 entry, 4 exit, 5 bodies, 6 assembled, 7 the lane in turn, 8 the latest colour (-1: none), 9 changes, 10 releases, 11 the latest lane (-1: none).
S.2: 0 how many in each lane, 1 colours, 2 places, 3 order, 4 positions, 10 + i the bodies of lane i.
Scratch of the class: P.2 0 .. 4 the plan's waiting, 5 sizes, 6 taken, 7 strides, 8 leasts, 9 starts. Scratch of the reference: P.1 0 thrown, P.2 0 weights, 1 least. -/
abbrev St : Type := (Nat → Int) × (Nat → Int → Int)
def us (S : St) (k : Nat) (v : Int) : St := (fun j => match Nat.beq j k with
  | true => v
  | false => S.1 j, S.2)
def ua (S : St) (a : Nat) (i v : Int) : St := (S.1, fun b j => match Nat.beq b a with
  | true => if j = i then v else S.2 b j
  | false => S.2 b j)
theorem nbeq {a b : Nat} (h : a ≠ b) : Nat.beq a b = false := by
  cases hb : Nat.beq a b with
  | true => exact absurd (Nat.eq_of_beq_eq_true hb) h
  | false => rfl
theorem us_s (S : St) (k : Nat) (v : Int) : (us S k v).1 k = v := by unfold us; simp
theorem us_n (S : St) (k : Nat) (v : Int) {j : Nat} (h : j ≠ k) : (us S k v).1 j = S.1 j := by
  unfold us
  have : Nat.beq j k = false := nbeq h
  simp [this]
theorem us_2 (S : St) (k : Nat) (v : Int) : (us S k v).2 = S.2 := rfl
theorem ua_1 (S : St) (a : Nat) (i v : Int) : (ua S a i v).1 = S.1 := rfl
theorem ua_s (S : St) (a : Nat) (i v j : Int) : (ua S a i v).2 a j = if j = i then v else S.2 a j := by unfold ua; simp
theorem ua_n (S : St) (a : Nat) (i v j : Int) {b : Nat} (h : b ≠ a) : (ua S a i v).2 b j = S.2 b j := by
  unfold ua
  have : Nat.beq b a = false := nbeq h
  simp [this]
theorem ua_m (S : St) (a : Nat) (i v : Int) {b : Nat} (h : b ≠ a) : (ua S a i v).2 b = S.2 b := funext fun j => ua_n S a i v j h
abbrev arI (kc : Nat → ClassId) (n : Nat) (f : Int → Int) : va_E := .inl (kc 0, n, .inl (fun j : Nat => zI (f j)))
theorem upd_zI (f : Int → Int) (i x : Int) (h : 0 ≤ i) : upd (fun j : Nat => zI (f j)) i.toNat (zI x) = fun j : Nat => zI (if (j : Int) = i then x else f j) := by
  funext j
  unfold upd
  by_cases e : j = i.toNat
  · have e2 : (j : Int) = i := by omega
    rw [if_pos e, if_pos e2]
  · have e2 : ¬ (j : Int) = i := by omega
    rw [if_neg e, if_neg e2]
theorem at_zI (f : Int → Int) (i : Int) (h : 0 ≤ i) : (fun j : Nat => zI (f j)) i.toNat = zI (f i) := by
  show zI (f (i.toNat : Int)) = _
  rw [Int.toNat_of_nonneg h]

def WX (kc : Nat → ClassId) (ad : Nat → Nat) (S P : St) : va_W := [(ad 0, .inr (2, [.ref (ad 1), .ref (ad 12), .ref (ad 13), .ref (ad 14), .ref (ad 15), .ref (ad 16), .int (zI (S.1 0)), .int (zI (S.1 1)), .int (zI (S.1 2)), .int (zI (S.1 3)), .int (zI (S.1 4)), .int (zI (S.1 5)), .int (zI (S.1 6)), .int (zI (S.1 7)), .int (zI (S.1 8)), .int (zI (S.1 9)), .int (zI (S.1 10))])),
  (ad 1, .inl (kc 1, 5, .inr (.inr (.inr (.inr (fun j => some (ad (2 + j)))))))),
  (ad 2, .inr (0, [.ref (ad 7), .int (zI (S.2 0 0))])),
  (ad 3, .inr (0, [.ref (ad 8), .int (zI (S.2 0 1))])),
  (ad 4, .inr (0, [.ref (ad 9), .int (zI (S.2 0 2))])),
  (ad 5, .inr (0, [.ref (ad 10), .int (zI (S.2 0 3))])),
  (ad 6, .inr (0, [.ref (ad 11), .int (zI (S.2 0 4))])),
  (ad 7, arI kc 6 (S.2 10)),
  (ad 8, arI kc 6 (S.2 11)),
  (ad 9, arI kc 6 (S.2 12)),
  (ad 10, arI kc 6 (S.2 13)),
  (ad 11, arI kc 6 (S.2 14)),
  (ad 12, arI kc 99 (S.2 1)), (ad 13, arI kc 99 (S.2 2)), (ad 14, arI kc 99 (S.2 4)), (ad 15, arI kc 99 (S.2 3)),
  (ad 16, .inr (1, [.ref (ad 17), .ref (ad 23), .ref (ad 24), .ref (ad 25), .ref (ad 26), .ref (ad 27)])),
  (ad 17, .inl (kc 2, 5, .inr (.inr (.inr (.inr (fun j => some (ad (18 + j)))))))),
  (ad 18, arI kc 6 (P.2 0)),
  (ad 19, arI kc 6 (P.2 1)),
  (ad 20, arI kc 6 (P.2 2)),
  (ad 21, arI kc 6 (P.2 3)),
  (ad 22, arI kc 6 (P.2 4)),
  (ad 23, arI kc 5 (P.2 5)), (ad 24, arI kc 5 (P.2 6)), (ad 25, arI kc 5 (P.2 7)), (ad 26, arI kc 432 (P.2 8)), (ad 27, arI kc 432 (P.2 9))]
def rowM (S : St) (j : Int) : Int := S.2 (10 + (j / 6).toNat) (j % 6)
def WM (kc : Nat → ClassId) (am : Nat → Nat) (S P : St) : va_W := [(am 0, .inr (3, [.int (zI (S.1 0)), .int (zI (S.1 1)), .int (zI (S.1 2)), .int (zI (S.1 3)), .int (zI (S.1 4)), .ref (am 1), .ref (am 2), .int (zI (S.1 5)), .ref (am 3), .ref (am 4), .ref (am 5), .int (zI (S.1 6)), .int (zI (S.1 10)), .int (zI (S.1 9)), .int (zI (S.1 8)), .int (zI (S.1 11)), .ref (am 6), .ref (am 7), .int (zI (P.1 0))])),
  (am 1, arI kc 30 (rowM S)), (am 2, arI kc 5 (S.2 0)), (am 3, arI kc 99 (S.2 1)), (am 4, arI kc 99 (S.2 2)), (am 5, arI kc 99 (S.2 3)), (am 6, arI kc 6 (P.2 0)), (am 7, arI kc 3000 (P.2 1))]
section WXS
variable (kc : Nat → ClassId) (ad : Nat → Nat) (S P : St)
theorem wx_f6 (z : Int) : (WX kc ad S P).set 0 (ad 0, .inr (2, ([.ref (ad 1), .ref (ad 12), .ref (ad 13), .ref (ad 14), .ref (ad 15), .ref (ad 16), .int (zI (S.1 0)), .int (zI (S.1 1)), .int (zI (S.1 2)), .int (zI (S.1 3)), .int (zI (S.1 4)), .int (zI (S.1 5)), .int (zI (S.1 6)), .int (zI (S.1 7)), .int (zI (S.1 8)), .int (zI (S.1 9)), .int (zI (S.1 10))] : List Value).set 6 (.int (zI z)))) = WX kc ad (us S 0 z) P := rfl
theorem wx_f7 (z : Int) : (WX kc ad S P).set 0 (ad 0, .inr (2, ([.ref (ad 1), .ref (ad 12), .ref (ad 13), .ref (ad 14), .ref (ad 15), .ref (ad 16), .int (zI (S.1 0)), .int (zI (S.1 1)), .int (zI (S.1 2)), .int (zI (S.1 3)), .int (zI (S.1 4)), .int (zI (S.1 5)), .int (zI (S.1 6)), .int (zI (S.1 7)), .int (zI (S.1 8)), .int (zI (S.1 9)), .int (zI (S.1 10))] : List Value).set 7 (.int (zI z)))) = WX kc ad (us S 1 z) P := rfl
theorem wx_f8 (z : Int) : (WX kc ad S P).set 0 (ad 0, .inr (2, ([.ref (ad 1), .ref (ad 12), .ref (ad 13), .ref (ad 14), .ref (ad 15), .ref (ad 16), .int (zI (S.1 0)), .int (zI (S.1 1)), .int (zI (S.1 2)), .int (zI (S.1 3)), .int (zI (S.1 4)), .int (zI (S.1 5)), .int (zI (S.1 6)), .int (zI (S.1 7)), .int (zI (S.1 8)), .int (zI (S.1 9)), .int (zI (S.1 10))] : List Value).set 8 (.int (zI z)))) = WX kc ad (us S 2 z) P := rfl
theorem wx_f9 (z : Int) : (WX kc ad S P).set 0 (ad 0, .inr (2, ([.ref (ad 1), .ref (ad 12), .ref (ad 13), .ref (ad 14), .ref (ad 15), .ref (ad 16), .int (zI (S.1 0)), .int (zI (S.1 1)), .int (zI (S.1 2)), .int (zI (S.1 3)), .int (zI (S.1 4)), .int (zI (S.1 5)), .int (zI (S.1 6)), .int (zI (S.1 7)), .int (zI (S.1 8)), .int (zI (S.1 9)), .int (zI (S.1 10))] : List Value).set 9 (.int (zI z)))) = WX kc ad (us S 3 z) P := rfl
theorem wx_f10 (z : Int) : (WX kc ad S P).set 0 (ad 0, .inr (2, ([.ref (ad 1), .ref (ad 12), .ref (ad 13), .ref (ad 14), .ref (ad 15), .ref (ad 16), .int (zI (S.1 0)), .int (zI (S.1 1)), .int (zI (S.1 2)), .int (zI (S.1 3)), .int (zI (S.1 4)), .int (zI (S.1 5)), .int (zI (S.1 6)), .int (zI (S.1 7)), .int (zI (S.1 8)), .int (zI (S.1 9)), .int (zI (S.1 10))] : List Value).set 10 (.int (zI z)))) = WX kc ad (us S 4 z) P := rfl
theorem wx_f11 (z : Int) : (WX kc ad S P).set 0 (ad 0, .inr (2, ([.ref (ad 1), .ref (ad 12), .ref (ad 13), .ref (ad 14), .ref (ad 15), .ref (ad 16), .int (zI (S.1 0)), .int (zI (S.1 1)), .int (zI (S.1 2)), .int (zI (S.1 3)), .int (zI (S.1 4)), .int (zI (S.1 5)), .int (zI (S.1 6)), .int (zI (S.1 7)), .int (zI (S.1 8)), .int (zI (S.1 9)), .int (zI (S.1 10))] : List Value).set 11 (.int (zI z)))) = WX kc ad (us S 5 z) P := rfl
theorem wx_f12 (z : Int) : (WX kc ad S P).set 0 (ad 0, .inr (2, ([.ref (ad 1), .ref (ad 12), .ref (ad 13), .ref (ad 14), .ref (ad 15), .ref (ad 16), .int (zI (S.1 0)), .int (zI (S.1 1)), .int (zI (S.1 2)), .int (zI (S.1 3)), .int (zI (S.1 4)), .int (zI (S.1 5)), .int (zI (S.1 6)), .int (zI (S.1 7)), .int (zI (S.1 8)), .int (zI (S.1 9)), .int (zI (S.1 10))] : List Value).set 12 (.int (zI z)))) = WX kc ad (us S 6 z) P := rfl
theorem wx_f13 (z : Int) : (WX kc ad S P).set 0 (ad 0, .inr (2, ([.ref (ad 1), .ref (ad 12), .ref (ad 13), .ref (ad 14), .ref (ad 15), .ref (ad 16), .int (zI (S.1 0)), .int (zI (S.1 1)), .int (zI (S.1 2)), .int (zI (S.1 3)), .int (zI (S.1 4)), .int (zI (S.1 5)), .int (zI (S.1 6)), .int (zI (S.1 7)), .int (zI (S.1 8)), .int (zI (S.1 9)), .int (zI (S.1 10))] : List Value).set 13 (.int (zI z)))) = WX kc ad (us S 7 z) P := rfl
theorem wx_f14 (z : Int) : (WX kc ad S P).set 0 (ad 0, .inr (2, ([.ref (ad 1), .ref (ad 12), .ref (ad 13), .ref (ad 14), .ref (ad 15), .ref (ad 16), .int (zI (S.1 0)), .int (zI (S.1 1)), .int (zI (S.1 2)), .int (zI (S.1 3)), .int (zI (S.1 4)), .int (zI (S.1 5)), .int (zI (S.1 6)), .int (zI (S.1 7)), .int (zI (S.1 8)), .int (zI (S.1 9)), .int (zI (S.1 10))] : List Value).set 14 (.int (zI z)))) = WX kc ad (us S 8 z) P := rfl
theorem wx_f15 (z : Int) : (WX kc ad S P).set 0 (ad 0, .inr (2, ([.ref (ad 1), .ref (ad 12), .ref (ad 13), .ref (ad 14), .ref (ad 15), .ref (ad 16), .int (zI (S.1 0)), .int (zI (S.1 1)), .int (zI (S.1 2)), .int (zI (S.1 3)), .int (zI (S.1 4)), .int (zI (S.1 5)), .int (zI (S.1 6)), .int (zI (S.1 7)), .int (zI (S.1 8)), .int (zI (S.1 9)), .int (zI (S.1 10))] : List Value).set 15 (.int (zI z)))) = WX kc ad (us S 9 z) P := rfl
theorem wx_f16 (z : Int) : (WX kc ad S P).set 0 (ad 0, .inr (2, ([.ref (ad 1), .ref (ad 12), .ref (ad 13), .ref (ad 14), .ref (ad 15), .ref (ad 16), .int (zI (S.1 0)), .int (zI (S.1 1)), .int (zI (S.1 2)), .int (zI (S.1 3)), .int (zI (S.1 4)), .int (zI (S.1 5)), .int (zI (S.1 6)), .int (zI (S.1 7)), .int (zI (S.1 8)), .int (zI (S.1 9)), .int (zI (S.1 10))] : List Value).set 16 (.int (zI z)))) = WX kc ad (us S 10 z) P := rfl
theorem wx_a12 (i z : Int) : (WX kc ad S P).set 12 (ad 12, arI kc 99 (fun j => if j = i then z else S.2 1 j)) = WX kc ad (ua S 1 i z) P := rfl
theorem wx_a13 (i z : Int) : (WX kc ad S P).set 13 (ad 13, arI kc 99 (fun j => if j = i then z else S.2 2 j)) = WX kc ad (ua S 2 i z) P := rfl
theorem wx_a14 (i z : Int) : (WX kc ad S P).set 14 (ad 14, arI kc 99 (fun j => if j = i then z else S.2 4 j)) = WX kc ad (ua S 4 i z) P := rfl
theorem wx_a15 (i z : Int) : (WX kc ad S P).set 15 (ad 15, arI kc 99 (fun j => if j = i then z else S.2 3 j)) = WX kc ad (ua S 3 i z) P := rfl
theorem wx_a23 (i z : Int) : (WX kc ad S P).set 23 (ad 23, arI kc 5 (fun j => if j = i then z else P.2 5 j)) = WX kc ad S (ua P 5 i z) := rfl
theorem wx_a24 (i z : Int) : (WX kc ad S P).set 24 (ad 24, arI kc 5 (fun j => if j = i then z else P.2 6 j)) = WX kc ad S (ua P 6 i z) := rfl
theorem wx_a25 (i z : Int) : (WX kc ad S P).set 25 (ad 25, arI kc 5 (fun j => if j = i then z else P.2 7 j)) = WX kc ad S (ua P 7 i z) := rfl
theorem wx_a26 (i z : Int) : (WX kc ad S P).set 26 (ad 26, arI kc 432 (fun j => if j = i then z else P.2 8 j)) = WX kc ad S (ua P 8 i z) := rfl
theorem wx_a27 (i z : Int) : (WX kc ad S P).set 27 (ad 27, arI kc 432 (fun j => if j = i then z else P.2 9 j)) = WX kc ad S (ua P 9 i z) := rfl
theorem i5 {i : Int} (h0 : 0 ≤ i) (h5 : i < 5) : i = 0 ∨ i = 1 ∨ i = 2 ∨ i = 3 ∨ i = 4 := by omega
variable {kc ad S P}
theorem wx_lane {i : Int} (h0 : 0 ≤ i) (h5 : i < 5) : (WX kc ad S P)[2 + i.toNat]? = some (ad (2 + i.toNat), .inr (0, [.ref (ad (7 + i.toNat)), .int (zI (S.2 0 i))])) := by
  rcases i5 h0 h5 with rfl | rfl | rfl | rfl | rfl <;> rfl
theorem wx_row {i : Int} (h0 : 0 ≤ i) (h5 : i < 5) : (WX kc ad S P)[7 + i.toNat]? = some (ad (7 + i.toNat), arI kc 6 (S.2 (10 + i.toNat))) := by
  rcases i5 h0 h5 with rfl | rfl | rfl | rfl | rfl <;> rfl
theorem wx_wrow {i : Int} (h0 : 0 ≤ i) (h5 : i < 5) : (WX kc ad S P)[18 + i.toNat]? = some (ad (18 + i.toNat), arI kc 6 (P.2 i.toNat)) := by
  rcases i5 h0 h5 with rfl | rfl | rfl | rfl | rfl <;> rfl
theorem wx_lane_set {i z : Int} (h0 : 0 ≤ i) (h5 : i < 5) : (WX kc ad S P).set (2 + i.toNat) (ad (2 + i.toNat), .inr (0, ([.ref (ad (7 + i.toNat)), .int (zI (S.2 0 i))] : List Value).set 1 (.int (zI z)))) = WX kc ad (ua S 0 i z) P := by
  rcases i5 h0 h5 with rfl | rfl | rfl | rfl | rfl <;> simp [WX, ua]
theorem wx_row_set {i j z : Int} (h0 : 0 ≤ i) (h5 : i < 5) : (WX kc ad S P).set (7 + i.toNat) (ad (7 + i.toNat), arI kc 6 (fun q => if q = j then z else S.2 (10 + i.toNat) q)) = WX kc ad (ua S (10 + i.toNat) j z) P := by
  rcases i5 h0 h5 with rfl | rfl | rfl | rfl | rfl <;> rfl
theorem wx_wrow_set {i j z : Int} (h0 : 0 ≤ i) (h5 : i < 5) : (WX kc ad S P).set (18 + i.toNat) (ad (18 + i.toNat), arI kc 6 (fun q => if q = j then z else P.2 i.toNat q)) = WX kc ad S (ua P i.toNat j z) := by
  rcases i5 h0 h5 with rfl | rfl | rfl | rfl | rfl <;> rfl
end WXS
theorem rowM_n (S : St) (a : Nat) (i z : Int) (h : Nat.ble 10 a = false) : rowM (ua S a i z) = rowM S := by
  funext j
  unfold rowM
  refine ua_n S a i z _ ?_
  intro e
  have : Nat.ble 10 a = true := Nat.ble_eq_true_of_le (by omega)
  rw [h] at this
  cases this
section WMS
variable (kc : Nat → ClassId) (am : Nat → Nat) (S P : St)
theorem wm_f0 (z : Int) : (WM kc am S P).set 0 (am 0, .inr (3, ([.int (zI (S.1 0)), .int (zI (S.1 1)), .int (zI (S.1 2)), .int (zI (S.1 3)), .int (zI (S.1 4)), .ref (am 1), .ref (am 2), .int (zI (S.1 5)), .ref (am 3), .ref (am 4), .ref (am 5), .int (zI (S.1 6)), .int (zI (S.1 10)), .int (zI (S.1 9)), .int (zI (S.1 8)), .int (zI (S.1 11)), .ref (am 6), .ref (am 7), .int (zI (P.1 0))] : List Value).set 0 (.int (zI z)))) = WM kc am (us S 0 z) P := rfl
theorem wm_f1 (z : Int) : (WM kc am S P).set 0 (am 0, .inr (3, ([.int (zI (S.1 0)), .int (zI (S.1 1)), .int (zI (S.1 2)), .int (zI (S.1 3)), .int (zI (S.1 4)), .ref (am 1), .ref (am 2), .int (zI (S.1 5)), .ref (am 3), .ref (am 4), .ref (am 5), .int (zI (S.1 6)), .int (zI (S.1 10)), .int (zI (S.1 9)), .int (zI (S.1 8)), .int (zI (S.1 11)), .ref (am 6), .ref (am 7), .int (zI (P.1 0))] : List Value).set 1 (.int (zI z)))) = WM kc am (us S 1 z) P := rfl
theorem wm_f2 (z : Int) : (WM kc am S P).set 0 (am 0, .inr (3, ([.int (zI (S.1 0)), .int (zI (S.1 1)), .int (zI (S.1 2)), .int (zI (S.1 3)), .int (zI (S.1 4)), .ref (am 1), .ref (am 2), .int (zI (S.1 5)), .ref (am 3), .ref (am 4), .ref (am 5), .int (zI (S.1 6)), .int (zI (S.1 10)), .int (zI (S.1 9)), .int (zI (S.1 8)), .int (zI (S.1 11)), .ref (am 6), .ref (am 7), .int (zI (P.1 0))] : List Value).set 2 (.int (zI z)))) = WM kc am (us S 2 z) P := rfl
theorem wm_f3 (z : Int) : (WM kc am S P).set 0 (am 0, .inr (3, ([.int (zI (S.1 0)), .int (zI (S.1 1)), .int (zI (S.1 2)), .int (zI (S.1 3)), .int (zI (S.1 4)), .ref (am 1), .ref (am 2), .int (zI (S.1 5)), .ref (am 3), .ref (am 4), .ref (am 5), .int (zI (S.1 6)), .int (zI (S.1 10)), .int (zI (S.1 9)), .int (zI (S.1 8)), .int (zI (S.1 11)), .ref (am 6), .ref (am 7), .int (zI (P.1 0))] : List Value).set 3 (.int (zI z)))) = WM kc am (us S 3 z) P := rfl
theorem wm_f4 (z : Int) : (WM kc am S P).set 0 (am 0, .inr (3, ([.int (zI (S.1 0)), .int (zI (S.1 1)), .int (zI (S.1 2)), .int (zI (S.1 3)), .int (zI (S.1 4)), .ref (am 1), .ref (am 2), .int (zI (S.1 5)), .ref (am 3), .ref (am 4), .ref (am 5), .int (zI (S.1 6)), .int (zI (S.1 10)), .int (zI (S.1 9)), .int (zI (S.1 8)), .int (zI (S.1 11)), .ref (am 6), .ref (am 7), .int (zI (P.1 0))] : List Value).set 4 (.int (zI z)))) = WM kc am (us S 4 z) P := rfl
theorem wm_f7 (z : Int) : (WM kc am S P).set 0 (am 0, .inr (3, ([.int (zI (S.1 0)), .int (zI (S.1 1)), .int (zI (S.1 2)), .int (zI (S.1 3)), .int (zI (S.1 4)), .ref (am 1), .ref (am 2), .int (zI (S.1 5)), .ref (am 3), .ref (am 4), .ref (am 5), .int (zI (S.1 6)), .int (zI (S.1 10)), .int (zI (S.1 9)), .int (zI (S.1 8)), .int (zI (S.1 11)), .ref (am 6), .ref (am 7), .int (zI (P.1 0))] : List Value).set 7 (.int (zI z)))) = WM kc am (us S 5 z) P := rfl
theorem wm_f11 (z : Int) : (WM kc am S P).set 0 (am 0, .inr (3, ([.int (zI (S.1 0)), .int (zI (S.1 1)), .int (zI (S.1 2)), .int (zI (S.1 3)), .int (zI (S.1 4)), .ref (am 1), .ref (am 2), .int (zI (S.1 5)), .ref (am 3), .ref (am 4), .ref (am 5), .int (zI (S.1 6)), .int (zI (S.1 10)), .int (zI (S.1 9)), .int (zI (S.1 8)), .int (zI (S.1 11)), .ref (am 6), .ref (am 7), .int (zI (P.1 0))] : List Value).set 11 (.int (zI z)))) = WM kc am (us S 6 z) P := rfl
theorem wm_f12 (z : Int) : (WM kc am S P).set 0 (am 0, .inr (3, ([.int (zI (S.1 0)), .int (zI (S.1 1)), .int (zI (S.1 2)), .int (zI (S.1 3)), .int (zI (S.1 4)), .ref (am 1), .ref (am 2), .int (zI (S.1 5)), .ref (am 3), .ref (am 4), .ref (am 5), .int (zI (S.1 6)), .int (zI (S.1 10)), .int (zI (S.1 9)), .int (zI (S.1 8)), .int (zI (S.1 11)), .ref (am 6), .ref (am 7), .int (zI (P.1 0))] : List Value).set 12 (.int (zI z)))) = WM kc am (us S 10 z) P := rfl
theorem wm_f13 (z : Int) : (WM kc am S P).set 0 (am 0, .inr (3, ([.int (zI (S.1 0)), .int (zI (S.1 1)), .int (zI (S.1 2)), .int (zI (S.1 3)), .int (zI (S.1 4)), .ref (am 1), .ref (am 2), .int (zI (S.1 5)), .ref (am 3), .ref (am 4), .ref (am 5), .int (zI (S.1 6)), .int (zI (S.1 10)), .int (zI (S.1 9)), .int (zI (S.1 8)), .int (zI (S.1 11)), .ref (am 6), .ref (am 7), .int (zI (P.1 0))] : List Value).set 13 (.int (zI z)))) = WM kc am (us S 9 z) P := rfl
theorem wm_f14 (z : Int) : (WM kc am S P).set 0 (am 0, .inr (3, ([.int (zI (S.1 0)), .int (zI (S.1 1)), .int (zI (S.1 2)), .int (zI (S.1 3)), .int (zI (S.1 4)), .ref (am 1), .ref (am 2), .int (zI (S.1 5)), .ref (am 3), .ref (am 4), .ref (am 5), .int (zI (S.1 6)), .int (zI (S.1 10)), .int (zI (S.1 9)), .int (zI (S.1 8)), .int (zI (S.1 11)), .ref (am 6), .ref (am 7), .int (zI (P.1 0))] : List Value).set 14 (.int (zI z)))) = WM kc am (us S 8 z) P := rfl
theorem wm_f15 (z : Int) : (WM kc am S P).set 0 (am 0, .inr (3, ([.int (zI (S.1 0)), .int (zI (S.1 1)), .int (zI (S.1 2)), .int (zI (S.1 3)), .int (zI (S.1 4)), .ref (am 1), .ref (am 2), .int (zI (S.1 5)), .ref (am 3), .ref (am 4), .ref (am 5), .int (zI (S.1 6)), .int (zI (S.1 10)), .int (zI (S.1 9)), .int (zI (S.1 8)), .int (zI (S.1 11)), .ref (am 6), .ref (am 7), .int (zI (P.1 0))] : List Value).set 15 (.int (zI z)))) = WM kc am (us S 11 z) P := rfl
theorem wm_f18 (z : Int) : (WM kc am S P).set 0 (am 0, .inr (3, ([.int (zI (S.1 0)), .int (zI (S.1 1)), .int (zI (S.1 2)), .int (zI (S.1 3)), .int (zI (S.1 4)), .ref (am 1), .ref (am 2), .int (zI (S.1 5)), .ref (am 3), .ref (am 4), .ref (am 5), .int (zI (S.1 6)), .int (zI (S.1 10)), .int (zI (S.1 9)), .int (zI (S.1 8)), .int (zI (S.1 11)), .ref (am 6), .ref (am 7), .int (zI (P.1 0))] : List Value).set 18 (.int (zI z)))) = WM kc am S (us P 0 z) := rfl
theorem wm_a3 (i z : Int) : (WM kc am S P).set 3 (am 3, arI kc 99 (fun j => if j = i then z else S.2 1 j)) = WM kc am (ua S 1 i z) P := by unfold WM; rw [rowM_n S 1 i z (by decide)]; rfl
theorem wm_a4 (i z : Int) : (WM kc am S P).set 4 (am 4, arI kc 99 (fun j => if j = i then z else S.2 2 j)) = WM kc am (ua S 2 i z) P := by unfold WM; rw [rowM_n S 2 i z (by decide)]; rfl
theorem wm_a5 (i z : Int) : (WM kc am S P).set 5 (am 5, arI kc 99 (fun j => if j = i then z else S.2 3 j)) = WM kc am (ua S 3 i z) P := by unfold WM; rw [rowM_n S 3 i z (by decide)]; rfl
theorem wm_a2 (i z : Int) : (WM kc am S P).set 2 (am 2, arI kc 5 (fun j => if j = i then z else S.2 0 j)) = WM kc am (ua S 0 i z) P := by unfold WM; rw [rowM_n S 0 i z (by decide)]; rfl
theorem wm_a6 (i z : Int) : (WM kc am S P).set 6 (am 6, arI kc 6 (fun j => if j = i then z else P.2 0 j)) = WM kc am S (ua P 0 i z) := rfl
theorem wm_a7 (i z : Int) : (WM kc am S P).set 7 (am 7, arI kc 3000 (fun j => if j = i then z else P.2 1 j)) = WM kc am S (ua P 1 i z) := rfl
theorem rowM_set {l k z : Int} (h0 : 0 ≤ l) (hk : 0 ≤ k) (h6 : k < 6) : (fun j : Nat => zI ((fun j : Int => if j = 6 * l + k then z else rowM S j) j)) = fun j : Nat => zI (rowM (ua S (10 + l.toNat) k z) j) := by
  funext j
  refine congrArg zI ?_
  unfold rowM ua
  dsimp only
  by_cases e : (j : Int) = 6 * l + k
  · have e1 : (j : Int) / 6 = l := by omega
    have e2 : (j : Int) % 6 = k := by omega
    rw [if_pos e, e1, e2]
    simp
  · rw [if_neg e]
    by_cases e1 : 10 + ((j : Int) / 6).toNat = 10 + l.toNat
    · have e3 : (j : Int) / 6 = l := by omega
      have e2 : ¬ (j : Int) % 6 = k := by omega
      rw [e3]
      simp [e2]
    · have e4 : Nat.beq (10 + ((j : Int) / 6).toNat) (10 + l.toNat) = false := by
        cases hb : Nat.beq (10 + ((j : Int) / 6).toNat) (10 + l.toNat) with
        | true => exact absurd (Nat.eq_of_beq_eq_true hb) e1
        | false => rfl
      rw [e4]
variable {kc am S P}
theorem wm_a1 {l k i z : Int} (hi : i = 6 * l + k) (h0 : 0 ≤ l) (hk : 0 ≤ k) (h6 : k < 6) : (WM kc am S P).set 1 (am 1, arI kc 30 (fun j => if j = i then z else rowM S j)) = WM kc am (ua S (10 + l.toNat) k z) P := by
  subst hi
  have h := rowM_set S (z := z) h0 hk h6
  unfold WM
  simp only [List.set_cons_succ, List.set_cons_zero]
  rw [ua_m S (10 + l.toNat) k z (b := 0) (by omega), ua_m S (10 + l.toNat) k z (b := 1) (by omega), ua_m S (10 + l.toNat) k z (b := 2) (by omega), ua_m S (10 + l.toNat) k z (b := 3) (by omega)]
  unfold arI
  rw [h]
  rfl
theorem rowM_at {l k i : Int} (hi : i = 6 * l + k) (h0 : 0 ≤ l) (hk : 0 ≤ k) (h6 : k < 6) : rowM S i = S.2 (10 + l.toNat) k := by
  unfold rowM
  have e1 : i / 6 = l := by omega
  have e2 : i % 6 = k := by omega
  rw [e1, e2]
end WMS
section AWA
variable {p : Program} {l : Launch} {e : Env} {R : Room} {s : State} {m : MethodId} {args : Array Value} {below : List Frame} {meth : Method} {c : Code} {nL : Nat} {G : va_G × (Nat → ClassId)} {A : Nat → Prop} {H0 : Heap} {cells slots : Nat} {Q : State → Prop}
variable {cc : ByteArray} {ret : Option FieldType} {Ts : List Cond} {own : String} {ws : va_W} {lv : List (Nat × Value)} {pc : Nat} {st : List Value}
theorem aw_ldI (C : cx p l s m args meth c cc nL ret Ts own G A H0) {q0 n : Nat} {a : Nat} {f : Int → Int} {i : Int} (he : ws[q0]? = some (a, arI G.2 n f)) (h0 : 0 ≤ i) (hn : i < (n : Int)) (hb : Nat.ble n 100000 = true) (hd : decode cc pc = .ok (.iaload, 1)) (k : AW p l e R s m args below meth c nL G A H0 cells slots Q ws lv (pc + 1) (.int (zI (f i)) :: st)) : AW p l e R s m args below meth c nL G A H0 cells slots Q ws lv pc (.int (zI i) :: .ref a :: st) :=
  aw_iald C he h0 hn hb (at_zI f i h0) hd k
theorem aw_stI (C : cx p l s m args meth c cc nL ret Ts own G A H0) {q0 n : Nat} {a : Nat} {f : Int → Int} {i x : Int} {ws' : va_W} (he : ws[q0]? = some (a, arI G.2 n f)) (h0 : 0 ≤ i) (hn : i < (n : Int)) (hb : Nat.ble n 100000 = true) (hw : ws.set q0 (a, arI G.2 n (fun j => if j = i then x else f j)) = ws') (hd : decode cc pc = .ok (.iastore, 1)) (k : AW p l e R s m args below meth c nL G A H0 cells slots Q ws' lv (pc + 1) st) : AW p l e R s m args below meth c nL G A H0 cells slots Q ws lv pc (.int (zI x) :: .int (zI i) :: .ref a :: st) :=
  aw_iast C he h0 hn hb (by rw [upd_zI f i x h0]; exact hw) hd k
end AWA
section AWD
variable {p : Program} {l : Launch} {e : Env} {R : Room} {s : State} {m : MethodId} {args : Array Value} {below : List Frame} {meth : Method} {c : Code} {nL : Nat} {G : va_G × (Nat → ClassId)} {A : Nat → Prop} {H0 : Heap} {cells slots : Nat} {Q : State → Prop}
variable {cc : ByteArray} {ret : Option FieldType} {Ts : List Cond} {own : String} {lv : List (Nat × Value)} {pc : Nat} {st : List Value}
variable {wc : va_W} {y : MethodName} {ws9 : List Cond} {rm : Room} {b index maxL : Nat} {Cn host : String} {bytes : ByteArray} {rt : Option FieldType} {ci q0 : Nat} {fs : List Value} {rc : vw_C}
theorem cV0i {post : Int → va_W → Prop} (C : cx p l s m args meth c cc nL ret Ts own G A H0) (hN : NX s) (hM : Mi l G y ws9 rm [.ref b] wc post) (cw : CallW R s args own Cn index y bytes maxL rt ws9 rm 0 0 0) (hc : vwCl[ci]? = some rc) (hCn : rc.1 = Cn) (he : wc[q0]? = some (b, .inr (ci, fs))) (hcat : Nat.ble (st.map fun v => v.category).sum 8 = true) (hd : decode cc pc = .ok (.invokevirtual index, 3)) (hf : cells ≤ R.cells ∧ slots ≤ R.slots) (kk : ∀ (r : Int) (u : va_W), post r u → AW p l e R s m args below meth c nL G A H0 cells slots Q u lv (pc + 3) (.int (zI r) :: st)) : AW p l e R s m args below meth c nL G A H0 cells slots Q wc lv pc (.ref b :: st) := by
  have h := aw_callVi (As := []) (wr := []) (e := e) (below := below) (Q := Q) (lv := lv) C hN hM cw hc hCn he rfl hcat hd hf (fun r u hp => by rw [List.append_nil]; exact kk r u hp)
  rw [List.append_nil] at h
  exact h
theorem cV0v {post : va_W → Prop} (C : cx p l s m args meth c cc nL ret Ts own G A H0) (hN : NX s) (hM : Mv l G y ws9 rm [.ref b] wc post) (cw : CallW R s args own Cn index y bytes maxL rt ws9 rm 0 0 0) (hc : vwCl[ci]? = some rc) (hCn : rc.1 = Cn) (he : wc[q0]? = some (b, .inr (ci, fs))) (hcat : Nat.ble (st.map fun v => v.category).sum 8 = true) (hd : decode cc pc = .ok (.invokevirtual index, 3)) (hf : cells ≤ R.cells ∧ slots ≤ R.slots) (kk : ∀ (u : va_W), post u → AW p l e R s m args below meth c nL G A H0 cells slots Q u lv (pc + 3) st) : AW p l e R s m args below meth c nL G A H0 cells slots Q wc lv pc (.ref b :: st) := by
  have h := aw_callVv (As := []) (wr := []) (e := e) (below := below) (Q := Q) (lv := lv) C hN hM cw hc hCn he rfl hcat hd hf (fun u hp => by rw [List.append_nil]; exact kk u hp)
  rw [List.append_nil] at h
  exact h
theorem cV1i {a1 : Value} {post : Int → va_W → Prop} (C : cx p l s m args meth c cc nL ret Ts own G A H0) (hN : NX s) (hM : Mi l G y ws9 rm [.ref b, a1] wc post) (cw : CallW R s args own Cn index y bytes maxL rt ws9 rm 0 0 1) (hc : vwCl[ci]? = some rc) (hCn : rc.1 = Cn) (he : wc[q0]? = some (b, .inr (ci, fs))) (hcat : Nat.ble (st.map fun v => v.category).sum 8 = true) (hd : decode cc pc = .ok (.invokevirtual index, 3)) (hf : cells ≤ R.cells ∧ slots ≤ R.slots) (kk : ∀ (r : Int) (u : va_W), post r u → AW p l e R s m args below meth c nL G A H0 cells slots Q u lv (pc + 3) (.int (zI r) :: st)) : AW p l e R s m args below meth c nL G A H0 cells slots Q wc lv pc (a1 :: .ref b :: st) := by
  have h := aw_callVi (As := [a1]) (wr := []) (e := e) (below := below) (Q := Q) (lv := lv) C hN hM cw hc hCn he rfl hcat hd hf (fun r u hp => by rw [List.append_nil]; exact kk r u hp)
  rw [List.append_nil] at h
  exact h
theorem cV1v {a1 : Value} {post : va_W → Prop} (C : cx p l s m args meth c cc nL ret Ts own G A H0) (hN : NX s) (hM : Mv l G y ws9 rm [.ref b, a1] wc post) (cw : CallW R s args own Cn index y bytes maxL rt ws9 rm 0 0 1) (hc : vwCl[ci]? = some rc) (hCn : rc.1 = Cn) (he : wc[q0]? = some (b, .inr (ci, fs))) (hcat : Nat.ble (st.map fun v => v.category).sum 8 = true) (hd : decode cc pc = .ok (.invokevirtual index, 3)) (hf : cells ≤ R.cells ∧ slots ≤ R.slots) (kk : ∀ (u : va_W), post u → AW p l e R s m args below meth c nL G A H0 cells slots Q u lv (pc + 3) st) : AW p l e R s m args below meth c nL G A H0 cells slots Q wc lv pc (a1 :: .ref b :: st) := by
  have h := aw_callVv (As := [a1]) (wr := []) (e := e) (below := below) (Q := Q) (lv := lv) C hN hM cw hc hCn he rfl hcat hd hf (fun u hp => by rw [List.append_nil]; exact kk u hp)
  rw [List.append_nil] at h
  exact h
theorem cV2i {a1 : Value} {a2 : Value} {post : Int → va_W → Prop} (C : cx p l s m args meth c cc nL ret Ts own G A H0) (hN : NX s) (hM : Mi l G y ws9 rm [.ref b, a1, a2] wc post) (cw : CallW R s args own Cn index y bytes maxL rt ws9 rm 0 0 2) (hc : vwCl[ci]? = some rc) (hCn : rc.1 = Cn) (he : wc[q0]? = some (b, .inr (ci, fs))) (hcat : Nat.ble (st.map fun v => v.category).sum 8 = true) (hd : decode cc pc = .ok (.invokevirtual index, 3)) (hf : cells ≤ R.cells ∧ slots ≤ R.slots) (kk : ∀ (r : Int) (u : va_W), post r u → AW p l e R s m args below meth c nL G A H0 cells slots Q u lv (pc + 3) (.int (zI r) :: st)) : AW p l e R s m args below meth c nL G A H0 cells slots Q wc lv pc (a2 :: a1 :: .ref b :: st) := by
  have h := aw_callVi (As := [a1, a2]) (wr := []) (e := e) (below := below) (Q := Q) (lv := lv) C hN hM cw hc hCn he rfl hcat hd hf (fun r u hp => by rw [List.append_nil]; exact kk r u hp)
  rw [List.append_nil] at h
  exact h
theorem cV2v {a1 : Value} {a2 : Value} {post : va_W → Prop} (C : cx p l s m args meth c cc nL ret Ts own G A H0) (hN : NX s) (hM : Mv l G y ws9 rm [.ref b, a1, a2] wc post) (cw : CallW R s args own Cn index y bytes maxL rt ws9 rm 0 0 2) (hc : vwCl[ci]? = some rc) (hCn : rc.1 = Cn) (he : wc[q0]? = some (b, .inr (ci, fs))) (hcat : Nat.ble (st.map fun v => v.category).sum 8 = true) (hd : decode cc pc = .ok (.invokevirtual index, 3)) (hf : cells ≤ R.cells ∧ slots ≤ R.slots) (kk : ∀ (u : va_W), post u → AW p l e R s m args below meth c nL G A H0 cells slots Q u lv (pc + 3) st) : AW p l e R s m args below meth c nL G A H0 cells slots Q wc lv pc (a2 :: a1 :: .ref b :: st) := by
  have h := aw_callVv (As := [a1, a2]) (wr := []) (e := e) (below := below) (Q := Q) (lv := lv) C hN hM cw hc hCn he rfl hcat hd hf (fun u hp => by rw [List.append_nil]; exact kk u hp)
  rw [List.append_nil] at h
  exact h
theorem cV3i {a1 : Value} {a2 : Value} {a3 : Value} {post : Int → va_W → Prop} (C : cx p l s m args meth c cc nL ret Ts own G A H0) (hN : NX s) (hM : Mi l G y ws9 rm [.ref b, a1, a2, a3] wc post) (cw : CallW R s args own Cn index y bytes maxL rt ws9 rm 0 0 3) (hc : vwCl[ci]? = some rc) (hCn : rc.1 = Cn) (he : wc[q0]? = some (b, .inr (ci, fs))) (hcat : Nat.ble (st.map fun v => v.category).sum 8 = true) (hd : decode cc pc = .ok (.invokevirtual index, 3)) (hf : cells ≤ R.cells ∧ slots ≤ R.slots) (kk : ∀ (r : Int) (u : va_W), post r u → AW p l e R s m args below meth c nL G A H0 cells slots Q u lv (pc + 3) (.int (zI r) :: st)) : AW p l e R s m args below meth c nL G A H0 cells slots Q wc lv pc (a3 :: a2 :: a1 :: .ref b :: st) := by
  have h := aw_callVi (As := [a1, a2, a3]) (wr := []) (e := e) (below := below) (Q := Q) (lv := lv) C hN hM cw hc hCn he rfl hcat hd hf (fun r u hp => by rw [List.append_nil]; exact kk r u hp)
  rw [List.append_nil] at h
  exact h
theorem cV3v {a1 : Value} {a2 : Value} {a3 : Value} {post : va_W → Prop} (C : cx p l s m args meth c cc nL ret Ts own G A H0) (hN : NX s) (hM : Mv l G y ws9 rm [.ref b, a1, a2, a3] wc post) (cw : CallW R s args own Cn index y bytes maxL rt ws9 rm 0 0 3) (hc : vwCl[ci]? = some rc) (hCn : rc.1 = Cn) (he : wc[q0]? = some (b, .inr (ci, fs))) (hcat : Nat.ble (st.map fun v => v.category).sum 8 = true) (hd : decode cc pc = .ok (.invokevirtual index, 3)) (hf : cells ≤ R.cells ∧ slots ≤ R.slots) (kk : ∀ (u : va_W), post u → AW p l e R s m args below meth c nL G A H0 cells slots Q u lv (pc + 3) st) : AW p l e R s m args below meth c nL G A H0 cells slots Q wc lv pc (a3 :: a2 :: a1 :: .ref b :: st) := by
  have h := aw_callVv (As := [a1, a2, a3]) (wr := []) (e := e) (below := below) (Q := Q) (lv := lv) C hN hM cw hc hCn he rfl hcat hd hf (fun u hp => by rw [List.append_nil]; exact kk u hp)
  rw [List.append_nil] at h
  exact h
theorem cS1i {a1 : Value} {post : Int → va_W → Prop} (C : cx p l s m args meth c cc nL ret Ts own G A H0) (hN : NX s) (hM : Mi l G y ws9 rm [a1] wc post) (cw : CallB R s args own index y bytes maxL rt ws9 rm 0 0 1 ∧ (Cond.static y).before args s = true) (hcat : Nat.ble (st.map fun v => v.category).sum 8 = true) (hd : decode cc pc = .ok (.invokestatic index, 3)) (hf : cells ≤ R.cells ∧ slots ≤ R.slots) (kk : ∀ (r : Int) (u : va_W), post r u → AW p l e R s m args below meth c nL G A H0 cells slots Q u lv (pc + 3) (.int (zI r) :: st)) : AW p l e R s m args below meth c nL G A H0 cells slots Q wc lv pc (a1 :: st) := by
  have h := aw_callSi (As := [a1]) (wr := []) (e := e) (below := below) (Q := Q) (lv := lv) C hN hM cw rfl hcat hd hf (fun r u hp => by rw [List.append_nil]; exact kk r u hp)
  rw [List.append_nil] at h
  exact h
theorem cS2i {a1 : Value} {a2 : Value} {post : Int → va_W → Prop} (C : cx p l s m args meth c cc nL ret Ts own G A H0) (hN : NX s) (hM : Mi l G y ws9 rm [a1, a2] wc post) (cw : CallB R s args own index y bytes maxL rt ws9 rm 0 0 2 ∧ (Cond.static y).before args s = true) (hcat : Nat.ble (st.map fun v => v.category).sum 8 = true) (hd : decode cc pc = .ok (.invokestatic index, 3)) (hf : cells ≤ R.cells ∧ slots ≤ R.slots) (kk : ∀ (r : Int) (u : va_W), post r u → AW p l e R s m args below meth c nL G A H0 cells slots Q u lv (pc + 3) (.int (zI r) :: st)) : AW p l e R s m args below meth c nL G A H0 cells slots Q wc lv pc (a2 :: a1 :: st) := by
  have h := aw_callSi (As := [a1, a2]) (wr := []) (e := e) (below := below) (Q := Q) (lv := lv) C hN hM cw rfl hcat hd hf (fun r u hp => by rw [List.append_nil]; exact kk r u hp)
  rw [List.append_nil] at h
  exact h
theorem cS3i {a1 : Value} {a2 : Value} {a3 : Value} {post : Int → va_W → Prop} (C : cx p l s m args meth c cc nL ret Ts own G A H0) (hN : NX s) (hM : Mi l G y ws9 rm [a1, a2, a3] wc post) (cw : CallB R s args own index y bytes maxL rt ws9 rm 0 0 3 ∧ (Cond.static y).before args s = true) (hcat : Nat.ble (st.map fun v => v.category).sum 8 = true) (hd : decode cc pc = .ok (.invokestatic index, 3)) (hf : cells ≤ R.cells ∧ slots ≤ R.slots) (kk : ∀ (r : Int) (u : va_W), post r u → AW p l e R s m args below meth c nL G A H0 cells slots Q u lv (pc + 3) (.int (zI r) :: st)) : AW p l e R s m args below meth c nL G A H0 cells slots Q wc lv pc (a3 :: a2 :: a1 :: st) := by
  have h := aw_callSi (As := [a1, a2, a3]) (wr := []) (e := e) (below := below) (Q := Q) (lv := lv) C hN hM cw rfl hcat hd hf (fun r u hp => by rw [List.append_nil]; exact kk r u hp)
  rw [List.append_nil] at h
  exact h
theorem cS5i {a1 : Value} {a2 : Value} {a3 : Value} {a4 : Value} {a5 : Value} {post : Int → va_W → Prop} (C : cx p l s m args meth c cc nL ret Ts own G A H0) (hN : NX s) (hM : Mi l G y ws9 rm [a1, a2, a3, a4, a5] wc post) (cw : CallB R s args own index y bytes maxL rt ws9 rm 0 0 5 ∧ (Cond.static y).before args s = true) (hcat : Nat.ble (st.map fun v => v.category).sum 8 = true) (hd : decode cc pc = .ok (.invokestatic index, 3)) (hf : cells ≤ R.cells ∧ slots ≤ R.slots) (kk : ∀ (r : Int) (u : va_W), post r u → AW p l e R s m args below meth c nL G A H0 cells slots Q u lv (pc + 3) (.int (zI r) :: st)) : AW p l e R s m args below meth c nL G A H0 cells slots Q wc lv pc (a5 :: a4 :: a3 :: a2 :: a1 :: st) := by
  have h := aw_callSi (As := [a1, a2, a3, a4, a5]) (wr := []) (e := e) (below := below) (Q := Q) (lv := lv) C hN hM cw rfl hcat hd hf (fun r u hp => by rw [List.append_nil]; exact kk r u hp)
  rw [List.append_nil] at h
  exact h
theorem cN2i {a1 a2 : Value} {post : Int → va_W → Prop} (C : cx p l s m args meth c cc nL ret Ts own G A H0) (hN : NX s) (hM : Mi l G y ws9 rm [a1, a2] wc post) (cw : va_CN R s args own index y host bytes maxL rt ws9 rm 0 0 2 ∧ (Cond.static y).before args s = true ∧ True) (hcat : Nat.ble (st.map fun v => v.category).sum 8 = true) (hd : decode cc pc = .ok (.invokestatic index, 3)) (hf : cells ≤ R.cells ∧ slots ≤ R.slots) (kk : ∀ (r : Int) (u : va_W), post r u → AW p l e R s m args below meth c nL G A H0 cells slots Q u lv (pc + 3) (.int (zI r) :: st)) : AW p l e R s m args below meth c nL G A H0 cells slots Q wc lv pc (a2 :: a1 :: st) := by
  have h := aw_callSNi (As := [a1, a2]) (wr := []) (e := e) (below := below) (Q := Q) (lv := lv) C hN hM cw rfl hcat hd hf (fun r u hp => by rw [List.append_nil]; exact kk r u hp)
  rw [List.append_nil] at h
  exact h
end AWD
end
section
/-! PURE WORDS of the class's small parts -/
/-- a row put in whole -/
def ur (S : St) (a : Nat) (g : Int → Int) : St := (S.1, fun b => match Nat.beq b a with
  | true => g
  | false => S.2 b)
theorem ur_s (S : St) (a : Nat) (g : Int → Int) : (ur S a g).2 a = g := by unfold ur; simp
theorem ur_n (S : St) (a : Nat) (g : Int → Int) {b : Nat} (h : b ≠ a) : (ur S a g).2 b = S.2 b := by
  unfold ur
  have : Nat.beq b a = false := nbeq h
  simp [this]
theorem ua_ur (S : St) (a : Nat) (g h : Int → Int) (i v : Int) (e : ∀ j, (if j = i then v else g j) = h j) : ua (ur S a g) a i v = ur S a h := by
  unfold ua ur
  refine congrArg (Prod.mk S.1) (funext fun b => ?_)
  cases hb : Nat.beq b a with
  | true => exact funext fun j => by simpa [hb] using e j
  | false => exact funext fun j => by simp [hb]
theorem ur_self (S : St) (a : Nat) : ur S a (S.2 a) = S := by
  unfold ur
  refine Prod.ext rfl (funext fun b => ?_)
  cases hb : Nat.beq b a with
  | true =>
    have e := Nat.eq_of_beq_eq_true hb
    subst e
    simp
  | false => simp [hb]
/-- a row whose head has gone: the places 1 .. n - 1 one ahead -/
def shf (f : Int → Int) (n : Int) : Int → Int := fun j => if 0 ≤ j ∧ j + 1 < n then f (j + 1) else f j
theorem shf_1 (f : Int → Int) : shf f 1 = f := funext fun j => if_neg (by omega)
theorem shf_step (f : Int → Int) (n : Int) (h : 1 ≤ n) (j : Int) : (if j = n - 1 then shf f n n else shf f n j) = shf f (n + 1) j := by
  unfold shf
  by_cases e : j = n - 1
  · subst e
    rw [if_pos rfl, if_neg (by omega), if_pos (by omega)]
    exact congrArg f (by omega)
  · rw [if_neg e]
    by_cases e2 : 0 ≤ j ∧ j + 1 < n
    · rw [if_pos e2, if_pos (by omega)]
    · rw [if_neg e2, if_neg (by omega)]
/-- the head of lane i taken out -/
def takeS (S : St) (i : Int) : St := ua (ur S (10 + i.toNat) (shf (S.2 (10 + i.toNat)) (S.2 0 i))) 0 i (S.2 0 i - 1)
/-- a body put behind lane i -/
def addS (S : St) (i b : Int) : St := ua (ua S (10 + i.toNat) (S.2 0 i) b) 0 i (S.2 0 i + 1)
/-- the body at a place of lane i, -1 if there is none -/
def atS (S : St) (i z : Int) : Int := if 0 ≤ z ∧ z < S.2 0 i then S.2 (10 + i.toNat) z else -1
/-- how many of the first n hold v -/
def cntN (f : Int → Int) (v : Int) : Nat → Int
  | 0 => 0
  | n + 1 => if f n = v then cntN f v n + 1 else cntN f v n
theorem cntN_b (f : Int → Int) (v : Int) : ∀ n : Nat, 0 ≤ cntN f v n ∧ cntN f v n ≤ n
  | 0 => ⟨Int.le_refl 0, Int.le_refl 0⟩
  | n + 1 => by
    have := cntN_b f v n
    unfold cntN
    split <;> omega
/-- the sum of the first n -/
def sumN (f : Int → Int) : Nat → Int
  | 0 => 0
  | n + 1 => sumN f n + f n
/-- what holds of every state that calls can reach -/
def Inv (S : St) : Prop := ((1 ≤ S.1 0 ∧ S.1 0 ≤ 5) ∧ (1 ≤ S.1 1 ∧ S.1 1 ≤ 6) ∧ (1 ≤ S.1 2 ∧ S.1 2 ≤ 6) ∧ (0 ≤ S.1 3 ∧ S.1 3 ≤ 2) ∧ (0 ≤ S.1 4 ∧ S.1 4 ≤ 2) ∧ (0 ≤ S.1 5 ∧ S.1 5 ≤ 99) ∧ (0 ≤ S.1 6 ∧ S.1 6 ≤ S.1 5) ∧ (0 ≤ S.1 7 ∧ S.1 7 < S.1 0) ∧ (-1 ≤ S.1 8 ∧ S.1 8 ≤ 4) ∧ (-1 ≤ S.1 11 ∧ S.1 11 < S.1 0)) ∧
  (∀ i : Int, 0 ≤ i → i < 5 → 0 ≤ S.2 0 i ∧ S.2 0 i ≤ S.1 1 ∧ (S.1 0 ≤ i → S.2 0 i = 0)) ∧
  (∀ i j : Int, 0 ≤ i → i < 5 → 0 ≤ j → j < S.2 0 i → 0 ≤ S.2 (10 + i.toNat) j ∧ S.2 (10 + i.toNat) j < S.1 5) ∧
  (∀ b : Int, 0 ≤ b → b < S.1 5 → 0 ≤ S.2 1 b ∧ S.2 1 b ≤ 4) ∧ (∀ b : Int, 0 ≤ b → b < S.1 5 → 0 ≤ S.2 2 b ∧ S.2 2 b ≤ 12) ∧
  (∀ q : Int, 0 ≤ q → q < S.1 6 → 0 ≤ S.2 3 q ∧ S.2 3 q < S.1 5 ∧ S.2 2 (S.2 3 q) = 12 ∧ S.2 4 (S.2 3 q) = q) ∧
  (∀ b : Int, 0 ≤ b → b < S.1 5 → S.2 2 b = 12 → 0 ≤ S.2 4 b ∧ S.2 4 b < S.1 6 ∧ S.2 3 (S.2 4 b) = b) ∧
  S.1 7 = (if S.1 11 + 1 < S.1 0 then S.1 11 + 1 else 0)
/-- the colour of a body, -1 if there is no such body -/
def colS (S : St) (b : Int) : Int := if 0 ≤ b ∧ b < S.1 5 then S.2 1 b else -1
theorem atS_b {S : St} (hI : Inv S) {i z : Int} (h0 : 0 ≤ i) (h5 : i < 5) : -1 ≤ atS S i z ∧ atS S i z < 99 := by
  obtain ⟨hn, hz, hr, -⟩ := hI
  unfold atS
  split
  · have := hr i z h0 h5 (by omega) (by omega)
    omega
  · omega
theorem colS_b {S : St} (hI : Inv S) (b : Int) : -1 ≤ colS S b ∧ colS S b ≤ 4 := by
  obtain ⟨hn, hz, hr, hc, -⟩ := hI
  unfold colS
  split
  · have := hc b (by omega) (by omega)
    omega
  · omega

set_option maxHeartbeats 4000000 in
set_option maxRecDepth 100000 in
theorem c_X0_count {l : Launch} {G : va_G × (Nat → ClassId)} {ad : Nat → Nat} {S P : St} {i : Int} (h0 : 0 ≤ i) (h5 : i < 5) : Mi l G yX0_count wsX0_count ({ frames := 0, cells := 0, slots := 0, locals := 0 } : Room) [.ref (ad (2 + i.toNat))] (WX G.2 ad S P) (fun r u => r = S.2 0 i ∧ u = (WX G.2 ad S P)) := by
  refine Mi.of (own := RX0) (cc := cX0_count) (maxL := 1) (ret := (some .int)) (by decide) rfl rfl rfl ?_
  intro p e s m args below meth c A C hN
  have hts := C.2.2.2.2.1
  have iFX0 : ∀ w ∈ u_ws RX0 TX0 2, w ∈ wsX0_count := by decide +kernel
  have k_15 := hts (.fieldLink RX0 15 "PaintSequencer$Lane" "size" "I") (by decide +kernel)
  refine aw_aload_n C dX0_count_0 rfl ?_
  refine aw_get  (k := 1) C iFX0 k_15 (wx_lane (by omega) (by omega)) rfl rfl rfl dX0_count_1 ?_
  exact aw_iret C dX0_count_4 ⟨rfl, rfl⟩
set_option maxHeartbeats 4000000 in
set_option maxRecDepth 100000 in
theorem c_X0_isEmpty {l : Launch} {G : va_G × (Nat → ClassId)} {ad : Nat → Nat} {S P : St} {i : Int} (h0 : 0 ≤ i) (h5 : i < 5) (hs : 0 ≤ S.2 0 i ∧ S.2 0 i ≤ 6) : Mi l G yX0_isEmpty wsX0_isEmpty ({ frames := 0, cells := 0, slots := 0, locals := 0 } : Room) [.ref (ad (2 + i.toNat))] (WX G.2 ad S P) (fun r u => r = (if S.2 0 i = 0 then 1 else 0) ∧ u = (WX G.2 ad S P)) := by
  refine Mi.of (own := RX0) (cc := cX0_isEmpty) (maxL := 1) (ret := (some .boolean)) (by decide) rfl rfl rfl ?_
  intro p e s m args below meth c A C hN
  have hts := C.2.2.2.2.1
  have iFX0 : ∀ w ∈ u_ws RX0 TX0 2, w ∈ wsX0_isEmpty := by decide +kernel
  have k_15 := hts (.fieldLink RX0 15 "PaintSequencer$Lane" "size" "I") (by decide +kernel)
  refine aw_aload_n C dX0_isEmpty_0 rfl ?_
  refine aw_get  (k := 1) C iFX0 k_15 (wx_lane (by omega) (by omega)) rfl rfl rfl dX0_isEmpty_1 ?_
  refine aw_if_ne (tgt := 11) C dX0_isEmpty_4 (by decide) (by omega) (fun c4 => ?_) (fun c4 => ?_)
  · refine aw_iconst C dX0_isEmpty_11 ?_
    exact aw_zret C dX0_isEmpty_12 rfl ⟨by first | rw [if_pos (by omega)] | rw [if_neg (by omega)], rfl⟩
  · refine aw_iconst C dX0_isEmpty_7 ?_
    refine aw_goto (tgt := 12) C dX0_isEmpty_8 (by decide) ?_
    exact aw_zret C dX0_isEmpty_12 rfl ⟨by first | rw [if_pos (by omega)] | rw [if_neg (by omega)], rfl⟩
set_option maxHeartbeats 4000000 in
set_option maxRecDepth 100000 in
theorem c_X0_at {l : Launch} {G : va_G × (Nat → ClassId)} {ad : Nat → Nat} {S P : St} {i : Int} (h0 : 0 ≤ i) (h5 : i < 5) {z : Int} (hs : 0 ≤ S.2 0 i ∧ S.2 0 i ≤ 6) (hz : -2147483648 ≤ z ∧ z < 2147483648) : Mi l G yX0_at wsX0_at ({ frames := 0, cells := 0, slots := 0, locals := 0 } : Room) [.ref (ad (2 + i.toNat)), .int (zI z)] (WX G.2 ad S P) (fun r u => r = atS S i z ∧ u = (WX G.2 ad S P)) := by
  refine Mi.of (own := RX0) (cc := cX0_at) (maxL := 2) (ret := (some .int)) (by decide) rfl rfl rfl ?_
  intro p e s m args below meth c A C hN
  have hts := C.2.2.2.2.1
  have iFX0 : ∀ w ∈ u_ws RX0 TX0 2, w ∈ wsX0_at := by decide +kernel
  have k_15 := hts (.fieldLink RX0 15 "PaintSequencer$Lane" "size" "I") (by decide +kernel)
  have k_9 := hts (.fieldLink RX0 9 "PaintSequencer$Lane" "row" "[I") (by decide +kernel)
  refine aw_iload_n C dX0_at_0 rfl ?_
  refine aw_if_lt (tgt := 21) C dX0_at_1 (by decide) (by omega) (fun c1 => ?_) (fun c1 => ?_)
  · refine aw_iconst C dX0_at_21 ?_
    exact aw_iret C dX0_at_22 ⟨by unfold atS; first | rw [if_pos (by omega)] | rw [if_neg (by omega)], rfl⟩
  · refine aw_iload_n C dX0_at_4 rfl ?_
    refine aw_aload_n C dX0_at_5 rfl ?_
    refine aw_get  (k := 1) C iFX0 k_15 (wx_lane (by omega) (by omega)) rfl rfl rfl dX0_at_6 ?_
    refine aw_icmp_ge (tgt := 21) C dX0_at_9 (by decide) (by omega) (by omega) (fun c9 => ?_) (fun c9 => ?_)
    · refine aw_iconst C dX0_at_21 ?_
      exact aw_iret C dX0_at_22 ⟨by unfold atS; first | rw [if_pos (by omega)] | rw [if_neg (by omega)], rfl⟩
    · refine aw_aload_n C dX0_at_12 rfl ?_
      refine aw_get  (k := 0) C iFX0 k_9 (wx_lane (by omega) (by omega)) rfl rfl rfl dX0_at_13 ?_
      refine aw_iload_n C dX0_at_16 rfl ?_
      refine aw_ldI  C (wx_row (by omega) (by omega)) (by omega) (by omega) rfl dX0_at_17 ?_
      refine aw_goto (tgt := 22) C dX0_at_18 (by decide) ?_
      exact aw_iret C dX0_at_22 ⟨by unfold atS; first | rw [if_pos (by omega)] | rw [if_neg (by omega)], rfl⟩
set_option maxHeartbeats 4000000 in
set_option maxRecDepth 100000 in
theorem c_X0_add {l : Launch} {G : va_G × (Nat → ClassId)} {ad : Nat → Nat} {S P : St} {i : Int} (h0 : 0 ≤ i) (h5 : i < 5) {z : Int} (hs : 0 ≤ S.2 0 i ∧ S.2 0 i < 6) : Mv l G yX0_add wsX0_add ({ frames := 0, cells := 0, slots := 0, locals := 0 } : Room) [.ref (ad (2 + i.toNat)), .int (zI z)] (WX G.2 ad S P) (fun u => u = WX G.2 ad (addS S i z) P) := by
  refine Mv.of (own := RX0) (cc := cX0_add) (maxL := 2) (ret := none) (by decide) rfl rfl rfl ?_
  intro p e s m args below meth c A C hN
  have hts := C.2.2.2.2.1
  have iFX0 : ∀ w ∈ u_ws RX0 TX0 2, w ∈ wsX0_add := by decide +kernel
  have k_15 := hts (.fieldLink RX0 15 "PaintSequencer$Lane" "size" "I") (by decide +kernel)
  have k_9 := hts (.fieldLink RX0 9 "PaintSequencer$Lane" "row" "[I") (by decide +kernel)
  refine aw_aload_n C dX0_add_0 rfl ?_
  refine aw_get  (k := 1) C iFX0 k_15 (wx_lane (by omega) (by omega)) rfl rfl rfl dX0_add_1 ?_
  refine aw_bipush C dX0_add_4 rfl ?_
  refine aw_icmp_ge (tgt := 29) C dX0_add_6 (by decide) (by omega) (by omega) (fun c6 => ?_) (fun c6 => ?_)
  · exfalso
    omega
  · refine aw_aload_n C dX0_add_9 rfl ?_
    refine aw_get  (k := 0) C iFX0 k_9 (wx_lane (by omega) (by omega)) rfl rfl rfl dX0_add_10 ?_
    refine aw_aload_n C dX0_add_13 rfl ?_
    refine aw_get  (k := 1) C iFX0 k_15 (wx_lane (by omega) (by omega)) rfl rfl rfl dX0_add_14 ?_
    refine aw_iload_n C dX0_add_17 rfl ?_
    refine aw_stI  C (wx_row (by omega) (by omega)) (by omega) (by omega) rfl (wx_row_set (by omega) (by omega)) dX0_add_18 ?_
    refine aw_aload_n C dX0_add_19 rfl ?_
    refine aw_dup C dX0_add_20 rfl ?_
    refine aw_get  (k := 1) C iFX0 k_15 (wx_lane (by omega) (by omega)) rfl rfl rfl dX0_add_21 ?_
    refine aw_iconst C dX0_add_24 ?_
    refine aw_iadd C dX0_add_25 ?_
    refine aw_put  (k := 1) C iFX0 tyX0_ok nmX0 k_15 (wx_lane (by omega) (by omega)) rfl rfl rfl rfl rfl (wx_lane_set (by omega) (by omega)) dX0_add_26 ?_
    exact aw_vret C dX0_add_29 (by unfold addS; rw [ua_n _ _ _ _ _ (by omega)])
set_option maxHeartbeats 4000000 in
set_option maxRecDepth 100000 in
theorem c_X0_clear {l : Launch} {G : va_G × (Nat → ClassId)} {ad : Nat → Nat} {S P : St} {i : Int} (h0 : 0 ≤ i) (h5 : i < 5) : Mv l G yX0_clear wsX0_clear ({ frames := 0, cells := 0, slots := 0, locals := 0 } : Room) [.ref (ad (2 + i.toNat))] (WX G.2 ad S P) (fun u => u = WX G.2 ad (ua S 0 i 0) P) := by
  refine Mv.of (own := RX0) (cc := cX0_clear) (maxL := 1) (ret := none) (by decide) rfl rfl rfl ?_
  intro p e s m args below meth c A C hN
  have hts := C.2.2.2.2.1
  have iFX0 : ∀ w ∈ u_ws RX0 TX0 2, w ∈ wsX0_clear := by decide +kernel
  have k_15 := hts (.fieldLink RX0 15 "PaintSequencer$Lane" "size" "I") (by decide +kernel)
  refine aw_aload_n C dX0_clear_0 rfl ?_
  refine aw_iconst C dX0_clear_1 ?_
  refine aw_put  (k := 1) C iFX0 tyX0_ok nmX0 k_15 (wx_lane (by omega) (by omega)) rfl rfl rfl rfl rfl (wx_lane_set (by omega) (by omega)) dX0_clear_2 ?_
  exact aw_vret C dX0_clear_5 rfl
set_option maxHeartbeats 4000000 in
set_option maxRecDepth 100000 in
theorem c_X0_takeHead {l : Launch} {G : va_G × (Nat → ClassId)} {ad : Nat → Nat} {S P : St} {i : Int} (h0 : 0 ≤ i) (h5 : i < 5) (hs : 0 < S.2 0 i ∧ S.2 0 i ≤ 6) : Mi l G yX0_takeHead wsX0_takeHead ({ frames := 1, cells := 0, slots := 0, locals := 21 } : Room) [.ref (ad (2 + i.toNat))] (WX G.2 ad S P) (fun r u => r = atS S i 0 ∧ u = WX G.2 ad (takeS S i) P) := by
  refine Mi.of (own := RX0) (cc := cX0_takeHead) (maxL := 3) (ret := (some .int)) (by decide) rfl rfl rfl ?_
  intro p e s m args below meth c A C hN
  have hts := C.2.2.2.2.1
  have iFX0 : ∀ w ∈ u_ws RX0 TX0 2, w ∈ wsX0_takeHead := by decide +kernel
  have k_15 := hts (.fieldLink RX0 15 "PaintSequencer$Lane" "size" "I") (by decide +kernel)
  have k_9 := hts (.fieldLink RX0 9 "PaintSequencer$Lane" "row" "[I") (by decide +kernel)
  have lp : ∀ (n : Nat) (q : Int), 1 ≤ q → q ≤ S.2 0 i → S.2 0 i - q < n → AW p l e (headSpec wsX0_takeHead ({ frames := 1, cells := 0, slots := 0, locals := 21 } : Room)).room s m args below meth c 3 G A s.heap 0 0 (MQ below (QPi G (fun r u => r = atS S i 0 ∧ u = WX G.2 ad (takeS S i) P) A) args s 0 0 A) (WX G.2 ad (ur S (10 + i.toNat) (shf (S.2 (10 + i.toNat)) q)) P) [(0, .ref (ad (2 + i.toNat))), (1, .int (zI (atS S i 0))), (2, .int (zI q))] 8 [] := by
    intro n
    induction n with
    | zero =>
      intro q h1 h2 h3
      exfalso
      omega
    | succ n ih =>
      intro q h1 h2 h3
      have e1 : (ur S (10 + i.toNat) (shf (S.2 (10 + i.toNat)) q)).2 0 i = S.2 0 i := by rw [ur_n _ _ _ (by omega)]
      refine aw_iload_n C dX0_takeHead_8 rfl ?_
      refine aw_aload_n C dX0_takeHead_9 rfl ?_
      refine aw_get  (k := 1) C iFX0 k_15 (wx_lane (by omega) (by omega)) rfl rfl rfl dX0_takeHead_10 ?_
      refine aw_icmp_ge (tgt := 36) C dX0_takeHead_13 (by decide) (by omega) (by omega) (fun c13 => ?_) (fun c13 => ?_)
      · refine aw_aload_n C dX0_takeHead_36 rfl ?_
        refine aw_aload_n C dX0_takeHead_37 rfl ?_
        refine aw_get  (k := 1) C iFX0 k_15 (wx_lane (by omega) (by omega)) rfl rfl rfl dX0_takeHead_38 ?_
        refine aw_if_le (tgt := 53) C dX0_takeHead_41 (by decide) (by omega) (fun c41 => ?_) (fun c41 => ?_)
        · exfalso
          omega
        · refine aw_aload_n C dX0_takeHead_44 rfl ?_
          refine aw_get  (k := 1) C iFX0 k_15 (wx_lane (by omega) (by omega)) rfl rfl rfl dX0_takeHead_45 ?_
          refine aw_iconst C dX0_takeHead_48 ?_
          refine aw_isub C dX0_takeHead_49 ?_
          refine aw_goto (tgt := 54) C dX0_takeHead_50 (by decide) ?_
          refine aw_put  (k := 1) C iFX0 tyX0_ok nmX0 k_15 (wx_lane (by omega) (by omega)) rfl rfl rfl rfl rfl (wx_lane_set (by omega) (by omega)) dX0_takeHead_54 ?_
          refine aw_iload_n C dX0_takeHead_57 rfl ?_
          exact aw_iret C dX0_takeHead_58 ⟨rfl, by
            have e3 : q = S.2 0 i := by omega
            subst e3
            unfold takeS
            rw [e1]⟩
      · refine aw_aload_n C dX0_takeHead_16 rfl ?_
        refine aw_get  (k := 0) C iFX0 k_9 (wx_lane (by omega) (by omega)) rfl rfl rfl dX0_takeHead_17 ?_
        refine aw_iload_n C dX0_takeHead_20 rfl ?_
        refine aw_iconst C dX0_takeHead_21 ?_
        refine aw_isub C dX0_takeHead_22 ?_
        refine aw_aload_n C dX0_takeHead_23 rfl ?_
        refine aw_get  (k := 0) C iFX0 k_9 (wx_lane (by omega) (by omega)) rfl rfl rfl dX0_takeHead_24 ?_
        refine aw_iload_n C dX0_takeHead_27 rfl ?_
        refine aw_ldI  C (wx_row (by omega) (by omega)) (by omega) (by omega) rfl dX0_takeHead_28 ?_
        refine aw_stI  C (wx_row (by omega) (by omega)) (by omega) (by omega) rfl (wx_row_set (by omega) (by omega)) dX0_takeHead_29 ?_
        refine aw_iinc C dX0_takeHead_30 rfl rfl rfl ?_
        refine aw_goto (tgt := 8) C dX0_takeHead_33 (by decide) ?_
        have e2 := ua_ur S (10 + i.toNat) (shf (S.2 (10 + i.toNat)) q) (shf (S.2 (10 + i.toNat)) (q + 1)) (q - 1) ((ur S (10 + i.toNat) (shf (S.2 (10 + i.toNat)) q)).2 (10 + i.toNat) q) (fun j => by rw [ur_s]; exact shf_step _ q h1 j)
        rw [e2]
        exact ih (q + 1) (by omega) (by omega) (by omega)
  refine aw_aload_n C dX0_takeHead_0 rfl ?_
  refine aw_iconst C dX0_takeHead_1 ?_
  refine cV1i (ci := 0)  C hN (c_X0_at h0 h5 (by omega) (by omega)) (cwV 1 hts gX0_takeHead_X0_at rfl rfl rfl (by decide +kernel) ⟨Nat.le_of_ble_eq_true rfl, Nat.le_of_ble_eq_true rfl⟩) rfl rfl (wx_lane (by omega) (by omega)) rfl dX0_takeHead_2 ⟨Nat.zero_le _, Nat.zero_le _⟩ (fun r2 u2 q2 => ?_)
  obtain ⟨rfl, rfl⟩ := q2
  refine aw_istore_n C dX0_takeHead_5 rfl rfl ?_
  refine aw_iconst C dX0_takeHead_6 ?_
  refine aw_istore_n C dX0_takeHead_7 rfl rfl ?_
  have h1 := lp 7 1 (by omega) (by omega) (by omega)
  rw [shf_1, ur_self] at h1
  exact h1
end
section
set_option maxRecDepth 20000 in
theorem ggX2_init_X0_init : GoodIn wsX2_init wsX0_init := goodIn_r _ [22, 23, 2, 3, 8, 24, 52, 53] (by decide +kernel) (by decide +kernel)
set_option maxRecDepth 20000 in
theorem gX2_init_X0_init_n15 : GoodIn wsX2_init (wsX0_init) := ggX2_init_X0_init
set_option maxRecDepth 20000 in
theorem ggX2_init_X1_init : GoodIn wsX2_init wsX1_init := goodIn_r _ [26, 27, 2, 3, 28, 8, 29, 30, 31, 32, 33, 34, 54, 55, 56, 57, 58, 59] (by decide +kernel) (by decide +kernel)
set_option maxRecDepth 20000 in
theorem gX2_init_X1_init_n31 : GoodIn wsX2_init (wsX1_init) := ggX2_init_X1_init
theorem dX2_init_0 : decode cX2_init 0 = .ok (.aload_n 0, 1) := by decide +kernel
theorem dX2_init_1 : decode cX2_init 1 = .ok (.invokespecial 1, 3) := by decide +kernel
theorem dX2_init_4 : decode cX2_init 4 = .ok (.aload_n 0, 1) := by decide +kernel
theorem dX2_init_5 : decode cX2_init 5 = .ok (.iconst 5, 1) := by decide +kernel
theorem dX2_init_6 : decode cX2_init 6 = .ok (.anewarray 9, 3) := by decide +kernel
theorem dX2_init_9 : decode cX2_init 9 = .ok (.putfield 11, 3) := by decide +kernel
theorem dX2_init_12 : decode cX2_init 12 = .ok (.iconst 0, 1) := by decide +kernel
theorem dX2_init_13 : decode cX2_init 13 = .ok (.istore_n 1, 1) := by decide +kernel
theorem dX2_init_14 : decode cX2_init 14 = .ok (.iload_n 1, 1) := by decide +kernel
theorem dX2_init_15 : decode cX2_init 15 = .ok (.iconst 5, 1) := by decide +kernel
theorem dX2_init_16 : decode cX2_init 16 = .ok (.if_icmp .ge 22, 3) := by decide +kernel
theorem dX2_init_19 : decode cX2_init 19 = .ok (.aload_n 0, 1) := by decide +kernel
theorem dX2_init_20 : decode cX2_init 20 = .ok (.getfield 11, 3) := by decide +kernel
theorem dX2_init_23 : decode cX2_init 23 = .ok (.iload_n 1, 1) := by decide +kernel
theorem dX2_init_24 : decode cX2_init 24 = .ok (.new 9, 3) := by decide +kernel
theorem dX2_init_27 : decode cX2_init 27 = .ok (.dup, 1) := by decide +kernel
theorem dX2_init_28 : decode cX2_init 28 = .ok (.invokespecial 15, 3) := by decide +kernel
theorem dX2_init_31 : decode cX2_init 31 = .ok (.aastore, 1) := by decide +kernel
theorem dX2_init_32 : decode cX2_init 32 = .ok (.iinc 1 1, 3) := by decide +kernel
theorem dX2_init_35 : decode cX2_init 35 = .ok (.goto (-21), 3) := by decide +kernel
theorem dX2_init_38 : decode cX2_init 38 = .ok (.aload_n 0, 1) := by decide +kernel
theorem dX2_init_39 : decode cX2_init 39 = .ok (.bipush 99, 2) := by decide +kernel
theorem dX2_init_41 : decode cX2_init 41 = .ok (.newarray .int, 2) := by decide +kernel
theorem dX2_init_43 : decode cX2_init 43 = .ok (.putfield 16, 3) := by decide +kernel
theorem dX2_init_46 : decode cX2_init 46 = .ok (.aload_n 0, 1) := by decide +kernel
theorem dX2_init_47 : decode cX2_init 47 = .ok (.bipush 99, 2) := by decide +kernel
theorem dX2_init_49 : decode cX2_init 49 = .ok (.newarray .int, 2) := by decide +kernel
theorem dX2_init_51 : decode cX2_init 51 = .ok (.putfield 20, 3) := by decide +kernel
theorem dX2_init_54 : decode cX2_init 54 = .ok (.aload_n 0, 1) := by decide +kernel
theorem dX2_init_55 : decode cX2_init 55 = .ok (.bipush 99, 2) := by decide +kernel
theorem dX2_init_57 : decode cX2_init 57 = .ok (.newarray .int, 2) := by decide +kernel
theorem dX2_init_59 : decode cX2_init 59 = .ok (.putfield 23, 3) := by decide +kernel
theorem dX2_init_62 : decode cX2_init 62 = .ok (.aload_n 0, 1) := by decide +kernel
theorem dX2_init_63 : decode cX2_init 63 = .ok (.bipush 99, 2) := by decide +kernel
theorem dX2_init_65 : decode cX2_init 65 = .ok (.newarray .int, 2) := by decide +kernel
theorem dX2_init_67 : decode cX2_init 67 = .ok (.putfield 26, 3) := by decide +kernel
theorem dX2_init_70 : decode cX2_init 70 = .ok (.aload_n 0, 1) := by decide +kernel
theorem dX2_init_71 : decode cX2_init 71 = .ok (.new 29, 3) := by decide +kernel
theorem dX2_init_74 : decode cX2_init 74 = .ok (.dup, 1) := by decide +kernel
theorem dX2_init_75 : decode cX2_init 75 = .ok (.invokespecial 31, 3) := by decide +kernel
theorem dX2_init_78 : decode cX2_init 78 = .ok (.putfield 32, 3) := by decide +kernel
theorem dX2_init_81 : decode cX2_init 81 = .ok (.aload_n 0, 1) := by decide +kernel
theorem dX2_init_82 : decode cX2_init 82 = .ok (.iconst 3, 1) := by decide +kernel
theorem dX2_init_83 : decode cX2_init 83 = .ok (.putfield 36, 3) := by decide +kernel
theorem dX2_init_86 : decode cX2_init 86 = .ok (.aload_n 0, 1) := by decide +kernel
theorem dX2_init_87 : decode cX2_init 87 = .ok (.iconst 4, 1) := by decide +kernel
theorem dX2_init_88 : decode cX2_init 88 = .ok (.putfield 40, 3) := by decide +kernel
theorem dX2_init_91 : decode cX2_init 91 = .ok (.aload_n 0, 1) := by decide +kernel
theorem dX2_init_92 : decode cX2_init 92 = .ok (.iconst 3, 1) := by decide +kernel
theorem dX2_init_93 : decode cX2_init 93 = .ok (.putfield 43, 3) := by decide +kernel
theorem dX2_init_96 : decode cX2_init 96 = .ok (.aload_n 0, 1) := by decide +kernel
theorem dX2_init_97 : decode cX2_init 97 = .ok (.iconst (-1), 1) := by decide +kernel
theorem dX2_init_98 : decode cX2_init 98 = .ok (.putfield 46, 3) := by decide +kernel
theorem dX2_init_101 : decode cX2_init 101 = .ok (.return_, 1) := by decide +kernel
set_option maxRecDepth 20000 in
theorem ggX2_begin_X2_forgetBodies : GoodIn wsX2_begin wsX2_forgetBodies := goodIn_r _ [11, 12, 3, 13, 14, 15, 16, 17, 18, 19, 20, 21, 22, 23, 24, 25, 26, 27, 28, 29, 30, 31, 32, 33, 34, 35, 36, 37, 38, 39, 40, 41, 42] (by decide +kernel) (by decide +kernel)
set_option maxRecDepth 20000 in
theorem gX2_begin_X2_forgetBodies : GoodIn wsX2_begin (wsV RX2 63 RX2 yX2_forgetBodies wsX2_forgetBodies) := goodIn_app (goodIn_of _ (by decide +kernel)) ggX2_begin_X2_forgetBodies
theorem dX2_begin_0 : decode cX2_begin 0 = .ok (.iload_n 1, 1) := by decide +kernel
theorem dX2_begin_1 : decode cX2_begin 1 = .ok (.iconst 1, 1) := by decide +kernel
theorem dX2_begin_2 : decode cX2_begin 2 = .ok (.if_icmp .lt 8, 3) := by decide +kernel
theorem dX2_begin_5 : decode cX2_begin 5 = .ok (.iload_n 1, 1) := by decide +kernel
theorem dX2_begin_6 : decode cX2_begin 6 = .ok (.iconst 5, 1) := by decide +kernel
theorem dX2_begin_7 : decode cX2_begin 7 = .ok (.if_icmp .le 13, 3) := by decide +kernel
theorem dX2_begin_10 : decode cX2_begin 10 = .ok (.new 49, 3) := by decide +kernel
theorem dX2_begin_13 : decode cX2_begin 13 = .ok (.dup, 1) := by decide +kernel
theorem dX2_begin_14 : decode cX2_begin 14 = .ok (.ldc 51, 2) := by decide +kernel
theorem dX2_begin_16 : decode cX2_begin 16 = .ok (.invokespecial 53, 3) := by decide +kernel
theorem dX2_begin_19 : decode cX2_begin 19 = .ok (.athrow, 1) := by decide +kernel
theorem dX2_begin_20 : decode cX2_begin 20 = .ok (.iload_n 2, 1) := by decide +kernel
theorem dX2_begin_21 : decode cX2_begin 21 = .ok (.iconst 1, 1) := by decide +kernel
theorem dX2_begin_22 : decode cX2_begin 22 = .ok (.if_icmp .lt 9, 3) := by decide +kernel
theorem dX2_begin_25 : decode cX2_begin 25 = .ok (.iload_n 2, 1) := by decide +kernel
theorem dX2_begin_26 : decode cX2_begin 26 = .ok (.bipush 6, 2) := by decide +kernel
theorem dX2_begin_28 : decode cX2_begin 28 = .ok (.if_icmp .le 13, 3) := by decide +kernel
theorem dX2_begin_31 : decode cX2_begin 31 = .ok (.new 49, 3) := by decide +kernel
theorem dX2_begin_34 : decode cX2_begin 34 = .ok (.dup, 1) := by decide +kernel
theorem dX2_begin_35 : decode cX2_begin 35 = .ok (.ldc 56, 2) := by decide +kernel
theorem dX2_begin_37 : decode cX2_begin 37 = .ok (.invokespecial 53, 3) := by decide +kernel
theorem dX2_begin_40 : decode cX2_begin 40 = .ok (.athrow, 1) := by decide +kernel
theorem dX2_begin_41 : decode cX2_begin 41 = .ok (.iload_n 3, 1) := by decide +kernel
theorem dX2_begin_42 : decode cX2_begin 42 = .ok (.iconst 1, 1) := by decide +kernel
theorem dX2_begin_43 : decode cX2_begin 43 = .ok (.if_icmp .lt 9, 3) := by decide +kernel
theorem dX2_begin_46 : decode cX2_begin 46 = .ok (.iload_n 3, 1) := by decide +kernel
theorem dX2_begin_47 : decode cX2_begin 47 = .ok (.bipush 6, 2) := by decide +kernel
theorem dX2_begin_49 : decode cX2_begin 49 = .ok (.if_icmp .le 13, 3) := by decide +kernel
theorem dX2_begin_52 : decode cX2_begin 52 = .ok (.new 49, 3) := by decide +kernel
theorem dX2_begin_55 : decode cX2_begin 55 = .ok (.dup, 1) := by decide +kernel
theorem dX2_begin_56 : decode cX2_begin 56 = .ok (.ldc 58, 2) := by decide +kernel
theorem dX2_begin_58 : decode cX2_begin 58 = .ok (.invokespecial 53, 3) := by decide +kernel
theorem dX2_begin_61 : decode cX2_begin 61 = .ok (.athrow, 1) := by decide +kernel
theorem dX2_begin_62 : decode cX2_begin 62 = .ok (.aload_n 0, 1) := by decide +kernel
theorem dX2_begin_63 : decode cX2_begin 63 = .ok (.getfield 60, 3) := by decide +kernel
theorem dX2_begin_66 : decode cX2_begin 66 = .ok (.istore 4, 2) := by decide +kernel
theorem dX2_begin_68 : decode cX2_begin 68 = .ok (.aload_n 0, 1) := by decide +kernel
theorem dX2_begin_69 : decode cX2_begin 69 = .ok (.iload_n 1, 1) := by decide +kernel
theorem dX2_begin_70 : decode cX2_begin 70 = .ok (.putfield 36, 3) := by decide +kernel
theorem dX2_begin_73 : decode cX2_begin 73 = .ok (.aload_n 0, 1) := by decide +kernel
theorem dX2_begin_74 : decode cX2_begin 74 = .ok (.iload_n 2, 1) := by decide +kernel
theorem dX2_begin_75 : decode cX2_begin 75 = .ok (.putfield 40, 3) := by decide +kernel
theorem dX2_begin_78 : decode cX2_begin 78 = .ok (.aload_n 0, 1) := by decide +kernel
theorem dX2_begin_79 : decode cX2_begin 79 = .ok (.iload_n 3, 1) := by decide +kernel
theorem dX2_begin_80 : decode cX2_begin 80 = .ok (.putfield 43, 3) := by decide +kernel
theorem dX2_begin_83 : decode cX2_begin 83 = .ok (.aload_n 0, 1) := by decide +kernel
theorem dX2_begin_84 : decode cX2_begin 84 = .ok (.invokevirtual 63, 3) := by decide +kernel
theorem dX2_begin_87 : decode cX2_begin 87 = .ok (.iload 4, 2) := by decide +kernel
theorem dX2_begin_89 : decode cX2_begin 89 = .ok (.ireturn, 1) := by decide +kernel
set_option maxRecDepth 20000 in
theorem ggX2_arriveIn_X2_isColour : GoodIn wsX2_arriveIn wsX2_isColour := goodIn_r _ [11] (by decide +kernel) (by decide +kernel)
set_option maxRecDepth 20000 in
theorem gX2_arriveIn_X2_isColour : GoodIn wsX2_arriveIn (va_wsS RX2 76 yX2_isColour wsX2_isColour) := goodIn_app (goodIn_of _ (by decide +kernel)) ggX2_arriveIn_X2_isColour
set_option maxRecDepth 20000 in
theorem ggX2_arriveIn_X2_isLane : GoodIn wsX2_arriveIn wsX2_isLane := goodIn_r _ [15, 16, 49, 50, 51, 52, 53, 54, 55, 56, 57, 58, 59, 60, 61, 62, 63, 64, 65] (by decide +kernel) (by decide +kernel)
set_option maxRecDepth 20000 in
theorem gX2_arriveIn_X2_isLane : GoodIn wsX2_arriveIn (wsV RX2 100 RX2 yX2_isLane wsX2_isLane) := goodIn_app (goodIn_of _ (by decide +kernel)) ggX2_arriveIn_X2_isLane
set_option maxRecDepth 20000 in
theorem ggX2_arriveIn_X2_hasRoom : GoodIn wsX2_arriveIn wsX2_hasRoom := goodIn_r _ [20, 21, 22, 23, 24, 25, 26, 27, 28, 49, 50, 51, 52, 53, 54, 55, 56, 57, 58, 59, 60, 61, 62, 63, 64, 65, 66, 67] (by decide +kernel) (by decide +kernel)
set_option maxRecDepth 20000 in
theorem gX2_arriveIn_X2_hasRoom : GoodIn wsX2_arriveIn (wsV RX2 108 RX2 yX2_hasRoom wsX2_hasRoom) := goodIn_app (goodIn_of _ (by decide +kernel)) ggX2_arriveIn_X2_hasRoom
set_option maxRecDepth 20000 in
theorem ggX2_arriveIn_X2_newBody : GoodIn wsX2_arriveIn wsX2_newBody := goodIn_r _ [32, 7, 33, 49, 50, 51, 52, 53, 54, 55, 56, 57, 58, 59, 60, 61, 62, 63, 64, 65] (by decide +kernel) (by decide +kernel)
set_option maxRecDepth 20000 in
theorem gX2_arriveIn_X2_newBody : GoodIn wsX2_arriveIn (wsV RX2 93 RX2 yX2_newBody wsX2_newBody) := goodIn_app (goodIn_of _ (by decide +kernel)) ggX2_arriveIn_X2_newBody
set_option maxRecDepth 20000 in
theorem ggX2_arriveIn_X2_putInto : GoodIn wsX2_arriveIn wsX2_putInto := goodIn_r _ [37, 21, 38, 39, 40, 41, 42, 26, 43, 28, 44, 45, 46, 47, 10, 48, 16, 49, 50, 51, 52, 53, 54, 55, 56, 57, 58, 59, 60, 61, 62, 63, 64, 65, 66, 67] (by decide +kernel) (by decide +kernel)
set_option maxRecDepth 20000 in
theorem gX2_arriveIn_X2_putInto : GoodIn wsX2_arriveIn (wsV RX2 96 RX2 yX2_putInto wsX2_putInto) := goodIn_app (goodIn_of _ (by decide +kernel)) ggX2_arriveIn_X2_putInto
theorem dX2_arriveIn_0 : decode cX2_arriveIn 0 = .ok (.iload_n 1, 1) := by decide +kernel
theorem dX2_arriveIn_1 : decode cX2_arriveIn 1 = .ok (.invokestatic 76, 3) := by decide +kernel
theorem dX2_arriveIn_4 : decode cX2_arriveIn 4 = .ok (.ifCond .ne 13, 3) := by decide +kernel
theorem dX2_arriveIn_7 : decode cX2_arriveIn 7 = .ok (.new 49, 3) := by decide +kernel
theorem dX2_arriveIn_10 : decode cX2_arriveIn 10 = .ok (.dup, 1) := by decide +kernel
theorem dX2_arriveIn_11 : decode cX2_arriveIn 11 = .ok (.ldc 80, 2) := by decide +kernel
theorem dX2_arriveIn_13 : decode cX2_arriveIn 13 = .ok (.invokespecial 53, 3) := by decide +kernel
theorem dX2_arriveIn_16 : decode cX2_arriveIn 16 = .ok (.athrow, 1) := by decide +kernel
theorem dX2_arriveIn_17 : decode cX2_arriveIn 17 = .ok (.aload_n 0, 1) := by decide +kernel
theorem dX2_arriveIn_18 : decode cX2_arriveIn 18 = .ok (.iload_n 2, 1) := by decide +kernel
theorem dX2_arriveIn_19 : decode cX2_arriveIn 19 = .ok (.invokevirtual 100, 3) := by decide +kernel
theorem dX2_arriveIn_22 : decode cX2_arriveIn 22 = .ok (.ifCond .ne 13, 3) := by decide +kernel
theorem dX2_arriveIn_25 : decode cX2_arriveIn 25 = .ok (.new 103, 3) := by decide +kernel
theorem dX2_arriveIn_28 : decode cX2_arriveIn 28 = .ok (.dup, 1) := by decide +kernel
theorem dX2_arriveIn_29 : decode cX2_arriveIn 29 = .ok (.ldc 105, 2) := by decide +kernel
theorem dX2_arriveIn_31 : decode cX2_arriveIn 31 = .ok (.invokespecial 107, 3) := by decide +kernel
theorem dX2_arriveIn_34 : decode cX2_arriveIn 34 = .ok (.athrow, 1) := by decide +kernel
theorem dX2_arriveIn_35 : decode cX2_arriveIn 35 = .ok (.aload_n 0, 1) := by decide +kernel
theorem dX2_arriveIn_36 : decode cX2_arriveIn 36 = .ok (.getfield 60, 3) := by decide +kernel
theorem dX2_arriveIn_39 : decode cX2_arriveIn 39 = .ok (.bipush 99, 2) := by decide +kernel
theorem dX2_arriveIn_41 : decode cX2_arriveIn 41 = .ok (.if_icmp .lt 13, 3) := by decide +kernel
theorem dX2_arriveIn_44 : decode cX2_arriveIn 44 = .ok (.new 82, 3) := by decide +kernel
theorem dX2_arriveIn_47 : decode cX2_arriveIn 47 = .ok (.dup, 1) := by decide +kernel
theorem dX2_arriveIn_48 : decode cX2_arriveIn 48 = .ok (.ldc 84, 2) := by decide +kernel
theorem dX2_arriveIn_50 : decode cX2_arriveIn 50 = .ok (.invokespecial 86, 3) := by decide +kernel
theorem dX2_arriveIn_53 : decode cX2_arriveIn 53 = .ok (.athrow, 1) := by decide +kernel
theorem dX2_arriveIn_54 : decode cX2_arriveIn 54 = .ok (.aload_n 0, 1) := by decide +kernel
theorem dX2_arriveIn_55 : decode cX2_arriveIn 55 = .ok (.iload_n 2, 1) := by decide +kernel
theorem dX2_arriveIn_56 : decode cX2_arriveIn 56 = .ok (.invokevirtual 108, 3) := by decide +kernel
theorem dX2_arriveIn_59 : decode cX2_arriveIn 59 = .ok (.ifCond .ne 13, 3) := by decide +kernel
theorem dX2_arriveIn_62 : decode cX2_arriveIn 62 = .ok (.new 82, 3) := by decide +kernel
theorem dX2_arriveIn_65 : decode cX2_arriveIn 65 = .ok (.dup, 1) := by decide +kernel
theorem dX2_arriveIn_66 : decode cX2_arriveIn 66 = .ok (.ldc 111, 2) := by decide +kernel
theorem dX2_arriveIn_68 : decode cX2_arriveIn 68 = .ok (.invokespecial 86, 3) := by decide +kernel
theorem dX2_arriveIn_71 : decode cX2_arriveIn 71 = .ok (.athrow, 1) := by decide +kernel
theorem dX2_arriveIn_72 : decode cX2_arriveIn 72 = .ok (.aload_n 0, 1) := by decide +kernel
theorem dX2_arriveIn_73 : decode cX2_arriveIn 73 = .ok (.iload_n 1, 1) := by decide +kernel
theorem dX2_arriveIn_74 : decode cX2_arriveIn 74 = .ok (.invokevirtual 93, 3) := by decide +kernel
theorem dX2_arriveIn_77 : decode cX2_arriveIn 77 = .ok (.istore_n 3, 1) := by decide +kernel
theorem dX2_arriveIn_78 : decode cX2_arriveIn 78 = .ok (.aload_n 0, 1) := by decide +kernel
theorem dX2_arriveIn_79 : decode cX2_arriveIn 79 = .ok (.iload_n 2, 1) := by decide +kernel
theorem dX2_arriveIn_80 : decode cX2_arriveIn 80 = .ok (.iload_n 3, 1) := by decide +kernel
theorem dX2_arriveIn_81 : decode cX2_arriveIn 81 = .ok (.invokevirtual 96, 3) := by decide +kernel
theorem dX2_arriveIn_84 : decode cX2_arriveIn 84 = .ok (.iload_n 3, 1) := by decide +kernel
theorem dX2_arriveIn_85 : decode cX2_arriveIn 85 = .ok (.ireturn, 1) := by decide +kernel
set_option maxRecDepth 20000 in
theorem ggX2_releaseFrom_X2_isLane : GoodIn wsX2_releaseFrom wsX2_isLane := goodIn_r _ [10, 11, 53, 54, 55, 56, 57, 58, 59, 60, 61, 62, 63, 64, 65, 66, 67, 68, 69] (by decide +kernel) (by decide +kernel)
set_option maxRecDepth 20000 in
theorem gX2_releaseFrom_X2_isLane : GoodIn wsX2_releaseFrom (wsV RX2 100 RX2 yX2_isLane wsX2_isLane) := goodIn_app (goodIn_of _ (by decide +kernel)) ggX2_releaseFrom_X2_isLane
set_option maxRecDepth 20000 in
theorem ggX2_releaseFrom_X0_isEmpty : GoodIn wsX2_releaseFrom wsX0_isEmpty := goodIn_r _ [16, 17, 70, 71] (by decide +kernel) (by decide +kernel)
set_option maxRecDepth 20000 in
theorem gX2_releaseFrom_X0_isEmpty : GoodIn wsX2_releaseFrom (wsV RX2 128 RX0 yX0_isEmpty wsX0_isEmpty) := goodIn_app (goodIn_of _ (by decide +kernel)) ggX2_releaseFrom_X0_isEmpty
set_option maxRecDepth 20000 in
theorem ggX2_releaseFrom_X2_storeIsFull : GoodIn wsX2_releaseFrom wsX2_storeIsFull := goodIn_r _ [21, 22, 23, 24, 25, 9, 26, 27, 28, 53, 54, 55, 56, 57, 58, 59, 60, 61, 62, 63, 64, 65, 66, 67, 68, 69] (by decide +kernel) (by decide +kernel)
set_option maxRecDepth 20000 in
theorem gX2_releaseFrom_X2_storeIsFull : GoodIn wsX2_releaseFrom (wsV RX2 113 RX2 yX2_storeIsFull wsX2_storeIsFull) := goodIn_app (goodIn_of _ (by decide +kernel)) ggX2_releaseFrom_X2_storeIsFull
set_option maxRecDepth 20000 in
theorem ggX2_releaseFrom_X2_takeHeadOf : GoodIn wsX2_releaseFrom wsX2_takeHeadOf := goodIn_r _ [32, 5, 28, 33, 34, 35, 36, 37, 38, 39, 15, 40, 17, 41, 42, 43, 44, 45, 46, 47, 48, 9, 49, 27, 50, 51, 52, 53, 54, 55, 56, 57, 58, 59, 60, 61, 62, 63, 64, 65, 66, 67, 68, 69, 70, 71] (by decide +kernel) (by decide +kernel)
set_option maxRecDepth 20000 in
theorem gX2_releaseFrom_X2_takeHeadOf : GoodIn wsX2_releaseFrom (wsV RX2 125 RX2 yX2_takeHeadOf wsX2_takeHeadOf) := goodIn_app (goodIn_of _ (by decide +kernel)) ggX2_releaseFrom_X2_takeHeadOf
theorem dX2_releaseFrom_0 : decode cX2_releaseFrom 0 = .ok (.aload_n 0, 1) := by decide +kernel
theorem dX2_releaseFrom_1 : decode cX2_releaseFrom 1 = .ok (.iload_n 1, 1) := by decide +kernel
theorem dX2_releaseFrom_2 : decode cX2_releaseFrom 2 = .ok (.invokevirtual 100, 3) := by decide +kernel
theorem dX2_releaseFrom_5 : decode cX2_releaseFrom 5 = .ok (.ifCond .ne 13, 3) := by decide +kernel
theorem dX2_releaseFrom_8 : decode cX2_releaseFrom 8 = .ok (.new 103, 3) := by decide +kernel
theorem dX2_releaseFrom_11 : decode cX2_releaseFrom 11 = .ok (.dup, 1) := by decide +kernel
theorem dX2_releaseFrom_12 : decode cX2_releaseFrom 12 = .ok (.ldc 105, 2) := by decide +kernel
theorem dX2_releaseFrom_14 : decode cX2_releaseFrom 14 = .ok (.invokespecial 107, 3) := by decide +kernel
theorem dX2_releaseFrom_17 : decode cX2_releaseFrom 17 = .ok (.athrow, 1) := by decide +kernel
theorem dX2_releaseFrom_18 : decode cX2_releaseFrom 18 = .ok (.aload_n 0, 1) := by decide +kernel
theorem dX2_releaseFrom_19 : decode cX2_releaseFrom 19 = .ok (.getfield 11, 3) := by decide +kernel
theorem dX2_releaseFrom_22 : decode cX2_releaseFrom 22 = .ok (.iload_n 1, 1) := by decide +kernel
theorem dX2_releaseFrom_23 : decode cX2_releaseFrom 23 = .ok (.aaload, 1) := by decide +kernel
theorem dX2_releaseFrom_24 : decode cX2_releaseFrom 24 = .ok (.invokevirtual 128, 3) := by decide +kernel
theorem dX2_releaseFrom_27 : decode cX2_releaseFrom 27 = .ok (.ifCond .eq 13, 3) := by decide +kernel
theorem dX2_releaseFrom_30 : decode cX2_releaseFrom 30 = .ok (.new 82, 3) := by decide +kernel
theorem dX2_releaseFrom_33 : decode cX2_releaseFrom 33 = .ok (.dup, 1) := by decide +kernel
theorem dX2_releaseFrom_34 : decode cX2_releaseFrom 34 = .ok (.ldc 131, 2) := by decide +kernel
theorem dX2_releaseFrom_36 : decode cX2_releaseFrom 36 = .ok (.invokespecial 86, 3) := by decide +kernel
theorem dX2_releaseFrom_39 : decode cX2_releaseFrom 39 = .ok (.athrow, 1) := by decide +kernel
theorem dX2_releaseFrom_40 : decode cX2_releaseFrom 40 = .ok (.aload_n 0, 1) := by decide +kernel
theorem dX2_releaseFrom_41 : decode cX2_releaseFrom 41 = .ok (.invokevirtual 113, 3) := by decide +kernel
theorem dX2_releaseFrom_44 : decode cX2_releaseFrom 44 = .ok (.ifCond .eq 13, 3) := by decide +kernel
theorem dX2_releaseFrom_47 : decode cX2_releaseFrom 47 = .ok (.new 82, 3) := by decide +kernel
theorem dX2_releaseFrom_50 : decode cX2_releaseFrom 50 = .ok (.dup, 1) := by decide +kernel
theorem dX2_releaseFrom_51 : decode cX2_releaseFrom 51 = .ok (.ldc 117, 2) := by decide +kernel
theorem dX2_releaseFrom_53 : decode cX2_releaseFrom 53 = .ok (.invokespecial 86, 3) := by decide +kernel
theorem dX2_releaseFrom_56 : decode cX2_releaseFrom 56 = .ok (.athrow, 1) := by decide +kernel
theorem dX2_releaseFrom_57 : decode cX2_releaseFrom 57 = .ok (.aload_n 0, 1) := by decide +kernel
theorem dX2_releaseFrom_58 : decode cX2_releaseFrom 58 = .ok (.iload_n 1, 1) := by decide +kernel
theorem dX2_releaseFrom_59 : decode cX2_releaseFrom 59 = .ok (.invokevirtual 125, 3) := by decide +kernel
theorem dX2_releaseFrom_62 : decode cX2_releaseFrom 62 = .ok (.ireturn, 1) := by decide +kernel
set_option maxRecDepth 20000 in
theorem ggX2_releaseBest_X2_storeIsFull : GoodIn wsX2_releaseBest wsX2_storeIsFull := goodIn_r _ [9, 10, 11, 12, 13, 8, 14, 15, 16, 108, 109, 110, 111, 112, 113, 114, 115, 116, 117, 118, 119, 120, 121, 122, 123, 124] (by decide +kernel) (by decide +kernel)
set_option maxRecDepth 20000 in
theorem gX2_releaseBest_X2_storeIsFull : GoodIn wsX2_releaseBest (wsV RX2 113 RX2 yX2_storeIsFull wsX2_storeIsFull) := goodIn_app (goodIn_of _ (by decide +kernel)) ggX2_releaseBest_X2_storeIsFull
set_option maxRecDepth 20000 in
theorem ggX2_releaseBest_X2_countInLanes : GoodIn wsX2_releaseBest wsX2_countInLanes := goodIn_r _ [20, 21, 22, 23, 24, 25, 26, 27, 28, 108, 109, 110, 111, 112, 113, 114, 115, 116, 117, 118, 119, 120, 121, 122, 123, 124, 125, 126] (by decide +kernel) (by decide +kernel)
set_option maxRecDepth 20000 in
theorem gX2_releaseBest_X2_countInLanes : GoodIn wsX2_releaseBest (wsV RX2 133 RX2 yX2_countInLanes wsX2_countInLanes) := goodIn_app (goodIn_of _ (by decide +kernel)) ggX2_releaseBest_X2_countInLanes
set_option maxRecDepth 20000 in
theorem ggX2_releaseBest_X2_copyLanesIntoPlan : GoodIn wsX2_releaseBest wsX2_copyLanesIntoPlan := goodIn_r _ [32, 3, 21, 22, 33, 34, 35, 36, 37, 38, 23, 24, 25, 26, 27, 28, 39, 40, 41, 42, 43, 44, 45, 46, 8, 47, 48, 49, 50, 51, 52, 15, 53, 54, 55, 56, 57, 108, 109, 110, 111, 112, 113, 114, 115, 116, 117, 118, 119, 120, 121, 122, 123, 124, 127, 128, 129, 130, 131, 132, 125, 126] (by decide +kernel) (by decide +kernel)
set_option maxRecDepth 20000 in
theorem gX2_releaseBest_X2_copyLanesIntoPlan : GoodIn wsX2_releaseBest (wsV RX2 138 RX2 yX2_copyLanesIntoPlan wsX2_copyLanesIntoPlan) := goodIn_app (goodIn_of _ (by decide +kernel)) ggX2_releaseBest_X2_copyLanesIntoPlan
set_option maxRecDepth 20000 in
theorem ggX2_releaseBest_X1_bestLane : GoodIn wsX2_releaseBest wsX1_bestLane := goodIn_r _ [61, 38, 62, 63, 64, 36, 65, 66, 67, 68, 69, 70, 71, 72, 73, 74, 75, 76, 77, 78, 79, 57, 80, 81, 82, 83, 84, 85, 86, 87, 88, 89, 90, 91, 92, 93, 94, 8, 95, 127, 128, 129, 130, 131, 132] (by decide +kernel) (by decide +kernel)
set_option maxRecDepth 20000 in
theorem gX2_releaseBest_X1_bestLane : GoodIn wsX2_releaseBest (wsV RX2 141 RX1 yX1_bestLane wsX1_bestLane) := goodIn_app (goodIn_of _ (by decide +kernel)) ggX2_releaseBest_X1_bestLane
set_option maxRecDepth 20000 in
theorem ggX2_releaseBest_X2_takeHeadOf : GoodIn wsX2_releaseBest wsX2_takeHeadOf := goodIn_r _ [99, 22, 16, 100, 4, 48, 101, 102, 103, 104, 26, 105, 28, 43, 106, 40, 41, 42, 49, 50, 51, 8, 52, 15, 107, 94, 95, 108, 109, 110, 111, 112, 113, 114, 115, 116, 117, 118, 119, 120, 121, 122, 123, 124, 125, 126] (by decide +kernel) (by decide +kernel)
set_option maxRecDepth 20000 in
theorem gX2_releaseBest_X2_takeHeadOf : GoodIn wsX2_releaseBest (wsV RX2 125 RX2 yX2_takeHeadOf wsX2_takeHeadOf) := goodIn_app (goodIn_of _ (by decide +kernel)) ggX2_releaseBest_X2_takeHeadOf
theorem dX2_releaseBest_0 : decode cX2_releaseBest 0 = .ok (.aload_n 0, 1) := by decide +kernel
theorem dX2_releaseBest_1 : decode cX2_releaseBest 1 = .ok (.invokevirtual 113, 3) := by decide +kernel
theorem dX2_releaseBest_4 : decode cX2_releaseBest 4 = .ok (.ifCond .eq 13, 3) := by decide +kernel
theorem dX2_releaseBest_7 : decode cX2_releaseBest 7 = .ok (.new 82, 3) := by decide +kernel
theorem dX2_releaseBest_10 : decode cX2_releaseBest 10 = .ok (.dup, 1) := by decide +kernel
theorem dX2_releaseBest_11 : decode cX2_releaseBest 11 = .ok (.ldc 117, 2) := by decide +kernel
theorem dX2_releaseBest_13 : decode cX2_releaseBest 13 = .ok (.invokespecial 86, 3) := by decide +kernel
theorem dX2_releaseBest_16 : decode cX2_releaseBest 16 = .ok (.athrow, 1) := by decide +kernel
theorem dX2_releaseBest_17 : decode cX2_releaseBest 17 = .ok (.aload_n 0, 1) := by decide +kernel
theorem dX2_releaseBest_18 : decode cX2_releaseBest 18 = .ok (.invokevirtual 133, 3) := by decide +kernel
theorem dX2_releaseBest_21 : decode cX2_releaseBest 21 = .ok (.bipush 12, 2) := by decide +kernel
theorem dX2_releaseBest_23 : decode cX2_releaseBest 23 = .ok (.if_icmp .le 13, 3) := by decide +kernel
theorem dX2_releaseBest_26 : decode cX2_releaseBest 26 = .ok (.new 82, 3) := by decide +kernel
theorem dX2_releaseBest_29 : decode cX2_releaseBest 29 = .ok (.dup, 1) := by decide +kernel
theorem dX2_releaseBest_30 : decode cX2_releaseBest 30 = .ok (.ldc 136, 2) := by decide +kernel
theorem dX2_releaseBest_32 : decode cX2_releaseBest 32 = .ok (.invokespecial 86, 3) := by decide +kernel
theorem dX2_releaseBest_35 : decode cX2_releaseBest 35 = .ok (.athrow, 1) := by decide +kernel
theorem dX2_releaseBest_36 : decode cX2_releaseBest 36 = .ok (.aload_n 0, 1) := by decide +kernel
theorem dX2_releaseBest_37 : decode cX2_releaseBest 37 = .ok (.invokevirtual 138, 3) := by decide +kernel
theorem dX2_releaseBest_40 : decode cX2_releaseBest 40 = .ok (.aload_n 0, 1) := by decide +kernel
theorem dX2_releaseBest_41 : decode cX2_releaseBest 41 = .ok (.getfield 32, 3) := by decide +kernel
theorem dX2_releaseBest_44 : decode cX2_releaseBest 44 = .ok (.aload_n 0, 1) := by decide +kernel
theorem dX2_releaseBest_45 : decode cX2_releaseBest 45 = .ok (.getfield 46, 3) := by decide +kernel
theorem dX2_releaseBest_48 : decode cX2_releaseBest 48 = .ok (.invokevirtual 141, 3) := by decide +kernel
theorem dX2_releaseBest_51 : decode cX2_releaseBest 51 = .ok (.istore_n 1, 1) := by decide +kernel
theorem dX2_releaseBest_52 : decode cX2_releaseBest 52 = .ok (.iload_n 1, 1) := by decide +kernel
theorem dX2_releaseBest_53 : decode cX2_releaseBest 53 = .ok (.iconst (-1), 1) := by decide +kernel
theorem dX2_releaseBest_54 : decode cX2_releaseBest 54 = .ok (.if_icmp .ne 13, 3) := by decide +kernel
theorem dX2_releaseBest_57 : decode cX2_releaseBest 57 = .ok (.new 82, 3) := by decide +kernel
theorem dX2_releaseBest_60 : decode cX2_releaseBest 60 = .ok (.dup, 1) := by decide +kernel
theorem dX2_releaseBest_61 : decode cX2_releaseBest 61 = .ok (.ldc 123, 2) := by decide +kernel
theorem dX2_releaseBest_63 : decode cX2_releaseBest 63 = .ok (.invokespecial 86, 3) := by decide +kernel
theorem dX2_releaseBest_66 : decode cX2_releaseBest 66 = .ok (.athrow, 1) := by decide +kernel
theorem dX2_releaseBest_67 : decode cX2_releaseBest 67 = .ok (.aload_n 0, 1) := by decide +kernel
theorem dX2_releaseBest_68 : decode cX2_releaseBest 68 = .ok (.iload_n 1, 1) := by decide +kernel
theorem dX2_releaseBest_69 : decode cX2_releaseBest 69 = .ok (.invokevirtual 125, 3) := by decide +kernel
theorem dX2_releaseBest_72 : decode cX2_releaseBest 72 = .ok (.ireturn, 1) := by decide +kernel
set_option maxRecDepth 20000 in
theorem ggX2_assemble_X2_lowestInStore : GoodIn wsX2_assemble wsX2_lowestInStore := goodIn_r _ [11, 12, 3, 13, 14, 15, 16, 17, 18, 19, 20, 21, 22, 23, 24, 25, 26, 27, 28, 29] (by decide +kernel) (by decide +kernel)
set_option maxRecDepth 20000 in
theorem gX2_assemble_X2_lowestInStore : GoodIn wsX2_assemble (wsV RX2 156 RX2 yX2_lowestInStore wsX2_lowestInStore) := goodIn_app (goodIn_of _ (by decide +kernel)) ggX2_assemble_X2_lowestInStore
theorem dX2_assemble_0 : decode cX2_assemble 0 = .ok (.aload_n 0, 1) := by decide +kernel
theorem dX2_assemble_1 : decode cX2_assemble 1 = .ok (.invokevirtual 156, 3) := by decide +kernel
theorem dX2_assemble_4 : decode cX2_assemble 4 = .ok (.istore_n 1, 1) := by decide +kernel
theorem dX2_assemble_5 : decode cX2_assemble 5 = .ok (.iload_n 1, 1) := by decide +kernel
theorem dX2_assemble_6 : decode cX2_assemble 6 = .ok (.iconst (-1), 1) := by decide +kernel
theorem dX2_assemble_7 : decode cX2_assemble 7 = .ok (.if_icmp .ne 13, 3) := by decide +kernel
theorem dX2_assemble_10 : decode cX2_assemble 10 = .ok (.new 82, 3) := by decide +kernel
theorem dX2_assemble_13 : decode cX2_assemble 13 = .ok (.dup, 1) := by decide +kernel
theorem dX2_assemble_14 : decode cX2_assemble 14 = .ok (.ldc 159, 2) := by decide +kernel
theorem dX2_assemble_16 : decode cX2_assemble 16 = .ok (.invokespecial 86, 3) := by decide +kernel
theorem dX2_assemble_19 : decode cX2_assemble 19 = .ok (.athrow, 1) := by decide +kernel
theorem dX2_assemble_20 : decode cX2_assemble 20 = .ok (.aload_n 0, 1) := by decide +kernel
theorem dX2_assemble_21 : decode cX2_assemble 21 = .ok (.getfield 20, 3) := by decide +kernel
theorem dX2_assemble_24 : decode cX2_assemble 24 = .ok (.iload_n 1, 1) := by decide +kernel
theorem dX2_assemble_25 : decode cX2_assemble 25 = .ok (.bipush 12, 2) := by decide +kernel
theorem dX2_assemble_27 : decode cX2_assemble 27 = .ok (.iastore, 1) := by decide +kernel
theorem dX2_assemble_28 : decode cX2_assemble 28 = .ok (.aload_n 0, 1) := by decide +kernel
theorem dX2_assemble_29 : decode cX2_assemble 29 = .ok (.getfield 23, 3) := by decide +kernel
theorem dX2_assemble_32 : decode cX2_assemble 32 = .ok (.iload_n 1, 1) := by decide +kernel
theorem dX2_assemble_33 : decode cX2_assemble 33 = .ok (.aload_n 0, 1) := by decide +kernel
theorem dX2_assemble_34 : decode cX2_assemble 34 = .ok (.getfield 161, 3) := by decide +kernel
theorem dX2_assemble_37 : decode cX2_assemble 37 = .ok (.iastore, 1) := by decide +kernel
theorem dX2_assemble_38 : decode cX2_assemble 38 = .ok (.aload_n 0, 1) := by decide +kernel
theorem dX2_assemble_39 : decode cX2_assemble 39 = .ok (.getfield 26, 3) := by decide +kernel
theorem dX2_assemble_42 : decode cX2_assemble 42 = .ok (.aload_n 0, 1) := by decide +kernel
theorem dX2_assemble_43 : decode cX2_assemble 43 = .ok (.getfield 161, 3) := by decide +kernel
theorem dX2_assemble_46 : decode cX2_assemble 46 = .ok (.iload_n 1, 1) := by decide +kernel
theorem dX2_assemble_47 : decode cX2_assemble 47 = .ok (.iastore, 1) := by decide +kernel
theorem dX2_assemble_48 : decode cX2_assemble 48 = .ok (.aload_n 0, 1) := by decide +kernel
theorem dX2_assemble_49 : decode cX2_assemble 49 = .ok (.dup, 1) := by decide +kernel
theorem dX2_assemble_50 : decode cX2_assemble 50 = .ok (.getfield 161, 3) := by decide +kernel
theorem dX2_assemble_53 : decode cX2_assemble 53 = .ok (.iconst 1, 1) := by decide +kernel
theorem dX2_assemble_54 : decode cX2_assemble 54 = .ok (.iadd, 1) := by decide +kernel
theorem dX2_assemble_55 : decode cX2_assemble 55 = .ok (.putfield 161, 3) := by decide +kernel
theorem dX2_assemble_58 : decode cX2_assemble 58 = .ok (.iload_n 1, 1) := by decide +kernel
theorem dX2_assemble_59 : decode cX2_assemble 59 = .ok (.ireturn, 1) := by decide +kernel
theorem dX2_bodies_0 : decode cX2_bodies 0 = .ok (.aload_n 0, 1) := by decide +kernel
theorem dX2_bodies_1 : decode cX2_bodies 1 = .ok (.getfield 60, 3) := by decide +kernel
theorem dX2_bodies_4 : decode cX2_bodies 4 = .ok (.ireturn, 1) := by decide +kernel
set_option maxRecDepth 20000 in
theorem ggX2_where_X2_isBody : GoodIn wsX2_where wsX2_isBody := goodIn_r _ [8, 9, 10, 11, 12, 13, 14, 15, 16, 17, 18, 19, 20, 21, 22, 23, 24, 25, 26] (by decide +kernel) (by decide +kernel)
set_option maxRecDepth 20000 in
theorem gX2_where_X2_isBody : GoodIn wsX2_where (wsV RX2 144 RX2 yX2_isBody wsX2_isBody) := goodIn_app (goodIn_of _ (by decide +kernel)) ggX2_where_X2_isBody
theorem dX2_where_0 : decode cX2_where 0 = .ok (.aload_n 0, 1) := by decide +kernel
theorem dX2_where_1 : decode cX2_where 1 = .ok (.iload_n 1, 1) := by decide +kernel
theorem dX2_where_2 : decode cX2_where 2 = .ok (.invokevirtual 144, 3) := by decide +kernel
theorem dX2_where_5 : decode cX2_where 5 = .ok (.ifCond .ne 13, 3) := by decide +kernel
theorem dX2_where_8 : decode cX2_where 8 = .ok (.new 103, 3) := by decide +kernel
theorem dX2_where_11 : decode cX2_where 11 = .ok (.dup, 1) := by decide +kernel
theorem dX2_where_12 : decode cX2_where 12 = .ok (.ldc 147, 2) := by decide +kernel
theorem dX2_where_14 : decode cX2_where 14 = .ok (.invokespecial 107, 3) := by decide +kernel
theorem dX2_where_17 : decode cX2_where 17 = .ok (.athrow, 1) := by decide +kernel
theorem dX2_where_18 : decode cX2_where 18 = .ok (.aload_n 0, 1) := by decide +kernel
theorem dX2_where_19 : decode cX2_where 19 = .ok (.getfield 20, 3) := by decide +kernel
theorem dX2_where_22 : decode cX2_where 22 = .ok (.iload_n 1, 1) := by decide +kernel
theorem dX2_where_23 : decode cX2_where 23 = .ok (.iaload, 1) := by decide +kernel
theorem dX2_where_24 : decode cX2_where 24 = .ok (.ireturn, 1) := by decide +kernel
set_option maxRecDepth 20000 in
theorem ggX2_inLane_X2_isLane : GoodIn wsX2_inLane wsX2_isLane := goodIn_r _ [8, 9, 16, 17, 18, 19, 20, 21, 22, 23, 24, 25, 26, 27, 28, 29, 30, 31, 32] (by decide +kernel) (by decide +kernel)
set_option maxRecDepth 20000 in
theorem gX2_inLane_X2_isLane : GoodIn wsX2_inLane (wsV RX2 100 RX2 yX2_isLane wsX2_isLane) := goodIn_app (goodIn_of _ (by decide +kernel)) ggX2_inLane_X2_isLane
set_option maxRecDepth 20000 in
theorem ggX2_inLane_X0_count : GoodIn wsX2_inLane wsX0_count := goodIn_r _ [14, 15, 33, 34] (by decide +kernel) (by decide +kernel)
set_option maxRecDepth 20000 in
theorem gX2_inLane_X0_count : GoodIn wsX2_inLane (wsV RX2 164 RX0 yX0_count wsX0_count) := goodIn_app (goodIn_of _ (by decide +kernel)) ggX2_inLane_X0_count
theorem dX2_inLane_0 : decode cX2_inLane 0 = .ok (.aload_n 0, 1) := by decide +kernel
theorem dX2_inLane_1 : decode cX2_inLane 1 = .ok (.iload_n 1, 1) := by decide +kernel
theorem dX2_inLane_2 : decode cX2_inLane 2 = .ok (.invokevirtual 100, 3) := by decide +kernel
theorem dX2_inLane_5 : decode cX2_inLane 5 = .ok (.ifCond .ne 13, 3) := by decide +kernel
theorem dX2_inLane_8 : decode cX2_inLane 8 = .ok (.new 103, 3) := by decide +kernel
theorem dX2_inLane_11 : decode cX2_inLane 11 = .ok (.dup, 1) := by decide +kernel
theorem dX2_inLane_12 : decode cX2_inLane 12 = .ok (.ldc 105, 2) := by decide +kernel
theorem dX2_inLane_14 : decode cX2_inLane 14 = .ok (.invokespecial 107, 3) := by decide +kernel
theorem dX2_inLane_17 : decode cX2_inLane 17 = .ok (.athrow, 1) := by decide +kernel
theorem dX2_inLane_18 : decode cX2_inLane 18 = .ok (.aload_n 0, 1) := by decide +kernel
theorem dX2_inLane_19 : decode cX2_inLane 19 = .ok (.getfield 11, 3) := by decide +kernel
theorem dX2_inLane_22 : decode cX2_inLane 22 = .ok (.iload_n 1, 1) := by decide +kernel
theorem dX2_inLane_23 : decode cX2_inLane 23 = .ok (.aaload, 1) := by decide +kernel
theorem dX2_inLane_24 : decode cX2_inLane 24 = .ok (.invokevirtual 164, 3) := by decide +kernel
theorem dX2_inLane_27 : decode cX2_inLane 27 = .ok (.ireturn, 1) := by decide +kernel
set_option maxRecDepth 20000 in
theorem ggX2_stored_X2_countAt : GoodIn wsX2_stored wsX2_countAt := goodIn_r _ [5, 6, 7, 8, 9, 10, 11, 12, 13, 14, 15, 16, 17, 18, 19, 20, 21, 22, 23, 24] (by decide +kernel) (by decide +kernel)
set_option maxRecDepth 20000 in
theorem gX2_stored_X2_countAt : GoodIn wsX2_stored (wsV RX2 151 RX2 yX2_countAt wsX2_countAt) := goodIn_app (goodIn_of _ (by decide +kernel)) ggX2_stored_X2_countAt
theorem dX2_stored_0 : decode cX2_stored 0 = .ok (.aload_n 0, 1) := by decide +kernel
theorem dX2_stored_1 : decode cX2_stored 1 = .ok (.bipush 10, 2) := by decide +kernel
theorem dX2_stored_3 : decode cX2_stored 3 = .ok (.invokevirtual 151, 3) := by decide +kernel
theorem dX2_stored_6 : decode cX2_stored 6 = .ok (.ireturn, 1) := by decide +kernel
theorem dX2_changes_0 : decode cX2_changes 0 = .ok (.aload_n 0, 1) := by decide +kernel
theorem dX2_changes_1 : decode cX2_changes 1 = .ok (.getfield 175, 3) := by decide +kernel
theorem dX2_changes_4 : decode cX2_changes 4 = .ok (.ireturn, 1) := by decide +kernel
theorem dX2_released_0 : decode cX2_released 0 = .ok (.aload_n 0, 1) := by decide +kernel
theorem dX2_released_1 : decode cX2_released 1 = .ok (.getfield 178, 3) := by decide +kernel
theorem dX2_released_4 : decode cX2_released 4 = .ok (.ireturn, 1) := by decide +kernel
theorem dX2_assembledAt_0 : decode cX2_assembledAt 0 = .ok (.iload_n 1, 1) := by decide +kernel
theorem dX2_assembledAt_1 : decode cX2_assembledAt 1 = .ok (.ifCond .lt 11, 3) := by decide +kernel
theorem dX2_assembledAt_4 : decode cX2_assembledAt 4 = .ok (.iload_n 1, 1) := by decide +kernel
theorem dX2_assembledAt_5 : decode cX2_assembledAt 5 = .ok (.aload_n 0, 1) := by decide +kernel
theorem dX2_assembledAt_6 : decode cX2_assembledAt 6 = .ok (.getfield 161, 3) := by decide +kernel
theorem dX2_assembledAt_9 : decode cX2_assembledAt 9 = .ok (.if_icmp .lt 13, 3) := by decide +kernel
theorem dX2_assembledAt_12 : decode cX2_assembledAt 12 = .ok (.new 103, 3) := by decide +kernel
theorem dX2_assembledAt_15 : decode cX2_assembledAt 15 = .ok (.dup, 1) := by decide +kernel
theorem dX2_assembledAt_16 : decode cX2_assembledAt 16 = .ok (.ldc 181, 2) := by decide +kernel
theorem dX2_assembledAt_18 : decode cX2_assembledAt 18 = .ok (.invokespecial 107, 3) := by decide +kernel
theorem dX2_assembledAt_21 : decode cX2_assembledAt 21 = .ok (.athrow, 1) := by decide +kernel
theorem dX2_assembledAt_22 : decode cX2_assembledAt 22 = .ok (.aload_n 0, 1) := by decide +kernel
theorem dX2_assembledAt_23 : decode cX2_assembledAt 23 = .ok (.getfield 26, 3) := by decide +kernel
theorem dX2_assembledAt_26 : decode cX2_assembledAt 26 = .ok (.iload_n 1, 1) := by decide +kernel
theorem dX2_assembledAt_27 : decode cX2_assembledAt 27 = .ok (.iaload, 1) := by decide +kernel
theorem dX2_assembledAt_28 : decode cX2_assembledAt 28 = .ok (.ireturn, 1) := by decide +kernel
set_option maxRecDepth 20000 in
theorem ggX2_lateness_X2_isBody : GoodIn wsX2_lateness wsX2_isBody := goodIn_r _ [11, 12, 13, 14, 15, 16, 17, 18, 19, 20, 21, 22, 23, 24, 25, 26, 27, 28, 29] (by decide +kernel) (by decide +kernel)
set_option maxRecDepth 20000 in
theorem gX2_lateness_X2_isBody : GoodIn wsX2_lateness (wsV RX2 144 RX2 yX2_isBody wsX2_isBody) := goodIn_app (goodIn_of _ (by decide +kernel)) ggX2_lateness_X2_isBody
theorem dX2_lateness_0 : decode cX2_lateness 0 = .ok (.aload_n 0, 1) := by decide +kernel
theorem dX2_lateness_1 : decode cX2_lateness 1 = .ok (.iload_n 1, 1) := by decide +kernel
theorem dX2_lateness_2 : decode cX2_lateness 2 = .ok (.invokevirtual 144, 3) := by decide +kernel
theorem dX2_lateness_5 : decode cX2_lateness 5 = .ok (.ifCond .ne 13, 3) := by decide +kernel
theorem dX2_lateness_8 : decode cX2_lateness 8 = .ok (.new 103, 3) := by decide +kernel
theorem dX2_lateness_11 : decode cX2_lateness 11 = .ok (.dup, 1) := by decide +kernel
theorem dX2_lateness_12 : decode cX2_lateness 12 = .ok (.ldc 147, 2) := by decide +kernel
theorem dX2_lateness_14 : decode cX2_lateness 14 = .ok (.invokespecial 107, 3) := by decide +kernel
theorem dX2_lateness_17 : decode cX2_lateness 17 = .ok (.athrow, 1) := by decide +kernel
theorem dX2_lateness_18 : decode cX2_lateness 18 = .ok (.aload_n 0, 1) := by decide +kernel
theorem dX2_lateness_19 : decode cX2_lateness 19 = .ok (.getfield 20, 3) := by decide +kernel
theorem dX2_lateness_22 : decode cX2_lateness 22 = .ok (.iload_n 1, 1) := by decide +kernel
theorem dX2_lateness_23 : decode cX2_lateness 23 = .ok (.iaload, 1) := by decide +kernel
theorem dX2_lateness_24 : decode cX2_lateness 24 = .ok (.bipush 12, 2) := by decide +kernel
theorem dX2_lateness_26 : decode cX2_lateness 26 = .ok (.if_icmp .eq 13, 3) := by decide +kernel
theorem dX2_lateness_29 : decode cX2_lateness 29 = .ok (.new 82, 3) := by decide +kernel
theorem dX2_lateness_32 : decode cX2_lateness 32 = .ok (.dup, 1) := by decide +kernel
theorem dX2_lateness_33 : decode cX2_lateness 33 = .ok (.ldc 183, 2) := by decide +kernel
theorem dX2_lateness_35 : decode cX2_lateness 35 = .ok (.invokespecial 86, 3) := by decide +kernel
theorem dX2_lateness_38 : decode cX2_lateness 38 = .ok (.athrow, 1) := by decide +kernel
theorem dX2_lateness_39 : decode cX2_lateness 39 = .ok (.aload_n 0, 1) := by decide +kernel
theorem dX2_lateness_40 : decode cX2_lateness 40 = .ok (.getfield 23, 3) := by decide +kernel
theorem dX2_lateness_43 : decode cX2_lateness 43 = .ok (.iload_n 1, 1) := by decide +kernel
theorem dX2_lateness_44 : decode cX2_lateness 44 = .ok (.iaload, 1) := by decide +kernel
theorem dX2_lateness_45 : decode cX2_lateness 45 = .ok (.iload_n 1, 1) := by decide +kernel
theorem dX2_lateness_46 : decode cX2_lateness 46 = .ok (.isub, 1) := by decide +kernel
theorem dX2_lateness_47 : decode cX2_lateness 47 = .ok (.ireturn, 1) := by decide +kernel
theorem dX2_worstLateness_0 : decode cX2_worstLateness 0 = .ok (.iconst 0, 1) := by decide +kernel
theorem dX2_worstLateness_1 : decode cX2_worstLateness 1 = .ok (.istore_n 1, 1) := by decide +kernel
theorem dX2_worstLateness_2 : decode cX2_worstLateness 2 = .ok (.iconst 0, 1) := by decide +kernel
theorem dX2_worstLateness_3 : decode cX2_worstLateness 3 = .ok (.istore_n 2, 1) := by decide +kernel
theorem dX2_worstLateness_4 : decode cX2_worstLateness 4 = .ok (.iload_n 2, 1) := by decide +kernel
theorem dX2_worstLateness_5 : decode cX2_worstLateness 5 = .ok (.aload_n 0, 1) := by decide +kernel
theorem dX2_worstLateness_6 : decode cX2_worstLateness 6 = .ok (.getfield 161, 3) := by decide +kernel
theorem dX2_worstLateness_9 : decode cX2_worstLateness 9 = .ok (.if_icmp .ge 25, 3) := by decide +kernel
theorem dX2_worstLateness_12 : decode cX2_worstLateness 12 = .ok (.iload_n 2, 1) := by decide +kernel
theorem dX2_worstLateness_13 : decode cX2_worstLateness 13 = .ok (.aload_n 0, 1) := by decide +kernel
theorem dX2_worstLateness_14 : decode cX2_worstLateness 14 = .ok (.getfield 26, 3) := by decide +kernel
theorem dX2_worstLateness_17 : decode cX2_worstLateness 17 = .ok (.iload_n 2, 1) := by decide +kernel
theorem dX2_worstLateness_18 : decode cX2_worstLateness 18 = .ok (.iaload, 1) := by decide +kernel
theorem dX2_worstLateness_19 : decode cX2_worstLateness 19 = .ok (.isub, 1) := by decide +kernel
theorem dX2_worstLateness_20 : decode cX2_worstLateness 20 = .ok (.istore_n 3, 1) := by decide +kernel
theorem dX2_worstLateness_21 : decode cX2_worstLateness 21 = .ok (.iload_n 3, 1) := by decide +kernel
theorem dX2_worstLateness_22 : decode cX2_worstLateness 22 = .ok (.iload_n 1, 1) := by decide +kernel
theorem dX2_worstLateness_23 : decode cX2_worstLateness 23 = .ok (.if_icmp .le 5, 3) := by decide +kernel
theorem dX2_worstLateness_26 : decode cX2_worstLateness 26 = .ok (.iload_n 3, 1) := by decide +kernel
theorem dX2_worstLateness_27 : decode cX2_worstLateness 27 = .ok (.istore_n 1, 1) := by decide +kernel
theorem dX2_worstLateness_28 : decode cX2_worstLateness 28 = .ok (.iinc 2 1, 3) := by decide +kernel
theorem dX2_worstLateness_31 : decode cX2_worstLateness 31 = .ok (.goto (-27), 3) := by decide +kernel
theorem dX2_worstLateness_34 : decode cX2_worstLateness 34 = .ok (.iload_n 1, 1) := by decide +kernel
theorem dX2_worstLateness_35 : decode cX2_worstLateness 35 = .ok (.ireturn, 1) := by decide +kernel
set_option maxRecDepth 20000 in
theorem ggX2_fewestChanges_X2_countInLanes : GoodIn wsX2_fewestChanges wsX2_countInLanes := goodIn_r _ [9, 10, 11, 12, 13, 14, 15, 16, 17, 76, 77, 78, 79, 80, 81, 82, 83, 84, 85, 86, 87, 88, 89, 90, 91, 92, 93, 94] (by decide +kernel) (by decide +kernel)
set_option maxRecDepth 20000 in
theorem gX2_fewestChanges_X2_countInLanes : GoodIn wsX2_fewestChanges (wsV RX2 133 RX2 yX2_countInLanes wsX2_countInLanes) := goodIn_app (goodIn_of _ (by decide +kernel)) ggX2_fewestChanges_X2_countInLanes
set_option maxRecDepth 20000 in
theorem ggX2_fewestChanges_X2_copyLanesIntoPlan : GoodIn wsX2_fewestChanges wsX2_copyLanesIntoPlan := goodIn_r _ [21, 3, 10, 11, 22, 23, 24, 25, 26, 27, 12, 13, 14, 15, 16, 17, 28, 29, 30, 31, 32, 33, 34, 35, 8, 36, 37, 38, 39, 40, 41, 42, 43, 44, 45, 46, 47, 76, 77, 78, 79, 80, 81, 82, 83, 84, 85, 86, 87, 88, 89, 90, 91, 92, 95, 96, 97, 98, 99, 100, 93, 94] (by decide +kernel) (by decide +kernel)
set_option maxRecDepth 20000 in
theorem gX2_fewestChanges_X2_copyLanesIntoPlan : GoodIn wsX2_fewestChanges (wsV RX2 138 RX2 yX2_copyLanesIntoPlan wsX2_copyLanesIntoPlan) := goodIn_app (goodIn_of _ (by decide +kernel)) ggX2_fewestChanges_X2_copyLanesIntoPlan
set_option maxRecDepth 20000 in
theorem ggX2_fewestChanges_X1_fewest : GoodIn wsX2_fewestChanges wsX1_fewest := goodIn_r _ [51, 52, 53, 54, 25, 55, 56, 27, 57, 58, 59, 60, 61, 62, 63, 64, 65, 47, 66, 67, 68, 69, 70, 71, 72, 73, 74, 75, 95, 96, 97, 98, 99, 100] (by decide +kernel) (by decide +kernel)
set_option maxRecDepth 20000 in
theorem gX2_fewestChanges_X1_fewest : GoodIn wsX2_fewestChanges (wsV RX2 185 RX1 yX1_fewest wsX1_fewest) := goodIn_app (goodIn_of _ (by decide +kernel)) ggX2_fewestChanges_X1_fewest
theorem dX2_fewestChanges_0 : decode cX2_fewestChanges 0 = .ok (.aload_n 0, 1) := by decide +kernel
theorem dX2_fewestChanges_1 : decode cX2_fewestChanges 1 = .ok (.invokevirtual 133, 3) := by decide +kernel
theorem dX2_fewestChanges_4 : decode cX2_fewestChanges 4 = .ok (.bipush 12, 2) := by decide +kernel
theorem dX2_fewestChanges_6 : decode cX2_fewestChanges 6 = .ok (.if_icmp .le 13, 3) := by decide +kernel
theorem dX2_fewestChanges_9 : decode cX2_fewestChanges 9 = .ok (.new 82, 3) := by decide +kernel
theorem dX2_fewestChanges_12 : decode cX2_fewestChanges 12 = .ok (.dup, 1) := by decide +kernel
theorem dX2_fewestChanges_13 : decode cX2_fewestChanges 13 = .ok (.ldc 136, 2) := by decide +kernel
theorem dX2_fewestChanges_15 : decode cX2_fewestChanges 15 = .ok (.invokespecial 86, 3) := by decide +kernel
theorem dX2_fewestChanges_18 : decode cX2_fewestChanges 18 = .ok (.athrow, 1) := by decide +kernel
theorem dX2_fewestChanges_19 : decode cX2_fewestChanges 19 = .ok (.aload_n 0, 1) := by decide +kernel
theorem dX2_fewestChanges_20 : decode cX2_fewestChanges 20 = .ok (.invokevirtual 138, 3) := by decide +kernel
theorem dX2_fewestChanges_23 : decode cX2_fewestChanges 23 = .ok (.aload_n 0, 1) := by decide +kernel
theorem dX2_fewestChanges_24 : decode cX2_fewestChanges 24 = .ok (.getfield 32, 3) := by decide +kernel
theorem dX2_fewestChanges_27 : decode cX2_fewestChanges 27 = .ok (.aload_n 0, 1) := by decide +kernel
theorem dX2_fewestChanges_28 : decode cX2_fewestChanges 28 = .ok (.getfield 46, 3) := by decide +kernel
theorem dX2_fewestChanges_31 : decode cX2_fewestChanges 31 = .ok (.invokevirtual 185, 3) := by decide +kernel
theorem dX2_fewestChanges_34 : decode cX2_fewestChanges 34 = .ok (.ireturn, 1) := by decide +kernel
set_option maxRecDepth 20000 in
theorem ggX2_fewestByAll_X2_countInLanes : GoodIn wsX2_fewestByAll wsX2_countInLanes := goodIn_r _ [9, 10, 11, 12, 13, 14, 15, 16, 17, 58, 59, 60, 61, 62, 63, 64, 65, 66, 67, 68, 69, 70, 71, 72, 73, 74, 75, 76] (by decide +kernel) (by decide +kernel)
set_option maxRecDepth 20000 in
theorem gX2_fewestByAll_X2_countInLanes : GoodIn wsX2_fewestByAll (wsV RX2 133 RX2 yX2_countInLanes wsX2_countInLanes) := goodIn_app (goodIn_of _ (by decide +kernel)) ggX2_fewestByAll_X2_countInLanes
set_option maxRecDepth 20000 in
theorem ggX2_fewestByAll_X2_copyLanesIntoPlan : GoodIn wsX2_fewestByAll wsX2_copyLanesIntoPlan := goodIn_r _ [21, 3, 10, 11, 22, 23, 24, 25, 26, 27, 12, 13, 14, 15, 16, 17, 28, 29, 30, 31, 32, 33, 34, 35, 8, 36, 37, 38, 39, 40, 41, 42, 43, 44, 45, 46, 47, 58, 59, 60, 61, 62, 63, 64, 65, 66, 67, 68, 69, 70, 71, 72, 73, 74, 77, 78, 79, 80, 81, 82, 75, 76] (by decide +kernel) (by decide +kernel)
set_option maxRecDepth 20000 in
theorem gX2_fewestByAll_X2_copyLanesIntoPlan : GoodIn wsX2_fewestByAll (wsV RX2 138 RX2 yX2_copyLanesIntoPlan wsX2_copyLanesIntoPlan) := goodIn_app (goodIn_of _ (by decide +kernel)) ggX2_fewestByAll_X2_copyLanesIntoPlan
set_option maxRecDepth 20000 in
theorem ggX2_fewestByAll_X1_fewestOfAllOrders : GoodIn wsX2_fewestByAll wsX1_fewestOfAllOrders := goodIn_r _ [51, 52, 27, 53, 54, 25, 55, 47, 56, 8, 57, 77, 78, 79, 80, 81, 82] (by decide +kernel) (by decide +kernel)
set_option maxRecDepth 20000 in
theorem gX2_fewestByAll_X1_fewestOfAllOrders : GoodIn wsX2_fewestByAll (wsV RX2 190 RX1 yX1_fewestOfAllOrders wsX1_fewestOfAllOrders) := goodIn_app (goodIn_of _ (by decide +kernel)) ggX2_fewestByAll_X1_fewestOfAllOrders
theorem dX2_fewestByAll_0 : decode cX2_fewestByAll 0 = .ok (.aload_n 0, 1) := by decide +kernel
theorem dX2_fewestByAll_1 : decode cX2_fewestByAll 1 = .ok (.invokevirtual 133, 3) := by decide +kernel
theorem dX2_fewestByAll_4 : decode cX2_fewestByAll 4 = .ok (.bipush 8, 2) := by decide +kernel
theorem dX2_fewestByAll_6 : decode cX2_fewestByAll 6 = .ok (.if_icmp .le 13, 3) := by decide +kernel
theorem dX2_fewestByAll_9 : decode cX2_fewestByAll 9 = .ok (.new 82, 3) := by decide +kernel
theorem dX2_fewestByAll_12 : decode cX2_fewestByAll 12 = .ok (.dup, 1) := by decide +kernel
theorem dX2_fewestByAll_13 : decode cX2_fewestByAll 13 = .ok (.ldc 188, 2) := by decide +kernel
theorem dX2_fewestByAll_15 : decode cX2_fewestByAll 15 = .ok (.invokespecial 86, 3) := by decide +kernel
theorem dX2_fewestByAll_18 : decode cX2_fewestByAll 18 = .ok (.athrow, 1) := by decide +kernel
theorem dX2_fewestByAll_19 : decode cX2_fewestByAll 19 = .ok (.aload_n 0, 1) := by decide +kernel
theorem dX2_fewestByAll_20 : decode cX2_fewestByAll 20 = .ok (.invokevirtual 138, 3) := by decide +kernel
theorem dX2_fewestByAll_23 : decode cX2_fewestByAll 23 = .ok (.aload_n 0, 1) := by decide +kernel
theorem dX2_fewestByAll_24 : decode cX2_fewestByAll 24 = .ok (.getfield 32, 3) := by decide +kernel
theorem dX2_fewestByAll_27 : decode cX2_fewestByAll 27 = .ok (.aload_n 0, 1) := by decide +kernel
theorem dX2_fewestByAll_28 : decode cX2_fewestByAll 28 = .ok (.getfield 46, 3) := by decide +kernel
theorem dX2_fewestByAll_31 : decode cX2_fewestByAll 31 = .ok (.invokevirtual 190, 3) := by decide +kernel
theorem dX2_fewestByAll_34 : decode cX2_fewestByAll 34 = .ok (.ireturn, 1) := by decide +kernel
theorem dX2_isColour_0 : decode cX2_isColour 0 = .ok (.iload_n 0, 1) := by decide +kernel
theorem dX2_isColour_1 : decode cX2_isColour 1 = .ok (.ifCond .lt 12, 3) := by decide +kernel
theorem dX2_isColour_4 : decode cX2_isColour 4 = .ok (.iload_n 0, 1) := by decide +kernel
theorem dX2_isColour_5 : decode cX2_isColour 5 = .ok (.iconst 5, 1) := by decide +kernel
theorem dX2_isColour_6 : decode cX2_isColour 6 = .ok (.if_icmp .ge 7, 3) := by decide +kernel
theorem dX2_isColour_9 : decode cX2_isColour 9 = .ok (.iconst 1, 1) := by decide +kernel
theorem dX2_isColour_10 : decode cX2_isColour 10 = .ok (.goto 4, 3) := by decide +kernel
theorem dX2_isColour_13 : decode cX2_isColour 13 = .ok (.iconst 0, 1) := by decide +kernel
theorem dX2_isColour_14 : decode cX2_isColour 14 = .ok (.ireturn, 1) := by decide +kernel
theorem dX2_isLane_0 : decode cX2_isLane 0 = .ok (.iload_n 1, 1) := by decide +kernel
theorem dX2_isLane_1 : decode cX2_isLane 1 = .ok (.ifCond .lt 15, 3) := by decide +kernel
theorem dX2_isLane_4 : decode cX2_isLane 4 = .ok (.iload_n 1, 1) := by decide +kernel
theorem dX2_isLane_5 : decode cX2_isLane 5 = .ok (.aload_n 0, 1) := by decide +kernel
theorem dX2_isLane_6 : decode cX2_isLane 6 = .ok (.getfield 36, 3) := by decide +kernel
theorem dX2_isLane_9 : decode cX2_isLane 9 = .ok (.if_icmp .ge 7, 3) := by decide +kernel
theorem dX2_isLane_12 : decode cX2_isLane 12 = .ok (.iconst 1, 1) := by decide +kernel
theorem dX2_isLane_13 : decode cX2_isLane 13 = .ok (.goto 4, 3) := by decide +kernel
theorem dX2_isLane_16 : decode cX2_isLane 16 = .ok (.iconst 0, 1) := by decide +kernel
theorem dX2_isLane_17 : decode cX2_isLane 17 = .ok (.ireturn, 1) := by decide +kernel
theorem dX2_isBody_0 : decode cX2_isBody 0 = .ok (.iload_n 1, 1) := by decide +kernel
theorem dX2_isBody_1 : decode cX2_isBody 1 = .ok (.ifCond .lt 15, 3) := by decide +kernel
theorem dX2_isBody_4 : decode cX2_isBody 4 = .ok (.iload_n 1, 1) := by decide +kernel
theorem dX2_isBody_5 : decode cX2_isBody 5 = .ok (.aload_n 0, 1) := by decide +kernel
theorem dX2_isBody_6 : decode cX2_isBody 6 = .ok (.getfield 60, 3) := by decide +kernel
theorem dX2_isBody_9 : decode cX2_isBody 9 = .ok (.if_icmp .ge 7, 3) := by decide +kernel
theorem dX2_isBody_12 : decode cX2_isBody 12 = .ok (.iconst 1, 1) := by decide +kernel
theorem dX2_isBody_13 : decode cX2_isBody 13 = .ok (.goto 4, 3) := by decide +kernel
theorem dX2_isBody_16 : decode cX2_isBody 16 = .ok (.iconst 0, 1) := by decide +kernel
theorem dX2_isBody_17 : decode cX2_isBody 17 = .ok (.ireturn, 1) := by decide +kernel
set_option maxRecDepth 20000 in
theorem ggX2_hasRoom_X0_count : GoodIn wsX2_hasRoom wsX0_count := goodIn_r _ [7, 8, 26, 27] (by decide +kernel) (by decide +kernel)
set_option maxRecDepth 20000 in
theorem gX2_hasRoom_X0_count : GoodIn wsX2_hasRoom (wsV RX2 164 RX0 yX0_count wsX0_count) := goodIn_app (goodIn_of _ (by decide +kernel)) ggX2_hasRoom_X0_count
theorem dX2_hasRoom_0 : decode cX2_hasRoom 0 = .ok (.aload_n 0, 1) := by decide +kernel
theorem dX2_hasRoom_1 : decode cX2_hasRoom 1 = .ok (.getfield 11, 3) := by decide +kernel
theorem dX2_hasRoom_4 : decode cX2_hasRoom 4 = .ok (.iload_n 1, 1) := by decide +kernel
theorem dX2_hasRoom_5 : decode cX2_hasRoom 5 = .ok (.aaload, 1) := by decide +kernel
theorem dX2_hasRoom_6 : decode cX2_hasRoom 6 = .ok (.invokevirtual 164, 3) := by decide +kernel
theorem dX2_hasRoom_9 : decode cX2_hasRoom 9 = .ok (.aload_n 0, 1) := by decide +kernel
theorem dX2_hasRoom_10 : decode cX2_hasRoom 10 = .ok (.getfield 40, 3) := by decide +kernel
theorem dX2_hasRoom_13 : decode cX2_hasRoom 13 = .ok (.if_icmp .ge 7, 3) := by decide +kernel
theorem dX2_hasRoom_16 : decode cX2_hasRoom 16 = .ok (.iconst 1, 1) := by decide +kernel
theorem dX2_hasRoom_17 : decode cX2_hasRoom 17 = .ok (.goto 4, 3) := by decide +kernel
theorem dX2_hasRoom_20 : decode cX2_hasRoom 20 = .ok (.iconst 0, 1) := by decide +kernel
theorem dX2_hasRoom_21 : decode cX2_hasRoom 21 = .ok (.ireturn, 1) := by decide +kernel
set_option maxRecDepth 20000 in
theorem ggX2_storeIsFull_X2_countAt : GoodIn wsX2_storeIsFull wsX2_countAt := goodIn_r _ [6, 7, 8, 9, 10, 11, 12, 13, 14, 15, 16, 17, 18, 19, 20, 21, 22, 23, 24, 25] (by decide +kernel) (by decide +kernel)
set_option maxRecDepth 20000 in
theorem gX2_storeIsFull_X2_countAt : GoodIn wsX2_storeIsFull (wsV RX2 151 RX2 yX2_countAt wsX2_countAt) := goodIn_app (goodIn_of _ (by decide +kernel)) ggX2_storeIsFull_X2_countAt
theorem dX2_storeIsFull_0 : decode cX2_storeIsFull 0 = .ok (.aload_n 0, 1) := by decide +kernel
theorem dX2_storeIsFull_1 : decode cX2_storeIsFull 1 = .ok (.bipush 10, 2) := by decide +kernel
theorem dX2_storeIsFull_3 : decode cX2_storeIsFull 3 = .ok (.invokevirtual 151, 3) := by decide +kernel
theorem dX2_storeIsFull_6 : decode cX2_storeIsFull 6 = .ok (.aload_n 0, 1) := by decide +kernel
theorem dX2_storeIsFull_7 : decode cX2_storeIsFull 7 = .ok (.getfield 43, 3) := by decide +kernel
theorem dX2_storeIsFull_10 : decode cX2_storeIsFull 10 = .ok (.if_icmp .lt 7, 3) := by decide +kernel
theorem dX2_storeIsFull_13 : decode cX2_storeIsFull 13 = .ok (.iconst 1, 1) := by decide +kernel
theorem dX2_storeIsFull_14 : decode cX2_storeIsFull 14 = .ok (.goto 4, 3) := by decide +kernel
theorem dX2_storeIsFull_17 : decode cX2_storeIsFull 17 = .ok (.iconst 0, 1) := by decide +kernel
theorem dX2_storeIsFull_18 : decode cX2_storeIsFull 18 = .ok (.ireturn, 1) := by decide +kernel
theorem dX2_countAt_0 : decode cX2_countAt 0 = .ok (.iconst 0, 1) := by decide +kernel
theorem dX2_countAt_1 : decode cX2_countAt 1 = .ok (.istore_n 2, 1) := by decide +kernel
theorem dX2_countAt_2 : decode cX2_countAt 2 = .ok (.iconst 0, 1) := by decide +kernel
theorem dX2_countAt_3 : decode cX2_countAt 3 = .ok (.istore_n 3, 1) := by decide +kernel
theorem dX2_countAt_4 : decode cX2_countAt 4 = .ok (.iload_n 3, 1) := by decide +kernel
theorem dX2_countAt_5 : decode cX2_countAt 5 = .ok (.aload_n 0, 1) := by decide +kernel
theorem dX2_countAt_6 : decode cX2_countAt 6 = .ok (.getfield 60, 3) := by decide +kernel
theorem dX2_countAt_9 : decode cX2_countAt 9 = .ok (.if_icmp .ge 22, 3) := by decide +kernel
theorem dX2_countAt_12 : decode cX2_countAt 12 = .ok (.aload_n 0, 1) := by decide +kernel
theorem dX2_countAt_13 : decode cX2_countAt 13 = .ok (.getfield 20, 3) := by decide +kernel
theorem dX2_countAt_16 : decode cX2_countAt 16 = .ok (.iload_n 3, 1) := by decide +kernel
theorem dX2_countAt_17 : decode cX2_countAt 17 = .ok (.iaload, 1) := by decide +kernel
theorem dX2_countAt_18 : decode cX2_countAt 18 = .ok (.iload_n 1, 1) := by decide +kernel
theorem dX2_countAt_19 : decode cX2_countAt 19 = .ok (.if_icmp .ne 6, 3) := by decide +kernel
theorem dX2_countAt_22 : decode cX2_countAt 22 = .ok (.iinc 2 1, 3) := by decide +kernel
theorem dX2_countAt_25 : decode cX2_countAt 25 = .ok (.iinc 3 1, 3) := by decide +kernel
theorem dX2_countAt_28 : decode cX2_countAt 28 = .ok (.goto (-24), 3) := by decide +kernel
theorem dX2_countAt_31 : decode cX2_countAt 31 = .ok (.iload_n 2, 1) := by decide +kernel
theorem dX2_countAt_32 : decode cX2_countAt 32 = .ok (.ireturn, 1) := by decide +kernel
set_option maxRecDepth 20000 in
theorem ggX2_countInLanes_X0_count : GoodIn wsX2_countInLanes wsX0_count := goodIn_r _ [7, 8, 26, 27] (by decide +kernel) (by decide +kernel)
set_option maxRecDepth 20000 in
theorem gX2_countInLanes_X0_count : GoodIn wsX2_countInLanes (wsV RX2 164 RX0 yX0_count wsX0_count) := goodIn_app (goodIn_of _ (by decide +kernel)) ggX2_countInLanes_X0_count
theorem dX2_countInLanes_0 : decode cX2_countInLanes 0 = .ok (.iconst 0, 1) := by decide +kernel
theorem dX2_countInLanes_1 : decode cX2_countInLanes 1 = .ok (.istore_n 1, 1) := by decide +kernel
theorem dX2_countInLanes_2 : decode cX2_countInLanes 2 = .ok (.iconst 0, 1) := by decide +kernel
theorem dX2_countInLanes_3 : decode cX2_countInLanes 3 = .ok (.istore_n 2, 1) := by decide +kernel
theorem dX2_countInLanes_4 : decode cX2_countInLanes 4 = .ok (.iload_n 2, 1) := by decide +kernel
theorem dX2_countInLanes_5 : decode cX2_countInLanes 5 = .ok (.aload_n 0, 1) := by decide +kernel
theorem dX2_countInLanes_6 : decode cX2_countInLanes 6 = .ok (.getfield 36, 3) := by decide +kernel
theorem dX2_countInLanes_9 : decode cX2_countInLanes 9 = .ok (.if_icmp .ge 21, 3) := by decide +kernel
theorem dX2_countInLanes_12 : decode cX2_countInLanes 12 = .ok (.iload_n 1, 1) := by decide +kernel
theorem dX2_countInLanes_13 : decode cX2_countInLanes 13 = .ok (.aload_n 0, 1) := by decide +kernel
theorem dX2_countInLanes_14 : decode cX2_countInLanes 14 = .ok (.getfield 11, 3) := by decide +kernel
theorem dX2_countInLanes_17 : decode cX2_countInLanes 17 = .ok (.iload_n 2, 1) := by decide +kernel
theorem dX2_countInLanes_18 : decode cX2_countInLanes 18 = .ok (.aaload, 1) := by decide +kernel
theorem dX2_countInLanes_19 : decode cX2_countInLanes 19 = .ok (.invokevirtual 164, 3) := by decide +kernel
theorem dX2_countInLanes_22 : decode cX2_countInLanes 22 = .ok (.iadd, 1) := by decide +kernel
theorem dX2_countInLanes_23 : decode cX2_countInLanes 23 = .ok (.istore_n 1, 1) := by decide +kernel
theorem dX2_countInLanes_24 : decode cX2_countInLanes 24 = .ok (.iinc 2 1, 3) := by decide +kernel
theorem dX2_countInLanes_27 : decode cX2_countInLanes 27 = .ok (.goto (-23), 3) := by decide +kernel
theorem dX2_countInLanes_30 : decode cX2_countInLanes 30 = .ok (.iload_n 1, 1) := by decide +kernel
theorem dX2_countInLanes_31 : decode cX2_countInLanes 31 = .ok (.ireturn, 1) := by decide +kernel
theorem dX2_lowestInStore_0 : decode cX2_lowestInStore 0 = .ok (.iconst 0, 1) := by decide +kernel
theorem dX2_lowestInStore_1 : decode cX2_lowestInStore 1 = .ok (.istore_n 1, 1) := by decide +kernel
theorem dX2_lowestInStore_2 : decode cX2_lowestInStore 2 = .ok (.iload_n 1, 1) := by decide +kernel
theorem dX2_lowestInStore_3 : decode cX2_lowestInStore 3 = .ok (.aload_n 0, 1) := by decide +kernel
theorem dX2_lowestInStore_4 : decode cX2_lowestInStore 4 = .ok (.getfield 60, 3) := by decide +kernel
theorem dX2_lowestInStore_7 : decode cX2_lowestInStore 7 = .ok (.if_icmp .ge 22, 3) := by decide +kernel
theorem dX2_lowestInStore_10 : decode cX2_lowestInStore 10 = .ok (.aload_n 0, 1) := by decide +kernel
theorem dX2_lowestInStore_11 : decode cX2_lowestInStore 11 = .ok (.getfield 20, 3) := by decide +kernel
theorem dX2_lowestInStore_14 : decode cX2_lowestInStore 14 = .ok (.iload_n 1, 1) := by decide +kernel
theorem dX2_lowestInStore_15 : decode cX2_lowestInStore 15 = .ok (.iaload, 1) := by decide +kernel
theorem dX2_lowestInStore_16 : decode cX2_lowestInStore 16 = .ok (.bipush 10, 2) := by decide +kernel
theorem dX2_lowestInStore_18 : decode cX2_lowestInStore 18 = .ok (.if_icmp .ne 5, 3) := by decide +kernel
theorem dX2_lowestInStore_21 : decode cX2_lowestInStore 21 = .ok (.iload_n 1, 1) := by decide +kernel
theorem dX2_lowestInStore_22 : decode cX2_lowestInStore 22 = .ok (.ireturn, 1) := by decide +kernel
theorem dX2_lowestInStore_23 : decode cX2_lowestInStore 23 = .ok (.iinc 1 1, 3) := by decide +kernel
theorem dX2_lowestInStore_26 : decode cX2_lowestInStore 26 = .ok (.goto (-24), 3) := by decide +kernel
theorem dX2_lowestInStore_29 : decode cX2_lowestInStore 29 = .ok (.iconst (-1), 1) := by decide +kernel
theorem dX2_lowestInStore_30 : decode cX2_lowestInStore 30 = .ok (.ireturn, 1) := by decide +kernel
theorem dX2_laneBehind_0 : decode cX2_laneBehind 0 = .ok (.iload_n 1, 1) := by decide +kernel
theorem dX2_laneBehind_1 : decode cX2_laneBehind 1 = .ok (.iconst 1, 1) := by decide +kernel
theorem dX2_laneBehind_2 : decode cX2_laneBehind 2 = .ok (.iadd, 1) := by decide +kernel
theorem dX2_laneBehind_3 : decode cX2_laneBehind 3 = .ok (.aload_n 0, 1) := by decide +kernel
theorem dX2_laneBehind_4 : decode cX2_laneBehind 4 = .ok (.getfield 36, 3) := by decide +kernel
theorem dX2_laneBehind_7 : decode cX2_laneBehind 7 = .ok (.if_icmp .ge 9, 3) := by decide +kernel
theorem dX2_laneBehind_10 : decode cX2_laneBehind 10 = .ok (.iload_n 1, 1) := by decide +kernel
theorem dX2_laneBehind_11 : decode cX2_laneBehind 11 = .ok (.iconst 1, 1) := by decide +kernel
theorem dX2_laneBehind_12 : decode cX2_laneBehind 12 = .ok (.iadd, 1) := by decide +kernel
theorem dX2_laneBehind_13 : decode cX2_laneBehind 13 = .ok (.goto 4, 3) := by decide +kernel
theorem dX2_laneBehind_16 : decode cX2_laneBehind 16 = .ok (.iconst 0, 1) := by decide +kernel
theorem dX2_laneBehind_17 : decode cX2_laneBehind 17 = .ok (.ireturn, 1) := by decide +kernel
theorem dX2_newBody_0 : decode cX2_newBody 0 = .ok (.aload_n 0, 1) := by decide +kernel
theorem dX2_newBody_1 : decode cX2_newBody 1 = .ok (.getfield 60, 3) := by decide +kernel
theorem dX2_newBody_4 : decode cX2_newBody 4 = .ok (.istore_n 2, 1) := by decide +kernel
theorem dX2_newBody_5 : decode cX2_newBody 5 = .ok (.aload_n 0, 1) := by decide +kernel
theorem dX2_newBody_6 : decode cX2_newBody 6 = .ok (.getfield 16, 3) := by decide +kernel
theorem dX2_newBody_9 : decode cX2_newBody 9 = .ok (.iload_n 2, 1) := by decide +kernel
theorem dX2_newBody_10 : decode cX2_newBody 10 = .ok (.iload_n 1, 1) := by decide +kernel
theorem dX2_newBody_11 : decode cX2_newBody 11 = .ok (.iastore, 1) := by decide +kernel
theorem dX2_newBody_12 : decode cX2_newBody 12 = .ok (.aload_n 0, 1) := by decide +kernel
theorem dX2_newBody_13 : decode cX2_newBody 13 = .ok (.dup, 1) := by decide +kernel
theorem dX2_newBody_14 : decode cX2_newBody 14 = .ok (.getfield 60, 3) := by decide +kernel
theorem dX2_newBody_17 : decode cX2_newBody 17 = .ok (.iconst 1, 1) := by decide +kernel
theorem dX2_newBody_18 : decode cX2_newBody 18 = .ok (.iadd, 1) := by decide +kernel
theorem dX2_newBody_19 : decode cX2_newBody 19 = .ok (.putfield 60, 3) := by decide +kernel
theorem dX2_newBody_22 : decode cX2_newBody 22 = .ok (.iload_n 2, 1) := by decide +kernel
theorem dX2_newBody_23 : decode cX2_newBody 23 = .ok (.ireturn, 1) := by decide +kernel
set_option maxRecDepth 20000 in
theorem ggX2_putInto_X0_add : GoodIn wsX2_putInto wsX0_add := goodIn_r _ [8, 9, 10, 34, 35] (by decide +kernel) (by decide +kernel)
set_option maxRecDepth 20000 in
theorem gX2_putInto_X0_add : GoodIn wsX2_putInto (wsV RX2 214 RX0 yX0_add wsX0_add) := goodIn_app (goodIn_of _ (by decide +kernel)) ggX2_putInto_X0_add
set_option maxRecDepth 20000 in
theorem ggX2_putInto_X2_laneBehind : GoodIn wsX2_putInto wsX2_laneBehind := goodIn_r _ [15, 16, 17, 18, 19, 20, 21, 22, 23, 24, 25, 26, 27, 28, 29, 30, 31, 32, 33] (by decide +kernel) (by decide +kernel)
set_option maxRecDepth 20000 in
theorem gX2_putInto_X2_laneBehind : GoodIn wsX2_putInto (wsV RX2 211 RX2 yX2_laneBehind wsX2_laneBehind) := goodIn_app (goodIn_of _ (by decide +kernel)) ggX2_putInto_X2_laneBehind
theorem dX2_putInto_0 : decode cX2_putInto 0 = .ok (.aload_n 0, 1) := by decide +kernel
theorem dX2_putInto_1 : decode cX2_putInto 1 = .ok (.getfield 11, 3) := by decide +kernel
theorem dX2_putInto_4 : decode cX2_putInto 4 = .ok (.iload_n 1, 1) := by decide +kernel
theorem dX2_putInto_5 : decode cX2_putInto 5 = .ok (.aaload, 1) := by decide +kernel
theorem dX2_putInto_6 : decode cX2_putInto 6 = .ok (.iload_n 2, 1) := by decide +kernel
theorem dX2_putInto_7 : decode cX2_putInto 7 = .ok (.invokevirtual 214, 3) := by decide +kernel
theorem dX2_putInto_10 : decode cX2_putInto 10 = .ok (.aload_n 0, 1) := by decide +kernel
theorem dX2_putInto_11 : decode cX2_putInto 11 = .ok (.getfield 20, 3) := by decide +kernel
theorem dX2_putInto_14 : decode cX2_putInto 14 = .ok (.iload_n 2, 1) := by decide +kernel
theorem dX2_putInto_15 : decode cX2_putInto 15 = .ok (.iload_n 1, 1) := by decide +kernel
theorem dX2_putInto_16 : decode cX2_putInto 16 = .ok (.iastore, 1) := by decide +kernel
theorem dX2_putInto_17 : decode cX2_putInto 17 = .ok (.aload_n 0, 1) := by decide +kernel
theorem dX2_putInto_18 : decode cX2_putInto 18 = .ok (.aload_n 0, 1) := by decide +kernel
theorem dX2_putInto_19 : decode cX2_putInto 19 = .ok (.iload_n 1, 1) := by decide +kernel
theorem dX2_putInto_20 : decode cX2_putInto 20 = .ok (.invokevirtual 211, 3) := by decide +kernel
theorem dX2_putInto_23 : decode cX2_putInto 23 = .ok (.putfield 208, 3) := by decide +kernel
theorem dX2_putInto_26 : decode cX2_putInto 26 = .ok (.return_, 1) := by decide +kernel
set_option maxRecDepth 20000 in
theorem ggX2_colourOf_X2_isBody : GoodIn wsX2_colourOf wsX2_isBody := goodIn_r _ [6, 7, 8, 9, 10, 11, 12, 13, 14, 15, 16, 17, 18, 19, 20, 21, 22, 23, 24] (by decide +kernel) (by decide +kernel)
set_option maxRecDepth 20000 in
theorem gX2_colourOf_X2_isBody : GoodIn wsX2_colourOf (wsV RX2 144 RX2 yX2_isBody wsX2_isBody) := goodIn_app (goodIn_of _ (by decide +kernel)) ggX2_colourOf_X2_isBody
theorem dX2_colourOf_0 : decode cX2_colourOf 0 = .ok (.aload_n 0, 1) := by decide +kernel
theorem dX2_colourOf_1 : decode cX2_colourOf 1 = .ok (.iload_n 1, 1) := by decide +kernel
theorem dX2_colourOf_2 : decode cX2_colourOf 2 = .ok (.invokevirtual 144, 3) := by decide +kernel
theorem dX2_colourOf_5 : decode cX2_colourOf 5 = .ok (.ifCond .eq 12, 3) := by decide +kernel
theorem dX2_colourOf_8 : decode cX2_colourOf 8 = .ok (.aload_n 0, 1) := by decide +kernel
theorem dX2_colourOf_9 : decode cX2_colourOf 9 = .ok (.getfield 16, 3) := by decide +kernel
theorem dX2_colourOf_12 : decode cX2_colourOf 12 = .ok (.iload_n 1, 1) := by decide +kernel
theorem dX2_colourOf_13 : decode cX2_colourOf 13 = .ok (.iaload, 1) := by decide +kernel
theorem dX2_colourOf_14 : decode cX2_colourOf 14 = .ok (.goto 4, 3) := by decide +kernel
theorem dX2_colourOf_17 : decode cX2_colourOf 17 = .ok (.iconst (-1), 1) := by decide +kernel
theorem dX2_colourOf_18 : decode cX2_colourOf 18 = .ok (.ireturn, 1) := by decide +kernel
set_option maxRecDepth 20000 in
theorem ggX2_takeHeadOf_X0_takeHead : GoodIn wsX2_takeHeadOf wsX0_takeHead := goodIn_r _ [11, 12, 13, 14, 15, 16, 10, 17, 44, 45] (by decide +kernel) (by decide +kernel)
set_option maxRecDepth 20000 in
theorem gX2_takeHeadOf_X0_takeHead : GoodIn wsX2_takeHeadOf (wsV RX2 225 RX0 yX0_takeHead wsX0_takeHead) := goodIn_app (goodIn_of _ (by decide +kernel)) ggX2_takeHeadOf_X0_takeHead
set_option maxRecDepth 20000 in
theorem ggX2_takeHeadOf_X2_isBody : GoodIn wsX2_takeHeadOf wsX2_isBody := goodIn_r _ [22, 23, 27, 28, 29, 30, 31, 32, 33, 34, 35, 36, 37, 38, 39, 40, 41, 42, 43] (by decide +kernel) (by decide +kernel)
set_option maxRecDepth 20000 in
theorem gX2_takeHeadOf_X2_isBody : GoodIn wsX2_takeHeadOf (wsV RX2 144 RX2 yX2_isBody wsX2_isBody) := goodIn_app (goodIn_of _ (by decide +kernel)) ggX2_takeHeadOf_X2_isBody
set_option maxRecDepth 20000 in
theorem ggX2_takeHeadOf_X2_changeBetween : GoodIn wsX2_takeHeadOf wsX2_changeBetween := goodIn_r _ [26] (by decide +kernel) (by decide +kernel)
set_option maxRecDepth 20000 in
theorem gX2_takeHeadOf_X2_changeBetween : GoodIn wsX2_takeHeadOf (va_wsS RX2 228 yX2_changeBetween wsX2_changeBetween) := goodIn_app (goodIn_of _ (by decide +kernel)) ggX2_takeHeadOf_X2_changeBetween
theorem dX2_takeHeadOf_0 : decode cX2_takeHeadOf 0 = .ok (.aload_n 0, 1) := by decide +kernel
theorem dX2_takeHeadOf_1 : decode cX2_takeHeadOf 1 = .ok (.getfield 11, 3) := by decide +kernel
theorem dX2_takeHeadOf_4 : decode cX2_takeHeadOf 4 = .ok (.iload_n 1, 1) := by decide +kernel
theorem dX2_takeHeadOf_5 : decode cX2_takeHeadOf 5 = .ok (.aaload, 1) := by decide +kernel
theorem dX2_takeHeadOf_6 : decode cX2_takeHeadOf 6 = .ok (.invokevirtual 225, 3) := by decide +kernel
theorem dX2_takeHeadOf_9 : decode cX2_takeHeadOf 9 = .ok (.istore_n 2, 1) := by decide +kernel
theorem dX2_takeHeadOf_10 : decode cX2_takeHeadOf 10 = .ok (.aload_n 0, 1) := by decide +kernel
theorem dX2_takeHeadOf_11 : decode cX2_takeHeadOf 11 = .ok (.iload_n 2, 1) := by decide +kernel
theorem dX2_takeHeadOf_12 : decode cX2_takeHeadOf 12 = .ok (.invokevirtual 144, 3) := by decide +kernel
theorem dX2_takeHeadOf_15 : decode cX2_takeHeadOf 15 = .ok (.ifCond .ne 5, 3) := by decide +kernel
theorem dX2_takeHeadOf_18 : decode cX2_takeHeadOf 18 = .ok (.iconst (-1), 1) := by decide +kernel
theorem dX2_takeHeadOf_19 : decode cX2_takeHeadOf 19 = .ok (.ireturn, 1) := by decide +kernel
theorem dX2_takeHeadOf_20 : decode cX2_takeHeadOf 20 = .ok (.aload_n 0, 1) := by decide +kernel
theorem dX2_takeHeadOf_21 : decode cX2_takeHeadOf 21 = .ok (.getfield 20, 3) := by decide +kernel
theorem dX2_takeHeadOf_24 : decode cX2_takeHeadOf 24 = .ok (.iload_n 2, 1) := by decide +kernel
theorem dX2_takeHeadOf_25 : decode cX2_takeHeadOf 25 = .ok (.bipush 10, 2) := by decide +kernel
theorem dX2_takeHeadOf_27 : decode cX2_takeHeadOf 27 = .ok (.iastore, 1) := by decide +kernel
theorem dX2_takeHeadOf_28 : decode cX2_takeHeadOf 28 = .ok (.aload_n 0, 1) := by decide +kernel
theorem dX2_takeHeadOf_29 : decode cX2_takeHeadOf 29 = .ok (.dup, 1) := by decide +kernel
theorem dX2_takeHeadOf_30 : decode cX2_takeHeadOf 30 = .ok (.getfield 175, 3) := by decide +kernel
theorem dX2_takeHeadOf_33 : decode cX2_takeHeadOf 33 = .ok (.aload_n 0, 1) := by decide +kernel
theorem dX2_takeHeadOf_34 : decode cX2_takeHeadOf 34 = .ok (.getfield 46, 3) := by decide +kernel
theorem dX2_takeHeadOf_37 : decode cX2_takeHeadOf 37 = .ok (.aload_n 0, 1) := by decide +kernel
theorem dX2_takeHeadOf_38 : decode cX2_takeHeadOf 38 = .ok (.getfield 16, 3) := by decide +kernel
theorem dX2_takeHeadOf_41 : decode cX2_takeHeadOf 41 = .ok (.iload_n 2, 1) := by decide +kernel
theorem dX2_takeHeadOf_42 : decode cX2_takeHeadOf 42 = .ok (.iaload, 1) := by decide +kernel
theorem dX2_takeHeadOf_43 : decode cX2_takeHeadOf 43 = .ok (.invokestatic 228, 3) := by decide +kernel
theorem dX2_takeHeadOf_46 : decode cX2_takeHeadOf 46 = .ok (.iadd, 1) := by decide +kernel
theorem dX2_takeHeadOf_47 : decode cX2_takeHeadOf 47 = .ok (.putfield 175, 3) := by decide +kernel
theorem dX2_takeHeadOf_50 : decode cX2_takeHeadOf 50 = .ok (.aload_n 0, 1) := by decide +kernel
theorem dX2_takeHeadOf_51 : decode cX2_takeHeadOf 51 = .ok (.dup, 1) := by decide +kernel
theorem dX2_takeHeadOf_52 : decode cX2_takeHeadOf 52 = .ok (.getfield 178, 3) := by decide +kernel
theorem dX2_takeHeadOf_55 : decode cX2_takeHeadOf 55 = .ok (.iconst 1, 1) := by decide +kernel
theorem dX2_takeHeadOf_56 : decode cX2_takeHeadOf 56 = .ok (.iadd, 1) := by decide +kernel
theorem dX2_takeHeadOf_57 : decode cX2_takeHeadOf 57 = .ok (.putfield 178, 3) := by decide +kernel
theorem dX2_takeHeadOf_60 : decode cX2_takeHeadOf 60 = .ok (.aload_n 0, 1) := by decide +kernel
theorem dX2_takeHeadOf_61 : decode cX2_takeHeadOf 61 = .ok (.aload_n 0, 1) := by decide +kernel
theorem dX2_takeHeadOf_62 : decode cX2_takeHeadOf 62 = .ok (.getfield 16, 3) := by decide +kernel
theorem dX2_takeHeadOf_65 : decode cX2_takeHeadOf 65 = .ok (.iload_n 2, 1) := by decide +kernel
theorem dX2_takeHeadOf_66 : decode cX2_takeHeadOf 66 = .ok (.iaload, 1) := by decide +kernel
theorem dX2_takeHeadOf_67 : decode cX2_takeHeadOf 67 = .ok (.putfield 46, 3) := by decide +kernel
theorem dX2_takeHeadOf_70 : decode cX2_takeHeadOf 70 = .ok (.iload_n 2, 1) := by decide +kernel
theorem dX2_takeHeadOf_71 : decode cX2_takeHeadOf 71 = .ok (.ireturn, 1) := by decide +kernel
theorem dX2_changeBetween_0 : decode cX2_changeBetween 0 = .ok (.iload_n 0, 1) := by decide +kernel
theorem dX2_changeBetween_1 : decode cX2_changeBetween 1 = .ok (.iconst (-1), 1) := by decide +kernel
theorem dX2_changeBetween_2 : decode cX2_changeBetween 2 = .ok (.if_icmp .eq 8, 3) := by decide +kernel
theorem dX2_changeBetween_5 : decode cX2_changeBetween 5 = .ok (.iload_n 0, 1) := by decide +kernel
theorem dX2_changeBetween_6 : decode cX2_changeBetween 6 = .ok (.iload_n 1, 1) := by decide +kernel
theorem dX2_changeBetween_7 : decode cX2_changeBetween 7 = .ok (.if_icmp .ne 7, 3) := by decide +kernel
theorem dX2_changeBetween_10 : decode cX2_changeBetween 10 = .ok (.iconst 0, 1) := by decide +kernel
theorem dX2_changeBetween_11 : decode cX2_changeBetween 11 = .ok (.goto 4, 3) := by decide +kernel
theorem dX2_changeBetween_14 : decode cX2_changeBetween 14 = .ok (.iconst 1, 1) := by decide +kernel
theorem dX2_changeBetween_15 : decode cX2_changeBetween 15 = .ok (.ireturn, 1) := by decide +kernel
set_option maxRecDepth 20000 in
theorem ggX2_forgetBodies_X0_clear : GoodIn wsX2_forgetBodies wsX0_clear := goodIn_r _ [12, 13, 31, 32] (by decide +kernel) (by decide +kernel)
set_option maxRecDepth 20000 in
theorem gX2_forgetBodies_X0_clear : GoodIn wsX2_forgetBodies (wsV RX2 231 RX0 yX0_clear wsX0_clear) := goodIn_app (goodIn_of _ (by decide +kernel)) ggX2_forgetBodies_X0_clear
theorem dX2_forgetBodies_0 : decode cX2_forgetBodies 0 = .ok (.iconst 0, 1) := by decide +kernel
theorem dX2_forgetBodies_1 : decode cX2_forgetBodies 1 = .ok (.istore_n 1, 1) := by decide +kernel
theorem dX2_forgetBodies_2 : decode cX2_forgetBodies 2 = .ok (.iload_n 1, 1) := by decide +kernel
theorem dX2_forgetBodies_3 : decode cX2_forgetBodies 3 = .ok (.iconst 5, 1) := by decide +kernel
theorem dX2_forgetBodies_4 : decode cX2_forgetBodies 4 = .ok (.if_icmp .ge 18, 3) := by decide +kernel
theorem dX2_forgetBodies_7 : decode cX2_forgetBodies 7 = .ok (.aload_n 0, 1) := by decide +kernel
theorem dX2_forgetBodies_8 : decode cX2_forgetBodies 8 = .ok (.getfield 11, 3) := by decide +kernel
theorem dX2_forgetBodies_11 : decode cX2_forgetBodies 11 = .ok (.iload_n 1, 1) := by decide +kernel
theorem dX2_forgetBodies_12 : decode cX2_forgetBodies 12 = .ok (.aaload, 1) := by decide +kernel
theorem dX2_forgetBodies_13 : decode cX2_forgetBodies 13 = .ok (.invokevirtual 231, 3) := by decide +kernel
theorem dX2_forgetBodies_16 : decode cX2_forgetBodies 16 = .ok (.iinc 1 1, 3) := by decide +kernel
theorem dX2_forgetBodies_19 : decode cX2_forgetBodies 19 = .ok (.goto (-17), 3) := by decide +kernel
theorem dX2_forgetBodies_22 : decode cX2_forgetBodies 22 = .ok (.aload_n 0, 1) := by decide +kernel
theorem dX2_forgetBodies_23 : decode cX2_forgetBodies 23 = .ok (.iconst 0, 1) := by decide +kernel
theorem dX2_forgetBodies_24 : decode cX2_forgetBodies 24 = .ok (.putfield 60, 3) := by decide +kernel
theorem dX2_forgetBodies_27 : decode cX2_forgetBodies 27 = .ok (.aload_n 0, 1) := by decide +kernel
theorem dX2_forgetBodies_28 : decode cX2_forgetBodies 28 = .ok (.iconst 0, 1) := by decide +kernel
theorem dX2_forgetBodies_29 : decode cX2_forgetBodies 29 = .ok (.putfield 161, 3) := by decide +kernel
theorem dX2_forgetBodies_32 : decode cX2_forgetBodies 32 = .ok (.aload_n 0, 1) := by decide +kernel
theorem dX2_forgetBodies_33 : decode cX2_forgetBodies 33 = .ok (.iconst 0, 1) := by decide +kernel
theorem dX2_forgetBodies_34 : decode cX2_forgetBodies 34 = .ok (.putfield 208, 3) := by decide +kernel
theorem dX2_forgetBodies_37 : decode cX2_forgetBodies 37 = .ok (.aload_n 0, 1) := by decide +kernel
theorem dX2_forgetBodies_38 : decode cX2_forgetBodies 38 = .ok (.iconst (-1), 1) := by decide +kernel
theorem dX2_forgetBodies_39 : decode cX2_forgetBodies 39 = .ok (.putfield 46, 3) := by decide +kernel
theorem dX2_forgetBodies_42 : decode cX2_forgetBodies 42 = .ok (.aload_n 0, 1) := by decide +kernel
theorem dX2_forgetBodies_43 : decode cX2_forgetBodies 43 = .ok (.iconst 0, 1) := by decide +kernel
theorem dX2_forgetBodies_44 : decode cX2_forgetBodies 44 = .ok (.putfield 175, 3) := by decide +kernel
theorem dX2_forgetBodies_47 : decode cX2_forgetBodies 47 = .ok (.aload_n 0, 1) := by decide +kernel
theorem dX2_forgetBodies_48 : decode cX2_forgetBodies 48 = .ok (.iconst 0, 1) := by decide +kernel
theorem dX2_forgetBodies_49 : decode cX2_forgetBodies 49 = .ok (.putfield 178, 3) := by decide +kernel
theorem dX2_forgetBodies_52 : decode cX2_forgetBodies 52 = .ok (.return_, 1) := by decide +kernel
set_option maxRecDepth 20000 in
theorem ggX2_copyLanesIntoPlan_X1_clear : GoodIn wsX2_copyLanesIntoPlan wsX1_clear := goodIn_r _ [8, 9, 54, 55, 56, 57, 58, 59] (by decide +kernel) (by decide +kernel)
set_option maxRecDepth 20000 in
theorem gX2_copyLanesIntoPlan_X1_clear : GoodIn wsX2_copyLanesIntoPlan (wsV RX2 234 RX1 yX1_clear wsX1_clear) := goodIn_app (goodIn_of _ (by decide +kernel)) ggX2_copyLanesIntoPlan_X1_clear
set_option maxRecDepth 20000 in
theorem ggX2_copyLanesIntoPlan_X0_count : GoodIn wsX2_copyLanesIntoPlan wsX0_count := goodIn_r _ [14, 15, 60, 61] (by decide +kernel) (by decide +kernel)
set_option maxRecDepth 20000 in
theorem gX2_copyLanesIntoPlan_X0_count : GoodIn wsX2_copyLanesIntoPlan (wsV RX2 164 RX0 yX0_count wsX0_count) := goodIn_app (goodIn_of _ (by decide +kernel)) ggX2_copyLanesIntoPlan_X0_count
set_option maxRecDepth 20000 in
theorem ggX2_copyLanesIntoPlan_X0_at : GoodIn wsX2_copyLanesIntoPlan wsX0_at := goodIn_r _ [19, 15, 20, 60, 61] (by decide +kernel) (by decide +kernel)
set_option maxRecDepth 20000 in
theorem gX2_copyLanesIntoPlan_X0_at : GoodIn wsX2_copyLanesIntoPlan (wsV RX2 167 RX0 yX0_at wsX0_at) := goodIn_app (goodIn_of _ (by decide +kernel)) ggX2_copyLanesIntoPlan_X0_at
set_option maxRecDepth 20000 in
theorem ggX2_copyLanesIntoPlan_X2_colourOf : GoodIn wsX2_copyLanesIntoPlan wsX2_colourOf := goodIn_r _ [25, 26, 27, 28, 29, 24, 30, 31, 37, 38, 39, 40, 41, 42, 43, 44, 45, 46, 47, 48, 49, 50, 51, 52, 53] (by decide +kernel) (by decide +kernel)
set_option maxRecDepth 20000 in
theorem gX2_copyLanesIntoPlan_X2_colourOf : GoodIn wsX2_copyLanesIntoPlan (wsV RX2 205 RX2 yX2_colourOf wsX2_colourOf) := goodIn_app (goodIn_of _ (by decide +kernel)) ggX2_copyLanesIntoPlan_X2_colourOf
set_option maxRecDepth 20000 in
theorem ggX2_copyLanesIntoPlan_X1_add : GoodIn wsX2_copyLanesIntoPlan wsX1_add := goodIn_r _ [35, 9, 36, 54, 55, 56, 57, 58, 59] (by decide +kernel) (by decide +kernel)
set_option maxRecDepth 20000 in
theorem gX2_copyLanesIntoPlan_X1_add : GoodIn wsX2_copyLanesIntoPlan (wsV RX2 235 RX1 yX1_add wsX1_add) := goodIn_app (goodIn_of _ (by decide +kernel)) ggX2_copyLanesIntoPlan_X1_add
theorem dX2_copyLanesIntoPlan_0 : decode cX2_copyLanesIntoPlan 0 = .ok (.aload_n 0, 1) := by decide +kernel
theorem dX2_copyLanesIntoPlan_1 : decode cX2_copyLanesIntoPlan 1 = .ok (.getfield 32, 3) := by decide +kernel
theorem dX2_copyLanesIntoPlan_4 : decode cX2_copyLanesIntoPlan 4 = .ok (.invokevirtual 234, 3) := by decide +kernel
theorem dX2_copyLanesIntoPlan_7 : decode cX2_copyLanesIntoPlan 7 = .ok (.iconst 0, 1) := by decide +kernel
theorem dX2_copyLanesIntoPlan_8 : decode cX2_copyLanesIntoPlan 8 = .ok (.istore_n 1, 1) := by decide +kernel
theorem dX2_copyLanesIntoPlan_9 : decode cX2_copyLanesIntoPlan 9 = .ok (.iload_n 1, 1) := by decide +kernel
theorem dX2_copyLanesIntoPlan_10 : decode cX2_copyLanesIntoPlan 10 = .ok (.aload_n 0, 1) := by decide +kernel
theorem dX2_copyLanesIntoPlan_11 : decode cX2_copyLanesIntoPlan 11 = .ok (.getfield 36, 3) := by decide +kernel
theorem dX2_copyLanesIntoPlan_14 : decode cX2_copyLanesIntoPlan 14 = .ok (.if_icmp .ge 52, 3) := by decide +kernel
theorem dX2_copyLanesIntoPlan_17 : decode cX2_copyLanesIntoPlan 17 = .ok (.iconst 0, 1) := by decide +kernel
theorem dX2_copyLanesIntoPlan_18 : decode cX2_copyLanesIntoPlan 18 = .ok (.istore_n 2, 1) := by decide +kernel
theorem dX2_copyLanesIntoPlan_19 : decode cX2_copyLanesIntoPlan 19 = .ok (.iload_n 2, 1) := by decide +kernel
theorem dX2_copyLanesIntoPlan_20 : decode cX2_copyLanesIntoPlan 20 = .ok (.aload_n 0, 1) := by decide +kernel
theorem dX2_copyLanesIntoPlan_21 : decode cX2_copyLanesIntoPlan 21 = .ok (.getfield 11, 3) := by decide +kernel
theorem dX2_copyLanesIntoPlan_24 : decode cX2_copyLanesIntoPlan 24 = .ok (.iload_n 1, 1) := by decide +kernel
theorem dX2_copyLanesIntoPlan_25 : decode cX2_copyLanesIntoPlan 25 = .ok (.aaload, 1) := by decide +kernel
theorem dX2_copyLanesIntoPlan_26 : decode cX2_copyLanesIntoPlan 26 = .ok (.invokevirtual 164, 3) := by decide +kernel
theorem dX2_copyLanesIntoPlan_29 : decode cX2_copyLanesIntoPlan 29 = .ok (.if_icmp .ge 31, 3) := by decide +kernel
theorem dX2_copyLanesIntoPlan_32 : decode cX2_copyLanesIntoPlan 32 = .ok (.aload_n 0, 1) := by decide +kernel
theorem dX2_copyLanesIntoPlan_33 : decode cX2_copyLanesIntoPlan 33 = .ok (.getfield 32, 3) := by decide +kernel
theorem dX2_copyLanesIntoPlan_36 : decode cX2_copyLanesIntoPlan 36 = .ok (.iload_n 1, 1) := by decide +kernel
theorem dX2_copyLanesIntoPlan_37 : decode cX2_copyLanesIntoPlan 37 = .ok (.aload_n 0, 1) := by decide +kernel
theorem dX2_copyLanesIntoPlan_38 : decode cX2_copyLanesIntoPlan 38 = .ok (.aload_n 0, 1) := by decide +kernel
theorem dX2_copyLanesIntoPlan_39 : decode cX2_copyLanesIntoPlan 39 = .ok (.getfield 11, 3) := by decide +kernel
theorem dX2_copyLanesIntoPlan_42 : decode cX2_copyLanesIntoPlan 42 = .ok (.iload_n 1, 1) := by decide +kernel
theorem dX2_copyLanesIntoPlan_43 : decode cX2_copyLanesIntoPlan 43 = .ok (.aaload, 1) := by decide +kernel
theorem dX2_copyLanesIntoPlan_44 : decode cX2_copyLanesIntoPlan 44 = .ok (.iload_n 2, 1) := by decide +kernel
theorem dX2_copyLanesIntoPlan_45 : decode cX2_copyLanesIntoPlan 45 = .ok (.invokevirtual 167, 3) := by decide +kernel
theorem dX2_copyLanesIntoPlan_48 : decode cX2_copyLanesIntoPlan 48 = .ok (.invokevirtual 205, 3) := by decide +kernel
theorem dX2_copyLanesIntoPlan_51 : decode cX2_copyLanesIntoPlan 51 = .ok (.invokevirtual 235, 3) := by decide +kernel
theorem dX2_copyLanesIntoPlan_54 : decode cX2_copyLanesIntoPlan 54 = .ok (.iinc 2 1, 3) := by decide +kernel
theorem dX2_copyLanesIntoPlan_57 : decode cX2_copyLanesIntoPlan 57 = .ok (.goto (-38), 3) := by decide +kernel
theorem dX2_copyLanesIntoPlan_60 : decode cX2_copyLanesIntoPlan 60 = .ok (.iinc 1 1, 3) := by decide +kernel
theorem dX2_copyLanesIntoPlan_63 : decode cX2_copyLanesIntoPlan 63 = .ok (.goto (-54), 3) := by decide +kernel
theorem dX2_copyLanesIntoPlan_66 : decode cX2_copyLanesIntoPlan 66 = .ok (.return_, 1) := by decide +kernel
end
section
/-! PURE WORDS of the class -/
/-- the first k < n with p, -1 if there is none -/
def fstB (p : Int → Bool) : Nat → Int
  | 0 => -1
  | n + 1 => if fstB p n = -1 then (if p n = true then (n : Int) else -1) else fstB p n
theorem fstB_no {p : Int → Bool} : ∀ {n : Nat}, fstB p n = -1 → p n = false → fstB p (n + 1) = -1 := fun h h2 => by unfold fstB; rw [if_pos h, if_neg (by rw [h2]; decide)]
theorem fstB_yes {p : Int → Bool} {n : Nat} (h : fstB p n = -1) (h2 : p n = true) : fstB p (n + 1) = n := by unfold fstB; rw [if_pos h, if_pos h2]
theorem fstB_stay {p : Int → Bool} {n : Nat} (h : ¬ fstB p n = -1) : ∀ {k : Nat}, n ≤ k → fstB p k = fstB p n
  | 0, hk => by have : n = 0 := by omega
                rw [this]
  | k + 1, hk => by
    rcases Nat.lt_or_ge n (k + 1) with q | q
    · have e := fstB_stay (p := p) h (show n ≤ k by omega)
      show (if fstB p k = -1 then (if p k = true then (k : Int) else -1) else fstB p k) = fstB p n
      rw [if_neg (by rw [e]; exact h), e]
    · have : n = k + 1 := by omega
      rw [this]
theorem fstB_at {p : Int → Bool} {n m : Nat} (h : fstB p n = -1) (h2 : p n = true) (hm : n < m) : fstB p m = n := by
  have e := fstB_yes h h2
  rw [fstB_stay (n := n + 1) (by rw [e]; omega) (by omega), e]
theorem fstB_b (p : Int → Bool) : ∀ n : Nat, -1 ≤ fstB p n ∧ fstB p n < n
  | 0 => ⟨Int.le_refl _, by show (-1 : Int) < 0; decide⟩
  | n + 1 => by
    have := fstB_b p n
    unfold fstB
    split
    · split <;> omega
    · omega
theorem fstB_ok {p : Int → Bool} : ∀ {n : Nat}, ¬ fstB p n = -1 → p (fstB p n) = true
  | 0, h => absurd rfl h
  | n + 1, h => by
    unfold fstB at h ⊢
    by_cases e : fstB p n = -1
    · rw [if_pos e] at h ⊢
      by_cases e2 : p n = true
      · rw [if_pos e2]; exact e2
      · rw [if_neg e2] at h; exact absurd rfl h
    · rw [if_neg e]
      exact fstB_ok e
theorem fstB_none {p : Int → Bool} : ∀ {n : Nat}, fstB p n = -1 → ∀ k : Int, 0 ≤ k → k < n → p k = false
  | 0, _, k, h0, h1 => by omega
  | n + 1, h, k, h0, h1 => by
    unfold fstB at h
    by_cases e : fstB p n = -1
    · rw [if_pos e] at h
      by_cases e2 : p n = true
      · rw [if_pos e2] at h; omega
      · by_cases e3 : k = n
        · rw [e3]; simpa using e2
        · exact fstB_none e k h0 (by omega)
    · rw [if_neg e] at h
      exact absurd h e
theorem fstB_congr {p q : Int → Bool} : ∀ {n : Nat}, (∀ k : Int, 0 ≤ k → k < n → p k = q k) → fstB p n = fstB q n
  | 0, _ => rfl
  | n + 1, h => by
    unfold fstB
    rw [fstB_congr (n := n) (fun k h0 h1 => h k h0 (by omega)), h n (by omega) (by omega)]
/-- the lane behind -/
def behS (S : St) (i : Int) : Int := if i + 1 < S.1 0 then i + 1 else 0
def emN (S : St) : Nat → Int
  | 0 => -1
  | n + 1 => if S.2 0 n < (if emN S n = -1 then S.1 1 else S.2 0 (emN S n)) then (n : Int) else emN S n
theorem emN_b (S : St) : ∀ n : Nat, -1 ≤ emN S n ∧ emN S n < n
  | 0 => ⟨Int.le_refl _, by show (-1 : Int) < 0; decide⟩
  | n + 1 => by
    have := emN_b S n
    unfold emN
    split <;> omega
def trN (S : St) : Nat → Int → Int
  | 0, _ => -1
  | k + 1, i => if S.2 0 i < S.1 1 then i else trN S k (behS S i)
theorem trN_b (S : St) (hL : 1 ≤ S.1 0) : ∀ (k : Nat) (i : Int), 0 ≤ i → i < S.1 0 → -1 ≤ trN S k i ∧ trN S k i < S.1 0
  | 0, i, _, _ => by unfold trN; omega
  | k + 1, i, h0, h1 => by
    have := trN_b S hL k (behS S i) (by unfold behS; split <;> omega) (by unfold behS; split <;> omega)
    unfold trN
    split <;> omega
def e1S (S : St) (c : Int) : Int := fstB (fun i => decide (S.2 0 i < S.1 1 ∧ colS S (atS S i (S.2 0 i - 1)) = c)) (S.1 0).toNat
/-- the lane into which a body of colour c goes, -1 if none has room -/
def inS (S : St) (c : Int) : Int := if S.1 3 = 1 then (if e1S S c = -1 then emN S (S.1 0).toNat else e1S S c) else if S.1 3 = 2 then (if trN S (S.1 0).toNat (S.1 7) = -1 then emN S (S.1 0).toNat else trN S (S.1 0).toNat (S.1 7)) else emN S (S.1 0).toNat
def putS (S : St) (i b : Int) : St := us (us (ua (addS S i b) 2 b i) 7 (behS S i)) 11 i
def newS (S : St) (c : Int) : St := us (ua S 1 (S.1 5) c) 5 (S.1 5 + 1)
def blN (f : Int → Int) (c : Int) : Nat → Int → Int
  | 0, i => i
  | k + 1, i => if f i = c then blN f c k (i + 1) else i
def blkS (S : St) (i : Int) : Int := blN (fun j => colS S (atS S i j)) (colS S (atS S i 0)) (S.2 0 i).toNat 0
theorem blN_b (f : Int → Int) (c : Int) : ∀ (k : Nat) (i : Int), i ≤ blN f c k i ∧ blN f c k i ≤ i + k
  | 0, i => by unfold blN; omega
  | k + 1, i => by
    have := blN_b f c k (i + 1)
    unfold blN
    split <;> omega
theorem blkS_b {S : St} (hI : Inv S) {i : Int} (h0 : 0 ≤ i) (h5 : i < 5) : 0 ≤ blkS S i ∧ blkS S i ≤ 6 := by
  have h1 := blN_b (fun j => colS S (atS S i j)) (colS S (atS S i 0)) (S.2 0 i).toNat 0
  have h2 := hI.2.1 i h0 h5
  have h3 := hI.1
  unfold blkS
  omega
def lhN (p : Int → Bool) (S : St) : Nat → Int
  | 0 => -1
  | n + 1 => if p n = true ∧ (lhN p S n = -1 ∨ atS S n 0 < atS S (lhN p S n) 0) then (n : Int) else lhN p S n
theorem lhN_b (p : Int → Bool) (S : St) : ∀ n : Nat, -1 ≤ lhN p S n ∧ lhN p S n < n
  | 0 => ⟨Int.le_refl _, by show (-1 : Int) < 0; decide⟩
  | n + 1 => by
    have := lhN_b p S n
    unfold lhN
    split <;> omega
theorem lhN_congr {p q : Int → Bool} {S : St} : ∀ {n : Nat}, (∀ k : Int, 0 ≤ k → k < n → p k = q k) → lhN p S n = lhN q S n
  | 0, _ => rfl
  | n + 1, h => by
    unfold lhN
    rw [lhN_congr (n := n) (fun k h0 h1 => h k h0 (by omega)), h n (by omega) (by omega)]
theorem lhN_ok {p : Int → Bool} {S : St} : ∀ {n : Nat}, ¬ lhN p S n = -1 → p (lhN p S n) = true
  | 0, h => absurd rfl h
  | n + 1, h => by
    unfold lhN at h ⊢
    by_cases e : p n = true ∧ (lhN p S n = -1 ∨ atS S n 0 < atS S (lhN p S n) 0)
    · rw [if_pos e]; exact e.1
    · rw [if_neg e] at h ⊢
      exact lhN_ok h
/-- the heads that fit: there is one, its colour is c (-2: any), its block is no shorter -/
def fitS (S : St) (c sh : Int) : Int → Bool := fun i => decide (¬ atS S i 0 = -1 ∧ (c = -2 ∨ colS S (atS S i 0) = c) ∧ sh ≤ blkS S i)
def mxN (S : St) : Nat → Int
  | 0 => 0
  | n + 1 => if mxN S n < blkS S n then blkS S n else mxN S n
theorem mxN_b {S : St} (hI : Inv S) : ∀ n : Nat, n ≤ 5 → 0 ≤ mxN S n ∧ mxN S n ≤ 6
  | 0, _ => ⟨Int.le_refl 0, by show (0 : Int) ≤ 6; decide⟩
  | n + 1, h => by
    have h1 := mxN_b hI n (by omega)
    have h2 := blkS_b hI (i := n) (by omega) (by omega)
    unfold mxN
    split <;> omega
def alS (S : St) : Int := if S.1 4 = 0 then -1 else lhN (fitS S (S.1 8) 1) S (S.1 0).toNat
/-- the lane whose head is released by the exit rule, -1 if all are empty -/
def outS (S : St) : Int := if alS S = -1 then lhN (fitS S (-2) (if S.1 4 = 2 then mxN S (S.1 0).toNat else 1)) S (S.1 0).toNat else alS S
def chg (a b : Int) : Int := if a = -1 ∨ a = b then 0 else 1
theorem chg_b (a b : Int) : 0 ≤ chg a b ∧ chg a b ≤ 1 := by unfold chg; split <;> omega
/-- the head of lane i released -/
def relS (S : St) (i : Int) : St := us (us (us (ua (takeS S i) 2 (atS S i 0) 10) 9 (S.1 9 + chg (S.1 8) (S.2 1 (atS S i 0)))) 10 (S.1 10 + 1)) 8 (S.2 1 (atS S i 0))
def clN (S : St) : Nat → St
  | 0 => S
  | n + 1 => ua (clN S n) 0 n 0
def fogS (S : St) : St := us (us (us (us (us (us (us (clN S 5) 5 0) 6 0) 7 0) 8 (-1)) 9 0) 10 0) 11 (-1)

set_option maxHeartbeats 4000000 in
set_option maxRecDepth 100000 in
theorem c_X2_isColour {l : Launch} {G : va_G × (Nat → ClassId)} {w0 : va_W} {z : Int} (hz : -2147483648 ≤ z ∧ z < 2147483648) : Mi l G yX2_isColour wsX2_isColour ({ frames := 0, cells := 0, slots := 0, locals := 0 } : Room) [.int (zI z)] w0 (fun r u => r = (if 0 ≤ z ∧ z < 5 then 1 else 0) ∧ u = w0) := by
  refine Mi.of (own := RX2) (cc := cX2_isColour) (maxL := 1) (ret := (some .boolean)) (by decide) rfl rfl rfl ?_
  intro p e s m args below meth c A C hN
  have hts := C.2.2.2.2.1
  refine aw_iload_n C dX2_isColour_0 rfl ?_
  refine aw_if_lt (tgt := 13) C dX2_isColour_1 (by decide) (by omega) (fun c1 => ?_) (fun c1 => ?_)
  · refine aw_iconst C dX2_isColour_13 ?_
    exact aw_zret C dX2_isColour_14 rfl ⟨by first | rw [if_pos (by omega)] | rw [if_neg (by omega)], rfl⟩
  · refine aw_iload_n C dX2_isColour_4 rfl ?_
    refine aw_iconst C dX2_isColour_5 ?_
    refine aw_icmp_ge (tgt := 13) C dX2_isColour_6 (by decide) (by omega) (by omega) (fun c6 => ?_) (fun c6 => ?_)
    · refine aw_iconst C dX2_isColour_13 ?_
      exact aw_zret C dX2_isColour_14 rfl ⟨by first | rw [if_pos (by omega)] | rw [if_neg (by omega)], rfl⟩
    · refine aw_iconst C dX2_isColour_9 ?_
      refine aw_goto (tgt := 14) C dX2_isColour_10 (by decide) ?_
      exact aw_zret C dX2_isColour_14 rfl ⟨by first | rw [if_pos (by omega)] | rw [if_neg (by omega)], rfl⟩
set_option maxHeartbeats 4000000 in
set_option maxRecDepth 100000 in
theorem c_X2_changeBetween {l : Launch} {G : va_G × (Nat → ClassId)} {w0 : va_W} {a b : Int} (ha : -2147483648 ≤ a ∧ a < 2147483648) (hb : -2147483648 ≤ b ∧ b < 2147483648) : Mi l G yX2_changeBetween wsX2_changeBetween ({ frames := 0, cells := 0, slots := 0, locals := 0 } : Room) [.int (zI a), .int (zI b)] w0 (fun r u => r = chg a b ∧ u = w0) := by
  refine Mi.of (own := RX2) (cc := cX2_changeBetween) (maxL := 2) (ret := (some .int)) (by decide) rfl rfl rfl ?_
  intro p e s m args below meth c A C hN
  have hts := C.2.2.2.2.1
  refine aw_iload_n C dX2_changeBetween_0 rfl ?_
  refine aw_iconst C dX2_changeBetween_1 ?_
  refine aw_icmp_eq (tgt := 10) C dX2_changeBetween_2 (by decide) (by omega) (by omega) (fun c2 => ?_) (fun c2 => ?_)
  · refine aw_iconst C dX2_changeBetween_10 ?_
    refine aw_goto (tgt := 15) C dX2_changeBetween_11 (by decide) ?_
    exact aw_iret C dX2_changeBetween_15 ⟨by unfold chg; first | rw [if_pos (by omega)] | rw [if_neg (by omega)], rfl⟩
  · refine aw_iload_n C dX2_changeBetween_5 rfl ?_
    refine aw_iload_n C dX2_changeBetween_6 rfl ?_
    refine aw_icmp_ne (tgt := 14) C dX2_changeBetween_7 (by decide) (by omega) (by omega) (fun c7 => ?_) (fun c7 => ?_)
    · refine aw_iconst C dX2_changeBetween_14 ?_
      exact aw_iret C dX2_changeBetween_15 ⟨by unfold chg; first | rw [if_pos (by omega)] | rw [if_neg (by omega)], rfl⟩
    · refine aw_iconst C dX2_changeBetween_10 ?_
      refine aw_goto (tgt := 15) C dX2_changeBetween_11 (by decide) ?_
      exact aw_iret C dX2_changeBetween_15 ⟨by unfold chg; first | rw [if_pos (by omega)] | rw [if_neg (by omega)], rfl⟩
set_option maxHeartbeats 4000000 in
set_option maxRecDepth 100000 in
theorem c_X2_isLane {l : Launch} {G : va_G × (Nat → ClassId)} {ad : Nat → Nat} {S P : St} (hL : 1 ≤ S.1 0 ∧ S.1 0 ≤ 5) {z : Int} (hz9 : -2147483648 ≤ z ∧ z < 2147483648) : Mi l G yX2_isLane wsX2_isLane ({ frames := 0, cells := 0, slots := 0, locals := 0 } : Room) [.ref (ad 0), .int (zI z)] (WX G.2 ad S P) (fun r u => r = (if 0 ≤ z ∧ z < S.1 0 then 1 else 0) ∧ u = (WX G.2 ad S P)) := by
  refine Mi.of (own := RX2) (cc := cX2_isLane) (maxL := 2) (ret := (some .boolean)) (by decide) rfl rfl rfl ?_
  intro p e s m args below meth c A C hN
  have hts := C.2.2.2.2.1
  have iFX2 : ∀ w ∈ u_ws RX2 TX2 17, w ∈ wsX2_isLane := by decide +kernel
  have k_36 := hts (.fieldLink RX2 36 "PaintSequencer" "laneCount" "I") (by decide +kernel)
  refine aw_iload_n C dX2_isLane_0 rfl ?_
  refine aw_if_lt (tgt := 16) C dX2_isLane_1 (by decide) (by omega) (fun c1 => ?_) (fun c1 => ?_)
  · refine aw_iconst C dX2_isLane_16 ?_
    exact aw_zret C dX2_isLane_17 rfl ⟨by first | rw [if_pos (by omega)] | rw [if_neg (by omega)], rfl⟩
  · refine aw_iload_n C dX2_isLane_4 rfl ?_
    refine aw_aload_n C dX2_isLane_5 rfl ?_
    refine aw_get (q0 := 0) (k := 6) C iFX2 k_36 rfl rfl rfl rfl dX2_isLane_6 ?_
    refine aw_icmp_ge (tgt := 16) C dX2_isLane_9 (by decide) (by omega) (by omega) (fun c9 => ?_) (fun c9 => ?_)
    · refine aw_iconst C dX2_isLane_16 ?_
      exact aw_zret C dX2_isLane_17 rfl ⟨by first | rw [if_pos (by omega)] | rw [if_neg (by omega)], rfl⟩
    · refine aw_iconst C dX2_isLane_12 ?_
      refine aw_goto (tgt := 17) C dX2_isLane_13 (by decide) ?_
      exact aw_zret C dX2_isLane_17 rfl ⟨by first | rw [if_pos (by omega)] | rw [if_neg (by omega)], rfl⟩
set_option maxHeartbeats 4000000 in
set_option maxRecDepth 100000 in
theorem c_X2_isBody {l : Launch} {G : va_G × (Nat → ClassId)} {ad : Nat → Nat} {S P : St} (hB : 0 ≤ S.1 5 ∧ S.1 5 ≤ 99) {z : Int} (hz9 : -2147483648 ≤ z ∧ z < 2147483648) : Mi l G yX2_isBody wsX2_isBody ({ frames := 0, cells := 0, slots := 0, locals := 0 } : Room) [.ref (ad 0), .int (zI z)] (WX G.2 ad S P) (fun r u => r = (if 0 ≤ z ∧ z < S.1 5 then 1 else 0) ∧ u = (WX G.2 ad S P)) := by
  refine Mi.of (own := RX2) (cc := cX2_isBody) (maxL := 2) (ret := (some .boolean)) (by decide) rfl rfl rfl ?_
  intro p e s m args below meth c A C hN
  have hts := C.2.2.2.2.1
  have iFX2 : ∀ w ∈ u_ws RX2 TX2 17, w ∈ wsX2_isBody := by decide +kernel
  have k_60 := hts (.fieldLink RX2 60 "PaintSequencer" "bodies" "I") (by decide +kernel)
  refine aw_iload_n C dX2_isBody_0 rfl ?_
  refine aw_if_lt (tgt := 16) C dX2_isBody_1 (by decide) (by omega) (fun c1 => ?_) (fun c1 => ?_)
  · refine aw_iconst C dX2_isBody_16 ?_
    exact aw_zret C dX2_isBody_17 rfl ⟨by first | rw [if_pos (by omega)] | rw [if_neg (by omega)], rfl⟩
  · refine aw_iload_n C dX2_isBody_4 rfl ?_
    refine aw_aload_n C dX2_isBody_5 rfl ?_
    refine aw_get (q0 := 0) (k := 11) C iFX2 k_60 rfl rfl rfl rfl dX2_isBody_6 ?_
    refine aw_icmp_ge (tgt := 16) C dX2_isBody_9 (by decide) (by omega) (by omega) (fun c9 => ?_) (fun c9 => ?_)
    · refine aw_iconst C dX2_isBody_16 ?_
      exact aw_zret C dX2_isBody_17 rfl ⟨by first | rw [if_pos (by omega)] | rw [if_neg (by omega)], rfl⟩
    · refine aw_iconst C dX2_isBody_12 ?_
      refine aw_goto (tgt := 17) C dX2_isBody_13 (by decide) ?_
      exact aw_zret C dX2_isBody_17 rfl ⟨by first | rw [if_pos (by omega)] | rw [if_neg (by omega)], rfl⟩
set_option maxHeartbeats 4000000 in
set_option maxRecDepth 100000 in
theorem c_X2_hasRoom {l : Launch} {G : va_G × (Nat → ClassId)} {ad : Nat → Nat} {S P : St} {i : Int} (h0 : 0 ≤ i) (h5 : i < 5) (hs : 0 ≤ S.2 0 i ∧ S.2 0 i ≤ 6) (hD : 1 ≤ S.1 1 ∧ S.1 1 ≤ 6) : Mi l G yX2_hasRoom wsX2_hasRoom ({ frames := 1, cells := 0, slots := 0, locals := 20 } : Room) [.ref (ad 0), .int (zI i)] (WX G.2 ad S P) (fun r u => r = (if S.2 0 i < S.1 1 then 1 else 0) ∧ u = (WX G.2 ad S P)) := by
  refine Mi.of (own := RX2) (cc := cX2_hasRoom) (maxL := 2) (ret := (some .boolean)) (by decide) rfl rfl rfl ?_
  intro p e s m args below meth c A C hN
  have hts := C.2.2.2.2.1
  have iFX2 : ∀ w ∈ u_ws RX2 TX2 17, w ∈ wsX2_hasRoom := by decide +kernel
  have k_11 := hts (.fieldLink RX2 11 "PaintSequencer" "lanes" "[LPaintSequencer$Lane;") (by decide +kernel)
  have k_40 := hts (.fieldLink RX2 40 "PaintSequencer" "depth" "I") (by decide +kernel)
  refine aw_aload_n C dX2_hasRoom_0 rfl ?_
  refine aw_get (q0 := 0) (k := 0) C iFX2 k_11 rfl rfl rfl rfl dX2_hasRoom_1 ?_
  refine aw_iload_n C dX2_hasRoom_4 rfl ?_
  refine aw_aldL (q0 := 1) C rfl (by omega) (by omega) rfl rfl dX2_hasRoom_5 ?_
  refine cV0i (ci := 0)  C hN (c_X0_count h0 h5) (cwV 0 hts gX2_hasRoom_X0_count rfl rfl rfl (by decide +kernel) ⟨Nat.le_of_ble_eq_true rfl, Nat.le_of_ble_eq_true rfl⟩) rfl rfl (wx_lane (by omega) (by omega)) rfl dX2_hasRoom_6 ⟨Nat.zero_le _, Nat.zero_le _⟩ (fun r6 u6 q6 => ?_)
  obtain ⟨rfl, rfl⟩ := q6
  refine aw_aload_n C dX2_hasRoom_9 rfl ?_
  refine aw_get (q0 := 0) (k := 7) C iFX2 k_40 rfl rfl rfl rfl dX2_hasRoom_10 ?_
  refine aw_icmp_ge (tgt := 20) C dX2_hasRoom_13 (by decide) (by omega) (by omega) (fun c13 => ?_) (fun c13 => ?_)
  · refine aw_iconst C dX2_hasRoom_20 ?_
    exact aw_zret C dX2_hasRoom_21 rfl ⟨by first | rw [if_pos (by omega)] | rw [if_neg (by omega)], rfl⟩
  · refine aw_iconst C dX2_hasRoom_16 ?_
    refine aw_goto (tgt := 21) C dX2_hasRoom_17 (by decide) ?_
    exact aw_zret C dX2_hasRoom_21 rfl ⟨by first | rw [if_pos (by omega)] | rw [if_neg (by omega)], rfl⟩
set_option maxHeartbeats 4000000 in
set_option maxRecDepth 100000 in
theorem c_X2_laneBehind {l : Launch} {G : va_G × (Nat → ClassId)} {ad : Nat → Nat} {S P : St} (hL : 1 ≤ S.1 0 ∧ S.1 0 ≤ 5) {i : Int} (h0 : 0 ≤ i) (h5 : i < 5) : Mi l G yX2_laneBehind wsX2_laneBehind ({ frames := 0, cells := 0, slots := 0, locals := 0 } : Room) [.ref (ad 0), .int (zI i)] (WX G.2 ad S P) (fun r u => r = behS S i ∧ u = (WX G.2 ad S P)) := by
  refine Mi.of (own := RX2) (cc := cX2_laneBehind) (maxL := 2) (ret := (some .int)) (by decide) rfl rfl rfl ?_
  intro p e s m args below meth c A C hN
  have hts := C.2.2.2.2.1
  have iFX2 : ∀ w ∈ u_ws RX2 TX2 17, w ∈ wsX2_laneBehind := by decide +kernel
  have k_36 := hts (.fieldLink RX2 36 "PaintSequencer" "laneCount" "I") (by decide +kernel)
  refine aw_iload_n C dX2_laneBehind_0 rfl ?_
  refine aw_iconst C dX2_laneBehind_1 ?_
  refine aw_iadd C dX2_laneBehind_2 ?_
  refine aw_aload_n C dX2_laneBehind_3 rfl ?_
  refine aw_get (q0 := 0) (k := 6) C iFX2 k_36 rfl rfl rfl rfl dX2_laneBehind_4 ?_
  refine aw_icmp_ge (tgt := 16) C dX2_laneBehind_7 (by decide) (by omega) (by omega) (fun c7 => ?_) (fun c7 => ?_)
  · refine aw_iconst C dX2_laneBehind_16 ?_
    exact aw_iret C dX2_laneBehind_17 ⟨by unfold behS; first | rw [if_pos (by omega)] | rw [if_neg (by omega)], rfl⟩
  · refine aw_iload_n C dX2_laneBehind_10 rfl ?_
    refine aw_iconst C dX2_laneBehind_11 ?_
    refine aw_iadd C dX2_laneBehind_12 ?_
    refine aw_goto (tgt := 17) C dX2_laneBehind_13 (by decide) ?_
    exact aw_iret C dX2_laneBehind_17 ⟨by unfold behS; first | rw [if_pos (by omega)] | rw [if_neg (by omega)], rfl⟩
set_option maxHeartbeats 4000000 in
set_option maxRecDepth 100000 in
theorem c_X2_countAt {l : Launch} {G : va_G × (Nat → ClassId)} {ad : Nat → Nat} {S P : St} (hB : 0 ≤ S.1 5 ∧ S.1 5 ≤ 99) (hp : ∀ b : Int, 0 ≤ b → b < S.1 5 → 0 ≤ S.2 2 b ∧ S.2 2 b ≤ 12) {z : Int} (hz9 : -2147483648 ≤ z ∧ z < 2147483648) : Mi l G yX2_countAt wsX2_countAt ({ frames := 0, cells := 0, slots := 0, locals := 0 } : Room) [.ref (ad 0), .int (zI z)] (WX G.2 ad S P) (fun r u => r = cntN (S.2 2) z (S.1 5).toNat ∧ u = (WX G.2 ad S P)) := by
  refine Mi.of (own := RX2) (cc := cX2_countAt) (maxL := 4) (ret := (some .int)) (by decide) rfl rfl rfl ?_
  intro p e s m args below meth c A C hN
  have hts := C.2.2.2.2.1
  have iFX2 : ∀ w ∈ u_ws RX2 TX2 17, w ∈ wsX2_countAt := by decide +kernel
  have k_60 := hts (.fieldLink RX2 60 "PaintSequencer" "bodies" "I") (by decide +kernel)
  have k_20 := hts (.fieldLink RX2 20 "PaintSequencer" "places" "[I") (by decide +kernel)
  have lp : ∀ (n : Nat) (k : Nat), (k : Int) ≤ S.1 5 → S.1 5 - k < n → AW p l e (headSpec wsX2_countAt ({ frames := 0, cells := 0, slots := 0, locals := 0 } : Room)).room s m args below meth c 4 G A s.heap 0 0 (MQ below (QPi G (fun r u => r = cntN (S.2 2) z (S.1 5).toNat ∧ u = (WX G.2 ad S P)) A) args s 0 0 A) (WX G.2 ad S P) [(0, .ref (ad 0)), (1, .int (zI z)), (2, .int (zI (cntN (S.2 2) z k))), (3, .int (zI k))] 4 [] := by
    intro n
    induction n with
    | zero =>
      intro k h1 h2
      exfalso
      omega
    | succ n ih =>
      intro k h1 h2
      refine aw_iload_n C dX2_countAt_4 rfl ?_
      refine aw_aload_n C dX2_countAt_5 rfl ?_
      refine aw_get (q0 := 0) (k := 11) C iFX2 k_60 rfl rfl rfl rfl dX2_countAt_6 ?_
      refine aw_icmp_ge (tgt := 31) C dX2_countAt_9 (by decide) (by omega) (by omega) (fun c9 => ?_) (fun c9 => ?_)
      · refine aw_iload_n C dX2_countAt_31 rfl ?_
        exact aw_iret C dX2_countAt_32 ⟨by rw [show (S.1 5).toNat = k by omega], rfl⟩
      · refine aw_aload_n C dX2_countAt_12 rfl ?_
        refine aw_get (q0 := 0) (k := 2) C iFX2 k_20 rfl rfl rfl rfl dX2_countAt_13 ?_
        refine aw_iload_n C dX2_countAt_16 rfl ?_
        have h7 := hp k (by omega) (by omega)
        refine aw_ldI (q0 := 13) C rfl (by omega) (by omega) rfl dX2_countAt_17 ?_
        refine aw_iload_n C dX2_countAt_18 rfl ?_
        refine aw_icmp_ne (tgt := 25) C dX2_countAt_19 (by decide) (by omega) (by omega) (fun c19 => ?_) (fun c19 => ?_)
        · refine aw_iinc C dX2_countAt_25 rfl rfl rfl ?_
          refine aw_goto (tgt := 4) C dX2_countAt_28 (by decide) ?_
          first
          | (have e4 : cntN (S.2 2) z (k + 1) = cntN (S.2 2) z k + 1 := if_pos c19
             have h4 := ih (k + 1) (by omega) (by omega)
             rw [e4] at h4
             exact h4)
          | (have e4 : cntN (S.2 2) z (k + 1) = cntN (S.2 2) z k := if_neg c19
             have h4 := ih (k + 1) (by omega) (by omega)
             rw [e4] at h4
             exact h4)
        · refine aw_iinc C dX2_countAt_22 rfl rfl rfl ?_
          refine aw_iinc C dX2_countAt_25 rfl rfl rfl ?_
          refine aw_goto (tgt := 4) C dX2_countAt_28 (by decide) ?_
          first
          | (have e4 : cntN (S.2 2) z (k + 1) = cntN (S.2 2) z k + 1 := if_pos c19
             have h4 := ih (k + 1) (by omega) (by omega)
             rw [e4] at h4
             exact h4)
          | (have e4 : cntN (S.2 2) z (k + 1) = cntN (S.2 2) z k := if_neg c19
             have h4 := ih (k + 1) (by omega) (by omega)
             rw [e4] at h4
             exact h4)
  refine aw_iconst C dX2_countAt_0 ?_
  refine aw_istore_n C dX2_countAt_1 rfl rfl ?_
  refine aw_iconst C dX2_countAt_2 ?_
  refine aw_istore_n C dX2_countAt_3 rfl rfl ?_
  exact lp 100 0 (by omega) (by omega)
set_option maxHeartbeats 4000000 in
set_option maxRecDepth 100000 in
theorem c_X2_storeIsFull {l : Launch} {G : va_G × (Nat → ClassId)} {ad : Nat → Nat} {S P : St} (hI : Inv S) : Mi l G yX2_storeIsFull wsX2_storeIsFull ({ frames := 1, cells := 0, slots := 0, locals := 23 } : Room) [.ref (ad 0)] (WX G.2 ad S P) (fun r u => r = (if S.1 2 ≤ cntN (S.2 2) 10 (S.1 5).toNat then 1 else 0) ∧ u = (WX G.2 ad S P)) := by
  refine Mi.of (own := RX2) (cc := cX2_storeIsFull) (maxL := 1) (ret := (some .boolean)) (by decide) rfl rfl rfl ?_
  intro p e s m args below meth c A C hN
  have hts := C.2.2.2.2.1
  have iFX2 : ∀ w ∈ u_ws RX2 TX2 17, w ∈ wsX2_storeIsFull := by decide +kernel
  have k_43 := hts (.fieldLink RX2 43 "PaintSequencer" "storeRoom" "I") (by decide +kernel)
  obtain ⟨hn, hz, hr, hc, hp, ha, hq, ht⟩ := id hI
  have h9 := cntN_b (S.2 2) 10 (S.1 5).toNat
  refine aw_aload_n C dX2_storeIsFull_0 rfl ?_
  refine aw_bipush C dX2_storeIsFull_1 rfl ?_
  refine cV1i (ci := 2) (q0 := 0) C hN (c_X2_countAt (by omega) hp (by omega)) (cwV 1 hts gX2_storeIsFull_X2_countAt rfl rfl rfl (by decide +kernel) ⟨Nat.le_of_ble_eq_true rfl, Nat.le_of_ble_eq_true rfl⟩) rfl rfl rfl rfl dX2_storeIsFull_3 ⟨Nat.zero_le _, Nat.zero_le _⟩ (fun r3 u3 q3 => ?_)
  obtain ⟨rfl, rfl⟩ := q3
  refine aw_aload_n C dX2_storeIsFull_6 rfl ?_
  refine aw_get (q0 := 0) (k := 8) C iFX2 k_43 rfl rfl rfl rfl dX2_storeIsFull_7 ?_
  refine aw_icmp_lt (tgt := 17) C dX2_storeIsFull_10 (by decide) (by omega) (by omega) (fun c10 => ?_) (fun c10 => ?_)
  · refine aw_iconst C dX2_storeIsFull_17 ?_
    exact aw_zret C dX2_storeIsFull_18 rfl ⟨by first | rw [if_pos (by omega)] | rw [if_neg (by omega)], rfl⟩
  · refine aw_iconst C dX2_storeIsFull_13 ?_
    refine aw_goto (tgt := 18) C dX2_storeIsFull_14 (by decide) ?_
    exact aw_zret C dX2_storeIsFull_18 rfl ⟨by first | rw [if_pos (by omega)] | rw [if_neg (by omega)], rfl⟩
set_option maxHeartbeats 4000000 in
set_option maxRecDepth 100000 in
theorem c_X2_countInLanes {l : Launch} {G : va_G × (Nat → ClassId)} {ad : Nat → Nat} {S P : St} (hI : Inv S) : Mi l G yX2_countInLanes wsX2_countInLanes ({ frames := 1, cells := 0, slots := 0, locals := 20 } : Room) [.ref (ad 0)] (WX G.2 ad S P) (fun r u => r = sumN (S.2 0) (S.1 0).toNat ∧ u = (WX G.2 ad S P)) := by
  refine Mi.of (own := RX2) (cc := cX2_countInLanes) (maxL := 3) (ret := (some .int)) (by decide) rfl rfl rfl ?_
  intro p e s m args below meth c A C hN
  have hts := C.2.2.2.2.1
  have iFX2 : ∀ w ∈ u_ws RX2 TX2 17, w ∈ wsX2_countInLanes := by decide +kernel
  have k_36 := hts (.fieldLink RX2 36 "PaintSequencer" "laneCount" "I") (by decide +kernel)
  have k_11 := hts (.fieldLink RX2 11 "PaintSequencer" "lanes" "[LPaintSequencer$Lane;") (by decide +kernel)
  obtain ⟨hn, hz, hr, hc, hp, ha, hq, ht⟩ := id hI
  have lp : ∀ (n : Nat) (k : Nat), (k : Int) ≤ S.1 0 → S.1 0 - k < n → AW p l e (headSpec wsX2_countInLanes ({ frames := 1, cells := 0, slots := 0, locals := 20 } : Room)).room s m args below meth c 3 G A s.heap 0 0 (MQ below (QPi G (fun r u => r = sumN (S.2 0) (S.1 0).toNat ∧ u = (WX G.2 ad S P)) A) args s 0 0 A) (WX G.2 ad S P) [(0, .ref (ad 0)), (1, .int (zI (sumN (S.2 0) k))), (2, .int (zI k))] 4 [] := by
    intro n
    induction n with
    | zero =>
      intro k h1 h2
      exfalso
      omega
    | succ n ih =>
      intro k h1 h2
      refine aw_iload_n C dX2_countInLanes_4 rfl ?_
      refine aw_aload_n C dX2_countInLanes_5 rfl ?_
      refine aw_get (q0 := 0) (k := 6) C iFX2 k_36 rfl rfl rfl rfl dX2_countInLanes_6 ?_
      refine aw_icmp_ge (tgt := 30) C dX2_countInLanes_9 (by decide) (by omega) (by omega) (fun c9 => ?_) (fun c9 => ?_)
      · refine aw_iload_n C dX2_countInLanes_30 rfl ?_
        exact aw_iret C dX2_countInLanes_31 ⟨by rw [show (S.1 0).toNat = k by omega], rfl⟩
      · refine aw_iload_n C dX2_countInLanes_12 rfl ?_
        refine aw_aload_n C dX2_countInLanes_13 rfl ?_
        refine aw_get (q0 := 0) (k := 0) C iFX2 k_11 rfl rfl rfl rfl dX2_countInLanes_14 ?_
        refine aw_iload_n C dX2_countInLanes_17 rfl ?_
        refine aw_aldL (q0 := 1) C rfl (by omega) (by omega) rfl rfl dX2_countInLanes_18 ?_
        refine cV0i (ci := 0)  C hN (c_X0_count (by omega) (by omega)) (cwV 0 hts gX2_countInLanes_X0_count rfl rfl rfl (by decide +kernel) ⟨Nat.le_of_ble_eq_true rfl, Nat.le_of_ble_eq_true rfl⟩) rfl rfl (wx_lane (by omega) (by omega)) rfl dX2_countInLanes_19 ⟨Nat.zero_le _, Nat.zero_le _⟩ (fun r19 u19 q19 => ?_)
        obtain ⟨rfl, rfl⟩ := q19
        refine aw_iadd C dX2_countInLanes_22 ?_
        refine aw_istore_n C dX2_countInLanes_23 rfl rfl ?_
        refine aw_iinc C dX2_countInLanes_24 rfl rfl rfl ?_
        refine aw_goto (tgt := 4) C dX2_countInLanes_27 (by decide) ?_
        exact ih (k + 1) (by omega) (by omega)
  refine aw_iconst C dX2_countInLanes_0 ?_
  refine aw_istore_n C dX2_countInLanes_1 rfl rfl ?_
  refine aw_iconst C dX2_countInLanes_2 ?_
  refine aw_istore_n C dX2_countInLanes_3 rfl rfl ?_
  exact lp 6 0 (by omega) (by omega)
set_option maxHeartbeats 4000000 in
set_option maxRecDepth 100000 in
theorem c_X2_lowestInStore {l : Launch} {G : va_G × (Nat → ClassId)} {ad : Nat → Nat} {S P : St} (hI : Inv S) : Mi l G yX2_lowestInStore wsX2_lowestInStore ({ frames := 0, cells := 0, slots := 0, locals := 0 } : Room) [.ref (ad 0)] (WX G.2 ad S P) (fun r u => r = fstB (fun b => decide (S.2 2 b = 10)) (S.1 5).toNat ∧ u = (WX G.2 ad S P)) := by
  refine Mi.of (own := RX2) (cc := cX2_lowestInStore) (maxL := 2) (ret := (some .int)) (by decide) rfl rfl rfl ?_
  intro p e s m args below meth c A C hN
  have hts := C.2.2.2.2.1
  have iFX2 : ∀ w ∈ u_ws RX2 TX2 17, w ∈ wsX2_lowestInStore := by decide +kernel
  have k_60 := hts (.fieldLink RX2 60 "PaintSequencer" "bodies" "I") (by decide +kernel)
  have k_20 := hts (.fieldLink RX2 20 "PaintSequencer" "places" "[I") (by decide +kernel)
  obtain ⟨hn, hz, hr, hc, hp, ha, hq, ht⟩ := id hI
  have lp : ∀ (n : Nat) (k : Nat), (k : Int) ≤ S.1 5 → S.1 5 - k < n → fstB (fun b => decide (S.2 2 b = 10)) k = -1 → AW p l e (headSpec wsX2_lowestInStore ({ frames := 0, cells := 0, slots := 0, locals := 0 } : Room)).room s m args below meth c 2 G A s.heap 0 0 (MQ below (QPi G (fun r u => r = fstB (fun b => decide (S.2 2 b = 10)) (S.1 5).toNat ∧ u = (WX G.2 ad S P)) A) args s 0 0 A) (WX G.2 ad S P) [(0, .ref (ad 0)), (1, .int (zI k))] 2 [] := by
    intro n
    induction n with
    | zero =>
      intro k h1 h2 h3
      exfalso
      omega
    | succ n ih =>
      intro k h1 h2 h3
      refine aw_iload_n C dX2_lowestInStore_2 rfl ?_
      refine aw_aload_n C dX2_lowestInStore_3 rfl ?_
      refine aw_get (q0 := 0) (k := 11) C iFX2 k_60 rfl rfl rfl rfl dX2_lowestInStore_4 ?_
      refine aw_icmp_ge (tgt := 29) C dX2_lowestInStore_7 (by decide) (by omega) (by omega) (fun c7 => ?_) (fun c7 => ?_)
      · refine aw_iconst C dX2_lowestInStore_29 ?_
        exact aw_iret C dX2_lowestInStore_30 ⟨by rw [show (S.1 5).toNat = k by omega, h3], rfl⟩
      · refine aw_aload_n C dX2_lowestInStore_10 rfl ?_
        refine aw_get (q0 := 0) (k := 2) C iFX2 k_20 rfl rfl rfl rfl dX2_lowestInStore_11 ?_
        refine aw_iload_n C dX2_lowestInStore_14 rfl ?_
        refine aw_ldI (q0 := 13) C rfl (by omega) (by omega) rfl dX2_lowestInStore_15 ?_
        have h7 := hp k (by omega) (by omega)
        refine aw_bipush C dX2_lowestInStore_16 rfl ?_
        refine aw_icmp_ne (tgt := 23) C dX2_lowestInStore_18 (by decide) (by omega) (by omega) (fun c18 => ?_) (fun c18 => ?_)
        · refine aw_iinc C dX2_lowestInStore_23 rfl rfl rfl ?_
          refine aw_goto (tgt := 2) C dX2_lowestInStore_26 (by decide) ?_
          exact ih (k + 1) (by omega) (by omega) (fstB_no h3 (decide_eq_false c18))
        · refine aw_iload_n C dX2_lowestInStore_21 rfl ?_
          exact aw_iret C dX2_lowestInStore_22 ⟨(fstB_at h3 (decide_eq_true c18) (by omega)).symm, rfl⟩
  refine aw_iconst C dX2_lowestInStore_0 ?_
  refine aw_istore_n C dX2_lowestInStore_1 rfl rfl ?_
  exact lp 100 0 (by omega) (by omega) rfl
set_option maxHeartbeats 4000000 in
set_option maxRecDepth 100000 in
theorem c_X2_colourOf {l : Launch} {G : va_G × (Nat → ClassId)} {ad : Nat → Nat} {S P : St} (hB : 0 ≤ S.1 5 ∧ S.1 5 ≤ 99) {z : Int} (hz9 : -2147483648 ≤ z ∧ z < 2147483648) : Mi l G yX2_colourOf wsX2_colourOf ({ frames := 1, cells := 0, slots := 0, locals := 21 } : Room) [.ref (ad 0), .int (zI z)] (WX G.2 ad S P) (fun r u => r = colS S z ∧ u = (WX G.2 ad S P)) := by
  refine Mi.of (own := RX2) (cc := cX2_colourOf) (maxL := 2) (ret := (some .int)) (by decide) rfl rfl rfl ?_
  intro p e s m args below meth c A C hN
  have hts := C.2.2.2.2.1
  have iFX2 : ∀ w ∈ u_ws RX2 TX2 17, w ∈ wsX2_colourOf := by decide +kernel
  have k_16 := hts (.fieldLink RX2 16 "PaintSequencer" "colours" "[I") (by decide +kernel)
  refine aw_aload_n C dX2_colourOf_0 rfl ?_
  refine aw_iload_n C dX2_colourOf_1 rfl ?_
  refine cV1i (ci := 2) (q0 := 0) C hN (c_X2_isBody hB hz9) (cwV 1 hts gX2_colourOf_X2_isBody rfl rfl rfl (by decide +kernel) ⟨Nat.le_of_ble_eq_true rfl, Nat.le_of_ble_eq_true rfl⟩) rfl rfl rfl rfl dX2_colourOf_2 ⟨Nat.zero_le _, Nat.zero_le _⟩ (fun r2 u2 q2 => ?_)
  obtain ⟨rfl, rfl⟩ := q2
  refine aw_if_eq (tgt := 17) C dX2_colourOf_5 (by decide) (by split <;> omega) (fun c5 => ?_) (fun c5 => ?_)
  · have c6 : ¬ (0 ≤ z ∧ z < S.1 5) := fun c7 => by rw [if_pos c7] at c5; exact absurd c5 (by decide)
    refine aw_iconst C dX2_colourOf_17 ?_
    exact aw_iret C dX2_colourOf_18 ⟨by unfold colS; first | rw [if_pos c6] | rw [if_neg c6], rfl⟩
  · have c6 : 0 ≤ z ∧ z < S.1 5 := by
      by_cases c7 : 0 ≤ z ∧ z < S.1 5
      · exact c7
      · rw [if_neg c7] at c5; exact absurd rfl c5
    refine aw_aload_n C dX2_colourOf_8 rfl ?_
    refine aw_get (q0 := 0) (k := 1) C iFX2 k_16 rfl rfl rfl rfl dX2_colourOf_9 ?_
    refine aw_iload_n C dX2_colourOf_12 rfl ?_
    refine aw_ldI (q0 := 12) C rfl (by omega) (by omega) rfl dX2_colourOf_13 ?_
    refine aw_goto (tgt := 18) C dX2_colourOf_14 (by decide) ?_
    exact aw_iret C dX2_colourOf_18 ⟨by unfold colS; first | rw [if_pos c6] | rw [if_neg c6], rfl⟩
end
section
theorem us_ua (S : St) (k a : Nat) (v i x : Int) : (ua (us S k v) a i x).1 = (us S k v).1 := rfl
/-- what the class's parts ask for, out of Inv -/
theorem takeS_1 (S : St) (i : Int) : (takeS S i).1 = S.1 := rfl
theorem takeS_2 (S : St) (i : Int) {a : Nat} (h1 : a ≠ 0) (h2 : a < 10) : (takeS S i).2 a = S.2 a := by
  unfold takeS
  rw [ua_m _ _ _ _ h1, ur_n _ _ _ (by omega)]
theorem addS_1 (S : St) (i b : Int) : (addS S i b).1 = S.1 := rfl
theorem clN_1 (S : St) : ∀ n : Nat, (clN S n).1 = S.1
  | 0 => rfl
  | n + 1 => by show (clN S n).1 = S.1; exact clN_1 S n

set_option maxHeartbeats 4000000 in
set_option maxRecDepth 100000 in
theorem c_X2_newBody {l : Launch} {G : va_G × (Nat → ClassId)} {ad : Nat → Nat} {S P : St} (hB : 0 ≤ S.1 5 ∧ S.1 5 < 99) {z : Int} : Mi l G yX2_newBody wsX2_newBody ({ frames := 0, cells := 0, slots := 0, locals := 0 } : Room) [.ref (ad 0), .int (zI z)] (WX G.2 ad S P) (fun r u => r = S.1 5 ∧ u = WX G.2 ad (newS S z) P) := by
  refine Mi.of (own := RX2) (cc := cX2_newBody) (maxL := 3) (ret := (some .int)) (by decide) rfl rfl rfl ?_
  intro p e s m args below meth c A C hN
  have hts := C.2.2.2.2.1
  have iFX2 : ∀ w ∈ u_ws RX2 TX2 17, w ∈ wsX2_newBody := by decide +kernel
  have k_60 := hts (.fieldLink RX2 60 "PaintSequencer" "bodies" "I") (by decide +kernel)
  have k_16 := hts (.fieldLink RX2 16 "PaintSequencer" "colours" "[I") (by decide +kernel)
  refine aw_aload_n C dX2_newBody_0 rfl ?_
  refine aw_get (q0 := 0) (k := 11) C iFX2 k_60 rfl rfl rfl rfl dX2_newBody_1 ?_
  refine aw_istore_n C dX2_newBody_4 rfl rfl ?_
  refine aw_aload_n C dX2_newBody_5 rfl ?_
  refine aw_get (q0 := 0) (k := 1) C iFX2 k_16 rfl rfl rfl rfl dX2_newBody_6 ?_
  refine aw_iload_n C dX2_newBody_9 rfl ?_
  refine aw_iload_n C dX2_newBody_10 rfl ?_
  refine aw_stI (q0 := 12) C rfl (by omega) (by omega) rfl (wx_a12 _ _ _ _ _ _) dX2_newBody_11 ?_
  refine aw_aload_n C dX2_newBody_12 rfl ?_
  refine aw_dup C dX2_newBody_13 rfl ?_
  refine aw_get (q0 := 0) (k := 11) C iFX2 k_60 rfl rfl rfl rfl dX2_newBody_14 ?_
  refine aw_iconst C dX2_newBody_17 ?_
  refine aw_iadd C dX2_newBody_18 ?_
  refine aw_put (q0 := 0) (k := 11) C iFX2 tyX2_ok nmX2 k_60 rfl rfl rfl rfl rfl rfl (wx_f11 _ _ _ _ _) dX2_newBody_19 ?_
  refine aw_iload_n C dX2_newBody_22 rfl ?_
  exact aw_iret C dX2_newBody_23 ⟨rfl, rfl⟩
set_option maxHeartbeats 4000000 in
set_option maxRecDepth 100000 in
theorem c_X2_putInto {l : Launch} {G : va_G × (Nat → ClassId)} {ad : Nat → Nat} {S P : St} (hL : 1 ≤ S.1 0 ∧ S.1 0 ≤ 5) {i b : Int} (h0 : 0 ≤ i) (h5 : i < 5) (hs : 0 ≤ S.2 0 i ∧ S.2 0 i < 6) (hb : 0 ≤ b ∧ b < 99) : Mv l G yX2_putInto wsX2_putInto ({ frames := 1, cells := 0, slots := 0, locals := 21 } : Room) [.ref (ad 0), .int (zI i), .int (zI b)] (WX G.2 ad S P) (fun u => u = WX G.2 ad (putS S i b) P) := by
  refine Mv.of (own := RX2) (cc := cX2_putInto) (maxL := 3) (ret := none) (by decide) rfl rfl rfl ?_
  intro p e s m args below meth c A C hN
  have hts := C.2.2.2.2.1
  have iFX2 : ∀ w ∈ u_ws RX2 TX2 17, w ∈ wsX2_putInto := by decide +kernel
  have k_11 := hts (.fieldLink RX2 11 "PaintSequencer" "lanes" "[LPaintSequencer$Lane;") (by decide +kernel)
  have k_20 := hts (.fieldLink RX2 20 "PaintSequencer" "places" "[I") (by decide +kernel)
  have k_208 := hts (.fieldLink RX2 208 "PaintSequencer" "laneInTurn" "I") (by decide +kernel)
  refine aw_aload_n C dX2_putInto_0 rfl ?_
  refine aw_get (q0 := 0) (k := 0) C iFX2 k_11 rfl rfl rfl rfl dX2_putInto_1 ?_
  refine aw_iload_n C dX2_putInto_4 rfl ?_
  refine aw_aldL (q0 := 1) C rfl (by omega) (by omega) rfl rfl dX2_putInto_5 ?_
  refine aw_iload_n C dX2_putInto_6 rfl ?_
  refine cV1v (ci := 0)  C hN (c_X0_add h0 h5 hs) (cwV 1 hts gX2_putInto_X0_add rfl rfl rfl (by decide +kernel) ⟨Nat.le_of_ble_eq_true rfl, Nat.le_of_ble_eq_true rfl⟩) rfl rfl (wx_lane (by omega) (by omega)) rfl dX2_putInto_7 ⟨Nat.zero_le _, Nat.zero_le _⟩ (fun u7 q7 => ?_)
  obtain rfl := q7
  refine aw_aload_n C dX2_putInto_10 rfl ?_
  refine aw_get (q0 := 0) (k := 2) C iFX2 k_20 rfl rfl rfl rfl dX2_putInto_11 ?_
  refine aw_iload_n C dX2_putInto_14 rfl ?_
  refine aw_iload_n C dX2_putInto_15 rfl ?_
  refine aw_stI (q0 := 13) C rfl (by omega) (by omega) rfl (wx_a13 _ _ _ _ _ _) dX2_putInto_16 ?_
  refine aw_aload_n C dX2_putInto_17 rfl ?_
  refine aw_aload_n C dX2_putInto_18 rfl ?_
  refine aw_iload_n C dX2_putInto_19 rfl ?_
  refine cV1i (ci := 2) (q0 := 0) C hN (c_X2_laneBehind (by exact hL) h0 h5) (cwV 1 hts gX2_putInto_X2_laneBehind rfl rfl rfl (by decide +kernel) ⟨Nat.le_of_ble_eq_true rfl, Nat.le_of_ble_eq_true rfl⟩) rfl rfl rfl rfl dX2_putInto_20 ⟨Nat.zero_le _, Nat.zero_le _⟩ (fun r20 u20 q20 => ?_)
  obtain ⟨rfl, rfl⟩ := q20
  refine aw_put (q0 := 0) (k := 13) C iFX2 tyX2_ok nmX2 k_208 rfl rfl rfl rfl rfl rfl (wx_f13 _ _ _ _ _) dX2_putInto_23 ?_
  exact aw_vret C dX2_putInto_26 rfl
end
section
/-- a plan's row of the lane i grown by a colour -/
def addP (P : St) (i c : Int) : St := ua (ua P i.toNat (P.2 5 i) c) 5 i (P.2 5 i + 1)
def zrN (P : St) (a : Nat) : Nat → St
  | 0 => P
  | n + 1 => ua (zrN P a n) a n 0
/-- the plan holds the colours of the lanes -/
def plS (S P : St) : Prop := (∀ i : Int, 0 ≤ i → i < 5 → P.2 5 i = S.2 0 i) ∧ ∀ i q : Int, 0 ≤ i → i < 5 → 0 ≤ q → q < S.2 0 i → P.2 i.toNat q = colS S (atS S i q)
/-- .. as far as the place j of the lane k -/
def cpS (S P : St) (k j : Int) : Prop := (∀ i : Int, 0 ≤ i → i < 5 → P.2 5 i = if i < k then S.2 0 i else if i = k then j else 0) ∧ ∀ i q : Int, 0 ≤ i → i < 5 → 0 ≤ q → q < P.2 5 i → P.2 i.toNat q = colS S (atS S i q)
theorem zrN_at (P : St) (a : Nat) : ∀ (n : Nat) (i : Int), 0 ≤ i → i < n → (zrN P a n).2 a i = 0
  | 0, i, h0, h1 => by omega
  | n + 1, i, h0, h1 => by
    show (ua (zrN P a n) a n 0).2 a i = 0
    rw [ua_s]
    split
    · rfl
    · exact zrN_at P a n i h0 (by omega)
theorem cpS_0 {S P : St} (h : ∀ i : Int, 0 ≤ i → i < 5 → P.2 5 i = 0) : cpS S P 0 0 := ⟨fun i h0 h5 => by rw [h i h0 h5]; split <;> (try split) <;> omega, fun i q h0 h5 h6 h7 => by rw [h i h0 h5] at h7; omega⟩
theorem cpS_add {S P : St} {k j : Int} (h : cpS S P k j) (hk : 0 ≤ k) (hk5 : k < 5) (hj : 0 ≤ j) : cpS S (addP P k (colS S (atS S k j))) k (j + 1) := by
  have e5 : ∀ i : Int, (addP P k (colS S (atS S k j))).2 5 i = if i = k then j + 1 else P.2 5 i := fun i => by
    unfold addP
    rw [ua_s]
    have h1 := h.1 k hk hk5
    rw [if_neg (by omega), if_pos rfl] at h1
    rw [h1]
    split
    · rfl
    · rw [ua_n _ _ _ _ _ (by omega)]
  refine ⟨fun i h0 h5 => ?_, fun i q h0 h5 h6 h7 => ?_⟩
  · rw [e5, h.1 i h0 h5]
    split
    · rw [if_neg (by omega)]
    · rfl
  · rw [e5] at h7
    have h1 := h.1 k hk hk5
    rw [if_neg (by omega), if_pos rfl] at h1
    have e6 : (addP P k (colS S (atS S k j))).2 i.toNat q = (ua P k.toNat (P.2 5 k) (colS S (atS S k j))).2 i.toNat q := ua_n _ _ _ _ _ (by omega)
    rw [e6, h1]
    by_cases e : i = k
    · subst e
      rw [ua_s]
      rw [if_pos rfl] at h7
      by_cases e2 : q = j
      · rw [if_pos e2, e2]
      · rw [if_neg e2]
        exact h.2 i q h0 h5 h6 (by omega)
    · rw [if_neg e] at h7
      rw [ua_n _ _ _ _ _ (by omega)]
      exact h.2 i q h0 h5 h6 h7
theorem cpS_next {S P : St} {k : Int} (h : cpS S P k (S.2 0 k)) : cpS S P (k + 1) 0 := ⟨fun i h0 h5 => by
  rw [h.1 i h0 h5]
  by_cases e : i < k
  · rw [if_pos e, if_pos (by omega)]
  · rw [if_neg e]
    by_cases e2 : i = k
    · subst e2
      rw [if_pos rfl, if_pos (by omega)]
    · rw [if_neg e2, if_neg (by omega)]
      split <;> rfl, h.2⟩
theorem cpS_pl {S P : St} (hI : Inv S) (h : cpS S P (S.1 0) 0) : plS S P := by
  have e : ∀ i : Int, 0 ≤ i → i < 5 → P.2 5 i = S.2 0 i := fun i h0 h5 => by
    rw [h.1 i h0 h5]
    have hz := hI.2.1 i h0 h5
    split
    · rfl
    · split <;> omega
  exact ⟨e, fun i q h0 h5 h6 h7 => h.2 i q h0 h5 h6 (by rw [e i h0 h5]; exact h7)⟩

set_option maxHeartbeats 4000000 in
set_option maxRecDepth 100000 in
theorem c_X2_takeHeadOf {l : Launch} {G : va_G × (Nat → ClassId)} {ad : Nat → Nat} {S P : St} (hI : Inv S) {i : Int} (h0 : 0 ≤ i) (h5 : i < 5) (hs : 0 < S.2 0 i) : Mi l G yX2_takeHeadOf wsX2_takeHeadOf ({ frames := 2, cells := 0, slots := 0, locals := 43 } : Room) [.ref (ad 0), .int (zI i)] (WX G.2 ad S P) (fun r u => r = atS S i 0 ∧ u = WX G.2 ad (relS S i) P) := by
  refine Mi.of (own := RX2) (cc := cX2_takeHeadOf) (maxL := 3) (ret := (some .int)) (by decide) rfl rfl rfl ?_
  intro p e s m args below meth c A C hN
  have hts := C.2.2.2.2.1
  have iFX2 : ∀ w ∈ u_ws RX2 TX2 17, w ∈ wsX2_takeHeadOf := by decide +kernel
  have k_11 := hts (.fieldLink RX2 11 "PaintSequencer" "lanes" "[LPaintSequencer$Lane;") (by decide +kernel)
  have k_20 := hts (.fieldLink RX2 20 "PaintSequencer" "places" "[I") (by decide +kernel)
  have k_175 := hts (.fieldLink RX2 175 "PaintSequencer" "changes" "I") (by decide +kernel)
  have k_46 := hts (.fieldLink RX2 46 "PaintSequencer" "latestColour" "I") (by decide +kernel)
  have k_16 := hts (.fieldLink RX2 16 "PaintSequencer" "colours" "[I") (by decide +kernel)
  have k_178 := hts (.fieldLink RX2 178 "PaintSequencer" "released" "I") (by decide +kernel)
  obtain ⟨hn, hz, hr, hc, hp, ha, hq, ht⟩ := id hI
  have h9 := hz i h0 h5
  have hbr : 0 ≤ atS S i 0 ∧ atS S i 0 < S.1 5 := by
    unfold atS
    rw [if_pos (by omega)]
    exact hr i 0 h0 h5 (by omega) hs
  have hB9 : 0 ≤ S.1 5 ∧ S.1 5 ≤ 99 := by omega
  have h8r : -2147483648 ≤ S.1 8 ∧ S.1 8 < 2147483648 := by omega
  have hcr : -2147483648 ≤ S.2 1 (atS S i 0) ∧ S.2 1 (atS S i 0) < 2147483648 := by
    have := hc _ hbr.1 hbr.2
    omega
  have e1 : (ua (takeS S i) 2 (atS S i 0) 10).2 1 = S.2 1 := by rw [ua_m _ _ _ _ (by decide), takeS_2 _ _ (by decide) (by decide)]
  refine aw_aload_n C dX2_takeHeadOf_0 rfl ?_
  refine aw_get (q0 := 0) (k := 0) C iFX2 k_11 rfl rfl rfl rfl dX2_takeHeadOf_1 ?_
  refine aw_iload_n C dX2_takeHeadOf_4 rfl ?_
  refine aw_aldL (q0 := 1) C rfl (by omega) (by omega) rfl rfl dX2_takeHeadOf_5 ?_
  refine cV0i (ci := 0)  C hN (c_X0_takeHead h0 h5 (by omega)) (cwV 0 hts gX2_takeHeadOf_X0_takeHead rfl rfl rfl (by decide +kernel) ⟨Nat.le_of_ble_eq_true rfl, Nat.le_of_ble_eq_true rfl⟩) rfl rfl (wx_lane (by omega) (by omega)) rfl dX2_takeHeadOf_6 ⟨Nat.zero_le _, Nat.zero_le _⟩ (fun r6 u6 q6 => ?_)
  obtain ⟨rfl, rfl⟩ := q6
  refine aw_istore_n C dX2_takeHeadOf_9 rfl rfl ?_
  refine aw_aload_n C dX2_takeHeadOf_10 rfl ?_
  refine aw_iload_n C dX2_takeHeadOf_11 rfl ?_
  refine cV1i (ci := 2) (q0 := 0) C hN (c_X2_isBody (by exact hB9) (by omega)) (cwV 1 hts gX2_takeHeadOf_X2_isBody rfl rfl rfl (by decide +kernel) ⟨Nat.le_of_ble_eq_true rfl, Nat.le_of_ble_eq_true rfl⟩) rfl rfl rfl rfl dX2_takeHeadOf_12 ⟨Nat.zero_le _, Nat.zero_le _⟩ (fun r12 u12 q12 => ?_)
  obtain ⟨rfl, rfl⟩ := q12
  refine aw_if_ne (tgt := 20) C dX2_takeHeadOf_15 (by decide) (by split <;> omega) (fun c15 => ?_) (fun c15 => ?_)
  · refine aw_aload_n C dX2_takeHeadOf_20 rfl ?_
    refine aw_get (q0 := 0) (k := 2) C iFX2 k_20 rfl rfl rfl rfl dX2_takeHeadOf_21 ?_
    refine aw_iload_n C dX2_takeHeadOf_24 rfl ?_
    refine aw_bipush C dX2_takeHeadOf_25 rfl ?_
    refine aw_stI (q0 := 13) C rfl (by omega) (by omega) rfl (wx_a13 _ _ _ _ _ _) dX2_takeHeadOf_27 ?_
    refine aw_aload_n C dX2_takeHeadOf_28 rfl ?_
    refine aw_dup C dX2_takeHeadOf_29 rfl ?_
    refine aw_get (q0 := 0) (k := 15) C iFX2 k_175 rfl rfl rfl rfl dX2_takeHeadOf_30 ?_
    refine aw_aload_n C dX2_takeHeadOf_33 rfl ?_
    refine aw_get (q0 := 0) (k := 14) C iFX2 k_46 rfl rfl rfl rfl dX2_takeHeadOf_34 ?_
    refine aw_aload_n C dX2_takeHeadOf_37 rfl ?_
    refine aw_get (q0 := 0) (k := 1) C iFX2 k_16 rfl rfl rfl rfl dX2_takeHeadOf_38 ?_
    refine aw_iload_n C dX2_takeHeadOf_41 rfl ?_
    refine aw_ldI (q0 := 12) C rfl (by omega) (by omega) rfl dX2_takeHeadOf_42 ?_
    refine cS2i C hN (c_X2_changeBetween (by exact h8r) (by rw [e1]; exact hcr)) (va_cwS 2 hts gX2_takeHeadOf_X2_changeBetween rfl rfl rfl (by decide +kernel) ⟨Nat.le_of_ble_eq_true rfl, Nat.le_of_ble_eq_true rfl⟩) rfl dX2_takeHeadOf_43 ⟨Nat.zero_le _, Nat.zero_le _⟩ (fun r43 u43 q43 => ?_)
    obtain ⟨rfl, rfl⟩ := q43
    refine aw_iadd C dX2_takeHeadOf_46 ?_
    refine aw_put (q0 := 0) (k := 15) C iFX2 tyX2_ok nmX2 k_175 rfl rfl rfl rfl rfl rfl (wx_f15 _ _ _ _ _) dX2_takeHeadOf_47 ?_
    refine aw_aload_n C dX2_takeHeadOf_50 rfl ?_
    refine aw_dup C dX2_takeHeadOf_51 rfl ?_
    refine aw_get (q0 := 0) (k := 16) C iFX2 k_178 rfl rfl rfl rfl dX2_takeHeadOf_52 ?_
    refine aw_iconst C dX2_takeHeadOf_55 ?_
    refine aw_iadd C dX2_takeHeadOf_56 ?_
    refine aw_put (q0 := 0) (k := 16) C iFX2 tyX2_ok nmX2 k_178 rfl rfl rfl rfl rfl rfl (wx_f16 _ _ _ _ _) dX2_takeHeadOf_57 ?_
    refine aw_aload_n C dX2_takeHeadOf_60 rfl ?_
    refine aw_aload_n C dX2_takeHeadOf_61 rfl ?_
    refine aw_get (q0 := 0) (k := 1) C iFX2 k_16 rfl rfl rfl rfl dX2_takeHeadOf_62 ?_
    refine aw_iload_n C dX2_takeHeadOf_65 rfl ?_
    refine aw_ldI (q0 := 12) C rfl (by omega) (by omega) rfl dX2_takeHeadOf_66 ?_
    refine aw_put (q0 := 0) (k := 14) C iFX2 tyX2_ok nmX2 k_46 rfl rfl rfl rfl rfl rfl (wx_f14 _ _ _ _ _) dX2_takeHeadOf_67 ?_
    refine aw_iload_n C dX2_takeHeadOf_70 rfl ?_
    exact aw_iret C dX2_takeHeadOf_71 ⟨rfl, by
      show WX G.2 ad (us (us (us (ua (takeS S i) 2 (atS S i 0) 10) 9 (S.1 9 + chg (S.1 8) ((ua (takeS S i) 2 (atS S i 0) 10).2 1 (atS S i 0)))) 10 (S.1 10 + 1)) 8 ((ua (takeS S i) 2 (atS S i 0) 10).2 1 (atS S i 0))) P = _
      rw [e1]
      rfl⟩
  · exfalso
    have e9 : 0 ≤ atS S i 0 ∧ atS S i 0 < (takeS S i).1 5 := hbr
    rw [if_pos e9] at c15
    exact absurd c15 (by decide)
set_option maxHeartbeats 4000000 in
set_option maxRecDepth 100000 in
theorem c_X2_forgetBodies {l : Launch} {G : va_G × (Nat → ClassId)} {ad : Nat → Nat} {S P : St} : Mv l G yX2_forgetBodies wsX2_forgetBodies ({ frames := 1, cells := 0, slots := 0, locals := 20 } : Room) [.ref (ad 0)] (WX G.2 ad S P) (fun u => u = WX G.2 ad (fogS S) P) := by
  refine Mv.of (own := RX2) (cc := cX2_forgetBodies) (maxL := 2) (ret := none) (by decide) rfl rfl rfl ?_
  intro p e s m args below meth c A C hN
  have hts := C.2.2.2.2.1
  have iFX2 : ∀ w ∈ u_ws RX2 TX2 17, w ∈ wsX2_forgetBodies := by decide +kernel
  have k_11 := hts (.fieldLink RX2 11 "PaintSequencer" "lanes" "[LPaintSequencer$Lane;") (by decide +kernel)
  have k_60 := hts (.fieldLink RX2 60 "PaintSequencer" "bodies" "I") (by decide +kernel)
  have k_161 := hts (.fieldLink RX2 161 "PaintSequencer" "assembled" "I") (by decide +kernel)
  have k_208 := hts (.fieldLink RX2 208 "PaintSequencer" "laneInTurn" "I") (by decide +kernel)
  have k_46 := hts (.fieldLink RX2 46 "PaintSequencer" "latestColour" "I") (by decide +kernel)
  have k_175 := hts (.fieldLink RX2 175 "PaintSequencer" "changes" "I") (by decide +kernel)
  have k_178 := hts (.fieldLink RX2 178 "PaintSequencer" "released" "I") (by decide +kernel)
  have lp : ∀ (n : Nat) (k : Nat), (k : Int) ≤ 5 → 5 - (k : Int) < n → AW p l e (headSpec wsX2_forgetBodies ({ frames := 1, cells := 0, slots := 0, locals := 20 } : Room)).room s m args below meth c 2 G A s.heap 0 0 (MQ below (QPv G (fun u => u = WX G.2 ad (fogS S) P) A) args s 0 0 A) (WX G.2 ad (clN S k) P) [(0, .ref (ad 0)), (1, .int (zI k))] 2 [] := by
    intro n
    induction n with
    | zero =>
      intro k h1 h2
      exfalso
      omega
    | succ n ih =>
      intro k h1 h2
      refine aw_iload_n C dX2_forgetBodies_2 rfl ?_
      refine aw_iconst C dX2_forgetBodies_3 ?_
      refine aw_icmp_ge (tgt := 22) C dX2_forgetBodies_4 (by decide) (by omega) (by omega) (fun c4 => ?_) (fun c4 => ?_)
      · have e5 : k = 5 := by omega
        subst e5
        refine aw_aload_n C dX2_forgetBodies_22 rfl ?_
        refine aw_iconst C dX2_forgetBodies_23 ?_
        refine aw_put (q0 := 0) (k := 11) C iFX2 tyX2_ok nmX2 k_60 rfl rfl rfl rfl rfl rfl (wx_f11 _ _ _ _ _) dX2_forgetBodies_24 ?_
        refine aw_aload_n C dX2_forgetBodies_27 rfl ?_
        refine aw_iconst C dX2_forgetBodies_28 ?_
        refine aw_put (q0 := 0) (k := 12) C iFX2 tyX2_ok nmX2 k_161 rfl rfl rfl rfl rfl rfl (wx_f12 _ _ _ _ _) dX2_forgetBodies_29 ?_
        refine aw_aload_n C dX2_forgetBodies_32 rfl ?_
        refine aw_iconst C dX2_forgetBodies_33 ?_
        refine aw_put (q0 := 0) (k := 13) C iFX2 tyX2_ok nmX2 k_208 rfl rfl rfl rfl rfl rfl (wx_f13 _ _ _ _ _) dX2_forgetBodies_34 ?_
        refine aw_aload_n C dX2_forgetBodies_37 rfl ?_
        refine aw_iconst C dX2_forgetBodies_38 ?_
        refine aw_put (q0 := 0) (k := 14) C iFX2 tyX2_ok nmX2 k_46 rfl rfl rfl rfl rfl rfl (wx_f14 _ _ _ _ _) dX2_forgetBodies_39 ?_
        refine aw_aload_n C dX2_forgetBodies_42 rfl ?_
        refine aw_iconst C dX2_forgetBodies_43 ?_
        refine aw_put (q0 := 0) (k := 15) C iFX2 tyX2_ok nmX2 k_175 rfl rfl rfl rfl rfl rfl (wx_f15 _ _ _ _ _) dX2_forgetBodies_44 ?_
        refine aw_aload_n C dX2_forgetBodies_47 rfl ?_
        refine aw_iconst C dX2_forgetBodies_48 ?_
        refine aw_put (q0 := 0) (k := 16) C iFX2 tyX2_ok nmX2 k_178 rfl rfl rfl rfl rfl rfl (wx_f16 _ _ _ _ _) dX2_forgetBodies_49 ?_
        exact aw_vret C dX2_forgetBodies_52 rfl
      · refine aw_aload_n C dX2_forgetBodies_7 rfl ?_
        refine aw_get (q0 := 0) (k := 0) C iFX2 k_11 rfl rfl rfl rfl dX2_forgetBodies_8 ?_
        refine aw_iload_n C dX2_forgetBodies_11 rfl ?_
        refine aw_aldL (q0 := 1) C rfl (by omega) (by omega) rfl rfl dX2_forgetBodies_12 ?_
        refine cV0v (ci := 0)  C hN (c_X0_clear (by omega) (by omega)) (cwV 0 hts gX2_forgetBodies_X0_clear rfl rfl rfl (by decide +kernel) ⟨Nat.le_of_ble_eq_true rfl, Nat.le_of_ble_eq_true rfl⟩) rfl rfl (wx_lane (by omega) (by omega)) rfl dX2_forgetBodies_13 ⟨Nat.zero_le _, Nat.zero_le _⟩ (fun u13 q13 => ?_)
        obtain rfl := q13
        refine aw_iinc C dX2_forgetBodies_16 rfl rfl rfl ?_
        refine aw_goto (tgt := 2) C dX2_forgetBodies_19 (by decide) ?_
        exact ih (k + 1) (by omega) (by omega)
  refine aw_iconst C dX2_forgetBodies_0 ?_
  refine aw_istore_n C dX2_forgetBodies_1 rfl rfl ?_
  exact lp 6 0 (by omega) (by omega)
set_option maxHeartbeats 4000000 in
set_option maxRecDepth 100000 in
theorem c_X1_clear {l : Launch} {G : va_G × (Nat → ClassId)} {ad : Nat → Nat} {S P : St} : Mv l G yX1_clear wsX1_clear ({ frames := 0, cells := 0, slots := 0, locals := 0 } : Room) [.ref (ad 16)] (WX G.2 ad S P) (fun u => u = WX G.2 ad S (zrN P 5 5)) := by
  refine Mv.of (own := RX1) (cc := cX1_clear) (maxL := 2) (ret := none) (by decide) rfl rfl rfl ?_
  intro p e s m args below meth c A C hN
  have hts := C.2.2.2.2.1
  have iFX1 : ∀ w ∈ u_ws RX1 TX1 6, w ∈ wsX1_clear := by decide +kernel
  have k_16 := hts (.fieldLink RX1 16 "PaintSequencer$Plan" "sizes" "[I") (by decide +kernel)
  have lp : ∀ (n : Nat) (k : Nat), (k : Int) ≤ 5 → 5 - (k : Int) < n → AW p l e (headSpec wsX1_clear ({ frames := 0, cells := 0, slots := 0, locals := 0 } : Room)).room s m args below meth c 2 G A s.heap 0 0 (MQ below (QPv G (fun u => u = WX G.2 ad S (zrN P 5 5)) A) args s 0 0 A) (WX G.2 ad S (zrN P 5 k)) [(0, .ref (ad 16)), (1, .int (zI k))] 2 [] := by
    intro n
    induction n with
    | zero =>
      intro k h1 h2
      exfalso
      omega
    | succ n ih =>
      intro k h1 h2
      refine aw_iload_n C dX1_clear_2 rfl ?_
      refine aw_iconst C dX1_clear_3 ?_
      refine aw_icmp_ge (tgt := 20) C dX1_clear_4 (by decide) (by omega) (by omega) (fun c4 => ?_) (fun c4 => ?_)
      · have e5 : k = 5 := by omega
        subst e5
        exact aw_vret C dX1_clear_20 rfl
      · refine aw_aload_n C dX1_clear_7 rfl ?_
        refine aw_get (q0 := 16) (k := 1) C iFX1 k_16 rfl rfl rfl rfl dX1_clear_8 ?_
        refine aw_iload_n C dX1_clear_11 rfl ?_
        refine aw_iconst C dX1_clear_12 ?_
        refine aw_stI (q0 := 23) C rfl (by omega) (by omega) rfl (wx_a23 _ _ _ _ _ _) dX1_clear_13 ?_
        refine aw_iinc C dX1_clear_14 rfl rfl rfl ?_
        refine aw_goto (tgt := 2) C dX1_clear_17 (by decide) ?_
        exact ih (k + 1) (by omega) (by omega)
  refine aw_iconst C dX1_clear_0 ?_
  refine aw_istore_n C dX1_clear_1 rfl rfl ?_
  exact lp 6 0 (by omega) (by omega)
set_option maxHeartbeats 4000000 in
set_option maxRecDepth 100000 in
theorem c_X1_add {l : Launch} {G : va_G × (Nat → ClassId)} {ad : Nat → Nat} {S P : St} {i z : Int} (h0 : 0 ≤ i) (h5 : i < 5) (hs : 0 ≤ P.2 5 i ∧ P.2 5 i < 6) : Mv l G yX1_add wsX1_add ({ frames := 0, cells := 0, slots := 0, locals := 0 } : Room) [.ref (ad 16), .int (zI i), .int (zI z)] (WX G.2 ad S P) (fun u => u = WX G.2 ad S (addP P i z)) := by
  refine Mv.of (own := RX1) (cc := cX1_add) (maxL := 3) (ret := none) (by decide) rfl rfl rfl ?_
  intro p e s m args below meth c A C hN
  have hts := C.2.2.2.2.1
  have iFX1 : ∀ w ∈ u_ws RX1 TX1 6, w ∈ wsX1_add := by decide +kernel
  have k_16 := hts (.fieldLink RX1 16 "PaintSequencer$Plan" "sizes" "[I") (by decide +kernel)
  have k_11 := hts (.fieldLink RX1 11 "PaintSequencer$Plan" "waiting" "[[I") (by decide +kernel)
  refine aw_aload_n C dX1_add_0 rfl ?_
  refine aw_get (q0 := 16) (k := 1) C iFX1 k_16 rfl rfl rfl rfl dX1_add_1 ?_
  refine aw_iload_n C dX1_add_4 rfl ?_
  refine aw_ldI (q0 := 23) C rfl (by omega) (by omega) rfl dX1_add_5 ?_
  refine aw_bipush C dX1_add_6 rfl ?_
  refine aw_icmp_ge (tgt := 35) C dX1_add_8 (by decide) (by omega) (by omega) (fun c8 => ?_) (fun c8 => ?_)
  · exfalso
    omega
  · refine aw_aload_n C dX1_add_11 rfl ?_
    refine aw_get (q0 := 16) (k := 0) C iFX1 k_11 rfl rfl rfl rfl dX1_add_12 ?_
    refine aw_iload_n C dX1_add_15 rfl ?_
    refine aw_aldA (q0 := 17) C rfl (by omega) (by omega) rfl rfl dX1_add_16 ?_
    refine aw_aload_n C dX1_add_17 rfl ?_
    refine aw_get (q0 := 16) (k := 1) C iFX1 k_16 rfl rfl rfl rfl dX1_add_18 ?_
    refine aw_iload_n C dX1_add_21 rfl ?_
    refine aw_ldI (q0 := 23) C rfl (by omega) (by omega) rfl dX1_add_22 ?_
    refine aw_iload_n C dX1_add_23 rfl ?_
    refine aw_stI  C (wx_wrow (by omega) (by omega)) (by omega) (by omega) rfl (wx_wrow_set (by omega) (by omega)) dX1_add_24 ?_
    refine aw_aload_n C dX1_add_25 rfl ?_
    refine aw_get (q0 := 16) (k := 1) C iFX1 k_16 rfl rfl rfl rfl dX1_add_26 ?_
    refine aw_iload_n C dX1_add_29 rfl ?_
    refine aw_dup2 C dX1_add_30 rfl rfl ?_
    refine aw_ldI (q0 := 23) C rfl (by omega) (by omega) rfl dX1_add_31 ?_
    refine aw_iconst C dX1_add_32 ?_
    refine aw_iadd C dX1_add_33 ?_
    refine aw_stI (q0 := 23) C rfl (by omega) (by omega) rfl (wx_a23 _ _ _ _ _ _) dX1_add_34 ?_
    exact aw_vret C dX1_add_35 (by unfold addP; rw [ua_n _ _ _ _ _ (show (5 : Nat) ≠ i.toNat by omega)])
set_option maxHeartbeats 4000000 in
set_option maxRecDepth 100000 in
theorem c_X2_copyLanesIntoPlan {l : Launch} {G : va_G × (Nat → ClassId)} {ad : Nat → Nat} {S P : St} (hI : Inv S) : Mv l G yX2_copyLanesIntoPlan wsX2_copyLanesIntoPlan ({ frames := 2, cells := 0, slots := 0, locals := 42 } : Room) [.ref (ad 0)] (WX G.2 ad S P) (fun u => ∃ P9 : St, u = WX G.2 ad S P9 ∧ plS S P9) := by
  refine Mv.of (own := RX2) (cc := cX2_copyLanesIntoPlan) (maxL := 3) (ret := none) (by decide) rfl rfl rfl ?_
  intro p e s m args below meth c A C hN
  have hts := C.2.2.2.2.1
  have iFX2 : ∀ w ∈ u_ws RX2 TX2 17, w ∈ wsX2_copyLanesIntoPlan := by decide +kernel
  have k_32 := hts (.fieldLink RX2 32 "PaintSequencer" "plan" "LPaintSequencer$Plan;") (by decide +kernel)
  have k_36 := hts (.fieldLink RX2 36 "PaintSequencer" "laneCount" "I") (by decide +kernel)
  have k_11 := hts (.fieldLink RX2 11 "PaintSequencer" "lanes" "[LPaintSequencer$Lane;") (by decide +kernel)
  obtain ⟨hn, hz, hr, hc, hp, ha, hq, ht⟩ := id hI
  have lp : ∀ (n : Nat) (k : Nat) (P9 : St), (k : Int) ≤ S.1 0 → S.1 0 - k < n → cpS S P9 k 0 → AW p l e (headSpec wsX2_copyLanesIntoPlan ({ frames := 2, cells := 0, slots := 0, locals := 42 } : Room)).room s m args below meth c 3 G A s.heap 0 0 (MQ below (QPv G (fun u => ∃ P9 : St, u = WX G.2 ad S P9 ∧ plS S P9) A) args s 0 0 A) (WX G.2 ad S P9) [(0, .ref (ad 0)), (1, .int (zI k))] 9 [] := by
    intro n
    induction n with
    | zero =>
      intro k P9 h1 h2 h3
      exfalso
      omega
    | succ n ih =>
      intro k P9 h1 h2 h3
      have hk9 : (k : Int) < 5 → 0 ≤ S.2 0 k ∧ S.2 0 k ≤ S.1 1 ∧ (S.1 0 ≤ k → S.2 0 k = 0) := fun h => hz k (by omega) h
      by_cases hk : (k : Int) < S.1 0
      · have h9 := hk9 (by omega)
        have lp2 : ∀ (n2 : Nat) (j : Nat) (P8 : St), (j : Int) ≤ S.2 0 k → S.2 0 k - j < n2 → cpS S P8 k j → AW p l e (headSpec wsX2_copyLanesIntoPlan ({ frames := 2, cells := 0, slots := 0, locals := 42 } : Room)).room s m args below meth c 3 G A s.heap 0 0 (MQ below (QPv G (fun u => ∃ P9 : St, u = WX G.2 ad S P9 ∧ plS S P9) A) args s 0 0 A) (WX G.2 ad S P8) [(0, .ref (ad 0)), (1, .int (zI k)), (2, .int (zI j))] 19 [] := by
          intro n2
          induction n2 with
          | zero =>
            intro j P8 g1 g2 g3
            exfalso
            omega
          | succ n2 ih2 =>
            intro j P8 g1 g2 g3
            refine aw_iload_n C dX2_copyLanesIntoPlan_19 rfl ?_
            refine aw_aload_n C dX2_copyLanesIntoPlan_20 rfl ?_
            refine aw_get (q0 := 0) (k := 0) C iFX2 k_11 rfl rfl rfl rfl dX2_copyLanesIntoPlan_21 ?_
            refine aw_iload_n C dX2_copyLanesIntoPlan_24 rfl ?_
            refine aw_aldL (q0 := 1) C rfl (by omega) (by omega) rfl rfl dX2_copyLanesIntoPlan_25 ?_
            refine cV0i (ci := 0)  C hN (c_X0_count (by omega) (by omega)) (cwV 0 hts gX2_copyLanesIntoPlan_X0_count rfl rfl rfl (by decide +kernel) ⟨Nat.le_of_ble_eq_true rfl, Nat.le_of_ble_eq_true rfl⟩) rfl rfl (wx_lane (by omega) (by omega)) rfl dX2_copyLanesIntoPlan_26 ⟨Nat.zero_le _, Nat.zero_le _⟩ (fun r26 u26 q26 => ?_)
            obtain ⟨rfl, rfl⟩ := q26
            refine aw_icmp_ge (tgt := 60) C dX2_copyLanesIntoPlan_29 (by decide) (by omega) (by omega) (fun c29 => ?_) (fun c29 => ?_)
            · refine aw_iinc C dX2_copyLanesIntoPlan_60 rfl rfl rfl ?_
              refine aw_goto (tgt := 9) C dX2_copyLanesIntoPlan_63 (by decide) ?_
              refine aw_less ?_ (ih (k + 1) P8 (by omega) (by omega) (cpS_next (by rw [show S.2 0 k = (j : Int) by omega]; exact g3)))
              exact fun q hq => List.mem_of_mem_take (i := 2) hq
            · refine aw_aload_n C dX2_copyLanesIntoPlan_32 rfl ?_
              refine aw_get (q0 := 0) (k := 5) C iFX2 k_32 rfl rfl rfl rfl dX2_copyLanesIntoPlan_33 ?_
              refine aw_iload_n C dX2_copyLanesIntoPlan_36 rfl ?_
              refine aw_aload_n C dX2_copyLanesIntoPlan_37 rfl ?_
              refine aw_aload_n C dX2_copyLanesIntoPlan_38 rfl ?_
              refine aw_get (q0 := 0) (k := 0) C iFX2 k_11 rfl rfl rfl rfl dX2_copyLanesIntoPlan_39 ?_
              refine aw_iload_n C dX2_copyLanesIntoPlan_42 rfl ?_
              refine aw_aldL (q0 := 1) C rfl (by omega) (by omega) rfl rfl dX2_copyLanesIntoPlan_43 ?_
              refine aw_iload_n C dX2_copyLanesIntoPlan_44 rfl ?_
              have h8 := atS_b hI (i := k) (z := j) (by omega) (by omega)
              refine cV1i (ci := 0)  C hN (c_X0_at (by omega) (by omega) (by omega) (by omega)) (cwV 1 hts gX2_copyLanesIntoPlan_X0_at rfl rfl rfl (by decide +kernel) ⟨Nat.le_of_ble_eq_true rfl, Nat.le_of_ble_eq_true rfl⟩) rfl rfl (wx_lane (by omega) (by omega)) rfl dX2_copyLanesIntoPlan_45 ⟨Nat.zero_le _, Nat.zero_le _⟩ (fun r45 u45 q45 => ?_)
              obtain ⟨rfl, rfl⟩ := q45
              refine cV1i (ci := 2) (q0 := 0) C hN (c_X2_colourOf (by omega) (by omega)) (cwV 1 hts gX2_copyLanesIntoPlan_X2_colourOf rfl rfl rfl (by decide +kernel) ⟨Nat.le_of_ble_eq_true rfl, Nat.le_of_ble_eq_true rfl⟩) rfl rfl rfl rfl dX2_copyLanesIntoPlan_48 ⟨Nat.zero_le _, Nat.zero_le _⟩ (fun r48 u48 q48 => ?_)
              obtain ⟨rfl, rfl⟩ := q48
              have h7 := g3.1 k (by omega) (by omega)
              rw [if_neg (by omega), if_pos rfl] at h7
              refine cV2v (ci := 1) (q0 := 16) C hN (c_X1_add (by omega) (by omega) (by omega)) (cwV 2 hts gX2_copyLanesIntoPlan_X1_add rfl rfl rfl (by decide +kernel) ⟨Nat.le_of_ble_eq_true rfl, Nat.le_of_ble_eq_true rfl⟩) rfl rfl rfl rfl dX2_copyLanesIntoPlan_51 ⟨Nat.zero_le _, Nat.zero_le _⟩ (fun u51 q51 => ?_)
              obtain rfl := q51
              refine aw_iinc C dX2_copyLanesIntoPlan_54 rfl rfl rfl ?_
              refine aw_goto (tgt := 19) C dX2_copyLanesIntoPlan_57 (by decide) ?_
              exact ih2 (j + 1) _ (by omega) (by omega) (cpS_add g3 (by omega) (by omega) (by omega))
        refine aw_iload_n C dX2_copyLanesIntoPlan_9 rfl ?_
        refine aw_aload_n C dX2_copyLanesIntoPlan_10 rfl ?_
        refine aw_get (q0 := 0) (k := 6) C iFX2 k_36 rfl rfl rfl rfl dX2_copyLanesIntoPlan_11 ?_
        refine aw_icmp_ge (tgt := 66) C dX2_copyLanesIntoPlan_14 (by decide) (by omega) (by omega) (fun c14 => ?_) (fun c14 => ?_)
        · exfalso
          omega
        · refine aw_iconst C dX2_copyLanesIntoPlan_17 ?_
          refine aw_istore_n C dX2_copyLanesIntoPlan_18 rfl rfl ?_
          exact lp2 7 0 P9 (by omega) (by omega) h3
      · refine aw_iload_n C dX2_copyLanesIntoPlan_9 rfl ?_
        refine aw_aload_n C dX2_copyLanesIntoPlan_10 rfl ?_
        refine aw_get (q0 := 0) (k := 6) C iFX2 k_36 rfl rfl rfl rfl dX2_copyLanesIntoPlan_11 ?_
        refine aw_icmp_ge (tgt := 66) C dX2_copyLanesIntoPlan_14 (by decide) (by omega) (by omega) (fun c14 => ?_) (fun c14 => ?_)
        · exact aw_vret C dX2_copyLanesIntoPlan_66 ⟨P9, rfl, cpS_pl hI (by rw [show S.1 0 = (k : Int) by omega]; exact h3)⟩
        · exfalso
          omega
  refine aw_aload_n C dX2_copyLanesIntoPlan_0 rfl ?_
  refine aw_get (q0 := 0) (k := 5) C iFX2 k_32 rfl rfl rfl rfl dX2_copyLanesIntoPlan_1 ?_
  refine cV0v (ci := 1) (q0 := 16) C hN (c_X1_clear) (cwV 0 hts gX2_copyLanesIntoPlan_X1_clear rfl rfl rfl (by decide +kernel) ⟨Nat.le_of_ble_eq_true rfl, Nat.le_of_ble_eq_true rfl⟩) rfl rfl rfl rfl dX2_copyLanesIntoPlan_4 ⟨Nat.zero_le _, Nat.zero_le _⟩ (fun u4 q4 => ?_)
  obtain rfl := q4
  refine aw_iconst C dX2_copyLanesIntoPlan_7 ?_
  refine aw_istore_n C dX2_copyLanesIntoPlan_8 rfl rfl ?_
  exact lp 6 0 _ (by omega) (by omega) (cpS_0 (fun i h0 h5 => zrN_at P 5 5 i h0 (by omega)))
end
section
/-! THE FEWEST CHANGES, pure: sz i bodies wait in the lane i, wt i q is the colour of the q-th, t i of them are taken, c is the latest colour (-1: none) -/
def mnL (p : Int → Bool) (g : Int → Int) : Nat → Int
  | 0 => 1000
  | n + 1 => if p n = true ∧ g n < mnL p g n then g n else mnL p g n
theorem mnL_le {p : Int → Bool} {g : Int → Int} : ∀ {n : Nat} {k : Int}, 0 ≤ k → k < n → p k = true → mnL p g n ≤ g k
  | 0, k, h0, h1, _ => by omega
  | n + 1, k, h0, h1, hp => by
    unfold mnL
    by_cases e : k = n
    · subst e
      split
      · omega
      · rename_i h
        rcases Int.lt_or_le (g n) (mnL p g n) with q | q
        · exact absurd ⟨hp, q⟩ h
        · exact q
    · have h2 := mnL_le (g := g) (n := n) h0 (by omega) hp
      split <;> omega
theorem mnL_at (p : Int → Bool) (g : Int → Int) : ∀ n : Nat, mnL p g n = 1000 ∨ ∃ k : Int, 0 ≤ k ∧ k < n ∧ p k = true ∧ mnL p g n = g k
  | 0 => Or.inl rfl
  | n + 1 => by
    unfold mnL
    split
    · rename_i h
      exact Or.inr ⟨n, by omega, by omega, h.1, rfl⟩
    · rcases mnL_at p g n with h | ⟨k, h0, h1, h2, h3⟩
      · exact Or.inl h
      · exact Or.inr ⟨k, h0, by omega, h2, h3⟩
theorem mnL_congr {p q : Int → Bool} {g h : Int → Int} : ∀ {n : Nat}, (∀ k : Int, 0 ≤ k → k < n → p k = q k ∧ (p k = true → g k = h k)) → mnL p g n = mnL q h n
  | 0, _ => rfl
  | n + 1, e => by
    have e1 := mnL_congr (n := n) (fun k h0 h1 => e k h0 (by omega))
    have e2 := e n (by omega) (by omega)
    unfold mnL
    rw [e1, ← e2.1]
    by_cases hp : p n = true
    · rw [e2.2 hp]
    · rw [if_neg (fun x => hp x.1), if_neg (fun x => hp x.1)]
/-- one more taken from the lane i -/
def upT (t : Int → Int) (i : Int) : Int → Int := fun j => if j = i then t j + 1 else t j
def mC (sz : Int → Int) (wt : Int → Int → Int) : Nat → (Int → Int) → Int → Int
  | 0, _, _ => 0
  | f + 1, t, c => mnL (fun i => decide (t i < sz i)) (fun i => chg c (wt i (t i)) + mC sz wt f (upT t i) (wt i (t i))) 5
def rmT (sz t : Int → Int) : Int := (sz 0 - t 0) + (sz 1 - t 1) + (sz 2 - t 2) + (sz 3 - t 3) + (sz 4 - t 4)
def vT (sz t : Int → Int) : Prop := ∀ i : Int, 0 ≤ i → i < 5 → 0 ≤ t i ∧ t i ≤ sz i
theorem vT_up {sz t : Int → Int} {i : Int} (h : vT sz t) (h2 : t i < sz i) : vT sz (upT t i) := fun j h0 h5 => by
  have := h j h0 h5
  unfold upT
  split
  · rename_i e
    subst e
    omega
  · exact this
theorem rmT_up {sz t : Int → Int} {i : Int} (h0 : 0 ≤ i) (h5 : i < 5) : rmT sz (upT t i) = rmT sz t - 1 := by
  unfold rmT upT
  rcases i5 h0 h5 with rfl | rfl | rfl | rfl | rfl <;> simp <;> omega
theorem rmT_pos {sz t : Int → Int} (h : 0 < rmT sz t) : ∃ i : Int, 0 ≤ i ∧ i < 5 ∧ t i < sz i := by
  unfold rmT at h
  by_cases h0 : t 0 < sz 0
  · exact ⟨0, by omega, by omega, h0⟩
  by_cases h1 : t 1 < sz 1
  · exact ⟨1, by omega, by omega, h1⟩
  by_cases h2 : t 2 < sz 2
  · exact ⟨2, by omega, by omega, h2⟩
  by_cases h3 : t 3 < sz 3
  · exact ⟨3, by omega, by omega, h3⟩
  by_cases h4 : t 4 < sz 4
  · exact ⟨4, by omega, by omega, h4⟩
  omega
theorem rmT_0 {sz t : Int → Int} (hv : vT sz t) : 0 ≤ rmT sz t ∧ (rmT sz t = 0 → ∀ i : Int, 0 ≤ i → i < 5 → t i = sz i) := by
  have h0 := hv 0 (by omega) (by omega)
  have h1 := hv 1 (by omega) (by omega)
  have h2 := hv 2 (by omega) (by omega)
  have h3 := hv 3 (by omega) (by omega)
  have h4 := hv 4 (by omega) (by omega)
  unfold rmT
  refine ⟨by omega, fun e i g0 g5 => ?_⟩
  rcases i5 g0 g5 with rfl | rfl | rfl | rfl | rfl <;> omega
theorem mC_b {sz : Int → Int} {wt : Int → Int → Int} : ∀ (f : Nat) (t : Int → Int) (c : Int), vT sz t → rmT sz t = f → 0 ≤ mC sz wt f t c ∧ mC sz wt f t c ≤ f
  | 0, t, c, _, _ => ⟨Int.le_refl 0, Int.le_refl 0⟩
  | f + 1, t, c, hv, hr => by
    obtain ⟨i, h0, h5, h2⟩ := rmT_pos (sz := sz) (t := t) (by omega)
    have hb : ∀ i : Int, 0 ≤ i → i < 5 → t i < sz i → 0 ≤ mC sz wt f (upT t i) (wt i (t i)) ∧ mC sz wt f (upT t i) (wt i (t i)) ≤ f := fun i g0 g5 g2 => mC_b f (upT t i) _ (vT_up hv g2) (by rw [rmT_up g0 g5]; omega)
    have h3 := mnL_le (p := fun i => decide (t i < sz i)) (g := fun i => chg c (wt i (t i)) + mC sz wt f (upT t i) (wt i (t i))) (n := 5) h0 h5 (decide_eq_true h2)
    have h4 := hb i h0 h5 h2
    have h6 := chg_b c (wt i (t i))
    show 0 ≤ mnL _ _ 5 ∧ mnL _ _ 5 ≤ _
    refine ⟨?_, by omega⟩
    rcases mnL_at (fun i => decide (t i < sz i)) (fun i => chg c (wt i (t i)) + mC sz wt f (upT t i) (wt i (t i))) 5 with e | ⟨k, k0, k5, k2, k3⟩
    · rw [e]; decide
    · rw [k3]
      have k4 := hb k k0 k5 (of_decide_eq_true k2)
      have k6 := chg_b c (wt k (t k))
      omega
theorem mC_free {sz : Int → Int} {wt : Int → Int → Int} (f : Nat) (t : Int → Int) : mC sz wt (f + 1) t (-1) = mnL (fun i => decide (t i < sz i)) (fun i => mC sz wt f (upT t i) (wt i (t i))) 5 := by
  refine mnL_congr (fun k _ _ => ⟨rfl, fun _ => ?_⟩)
  show chg (-1) (wt k (t k)) + _ = _
  rw [show chg (-1) (wt k (t k)) = 0 from if_pos (Or.inl rfl)]
  omega
theorem mC_col {sz : Int → Int} {wt : Int → Int → Int} {f : Nat} {t : Int → Int} {c : Int} (hv : vT sz t) (hr : rmT sz t = (f + 1 : Nat)) (hf : f < 900) (hc : ¬ c = -1) :
    mC sz wt (f + 1) t (-1) ≤ mC sz wt (f + 1) t c ∧ mC sz wt (f + 1) t c ≤ mC sz wt (f + 1) t (-1) + 1 ∧ (mC sz wt (f + 1) t c = mC sz wt (f + 1) t (-1) ↔ ∃ k : Int, 0 ≤ k ∧ k < 5 ∧ t k < sz k ∧ wt k (t k) = c ∧ mC sz wt f (upT t k) (wt k (t k)) = mC sz wt (f + 1) t (-1)) := by
  have e1 := mC_free (sz := sz) (wt := wt) f t
  have e2 : mC sz wt (f + 1) t c = mnL (fun i => decide (t i < sz i)) (fun i => chg c (wt i (t i)) + mC sz wt f (upT t i) (wt i (t i))) 5 := rfl
  have bb := mC_b (sz := sz) (wt := wt) (f + 1) t (-1) hv hr
  have bc := mC_b (sz := sz) (wt := wt) (f + 1) t c hv hr
  generalize mC sz wt (f + 1) t (-1) = L at *
  generalize mC sz wt (f + 1) t c = V at *
  have lowA : ∀ k : Int, 0 ≤ k → k < 5 → t k < sz k → L ≤ mC sz wt f (upT t k) (wt k (t k)) := fun k h0 h5 h2 => by
    rw [e1]
    exact mnL_le (g := fun i => mC sz wt f (upT t i) (wt i (t i))) (n := 5) h0 h5 (decide_eq_true h2)
  have upV : ∀ k : Int, 0 ≤ k → k < 5 → t k < sz k → V ≤ chg c (wt k (t k)) + mC sz wt f (upT t k) (wt k (t k)) := fun k h0 h5 h2 => by
    rw [e2]
    exact mnL_le (g := fun i => chg c (wt i (t i)) + mC sz wt f (upT t i) (wt i (t i))) (n := 5) h0 h5 (decide_eq_true h2)
  have atV : ∃ k : Int, 0 ≤ k ∧ k < 5 ∧ t k < sz k ∧ V = chg c (wt k (t k)) + mC sz wt f (upT t k) (wt k (t k)) := by
    rcases mnL_at (fun i => decide (t i < sz i)) (fun i => chg c (wt i (t i)) + mC sz wt f (upT t i) (wt i (t i))) 5 with e | ⟨k, h0, h5, h2, h3⟩
    · rw [← e2] at e; omega
    · exact ⟨k, h0, h5, of_decide_eq_true h2, by rw [e2]; exact h3⟩
  have atL : ∃ k : Int, 0 ≤ k ∧ k < 5 ∧ t k < sz k ∧ L = mC sz wt f (upT t k) (wt k (t k)) := by
    rcases mnL_at (fun i => decide (t i < sz i)) (fun i => mC sz wt f (upT t i) (wt i (t i))) 5 with e | ⟨k, h0, h5, h2, h3⟩
    · rw [← e1] at e; omega
    · exact ⟨k, h0, h5, of_decide_eq_true h2, by rw [e1]; exact h3⟩
  obtain ⟨a, a0, a5, a2, a3⟩ := atV
  obtain ⟨b, b0, b5, b2, b3⟩ := atL
  have ca := chg_b c (wt a (t a))
  have cb := chg_b c (wt b (t b))
  have la := lowA a a0 a5 a2
  have ub := upV b b0 b5 b2
  refine ⟨by omega, by omega, fun e => ?_, fun ⟨k, k0, k5, k2, k3, k4⟩ => ?_⟩
  · have hz : chg c (wt a (t a)) = 0 := by omega
    refine ⟨a, a0, a5, a2, ?_, by omega⟩
    unfold chg at hz
    split at hz
    · rename_i h
      rcases h with h | h
      · exact absurd h hc
      · exact h.symm
    · exact absurd hz (by decide)
  · have uk := upV k k0 k5 k2
    rw [show chg c (wt k (t k)) = 0 from if_pos (Or.inr k3.symm)] at uk
    omega
/-! states by their numbers -/
def stN (sz : Int → Int) : Nat → Int
  | 0 => 1
  | n + 1 => stN sz n * (sz n + 1)
def vlN (sz t : Int → Int) : Nat → Int
  | 0 => 0
  | n + 1 => vlN sz t n + t n * stN sz n
theorem stN_pos {sz : Int → Int} (h : ∀ i : Int, 0 ≤ i → i < 5 → 0 ≤ sz i) : ∀ n : Nat, n ≤ 5 → 1 ≤ stN sz n
  | 0, _ => Int.le_refl 1
  | n + 1, hn => by
    have h1 := stN_pos h n (by omega)
    have h2 := h n (by omega) (by omega)
    show 1 ≤ stN sz n * (sz n + 1)
    have h3 : stN sz n * 1 ≤ stN sz n * (sz n + 1) := Int.mul_le_mul_of_nonneg_left (by omega) (by omega)
    omega
theorem vlN_b {sz t : Int → Int} (hz : ∀ i : Int, 0 ≤ i → i < 5 → 0 ≤ sz i) (hv : vT sz t) : ∀ n : Nat, n ≤ 5 → 0 ≤ vlN sz t n ∧ vlN sz t n < stN sz n
  | 0, _ => ⟨Int.le_refl 0, by show (0 : Int) < 1; decide⟩
  | n + 1, hn => by
    have h1 := vlN_b hz hv n (by omega)
    have h2 := hv n (by omega) (by omega)
    have h3 := stN_pos hz n (by omega)
    show 0 ≤ vlN sz t n + t n * stN sz n ∧ vlN sz t n + t n * stN sz n < stN sz n * (sz n + 1)
    have h4 : 0 ≤ t n * stN sz n := Int.mul_nonneg h2.1 (by omega)
    have h5 : t n * stN sz n ≤ sz n * stN sz n := Int.mul_le_mul_of_nonneg_right h2.2 (by omega)
    have h6 : stN sz n * (sz n + 1) = sz n * stN sz n + stN sz n := by rw [Int.mul_add, Int.mul_one, Int.mul_comm]
    omega
theorem dm_one {a x b y s : Int} (ha : 0 ≤ a ∧ a < s) (hb : 0 ≤ b ∧ b < s) (h : a + x * s = b + y * s) : a = b ∧ x = y := by
  have h1 : (a + x * s) % s = a := by rw [Int.add_mul_emod_self_right, Int.emod_eq_of_lt ha.1 ha.2]
  have h2 : (b + y * s) % s = b := by rw [Int.add_mul_emod_self_right, Int.emod_eq_of_lt hb.1 hb.2]
  have e : a = b := by rw [← h1, ← h2, h]
  refine ⟨e, ?_⟩
  have h3 : x * s = y * s := by omega
  exact Int.eq_of_mul_eq_mul_right (by omega) h3
theorem vlN_inj {sz t u : Int → Int} (hz : ∀ i : Int, 0 ≤ i → i < 5 → 0 ≤ sz i) (ht : vT sz t) (hu : vT sz u) : ∀ n : Nat, n ≤ 5 → vlN sz t n = vlN sz u n → ∀ i : Int, 0 ≤ i → i < n → t i = u i
  | 0, _, _, i, h0, h1 => by omega
  | n + 1, hn, h, i, h0, h1 => by
    have h2 : vlN sz t n + t n * stN sz n = vlN sz u n + u n * stN sz n := h
    obtain ⟨e1, e2⟩ := dm_one (vlN_b hz ht n (by omega)) (vlN_b hz hu n (by omega)) h2
    by_cases e : i = n
    · rw [e]; exact e2
    · exact vlN_inj hz ht hu n (by omega) e1 i h0 (by omega)
theorem vlN_up {sz t : Int → Int} {i : Int} : ∀ n : Nat, 0 ≤ i → vlN sz (upT t i) n = vlN sz t n + if i < n then stN sz i.toNat else 0
  | 0, h0 => by rw [if_neg (by omega)]; rfl
  | n + 1, h0 => by
    show vlN sz (upT t i) n + upT t i n * stN sz n = vlN sz t n + t n * stN sz n + _
    rw [vlN_up n h0]
    unfold upT
    by_cases e : (n : Int) = i
    · have e2 : i.toNat = n := by omega
      rw [if_pos e, if_neg (by omega), if_pos (by omega), e2, Int.add_mul]
      omega
    · rw [if_neg e]
      by_cases e3 : i < n
      · rw [if_pos e3, if_pos (by omega)]; omega
      · rw [if_neg e3, if_neg (by omega)]; omega
theorem vlN_congr {sz t u : Int → Int} : ∀ n : Nat, (∀ i : Int, 0 ≤ i → i < n → t i = u i) → vlN sz t n = vlN sz u n
  | 0, _ => rfl
  | n + 1, h => by
    show vlN sz t n + t n * stN sz n = vlN sz u n + u n * stN sz n
    rw [vlN_congr n (fun i h0 h1 => h i h0 (by omega)), h n (by omega) (by omega)]
theorem mC_congr {sz : Int → Int} {wt : Int → Int → Int} : ∀ (f : Nat) (t u : Int → Int) (c : Int), (∀ i : Int, 0 ≤ i → i < 5 → t i = u i) → mC sz wt f t c = mC sz wt f u c
  | 0, _, _, _, _ => rfl
  | f + 1, t, u, c, h => by
    refine mnL_congr (fun k h0 h5 => ?_)
    have e := h k h0 h5
    refine ⟨by rw [e], fun _ => ?_⟩
    rw [e, mC_congr f (upT t k) (upT u k) _ (fun i g0 g5 => by unfold upT; rw [h i g0 g5])]
theorem rmT_congr {sz t u : Int → Int} (h : ∀ i : Int, 0 ≤ i → i < 5 → t i = u i) : rmT sz t = rmT sz u := by
  unfold rmT
  rw [h 0 (by omega) (by omega), h 1 (by omega) (by omega), h 2 (by omega) (by omega), h 3 (by omega) (by omega), h 4 (by omega) (by omega)]
/-- twelve bodies have at most 432 states -/
def ok432 (a b c d e : Nat) : Bool := !(Nat.ble (a + b + c + d + e) 12) || Nat.ble ((a + 1) * (b + 1) * (c + 1) * (d + 1) * (e + 1)) 432
theorem st_432b : (List.range 7).all (fun a => (List.range 7).all (fun b => (List.range 7).all (fun c => (List.range 7).all (fun d => (List.range 7).all (fun e => ok432 a b c d e))))) = true := by decide +kernel
theorem st_432 (a : Nat) (ha : a < 7) (b : Nat) (hb : b < 7) (c : Nat) (hc : c < 7) (d : Nat) (hd : d < 7) (e : Nat) (he : e < 7) (hs : a + b + c + d + e ≤ 12) : (a + 1) * (b + 1) * (c + 1) * (d + 1) * (e + 1) ≤ 432 := by
  have h := st_432b
  have h1 := List.all_eq_true.mp h a (List.mem_range.mpr ha)
  have h2 := List.all_eq_true.mp h1 b (List.mem_range.mpr hb)
  have h3 := List.all_eq_true.mp h2 c (List.mem_range.mpr hc)
  have h4 := List.all_eq_true.mp h3 d (List.mem_range.mpr hd)
  have h5 := List.all_eq_true.mp h4 e (List.mem_range.mpr he)
  unfold ok432 at h5
  rw [Nat.ble_eq_true_of_le hs] at h5
  exact Nat.le_of_ble_eq_true (by simpa using h5)
theorem stN_432 {sz : Int → Int} (h : ∀ i : Int, 0 ≤ i → i < 5 → 0 ≤ sz i ∧ sz i ≤ 6) (hs : sz 0 + sz 1 + sz 2 + sz 3 + sz 4 ≤ 12) : stN sz 5 ≤ 432 := by
  have h0 := h 0 (by omega) (by omega)
  have h1 := h 1 (by omega) (by omega)
  have h2 := h 2 (by omega) (by omega)
  have h3 := h 3 (by omega) (by omega)
  have h4 := h 4 (by omega) (by omega)
  obtain ⟨a, ea⟩ : ∃ a : Nat, sz 0 = a := ⟨(sz 0).toNat, by omega⟩
  obtain ⟨b, eb⟩ : ∃ a : Nat, sz 1 = a := ⟨(sz 1).toNat, by omega⟩
  obtain ⟨c, ec⟩ : ∃ a : Nat, sz 2 = a := ⟨(sz 2).toNat, by omega⟩
  obtain ⟨d, ed⟩ : ∃ a : Nat, sz 3 = a := ⟨(sz 3).toNat, by omega⟩
  obtain ⟨e, ee⟩ : ∃ a : Nat, sz 4 = a := ⟨(sz 4).toNat, by omega⟩
  have k := st_432 a (by omega) b (by omega) c (by omega) d (by omega) e (by omega) (by omega)
  have e1 : stN sz 5 = (((a + 1) * (b + 1) * (c + 1) * (d + 1) * (e + 1) : Nat) : Int) := by
    show (((((1 : Int) * (sz 0 + 1)) * (sz 1 + 1)) * (sz 2 + 1)) * (sz 3 + 1)) * (sz 4 + 1) = _
    rw [ea, eb, ec, ed, ee]
    simp
  rw [e1]
  omega
end
section
/-! SETS OF COLOURS AS BITS -/
def mkb (b0 b1 b2 b3 b4 : Bool) : Int := (if b0 then 1 else 0) + (if b1 then 2 else 0) + (if b2 then 4 else 0) + (if b3 then 8 else 0) + (if b4 then 16 else 0)
def mskB (b : Int → Bool) : Int := mkb (b 0) (b 1) (b 2) (b 3) (b 4)
theorem mkb_b : ∀ b0 b1 b2 b3 b4 : Bool, 0 ≤ mkb b0 b1 b2 b3 b4 ∧ mkb b0 b1 b2 b3 b4 < 32 := by decide +kernel
theorem mskB_b (b : Int → Bool) : 0 ≤ mskB b ∧ mskB b < 32 := mkb_b _ _ _ _ _
theorem mkb_0 : ∀ b0 b1 b2 b3 b4 : Bool, mkb b0 b1 b2 b3 b4 = 0 → b0 = false ∧ b1 = false ∧ b2 = false ∧ b3 = false ∧ b4 = false := by decide +kernel
theorem mskB_0 {b : Int → Bool} (h : mskB b = 0) : ∀ c : Int, 0 ≤ c → c < 5 → b c = false := by
  obtain ⟨h0, h1, h2, h3, h4⟩ := mkb_0 _ _ _ _ _ h
  intro c g0 g5
  rcases i5 g0 g5 with rfl | rfl | rfl | rfl | rfl <;> assumption
theorem mskB_no : mskB (fun _ => false) = 0 := by decide +kernel
def sgl (c : Int) : Int → Bool := fun j => decide (j = c)
theorem shl_msk {c : Int} (h0 : 0 ≤ c) (h5 : c < 5) : zI 1 <<< (zI c &&& 31) = zI (mskB (sgl c)) := by
  rcases i5 h0 h5 with rfl | rfl | rfl | rfl | rfl <;> decide +kernel
theorem or_mkb : ∀ b0 b1 b2 b3 b4 d0 d1 d2 d3 d4 : Bool, zI (mkb b0 b1 b2 b3 b4) ||| zI (mkb d0 d1 d2 d3 d4) = zI (mkb (b0 || d0) (b1 || d1) (b2 || d2) (b3 || d3) (b4 || d4)) := by decide +kernel
theorem or_msk (b d : Int → Bool) : zI (mskB b) ||| zI (mskB d) = zI (mskB (fun c => b c || d c)) := or_mkb _ _ _ _ _ _ _ _ _ _
def bitI (b : Bool) : Int := if b then 1 else 0
theorem shr_mkb : ∀ b0 b1 b2 b3 b4 : Bool, (zI (mkb b0 b1 b2 b3 b4) >>> (zI 0 &&& 31)) &&& zI 1 = zI (bitI b0) ∧ (zI (mkb b0 b1 b2 b3 b4) >>> (zI 1 &&& 31)) &&& zI 1 = zI (bitI b1) ∧ (zI (mkb b0 b1 b2 b3 b4) >>> (zI 2 &&& 31)) &&& zI 1 = zI (bitI b2) ∧ (zI (mkb b0 b1 b2 b3 b4) >>> (zI 3 &&& 31)) &&& zI 1 = zI (bitI b3) ∧ (zI (mkb b0 b1 b2 b3 b4) >>> (zI 4 &&& 31)) &&& zI 1 = zI (bitI b4) := by decide +kernel
theorem shr_msk (b : Int → Bool) {c : Int} (h0 : 0 ≤ c) (h5 : c < 5) : (zI (mskB b) >>> (zI c &&& 31)) &&& zI 1 = zI (bitI (b c)) := by
  obtain ⟨e0, e1, e2, e3, e4⟩ := shr_mkb (b 0) (b 1) (b 2) (b 3) (b 4)
  rcases i5 h0 h5 with rfl | rfl | rfl | rfl | rfl <;> assumption
theorem zI_i (x : Int32) : ∃ z : Int, (-2147483648 ≤ z ∧ z < 2147483648) ∧ x = zI z := ⟨x.toInt, zI_rng x, (zI_self x).symm⟩
section AWB
variable {p : Program} {l : Launch} {e : Env} {R : Room} {s : State} {m : MethodId} {args : Array Value} {below : List Frame} {meth : Method} {c : Code} {nL : Nat} {G : va_G × (Nat → ClassId)} {A : Nat → Prop} {H0 : Heap} {cells slots : Nat} {Q : State → Prop}
variable {cc : ByteArray} {ret : Option FieldType} {Ts : List Cond} {own : String} {ws : va_W} {lv : List (Nat × Value)} {pc : Nat} {st : List Value}
theorem aw_ishl (C : cx p l s m args meth c cc nL ret Ts own G A H0) {x y z : Int} (hd : decode cc pc = .ok (.ishl, 1)) (hz : zI x <<< (zI y &&& 31) = zI z) (k : AW p l e R s m args below meth c nL G A H0 cells slots Q ws lv (pc + 1) (.int (zI z) :: st)) : AW p l e R s m args below meth c nL G A H0 cells slots Q ws lv pc (.int (zI y) :: .int (zI x) :: st) :=
  fun H locs ls hP hD hS hl => lv_ishl C.1 C.2.1 hd (by rw [hz]; exact k H locs ls hP hD hS hl)
theorem aw_ior (C : cx p l s m args meth c cc nL ret Ts own G A H0) {x y z : Int} (hd : decode cc pc = .ok (.ior, 1)) (hz : zI x ||| zI y = zI z) (k : AW p l e R s m args below meth c nL G A H0 cells slots Q ws lv (pc + 1) (.int (zI z) :: st)) : AW p l e R s m args below meth c nL G A H0 cells slots Q ws lv pc (.int (zI y) :: .int (zI x) :: st) :=
  fun H locs ls hP hD hS hl => lv_ior C.1 C.2.1 hd (by rw [hz]; exact k H locs ls hP hD hS hl)
/-- a shift to the right with a mask of one bit behind it -/
theorem aw_ishr (C : cx p l s m args meth c cc nL ret Ts own G A H0) {x y : Int} (hd : decode cc pc = .ok (.ishr, 1)) (k : AW p l e R s m args below meth c nL G A H0 cells slots Q ws lv (pc + 1) (.int (zI x >>> (zI y &&& 31)) :: st)) : AW p l e R s m args below meth c nL G A H0 cells slots Q ws lv pc (.int (zI y) :: .int (zI x) :: st) :=
  fun H locs ls hP hD hS hl => lv_ishr C.1 C.2.1 hd (k H locs ls hP hD hS hl)
theorem aw_iand (C : cx p l s m args meth c cc nL ret Ts own G A H0) {x : Int32} {y z : Int} (hd : decode cc pc = .ok (.iand, 1)) (hz : x &&& zI y = zI z) (k : AW p l e R s m args below meth c nL G A H0 cells slots Q ws lv (pc + 1) (.int (zI z) :: st)) : AW p l e R s m args below meth c nL G A H0 cells slots Q ws lv pc (.int (zI y) :: .int x :: st) :=
  fun H locs ls hP hD hS hl => lv_iand C.1 C.2.1 hd (by rw [hz]; exact k H locs ls hP hD hS hl)
end AWB
/-! THE TABLE -/
def ffv (L : Int) (b : Int → Bool) (c : Int) : Int := if c = -1 ∨ mskB b = 0 ∨ b c = true then L else L + 1
theorem ffv_b {L : Int} {b : Int → Bool} {c : Int} : L ≤ ffv L b c ∧ ffv L b c ≤ L + 1 := by unfold ffv; split <;> omega
def lsN (P : St) : Nat → St
  | 0 => P
  | n + 1 => ua (lsN P n) 7 n (stN (P.2 5) n)
theorem lsN_n (P : St) {a : Nat} (h : a ≠ 7) : ∀ n : Nat, (lsN P n).2 a = P.2 a
  | 0 => rfl
  | n + 1 => by show (ua (lsN P n) 7 n (stN (P.2 5) n)).2 a = _; rw [ua_m _ _ _ _ h]; exact lsN_n P h n
theorem lsN_at (P : St) : ∀ (n : Nat) (i : Int), 0 ≤ i → i < n → (lsN P n).2 7 i = stN (P.2 5) i.toNat
  | 0, i, h0, h1 => by omega
  | n + 1, i, h0, h1 => by
    show (ua (lsN P n) 7 n (stN (P.2 5) n)).2 7 i = _
    rw [ua_s]
    split
    · rename_i e
      subst e
      rfl
    · exact lsN_at P n i h0 (by omega)
def rsN (P : St) : Nat → St
  | 0 => P
  | n + 1 => ua (rsN P n) 6 n (P.2 5 n)
theorem rsN_n (P : St) {a : Nat} (h : a ≠ 6) : ∀ n : Nat, (rsN P n).2 a = P.2 a
  | 0 => rfl
  | n + 1 => by show (ua (rsN P n) 6 n (P.2 5 n)).2 a = _; rw [ua_m _ _ _ _ h]; exact rsN_n P h n
theorem rsN_at (P : St) : ∀ (n : Nat) (i : Int), 0 ≤ i → (rsN P n).2 6 i = if i < n then P.2 5 i else P.2 6 i
  | 0, i, h0 => by rw [if_neg (by omega)]; rfl
  | n + 1, i, h0 => by
    show (ua (rsN P n) 6 n (P.2 5 n)).2 6 i = _
    rw [ua_s, rsN_at P n i h0]
    by_cases e : i = n
    · rw [if_pos e, if_pos (by omega), e]
    · rw [if_neg e]
      by_cases e2 : i < n
      · rw [if_pos e2, if_pos (by omega)]
      · rw [if_neg e2, if_neg (by omega)]
/-- the set of colours that the least one can begin with, as the class gathers it -/
def bkN (p : Int → Bool) (col A : Int → Int) : Nat → Int → Bool
  | 0 => fun _ => false
  | n + 1 => if p n = true then (if A n < mnL p A n then sgl (col n) else if A n = mnL p A n then (fun c => bkN p col A n c || sgl (col n) c) else bkN p col A n) else bkN p col A n
theorem mnL_1 {p : Int → Bool} {g : Int → Int} {n : Nat} (h : p n = true) (h2 : g n < mnL p g n) : mnL p g (n + 1) = g n := if_pos ⟨h, h2⟩
theorem mnL_2 {p : Int → Bool} {g : Int → Int} {n : Nat} (h : ¬ g n < mnL p g n) : mnL p g (n + 1) = mnL p g n := if_neg (fun x => h x.2)
theorem mnL_3 {p : Int → Bool} {g : Int → Int} {n : Nat} (h : p n = false) : mnL p g (n + 1) = mnL p g n := if_neg (fun x => by rw [h] at x; exact absurd x.1 (by decide))
theorem bkN_iff {p : Int → Bool} {col A : Int → Int} : ∀ (n : Nat) (c : Int), bkN p col A n c = true ↔ ∃ k : Int, 0 ≤ k ∧ k < n ∧ p k = true ∧ col k = c ∧ A k = mnL p A n
  | 0, c => ⟨fun h => (by cases h), fun ⟨k, h0, h1, _⟩ => by omega⟩
  | n + 1, c => by
    have ih := bkN_iff (p := p) (col := col) (A := A) n c
    by_cases hp : p n = true
    · by_cases h1 : A n < mnL p A n
      · rw [mnL_1 hp h1]
        have e : bkN p col A (n + 1) = sgl (col n) := by show (if p n = true then _ else _) = _; rw [if_pos hp, if_pos h1]
        rw [e]
        unfold sgl
        rw [decide_eq_true_iff]
        refine ⟨fun h => ⟨n, by omega, by omega, hp, h.symm, rfl⟩, fun ⟨k, k0, k1, k2, k3, k4⟩ => ?_⟩
        by_cases e2 : k = n
        · rw [← k3, e2]
        · have := mnL_le (p := p) (g := A) (n := n) k0 (by omega) k2
          omega
      · rw [mnL_2 h1]
        by_cases h2 : A n = mnL p A n
        · have e : bkN p col A (n + 1) = fun c => bkN p col A n c || sgl (col n) c := by show (if p n = true then _ else _) = _; rw [if_pos hp, if_neg h1, if_pos h2]
          rw [e]
          dsimp only
          rw [Bool.or_eq_true, ih]
          unfold sgl
          rw [decide_eq_true_iff]
          refine ⟨fun h => ?_, fun ⟨k, k0, k1, k2, k3, k4⟩ => ?_⟩
          · rcases h with ⟨k, k0, k1, k2⟩ | h
            · exact ⟨k, k0, by omega, k2⟩
            · exact ⟨n, by omega, by omega, hp, h.symm, h2⟩
          · by_cases e2 : k = n
            · exact Or.inr (by rw [← k3, e2])
            · exact Or.inl ⟨k, k0, by omega, k2, k3, k4⟩
        · have e : bkN p col A (n + 1) = bkN p col A n := by show (if p n = true then _ else _) = _; rw [if_pos hp, if_neg h1, if_neg h2]
          rw [e, ih]
          refine ⟨fun ⟨k, k0, k1, k2⟩ => ⟨k, k0, by omega, k2⟩, fun ⟨k, k0, k1, k2, k3, k4⟩ => ?_⟩
          by_cases e2 : k = n
          · rw [e2] at k4; exact absurd k4 h2
          · exact ⟨k, k0, by omega, k2, k3, k4⟩
    · have hp2 : p n = false := by simpa using hp
      rw [mnL_3 hp2]
      have e : bkN p col A (n + 1) = bkN p col A n := by show (if p n = true then _ else _) = _; rw [if_neg hp]
      rw [e, ih]
      refine ⟨fun ⟨k, k0, k1, k2⟩ => ⟨k, k0, by omega, k2⟩, fun ⟨k, k0, k1, k2, k3, k4⟩ => ?_⟩
      by_cases e2 : k = n
      · rw [e2] at k2; exact absurd k2 hp
      · exact ⟨k, k0, by omega, k2, k3, k4⟩
theorem bkN_0 {p : Int → Bool} {col A : Int → Int} {n : Nat} (hc : ∀ k : Int, 0 ≤ k → k < n → p k = true → 0 ≤ col k ∧ col k < 5) (hA : ∀ k : Int, 0 ≤ k → k < n → p k = true → A k < 1000) : mskB (bkN p col A n) = 0 ↔ mnL p A n = 1000 := by
  constructor
  · intro h
    rcases mnL_at p A n with e | ⟨k, k0, k1, k2, k3⟩
    · exact e
    · have h1 := mskB_0 h (col k) (hc k k0 k1 k2).1 (hc k k0 k1 k2).2
      have h2 := (bkN_iff (p := p) (col := col) (A := A) n (col k)).mpr ⟨k, k0, k1, k2, rfl, k3.symm⟩
      rw [h1] at h2
      cases h2
  · intro h
    have e : bkN p col A n = fun _ => false := by
      funext c
      cases hb : bkN p col A n c with
      | false => rfl
      | true =>
        obtain ⟨k, k0, k1, k2, k3, k4⟩ := (bkN_iff n c).mp hb
        have := hA k k0 k1 k2
        omega
    rw [e]
    exact mskB_no
/-- what the class keeps of the least one -/
def lsV (p : Int → Bool) (A : Int → Int) (n : Nat) : Int := if mnL p A n = 1000 then 0 else mnL p A n

set_option maxHeartbeats 4000000 in
set_option maxRecDepth 100000 in
theorem c_X1_fewestFrom {l : Launch} {G : va_G × (Nat → ClassId)} {ad : Nat → Nat} {S P : St} {x c9 : Int} {b : Int → Bool} (hx : 0 ≤ x ∧ x < 432) (hc9 : -1 ≤ c9 ∧ c9 ≤ 4) (h8 : 0 ≤ P.2 8 x ∧ P.2 8 x ≤ 100) (h9 : P.2 9 x = mskB b) : Mi l G yX1_fewestFrom wsX1_fewestFrom ({ frames := 0, cells := 0, slots := 0, locals := 0 } : Room) [.ref (ad 16), .int (zI x), .int (zI c9)] (WX G.2 ad S P) (fun r u => r = ffv (P.2 8 x) b c9 ∧ u = (WX G.2 ad S P)) := by
  refine Mi.of (own := RX1) (cc := cX1_fewestFrom) (maxL := 5) (ret := (some .int)) (by decide) rfl rfl rfl ?_
  intro p e s m args below meth c A C hN
  have hts := C.2.2.2.2.1
  have iFX1 : ∀ w ∈ u_ws RX1 TX1 6, w ∈ wsX1_fewestFrom := by decide +kernel
  have k_29 := hts (.fieldLink RX1 29 "PaintSequencer$Plan" "starts" "[I") (by decide +kernel)
  have k_26 := hts (.fieldLink RX1 26 "PaintSequencer$Plan" "leasts" "[I") (by decide +kernel)
  refine aw_iload_n C dX1_fewestFrom_0 rfl ?_
  refine aw_if_lt (tgt := 11) C dX1_fewestFrom_1 (by decide) (by omega) (fun c1 => ?_) (fun c1 => ?_)
  · exfalso
    omega
  · refine aw_iload_n C dX1_fewestFrom_4 rfl ?_
    refine aw_sipush C dX1_fewestFrom_5 rfl ?_
    refine aw_icmp_lt (tgt := 13) C dX1_fewestFrom_8 (by decide) (by omega) (by omega) (fun c8 => ?_) (fun c8 => ?_)
    · refine aw_iload_n C dX1_fewestFrom_13 rfl ?_
      refine aw_iconst C dX1_fewestFrom_14 ?_
      refine aw_icmp_eq (tgt := 27) C dX1_fewestFrom_15 (by decide) (by omega) (by omega) (fun c15 => ?_) (fun c15 => ?_)
      · refine aw_iconst C dX1_fewestFrom_27 ?_
        refine aw_goto (tgt := 32) C dX1_fewestFrom_28 (by decide) ?_
        refine aw_istore_n C dX1_fewestFrom_32 rfl rfl ?_
        refine aw_iload_n C dX1_fewestFrom_33 rfl ?_
        refine aw_if_ne (tgt := 51) C dX1_fewestFrom_34 (by decide) (by omega) (fun c34 => ?_) (fun c34 => ?_)
        · refine aw_iconst C dX1_fewestFrom_51 ?_
          refine aw_goto (tgt := 56) C dX1_fewestFrom_52 (by decide) ?_
          refine aw_istore C dX1_fewestFrom_56 rfl rfl ?_
          refine aw_iload C dX1_fewestFrom_58 rfl ?_
          refine aw_if_eq (tgt := 72) C dX1_fewestFrom_60 (by decide) (by omega) (fun c60 => ?_) (fun c60 => ?_)
          · refine aw_aload_n C dX1_fewestFrom_72 rfl ?_
            refine aw_get (q0 := 16) (k := 4) C iFX1 k_26 rfl rfl rfl rfl dX1_fewestFrom_73 ?_
            refine aw_iload_n C dX1_fewestFrom_76 rfl ?_
            refine aw_ldI (q0 := 26) C rfl (by omega) (by omega) rfl dX1_fewestFrom_77 ?_
            refine aw_iconst C dX1_fewestFrom_78 ?_
            refine aw_iadd C dX1_fewestFrom_79 ?_
            exact aw_iret C dX1_fewestFrom_80 ⟨by
              unfold ffv
              first
              | (exfalso; omega)
              | rw [if_pos (Or.inl c15)]
              | rw [if_pos (Or.inr (Or.inl c24))]
              | rw [if_pos (Or.inr (Or.inr hb))]
              | (rw [if_neg]; rintro (h | h | h); exact c15 h; exact c24 h; exact hb h), rfl⟩
          · refine aw_aload_n C dX1_fewestFrom_63 rfl ?_
            refine aw_get (q0 := 16) (k := 4) C iFX1 k_26 rfl rfl rfl rfl dX1_fewestFrom_64 ?_
            refine aw_iload_n C dX1_fewestFrom_67 rfl ?_
            refine aw_ldI (q0 := 26) C rfl (by omega) (by omega) rfl dX1_fewestFrom_68 ?_
            refine aw_goto (tgt := 80) C dX1_fewestFrom_69 (by decide) ?_
            exact aw_iret C dX1_fewestFrom_80 ⟨by
              unfold ffv
              first
              | (exfalso; omega)
              | rw [if_pos (Or.inl c15)]
              | rw [if_pos (Or.inr (Or.inl c24))]
              | rw [if_pos (Or.inr (Or.inr hb))]
              | (rw [if_neg]; rintro (h | h | h); exact c15 h; exact c24 h; exact hb h), rfl⟩
        · refine aw_aload_n C dX1_fewestFrom_37 rfl ?_
          refine aw_get (q0 := 16) (k := 5) C iFX1 k_29 rfl rfl rfl rfl dX1_fewestFrom_38 ?_
          refine aw_iload_n C dX1_fewestFrom_41 rfl ?_
          refine aw_ldI (q0 := 27) C rfl (by omega) (by omega) rfl dX1_fewestFrom_42 ?_
          rw [h9]
          refine aw_iload_n C dX1_fewestFrom_43 rfl ?_
          refine aw_ishr C dX1_fewestFrom_44  ?_
          refine aw_iconst C dX1_fewestFrom_45 ?_
          refine aw_iand C dX1_fewestFrom_46 (shr_msk b (by omega) (by omega)) ?_
          refine aw_iconst C dX1_fewestFrom_47 ?_
          refine aw_icmp_ne (tgt := 55) C dX1_fewestFrom_48 (by decide) (by unfold bitI; split <;> omega) (by omega) (fun c48 => ?_) (fun c48 => ?_)
          · have hb : ¬ b c9 = true := fun h => c48 (by unfold bitI; rw [if_pos h])
            refine aw_iconst C dX1_fewestFrom_55 ?_
            refine aw_istore C dX1_fewestFrom_56 rfl rfl ?_
            refine aw_iload C dX1_fewestFrom_58 rfl ?_
            refine aw_if_eq (tgt := 72) C dX1_fewestFrom_60 (by decide) (by omega) (fun c60 => ?_) (fun c60 => ?_)
            · refine aw_aload_n C dX1_fewestFrom_72 rfl ?_
              refine aw_get (q0 := 16) (k := 4) C iFX1 k_26 rfl rfl rfl rfl dX1_fewestFrom_73 ?_
              refine aw_iload_n C dX1_fewestFrom_76 rfl ?_
              refine aw_ldI (q0 := 26) C rfl (by omega) (by omega) rfl dX1_fewestFrom_77 ?_
              refine aw_iconst C dX1_fewestFrom_78 ?_
              refine aw_iadd C dX1_fewestFrom_79 ?_
              exact aw_iret C dX1_fewestFrom_80 ⟨by
                unfold ffv
                first
                | (exfalso; omega)
                | rw [if_pos (Or.inl c15)]
                | rw [if_pos (Or.inr (Or.inl c24))]
                | rw [if_pos (Or.inr (Or.inr hb))]
                | (rw [if_neg]; rintro (h | h | h); exact c15 h; exact c24 h; exact hb h), rfl⟩
            · refine aw_aload_n C dX1_fewestFrom_63 rfl ?_
              refine aw_get (q0 := 16) (k := 4) C iFX1 k_26 rfl rfl rfl rfl dX1_fewestFrom_64 ?_
              refine aw_iload_n C dX1_fewestFrom_67 rfl ?_
              refine aw_ldI (q0 := 26) C rfl (by omega) (by omega) rfl dX1_fewestFrom_68 ?_
              refine aw_goto (tgt := 80) C dX1_fewestFrom_69 (by decide) ?_
              exact aw_iret C dX1_fewestFrom_80 ⟨by
                unfold ffv
                first
                | (exfalso; omega)
                | rw [if_pos (Or.inl c15)]
                | rw [if_pos (Or.inr (Or.inl c24))]
                | rw [if_pos (Or.inr (Or.inr hb))]
                | (rw [if_neg]; rintro (h | h | h); exact c15 h; exact c24 h; exact hb h), rfl⟩
          · have hb : b c9 = true := by
              cases h : b c9 with
              | true => rfl
              | false => rw [h] at c48; exact absurd c48 (by decide)
            refine aw_iconst C dX1_fewestFrom_51 ?_
            refine aw_goto (tgt := 56) C dX1_fewestFrom_52 (by decide) ?_
            refine aw_istore C dX1_fewestFrom_56 rfl rfl ?_
            refine aw_iload C dX1_fewestFrom_58 rfl ?_
            refine aw_if_eq (tgt := 72) C dX1_fewestFrom_60 (by decide) (by omega) (fun c60 => ?_) (fun c60 => ?_)
            · refine aw_aload_n C dX1_fewestFrom_72 rfl ?_
              refine aw_get (q0 := 16) (k := 4) C iFX1 k_26 rfl rfl rfl rfl dX1_fewestFrom_73 ?_
              refine aw_iload_n C dX1_fewestFrom_76 rfl ?_
              refine aw_ldI (q0 := 26) C rfl (by omega) (by omega) rfl dX1_fewestFrom_77 ?_
              refine aw_iconst C dX1_fewestFrom_78 ?_
              refine aw_iadd C dX1_fewestFrom_79 ?_
              exact aw_iret C dX1_fewestFrom_80 ⟨by
                unfold ffv
                first
                | (exfalso; omega)
                | rw [if_pos (Or.inl c15)]
                | rw [if_pos (Or.inr (Or.inl c24))]
                | rw [if_pos (Or.inr (Or.inr hb))]
                | (rw [if_neg]; rintro (h | h | h); exact c15 h; exact c24 h; exact hb h), rfl⟩
            · refine aw_aload_n C dX1_fewestFrom_63 rfl ?_
              refine aw_get (q0 := 16) (k := 4) C iFX1 k_26 rfl rfl rfl rfl dX1_fewestFrom_64 ?_
              refine aw_iload_n C dX1_fewestFrom_67 rfl ?_
              refine aw_ldI (q0 := 26) C rfl (by omega) (by omega) rfl dX1_fewestFrom_68 ?_
              refine aw_goto (tgt := 80) C dX1_fewestFrom_69 (by decide) ?_
              exact aw_iret C dX1_fewestFrom_80 ⟨by
                unfold ffv
                first
                | (exfalso; omega)
                | rw [if_pos (Or.inl c15)]
                | rw [if_pos (Or.inr (Or.inl c24))]
                | rw [if_pos (Or.inr (Or.inr hb))]
                | (rw [if_neg]; rintro (h | h | h); exact c15 h; exact c24 h; exact hb h), rfl⟩
      · refine aw_aload_n C dX1_fewestFrom_18 rfl ?_
        refine aw_get (q0 := 16) (k := 5) C iFX1 k_29 rfl rfl rfl rfl dX1_fewestFrom_19 ?_
        refine aw_iload_n C dX1_fewestFrom_22 rfl ?_
        refine aw_ldI (q0 := 27) C rfl (by omega) (by omega) rfl dX1_fewestFrom_23 ?_
        rw [h9]
        have hm := mskB_b b
        refine aw_if_ne (tgt := 31) C dX1_fewestFrom_24 (by decide) (by omega) (fun c24 => ?_) (fun c24 => ?_)
        · refine aw_iconst C dX1_fewestFrom_31 ?_
          refine aw_istore_n C dX1_fewestFrom_32 rfl rfl ?_
          refine aw_iload_n C dX1_fewestFrom_33 rfl ?_
          refine aw_if_ne (tgt := 51) C dX1_fewestFrom_34 (by decide) (by omega) (fun c34 => ?_) (fun c34 => ?_)
          · refine aw_iconst C dX1_fewestFrom_51 ?_
            refine aw_goto (tgt := 56) C dX1_fewestFrom_52 (by decide) ?_
            refine aw_istore C dX1_fewestFrom_56 rfl rfl ?_
            refine aw_iload C dX1_fewestFrom_58 rfl ?_
            refine aw_if_eq (tgt := 72) C dX1_fewestFrom_60 (by decide) (by omega) (fun c60 => ?_) (fun c60 => ?_)
            · refine aw_aload_n C dX1_fewestFrom_72 rfl ?_
              refine aw_get (q0 := 16) (k := 4) C iFX1 k_26 rfl rfl rfl rfl dX1_fewestFrom_73 ?_
              refine aw_iload_n C dX1_fewestFrom_76 rfl ?_
              refine aw_ldI (q0 := 26) C rfl (by omega) (by omega) rfl dX1_fewestFrom_77 ?_
              refine aw_iconst C dX1_fewestFrom_78 ?_
              refine aw_iadd C dX1_fewestFrom_79 ?_
              exact aw_iret C dX1_fewestFrom_80 ⟨by
                unfold ffv
                first
                | (exfalso; omega)
                | rw [if_pos (Or.inl c15)]
                | rw [if_pos (Or.inr (Or.inl c24))]
                | rw [if_pos (Or.inr (Or.inr hb))]
                | (rw [if_neg]; rintro (h | h | h); exact c15 h; exact c24 h; exact hb h), rfl⟩
            · refine aw_aload_n C dX1_fewestFrom_63 rfl ?_
              refine aw_get (q0 := 16) (k := 4) C iFX1 k_26 rfl rfl rfl rfl dX1_fewestFrom_64 ?_
              refine aw_iload_n C dX1_fewestFrom_67 rfl ?_
              refine aw_ldI (q0 := 26) C rfl (by omega) (by omega) rfl dX1_fewestFrom_68 ?_
              refine aw_goto (tgt := 80) C dX1_fewestFrom_69 (by decide) ?_
              exact aw_iret C dX1_fewestFrom_80 ⟨by
                unfold ffv
                first
                | (exfalso; omega)
                | rw [if_pos (Or.inl c15)]
                | rw [if_pos (Or.inr (Or.inl c24))]
                | rw [if_pos (Or.inr (Or.inr hb))]
                | (rw [if_neg]; rintro (h | h | h); exact c15 h; exact c24 h; exact hb h), rfl⟩
          · refine aw_aload_n C dX1_fewestFrom_37 rfl ?_
            refine aw_get (q0 := 16) (k := 5) C iFX1 k_29 rfl rfl rfl rfl dX1_fewestFrom_38 ?_
            refine aw_iload_n C dX1_fewestFrom_41 rfl ?_
            refine aw_ldI (q0 := 27) C rfl (by omega) (by omega) rfl dX1_fewestFrom_42 ?_
            rw [h9]
            refine aw_iload_n C dX1_fewestFrom_43 rfl ?_
            refine aw_ishr C dX1_fewestFrom_44  ?_
            refine aw_iconst C dX1_fewestFrom_45 ?_
            refine aw_iand C dX1_fewestFrom_46 (shr_msk b (by omega) (by omega)) ?_
            refine aw_iconst C dX1_fewestFrom_47 ?_
            refine aw_icmp_ne (tgt := 55) C dX1_fewestFrom_48 (by decide) (by unfold bitI; split <;> omega) (by omega) (fun c48 => ?_) (fun c48 => ?_)
            · have hb : ¬ b c9 = true := fun h => c48 (by unfold bitI; rw [if_pos h])
              refine aw_iconst C dX1_fewestFrom_55 ?_
              refine aw_istore C dX1_fewestFrom_56 rfl rfl ?_
              refine aw_iload C dX1_fewestFrom_58 rfl ?_
              refine aw_if_eq (tgt := 72) C dX1_fewestFrom_60 (by decide) (by omega) (fun c60 => ?_) (fun c60 => ?_)
              · refine aw_aload_n C dX1_fewestFrom_72 rfl ?_
                refine aw_get (q0 := 16) (k := 4) C iFX1 k_26 rfl rfl rfl rfl dX1_fewestFrom_73 ?_
                refine aw_iload_n C dX1_fewestFrom_76 rfl ?_
                refine aw_ldI (q0 := 26) C rfl (by omega) (by omega) rfl dX1_fewestFrom_77 ?_
                refine aw_iconst C dX1_fewestFrom_78 ?_
                refine aw_iadd C dX1_fewestFrom_79 ?_
                exact aw_iret C dX1_fewestFrom_80 ⟨by
                  unfold ffv
                  first
                  | (exfalso; omega)
                  | rw [if_pos (Or.inl c15)]
                  | rw [if_pos (Or.inr (Or.inl c24))]
                  | rw [if_pos (Or.inr (Or.inr hb))]
                  | (rw [if_neg]; rintro (h | h | h); exact c15 h; exact c24 h; exact hb h), rfl⟩
              · refine aw_aload_n C dX1_fewestFrom_63 rfl ?_
                refine aw_get (q0 := 16) (k := 4) C iFX1 k_26 rfl rfl rfl rfl dX1_fewestFrom_64 ?_
                refine aw_iload_n C dX1_fewestFrom_67 rfl ?_
                refine aw_ldI (q0 := 26) C rfl (by omega) (by omega) rfl dX1_fewestFrom_68 ?_
                refine aw_goto (tgt := 80) C dX1_fewestFrom_69 (by decide) ?_
                exact aw_iret C dX1_fewestFrom_80 ⟨by
                  unfold ffv
                  first
                  | (exfalso; omega)
                  | rw [if_pos (Or.inl c15)]
                  | rw [if_pos (Or.inr (Or.inl c24))]
                  | rw [if_pos (Or.inr (Or.inr hb))]
                  | (rw [if_neg]; rintro (h | h | h); exact c15 h; exact c24 h; exact hb h), rfl⟩
            · have hb : b c9 = true := by
                cases h : b c9 with
                | true => rfl
                | false => rw [h] at c48; exact absurd c48 (by decide)
              refine aw_iconst C dX1_fewestFrom_51 ?_
              refine aw_goto (tgt := 56) C dX1_fewestFrom_52 (by decide) ?_
              refine aw_istore C dX1_fewestFrom_56 rfl rfl ?_
              refine aw_iload C dX1_fewestFrom_58 rfl ?_
              refine aw_if_eq (tgt := 72) C dX1_fewestFrom_60 (by decide) (by omega) (fun c60 => ?_) (fun c60 => ?_)
              · refine aw_aload_n C dX1_fewestFrom_72 rfl ?_
                refine aw_get (q0 := 16) (k := 4) C iFX1 k_26 rfl rfl rfl rfl dX1_fewestFrom_73 ?_
                refine aw_iload_n C dX1_fewestFrom_76 rfl ?_
                refine aw_ldI (q0 := 26) C rfl (by omega) (by omega) rfl dX1_fewestFrom_77 ?_
                refine aw_iconst C dX1_fewestFrom_78 ?_
                refine aw_iadd C dX1_fewestFrom_79 ?_
                exact aw_iret C dX1_fewestFrom_80 ⟨by
                  unfold ffv
                  first
                  | (exfalso; omega)
                  | rw [if_pos (Or.inl c15)]
                  | rw [if_pos (Or.inr (Or.inl c24))]
                  | rw [if_pos (Or.inr (Or.inr hb))]
                  | (rw [if_neg]; rintro (h | h | h); exact c15 h; exact c24 h; exact hb h), rfl⟩
              · refine aw_aload_n C dX1_fewestFrom_63 rfl ?_
                refine aw_get (q0 := 16) (k := 4) C iFX1 k_26 rfl rfl rfl rfl dX1_fewestFrom_64 ?_
                refine aw_iload_n C dX1_fewestFrom_67 rfl ?_
                refine aw_ldI (q0 := 26) C rfl (by omega) (by omega) rfl dX1_fewestFrom_68 ?_
                refine aw_goto (tgt := 80) C dX1_fewestFrom_69 (by decide) ?_
                exact aw_iret C dX1_fewestFrom_80 ⟨by
                  unfold ffv
                  first
                  | (exfalso; omega)
                  | rw [if_pos (Or.inl c15)]
                  | rw [if_pos (Or.inr (Or.inl c24))]
                  | rw [if_pos (Or.inr (Or.inr hb))]
                  | (rw [if_neg]; rintro (h | h | h); exact c15 h; exact c24 h; exact hb h), rfl⟩
        · refine aw_iconst C dX1_fewestFrom_27 ?_
          refine aw_goto (tgt := 32) C dX1_fewestFrom_28 (by decide) ?_
          refine aw_istore_n C dX1_fewestFrom_32 rfl rfl ?_
          refine aw_iload_n C dX1_fewestFrom_33 rfl ?_
          refine aw_if_ne (tgt := 51) C dX1_fewestFrom_34 (by decide) (by omega) (fun c34 => ?_) (fun c34 => ?_)
          · refine aw_iconst C dX1_fewestFrom_51 ?_
            refine aw_goto (tgt := 56) C dX1_fewestFrom_52 (by decide) ?_
            refine aw_istore C dX1_fewestFrom_56 rfl rfl ?_
            refine aw_iload C dX1_fewestFrom_58 rfl ?_
            refine aw_if_eq (tgt := 72) C dX1_fewestFrom_60 (by decide) (by omega) (fun c60 => ?_) (fun c60 => ?_)
            · refine aw_aload_n C dX1_fewestFrom_72 rfl ?_
              refine aw_get (q0 := 16) (k := 4) C iFX1 k_26 rfl rfl rfl rfl dX1_fewestFrom_73 ?_
              refine aw_iload_n C dX1_fewestFrom_76 rfl ?_
              refine aw_ldI (q0 := 26) C rfl (by omega) (by omega) rfl dX1_fewestFrom_77 ?_
              refine aw_iconst C dX1_fewestFrom_78 ?_
              refine aw_iadd C dX1_fewestFrom_79 ?_
              exact aw_iret C dX1_fewestFrom_80 ⟨by
                unfold ffv
                first
                | (exfalso; omega)
                | rw [if_pos (Or.inl c15)]
                | rw [if_pos (Or.inr (Or.inl c24))]
                | rw [if_pos (Or.inr (Or.inr hb))]
                | (rw [if_neg]; rintro (h | h | h); exact c15 h; exact c24 h; exact hb h), rfl⟩
            · refine aw_aload_n C dX1_fewestFrom_63 rfl ?_
              refine aw_get (q0 := 16) (k := 4) C iFX1 k_26 rfl rfl rfl rfl dX1_fewestFrom_64 ?_
              refine aw_iload_n C dX1_fewestFrom_67 rfl ?_
              refine aw_ldI (q0 := 26) C rfl (by omega) (by omega) rfl dX1_fewestFrom_68 ?_
              refine aw_goto (tgt := 80) C dX1_fewestFrom_69 (by decide) ?_
              exact aw_iret C dX1_fewestFrom_80 ⟨by
                unfold ffv
                first
                | (exfalso; omega)
                | rw [if_pos (Or.inl c15)]
                | rw [if_pos (Or.inr (Or.inl c24))]
                | rw [if_pos (Or.inr (Or.inr hb))]
                | (rw [if_neg]; rintro (h | h | h); exact c15 h; exact c24 h; exact hb h), rfl⟩
          · refine aw_aload_n C dX1_fewestFrom_37 rfl ?_
            refine aw_get (q0 := 16) (k := 5) C iFX1 k_29 rfl rfl rfl rfl dX1_fewestFrom_38 ?_
            refine aw_iload_n C dX1_fewestFrom_41 rfl ?_
            refine aw_ldI (q0 := 27) C rfl (by omega) (by omega) rfl dX1_fewestFrom_42 ?_
            rw [h9]
            refine aw_iload_n C dX1_fewestFrom_43 rfl ?_
            refine aw_ishr C dX1_fewestFrom_44  ?_
            refine aw_iconst C dX1_fewestFrom_45 ?_
            refine aw_iand C dX1_fewestFrom_46 (shr_msk b (by omega) (by omega)) ?_
            refine aw_iconst C dX1_fewestFrom_47 ?_
            refine aw_icmp_ne (tgt := 55) C dX1_fewestFrom_48 (by decide) (by unfold bitI; split <;> omega) (by omega) (fun c48 => ?_) (fun c48 => ?_)
            · have hb : ¬ b c9 = true := fun h => c48 (by unfold bitI; rw [if_pos h])
              refine aw_iconst C dX1_fewestFrom_55 ?_
              refine aw_istore C dX1_fewestFrom_56 rfl rfl ?_
              refine aw_iload C dX1_fewestFrom_58 rfl ?_
              refine aw_if_eq (tgt := 72) C dX1_fewestFrom_60 (by decide) (by omega) (fun c60 => ?_) (fun c60 => ?_)
              · refine aw_aload_n C dX1_fewestFrom_72 rfl ?_
                refine aw_get (q0 := 16) (k := 4) C iFX1 k_26 rfl rfl rfl rfl dX1_fewestFrom_73 ?_
                refine aw_iload_n C dX1_fewestFrom_76 rfl ?_
                refine aw_ldI (q0 := 26) C rfl (by omega) (by omega) rfl dX1_fewestFrom_77 ?_
                refine aw_iconst C dX1_fewestFrom_78 ?_
                refine aw_iadd C dX1_fewestFrom_79 ?_
                exact aw_iret C dX1_fewestFrom_80 ⟨by
                  unfold ffv
                  first
                  | (exfalso; omega)
                  | rw [if_pos (Or.inl c15)]
                  | rw [if_pos (Or.inr (Or.inl c24))]
                  | rw [if_pos (Or.inr (Or.inr hb))]
                  | (rw [if_neg]; rintro (h | h | h); exact c15 h; exact c24 h; exact hb h), rfl⟩
              · refine aw_aload_n C dX1_fewestFrom_63 rfl ?_
                refine aw_get (q0 := 16) (k := 4) C iFX1 k_26 rfl rfl rfl rfl dX1_fewestFrom_64 ?_
                refine aw_iload_n C dX1_fewestFrom_67 rfl ?_
                refine aw_ldI (q0 := 26) C rfl (by omega) (by omega) rfl dX1_fewestFrom_68 ?_
                refine aw_goto (tgt := 80) C dX1_fewestFrom_69 (by decide) ?_
                exact aw_iret C dX1_fewestFrom_80 ⟨by
                  unfold ffv
                  first
                  | (exfalso; omega)
                  | rw [if_pos (Or.inl c15)]
                  | rw [if_pos (Or.inr (Or.inl c24))]
                  | rw [if_pos (Or.inr (Or.inr hb))]
                  | (rw [if_neg]; rintro (h | h | h); exact c15 h; exact c24 h; exact hb h), rfl⟩
            · have hb : b c9 = true := by
                cases h : b c9 with
                | true => rfl
                | false => rw [h] at c48; exact absurd c48 (by decide)
              refine aw_iconst C dX1_fewestFrom_51 ?_
              refine aw_goto (tgt := 56) C dX1_fewestFrom_52 (by decide) ?_
              refine aw_istore C dX1_fewestFrom_56 rfl rfl ?_
              refine aw_iload C dX1_fewestFrom_58 rfl ?_
              refine aw_if_eq (tgt := 72) C dX1_fewestFrom_60 (by decide) (by omega) (fun c60 => ?_) (fun c60 => ?_)
              · refine aw_aload_n C dX1_fewestFrom_72 rfl ?_
                refine aw_get (q0 := 16) (k := 4) C iFX1 k_26 rfl rfl rfl rfl dX1_fewestFrom_73 ?_
                refine aw_iload_n C dX1_fewestFrom_76 rfl ?_
                refine aw_ldI (q0 := 26) C rfl (by omega) (by omega) rfl dX1_fewestFrom_77 ?_
                refine aw_iconst C dX1_fewestFrom_78 ?_
                refine aw_iadd C dX1_fewestFrom_79 ?_
                exact aw_iret C dX1_fewestFrom_80 ⟨by
                  unfold ffv
                  first
                  | (exfalso; omega)
                  | rw [if_pos (Or.inl c15)]
                  | rw [if_pos (Or.inr (Or.inl c24))]
                  | rw [if_pos (Or.inr (Or.inr hb))]
                  | (rw [if_neg]; rintro (h | h | h); exact c15 h; exact c24 h; exact hb h), rfl⟩
              · refine aw_aload_n C dX1_fewestFrom_63 rfl ?_
                refine aw_get (q0 := 16) (k := 4) C iFX1 k_26 rfl rfl rfl rfl dX1_fewestFrom_64 ?_
                refine aw_iload_n C dX1_fewestFrom_67 rfl ?_
                refine aw_ldI (q0 := 26) C rfl (by omega) (by omega) rfl dX1_fewestFrom_68 ?_
                refine aw_goto (tgt := 80) C dX1_fewestFrom_69 (by decide) ?_
                exact aw_iret C dX1_fewestFrom_80 ⟨by
                  unfold ffv
                  first
                  | (exfalso; omega)
                  | rw [if_pos (Or.inl c15)]
                  | rw [if_pos (Or.inr (Or.inl c24))]
                  | rw [if_pos (Or.inr (Or.inr hb))]
                  | (rw [if_neg]; rintro (h | h | h); exact c15 h; exact c24 h; exact hb h), rfl⟩
    · exfalso
      omega
set_option maxHeartbeats 4000000 in
set_option maxRecDepth 100000 in
theorem c_X1_layStrides {l : Launch} {G : va_G × (Nat → ClassId)} {ad : Nat → Nat} {S P : St} (h5 : 1 ≤ stN (P.2 5) 5 ∧ stN (P.2 5) 5 ≤ 432) : Mi l G yX1_layStrides wsX1_layStrides ({ frames := 0, cells := 0, slots := 0, locals := 0 } : Room) [.ref (ad 16)] (WX G.2 ad S P) (fun r u => r = stN (P.2 5) 5 ∧ u = WX G.2 ad S (lsN P 5)) := by
  refine Mi.of (own := RX1) (cc := cX1_layStrides) (maxL := 3) (ret := (some .int)) (by decide) rfl rfl rfl ?_
  intro p e s m args below meth c A C hN
  have hts := C.2.2.2.2.1
  have iFX1 : ∀ w ∈ u_ws RX1 TX1 6, w ∈ wsX1_layStrides := by decide +kernel
  have k_23 := hts (.fieldLink RX1 23 "PaintSequencer$Plan" "strides" "[I") (by decide +kernel)
  have k_16 := hts (.fieldLink RX1 16 "PaintSequencer$Plan" "sizes" "[I") (by decide +kernel)
  have lp : ∀ (n : Nat) (k : Nat), (k : Int) ≤ 5 → 5 - (k : Int) < n → AW p l e (headSpec wsX1_layStrides ({ frames := 0, cells := 0, slots := 0, locals := 0 } : Room)).room s m args below meth c 3 G A s.heap 0 0 (MQ below (QPi G (fun r u => r = stN (P.2 5) 5 ∧ u = WX G.2 ad S (lsN P 5)) A) args s 0 0 A) (WX G.2 ad S (lsN P k)) [(0, .ref (ad 16)), (1, .int (zI (stN (P.2 5) k))), (2, .int (zI k))] 4 [] := by
    intro n
    induction n with
    | zero =>
      intro k h1 h2
      exfalso
      omega
    | succ n ih =>
      intro k h1 h2
      refine aw_iload_n C dX1_layStrides_4 rfl ?_
      refine aw_iconst C dX1_layStrides_5 ?_
      refine aw_icmp_ge (tgt := 33) C dX1_layStrides_6 (by decide) (by omega) (by omega) (fun c6 => ?_) (fun c6 => ?_)
      · have e5 : k = 5 := by omega
        subst e5
        refine aw_iload_n C dX1_layStrides_33 rfl ?_
        refine aw_sipush C dX1_layStrides_34 rfl ?_
        refine aw_icmp_ge (tgt := 44) C dX1_layStrides_37 (by decide) (by omega) (by omega) (fun c37 => ?_) (fun c37 => ?_)
        · refine aw_sipush C dX1_layStrides_44 rfl ?_
          exact aw_iret C dX1_layStrides_47 ⟨by omega, rfl⟩
        · refine aw_iload_n C dX1_layStrides_40 rfl ?_
          refine aw_goto (tgt := 47) C dX1_layStrides_41 (by decide) ?_
          exact aw_iret C dX1_layStrides_47 ⟨by omega, rfl⟩
      · refine aw_aload_n C dX1_layStrides_9 rfl ?_
        refine aw_get (q0 := 16) (k := 3) C iFX1 k_23 rfl rfl rfl rfl dX1_layStrides_10 ?_
        refine aw_iload_n C dX1_layStrides_13 rfl ?_
        refine aw_iload_n C dX1_layStrides_14 rfl ?_
        refine aw_stI (q0 := 25) C rfl (by omega) (by omega) rfl (wx_a25 _ _ _ _ _ _) dX1_layStrides_15 ?_
        refine aw_iload_n C dX1_layStrides_16 rfl ?_
        refine aw_aload_n C dX1_layStrides_17 rfl ?_
        refine aw_get (q0 := 16) (k := 1) C iFX1 k_16 rfl rfl rfl rfl dX1_layStrides_18 ?_
        refine aw_iload_n C dX1_layStrides_21 rfl ?_
        refine aw_ldI (q0 := 23) C rfl (by omega) (by omega) rfl dX1_layStrides_22 ?_
        have e7 : (ua (lsN P k) 7 k (stN (P.2 5) k)).2 5 k = P.2 5 k := congrFun (lsN_n P (by decide) (k + 1)) k
        rw [e7]
        refine aw_iconst C dX1_layStrides_23 ?_
        refine aw_iadd C dX1_layStrides_24 ?_
        refine aw_imul C dX1_layStrides_25 ?_
        refine aw_istore_n C dX1_layStrides_26 rfl rfl ?_
        refine aw_iinc C dX1_layStrides_27 rfl rfl rfl ?_
        refine aw_goto (tgt := 4) C dX1_layStrides_30 (by decide) ?_
        exact ih (k + 1) (by omega) (by omega)
  refine aw_iconst C dX1_layStrides_0 ?_
  refine aw_istore_n C dX1_layStrides_1 rfl rfl ?_
  refine aw_iconst C dX1_layStrides_2 ?_
  refine aw_istore_n C dX1_layStrides_3 rfl rfl ?_
  exact lp 6 0 (by omega) (by omega)
set_option maxHeartbeats 4000000 in
set_option maxRecDepth 100000 in
theorem c_X1_stepBack {l : Launch} {G : va_G × (Nat → ClassId)} {ad : Nat → Nat} {S P : St} (hT : ∀ i : Int, 0 ≤ i → i < 5 → (0 ≤ P.2 6 i ∧ P.2 6 i ≤ 6) ∧ (0 ≤ P.2 5 i ∧ P.2 5 i ≤ 6)) : Mv l G yX1_stepBack wsX1_stepBack ({ frames := 0, cells := 0, slots := 0, locals := 0 } : Room) [.ref (ad 16)] (WX G.2 ad S P) (fun u => ∃ k : Nat, k ≤ 5 ∧ (∀ j : Int, 0 ≤ j → j < k → P.2 6 j ≤ 0) ∧ (k < 5 → 0 < P.2 6 k) ∧ u = WX G.2 ad S (if k = 5 then rsN P 5 else ua (rsN P k) 6 k (P.2 6 k - 1))) := by
  refine Mv.of (own := RX1) (cc := cX1_stepBack) (maxL := 2) (ret := none) (by decide) rfl rfl rfl ?_
  intro p e s m args below meth c A C hN
  have hts := C.2.2.2.2.1
  have iFX1 : ∀ w ∈ u_ws RX1 TX1 6, w ∈ wsX1_stepBack := by decide +kernel
  have k_20 := hts (.fieldLink RX1 20 "PaintSequencer$Plan" "taken" "[I") (by decide +kernel)
  have k_16 := hts (.fieldLink RX1 16 "PaintSequencer$Plan" "sizes" "[I") (by decide +kernel)
  have lp : ∀ (n : Nat) (k : Nat), (k : Int) ≤ 5 → 5 - (k : Int) < n → (∀ j : Int, 0 ≤ j → j < k → P.2 6 j ≤ 0) → AW p l e (headSpec wsX1_stepBack ({ frames := 0, cells := 0, slots := 0, locals := 0 } : Room)).room s m args below meth c 2 G A s.heap 0 0 (MQ below (QPv G (fun u => ∃ k : Nat, k ≤ 5 ∧ (∀ j : Int, 0 ≤ j → j < k → P.2 6 j ≤ 0) ∧ (k < 5 → 0 < P.2 6 k) ∧ u = WX G.2 ad S (if k = 5 then rsN P 5 else ua (rsN P k) 6 k (P.2 6 k - 1))) A) args s 0 0 A) (WX G.2 ad S (rsN P k)) [(0, .ref (ad 16)), (1, .int (zI k))] 2 [] := by
    intro n
    induction n with
    | zero =>
      intro k h1 h2 h3
      exfalso
      omega
    | succ n ih =>
      intro k h1 h2 h3
      refine aw_iload_n C dX1_stepBack_2 rfl ?_
      refine aw_iconst C dX1_stepBack_3 ?_
      refine aw_icmp_ge (tgt := 45) C dX1_stepBack_4 (by decide) (by omega) (by omega) (fun c4 => ?_) (fun c4 => ?_)
      · exact aw_vret C dX1_stepBack_45 ⟨5, by omega, fun j g0 g1 => h3 j g0 (by omega), fun h => by omega, by rw [if_pos rfl, show k = 5 by omega]⟩
      · have h4 := hT k (by omega) (by omega)
        have e6 : (rsN P k).2 6 k = P.2 6 k := by rw [rsN_at P k k (by omega), if_neg (by omega)]
        have e5 : (rsN P k).2 5 k = P.2 5 k := by rw [rsN_n P (by decide) k]
        refine aw_aload_n C dX1_stepBack_7 rfl ?_
        refine aw_get (q0 := 16) (k := 2) C iFX1 k_20 rfl rfl rfl rfl dX1_stepBack_8 ?_
        refine aw_iload_n C dX1_stepBack_11 rfl ?_
        refine aw_ldI (q0 := 24) C rfl (by omega) (by omega) rfl dX1_stepBack_12 ?_
        refine aw_if_le (tgt := 27) C dX1_stepBack_13 (by decide) (by omega) (fun c13 => ?_) (fun c13 => ?_)
        · refine aw_aload_n C dX1_stepBack_27 rfl ?_
          refine aw_get (q0 := 16) (k := 2) C iFX1 k_20 rfl rfl rfl rfl dX1_stepBack_28 ?_
          refine aw_iload_n C dX1_stepBack_31 rfl ?_
          refine aw_aload_n C dX1_stepBack_32 rfl ?_
          refine aw_get (q0 := 16) (k := 1) C iFX1 k_16 rfl rfl rfl rfl dX1_stepBack_33 ?_
          refine aw_iload_n C dX1_stepBack_36 rfl ?_
          refine aw_ldI (q0 := 23) C rfl (by omega) (by omega) rfl dX1_stepBack_37 ?_
          refine aw_stI (q0 := 24) C rfl (by omega) (by omega) rfl (wx_a24 _ _ _ _ _ _) dX1_stepBack_38 ?_
          refine aw_iinc C dX1_stepBack_39 rfl rfl rfl ?_
          refine aw_goto (tgt := 2) C dX1_stepBack_42 (by decide) ?_
          rw [e5]
          exact ih (k + 1) (by omega) (by omega) (fun j g0 g1 => by
            by_cases e : j = k
            · rw [e, ← e6]; exact c13
            · exact h3 j g0 (by omega))
        · refine aw_aload_n C dX1_stepBack_16 rfl ?_
          refine aw_get (q0 := 16) (k := 2) C iFX1 k_20 rfl rfl rfl rfl dX1_stepBack_17 ?_
          refine aw_iload_n C dX1_stepBack_20 rfl ?_
          refine aw_dup2 C dX1_stepBack_21 rfl rfl ?_
          refine aw_ldI (q0 := 24) C rfl (by omega) (by omega) rfl dX1_stepBack_22 ?_
          refine aw_iconst C dX1_stepBack_23 ?_
          refine aw_isub C dX1_stepBack_24 ?_
          refine aw_stI (q0 := 24) C rfl (by omega) (by omega) rfl (wx_a24 _ _ _ _ _ _) dX1_stepBack_25 ?_
          exact aw_vret C dX1_stepBack_26 ⟨k, by omega, h3, fun _ => by omega, by rw [if_neg (by omega), e6]⟩
  refine aw_iconst C dX1_stepBack_0 ?_
  refine aw_istore_n C dX1_stepBack_1 rfl rfl ?_
  exact lp 6 0 (by omega) (by omega) (fun j g0 g1 => by omega)
set_option maxHeartbeats 4000000 in
set_option maxRecDepth 100000 in
theorem c_X1_fillState {l : Launch} {G : va_G × (Nat → ClassId)} {ad : Nat → Nat} {S P : St} {x : Int} {F : Int → Int} {bF : Int → Int → Bool} (hx : 0 ≤ x ∧ x < 432) (hT : ∀ i : Int, 0 ≤ i → i < 5 → (0 ≤ P.2 6 i ∧ P.2 6 i ≤ 6) ∧ (0 ≤ P.2 5 i ∧ P.2 5 i ≤ 6)) (hF : ∀ i : Int, 0 ≤ i → i < 5 → P.2 6 i < P.2 5 i → (0 ≤ x + P.2 7 i ∧ x + P.2 7 i < 432) ∧ ((0 ≤ P.2 8 (x + P.2 7 i) ∧ P.2 8 (x + P.2 7 i) ≤ 100) ∧ P.2 9 (x + P.2 7 i) = mskB (bF i)) ∧ ffv (P.2 8 (x + P.2 7 i)) (bF i) (P.2 i.toNat (P.2 6 i)) = F i ∧ (0 ≤ P.2 i.toNat (P.2 6 i) ∧ P.2 i.toNat (P.2 6 i) < 5) ∧ (0 ≤ F i ∧ F i ≤ 101)) : Mv l G yX1_fillState wsX1_fillState ({ frames := 1, cells := 0, slots := 0, locals := 24 } : Room) [.ref (ad 16), .int (zI x)] (WX G.2 ad S P) (fun u => u = WX G.2 ad S (ua (ua P 8 x (lsV (fun i => decide (P.2 6 i < P.2 5 i)) F 5)) 9 x (mskB (bkN (fun i => decide (P.2 6 i < P.2 5 i)) (fun i => P.2 i.toNat (P.2 6 i)) F 5)))) := by
  refine Mv.of (own := RX1) (cc := cX1_fillState) (maxL := 7) (ret := none) (by decide) rfl rfl rfl ?_
  intro p e s m args below meth c A C hN
  have hts := C.2.2.2.2.1
  have iFX1 : ∀ w ∈ u_ws RX1 TX1 6, w ∈ wsX1_fillState := by decide +kernel
  have k_20 := hts (.fieldLink RX1 20 "PaintSequencer$Plan" "taken" "[I") (by decide +kernel)
  have k_16 := hts (.fieldLink RX1 16 "PaintSequencer$Plan" "sizes" "[I") (by decide +kernel)
  have k_11 := hts (.fieldLink RX1 11 "PaintSequencer$Plan" "waiting" "[[I") (by decide +kernel)
  have k_23 := hts (.fieldLink RX1 23 "PaintSequencer$Plan" "strides" "[I") (by decide +kernel)
  have k_26 := hts (.fieldLink RX1 26 "PaintSequencer$Plan" "leasts" "[I") (by decide +kernel)
  have k_29 := hts (.fieldLink RX1 29 "PaintSequencer$Plan" "starts" "[I") (by decide +kernel)
  have hlsb : ∀ k : Nat, (k : Int) ≤ 5 → -1 ≤ lsV (fun i => decide (P.2 6 i < P.2 5 i)) F k ∧ lsV (fun i => decide (P.2 6 i < P.2 5 i)) F k ≤ 1000 := by
    intro k hk
    unfold lsV
    split
    · omega
    · rename_i h
      rcases mnL_at (fun i => decide (P.2 6 i < P.2 5 i)) F k with e | ⟨j, j0, j1, j2, j3⟩
      · exact absurd e h
      · have := (hF j j0 (by omega) (of_decide_eq_true j2)).2.2.2.2
        omega
  have lp : ∀ (n : Nat) (k : Nat), (k : Int) ≤ 5 → 5 - (k : Int) < n → AW p l e (headSpec wsX1_fillState ({ frames := 1, cells := 0, slots := 0, locals := 24 } : Room)).room s m args below meth c 7 G A s.heap 0 0 (MQ below (QPv G (fun u => u = WX G.2 ad S (ua (ua P 8 x (lsV (fun i => decide (P.2 6 i < P.2 5 i)) F 5)) 9 x (mskB (bkN (fun i => decide (P.2 6 i < P.2 5 i)) (fun i => P.2 i.toNat (P.2 6 i)) F 5)))) A) args s 0 0 A) (WX G.2 ad S P) [(0, .ref (ad 16)), (1, .int (zI x)), (2, .int (zI (lsV (fun i => decide (P.2 6 i < P.2 5 i)) F k))), (3, .int (zI (mskB (bkN (fun i => decide (P.2 6 i < P.2 5 i)) (fun i => P.2 i.toNat (P.2 6 i)) F k)))), (4, .int (zI k))] 7 [] := by
    intro n
    induction n with
    | zero =>
      intro k h1 h2
      exfalso
      omega
    | succ n ih =>
      intro k h1 h2
      refine aw_iload C dX1_fillState_7 rfl ?_
      refine aw_iconst C dX1_fillState_9 ?_
      refine aw_icmp_ge (tgt := 104) C dX1_fillState_10 (by decide) (by omega) (by omega) (fun c10 => ?_) (fun c10 => ?_)
      · have e5 : k = 5 := by omega
        subst e5
        refine aw_aload_n C dX1_fillState_104 rfl ?_
        refine aw_get (q0 := 16) (k := 4) C iFX1 k_26 rfl rfl rfl rfl dX1_fillState_105 ?_
        refine aw_iload_n C dX1_fillState_108 rfl ?_
        refine aw_iload_n C dX1_fillState_109 rfl ?_
        refine aw_stI (q0 := 26) C rfl (by omega) (by omega) rfl (wx_a26 _ _ _ _ _ _) dX1_fillState_110 ?_
        refine aw_aload_n C dX1_fillState_111 rfl ?_
        refine aw_get (q0 := 16) (k := 5) C iFX1 k_29 rfl rfl rfl rfl dX1_fillState_112 ?_
        refine aw_iload_n C dX1_fillState_115 rfl ?_
        refine aw_iload_n C dX1_fillState_116 rfl ?_
        refine aw_stI (q0 := 27) C rfl (by omega) (by omega) rfl (wx_a27 _ _ _ _ _ _) dX1_fillState_117 ?_
        exact aw_vret C dX1_fillState_118 rfl
      · have h4 := hT k (by omega) (by omega)
        refine aw_aload_n C dX1_fillState_13 rfl ?_
        refine aw_get (q0 := 16) (k := 2) C iFX1 k_20 rfl rfl rfl rfl dX1_fillState_14 ?_
        refine aw_iload C dX1_fillState_17 rfl ?_
        refine aw_ldI (q0 := 24) C rfl (by omega) (by omega) rfl dX1_fillState_19 ?_
        refine aw_aload_n C dX1_fillState_20 rfl ?_
        refine aw_get (q0 := 16) (k := 1) C iFX1 k_16 rfl rfl rfl rfl dX1_fillState_21 ?_
        refine aw_iload C dX1_fillState_24 rfl ?_
        refine aw_ldI (q0 := 23) C rfl (by omega) (by omega) rfl dX1_fillState_26 ?_
        refine aw_icmp_ge (tgt := 98) C dX1_fillState_27 (by decide) (by omega) (by omega) (fun c27 => ?_) (fun c27 => ?_)
        · refine aw_iinc C dX1_fillState_98 rfl rfl rfl ?_
          refine aw_goto (tgt := 7) C dX1_fillState_101 (by decide) ?_
          have h8 := ih (k + 1) (by omega) (by omega)
          have hz9 := bkN_0 (p := (fun i => decide (P.2 6 i < P.2 5 i))) (col := (fun i => P.2 i.toNat (P.2 6 i))) (A := F) (n := k) (fun i g0 g1 g2 => (hF i g0 (by omega) (of_decide_eq_true g2)).2.2.2.1) (fun i g0 g1 g2 => by have := (hF i g0 (by omega) (of_decide_eq_true g2)).2.2.2.2; omega)
          by_cases hav : P.2 6 k < P.2 5 k
          · have hp9 : (fun i => decide (P.2 6 i < P.2 5 i)) k = true := decide_eq_true hav
            have hF9 := hF k (by omega) (by omega) hav
            by_cases hl : F k < mnL (fun i => decide (P.2 6 i < P.2 5 i)) F k
            · have e2 : lsV (fun i => decide (P.2 6 i < P.2 5 i)) F (k + 1) = F k := by unfold lsV; rw [mnL_1 hp9 hl, if_neg (by omega)]
              have e3 : bkN (fun i => decide (P.2 6 i < P.2 5 i)) (fun i => P.2 i.toNat (P.2 6 i)) F (k + 1) = sgl ((fun i => P.2 i.toNat (P.2 6 i)) k) := by show (if (fun i => decide (P.2 6 i < P.2 5 i)) k = true then _ else _) = _; rw [if_pos hp9, if_pos hl]
              rw [e2, e3] at h8
              first
              | (refine aw_less ?_ h8; exact fun q hq => List.mem_of_mem_take (i := 5) hq)
              | (exfalso
                 by_cases hm9 : mnL (fun i => decide (P.2 6 i < P.2 5 i)) F k = 1000
                 · exact absurd (hz9.mpr hm9) (by omega)
                 · have e9 : lsV (fun i => decide (P.2 6 i < P.2 5 i)) F k = mnL (fun i => decide (P.2 6 i < P.2 5 i)) F k := if_neg hm9
                   omega)
              | (exfalso; omega)
            · by_cases hl2 : F k = mnL (fun i => decide (P.2 6 i < P.2 5 i)) F k
              · have hm9 : ¬ mnL (fun i => decide (P.2 6 i < P.2 5 i)) F k = 1000 := by omega
                have hm8 : ¬ mskB (bkN (fun i => decide (P.2 6 i < P.2 5 i)) (fun i => P.2 i.toNat (P.2 6 i)) F k) = 0 := fun h => hm9 (hz9.mp h)
                have e9 : lsV (fun i => decide (P.2 6 i < P.2 5 i)) F k = mnL (fun i => decide (P.2 6 i < P.2 5 i)) F k := if_neg hm9
                have e2 : lsV (fun i => decide (P.2 6 i < P.2 5 i)) F (k + 1) = lsV (fun i => decide (P.2 6 i < P.2 5 i)) F k := by unfold lsV; rw [mnL_2 hl]
                have e3 : bkN (fun i => decide (P.2 6 i < P.2 5 i)) (fun i => P.2 i.toNat (P.2 6 i)) F (k + 1) = fun c => bkN (fun i => decide (P.2 6 i < P.2 5 i)) (fun i => P.2 i.toNat (P.2 6 i)) F k c || sgl ((fun i => P.2 i.toNat (P.2 6 i)) k) c := by show (if (fun i => decide (P.2 6 i < P.2 5 i)) k = true then _ else _) = _; rw [if_pos hp9, if_neg hl, if_pos hl2]
                rw [e2, e3] at h8
                first
                | (refine aw_less ?_ h8; exact fun q hq => List.mem_of_mem_take (i := 5) hq)
                | (exfalso; omega)
              · have hm9 : ¬ mnL (fun i => decide (P.2 6 i < P.2 5 i)) F k = 1000 := by omega
                have hm8 : ¬ mskB (bkN (fun i => decide (P.2 6 i < P.2 5 i)) (fun i => P.2 i.toNat (P.2 6 i)) F k) = 0 := fun h => hm9 (hz9.mp h)
                have e9 : lsV (fun i => decide (P.2 6 i < P.2 5 i)) F k = mnL (fun i => decide (P.2 6 i < P.2 5 i)) F k := if_neg hm9
                have e2 : lsV (fun i => decide (P.2 6 i < P.2 5 i)) F (k + 1) = lsV (fun i => decide (P.2 6 i < P.2 5 i)) F k := by unfold lsV; rw [mnL_2 hl]
                have e3 : bkN (fun i => decide (P.2 6 i < P.2 5 i)) (fun i => P.2 i.toNat (P.2 6 i)) F (k + 1) = bkN (fun i => decide (P.2 6 i < P.2 5 i)) (fun i => P.2 i.toNat (P.2 6 i)) F k := by show (if (fun i => decide (P.2 6 i < P.2 5 i)) k = true then _ else _) = _; rw [if_pos hp9, if_neg hl, if_neg hl2]
                rw [e2, e3] at h8
                first
                | (refine aw_less ?_ h8; exact fun q hq => List.mem_of_mem_take (i := 5) hq)
                | (exfalso; omega)
          · have hp9 : (fun i => decide (P.2 6 i < P.2 5 i)) k = false := decide_eq_false hav
            have e2 : lsV (fun i => decide (P.2 6 i < P.2 5 i)) F (k + 1) = lsV (fun i => decide (P.2 6 i < P.2 5 i)) F k := by unfold lsV; rw [mnL_3 hp9]
            have e3 : bkN (fun i => decide (P.2 6 i < P.2 5 i)) (fun i => P.2 i.toNat (P.2 6 i)) F (k + 1) = bkN (fun i => decide (P.2 6 i < P.2 5 i)) (fun i => P.2 i.toNat (P.2 6 i)) F k := by show (if (fun i => decide (P.2 6 i < P.2 5 i)) k = true then _ else _) = _; rw [if_neg (by rw [hp9]; decide)]
            rw [e2, e3] at h8
            first
            | (refine aw_less ?_ h8; exact fun q hq => List.mem_of_mem_take (i := 5) hq)
            | (exfalso; omega)
        · have hF1 := hF k (by omega) (by omega) c27
          have hm1 := mskB_b (bkN (fun i => decide (P.2 6 i < P.2 5 i)) (fun i => P.2 i.toNat (P.2 6 i)) F k)
          have hl1 : -1 ≤ lsV (fun i => decide (P.2 6 i < P.2 5 i)) F k ∧ lsV (fun i => decide (P.2 6 i < P.2 5 i)) F k ≤ 1000 := hlsb k (by omega)
          refine aw_aload_n C dX1_fillState_30 rfl ?_
          refine aw_get (q0 := 16) (k := 0) C iFX1 k_11 rfl rfl rfl rfl dX1_fillState_31 ?_
          refine aw_iload C dX1_fillState_34 rfl ?_
          refine aw_aldA (q0 := 17) C rfl (by omega) (by omega) rfl rfl dX1_fillState_36 ?_
          refine aw_aload_n C dX1_fillState_37 rfl ?_
          refine aw_get (q0 := 16) (k := 2) C iFX1 k_20 rfl rfl rfl rfl dX1_fillState_38 ?_
          refine aw_iload C dX1_fillState_41 rfl ?_
          refine aw_ldI (q0 := 24) C rfl (by omega) (by omega) rfl dX1_fillState_43 ?_
          refine aw_ldI  C (wx_wrow (by omega) (by omega)) (by omega) (by omega) rfl dX1_fillState_44 ?_
          refine aw_istore C dX1_fillState_45 rfl rfl ?_
          refine aw_aload_n C dX1_fillState_47 rfl ?_
          refine aw_iload_n C dX1_fillState_48 rfl ?_
          refine aw_aload_n C dX1_fillState_49 rfl ?_
          refine aw_get (q0 := 16) (k := 3) C iFX1 k_23 rfl rfl rfl rfl dX1_fillState_50 ?_
          refine aw_iload C dX1_fillState_53 rfl ?_
          refine aw_ldI (q0 := 25) C rfl (by omega) (by omega) rfl dX1_fillState_55 ?_
          refine aw_iadd C dX1_fillState_56 ?_
          refine aw_iload C dX1_fillState_57 rfl ?_
          refine cV2i (ci := 1) (q0 := 16) C hN (c_X1_fewestFrom hF1.1 (by omega) hF1.2.1.1 hF1.2.1.2) (cwV 2 hts gX1_fillState_X1_fewestFrom rfl rfl rfl (by decide +kernel) ⟨Nat.le_of_ble_eq_true rfl, Nat.le_of_ble_eq_true rfl⟩) rfl rfl rfl rfl dX1_fillState_59 ⟨Nat.zero_le _, Nat.zero_le _⟩ (fun r59 u59 q59 => ?_)
          obtain ⟨rfl, rfl⟩ := q59
          rw [hF1.2.2.1]
          refine aw_istore C dX1_fillState_62 rfl rfl ?_
          refine aw_iload_n C dX1_fillState_64 rfl ?_
          refine aw_if_eq (tgt := 74) C dX1_fillState_65 (by decide) (by omega) (fun c65 => ?_) (fun c65 => ?_)
          · refine aw_iload C dX1_fillState_74 rfl ?_
            refine aw_istore_n C dX1_fillState_76 rfl rfl ?_
            refine aw_iconst C dX1_fillState_77 ?_
            refine aw_iload C dX1_fillState_78 rfl ?_
            refine aw_ishl C dX1_fillState_80 (shl_msk (by omega) (by omega)) ?_
            refine aw_istore_n C dX1_fillState_81 rfl rfl ?_
            refine aw_goto (tgt := 98) C dX1_fillState_82 (by decide) ?_
            refine aw_iinc C dX1_fillState_98 rfl rfl rfl ?_
            refine aw_goto (tgt := 7) C dX1_fillState_101 (by decide) ?_
            have h8 := ih (k + 1) (by omega) (by omega)
            have hz9 := bkN_0 (p := (fun i => decide (P.2 6 i < P.2 5 i))) (col := (fun i => P.2 i.toNat (P.2 6 i))) (A := F) (n := k) (fun i g0 g1 g2 => (hF i g0 (by omega) (of_decide_eq_true g2)).2.2.2.1) (fun i g0 g1 g2 => by have := (hF i g0 (by omega) (of_decide_eq_true g2)).2.2.2.2; omega)
            by_cases hav : P.2 6 k < P.2 5 k
            · have hp9 : (fun i => decide (P.2 6 i < P.2 5 i)) k = true := decide_eq_true hav
              have hF9 := hF k (by omega) (by omega) hav
              by_cases hl : F k < mnL (fun i => decide (P.2 6 i < P.2 5 i)) F k
              · have e2 : lsV (fun i => decide (P.2 6 i < P.2 5 i)) F (k + 1) = F k := by unfold lsV; rw [mnL_1 hp9 hl, if_neg (by omega)]
                have e3 : bkN (fun i => decide (P.2 6 i < P.2 5 i)) (fun i => P.2 i.toNat (P.2 6 i)) F (k + 1) = sgl ((fun i => P.2 i.toNat (P.2 6 i)) k) := by show (if (fun i => decide (P.2 6 i < P.2 5 i)) k = true then _ else _) = _; rw [if_pos hp9, if_pos hl]
                rw [e2, e3] at h8
                first
                | (refine aw_less ?_ h8; exact fun q hq => List.mem_of_mem_take (i := 5) hq)
                | (exfalso
                   by_cases hm9 : mnL (fun i => decide (P.2 6 i < P.2 5 i)) F k = 1000
                   · exact absurd (hz9.mpr hm9) (by omega)
                   · have e9 : lsV (fun i => decide (P.2 6 i < P.2 5 i)) F k = mnL (fun i => decide (P.2 6 i < P.2 5 i)) F k := if_neg hm9
                     omega)
                | (exfalso; omega)
              · by_cases hl2 : F k = mnL (fun i => decide (P.2 6 i < P.2 5 i)) F k
                · have hm9 : ¬ mnL (fun i => decide (P.2 6 i < P.2 5 i)) F k = 1000 := by omega
                  have hm8 : ¬ mskB (bkN (fun i => decide (P.2 6 i < P.2 5 i)) (fun i => P.2 i.toNat (P.2 6 i)) F k) = 0 := fun h => hm9 (hz9.mp h)
                  have e9 : lsV (fun i => decide (P.2 6 i < P.2 5 i)) F k = mnL (fun i => decide (P.2 6 i < P.2 5 i)) F k := if_neg hm9
                  have e2 : lsV (fun i => decide (P.2 6 i < P.2 5 i)) F (k + 1) = lsV (fun i => decide (P.2 6 i < P.2 5 i)) F k := by unfold lsV; rw [mnL_2 hl]
                  have e3 : bkN (fun i => decide (P.2 6 i < P.2 5 i)) (fun i => P.2 i.toNat (P.2 6 i)) F (k + 1) = fun c => bkN (fun i => decide (P.2 6 i < P.2 5 i)) (fun i => P.2 i.toNat (P.2 6 i)) F k c || sgl ((fun i => P.2 i.toNat (P.2 6 i)) k) c := by show (if (fun i => decide (P.2 6 i < P.2 5 i)) k = true then _ else _) = _; rw [if_pos hp9, if_neg hl, if_pos hl2]
                  rw [e2, e3] at h8
                  first
                  | (refine aw_less ?_ h8; exact fun q hq => List.mem_of_mem_take (i := 5) hq)
                  | (exfalso; omega)
                · have hm9 : ¬ mnL (fun i => decide (P.2 6 i < P.2 5 i)) F k = 1000 := by omega
                  have hm8 : ¬ mskB (bkN (fun i => decide (P.2 6 i < P.2 5 i)) (fun i => P.2 i.toNat (P.2 6 i)) F k) = 0 := fun h => hm9 (hz9.mp h)
                  have e9 : lsV (fun i => decide (P.2 6 i < P.2 5 i)) F k = mnL (fun i => decide (P.2 6 i < P.2 5 i)) F k := if_neg hm9
                  have e2 : lsV (fun i => decide (P.2 6 i < P.2 5 i)) F (k + 1) = lsV (fun i => decide (P.2 6 i < P.2 5 i)) F k := by unfold lsV; rw [mnL_2 hl]
                  have e3 : bkN (fun i => decide (P.2 6 i < P.2 5 i)) (fun i => P.2 i.toNat (P.2 6 i)) F (k + 1) = bkN (fun i => decide (P.2 6 i < P.2 5 i)) (fun i => P.2 i.toNat (P.2 6 i)) F k := by show (if (fun i => decide (P.2 6 i < P.2 5 i)) k = true then _ else _) = _; rw [if_pos hp9, if_neg hl, if_neg hl2]
                  rw [e2, e3] at h8
                  first
                  | (refine aw_less ?_ h8; exact fun q hq => List.mem_of_mem_take (i := 5) hq)
                  | (exfalso; omega)
            · have hp9 : (fun i => decide (P.2 6 i < P.2 5 i)) k = false := decide_eq_false hav
              have e2 : lsV (fun i => decide (P.2 6 i < P.2 5 i)) F (k + 1) = lsV (fun i => decide (P.2 6 i < P.2 5 i)) F k := by unfold lsV; rw [mnL_3 hp9]
              have e3 : bkN (fun i => decide (P.2 6 i < P.2 5 i)) (fun i => P.2 i.toNat (P.2 6 i)) F (k + 1) = bkN (fun i => decide (P.2 6 i < P.2 5 i)) (fun i => P.2 i.toNat (P.2 6 i)) F k := by show (if (fun i => decide (P.2 6 i < P.2 5 i)) k = true then _ else _) = _; rw [if_neg (by rw [hp9]; decide)]
              rw [e2, e3] at h8
              first
              | (refine aw_less ?_ h8; exact fun q hq => List.mem_of_mem_take (i := 5) hq)
              | (exfalso; omega)
          · refine aw_iload C dX1_fillState_68 rfl ?_
            refine aw_iload_n C dX1_fillState_70 rfl ?_
            refine aw_icmp_ge (tgt := 85) C dX1_fillState_71 (by decide) (by omega) (by omega) (fun c71 => ?_) (fun c71 => ?_)
            · refine aw_iload C dX1_fillState_85 rfl ?_
              refine aw_iload_n C dX1_fillState_87 rfl ?_
              refine aw_icmp_ne (tgt := 98) C dX1_fillState_88 (by decide) (by omega) (by omega) (fun c88 => ?_) (fun c88 => ?_)
              · refine aw_iinc C dX1_fillState_98 rfl rfl rfl ?_
                refine aw_goto (tgt := 7) C dX1_fillState_101 (by decide) ?_
                have h8 := ih (k + 1) (by omega) (by omega)
                have hz9 := bkN_0 (p := (fun i => decide (P.2 6 i < P.2 5 i))) (col := (fun i => P.2 i.toNat (P.2 6 i))) (A := F) (n := k) (fun i g0 g1 g2 => (hF i g0 (by omega) (of_decide_eq_true g2)).2.2.2.1) (fun i g0 g1 g2 => by have := (hF i g0 (by omega) (of_decide_eq_true g2)).2.2.2.2; omega)
                by_cases hav : P.2 6 k < P.2 5 k
                · have hp9 : (fun i => decide (P.2 6 i < P.2 5 i)) k = true := decide_eq_true hav
                  have hF9 := hF k (by omega) (by omega) hav
                  by_cases hl : F k < mnL (fun i => decide (P.2 6 i < P.2 5 i)) F k
                  · have e2 : lsV (fun i => decide (P.2 6 i < P.2 5 i)) F (k + 1) = F k := by unfold lsV; rw [mnL_1 hp9 hl, if_neg (by omega)]
                    have e3 : bkN (fun i => decide (P.2 6 i < P.2 5 i)) (fun i => P.2 i.toNat (P.2 6 i)) F (k + 1) = sgl ((fun i => P.2 i.toNat (P.2 6 i)) k) := by show (if (fun i => decide (P.2 6 i < P.2 5 i)) k = true then _ else _) = _; rw [if_pos hp9, if_pos hl]
                    rw [e2, e3] at h8
                    first
                    | (refine aw_less ?_ h8; exact fun q hq => List.mem_of_mem_take (i := 5) hq)
                    | (exfalso
                       by_cases hm9 : mnL (fun i => decide (P.2 6 i < P.2 5 i)) F k = 1000
                       · exact absurd (hz9.mpr hm9) (by omega)
                       · have e9 : lsV (fun i => decide (P.2 6 i < P.2 5 i)) F k = mnL (fun i => decide (P.2 6 i < P.2 5 i)) F k := if_neg hm9
                         omega)
                    | (exfalso; omega)
                  · by_cases hl2 : F k = mnL (fun i => decide (P.2 6 i < P.2 5 i)) F k
                    · have hm9 : ¬ mnL (fun i => decide (P.2 6 i < P.2 5 i)) F k = 1000 := by omega
                      have hm8 : ¬ mskB (bkN (fun i => decide (P.2 6 i < P.2 5 i)) (fun i => P.2 i.toNat (P.2 6 i)) F k) = 0 := fun h => hm9 (hz9.mp h)
                      have e9 : lsV (fun i => decide (P.2 6 i < P.2 5 i)) F k = mnL (fun i => decide (P.2 6 i < P.2 5 i)) F k := if_neg hm9
                      have e2 : lsV (fun i => decide (P.2 6 i < P.2 5 i)) F (k + 1) = lsV (fun i => decide (P.2 6 i < P.2 5 i)) F k := by unfold lsV; rw [mnL_2 hl]
                      have e3 : bkN (fun i => decide (P.2 6 i < P.2 5 i)) (fun i => P.2 i.toNat (P.2 6 i)) F (k + 1) = fun c => bkN (fun i => decide (P.2 6 i < P.2 5 i)) (fun i => P.2 i.toNat (P.2 6 i)) F k c || sgl ((fun i => P.2 i.toNat (P.2 6 i)) k) c := by show (if (fun i => decide (P.2 6 i < P.2 5 i)) k = true then _ else _) = _; rw [if_pos hp9, if_neg hl, if_pos hl2]
                      rw [e2, e3] at h8
                      first
                      | (refine aw_less ?_ h8; exact fun q hq => List.mem_of_mem_take (i := 5) hq)
                      | (exfalso; omega)
                    · have hm9 : ¬ mnL (fun i => decide (P.2 6 i < P.2 5 i)) F k = 1000 := by omega
                      have hm8 : ¬ mskB (bkN (fun i => decide (P.2 6 i < P.2 5 i)) (fun i => P.2 i.toNat (P.2 6 i)) F k) = 0 := fun h => hm9 (hz9.mp h)
                      have e9 : lsV (fun i => decide (P.2 6 i < P.2 5 i)) F k = mnL (fun i => decide (P.2 6 i < P.2 5 i)) F k := if_neg hm9
                      have e2 : lsV (fun i => decide (P.2 6 i < P.2 5 i)) F (k + 1) = lsV (fun i => decide (P.2 6 i < P.2 5 i)) F k := by unfold lsV; rw [mnL_2 hl]
                      have e3 : bkN (fun i => decide (P.2 6 i < P.2 5 i)) (fun i => P.2 i.toNat (P.2 6 i)) F (k + 1) = bkN (fun i => decide (P.2 6 i < P.2 5 i)) (fun i => P.2 i.toNat (P.2 6 i)) F k := by show (if (fun i => decide (P.2 6 i < P.2 5 i)) k = true then _ else _) = _; rw [if_pos hp9, if_neg hl, if_neg hl2]
                      rw [e2, e3] at h8
                      first
                      | (refine aw_less ?_ h8; exact fun q hq => List.mem_of_mem_take (i := 5) hq)
                      | (exfalso; omega)
                · have hp9 : (fun i => decide (P.2 6 i < P.2 5 i)) k = false := decide_eq_false hav
                  have e2 : lsV (fun i => decide (P.2 6 i < P.2 5 i)) F (k + 1) = lsV (fun i => decide (P.2 6 i < P.2 5 i)) F k := by unfold lsV; rw [mnL_3 hp9]
                  have e3 : bkN (fun i => decide (P.2 6 i < P.2 5 i)) (fun i => P.2 i.toNat (P.2 6 i)) F (k + 1) = bkN (fun i => decide (P.2 6 i < P.2 5 i)) (fun i => P.2 i.toNat (P.2 6 i)) F k := by show (if (fun i => decide (P.2 6 i < P.2 5 i)) k = true then _ else _) = _; rw [if_neg (by rw [hp9]; decide)]
                  rw [e2, e3] at h8
                  first
                  | (refine aw_less ?_ h8; exact fun q hq => List.mem_of_mem_take (i := 5) hq)
                  | (exfalso; omega)
              · refine aw_iload_n C dX1_fillState_91 rfl ?_
                refine aw_iconst C dX1_fillState_92 ?_
                refine aw_iload C dX1_fillState_93 rfl ?_
                refine aw_ishl C dX1_fillState_95 (shl_msk (by omega) (by omega)) ?_
                refine aw_ior C dX1_fillState_96 (or_msk _ _) ?_
                refine aw_istore_n C dX1_fillState_97 rfl rfl ?_
                refine aw_iinc C dX1_fillState_98 rfl rfl rfl ?_
                refine aw_goto (tgt := 7) C dX1_fillState_101 (by decide) ?_
                have h8 := ih (k + 1) (by omega) (by omega)
                have hz9 := bkN_0 (p := (fun i => decide (P.2 6 i < P.2 5 i))) (col := (fun i => P.2 i.toNat (P.2 6 i))) (A := F) (n := k) (fun i g0 g1 g2 => (hF i g0 (by omega) (of_decide_eq_true g2)).2.2.2.1) (fun i g0 g1 g2 => by have := (hF i g0 (by omega) (of_decide_eq_true g2)).2.2.2.2; omega)
                by_cases hav : P.2 6 k < P.2 5 k
                · have hp9 : (fun i => decide (P.2 6 i < P.2 5 i)) k = true := decide_eq_true hav
                  have hF9 := hF k (by omega) (by omega) hav
                  by_cases hl : F k < mnL (fun i => decide (P.2 6 i < P.2 5 i)) F k
                  · have e2 : lsV (fun i => decide (P.2 6 i < P.2 5 i)) F (k + 1) = F k := by unfold lsV; rw [mnL_1 hp9 hl, if_neg (by omega)]
                    have e3 : bkN (fun i => decide (P.2 6 i < P.2 5 i)) (fun i => P.2 i.toNat (P.2 6 i)) F (k + 1) = sgl ((fun i => P.2 i.toNat (P.2 6 i)) k) := by show (if (fun i => decide (P.2 6 i < P.2 5 i)) k = true then _ else _) = _; rw [if_pos hp9, if_pos hl]
                    rw [e2, e3] at h8
                    first
                    | (refine aw_less ?_ h8; exact fun q hq => List.mem_of_mem_take (i := 5) hq)
                    | (exfalso
                       by_cases hm9 : mnL (fun i => decide (P.2 6 i < P.2 5 i)) F k = 1000
                       · exact absurd (hz9.mpr hm9) (by omega)
                       · have e9 : lsV (fun i => decide (P.2 6 i < P.2 5 i)) F k = mnL (fun i => decide (P.2 6 i < P.2 5 i)) F k := if_neg hm9
                         omega)
                    | (exfalso; omega)
                  · by_cases hl2 : F k = mnL (fun i => decide (P.2 6 i < P.2 5 i)) F k
                    · have hm9 : ¬ mnL (fun i => decide (P.2 6 i < P.2 5 i)) F k = 1000 := by omega
                      have hm8 : ¬ mskB (bkN (fun i => decide (P.2 6 i < P.2 5 i)) (fun i => P.2 i.toNat (P.2 6 i)) F k) = 0 := fun h => hm9 (hz9.mp h)
                      have e9 : lsV (fun i => decide (P.2 6 i < P.2 5 i)) F k = mnL (fun i => decide (P.2 6 i < P.2 5 i)) F k := if_neg hm9
                      have e2 : lsV (fun i => decide (P.2 6 i < P.2 5 i)) F (k + 1) = lsV (fun i => decide (P.2 6 i < P.2 5 i)) F k := by unfold lsV; rw [mnL_2 hl]
                      have e3 : bkN (fun i => decide (P.2 6 i < P.2 5 i)) (fun i => P.2 i.toNat (P.2 6 i)) F (k + 1) = fun c => bkN (fun i => decide (P.2 6 i < P.2 5 i)) (fun i => P.2 i.toNat (P.2 6 i)) F k c || sgl ((fun i => P.2 i.toNat (P.2 6 i)) k) c := by show (if (fun i => decide (P.2 6 i < P.2 5 i)) k = true then _ else _) = _; rw [if_pos hp9, if_neg hl, if_pos hl2]
                      rw [e2, e3] at h8
                      first
                      | (refine aw_less ?_ h8; exact fun q hq => List.mem_of_mem_take (i := 5) hq)
                      | (exfalso; omega)
                    · have hm9 : ¬ mnL (fun i => decide (P.2 6 i < P.2 5 i)) F k = 1000 := by omega
                      have hm8 : ¬ mskB (bkN (fun i => decide (P.2 6 i < P.2 5 i)) (fun i => P.2 i.toNat (P.2 6 i)) F k) = 0 := fun h => hm9 (hz9.mp h)
                      have e9 : lsV (fun i => decide (P.2 6 i < P.2 5 i)) F k = mnL (fun i => decide (P.2 6 i < P.2 5 i)) F k := if_neg hm9
                      have e2 : lsV (fun i => decide (P.2 6 i < P.2 5 i)) F (k + 1) = lsV (fun i => decide (P.2 6 i < P.2 5 i)) F k := by unfold lsV; rw [mnL_2 hl]
                      have e3 : bkN (fun i => decide (P.2 6 i < P.2 5 i)) (fun i => P.2 i.toNat (P.2 6 i)) F (k + 1) = bkN (fun i => decide (P.2 6 i < P.2 5 i)) (fun i => P.2 i.toNat (P.2 6 i)) F k := by show (if (fun i => decide (P.2 6 i < P.2 5 i)) k = true then _ else _) = _; rw [if_pos hp9, if_neg hl, if_neg hl2]
                      rw [e2, e3] at h8
                      first
                      | (refine aw_less ?_ h8; exact fun q hq => List.mem_of_mem_take (i := 5) hq)
                      | (exfalso; omega)
                · have hp9 : (fun i => decide (P.2 6 i < P.2 5 i)) k = false := decide_eq_false hav
                  have e2 : lsV (fun i => decide (P.2 6 i < P.2 5 i)) F (k + 1) = lsV (fun i => decide (P.2 6 i < P.2 5 i)) F k := by unfold lsV; rw [mnL_3 hp9]
                  have e3 : bkN (fun i => decide (P.2 6 i < P.2 5 i)) (fun i => P.2 i.toNat (P.2 6 i)) F (k + 1) = bkN (fun i => decide (P.2 6 i < P.2 5 i)) (fun i => P.2 i.toNat (P.2 6 i)) F k := by show (if (fun i => decide (P.2 6 i < P.2 5 i)) k = true then _ else _) = _; rw [if_neg (by rw [hp9]; decide)]
                  rw [e2, e3] at h8
                  first
                  | (refine aw_less ?_ h8; exact fun q hq => List.mem_of_mem_take (i := 5) hq)
                  | (exfalso; omega)
            · refine aw_iload C dX1_fillState_74 rfl ?_
              refine aw_istore_n C dX1_fillState_76 rfl rfl ?_
              refine aw_iconst C dX1_fillState_77 ?_
              refine aw_iload C dX1_fillState_78 rfl ?_
              refine aw_ishl C dX1_fillState_80 (shl_msk (by omega) (by omega)) ?_
              refine aw_istore_n C dX1_fillState_81 rfl rfl ?_
              refine aw_goto (tgt := 98) C dX1_fillState_82 (by decide) ?_
              refine aw_iinc C dX1_fillState_98 rfl rfl rfl ?_
              refine aw_goto (tgt := 7) C dX1_fillState_101 (by decide) ?_
              have h8 := ih (k + 1) (by omega) (by omega)
              have hz9 := bkN_0 (p := (fun i => decide (P.2 6 i < P.2 5 i))) (col := (fun i => P.2 i.toNat (P.2 6 i))) (A := F) (n := k) (fun i g0 g1 g2 => (hF i g0 (by omega) (of_decide_eq_true g2)).2.2.2.1) (fun i g0 g1 g2 => by have := (hF i g0 (by omega) (of_decide_eq_true g2)).2.2.2.2; omega)
              by_cases hav : P.2 6 k < P.2 5 k
              · have hp9 : (fun i => decide (P.2 6 i < P.2 5 i)) k = true := decide_eq_true hav
                have hF9 := hF k (by omega) (by omega) hav
                by_cases hl : F k < mnL (fun i => decide (P.2 6 i < P.2 5 i)) F k
                · have e2 : lsV (fun i => decide (P.2 6 i < P.2 5 i)) F (k + 1) = F k := by unfold lsV; rw [mnL_1 hp9 hl, if_neg (by omega)]
                  have e3 : bkN (fun i => decide (P.2 6 i < P.2 5 i)) (fun i => P.2 i.toNat (P.2 6 i)) F (k + 1) = sgl ((fun i => P.2 i.toNat (P.2 6 i)) k) := by show (if (fun i => decide (P.2 6 i < P.2 5 i)) k = true then _ else _) = _; rw [if_pos hp9, if_pos hl]
                  rw [e2, e3] at h8
                  first
                  | (refine aw_less ?_ h8; exact fun q hq => List.mem_of_mem_take (i := 5) hq)
                  | (exfalso
                     by_cases hm9 : mnL (fun i => decide (P.2 6 i < P.2 5 i)) F k = 1000
                     · exact absurd (hz9.mpr hm9) (by omega)
                     · have e9 : lsV (fun i => decide (P.2 6 i < P.2 5 i)) F k = mnL (fun i => decide (P.2 6 i < P.2 5 i)) F k := if_neg hm9
                       omega)
                  | (exfalso; omega)
                · by_cases hl2 : F k = mnL (fun i => decide (P.2 6 i < P.2 5 i)) F k
                  · have hm9 : ¬ mnL (fun i => decide (P.2 6 i < P.2 5 i)) F k = 1000 := by omega
                    have hm8 : ¬ mskB (bkN (fun i => decide (P.2 6 i < P.2 5 i)) (fun i => P.2 i.toNat (P.2 6 i)) F k) = 0 := fun h => hm9 (hz9.mp h)
                    have e9 : lsV (fun i => decide (P.2 6 i < P.2 5 i)) F k = mnL (fun i => decide (P.2 6 i < P.2 5 i)) F k := if_neg hm9
                    have e2 : lsV (fun i => decide (P.2 6 i < P.2 5 i)) F (k + 1) = lsV (fun i => decide (P.2 6 i < P.2 5 i)) F k := by unfold lsV; rw [mnL_2 hl]
                    have e3 : bkN (fun i => decide (P.2 6 i < P.2 5 i)) (fun i => P.2 i.toNat (P.2 6 i)) F (k + 1) = fun c => bkN (fun i => decide (P.2 6 i < P.2 5 i)) (fun i => P.2 i.toNat (P.2 6 i)) F k c || sgl ((fun i => P.2 i.toNat (P.2 6 i)) k) c := by show (if (fun i => decide (P.2 6 i < P.2 5 i)) k = true then _ else _) = _; rw [if_pos hp9, if_neg hl, if_pos hl2]
                    rw [e2, e3] at h8
                    first
                    | (refine aw_less ?_ h8; exact fun q hq => List.mem_of_mem_take (i := 5) hq)
                    | (exfalso; omega)
                  · have hm9 : ¬ mnL (fun i => decide (P.2 6 i < P.2 5 i)) F k = 1000 := by omega
                    have hm8 : ¬ mskB (bkN (fun i => decide (P.2 6 i < P.2 5 i)) (fun i => P.2 i.toNat (P.2 6 i)) F k) = 0 := fun h => hm9 (hz9.mp h)
                    have e9 : lsV (fun i => decide (P.2 6 i < P.2 5 i)) F k = mnL (fun i => decide (P.2 6 i < P.2 5 i)) F k := if_neg hm9
                    have e2 : lsV (fun i => decide (P.2 6 i < P.2 5 i)) F (k + 1) = lsV (fun i => decide (P.2 6 i < P.2 5 i)) F k := by unfold lsV; rw [mnL_2 hl]
                    have e3 : bkN (fun i => decide (P.2 6 i < P.2 5 i)) (fun i => P.2 i.toNat (P.2 6 i)) F (k + 1) = bkN (fun i => decide (P.2 6 i < P.2 5 i)) (fun i => P.2 i.toNat (P.2 6 i)) F k := by show (if (fun i => decide (P.2 6 i < P.2 5 i)) k = true then _ else _) = _; rw [if_pos hp9, if_neg hl, if_neg hl2]
                    rw [e2, e3] at h8
                    first
                    | (refine aw_less ?_ h8; exact fun q hq => List.mem_of_mem_take (i := 5) hq)
                    | (exfalso; omega)
              · have hp9 : (fun i => decide (P.2 6 i < P.2 5 i)) k = false := decide_eq_false hav
                have e2 : lsV (fun i => decide (P.2 6 i < P.2 5 i)) F (k + 1) = lsV (fun i => decide (P.2 6 i < P.2 5 i)) F k := by unfold lsV; rw [mnL_3 hp9]
                have e3 : bkN (fun i => decide (P.2 6 i < P.2 5 i)) (fun i => P.2 i.toNat (P.2 6 i)) F (k + 1) = bkN (fun i => decide (P.2 6 i < P.2 5 i)) (fun i => P.2 i.toNat (P.2 6 i)) F k := by show (if (fun i => decide (P.2 6 i < P.2 5 i)) k = true then _ else _) = _; rw [if_neg (by rw [hp9]; decide)]
                rw [e2, e3] at h8
                first
                | (refine aw_less ?_ h8; exact fun q hq => List.mem_of_mem_take (i := 5) hq)
                | (exfalso; omega)
  refine aw_iconst C dX1_fillState_0 ?_
  refine aw_istore_n C dX1_fillState_1 rfl rfl ?_
  refine aw_iconst C dX1_fillState_2 ?_
  refine aw_istore_n C dX1_fillState_3 rfl rfl ?_
  refine aw_iconst C dX1_fillState_4 ?_
  refine aw_istore C dX1_fillState_5 rfl rfl ?_
  exact lp 6 0 (by omega) (by omega)
end
section
/-! THE TABLE FILLED: what every state's entry says -/
def wtP (P : St) (i q : Int) : Int := if i < 5 then P.2 i.toNat q else 0
def TE (sz : Int → Int) (wt : Int → Int → Int) (P : St) (t : Int → Int) : Prop := P.2 8 (vlN sz t 5) = mC sz wt (rmT sz t).toNat t (-1) ∧ ∃ b : Int → Bool, P.2 9 (vlN sz t 5) = mskB b ∧ (rmT sz t = 0 → mskB b = 0) ∧ (0 < rmT sz t → ¬ mskB b = 0 ∧ ∀ c : Int, 0 ≤ c → c < 5 → (b c = true ↔ mC sz wt (rmT sz t).toNat t c = mC sz wt (rmT sz t).toNat t (-1)))
def PV (P : St) : Prop := (∀ i : Int, 0 ≤ i → i < 5 → 0 ≤ P.2 5 i ∧ P.2 5 i ≤ 6) ∧ P.2 5 0 + P.2 5 1 + P.2 5 2 + P.2 5 3 + P.2 5 4 ≤ 12 ∧ ∀ i q : Int, 0 ≤ i → i < 5 → 0 ≤ q → q < P.2 5 i → 0 ≤ P.2 i.toNat q ∧ P.2 i.toNat q < 5
theorem rmT_12 {sz t : Int → Int} (hs : sz 0 + sz 1 + sz 2 + sz 3 + sz 4 ≤ 12) (hv : vT sz t) : 0 ≤ rmT sz t ∧ rmT sz t ≤ 12 := by
  have h0 := hv 0 (by omega) (by omega)
  have h1 := hv 1 (by omega) (by omega)
  have h2 := hv 2 (by omega) (by omega)
  have h3 := hv 3 (by omega) (by omega)
  have h4 := hv 4 (by omega) (by omega)
  unfold rmT
  omega
theorem mC_12 {sz : Int → Int} {wt : Int → Int → Int} {t : Int → Int} (hs : sz 0 + sz 1 + sz 2 + sz 3 + sz 4 ≤ 12) (hv : vT sz t) (c : Int) : 0 ≤ mC sz wt (rmT sz t).toNat t c ∧ mC sz wt (rmT sz t).toNat t c ≤ 12 := by
  have h := rmT_12 hs hv
  have h2 := mC_b (wt := wt) (rmT sz t).toNat t c hv (by omega)
  omega
theorem TE_ffv {sz : Int → Int} {wt : Int → Int → Int} {P : St} {t : Int → Int} (hs : sz 0 + sz 1 + sz 2 + sz 3 + sz 4 ≤ 12) (hv : vT sz t) (h : TE sz wt P t) : (0 ≤ P.2 8 (vlN sz t 5) ∧ P.2 8 (vlN sz t 5) ≤ 100) ∧ ∃ b : Int → Bool, P.2 9 (vlN sz t 5) = mskB b ∧ ∀ c : Int, -1 ≤ c → c < 5 → ffv (P.2 8 (vlN sz t 5)) b c = mC sz wt (rmT sz t).toNat t c := by
  obtain ⟨h8, b, h9, hb0, hb1⟩ := h
  have hr := rmT_12 hs hv
  have hm := mC_12 (wt := wt) hs hv (-1)
  refine ⟨by omega, b, h9, fun c c0 c5 => ?_⟩
  rw [h8]
  unfold ffv
  by_cases hz : rmT sz t = 0
  · rw [if_pos (Or.inr (Or.inl (hb0 hz))), hz]
    rfl
  · obtain ⟨hn, hb⟩ := hb1 (by omega)
    by_cases hc : c = -1
    · rw [if_pos (Or.inl hc), hc]
    · obtain ⟨f, hf⟩ : ∃ f : Nat, (rmT sz t).toNat = f + 1 := ⟨(rmT sz t).toNat - 1, by omega⟩
      have hk := mC_col (wt := wt) (f := f) (c := c) hv (by omega) (by omega) hc
      have hb2 := hb c (by omega) c5
      rw [hf] at hb2 ⊢
      by_cases he : b c = true
      · rw [if_pos (Or.inr (Or.inr he)), hb2.mp he]
      · have hne : ¬ mC sz wt (f + 1) t c = mC sz wt (f + 1) t (-1) := fun x => he (hb2.mpr x)
        rw [if_neg (fun x => by rcases x with x | x | x; exact hc x; exact hn x; exact he x)]
        omega
theorem TE_step {sz : Int → Int} {wt : Int → Int → Int} {P : St} {t : Int → Int} (hs : sz 0 + sz 1 + sz 2 + sz 3 + sz 4 ≤ 12) (hv : vT sz t) (hc : ∀ i : Int, 0 ≤ i → i < 5 → t i < sz i → 0 ≤ wt i (t i) ∧ wt i (t i) < 5) {p : Int → Bool} {col F : Int → Int}
    (hp : ∀ i : Int, 0 ≤ i → i < 5 → p i = decide (t i < sz i)) (hcol : ∀ i : Int, 0 ≤ i → i < 5 → t i < sz i → col i = wt i (t i)) (hF : ∀ i : Int, 0 ≤ i → i < 5 → t i < sz i → F i = mC sz wt (rmT sz t - 1).toNat (upT t i) (wt i (t i))) :
    TE sz wt (ua (ua P 8 (vlN sz t 5) (lsV p F 5)) 9 (vlN sz t 5) (mskB (bkN p col F 5))) t := by
  have hr := rmT_12 hs hv
  have e8 : (ua (ua P 8 (vlN sz t 5) (lsV p F 5)) 9 (vlN sz t 5) (mskB (bkN p col F 5))).2 8 (vlN sz t 5) = lsV p F 5 := by
    rw [ua_n _ _ _ _ _ (by decide), ua_s, if_pos rfl]
  have e9 : (ua (ua P 8 (vlN sz t 5) (lsV p F 5)) 9 (vlN sz t 5) (mskB (bkN p col F 5))).2 9 (vlN sz t 5) = mskB (bkN p col F 5) := by
    rw [ua_s, if_pos rfl]
  unfold TE
  rw [e8, e9]
  have hp2 : ∀ i : Int, 0 ≤ i → i < (5 : Nat) → p i = true → t i < sz i := fun i h0 h5 h => by
    rw [hp i h0 h5] at h
    exact of_decide_eq_true h
  have hF2 : ∀ k : Int, 0 ≤ k → k < (5 : Nat) → p k = true → 0 ≤ F k ∧ F k ≤ 12 := fun k h0 h5 h => by
    have h2 := hp2 k h0 h5 h
    rw [hF k h0 h5 h2, ← rmT_up (sz := sz) (t := t) h0 h5]
    exact mC_12 hs (vT_up hv h2) _
  have hz := bkN_0 (p := p) (col := col) (A := F) (n := 5) (fun k h0 h5 h => by rw [hcol k h0 h5 (hp2 k h0 h5 h)]; exact hc k h0 h5 (hp2 k h0 h5 h)) (fun k h0 h5 h => by have := hF2 k h0 h5 h; omega)
  by_cases e : rmT sz t = 0
  · have hno : mnL p F 5 = 1000 := by
      rcases mnL_at p F 5 with h | ⟨k, k0, k5, k2, k3⟩
      · exact h
      · have h1 := hp2 k k0 k5 k2
        have h2 := (rmT_0 hv).2 e k k0 k5
        omega
    refine ⟨?_, _, rfl, fun _ => hz.mpr hno, fun h => by omega⟩
    rw [e]
    show lsV p F 5 = 0
    exact if_pos hno
  · obtain ⟨f, hf⟩ : ∃ f : Nat, (rmT sz t).toNat = f + 1 := ⟨(rmT sz t).toNat - 1, by omega⟩
    have hf2 : (rmT sz t - 1).toNat = f := by omega
    rw [hf2] at hF
    have em : mnL p F 5 = mC sz wt (f + 1) t (-1) := by
      rw [mC_free]
      exact mnL_congr (fun k h0 h5 => ⟨hp k h0 h5, fun h => hF k h0 h5 (hp2 k h0 h5 h)⟩)
    have hm := mC_b (wt := wt) (f + 1) t (-1) hv (by omega)
    have hne : ¬ mnL p F 5 = 1000 := by omega
    rw [hf]
    refine ⟨?_, _, rfl, fun h => absurd h e, fun _ => ⟨fun h => hne (hz.mp h), fun c c0 c5 => ?_⟩⟩
    · rw [← em]
      exact if_neg hne
    · rw [bkN_iff, (mC_col (wt := wt) (f := f) (c := c) hv (by omega) (by omega) (by omega)).2.2, em]
      refine ⟨fun ⟨k, k0, k5, k2, k3, k4⟩ => ?_, fun ⟨k, k0, k5, k2, k3, k4⟩ => ?_⟩
      · have h2 := hp2 k k0 k5 k2
        exact ⟨k, k0, k5, h2, by rw [← hcol k k0 k5 h2]; exact k3, by rw [← hF k k0 k5 h2]; exact k4⟩
      · exact ⟨k, k0, k5, by rw [hp k k0 k5]; exact decide_eq_true k2, by rw [hcol k k0 k5 k2]; exact k3, by rw [hF k k0 k5 k2]; exact k4⟩
theorem TE_keep {sz : Int → Int} {wt : Int → Int → Int} {P P2 : St} {t : Int → Int} (h : TE sz wt P t) (h8 : P2.2 8 (vlN sz t 5) = P.2 8 (vlN sz t 5)) (h9 : P2.2 9 (vlN sz t 5) = P.2 9 (vlN sz t 5)) : TE sz wt P2 t := by
  unfold TE at h ⊢
  rw [h8, h9]
  exact h
theorem TE_congr {sz : Int → Int} {wt : Int → Int → Int} {P : St} {t u : Int → Int} (h : TE sz wt P t) (e : ∀ i : Int, 0 ≤ i → i < 5 → t i = u i) : TE sz wt P u := by
  unfold TE at h ⊢
  rw [← vlN_congr (sz := sz) 5 e, ← rmT_congr (sz := sz) e, ← mC_congr (sz := sz) (wt := wt) _ t u (-1) e]
  obtain ⟨h1, b, h2, h3, h4⟩ := h
  exact ⟨h1, b, h2, h3, fun g => ⟨(h4 g).1, fun c c0 c5 => by rw [← mC_congr (sz := sz) (wt := wt) _ t u c e]; exact (h4 g).2 c c0 c5⟩⟩
theorem vlN_top {sz : Int → Int} : ∀ n : Nat, vlN sz sz n = stN sz n - 1
  | 0 => rfl
  | n + 1 => by
    show vlN sz sz n + sz n * stN sz n = stN sz n * (sz n + 1) - 1
    rw [vlN_top n, Int.mul_add, Int.mul_one, Int.mul_comm (stN sz n) (sz n)]
    omega
theorem vlN_zero {sz : Int → Int} : ∀ n : Nat, vlN sz (fun _ => 0) n = 0
  | 0 => rfl
  | n + 1 => by
    show vlN sz (fun _ => 0) n + 0 * stN sz n = 0
    rw [vlN_zero n, Int.zero_mul]
    rfl
/-- one state back -/
theorem sb_vl {sz t u : Int → Int} {k : Int} (hu : ∀ j : Int, 0 ≤ j → j < 5 → u j = if j < k then sz j else if j = k then t k - 1 else t j) (h0 : ∀ j : Int, 0 ≤ j → j < k → t j = 0) (hk : 0 ≤ k) (hk5 : k < 5) : ∀ n : Nat, n ≤ 5 → (n ≤ k → vlN sz t n = 0 ∧ vlN sz u n = stN sz n - 1) ∧ (k < n → vlN sz u n = vlN sz t n - 1)
  | 0, _ => ⟨fun _ => ⟨rfl, rfl⟩, fun h => by omega⟩
  | n + 1, hn => by
    have ih := sb_vl hu h0 hk hk5 n (by omega)
    have e1 : vlN sz t (n + 1) = vlN sz t n + t n * stN sz n := rfl
    have e2 : vlN sz u (n + 1) = vlN sz u n + u n * stN sz n := rfl
    have e3 : stN sz (n + 1) = stN sz n * (sz n + 1) := rfl
    have eu := hu n (by omega) (by omega)
    refine ⟨fun h => ?_, fun h => ?_⟩
    · have g := ih.1 (by omega)
      rw [if_pos (by omega)] at eu
      rw [e1, e2, e3, eu, g.1, g.2, h0 n (by omega) (by omega), Int.zero_mul, Int.mul_add, Int.mul_one, Int.mul_comm (stN sz n) (sz n)]
      omega
    · by_cases e : (n : Int) = k
      · have g := ih.1 (by omega)
        rw [if_neg (by omega), if_pos e] at eu
        rw [e1, e2, eu, g.1, g.2, e, Int.sub_mul]
        omega
      · have g := ih.2 (by omega)
        rw [if_neg (by omega), if_neg e] at eu
        rw [e1, e2, eu, g]
        omega
def TF (P P9 : St) : Prop := (∀ a : Nat, a < 6 → P9.2 a = P.2 a) ∧ (∀ i : Int, 0 ≤ i → i < 5 → P9.2 7 i = stN (P.2 5) i.toNat) ∧ ∀ t : Int → Int, vT (P.2 5) t → TE (P.2 5) (wtP P) P9 t
/-- at the number x of the loop that fills -/
def TI (P P9 : St) (x : Int) : Prop := (∀ a : Nat, a < 6 → P9.2 a = P.2 a) ∧ (∀ i : Int, 0 ≤ i → i < 5 → P9.2 7 i = stN (P.2 5) i.toNat) ∧ (0 ≤ x → vT (P.2 5) (P9.2 6) ∧ vlN (P.2 5) (P9.2 6) 5 = x) ∧ ∀ t : Int → Int, vT (P.2 5) t → x < vlN (P.2 5) t 5 → TE (P.2 5) (wtP P) P9 t
theorem TI_0 {P : St} (hP : PV P) : TI P (rsN (lsN P 5) 5) (stN (P.2 5) 5 - 1) := by
  have e6 : ∀ i : Int, 0 ≤ i → i < 5 → (rsN (lsN P 5) 5).2 6 i = P.2 5 i := fun i h0 h5 => by
    rw [rsN_at _ 5 i h0, if_pos (by omega), lsN_n P (by decide) 5]
  refine ⟨fun a ha => by rw [rsN_n _ (by omega), lsN_n P (by omega)], fun i h0 h5 => by rw [rsN_n _ (by decide), lsN_at P 5 i h0 (by omega)], fun _ => ⟨fun i h0 h5 => ?_, ?_⟩, fun t hv ht => ?_⟩
  · rw [e6 i h0 h5]
    have := hP.1 i h0 h5
    omega
  · rw [vlN_congr 5 (u := P.2 5) (fun i h0 h5 => e6 i h0 (by omega))]
    exact vlN_top 5
  · have := vlN_b (fun i h0 h5 => (hP.1 i h0 h5).1) hv 5 (by omega)
    omega
theorem wtP_at {P : St} {i : Int} (h5 : i < 5) (q : Int) : wtP P i q = P.2 i.toNat q := if_pos h5
/-- the entries that a state's own is made of -/
theorem TI_F {P P9 : St} {x : Int} (hP : PV P) (h : TI P P9 x) (hx : 0 ≤ x) : (0 ≤ x ∧ x < 432) ∧ ∃ bF : Int → Int → Bool, ∀ i : Int, 0 ≤ i → i < 5 → P9.2 6 i < P9.2 5 i → (0 ≤ x + P9.2 7 i ∧ x + P9.2 7 i < 432) ∧ ((0 ≤ P9.2 8 (x + P9.2 7 i) ∧ P9.2 8 (x + P9.2 7 i) ≤ 100) ∧ P9.2 9 (x + P9.2 7 i) = mskB (bF i)) ∧ ffv (P9.2 8 (x + P9.2 7 i)) (bF i) (P9.2 i.toNat (P9.2 6 i)) = mC (P.2 5) (wtP P) (rmT (P.2 5) (P9.2 6) - 1).toNat (upT (P9.2 6) i) (wtP P i (P9.2 6 i)) ∧ (0 ≤ P9.2 i.toNat (P9.2 6 i) ∧ P9.2 i.toNat (P9.2 6 i) < 5) ∧ (0 ≤ mC (P.2 5) (wtP P) (rmT (P.2 5) (P9.2 6) - 1).toNat (upT (P9.2 6) i) (wtP P i (P9.2 6 i)) ∧ mC (P.2 5) (wtP P) (rmT (P.2 5) (P9.2 6) - 1).toNat (upT (P9.2 6) i) (wtP P i (P9.2 6 i)) ≤ 101) := by
  obtain ⟨ha, h7, h6, hT⟩ := h
  obtain ⟨hv, hvl⟩ := h6 hx
  have hsz : ∀ i : Int, 0 ≤ i → i < 5 → 0 ≤ P.2 5 i := fun i h0 h5 => (hP.1 i h0 h5).1
  have h432 := stN_432 hP.1 hP.2.1
  have hb := vlN_b hsz hv 5 (by omega)
  refine ⟨by omega, ?_⟩
  have key : ∀ i : Int, 0 ≤ i → i < 5 → P9.2 6 i < P.2 5 i → ∃ b : Int → Bool, (0 ≤ x + P9.2 7 i ∧ x + P9.2 7 i < 432) ∧ ((0 ≤ P9.2 8 (x + P9.2 7 i) ∧ P9.2 8 (x + P9.2 7 i) ≤ 100) ∧ P9.2 9 (x + P9.2 7 i) = mskB b) ∧ ffv (P9.2 8 (x + P9.2 7 i)) b (P9.2 i.toNat (P9.2 6 i)) = mC (P.2 5) (wtP P) (rmT (P.2 5) (P9.2 6) - 1).toNat (upT (P9.2 6) i) (wtP P i (P9.2 6 i)) ∧ (0 ≤ P9.2 i.toNat (P9.2 6 i) ∧ P9.2 i.toNat (P9.2 6 i) < 5) ∧ (0 ≤ mC (P.2 5) (wtP P) (rmT (P.2 5) (P9.2 6) - 1).toNat (upT (P9.2 6) i) (wtP P i (P9.2 6 i)) ∧ mC (P.2 5) (wtP P) (rmT (P.2 5) (P9.2 6) - 1).toNat (upT (P9.2 6) i) (wtP P i (P9.2 6 i)) ≤ 101) := by
    intro i h0 h5 h2
    have hv2 := vT_up hv h2
    have e1 := vlN_up (sz := P.2 5) (t := P9.2 6) (i := i) 5 h0
    rw [if_pos (by omega), hvl, ← h7 i h0 h5] at e1
    have hpos := stN_pos hsz i.toNat (by omega)
    rw [← h7 i h0 h5] at hpos
    have hb2 := vlN_b hsz hv2 5 (by omega)
    obtain ⟨k8, b, k9, kf⟩ := TE_ffv hP.2.1 hv2 (hT _ hv2 (by omega))
    rw [e1] at k8 k9 kf
    have hc := hP.2.2 i (P9.2 6 i) h0 h5 (hv i h0 h5).1 h2
    rw [← ha i.toNat (by omega)] at hc
    have kf2 := kf (P9.2 i.toNat (P9.2 6 i)) (by omega) (by omega)
    have hm := mC_12 (wt := wtP P) hP.2.1 hv2 (wtP P i (P9.2 6 i))
    rw [rmT_up h0 h5] at kf2 hm
    have ew : wtP P i (P9.2 6 i) = P9.2 i.toNat (P9.2 6 i) := by rw [wtP_at h5, ha i.toNat (by omega)]
    refine ⟨b, by omega, ⟨k8, k9⟩, by rw [kf2, ew], hc, by omega⟩
  refine ⟨fun i => if h : 0 ≤ i ∧ i < 5 ∧ P9.2 6 i < P.2 5 i then Classical.choose (key i h.1 h.2.1 h.2.2) else fun _ => false, fun i h0 h5 h2 => ?_⟩
  rw [ha 5 (by omega)] at h2
  dsimp only
  rw [dif_pos ⟨h0, h5, h2⟩]
  exact Classical.choose_spec (key i h0 h5 h2)
/-- a state's entry made -/
theorem TI_1 {P P9 : St} {x : Int} (hP : PV P) (h : TI P P9 x) (hx : 0 ≤ x) : ∀ t : Int → Int, vT (P.2 5) t → x - 1 < vlN (P.2 5) t 5 → TE (P.2 5) (wtP P) (ua (ua P9 8 x (lsV (fun i => decide (P9.2 6 i < P9.2 5 i)) (fun i => mC (P.2 5) (wtP P) (rmT (P.2 5) (P9.2 6) - 1).toNat (upT (P9.2 6) i) (wtP P i (P9.2 6 i))) 5)) 9 x (mskB (bkN (fun i => decide (P9.2 6 i < P9.2 5 i)) (fun i => P9.2 i.toNat (P9.2 6 i)) (fun i => mC (P.2 5) (wtP P) (rmT (P.2 5) (P9.2 6) - 1).toNat (upT (P9.2 6) i) (wtP P i (P9.2 6 i))) 5))) t := by
  obtain ⟨ha, h7, h6, hT⟩ := h
  obtain ⟨hv, hvl⟩ := h6 hx
  have hsz : ∀ i : Int, 0 ≤ i → i < 5 → 0 ≤ P.2 5 i := fun i h0 h5 => (hP.1 i h0 h5).1
  intro t ht hlt
  by_cases e : vlN (P.2 5) t 5 = x
  · have et := vlN_inj hsz hv ht 5 (by omega) (by rw [hvl, e])
    refine TE_congr ?_ (fun i h0 h5 => et i h0 (by omega))
    rw [← hvl]
    refine TE_step hP.2.1 hv (fun i h0 h5 h2 => ?_) (fun i h0 h5 => by rw [ha 5 (by omega)]) (fun i h0 h5 h2 => by rw [wtP_at h5, ha i.toNat (by omega)]) (fun i h0 h5 h2 => rfl)
    rw [wtP_at h5]
    exact hP.2.2 i _ h0 h5 (hv i h0 h5).1 h2
  · refine TE_keep (hT t ht (by omega)) ?_ ?_
    · rw [ua_n _ _ _ _ _ (by decide), ua_s, if_neg e]
    · rw [ua_s, if_neg e, ua_n _ _ _ _ _ (by decide)]
/-- .. and the numbers taken one state back -/
theorem TI_2 {P P9 P8 : St} {x : Int} (hP : PV P) (h : TI P P9 x) (hx : 0 ≤ x) (hT1 : ∀ t : Int → Int, vT (P.2 5) t → x - 1 < vlN (P.2 5) t 5 → TE (P.2 5) (wtP P) P8 t) (h8 : ∀ a : Nat, a < 8 → P8.2 a = P9.2 a) {k : Nat} (hk : k ≤ 5) (h0 : ∀ j : Int, 0 ≤ j → j < k → P8.2 6 j ≤ 0) (hkp : k < 5 → 0 < P8.2 6 k) : TI P (if k = 5 then rsN P8 5 else ua (rsN P8 k) 6 k (P8.2 6 k - 1)) (x - 1) := by
  obtain ⟨ha, h7, h6, -⟩ := h
  obtain ⟨hv, hvl⟩ := h6 hx
  rw [h8 6 (by omega)] at h0 hkp ⊢
  have hj : ∀ (a : Nat), a ≠ 6 → (if k = 5 then rsN P8 5 else ua (rsN P8 k) 6 k (P9.2 6 k - 1)).2 a = P8.2 a := fun a h => by
    split
    · exact rsN_n P8 h 5
    · rw [ua_m _ _ _ _ h]; exact rsN_n P8 h k
  refine ⟨fun a h => by rw [hj a (by omega), h8 a (by omega), ha a h], fun i g0 g5 => by rw [hj 7 (by decide), h8 7 (by omega)]; exact h7 i g0 g5, fun hx1 => ?_, fun t ht hl => TE_keep (hT1 t ht hl) (by rw [hj 8 (by decide)]) (by rw [hj 9 (by decide)])⟩
  have hz : ∀ j : Int, 0 ≤ j → j < k → P9.2 6 j = 0 := fun j g0 g1 => by
    have h1 := h0 j g0 g1
    have h2 := hv j g0 (by omega)
    omega
  by_cases e : k = 5
  · have e0 := vlN_congr (sz := P.2 5) 5 (t := P9.2 6) (u := fun _ => 0) (fun i g0 g5 => hz i g0 (by omega))
    rw [hvl, vlN_zero] at e0
    omega
  · rw [if_neg e]
    have hu : ∀ j : Int, 0 ≤ j → j < 5 → (ua (rsN P8 k) 6 k (P9.2 6 k - 1)).2 6 j = if j < k then P.2 5 j else if j = k then P9.2 6 k - 1 else P9.2 6 j := fun j g0 g5 => by
      rw [ua_s, rsN_at P8 k j g0, h8 5 (by omega), h8 6 (by omega), ha 5 (by omega)]
      by_cases e1 : j = k
      · rw [if_pos e1, if_neg (by omega), if_pos e1]
      · rw [if_neg e1]
        by_cases e2 : j < k
        · rw [if_pos e2, if_pos e2]
        · rw [if_neg e2, if_neg e2, if_neg e1]
    have hp := hkp (by omega)
    refine ⟨fun j g0 g5 => ?_, ?_⟩
    · rw [hu j g0 g5]
      have h1 := hv j g0 g5
      have h2 := hP.1 j g0 g5
      split
      · omega
      · split
        · rename_i e2
          rw [e2] at h1
          rw [e2]
          omega
        · exact h1
    · have h1 := (sb_vl (sz := P.2 5) hu hz (by omega) (by omega) 5 (by omega)).2 (by omega)
      omega
theorem TI_end {P P9 : St} (hP : PV P) (h : TI P P9 (-1)) : TF P P9 := ⟨h.1, h.2.1, fun t ht => h.2.2.2 t ht (by have := vlN_b (fun i h0 h5 => (hP.1 i h0 h5).1) ht 5 (by omega); omega)⟩
theorem TI_T {P P9 : St} {x : Int} (hP : PV P) (h : TI P P9 x) (hx : 0 ≤ x) : ∀ i : Int, 0 ≤ i → i < 5 → (0 ≤ P9.2 6 i ∧ P9.2 6 i ≤ 6) ∧ (0 ≤ P9.2 5 i ∧ P9.2 5 i ≤ 6) := fun i h0 h5 => by
  have h1 := (h.2.2.1 hx).1 i h0 h5
  have h2 := hP.1 i h0 h5
  rw [h.1 5 (by omega)]
  omega

set_option maxHeartbeats 4000000 in
set_option maxRecDepth 100000 in
theorem c_X1_fillTable {l : Launch} {G : va_G × (Nat → ClassId)} {ad : Nat → Nat} {S P : St} (hP : PV P) : Mv l G yX1_fillTable wsX1_fillTable ({ frames := 2, cells := 0, slots := 0, locals := 50 } : Room) [.ref (ad 16)] (WX G.2 ad S P) (fun u => ∃ P9 : St, u = WX G.2 ad S P9 ∧ TF P P9) := by
  refine Mv.of (own := RX1) (cc := cX1_fillTable) (maxL := 3) (ret := none) (by decide) rfl rfl rfl ?_
  intro p e s m args below meth c A C hN
  have hts := C.2.2.2.2.1
  have iFX1 : ∀ w ∈ u_ws RX1 TX1 6, w ∈ wsX1_fillTable := by decide +kernel
  have k_20 := hts (.fieldLink RX1 20 "PaintSequencer$Plan" "taken" "[I") (by decide +kernel)
  have k_16 := hts (.fieldLink RX1 16 "PaintSequencer$Plan" "sizes" "[I") (by decide +kernel)
  have h432 := stN_432 hP.1 hP.2.1
  have hpos := stN_pos (fun i h0 h5 => (hP.1 i h0 h5).1) 5 (by omega)
  have lp2 : ∀ (n : Nat) (x : Int) (P9 : St), -1 ≤ x → x < 432 → x + 1 < n → TI P P9 x → AW p l e (headSpec wsX1_fillTable ({ frames := 2, cells := 0, slots := 0, locals := 50 } : Room)).room s m args below meth c 3 G A s.heap 0 0 (MQ below (QPv G (fun u => ∃ P9 : St, u = WX G.2 ad S P9 ∧ TF P P9) A) args s 0 0 A) (WX G.2 ad S P9) [(0, .ref (ad 16)), (1, .int (zI (stN (P.2 5) 5))), (2, .int (zI x))] 34 [] := by
    intro n
    induction n with
    | zero =>
      intro x P9 g1 g2 g3 g4
      exfalso
      omega
    | succ n ih =>
      intro x P9 g1 g2 g3 g4
      refine aw_iload_n C dX1_fillTable_34 rfl ?_
      refine aw_if_lt (tgt := 53) C dX1_fillTable_35 (by decide) (by omega) (fun c35 => ?_) (fun c35 => ?_)
      · exact aw_vret C dX1_fillTable_53 ⟨P9, rfl, TI_end hP (by rw [show (-1 : Int) = x by omega]; exact g4)⟩
      · obtain ⟨hx9, bF, hF9⟩ := TI_F hP g4 c35
        have hT9 := TI_T hP g4 c35
        refine aw_aload_n C dX1_fillTable_38 rfl ?_
        refine aw_iload_n C dX1_fillTable_39 rfl ?_
        refine cV1v (ci := 1) (q0 := 16) C hN (c_X1_fillState (F := fun i => mC (P.2 5) (wtP P) (rmT (P.2 5) (P9.2 6) - 1).toNat (upT (P9.2 6) i) (wtP P i (P9.2 6 i))) (bF := bF) hx9 hT9 hF9) (cwV 1 hts gX1_fillTable_X1_fillState rfl rfl rfl (by decide +kernel) ⟨Nat.le_of_ble_eq_true rfl, Nat.le_of_ble_eq_true rfl⟩) rfl rfl rfl rfl dX1_fillTable_40 ⟨Nat.zero_le _, Nat.zero_le _⟩ (fun u40 q40 => ?_)
        obtain rfl := q40
        refine aw_aload_n C dX1_fillTable_43 rfl ?_
        refine cV0v (ci := 1) (q0 := 16) C hN (c_X1_stepBack (by intro i h0 h5; rw [ua_m _ _ _ _ (by decide), ua_m _ _ _ _ (by decide), ua_m _ _ _ _ (by decide), ua_m _ _ _ _ (by decide)]; exact hT9 i h0 h5)) (cwV 0 hts gX1_fillTable_X1_stepBack rfl rfl rfl (by decide +kernel) ⟨Nat.le_of_ble_eq_true rfl, Nat.le_of_ble_eq_true rfl⟩) rfl rfl rfl rfl dX1_fillTable_44 ⟨Nat.zero_le _, Nat.zero_le _⟩ (fun u44 q44 => ?_)
        obtain ⟨k, k1, k2, k3, rfl⟩ := q44
        refine aw_iinc C dX1_fillTable_47 rfl rfl rfl ?_
        refine aw_goto (tgt := 34) C dX1_fillTable_50 (by decide) ?_
        exact ih (x - 1) _ (by omega) (by omega) (by omega) (TI_2 hP g4 c35 (TI_1 hP g4 c35) (fun a ha => by rw [ua_m _ _ _ _ (by omega), ua_m _ _ _ _ (by omega)]) k1 k2 k3)
  have lp : ∀ (n : Nat) (k : Nat), (k : Int) ≤ 5 → 5 - (k : Int) < n → AW p l e (headSpec wsX1_fillTable ({ frames := 2, cells := 0, slots := 0, locals := 50 } : Room)).room s m args below meth c 3 G A s.heap 0 0 (MQ below (QPv G (fun u => ∃ P9 : St, u = WX G.2 ad S P9 ∧ TF P P9) A) args s 0 0 A) (WX G.2 ad S (rsN (lsN P 5) k)) [(0, .ref (ad 16)), (1, .int (zI (stN (P.2 5) 5))), (2, .int (zI k))] 7 [] := by
    intro n
    induction n with
    | zero =>
      intro k h1 h2
      exfalso
      omega
    | succ n ih =>
      intro k h1 h2
      refine aw_iload_n C dX1_fillTable_7 rfl ?_
      refine aw_iconst C dX1_fillTable_8 ?_
      refine aw_icmp_ge (tgt := 30) C dX1_fillTable_9 (by decide) (by omega) (by omega) (fun c9 => ?_) (fun c9 => ?_)
      · have e5 : k = 5 := by omega
        subst e5
        refine aw_iload_n C dX1_fillTable_30 rfl ?_
        refine aw_iconst C dX1_fillTable_31 ?_
        refine aw_isub C dX1_fillTable_32 ?_
        refine aw_istore_n C dX1_fillTable_33 rfl rfl ?_
        exact lp2 433 (stN (P.2 5) 5 - 1) _ (by omega) (by omega) (by omega) (TI_0 hP)
      · have e5 : (rsN (lsN P 5) k).2 5 k = (lsN P 5).2 5 k := by rw [rsN_n _ (by decide) k]
        refine aw_aload_n C dX1_fillTable_12 rfl ?_
        refine aw_get (q0 := 16) (k := 2) C iFX1 k_20 rfl rfl rfl rfl dX1_fillTable_13 ?_
        refine aw_iload_n C dX1_fillTable_16 rfl ?_
        refine aw_aload_n C dX1_fillTable_17 rfl ?_
        refine aw_get (q0 := 16) (k := 1) C iFX1 k_16 rfl rfl rfl rfl dX1_fillTable_18 ?_
        refine aw_iload_n C dX1_fillTable_21 rfl ?_
        refine aw_ldI (q0 := 23) C rfl (by omega) (by omega) rfl dX1_fillTable_22 ?_
        refine aw_stI (q0 := 24) C rfl (by omega) (by omega) rfl (wx_a24 _ _ _ _ _ _) dX1_fillTable_23 ?_
        refine aw_iinc C dX1_fillTable_24 rfl rfl rfl ?_
        refine aw_goto (tgt := 7) C dX1_fillTable_27 (by decide) ?_
        rw [e5]
        exact ih (k + 1) (by omega) (by omega)
  refine aw_aload_n C dX1_fillTable_0 rfl ?_
  refine cV0i (ci := 1) (q0 := 16) C hN (c_X1_layStrides (by omega)) (cwV 0 hts gX1_fillTable_X1_layStrides rfl rfl rfl (by decide +kernel) ⟨Nat.le_of_ble_eq_true rfl, Nat.le_of_ble_eq_true rfl⟩) rfl rfl rfl rfl dX1_fillTable_1 ⟨Nat.zero_le _, Nat.zero_le _⟩ (fun r1 u1 q1 => ?_)
  obtain ⟨rfl, rfl⟩ := q1
  refine aw_istore_n C dX1_fillTable_4 rfl rfl ?_
  refine aw_iconst C dX1_fillTable_5 ?_
  refine aw_istore_n C dX1_fillTable_6 rfl rfl ?_
  exact lp 6 0 (by omega) (by omega)
def zT : Int → Int := fun _ => 0
/-- the fewest changes of the plan, from its start -/
def fwP (P : St) (c : Int) : Int := mC (P.2 5) (wtP P) (rmT (P.2 5) zT).toNat zT c
/-- .. with the head of the lane i first -/
def fiP (P : St) (i c : Int) : Int := chg c (wtP P i 0) + mC (P.2 5) (wtP P) (rmT (P.2 5) (upT zT i)).toNat (upT zT i) (wtP P i 0)
def blP (P : St) (c : Int) : Int := fstB (fun i => decide (0 < P.2 5 i ∧ fiP P i c = fwP P c)) 5
theorem vT_z {P : St} (hP : PV P) : vT (P.2 5) zT := fun i h0 h5 => ⟨Int.le_refl 0, (hP.1 i h0 h5).1⟩
theorem fwP_b {P : St} (hP : PV P) (c : Int) : 0 ≤ fwP P c ∧ fwP P c ≤ 12 := mC_12 hP.2.1 (vT_z hP) c
theorem fiP_b {P : St} (hP : PV P) {i : Int} (h : 0 < P.2 5 i) (c : Int) : 0 ≤ fiP P i c ∧ fiP P i c ≤ 13 := by
  have h1 := mC_12 (wt := wtP P) hP.2.1 (vT_up (i := i) (vT_z hP) h) (wtP P i 0)
  have h2 := chg_b c (wtP P i 0)
  unfold fiP
  omega

set_option maxHeartbeats 4000000 in
set_option maxRecDepth 100000 in
theorem c_X1_fewest {l : Launch} {G : va_G × (Nat → ClassId)} {ad : Nat → Nat} {S P : St} (hP : PV P) {c9 : Int} (hc9 : -1 ≤ c9 ∧ c9 ≤ 4) : Mi l G yX1_fewest wsX1_fewest ({ frames := 3, cells := 0, slots := 0, locals := 72 } : Room) [.ref (ad 16), .int (zI c9)] (WX G.2 ad S P) (fun r u => r = fwP P c9 ∧ ∃ P9 : St, u = WX G.2 ad S P9 ∧ TF P P9) := by
  refine Mi.of (own := RX1) (cc := cX1_fewest) (maxL := 2) (ret := (some .int)) (by decide) rfl rfl rfl ?_
  intro p e s m args below meth c A C hN
  have hts := C.2.2.2.2.1
  refine aw_aload_n C dX1_fewest_0 rfl ?_
  refine cV0v (ci := 1) (q0 := 16) C hN (c_X1_fillTable hP) (cwV 0 hts gX1_fewest_X1_fillTable rfl rfl rfl (by decide +kernel) ⟨Nat.le_of_ble_eq_true rfl, Nat.le_of_ble_eq_true rfl⟩) rfl rfl rfl rfl dX1_fewest_1 ⟨Nat.zero_le _, Nat.zero_le _⟩ (fun u1 q1 => ?_)
  obtain ⟨P9, rfl, hF⟩ := q1
  obtain ⟨k8, b, k9, kf⟩ := TE_ffv hP.2.1 (vT_z hP) (hF.2.2 zT (vT_z hP))
  rw [show vlN (P.2 5) zT 5 = 0 from vlN_zero 5] at k8 k9 kf
  refine aw_aload_n C dX1_fewest_4 rfl ?_
  refine aw_iconst C dX1_fewest_5 ?_
  refine aw_iload_n C dX1_fewest_6 rfl ?_
  refine cV2i (ci := 1) (q0 := 16) C hN (c_X1_fewestFrom (by omega) hc9 k8 k9) (cwV 2 hts gX1_fewest_X1_fewestFrom rfl rfl rfl (by decide +kernel) ⟨Nat.le_of_ble_eq_true rfl, Nat.le_of_ble_eq_true rfl⟩) rfl rfl rfl rfl dX1_fewest_7 ⟨Nat.zero_le _, Nat.zero_le _⟩ (fun r7 u7 q7 => ?_)
  obtain ⟨rfl, rfl⟩ := q7
  exact aw_iret C dX1_fewest_10 ⟨kf c9 (by omega) (by omega), P9, rfl, hF⟩
set_option maxHeartbeats 4000000 in
set_option maxRecDepth 100000 in
theorem c_X1_fewestWith {l : Launch} {G : va_G × (Nat → ClassId)} {ad : Nat → Nat} {S P P9 : St} (hP : PV P) (hF : TF P P9) {i c9 : Int} (h0 : 0 ≤ i) (h5 : i < 5) (hs : 0 < P.2 5 i) (hc9 : -1 ≤ c9 ∧ c9 ≤ 4) : Mi l G yX1_fewestWith wsX1_fewestWith ({ frames := 1, cells := 0, slots := 0, locals := 24 } : Room) [.ref (ad 16), .int (zI i), .int (zI c9)] (WX G.2 ad S P9) (fun r u => r = fiP P i c9 ∧ u = WX G.2 ad S P9) := by
  refine Mi.of (own := RX1) (cc := cX1_fewestWith) (maxL := 4) (ret := (some .int)) (by decide) rfl rfl rfl ?_
  intro p e s m args below meth c A C hN
  have hts := C.2.2.2.2.1
  have iFX1 : ∀ w ∈ u_ws RX1 TX1 6, w ∈ wsX1_fewestWith := by decide +kernel
  have k_11 := hts (.fieldLink RX1 11 "PaintSequencer$Plan" "waiting" "[[I") (by decide +kernel)
  have k_23 := hts (.fieldLink RX1 23 "PaintSequencer$Plan" "strides" "[I") (by decide +kernel)
  have hv2 := vT_up (i := i) (vT_z hP) hs
  obtain ⟨k8, b, k9, kf⟩ := TE_ffv hP.2.1 hv2 (hF.2.2 _ hv2)
  have e1 := vlN_up (sz := P.2 5) (t := zT) (i := i) 5 h0
  rw [if_pos (by omega), show vlN (P.2 5) zT 5 = 0 from vlN_zero 5, Int.zero_add, ← hF.2.1 i h0 h5] at e1
  have hb2 := vlN_b (fun i h0 h5 => (hP.1 i h0 h5).1) hv2 5 (by omega)
  have h432 := stN_432 hP.1 hP.2.1
  rw [e1] at k8 k9 kf hb2
  have hc := hP.2.2 i 0 h0 h5 (by omega) hs
  have ew : P9.2 i.toNat 0 = wtP P i 0 := by rw [wtP_at h5, hF.1 i.toNat (by omega)]
  rw [← wtP_at (P := P) h5] at hc
  refine aw_aload_n C dX1_fewestWith_0 rfl ?_
  refine aw_get (q0 := 16) (k := 0) C iFX1 k_11 rfl rfl rfl rfl dX1_fewestWith_1 ?_
  refine aw_iload_n C dX1_fewestWith_4 rfl ?_
  refine aw_aldA (q0 := 17) C rfl (by omega) (by omega) rfl rfl dX1_fewestWith_5 ?_
  refine aw_iconst C dX1_fewestWith_6 ?_
  refine aw_ldI  C (wx_wrow (by omega) (by omega)) (by omega) (by omega) rfl dX1_fewestWith_7 ?_
  rw [ew]
  refine aw_istore_n C dX1_fewestWith_8 rfl rfl ?_
  refine aw_iload_n C dX1_fewestWith_9 rfl ?_
  refine aw_iload_n C dX1_fewestWith_10 rfl ?_
  refine cN2i C hN (c_X2_changeBetween (by omega) (by omega)) ⟨va_cnB 2 hts gX1_fewestWith_X2_changeBetween_n46 rfl rfl rfl hN (hts (.initialized RX2) (by decide +kernel)) (by decide +kernel) ⟨Nat.le_of_ble_eq_true rfl, Nat.le_of_ble_eq_true rfl⟩, hts (.static yX2_changeBetween) (by decide +kernel), trivial⟩ rfl dX1_fewestWith_11 ⟨Nat.zero_le _, Nat.zero_le _⟩ (fun r11 u11 q11 => ?_)
  obtain ⟨rfl, rfl⟩ := q11
  refine aw_aload_n C dX1_fewestWith_14 rfl ?_
  refine aw_aload_n C dX1_fewestWith_15 rfl ?_
  refine aw_get (q0 := 16) (k := 3) C iFX1 k_23 rfl rfl rfl rfl dX1_fewestWith_16 ?_
  refine aw_iload_n C dX1_fewestWith_19 rfl ?_
  refine aw_ldI (q0 := 25) C rfl (by omega) (by omega) rfl dX1_fewestWith_20 ?_
  refine aw_iload_n C dX1_fewestWith_21 rfl ?_
  refine cV2i (ci := 1) (q0 := 16) C hN (c_X1_fewestFrom (by omega) (by omega) k8 k9) (cwV 2 hts gX1_fewestWith_X1_fewestFrom rfl rfl rfl (by decide +kernel) ⟨Nat.le_of_ble_eq_true rfl, Nat.le_of_ble_eq_true rfl⟩) rfl rfl rfl rfl dX1_fewestWith_22 ⟨Nat.zero_le _, Nat.zero_le _⟩ (fun r22 u22 q22 => ?_)
  obtain ⟨rfl, rfl⟩ := q22
  refine aw_iadd C dX1_fewestWith_25 ?_
  exact aw_iret C dX1_fewestWith_26 ⟨by unfold fiP; rw [kf _ (by omega) (by omega)], rfl⟩
set_option maxHeartbeats 4000000 in
set_option maxRecDepth 100000 in
theorem c_X1_bestLane {l : Launch} {G : va_G × (Nat → ClassId)} {ad : Nat → Nat} {S P : St} (hP : PV P) {c9 : Int} (hc9 : -1 ≤ c9 ∧ c9 ≤ 4) : Mi l G yX1_bestLane wsX1_bestLane ({ frames := 4, cells := 0, slots := 0, locals := 93 } : Room) [.ref (ad 16), .int (zI c9)] (WX G.2 ad S P) (fun r u => r = blP P c9 ∧ ∃ P9 : St, u = WX G.2 ad S P9 ∧ TF P P9) := by
  refine Mi.of (own := RX1) (cc := cX1_bestLane) (maxL := 4) (ret := (some .int)) (by decide) rfl rfl rfl ?_
  intro p e s m args below meth c A C hN
  have hts := C.2.2.2.2.1
  have iFX1 : ∀ w ∈ u_ws RX1 TX1 6, w ∈ wsX1_bestLane := by decide +kernel
  have k_16 := hts (.fieldLink RX1 16 "PaintSequencer$Plan" "sizes" "[I") (by decide +kernel)
  have hfw := fwP_b hP c9
  have lp : ∀ (n : Nat) (k : Nat) (P9 : St), (k : Int) ≤ 5 → 5 - (k : Int) < n → TF P P9 → fstB (fun i => decide (0 < P.2 5 i ∧ fiP P i c9 = fwP P c9)) k = -1 → AW p l e (headSpec wsX1_bestLane ({ frames := 4, cells := 0, slots := 0, locals := 93 } : Room)).room s m args below meth c 4 G A s.heap 0 0 (MQ below (QPi G (fun r u => r = blP P c9 ∧ ∃ P9 : St, u = WX G.2 ad S P9 ∧ TF P P9) A) args s 0 0 A) (WX G.2 ad S P9) [(0, .ref (ad 16)), (1, .int (zI c9)), (2, .int (zI (fwP P c9))), (3, .int (zI k))] 8 [] := by
    intro n
    induction n with
    | zero =>
      intro k P9 h1 h2 hF h3
      exfalso
      omega
    | succ n ih =>
      intro k P9 h1 h2 hF h3
      refine aw_iload_n C dX1_bestLane_8 rfl ?_
      refine aw_iconst C dX1_bestLane_9 ?_
      refine aw_icmp_ge (tgt := 40) C dX1_bestLane_10 (by decide) (by omega) (by omega) (fun c10 => ?_) (fun c10 => ?_)
      · have e5 : k = 5 := by omega
        subst e5
        refine aw_iconst C dX1_bestLane_40 ?_
        exact aw_iret C dX1_bestLane_41 ⟨h3.symm, P9, rfl, hF⟩
      · have e5 : P9.2 5 k = P.2 5 k := by rw [hF.1 5 (by omega)]
        have h4 := hP.1 k (by omega) (by omega)
        refine aw_aload_n C dX1_bestLane_13 rfl ?_
        refine aw_get (q0 := 16) (k := 1) C iFX1 k_16 rfl rfl rfl rfl dX1_bestLane_14 ?_
        refine aw_iload_n C dX1_bestLane_17 rfl ?_
        refine aw_ldI (q0 := 23) C rfl (by omega) (by omega) rfl dX1_bestLane_18 ?_
        refine aw_if_le (tgt := 34) C dX1_bestLane_19 (by decide) (by omega) (fun c19 => ?_) (fun c19 => ?_)
        · refine aw_iinc C dX1_bestLane_34 rfl rfl rfl ?_
          refine aw_goto (tgt := 8) C dX1_bestLane_37 (by decide) ?_
          refine ih (k + 1) P9 (by omega) (by omega) hF (fstB_no h3 (decide_eq_false ?_))
          rintro ⟨g1, g2⟩
          first
          | exact c29 g2
          | (rw [e5] at c19; omega)
        · have h6 : 0 < P.2 5 k := by omega
          have h7 := fiP_b hP h6 c9
          refine aw_aload_n C dX1_bestLane_22 rfl ?_
          refine aw_iload_n C dX1_bestLane_23 rfl ?_
          refine aw_iload_n C dX1_bestLane_24 rfl ?_
          refine cV2i (ci := 1) (q0 := 16) C hN (c_X1_fewestWith hP hF (by omega) (by omega) h6 hc9) (cwV 2 hts gX1_bestLane_X1_fewestWith rfl rfl rfl (by decide +kernel) ⟨Nat.le_of_ble_eq_true rfl, Nat.le_of_ble_eq_true rfl⟩) rfl rfl rfl rfl dX1_bestLane_25 ⟨Nat.zero_le _, Nat.zero_le _⟩ (fun r25 u25 q25 => ?_)
          obtain ⟨rfl, rfl⟩ := q25
          refine aw_iload_n C dX1_bestLane_28 rfl ?_
          refine aw_icmp_ne (tgt := 34) C dX1_bestLane_29 (by decide) (by omega) (by omega) (fun c29 => ?_) (fun c29 => ?_)
          · refine aw_iinc C dX1_bestLane_34 rfl rfl rfl ?_
            refine aw_goto (tgt := 8) C dX1_bestLane_37 (by decide) ?_
            refine ih (k + 1) P9 (by omega) (by omega) hF (fstB_no h3 (decide_eq_false ?_))
            rintro ⟨g1, g2⟩
            first
            | exact c29 g2
            | (rw [e5] at c19; omega)
          · refine aw_iload_n C dX1_bestLane_32 rfl ?_
            exact aw_iret C dX1_bestLane_33 ⟨(fstB_at h3 (decide_eq_true ⟨h6, c29⟩) (by omega)).symm, P9, rfl, hF⟩
  refine aw_aload_n C dX1_bestLane_0 rfl ?_
  refine aw_iload_n C dX1_bestLane_1 rfl ?_
  refine cV1i (ci := 1) (q0 := 16) C hN (c_X1_fewest hP hc9) (cwV 1 hts gX1_bestLane_X1_fewest rfl rfl rfl (by decide +kernel) ⟨Nat.le_of_ble_eq_true rfl, Nat.le_of_ble_eq_true rfl⟩) rfl rfl rfl rfl dX1_bestLane_2 ⟨Nat.zero_le _, Nat.zero_le _⟩ (fun r2 u2 q2 => ?_)
  obtain ⟨rfl, P9, rfl, hF⟩ := q2
  refine aw_istore_n C dX1_bestLane_5 rfl rfl ?_
  refine aw_iconst C dX1_bestLane_6 ?_
  refine aw_istore_n C dX1_bestLane_7 rfl rfl ?_
  exact lp 6 0 P9 (by omega) (by omega) hF rfl
end
section
/-! ALL ORDERS TRIED -/
def mnI (a b : Int) : Int := if b < a then b else a
theorem ua_back (P : St) (a : Nat) (i v : Int) : ua (ua P a i v) a i (P.2 a i) = P := by
  unfold ua
  refine Prod.ext rfl (funext fun b => funext fun j => ?_)
  cases hb : Nat.beq b a with
  | true =>
    have e := Nat.eq_of_beq_eq_true hb
    subst e
    by_cases e2 : j = i
    · simp [e2]
    · simp [e2]
  | false => simp [hb]
theorem ua_up (P : St) (i : Int) : (ua P 6 i (P.2 6 i + 1)).2 6 = upT (P.2 6) i := funext fun j => by
  rw [ua_s]
  unfold upT
  split
  · rename_i e
    rw [e]
  · rfl
theorem wtP_ua (P : St) {a : Nat} (h : 5 ≤ a) (i v : Int) : wtP (ua P a i v) = wtP P := funext fun j => funext fun q => by
  unfold wtP
  split
  · rw [ua_n _ _ _ _ _ (by omega)]
  · rfl
theorem PV_ua {P : St} (hP : PV P) {a : Nat} (h : 6 ≤ a) (i v : Int) : PV (ua P a i v) := by
  unfold PV at hP ⊢
  rw [ua_m _ _ _ _ (show (5 : Nat) ≠ a by omega)]
  exact ⟨hP.1, hP.2.1, fun j q h0 h5 h6 h7 => by rw [ua_n _ _ _ _ _ (by omega)]; exact hP.2.2 j q h0 h5 h6 h7⟩
/-- the least of the orders that begin with one of the first k lanes -/
def orN (P : St) (d : Nat) (c : Int) (k : Nat) : Int := mnL (fun i => decide (P.2 6 i < P.2 5 i)) (fun i => chg c (wtP P i (P.2 6 i)) + mC (P.2 5) (wtP P) d (upT (P.2 6) i) (wtP P i (P.2 6 i))) k
theorem orN_b {P : St} {d : Nat} (hP : PV P) (hT : vT (P.2 5) (P.2 6)) (hr : rmT (P.2 5) (P.2 6) = (d + 1 : Nat)) (c : Int) {k : Nat} (hk : k ≤ 5) : 0 ≤ orN P d c k ∧ orN P d c k ≤ 1000 := by
  have hd := rmT_12 hP.2.1 hT
  rcases mnL_at (fun i => decide (P.2 6 i < P.2 5 i)) (fun i => chg c (wtP P i (P.2 6 i)) + mC (P.2 5) (wtP P) d (upT (P.2 6) i) (wtP P i (P.2 6 i))) k with e | ⟨j, j0, j1, j2, j3⟩
  · unfold orN
    omega
  · have h2 := of_decide_eq_true j2
    have h3 := mC_b (wt := wtP P) d (upT (P.2 6) j) (wtP P j (P.2 6 j)) (vT_up hT h2) (by rw [rmT_up j0 (by omega)]; omega)
    have h4 := chg_b c (wtP P j (P.2 6 j))
    unfold orN
    rw [j3]
    omega

set_option maxHeartbeats 4000000 in
set_option maxRecDepth 100000 in
/-- all orders of what is left, d bodies, by induction on a bound of d, which the room holds -/
theorem c_X1_tryOrders {l : Launch} {G : va_G × (Nat → ClassId)} : ∀ (n : Nat) {ad : Nat → Nat} {S P : St} {d : Nat} {c9 sp bs : Int} (hP : PV P) (hT : vT (P.2 5) (P.2 6)) (hr : rmT (P.2 5) (P.2 6) = d) (hdn : d ≤ n) (hc9 : -1 ≤ c9 ∧ c9 ≤ 4) (hsp : 0 ≤ sp ∧ sp ≤ 20 - d) (hd0 : (0 : Int) ≤ d) (hbs : 0 ≤ bs ∧ bs ≤ 50), Mi l G yX1_tryOrders wsX1_tryOrders ({ frames := n + 1, cells := 0, slots := 0, locals := 29 * n + 21 } : Room) [.ref (ad 16), .int (zI (d : Int)), .int (zI c9), .int (zI sp), .int (zI bs)] (WX G.2 ad S P) (fun r u => r = mnI bs (sp + mC (P.2 5) (wtP P) d (P.2 6) c9) ∧ u = (WX G.2 ad S P)) := by
  intro n
  induction n with
  | zero =>
    intro ad S P d c9 sp bs hP hT hr hdn hc9 hsp hd0 hbs
    refine Mi.of (own := RX1) (cc := cX1_tryOrders) (maxL := 10) (ret := (some .int)) (by decide) rfl rfl rfl ?_
    intro p e s m args below meth c A C hN
    have hts := C.2.2.2.2.1
    have iFX1 : ∀ w ∈ u_ws RX1 TX1 6, w ∈ wsX1_tryOrders := by decide +kernel
    have k_20 := hts (.fieldLink RX1 20 "PaintSequencer$Plan" "taken" "[I") (by decide +kernel)
    have k_16 := hts (.fieldLink RX1 16 "PaintSequencer$Plan" "sizes" "[I") (by decide +kernel)
    have k_11 := hts (.fieldLink RX1 11 "PaintSequencer$Plan" "waiting" "[[I") (by decide +kernel)
    have hd := rmT_12 hP.2.1 hT
    have hmb := mC_b (wt := wtP P) d (P.2 6) c9 hT hr
    refine aw_iload_n C dX1_tryOrders_0 rfl ?_
    refine aw_iload C dX1_tryOrders_1 rfl ?_
    refine aw_icmp_lt (tgt := 9) C dX1_tryOrders_3 (by decide) (by omega) (by omega) (fun c3 => ?_) (fun c3 => ?_)
    · refine aw_iload_n C dX1_tryOrders_9 rfl ?_
      refine aw_if_gt (tgt := 15) C dX1_tryOrders_10 (by decide) (by omega) (fun c10 => ?_) (fun c10 => ?_)
      · exfalso
        omega
      · refine aw_iload_n C dX1_tryOrders_13 rfl ?_
        exact aw_iret C dX1_tryOrders_14 ⟨by
          have e0 : d = 0 := by omega
          subst e0
          unfold mnI
          rw [show mC (P.2 5) (wtP P) 0 (P.2 6) c9 = 0 from rfl, if_pos (by omega)]
          omega, rfl⟩
    · refine aw_iload C dX1_tryOrders_6 rfl ?_
      exact aw_iret C dX1_tryOrders_8 ⟨by unfold mnI; rw [if_neg (by omega)], rfl⟩
  | succ n ihT =>
    intro ad S P d c9 sp bs hP hT hr hdn hc9 hsp hd0 hbs
    refine Mi.of (own := RX1) (cc := cX1_tryOrders) (maxL := 10) (ret := (some .int)) (by decide) rfl rfl rfl ?_
    intro p e s m args below meth c A C hN
    have hts := C.2.2.2.2.1
    have iFX1 : ∀ w ∈ u_ws RX1 TX1 6, w ∈ wsX1_tryOrders := by decide +kernel
    have k_20 := hts (.fieldLink RX1 20 "PaintSequencer$Plan" "taken" "[I") (by decide +kernel)
    have k_16 := hts (.fieldLink RX1 16 "PaintSequencer$Plan" "sizes" "[I") (by decide +kernel)
    have k_11 := hts (.fieldLink RX1 11 "PaintSequencer$Plan" "waiting" "[[I") (by decide +kernel)
    have hd := rmT_12 hP.2.1 hT
    have hmb := mC_b (wt := wtP P) d (P.2 6) c9 hT hr
    rcases Nat.eq_zero_or_pos d with e0 | e0
    · refine aw_iload_n C dX1_tryOrders_0 rfl ?_
      refine aw_iload C dX1_tryOrders_1 rfl ?_
      refine aw_icmp_lt (tgt := 9) C dX1_tryOrders_3 (by decide) (by omega) (by omega) (fun c3 => ?_) (fun c3 => ?_)
      · refine aw_iload_n C dX1_tryOrders_9 rfl ?_
        refine aw_if_gt (tgt := 15) C dX1_tryOrders_10 (by decide) (by omega) (fun c10 => ?_) (fun c10 => ?_)
        · exfalso
          omega
        · refine aw_iload_n C dX1_tryOrders_13 rfl ?_
          exact aw_iret C dX1_tryOrders_14 ⟨by
            have e0 : d = 0 := by omega
            subst e0
            unfold mnI
            rw [show mC (P.2 5) (wtP P) 0 (P.2 6) c9 = 0 from rfl, if_pos (by omega)]
            omega, rfl⟩
      · refine aw_iload C dX1_tryOrders_6 rfl ?_
        exact aw_iret C dX1_tryOrders_8 ⟨by unfold mnI; rw [if_neg (by omega)], rfl⟩
    · obtain ⟨d2, rfl⟩ : ∃ d2 : Nat, d = d2 + 1 := ⟨d - 1, by omega⟩
      have lp : ∀ (n3 : Nat) (k : Nat), (k : Int) ≤ 5 → 5 - (k : Int) < n3 → AW p l e (headSpec wsX1_tryOrders ({ frames := n + 1 + 1, cells := 0, slots := 0, locals := 29 * (n + 1) + 21 } : Room)).room s m args below meth c 10 G A s.heap 0 0 (MQ below (QPi G (fun r u => r = mnI bs (sp + mC (P.2 5) (wtP P) (d2 + 1) (P.2 6) c9) ∧ u = (WX G.2 ad S P)) A) args s 0 0 A) (WX G.2 ad S P) [(0, .ref (ad 16)), (1, .int (zI ((d2 + 1 : Nat) : Int))), (2, .int (zI c9)), (3, .int (zI sp)), (4, .int (zI bs)), (5, .int (zI (mnI bs (sp + orN P d2 c9 k)))), (6, .int (zI k))] 22 [] := by
        intro n3
        induction n3 with
        | zero =>
          intro k h1 h2
          exfalso
          omega
        | succ n3 ih =>
          intro k h1 h2
          refine aw_iload C dX1_tryOrders_22 rfl ?_
          refine aw_iconst C dX1_tryOrders_24 ?_
          refine aw_icmp_ge (tgt := 112) C dX1_tryOrders_25 (by decide) (by omega) (by omega) (fun c25 => ?_) (fun c25 => ?_)
          · have e5 : k = 5 := by omega
            subst e5
            refine aw_iload C dX1_tryOrders_112 rfl ?_
            exact aw_iret C dX1_tryOrders_114 ⟨by
              show mnI bs (sp + orN P d2 c9 5) = _
              rfl, rfl⟩
          · have hk5 : (k : Int) < 5 := by omega
            have hT9 := hT k (by omega) hk5
            have hS9 := hP.1 k (by omega) hk5
            have hob := orN_b hP hT hr c9 (k := k) (by omega)
            have hfb : 0 ≤ (mnI bs (sp + orN P d2 c9 k)) ∧ (mnI bs (sp + orN P d2 c9 k)) ≤ 50 := by
              unfold mnI
              split <;> omega
            refine aw_aload_n C dX1_tryOrders_28 rfl ?_
            refine aw_get (q0 := 16) (k := 2) C iFX1 k_20 rfl rfl rfl rfl dX1_tryOrders_29 ?_
            refine aw_iload C dX1_tryOrders_32 rfl ?_
            refine aw_ldI (q0 := 24) C rfl (by omega) (by omega) rfl dX1_tryOrders_34 ?_
            refine aw_istore C dX1_tryOrders_35 rfl rfl ?_
            refine aw_iload C dX1_tryOrders_37 rfl ?_
            refine aw_aload_n C dX1_tryOrders_39 rfl ?_
            refine aw_get (q0 := 16) (k := 1) C iFX1 k_16 rfl rfl rfl rfl dX1_tryOrders_40 ?_
            refine aw_iload C dX1_tryOrders_43 rfl ?_
            refine aw_ldI (q0 := 23) C rfl (by omega) (by omega) rfl dX1_tryOrders_45 ?_
            refine aw_icmp_ge (tgt := 106) C dX1_tryOrders_46 (by decide) (by omega) (by omega) (fun c46 => ?_) (fun c46 => ?_)
            · refine aw_iinc C dX1_tryOrders_106 rfl rfl rfl ?_
              refine aw_goto (tgt := 22) C dX1_tryOrders_109 (by decide) ?_
              have h8 := ih (k + 1) (by omega) (by omega)
              have hob := orN_b hP hT hr c9 (k := k) (by omega)
              have hav : ∀ b : Bool, decide (P.2 6 k < P.2 5 k) = b → orN P d2 c9 (k + 1) = if b = true ∧ chg c9 (wtP P k (P.2 6 k)) + mC (P.2 5) (wtP P) d2 (upT (P.2 6) k) (wtP P k (P.2 6 k)) < orN P d2 c9 k then chg c9 (wtP P k (P.2 6 k)) + mC (P.2 5) (wtP P) d2 (upT (P.2 6) k) (wtP P k (P.2 6 k)) else orN P d2 c9 k := fun b hb => by
                subst hb
                rfl
              by_cases h46 : P.2 6 k < P.2 5 k
              · have e9 := hav true (decide_eq_true h46)
                first
                | (exfalso; omega)
                | (rw [ua_back]
                   have e8 : mnI bs (sp + orN P d2 c9 (k + 1)) = mnI (mnI bs (sp + orN P d2 c9 k)) (sp + chg c9 (wtP P k (P.2 6 k)) + mC (P.2 5) (wtP P) d2 (upT (P.2 6) k) (wtP P k (P.2 6 k))) := by
                     by_cases h1 : chg c9 (wtP P k (P.2 6 k)) + mC (P.2 5) (wtP P) d2 (upT (P.2 6) k) (wtP P k (P.2 6 k)) < orN P d2 c9 k
                     · rw [if_pos (And.intro rfl h1)] at e9
                       rw [e9]
                       unfold mnI
                       (repeat' split) <;> omega
                     · rw [if_neg (fun x => h1 x.2)] at e9
                       rw [e9]
                       unfold mnI
                       (repeat' split) <;> omega
                   rw [e8] at h8
                   refine aw_less ?_ h8
                   exact fun q hq => List.mem_of_mem_take (i := 7) hq)
              · have e9 := hav false (decide_eq_false h46)
                rw [if_neg (fun x => absurd x.1 (by decide))] at e9
                first
                | (exfalso; omega)
                | (rw [e9] at h8
                   refine aw_less ?_ h8
                   exact fun q hq => List.mem_of_mem_take (i := 7) hq)
            · have hc := hP.2.2 k (P.2 6 k) (by omega) hk5 (by omega) c46
              rw [← wtP_at (P := P) hk5] at hc
              have hv2 := vT_up hT c46
              have hch := chg_b c9 (wtP P k (P.2 6 k))
              refine aw_aload_n C dX1_tryOrders_49 rfl ?_
              refine aw_get (q0 := 16) (k := 0) C iFX1 k_11 rfl rfl rfl rfl dX1_tryOrders_50 ?_
              refine aw_iload C dX1_tryOrders_53 rfl ?_
              refine aw_aldA (q0 := 17) C rfl (by omega) (by omega) rfl rfl dX1_tryOrders_55 ?_
              refine aw_iload C dX1_tryOrders_56 rfl ?_
              refine aw_ldI  C (wx_wrow (by omega) (by omega)) (by omega) (by omega) rfl dX1_tryOrders_58 ?_
              rw [← wtP_at (P := P) hk5]
              refine aw_istore C dX1_tryOrders_59 rfl rfl ?_
              refine aw_iload_n C dX1_tryOrders_61 rfl ?_
              refine aw_iload_n C dX1_tryOrders_62 rfl ?_
              refine aw_iload C dX1_tryOrders_63 rfl ?_
              refine cN2i C hN (c_X2_changeBetween (by omega) (by omega)) ⟨va_cnB 2 hts gX1_tryOrders_X2_changeBetween_n46 rfl rfl rfl hN (hts (.initialized RX2) (by decide +kernel)) (by decide +kernel) ⟨by show 0 + 1 ≤ n + 1 + 1; omega, by show 8 + (2 + 11) + 0 ≤ 29 * (n + 1) + 21; omega⟩, hts (.static yX2_changeBetween) (by decide +kernel), trivial⟩ rfl dX1_tryOrders_65 ⟨Nat.zero_le _, Nat.zero_le _⟩ (fun r65 u65 q65 => ?_)
              obtain ⟨rfl, rfl⟩ := q65
              refine aw_iadd C dX1_tryOrders_68 ?_
              refine aw_istore C dX1_tryOrders_69 rfl rfl ?_
              refine aw_aload_n C dX1_tryOrders_71 rfl ?_
              refine aw_get (q0 := 16) (k := 2) C iFX1 k_20 rfl rfl rfl rfl dX1_tryOrders_72 ?_
              refine aw_iload C dX1_tryOrders_75 rfl ?_
              refine aw_iload C dX1_tryOrders_77 rfl ?_
              refine aw_iconst C dX1_tryOrders_79 ?_
              refine aw_iadd C dX1_tryOrders_80 ?_
              refine aw_stI (q0 := 24) C rfl (by omega) (by omega) rfl (wx_a24 _ _ _ _ _ _) dX1_tryOrders_81 ?_
              refine aw_aload_n C dX1_tryOrders_82 rfl ?_
              refine aw_iload_n C dX1_tryOrders_83 rfl ?_
              refine aw_iconst C dX1_tryOrders_84 ?_
              refine aw_isub C dX1_tryOrders_85 ?_
              refine aw_top (y := (d2 : Int)) (by omega) ?_
              refine aw_iload C dX1_tryOrders_86 rfl ?_
              refine aw_iload C dX1_tryOrders_88 rfl ?_
              refine aw_iload C dX1_tryOrders_90 rfl ?_
              refine cS5i C hN (ihT (P := ua P 6 k (P.2 6 k + 1)) (d := d2) (PV_ua hP (by decide) _ _) (by rw [ua_up, ua_m _ _ _ _ (by decide)]; exact hv2) (by rw [ua_up, ua_m _ _ _ _ (by decide), rmT_up (by omega) hk5]; omega) (by omega) (by omega) (by omega) (by omega) (by omega)) (va_cwS 5 hts gX1_tryOrders_X1_tryOrders rfl rfl rfl (by decide +kernel) ⟨by show n + 1 + 1 ≤ n + 1 + 1; omega, by show 8 + (10 + 11) + (29 * n + 21) ≤ 29 * (n + 1) + 21; omega⟩) rfl dX1_tryOrders_92 ⟨Nat.zero_le _, Nat.zero_le _⟩ (fun r92 u92 q92 => ?_)
              obtain ⟨rfl, rfl⟩ := q92
              rw [ua_up, wtP_ua P (by decide), ua_m P 6 k (P.2 6 k + 1) (show (5 : Nat) ≠ 6 by decide)]
              refine aw_istore C dX1_tryOrders_95 rfl rfl ?_
              refine aw_aload_n C dX1_tryOrders_97 rfl ?_
              refine aw_get (q0 := 16) (k := 2) C iFX1 k_20 rfl rfl rfl rfl dX1_tryOrders_98 ?_
              refine aw_iload C dX1_tryOrders_101 rfl ?_
              refine aw_iload C dX1_tryOrders_103 rfl ?_
              refine aw_stI (q0 := 24) C rfl (by omega) (by omega) rfl (wx_a24 _ _ _ _ _ _) dX1_tryOrders_105 ?_
              refine aw_iinc C dX1_tryOrders_106 rfl rfl rfl ?_
              refine aw_goto (tgt := 22) C dX1_tryOrders_109 (by decide) ?_
              have h8 := ih (k + 1) (by omega) (by omega)
              have hob := orN_b hP hT hr c9 (k := k) (by omega)
              have hav : ∀ b : Bool, decide (P.2 6 k < P.2 5 k) = b → orN P d2 c9 (k + 1) = if b = true ∧ chg c9 (wtP P k (P.2 6 k)) + mC (P.2 5) (wtP P) d2 (upT (P.2 6) k) (wtP P k (P.2 6 k)) < orN P d2 c9 k then chg c9 (wtP P k (P.2 6 k)) + mC (P.2 5) (wtP P) d2 (upT (P.2 6) k) (wtP P k (P.2 6 k)) else orN P d2 c9 k := fun b hb => by
                subst hb
                rfl
              by_cases h46 : P.2 6 k < P.2 5 k
              · have e9 := hav true (decide_eq_true h46)
                first
                | (exfalso; omega)
                | (rw [ua_back]
                   have e8 : mnI bs (sp + orN P d2 c9 (k + 1)) = mnI (mnI bs (sp + orN P d2 c9 k)) (sp + chg c9 (wtP P k (P.2 6 k)) + mC (P.2 5) (wtP P) d2 (upT (P.2 6) k) (wtP P k (P.2 6 k))) := by
                     by_cases h1 : chg c9 (wtP P k (P.2 6 k)) + mC (P.2 5) (wtP P) d2 (upT (P.2 6) k) (wtP P k (P.2 6 k)) < orN P d2 c9 k
                     · rw [if_pos (And.intro rfl h1)] at e9
                       rw [e9]
                       unfold mnI
                       (repeat' split) <;> omega
                     · rw [if_neg (fun x => h1 x.2)] at e9
                       rw [e9]
                       unfold mnI
                       (repeat' split) <;> omega
                   rw [e8] at h8
                   refine aw_less ?_ h8
                   exact fun q hq => List.mem_of_mem_take (i := 7) hq)
              · have e9 := hav false (decide_eq_false h46)
                rw [if_neg (fun x => absurd x.1 (by decide))] at e9
                first
                | (exfalso; omega)
                | (rw [e9] at h8
                   refine aw_less ?_ h8
                   exact fun q hq => List.mem_of_mem_take (i := 7) hq)
      refine aw_iload_n C dX1_tryOrders_0 rfl ?_
      refine aw_iload C dX1_tryOrders_1 rfl ?_
      refine aw_icmp_lt (tgt := 9) C dX1_tryOrders_3 (by decide) (by omega) (by omega) (fun c3 => ?_) (fun c3 => ?_)
      · refine aw_iload_n C dX1_tryOrders_9 rfl ?_
        refine aw_if_gt (tgt := 15) C dX1_tryOrders_10 (by decide) (by omega) (fun c10 => ?_) (fun c10 => ?_)
        · refine aw_iload C dX1_tryOrders_15 rfl ?_
          refine aw_istore C dX1_tryOrders_17 rfl rfl ?_
          refine aw_iconst C dX1_tryOrders_19 ?_
          refine aw_istore C dX1_tryOrders_20 rfl rfl ?_
          have h9 := lp 6 0 (by omega) (by omega)
          have e9 : mnI bs (sp + orN P d2 c9 0) = bs := by
            show mnI bs (sp + 1000) = bs
            unfold mnI
            rw [if_neg (by omega)]
          rw [e9] at h9
          exact h9
        · exfalso
          omega
      · refine aw_iload C dX1_tryOrders_6 rfl ?_
        exact aw_iret C dX1_tryOrders_8 ⟨by unfold mnI; rw [if_neg (by omega)], rfl⟩
theorem zrN_n (P : St) {a b : Nat} (h : b ≠ a) : ∀ (n : Nat) (i : Int), (zrN P a n).2 b i = P.2 b i
  | 0, _ => rfl
  | n + 1, i => by show (ua (zrN P a n) a n 0).2 b i = _; rw [ua_n _ _ _ _ _ h]; exact zrN_n P h n i
theorem zrN_1 (P : St) (a : Nat) : ∀ n : Nat, (zrN P a n).1 = P.1
  | 0 => rfl
  | n + 1 => zrN_1 P a n
theorem sumN_5 (f : Int → Int) : sumN f 5 = f 0 + f 1 + f 2 + f 3 + f 4 := by
  show 0 + f 0 + f 1 + f 2 + f 3 + f 4 = _
  omega
theorem rmT_z (sz : Int → Int) : rmT sz zT = sz 0 + sz 1 + sz 2 + sz 3 + sz 4 := by
  show (sz 0 - 0) + (sz 1 - 0) + (sz 2 - 0) + (sz 3 - 0) + (sz 4 - 0) = _
  omega
set_option maxHeartbeats 4000000 in
set_option maxRecDepth 100000 in
theorem c_X1_fewestOfAllOrders {l : Launch} {G : va_G × (Nat → ClassId)} {ad : Nat → Nat} {S P : St} (hP : PV P) (h8 : P.2 5 0 + P.2 5 1 + P.2 5 2 + P.2 5 3 + P.2 5 4 ≤ 8) {c9 : Int} (hc9 : -1 ≤ c9 ∧ c9 ≤ 4) : Mi l G yX1_fewestOfAllOrders wsX1_fewestOfAllOrders ({ frames := 10, cells := 0, slots := 0, locals := 282 } : Room) [.ref (ad 16), .int (zI c9)] (WX G.2 ad S P) (fun r u => r = fwP P c9 ∧ ∃ P9 : St, u = WX G.2 ad S P9) := by
  refine Mi.of (own := RX1) (cc := cX1_fewestOfAllOrders) (maxL := 4) (ret := (some .int)) (by decide) rfl rfl rfl ?_
  intro p e s m args below meth c A C hN
  have hts := C.2.2.2.2.1
  have iFX1 : ∀ w ∈ u_ws RX1 TX1 6, w ∈ wsX1_fewestOfAllOrders := by decide +kernel
  have k_20 := hts (.fieldLink RX1 20 "PaintSequencer$Plan" "taken" "[I") (by decide +kernel)
  have k_16 := hts (.fieldLink RX1 16 "PaintSequencer$Plan" "sizes" "[I") (by decide +kernel)
  have hs5 := sumN_5 (P.2 5)
  have hz5 := rmT_z (P.2 5)
  have hrm := rmT_12 hP.2.1 (vT_z hP)
  have ez5 : (zrN P 6 5).2 5 = P.2 5 := funext fun i => zrN_n P (by decide) 5 i
  have ezw : wtP (zrN P 6 5) = wtP P := funext fun i => funext fun q => by
    unfold wtP
    split
    · rw [zrN_n P (by omega) 5 q]
    · rfl
  have hP9 : PV (zrN P 6 5) := by
    unfold PV at hP ⊢
    rw [ez5]
    exact ⟨hP.1, hP.2.1, fun i q h0 h5 h6 h7 => by rw [zrN_n P (by omega) 5 q]; exact hP.2.2 i q h0 h5 h6 h7⟩
  have ez6 : ∀ i : Int, 0 ≤ i → i < 5 → (zrN P 6 5).2 6 i = zT i := fun i h0 h5 => zrN_at P 6 5 i h0 (by omega)
  have hT9 : vT ((zrN P 6 5).2 5) ((zrN P 6 5).2 6) := fun i h0 h5 => by
    rw [ez5, ez6 i h0 h5]
    exact vT_z hP i h0 h5
  have hr9 : rmT ((zrN P 6 5).2 5) ((zrN P 6 5).2 6) = ((rmT (P.2 5) zT).toNat : Int) := by
    rw [ez5, rmT_congr ez6]
    omega
  have lp : ∀ (n : Nat) (k : Nat), (k : Int) ≤ 5 → 5 - (k : Int) < n → AW p l e (headSpec wsX1_fewestOfAllOrders ({ frames := 10, cells := 0, slots := 0, locals := 282 } : Room)).room s m args below meth c 4 G A s.heap 0 0 (MQ below (QPi G (fun r u => r = fwP P c9 ∧ ∃ P9 : St, u = WX G.2 ad S P9) A) args s 0 0 A) (WX G.2 ad S (zrN P 6 k)) [(0, .ref (ad 16)), (1, .int (zI c9)), (2, .int (zI (sumN (P.2 5) k))), (3, .int (zI k))] 4 [] := by
    intro n
    induction n with
    | zero =>
      intro k h1 h2
      exfalso
      omega
    | succ n ih =>
      intro k h1 h2
      refine aw_iload_n C dX1_fewestOfAllOrders_4 rfl ?_
      refine aw_iconst C dX1_fewestOfAllOrders_5 ?_
      refine aw_icmp_ge (tgt := 31) C dX1_fewestOfAllOrders_6 (by decide) (by omega) (by omega) (fun c6 => ?_) (fun c6 => ?_)
      · have e5 : k = 5 := by omega
        subst e5
        rw [show sumN (P.2 5) 5 = ((rmT (P.2 5) zT).toNat : Int) by omega]
        refine aw_aload_n C dX1_fewestOfAllOrders_31 rfl ?_
        refine aw_iload_n C dX1_fewestOfAllOrders_32 rfl ?_
        refine aw_iload_n C dX1_fewestOfAllOrders_33 rfl ?_
        refine aw_iconst C dX1_fewestOfAllOrders_34 ?_
        refine aw_iload_n C dX1_fewestOfAllOrders_35 rfl ?_
        refine aw_iconst C dX1_fewestOfAllOrders_36 ?_
        refine aw_iadd C dX1_fewestOfAllOrders_37 ?_
        refine cS5i C hN (c_X1_tryOrders 8 (d := (rmT (P.2 5) zT).toNat) hP9 hT9 hr9 (by omega) hc9 (by omega) (by omega) (by omega)) (va_cwS 5 hts gX1_fewestOfAllOrders_X1_tryOrders rfl rfl rfl (by decide +kernel) ⟨Nat.le_of_ble_eq_true rfl, Nat.le_of_ble_eq_true rfl⟩) rfl dX1_fewestOfAllOrders_38 ⟨Nat.zero_le _, Nat.zero_le _⟩ (fun r38 u38 q38 => ?_)
        obtain ⟨rfl, rfl⟩ := q38
        exact aw_iret C dX1_fewestOfAllOrders_41 ⟨by
          have hm := mC_b (wt := wtP P) (rmT (P.2 5) zT).toNat zT c9 (vT_z hP) (by omega)
          have e8 : mC ((zrN P 6 5).2 5) (wtP (zrN P 6 5)) (rmT (P.2 5) zT).toNat ((zrN P 6 5).2 6) c9 = fwP P c9 := by
            rw [ez5, ezw]
            exact mC_congr _ _ _ _ (fun i h0 h5 => zrN_at P 6 5 i h0 (by omega))
          rw [e8]
          unfold mnI fwP
          rw [if_pos (by omega)]
          omega, _, rfl⟩
      · refine aw_aload_n C dX1_fewestOfAllOrders_9 rfl ?_
        refine aw_get (q0 := 16) (k := 2) C iFX1 k_20 rfl rfl rfl rfl dX1_fewestOfAllOrders_10 ?_
        refine aw_iload_n C dX1_fewestOfAllOrders_13 rfl ?_
        refine aw_iconst C dX1_fewestOfAllOrders_14 ?_
        refine aw_stI (q0 := 24) C rfl (by omega) (by omega) rfl (wx_a24 _ _ _ _ _ _) dX1_fewestOfAllOrders_15 ?_
        refine aw_iload_n C dX1_fewestOfAllOrders_16 rfl ?_
        refine aw_aload_n C dX1_fewestOfAllOrders_17 rfl ?_
        refine aw_get (q0 := 16) (k := 1) C iFX1 k_16 rfl rfl rfl rfl dX1_fewestOfAllOrders_18 ?_
        refine aw_iload_n C dX1_fewestOfAllOrders_21 rfl ?_
        refine aw_ldI (q0 := 23) C rfl (by omega) (by omega) rfl dX1_fewestOfAllOrders_22 ?_
        have e7 : (ua (zrN P 6 k) 6 k 0).2 5 k = P.2 5 k := zrN_n P (by decide) (k + 1) k
        rw [e7]
        refine aw_iadd C dX1_fewestOfAllOrders_23 ?_
        refine aw_istore_n C dX1_fewestOfAllOrders_24 rfl rfl ?_
        refine aw_iinc C dX1_fewestOfAllOrders_25 rfl rfl rfl ?_
        refine aw_goto (tgt := 4) C dX1_fewestOfAllOrders_28 (by decide) ?_
        exact ih (k + 1) (by omega) (by omega)
  refine aw_iconst C dX1_fewestOfAllOrders_0 ?_
  refine aw_istore_n C dX1_fewestOfAllOrders_1 rfl rfl ?_
  refine aw_iconst C dX1_fewestOfAllOrders_2 ?_
  refine aw_istore_n C dX1_fewestOfAllOrders_3 rfl rfl ?_
  exact lp 6 0 (by omega) (by omega)
end
section
/-! METHODS THAT RETURN OR THROW -/
def eIAE : String := "java/lang/IllegalArgumentException"
def eISE : String := "java/lang/IllegalStateException"
def eIOB : String := "java/lang/IndexOutOfBoundsException"
def eNm : List String := ["java/lang/RuntimeException", "java/lang/Exception"]
def strsX : List (Nat × String) := [(51, "lanes is out of range"), (56, "depth is out of range"), (58, "store is out of range"), (66, "entry is out of range"), (68, "exit is out of range"), (80, "colour is out of range"), (84, "there were 99 bodies"), (91, "no lane has room"), (105, "there is no such lane"), (111, "the lane has no room"), (117, "the store is full"), (123, "all lanes are empty"), (131, "the lane is empty"), (136, "there are more than 12 bodies in lanes"), (147, "there is no such body"), (149, "the body is not in the store"), (154, "the body is not in repair"), (159, "the store is empty"), (170, "the lane has no such place"), (181, "there is no such position so far"), (183, "the body is not assembled"), (188, "there are more than 8 bodies in lanes")]
def dR : Cond := .declares (Bundle.initS "java/lang/RuntimeException")
def dE : Cond := .declares (Bundle.initS "java/lang/Exception")
def dT : Cond := .declares (Bundle.initS "java/lang/Throwable")
/-- what the tables say of the three exceptions and of the texts -/
def NT (sa : Nat → Nat) (U : State) : Prop := NX U ∧ (va_Nw (.castable eIAE eIAE) U ∧ va_Nw (.castable eISE eISE) U ∧ va_Nw (.castable eIOB eIOB) U) ∧ (va_Nw dR U ∧ va_Nw dE U ∧ va_Nw dT U) ∧ ∀ q ∈ strsX, vk_R RX2 q.1 q.2 (sa q.1) U
theorem NT.warm {sa : Nat → Nat} {s U : State} (hW : s.WarmedH U.vm) (h : NT sa s) : NT sa U := ⟨va_Nw.warmM hW h.1, ⟨va_Nw.warmC hW h.2.1.1, va_Nw.warmC hW h.2.1.2.1, va_Nw.warmC hW h.2.1.2.2⟩, ⟨va_Nw.warmD hW h.2.2.1.1, va_Nw.warmD hW h.2.2.1.2.1, va_Nw.warmD hW h.2.2.1.2.2⟩, fun q hq => (h.2.2.2 q hq).warm hW⟩
theorem NT.same {sa : Nat → Nat} {u U : State} (e : u.vm = U.vm) (h : NT sa u) : NT sa U := ⟨va_Nw.same rfl e h.1, ⟨va_Nw.same rfl e h.2.1.1, va_Nw.same rfl e h.2.1.2.1, va_Nw.same rfl e h.2.1.2.2⟩, ⟨va_Nw.same rfl e h.2.2.1.1, va_Nw.same rfl e h.2.2.1.2.1, va_Nw.same rfl e h.2.2.1.2.2⟩, fun q hq => (h.2.2.2 q hq).same e.symm⟩
/-- the two statics that a Throwable reads: they lie outside A -/
def ZQ (A : Nat → Prop) (U : State) (H : Heap) : Prop := vx_Zq Bundle.tN "UNASSIGNED_STACK" Bundle.steD A U H ∧ vx_Zq Bundle.tN "SUPPRESSED_SENTINEL" Bundle.listD A U H
theorem ZQ.moved {A : Nat → Prop} {u U : State} {H : Heap} (hvm : u.vm.Alike U.vm) (h : ZQ A u H) : ZQ A U H := ⟨h.1.moved hvm, h.2.moved hvm⟩
theorem ZQ.kept {A : Nat → Prop} {U : State} {H H1 : Heap} (h : ZQ A U H) (hq : ∀ a : Nat, a < H.size → ¬ A a → H1[a]? = H[a]?) : ZQ A U H1 := ⟨h.1.kept hq, h.2.kept hq⟩
theorem ZQ.narrow {A B : Nat → Prop} {U : State} {H : Heap} (h : ZQ A U H) (hAB : ∀ q, B q → A q) : ZQ B U H := ⟨h.1.narrow hAB, h.2.narrow hAB⟩
def PXx (G : va_G × (Nat → ClassId)) (sa : Nat → Nat) (As : List Value) (w0 : va_W) (sz : Nat) : Array Value → State → Prop := va_Pc As (fun U => U.heap.size = sz ∧ va_P G.1 vwCl w0 U.heap ∧ va_K G.1 vwCl (tG G) U ∧ va_D (fun _ => True) w0 ∧ NT sa U ∧ ZQ (va_A w0 sz) U U.heap)
theorem PXx_blind {G : va_G × (Nat → ClassId)} {sa : Nat → Nat} {As : List Value} {w0 : va_W} {sz : Nat} : FrameBlind (PXx G sa As w0 sz) := fun a U g mk q => by
  obtain ⟨q0, q1, qP, qK, qD, qN, qZ⟩ := q
  exact ⟨q0, q1, qP, va_K.moved (u := U) (U := U.calling g mk a) (Vm.Alike.refl U.vm) qK, qD, NT.same (rfl : U.vm = (U.calling g mk a).vm) qN, ZQ.moved (u := U) (U := U.calling g mk a) (Vm.Alike.refl U.vm) qZ⟩
/-- where it throws: which class, and the world behind it -/
def XC9 (G : va_G × (Nat → ClassId)) (postX : String → va_W → Prop) (A : Nat → Prop) : String → State → State → Prop := vx_X (fun _ : va_W => True) (fun E u t => postX E u ∧ va_P G.1 vwCl u t.heap ∧ va_D A u) A
def Xi (l : Launch) (G : va_G × (Nat → ClassId)) (sa : Nat → Nat) (y : MethodName) (ws : List Cond) (rm : Room) (As : List Value) (w0 : va_W) (post : Int → va_W → Prop) (postX : String → va_W → Prop) : Prop := ∀ sz : Nat, vx_Met l y ws rm (PXx G sa As w0 sz) (QPi G post (va_A w0 sz)) (XC9 G postX (va_A w0 sz)) 1 6 (va_A w0 sz)
def Xv (l : Launch) (G : va_G × (Nat → ClassId)) (sa : Nat → Nat) (y : MethodName) (ws : List Cond) (rm : Room) (As : List Value) (w0 : va_W) (post : va_W → Prop) (postX : String → va_W → Prop) : Prop := ∀ sz : Nat, vx_Met l y ws rm (PXx G sa As w0 sz) (QPv G post (va_A w0 sz)) (XC9 G postX (va_A w0 sz)) 1 6 (va_A w0 sz)
/-- what a body that may throw knows -/
def XE (l : Launch) (s : State) (c : Code) (sa : Nat → Nat) (A : Nat → Prop) : Prop := l.stackTraces = false ∧ NT sa s ∧ ZQ A s s.heap ∧ ∀ x ∈ c.exceptionTable.toList, False
theorem Xi.of {own : String} {l : Launch} {G : va_G × (Nat → ClassId)} {sa : Nat → Nat} {y : MethodName} {ws ws' : List Cond} {rm : Room} {As : List Value} {w0 : va_W} {post : Int → va_W → Prop} {postX : String → va_W → Prop} {cc : ByteArray} {maxL : Nat} {ret : Option FieldType} (hl : l.stackTraces = false) (hy : plainName y.cls = true) (ho : y.cls = own) (hw : ws = Cond.code y cc maxL ret :: ws') (hlen : Nat.ble (lg_sl As).length maxL = true)
    (body : ∀ (p : Program) (e : Env) (s : State) (m : MethodId) (args : Array Value) (below : List Frame) (meth : Method) (c : Code) (A : Nat → Prop), cx p l s m args meth c cc maxL ret ws own G A s.heap → NX s → XE l s c sa A → AW p l e (headSpec ws rm).room s m args below meth c maxL G A s.heap 0 0 (vx_MQ below (QPi G post A) (XC9 G postX A) args s 1 6 A) w0 (lv_args 0 As) 0 []) : Xi l G sa y ws rm As w0 post postX := by
  intro sz
  refine vx_ofW (cc := cc) (maxL := maxL) (ret := ret) hy hw ?_
  intro p e s m args below meth c s₁ B hml ht hv
  obtain ⟨rfl, hsz, hP, hK, hD0, hN, hZ⟩ := hv
  have hts := atoms_spec (ws := ws) B.pre
  subst hsz
  rw [lg_entry_eq]
  exact body p e s m _ below meth c (va_A w0 s.heap.size) ⟨B.exec, B.bytes, hml, (by rw [← ho]; exact findClass_of_methodNamed B.named), hts, hK, fun _ h => Or.inr h, B.notSynchronized, B.returns⟩ hN.1 ⟨hl, hN, hZ, ht⟩ s.heap [] _ hP hD0.self va_S.rf (lv_entry As (Nat.le_of_ble_eq_true hlen))
theorem Xv.of {own : String} {l : Launch} {G : va_G × (Nat → ClassId)} {sa : Nat → Nat} {y : MethodName} {ws ws' : List Cond} {rm : Room} {As : List Value} {w0 : va_W} {post : va_W → Prop} {postX : String → va_W → Prop} {cc : ByteArray} {maxL : Nat} {ret : Option FieldType} (hl : l.stackTraces = false) (hy : plainName y.cls = true) (ho : y.cls = own) (hw : ws = Cond.code y cc maxL ret :: ws') (hlen : Nat.ble (lg_sl As).length maxL = true)
    (body : ∀ (p : Program) (e : Env) (s : State) (m : MethodId) (args : Array Value) (below : List Frame) (meth : Method) (c : Code) (A : Nat → Prop), cx p l s m args meth c cc maxL ret ws own G A s.heap → NX s → XE l s c sa A → AW p l e (headSpec ws rm).room s m args below meth c maxL G A s.heap 0 0 (vx_MQ below (QPv G post A) (XC9 G postX A) args s 1 6 A) w0 (lv_args 0 As) 0 []) : Xv l G sa y ws rm As w0 post postX := by
  intro sz
  refine vx_ofW (cc := cc) (maxL := maxL) (ret := ret) hy hw ?_
  intro p e s m args below meth c s₁ B hml ht hv
  obtain ⟨rfl, hsz, hP, hK, hD0, hN, hZ⟩ := hv
  have hts := atoms_spec (ws := ws) B.pre
  subst hsz
  rw [lg_entry_eq]
  exact body p e s m _ below meth c (va_A w0 s.heap.size) ⟨B.exec, B.bytes, hml, (by rw [← ho]; exact findClass_of_methodNamed B.named), hts, hK, fun _ h => Or.inr h, B.notSynchronized, B.returns⟩ hN.1 ⟨hl, hN, hZ, ht⟩ s.heap [] _ hP hD0.self va_S.rf (lv_entry As (Nat.le_of_ble_eq_true hlen))
section AWX
variable {p : Program} {l : Launch} {e : Env} {R : Room} {s : State} {m : MethodId} {args : Array Value} {below : List Frame} {meth : Method} {c : Code} {nL : Nat} {G : va_G × (Nat → ClassId)} {A : Nat → Prop}
variable {cc : ByteArray} {ret : Option FieldType} {Ts : List Cond} {own : String} {ws : va_W} {lv : List (Nat × Value)} {pc : Nat} {st : List Value} {sa : Nat → Nat}
theorem aw_iretX {post : Int → va_W → Prop} {XC : String → State → State → Prop} {z : Int} (C : cx p l s m args meth c cc nL (some .int) Ts own G A s.heap) (hd : decode cc pc = .ok (.ireturn, 1)) (h : post z ws) : AW p l e R s m args below meth c nL G A s.heap 0 0 (vx_MQ below (QPi G post A) XC args s 1 6 A) ws lv pc [.int (zI z)] :=
  fun H locs ls hP hD hS hl => vx_ret (W.widen (k := 1) (n := 6) (Nat.zero_le _) (Nat.zero_le _) (W.iret C.1 C.2.1 C.2.2.2.2.2.2.2.2 (fun t ht hW => ⟨⟨zI z, (z, ws), rfl, ⟨rfl, h⟩, by rw [ht]; exact hP, hD⟩, hS.F ht⟩) hS.2.2 hd C.2.2.2.2.2.2.2.1))
theorem aw_vretX {post : va_W → Prop} {XC : String → State → State → Prop} (C : cx p l s m args meth c cc nL none Ts own G A s.heap) (hd : decode cc pc = .ok (.return_, 1)) (h : post ws) : AW p l e R s m args below meth c nL G A s.heap 0 0 (vx_MQ below (QPv G post A) XC args s 1 6 A) ws lv pc [] :=
  fun H locs ls hP hD hS hl => vx_ret (W.widen (k := 1) (n := 6) (Nat.zero_le _) (Nat.zero_le _) (W.vret C.1 C.2.1 C.2.2.2.2.2.2.2.2 (fun t ht hW => ⟨⟨ws, rfl, h, by rw [ht]; exact hP, hD⟩, hS.F ht⟩) hS.2.2 hd C.2.2.2.2.2.2.2.1))
theorem aw_throw {Qc : Array Value → State → Outcome → State → Prop} {postX : String → va_W → Prop} {ik is ic q : Nat} {cls text : String} (C : cx p l s m args meth c cc nL ret Ts own G A s.heap) (X : XE l s c sa A) (hcls : Bundle.fit cls = true) (hk : (Cond.classLink own ik cls).before args s = true) (hini : (Cond.initialized cls).before args s = true) (hstr : vk_R own is text q s) (hat : ∀ w ∈ vx_atS own ic cls eNm, w.before args s = true) (hgood : ∀ w ∈ Cond.classLink own ik cls :: Cond.initialized cls :: vx_atS own ic cls eNm, vx_ot w = true)
    (d0 : decode cc pc = .ok (.new ik, 3)) (d3 : decode cc (pc + 3) = .ok (.dup, 1)) (d4 : decode cc (pc + 4) = .ok (.ldc is, 2)) (d6 : decode cc (pc + 6) = .ok (.invokespecial ic, 3)) (d9 : decode cc (pc + 9) = .ok (.athrow, 1))
    (hR : Nat.ble 6 R.frames = true ∧ Nat.ble ((st.map fun v => v.category).sum + 82) R.locals = true ∧ Nat.ble 1 R.cells = true ∧ Nat.ble 6 R.slots = true) (h : postX cls ws) : AW p l e R s m args below meth c nL G A s.heap 0 0 (vx_MQ below Qc (XC9 G postX A) args s 1 6 A) ws lv pc st :=
  fun H locs ls hP hD hS hl => by
    have h1 := Nat.le_of_ble_eq_true hR.1
    have h2 := Nat.le_of_ble_eq_true hR.2.1
    have h3 := Nat.le_of_ble_eq_true hR.2.2.1
    have h4 := Nat.le_of_ble_eq_true hR.2.2.2
    refine vx_throwS (names := eNm) (A := A) C.1 C.2.1 X.1 C.2.2.2.1 hcls (by decide +kernel) hk hini hstr hat hgood X.2.2.1.1 X.2.2.1.2 hS (hl.1.trans C.2.2.1.symm) d0 d3 d4 d6 d9 (fun x hx => (X.2.2.2 x hx).elim) (by show 2 + 3 < R.frames; omega) (by show _ + (13 * (2 + 1) + 43) ≤ R.locals; omega) (by omega) (by omega) C.2.2.2.2.2.2.2.1 (fun t ha hz hk9 => ?_) hS.2.2 (Nat.le_refl _) (Nat.le_refl _)
    refine ⟨ws, trivial, ⟨h, hP.kept (fun k q hq => hk9 q.1 (hP k q hq).lt), hD⟩, Nat.le_trans hS.1 hz, fun q hq hnA => ?_⟩
    rw [hk9 q (Nat.lt_of_lt_of_le hq hS.1)]
    exact hS.2.1 q hq hnA
end AWX
/-! the words of the three exceptions in the class's own methods -/
theorem at_good {args : Array Value} {s : State} {Ts : List Cond} {sa : Nat → Nat} {ic : Nat} {cls : String} (hts : ∀ w ∈ Ts, w.before args s = true) (hin : ∀ w ∈ (vx_atS RX2 ic cls eNm).filter goodWord, w ∈ Ts) (hno : ∀ w ∈ (vx_atS RX2 ic cls eNm).filter (fun w => !goodWord w), w ∈ [Cond.castable cls cls, dR, dE, dT]) (hc : va_Nw (.castable cls cls) s) (hN : NT sa s) : ∀ w ∈ vx_atS RX2 ic cls eNm, w.before args s = true :=
  vx_hat (fun w hw => hts w (hin w hw)) hno (vx_c (va_Nw.use rfl hc) (vx_c (va_Nw.use rfl hN.2.2.1.1) (vx_c (va_Nw.use rfl hN.2.2.1.2.1) (vx_c (va_Nw.use rfl hN.2.2.1.2.2) vx_n))))
theorem no_IAE : ∀ w ∈ (vx_atS RX2 53 eIAE eNm).filter (fun w => !goodWord w), w ∈ [Cond.castable eIAE eIAE, dR, dE, dT] := by decide +kernel
theorem no_ISE : ∀ w ∈ (vx_atS RX2 86 eISE eNm).filter (fun w => !goodWord w), w ∈ [Cond.castable eISE eISE, dR, dE, dT] := by decide +kernel
theorem no_IOB : ∀ w ∈ (vx_atS RX2 107 eIOB eNm).filter (fun w => !goodWord w), w ∈ [Cond.castable eIOB eIOB, dR, dE, dT] := by decide +kernel
theorem ok_IAE : ∀ w ∈ Cond.classLink RX2 49 eIAE :: Cond.initialized eIAE :: vx_atS RX2 53 eIAE eNm, vx_ot w = true := by decide +kernel
theorem ok_ISE : ∀ w ∈ Cond.classLink RX2 82 eISE :: Cond.initialized eISE :: vx_atS RX2 86 eISE eNm, vx_ot w = true := by decide +kernel
theorem ok_IOB : ∀ w ∈ Cond.classLink RX2 103 eIOB :: Cond.initialized eIOB :: vx_atS RX2 107 eIOB eNm, vx_ot w = true := by decide +kernel
end
section
/-! WHAT EACH CALL DOES, pure: k tells whether it throws, and which (0: it returns) -/
theorem ite_t {P : Prop} [Decidable P] (h : ¬ (if P then (1 : Int) else 0) = 0) : P := by
  by_cases e : P
  · exact e
  · rw [if_neg e] at h; exact absurd rfl h
theorem ite_f {P : Prop} [Decidable P] (h : (if P then (1 : Int) else 0) = 0) : ¬ P := fun e => by rw [if_pos e] at h; exact absurd h (by decide)
def kBeg (a b c : Int) : Int := if (1 ≤ a ∧ a ≤ 5) ∧ (1 ≤ b ∧ b ≤ 6) ∧ (1 ≤ c ∧ c ≤ 6) then 0 else 1
def sBeg (S : St) (a b c : Int) : St := fogS (us (us (us S 0 a) 1 b) 2 c)
def kSet (a b : Int) : Int := if (0 ≤ a ∧ a ≤ 2) ∧ (0 ≤ b ∧ b ≤ 2) then 0 else 1
def sSet (S : St) (a b : Int) : St := us (us S 3 a) 4 b
def kArr (S : St) (c : Int) : Int := if ¬ (0 ≤ c ∧ c ≤ 4) then 1 else if 99 ≤ S.1 5 ∨ inS S c = -1 then 2 else 0
def sArr (S : St) (c : Int) : St := putS (newS S c) (inS S c) (S.1 5)
def kArI (S : St) (c i : Int) : Int := if ¬ (0 ≤ c ∧ c ≤ 4) then 1 else if ¬ (0 ≤ i ∧ i < S.1 0) then 2 else if 99 ≤ S.1 5 ∨ S.1 1 ≤ S.2 0 i then 3 else 0
def sArI (S : St) (c i : Int) : St := putS (newS S c) i (S.1 5)
/-- how many are at a place -/
def cnS (S : St) (z : Int) : Int := cntN (S.2 2) z (S.1 5).toNat
def kRel (S : St) : Int := if S.1 2 ≤ cnS S 10 ∨ outS S = -1 then 1 else 0
def kReF (S : St) (i : Int) : Int := if ¬ (0 ≤ i ∧ i < S.1 0) then 1 else if S.2 0 i = 0 ∨ S.1 2 ≤ cnS S 10 then 2 else 0
def wtS (S : St) (i q : Int) : Int := S.2 1 (S.2 (10 + i.toNat) q)
def fwS (S : St) (c : Int) : Int := mC (S.2 0) (wtS S) (rmT (S.2 0) zT).toNat zT c
def fiS (S : St) (i c : Int) : Int := chg c (wtS S i 0) + mC (S.2 0) (wtS S) (rmT (S.2 0) (upT zT i)).toNat (upT zT i) (wtS S i 0)
def blS (S : St) : Int := fstB (fun i => decide (0 < S.2 0 i ∧ fiS S i (S.1 8) = fwS S (S.1 8))) 5
/-- how many are in lanes -/
def nlS (S : St) : Int := sumN (S.2 0) (S.1 0).toNat
def kReB (S : St) : Int := if S.1 2 ≤ cnS S 10 ∨ 12 < nlS S ∨ blS S = -1 then 1 else 0
def kSeB (S : St) (b : Int) : Int := if ¬ (0 ≤ b ∧ b < S.1 5) then 1 else if ¬ S.2 2 b = 10 then 2 else 0
def kRee (S : St) (b : Int) : Int := if ¬ (0 ≤ b ∧ b < S.1 5) then 1 else if ¬ S.2 2 b = 11 ∨ inS S (S.2 1 b) = -1 then 2 else 0
def lbS (S : St) : Int := fstB (fun b => decide (S.2 2 b = 10)) (S.1 5).toNat
def kAsm (S : St) : Int := if lbS S = -1 then 1 else 0
def asmS (S : St) (b : Int) : St := us (ua (ua (ua S 2 b 12) 4 b (S.1 6)) 3 (S.1 6) b) 6 (S.1 6 + 1)
def kBod (S : St) (b : Int) : Int := if 0 ≤ b ∧ b < S.1 5 then 0 else 1
def kLan (S : St) (i : Int) : Int := if 0 ≤ i ∧ i < S.1 0 then 0 else 1
def kBAt (S : St) (i j : Int) : Int := if (0 ≤ i ∧ i < S.1 0) ∧ (0 ≤ j ∧ j < S.2 0 i) then 0 else 1
def kAsA (S : St) (q : Int) : Int := if 0 ≤ q ∧ q < S.1 6 then 0 else 1
def kLat (S : St) (b : Int) : Int := if ¬ (0 ≤ b ∧ b < S.1 5) then 1 else if ¬ S.2 2 b = 12 then 2 else 0
def wlN (S : St) : Nat → Int
  | 0 => 0
  | n + 1 => if wlN S n < (n : Int) - S.2 3 n then (n : Int) - S.2 3 n else wlN S n
def kFew (S : St) (most : Int) : Int := if most < nlS S then 1 else 0
/-! the plan that the class copies, and the lanes -/
theorem mC_cong2 {sz sz' : Int → Int} {wt wt' : Int → Int → Int} (hs : ∀ i : Int, 0 ≤ i → i < 5 → sz i = sz' i) (hw : ∀ i q : Int, 0 ≤ i → i < 5 → 0 ≤ q → q < sz i → wt i q = wt' i q) : ∀ (f : Nat) (t : Int → Int) (c : Int), vT sz t → mC sz wt f t c = mC sz' wt' f t c
  | 0, _, _, _ => rfl
  | f + 1, t, c, hv => by
    refine mnL_congr (fun k h0 h5 => ⟨by rw [hs k h0 h5], fun hp => ?_⟩)
    have h2 := of_decide_eq_true hp
    rw [hw k (t k) h0 h5 (hv k h0 h5).1 h2, mC_cong2 hs hw f (upT t k) _ (vT_up hv h2)]
theorem rmT_sz {sz sz' t : Int → Int} (hs : ∀ i : Int, 0 ≤ i → i < 5 → sz i = sz' i) : rmT sz t = rmT sz' t := by
  unfold rmT
  rw [hs 0 (by omega) (by omega), hs 1 (by omega) (by omega), hs 2 (by omega) (by omega), hs 3 (by omega) (by omega), hs 4 (by omega) (by omega)]
theorem colS_at {S : St} (hI : Inv S) {i q : Int} (h0 : 0 ≤ i) (h5 : i < 5) (hq : 0 ≤ q) (hq2 : q < S.2 0 i) : colS S (atS S i q) = wtS S i q := by
  obtain ⟨hn, hz, hr, -⟩ := hI
  have h1 := hr i q h0 h5 hq hq2
  have e1 : atS S i q = S.2 (10 + i.toNat) q := if_pos ⟨hq, hq2⟩
  unfold colS wtS
  rw [e1, if_pos (by omega)]
theorem plS_w {S P : St} (hI : Inv S) (h : plS S P) : ∀ i q : Int, 0 ≤ i → i < 5 → 0 ≤ q → q < P.2 5 i → wtP P i q = wtS S i q := fun i q h0 h5 hq hq2 => by
  rw [h.1 i h0 h5] at hq2
  rw [wtP_at h5, h.2 i q h0 h5 hq hq2, colS_at hI h0 h5 hq hq2]
theorem nlS_5 {S : St} (hI : Inv S) : nlS S = S.2 0 0 + S.2 0 1 + S.2 0 2 + S.2 0 3 + S.2 0 4 := by
  obtain ⟨hn, hz, -⟩ := hI
  have z0 := hz 0 (by omega) (by omega)
  have z1 := hz 1 (by omega) (by omega)
  have z2 := hz 2 (by omega) (by omega)
  have z3 := hz 3 (by omega) (by omega)
  have z4 := hz 4 (by omega) (by omega)
  unfold nlS
  have hc : S.1 0 = 1 ∨ S.1 0 = 2 ∨ S.1 0 = 3 ∨ S.1 0 = 4 ∨ S.1 0 = 5 := by omega
  rcases hc with e | e | e | e | e
  · rw [e]
    show 0 + S.2 0 0 = _
    omega
  · rw [e]
    show 0 + S.2 0 0 + S.2 0 1 = _
    omega
  · rw [e]
    show 0 + S.2 0 0 + S.2 0 1 + S.2 0 2 = _
    omega
  · rw [e]
    show 0 + S.2 0 0 + S.2 0 1 + S.2 0 2 + S.2 0 3 = _
    omega
  · rw [e]
    show 0 + S.2 0 0 + S.2 0 1 + S.2 0 2 + S.2 0 3 + S.2 0 4 = _
    omega
theorem plS_V {S P : St} (hI : Inv S) (h : plS S P) (hs : nlS S ≤ 12) : PV P := by
  have h5 := nlS_5 hI
  have e := h.1
  refine ⟨fun i h0 h5 => ?_, ?_, fun i q h0 h5 hq hq2 => ?_⟩
  · rw [e i h0 h5]
    have := hI.2.1 i h0 h5
    have := hI.1
    omega
  · rw [e 0 (by omega) (by omega), e 1 (by omega) (by omega), e 2 (by omega) (by omega), e 3 (by omega) (by omega), e 4 (by omega) (by omega)]
    omega
  · have hw := plS_w hI h i q h0 h5 hq hq2
    rw [wtP_at h5] at hw
    rw [e i h0 h5] at hq2
    rw [hw]
    have h1 := hI.2.2.1 i q h0 h5 hq hq2
    have h2 := hI.2.2.2.1 (S.2 (10 + i.toNat) q) h1.1 h1.2
    unfold wtS
    omega
theorem fwP_S {S P : St} (hI : Inv S) (h : plS S P) (hs : nlS S ≤ 12) (c : Int) : fwP P c = fwS S c := by
  unfold fwP fwS
  rw [mC_cong2 (sz' := S.2 0) (wt' := wtS S) h.1 (plS_w hI h) _ _ _ (vT_z (plS_V hI h hs)), rmT_sz (sz' := S.2 0) h.1]
theorem fiP_S {S P : St} (hI : Inv S) (h : plS S P) (hs : nlS S ≤ 12) {i : Int} (h0 : 0 ≤ i) (h5 : i < 5) (hp : 0 < P.2 5 i) (c : Int) : fiP P i c = fiS S i c := by
  unfold fiP fiS
  rw [mC_cong2 (sz' := S.2 0) (wt' := wtS S) h.1 (plS_w hI h) _ _ _ (vT_up (vT_z (plS_V hI h hs)) hp), rmT_sz (sz' := S.2 0) h.1, plS_w hI h i 0 h0 h5 (Int.le_refl 0) hp]
theorem blP_S {S P : St} (hI : Inv S) (h : plS S P) (hs : nlS S ≤ 12) : blP P (S.1 8) = blS S := by
  unfold blP blS
  refine fstB_congr (fun k h0 h5 => ?_)
  rw [h.1 k h0 h5, fwP_S hI h hs]
  by_cases hp : 0 < S.2 0 k
  · rw [fiP_S hI h hs h0 h5 (by rw [h.1 k h0 h5]; exact hp)]
  · rw [decide_eq_false (fun x => hp x.1), decide_eq_false (fun x => hp x.1)]
theorem inS_b {S : St} (hI : Inv S) (c : Int) : -1 ≤ inS S c ∧ inS S c < S.1 0 := by
  obtain ⟨hn, hz, -⟩ := hI
  have h1 := fstB_b (fun i => decide (S.2 0 i < S.1 1 ∧ colS S (atS S i (S.2 0 i - 1)) = c)) (S.1 0).toNat
  have h2 := emN_b S (S.1 0).toNat
  have h3 := trN_b S (by omega) (S.1 0).toNat (S.1 7) (by omega) (by omega)
  unfold inS e1S
  split
  · split <;> omega
  · split
    · split <;> omega
    · omega
theorem emN_room {S : St} : ∀ n : Nat, ¬ emN S n = -1 → S.2 0 (emN S n) < S.1 1
  | 0, h => absurd rfl h
  | n + 1, h => by
    have ih := emN_room (S := S) n
    unfold emN at h ⊢
    by_cases e : S.2 0 n < (if emN S n = -1 then S.1 1 else S.2 0 (emN S n))
    · rw [if_pos e]
      split at e
      · exact e
      · rename_i e2
        have := ih e2
        omega
    · rw [if_neg e] at h ⊢
      exact ih h
theorem trN_room {S : St} : ∀ (k : Nat) (i : Int), ¬ trN S k i = -1 → S.2 0 (trN S k i) < S.1 1
  | 0, _, h => absurd rfl h
  | k + 1, i, h => by
    unfold trN at h ⊢
    by_cases e : S.2 0 i < S.1 1
    · rw [if_pos e]; exact e
    · rw [if_neg e] at h ⊢
      exact trN_room k _ h
theorem inS_room {S : St} {c : Int} (h : ¬ inS S c = -1) : S.2 0 (inS S c) < S.1 1 := by
  unfold inS at h ⊢
  by_cases e1 : S.1 3 = 1
  · rw [if_pos e1] at h ⊢
    by_cases e2 : e1S S c = -1
    · rw [if_pos e2] at h ⊢
      exact emN_room _ h
    · rw [if_neg e2]
      exact (of_decide_eq_true (fstB_ok e2)).1
  · rw [if_neg e1] at h ⊢
    by_cases e2 : S.1 3 = 2
    · rw [if_pos e2] at h ⊢
      by_cases e3 : trN S (S.1 0).toNat (S.1 7) = -1
      · rw [if_pos e3] at h ⊢
        exact emN_room _ h
      · rw [if_neg e3]
        exact trN_room _ _ e3
    · rw [if_neg e2] at h ⊢
      exact emN_room _ h
theorem outS_b {S : St} : -1 ≤ outS S ∧ outS S < (S.1 0).toNat ∨ outS S = -1 := by
  have h1 := lhN_b (fitS S (S.1 8) 1) S (S.1 0).toNat
  have h2 := lhN_b (fitS S (-2) (if S.1 4 = 2 then mxN S (S.1 0).toNat else 1)) S (S.1 0).toNat
  unfold outS alS
  split
  · omega
  · split <;> omega
theorem outS_pos {S : St} (h : ¬ outS S = -1) : 0 < S.2 0 (outS S) := by
  have key : ∀ c sh : Int, ¬ lhN (fitS S c sh) S (S.1 0).toNat = -1 → 0 < S.2 0 (lhN (fitS S c sh) S (S.1 0).toNat) := fun c sh h9 => by
    have h1 := (of_decide_eq_true (lhN_ok h9)).1
    unfold atS at h1
    by_cases e : (0 : Int) ≤ 0 ∧ 0 < S.2 0 (lhN (fitS S c sh) S (S.1 0).toNat)
    · exact e.2
    · rw [if_neg e] at h1
      exact absurd rfl h1
  unfold outS at h ⊢
  by_cases e : alS S = -1
  · rw [if_pos e] at h ⊢
    exact key _ _ h
  · rw [if_neg e]
    unfold alS at e ⊢
    by_cases e2 : S.1 4 = 0
    · rw [if_pos e2] at e
      exact absurd rfl e
    · rw [if_neg e2] at e ⊢
      exact key _ _ e
/-- no more numbers under n than n, all different -/
theorem php : ∀ (n a : Nat) (f : Nat → Nat), (∀ i, i < a → f i < n) → (∀ i j, i < a → j < a → f i = f j → i = j) → a ≤ n
  | 0, a, f, h, _ => by
    rcases Nat.eq_zero_or_pos a with e | e
    · omega
    · exact absurd (h 0 e) (by omega)
  | n + 1, 0, _, _, _ => by omega
  | n + 1, a + 1, f, h, hi => by
    have k := php n a (fun i => if f i = n then f a else f i) (fun i hi2 => by
      have h1 := h i (by omega)
      have h2 := h a (by omega)
      split
      · rename_i e
        have : ¬ f a = n := fun e2 => by
          have := hi i a (by omega) (by omega) (by rw [e, e2])
          omega
        omega
      · omega) (fun i j g1 g2 g3 => by
      have h1 := hi i j (by omega) (by omega)
      have h2 := hi i a (by omega) (by omega)
      have h3 := hi j a (by omega) (by omega)
      split at g3
      · split at g3
        · exact h1 (by omega)
        · have := h3 g3.symm
          omega
      · split at g3
        · have := h2 g3
          omega
        · exact h1 g3)
    omega
/-- a body that isn't assembled leaves room in the order -/
theorem asm_lt {S : St} (hI : Inv S) {b : Int} (h0 : 0 ≤ b) (h1 : b < S.1 5) (h2 : ¬ S.2 2 b = 12) : S.1 6 < S.1 5 := by
  obtain ⟨hn, hz, hr, hc, hp, ha, hq, ht⟩ := hI
  have key : ∀ i : Nat, i < (S.1 6).toNat → 0 ≤ S.2 3 i ∧ S.2 3 i < S.1 5 ∧ S.2 2 (S.2 3 i) = 12 ∧ S.2 4 (S.2 3 i) = i := fun i hi => ha i (by omega) (by omega)
  have k := php (S.1 5).toNat ((S.1 6).toNat + 1) (fun i => if i < (S.1 6).toNat then (S.2 3 i).toNat else b.toNat) (fun i hi => by
    split
    · rename_i e
      have := key i e
      omega
    · omega) (fun i j hi hj e => by
    split at e
    · rename_i ei
      have ki := key i ei
      split at e
      · rename_i ej
        have kj := key j ej
        have e2 : S.2 3 i = S.2 3 j := by omega
        have e3 := ki.2.2.2
        rw [e2, kj.2.2.2] at e3
        omega
      · have e2 : S.2 3 i = b := by omega
        rw [e2] at ki
        exact absurd ki.2.2.1 h2
    · split at e
      · rename_i ej
        have kj := key j ej
        have e2 : S.2 3 j = b := by omega
        rw [e2] at kj
        exact absurd kj.2.2.1 h2
      · omega)
  omega
theorem newS_2 (S : St) (c : Int) : (newS S c).2 0 = S.2 0 := by
  show (ua S 1 (S.1 5) c).2 0 = S.2 0
  exact ua_m _ _ _ _ (by decide)
theorem blS_b (S : St) : -1 ≤ blS S ∧ blS S < 5 := fstB_b _ 5
theorem blS_pos {S : St} (h : ¬ blS S = -1) : 0 < S.2 0 (blS S) := (of_decide_eq_true (fstB_ok h)).1

set_option maxHeartbeats 4000000 in
set_option maxRecDepth 100000 in
theorem c_X2_bodies {l : Launch} {G : va_G × (Nat → ClassId)} {ad : Nat → Nat} {S P : St} : Mi l G yX2_bodies wsX2_bodies ({ frames := 0, cells := 0, slots := 0, locals := 0 } : Room) [.ref (ad 0)] (WX G.2 ad S P) (fun r u => r = S.1 5 ∧ u = (WX G.2 ad S P)) := by
  refine Mi.of (own := RX2) (cc := cX2_bodies) (maxL := 1) (ret := (some .int)) (by decide) rfl rfl rfl ?_
  intro p e s m args below meth c A C hN
  have hts := C.2.2.2.2.1
  have iFX2 : ∀ w ∈ u_ws RX2 TX2 17, w ∈ wsX2_bodies := by decide +kernel
  have k_60 := hts (.fieldLink RX2 60 "PaintSequencer" "bodies" "I") (by decide +kernel)
  refine aw_aload_n C dX2_bodies_0 rfl ?_
  refine aw_get (q0 := 0) (k := 11) C iFX2 k_60 rfl rfl rfl rfl dX2_bodies_1 ?_
  exact aw_iret C dX2_bodies_4 ⟨rfl, rfl⟩
set_option maxHeartbeats 4000000 in
set_option maxRecDepth 100000 in
theorem c_X2_changes {l : Launch} {G : va_G × (Nat → ClassId)} {ad : Nat → Nat} {S P : St} : Mi l G yX2_changes wsX2_changes ({ frames := 0, cells := 0, slots := 0, locals := 0 } : Room) [.ref (ad 0)] (WX G.2 ad S P) (fun r u => r = S.1 9 ∧ u = (WX G.2 ad S P)) := by
  refine Mi.of (own := RX2) (cc := cX2_changes) (maxL := 1) (ret := (some .int)) (by decide) rfl rfl rfl ?_
  intro p e s m args below meth c A C hN
  have hts := C.2.2.2.2.1
  have iFX2 : ∀ w ∈ u_ws RX2 TX2 17, w ∈ wsX2_changes := by decide +kernel
  have k_175 := hts (.fieldLink RX2 175 "PaintSequencer" "changes" "I") (by decide +kernel)
  refine aw_aload_n C dX2_changes_0 rfl ?_
  refine aw_get (q0 := 0) (k := 15) C iFX2 k_175 rfl rfl rfl rfl dX2_changes_1 ?_
  exact aw_iret C dX2_changes_4 ⟨rfl, rfl⟩
set_option maxHeartbeats 4000000 in
set_option maxRecDepth 100000 in
theorem c_X2_released {l : Launch} {G : va_G × (Nat → ClassId)} {ad : Nat → Nat} {S P : St} : Mi l G yX2_released wsX2_released ({ frames := 0, cells := 0, slots := 0, locals := 0 } : Room) [.ref (ad 0)] (WX G.2 ad S P) (fun r u => r = S.1 10 ∧ u = (WX G.2 ad S P)) := by
  refine Mi.of (own := RX2) (cc := cX2_released) (maxL := 1) (ret := (some .int)) (by decide) rfl rfl rfl ?_
  intro p e s m args below meth c A C hN
  have hts := C.2.2.2.2.1
  have iFX2 : ∀ w ∈ u_ws RX2 TX2 17, w ∈ wsX2_released := by decide +kernel
  have k_178 := hts (.fieldLink RX2 178 "PaintSequencer" "released" "I") (by decide +kernel)
  refine aw_aload_n C dX2_released_0 rfl ?_
  refine aw_get (q0 := 0) (k := 16) C iFX2 k_178 rfl rfl rfl rfl dX2_released_1 ?_
  exact aw_iret C dX2_released_4 ⟨rfl, rfl⟩
set_option maxHeartbeats 4000000 in
set_option maxRecDepth 100000 in
theorem c_X2_stored {l : Launch} {G : va_G × (Nat → ClassId)} {ad : Nat → Nat} {S P : St} (hI : Inv S) : Mi l G yX2_stored wsX2_stored ({ frames := 1, cells := 0, slots := 0, locals := 23 } : Room) [.ref (ad 0)] (WX G.2 ad S P) (fun r u => r = cnS S 10 ∧ u = (WX G.2 ad S P)) := by
  refine Mi.of (own := RX2) (cc := cX2_stored) (maxL := 1) (ret := (some .int)) (by decide) rfl rfl rfl ?_
  intro p e s m args below meth c A C hN
  have hts := C.2.2.2.2.1
  obtain ⟨hn, hz, hr, hc, hp, ha, hq, ht⟩ := id hI
  refine aw_aload_n C dX2_stored_0 rfl ?_
  refine aw_bipush C dX2_stored_1 rfl ?_
  refine cV1i (ci := 2) (q0 := 0) C hN (c_X2_countAt (by omega) hp (by omega)) (cwV 1 hts gX2_stored_X2_countAt rfl rfl rfl (by decide +kernel) ⟨Nat.le_of_ble_eq_true rfl, Nat.le_of_ble_eq_true rfl⟩) rfl rfl rfl rfl dX2_stored_3 ⟨Nat.zero_le _, Nat.zero_le _⟩ (fun r3 u3 q3 => ?_)
  obtain ⟨rfl, rfl⟩ := q3
  exact aw_iret C dX2_stored_6 ⟨rfl, rfl⟩
set_option maxHeartbeats 4000000 in
set_option maxRecDepth 100000 in
theorem c_X2_worstLateness {l : Launch} {G : va_G × (Nat → ClassId)} {ad : Nat → Nat} {S P : St} (hI : Inv S) : Mi l G yX2_worstLateness wsX2_worstLateness ({ frames := 0, cells := 0, slots := 0, locals := 0 } : Room) [.ref (ad 0)] (WX G.2 ad S P) (fun r u => r = wlN S (S.1 6).toNat ∧ u = (WX G.2 ad S P)) := by
  refine Mi.of (own := RX2) (cc := cX2_worstLateness) (maxL := 4) (ret := (some .int)) (by decide) rfl rfl rfl ?_
  intro p e s m args below meth c A C hN
  have hts := C.2.2.2.2.1
  have iFX2 : ∀ w ∈ u_ws RX2 TX2 17, w ∈ wsX2_worstLateness := by decide +kernel
  have k_161 := hts (.fieldLink RX2 161 "PaintSequencer" "assembled" "I") (by decide +kernel)
  have k_26 := hts (.fieldLink RX2 26 "PaintSequencer" "order" "[I") (by decide +kernel)
  obtain ⟨hn, hz, hr, hc, hp, ha, hq, ht⟩ := id hI
  have lp : ∀ (n : Nat) (k : Nat), (k : Int) ≤ S.1 6 → S.1 6 - k < n → (0 ≤ wlN S k ∧ wlN S k ≤ 99) → AW p l e (headSpec wsX2_worstLateness ({ frames := 0, cells := 0, slots := 0, locals := 0 } : Room)).room s m args below meth c 4 G A s.heap 0 0 (MQ below (QPi G (fun r u => r = wlN S (S.1 6).toNat ∧ u = (WX G.2 ad S P)) A) args s 0 0 A) (WX G.2 ad S P) [(0, .ref (ad 0)), (1, .int (zI (wlN S k))), (2, .int (zI k))] 4 [] := by
    intro n
    induction n with
    | zero =>
      intro k h1 h2 h3
      exfalso
      omega
    | succ n ih =>
      intro k h1 h2 h3
      refine aw_iload_n C dX2_worstLateness_4 rfl ?_
      refine aw_aload_n C dX2_worstLateness_5 rfl ?_
      refine aw_get (q0 := 0) (k := 12) C iFX2 k_161 rfl rfl rfl rfl dX2_worstLateness_6 ?_
      refine aw_icmp_ge (tgt := 34) C dX2_worstLateness_9 (by decide) (by omega) (by omega) (fun c9 => ?_) (fun c9 => ?_)
      · refine aw_iload_n C dX2_worstLateness_34 rfl ?_
        exact aw_iret C dX2_worstLateness_35 ⟨by rw [show (S.1 6).toNat = k by omega], rfl⟩
      · refine aw_iload_n C dX2_worstLateness_12 rfl ?_
        refine aw_aload_n C dX2_worstLateness_13 rfl ?_
        refine aw_get (q0 := 0) (k := 4) C iFX2 k_26 rfl rfl rfl rfl dX2_worstLateness_14 ?_
        refine aw_iload_n C dX2_worstLateness_17 rfl ?_
        refine aw_ldI (q0 := 15) C rfl (by omega) (by omega) rfl dX2_worstLateness_18 ?_
        have h7 := ha k (by omega) (by omega)
        refine aw_isub C dX2_worstLateness_19 ?_
        refine aw_istore_n C dX2_worstLateness_20 rfl rfl ?_
        refine aw_iload_n C dX2_worstLateness_21 rfl ?_
        refine aw_iload_n C dX2_worstLateness_22 rfl ?_
        refine aw_icmp_le (tgt := 28) C dX2_worstLateness_23 (by decide) (by omega) (by omega) (fun c23 => ?_) (fun c23 => ?_)
        · refine aw_iinc C dX2_worstLateness_28 rfl rfl rfl ?_
          refine aw_goto (tgt := 4) C dX2_worstLateness_31 (by decide) ?_
          first
          | (have e8 : wlN S (k + 1) = (k : Int) - S.2 3 k := if_pos c23
             have h8 := ih (k + 1) (by omega) (by omega) (by omega)
             rw [e8] at h8
             refine aw_less ?_ h8
             exact fun q hq => List.mem_of_mem_take (i := 3) hq)
          | (have e8 : wlN S (k + 1) = wlN S k := if_neg (Int.not_lt.mpr c23)
             have h8 := ih (k + 1) (by omega) (by omega) (by omega)
             rw [e8] at h8
             refine aw_less ?_ h8
             exact fun q hq => List.mem_of_mem_take (i := 3) hq)
        · refine aw_iload_n C dX2_worstLateness_26 rfl ?_
          refine aw_istore_n C dX2_worstLateness_27 rfl rfl ?_
          refine aw_iinc C dX2_worstLateness_28 rfl rfl rfl ?_
          refine aw_goto (tgt := 4) C dX2_worstLateness_31 (by decide) ?_
          first
          | (have e8 : wlN S (k + 1) = (k : Int) - S.2 3 k := if_pos c23
             have h8 := ih (k + 1) (by omega) (by omega) (by omega)
             rw [e8] at h8
             refine aw_less ?_ h8
             exact fun q hq => List.mem_of_mem_take (i := 3) hq)
          | (have e8 : wlN S (k + 1) = wlN S k := if_neg (Int.not_lt.mpr c23)
             have h8 := ih (k + 1) (by omega) (by omega) (by omega)
             rw [e8] at h8
             refine aw_less ?_ h8
             exact fun q hq => List.mem_of_mem_take (i := 3) hq)
  refine aw_iconst C dX2_worstLateness_0 ?_
  refine aw_istore_n C dX2_worstLateness_1 rfl rfl ?_
  refine aw_iconst C dX2_worstLateness_2 ?_
  refine aw_istore_n C dX2_worstLateness_3 rfl rfl ?_
  exact lp 100 0 (by omega) (by omega) ⟨Int.le_refl 0, by show (0 : Int) ≤ 99; decide⟩
set_option maxHeartbeats 4000000 in
set_option maxRecDepth 100000 in
theorem c_X2_begin {l : Launch} (hl : l.stackTraces = false) {G : va_G × (Nat → ClassId)} {sa : Nat → Nat} {ad : Nat → Nat} {S P : St} {a b z : Int} (ha : -2147483648 ≤ a ∧ a < 2147483648) (hb : -2147483648 ≤ b ∧ b < 2147483648) (hz : -2147483648 ≤ z ∧ z < 2147483648) : Xi l G sa yX2_begin wsX2_begin ({ frames := 6, cells := 1, slots := 6, locals := 90 } : Room) [.ref (ad 0), .int (zI a), .int (zI b), .int (zI z)] (WX G.2 ad S P) (fun r u => kBeg a b z = 0 ∧ r = S.1 5 ∧ ∃ P9 : St, u = WX G.2 ad (sBeg S a b z) P9) (fun E u => ((E = eIAE ∧ kBeg a b z = 1)) ∧ ∃ P9 : St, u = WX G.2 ad S P9) := by
  refine Xi.of (own := RX2) (cc := cX2_begin) (maxL := 5) (ret := (some .int)) hl (by decide) rfl rfl rfl ?_
  intro p e s m args below meth c A C hN X9
  have hts := C.2.2.2.2.1
  have iFX2 : ∀ w ∈ u_ws RX2 TX2 17, w ∈ wsX2_begin := by decide +kernel
  have k_60 := hts (.fieldLink RX2 60 "PaintSequencer" "bodies" "I") (by decide +kernel)
  have k_36 := hts (.fieldLink RX2 36 "PaintSequencer" "laneCount" "I") (by decide +kernel)
  have k_40 := hts (.fieldLink RX2 40 "PaintSequencer" "depth" "I") (by decide +kernel)
  have k_43 := hts (.fieldLink RX2 43 "PaintSequencer" "storeRoom" "I") (by decide +kernel)
  refine aw_iload_n C dX2_begin_0 rfl ?_
  refine aw_iconst C dX2_begin_1 ?_
  refine aw_icmp_lt (tgt := 10) C dX2_begin_2 (by decide) (by omega) (by omega) (fun c2 => ?_) (fun c2 => ?_)
  · exact aw_throw (is := 51) C X9 (by decide +kernel) (hts (.classLink RX2 49 eIAE) (by decide +kernel)) (hts (.initialized eIAE) (by decide +kernel)) (X9.2.1.2.2.2 (51, "lanes is out of range") (by decide +kernel)) (at_good hts (by decide +kernel) no_IAE X9.2.1.2.1.1 X9.2.1) ok_IAE dX2_begin_10 dX2_begin_13 dX2_begin_14 dX2_begin_16 dX2_begin_19 ⟨rfl, rfl, rfl, rfl⟩ ⟨⟨rfl, (by unfold kBeg; first | rw [if_pos (by omega)] | rw [if_neg (by omega), if_pos (by omega)] | rw [if_neg (by omega), if_neg (by omega), if_pos (by omega)] | rw [if_neg (by omega), if_neg (by omega), if_neg (by omega), if_pos (by omega)] | rw [if_neg (by omega), if_neg (by omega), if_neg (by omega), if_neg (by omega)] | rw [if_neg (by omega), if_neg (by omega), if_neg (by omega)] | rw [if_neg (by omega), if_neg (by omega)] | rw [if_neg (by omega)])⟩, _, rfl⟩
  · refine aw_iload_n C dX2_begin_5 rfl ?_
    refine aw_iconst C dX2_begin_6 ?_
    refine aw_icmp_le (tgt := 20) C dX2_begin_7 (by decide) (by omega) (by omega) (fun c7 => ?_) (fun c7 => ?_)
    · refine aw_iload_n C dX2_begin_20 rfl ?_
      refine aw_iconst C dX2_begin_21 ?_
      refine aw_icmp_lt (tgt := 31) C dX2_begin_22 (by decide) (by omega) (by omega) (fun c22 => ?_) (fun c22 => ?_)
      · exact aw_throw (is := 56) C X9 (by decide +kernel) (hts (.classLink RX2 49 eIAE) (by decide +kernel)) (hts (.initialized eIAE) (by decide +kernel)) (X9.2.1.2.2.2 (56, "depth is out of range") (by decide +kernel)) (at_good hts (by decide +kernel) no_IAE X9.2.1.2.1.1 X9.2.1) ok_IAE dX2_begin_31 dX2_begin_34 dX2_begin_35 dX2_begin_37 dX2_begin_40 ⟨rfl, rfl, rfl, rfl⟩ ⟨⟨rfl, (by unfold kBeg; first | rw [if_pos (by omega)] | rw [if_neg (by omega), if_pos (by omega)] | rw [if_neg (by omega), if_neg (by omega), if_pos (by omega)] | rw [if_neg (by omega), if_neg (by omega), if_neg (by omega), if_pos (by omega)] | rw [if_neg (by omega), if_neg (by omega), if_neg (by omega), if_neg (by omega)] | rw [if_neg (by omega), if_neg (by omega), if_neg (by omega)] | rw [if_neg (by omega), if_neg (by omega)] | rw [if_neg (by omega)])⟩, _, rfl⟩
      · refine aw_iload_n C dX2_begin_25 rfl ?_
        refine aw_bipush C dX2_begin_26 rfl ?_
        refine aw_icmp_le (tgt := 41) C dX2_begin_28 (by decide) (by omega) (by omega) (fun c28 => ?_) (fun c28 => ?_)
        · refine aw_iload_n C dX2_begin_41 rfl ?_
          refine aw_iconst C dX2_begin_42 ?_
          refine aw_icmp_lt (tgt := 52) C dX2_begin_43 (by decide) (by omega) (by omega) (fun c43 => ?_) (fun c43 => ?_)
          · exact aw_throw (is := 58) C X9 (by decide +kernel) (hts (.classLink RX2 49 eIAE) (by decide +kernel)) (hts (.initialized eIAE) (by decide +kernel)) (X9.2.1.2.2.2 (58, "store is out of range") (by decide +kernel)) (at_good hts (by decide +kernel) no_IAE X9.2.1.2.1.1 X9.2.1) ok_IAE dX2_begin_52 dX2_begin_55 dX2_begin_56 dX2_begin_58 dX2_begin_61 ⟨rfl, rfl, rfl, rfl⟩ ⟨⟨rfl, (by unfold kBeg; first | rw [if_pos (by omega)] | rw [if_neg (by omega), if_pos (by omega)] | rw [if_neg (by omega), if_neg (by omega), if_pos (by omega)] | rw [if_neg (by omega), if_neg (by omega), if_neg (by omega), if_pos (by omega)] | rw [if_neg (by omega), if_neg (by omega), if_neg (by omega), if_neg (by omega)] | rw [if_neg (by omega), if_neg (by omega), if_neg (by omega)] | rw [if_neg (by omega), if_neg (by omega)] | rw [if_neg (by omega)])⟩, _, rfl⟩
          · refine aw_iload_n C dX2_begin_46 rfl ?_
            refine aw_bipush C dX2_begin_47 rfl ?_
            refine aw_icmp_le (tgt := 62) C dX2_begin_49 (by decide) (by omega) (by omega) (fun c49 => ?_) (fun c49 => ?_)
            · refine aw_aload_n C dX2_begin_62 rfl ?_
              refine aw_get (q0 := 0) (k := 11) C iFX2 k_60 rfl rfl rfl rfl dX2_begin_63 ?_
              refine aw_istore C dX2_begin_66 rfl rfl ?_
              refine aw_aload_n C dX2_begin_68 rfl ?_
              refine aw_iload_n C dX2_begin_69 rfl ?_
              refine aw_put (q0 := 0) (k := 6) C iFX2 tyX2_ok nmX2 k_36 rfl rfl rfl rfl rfl rfl (wx_f6 _ _ _ _ _) dX2_begin_70 ?_
              refine aw_aload_n C dX2_begin_73 rfl ?_
              refine aw_iload_n C dX2_begin_74 rfl ?_
              refine aw_put (q0 := 0) (k := 7) C iFX2 tyX2_ok nmX2 k_40 rfl rfl rfl rfl rfl rfl (wx_f7 _ _ _ _ _) dX2_begin_75 ?_
              refine aw_aload_n C dX2_begin_78 rfl ?_
              refine aw_iload_n C dX2_begin_79 rfl ?_
              refine aw_put (q0 := 0) (k := 8) C iFX2 tyX2_ok nmX2 k_43 rfl rfl rfl rfl rfl rfl (wx_f8 _ _ _ _ _) dX2_begin_80 ?_
              refine aw_aload_n C dX2_begin_83 rfl ?_
              refine cV0v (ci := 2) (q0 := 0) C hN (c_X2_forgetBodies) (cwV 0 hts gX2_begin_X2_forgetBodies rfl rfl rfl (by decide +kernel) ⟨Nat.le_of_ble_eq_true rfl, Nat.le_of_ble_eq_true rfl⟩) rfl rfl rfl rfl dX2_begin_84 ⟨Nat.zero_le _, Nat.zero_le _⟩ (fun u84 q84 => ?_)
              obtain rfl := q84
              refine aw_iload C dX2_begin_87 rfl ?_
              exact aw_iretX C dX2_begin_89 ⟨(by unfold kBeg; first | rw [if_pos (by omega)] | rw [if_neg (by omega), if_pos (by omega)] | rw [if_neg (by omega), if_neg (by omega), if_pos (by omega)] | rw [if_neg (by omega), if_neg (by omega), if_neg (by omega), if_pos (by omega)] | rw [if_neg (by omega), if_neg (by omega), if_neg (by omega), if_neg (by omega)] | rw [if_neg (by omega), if_neg (by omega), if_neg (by omega)] | rw [if_neg (by omega), if_neg (by omega)] | rw [if_neg (by omega)]), rfl, _, rfl⟩
            · exact aw_throw (is := 58) C X9 (by decide +kernel) (hts (.classLink RX2 49 eIAE) (by decide +kernel)) (hts (.initialized eIAE) (by decide +kernel)) (X9.2.1.2.2.2 (58, "store is out of range") (by decide +kernel)) (at_good hts (by decide +kernel) no_IAE X9.2.1.2.1.1 X9.2.1) ok_IAE dX2_begin_52 dX2_begin_55 dX2_begin_56 dX2_begin_58 dX2_begin_61 ⟨rfl, rfl, rfl, rfl⟩ ⟨⟨rfl, (by unfold kBeg; first | rw [if_pos (by omega)] | rw [if_neg (by omega), if_pos (by omega)] | rw [if_neg (by omega), if_neg (by omega), if_pos (by omega)] | rw [if_neg (by omega), if_neg (by omega), if_neg (by omega), if_pos (by omega)] | rw [if_neg (by omega), if_neg (by omega), if_neg (by omega), if_neg (by omega)] | rw [if_neg (by omega), if_neg (by omega), if_neg (by omega)] | rw [if_neg (by omega), if_neg (by omega)] | rw [if_neg (by omega)])⟩, _, rfl⟩
        · exact aw_throw (is := 56) C X9 (by decide +kernel) (hts (.classLink RX2 49 eIAE) (by decide +kernel)) (hts (.initialized eIAE) (by decide +kernel)) (X9.2.1.2.2.2 (56, "depth is out of range") (by decide +kernel)) (at_good hts (by decide +kernel) no_IAE X9.2.1.2.1.1 X9.2.1) ok_IAE dX2_begin_31 dX2_begin_34 dX2_begin_35 dX2_begin_37 dX2_begin_40 ⟨rfl, rfl, rfl, rfl⟩ ⟨⟨rfl, (by unfold kBeg; first | rw [if_pos (by omega)] | rw [if_neg (by omega), if_pos (by omega)] | rw [if_neg (by omega), if_neg (by omega), if_pos (by omega)] | rw [if_neg (by omega), if_neg (by omega), if_neg (by omega), if_pos (by omega)] | rw [if_neg (by omega), if_neg (by omega), if_neg (by omega), if_neg (by omega)] | rw [if_neg (by omega), if_neg (by omega), if_neg (by omega)] | rw [if_neg (by omega), if_neg (by omega)] | rw [if_neg (by omega)])⟩, _, rfl⟩
    · exact aw_throw (is := 51) C X9 (by decide +kernel) (hts (.classLink RX2 49 eIAE) (by decide +kernel)) (hts (.initialized eIAE) (by decide +kernel)) (X9.2.1.2.2.2 (51, "lanes is out of range") (by decide +kernel)) (at_good hts (by decide +kernel) no_IAE X9.2.1.2.1.1 X9.2.1) ok_IAE dX2_begin_10 dX2_begin_13 dX2_begin_14 dX2_begin_16 dX2_begin_19 ⟨rfl, rfl, rfl, rfl⟩ ⟨⟨rfl, (by unfold kBeg; first | rw [if_pos (by omega)] | rw [if_neg (by omega), if_pos (by omega)] | rw [if_neg (by omega), if_neg (by omega), if_pos (by omega)] | rw [if_neg (by omega), if_neg (by omega), if_neg (by omega), if_pos (by omega)] | rw [if_neg (by omega), if_neg (by omega), if_neg (by omega), if_neg (by omega)] | rw [if_neg (by omega), if_neg (by omega), if_neg (by omega)] | rw [if_neg (by omega), if_neg (by omega)] | rw [if_neg (by omega)])⟩, _, rfl⟩
set_option maxHeartbeats 4000000 in
set_option maxRecDepth 100000 in
theorem c_X2_arriveIn {l : Launch} (hl : l.stackTraces = false) {G : va_G × (Nat → ClassId)} {sa : Nat → Nat} {ad : Nat → Nat} {S P : St} (hI : Inv S) {v i : Int} (hv : -2147483648 ≤ v ∧ v < 2147483648) (hi : -2147483648 ≤ i ∧ i < 2147483648) : Xi l G sa yX2_arriveIn wsX2_arriveIn ({ frames := 6, cells := 1, slots := 6, locals := 90 } : Room) [.ref (ad 0), .int (zI v), .int (zI i)] (WX G.2 ad S P) (fun r u => kArI S v i = 0 ∧ r = S.1 5 ∧ ∃ P9 : St, u = WX G.2 ad (sArI S v i) P9) (fun E u => ((E = eIAE ∧ kArI S v i = 1) ∨ (E = eIOB ∧ kArI S v i = 2) ∨ (E = eISE ∧ kArI S v i = 3)) ∧ ∃ P9 : St, u = WX G.2 ad S P9) := by
  refine Xi.of (own := RX2) (cc := cX2_arriveIn) (maxL := 4) (ret := (some .int)) hl (by decide) rfl rfl rfl ?_
  intro p e s m args below meth c A C hN X9
  have hts := C.2.2.2.2.1
  have iFX2 : ∀ w ∈ u_ws RX2 TX2 17, w ∈ wsX2_arriveIn := by decide +kernel
  have k_60 := hts (.fieldLink RX2 60 "PaintSequencer" "bodies" "I") (by decide +kernel)
  obtain ⟨hn, hz, hr, hc, hp, ha, hq, ht⟩ := id hI
  have hL9 : 1 ≤ S.1 0 ∧ S.1 0 ≤ 5 := by omega
  have hB9 : 0 ≤ S.1 5 ∧ S.1 5 ≤ 99 := by omega
  refine aw_iload_n C dX2_arriveIn_0 rfl ?_
  refine cS1i C hN (c_X2_isColour hv) (va_cwS 1 hts gX2_arriveIn_X2_isColour rfl rfl rfl (by decide +kernel) ⟨Nat.le_of_ble_eq_true rfl, Nat.le_of_ble_eq_true rfl⟩) rfl dX2_arriveIn_1 ⟨Nat.zero_le _, Nat.zero_le _⟩ (fun r1 u1 q1 => ?_)
  obtain ⟨rfl, rfl⟩ := q1
  refine aw_if_ne (tgt := 17) C dX2_arriveIn_4 (by decide) (by split <;> omega) (fun c4 => ?_) (fun c4 => ?_)
  · have d4 := ite_t c4
    refine aw_aload_n C dX2_arriveIn_17 rfl ?_
    refine aw_iload_n C dX2_arriveIn_18 rfl ?_
    refine cV1i (ci := 2) (q0 := 0) C hN (c_X2_isLane hL9 hi) (cwV 1 hts gX2_arriveIn_X2_isLane rfl rfl rfl (by decide +kernel) ⟨Nat.le_of_ble_eq_true rfl, Nat.le_of_ble_eq_true rfl⟩) rfl rfl rfl rfl dX2_arriveIn_19 ⟨Nat.zero_le _, Nat.zero_le _⟩ (fun r19 u19 q19 => ?_)
    obtain ⟨rfl, rfl⟩ := q19
    refine aw_if_ne (tgt := 35) C dX2_arriveIn_22 (by decide) (by split <;> omega) (fun c22 => ?_) (fun c22 => ?_)
    · have d22 := ite_t c22
      refine aw_aload_n C dX2_arriveIn_35 rfl ?_
      refine aw_get (q0 := 0) (k := 11) C iFX2 k_60 rfl rfl rfl rfl dX2_arriveIn_36 ?_
      refine aw_bipush C dX2_arriveIn_39 rfl ?_
      refine aw_icmp_lt (tgt := 54) C dX2_arriveIn_41 (by decide) (by omega) (by omega) (fun c41 => ?_) (fun c41 => ?_)
      · have h8 := hz i (by omega) (by omega)
        refine aw_aload_n C dX2_arriveIn_54 rfl ?_
        refine aw_iload_n C dX2_arriveIn_55 rfl ?_
        refine cV1i (ci := 2) (q0 := 0) C hN (c_X2_hasRoom (by omega) (by omega) (by omega) (by omega)) (cwV 1 hts gX2_arriveIn_X2_hasRoom rfl rfl rfl (by decide +kernel) ⟨Nat.le_of_ble_eq_true rfl, Nat.le_of_ble_eq_true rfl⟩) rfl rfl rfl rfl dX2_arriveIn_56 ⟨Nat.zero_le _, Nat.zero_le _⟩ (fun r56 u56 q56 => ?_)
        obtain ⟨rfl, rfl⟩ := q56
        refine aw_if_ne (tgt := 72) C dX2_arriveIn_59 (by decide) (by split <;> omega) (fun c59 => ?_) (fun c59 => ?_)
        · have d59 := ite_t c59
          refine aw_aload_n C dX2_arriveIn_72 rfl ?_
          refine aw_iload_n C dX2_arriveIn_73 rfl ?_
          refine cV1i (ci := 2) (q0 := 0) C hN (c_X2_newBody (by omega)) (cwV 1 hts gX2_arriveIn_X2_newBody rfl rfl rfl (by decide +kernel) ⟨Nat.le_of_ble_eq_true rfl, Nat.le_of_ble_eq_true rfl⟩) rfl rfl rfl rfl dX2_arriveIn_74 ⟨Nat.zero_le _, Nat.zero_le _⟩ (fun r74 u74 q74 => ?_)
          obtain ⟨rfl, rfl⟩ := q74
          refine aw_istore_n C dX2_arriveIn_77 rfl rfl ?_
          refine aw_aload_n C dX2_arriveIn_78 rfl ?_
          refine aw_iload_n C dX2_arriveIn_79 rfl ?_
          refine aw_iload_n C dX2_arriveIn_80 rfl ?_
          refine cV2v (ci := 2) (q0 := 0) C hN (c_X2_putInto (by exact hL9) (by omega) (by omega) (by rw [newS_2]; omega) (by omega)) (cwV 2 hts gX2_arriveIn_X2_putInto rfl rfl rfl (by decide +kernel) ⟨Nat.le_of_ble_eq_true rfl, Nat.le_of_ble_eq_true rfl⟩) rfl rfl rfl rfl dX2_arriveIn_81 ⟨Nat.zero_le _, Nat.zero_le _⟩ (fun u81 q81 => ?_)
          obtain rfl := q81
          refine aw_iload_n C dX2_arriveIn_84 rfl ?_
          exact aw_iretX C dX2_arriveIn_85 ⟨(by unfold kArI; first | rw [if_pos (by omega)] | rw [if_neg (by omega), if_pos (by omega)] | rw [if_neg (by omega), if_neg (by omega), if_pos (by omega)] | rw [if_neg (by omega), if_neg (by omega), if_neg (by omega), if_pos (by omega)] | rw [if_neg (by omega), if_neg (by omega), if_neg (by omega), if_neg (by omega)] | rw [if_neg (by omega), if_neg (by omega), if_neg (by omega)] | rw [if_neg (by omega), if_neg (by omega)] | rw [if_neg (by omega)]), rfl, _, rfl⟩
        · have d59 := ite_f c59
          exact aw_throw (is := 111) C X9 (by decide +kernel) (hts (.classLink RX2 82 eISE) (by decide +kernel)) (hts (.initialized eISE) (by decide +kernel)) (X9.2.1.2.2.2 (111, "the lane has no room") (by decide +kernel)) (at_good hts (by decide +kernel) no_ISE X9.2.1.2.1.2.1 X9.2.1) ok_ISE dX2_arriveIn_62 dX2_arriveIn_65 dX2_arriveIn_66 dX2_arriveIn_68 dX2_arriveIn_71 ⟨rfl, rfl, rfl, rfl⟩ ⟨(Or.inr (Or.inr ⟨rfl, (by unfold kArI; first | rw [if_pos (by omega)] | rw [if_neg (by omega), if_pos (by omega)] | rw [if_neg (by omega), if_neg (by omega), if_pos (by omega)] | rw [if_neg (by omega), if_neg (by omega), if_neg (by omega), if_pos (by omega)] | rw [if_neg (by omega), if_neg (by omega), if_neg (by omega), if_neg (by omega)] | rw [if_neg (by omega), if_neg (by omega), if_neg (by omega)] | rw [if_neg (by omega), if_neg (by omega)] | rw [if_neg (by omega)])⟩)), _, rfl⟩
      · exact aw_throw (is := 84) C X9 (by decide +kernel) (hts (.classLink RX2 82 eISE) (by decide +kernel)) (hts (.initialized eISE) (by decide +kernel)) (X9.2.1.2.2.2 (84, "there were 99 bodies") (by decide +kernel)) (at_good hts (by decide +kernel) no_ISE X9.2.1.2.1.2.1 X9.2.1) ok_ISE dX2_arriveIn_44 dX2_arriveIn_47 dX2_arriveIn_48 dX2_arriveIn_50 dX2_arriveIn_53 ⟨rfl, rfl, rfl, rfl⟩ ⟨(Or.inr (Or.inr ⟨rfl, (by unfold kArI; first | rw [if_pos (by omega)] | rw [if_neg (by omega), if_pos (by omega)] | rw [if_neg (by omega), if_neg (by omega), if_pos (by omega)] | rw [if_neg (by omega), if_neg (by omega), if_neg (by omega), if_pos (by omega)] | rw [if_neg (by omega), if_neg (by omega), if_neg (by omega), if_neg (by omega)] | rw [if_neg (by omega), if_neg (by omega), if_neg (by omega)] | rw [if_neg (by omega), if_neg (by omega)] | rw [if_neg (by omega)])⟩)), _, rfl⟩
    · have d22 := ite_f c22
      exact aw_throw (is := 105) C X9 (by decide +kernel) (hts (.classLink RX2 103 eIOB) (by decide +kernel)) (hts (.initialized eIOB) (by decide +kernel)) (X9.2.1.2.2.2 (105, "there is no such lane") (by decide +kernel)) (at_good hts (by decide +kernel) no_IOB X9.2.1.2.1.2.2 X9.2.1) ok_IOB dX2_arriveIn_25 dX2_arriveIn_28 dX2_arriveIn_29 dX2_arriveIn_31 dX2_arriveIn_34 ⟨rfl, rfl, rfl, rfl⟩ ⟨(Or.inr (Or.inl ⟨rfl, (by unfold kArI; first | rw [if_pos (by omega)] | rw [if_neg (by omega), if_pos (by omega)] | rw [if_neg (by omega), if_neg (by omega), if_pos (by omega)] | rw [if_neg (by omega), if_neg (by omega), if_neg (by omega), if_pos (by omega)] | rw [if_neg (by omega), if_neg (by omega), if_neg (by omega), if_neg (by omega)] | rw [if_neg (by omega), if_neg (by omega), if_neg (by omega)] | rw [if_neg (by omega), if_neg (by omega)] | rw [if_neg (by omega)])⟩)), _, rfl⟩
  · have d4 := ite_f c4
    exact aw_throw (is := 80) C X9 (by decide +kernel) (hts (.classLink RX2 49 eIAE) (by decide +kernel)) (hts (.initialized eIAE) (by decide +kernel)) (X9.2.1.2.2.2 (80, "colour is out of range") (by decide +kernel)) (at_good hts (by decide +kernel) no_IAE X9.2.1.2.1.1 X9.2.1) ok_IAE dX2_arriveIn_7 dX2_arriveIn_10 dX2_arriveIn_11 dX2_arriveIn_13 dX2_arriveIn_16 ⟨rfl, rfl, rfl, rfl⟩ ⟨Or.inl ⟨rfl, (by unfold kArI; first | rw [if_pos (by omega)] | rw [if_neg (by omega), if_pos (by omega)] | rw [if_neg (by omega), if_neg (by omega), if_pos (by omega)] | rw [if_neg (by omega), if_neg (by omega), if_neg (by omega), if_pos (by omega)] | rw [if_neg (by omega), if_neg (by omega), if_neg (by omega), if_neg (by omega)] | rw [if_neg (by omega), if_neg (by omega), if_neg (by omega)] | rw [if_neg (by omega), if_neg (by omega)] | rw [if_neg (by omega)])⟩, _, rfl⟩
set_option maxHeartbeats 4000000 in
set_option maxRecDepth 100000 in
theorem c_X2_releaseFrom {l : Launch} (hl : l.stackTraces = false) {G : va_G × (Nat → ClassId)} {sa : Nat → Nat} {ad : Nat → Nat} {S P : St} (hI : Inv S) {i : Int} (hi : -2147483648 ≤ i ∧ i < 2147483648) : Xi l G sa yX2_releaseFrom wsX2_releaseFrom ({ frames := 6, cells := 1, slots := 6, locals := 90 } : Room) [.ref (ad 0), .int (zI i)] (WX G.2 ad S P) (fun r u => kReF S i = 0 ∧ r = atS S i 0 ∧ ∃ P9 : St, u = WX G.2 ad (relS S i) P9) (fun E u => ((E = eIOB ∧ kReF S i = 1) ∨ (E = eISE ∧ kReF S i = 2)) ∧ ∃ P9 : St, u = WX G.2 ad S P9) := by
  refine Xi.of (own := RX2) (cc := cX2_releaseFrom) (maxL := 2) (ret := (some .int)) hl (by decide) rfl rfl rfl ?_
  intro p e s m args below meth c A C hN X9
  have hts := C.2.2.2.2.1
  have iFX2 : ∀ w ∈ u_ws RX2 TX2 17, w ∈ wsX2_releaseFrom := by decide +kernel
  have k_11 := hts (.fieldLink RX2 11 "PaintSequencer" "lanes" "[LPaintSequencer$Lane;") (by decide +kernel)
  obtain ⟨hn, hz, hr, hc, hp, ha, hq, ht⟩ := id hI
  have hL9 : 1 ≤ S.1 0 ∧ S.1 0 ≤ 5 := by omega
  have hB9 : 0 ≤ S.1 5 ∧ S.1 5 ≤ 99 := by omega
  refine aw_aload_n C dX2_releaseFrom_0 rfl ?_
  refine aw_iload_n C dX2_releaseFrom_1 rfl ?_
  refine cV1i (ci := 2) (q0 := 0) C hN (c_X2_isLane hL9 hi) (cwV 1 hts gX2_releaseFrom_X2_isLane rfl rfl rfl (by decide +kernel) ⟨Nat.le_of_ble_eq_true rfl, Nat.le_of_ble_eq_true rfl⟩) rfl rfl rfl rfl dX2_releaseFrom_2 ⟨Nat.zero_le _, Nat.zero_le _⟩ (fun r2 u2 q2 => ?_)
  obtain ⟨rfl, rfl⟩ := q2
  refine aw_if_ne (tgt := 18) C dX2_releaseFrom_5 (by decide) (by split <;> omega) (fun c5 => ?_) (fun c5 => ?_)
  · have d5 := ite_t c5
    have h8 := hz i (by omega) (by omega)
    refine aw_aload_n C dX2_releaseFrom_18 rfl ?_
    refine aw_get (q0 := 0) (k := 0) C iFX2 k_11 rfl rfl rfl rfl dX2_releaseFrom_19 ?_
    refine aw_iload_n C dX2_releaseFrom_22 rfl ?_
    refine aw_aldL (q0 := 1) C rfl (by omega) (by omega) rfl rfl dX2_releaseFrom_23 ?_
    refine cV0i (ci := 0)  C hN (c_X0_isEmpty (by omega) (by omega) (by omega)) (cwV 0 hts gX2_releaseFrom_X0_isEmpty rfl rfl rfl (by decide +kernel) ⟨Nat.le_of_ble_eq_true rfl, Nat.le_of_ble_eq_true rfl⟩) rfl rfl (wx_lane (by omega) (by omega)) rfl dX2_releaseFrom_24 ⟨Nat.zero_le _, Nat.zero_le _⟩ (fun r24 u24 q24 => ?_)
    obtain ⟨rfl, rfl⟩ := q24
    refine aw_if_eq (tgt := 40) C dX2_releaseFrom_27 (by decide) (by split <;> omega) (fun c27 => ?_) (fun c27 => ?_)
    · have d27 := ite_f c27
      refine aw_aload_n C dX2_releaseFrom_40 rfl ?_
      refine cV0i (ci := 2) (q0 := 0) C hN (c_X2_storeIsFull hI) (cwV 0 hts gX2_releaseFrom_X2_storeIsFull rfl rfl rfl (by decide +kernel) ⟨Nat.le_of_ble_eq_true rfl, Nat.le_of_ble_eq_true rfl⟩) rfl rfl rfl rfl dX2_releaseFrom_41 ⟨Nat.zero_le _, Nat.zero_le _⟩ (fun r41 u41 q41 => ?_)
      obtain ⟨rfl, rfl⟩ := q41
      have hcn : cntN (S.2 2) 10 (S.1 5).toNat = cnS S 10 := rfl
      rw [hcn]
      refine aw_if_eq (tgt := 57) C dX2_releaseFrom_44 (by decide) (by split <;> omega) (fun c44 => ?_) (fun c44 => ?_)
      · have d44 := ite_f c44
        refine aw_aload_n C dX2_releaseFrom_57 rfl ?_
        refine aw_iload_n C dX2_releaseFrom_58 rfl ?_
        refine cV1i (ci := 2) (q0 := 0) C hN (c_X2_takeHeadOf hI (by omega) (by omega) (by omega)) (cwV 1 hts gX2_releaseFrom_X2_takeHeadOf rfl rfl rfl (by decide +kernel) ⟨Nat.le_of_ble_eq_true rfl, Nat.le_of_ble_eq_true rfl⟩) rfl rfl rfl rfl dX2_releaseFrom_59 ⟨Nat.zero_le _, Nat.zero_le _⟩ (fun r59 u59 q59 => ?_)
        obtain ⟨rfl, rfl⟩ := q59
        exact aw_iretX C dX2_releaseFrom_62 ⟨(by unfold kReF; first | rw [if_pos (by omega)] | rw [if_neg (by omega), if_pos (by omega)] | rw [if_neg (by omega), if_neg (by omega), if_pos (by omega)] | rw [if_neg (by omega), if_neg (by omega), if_neg (by omega), if_pos (by omega)] | rw [if_neg (by omega), if_neg (by omega), if_neg (by omega), if_neg (by omega)] | rw [if_neg (by omega), if_neg (by omega), if_neg (by omega)] | rw [if_neg (by omega), if_neg (by omega)] | rw [if_neg (by omega)]), rfl, _, rfl⟩
      · have d44 := ite_t c44
        exact aw_throw (is := 117) C X9 (by decide +kernel) (hts (.classLink RX2 82 eISE) (by decide +kernel)) (hts (.initialized eISE) (by decide +kernel)) (X9.2.1.2.2.2 (117, "the store is full") (by decide +kernel)) (at_good hts (by decide +kernel) no_ISE X9.2.1.2.1.2.1 X9.2.1) ok_ISE dX2_releaseFrom_47 dX2_releaseFrom_50 dX2_releaseFrom_51 dX2_releaseFrom_53 dX2_releaseFrom_56 ⟨rfl, rfl, rfl, rfl⟩ ⟨(Or.inr ⟨rfl, (by unfold kReF; first | rw [if_pos (by omega)] | rw [if_neg (by omega), if_pos (by omega)] | rw [if_neg (by omega), if_neg (by omega), if_pos (by omega)] | rw [if_neg (by omega), if_neg (by omega), if_neg (by omega), if_pos (by omega)] | rw [if_neg (by omega), if_neg (by omega), if_neg (by omega), if_neg (by omega)] | rw [if_neg (by omega), if_neg (by omega), if_neg (by omega)] | rw [if_neg (by omega), if_neg (by omega)] | rw [if_neg (by omega)])⟩), _, rfl⟩
    · have d27 := ite_t c27
      exact aw_throw (is := 131) C X9 (by decide +kernel) (hts (.classLink RX2 82 eISE) (by decide +kernel)) (hts (.initialized eISE) (by decide +kernel)) (X9.2.1.2.2.2 (131, "the lane is empty") (by decide +kernel)) (at_good hts (by decide +kernel) no_ISE X9.2.1.2.1.2.1 X9.2.1) ok_ISE dX2_releaseFrom_30 dX2_releaseFrom_33 dX2_releaseFrom_34 dX2_releaseFrom_36 dX2_releaseFrom_39 ⟨rfl, rfl, rfl, rfl⟩ ⟨(Or.inr ⟨rfl, (by unfold kReF; first | rw [if_pos (by omega)] | rw [if_neg (by omega), if_pos (by omega)] | rw [if_neg (by omega), if_neg (by omega), if_pos (by omega)] | rw [if_neg (by omega), if_neg (by omega), if_neg (by omega), if_pos (by omega)] | rw [if_neg (by omega), if_neg (by omega), if_neg (by omega), if_neg (by omega)] | rw [if_neg (by omega), if_neg (by omega), if_neg (by omega)] | rw [if_neg (by omega), if_neg (by omega)] | rw [if_neg (by omega)])⟩), _, rfl⟩
  · have d5 := ite_f c5
    exact aw_throw (is := 105) C X9 (by decide +kernel) (hts (.classLink RX2 103 eIOB) (by decide +kernel)) (hts (.initialized eIOB) (by decide +kernel)) (X9.2.1.2.2.2 (105, "there is no such lane") (by decide +kernel)) (at_good hts (by decide +kernel) no_IOB X9.2.1.2.1.2.2 X9.2.1) ok_IOB dX2_releaseFrom_8 dX2_releaseFrom_11 dX2_releaseFrom_12 dX2_releaseFrom_14 dX2_releaseFrom_17 ⟨rfl, rfl, rfl, rfl⟩ ⟨Or.inl ⟨rfl, (by unfold kReF; first | rw [if_pos (by omega)] | rw [if_neg (by omega), if_pos (by omega)] | rw [if_neg (by omega), if_neg (by omega), if_pos (by omega)] | rw [if_neg (by omega), if_neg (by omega), if_neg (by omega), if_pos (by omega)] | rw [if_neg (by omega), if_neg (by omega), if_neg (by omega), if_neg (by omega)] | rw [if_neg (by omega), if_neg (by omega), if_neg (by omega)] | rw [if_neg (by omega), if_neg (by omega)] | rw [if_neg (by omega)])⟩, _, rfl⟩
set_option maxHeartbeats 4000000 in
set_option maxRecDepth 100000 in
theorem c_X2_releaseBest {l : Launch} (hl : l.stackTraces = false) {G : va_G × (Nat → ClassId)} {sa : Nat → Nat} {ad : Nat → Nat} {S P : St} (hI : Inv S) : Xi l G sa yX2_releaseBest wsX2_releaseBest ({ frames := 6, cells := 1, slots := 6, locals := 116 } : Room) [.ref (ad 0)] (WX G.2 ad S P) (fun r u => kReB S = 0 ∧ r = atS S (blS S) 0 ∧ ∃ P9 : St, u = WX G.2 ad (relS S (blS S)) P9) (fun E u => ((E = eISE ∧ kReB S = 1)) ∧ ∃ P9 : St, u = WX G.2 ad S P9) := by
  refine Xi.of (own := RX2) (cc := cX2_releaseBest) (maxL := 2) (ret := (some .int)) hl (by decide) rfl rfl rfl ?_
  intro p e s m args below meth c A C hN X9
  have hts := C.2.2.2.2.1
  have iFX2 : ∀ w ∈ u_ws RX2 TX2 17, w ∈ wsX2_releaseBest := by decide +kernel
  have k_32 := hts (.fieldLink RX2 32 "PaintSequencer" "plan" "LPaintSequencer$Plan;") (by decide +kernel)
  have k_46 := hts (.fieldLink RX2 46 "PaintSequencer" "latestColour" "I") (by decide +kernel)
  obtain ⟨hn, hz, hr, hc, hp, ha, hq, ht⟩ := id hI
  have hL9 : 1 ≤ S.1 0 ∧ S.1 0 ≤ 5 := by omega
  have hB9 : 0 ≤ S.1 5 ∧ S.1 5 ≤ 99 := by omega
  have h5n := nlS_5 hI
  have z0 := hz 0 (by omega) (by omega)
  have z1 := hz 1 (by omega) (by omega)
  have z2 := hz 2 (by omega) (by omega)
  have z3 := hz 3 (by omega) (by omega)
  have z4 := hz 4 (by omega) (by omega)
  refine aw_aload_n C dX2_releaseBest_0 rfl ?_
  refine cV0i (ci := 2) (q0 := 0) C hN (c_X2_storeIsFull hI) (cwV 0 hts gX2_releaseBest_X2_storeIsFull rfl rfl rfl (by decide +kernel) ⟨Nat.le_of_ble_eq_true rfl, Nat.le_of_ble_eq_true rfl⟩) rfl rfl rfl rfl dX2_releaseBest_1 ⟨Nat.zero_le _, Nat.zero_le _⟩ (fun r1 u1 q1 => ?_)
  obtain ⟨rfl, rfl⟩ := q1
  have hcn : cntN (S.2 2) 10 (S.1 5).toNat = cnS S 10 := rfl
  rw [hcn]
  refine aw_if_eq (tgt := 17) C dX2_releaseBest_4 (by decide) (by split <;> omega) (fun c4 => ?_) (fun c4 => ?_)
  · have d4 := ite_f c4
    refine aw_aload_n C dX2_releaseBest_17 rfl ?_
    refine cV0i (ci := 2) (q0 := 0) C hN (c_X2_countInLanes hI) (cwV 0 hts gX2_releaseBest_X2_countInLanes rfl rfl rfl (by decide +kernel) ⟨Nat.le_of_ble_eq_true rfl, Nat.le_of_ble_eq_true rfl⟩) rfl rfl rfl rfl dX2_releaseBest_18 ⟨Nat.zero_le _, Nat.zero_le _⟩ (fun r18 u18 q18 => ?_)
    obtain ⟨rfl, rfl⟩ := q18
    have hnl : sumN (S.2 0) (S.1 0).toNat = nlS S := rfl
    rw [hnl]
    refine aw_bipush C dX2_releaseBest_21 rfl ?_
    refine aw_icmp_le (tgt := 36) C dX2_releaseBest_23 (by decide) (by omega) (by omega) (fun c23 => ?_) (fun c23 => ?_)
    · refine aw_aload_n C dX2_releaseBest_36 rfl ?_
      refine cV0v (ci := 2) (q0 := 0) C hN (c_X2_copyLanesIntoPlan hI) (cwV 0 hts gX2_releaseBest_X2_copyLanesIntoPlan rfl rfl rfl (by decide +kernel) ⟨Nat.le_of_ble_eq_true rfl, Nat.le_of_ble_eq_true rfl⟩) rfl rfl rfl rfl dX2_releaseBest_37 ⟨Nat.zero_le _, Nat.zero_le _⟩ (fun u37 q37 => ?_)
      obtain ⟨P9, rfl, hpl⟩ := q37
      have hV := plS_V hI hpl (by omega)
      refine aw_aload_n C dX2_releaseBest_40 rfl ?_
      refine aw_get (q0 := 0) (k := 5) C iFX2 k_32 rfl rfl rfl rfl dX2_releaseBest_41 ?_
      refine aw_aload_n C dX2_releaseBest_44 rfl ?_
      refine aw_get (q0 := 0) (k := 14) C iFX2 k_46 rfl rfl rfl rfl dX2_releaseBest_45 ?_
      refine cV1i (ci := 1) (q0 := 16) C hN (c_X1_bestLane hV (by omega)) (cwV 1 hts gX2_releaseBest_X1_bestLane rfl rfl rfl (by decide +kernel) ⟨Nat.le_of_ble_eq_true rfl, Nat.le_of_ble_eq_true rfl⟩) rfl rfl rfl rfl dX2_releaseBest_48 ⟨Nat.zero_le _, Nat.zero_le _⟩ (fun r48 u48 q48 => ?_)
      obtain ⟨rfl, P8, rfl, -⟩ := q48
      rw [blP_S hI hpl (by omega)]
      refine aw_istore_n C dX2_releaseBest_51 rfl rfl ?_
      have h9 := blS_b S
      refine aw_iload_n C dX2_releaseBest_52 rfl ?_
      refine aw_iconst C dX2_releaseBest_53 ?_
      refine aw_icmp_ne (tgt := 67) C dX2_releaseBest_54 (by decide) (by omega) (by omega) (fun c54 => ?_) (fun c54 => ?_)
      · have h8 := blS_pos c54
        have h9 := blS_b S
        refine aw_aload_n C dX2_releaseBest_67 rfl ?_
        refine aw_iload_n C dX2_releaseBest_68 rfl ?_
        refine cV1i (ci := 2) (q0 := 0) C hN (c_X2_takeHeadOf hI (by omega) (by omega) h8) (cwV 1 hts gX2_releaseBest_X2_takeHeadOf rfl rfl rfl (by decide +kernel) ⟨Nat.le_of_ble_eq_true rfl, Nat.le_of_ble_eq_true rfl⟩) rfl rfl rfl rfl dX2_releaseBest_69 ⟨Nat.zero_le _, Nat.zero_le _⟩ (fun r69 u69 q69 => ?_)
        obtain ⟨rfl, rfl⟩ := q69
        exact aw_iretX C dX2_releaseBest_72 ⟨(by unfold kReB; first | rw [if_pos (by omega)] | rw [if_neg (by omega), if_pos (by omega)] | rw [if_neg (by omega), if_neg (by omega), if_pos (by omega)] | rw [if_neg (by omega), if_neg (by omega), if_neg (by omega), if_pos (by omega)] | rw [if_neg (by omega), if_neg (by omega), if_neg (by omega), if_neg (by omega)] | rw [if_neg (by omega), if_neg (by omega), if_neg (by omega)] | rw [if_neg (by omega), if_neg (by omega)] | rw [if_neg (by omega)]), rfl, _, rfl⟩
      · exact aw_throw (is := 123) C X9 (by decide +kernel) (hts (.classLink RX2 82 eISE) (by decide +kernel)) (hts (.initialized eISE) (by decide +kernel)) (X9.2.1.2.2.2 (123, "all lanes are empty") (by decide +kernel)) (at_good hts (by decide +kernel) no_ISE X9.2.1.2.1.2.1 X9.2.1) ok_ISE dX2_releaseBest_57 dX2_releaseBest_60 dX2_releaseBest_61 dX2_releaseBest_63 dX2_releaseBest_66 ⟨rfl, rfl, rfl, rfl⟩ ⟨⟨rfl, (by unfold kReB; first | rw [if_pos (by omega)] | rw [if_neg (by omega), if_pos (by omega)] | rw [if_neg (by omega), if_neg (by omega), if_pos (by omega)] | rw [if_neg (by omega), if_neg (by omega), if_neg (by omega), if_pos (by omega)] | rw [if_neg (by omega), if_neg (by omega), if_neg (by omega), if_neg (by omega)] | rw [if_neg (by omega), if_neg (by omega), if_neg (by omega)] | rw [if_neg (by omega), if_neg (by omega)] | rw [if_neg (by omega)])⟩, _, rfl⟩
    · exact aw_throw (is := 136) C X9 (by decide +kernel) (hts (.classLink RX2 82 eISE) (by decide +kernel)) (hts (.initialized eISE) (by decide +kernel)) (X9.2.1.2.2.2 (136, "there are more than 12 bodies in lanes") (by decide +kernel)) (at_good hts (by decide +kernel) no_ISE X9.2.1.2.1.2.1 X9.2.1) ok_ISE dX2_releaseBest_26 dX2_releaseBest_29 dX2_releaseBest_30 dX2_releaseBest_32 dX2_releaseBest_35 ⟨rfl, rfl, rfl, rfl⟩ ⟨⟨rfl, (by unfold kReB; first | rw [if_pos (by omega)] | rw [if_neg (by omega), if_pos (by omega)] | rw [if_neg (by omega), if_neg (by omega), if_pos (by omega)] | rw [if_neg (by omega), if_neg (by omega), if_neg (by omega), if_pos (by omega)] | rw [if_neg (by omega), if_neg (by omega), if_neg (by omega), if_neg (by omega)] | rw [if_neg (by omega), if_neg (by omega), if_neg (by omega)] | rw [if_neg (by omega), if_neg (by omega)] | rw [if_neg (by omega)])⟩, _, rfl⟩
  · have d4 := ite_t c4
    exact aw_throw (is := 117) C X9 (by decide +kernel) (hts (.classLink RX2 82 eISE) (by decide +kernel)) (hts (.initialized eISE) (by decide +kernel)) (X9.2.1.2.2.2 (117, "the store is full") (by decide +kernel)) (at_good hts (by decide +kernel) no_ISE X9.2.1.2.1.2.1 X9.2.1) ok_ISE dX2_releaseBest_7 dX2_releaseBest_10 dX2_releaseBest_11 dX2_releaseBest_13 dX2_releaseBest_16 ⟨rfl, rfl, rfl, rfl⟩ ⟨⟨rfl, (by unfold kReB; first | rw [if_pos (by omega)] | rw [if_neg (by omega), if_pos (by omega)] | rw [if_neg (by omega), if_neg (by omega), if_pos (by omega)] | rw [if_neg (by omega), if_neg (by omega), if_neg (by omega), if_pos (by omega)] | rw [if_neg (by omega), if_neg (by omega), if_neg (by omega), if_neg (by omega)] | rw [if_neg (by omega), if_neg (by omega), if_neg (by omega)] | rw [if_neg (by omega), if_neg (by omega)] | rw [if_neg (by omega)])⟩, _, rfl⟩
set_option maxHeartbeats 4000000 in
set_option maxRecDepth 100000 in
theorem c_X2_where {l : Launch} (hl : l.stackTraces = false) {G : va_G × (Nat → ClassId)} {sa : Nat → Nat} {ad : Nat → Nat} {S P : St} (hI : Inv S) {b : Int} (hb : -2147483648 ≤ b ∧ b < 2147483648) : Xi l G sa yX2_where wsX2_where ({ frames := 6, cells := 1, slots := 6, locals := 90 } : Room) [.ref (ad 0), .int (zI b)] (WX G.2 ad S P) (fun r u => kBod S b = 0 ∧ r = S.2 2 b ∧ ∃ P9 : St, u = WX G.2 ad S P9) (fun E u => ((E = eIOB ∧ kBod S b = 1)) ∧ ∃ P9 : St, u = WX G.2 ad S P9) := by
  refine Xi.of (own := RX2) (cc := cX2_where) (maxL := 2) (ret := (some .int)) hl (by decide) rfl rfl rfl ?_
  intro p e s m args below meth c A C hN X9
  have hts := C.2.2.2.2.1
  have iFX2 : ∀ w ∈ u_ws RX2 TX2 17, w ∈ wsX2_where := by decide +kernel
  have k_20 := hts (.fieldLink RX2 20 "PaintSequencer" "places" "[I") (by decide +kernel)
  obtain ⟨hn, hz, hr, hc, hp, ha, hq, ht⟩ := id hI
  have hL9 : 1 ≤ S.1 0 ∧ S.1 0 ≤ 5 := by omega
  have hB9 : 0 ≤ S.1 5 ∧ S.1 5 ≤ 99 := by omega
  refine aw_aload_n C dX2_where_0 rfl ?_
  refine aw_iload_n C dX2_where_1 rfl ?_
  refine cV1i (ci := 2) (q0 := 0) C hN (c_X2_isBody hB9 hb) (cwV 1 hts gX2_where_X2_isBody rfl rfl rfl (by decide +kernel) ⟨Nat.le_of_ble_eq_true rfl, Nat.le_of_ble_eq_true rfl⟩) rfl rfl rfl rfl dX2_where_2 ⟨Nat.zero_le _, Nat.zero_le _⟩ (fun r2 u2 q2 => ?_)
  obtain ⟨rfl, rfl⟩ := q2
  refine aw_if_ne (tgt := 18) C dX2_where_5 (by decide) (by split <;> omega) (fun c5 => ?_) (fun c5 => ?_)
  · have d5 := ite_t c5
    refine aw_aload_n C dX2_where_18 rfl ?_
    refine aw_get (q0 := 0) (k := 2) C iFX2 k_20 rfl rfl rfl rfl dX2_where_19 ?_
    refine aw_iload_n C dX2_where_22 rfl ?_
    refine aw_ldI (q0 := 13) C rfl (by omega) (by omega) rfl dX2_where_23 ?_
    exact aw_iretX C dX2_where_24 ⟨(by unfold kBod; first | rw [if_pos (by omega)] | rw [if_neg (by omega), if_pos (by omega)] | rw [if_neg (by omega), if_neg (by omega), if_pos (by omega)] | rw [if_neg (by omega), if_neg (by omega), if_neg (by omega), if_pos (by omega)] | rw [if_neg (by omega), if_neg (by omega), if_neg (by omega), if_neg (by omega)] | rw [if_neg (by omega), if_neg (by omega), if_neg (by omega)] | rw [if_neg (by omega), if_neg (by omega)] | rw [if_neg (by omega)]), rfl, _, rfl⟩
  · have d5 := ite_f c5
    exact aw_throw (is := 147) C X9 (by decide +kernel) (hts (.classLink RX2 103 eIOB) (by decide +kernel)) (hts (.initialized eIOB) (by decide +kernel)) (X9.2.1.2.2.2 (147, "there is no such body") (by decide +kernel)) (at_good hts (by decide +kernel) no_IOB X9.2.1.2.1.2.2 X9.2.1) ok_IOB dX2_where_8 dX2_where_11 dX2_where_12 dX2_where_14 dX2_where_17 ⟨rfl, rfl, rfl, rfl⟩ ⟨⟨rfl, (by unfold kBod; first | rw [if_pos (by omega)] | rw [if_neg (by omega), if_pos (by omega)] | rw [if_neg (by omega), if_neg (by omega), if_pos (by omega)] | rw [if_neg (by omega), if_neg (by omega), if_neg (by omega), if_pos (by omega)] | rw [if_neg (by omega), if_neg (by omega), if_neg (by omega), if_neg (by omega)] | rw [if_neg (by omega), if_neg (by omega), if_neg (by omega)] | rw [if_neg (by omega), if_neg (by omega)] | rw [if_neg (by omega)])⟩, _, rfl⟩
set_option maxHeartbeats 4000000 in
set_option maxRecDepth 100000 in
theorem c_X2_inLane {l : Launch} (hl : l.stackTraces = false) {G : va_G × (Nat → ClassId)} {sa : Nat → Nat} {ad : Nat → Nat} {S P : St} (hI : Inv S) {i : Int} (hi : -2147483648 ≤ i ∧ i < 2147483648) : Xi l G sa yX2_inLane wsX2_inLane ({ frames := 6, cells := 1, slots := 6, locals := 90 } : Room) [.ref (ad 0), .int (zI i)] (WX G.2 ad S P) (fun r u => kLan S i = 0 ∧ r = S.2 0 i ∧ ∃ P9 : St, u = WX G.2 ad S P9) (fun E u => ((E = eIOB ∧ kLan S i = 1)) ∧ ∃ P9 : St, u = WX G.2 ad S P9) := by
  refine Xi.of (own := RX2) (cc := cX2_inLane) (maxL := 2) (ret := (some .int)) hl (by decide) rfl rfl rfl ?_
  intro p e s m args below meth c A C hN X9
  have hts := C.2.2.2.2.1
  have iFX2 : ∀ w ∈ u_ws RX2 TX2 17, w ∈ wsX2_inLane := by decide +kernel
  have k_11 := hts (.fieldLink RX2 11 "PaintSequencer" "lanes" "[LPaintSequencer$Lane;") (by decide +kernel)
  obtain ⟨hn, hz, hr, hc, hp, ha, hq, ht⟩ := id hI
  have hL9 : 1 ≤ S.1 0 ∧ S.1 0 ≤ 5 := by omega
  have hB9 : 0 ≤ S.1 5 ∧ S.1 5 ≤ 99 := by omega
  refine aw_aload_n C dX2_inLane_0 rfl ?_
  refine aw_iload_n C dX2_inLane_1 rfl ?_
  refine cV1i (ci := 2) (q0 := 0) C hN (c_X2_isLane hL9 hi) (cwV 1 hts gX2_inLane_X2_isLane rfl rfl rfl (by decide +kernel) ⟨Nat.le_of_ble_eq_true rfl, Nat.le_of_ble_eq_true rfl⟩) rfl rfl rfl rfl dX2_inLane_2 ⟨Nat.zero_le _, Nat.zero_le _⟩ (fun r2 u2 q2 => ?_)
  obtain ⟨rfl, rfl⟩ := q2
  refine aw_if_ne (tgt := 18) C dX2_inLane_5 (by decide) (by split <;> omega) (fun c5 => ?_) (fun c5 => ?_)
  · have d5 := ite_t c5
    refine aw_aload_n C dX2_inLane_18 rfl ?_
    refine aw_get (q0 := 0) (k := 0) C iFX2 k_11 rfl rfl rfl rfl dX2_inLane_19 ?_
    refine aw_iload_n C dX2_inLane_22 rfl ?_
    refine aw_aldL (q0 := 1) C rfl (by omega) (by omega) rfl rfl dX2_inLane_23 ?_
    refine cV0i (ci := 0)  C hN (c_X0_count (by omega) (by omega)) (cwV 0 hts gX2_inLane_X0_count rfl rfl rfl (by decide +kernel) ⟨Nat.le_of_ble_eq_true rfl, Nat.le_of_ble_eq_true rfl⟩) rfl rfl (wx_lane (by omega) (by omega)) rfl dX2_inLane_24 ⟨Nat.zero_le _, Nat.zero_le _⟩ (fun r24 u24 q24 => ?_)
    obtain ⟨rfl, rfl⟩ := q24
    exact aw_iretX C dX2_inLane_27 ⟨(by unfold kLan; first | rw [if_pos (by omega)] | rw [if_neg (by omega), if_pos (by omega)] | rw [if_neg (by omega), if_neg (by omega), if_pos (by omega)] | rw [if_neg (by omega), if_neg (by omega), if_neg (by omega), if_pos (by omega)] | rw [if_neg (by omega), if_neg (by omega), if_neg (by omega), if_neg (by omega)] | rw [if_neg (by omega), if_neg (by omega), if_neg (by omega)] | rw [if_neg (by omega), if_neg (by omega)] | rw [if_neg (by omega)]), rfl, _, rfl⟩
  · have d5 := ite_f c5
    exact aw_throw (is := 105) C X9 (by decide +kernel) (hts (.classLink RX2 103 eIOB) (by decide +kernel)) (hts (.initialized eIOB) (by decide +kernel)) (X9.2.1.2.2.2 (105, "there is no such lane") (by decide +kernel)) (at_good hts (by decide +kernel) no_IOB X9.2.1.2.1.2.2 X9.2.1) ok_IOB dX2_inLane_8 dX2_inLane_11 dX2_inLane_12 dX2_inLane_14 dX2_inLane_17 ⟨rfl, rfl, rfl, rfl⟩ ⟨⟨rfl, (by unfold kLan; first | rw [if_pos (by omega)] | rw [if_neg (by omega), if_pos (by omega)] | rw [if_neg (by omega), if_neg (by omega), if_pos (by omega)] | rw [if_neg (by omega), if_neg (by omega), if_neg (by omega), if_pos (by omega)] | rw [if_neg (by omega), if_neg (by omega), if_neg (by omega), if_neg (by omega)] | rw [if_neg (by omega), if_neg (by omega), if_neg (by omega)] | rw [if_neg (by omega), if_neg (by omega)] | rw [if_neg (by omega)])⟩, _, rfl⟩
set_option maxHeartbeats 4000000 in
set_option maxRecDepth 100000 in
theorem c_X2_assembledAt {l : Launch} (hl : l.stackTraces = false) {G : va_G × (Nat → ClassId)} {sa : Nat → Nat} {ad : Nat → Nat} {S P : St} (hI : Inv S) {i : Int} (hi : -2147483648 ≤ i ∧ i < 2147483648) : Xi l G sa yX2_assembledAt wsX2_assembledAt ({ frames := 6, cells := 1, slots := 6, locals := 90 } : Room) [.ref (ad 0), .int (zI i)] (WX G.2 ad S P) (fun r u => kAsA S i = 0 ∧ r = S.2 3 i ∧ ∃ P9 : St, u = WX G.2 ad S P9) (fun E u => ((E = eIOB ∧ kAsA S i = 1)) ∧ ∃ P9 : St, u = WX G.2 ad S P9) := by
  refine Xi.of (own := RX2) (cc := cX2_assembledAt) (maxL := 2) (ret := (some .int)) hl (by decide) rfl rfl rfl ?_
  intro p e s m args below meth c A C hN X9
  have hts := C.2.2.2.2.1
  have iFX2 : ∀ w ∈ u_ws RX2 TX2 17, w ∈ wsX2_assembledAt := by decide +kernel
  have k_161 := hts (.fieldLink RX2 161 "PaintSequencer" "assembled" "I") (by decide +kernel)
  have k_26 := hts (.fieldLink RX2 26 "PaintSequencer" "order" "[I") (by decide +kernel)
  obtain ⟨hn, hz, hr, hc, hp, ha, hq, ht⟩ := id hI
  have hL9 : 1 ≤ S.1 0 ∧ S.1 0 ≤ 5 := by omega
  have hB9 : 0 ≤ S.1 5 ∧ S.1 5 ≤ 99 := by omega
  refine aw_iload_n C dX2_assembledAt_0 rfl ?_
  refine aw_if_lt (tgt := 12) C dX2_assembledAt_1 (by decide) (by omega) (fun c1 => ?_) (fun c1 => ?_)
  · exact aw_throw (is := 181) C X9 (by decide +kernel) (hts (.classLink RX2 103 eIOB) (by decide +kernel)) (hts (.initialized eIOB) (by decide +kernel)) (X9.2.1.2.2.2 (181, "there is no such position so far") (by decide +kernel)) (at_good hts (by decide +kernel) no_IOB X9.2.1.2.1.2.2 X9.2.1) ok_IOB dX2_assembledAt_12 dX2_assembledAt_15 dX2_assembledAt_16 dX2_assembledAt_18 dX2_assembledAt_21 ⟨rfl, rfl, rfl, rfl⟩ ⟨⟨rfl, (by unfold kAsA; first | rw [if_pos (by omega)] | rw [if_neg (by omega), if_pos (by omega)] | rw [if_neg (by omega), if_neg (by omega), if_pos (by omega)] | rw [if_neg (by omega), if_neg (by omega), if_neg (by omega), if_pos (by omega)] | rw [if_neg (by omega), if_neg (by omega), if_neg (by omega), if_neg (by omega)] | rw [if_neg (by omega), if_neg (by omega), if_neg (by omega)] | rw [if_neg (by omega), if_neg (by omega)] | rw [if_neg (by omega)])⟩, _, rfl⟩
  · refine aw_iload_n C dX2_assembledAt_4 rfl ?_
    refine aw_aload_n C dX2_assembledAt_5 rfl ?_
    refine aw_get (q0 := 0) (k := 12) C iFX2 k_161 rfl rfl rfl rfl dX2_assembledAt_6 ?_
    refine aw_icmp_lt (tgt := 22) C dX2_assembledAt_9 (by decide) (by omega) (by omega) (fun c9 => ?_) (fun c9 => ?_)
    · refine aw_aload_n C dX2_assembledAt_22 rfl ?_
      refine aw_get (q0 := 0) (k := 4) C iFX2 k_26 rfl rfl rfl rfl dX2_assembledAt_23 ?_
      refine aw_iload_n C dX2_assembledAt_26 rfl ?_
      refine aw_ldI (q0 := 15) C rfl (by omega) (by omega) rfl dX2_assembledAt_27 ?_
      exact aw_iretX C dX2_assembledAt_28 ⟨(by unfold kAsA; first | rw [if_pos (by omega)] | rw [if_neg (by omega), if_pos (by omega)] | rw [if_neg (by omega), if_neg (by omega), if_pos (by omega)] | rw [if_neg (by omega), if_neg (by omega), if_neg (by omega), if_pos (by omega)] | rw [if_neg (by omega), if_neg (by omega), if_neg (by omega), if_neg (by omega)] | rw [if_neg (by omega), if_neg (by omega), if_neg (by omega)] | rw [if_neg (by omega), if_neg (by omega)] | rw [if_neg (by omega)]), rfl, _, rfl⟩
    · exact aw_throw (is := 181) C X9 (by decide +kernel) (hts (.classLink RX2 103 eIOB) (by decide +kernel)) (hts (.initialized eIOB) (by decide +kernel)) (X9.2.1.2.2.2 (181, "there is no such position so far") (by decide +kernel)) (at_good hts (by decide +kernel) no_IOB X9.2.1.2.1.2.2 X9.2.1) ok_IOB dX2_assembledAt_12 dX2_assembledAt_15 dX2_assembledAt_16 dX2_assembledAt_18 dX2_assembledAt_21 ⟨rfl, rfl, rfl, rfl⟩ ⟨⟨rfl, (by unfold kAsA; first | rw [if_pos (by omega)] | rw [if_neg (by omega), if_pos (by omega)] | rw [if_neg (by omega), if_neg (by omega), if_pos (by omega)] | rw [if_neg (by omega), if_neg (by omega), if_neg (by omega), if_pos (by omega)] | rw [if_neg (by omega), if_neg (by omega), if_neg (by omega), if_neg (by omega)] | rw [if_neg (by omega), if_neg (by omega), if_neg (by omega)] | rw [if_neg (by omega), if_neg (by omega)] | rw [if_neg (by omega)])⟩, _, rfl⟩
set_option maxHeartbeats 4000000 in
set_option maxRecDepth 100000 in
theorem c_X2_lateness {l : Launch} (hl : l.stackTraces = false) {G : va_G × (Nat → ClassId)} {sa : Nat → Nat} {ad : Nat → Nat} {S P : St} (hI : Inv S) {b : Int} (hb : -2147483648 ≤ b ∧ b < 2147483648) : Xi l G sa yX2_lateness wsX2_lateness ({ frames := 6, cells := 1, slots := 6, locals := 90 } : Room) [.ref (ad 0), .int (zI b)] (WX G.2 ad S P) (fun r u => kLat S b = 0 ∧ r = S.2 4 b - b ∧ ∃ P9 : St, u = WX G.2 ad S P9) (fun E u => ((E = eIOB ∧ kLat S b = 1) ∨ (E = eISE ∧ kLat S b = 2)) ∧ ∃ P9 : St, u = WX G.2 ad S P9) := by
  refine Xi.of (own := RX2) (cc := cX2_lateness) (maxL := 2) (ret := (some .int)) hl (by decide) rfl rfl rfl ?_
  intro p e s m args below meth c A C hN X9
  have hts := C.2.2.2.2.1
  have iFX2 : ∀ w ∈ u_ws RX2 TX2 17, w ∈ wsX2_lateness := by decide +kernel
  have k_20 := hts (.fieldLink RX2 20 "PaintSequencer" "places" "[I") (by decide +kernel)
  have k_23 := hts (.fieldLink RX2 23 "PaintSequencer" "positions" "[I") (by decide +kernel)
  obtain ⟨hn, hz, hr, hc, hp, ha, hq, ht⟩ := id hI
  have hL9 : 1 ≤ S.1 0 ∧ S.1 0 ≤ 5 := by omega
  have hB9 : 0 ≤ S.1 5 ∧ S.1 5 ≤ 99 := by omega
  refine aw_aload_n C dX2_lateness_0 rfl ?_
  refine aw_iload_n C dX2_lateness_1 rfl ?_
  refine cV1i (ci := 2) (q0 := 0) C hN (c_X2_isBody hB9 hb) (cwV 1 hts gX2_lateness_X2_isBody rfl rfl rfl (by decide +kernel) ⟨Nat.le_of_ble_eq_true rfl, Nat.le_of_ble_eq_true rfl⟩) rfl rfl rfl rfl dX2_lateness_2 ⟨Nat.zero_le _, Nat.zero_le _⟩ (fun r2 u2 q2 => ?_)
  obtain ⟨rfl, rfl⟩ := q2
  refine aw_if_ne (tgt := 18) C dX2_lateness_5 (by decide) (by split <;> omega) (fun c5 => ?_) (fun c5 => ?_)
  · have d5 := ite_t c5
    have h8 := hp b (by omega) (by omega)
    refine aw_aload_n C dX2_lateness_18 rfl ?_
    refine aw_get (q0 := 0) (k := 2) C iFX2 k_20 rfl rfl rfl rfl dX2_lateness_19 ?_
    refine aw_iload_n C dX2_lateness_22 rfl ?_
    refine aw_ldI (q0 := 13) C rfl (by omega) (by omega) rfl dX2_lateness_23 ?_
    refine aw_bipush C dX2_lateness_24 rfl ?_
    refine aw_icmp_eq (tgt := 39) C dX2_lateness_26 (by decide) (by omega) (by omega) (fun c26 => ?_) (fun c26 => ?_)
    · refine aw_aload_n C dX2_lateness_39 rfl ?_
      refine aw_get (q0 := 0) (k := 3) C iFX2 k_23 rfl rfl rfl rfl dX2_lateness_40 ?_
      refine aw_iload_n C dX2_lateness_43 rfl ?_
      refine aw_ldI (q0 := 14) C rfl (by omega) (by omega) rfl dX2_lateness_44 ?_
      refine aw_iload_n C dX2_lateness_45 rfl ?_
      refine aw_isub C dX2_lateness_46 ?_
      exact aw_iretX C dX2_lateness_47 ⟨(by unfold kLat; first | rw [if_pos (by omega)] | rw [if_neg (by omega), if_pos (by omega)] | rw [if_neg (by omega), if_neg (by omega), if_pos (by omega)] | rw [if_neg (by omega), if_neg (by omega), if_neg (by omega), if_pos (by omega)] | rw [if_neg (by omega), if_neg (by omega), if_neg (by omega), if_neg (by omega)] | rw [if_neg (by omega), if_neg (by omega), if_neg (by omega)] | rw [if_neg (by omega), if_neg (by omega)] | rw [if_neg (by omega)]), rfl, _, rfl⟩
    · exact aw_throw (is := 183) C X9 (by decide +kernel) (hts (.classLink RX2 82 eISE) (by decide +kernel)) (hts (.initialized eISE) (by decide +kernel)) (X9.2.1.2.2.2 (183, "the body is not assembled") (by decide +kernel)) (at_good hts (by decide +kernel) no_ISE X9.2.1.2.1.2.1 X9.2.1) ok_ISE dX2_lateness_29 dX2_lateness_32 dX2_lateness_33 dX2_lateness_35 dX2_lateness_38 ⟨rfl, rfl, rfl, rfl⟩ ⟨(Or.inr ⟨rfl, (by unfold kLat; first | rw [if_pos (by omega)] | rw [if_neg (by omega), if_pos (by omega)] | rw [if_neg (by omega), if_neg (by omega), if_pos (by omega)] | rw [if_neg (by omega), if_neg (by omega), if_neg (by omega), if_pos (by omega)] | rw [if_neg (by omega), if_neg (by omega), if_neg (by omega), if_neg (by omega)] | rw [if_neg (by omega), if_neg (by omega), if_neg (by omega)] | rw [if_neg (by omega), if_neg (by omega)] | rw [if_neg (by omega)])⟩), _, rfl⟩
  · have d5 := ite_f c5
    exact aw_throw (is := 147) C X9 (by decide +kernel) (hts (.classLink RX2 103 eIOB) (by decide +kernel)) (hts (.initialized eIOB) (by decide +kernel)) (X9.2.1.2.2.2 (147, "there is no such body") (by decide +kernel)) (at_good hts (by decide +kernel) no_IOB X9.2.1.2.1.2.2 X9.2.1) ok_IOB dX2_lateness_8 dX2_lateness_11 dX2_lateness_12 dX2_lateness_14 dX2_lateness_17 ⟨rfl, rfl, rfl, rfl⟩ ⟨Or.inl ⟨rfl, (by unfold kLat; first | rw [if_pos (by omega)] | rw [if_neg (by omega), if_pos (by omega)] | rw [if_neg (by omega), if_neg (by omega), if_pos (by omega)] | rw [if_neg (by omega), if_neg (by omega), if_neg (by omega), if_pos (by omega)] | rw [if_neg (by omega), if_neg (by omega), if_neg (by omega), if_neg (by omega)] | rw [if_neg (by omega), if_neg (by omega), if_neg (by omega)] | rw [if_neg (by omega), if_neg (by omega)] | rw [if_neg (by omega)])⟩, _, rfl⟩
set_option maxHeartbeats 4000000 in
set_option maxRecDepth 100000 in
theorem c_X2_fewestChanges {l : Launch} (hl : l.stackTraces = false) {G : va_G × (Nat → ClassId)} {sa : Nat → Nat} {ad : Nat → Nat} {S P : St} (hI : Inv S) : Xi l G sa yX2_fewestChanges wsX2_fewestChanges ({ frames := 6, cells := 1, slots := 6, locals := 93 } : Room) [.ref (ad 0)] (WX G.2 ad S P) (fun r u => kFew S 12 = 0 ∧ r = fwS S (S.1 8) ∧ ∃ P9 : St, u = WX G.2 ad S P9) (fun E u => ((E = eISE ∧ kFew S 12 = 1)) ∧ ∃ P9 : St, u = WX G.2 ad S P9) := by
  refine Xi.of (own := RX2) (cc := cX2_fewestChanges) (maxL := 1) (ret := (some .int)) hl (by decide) rfl rfl rfl ?_
  intro p e s m args below meth c A C hN X9
  have hts := C.2.2.2.2.1
  have iFX2 : ∀ w ∈ u_ws RX2 TX2 17, w ∈ wsX2_fewestChanges := by decide +kernel
  have k_32 := hts (.fieldLink RX2 32 "PaintSequencer" "plan" "LPaintSequencer$Plan;") (by decide +kernel)
  have k_46 := hts (.fieldLink RX2 46 "PaintSequencer" "latestColour" "I") (by decide +kernel)
  obtain ⟨hn, hz, hr, hc, hp, ha, hq, ht⟩ := id hI
  have hL9 : 1 ≤ S.1 0 ∧ S.1 0 ≤ 5 := by omega
  have hB9 : 0 ≤ S.1 5 ∧ S.1 5 ≤ 99 := by omega
  have h5n := nlS_5 hI
  have z0 := hz 0 (by omega) (by omega)
  have z1 := hz 1 (by omega) (by omega)
  have z2 := hz 2 (by omega) (by omega)
  have z3 := hz 3 (by omega) (by omega)
  have z4 := hz 4 (by omega) (by omega)
  refine aw_aload_n C dX2_fewestChanges_0 rfl ?_
  refine cV0i (ci := 2) (q0 := 0) C hN (c_X2_countInLanes hI) (cwV 0 hts gX2_fewestChanges_X2_countInLanes rfl rfl rfl (by decide +kernel) ⟨Nat.le_of_ble_eq_true rfl, Nat.le_of_ble_eq_true rfl⟩) rfl rfl rfl rfl dX2_fewestChanges_1 ⟨Nat.zero_le _, Nat.zero_le _⟩ (fun r1 u1 q1 => ?_)
  obtain ⟨rfl, rfl⟩ := q1
  have hnl : sumN (S.2 0) (S.1 0).toNat = nlS S := rfl
  rw [hnl]
  refine aw_bipush C dX2_fewestChanges_4 rfl ?_
  refine aw_icmp_le (tgt := 19) C dX2_fewestChanges_6 (by decide) (by omega) (by omega) (fun c6 => ?_) (fun c6 => ?_)
  · refine aw_aload_n C dX2_fewestChanges_19 rfl ?_
    refine cV0v (ci := 2) (q0 := 0) C hN (c_X2_copyLanesIntoPlan hI) (cwV 0 hts gX2_fewestChanges_X2_copyLanesIntoPlan rfl rfl rfl (by decide +kernel) ⟨Nat.le_of_ble_eq_true rfl, Nat.le_of_ble_eq_true rfl⟩) rfl rfl rfl rfl dX2_fewestChanges_20 ⟨Nat.zero_le _, Nat.zero_le _⟩ (fun u20 q20 => ?_)
    obtain ⟨P9, rfl, hpl⟩ := q20
    have hV := plS_V hI hpl (by omega)
    refine aw_aload_n C dX2_fewestChanges_23 rfl ?_
    refine aw_get (q0 := 0) (k := 5) C iFX2 k_32 rfl rfl rfl rfl dX2_fewestChanges_24 ?_
    refine aw_aload_n C dX2_fewestChanges_27 rfl ?_
    refine aw_get (q0 := 0) (k := 14) C iFX2 k_46 rfl rfl rfl rfl dX2_fewestChanges_28 ?_
    refine cV1i (ci := 1) (q0 := 16) C hN (c_X1_fewest hV (by omega)) (cwV 1 hts gX2_fewestChanges_X1_fewest rfl rfl rfl (by decide +kernel) ⟨Nat.le_of_ble_eq_true rfl, Nat.le_of_ble_eq_true rfl⟩) rfl rfl rfl rfl dX2_fewestChanges_31 ⟨Nat.zero_le _, Nat.zero_le _⟩ (fun r31 u31 q31 => ?_)
    obtain ⟨rfl, P8, rfl, -⟩ := q31
    exact aw_iretX C dX2_fewestChanges_34 ⟨(by unfold kFew; first | rw [if_pos (by omega)] | rw [if_neg (by omega), if_pos (by omega)] | rw [if_neg (by omega), if_neg (by omega), if_pos (by omega)] | rw [if_neg (by omega), if_neg (by omega), if_neg (by omega), if_pos (by omega)] | rw [if_neg (by omega), if_neg (by omega), if_neg (by omega), if_neg (by omega)] | rw [if_neg (by omega), if_neg (by omega), if_neg (by omega)] | rw [if_neg (by omega), if_neg (by omega)] | rw [if_neg (by omega)]), fwP_S hI hpl (by omega) _, P8, rfl⟩
  · exact aw_throw (is := 136) C X9 (by decide +kernel) (hts (.classLink RX2 82 eISE) (by decide +kernel)) (hts (.initialized eISE) (by decide +kernel)) (X9.2.1.2.2.2 (136, "there are more than 12 bodies in lanes") (by decide +kernel)) (at_good hts (by decide +kernel) no_ISE X9.2.1.2.1.2.1 X9.2.1) ok_ISE dX2_fewestChanges_9 dX2_fewestChanges_12 dX2_fewestChanges_13 dX2_fewestChanges_15 dX2_fewestChanges_18 ⟨rfl, rfl, rfl, rfl⟩ ⟨⟨rfl, (by unfold kFew; first | rw [if_pos (by omega)] | rw [if_neg (by omega), if_pos (by omega)] | rw [if_neg (by omega), if_neg (by omega), if_pos (by omega)] | rw [if_neg (by omega), if_neg (by omega), if_neg (by omega), if_pos (by omega)] | rw [if_neg (by omega), if_neg (by omega), if_neg (by omega), if_neg (by omega)] | rw [if_neg (by omega), if_neg (by omega), if_neg (by omega)] | rw [if_neg (by omega), if_neg (by omega)] | rw [if_neg (by omega)])⟩, _, rfl⟩
set_option maxHeartbeats 4000000 in
set_option maxRecDepth 100000 in
theorem c_X2_fewestByAll {l : Launch} (hl : l.stackTraces = false) {G : va_G × (Nat → ClassId)} {sa : Nat → Nat} {ad : Nat → Nat} {S P : St} (hI : Inv S) : Xi l G sa yX2_fewestByAll wsX2_fewestByAll ({ frames := 11, cells := 1, slots := 6, locals := 305 } : Room) [.ref (ad 0)] (WX G.2 ad S P) (fun r u => kFew S 8 = 0 ∧ r = fwS S (S.1 8) ∧ ∃ P9 : St, u = WX G.2 ad S P9) (fun E u => ((E = eISE ∧ kFew S 8 = 1)) ∧ ∃ P9 : St, u = WX G.2 ad S P9) := by
  refine Xi.of (own := RX2) (cc := cX2_fewestByAll) (maxL := 1) (ret := (some .int)) hl (by decide) rfl rfl rfl ?_
  intro p e s m args below meth c A C hN X9
  have hts := C.2.2.2.2.1
  have iFX2 : ∀ w ∈ u_ws RX2 TX2 17, w ∈ wsX2_fewestByAll := by decide +kernel
  have k_32 := hts (.fieldLink RX2 32 "PaintSequencer" "plan" "LPaintSequencer$Plan;") (by decide +kernel)
  have k_46 := hts (.fieldLink RX2 46 "PaintSequencer" "latestColour" "I") (by decide +kernel)
  obtain ⟨hn, hz, hr, hc, hp, ha, hq, ht⟩ := id hI
  have hL9 : 1 ≤ S.1 0 ∧ S.1 0 ≤ 5 := by omega
  have hB9 : 0 ≤ S.1 5 ∧ S.1 5 ≤ 99 := by omega
  have h5n := nlS_5 hI
  have z0 := hz 0 (by omega) (by omega)
  have z1 := hz 1 (by omega) (by omega)
  have z2 := hz 2 (by omega) (by omega)
  have z3 := hz 3 (by omega) (by omega)
  have z4 := hz 4 (by omega) (by omega)
  refine aw_aload_n C dX2_fewestByAll_0 rfl ?_
  refine cV0i (ci := 2) (q0 := 0) C hN (c_X2_countInLanes hI) (cwV 0 hts gX2_fewestByAll_X2_countInLanes rfl rfl rfl (by decide +kernel) ⟨Nat.le_of_ble_eq_true rfl, Nat.le_of_ble_eq_true rfl⟩) rfl rfl rfl rfl dX2_fewestByAll_1 ⟨Nat.zero_le _, Nat.zero_le _⟩ (fun r1 u1 q1 => ?_)
  obtain ⟨rfl, rfl⟩ := q1
  have hnl : sumN (S.2 0) (S.1 0).toNat = nlS S := rfl
  rw [hnl]
  refine aw_bipush C dX2_fewestByAll_4 rfl ?_
  refine aw_icmp_le (tgt := 19) C dX2_fewestByAll_6 (by decide) (by omega) (by omega) (fun c6 => ?_) (fun c6 => ?_)
  · refine aw_aload_n C dX2_fewestByAll_19 rfl ?_
    refine cV0v (ci := 2) (q0 := 0) C hN (c_X2_copyLanesIntoPlan hI) (cwV 0 hts gX2_fewestByAll_X2_copyLanesIntoPlan rfl rfl rfl (by decide +kernel) ⟨Nat.le_of_ble_eq_true rfl, Nat.le_of_ble_eq_true rfl⟩) rfl rfl rfl rfl dX2_fewestByAll_20 ⟨Nat.zero_le _, Nat.zero_le _⟩ (fun u20 q20 => ?_)
    obtain ⟨P9, rfl, hpl⟩ := q20
    have hV := plS_V hI hpl (by omega)
    refine aw_aload_n C dX2_fewestByAll_23 rfl ?_
    refine aw_get (q0 := 0) (k := 5) C iFX2 k_32 rfl rfl rfl rfl dX2_fewestByAll_24 ?_
    refine aw_aload_n C dX2_fewestByAll_27 rfl ?_
    refine aw_get (q0 := 0) (k := 14) C iFX2 k_46 rfl rfl rfl rfl dX2_fewestByAll_28 ?_
    refine cV1i (ci := 1) (q0 := 16) C hN (c_X1_fewestOfAllOrders hV (by rw [hpl.1 0 (by omega) (by omega), hpl.1 1 (by omega) (by omega), hpl.1 2 (by omega) (by omega), hpl.1 3 (by omega) (by omega), hpl.1 4 (by omega) (by omega)]; omega) (by omega)) (cwV 1 hts gX2_fewestByAll_X1_fewestOfAllOrders rfl rfl rfl (by decide +kernel) ⟨Nat.le_of_ble_eq_true rfl, Nat.le_of_ble_eq_true rfl⟩) rfl rfl rfl rfl dX2_fewestByAll_31 ⟨Nat.zero_le _, Nat.zero_le _⟩ (fun r31 u31 q31 => ?_)
    obtain ⟨rfl, P8, rfl⟩ := q31
    exact aw_iretX C dX2_fewestByAll_34 ⟨(by unfold kFew; first | rw [if_pos (by omega)] | rw [if_neg (by omega), if_pos (by omega)] | rw [if_neg (by omega), if_neg (by omega), if_pos (by omega)] | rw [if_neg (by omega), if_neg (by omega), if_neg (by omega), if_pos (by omega)] | rw [if_neg (by omega), if_neg (by omega), if_neg (by omega), if_neg (by omega)] | rw [if_neg (by omega), if_neg (by omega), if_neg (by omega)] | rw [if_neg (by omega), if_neg (by omega)] | rw [if_neg (by omega)]), fwP_S hI hpl (by omega) _, P8, rfl⟩
  · exact aw_throw (is := 188) C X9 (by decide +kernel) (hts (.classLink RX2 82 eISE) (by decide +kernel)) (hts (.initialized eISE) (by decide +kernel)) (X9.2.1.2.2.2 (188, "there are more than 8 bodies in lanes") (by decide +kernel)) (at_good hts (by decide +kernel) no_ISE X9.2.1.2.1.2.1 X9.2.1) ok_ISE dX2_fewestByAll_9 dX2_fewestByAll_12 dX2_fewestByAll_13 dX2_fewestByAll_15 dX2_fewestByAll_18 ⟨rfl, rfl, rfl, rfl⟩ ⟨⟨rfl, (by unfold kFew; first | rw [if_pos (by omega)] | rw [if_neg (by omega), if_pos (by omega)] | rw [if_neg (by omega), if_neg (by omega), if_pos (by omega)] | rw [if_neg (by omega), if_neg (by omega), if_neg (by omega), if_pos (by omega)] | rw [if_neg (by omega), if_neg (by omega), if_neg (by omega), if_neg (by omega)] | rw [if_neg (by omega), if_neg (by omega), if_neg (by omega)] | rw [if_neg (by omega), if_neg (by omega)] | rw [if_neg (by omega)])⟩, _, rfl⟩
set_option maxHeartbeats 4000000 in
set_option maxRecDepth 100000 in
theorem c_X2_assemble {l : Launch} (hl : l.stackTraces = false) {G : va_G × (Nat → ClassId)} {sa : Nat → Nat} {ad : Nat → Nat} {S P : St} (hI : Inv S) : Xi l G sa yX2_assemble wsX2_assemble ({ frames := 6, cells := 1, slots := 6, locals := 90 } : Room) [.ref (ad 0)] (WX G.2 ad S P) (fun r u => kAsm S = 0 ∧ r = lbS S ∧ ∃ P9 : St, u = WX G.2 ad (asmS S (lbS S)) P9) (fun E u => ((E = eISE ∧ kAsm S = 1)) ∧ ∃ P9 : St, u = WX G.2 ad S P9) := by
  refine Xi.of (own := RX2) (cc := cX2_assemble) (maxL := 2) (ret := (some .int)) hl (by decide) rfl rfl rfl ?_
  intro p e s m args below meth c A C hN X9
  have hts := C.2.2.2.2.1
  have iFX2 : ∀ w ∈ u_ws RX2 TX2 17, w ∈ wsX2_assemble := by decide +kernel
  have k_20 := hts (.fieldLink RX2 20 "PaintSequencer" "places" "[I") (by decide +kernel)
  have k_23 := hts (.fieldLink RX2 23 "PaintSequencer" "positions" "[I") (by decide +kernel)
  have k_161 := hts (.fieldLink RX2 161 "PaintSequencer" "assembled" "I") (by decide +kernel)
  have k_26 := hts (.fieldLink RX2 26 "PaintSequencer" "order" "[I") (by decide +kernel)
  obtain ⟨hn, hz, hr, hc, hp, ha, hq, ht⟩ := id hI
  have hL9 : 1 ≤ S.1 0 ∧ S.1 0 ≤ 5 := by omega
  have hB9 : 0 ≤ S.1 5 ∧ S.1 5 ≤ 99 := by omega
  refine aw_aload_n C dX2_assemble_0 rfl ?_
  refine cV0i (ci := 2) (q0 := 0) C hN (c_X2_lowestInStore hI) (cwV 0 hts gX2_assemble_X2_lowestInStore rfl rfl rfl (by decide +kernel) ⟨Nat.le_of_ble_eq_true rfl, Nat.le_of_ble_eq_true rfl⟩) rfl rfl rfl rfl dX2_assemble_1 ⟨Nat.zero_le _, Nat.zero_le _⟩ (fun r1 u1 q1 => ?_)
  obtain ⟨rfl, rfl⟩ := q1
  have hlb : fstB (fun b => decide (S.2 2 b = 10)) (S.1 5).toNat = lbS S := rfl
  rw [hlb]
  have h9 := fstB_b (fun b => decide (S.2 2 b = 10)) (S.1 5).toNat
  rw [hlb] at h9
  refine aw_istore_n C dX2_assemble_4 rfl rfl ?_
  refine aw_iload_n C dX2_assemble_5 rfl ?_
  refine aw_iconst C dX2_assemble_6 ?_
  refine aw_icmp_ne (tgt := 20) C dX2_assemble_7 (by decide) (by omega) (by omega) (fun c7 => ?_) (fun c7 => ?_)
  · have h8 : S.2 2 (lbS S) = 10 := of_decide_eq_true (fstB_ok c7)
    have h7 := asm_lt hI (b := lbS S) (by omega) (by omega) (by omega)
    refine aw_aload_n C dX2_assemble_20 rfl ?_
    refine aw_get (q0 := 0) (k := 2) C iFX2 k_20 rfl rfl rfl rfl dX2_assemble_21 ?_
    refine aw_iload_n C dX2_assemble_24 rfl ?_
    refine aw_bipush C dX2_assemble_25 rfl ?_
    refine aw_stI (q0 := 13) C rfl (by omega) (by omega) rfl (wx_a13 _ _ _ _ _ _) dX2_assemble_27 ?_
    refine aw_aload_n C dX2_assemble_28 rfl ?_
    refine aw_get (q0 := 0) (k := 3) C iFX2 k_23 rfl rfl rfl rfl dX2_assemble_29 ?_
    refine aw_iload_n C dX2_assemble_32 rfl ?_
    refine aw_aload_n C dX2_assemble_33 rfl ?_
    refine aw_get (q0 := 0) (k := 12) C iFX2 k_161 rfl rfl rfl rfl dX2_assemble_34 ?_
    refine aw_top (y := S.1 6) rfl ?_
    refine aw_stI (q0 := 14) C rfl (by omega) (by omega) rfl (wx_a14 _ _ _ _ _ _) dX2_assemble_37 ?_
    refine aw_aload_n C dX2_assemble_38 rfl ?_
    refine aw_get (q0 := 0) (k := 4) C iFX2 k_26 rfl rfl rfl rfl dX2_assemble_39 ?_
    refine aw_aload_n C dX2_assemble_42 rfl ?_
    refine aw_get (q0 := 0) (k := 12) C iFX2 k_161 rfl rfl rfl rfl dX2_assemble_43 ?_
    refine aw_top (y := S.1 6) rfl ?_
    refine aw_iload_n C dX2_assemble_46 rfl ?_
    refine aw_stI (q0 := 15) C rfl (by omega) (by omega) rfl (wx_a15 _ _ _ _ _ _) dX2_assemble_47 ?_
    refine aw_aload_n C dX2_assemble_48 rfl ?_
    refine aw_dup C dX2_assemble_49 rfl ?_
    refine aw_get (q0 := 0) (k := 12) C iFX2 k_161 rfl rfl rfl rfl dX2_assemble_50 ?_
    refine aw_iconst C dX2_assemble_53 ?_
    refine aw_iadd C dX2_assemble_54 ?_
    refine aw_put (q0 := 0) (k := 12) C iFX2 tyX2_ok nmX2 k_161 rfl rfl rfl rfl rfl rfl (wx_f12 _ _ _ _ _) dX2_assemble_55 ?_
    refine aw_iload_n C dX2_assemble_58 rfl ?_
    exact aw_iretX C dX2_assemble_59 ⟨(by unfold kAsm; first | rw [if_pos (by omega)] | rw [if_neg (by omega), if_pos (by omega)] | rw [if_neg (by omega), if_neg (by omega), if_pos (by omega)] | rw [if_neg (by omega), if_neg (by omega), if_neg (by omega), if_pos (by omega)] | rw [if_neg (by omega), if_neg (by omega), if_neg (by omega), if_neg (by omega)] | rw [if_neg (by omega), if_neg (by omega), if_neg (by omega)] | rw [if_neg (by omega), if_neg (by omega)] | rw [if_neg (by omega)]), rfl, _, rfl⟩
  · exact aw_throw (is := 159) C X9 (by decide +kernel) (hts (.classLink RX2 82 eISE) (by decide +kernel)) (hts (.initialized eISE) (by decide +kernel)) (X9.2.1.2.2.2 (159, "the store is empty") (by decide +kernel)) (at_good hts (by decide +kernel) no_ISE X9.2.1.2.1.2.1 X9.2.1) ok_ISE dX2_assemble_10 dX2_assemble_13 dX2_assemble_14 dX2_assemble_16 dX2_assemble_19 ⟨rfl, rfl, rfl, rfl⟩ ⟨⟨rfl, (by unfold kAsm; first | rw [if_pos (by omega)] | rw [if_neg (by omega), if_pos (by omega)] | rw [if_neg (by omega), if_neg (by omega), if_pos (by omega)] | rw [if_neg (by omega), if_neg (by omega), if_neg (by omega), if_pos (by omega)] | rw [if_neg (by omega), if_neg (by omega), if_neg (by omega), if_neg (by omega)] | rw [if_neg (by omega), if_neg (by omega), if_neg (by omega)] | rw [if_neg (by omega), if_neg (by omega)] | rw [if_neg (by omega)])⟩, _, rfl⟩
end
section
/-! A CALL THAT IS CAUGHT -/
def NH (U : State) : Prop := va_Nc eISE eIAE U ∧ va_Nc eIOB eIAE U ∧ va_Nc eISE eIOB U
theorem NH.moved {u U : State} (hvm : u.vm.Alike U.vm) (h : NH u) : NH U := ⟨h.1.moved hvm, h.2.1.moved hvm, h.2.2.moved hvm⟩
def PXh (G : va_G × (Nat → ClassId)) (sa : Nat → Nat) (As : List Value) (w0 : va_W) (sz : Nat) : Array Value → State → Prop := va_Pc As (fun U => U.heap.size = sz ∧ va_P G.1 vwCl w0 U.heap ∧ va_K G.1 vwCl (tG G) U ∧ va_D (fun _ => True) w0 ∧ NT sa U ∧ ZQ (va_A w0 sz) U U.heap ∧ NH U)
theorem PXh_blind {G : va_G × (Nat → ClassId)} {sa : Nat → Nat} {As : List Value} {w0 : va_W} {sz : Nat} : FrameBlind (PXh G sa As w0 sz) := fun a U g mk q => by
  obtain ⟨q0, q1, qP, qK, qD, qN, qZ, qH⟩ := q
  exact ⟨q0, q1, qP, va_K.moved (u := U) (U := U.calling g mk a) (Vm.Alike.refl U.vm) qK, qD, NT.same (rfl : U.vm = (U.calling g mk a).vm) qN, ZQ.moved (u := U) (U := U.calling g mk a) (Vm.Alike.refl U.vm) qZ, NH.moved (u := U) (U := U.calling g mk a) (Vm.Alike.refl U.vm) qH⟩
/-- a helper of the law: it always returns -/
def Mh (l : Launch) (G : va_G × (Nat → ClassId)) (sa : Nat → Nat) (y : MethodName) (ws : List Cond) (rm : Room) (As : List Value) (w0 : va_W) (post : Int → va_W → Prop) : Prop := ∀ sz : Nat, Met l y ws rm (PXh G sa As w0 sz) (QPi G post (va_A w0 sz)) 1 6 (va_A w0 sz)
def XH (l : Launch) (s : State) (c : Code) (sa : Nat → Nat) (A : Nat → Prop) (hh : List (Nat × Nat × Nat × Nat)) : Prop := l.stackTraces = false ∧ NT sa s ∧ ZQ A s s.heap ∧ NH s ∧ c.exceptionTable.toList = tableOf hh
theorem Mh.of {own : String} {l : Launch} {G : va_G × (Nat → ClassId)} {sa : Nat → Nat} {y : MethodName} {ws ws' : List Cond} {rm : Room} {As : List Value} {w0 : va_W} {post : Int → va_W → Prop} {cc : ByteArray} {maxL : Nat} {ret : Option FieldType} {hh : List (Nat × Nat × Nat × Nat)} (hl : l.stackTraces = false) (hy : plainName y.cls = true) (ho : y.cls = own) (hw : ws = Cond.codeWith y cc maxL ret hh :: ws') (hlen : Nat.ble (lg_sl As).length maxL = true)
    (body : ∀ (p : Program) (e : Env) (s : State) (m : MethodId) (args : Array Value) (below : List Frame) (meth : Method) (c : Code) (A : Nat → Prop), cx p l s m args meth c cc maxL ret ws own G A s.heap → XH l s c sa A hh → AW p l e (headSpec ws rm).room s m args below meth c maxL G A s.heap 0 0 (MQ below (QPi G post A) args s 1 6 A) w0 (lv_args 0 As) 0 []) : Mh l G sa y ws rm As w0 post := by
  intro sz
  refine MetFree.of_bodyS (code := cc) (maxLocals := maxL) (ret := ret) hy ?_ ?_
  · intro args s m h hn
    obtain ⟨m9, meth, c, hn9, h1, h2, h3, h4, -, h5, h6, -⟩ := Cond.codeWith_spec (atoms_spec (ws := ws) h _ (by rw [hw]; exact List.mem_cons_self))
    cases hn.symm.trans hn9
    exact ⟨meth, c, h1, h2, h3, h4, h5, h6⟩
  · intro p e s m args below meth c s₁ B hml hP _
    have hh0 : s₁.heap = s.heap := by rw [B.state]; rfl
    obtain ⟨rfl, hsz, hPw, hK, hD0, hN, hZ, hH⟩ := hP
    have hts := atoms_spec (ws := ws) B.pre
    subst hsz
    have ht := vx_table (x := y) B (hts _ (by rw [hw]; exact List.mem_cons_self))
    have K := body p e s m _ below meth c (va_A w0 s.heap.size) ⟨B.exec, B.bytes, hml, (by rw [← ho]; exact findClass_of_methodNamed B.named), hts, hK, fun _ h => Or.inr h, B.notSynchronized, B.returns⟩ ⟨hl, hN, hZ, hH, ht⟩ s.heap [] _ hPw hD0.self va_S.rf (lv_entry As (Nat.le_of_ble_eq_true hlen))
    rw [← lg_entry_eq] at K
    obtain ⟨t, a1, o, b1, b2, b3⟩ := K s₁ hh0 (Stand.of_body B)
    exact ⟨t, o, a1, b1, b2, ⟨b3.1, b3.2⟩⟩
section AWH
variable {p : Program} {l : Launch} {e : Env} {R : Room} {s : State} {m : MethodId} {args : Array Value} {below : List Frame} {meth : Method} {c : Code} {nL : Nat} {G : va_G × (Nat → ClassId)} {A : Nat → Prop} {cells slots : Nat} {Q : State → Prop} {H0 : Heap}
variable {cc : ByteArray} {ret : Option FieldType} {Ts : List Cond} {own : String} {ws : va_W} {lv : List (Nat × Value)} {pc : Nat} {st : List Value} {sa : Nat → Nat} {hh : List (Nat × Nat × Nat × Nat)}
theorem aw_iretH {post : Int → va_W → Prop} {z : Int} (C : cx p l s m args meth c cc nL (some .int) Ts own G A s.heap) (hd : decode cc pc = .ok (.ireturn, 1)) (h : post z ws) : AW p l e R s m args below meth c nL G A s.heap cells slots (MQ below (QPi G post A) args s cells slots A) ws lv pc [.int (zI z)] :=
  fun H locs ls hP hD hS hl => W.iret C.1 C.2.1 C.2.2.2.2.2.2.2.2 (fun t ht hW => ⟨⟨zI z, (z, ws), rfl, ⟨rfl, h⟩, by rw [ht]; exact hP, hD⟩, hS.F ht⟩) hS.2.2 hd C.2.2.2.2.2.2.2.1
theorem aw_i2l (C : cx p l s m args meth c cc nL ret Ts own G A H0) {x : Int32} (hd : decode cc pc = .ok (.i2l, 1)) (k : AW p l e R s m args below meth c nL G A H0 cells slots Q ws lv (pc + 1) (.long x.toInt64 :: st)) : AW p l e R s m args below meth c nL G A H0 cells slots Q ws lv pc (.int x :: st) :=
  fun H locs ls hP hD hS hl => lv_i2l C.1 C.2.1 hd rfl (k H locs ls hP hD hS hl)
abbrev oL (kc : Nat → ClassId) (o : Nat) (f : Nat → Int64) : Nat × va_E := (o, .inl (kc 3, 1, .inr (.inl f)))
theorem aw_lastore (C : cx p l s m args meth c cc nL ret Ts own G A H0) {q0 o : Nat} {f : Nat → Int64} {x : Int64} {ws' : va_W} (he : ws[q0]? = some (oL G.2 o f)) (hw : ws.set q0 (oL G.2 o (vp_updL f 0 x)) = ws') (hd : decode cc pc = .ok (.lastore, 1)) (k : AW p l e R s m args below meth c nL G A H0 cells slots Q ws' lv (pc + 1) st) : AW p l e R s m args below meth c nL G A H0 cells slots Q ws lv pc (.long x :: .int (zI 0) :: .ref o :: st) := by
  subst hw
  exact fun H locs ls hP hD hS hl => va_last C.1 C.2.1 C.2.2.2.2.2.1 hP hD hS q0 3 he rfl (zI_in (n := 1) (by omega) (by omega) (by omega)) hd (fun H1 locs1 hP1 hD1 hS1 => k H1 locs1 ls hP1 hD1 hS1 hl)
theorem aw_laload (C : cx p l s m args meth c cc nL ret Ts own G A H0) {q0 o : Nat} {f : Nat → Int64} (he : ws[q0]? = some (oL G.2 o f)) (hd : decode cc pc = .ok (.laload, 1)) (k : AW p l e R s m args below meth c nL G A H0 cells slots Q ws lv (pc + 1) (.long (f 0) :: st)) : AW p l e R s m args below meth c nL G A H0 cells slots Q ws lv pc (.int (zI 0) :: .ref o :: st) :=
  fun H locs ls hP hD hS hl => va_lald C.1 C.2.1 C.2.2.2.2.2.1 hP q0 3 he rfl (zI_in (n := 1) (by omega) (by omega) (by omega)) hd (k H locs ls hP hD hS hl)
theorem preX_at (C : cx p l s m args meth c cc nL ret Ts own G A s.heap) (X : XH l s c sa A hh) {wc : va_W} {H : Heap} {locs : List Loc} {As : List Value} (hS : va_S A s.heap H locs) (hF : ∀ q, va_A wc H.size q → A q) (hP : va_P G.1 vwCl wc H) (hD : va_D (fun _ => True) wc) : ∀ U : State, U.heap = H → s.WarmedH U.vm → PXx G sa As wc H.size As.toArray U := fun U hU hW => ⟨rfl, by rw [hU], by rw [hU]; exact hP, va_K.moved hW.alike C.2.2.2.2.2.1, hD, NT.warm hW X.2.1, by
  rw [hU]
  exact ZQ.moved hW.alike ((X.2.2.1.kept (fun a ha hn => hS.2.1 a ha hn)).narrow hF)⟩
/-- where a thrown E goes, from pc -/
def gox (c : Code) (s : State) (args : Array Value) (own : String) (pc : Nat) (hh : List (Nat × Nat × Nat × Nat)) (E : String) (h : Nat) : Prop :=
  ∃ (pre : List (Nat × Nat × Nat × Nat)) (x : Nat × Nat × Nat × Nat) (suf : List (Nat × Nat × Nat × Nat)) (nm : String), hh = pre ++ x :: suf ∧ x.2.2.1 = h ∧ (∀ z ∈ pre, ¬ z.2.2.2 = 0 ∧ ∃ n9 : String, (Cond.classLink own z.2.2.2 n9).before args s = true ∧ va_Nc E n9 s) ∧ covers ⟨x.1, x.2.1, x.2.2.1, x.2.2.2⟩ pc = true ∧ ¬ x.2.2.2 = 0 ∧ (Cond.classLink own x.2.2.2 nm).before args s = true ∧ (Cond.castable E nm).before args s = true
theorem gox_W {H : Heap} {locs : List Loc} {ls : Array Slot} {E : String} {h q9 : Nat} {ce : Cell} (C : cx p l s m args meth c cc nL ret Ts own G A s.heap) (X : XH l s c sa A hh) (g : gox c s args own pc hh E h) (hcell : H[q9]? = some ce) (hv : ce.vm = .none) (hcl : s.vm.findClass E = some ce.cls) (kk : W p l e R s m args below meth c H locs cells slots Q (F0 m h ls [.ref q9])) : vx_W p l e R s m args below meth c H locs cells slots Q (F0 m pc ls st) q9 := by
  obtain ⟨pre, x, suf, nm, rfl, rfl, h1, h2, h3, h4, h5⟩ := g
  exact vx_catch C.2.2.2.1 (tableOf pre) ⟨x.1, x.2.1, x.2.2.1, x.2.2.2⟩ (tableOf suf) (by rw [X.2.2.2.2]; unfold tableOf; simp) (fun z hz => by
    unfold tableOf at hz
    obtain ⟨y, hy, rfl⟩ := List.mem_map.mp hz
    exact Or.inr (h1 y hy)) h2 h3 h4 h5 hcell hv hcl kk
variable {wc wr : va_W} {y : MethodName} {ws9 : List Cond} {rm : Room} {As : List Value} {b index maxL n : Nat} {Cn : String} {bytes : ByteArray} {rt : Option FieldType}
theorem aw_hi {post : Int → va_W → Prop} {postX : String → va_W → Prop} {ci q0 : Nat} {fs : List Value} {rc : vw_C} (C : cx p l s m args meth c cc nL ret Ts own G A s.heap) (X : XH l s c sa A hh) (hM : Xi l G sa y ws9 rm (.ref b :: As) wc post postX) (cw : CallW R s args own Cn index y bytes maxL rt ws9 rm 1 6 n) (hc : vwCl[ci]? = some rc) (hCn : rc.1 = Cn) (he : wc[q0]? = some (b, .inr (ci, fs))) (hn : As.length = n) (hcat : Nat.ble (st.map fun v => v.category).sum 8 = true) (hd : decode cc pc = .ok (.invokevirtual index, 3)) (hf : cells + 1 ≤ R.cells ∧ slots + 6 ≤ R.slots)
    (kx : ∀ (E : String) (u : va_W), postX E u → ∃ h : Nat, gox c s args own pc hh E h ∧ ∀ q9 : Nat, AW p l e R s m args below meth c nL G A s.heap (cells + 1) (slots + 6) Q (u ++ wr) lv h [.ref q9])
    (kk : ∀ (r : Int) (u : va_W), post r u → AW p l e R s m args below meth c nL G A s.heap (cells + 1) (slots + 6) Q (u ++ wr) lv (pc + 3) (.int (zI r) :: st)) : AW p l e R s m args below meth c nL G A s.heap cells slots Q (wc ++ wr) lv pc (As.reverse ++ .ref b :: st) :=
  fun H locs ls hP hD hS hl => by
    obtain ⟨hPc, hDc, hFc⟩ := aw_pre C hP hD hS
    have hr := vx_runV (e := e) (below := below) (meth := meth) (cells := cells) (slots := slots) (locs := locs) (g := F0 m pc ls (As.reverse ++ .ref b :: st)) (As := As) (rest := st) (fix_of C) (hM H.size) cw ⟨PXx_blind, by obtain ⟨cell, h1, h2, h3⟩ := va_recv C.2.2.2.2.2.1 hPc hc he; exact ⟨cell, h1, h2, by rw [← hCn]; exact h3⟩, preX_at C X hS hFc hPc hDc⟩ rfl hn hl.1 rfl (lv_room (Nat.le_of_ble_eq_true hcat)) hd hf
    refine vx_calli hr hS (fun q _ h => hFc q h) hFc (fun q _ h => hFc q h) (fun E ce q9 u t H1 locs1 ht hvm hpx hB hz1 hk1 hS1 hce hcv hcl => ?_) (fun r u t H1 locs1 ht hvm hw hB hz1 hk1 hS1 => ?_)
    · obtain ⟨hpX, hP1, hD1⟩ := hB
      rw [ht] at hP1
      obtain ⟨hP2, hD2⟩ := jn hP hD hk1 hFc hP1 hD1
      obtain ⟨h, hg, kh⟩ := kx E u hpX
      exact gox_W C X hg hce hcv hcl (kh q9 H1 locs1 ls hP2 hD2 hS1 hl)
    · obtain ⟨rfl, hp⟩ := hw
      obtain ⟨hP1, hD1⟩ := hB
      rw [ht] at hP1
      obtain ⟨hP2, hD2⟩ := jn hP hD hk1 hFc hP1 hD1
      exact kk u.1 u.2 hp H1 locs1 ls hP2 hD2 hS1 hl
theorem aw_hv {post : va_W → Prop} {postX : String → va_W → Prop} {ci q0 : Nat} {fs : List Value} {rc : vw_C} (C : cx p l s m args meth c cc nL ret Ts own G A s.heap) (X : XH l s c sa A hh) (hM : Xv l G sa y ws9 rm (.ref b :: As) wc post postX) (cw : CallW R s args own Cn index y bytes maxL rt ws9 rm 1 6 n) (hc : vwCl[ci]? = some rc) (hCn : rc.1 = Cn) (he : wc[q0]? = some (b, .inr (ci, fs))) (hn : As.length = n) (hcat : Nat.ble (st.map fun v => v.category).sum 8 = true) (hd : decode cc pc = .ok (.invokevirtual index, 3)) (hf : cells + 1 ≤ R.cells ∧ slots + 6 ≤ R.slots)
    (kx : ∀ (E : String) (u : va_W), postX E u → ∃ h : Nat, gox c s args own pc hh E h ∧ ∀ q9 : Nat, AW p l e R s m args below meth c nL G A s.heap (cells + 1) (slots + 6) Q (u ++ wr) lv h [.ref q9])
    (kk : ∀ (u : va_W), post u → AW p l e R s m args below meth c nL G A s.heap (cells + 1) (slots + 6) Q (u ++ wr) lv (pc + 3) st) : AW p l e R s m args below meth c nL G A s.heap cells slots Q (wc ++ wr) lv pc (As.reverse ++ .ref b :: st) :=
  fun H locs ls hP hD hS hl => by
    obtain ⟨hPc, hDc, hFc⟩ := aw_pre C hP hD hS
    have hr := vx_runV (e := e) (below := below) (meth := meth) (cells := cells) (slots := slots) (locs := locs) (g := F0 m pc ls (As.reverse ++ .ref b :: st)) (As := As) (rest := st) (fix_of C) (hM H.size) cw ⟨PXx_blind, by obtain ⟨cell, h1, h2, h3⟩ := va_recv C.2.2.2.2.2.1 hPc hc he; exact ⟨cell, h1, h2, by rw [← hCn]; exact h3⟩, preX_at C X hS hFc hPc hDc⟩ rfl hn hl.1 rfl (lv_room (Nat.le_of_ble_eq_true hcat)) hd hf
    refine vx_callv hr hS (fun q _ h => hFc q h) hFc (fun q _ h => hFc q h) (fun E ce q9 u t H1 locs1 ht hvm hpx hB hz1 hk1 hS1 hce hcv hcl => ?_) (fun u t H1 locs1 ht hvm hw hB hz1 hk1 hS1 => ?_)
    · obtain ⟨hpX, hP1, hD1⟩ := hB
      rw [ht] at hP1
      obtain ⟨hP2, hD2⟩ := jn hP hD hk1 hFc hP1 hD1
      obtain ⟨h, hg, kh⟩ := kx E u hpX
      exact gox_W C X hg hce hcv hcl (kh q9 H1 locs1 ls hP2 hD2 hS1 hl)
    · obtain ⟨hP1, hD1⟩ := hB
      rw [ht] at hP1
      obtain ⟨hP2, hD2⟩ := jn hP hD hk1 hFc hP1 hD1
      exact kk u hw H1 locs1 ls hP2 hD2 hS1 hl
end AWH
/-- what a helper leaves: its number tells how the call ended, the value stands in out -/
def pH (G : va_G × (Nat → ClassId)) (ad : Nat → Nat) (o : Nat) (S S' : St) (k v : Int) : Int → va_W → Prop := fun r u => r = k ∧ ∃ (P9 : St) (f : Nat → Int64), (k = 0 → u = WX G.2 ad S' P9 ++ [oL G.2 o f] ∧ f 0 = (zI v).toInt64) ∧ (¬ k = 0 → u = WX G.2 ad S P9 ++ [oL G.2 o f])
end
section
set_option maxRecDepth 20000 in
theorem wsL_law_in0 : ∀ w ∈ wsL_law0, w ∈ lw_tbl := fun w h => (goodIn_p wsL_law0 [35, 38, 44, 58, 133, 137, 140, 143, 147, 221, 225, 229, 233, 253, 257, 260, 281, 286, 290, 294, 298, 302, 305, 309, 313, 318, 322, 327, 331, 335, 339, 342, 346, 350, 354, 359, 364, 368, 373, 377, 382, 386, 390, 394, 398, 402, 406, 410, 414, 418, 423, 426, 430, 434, 438, 442, 447, 451, 455, 460, 465, 468] (by decide +kernel) (by decide +kernel) w h).1
theorem wsL_law_x0 : ∀ w ∈ (vx_atS RX2 53 "java/lang/IllegalArgumentException" ["java/lang/RuntimeException", "java/lang/Exception"]).filter goodWord, w ∈ lw_tbl := by decide +kernel
theorem wsL_law_x1 : ∀ w ∈ (vx_atS RX2 107 "java/lang/IndexOutOfBoundsException" ["java/lang/RuntimeException", "java/lang/Exception"]).filter goodWord, w ∈ lw_tbl := by decide +kernel
theorem wsL_law_x2 : ∀ w ∈ (vx_atS RX2 86 "java/lang/IllegalStateException" ["java/lang/RuntimeException", "java/lang/Exception"]).filter goodWord, w ∈ lw_tbl := by decide +kernel
theorem wsL_law_in : ∀ w ∈ wsL_law, w ∈ lw_tbl := fun w h => (List.mem_append.mp h).elim (fun h => (List.mem_append.mp h).elim (fun h => (List.mem_append.mp h).elim (fun h => wsL_law_in0 w h) (fun h => wsL_law_x0 w h)) (fun h => wsL_law_x1 w h)) (fun h => wsL_law_x2 w h)
theorem inlX0 : ∀ w ∈ wsX00, w ∈ wsL_law := fun _ h => List.mem_append_left _ (List.mem_append_left _ (List.mem_append_left _ (List.mem_append_left _ (List.mem_append_left _ (List.mem_append_right _ h)))))
theorem inX0 : ∀ w ∈ wsX00, w ∈ lw_tbl := fun w h => wsL_law_in w (inlX0 w h)
theorem inlX1 : ∀ w ∈ wsX10, w ∈ wsL_law := fun _ h => List.mem_append_left _ (List.mem_append_left _ (List.mem_append_left _ (List.mem_append_left _ (List.mem_append_right _ h))))
theorem inX1 : ∀ w ∈ wsX10, w ∈ lw_tbl := fun w h => wsL_law_in w (inlX1 w h)
theorem inlX2 : ∀ w ∈ wsX20, w ∈ wsL_law := fun _ h => List.mem_append_left _ (List.mem_append_left _ (List.mem_append_left _ (List.mem_append_left _ (List.mem_append_left _ (List.mem_append_left _ (List.mem_append_right _ h))))))
theorem inX2 : ∀ w ∈ wsX20, w ∈ lw_tbl := fun w h => wsL_law_in w (inlX2 w h)
theorem inX3 : ∀ w ∈ wsX30, w ∈ lw_tbl := by decide +kernel
theorem inJ0 : ∀ w ∈ wsJ00, w ∈ lw_tbl := by decide +kernel
end
section
theorem dL_cell_0 : decode cL_cell 0 = .ok (.iload_n 1, 1) := by decide +kernel
theorem dL_cell_1 : decode cL_cell 1 = .ok (.aload_n 0, 1) := by decide +kernel
theorem dL_cell_2 : decode cL_cell 2 = .ok (.arraylength, 1) := by decide +kernel
theorem dL_cell_3 : decode cL_cell 3 = .ok (.if_icmp .ge 9, 3) := by decide +kernel
theorem dL_cell_6 : decode cL_cell 6 = .ok (.aload_n 0, 1) := by decide +kernel
theorem dL_cell_7 : decode cL_cell 7 = .ok (.iload_n 1, 1) := by decide +kernel
theorem dL_cell_8 : decode cL_cell 8 = .ok (.iaload, 1) := by decide +kernel
theorem dL_cell_9 : decode cL_cell 9 = .ok (.goto 9, 3) := by decide +kernel
theorem dL_cell_12 : decode cL_cell 12 = .ok (.ldc 7, 2) := by decide +kernel
theorem dL_cell_14 : decode cL_cell 14 = .ok (.iload_n 1, 1) := by decide +kernel
theorem dL_cell_15 : decode cL_cell 15 = .ok (.iconst 1, 1) := by decide +kernel
theorem dL_cell_16 : decode cL_cell 16 = .ok (.iadd, 1) := by decide +kernel
theorem dL_cell_17 : decode cL_cell 17 = .ok (.imul, 1) := by decide +kernel
theorem dL_cell_18 : decode cL_cell 18 = .ok (.ireturn, 1) := by decide +kernel
theorem dL_at_0 : decode cL_at 0 = .ok (.iload_n 0, 1) := by decide +kernel
theorem dL_at_1 : decode cL_at 1 = .ok (.iconst 1, 1) := by decide +kernel
theorem dL_at_2 : decode cL_at 2 = .ok (.iushr, 1) := by decide +kernel
theorem dL_at_3 : decode cL_at 3 = .ok (.iload_n 1, 1) := by decide +kernel
theorem dL_at_4 : decode cL_at 4 = .ok (.irem, 1) := by decide +kernel
theorem dL_at_5 : decode cL_at 5 = .ok (.ireturn, 1) := by decide +kernel
set_option maxRecDepth 20000 in
theorem ggL_fill_X2_begin : GoodIn wsL_fill wsX2_begin := goodIn_ca (goodIn_r _ [5, 6, 7, 8, 9, 10, 11, 12, 13, 14, 4, 15, 16, 17, 18, 19, 20, 21, 22, 23, 24, 25, 26, 27, 82, 83, 84, 85, 86, 87, 88, 89, 90, 91, 92, 93, 94, 95, 96, 97, 98, 99, 100] (by decide +kernel) (by decide +kernel)) (goodIn_sub (fun _ h => List.mem_cons_of_mem _ (List.mem_append_left _ (List.mem_append_left _ (List.mem_append_right _ h)))) (by decide +kernel))
set_option maxRecDepth 20000 in
theorem gL_fill_X2_begin : GoodIn wsL_fill (wsV RL 8 RX2 yX2_begin wsX2_begin) := goodIn_app (goodIn_of _ (by decide +kernel)) ggL_fill_X2_begin
set_option maxRecDepth 20000 in
theorem ggL_fill_L_at : GoodIn wsL_fill wsL_at := goodIn_r _ [31] (by decide +kernel) (by decide +kernel)
set_option maxRecDepth 20000 in
theorem gL_fill_L_at : GoodIn wsL_fill (va_wsS RL 14 yL_at wsL_at) := goodIn_app (goodIn_of _ (by decide +kernel)) ggL_fill_L_at
set_option maxRecDepth 20000 in
theorem ggL_fill_X2_inLane : GoodIn wsL_fill wsX2_inLane := goodIn_ca (goodIn_r _ [35, 36, 37, 16, 38, 39, 40, 4, 41, 9, 42, 43, 44, 25, 45, 27, 82, 83, 84, 85, 86, 87, 88, 89, 90, 91, 92, 93, 94, 95, 96, 97, 98, 99, 100] (by decide +kernel) (by decide +kernel)) (goodIn_sub (fun _ h => List.mem_cons_of_mem _ (List.mem_append_left _ (List.mem_append_right _ h))) (by decide +kernel))
set_option maxRecDepth 20000 in
theorem gL_fill_X2_inLane : GoodIn wsL_fill (wsV RL 20 RX2 yX2_inLane wsX2_inLane) := goodIn_app (goodIn_of _ (by decide +kernel)) ggL_fill_X2_inLane
set_option maxRecDepth 20000 in
theorem ggL_fill_X2_arriveIn : GoodIn wsL_fill wsX2_arriveIn := goodIn_ca (goodIn_ca (goodIn_ca (goodIn_r _ [49, 6, 7, 36, 37, 50, 51, 8, 52, 53, 4, 54, 38, 39, 40, 41, 9, 55, 56, 57, 58, 16, 10, 42, 43, 44, 25, 45, 27, 59, 60, 61, 62, 63, 64, 65, 66, 67, 68, 18, 69, 70, 71, 72, 73, 74, 75, 76, 77, 82, 83, 84, 85, 86, 87, 88, 89, 90, 91, 92, 93, 94, 95, 96, 97, 98, 99, 100] (by decide +kernel) (by decide +kernel)) (goodIn_sub (fun _ h => List.mem_cons_of_mem _ (List.mem_append_left _ (List.mem_append_left _ (List.mem_append_right _ h)))) (by decide +kernel))) (goodIn_sub (fun _ h => List.mem_cons_of_mem _ (List.mem_append_left _ (List.mem_append_right _ h))) (by decide +kernel))) (goodIn_sub (fun _ h => List.mem_cons_of_mem _ (List.mem_append_right _ h)) (by decide +kernel))
set_option maxRecDepth 20000 in
theorem gL_fill_X2_arriveIn : GoodIn wsL_fill (wsV RL 24 RX2 yX2_arriveIn wsX2_arriveIn) := goodIn_app (goodIn_of _ (by decide +kernel)) ggL_fill_X2_arriveIn
set_option maxRecDepth 20000 in
theorem ggL_fill_X2_bodies : GoodIn wsL_fill wsX2_bodies := goodIn_r _ [81, 8, 82, 83, 84, 85, 86, 87, 88, 89, 90, 91, 92, 93, 94, 95, 96, 97, 98] (by decide +kernel) (by decide +kernel)
set_option maxRecDepth 20000 in
theorem gL_fill_X2_bodies : GoodIn wsL_fill (wsV RL 27 RX2 yX2_bodies wsX2_bodies) := goodIn_app (goodIn_of _ (by decide +kernel)) ggL_fill_X2_bodies
theorem dL_fill_0 : decode cL_fill 0 = .ok (.aload_n 0, 1) := by decide +kernel
theorem dL_fill_1 : decode cL_fill 1 = .ok (.iload_n 1, 1) := by decide +kernel
theorem dL_fill_2 : decode cL_fill 2 = .ok (.iconst 5, 1) := by decide +kernel
theorem dL_fill_3 : decode cL_fill 3 = .ok (.bipush 6, 2) := by decide +kernel
theorem dL_fill_5 : decode cL_fill 5 = .ok (.invokevirtual 8, 3) := by decide +kernel
theorem dL_fill_8 : decode cL_fill 8 = .ok (.pop, 1) := by decide +kernel
theorem dL_fill_9 : decode cL_fill 9 = .ok (.iload_n 2, 1) := by decide +kernel
theorem dL_fill_10 : decode cL_fill 10 = .ok (.bipush 13, 2) := by decide +kernel
theorem dL_fill_12 : decode cL_fill 12 = .ok (.invokestatic 14, 3) := by decide +kernel
theorem dL_fill_15 : decode cL_fill 15 = .ok (.istore 4, 2) := by decide +kernel
theorem dL_fill_17 : decode cL_fill 17 = .ok (.iconst 0, 1) := by decide +kernel
theorem dL_fill_18 : decode cL_fill 18 = .ok (.istore 5, 2) := by decide +kernel
theorem dL_fill_20 : decode cL_fill 20 = .ok (.iload 5, 2) := by decide +kernel
theorem dL_fill_22 : decode cL_fill 22 = .ok (.iload 4, 2) := by decide +kernel
theorem dL_fill_24 : decode cL_fill 24 = .ok (.if_icmp .ge 77, 3) := by decide +kernel
theorem dL_fill_27 : decode cL_fill 27 = .ok (.iload_n 3, 1) := by decide +kernel
theorem dL_fill_28 : decode cL_fill 28 = .ok (.bipush 61, 2) := by decide +kernel
theorem dL_fill_30 : decode cL_fill 30 = .ok (.iload 5, 2) := by decide +kernel
theorem dL_fill_32 : decode cL_fill 32 = .ok (.imul, 1) := by decide +kernel
theorem dL_fill_33 : decode cL_fill 33 = .ok (.iload 5, 2) := by decide +kernel
theorem dL_fill_35 : decode cL_fill 35 = .ok (.imul, 1) := by decide +kernel
theorem dL_fill_36 : decode cL_fill 36 = .ok (.iadd, 1) := by decide +kernel
theorem dL_fill_37 : decode cL_fill 37 = .ok (.iload 5, 2) := by decide +kernel
theorem dL_fill_39 : decode cL_fill 39 = .ok (.bipush 7, 2) := by decide +kernel
theorem dL_fill_41 : decode cL_fill 41 = .ok (.irem, 1) := by decide +kernel
theorem dL_fill_42 : decode cL_fill 42 = .ok (.ishr, 1) := by decide +kernel
theorem dL_fill_43 : decode cL_fill 43 = .ok (.iload_n 1, 1) := by decide +kernel
theorem dL_fill_44 : decode cL_fill 44 = .ok (.invokestatic 14, 3) := by decide +kernel
theorem dL_fill_47 : decode cL_fill 47 = .ok (.istore 6, 2) := by decide +kernel
theorem dL_fill_49 : decode cL_fill 49 = .ok (.aload_n 0, 1) := by decide +kernel
theorem dL_fill_50 : decode cL_fill 50 = .ok (.iload 6, 2) := by decide +kernel
theorem dL_fill_52 : decode cL_fill 52 = .ok (.invokevirtual 20, 3) := by decide +kernel
theorem dL_fill_55 : decode cL_fill 55 = .ok (.iconst 5, 1) := by decide +kernel
theorem dL_fill_56 : decode cL_fill 56 = .ok (.if_icmp .ge 39, 3) := by decide +kernel
theorem dL_fill_59 : decode cL_fill 59 = .ok (.aload_n 0, 1) := by decide +kernel
theorem dL_fill_60 : decode cL_fill 60 = .ok (.iload_n 2, 1) := by decide +kernel
theorem dL_fill_61 : decode cL_fill 61 = .ok (.iconst 5, 1) := by decide +kernel
theorem dL_fill_62 : decode cL_fill 62 = .ok (.ishr, 1) := by decide +kernel
theorem dL_fill_63 : decode cL_fill 63 = .ok (.iload 5, 2) := by decide +kernel
theorem dL_fill_65 : decode cL_fill 65 = .ok (.iconst 1, 1) := by decide +kernel
theorem dL_fill_66 : decode cL_fill 66 = .ok (.iadd, 1) := by decide +kernel
theorem dL_fill_67 : decode cL_fill 67 = .ok (.imul, 1) := by decide +kernel
theorem dL_fill_68 : decode cL_fill 68 = .ok (.iload_n 3, 1) := by decide +kernel
theorem dL_fill_69 : decode cL_fill 69 = .ok (.iadd, 1) := by decide +kernel
theorem dL_fill_70 : decode cL_fill 70 = .ok (.iload_n 3, 1) := by decide +kernel
theorem dL_fill_71 : decode cL_fill 71 = .ok (.bipush 9, 2) := by decide +kernel
theorem dL_fill_73 : decode cL_fill 73 = .ok (.ishr, 1) := by decide +kernel
theorem dL_fill_74 : decode cL_fill 74 = .ok (.iconst 2, 1) := by decide +kernel
theorem dL_fill_75 : decode cL_fill 75 = .ok (.invokestatic 14, 3) := by decide +kernel
theorem dL_fill_78 : decode cL_fill 78 = .ok (.ifCond .ne 7, 3) := by decide +kernel
theorem dL_fill_81 : decode cL_fill 81 = .ok (.iconst 3, 1) := by decide +kernel
theorem dL_fill_82 : decode cL_fill 82 = .ok (.goto 4, 3) := by decide +kernel
theorem dL_fill_85 : decode cL_fill 85 = .ok (.iconst 5, 1) := by decide +kernel
theorem dL_fill_86 : decode cL_fill 86 = .ok (.invokestatic 14, 3) := by decide +kernel
theorem dL_fill_89 : decode cL_fill 89 = .ok (.iload 6, 2) := by decide +kernel
theorem dL_fill_91 : decode cL_fill 91 = .ok (.invokevirtual 24, 3) := by decide +kernel
theorem dL_fill_94 : decode cL_fill 94 = .ok (.pop, 1) := by decide +kernel
theorem dL_fill_95 : decode cL_fill 95 = .ok (.iinc 5 1, 3) := by decide +kernel
theorem dL_fill_98 : decode cL_fill 98 = .ok (.goto (-78), 3) := by decide +kernel
theorem dL_fill_101 : decode cL_fill 101 = .ok (.aload_n 0, 1) := by decide +kernel
theorem dL_fill_102 : decode cL_fill 102 = .ok (.invokevirtual 27, 3) := by decide +kernel
theorem dL_fill_105 : decode cL_fill 105 = .ok (.ireturn, 1) := by decide +kernel
set_option maxRecDepth 20000 in
theorem ggL_first_L_at : GoodIn wsL_first wsL_at := goodIn_r _ [4] (by decide +kernel) (by decide +kernel)
set_option maxRecDepth 20000 in
theorem gL_first_L_at : GoodIn wsL_first (va_wsS RL 14 yL_at wsL_at) := goodIn_app (goodIn_of _ (by decide +kernel)) ggL_first_L_at
set_option maxRecDepth 20000 in
theorem ggL_first_X2_inLane : GoodIn wsL_first wsX2_inLane := goodIn_ca (goodIn_r _ [9, 10, 11, 12, 13, 14, 15, 8, 16, 17, 18, 19, 20, 21, 22, 23, 88, 89, 90, 91, 92, 93, 94, 95, 96, 97, 98, 99, 100, 101, 102, 103, 104, 105, 106] (by decide +kernel) (by decide +kernel)) (goodIn_sub (fun _ h => List.mem_cons_of_mem _ (List.mem_append_left _ (List.mem_append_right _ h))) (by decide +kernel))
set_option maxRecDepth 20000 in
theorem gL_first_X2_inLane : GoodIn wsL_first (wsV RL 20 RX2 yX2_inLane wsX2_inLane) := goodIn_app (goodIn_of _ (by decide +kernel)) ggL_first_X2_inLane
set_option maxRecDepth 20000 in
theorem ggL_first_X2_releaseFrom : GoodIn wsL_first wsX2_releaseFrom := goodIn_ca (goodIn_ca (goodIn_r _ [27, 10, 11, 28, 29, 12, 13, 14, 15, 8, 16, 17, 30, 31, 32, 21, 33, 23, 34, 35, 36, 37, 38, 39, 40, 41, 42, 43, 44, 45, 46, 47, 48, 49, 50, 51, 52, 53, 54, 55, 56, 57, 58, 59, 60, 61, 62, 63, 64, 65, 66, 67, 68, 88, 89, 90, 91, 92, 93, 94, 95, 96, 97, 98, 99, 100, 101, 102, 103, 104, 105, 106] (by decide +kernel) (by decide +kernel)) (goodIn_sub (fun _ h => List.mem_cons_of_mem _ (List.mem_append_left _ (List.mem_append_right _ h))) (by decide +kernel))) (goodIn_sub (fun _ h => List.mem_cons_of_mem _ (List.mem_append_right _ h)) (by decide +kernel))
set_option maxRecDepth 20000 in
theorem gL_first_X2_releaseFrom : GoodIn wsL_first (wsV RL 31 RX2 yX2_releaseFrom wsX2_releaseFrom) := goodIn_app (goodIn_of _ (by decide +kernel)) ggL_first_X2_releaseFrom
set_option maxRecDepth 20000 in
theorem ggL_first_X2_stored : GoodIn wsL_first wsX2_stored := goodIn_r _ [72, 39, 40, 41, 8, 42, 43, 44, 88, 89, 90, 91, 92, 93, 94, 95, 96, 97, 98, 99, 100, 101, 102, 103, 104] (by decide +kernel) (by decide +kernel)
set_option maxRecDepth 20000 in
theorem gL_first_X2_stored : GoodIn wsL_first (wsV RL 34 RX2 yX2_stored wsX2_stored) := goodIn_app (goodIn_of _ (by decide +kernel)) ggL_first_X2_stored
set_option maxRecDepth 20000 in
theorem ggL_first_X2_assemble : GoodIn wsL_first wsX2_assemble := goodIn_ca (goodIn_r _ [76, 28, 29, 44, 77, 78, 79, 80, 81, 82, 8, 83, 43, 88, 89, 90, 91, 92, 93, 94, 95, 96, 97, 98, 99, 100, 101, 102, 103, 104] (by decide +kernel) (by decide +kernel)) (goodIn_sub (fun _ h => List.mem_cons_of_mem _ (List.mem_append_right _ h)) (by decide +kernel))
set_option maxRecDepth 20000 in
theorem gL_first_X2_assemble : GoodIn wsL_first (wsV RL 37 RX2 yX2_assemble wsX2_assemble) := goodIn_app (goodIn_of _ (by decide +kernel)) ggL_first_X2_assemble
set_option maxRecDepth 20000 in
theorem ggL_first_X2_where : GoodIn wsL_first wsX2_where := goodIn_ca (goodIn_r _ [87, 10, 11, 44, 62, 63, 64, 8, 65, 43, 88, 89, 90, 91, 92, 93, 94, 95, 96, 97, 98, 99, 100, 101, 102, 103, 104] (by decide +kernel) (by decide +kernel)) (goodIn_sub (fun _ h => List.mem_cons_of_mem _ (List.mem_append_left _ (List.mem_append_right _ h))) (by decide +kernel))
set_option maxRecDepth 20000 in
theorem gL_first_X2_where : GoodIn wsL_first (wsV RL 40 RX2 yX2_where wsX2_where) := goodIn_app (goodIn_of _ (by decide +kernel)) ggL_first_X2_where
theorem dL_first_0 : decode cL_first 0 = .ok (.iconst 0, 1) := by decide +kernel
theorem dL_first_1 : decode cL_first 1 = .ok (.istore 4, 2) := by decide +kernel
theorem dL_first_3 : decode cL_first 3 = .ok (.iload 4, 2) := by decide +kernel
theorem dL_first_5 : decode cL_first 5 = .ok (.iload_n 3, 1) := by decide +kernel
theorem dL_first_6 : decode cL_first 6 = .ok (.if_icmp .ge 71, 3) := by decide +kernel
theorem dL_first_9 : decode cL_first 9 = .ok (.iload_n 2, 1) := by decide +kernel
theorem dL_first_10 : decode cL_first 10 = .ok (.iconst 2, 1) := by decide +kernel
theorem dL_first_11 : decode cL_first 11 = .ok (.iload 4, 2) := by decide +kernel
theorem dL_first_13 : decode cL_first 13 = .ok (.imul, 1) := by decide +kernel
theorem dL_first_14 : decode cL_first 14 = .ok (.ishr, 1) := by decide +kernel
theorem dL_first_15 : decode cL_first 15 = .ok (.iload_n 1, 1) := by decide +kernel
theorem dL_first_16 : decode cL_first 16 = .ok (.invokestatic 14, 3) := by decide +kernel
theorem dL_first_19 : decode cL_first 19 = .ok (.istore 5, 2) := by decide +kernel
theorem dL_first_21 : decode cL_first 21 = .ok (.aload_n 0, 1) := by decide +kernel
theorem dL_first_22 : decode cL_first 22 = .ok (.iload 5, 2) := by decide +kernel
theorem dL_first_24 : decode cL_first 24 = .ok (.invokevirtual 20, 3) := by decide +kernel
theorem dL_first_27 : decode cL_first 27 = .ok (.ifCond .ne 6, 3) := by decide +kernel
theorem dL_first_30 : decode cL_first 30 = .ok (.goto 41, 3) := by decide +kernel
theorem dL_first_33 : decode cL_first 33 = .ok (.aload_n 0, 1) := by decide +kernel
theorem dL_first_34 : decode cL_first 34 = .ok (.iload 5, 2) := by decide +kernel
theorem dL_first_36 : decode cL_first 36 = .ok (.invokevirtual 31, 3) := by decide +kernel
theorem dL_first_39 : decode cL_first 39 = .ok (.istore 6, 2) := by decide +kernel
theorem dL_first_41 : decode cL_first 41 = .ok (.aload_n 0, 1) := by decide +kernel
theorem dL_first_42 : decode cL_first 42 = .ok (.invokevirtual 34, 3) := by decide +kernel
theorem dL_first_45 : decode cL_first 45 = .ok (.iconst 1, 1) := by decide +kernel
theorem dL_first_46 : decode cL_first 46 = .ok (.if_icmp .ne 23, 3) := by decide +kernel
theorem dL_first_49 : decode cL_first 49 = .ok (.aload_n 0, 1) := by decide +kernel
theorem dL_first_50 : decode cL_first 50 = .ok (.invokevirtual 37, 3) := by decide +kernel
theorem dL_first_53 : decode cL_first 53 = .ok (.iload 6, 2) := by decide +kernel
theorem dL_first_55 : decode cL_first 55 = .ok (.if_icmp .ne 14, 3) := by decide +kernel
theorem dL_first_58 : decode cL_first 58 = .ok (.aload_n 0, 1) := by decide +kernel
theorem dL_first_59 : decode cL_first 59 = .ok (.iload 6, 2) := by decide +kernel
theorem dL_first_61 : decode cL_first 61 = .ok (.invokevirtual 40, 3) := by decide +kernel
theorem dL_first_64 : decode cL_first 64 = .ok (.bipush 12, 2) := by decide +kernel
theorem dL_first_66 : decode cL_first 66 = .ok (.if_icmp .eq 5, 3) := by decide +kernel
theorem dL_first_69 : decode cL_first 69 = .ok (.iconst 0, 1) := by decide +kernel
theorem dL_first_70 : decode cL_first 70 = .ok (.ireturn, 1) := by decide +kernel
theorem dL_first_71 : decode cL_first 71 = .ok (.iinc 4 1, 3) := by decide +kernel
theorem dL_first_74 : decode cL_first 74 = .ok (.goto (-71), 3) := by decide +kernel
theorem dL_first_77 : decode cL_first 77 = .ok (.iconst 1, 1) := by decide +kernel
theorem dL_first_78 : decode cL_first 78 = .ok (.ireturn, 1) := by decide +kernel
set_option maxRecDepth 20000 in
theorem ggL_bounds_L_fill : GoodIn wsL_bounds wsL_fill := goodIn_ca (goodIn_ca (goodIn_ca (goodIn_r _ [4, 5, 6, 7, 8, 9, 10, 11, 12, 13, 14, 15, 16, 17, 18, 19, 20, 21, 22, 23, 24, 25, 26, 27, 28, 29, 30, 31, 32, 33, 3, 34, 35, 36, 37, 38, 39, 40, 41, 42, 43, 44, 45, 46, 47, 48, 49, 50, 51, 52, 53, 54, 55, 56, 57, 58, 59, 60, 61, 62, 63, 64, 65, 66, 67, 68, 69, 70, 71, 72, 73, 74, 75, 76, 77, 78, 79, 80, 81, 82, 83, 84, 202, 203, 204, 205, 206, 207, 208, 209, 210, 211, 212, 213, 214, 215, 216, 217, 218, 219, 220] (by decide +kernel) (by decide +kernel)) (goodIn_sub (fun _ h => List.mem_cons_of_mem _ (List.mem_append_left _ (List.mem_append_left _ (List.mem_append_right _ h)))) (by decide +kernel))) (goodIn_sub (fun _ h => List.mem_cons_of_mem _ (List.mem_append_left _ (List.mem_append_right _ h))) (by decide +kernel))) (goodIn_sub (fun _ h => List.mem_cons_of_mem _ (List.mem_append_right _ h)) (by decide +kernel))
set_option maxRecDepth 20000 in
theorem gL_bounds_L_fill : GoodIn wsL_bounds (va_wsS RL 43 yL_fill wsL_fill) := goodIn_app (goodIn_of _ (by decide +kernel)) ggL_bounds_L_fill
set_option maxRecDepth 20000 in
theorem ggL_bounds_L_first : GoodIn wsL_bounds wsL_first := goodIn_ca (goodIn_ca (goodIn_r _ [87, 32, 33, 3, 34, 35, 36, 37, 8, 38, 39, 40, 20, 41, 42, 43, 44, 13, 45, 46, 47, 29, 48, 31, 88, 89, 90, 91, 53, 54, 92, 93, 94, 95, 96, 97, 98, 99, 15, 100, 101, 102, 103, 12, 71, 104, 105, 106, 107, 24, 23, 66, 25, 108, 109, 110, 111, 76, 112, 113, 114, 115, 116, 117, 118, 119, 120, 121, 122, 123, 124, 125, 126, 127, 128, 129, 130, 131, 21, 132, 133, 134, 135, 136, 137, 138, 139, 140, 202, 203, 204, 205, 206, 207, 208, 209, 210, 211, 212, 213, 214, 215, 216, 217, 218, 219, 220] (by decide +kernel) (by decide +kernel)) (goodIn_sub (fun _ h => List.mem_cons_of_mem _ (List.mem_append_left _ (List.mem_append_right _ h))) (by decide +kernel))) (goodIn_sub (fun _ h => List.mem_cons_of_mem _ (List.mem_append_right _ h)) (by decide +kernel))
set_option maxRecDepth 20000 in
theorem gL_bounds_L_first : GoodIn wsL_bounds (va_wsS RL 47 yL_first wsL_first) := goodIn_app (goodIn_of _ (by decide +kernel)) ggL_bounds_L_first
set_option maxRecDepth 20000 in
theorem ggL_bounds_X2_inLane : GoodIn wsL_bounds wsX2_inLane := goodIn_ca (goodIn_r _ [38, 39, 40, 20, 41, 42, 43, 8, 44, 13, 45, 46, 47, 29, 48, 31, 202, 203, 204, 205, 206, 207, 208, 209, 210, 211, 212, 213, 214, 215, 216, 217, 218, 219, 220] (by decide +kernel) (by decide +kernel)) (goodIn_sub (fun _ h => List.mem_cons_of_mem _ (List.mem_append_left _ (List.mem_append_right _ h))) (by decide +kernel))
set_option maxRecDepth 20000 in
theorem gL_bounds_X2_inLane : GoodIn wsL_bounds (wsV RL 20 RX2 yX2_inLane wsX2_inLane) := goodIn_app (goodIn_of _ (by decide +kernel)) ggL_bounds_X2_inLane
set_option maxRecDepth 20000 in
theorem ggL_bounds_X2_changes : GoodIn wsL_bounds wsX2_changes := goodIn_r _ [144, 24, 202, 203, 204, 205, 206, 207, 208, 209, 210, 211, 212, 213, 214, 215, 216, 217, 218] (by decide +kernel) (by decide +kernel)
set_option maxRecDepth 20000 in
theorem gL_bounds_X2_changes : GoodIn wsL_bounds (wsV RL 51 RX2 yX2_changes wsX2_changes) := goodIn_app (goodIn_of _ (by decide +kernel)) ggL_bounds_X2_changes
set_option maxRecDepth 20000 in
theorem ggL_bounds_X2_releaseFrom : GoodIn wsL_bounds wsX2_releaseFrom := goodIn_ca (goodIn_ca (goodIn_r _ [91, 39, 40, 53, 54, 20, 41, 42, 43, 8, 44, 13, 92, 93, 94, 29, 95, 31, 96, 97, 98, 99, 15, 100, 101, 102, 103, 12, 71, 104, 105, 106, 107, 24, 23, 66, 25, 108, 109, 110, 111, 76, 112, 113, 114, 115, 116, 117, 118, 119, 120, 121, 122, 202, 203, 204, 205, 206, 207, 208, 209, 210, 211, 212, 213, 214, 215, 216, 217, 218, 219, 220] (by decide +kernel) (by decide +kernel)) (goodIn_sub (fun _ h => List.mem_cons_of_mem _ (List.mem_append_left _ (List.mem_append_right _ h))) (by decide +kernel))) (goodIn_sub (fun _ h => List.mem_cons_of_mem _ (List.mem_append_right _ h)) (by decide +kernel))
set_option maxRecDepth 20000 in
theorem gL_bounds_X2_releaseFrom : GoodIn wsL_bounds (wsV RL 31 RX2 yX2_releaseFrom wsX2_releaseFrom) := goodIn_app (goodIn_of _ (by decide +kernel)) ggL_bounds_X2_releaseFrom
set_option maxRecDepth 20000 in
theorem ggL_bounds_X2_fewestChanges : GoodIn wsL_bounds wsX2_fewestChanges := goodIn_ca (goodIn_r _ [148, 53, 54, 149, 23, 150, 151, 152, 8, 153, 13, 20, 45, 46, 47, 29, 48, 31, 154, 155, 156, 157, 158, 159, 160, 161, 162, 163, 164, 113, 114, 115, 76, 165, 166, 167, 168, 66, 116, 117, 118, 119, 12, 169, 170, 171, 172, 173, 174, 175, 176, 177, 178, 179, 180, 181, 182, 183, 184, 185, 186, 187, 188, 189, 190, 191, 192, 193, 194, 195, 196, 197, 198, 199, 200, 201, 202, 203, 204, 205, 206, 207, 208, 209, 210, 211, 212, 213, 214, 215, 216, 217, 218, 219, 220, 221, 222, 223, 224, 225, 226] (by decide +kernel) (by decide +kernel)) (goodIn_sub (fun _ h => List.mem_cons_of_mem _ (List.mem_append_right _ h)) (by decide +kernel))
set_option maxRecDepth 20000 in
theorem gL_bounds_X2_fewestChanges : GoodIn wsL_bounds (wsV RL 54 RX2 yX2_fewestChanges wsX2_fewestChanges) := goodIn_app (goodIn_of _ (by decide +kernel)) ggL_bounds_X2_fewestChanges
theorem dL_bounds_0 : decode cL_bounds 0 = .ok (.iconst 0, 1) := by decide +kernel
theorem dL_bounds_1 : decode cL_bounds 1 = .ok (.istore 6, 2) := by decide +kernel
theorem dL_bounds_3 : decode cL_bounds 3 = .ok (.iload 6, 2) := by decide +kernel
theorem dL_bounds_5 : decode cL_bounds 5 = .ok (.iload_n 1, 1) := by decide +kernel
theorem dL_bounds_6 : decode cL_bounds 6 = .ok (.if_icmp .ge 74, 3) := by decide +kernel
theorem dL_bounds_9 : decode cL_bounds 9 = .ok (.aload_n 0, 1) := by decide +kernel
theorem dL_bounds_10 : decode cL_bounds 10 = .ok (.iload_n 1, 1) := by decide +kernel
theorem dL_bounds_11 : decode cL_bounds 11 = .ok (.iload_n 2, 1) := by decide +kernel
theorem dL_bounds_12 : decode cL_bounds 12 = .ok (.iload_n 3, 1) := by decide +kernel
theorem dL_bounds_13 : decode cL_bounds 13 = .ok (.invokestatic 43, 3) := by decide +kernel
theorem dL_bounds_16 : decode cL_bounds 16 = .ok (.pop, 1) := by decide +kernel
theorem dL_bounds_17 : decode cL_bounds 17 = .ok (.aload_n 0, 1) := by decide +kernel
theorem dL_bounds_18 : decode cL_bounds 18 = .ok (.iload_n 1, 1) := by decide +kernel
theorem dL_bounds_19 : decode cL_bounds 19 = .ok (.iload 4, 2) := by decide +kernel
theorem dL_bounds_21 : decode cL_bounds 21 = .ok (.iconst 2, 1) := by decide +kernel
theorem dL_bounds_22 : decode cL_bounds 22 = .ok (.invokestatic 47, 3) := by decide +kernel
theorem dL_bounds_25 : decode cL_bounds 25 = .ok (.ifCond .ne 5, 3) := by decide +kernel
theorem dL_bounds_28 : decode cL_bounds 28 = .ok (.iconst 0, 1) := by decide +kernel
theorem dL_bounds_29 : decode cL_bounds 29 = .ok (.ireturn, 1) := by decide +kernel
theorem dL_bounds_30 : decode cL_bounds 30 = .ok (.aload_n 0, 1) := by decide +kernel
theorem dL_bounds_31 : decode cL_bounds 31 = .ok (.iload 6, 2) := by decide +kernel
theorem dL_bounds_33 : decode cL_bounds 33 = .ok (.invokevirtual 20, 3) := by decide +kernel
theorem dL_bounds_36 : decode cL_bounds 36 = .ok (.ifCond .ne 6, 3) := by decide +kernel
theorem dL_bounds_39 : decode cL_bounds 39 = .ok (.goto 35, 3) := by decide +kernel
theorem dL_bounds_42 : decode cL_bounds 42 = .ok (.aload_n 0, 1) := by decide +kernel
theorem dL_bounds_43 : decode cL_bounds 43 = .ok (.invokevirtual 51, 3) := by decide +kernel
theorem dL_bounds_46 : decode cL_bounds 46 = .ok (.istore 7, 2) := by decide +kernel
theorem dL_bounds_48 : decode cL_bounds 48 = .ok (.aload_n 0, 1) := by decide +kernel
theorem dL_bounds_49 : decode cL_bounds 49 = .ok (.iload 6, 2) := by decide +kernel
theorem dL_bounds_51 : decode cL_bounds 51 = .ok (.invokevirtual 31, 3) := by decide +kernel
theorem dL_bounds_54 : decode cL_bounds 54 = .ok (.pop, 1) := by decide +kernel
theorem dL_bounds_55 : decode cL_bounds 55 = .ok (.aload_n 0, 1) := by decide +kernel
theorem dL_bounds_56 : decode cL_bounds 56 = .ok (.invokevirtual 51, 3) := by decide +kernel
theorem dL_bounds_59 : decode cL_bounds 59 = .ok (.iload 7, 2) := by decide +kernel
theorem dL_bounds_61 : decode cL_bounds 61 = .ok (.isub, 1) := by decide +kernel
theorem dL_bounds_62 : decode cL_bounds 62 = .ok (.aload_n 0, 1) := by decide +kernel
theorem dL_bounds_63 : decode cL_bounds 63 = .ok (.invokevirtual 54, 3) := by decide +kernel
theorem dL_bounds_66 : decode cL_bounds 66 = .ok (.iadd, 1) := by decide +kernel
theorem dL_bounds_67 : decode cL_bounds 67 = .ok (.iload 5, 2) := by decide +kernel
theorem dL_bounds_69 : decode cL_bounds 69 = .ok (.if_icmp .ge 5, 3) := by decide +kernel
theorem dL_bounds_72 : decode cL_bounds 72 = .ok (.iconst 0, 1) := by decide +kernel
theorem dL_bounds_73 : decode cL_bounds 73 = .ok (.ireturn, 1) := by decide +kernel
theorem dL_bounds_74 : decode cL_bounds 74 = .ok (.iinc 6 1, 3) := by decide +kernel
theorem dL_bounds_77 : decode cL_bounds 77 = .ok (.goto (-74), 3) := by decide +kernel
theorem dL_bounds_80 : decode cL_bounds 80 = .ok (.iconst 1, 1) := by decide +kernel
theorem dL_bounds_81 : decode cL_bounds 81 = .ok (.ireturn, 1) := by decide +kernel
set_option maxRecDepth 20000 in
theorem ggL_follows_X2_changes : GoodIn wsL_follows wsX2_changes := goodIn_r _ [5, 6, 140, 141, 142, 143, 144, 145, 146, 147, 148, 149, 150, 151, 152, 153, 154, 155, 156] (by decide +kernel) (by decide +kernel)
set_option maxRecDepth 20000 in
theorem gL_follows_X2_changes : GoodIn wsL_follows (wsV RL 51 RX2 yX2_changes wsX2_changes) := goodIn_app (goodIn_of _ (by decide +kernel)) ggL_follows_X2_changes
set_option maxRecDepth 20000 in
theorem ggL_follows_X2_released : GoodIn wsL_follows wsX2_released := goodIn_r _ [10, 11, 140, 141, 142, 143, 144, 145, 146, 147, 148, 149, 150, 151, 152, 153, 154, 155, 156] (by decide +kernel) (by decide +kernel)
set_option maxRecDepth 20000 in
theorem gL_follows_X2_released : GoodIn wsL_follows (wsV RL 57 RX2 yX2_released wsX2_released) := goodIn_app (goodIn_of _ (by decide +kernel)) ggL_follows_X2_released
set_option maxRecDepth 20000 in
theorem ggL_follows_X2_bodies : GoodIn wsL_follows wsX2_bodies := goodIn_r _ [15, 16, 140, 141, 142, 143, 144, 145, 146, 147, 148, 149, 150, 151, 152, 153, 154, 155, 156] (by decide +kernel) (by decide +kernel)
set_option maxRecDepth 20000 in
theorem gL_follows_X2_bodies : GoodIn wsL_follows (wsV RL 27 RX2 yX2_bodies wsX2_bodies) := goodIn_app (goodIn_of _ (by decide +kernel)) ggL_follows_X2_bodies
set_option maxRecDepth 20000 in
theorem ggL_follows_X2_releaseBest : GoodIn wsL_follows wsX2_releaseBest := goodIn_ca (goodIn_r _ [20, 21, 22, 23, 24, 25, 26, 27, 4, 28, 29, 30, 31, 32, 33, 16, 34, 35, 36, 37, 38, 39, 40, 41, 42, 43, 44, 45, 46, 47, 48, 49, 50, 51, 52, 53, 54, 55, 56, 57, 58, 59, 60, 61, 62, 63, 64, 65, 66, 67, 68, 69, 70, 71, 72, 73, 74, 75, 76, 77, 78, 79, 80, 81, 82, 83, 84, 85, 86, 87, 88, 89, 90, 91, 92, 93, 94, 95, 96, 97, 98, 99, 100, 101, 102, 103, 104, 105, 106, 107, 108, 109, 110, 111, 112, 113, 114, 115, 116, 117, 6, 11, 118, 119, 120, 121, 122, 123, 140, 141, 142, 143, 144, 145, 146, 147, 148, 149, 150, 151, 152, 153, 154, 155, 156, 157, 158, 159, 160, 161, 162, 163, 164] (by decide +kernel) (by decide +kernel)) (goodIn_sub (fun _ h => List.mem_cons_of_mem _ (List.mem_append_right _ h)) (by decide +kernel))
set_option maxRecDepth 20000 in
theorem gL_follows_X2_releaseBest : GoodIn wsL_follows (wsV RL 60 RX2 yX2_releaseBest wsX2_releaseBest) := goodIn_app (goodIn_of _ (by decide +kernel)) ggL_follows_X2_releaseBest
set_option maxRecDepth 20000 in
theorem ggL_follows_X2_fewestChanges : GoodIn wsL_follows wsX2_fewestChanges := goodIn_ca (goodIn_r _ [127, 21, 22, 23, 24, 35, 36, 37, 4, 38, 39, 40, 41, 42, 43, 44, 45, 46, 47, 48, 49, 50, 51, 52, 53, 54, 55, 56, 57, 58, 59, 60, 61, 62, 63, 64, 65, 66, 67, 68, 69, 70, 16, 71, 72, 73, 74, 75, 128, 81, 82, 83, 84, 85, 86, 87, 88, 89, 90, 91, 92, 93, 94, 95, 96, 97, 98, 99, 100, 101, 102, 103, 104, 105, 106, 107, 140, 141, 142, 143, 144, 145, 146, 147, 148, 149, 150, 151, 152, 153, 154, 155, 156, 157, 158, 159, 160, 161, 162, 163, 164] (by decide +kernel) (by decide +kernel)) (goodIn_sub (fun _ h => List.mem_cons_of_mem _ (List.mem_append_right _ h)) (by decide +kernel))
set_option maxRecDepth 20000 in
theorem gL_follows_X2_fewestChanges : GoodIn wsL_follows (wsV RL 54 RX2 yX2_fewestChanges wsX2_fewestChanges) := goodIn_app (goodIn_of _ (by decide +kernel)) ggL_follows_X2_fewestChanges
set_option maxRecDepth 20000 in
theorem ggL_follows_X2_assemble : GoodIn wsL_follows wsX2_assemble := goodIn_ca (goodIn_r _ [132, 21, 22, 34, 133, 134, 135, 136, 137, 138, 4, 139, 16, 140, 141, 142, 143, 144, 145, 146, 147, 148, 149, 150, 151, 152, 153, 154, 155, 156] (by decide +kernel) (by decide +kernel)) (goodIn_sub (fun _ h => List.mem_cons_of_mem _ (List.mem_append_right _ h)) (by decide +kernel))
set_option maxRecDepth 20000 in
theorem gL_follows_X2_assemble : GoodIn wsL_follows (wsV RL 37 RX2 yX2_assemble wsX2_assemble) := goodIn_app (goodIn_of _ (by decide +kernel)) ggL_follows_X2_assemble
theorem dL_follows_0 : decode cL_follows 0 = .ok (.aload_n 0, 1) := by decide +kernel
theorem dL_follows_1 : decode cL_follows 1 = .ok (.invokevirtual 51, 3) := by decide +kernel
theorem dL_follows_4 : decode cL_follows 4 = .ok (.istore_n 2, 1) := by decide +kernel
theorem dL_follows_5 : decode cL_follows 5 = .ok (.iload_n 1, 1) := by decide +kernel
theorem dL_follows_6 : decode cL_follows 6 = .ok (.istore_n 3, 1) := by decide +kernel
theorem dL_follows_7 : decode cL_follows 7 = .ok (.aload_n 0, 1) := by decide +kernel
theorem dL_follows_8 : decode cL_follows 8 = .ok (.invokevirtual 57, 3) := by decide +kernel
theorem dL_follows_11 : decode cL_follows 11 = .ok (.aload_n 0, 1) := by decide +kernel
theorem dL_follows_12 : decode cL_follows 12 = .ok (.invokevirtual 27, 3) := by decide +kernel
theorem dL_follows_15 : decode cL_follows 15 = .ok (.if_icmp .ge 47, 3) := by decide +kernel
theorem dL_follows_18 : decode cL_follows 18 = .ok (.aload_n 0, 1) := by decide +kernel
theorem dL_follows_19 : decode cL_follows 19 = .ok (.invokevirtual 51, 3) := by decide +kernel
theorem dL_follows_22 : decode cL_follows 22 = .ok (.istore 4, 2) := by decide +kernel
theorem dL_follows_24 : decode cL_follows 24 = .ok (.aload_n 0, 1) := by decide +kernel
theorem dL_follows_25 : decode cL_follows 25 = .ok (.invokevirtual 60, 3) := by decide +kernel
theorem dL_follows_28 : decode cL_follows 28 = .ok (.istore 5, 2) := by decide +kernel
theorem dL_follows_30 : decode cL_follows 30 = .ok (.iload_n 3, 1) := by decide +kernel
theorem dL_follows_31 : decode cL_follows 31 = .ok (.aload_n 0, 1) := by decide +kernel
theorem dL_follows_32 : decode cL_follows 32 = .ok (.invokevirtual 51, 3) := by decide +kernel
theorem dL_follows_35 : decode cL_follows 35 = .ok (.iload 4, 2) := by decide +kernel
theorem dL_follows_37 : decode cL_follows 37 = .ok (.isub, 1) := by decide +kernel
theorem dL_follows_38 : decode cL_follows 38 = .ok (.isub, 1) := by decide +kernel
theorem dL_follows_39 : decode cL_follows 39 = .ok (.istore_n 3, 1) := by decide +kernel
theorem dL_follows_40 : decode cL_follows 40 = .ok (.aload_n 0, 1) := by decide +kernel
theorem dL_follows_41 : decode cL_follows 41 = .ok (.invokevirtual 54, 3) := by decide +kernel
theorem dL_follows_44 : decode cL_follows 44 = .ok (.iload_n 3, 1) := by decide +kernel
theorem dL_follows_45 : decode cL_follows 45 = .ok (.if_icmp .ne 12, 3) := by decide +kernel
theorem dL_follows_48 : decode cL_follows 48 = .ok (.aload_n 0, 1) := by decide +kernel
theorem dL_follows_49 : decode cL_follows 49 = .ok (.invokevirtual 37, 3) := by decide +kernel
theorem dL_follows_52 : decode cL_follows 52 = .ok (.iload 5, 2) := by decide +kernel
theorem dL_follows_54 : decode cL_follows 54 = .ok (.if_icmp .eq 5, 3) := by decide +kernel
theorem dL_follows_57 : decode cL_follows 57 = .ok (.iconst 0, 1) := by decide +kernel
theorem dL_follows_58 : decode cL_follows 58 = .ok (.ireturn, 1) := by decide +kernel
theorem dL_follows_59 : decode cL_follows 59 = .ok (.goto (-52), 3) := by decide +kernel
theorem dL_follows_62 : decode cL_follows 62 = .ok (.iload_n 3, 1) := by decide +kernel
theorem dL_follows_63 : decode cL_follows 63 = .ok (.ifCond .ne 17, 3) := by decide +kernel
theorem dL_follows_66 : decode cL_follows 66 = .ok (.aload_n 0, 1) := by decide +kernel
theorem dL_follows_67 : decode cL_follows 67 = .ok (.invokevirtual 51, 3) := by decide +kernel
theorem dL_follows_70 : decode cL_follows 70 = .ok (.iload_n 2, 1) := by decide +kernel
theorem dL_follows_71 : decode cL_follows 71 = .ok (.iload_n 1, 1) := by decide +kernel
theorem dL_follows_72 : decode cL_follows 72 = .ok (.iadd, 1) := by decide +kernel
theorem dL_follows_73 : decode cL_follows 73 = .ok (.if_icmp .ne 7, 3) := by decide +kernel
theorem dL_follows_76 : decode cL_follows 76 = .ok (.iconst 1, 1) := by decide +kernel
theorem dL_follows_77 : decode cL_follows 77 = .ok (.goto 4, 3) := by decide +kernel
theorem dL_follows_80 : decode cL_follows 80 = .ok (.iconst 0, 1) := by decide +kernel
theorem dL_follows_81 : decode cL_follows 81 = .ok (.ireturn, 1) := by decide +kernel
set_option maxRecDepth 20000 in
theorem ggL_ends_X2_assembledAt : GoodIn wsL_ends wsX2_assembledAt := goodIn_ca (goodIn_r _ [5, 6, 7, 8, 9, 35, 36, 37, 38, 39, 40, 41, 42, 43, 44, 45, 46, 47, 48, 49, 50, 51] (by decide +kernel) (by decide +kernel)) (goodIn_sub (fun _ h => List.mem_cons_of_mem _ (List.mem_append_left _ (List.mem_append_right _ h))) (by decide +kernel))
set_option maxRecDepth 20000 in
theorem gL_ends_X2_assembledAt : GoodIn wsL_ends (wsV RL 63 RX2 yX2_assembledAt wsX2_assembledAt) := goodIn_app (goodIn_of _ (by decide +kernel)) ggL_ends_X2_assembledAt
set_option maxRecDepth 20000 in
theorem ggL_ends_X2_lateness : GoodIn wsL_ends wsX2_lateness := goodIn_ca (goodIn_ca (goodIn_r _ [13, 6, 7, 14, 15, 16, 17, 18, 19, 20, 4, 21, 22, 35, 36, 37, 38, 39, 40, 41, 42, 43, 44, 45, 46, 47, 48, 49, 50, 51] (by decide +kernel) (by decide +kernel)) (goodIn_sub (fun _ h => List.mem_cons_of_mem _ (List.mem_append_left _ (List.mem_append_right _ h))) (by decide +kernel))) (goodIn_sub (fun _ h => List.mem_cons_of_mem _ (List.mem_append_right _ h)) (by decide +kernel))
set_option maxRecDepth 20000 in
theorem gL_ends_X2_lateness : GoodIn wsL_ends (wsV RL 66 RX2 yX2_lateness wsX2_lateness) := goodIn_app (goodIn_of _ (by decide +kernel)) ggL_ends_X2_lateness
set_option maxRecDepth 20000 in
theorem ggL_ends_X2_worstLateness : GoodIn wsL_ends wsX2_worstLateness := goodIn_r _ [26, 8, 9, 35, 36, 37, 38, 39, 40, 41, 42, 43, 44, 45, 46, 47, 48, 49, 50, 51] (by decide +kernel) (by decide +kernel)
set_option maxRecDepth 20000 in
theorem gL_ends_X2_worstLateness : GoodIn wsL_ends (wsV RL 69 RX2 yX2_worstLateness wsX2_worstLateness) := goodIn_app (goodIn_of _ (by decide +kernel)) ggL_ends_X2_worstLateness
set_option maxRecDepth 20000 in
theorem ggL_ends_X2_stored : GoodIn wsL_ends wsX2_stored := goodIn_r _ [30, 31, 32, 33, 4, 34, 22, 16, 35, 36, 37, 38, 39, 40, 41, 42, 43, 44, 45, 46, 47, 48, 49, 50, 51] (by decide +kernel) (by decide +kernel)
set_option maxRecDepth 20000 in
theorem gL_ends_X2_stored : GoodIn wsL_ends (wsV RL 34 RX2 yX2_stored wsX2_stored) := goodIn_app (goodIn_of _ (by decide +kernel)) ggL_ends_X2_stored
theorem dL_ends_0 : decode cL_ends 0 = .ok (.iconst 0, 1) := by decide +kernel
theorem dL_ends_1 : decode cL_ends 1 = .ok (.istore_n 2, 1) := by decide +kernel
theorem dL_ends_2 : decode cL_ends 2 = .ok (.iconst 0, 1) := by decide +kernel
theorem dL_ends_3 : decode cL_ends 3 = .ok (.istore_n 3, 1) := by decide +kernel
theorem dL_ends_4 : decode cL_ends 4 = .ok (.iconst 0, 1) := by decide +kernel
theorem dL_ends_5 : decode cL_ends 5 = .ok (.istore 4, 2) := by decide +kernel
theorem dL_ends_7 : decode cL_ends 7 = .ok (.iconst 0, 1) := by decide +kernel
theorem dL_ends_8 : decode cL_ends 8 = .ok (.istore 5, 2) := by decide +kernel
theorem dL_ends_10 : decode cL_ends 10 = .ok (.iload 5, 2) := by decide +kernel
theorem dL_ends_12 : decode cL_ends 12 = .ok (.iload_n 1, 1) := by decide +kernel
theorem dL_ends_13 : decode cL_ends 13 = .ok (.if_icmp .ge 57, 3) := by decide +kernel
theorem dL_ends_16 : decode cL_ends 16 = .ok (.aload_n 0, 1) := by decide +kernel
theorem dL_ends_17 : decode cL_ends 17 = .ok (.iload 5, 2) := by decide +kernel
theorem dL_ends_19 : decode cL_ends 19 = .ok (.invokevirtual 63, 3) := by decide +kernel
theorem dL_ends_22 : decode cL_ends 22 = .ok (.istore 6, 2) := by decide +kernel
theorem dL_ends_24 : decode cL_ends 24 = .ok (.iload_n 3, 1) := by decide +kernel
theorem dL_ends_25 : decode cL_ends 25 = .ok (.iconst 1, 1) := by decide +kernel
theorem dL_ends_26 : decode cL_ends 26 = .ok (.iload 6, 2) := by decide +kernel
theorem dL_ends_28 : decode cL_ends 28 = .ok (.ishl, 1) := by decide +kernel
theorem dL_ends_29 : decode cL_ends 29 = .ok (.ior, 1) := by decide +kernel
theorem dL_ends_30 : decode cL_ends 30 = .ok (.istore_n 3, 1) := by decide +kernel
theorem dL_ends_31 : decode cL_ends 31 = .ok (.iload_n 2, 1) := by decide +kernel
theorem dL_ends_32 : decode cL_ends 32 = .ok (.aload_n 0, 1) := by decide +kernel
theorem dL_ends_33 : decode cL_ends 33 = .ok (.iload 6, 2) := by decide +kernel
theorem dL_ends_35 : decode cL_ends 35 = .ok (.invokevirtual 66, 3) := by decide +kernel
theorem dL_ends_38 : decode cL_ends 38 = .ok (.iadd, 1) := by decide +kernel
theorem dL_ends_39 : decode cL_ends 39 = .ok (.istore_n 2, 1) := by decide +kernel
theorem dL_ends_40 : decode cL_ends 40 = .ok (.aload_n 0, 1) := by decide +kernel
theorem dL_ends_41 : decode cL_ends 41 = .ok (.iload 6, 2) := by decide +kernel
theorem dL_ends_43 : decode cL_ends 43 = .ok (.invokevirtual 66, 3) := by decide +kernel
theorem dL_ends_46 : decode cL_ends 46 = .ok (.iload 4, 2) := by decide +kernel
theorem dL_ends_48 : decode cL_ends 48 = .ok (.if_icmp .le 12, 3) := by decide +kernel
theorem dL_ends_51 : decode cL_ends 51 = .ok (.aload_n 0, 1) := by decide +kernel
theorem dL_ends_52 : decode cL_ends 52 = .ok (.iload 6, 2) := by decide +kernel
theorem dL_ends_54 : decode cL_ends 54 = .ok (.invokevirtual 66, 3) := by decide +kernel
theorem dL_ends_57 : decode cL_ends 57 = .ok (.goto 5, 3) := by decide +kernel
theorem dL_ends_60 : decode cL_ends 60 = .ok (.iload 4, 2) := by decide +kernel
theorem dL_ends_62 : decode cL_ends 62 = .ok (.istore 4, 2) := by decide +kernel
theorem dL_ends_64 : decode cL_ends 64 = .ok (.iinc 5 1, 3) := by decide +kernel
theorem dL_ends_67 : decode cL_ends 67 = .ok (.goto (-57), 3) := by decide +kernel
theorem dL_ends_70 : decode cL_ends 70 = .ok (.iload_n 2, 1) := by decide +kernel
theorem dL_ends_71 : decode cL_ends 71 = .ok (.ifCond .ne 32, 3) := by decide +kernel
theorem dL_ends_74 : decode cL_ends 74 = .ok (.iload_n 3, 1) := by decide +kernel
theorem dL_ends_75 : decode cL_ends 75 = .ok (.iconst 1, 1) := by decide +kernel
theorem dL_ends_76 : decode cL_ends 76 = .ok (.iload_n 1, 1) := by decide +kernel
theorem dL_ends_77 : decode cL_ends 77 = .ok (.ishl, 1) := by decide +kernel
theorem dL_ends_78 : decode cL_ends 78 = .ok (.iconst 1, 1) := by decide +kernel
theorem dL_ends_79 : decode cL_ends 79 = .ok (.isub, 1) := by decide +kernel
theorem dL_ends_80 : decode cL_ends 80 = .ok (.if_icmp .ne 23, 3) := by decide +kernel
theorem dL_ends_83 : decode cL_ends 83 = .ok (.aload_n 0, 1) := by decide +kernel
theorem dL_ends_84 : decode cL_ends 84 = .ok (.invokevirtual 69, 3) := by decide +kernel
theorem dL_ends_87 : decode cL_ends 87 = .ok (.iload 4, 2) := by decide +kernel
theorem dL_ends_89 : decode cL_ends 89 = .ok (.if_icmp .ne 14, 3) := by decide +kernel
theorem dL_ends_92 : decode cL_ends 92 = .ok (.aload_n 0, 1) := by decide +kernel
theorem dL_ends_93 : decode cL_ends 93 = .ok (.invokevirtual 34, 3) := by decide +kernel
theorem dL_ends_96 : decode cL_ends 96 = .ok (.ifCond .ne 7, 3) := by decide +kernel
theorem dL_ends_99 : decode cL_ends 99 = .ok (.iconst 1, 1) := by decide +kernel
theorem dL_ends_100 : decode cL_ends 100 = .ok (.goto 4, 3) := by decide +kernel
theorem dL_ends_103 : decode cL_ends 103 = .ok (.iconst 0, 1) := by decide +kernel
theorem dL_ends_104 : decode cL_ends 104 = .ok (.ireturn, 1) := by decide +kernel
set_option maxRecDepth 20000 in
theorem ggL_round_L_at : GoodIn wsL_round wsL_at := goodIn_r _ [4] (by decide +kernel) (by decide +kernel)
set_option maxRecDepth 20000 in
theorem gL_round_L_at : GoodIn wsL_round (va_wsS RL 14 yL_at wsL_at) := goodIn_app (goodIn_of _ (by decide +kernel)) ggL_round_L_at
set_option maxRecDepth 20000 in
theorem ggL_round_L_fill : GoodIn wsL_round wsL_fill := goodIn_ca (goodIn_ca (goodIn_ca (goodIn_r _ [7, 8, 9, 10, 11, 12, 13, 14, 15, 16, 17, 18, 19, 20, 21, 22, 23, 24, 25, 26, 27, 28, 29, 30, 31, 32, 33, 34, 1, 2, 3, 4, 35, 36, 37, 38, 39, 40, 41, 42, 43, 44, 45, 46, 47, 48, 49, 50, 51, 52, 53, 54, 55, 56, 57, 58, 59, 60, 61, 62, 63, 64, 65, 66, 67, 68, 69, 70, 71, 72, 73, 74, 75, 76, 77, 78, 79, 80, 81, 82, 83, 84, 251, 252, 253, 254, 255, 256, 257, 258, 259, 260, 261, 262, 263, 264, 265, 266, 267, 268, 269] (by decide +kernel) (by decide +kernel)) (goodIn_sub (fun _ h => List.mem_cons_of_mem _ (List.mem_append_left _ (List.mem_append_left _ (List.mem_append_right _ h)))) (by decide +kernel))) (goodIn_sub (fun _ h => List.mem_cons_of_mem _ (List.mem_append_left _ (List.mem_append_right _ h))) (by decide +kernel))) (goodIn_sub (fun _ h => List.mem_cons_of_mem _ (List.mem_append_right _ h)) (by decide +kernel))
set_option maxRecDepth 20000 in
theorem gL_round_L_fill : GoodIn wsL_round (va_wsS RL 43 yL_fill wsL_fill) := goodIn_app (goodIn_of _ (by decide +kernel)) ggL_round_L_fill
set_option maxRecDepth 20000 in
theorem ggL_round_L_first : GoodIn wsL_round wsL_first := goodIn_ca (goodIn_ca (goodIn_r _ [87, 1, 2, 3, 4, 35, 36, 37, 11, 38, 39, 40, 23, 41, 42, 43, 44, 16, 45, 46, 47, 32, 48, 34, 88, 89, 90, 91, 53, 54, 92, 93, 94, 95, 96, 97, 98, 99, 18, 100, 101, 102, 103, 15, 71, 104, 105, 106, 107, 27, 26, 66, 28, 108, 109, 110, 111, 76, 112, 113, 114, 115, 116, 117, 118, 119, 120, 121, 122, 123, 124, 125, 126, 127, 128, 129, 130, 131, 24, 132, 133, 134, 135, 136, 137, 138, 139, 140, 251, 252, 253, 254, 255, 256, 257, 258, 259, 260, 261, 262, 263, 264, 265, 266, 267, 268, 269] (by decide +kernel) (by decide +kernel)) (goodIn_sub (fun _ h => List.mem_cons_of_mem _ (List.mem_append_left _ (List.mem_append_right _ h))) (by decide +kernel))) (goodIn_sub (fun _ h => List.mem_cons_of_mem _ (List.mem_append_right _ h)) (by decide +kernel))
set_option maxRecDepth 20000 in
theorem gL_round_L_first : GoodIn wsL_round (va_wsS RL 47 yL_first wsL_first) := goodIn_app (goodIn_of _ (by decide +kernel)) ggL_round_L_first
set_option maxRecDepth 20000 in
theorem ggL_round_X2_fewestChanges : GoodIn wsL_round wsX2_fewestChanges := goodIn_ca (goodIn_r _ [144, 53, 54, 145, 26, 146, 147, 148, 11, 149, 16, 23, 45, 46, 47, 32, 48, 34, 150, 151, 152, 153, 154, 155, 156, 157, 158, 159, 160, 113, 114, 115, 76, 161, 162, 163, 164, 66, 116, 117, 118, 119, 15, 165, 166, 167, 168, 169, 170, 171, 172, 173, 174, 175, 176, 177, 178, 179, 180, 181, 182, 183, 184, 185, 186, 187, 188, 189, 190, 191, 192, 193, 194, 195, 196, 197, 251, 252, 253, 254, 255, 256, 257, 258, 259, 260, 261, 262, 263, 264, 265, 266, 267, 268, 269, 270, 271, 272, 273, 274, 275] (by decide +kernel) (by decide +kernel)) (goodIn_sub (fun _ h => List.mem_cons_of_mem _ (List.mem_append_right _ h)) (by decide +kernel))
set_option maxRecDepth 20000 in
theorem gL_round_X2_fewestChanges : GoodIn wsL_round (wsV RL 54 RX2 yX2_fewestChanges wsX2_fewestChanges) := goodIn_app (goodIn_of _ (by decide +kernel)) ggL_round_X2_fewestChanges
set_option maxRecDepth 20000 in
theorem ggL_round_X2_released : GoodIn wsL_round wsX2_released := goodIn_r _ [201, 28, 251, 252, 253, 254, 255, 256, 257, 258, 259, 260, 261, 262, 263, 264, 265, 266, 267] (by decide +kernel) (by decide +kernel)
set_option maxRecDepth 20000 in
theorem gL_round_X2_released : GoodIn wsL_round (wsV RL 57 RX2 yX2_released wsX2_released) := goodIn_app (goodIn_of _ (by decide +kernel)) ggL_round_X2_released
set_option maxRecDepth 20000 in
theorem ggL_round_X2_fewestByAll : GoodIn wsL_round wsX2_fewestByAll := goodIn_ca (goodIn_r _ [205, 53, 54, 145, 26, 146, 147, 148, 11, 149, 16, 23, 45, 46, 47, 32, 48, 34, 150, 151, 152, 153, 154, 155, 156, 157, 158, 159, 160, 113, 114, 115, 76, 161, 162, 163, 164, 66, 116, 117, 118, 119, 15, 165, 166, 167, 168, 169, 206, 207, 208, 209, 178, 210, 211, 212, 121, 122, 251, 252, 253, 254, 255, 256, 257, 258, 259, 260, 261, 262, 263, 264, 265, 266, 267, 268, 269, 270, 271, 272, 273, 274, 275] (by decide +kernel) (by decide +kernel)) (goodIn_sub (fun _ h => List.mem_cons_of_mem _ (List.mem_append_right _ h)) (by decide +kernel))
set_option maxRecDepth 20000 in
theorem gL_round_X2_fewestByAll : GoodIn wsL_round (wsV RL 72 RX2 yX2_fewestByAll wsX2_fewestByAll) := goodIn_app (goodIn_of _ (by decide +kernel)) ggL_round_X2_fewestByAll
set_option maxRecDepth 20000 in
theorem ggL_round_L_follows : GoodIn wsL_round wsL_follows := goodIn_ca (goodIn_r _ [215, 216, 217, 218, 11, 219, 27, 198, 199, 200, 201, 28, 81, 82, 83, 84, 15, 220, 221, 222, 223, 53, 54, 145, 26, 96, 97, 98, 99, 18, 100, 101, 102, 103, 71, 146, 147, 148, 149, 16, 23, 45, 46, 47, 32, 48, 34, 150, 151, 152, 153, 154, 155, 156, 157, 158, 159, 160, 113, 114, 115, 76, 161, 162, 163, 164, 66, 116, 117, 118, 119, 165, 166, 167, 168, 169, 224, 225, 226, 227, 228, 171, 172, 173, 174, 175, 176, 177, 178, 179, 180, 181, 182, 183, 184, 185, 186, 187, 188, 189, 190, 191, 192, 193, 194, 195, 196, 197, 229, 230, 231, 232, 121, 122, 104, 105, 106, 107, 108, 109, 110, 111, 112, 120, 141, 142, 143, 144, 170, 127, 128, 129, 130, 131, 24, 132, 133, 134, 135, 136, 251, 252, 253, 254, 255, 256, 257, 258, 259, 260, 261, 262, 263, 264, 265, 266, 267, 268, 269, 270, 271, 272, 273, 274, 275] (by decide +kernel) (by decide +kernel)) (goodIn_sub (fun _ h => List.mem_cons_of_mem _ (List.mem_append_right _ h)) (by decide +kernel))
set_option maxRecDepth 20000 in
theorem gL_round_L_follows : GoodIn wsL_round (va_wsS RL 75 yL_follows wsL_follows) := goodIn_app (goodIn_of _ (by decide +kernel)) ggL_round_L_follows
set_option maxRecDepth 20000 in
theorem ggL_round_L_ends : GoodIn wsL_round wsL_ends := goodIn_ca (goodIn_ca (goodIn_r _ [235, 236, 237, 238, 11, 239, 39, 40, 24, 132, 240, 241, 242, 243, 53, 54, 71, 131, 116, 117, 118, 119, 15, 244, 245, 246, 247, 123, 124, 125, 126, 100, 101, 102, 103, 251, 252, 253, 254, 255, 256, 257, 258, 259, 260, 261, 262, 263, 264, 265, 266, 267] (by decide +kernel) (by decide +kernel)) (goodIn_sub (fun _ h => List.mem_cons_of_mem _ (List.mem_append_left _ (List.mem_append_right _ h))) (by decide +kernel))) (goodIn_sub (fun _ h => List.mem_cons_of_mem _ (List.mem_append_right _ h)) (by decide +kernel))
set_option maxRecDepth 20000 in
theorem gL_round_L_ends : GoodIn wsL_round (va_wsS RL 79 yL_ends wsL_ends) := goodIn_app (goodIn_of _ (by decide +kernel)) ggL_round_L_ends
set_option maxRecDepth 20000 in
theorem ggL_round_L_bounds : GoodIn wsL_round wsL_bounds := goodIn_ca (goodIn_ca (goodIn_ca (goodIn_r _ [250, 5, 6, 3, 7, 8, 9, 10, 11, 12, 13, 14, 15, 16, 17, 18, 19, 20, 21, 22, 23, 24, 25, 26, 27, 28, 29, 30, 31, 32, 33, 34, 1, 2, 4, 35, 36, 37, 38, 39, 40, 41, 42, 43, 44, 45, 46, 47, 48, 49, 50, 51, 52, 53, 54, 55, 56, 57, 58, 59, 60, 61, 62, 63, 64, 65, 66, 67, 68, 69, 70, 71, 72, 73, 74, 75, 76, 77, 78, 79, 80, 81, 82, 83, 84, 85, 86, 87, 88, 89, 90, 91, 92, 93, 94, 95, 96, 97, 98, 99, 100, 101, 102, 103, 104, 105, 106, 107, 108, 109, 110, 111, 112, 113, 114, 115, 116, 117, 118, 119, 120, 121, 122, 123, 124, 125, 126, 127, 128, 129, 130, 131, 132, 133, 134, 135, 136, 137, 138, 139, 140, 216, 217, 218, 219, 141, 142, 143, 144, 145, 146, 147, 148, 149, 150, 151, 152, 153, 154, 155, 156, 157, 158, 159, 160, 161, 162, 163, 164, 165, 166, 167, 168, 169, 170, 171, 172, 173, 174, 175, 176, 177, 178, 179, 180, 181, 182, 183, 184, 185, 186, 187, 188, 189, 190, 191, 192, 193, 194, 195, 196, 197, 251, 252, 253, 254, 255, 256, 257, 258, 259, 260, 261, 262, 263, 264, 265, 266, 267, 268, 269, 270, 271, 272, 273, 274, 275] (by decide +kernel) (by decide +kernel)) (goodIn_sub (fun _ h => List.mem_cons_of_mem _ (List.mem_append_left _ (List.mem_append_left _ (List.mem_append_right _ h)))) (by decide +kernel))) (goodIn_sub (fun _ h => List.mem_cons_of_mem _ (List.mem_append_left _ (List.mem_append_right _ h))) (by decide +kernel))) (goodIn_sub (fun _ h => List.mem_cons_of_mem _ (List.mem_append_right _ h)) (by decide +kernel))
set_option maxRecDepth 20000 in
theorem gL_round_L_bounds : GoodIn wsL_round (va_wsS RL 82 yL_bounds wsL_bounds) := goodIn_app (goodIn_of _ (by decide +kernel)) ggL_round_L_bounds
theorem dL_round_0 : decode cL_round 0 = .ok (.iconst 1, 1) := by decide +kernel
theorem dL_round_1 : decode cL_round 1 = .ok (.iload_n 3, 1) := by decide +kernel
theorem dL_round_2 : decode cL_round 2 = .ok (.bipush 9, 2) := by decide +kernel
theorem dL_round_4 : decode cL_round 4 = .ok (.ishr, 1) := by decide +kernel
theorem dL_round_5 : decode cL_round 5 = .ok (.iconst 5, 1) := by decide +kernel
theorem dL_round_6 : decode cL_round 6 = .ok (.invokestatic 14, 3) := by decide +kernel
theorem dL_round_9 : decode cL_round 9 = .ok (.iadd, 1) := by decide +kernel
theorem dL_round_10 : decode cL_round 10 = .ok (.istore 4, 2) := by decide +kernel
theorem dL_round_12 : decode cL_round 12 = .ok (.aload_n 0, 1) := by decide +kernel
theorem dL_round_13 : decode cL_round 13 = .ok (.iload 4, 2) := by decide +kernel
theorem dL_round_15 : decode cL_round 15 = .ok (.iload_n 1, 1) := by decide +kernel
theorem dL_round_16 : decode cL_round 16 = .ok (.iload_n 2, 1) := by decide +kernel
theorem dL_round_17 : decode cL_round 17 = .ok (.invokestatic 43, 3) := by decide +kernel
theorem dL_round_20 : decode cL_round 20 = .ok (.istore 5, 2) := by decide +kernel
theorem dL_round_22 : decode cL_round 22 = .ok (.aload_n 0, 1) := by decide +kernel
theorem dL_round_23 : decode cL_round 23 = .ok (.iload 4, 2) := by decide +kernel
theorem dL_round_25 : decode cL_round 25 = .ok (.iload_n 3, 1) := by decide +kernel
theorem dL_round_26 : decode cL_round 26 = .ok (.iconst 2, 1) := by decide +kernel
theorem dL_round_27 : decode cL_round 27 = .ok (.invokestatic 47, 3) := by decide +kernel
theorem dL_round_30 : decode cL_round 30 = .ok (.ifCond .ne 5, 3) := by decide +kernel
theorem dL_round_33 : decode cL_round 33 = .ok (.iconst 0, 1) := by decide +kernel
theorem dL_round_34 : decode cL_round 34 = .ok (.ireturn, 1) := by decide +kernel
theorem dL_round_35 : decode cL_round 35 = .ok (.aload_n 0, 1) := by decide +kernel
theorem dL_round_36 : decode cL_round 36 = .ok (.invokevirtual 54, 3) := by decide +kernel
theorem dL_round_39 : decode cL_round 39 = .ok (.istore 6, 2) := by decide +kernel
theorem dL_round_41 : decode cL_round 41 = .ok (.iload 6, 2) := by decide +kernel
theorem dL_round_43 : decode cL_round 43 = .ok (.ifCond .lt 31, 3) := by decide +kernel
theorem dL_round_46 : decode cL_round 46 = .ok (.iload 6, 2) := by decide +kernel
theorem dL_round_48 : decode cL_round 48 = .ok (.iload 5, 2) := by decide +kernel
theorem dL_round_50 : decode cL_round 50 = .ok (.if_icmp .gt 24, 3) := by decide +kernel
theorem dL_round_53 : decode cL_round 53 = .ok (.iload 5, 2) := by decide +kernel
theorem dL_round_55 : decode cL_round 55 = .ok (.aload_n 0, 1) := by decide +kernel
theorem dL_round_56 : decode cL_round 56 = .ok (.invokevirtual 57, 3) := by decide +kernel
theorem dL_round_59 : decode cL_round 59 = .ok (.isub, 1) := by decide +kernel
theorem dL_round_60 : decode cL_round 60 = .ok (.bipush 9, 2) := by decide +kernel
theorem dL_round_62 : decode cL_round 62 = .ok (.if_icmp .ge 14, 3) := by decide +kernel
theorem dL_round_65 : decode cL_round 65 = .ok (.aload_n 0, 1) := by decide +kernel
theorem dL_round_66 : decode cL_round 66 = .ok (.invokevirtual 72, 3) := by decide +kernel
theorem dL_round_69 : decode cL_round 69 = .ok (.iload 6, 2) := by decide +kernel
theorem dL_round_71 : decode cL_round 71 = .ok (.if_icmp .eq 5, 3) := by decide +kernel
theorem dL_round_74 : decode cL_round 74 = .ok (.iconst 0, 1) := by decide +kernel
theorem dL_round_75 : decode cL_round 75 = .ok (.ireturn, 1) := by decide +kernel
theorem dL_round_76 : decode cL_round 76 = .ok (.aload_n 0, 1) := by decide +kernel
theorem dL_round_77 : decode cL_round 77 = .ok (.iload 6, 2) := by decide +kernel
theorem dL_round_79 : decode cL_round 79 = .ok (.invokestatic 75, 3) := by decide +kernel
theorem dL_round_82 : decode cL_round 82 = .ok (.ifCond .eq 12, 3) := by decide +kernel
theorem dL_round_85 : decode cL_round 85 = .ok (.aload_n 0, 1) := by decide +kernel
theorem dL_round_86 : decode cL_round 86 = .ok (.iload 5, 2) := by decide +kernel
theorem dL_round_88 : decode cL_round 88 = .ok (.invokestatic 79, 3) := by decide +kernel
theorem dL_round_91 : decode cL_round 91 = .ok (.ifCond .ne 5, 3) := by decide +kernel
theorem dL_round_94 : decode cL_round 94 = .ok (.iconst 0, 1) := by decide +kernel
theorem dL_round_95 : decode cL_round 95 = .ok (.ireturn, 1) := by decide +kernel
theorem dL_round_96 : decode cL_round 96 = .ok (.aload_n 0, 1) := by decide +kernel
theorem dL_round_97 : decode cL_round 97 = .ok (.iload 4, 2) := by decide +kernel
theorem dL_round_99 : decode cL_round 99 = .ok (.iload_n 1, 1) := by decide +kernel
theorem dL_round_100 : decode cL_round 100 = .ok (.iload_n 2, 1) := by decide +kernel
theorem dL_round_101 : decode cL_round 101 = .ok (.iload_n 3, 1) := by decide +kernel
theorem dL_round_102 : decode cL_round 102 = .ok (.iload 6, 2) := by decide +kernel
theorem dL_round_104 : decode cL_round 104 = .ok (.invokestatic 82, 3) := by decide +kernel
theorem dL_round_107 : decode cL_round 107 = .ok (.ireturn, 1) := by decide +kernel
set_option maxRecDepth 20000 in
theorem ggL_law_X2_init : GoodIn wsL_law wsX2_init := goodIn_r _ [6, 7, 8, 9, 10, 11, 12, 13, 14, 15, 16, 17, 18, 19, 20, 21, 22, 23, 24, 25, 26, 27, 28, 29, 30, 31, 32, 33, 34, 35, 36, 37, 38, 39, 40, 278, 279, 280, 281, 282, 283, 284, 285, 286, 287, 288, 289, 290, 291, 292, 293, 294, 295, 296, 297, 298, 299, 300, 301, 302] (by decide +kernel) (by decide +kernel)
set_option maxRecDepth 20000 in
theorem gL_law_X2_init : GoodIn wsL_law (wsX2_init) := ggL_law_X2_init
set_option maxRecDepth 20000 in
theorem ggL_law_L_cell : GoodIn wsL_law wsL_cell := goodIn_r _ [44, 45] (by decide +kernel) (by decide +kernel)
set_option maxRecDepth 20000 in
theorem gL_law_L_cell : GoodIn wsL_law (va_wsS RL 87 yL_cell wsL_cell) := goodIn_app (goodIn_of _ (by decide +kernel)) ggL_law_L_cell
set_option maxRecDepth 20000 in
theorem ggL_law_L_round : GoodIn wsL_law wsL_round := goodIn_ca (goodIn_ca (goodIn_ca (goodIn_r _ [48, 49, 50, 43, 51, 52, 53, 54, 55, 56, 57, 2, 58, 59, 60, 61, 23, 24, 25, 62, 63, 64, 65, 11, 66, 67, 26, 68, 69, 70, 71, 72, 13, 73, 74, 75, 76, 77, 78, 79, 80, 81, 82, 83, 84, 85, 86, 87, 88, 89, 90, 91, 92, 93, 94, 95, 96, 97, 98, 99, 100, 101, 102, 103, 104, 105, 15, 106, 107, 108, 109, 16, 110, 111, 112, 113, 30, 114, 115, 116, 117, 118, 119, 120, 121, 122, 123, 124, 125, 126, 127, 128, 129, 130, 131, 132, 133, 134, 135, 136, 137, 138, 139, 140, 141, 142, 143, 144, 145, 146, 147, 148, 149, 150, 151, 152, 153, 154, 155, 156, 157, 158, 159, 160, 161, 162, 163, 164, 165, 166, 167, 17, 18, 168, 169, 170, 171, 172, 173, 174, 175, 176, 177, 178, 179, 22, 180, 181, 182, 183, 184, 185, 186, 187, 188, 189, 190, 21, 191, 36, 192, 193, 194, 195, 196, 197, 198, 199, 200, 35, 201, 202, 203, 204, 205, 206, 207, 208, 37, 209, 210, 211, 212, 38, 213, 214, 215, 216, 39, 40, 217, 218, 219, 220, 221, 222, 223, 224, 225, 226, 227, 228, 229, 230, 231, 232, 233, 234, 235, 236, 237, 238, 239, 240, 241, 242, 243, 244, 245, 246, 247, 248, 249, 250, 251, 252, 253, 254, 255, 256, 257, 258, 259, 260, 261, 262, 263, 264, 265, 266, 267, 268, 269, 270, 271, 272, 273, 274, 275, 276, 277, 278, 279, 280, 281, 282, 283, 284, 285, 286, 287, 288, 289, 290, 291, 292, 293, 294, 295, 296, 297, 298, 299, 300, 301, 302] (by decide +kernel) (by decide +kernel)) (goodIn_sub (fun _ h => List.mem_append_left _ (List.mem_append_left _ (List.mem_append_right _ h))) (by decide +kernel))) (goodIn_sub (fun _ h => List.mem_append_left _ (List.mem_append_right _ h)) (by decide +kernel))) (goodIn_sub (fun _ h => List.mem_append_right _ h) (by decide +kernel))
set_option maxRecDepth 20000 in
theorem gL_law_L_round : GoodIn wsL_law (va_wsS RL 92 yL_round wsL_round) := goodIn_app (goodIn_of _ (by decide +kernel)) ggL_law_L_round
theorem dL_law_0 : decode cL_law 0 = .ok (.new 9, 3) := by decide +kernel
theorem dL_law_3 : decode cL_law 3 = .ok (.dup, 1) := by decide +kernel
theorem dL_law_4 : decode cL_law 4 = .ok (.invokespecial 86, 3) := by decide +kernel
theorem dL_law_7 : decode cL_law 7 = .ok (.astore_n 1, 1) := by decide +kernel
theorem dL_law_8 : decode cL_law 8 = .ok (.iconst 0, 1) := by decide +kernel
theorem dL_law_9 : decode cL_law 9 = .ok (.istore_n 2, 1) := by decide +kernel
theorem dL_law_10 : decode cL_law 10 = .ok (.iload_n 2, 1) := by decide +kernel
theorem dL_law_11 : decode cL_law 11 = .ok (.bipush 8, 2) := by decide +kernel
theorem dL_law_13 : decode cL_law 13 = .ok (.if_icmp .ge 52, 3) := by decide +kernel
theorem dL_law_16 : decode cL_law 16 = .ok (.aload_n 1, 1) := by decide +kernel
theorem dL_law_17 : decode cL_law 17 = .ok (.aload_n 0, 1) := by decide +kernel
theorem dL_law_18 : decode cL_law 18 = .ok (.iconst 3, 1) := by decide +kernel
theorem dL_law_19 : decode cL_law 19 = .ok (.iload_n 2, 1) := by decide +kernel
theorem dL_law_20 : decode cL_law 20 = .ok (.imul, 1) := by decide +kernel
theorem dL_law_21 : decode cL_law 21 = .ok (.invokestatic 87, 3) := by decide +kernel
theorem dL_law_24 : decode cL_law 24 = .ok (.ldc 91, 2) := by decide +kernel
theorem dL_law_26 : decode cL_law 26 = .ok (.iand, 1) := by decide +kernel
theorem dL_law_27 : decode cL_law 27 = .ok (.aload_n 0, 1) := by decide +kernel
theorem dL_law_28 : decode cL_law 28 = .ok (.iconst 3, 1) := by decide +kernel
theorem dL_law_29 : decode cL_law 29 = .ok (.iload_n 2, 1) := by decide +kernel
theorem dL_law_30 : decode cL_law 30 = .ok (.imul, 1) := by decide +kernel
theorem dL_law_31 : decode cL_law 31 = .ok (.iconst 1, 1) := by decide +kernel
theorem dL_law_32 : decode cL_law 32 = .ok (.iadd, 1) := by decide +kernel
theorem dL_law_33 : decode cL_law 33 = .ok (.invokestatic 87, 3) := by decide +kernel
theorem dL_law_36 : decode cL_law 36 = .ok (.ldc 91, 2) := by decide +kernel
theorem dL_law_38 : decode cL_law 38 = .ok (.iand, 1) := by decide +kernel
theorem dL_law_39 : decode cL_law 39 = .ok (.aload_n 0, 1) := by decide +kernel
theorem dL_law_40 : decode cL_law 40 = .ok (.iconst 3, 1) := by decide +kernel
theorem dL_law_41 : decode cL_law 41 = .ok (.iload_n 2, 1) := by decide +kernel
theorem dL_law_42 : decode cL_law 42 = .ok (.imul, 1) := by decide +kernel
theorem dL_law_43 : decode cL_law 43 = .ok (.iconst 2, 1) := by decide +kernel
theorem dL_law_44 : decode cL_law 44 = .ok (.iadd, 1) := by decide +kernel
theorem dL_law_45 : decode cL_law 45 = .ok (.invokestatic 87, 3) := by decide +kernel
theorem dL_law_48 : decode cL_law 48 = .ok (.ldc 91, 2) := by decide +kernel
theorem dL_law_50 : decode cL_law 50 = .ok (.iand, 1) := by decide +kernel
theorem dL_law_51 : decode cL_law 51 = .ok (.invokestatic 92, 3) := by decide +kernel
theorem dL_law_54 : decode cL_law 54 = .ok (.ifCond .ne 5, 3) := by decide +kernel
theorem dL_law_57 : decode cL_law 57 = .ok (.iconst 0, 1) := by decide +kernel
theorem dL_law_58 : decode cL_law 58 = .ok (.ireturn, 1) := by decide +kernel
theorem dL_law_59 : decode cL_law 59 = .ok (.iinc 2 1, 3) := by decide +kernel
theorem dL_law_62 : decode cL_law 62 = .ok (.goto (-52), 3) := by decide +kernel
theorem dL_law_65 : decode cL_law 65 = .ok (.iconst 1, 1) := by decide +kernel
theorem dL_law_66 : decode cL_law 66 = .ok (.ireturn, 1) := by decide +kernel
end
section
/-! WHAT HOLDS IN EVERY STATE: Inv, and each body in a lane has that lane as its place, and stands there once -/
def Inv2 (S : St) : Prop := Inv S ∧ (∀ i j : Int, 0 ≤ i → i < 5 → 0 ≤ j → j < S.2 0 i → S.2 2 (S.2 (10 + i.toNat) j) = i) ∧ (∀ i j k : Int, 0 ≤ i → i < 5 → 0 ≤ j → j < k → k < S.2 0 i → ¬ S.2 (10 + i.toNat) j = S.2 (10 + i.toNat) k)
/-- the same but for the place of b, which stands nowhere -/
def InvB (S : St) (b : Int) : Prop := ((1 ≤ S.1 0 ∧ S.1 0 ≤ 5) ∧ (1 ≤ S.1 1 ∧ S.1 1 ≤ 6) ∧ (1 ≤ S.1 2 ∧ S.1 2 ≤ 6) ∧ (0 ≤ S.1 3 ∧ S.1 3 ≤ 2) ∧ (0 ≤ S.1 4 ∧ S.1 4 ≤ 2) ∧ (0 ≤ S.1 5 ∧ S.1 5 ≤ 99) ∧ (0 ≤ S.1 6 ∧ S.1 6 ≤ S.1 5) ∧ (-1 ≤ S.1 8 ∧ S.1 8 ≤ 4)) ∧
  (∀ i : Int, 0 ≤ i → i < 5 → 0 ≤ S.2 0 i ∧ S.2 0 i ≤ S.1 1 ∧ (S.1 0 ≤ i → S.2 0 i = 0)) ∧
  (∀ i j : Int, 0 ≤ i → i < 5 → 0 ≤ j → j < S.2 0 i → 0 ≤ S.2 (10 + i.toNat) j ∧ S.2 (10 + i.toNat) j < S.1 5 ∧ ¬ S.2 (10 + i.toNat) j = b ∧ S.2 2 (S.2 (10 + i.toNat) j) = i) ∧
  (∀ i j k : Int, 0 ≤ i → i < 5 → 0 ≤ j → j < k → k < S.2 0 i → ¬ S.2 (10 + i.toNat) j = S.2 (10 + i.toNat) k) ∧
  (∀ c : Int, 0 ≤ c → c < S.1 5 → 0 ≤ S.2 1 c ∧ S.2 1 c ≤ 4) ∧ (∀ c : Int, 0 ≤ c → c < S.1 5 → ¬ c = b → 0 ≤ S.2 2 c ∧ S.2 2 c ≤ 12) ∧
  (∀ q : Int, 0 ≤ q → q < S.1 6 → 0 ≤ S.2 3 q ∧ S.2 3 q < S.1 5 ∧ S.2 2 (S.2 3 q) = 12 ∧ S.2 4 (S.2 3 q) = q ∧ ¬ S.2 3 q = b) ∧
  (∀ c : Int, 0 ≤ c → c < S.1 5 → ¬ c = b → S.2 2 c = 12 → 0 ≤ S.2 4 c ∧ S.2 4 c < S.1 6 ∧ S.2 3 (S.2 4 c) = c)
theorem put_0 (S : St) {i : Int} (b : Int) (h0 : 0 ≤ i) (j : Int) : (putS S i b).2 0 j = if j = i then S.2 0 i + 1 else S.2 0 j := by
  show (ua (ua S (10 + i.toNat) (S.2 0 i) b) 0 i (S.2 0 i + 1)).2 0 j = _
  rw [ua_s, ua_n _ _ _ _ _ (by omega)]
theorem put_2 (S : St) {i : Int} (b : Int) (j : Int) : (putS S i b).2 2 j = if j = b then i else S.2 2 j := by
  show (ua (addS S i b) 2 b i).2 2 j = _
  rw [ua_s]
  unfold addS
  rw [ua_n _ _ _ _ _ (by omega), ua_n _ _ _ _ _ (by omega)]
theorem put_a (S : St) {i : Int} (b : Int) {a : Nat} (h : a = 1 ∨ a = 3 ∨ a = 4) (j : Int) : (putS S i b).2 a j = S.2 a j := by
  show (ua (addS S i b) 2 b i).2 a j = _
  unfold addS
  rw [ua_n _ _ _ _ _ (by omega), ua_n _ _ _ _ _ (by omega), ua_n _ _ _ _ _ (by omega)]
theorem put_r (S : St) {i k : Int} (b : Int) (h0 : 0 ≤ i) (hk : 0 ≤ k) (j : Int) : (putS S i b).2 (10 + k.toNat) j = if k = i ∧ j = S.2 0 i then b else S.2 (10 + k.toNat) j := by
  show (ua (addS S i b) 2 b i).2 (10 + k.toNat) j = _
  unfold addS
  rw [ua_n _ _ _ _ _ (by omega), ua_n _ _ _ _ _ (by omega)]
  by_cases e : k = i
  · subst e
    rw [ua_s]
    by_cases e2 : j = S.2 0 k
    · rw [if_pos e2, if_pos ⟨rfl, e2⟩]
    · rw [if_neg e2, if_neg (fun x => e2 x.2)]
  · rw [ua_n _ _ _ _ _ (by omega), if_neg (fun x => e x.1)]
theorem inv_put {S : St} {i b : Int} (hI : InvB S b) (h0 : 0 ≤ i) (h1 : i < S.1 0) (hb0 : 0 ≤ b) (hb : b < S.1 5) (hs : S.2 0 i < S.1 1) : Inv2 (putS S i b) := by
  obtain ⟨hn, hz, hr, hd, hc, hp, ha, hq⟩ := hI
  have n0 : (putS S i b).1 0 = S.1 0 := rfl
  have n1 : (putS S i b).1 1 = S.1 1 := rfl
  have n2 : (putS S i b).1 2 = S.1 2 := rfl
  have n3 : (putS S i b).1 3 = S.1 3 := rfl
  have n4 : (putS S i b).1 4 = S.1 4 := rfl
  have n5 : (putS S i b).1 5 = S.1 5 := rfl
  have n6 : (putS S i b).1 6 = S.1 6 := rfl
  have n7 : (putS S i b).1 7 = behS S i := rfl
  have n8 : (putS S i b).1 8 = S.1 8 := rfl
  have n11 : (putS S i b).1 11 = i := rfl
  have hbe : behS S i = if i + 1 < S.1 0 then i + 1 else 0 := rfl
  have hbb : 0 ≤ behS S i ∧ behS S i < S.1 0 := by rw [hbe]; split <;> omega
  have zi := hz i h0 (by omega)
  refine ⟨⟨by rw [n0, n1, n2, n3, n4, n5, n6, n7, n8, n11]; omega, fun j j0 j5 => ?_, fun k j k0 k5 j0 j1 => ?_, fun c c0 c1 => ?_, fun c c0 c1 => ?_, fun q q0 q1 => ?_, fun c c0 c1 h => ?_, ?_⟩, fun k j k0 k5 j0 j1 => ?_, fun k j m k0 k5 j0 j1 m1 => ?_⟩
  · have := hz j j0 j5
    rw [put_0 S b h0, n1, n0]
    split
    · rename_i e
      subst e
      omega
    · omega
  · rw [put_0 S b h0] at j1
    rw [put_r S b h0 k0, n5]
    split
    · omega
    · rename_i e
      have hj : j < S.2 0 k := by
        by_cases e2 : k = i
        · subst e2
          rw [if_pos rfl] at j1
          have : ¬ j = S.2 0 k := fun x => e ⟨rfl, x⟩
          omega
        · rw [if_neg e2] at j1
          exact j1
      have := hr k j k0 k5 j0 hj
      omega
  · rw [put_a S b (by omega)]
    exact hc c c0 c1
  · rw [put_2]
    split
    · omega
    · rename_i e
      exact hp c c0 c1 e
  · have h9 := ha q q0 q1
    rw [put_a S b (a := 3) (by omega), put_a S b (a := 4) (by omega), put_2, if_neg h9.2.2.2.2, n5]
    omega
  · rw [put_2] at h
    rw [put_a S b (a := 4) (by omega), put_a S b (a := 3) (by omega), n6]
    split at h
    · omega
    · rename_i e
      exact hq c c0 c1 e h
  · rw [n7, n11, n0, hbe]
  · rw [put_0 S b h0] at j1
    rw [put_r S b h0 k0, put_2]
    split
    · rename_i e
      rw [if_pos rfl]
      exact e.1.symm
    · rename_i e
      have hj : j < S.2 0 k := by
        by_cases e2 : k = i
        · subst e2
          rw [if_pos rfl] at j1
          have : ¬ j = S.2 0 k := fun x => e ⟨rfl, x⟩
          omega
        · rw [if_neg e2] at j1
          exact j1
      have := hr k j k0 k5 j0 hj
      rw [if_neg this.2.2.1]
      exact this.2.2.2
  · rw [put_0 S b h0] at m1
    rw [put_r S b h0 k0, put_r S b h0 k0]
    by_cases e2 : k = i
    · subst e2
      rw [if_pos rfl] at m1
      rw [if_neg (fun x => by omega)]
      split
      · exact (hr k j k0 k5 j0 (by omega)).2.2.1
      · rename_i e
        have : ¬ m = S.2 0 k := fun x => e ⟨rfl, x⟩
        exact hd k j m k0 k5 j0 j1 (by omega)
    · rw [if_neg e2] at m1
      rw [if_neg (fun x => e2 x.1), if_neg (fun x => e2 x.1)]
      exact hd k j m k0 k5 j0 j1 m1
/-- a body in repair stands nowhere -/
theorem invB_rep {S : St} {b : Int} (hI : Inv2 S) (h : S.2 2 b = 11) : InvB S b := by
  obtain ⟨⟨hn, hz, hr, hc, hp, ha, hq, ht⟩, hl, hd⟩ := hI
  refine ⟨by omega, hz, fun i j i0 i5 j0 j1 => ?_, hd, hc, fun c c0 c1 _ => hp c c0 c1, fun q q0 q1 => ?_, fun c c0 c1 _ h => hq c c0 c1 h⟩
  · have h1 := hr i j i0 i5 j0 j1
    have h2 := hl i j i0 i5 j0 j1
    exact ⟨h1.1, h1.2, fun e => by rw [e] at h2; omega, h2⟩
  · have h1 := ha q q0 q1
    exact ⟨h1.1, h1.2.1, h1.2.2.1, h1.2.2.2, fun e => by rw [e] at h1; omega⟩
/-- a new body stands nowhere -/
theorem invB_new {S : St} {v : Int} (hI : Inv2 S) (h5 : S.1 5 < 99) (hv : 0 ≤ v ∧ v ≤ 4) : InvB (newS S v) (S.1 5) := by
  obtain ⟨⟨hn, hz, hr, hc, hp, ha, hq, ht⟩, hl, hd⟩ := hI
  have n5 : (newS S v).1 5 = S.1 5 + 1 := rfl
  have e1 : ∀ j, (newS S v).2 1 j = if j = S.1 5 then v else S.2 1 j := fun j => ua_s S 1 (S.1 5) v j
  have er : ∀ (k : Nat) (j : Int), (newS S v).2 (10 + k) j = S.2 (10 + k) j := fun k j => ua_n S 1 (S.1 5) v j (by omega)
  refine ⟨?_, hz, fun i j i0 i5 j0 j1 => ?_, fun i j k i0 i5 j0 j1 k1 => ?_, fun c c0 c1 => ?_, fun c c0 c1 h => ?_, fun q q0 q1 => ?_, fun c c0 c1 h h2 => ?_⟩
  · rw [n5]
    show ((1 ≤ S.1 0 ∧ S.1 0 ≤ 5) ∧ (1 ≤ S.1 1 ∧ S.1 1 ≤ 6) ∧ (1 ≤ S.1 2 ∧ S.1 2 ≤ 6) ∧ (0 ≤ S.1 3 ∧ S.1 3 ≤ 2) ∧ (0 ≤ S.1 4 ∧ S.1 4 ≤ 2) ∧ (0 ≤ S.1 5 + 1 ∧ S.1 5 + 1 ≤ 99) ∧ (0 ≤ S.1 6 ∧ S.1 6 ≤ S.1 5 + 1) ∧ (-1 ≤ S.1 8 ∧ S.1 8 ≤ 4))
    omega
  · have h1 := hr i j i0 i5 j0 j1
    have h2 := hl i j i0 i5 j0 j1
    rw [er, n5]
    exact ⟨h1.1, by omega, by omega, h2⟩
  · rw [er, er]
    exact hd i j k i0 i5 j0 j1 k1
  · rw [e1]
    rw [n5] at c1
    split
    · exact hv
    · exact hc c c0 (by omega)
  · rw [n5] at c1
    exact hp c c0 (by omega)
  · have h1 := ha q q0 q1
    rw [n5]
    exact ⟨h1.1, (by show S.2 3 q < S.1 5 + 1; omega), h1.2.2.1, h1.2.2.2, fun e => by have e9 : S.2 3 q = S.1 5 := e; omega⟩
  · rw [n5] at c1
    exact hq c c0 (by omega) h2
/-- a body at no lane and not assembled may go to another place of that kind -/
theorem inv_rep {S : St} {b : Int} (hI : Inv2 S) (h : S.2 2 b = 10) : Inv2 (ua S 2 b 11) := by
  obtain ⟨⟨hn, hz, hr, hc, hp, ha, hq, ht⟩, hl, hd⟩ := hI
  have e2 : ∀ j, (ua S 2 b 11).2 2 j = if j = b then 11 else S.2 2 j := fun j => ua_s S 2 b 11 j
  have er : ∀ (k : Nat) (j : Int), (ua S 2 b 11).2 (10 + k) j = S.2 (10 + k) j := fun k j => ua_n S 2 b 11 j (by omega)
  refine ⟨⟨hn, hz, fun i j i0 i5 j0 j1 => ?_, hc, fun c c0 c1 => ?_, fun q q0 q1 => ?_, fun c c0 c1 h2 => ?_, ht⟩, fun i j i0 i5 j0 j1 => ?_, fun i j k i0 i5 j0 j1 k1 => ?_⟩
  · rw [er]
    exact hr i j i0 i5 j0 j1
  · rw [e2]
    split
    · omega
    · exact hp c c0 c1
  · have h1 := ha q q0 q1
    refine ⟨h1.1, h1.2.1, ?_, h1.2.2.2⟩
    show (ua S 2 b 11).2 2 (S.2 3 q) = 12
    rw [e2, if_neg (fun e => by rw [e] at h1; omega)]
    exact h1.2.2.1
  · rw [e2] at h2
    split at h2
    · omega
    · exact hq c c0 c1 h2
  · have h1 := hl i j i0 i5 j0 j1
    rw [er, e2, if_neg (fun e => by rw [e] at h1; omega)]
    exact h1
  · rw [er, er]
    exact hd i j k i0 i5 j0 j1 k1
theorem inv_asm {S : St} {b : Int} (hI : Inv2 S) (h0 : 0 ≤ b) (h1 : b < S.1 5) (h : S.2 2 b = 10) : Inv2 (asmS S b) := by
  have hlt := asm_lt hI.1 h0 h1 (by omega)
  obtain ⟨⟨hn, hz, hr, hc, hp, ha, hq, ht⟩, hl, hd⟩ := hI
  have e2 : ∀ j, (asmS S b).2 2 j = if j = b then 12 else S.2 2 j := fun j => ua_s S 2 b 12 j
  have e4 : ∀ j, (asmS S b).2 4 j = if j = b then S.1 6 else S.2 4 j := fun j => ua_s (ua S 2 b 12) 4 b (S.1 6) j
  have e3 : ∀ j, (asmS S b).2 3 j = if j = S.1 6 then b else S.2 3 j := fun j => ua_s (ua (ua S 2 b 12) 4 b (S.1 6)) 3 (S.1 6) b j
  have er : ∀ (k : Nat) (j : Int), (asmS S b).2 (10 + k) j = S.2 (10 + k) j := fun k j => by
    show (ua (ua (ua S 2 b 12) 4 b (S.1 6)) 3 (S.1 6) b).2 (10 + k) j = _
    rw [ua_n _ _ _ _ _ (by omega), ua_n _ _ _ _ _ (by omega), ua_n _ _ _ _ _ (by omega)]
  have n6 : (asmS S b).1 6 = S.1 6 + 1 := rfl
  have nb : ∀ q : Int, 0 ≤ q → q < S.1 6 → ¬ S.2 3 q = b := fun q q0 q1 e => by
    have h9 := ha q q0 q1
    rw [e] at h9
    omega
  refine ⟨⟨?_, hz, fun i j i0 i5 j0 j1 => ?_, hc, fun c c0 c1 => ?_, fun q q0 q1 => ?_, fun c c0 c1 h2 => ?_, ht⟩, fun i j i0 i5 j0 j1 => ?_, fun i j k i0 i5 j0 j1 k1 => ?_⟩
  · rw [n6]
    show ((1 ≤ S.1 0 ∧ S.1 0 ≤ 5) ∧ (1 ≤ S.1 1 ∧ S.1 1 ≤ 6) ∧ (1 ≤ S.1 2 ∧ S.1 2 ≤ 6) ∧ (0 ≤ S.1 3 ∧ S.1 3 ≤ 2) ∧ (0 ≤ S.1 4 ∧ S.1 4 ≤ 2) ∧ (0 ≤ S.1 5 ∧ S.1 5 ≤ 99) ∧ (0 ≤ S.1 6 + 1 ∧ S.1 6 + 1 ≤ S.1 5) ∧ (0 ≤ S.1 7 ∧ S.1 7 < S.1 0) ∧ (-1 ≤ S.1 8 ∧ S.1 8 ≤ 4) ∧ (-1 ≤ S.1 11 ∧ S.1 11 < S.1 0))
    omega
  · rw [er]
    exact hr i j i0 i5 j0 j1
  · rw [e2]
    split
    · omega
    · exact hp c c0 c1
  · rw [n6] at q1
    rw [e3]
    by_cases e : q = S.1 6
    · rw [if_pos e, e2, if_pos rfl, e4, if_pos rfl]
      exact ⟨h0, h1, rfl, e.symm⟩
    · rw [if_neg e]
      have h9 := ha q q0 (by omega)
      rw [e2, if_neg (nb q q0 (by omega)), e4, if_neg (nb q q0 (by omega))]
      exact h9
  · rw [n6, e4, e3]
    by_cases e : c = b
    · rw [if_pos e, if_pos rfl]
      omega
    · rw [if_neg e]
      rw [e2, if_neg e] at h2
      have h9 := hq c c0 c1 h2
      rw [if_neg (by omega)]
      omega
  · have h9 := hl i j i0 i5 j0 j1
    rw [er, e2, if_neg (fun e => by rw [e] at h9; omega)]
    exact h9
  · rw [er, er]
    exact hd i j k i0 i5 j0 j1 k1
theorem inv_rel {S : St} {i : Int} (hI : Inv2 S) (h0 : 0 ≤ i) (h5 : i < 5) (hs : 0 < S.2 0 i) : Inv2 (relS S i) := by
  obtain ⟨⟨hn, hz, hr, hc, hp, ha, hq, ht⟩, hl, hd⟩ := hI
  have z9 := hz i h0 h5
  have ea : atS S i 0 = S.2 (10 + i.toNat) 0 := if_pos ⟨Int.le_refl 0, hs⟩
  have hb := hr i 0 h0 h5 (Int.le_refl 0) hs
  have hbp := hl i 0 h0 h5 (Int.le_refl 0) hs
  have hbc := hc _ hb.1 hb.2
  have e0 : ∀ j, (relS S i).2 0 j = if j = i then S.2 0 i - 1 else S.2 0 j := fun j => by
    show (ua (ua (ur S (10 + i.toNat) (shf (S.2 (10 + i.toNat)) (S.2 0 i))) 0 i (S.2 0 i - 1)) 2 (atS S i 0) 10).2 0 j = _
    rw [ua_n _ _ _ _ _ (by omega), ua_s, ur_n _ _ _ (by omega)]
  have ex : ∀ (a : Nat) (j : Int), (a = 1 ∨ a = 3 ∨ a = 4) → (relS S i).2 a j = S.2 a j := fun a j h => by
    show (ua (ua (ur S (10 + i.toNat) (shf (S.2 (10 + i.toNat)) (S.2 0 i))) 0 i (S.2 0 i - 1)) 2 (atS S i 0) 10).2 a j = _
    rw [ua_n _ _ _ _ _ (by omega), ua_n _ _ _ _ _ (by omega), ur_n _ _ _ (by omega)]
  have e2 : ∀ j, (relS S i).2 2 j = if j = S.2 (10 + i.toNat) 0 then 10 else S.2 2 j := fun j => by
    show (ua (ua (ur S (10 + i.toNat) (shf (S.2 (10 + i.toNat)) (S.2 0 i))) 0 i (S.2 0 i - 1)) 2 (atS S i 0) 10).2 2 j = _
    rw [ua_s, ea, ua_n _ _ _ _ _ (by omega), ur_n _ _ _ (by omega)]
  have er : ∀ (k j : Int), 0 ≤ k → 0 ≤ j → j < (relS S i).2 0 k → ∃ j' : Int, (relS S i).2 (10 + k.toNat) j = S.2 (10 + k.toNat) j' ∧ j' = (if k = i then j + 1 else j) ∧ 0 ≤ j' ∧ j' < S.2 0 k := fun k j k0 j0 j1 => by
    rw [e0] at j1
    show ∃ j' : Int, (ua (ua (ur S (10 + i.toNat) (shf (S.2 (10 + i.toNat)) (S.2 0 i))) 0 i (S.2 0 i - 1)) 2 (atS S i 0) 10).2 (10 + k.toNat) j = _ ∧ _
    rw [ua_n _ _ _ _ _ (by omega), ua_n _ _ _ _ _ (by omega)]
    by_cases e : k = i
    · subst e
      rw [if_pos rfl] at j1
      refine ⟨j + 1, ?_, by rw [if_pos rfl], by omega, by omega⟩
      rw [ur_s]
      exact if_pos ⟨j0, by omega⟩
    · rw [if_neg e] at j1
      exact ⟨j, by rw [ur_n _ _ _ (by omega)], by rw [if_neg e], j0, j1⟩
  have nh : ∀ (k j' : Int), 0 ≤ k → k < 5 → 0 ≤ j' → j' < S.2 0 k → (k = i → 1 ≤ j') → ¬ S.2 (10 + k.toNat) j' = S.2 (10 + i.toNat) 0 := fun k j' k0 k5 j0 j1 hk e => by
    have h1 := hl k j' k0 k5 j0 j1
    rw [e, hbp] at h1
    subst h1
    exact hd i 0 j' h0 h5 (Int.le_refl 0) (by have := hk rfl; omega) j1 e.symm
  have n8 : (relS S i).1 8 = S.2 1 (atS S i 0) := rfl
  refine ⟨⟨?_, fun j j0 j5 => ?_, fun k j k0 k5 j0 j1 => ?_, fun c c0 c1 => ?_, fun c c0 c1 => ?_, fun q q0 q1 => ?_, fun c c0 c1 h2 => ?_, ht⟩, fun k j k0 k5 j0 j1 => ?_, fun k j m k0 k5 j0 j1 m1 => ?_⟩
  · rw [n8, ea]
    show ((1 ≤ S.1 0 ∧ S.1 0 ≤ 5) ∧ (1 ≤ S.1 1 ∧ S.1 1 ≤ 6) ∧ (1 ≤ S.1 2 ∧ S.1 2 ≤ 6) ∧ (0 ≤ S.1 3 ∧ S.1 3 ≤ 2) ∧ (0 ≤ S.1 4 ∧ S.1 4 ≤ 2) ∧ (0 ≤ S.1 5 ∧ S.1 5 ≤ 99) ∧ (0 ≤ S.1 6 ∧ S.1 6 ≤ S.1 5) ∧ (0 ≤ S.1 7 ∧ S.1 7 < S.1 0) ∧ (-1 ≤ S.2 1 (S.2 (10 + i.toNat) 0) ∧ S.2 1 (S.2 (10 + i.toNat) 0) ≤ 4) ∧ (-1 ≤ S.1 11 ∧ S.1 11 < S.1 0))
    omega
  · have h1 := hz j j0 j5
    rw [e0]
    show 0 ≤ _ ∧ _ ≤ S.1 1 ∧ (S.1 0 ≤ j → _)
    split
    · rename_i e
      subst e
      omega
    · exact h1
  · obtain ⟨j', e, -, g0, g1⟩ := er k j k0 j0 j1
    rw [e]
    exact hr k j' k0 k5 g0 g1
  · rw [ex 1 c (by omega)]
    exact hc c c0 c1
  · rw [e2]
    split
    · omega
    · exact hp c c0 c1
  · have h9 := ha q q0 q1
    rw [ex 3 q (by omega), ex 4 _ (by omega), e2, if_neg (fun e => by rw [e] at h9; omega)]
    exact h9
  · rw [e2] at h2
    split at h2
    · omega
    · rw [ex 4 c (by omega), ex 3 _ (by omega)]
      exact hq c c0 c1 h2
  · obtain ⟨j', e, ej, g0, g1⟩ := er k j k0 j0 j1
    rw [e, e2, if_neg (nh k j' k0 k5 g0 g1 (fun x => by rw [if_pos x] at ej; omega))]
    exact hl k j' k0 k5 g0 g1
  · obtain ⟨j', e, ej, g0, g1⟩ := er k j k0 j0 (by omega)
    obtain ⟨m', e', em, g0', g1'⟩ := er k m k0 (by omega) m1
    rw [e, e']
    refine hd k j' m' k0 k5 g0 ?_ g1'
    split at ej <;> split at em <;> omega
theorem inv_set {S : St} {a b : Int} (hI : Inv2 S) (ha9 : 0 ≤ a ∧ a ≤ 2) (hb9 : 0 ≤ b ∧ b ≤ 2) : Inv2 (sSet S a b) := by
  obtain ⟨⟨hn, hz, hr, hc, hp, ha, hq, ht⟩, hl, hd⟩ := hI
  refine ⟨⟨?_, hz, hr, hc, hp, ha, hq, ht⟩, hl, hd⟩
  show ((1 ≤ S.1 0 ∧ S.1 0 ≤ 5) ∧ (1 ≤ S.1 1 ∧ S.1 1 ≤ 6) ∧ (1 ≤ S.1 2 ∧ S.1 2 ≤ 6) ∧ (0 ≤ a ∧ a ≤ 2) ∧ (0 ≤ b ∧ b ≤ 2) ∧ (0 ≤ S.1 5 ∧ S.1 5 ≤ 99) ∧ (0 ≤ S.1 6 ∧ S.1 6 ≤ S.1 5) ∧ (0 ≤ S.1 7 ∧ S.1 7 < S.1 0) ∧ (-1 ≤ S.1 8 ∧ S.1 8 ≤ 4) ∧ (-1 ≤ S.1 11 ∧ S.1 11 < S.1 0))
  omega
/-- no body: all lanes are empty -/
theorem inv_nil {S : St} (h0 : 1 ≤ S.1 0 ∧ S.1 0 ≤ 5) (h1 : 1 ≤ S.1 1 ∧ S.1 1 ≤ 6) (h2 : 1 ≤ S.1 2 ∧ S.1 2 ≤ 6) (h3 : 0 ≤ S.1 3 ∧ S.1 3 ≤ 2) (h4 : 0 ≤ S.1 4 ∧ S.1 4 ≤ 2) (h5 : S.1 5 = 0) (h6 : S.1 6 = 0) (h7 : S.1 7 = 0) (h8 : S.1 8 = -1) (h11 : S.1 11 = -1) (hz : ∀ i : Int, 0 ≤ i → i < 5 → S.2 0 i = 0) : Inv2 S := by
  refine ⟨⟨by omega, fun i i0 i5 => ?_, fun i j i0 i5 j0 j1 => ?_, fun c c0 c1 => by omega, fun c c0 c1 => by omega, fun q q0 q1 => by omega, fun c c0 c1 => by omega, by rw [h7, h11, if_pos (by omega)]; rfl⟩, fun i j i0 i5 j0 j1 => ?_, fun i j k i0 i5 j0 j1 k1 => ?_⟩
  · have := hz i i0 i5
    omega
  · have := hz i i0 i5
    omega
  · have := hz i i0 i5
    omega
  · have := hz i i0 i5
    omega
theorem clN_0 (S : St) : ∀ n : Nat, (clN S n).1 = S.1 ∧ ∀ j : Int, (clN S n).2 0 j = if 0 ≤ j ∧ j < (n : Int) then 0 else S.2 0 j
  | 0 => ⟨rfl, fun j => (if_neg (by omega)).symm⟩
  | n + 1 => ⟨(clN_0 S n).1, fun j => by
    show (ua (clN S n) 0 n 0).2 0 j = _
    rw [ua_s, (clN_0 S n).2 j]
    by_cases e : j = (n : Int)
    · rw [if_pos e, if_pos (by omega)]
    · rw [if_neg e]
      by_cases e2 : 0 ≤ j ∧ j < (n : Int)
      · rw [if_pos e2, if_pos (by omega)]
      · rw [if_neg e2, if_neg (by omega)]⟩
theorem us_cong {S T : St} (h : S.1 = T.1) (k : Nat) (v : Int) : (us S k v).1 = (us T k v).1 := by
  funext j
  show (match Nat.beq j k with | true => v | false => S.1 j) = (match Nat.beq j k with | true => v | false => T.1 j)
  rw [h]
theorem inv_beg {S : St} {a b c : Int} (hI : Inv2 S) (h : kBeg a b c = 0) : Inv2 (sBeg S a b c) := by
  have h9 : (1 ≤ a ∧ a ≤ 5) ∧ (1 ≤ b ∧ b ≤ 6) ∧ (1 ≤ c ∧ c ≤ 6) := by
    unfold kBeg at h
    split at h
    · assumption
    · omega
  obtain ⟨⟨hn, -⟩, -⟩ := hI
  have cl := clN_0 (us (us (us S 0 a) 1 b) 2 c) 5
  have g : ∀ k : Nat, (sBeg S a b c).1 k = (us (us (us (us (us (us (us (us (us (us S 0 a) 1 b) 2 c) 5 0) 6 0) 7 0) 8 (-1)) 9 0) 10 0) 11 (-1)).1 k := fun k => by
    show (us (us (us (us (us (us (us (clN (us (us (us S 0 a) 1 b) 2 c) 5) 5 0) 6 0) 7 0) 8 (-1)) 9 0) 10 0) 11 (-1)).1 k = _
    exact congrFun (us_cong (us_cong (us_cong (us_cong (us_cong (us_cong (us_cong cl.1 5 0) 6 0) 7 0) 8 (-1)) 9 0) 10 0) 11 (-1)) k
  refine inv_nil ?_ ?_ ?_ ?_ ?_ ?_ ?_ ?_ ?_ ?_ (fun i i0 i5 => ?_)
  · rw [g 0]; exact h9.1
  · rw [g 1]; exact h9.2.1
  · rw [g 2]; exact h9.2.2
  · rw [g 3]; exact hn.2.2.2.1
  · rw [g 4]; exact hn.2.2.2.2.1
  · rw [g 5]; rfl
  · rw [g 6]; rfl
  · rw [g 7]; rfl
  · rw [g 8]; rfl
  · rw [g 11]; rfl
  · show (clN (us (us (us S 0 a) 1 b) 2 c) 5).2 0 i = 0
    rw [cl.2 i]
    exact if_pos ⟨i0, i5⟩
end
section
/-! THE LAW'S OWN ROWS -/
theorem pH_get {G : va_G × (Nat → ClassId)} {ad : Nat → Nat} {o : Nat} {S S' : St} {k v r : Int} {u : va_W} (h : pH G ad o S S' k v r u) : r = k ∧ ∃ (S1 P9 : St) (f : Nat → Int64), u = WX G.2 ad S1 P9 ++ [oL G.2 o f] ∧ (k = 0 → S1 = S' ∧ f 0 = (zI v).toInt64) ∧ (¬ k = 0 → S1 = S) := by
  obtain ⟨h0, P9, f, h1, h2⟩ := h
  by_cases e : k = 0
  · exact ⟨h0, S', P9, f, (h1 e).1, fun _ => ⟨rfl, (h1 e).2⟩, fun x => absurd e x⟩
  · exact ⟨h0, S, P9, f, h2 e, fun x => absurd x e, fun _ => rfl⟩
theorem pV_get {G : va_G × (Nat → ClassId)} {ad : Nat → Nat} {S S' : St} {k r : Int} {u : va_W} (h : pV G ad S S' k r u) : r = k ∧ ∃ S1 P9 : St, u = WX G.2 ad S1 P9 ∧ (k = 0 → S1 = S') ∧ (¬ k = 0 → S1 = S) := by
  obtain ⟨h0, P9, h1, h2⟩ := h
  by_cases e : k = 0
  · exact ⟨h0, S', P9, h1 e, fun _ => rfl, fun x => absurd e x⟩
  · exact ⟨h0, S, P9, h2 e, fun x => absurd x e, fun _ => rfl⟩
theorem pM_get {G : va_G × (Nat → ClassId)} {am : Nat → Nat} {S S' S1 : St} {k v r : Int} {u : va_W} (g1 : k = 0 → S1 = S') (g2 : ¬ k = 0 → S1 = S) (h : ∃ P9 : St, P9.1 0 = k ∧ ((k = 0 ∧ r = v ∧ u = WM G.2 am S' P9) ∨ (¬ k = 0 ∧ u = WM G.2 am S P9))) : ∃ P9 : St, P9.1 0 = k ∧ u = WM G.2 am S1 P9 ∧ (k = 0 → r = v) := by
  obtain ⟨P9, h0, h | h⟩ := h
  · exact ⟨P9, h0, by rw [g1 h.1]; exact h.2.2, fun _ => h.2.1⟩
  · exact ⟨P9, h0, by rw [g2 h.1]; exact h.2, fun x => absurd x h.1⟩
theorem pMv_get {G : va_G × (Nat → ClassId)} {am : Nat → Nat} {S S' S1 : St} {k : Int} {u : va_W} (g1 : k = 0 → S1 = S') (g2 : ¬ k = 0 → S1 = S) (h : ∃ P9 : St, P9.1 0 = k ∧ ((k = 0 ∧ u = WM G.2 am S' P9) ∨ (¬ k = 0 ∧ u = WM G.2 am S P9))) : ∃ P9 : St, P9.1 0 = k ∧ u = WM G.2 am S1 P9 := by
  obtain ⟨P9, h0, h | h⟩ := h
  · exact ⟨P9, h0, by rw [g1 h.1]; exact h.2⟩
  · exact ⟨P9, h0, by rw [g2 h.1]; exact h.2⟩
theorem inv_if {S S' S1 : St} {k : Int} (hI : Inv2 S) (h : k = 0 → Inv2 S') (g1 : k = 0 → S1 = S') (g2 : ¬ k = 0 → S1 = S) : Inv2 S1 := by
  by_cases e : k = 0
  · rw [g1 e]; exact h e
  · rw [g2 e]; exact hI
/-! each call keeps what holds -/
theorem iv_set {S : St} {a b : Int} (hI : Inv2 S) (h : kSet a b = 0) : Inv2 (sSet S a b) := by
  unfold kSet at h
  split at h
  · rename_i e
    exact inv_set hI e.1 e.2
  · omega
theorem iv_arr {S : St} {v : Int} (hI : Inv2 S) (h : kArr S v = 0) : Inv2 (sArr S v) := by
  unfold kArr at h
  split at h
  · omega
  · rename_i e
    split at h
    · omega
    · rename_i e2
      have h1 := inS_b hI.1 v
      have h2 : ¬ inS S v = -1 := fun x => e2 (Or.inr x)
      have h3 := inS_room h2
      have h4 : 0 ≤ v ∧ v ≤ 4 := Decidable.not_not.mp e
      have hn := hI.1.1
      exact inv_put (invB_new hI (by omega) h4) (by omega) h1.2 (by omega) (by show S.1 5 < S.1 5 + 1; omega) h3
theorem iv_arI {S : St} {v i : Int} (hI : Inv2 S) (h : kArI S v i = 0) : Inv2 (sArI S v i) := by
  unfold kArI at h
  split at h
  · omega
  · rename_i e
    split at h
    · omega
    · rename_i e2
      split at h
      · omega
      · rename_i e3
        have h4 : 0 ≤ v ∧ v ≤ 4 := Decidable.not_not.mp e
        have h5 : 0 ≤ i ∧ i < S.1 0 := Decidable.not_not.mp e2
        have hn := hI.1.1
        exact inv_put (invB_new hI (by omega) h4) h5.1 h5.2 (by omega) (by show S.1 5 < S.1 5 + 1; omega) (by show S.2 0 i < S.1 1; omega)
theorem iv_rel {S : St} (hI : Inv2 S) (h : kRel S = 0) : Inv2 (relS S (outS S)) := by
  unfold kRel at h
  split at h
  · omega
  · rename_i e
    have h2 : ¬ outS S = -1 := fun x => e (Or.inr x)
    have h3 := outS_pos h2
    have h4 := outS_b (S := S)
    have hn := hI.1.1
    exact inv_rel hI (by omega) (by omega) h3
theorem iv_reF {S : St} {i : Int} (hI : Inv2 S) (h : kReF S i = 0) : Inv2 (relS S i) := by
  unfold kReF at h
  split at h
  · omega
  · rename_i e
    split at h
    · omega
    · rename_i e2
      have h5 : 0 ≤ i ∧ i < S.1 0 := Decidable.not_not.mp e
      have hn := hI.1.1
      have hz := hI.1.2.1 i h5.1 (by omega)
      exact inv_rel hI h5.1 (by omega) (by omega)
theorem iv_reB {S : St} (hI : Inv2 S) (h : kReB S = 0) : Inv2 (relS S (blS S)) := by
  unfold kReB at h
  split at h
  · omega
  · rename_i e
    have h2 : ¬ blS S = -1 := fun x => e (Or.inr (Or.inr x))
    have h4 := blS_b S
    exact inv_rel hI (by omega) h4.2 (blS_pos h2)
theorem iv_seB {S : St} {b : Int} (hI : Inv2 S) (h : kSeB S b = 0) : Inv2 (ua S 2 b 11) := by
  unfold kSeB at h
  split at h
  · omega
  · split at h
    · omega
    · rename_i e
      exact inv_rep hI (Decidable.not_not.mp e)
theorem iv_ree {S : St} {b : Int} (hI : Inv2 S) (h : kRee S b = 0) : Inv2 (putS S (inS S (S.2 1 b)) b) := by
  unfold kRee at h
  split at h
  · omega
  · rename_i e
    split at h
    · omega
    · rename_i e2
      have h5 : 0 ≤ b ∧ b < S.1 5 := Decidable.not_not.mp e
      have h6 : S.2 2 b = 11 := Decidable.byContradiction (fun x => e2 (Or.inl x))
      have h2 : ¬ inS S (S.2 1 b) = -1 := fun x => e2 (Or.inr x)
      have h1 := inS_b hI.1 (S.2 1 b)
      exact inv_put (invB_rep hI h6) (by omega) h1.2 h5.1 h5.2 (inS_room h2)
theorem iv_asm {S : St} (hI : Inv2 S) (h : kAsm S = 0) : Inv2 (asmS S (lbS S)) := by
  unfold kAsm at h
  split at h
  · omega
  · rename_i e
    have h1 : -1 ≤ lbS S ∧ lbS S < ((S.1 5).toNat : Int) := fstB_b _ _
    have h2 : S.2 2 (lbS S) = 10 := of_decide_eq_true (fstB_ok e)
    have hn := hI.1.1
    exact inv_asm hI (by omega) (by omega) h2
/-- the script, and what the tables say of what the helpers catch -/
def XL (l : Launch) (s : State) (sa : Nat → Nat) (A : Nat → Prop) (b L : Nat) (xs : Nat → Int32) : Prop := l.stackTraces = false ∧ NT sa s ∧ ZQ A s s.heap ∧ NH s ∧ va_X b L xs s s.heap ∧ b < s.heap.size ∧ ¬ A b ∧ L ≤ 2048
section AWL
variable {p : Program} {l : Launch} {e : Env} {R : Room} {s : State} {m : MethodId} {args : Array Value} {below : List Frame} {meth : Method} {c : Code} {nL : Nat} {G : va_G × (Nat → ClassId)} {A : Nat → Prop} {cells slots : Nat} {Q : State → Prop} {H0 : Heap}
variable {cc : ByteArray} {ret : Option FieldType} {Ts : List Cond} {own : String} {ws : va_W} {lv : List (Nat × Value)} {pc : Nat} {st : List Value} {sa : Nat → Nat} {b L : Nat} {xs : Nat → Int32}
theorem aw_widen {k n : Nat} (h1 : cells ≤ k) (h2 : slots ≤ n) (kk : AW p l e R s m args below meth c nL G A H0 k n Q ws lv pc st) : AW p l e R s m args below meth c nL G A H0 cells slots Q ws lv pc st :=
  fun H locs ls hP hD hS hl => W.widen h1 h2 (kk H locs ls hP hD hS hl)
theorem aw_lsub {lv' : List (Nat × Value)} (h : ∀ q ∈ lv', q ∈ lv) (kk : AW p l e R s m args below meth c nL G A H0 cells slots Q ws lv' pc st) : AW p l e R s m args below meth c nL G A H0 cells slots Q ws lv pc st :=
  fun H locs ls hP hD hS hl => kk H locs ls hP hD hS ⟨hl.1, hl.2.1, fun q hq => hl.2.2 q (h q hq)⟩
theorem aw_swap {w1 w2 : va_W} (kk : AW p l e R s m args below meth c nL G A H0 cells slots Q (w2 ++ w1) lv pc st) : AW p l e R s m args below meth c nL G A H0 cells slots Q (w1 ++ w2) lv pc st :=
  fun H locs ls hP hD hS hl => by
    have at2 : ∀ (k : Nat) (q : Nat × va_E), w2[k]? = some q → (w1 ++ w2)[w1.length + k]? = some q := fun k q h => by rw [List.getElem?_append_right (Nat.le_add_right _ _), Nat.add_sub_cancel_left]; exact h
    have at1 : ∀ (k : Nat) (q : Nat × va_E), w1[k]? = some q → (w1 ++ w2)[k]? = some q := fun k q h => by rw [List.getElem?_append_left (List.getElem?_eq_some_iff.mp h).1]; exact h
    refine kk H locs ls (va_P.app (fun k q h => hP _ q (at2 k q h)) (fun k q h => hP _ q (at1 k q h))) (va_D.app ⟨fun i j x y hx hy hxy => ?_, fun k q h => hD.2 _ q (at2 k q h)⟩ ⟨fun i j x y hx hy hxy => hD.1 _ _ _ _ (at1 i x hx) (at1 j y hy) hxy, fun k q h => hD.2 _ q (at1 k q h)⟩ (fun i j x y hx hy hxy => ?_)) hS hl
    · have := hD.1 _ _ _ _ (at2 i x hx) (at2 j y hy) hxy
      omega
    · have h1 := hD.1 _ _ _ _ (at2 i x hx) (at1 j y hy) hxy
      have h2 := (List.getElem?_eq_some_iff.mp hy).1
      omega
theorem aw_sld (C : cx p l s m args meth c cc nL ret Ts own G A s.heap) (X : XL l s sa A b L xs) {i : Int} (h0 : 0 ≤ i) (h1 : i < (L : Int)) (hd : decode cc pc = .ok (.iaload, 1)) (kk : AW p l e R s m args below meth c nL G A s.heap cells slots Q ws lv (pc + 1) (.int (zI (xs i.toNat).toInt) :: st)) : AW p l e R s m args below meth c nL G A s.heap cells slots Q ws lv pc (.int (zI i) :: .ref b :: st) :=
  fun H locs ls hP hD hS hl => by
    have hL := X.2.2.2.2.2.2.2
    refine va_sld C.1 C.2.1 X.2.2.2.2.1 X.2.2.2.2.2.1 X.2.2.2.2.2.2.1 hS (zI_in h0 h1 (by omega)) hd ?_
    rw [zI_clamp h0 (by omega), ← zI_self (xs i.toNat)]
    exact kk H locs ls hP hD hS hl
theorem aw_slen (C : cx p l s m args meth c cc nL ret Ts own G A s.heap) (X : XL l s sa A b L xs) (hd : decode cc pc = .ok (.arraylength, 1)) (kk : AW p l e R s m args below meth c nL G A s.heap cells slots Q ws lv (pc + 1) (.int (zI (L : Int)) :: st)) : AW p l e R s m args below meth c nL G A s.heap cells slots Q ws lv pc (.ref b :: st) :=
  fun H locs ls hP hD hS hl => va_slen C.1 C.2.1 X.2.2.2.2.1 X.2.2.2.2.2.1 X.2.2.2.2.2.2.1 hS hd (kk H locs ls hP hD hS hl)
theorem aw_lcmp (C : cx p l s m args meth c cc nL ret Ts own G A H0) {x : Int64} (hd : decode cc pc = .ok (.lcmp, 1)) (kk : AW p l e R s m args below meth c nL G A H0 cells slots Q ws lv (pc + 1) (.int (zI 0) :: st)) : AW p l e R s m args below meth c nL G A H0 cells slots Q ws lv pc (.long x :: .long x :: st) :=
  fun H locs ls hP hD hS hl => by
    refine W.lcmp C.1 C.2.1 hd ?_
    have h0 : lg_cmp x x = zI 0 := by
      unfold lg_cmp
      rw [if_neg (by simp), if_pos rfl]
      rfl
    rw [h0]
    exact kk H locs ls hP hD hS hl
theorem aw_same (C : cx p l s m args meth c cc nL ret Ts own G A H0) {x : Int} {off : Int} {tgt : Nat} (hd : decode cc pc = .ok (.if_icmp .eq off, 3)) (ht : (pc : Int) + off = (tgt : Int)) (kk : AW p l e R s m args below meth c nL G A H0 cells slots Q ws lv tgt st) : AW p l e R s m args below meth c nL G A H0 cells slots Q ws lv pc (.int (zI x) :: .int (zI x) :: st) := by
  rw [← zI_self (zI x)]
  exact aw_icmp_eq C hd ht (zI_rng _) (zI_rng _) (fun _ => kk) (fun h => absurd rfl h)
theorem aw_table (C : cx p l s m args meth c cc nL ret Ts own G A H0) {z dflt lo hi off : Int} {offs : Array Int} {len tgt : Nat} (hd : decode cc pc = .ok (.tableswitch dflt lo hi offs, len)) (hz : -2147483648 ≤ z ∧ z < 2147483648) (h1 : lo ≤ z) (h2 : z ≤ hi) (ho : offs[(z - lo).toNat]? = some off) (ht : (pc : Int) + off = (tgt : Int)) (kk : AW p l e R s m args below meth c nL G A H0 cells slots Q ws lv tgt st) : AW p l e R s m args below meth c nL G A H0 cells slots Q ws lv pc (.int (zI z) :: st) :=
  fun H locs ls hP hD hS hl => lv_tableIn C.1 C.2.1 hd (by rw [zI_toInt hz]; omega) (by rw [zI_toInt hz]; omega) (by rw [zI_toInt hz]; exact ho) ht (kk H locs ls hP hD hS hl)
theorem aw_tableO (C : cx p l s m args meth c cc nL ret Ts own G A H0) {z dflt lo hi : Int} {offs : Array Int} {len tgt : Nat} (hd : decode cc pc = .ok (.tableswitch dflt lo hi offs, len)) (hz : -2147483648 ≤ z ∧ z < 2147483648) (h1 : z < lo ∨ hi < z) (ht : (pc : Int) + dflt = (tgt : Int)) (kk : AW p l e R s m args below meth c nL G A H0 cells slots Q ws lv tgt st) : AW p l e R s m args below meth c nL G A H0 cells slots Q ws lv pc (.int (zI z) :: st) :=
  fun H locs ls hP hD hS hl => lv_tableOut C.1 C.2.1 hd (by rw [zI_toInt hz]; exact h1) ht (kk H locs ls hP hD hS hl)
theorem preH_at (C : cx p l s m args meth c cc nL ret Ts own G A s.heap) (X : XL l s sa A b L xs) {wc : va_W} {H : Heap} {locs : List Loc} {As : List Value} (hS : va_S A s.heap H locs) (hF : ∀ q, va_A wc H.size q → A q) (hP : va_P G.1 vwCl wc H) (hD : va_D (fun _ => True) wc) : ∀ U : State, U.heap = H → s.WarmedH U.vm → PXh G sa As wc H.size As.toArray U := fun U hU hW => ⟨rfl, by rw [hU], by rw [hU]; exact hP, va_K.moved hW.alike C.2.2.2.2.2.1, hD, NT.warm hW X.2.1, by
  rw [hU]
  exact ZQ.moved hW.alike ((X.2.2.1.kept (fun a ha hn => hS.2.1 a ha hn)).narrow hF), NH.moved hW.alike X.2.2.2.1⟩
variable {wc wr : va_W} {y : MethodName} {ws9 : List Cond} {rm : Room} {As : List Value} {index maxL n : Nat} {bytes : ByteArray} {rt : Option FieldType} {hh : List (Nat × Nat × Nat × Nat)}
theorem aw_hs {post : Int → va_W → Prop} (C : cx p l s m args meth c cc nL ret Ts own G A s.heap) (X : XL l s sa A b L xs) (hM : Mh l G sa y ws9 rm As wc post) (cw : vx_CSW R s args own index y bytes maxL rt hh ws9 rm 1 6 n) (hn : As.length = n) (hcat : Nat.ble (st.map fun v => v.category).sum 8 = true) (hd : decode cc pc = .ok (.invokestatic index, 3)) (hf : cells + 1 ≤ R.cells ∧ slots + 6 ≤ R.slots)
    (kk : ∀ (r : Int) (u : va_W), post r u → AW p l e R s m args below meth c nL G A s.heap (cells + 1) (slots + 6) Q (u ++ wr) lv (pc + 3) (.int (zI r) :: st)) : AW p l e R s m args below meth c nL G A s.heap cells slots Q (wc ++ wr) lv pc (As.reverse ++ st) :=
  fun H locs ls hP hD hS hl => by
    obtain ⟨hPc, hDc, hFc⟩ := aw_pre C hP hD hS
    refine va_calli (vx_runSW (e := e) (below := below) (meth := meth) (cells := cells) (slots := slots) (locs := locs) (g := F0 m pc ls (As.reverse ++ st)) (As := As) (rest := st) (fix_of C) (hM H.size) cw ⟨PXh_blind, preH_at C X hS hFc hPc hDc⟩ rfl hn hl.1 rfl (lv_room (Nat.le_of_ble_eq_true hcat)) hd hf) hS (fun q _ h => hFc q h) hFc (fun r u t H1 locs1 ht hvm hw hB hz1 hk1 hS1 => ?_)
    obtain ⟨rfl, hp⟩ := hw
    obtain ⟨hP1, hD1⟩ := hB
    rw [ht] at hP1
    obtain ⟨hP2, hD2⟩ := jn hP hD hk1 hFc hP1 hD1
    exact kk u.1 u.2 hp H1 locs1 ls hP2 hD2 hS1 hl
end AWL
end
section
/-! MAKING: constructors -/
theorem va_AOA.moved {u U : State} (hvm : u.vm.Alike U.vm) (h : va_AOA .int u) : va_AOA .int U := Jvm.Stand.arrayOver_alikeB hvm h
def NK (U : State) : Prop := va_Nw (.methodLinkNest "PaintSequencer" 15 yX0_init "PaintSequencer") U ∧ va_Nw (.methodLinkNest "PaintSequencer" 31 yX1_init "PaintSequencer") U ∧ va_AO RX0 U ∧ va_AOA .int U
theorem NK.warm {s U : State} (hW : s.WarmedH U.vm) (h : NK s) : NK U := ⟨va_Nw.warmM hW h.1, va_Nw.warmM hW h.2.1, va_AO.moved hW.alike h.2.2.1, va_AOA.moved hW.alike h.2.2.2⟩
theorem NK.same {u U : State} (e : u.vm = U.vm) (h : NK u) : NK U := ⟨va_Nw.same rfl e h.1, va_Nw.same rfl e h.2.1, va_AO.moved (by rw [e]; exact Vm.Alike.refl _) h.2.2.1, va_AOA.moved (by rw [e]; exact Vm.Alike.refl _) h.2.2.2⟩
def PXc (G : va_G × (Nat → ClassId)) (As : List Value) (w0 : va_W) (sz : Nat) : Array Value → State → Prop := va_Pc As (fun U => U.heap.size = sz ∧ va_P G.1 vwCl w0 U.heap ∧ va_K G.1 vwCl (tG G) U ∧ va_D (fun _ => True) w0 ∧ NX U ∧ NK U)
theorem PXc_blind {G : va_G × (Nat → ClassId)} {As : List Value} {w0 : va_W} {sz : Nat} : FrameBlind (PXc G As w0 sz) := fun a U g mk q => by
  obtain ⟨q0, q1, qP, qK, qD, qN, qM⟩ := q
  exact ⟨q0, q1, qP, va_K.moved (u := U) (U := U.calling g mk a) (Vm.Alike.refl U.vm) qK, qD, va_Nw.same rfl (rfl : U.vm = (U.calling g mk a).vm) qN, NK.same (rfl : U.vm = (U.calling g mk a).vm) qM⟩
def Mc (l : Launch) (G : va_G × (Nat → ClassId)) (y : MethodName) (ws : List Cond) (rm : Room) (As : List Value) (w0 : va_W) (post : va_W → Prop) (mc ms : Nat) : Prop := ∀ sz : Nat, Met l y ws rm (PXc G As w0 sz) (QPv G post (va_A w0 sz)) mc ms (va_A w0 sz)
theorem Mc.of {own : String} {l : Launch} {G : va_G × (Nat → ClassId)} {y : MethodName} {ws ws' : List Cond} {rm : Room} {As : List Value} {w0 : va_W} {post : va_W → Prop} {mc ms : Nat} {cc : ByteArray} {maxL : Nat} {ret : Option FieldType} (hy : plainName y.cls = true) (ho : y.cls = own) (hw : ws = Cond.code y cc maxL ret :: ws') (hlen : Nat.ble (lg_sl As).length maxL = true)
    (body : ∀ (p : Program) (e : Env) (s : State) (m : MethodId) (args : Array Value) (below : List Frame) (meth : Method) (c : Code) (A : Nat → Prop), cx p l s m args meth c cc maxL ret ws own G A s.heap → NX s → NK s → meth.name = y.name → AW p l e (headSpec ws rm).room s m args below meth c maxL G A s.heap 0 0 (MQ below (QPv G post A) args s mc ms A) w0 (lv_args 0 As) 0 []) : Mc l G y ws rm As w0 post mc ms := by
  intro sz
  refine Met.ofW (cc := cc) (maxL := maxL) (ret := ret) hy hw ?_
  intro p e s m args below meth c s₁ B hml hv
  obtain ⟨rfl, hsz, hP, hK, hD0, hN, hM⟩ := hv
  have hts := atoms_spec (ws := ws) B.pre
  subst hsz
  rw [lg_entry_eq]
  exact body p e s m _ below meth c (va_A w0 s.heap.size) ⟨B.exec, B.bytes, hml, (by rw [← ho]; exact findClass_of_methodNamed B.named), hts, hK, fun _ h => Or.inr h, B.notSynchronized, B.returns⟩ hN hM (name_of_methodNamed B.named B.method).1 s.heap [] _ hP hD0.self va_S.rf (lv_entry As (Nat.le_of_ble_eq_true hlen))
section AWN
variable {p : Program} {l : Launch} {e : Env} {R : Room} {s : State} {m : MethodId} {args : Array Value} {below : List Frame} {meth : Method} {c : Code} {nL : Nat} {G : va_G × (Nat → ClassId)} {A : Nat → Prop} {cells slots : Nat} {Q : State → Prop} {H0 : Heap}
variable {cc : ByteArray} {ret : Option FieldType} {Ts : List Cond} {own : String} {ws : va_W} {lv : List (Nat × Value)} {pc : Nat} {st : List Value}
theorem aw_vretC {post : va_W → Prop} (C : cx p l s m args meth c cc nL none Ts own G A s.heap) (hd : decode cc pc = .ok (.return_, 1)) (h : post ws) : AW p l e R s m args below meth c nL G A s.heap cells slots (MQ below (QPv G post A) args s cells slots A) ws lv pc [] :=
  fun H locs ls hP hD hS hl => W.vret C.1 C.2.1 C.2.2.2.2.2.2.2.2 (fun t ht hW => ⟨⟨ws, rfl, h, by rw [ht]; exact hP, hD⟩, hS.F ht⟩) hS.2.2 hd C.2.2.2.2.2.2.2.1
theorem aw_objinit (C : cx p l s m args meth c cc nL ret Ts own G A H0) {idx a : Nat} (h1 : (Cond.methodLink own idx objectInit).before args s = true) (h2 : (Cond.instanceMethod objectInit).before args s = true) (h3 : (Cond.code objectInit ⟨#[0xb1]⟩ 1 none).before args s = true) (hd : decode cc pc = .ok (.invokespecial idx, 3)) (hf : Nat.ble 1 R.frames = true) (hlo : Nat.ble 12 R.locals = true) (k : AW p l e R s m args below meth c nL G A H0 cells slots Q ws lv (pc + 3) []) : AW p l e R s m args below meth c nL G A H0 cells slots Q ws lv pc [.ref a] :=
  fun H locs ls hP hD hS hl => W.objInit C.1 C.2.1 C.2.2.2.1 h1 h2 h3 rfl (hl.1.trans C.2.2.1.symm) rfl hd (Nat.le_of_ble_eq_true hf) (Nat.le_of_ble_eq_true hlo) (W.eq (g2 := F0 m (pc + 3) ls []) rfl (k H locs ls hP hD hS hl))
theorem cls_int (C : cx p l s m args meth c cc nL ret Ts own G A H0) {D : va_G} {cA : ClassId} {ty : FieldType} {i : Nat} {t0 : List (ClassId × FieldType)} (h : va_K D vwCl (t0 ++ [(cA, ty)]) s) (hi : (tG G)[i]? = some (G.2 i, ty)) (hty : ∀ C9 : String, ty ≠ .object C9) : cA = G.2 i := by
  have h1 := (h.2 t0.length (cA, ty) (by rw [List.getElem?_append_right (Nat.le_refl _), Nat.sub_self]; rfl)).2
  have h2 := (C.2.2.2.2.2.1.2 i _ hi).2
  cases ty with
  | object C9 => exact absurd rfl (hty C9)
  | _ => exact Option.some.inj (Eq.trans (Eq.symm h1) h2)
theorem cls_obj (C : cx p l s m args meth c cc nL ret Ts own G A H0) {D : va_G} {cA : ClassId} {C9 : String} {i : Nat} {t0 : List (ClassId × FieldType)} (h : va_K D vwCl (t0 ++ [(cA, .object C9)]) s) (hi : (tG G)[i]? = some (G.2 i, .object C9)) : cA = G.2 i := by
  obtain ⟨-, -, -, -, -, h1⟩ := (h.2 t0.length (cA, .object C9) (by rw [List.getElem?_append_right (Nat.le_refl _), Nat.sub_self]; rfl)).2
  obtain ⟨-, -, -, -, -, h2⟩ := (C.2.2.2.2.2.1.2 i _ hi).2
  exact Option.some.inj (Eq.trans (Eq.symm h1) h2)
theorem aw_newI (C : cx p l s m args meth c cc nL ret Ts own G A H0) {n : Int} {N : Nat} (hN : n = (N : Int)) (hb : Nat.ble N 100000 = true) (harr : (Cond.arrayClass .int).before args s = true) (hd : decode cc pc = .ok (.newarray .int, 2)) (hc : Nat.ble (cells + 1) R.cells = true) (hs : Nat.ble (slots + N) R.slots = true) (kk : ∀ q : Nat, AW p l e R s m args below meth c nL G A H0 (cells + 1) (slots + N) Q (ws ++ [(q, arI G.2 N (fun _ => 0))]) lv (pc + 2) (.ref q :: st)) : AW p l e R s m args below meth c nL G A H0 cells slots Q ws lv pc (.int (zI n) :: st) :=
  fun H locs ls hP hD hS hl => by
    subst hN
    have hb' := Nat.le_of_ble_eq_true hb
    refine va_newa (atype := .int) (ty := .int) (a0 := (N, .inl (fun _ => zI 0))) (N' := N) C.1 C.2.1 harr rfl C.2.2.2.2.2.1 hP hD hS C.2.2.2.2.2.2.1 (fun cA => rfl) (by rw [Int32.lt_iff_toInt_lt, zI_toInt (by omega)]; simp) (by rw [zI_clamp (by omega) (by omega)]; simp) (by show N * 4 ≤ _; omega) (Nat.le_of_ble_eq_true hc) (Nat.le_of_ble_eq_true hs) hd (fun q cA H1 hK1 hP1 hD1 hS1 => ?_)
    obtain rfl := cls_int (i := 0) C hK1 rfl (fun _ h => by cases h)
    exact kk q H1 locs ls hP1 hD1 hS1 hl
theorem aw_newL (C : cx p l s m args meth c cc nL ret Ts own G A H0) (harr : (Cond.arrayClass .long).before args s = true) (hd : decode cc pc = .ok (.newarray .long, 2)) (hc : Nat.ble (cells + 1) R.cells = true) (hs : Nat.ble (slots + 1) R.slots = true) (kk : ∀ q : Nat, AW p l e R s m args below meth c nL G A H0 (cells + 1) (slots + 1) Q (ws ++ [oL G.2 q (fun _ => 0)]) lv (pc + 2) (.ref q :: st)) : AW p l e R s m args below meth c nL G A H0 cells slots Q ws lv pc (.int (zI 1) :: st) :=
  fun H locs ls hP hD hS hl => by
    refine va_newa (atype := .long) (ty := .long) (a0 := (1, .inr (.inl (fun _ => 0)))) (N' := 1) C.1 C.2.1 harr rfl C.2.2.2.2.2.1 hP hD hS C.2.2.2.2.2.2.1 (fun cA => rfl) (by decide) (by decide) (by decide) (Nat.le_of_ble_eq_true hc) (Nat.le_of_ble_eq_true hs) hd (fun q cA H1 hK1 hP1 hD1 hS1 => ?_)
    obtain rfl := cls_int (i := 3) C hK1 rfl (fun _ h => by cases h)
    exact kk q H1 locs ls hP1 hD1 hS1 hl
theorem aw_new (C : cx p l s m args meth c cc nL ret Ts own G A H0) {Cn : String} {T : u_T} {N ci index : Nat} {ty : Nat → FieldType} {fs : List Value} (hin : ∀ w ∈ u_ws Cn T N, w ∈ Ts) (hty : ∀ k, k < N → parseFieldDescriptor (T k).2.2.1 = some (ty k)) (hcl : (Cond.classLink own index Cn).before args s = true) (hinst : (Cond.instantiable Cn N).before args s = true) (hini : (Cond.initialized Cn).before args s = true) (hci : vwCl[ci]? = some (Cn, T, N)) (hfs : ∀ j, j < N → defaultValue (ty j) = vp_V fs j) (hd : decode cc pc = .ok (.new index, 3)) (hc : Nat.ble (cells + 1) R.cells = true) (hs : Nat.ble (slots + N) R.slots = true) (kk : ∀ q : Nat, AW p l e R s m args below meth c nL G A H0 (cells + 1) (slots + N) Q (ws ++ [(q, .inr (ci, fs))]) lv (pc + 3) (.ref q :: st)) : AW p l e R s m args below meth c nL G A H0 cells slots Q ws lv pc st :=
  fun H locs ls hP hD hS hl => va_new (ci := ci) (fs := fs) (C := Cn) (T := T) (N := N) C.1 C.2.1 C.2.2.2.2.1 hin ty hty C.2.2.2.1 hcl hinst hini C.2.2.2.2.2.1 hP hD hS C.2.2.2.2.2.2.1 hci hfs (Nat.le_of_ble_eq_true hc) (Nat.le_of_ble_eq_true hs) hd (fun q H1 hP1 hD1 hS1 => kk q H1 locs ls hP1 hD1 hS1 hl)
theorem aw_putF (C : cx p l s m args meth c cc nL ret Ts own G A H0) {Cn : String} {T : u_T} {N ci index q0 k : Nat} {ty0 : Nat → FieldType} {a v : Nat} {fs : List Value} {ws' : va_W} (hin : ∀ w ∈ u_ws Cn T N, w ∈ Ts) (hty : ∀ k, k < N → parseFieldDescriptor (T k).2.2.1 = some (ty0 k)) (hnm : ∀ a, a < N → ∀ b, b < N → a ≠ b → (T a).2.1 ≠ (T b).2.1) (hlink : (Cond.fieldLink own index (T k).1 (T k).2.1 (T k).2.2.1).before args s = true) (he : ws[q0]? = some (a, .inr (ci, fs))) (hc : vwCl[ci]? = some (Cn, T, N)) (hk : Nat.ble (k + 1) N = true) (hfin : (T k).2.2.2 = true) (hinit : meth.name = "<init>") (hdecl : (T k).1 = own) (hn : narrow (ty0 k) (.ref v) = .ref v) (hfit : fits (ty0 k) (.ref v) = true) (hl9 : Nat.ble (k + 1) fs.length = true) (hw : ws.set q0 (a, .inr (ci, fs.set k (.ref v))) = ws') (hd : decode cc pc = .ok (.putfield index, 3)) (kk : AW p l e R s m args below meth c nL G A H0 cells slots Q ws' lv (pc + 3) st) : AW p l e R s m args below meth c nL G A H0 cells slots Q ws lv pc (.ref v :: .ref a :: st) :=
  fun H locs ls hP hD hS hl => va_putF (v := .ref v) (ty := ty0 k) C.1 C.2.1 C.2.2.2.2.1 hin ty0 hty hnm C.2.2.2.1 C.2.2.2.2.2.1 hP hD hS q0 he hc k (Nat.le_of_ble_eq_true hk) hlink (fun _ h => h) hfin hinit hdecl (hty k (Nat.le_of_ble_eq_true hk)) hn hfit (Nat.le_of_ble_eq_true hl9) hd (fun H1 locs1 hP1 hD1 hS1 => by subst hw; exact kk H1 locs1 ls hP1 hD1 hS1 hl)
theorem aw_newq (C : cx p l s m args meth c cc nL ret Ts own G A H0) {index : Nat} (hcl : (Cond.classLink own index RX0).before args s = true) (hM : NK s) (hd : decode cc pc = .ok (.anewarray index, 3)) (hc : Nat.ble (cells + 1) R.cells = true) (hs : Nat.ble (slots + 5) R.slots = true) (kk : ∀ q : Nat, AW p l e R s m args below meth c nL G A H0 (cells + 1) (slots + 5) Q (ws ++ [(q, .inl (G.2 1, 5, .inr (.inr (.inr (.inr (fun _ => none))))))]) lv (pc + 3) (.ref q :: st)) : AW p l e R s m args below meth c nL G A H0 cells slots Q ws lv pc (.int (zI 5) :: st) :=
  fun H locs ls hP hD hS hl => by
    refine va_newq (N' := 5) C.1 C.2.1 C.2.2.2.1 hcl hM.2.2.1 C.2.2.2.2.2.1 hP hD hS C.2.2.2.2.2.2.1 (by decide) (by decide) (by decide) (Nat.le_of_ble_eq_true hc) (Nat.le_of_ble_eq_true hs) hd (fun q cA H1 hK1 hP1 hD1 hS1 => ?_)
    obtain rfl := cls_obj (i := 1) C hK1 rfl
    exact kk q H1 locs ls hP1 hD1 hS1 hl
theorem aw_astq (C : cx p l s m args meth c cc nL ret Ts own G A H0) {q0 qk a v : Nat} {f : Nat → Option Nat} {vs : List Value} {i : Int} {ws' : va_W} (he : ws[q0]? = some (a, .inl (G.2 1, 5, .inr (.inr (.inr (.inr f)))))) (hv : ws[qk]? = some (v, .inr (0, vs))) (h0 : 0 ≤ i) (h5 : i < 5) (hw : ws.set q0 (a, .inl (G.2 1, 5, .inr (.inr (.inr (.inr (va_up f i.toNat (some v))))))) = ws') (hd : decode cc pc = .ok (.aastore, 1)) (kk : AW p l e R s m args below meth c nL G A H0 cells slots Q ws' lv (pc + 1) st) : AW p l e R s m args below meth c nL G A H0 cells slots Q ws lv pc (.ref v :: .int (zI i) :: .ref a :: st) :=
  fun H locs ls hP hD hS hl => va_astq C.1 C.2.1 C.2.2.2.2.2.1 hP hD hS q0 1 qk 0 he rfl hv rfl (zI_in (n := 5) h0 (by omega) (by omega)) hd (fun H1 locs1 hP1 hD1 hS1 => by
    rw [zI_clamp h0 (by omega)] at hP1 hD1
    subst hw
    exact kk H1 locs1 ls hP1 hD1 hS1 hl)
/-- the same cells told by other words -/
theorem aw_cells {ws' : va_W} (h : ws.length = ws'.length) (h2 : ∀ (k : Nat) (q : Nat × va_E), ws'[k]? = some q → ∃ q' : Nat × va_E, ws[k]? = some q' ∧ q'.1 = q.1 ∧ (q'.2 = q.2 ∨ ∃ (cA : ClassId) (x y : vp_A), q'.2 = .inl (cA, x) ∧ q.2 = .inl (cA, y) ∧ vp_cell cA x = vp_cell cA y)) (kk : AW p l e R s m args below meth c nL G A H0 cells slots Q ws' lv pc st) : AW p l e R s m args below meth c nL G A H0 cells slots Q ws lv pc st :=
  fun H locs ls hP hD hS hl => kk H locs ls (fun k q hq => by
    obtain ⟨⟨a', x'⟩, g1, g2, g3⟩ := h2 k q hq
    obtain ⟨a, x⟩ := q
    have h3 := hP k _ g1
    dsimp only at g2 g3
    subst g2
    rcases g3 with rfl | ⟨cA, x1, y1, rfl, rfl, g4⟩
    · exact h3
    · have h4 : H[a']? = some (vp_cell cA x1) := h3
      show H[a']? = some (vp_cell cA y1)
      rw [← g4]
      exact h4) ⟨fun i j x y hx hy hxy => by
    obtain ⟨x', g1, g2, -⟩ := h2 i x hx
    obtain ⟨y', g3, g4, -⟩ := h2 j y hy
    exact hD.1 i j x' y' g1 g3 (by rw [g2, g4, hxy]), fun k q hq => by
    obtain ⟨q', g1, g2, -⟩ := h2 k q hq
    rw [← g2]
    exact hD.2 k q' g1⟩ hS hl
/-- the cells in another order -/
theorem aw_perm (is : List Nat) {ws' : va_W} (hn : va_nd is = true) (hs : is.map (fun i => ws[i]?) = ws'.map some) (kk : AW p l e R s m args below meth c nL G A H0 cells slots Q ws' lv pc st) : AW p l e R s m args below meth c nL G A H0 cells slots Q ws lv pc st :=
  fun H locs ls hP hD hS hl => by
    have key : ∀ (k : Nat) (q : Nat × va_E), ws'[k]? = some q → ∃ i, ws[i]? = some q := fun k q hq => by
      have h1 : (ws'.map some)[k]? = some (some q) := by rw [List.getElem?_map, hq]; rfl
      rw [← hs, List.getElem?_map] at h1
      cases hk : is[k]? with
      | none => rw [hk] at h1; cases h1
      | some i =>
        rw [hk] at h1
        exact ⟨i, Option.some.inj h1⟩
    exact kk H locs ls (fun k q hq => by
      obtain ⟨i, hi⟩ := key k q hq
      exact hP i q hi) (hD.sub is hn hs) hS hl
theorem aw_cvM {post : va_W → Prop} {wc wr : va_W} {As : List Value} {mc ms : Nat} (C : cx p l s m args meth c cc nL ret Ts own G A H0) (hr : ∀ (H : Heap) (locs : List Loc) (ls : Array Slot), va_P G.1 vwCl wc H → va_D (fun _ => True) wc → ls.size = nL → va_Run p l e R s m args below meth c H locs cells slots mc ms (F0 m pc ls (As ++ st)) st (QPv G post (va_A wc H.size) #[]) (va_A wc H.size)) (kk : ∀ (u : va_W), post u → AW p l e R s m args below meth c nL G A H0 (cells + mc) (slots + ms) Q (u ++ wr) lv (pc + 3) st) : AW p l e R s m args below meth c nL G A H0 cells slots Q (wc ++ wr) lv pc (As ++ st) :=
  fun H locs ls hP hD hS hl => by
    obtain ⟨hPc, hDc, hFc⟩ := aw_pre C hP hD hS
    refine va_callv (hr H locs ls hPc hDc hl.1) hS (fun q _ h => hFc q h) hFc (fun u t H1 locs1 ht hvm hw hB hz1 hk1 hS1 => ?_)
    obtain ⟨hP1, hD1⟩ := hB
    rw [ht] at hP1
    obtain ⟨hP2, hD2⟩ := jn hP hD hk1 hFc hP1 hD1
    exact kk u hw H1 locs1 ls hP2 hD2 hS1 hl
theorem preC_at (C : cx p l s m args meth c cc nL ret Ts own G A H0) (hN : NX s) (hM : NK s) {wc : va_W} {H : Heap} {As : List Value} (hP : va_P G.1 vwCl wc H) (hD : va_D (fun _ => True) wc) : ∀ U : State, U.heap = H → s.WarmedH U.vm → PXc G As wc H.size As.toArray U := fun U hU hW => ⟨rfl, by rw [hU], by rw [hU]; exact hP, va_K.moved hW.alike C.2.2.2.2.2.1, hD, va_Nw.warmM hW hN, NK.warm hW hM⟩
variable {wc wr : va_W} {y : MethodName} {ws9 : List Cond} {rm : Room} {b index maxL : Nat} {host : String} {bytes : ByteArray} {mc ms : Nat}
/-- a nest-mate's private constructor -/
theorem aw_cN {post : va_W → Prop} (C : cx p l s m args meth c cc nL ret Ts own G A H0) (hN : NX s) (hM : NK s) (hMc : Mc l G y ws9 rm [.ref b] wc post mc ms) (cw : va_CN R s args own index y host bytes maxL none ws9 rm mc ms 0 ∧ y.name = "<init>" ∧ (Cond.instanceMethod y).before args s = true) (hcat : Nat.ble (st.map fun v => v.category).sum 8 = true) (hd : decode cc pc = .ok (.invokespecial index, 3)) (hf : Nat.ble (cells + mc) R.cells = true ∧ Nat.ble (slots + ms) R.slots = true) (kk : ∀ (u : va_W), post u → AW p l e R s m args below meth c nL G A H0 (cells + mc) (slots + ms) Q (u ++ wr) lv (pc + 3) st) : AW p l e R s m args below meth c nL G A H0 cells slots Q (wc ++ wr) lv pc (.ref b :: st) :=
  aw_cvM (As := [.ref b]) C (fun H locs ls hP hD hl => va_runIN (As := []) (fix_of C) (hMc H.size) cw ⟨PXc_blind, preC_at C hN hM hP hD⟩ rfl rfl hl rfl (lv_room (Nat.le_of_ble_eq_true hcat)) hd ⟨Nat.le_of_ble_eq_true hf.1, Nat.le_of_ble_eq_true hf.2⟩) kk
theorem aw_cI {post : va_W → Prop} (C : cx p l s m args meth c cc nL ret Ts own G A H0) (hN : NX s) (hM : NK s) (hMc : Mc l G y ws9 rm [.ref b] wc post mc ms) (cw : CallB R s args own index y bytes maxL none ws9 rm mc ms 0 ∧ y.name = "<init>" ∧ (Cond.instanceMethod y).before args s = true) (hcat : Nat.ble (st.map fun v => v.category).sum 8 = true) (hd : decode cc pc = .ok (.invokespecial index, 3)) (hf : Nat.ble (cells + mc) R.cells = true ∧ Nat.ble (slots + ms) R.slots = true) (kk : ∀ (u : va_W), post u → AW p l e R s m args below meth c nL G A H0 (cells + mc) (slots + ms) Q (u ++ wr) lv (pc + 3) st) : AW p l e R s m args below meth c nL G A H0 cells slots Q (wc ++ wr) lv pc (.ref b :: st) :=
  aw_cvM (As := [.ref b]) C (fun H locs ls hP hD hl => va_runI (As := []) (fix_of C) (hMc H.size) cw ⟨PXc_blind, preC_at C hN hM hP hD⟩ rfl rfl hl rfl (lv_room (Nat.le_of_ble_eq_true hcat)) hd ⟨Nat.le_of_ble_eq_true hf.1, Nat.le_of_ble_eq_true hf.2⟩) kk
end AWN
end
section
section AWMM
variable {p : Program} {l : Launch} {e : Env} {R : Room} {s : State} {m : MethodId} {args : Array Value} {below : List Frame} {meth : Method} {c : Code} {nL : Nat} {G : va_G × (Nat → ClassId)} {A : Nat → Prop} {cells slots : Nat} {Q : State → Prop} {H0 : Heap}
variable {cc : ByteArray} {ret : Option FieldType} {Ts : List Cond} {own : String} {ws : va_W} {lv : List (Nat × Value)} {pc : Nat} {st : List Value}
theorem aw_mna (C : cx p l s m args meth c cc nL ret Ts own G A H0) {index : Nat} (hcl : (Cond.classLink own index "[[I").before args s = true) (hM : NK s) (harr : (Cond.arrayClass .int).before args s = true) (hd : decode cc pc = .ok (.multianewarray index 2, 4)) (hc : Nat.ble (cells + 6) R.cells = true) (hs : Nat.ble (slots + 35) R.slots = true) (kk : ∀ (q : Nat) (r : Nat → Nat), AW p l e R s m args below meth c nL G A H0 (cells + 6) (slots + 35) Q (ws ++ [(q, .inl (G.2 2, 5, .inr (.inr (.inr (.inr (fun i => if i < 5 then some (r i) else none)))))), (r 0, arI G.2 6 (fun _ => 0)), (r 1, arI G.2 6 (fun _ => 0)), (r 2, arI G.2 6 (fun _ => 0)), (r 3, arI G.2 6 (fun _ => 0)), (r 4, arI G.2 6 (fun _ => 0))]) lv (pc + 4) (.ref q :: st)) : AW p l e R s m args below meth c nL G A H0 cells slots Q ws lv pc (.int (zI 6) :: .int (zI 5) :: st) :=
  fun H locs ls hP hD hS hl => by
    have hcy : s.vm.findClass (FieldType.array .int).toString = some (G.2 0) := (C.2.2.2.2.2.1.2 0 _ rfl).2
    refine va_mna (X := ws) (L := []) (f := fun _ => arI G.2 6 (fun _ => 0)) (ty := .int) (cy := G.2 0) (N' := 5) (K' := 6) (z := (6, .inl (fun _ => zI 0))) C.1 C.2.1 C.2.2.2.1 hcl hM.2.2.2 harr hcy C.2.2.2.2.2.1 (by rw [show va_pl [] (fun _ => arI G.2 6 (fun _ => 0)) = [] from rfl, List.append_nil]; exact hP) (by rw [show va_pl [] (fun _ => arI G.2 6 (fun _ => 0)) = [] from rfl, List.append_nil]; exact hD) hS C.2.2.2.2.2.2.1 (by decide) (by decide) (by decide) (by decide) (by decide) (by decide) (by decide) rfl rfl (Nat.le_of_ble_eq_true hc) (Nat.le_of_ble_eq_true hs) (fun c9 => ?_) hd (fun q r cA H1 hr1 hr2 hK1 hP1 hD1 hS1 => ?_)
    · show ({ cls := c9, slots := Array.replicate 6 (.int 0), vm := .none } : Cell) = _
      rw [arrV_new]
      rfl
    · obtain rfl := cls_int (i := 2) C hK1 rfl (fun _ h => by cases h)
      have e1 : va_pl ([] ++ (List.range 5).map r) (vr_up (fun _ => arI G.2 6 (fun _ => 0)) ((List.range 5).map r) (.inl (G.2 0, 6, .inl (fun _ => zI 0)))) = [(r 0, arI G.2 6 (fun _ => 0)), (r 1, arI G.2 6 (fun _ => 0)), (r 2, arI G.2 6 (fun _ => 0)), (r 3, arI G.2 6 (fun _ => 0)), (r 4, arI G.2 6 (fun _ => 0))] := by
        rw [← vr_rows (L := []) (fun a _ h => absurd h List.not_mem_nil)]
        rfl
      rw [e1, List.append_assoc] at hP1 hD1
      exact kk q r H1 locs ls hP1 hD1 hS1 hl
theorem cell_q5 {cA : ClassId} {f g : Nat → Option Nat} (h : ∀ j : Nat, j < 5 → f j = g j) : vp_cell cA (5, .inr (.inr (.inr (.inr f)))) = vp_cell cA (5, .inr (.inr (.inr (.inr g)))) := by
  show arrV cA 5 (fun j => va_rf (f j)) = arrV cA 5 (fun j => va_rf (g j))
  unfold arrV
  have e : (Array.ofFn (n := 5) fun j => va_rf (f j.val)) = Array.ofFn (n := 5) fun j => va_rf (g j.val) := congrArg _ (funext fun j => by rw [h j.val j.isLt])
  rw [e]
/-- the array's cell at the place q0 told by another list of references -/
theorem aw_row5 {q0 a : Nat} {cA : ClassId} {f g : Nat → Option Nat} {ws' : va_W} (he : ws[q0]? = some (a, .inl (cA, 5, .inr (.inr (.inr (.inr f)))))) (h : ∀ j : Nat, j < 5 → f j = g j) (hw : ws.set q0 (a, .inl (cA, 5, .inr (.inr (.inr (.inr g))))) = ws') (kk : AW p l e R s m args below meth c nL G A H0 cells slots Q ws' lv pc st) : AW p l e R s m args below meth c nL G A H0 cells slots Q ws lv pc st := by
  subst hw
  refine aw_cells (List.length_set ..).symm (fun k q hk => ?_) kk
  by_cases e : q0 = k
  · subst e
    rw [List.getElem?_set_self (List.getElem?_eq_some_iff.mp he).1] at hk
    cases hk
    exact ⟨_, he, rfl, Or.inr ⟨cA, _, _, rfl, rfl, cell_q5 h⟩⟩
  · rw [List.getElem?_set_ne e] at hk
    exact ⟨q, hk, rfl, Or.inl rfl⟩
end AWMM
set_option maxHeartbeats 4000000 in
set_option maxRecDepth 100000 in
theorem c_X0_init {l : Launch} {G : va_G × (Nat → ClassId)} {h0 : Nat} : Mc l G yX0_init wsX0_init ({ frames := 1, cells := 1, slots := 6, locals := 12 } : Room) [.ref h0] [(h0, .inr (0, [.null, .int (zI 0)]))] (fun u => ∃ q : Nat, u = [(h0, .inr (0, [.ref q, .int (zI 0)])), (q, arI G.2 6 (fun _ => 0))]) 1 6 := by
  refine Mc.of (own := RX0) (cc := cX0_init) (maxL := 1) (ret := none) (by decide) rfl rfl rfl ?_
  intro p e s m args below meth c A C hN hM hnm
  have hts := C.2.2.2.2.1
  have iFX0 : ∀ w ∈ u_ws RX0 TX0 2, w ∈ wsX0_init := by decide +kernel
  have k_9 := hts (.fieldLink RX0 9 "PaintSequencer$Lane" "row" "[I") (by decide +kernel)
  refine aw_aload_n C dX0_init_0 rfl ?_
  refine aw_objinit C (hts (.methodLink RX0 3 objectInit) (by decide +kernel)) (hts (.instanceMethod objectInit) (by decide +kernel)) (hts _ (List.mem_cons_of_mem _ (List.mem_append_left _ (List.mem_of_getElem? (i := 2) rfl)))) dX0_init_1 rfl rfl ?_
  refine aw_aload_n C dX0_init_4 rfl ?_
  refine aw_bipush C dX0_init_5 rfl ?_
  refine aw_newI (N := 6) C rfl rfl (hts (.arrayClass .int) (by decide +kernel)) dX0_init_7 rfl rfl (fun q1 => ?_)
  refine aw_putF (q0 := 0) (k := 0) C iFX0 tyX0_ok nmX0 k_9 rfl rfl rfl rfl hnm rfl rfl rfl rfl rfl dX0_init_9 ?_
  exact aw_vretC C dX0_init_12 ⟨q1, rfl⟩
set_option maxHeartbeats 4000000 in
set_option maxRecDepth 100000 in
theorem c_X1_init {l : Launch} {G : va_G × (Nat → ClassId)} {h0 : Nat} : Mc l G yX1_init wsX1_init ({ frames := 1, cells := 11, slots := 914, locals := 12 } : Room) [.ref h0] [(h0, .inr (1, [.null, .null, .null, .null, .null, .null]))] (fun u => ∃ (w : Nat) (r : Nat → Nat) (a1 a2 a3 a4 a5 : Nat), u = [(h0, .inr (1, [.ref w, .ref a1, .ref a2, .ref a3, .ref a4, .ref a5])), (w, .inl (G.2 2, 5, .inr (.inr (.inr (.inr (fun i => if i < 5 then some (r i) else none)))))), (r 0, arI G.2 6 (fun _ => 0)), (r 1, arI G.2 6 (fun _ => 0)), (r 2, arI G.2 6 (fun _ => 0)), (r 3, arI G.2 6 (fun _ => 0)), (r 4, arI G.2 6 (fun _ => 0)), (a1, arI G.2 5 (fun _ => 0)), (a2, arI G.2 5 (fun _ => 0)), (a3, arI G.2 5 (fun _ => 0)), (a4, arI G.2 432 (fun _ => 0)), (a5, arI G.2 432 (fun _ => 0))]) 11 914 := by
  refine Mc.of (own := RX1) (cc := cX1_init) (maxL := 1) (ret := none) (by decide) rfl rfl rfl ?_
  intro p e s m args below meth c A C hN hM hnm
  have hts := C.2.2.2.2.1
  have iFX1 : ∀ w ∈ u_ws RX1 TX1 6, w ∈ wsX1_init := by decide +kernel
  have k_11 := hts (.fieldLink RX1 11 "PaintSequencer$Plan" "waiting" "[[I") (by decide +kernel)
  have k_16 := hts (.fieldLink RX1 16 "PaintSequencer$Plan" "sizes" "[I") (by decide +kernel)
  have k_20 := hts (.fieldLink RX1 20 "PaintSequencer$Plan" "taken" "[I") (by decide +kernel)
  have k_23 := hts (.fieldLink RX1 23 "PaintSequencer$Plan" "strides" "[I") (by decide +kernel)
  have k_26 := hts (.fieldLink RX1 26 "PaintSequencer$Plan" "leasts" "[I") (by decide +kernel)
  have k_29 := hts (.fieldLink RX1 29 "PaintSequencer$Plan" "starts" "[I") (by decide +kernel)
  refine aw_aload_n C dX1_init_0 rfl ?_
  refine aw_objinit C (hts (.methodLink RX1 3 objectInit) (by decide +kernel)) (hts (.instanceMethod objectInit) (by decide +kernel)) (hts _ (List.mem_cons_of_mem _ (List.mem_append_left _ (List.mem_of_getElem? (i := 2) rfl)))) dX1_init_1 rfl rfl ?_
  refine aw_aload_n C dX1_init_4 rfl ?_
  refine aw_iconst C dX1_init_5 ?_
  refine aw_bipush C dX1_init_6 rfl ?_
  refine aw_mna C (hts (.classLink RX1 9 "[[I") (by decide +kernel)) hM (hts (.arrayClass .int) (by decide +kernel)) dX1_init_8 rfl rfl (fun w r => ?_)
  refine aw_putF (q0 := 0) (k := 0) C iFX1 tyX1_ok nmX1 k_11 rfl rfl rfl rfl hnm rfl rfl rfl rfl rfl dX1_init_12 ?_
  refine aw_aload_n C dX1_init_15 rfl ?_
  refine aw_iconst C dX1_init_16 ?_
  refine aw_newI (N := 5) C rfl rfl (hts (.arrayClass .int) (by decide +kernel)) dX1_init_17 rfl rfl (fun q1 => ?_)
  refine aw_putF (q0 := 0) (k := 1) C iFX1 tyX1_ok nmX1 k_16 rfl rfl rfl rfl hnm rfl rfl rfl rfl rfl dX1_init_19 ?_
  refine aw_aload_n C dX1_init_22 rfl ?_
  refine aw_iconst C dX1_init_23 ?_
  refine aw_newI (N := 5) C rfl rfl (hts (.arrayClass .int) (by decide +kernel)) dX1_init_24 rfl rfl (fun q2 => ?_)
  refine aw_putF (q0 := 0) (k := 2) C iFX1 tyX1_ok nmX1 k_20 rfl rfl rfl rfl hnm rfl rfl rfl rfl rfl dX1_init_26 ?_
  refine aw_aload_n C dX1_init_29 rfl ?_
  refine aw_iconst C dX1_init_30 ?_
  refine aw_newI (N := 5) C rfl rfl (hts (.arrayClass .int) (by decide +kernel)) dX1_init_31 rfl rfl (fun q3 => ?_)
  refine aw_putF (q0 := 0) (k := 3) C iFX1 tyX1_ok nmX1 k_23 rfl rfl rfl rfl hnm rfl rfl rfl rfl rfl dX1_init_33 ?_
  refine aw_aload_n C dX1_init_36 rfl ?_
  refine aw_sipush C dX1_init_37 rfl ?_
  refine aw_newI (N := 432) C rfl rfl (hts (.arrayClass .int) (by decide +kernel)) dX1_init_40 rfl rfl (fun q4 => ?_)
  refine aw_putF (q0 := 0) (k := 4) C iFX1 tyX1_ok nmX1 k_26 rfl rfl rfl rfl hnm rfl rfl rfl rfl rfl dX1_init_42 ?_
  refine aw_aload_n C dX1_init_45 rfl ?_
  refine aw_sipush C dX1_init_46 rfl ?_
  refine aw_newI (N := 432) C rfl rfl (hts (.arrayClass .int) (by decide +kernel)) dX1_init_49 rfl rfl (fun q5 => ?_)
  refine aw_putF (q0 := 0) (k := 5) C iFX1 tyX1_ok nmX1 k_29 rfl rfl rfl rfl hnm rfl rfl rfl rfl rfl dX1_init_51 ?_
  exact aw_vretC C dX1_init_54 ⟨w, r, q1, q2, q3, q4, q5, rfl⟩
/-- the first state of all -/
def S00 : St := (fun k => match k with
  | 0 => 3
  | 1 => 4
  | 2 => 3
  | 8 => -1
  | 11 => -1
  | _ => 0, fun _ _ => 0)
def P00 : St := (fun _ => 0, fun _ _ => 0)
def adL (L : List Nat) : Nat → Nat := fun n => L.getD n 0
theorem inv_00 : Inv2 S00 := inv_nil (by decide) (by decide) (by decide) (by decide) (by decide) rfl rfl rfl rfl rfl (fun _ _ _ => rfl)
set_option maxHeartbeats 4000000 in
set_option maxRecDepth 100000 in
theorem c_X2_init {l : Launch} {G : va_G × (Nat → ClassId)} {h0 : Nat} : Mc l G yX2_init wsX2_init ({ frames := 2, cells := 27, slots := 1361, locals := 32 } : Room) [.ref h0] [(h0, .inr (2, [.null, .null, .null, .null, .null, .null, .int (zI 0), .int (zI 0), .int (zI 0), .int (zI 0), .int (zI 0), .int (zI 0), .int (zI 0), .int (zI 0), .int (zI 0), .int (zI 0), .int (zI 0)]))] (fun u => ∃ ad : Nat → Nat, ad 0 = h0 ∧ u = WX G.2 ad S00 P00) 27 1361 := by
  refine Mc.of (own := RX2) (cc := cX2_init) (maxL := 2) (ret := none) (by decide) rfl rfl rfl ?_
  intro p e s m args below meth c A C hN hM hnm
  have hts := C.2.2.2.2.1
  have iFX2 : ∀ w ∈ u_ws RX2 TX2 17, w ∈ wsX2_init := by decide +kernel
  have k_11 := hts (.fieldLink RX2 11 "PaintSequencer" "lanes" "[LPaintSequencer$Lane;") (by decide +kernel)
  have k_16 := hts (.fieldLink RX2 16 "PaintSequencer" "colours" "[I") (by decide +kernel)
  have k_20 := hts (.fieldLink RX2 20 "PaintSequencer" "places" "[I") (by decide +kernel)
  have k_23 := hts (.fieldLink RX2 23 "PaintSequencer" "positions" "[I") (by decide +kernel)
  have k_26 := hts (.fieldLink RX2 26 "PaintSequencer" "order" "[I") (by decide +kernel)
  have k_32 := hts (.fieldLink RX2 32 "PaintSequencer" "plan" "LPaintSequencer$Plan;") (by decide +kernel)
  have k_36 := hts (.fieldLink RX2 36 "PaintSequencer" "laneCount" "I") (by decide +kernel)
  have k_40 := hts (.fieldLink RX2 40 "PaintSequencer" "depth" "I") (by decide +kernel)
  have k_43 := hts (.fieldLink RX2 43 "PaintSequencer" "storeRoom" "I") (by decide +kernel)
  have k_46 := hts (.fieldLink RX2 46 "PaintSequencer" "latestColour" "I") (by decide +kernel)
  refine aw_aload_n C dX2_init_0 rfl ?_
  refine aw_objinit C (hts (.methodLink RX2 1 objectInit) (by decide +kernel)) (hts (.instanceMethod objectInit) (by decide +kernel)) (hts _ (List.mem_cons_of_mem _ (List.mem_append_left _ (List.mem_append_left _ (List.mem_append_left _ (List.mem_append_left _ (List.mem_of_getElem? (i := 2) rfl))))))) dX2_init_1 rfl rfl ?_
  refine aw_aload_n C dX2_init_4 rfl ?_
  refine aw_iconst C dX2_init_5 ?_
  refine aw_newq C (hts (.classLink RX2 9 RX0) (by decide +kernel)) hM dX2_init_6 rfl rfl (fun L => ?_)
  show AW p l e _ s m args below meth c 2 G A s.heap _ _ _ [(h0, .inr (2, [.null, .null, .null, .null, .null, .null, .int (zI 0), .int (zI 0), .int (zI 0), .int (zI 0), .int (zI 0), .int (zI 0), .int (zI 0), .int (zI 0), .int (zI 0), .int (zI 0), .int (zI 0)])), (L, .inl (G.2 1, 5, .inr (.inr (.inr (.inr (fun _ => none))))))] _ _ _
  refine aw_putF (q0 := 0) (k := 0) C iFX2 tyX2_ok nmX2 k_11 rfl rfl rfl rfl hnm rfl rfl rfl rfl rfl dX2_init_9 ?_
  show AW p l e _ s m args below meth c 2 G A s.heap _ _ _ [(h0, .inr (2, [.ref L, .null, .null, .null, .null, .null, .int (zI 0), .int (zI 0), .int (zI 0), .int (zI 0), .int (zI 0), .int (zI 0), .int (zI 0), .int (zI 0), .int (zI 0), .int (zI 0), .int (zI 0)])), (L, .inl (G.2 1, 5, .inr (.inr (.inr (.inr (fun _ => none))))))] _ _ _
  refine aw_iconst C dX2_init_12 ?_
  refine aw_istore_n C dX2_init_13 rfl rfl ?_
  refine aw_iload_n C dX2_init_14 rfl ?_
  refine aw_iconst C dX2_init_15 ?_
  refine aw_icmp_ge (tgt := 38) C dX2_init_16 (by decide) (by decide) (by decide) (fun h => absurd h (by decide)) (fun _ => ?_)
  refine aw_aload_n C dX2_init_19 rfl ?_
  refine aw_get (q0 := 0) (k := 0) C iFX2 k_11 rfl rfl rfl rfl dX2_init_20 ?_
  refine aw_iload_n C dX2_init_23 rfl ?_
  refine aw_new (ci := 0) (fs := [.null, .int (zI 0)]) (Cn := RX0) (T := TX0) (N := 2) C (by decide +kernel) tyX0_ok (hts (.classLink RX2 9 RX0) (by decide +kernel)) (hts (.instantiable RX0 2) (by decide +kernel)) (hts (.initialized RX0) (by decide +kernel)) rfl (fun j hj => by rcases (show j = 0 ∨ j = 1 by omega) with rfl | rfl <;> rfl) dX2_init_24 rfl rfl (fun o0 => ?_)
  refine aw_dup C dX2_init_27 rfl ?_
  refine aw_swap ?_
  refine aw_cN C hN hM (c_X0_init (h0 := o0)) ⟨by exact va_cnB 0 hts gX2_init_X0_init_n15 rfl rfl rfl hM.1 (hts (.initialized RX0) (by decide +kernel)) (by decide +kernel) ⟨Nat.le_of_ble_eq_true rfl, Nat.le_of_ble_eq_true rfl⟩, rfl, hts (.instanceMethod yX0_init) (by decide +kernel)⟩ rfl dX2_init_28 ⟨rfl, rfl⟩ (fun u q => ?_)
  obtain ⟨r0, rfl⟩ := q
  refine aw_swap ?_
  show AW p l e _ s m args below meth c 2 G A s.heap _ _ _ [(h0, .inr (2, [.ref L, .null, .null, .null, .null, .null, .int (zI 0), .int (zI 0), .int (zI 0), .int (zI 0), .int (zI 0), .int (zI 0), .int (zI 0), .int (zI 0), .int (zI 0), .int (zI 0), .int (zI 0)])), (L, .inl (G.2 1, 5, .inr (.inr (.inr (.inr (fun _ => none)))))), (o0, .inr (0, [.ref r0, .int (zI 0)])), (r0, arI G.2 6 (fun _ => 0))] _ _ _
  refine aw_astq (q0 := 1) (qk := 2) C rfl rfl (by decide) (by decide) rfl dX2_init_31 ?_
  show AW p l e _ s m args below meth c 2 G A s.heap _ _ _ [(h0, .inr (2, [.ref L, .null, .null, .null, .null, .null, .int (zI 0), .int (zI 0), .int (zI 0), .int (zI 0), .int (zI 0), .int (zI 0), .int (zI 0), .int (zI 0), .int (zI 0), .int (zI 0), .int (zI 0)])), (L, .inl (G.2 1, 5, .inr (.inr (.inr (.inr (va_up (fun _ => none) 0 (some o0))))))), (o0, .inr (0, [.ref r0, .int (zI 0)])), (r0, arI G.2 6 (fun _ => 0))] _ _ _
  refine aw_iinc C dX2_init_32 rfl rfl rfl ?_
  refine aw_goto (tgt := 14) C dX2_init_35 (by decide) ?_
  refine aw_iload_n C dX2_init_14 rfl ?_
  refine aw_iconst C dX2_init_15 ?_
  refine aw_icmp_ge (tgt := 38) C dX2_init_16 (by decide) (by decide) (by decide) (fun h => absurd h (by decide)) (fun _ => ?_)
  refine aw_aload_n C dX2_init_19 rfl ?_
  refine aw_get (q0 := 0) (k := 0) C iFX2 k_11 rfl rfl rfl rfl dX2_init_20 ?_
  refine aw_iload_n C dX2_init_23 rfl ?_
  refine aw_new (ci := 0) (fs := [.null, .int (zI 0)]) (Cn := RX0) (T := TX0) (N := 2) C (by decide +kernel) tyX0_ok (hts (.classLink RX2 9 RX0) (by decide +kernel)) (hts (.instantiable RX0 2) (by decide +kernel)) (hts (.initialized RX0) (by decide +kernel)) rfl (fun j hj => by rcases (show j = 0 ∨ j = 1 by omega) with rfl | rfl <;> rfl) dX2_init_24 rfl rfl (fun o1 => ?_)
  refine aw_dup C dX2_init_27 rfl ?_
  refine aw_swap ?_
  refine aw_cN C hN hM (c_X0_init (h0 := o1)) ⟨by exact va_cnB 0 hts gX2_init_X0_init_n15 rfl rfl rfl hM.1 (hts (.initialized RX0) (by decide +kernel)) (by decide +kernel) ⟨Nat.le_of_ble_eq_true rfl, Nat.le_of_ble_eq_true rfl⟩, rfl, hts (.instanceMethod yX0_init) (by decide +kernel)⟩ rfl dX2_init_28 ⟨rfl, rfl⟩ (fun u q => ?_)
  obtain ⟨r1, rfl⟩ := q
  refine aw_swap ?_
  show AW p l e _ s m args below meth c 2 G A s.heap _ _ _ [(h0, .inr (2, [.ref L, .null, .null, .null, .null, .null, .int (zI 0), .int (zI 0), .int (zI 0), .int (zI 0), .int (zI 0), .int (zI 0), .int (zI 0), .int (zI 0), .int (zI 0), .int (zI 0), .int (zI 0)])), (L, .inl (G.2 1, 5, .inr (.inr (.inr (.inr (va_up (fun _ => none) 0 (some o0))))))), (o0, .inr (0, [.ref r0, .int (zI 0)])), (r0, arI G.2 6 (fun _ => 0)), (o1, .inr (0, [.ref r1, .int (zI 0)])), (r1, arI G.2 6 (fun _ => 0))] _ _ _
  refine aw_astq (q0 := 1) (qk := 4) C rfl rfl (by decide) (by decide) rfl dX2_init_31 ?_
  show AW p l e _ s m args below meth c 2 G A s.heap _ _ _ [(h0, .inr (2, [.ref L, .null, .null, .null, .null, .null, .int (zI 0), .int (zI 0), .int (zI 0), .int (zI 0), .int (zI 0), .int (zI 0), .int (zI 0), .int (zI 0), .int (zI 0), .int (zI 0), .int (zI 0)])), (L, .inl (G.2 1, 5, .inr (.inr (.inr (.inr (va_up (va_up (fun _ => none) 0 (some o0)) 1 (some o1))))))), (o0, .inr (0, [.ref r0, .int (zI 0)])), (r0, arI G.2 6 (fun _ => 0)), (o1, .inr (0, [.ref r1, .int (zI 0)])), (r1, arI G.2 6 (fun _ => 0))] _ _ _
  refine aw_iinc C dX2_init_32 rfl rfl rfl ?_
  refine aw_goto (tgt := 14) C dX2_init_35 (by decide) ?_
  refine aw_iload_n C dX2_init_14 rfl ?_
  refine aw_iconst C dX2_init_15 ?_
  refine aw_icmp_ge (tgt := 38) C dX2_init_16 (by decide) (by decide) (by decide) (fun h => absurd h (by decide)) (fun _ => ?_)
  refine aw_aload_n C dX2_init_19 rfl ?_
  refine aw_get (q0 := 0) (k := 0) C iFX2 k_11 rfl rfl rfl rfl dX2_init_20 ?_
  refine aw_iload_n C dX2_init_23 rfl ?_
  refine aw_new (ci := 0) (fs := [.null, .int (zI 0)]) (Cn := RX0) (T := TX0) (N := 2) C (by decide +kernel) tyX0_ok (hts (.classLink RX2 9 RX0) (by decide +kernel)) (hts (.instantiable RX0 2) (by decide +kernel)) (hts (.initialized RX0) (by decide +kernel)) rfl (fun j hj => by rcases (show j = 0 ∨ j = 1 by omega) with rfl | rfl <;> rfl) dX2_init_24 rfl rfl (fun o2 => ?_)
  refine aw_dup C dX2_init_27 rfl ?_
  refine aw_swap ?_
  refine aw_cN C hN hM (c_X0_init (h0 := o2)) ⟨by exact va_cnB 0 hts gX2_init_X0_init_n15 rfl rfl rfl hM.1 (hts (.initialized RX0) (by decide +kernel)) (by decide +kernel) ⟨Nat.le_of_ble_eq_true rfl, Nat.le_of_ble_eq_true rfl⟩, rfl, hts (.instanceMethod yX0_init) (by decide +kernel)⟩ rfl dX2_init_28 ⟨rfl, rfl⟩ (fun u q => ?_)
  obtain ⟨r2, rfl⟩ := q
  refine aw_swap ?_
  show AW p l e _ s m args below meth c 2 G A s.heap _ _ _ [(h0, .inr (2, [.ref L, .null, .null, .null, .null, .null, .int (zI 0), .int (zI 0), .int (zI 0), .int (zI 0), .int (zI 0), .int (zI 0), .int (zI 0), .int (zI 0), .int (zI 0), .int (zI 0), .int (zI 0)])), (L, .inl (G.2 1, 5, .inr (.inr (.inr (.inr (va_up (va_up (fun _ => none) 0 (some o0)) 1 (some o1))))))), (o0, .inr (0, [.ref r0, .int (zI 0)])), (r0, arI G.2 6 (fun _ => 0)), (o1, .inr (0, [.ref r1, .int (zI 0)])), (r1, arI G.2 6 (fun _ => 0)), (o2, .inr (0, [.ref r2, .int (zI 0)])), (r2, arI G.2 6 (fun _ => 0))] _ _ _
  refine aw_astq (q0 := 1) (qk := 6) C rfl rfl (by decide) (by decide) rfl dX2_init_31 ?_
  show AW p l e _ s m args below meth c 2 G A s.heap _ _ _ [(h0, .inr (2, [.ref L, .null, .null, .null, .null, .null, .int (zI 0), .int (zI 0), .int (zI 0), .int (zI 0), .int (zI 0), .int (zI 0), .int (zI 0), .int (zI 0), .int (zI 0), .int (zI 0), .int (zI 0)])), (L, .inl (G.2 1, 5, .inr (.inr (.inr (.inr (va_up (va_up (va_up (fun _ => none) 0 (some o0)) 1 (some o1)) 2 (some o2))))))), (o0, .inr (0, [.ref r0, .int (zI 0)])), (r0, arI G.2 6 (fun _ => 0)), (o1, .inr (0, [.ref r1, .int (zI 0)])), (r1, arI G.2 6 (fun _ => 0)), (o2, .inr (0, [.ref r2, .int (zI 0)])), (r2, arI G.2 6 (fun _ => 0))] _ _ _
  refine aw_iinc C dX2_init_32 rfl rfl rfl ?_
  refine aw_goto (tgt := 14) C dX2_init_35 (by decide) ?_
  refine aw_iload_n C dX2_init_14 rfl ?_
  refine aw_iconst C dX2_init_15 ?_
  refine aw_icmp_ge (tgt := 38) C dX2_init_16 (by decide) (by decide) (by decide) (fun h => absurd h (by decide)) (fun _ => ?_)
  refine aw_aload_n C dX2_init_19 rfl ?_
  refine aw_get (q0 := 0) (k := 0) C iFX2 k_11 rfl rfl rfl rfl dX2_init_20 ?_
  refine aw_iload_n C dX2_init_23 rfl ?_
  refine aw_new (ci := 0) (fs := [.null, .int (zI 0)]) (Cn := RX0) (T := TX0) (N := 2) C (by decide +kernel) tyX0_ok (hts (.classLink RX2 9 RX0) (by decide +kernel)) (hts (.instantiable RX0 2) (by decide +kernel)) (hts (.initialized RX0) (by decide +kernel)) rfl (fun j hj => by rcases (show j = 0 ∨ j = 1 by omega) with rfl | rfl <;> rfl) dX2_init_24 rfl rfl (fun o3 => ?_)
  refine aw_dup C dX2_init_27 rfl ?_
  refine aw_swap ?_
  refine aw_cN C hN hM (c_X0_init (h0 := o3)) ⟨by exact va_cnB 0 hts gX2_init_X0_init_n15 rfl rfl rfl hM.1 (hts (.initialized RX0) (by decide +kernel)) (by decide +kernel) ⟨Nat.le_of_ble_eq_true rfl, Nat.le_of_ble_eq_true rfl⟩, rfl, hts (.instanceMethod yX0_init) (by decide +kernel)⟩ rfl dX2_init_28 ⟨rfl, rfl⟩ (fun u q => ?_)
  obtain ⟨r3, rfl⟩ := q
  refine aw_swap ?_
  show AW p l e _ s m args below meth c 2 G A s.heap _ _ _ [(h0, .inr (2, [.ref L, .null, .null, .null, .null, .null, .int (zI 0), .int (zI 0), .int (zI 0), .int (zI 0), .int (zI 0), .int (zI 0), .int (zI 0), .int (zI 0), .int (zI 0), .int (zI 0), .int (zI 0)])), (L, .inl (G.2 1, 5, .inr (.inr (.inr (.inr (va_up (va_up (va_up (fun _ => none) 0 (some o0)) 1 (some o1)) 2 (some o2))))))), (o0, .inr (0, [.ref r0, .int (zI 0)])), (r0, arI G.2 6 (fun _ => 0)), (o1, .inr (0, [.ref r1, .int (zI 0)])), (r1, arI G.2 6 (fun _ => 0)), (o2, .inr (0, [.ref r2, .int (zI 0)])), (r2, arI G.2 6 (fun _ => 0)), (o3, .inr (0, [.ref r3, .int (zI 0)])), (r3, arI G.2 6 (fun _ => 0))] _ _ _
  refine aw_astq (q0 := 1) (qk := 8) C rfl rfl (by decide) (by decide) rfl dX2_init_31 ?_
  show AW p l e _ s m args below meth c 2 G A s.heap _ _ _ [(h0, .inr (2, [.ref L, .null, .null, .null, .null, .null, .int (zI 0), .int (zI 0), .int (zI 0), .int (zI 0), .int (zI 0), .int (zI 0), .int (zI 0), .int (zI 0), .int (zI 0), .int (zI 0), .int (zI 0)])), (L, .inl (G.2 1, 5, .inr (.inr (.inr (.inr (va_up (va_up (va_up (va_up (fun _ => none) 0 (some o0)) 1 (some o1)) 2 (some o2)) 3 (some o3))))))), (o0, .inr (0, [.ref r0, .int (zI 0)])), (r0, arI G.2 6 (fun _ => 0)), (o1, .inr (0, [.ref r1, .int (zI 0)])), (r1, arI G.2 6 (fun _ => 0)), (o2, .inr (0, [.ref r2, .int (zI 0)])), (r2, arI G.2 6 (fun _ => 0)), (o3, .inr (0, [.ref r3, .int (zI 0)])), (r3, arI G.2 6 (fun _ => 0))] _ _ _
  refine aw_iinc C dX2_init_32 rfl rfl rfl ?_
  refine aw_goto (tgt := 14) C dX2_init_35 (by decide) ?_
  refine aw_iload_n C dX2_init_14 rfl ?_
  refine aw_iconst C dX2_init_15 ?_
  refine aw_icmp_ge (tgt := 38) C dX2_init_16 (by decide) (by decide) (by decide) (fun h => absurd h (by decide)) (fun _ => ?_)
  refine aw_aload_n C dX2_init_19 rfl ?_
  refine aw_get (q0 := 0) (k := 0) C iFX2 k_11 rfl rfl rfl rfl dX2_init_20 ?_
  refine aw_iload_n C dX2_init_23 rfl ?_
  refine aw_new (ci := 0) (fs := [.null, .int (zI 0)]) (Cn := RX0) (T := TX0) (N := 2) C (by decide +kernel) tyX0_ok (hts (.classLink RX2 9 RX0) (by decide +kernel)) (hts (.instantiable RX0 2) (by decide +kernel)) (hts (.initialized RX0) (by decide +kernel)) rfl (fun j hj => by rcases (show j = 0 ∨ j = 1 by omega) with rfl | rfl <;> rfl) dX2_init_24 rfl rfl (fun o4 => ?_)
  refine aw_dup C dX2_init_27 rfl ?_
  refine aw_swap ?_
  refine aw_cN C hN hM (c_X0_init (h0 := o4)) ⟨by exact va_cnB 0 hts gX2_init_X0_init_n15 rfl rfl rfl hM.1 (hts (.initialized RX0) (by decide +kernel)) (by decide +kernel) ⟨Nat.le_of_ble_eq_true rfl, Nat.le_of_ble_eq_true rfl⟩, rfl, hts (.instanceMethod yX0_init) (by decide +kernel)⟩ rfl dX2_init_28 ⟨rfl, rfl⟩ (fun u q => ?_)
  obtain ⟨r4, rfl⟩ := q
  refine aw_swap ?_
  show AW p l e _ s m args below meth c 2 G A s.heap _ _ _ [(h0, .inr (2, [.ref L, .null, .null, .null, .null, .null, .int (zI 0), .int (zI 0), .int (zI 0), .int (zI 0), .int (zI 0), .int (zI 0), .int (zI 0), .int (zI 0), .int (zI 0), .int (zI 0), .int (zI 0)])), (L, .inl (G.2 1, 5, .inr (.inr (.inr (.inr (va_up (va_up (va_up (va_up (fun _ => none) 0 (some o0)) 1 (some o1)) 2 (some o2)) 3 (some o3))))))), (o0, .inr (0, [.ref r0, .int (zI 0)])), (r0, arI G.2 6 (fun _ => 0)), (o1, .inr (0, [.ref r1, .int (zI 0)])), (r1, arI G.2 6 (fun _ => 0)), (o2, .inr (0, [.ref r2, .int (zI 0)])), (r2, arI G.2 6 (fun _ => 0)), (o3, .inr (0, [.ref r3, .int (zI 0)])), (r3, arI G.2 6 (fun _ => 0)), (o4, .inr (0, [.ref r4, .int (zI 0)])), (r4, arI G.2 6 (fun _ => 0))] _ _ _
  refine aw_astq (q0 := 1) (qk := 10) C rfl rfl (by decide) (by decide) rfl dX2_init_31 ?_
  show AW p l e _ s m args below meth c 2 G A s.heap _ _ _ [(h0, .inr (2, [.ref L, .null, .null, .null, .null, .null, .int (zI 0), .int (zI 0), .int (zI 0), .int (zI 0), .int (zI 0), .int (zI 0), .int (zI 0), .int (zI 0), .int (zI 0), .int (zI 0), .int (zI 0)])), (L, .inl (G.2 1, 5, .inr (.inr (.inr (.inr (va_up (va_up (va_up (va_up (va_up (fun _ => none) 0 (some o0)) 1 (some o1)) 2 (some o2)) 3 (some o3)) 4 (some o4))))))), (o0, .inr (0, [.ref r0, .int (zI 0)])), (r0, arI G.2 6 (fun _ => 0)), (o1, .inr (0, [.ref r1, .int (zI 0)])), (r1, arI G.2 6 (fun _ => 0)), (o2, .inr (0, [.ref r2, .int (zI 0)])), (r2, arI G.2 6 (fun _ => 0)), (o3, .inr (0, [.ref r3, .int (zI 0)])), (r3, arI G.2 6 (fun _ => 0)), (o4, .inr (0, [.ref r4, .int (zI 0)])), (r4, arI G.2 6 (fun _ => 0))] _ _ _
  refine aw_iinc C dX2_init_32 rfl rfl rfl ?_
  refine aw_goto (tgt := 14) C dX2_init_35 (by decide) ?_
  refine aw_iload_n C dX2_init_14 rfl ?_
  refine aw_iconst C dX2_init_15 ?_
  refine aw_icmp_ge (tgt := 38) C dX2_init_16 (by decide) (by decide) (by decide) (fun _ => ?_) (fun h => absurd h (by decide))
  refine aw_aload_n C dX2_init_38 rfl ?_
  refine aw_bipush C dX2_init_39 rfl ?_
  refine aw_newI (N := 99) C rfl rfl (hts (.arrayClass .int) (by decide +kernel)) dX2_init_41 rfl rfl (fun q1 => ?_)
  show AW p l e _ s m args below meth c 2 G A s.heap _ _ _ [(h0, .inr (2, [.ref L, .null, .null, .null, .null, .null, .int (zI 0), .int (zI 0), .int (zI 0), .int (zI 0), .int (zI 0), .int (zI 0), .int (zI 0), .int (zI 0), .int (zI 0), .int (zI 0), .int (zI 0)])), (L, .inl (G.2 1, 5, .inr (.inr (.inr (.inr (va_up (va_up (va_up (va_up (va_up (fun _ => none) 0 (some o0)) 1 (some o1)) 2 (some o2)) 3 (some o3)) 4 (some o4))))))), (o0, .inr (0, [.ref r0, .int (zI 0)])), (r0, arI G.2 6 (fun _ => 0)), (o1, .inr (0, [.ref r1, .int (zI 0)])), (r1, arI G.2 6 (fun _ => 0)), (o2, .inr (0, [.ref r2, .int (zI 0)])), (r2, arI G.2 6 (fun _ => 0)), (o3, .inr (0, [.ref r3, .int (zI 0)])), (r3, arI G.2 6 (fun _ => 0)), (o4, .inr (0, [.ref r4, .int (zI 0)])), (r4, arI G.2 6 (fun _ => 0)), (q1, arI G.2 99 (fun _ => 0))] _ _ _
  refine aw_putF (q0 := 0) (k := 1) C iFX2 tyX2_ok nmX2 k_16 rfl rfl rfl rfl hnm rfl rfl rfl rfl rfl dX2_init_43 ?_
  show AW p l e _ s m args below meth c 2 G A s.heap _ _ _ [(h0, .inr (2, [.ref L, .ref q1, .null, .null, .null, .null, .int (zI 0), .int (zI 0), .int (zI 0), .int (zI 0), .int (zI 0), .int (zI 0), .int (zI 0), .int (zI 0), .int (zI 0), .int (zI 0), .int (zI 0)])), (L, .inl (G.2 1, 5, .inr (.inr (.inr (.inr (va_up (va_up (va_up (va_up (va_up (fun _ => none) 0 (some o0)) 1 (some o1)) 2 (some o2)) 3 (some o3)) 4 (some o4))))))), (o0, .inr (0, [.ref r0, .int (zI 0)])), (r0, arI G.2 6 (fun _ => 0)), (o1, .inr (0, [.ref r1, .int (zI 0)])), (r1, arI G.2 6 (fun _ => 0)), (o2, .inr (0, [.ref r2, .int (zI 0)])), (r2, arI G.2 6 (fun _ => 0)), (o3, .inr (0, [.ref r3, .int (zI 0)])), (r3, arI G.2 6 (fun _ => 0)), (o4, .inr (0, [.ref r4, .int (zI 0)])), (r4, arI G.2 6 (fun _ => 0)), (q1, arI G.2 99 (fun _ => 0))] _ _ _
  refine aw_aload_n C dX2_init_46 rfl ?_
  refine aw_bipush C dX2_init_47 rfl ?_
  refine aw_newI (N := 99) C rfl rfl (hts (.arrayClass .int) (by decide +kernel)) dX2_init_49 rfl rfl (fun q2 => ?_)
  show AW p l e _ s m args below meth c 2 G A s.heap _ _ _ [(h0, .inr (2, [.ref L, .ref q1, .null, .null, .null, .null, .int (zI 0), .int (zI 0), .int (zI 0), .int (zI 0), .int (zI 0), .int (zI 0), .int (zI 0), .int (zI 0), .int (zI 0), .int (zI 0), .int (zI 0)])), (L, .inl (G.2 1, 5, .inr (.inr (.inr (.inr (va_up (va_up (va_up (va_up (va_up (fun _ => none) 0 (some o0)) 1 (some o1)) 2 (some o2)) 3 (some o3)) 4 (some o4))))))), (o0, .inr (0, [.ref r0, .int (zI 0)])), (r0, arI G.2 6 (fun _ => 0)), (o1, .inr (0, [.ref r1, .int (zI 0)])), (r1, arI G.2 6 (fun _ => 0)), (o2, .inr (0, [.ref r2, .int (zI 0)])), (r2, arI G.2 6 (fun _ => 0)), (o3, .inr (0, [.ref r3, .int (zI 0)])), (r3, arI G.2 6 (fun _ => 0)), (o4, .inr (0, [.ref r4, .int (zI 0)])), (r4, arI G.2 6 (fun _ => 0)), (q1, arI G.2 99 (fun _ => 0)), (q2, arI G.2 99 (fun _ => 0))] _ _ _
  refine aw_putF (q0 := 0) (k := 2) C iFX2 tyX2_ok nmX2 k_20 rfl rfl rfl rfl hnm rfl rfl rfl rfl rfl dX2_init_51 ?_
  show AW p l e _ s m args below meth c 2 G A s.heap _ _ _ [(h0, .inr (2, [.ref L, .ref q1, .ref q2, .null, .null, .null, .int (zI 0), .int (zI 0), .int (zI 0), .int (zI 0), .int (zI 0), .int (zI 0), .int (zI 0), .int (zI 0), .int (zI 0), .int (zI 0), .int (zI 0)])), (L, .inl (G.2 1, 5, .inr (.inr (.inr (.inr (va_up (va_up (va_up (va_up (va_up (fun _ => none) 0 (some o0)) 1 (some o1)) 2 (some o2)) 3 (some o3)) 4 (some o4))))))), (o0, .inr (0, [.ref r0, .int (zI 0)])), (r0, arI G.2 6 (fun _ => 0)), (o1, .inr (0, [.ref r1, .int (zI 0)])), (r1, arI G.2 6 (fun _ => 0)), (o2, .inr (0, [.ref r2, .int (zI 0)])), (r2, arI G.2 6 (fun _ => 0)), (o3, .inr (0, [.ref r3, .int (zI 0)])), (r3, arI G.2 6 (fun _ => 0)), (o4, .inr (0, [.ref r4, .int (zI 0)])), (r4, arI G.2 6 (fun _ => 0)), (q1, arI G.2 99 (fun _ => 0)), (q2, arI G.2 99 (fun _ => 0))] _ _ _
  refine aw_aload_n C dX2_init_54 rfl ?_
  refine aw_bipush C dX2_init_55 rfl ?_
  refine aw_newI (N := 99) C rfl rfl (hts (.arrayClass .int) (by decide +kernel)) dX2_init_57 rfl rfl (fun q3 => ?_)
  show AW p l e _ s m args below meth c 2 G A s.heap _ _ _ [(h0, .inr (2, [.ref L, .ref q1, .ref q2, .null, .null, .null, .int (zI 0), .int (zI 0), .int (zI 0), .int (zI 0), .int (zI 0), .int (zI 0), .int (zI 0), .int (zI 0), .int (zI 0), .int (zI 0), .int (zI 0)])), (L, .inl (G.2 1, 5, .inr (.inr (.inr (.inr (va_up (va_up (va_up (va_up (va_up (fun _ => none) 0 (some o0)) 1 (some o1)) 2 (some o2)) 3 (some o3)) 4 (some o4))))))), (o0, .inr (0, [.ref r0, .int (zI 0)])), (r0, arI G.2 6 (fun _ => 0)), (o1, .inr (0, [.ref r1, .int (zI 0)])), (r1, arI G.2 6 (fun _ => 0)), (o2, .inr (0, [.ref r2, .int (zI 0)])), (r2, arI G.2 6 (fun _ => 0)), (o3, .inr (0, [.ref r3, .int (zI 0)])), (r3, arI G.2 6 (fun _ => 0)), (o4, .inr (0, [.ref r4, .int (zI 0)])), (r4, arI G.2 6 (fun _ => 0)), (q1, arI G.2 99 (fun _ => 0)), (q2, arI G.2 99 (fun _ => 0)), (q3, arI G.2 99 (fun _ => 0))] _ _ _
  refine aw_putF (q0 := 0) (k := 3) C iFX2 tyX2_ok nmX2 k_23 rfl rfl rfl rfl hnm rfl rfl rfl rfl rfl dX2_init_59 ?_
  show AW p l e _ s m args below meth c 2 G A s.heap _ _ _ [(h0, .inr (2, [.ref L, .ref q1, .ref q2, .ref q3, .null, .null, .int (zI 0), .int (zI 0), .int (zI 0), .int (zI 0), .int (zI 0), .int (zI 0), .int (zI 0), .int (zI 0), .int (zI 0), .int (zI 0), .int (zI 0)])), (L, .inl (G.2 1, 5, .inr (.inr (.inr (.inr (va_up (va_up (va_up (va_up (va_up (fun _ => none) 0 (some o0)) 1 (some o1)) 2 (some o2)) 3 (some o3)) 4 (some o4))))))), (o0, .inr (0, [.ref r0, .int (zI 0)])), (r0, arI G.2 6 (fun _ => 0)), (o1, .inr (0, [.ref r1, .int (zI 0)])), (r1, arI G.2 6 (fun _ => 0)), (o2, .inr (0, [.ref r2, .int (zI 0)])), (r2, arI G.2 6 (fun _ => 0)), (o3, .inr (0, [.ref r3, .int (zI 0)])), (r3, arI G.2 6 (fun _ => 0)), (o4, .inr (0, [.ref r4, .int (zI 0)])), (r4, arI G.2 6 (fun _ => 0)), (q1, arI G.2 99 (fun _ => 0)), (q2, arI G.2 99 (fun _ => 0)), (q3, arI G.2 99 (fun _ => 0))] _ _ _
  refine aw_aload_n C dX2_init_62 rfl ?_
  refine aw_bipush C dX2_init_63 rfl ?_
  refine aw_newI (N := 99) C rfl rfl (hts (.arrayClass .int) (by decide +kernel)) dX2_init_65 rfl rfl (fun q4 => ?_)
  show AW p l e _ s m args below meth c 2 G A s.heap _ _ _ [(h0, .inr (2, [.ref L, .ref q1, .ref q2, .ref q3, .null, .null, .int (zI 0), .int (zI 0), .int (zI 0), .int (zI 0), .int (zI 0), .int (zI 0), .int (zI 0), .int (zI 0), .int (zI 0), .int (zI 0), .int (zI 0)])), (L, .inl (G.2 1, 5, .inr (.inr (.inr (.inr (va_up (va_up (va_up (va_up (va_up (fun _ => none) 0 (some o0)) 1 (some o1)) 2 (some o2)) 3 (some o3)) 4 (some o4))))))), (o0, .inr (0, [.ref r0, .int (zI 0)])), (r0, arI G.2 6 (fun _ => 0)), (o1, .inr (0, [.ref r1, .int (zI 0)])), (r1, arI G.2 6 (fun _ => 0)), (o2, .inr (0, [.ref r2, .int (zI 0)])), (r2, arI G.2 6 (fun _ => 0)), (o3, .inr (0, [.ref r3, .int (zI 0)])), (r3, arI G.2 6 (fun _ => 0)), (o4, .inr (0, [.ref r4, .int (zI 0)])), (r4, arI G.2 6 (fun _ => 0)), (q1, arI G.2 99 (fun _ => 0)), (q2, arI G.2 99 (fun _ => 0)), (q3, arI G.2 99 (fun _ => 0)), (q4, arI G.2 99 (fun _ => 0))] _ _ _
  refine aw_putF (q0 := 0) (k := 4) C iFX2 tyX2_ok nmX2 k_26 rfl rfl rfl rfl hnm rfl rfl rfl rfl rfl dX2_init_67 ?_
  show AW p l e _ s m args below meth c 2 G A s.heap _ _ _ [(h0, .inr (2, [.ref L, .ref q1, .ref q2, .ref q3, .ref q4, .null, .int (zI 0), .int (zI 0), .int (zI 0), .int (zI 0), .int (zI 0), .int (zI 0), .int (zI 0), .int (zI 0), .int (zI 0), .int (zI 0), .int (zI 0)])), (L, .inl (G.2 1, 5, .inr (.inr (.inr (.inr (va_up (va_up (va_up (va_up (va_up (fun _ => none) 0 (some o0)) 1 (some o1)) 2 (some o2)) 3 (some o3)) 4 (some o4))))))), (o0, .inr (0, [.ref r0, .int (zI 0)])), (r0, arI G.2 6 (fun _ => 0)), (o1, .inr (0, [.ref r1, .int (zI 0)])), (r1, arI G.2 6 (fun _ => 0)), (o2, .inr (0, [.ref r2, .int (zI 0)])), (r2, arI G.2 6 (fun _ => 0)), (o3, .inr (0, [.ref r3, .int (zI 0)])), (r3, arI G.2 6 (fun _ => 0)), (o4, .inr (0, [.ref r4, .int (zI 0)])), (r4, arI G.2 6 (fun _ => 0)), (q1, arI G.2 99 (fun _ => 0)), (q2, arI G.2 99 (fun _ => 0)), (q3, arI G.2 99 (fun _ => 0)), (q4, arI G.2 99 (fun _ => 0))] _ _ _
  refine aw_aload_n C dX2_init_70 rfl ?_
  refine aw_new (ci := 1) (fs := [.null, .null, .null, .null, .null, .null]) (Cn := RX1) (T := TX1) (N := 6) C (by decide +kernel) tyX1_ok (hts (.classLink RX2 29 RX1) (by decide +kernel)) (hts (.instantiable RX1 6) (by decide +kernel)) (hts (.initialized RX1) (by decide +kernel)) rfl (fun j hj => by rcases (show j = 0 ∨ j = 1 ∨ j = 2 ∨ j = 3 ∨ j = 4 ∨ j = 5 by omega) with rfl | rfl | rfl | rfl | rfl | rfl <;> rfl) dX2_init_71 rfl rfl (fun pl => ?_)
  refine aw_dup C dX2_init_74 rfl ?_
  refine aw_swap ?_
  refine aw_cN C hN hM (c_X1_init (h0 := pl)) ⟨by exact va_cnB 0 hts gX2_init_X1_init_n31 rfl rfl rfl hM.2.1 (hts (.initialized RX1) (by decide +kernel)) (by decide +kernel) ⟨Nat.le_of_ble_eq_true rfl, Nat.le_of_ble_eq_true rfl⟩, rfl, hts (.instanceMethod yX1_init) (by decide +kernel)⟩ rfl dX2_init_75 ⟨rfl, rfl⟩ (fun u q => ?_)
  obtain ⟨w, r, a1, a2, a3, a4, a5, rfl⟩ := q
  refine aw_swap ?_
  show AW p l e _ s m args below meth c 2 G A s.heap _ _ _ [(h0, .inr (2, [.ref L, .ref q1, .ref q2, .ref q3, .ref q4, .null, .int (zI 0), .int (zI 0), .int (zI 0), .int (zI 0), .int (zI 0), .int (zI 0), .int (zI 0), .int (zI 0), .int (zI 0), .int (zI 0), .int (zI 0)])), (L, .inl (G.2 1, 5, .inr (.inr (.inr (.inr (va_up (va_up (va_up (va_up (va_up (fun _ => none) 0 (some o0)) 1 (some o1)) 2 (some o2)) 3 (some o3)) 4 (some o4))))))), (o0, .inr (0, [.ref r0, .int (zI 0)])), (r0, arI G.2 6 (fun _ => 0)), (o1, .inr (0, [.ref r1, .int (zI 0)])), (r1, arI G.2 6 (fun _ => 0)), (o2, .inr (0, [.ref r2, .int (zI 0)])), (r2, arI G.2 6 (fun _ => 0)), (o3, .inr (0, [.ref r3, .int (zI 0)])), (r3, arI G.2 6 (fun _ => 0)), (o4, .inr (0, [.ref r4, .int (zI 0)])), (r4, arI G.2 6 (fun _ => 0)), (q1, arI G.2 99 (fun _ => 0)), (q2, arI G.2 99 (fun _ => 0)), (q3, arI G.2 99 (fun _ => 0)), (q4, arI G.2 99 (fun _ => 0)), (pl, .inr (1, [.ref w, .ref a1, .ref a2, .ref a3, .ref a4, .ref a5])), (w, .inl (G.2 2, 5, .inr (.inr (.inr (.inr (fun i => if i < 5 then some (r i) else none)))))), (r 0, arI G.2 6 (fun _ => 0)), (r 1, arI G.2 6 (fun _ => 0)), (r 2, arI G.2 6 (fun _ => 0)), (r 3, arI G.2 6 (fun _ => 0)), (r 4, arI G.2 6 (fun _ => 0)), (a1, arI G.2 5 (fun _ => 0)), (a2, arI G.2 5 (fun _ => 0)), (a3, arI G.2 5 (fun _ => 0)), (a4, arI G.2 432 (fun _ => 0)), (a5, arI G.2 432 (fun _ => 0))] _ _ _
  refine aw_putF (q0 := 0) (k := 5) C iFX2 tyX2_ok nmX2 k_32 rfl rfl rfl rfl hnm rfl rfl rfl rfl rfl dX2_init_78 ?_
  show AW p l e _ s m args below meth c 2 G A s.heap _ _ _ [(h0, .inr (2, [.ref L, .ref q1, .ref q2, .ref q3, .ref q4, .ref pl, .int (zI 0), .int (zI 0), .int (zI 0), .int (zI 0), .int (zI 0), .int (zI 0), .int (zI 0), .int (zI 0), .int (zI 0), .int (zI 0), .int (zI 0)])), (L, .inl (G.2 1, 5, .inr (.inr (.inr (.inr (va_up (va_up (va_up (va_up (va_up (fun _ => none) 0 (some o0)) 1 (some o1)) 2 (some o2)) 3 (some o3)) 4 (some o4))))))), (o0, .inr (0, [.ref r0, .int (zI 0)])), (r0, arI G.2 6 (fun _ => 0)), (o1, .inr (0, [.ref r1, .int (zI 0)])), (r1, arI G.2 6 (fun _ => 0)), (o2, .inr (0, [.ref r2, .int (zI 0)])), (r2, arI G.2 6 (fun _ => 0)), (o3, .inr (0, [.ref r3, .int (zI 0)])), (r3, arI G.2 6 (fun _ => 0)), (o4, .inr (0, [.ref r4, .int (zI 0)])), (r4, arI G.2 6 (fun _ => 0)), (q1, arI G.2 99 (fun _ => 0)), (q2, arI G.2 99 (fun _ => 0)), (q3, arI G.2 99 (fun _ => 0)), (q4, arI G.2 99 (fun _ => 0)), (pl, .inr (1, [.ref w, .ref a1, .ref a2, .ref a3, .ref a4, .ref a5])), (w, .inl (G.2 2, 5, .inr (.inr (.inr (.inr (fun i => if i < 5 then some (r i) else none)))))), (r 0, arI G.2 6 (fun _ => 0)), (r 1, arI G.2 6 (fun _ => 0)), (r 2, arI G.2 6 (fun _ => 0)), (r 3, arI G.2 6 (fun _ => 0)), (r 4, arI G.2 6 (fun _ => 0)), (a1, arI G.2 5 (fun _ => 0)), (a2, arI G.2 5 (fun _ => 0)), (a3, arI G.2 5 (fun _ => 0)), (a4, arI G.2 432 (fun _ => 0)), (a5, arI G.2 432 (fun _ => 0))] _ _ _
  refine aw_aload_n C dX2_init_81 rfl ?_
  refine aw_iconst C dX2_init_82 ?_
  refine aw_put (q0 := 0) (k := 6) C iFX2 tyX2_ok nmX2 k_36 rfl rfl rfl rfl rfl rfl rfl dX2_init_83 ?_
  show AW p l e _ s m args below meth c 2 G A s.heap _ _ _ [(h0, .inr (2, [.ref L, .ref q1, .ref q2, .ref q3, .ref q4, .ref pl, .int (zI 3), .int (zI 0), .int (zI 0), .int (zI 0), .int (zI 0), .int (zI 0), .int (zI 0), .int (zI 0), .int (zI 0), .int (zI 0), .int (zI 0)])), (L, .inl (G.2 1, 5, .inr (.inr (.inr (.inr (va_up (va_up (va_up (va_up (va_up (fun _ => none) 0 (some o0)) 1 (some o1)) 2 (some o2)) 3 (some o3)) 4 (some o4))))))), (o0, .inr (0, [.ref r0, .int (zI 0)])), (r0, arI G.2 6 (fun _ => 0)), (o1, .inr (0, [.ref r1, .int (zI 0)])), (r1, arI G.2 6 (fun _ => 0)), (o2, .inr (0, [.ref r2, .int (zI 0)])), (r2, arI G.2 6 (fun _ => 0)), (o3, .inr (0, [.ref r3, .int (zI 0)])), (r3, arI G.2 6 (fun _ => 0)), (o4, .inr (0, [.ref r4, .int (zI 0)])), (r4, arI G.2 6 (fun _ => 0)), (q1, arI G.2 99 (fun _ => 0)), (q2, arI G.2 99 (fun _ => 0)), (q3, arI G.2 99 (fun _ => 0)), (q4, arI G.2 99 (fun _ => 0)), (pl, .inr (1, [.ref w, .ref a1, .ref a2, .ref a3, .ref a4, .ref a5])), (w, .inl (G.2 2, 5, .inr (.inr (.inr (.inr (fun i => if i < 5 then some (r i) else none)))))), (r 0, arI G.2 6 (fun _ => 0)), (r 1, arI G.2 6 (fun _ => 0)), (r 2, arI G.2 6 (fun _ => 0)), (r 3, arI G.2 6 (fun _ => 0)), (r 4, arI G.2 6 (fun _ => 0)), (a1, arI G.2 5 (fun _ => 0)), (a2, arI G.2 5 (fun _ => 0)), (a3, arI G.2 5 (fun _ => 0)), (a4, arI G.2 432 (fun _ => 0)), (a5, arI G.2 432 (fun _ => 0))] _ _ _
  refine aw_aload_n C dX2_init_86 rfl ?_
  refine aw_iconst C dX2_init_87 ?_
  refine aw_put (q0 := 0) (k := 7) C iFX2 tyX2_ok nmX2 k_40 rfl rfl rfl rfl rfl rfl rfl dX2_init_88 ?_
  show AW p l e _ s m args below meth c 2 G A s.heap _ _ _ [(h0, .inr (2, [.ref L, .ref q1, .ref q2, .ref q3, .ref q4, .ref pl, .int (zI 3), .int (zI 4), .int (zI 0), .int (zI 0), .int (zI 0), .int (zI 0), .int (zI 0), .int (zI 0), .int (zI 0), .int (zI 0), .int (zI 0)])), (L, .inl (G.2 1, 5, .inr (.inr (.inr (.inr (va_up (va_up (va_up (va_up (va_up (fun _ => none) 0 (some o0)) 1 (some o1)) 2 (some o2)) 3 (some o3)) 4 (some o4))))))), (o0, .inr (0, [.ref r0, .int (zI 0)])), (r0, arI G.2 6 (fun _ => 0)), (o1, .inr (0, [.ref r1, .int (zI 0)])), (r1, arI G.2 6 (fun _ => 0)), (o2, .inr (0, [.ref r2, .int (zI 0)])), (r2, arI G.2 6 (fun _ => 0)), (o3, .inr (0, [.ref r3, .int (zI 0)])), (r3, arI G.2 6 (fun _ => 0)), (o4, .inr (0, [.ref r4, .int (zI 0)])), (r4, arI G.2 6 (fun _ => 0)), (q1, arI G.2 99 (fun _ => 0)), (q2, arI G.2 99 (fun _ => 0)), (q3, arI G.2 99 (fun _ => 0)), (q4, arI G.2 99 (fun _ => 0)), (pl, .inr (1, [.ref w, .ref a1, .ref a2, .ref a3, .ref a4, .ref a5])), (w, .inl (G.2 2, 5, .inr (.inr (.inr (.inr (fun i => if i < 5 then some (r i) else none)))))), (r 0, arI G.2 6 (fun _ => 0)), (r 1, arI G.2 6 (fun _ => 0)), (r 2, arI G.2 6 (fun _ => 0)), (r 3, arI G.2 6 (fun _ => 0)), (r 4, arI G.2 6 (fun _ => 0)), (a1, arI G.2 5 (fun _ => 0)), (a2, arI G.2 5 (fun _ => 0)), (a3, arI G.2 5 (fun _ => 0)), (a4, arI G.2 432 (fun _ => 0)), (a5, arI G.2 432 (fun _ => 0))] _ _ _
  refine aw_aload_n C dX2_init_91 rfl ?_
  refine aw_iconst C dX2_init_92 ?_
  refine aw_put (q0 := 0) (k := 8) C iFX2 tyX2_ok nmX2 k_43 rfl rfl rfl rfl rfl rfl rfl dX2_init_93 ?_
  show AW p l e _ s m args below meth c 2 G A s.heap _ _ _ [(h0, .inr (2, [.ref L, .ref q1, .ref q2, .ref q3, .ref q4, .ref pl, .int (zI 3), .int (zI 4), .int (zI 3), .int (zI 0), .int (zI 0), .int (zI 0), .int (zI 0), .int (zI 0), .int (zI 0), .int (zI 0), .int (zI 0)])), (L, .inl (G.2 1, 5, .inr (.inr (.inr (.inr (va_up (va_up (va_up (va_up (va_up (fun _ => none) 0 (some o0)) 1 (some o1)) 2 (some o2)) 3 (some o3)) 4 (some o4))))))), (o0, .inr (0, [.ref r0, .int (zI 0)])), (r0, arI G.2 6 (fun _ => 0)), (o1, .inr (0, [.ref r1, .int (zI 0)])), (r1, arI G.2 6 (fun _ => 0)), (o2, .inr (0, [.ref r2, .int (zI 0)])), (r2, arI G.2 6 (fun _ => 0)), (o3, .inr (0, [.ref r3, .int (zI 0)])), (r3, arI G.2 6 (fun _ => 0)), (o4, .inr (0, [.ref r4, .int (zI 0)])), (r4, arI G.2 6 (fun _ => 0)), (q1, arI G.2 99 (fun _ => 0)), (q2, arI G.2 99 (fun _ => 0)), (q3, arI G.2 99 (fun _ => 0)), (q4, arI G.2 99 (fun _ => 0)), (pl, .inr (1, [.ref w, .ref a1, .ref a2, .ref a3, .ref a4, .ref a5])), (w, .inl (G.2 2, 5, .inr (.inr (.inr (.inr (fun i => if i < 5 then some (r i) else none)))))), (r 0, arI G.2 6 (fun _ => 0)), (r 1, arI G.2 6 (fun _ => 0)), (r 2, arI G.2 6 (fun _ => 0)), (r 3, arI G.2 6 (fun _ => 0)), (r 4, arI G.2 6 (fun _ => 0)), (a1, arI G.2 5 (fun _ => 0)), (a2, arI G.2 5 (fun _ => 0)), (a3, arI G.2 5 (fun _ => 0)), (a4, arI G.2 432 (fun _ => 0)), (a5, arI G.2 432 (fun _ => 0))] _ _ _
  refine aw_aload_n C dX2_init_96 rfl ?_
  refine aw_iconst C dX2_init_97 ?_
  refine aw_put (q0 := 0) (k := 14) C iFX2 tyX2_ok nmX2 k_46 rfl rfl rfl rfl rfl rfl rfl dX2_init_98 ?_
  show AW p l e _ s m args below meth c 2 G A s.heap _ _ _ [(h0, .inr (2, [.ref L, .ref q1, .ref q2, .ref q3, .ref q4, .ref pl, .int (zI 3), .int (zI 4), .int (zI 3), .int (zI 0), .int (zI 0), .int (zI 0), .int (zI 0), .int (zI 0), .int (zI (-1)), .int (zI 0), .int (zI 0)])), (L, .inl (G.2 1, 5, .inr (.inr (.inr (.inr (va_up (va_up (va_up (va_up (va_up (fun _ => none) 0 (some o0)) 1 (some o1)) 2 (some o2)) 3 (some o3)) 4 (some o4))))))), (o0, .inr (0, [.ref r0, .int (zI 0)])), (r0, arI G.2 6 (fun _ => 0)), (o1, .inr (0, [.ref r1, .int (zI 0)])), (r1, arI G.2 6 (fun _ => 0)), (o2, .inr (0, [.ref r2, .int (zI 0)])), (r2, arI G.2 6 (fun _ => 0)), (o3, .inr (0, [.ref r3, .int (zI 0)])), (r3, arI G.2 6 (fun _ => 0)), (o4, .inr (0, [.ref r4, .int (zI 0)])), (r4, arI G.2 6 (fun _ => 0)), (q1, arI G.2 99 (fun _ => 0)), (q2, arI G.2 99 (fun _ => 0)), (q3, arI G.2 99 (fun _ => 0)), (q4, arI G.2 99 (fun _ => 0)), (pl, .inr (1, [.ref w, .ref a1, .ref a2, .ref a3, .ref a4, .ref a5])), (w, .inl (G.2 2, 5, .inr (.inr (.inr (.inr (fun i => if i < 5 then some (r i) else none)))))), (r 0, arI G.2 6 (fun _ => 0)), (r 1, arI G.2 6 (fun _ => 0)), (r 2, arI G.2 6 (fun _ => 0)), (r 3, arI G.2 6 (fun _ => 0)), (r 4, arI G.2 6 (fun _ => 0)), (a1, arI G.2 5 (fun _ => 0)), (a2, arI G.2 5 (fun _ => 0)), (a3, arI G.2 5 (fun _ => 0)), (a4, arI G.2 432 (fun _ => 0)), (a5, arI G.2 432 (fun _ => 0))] _ _ _
  refine aw_row5 (q0 := 1) (g := fun j => some (adL [h0, L, o0, o1, o2, o3, o4, r0, r1, r2, r3, r4, q1, q2, q3, q4, pl, w, r 0, r 1, r 2, r 3, r 4, a1, a2, a3, a4, a5] (2 + j))) rfl (fun j hj => by rcases (show j = 0 ∨ j = 1 ∨ j = 2 ∨ j = 3 ∨ j = 4 by omega) with rfl | rfl | rfl | rfl | rfl <;> rfl) rfl ?_
  refine aw_row5 (q0 := 17) (g := fun j => some (adL [h0, L, o0, o1, o2, o3, o4, r0, r1, r2, r3, r4, q1, q2, q3, q4, pl, w, r 0, r 1, r 2, r 3, r 4, a1, a2, a3, a4, a5] (18 + j))) rfl (fun j hj => by rcases (show j = 0 ∨ j = 1 ∨ j = 2 ∨ j = 3 ∨ j = 4 by omega) with rfl | rfl | rfl | rfl | rfl <;> rfl) rfl ?_
  refine aw_perm [0, 1, 2, 4, 6, 8, 10, 3, 5, 7, 9, 11, 12, 13, 14, 15, 16, 17, 18, 19, 20, 21, 22, 23, 24, 25, 26, 27] (ws' := WX G.2 (adL [h0, L, o0, o1, o2, o3, o4, r0, r1, r2, r3, r4, q1, q2, q3, q4, pl, w, r 0, r 1, r 2, r 3, r 4, a1, a2, a3, a4, a5]) S00 P00) (by decide) rfl ?_
  exact aw_vretC C dX2_init_101 ⟨_, rfl, rfl⟩
end
