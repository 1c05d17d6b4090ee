section AWMM
variable {p : Program} {l : Launch} {e : Env} {R : Room} {s : State} {m : MethodId} {args : Array Value} {below : List Frame} {meth : Method} {c : Code} {nL : Nat} {G : va_G × (Nat → ClassId)} {A : Nat → Prop} {cells slots : Nat} {Q : State → Prop} {H0 : Heap}
variable {cc : ByteArray} {ret : Option FieldType} {Ts : List Cond} {own : String} {ws : va_W} {lv : List (Nat × Value)} {pc : Nat} {st : List Value}
theorem aw_mna (C : cx p l s m args meth c cc nL ret Ts own G A H0) {index : Nat} (hcl : (Cond.classLink own index "[[I").before args s = true) (hM : NK s) (harr : (Cond.arrayClass .int).before args s = true) (hd : decode cc pc = .ok (.multianewarray index 2, 4)) (hc : Nat.ble (cells + 6) R.cells = true) (hs : Nat.ble (slots + 35) R.slots = true) (kk : ∀ (q : Nat) (r : Nat → Nat), AW p l e R s m args below meth c nL G A H0 (cells + 6) (slots + 35) Q (ws ++ [(q, .inl (G.2 2, 5, .inr (.inr (.inr (.inr (fun i => if i < 5 then some (r i) else none)))))), (r 0, arI G.2 6 (fun _ => 0)), (r 1, arI G.2 6 (fun _ => 0)), (r 2, arI G.2 6 (fun _ => 0)), (r 3, arI G.2 6 (fun _ => 0)), (r 4, arI G.2 6 (fun _ => 0))]) lv (pc + 4) (.ref q :: st)) : AW p l e R s m args below meth c nL G A H0 cells slots Q ws lv pc (.int (zI 6) :: .int (zI 5) :: st) :=
  fun H locs ls hP hD hS hl => by
    have hcy : s.vm.findClass (FieldType.array .int).toString = some (G.2 0) := (C.2.2.2.2.2.1.2 0 _ rfl).2
    refine va_mna (X := ws) (L := []) (f := fun _ => arI G.2 6 (fun _ => 0)) (ty := .int) (cy := G.2 0) (N' := 5) (K' := 6) (z := (6, .inl (fun _ => zI 0))) C.1 C.2.1 C.2.2.2.1 hcl hM.2.2.2 harr hcy C.2.2.2.2.2.1 (by rw [show va_pl [] (fun _ => arI G.2 6 (fun _ => 0)) = [] from rfl, List.append_nil]; exact hP) (by rw [show va_pl [] (fun _ => arI G.2 6 (fun _ => 0)) = [] from rfl, List.append_nil]; exact hD) hS C.2.2.2.2.2.2.1 (by decide) (by decide) (by decide) (by decide) (by decide) (by decide) (by decide) rfl rfl (Nat.le_of_ble_eq_true hc) (Nat.le_of_ble_eq_true hs) (fun c9 => ?_) hd (fun q r cA H1 hr1 hr2 hK1 hP1 hD1 hS1 => ?_)
    · show ({ cls := c9, slots := Array.replicate 6 (.int 0), vm := .none } : Cell) = _
      rw [arrV_new]
      rfl
    · obtain rfl := cls_int (i := 2) C hK1 rfl (fun _ h => by cases h)
      have e1 : va_pl ([] ++ (List.range 5).map r) (vr_up (fun _ => arI G.2 6 (fun _ => 0)) ((List.range 5).map r) (.inl (G.2 0, 6, .inl (fun _ => zI 0)))) = [(r 0, arI G.2 6 (fun _ => 0)), (r 1, arI G.2 6 (fun _ => 0)), (r 2, arI G.2 6 (fun _ => 0)), (r 3, arI G.2 6 (fun _ => 0)), (r 4, arI G.2 6 (fun _ => 0))] := by
        rw [← vr_rows (L := []) (fun a _ h => absurd h List.not_mem_nil)]
        rfl
      rw [e1, List.append_assoc] at hP1 hD1
      exact kk q r H1 locs ls hP1 hD1 hS1 hl
theorem cell_q5 {cA : ClassId} {f g : Nat → Option Nat} (h : ∀ j : Nat, j < 5 → f j = g j) : vp_cell cA (5, .inr (.inr (.inr (.inr f)))) = vp_cell cA (5, .inr (.inr (.inr (.inr g)))) := by
  show arrV cA 5 (fun j => va_rf (f j)) = arrV cA 5 (fun j => va_rf (g j))
  unfold arrV
  have e : (Array.ofFn (n := 5) fun j => va_rf (f j.val)) = Array.ofFn (n := 5) fun j => va_rf (g j.val) := congrArg _ (funext fun j => by rw [h j.val j.isLt])
  rw [e]
/-- the array's cell at the place q0 told by another list of references -/
theorem aw_row5 {q0 a : Nat} {cA : ClassId} {f g : Nat → Option Nat} {ws' : va_W} (he : ws[q0]? = some (a, .inl (cA, 5, .inr (.inr (.inr (.inr f)))))) (h : ∀ j : Nat, j < 5 → f j = g j) (hw : ws.set q0 (a, .inl (cA, 5, .inr (.inr (.inr (.inr g))))) = ws') (kk : AW p l e R s m args below meth c nL G A H0 cells slots Q ws' lv pc st) : AW p l e R s m args below meth c nL G A H0 cells slots Q ws lv pc st := by
  subst hw
  refine aw_cells (List.length_set ..).symm (fun k q hk => ?_) kk
  by_cases e : q0 = k
  · subst e
    rw [List.getElem?_set_self (List.getElem?_eq_some_iff.mp he).1] at hk
    cases hk
    exact ⟨_, he, rfl, Or.inr ⟨cA, _, _, rfl, rfl, cell_q5 h⟩⟩
  · rw [List.getElem?_set_ne e] at hk
    exact ⟨q, hk, rfl, Or.inl rfl⟩
end AWMM
set_option maxHeartbeats 4000000 in
set_option maxRecDepth 100000 in
theorem c_X0_init {l : Launch} {G : va_G × (Nat → ClassId)} {h0 : Nat} : Mc l G yX0_init wsX0_init ({ frames := 1, cells := 1, slots := 6, locals := 12 } : Room) [.ref h0] [(h0, .inr (0, [.null, .int (zI 0)]))] (fun u => ∃ q : Nat, u = [(h0, .inr (0, [.ref q, .int (zI 0)])), (q, arI G.2 6 (fun _ => 0))]) 1 6 := by
  refine Mc.of (own := RX0) (cc := cX0_init) (maxL := 1) (ret := none) (by decide) rfl rfl rfl ?_
  intro p e s m args below meth c A C hN hM hnm
  have hts := C.2.2.2.2.1
  have iFX0 : ∀ w ∈ u_ws RX0 TX0 2, w ∈ wsX0_init := by decide +kernel
  have k_9 := hts (.fieldLink RX0 9 "PaintSequencer$Lane" "row" "[I") (by decide +kernel)
  refine aw_aload_n C dX0_init_0 rfl ?_
  refine aw_objinit C (hts (.methodLink RX0 3 objectInit) (by decide +kernel)) (hts (.instanceMethod objectInit) (by decide +kernel)) (hts _ (List.mem_cons_of_mem _ (List.mem_append_left _ (List.mem_of_getElem? (i := 2) rfl)))) dX0_init_1 rfl rfl ?_
  refine aw_aload_n C dX0_init_4 rfl ?_
  refine aw_bipush C dX0_init_5 rfl ?_
  refine aw_newI (N := 6) C rfl rfl (hts (.arrayClass .int) (by decide +kernel)) dX0_init_7 rfl rfl (fun q1 => ?_)
  refine aw_putF (q0 := 0) (k := 0) C iFX0 tyX0_ok nmX0 k_9 rfl rfl rfl rfl hnm rfl rfl rfl rfl rfl dX0_init_9 ?_
  exact aw_vretC C dX0_init_12 ⟨q1, rfl⟩
set_option maxHeartbeats 4000000 in
set_option maxRecDepth 100000 in
theorem c_X1_init {l : Launch} {G : va_G × (Nat → ClassId)} {h0 : Nat} : Mc l G yX1_init wsX1_init ({ frames := 1, cells := 11, slots := 914, locals := 12 } : Room) [.ref h0] [(h0, .inr (1, [.null, .null, .null, .null, .null, .null]))] (fun u => ∃ (w : Nat) (r : Nat → Nat) (a1 a2 a3 a4 a5 : Nat), u = [(h0, .inr (1, [.ref w, .ref a1, .ref a2, .ref a3, .ref a4, .ref a5])), (w, .inl (G.2 2, 5, .inr (.inr (.inr (.inr (fun i => if i < 5 then some (r i) else none)))))), (r 0, arI G.2 6 (fun _ => 0)), (r 1, arI G.2 6 (fun _ => 0)), (r 2, arI G.2 6 (fun _ => 0)), (r 3, arI G.2 6 (fun _ => 0)), (r 4, arI G.2 6 (fun _ => 0)), (a1, arI G.2 5 (fun _ => 0)), (a2, arI G.2 5 (fun _ => 0)), (a3, arI G.2 5 (fun _ => 0)), (a4, arI G.2 432 (fun _ => 0)), (a5, arI G.2 432 (fun _ => 0))]) 11 914 := by
  refine Mc.of (own := RX1) (cc := cX1_init) (maxL := 1) (ret := none) (by decide) rfl rfl rfl ?_
  intro p e s m args below meth c A C hN hM hnm
  have hts := C.2.2.2.2.1
  have iFX1 : ∀ w ∈ u_ws RX1 TX1 6, w ∈ wsX1_init := by decide +kernel
  have k_11 := hts (.fieldLink RX1 11 "PaintSequencer$Plan" "waiting" "[[I") (by decide +kernel)
  have k_16 := hts (.fieldLink RX1 16 "PaintSequencer$Plan" "sizes" "[I") (by decide +kernel)
  have k_20 := hts (.fieldLink RX1 20 "PaintSequencer$Plan" "taken" "[I") (by decide +kernel)
  have k_23 := hts (.fieldLink RX1 23 "PaintSequencer$Plan" "strides" "[I") (by decide +kernel)
  have k_26 := hts (.fieldLink RX1 26 "PaintSequencer$Plan" "leasts" "[I") (by decide +kernel)
  have k_29 := hts (.fieldLink RX1 29 "PaintSequencer$Plan" "starts" "[I") (by decide +kernel)
  refine aw_aload_n C dX1_init_0 rfl ?_
  refine aw_objinit C (hts (.methodLink RX1 3 objectInit) (by decide +kernel)) (hts (.instanceMethod objectInit) (by decide +kernel)) (hts _ (List.mem_cons_of_mem _ (List.mem_append_left _ (List.mem_of_getElem? (i := 2) rfl)))) dX1_init_1 rfl rfl ?_
  refine aw_aload_n C dX1_init_4 rfl ?_
  refine aw_iconst C dX1_init_5 ?_
  refine aw_bipush C dX1_init_6 rfl ?_
  refine aw_mna C (hts (.classLink RX1 9 "[[I") (by decide +kernel)) hM (hts (.arrayClass .int) (by decide +kernel)) dX1_init_8 rfl rfl (fun w r => ?_)
  refine aw_putF (q0 := 0) (k := 0) C iFX1 tyX1_ok nmX1 k_11 rfl rfl rfl rfl hnm rfl rfl rfl rfl rfl dX1_init_12 ?_
  refine aw_aload_n C dX1_init_15 rfl ?_
  refine aw_iconst C dX1_init_16 ?_
  refine aw_newI (N := 5) C rfl rfl (hts (.arrayClass .int) (by decide +kernel)) dX1_init_17 rfl rfl (fun q1 => ?_)
  refine aw_putF (q0 := 0) (k := 1) C iFX1 tyX1_ok nmX1 k_16 rfl rfl rfl rfl hnm rfl rfl rfl rfl rfl dX1_init_19 ?_
  refine aw_aload_n C dX1_init_22 rfl ?_
  refine aw_iconst C dX1_init_23 ?_
  refine aw_newI (N := 5) C rfl rfl (hts (.arrayClass .int) (by decide +kernel)) dX1_init_24 rfl rfl (fun q2 => ?_)
  refine aw_putF (q0 := 0) (k := 2) C iFX1 tyX1_ok nmX1 k_20 rfl rfl rfl rfl hnm rfl rfl rfl rfl rfl dX1_init_26 ?_
  refine aw_aload_n C dX1_init_29 rfl ?_
  refine aw_iconst C dX1_init_30 ?_
  refine aw_newI (N := 5) C rfl rfl (hts (.arrayClass .int) (by decide +kernel)) dX1_init_31 rfl rfl (fun q3 => ?_)
  refine aw_putF (q0 := 0) (k := 3) C iFX1 tyX1_ok nmX1 k_23 rfl rfl rfl rfl hnm rfl rfl rfl rfl rfl dX1_init_33 ?_
  refine aw_aload_n C dX1_init_36 rfl ?_
  refine aw_sipush C dX1_init_37 rfl ?_
  refine aw_newI (N := 432) C rfl rfl (hts (.arrayClass .int) (by decide +kernel)) dX1_init_40 rfl rfl (fun q4 => ?_)
  refine aw_putF (q0 := 0) (k := 4) C iFX1 tyX1_ok nmX1 k_26 rfl rfl rfl rfl hnm rfl rfl rfl rfl rfl dX1_init_42 ?_
  refine aw_aload_n C dX1_init_45 rfl ?_
  refine aw_sipush C dX1_init_46 rfl ?_
  refine aw_newI (N := 432) C rfl rfl (hts (.arrayClass .int) (by decide +kernel)) dX1_init_49 rfl rfl (fun q5 => ?_)
  refine aw_putF (q0 := 0) (k := 5) C iFX1 tyX1_ok nmX1 k_29 rfl rfl rfl rfl hnm rfl rfl rfl rfl rfl dX1_init_51 ?_
  exact aw_vretC C dX1_init_54 ⟨w, r, q1, q2, q3, q4, q5, rfl⟩
/-- the first state of all -/
def S00 : St := (fun k => match k with
  | 0 => 3
  | 1 => 4
  | 2 => 3
  | 8 => -1
  | 11 => -1
  | _ => 0, fun _ _ => 0)
def P00 : St := (fun _ => 0, fun _ _ => 0)
def adL (L : List Nat) : Nat → Nat := fun n => L.getD n 0
theorem inv_00 : Inv2 S00 := inv_nil (by decide) (by decide) (by decide) (by decide) (by decide) rfl rfl rfl rfl rfl (fun _ _ _ => rfl)
set_option maxHeartbeats 4000000 in
set_option maxRecDepth 100000 in
theorem c_X2_init {l : Launch} {G : va_G × (Nat → ClassId)} {h0 : Nat} : Mc l G yX2_init wsX2_init ({ frames := 2, cells := 27, slots := 1361, locals := 32 } : Room) [.ref h0] [(h0, .inr (2, [.null, .null, .null, .null, .null, .null, .int (zI 0), .int (zI 0), .int (zI 0), .int (zI 0), .int (zI 0), .int (zI 0), .int (zI 0), .int (zI 0), .int (zI 0), .int (zI 0), .int (zI 0)]))] (fun u => ∃ ad : Nat → Nat, ad 0 = h0 ∧ u = WX G.2 ad S00 P00) 27 1361 := by
  refine Mc.of (own := RX2) (cc := cX2_init) (maxL := 2) (ret := none) (by decide) rfl rfl rfl ?_
  intro p e s m args below meth c A C hN hM hnm
  have hts := C.2.2.2.2.1
  have iFX2 : ∀ w ∈ u_ws RX2 TX2 17, w ∈ wsX2_init := by decide +kernel
  have k_11 := hts (.fieldLink RX2 11 "PaintSequencer" "lanes" "[LPaintSequencer$Lane;") (by decide +kernel)
  have k_16 := hts (.fieldLink RX2 16 "PaintSequencer" "colours" "[I") (by decide +kernel)
  have k_20 := hts (.fieldLink RX2 20 "PaintSequencer" "places" "[I") (by decide +kernel)
  have k_23 := hts (.fieldLink RX2 23 "PaintSequencer" "positions" "[I") (by decide +kernel)
  have k_26 := hts (.fieldLink RX2 26 "PaintSequencer" "order" "[I") (by decide +kernel)
  have k_32 := hts (.fieldLink RX2 32 "PaintSequencer" "plan" "LPaintSequencer$Plan;") (by decide +kernel)
  have k_36 := hts (.fieldLink RX2 36 "PaintSequencer" "laneCount" "I") (by decide +kernel)
  have k_40 := hts (.fieldLink RX2 40 "PaintSequencer" "depth" "I") (by decide +kernel)
  have k_43 := hts (.fieldLink RX2 43 "PaintSequencer" "storeRoom" "I") (by decide +kernel)
  have k_46 := hts (.fieldLink RX2 46 "PaintSequencer" "latestColour" "I") (by decide +kernel)
  refine aw_aload_n C dX2_init_0 rfl ?_
  refine aw_objinit C (hts (.methodLink RX2 1 objectInit) (by decide +kernel)) (hts (.instanceMethod objectInit) (by decide +kernel)) (hts _ (List.mem_cons_of_mem _ (List.mem_append_left _ (List.mem_append_left _ (List.mem_append_left _ (List.mem_append_left _ (List.mem_of_getElem? (i := 2) rfl))))))) dX2_init_1 rfl rfl ?_
  refine aw_aload_n C dX2_init_4 rfl ?_
  refine aw_iconst C dX2_init_5 ?_
  refine aw_newq C (hts (.classLink RX2 9 RX0) (by decide +kernel)) hM dX2_init_6 rfl rfl (fun L => ?_)
  show AW p l e _ s m args below meth c 2 G A s.heap _ _ _ [(h0, .inr (2, [.null, .null, .null, .null, .null, .null, .int (zI 0), .int (zI 0), .int (zI 0), .int (zI 0), .int (zI 0), .int (zI 0), .int (zI 0), .int (zI 0), .int (zI 0), .int (zI 0), .int (zI 0)])), (L, .inl (G.2 1, 5, .inr (.inr (.inr (.inr (fun _ => none))))))] _ _ _
  refine aw_putF (q0 := 0) (k := 0) C iFX2 tyX2_ok nmX2 k_11 rfl rfl rfl rfl hnm rfl rfl rfl rfl rfl dX2_init_9 ?_
  show AW p l e _ s m args below meth c 2 G A s.heap _ _ _ [(h0, .inr (2, [.ref L, .null, .null, .null, .null, .null, .int (zI 0), .int (zI 0), .int (zI 0), .int (zI 0), .int (zI 0), .int (zI 0), .int (zI 0), .int (zI 0), .int (zI 0), .int (zI 0), .int (zI 0)])), (L, .inl (G.2 1, 5, .inr (.inr (.inr (.inr (fun _ => none))))))] _ _ _
  refine aw_iconst C dX2_init_12 ?_
  refine aw_istore_n C dX2_init_13 rfl rfl ?_
  refine aw_iload_n C dX2_init_14 rfl ?_
  refine aw_iconst C dX2_init_15 ?_
  refine aw_icmp_ge (tgt := 38) C dX2_init_16 (by decide) (by decide) (by decide) (fun h => absurd h (by decide)) (fun _ => ?_)
  refine aw_aload_n C dX2_init_19 rfl ?_
  refine aw_get (q0 := 0) (k := 0) C iFX2 k_11 rfl rfl rfl rfl dX2_init_20 ?_
  refine aw_iload_n C dX2_init_23 rfl ?_
  refine aw_new (ci := 0) (fs := [.null, .int (zI 0)]) (Cn := RX0) (T := TX0) (N := 2) C (by decide +kernel) tyX0_ok (hts (.classLink RX2 9 RX0) (by decide +kernel)) (hts (.instantiable RX0 2) (by decide +kernel)) (hts (.initialized RX0) (by decide +kernel)) rfl (fun j hj => by rcases (show j = 0 ∨ j = 1 by omega) with rfl | rfl <;> rfl) dX2_init_24 rfl rfl (fun o0 => ?_)
  refine aw_dup C dX2_init_27 rfl ?_
  refine aw_swap ?_
  refine aw_cN C hN hM (c_X0_init (h0 := o0)) ⟨by exact va_cnB 0 hts gX2_init_X0_init_n15 rfl rfl rfl hM.1 (hts (.initialized RX0) (by decide +kernel)) (by decide +kernel) ⟨Nat.le_of_ble_eq_true rfl, Nat.le_of_ble_eq_true rfl⟩, rfl, hts (.instanceMethod yX0_init) (by decide +kernel)⟩ rfl dX2_init_28 ⟨rfl, rfl⟩ (fun u q => ?_)
  obtain ⟨r0, rfl⟩ := q
  refine aw_swap ?_
  show AW p l e _ s m args below meth c 2 G A s.heap _ _ _ [(h0, .inr (2, [.ref L, .null, .null, .null, .null, .null, .int (zI 0), .int (zI 0), .int (zI 0), .int (zI 0), .int (zI 0), .int (zI 0), .int (zI 0), .int (zI 0), .int (zI 0), .int (zI 0), .int (zI 0)])), (L, .inl (G.2 1, 5, .inr (.inr (.inr (.inr (fun _ => none)))))), (o0, .inr (0, [.ref r0, .int (zI 0)])), (r0, arI G.2 6 (fun _ => 0))] _ _ _
  refine aw_astq (q0 := 1) (qk := 2) C rfl rfl (by decide) (by decide) rfl dX2_init_31 ?_
  show AW p l e _ s m args below meth c 2 G A s.heap _ _ _ [(h0, .inr (2, [.ref L, .null, .null, .null, .null, .null, .int (zI 0), .int (zI 0), .int (zI 0), .int (zI 0), .int (zI 0), .int (zI 0), .int (zI 0), .int (zI 0), .int (zI 0), .int (zI 0), .int (zI 0)])), (L, .inl (G.2 1, 5, .inr (.inr (.inr (.inr (va_up (fun _ => none) 0 (some o0))))))), (o0, .inr (0, [.ref r0, .int (zI 0)])), (r0, arI G.2 6 (fun _ => 0))] _ _ _
  refine aw_iinc C dX2_init_32 rfl rfl rfl ?_
  refine aw_goto (tgt := 14) C dX2_init_35 (by decide) ?_
  refine aw_iload_n C dX2_init_14 rfl ?_
  refine aw_iconst C dX2_init_15 ?_
  refine aw_icmp_ge (tgt := 38) C dX2_init_16 (by decide) (by decide) (by decide) (fun h => absurd h (by decide)) (fun _ => ?_)
  refine aw_aload_n C dX2_init_19 rfl ?_
  refine aw_get (q0 := 0) (k := 0) C iFX2 k_11 rfl rfl rfl rfl dX2_init_20 ?_
  refine aw_iload_n C dX2_init_23 rfl ?_
  refine aw_new (ci := 0) (fs := [.null, .int (zI 0)]) (Cn := RX0) (T := TX0) (N := 2) C (by decide +kernel) tyX0_ok (hts (.classLink RX2 9 RX0) (by decide +kernel)) (hts (.instantiable RX0 2) (by decide +kernel)) (hts (.initialized RX0) (by decide +kernel)) rfl (fun j hj => by rcases (show j = 0 ∨ j = 1 by omega) with rfl | rfl <;> rfl) dX2_init_24 rfl rfl (fun o1 => ?_)
  refine aw_dup C dX2_init_27 rfl ?_
  refine aw_swap ?_
  refine aw_cN C hN hM (c_X0_init (h0 := o1)) ⟨by exact va_cnB 0 hts gX2_init_X0_init_n15 rfl rfl rfl hM.1 (hts (.initialized RX0) (by decide +kernel)) (by decide +kernel) ⟨Nat.le_of_ble_eq_true rfl, Nat.le_of_ble_eq_true rfl⟩, rfl, hts (.instanceMethod yX0_init) (by decide +kernel)⟩ rfl dX2_init_28 ⟨rfl, rfl⟩ (fun u q => ?_)
  obtain ⟨r1, rfl⟩ := q
  refine aw_swap ?_
  show AW p l e _ s m args below meth c 2 G A s.heap _ _ _ [(h0, .inr (2, [.ref L, .null, .null, .null, .null, .null, .int (zI 0), .int (zI 0), .int (zI 0), .int (zI 0), .int (zI 0), .int (zI 0), .int (zI 0), .int (zI 0), .int (zI 0), .int (zI 0), .int (zI 0)])), (L, .inl (G.2 1, 5, .inr (.inr (.inr (.inr (va_up (fun _ => none) 0 (some o0))))))), (o0, .inr (0, [.ref r0, .int (zI 0)])), (r0, arI G.2 6 (fun _ => 0)), (o1, .inr (0, [.ref r1, .int (zI 0)])), (r1, arI G.2 6 (fun _ => 0))] _ _ _
  refine aw_astq (q0 := 1) (qk := 4) C rfl rfl (by decide) (by decide) rfl dX2_init_31 ?_
  show AW p l e _ s m args below meth c 2 G A s.heap _ _ _ [(h0, .inr (2, [.ref L, .null, .null, .null, .null, .null, .int (zI 0), .int (zI 0), .int (zI 0), .int (zI 0), .int (zI 0), .int (zI 0), .int (zI 0), .int (zI 0), .int (zI 0), .int (zI 0), .int (zI 0)])), (L, .inl (G.2 1, 5, .inr (.inr (.inr (.inr (va_up (va_up (fun _ => none) 0 (some o0)) 1 (some o1))))))), (o0, .inr (0, [.ref r0, .int (zI 0)])), (r0, arI G.2 6 (fun _ => 0)), (o1, .inr (0, [.ref r1, .int (zI 0)])), (r1, arI G.2 6 (fun _ => 0))] _ _ _
  refine aw_iinc C dX2_init_32 rfl rfl rfl ?_
  refine aw_goto (tgt := 14) C dX2_init_35 (by decide) ?_
  refine aw_iload_n C dX2_init_14 rfl ?_
  refine aw_iconst C dX2_init_15 ?_
  refine aw_icmp_ge (tgt := 38) C dX2_init_16 (by decide) (by decide) (by decide) (fun h => absurd h (by decide)) (fun _ => ?_)
  refine aw_aload_n C dX2_init_19 rfl ?_
  refine aw_get (q0 := 0) (k := 0) C iFX2 k_11 rfl rfl rfl rfl dX2_init_20 ?_
  refine aw_iload_n C dX2_init_23 rfl ?_
  refine aw_new (ci := 0) (fs := [.null, .int (zI 0)]) (Cn := RX0) (T := TX0) (N := 2) C (by decide +kernel) tyX0_ok (hts (.classLink RX2 9 RX0) (by decide +kernel)) (hts (.instantiable RX0 2) (by decide +kernel)) (hts (.initialized RX0) (by decide +kernel)) rfl (fun j hj => by rcases (show j = 0 ∨ j = 1 by omega) with rfl | rfl <;> rfl) dX2_init_24 rfl rfl (fun o2 => ?_)
  refine aw_dup C dX2_init_27 rfl ?_
  refine aw_swap ?_
  refine aw_cN C hN hM (c_X0_init (h0 := o2)) ⟨by exact va_cnB 0 hts gX2_init_X0_init_n15 rfl rfl rfl hM.1 (hts (.initialized RX0) (by decide +kernel)) (by decide +kernel) ⟨Nat.le_of_ble_eq_true rfl, Nat.le_of_ble_eq_true rfl⟩, rfl, hts (.instanceMethod yX0_init) (by decide +kernel)⟩ rfl dX2_init_28 ⟨rfl, rfl⟩ (fun u q => ?_)
  obtain ⟨r2, rfl⟩ := q
  refine aw_swap ?_
  show AW p l e _ s m args below meth c 2 G A s.heap _ _ _ [(h0, .inr (2, [.ref L, .null, .null, .null, .null, .null, .int (zI 0), .int (zI 0), .int (zI 0), .int (zI 0), .int (zI 0), .int (zI 0), .int (zI 0), .int (zI 0), .int (zI 0), .int (zI 0), .int (zI 0)])), (L, .inl (G.2 1, 5, .inr (.inr (.inr (.inr (va_up (va_up (fun _ => none) 0 (some o0)) 1 (some o1))))))), (o0, .inr (0, [.ref r0, .int (zI 0)])), (r0, arI G.2 6 (fun _ => 0)), (o1, .inr (0, [.ref r1, .int (zI 0)])), (r1, arI G.2 6 (fun _ => 0)), (o2, .inr (0, [.ref r2, .int (zI 0)])), (r2, arI G.2 6 (fun _ => 0))] _ _ _
  refine aw_astq (q0 := 1) (qk := 6) C rfl rfl (by decide) (by decide) rfl dX2_init_31 ?_
  show AW p l e _ s m args below meth c 2 G A s.heap _ _ _ [(h0, .inr (2, [.ref L, .null, .null, .null, .null, .null, .int (zI 0), .int (zI 0), .int (zI 0), .int (zI 0), .int (zI 0), .int (zI 0), .int (zI 0), .int (zI 0), .int (zI 0), .int (zI 0), .int (zI 0)])), (L, .inl (G.2 1, 5, .inr (.inr (.inr (.inr (va_up (va_up (va_up (fun _ => none) 0 (some o0)) 1 (some o1)) 2 (some o2))))))), (o0, .inr (0, [.ref r0, .int (zI 0)])), (r0, arI G.2 6 (fun _ => 0)), (o1, .inr (0, [.ref r1, .int (zI 0)])), (r1, arI G.2 6 (fun _ => 0)), (o2, .inr (0, [.ref r2, .int (zI 0)])), (r2, arI G.2 6 (fun _ => 0))] _ _ _
  refine aw_iinc C dX2_init_32 rfl rfl rfl ?_
  refine aw_goto (tgt := 14) C dX2_init_35 (by decide) ?_
  refine aw_iload_n C dX2_init_14 rfl ?_
  refine aw_iconst C dX2_init_15 ?_
  refine aw_icmp_ge (tgt := 38) C dX2_init_16 (by decide) (by decide) (by decide) (fun h => absurd h (by decide)) (fun _ => ?_)
  refine aw_aload_n C dX2_init_19 rfl ?_
  refine aw_get (q0 := 0) (k := 0) C iFX2 k_11 rfl rfl rfl rfl dX2_init_20 ?_
  refine aw_iload_n C dX2_init_23 rfl ?_
  refine aw_new (ci := 0) (fs := [.null, .int (zI 0)]) (Cn := RX0) (T := TX0) (N := 2) C (by decide +kernel) tyX0_ok (hts (.classLink RX2 9 RX0) (by decide +kernel)) (hts (.instantiable RX0 2) (by decide +kernel)) (hts (.initialized RX0) (by decide +kernel)) rfl (fun j hj => by rcases (show j = 0 ∨ j = 1 by omega) with rfl | rfl <;> rfl) dX2_init_24 rfl rfl (fun o3 => ?_)
  refine aw_dup C dX2_init_27 rfl ?_
  refine aw_swap ?_
  refine aw_cN C hN hM (c_X0_init (h0 := o3)) ⟨by exact va_cnB 0 hts gX2_init_X0_init_n15 rfl rfl rfl hM.1 (hts (.initialized RX0) (by decide +kernel)) (by decide +kernel) ⟨Nat.le_of_ble_eq_true rfl, Nat.le_of_ble_eq_true rfl⟩, rfl, hts (.instanceMethod yX0_init) (by decide +kernel)⟩ rfl dX2_init_28 ⟨rfl, rfl⟩ (fun u q => ?_)
  obtain ⟨r3, rfl⟩ := q
  refine aw_swap ?_
  show AW p l e _ s m args below meth c 2 G A s.heap _ _ _ [(h0, .inr (2, [.ref L, .null, .null, .null, .null, .null, .int (zI 0), .int (zI 0), .int (zI 0), .int (zI 0), .int (zI 0), .int (zI 0), .int (zI 0), .int (zI 0), .int (zI 0), .int (zI 0), .int (zI 0)])), (L, .inl (G.2 1, 5, .inr (.inr (.inr (.inr (va_up (va_up (va_up (fun _ => none) 0 (some o0)) 1 (some o1)) 2 (some o2))))))), (o0, .inr (0, [.ref r0, .int (zI 0)])), (r0, arI G.2 6 (fun _ => 0)), (o1, .inr (0, [.ref r1, .int (zI 0)])), (r1, arI G.2 6 (fun _ => 0)), (o2, .inr (0, [.ref r2, .int (zI 0)])), (r2, arI G.2 6 (fun _ => 0)), (o3, .inr (0, [.ref r3, .int (zI 0)])), (r3, arI G.2 6 (fun _ => 0))] _ _ _
  refine aw_astq (q0 := 1) (qk := 8) C rfl rfl (by decide) (by decide) rfl dX2_init_31 ?_
  show AW p l e _ s m args below meth c 2 G A s.heap _ _ _ [(h0, .inr (2, [.ref L, .null, .null, .null, .null, .null, .int (zI 0), .int (zI 0), .int (zI 0), .int (zI 0), .int (zI 0), .int (zI 0), .int (zI 0), .int (zI 0), .int (zI 0), .int (zI 0), .int (zI 0)])), (L, .inl (G.2 1, 5, .inr (.inr (.inr (.inr (va_up (va_up (va_up (va_up (fun _ => none) 0 (some o0)) 1 (some o1)) 2 (some o2)) 3 (some o3))))))), (o0, .inr (0, [.ref r0, .int (zI 0)])), (r0, arI G.2 6 (fun _ => 0)), (o1, .inr (0, [.ref r1, .int (zI 0)])), (r1, arI G.2 6 (fun _ => 0)), (o2, .inr (0, [.ref r2, .int (zI 0)])), (r2, arI G.2 6 (fun _ => 0)), (o3, .inr (0, [.ref r3, .int (zI 0)])), (r3, arI G.2 6 (fun _ => 0))] _ _ _
  refine aw_iinc C dX2_init_32 rfl rfl rfl ?_
  refine aw_goto (tgt := 14) C dX2_init_35 (by decide) ?_
  refine aw_iload_n C dX2_init_14 rfl ?_
  refine aw_iconst C dX2_init_15 ?_
  refine aw_icmp_ge (tgt := 38) C dX2_init_16 (by decide) (by decide) (by decide) (fun h => absurd h (by decide)) (fun _ => ?_)
  refine aw_aload_n C dX2_init_19 rfl ?_
  refine aw_get (q0 := 0) (k := 0) C iFX2 k_11 rfl rfl rfl rfl dX2_init_20 ?_
  refine aw_iload_n C dX2_init_23 rfl ?_
  refine aw_new (ci := 0) (fs := [.null, .int (zI 0)]) (Cn := RX0) (T := TX0) (N := 2) C (by decide +kernel) tyX0_ok (hts (.classLink RX2 9 RX0) (by decide +kernel)) (hts (.instantiable RX0 2) (by decide +kernel)) (hts (.initialized RX0) (by decide +kernel)) rfl (fun j hj => by rcases (show j = 0 ∨ j = 1 by omega) with rfl | rfl <;> rfl) dX2_init_24 rfl rfl (fun o4 => ?_)
  refine aw_dup C dX2_init_27 rfl ?_
  refine aw_swap ?_
  refine aw_cN C hN hM (c_X0_init (h0 := o4)) ⟨by exact va_cnB 0 hts gX2_init_X0_init_n15 rfl rfl rfl hM.1 (hts (.initialized RX0) (by decide +kernel)) (by decide +kernel) ⟨Nat.le_of_ble_eq_true rfl, Nat.le_of_ble_eq_true rfl⟩, rfl, hts (.instanceMethod yX0_init) (by decide +kernel)⟩ rfl dX2_init_28 ⟨rfl, rfl⟩ (fun u q => ?_)
  obtain ⟨r4, rfl⟩ := q
  refine aw_swap ?_
  show AW p l e _ s m args below meth c 2 G A s.heap _ _ _ [(h0, .inr (2, [.ref L, .null, .null, .null, .null, .null, .int (zI 0), .int (zI 0), .int (zI 0), .int (zI 0), .int (zI 0), .int (zI 0), .int (zI 0), .int (zI 0), .int (zI 0), .int (zI 0), .int (zI 0)])), (L, .inl (G.2 1, 5, .inr (.inr (.inr (.inr (va_up (va_up (va_up (va_up (fun _ => none) 0 (some o0)) 1 (some o1)) 2 (some o2)) 3 (some o3))))))), (o0, .inr (0, [.ref r0, .int (zI 0)])), (r0, arI G.2 6 (fun _ => 0)), (o1, .inr (0, [.ref r1, .int (zI 0)])), (r1, arI G.2 6 (fun _ => 0)), (o2, .inr (0, [.ref r2, .int (zI 0)])), (r2, arI G.2 6 (fun _ => 0)), (o3, .inr (0, [.ref r3, .int (zI 0)])), (r3, arI G.2 6 (fun _ => 0)), (o4, .inr (0, [.ref r4, .int (zI 0)])), (r4, arI G.2 6 (fun _ => 0))] _ _ _
  refine aw_astq (q0 := 1) (qk := 10) C rfl rfl (by decide) (by decide) rfl dX2_init_31 ?_
  show AW p l e _ s m args below meth c 2 G A s.heap _ _ _ [(h0, .inr (2, [.ref L, .null, .null, .null, .null, .null, .int (zI 0), .int (zI 0), .int (zI 0), .int (zI 0), .int (zI 0), .int (zI 0), .int (zI 0), .int (zI 0), .int (zI 0), .int (zI 0), .int (zI 0)])), (L, .inl (G.2 1, 5, .inr (.inr (.inr (.inr (va_up (va_up (va_up (va_up (va_up (fun _ => none) 0 (some o0)) 1 (some o1)) 2 (some o2)) 3 (some o3)) 4 (some o4))))))), (o0, .inr (0, [.ref r0, .int (zI 0)])), (r0, arI G.2 6 (fun _ => 0)), (o1, .inr (0, [.ref r1, .int (zI 0)])), (r1, arI G.2 6 (fun _ => 0)), (o2, .inr (0, [.ref r2, .int (zI 0)])), (r2, arI G.2 6 (fun _ => 0)), (o3, .inr (0, [.ref r3, .int (zI 0)])), (r3, arI G.2 6 (fun _ => 0)), (o4, .inr (0, [.ref r4, .int (zI 0)])), (r4, arI G.2 6 (fun _ => 0))] _ _ _
  refine aw_iinc C dX2_init_32 rfl rfl rfl ?_
  refine aw_goto (tgt := 14) C dX2_init_35 (by decide) ?_
  refine aw_iload_n C dX2_init_14 rfl ?_
  refine aw_iconst C dX2_init_15 ?_
  refine aw_icmp_ge (tgt := 38) C dX2_init_16 (by decide) (by decide) (by decide) (fun _ => ?_) (fun h => absurd h (by decide))
  refine aw_aload_n C dX2_init_38 rfl ?_
  refine aw_bipush C dX2_init_39 rfl ?_
  refine aw_newI (N := 99) C rfl rfl (hts (.arrayClass .int) (by decide +kernel)) dX2_init_41 rfl rfl (fun q1 => ?_)
  show AW p l e _ s m args below meth c 2 G A s.heap _ _ _ [(h0, .inr (2, [.ref L, .null, .null, .null, .null, .null, .int (zI 0), .int (zI 0), .int (zI 0), .int (zI 0), .int (zI 0), .int (zI 0), .int (zI 0), .int (zI 0), .int (zI 0), .int (zI 0), .int (zI 0)])), (L, .inl (G.2 1, 5, .inr (.inr (.inr (.inr (va_up (va_up (va_up (va_up (va_up (fun _ => none) 0 (some o0)) 1 (some o1)) 2 (some o2)) 3 (some o3)) 4 (some o4))))))), (o0, .inr (0, [.ref r0, .int (zI 0)])), (r0, arI G.2 6 (fun _ => 0)), (o1, .inr (0, [.ref r1, .int (zI 0)])), (r1, arI G.2 6 (fun _ => 0)), (o2, .inr (0, [.ref r2, .int (zI 0)])), (r2, arI G.2 6 (fun _ => 0)), (o3, .inr (0, [.ref r3, .int (zI 0)])), (r3, arI G.2 6 (fun _ => 0)), (o4, .inr (0, [.ref r4, .int (zI 0)])), (r4, arI G.2 6 (fun _ => 0)), (q1, arI G.2 99 (fun _ => 0))] _ _ _
  refine aw_putF (q0 := 0) (k := 1) C iFX2 tyX2_ok nmX2 k_16 rfl rfl rfl rfl hnm rfl rfl rfl rfl rfl dX2_init_43 ?_
  show AW p l e _ s m args below meth c 2 G A s.heap _ _ _ [(h0, .inr (2, [.ref L, .ref q1, .null, .null, .null, .null, .int (zI 0), .int (zI 0), .int (zI 0), .int (zI 0), .int (zI 0), .int (zI 0), .int (zI 0), .int (zI 0), .int (zI 0), .int (zI 0), .int (zI 0)])), (L, .inl (G.2 1, 5, .inr (.inr (.inr (.inr (va_up (va_up (va_up (va_up (va_up (fun _ => none) 0 (some o0)) 1 (some o1)) 2 (some o2)) 3 (some o3)) 4 (some o4))))))), (o0, .inr (0, [.ref r0, .int (zI 0)])), (r0, arI G.2 6 (fun _ => 0)), (o1, .inr (0, [.ref r1, .int (zI 0)])), (r1, arI G.2 6 (fun _ => 0)), (o2, .inr (0, [.ref r2, .int (zI 0)])), (r2, arI G.2 6 (fun _ => 0)), (o3, .inr (0, [.ref r3, .int (zI 0)])), (r3, arI G.2 6 (fun _ => 0)), (o4, .inr (0, [.ref r4, .int (zI 0)])), (r4, arI G.2 6 (fun _ => 0)), (q1, arI G.2 99 (fun _ => 0))] _ _ _
  refine aw_aload_n C dX2_init_46 rfl ?_
  refine aw_bipush C dX2_init_47 rfl ?_
  refine aw_newI (N := 99) C rfl rfl (hts (.arrayClass .int) (by decide +kernel)) dX2_init_49 rfl rfl (fun q2 => ?_)
  show AW p l e _ s m args below meth c 2 G A s.heap _ _ _ [(h0, .inr (2, [.ref L, .ref q1, .null, .null, .null, .null, .int (zI 0), .int (zI 0), .int (zI 0), .int (zI 0), .int (zI 0), .int (zI 0), .int (zI 0), .int (zI 0), .int (zI 0), .int (zI 0), .int (zI 0)])), (L, .inl (G.2 1, 5, .inr (.inr (.inr (.inr (va_up (va_up (va_up (va_up (va_up (fun _ => none) 0 (some o0)) 1 (some o1)) 2 (some o2)) 3 (some o3)) 4 (some o4))))))), (o0, .inr (0, [.ref r0, .int (zI 0)])), (r0, arI G.2 6 (fun _ => 0)), (o1, .inr (0, [.ref r1, .int (zI 0)])), (r1, arI G.2 6 (fun _ => 0)), (o2, .inr (0, [.ref r2, .int (zI 0)])), (r2, arI G.2 6 (fun _ => 0)), (o3, .inr (0, [.ref r3, .int (zI 0)])), (r3, arI G.2 6 (fun _ => 0)), (o4, .inr (0, [.ref r4, .int (zI 0)])), (r4, arI G.2 6 (fun _ => 0)), (q1, arI G.2 99 (fun _ => 0)), (q2, arI G.2 99 (fun _ => 0))] _ _ _
  refine aw_putF (q0 := 0) (k := 2) C iFX2 tyX2_ok nmX2 k_20 rfl rfl rfl rfl hnm rfl rfl rfl rfl rfl dX2_init_51 ?_
  show AW p l e _ s m args below meth c 2 G A s.heap _ _ _ [(h0, .inr (2, [.ref L, .ref q1, .ref q2, .null, .null, .null, .int (zI 0), .int (zI 0), .int (zI 0), .int (zI 0), .int (zI 0), .int (zI 0), .int (zI 0), .int (zI 0), .int (zI 0), .int (zI 0), .int (zI 0)])), (L, .inl (G.2 1, 5, .inr (.inr (.inr (.inr (va_up (va_up (va_up (va_up (va_up (fun _ => none) 0 (some o0)) 1 (some o1)) 2 (some o2)) 3 (some o3)) 4 (some o4))))))), (o0, .inr (0, [.ref r0, .int (zI 0)])), (r0, arI G.2 6 (fun _ => 0)), (o1, .inr (0, [.ref r1, .int (zI 0)])), (r1, arI G.2 6 (fun _ => 0)), (o2, .inr (0, [.ref r2, .int (zI 0)])), (r2, arI G.2 6 (fun _ => 0)), (o3, .inr (0, [.ref r3, .int (zI 0)])), (r3, arI G.2 6 (fun _ => 0)), (o4, .inr (0, [.ref r4, .int (zI 0)])), (r4, arI G.2 6 (fun _ => 0)), (q1, arI G.2 99 (fun _ => 0)), (q2, arI G.2 99 (fun _ => 0))] _ _ _
  refine aw_aload_n C dX2_init_54 rfl ?_
  refine aw_bipush C dX2_init_55 rfl ?_
  refine aw_newI (N := 99) C rfl rfl (hts (.arrayClass .int) (by decide +kernel)) dX2_init_57 rfl rfl (fun q3 => ?_)
  show AW p l e _ s m args below meth c 2 G A s.heap _ _ _ [(h0, .inr (2, [.ref L, .ref q1, .ref q2, .null, .null, .null, .int (zI 0), .int (zI 0), .int (zI 0), .int (zI 0), .int (zI 0), .int (zI 0), .int (zI 0), .int (zI 0), .int (zI 0), .int (zI 0), .int (zI 0)])), (L, .inl (G.2 1, 5, .inr (.inr (.inr (.inr (va_up (va_up (va_up (va_up (va_up (fun _ => none) 0 (some o0)) 1 (some o1)) 2 (some o2)) 3 (some o3)) 4 (some o4))))))), (o0, .inr (0, [.ref r0, .int (zI 0)])), (r0, arI G.2 6 (fun _ => 0)), (o1, .inr (0, [.ref r1, .int (zI 0)])), (r1, arI G.2 6 (fun _ => 0)), (o2, .inr (0, [.ref r2, .int (zI 0)])), (r2, arI G.2 6 (fun _ => 0)), (o3, .inr (0, [.ref r3, .int (zI 0)])), (r3, arI G.2 6 (fun _ => 0)), (o4, .inr (0, [.ref r4, .int (zI 0)])), (r4, arI G.2 6 (fun _ => 0)), (q1, arI G.2 99 (fun _ => 0)), (q2, arI G.2 99 (fun _ => 0)), (q3, arI G.2 99 (fun _ => 0))] _ _ _
  refine aw_putF (q0 := 0) (k := 3) C iFX2 tyX2_ok nmX2 k_23 rfl rfl rfl rfl hnm rfl rfl rfl rfl rfl dX2_init_59 ?_
  show AW p l e _ s m args below meth c 2 G A s.heap _ _ _ [(h0, .inr (2, [.ref L, .ref q1, .ref q2, .ref q3, .null, .null, .int (zI 0), .int (zI 0), .int (zI 0), .int (zI 0), .int (zI 0), .int (zI 0), .int (zI 0), .int (zI 0), .int (zI 0), .int (zI 0), .int (zI 0)])), (L, .inl (G.2 1, 5, .inr (.inr (.inr (.inr (va_up (va_up (va_up (va_up (va_up (fun _ => none) 0 (some o0)) 1 (some o1)) 2 (some o2)) 3 (some o3)) 4 (some o4))))))), (o0, .inr (0, [.ref r0, .int (zI 0)])), (r0, arI G.2 6 (fun _ => 0)), (o1, .inr (0, [.ref r1, .int (zI 0)])), (r1, arI G.2 6 (fun _ => 0)), (o2, .inr (0, [.ref r2, .int (zI 0)])), (r2, arI G.2 6 (fun _ => 0)), (o3, .inr (0, [.ref r3, .int (zI 0)])), (r3, arI G.2 6 (fun _ => 0)), (o4, .inr (0, [.ref r4, .int (zI 0)])), (r4, arI G.2 6 (fun _ => 0)), (q1, arI G.2 99 (fun _ => 0)), (q2, arI G.2 99 (fun _ => 0)), (q3, arI G.2 99 (fun _ => 0))] _ _ _
  refine aw_aload_n C dX2_init_62 rfl ?_
  refine aw_bipush C dX2_init_63 rfl ?_
  refine aw_newI (N := 99) C rfl rfl (hts (.arrayClass .int) (by decide +kernel)) dX2_init_65 rfl rfl (fun q4 => ?_)
  show AW p l e _ s m args below meth c 2 G A s.heap _ _ _ [(h0, .inr (2, [.ref L, .ref q1, .ref q2, .ref q3, .null, .null, .int (zI 0), .int (zI 0), .int (zI 0), .int (zI 0), .int (zI 0), .int (zI 0), .int (zI 0), .int (zI 0), .int (zI 0), .int (zI 0), .int (zI 0)])), (L, .inl (G.2 1, 5, .inr (.inr (.inr (.inr (va_up (va_up (va_up (va_up (va_up (fun _ => none) 0 (some o0)) 1 (some o1)) 2 (some o2)) 3 (some o3)) 4 (some o4))))))), (o0, .inr (0, [.ref r0, .int (zI 0)])), (r0, arI G.2 6 (fun _ => 0)), (o1, .inr (0, [.ref r1, .int (zI 0)])), (r1, arI G.2 6 (fun _ => 0)), (o2, .inr (0, [.ref r2, .int (zI 0)])), (r2, arI G.2 6 (fun _ => 0)), (o3, .inr (0, [.ref r3, .int (zI 0)])), (r3, arI G.2 6 (fun _ => 0)), (o4, .inr (0, [.ref r4, .int (zI 0)])), (r4, arI G.2 6 (fun _ => 0)), (q1, arI G.2 99 (fun _ => 0)), (q2, arI G.2 99 (fun _ => 0)), (q3, arI G.2 99 (fun _ => 0)), (q4, arI G.2 99 (fun _ => 0))] _ _ _
  refine aw_putF (q0 := 0) (k := 4) C iFX2 tyX2_ok nmX2 k_26 rfl rfl rfl rfl hnm rfl rfl rfl rfl rfl dX2_init_67 ?_
  show AW p l e _ s m args below meth c 2 G A s.heap _ _ _ [(h0, .inr (2, [.ref L, .ref q1, .ref q2, .ref q3, .ref q4, .null, .int (zI 0), .int (zI 0), .int (zI 0), .int (zI 0), .int (zI 0), .int (zI 0), .int (zI 0), .int (zI 0), .int (zI 0), .int (zI 0), .int (zI 0)])), (L, .inl (G.2 1, 5, .inr (.inr (.inr (.inr (va_up (va_up (va_up (va_up (va_up (fun _ => none) 0 (some o0)) 1 (some o1)) 2 (some o2)) 3 (some o3)) 4 (some o4))))))), (o0, .inr (0, [.ref r0, .int (zI 0)])), (r0, arI G.2 6 (fun _ => 0)), (o1, .inr (0, [.ref r1, .int (zI 0)])), (r1, arI G.2 6 (fun _ => 0)), (o2, .inr (0, [.ref r2, .int (zI 0)])), (r2, arI G.2 6 (fun _ => 0)), (o3, .inr (0, [.ref r3, .int (zI 0)])), (r3, arI G.2 6 (fun _ => 0)), (o4, .inr (0, [.ref r4, .int (zI 0)])), (r4, arI G.2 6 (fun _ => 0)), (q1, arI G.2 99 (fun _ => 0)), (q2, arI G.2 99 (fun _ => 0)), (q3, arI G.2 99 (fun _ => 0)), (q4, arI G.2 99 (fun _ => 0))] _ _ _
  refine aw_aload_n C dX2_init_70 rfl ?_
  refine aw_new (ci := 1) (fs := [.null, .null, .null, .null, .null, .null]) (Cn := RX1) (T := TX1) (N := 6) C (by decide +kernel) tyX1_ok (hts (.classLink RX2 29 RX1) (by decide +kernel)) (hts (.instantiable RX1 6) (by decide +kernel)) (hts (.initialized RX1) (by decide +kernel)) rfl (fun j hj => by rcases (show j = 0 ∨ j = 1 ∨ j = 2 ∨ j = 3 ∨ j = 4 ∨ j = 5 by omega) with rfl | rfl | rfl | rfl | rfl | rfl <;> rfl) dX2_init_71 rfl rfl (fun pl => ?_)
  refine aw_dup C dX2_init_74 rfl ?_
  refine aw_swap ?_
  refine aw_cN C hN hM (c_X1_init (h0 := pl)) ⟨by exact va_cnB 0 hts gX2_init_X1_init_n31 rfl rfl rfl hM.2.1 (hts (.initialized RX1) (by decide +kernel)) (by decide +kernel) ⟨Nat.le_of_ble_eq_true rfl, Nat.le_of_ble_eq_true rfl⟩, rfl, hts (.instanceMethod yX1_init) (by decide +kernel)⟩ rfl dX2_init_75 ⟨rfl, rfl⟩ (fun u q => ?_)
  obtain ⟨w, r, a1, a2, a3, a4, a5, rfl⟩ := q
  refine aw_swap ?_
  show AW p l e _ s m args below meth c 2 G A s.heap _ _ _ [(h0, .inr (2, [.ref L, .ref q1, .ref q2, .ref q3, .ref q4, .null, .int (zI 0), .int (zI 0), .int (zI 0), .int (zI 0), .int (zI 0), .int (zI 0), .int (zI 0), .int (zI 0), .int (zI 0), .int (zI 0), .int (zI 0)])), (L, .inl (G.2 1, 5, .inr (.inr (.inr (.inr (va_up (va_up (va_up (va_up (va_up (fun _ => none) 0 (some o0)) 1 (some o1)) 2 (some o2)) 3 (some o3)) 4 (some o4))))))), (o0, .inr (0, [.ref r0, .int (zI 0)])), (r0, arI G.2 6 (fun _ => 0)), (o1, .inr (0, [.ref r1, .int (zI 0)])), (r1, arI G.2 6 (fun _ => 0)), (o2, .inr (0, [.ref r2, .int (zI 0)])), (r2, arI G.2 6 (fun _ => 0)), (o3, .inr (0, [.ref r3, .int (zI 0)])), (r3, arI G.2 6 (fun _ => 0)), (o4, .inr (0, [.ref r4, .int (zI 0)])), (r4, arI G.2 6 (fun _ => 0)), (q1, arI G.2 99 (fun _ => 0)), (q2, arI G.2 99 (fun _ => 0)), (q3, arI G.2 99 (fun _ => 0)), (q4, arI G.2 99 (fun _ => 0)), (pl, .inr (1, [.ref w, .ref a1, .ref a2, .ref a3, .ref a4, .ref a5])), (w, .inl (G.2 2, 5, .inr (.inr (.inr (.inr (fun i => if i < 5 then some (r i) else none)))))), (r 0, arI G.2 6 (fun _ => 0)), (r 1, arI G.2 6 (fun _ => 0)), (r 2, arI G.2 6 (fun _ => 0)), (r 3, arI G.2 6 (fun _ => 0)), (r 4, arI G.2 6 (fun _ => 0)), (a1, arI G.2 5 (fun _ => 0)), (a2, arI G.2 5 (fun _ => 0)), (a3, arI G.2 5 (fun _ => 0)), (a4, arI G.2 432 (fun _ => 0)), (a5, arI G.2 432 (fun _ => 0))] _ _ _
  refine aw_putF (q0 := 0) (k := 5) C iFX2 tyX2_ok nmX2 k_32 rfl rfl rfl rfl hnm rfl rfl rfl rfl rfl dX2_init_78 ?_
  show AW p l e _ s m args below meth c 2 G A s.heap _ _ _ [(h0, .inr (2, [.ref L, .ref q1, .ref q2, .ref q3, .ref q4, .ref pl, .int (zI 0), .int (zI 0), .int (zI 0), .int (zI 0), .int (zI 0), .int (zI 0), .int (zI 0), .int (zI 0), .int (zI 0), .int (zI 0), .int (zI 0)])), (L, .inl (G.2 1, 5, .inr (.inr (.inr (.inr (va_up (va_up (va_up (va_up (va_up (fun _ => none) 0 (some o0)) 1 (some o1)) 2 (some o2)) 3 (some o3)) 4 (some o4))))))), (o0, .inr (0, [.ref r0, .int (zI 0)])), (r0, arI G.2 6 (fun _ => 0)), (o1, .inr (0, [.ref r1, .int (zI 0)])), (r1, arI G.2 6 (fun _ => 0)), (o2, .inr (0, [.ref r2, .int (zI 0)])), (r2, arI G.2 6 (fun _ => 0)), (o3, .inr (0, [.ref r3, .int (zI 0)])), (r3, arI G.2 6 (fun _ => 0)), (o4, .inr (0, [.ref r4, .int (zI 0)])), (r4, arI G.2 6 (fun _ => 0)), (q1, arI G.2 99 (fun _ => 0)), (q2, arI G.2 99 (fun _ => 0)), (q3, arI G.2 99 (fun _ => 0)), (q4, arI G.2 99 (fun _ => 0)), (pl, .inr (1, [.ref w, .ref a1, .ref a2, .ref a3, .ref a4, .ref a5])), (w, .inl (G.2 2, 5, .inr (.inr (.inr (.inr (fun i => if i < 5 then some (r i) else none)))))), (r 0, arI G.2 6 (fun _ => 0)), (r 1, arI G.2 6 (fun _ => 0)), (r 2, arI G.2 6 (fun _ => 0)), (r 3, arI G.2 6 (fun _ => 0)), (r 4, arI G.2 6 (fun _ => 0)), (a1, arI G.2 5 (fun _ => 0)), (a2, arI G.2 5 (fun _ => 0)), (a3, arI G.2 5 (fun _ => 0)), (a4, arI G.2 432 (fun _ => 0)), (a5, arI G.2 432 (fun _ => 0))] _ _ _
  refine aw_aload_n C dX2_init_81 rfl ?_
  refine aw_iconst C dX2_init_82 ?_
  refine aw_put (q0 := 0) (k := 6) C iFX2 tyX2_ok nmX2 k_36 rfl rfl rfl rfl rfl rfl rfl dX2_init_83 ?_
  show AW p l e _ s m args below meth c 2 G A s.heap _ _ _ [(h0, .inr (2, [.ref L, .ref q1, .ref q2, .ref q3, .ref q4, .ref pl, .int (zI 3), .int (zI 0), .int (zI 0), .int (zI 0), .int (zI 0), .int (zI 0), .int (zI 0), .int (zI 0), .int (zI 0), .int (zI 0), .int (zI 0)])), (L, .inl (G.2 1, 5, .inr (.inr (.inr (.inr (va_up (va_up (va_up (va_up (va_up (fun _ => none) 0 (some o0)) 1 (some o1)) 2 (some o2)) 3 (some o3)) 4 (some o4))))))), (o0, .inr (0, [.ref r0, .int (zI 0)])), (r0, arI G.2 6 (fun _ => 0)), (o1, .inr (0, [.ref r1, .int (zI 0)])), (r1, arI G.2 6 (fun _ => 0)), (o2, .inr (0, [.ref r2, .int (zI 0)])), (r2, arI G.2 6 (fun _ => 0)), (o3, .inr (0, [.ref r3, .int (zI 0)])), (r3, arI G.2 6 (fun _ => 0)), (o4, .inr (0, [.ref r4, .int (zI 0)])), (r4, arI G.2 6 (fun _ => 0)), (q1, arI G.2 99 (fun _ => 0)), (q2, arI G.2 99 (fun _ => 0)), (q3, arI G.2 99 (fun _ => 0)), (q4, arI G.2 99 (fun _ => 0)), (pl, .inr (1, [.ref w, .ref a1, .ref a2, .ref a3, .ref a4, .ref a5])), (w, .inl (G.2 2, 5, .inr (.inr (.inr (.inr (fun i => if i < 5 then some (r i) else none)))))), (r 0, arI G.2 6 (fun _ => 0)), (r 1, arI G.2 6 (fun _ => 0)), (r 2, arI G.2 6 (fun _ => 0)), (r 3, arI G.2 6 (fun _ => 0)), (r 4, arI G.2 6 (fun _ => 0)), (a1, arI G.2 5 (fun _ => 0)), (a2, arI G.2 5 (fun _ => 0)), (a3, arI G.2 5 (fun _ => 0)), (a4, arI G.2 432 (fun _ => 0)), (a5, arI G.2 432 (fun _ => 0))] _ _ _
  refine aw_aload_n C dX2_init_86 rfl ?_
  refine aw_iconst C dX2_init_87 ?_
  refine aw_put (q0 := 0) (k := 7) C iFX2 tyX2_ok nmX2 k_40 rfl rfl rfl rfl rfl rfl rfl dX2_init_88 ?_
  show AW p l e _ s m args below meth c 2 G A s.heap _ _ _ [(h0, .inr (2, [.ref L, .ref q1, .ref q2, .ref q3, .ref q4, .ref pl, .int (zI 3), .int (zI 4), .int (zI 0), .int (zI 0), .int (zI 0), .int (zI 0), .int (zI 0), .int (zI 0), .int (zI 0), .int (zI 0), .int (zI 0)])), (L, .inl (G.2 1, 5, .inr (.inr (.inr (.inr (va_up (va_up (va_up (va_up (va_up (fun _ => none) 0 (some o0)) 1 (some o1)) 2 (some o2)) 3 (some o3)) 4 (some o4))))))), (o0, .inr (0, [.ref r0, .int (zI 0)])), (r0, arI G.2 6 (fun _ => 0)), (o1, .inr (0, [.ref r1, .int (zI 0)])), (r1, arI G.2 6 (fun _ => 0)), (o2, .inr (0, [.ref r2, .int (zI 0)])), (r2, arI G.2 6 (fun _ => 0)), (o3, .inr (0, [.ref r3, .int (zI 0)])), (r3, arI G.2 6 (fun _ => 0)), (o4, .inr (0, [.ref r4, .int (zI 0)])), (r4, arI G.2 6 (fun _ => 0)), (q1, arI G.2 99 (fun _ => 0)), (q2, arI G.2 99 (fun _ => 0)), (q3, arI G.2 99 (fun _ => 0)), (q4, arI G.2 99 (fun _ => 0)), (pl, .inr (1, [.ref w, .ref a1, .ref a2, .ref a3, .ref a4, .ref a5])), (w, .inl (G.2 2, 5, .inr (.inr (.inr (.inr (fun i => if i < 5 then some (r i) else none)))))), (r 0, arI G.2 6 (fun _ => 0)), (r 1, arI G.2 6 (fun _ => 0)), (r 2, arI G.2 6 (fun _ => 0)), (r 3, arI G.2 6 (fun _ => 0)), (r 4, arI G.2 6 (fun _ => 0)), (a1, arI G.2 5 (fun _ => 0)), (a2, arI G.2 5 (fun _ => 0)), (a3, arI G.2 5 (fun _ => 0)), (a4, arI G.2 432 (fun _ => 0)), (a5, arI G.2 432 (fun _ => 0))] _ _ _
  refine aw_aload_n C dX2_init_91 rfl ?_
  refine aw_iconst C dX2_init_92 ?_
  refine aw_put (q0 := 0) (k := 8) C iFX2 tyX2_ok nmX2 k_43 rfl rfl rfl rfl rfl rfl rfl dX2_init_93 ?_
  show AW p l e _ s m args below meth c 2 G A s.heap _ _ _ [(h0, .inr (2, [.ref L, .ref q1, .ref q2, .ref q3, .ref q4, .ref pl, .int (zI 3), .int (zI 4), .int (zI 3), .int (zI 0), .int (zI 0), .int (zI 0), .int (zI 0), .int (zI 0), .int (zI 0), .int (zI 0), .int (zI 0)])), (L, .inl (G.2 1, 5, .inr (.inr (.inr (.inr (va_up (va_up (va_up (va_up (va_up (fun _ => none) 0 (some o0)) 1 (some o1)) 2 (some o2)) 3 (some o3)) 4 (some o4))))))), (o0, .inr (0, [.ref r0, .int (zI 0)])), (r0, arI G.2 6 (fun _ => 0)), (o1, .inr (0, [.ref r1, .int (zI 0)])), (r1, arI G.2 6 (fun _ => 0)), (o2, .inr (0, [.ref r2, .int (zI 0)])), (r2, arI G.2 6 (fun _ => 0)), (o3, .inr (0, [.ref r3, .int (zI 0)])), (r3, arI G.2 6 (fun _ => 0)), (o4, .inr (0, [.ref r4, .int (zI 0)])), (r4, arI G.2 6 (fun _ => 0)), (q1, arI G.2 99 (fun _ => 0)), (q2, arI G.2 99 (fun _ => 0)), (q3, arI G.2 99 (fun _ => 0)), (q4, arI G.2 99 (fun _ => 0)), (pl, .inr (1, [.ref w, .ref a1, .ref a2, .ref a3, .ref a4, .ref a5])), (w, .inl (G.2 2, 5, .inr (.inr (.inr (.inr (fun i => if i < 5 then some (r i) else none)))))), (r 0, arI G.2 6 (fun _ => 0)), (r 1, arI G.2 6 (fun _ => 0)), (r 2, arI G.2 6 (fun _ => 0)), (r 3, arI G.2 6 (fun _ => 0)), (r 4, arI G.2 6 (fun _ => 0)), (a1, arI G.2 5 (fun _ => 0)), (a2, arI G.2 5 (fun _ => 0)), (a3, arI G.2 5 (fun _ => 0)), (a4, arI G.2 432 (fun _ => 0)), (a5, arI G.2 432 (fun _ => 0))] _ _ _
  refine aw_aload_n C dX2_init_96 rfl ?_
  refine aw_iconst C dX2_init_97 ?_
  refine aw_put (q0 := 0) (k := 14) C iFX2 tyX2_ok nmX2 k_46 rfl rfl rfl rfl rfl rfl rfl dX2_init_98 ?_
  show AW p l e _ s m args below meth c 2 G A s.heap _ _ _ [(h0, .inr (2, [.ref L, .ref q1, .ref q2, .ref q3, .ref q4, .ref pl, .int (zI 3), .int (zI 4), .int (zI 3), .int (zI 0), .int (zI 0), .int (zI 0), .int (zI 0), .int (zI 0), .int (zI (-1)), .int (zI 0), .int (zI 0)])), (L, .inl (G.2 1, 5, .inr (.inr (.inr (.inr (va_up (va_up (va_up (va_up (va_up (fun _ => none) 0 (some o0)) 1 (some o1)) 2 (some o2)) 3 (some o3)) 4 (some o4))))))), (o0, .inr (0, [.ref r0, .int (zI 0)])), (r0, arI G.2 6 (fun _ => 0)), (o1, .inr (0, [.ref r1, .int (zI 0)])), (r1, arI G.2 6 (fun _ => 0)), (o2, .inr (0, [.ref r2, .int (zI 0)])), (r2, arI G.2 6 (fun _ => 0)), (o3, .inr (0, [.ref r3, .int (zI 0)])), (r3, arI G.2 6 (fun _ => 0)), (o4, .inr (0, [.ref r4, .int (zI 0)])), (r4, arI G.2 6 (fun _ => 0)), (q1, arI G.2 99 (fun _ => 0)), (q2, arI G.2 99 (fun _ => 0)), (q3, arI G.2 99 (fun _ => 0)), (q4, arI G.2 99 (fun _ => 0)), (pl, .inr (1, [.ref w, .ref a1, .ref a2, .ref a3, .ref a4, .ref a5])), (w, .inl (G.2 2, 5, .inr (.inr (.inr (.inr (fun i => if i < 5 then some (r i) else none)))))), (r 0, arI G.2 6 (fun _ => 0)), (r 1, arI G.2 6 (fun _ => 0)), (r 2, arI G.2 6 (fun _ => 0)), (r 3, arI G.2 6 (fun _ => 0)), (r 4, arI G.2 6 (fun _ => 0)), (a1, arI G.2 5 (fun _ => 0)), (a2, arI G.2 5 (fun _ => 0)), (a3, arI G.2 5 (fun _ => 0)), (a4, arI G.2 432 (fun _ => 0)), (a5, arI G.2 432 (fun _ => 0))] _ _ _
  refine aw_row5 (q0 := 1) (g := fun j => some (adL [h0, L, o0, o1, o2, o3, o4, r0, r1, r2, r3, r4, q1, q2, q3, q4, pl, w, r 0, r 1, r 2, r 3, r 4, a1, a2, a3, a4, a5] (2 + j))) rfl (fun j hj => by rcases (show j = 0 ∨ j = 1 ∨ j = 2 ∨ j = 3 ∨ j = 4 by omega) with rfl | rfl | rfl | rfl | rfl <;> rfl) rfl ?_
  refine aw_row5 (q0 := 17) (g := fun j => some (adL [h0, L, o0, o1, o2, o3, o4, r0, r1, r2, r3, r4, q1, q2, q3, q4, pl, w, r 0, r 1, r 2, r 3, r 4, a1, a2, a3, a4, a5] (18 + j))) rfl (fun j hj => by rcases (show j = 0 ∨ j = 1 ∨ j = 2 ∨ j = 3 ∨ j = 4 by omega) with rfl | rfl | rfl | rfl | rfl <;> rfl) rfl ?_
  refine aw_perm [0, 1, 2, 4, 6, 8, 10, 3, 5, 7, 9, 11, 12, 13, 14, 15, 16, 17, 18, 19, 20, 21, 22, 23, 24, 25, 26, 27] (ws' := WX G.2 (adL [h0, L, o0, o1, o2, o3, o4, r0, r1, r2, r3, r4, q1, q2, q3, q4, pl, w, r 0, r 1, r 2, r 3, r 4, a1, a2, a3, a4, a5]) S00 P00) (by decide) rfl ?_
  exact aw_vretC C dX2_init_101 ⟨_, rfl, rfl⟩

