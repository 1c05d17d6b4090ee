/-! THE LAW -/
theorem cS2s {p : Program} {l : Launch} {e : Env} {R : Room} {s : State} {m : MethodId} {args : Array Value} {below : List Frame} {meth : Method} {c : Code} {nL : Nat} {G : va_G × (Nat → ClassId)} {A : Nat → Prop} {cells slots : Nat} {Q : State → Prop} {cc : ByteArray} {ret : Option FieldType} {Ts : List Cond} {own : String} {ws : va_W} {lv : List (Nat × Value)} {pc : Nat} {st : List Value} {y : MethodName} {ws9 : List Cond} {rm : Room} {index maxL : Nat} {bytes : ByteArray} {rt : Option FieldType} {L b9 : Nat} {xs : Nat → Int32} {a1 a2 : Value} (C : cx p l s m args meth c cc nL ret Ts own G A s.heap) (X : XS b9 L xs s A) (hM : Ms l G b9 L xs y ws9 rm [a1, a2] (fun _ u => u = [])) (cw : CallB R s args own index y bytes maxL rt ws9 rm 0 0 2 ∧ (Cond.static y).before args s = true) (hcat : Nat.ble (st.map fun v => v.category).sum 8 = true) (hd : decode cc pc = .ok (.invokestatic index, 3)) (hf : cells ≤ R.cells ∧ slots ≤ R.slots)
    (kk : ∀ r : Int, AW p l e R s m args below meth c nL G A s.heap cells slots Q ws lv (pc + 3) (.int (zI r) :: st)) : AW p l e R s m args below meth c nL G A s.heap cells slots Q ws lv pc (a2 :: a1 :: st) :=
  aw_ms (As := [a1, a2]) (e := e) (below := below) (Q := Q) (lv := lv) C X hM cw rfl hcat hd hf (fun r u hp => by subst hp; exact kk r)
set_option maxHeartbeats 4000000 in
set_option maxRecDepth 100000 in
theorem law_loop {p : Program} {l : Launch} {e : Env} {s : State} {m : MethodId} {args : Array Value} {below : List Frame} {meth : Method} {c : Code} {G : va_G × (Nat → ClassId)} {A : Nat → Prop} {Q : State → Prop} {sa : Nat → Nat} {b L : Nat} {xs : Nat → Int32} {ad : Nat → Nat} (C : cx p l s m args meth c cL_law 3 (some .boolean) wsL_law RL G A s.heap) (X : XN l s sa A) (Y : XS b L xs s A) (KE : ∀ (ws : va_W) (lv : List (Nat × Value)) (cells slots : Nat), cells ≤ 600130 → slots ≤ 7301080 → AW p l e room_1 s m args below meth c 3 G A s.heap cells slots Q ws lv 65 []) : ∀ (j k : Nat) (S1 P1 : St) (cells slots : Nat), k ≤ 8 → 8 - k < j → Inv2 S1 → cells ≤ 28 + 360 * k → slots ≤ 2000 + 2160 * k → AW p l e room_1 s m args below meth c 3 G A s.heap cells slots Q (WX G.2 ad S1 P1) [(0, .ref b), (1, .ref (ad 0)), (2, .int (zI k))] 10 [] := by
  have hts := C.2.2.2.2.1
  have hN : NX s := X.2.1.1
  have hL : L ≤ 260 := Y.2.2.2
  intro j
  induction j with
  | zero =>
    intro k S1 P1 cells slots h1 h2
    exfalso
    omega
  | succ j ih =>
    intro k S1 P1 cells slots h1 h2 hI hc hsl
    refine aw_iload_n C dL_law_10 rfl ?_
    refine aw_bipush C dL_law_11 rfl ?_
    refine aw_icmp_ge (tgt := 65) C dL_law_13 (by decide) (by omega) (by omega) (fun c13 => ?_) (fun c13 => ?_)
    · exact KE _ _ _ _ (by omega) (by omega)
    · refine aw_aload_n C dL_law_16 rfl ?_
      refine aw_aload_n C dL_law_17 rfl ?_
      refine aw_iconst C dL_law_18 ?_
      refine aw_iload_n C dL_law_19 rfl ?_
      refine aw_imul C dL_law_20 ?_
      refine cS2s C Y (c_L_cell hL (k := 3 * (k : Int)) (by omega)) (va_cwS 2 hts gL_law_L_cell rfl rfl rfl (by decide +kernel) ⟨Nat.le_of_ble_eq_true rfl, Nat.le_of_ble_eq_true rfl⟩) rfl dL_law_21 ⟨by show _ ≤ 600130; omega, by show _ ≤ 7301080; omega⟩ (fun r21 => ?_)
      refine aw_ldc (v := 2147483647) C (hts (.constant RL 91 (zI 2147483647)) (by decide +kernel)) dL_law_24 ?_
      refine aw_iand (z := (zI r21 &&& zI 2147483647).toInt) C dL_law_26 (zI_self _).symm ?_
      refine aw_aload_n C dL_law_27 rfl ?_
      refine aw_iconst C dL_law_28 ?_
      refine aw_iload_n C dL_law_29 rfl ?_
      refine aw_imul C dL_law_30 ?_
      refine aw_iconst C dL_law_31 ?_
      refine aw_iadd C dL_law_32 ?_
      refine cS2s C Y (c_L_cell hL (k := 3 * (k : Int) + 1) (by omega)) (va_cwS 2 hts gL_law_L_cell rfl rfl rfl (by decide +kernel) ⟨Nat.le_of_ble_eq_true rfl, Nat.le_of_ble_eq_true rfl⟩) rfl dL_law_33 ⟨by show _ ≤ 600130; omega, by show _ ≤ 7301080; omega⟩ (fun r33 => ?_)
      refine aw_ldc (v := 2147483647) C (hts (.constant RL 91 (zI 2147483647)) (by decide +kernel)) dL_law_36 ?_
      refine aw_iand (z := (zI r33 &&& zI 2147483647).toInt) C dL_law_38 (zI_self _).symm ?_
      refine aw_aload_n C dL_law_39 rfl ?_
      refine aw_iconst C dL_law_40 ?_
      refine aw_iload_n C dL_law_41 rfl ?_
      refine aw_imul C dL_law_42 ?_
      refine aw_iconst C dL_law_43 ?_
      refine aw_iadd C dL_law_44 ?_
      refine cS2s C Y (c_L_cell hL (k := 3 * (k : Int) + 2) (by omega)) (va_cwS 2 hts gL_law_L_cell rfl rfl rfl (by decide +kernel) ⟨Nat.le_of_ble_eq_true rfl, Nat.le_of_ble_eq_true rfl⟩) rfl dL_law_45 ⟨by show _ ≤ 600130; omega, by show _ ≤ 7301080; omega⟩ (fun r45 => ?_)
      refine aw_ldc (v := 2147483647) C (hts (.constant RL 91 (zI 2147483647)) (by decide +kernel)) dL_law_48 ?_
      refine aw_iand (z := (zI r45 &&& zI 2147483647).toInt) C dL_law_50 (zI_self _).symm ?_
      refine cM4 C X (c_L_round X.1 hI) (va_cwS 4 hts gL_law_L_round rfl rfl rfl (by decide +kernel) ⟨Nat.le_of_ble_eq_true rfl, Nat.le_of_ble_eq_true rfl⟩) rfl dL_law_51 ⟨by show _ ≤ 600130; omega, by show _ ≤ 7301080; omega⟩ (fun r51 u51 q51 => ?_)
      obtain ⟨rfl, S7, P7, rfl, hI7⟩ := q51
      refine aw_if_ne (tgt := 59) C dL_law_54 (by decide) (by decide) (fun c54 => ?_) (fun h => absurd h (by decide))
      refine aw_iinc C dL_law_59 rfl rfl rfl ?_
      refine aw_goto (tgt := 10) C dL_law_62 (by decide) ?_
      exact ih (k + 1) S7 P7 _ _ (by omega) (by omega) hI7 (by omega) (by omega)
set_option maxHeartbeats 8000000 in
set_option maxRecDepth 100000 in
/-- the law's body: one making, then eight rounds -/
theorem law_body {p : Program} {l : Launch} {e : Env} {s : State} {m : MethodId} {args : Array Value} {below : List Frame} {meth : Method} {c : Code} {G : va_G × (Nat → ClassId)} {A : Nat → Prop} {Q : State → Prop} {sa : Nat → Nat} {b L : Nat} {xs : Nat → Int32} (C : cx p l s m args meth c cL_law 3 (some .boolean) wsL_law RL G A s.heap) (X : XN l s sa A) (Y : XS b L xs s A) (hM : NK s) (KE : ∀ (ws : va_W) (lv : List (Nat × Value)) (cells slots : Nat), cells ≤ 600130 → slots ≤ 7301080 → AW p l e room_1 s m args below meth c 3 G A s.heap cells slots Q ws lv 65 []) : AW p l e room_1 s m args below meth c 3 G A s.heap 0 0 Q [] [(0, .ref b)] 0 [] := by
  have hts := C.2.2.2.2.1
  have hN : NX s := X.2.1.1
  refine aw_new (ci := 2) (fs := [.null, .null, .null, .null, .null, .null, .int (zI 0), .int (zI 0), .int (zI 0), .int (zI 0), .int (zI 0), .int (zI 0), .int (zI 0), .int (zI 0), .int (zI 0), .int (zI 0), .int (zI 0)]) (Cn := RX2) (T := TX2) (N := 17) C inlX2 tyX2_ok (hts (.classLink RL 9 RX2) (by decide +kernel)) (hts (.instantiable RX2 17) (by decide +kernel)) (hts (.initialized RX2) (by decide +kernel)) rfl (fun j hj => by rcases (show j = 0 ∨ j = 1 ∨ j = 2 ∨ j = 3 ∨ j = 4 ∨ j = 5 ∨ j = 6 ∨ j = 7 ∨ j = 8 ∨ j = 9 ∨ j = 10 ∨ j = 11 ∨ j = 12 ∨ j = 13 ∨ j = 14 ∨ j = 15 ∨ j = 16 by omega) with rfl | rfl | rfl | rfl | rfl | rfl | rfl | rfl | rfl | rfl | rfl | rfl | rfl | rfl | rfl | rfl | rfl <;> rfl) dL_law_0 rfl rfl (fun x => ?_)
  refine aw_dup C dL_law_3 rfl ?_
  refine aw_swap ?_
  refine aw_cI C hN hM (c_X2_init (h0 := x)) (by exact cwI 0 hts gL_law_X2_init rfl rfl rfl (hts (.initialized RX2) (by decide +kernel)) (hts (.methodLink RL 86 yX2_init) (by decide +kernel)) (hts (.instanceMethod yX2_init) (by decide +kernel)) rfl (by decide +kernel) ⟨Nat.le_of_ble_eq_true rfl, Nat.le_of_ble_eq_true rfl⟩) rfl dL_law_4 ⟨rfl, rfl⟩ (fun u q => ?_)
  obtain ⟨ad, rfl, rfl⟩ := q
  rw [List.append_nil]
  refine aw_astore_n C dL_law_7 rfl rfl ?_
  refine aw_iconst C dL_law_8 ?_
  refine aw_istore_n C dL_law_9 rfl rfl ?_
  exact law_loop C X Y KE 9 0 S00 P00 _ _ (by omega) (by omega) inv_00 (by omega) (by omega)
set_option maxHeartbeats 4000000 in
/-- from the entry, for every script of at most 260 ints, the law comes to its end with true -/
theorem whole_start {p : Program} {e : Env} {s : State} {m : MethodId} {below : List Frame} {meth : Method} {c : Code} (l : Launch) (hflags : l.flags = flags0) {b L : Nat} {xs : Nat → Int32} (hL : L ≤ 260) (C0 : lw_At p s m meth c b L xs) : W p l e room_1 s m #[Value.ref b] below meth c s.heap [] 0 0 (lw_Z below #[Value.ref b] s) (entryFrame m ([Value.ref b] : List Value).toArray 3) := by
  obtain ⟨hx, hb, hr, hml, hown, htt, hX, hbl, hlocks, hg⟩ := C0
  have hts : ∀ w ∈ wsL_law, w.before #[Value.ref b] s = true := fun w h => htt w (wsL_law_in w h)
  have hl : l.stackTraces = false := by
    unfold Launch.stackTraces
    rw [hflags]
    decide +kernel
  obtain ⟨G, hK⟩ := law_known hts htt
  have hown2 : s.vm.findClass RX2 = some (G.1.1 2) := (hK.1 2 _ rfl).2.1
  have C : cx p l s m #[Value.ref b] meth c cL_law 3 (some .boolean) wsL_law RL G (fun q => s.heap.size ≤ q) s.heap := ⟨hx, hb, hml, hown, hts, hK, fun _ h => h, hlocks, hr⟩
  have X : XN l s (saU s) (fun q => s.heap.size ≤ q) := ⟨hl, law_NT hown2 htt, law_ZQ htt hg⟩
  have Y : XS b L xs s (fun q => s.heap.size ≤ q) := ⟨hX, hbl, Nat.not_le.mpr hbl, hL⟩
  rw [lg_entry_eq]
  refine law_body C X Y (law_NK htt) (fun ws lv cells slots hc hs => ?_) s.heap [] _ (fun k q h => (by cases h)) ⟨fun i j p q h => (by cases h), fun k q h => (by cases h)⟩ va_S.rf (lv_entry [.ref b] (Nat.le_of_ble_eq_true rfl))
  refine aw_iconst C dL_law_65 ?_
  intro H locs ls hP hD hS hl9
  refine va_forget hS.2.2 (W.widen hc hs ?_)
  exact lw_ret hx hb hr hlocks dL_law_66
