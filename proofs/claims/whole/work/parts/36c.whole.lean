set_option maxHeartbeats 8000000 in
set_option maxRecDepth 100000 in
/-- the law's body: two makings, the row for the answers, the loop -/
theorem law_body {p : Program} {l : Launch} {e : Env} {s : State} {m : MethodId} {args : Array Value} {below : List Frame} {meth : Method} {c : Code} {G : va_G × (Nat → ClassId)} {A : Nat → Prop} {Q : State → Prop} {sa : Nat → Nat} {b L : Nat} {xs : Nat → Int32} (C : cx p l s m args meth c cL_law 7 (some .boolean) wsL_law RL G A s.heap) (X : XL l s sa A b L xs) (hM : NK s)
    (KE : ∀ (ws : va_W) (lv : List (Nat × Value)) (cells slots : Nat), cells ≤ 601024 → slots ≤ 7293034 → AW p l e room_1 s m args below meth c 7 G A s.heap cells slots Q ws lv 1263 []) : AW p l e room_1 s m args below meth c 7 G A s.heap 0 0 Q [] [(0, .ref b)] 0 [] := by
  have hts := C.2.2.2.2.1
  have hN : NX s := X.2.1.1
  refine aw_new (ci := 2) (fs := [.null, .null, .null, .null, .null, .null, .int (zI 0), .int (zI 0), .int (zI 0), .int (zI 0), .int (zI 0), .int (zI 0), .int (zI 0), .int (zI 0), .int (zI 0), .int (zI 0), .int (zI 0)]) (Cn := RX2) (T := TX2) (N := 17) C inlX2 tyX2_ok (hts (.classLink RL 8 RX2) (by decide +kernel)) (hts (.instantiable RX2 17) (by decide +kernel)) (hts (.initialized RX2) (by decide +kernel)) rfl (fun j hj => by rcases (show j = 0 ∨ j = 1 ∨ j = 2 ∨ j = 3 ∨ j = 4 ∨ j = 5 ∨ j = 6 ∨ j = 7 ∨ j = 8 ∨ j = 9 ∨ j = 10 ∨ j = 11 ∨ j = 12 ∨ j = 13 ∨ j = 14 ∨ j = 15 ∨ j = 16 by omega) with rfl | rfl | rfl | rfl | rfl | rfl | rfl | rfl | rfl | rfl | rfl | rfl | rfl | rfl | rfl | rfl | rfl <;> rfl) dL_law_0 rfl rfl (fun x => ?_)
  refine aw_dup C dL_law_3 rfl ?_
  refine aw_swap ?_
  refine aw_cI C hN hM (c_X2_init (h0 := x)) (by exact cwI 0 hts gL_law_X2_init rfl rfl rfl (hts (.initialized RX2) (by decide +kernel)) (hts (.methodLink RL 77 yX2_init) (by decide +kernel)) (hts (.instanceMethod yX2_init) (by decide +kernel)) rfl (by decide +kernel) ⟨Nat.le_of_ble_eq_true rfl, Nat.le_of_ble_eq_true rfl⟩) rfl dL_law_4 ⟨rfl, rfl⟩ (fun u q => ?_)
  obtain ⟨ad, rfl, rfl⟩ := q
  refine aw_astore_n C dL_law_7 rfl rfl ?_
  refine aw_new (ci := 3) (fs := [.int (zI 0), .int (zI 0), .int (zI 0), .int (zI 0), .int (zI 0), .null, .null, .int (zI 0), .null, .null, .null, .int (zI 0), .int (zI 0), .int (zI 0), .int (zI 0), .int (zI 0), .null, .null, .int (zI 0)]) (Cn := RX3) (T := TX3) (N := 19) C inlX3 tyX3_ok (hts (.classLink RL 78 RX3) (by decide +kernel)) (hts (.instantiable RX3 19) (by decide +kernel)) (hts (.initialized RX3) (by decide +kernel)) rfl (fun j hj => by rcases (show j = 0 ∨ j = 1 ∨ j = 2 ∨ j = 3 ∨ j = 4 ∨ j = 5 ∨ j = 6 ∨ j = 7 ∨ j = 8 ∨ j = 9 ∨ j = 10 ∨ j = 11 ∨ j = 12 ∨ j = 13 ∨ j = 14 ∨ j = 15 ∨ j = 16 ∨ j = 17 ∨ j = 18 by omega) with rfl | rfl | rfl | rfl | rfl | rfl | rfl | rfl | rfl | rfl | rfl | rfl | rfl | rfl | rfl | rfl | rfl | rfl | rfl <;> rfl) dL_law_8 rfl rfl (fun x => ?_)
  refine aw_dup C dL_law_11 rfl ?_
  refine aw_swap ?_
  refine aw_cI C hN hM (c_X3_init (h0 := x)) (by exact cwI 0 hts gL_law_X3_init rfl rfl rfl (hts (.initialized RX3) (by decide +kernel)) (hts (.methodLink RL 80 yX3_init) (by decide +kernel)) (hts (.instanceMethod yX3_init) (by decide +kernel)) rfl (by decide +kernel) ⟨Nat.le_of_ble_eq_true rfl, Nat.le_of_ble_eq_true rfl⟩) rfl dL_law_12 ⟨rfl, rfl⟩ (fun u q => ?_)
  obtain ⟨am, PM, rfl, rfl⟩ := q
  refine aw_astore_n C dL_law_15 rfl rfl ?_
  refine aw_iconst C dL_law_16 ?_
  refine aw_newL C (hts (.arrayClass .long) (by decide +kernel)) dL_law_17 rfl rfl (fun o => ?_)
  refine aw_perm [8, 9, 10, 11, 12, 13, 14, 15, 16, 17, 18, 19, 20, 21, 22, 23, 24, 25, 26, 27, 28, 29, 30, 31, 32, 33, 34, 35, 36, 0, 1, 2, 3, 4, 5, 6, 7] (ws' := (WX G.2 ad S00 P00 ++ [oL G.2 o (fun _ => 0)]) ++ WM G.2 am S00 PM) (by decide) rfl ?_
  refine aw_astore_n C dL_law_19 rfl rfl ?_
  refine aw_iconst C dL_law_20 ?_
  refine aw_istore C dL_law_21 rfl rfl ?_
  have hL : L ≤ 2048 := X.2.2.2.2.2.2.2
  exact law_loop C X KE 2049 0 S00 P00 PM (fun _ => 0) _ _ inv_00 (by omega) (by omega) (by omega) (by decide) (by decide)
set_option maxHeartbeats 4000000 in
/-- YOUR PART: from the entry, for every script of at most 2048 ints, the law comes to its end with true -/
theorem whole_start {p : Program} {e : Env} {s : State} {m : MethodId} {below : List Frame} {meth : Method} {c : Code} (l : Launch) (hflags : l.flags = flags0) {b L : Nat} {xs : Nat → Int32} (hL : L ≤ 2048) (C0 : lw_At p s m meth c b L xs) : W p l e room_1 s m #[Value.ref b] below meth c s.heap [] 0 0 (lw_Z below #[Value.ref b] s) (entryFrame m ([Value.ref b] : List Value).toArray 7) := by
  obtain ⟨hx, hb, hr, hml, hown, htt, hX, hbl, hlocks, hg⟩ := C0
  have hts : ∀ w ∈ wsL_law, w.before #[Value.ref b] s = true := fun w h => htt w (wsL_law_in w h)
  have hl : l.stackTraces = false := by
    unfold Launch.stackTraces
    rw [hflags]
    decide +kernel
  obtain ⟨G, hK⟩ := law_known hts htt
  have hown2 : s.vm.findClass RX2 = some (G.1.1 2) := (hK.1 2 _ rfl).2.1
  have C : cx p l s m #[Value.ref b] meth c cL_law 7 (some .boolean) wsL_law RL G (fun q => s.heap.size ≤ q) s.heap := ⟨hx, hb, hml, hown, hts, hK, fun _ h => h, hlocks, hr⟩
  have X : XL l s (saU s) (fun q => s.heap.size ≤ q) b L xs := ⟨hl, law_NT hown2 htt, law_ZQ htt hg, law_NH hg, hX, hbl, Nat.not_le.mpr hbl, hL⟩
  rw [lg_entry_eq]
  refine law_body C X (law_NK htt) (fun ws lv cells slots hc hs => ?_) s.heap [] _ (fun k q h => (by cases h)) ⟨fun i j p q h => (by cases h), fun k q h => (by cases h)⟩ va_S.rf (lv_entry [.ref b] (Nat.le_of_ble_eq_true rfl))
  refine aw_iconst C dL_law_1263 ?_
  intro H locs ls hP hD hS hl9
  refine va_forget hS.2.2 (W.widen hc hs ?_)
  exact lw_ret hx hb hr hlocks dL_law_1264
