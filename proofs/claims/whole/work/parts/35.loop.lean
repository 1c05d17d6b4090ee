/-! THE LAW'S LOOP -/
set_option maxHeartbeats 4000000 in
set_option maxRecDepth 100000 in
theorem law_loop {p : Program} {l : Launch} {e : Env} {s : State} {m : MethodId} {args : Array Value} {below : List Frame} {meth : Method} {c : Code} {G : va_G × (Nat → ClassId)} {A : Nat → Prop} {Q : State → Prop} {sa : Nat → Nat} {b L : Nat} {xs : Nat → Int32} {ad am : Nat → Nat} {o : Nat} (C : cx p l s m args meth c cL_law 7 (some .boolean) wsL_law RL G A s.heap) (X : XL l s sa A b L xs)
    (KE : ∀ (ws : va_W) (lv : List (Nat × Value)) (cells slots : Nat), cells ≤ 601024 → slots ≤ 7293034 → AW p l e room_1 s m args below meth c 7 G A s.heap cells slots Q ws lv 1263 []) :
    ∀ (n : Nat) (i : Int) (S P PM : St) (f : Nat → Int64) (cells slots : Nat), Inv2 S → 0 ≤ i → (L : Int) - i < n → i ≤ 4096 → cells + n ≤ 601024 → slots + 6 * n ≤ 7293034 → AW p l e room_1 s m args below meth c 7 G A s.heap cells slots Q ((WX G.2 ad S P ++ [oL G.2 o f]) ++ WM G.2 am S PM) [(0, .ref b), (1, .ref (ad 0)), (2, .ref (am 0)), (3, .ref o), (4, .int (zI i))] 23 [] := by
  have hL : L ≤ 2048 := X.2.2.2.2.2.2.2
  intro n
  induction n with
  | zero =>
    intro i S P PM f cells slots hI h0 hn h9 hc hs
    refine aw_iload C dL_law_23 rfl ?_
    refine aw_aload_n C dL_law_25 rfl ?_
    refine aw_slen C X dL_law_26 ?_
    refine aw_iconst C dL_law_27 ?_
    refine aw_isub C dL_law_28 ?_
    exact aw_icmp_gt (tgt := 1263) C dL_law_29 (by decide) (by omega) (by omega) (fun _ => KE _ _ _ _ (by omega) (by omega)) (fun h => absurd h (by omega))
  | succ n ih =>
    intro i S P PM f cells slots hI h0 hn h9 hc hs
    refine aw_iload C dL_law_23 rfl ?_
    refine aw_aload_n C dL_law_25 rfl ?_
    refine aw_slen C X dL_law_26 ?_
    refine aw_iconst C dL_law_27 ?_
    refine aw_isub C dL_law_28 ?_
    refine aw_icmp_gt (tgt := 1263) C dL_law_29 (by decide) (by omega) (by omega) (fun _ => KE _ _ _ _ (by omega) (by omega)) (fun h => ?_)
    have h4 : i + 4 ≤ (L : Int) := by omega
    have hf : cells + 1 ≤ room_1.cells ∧ slots + 6 ≤ room_1.slots := ⟨by show cells + 1 ≤ 601024; omega, by show slots + 6 ≤ 7293034; omega⟩
    have K : ∀ (S1 P1 PM1 : St) (f1 : Nat → Int64), Inv2 S1 → AW p l e room_1 s m args below meth c 7 G A s.heap (cells + 1) (slots + 6) Q ((WX G.2 ad S1 P1 ++ [oL G.2 o f1]) ++ WM G.2 am S1 PM1) [(0, .ref b), (1, .ref (ad 0)), (2, .ref (am 0)), (3, .ref o), (4, .int (zI i))] 1257 [] := fun S1 P1 PM1 f1 hI1 => by
      refine aw_iinc C dL_law_1257 rfl rfl rfl ?_
      refine aw_goto (tgt := 23) C dL_law_1260 (by decide) ?_
      exact ih (i + 4) S1 P1 PM1 f1 (cells + 1) (slots + 6) hI1 (by omega) (by omega) (by omega) (by omega) (by omega)
    refine aw_aload_n C dL_law_32 rfl ?_
    refine aw_iload C dL_law_33 rfl ?_
    refine aw_sld C X h0 (by omega) dL_law_35 ?_
    refine aw_bipush C dL_law_36 rfl ?_
    refine aw_iand (z := (zI (xs i.toNat).toInt &&& zI 31).toInt) C dL_law_38 (zI_self _).symm ?_
    have hz := zI_rng (zI (xs i.toNat).toInt &&& zI 31)
    generalize (zI (xs i.toNat).toInt &&& zI 31).toInt = z at hz ⊢
    by_cases hr : 0 ≤ z ∧ z ≤ 23
    · rcases (show z = 0 ∨ z = 1 ∨ z = 2 ∨ z = 3 ∨ z = 4 ∨ z = 5 ∨ z = 6 ∨ z = 7 ∨ z = 8 ∨ z = 9 ∨ z = 10 ∨ z = 11 ∨ z = 12 ∨ z = 13 ∨ z = 14 ∨ z = 15 ∨ z = 16 ∨ z = 17 ∨ z = 18 ∨ z = 19 ∨ z = 20 ∨ z = 21 ∨ z = 22 ∨ z = 23 by omega) with rfl | rfl | rfl | rfl | rfl | rfl | rfl | rfl | rfl | rfl | rfl | rfl | rfl | rfl | rfl | rfl | rfl | rfl | rfl | rfl | rfl | rfl | rfl | rfl
      · exact aw_table C dL_law_39 hz (by omega) (by omega) rfl (by decide) (law_begin C X hI h0 h4 hf K)
      · exact aw_table C dL_law_39 hz (by omega) (by omega) rfl (by decide) (law_setRules C X hI h0 h4 hf K)
      · exact aw_table C dL_law_39 hz (by omega) (by omega) rfl (by decide) (law_arrive C X hI h0 h4 hf K)
      · exact aw_table C dL_law_39 hz (by omega) (by omega) rfl (by decide) (law_arriveIn C X hI h0 h4 hf K)
      · exact aw_table C dL_law_39 hz (by omega) (by omega) rfl (by decide) (law_release C X hI h0 h4 hf K)
      · exact aw_table C dL_law_39 hz (by omega) (by omega) rfl (by decide) (law_releaseFrom C X hI h0 h4 hf K)
      · exact aw_table C dL_law_39 hz (by omega) (by omega) rfl (by decide) (law_releaseBest C X hI h0 h4 hf K)
      · exact aw_table C dL_law_39 hz (by omega) (by omega) rfl (by decide) (law_sendBack C X hI h0 h4 hf K)
      · exact aw_table C dL_law_39 hz (by omega) (by omega) rfl (by decide) (law_reenter C X hI h0 h4 hf K)
      · exact aw_table C dL_law_39 hz (by omega) (by omega) rfl (by decide) (law_assemble C X hI h0 h4 hf K)
      · exact aw_table C dL_law_39 hz (by omega) (by omega) rfl (by decide) (law_bodies C X hI h0 h4 hf K)
      · exact aw_table C dL_law_39 hz (by omega) (by omega) rfl (by decide) (law_colour C X hI h0 h4 hf K)
      · exact aw_table C dL_law_39 hz (by omega) (by omega) rfl (by decide) (law_where C X hI h0 h4 hf K)
      · exact aw_table C dL_law_39 hz (by omega) (by omega) rfl (by decide) (law_inLane C X hI h0 h4 hf K)
      · exact aw_table C dL_law_39 hz (by omega) (by omega) rfl (by decide) (law_bodyAt C X hI h0 h4 hf K)
      · exact aw_table C dL_law_39 hz (by omega) (by omega) rfl (by decide) (law_block C X hI h0 h4 hf K)
      · exact aw_table C dL_law_39 hz (by omega) (by omega) rfl (by decide) (law_stored C X hI h0 h4 hf K)
      · exact aw_table C dL_law_39 hz (by omega) (by omega) rfl (by decide) (law_changes C X hI h0 h4 hf K)
      · exact aw_table C dL_law_39 hz (by omega) (by omega) rfl (by decide) (law_released C X hI h0 h4 hf K)
      · exact aw_table C dL_law_39 hz (by omega) (by omega) rfl (by decide) (law_assembledAt C X hI h0 h4 hf K)
      · exact aw_table C dL_law_39 hz (by omega) (by omega) rfl (by decide) (law_lateness C X hI h0 h4 hf K)
      · exact aw_table C dL_law_39 hz (by omega) (by omega) rfl (by decide) (law_worstLateness C X hI h0 h4 hf K)
      · exact aw_table C dL_law_39 hz (by omega) (by omega) rfl (by decide) (law_fewestChanges C X hI h0 h4 hf K)
      · exact aw_table C dL_law_39 hz (by omega) (by omega) rfl (by decide) (law_fewestByAll C X hI h0 h4 hf K)
    · refine aw_tableO (tgt := 1257) C dL_law_39 hz (by omega) (by decide) ?_
      exact aw_widen (Nat.le_succ _) (Nat.le_add_right _ _) (K S P PM f hI)
