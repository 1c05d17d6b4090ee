theorem clN_z (S : St) (h : ∀ b j, S.2 b j = 0) : ∀ (n b : Nat) (j : Int), (clN S n).2 b j = 0
  | 0, b, j => h b j
  | n + 1, b, j => by
    show (ua (clN S n) 0 n 0).2 b j = 0
    by_cases e : b = 0
    · subst e
      rw [ua_s, clN_z S h n 0 j]
      split <;> rfl
    · rw [ua_n _ _ _ _ _ e]
      exact clN_z S h n b j
theorem lay_00 : fogS (us (us (us P00 0 3) 1 4) 2 3) = S00 := by
  have cl := clN_0 (us (us (us P00 0 3) 1 4) 2 3) 5
  refine Prod.ext ?_ (funext fun b => funext fun j => clN_z _ (fun _ _ => rfl) 5 b j)
  have g : (fogS (us (us (us P00 0 3) 1 4) 2 3)).1 = (us (us (us (us (us (us (us (us (us (us P00 0 3) 1 4) 2 3) 5 0) 6 0) 7 0) 8 (-1)) 9 0) 10 0) 11 (-1)).1 := us_cong (us_cong (us_cong (us_cong (us_cong (us_cong (us_cong cl.1 5 0) 6 0) 7 0) 8 (-1)) 9 0) 10 0) 11 (-1)
  rw [g]
  funext k
  match k with
  | 0 => rfl
  | 1 => rfl
  | 2 => rfl
  | 3 => rfl
  | 4 => rfl
  | 5 => rfl
  | 6 => rfl
  | 7 => rfl
  | 8 => rfl
  | 9 => rfl
  | 10 => rfl
  | 11 => rfl
  | _ + 12 => rfl
set_option maxHeartbeats 4000000 in
set_option maxRecDepth 100000 in
theorem c_X3_init {l : Launch} {G : va_G × (Nat → ClassId)} {h0 : Nat} : Mc l G yX3_init wsX3_init ({ frames := 1, cells := 7, slots := 3338, locals := 24 } : Room) [.ref h0] [(h0, .inr (3, [.int (zI 0), .int (zI 0), .int (zI 0), .int (zI 0), .int (zI 0), .null, .null, .int (zI 0), .null, .null, .null, .int (zI 0), .int (zI 0), .int (zI 0), .int (zI 0), .int (zI 0), .null, .null, .int (zI 0)]))] (fun u => ∃ (am : Nat → Nat) (P9 : St), am 0 = h0 ∧ u = WM G.2 am S00 P9) 7 3338 := by
  refine Mc.of (own := RX3) (cc := cX3_init) (maxL := 1) (ret := none) (by decide) rfl rfl rfl ?_
  intro p e s m args below meth c A C hN hM hnm
  have hts := C.2.2.2.2.1
  have iFX3 : ∀ w ∈ u_ws RX3 TX3 19, w ∈ wsX3_init := by decide +kernel
  have k_7 := hts (.fieldLink RX3 7 "PaintSequencerModel" "row" "[I") (by decide +kernel)
  have k_13 := hts (.fieldLink RX3 13 "PaintSequencerModel" "size" "[I") (by decide +kernel)
  have k_16 := hts (.fieldLink RX3 16 "PaintSequencerModel" "colours" "[I") (by decide +kernel)
  have k_19 := hts (.fieldLink RX3 19 "PaintSequencerModel" "places" "[I") (by decide +kernel)
  have k_22 := hts (.fieldLink RX3 22 "PaintSequencerModel" "order" "[I") (by decide +kernel)
  have k_25 := hts (.fieldLink RX3 25 "PaintSequencerModel" "weights" "[I") (by decide +kernel)
  have k_28 := hts (.fieldLink RX3 28 "PaintSequencerModel" "least" "[I") (by decide +kernel)
  refine aw_aload_n C dX3_init_0 rfl ?_
  refine aw_objinit C (hts (.methodLink RX3 1 objectInit) (by decide +kernel)) (hts (.instanceMethod objectInit) (by decide +kernel)) (hts _ (List.mem_cons_of_mem _ (List.mem_append_left _ (List.mem_append_left _ (List.mem_of_getElem? (i := 2) rfl))))) dX3_init_1 rfl rfl ?_
  refine aw_aload_n C dX3_init_4 rfl ?_
  refine aw_bipush C dX3_init_5 rfl ?_
  refine aw_newI (N := 30) C rfl rfl (hts (.arrayClass .int) (by decide +kernel)) dX3_init_7 rfl rfl (fun q1 => ?_)
  refine aw_putF (q0 := 0) (k := 5) C iFX3 tyX3_ok nmX3 k_7 rfl rfl rfl rfl hnm rfl rfl rfl rfl rfl dX3_init_9 ?_
  refine aw_aload_n C dX3_init_12 rfl ?_
  refine aw_iconst C dX3_init_13 ?_
  refine aw_newI (N := 5) C rfl rfl (hts (.arrayClass .int) (by decide +kernel)) dX3_init_14 rfl rfl (fun q2 => ?_)
  refine aw_putF (q0 := 0) (k := 6) C iFX3 tyX3_ok nmX3 k_13 rfl rfl rfl rfl hnm rfl rfl rfl rfl rfl dX3_init_16 ?_
  refine aw_aload_n C dX3_init_19 rfl ?_
  refine aw_bipush C dX3_init_20 rfl ?_
  refine aw_newI (N := 99) C rfl rfl (hts (.arrayClass .int) (by decide +kernel)) dX3_init_22 rfl rfl (fun q3 => ?_)
  refine aw_putF (q0 := 0) (k := 8) C iFX3 tyX3_ok nmX3 k_16 rfl rfl rfl rfl hnm rfl rfl rfl rfl rfl dX3_init_24 ?_
  refine aw_aload_n C dX3_init_27 rfl ?_
  refine aw_bipush C dX3_init_28 rfl ?_
  refine aw_newI (N := 99) C rfl rfl (hts (.arrayClass .int) (by decide +kernel)) dX3_init_30 rfl rfl (fun q4 => ?_)
  refine aw_putF (q0 := 0) (k := 9) C iFX3 tyX3_ok nmX3 k_19 rfl rfl rfl rfl hnm rfl rfl rfl rfl rfl dX3_init_32 ?_
  refine aw_aload_n C dX3_init_35 rfl ?_
  refine aw_bipush C dX3_init_36 rfl ?_
  refine aw_newI (N := 99) C rfl rfl (hts (.arrayClass .int) (by decide +kernel)) dX3_init_38 rfl rfl (fun q5 => ?_)
  refine aw_putF (q0 := 0) (k := 10) C iFX3 tyX3_ok nmX3 k_22 rfl rfl rfl rfl hnm rfl rfl rfl rfl rfl dX3_init_40 ?_
  refine aw_aload_n C dX3_init_43 rfl ?_
  refine aw_bipush C dX3_init_44 rfl ?_
  refine aw_newI (N := 6) C rfl rfl (hts (.arrayClass .int) (by decide +kernel)) dX3_init_46 rfl rfl (fun q6 => ?_)
  refine aw_putF (q0 := 0) (k := 16) C iFX3 tyX3_ok nmX3 k_25 rfl rfl rfl rfl hnm rfl rfl rfl rfl rfl dX3_init_48 ?_
  refine aw_aload_n C dX3_init_51 rfl ?_
  refine aw_sipush C dX3_init_52 rfl ?_
  refine aw_newI (N := 3000) C rfl rfl (hts (.arrayClass .int) (by decide +kernel)) dX3_init_55 rfl rfl (fun q7 => ?_)
  refine aw_putF (q0 := 0) (k := 17) C iFX3 tyX3_ok nmX3 k_28 rfl rfl rfl rfl hnm rfl rfl rfl rfl rfl dX3_init_57 ?_
  refine aw_aload_n C dX3_init_60 rfl ?_
  refine aw_iconst C dX3_init_61 ?_
  refine aw_iconst C dX3_init_62 ?_
  refine aw_iconst C dX3_init_63 ?_
  refine aw_perm [0, 1, 2, 3, 4, 5, 6, 7] (ws' := WM G.2 (adL [h0, q1, q2, q3, q4, q5, q6, q7]) P00 P00) (by decide) rfl ?_
  refine cV3v (ci := 3) (q0 := 0) C hN (c_X3_lay (am := adL [h0, q1, q2, q3, q4, q5, q6, q7]) (S := P00) (P := P00) (a := 3) (b := 4) (d := 3)) (by exact cwV 3 hts gX3_init_X3_lay rfl rfl rfl (by decide +kernel) ⟨Nat.le_of_ble_eq_true rfl, Nat.le_of_ble_eq_true rfl⟩) rfl rfl rfl rfl dX3_init_64 ⟨Nat.le_of_ble_eq_true rfl, Nat.le_of_ble_eq_true rfl⟩ (fun u q => ?_)
  obtain rfl := q
  rw [lay_00]
  exact aw_vretC C dX3_init_67 ⟨_, _, rfl, rfl⟩
