set_option maxHeartbeats 4000000 in
set_option maxRecDepth 100000 in
theorem c_X3_isBody {l : Launch} {G : va_G × (Nat → ClassId)} {am : Nat → Nat} {S P : St} (hB : 0 ≤ S.1 5 ∧ S.1 5 ≤ 99) {b : Int} (hb : -2147483648 ≤ b ∧ b < 2147483648) : Mi l G yX3_isBody wsX3_isBody ({ frames := 1, cells := 0, slots := 0, locals := 22 } : Room) [.ref (am 0), .int (zI b)] (WM G.2 am S P) (fun r u => r = (if 0 ≤ b ∧ b < S.1 5 then 1 else 0) ∧ u = (WM G.2 am S P)) := by
  refine Mi.of (own := RX3) (cc := cX3_isBody) (maxL := 2) (ret := (some .boolean)) (by decide) rfl rfl rfl ?_
  intro p e s m args below meth c A C hN
  have hts := C.2.2.2.2.1
  have iFX3 : ∀ w ∈ u_ws RX3 TX3 19, w ∈ wsX3_isBody := by decide +kernel
  have k_48 := hts (.fieldLink RX3 48 "PaintSequencerModel" "many" "I") (by decide +kernel)
  refine aw_iload_n C dX3_isBody_0 rfl ?_
  refine aw_iconst C dX3_isBody_1 ?_
  refine aw_aload_n C dX3_isBody_2 rfl ?_
  refine aw_get (q0 := 0) (k := 7) C iFX3 k_48 rfl rfl rfl rfl dX3_isBody_3 ?_
  refine aw_iconst C dX3_isBody_6 ?_
  refine aw_isub C dX3_isBody_7 ?_
  refine cS3i C hN (c_X3_in (by omega) (by omega) (by omega)) (va_cwS 3 hts gX3_isBody_X3_in rfl rfl rfl (by decide +kernel) ⟨Nat.le_of_ble_eq_true rfl, Nat.le_of_ble_eq_true rfl⟩) rfl dX3_isBody_8 ⟨Nat.zero_le _, Nat.zero_le _⟩ (fun r8 u8 q8 => ?_)
  obtain ⟨rfl, rfl⟩ := q8
  exact aw_zret C dX3_isBody_11 (by split <;> rfl) ⟨by by_cases h9 : 0 ≤ b ∧ b < S.1 5; rw [if_pos h9, if_pos (by omega)]; rw [if_neg h9, if_neg (by omega)], rfl⟩
set_option maxHeartbeats 4000000 in
set_option maxRecDepth 100000 in
theorem c_X3_begin {l : Launch} {G : va_G × (Nat → ClassId)} {am : Nat → Nat} {S P : St} {a b d : Int} (ha : -2147483648 ≤ a ∧ a < 2147483648) (hb : -2147483648 ≤ b ∧ b < 2147483648) (hd : -2147483648 ≤ d ∧ d < 2147483648) : Mi l G yX3_begin wsX3_begin ({ frames := 1, cells := 0, slots := 0, locals := 24 } : Room) [.ref (am 0), .int (zI a), .int (zI b), .int (zI d)] (WM G.2 am S P) (fun r u => ∃ P9 : St, P9.1 0 = kBeg a b d ∧ ((kBeg a b d = 0 ∧ r = S.1 5 ∧ u = WM G.2 am (sBeg S a b d) P9) ∨ (¬ kBeg a b d = 0 ∧ u = WM G.2 am S P9))) := by
  refine Mi.of (own := RX3) (cc := cX3_begin) (maxL := 5) (ret := (some .int)) (by decide) rfl rfl rfl ?_
  intro p e s m args below meth c A C hN
  have hts := C.2.2.2.2.1
  have iFX3 : ∀ w ∈ u_ws RX3 TX3 19, w ∈ wsX3_begin := by decide +kernel
  have k_35 := hts (.fieldLink RX3 35 "PaintSequencerModel" "thrown" "I") (by decide +kernel)
  have k_48 := hts (.fieldLink RX3 48 "PaintSequencerModel" "many" "I") (by decide +kernel)
  refine aw_aload_n C dX3_begin_0 rfl ?_
  refine aw_iconst C dX3_begin_1 ?_
  refine aw_put (q0 := 0) (k := 18) C iFX3 tyX3_ok nmX3 k_35 rfl rfl rfl rfl rfl rfl (wm_f18 _ _ _ _ _) dX3_begin_2 ?_
  refine aw_iload_n C dX3_begin_5 rfl ?_
  refine aw_iconst C dX3_begin_6 ?_
  refine aw_iconst C dX3_begin_7 ?_
  refine cS3i C hN (c_X3_in (by omega) (by omega) (by omega)) (va_cwS 3 hts gX3_begin_X3_in rfl rfl rfl (by decide +kernel) ⟨Nat.le_of_ble_eq_true rfl, Nat.le_of_ble_eq_true rfl⟩) rfl dX3_begin_8 ⟨Nat.zero_le _, Nat.zero_le _⟩ (fun r8 u8 q8 => ?_)
  obtain ⟨rfl, rfl⟩ := q8
  refine aw_if_eq (tgt := 34) C dX3_begin_11 (by decide) (by split <;> omega) (fun c11 => ?_) (fun c11 => ?_)
  · have d11 := ite_f c11
    refine aw_aload_n C dX3_begin_34 rfl ?_
    refine aw_iconst C dX3_begin_35 ?_
    refine cV1i (ci := 3) (q0 := 0) C hN (c_X3_fails) (cwV 1 hts gX3_begin_X3_fails rfl rfl rfl (by decide +kernel) ⟨Nat.le_of_ble_eq_true rfl, Nat.le_of_ble_eq_true rfl⟩) rfl rfl rfl rfl dX3_begin_36 ⟨Nat.zero_le _, Nat.zero_le _⟩ (fun r36 u36 q36 => ?_)
    obtain ⟨rfl, rfl⟩ := q36
    exact aw_iret C dX3_begin_39 ⟨us (us P 0 0) 0 1, Eq.trans (show (us (us P 0 0) 0 1).1 0 = 1 from rfl) (show kBeg a b d = 1 from by unfold kBeg; first | rw [if_pos (by omega)] | rw [if_neg (by omega), if_pos (by omega)] | rw [if_neg (by omega), if_neg (by omega), if_pos (by omega)] | rw [if_neg (by omega), if_neg (by omega), if_neg (by omega), if_pos (by omega)] | rw [if_neg (by omega), if_neg (by omega), if_neg (by omega), if_neg (by omega)] | rw [if_neg (by omega), if_neg (by omega), if_neg (by omega)] | rw [if_neg (by omega), if_neg (by omega)] | rw [if_neg (by omega)]).symm, Or.inr ⟨by have h0 := (show kBeg a b d = 1 from by unfold kBeg; first | rw [if_pos (by omega)] | rw [if_neg (by omega), if_pos (by omega)] | rw [if_neg (by omega), if_neg (by omega), if_pos (by omega)] | rw [if_neg (by omega), if_neg (by omega), if_neg (by omega), if_pos (by omega)] | rw [if_neg (by omega), if_neg (by omega), if_neg (by omega), if_neg (by omega)] | rw [if_neg (by omega), if_neg (by omega), if_neg (by omega)] | rw [if_neg (by omega), if_neg (by omega)] | rw [if_neg (by omega)]); omega, rfl⟩⟩
  · have d11 := ite_t c11
    refine aw_iload_n C dX3_begin_14 rfl ?_
    refine aw_iconst C dX3_begin_15 ?_
    refine aw_bipush C dX3_begin_16 rfl ?_
    refine cS3i C hN (c_X3_in (by omega) (by omega) (by omega)) (va_cwS 3 hts gX3_begin_X3_in rfl rfl rfl (by decide +kernel) ⟨Nat.le_of_ble_eq_true rfl, Nat.le_of_ble_eq_true rfl⟩) rfl dX3_begin_18 ⟨Nat.zero_le _, Nat.zero_le _⟩ (fun r18 u18 q18 => ?_)
    obtain ⟨rfl, rfl⟩ := q18
    refine aw_if_eq (tgt := 34) C dX3_begin_21 (by decide) (by split <;> omega) (fun c21 => ?_) (fun c21 => ?_)
    · have d21 := ite_f c21
      refine aw_aload_n C dX3_begin_34 rfl ?_
      refine aw_iconst C dX3_begin_35 ?_
      refine cV1i (ci := 3) (q0 := 0) C hN (c_X3_fails) (cwV 1 hts gX3_begin_X3_fails rfl rfl rfl (by decide +kernel) ⟨Nat.le_of_ble_eq_true rfl, Nat.le_of_ble_eq_true rfl⟩) rfl rfl rfl rfl dX3_begin_36 ⟨Nat.zero_le _, Nat.zero_le _⟩ (fun r36 u36 q36 => ?_)
      obtain ⟨rfl, rfl⟩ := q36
      exact aw_iret C dX3_begin_39 ⟨us (us P 0 0) 0 1, Eq.trans (show (us (us P 0 0) 0 1).1 0 = 1 from rfl) (show kBeg a b d = 1 from by unfold kBeg; first | rw [if_pos (by omega)] | rw [if_neg (by omega), if_pos (by omega)] | rw [if_neg (by omega), if_neg (by omega), if_pos (by omega)] | rw [if_neg (by omega), if_neg (by omega), if_neg (by omega), if_pos (by omega)] | rw [if_neg (by omega), if_neg (by omega), if_neg (by omega), if_neg (by omega)] | rw [if_neg (by omega), if_neg (by omega), if_neg (by omega)] | rw [if_neg (by omega), if_neg (by omega)] | rw [if_neg (by omega)]).symm, Or.inr ⟨by have h0 := (show kBeg a b d = 1 from by unfold kBeg; first | rw [if_pos (by omega)] | rw [if_neg (by omega), if_pos (by omega)] | rw [if_neg (by omega), if_neg (by omega), if_pos (by omega)] | rw [if_neg (by omega), if_neg (by omega), if_neg (by omega), if_pos (by omega)] | rw [if_neg (by omega), if_neg (by omega), if_neg (by omega), if_neg (by omega)] | rw [if_neg (by omega), if_neg (by omega), if_neg (by omega)] | rw [if_neg (by omega), if_neg (by omega)] | rw [if_neg (by omega)]); omega, rfl⟩⟩
    · have d21 := ite_t c21
      refine aw_iload_n C dX3_begin_24 rfl ?_
      refine aw_iconst C dX3_begin_25 ?_
      refine aw_bipush C dX3_begin_26 rfl ?_
      refine cS3i C hN (c_X3_in (by omega) (by omega) (by omega)) (va_cwS 3 hts gX3_begin_X3_in rfl rfl rfl (by decide +kernel) ⟨Nat.le_of_ble_eq_true rfl, Nat.le_of_ble_eq_true rfl⟩) rfl dX3_begin_28 ⟨Nat.zero_le _, Nat.zero_le _⟩ (fun r28 u28 q28 => ?_)
      obtain ⟨rfl, rfl⟩ := q28
      refine aw_if_ne (tgt := 40) C dX3_begin_31 (by decide) (by split <;> omega) (fun c31 => ?_) (fun c31 => ?_)
      · have d31 := ite_t c31
        refine aw_aload_n C dX3_begin_40 rfl ?_
        refine aw_get (q0 := 0) (k := 7) C iFX3 k_48 rfl rfl rfl rfl dX3_begin_41 ?_
        refine aw_istore C dX3_begin_44 rfl rfl ?_
        refine aw_aload_n C dX3_begin_46 rfl ?_
        refine aw_iload_n C dX3_begin_47 rfl ?_
        refine aw_iload_n C dX3_begin_48 rfl ?_
        refine aw_iload_n C dX3_begin_49 rfl ?_
        refine cV3v (ci := 3) (q0 := 0) C hN (c_X3_lay) (cwV 3 hts gX3_begin_X3_lay rfl rfl rfl (by decide +kernel) ⟨Nat.le_of_ble_eq_true rfl, Nat.le_of_ble_eq_true rfl⟩) rfl rfl rfl rfl dX3_begin_50 ⟨Nat.zero_le _, Nat.zero_le _⟩ (fun u50 q50 => ?_)
        obtain rfl := q50
        refine aw_iload C dX3_begin_53 rfl ?_
        exact aw_iret C dX3_begin_55 ⟨(us P 0 0), Eq.trans (show ((us P 0 0)).1 0 = 0 from rfl) (show kBeg a b d = 0 from by unfold kBeg; first | rw [if_pos (by omega)] | rw [if_neg (by omega), if_pos (by omega)] | rw [if_neg (by omega), if_neg (by omega), if_pos (by omega)] | rw [if_neg (by omega), if_neg (by omega), if_neg (by omega), if_pos (by omega)] | rw [if_neg (by omega), if_neg (by omega), if_neg (by omega), if_neg (by omega)] | rw [if_neg (by omega), if_neg (by omega), if_neg (by omega)] | rw [if_neg (by omega), if_neg (by omega)] | rw [if_neg (by omega)]).symm, Or.inl ⟨(show kBeg a b d = 0 from by unfold kBeg; first | rw [if_pos (by omega)] | rw [if_neg (by omega), if_pos (by omega)] | rw [if_neg (by omega), if_neg (by omega), if_pos (by omega)] | rw [if_neg (by omega), if_neg (by omega), if_neg (by omega), if_pos (by omega)] | rw [if_neg (by omega), if_neg (by omega), if_neg (by omega), if_neg (by omega)] | rw [if_neg (by omega), if_neg (by omega), if_neg (by omega)] | rw [if_neg (by omega), if_neg (by omega)] | rw [if_neg (by omega)]), rfl, rfl⟩⟩
      · have d31 := ite_f c31
        refine aw_aload_n C dX3_begin_34 rfl ?_
        refine aw_iconst C dX3_begin_35 ?_
        refine cV1i (ci := 3) (q0 := 0) C hN (c_X3_fails) (cwV 1 hts gX3_begin_X3_fails rfl rfl rfl (by decide +kernel) ⟨Nat.le_of_ble_eq_true rfl, Nat.le_of_ble_eq_true rfl⟩) rfl rfl rfl rfl dX3_begin_36 ⟨Nat.zero_le _, Nat.zero_le _⟩ (fun r36 u36 q36 => ?_)
        obtain ⟨rfl, rfl⟩ := q36
        exact aw_iret C dX3_begin_39 ⟨us (us P 0 0) 0 1, Eq.trans (show (us (us P 0 0) 0 1).1 0 = 1 from rfl) (show kBeg a b d = 1 from by unfold kBeg; first | rw [if_pos (by omega)] | rw [if_neg (by omega), if_pos (by omega)] | rw [if_neg (by omega), if_neg (by omega), if_pos (by omega)] | rw [if_neg (by omega), if_neg (by omega), if_neg (by omega), if_pos (by omega)] | rw [if_neg (by omega), if_neg (by omega), if_neg (by omega), if_neg (by omega)] | rw [if_neg (by omega), if_neg (by omega), if_neg (by omega)] | rw [if_neg (by omega), if_neg (by omega)] | rw [if_neg (by omega)]).symm, Or.inr ⟨by have h0 := (show kBeg a b d = 1 from by unfold kBeg; first | rw [if_pos (by omega)] | rw [if_neg (by omega), if_pos (by omega)] | rw [if_neg (by omega), if_neg (by omega), if_pos (by omega)] | rw [if_neg (by omega), if_neg (by omega), if_neg (by omega), if_pos (by omega)] | rw [if_neg (by omega), if_neg (by omega), if_neg (by omega), if_neg (by omega)] | rw [if_neg (by omega), if_neg (by omega), if_neg (by omega)] | rw [if_neg (by omega), if_neg (by omega)] | rw [if_neg (by omega)]); omega, rfl⟩⟩
set_option maxHeartbeats 4000000 in
set_option maxRecDepth 100000 in
theorem c_X3_setRules {l : Launch} {G : va_G × (Nat → ClassId)} {am : Nat → Nat} {S P : St} {a b : Int} (ha : -2147483648 ≤ a ∧ a < 2147483648) (hb : -2147483648 ≤ b ∧ b < 2147483648) : Mv l G yX3_setRules wsX3_setRules ({ frames := 1, cells := 0, slots := 0, locals := 22 } : Room) [.ref (am 0), .int (zI a), .int (zI b)] (WM G.2 am S P) (fun u => ∃ P9 : St, P9.1 0 = kSet a b ∧ ((kSet a b = 0 ∧ u = WM G.2 am (sSet S a b) P9) ∨ (¬ kSet a b = 0 ∧ u = WM G.2 am S P9))) := by
  refine Mv.of (own := RX3) (cc := cX3_setRules) (maxL := 3) (ret := none) (by decide) rfl rfl rfl ?_
  intro p e s m args below meth c A C hN
  have hts := C.2.2.2.2.1
  have iFX3 : ∀ w ∈ u_ws RX3 TX3 19, w ∈ wsX3_setRules := by decide +kernel
  have k_35 := hts (.fieldLink RX3 35 "PaintSequencerModel" "thrown" "I") (by decide +kernel)
  have k_74 := hts (.fieldLink RX3 74 "PaintSequencerModel" "entry" "I") (by decide +kernel)
  have k_77 := hts (.fieldLink RX3 77 "PaintSequencerModel" "exit" "I") (by decide +kernel)
  refine aw_aload_n C dX3_setRules_0 rfl ?_
  refine aw_iconst C dX3_setRules_1 ?_
  refine aw_put (q0 := 0) (k := 18) C iFX3 tyX3_ok nmX3 k_35 rfl rfl rfl rfl rfl rfl (wm_f18 _ _ _ _ _) dX3_setRules_2 ?_
  refine aw_iload_n C dX3_setRules_5 rfl ?_
  refine aw_iconst C dX3_setRules_6 ?_
  refine aw_iconst C dX3_setRules_7 ?_
  refine cS3i C hN (c_X3_in (by omega) (by omega) (by omega)) (va_cwS 3 hts gX3_setRules_X3_in rfl rfl rfl (by decide +kernel) ⟨Nat.le_of_ble_eq_true rfl, Nat.le_of_ble_eq_true rfl⟩) rfl dX3_setRules_8 ⟨Nat.zero_le _, Nat.zero_le _⟩ (fun r8 u8 q8 => ?_)
  obtain ⟨rfl, rfl⟩ := q8
  refine aw_if_eq (tgt := 23) C dX3_setRules_11 (by decide) (by split <;> omega) (fun c11 => ?_) (fun c11 => ?_)
  · have d11 := ite_f c11
    refine aw_aload_n C dX3_setRules_23 rfl ?_
    refine aw_iconst C dX3_setRules_24 ?_
    refine cV1i (ci := 3) (q0 := 0) C hN (c_X3_fails) (cwV 1 hts gX3_setRules_X3_fails rfl rfl rfl (by decide +kernel) ⟨Nat.le_of_ble_eq_true rfl, Nat.le_of_ble_eq_true rfl⟩) rfl rfl rfl rfl dX3_setRules_25 ⟨Nat.zero_le _, Nat.zero_le _⟩ (fun r25 u25 q25 => ?_)
    obtain ⟨rfl, rfl⟩ := q25
    refine aw_pop C dX3_setRules_28 rfl ?_
    exact aw_vret C dX3_setRules_29 ⟨us (us P 0 0) 0 1, Eq.trans (show (us (us P 0 0) 0 1).1 0 = 1 from rfl) (show kSet a b = 1 from by unfold kSet; first | rw [if_pos (by omega)] | rw [if_neg (by omega), if_pos (by omega)] | rw [if_neg (by omega), if_neg (by omega), if_pos (by omega)] | rw [if_neg (by omega), if_neg (by omega), if_neg (by omega), if_pos (by omega)] | rw [if_neg (by omega), if_neg (by omega), if_neg (by omega), if_neg (by omega)] | rw [if_neg (by omega), if_neg (by omega), if_neg (by omega)] | rw [if_neg (by omega), if_neg (by omega)] | rw [if_neg (by omega)]).symm, Or.inr ⟨by have h0 := (show kSet a b = 1 from by unfold kSet; first | rw [if_pos (by omega)] | rw [if_neg (by omega), if_pos (by omega)] | rw [if_neg (by omega), if_neg (by omega), if_pos (by omega)] | rw [if_neg (by omega), if_neg (by omega), if_neg (by omega), if_pos (by omega)] | rw [if_neg (by omega), if_neg (by omega), if_neg (by omega), if_neg (by omega)] | rw [if_neg (by omega), if_neg (by omega), if_neg (by omega)] | rw [if_neg (by omega), if_neg (by omega)] | rw [if_neg (by omega)]); omega, rfl⟩⟩
  · have d11 := ite_t c11
    refine aw_iload_n C dX3_setRules_14 rfl ?_
    refine aw_iconst C dX3_setRules_15 ?_
    refine aw_iconst C dX3_setRules_16 ?_
    refine cS3i C hN (c_X3_in (by omega) (by omega) (by omega)) (va_cwS 3 hts gX3_setRules_X3_in rfl rfl rfl (by decide +kernel) ⟨Nat.le_of_ble_eq_true rfl, Nat.le_of_ble_eq_true rfl⟩) rfl dX3_setRules_17 ⟨Nat.zero_le _, Nat.zero_le _⟩ (fun r17 u17 q17 => ?_)
    obtain ⟨rfl, rfl⟩ := q17
    refine aw_if_ne (tgt := 30) C dX3_setRules_20 (by decide) (by split <;> omega) (fun c20 => ?_) (fun c20 => ?_)
    · have d20 := ite_t c20
      refine aw_aload_n C dX3_setRules_30 rfl ?_
      refine aw_iload_n C dX3_setRules_31 rfl ?_
      refine aw_put (q0 := 0) (k := 3) C iFX3 tyX3_ok nmX3 k_74 rfl rfl rfl rfl rfl rfl (wm_f3 _ _ _ _ _) dX3_setRules_32 ?_
      refine aw_aload_n C dX3_setRules_35 rfl ?_
      refine aw_iload_n C dX3_setRules_36 rfl ?_
      refine aw_put (q0 := 0) (k := 4) C iFX3 tyX3_ok nmX3 k_77 rfl rfl rfl rfl rfl rfl (wm_f4 _ _ _ _ _) dX3_setRules_37 ?_
      exact aw_vret C dX3_setRules_40 ⟨(us P 0 0), Eq.trans (show ((us P 0 0)).1 0 = 0 from rfl) (show kSet a b = 0 from by unfold kSet; first | rw [if_pos (by omega)] | rw [if_neg (by omega), if_pos (by omega)] | rw [if_neg (by omega), if_neg (by omega), if_pos (by omega)] | rw [if_neg (by omega), if_neg (by omega), if_neg (by omega), if_pos (by omega)] | rw [if_neg (by omega), if_neg (by omega), if_neg (by omega), if_neg (by omega)] | rw [if_neg (by omega), if_neg (by omega), if_neg (by omega)] | rw [if_neg (by omega), if_neg (by omega)] | rw [if_neg (by omega)]).symm, Or.inl ⟨(show kSet a b = 0 from by unfold kSet; first | rw [if_pos (by omega)] | rw [if_neg (by omega), if_pos (by omega)] | rw [if_neg (by omega), if_neg (by omega), if_pos (by omega)] | rw [if_neg (by omega), if_neg (by omega), if_neg (by omega), if_pos (by omega)] | rw [if_neg (by omega), if_neg (by omega), if_neg (by omega), if_neg (by omega)] | rw [if_neg (by omega), if_neg (by omega), if_neg (by omega)] | rw [if_neg (by omega), if_neg (by omega)] | rw [if_neg (by omega)]), rfl⟩⟩
    · have d20 := ite_f c20
      refine aw_aload_n C dX3_setRules_23 rfl ?_
      refine aw_iconst C dX3_setRules_24 ?_
      refine cV1i (ci := 3) (q0 := 0) C hN (c_X3_fails) (cwV 1 hts gX3_setRules_X3_fails rfl rfl rfl (by decide +kernel) ⟨Nat.le_of_ble_eq_true rfl, Nat.le_of_ble_eq_true rfl⟩) rfl rfl rfl rfl dX3_setRules_25 ⟨Nat.zero_le _, Nat.zero_le _⟩ (fun r25 u25 q25 => ?_)
      obtain ⟨rfl, rfl⟩ := q25
      refine aw_pop C dX3_setRules_28 rfl ?_
      exact aw_vret C dX3_setRules_29 ⟨us (us P 0 0) 0 1, Eq.trans (show (us (us P 0 0) 0 1).1 0 = 1 from rfl) (show kSet a b = 1 from by unfold kSet; first | rw [if_pos (by omega)] | rw [if_neg (by omega), if_pos (by omega)] | rw [if_neg (by omega), if_neg (by omega), if_pos (by omega)] | rw [if_neg (by omega), if_neg (by omega), if_neg (by omega), if_pos (by omega)] | rw [if_neg (by omega), if_neg (by omega), if_neg (by omega), if_neg (by omega)] | rw [if_neg (by omega), if_neg (by omega), if_neg (by omega)] | rw [if_neg (by omega), if_neg (by omega)] | rw [if_neg (by omega)]).symm, Or.inr ⟨by have h0 := (show kSet a b = 1 from by unfold kSet; first | rw [if_pos (by omega)] | rw [if_neg (by omega), if_pos (by omega)] | rw [if_neg (by omega), if_neg (by omega), if_pos (by omega)] | rw [if_neg (by omega), if_neg (by omega), if_neg (by omega), if_pos (by omega)] | rw [if_neg (by omega), if_neg (by omega), if_neg (by omega), if_neg (by omega)] | rw [if_neg (by omega), if_neg (by omega), if_neg (by omega)] | rw [if_neg (by omega), if_neg (by omega)] | rw [if_neg (by omega)]); omega, rfl⟩⟩
set_option maxHeartbeats 4000000 in
set_option maxRecDepth 100000 in
theorem c_X3_arrive {l : Launch} {G : va_G × (Nat → ClassId)} {am : Nat → Nat} {S P : St} (hI : Inv S) {v : Int} (hv : -2147483648 ≤ v ∧ v < 2147483648) : Mi l G yX3_arrive wsX3_arrive ({ frames := 3, cells := 0, slots := 0, locals := 66 } : Room) [.ref (am 0), .int (zI v)] (WM G.2 am S P) (fun r u => ∃ P9 : St, P9.1 0 = kArr S v ∧ ((kArr S v = 0 ∧ r = inS S v ∧ u = WM G.2 am (sArr S v) P9) ∨ (¬ kArr S v = 0 ∧ u = WM G.2 am S P9))) := by
  refine Mi.of (own := RX3) (cc := cX3_arrive) (maxL := 3) (ret := (some .int)) (by decide) rfl rfl rfl ?_
  intro p e s m args below meth c A C hN
  have hts := C.2.2.2.2.1
  have iFX3 : ∀ w ∈ u_ws RX3 TX3 19, w ∈ wsX3_arrive := by decide +kernel
  have k_35 := hts (.fieldLink RX3 35 "PaintSequencerModel" "thrown" "I") (by decide +kernel)
  have k_48 := hts (.fieldLink RX3 48 "PaintSequencerModel" "many" "I") (by decide +kernel)
  obtain ⟨hn, hz, hr, hc, hp, ha, hq, ht⟩ := id hI
  have hL9 : 1 ≤ S.1 0 ∧ S.1 0 ≤ 5 := by omega
  have hB9 : 0 ≤ S.1 5 ∧ S.1 5 ≤ 99 := by omega
  refine aw_aload_n C dX3_arrive_0 rfl ?_
  refine aw_iconst C dX3_arrive_1 ?_
  refine aw_put (q0 := 0) (k := 18) C iFX3 tyX3_ok nmX3 k_35 rfl rfl rfl rfl rfl rfl (wm_f18 _ _ _ _ _) dX3_arrive_2 ?_
  refine aw_iload_n C dX3_arrive_5 rfl ?_
  refine aw_iconst C dX3_arrive_6 ?_
  refine aw_iconst C dX3_arrive_7 ?_
  refine cS3i C hN (c_X3_in (by omega) (by omega) (by omega)) (va_cwS 3 hts gX3_arrive_X3_in rfl rfl rfl (by decide +kernel) ⟨Nat.le_of_ble_eq_true rfl, Nat.le_of_ble_eq_true rfl⟩) rfl dX3_arrive_8 ⟨Nat.zero_le _, Nat.zero_le _⟩ (fun r8 u8 q8 => ?_)
  obtain ⟨rfl, rfl⟩ := q8
  refine aw_if_ne (tgt := 20) C dX3_arrive_11 (by decide) (by split <;> omega) (fun c11 => ?_) (fun c11 => ?_)
  · have d11 := ite_t c11
    refine aw_aload_n C dX3_arrive_20 rfl ?_
    refine aw_iload_n C dX3_arrive_21 rfl ?_
    refine cV1i (ci := 3) (q0 := 0) C hN (c_X3_laneFor hI (by omega)) (cwV 1 hts gX3_arrive_X3_laneFor rfl rfl rfl (by decide +kernel) ⟨Nat.le_of_ble_eq_true rfl, Nat.le_of_ble_eq_true rfl⟩) rfl rfl rfl rfl dX3_arrive_22 ⟨Nat.zero_le _, Nat.zero_le _⟩ (fun r22 u22 q22 => ?_)
    obtain ⟨rfl, rfl⟩ := q22
    have h9 := inS_b hI v
    refine aw_istore_n C dX3_arrive_25 rfl rfl ?_
    refine aw_iload_n C dX3_arrive_26 rfl ?_
    refine aw_iconst C dX3_arrive_27 ?_
    refine aw_icmp_eq (tgt := 40) C dX3_arrive_28 (by decide) (by omega) (by omega) (fun c28 => ?_) (fun c28 => ?_)
    · refine aw_aload_n C dX3_arrive_40 rfl ?_
      refine aw_iconst C dX3_arrive_41 ?_
      refine cV1i (ci := 3) (q0 := 0) C hN (c_X3_fails) (cwV 1 hts gX3_arrive_X3_fails rfl rfl rfl (by decide +kernel) ⟨Nat.le_of_ble_eq_true rfl, Nat.le_of_ble_eq_true rfl⟩) rfl rfl rfl rfl dX3_arrive_42 ⟨Nat.zero_le _, Nat.zero_le _⟩ (fun r42 u42 q42 => ?_)
      obtain ⟨rfl, rfl⟩ := q42
      exact aw_iret C dX3_arrive_45 ⟨us (us P 0 0) 0 2, Eq.trans (show (us (us P 0 0) 0 2).1 0 = 2 from rfl) (show kArr S v = 2 from by unfold kArr; first | rw [if_pos (by omega)] | rw [if_neg (by omega), if_pos (by omega)] | rw [if_neg (by omega), if_neg (by omega), if_pos (by omega)] | rw [if_neg (by omega), if_neg (by omega), if_neg (by omega), if_pos (by omega)] | rw [if_neg (by omega), if_neg (by omega), if_neg (by omega), if_neg (by omega)] | rw [if_neg (by omega), if_neg (by omega), if_neg (by omega)] | rw [if_neg (by omega), if_neg (by omega)] | rw [if_neg (by omega)]).symm, Or.inr ⟨by have h0 := (show kArr S v = 2 from by unfold kArr; first | rw [if_pos (by omega)] | rw [if_neg (by omega), if_pos (by omega)] | rw [if_neg (by omega), if_neg (by omega), if_pos (by omega)] | rw [if_neg (by omega), if_neg (by omega), if_neg (by omega), if_pos (by omega)] | rw [if_neg (by omega), if_neg (by omega), if_neg (by omega), if_neg (by omega)] | rw [if_neg (by omega), if_neg (by omega), if_neg (by omega)] | rw [if_neg (by omega), if_neg (by omega)] | rw [if_neg (by omega)]); omega, rfl⟩⟩
    · refine aw_aload_n C dX3_arrive_31 rfl ?_
      refine aw_get (q0 := 0) (k := 7) C iFX3 k_48 rfl rfl rfl rfl dX3_arrive_32 ?_
      refine aw_bipush C dX3_arrive_35 rfl ?_
      refine aw_icmp_ne (tgt := 46) C dX3_arrive_37 (by decide) (by omega) (by omega) (fun c37 => ?_) (fun c37 => ?_)
      · have h8 := hz (inS S v) (by omega) (by omega)
        have h7 := inS_room c28
        refine aw_aload_n C dX3_arrive_46 rfl ?_
        refine aw_iload_n C dX3_arrive_47 rfl ?_
        refine aw_iload_n C dX3_arrive_48 rfl ?_
        refine cV2i (ci := 3) (q0 := 0) C hN (c_X3_come (by omega) (by omega) (by omega) (by omega)) (cwV 2 hts gX3_arrive_X3_come rfl rfl rfl (by decide +kernel) ⟨Nat.le_of_ble_eq_true rfl, Nat.le_of_ble_eq_true rfl⟩) rfl rfl rfl rfl dX3_arrive_49 ⟨Nat.zero_le _, Nat.zero_le _⟩ (fun r49 u49 q49 => ?_)
        obtain ⟨rfl, rfl⟩ := q49
        refine aw_pop C dX3_arrive_52 rfl ?_
        refine aw_iload_n C dX3_arrive_53 rfl ?_
        exact aw_iret C dX3_arrive_54 ⟨(us P 0 0), Eq.trans (show ((us P 0 0)).1 0 = 0 from rfl) (show kArr S v = 0 from by unfold kArr; first | rw [if_pos (by omega)] | rw [if_neg (by omega), if_pos (by omega)] | rw [if_neg (by omega), if_neg (by omega), if_pos (by omega)] | rw [if_neg (by omega), if_neg (by omega), if_neg (by omega), if_pos (by omega)] | rw [if_neg (by omega), if_neg (by omega), if_neg (by omega), if_neg (by omega)] | rw [if_neg (by omega), if_neg (by omega), if_neg (by omega)] | rw [if_neg (by omega), if_neg (by omega)] | rw [if_neg (by omega)]).symm, Or.inl ⟨(show kArr S v = 0 from by unfold kArr; first | rw [if_pos (by omega)] | rw [if_neg (by omega), if_pos (by omega)] | rw [if_neg (by omega), if_neg (by omega), if_pos (by omega)] | rw [if_neg (by omega), if_neg (by omega), if_neg (by omega), if_pos (by omega)] | rw [if_neg (by omega), if_neg (by omega), if_neg (by omega), if_neg (by omega)] | rw [if_neg (by omega), if_neg (by omega), if_neg (by omega)] | rw [if_neg (by omega), if_neg (by omega)] | rw [if_neg (by omega)]), rfl, rfl⟩⟩
      · refine aw_aload_n C dX3_arrive_40 rfl ?_
        refine aw_iconst C dX3_arrive_41 ?_
        refine cV1i (ci := 3) (q0 := 0) C hN (c_X3_fails) (cwV 1 hts gX3_arrive_X3_fails rfl rfl rfl (by decide +kernel) ⟨Nat.le_of_ble_eq_true rfl, Nat.le_of_ble_eq_true rfl⟩) rfl rfl rfl rfl dX3_arrive_42 ⟨Nat.zero_le _, Nat.zero_le _⟩ (fun r42 u42 q42 => ?_)
        obtain ⟨rfl, rfl⟩ := q42
        exact aw_iret C dX3_arrive_45 ⟨us (us P 0 0) 0 2, Eq.trans (show (us (us P 0 0) 0 2).1 0 = 2 from rfl) (show kArr S v = 2 from by unfold kArr; first | rw [if_pos (by omega)] | rw [if_neg (by omega), if_pos (by omega)] | rw [if_neg (by omega), if_neg (by omega), if_pos (by omega)] | rw [if_neg (by omega), if_neg (by omega), if_neg (by omega), if_pos (by omega)] | rw [if_neg (by omega), if_neg (by omega), if_neg (by omega), if_neg (by omega)] | rw [if_neg (by omega), if_neg (by omega), if_neg (by omega)] | rw [if_neg (by omega), if_neg (by omega)] | rw [if_neg (by omega)]).symm, Or.inr ⟨by have h0 := (show kArr S v = 2 from by unfold kArr; first | rw [if_pos (by omega)] | rw [if_neg (by omega), if_pos (by omega)] | rw [if_neg (by omega), if_neg (by omega), if_pos (by omega)] | rw [if_neg (by omega), if_neg (by omega), if_neg (by omega), if_pos (by omega)] | rw [if_neg (by omega), if_neg (by omega), if_neg (by omega), if_neg (by omega)] | rw [if_neg (by omega), if_neg (by omega), if_neg (by omega)] | rw [if_neg (by omega), if_neg (by omega)] | rw [if_neg (by omega)]); omega, rfl⟩⟩
  · have d11 := ite_f c11
    refine aw_aload_n C dX3_arrive_14 rfl ?_
    refine aw_iconst C dX3_arrive_15 ?_
    refine cV1i (ci := 3) (q0 := 0) C hN (c_X3_fails) (cwV 1 hts gX3_arrive_X3_fails rfl rfl rfl (by decide +kernel) ⟨Nat.le_of_ble_eq_true rfl, Nat.le_of_ble_eq_true rfl⟩) rfl rfl rfl rfl dX3_arrive_16 ⟨Nat.zero_le _, Nat.zero_le _⟩ (fun r16 u16 q16 => ?_)
    obtain ⟨rfl, rfl⟩ := q16
    exact aw_iret C dX3_arrive_19 ⟨us (us P 0 0) 0 1, Eq.trans (show (us (us P 0 0) 0 1).1 0 = 1 from rfl) (show kArr S v = 1 from by unfold kArr; first | rw [if_pos (by omega)] | rw [if_neg (by omega), if_pos (by omega)] | rw [if_neg (by omega), if_neg (by omega), if_pos (by omega)] | rw [if_neg (by omega), if_neg (by omega), if_neg (by omega), if_pos (by omega)] | rw [if_neg (by omega), if_neg (by omega), if_neg (by omega), if_neg (by omega)] | rw [if_neg (by omega), if_neg (by omega), if_neg (by omega)] | rw [if_neg (by omega), if_neg (by omega)] | rw [if_neg (by omega)]).symm, Or.inr ⟨by have h0 := (show kArr S v = 1 from by unfold kArr; first | rw [if_pos (by omega)] | rw [if_neg (by omega), if_pos (by omega)] | rw [if_neg (by omega), if_neg (by omega), if_pos (by omega)] | rw [if_neg (by omega), if_neg (by omega), if_neg (by omega), if_pos (by omega)] | rw [if_neg (by omega), if_neg (by omega), if_neg (by omega), if_neg (by omega)] | rw [if_neg (by omega), if_neg (by omega), if_neg (by omega)] | rw [if_neg (by omega), if_neg (by omega)] | rw [if_neg (by omega)]); omega, rfl⟩⟩
set_option maxHeartbeats 4000000 in
set_option maxRecDepth 100000 in
theorem c_X3_arriveIn {l : Launch} {G : va_G × (Nat → ClassId)} {am : Nat → Nat} {S P : St} (hI : Inv S) {v i : Int} (hv : -2147483648 ≤ v ∧ v < 2147483648) (hi : -2147483648 ≤ i ∧ i < 2147483648) : Mi l G yX3_arriveIn wsX3_arriveIn ({ frames := 2, cells := 0, slots := 0, locals := 44 } : Room) [.ref (am 0), .int (zI v), .int (zI i)] (WM G.2 am S P) (fun r u => ∃ P9 : St, P9.1 0 = kArI S v i ∧ ((kArI S v i = 0 ∧ r = S.1 5 ∧ u = WM G.2 am (sArI S v i) P9) ∨ (¬ kArI S v i = 0 ∧ u = WM G.2 am S P9))) := by
  refine Mi.of (own := RX3) (cc := cX3_arriveIn) (maxL := 3) (ret := (some .int)) (by decide) rfl rfl rfl ?_
  intro p e s m args below meth c A C hN
  have hts := C.2.2.2.2.1
  have iFX3 : ∀ w ∈ u_ws RX3 TX3 19, w ∈ wsX3_arriveIn := by decide +kernel
  have k_35 := hts (.fieldLink RX3 35 "PaintSequencerModel" "thrown" "I") (by decide +kernel)
  have k_39 := hts (.fieldLink RX3 39 "PaintSequencerModel" "lanes" "I") (by decide +kernel)
  have k_48 := hts (.fieldLink RX3 48 "PaintSequencerModel" "many" "I") (by decide +kernel)
  obtain ⟨hn, hz, hr, hc, hp, ha, hq, ht⟩ := id hI
  have hL9 : 1 ≤ S.1 0 ∧ S.1 0 ≤ 5 := by omega
  have hB9 : 0 ≤ S.1 5 ∧ S.1 5 ≤ 99 := by omega
  have hm1 : -2147483648 ≤ S.1 0 - 1 ∧ S.1 0 - 1 < 2147483648 := by omega
  refine aw_aload_n C dX3_arriveIn_0 rfl ?_
  refine aw_iconst C dX3_arriveIn_1 ?_
  refine aw_put (q0 := 0) (k := 18) C iFX3 tyX3_ok nmX3 k_35 rfl rfl rfl rfl rfl rfl (wm_f18 _ _ _ _ _) dX3_arriveIn_2 ?_
  refine aw_iload_n C dX3_arriveIn_5 rfl ?_
  refine aw_iconst C dX3_arriveIn_6 ?_
  refine aw_iconst C dX3_arriveIn_7 ?_
  refine cS3i C hN (c_X3_in (by omega) (by omega) (by omega)) (va_cwS 3 hts gX3_arriveIn_X3_in rfl rfl rfl (by decide +kernel) ⟨Nat.le_of_ble_eq_true rfl, Nat.le_of_ble_eq_true rfl⟩) rfl dX3_arriveIn_8 ⟨Nat.zero_le _, Nat.zero_le _⟩ (fun r8 u8 q8 => ?_)
  obtain ⟨rfl, rfl⟩ := q8
  refine aw_if_ne (tgt := 20) C dX3_arriveIn_11 (by decide) (by split <;> omega) (fun c11 => ?_) (fun c11 => ?_)
  · have d11 := ite_t c11
    refine aw_iload_n C dX3_arriveIn_20 rfl ?_
    refine aw_iconst C dX3_arriveIn_21 ?_
    refine aw_aload_n C dX3_arriveIn_22 rfl ?_
    refine aw_get (q0 := 0) (k := 0) C iFX3 k_39 rfl rfl rfl rfl dX3_arriveIn_23 ?_
    refine aw_iconst C dX3_arriveIn_26 ?_
    refine aw_isub C dX3_arriveIn_27 ?_
    refine cS3i C hN (c_X3_in (by omega) (by omega) (by exact hm1)) (va_cwS 3 hts gX3_arriveIn_X3_in rfl rfl rfl (by decide +kernel) ⟨Nat.le_of_ble_eq_true rfl, Nat.le_of_ble_eq_true rfl⟩) rfl dX3_arriveIn_28 ⟨Nat.zero_le _, Nat.zero_le _⟩ (fun r28 u28 q28 => ?_)
    obtain ⟨rfl, rfl⟩ := q28
    refine aw_if_ne (tgt := 40) C dX3_arriveIn_31 (by decide) (by split <;> omega) (fun c31 => ?_) (fun c31 => ?_)
    · have d31 : 0 ≤ i ∧ i ≤ S.1 0 - 1 := ite_t c31
      have h8 := hz i (by omega) (by omega)
      have hs9 : 0 ≤ S.2 0 i ∧ S.2 0 i ≤ 6 := by omega
      have hD9 : 1 ≤ S.1 1 ∧ S.1 1 ≤ 6 := by omega
      refine aw_aload_n C dX3_arriveIn_40 rfl ?_
      refine aw_iload_n C dX3_arriveIn_41 rfl ?_
      refine cV1i (ci := 3) (q0 := 0) C hN (c_X3_hasRoom (by omega) (by omega) (by exact hs9) (by exact hD9)) (cwV 1 hts gX3_arriveIn_X3_hasRoom rfl rfl rfl (by decide +kernel) ⟨Nat.le_of_ble_eq_true rfl, Nat.le_of_ble_eq_true rfl⟩) rfl rfl rfl rfl dX3_arriveIn_42 ⟨Nat.zero_le _, Nat.zero_le _⟩ (fun r42 u42 q42 => ?_)
      obtain ⟨rfl, rfl⟩ := q42
      refine aw_if_eq (tgt := 57) C dX3_arriveIn_45 (by decide) (by split <;> omega) (fun c45 => ?_) (fun c45 => ?_)
      · have d45 := ite_f c45
        refine aw_aload_n C dX3_arriveIn_57 rfl ?_
        refine aw_iconst C dX3_arriveIn_58 ?_
        refine cV1i (ci := 3) (q0 := 0) C hN (c_X3_fails) (cwV 1 hts gX3_arriveIn_X3_fails rfl rfl rfl (by decide +kernel) ⟨Nat.le_of_ble_eq_true rfl, Nat.le_of_ble_eq_true rfl⟩) rfl rfl rfl rfl dX3_arriveIn_59 ⟨Nat.zero_le _, Nat.zero_le _⟩ (fun r59 u59 q59 => ?_)
        obtain ⟨rfl, rfl⟩ := q59
        exact aw_iret C dX3_arriveIn_62 ⟨us (us P 0 0) 0 3, Eq.trans (show (us (us P 0 0) 0 3).1 0 = 3 from rfl) (show kArI S v i = 3 from by unfold kArI; first | rw [if_pos (by omega)] | rw [if_neg (by omega), if_pos (by omega)] | rw [if_neg (by omega), if_neg (by omega), if_pos (by omega)] | rw [if_neg (by omega), if_neg (by omega), if_neg (by omega), if_pos (by omega)] | rw [if_neg (by omega), if_neg (by omega), if_neg (by omega), if_neg (by omega)] | rw [if_neg (by omega), if_neg (by omega), if_neg (by omega)] | rw [if_neg (by omega), if_neg (by omega)] | rw [if_neg (by omega)]).symm, Or.inr ⟨by have h0 := (show kArI S v i = 3 from by unfold kArI; first | rw [if_pos (by omega)] | rw [if_neg (by omega), if_pos (by omega)] | rw [if_neg (by omega), if_neg (by omega), if_pos (by omega)] | rw [if_neg (by omega), if_neg (by omega), if_neg (by omega), if_pos (by omega)] | rw [if_neg (by omega), if_neg (by omega), if_neg (by omega), if_neg (by omega)] | rw [if_neg (by omega), if_neg (by omega), if_neg (by omega)] | rw [if_neg (by omega), if_neg (by omega)] | rw [if_neg (by omega)]); omega, rfl⟩⟩
      · have d45 := ite_t c45
        refine aw_aload_n C dX3_arriveIn_48 rfl ?_
        refine aw_get (q0 := 0) (k := 7) C iFX3 k_48 rfl rfl rfl rfl dX3_arriveIn_49 ?_
        refine aw_bipush C dX3_arriveIn_52 rfl ?_
        refine aw_icmp_ne (tgt := 63) C dX3_arriveIn_54 (by decide) (by omega) (by omega) (fun c54 => ?_) (fun c54 => ?_)
        · refine aw_aload_n C dX3_arriveIn_63 rfl ?_
          refine aw_iload_n C dX3_arriveIn_64 rfl ?_
          refine aw_iload_n C dX3_arriveIn_65 rfl ?_
          refine cV2i (ci := 3) (q0 := 0) C hN (c_X3_come (by omega) (by omega) (by omega) (by omega)) (cwV 2 hts gX3_arriveIn_X3_come rfl rfl rfl (by decide +kernel) ⟨Nat.le_of_ble_eq_true rfl, Nat.le_of_ble_eq_true rfl⟩) rfl rfl rfl rfl dX3_arriveIn_66 ⟨Nat.zero_le _, Nat.zero_le _⟩ (fun r66 u66 q66 => ?_)
          obtain ⟨rfl, rfl⟩ := q66
          exact aw_iret C dX3_arriveIn_69 ⟨(us P 0 0), Eq.trans (show ((us P 0 0)).1 0 = 0 from rfl) (show kArI S v i = 0 from by unfold kArI; first | rw [if_pos (by omega)] | rw [if_neg (by omega), if_pos (by omega)] | rw [if_neg (by omega), if_neg (by omega), if_pos (by omega)] | rw [if_neg (by omega), if_neg (by omega), if_neg (by omega), if_pos (by omega)] | rw [if_neg (by omega), if_neg (by omega), if_neg (by omega), if_neg (by omega)] | rw [if_neg (by omega), if_neg (by omega), if_neg (by omega)] | rw [if_neg (by omega), if_neg (by omega)] | rw [if_neg (by omega)]).symm, Or.inl ⟨(show kArI S v i = 0 from by unfold kArI; first | rw [if_pos (by omega)] | rw [if_neg (by omega), if_pos (by omega)] | rw [if_neg (by omega), if_neg (by omega), if_pos (by omega)] | rw [if_neg (by omega), if_neg (by omega), if_neg (by omega), if_pos (by omega)] | rw [if_neg (by omega), if_neg (by omega), if_neg (by omega), if_neg (by omega)] | rw [if_neg (by omega), if_neg (by omega), if_neg (by omega)] | rw [if_neg (by omega), if_neg (by omega)] | rw [if_neg (by omega)]), rfl, rfl⟩⟩
        · refine aw_aload_n C dX3_arriveIn_57 rfl ?_
          refine aw_iconst C dX3_arriveIn_58 ?_
          refine cV1i (ci := 3) (q0 := 0) C hN (c_X3_fails) (cwV 1 hts gX3_arriveIn_X3_fails rfl rfl rfl (by decide +kernel) ⟨Nat.le_of_ble_eq_true rfl, Nat.le_of_ble_eq_true rfl⟩) rfl rfl rfl rfl dX3_arriveIn_59 ⟨Nat.zero_le _, Nat.zero_le _⟩ (fun r59 u59 q59 => ?_)
          obtain ⟨rfl, rfl⟩ := q59
          exact aw_iret C dX3_arriveIn_62 ⟨us (us P 0 0) 0 3, Eq.trans (show (us (us P 0 0) 0 3).1 0 = 3 from rfl) (show kArI S v i = 3 from by unfold kArI; first | rw [if_pos (by omega)] | rw [if_neg (by omega), if_pos (by omega)] | rw [if_neg (by omega), if_neg (by omega), if_pos (by omega)] | rw [if_neg (by omega), if_neg (by omega), if_neg (by omega), if_pos (by omega)] | rw [if_neg (by omega), if_neg (by omega), if_neg (by omega), if_neg (by omega)] | rw [if_neg (by omega), if_neg (by omega), if_neg (by omega)] | rw [if_neg (by omega), if_neg (by omega)] | rw [if_neg (by omega)]).symm, Or.inr ⟨by have h0 := (show kArI S v i = 3 from by unfold kArI; first | rw [if_pos (by omega)] | rw [if_neg (by omega), if_pos (by omega)] | rw [if_neg (by omega), if_neg (by omega), if_pos (by omega)] | rw [if_neg (by omega), if_neg (by omega), if_neg (by omega), if_pos (by omega)] | rw [if_neg (by omega), if_neg (by omega), if_neg (by omega), if_neg (by omega)] | rw [if_neg (by omega), if_neg (by omega), if_neg (by omega)] | rw [if_neg (by omega), if_neg (by omega)] | rw [if_neg (by omega)]); omega, rfl⟩⟩
    · have d31 : ¬ (0 ≤ i ∧ i ≤ S.1 0 - 1) := ite_f c31
      refine aw_aload_n C dX3_arriveIn_34 rfl ?_
      refine aw_iconst C dX3_arriveIn_35 ?_
      refine cV1i (ci := 3) (q0 := 0) C hN (c_X3_fails) (cwV 1 hts gX3_arriveIn_X3_fails rfl rfl rfl (by decide +kernel) ⟨Nat.le_of_ble_eq_true rfl, Nat.le_of_ble_eq_true rfl⟩) rfl rfl rfl rfl dX3_arriveIn_36 ⟨Nat.zero_le _, Nat.zero_le _⟩ (fun r36 u36 q36 => ?_)
      obtain ⟨rfl, rfl⟩ := q36
      exact aw_iret C dX3_arriveIn_39 ⟨us (us P 0 0) 0 2, Eq.trans (show (us (us P 0 0) 0 2).1 0 = 2 from rfl) (show kArI S v i = 2 from by unfold kArI; first | rw [if_pos (by omega)] | rw [if_neg (by omega), if_pos (by omega)] | rw [if_neg (by omega), if_neg (by omega), if_pos (by omega)] | rw [if_neg (by omega), if_neg (by omega), if_neg (by omega), if_pos (by omega)] | rw [if_neg (by omega), if_neg (by omega), if_neg (by omega), if_neg (by omega)] | rw [if_neg (by omega), if_neg (by omega), if_neg (by omega)] | rw [if_neg (by omega), if_neg (by omega)] | rw [if_neg (by omega)]).symm, Or.inr ⟨by have h0 := (show kArI S v i = 2 from by unfold kArI; first | rw [if_pos (by omega)] | rw [if_neg (by omega), if_pos (by omega)] | rw [if_neg (by omega), if_neg (by omega), if_pos (by omega)] | rw [if_neg (by omega), if_neg (by omega), if_neg (by omega), if_pos (by omega)] | rw [if_neg (by omega), if_neg (by omega), if_neg (by omega), if_neg (by omega)] | rw [if_neg (by omega), if_neg (by omega), if_neg (by omega)] | rw [if_neg (by omega), if_neg (by omega)] | rw [if_neg (by omega)]); omega, rfl⟩⟩
  · have d11 := ite_f c11
    refine aw_aload_n C dX3_arriveIn_14 rfl ?_
    refine aw_iconst C dX3_arriveIn_15 ?_
    refine cV1i (ci := 3) (q0 := 0) C hN (c_X3_fails) (cwV 1 hts gX3_arriveIn_X3_fails rfl rfl rfl (by decide +kernel) ⟨Nat.le_of_ble_eq_true rfl, Nat.le_of_ble_eq_true rfl⟩) rfl rfl rfl rfl dX3_arriveIn_16 ⟨Nat.zero_le _, Nat.zero_le _⟩ (fun r16 u16 q16 => ?_)
    obtain ⟨rfl, rfl⟩ := q16
    exact aw_iret C dX3_arriveIn_19 ⟨us (us P 0 0) 0 1, Eq.trans (show (us (us P 0 0) 0 1).1 0 = 1 from rfl) (show kArI S v i = 1 from by unfold kArI; first | rw [if_pos (by omega)] | rw [if_neg (by omega), if_pos (by omega)] | rw [if_neg (by omega), if_neg (by omega), if_pos (by omega)] | rw [if_neg (by omega), if_neg (by omega), if_neg (by omega), if_pos (by omega)] | rw [if_neg (by omega), if_neg (by omega), if_neg (by omega), if_neg (by omega)] | rw [if_neg (by omega), if_neg (by omega), if_neg (by omega)] | rw [if_neg (by omega), if_neg (by omega)] | rw [if_neg (by omega)]).symm, Or.inr ⟨by have h0 := (show kArI S v i = 1 from by unfold kArI; first | rw [if_pos (by omega)] | rw [if_neg (by omega), if_pos (by omega)] | rw [if_neg (by omega), if_neg (by omega), if_pos (by omega)] | rw [if_neg (by omega), if_neg (by omega), if_neg (by omega), if_pos (by omega)] | rw [if_neg (by omega), if_neg (by omega), if_neg (by omega), if_neg (by omega)] | rw [if_neg (by omega), if_neg (by omega), if_neg (by omega)] | rw [if_neg (by omega), if_neg (by omega)] | rw [if_neg (by omega)]); omega, rfl⟩⟩
set_option maxHeartbeats 4000000 in
set_option maxRecDepth 100000 in
theorem c_X3_release {l : Launch} {G : va_G × (Nat → ClassId)} {am : Nat → Nat} {S P : St} (hI : Inv S) : Mi l G yX3_release wsX3_release ({ frames := 3, cells := 0, slots := 0, locals := 70 } : Room) [.ref (am 0)] (WM G.2 am S P) (fun r u => ∃ P9 : St, P9.1 0 = kRel S ∧ ((kRel S = 0 ∧ r = atS S (outS S) 0 ∧ u = WM G.2 am (relS S (outS S)) P9) ∨ (¬ kRel S = 0 ∧ u = WM G.2 am S P9))) := by
  refine Mi.of (own := RX3) (cc := cX3_release) (maxL := 2) (ret := (some .int)) (by decide) rfl rfl rfl ?_
  intro p e s m args below meth c A C hN
  have hts := C.2.2.2.2.1
  have iFX3 : ∀ w ∈ u_ws RX3 TX3 19, w ∈ wsX3_release := by decide +kernel
  have k_35 := hts (.fieldLink RX3 35 "PaintSequencerModel" "thrown" "I") (by decide +kernel)
  obtain ⟨hn, hz, hr, hc, hp, ha, hq, ht⟩ := id hI
  have hL9 : 1 ≤ S.1 0 ∧ S.1 0 ≤ 5 := by omega
  have hB9 : 0 ≤ S.1 5 ∧ S.1 5 ≤ 99 := by omega
  have hob := outS_b (S := S)
  refine aw_aload_n C dX3_release_0 rfl ?_
  refine aw_iconst C dX3_release_1 ?_
  refine aw_put (q0 := 0) (k := 18) C iFX3 tyX3_ok nmX3 k_35 rfl rfl rfl rfl rfl rfl (wm_f18 _ _ _ _ _) dX3_release_2 ?_
  refine aw_aload_n C dX3_release_5 rfl ?_
  refine cV0i (ci := 3) (q0 := 0) C hN (c_X3_laneOut hI) (cwV 0 hts gX3_release_X3_laneOut rfl rfl rfl (by decide +kernel) ⟨Nat.le_of_ble_eq_true rfl, Nat.le_of_ble_eq_true rfl⟩) rfl rfl rfl rfl dX3_release_6 ⟨Nat.zero_le _, Nat.zero_le _⟩ (fun r6 u6 q6 => ?_)
  obtain ⟨rfl, rfl⟩ := q6
  refine aw_istore_n C dX3_release_9 rfl rfl ?_
  refine aw_iload_n C dX3_release_10 rfl ?_
  refine aw_iconst C dX3_release_11 ?_
  refine aw_icmp_eq (tgt := 22) C dX3_release_12 (by decide) (by omega) (by omega) (fun c12 => ?_) (fun c12 => ?_)
  · refine aw_aload_n C dX3_release_22 rfl ?_
    refine aw_iconst C dX3_release_23 ?_
    refine cV1i (ci := 3) (q0 := 0) C hN (c_X3_fails) (cwV 1 hts gX3_release_X3_fails rfl rfl rfl (by decide +kernel) ⟨Nat.le_of_ble_eq_true rfl, Nat.le_of_ble_eq_true rfl⟩) rfl rfl rfl rfl dX3_release_24 ⟨Nat.zero_le _, Nat.zero_le _⟩ (fun r24 u24 q24 => ?_)
    obtain ⟨rfl, rfl⟩ := q24
    refine aw_goto (tgt := 35) C dX3_release_27 (by decide) ?_
    exact aw_iret C dX3_release_35 (by first | exact ⟨(us P 0 0), Eq.trans (show ((us P 0 0)).1 0 = 0 from rfl) (show kRel S = 0 from by unfold kRel; first | rw [if_pos (by omega)] | rw [if_neg (by omega), if_pos (by omega)] | rw [if_neg (by omega), if_neg (by omega), if_pos (by omega)] | rw [if_neg (by omega), if_neg (by omega), if_neg (by omega), if_pos (by omega)] | rw [if_neg (by omega), if_neg (by omega), if_neg (by omega), if_neg (by omega)] | rw [if_neg (by omega), if_neg (by omega), if_neg (by omega)] | rw [if_neg (by omega), if_neg (by omega)] | rw [if_neg (by omega)]).symm, Or.inl ⟨(show kRel S = 0 from by unfold kRel; first | rw [if_pos (by omega)] | rw [if_neg (by omega), if_pos (by omega)] | rw [if_neg (by omega), if_neg (by omega), if_pos (by omega)] | rw [if_neg (by omega), if_neg (by omega), if_neg (by omega), if_pos (by omega)] | rw [if_neg (by omega), if_neg (by omega), if_neg (by omega), if_neg (by omega)] | rw [if_neg (by omega), if_neg (by omega), if_neg (by omega)] | rw [if_neg (by omega), if_neg (by omega)] | rw [if_neg (by omega)]), rfl, rfl⟩⟩ | exact ⟨us (us P 0 0) 0 1, Eq.trans (show (us (us P 0 0) 0 1).1 0 = 1 from rfl) (show kRel S = 1 from by unfold kRel; first | rw [if_pos (by omega)] | rw [if_neg (by omega), if_pos (by omega)] | rw [if_neg (by omega), if_neg (by omega), if_pos (by omega)] | rw [if_neg (by omega), if_neg (by omega), if_neg (by omega), if_pos (by omega)] | rw [if_neg (by omega), if_neg (by omega), if_neg (by omega), if_neg (by omega)] | rw [if_neg (by omega), if_neg (by omega), if_neg (by omega)] | rw [if_neg (by omega), if_neg (by omega)] | rw [if_neg (by omega)]).symm, Or.inr ⟨by have h0 := (show kRel S = 1 from by unfold kRel; first | rw [if_pos (by omega)] | rw [if_neg (by omega), if_pos (by omega)] | rw [if_neg (by omega), if_neg (by omega), if_pos (by omega)] | rw [if_neg (by omega), if_neg (by omega), if_neg (by omega), if_pos (by omega)] | rw [if_neg (by omega), if_neg (by omega), if_neg (by omega), if_neg (by omega)] | rw [if_neg (by omega), if_neg (by omega), if_neg (by omega)] | rw [if_neg (by omega), if_neg (by omega)] | rw [if_neg (by omega)]); omega, rfl⟩⟩)
  · refine aw_aload_n C dX3_release_15 rfl ?_
    refine cV0i (ci := 3) (q0 := 0) C hN (c_X3_isFull hI) (cwV 0 hts gX3_release_X3_isFull rfl rfl rfl (by decide +kernel) ⟨Nat.le_of_ble_eq_true rfl, Nat.le_of_ble_eq_true rfl⟩) rfl rfl rfl rfl dX3_release_16 ⟨Nat.zero_le _, Nat.zero_le _⟩ (fun r16 u16 q16 => ?_)
    obtain ⟨rfl, rfl⟩ := q16
    refine aw_if_eq (tgt := 30) C dX3_release_19 (by decide) (by split <;> omega) (fun c19 => ?_) (fun c19 => ?_)
    · have d19 := ite_f c19
      have h8 := outS_pos c12
      refine aw_aload_n C dX3_release_30 rfl ?_
      refine aw_iload_n C dX3_release_31 rfl ?_
      refine cV1i (ci := 3) (q0 := 0) C hN (c_X3_take hI (by omega) (by omega) h8) (cwV 1 hts gX3_release_X3_take rfl rfl rfl (by decide +kernel) ⟨Nat.le_of_ble_eq_true rfl, Nat.le_of_ble_eq_true rfl⟩) rfl rfl rfl rfl dX3_release_32 ⟨Nat.zero_le _, Nat.zero_le _⟩ (fun r32 u32 q32 => ?_)
      obtain ⟨rfl, rfl⟩ := q32
      exact aw_iret C dX3_release_35 (by first | exact ⟨(us P 0 0), Eq.trans (show ((us P 0 0)).1 0 = 0 from rfl) (show kRel S = 0 from by unfold kRel; first | rw [if_pos (by omega)] | rw [if_neg (by omega), if_pos (by omega)] | rw [if_neg (by omega), if_neg (by omega), if_pos (by omega)] | rw [if_neg (by omega), if_neg (by omega), if_neg (by omega), if_pos (by omega)] | rw [if_neg (by omega), if_neg (by omega), if_neg (by omega), if_neg (by omega)] | rw [if_neg (by omega), if_neg (by omega), if_neg (by omega)] | rw [if_neg (by omega), if_neg (by omega)] | rw [if_neg (by omega)]).symm, Or.inl ⟨(show kRel S = 0 from by unfold kRel; first | rw [if_pos (by omega)] | rw [if_neg (by omega), if_pos (by omega)] | rw [if_neg (by omega), if_neg (by omega), if_pos (by omega)] | rw [if_neg (by omega), if_neg (by omega), if_neg (by omega), if_pos (by omega)] | rw [if_neg (by omega), if_neg (by omega), if_neg (by omega), if_neg (by omega)] | rw [if_neg (by omega), if_neg (by omega), if_neg (by omega)] | rw [if_neg (by omega), if_neg (by omega)] | rw [if_neg (by omega)]), rfl, rfl⟩⟩ | exact ⟨us (us P 0 0) 0 1, Eq.trans (show (us (us P 0 0) 0 1).1 0 = 1 from rfl) (show kRel S = 1 from by unfold kRel; first | rw [if_pos (by omega)] | rw [if_neg (by omega), if_pos (by omega)] | rw [if_neg (by omega), if_neg (by omega), if_pos (by omega)] | rw [if_neg (by omega), if_neg (by omega), if_neg (by omega), if_pos (by omega)] | rw [if_neg (by omega), if_neg (by omega), if_neg (by omega), if_neg (by omega)] | rw [if_neg (by omega), if_neg (by omega), if_neg (by omega)] | rw [if_neg (by omega), if_neg (by omega)] | rw [if_neg (by omega)]).symm, Or.inr ⟨by have h0 := (show kRel S = 1 from by unfold kRel; first | rw [if_pos (by omega)] | rw [if_neg (by omega), if_pos (by omega)] | rw [if_neg (by omega), if_neg (by omega), if_pos (by omega)] | rw [if_neg (by omega), if_neg (by omega), if_neg (by omega), if_pos (by omega)] | rw [if_neg (by omega), if_neg (by omega), if_neg (by omega), if_neg (by omega)] | rw [if_neg (by omega), if_neg (by omega), if_neg (by omega)] | rw [if_neg (by omega), if_neg (by omega)] | rw [if_neg (by omega)]); omega, rfl⟩⟩)
    · have d19 := ite_t c19
      refine aw_aload_n C dX3_release_22 rfl ?_
      refine aw_iconst C dX3_release_23 ?_
      refine cV1i (ci := 3) (q0 := 0) C hN (c_X3_fails) (cwV 1 hts gX3_release_X3_fails rfl rfl rfl (by decide +kernel) ⟨Nat.le_of_ble_eq_true rfl, Nat.le_of_ble_eq_true rfl⟩) rfl rfl rfl rfl dX3_release_24 ⟨Nat.zero_le _, Nat.zero_le _⟩ (fun r24 u24 q24 => ?_)
      obtain ⟨rfl, rfl⟩ := q24
      refine aw_goto (tgt := 35) C dX3_release_27 (by decide) ?_
      exact aw_iret C dX3_release_35 (by first | exact ⟨(us P 0 0), Eq.trans (show ((us P 0 0)).1 0 = 0 from rfl) (show kRel S = 0 from by unfold kRel; first | rw [if_pos (by omega)] | rw [if_neg (by omega), if_pos (by omega)] | rw [if_neg (by omega), if_neg (by omega), if_pos (by omega)] | rw [if_neg (by omega), if_neg (by omega), if_neg (by omega), if_pos (by omega)] | rw [if_neg (by omega), if_neg (by omega), if_neg (by omega), if_neg (by omega)] | rw [if_neg (by omega), if_neg (by omega), if_neg (by omega)] | rw [if_neg (by omega), if_neg (by omega)] | rw [if_neg (by omega)]).symm, Or.inl ⟨(show kRel S = 0 from by unfold kRel; first | rw [if_pos (by omega)] | rw [if_neg (by omega), if_pos (by omega)] | rw [if_neg (by omega), if_neg (by omega), if_pos (by omega)] | rw [if_neg (by omega), if_neg (by omega), if_neg (by omega), if_pos (by omega)] | rw [if_neg (by omega), if_neg (by omega), if_neg (by omega), if_neg (by omega)] | rw [if_neg (by omega), if_neg (by omega), if_neg (by omega)] | rw [if_neg (by omega), if_neg (by omega)] | rw [if_neg (by omega)]), rfl, rfl⟩⟩ | exact ⟨us (us P 0 0) 0 1, Eq.trans (show (us (us P 0 0) 0 1).1 0 = 1 from rfl) (show kRel S = 1 from by unfold kRel; first | rw [if_pos (by omega)] | rw [if_neg (by omega), if_pos (by omega)] | rw [if_neg (by omega), if_neg (by omega), if_pos (by omega)] | rw [if_neg (by omega), if_neg (by omega), if_neg (by omega), if_pos (by omega)] | rw [if_neg (by omega), if_neg (by omega), if_neg (by omega), if_neg (by omega)] | rw [if_neg (by omega), if_neg (by omega), if_neg (by omega)] | rw [if_neg (by omega), if_neg (by omega)] | rw [if_neg (by omega)]).symm, Or.inr ⟨by have h0 := (show kRel S = 1 from by unfold kRel; first | rw [if_pos (by omega)] | rw [if_neg (by omega), if_pos (by omega)] | rw [if_neg (by omega), if_neg (by omega), if_pos (by omega)] | rw [if_neg (by omega), if_neg (by omega), if_neg (by omega), if_pos (by omega)] | rw [if_neg (by omega), if_neg (by omega), if_neg (by omega), if_neg (by omega)] | rw [if_neg (by omega), if_neg (by omega), if_neg (by omega)] | rw [if_neg (by omega), if_neg (by omega)] | rw [if_neg (by omega)]); omega, rfl⟩⟩)
set_option maxHeartbeats 4000000 in
set_option maxRecDepth 100000 in
theorem c_X3_releaseFrom {l : Launch} {G : va_G × (Nat → ClassId)} {am : Nat → Nat} {S P : St} (hI : Inv S) {i : Int} (hi : -2147483648 ≤ i ∧ i < 2147483648) : Mi l G yX3_releaseFrom wsX3_releaseFrom ({ frames := 2, cells := 0, slots := 0, locals := 43 } : Room) [.ref (am 0), .int (zI i)] (WM G.2 am S P) (fun r u => ∃ P9 : St, P9.1 0 = kReF S i ∧ ((kReF S i = 0 ∧ r = atS S i 0 ∧ u = WM G.2 am (relS S i) P9) ∨ (¬ kReF S i = 0 ∧ u = WM G.2 am S P9))) := by
  refine Mi.of (own := RX3) (cc := cX3_releaseFrom) (maxL := 2) (ret := (some .int)) (by decide) rfl rfl rfl ?_
  intro p e s m args below meth c A C hN
  have hts := C.2.2.2.2.1
  have iFX3 : ∀ w ∈ u_ws RX3 TX3 19, w ∈ wsX3_releaseFrom := by decide +kernel
  have k_35 := hts (.fieldLink RX3 35 "PaintSequencerModel" "thrown" "I") (by decide +kernel)
  have k_39 := hts (.fieldLink RX3 39 "PaintSequencerModel" "lanes" "I") (by decide +kernel)
  have k_13 := hts (.fieldLink RX3 13 "PaintSequencerModel" "size" "[I") (by decide +kernel)
  obtain ⟨hn, hz, hr, hc, hp, ha, hq, ht⟩ := id hI
  have hL9 : 1 ≤ S.1 0 ∧ S.1 0 ≤ 5 := by omega
  have hB9 : 0 ≤ S.1 5 ∧ S.1 5 ≤ 99 := by omega
  have hm1 : -2147483648 ≤ S.1 0 - 1 ∧ S.1 0 - 1 < 2147483648 := by omega
  refine aw_aload_n C dX3_releaseFrom_0 rfl ?_
  refine aw_iconst C dX3_releaseFrom_1 ?_
  refine aw_put (q0 := 0) (k := 18) C iFX3 tyX3_ok nmX3 k_35 rfl rfl rfl rfl rfl rfl (wm_f18 _ _ _ _ _) dX3_releaseFrom_2 ?_
  refine aw_iload_n C dX3_releaseFrom_5 rfl ?_
  refine aw_iconst C dX3_releaseFrom_6 ?_
  refine aw_aload_n C dX3_releaseFrom_7 rfl ?_
  refine aw_get (q0 := 0) (k := 0) C iFX3 k_39 rfl rfl rfl rfl dX3_releaseFrom_8 ?_
  refine aw_iconst C dX3_releaseFrom_11 ?_
  refine aw_isub C dX3_releaseFrom_12 ?_
  refine cS3i C hN (c_X3_in (by omega) (by omega) (by exact hm1)) (va_cwS 3 hts gX3_releaseFrom_X3_in rfl rfl rfl (by decide +kernel) ⟨Nat.le_of_ble_eq_true rfl, Nat.le_of_ble_eq_true rfl⟩) rfl dX3_releaseFrom_13 ⟨Nat.zero_le _, Nat.zero_le _⟩ (fun r13 u13 q13 => ?_)
  obtain ⟨rfl, rfl⟩ := q13
  refine aw_if_ne (tgt := 25) C dX3_releaseFrom_16 (by decide) (by split <;> omega) (fun c16 => ?_) (fun c16 => ?_)
  · have d16 : 0 ≤ i ∧ i ≤ S.1 0 - 1 := ite_t c16
    have h8 := hz i (by omega) (by omega)
    refine aw_aload_n C dX3_releaseFrom_25 rfl ?_
    refine aw_get (q0 := 0) (k := 6) C iFX3 k_13 rfl rfl rfl rfl dX3_releaseFrom_26 ?_
    refine aw_iload_n C dX3_releaseFrom_29 rfl ?_
    refine aw_ldI (q0 := 2) C rfl (by omega) (by omega) rfl dX3_releaseFrom_30 ?_
    refine aw_if_eq (tgt := 41) C dX3_releaseFrom_31 (by decide) (by omega) (fun c31 => ?_) (fun c31 => ?_)
    · refine aw_aload_n C dX3_releaseFrom_41 rfl ?_
      refine aw_iconst C dX3_releaseFrom_42 ?_
      refine cV1i (ci := 3) (q0 := 0) C hN (c_X3_fails) (cwV 1 hts gX3_releaseFrom_X3_fails rfl rfl rfl (by decide +kernel) ⟨Nat.le_of_ble_eq_true rfl, Nat.le_of_ble_eq_true rfl⟩) rfl rfl rfl rfl dX3_releaseFrom_43 ⟨Nat.zero_le _, Nat.zero_le _⟩ (fun r43 u43 q43 => ?_)
      obtain ⟨rfl, rfl⟩ := q43
      refine aw_goto (tgt := 54) C dX3_releaseFrom_46 (by decide) ?_
      exact aw_iret C dX3_releaseFrom_54 (by first | exact ⟨(us P 0 0), Eq.trans (show ((us P 0 0)).1 0 = 0 from rfl) (show kReF S i = 0 from by unfold kReF; first | rw [if_pos (by omega)] | rw [if_neg (by omega), if_pos (by omega)] | rw [if_neg (by omega), if_neg (by omega), if_pos (by omega)] | rw [if_neg (by omega), if_neg (by omega), if_neg (by omega), if_pos (by omega)] | rw [if_neg (by omega), if_neg (by omega), if_neg (by omega), if_neg (by omega)] | rw [if_neg (by omega), if_neg (by omega), if_neg (by omega)] | rw [if_neg (by omega), if_neg (by omega)] | rw [if_neg (by omega)]).symm, Or.inl ⟨(show kReF S i = 0 from by unfold kReF; first | rw [if_pos (by omega)] | rw [if_neg (by omega), if_pos (by omega)] | rw [if_neg (by omega), if_neg (by omega), if_pos (by omega)] | rw [if_neg (by omega), if_neg (by omega), if_neg (by omega), if_pos (by omega)] | rw [if_neg (by omega), if_neg (by omega), if_neg (by omega), if_neg (by omega)] | rw [if_neg (by omega), if_neg (by omega), if_neg (by omega)] | rw [if_neg (by omega), if_neg (by omega)] | rw [if_neg (by omega)]), rfl, rfl⟩⟩ | exact ⟨us (us P 0 0) 0 2, Eq.trans (show (us (us P 0 0) 0 2).1 0 = 2 from rfl) (show kReF S i = 2 from by unfold kReF; first | rw [if_pos (by omega)] | rw [if_neg (by omega), if_pos (by omega)] | rw [if_neg (by omega), if_neg (by omega), if_pos (by omega)] | rw [if_neg (by omega), if_neg (by omega), if_neg (by omega), if_pos (by omega)] | rw [if_neg (by omega), if_neg (by omega), if_neg (by omega), if_neg (by omega)] | rw [if_neg (by omega), if_neg (by omega), if_neg (by omega)] | rw [if_neg (by omega), if_neg (by omega)] | rw [if_neg (by omega)]).symm, Or.inr ⟨by have h0 := (show kReF S i = 2 from by unfold kReF; first | rw [if_pos (by omega)] | rw [if_neg (by omega), if_pos (by omega)] | rw [if_neg (by omega), if_neg (by omega), if_pos (by omega)] | rw [if_neg (by omega), if_neg (by omega), if_neg (by omega), if_pos (by omega)] | rw [if_neg (by omega), if_neg (by omega), if_neg (by omega), if_neg (by omega)] | rw [if_neg (by omega), if_neg (by omega), if_neg (by omega)] | rw [if_neg (by omega), if_neg (by omega)] | rw [if_neg (by omega)]); omega, rfl⟩⟩)
    · refine aw_aload_n C dX3_releaseFrom_34 rfl ?_
      refine cV0i (ci := 3) (q0 := 0) C hN (c_X3_isFull hI) (cwV 0 hts gX3_releaseFrom_X3_isFull rfl rfl rfl (by decide +kernel) ⟨Nat.le_of_ble_eq_true rfl, Nat.le_of_ble_eq_true rfl⟩) rfl rfl rfl rfl dX3_releaseFrom_35 ⟨Nat.zero_le _, Nat.zero_le _⟩ (fun r35 u35 q35 => ?_)
      obtain ⟨rfl, rfl⟩ := q35
      refine aw_if_eq (tgt := 49) C dX3_releaseFrom_38 (by decide) (by split <;> omega) (fun c38 => ?_) (fun c38 => ?_)
      · have d38 := ite_f c38
        refine aw_aload_n C dX3_releaseFrom_49 rfl ?_
        refine aw_iload_n C dX3_releaseFrom_50 rfl ?_
        refine cV1i (ci := 3) (q0 := 0) C hN (c_X3_take hI (by omega) (by omega) (by omega)) (cwV 1 hts gX3_releaseFrom_X3_take rfl rfl rfl (by decide +kernel) ⟨Nat.le_of_ble_eq_true rfl, Nat.le_of_ble_eq_true rfl⟩) rfl rfl rfl rfl dX3_releaseFrom_51 ⟨Nat.zero_le _, Nat.zero_le _⟩ (fun r51 u51 q51 => ?_)
        obtain ⟨rfl, rfl⟩ := q51
        exact aw_iret C dX3_releaseFrom_54 (by first | exact ⟨(us P 0 0), Eq.trans (show ((us P 0 0)).1 0 = 0 from rfl) (show kReF S i = 0 from by unfold kReF; first | rw [if_pos (by omega)] | rw [if_neg (by omega), if_pos (by omega)] | rw [if_neg (by omega), if_neg (by omega), if_pos (by omega)] | rw [if_neg (by omega), if_neg (by omega), if_neg (by omega), if_pos (by omega)] | rw [if_neg (by omega), if_neg (by omega), if_neg (by omega), if_neg (by omega)] | rw [if_neg (by omega), if_neg (by omega), if_neg (by omega)] | rw [if_neg (by omega), if_neg (by omega)] | rw [if_neg (by omega)]).symm, Or.inl ⟨(show kReF S i = 0 from by unfold kReF; first | rw [if_pos (by omega)] | rw [if_neg (by omega), if_pos (by omega)] | rw [if_neg (by omega), if_neg (by omega), if_pos (by omega)] | rw [if_neg (by omega), if_neg (by omega), if_neg (by omega), if_pos (by omega)] | rw [if_neg (by omega), if_neg (by omega), if_neg (by omega), if_neg (by omega)] | rw [if_neg (by omega), if_neg (by omega), if_neg (by omega)] | rw [if_neg (by omega), if_neg (by omega)] | rw [if_neg (by omega)]), rfl, rfl⟩⟩ | exact ⟨us (us P 0 0) 0 2, Eq.trans (show (us (us P 0 0) 0 2).1 0 = 2 from rfl) (show kReF S i = 2 from by unfold kReF; first | rw [if_pos (by omega)] | rw [if_neg (by omega), if_pos (by omega)] | rw [if_neg (by omega), if_neg (by omega), if_pos (by omega)] | rw [if_neg (by omega), if_neg (by omega), if_neg (by omega), if_pos (by omega)] | rw [if_neg (by omega), if_neg (by omega), if_neg (by omega), if_neg (by omega)] | rw [if_neg (by omega), if_neg (by omega), if_neg (by omega)] | rw [if_neg (by omega), if_neg (by omega)] | rw [if_neg (by omega)]).symm, Or.inr ⟨by have h0 := (show kReF S i = 2 from by unfold kReF; first | rw [if_pos (by omega)] | rw [if_neg (by omega), if_pos (by omega)] | rw [if_neg (by omega), if_neg (by omega), if_pos (by omega)] | rw [if_neg (by omega), if_neg (by omega), if_neg (by omega), if_pos (by omega)] | rw [if_neg (by omega), if_neg (by omega), if_neg (by omega), if_neg (by omega)] | rw [if_neg (by omega), if_neg (by omega), if_neg (by omega)] | rw [if_neg (by omega), if_neg (by omega)] | rw [if_neg (by omega)]); omega, rfl⟩⟩)
      · have d38 := ite_t c38
        refine aw_aload_n C dX3_releaseFrom_41 rfl ?_
        refine aw_iconst C dX3_releaseFrom_42 ?_
        refine cV1i (ci := 3) (q0 := 0) C hN (c_X3_fails) (cwV 1 hts gX3_releaseFrom_X3_fails rfl rfl rfl (by decide +kernel) ⟨Nat.le_of_ble_eq_true rfl, Nat.le_of_ble_eq_true rfl⟩) rfl rfl rfl rfl dX3_releaseFrom_43 ⟨Nat.zero_le _, Nat.zero_le _⟩ (fun r43 u43 q43 => ?_)
        obtain ⟨rfl, rfl⟩ := q43
        refine aw_goto (tgt := 54) C dX3_releaseFrom_46 (by decide) ?_
        exact aw_iret C dX3_releaseFrom_54 (by first | exact ⟨(us P 0 0), Eq.trans (show ((us P 0 0)).1 0 = 0 from rfl) (show kReF S i = 0 from by unfold kReF; first | rw [if_pos (by omega)] | rw [if_neg (by omega), if_pos (by omega)] | rw [if_neg (by omega), if_neg (by omega), if_pos (by omega)] | rw [if_neg (by omega), if_neg (by omega), if_neg (by omega), if_pos (by omega)] | rw [if_neg (by omega), if_neg (by omega), if_neg (by omega), if_neg (by omega)] | rw [if_neg (by omega), if_neg (by omega), if_neg (by omega)] | rw [if_neg (by omega), if_neg (by omega)] | rw [if_neg (by omega)]).symm, Or.inl ⟨(show kReF S i = 0 from by unfold kReF; first | rw [if_pos (by omega)] | rw [if_neg (by omega), if_pos (by omega)] | rw [if_neg (by omega), if_neg (by omega), if_pos (by omega)] | rw [if_neg (by omega), if_neg (by omega), if_neg (by omega), if_pos (by omega)] | rw [if_neg (by omega), if_neg (by omega), if_neg (by omega), if_neg (by omega)] | rw [if_neg (by omega), if_neg (by omega), if_neg (by omega)] | rw [if_neg (by omega), if_neg (by omega)] | rw [if_neg (by omega)]), rfl, rfl⟩⟩ | exact ⟨us (us P 0 0) 0 2, Eq.trans (show (us (us P 0 0) 0 2).1 0 = 2 from rfl) (show kReF S i = 2 from by unfold kReF; first | rw [if_pos (by omega)] | rw [if_neg (by omega), if_pos (by omega)] | rw [if_neg (by omega), if_neg (by omega), if_pos (by omega)] | rw [if_neg (by omega), if_neg (by omega), if_neg (by omega), if_pos (by omega)] | rw [if_neg (by omega), if_neg (by omega), if_neg (by omega), if_neg (by omega)] | rw [if_neg (by omega), if_neg (by omega), if_neg (by omega)] | rw [if_neg (by omega), if_neg (by omega)] | rw [if_neg (by omega)]).symm, Or.inr ⟨by have h0 := (show kReF S i = 2 from by unfold kReF; first | rw [if_pos (by omega)] | rw [if_neg (by omega), if_pos (by omega)] | rw [if_neg (by omega), if_neg (by omega), if_pos (by omega)] | rw [if_neg (by omega), if_neg (by omega), if_neg (by omega), if_pos (by omega)] | rw [if_neg (by omega), if_neg (by omega), if_neg (by omega), if_neg (by omega)] | rw [if_neg (by omega), if_neg (by omega), if_neg (by omega)] | rw [if_neg (by omega), if_neg (by omega)] | rw [if_neg (by omega)]); omega, rfl⟩⟩)
  · have d16 : ¬ (0 ≤ i ∧ i ≤ S.1 0 - 1) := ite_f c16
    refine aw_aload_n C dX3_releaseFrom_19 rfl ?_
    refine aw_iconst C dX3_releaseFrom_20 ?_
    refine cV1i (ci := 3) (q0 := 0) C hN (c_X3_fails) (cwV 1 hts gX3_releaseFrom_X3_fails rfl rfl rfl (by decide +kernel) ⟨Nat.le_of_ble_eq_true rfl, Nat.le_of_ble_eq_true rfl⟩) rfl rfl rfl rfl dX3_releaseFrom_21 ⟨Nat.zero_le _, Nat.zero_le _⟩ (fun r21 u21 q21 => ?_)
    obtain ⟨rfl, rfl⟩ := q21
    exact aw_iret C dX3_releaseFrom_24 ⟨us (us P 0 0) 0 1, Eq.trans (show (us (us P 0 0) 0 1).1 0 = 1 from rfl) (show kReF S i = 1 from by unfold kReF; first | rw [if_pos (by omega)] | rw [if_neg (by omega), if_pos (by omega)] | rw [if_neg (by omega), if_neg (by omega), if_pos (by omega)] | rw [if_neg (by omega), if_neg (by omega), if_neg (by omega), if_pos (by omega)] | rw [if_neg (by omega), if_neg (by omega), if_neg (by omega), if_neg (by omega)] | rw [if_neg (by omega), if_neg (by omega), if_neg (by omega)] | rw [if_neg (by omega), if_neg (by omega)] | rw [if_neg (by omega)]).symm, Or.inr ⟨by have h0 := (show kReF S i = 1 from by unfold kReF; first | rw [if_pos (by omega)] | rw [if_neg (by omega), if_pos (by omega)] | rw [if_neg (by omega), if_neg (by omega), if_pos (by omega)] | rw [if_neg (by omega), if_neg (by omega), if_neg (by omega), if_pos (by omega)] | rw [if_neg (by omega), if_neg (by omega), if_neg (by omega), if_neg (by omega)] | rw [if_neg (by omega), if_neg (by omega), if_neg (by omega)] | rw [if_neg (by omega), if_neg (by omega)] | rw [if_neg (by omega)]); omega, rfl⟩⟩
/-- with bodies in lanes, one lane is the best -/
theorem bl_some {S : St} (hI : Inv S) (h1 : 0 < nlS S) (h2 : nlS S ≤ 12) : ¬ blS S = -1 := by
  obtain ⟨hz6, hz, -⟩ := szS hI
  have h5 := nlS_5 hI
  have hv : vT (S.2 0) zT := fun i h0 h5 => ⟨Int.le_refl 0, hz i h0 h5⟩
  have hr := rmT_z (S.2 0)
  obtain ⟨f, hf⟩ : ∃ f : Nat, (rmT (S.2 0) zT).toNat = f + 1 := ⟨(rmT (S.2 0) zT).toNat - 1, by omega⟩
  have hm := mC_b (wt := wtS S) (f + 1) zT (S.1 8) hv (by omega)
  have hfw : fwS S (S.1 8) = mC (S.2 0) (wtS S) (f + 1) zT (S.1 8) := by unfold fwS; rw [hf]
  intro hb
  rcases mnL_at (fun i => decide (zT i < S.2 0 i)) (fun i => chg (S.1 8) (wtS S i (zT i)) + mC (S.2 0) (wtS S) f (upT zT i) (wtS S i (zT i))) 5 with e | ⟨k, k0, k5, k2, k3⟩
  · have e2 : mC (S.2 0) (wtS S) (f + 1) zT (S.1 8) = 1000 := e
    omega
  · have h6 := fstB_none hb k k0 k5
    have h7 : 0 < S.2 0 k := of_decide_eq_true k2
    have h8 : fiS S k (S.1 8) = fwS S (S.1 8) := by
      rw [hfw]
      unfold fiS
      rw [rmT_up k0 (by omega), show (rmT (S.2 0) zT - 1).toNat = f by omega]
      exact k3.symm
    exact absurd (⟨h7, h8⟩ : 0 < S.2 0 k ∧ fiS S k (S.1 8) = fwS S (S.1 8)) (of_decide_eq_false h6)
theorem bl_none {S : St} (hI : Inv S) (h : nlS S = 0) : blS S = -1 := by
  have h5 := nlS_5 hI
  have hz := hI.2.1
  have z0 := hz 0 (by omega) (by omega)
  have z1 := hz 1 (by omega) (by omega)
  have z2 := hz 2 (by omega) (by omega)
  have z3 := hz 3 (by omega) (by omega)
  have z4 := hz 4 (by omega) (by omega)
  by_cases e : blS S = -1
  · exact e
  · have h1 := blS_pos e
    have h2 := blS_b S
    rcases i5 (i := blS S) (by omega) h2.2 with h | h | h | h | h <;> rw [h] at h1 <;> omega
/-- the lanes of use are enough to find it -/
theorem bl_lanes {S : St} (hI : Inv S) {k : Nat} (hk : (k : Int) < S.1 0) (h : fstB (fun i => decide (0 < S.2 0 i ∧ fiS S i (S.1 8) = fwS S (S.1 8))) k = -1) (h2 : 0 < S.2 0 k) (h3 : fiS S k (S.1 8) = fwS S (S.1 8)) : blS S = k := by
  have hn := hI.1
  exact fstB_at h (decide_eq_true ⟨h2, h3⟩) (by omega)
theorem bl_end {S : St} (hI : Inv S) (h : fstB (fun i => decide (0 < S.2 0 i ∧ fiS S i (S.1 8) = fwS S (S.1 8))) (S.1 0).toNat = -1) : blS S = -1 := by
  by_cases e : blS S = -1
  · exact e
  · have h1 := blS_pos e
    have h2 := blS_b S
    have hn := hI.1
    have h3 : ¬ S.1 0 ≤ blS S := fun g => by
      have := (hI.2.1 (blS S) (by omega) h2.2).2.2 g
      omega
    have h4 := fstB_none h (blS S) (by omega) (by omega)
    have h5 : decide (0 < S.2 0 (blS S) ∧ fiS S (blS S) (S.1 8) = fwS S (S.1 8)) = true := fstB_ok (p := fun i => decide (0 < S.2 0 i ∧ fiS S i (S.1 8) = fwS S (S.1 8))) (n := 5) e
    rw [h5] at h4
    cases h4
set_option maxHeartbeats 4000000 in
set_option maxRecDepth 100000 in
theorem c_X3_releaseBest {l : Launch} {G : va_G × (Nat → ClassId)} {am : Nat → Nat} {S P : St} (hI : Inv S) : Mi l G yX3_releaseBest wsX3_releaseBest ({ frames := 2, cells := 0, slots := 0, locals := 43 } : Room) [.ref (am 0)] (WM G.2 am S P) (fun r u => ∃ P9 : St, P9.1 0 = kReB S ∧ ((kReB S = 0 ∧ r = atS S (blS S) 0 ∧ u = WM G.2 am (relS S (blS S)) P9) ∨ (¬ kReB S = 0 ∧ u = WM G.2 am S P9))) := by
  refine Mi.of (own := RX3) (cc := cX3_releaseBest) (maxL := 5) (ret := (some .int)) (by decide) rfl rfl rfl ?_
  intro p e s m args below meth c A C hN
  have hts := C.2.2.2.2.1
  have iFX3 : ∀ w ∈ u_ws RX3 TX3 19, w ∈ wsX3_releaseBest := by decide +kernel
  have k_35 := hts (.fieldLink RX3 35 "PaintSequencerModel" "thrown" "I") (by decide +kernel)
  have k_39 := hts (.fieldLink RX3 39 "PaintSequencerModel" "lanes" "I") (by decide +kernel)
  have k_13 := hts (.fieldLink RX3 13 "PaintSequencerModel" "size" "[I") (by decide +kernel)
  have k_16 := hts (.fieldLink RX3 16 "PaintSequencerModel" "colours" "[I") (by decide +kernel)
  have k_28 := hts (.fieldLink RX3 28 "PaintSequencerModel" "least" "[I") (by decide +kernel)
  have k_25 := hts (.fieldLink RX3 25 "PaintSequencerModel" "weights" "[I") (by decide +kernel)
  have k_60 := hts (.fieldLink RX3 60 "PaintSequencerModel" "latestColour" "I") (by decide +kernel)
  obtain ⟨hn, hz, hr, hc, hp, ha, hq, ht⟩ := id hI
  have hL9 : 1 ≤ S.1 0 ∧ S.1 0 ≤ 5 := by omega
  have hB9 : 0 ≤ S.1 5 ∧ S.1 5 ≤ 99 := by omega
  obtain ⟨hz6, hz5, hst5⟩ := szS hI
  have h5n := nlS_5 hI
  have h432 : nlS S ≤ 12 → stN (S.2 0) 5 ≤ 432 := fun h => stN_432 hz6 (by omega)
  have z0 := hz6 0 (by omega) (by omega)
  have z1 := hz6 1 (by omega) (by omega)
  have z2 := hz6 2 (by omega) (by omega)
  have z3 := hz6 3 (by omega) (by omega)
  have z4 := hz6 4 (by omega) (by omega)
  have hbn := fun h => bl_none hI h
  have hbs9 := fun h1 h2 => bl_some hI h1 h2
  refine aw_aload_n C dX3_releaseBest_0 rfl ?_
  refine aw_iconst C dX3_releaseBest_1 ?_
  refine aw_put (q0 := 0) (k := 18) C iFX3 tyX3_ok nmX3 k_35 rfl rfl rfl rfl rfl rfl (wm_f18 _ _ _ _ _) dX3_releaseBest_2 ?_
  refine aw_aload_n C dX3_releaseBest_5 rfl ?_
  refine cV0i (ci := 3) (q0 := 0) C hN (c_X3_inLanes hI) (cwV 0 hts gX3_releaseBest_X3_inLanes rfl rfl rfl (by decide +kernel) ⟨Nat.le_of_ble_eq_true rfl, Nat.le_of_ble_eq_true rfl⟩) rfl rfl rfl rfl dX3_releaseBest_6 ⟨Nat.zero_le _, Nat.zero_le _⟩ (fun r6 u6 q6 => ?_)
  obtain ⟨rfl, rfl⟩ := q6
  refine aw_if_eq (tgt := 28) C dX3_releaseBest_9 (by decide) (by omega) (fun c9 => ?_) (fun c9 => ?_)
  · refine aw_aload_n C dX3_releaseBest_28 rfl ?_
    refine aw_iconst C dX3_releaseBest_29 ?_
    refine cV1i (ci := 3) (q0 := 0) C hN (c_X3_fails) (cwV 1 hts gX3_releaseBest_X3_fails rfl rfl rfl (by decide +kernel) ⟨Nat.le_of_ble_eq_true rfl, Nat.le_of_ble_eq_true rfl⟩) rfl rfl rfl rfl dX3_releaseBest_30 ⟨Nat.zero_le _, Nat.zero_le _⟩ (fun r30 u30 q30 => ?_)
    obtain ⟨rfl, rfl⟩ := q30
    exact aw_iret C dX3_releaseBest_33 ⟨us (us P 0 0) 0 1, Eq.trans (show (us (us P 0 0) 0 1).1 0 = 1 from rfl) (show kReB S = 1 from by unfold kReB; first | rw [if_pos (by omega)] | rw [if_neg (by omega), if_pos (by omega)] | rw [if_neg (by omega), if_neg (by omega), if_pos (by omega)] | rw [if_neg (by omega), if_neg (by omega), if_neg (by omega), if_pos (by omega)] | rw [if_neg (by omega), if_neg (by omega), if_neg (by omega), if_neg (by omega)] | rw [if_neg (by omega), if_neg (by omega), if_neg (by omega)] | rw [if_neg (by omega), if_neg (by omega)] | rw [if_neg (by omega)]).symm, Or.inr ⟨by have h0 := (show kReB S = 1 from by unfold kReB; first | rw [if_pos (by omega)] | rw [if_neg (by omega), if_pos (by omega)] | rw [if_neg (by omega), if_neg (by omega), if_pos (by omega)] | rw [if_neg (by omega), if_neg (by omega), if_neg (by omega), if_pos (by omega)] | rw [if_neg (by omega), if_neg (by omega), if_neg (by omega), if_neg (by omega)] | rw [if_neg (by omega), if_neg (by omega), if_neg (by omega)] | rw [if_neg (by omega), if_neg (by omega)] | rw [if_neg (by omega)]); omega, rfl⟩⟩
  · refine aw_aload_n C dX3_releaseBest_12 rfl ?_
    refine cV0i (ci := 3) (q0 := 0) C hN (c_X3_inLanes hI) (cwV 0 hts gX3_releaseBest_X3_inLanes rfl rfl rfl (by decide +kernel) ⟨Nat.le_of_ble_eq_true rfl, Nat.le_of_ble_eq_true rfl⟩) rfl rfl rfl rfl dX3_releaseBest_13 ⟨Nat.zero_le _, Nat.zero_le _⟩ (fun r13 u13 q13 => ?_)
    obtain ⟨rfl, rfl⟩ := q13
    refine aw_bipush C dX3_releaseBest_16 rfl ?_
    refine aw_icmp_gt (tgt := 28) C dX3_releaseBest_18 (by decide) (by omega) (by omega) (fun c18 => ?_) (fun c18 => ?_)
    · refine aw_aload_n C dX3_releaseBest_28 rfl ?_
      refine aw_iconst C dX3_releaseBest_29 ?_
      refine cV1i (ci := 3) (q0 := 0) C hN (c_X3_fails) (cwV 1 hts gX3_releaseBest_X3_fails rfl rfl rfl (by decide +kernel) ⟨Nat.le_of_ble_eq_true rfl, Nat.le_of_ble_eq_true rfl⟩) rfl rfl rfl rfl dX3_releaseBest_30 ⟨Nat.zero_le _, Nat.zero_le _⟩ (fun r30 u30 q30 => ?_)
      obtain ⟨rfl, rfl⟩ := q30
      exact aw_iret C dX3_releaseBest_33 ⟨us (us P 0 0) 0 1, Eq.trans (show (us (us P 0 0) 0 1).1 0 = 1 from rfl) (show kReB S = 1 from by unfold kReB; first | rw [if_pos (by omega)] | rw [if_neg (by omega), if_pos (by omega)] | rw [if_neg (by omega), if_neg (by omega), if_pos (by omega)] | rw [if_neg (by omega), if_neg (by omega), if_neg (by omega), if_pos (by omega)] | rw [if_neg (by omega), if_neg (by omega), if_neg (by omega), if_neg (by omega)] | rw [if_neg (by omega), if_neg (by omega), if_neg (by omega)] | rw [if_neg (by omega), if_neg (by omega)] | rw [if_neg (by omega)]).symm, Or.inr ⟨by have h0 := (show kReB S = 1 from by unfold kReB; first | rw [if_pos (by omega)] | rw [if_neg (by omega), if_pos (by omega)] | rw [if_neg (by omega), if_neg (by omega), if_pos (by omega)] | rw [if_neg (by omega), if_neg (by omega), if_neg (by omega), if_pos (by omega)] | rw [if_neg (by omega), if_neg (by omega), if_neg (by omega), if_neg (by omega)] | rw [if_neg (by omega), if_neg (by omega), if_neg (by omega)] | rw [if_neg (by omega), if_neg (by omega)] | rw [if_neg (by omega)]); omega, rfl⟩⟩
    · refine aw_aload_n C dX3_releaseBest_21 rfl ?_
      refine cV0i (ci := 3) (q0 := 0) C hN (c_X3_isFull hI) (cwV 0 hts gX3_releaseBest_X3_isFull rfl rfl rfl (by decide +kernel) ⟨Nat.le_of_ble_eq_true rfl, Nat.le_of_ble_eq_true rfl⟩) rfl rfl rfl rfl dX3_releaseBest_22 ⟨Nat.zero_le _, Nat.zero_le _⟩ (fun r22 u22 q22 => ?_)
      obtain ⟨rfl, rfl⟩ := q22
      refine aw_if_eq (tgt := 34) C dX3_releaseBest_25 (by decide) (by split <;> omega) (fun c25 => ?_) (fun c25 => ?_)
      · have d25 := ite_f c25
        refine aw_aload_n C dX3_releaseBest_34 rfl ?_
        refine cV0i (ci := 3) (q0 := 0) C hN (c_X3_layLeast hI (by omega)) (cwV 0 hts gX3_releaseBest_X3_layLeast rfl rfl rfl (by decide +kernel) ⟨Nat.le_of_ble_eq_true rfl, Nat.le_of_ble_eq_true rfl⟩) rfl rfl rfl rfl dX3_releaseBest_35 ⟨Nat.zero_le _, Nat.zero_le _⟩ (fun r35 u35 q35 => ?_)
        obtain ⟨rfl, P9, rfl, hP9, hW, hT⟩ := q35
        refine aw_istore_n C dX3_releaseBest_38 rfl rfl ?_
        refine aw_iconst C dX3_releaseBest_39 ?_
        refine aw_istore_n C dX3_releaseBest_40 rfl rfl ?_
        have hbs := bl_some hI (by omega) (by omega)
        have hvz : vT (S.2 0) zT := fun i g0 g5 => ⟨Int.le_refl 0, hz5 i g0 g5⟩
        have hfwb := mC_12 (wt := wtS S) (show S.2 0 0 + S.2 0 1 + S.2 0 2 + S.2 0 3 + S.2 0 4 ≤ 12 by omega) hvz (S.1 8)
        have hfw9 : fwS S (S.1 8) = mC (S.2 0) (wtS S) (rmT (S.2 0) zT).toNat zT (S.1 8) := rfl
        have lp : ∀ (n : Nat) (k : Nat), (k : Int) ≤ S.1 0 → S.1 0 - k < n → fstB (fun i => decide (0 < S.2 0 i ∧ fiS S i (S.1 8) = fwS S (S.1 8))) k = -1 → AW p l e (headSpec wsX3_releaseBest ({ frames := 2, cells := 0, slots := 0, locals := 43 } : Room)).room s m args below meth c 5 G A s.heap 0 0 (MQ below (QPi G (fun r u => ∃ P9 : St, P9.1 0 = kReB S ∧ ((kReB S = 0 ∧ r = atS S (blS S) 0 ∧ u = WM G.2 am (relS S (blS S)) P9) ∨ (¬ kReB S = 0 ∧ u = WM G.2 am S P9))) A) args s 0 0 A) (WM G.2 am S P9) [(0, .ref (am 0)), (1, .int (zI (fwS S (S.1 8)))), (2, .int (zI k))] 41 [] := by
          intro n
          induction n with
          | zero =>
            intro k h1 h2 h3
            exfalso
            omega
          | succ n ih =>
            intro k h1 h2 h3
            refine aw_iload_n C dX3_releaseBest_41 rfl ?_
            refine aw_aload_n C dX3_releaseBest_42 rfl ?_
            refine aw_get (q0 := 0) (k := 0) C iFX3 k_39 rfl rfl rfl rfl dX3_releaseBest_43 ?_
            refine aw_icmp_ge (tgt := 127) C dX3_releaseBest_46 (by decide) (by omega) (by omega) (fun c46 => ?_) (fun c46 => ?_)
            · refine aw_iconst C dX3_releaseBest_127 ?_
              exact aw_iret C dX3_releaseBest_128 (by
                exfalso
                exact hbs (bl_end hI (by rw [show (S.1 0).toNat = k by omega]; exact h3)))
            · have hzk := hz k (by omega) (by omega)
              refine aw_aload_n C dX3_releaseBest_49 rfl ?_
              refine aw_get (q0 := 0) (k := 6) C iFX3 k_13 rfl rfl rfl rfl dX3_releaseBest_50 ?_
              refine aw_iload_n C dX3_releaseBest_53 rfl ?_
              refine aw_ldI (q0 := 2) C rfl (by omega) (by omega) rfl dX3_releaseBest_54 ?_
              refine aw_if_le (tgt := 121) C dX3_releaseBest_55 (by decide) (by omega) (fun c55 => ?_) (fun c55 => ?_)
              · refine aw_iinc C dX3_releaseBest_121 rfl rfl rfl ?_
                refine aw_goto (tgt := 41) C dX3_releaseBest_124 (by decide) ?_
                refine aw_less ?_ (ih (k + 1) (by omega) (by omega) (fstB_no h3 (decide_eq_false ?_)))
                · exact fun q hq => List.mem_of_mem_take (i := 3) hq
                rintro ⟨j1, j2⟩
                first
                | (exfalso; omega)
                | (refine c112 ?_
                   rw [← j2]
                   unfold fiS
                   first
                   | (rw [show chg (S.1 8) (wtS S k 0) = 0 from if_pos (Or.inl c90)]; omega)
                   | (rw [show chg (S.1 8) (wtS S k 0) = 0 from if_pos (Or.inr c98)]; omega)
                   | (rw [show chg (S.1 8) (wtS S k 0) = 1 from if_neg (by rintro (h | h); exact c90 h; exact c98 h)]; omega))
              · have heB : atS S k 0 = S.2 (10 + (k : Int).toNat) 0 := if_pos ⟨Int.le_refl 0, c55⟩
                have hwb := wtS_b hI (i := (k : Int)) (q := 0) (by omega) (by omega) (by omega) c55
                have hwk := hW k (by omega) (by omega)
                have hfi := TM_fi hI hT (i := (k : Int)) (by omega) (by omega) c55
                have hmm := mC_12 (wt := wtS S) (show S.2 0 0 + S.2 0 1 + S.2 0 2 + S.2 0 3 + S.2 0 4 ≤ 12 by omega) (vT_up (i := (k : Int)) hvz c55) (wtS S k 0)
                refine aw_aload_n C dX3_releaseBest_58 rfl ?_
                refine aw_get (q0 := 0) (k := 8) C iFX3 k_16 rfl rfl rfl rfl dX3_releaseBest_59 ?_
                refine aw_aload_n C dX3_releaseBest_62 rfl ?_
                refine aw_iload_n C dX3_releaseBest_63 rfl ?_
                refine cV1i (ci := 3) (q0 := 0) C hN (c_X3_head hI (by omega) (by omega)) (cwV 1 hts gX3_releaseBest_X3_head rfl rfl rfl (by decide +kernel) ⟨Nat.le_of_ble_eq_true rfl, Nat.le_of_ble_eq_true rfl⟩) rfl rfl rfl rfl dX3_releaseBest_64 ⟨Nat.zero_le _, Nat.zero_le _⟩ (fun r64 u64 q64 => ?_)
                obtain ⟨rfl, rfl⟩ := q64
                rw [heB]
                refine aw_ldI (q0 := 3) C rfl (by omega) (by omega) rfl dX3_releaseBest_67 ?_
                refine aw_top (y := wtS S k 0) rfl ?_
                refine aw_istore_n C dX3_releaseBest_68 rfl rfl ?_
                refine aw_aload_n C dX3_releaseBest_69 rfl ?_
                refine aw_get (q0 := 0) (k := 17) C iFX3 k_28 rfl rfl rfl rfl dX3_releaseBest_70 ?_
                refine aw_bipush C dX3_releaseBest_73 rfl ?_
                refine aw_aload_n C dX3_releaseBest_75 rfl ?_
                refine aw_get (q0 := 0) (k := 16) C iFX3 k_25 rfl rfl rfl rfl dX3_releaseBest_76 ?_
                refine aw_iload_n C dX3_releaseBest_79 rfl ?_
                refine aw_ldI (q0 := 6) C rfl (by omega) (by omega) rfl dX3_releaseBest_80 ?_
                rw [hwk]
                refine aw_imul C dX3_releaseBest_81 ?_
                refine aw_iload_n C dX3_releaseBest_82 rfl ?_
                refine aw_iadd C dX3_releaseBest_83 ?_
                refine aw_ldI (q0 := 7) C rfl (by omega) (by omega) rfl dX3_releaseBest_84 ?_
                refine aw_top hfi.1 ?_
                refine aw_aload_n C dX3_releaseBest_85 rfl ?_
                refine aw_get (q0 := 0) (k := 14) C iFX3 k_60 rfl rfl rfl rfl dX3_releaseBest_86 ?_
                refine aw_iconst C dX3_releaseBest_89 ?_
                refine aw_icmp_eq (tgt := 105) C dX3_releaseBest_90 (by decide) (by omega) (by omega) (fun c90 => ?_) (fun c90 => ?_)
                · refine aw_iconst C dX3_releaseBest_105 ?_
                  refine aw_iadd C dX3_releaseBest_106 ?_
                  refine aw_istore C dX3_releaseBest_107 rfl rfl ?_
                  refine aw_iload C dX3_releaseBest_109 rfl ?_
                  refine aw_iload_n C dX3_releaseBest_111 rfl ?_
                  refine aw_icmp_ne (tgt := 121) C dX3_releaseBest_112 (by decide) (by omega) (by omega) (fun c112 => ?_) (fun c112 => ?_)
                  · refine aw_iinc C dX3_releaseBest_121 rfl rfl rfl ?_
                    refine aw_goto (tgt := 41) C dX3_releaseBest_124 (by decide) ?_
                    refine aw_less ?_ (ih (k + 1) (by omega) (by omega) (fstB_no h3 (decide_eq_false ?_)))
                    · exact fun q hq => List.mem_of_mem_take (i := 3) hq
                    rintro ⟨j1, j2⟩
                    first
                    | (exfalso; omega)
                    | (refine c112 ?_
                       rw [← j2]
                       unfold fiS
                       first
                       | (rw [show chg (S.1 8) (wtS S k 0) = 0 from if_pos (Or.inl c90)]; omega)
                       | (rw [show chg (S.1 8) (wtS S k 0) = 0 from if_pos (Or.inr c98)]; omega)
                       | (rw [show chg (S.1 8) (wtS S k 0) = 1 from if_neg (by rintro (h | h); exact c90 h; exact c98 h)]; omega))
                  · have hfk : fiS S k (S.1 8) = fwS S (S.1 8) := by
                      rw [← c112]
                      unfold fiS
                      first
                      | (rw [show chg (S.1 8) (wtS S k 0) = 0 from if_pos (Or.inl c90)]; omega)
                      | (rw [show chg (S.1 8) (wtS S k 0) = 0 from if_pos (Or.inr c98)]; omega)
                      | (rw [show chg (S.1 8) (wtS S k 0) = 1 from if_neg (by rintro (h | h); exact c90 h; exact c98 h)]; omega)
                    have hbk := bl_lanes hI (k := k) (by omega) h3 c55 hfk
                    refine aw_aload_n C dX3_releaseBest_115 rfl ?_
                    refine aw_iload_n C dX3_releaseBest_116 rfl ?_
                    refine cV1i (ci := 3) (q0 := 0) C hN (c_X3_take hI (by omega) (by omega) c55) (cwV 1 hts gX3_releaseBest_X3_take rfl rfl rfl (by decide +kernel) ⟨Nat.le_of_ble_eq_true rfl, Nat.le_of_ble_eq_true rfl⟩) rfl rfl rfl rfl dX3_releaseBest_117 ⟨Nat.zero_le _, Nat.zero_le _⟩ (fun r117 u117 q117 => ?_)
                    obtain ⟨rfl, rfl⟩ := q117
                    exact aw_iret C dX3_releaseBest_120 ⟨P9, Eq.trans (show P9.1 0 = 0 by rw [hP9]; rfl) (show kReB S = 0 from by unfold kReB; first | rw [if_pos (by omega)] | rw [if_neg (by omega), if_pos (by omega)] | rw [if_neg (by omega), if_neg (by omega), if_pos (by omega)] | rw [if_neg (by omega), if_neg (by omega), if_neg (by omega), if_pos (by omega)] | rw [if_neg (by omega), if_neg (by omega), if_neg (by omega), if_neg (by omega)] | rw [if_neg (by omega), if_neg (by omega), if_neg (by omega)] | rw [if_neg (by omega), if_neg (by omega)] | rw [if_neg (by omega)]).symm, Or.inl ⟨(show kReB S = 0 from by unfold kReB; first | rw [if_pos (by omega)] | rw [if_neg (by omega), if_pos (by omega)] | rw [if_neg (by omega), if_neg (by omega), if_pos (by omega)] | rw [if_neg (by omega), if_neg (by omega), if_neg (by omega), if_pos (by omega)] | rw [if_neg (by omega), if_neg (by omega), if_neg (by omega), if_neg (by omega)] | rw [if_neg (by omega), if_neg (by omega), if_neg (by omega)] | rw [if_neg (by omega), if_neg (by omega)] | rw [if_neg (by omega)]), by rw [hbk], by rw [hbk]⟩⟩
                · refine aw_aload_n C dX3_releaseBest_93 rfl ?_
                  refine aw_get (q0 := 0) (k := 14) C iFX3 k_60 rfl rfl rfl rfl dX3_releaseBest_94 ?_
                  refine aw_iload_n C dX3_releaseBest_97 rfl ?_
                  refine aw_icmp_eq (tgt := 105) C dX3_releaseBest_98 (by decide) (by omega) (by omega) (fun c98 => ?_) (fun c98 => ?_)
                  · refine aw_iconst C dX3_releaseBest_105 ?_
                    refine aw_iadd C dX3_releaseBest_106 ?_
                    refine aw_istore C dX3_releaseBest_107 rfl rfl ?_
                    refine aw_iload C dX3_releaseBest_109 rfl ?_
                    refine aw_iload_n C dX3_releaseBest_111 rfl ?_
                    refine aw_icmp_ne (tgt := 121) C dX3_releaseBest_112 (by decide) (by omega) (by omega) (fun c112 => ?_) (fun c112 => ?_)
                    · refine aw_iinc C dX3_releaseBest_121 rfl rfl rfl ?_
                      refine aw_goto (tgt := 41) C dX3_releaseBest_124 (by decide) ?_
                      refine aw_less ?_ (ih (k + 1) (by omega) (by omega) (fstB_no h3 (decide_eq_false ?_)))
                      · exact fun q hq => List.mem_of_mem_take (i := 3) hq
                      rintro ⟨j1, j2⟩
                      first
                      | (exfalso; omega)
                      | (refine c112 ?_
                         rw [← j2]
                         unfold fiS
                         first
                         | (rw [show chg (S.1 8) (wtS S k 0) = 0 from if_pos (Or.inl c90)]; omega)
                         | (rw [show chg (S.1 8) (wtS S k 0) = 0 from if_pos (Or.inr c98)]; omega)
                         | (rw [show chg (S.1 8) (wtS S k 0) = 1 from if_neg (by rintro (h | h); exact c90 h; exact c98 h)]; omega))
                    · have hfk : fiS S k (S.1 8) = fwS S (S.1 8) := by
                        rw [← c112]
                        unfold fiS
                        first
                        | (rw [show chg (S.1 8) (wtS S k 0) = 0 from if_pos (Or.inl c90)]; omega)
                        | (rw [show chg (S.1 8) (wtS S k 0) = 0 from if_pos (Or.inr c98)]; omega)
                        | (rw [show chg (S.1 8) (wtS S k 0) = 1 from if_neg (by rintro (h | h); exact c90 h; exact c98 h)]; omega)
                      have hbk := bl_lanes hI (k := k) (by omega) h3 c55 hfk
                      refine aw_aload_n C dX3_releaseBest_115 rfl ?_
                      refine aw_iload_n C dX3_releaseBest_116 rfl ?_
                      refine cV1i (ci := 3) (q0 := 0) C hN (c_X3_take hI (by omega) (by omega) c55) (cwV 1 hts gX3_releaseBest_X3_take rfl rfl rfl (by decide +kernel) ⟨Nat.le_of_ble_eq_true rfl, Nat.le_of_ble_eq_true rfl⟩) rfl rfl rfl rfl dX3_releaseBest_117 ⟨Nat.zero_le _, Nat.zero_le _⟩ (fun r117 u117 q117 => ?_)
                      obtain ⟨rfl, rfl⟩ := q117
                      exact aw_iret C dX3_releaseBest_120 ⟨P9, Eq.trans (show P9.1 0 = 0 by rw [hP9]; rfl) (show kReB S = 0 from by unfold kReB; first | rw [if_pos (by omega)] | rw [if_neg (by omega), if_pos (by omega)] | rw [if_neg (by omega), if_neg (by omega), if_pos (by omega)] | rw [if_neg (by omega), if_neg (by omega), if_neg (by omega), if_pos (by omega)] | rw [if_neg (by omega), if_neg (by omega), if_neg (by omega), if_neg (by omega)] | rw [if_neg (by omega), if_neg (by omega), if_neg (by omega)] | rw [if_neg (by omega), if_neg (by omega)] | rw [if_neg (by omega)]).symm, Or.inl ⟨(show kReB S = 0 from by unfold kReB; first | rw [if_pos (by omega)] | rw [if_neg (by omega), if_pos (by omega)] | rw [if_neg (by omega), if_neg (by omega), if_pos (by omega)] | rw [if_neg (by omega), if_neg (by omega), if_neg (by omega), if_pos (by omega)] | rw [if_neg (by omega), if_neg (by omega), if_neg (by omega), if_neg (by omega)] | rw [if_neg (by omega), if_neg (by omega), if_neg (by omega)] | rw [if_neg (by omega), if_neg (by omega)] | rw [if_neg (by omega)]), by rw [hbk], by rw [hbk]⟩⟩
                  · refine aw_iconst C dX3_releaseBest_101 ?_
                    refine aw_goto (tgt := 106) C dX3_releaseBest_102 (by decide) ?_
                    refine aw_iadd C dX3_releaseBest_106 ?_
                    refine aw_istore C dX3_releaseBest_107 rfl rfl ?_
                    refine aw_iload C dX3_releaseBest_109 rfl ?_
                    refine aw_iload_n C dX3_releaseBest_111 rfl ?_
                    refine aw_icmp_ne (tgt := 121) C dX3_releaseBest_112 (by decide) (by omega) (by omega) (fun c112 => ?_) (fun c112 => ?_)
                    · refine aw_iinc C dX3_releaseBest_121 rfl rfl rfl ?_
                      refine aw_goto (tgt := 41) C dX3_releaseBest_124 (by decide) ?_
                      refine aw_less ?_ (ih (k + 1) (by omega) (by omega) (fstB_no h3 (decide_eq_false ?_)))
                      · exact fun q hq => List.mem_of_mem_take (i := 3) hq
                      rintro ⟨j1, j2⟩
                      first
                      | (exfalso; omega)
                      | (refine c112 ?_
                         rw [← j2]
                         unfold fiS
                         first
                         | (rw [show chg (S.1 8) (wtS S k 0) = 0 from if_pos (Or.inl c90)]; omega)
                         | (rw [show chg (S.1 8) (wtS S k 0) = 0 from if_pos (Or.inr c98)]; omega)
                         | (rw [show chg (S.1 8) (wtS S k 0) = 1 from if_neg (by rintro (h | h); exact c90 h; exact c98 h)]; omega))
                    · have hfk : fiS S k (S.1 8) = fwS S (S.1 8) := by
                        rw [← c112]
                        unfold fiS
                        first
                        | (rw [show chg (S.1 8) (wtS S k 0) = 0 from if_pos (Or.inl c90)]; omega)
                        | (rw [show chg (S.1 8) (wtS S k 0) = 0 from if_pos (Or.inr c98)]; omega)
                        | (rw [show chg (S.1 8) (wtS S k 0) = 1 from if_neg (by rintro (h | h); exact c90 h; exact c98 h)]; omega)
                      have hbk := bl_lanes hI (k := k) (by omega) h3 c55 hfk
                      refine aw_aload_n C dX3_releaseBest_115 rfl ?_
                      refine aw_iload_n C dX3_releaseBest_116 rfl ?_
                      refine cV1i (ci := 3) (q0 := 0) C hN (c_X3_take hI (by omega) (by omega) c55) (cwV 1 hts gX3_releaseBest_X3_take rfl rfl rfl (by decide +kernel) ⟨Nat.le_of_ble_eq_true rfl, Nat.le_of_ble_eq_true rfl⟩) rfl rfl rfl rfl dX3_releaseBest_117 ⟨Nat.zero_le _, Nat.zero_le _⟩ (fun r117 u117 q117 => ?_)
                      obtain ⟨rfl, rfl⟩ := q117
                      exact aw_iret C dX3_releaseBest_120 ⟨P9, Eq.trans (show P9.1 0 = 0 by rw [hP9]; rfl) (show kReB S = 0 from by unfold kReB; first | rw [if_pos (by omega)] | rw [if_neg (by omega), if_pos (by omega)] | rw [if_neg (by omega), if_neg (by omega), if_pos (by omega)] | rw [if_neg (by omega), if_neg (by omega), if_neg (by omega), if_pos (by omega)] | rw [if_neg (by omega), if_neg (by omega), if_neg (by omega), if_neg (by omega)] | rw [if_neg (by omega), if_neg (by omega), if_neg (by omega)] | rw [if_neg (by omega), if_neg (by omega)] | rw [if_neg (by omega)]).symm, Or.inl ⟨(show kReB S = 0 from by unfold kReB; first | rw [if_pos (by omega)] | rw [if_neg (by omega), if_pos (by omega)] | rw [if_neg (by omega), if_neg (by omega), if_pos (by omega)] | rw [if_neg (by omega), if_neg (by omega), if_neg (by omega), if_pos (by omega)] | rw [if_neg (by omega), if_neg (by omega), if_neg (by omega), if_neg (by omega)] | rw [if_neg (by omega), if_neg (by omega), if_neg (by omega)] | rw [if_neg (by omega), if_neg (by omega)] | rw [if_neg (by omega)]), by rw [hbk], by rw [hbk]⟩⟩
        refine lp 6 0 (by omega) (by omega) rfl
      · have d25 := ite_t c25
        refine aw_aload_n C dX3_releaseBest_28 rfl ?_
        refine aw_iconst C dX3_releaseBest_29 ?_
        refine cV1i (ci := 3) (q0 := 0) C hN (c_X3_fails) (cwV 1 hts gX3_releaseBest_X3_fails rfl rfl rfl (by decide +kernel) ⟨Nat.le_of_ble_eq_true rfl, Nat.le_of_ble_eq_true rfl⟩) rfl rfl rfl rfl dX3_releaseBest_30 ⟨Nat.zero_le _, Nat.zero_le _⟩ (fun r30 u30 q30 => ?_)
        obtain ⟨rfl, rfl⟩ := q30
        exact aw_iret C dX3_releaseBest_33 ⟨us (us P 0 0) 0 1, Eq.trans (show (us (us P 0 0) 0 1).1 0 = 1 from rfl) (show kReB S = 1 from by unfold kReB; first | rw [if_pos (by omega)] | rw [if_neg (by omega), if_pos (by omega)] | rw [if_neg (by omega), if_neg (by omega), if_pos (by omega)] | rw [if_neg (by omega), if_neg (by omega), if_neg (by omega), if_pos (by omega)] | rw [if_neg (by omega), if_neg (by omega), if_neg (by omega), if_neg (by omega)] | rw [if_neg (by omega), if_neg (by omega), if_neg (by omega)] | rw [if_neg (by omega), if_neg (by omega)] | rw [if_neg (by omega)]).symm, Or.inr ⟨by have h0 := (show kReB S = 1 from by unfold kReB; first | rw [if_pos (by omega)] | rw [if_neg (by omega), if_pos (by omega)] | rw [if_neg (by omega), if_neg (by omega), if_pos (by omega)] | rw [if_neg (by omega), if_neg (by omega), if_neg (by omega), if_pos (by omega)] | rw [if_neg (by omega), if_neg (by omega), if_neg (by omega), if_neg (by omega)] | rw [if_neg (by omega), if_neg (by omega), if_neg (by omega)] | rw [if_neg (by omega), if_neg (by omega)] | rw [if_neg (by omega)]); omega, rfl⟩⟩
set_option maxHeartbeats 4000000 in
set_option maxRecDepth 100000 in
theorem c_X3_sendBack {l : Launch} {G : va_G × (Nat → ClassId)} {am : Nat → Nat} {S P : St} (hI : Inv S) {b : Int} (hb : -2147483648 ≤ b ∧ b < 2147483648) : Mi l G yX3_sendBack wsX3_sendBack ({ frames := 2, cells := 0, slots := 0, locals := 43 } : Room) [.ref (am 0), .int (zI b)] (WM G.2 am S P) (fun r u => ∃ P9 : St, P9.1 0 = kSeB S b ∧ ((kSeB S b = 0 ∧ r = cnS (ua S 2 b 11) 11 ∧ u = WM G.2 am (ua S 2 b 11) P9) ∨ (¬ kSeB S b = 0 ∧ u = WM G.2 am S P9))) := by
  refine Mi.of (own := RX3) (cc := cX3_sendBack) (maxL := 2) (ret := (some .int)) (by decide) rfl rfl rfl ?_
  intro p e s m args below meth c A C hN
  have hts := C.2.2.2.2.1
  have iFX3 : ∀ w ∈ u_ws RX3 TX3 19, w ∈ wsX3_sendBack := by decide +kernel
  have k_35 := hts (.fieldLink RX3 35 "PaintSequencerModel" "thrown" "I") (by decide +kernel)
  have k_19 := hts (.fieldLink RX3 19 "PaintSequencerModel" "places" "[I") (by decide +kernel)
  obtain ⟨hn, hz, hr, hc, hp, ha, hq, ht⟩ := id hI
  have hL9 : 1 ≤ S.1 0 ∧ S.1 0 ≤ 5 := by omega
  have hB9 : 0 ≤ S.1 5 ∧ S.1 5 ≤ 99 := by omega
  refine aw_aload_n C dX3_sendBack_0 rfl ?_
  refine aw_iconst C dX3_sendBack_1 ?_
  refine aw_put (q0 := 0) (k := 18) C iFX3 tyX3_ok nmX3 k_35 rfl rfl rfl rfl rfl rfl (wm_f18 _ _ _ _ _) dX3_sendBack_2 ?_
  refine aw_aload_n C dX3_sendBack_5 rfl ?_
  refine aw_iload_n C dX3_sendBack_6 rfl ?_
  refine cV1i (ci := 3) (q0 := 0) C hN (c_X3_isBody (by exact hB9) hb) (cwV 1 hts gX3_sendBack_X3_isBody rfl rfl rfl (by decide +kernel) ⟨Nat.le_of_ble_eq_true rfl, Nat.le_of_ble_eq_true rfl⟩) rfl rfl rfl rfl dX3_sendBack_7 ⟨Nat.zero_le _, Nat.zero_le _⟩ (fun r7 u7 q7 => ?_)
  obtain ⟨rfl, rfl⟩ := q7
  refine aw_if_ne (tgt := 19) C dX3_sendBack_10 (by decide) (by split <;> omega) (fun c10 => ?_) (fun c10 => ?_)
  · have d10 : 0 ≤ b ∧ b < S.1 5 := ite_t c10
    have h8 := hp b (by omega) (by omega)
    refine aw_aload_n C dX3_sendBack_19 rfl ?_
    refine aw_get (q0 := 0) (k := 9) C iFX3 k_19 rfl rfl rfl rfl dX3_sendBack_20 ?_
    refine aw_iload_n C dX3_sendBack_23 rfl ?_
    refine aw_ldI (q0 := 4) C rfl (by omega) (by omega) rfl dX3_sendBack_24 ?_
    refine aw_bipush C dX3_sendBack_25 rfl ?_
    refine aw_icmp_eq (tgt := 36) C dX3_sendBack_27 (by decide) (by omega) (by omega) (fun c27 => ?_) (fun c27 => ?_)
    · refine aw_aload_n C dX3_sendBack_36 rfl ?_
      refine aw_get (q0 := 0) (k := 9) C iFX3 k_19 rfl rfl rfl rfl dX3_sendBack_37 ?_
      refine aw_iload_n C dX3_sendBack_40 rfl ?_
      refine aw_bipush C dX3_sendBack_41 rfl ?_
      refine aw_stI (q0 := 4) C rfl (by omega) (by omega) rfl (wm_a4 _ _ _ _ _ _) dX3_sendBack_43 ?_
      refine aw_aload_n C dX3_sendBack_44 rfl ?_
      refine aw_bipush C dX3_sendBack_45 rfl ?_
      refine cV1i (ci := 3) (q0 := 0) C hN (c_X3_countIn (by exact hB9) (fun j g0 g1 => by rw [ua_s]; have := hp j g0 g1; split <;> omega) (by omega)) (cwV 1 hts gX3_sendBack_X3_countIn rfl rfl rfl (by decide +kernel) ⟨Nat.le_of_ble_eq_true rfl, Nat.le_of_ble_eq_true rfl⟩) rfl rfl rfl rfl dX3_sendBack_47 ⟨Nat.zero_le _, Nat.zero_le _⟩ (fun r47 u47 q47 => ?_)
      obtain ⟨rfl, rfl⟩ := q47
      exact aw_iret C dX3_sendBack_50 ⟨(us P 0 0), Eq.trans (show ((us P 0 0)).1 0 = 0 from rfl) (show kSeB S b = 0 from by unfold kSeB; first | rw [if_pos (by omega)] | rw [if_neg (by omega), if_pos (by omega)] | rw [if_neg (by omega), if_neg (by omega), if_pos (by omega)] | rw [if_neg (by omega), if_neg (by omega), if_neg (by omega), if_pos (by omega)] | rw [if_neg (by omega), if_neg (by omega), if_neg (by omega), if_neg (by omega)] | rw [if_neg (by omega), if_neg (by omega), if_neg (by omega)] | rw [if_neg (by omega), if_neg (by omega)] | rw [if_neg (by omega)]).symm, Or.inl ⟨(show kSeB S b = 0 from by unfold kSeB; first | rw [if_pos (by omega)] | rw [if_neg (by omega), if_pos (by omega)] | rw [if_neg (by omega), if_neg (by omega), if_pos (by omega)] | rw [if_neg (by omega), if_neg (by omega), if_neg (by omega), if_pos (by omega)] | rw [if_neg (by omega), if_neg (by omega), if_neg (by omega), if_neg (by omega)] | rw [if_neg (by omega), if_neg (by omega), if_neg (by omega)] | rw [if_neg (by omega), if_neg (by omega)] | rw [if_neg (by omega)]), rfl, rfl⟩⟩
    · refine aw_aload_n C dX3_sendBack_30 rfl ?_
      refine aw_iconst C dX3_sendBack_31 ?_
      refine cV1i (ci := 3) (q0 := 0) C hN (c_X3_fails) (cwV 1 hts gX3_sendBack_X3_fails rfl rfl rfl (by decide +kernel) ⟨Nat.le_of_ble_eq_true rfl, Nat.le_of_ble_eq_true rfl⟩) rfl rfl rfl rfl dX3_sendBack_32 ⟨Nat.zero_le _, Nat.zero_le _⟩ (fun r32 u32 q32 => ?_)
      obtain ⟨rfl, rfl⟩ := q32
      exact aw_iret C dX3_sendBack_35 ⟨us (us P 0 0) 0 2, Eq.trans (show (us (us P 0 0) 0 2).1 0 = 2 from rfl) (show kSeB S b = 2 from by unfold kSeB; first | rw [if_pos (by omega)] | rw [if_neg (by omega), if_pos (by omega)] | rw [if_neg (by omega), if_neg (by omega), if_pos (by omega)] | rw [if_neg (by omega), if_neg (by omega), if_neg (by omega), if_pos (by omega)] | rw [if_neg (by omega), if_neg (by omega), if_neg (by omega), if_neg (by omega)] | rw [if_neg (by omega), if_neg (by omega), if_neg (by omega)] | rw [if_neg (by omega), if_neg (by omega)] | rw [if_neg (by omega)]).symm, Or.inr ⟨by have h0 := (show kSeB S b = 2 from by unfold kSeB; first | rw [if_pos (by omega)] | rw [if_neg (by omega), if_pos (by omega)] | rw [if_neg (by omega), if_neg (by omega), if_pos (by omega)] | rw [if_neg (by omega), if_neg (by omega), if_neg (by omega), if_pos (by omega)] | rw [if_neg (by omega), if_neg (by omega), if_neg (by omega), if_neg (by omega)] | rw [if_neg (by omega), if_neg (by omega), if_neg (by omega)] | rw [if_neg (by omega), if_neg (by omega)] | rw [if_neg (by omega)]); omega, rfl⟩⟩
  · have d10 : ¬ (0 ≤ b ∧ b < S.1 5) := ite_f c10
    refine aw_aload_n C dX3_sendBack_13 rfl ?_
    refine aw_iconst C dX3_sendBack_14 ?_
    refine cV1i (ci := 3) (q0 := 0) C hN (c_X3_fails) (cwV 1 hts gX3_sendBack_X3_fails rfl rfl rfl (by decide +kernel) ⟨Nat.le_of_ble_eq_true rfl, Nat.le_of_ble_eq_true rfl⟩) rfl rfl rfl rfl dX3_sendBack_15 ⟨Nat.zero_le _, Nat.zero_le _⟩ (fun r15 u15 q15 => ?_)
    obtain ⟨rfl, rfl⟩ := q15
    exact aw_iret C dX3_sendBack_18 ⟨us (us P 0 0) 0 1, Eq.trans (show (us (us P 0 0) 0 1).1 0 = 1 from rfl) (show kSeB S b = 1 from by unfold kSeB; first | rw [if_pos (by omega)] | rw [if_neg (by omega), if_pos (by omega)] | rw [if_neg (by omega), if_neg (by omega), if_pos (by omega)] | rw [if_neg (by omega), if_neg (by omega), if_neg (by omega), if_pos (by omega)] | rw [if_neg (by omega), if_neg (by omega), if_neg (by omega), if_neg (by omega)] | rw [if_neg (by omega), if_neg (by omega), if_neg (by omega)] | rw [if_neg (by omega), if_neg (by omega)] | rw [if_neg (by omega)]).symm, Or.inr ⟨by have h0 := (show kSeB S b = 1 from by unfold kSeB; first | rw [if_pos (by omega)] | rw [if_neg (by omega), if_pos (by omega)] | rw [if_neg (by omega), if_neg (by omega), if_pos (by omega)] | rw [if_neg (by omega), if_neg (by omega), if_neg (by omega), if_pos (by omega)] | rw [if_neg (by omega), if_neg (by omega), if_neg (by omega), if_neg (by omega)] | rw [if_neg (by omega), if_neg (by omega), if_neg (by omega)] | rw [if_neg (by omega), if_neg (by omega)] | rw [if_neg (by omega)]); omega, rfl⟩⟩
set_option maxHeartbeats 4000000 in
set_option maxRecDepth 100000 in
theorem c_X3_reenter {l : Launch} {G : va_G × (Nat → ClassId)} {am : Nat → Nat} {S P : St} (hI : Inv S) {b : Int} (hb : -2147483648 ≤ b ∧ b < 2147483648) : Mi l G yX3_reenter wsX3_reenter ({ frames := 3, cells := 0, slots := 0, locals := 66 } : Room) [.ref (am 0), .int (zI b)] (WM G.2 am S P) (fun r u => ∃ P9 : St, P9.1 0 = kRee S b ∧ ((kRee S b = 0 ∧ r = inS S (S.2 1 b) ∧ u = WM G.2 am (putS S (inS S (S.2 1 b)) b) P9) ∨ (¬ kRee S b = 0 ∧ u = WM G.2 am S P9))) := by
  refine Mi.of (own := RX3) (cc := cX3_reenter) (maxL := 3) (ret := (some .int)) (by decide) rfl rfl rfl ?_
  intro p e s m args below meth c A C hN
  have hts := C.2.2.2.2.1
  have iFX3 : ∀ w ∈ u_ws RX3 TX3 19, w ∈ wsX3_reenter := by decide +kernel
  have k_35 := hts (.fieldLink RX3 35 "PaintSequencerModel" "thrown" "I") (by decide +kernel)
  have k_16 := hts (.fieldLink RX3 16 "PaintSequencerModel" "colours" "[I") (by decide +kernel)
  have k_19 := hts (.fieldLink RX3 19 "PaintSequencerModel" "places" "[I") (by decide +kernel)
  obtain ⟨hn, hz, hr, hc, hp, ha, hq, ht⟩ := id hI
  have hL9 : 1 ≤ S.1 0 ∧ S.1 0 ≤ 5 := by omega
  have hB9 : 0 ≤ S.1 5 ∧ S.1 5 ≤ 99 := by omega
  refine aw_aload_n C dX3_reenter_0 rfl ?_
  refine aw_iconst C dX3_reenter_1 ?_
  refine aw_put (q0 := 0) (k := 18) C iFX3 tyX3_ok nmX3 k_35 rfl rfl rfl rfl rfl rfl (wm_f18 _ _ _ _ _) dX3_reenter_2 ?_
  refine aw_aload_n C dX3_reenter_5 rfl ?_
  refine aw_iload_n C dX3_reenter_6 rfl ?_
  refine cV1i (ci := 3) (q0 := 0) C hN (c_X3_isBody (by exact hB9) hb) (cwV 1 hts gX3_reenter_X3_isBody rfl rfl rfl (by decide +kernel) ⟨Nat.le_of_ble_eq_true rfl, Nat.le_of_ble_eq_true rfl⟩) rfl rfl rfl rfl dX3_reenter_7 ⟨Nat.zero_le _, Nat.zero_le _⟩ (fun r7 u7 q7 => ?_)
  obtain ⟨rfl, rfl⟩ := q7
  refine aw_if_ne (tgt := 19) C dX3_reenter_10 (by decide) (by split <;> omega) (fun c10 => ?_) (fun c10 => ?_)
  · have d10 : 0 ≤ b ∧ b < S.1 5 := ite_t c10
    have h8 := hp b (by omega) (by omega)
    have h7 := hc b (by omega) (by omega)
    refine aw_aload_n C dX3_reenter_19 rfl ?_
    refine aw_aload_n C dX3_reenter_20 rfl ?_
    refine aw_get (q0 := 0) (k := 8) C iFX3 k_16 rfl rfl rfl rfl dX3_reenter_21 ?_
    refine aw_iload_n C dX3_reenter_24 rfl ?_
    refine aw_ldI (q0 := 3) C rfl (by omega) (by omega) rfl dX3_reenter_25 ?_
    refine cV1i (ci := 3) (q0 := 0) C hN (c_X3_laneFor hI (by omega)) (cwV 1 hts gX3_reenter_X3_laneFor rfl rfl rfl (by decide +kernel) ⟨Nat.le_of_ble_eq_true rfl, Nat.le_of_ble_eq_true rfl⟩) rfl rfl rfl rfl dX3_reenter_26 ⟨Nat.zero_le _, Nat.zero_le _⟩ (fun r26 u26 q26 => ?_)
    obtain ⟨rfl, rfl⟩ := q26
    have h9 := inS_b hI (S.2 1 b)
    refine aw_istore_n C dX3_reenter_29 rfl rfl ?_
    refine aw_aload_n C dX3_reenter_30 rfl ?_
    refine aw_get (q0 := 0) (k := 9) C iFX3 k_19 rfl rfl rfl rfl dX3_reenter_31 ?_
    refine aw_iload_n C dX3_reenter_34 rfl ?_
    refine aw_ldI (q0 := 4) C rfl (by omega) (by omega) rfl dX3_reenter_35 ?_
    refine aw_bipush C dX3_reenter_36 rfl ?_
    refine aw_icmp_ne (tgt := 46) C dX3_reenter_38 (by decide) (by omega) (by omega) (fun c38 => ?_) (fun c38 => ?_)
    · refine aw_aload_n C dX3_reenter_46 rfl ?_
      refine aw_iconst C dX3_reenter_47 ?_
      refine cV1i (ci := 3) (q0 := 0) C hN (c_X3_fails) (cwV 1 hts gX3_reenter_X3_fails rfl rfl rfl (by decide +kernel) ⟨Nat.le_of_ble_eq_true rfl, Nat.le_of_ble_eq_true rfl⟩) rfl rfl rfl rfl dX3_reenter_48 ⟨Nat.zero_le _, Nat.zero_le _⟩ (fun r48 u48 q48 => ?_)
      obtain ⟨rfl, rfl⟩ := q48
      exact aw_iret C dX3_reenter_51 ⟨us (us P 0 0) 0 2, Eq.trans (show (us (us P 0 0) 0 2).1 0 = 2 from rfl) (show kRee S b = 2 from by unfold kRee; first | rw [if_pos (by omega)] | rw [if_neg (by omega), if_pos (by omega)] | rw [if_neg (by omega), if_neg (by omega), if_pos (by omega)] | rw [if_neg (by omega), if_neg (by omega), if_neg (by omega), if_pos (by omega)] | rw [if_neg (by omega), if_neg (by omega), if_neg (by omega), if_neg (by omega)] | rw [if_neg (by omega), if_neg (by omega), if_neg (by omega)] | rw [if_neg (by omega), if_neg (by omega)] | rw [if_neg (by omega)]).symm, Or.inr ⟨by have h0 := (show kRee S b = 2 from by unfold kRee; first | rw [if_pos (by omega)] | rw [if_neg (by omega), if_pos (by omega)] | rw [if_neg (by omega), if_neg (by omega), if_pos (by omega)] | rw [if_neg (by omega), if_neg (by omega), if_neg (by omega), if_pos (by omega)] | rw [if_neg (by omega), if_neg (by omega), if_neg (by omega), if_neg (by omega)] | rw [if_neg (by omega), if_neg (by omega), if_neg (by omega)] | rw [if_neg (by omega), if_neg (by omega)] | rw [if_neg (by omega)]); omega, rfl⟩⟩
    · refine aw_iload_n C dX3_reenter_41 rfl ?_
      refine aw_iconst C dX3_reenter_42 ?_
      refine aw_icmp_ne (tgt := 52) C dX3_reenter_43 (by decide) (by omega) (by omega) (fun c43 => ?_) (fun c43 => ?_)
      · have h6 := hz (inS S (S.2 1 b)) (by omega) (by omega)
        have h5 := inS_room c43
        refine aw_aload_n C dX3_reenter_52 rfl ?_
        refine aw_iload_n C dX3_reenter_53 rfl ?_
        refine aw_iload_n C dX3_reenter_54 rfl ?_
        refine cV2v (ci := 3) (q0 := 0) C hN (c_X3_put (by omega) (by omega) (by omega) (by omega)) (cwV 2 hts gX3_reenter_X3_put rfl rfl rfl (by decide +kernel) ⟨Nat.le_of_ble_eq_true rfl, Nat.le_of_ble_eq_true rfl⟩) rfl rfl rfl rfl dX3_reenter_55 ⟨Nat.zero_le _, Nat.zero_le _⟩ (fun u55 q55 => ?_)
        obtain rfl := q55
        refine aw_iload_n C dX3_reenter_58 rfl ?_
        exact aw_iret C dX3_reenter_59 ⟨(us P 0 0), Eq.trans (show ((us P 0 0)).1 0 = 0 from rfl) (show kRee S b = 0 from by unfold kRee; first | rw [if_pos (by omega)] | rw [if_neg (by omega), if_pos (by omega)] | rw [if_neg (by omega), if_neg (by omega), if_pos (by omega)] | rw [if_neg (by omega), if_neg (by omega), if_neg (by omega), if_pos (by omega)] | rw [if_neg (by omega), if_neg (by omega), if_neg (by omega), if_neg (by omega)] | rw [if_neg (by omega), if_neg (by omega), if_neg (by omega)] | rw [if_neg (by omega), if_neg (by omega)] | rw [if_neg (by omega)]).symm, Or.inl ⟨(show kRee S b = 0 from by unfold kRee; first | rw [if_pos (by omega)] | rw [if_neg (by omega), if_pos (by omega)] | rw [if_neg (by omega), if_neg (by omega), if_pos (by omega)] | rw [if_neg (by omega), if_neg (by omega), if_neg (by omega), if_pos (by omega)] | rw [if_neg (by omega), if_neg (by omega), if_neg (by omega), if_neg (by omega)] | rw [if_neg (by omega), if_neg (by omega), if_neg (by omega)] | rw [if_neg (by omega), if_neg (by omega)] | rw [if_neg (by omega)]), rfl, rfl⟩⟩
      · refine aw_aload_n C dX3_reenter_46 rfl ?_
        refine aw_iconst C dX3_reenter_47 ?_
        refine cV1i (ci := 3) (q0 := 0) C hN (c_X3_fails) (cwV 1 hts gX3_reenter_X3_fails rfl rfl rfl (by decide +kernel) ⟨Nat.le_of_ble_eq_true rfl, Nat.le_of_ble_eq_true rfl⟩) rfl rfl rfl rfl dX3_reenter_48 ⟨Nat.zero_le _, Nat.zero_le _⟩ (fun r48 u48 q48 => ?_)
        obtain ⟨rfl, rfl⟩ := q48
        exact aw_iret C dX3_reenter_51 ⟨us (us P 0 0) 0 2, Eq.trans (show (us (us P 0 0) 0 2).1 0 = 2 from rfl) (show kRee S b = 2 from by unfold kRee; first | rw [if_pos (by omega)] | rw [if_neg (by omega), if_pos (by omega)] | rw [if_neg (by omega), if_neg (by omega), if_pos (by omega)] | rw [if_neg (by omega), if_neg (by omega), if_neg (by omega), if_pos (by omega)] | rw [if_neg (by omega), if_neg (by omega), if_neg (by omega), if_neg (by omega)] | rw [if_neg (by omega), if_neg (by omega), if_neg (by omega)] | rw [if_neg (by omega), if_neg (by omega)] | rw [if_neg (by omega)]).symm, Or.inr ⟨by have h0 := (show kRee S b = 2 from by unfold kRee; first | rw [if_pos (by omega)] | rw [if_neg (by omega), if_pos (by omega)] | rw [if_neg (by omega), if_neg (by omega), if_pos (by omega)] | rw [if_neg (by omega), if_neg (by omega), if_neg (by omega), if_pos (by omega)] | rw [if_neg (by omega), if_neg (by omega), if_neg (by omega), if_neg (by omega)] | rw [if_neg (by omega), if_neg (by omega), if_neg (by omega)] | rw [if_neg (by omega), if_neg (by omega)] | rw [if_neg (by omega)]); omega, rfl⟩⟩
  · have d10 : ¬ (0 ≤ b ∧ b < S.1 5) := ite_f c10
    refine aw_aload_n C dX3_reenter_13 rfl ?_
    refine aw_iconst C dX3_reenter_14 ?_
    refine cV1i (ci := 3) (q0 := 0) C hN (c_X3_fails) (cwV 1 hts gX3_reenter_X3_fails rfl rfl rfl (by decide +kernel) ⟨Nat.le_of_ble_eq_true rfl, Nat.le_of_ble_eq_true rfl⟩) rfl rfl rfl rfl dX3_reenter_15 ⟨Nat.zero_le _, Nat.zero_le _⟩ (fun r15 u15 q15 => ?_)
    obtain ⟨rfl, rfl⟩ := q15
    exact aw_iret C dX3_reenter_18 ⟨us (us P 0 0) 0 1, Eq.trans (show (us (us P 0 0) 0 1).1 0 = 1 from rfl) (show kRee S b = 1 from by unfold kRee; first | rw [if_pos (by omega)] | rw [if_neg (by omega), if_pos (by omega)] | rw [if_neg (by omega), if_neg (by omega), if_pos (by omega)] | rw [if_neg (by omega), if_neg (by omega), if_neg (by omega), if_pos (by omega)] | rw [if_neg (by omega), if_neg (by omega), if_neg (by omega), if_neg (by omega)] | rw [if_neg (by omega), if_neg (by omega), if_neg (by omega)] | rw [if_neg (by omega), if_neg (by omega)] | rw [if_neg (by omega)]).symm, Or.inr ⟨by have h0 := (show kRee S b = 1 from by unfold kRee; first | rw [if_pos (by omega)] | rw [if_neg (by omega), if_pos (by omega)] | rw [if_neg (by omega), if_neg (by omega), if_pos (by omega)] | rw [if_neg (by omega), if_neg (by omega), if_neg (by omega), if_pos (by omega)] | rw [if_neg (by omega), if_neg (by omega), if_neg (by omega), if_neg (by omega)] | rw [if_neg (by omega), if_neg (by omega), if_neg (by omega)] | rw [if_neg (by omega), if_neg (by omega)] | rw [if_neg (by omega)]); omega, rfl⟩⟩
theorem wm_asm (kc : Nat → ClassId) (am : Nat → Nat) (S P : St) (k : Int) : WM kc am (us (ua (ua S 2 k 12) 3 (S.1 6) k) 6 (S.1 6 + 1)) P = WM kc am (asmS S k) P := by
  have e1 : rowM (us (ua (ua S 2 k 12) 3 (S.1 6) k) 6 (S.1 6 + 1)) = rowM S := by
    show rowM (ua (ua S 2 k 12) 3 (S.1 6) k) = rowM S
    rw [rowM_n _ _ _ _ (by decide), rowM_n _ _ _ _ (by decide)]
  have e2 : rowM (asmS S k) = rowM S := by
    show rowM (ua (ua (ua S 2 k 12) 4 k (S.1 6)) 3 (S.1 6) k) = rowM S
    rw [rowM_n _ _ _ _ (by decide), rowM_n _ _ _ _ (by decide), rowM_n _ _ _ _ (by decide)]
  unfold WM
  rw [e1, e2]
  rfl
set_option maxHeartbeats 4000000 in
set_option maxRecDepth 100000 in
theorem c_X3_assemble {l : Launch} {G : va_G × (Nat → ClassId)} {am : Nat → Nat} {S P : St} (hI : Inv S) : Mi l G yX3_assemble wsX3_assemble ({ frames := 1, cells := 0, slots := 0, locals := 21 } : Room) [.ref (am 0)] (WM G.2 am S P) (fun r u => ∃ P9 : St, P9.1 0 = kAsm S ∧ ((kAsm S = 0 ∧ r = lbS S ∧ u = WM G.2 am (asmS S (lbS S)) P9) ∨ (¬ kAsm S = 0 ∧ u = WM G.2 am S P9))) := by
  refine Mi.of (own := RX3) (cc := cX3_assemble) (maxL := 2) (ret := (some .int)) (by decide) rfl rfl rfl ?_
  intro p e s m args below meth c A C hN
  have hts := C.2.2.2.2.1
  have iFX3 : ∀ w ∈ u_ws RX3 TX3 19, w ∈ wsX3_assemble := by decide +kernel
  have k_35 := hts (.fieldLink RX3 35 "PaintSequencerModel" "thrown" "I") (by decide +kernel)
  have k_48 := hts (.fieldLink RX3 48 "PaintSequencerModel" "many" "I") (by decide +kernel)
  have k_19 := hts (.fieldLink RX3 19 "PaintSequencerModel" "places" "[I") (by decide +kernel)
  have k_22 := hts (.fieldLink RX3 22 "PaintSequencerModel" "order" "[I") (by decide +kernel)
  have k_51 := hts (.fieldLink RX3 51 "PaintSequencerModel" "done" "I") (by decide +kernel)
  obtain ⟨hn, hz, hr, hc, hp, ha, hq, ht⟩ := id hI
  have hL9 : 1 ≤ S.1 0 ∧ S.1 0 ≤ 5 := by omega
  have hB9 : 0 ≤ S.1 5 ∧ S.1 5 ≤ 99 := by omega
  have hn5 : -2147483648 ≤ S.1 5 ∧ S.1 5 < 2147483648 := by omega
  have lp : ∀ (n : Nat) (k : Nat), (k : Int) ≤ S.1 5 → S.1 5 - k < n → fstB (fun b => decide (S.2 2 b = 10)) k = -1 → AW p l e (headSpec wsX3_assemble ({ frames := 1, cells := 0, slots := 0, locals := 21 } : Room)).room s m args below meth c 2 G A s.heap 0 0 (MQ below (QPi G (fun r u => ∃ P9 : St, P9.1 0 = kAsm S ∧ ((kAsm S = 0 ∧ r = lbS S ∧ u = WM G.2 am (asmS S (lbS S)) P9) ∨ (¬ kAsm S = 0 ∧ u = WM G.2 am S P9))) A) args s 0 0 A) (WM G.2 am S (us P 0 0)) [(0, .ref (am 0)), (1, .int (zI k))] 7 [] := by
    intro n
    induction n with
    | zero =>
      intro k h1 h2 h3
      exfalso
      omega
    | succ n ih =>
      intro k h1 h2 h3
      refine aw_iload_n C dX3_assemble_7 rfl ?_
      refine aw_aload_n C dX3_assemble_8 rfl ?_
      refine aw_get (q0 := 0) (k := 7) C iFX3 k_48 rfl rfl rfl rfl dX3_assemble_9 ?_
      refine aw_icmp_ge (tgt := 32) C dX3_assemble_12 (by decide) (by omega) (by omega) (fun c12 => ?_) (fun c12 => ?_)
      · have hlb : lbS S = -1 := by
          unfold lbS
          rw [show (S.1 5).toNat = k by omega]
          exact h3
        refine aw_iload_n C dX3_assemble_32 rfl ?_
        refine aw_aload_n C dX3_assemble_33 rfl ?_
        refine aw_get (q0 := 0) (k := 7) C iFX3 k_48 rfl rfl rfl rfl dX3_assemble_34 ?_
        refine aw_icmp_ne (tgt := 46) C dX3_assemble_37 (by decide) (by omega) (by exact hn5) (fun c37 => ?_) (fun c37 => ?_)
        · refine aw_aload_n C dX3_assemble_46 rfl ?_
          refine aw_get (q0 := 0) (k := 9) C iFX3 k_19 rfl rfl rfl rfl dX3_assemble_47 ?_
          refine aw_iload_n C dX3_assemble_50 rfl ?_
          refine aw_bipush C dX3_assemble_51 rfl ?_
          refine aw_stI (q0 := 4) C rfl (by omega) (by omega) rfl (wm_a4 _ _ _ _ _ _) dX3_assemble_53 ?_
          refine aw_aload_n C dX3_assemble_54 rfl ?_
          refine aw_get (q0 := 0) (k := 10) C iFX3 k_22 rfl rfl rfl rfl dX3_assemble_55 ?_
          refine aw_aload_n C dX3_assemble_58 rfl ?_
          refine aw_get (q0 := 0) (k := 11) C iFX3 k_51 rfl rfl rfl rfl dX3_assemble_59 ?_
          refine aw_top (y := S.1 6) rfl ?_
          refine aw_iload_n C dX3_assemble_62 rfl ?_
          refine aw_stI (q0 := 5) C rfl (by omega) (by omega) rfl (wm_a5 _ _ _ _ _ _) dX3_assemble_63 ?_
          refine aw_aload_n C dX3_assemble_64 rfl ?_
          refine aw_dup C dX3_assemble_65 rfl ?_
          refine aw_get (q0 := 0) (k := 11) C iFX3 k_51 rfl rfl rfl rfl dX3_assemble_66 ?_
          refine aw_iconst C dX3_assemble_69 ?_
          refine aw_iadd C dX3_assemble_70 ?_
          refine aw_put (q0 := 0) (k := 11) C iFX3 tyX3_ok nmX3 k_51 rfl rfl rfl rfl rfl rfl (wm_f11 _ _ _ _ _) dX3_assemble_71 ?_
          refine aw_iload_n C dX3_assemble_74 rfl ?_
          exact aw_iret C dX3_assemble_75 (by first | (exfalso; have c9 : ¬ (k : Int) = S.1 5 := c37; omega) | exact ⟨us P 0 0, Eq.trans (show (us P 0 0).1 0 = 0 from rfl) (show kAsm S = 0 from by unfold kAsm; first | rw [if_pos (by omega)] | rw [if_neg (by omega), if_pos (by omega)] | rw [if_neg (by omega), if_neg (by omega), if_pos (by omega)] | rw [if_neg (by omega), if_neg (by omega), if_neg (by omega), if_pos (by omega)] | rw [if_neg (by omega), if_neg (by omega), if_neg (by omega), if_neg (by omega)] | rw [if_neg (by omega), if_neg (by omega), if_neg (by omega)] | rw [if_neg (by omega), if_neg (by omega)] | rw [if_neg (by omega)]).symm, Or.inl ⟨(show kAsm S = 0 from by unfold kAsm; first | rw [if_pos (by omega)] | rw [if_neg (by omega), if_pos (by omega)] | rw [if_neg (by omega), if_neg (by omega), if_pos (by omega)] | rw [if_neg (by omega), if_neg (by omega), if_neg (by omega), if_pos (by omega)] | rw [if_neg (by omega), if_neg (by omega), if_neg (by omega), if_neg (by omega)] | rw [if_neg (by omega), if_neg (by omega), if_neg (by omega)] | rw [if_neg (by omega), if_neg (by omega)] | rw [if_neg (by omega)]), hlb.symm, by rw [hlb]; exact wm_asm _ _ _ _ _⟩⟩)
        · refine aw_aload_n C dX3_assemble_40 rfl ?_
          refine aw_iconst C dX3_assemble_41 ?_
          refine cV1i (ci := 3) (q0 := 0) C hN (c_X3_fails) (cwV 1 hts gX3_assemble_X3_fails rfl rfl rfl (by decide +kernel) ⟨Nat.le_of_ble_eq_true rfl, Nat.le_of_ble_eq_true rfl⟩) rfl rfl rfl rfl dX3_assemble_42 ⟨Nat.zero_le _, Nat.zero_le _⟩ (fun r42 u42 q42 => ?_)
          obtain ⟨rfl, rfl⟩ := q42
          exact aw_iret C dX3_assemble_45 (by first | exact ⟨us (us P 0 0) 0 1, Eq.trans (show (us (us P 0 0) 0 1).1 0 = 1 from rfl) (show kAsm S = 1 from by unfold kAsm; first | rw [if_pos (by omega)] | rw [if_neg (by omega), if_pos (by omega)] | rw [if_neg (by omega), if_neg (by omega), if_pos (by omega)] | rw [if_neg (by omega), if_neg (by omega), if_neg (by omega), if_pos (by omega)] | rw [if_neg (by omega), if_neg (by omega), if_neg (by omega), if_neg (by omega)] | rw [if_neg (by omega), if_neg (by omega), if_neg (by omega)] | rw [if_neg (by omega), if_neg (by omega)] | rw [if_neg (by omega)]).symm, Or.inr ⟨by have h0 := (show kAsm S = 1 from by unfold kAsm; first | rw [if_pos (by omega)] | rw [if_neg (by omega), if_pos (by omega)] | rw [if_neg (by omega), if_neg (by omega), if_pos (by omega)] | rw [if_neg (by omega), if_neg (by omega), if_neg (by omega), if_pos (by omega)] | rw [if_neg (by omega), if_neg (by omega), if_neg (by omega), if_neg (by omega)] | rw [if_neg (by omega), if_neg (by omega), if_neg (by omega)] | rw [if_neg (by omega), if_neg (by omega)] | rw [if_neg (by omega)]); omega, rfl⟩⟩ | (exfalso; have c9 : (k : Int) = S.1 5 := c37; omega))
      · have h7 := hp k (by omega) (by omega)
        refine aw_aload_n C dX3_assemble_15 rfl ?_
        refine aw_get (q0 := 0) (k := 9) C iFX3 k_19 rfl rfl rfl rfl dX3_assemble_16 ?_
        refine aw_iload_n C dX3_assemble_19 rfl ?_
        refine aw_ldI (q0 := 4) C rfl (by omega) (by omega) rfl dX3_assemble_20 ?_
        refine aw_bipush C dX3_assemble_21 rfl ?_
        refine aw_icmp_eq (tgt := 32) C dX3_assemble_23 (by decide) (by omega) (by omega) (fun c23 => ?_) (fun c23 => ?_)
        · have hlb : lbS S = k := fstB_at h3 (decide_eq_true c23) (by omega)
          have h8 := asm_lt hI (b := (k : Int)) (by omega) (by omega) (by omega)
          refine aw_iload_n C dX3_assemble_32 rfl ?_
          refine aw_aload_n C dX3_assemble_33 rfl ?_
          refine aw_get (q0 := 0) (k := 7) C iFX3 k_48 rfl rfl rfl rfl dX3_assemble_34 ?_
          refine aw_icmp_ne (tgt := 46) C dX3_assemble_37 (by decide) (by omega) (by exact hn5) (fun c37 => ?_) (fun c37 => ?_)
          · refine aw_aload_n C dX3_assemble_46 rfl ?_
            refine aw_get (q0 := 0) (k := 9) C iFX3 k_19 rfl rfl rfl rfl dX3_assemble_47 ?_
            refine aw_iload_n C dX3_assemble_50 rfl ?_
            refine aw_bipush C dX3_assemble_51 rfl ?_
            refine aw_stI (q0 := 4) C rfl (by omega) (by omega) rfl (wm_a4 _ _ _ _ _ _) dX3_assemble_53 ?_
            refine aw_aload_n C dX3_assemble_54 rfl ?_
            refine aw_get (q0 := 0) (k := 10) C iFX3 k_22 rfl rfl rfl rfl dX3_assemble_55 ?_
            refine aw_aload_n C dX3_assemble_58 rfl ?_
            refine aw_get (q0 := 0) (k := 11) C iFX3 k_51 rfl rfl rfl rfl dX3_assemble_59 ?_
            refine aw_top (y := S.1 6) rfl ?_
            refine aw_iload_n C dX3_assemble_62 rfl ?_
            refine aw_stI (q0 := 5) C rfl (by omega) (by omega) rfl (wm_a5 _ _ _ _ _ _) dX3_assemble_63 ?_
            refine aw_aload_n C dX3_assemble_64 rfl ?_
            refine aw_dup C dX3_assemble_65 rfl ?_
            refine aw_get (q0 := 0) (k := 11) C iFX3 k_51 rfl rfl rfl rfl dX3_assemble_66 ?_
            refine aw_iconst C dX3_assemble_69 ?_
            refine aw_iadd C dX3_assemble_70 ?_
            refine aw_put (q0 := 0) (k := 11) C iFX3 tyX3_ok nmX3 k_51 rfl rfl rfl rfl rfl rfl (wm_f11 _ _ _ _ _) dX3_assemble_71 ?_
            refine aw_iload_n C dX3_assemble_74 rfl ?_
            exact aw_iret C dX3_assemble_75 (by first | (exfalso; have c9 : ¬ (k : Int) = S.1 5 := c37; omega) | exact ⟨us P 0 0, Eq.trans (show (us P 0 0).1 0 = 0 from rfl) (show kAsm S = 0 from by unfold kAsm; first | rw [if_pos (by omega)] | rw [if_neg (by omega), if_pos (by omega)] | rw [if_neg (by omega), if_neg (by omega), if_pos (by omega)] | rw [if_neg (by omega), if_neg (by omega), if_neg (by omega), if_pos (by omega)] | rw [if_neg (by omega), if_neg (by omega), if_neg (by omega), if_neg (by omega)] | rw [if_neg (by omega), if_neg (by omega), if_neg (by omega)] | rw [if_neg (by omega), if_neg (by omega)] | rw [if_neg (by omega)]).symm, Or.inl ⟨(show kAsm S = 0 from by unfold kAsm; first | rw [if_pos (by omega)] | rw [if_neg (by omega), if_pos (by omega)] | rw [if_neg (by omega), if_neg (by omega), if_pos (by omega)] | rw [if_neg (by omega), if_neg (by omega), if_neg (by omega), if_pos (by omega)] | rw [if_neg (by omega), if_neg (by omega), if_neg (by omega), if_neg (by omega)] | rw [if_neg (by omega), if_neg (by omega), if_neg (by omega)] | rw [if_neg (by omega), if_neg (by omega)] | rw [if_neg (by omega)]), hlb.symm, by rw [hlb]; exact wm_asm _ _ _ _ _⟩⟩)
          · refine aw_aload_n C dX3_assemble_40 rfl ?_
            refine aw_iconst C dX3_assemble_41 ?_
            refine cV1i (ci := 3) (q0 := 0) C hN (c_X3_fails) (cwV 1 hts gX3_assemble_X3_fails rfl rfl rfl (by decide +kernel) ⟨Nat.le_of_ble_eq_true rfl, Nat.le_of_ble_eq_true rfl⟩) rfl rfl rfl rfl dX3_assemble_42 ⟨Nat.zero_le _, Nat.zero_le _⟩ (fun r42 u42 q42 => ?_)
            obtain ⟨rfl, rfl⟩ := q42
            exact aw_iret C dX3_assemble_45 (by first | exact ⟨us (us P 0 0) 0 1, Eq.trans (show (us (us P 0 0) 0 1).1 0 = 1 from rfl) (show kAsm S = 1 from by unfold kAsm; first | rw [if_pos (by omega)] | rw [if_neg (by omega), if_pos (by omega)] | rw [if_neg (by omega), if_neg (by omega), if_pos (by omega)] | rw [if_neg (by omega), if_neg (by omega), if_neg (by omega), if_pos (by omega)] | rw [if_neg (by omega), if_neg (by omega), if_neg (by omega), if_neg (by omega)] | rw [if_neg (by omega), if_neg (by omega), if_neg (by omega)] | rw [if_neg (by omega), if_neg (by omega)] | rw [if_neg (by omega)]).symm, Or.inr ⟨by have h0 := (show kAsm S = 1 from by unfold kAsm; first | rw [if_pos (by omega)] | rw [if_neg (by omega), if_pos (by omega)] | rw [if_neg (by omega), if_neg (by omega), if_pos (by omega)] | rw [if_neg (by omega), if_neg (by omega), if_neg (by omega), if_pos (by omega)] | rw [if_neg (by omega), if_neg (by omega), if_neg (by omega), if_neg (by omega)] | rw [if_neg (by omega), if_neg (by omega), if_neg (by omega)] | rw [if_neg (by omega), if_neg (by omega)] | rw [if_neg (by omega)]); omega, rfl⟩⟩ | (exfalso; have c9 : (k : Int) = S.1 5 := c37; omega))
        · refine aw_iinc C dX3_assemble_26 rfl rfl rfl ?_
          refine aw_goto (tgt := 7) C dX3_assemble_29 (by decide) ?_
          exact ih (k + 1) (by omega) (by omega) (fstB_no h3 (decide_eq_false c23))
  refine aw_aload_n C dX3_assemble_0 rfl ?_
  refine aw_iconst C dX3_assemble_1 ?_
  refine aw_put (q0 := 0) (k := 18) C iFX3 tyX3_ok nmX3 k_35 rfl rfl rfl rfl rfl rfl (wm_f18 _ _ _ _ _) dX3_assemble_2 ?_
  refine aw_iconst C dX3_assemble_5 ?_
  refine aw_istore_n C dX3_assemble_6 rfl rfl ?_
  exact lp 100 0 (by omega) (by omega) rfl
set_option maxHeartbeats 4000000 in
set_option maxRecDepth 100000 in
theorem c_X3_bodies {l : Launch} {G : va_G × (Nat → ClassId)} {am : Nat → Nat} {S P : St} : Mi l G yX3_bodies wsX3_bodies ({ frames := 0, cells := 0, slots := 0, locals := 0 } : Room) [.ref (am 0)] (WM G.2 am S P) (fun r u => r = S.1 5 ∧ ∃ P9 : St, u = WM G.2 am S P9) := by
  refine Mi.of (own := RX3) (cc := cX3_bodies) (maxL := 1) (ret := (some .int)) (by decide) rfl rfl rfl ?_
  intro p e s m args below meth c A C hN
  have hts := C.2.2.2.2.1
  have iFX3 : ∀ w ∈ u_ws RX3 TX3 19, w ∈ wsX3_bodies := by decide +kernel
  have k_35 := hts (.fieldLink RX3 35 "PaintSequencerModel" "thrown" "I") (by decide +kernel)
  have k_48 := hts (.fieldLink RX3 48 "PaintSequencerModel" "many" "I") (by decide +kernel)
  refine aw_aload_n C dX3_bodies_0 rfl ?_
  refine aw_iconst C dX3_bodies_1 ?_
  refine aw_put (q0 := 0) (k := 18) C iFX3 tyX3_ok nmX3 k_35 rfl rfl rfl rfl rfl rfl (wm_f18 _ _ _ _ _) dX3_bodies_2 ?_
  refine aw_aload_n C dX3_bodies_5 rfl ?_
  refine aw_get (q0 := 0) (k := 7) C iFX3 k_48 rfl rfl rfl rfl dX3_bodies_6 ?_
  exact aw_iret C dX3_bodies_9 ⟨rfl, _, rfl⟩
set_option maxHeartbeats 4000000 in
set_option maxRecDepth 100000 in
theorem c_X3_changes {l : Launch} {G : va_G × (Nat → ClassId)} {am : Nat → Nat} {S P : St} : Mi l G yX3_changes wsX3_changes ({ frames := 0, cells := 0, slots := 0, locals := 0 } : Room) [.ref (am 0)] (WM G.2 am S P) (fun r u => r = S.1 9 ∧ ∃ P9 : St, u = WM G.2 am S P9) := by
  refine Mi.of (own := RX3) (cc := cX3_changes) (maxL := 1) (ret := (some .int)) (by decide) rfl rfl rfl ?_
  intro p e s m args below meth c A C hN
  have hts := C.2.2.2.2.1
  have iFX3 : ∀ w ∈ u_ws RX3 TX3 19, w ∈ wsX3_changes := by decide +kernel
  have k_35 := hts (.fieldLink RX3 35 "PaintSequencerModel" "thrown" "I") (by decide +kernel)
  have k_57 := hts (.fieldLink RX3 57 "PaintSequencerModel" "changed" "I") (by decide +kernel)
  refine aw_aload_n C dX3_changes_0 rfl ?_
  refine aw_iconst C dX3_changes_1 ?_
  refine aw_put (q0 := 0) (k := 18) C iFX3 tyX3_ok nmX3 k_35 rfl rfl rfl rfl rfl rfl (wm_f18 _ _ _ _ _) dX3_changes_2 ?_
  refine aw_aload_n C dX3_changes_5 rfl ?_
  refine aw_get (q0 := 0) (k := 13) C iFX3 k_57 rfl rfl rfl rfl dX3_changes_6 ?_
  exact aw_iret C dX3_changes_9 ⟨rfl, _, rfl⟩
set_option maxHeartbeats 4000000 in
set_option maxRecDepth 100000 in
theorem c_X3_released {l : Launch} {G : va_G × (Nat → ClassId)} {am : Nat → Nat} {S P : St} : Mi l G yX3_released wsX3_released ({ frames := 0, cells := 0, slots := 0, locals := 0 } : Room) [.ref (am 0)] (WM G.2 am S P) (fun r u => r = S.1 10 ∧ ∃ P9 : St, u = WM G.2 am S P9) := by
  refine Mi.of (own := RX3) (cc := cX3_released) (maxL := 1) (ret := (some .int)) (by decide) rfl rfl rfl ?_
  intro p e s m args below meth c A C hN
  have hts := C.2.2.2.2.1
  have iFX3 : ∀ w ∈ u_ws RX3 TX3 19, w ∈ wsX3_released := by decide +kernel
  have k_35 := hts (.fieldLink RX3 35 "PaintSequencerModel" "thrown" "I") (by decide +kernel)
  have k_54 := hts (.fieldLink RX3 54 "PaintSequencerModel" "releases" "I") (by decide +kernel)
  refine aw_aload_n C dX3_released_0 rfl ?_
  refine aw_iconst C dX3_released_1 ?_
  refine aw_put (q0 := 0) (k := 18) C iFX3 tyX3_ok nmX3 k_35 rfl rfl rfl rfl rfl rfl (wm_f18 _ _ _ _ _) dX3_released_2 ?_
  refine aw_aload_n C dX3_released_5 rfl ?_
  refine aw_get (q0 := 0) (k := 12) C iFX3 k_54 rfl rfl rfl rfl dX3_released_6 ?_
  exact aw_iret C dX3_released_9 ⟨rfl, _, rfl⟩
set_option maxHeartbeats 4000000 in
set_option maxRecDepth 100000 in
theorem c_X3_stored {l : Launch} {G : va_G × (Nat → ClassId)} {am : Nat → Nat} {S P : St} (hI : Inv S) : Mi l G yX3_stored wsX3_stored ({ frames := 1, cells := 0, slots := 0, locals := 23 } : Room) [.ref (am 0)] (WM G.2 am S P) (fun r u => r = cnS S 10 ∧ ∃ P9 : St, u = WM G.2 am S P9) := by
  refine Mi.of (own := RX3) (cc := cX3_stored) (maxL := 1) (ret := (some .int)) (by decide) rfl rfl rfl ?_
  intro p e s m args below meth c A C hN
  have hts := C.2.2.2.2.1
  have iFX3 : ∀ w ∈ u_ws RX3 TX3 19, w ∈ wsX3_stored := by decide +kernel
  have k_35 := hts (.fieldLink RX3 35 "PaintSequencerModel" "thrown" "I") (by decide +kernel)
  obtain ⟨hn, hz, hr, hc, hp, ha, hq, ht⟩ := id hI
  have hL9 : 1 ≤ S.1 0 ∧ S.1 0 ≤ 5 := by omega
  have hB9 : 0 ≤ S.1 5 ∧ S.1 5 ≤ 99 := by omega
  refine aw_aload_n C dX3_stored_0 rfl ?_
  refine aw_iconst C dX3_stored_1 ?_
  refine aw_put (q0 := 0) (k := 18) C iFX3 tyX3_ok nmX3 k_35 rfl rfl rfl rfl rfl rfl (wm_f18 _ _ _ _ _) dX3_stored_2 ?_
  refine aw_aload_n C dX3_stored_5 rfl ?_
  refine aw_bipush C dX3_stored_6 rfl ?_
  refine cV1i (ci := 3) (q0 := 0) C hN (c_X3_countIn (by exact hB9) hp (by omega)) (cwV 1 hts gX3_stored_X3_countIn rfl rfl rfl (by decide +kernel) ⟨Nat.le_of_ble_eq_true rfl, Nat.le_of_ble_eq_true rfl⟩) rfl rfl rfl rfl dX3_stored_8 ⟨Nat.zero_le _, Nat.zero_le _⟩ (fun r8 u8 q8 => ?_)
  obtain ⟨rfl, rfl⟩ := q8
  exact aw_iret C dX3_stored_11 ⟨rfl, _, rfl⟩
set_option maxHeartbeats 4000000 in
set_option maxRecDepth 100000 in
theorem c_X3_worstLateness {l : Launch} {G : va_G × (Nat → ClassId)} {am : Nat → Nat} {S P : St} (hI : Inv S) : Mi l G yX3_worstLateness wsX3_worstLateness ({ frames := 0, cells := 0, slots := 0, locals := 0 } : Room) [.ref (am 0)] (WM G.2 am S P) (fun r u => r = wlN S (S.1 6).toNat ∧ ∃ P9 : St, u = WM G.2 am S P9) := by
  refine Mi.of (own := RX3) (cc := cX3_worstLateness) (maxL := 3) (ret := (some .int)) (by decide) rfl rfl rfl ?_
  intro p e s m args below meth c A C hN
  have hts := C.2.2.2.2.1
  have iFX3 : ∀ w ∈ u_ws RX3 TX3 19, w ∈ wsX3_worstLateness := by decide +kernel
  have k_35 := hts (.fieldLink RX3 35 "PaintSequencerModel" "thrown" "I") (by decide +kernel)
  have k_51 := hts (.fieldLink RX3 51 "PaintSequencerModel" "done" "I") (by decide +kernel)
  have k_22 := hts (.fieldLink RX3 22 "PaintSequencerModel" "order" "[I") (by decide +kernel)
  obtain ⟨hn, hz, hr, hc, hp, ha, hq, ht⟩ := id hI
  have lp : ∀ (n : Nat) (k : Nat), (k : Int) ≤ S.1 6 → S.1 6 - k < n → (0 ≤ wlN S k ∧ wlN S k ≤ 99) → AW p l e (headSpec wsX3_worstLateness ({ frames := 0, cells := 0, slots := 0, locals := 0 } : Room)).room s m args below meth c 3 G A s.heap 0 0 (MQ below (QPi G (fun r u => r = wlN S (S.1 6).toNat ∧ ∃ P9 : St, u = WM G.2 am S P9) A) args s 0 0 A) (WM G.2 am S (us P 0 0)) [(0, .ref (am 0)), (1, .int (zI (wlN S k))), (2, .int (zI k))] 9 [] := by
    intro n
    induction n with
    | zero =>
      intro k h1 h2 h3
      exfalso
      omega
    | succ n ih =>
      intro k h1 h2 h3
      refine aw_iload_n C dX3_worstLateness_9 rfl ?_
      refine aw_aload_n C dX3_worstLateness_10 rfl ?_
      refine aw_get (q0 := 0) (k := 11) C iFX3 k_51 rfl rfl rfl rfl dX3_worstLateness_11 ?_
      refine aw_icmp_ge (tgt := 48) C dX3_worstLateness_14 (by decide) (by omega) (by omega) (fun c14 => ?_) (fun c14 => ?_)
      · refine aw_iload_n C dX3_worstLateness_48 rfl ?_
        exact aw_iret C dX3_worstLateness_49 ⟨by rw [show (S.1 6).toNat = k by omega], _, rfl⟩
      · have h7 := ha k (by omega) (by omega)
        refine aw_iload_n C dX3_worstLateness_17 rfl ?_
        refine aw_aload_n C dX3_worstLateness_18 rfl ?_
        refine aw_get (q0 := 0) (k := 10) C iFX3 k_22 rfl rfl rfl rfl dX3_worstLateness_19 ?_
        refine aw_iload_n C dX3_worstLateness_22 rfl ?_
        refine aw_ldI (q0 := 5) C rfl (by omega) (by omega) rfl dX3_worstLateness_23 ?_
        refine aw_isub C dX3_worstLateness_24 ?_
        refine aw_iload_n C dX3_worstLateness_25 rfl ?_
        refine aw_icmp_le (tgt := 40) C dX3_worstLateness_26 (by decide) (by omega) (by omega) (fun c26 => ?_) (fun c26 => ?_)
        · refine aw_iload_n C dX3_worstLateness_40 rfl ?_
          refine aw_istore_n C dX3_worstLateness_41 rfl rfl ?_
          refine aw_iinc C dX3_worstLateness_42 rfl rfl rfl ?_
          refine aw_goto (tgt := 9) C dX3_worstLateness_45 (by decide) ?_
          first
          | (have e8 : wlN S (k + 1) = (k : Int) - S.2 3 k := if_pos c26
             have h8 := ih (k + 1) (by omega) (by omega) (by omega)
             rw [e8] at h8
             exact h8)
          | (have e8 : wlN S (k + 1) = wlN S k := if_neg (Int.not_lt.mpr c26)
             have h8 := ih (k + 1) (by omega) (by omega) (by omega)
             rw [e8] at h8
             exact h8)
        · refine aw_iload_n C dX3_worstLateness_29 rfl ?_
          refine aw_aload_n C dX3_worstLateness_30 rfl ?_
          refine aw_get (q0 := 0) (k := 10) C iFX3 k_22 rfl rfl rfl rfl dX3_worstLateness_31 ?_
          refine aw_iload_n C dX3_worstLateness_34 rfl ?_
          refine aw_ldI (q0 := 5) C rfl (by omega) (by omega) rfl dX3_worstLateness_35 ?_
          refine aw_isub C dX3_worstLateness_36 ?_
          refine aw_goto (tgt := 41) C dX3_worstLateness_37 (by decide) ?_
          refine aw_istore_n C dX3_worstLateness_41 rfl rfl ?_
          refine aw_iinc C dX3_worstLateness_42 rfl rfl rfl ?_
          refine aw_goto (tgt := 9) C dX3_worstLateness_45 (by decide) ?_
          first
          | (have e8 : wlN S (k + 1) = (k : Int) - S.2 3 k := if_pos c26
             have h8 := ih (k + 1) (by omega) (by omega) (by omega)
             rw [e8] at h8
             exact h8)
          | (have e8 : wlN S (k + 1) = wlN S k := if_neg (Int.not_lt.mpr c26)
             have h8 := ih (k + 1) (by omega) (by omega) (by omega)
             rw [e8] at h8
             exact h8)
  refine aw_aload_n C dX3_worstLateness_0 rfl ?_
  refine aw_iconst C dX3_worstLateness_1 ?_
  refine aw_put (q0 := 0) (k := 18) C iFX3 tyX3_ok nmX3 k_35 rfl rfl rfl rfl rfl rfl (wm_f18 _ _ _ _ _) dX3_worstLateness_2 ?_
  refine aw_iconst C dX3_worstLateness_5 ?_
  refine aw_istore_n C dX3_worstLateness_6 rfl rfl ?_
  refine aw_iconst C dX3_worstLateness_7 ?_
  refine aw_istore_n C dX3_worstLateness_8 rfl rfl ?_
  exact lp 100 0 (by omega) (by omega) ⟨Int.le_refl 0, by show (0 : Int) ≤ 99; decide⟩
set_option maxHeartbeats 4000000 in
set_option maxRecDepth 100000 in
theorem c_X3_colour {l : Launch} {G : va_G × (Nat → ClassId)} {am : Nat → Nat} {S P : St} (hI : Inv S) {b : Int} (hb : -2147483648 ≤ b ∧ b < 2147483648) : Mi l G yX3_colour wsX3_colour ({ frames := 2, cells := 0, slots := 0, locals := 43 } : Room) [.ref (am 0), .int (zI b)] (WM G.2 am S P) (fun r u => ∃ P9 : St, P9.1 0 = kBod S b ∧ ((kBod S b = 0 ∧ r = S.2 1 b ∧ u = WM G.2 am S P9) ∨ (¬ kBod S b = 0 ∧ u = WM G.2 am S P9))) := by
  refine Mi.of (own := RX3) (cc := cX3_colour) (maxL := 2) (ret := (some .int)) (by decide) rfl rfl rfl ?_
  intro p e s m args below meth c A C hN
  have hts := C.2.2.2.2.1
  have iFX3 : ∀ w ∈ u_ws RX3 TX3 19, w ∈ wsX3_colour := by decide +kernel
  have k_35 := hts (.fieldLink RX3 35 "PaintSequencerModel" "thrown" "I") (by decide +kernel)
  have k_16 := hts (.fieldLink RX3 16 "PaintSequencerModel" "colours" "[I") (by decide +kernel)
  obtain ⟨hn, hz, hr, hc, hp, ha, hq, ht⟩ := id hI
  have hL9 : 1 ≤ S.1 0 ∧ S.1 0 ≤ 5 := by omega
  have hB9 : 0 ≤ S.1 5 ∧ S.1 5 ≤ 99 := by omega
  refine aw_aload_n C dX3_colour_0 rfl ?_
  refine aw_iconst C dX3_colour_1 ?_
  refine aw_put (q0 := 0) (k := 18) C iFX3 tyX3_ok nmX3 k_35 rfl rfl rfl rfl rfl rfl (wm_f18 _ _ _ _ _) dX3_colour_2 ?_
  refine aw_aload_n C dX3_colour_5 rfl ?_
  refine aw_iload_n C dX3_colour_6 rfl ?_
  refine cV1i (ci := 3) (q0 := 0) C hN (c_X3_isBody (by exact hB9) hb) (cwV 1 hts gX3_colour_X3_isBody rfl rfl rfl (by decide +kernel) ⟨Nat.le_of_ble_eq_true rfl, Nat.le_of_ble_eq_true rfl⟩) rfl rfl rfl rfl dX3_colour_7 ⟨Nat.zero_le _, Nat.zero_le _⟩ (fun r7 u7 q7 => ?_)
  obtain ⟨rfl, rfl⟩ := q7
  refine aw_if_eq (tgt := 22) C dX3_colour_10 (by decide) (by split <;> omega) (fun c10 => ?_) (fun c10 => ?_)
  · have d10 : ¬ (0 ≤ b ∧ b < S.1 5) := ite_f c10
    refine aw_aload_n C dX3_colour_22 rfl ?_
    refine aw_iconst C dX3_colour_23 ?_
    refine cV1i (ci := 3) (q0 := 0) C hN (c_X3_fails) (cwV 1 hts gX3_colour_X3_fails rfl rfl rfl (by decide +kernel) ⟨Nat.le_of_ble_eq_true rfl, Nat.le_of_ble_eq_true rfl⟩) rfl rfl rfl rfl dX3_colour_24 ⟨Nat.zero_le _, Nat.zero_le _⟩ (fun r24 u24 q24 => ?_)
    obtain ⟨rfl, rfl⟩ := q24
    exact aw_iret C dX3_colour_27 (by first | exact ⟨(us P 0 0), Eq.trans (show ((us P 0 0)).1 0 = 0 from rfl) (show kBod S b = 0 from by unfold kBod; first | rw [if_pos (by omega)] | rw [if_neg (by omega), if_pos (by omega)] | rw [if_neg (by omega), if_neg (by omega), if_pos (by omega)] | rw [if_neg (by omega), if_neg (by omega), if_neg (by omega), if_pos (by omega)] | rw [if_neg (by omega), if_neg (by omega), if_neg (by omega), if_neg (by omega)] | rw [if_neg (by omega), if_neg (by omega), if_neg (by omega)] | rw [if_neg (by omega), if_neg (by omega)] | rw [if_neg (by omega)]).symm, Or.inl ⟨(show kBod S b = 0 from by unfold kBod; first | rw [if_pos (by omega)] | rw [if_neg (by omega), if_pos (by omega)] | rw [if_neg (by omega), if_neg (by omega), if_pos (by omega)] | rw [if_neg (by omega), if_neg (by omega), if_neg (by omega), if_pos (by omega)] | rw [if_neg (by omega), if_neg (by omega), if_neg (by omega), if_neg (by omega)] | rw [if_neg (by omega), if_neg (by omega), if_neg (by omega)] | rw [if_neg (by omega), if_neg (by omega)] | rw [if_neg (by omega)]), rfl, rfl⟩⟩ | exact ⟨us (us P 0 0) 0 1, Eq.trans (show (us (us P 0 0) 0 1).1 0 = 1 from rfl) (show kBod S b = 1 from by unfold kBod; first | rw [if_pos (by omega)] | rw [if_neg (by omega), if_pos (by omega)] | rw [if_neg (by omega), if_neg (by omega), if_pos (by omega)] | rw [if_neg (by omega), if_neg (by omega), if_neg (by omega), if_pos (by omega)] | rw [if_neg (by omega), if_neg (by omega), if_neg (by omega), if_neg (by omega)] | rw [if_neg (by omega), if_neg (by omega), if_neg (by omega)] | rw [if_neg (by omega), if_neg (by omega)] | rw [if_neg (by omega)]).symm, Or.inr ⟨by have h0 := (show kBod S b = 1 from by unfold kBod; first | rw [if_pos (by omega)] | rw [if_neg (by omega), if_pos (by omega)] | rw [if_neg (by omega), if_neg (by omega), if_pos (by omega)] | rw [if_neg (by omega), if_neg (by omega), if_neg (by omega), if_pos (by omega)] | rw [if_neg (by omega), if_neg (by omega), if_neg (by omega), if_neg (by omega)] | rw [if_neg (by omega), if_neg (by omega), if_neg (by omega)] | rw [if_neg (by omega), if_neg (by omega)] | rw [if_neg (by omega)]); omega, rfl⟩⟩)
  · have d10 : 0 ≤ b ∧ b < S.1 5 := ite_t c10
    refine aw_aload_n C dX3_colour_13 rfl ?_
    refine aw_get (q0 := 0) (k := 8) C iFX3 k_16 rfl rfl rfl rfl dX3_colour_14 ?_
    refine aw_iload_n C dX3_colour_17 rfl ?_
    refine aw_ldI (q0 := 3) C rfl (by omega) (by omega) rfl dX3_colour_18 ?_
    refine aw_goto (tgt := 27) C dX3_colour_19 (by decide) ?_
    exact aw_iret C dX3_colour_27 (by first | exact ⟨(us P 0 0), Eq.trans (show ((us P 0 0)).1 0 = 0 from rfl) (show kBod S b = 0 from by unfold kBod; first | rw [if_pos (by omega)] | rw [if_neg (by omega), if_pos (by omega)] | rw [if_neg (by omega), if_neg (by omega), if_pos (by omega)] | rw [if_neg (by omega), if_neg (by omega), if_neg (by omega), if_pos (by omega)] | rw [if_neg (by omega), if_neg (by omega), if_neg (by omega), if_neg (by omega)] | rw [if_neg (by omega), if_neg (by omega), if_neg (by omega)] | rw [if_neg (by omega), if_neg (by omega)] | rw [if_neg (by omega)]).symm, Or.inl ⟨(show kBod S b = 0 from by unfold kBod; first | rw [if_pos (by omega)] | rw [if_neg (by omega), if_pos (by omega)] | rw [if_neg (by omega), if_neg (by omega), if_pos (by omega)] | rw [if_neg (by omega), if_neg (by omega), if_neg (by omega), if_pos (by omega)] | rw [if_neg (by omega), if_neg (by omega), if_neg (by omega), if_neg (by omega)] | rw [if_neg (by omega), if_neg (by omega), if_neg (by omega)] | rw [if_neg (by omega), if_neg (by omega)] | rw [if_neg (by omega)]), rfl, rfl⟩⟩ | exact ⟨us (us P 0 0) 0 1, Eq.trans (show (us (us P 0 0) 0 1).1 0 = 1 from rfl) (show kBod S b = 1 from by unfold kBod; first | rw [if_pos (by omega)] | rw [if_neg (by omega), if_pos (by omega)] | rw [if_neg (by omega), if_neg (by omega), if_pos (by omega)] | rw [if_neg (by omega), if_neg (by omega), if_neg (by omega), if_pos (by omega)] | rw [if_neg (by omega), if_neg (by omega), if_neg (by omega), if_neg (by omega)] | rw [if_neg (by omega), if_neg (by omega), if_neg (by omega)] | rw [if_neg (by omega), if_neg (by omega)] | rw [if_neg (by omega)]).symm, Or.inr ⟨by have h0 := (show kBod S b = 1 from by unfold kBod; first | rw [if_pos (by omega)] | rw [if_neg (by omega), if_pos (by omega)] | rw [if_neg (by omega), if_neg (by omega), if_pos (by omega)] | rw [if_neg (by omega), if_neg (by omega), if_neg (by omega), if_pos (by omega)] | rw [if_neg (by omega), if_neg (by omega), if_neg (by omega), if_neg (by omega)] | rw [if_neg (by omega), if_neg (by omega), if_neg (by omega)] | rw [if_neg (by omega), if_neg (by omega)] | rw [if_neg (by omega)]); omega, rfl⟩⟩)
set_option maxHeartbeats 4000000 in
set_option maxRecDepth 100000 in
theorem c_X3_where {l : Launch} {G : va_G × (Nat → ClassId)} {am : Nat → Nat} {S P : St} (hI : Inv S) {b : Int} (hb : -2147483648 ≤ b ∧ b < 2147483648) : Mi l G yX3_where wsX3_where ({ frames := 2, cells := 0, slots := 0, locals := 43 } : Room) [.ref (am 0), .int (zI b)] (WM G.2 am S P) (fun r u => ∃ P9 : St, P9.1 0 = kBod S b ∧ ((kBod S b = 0 ∧ r = S.2 2 b ∧ u = WM G.2 am S P9) ∨ (¬ kBod S b = 0 ∧ u = WM G.2 am S P9))) := by
  refine Mi.of (own := RX3) (cc := cX3_where) (maxL := 2) (ret := (some .int)) (by decide) rfl rfl rfl ?_
  intro p e s m args below meth c A C hN
  have hts := C.2.2.2.2.1
  have iFX3 : ∀ w ∈ u_ws RX3 TX3 19, w ∈ wsX3_where := by decide +kernel
  have k_35 := hts (.fieldLink RX3 35 "PaintSequencerModel" "thrown" "I") (by decide +kernel)
  have k_19 := hts (.fieldLink RX3 19 "PaintSequencerModel" "places" "[I") (by decide +kernel)
  obtain ⟨hn, hz, hr, hc, hp, ha, hq, ht⟩ := id hI
  have hL9 : 1 ≤ S.1 0 ∧ S.1 0 ≤ 5 := by omega
  have hB9 : 0 ≤ S.1 5 ∧ S.1 5 ≤ 99 := by omega
  refine aw_aload_n C dX3_where_0 rfl ?_
  refine aw_iconst C dX3_where_1 ?_
  refine aw_put (q0 := 0) (k := 18) C iFX3 tyX3_ok nmX3 k_35 rfl rfl rfl rfl rfl rfl (wm_f18 _ _ _ _ _) dX3_where_2 ?_
  refine aw_aload_n C dX3_where_5 rfl ?_
  refine aw_iload_n C dX3_where_6 rfl ?_
  refine cV1i (ci := 3) (q0 := 0) C hN (c_X3_isBody (by exact hB9) hb) (cwV 1 hts gX3_where_X3_isBody rfl rfl rfl (by decide +kernel) ⟨Nat.le_of_ble_eq_true rfl, Nat.le_of_ble_eq_true rfl⟩) rfl rfl rfl rfl dX3_where_7 ⟨Nat.zero_le _, Nat.zero_le _⟩ (fun r7 u7 q7 => ?_)
  obtain ⟨rfl, rfl⟩ := q7
  refine aw_if_eq (tgt := 22) C dX3_where_10 (by decide) (by split <;> omega) (fun c10 => ?_) (fun c10 => ?_)
  · have d10 : ¬ (0 ≤ b ∧ b < S.1 5) := ite_f c10
    refine aw_aload_n C dX3_where_22 rfl ?_
    refine aw_iconst C dX3_where_23 ?_
    refine cV1i (ci := 3) (q0 := 0) C hN (c_X3_fails) (cwV 1 hts gX3_where_X3_fails rfl rfl rfl (by decide +kernel) ⟨Nat.le_of_ble_eq_true rfl, Nat.le_of_ble_eq_true rfl⟩) rfl rfl rfl rfl dX3_where_24 ⟨Nat.zero_le _, Nat.zero_le _⟩ (fun r24 u24 q24 => ?_)
    obtain ⟨rfl, rfl⟩ := q24
    exact aw_iret C dX3_where_27 (by first | exact ⟨(us P 0 0), Eq.trans (show ((us P 0 0)).1 0 = 0 from rfl) (show kBod S b = 0 from by unfold kBod; first | rw [if_pos (by omega)] | rw [if_neg (by omega), if_pos (by omega)] | rw [if_neg (by omega), if_neg (by omega), if_pos (by omega)] | rw [if_neg (by omega), if_neg (by omega), if_neg (by omega), if_pos (by omega)] | rw [if_neg (by omega), if_neg (by omega), if_neg (by omega), if_neg (by omega)] | rw [if_neg (by omega), if_neg (by omega), if_neg (by omega)] | rw [if_neg (by omega), if_neg (by omega)] | rw [if_neg (by omega)]).symm, Or.inl ⟨(show kBod S b = 0 from by unfold kBod; first | rw [if_pos (by omega)] | rw [if_neg (by omega), if_pos (by omega)] | rw [if_neg (by omega), if_neg (by omega), if_pos (by omega)] | rw [if_neg (by omega), if_neg (by omega), if_neg (by omega), if_pos (by omega)] | rw [if_neg (by omega), if_neg (by omega), if_neg (by omega), if_neg (by omega)] | rw [if_neg (by omega), if_neg (by omega), if_neg (by omega)] | rw [if_neg (by omega), if_neg (by omega)] | rw [if_neg (by omega)]), rfl, rfl⟩⟩ | exact ⟨us (us P 0 0) 0 1, Eq.trans (show (us (us P 0 0) 0 1).1 0 = 1 from rfl) (show kBod S b = 1 from by unfold kBod; first | rw [if_pos (by omega)] | rw [if_neg (by omega), if_pos (by omega)] | rw [if_neg (by omega), if_neg (by omega), if_pos (by omega)] | rw [if_neg (by omega), if_neg (by omega), if_neg (by omega), if_pos (by omega)] | rw [if_neg (by omega), if_neg (by omega), if_neg (by omega), if_neg (by omega)] | rw [if_neg (by omega), if_neg (by omega), if_neg (by omega)] | rw [if_neg (by omega), if_neg (by omega)] | rw [if_neg (by omega)]).symm, Or.inr ⟨by have h0 := (show kBod S b = 1 from by unfold kBod; first | rw [if_pos (by omega)] | rw [if_neg (by omega), if_pos (by omega)] | rw [if_neg (by omega), if_neg (by omega), if_pos (by omega)] | rw [if_neg (by omega), if_neg (by omega), if_neg (by omega), if_pos (by omega)] | rw [if_neg (by omega), if_neg (by omega), if_neg (by omega), if_neg (by omega)] | rw [if_neg (by omega), if_neg (by omega), if_neg (by omega)] | rw [if_neg (by omega), if_neg (by omega)] | rw [if_neg (by omega)]); omega, rfl⟩⟩)
  · have d10 : 0 ≤ b ∧ b < S.1 5 := ite_t c10
    refine aw_aload_n C dX3_where_13 rfl ?_
    refine aw_get (q0 := 0) (k := 9) C iFX3 k_19 rfl rfl rfl rfl dX3_where_14 ?_
    refine aw_iload_n C dX3_where_17 rfl ?_
    refine aw_ldI (q0 := 4) C rfl (by omega) (by omega) rfl dX3_where_18 ?_
    refine aw_goto (tgt := 27) C dX3_where_19 (by decide) ?_
    exact aw_iret C dX3_where_27 (by first | exact ⟨(us P 0 0), Eq.trans (show ((us P 0 0)).1 0 = 0 from rfl) (show kBod S b = 0 from by unfold kBod; first | rw [if_pos (by omega)] | rw [if_neg (by omega), if_pos (by omega)] | rw [if_neg (by omega), if_neg (by omega), if_pos (by omega)] | rw [if_neg (by omega), if_neg (by omega), if_neg (by omega), if_pos (by omega)] | rw [if_neg (by omega), if_neg (by omega), if_neg (by omega), if_neg (by omega)] | rw [if_neg (by omega), if_neg (by omega), if_neg (by omega)] | rw [if_neg (by omega), if_neg (by omega)] | rw [if_neg (by omega)]).symm, Or.inl ⟨(show kBod S b = 0 from by unfold kBod; first | rw [if_pos (by omega)] | rw [if_neg (by omega), if_pos (by omega)] | rw [if_neg (by omega), if_neg (by omega), if_pos (by omega)] | rw [if_neg (by omega), if_neg (by omega), if_neg (by omega), if_pos (by omega)] | rw [if_neg (by omega), if_neg (by omega), if_neg (by omega), if_neg (by omega)] | rw [if_neg (by omega), if_neg (by omega), if_neg (by omega)] | rw [if_neg (by omega), if_neg (by omega)] | rw [if_neg (by omega)]), rfl, rfl⟩⟩ | exact ⟨us (us P 0 0) 0 1, Eq.trans (show (us (us P 0 0) 0 1).1 0 = 1 from rfl) (show kBod S b = 1 from by unfold kBod; first | rw [if_pos (by omega)] | rw [if_neg (by omega), if_pos (by omega)] | rw [if_neg (by omega), if_neg (by omega), if_pos (by omega)] | rw [if_neg (by omega), if_neg (by omega), if_neg (by omega), if_pos (by omega)] | rw [if_neg (by omega), if_neg (by omega), if_neg (by omega), if_neg (by omega)] | rw [if_neg (by omega), if_neg (by omega), if_neg (by omega)] | rw [if_neg (by omega), if_neg (by omega)] | rw [if_neg (by omega)]).symm, Or.inr ⟨by have h0 := (show kBod S b = 1 from by unfold kBod; first | rw [if_pos (by omega)] | rw [if_neg (by omega), if_pos (by omega)] | rw [if_neg (by omega), if_neg (by omega), if_pos (by omega)] | rw [if_neg (by omega), if_neg (by omega), if_neg (by omega), if_pos (by omega)] | rw [if_neg (by omega), if_neg (by omega), if_neg (by omega), if_neg (by omega)] | rw [if_neg (by omega), if_neg (by omega), if_neg (by omega)] | rw [if_neg (by omega), if_neg (by omega)] | rw [if_neg (by omega)]); omega, rfl⟩⟩)
set_option maxHeartbeats 4000000 in
set_option maxRecDepth 100000 in
theorem c_X3_inLane {l : Launch} {G : va_G × (Nat → ClassId)} {am : Nat → Nat} {S P : St} (hI : Inv S) {i : Int} (hi : -2147483648 ≤ i ∧ i < 2147483648) : Mi l G yX3_inLane wsX3_inLane ({ frames := 1, cells := 0, slots := 0, locals := 22 } : Room) [.ref (am 0), .int (zI i)] (WM G.2 am S P) (fun r u => ∃ P9 : St, P9.1 0 = kLan S i ∧ ((kLan S i = 0 ∧ r = S.2 0 i ∧ u = WM G.2 am S P9) ∨ (¬ kLan S i = 0 ∧ u = WM G.2 am S P9))) := by
  refine Mi.of (own := RX3) (cc := cX3_inLane) (maxL := 2) (ret := (some .int)) (by decide) rfl rfl rfl ?_
  intro p e s m args below meth c A C hN
  have hts := C.2.2.2.2.1
  have iFX3 : ∀ w ∈ u_ws RX3 TX3 19, w ∈ wsX3_inLane := by decide +kernel
  have k_35 := hts (.fieldLink RX3 35 "PaintSequencerModel" "thrown" "I") (by decide +kernel)
  have k_39 := hts (.fieldLink RX3 39 "PaintSequencerModel" "lanes" "I") (by decide +kernel)
  have k_13 := hts (.fieldLink RX3 13 "PaintSequencerModel" "size" "[I") (by decide +kernel)
  obtain ⟨hn, hz, hr, hc, hp, ha, hq, ht⟩ := id hI
  have hL9 : 1 ≤ S.1 0 ∧ S.1 0 ≤ 5 := by omega
  have hB9 : 0 ≤ S.1 5 ∧ S.1 5 ≤ 99 := by omega
  have hm1 : -2147483648 ≤ S.1 0 - 1 ∧ S.1 0 - 1 < 2147483648 := by omega
  have hm6 : -2147483648 ≤ S.1 6 - 1 ∧ S.1 6 - 1 < 2147483648 := by omega
  refine aw_aload_n C dX3_inLane_0 rfl ?_
  refine aw_iconst C dX3_inLane_1 ?_
  refine aw_put (q0 := 0) (k := 18) C iFX3 tyX3_ok nmX3 k_35 rfl rfl rfl rfl rfl rfl (wm_f18 _ _ _ _ _) dX3_inLane_2 ?_
  refine aw_iload_n C dX3_inLane_5 rfl ?_
  refine aw_iconst C dX3_inLane_6 ?_
  refine aw_aload_n C dX3_inLane_7 rfl ?_
  refine aw_get (q0 := 0) (k := 0) C iFX3 k_39 rfl rfl rfl rfl dX3_inLane_8 ?_
  refine aw_iconst C dX3_inLane_11 ?_
  refine aw_isub C dX3_inLane_12 ?_
  refine cS3i C hN (c_X3_in (by omega) (by omega) (by exact hm1)) (va_cwS 3 hts gX3_inLane_X3_in rfl rfl rfl (by decide +kernel) ⟨Nat.le_of_ble_eq_true rfl, Nat.le_of_ble_eq_true rfl⟩) rfl dX3_inLane_13 ⟨Nat.zero_le _, Nat.zero_le _⟩ (fun r13 u13 q13 => ?_)
  obtain ⟨rfl, rfl⟩ := q13
  refine aw_if_eq (tgt := 28) C dX3_inLane_16 (by decide) (by split <;> omega) (fun c16 => ?_) (fun c16 => ?_)
  · have d16 : ¬ (0 ≤ i ∧ i ≤ S.1 0 - 1) := ite_f c16
    refine aw_aload_n C dX3_inLane_28 rfl ?_
    refine aw_iconst C dX3_inLane_29 ?_
    refine cV1i (ci := 3) (q0 := 0) C hN (c_X3_fails) (cwV 1 hts gX3_inLane_X3_fails rfl rfl rfl (by decide +kernel) ⟨Nat.le_of_ble_eq_true rfl, Nat.le_of_ble_eq_true rfl⟩) rfl rfl rfl rfl dX3_inLane_30 ⟨Nat.zero_le _, Nat.zero_le _⟩ (fun r30 u30 q30 => ?_)
    obtain ⟨rfl, rfl⟩ := q30
    exact aw_iret C dX3_inLane_33 (by first | exact ⟨(us P 0 0), Eq.trans (show ((us P 0 0)).1 0 = 0 from rfl) (show kLan S i = 0 from by unfold kLan; first | rw [if_pos (by omega)] | rw [if_neg (by omega), if_pos (by omega)] | rw [if_neg (by omega), if_neg (by omega), if_pos (by omega)] | rw [if_neg (by omega), if_neg (by omega), if_neg (by omega), if_pos (by omega)] | rw [if_neg (by omega), if_neg (by omega), if_neg (by omega), if_neg (by omega)] | rw [if_neg (by omega), if_neg (by omega), if_neg (by omega)] | rw [if_neg (by omega), if_neg (by omega)] | rw [if_neg (by omega)]).symm, Or.inl ⟨(show kLan S i = 0 from by unfold kLan; first | rw [if_pos (by omega)] | rw [if_neg (by omega), if_pos (by omega)] | rw [if_neg (by omega), if_neg (by omega), if_pos (by omega)] | rw [if_neg (by omega), if_neg (by omega), if_neg (by omega), if_pos (by omega)] | rw [if_neg (by omega), if_neg (by omega), if_neg (by omega), if_neg (by omega)] | rw [if_neg (by omega), if_neg (by omega), if_neg (by omega)] | rw [if_neg (by omega), if_neg (by omega)] | rw [if_neg (by omega)]), rfl, rfl⟩⟩ | exact ⟨us (us P 0 0) 0 1, Eq.trans (show (us (us P 0 0) 0 1).1 0 = 1 from rfl) (show kLan S i = 1 from by unfold kLan; first | rw [if_pos (by omega)] | rw [if_neg (by omega), if_pos (by omega)] | rw [if_neg (by omega), if_neg (by omega), if_pos (by omega)] | rw [if_neg (by omega), if_neg (by omega), if_neg (by omega), if_pos (by omega)] | rw [if_neg (by omega), if_neg (by omega), if_neg (by omega), if_neg (by omega)] | rw [if_neg (by omega), if_neg (by omega), if_neg (by omega)] | rw [if_neg (by omega), if_neg (by omega)] | rw [if_neg (by omega)]).symm, Or.inr ⟨by have h0 := (show kLan S i = 1 from by unfold kLan; first | rw [if_pos (by omega)] | rw [if_neg (by omega), if_pos (by omega)] | rw [if_neg (by omega), if_neg (by omega), if_pos (by omega)] | rw [if_neg (by omega), if_neg (by omega), if_neg (by omega), if_pos (by omega)] | rw [if_neg (by omega), if_neg (by omega), if_neg (by omega), if_neg (by omega)] | rw [if_neg (by omega), if_neg (by omega), if_neg (by omega)] | rw [if_neg (by omega), if_neg (by omega)] | rw [if_neg (by omega)]); omega, rfl⟩⟩)
  · have d16 : 0 ≤ i ∧ i ≤ S.1 0 - 1 := ite_t c16
    refine aw_aload_n C dX3_inLane_19 rfl ?_
    refine aw_get (q0 := 0) (k := 6) C iFX3 k_13 rfl rfl rfl rfl dX3_inLane_20 ?_
    refine aw_iload_n C dX3_inLane_23 rfl ?_
    refine aw_ldI (q0 := 2) C rfl (by omega) (by omega) rfl dX3_inLane_24 ?_
    refine aw_goto (tgt := 33) C dX3_inLane_25 (by decide) ?_
    exact aw_iret C dX3_inLane_33 (by first | exact ⟨(us P 0 0), Eq.trans (show ((us P 0 0)).1 0 = 0 from rfl) (show kLan S i = 0 from by unfold kLan; first | rw [if_pos (by omega)] | rw [if_neg (by omega), if_pos (by omega)] | rw [if_neg (by omega), if_neg (by omega), if_pos (by omega)] | rw [if_neg (by omega), if_neg (by omega), if_neg (by omega), if_pos (by omega)] | rw [if_neg (by omega), if_neg (by omega), if_neg (by omega), if_neg (by omega)] | rw [if_neg (by omega), if_neg (by omega), if_neg (by omega)] | rw [if_neg (by omega), if_neg (by omega)] | rw [if_neg (by omega)]).symm, Or.inl ⟨(show kLan S i = 0 from by unfold kLan; first | rw [if_pos (by omega)] | rw [if_neg (by omega), if_pos (by omega)] | rw [if_neg (by omega), if_neg (by omega), if_pos (by omega)] | rw [if_neg (by omega), if_neg (by omega), if_neg (by omega), if_pos (by omega)] | rw [if_neg (by omega), if_neg (by omega), if_neg (by omega), if_neg (by omega)] | rw [if_neg (by omega), if_neg (by omega), if_neg (by omega)] | rw [if_neg (by omega), if_neg (by omega)] | rw [if_neg (by omega)]), rfl, rfl⟩⟩ | exact ⟨us (us P 0 0) 0 1, Eq.trans (show (us (us P 0 0) 0 1).1 0 = 1 from rfl) (show kLan S i = 1 from by unfold kLan; first | rw [if_pos (by omega)] | rw [if_neg (by omega), if_pos (by omega)] | rw [if_neg (by omega), if_neg (by omega), if_pos (by omega)] | rw [if_neg (by omega), if_neg (by omega), if_neg (by omega), if_pos (by omega)] | rw [if_neg (by omega), if_neg (by omega), if_neg (by omega), if_neg (by omega)] | rw [if_neg (by omega), if_neg (by omega), if_neg (by omega)] | rw [if_neg (by omega), if_neg (by omega)] | rw [if_neg (by omega)]).symm, Or.inr ⟨by have h0 := (show kLan S i = 1 from by unfold kLan; first | rw [if_pos (by omega)] | rw [if_neg (by omega), if_pos (by omega)] | rw [if_neg (by omega), if_neg (by omega), if_pos (by omega)] | rw [if_neg (by omega), if_neg (by omega), if_neg (by omega), if_pos (by omega)] | rw [if_neg (by omega), if_neg (by omega), if_neg (by omega), if_neg (by omega)] | rw [if_neg (by omega), if_neg (by omega), if_neg (by omega)] | rw [if_neg (by omega), if_neg (by omega)] | rw [if_neg (by omega)]); omega, rfl⟩⟩)
set_option maxHeartbeats 4000000 in
set_option maxRecDepth 100000 in
theorem c_X3_block {l : Launch} {G : va_G × (Nat → ClassId)} {am : Nat → Nat} {S P : St} (hI : Inv S) {i : Int} (hi : -2147483648 ≤ i ∧ i < 2147483648) : Mi l G yX3_block wsX3_block ({ frames := 1, cells := 0, slots := 0, locals := 22 } : Room) [.ref (am 0), .int (zI i)] (WM G.2 am S P) (fun r u => ∃ P9 : St, P9.1 0 = kLan S i ∧ ((kLan S i = 0 ∧ r = blkS S i ∧ u = WM G.2 am S P9) ∨ (¬ kLan S i = 0 ∧ u = WM G.2 am S P9))) := by
  refine Mi.of (own := RX3) (cc := cX3_block) (maxL := 2) (ret := (some .int)) (by decide) rfl rfl rfl ?_
  intro p e s m args below meth c A C hN
  have hts := C.2.2.2.2.1
  have iFX3 : ∀ w ∈ u_ws RX3 TX3 19, w ∈ wsX3_block := by decide +kernel
  have k_35 := hts (.fieldLink RX3 35 "PaintSequencerModel" "thrown" "I") (by decide +kernel)
  have k_39 := hts (.fieldLink RX3 39 "PaintSequencerModel" "lanes" "I") (by decide +kernel)
  obtain ⟨hn, hz, hr, hc, hp, ha, hq, ht⟩ := id hI
  have hL9 : 1 ≤ S.1 0 ∧ S.1 0 ≤ 5 := by omega
  have hB9 : 0 ≤ S.1 5 ∧ S.1 5 ≤ 99 := by omega
  have hm1 : -2147483648 ≤ S.1 0 - 1 ∧ S.1 0 - 1 < 2147483648 := by omega
  have hm6 : -2147483648 ≤ S.1 6 - 1 ∧ S.1 6 - 1 < 2147483648 := by omega
  refine aw_aload_n C dX3_block_0 rfl ?_
  refine aw_iconst C dX3_block_1 ?_
  refine aw_put (q0 := 0) (k := 18) C iFX3 tyX3_ok nmX3 k_35 rfl rfl rfl rfl rfl rfl (wm_f18 _ _ _ _ _) dX3_block_2 ?_
  refine aw_iload_n C dX3_block_5 rfl ?_
  refine aw_iconst C dX3_block_6 ?_
  refine aw_aload_n C dX3_block_7 rfl ?_
  refine aw_get (q0 := 0) (k := 0) C iFX3 k_39 rfl rfl rfl rfl dX3_block_8 ?_
  refine aw_iconst C dX3_block_11 ?_
  refine aw_isub C dX3_block_12 ?_
  refine cS3i C hN (c_X3_in (by omega) (by omega) (by exact hm1)) (va_cwS 3 hts gX3_block_X3_in rfl rfl rfl (by decide +kernel) ⟨Nat.le_of_ble_eq_true rfl, Nat.le_of_ble_eq_true rfl⟩) rfl dX3_block_13 ⟨Nat.zero_le _, Nat.zero_le _⟩ (fun r13 u13 q13 => ?_)
  obtain ⟨rfl, rfl⟩ := q13
  refine aw_if_eq (tgt := 27) C dX3_block_16 (by decide) (by split <;> omega) (fun c16 => ?_) (fun c16 => ?_)
  · have d16 : ¬ (0 ≤ i ∧ i ≤ S.1 0 - 1) := ite_f c16
    refine aw_aload_n C dX3_block_27 rfl ?_
    refine aw_iconst C dX3_block_28 ?_
    refine cV1i (ci := 3) (q0 := 0) C hN (c_X3_fails) (cwV 1 hts gX3_block_X3_fails rfl rfl rfl (by decide +kernel) ⟨Nat.le_of_ble_eq_true rfl, Nat.le_of_ble_eq_true rfl⟩) rfl rfl rfl rfl dX3_block_29 ⟨Nat.zero_le _, Nat.zero_le _⟩ (fun r29 u29 q29 => ?_)
    obtain ⟨rfl, rfl⟩ := q29
    exact aw_iret C dX3_block_32 (by first | exact ⟨(us P 0 0), Eq.trans (show ((us P 0 0)).1 0 = 0 from rfl) (show kLan S i = 0 from by unfold kLan; first | rw [if_pos (by omega)] | rw [if_neg (by omega), if_pos (by omega)] | rw [if_neg (by omega), if_neg (by omega), if_pos (by omega)] | rw [if_neg (by omega), if_neg (by omega), if_neg (by omega), if_pos (by omega)] | rw [if_neg (by omega), if_neg (by omega), if_neg (by omega), if_neg (by omega)] | rw [if_neg (by omega), if_neg (by omega), if_neg (by omega)] | rw [if_neg (by omega), if_neg (by omega)] | rw [if_neg (by omega)]).symm, Or.inl ⟨(show kLan S i = 0 from by unfold kLan; first | rw [if_pos (by omega)] | rw [if_neg (by omega), if_pos (by omega)] | rw [if_neg (by omega), if_neg (by omega), if_pos (by omega)] | rw [if_neg (by omega), if_neg (by omega), if_neg (by omega), if_pos (by omega)] | rw [if_neg (by omega), if_neg (by omega), if_neg (by omega), if_neg (by omega)] | rw [if_neg (by omega), if_neg (by omega), if_neg (by omega)] | rw [if_neg (by omega), if_neg (by omega)] | rw [if_neg (by omega)]), rfl, rfl⟩⟩ | exact ⟨us (us P 0 0) 0 1, Eq.trans (show (us (us P 0 0) 0 1).1 0 = 1 from rfl) (show kLan S i = 1 from by unfold kLan; first | rw [if_pos (by omega)] | rw [if_neg (by omega), if_pos (by omega)] | rw [if_neg (by omega), if_neg (by omega), if_pos (by omega)] | rw [if_neg (by omega), if_neg (by omega), if_neg (by omega), if_pos (by omega)] | rw [if_neg (by omega), if_neg (by omega), if_neg (by omega), if_neg (by omega)] | rw [if_neg (by omega), if_neg (by omega), if_neg (by omega)] | rw [if_neg (by omega), if_neg (by omega)] | rw [if_neg (by omega)]).symm, Or.inr ⟨by have h0 := (show kLan S i = 1 from by unfold kLan; first | rw [if_pos (by omega)] | rw [if_neg (by omega), if_pos (by omega)] | rw [if_neg (by omega), if_neg (by omega), if_pos (by omega)] | rw [if_neg (by omega), if_neg (by omega), if_neg (by omega), if_pos (by omega)] | rw [if_neg (by omega), if_neg (by omega), if_neg (by omega), if_neg (by omega)] | rw [if_neg (by omega), if_neg (by omega), if_neg (by omega)] | rw [if_neg (by omega), if_neg (by omega)] | rw [if_neg (by omega)]); omega, rfl⟩⟩)
  · have d16 : 0 ≤ i ∧ i ≤ S.1 0 - 1 := ite_t c16
    refine aw_aload_n C dX3_block_19 rfl ?_
    refine aw_iload_n C dX3_block_20 rfl ?_
    refine cV1i (ci := 3) (q0 := 0) C hN (c_X3_blockOf hI (by omega) (by omega)) (cwV 1 hts gX3_block_X3_blockOf rfl rfl rfl (by decide +kernel) ⟨Nat.le_of_ble_eq_true rfl, Nat.le_of_ble_eq_true rfl⟩) rfl rfl rfl rfl dX3_block_21 ⟨Nat.zero_le _, Nat.zero_le _⟩ (fun r21 u21 q21 => ?_)
    obtain ⟨rfl, rfl⟩ := q21
    refine aw_goto (tgt := 32) C dX3_block_24 (by decide) ?_
    exact aw_iret C dX3_block_32 (by first | exact ⟨(us P 0 0), Eq.trans (show ((us P 0 0)).1 0 = 0 from rfl) (show kLan S i = 0 from by unfold kLan; first | rw [if_pos (by omega)] | rw [if_neg (by omega), if_pos (by omega)] | rw [if_neg (by omega), if_neg (by omega), if_pos (by omega)] | rw [if_neg (by omega), if_neg (by omega), if_neg (by omega), if_pos (by omega)] | rw [if_neg (by omega), if_neg (by omega), if_neg (by omega), if_neg (by omega)] | rw [if_neg (by omega), if_neg (by omega), if_neg (by omega)] | rw [if_neg (by omega), if_neg (by omega)] | rw [if_neg (by omega)]).symm, Or.inl ⟨(show kLan S i = 0 from by unfold kLan; first | rw [if_pos (by omega)] | rw [if_neg (by omega), if_pos (by omega)] | rw [if_neg (by omega), if_neg (by omega), if_pos (by omega)] | rw [if_neg (by omega), if_neg (by omega), if_neg (by omega), if_pos (by omega)] | rw [if_neg (by omega), if_neg (by omega), if_neg (by omega), if_neg (by omega)] | rw [if_neg (by omega), if_neg (by omega), if_neg (by omega)] | rw [if_neg (by omega), if_neg (by omega)] | rw [if_neg (by omega)]), rfl, rfl⟩⟩ | exact ⟨us (us P 0 0) 0 1, Eq.trans (show (us (us P 0 0) 0 1).1 0 = 1 from rfl) (show kLan S i = 1 from by unfold kLan; first | rw [if_pos (by omega)] | rw [if_neg (by omega), if_pos (by omega)] | rw [if_neg (by omega), if_neg (by omega), if_pos (by omega)] | rw [if_neg (by omega), if_neg (by omega), if_neg (by omega), if_pos (by omega)] | rw [if_neg (by omega), if_neg (by omega), if_neg (by omega), if_neg (by omega)] | rw [if_neg (by omega), if_neg (by omega), if_neg (by omega)] | rw [if_neg (by omega), if_neg (by omega)] | rw [if_neg (by omega)]).symm, Or.inr ⟨by have h0 := (show kLan S i = 1 from by unfold kLan; first | rw [if_pos (by omega)] | rw [if_neg (by omega), if_pos (by omega)] | rw [if_neg (by omega), if_neg (by omega), if_pos (by omega)] | rw [if_neg (by omega), if_neg (by omega), if_neg (by omega), if_pos (by omega)] | rw [if_neg (by omega), if_neg (by omega), if_neg (by omega), if_neg (by omega)] | rw [if_neg (by omega), if_neg (by omega), if_neg (by omega)] | rw [if_neg (by omega), if_neg (by omega)] | rw [if_neg (by omega)]); omega, rfl⟩⟩)
set_option maxHeartbeats 4000000 in
set_option maxRecDepth 100000 in
theorem c_X3_bodyAt {l : Launch} {G : va_G × (Nat → ClassId)} {am : Nat → Nat} {S P : St} (hI : Inv S) {i j : Int} (hi : -2147483648 ≤ i ∧ i < 2147483648) (hj : -2147483648 ≤ j ∧ j < 2147483648) : Mi l G yX3_bodyAt wsX3_bodyAt ({ frames := 1, cells := 0, slots := 0, locals := 22 } : Room) [.ref (am 0), .int (zI i), .int (zI j)] (WM G.2 am S P) (fun r u => ∃ P9 : St, P9.1 0 = kBAt S i j ∧ ((kBAt S i j = 0 ∧ r = S.2 (10 + i.toNat) j ∧ u = WM G.2 am S P9) ∨ (¬ kBAt S i j = 0 ∧ u = WM G.2 am S P9))) := by
  refine Mi.of (own := RX3) (cc := cX3_bodyAt) (maxL := 3) (ret := (some .int)) (by decide) rfl rfl rfl ?_
  intro p e s m args below meth c A C hN
  have hts := C.2.2.2.2.1
  have iFX3 : ∀ w ∈ u_ws RX3 TX3 19, w ∈ wsX3_bodyAt := by decide +kernel
  have k_35 := hts (.fieldLink RX3 35 "PaintSequencerModel" "thrown" "I") (by decide +kernel)
  have k_39 := hts (.fieldLink RX3 39 "PaintSequencerModel" "lanes" "I") (by decide +kernel)
  have k_13 := hts (.fieldLink RX3 13 "PaintSequencerModel" "size" "[I") (by decide +kernel)
  have k_7 := hts (.fieldLink RX3 7 "PaintSequencerModel" "row" "[I") (by decide +kernel)
  obtain ⟨hn, hz, hr, hc, hp, ha, hq, ht⟩ := id hI
  have hL9 : 1 ≤ S.1 0 ∧ S.1 0 ≤ 5 := by omega
  have hB9 : 0 ≤ S.1 5 ∧ S.1 5 ≤ 99 := by omega
  have hm1 : -2147483648 ≤ S.1 0 - 1 ∧ S.1 0 - 1 < 2147483648 := by omega
  have hm6 : -2147483648 ≤ S.1 6 - 1 ∧ S.1 6 - 1 < 2147483648 := by omega
  refine aw_aload_n C dX3_bodyAt_0 rfl ?_
  refine aw_iconst C dX3_bodyAt_1 ?_
  refine aw_put (q0 := 0) (k := 18) C iFX3 tyX3_ok nmX3 k_35 rfl rfl rfl rfl rfl rfl (wm_f18 _ _ _ _ _) dX3_bodyAt_2 ?_
  refine aw_iload_n C dX3_bodyAt_5 rfl ?_
  refine aw_iconst C dX3_bodyAt_6 ?_
  refine aw_aload_n C dX3_bodyAt_7 rfl ?_
  refine aw_get (q0 := 0) (k := 0) C iFX3 k_39 rfl rfl rfl rfl dX3_bodyAt_8 ?_
  refine aw_iconst C dX3_bodyAt_11 ?_
  refine aw_isub C dX3_bodyAt_12 ?_
  refine cS3i C hN (c_X3_in (by omega) (by omega) (by exact hm1)) (va_cwS 3 hts gX3_bodyAt_X3_in rfl rfl rfl (by decide +kernel) ⟨Nat.le_of_ble_eq_true rfl, Nat.le_of_ble_eq_true rfl⟩) rfl dX3_bodyAt_13 ⟨Nat.zero_le _, Nat.zero_le _⟩ (fun r13 u13 q13 => ?_)
  obtain ⟨rfl, rfl⟩ := q13
  refine aw_if_eq (tgt := 49) C dX3_bodyAt_16 (by decide) (by split <;> omega) (fun c16 => ?_) (fun c16 => ?_)
  · have d16 : ¬ (0 ≤ i ∧ i ≤ S.1 0 - 1) := ite_f c16
    refine aw_aload_n C dX3_bodyAt_49 rfl ?_
    refine aw_iconst C dX3_bodyAt_50 ?_
    refine cV1i (ci := 3) (q0 := 0) C hN (c_X3_fails) (cwV 1 hts gX3_bodyAt_X3_fails rfl rfl rfl (by decide +kernel) ⟨Nat.le_of_ble_eq_true rfl, Nat.le_of_ble_eq_true rfl⟩) rfl rfl rfl rfl dX3_bodyAt_51 ⟨Nat.zero_le _, Nat.zero_le _⟩ (fun r51 u51 q51 => ?_)
    obtain ⟨rfl, rfl⟩ := q51
    exact aw_iret C dX3_bodyAt_54 (by first | exact ⟨(us P 0 0), Eq.trans (show ((us P 0 0)).1 0 = 0 from rfl) (show kBAt S i j = 0 from by unfold kBAt; first | rw [if_pos (by omega)] | rw [if_neg (by omega), if_pos (by omega)] | rw [if_neg (by omega), if_neg (by omega), if_pos (by omega)] | rw [if_neg (by omega), if_neg (by omega), if_neg (by omega), if_pos (by omega)] | rw [if_neg (by omega), if_neg (by omega), if_neg (by omega), if_neg (by omega)] | rw [if_neg (by omega), if_neg (by omega), if_neg (by omega)] | rw [if_neg (by omega), if_neg (by omega)] | rw [if_neg (by omega)]).symm, Or.inl ⟨(show kBAt S i j = 0 from by unfold kBAt; first | rw [if_pos (by omega)] | rw [if_neg (by omega), if_pos (by omega)] | rw [if_neg (by omega), if_neg (by omega), if_pos (by omega)] | rw [if_neg (by omega), if_neg (by omega), if_neg (by omega), if_pos (by omega)] | rw [if_neg (by omega), if_neg (by omega), if_neg (by omega), if_neg (by omega)] | rw [if_neg (by omega), if_neg (by omega), if_neg (by omega)] | rw [if_neg (by omega), if_neg (by omega)] | rw [if_neg (by omega)]), rfl, rfl⟩⟩ | exact ⟨us (us P 0 0) 0 1, Eq.trans (show (us (us P 0 0) 0 1).1 0 = 1 from rfl) (show kBAt S i j = 1 from by unfold kBAt; first | rw [if_pos (by omega)] | rw [if_neg (by omega), if_pos (by omega)] | rw [if_neg (by omega), if_neg (by omega), if_pos (by omega)] | rw [if_neg (by omega), if_neg (by omega), if_neg (by omega), if_pos (by omega)] | rw [if_neg (by omega), if_neg (by omega), if_neg (by omega), if_neg (by omega)] | rw [if_neg (by omega), if_neg (by omega), if_neg (by omega)] | rw [if_neg (by omega), if_neg (by omega)] | rw [if_neg (by omega)]).symm, Or.inr ⟨by have h0 := (show kBAt S i j = 1 from by unfold kBAt; first | rw [if_pos (by omega)] | rw [if_neg (by omega), if_pos (by omega)] | rw [if_neg (by omega), if_neg (by omega), if_pos (by omega)] | rw [if_neg (by omega), if_neg (by omega), if_neg (by omega), if_pos (by omega)] | rw [if_neg (by omega), if_neg (by omega), if_neg (by omega), if_neg (by omega)] | rw [if_neg (by omega), if_neg (by omega), if_neg (by omega)] | rw [if_neg (by omega), if_neg (by omega)] | rw [if_neg (by omega)]); omega, rfl⟩⟩)
  · have d16 : 0 ≤ i ∧ i ≤ S.1 0 - 1 := ite_t c16
    have h8 := hz i (by omega) (by omega)
    refine aw_iload_n C dX3_bodyAt_19 rfl ?_
    refine aw_iconst C dX3_bodyAt_20 ?_
    refine aw_aload_n C dX3_bodyAt_21 rfl ?_
    refine aw_get (q0 := 0) (k := 6) C iFX3 k_13 rfl rfl rfl rfl dX3_bodyAt_22 ?_
    refine aw_iload_n C dX3_bodyAt_25 rfl ?_
    refine aw_ldI (q0 := 2) C rfl (by omega) (by omega) rfl dX3_bodyAt_26 ?_
    refine aw_iconst C dX3_bodyAt_27 ?_
    refine aw_isub C dX3_bodyAt_28 ?_
    refine cS3i C hN (c_X3_in (by omega) (by omega) (by omega)) (va_cwS 3 hts gX3_bodyAt_X3_in rfl rfl rfl (by decide +kernel) ⟨Nat.le_of_ble_eq_true rfl, Nat.le_of_ble_eq_true rfl⟩) rfl dX3_bodyAt_29 ⟨Nat.zero_le _, Nat.zero_le _⟩ (fun r29 u29 q29 => ?_)
    obtain ⟨rfl, rfl⟩ := q29
    refine aw_if_eq (tgt := 49) C dX3_bodyAt_32 (by decide) (by split <;> omega) (fun c32 => ?_) (fun c32 => ?_)
    · have d32 : ¬ (0 ≤ j ∧ j ≤ S.2 0 i - 1) := ite_f c32
      refine aw_aload_n C dX3_bodyAt_49 rfl ?_
      refine aw_iconst C dX3_bodyAt_50 ?_
      refine cV1i (ci := 3) (q0 := 0) C hN (c_X3_fails) (cwV 1 hts gX3_bodyAt_X3_fails rfl rfl rfl (by decide +kernel) ⟨Nat.le_of_ble_eq_true rfl, Nat.le_of_ble_eq_true rfl⟩) rfl rfl rfl rfl dX3_bodyAt_51 ⟨Nat.zero_le _, Nat.zero_le _⟩ (fun r51 u51 q51 => ?_)
      obtain ⟨rfl, rfl⟩ := q51
      exact aw_iret C dX3_bodyAt_54 (by first | exact ⟨(us P 0 0), Eq.trans (show ((us P 0 0)).1 0 = 0 from rfl) (show kBAt S i j = 0 from by unfold kBAt; first | rw [if_pos (by omega)] | rw [if_neg (by omega), if_pos (by omega)] | rw [if_neg (by omega), if_neg (by omega), if_pos (by omega)] | rw [if_neg (by omega), if_neg (by omega), if_neg (by omega), if_pos (by omega)] | rw [if_neg (by omega), if_neg (by omega), if_neg (by omega), if_neg (by omega)] | rw [if_neg (by omega), if_neg (by omega), if_neg (by omega)] | rw [if_neg (by omega), if_neg (by omega)] | rw [if_neg (by omega)]).symm, Or.inl ⟨(show kBAt S i j = 0 from by unfold kBAt; first | rw [if_pos (by omega)] | rw [if_neg (by omega), if_pos (by omega)] | rw [if_neg (by omega), if_neg (by omega), if_pos (by omega)] | rw [if_neg (by omega), if_neg (by omega), if_neg (by omega), if_pos (by omega)] | rw [if_neg (by omega), if_neg (by omega), if_neg (by omega), if_neg (by omega)] | rw [if_neg (by omega), if_neg (by omega), if_neg (by omega)] | rw [if_neg (by omega), if_neg (by omega)] | rw [if_neg (by omega)]), rfl, rfl⟩⟩ | exact ⟨us (us P 0 0) 0 1, Eq.trans (show (us (us P 0 0) 0 1).1 0 = 1 from rfl) (show kBAt S i j = 1 from by unfold kBAt; first | rw [if_pos (by omega)] | rw [if_neg (by omega), if_pos (by omega)] | rw [if_neg (by omega), if_neg (by omega), if_pos (by omega)] | rw [if_neg (by omega), if_neg (by omega), if_neg (by omega), if_pos (by omega)] | rw [if_neg (by omega), if_neg (by omega), if_neg (by omega), if_neg (by omega)] | rw [if_neg (by omega), if_neg (by omega), if_neg (by omega)] | rw [if_neg (by omega), if_neg (by omega)] | rw [if_neg (by omega)]).symm, Or.inr ⟨by have h0 := (show kBAt S i j = 1 from by unfold kBAt; first | rw [if_pos (by omega)] | rw [if_neg (by omega), if_pos (by omega)] | rw [if_neg (by omega), if_neg (by omega), if_pos (by omega)] | rw [if_neg (by omega), if_neg (by omega), if_neg (by omega), if_pos (by omega)] | rw [if_neg (by omega), if_neg (by omega), if_neg (by omega), if_neg (by omega)] | rw [if_neg (by omega), if_neg (by omega), if_neg (by omega)] | rw [if_neg (by omega), if_neg (by omega)] | rw [if_neg (by omega)]); omega, rfl⟩⟩)
    · have d32 : 0 ≤ j ∧ j ≤ S.2 0 i - 1 := ite_t c32
      refine aw_aload_n C dX3_bodyAt_35 rfl ?_
      refine aw_get (q0 := 0) (k := 5) C iFX3 k_7 rfl rfl rfl rfl dX3_bodyAt_36 ?_
      refine aw_bipush C dX3_bodyAt_39 rfl ?_
      refine aw_iload_n C dX3_bodyAt_41 rfl ?_
      refine aw_imul C dX3_bodyAt_42 ?_
      refine aw_iload_n C dX3_bodyAt_43 rfl ?_
      refine aw_iadd C dX3_bodyAt_44 ?_
      refine aw_ldI (q0 := 1) C rfl (by omega) (by omega) rfl dX3_bodyAt_45 ?_
      rw [rM (l := i) (k := j) rfl (by omega) (by omega) (by omega)]
      refine aw_goto (tgt := 54) C dX3_bodyAt_46 (by decide) ?_
      exact aw_iret C dX3_bodyAt_54 (by first | exact ⟨(us P 0 0), Eq.trans (show ((us P 0 0)).1 0 = 0 from rfl) (show kBAt S i j = 0 from by unfold kBAt; first | rw [if_pos (by omega)] | rw [if_neg (by omega), if_pos (by omega)] | rw [if_neg (by omega), if_neg (by omega), if_pos (by omega)] | rw [if_neg (by omega), if_neg (by omega), if_neg (by omega), if_pos (by omega)] | rw [if_neg (by omega), if_neg (by omega), if_neg (by omega), if_neg (by omega)] | rw [if_neg (by omega), if_neg (by omega), if_neg (by omega)] | rw [if_neg (by omega), if_neg (by omega)] | rw [if_neg (by omega)]).symm, Or.inl ⟨(show kBAt S i j = 0 from by unfold kBAt; first | rw [if_pos (by omega)] | rw [if_neg (by omega), if_pos (by omega)] | rw [if_neg (by omega), if_neg (by omega), if_pos (by omega)] | rw [if_neg (by omega), if_neg (by omega), if_neg (by omega), if_pos (by omega)] | rw [if_neg (by omega), if_neg (by omega), if_neg (by omega), if_neg (by omega)] | rw [if_neg (by omega), if_neg (by omega), if_neg (by omega)] | rw [if_neg (by omega), if_neg (by omega)] | rw [if_neg (by omega)]), rfl, rfl⟩⟩ | exact ⟨us (us P 0 0) 0 1, Eq.trans (show (us (us P 0 0) 0 1).1 0 = 1 from rfl) (show kBAt S i j = 1 from by unfold kBAt; first | rw [if_pos (by omega)] | rw [if_neg (by omega), if_pos (by omega)] | rw [if_neg (by omega), if_neg (by omega), if_pos (by omega)] | rw [if_neg (by omega), if_neg (by omega), if_neg (by omega), if_pos (by omega)] | rw [if_neg (by omega), if_neg (by omega), if_neg (by omega), if_neg (by omega)] | rw [if_neg (by omega), if_neg (by omega), if_neg (by omega)] | rw [if_neg (by omega), if_neg (by omega)] | rw [if_neg (by omega)]).symm, Or.inr ⟨by have h0 := (show kBAt S i j = 1 from by unfold kBAt; first | rw [if_pos (by omega)] | rw [if_neg (by omega), if_pos (by omega)] | rw [if_neg (by omega), if_neg (by omega), if_pos (by omega)] | rw [if_neg (by omega), if_neg (by omega), if_neg (by omega), if_pos (by omega)] | rw [if_neg (by omega), if_neg (by omega), if_neg (by omega), if_neg (by omega)] | rw [if_neg (by omega), if_neg (by omega), if_neg (by omega)] | rw [if_neg (by omega), if_neg (by omega)] | rw [if_neg (by omega)]); omega, rfl⟩⟩)
set_option maxHeartbeats 4000000 in
set_option maxRecDepth 100000 in
theorem c_X3_assembledAt {l : Launch} {G : va_G × (Nat → ClassId)} {am : Nat → Nat} {S P : St} (hI : Inv S) {i : Int} (hi : -2147483648 ≤ i ∧ i < 2147483648) : Mi l G yX3_assembledAt wsX3_assembledAt ({ frames := 1, cells := 0, slots := 0, locals := 22 } : Room) [.ref (am 0), .int (zI i)] (WM G.2 am S P) (fun r u => ∃ P9 : St, P9.1 0 = kAsA S i ∧ ((kAsA S i = 0 ∧ r = S.2 3 i ∧ u = WM G.2 am S P9) ∨ (¬ kAsA S i = 0 ∧ u = WM G.2 am S P9))) := by
  refine Mi.of (own := RX3) (cc := cX3_assembledAt) (maxL := 2) (ret := (some .int)) (by decide) rfl rfl rfl ?_
  intro p e s m args below meth c A C hN
  have hts := C.2.2.2.2.1
  have iFX3 : ∀ w ∈ u_ws RX3 TX3 19, w ∈ wsX3_assembledAt := by decide +kernel
  have k_35 := hts (.fieldLink RX3 35 "PaintSequencerModel" "thrown" "I") (by decide +kernel)
  have k_51 := hts (.fieldLink RX3 51 "PaintSequencerModel" "done" "I") (by decide +kernel)
  have k_22 := hts (.fieldLink RX3 22 "PaintSequencerModel" "order" "[I") (by decide +kernel)
  obtain ⟨hn, hz, hr, hc, hp, ha, hq, ht⟩ := id hI
  have hL9 : 1 ≤ S.1 0 ∧ S.1 0 ≤ 5 := by omega
  have hB9 : 0 ≤ S.1 5 ∧ S.1 5 ≤ 99 := by omega
  have hm1 : -2147483648 ≤ S.1 0 - 1 ∧ S.1 0 - 1 < 2147483648 := by omega
  have hm6 : -2147483648 ≤ S.1 6 - 1 ∧ S.1 6 - 1 < 2147483648 := by omega
  refine aw_aload_n C dX3_assembledAt_0 rfl ?_
  refine aw_iconst C dX3_assembledAt_1 ?_
  refine aw_put (q0 := 0) (k := 18) C iFX3 tyX3_ok nmX3 k_35 rfl rfl rfl rfl rfl rfl (wm_f18 _ _ _ _ _) dX3_assembledAt_2 ?_
  refine aw_iload_n C dX3_assembledAt_5 rfl ?_
  refine aw_iconst C dX3_assembledAt_6 ?_
  refine aw_aload_n C dX3_assembledAt_7 rfl ?_
  refine aw_get (q0 := 0) (k := 11) C iFX3 k_51 rfl rfl rfl rfl dX3_assembledAt_8 ?_
  refine aw_iconst C dX3_assembledAt_11 ?_
  refine aw_isub C dX3_assembledAt_12 ?_
  refine cS3i C hN (c_X3_in (by omega) (by omega) (by exact hm6)) (va_cwS 3 hts gX3_assembledAt_X3_in rfl rfl rfl (by decide +kernel) ⟨Nat.le_of_ble_eq_true rfl, Nat.le_of_ble_eq_true rfl⟩) rfl dX3_assembledAt_13 ⟨Nat.zero_le _, Nat.zero_le _⟩ (fun r13 u13 q13 => ?_)
  obtain ⟨rfl, rfl⟩ := q13
  refine aw_if_eq (tgt := 28) C dX3_assembledAt_16 (by decide) (by split <;> omega) (fun c16 => ?_) (fun c16 => ?_)
  · have d16 : ¬ (0 ≤ i ∧ i ≤ S.1 6 - 1) := ite_f c16
    refine aw_aload_n C dX3_assembledAt_28 rfl ?_
    refine aw_iconst C dX3_assembledAt_29 ?_
    refine cV1i (ci := 3) (q0 := 0) C hN (c_X3_fails) (cwV 1 hts gX3_assembledAt_X3_fails rfl rfl rfl (by decide +kernel) ⟨Nat.le_of_ble_eq_true rfl, Nat.le_of_ble_eq_true rfl⟩) rfl rfl rfl rfl dX3_assembledAt_30 ⟨Nat.zero_le _, Nat.zero_le _⟩ (fun r30 u30 q30 => ?_)
    obtain ⟨rfl, rfl⟩ := q30
    exact aw_iret C dX3_assembledAt_33 (by first | exact ⟨(us P 0 0), Eq.trans (show ((us P 0 0)).1 0 = 0 from rfl) (show kAsA S i = 0 from by unfold kAsA; first | rw [if_pos (by omega)] | rw [if_neg (by omega), if_pos (by omega)] | rw [if_neg (by omega), if_neg (by omega), if_pos (by omega)] | rw [if_neg (by omega), if_neg (by omega), if_neg (by omega), if_pos (by omega)] | rw [if_neg (by omega), if_neg (by omega), if_neg (by omega), if_neg (by omega)] | rw [if_neg (by omega), if_neg (by omega), if_neg (by omega)] | rw [if_neg (by omega), if_neg (by omega)] | rw [if_neg (by omega)]).symm, Or.inl ⟨(show kAsA S i = 0 from by unfold kAsA; first | rw [if_pos (by omega)] | rw [if_neg (by omega), if_pos (by omega)] | rw [if_neg (by omega), if_neg (by omega), if_pos (by omega)] | rw [if_neg (by omega), if_neg (by omega), if_neg (by omega), if_pos (by omega)] | rw [if_neg (by omega), if_neg (by omega), if_neg (by omega), if_neg (by omega)] | rw [if_neg (by omega), if_neg (by omega), if_neg (by omega)] | rw [if_neg (by omega), if_neg (by omega)] | rw [if_neg (by omega)]), rfl, rfl⟩⟩ | exact ⟨us (us P 0 0) 0 1, Eq.trans (show (us (us P 0 0) 0 1).1 0 = 1 from rfl) (show kAsA S i = 1 from by unfold kAsA; first | rw [if_pos (by omega)] | rw [if_neg (by omega), if_pos (by omega)] | rw [if_neg (by omega), if_neg (by omega), if_pos (by omega)] | rw [if_neg (by omega), if_neg (by omega), if_neg (by omega), if_pos (by omega)] | rw [if_neg (by omega), if_neg (by omega), if_neg (by omega), if_neg (by omega)] | rw [if_neg (by omega), if_neg (by omega), if_neg (by omega)] | rw [if_neg (by omega), if_neg (by omega)] | rw [if_neg (by omega)]).symm, Or.inr ⟨by have h0 := (show kAsA S i = 1 from by unfold kAsA; first | rw [if_pos (by omega)] | rw [if_neg (by omega), if_pos (by omega)] | rw [if_neg (by omega), if_neg (by omega), if_pos (by omega)] | rw [if_neg (by omega), if_neg (by omega), if_neg (by omega), if_pos (by omega)] | rw [if_neg (by omega), if_neg (by omega), if_neg (by omega), if_neg (by omega)] | rw [if_neg (by omega), if_neg (by omega), if_neg (by omega)] | rw [if_neg (by omega), if_neg (by omega)] | rw [if_neg (by omega)]); omega, rfl⟩⟩)
  · have d16 : 0 ≤ i ∧ i ≤ S.1 6 - 1 := ite_t c16
    refine aw_aload_n C dX3_assembledAt_19 rfl ?_
    refine aw_get (q0 := 0) (k := 10) C iFX3 k_22 rfl rfl rfl rfl dX3_assembledAt_20 ?_
    refine aw_iload_n C dX3_assembledAt_23 rfl ?_
    refine aw_ldI (q0 := 5) C rfl (by omega) (by omega) rfl dX3_assembledAt_24 ?_
    refine aw_goto (tgt := 33) C dX3_assembledAt_25 (by decide) ?_
    exact aw_iret C dX3_assembledAt_33 (by first | exact ⟨(us P 0 0), Eq.trans (show ((us P 0 0)).1 0 = 0 from rfl) (show kAsA S i = 0 from by unfold kAsA; first | rw [if_pos (by omega)] | rw [if_neg (by omega), if_pos (by omega)] | rw [if_neg (by omega), if_neg (by omega), if_pos (by omega)] | rw [if_neg (by omega), if_neg (by omega), if_neg (by omega), if_pos (by omega)] | rw [if_neg (by omega), if_neg (by omega), if_neg (by omega), if_neg (by omega)] | rw [if_neg (by omega), if_neg (by omega), if_neg (by omega)] | rw [if_neg (by omega), if_neg (by omega)] | rw [if_neg (by omega)]).symm, Or.inl ⟨(show kAsA S i = 0 from by unfold kAsA; first | rw [if_pos (by omega)] | rw [if_neg (by omega), if_pos (by omega)] | rw [if_neg (by omega), if_neg (by omega), if_pos (by omega)] | rw [if_neg (by omega), if_neg (by omega), if_neg (by omega), if_pos (by omega)] | rw [if_neg (by omega), if_neg (by omega), if_neg (by omega), if_neg (by omega)] | rw [if_neg (by omega), if_neg (by omega), if_neg (by omega)] | rw [if_neg (by omega), if_neg (by omega)] | rw [if_neg (by omega)]), rfl, rfl⟩⟩ | exact ⟨us (us P 0 0) 0 1, Eq.trans (show (us (us P 0 0) 0 1).1 0 = 1 from rfl) (show kAsA S i = 1 from by unfold kAsA; first | rw [if_pos (by omega)] | rw [if_neg (by omega), if_pos (by omega)] | rw [if_neg (by omega), if_neg (by omega), if_pos (by omega)] | rw [if_neg (by omega), if_neg (by omega), if_neg (by omega), if_pos (by omega)] | rw [if_neg (by omega), if_neg (by omega), if_neg (by omega), if_neg (by omega)] | rw [if_neg (by omega), if_neg (by omega), if_neg (by omega)] | rw [if_neg (by omega), if_neg (by omega)] | rw [if_neg (by omega)]).symm, Or.inr ⟨by have h0 := (show kAsA S i = 1 from by unfold kAsA; first | rw [if_pos (by omega)] | rw [if_neg (by omega), if_pos (by omega)] | rw [if_neg (by omega), if_neg (by omega), if_pos (by omega)] | rw [if_neg (by omega), if_neg (by omega), if_neg (by omega), if_pos (by omega)] | rw [if_neg (by omega), if_neg (by omega), if_neg (by omega), if_neg (by omega)] | rw [if_neg (by omega), if_neg (by omega), if_neg (by omega)] | rw [if_neg (by omega), if_neg (by omega)] | rw [if_neg (by omega)]); omega, rfl⟩⟩)
set_option maxHeartbeats 4000000 in
set_option maxRecDepth 100000 in
theorem c_X3_latenessOf {l : Launch} {G : va_G × (Nat → ClassId)} {am : Nat → Nat} {S P : St} (hI : Inv S) {b : Int} (hb : 0 ≤ b ∧ b < S.1 5) (h12 : S.2 2 b = 12) : Mi l G yX3_latenessOf wsX3_latenessOf ({ frames := 0, cells := 0, slots := 0, locals := 0 } : Room) [.ref (am 0), .int (zI b)] (WM G.2 am S P) (fun r u => r = S.2 4 b - b ∧ u = (WM G.2 am S P)) := by
  refine Mi.of (own := RX3) (cc := cX3_latenessOf) (maxL := 3) (ret := (some .int)) (by decide) rfl rfl rfl ?_
  intro p e s m args below meth c A C hN
  have hts := C.2.2.2.2.1
  have iFX3 : ∀ w ∈ u_ws RX3 TX3 19, w ∈ wsX3_latenessOf := by decide +kernel
  have k_22 := hts (.fieldLink RX3 22 "PaintSequencerModel" "order" "[I") (by decide +kernel)
  obtain ⟨hn, hz, hr, hc, hp, ha, hq, ht⟩ := id hI
  have hqb := hq b hb.1 hb.2 h12
  have lp : ∀ (n : Nat) (k : Nat), (k : Int) ≤ S.2 4 b → S.2 4 b - k < n → AW p l e (headSpec wsX3_latenessOf ({ frames := 0, cells := 0, slots := 0, locals := 0 } : Room)).room s m args below meth c 3 G A s.heap 0 0 (MQ below (QPi G (fun r u => r = S.2 4 b - b ∧ u = (WM G.2 am S P)) A) args s 0 0 A) (WM G.2 am S P) [(0, .ref (am 0)), (1, .int (zI b)), (2, .int (zI k))] 2 [] := by
    intro n
    induction n with
    | zero =>
      intro k h1 h2
      exfalso
      omega
    | succ n ih =>
      intro k h1 h2
      refine aw_aload_n C dX3_latenessOf_2 rfl ?_
      refine aw_get (q0 := 0) (k := 10) C iFX3 k_22 rfl rfl rfl rfl dX3_latenessOf_3 ?_
      refine aw_iload_n C dX3_latenessOf_6 rfl ?_
      refine aw_ldI (q0 := 5) C rfl (by omega) (by omega) rfl dX3_latenessOf_7 ?_
      have h7 := ha k (by omega) (by omega)
      refine aw_iload_n C dX3_latenessOf_8 rfl ?_
      refine aw_icmp_eq (tgt := 18) C dX3_latenessOf_9 (by decide) (by omega) (by omega) (fun c9 => ?_) (fun c9 => ?_)
      · refine aw_iload_n C dX3_latenessOf_18 rfl ?_
        refine aw_iload_n C dX3_latenessOf_19 rfl ?_
        refine aw_isub C dX3_latenessOf_20 ?_
        exact aw_iret C dX3_latenessOf_21 ⟨by
          have e := h7.2.2.2
          rw [c9] at e
          omega, rfl⟩
      · refine aw_iinc C dX3_latenessOf_12 rfl rfl rfl ?_
        refine aw_goto (tgt := 2) C dX3_latenessOf_15 (by decide) ?_
        refine ih (k + 1) ?_ (by omega)
        by_cases e : (k : Int) = S.2 4 b
        · rw [e, hqb.2.2] at c9
          exact absurd rfl c9
        · omega
  refine aw_iconst C dX3_latenessOf_0 ?_
  refine aw_istore_n C dX3_latenessOf_1 rfl rfl ?_
  exact lp 100 0 (by omega) (by omega)
set_option maxHeartbeats 4000000 in
set_option maxRecDepth 100000 in
theorem c_X3_lateness {l : Launch} {G : va_G × (Nat → ClassId)} {am : Nat → Nat} {S P : St} (hI : Inv S) {b : Int} (hb : -2147483648 ≤ b ∧ b < 2147483648) : Mi l G yX3_lateness wsX3_lateness ({ frames := 2, cells := 0, slots := 0, locals := 43 } : Room) [.ref (am 0), .int (zI b)] (WM G.2 am S P) (fun r u => ∃ P9 : St, P9.1 0 = kLat S b ∧ ((kLat S b = 0 ∧ r = S.2 4 b - b ∧ u = WM G.2 am S P9) ∨ (¬ kLat S b = 0 ∧ u = WM G.2 am S P9))) := by
  refine Mi.of (own := RX3) (cc := cX3_lateness) (maxL := 2) (ret := (some .int)) (by decide) rfl rfl rfl ?_
  intro p e s m args below meth c A C hN
  have hts := C.2.2.2.2.1
  have iFX3 : ∀ w ∈ u_ws RX3 TX3 19, w ∈ wsX3_lateness := by decide +kernel
  have k_35 := hts (.fieldLink RX3 35 "PaintSequencerModel" "thrown" "I") (by decide +kernel)
  have k_19 := hts (.fieldLink RX3 19 "PaintSequencerModel" "places" "[I") (by decide +kernel)
  obtain ⟨hn, hz, hr, hc, hp, ha, hq, ht⟩ := id hI
  have hL9 : 1 ≤ S.1 0 ∧ S.1 0 ≤ 5 := by omega
  have hB9 : 0 ≤ S.1 5 ∧ S.1 5 ≤ 99 := by omega
  refine aw_aload_n C dX3_lateness_0 rfl ?_
  refine aw_iconst C dX3_lateness_1 ?_
  refine aw_put (q0 := 0) (k := 18) C iFX3 tyX3_ok nmX3 k_35 rfl rfl rfl rfl rfl rfl (wm_f18 _ _ _ _ _) dX3_lateness_2 ?_
  refine aw_aload_n C dX3_lateness_5 rfl ?_
  refine aw_iload_n C dX3_lateness_6 rfl ?_
  refine cV1i (ci := 3) (q0 := 0) C hN (c_X3_isBody (by exact hB9) hb) (cwV 1 hts gX3_lateness_X3_isBody rfl rfl rfl (by decide +kernel) ⟨Nat.le_of_ble_eq_true rfl, Nat.le_of_ble_eq_true rfl⟩) rfl rfl rfl rfl dX3_lateness_7 ⟨Nat.zero_le _, Nat.zero_le _⟩ (fun r7 u7 q7 => ?_)
  obtain ⟨rfl, rfl⟩ := q7
  refine aw_if_ne (tgt := 19) C dX3_lateness_10 (by decide) (by split <;> omega) (fun c10 => ?_) (fun c10 => ?_)
  · have d10 : 0 ≤ b ∧ b < S.1 5 := ite_t c10
    have h8 := hp b (by omega) (by omega)
    refine aw_aload_n C dX3_lateness_19 rfl ?_
    refine aw_get (q0 := 0) (k := 9) C iFX3 k_19 rfl rfl rfl rfl dX3_lateness_20 ?_
    refine aw_iload_n C dX3_lateness_23 rfl ?_
    refine aw_ldI (q0 := 4) C rfl (by omega) (by omega) rfl dX3_lateness_24 ?_
    refine aw_bipush C dX3_lateness_25 rfl ?_
    refine aw_icmp_ne (tgt := 38) C dX3_lateness_27 (by decide) (by omega) (by omega) (fun c27 => ?_) (fun c27 => ?_)
    · refine aw_aload_n C dX3_lateness_38 rfl ?_
      refine aw_iconst C dX3_lateness_39 ?_
      refine cV1i (ci := 3) (q0 := 0) C hN (c_X3_fails) (cwV 1 hts gX3_lateness_X3_fails rfl rfl rfl (by decide +kernel) ⟨Nat.le_of_ble_eq_true rfl, Nat.le_of_ble_eq_true rfl⟩) rfl rfl rfl rfl dX3_lateness_40 ⟨Nat.zero_le _, Nat.zero_le _⟩ (fun r40 u40 q40 => ?_)
      obtain ⟨rfl, rfl⟩ := q40
      exact aw_iret C dX3_lateness_43 (by first | exact ⟨(us P 0 0), Eq.trans (show ((us P 0 0)).1 0 = 0 from rfl) (show kLat S b = 0 from by unfold kLat; first | rw [if_pos (by omega)] | rw [if_neg (by omega), if_pos (by omega)] | rw [if_neg (by omega), if_neg (by omega), if_pos (by omega)] | rw [if_neg (by omega), if_neg (by omega), if_neg (by omega), if_pos (by omega)] | rw [if_neg (by omega), if_neg (by omega), if_neg (by omega), if_neg (by omega)] | rw [if_neg (by omega), if_neg (by omega), if_neg (by omega)] | rw [if_neg (by omega), if_neg (by omega)] | rw [if_neg (by omega)]).symm, Or.inl ⟨(show kLat S b = 0 from by unfold kLat; first | rw [if_pos (by omega)] | rw [if_neg (by omega), if_pos (by omega)] | rw [if_neg (by omega), if_neg (by omega), if_pos (by omega)] | rw [if_neg (by omega), if_neg (by omega), if_neg (by omega), if_pos (by omega)] | rw [if_neg (by omega), if_neg (by omega), if_neg (by omega), if_neg (by omega)] | rw [if_neg (by omega), if_neg (by omega), if_neg (by omega)] | rw [if_neg (by omega), if_neg (by omega)] | rw [if_neg (by omega)]), rfl, rfl⟩⟩ | exact ⟨us (us P 0 0) 0 2, Eq.trans (show (us (us P 0 0) 0 2).1 0 = 2 from rfl) (show kLat S b = 2 from by unfold kLat; first | rw [if_pos (by omega)] | rw [if_neg (by omega), if_pos (by omega)] | rw [if_neg (by omega), if_neg (by omega), if_pos (by omega)] | rw [if_neg (by omega), if_neg (by omega), if_neg (by omega), if_pos (by omega)] | rw [if_neg (by omega), if_neg (by omega), if_neg (by omega), if_neg (by omega)] | rw [if_neg (by omega), if_neg (by omega), if_neg (by omega)] | rw [if_neg (by omega), if_neg (by omega)] | rw [if_neg (by omega)]).symm, Or.inr ⟨by have h0 := (show kLat S b = 2 from by unfold kLat; first | rw [if_pos (by omega)] | rw [if_neg (by omega), if_pos (by omega)] | rw [if_neg (by omega), if_neg (by omega), if_pos (by omega)] | rw [if_neg (by omega), if_neg (by omega), if_neg (by omega), if_pos (by omega)] | rw [if_neg (by omega), if_neg (by omega), if_neg (by omega), if_neg (by omega)] | rw [if_neg (by omega), if_neg (by omega), if_neg (by omega)] | rw [if_neg (by omega), if_neg (by omega)] | rw [if_neg (by omega)]); omega, rfl⟩⟩)
    · refine aw_aload_n C dX3_lateness_30 rfl ?_
      refine aw_iload_n C dX3_lateness_31 rfl ?_
      refine cV1i (ci := 3) (q0 := 0) C hN (c_X3_latenessOf hI (by omega) (by omega)) (cwV 1 hts gX3_lateness_X3_latenessOf rfl rfl rfl (by decide +kernel) ⟨Nat.le_of_ble_eq_true rfl, Nat.le_of_ble_eq_true rfl⟩) rfl rfl rfl rfl dX3_lateness_32 ⟨Nat.zero_le _, Nat.zero_le _⟩ (fun r32 u32 q32 => ?_)
      obtain ⟨rfl, rfl⟩ := q32
      refine aw_goto (tgt := 43) C dX3_lateness_35 (by decide) ?_
      exact aw_iret C dX3_lateness_43 (by first | exact ⟨(us P 0 0), Eq.trans (show ((us P 0 0)).1 0 = 0 from rfl) (show kLat S b = 0 from by unfold kLat; first | rw [if_pos (by omega)] | rw [if_neg (by omega), if_pos (by omega)] | rw [if_neg (by omega), if_neg (by omega), if_pos (by omega)] | rw [if_neg (by omega), if_neg (by omega), if_neg (by omega), if_pos (by omega)] | rw [if_neg (by omega), if_neg (by omega), if_neg (by omega), if_neg (by omega)] | rw [if_neg (by omega), if_neg (by omega), if_neg (by omega)] | rw [if_neg (by omega), if_neg (by omega)] | rw [if_neg (by omega)]).symm, Or.inl ⟨(show kLat S b = 0 from by unfold kLat; first | rw [if_pos (by omega)] | rw [if_neg (by omega), if_pos (by omega)] | rw [if_neg (by omega), if_neg (by omega), if_pos (by omega)] | rw [if_neg (by omega), if_neg (by omega), if_neg (by omega), if_pos (by omega)] | rw [if_neg (by omega), if_neg (by omega), if_neg (by omega), if_neg (by omega)] | rw [if_neg (by omega), if_neg (by omega), if_neg (by omega)] | rw [if_neg (by omega), if_neg (by omega)] | rw [if_neg (by omega)]), rfl, rfl⟩⟩ | exact ⟨us (us P 0 0) 0 2, Eq.trans (show (us (us P 0 0) 0 2).1 0 = 2 from rfl) (show kLat S b = 2 from by unfold kLat; first | rw [if_pos (by omega)] | rw [if_neg (by omega), if_pos (by omega)] | rw [if_neg (by omega), if_neg (by omega), if_pos (by omega)] | rw [if_neg (by omega), if_neg (by omega), if_neg (by omega), if_pos (by omega)] | rw [if_neg (by omega), if_neg (by omega), if_neg (by omega), if_neg (by omega)] | rw [if_neg (by omega), if_neg (by omega), if_neg (by omega)] | rw [if_neg (by omega), if_neg (by omega)] | rw [if_neg (by omega)]).symm, Or.inr ⟨by have h0 := (show kLat S b = 2 from by unfold kLat; first | rw [if_pos (by omega)] | rw [if_neg (by omega), if_pos (by omega)] | rw [if_neg (by omega), if_neg (by omega), if_pos (by omega)] | rw [if_neg (by omega), if_neg (by omega), if_neg (by omega), if_pos (by omega)] | rw [if_neg (by omega), if_neg (by omega), if_neg (by omega), if_neg (by omega)] | rw [if_neg (by omega), if_neg (by omega), if_neg (by omega)] | rw [if_neg (by omega), if_neg (by omega)] | rw [if_neg (by omega)]); omega, rfl⟩⟩)
  · have d10 : ¬ (0 ≤ b ∧ b < S.1 5) := ite_f c10
    refine aw_aload_n C dX3_lateness_13 rfl ?_
    refine aw_iconst C dX3_lateness_14 ?_
    refine cV1i (ci := 3) (q0 := 0) C hN (c_X3_fails) (cwV 1 hts gX3_lateness_X3_fails rfl rfl rfl (by decide +kernel) ⟨Nat.le_of_ble_eq_true rfl, Nat.le_of_ble_eq_true rfl⟩) rfl rfl rfl rfl dX3_lateness_15 ⟨Nat.zero_le _, Nat.zero_le _⟩ (fun r15 u15 q15 => ?_)
    obtain ⟨rfl, rfl⟩ := q15
    exact aw_iret C dX3_lateness_18 ⟨us (us P 0 0) 0 1, Eq.trans (show (us (us P 0 0) 0 1).1 0 = 1 from rfl) (show kLat S b = 1 from by unfold kLat; first | rw [if_pos (by omega)] | rw [if_neg (by omega), if_pos (by omega)] | rw [if_neg (by omega), if_neg (by omega), if_pos (by omega)] | rw [if_neg (by omega), if_neg (by omega), if_neg (by omega), if_pos (by omega)] | rw [if_neg (by omega), if_neg (by omega), if_neg (by omega), if_neg (by omega)] | rw [if_neg (by omega), if_neg (by omega), if_neg (by omega)] | rw [if_neg (by omega), if_neg (by omega)] | rw [if_neg (by omega)]).symm, Or.inr ⟨by have h0 := (show kLat S b = 1 from by unfold kLat; first | rw [if_pos (by omega)] | rw [if_neg (by omega), if_pos (by omega)] | rw [if_neg (by omega), if_neg (by omega), if_pos (by omega)] | rw [if_neg (by omega), if_neg (by omega), if_neg (by omega), if_pos (by omega)] | rw [if_neg (by omega), if_neg (by omega), if_neg (by omega), if_neg (by omega)] | rw [if_neg (by omega), if_neg (by omega), if_neg (by omega)] | rw [if_neg (by omega), if_neg (by omega)] | rw [if_neg (by omega)]); omega, rfl⟩⟩
set_option maxHeartbeats 4000000 in
set_option maxRecDepth 100000 in
theorem c_X3_fewestChanges {l : Launch} {G : va_G × (Nat → ClassId)} {am : Nat → Nat} {S P : St} (hI : Inv S) : Mi l G yX3_fewestChanges wsX3_fewestChanges ({ frames := 1, cells := 0, slots := 0, locals := 27 } : Room) [.ref (am 0)] (WM G.2 am S P) (fun r u => ∃ P9 : St, P9.1 0 = kFew S 12 ∧ ((kFew S 12 = 0 ∧ r = fwS S (S.1 8) ∧ u = WM G.2 am S P9) ∨ (¬ kFew S 12 = 0 ∧ u = WM G.2 am S P9))) := by
  refine Mi.of (own := RX3) (cc := cX3_fewestChanges) (maxL := 1) (ret := (some .int)) (by decide) rfl rfl rfl ?_
  intro p e s m args below meth c A C hN
  have hts := C.2.2.2.2.1
  have iFX3 : ∀ w ∈ u_ws RX3 TX3 19, w ∈ wsX3_fewestChanges := by decide +kernel
  have k_35 := hts (.fieldLink RX3 35 "PaintSequencerModel" "thrown" "I") (by decide +kernel)
  obtain ⟨hn, hz, hr, hc, hp, ha, hq, ht⟩ := id hI
  have hL9 : 1 ≤ S.1 0 ∧ S.1 0 ≤ 5 := by omega
  have hB9 : 0 ≤ S.1 5 ∧ S.1 5 ≤ 99 := by omega
  have h5n := nlS_5 hI
  obtain ⟨hz6, hz5, hst5⟩ := szS hI
  have z0 := hz6 0 (by omega) (by omega)
  have z1 := hz6 1 (by omega) (by omega)
  have z2 := hz6 2 (by omega) (by omega)
  have z3 := hz6 3 (by omega) (by omega)
  have z4 := hz6 4 (by omega) (by omega)
  refine aw_aload_n C dX3_fewestChanges_0 rfl ?_
  refine aw_iconst C dX3_fewestChanges_1 ?_
  refine aw_put (q0 := 0) (k := 18) C iFX3 tyX3_ok nmX3 k_35 rfl rfl rfl rfl rfl rfl (wm_f18 _ _ _ _ _) dX3_fewestChanges_2 ?_
  refine aw_aload_n C dX3_fewestChanges_5 rfl ?_
  refine cV0i (ci := 3) (q0 := 0) C hN (c_X3_inLanes hI) (cwV 0 hts gX3_fewestChanges_X3_inLanes rfl rfl rfl (by decide +kernel) ⟨Nat.le_of_ble_eq_true rfl, Nat.le_of_ble_eq_true rfl⟩) rfl rfl rfl rfl dX3_fewestChanges_6 ⟨Nat.zero_le _, Nat.zero_le _⟩ (fun r6 u6 q6 => ?_)
  obtain ⟨rfl, rfl⟩ := q6
  refine aw_bipush C dX3_fewestChanges_9 rfl ?_
  refine aw_icmp_le (tgt := 22) C dX3_fewestChanges_11 (by decide) (by omega) (by omega) (fun c11 => ?_) (fun c11 => ?_)
  · refine aw_aload_n C dX3_fewestChanges_22 rfl ?_
    refine cV0i (ci := 3) (q0 := 0) C hN (c_X3_layLeast hI (by omega)) (cwV 0 hts gX3_fewestChanges_X3_layLeast rfl rfl rfl (by decide +kernel) ⟨Nat.le_of_ble_eq_true rfl, Nat.le_of_ble_eq_true rfl⟩) rfl rfl rfl rfl dX3_fewestChanges_23 ⟨Nat.zero_le _, Nat.zero_le _⟩ (fun r23 u23 q23 => ?_)
    obtain ⟨rfl, P9, rfl, hP9, -, -⟩ := q23
    exact aw_iret C dX3_fewestChanges_26 (by first | exact ⟨P9, Eq.trans (show P9.1 0 = 0 by rw [hP9]; rfl) (show kFew S 12 = 0 from by unfold kFew; first | rw [if_pos (by omega)] | rw [if_neg (by omega), if_pos (by omega)] | rw [if_neg (by omega), if_neg (by omega), if_pos (by omega)] | rw [if_neg (by omega), if_neg (by omega), if_neg (by omega), if_pos (by omega)] | rw [if_neg (by omega), if_neg (by omega), if_neg (by omega), if_neg (by omega)] | rw [if_neg (by omega), if_neg (by omega), if_neg (by omega)] | rw [if_neg (by omega), if_neg (by omega)] | rw [if_neg (by omega)]).symm, Or.inl ⟨(show kFew S 12 = 0 from by unfold kFew; first | rw [if_pos (by omega)] | rw [if_neg (by omega), if_pos (by omega)] | rw [if_neg (by omega), if_neg (by omega), if_pos (by omega)] | rw [if_neg (by omega), if_neg (by omega), if_neg (by omega), if_pos (by omega)] | rw [if_neg (by omega), if_neg (by omega), if_neg (by omega), if_neg (by omega)] | rw [if_neg (by omega), if_neg (by omega), if_neg (by omega)] | rw [if_neg (by omega), if_neg (by omega)] | rw [if_neg (by omega)]), rfl, rfl⟩⟩ | exact ⟨us (us P 0 0) 0 1, Eq.trans (show (us (us P 0 0) 0 1).1 0 = 1 from rfl) (show kFew S 12 = 1 from by unfold kFew; first | rw [if_pos (by omega)] | rw [if_neg (by omega), if_pos (by omega)] | rw [if_neg (by omega), if_neg (by omega), if_pos (by omega)] | rw [if_neg (by omega), if_neg (by omega), if_neg (by omega), if_pos (by omega)] | rw [if_neg (by omega), if_neg (by omega), if_neg (by omega), if_neg (by omega)] | rw [if_neg (by omega), if_neg (by omega), if_neg (by omega)] | rw [if_neg (by omega), if_neg (by omega)] | rw [if_neg (by omega)]).symm, Or.inr ⟨by have h0 := (show kFew S 12 = 1 from by unfold kFew; first | rw [if_pos (by omega)] | rw [if_neg (by omega), if_pos (by omega)] | rw [if_neg (by omega), if_neg (by omega), if_pos (by omega)] | rw [if_neg (by omega), if_neg (by omega), if_neg (by omega), if_pos (by omega)] | rw [if_neg (by omega), if_neg (by omega), if_neg (by omega), if_neg (by omega)] | rw [if_neg (by omega), if_neg (by omega), if_neg (by omega)] | rw [if_neg (by omega), if_neg (by omega)] | rw [if_neg (by omega)]); omega, rfl⟩⟩)
  · refine aw_aload_n C dX3_fewestChanges_14 rfl ?_
    refine aw_iconst C dX3_fewestChanges_15 ?_
    refine cV1i (ci := 3) (q0 := 0) C hN (c_X3_fails) (cwV 1 hts gX3_fewestChanges_X3_fails rfl rfl rfl (by decide +kernel) ⟨Nat.le_of_ble_eq_true rfl, Nat.le_of_ble_eq_true rfl⟩) rfl rfl rfl rfl dX3_fewestChanges_16 ⟨Nat.zero_le _, Nat.zero_le _⟩ (fun r16 u16 q16 => ?_)
    obtain ⟨rfl, rfl⟩ := q16
    refine aw_goto (tgt := 26) C dX3_fewestChanges_19 (by decide) ?_
    exact aw_iret C dX3_fewestChanges_26 (by first | exact ⟨P9, Eq.trans (show P9.1 0 = 0 by rw [hP9]; rfl) (show kFew S 12 = 0 from by unfold kFew; first | rw [if_pos (by omega)] | rw [if_neg (by omega), if_pos (by omega)] | rw [if_neg (by omega), if_neg (by omega), if_pos (by omega)] | rw [if_neg (by omega), if_neg (by omega), if_neg (by omega), if_pos (by omega)] | rw [if_neg (by omega), if_neg (by omega), if_neg (by omega), if_neg (by omega)] | rw [if_neg (by omega), if_neg (by omega), if_neg (by omega)] | rw [if_neg (by omega), if_neg (by omega)] | rw [if_neg (by omega)]).symm, Or.inl ⟨(show kFew S 12 = 0 from by unfold kFew; first | rw [if_pos (by omega)] | rw [if_neg (by omega), if_pos (by omega)] | rw [if_neg (by omega), if_neg (by omega), if_pos (by omega)] | rw [if_neg (by omega), if_neg (by omega), if_neg (by omega), if_pos (by omega)] | rw [if_neg (by omega), if_neg (by omega), if_neg (by omega), if_neg (by omega)] | rw [if_neg (by omega), if_neg (by omega), if_neg (by omega)] | rw [if_neg (by omega), if_neg (by omega)] | rw [if_neg (by omega)]), rfl, rfl⟩⟩ | exact ⟨us (us P 0 0) 0 1, Eq.trans (show (us (us P 0 0) 0 1).1 0 = 1 from rfl) (show kFew S 12 = 1 from by unfold kFew; first | rw [if_pos (by omega)] | rw [if_neg (by omega), if_pos (by omega)] | rw [if_neg (by omega), if_neg (by omega), if_pos (by omega)] | rw [if_neg (by omega), if_neg (by omega), if_neg (by omega), if_pos (by omega)] | rw [if_neg (by omega), if_neg (by omega), if_neg (by omega), if_neg (by omega)] | rw [if_neg (by omega), if_neg (by omega), if_neg (by omega)] | rw [if_neg (by omega), if_neg (by omega)] | rw [if_neg (by omega)]).symm, Or.inr ⟨by have h0 := (show kFew S 12 = 1 from by unfold kFew; first | rw [if_pos (by omega)] | rw [if_neg (by omega), if_pos (by omega)] | rw [if_neg (by omega), if_neg (by omega), if_pos (by omega)] | rw [if_neg (by omega), if_neg (by omega), if_neg (by omega), if_pos (by omega)] | rw [if_neg (by omega), if_neg (by omega), if_neg (by omega), if_neg (by omega)] | rw [if_neg (by omega), if_neg (by omega), if_neg (by omega)] | rw [if_neg (by omega), if_neg (by omega)] | rw [if_neg (by omega)]); omega, rfl⟩⟩)
set_option maxHeartbeats 4000000 in
set_option maxRecDepth 100000 in
theorem c_X3_fewestByAll {l : Launch} {G : va_G × (Nat → ClassId)} {am : Nat → Nat} {S P : St} (hI : Inv S) : Mi l G yX3_fewestByAll wsX3_fewestByAll ({ frames := 1, cells := 0, slots := 0, locals := 27 } : Room) [.ref (am 0)] (WM G.2 am S P) (fun r u => ∃ P9 : St, P9.1 0 = kFew S 8 ∧ ((kFew S 8 = 0 ∧ r = fwS S (S.1 8) ∧ u = WM G.2 am S P9) ∨ (¬ kFew S 8 = 0 ∧ u = WM G.2 am S P9))) := by
  refine Mi.of (own := RX3) (cc := cX3_fewestByAll) (maxL := 1) (ret := (some .int)) (by decide) rfl rfl rfl ?_
  intro p e s m args below meth c A C hN
  have hts := C.2.2.2.2.1
  have iFX3 : ∀ w ∈ u_ws RX3 TX3 19, w ∈ wsX3_fewestByAll := by decide +kernel
  have k_35 := hts (.fieldLink RX3 35 "PaintSequencerModel" "thrown" "I") (by decide +kernel)
  obtain ⟨hn, hz, hr, hc, hp, ha, hq, ht⟩ := id hI
  have hL9 : 1 ≤ S.1 0 ∧ S.1 0 ≤ 5 := by omega
  have hB9 : 0 ≤ S.1 5 ∧ S.1 5 ≤ 99 := by omega
  have h5n := nlS_5 hI
  obtain ⟨hz6, hz5, hst5⟩ := szS hI
  have z0 := hz6 0 (by omega) (by omega)
  have z1 := hz6 1 (by omega) (by omega)
  have z2 := hz6 2 (by omega) (by omega)
  have z3 := hz6 3 (by omega) (by omega)
  have z4 := hz6 4 (by omega) (by omega)
  refine aw_aload_n C dX3_fewestByAll_0 rfl ?_
  refine aw_iconst C dX3_fewestByAll_1 ?_
  refine aw_put (q0 := 0) (k := 18) C iFX3 tyX3_ok nmX3 k_35 rfl rfl rfl rfl rfl rfl (wm_f18 _ _ _ _ _) dX3_fewestByAll_2 ?_
  refine aw_aload_n C dX3_fewestByAll_5 rfl ?_
  refine cV0i (ci := 3) (q0 := 0) C hN (c_X3_inLanes hI) (cwV 0 hts gX3_fewestByAll_X3_inLanes rfl rfl rfl (by decide +kernel) ⟨Nat.le_of_ble_eq_true rfl, Nat.le_of_ble_eq_true rfl⟩) rfl rfl rfl rfl dX3_fewestByAll_6 ⟨Nat.zero_le _, Nat.zero_le _⟩ (fun r6 u6 q6 => ?_)
  obtain ⟨rfl, rfl⟩ := q6
  refine aw_bipush C dX3_fewestByAll_9 rfl ?_
  refine aw_icmp_le (tgt := 22) C dX3_fewestByAll_11 (by decide) (by omega) (by omega) (fun c11 => ?_) (fun c11 => ?_)
  · refine aw_aload_n C dX3_fewestByAll_22 rfl ?_
    refine cV0i (ci := 3) (q0 := 0) C hN (c_X3_layLeast hI (by omega)) (cwV 0 hts gX3_fewestByAll_X3_layLeast rfl rfl rfl (by decide +kernel) ⟨Nat.le_of_ble_eq_true rfl, Nat.le_of_ble_eq_true rfl⟩) rfl rfl rfl rfl dX3_fewestByAll_23 ⟨Nat.zero_le _, Nat.zero_le _⟩ (fun r23 u23 q23 => ?_)
    obtain ⟨rfl, P9, rfl, hP9, -, -⟩ := q23
    exact aw_iret C dX3_fewestByAll_26 (by first | exact ⟨P9, Eq.trans (show P9.1 0 = 0 by rw [hP9]; rfl) (show kFew S 8 = 0 from by unfold kFew; first | rw [if_pos (by omega)] | rw [if_neg (by omega), if_pos (by omega)] | rw [if_neg (by omega), if_neg (by omega), if_pos (by omega)] | rw [if_neg (by omega), if_neg (by omega), if_neg (by omega), if_pos (by omega)] | rw [if_neg (by omega), if_neg (by omega), if_neg (by omega), if_neg (by omega)] | rw [if_neg (by omega), if_neg (by omega), if_neg (by omega)] | rw [if_neg (by omega), if_neg (by omega)] | rw [if_neg (by omega)]).symm, Or.inl ⟨(show kFew S 8 = 0 from by unfold kFew; first | rw [if_pos (by omega)] | rw [if_neg (by omega), if_pos (by omega)] | rw [if_neg (by omega), if_neg (by omega), if_pos (by omega)] | rw [if_neg (by omega), if_neg (by omega), if_neg (by omega), if_pos (by omega)] | rw [if_neg (by omega), if_neg (by omega), if_neg (by omega), if_neg (by omega)] | rw [if_neg (by omega), if_neg (by omega), if_neg (by omega)] | rw [if_neg (by omega), if_neg (by omega)] | rw [if_neg (by omega)]), rfl, rfl⟩⟩ | exact ⟨us (us P 0 0) 0 1, Eq.trans (show (us (us P 0 0) 0 1).1 0 = 1 from rfl) (show kFew S 8 = 1 from by unfold kFew; first | rw [if_pos (by omega)] | rw [if_neg (by omega), if_pos (by omega)] | rw [if_neg (by omega), if_neg (by omega), if_pos (by omega)] | rw [if_neg (by omega), if_neg (by omega), if_neg (by omega), if_pos (by omega)] | rw [if_neg (by omega), if_neg (by omega), if_neg (by omega), if_neg (by omega)] | rw [if_neg (by omega), if_neg (by omega), if_neg (by omega)] | rw [if_neg (by omega), if_neg (by omega)] | rw [if_neg (by omega)]).symm, Or.inr ⟨by have h0 := (show kFew S 8 = 1 from by unfold kFew; first | rw [if_pos (by omega)] | rw [if_neg (by omega), if_pos (by omega)] | rw [if_neg (by omega), if_neg (by omega), if_pos (by omega)] | rw [if_neg (by omega), if_neg (by omega), if_neg (by omega), if_pos (by omega)] | rw [if_neg (by omega), if_neg (by omega), if_neg (by omega), if_neg (by omega)] | rw [if_neg (by omega), if_neg (by omega), if_neg (by omega)] | rw [if_neg (by omega), if_neg (by omega)] | rw [if_neg (by omega)]); omega, rfl⟩⟩)
  · refine aw_aload_n C dX3_fewestByAll_14 rfl ?_
    refine aw_iconst C dX3_fewestByAll_15 ?_
    refine cV1i (ci := 3) (q0 := 0) C hN (c_X3_fails) (cwV 1 hts gX3_fewestByAll_X3_fails rfl rfl rfl (by decide +kernel) ⟨Nat.le_of_ble_eq_true rfl, Nat.le_of_ble_eq_true rfl⟩) rfl rfl rfl rfl dX3_fewestByAll_16 ⟨Nat.zero_le _, Nat.zero_le _⟩ (fun r16 u16 q16 => ?_)
    obtain ⟨rfl, rfl⟩ := q16
    refine aw_goto (tgt := 26) C dX3_fewestByAll_19 (by decide) ?_
    exact aw_iret C dX3_fewestByAll_26 (by first | exact ⟨P9, Eq.trans (show P9.1 0 = 0 by rw [hP9]; rfl) (show kFew S 8 = 0 from by unfold kFew; first | rw [if_pos (by omega)] | rw [if_neg (by omega), if_pos (by omega)] | rw [if_neg (by omega), if_neg (by omega), if_pos (by omega)] | rw [if_neg (by omega), if_neg (by omega), if_neg (by omega), if_pos (by omega)] | rw [if_neg (by omega), if_neg (by omega), if_neg (by omega), if_neg (by omega)] | rw [if_neg (by omega), if_neg (by omega), if_neg (by omega)] | rw [if_neg (by omega), if_neg (by omega)] | rw [if_neg (by omega)]).symm, Or.inl ⟨(show kFew S 8 = 0 from by unfold kFew; first | rw [if_pos (by omega)] | rw [if_neg (by omega), if_pos (by omega)] | rw [if_neg (by omega), if_neg (by omega), if_pos (by omega)] | rw [if_neg (by omega), if_neg (by omega), if_neg (by omega), if_pos (by omega)] | rw [if_neg (by omega), if_neg (by omega), if_neg (by omega), if_neg (by omega)] | rw [if_neg (by omega), if_neg (by omega), if_neg (by omega)] | rw [if_neg (by omega), if_neg (by omega)] | rw [if_neg (by omega)]), rfl, rfl⟩⟩ | exact ⟨us (us P 0 0) 0 1, Eq.trans (show (us (us P 0 0) 0 1).1 0 = 1 from rfl) (show kFew S 8 = 1 from by unfold kFew; first | rw [if_pos (by omega)] | rw [if_neg (by omega), if_pos (by omega)] | rw [if_neg (by omega), if_neg (by omega), if_pos (by omega)] | rw [if_neg (by omega), if_neg (by omega), if_neg (by omega), if_pos (by omega)] | rw [if_neg (by omega), if_neg (by omega), if_neg (by omega), if_neg (by omega)] | rw [if_neg (by omega), if_neg (by omega), if_neg (by omega)] | rw [if_neg (by omega), if_neg (by omega)] | rw [if_neg (by omega)]).symm, Or.inr ⟨by have h0 := (show kFew S 8 = 1 from by unfold kFew; first | rw [if_pos (by omega)] | rw [if_neg (by omega), if_pos (by omega)] | rw [if_neg (by omega), if_neg (by omega), if_pos (by omega)] | rw [if_neg (by omega), if_neg (by omega), if_neg (by omega), if_pos (by omega)] | rw [if_neg (by omega), if_neg (by omega), if_neg (by omega), if_neg (by omega)] | rw [if_neg (by omega), if_neg (by omega), if_neg (by omega)] | rw [if_neg (by omega), if_neg (by omega)] | rw [if_neg (by omega)]); omega, rfl⟩⟩)
