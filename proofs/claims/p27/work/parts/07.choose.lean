theorem us_ua (S : St) (k a : Nat) (v i x : Int) : (ua (us S k v) a i x).1 = (us S k v).1 := rfl
/-- what the class's parts ask for, out of Inv -/
theorem takeS_1 (S : St) (i : Int) : (takeS S i).1 = S.1 := rfl
theorem takeS_2 (S : St) (i : Int) {a : Nat} (h1 : a ≠ 0) (h2 : a < 10) : (takeS S i).2 a = S.2 a := by
  unfold takeS
  rw [ua_m _ _ _ _ h1, ur_n _ _ _ (by omega)]
theorem addS_1 (S : St) (i b : Int) : (addS S i b).1 = S.1 := rfl
theorem clN_1 (S : St) : ∀ n : Nat, (clN S n).1 = S.1
  | 0 => rfl
  | n + 1 => by show (clN S n).1 = S.1; exact clN_1 S n

set_option maxHeartbeats 4000000 in
set_option maxRecDepth 100000 in
theorem c_X2_newBody {l : Launch} {G : va_G × (Nat → ClassId)} {ad : Nat → Nat} {S P : St} (hB : 0 ≤ S.1 5 ∧ S.1 5 < 99) {z : Int} : Mi l G yX2_newBody wsX2_newBody ({ frames := 0, cells := 0, slots := 0, locals := 0 } : Room) [.ref (ad 0), .int (zI z)] (WX G.2 ad S P) (fun r u => r = S.1 5 ∧ u = WX G.2 ad (newS S z) P) := by
  refine Mi.of (own := RX2) (cc := cX2_newBody) (maxL := 3) (ret := (some .int)) (by decide) rfl rfl rfl ?_
  intro p e s m args below meth c A C hN
  have hts := C.2.2.2.2.1
  have iFX2 : ∀ w ∈ u_ws RX2 TX2 17, w ∈ wsX2_newBody := by decide +kernel
  have k_60 := hts (.fieldLink RX2 60 "PaintSequencer" "bodies" "I") (by decide +kernel)
  have k_16 := hts (.fieldLink RX2 16 "PaintSequencer" "colours" "[I") (by decide +kernel)
  refine aw_aload_n C dX2_newBody_0 rfl ?_
  refine aw_get (q0 := 0) (k := 11) C iFX2 k_60 rfl rfl rfl rfl dX2_newBody_1 ?_
  refine aw_istore_n C dX2_newBody_4 rfl rfl ?_
  refine aw_aload_n C dX2_newBody_5 rfl ?_
  refine aw_get (q0 := 0) (k := 1) C iFX2 k_16 rfl rfl rfl rfl dX2_newBody_6 ?_
  refine aw_iload_n C dX2_newBody_9 rfl ?_
  refine aw_iload_n C dX2_newBody_10 rfl ?_
  refine aw_stI (q0 := 12) C rfl (by omega) (by omega) rfl (wx_a12 _ _ _ _ _ _) dX2_newBody_11 ?_
  refine aw_aload_n C dX2_newBody_12 rfl ?_
  refine aw_dup C dX2_newBody_13 rfl ?_
  refine aw_get (q0 := 0) (k := 11) C iFX2 k_60 rfl rfl rfl rfl dX2_newBody_14 ?_
  refine aw_iconst C dX2_newBody_17 ?_
  refine aw_iadd C dX2_newBody_18 ?_
  refine aw_put (q0 := 0) (k := 11) C iFX2 tyX2_ok nmX2 k_60 rfl rfl rfl rfl rfl rfl (wx_f11 _ _ _ _ _) dX2_newBody_19 ?_
  refine aw_iload_n C dX2_newBody_22 rfl ?_
  exact aw_iret C dX2_newBody_23 ⟨rfl, rfl⟩
set_option maxHeartbeats 4000000 in
set_option maxRecDepth 100000 in
theorem c_X2_putInto {l : Launch} {G : va_G × (Nat → ClassId)} {ad : Nat → Nat} {S P : St} (hL : 1 ≤ S.1 0 ∧ S.1 0 ≤ 5) {i b : Int} (h0 : 0 ≤ i) (h5 : i < 5) (hs : 0 ≤ S.2 0 i ∧ S.2 0 i < 6) (hb : 0 ≤ b ∧ b < 99) : Mv l G yX2_putInto wsX2_putInto ({ frames := 1, cells := 0, slots := 0, locals := 21 } : Room) [.ref (ad 0), .int (zI i), .int (zI b)] (WX G.2 ad S P) (fun u => u = WX G.2 ad (putS S i b) P) := by
  refine Mv.of (own := RX2) (cc := cX2_putInto) (maxL := 3) (ret := none) (by decide) rfl rfl rfl ?_
  intro p e s m args below meth c A C hN
  have hts := C.2.2.2.2.1
  have iFX2 : ∀ w ∈ u_ws RX2 TX2 17, w ∈ wsX2_putInto := by decide +kernel
  have k_11 := hts (.fieldLink RX2 11 "PaintSequencer" "lanes" "[LPaintSequencer$Lane;") (by decide +kernel)
  have k_20 := hts (.fieldLink RX2 20 "PaintSequencer" "places" "[I") (by decide +kernel)
  have k_208 := hts (.fieldLink RX2 208 "PaintSequencer" "laneInTurn" "I") (by decide +kernel)
  refine aw_aload_n C dX2_putInto_0 rfl ?_
  refine aw_get (q0 := 0) (k := 0) C iFX2 k_11 rfl rfl rfl rfl dX2_putInto_1 ?_
  refine aw_iload_n C dX2_putInto_4 rfl ?_
  refine aw_aldL (q0 := 1) C rfl (by omega) (by omega) rfl rfl dX2_putInto_5 ?_
  refine aw_iload_n C dX2_putInto_6 rfl ?_
  refine cV1v (ci := 0)  C hN (c_X0_add h0 h5 hs) (cwV 1 hts gX2_putInto_X0_add rfl rfl rfl (by decide +kernel) ⟨Nat.le_of_ble_eq_true rfl, Nat.le_of_ble_eq_true rfl⟩) rfl rfl (wx_lane (by omega) (by omega)) rfl dX2_putInto_7 ⟨Nat.zero_le _, Nat.zero_le _⟩ (fun u7 q7 => ?_)
  obtain rfl := q7
  refine aw_aload_n C dX2_putInto_10 rfl ?_
  refine aw_get (q0 := 0) (k := 2) C iFX2 k_20 rfl rfl rfl rfl dX2_putInto_11 ?_
  refine aw_iload_n C dX2_putInto_14 rfl ?_
  refine aw_iload_n C dX2_putInto_15 rfl ?_
  refine aw_stI (q0 := 13) C rfl (by omega) (by omega) rfl (wx_a13 _ _ _ _ _ _) dX2_putInto_16 ?_
  refine aw_aload_n C dX2_putInto_17 rfl ?_
  refine aw_aload_n C dX2_putInto_18 rfl ?_
  refine aw_iload_n C dX2_putInto_19 rfl ?_
  refine cV1i (ci := 2) (q0 := 0) C hN (c_X2_laneBehind (by exact hL) h0 h5) (cwV 1 hts gX2_putInto_X2_laneBehind rfl rfl rfl (by decide +kernel) ⟨Nat.le_of_ble_eq_true rfl, Nat.le_of_ble_eq_true rfl⟩) rfl rfl rfl rfl dX2_putInto_20 ⟨Nat.zero_le _, Nat.zero_le _⟩ (fun r20 u20 q20 => ?_)
  obtain ⟨rfl, rfl⟩ := q20
  refine aw_put (q0 := 0) (k := 13) C iFX2 tyX2_ok nmX2 k_208 rfl rfl rfl rfl rfl rfl (wx_f13 _ _ _ _ _) dX2_putInto_23 ?_
  exact aw_vret C dX2_putInto_26 rfl
