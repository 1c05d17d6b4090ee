theorem us_ua (S : St) (k a : Nat) (v i x : Int) : (ua (us S k v) a i x).1 = (us S k v).1 := rfl
/-- what the class's parts ask for, out of Inv -/
theorem takeS_1 (S : St) (i : Int) : (takeS S i).1 = S.1 := rfl
theorem takeS_2 (S : St) (i : Int) {a : Nat} (h1 : a ≠ 0) (h2 : a < 10) : (takeS S i).2 a = S.2 a := by
  unfold takeS
  rw [ua_m _ _ _ _ h1, ur_n _ _ _ (by omega)]
theorem addS_1 (S : St) (i b : Int) : (addS S i b).1 = S.1 := rfl
theorem clN_1 (S : St) : ∀ n : Nat, (clN S n).1 = S.1
  | 0 => rfl
  | n + 1 => by show (clN S n).1 = S.1; exact clN_1 S n

set_option maxHeartbeats 4000000 in
set_option maxRecDepth 100000 in
theorem c_X2_newBody {l : Launch} {G : va_G × (Nat → ClassId)} {ad : Nat → Nat} {S P : St} (hB : 0 ≤ S.1 5 ∧ S.1 5 < 99) {z : Int} : Mi l G yX2_newBody wsX2_newBody ({ frames := 0, cells := 0, slots := 0, locals := 0 } : Room) [.ref (ad 0), .int (zI z)] (WX G.2 ad S P) (fun r u => r = S.1 5 ∧ u = WX G.2 ad (newS S z) P) := by
  refine Mi.of (own := RX2) (cc := cX2_newBody) (maxL := 3) (ret := (some .int)) (by decide) rfl rfl rfl ?_
  intro p e s m args below meth c A C hN
  have hts := C.2.2.2.2.1
  have iFX2 : ∀ w ∈ u_ws RX2 TX2 17, w ∈ wsX2_newBody := by decide +kernel
  have k_60 := hts (.fieldLink RX2 60 "PaintSequencer" "bodies" "I") (by decide +kernel)
  have k_16 := hts (.fieldLink RX2 16 "PaintSequencer" "colours" "[I") (by decide +kernel)
  refine aw_aload_n C dX2_newBody_0 rfl ?_
  refine aw_get (q0 := 0) (k := 11) C iFX2 k_60 rfl rfl rfl rfl dX2_newBody_1 ?_
  refine aw_istore_n C dX2_newBody_4 rfl rfl ?_
  refine aw_aload_n C dX2_newBody_5 rfl ?_
  refine aw_get (q0 := 0) (k := 1) C iFX2 k_16 rfl rfl rfl rfl dX2_newBody_6 ?_
  refine aw_iload_n C dX2_newBody_9 rfl ?_
  refine aw_iload_n C dX2_newBody_10 rfl ?_
  refine aw_stI (q0 := 12) C rfl (by omega) (by omega) rfl (wx_a12 _ _ _ _ _ _) dX2_newBody_11 ?_
  refine aw_aload_n C dX2_newBody_12 rfl ?_
  refine aw_dup C dX2_newBody_13 rfl ?_
  refine aw_get (q0 := 0) (k := 11) C iFX2 k_60 rfl rfl rfl rfl dX2_newBody_14 ?_
  refine aw_iconst C dX2_newBody_17 ?_
  refine aw_iadd C dX2_newBody_18 ?_
  refine aw_put (q0 := 0) (k := 11) C iFX2 tyX2_ok nmX2 k_60 rfl rfl rfl rfl rfl rfl (wx_f11 _ _ _ _ _) dX2_newBody_19 ?_
  refine aw_iload_n C dX2_newBody_22 rfl ?_
  exact aw_iret C dX2_newBody_23 ⟨rfl, rfl⟩
set_option maxHeartbeats 4000000 in
set_option maxRecDepth 100000 in
theorem c_X2_putInto {l : Launch} {G : va_G × (Nat → ClassId)} {ad : Nat → Nat} {S P : St} (hL : 1 ≤ S.1 0 ∧ S.1 0 ≤ 5) {i b : Int} (h0 : 0 ≤ i) (h5 : i < 5) (hs : 0 ≤ S.2 0 i ∧ S.2 0 i < 6) (hb : 0 ≤ b ∧ b < 99) : Mv l G yX2_putInto wsX2_putInto ({ frames := 1, cells := 0, slots := 0, locals := 21 } : Room) [.ref (ad 0), .int (zI i), .int (zI b)] (WX G.2 ad S P) (fun u => u = WX G.2 ad (putS S i b) P) := by
  refine Mv.of (own := RX2) (cc := cX2_putInto) (maxL := 3) (ret := none) (by decide) rfl rfl rfl ?_
  intro p e s m args below meth c A C hN
  have hts := C.2.2.2.2.1
  have iFX2 : ∀ w ∈ u_ws RX2 TX2 17, w ∈ wsX2_putInto := by decide +kernel
  have k_11 := hts (.fieldLink RX2 11 "PaintSequencer" "lanes" "[LPaintSequencer$Lane;") (by decide +kernel)
  have k_20 := hts (.fieldLink RX2 20 "PaintSequencer" "places" "[I") (by decide +kernel)
  have k_208 := hts (.fieldLink RX2 208 "PaintSequencer" "laneInTurn" "I") (by decide +kernel)
  refine aw_aload_n C dX2_putInto_0 rfl ?_
  refine aw_get (q0 := 0) (k := 0) C iFX2 k_11 rfl rfl rfl rfl dX2_putInto_1 ?_
  refine aw_iload_n C dX2_putInto_4 rfl ?_
  refine aw_aldL (q0 := 1) C rfl (by omega) (by omega) rfl rfl dX2_putInto_5 ?_
  refine aw_iload_n C dX2_putInto_6 rfl ?_
  refine cV1v (ci := 0)  C hN (c_X0_add h0 h5 hs) (cwV 1 hts gX2_putInto_X0_add rfl rfl rfl (by decide +kernel) ⟨Nat.le_of_ble_eq_true rfl, Nat.le_of_ble_eq_true rfl⟩) rfl rfl (wx_lane (by omega) (by omega)) rfl dX2_putInto_7 ⟨Nat.zero_le _, Nat.zero_le _⟩ (fun u7 q7 => ?_)
  obtain rfl := q7
  refine aw_aload_n C dX2_putInto_10 rfl ?_
  refine aw_get (q0 := 0) (k := 2) C iFX2 k_20 rfl rfl rfl rfl dX2_putInto_11 ?_
  refine aw_iload_n C dX2_putInto_14 rfl ?_
  refine aw_iload_n C dX2_putInto_15 rfl ?_
  refine aw_stI (q0 := 13) C rfl (by omega) (by omega) rfl (wx_a13 _ _ _ _ _ _) dX2_putInto_16 ?_
  refine aw_aload_n C dX2_putInto_17 rfl ?_
  refine aw_aload_n C dX2_putInto_18 rfl ?_
  refine aw_iload_n C dX2_putInto_19 rfl ?_
  refine cV1i (ci := 2) (q0 := 0) C hN (c_X2_laneBehind (by exact hL) h0 h5) (cwV 1 hts gX2_putInto_X2_laneBehind rfl rfl rfl (by decide +kernel) ⟨Nat.le_of_ble_eq_true rfl, Nat.le_of_ble_eq_true rfl⟩) rfl rfl rfl rfl dX2_putInto_20 ⟨Nat.zero_le _, Nat.zero_le _⟩ (fun r20 u20 q20 => ?_)
  obtain ⟨rfl, rfl⟩ := q20
  refine aw_put (q0 := 0) (k := 13) C iFX2 tyX2_ok nmX2 k_208 rfl rfl rfl rfl rfl rfl (wx_f13 _ _ _ _ _) dX2_putInto_23 ?_
  exact aw_vret C dX2_putInto_26 rfl
set_option maxHeartbeats 4000000 in
set_option maxRecDepth 100000 in
theorem c_X2_blockOf {l : Launch} {G : va_G × (Nat → ClassId)} {ad : Nat → Nat} {S P : St} (hI : Inv S) {i : Int} (h0 : 0 ≤ i) (h5 : i < 5) : Mi l G yX2_blockOf wsX2_blockOf ({ frames := 2, cells := 0, slots := 0, locals := 42 } : Room) [.ref (ad 0), .int (zI i)] (WX G.2 ad S P) (fun r u => r = blkS S i ∧ u = (WX G.2 ad S P)) := by
  refine Mi.of (own := RX2) (cc := cX2_blockOf) (maxL := 4) (ret := (some .int)) (by decide) rfl rfl rfl ?_
  intro p e s m args below meth c A C hN
  have hts := C.2.2.2.2.1
  have iFX2 : ∀ w ∈ u_ws RX2 TX2 17, w ∈ wsX2_blockOf := by decide +kernel
  have k_11 := hts (.fieldLink RX2 11 "PaintSequencer" "lanes" "[LPaintSequencer$Lane;") (by decide +kernel)
  obtain ⟨hn, hz, hr, hc, hp, ha, hq, ht⟩ := id hI
  have h9 := hz i h0 h5
  have lp : ∀ (n : Nat) (q : Int), 0 ≤ q → q ≤ S.2 0 i → S.2 0 i - q < n → blkS S i = blN (fun j => colS S (atS S i j)) (colS S (atS S i 0)) (S.2 0 i - q).toNat q → AW p l e (headSpec wsX2_blockOf ({ frames := 2, cells := 0, slots := 0, locals := 42 } : Room)).room s m args below meth c 4 G A s.heap 0 0 (MQ below (QPi G (fun r u => r = blkS S i ∧ u = (WX G.2 ad S P)) A) args s 0 0 A) (WX G.2 ad S P) [(0, .ref (ad 0)), (1, .int (zI i)), (2, .ref (ad (2 + i.toNat))), (3, .int (zI q))] 9 [] := by
    intro n
    induction n with
    | zero =>
      intro q h1 h2 h3 h4
      exfalso
      omega
    | succ n ih =>
      intro q h1 h2 h3 h4
      refine aw_iload_n C dX2_blockOf_9 rfl ?_
      refine aw_aload_n C dX2_blockOf_10 rfl ?_
      refine cV0i (ci := 0)  C hN (c_X0_count h0 h5) (cwV 0 hts gX2_blockOf_X0_count rfl rfl rfl (by decide +kernel) ⟨Nat.le_of_ble_eq_true rfl, Nat.le_of_ble_eq_true rfl⟩) rfl rfl (wx_lane (by omega) (by omega)) rfl dX2_blockOf_11 ⟨Nat.zero_le _, Nat.zero_le _⟩ (fun r11 u11 q11 => ?_)
      obtain ⟨rfl, rfl⟩ := q11
      refine aw_icmp_ge (tgt := 44) C dX2_blockOf_14 (by decide) (by omega) (by omega) (fun c14 => ?_) (fun c14 => ?_)
      · refine aw_iload_n C dX2_blockOf_44 rfl ?_
        exact aw_iret C dX2_blockOf_45 ⟨by
          rw [h4]
          first
          | (rw [show (S.2 0 i - q).toNat = (S.2 0 i - (q + 1)).toNat + 1 by omega]; exact (if_neg c35).symm)
          | (rw [show (S.2 0 i - q).toNat = 0 by omega]; rfl), rfl⟩
      · refine aw_aload_n C dX2_blockOf_17 rfl ?_
        refine aw_aload_n C dX2_blockOf_18 rfl ?_
        refine aw_iload_n C dX2_blockOf_19 rfl ?_
        refine cV1i (ci := 0)  C hN (c_X0_at h0 h5 (by omega) (by omega)) (cwV 1 hts gX2_blockOf_X0_at rfl rfl rfl (by decide +kernel) ⟨Nat.le_of_ble_eq_true rfl, Nat.le_of_ble_eq_true rfl⟩) rfl rfl (wx_lane (by omega) (by omega)) rfl dX2_blockOf_20 ⟨Nat.zero_le _, Nat.zero_le _⟩ (fun r20 u20 q20 => ?_)
        obtain ⟨rfl, rfl⟩ := q20
        have h8 := atS_b hI (i := i) (z := q) h0 h5
        refine cV1i (ci := 2) (q0 := 0) C hN (c_X2_colourOf (by omega) (by omega)) (cwV 1 hts gX2_blockOf_X2_colourOf rfl rfl rfl (by decide +kernel) ⟨Nat.le_of_ble_eq_true rfl, Nat.le_of_ble_eq_true rfl⟩) rfl rfl rfl rfl dX2_blockOf_23 ⟨Nat.zero_le _, Nat.zero_le _⟩ (fun r23 u23 q23 => ?_)
        obtain ⟨rfl, rfl⟩ := q23
        refine aw_aload_n C dX2_blockOf_26 rfl ?_
        refine aw_aload_n C dX2_blockOf_27 rfl ?_
        refine aw_iconst C dX2_blockOf_28 ?_
        refine cV1i (ci := 0)  C hN (c_X0_at h0 h5 (by omega) (by omega)) (cwV 1 hts gX2_blockOf_X0_at rfl rfl rfl (by decide +kernel) ⟨Nat.le_of_ble_eq_true rfl, Nat.le_of_ble_eq_true rfl⟩) rfl rfl (wx_lane (by omega) (by omega)) rfl dX2_blockOf_29 ⟨Nat.zero_le _, Nat.zero_le _⟩ (fun r29 u29 q29 => ?_)
        obtain ⟨rfl, rfl⟩ := q29
        have h7 := atS_b hI (i := i) (z := 0) h0 h5
        refine cV1i (ci := 2) (q0 := 0) C hN (c_X2_colourOf (by omega) (by omega)) (cwV 1 hts gX2_blockOf_X2_colourOf rfl rfl rfl (by decide +kernel) ⟨Nat.le_of_ble_eq_true rfl, Nat.le_of_ble_eq_true rfl⟩) rfl rfl rfl rfl dX2_blockOf_32 ⟨Nat.zero_le _, Nat.zero_le _⟩ (fun r32 u32 q32 => ?_)
        obtain ⟨rfl, rfl⟩ := q32
        have h6 := colS_b hI (atS S i q)
        have h6a := colS_b hI (atS S i 0)
        refine aw_icmp_ne (tgt := 44) C dX2_blockOf_35 (by decide) (by omega) (by omega) (fun c35 => ?_) (fun c35 => ?_)
        · refine aw_iload_n C dX2_blockOf_44 rfl ?_
          exact aw_iret C dX2_blockOf_45 ⟨by
            rw [h4]
            first
            | (rw [show (S.2 0 i - q).toNat = (S.2 0 i - (q + 1)).toNat + 1 by omega]; exact (if_neg c35).symm)
            | (rw [show (S.2 0 i - q).toNat = 0 by omega]; rfl), rfl⟩
        · refine aw_iinc C dX2_blockOf_38 rfl rfl rfl ?_
          refine aw_goto (tgt := 9) C dX2_blockOf_41 (by decide) ?_
          refine ih (q + 1) (by omega) (by omega) (by omega) ?_
          rw [h4, show (S.2 0 i - q).toNat = (S.2 0 i - (q + 1)).toNat + 1 by omega]
          exact if_pos c35
  refine aw_aload_n C dX2_blockOf_0 rfl ?_
  refine aw_get (q0 := 0) (k := 0) C iFX2 k_11 rfl rfl rfl rfl dX2_blockOf_1 ?_
  refine aw_iload_n C dX2_blockOf_4 rfl ?_
  refine aw_aldL (q0 := 1) C rfl (by omega) (by omega) rfl rfl dX2_blockOf_5 ?_
  refine aw_astore_n C dX2_blockOf_6 rfl rfl ?_
  refine aw_iconst C dX2_blockOf_7 ?_
  refine aw_istore_n C dX2_blockOf_8 rfl rfl ?_
  exact lp 7 0 (by omega) (by omega) (by omega) (by rw [Int.sub_zero]; rfl)
set_option maxHeartbeats 4000000 in
set_option maxRecDepth 100000 in
theorem c_X2_longestBlock {l : Launch} {G : va_G × (Nat → ClassId)} {ad : Nat → Nat} {S P : St} (hI : Inv S) : Mi l G yX2_longestBlock wsX2_longestBlock ({ frames := 3, cells := 0, slots := 0, locals := 65 } : Room) [.ref (ad 0)] (WX G.2 ad S P) (fun r u => r = mxN S (S.1 0).toNat ∧ u = (WX G.2 ad S P)) := by
  refine Mi.of (own := RX2) (cc := cX2_longestBlock) (maxL := 4) (ret := (some .int)) (by decide) rfl rfl rfl ?_
  intro p e s m args below meth c A C hN
  have hts := C.2.2.2.2.1
  have iFX2 : ∀ w ∈ u_ws RX2 TX2 17, w ∈ wsX2_longestBlock := by decide +kernel
  have k_36 := hts (.fieldLink RX2 36 "PaintSequencer" "laneCount" "I") (by decide +kernel)
  obtain ⟨hn, hz, hr, hc, hp, ha, hq, ht⟩ := id hI
  have lp : ∀ (n : Nat) (k : Nat), (k : Int) ≤ S.1 0 → S.1 0 - k < n → AW p l e (headSpec wsX2_longestBlock ({ frames := 3, cells := 0, slots := 0, locals := 65 } : Room)).room s m args below meth c 4 G A s.heap 0 0 (MQ below (QPi G (fun r u => r = mxN S (S.1 0).toNat ∧ u = (WX G.2 ad S P)) A) args s 0 0 A) (WX G.2 ad S P) [(0, .ref (ad 0)), (1, .int (zI (mxN S k))), (2, .int (zI k))] 4 [] := by
    intro n
    induction n with
    | zero =>
      intro k h1 h2
      exfalso
      omega
    | succ n ih =>
      intro k h1 h2
      refine aw_iload_n C dX2_longestBlock_4 rfl ?_
      refine aw_aload_n C dX2_longestBlock_5 rfl ?_
      refine aw_get (q0 := 0) (k := 6) C iFX2 k_36 rfl rfl rfl rfl dX2_longestBlock_6 ?_
      refine aw_icmp_ge (tgt := 31) C dX2_longestBlock_9 (by decide) (by omega) (by omega) (fun c9 => ?_) (fun c9 => ?_)
      · refine aw_iload_n C dX2_longestBlock_31 rfl ?_
        exact aw_iret C dX2_longestBlock_32 ⟨by rw [show (S.1 0).toNat = k by omega], rfl⟩
      · refine aw_aload_n C dX2_longestBlock_12 rfl ?_
        refine aw_iload_n C dX2_longestBlock_13 rfl ?_
        refine cV1i (ci := 2) (q0 := 0) C hN (c_X2_blockOf hI (by omega) (by omega)) (cwV 1 hts gX2_longestBlock_X2_blockOf rfl rfl rfl (by decide +kernel) ⟨Nat.le_of_ble_eq_true rfl, Nat.le_of_ble_eq_true rfl⟩) rfl rfl rfl rfl dX2_longestBlock_14 ⟨Nat.zero_le _, Nat.zero_le _⟩ (fun r14 u14 q14 => ?_)
        obtain ⟨rfl, rfl⟩ := q14
        refine aw_istore_n C dX2_longestBlock_17 rfl rfl ?_
        refine aw_iload_n C dX2_longestBlock_18 rfl ?_
        refine aw_iload_n C dX2_longestBlock_19 rfl ?_
        have h9 := blkS_b hI (i := k) (by omega) (by omega)
        have h7 := mxN_b hI k (by omega)
        refine aw_icmp_le (tgt := 25) C dX2_longestBlock_20 (by decide) (by omega) (by omega) (fun c20 => ?_) (fun c20 => ?_)
        · refine aw_iinc C dX2_longestBlock_25 rfl rfl rfl ?_
          refine aw_goto (tgt := 4) C dX2_longestBlock_28 (by decide) ?_
          have h8 := ih (k + 1) (by omega) (by omega)
          first
          | (have e8 : mxN S (k + 1) = blkS S k := if_pos c20
             rw [e8] at h8
             refine aw_less ?_ h8
             exact fun q hq => List.mem_of_mem_take (i := 3) hq)
          | (have e8 : mxN S (k + 1) = mxN S k := if_neg (Int.not_lt.mpr c20)
             rw [e8] at h8
             refine aw_less ?_ h8
             exact fun q hq => List.mem_of_mem_take (i := 3) hq)
        · refine aw_iload_n C dX2_longestBlock_23 rfl ?_
          refine aw_istore_n C dX2_longestBlock_24 rfl rfl ?_
          refine aw_iinc C dX2_longestBlock_25 rfl rfl rfl ?_
          refine aw_goto (tgt := 4) C dX2_longestBlock_28 (by decide) ?_
          have h8 := ih (k + 1) (by omega) (by omega)
          first
          | (have e8 : mxN S (k + 1) = blkS S k := if_pos c20
             rw [e8] at h8
             refine aw_less ?_ h8
             exact fun q hq => List.mem_of_mem_take (i := 3) hq)
          | (have e8 : mxN S (k + 1) = mxN S k := if_neg (Int.not_lt.mpr c20)
             rw [e8] at h8
             refine aw_less ?_ h8
             exact fun q hq => List.mem_of_mem_take (i := 3) hq)
  refine aw_iconst C dX2_longestBlock_0 ?_
  refine aw_istore_n C dX2_longestBlock_1 rfl rfl ?_
  refine aw_iconst C dX2_longestBlock_2 ?_
  refine aw_istore_n C dX2_longestBlock_3 rfl rfl ?_
  exact lp 6 0 (by omega) (by omega)
set_option maxHeartbeats 4000000 in
set_option maxRecDepth 100000 in
theorem c_X2_laneOfLowestHead {l : Launch} {G : va_G × (Nat → ClassId)} {ad : Nat → Nat} {S P : St} (hI : Inv S) {cc9 sh : Int} (hcc : -2 ≤ cc9 ∧ cc9 ≤ 4) (hsh : 0 ≤ sh ∧ sh ≤ 6) : Mi l G yX2_laneOfLowestHead wsX2_laneOfLowestHead ({ frames := 3, cells := 0, slots := 0, locals := 65 } : Room) [.ref (ad 0), .int (zI cc9), .int (zI sh)] (WX G.2 ad S P) (fun r u => r = lhN (fitS S cc9 sh) S (S.1 0).toNat ∧ u = (WX G.2 ad S P)) := by
  refine Mi.of (own := RX2) (cc := cX2_laneOfLowestHead) (maxL := 8) (ret := (some .int)) (by decide) rfl rfl rfl ?_
  intro p e s m args below meth c A C hN
  have hts := C.2.2.2.2.1
  have iFX2 : ∀ w ∈ u_ws RX2 TX2 17, w ∈ wsX2_laneOfLowestHead := by decide +kernel
  have k_36 := hts (.fieldLink RX2 36 "PaintSequencer" "laneCount" "I") (by decide +kernel)
  have k_11 := hts (.fieldLink RX2 11 "PaintSequencer" "lanes" "[LPaintSequencer$Lane;") (by decide +kernel)
  obtain ⟨hn, hz, hr, hc, hp, ha, hq, ht⟩ := id hI
  have lp : ∀ (n : Nat) (k : Nat), (k : Int) ≤ S.1 0 → S.1 0 - k < n → AW p l e (headSpec wsX2_laneOfLowestHead ({ frames := 3, cells := 0, slots := 0, locals := 65 } : Room)).room s m args below meth c 8 G A s.heap 0 0 (MQ below (QPi G (fun r u => r = lhN (fitS S cc9 sh) S (S.1 0).toNat ∧ u = (WX G.2 ad S P)) A) args s 0 0 A) (WX G.2 ad S P) [(0, .ref (ad 0)), (1, .int (zI cc9)), (2, .int (zI sh)), (3, .int (zI (lhN (fitS S cc9 sh) S k))), (4, .int (zI (if (lhN (fitS S cc9 sh) S k) = -1 then 99 else atS S (lhN (fitS S cc9 sh) S k) 0))), (5, .int (zI k))] 9 [] := by
    intro n
    induction n with
    | zero =>
      intro k h1 h2
      exfalso
      omega
    | succ n ih =>
      intro k h1 h2
      have h10 := fun h => hz k (Int.natCast_nonneg k) h
      refine aw_iload C dX2_laneOfLowestHead_9 rfl ?_
      refine aw_aload_n C dX2_laneOfLowestHead_11 rfl ?_
      refine aw_get (q0 := 0) (k := 6) C iFX2 k_36 rfl rfl rfl rfl dX2_laneOfLowestHead_12 ?_
      refine aw_icmp_ge (tgt := 95) C dX2_laneOfLowestHead_15 (by decide) (by omega) (by omega) (fun c15 => ?_) (fun c15 => ?_)
      · refine aw_iload_n C dX2_laneOfLowestHead_95 rfl ?_
        exact aw_iret C dX2_laneOfLowestHead_96 ⟨by rw [show (S.1 0).toNat = k by omega], rfl⟩
      · refine aw_aload_n C dX2_laneOfLowestHead_18 rfl ?_
        refine aw_get (q0 := 0) (k := 0) C iFX2 k_11 rfl rfl rfl rfl dX2_laneOfLowestHead_19 ?_
        refine aw_iload C dX2_laneOfLowestHead_22 rfl ?_
        refine aw_aldL (q0 := 1) C rfl (by omega) (by omega) rfl rfl dX2_laneOfLowestHead_24 ?_
        refine aw_iconst C dX2_laneOfLowestHead_25 ?_
        refine cV1i (ci := 0)  C hN (c_X0_at (by omega) (by omega) (by omega) (by omega)) (cwV 1 hts gX2_laneOfLowestHead_X0_at rfl rfl rfl (by decide +kernel) ⟨Nat.le_of_ble_eq_true rfl, Nat.le_of_ble_eq_true rfl⟩) rfl rfl (wx_lane (by omega) (by omega)) rfl dX2_laneOfLowestHead_26 ⟨Nat.zero_le _, Nat.zero_le _⟩ (fun r26 u26 q26 => ?_)
        obtain ⟨rfl, rfl⟩ := q26
        have h9 := atS_b hI (i := k) (z := 0) (by omega) (by omega)
        have h9b := blkS_b hI (i := k) (by omega) (by omega)
        have h9c := colS_b hI (atS S k 0)
        have h9d : 0 ≤ (if (lhN (fitS S cc9 sh) S k) = -1 then 99 else atS S (lhN (fitS S cc9 sh) S k) 0) ∧ (if (lhN (fitS S cc9 sh) S k) = -1 then 99 else atS S (lhN (fitS S cc9 sh) S k) 0) ≤ 99 ∨ (if (lhN (fitS S cc9 sh) S k) = -1 then 99 else atS S (lhN (fitS S cc9 sh) S k) 0) = -1 := by
          have h6 := lhN_b (fitS S cc9 sh) S k
          split
          · omega
          · have h8 := atS_b hI (i := (lhN (fitS S cc9 sh) S k)) (z := 0) (by omega) (by omega)
            omega
        refine aw_istore C dX2_laneOfLowestHead_29 rfl rfl ?_
        refine aw_iload C dX2_laneOfLowestHead_31 rfl ?_
        refine aw_iconst C dX2_laneOfLowestHead_33 ?_
        refine aw_icmp_eq (tgt := 57) C dX2_laneOfLowestHead_34 (by decide) (by omega) (by omega) (fun c34 => ?_) (fun c34 => ?_)
        · refine aw_iconst C dX2_laneOfLowestHead_57 ?_
          refine aw_istore C dX2_laneOfLowestHead_58 rfl rfl ?_
          refine aw_iload C dX2_laneOfLowestHead_60 rfl ?_
          refine aw_if_eq (tgt := 89) C dX2_laneOfLowestHead_62 (by decide) (by omega) (fun c62 => ?_) (fun c62 => ?_)
          · refine aw_iinc C dX2_laneOfLowestHead_89 rfl rfl rfl ?_
            refine aw_goto (tgt := 9) C dX2_laneOfLowestHead_92 (by decide) ?_
            have h8 := ih (k + 1) (by omega) (by omega)
            by_cases hf : fitS S cc9 sh k = true ∧ (lhN (fitS S cc9 sh) S k = -1 ∨ atS S k 0 < atS S (lhN (fitS S cc9 sh) S k) 0)
            · have e8 : lhN (fitS S cc9 sh) S (k + 1) = k := if_pos hf
              have hd := of_decide_eq_true hf.1
              first
              | (rw [e8, if_neg (show ¬ (k : Int) = -1 by omega)] at h8
                 refine aw_less ?_ h8
                 exact fun q hq => List.mem_of_mem_take (i := 6) hq)
              | (exfalso
                 obtain ⟨hd1, hd2, hd3⟩ := hd
                 rcases hf.2 with hl | hl
                 · rw [if_pos hl] at c69
                   omega
                 · by_cases hl2 : lhN (fitS S cc9 sh) S k = -1
                   · rw [if_pos hl2] at c69
                     omega
                   · rw [if_neg hl2] at c69
                     omega)
              | (exfalso
                 obtain ⟨hd1, hd2, hd3⟩ := hd
                 omega)
            · have e8 : lhN (fitS S cc9 sh) S (k + 1) = lhN (fitS S cc9 sh) S k := if_neg hf
              first
              | (rw [e8] at h8
                 refine aw_less ?_ h8
                 exact fun q hq => List.mem_of_mem_take (i := 6) hq)
              | (exfalso
                 refine hf ⟨decide_eq_true ⟨by omega, by omega, by omega⟩, ?_⟩
                 by_cases hl2 : lhN (fitS S cc9 sh) S k = -1
                 · exact Or.inl hl2
                 · rw [if_neg hl2] at c69
                   exact Or.inr c69)
          · refine aw_iload C dX2_laneOfLowestHead_65 rfl ?_
            refine aw_iload C dX2_laneOfLowestHead_67 rfl ?_
            refine aw_icmp_ge (tgt := 89) C dX2_laneOfLowestHead_69 (by decide) (by omega) (by omega) (fun c69 => ?_) (fun c69 => ?_)
            · refine aw_iinc C dX2_laneOfLowestHead_89 rfl rfl rfl ?_
              refine aw_goto (tgt := 9) C dX2_laneOfLowestHead_92 (by decide) ?_
              have h8 := ih (k + 1) (by omega) (by omega)
              by_cases hf : fitS S cc9 sh k = true ∧ (lhN (fitS S cc9 sh) S k = -1 ∨ atS S k 0 < atS S (lhN (fitS S cc9 sh) S k) 0)
              · have e8 : lhN (fitS S cc9 sh) S (k + 1) = k := if_pos hf
                have hd := of_decide_eq_true hf.1
                first
                | (rw [e8, if_neg (show ¬ (k : Int) = -1 by omega)] at h8
                   refine aw_less ?_ h8
                   exact fun q hq => List.mem_of_mem_take (i := 6) hq)
                | (exfalso
                   obtain ⟨hd1, hd2, hd3⟩ := hd
                   rcases hf.2 with hl | hl
                   · rw [if_pos hl] at c69
                     omega
                   · by_cases hl2 : lhN (fitS S cc9 sh) S k = -1
                     · rw [if_pos hl2] at c69
                       omega
                     · rw [if_neg hl2] at c69
                       omega)
                | (exfalso
                   obtain ⟨hd1, hd2, hd3⟩ := hd
                   omega)
              · have e8 : lhN (fitS S cc9 sh) S (k + 1) = lhN (fitS S cc9 sh) S k := if_neg hf
                first
                | (rw [e8] at h8
                   refine aw_less ?_ h8
                   exact fun q hq => List.mem_of_mem_take (i := 6) hq)
                | (exfalso
                   refine hf ⟨decide_eq_true ⟨by omega, by omega, by omega⟩, ?_⟩
                   by_cases hl2 : lhN (fitS S cc9 sh) S k = -1
                   · exact Or.inl hl2
                   · rw [if_neg hl2] at c69
                     exact Or.inr c69)
            · refine aw_aload_n C dX2_laneOfLowestHead_72 rfl ?_
              refine aw_iload C dX2_laneOfLowestHead_73 rfl ?_
              refine cV1i (ci := 2) (q0 := 0) C hN (c_X2_blockOf hI (by omega) (by omega)) (cwV 1 hts gX2_laneOfLowestHead_X2_blockOf rfl rfl rfl (by decide +kernel) ⟨Nat.le_of_ble_eq_true rfl, Nat.le_of_ble_eq_true rfl⟩) rfl rfl rfl rfl dX2_laneOfLowestHead_75 ⟨Nat.zero_le _, Nat.zero_le _⟩ (fun r75 u75 q75 => ?_)
              obtain ⟨rfl, rfl⟩ := q75
              refine aw_iload_n C dX2_laneOfLowestHead_78 rfl ?_
              refine aw_icmp_lt (tgt := 89) C dX2_laneOfLowestHead_79 (by decide) (by omega) (by omega) (fun c79 => ?_) (fun c79 => ?_)
              · refine aw_iinc C dX2_laneOfLowestHead_89 rfl rfl rfl ?_
                refine aw_goto (tgt := 9) C dX2_laneOfLowestHead_92 (by decide) ?_
                have h8 := ih (k + 1) (by omega) (by omega)
                by_cases hf : fitS S cc9 sh k = true ∧ (lhN (fitS S cc9 sh) S k = -1 ∨ atS S k 0 < atS S (lhN (fitS S cc9 sh) S k) 0)
                · have e8 : lhN (fitS S cc9 sh) S (k + 1) = k := if_pos hf
                  have hd := of_decide_eq_true hf.1
                  first
                  | (rw [e8, if_neg (show ¬ (k : Int) = -1 by omega)] at h8
                     refine aw_less ?_ h8
                     exact fun q hq => List.mem_of_mem_take (i := 6) hq)
                  | (exfalso
                     obtain ⟨hd1, hd2, hd3⟩ := hd
                     rcases hf.2 with hl | hl
                     · rw [if_pos hl] at c69
                       omega
                     · by_cases hl2 : lhN (fitS S cc9 sh) S k = -1
                       · rw [if_pos hl2] at c69
                         omega
                       · rw [if_neg hl2] at c69
                         omega)
                  | (exfalso
                     obtain ⟨hd1, hd2, hd3⟩ := hd
                     omega)
                · have e8 : lhN (fitS S cc9 sh) S (k + 1) = lhN (fitS S cc9 sh) S k := if_neg hf
                  first
                  | (rw [e8] at h8
                     refine aw_less ?_ h8
                     exact fun q hq => List.mem_of_mem_take (i := 6) hq)
                  | (exfalso
                     refine hf ⟨decide_eq_true ⟨by omega, by omega, by omega⟩, ?_⟩
                     by_cases hl2 : lhN (fitS S cc9 sh) S k = -1
                     · exact Or.inl hl2
                     · rw [if_neg hl2] at c69
                       exact Or.inr c69)
              · refine aw_iload C dX2_laneOfLowestHead_82 rfl ?_
                refine aw_istore_n C dX2_laneOfLowestHead_84 rfl rfl ?_
                refine aw_iload C dX2_laneOfLowestHead_85 rfl ?_
                refine aw_istore C dX2_laneOfLowestHead_87 rfl rfl ?_
                refine aw_iinc C dX2_laneOfLowestHead_89 rfl rfl rfl ?_
                refine aw_goto (tgt := 9) C dX2_laneOfLowestHead_92 (by decide) ?_
                have h8 := ih (k + 1) (by omega) (by omega)
                by_cases hf : fitS S cc9 sh k = true ∧ (lhN (fitS S cc9 sh) S k = -1 ∨ atS S k 0 < atS S (lhN (fitS S cc9 sh) S k) 0)
                · have e8 : lhN (fitS S cc9 sh) S (k + 1) = k := if_pos hf
                  have hd := of_decide_eq_true hf.1
                  first
                  | (rw [e8, if_neg (show ¬ (k : Int) = -1 by omega)] at h8
                     refine aw_less ?_ h8
                     exact fun q hq => List.mem_of_mem_take (i := 6) hq)
                  | (exfalso
                     obtain ⟨hd1, hd2, hd3⟩ := hd
                     rcases hf.2 with hl | hl
                     · rw [if_pos hl] at c69
                       omega
                     · by_cases hl2 : lhN (fitS S cc9 sh) S k = -1
                       · rw [if_pos hl2] at c69
                         omega
                       · rw [if_neg hl2] at c69
                         omega)
                  | (exfalso
                     obtain ⟨hd1, hd2, hd3⟩ := hd
                     omega)
                · have e8 : lhN (fitS S cc9 sh) S (k + 1) = lhN (fitS S cc9 sh) S k := if_neg hf
                  first
                  | (rw [e8] at h8
                     refine aw_less ?_ h8
                     exact fun q hq => List.mem_of_mem_take (i := 6) hq)
                  | (exfalso
                     refine hf ⟨decide_eq_true ⟨by omega, by omega, by omega⟩, ?_⟩
                     by_cases hl2 : lhN (fitS S cc9 sh) S k = -1
                     · exact Or.inl hl2
                     · rw [if_neg hl2] at c69
                       exact Or.inr c69)
        · refine aw_iload_n C dX2_laneOfLowestHead_37 rfl ?_
          refine aw_bipush C dX2_laneOfLowestHead_38 rfl ?_
          refine aw_icmp_eq (tgt := 53) C dX2_laneOfLowestHead_40 (by decide) (by omega) (by omega) (fun c40 => ?_) (fun c40 => ?_)
          · refine aw_iconst C dX2_laneOfLowestHead_53 ?_
            refine aw_goto (tgt := 58) C dX2_laneOfLowestHead_54 (by decide) ?_
            refine aw_istore C dX2_laneOfLowestHead_58 rfl rfl ?_
            refine aw_iload C dX2_laneOfLowestHead_60 rfl ?_
            refine aw_if_eq (tgt := 89) C dX2_laneOfLowestHead_62 (by decide) (by omega) (fun c62 => ?_) (fun c62 => ?_)
            · refine aw_iinc C dX2_laneOfLowestHead_89 rfl rfl rfl ?_
              refine aw_goto (tgt := 9) C dX2_laneOfLowestHead_92 (by decide) ?_
              have h8 := ih (k + 1) (by omega) (by omega)
              by_cases hf : fitS S cc9 sh k = true ∧ (lhN (fitS S cc9 sh) S k = -1 ∨ atS S k 0 < atS S (lhN (fitS S cc9 sh) S k) 0)
              · have e8 : lhN (fitS S cc9 sh) S (k + 1) = k := if_pos hf
                have hd := of_decide_eq_true hf.1
                first
                | (rw [e8, if_neg (show ¬ (k : Int) = -1 by omega)] at h8
                   refine aw_less ?_ h8
                   exact fun q hq => List.mem_of_mem_take (i := 6) hq)
                | (exfalso
                   obtain ⟨hd1, hd2, hd3⟩ := hd
                   rcases hf.2 with hl | hl
                   · rw [if_pos hl] at c69
                     omega
                   · by_cases hl2 : lhN (fitS S cc9 sh) S k = -1
                     · rw [if_pos hl2] at c69
                       omega
                     · rw [if_neg hl2] at c69
                       omega)
                | (exfalso
                   obtain ⟨hd1, hd2, hd3⟩ := hd
                   omega)
              · have e8 : lhN (fitS S cc9 sh) S (k + 1) = lhN (fitS S cc9 sh) S k := if_neg hf
                first
                | (rw [e8] at h8
                   refine aw_less ?_ h8
                   exact fun q hq => List.mem_of_mem_take (i := 6) hq)
                | (exfalso
                   refine hf ⟨decide_eq_true ⟨by omega, by omega, by omega⟩, ?_⟩
                   by_cases hl2 : lhN (fitS S cc9 sh) S k = -1
                   · exact Or.inl hl2
                   · rw [if_neg hl2] at c69
                     exact Or.inr c69)
            · refine aw_iload C dX2_laneOfLowestHead_65 rfl ?_
              refine aw_iload C dX2_laneOfLowestHead_67 rfl ?_
              refine aw_icmp_ge (tgt := 89) C dX2_laneOfLowestHead_69 (by decide) (by omega) (by omega) (fun c69 => ?_) (fun c69 => ?_)
              · refine aw_iinc C dX2_laneOfLowestHead_89 rfl rfl rfl ?_
                refine aw_goto (tgt := 9) C dX2_laneOfLowestHead_92 (by decide) ?_
                have h8 := ih (k + 1) (by omega) (by omega)
                by_cases hf : fitS S cc9 sh k = true ∧ (lhN (fitS S cc9 sh) S k = -1 ∨ atS S k 0 < atS S (lhN (fitS S cc9 sh) S k) 0)
                · have e8 : lhN (fitS S cc9 sh) S (k + 1) = k := if_pos hf
                  have hd := of_decide_eq_true hf.1
                  first
                  | (rw [e8, if_neg (show ¬ (k : Int) = -1 by omega)] at h8
                     refine aw_less ?_ h8
                     exact fun q hq => List.mem_of_mem_take (i := 6) hq)
                  | (exfalso
                     obtain ⟨hd1, hd2, hd3⟩ := hd
                     rcases hf.2 with hl | hl
                     · rw [if_pos hl] at c69
                       omega
                     · by_cases hl2 : lhN (fitS S cc9 sh) S k = -1
                       · rw [if_pos hl2] at c69
                         omega
                       · rw [if_neg hl2] at c69
                         omega)
                  | (exfalso
                     obtain ⟨hd1, hd2, hd3⟩ := hd
                     omega)
                · have e8 : lhN (fitS S cc9 sh) S (k + 1) = lhN (fitS S cc9 sh) S k := if_neg hf
                  first
                  | (rw [e8] at h8
                     refine aw_less ?_ h8
                     exact fun q hq => List.mem_of_mem_take (i := 6) hq)
                  | (exfalso
                     refine hf ⟨decide_eq_true ⟨by omega, by omega, by omega⟩, ?_⟩
                     by_cases hl2 : lhN (fitS S cc9 sh) S k = -1
                     · exact Or.inl hl2
                     · rw [if_neg hl2] at c69
                       exact Or.inr c69)
              · refine aw_aload_n C dX2_laneOfLowestHead_72 rfl ?_
                refine aw_iload C dX2_laneOfLowestHead_73 rfl ?_
                refine cV1i (ci := 2) (q0 := 0) C hN (c_X2_blockOf hI (by omega) (by omega)) (cwV 1 hts gX2_laneOfLowestHead_X2_blockOf rfl rfl rfl (by decide +kernel) ⟨Nat.le_of_ble_eq_true rfl, Nat.le_of_ble_eq_true rfl⟩) rfl rfl rfl rfl dX2_laneOfLowestHead_75 ⟨Nat.zero_le _, Nat.zero_le _⟩ (fun r75 u75 q75 => ?_)
                obtain ⟨rfl, rfl⟩ := q75
                refine aw_iload_n C dX2_laneOfLowestHead_78 rfl ?_
                refine aw_icmp_lt (tgt := 89) C dX2_laneOfLowestHead_79 (by decide) (by omega) (by omega) (fun c79 => ?_) (fun c79 => ?_)
                · refine aw_iinc C dX2_laneOfLowestHead_89 rfl rfl rfl ?_
                  refine aw_goto (tgt := 9) C dX2_laneOfLowestHead_92 (by decide) ?_
                  have h8 := ih (k + 1) (by omega) (by omega)
                  by_cases hf : fitS S cc9 sh k = true ∧ (lhN (fitS S cc9 sh) S k = -1 ∨ atS S k 0 < atS S (lhN (fitS S cc9 sh) S k) 0)
                  · have e8 : lhN (fitS S cc9 sh) S (k + 1) = k := if_pos hf
                    have hd := of_decide_eq_true hf.1
                    first
                    | (rw [e8, if_neg (show ¬ (k : Int) = -1 by omega)] at h8
                       refine aw_less ?_ h8
                       exact fun q hq => List.mem_of_mem_take (i := 6) hq)
                    | (exfalso
                       obtain ⟨hd1, hd2, hd3⟩ := hd
                       rcases hf.2 with hl | hl
                       · rw [if_pos hl] at c69
                         omega
                       · by_cases hl2 : lhN (fitS S cc9 sh) S k = -1
                         · rw [if_pos hl2] at c69
                           omega
                         · rw [if_neg hl2] at c69
                           omega)
                    | (exfalso
                       obtain ⟨hd1, hd2, hd3⟩ := hd
                       omega)
                  · have e8 : lhN (fitS S cc9 sh) S (k + 1) = lhN (fitS S cc9 sh) S k := if_neg hf
                    first
                    | (rw [e8] at h8
                       refine aw_less ?_ h8
                       exact fun q hq => List.mem_of_mem_take (i := 6) hq)
                    | (exfalso
                       refine hf ⟨decide_eq_true ⟨by omega, by omega, by omega⟩, ?_⟩
                       by_cases hl2 : lhN (fitS S cc9 sh) S k = -1
                       · exact Or.inl hl2
                       · rw [if_neg hl2] at c69
                         exact Or.inr c69)
                · refine aw_iload C dX2_laneOfLowestHead_82 rfl ?_
                  refine aw_istore_n C dX2_laneOfLowestHead_84 rfl rfl ?_
                  refine aw_iload C dX2_laneOfLowestHead_85 rfl ?_
                  refine aw_istore C dX2_laneOfLowestHead_87 rfl rfl ?_
                  refine aw_iinc C dX2_laneOfLowestHead_89 rfl rfl rfl ?_
                  refine aw_goto (tgt := 9) C dX2_laneOfLowestHead_92 (by decide) ?_
                  have h8 := ih (k + 1) (by omega) (by omega)
                  by_cases hf : fitS S cc9 sh k = true ∧ (lhN (fitS S cc9 sh) S k = -1 ∨ atS S k 0 < atS S (lhN (fitS S cc9 sh) S k) 0)
                  · have e8 : lhN (fitS S cc9 sh) S (k + 1) = k := if_pos hf
                    have hd := of_decide_eq_true hf.1
                    first
                    | (rw [e8, if_neg (show ¬ (k : Int) = -1 by omega)] at h8
                       refine aw_less ?_ h8
                       exact fun q hq => List.mem_of_mem_take (i := 6) hq)
                    | (exfalso
                       obtain ⟨hd1, hd2, hd3⟩ := hd
                       rcases hf.2 with hl | hl
                       · rw [if_pos hl] at c69
                         omega
                       · by_cases hl2 : lhN (fitS S cc9 sh) S k = -1
                         · rw [if_pos hl2] at c69
                           omega
                         · rw [if_neg hl2] at c69
                           omega)
                    | (exfalso
                       obtain ⟨hd1, hd2, hd3⟩ := hd
                       omega)
                  · have e8 : lhN (fitS S cc9 sh) S (k + 1) = lhN (fitS S cc9 sh) S k := if_neg hf
                    first
                    | (rw [e8] at h8
                       refine aw_less ?_ h8
                       exact fun q hq => List.mem_of_mem_take (i := 6) hq)
                    | (exfalso
                       refine hf ⟨decide_eq_true ⟨by omega, by omega, by omega⟩, ?_⟩
                       by_cases hl2 : lhN (fitS S cc9 sh) S k = -1
                       · exact Or.inl hl2
                       · rw [if_neg hl2] at c69
                         exact Or.inr c69)
          · refine aw_aload_n C dX2_laneOfLowestHead_43 rfl ?_
            refine aw_iload C dX2_laneOfLowestHead_44 rfl ?_
            refine cV1i (ci := 2) (q0 := 0) C hN (c_X2_colourOf (by omega) (by omega)) (cwV 1 hts gX2_laneOfLowestHead_X2_colourOf rfl rfl rfl (by decide +kernel) ⟨Nat.le_of_ble_eq_true rfl, Nat.le_of_ble_eq_true rfl⟩) rfl rfl rfl rfl dX2_laneOfLowestHead_46 ⟨Nat.zero_le _, Nat.zero_le _⟩ (fun r46 u46 q46 => ?_)
            obtain ⟨rfl, rfl⟩ := q46
            refine aw_iload_n C dX2_laneOfLowestHead_49 rfl ?_
            refine aw_icmp_ne (tgt := 57) C dX2_laneOfLowestHead_50 (by decide) (by omega) (by omega) (fun c50 => ?_) (fun c50 => ?_)
            · refine aw_iconst C dX2_laneOfLowestHead_57 ?_
              refine aw_istore C dX2_laneOfLowestHead_58 rfl rfl ?_
              refine aw_iload C dX2_laneOfLowestHead_60 rfl ?_
              refine aw_if_eq (tgt := 89) C dX2_laneOfLowestHead_62 (by decide) (by omega) (fun c62 => ?_) (fun c62 => ?_)
              · refine aw_iinc C dX2_laneOfLowestHead_89 rfl rfl rfl ?_
                refine aw_goto (tgt := 9) C dX2_laneOfLowestHead_92 (by decide) ?_
                have h8 := ih (k + 1) (by omega) (by omega)
                by_cases hf : fitS S cc9 sh k = true ∧ (lhN (fitS S cc9 sh) S k = -1 ∨ atS S k 0 < atS S (lhN (fitS S cc9 sh) S k) 0)
                · have e8 : lhN (fitS S cc9 sh) S (k + 1) = k := if_pos hf
                  have hd := of_decide_eq_true hf.1
                  first
                  | (rw [e8, if_neg (show ¬ (k : Int) = -1 by omega)] at h8
                     refine aw_less ?_ h8
                     exact fun q hq => List.mem_of_mem_take (i := 6) hq)
                  | (exfalso
                     obtain ⟨hd1, hd2, hd3⟩ := hd
                     rcases hf.2 with hl | hl
                     · rw [if_pos hl] at c69
                       omega
                     · by_cases hl2 : lhN (fitS S cc9 sh) S k = -1
                       · rw [if_pos hl2] at c69
                         omega
                       · rw [if_neg hl2] at c69
                         omega)
                  | (exfalso
                     obtain ⟨hd1, hd2, hd3⟩ := hd
                     omega)
                · have e8 : lhN (fitS S cc9 sh) S (k + 1) = lhN (fitS S cc9 sh) S k := if_neg hf
                  first
                  | (rw [e8] at h8
                     refine aw_less ?_ h8
                     exact fun q hq => List.mem_of_mem_take (i := 6) hq)
                  | (exfalso
                     refine hf ⟨decide_eq_true ⟨by omega, by omega, by omega⟩, ?_⟩
                     by_cases hl2 : lhN (fitS S cc9 sh) S k = -1
                     · exact Or.inl hl2
                     · rw [if_neg hl2] at c69
                       exact Or.inr c69)
              · refine aw_iload C dX2_laneOfLowestHead_65 rfl ?_
                refine aw_iload C dX2_laneOfLowestHead_67 rfl ?_
                refine aw_icmp_ge (tgt := 89) C dX2_laneOfLowestHead_69 (by decide) (by omega) (by omega) (fun c69 => ?_) (fun c69 => ?_)
                · refine aw_iinc C dX2_laneOfLowestHead_89 rfl rfl rfl ?_
                  refine aw_goto (tgt := 9) C dX2_laneOfLowestHead_92 (by decide) ?_
                  have h8 := ih (k + 1) (by omega) (by omega)
                  by_cases hf : fitS S cc9 sh k = true ∧ (lhN (fitS S cc9 sh) S k = -1 ∨ atS S k 0 < atS S (lhN (fitS S cc9 sh) S k) 0)
                  · have e8 : lhN (fitS S cc9 sh) S (k + 1) = k := if_pos hf
                    have hd := of_decide_eq_true hf.1
                    first
                    | (rw [e8, if_neg (show ¬ (k : Int) = -1 by omega)] at h8
                       refine aw_less ?_ h8
                       exact fun q hq => List.mem_of_mem_take (i := 6) hq)
                    | (exfalso
                       obtain ⟨hd1, hd2, hd3⟩ := hd
                       rcases hf.2 with hl | hl
                       · rw [if_pos hl] at c69
                         omega
                       · by_cases hl2 : lhN (fitS S cc9 sh) S k = -1
                         · rw [if_pos hl2] at c69
                           omega
                         · rw [if_neg hl2] at c69
                           omega)
                    | (exfalso
                       obtain ⟨hd1, hd2, hd3⟩ := hd
                       omega)
                  · have e8 : lhN (fitS S cc9 sh) S (k + 1) = lhN (fitS S cc9 sh) S k := if_neg hf
                    first
                    | (rw [e8] at h8
                       refine aw_less ?_ h8
                       exact fun q hq => List.mem_of_mem_take (i := 6) hq)
                    | (exfalso
                       refine hf ⟨decide_eq_true ⟨by omega, by omega, by omega⟩, ?_⟩
                       by_cases hl2 : lhN (fitS S cc9 sh) S k = -1
                       · exact Or.inl hl2
                       · rw [if_neg hl2] at c69
                         exact Or.inr c69)
                · refine aw_aload_n C dX2_laneOfLowestHead_72 rfl ?_
                  refine aw_iload C dX2_laneOfLowestHead_73 rfl ?_
                  refine cV1i (ci := 2) (q0 := 0) C hN (c_X2_blockOf hI (by omega) (by omega)) (cwV 1 hts gX2_laneOfLowestHead_X2_blockOf rfl rfl rfl (by decide +kernel) ⟨Nat.le_of_ble_eq_true rfl, Nat.le_of_ble_eq_true rfl⟩) rfl rfl rfl rfl dX2_laneOfLowestHead_75 ⟨Nat.zero_le _, Nat.zero_le _⟩ (fun r75 u75 q75 => ?_)
                  obtain ⟨rfl, rfl⟩ := q75
                  refine aw_iload_n C dX2_laneOfLowestHead_78 rfl ?_
                  refine aw_icmp_lt (tgt := 89) C dX2_laneOfLowestHead_79 (by decide) (by omega) (by omega) (fun c79 => ?_) (fun c79 => ?_)
                  · refine aw_iinc C dX2_laneOfLowestHead_89 rfl rfl rfl ?_
                    refine aw_goto (tgt := 9) C dX2_laneOfLowestHead_92 (by decide) ?_
                    have h8 := ih (k + 1) (by omega) (by omega)
                    by_cases hf : fitS S cc9 sh k = true ∧ (lhN (fitS S cc9 sh) S k = -1 ∨ atS S k 0 < atS S (lhN (fitS S cc9 sh) S k) 0)
                    · have e8 : lhN (fitS S cc9 sh) S (k + 1) = k := if_pos hf
                      have hd := of_decide_eq_true hf.1
                      first
                      | (rw [e8, if_neg (show ¬ (k : Int) = -1 by omega)] at h8
                         refine aw_less ?_ h8
                         exact fun q hq => List.mem_of_mem_take (i := 6) hq)
                      | (exfalso
                         obtain ⟨hd1, hd2, hd3⟩ := hd
                         rcases hf.2 with hl | hl
                         · rw [if_pos hl] at c69
                           omega
                         · by_cases hl2 : lhN (fitS S cc9 sh) S k = -1
                           · rw [if_pos hl2] at c69
                             omega
                           · rw [if_neg hl2] at c69
                             omega)
                      | (exfalso
                         obtain ⟨hd1, hd2, hd3⟩ := hd
                         omega)
                    · have e8 : lhN (fitS S cc9 sh) S (k + 1) = lhN (fitS S cc9 sh) S k := if_neg hf
                      first
                      | (rw [e8] at h8
                         refine aw_less ?_ h8
                         exact fun q hq => List.mem_of_mem_take (i := 6) hq)
                      | (exfalso
                         refine hf ⟨decide_eq_true ⟨by omega, by omega, by omega⟩, ?_⟩
                         by_cases hl2 : lhN (fitS S cc9 sh) S k = -1
                         · exact Or.inl hl2
                         · rw [if_neg hl2] at c69
                           exact Or.inr c69)
                  · refine aw_iload C dX2_laneOfLowestHead_82 rfl ?_
                    refine aw_istore_n C dX2_laneOfLowestHead_84 rfl rfl ?_
                    refine aw_iload C dX2_laneOfLowestHead_85 rfl ?_
                    refine aw_istore C dX2_laneOfLowestHead_87 rfl rfl ?_
                    refine aw_iinc C dX2_laneOfLowestHead_89 rfl rfl rfl ?_
                    refine aw_goto (tgt := 9) C dX2_laneOfLowestHead_92 (by decide) ?_
                    have h8 := ih (k + 1) (by omega) (by omega)
                    by_cases hf : fitS S cc9 sh k = true ∧ (lhN (fitS S cc9 sh) S k = -1 ∨ atS S k 0 < atS S (lhN (fitS S cc9 sh) S k) 0)
                    · have e8 : lhN (fitS S cc9 sh) S (k + 1) = k := if_pos hf
                      have hd := of_decide_eq_true hf.1
                      first
                      | (rw [e8, if_neg (show ¬ (k : Int) = -1 by omega)] at h8
                         refine aw_less ?_ h8
                         exact fun q hq => List.mem_of_mem_take (i := 6) hq)
                      | (exfalso
                         obtain ⟨hd1, hd2, hd3⟩ := hd
                         rcases hf.2 with hl | hl
                         · rw [if_pos hl] at c69
                           omega
                         · by_cases hl2 : lhN (fitS S cc9 sh) S k = -1
                           · rw [if_pos hl2] at c69
                             omega
                           · rw [if_neg hl2] at c69
                             omega)
                      | (exfalso
                         obtain ⟨hd1, hd2, hd3⟩ := hd
                         omega)
                    · have e8 : lhN (fitS S cc9 sh) S (k + 1) = lhN (fitS S cc9 sh) S k := if_neg hf
                      first
                      | (rw [e8] at h8
                         refine aw_less ?_ h8
                         exact fun q hq => List.mem_of_mem_take (i := 6) hq)
                      | (exfalso
                         refine hf ⟨decide_eq_true ⟨by omega, by omega, by omega⟩, ?_⟩
                         by_cases hl2 : lhN (fitS S cc9 sh) S k = -1
                         · exact Or.inl hl2
                         · rw [if_neg hl2] at c69
                           exact Or.inr c69)
            · refine aw_iconst C dX2_laneOfLowestHead_53 ?_
              refine aw_goto (tgt := 58) C dX2_laneOfLowestHead_54 (by decide) ?_
              refine aw_istore C dX2_laneOfLowestHead_58 rfl rfl ?_
              refine aw_iload C dX2_laneOfLowestHead_60 rfl ?_
              refine aw_if_eq (tgt := 89) C dX2_laneOfLowestHead_62 (by decide) (by omega) (fun c62 => ?_) (fun c62 => ?_)
              · refine aw_iinc C dX2_laneOfLowestHead_89 rfl rfl rfl ?_
                refine aw_goto (tgt := 9) C dX2_laneOfLowestHead_92 (by decide) ?_
                have h8 := ih (k + 1) (by omega) (by omega)
                by_cases hf : fitS S cc9 sh k = true ∧ (lhN (fitS S cc9 sh) S k = -1 ∨ atS S k 0 < atS S (lhN (fitS S cc9 sh) S k) 0)
                · have e8 : lhN (fitS S cc9 sh) S (k + 1) = k := if_pos hf
                  have hd := of_decide_eq_true hf.1
                  first
                  | (rw [e8, if_neg (show ¬ (k : Int) = -1 by omega)] at h8
                     refine aw_less ?_ h8
                     exact fun q hq => List.mem_of_mem_take (i := 6) hq)
                  | (exfalso
                     obtain ⟨hd1, hd2, hd3⟩ := hd
                     rcases hf.2 with hl | hl
                     · rw [if_pos hl] at c69
                       omega
                     · by_cases hl2 : lhN (fitS S cc9 sh) S k = -1
                       · rw [if_pos hl2] at c69
                         omega
                       · rw [if_neg hl2] at c69
                         omega)
                  | (exfalso
                     obtain ⟨hd1, hd2, hd3⟩ := hd
                     omega)
                · have e8 : lhN (fitS S cc9 sh) S (k + 1) = lhN (fitS S cc9 sh) S k := if_neg hf
                  first
                  | (rw [e8] at h8
                     refine aw_less ?_ h8
                     exact fun q hq => List.mem_of_mem_take (i := 6) hq)
                  | (exfalso
                     refine hf ⟨decide_eq_true ⟨by omega, by omega, by omega⟩, ?_⟩
                     by_cases hl2 : lhN (fitS S cc9 sh) S k = -1
                     · exact Or.inl hl2
                     · rw [if_neg hl2] at c69
                       exact Or.inr c69)
              · refine aw_iload C dX2_laneOfLowestHead_65 rfl ?_
                refine aw_iload C dX2_laneOfLowestHead_67 rfl ?_
                refine aw_icmp_ge (tgt := 89) C dX2_laneOfLowestHead_69 (by decide) (by omega) (by omega) (fun c69 => ?_) (fun c69 => ?_)
                · refine aw_iinc C dX2_laneOfLowestHead_89 rfl rfl rfl ?_
                  refine aw_goto (tgt := 9) C dX2_laneOfLowestHead_92 (by decide) ?_
                  have h8 := ih (k + 1) (by omega) (by omega)
                  by_cases hf : fitS S cc9 sh k = true ∧ (lhN (fitS S cc9 sh) S k = -1 ∨ atS S k 0 < atS S (lhN (fitS S cc9 sh) S k) 0)
                  · have e8 : lhN (fitS S cc9 sh) S (k + 1) = k := if_pos hf
                    have hd := of_decide_eq_true hf.1
                    first
                    | (rw [e8, if_neg (show ¬ (k : Int) = -1 by omega)] at h8
                       refine aw_less ?_ h8
                       exact fun q hq => List.mem_of_mem_take (i := 6) hq)
                    | (exfalso
                       obtain ⟨hd1, hd2, hd3⟩ := hd
                       rcases hf.2 with hl | hl
                       · rw [if_pos hl] at c69
                         omega
                       · by_cases hl2 : lhN (fitS S cc9 sh) S k = -1
                         · rw [if_pos hl2] at c69
                           omega
                         · rw [if_neg hl2] at c69
                           omega)
                    | (exfalso
                       obtain ⟨hd1, hd2, hd3⟩ := hd
                       omega)
                  · have e8 : lhN (fitS S cc9 sh) S (k + 1) = lhN (fitS S cc9 sh) S k := if_neg hf
                    first
                    | (rw [e8] at h8
                       refine aw_less ?_ h8
                       exact fun q hq => List.mem_of_mem_take (i := 6) hq)
                    | (exfalso
                       refine hf ⟨decide_eq_true ⟨by omega, by omega, by omega⟩, ?_⟩
                       by_cases hl2 : lhN (fitS S cc9 sh) S k = -1
                       · exact Or.inl hl2
                       · rw [if_neg hl2] at c69
                         exact Or.inr c69)
                · refine aw_aload_n C dX2_laneOfLowestHead_72 rfl ?_
                  refine aw_iload C dX2_laneOfLowestHead_73 rfl ?_
                  refine cV1i (ci := 2) (q0 := 0) C hN (c_X2_blockOf hI (by omega) (by omega)) (cwV 1 hts gX2_laneOfLowestHead_X2_blockOf rfl rfl rfl (by decide +kernel) ⟨Nat.le_of_ble_eq_true rfl, Nat.le_of_ble_eq_true rfl⟩) rfl rfl rfl rfl dX2_laneOfLowestHead_75 ⟨Nat.zero_le _, Nat.zero_le _⟩ (fun r75 u75 q75 => ?_)
                  obtain ⟨rfl, rfl⟩ := q75
                  refine aw_iload_n C dX2_laneOfLowestHead_78 rfl ?_
                  refine aw_icmp_lt (tgt := 89) C dX2_laneOfLowestHead_79 (by decide) (by omega) (by omega) (fun c79 => ?_) (fun c79 => ?_)
                  · refine aw_iinc C dX2_laneOfLowestHead_89 rfl rfl rfl ?_
                    refine aw_goto (tgt := 9) C dX2_laneOfLowestHead_92 (by decide) ?_
                    have h8 := ih (k + 1) (by omega) (by omega)
                    by_cases hf : fitS S cc9 sh k = true ∧ (lhN (fitS S cc9 sh) S k = -1 ∨ atS S k 0 < atS S (lhN (fitS S cc9 sh) S k) 0)
                    · have e8 : lhN (fitS S cc9 sh) S (k + 1) = k := if_pos hf
                      have hd := of_decide_eq_true hf.1
                      first
                      | (rw [e8, if_neg (show ¬ (k : Int) = -1 by omega)] at h8
                         refine aw_less ?_ h8
                         exact fun q hq => List.mem_of_mem_take (i := 6) hq)
                      | (exfalso
                         obtain ⟨hd1, hd2, hd3⟩ := hd
                         rcases hf.2 with hl | hl
                         · rw [if_pos hl] at c69
                           omega
                         · by_cases hl2 : lhN (fitS S cc9 sh) S k = -1
                           · rw [if_pos hl2] at c69
                             omega
                           · rw [if_neg hl2] at c69
                             omega)
                      | (exfalso
                         obtain ⟨hd1, hd2, hd3⟩ := hd
                         omega)
                    · have e8 : lhN (fitS S cc9 sh) S (k + 1) = lhN (fitS S cc9 sh) S k := if_neg hf
                      first
                      | (rw [e8] at h8
                         refine aw_less ?_ h8
                         exact fun q hq => List.mem_of_mem_take (i := 6) hq)
                      | (exfalso
                         refine hf ⟨decide_eq_true ⟨by omega, by omega, by omega⟩, ?_⟩
                         by_cases hl2 : lhN (fitS S cc9 sh) S k = -1
                         · exact Or.inl hl2
                         · rw [if_neg hl2] at c69
                           exact Or.inr c69)
                  · refine aw_iload C dX2_laneOfLowestHead_82 rfl ?_
                    refine aw_istore_n C dX2_laneOfLowestHead_84 rfl rfl ?_
                    refine aw_iload C dX2_laneOfLowestHead_85 rfl ?_
                    refine aw_istore C dX2_laneOfLowestHead_87 rfl rfl ?_
                    refine aw_iinc C dX2_laneOfLowestHead_89 rfl rfl rfl ?_
                    refine aw_goto (tgt := 9) C dX2_laneOfLowestHead_92 (by decide) ?_
                    have h8 := ih (k + 1) (by omega) (by omega)
                    by_cases hf : fitS S cc9 sh k = true ∧ (lhN (fitS S cc9 sh) S k = -1 ∨ atS S k 0 < atS S (lhN (fitS S cc9 sh) S k) 0)
                    · have e8 : lhN (fitS S cc9 sh) S (k + 1) = k := if_pos hf
                      have hd := of_decide_eq_true hf.1
                      first
                      | (rw [e8, if_neg (show ¬ (k : Int) = -1 by omega)] at h8
                         refine aw_less ?_ h8
                         exact fun q hq => List.mem_of_mem_take (i := 6) hq)
                      | (exfalso
                         obtain ⟨hd1, hd2, hd3⟩ := hd
                         rcases hf.2 with hl | hl
                         · rw [if_pos hl] at c69
                           omega
                         · by_cases hl2 : lhN (fitS S cc9 sh) S k = -1
                           · rw [if_pos hl2] at c69
                             omega
                           · rw [if_neg hl2] at c69
                             omega)
                      | (exfalso
                         obtain ⟨hd1, hd2, hd3⟩ := hd
                         omega)
                    · have e8 : lhN (fitS S cc9 sh) S (k + 1) = lhN (fitS S cc9 sh) S k := if_neg hf
                      first
                      | (rw [e8] at h8
                         refine aw_less ?_ h8
                         exact fun q hq => List.mem_of_mem_take (i := 6) hq)
                      | (exfalso
                         refine hf ⟨decide_eq_true ⟨by omega, by omega, by omega⟩, ?_⟩
                         by_cases hl2 : lhN (fitS S cc9 sh) S k = -1
                         · exact Or.inl hl2
                         · rw [if_neg hl2] at c69
                           exact Or.inr c69)
  refine aw_iconst C dX2_laneOfLowestHead_0 ?_
  refine aw_istore_n C dX2_laneOfLowestHead_1 rfl rfl ?_
  refine aw_bipush C dX2_laneOfLowestHead_2 rfl ?_
  refine aw_istore C dX2_laneOfLowestHead_4 rfl rfl ?_
  refine aw_iconst C dX2_laneOfLowestHead_6 ?_
  refine aw_istore C dX2_laneOfLowestHead_7 rfl rfl ?_
  exact lp 6 0 (by omega) (by omega)
