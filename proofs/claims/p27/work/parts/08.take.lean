/-- a plan's row of the lane i grown by a colour -/
def addP (P : St) (i c : Int) : St := ua (ua P i.toNat (P.2 5 i) c) 5 i (P.2 5 i + 1)
def zrN (P : St) (a : Nat) : Nat → St
  | 0 => P
  | n + 1 => ua (zrN P a n) a n 0
/-- the plan holds the colours of the lanes -/
def plS (S P : St) : Prop := (∀ i : Int, 0 ≤ i → i < 5 → P.2 5 i = S.2 0 i) ∧ ∀ i q : Int, 0 ≤ i → i < 5 → 0 ≤ q → q < S.2 0 i → P.2 i.toNat q = colS S (atS S i q)
/-- .. as far as the place j of the lane k -/
def cpS (S P : St) (k j : Int) : Prop := (∀ i : Int, 0 ≤ i → i < 5 → P.2 5 i = if i < k then S.2 0 i else if i = k then j else 0) ∧ ∀ i q : Int, 0 ≤ i → i < 5 → 0 ≤ q → q < P.2 5 i → P.2 i.toNat q = colS S (atS S i q)
theorem zrN_at (P : St) (a : Nat) : ∀ (n : Nat) (i : Int), 0 ≤ i → i < n → (zrN P a n).2 a i = 0
  | 0, i, h0, h1 => by omega
  | n + 1, i, h0, h1 => by
    show (ua (zrN P a n) a n 0).2 a i = 0
    rw [ua_s]
    split
    · rfl
    · exact zrN_at P a n i h0 (by omega)
theorem cpS_0 {S P : St} (h : ∀ i : Int, 0 ≤ i → i < 5 → P.2 5 i = 0) : cpS S P 0 0 := ⟨fun i h0 h5 => by rw [h i h0 h5]; split <;> (try split) <;> omega, fun i q h0 h5 h6 h7 => by rw [h i h0 h5] at h7; omega⟩
theorem cpS_add {S P : St} {k j : Int} (h : cpS S P k j) (hk : 0 ≤ k) (hk5 : k < 5) (hj : 0 ≤ j) : cpS S (addP P k (colS S (atS S k j))) k (j + 1) := by
  have e5 : ∀ i : Int, (addP P k (colS S (atS S k j))).2 5 i = if i = k then j + 1 else P.2 5 i := fun i => by
    unfold addP
    rw [ua_s]
    have h1 := h.1 k hk hk5
    rw [if_neg (by omega), if_pos rfl] at h1
    rw [h1]
    split
    · rfl
    · rw [ua_n _ _ _ _ _ (by omega)]
  refine ⟨fun i h0 h5 => ?_, fun i q h0 h5 h6 h7 => ?_⟩
  · rw [e5, h.1 i h0 h5]
    split
    · rw [if_neg (by omega)]
    · rfl
  · rw [e5] at h7
    have h1 := h.1 k hk hk5
    rw [if_neg (by omega), if_pos rfl] at h1
    have e6 : (addP P k (colS S (atS S k j))).2 i.toNat q = (ua P k.toNat (P.2 5 k) (colS S (atS S k j))).2 i.toNat q := ua_n _ _ _ _ _ (by omega)
    rw [e6, h1]
    by_cases e : i = k
    · subst e
      rw [ua_s]
      rw [if_pos rfl] at h7
      by_cases e2 : q = j
      · rw [if_pos e2, e2]
      · rw [if_neg e2]
        exact h.2 i q h0 h5 h6 (by omega)
    · rw [if_neg e] at h7
      rw [ua_n _ _ _ _ _ (by omega)]
      exact h.2 i q h0 h5 h6 h7
theorem cpS_next {S P : St} {k : Int} (h : cpS S P k (S.2 0 k)) : cpS S P (k + 1) 0 := ⟨fun i h0 h5 => by
  rw [h.1 i h0 h5]
  by_cases e : i < k
  · rw [if_pos e, if_pos (by omega)]
  · rw [if_neg e]
    by_cases e2 : i = k
    · subst e2
      rw [if_pos rfl, if_pos (by omega)]
    · rw [if_neg e2, if_neg (by omega)]
      split <;> rfl, h.2⟩
theorem cpS_pl {S P : St} (hI : Inv S) (h : cpS S P (S.1 0) 0) : plS S P := by
  have e : ∀ i : Int, 0 ≤ i → i < 5 → P.2 5 i = S.2 0 i := fun i h0 h5 => by
    rw [h.1 i h0 h5]
    have hz := hI.2.1 i h0 h5
    split
    · rfl
    · split <;> omega
  exact ⟨e, fun i q h0 h5 h6 h7 => h.2 i q h0 h5 h6 (by rw [e i h0 h5]; exact h7)⟩

set_option maxHeartbeats 4000000 in
set_option maxRecDepth 100000 in
theorem c_X2_takeHeadOf {l : Launch} {G : va_G × (Nat → ClassId)} {ad : Nat → Nat} {S P : St} (hI : Inv S) {i : Int} (h0 : 0 ≤ i) (h5 : i < 5) (hs : 0 < S.2 0 i) : Mi l G yX2_takeHeadOf wsX2_takeHeadOf ({ frames := 2, cells := 0, slots := 0, locals := 43 } : Room) [.ref (ad 0), .int (zI i)] (WX G.2 ad S P) (fun r u => r = atS S i 0 ∧ u = WX G.2 ad (relS S i) P) := by
  refine Mi.of (own := RX2) (cc := cX2_takeHeadOf) (maxL := 3) (ret := (some .int)) (by decide) rfl rfl rfl ?_
  intro p e s m args below meth c A C hN
  have hts := C.2.2.2.2.1
  have iFX2 : ∀ w ∈ u_ws RX2 TX2 17, w ∈ wsX2_takeHeadOf := by decide +kernel
  have k_11 := hts (.fieldLink RX2 11 "PaintSequencer" "lanes" "[LPaintSequencer$Lane;") (by decide +kernel)
  have k_20 := hts (.fieldLink RX2 20 "PaintSequencer" "places" "[I") (by decide +kernel)
  have k_175 := hts (.fieldLink RX2 175 "PaintSequencer" "changes" "I") (by decide +kernel)
  have k_46 := hts (.fieldLink RX2 46 "PaintSequencer" "latestColour" "I") (by decide +kernel)
  have k_16 := hts (.fieldLink RX2 16 "PaintSequencer" "colours" "[I") (by decide +kernel)
  have k_178 := hts (.fieldLink RX2 178 "PaintSequencer" "released" "I") (by decide +kernel)
  obtain ⟨hn, hz, hr, hc, hp, ha, hq, ht⟩ := id hI
  have h9 := hz i h0 h5
  have hbr : 0 ≤ atS S i 0 ∧ atS S i 0 < S.1 5 := by
    unfold atS
    rw [if_pos (by omega)]
    exact hr i 0 h0 h5 (by omega) hs
  have hB9 : 0 ≤ S.1 5 ∧ S.1 5 ≤ 99 := by omega
  have h8r : -2147483648 ≤ S.1 8 ∧ S.1 8 < 2147483648 := by omega
  have hcr : -2147483648 ≤ S.2 1 (atS S i 0) ∧ S.2 1 (atS S i 0) < 2147483648 := by
    have := hc _ hbr.1 hbr.2
    omega
  have e1 : (ua (takeS S i) 2 (atS S i 0) 10).2 1 = S.2 1 := by rw [ua_m _ _ _ _ (by decide), takeS_2 _ _ (by decide) (by decide)]
  refine aw_aload_n C dX2_takeHeadOf_0 rfl ?_
  refine aw_get (q0 := 0) (k := 0) C iFX2 k_11 rfl rfl rfl rfl dX2_takeHeadOf_1 ?_
  refine aw_iload_n C dX2_takeHeadOf_4 rfl ?_
  refine aw_aldL (q0 := 1) C rfl (by omega) (by omega) rfl rfl dX2_takeHeadOf_5 ?_
  refine cV0i (ci := 0)  C hN (c_X0_takeHead h0 h5 (by omega)) (cwV 0 hts gX2_takeHeadOf_X0_takeHead rfl rfl rfl (by decide +kernel) ⟨Nat.le_of_ble_eq_true rfl, Nat.le_of_ble_eq_true rfl⟩) rfl rfl (wx_lane (by omega) (by omega)) rfl dX2_takeHeadOf_6 ⟨Nat.zero_le _, Nat.zero_le _⟩ (fun r6 u6 q6 => ?_)
  obtain ⟨rfl, rfl⟩ := q6
  refine aw_istore_n C dX2_takeHeadOf_9 rfl rfl ?_
  refine aw_aload_n C dX2_takeHeadOf_10 rfl ?_
  refine aw_iload_n C dX2_takeHeadOf_11 rfl ?_
  refine cV1i (ci := 2) (q0 := 0) C hN (c_X2_isBody (by exact hB9) (by omega)) (cwV 1 hts gX2_takeHeadOf_X2_isBody rfl rfl rfl (by decide +kernel) ⟨Nat.le_of_ble_eq_true rfl, Nat.le_of_ble_eq_true rfl⟩) rfl rfl rfl rfl dX2_takeHeadOf_12 ⟨Nat.zero_le _, Nat.zero_le _⟩ (fun r12 u12 q12 => ?_)
  obtain ⟨rfl, rfl⟩ := q12
  refine aw_if_ne (tgt := 20) C dX2_takeHeadOf_15 (by decide) (by split <;> omega) (fun c15 => ?_) (fun c15 => ?_)
  · refine aw_aload_n C dX2_takeHeadOf_20 rfl ?_
    refine aw_get (q0 := 0) (k := 2) C iFX2 k_20 rfl rfl rfl rfl dX2_takeHeadOf_21 ?_
    refine aw_iload_n C dX2_takeHeadOf_24 rfl ?_
    refine aw_bipush C dX2_takeHeadOf_25 rfl ?_
    refine aw_stI (q0 := 13) C rfl (by omega) (by omega) rfl (wx_a13 _ _ _ _ _ _) dX2_takeHeadOf_27 ?_
    refine aw_aload_n C dX2_takeHeadOf_28 rfl ?_
    refine aw_dup C dX2_takeHeadOf_29 rfl ?_
    refine aw_get (q0 := 0) (k := 15) C iFX2 k_175 rfl rfl rfl rfl dX2_takeHeadOf_30 ?_
    refine aw_aload_n C dX2_takeHeadOf_33 rfl ?_
    refine aw_get (q0 := 0) (k := 14) C iFX2 k_46 rfl rfl rfl rfl dX2_takeHeadOf_34 ?_
    refine aw_aload_n C dX2_takeHeadOf_37 rfl ?_
    refine aw_get (q0 := 0) (k := 1) C iFX2 k_16 rfl rfl rfl rfl dX2_takeHeadOf_38 ?_
    refine aw_iload_n C dX2_takeHeadOf_41 rfl ?_
    refine aw_ldI (q0 := 12) C rfl (by omega) (by omega) rfl dX2_takeHeadOf_42 ?_
    refine cS2i C hN (c_X2_changeBetween (by exact h8r) (by rw [e1]; exact hcr)) (va_cwS 2 hts gX2_takeHeadOf_X2_changeBetween rfl rfl rfl (by decide +kernel) ⟨Nat.le_of_ble_eq_true rfl, Nat.le_of_ble_eq_true rfl⟩) rfl dX2_takeHeadOf_43 ⟨Nat.zero_le _, Nat.zero_le _⟩ (fun r43 u43 q43 => ?_)
    obtain ⟨rfl, rfl⟩ := q43
    refine aw_iadd C dX2_takeHeadOf_46 ?_
    refine aw_put (q0 := 0) (k := 15) C iFX2 tyX2_ok nmX2 k_175 rfl rfl rfl rfl rfl rfl (wx_f15 _ _ _ _ _) dX2_takeHeadOf_47 ?_
    refine aw_aload_n C dX2_takeHeadOf_50 rfl ?_
    refine aw_dup C dX2_takeHeadOf_51 rfl ?_
    refine aw_get (q0 := 0) (k := 16) C iFX2 k_178 rfl rfl rfl rfl dX2_takeHeadOf_52 ?_
    refine aw_iconst C dX2_takeHeadOf_55 ?_
    refine aw_iadd C dX2_takeHeadOf_56 ?_
    refine aw_put (q0 := 0) (k := 16) C iFX2 tyX2_ok nmX2 k_178 rfl rfl rfl rfl rfl rfl (wx_f16 _ _ _ _ _) dX2_takeHeadOf_57 ?_
    refine aw_aload_n C dX2_takeHeadOf_60 rfl ?_
    refine aw_aload_n C dX2_takeHeadOf_61 rfl ?_
    refine aw_get (q0 := 0) (k := 1) C iFX2 k_16 rfl rfl rfl rfl dX2_takeHeadOf_62 ?_
    refine aw_iload_n C dX2_takeHeadOf_65 rfl ?_
    refine aw_ldI (q0 := 12) C rfl (by omega) (by omega) rfl dX2_takeHeadOf_66 ?_
    refine aw_put (q0 := 0) (k := 14) C iFX2 tyX2_ok nmX2 k_46 rfl rfl rfl rfl rfl rfl (wx_f14 _ _ _ _ _) dX2_takeHeadOf_67 ?_
    refine aw_iload_n C dX2_takeHeadOf_70 rfl ?_
    exact aw_iret C dX2_takeHeadOf_71 ⟨rfl, by
      show WX G.2 ad (us (us (us (ua (takeS S i) 2 (atS S i 0) 10) 9 (S.1 9 + chg (S.1 8) ((ua (takeS S i) 2 (atS S i 0) 10).2 1 (atS S i 0)))) 10 (S.1 10 + 1)) 8 ((ua (takeS S i) 2 (atS S i 0) 10).2 1 (atS S i 0))) P = _
      rw [e1]
      rfl⟩
  · exfalso
    have e9 : 0 ≤ atS S i 0 ∧ atS S i 0 < (takeS S i).1 5 := hbr
    rw [if_pos e9] at c15
    exact absurd c15 (by decide)
set_option maxHeartbeats 4000000 in
set_option maxRecDepth 100000 in
theorem c_X2_forgetBodies {l : Launch} {G : va_G × (Nat → ClassId)} {ad : Nat → Nat} {S P : St} : Mv l G yX2_forgetBodies wsX2_forgetBodies ({ frames := 1, cells := 0, slots := 0, locals := 20 } : Room) [.ref (ad 0)] (WX G.2 ad S P) (fun u => u = WX G.2 ad (fogS S) P) := by
  refine Mv.of (own := RX2) (cc := cX2_forgetBodies) (maxL := 2) (ret := none) (by decide) rfl rfl rfl ?_
  intro p e s m args below meth c A C hN
  have hts := C.2.2.2.2.1
  have iFX2 : ∀ w ∈ u_ws RX2 TX2 17, w ∈ wsX2_forgetBodies := by decide +kernel
  have k_11 := hts (.fieldLink RX2 11 "PaintSequencer" "lanes" "[LPaintSequencer$Lane;") (by decide +kernel)
  have k_60 := hts (.fieldLink RX2 60 "PaintSequencer" "bodies" "I") (by decide +kernel)
  have k_161 := hts (.fieldLink RX2 161 "PaintSequencer" "assembled" "I") (by decide +kernel)
  have k_208 := hts (.fieldLink RX2 208 "PaintSequencer" "laneInTurn" "I") (by decide +kernel)
  have k_46 := hts (.fieldLink RX2 46 "PaintSequencer" "latestColour" "I") (by decide +kernel)
  have k_175 := hts (.fieldLink RX2 175 "PaintSequencer" "changes" "I") (by decide +kernel)
  have k_178 := hts (.fieldLink RX2 178 "PaintSequencer" "released" "I") (by decide +kernel)
  have lp : ∀ (n : Nat) (k : Nat), (k : Int) ≤ 5 → 5 - (k : Int) < n → AW p l e (headSpec wsX2_forgetBodies ({ frames := 1, cells := 0, slots := 0, locals := 20 } : Room)).room s m args below meth c 2 G A s.heap 0 0 (MQ below (QPv G (fun u => u = WX G.2 ad (fogS S) P) A) args s 0 0 A) (WX G.2 ad (clN S k) P) [(0, .ref (ad 0)), (1, .int (zI k))] 2 [] := by
    intro n
    induction n with
    | zero =>
      intro k h1 h2
      exfalso
      omega
    | succ n ih =>
      intro k h1 h2
      refine aw_iload_n C dX2_forgetBodies_2 rfl ?_
      refine aw_iconst C dX2_forgetBodies_3 ?_
      refine aw_icmp_ge (tgt := 22) C dX2_forgetBodies_4 (by decide) (by omega) (by omega) (fun c4 => ?_) (fun c4 => ?_)
      · have e5 : k = 5 := by omega
        subst e5
        refine aw_aload_n C dX2_forgetBodies_22 rfl ?_
        refine aw_iconst C dX2_forgetBodies_23 ?_
        refine aw_put (q0 := 0) (k := 11) C iFX2 tyX2_ok nmX2 k_60 rfl rfl rfl rfl rfl rfl (wx_f11 _ _ _ _ _) dX2_forgetBodies_24 ?_
        refine aw_aload_n C dX2_forgetBodies_27 rfl ?_
        refine aw_iconst C dX2_forgetBodies_28 ?_
        refine aw_put (q0 := 0) (k := 12) C iFX2 tyX2_ok nmX2 k_161 rfl rfl rfl rfl rfl rfl (wx_f12 _ _ _ _ _) dX2_forgetBodies_29 ?_
        refine aw_aload_n C dX2_forgetBodies_32 rfl ?_
        refine aw_iconst C dX2_forgetBodies_33 ?_
        refine aw_put (q0 := 0) (k := 13) C iFX2 tyX2_ok nmX2 k_208 rfl rfl rfl rfl rfl rfl (wx_f13 _ _ _ _ _) dX2_forgetBodies_34 ?_
        refine aw_aload_n C dX2_forgetBodies_37 rfl ?_
        refine aw_iconst C dX2_forgetBodies_38 ?_
        refine aw_put (q0 := 0) (k := 14) C iFX2 tyX2_ok nmX2 k_46 rfl rfl rfl rfl rfl rfl (wx_f14 _ _ _ _ _) dX2_forgetBodies_39 ?_
        refine aw_aload_n C dX2_forgetBodies_42 rfl ?_
        refine aw_iconst C dX2_forgetBodies_43 ?_
        refine aw_put (q0 := 0) (k := 15) C iFX2 tyX2_ok nmX2 k_175 rfl rfl rfl rfl rfl rfl (wx_f15 _ _ _ _ _) dX2_forgetBodies_44 ?_
        refine aw_aload_n C dX2_forgetBodies_47 rfl ?_
        refine aw_iconst C dX2_forgetBodies_48 ?_
        refine aw_put (q0 := 0) (k := 16) C iFX2 tyX2_ok nmX2 k_178 rfl rfl rfl rfl rfl rfl (wx_f16 _ _ _ _ _) dX2_forgetBodies_49 ?_
        exact aw_vret C dX2_forgetBodies_52 rfl
      · refine aw_aload_n C dX2_forgetBodies_7 rfl ?_
        refine aw_get (q0 := 0) (k := 0) C iFX2 k_11 rfl rfl rfl rfl dX2_forgetBodies_8 ?_
        refine aw_iload_n C dX2_forgetBodies_11 rfl ?_
        refine aw_aldL (q0 := 1) C rfl (by omega) (by omega) rfl rfl dX2_forgetBodies_12 ?_
        refine cV0v (ci := 0)  C hN (c_X0_clear (by omega) (by omega)) (cwV 0 hts gX2_forgetBodies_X0_clear rfl rfl rfl (by decide +kernel) ⟨Nat.le_of_ble_eq_true rfl, Nat.le_of_ble_eq_true rfl⟩) rfl rfl (wx_lane (by omega) (by omega)) rfl dX2_forgetBodies_13 ⟨Nat.zero_le _, Nat.zero_le _⟩ (fun u13 q13 => ?_)
        obtain rfl := q13
        refine aw_iinc C dX2_forgetBodies_16 rfl rfl rfl ?_
        refine aw_goto (tgt := 2) C dX2_forgetBodies_19 (by decide) ?_
        exact ih (k + 1) (by omega) (by omega)
  refine aw_iconst C dX2_forgetBodies_0 ?_
  refine aw_istore_n C dX2_forgetBodies_1 rfl rfl ?_
  exact lp 6 0 (by omega) (by omega)
set_option maxHeartbeats 4000000 in
set_option maxRecDepth 100000 in
theorem c_X1_clear {l : Launch} {G : va_G × (Nat → ClassId)} {ad : Nat → Nat} {S P : St} : Mv l G yX1_clear wsX1_clear ({ frames := 0, cells := 0, slots := 0, locals := 0 } : Room) [.ref (ad 16)] (WX G.2 ad S P) (fun u => u = WX G.2 ad S (zrN P 5 5)) := by
  refine Mv.of (own := RX1) (cc := cX1_clear) (maxL := 2) (ret := none) (by decide) rfl rfl rfl ?_
  intro p e s m args below meth c A C hN
  have hts := C.2.2.2.2.1
  have iFX1 : ∀ w ∈ u_ws RX1 TX1 6, w ∈ wsX1_clear := by decide +kernel
  have k_16 := hts (.fieldLink RX1 16 "PaintSequencer$Plan" "sizes" "[I") (by decide +kernel)
  have lp : ∀ (n : Nat) (k : Nat), (k : Int) ≤ 5 → 5 - (k : Int) < n → AW p l e (headSpec wsX1_clear ({ frames := 0, cells := 0, slots := 0, locals := 0 } : Room)).room s m args below meth c 2 G A s.heap 0 0 (MQ below (QPv G (fun u => u = WX G.2 ad S (zrN P 5 5)) A) args s 0 0 A) (WX G.2 ad S (zrN P 5 k)) [(0, .ref (ad 16)), (1, .int (zI k))] 2 [] := by
    intro n
    induction n with
    | zero =>
      intro k h1 h2
      exfalso
      omega
    | succ n ih =>
      intro k h1 h2
      refine aw_iload_n C dX1_clear_2 rfl ?_
      refine aw_iconst C dX1_clear_3 ?_
      refine aw_icmp_ge (tgt := 20) C dX1_clear_4 (by decide) (by omega) (by omega) (fun c4 => ?_) (fun c4 => ?_)
      · have e5 : k = 5 := by omega
        subst e5
        exact aw_vret C dX1_clear_20 rfl
      · refine aw_aload_n C dX1_clear_7 rfl ?_
        refine aw_get (q0 := 16) (k := 1) C iFX1 k_16 rfl rfl rfl rfl dX1_clear_8 ?_
        refine aw_iload_n C dX1_clear_11 rfl ?_
        refine aw_iconst C dX1_clear_12 ?_
        refine aw_stI (q0 := 23) C rfl (by omega) (by omega) rfl (wx_a23 _ _ _ _ _ _) dX1_clear_13 ?_
        refine aw_iinc C dX1_clear_14 rfl rfl rfl ?_
        refine aw_goto (tgt := 2) C dX1_clear_17 (by decide) ?_
        exact ih (k + 1) (by omega) (by omega)
  refine aw_iconst C dX1_clear_0 ?_
  refine aw_istore_n C dX1_clear_1 rfl rfl ?_
  exact lp 6 0 (by omega) (by omega)
set_option maxHeartbeats 4000000 in
set_option maxRecDepth 100000 in
theorem c_X1_add {l : Launch} {G : va_G × (Nat → ClassId)} {ad : Nat → Nat} {S P : St} {i z : Int} (h0 : 0 ≤ i) (h5 : i < 5) (hs : 0 ≤ P.2 5 i ∧ P.2 5 i < 6) : Mv l G yX1_add wsX1_add ({ frames := 0, cells := 0, slots := 0, locals := 0 } : Room) [.ref (ad 16), .int (zI i), .int (zI z)] (WX G.2 ad S P) (fun u => u = WX G.2 ad S (addP P i z)) := by
  refine Mv.of (own := RX1) (cc := cX1_add) (maxL := 3) (ret := none) (by decide) rfl rfl rfl ?_
  intro p e s m args below meth c A C hN
  have hts := C.2.2.2.2.1
  have iFX1 : ∀ w ∈ u_ws RX1 TX1 6, w ∈ wsX1_add := by decide +kernel
  have k_16 := hts (.fieldLink RX1 16 "PaintSequencer$Plan" "sizes" "[I") (by decide +kernel)
  have k_11 := hts (.fieldLink RX1 11 "PaintSequencer$Plan" "waiting" "[[I") (by decide +kernel)
  refine aw_aload_n C dX1_add_0 rfl ?_
  refine aw_get (q0 := 16) (k := 1) C iFX1 k_16 rfl rfl rfl rfl dX1_add_1 ?_
  refine aw_iload_n C dX1_add_4 rfl ?_
  refine aw_ldI (q0 := 23) C rfl (by omega) (by omega) rfl dX1_add_5 ?_
  refine aw_bipush C dX1_add_6 rfl ?_
  refine aw_icmp_ge (tgt := 35) C dX1_add_8 (by decide) (by omega) (by omega) (fun c8 => ?_) (fun c8 => ?_)
  · exfalso
    omega
  · refine aw_aload_n C dX1_add_11 rfl ?_
    refine aw_get (q0 := 16) (k := 0) C iFX1 k_11 rfl rfl rfl rfl dX1_add_12 ?_
    refine aw_iload_n C dX1_add_15 rfl ?_
    refine aw_aldA (q0 := 17) C rfl (by omega) (by omega) rfl rfl dX1_add_16 ?_
    refine aw_aload_n C dX1_add_17 rfl ?_
    refine aw_get (q0 := 16) (k := 1) C iFX1 k_16 rfl rfl rfl rfl dX1_add_18 ?_
    refine aw_iload_n C dX1_add_21 rfl ?_
    refine aw_ldI (q0 := 23) C rfl (by omega) (by omega) rfl dX1_add_22 ?_
    refine aw_iload_n C dX1_add_23 rfl ?_
    refine aw_stI  C (wx_wrow (by omega) (by omega)) (by omega) (by omega) rfl (wx_wrow_set (by omega) (by omega)) dX1_add_24 ?_
    refine aw_aload_n C dX1_add_25 rfl ?_
    refine aw_get (q0 := 16) (k := 1) C iFX1 k_16 rfl rfl rfl rfl dX1_add_26 ?_
    refine aw_iload_n C dX1_add_29 rfl ?_
    refine aw_dup2 C dX1_add_30 rfl rfl ?_
    refine aw_ldI (q0 := 23) C rfl (by omega) (by omega) rfl dX1_add_31 ?_
    refine aw_iconst C dX1_add_32 ?_
    refine aw_iadd C dX1_add_33 ?_
    refine aw_stI (q0 := 23) C rfl (by omega) (by omega) rfl (wx_a23 _ _ _ _ _ _) dX1_add_34 ?_
    exact aw_vret C dX1_add_35 (by unfold addP; rw [ua_n _ _ _ _ _ (show (5 : Nat) ≠ i.toNat by omega)])
set_option maxHeartbeats 4000000 in
set_option maxRecDepth 100000 in
theorem c_X2_copyLanesIntoPlan {l : Launch} {G : va_G × (Nat → ClassId)} {ad : Nat → Nat} {S P : St} (hI : Inv S) : Mv l G yX2_copyLanesIntoPlan wsX2_copyLanesIntoPlan ({ frames := 2, cells := 0, slots := 0, locals := 42 } : Room) [.ref (ad 0)] (WX G.2 ad S P) (fun u => ∃ P9 : St, u = WX G.2 ad S P9 ∧ plS S P9) := by
  refine Mv.of (own := RX2) (cc := cX2_copyLanesIntoPlan) (maxL := 3) (ret := none) (by decide) rfl rfl rfl ?_
  intro p e s m args below meth c A C hN
  have hts := C.2.2.2.2.1
  have iFX2 : ∀ w ∈ u_ws RX2 TX2 17, w ∈ wsX2_copyLanesIntoPlan := by decide +kernel
  have k_32 := hts (.fieldLink RX2 32 "PaintSequencer" "plan" "LPaintSequencer$Plan;") (by decide +kernel)
  have k_36 := hts (.fieldLink RX2 36 "PaintSequencer" "laneCount" "I") (by decide +kernel)
  have k_11 := hts (.fieldLink RX2 11 "PaintSequencer" "lanes" "[LPaintSequencer$Lane;") (by decide +kernel)
  obtain ⟨hn, hz, hr, hc, hp, ha, hq, ht⟩ := id hI
  have lp : ∀ (n : Nat) (k : Nat) (P9 : St), (k : Int) ≤ S.1 0 → S.1 0 - k < n → cpS S P9 k 0 → AW p l e (headSpec wsX2_copyLanesIntoPlan ({ frames := 2, cells := 0, slots := 0, locals := 42 } : Room)).room s m args below meth c 3 G A s.heap 0 0 (MQ below (QPv G (fun u => ∃ P9 : St, u = WX G.2 ad S P9 ∧ plS S P9) A) args s 0 0 A) (WX G.2 ad S P9) [(0, .ref (ad 0)), (1, .int (zI k))] 9 [] := by
    intro n
    induction n with
    | zero =>
      intro k P9 h1 h2 h3
      exfalso
      omega
    | succ n ih =>
      intro k P9 h1 h2 h3
      have hk9 : (k : Int) < 5 → 0 ≤ S.2 0 k ∧ S.2 0 k ≤ S.1 1 ∧ (S.1 0 ≤ k → S.2 0 k = 0) := fun h => hz k (by omega) h
      by_cases hk : (k : Int) < S.1 0
      · have h9 := hk9 (by omega)
        have lp2 : ∀ (n2 : Nat) (j : Nat) (P8 : St), (j : Int) ≤ S.2 0 k → S.2 0 k - j < n2 → cpS S P8 k j → AW p l e (headSpec wsX2_copyLanesIntoPlan ({ frames := 2, cells := 0, slots := 0, locals := 42 } : Room)).room s m args below meth c 3 G A s.heap 0 0 (MQ below (QPv G (fun u => ∃ P9 : St, u = WX G.2 ad S P9 ∧ plS S P9) A) args s 0 0 A) (WX G.2 ad S P8) [(0, .ref (ad 0)), (1, .int (zI k)), (2, .int (zI j))] 19 [] := by
          intro n2
          induction n2 with
          | zero =>
            intro j P8 g1 g2 g3
            exfalso
            omega
          | succ n2 ih2 =>
            intro j P8 g1 g2 g3
            refine aw_iload_n C dX2_copyLanesIntoPlan_19 rfl ?_
            refine aw_aload_n C dX2_copyLanesIntoPlan_20 rfl ?_
            refine aw_get (q0 := 0) (k := 0) C iFX2 k_11 rfl rfl rfl rfl dX2_copyLanesIntoPlan_21 ?_
            refine aw_iload_n C dX2_copyLanesIntoPlan_24 rfl ?_
            refine aw_aldL (q0 := 1) C rfl (by omega) (by omega) rfl rfl dX2_copyLanesIntoPlan_25 ?_
            refine cV0i (ci := 0)  C hN (c_X0_count (by omega) (by omega)) (cwV 0 hts gX2_copyLanesIntoPlan_X0_count rfl rfl rfl (by decide +kernel) ⟨Nat.le_of_ble_eq_true rfl, Nat.le_of_ble_eq_true rfl⟩) rfl rfl (wx_lane (by omega) (by omega)) rfl dX2_copyLanesIntoPlan_26 ⟨Nat.zero_le _, Nat.zero_le _⟩ (fun r26 u26 q26 => ?_)
            obtain ⟨rfl, rfl⟩ := q26
            refine aw_icmp_ge (tgt := 60) C dX2_copyLanesIntoPlan_29 (by decide) (by omega) (by omega) (fun c29 => ?_) (fun c29 => ?_)
            · refine aw_iinc C dX2_copyLanesIntoPlan_60 rfl rfl rfl ?_
              refine aw_goto (tgt := 9) C dX2_copyLanesIntoPlan_63 (by decide) ?_
              refine aw_less ?_ (ih (k + 1) P8 (by omega) (by omega) (cpS_next (by rw [show S.2 0 k = (j : Int) by omega]; exact g3)))
              exact fun q hq => List.mem_of_mem_take (i := 2) hq
            · refine aw_aload_n C dX2_copyLanesIntoPlan_32 rfl ?_
              refine aw_get (q0 := 0) (k := 5) C iFX2 k_32 rfl rfl rfl rfl dX2_copyLanesIntoPlan_33 ?_
              refine aw_iload_n C dX2_copyLanesIntoPlan_36 rfl ?_
              refine aw_aload_n C dX2_copyLanesIntoPlan_37 rfl ?_
              refine aw_aload_n C dX2_copyLanesIntoPlan_38 rfl ?_
              refine aw_get (q0 := 0) (k := 0) C iFX2 k_11 rfl rfl rfl rfl dX2_copyLanesIntoPlan_39 ?_
              refine aw_iload_n C dX2_copyLanesIntoPlan_42 rfl ?_
              refine aw_aldL (q0 := 1) C rfl (by omega) (by omega) rfl rfl dX2_copyLanesIntoPlan_43 ?_
              refine aw_iload_n C dX2_copyLanesIntoPlan_44 rfl ?_
              have h8 := atS_b hI (i := k) (z := j) (by omega) (by omega)
              refine cV1i (ci := 0)  C hN (c_X0_at (by omega) (by omega) (by omega) (by omega)) (cwV 1 hts gX2_copyLanesIntoPlan_X0_at rfl rfl rfl (by decide +kernel) ⟨Nat.le_of_ble_eq_true rfl, Nat.le_of_ble_eq_true rfl⟩) rfl rfl (wx_lane (by omega) (by omega)) rfl dX2_copyLanesIntoPlan_45 ⟨Nat.zero_le _, Nat.zero_le _⟩ (fun r45 u45 q45 => ?_)
              obtain ⟨rfl, rfl⟩ := q45
              refine cV1i (ci := 2) (q0 := 0) C hN (c_X2_colourOf (by omega) (by omega)) (cwV 1 hts gX2_copyLanesIntoPlan_X2_colourOf rfl rfl rfl (by decide +kernel) ⟨Nat.le_of_ble_eq_true rfl, Nat.le_of_ble_eq_true rfl⟩) rfl rfl rfl rfl dX2_copyLanesIntoPlan_48 ⟨Nat.zero_le _, Nat.zero_le _⟩ (fun r48 u48 q48 => ?_)
              obtain ⟨rfl, rfl⟩ := q48
              have h7 := g3.1 k (by omega) (by omega)
              rw [if_neg (by omega), if_pos rfl] at h7
              refine cV2v (ci := 1) (q0 := 16) C hN (c_X1_add (by omega) (by omega) (by omega)) (cwV 2 hts gX2_copyLanesIntoPlan_X1_add rfl rfl rfl (by decide +kernel) ⟨Nat.le_of_ble_eq_true rfl, Nat.le_of_ble_eq_true rfl⟩) rfl rfl rfl rfl dX2_copyLanesIntoPlan_51 ⟨Nat.zero_le _, Nat.zero_le _⟩ (fun u51 q51 => ?_)
              obtain rfl := q51
              refine aw_iinc C dX2_copyLanesIntoPlan_54 rfl rfl rfl ?_
              refine aw_goto (tgt := 19) C dX2_copyLanesIntoPlan_57 (by decide) ?_
              exact ih2 (j + 1) _ (by omega) (by omega) (cpS_add g3 (by omega) (by omega) (by omega))
        refine aw_iload_n C dX2_copyLanesIntoPlan_9 rfl ?_
        refine aw_aload_n C dX2_copyLanesIntoPlan_10 rfl ?_
        refine aw_get (q0 := 0) (k := 6) C iFX2 k_36 rfl rfl rfl rfl dX2_copyLanesIntoPlan_11 ?_
        refine aw_icmp_ge (tgt := 66) C dX2_copyLanesIntoPlan_14 (by decide) (by omega) (by omega) (fun c14 => ?_) (fun c14 => ?_)
        · exfalso
          omega
        · refine aw_iconst C dX2_copyLanesIntoPlan_17 ?_
          refine aw_istore_n C dX2_copyLanesIntoPlan_18 rfl rfl ?_
          exact lp2 7 0 P9 (by omega) (by omega) h3
      · refine aw_iload_n C dX2_copyLanesIntoPlan_9 rfl ?_
        refine aw_aload_n C dX2_copyLanesIntoPlan_10 rfl ?_
        refine aw_get (q0 := 0) (k := 6) C iFX2 k_36 rfl rfl rfl rfl dX2_copyLanesIntoPlan_11 ?_
        refine aw_icmp_ge (tgt := 66) C dX2_copyLanesIntoPlan_14 (by decide) (by omega) (by omega) (fun c14 => ?_) (fun c14 => ?_)
        · exact aw_vret C dX2_copyLanesIntoPlan_66 ⟨P9, rfl, cpS_pl hI (by rw [show S.1 0 = (k : Int) by omega]; exact h3)⟩
        · exfalso
          omega
  refine aw_aload_n C dX2_copyLanesIntoPlan_0 rfl ?_
  refine aw_get (q0 := 0) (k := 5) C iFX2 k_32 rfl rfl rfl rfl dX2_copyLanesIntoPlan_1 ?_
  refine cV0v (ci := 1) (q0 := 16) C hN (c_X1_clear) (cwV 0 hts gX2_copyLanesIntoPlan_X1_clear rfl rfl rfl (by decide +kernel) ⟨Nat.le_of_ble_eq_true rfl, Nat.le_of_ble_eq_true rfl⟩) rfl rfl rfl rfl dX2_copyLanesIntoPlan_4 ⟨Nat.zero_le _, Nat.zero_le _⟩ (fun u4 q4 => ?_)
  obtain rfl := q4
  refine aw_iconst C dX2_copyLanesIntoPlan_7 ?_
  refine aw_istore_n C dX2_copyLanesIntoPlan_8 rfl rfl ?_
  exact lp 6 0 _ (by omega) (by omega) (cpS_0 (fun i h0 h5 => zrN_at P 5 5 i h0 (by omega)))

