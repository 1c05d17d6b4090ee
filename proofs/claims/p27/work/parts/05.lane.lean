/-! PURE WORDS of the class's small parts -/
/-- a row put in whole -/
def ur (S : St) (a : Nat) (g : Int → Int) : St := (S.1, fun b => match Nat.beq b a with
  | true => g
  | false => S.2 b)
theorem ur_s (S : St) (a : Nat) (g : Int → Int) : (ur S a g).2 a = g := by unfold ur; simp
theorem ur_n (S : St) (a : Nat) (g : Int → Int) {b : Nat} (h : b ≠ a) : (ur S a g).2 b = S.2 b := by
  unfold ur
  have : Nat.beq b a = false := nbeq h
  simp [this]
theorem ua_ur (S : St) (a : Nat) (g h : Int → Int) (i v : Int) (e : ∀ j, (if j = i then v else g j) = h j) : ua (ur S a g) a i v = ur S a h := by
  unfold ua ur
  refine congrArg (Prod.mk S.1) (funext fun b => ?_)
  cases hb : Nat.beq b a with
  | true => exact funext fun j => by simpa [hb] using e j
  | false => exact funext fun j => by simp [hb]
theorem ur_self (S : St) (a : Nat) : ur S a (S.2 a) = S := by
  unfold ur
  refine Prod.ext rfl (funext fun b => ?_)
  cases hb : Nat.beq b a with
  | true =>
    have e := Nat.eq_of_beq_eq_true hb
    subst e
    simp
  | false => simp [hb]
/-- a row whose head has gone: the places 1 .. n - 1 one ahead -/
def shf (f : Int → Int) (n : Int) : Int → Int := fun j => if 0 ≤ j ∧ j + 1 < n then f (j + 1) else f j
theorem shf_1 (f : Int → Int) : shf f 1 = f := funext fun j => if_neg (by omega)
theorem shf_step (f : Int → Int) (n : Int) (h : 1 ≤ n) (j : Int) : (if j = n - 1 then shf f n n else shf f n j) = shf f (n + 1) j := by
  unfold shf
  by_cases e : j = n - 1
  · subst e
    rw [if_pos rfl, if_neg (by omega), if_pos (by omega)]
    exact congrArg f (by omega)
  · rw [if_neg e]
    by_cases e2 : 0 ≤ j ∧ j + 1 < n
    · rw [if_pos e2, if_pos (by omega)]
    · rw [if_neg e2, if_neg (by omega)]
/-- the head of lane i taken out -/
def takeS (S : St) (i : Int) : St := ua (ur S (10 + i.toNat) (shf (S.2 (10 + i.toNat)) (S.2 0 i))) 0 i (S.2 0 i - 1)
/-- a body put behind lane i -/
def addS (S : St) (i b : Int) : St := ua (ua S (10 + i.toNat) (S.2 0 i) b) 0 i (S.2 0 i + 1)
/-- the body at a place of lane i, -1 if there is none -/
def atS (S : St) (i z : Int) : Int := if 0 ≤ z ∧ z < S.2 0 i then S.2 (10 + i.toNat) z else -1
/-- how many of the first n hold v -/
def cntN (f : Int → Int) (v : Int) : Nat → Int
  | 0 => 0
  | n + 1 => if f n = v then cntN f v n + 1 else cntN f v n
theorem cntN_b (f : Int → Int) (v : Int) : ∀ n : Nat, 0 ≤ cntN f v n ∧ cntN f v n ≤ n
  | 0 => ⟨Int.le_refl 0, Int.le_refl 0⟩
  | n + 1 => by
    have := cntN_b f v n
    unfold cntN
    split <;> omega
/-- the sum of the first n -/
def sumN (f : Int → Int) : Nat → Int
  | 0 => 0
  | n + 1 => sumN f n + f n
/-- what holds of every state that calls can reach -/
def Inv (S : St) : Prop := ((1 ≤ S.1 0 ∧ S.1 0 ≤ 5) ∧ (1 ≤ S.1 1 ∧ S.1 1 ≤ 6) ∧ (1 ≤ S.1 2 ∧ S.1 2 ≤ 6) ∧ (0 ≤ S.1 3 ∧ S.1 3 ≤ 2) ∧ (0 ≤ S.1 4 ∧ S.1 4 ≤ 2) ∧ (0 ≤ S.1 5 ∧ S.1 5 ≤ 99) ∧ (0 ≤ S.1 6 ∧ S.1 6 ≤ S.1 5) ∧ (0 ≤ S.1 7 ∧ S.1 7 < S.1 0) ∧ (-1 ≤ S.1 8 ∧ S.1 8 ≤ 4) ∧ (-1 ≤ S.1 11 ∧ S.1 11 < S.1 0)) ∧
  (∀ i : Int, 0 ≤ i → i < 5 → 0 ≤ S.2 0 i ∧ S.2 0 i ≤ S.1 1 ∧ (S.1 0 ≤ i → S.2 0 i = 0)) ∧
  (∀ i j : Int, 0 ≤ i → i < 5 → 0 ≤ j → j < S.2 0 i → 0 ≤ S.2 (10 + i.toNat) j ∧ S.2 (10 + i.toNat) j < S.1 5) ∧
  (∀ b : Int, 0 ≤ b → b < S.1 5 → 0 ≤ S.2 1 b ∧ S.2 1 b ≤ 4) ∧ (∀ b : Int, 0 ≤ b → b < S.1 5 → 0 ≤ S.2 2 b ∧ S.2 2 b ≤ 12) ∧
  (∀ q : Int, 0 ≤ q → q < S.1 6 → 0 ≤ S.2 3 q ∧ S.2 3 q < S.1 5 ∧ S.2 2 (S.2 3 q) = 12 ∧ S.2 4 (S.2 3 q) = q) ∧
  (∀ b : Int, 0 ≤ b → b < S.1 5 → S.2 2 b = 12 → 0 ≤ S.2 4 b ∧ S.2 4 b < S.1 6 ∧ S.2 3 (S.2 4 b) = b) ∧
  S.1 7 = (if S.1 11 + 1 < S.1 0 then S.1 11 + 1 else 0)
/-- the colour of a body, -1 if there is no such body -/
def colS (S : St) (b : Int) : Int := if 0 ≤ b ∧ b < S.1 5 then S.2 1 b else -1
theorem atS_b {S : St} (hI : Inv S) {i z : Int} (h0 : 0 ≤ i) (h5 : i < 5) : -1 ≤ atS S i z ∧ atS S i z < 99 := by
  obtain ⟨hn, hz, hr, -⟩ := hI
  unfold atS
  split
  · have := hr i z h0 h5 (by omega) (by omega)
    omega
  · omega
theorem colS_b {S : St} (hI : Inv S) (b : Int) : -1 ≤ colS S b ∧ colS S b ≤ 4 := by
  obtain ⟨hn, hz, hr, hc, -⟩ := hI
  unfold colS
  split
  · have := hc b (by omega) (by omega)
    omega
  · omega

set_option maxHeartbeats 4000000 in
set_option maxRecDepth 100000 in
theorem c_X0_count {l : Launch} {G : va_G × (Nat → ClassId)} {ad : Nat → Nat} {S P : St} {i : Int} (h0 : 0 ≤ i) (h5 : i < 5) : Mi l G yX0_count wsX0_count ({ frames := 0, cells := 0, slots := 0, locals := 0 } : Room) [.ref (ad (2 + i.toNat))] (WX G.2 ad S P) (fun r u => r = S.2 0 i ∧ u = (WX G.2 ad S P)) := by
  refine Mi.of (own := RX0) (cc := cX0_count) (maxL := 1) (ret := (some .int)) (by decide) rfl rfl rfl ?_
  intro p e s m args below meth c A C hN
  have hts := C.2.2.2.2.1
  have iFX0 : ∀ w ∈ u_ws RX0 TX0 2, w ∈ wsX0_count := by decide +kernel
  have k_15 := hts (.fieldLink RX0 15 "PaintSequencer$Lane" "size" "I") (by decide +kernel)
  refine aw_aload_n C dX0_count_0 rfl ?_
  refine aw_get  (k := 1) C iFX0 k_15 (wx_lane (by omega) (by omega)) rfl rfl rfl dX0_count_1 ?_
  exact aw_iret C dX0_count_4 ⟨rfl, rfl⟩
set_option maxHeartbeats 4000000 in
set_option maxRecDepth 100000 in
theorem c_X0_isEmpty {l : Launch} {G : va_G × (Nat → ClassId)} {ad : Nat → Nat} {S P : St} {i : Int} (h0 : 0 ≤ i) (h5 : i < 5) (hs : 0 ≤ S.2 0 i ∧ S.2 0 i ≤ 6) : Mi l G yX0_isEmpty wsX0_isEmpty ({ frames := 0, cells := 0, slots := 0, locals := 0 } : Room) [.ref (ad (2 + i.toNat))] (WX G.2 ad S P) (fun r u => r = (if S.2 0 i = 0 then 1 else 0) ∧ u = (WX G.2 ad S P)) := by
  refine Mi.of (own := RX0) (cc := cX0_isEmpty) (maxL := 1) (ret := (some .boolean)) (by decide) rfl rfl rfl ?_
  intro p e s m args below meth c A C hN
  have hts := C.2.2.2.2.1
  have iFX0 : ∀ w ∈ u_ws RX0 TX0 2, w ∈ wsX0_isEmpty := by decide +kernel
  have k_15 := hts (.fieldLink RX0 15 "PaintSequencer$Lane" "size" "I") (by decide +kernel)
  refine aw_aload_n C dX0_isEmpty_0 rfl ?_
  refine aw_get  (k := 1) C iFX0 k_15 (wx_lane (by omega) (by omega)) rfl rfl rfl dX0_isEmpty_1 ?_
  refine aw_if_ne (tgt := 11) C dX0_isEmpty_4 (by decide) (by omega) (fun c4 => ?_) (fun c4 => ?_)
  · refine aw_iconst C dX0_isEmpty_11 ?_
    exact aw_zret C dX0_isEmpty_12 rfl ⟨by first | rw [if_pos (by omega)] | rw [if_neg (by omega)], rfl⟩
  · refine aw_iconst C dX0_isEmpty_7 ?_
    refine aw_goto (tgt := 12) C dX0_isEmpty_8 (by decide) ?_
    exact aw_zret C dX0_isEmpty_12 rfl ⟨by first | rw [if_pos (by omega)] | rw [if_neg (by omega)], rfl⟩
set_option maxHeartbeats 4000000 in
set_option maxRecDepth 100000 in
theorem c_X0_at {l : Launch} {G : va_G × (Nat → ClassId)} {ad : Nat → Nat} {S P : St} {i : Int} (h0 : 0 ≤ i) (h5 : i < 5) {z : Int} (hs : 0 ≤ S.2 0 i ∧ S.2 0 i ≤ 6) (hz : -2147483648 ≤ z ∧ z < 2147483648) : Mi l G yX0_at wsX0_at ({ frames := 0, cells := 0, slots := 0, locals := 0 } : Room) [.ref (ad (2 + i.toNat)), .int (zI z)] (WX G.2 ad S P) (fun r u => r = atS S i z ∧ u = (WX G.2 ad S P)) := by
  refine Mi.of (own := RX0) (cc := cX0_at) (maxL := 2) (ret := (some .int)) (by decide) rfl rfl rfl ?_
  intro p e s m args below meth c A C hN
  have hts := C.2.2.2.2.1
  have iFX0 : ∀ w ∈ u_ws RX0 TX0 2, w ∈ wsX0_at := by decide +kernel
  have k_15 := hts (.fieldLink RX0 15 "PaintSequencer$Lane" "size" "I") (by decide +kernel)
  have k_9 := hts (.fieldLink RX0 9 "PaintSequencer$Lane" "row" "[I") (by decide +kernel)
  refine aw_iload_n C dX0_at_0 rfl ?_
  refine aw_if_lt (tgt := 21) C dX0_at_1 (by decide) (by omega) (fun c1 => ?_) (fun c1 => ?_)
  · refine aw_iconst C dX0_at_21 ?_
    exact aw_iret C dX0_at_22 ⟨by unfold atS; first | rw [if_pos (by omega)] | rw [if_neg (by omega)], rfl⟩
  · refine aw_iload_n C dX0_at_4 rfl ?_
    refine aw_aload_n C dX0_at_5 rfl ?_
    refine aw_get  (k := 1) C iFX0 k_15 (wx_lane (by omega) (by omega)) rfl rfl rfl dX0_at_6 ?_
    refine aw_icmp_ge (tgt := 21) C dX0_at_9 (by decide) (by omega) (by omega) (fun c9 => ?_) (fun c9 => ?_)
    · refine aw_iconst C dX0_at_21 ?_
      exact aw_iret C dX0_at_22 ⟨by unfold atS; first | rw [if_pos (by omega)] | rw [if_neg (by omega)], rfl⟩
    · refine aw_aload_n C dX0_at_12 rfl ?_
      refine aw_get  (k := 0) C iFX0 k_9 (wx_lane (by omega) (by omega)) rfl rfl rfl dX0_at_13 ?_
      refine aw_iload_n C dX0_at_16 rfl ?_
      refine aw_ldI  C (wx_row (by omega) (by omega)) (by omega) (by omega) rfl dX0_at_17 ?_
      refine aw_goto (tgt := 22) C dX0_at_18 (by decide) ?_
      exact aw_iret C dX0_at_22 ⟨by unfold atS; first | rw [if_pos (by omega)] | rw [if_neg (by omega)], rfl⟩
set_option maxHeartbeats 4000000 in
set_option maxRecDepth 100000 in
theorem c_X0_add {l : Launch} {G : va_G × (Nat → ClassId)} {ad : Nat → Nat} {S P : St} {i : Int} (h0 : 0 ≤ i) (h5 : i < 5) {z : Int} (hs : 0 ≤ S.2 0 i ∧ S.2 0 i < 6) : Mv l G yX0_add wsX0_add ({ frames := 0, cells := 0, slots := 0, locals := 0 } : Room) [.ref (ad (2 + i.toNat)), .int (zI z)] (WX G.2 ad S P) (fun u => u = WX G.2 ad (addS S i z) P) := by
  refine Mv.of (own := RX0) (cc := cX0_add) (maxL := 2) (ret := none) (by decide) rfl rfl rfl ?_
  intro p e s m args below meth c A C hN
  have hts := C.2.2.2.2.1
  have iFX0 : ∀ w ∈ u_ws RX0 TX0 2, w ∈ wsX0_add := by decide +kernel
  have k_15 := hts (.fieldLink RX0 15 "PaintSequencer$Lane" "size" "I") (by decide +kernel)
  have k_9 := hts (.fieldLink RX0 9 "PaintSequencer$Lane" "row" "[I") (by decide +kernel)
  refine aw_aload_n C dX0_add_0 rfl ?_
  refine aw_get  (k := 1) C iFX0 k_15 (wx_lane (by omega) (by omega)) rfl rfl rfl dX0_add_1 ?_
  refine aw_bipush C dX0_add_4 rfl ?_
  refine aw_icmp_ge (tgt := 29) C dX0_add_6 (by decide) (by omega) (by omega) (fun c6 => ?_) (fun c6 => ?_)
  · exfalso
    omega
  · refine aw_aload_n C dX0_add_9 rfl ?_
    refine aw_get  (k := 0) C iFX0 k_9 (wx_lane (by omega) (by omega)) rfl rfl rfl dX0_add_10 ?_
    refine aw_aload_n C dX0_add_13 rfl ?_
    refine aw_get  (k := 1) C iFX0 k_15 (wx_lane (by omega) (by omega)) rfl rfl rfl dX0_add_14 ?_
    refine aw_iload_n C dX0_add_17 rfl ?_
    refine aw_stI  C (wx_row (by omega) (by omega)) (by omega) (by omega) rfl (wx_row_set (by omega) (by omega)) dX0_add_18 ?_
    refine aw_aload_n C dX0_add_19 rfl ?_
    refine aw_dup C dX0_add_20 rfl ?_
    refine aw_get  (k := 1) C iFX0 k_15 (wx_lane (by omega) (by omega)) rfl rfl rfl dX0_add_21 ?_
    refine aw_iconst C dX0_add_24 ?_
    refine aw_iadd C dX0_add_25 ?_
    refine aw_put  (k := 1) C iFX0 tyX0_ok nmX0 k_15 (wx_lane (by omega) (by omega)) rfl rfl rfl rfl rfl (wx_lane_set (by omega) (by omega)) dX0_add_26 ?_
    exact aw_vret C dX0_add_29 (by unfold addS; rw [ua_n _ _ _ _ _ (by omega)])
set_option maxHeartbeats 4000000 in
set_option maxRecDepth 100000 in
theorem c_X0_clear {l : Launch} {G : va_G × (Nat → ClassId)} {ad : Nat → Nat} {S P : St} {i : Int} (h0 : 0 ≤ i) (h5 : i < 5) : Mv l G yX0_clear wsX0_clear ({ frames := 0, cells := 0, slots := 0, locals := 0 } : Room) [.ref (ad (2 + i.toNat))] (WX G.2 ad S P) (fun u => u = WX G.2 ad (ua S 0 i 0) P) := by
  refine Mv.of (own := RX0) (cc := cX0_clear) (maxL := 1) (ret := none) (by decide) rfl rfl rfl ?_
  intro p e s m args below meth c A C hN
  have hts := C.2.2.2.2.1
  have iFX0 : ∀ w ∈ u_ws RX0 TX0 2, w ∈ wsX0_clear := by decide +kernel
  have k_15 := hts (.fieldLink RX0 15 "PaintSequencer$Lane" "size" "I") (by decide +kernel)
  refine aw_aload_n C dX0_clear_0 rfl ?_
  refine aw_iconst C dX0_clear_1 ?_
  refine aw_put  (k := 1) C iFX0 tyX0_ok nmX0 k_15 (wx_lane (by omega) (by omega)) rfl rfl rfl rfl rfl (wx_lane_set (by omega) (by omega)) dX0_clear_2 ?_
  exact aw_vret C dX0_clear_5 rfl
set_option maxHeartbeats 4000000 in
set_option maxRecDepth 100000 in
theorem c_X0_takeHead {l : Launch} {G : va_G × (Nat → ClassId)} {ad : Nat → Nat} {S P : St} {i : Int} (h0 : 0 ≤ i) (h5 : i < 5) (hs : 0 < S.2 0 i ∧ S.2 0 i ≤ 6) : Mi l G yX0_takeHead wsX0_takeHead ({ frames := 1, cells := 0, slots := 0, locals := 21 } : Room) [.ref (ad (2 + i.toNat))] (WX G.2 ad S P) (fun r u => r = atS S i 0 ∧ u = WX G.2 ad (takeS S i) P) := by
  refine Mi.of (own := RX0) (cc := cX0_takeHead) (maxL := 3) (ret := (some .int)) (by decide) rfl rfl rfl ?_
  intro p e s m args below meth c A C hN
  have hts := C.2.2.2.2.1
  have iFX0 : ∀ w ∈ u_ws RX0 TX0 2, w ∈ wsX0_takeHead := by decide +kernel
  have k_15 := hts (.fieldLink RX0 15 "PaintSequencer$Lane" "size" "I") (by decide +kernel)
  have k_9 := hts (.fieldLink RX0 9 "PaintSequencer$Lane" "row" "[I") (by decide +kernel)
  have lp : ∀ (n : Nat) (q : Int), 1 ≤ q → q ≤ S.2 0 i → S.2 0 i - q < n → AW p l e (headSpec wsX0_takeHead ({ frames := 1, cells := 0, slots := 0, locals := 21 } : Room)).room s m args below meth c 3 G A s.heap 0 0 (MQ below (QPi G (fun r u => r = atS S i 0 ∧ u = WX G.2 ad (takeS S i) P) A) args s 0 0 A) (WX G.2 ad (ur S (10 + i.toNat) (shf (S.2 (10 + i.toNat)) q)) P) [(0, .ref (ad (2 + i.toNat))), (1, .int (zI (atS S i 0))), (2, .int (zI q))] 8 [] := by
    intro n
    induction n with
    | zero =>
      intro q h1 h2 h3
      exfalso
      omega
    | succ n ih =>
      intro q h1 h2 h3
      have e1 : (ur S (10 + i.toNat) (shf (S.2 (10 + i.toNat)) q)).2 0 i = S.2 0 i := by rw [ur_n _ _ _ (by omega)]
      refine aw_iload_n C dX0_takeHead_8 rfl ?_
      refine aw_aload_n C dX0_takeHead_9 rfl ?_
      refine aw_get  (k := 1) C iFX0 k_15 (wx_lane (by omega) (by omega)) rfl rfl rfl dX0_takeHead_10 ?_
      refine aw_icmp_ge (tgt := 36) C dX0_takeHead_13 (by decide) (by omega) (by omega) (fun c13 => ?_) (fun c13 => ?_)
      · refine aw_aload_n C dX0_takeHead_36 rfl ?_
        refine aw_aload_n C dX0_takeHead_37 rfl ?_
        refine aw_get  (k := 1) C iFX0 k_15 (wx_lane (by omega) (by omega)) rfl rfl rfl dX0_takeHead_38 ?_
        refine aw_if_le (tgt := 53) C dX0_takeHead_41 (by decide) (by omega) (fun c41 => ?_) (fun c41 => ?_)
        · exfalso
          omega
        · refine aw_aload_n C dX0_takeHead_44 rfl ?_
          refine aw_get  (k := 1) C iFX0 k_15 (wx_lane (by omega) (by omega)) rfl rfl rfl dX0_takeHead_45 ?_
          refine aw_iconst C dX0_takeHead_48 ?_
          refine aw_isub C dX0_takeHead_49 ?_
          refine aw_goto (tgt := 54) C dX0_takeHead_50 (by decide) ?_
          refine aw_put  (k := 1) C iFX0 tyX0_ok nmX0 k_15 (wx_lane (by omega) (by omega)) rfl rfl rfl rfl rfl (wx_lane_set (by omega) (by omega)) dX0_takeHead_54 ?_
          refine aw_iload_n C dX0_takeHead_57 rfl ?_
          exact aw_iret C dX0_takeHead_58 ⟨rfl, by
            have e3 : q = S.2 0 i := by omega
            subst e3
            unfold takeS
            rw [e1]⟩
      · refine aw_aload_n C dX0_takeHead_16 rfl ?_
        refine aw_get  (k := 0) C iFX0 k_9 (wx_lane (by omega) (by omega)) rfl rfl rfl dX0_takeHead_17 ?_
        refine aw_iload_n C dX0_takeHead_20 rfl ?_
        refine aw_iconst C dX0_takeHead_21 ?_
        refine aw_isub C dX0_takeHead_22 ?_
        refine aw_aload_n C dX0_takeHead_23 rfl ?_
        refine aw_get  (k := 0) C iFX0 k_9 (wx_lane (by omega) (by omega)) rfl rfl rfl dX0_takeHead_24 ?_
        refine aw_iload_n C dX0_takeHead_27 rfl ?_
        refine aw_ldI  C (wx_row (by omega) (by omega)) (by omega) (by omega) rfl dX0_takeHead_28 ?_
        refine aw_stI  C (wx_row (by omega) (by omega)) (by omega) (by omega) rfl (wx_row_set (by omega) (by omega)) dX0_takeHead_29 ?_
        refine aw_iinc C dX0_takeHead_30 rfl rfl rfl ?_
        refine aw_goto (tgt := 8) C dX0_takeHead_33 (by decide) ?_
        have e2 := ua_ur S (10 + i.toNat) (shf (S.2 (10 + i.toNat)) q) (shf (S.2 (10 + i.toNat)) (q + 1)) (q - 1) ((ur S (10 + i.toNat) (shf (S.2 (10 + i.toNat)) q)).2 (10 + i.toNat) q) (fun j => by rw [ur_s]; exact shf_step _ q h1 j)
        rw [e2]
        exact ih (q + 1) (by omega) (by omega) (by omega)
  refine aw_aload_n C dX0_takeHead_0 rfl ?_
  refine aw_iconst C dX0_takeHead_1 ?_
  refine cV1i (ci := 0)  C hN (c_X0_at h0 h5 (by omega) (by omega)) (cwV 1 hts gX0_takeHead_X0_at rfl rfl rfl (by decide +kernel) ⟨Nat.le_of_ble_eq_true rfl, Nat.le_of_ble_eq_true rfl⟩) rfl rfl (wx_lane (by omega) (by omega)) rfl dX0_takeHead_2 ⟨Nat.zero_le _, Nat.zero_le _⟩ (fun r2 u2 q2 => ?_)
  obtain ⟨rfl, rfl⟩ := q2
  refine aw_istore_n C dX0_takeHead_5 rfl rfl ?_
  refine aw_iconst C dX0_takeHead_6 ?_
  refine aw_istore_n C dX0_takeHead_7 rfl rfl ?_
  have h1 := lp 7 1 (by omega) (by omega) (by omega)
  rw [shf_1, ur_self] at h1
  exact h1

