/-! PURE WORDS of the class -/
/-- the first k < n with p, -1 if there is none -/
def fstB (p : Int → Bool) : Nat → Int
  | 0 => -1
  | n + 1 => if fstB p n = -1 then (if p n = true then (n : Int) else -1) else fstB p n
theorem fstB_no {p : Int → Bool} : ∀ {n : Nat}, fstB p n = -1 → p n = false → fstB p (n + 1) = -1 := fun h h2 => by unfold fstB; rw [if_pos h, if_neg (by rw [h2]; decide)]
theorem fstB_yes {p : Int → Bool} {n : Nat} (h : fstB p n = -1) (h2 : p n = true) : fstB p (n + 1) = n := by unfold fstB; rw [if_pos h, if_pos h2]
theorem fstB_stay {p : Int → Bool} {n : Nat} (h : ¬ fstB p n = -1) : ∀ {k : Nat}, n ≤ k → fstB p k = fstB p n
  | 0, hk => by have : n = 0 := by omega
                rw [this]
  | k + 1, hk => by
    rcases Nat.lt_or_ge n (k + 1) with q | q
    · have e := fstB_stay (p := p) h (show n ≤ k by omega)
      show (if fstB p k = -1 then (if p k = true then (k : Int) else -1) else fstB p k) = fstB p n
      rw [if_neg (by rw [e]; exact h), e]
    · have : n = k + 1 := by omega
      rw [this]
theorem fstB_at {p : Int → Bool} {n m : Nat} (h : fstB p n = -1) (h2 : p n = true) (hm : n < m) : fstB p m = n := by
  have e := fstB_yes h h2
  rw [fstB_stay (n := n + 1) (by rw [e]; omega) (by omega), e]
theorem fstB_b (p : Int → Bool) : ∀ n : Nat, -1 ≤ fstB p n ∧ fstB p n < n
  | 0 => ⟨Int.le_refl _, by show (-1 : Int) < 0; decide⟩
  | n + 1 => by
    have := fstB_b p n
    unfold fstB
    split
    · split <;> omega
    · omega
theorem fstB_ok {p : Int → Bool} : ∀ {n : Nat}, ¬ fstB p n = -1 → p (fstB p n) = true
  | 0, h => absurd rfl h
  | n + 1, h => by
    unfold fstB at h ⊢
    by_cases e : fstB p n = -1
    · rw [if_pos e] at h ⊢
      by_cases e2 : p n = true
      · rw [if_pos e2]; exact e2
      · rw [if_neg e2] at h; exact absurd rfl h
    · rw [if_neg e]
      exact fstB_ok e
theorem fstB_none {p : Int → Bool} : ∀ {n : Nat}, fstB p n = -1 → ∀ k : Int, 0 ≤ k → k < n → p k = false
  | 0, _, k, h0, h1 => by omega
  | n + 1, h, k, h0, h1 => by
    unfold fstB at h
    by_cases e : fstB p n = -1
    · rw [if_pos e] at h
      by_cases e2 : p n = true
      · rw [if_pos e2] at h; omega
      · by_cases e3 : k = n
        · rw [e3]; simpa using e2
        · exact fstB_none e k h0 (by omega)
    · rw [if_neg e] at h
      exact absurd h e
theorem fstB_congr {p q : Int → Bool} : ∀ {n : Nat}, (∀ k : Int, 0 ≤ k → k < n → p k = q k) → fstB p n = fstB q n
  | 0, _ => rfl
  | n + 1, h => by
    unfold fstB
    rw [fstB_congr (n := n) (fun k h0 h1 => h k h0 (by omega)), h n (by omega) (by omega)]
/-- the lane behind -/
def behS (S : St) (i : Int) : Int := if i + 1 < S.1 0 then i + 1 else 0
def emN (S : St) : Nat → Int
  | 0 => -1
  | n + 1 => if S.2 0 n < (if emN S n = -1 then S.1 1 else S.2 0 (emN S n)) then (n : Int) else emN S n
theorem emN_b (S : St) : ∀ n : Nat, -1 ≤ emN S n ∧ emN S n < n
  | 0 => ⟨Int.le_refl _, by show (-1 : Int) < 0; decide⟩
  | n + 1 => by
    have := emN_b S n
    unfold emN
    split <;> omega
def trN (S : St) : Nat → Int → Int
  | 0, _ => -1
  | k + 1, i => if S.2 0 i < S.1 1 then i else trN S k (behS S i)
theorem trN_b (S : St) (hL : 1 ≤ S.1 0) : ∀ (k : Nat) (i : Int), 0 ≤ i → i < S.1 0 → -1 ≤ trN S k i ∧ trN S k i < S.1 0
  | 0, i, _, _ => by unfold trN; omega
  | k + 1, i, h0, h1 => by
    have := trN_b S hL k (behS S i) (by unfold behS; split <;> omega) (by unfold behS; split <;> omega)
    unfold trN
    split <;> omega
def e1S (S : St) (c : Int) : Int := fstB (fun i => decide (S.2 0 i < S.1 1 ∧ colS S (atS S i (S.2 0 i - 1)) = c)) (S.1 0).toNat
/-- the lane into which a body of colour c goes, -1 if none has room -/
def inS (S : St) (c : Int) : Int := if S.1 3 = 1 then (if e1S S c = -1 then emN S (S.1 0).toNat else e1S S c) else if S.1 3 = 2 then (if trN S (S.1 0).toNat (S.1 7) = -1 then emN S (S.1 0).toNat else trN S (S.1 0).toNat (S.1 7)) else emN S (S.1 0).toNat
def putS (S : St) (i b : Int) : St := us (us (ua (addS S i b) 2 b i) 7 (behS S i)) 11 i
def newS (S : St) (c : Int) : St := us (ua S 1 (S.1 5) c) 5 (S.1 5 + 1)
def blN (f : Int → Int) (c : Int) : Nat → Int → Int
  | 0, i => i
  | k + 1, i => if f i = c then blN f c k (i + 1) else i
def blkS (S : St) (i : Int) : Int := blN (fun j => colS S (atS S i j)) (colS S (atS S i 0)) (S.2 0 i).toNat 0
theorem blN_b (f : Int → Int) (c : Int) : ∀ (k : Nat) (i : Int), i ≤ blN f c k i ∧ blN f c k i ≤ i + k
  | 0, i => by unfold blN; omega
  | k + 1, i => by
    have := blN_b f c k (i + 1)
    unfold blN
    split <;> omega
theorem blkS_b {S : St} (hI : Inv S) {i : Int} (h0 : 0 ≤ i) (h5 : i < 5) : 0 ≤ blkS S i ∧ blkS S i ≤ 6 := by
  have h1 := blN_b (fun j => colS S (atS S i j)) (colS S (atS S i 0)) (S.2 0 i).toNat 0
  have h2 := hI.2.1 i h0 h5
  have h3 := hI.1
  unfold blkS
  omega
def lhN (p : Int → Bool) (S : St) : Nat → Int
  | 0 => -1
  | n + 1 => if p n = true ∧ (lhN p S n = -1 ∨ atS S n 0 < atS S (lhN p S n) 0) then (n : Int) else lhN p S n
theorem lhN_b (p : Int → Bool) (S : St) : ∀ n : Nat, -1 ≤ lhN p S n ∧ lhN p S n < n
  | 0 => ⟨Int.le_refl _, by show (-1 : Int) < 0; decide⟩
  | n + 1 => by
    have := lhN_b p S n
    unfold lhN
    split <;> omega
theorem lhN_congr {p q : Int → Bool} {S : St} : ∀ {n : Nat}, (∀ k : Int, 0 ≤ k → k < n → p k = q k) → lhN p S n = lhN q S n
  | 0, _ => rfl
  | n + 1, h => by
    unfold lhN
    rw [lhN_congr (n := n) (fun k h0 h1 => h k h0 (by omega)), h n (by omega) (by omega)]
theorem lhN_ok {p : Int → Bool} {S : St} : ∀ {n : Nat}, ¬ lhN p S n = -1 → p (lhN p S n) = true
  | 0, h => absurd rfl h
  | n + 1, h => by
    unfold lhN at h ⊢
    by_cases e : p n = true ∧ (lhN p S n = -1 ∨ atS S n 0 < atS S (lhN p S n) 0)
    · rw [if_pos e]; exact e.1
    · rw [if_neg e] at h ⊢
      exact lhN_ok h
/-- the heads that fit: there is one, its colour is c (-2: any), its block is no shorter -/
def fitS (S : St) (c sh : Int) : Int → Bool := fun i => decide (¬ atS S i 0 = -1 ∧ (c = -2 ∨ colS S (atS S i 0) = c) ∧ sh ≤ blkS S i)
def mxN (S : St) : Nat → Int
  | 0 => 0
  | n + 1 => if mxN S n < blkS S n then blkS S n else mxN S n
theorem mxN_b {S : St} (hI : Inv S) : ∀ n : Nat, n ≤ 5 → 0 ≤ mxN S n ∧ mxN S n ≤ 6
  | 0, _ => ⟨Int.le_refl 0, by show (0 : Int) ≤ 6; decide⟩
  | n + 1, h => by
    have h1 := mxN_b hI n (by omega)
    have h2 := blkS_b hI (i := n) (by omega) (by omega)
    unfold mxN
    split <;> omega
def alS (S : St) : Int := if S.1 4 = 0 then -1 else lhN (fitS S (S.1 8) 1) S (S.1 0).toNat
/-- the lane whose head is released by the exit rule, -1 if all are empty -/
def outS (S : St) : Int := if alS S = -1 then lhN (fitS S (-2) (if S.1 4 = 2 then mxN S (S.1 0).toNat else 1)) S (S.1 0).toNat else alS S
def chg (a b : Int) : Int := if a = -1 ∨ a = b then 0 else 1
theorem chg_b (a b : Int) : 0 ≤ chg a b ∧ chg a b ≤ 1 := by unfold chg; split <;> omega
/-- the head of lane i released -/
def relS (S : St) (i : Int) : St := us (us (us (ua (takeS S i) 2 (atS S i 0) 10) 9 (S.1 9 + chg (S.1 8) (S.2 1 (atS S i 0)))) 10 (S.1 10 + 1)) 8 (S.2 1 (atS S i 0))
def clN (S : St) : Nat → St
  | 0 => S
  | n + 1 => ua (clN S n) 0 n 0
def fogS (S : St) : St := us (us (us (us (us (us (us (clN S 5) 5 0) 6 0) 7 0) 8 (-1)) 9 0) 10 0) 11 (-1)

set_option maxHeartbeats 4000000 in
set_option maxRecDepth 100000 in
theorem c_X2_isColour {l : Launch} {G : va_G × (Nat → ClassId)} {w0 : va_W} {z : Int} (hz : -2147483648 ≤ z ∧ z < 2147483648) : Mi l G yX2_isColour wsX2_isColour ({ frames := 0, cells := 0, slots := 0, locals := 0 } : Room) [.int (zI z)] w0 (fun r u => r = (if 0 ≤ z ∧ z < 5 then 1 else 0) ∧ u = w0) := by
  refine Mi.of (own := RX2) (cc := cX2_isColour) (maxL := 1) (ret := (some .boolean)) (by decide) rfl rfl rfl ?_
  intro p e s m args below meth c A C hN
  have hts := C.2.2.2.2.1
  refine aw_iload_n C dX2_isColour_0 rfl ?_
  refine aw_if_lt (tgt := 13) C dX2_isColour_1 (by decide) (by omega) (fun c1 => ?_) (fun c1 => ?_)
  · refine aw_iconst C dX2_isColour_13 ?_
    exact aw_zret C dX2_isColour_14 rfl ⟨by first | rw [if_pos (by omega)] | rw [if_neg (by omega)], rfl⟩
  · refine aw_iload_n C dX2_isColour_4 rfl ?_
    refine aw_iconst C dX2_isColour_5 ?_
    refine aw_icmp_ge (tgt := 13) C dX2_isColour_6 (by decide) (by omega) (by omega) (fun c6 => ?_) (fun c6 => ?_)
    · refine aw_iconst C dX2_isColour_13 ?_
      exact aw_zret C dX2_isColour_14 rfl ⟨by first | rw [if_pos (by omega)] | rw [if_neg (by omega)], rfl⟩
    · refine aw_iconst C dX2_isColour_9 ?_
      refine aw_goto (tgt := 14) C dX2_isColour_10 (by decide) ?_
      exact aw_zret C dX2_isColour_14 rfl ⟨by first | rw [if_pos (by omega)] | rw [if_neg (by omega)], rfl⟩
set_option maxHeartbeats 4000000 in
set_option maxRecDepth 100000 in
theorem c_X2_changeBetween {l : Launch} {G : va_G × (Nat → ClassId)} {w0 : va_W} {a b : Int} (ha : -2147483648 ≤ a ∧ a < 2147483648) (hb : -2147483648 ≤ b ∧ b < 2147483648) : Mi l G yX2_changeBetween wsX2_changeBetween ({ frames := 0, cells := 0, slots := 0, locals := 0 } : Room) [.int (zI a), .int (zI b)] w0 (fun r u => r = chg a b ∧ u = w0) := by
  refine Mi.of (own := RX2) (cc := cX2_changeBetween) (maxL := 2) (ret := (some .int)) (by decide) rfl rfl rfl ?_
  intro p e s m args below meth c A C hN
  have hts := C.2.2.2.2.1
  refine aw_iload_n C dX2_changeBetween_0 rfl ?_
  refine aw_iconst C dX2_changeBetween_1 ?_
  refine aw_icmp_eq (tgt := 10) C dX2_changeBetween_2 (by decide) (by omega) (by omega) (fun c2 => ?_) (fun c2 => ?_)
  · refine aw_iconst C dX2_changeBetween_10 ?_
    refine aw_goto (tgt := 15) C dX2_changeBetween_11 (by decide) ?_
    exact aw_iret C dX2_changeBetween_15 ⟨by unfold chg; first | rw [if_pos (by omega)] | rw [if_neg (by omega)], rfl⟩
  · refine aw_iload_n C dX2_changeBetween_5 rfl ?_
    refine aw_iload_n C dX2_changeBetween_6 rfl ?_
    refine aw_icmp_ne (tgt := 14) C dX2_changeBetween_7 (by decide) (by omega) (by omega) (fun c7 => ?_) (fun c7 => ?_)
    · refine aw_iconst C dX2_changeBetween_14 ?_
      exact aw_iret C dX2_changeBetween_15 ⟨by unfold chg; first | rw [if_pos (by omega)] | rw [if_neg (by omega)], rfl⟩
    · refine aw_iconst C dX2_changeBetween_10 ?_
      refine aw_goto (tgt := 15) C dX2_changeBetween_11 (by decide) ?_
      exact aw_iret C dX2_changeBetween_15 ⟨by unfold chg; first | rw [if_pos (by omega)] | rw [if_neg (by omega)], rfl⟩
set_option maxHeartbeats 4000000 in
set_option maxRecDepth 100000 in
theorem c_X2_isLane {l : Launch} {G : va_G × (Nat → ClassId)} {ad : Nat → Nat} {S P : St} (hL : 1 ≤ S.1 0 ∧ S.1 0 ≤ 5) {z : Int} (hz9 : -2147483648 ≤ z ∧ z < 2147483648) : Mi l G yX2_isLane wsX2_isLane ({ frames := 0, cells := 0, slots := 0, locals := 0 } : Room) [.ref (ad 0), .int (zI z)] (WX G.2 ad S P) (fun r u => r = (if 0 ≤ z ∧ z < S.1 0 then 1 else 0) ∧ u = (WX G.2 ad S P)) := by
  refine Mi.of (own := RX2) (cc := cX2_isLane) (maxL := 2) (ret := (some .boolean)) (by decide) rfl rfl rfl ?_
  intro p e s m args below meth c A C hN
  have hts := C.2.2.2.2.1
  have iFX2 : ∀ w ∈ u_ws RX2 TX2 17, w ∈ wsX2_isLane := by decide +kernel
  have k_36 := hts (.fieldLink RX2 36 "PaintSequencer" "laneCount" "I") (by decide +kernel)
  refine aw_iload_n C dX2_isLane_0 rfl ?_
  refine aw_if_lt (tgt := 16) C dX2_isLane_1 (by decide) (by omega) (fun c1 => ?_) (fun c1 => ?_)
  · refine aw_iconst C dX2_isLane_16 ?_
    exact aw_zret C dX2_isLane_17 rfl ⟨by first | rw [if_pos (by omega)] | rw [if_neg (by omega)], rfl⟩
  · refine aw_iload_n C dX2_isLane_4 rfl ?_
    refine aw_aload_n C dX2_isLane_5 rfl ?_
    refine aw_get (q0 := 0) (k := 6) C iFX2 k_36 rfl rfl rfl rfl dX2_isLane_6 ?_
    refine aw_icmp_ge (tgt := 16) C dX2_isLane_9 (by decide) (by omega) (by omega) (fun c9 => ?_) (fun c9 => ?_)
    · refine aw_iconst C dX2_isLane_16 ?_
      exact aw_zret C dX2_isLane_17 rfl ⟨by first | rw [if_pos (by omega)] | rw [if_neg (by omega)], rfl⟩
    · refine aw_iconst C dX2_isLane_12 ?_
      refine aw_goto (tgt := 17) C dX2_isLane_13 (by decide) ?_
      exact aw_zret C dX2_isLane_17 rfl ⟨by first | rw [if_pos (by omega)] | rw [if_neg (by omega)], rfl⟩
set_option maxHeartbeats 4000000 in
set_option maxRecDepth 100000 in
theorem c_X2_isBody {l : Launch} {G : va_G × (Nat → ClassId)} {ad : Nat → Nat} {S P : St} (hB : 0 ≤ S.1 5 ∧ S.1 5 ≤ 99) {z : Int} (hz9 : -2147483648 ≤ z ∧ z < 2147483648) : Mi l G yX2_isBody wsX2_isBody ({ frames := 0, cells := 0, slots := 0, locals := 0 } : Room) [.ref (ad 0), .int (zI z)] (WX G.2 ad S P) (fun r u => r = (if 0 ≤ z ∧ z < S.1 5 then 1 else 0) ∧ u = (WX G.2 ad S P)) := by
  refine Mi.of (own := RX2) (cc := cX2_isBody) (maxL := 2) (ret := (some .boolean)) (by decide) rfl rfl rfl ?_
  intro p e s m args below meth c A C hN
  have hts := C.2.2.2.2.1
  have iFX2 : ∀ w ∈ u_ws RX2 TX2 17, w ∈ wsX2_isBody := by decide +kernel
  have k_60 := hts (.fieldLink RX2 60 "PaintSequencer" "bodies" "I") (by decide +kernel)
  refine aw_iload_n C dX2_isBody_0 rfl ?_
  refine aw_if_lt (tgt := 16) C dX2_isBody_1 (by decide) (by omega) (fun c1 => ?_) (fun c1 => ?_)
  · refine aw_iconst C dX2_isBody_16 ?_
    exact aw_zret C dX2_isBody_17 rfl ⟨by first | rw [if_pos (by omega)] | rw [if_neg (by omega)], rfl⟩
  · refine aw_iload_n C dX2_isBody_4 rfl ?_
    refine aw_aload_n C dX2_isBody_5 rfl ?_
    refine aw_get (q0 := 0) (k := 11) C iFX2 k_60 rfl rfl rfl rfl dX2_isBody_6 ?_
    refine aw_icmp_ge (tgt := 16) C dX2_isBody_9 (by decide) (by omega) (by omega) (fun c9 => ?_) (fun c9 => ?_)
    · refine aw_iconst C dX2_isBody_16 ?_
      exact aw_zret C dX2_isBody_17 rfl ⟨by first | rw [if_pos (by omega)] | rw [if_neg (by omega)], rfl⟩
    · refine aw_iconst C dX2_isBody_12 ?_
      refine aw_goto (tgt := 17) C dX2_isBody_13 (by decide) ?_
      exact aw_zret C dX2_isBody_17 rfl ⟨by first | rw [if_pos (by omega)] | rw [if_neg (by omega)], rfl⟩
set_option maxHeartbeats 4000000 in
set_option maxRecDepth 100000 in
theorem c_X2_hasRoom {l : Launch} {G : va_G × (Nat → ClassId)} {ad : Nat → Nat} {S P : St} {i : Int} (h0 : 0 ≤ i) (h5 : i < 5) (hs : 0 ≤ S.2 0 i ∧ S.2 0 i ≤ 6) (hD : 1 ≤ S.1 1 ∧ S.1 1 ≤ 6) : Mi l G yX2_hasRoom wsX2_hasRoom ({ frames := 1, cells := 0, slots := 0, locals := 20 } : Room) [.ref (ad 0), .int (zI i)] (WX G.2 ad S P) (fun r u => r = (if S.2 0 i < S.1 1 then 1 else 0) ∧ u = (WX G.2 ad S P)) := by
  refine Mi.of (own := RX2) (cc := cX2_hasRoom) (maxL := 2) (ret := (some .boolean)) (by decide) rfl rfl rfl ?_
  intro p e s m args below meth c A C hN
  have hts := C.2.2.2.2.1
  have iFX2 : ∀ w ∈ u_ws RX2 TX2 17, w ∈ wsX2_hasRoom := by decide +kernel
  have k_11 := hts (.fieldLink RX2 11 "PaintSequencer" "lanes" "[LPaintSequencer$Lane;") (by decide +kernel)
  have k_40 := hts (.fieldLink RX2 40 "PaintSequencer" "depth" "I") (by decide +kernel)
  refine aw_aload_n C dX2_hasRoom_0 rfl ?_
  refine aw_get (q0 := 0) (k := 0) C iFX2 k_11 rfl rfl rfl rfl dX2_hasRoom_1 ?_
  refine aw_iload_n C dX2_hasRoom_4 rfl ?_
  refine aw_aldL (q0 := 1) C rfl (by omega) (by omega) rfl rfl dX2_hasRoom_5 ?_
  refine cV0i (ci := 0)  C hN (c_X0_count h0 h5) (cwV 0 hts gX2_hasRoom_X0_count rfl rfl rfl (by decide +kernel) ⟨Nat.le_of_ble_eq_true rfl, Nat.le_of_ble_eq_true rfl⟩) rfl rfl (wx_lane (by omega) (by omega)) rfl dX2_hasRoom_6 ⟨Nat.zero_le _, Nat.zero_le _⟩ (fun r6 u6 q6 => ?_)
  obtain ⟨rfl, rfl⟩ := q6
  refine aw_aload_n C dX2_hasRoom_9 rfl ?_
  refine aw_get (q0 := 0) (k := 7) C iFX2 k_40 rfl rfl rfl rfl dX2_hasRoom_10 ?_
  refine aw_icmp_ge (tgt := 20) C dX2_hasRoom_13 (by decide) (by omega) (by omega) (fun c13 => ?_) (fun c13 => ?_)
  · refine aw_iconst C dX2_hasRoom_20 ?_
    exact aw_zret C dX2_hasRoom_21 rfl ⟨by first | rw [if_pos (by omega)] | rw [if_neg (by omega)], rfl⟩
  · refine aw_iconst C dX2_hasRoom_16 ?_
    refine aw_goto (tgt := 21) C dX2_hasRoom_17 (by decide) ?_
    exact aw_zret C dX2_hasRoom_21 rfl ⟨by first | rw [if_pos (by omega)] | rw [if_neg (by omega)], rfl⟩
set_option maxHeartbeats 4000000 in
set_option maxRecDepth 100000 in
theorem c_X2_laneBehind {l : Launch} {G : va_G × (Nat → ClassId)} {ad : Nat → Nat} {S P : St} (hL : 1 ≤ S.1 0 ∧ S.1 0 ≤ 5) {i : Int} (h0 : 0 ≤ i) (h5 : i < 5) : Mi l G yX2_laneBehind wsX2_laneBehind ({ frames := 0, cells := 0, slots := 0, locals := 0 } : Room) [.ref (ad 0), .int (zI i)] (WX G.2 ad S P) (fun r u => r = behS S i ∧ u = (WX G.2 ad S P)) := by
  refine Mi.of (own := RX2) (cc := cX2_laneBehind) (maxL := 2) (ret := (some .int)) (by decide) rfl rfl rfl ?_
  intro p e s m args below meth c A C hN
  have hts := C.2.2.2.2.1
  have iFX2 : ∀ w ∈ u_ws RX2 TX2 17, w ∈ wsX2_laneBehind := by decide +kernel
  have k_36 := hts (.fieldLink RX2 36 "PaintSequencer" "laneCount" "I") (by decide +kernel)
  refine aw_iload_n C dX2_laneBehind_0 rfl ?_
  refine aw_iconst C dX2_laneBehind_1 ?_
  refine aw_iadd C dX2_laneBehind_2 ?_
  refine aw_aload_n C dX2_laneBehind_3 rfl ?_
  refine aw_get (q0 := 0) (k := 6) C iFX2 k_36 rfl rfl rfl rfl dX2_laneBehind_4 ?_
  refine aw_icmp_ge (tgt := 16) C dX2_laneBehind_7 (by decide) (by omega) (by omega) (fun c7 => ?_) (fun c7 => ?_)
  · refine aw_iconst C dX2_laneBehind_16 ?_
    exact aw_iret C dX2_laneBehind_17 ⟨by unfold behS; first | rw [if_pos (by omega)] | rw [if_neg (by omega)], rfl⟩
  · refine aw_iload_n C dX2_laneBehind_10 rfl ?_
    refine aw_iconst C dX2_laneBehind_11 ?_
    refine aw_iadd C dX2_laneBehind_12 ?_
    refine aw_goto (tgt := 17) C dX2_laneBehind_13 (by decide) ?_
    exact aw_iret C dX2_laneBehind_17 ⟨by unfold behS; first | rw [if_pos (by omega)] | rw [if_neg (by omega)], rfl⟩
set_option maxHeartbeats 4000000 in
set_option maxRecDepth 100000 in
theorem c_X2_countAt {l : Launch} {G : va_G × (Nat → ClassId)} {ad : Nat → Nat} {S P : St} (hB : 0 ≤ S.1 5 ∧ S.1 5 ≤ 99) (hp : ∀ b : Int, 0 ≤ b → b < S.1 5 → 0 ≤ S.2 2 b ∧ S.2 2 b ≤ 12) {z : Int} (hz9 : -2147483648 ≤ z ∧ z < 2147483648) : Mi l G yX2_countAt wsX2_countAt ({ frames := 0, cells := 0, slots := 0, locals := 0 } : Room) [.ref (ad 0), .int (zI z)] (WX G.2 ad S P) (fun r u => r = cntN (S.2 2) z (S.1 5).toNat ∧ u = (WX G.2 ad S P)) := by
  refine Mi.of (own := RX2) (cc := cX2_countAt) (maxL := 4) (ret := (some .int)) (by decide) rfl rfl rfl ?_
  intro p e s m args below meth c A C hN
  have hts := C.2.2.2.2.1
  have iFX2 : ∀ w ∈ u_ws RX2 TX2 17, w ∈ wsX2_countAt := by decide +kernel
  have k_60 := hts (.fieldLink RX2 60 "PaintSequencer" "bodies" "I") (by decide +kernel)
  have k_20 := hts (.fieldLink RX2 20 "PaintSequencer" "places" "[I") (by decide +kernel)
  have lp : ∀ (n : Nat) (k : Nat), (k : Int) ≤ S.1 5 → S.1 5 - k < n → AW p l e (headSpec wsX2_countAt ({ frames := 0, cells := 0, slots := 0, locals := 0 } : Room)).room s m args below meth c 4 G A s.heap 0 0 (MQ below (QPi G (fun r u => r = cntN (S.2 2) z (S.1 5).toNat ∧ u = (WX G.2 ad S P)) A) args s 0 0 A) (WX G.2 ad S P) [(0, .ref (ad 0)), (1, .int (zI z)), (2, .int (zI (cntN (S.2 2) z k))), (3, .int (zI k))] 4 [] := by
    intro n
    induction n with
    | zero =>
      intro k h1 h2
      exfalso
      omega
    | succ n ih =>
      intro k h1 h2
      refine aw_iload_n C dX2_countAt_4 rfl ?_
      refine aw_aload_n C dX2_countAt_5 rfl ?_
      refine aw_get (q0 := 0) (k := 11) C iFX2 k_60 rfl rfl rfl rfl dX2_countAt_6 ?_
      refine aw_icmp_ge (tgt := 31) C dX2_countAt_9 (by decide) (by omega) (by omega) (fun c9 => ?_) (fun c9 => ?_)
      · refine aw_iload_n C dX2_countAt_31 rfl ?_
        exact aw_iret C dX2_countAt_32 ⟨by rw [show (S.1 5).toNat = k by omega], rfl⟩
      · refine aw_aload_n C dX2_countAt_12 rfl ?_
        refine aw_get (q0 := 0) (k := 2) C iFX2 k_20 rfl rfl rfl rfl dX2_countAt_13 ?_
        refine aw_iload_n C dX2_countAt_16 rfl ?_
        have h7 := hp k (by omega) (by omega)
        refine aw_ldI (q0 := 13) C rfl (by omega) (by omega) rfl dX2_countAt_17 ?_
        refine aw_iload_n C dX2_countAt_18 rfl ?_
        refine aw_icmp_ne (tgt := 25) C dX2_countAt_19 (by decide) (by omega) (by omega) (fun c19 => ?_) (fun c19 => ?_)
        · refine aw_iinc C dX2_countAt_25 rfl rfl rfl ?_
          refine aw_goto (tgt := 4) C dX2_countAt_28 (by decide) ?_
          first
          | (have e4 : cntN (S.2 2) z (k + 1) = cntN (S.2 2) z k + 1 := if_pos c19
             have h4 := ih (k + 1) (by omega) (by omega)
             rw [e4] at h4
             exact h4)
          | (have e4 : cntN (S.2 2) z (k + 1) = cntN (S.2 2) z k := if_neg c19
             have h4 := ih (k + 1) (by omega) (by omega)
             rw [e4] at h4
             exact h4)
        · refine aw_iinc C dX2_countAt_22 rfl rfl rfl ?_
          refine aw_iinc C dX2_countAt_25 rfl rfl rfl ?_
          refine aw_goto (tgt := 4) C dX2_countAt_28 (by decide) ?_
          first
          | (have e4 : cntN (S.2 2) z (k + 1) = cntN (S.2 2) z k + 1 := if_pos c19
             have h4 := ih (k + 1) (by omega) (by omega)
             rw [e4] at h4
             exact h4)
          | (have e4 : cntN (S.2 2) z (k + 1) = cntN (S.2 2) z k := if_neg c19
             have h4 := ih (k + 1) (by omega) (by omega)
             rw [e4] at h4
             exact h4)
  refine aw_iconst C dX2_countAt_0 ?_
  refine aw_istore_n C dX2_countAt_1 rfl rfl ?_
  refine aw_iconst C dX2_countAt_2 ?_
  refine aw_istore_n C dX2_countAt_3 rfl rfl ?_
  exact lp 100 0 (by omega) (by omega)
set_option maxHeartbeats 4000000 in
set_option maxRecDepth 100000 in
theorem c_X2_storeIsFull {l : Launch} {G : va_G × (Nat → ClassId)} {ad : Nat → Nat} {S P : St} (hI : Inv S) : Mi l G yX2_storeIsFull wsX2_storeIsFull ({ frames := 1, cells := 0, slots := 0, locals := 23 } : Room) [.ref (ad 0)] (WX G.2 ad S P) (fun r u => r = (if S.1 2 ≤ cntN (S.2 2) 10 (S.1 5).toNat then 1 else 0) ∧ u = (WX G.2 ad S P)) := by
  refine Mi.of (own := RX2) (cc := cX2_storeIsFull) (maxL := 1) (ret := (some .boolean)) (by decide) rfl rfl rfl ?_
  intro p e s m args below meth c A C hN
  have hts := C.2.2.2.2.1
  have iFX2 : ∀ w ∈ u_ws RX2 TX2 17, w ∈ wsX2_storeIsFull := by decide +kernel
  have k_43 := hts (.fieldLink RX2 43 "PaintSequencer" "storeRoom" "I") (by decide +kernel)
  obtain ⟨hn, hz, hr, hc, hp, ha, hq, ht⟩ := id hI
  have h9 := cntN_b (S.2 2) 10 (S.1 5).toNat
  refine aw_aload_n C dX2_storeIsFull_0 rfl ?_
  refine aw_bipush C dX2_storeIsFull_1 rfl ?_
  refine cV1i (ci := 2) (q0 := 0) C hN (c_X2_countAt (by omega) hp (by omega)) (cwV 1 hts gX2_storeIsFull_X2_countAt rfl rfl rfl (by decide +kernel) ⟨Nat.le_of_ble_eq_true rfl, Nat.le_of_ble_eq_true rfl⟩) rfl rfl rfl rfl dX2_storeIsFull_3 ⟨Nat.zero_le _, Nat.zero_le _⟩ (fun r3 u3 q3 => ?_)
  obtain ⟨rfl, rfl⟩ := q3
  refine aw_aload_n C dX2_storeIsFull_6 rfl ?_
  refine aw_get (q0 := 0) (k := 8) C iFX2 k_43 rfl rfl rfl rfl dX2_storeIsFull_7 ?_
  refine aw_icmp_lt (tgt := 17) C dX2_storeIsFull_10 (by decide) (by omega) (by omega) (fun c10 => ?_) (fun c10 => ?_)
  · refine aw_iconst C dX2_storeIsFull_17 ?_
    exact aw_zret C dX2_storeIsFull_18 rfl ⟨by first | rw [if_pos (by omega)] | rw [if_neg (by omega)], rfl⟩
  · refine aw_iconst C dX2_storeIsFull_13 ?_
    refine aw_goto (tgt := 18) C dX2_storeIsFull_14 (by decide) ?_
    exact aw_zret C dX2_storeIsFull_18 rfl ⟨by first | rw [if_pos (by omega)] | rw [if_neg (by omega)], rfl⟩
set_option maxHeartbeats 4000000 in
set_option maxRecDepth 100000 in
theorem c_X2_countInLanes {l : Launch} {G : va_G × (Nat → ClassId)} {ad : Nat → Nat} {S P : St} (hI : Inv S) : Mi l G yX2_countInLanes wsX2_countInLanes ({ frames := 1, cells := 0, slots := 0, locals := 20 } : Room) [.ref (ad 0)] (WX G.2 ad S P) (fun r u => r = sumN (S.2 0) (S.1 0).toNat ∧ u = (WX G.2 ad S P)) := by
  refine Mi.of (own := RX2) (cc := cX2_countInLanes) (maxL := 3) (ret := (some .int)) (by decide) rfl rfl rfl ?_
  intro p e s m args below meth c A C hN
  have hts := C.2.2.2.2.1
  have iFX2 : ∀ w ∈ u_ws RX2 TX2 17, w ∈ wsX2_countInLanes := by decide +kernel
  have k_36 := hts (.fieldLink RX2 36 "PaintSequencer" "laneCount" "I") (by decide +kernel)
  have k_11 := hts (.fieldLink RX2 11 "PaintSequencer" "lanes" "[LPaintSequencer$Lane;") (by decide +kernel)
  obtain ⟨hn, hz, hr, hc, hp, ha, hq, ht⟩ := id hI
  have lp : ∀ (n : Nat) (k : Nat), (k : Int) ≤ S.1 0 → S.1 0 - k < n → AW p l e (headSpec wsX2_countInLanes ({ frames := 1, cells := 0, slots := 0, locals := 20 } : Room)).room s m args below meth c 3 G A s.heap 0 0 (MQ below (QPi G (fun r u => r = sumN (S.2 0) (S.1 0).toNat ∧ u = (WX G.2 ad S P)) A) args s 0 0 A) (WX G.2 ad S P) [(0, .ref (ad 0)), (1, .int (zI (sumN (S.2 0) k))), (2, .int (zI k))] 4 [] := by
    intro n
    induction n with
    | zero =>
      intro k h1 h2
      exfalso
      omega
    | succ n ih =>
      intro k h1 h2
      refine aw_iload_n C dX2_countInLanes_4 rfl ?_
      refine aw_aload_n C dX2_countInLanes_5 rfl ?_
      refine aw_get (q0 := 0) (k := 6) C iFX2 k_36 rfl rfl rfl rfl dX2_countInLanes_6 ?_
      refine aw_icmp_ge (tgt := 30) C dX2_countInLanes_9 (by decide) (by omega) (by omega) (fun c9 => ?_) (fun c9 => ?_)
      · refine aw_iload_n C dX2_countInLanes_30 rfl ?_
        exact aw_iret C dX2_countInLanes_31 ⟨by rw [show (S.1 0).toNat = k by omega], rfl⟩
      · refine aw_iload_n C dX2_countInLanes_12 rfl ?_
        refine aw_aload_n C dX2_countInLanes_13 rfl ?_
        refine aw_get (q0 := 0) (k := 0) C iFX2 k_11 rfl rfl rfl rfl dX2_countInLanes_14 ?_
        refine aw_iload_n C dX2_countInLanes_17 rfl ?_
        refine aw_aldL (q0 := 1) C rfl (by omega) (by omega) rfl rfl dX2_countInLanes_18 ?_
        refine cV0i (ci := 0)  C hN (c_X0_count (by omega) (by omega)) (cwV 0 hts gX2_countInLanes_X0_count rfl rfl rfl (by decide +kernel) ⟨Nat.le_of_ble_eq_true rfl, Nat.le_of_ble_eq_true rfl⟩) rfl rfl (wx_lane (by omega) (by omega)) rfl dX2_countInLanes_19 ⟨Nat.zero_le _, Nat.zero_le _⟩ (fun r19 u19 q19 => ?_)
        obtain ⟨rfl, rfl⟩ := q19
        refine aw_iadd C dX2_countInLanes_22 ?_
        refine aw_istore_n C dX2_countInLanes_23 rfl rfl ?_
        refine aw_iinc C dX2_countInLanes_24 rfl rfl rfl ?_
        refine aw_goto (tgt := 4) C dX2_countInLanes_27 (by decide) ?_
        exact ih (k + 1) (by omega) (by omega)
  refine aw_iconst C dX2_countInLanes_0 ?_
  refine aw_istore_n C dX2_countInLanes_1 rfl rfl ?_
  refine aw_iconst C dX2_countInLanes_2 ?_
  refine aw_istore_n C dX2_countInLanes_3 rfl rfl ?_
  exact lp 6 0 (by omega) (by omega)
set_option maxHeartbeats 4000000 in
set_option maxRecDepth 100000 in
theorem c_X2_lowestInStore {l : Launch} {G : va_G × (Nat → ClassId)} {ad : Nat → Nat} {S P : St} (hI : Inv S) : Mi l G yX2_lowestInStore wsX2_lowestInStore ({ frames := 0, cells := 0, slots := 0, locals := 0 } : Room) [.ref (ad 0)] (WX G.2 ad S P) (fun r u => r = fstB (fun b => decide (S.2 2 b = 10)) (S.1 5).toNat ∧ u = (WX G.2 ad S P)) := by
  refine Mi.of (own := RX2) (cc := cX2_lowestInStore) (maxL := 2) (ret := (some .int)) (by decide) rfl rfl rfl ?_
  intro p e s m args below meth c A C hN
  have hts := C.2.2.2.2.1
  have iFX2 : ∀ w ∈ u_ws RX2 TX2 17, w ∈ wsX2_lowestInStore := by decide +kernel
  have k_60 := hts (.fieldLink RX2 60 "PaintSequencer" "bodies" "I") (by decide +kernel)
  have k_20 := hts (.fieldLink RX2 20 "PaintSequencer" "places" "[I") (by decide +kernel)
  obtain ⟨hn, hz, hr, hc, hp, ha, hq, ht⟩ := id hI
  have lp : ∀ (n : Nat) (k : Nat), (k : Int) ≤ S.1 5 → S.1 5 - k < n → fstB (fun b => decide (S.2 2 b = 10)) k = -1 → AW p l e (headSpec wsX2_lowestInStore ({ frames := 0, cells := 0, slots := 0, locals := 0 } : Room)).room s m args below meth c 2 G A s.heap 0 0 (MQ below (QPi G (fun r u => r = fstB (fun b => decide (S.2 2 b = 10)) (S.1 5).toNat ∧ u = (WX G.2 ad S P)) A) args s 0 0 A) (WX G.2 ad S P) [(0, .ref (ad 0)), (1, .int (zI k))] 2 [] := by
    intro n
    induction n with
    | zero =>
      intro k h1 h2 h3
      exfalso
      omega
    | succ n ih =>
      intro k h1 h2 h3
      refine aw_iload_n C dX2_lowestInStore_2 rfl ?_
      refine aw_aload_n C dX2_lowestInStore_3 rfl ?_
      refine aw_get (q0 := 0) (k := 11) C iFX2 k_60 rfl rfl rfl rfl dX2_lowestInStore_4 ?_
      refine aw_icmp_ge (tgt := 29) C dX2_lowestInStore_7 (by decide) (by omega) (by omega) (fun c7 => ?_) (fun c7 => ?_)
      · refine aw_iconst C dX2_lowestInStore_29 ?_
        exact aw_iret C dX2_lowestInStore_30 ⟨by rw [show (S.1 5).toNat = k by omega, h3], rfl⟩
      · refine aw_aload_n C dX2_lowestInStore_10 rfl ?_
        refine aw_get (q0 := 0) (k := 2) C iFX2 k_20 rfl rfl rfl rfl dX2_lowestInStore_11 ?_
        refine aw_iload_n C dX2_lowestInStore_14 rfl ?_
        refine aw_ldI (q0 := 13) C rfl (by omega) (by omega) rfl dX2_lowestInStore_15 ?_
        have h7 := hp k (by omega) (by omega)
        refine aw_bipush C dX2_lowestInStore_16 rfl ?_
        refine aw_icmp_ne (tgt := 23) C dX2_lowestInStore_18 (by decide) (by omega) (by omega) (fun c18 => ?_) (fun c18 => ?_)
        · refine aw_iinc C dX2_lowestInStore_23 rfl rfl rfl ?_
          refine aw_goto (tgt := 2) C dX2_lowestInStore_26 (by decide) ?_
          exact ih (k + 1) (by omega) (by omega) (fstB_no h3 (decide_eq_false c18))
        · refine aw_iload_n C dX2_lowestInStore_21 rfl ?_
          exact aw_iret C dX2_lowestInStore_22 ⟨(fstB_at h3 (decide_eq_true c18) (by omega)).symm, rfl⟩
  refine aw_iconst C dX2_lowestInStore_0 ?_
  refine aw_istore_n C dX2_lowestInStore_1 rfl rfl ?_
  exact lp 100 0 (by omega) (by omega) rfl
set_option maxHeartbeats 4000000 in
set_option maxRecDepth 100000 in
theorem c_X2_colourOf {l : Launch} {G : va_G × (Nat → ClassId)} {ad : Nat → Nat} {S P : St} (hB : 0 ≤ S.1 5 ∧ S.1 5 ≤ 99) {z : Int} (hz9 : -2147483648 ≤ z ∧ z < 2147483648) : Mi l G yX2_colourOf wsX2_colourOf ({ frames := 1, cells := 0, slots := 0, locals := 21 } : Room) [.ref (ad 0), .int (zI z)] (WX G.2 ad S P) (fun r u => r = colS S z ∧ u = (WX G.2 ad S P)) := by
  refine Mi.of (own := RX2) (cc := cX2_colourOf) (maxL := 2) (ret := (some .int)) (by decide) rfl rfl rfl ?_
  intro p e s m args below meth c A C hN
  have hts := C.2.2.2.2.1
  have iFX2 : ∀ w ∈ u_ws RX2 TX2 17, w ∈ wsX2_colourOf := by decide +kernel
  have k_16 := hts (.fieldLink RX2 16 "PaintSequencer" "colours" "[I") (by decide +kernel)
  refine aw_aload_n C dX2_colourOf_0 rfl ?_
  refine aw_iload_n C dX2_colourOf_1 rfl ?_
  refine cV1i (ci := 2) (q0 := 0) C hN (c_X2_isBody hB hz9) (cwV 1 hts gX2_colourOf_X2_isBody rfl rfl rfl (by decide +kernel) ⟨Nat.le_of_ble_eq_true rfl, Nat.le_of_ble_eq_true rfl⟩) rfl rfl rfl rfl dX2_colourOf_2 ⟨Nat.zero_le _, Nat.zero_le _⟩ (fun r2 u2 q2 => ?_)
  obtain ⟨rfl, rfl⟩ := q2
  refine aw_if_eq (tgt := 17) C dX2_colourOf_5 (by decide) (by split <;> omega) (fun c5 => ?_) (fun c5 => ?_)
  · have c6 : ¬ (0 ≤ z ∧ z < S.1 5) := fun c7 => by rw [if_pos c7] at c5; exact absurd c5 (by decide)
    refine aw_iconst C dX2_colourOf_17 ?_
    exact aw_iret C dX2_colourOf_18 ⟨by unfold colS; first | rw [if_pos c6] | rw [if_neg c6], rfl⟩
  · have c6 : 0 ≤ z ∧ z < S.1 5 := by
      by_cases c7 : 0 ≤ z ∧ z < S.1 5
      · exact c7
      · rw [if_neg c7] at c5; exact absurd rfl c5
    refine aw_aload_n C dX2_colourOf_8 rfl ?_
    refine aw_get (q0 := 0) (k := 1) C iFX2 k_16 rfl rfl rfl rfl dX2_colourOf_9 ?_
    refine aw_iload_n C dX2_colourOf_12 rfl ?_
    refine aw_ldI (q0 := 12) C rfl (by omega) (by omega) rfl dX2_colourOf_13 ?_
    refine aw_goto (tgt := 18) C dX2_colourOf_14 (by decide) ?_
    exact aw_iret C dX2_colourOf_18 ⟨by unfold colS; first | rw [if_pos c6] | rw [if_neg c6], rfl⟩
