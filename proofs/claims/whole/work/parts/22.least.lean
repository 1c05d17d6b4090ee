/-! THE REFERENCE'S TABLE -/
def tdg (sz : Int → Int) (x : Int) : Int → Int := fun i => x / stN sz i.toNat % (sz i + 1)
theorem tdg_v {sz : Int → Int} (hz : ∀ i : Int, 0 ≤ i → i < 5 → 0 ≤ sz i) (x : Int) : vT sz (tdg sz x) := fun i h0 h5 => by
  have h := hz i h0 h5
  have h1 := Int.emod_nonneg (x / stN sz i.toNat) (show sz i + 1 ≠ 0 by omega)
  have h2 := Int.emod_lt_of_pos (x / stN sz i.toNat) (show 0 < sz i + 1 by omega)
  unfold tdg
  omega
theorem dm_two {x a b : Int} (ha : 0 < a) (hb : 0 < b) : x % (a * b) = x % a + x / a % b * a := by
  have h1 := Int.emod_nonneg x (show a ≠ 0 by omega)
  have h2 := Int.emod_lt_of_pos x ha
  have h3 := Int.emod_nonneg (x / a) (show b ≠ 0 by omega)
  have h4 := Int.emod_lt_of_pos (x / a) hb
  have e1 := Int.mul_ediv_add_emod x a
  have e2 := Int.mul_ediv_add_emod (x / a) b
  have e3 : x = x % a + x / a % b * a + (a * b) * (x / a / b) := by
    have e4 : a * (x / a) = a * (b * (x / a / b)) + a * (x / a % b) := by rw [← Int.mul_add, e2]
    have e5 : a * (x / a % b) = x / a % b * a := Int.mul_comm _ _
    have e6 : a * (b * (x / a / b)) = a * b * (x / a / b) := (Int.mul_assoc _ _ _).symm
    omega
  have h5 : 0 ≤ x / a % b * a := Int.mul_nonneg h3 (by omega)
  have h6 : x / a % b * a ≤ (b - 1) * a := Int.mul_le_mul_of_nonneg_right (by omega) (by omega)
  have h7 : (b - 1) * a = a * b - a := by rw [Int.sub_mul, Int.one_mul, Int.mul_comm b a]
  conv => lhs; rw [e3]
  rw [Int.add_mul_emod_self_left, Int.emod_eq_of_lt (by omega) (by omega)]
theorem vl_tdg {sz : Int → Int} (hz : ∀ i : Int, 0 ≤ i → i < 5 → 0 ≤ sz i) (x : Int) : ∀ n : Nat, n ≤ 5 → vlN sz (tdg sz x) n = x % stN sz n
  | 0, _ => by
    show (0 : Int) = x % 1
    omega
  | n + 1, hn => by
    have h1 := stN_pos hz n (by omega)
    have h2 := hz n (by omega) (by omega)
    show vlN sz (tdg sz x) n + tdg sz x n * stN sz n = x % (stN sz n * (sz n + 1))
    rw [vl_tdg hz x n (by omega), dm_two (by omega) (by omega)]
    rfl
theorem vl_at {sz : Int → Int} (hz : ∀ i : Int, 0 ≤ i → i < 5 → 0 ≤ sz i) {x : Int} (h0 : 0 ≤ x) (h1 : x < stN sz 5) : vlN sz (tdg sz x) 5 = x := by
  rw [vl_tdg hz x 5 (by omega), Int.emod_eq_of_lt h0 h1]
theorem stN_ext {sz : Int → Int} {n : Nat} : ∀ m : Nat, n ≤ m → (∀ i : Int, (n : Int) ≤ i → i < m → sz i = 0) → stN sz m = stN sz n
  | 0, hm, _ => by rw [show n = 0 by omega]
  | m + 1, hm, h => by
    by_cases e : n = m + 1
    · rw [e]
    · show stN sz m * (sz m + 1) = stN sz n
      rw [stN_ext m (by omega) (fun i g0 g1 => h i g0 (by omega)), h m (by omega) (by omega)]
      omega
theorem stN_mono {sz : Int → Int} (hz : ∀ i : Int, 0 ≤ i → i < 5 → 0 ≤ sz i) {n : Nat} : ∀ m : Nat, n ≤ m → m ≤ 5 → stN sz n ≤ stN sz m
  | 0, hm, _ => by rw [show n = 0 by omega]; omega
  | m + 1, hm, h5 => by
    by_cases e : n = m + 1
    · rw [e]; omega
    · have h1 := stN_mono hz (n := n) m (by omega) (by omega)
      have h2 := hz m (by omega) (by omega)
      have h3 := stN_pos hz m (by omega)
      have h4 : stN sz m * 1 ≤ stN sz m * (sz m + 1) := Int.mul_le_mul_of_nonneg_left (by omega) (by omega)
      show stN sz n ≤ stN sz m * (sz m + 1)
      omega
theorem mnL_ext {p : Int → Bool} {g : Int → Int} {n : Nat} : ∀ m : Nat, n ≤ m → (∀ i : Int, (n : Int) ≤ i → i < m → p i = false) → mnL p g m = mnL p g n
  | 0, hm, _ => by rw [show n = 0 by omega]
  | m + 1, hm, h => by
    by_cases e : n = m + 1
    · rw [e]
    · rw [mnL_3 (h m (by omega) (by omega))]
      exact mnL_ext m (by omega) (fun i g0 g1 => h i g0 (by omega))
def ci (c : Int) : Int := if c = -1 then 5 else c
def co (c : Int) : Int := if c = 5 then -1 else c
theorem co_ci {c : Int} (h : c ≤ 4) : co (ci c) = c := by unfold co ci; split <;> split <;> omega
def TM (S P9 : St) (x : Int) : Prop := ∀ t : Int → Int, vT (S.2 0) t → x < vlN (S.2 0) t 5 → ∀ c : Int, -1 ≤ c → c ≤ 4 → P9.2 1 (6 * vlN (S.2 0) t 5 + ci c) = mC (S.2 0) (wtS S) (rmT (S.2 0) t).toNat t c
def WG (S P9 : St) : Prop := ∀ j : Int, 0 ≤ j → j ≤ S.1 0 → P9.2 0 j = stN (S.2 0) j.toNat
/-- the entry of the state x and the colour's number c -/
def VC (S : St) (x c : Int) : Int := mC (S.2 0) (wtS S) (rmT (S.2 0) (tdg (S.2 0) x)).toNat (tdg (S.2 0) x) (co c)
def avT (S : St) (x : Int) : Int → Bool := fun i => decide (tdg (S.2 0) x i < S.2 0 i)
def gT (S : St) (x c : Int) : Int → Int := fun i => chg (co c) (wtS S i (tdg (S.2 0) x i)) + mC (S.2 0) (wtS S) (rmT (S.2 0) (tdg (S.2 0) x) - 1).toNat (upT (tdg (S.2 0) x) i) (wtS S i (tdg (S.2 0) x i))
/-- the best so far, over the first k lanes -/
def bsT (S : St) (x c : Int) (k : Nat) : Int := if rmT (S.2 0) (tdg (S.2 0) x) = 0 then 0 else mnL (avT S x) (gT S x c) k
def wgN (S P : St) : Nat → St
  | 0 => ua P 0 0 1
  | n + 1 => ua (wgN S P n) 0 ((n : Int) + 1) (stN (S.2 0) n * (S.2 0 n + 1))
theorem wgN_1 (S P : St) : ∀ n : Nat, (wgN S P n).1 = P.1
  | 0 => rfl
  | n + 1 => wgN_1 S P n
theorem wgN_at (S P : St) : ∀ (n : Nat) (j : Int), 0 ≤ j → j ≤ n → (wgN S P n).2 0 j = stN (S.2 0) j.toNat
  | 0, j, h0, h1 => by
    show (ua P 0 0 1).2 0 j = _
    rw [ua_s, if_pos (by omega), show j.toNat = 0 by omega]
    rfl
  | n + 1, j, h0, h1 => by
    show (ua (wgN S P n) 0 ((n : Int) + 1) (stN (S.2 0) n * (S.2 0 n + 1))).2 0 j = _
    rw [ua_s]
    split
    · rename_i e
      rw [e, show ((n : Int) + 1).toNat = n + 1 by omega]
      rfl
    · exact wgN_at S P n j h0 (by omega)
/-- the sizes, in one place -/
theorem szS {S : St} (hI : Inv S) : (∀ i : Int, 0 ≤ i → i < 5 → 0 ≤ S.2 0 i ∧ S.2 0 i ≤ 6) ∧ (∀ i : Int, 0 ≤ i → i < 5 → 0 ≤ S.2 0 i) ∧ stN (S.2 0) (S.1 0).toNat = stN (S.2 0) 5 := by
  have h := hI.2.1
  have h1 := hI.1
  refine ⟨fun i h0 h5 => by have := h i h0 h5; omega, fun i h0 h5 => (h i h0 h5).1, ?_⟩
  exact (stN_ext 5 (by omega) (fun i g0 g5 => (h i (by omega) (by omega)).2.2 (by omega))).symm
theorem wtS_b {S : St} (hI : Inv S) {i q : Int} (h0 : 0 ≤ i) (h5 : i < 5) (hq : 0 ≤ q) (hq2 : q < S.2 0 i) : (0 ≤ S.2 (10 + i.toNat) q ∧ S.2 (10 + i.toNat) q < S.1 5) ∧ 0 ≤ wtS S i q ∧ wtS S i q ≤ 4 := by
  have h1 := hI.2.2.1 i q h0 h5 hq hq2
  exact ⟨h1, hI.2.2.2.1 _ h1.1 h1.2⟩
theorem rm_top {S : St} (hI : Inv S) {x : Int} (h0 : 0 ≤ x) (h1 : x < stN (S.2 0) 5) : rmT (S.2 0) (tdg (S.2 0) x) = 0 ↔ x = stN (S.2 0) 5 - 1 := by
  obtain ⟨-, hz, -⟩ := szS hI
  have hv := tdg_v hz x
  have e := vl_at hz h0 h1
  have et := vlN_top (sz := S.2 0) 5
  constructor
  · intro h
    have h2 := (rmT_0 hv).2 h
    rw [vlN_congr 5 (u := S.2 0) (fun i g0 g5 => h2 i g0 (by omega)), et] at e
    omega
  · intro h
    have hvs : vT (S.2 0) (S.2 0) := fun i g0 g5 => ⟨hz i g0 g5, Int.le_refl _⟩
    have h2 := vlN_inj hz hv hvs 5 (by omega) (by rw [e, et, h])
    unfold rmT
    rw [h2 0 (by omega) (by omega), h2 1 (by omega) (by omega), h2 2 (by omega) (by omega), h2 3 (by omega) (by omega), h2 4 (by omega) (by omega)]
    omega
/-- where the entries that a lane leads to stand, and what they hold -/
theorem TM_at {S P9 : St} {x : Int} (hI : Inv S) (hs : nlS S ≤ 12) (h0 : 0 ≤ x) (h1 : x < stN (S.2 0) 5) (h : TM S P9 x) {k : Int} (k0 : 0 ≤ k) (k5 : k < 5) (hk : tdg (S.2 0) x k < S.2 0 k) : (0 ≤ x + stN (S.2 0) k.toNat ∧ x + stN (S.2 0) k.toNat < 432) ∧ P9.2 1 (6 * (x + stN (S.2 0) k.toNat) + wtS S k (tdg (S.2 0) x k)) = mC (S.2 0) (wtS S) (rmT (S.2 0) (tdg (S.2 0) x) - 1).toNat (upT (tdg (S.2 0) x) k) (wtS S k (tdg (S.2 0) x k)) ∧ (0 ≤ mC (S.2 0) (wtS S) (rmT (S.2 0) (tdg (S.2 0) x) - 1).toNat (upT (tdg (S.2 0) x) k) (wtS S k (tdg (S.2 0) x k)) ∧ mC (S.2 0) (wtS S) (rmT (S.2 0) (tdg (S.2 0) x) - 1).toNat (upT (tdg (S.2 0) x) k) (wtS S k (tdg (S.2 0) x k)) ≤ 12) := by
  obtain ⟨hz6, hz, -⟩ := szS hI
  have h5 := nlS_5 hI
  have hv := tdg_v hz x
  have hv2 := vT_up hv hk
  have e := vl_at hz h0 h1
  have e1 := vlN_up (sz := S.2 0) (t := tdg (S.2 0) x) (i := k) 5 k0
  rw [if_pos (by omega), e] at e1
  have hp := stN_pos hz k.toNat (by omega)
  have hb := vlN_b hz hv2 5 (by omega)
  have h432 := stN_432 hz6 (by omega)
  have hw := wtS_b hI k0 k5 (hv k k0 k5).1 hk
  have ht := h _ hv2 (by omega) (wtS S k (tdg (S.2 0) x k)) (by omega) (by omega)
  have hm := mC_12 (wt := wtS S) (show S.2 0 0 + S.2 0 1 + S.2 0 2 + S.2 0 3 + S.2 0 4 ≤ 12 by omega) hv2 (wtS S k (tdg (S.2 0) x k))
  rw [e1, rmT_up k0 k5, show ci (wtS S k (tdg (S.2 0) x k)) = wtS S k (tdg (S.2 0) x k) from if_neg (by omega)] at ht
  rw [rmT_up k0 k5] at hm
  exact ⟨by omega, ht, hm⟩
theorem bsT_end {S : St} {x c : Int} (hI : Inv S) (hs : nlS S ≤ 12) (h0 : 0 ≤ x) (h1 : x < stN (S.2 0) 5) : bsT S x c (S.1 0).toNat = VC S x c := by
  obtain ⟨hz6, hz, -⟩ := szS hI
  have h5 := nlS_5 hI
  have hn := hI.1
  have hv := tdg_v hz x
  have hr := rmT_12 (show S.2 0 0 + S.2 0 1 + S.2 0 2 + S.2 0 3 + S.2 0 4 ≤ 12 by omega) hv
  unfold bsT VC
  by_cases e : rmT (S.2 0) (tdg (S.2 0) x) = 0
  · rw [if_pos e, e]
    rfl
  · rw [if_neg e]
    obtain ⟨f, hf⟩ : ∃ f : Nat, (rmT (S.2 0) (tdg (S.2 0) x)).toNat = f + 1 := ⟨(rmT (S.2 0) (tdg (S.2 0) x)).toNat - 1, by omega⟩
    have hf2 : (rmT (S.2 0) (tdg (S.2 0) x) - 1).toNat = f := by omega
    rw [hf]
    have e2 := mnL_ext (p := avT S x) (g := gT S x c) (n := (S.1 0).toNat) 5 (by omega) (fun i g0 g5 => decide_eq_false (by
      have h6 := (hI.2.1 i (by omega) (by omega)).2.2 (by omega)
      have h7 := hv i (by omega) (by omega)
      omega))
    rw [← e2]
    refine mnL_congr (fun k g0 g5 => ⟨rfl, fun _ => ?_⟩)
    unfold gT
    rw [hf2]
theorem bsT_b {S : St} {x c : Int} (hI : Inv S) (hs : nlS S ≤ 12) (h0 : 0 ≤ x) (h1 : x < stN (S.2 0) 5) {k : Nat} (hk : k ≤ 5) : 0 ≤ bsT S x c k ∧ bsT S x c k ≤ 1000 := by
  obtain ⟨hz6, hz, -⟩ := szS hI
  have h5 := nlS_5 hI
  have hv := tdg_v hz x
  unfold bsT
  split
  · omega
  · rcases mnL_at (avT S x) (gT S x c) k with e | ⟨j, j0, j1, j2, j3⟩
    · omega
    · have h2 := of_decide_eq_true j2
      have hm := mC_12 (wt := wtS S) (show S.2 0 0 + S.2 0 1 + S.2 0 2 + S.2 0 3 + S.2 0 4 ≤ 12 by omega) (vT_up hv h2) (wtS S j (tdg (S.2 0) x j))
      rw [rmT_up j0 (by omega)] at hm
      have hg := chg_b (co c) (wtS S j (tdg (S.2 0) x j))
      rw [j3]
      unfold gT
      omega
/-- one state done -/
theorem TM_next {S P9 : St} {x : Int} (hI : Inv S) (h0 : 0 ≤ x) (h1 : x < stN (S.2 0) 5) (h : TM S P9 x) (hc : ∀ c : Int, 0 ≤ c → c < 6 → P9.2 1 (6 * x + c) = VC S x c) : TM S P9 (x - 1) := by
  obtain ⟨hz6, hz, -⟩ := szS hI
  intro t ht hl c c0 c4
  by_cases e : vlN (S.2 0) t 5 = x
  · have et := vlN_inj hz (tdg_v hz x) ht 5 (by omega) (by rw [vl_at hz h0 h1, e])
    have hci : 0 ≤ ci c ∧ ci c < 6 := by unfold ci; split <;> omega
    rw [e, hc (ci c) hci.1 hci.2]
    unfold VC
    rw [co_ci c4, rmT_congr (fun i g0 g5 => et i g0 (by omega)), mC_congr _ _ t c (fun i g0 g5 => et i g0 (by omega))]
  · exact h t ht (by omega) c c0 c4
theorem TM_keep {S P9 : St} {x c v : Int} (h : TM S P9 x) (hc : 0 ≤ c ∧ c < 6) : TM S (ua P9 1 (6 * x + c) v) x := fun t ht hl c2 c0 c4 => by
  have hci : 0 ≤ ci c2 ∧ ci c2 < 6 := by unfold ci; split <;> omega
  rw [ua_s, if_neg (by omega)]
  exact h t ht hl c2 c0 c4
theorem WG_keep {S P9 : St} {i v : Int} (h : WG S P9) : WG S (ua P9 1 i v) := fun j h0 h1 => by
  rw [ua_n _ _ _ _ _ (by decide)]
  exact h j h0 h1
theorem TM_0 {S P9 : St} (hI : Inv S) : TM S P9 (stN (S.2 0) 5 - 1) := fun t ht hl c c0 c4 => by
  obtain ⟨hz6, hz, -⟩ := szS hI
  have := vlN_b hz ht 5 (by omega)
  omega
theorem TM_fw {S P9 : St} (hI : Inv S) (h : TM S P9 (-1)) {c : Int} (c0 : -1 ≤ c) (c4 : c ≤ 4) : P9.2 1 (ci c) = fwS S c := by
  obtain ⟨hz6, hz, -⟩ := szS hI
  have hv : vT (S.2 0) zT := fun i h0 h5 => ⟨Int.le_refl 0, hz i h0 h5⟩
  have hv0 : vlN (S.2 0) zT 5 = 0 := vlN_zero 5
  have h2 := h zT hv (by omega) c c0 c4
  rw [hv0, show 6 * 0 + ci c = ci c by omega] at h2
  exact h2
theorem TM_fi {S P9 : St} (hI : Inv S) (h : TM S P9 (-1)) {i : Int} (h0 : 0 ≤ i) (h5 : i < 5) (hs : 0 < S.2 0 i) : P9.2 1 (6 * stN (S.2 0) i.toNat + wtS S i 0) = mC (S.2 0) (wtS S) (rmT (S.2 0) (upT zT i)).toNat (upT zT i) (wtS S i 0) ∧ (0 < stN (S.2 0) i.toNat ∧ stN (S.2 0) i.toNat < stN (S.2 0) 5) := by
  obtain ⟨hz6, hz, -⟩ := szS hI
  have hv : vT (S.2 0) zT := fun i h0 h5 => ⟨Int.le_refl 0, hz i h0 h5⟩
  have hv2 := vT_up (i := i) hv hs
  have e1 := vlN_up (sz := S.2 0) (t := zT) (i := i) 5 h0
  rw [if_pos (by omega), show vlN (S.2 0) zT 5 = 0 from vlN_zero 5, Int.zero_add] at e1
  have hp := stN_pos hz i.toNat (by omega)
  have hb := vlN_b hz hv2 5 (by omega)
  have hw := wtS_b hI h0 h5 (Int.le_refl 0) hs
  have h2 := h _ hv2 (by omega) (wtS S i 0) (by omega) (by omega)
  rw [e1, show ci (wtS S i 0) = wtS S i 0 from if_neg (by omega)] at h2
  exact ⟨h2, by omega, by omega⟩
set_option maxHeartbeats 4000000 in
set_option maxRecDepth 100000 in
theorem c_X3_layLeast {l : Launch} {G : va_G × (Nat → ClassId)} {am : Nat → Nat} {S P : St} (hI : Inv S) (hs : nlS S ≤ 12) : Mi l G yX3_layLeast wsX3_layLeast ({ frames := 0, cells := 0, slots := 0, locals := 0 } : Room) [.ref (am 0)] (WM G.2 am S P) (fun r u => r = fwS S (S.1 8) ∧ ∃ P9 : St, u = WM G.2 am S P9 ∧ P9.1 = P.1 ∧ WG S P9 ∧ TM S P9 (-1)) := by
  refine Mi.of (own := RX3) (cc := cX3_layLeast) (maxL := 8) (ret := (some .int)) (by decide) rfl rfl rfl ?_
  intro p e s m args below meth c A C hN
  have hts := C.2.2.2.2.1
  have iFX3 : ∀ w ∈ u_ws RX3 TX3 19, w ∈ wsX3_layLeast := by decide +kernel
  have k_25 := hts (.fieldLink RX3 25 "PaintSequencerModel" "weights" "[I") (by decide +kernel)
  have k_39 := hts (.fieldLink RX3 39 "PaintSequencerModel" "lanes" "I") (by decide +kernel)
  have k_13 := hts (.fieldLink RX3 13 "PaintSequencerModel" "size" "[I") (by decide +kernel)
  have k_16 := hts (.fieldLink RX3 16 "PaintSequencerModel" "colours" "[I") (by decide +kernel)
  have k_7 := hts (.fieldLink RX3 7 "PaintSequencerModel" "row" "[I") (by decide +kernel)
  have k_28 := hts (.fieldLink RX3 28 "PaintSequencerModel" "least" "[I") (by decide +kernel)
  have k_60 := hts (.fieldLink RX3 60 "PaintSequencerModel" "latestColour" "I") (by decide +kernel)
  obtain ⟨hn, hz, hr, hc, hp, ha, hq, ht⟩ := id hI
  obtain ⟨hz6, hz5, hst5⟩ := szS hI
  have h5n := nlS_5 hI
  have h432 := stN_432 hz6 (by omega)
  have hp5 := stN_pos hz5 5 (by omega)
  have lp2 : ∀ (n2 : Nat) (x : Int) (P9 : St), -1 ≤ x → x < stN (S.2 0) 5 → x + 1 < n2 → P9.1 = P.1 → WG S P9 → TM S P9 x → AW p l e (headSpec wsX3_layLeast ({ frames := 0, cells := 0, slots := 0, locals := 0 } : Room)).room s m args below meth c 8 G A s.heap 0 0 (MQ below (QPi G (fun r u => r = fwS S (S.1 8) ∧ ∃ P9 : St, u = WM G.2 am S P9 ∧ P9.1 = P.1 ∧ WG S P9 ∧ TM S P9 (-1)) A) args s 0 0 A) (WM G.2 am S P9) [(0, .ref (am 0)), (1, .int (zI x))] 58 [] := by
    intro n2
    induction n2 with
    | zero =>
      intro x P9 g1 g4 g8 g5 g6 g7
      exfalso
      omega
    | succ n2 ih2 =>
      intro x P9 g1 g4 g8 g5 g6 g7
      by_cases hx0 : 0 ≤ x
      · have g2 := hx0
        have g3 : x < stN (S.2 0) 5 := by omega
        have lp3 : ∀ (n3 : Nat) (cc9 : Int) (P9 : St), 0 ≤ cc9 → cc9 ≤ 6 → 6 - cc9 < n3 → P9.1 = P.1 → WG S P9 → TM S P9 x → (∀ c : Int, 0 ≤ c → c < cc9 → P9.2 1 (6 * x + c) = VC S x c) → AW p l e (headSpec wsX3_layLeast ({ frames := 0, cells := 0, slots := 0, locals := 0 } : Room)).room s m args below meth c 8 G A s.heap 0 0 (MQ below (QPi G (fun r u => r = fwS S (S.1 8) ∧ ∃ P9 : St, u = WM G.2 am S P9 ∧ P9.1 = P.1 ∧ WG S P9 ∧ TM S P9 (-1)) A) args s 0 0 A) (WM G.2 am S P9) [(0, .ref (am 0)), (1, .int (zI x)), (2, .int (zI cc9))] 64 [] := by
          intro n3
          induction n3 with
          | zero =>
            intro cc9 P9 a0 a5 a6 a1 a2 a3 a4
            exfalso
            omega
          | succ n3 ih3 =>
            intro cc9 P9 a0 a5 a6 a1 a2 a3 a4
            by_cases hc6 : cc9 ≤ 5
            · have lp4 : ∀ (n4 : Nat) (k : Nat), (k : Int) ≤ S.1 0 → S.1 0 - k < n4 → AW p l e (headSpec wsX3_layLeast ({ frames := 0, cells := 0, slots := 0, locals := 0 } : Room)).room s m args below meth c 8 G A s.heap 0 0 (MQ below (QPi G (fun r u => r = fwS S (S.1 8) ∧ ∃ P9 : St, u = WM G.2 am S P9 ∧ P9.1 = P.1 ∧ WG S P9 ∧ TM S P9 (-1)) A) args s 0 0 A) (WM G.2 am S P9) [(0, .ref (am 0)), (1, .int (zI x)), (2, .int (zI cc9)), (3, .int (zI (bsT S x cc9 k))), (4, .int (zI k))] 95 [] := by
                intro n4
                induction n4 with
                | zero =>
                  intro k e1 e2
                  exfalso
                  omega
                | succ n4 ih4 =>
                  intro k e1 e2
                  refine aw_iload C dX3_layLeast_95 rfl ?_
                  refine aw_aload_n C dX3_layLeast_97 rfl ?_
                  refine aw_get (q0 := 0) (k := 0) C iFX3 k_39 rfl rfl rfl rfl dX3_layLeast_98 ?_
                  refine aw_icmp_ge (tgt := 215) C dX3_layLeast_101 (by decide) (by omega) (by omega) (fun c101 => ?_) (fun c101 => ?_)
                  · have hbs := bsT_b (c := cc9) hI hs g2 g3 (k := k) (by omega)
                    refine aw_aload_n C dX3_layLeast_215 rfl ?_
                    refine aw_get (q0 := 0) (k := 17) C iFX3 k_28 rfl rfl rfl rfl dX3_layLeast_216 ?_
                    refine aw_bipush C dX3_layLeast_219 rfl ?_
                    refine aw_iload_n C dX3_layLeast_221 rfl ?_
                    refine aw_imul C dX3_layLeast_222 ?_
                    refine aw_iload_n C dX3_layLeast_223 rfl ?_
                    refine aw_iadd C dX3_layLeast_224 ?_
                    refine aw_iload_n C dX3_layLeast_225 rfl ?_
                    refine aw_stI (q0 := 7) C rfl (by omega) (by omega) rfl (wm_a7 _ _ _ _ _ _) dX3_layLeast_226 ?_
                    refine aw_iinc C dX3_layLeast_227 rfl rfl rfl ?_
                    refine aw_goto (tgt := 64) C dX3_layLeast_230 (by decide) ?_
                    rw [show bsT S x cc9 k = VC S x cc9 by rw [show k = (S.1 0).toNat by omega]; exact bsT_end hI hs g2 g3]
                    refine aw_less ?_ (ih3 (cc9 + 1) _ (by omega) (by omega) (by omega) a1 (WG_keep a2) (TM_keep a3 ⟨a0, by omega⟩) ?_)
                    · exact fun q hq => List.mem_of_mem_take (i := 3) hq
                    intro c' d0 d1
                    rw [ua_s]
                    by_cases ec : c' = cc9
                    · rw [if_pos (by omega), ec]
                    · rw [if_neg (by omega)]
                      exact a4 c' d0 (by omega)
                  · have hwk := a2 k (by omega) (by omega)
                    rw [show (k : Int).toNat = k by omega] at hwk
                    have hpk := stN_pos hz5 k (by omega)
                    have hpk2 := stN_mono hz5 (n := k) 5 (by omega) (by omega)
                    have h9 := hz6 k (by omega) (by omega)
                    have hv := tdg_v hz5 x
                    have hvk := hv k (by omega) (by omega)
                    have hbs := bsT_b (c := cc9) hI hs g2 g3 (k := k) (by omega)
                    refine aw_iload_n C dX3_layLeast_104 rfl ?_
                    refine aw_aload_n C dX3_layLeast_105 rfl ?_
                    refine aw_get (q0 := 0) (k := 16) C iFX3 k_25 rfl rfl rfl rfl dX3_layLeast_106 ?_
                    refine aw_iload C dX3_layLeast_109 rfl ?_
                    refine aw_ldI (q0 := 6) C rfl (by omega) (by omega) rfl dX3_layLeast_111 ?_
                    rw [hwk]
                    refine aw_idiv C dX3_layLeast_112 (by omega) (by omega) ?_
                    refine aw_aload_n C dX3_layLeast_113 rfl ?_
                    refine aw_get (q0 := 0) (k := 6) C iFX3 k_13 rfl rfl rfl rfl dX3_layLeast_114 ?_
                    refine aw_iload C dX3_layLeast_117 rfl ?_
                    refine aw_ldI (q0 := 2) C rfl (by omega) (by omega) rfl dX3_layLeast_119 ?_
                    refine aw_iconst C dX3_layLeast_120 ?_
                    refine aw_iadd C dX3_layLeast_121 ?_
                    refine aw_irem C dX3_layLeast_122 ⟨Int.ediv_nonneg (by omega) (by omega), Int.lt_of_le_of_lt (Int.ediv_le_self _ (by omega)) (by omega)⟩ (by omega) ?_
                    refine aw_top (y := tdg (S.2 0) x k) rfl ?_
                    refine aw_istore C dX3_layLeast_123 rfl rfl ?_
                    refine aw_iload C dX3_layLeast_125 rfl ?_
                    refine aw_aload_n C dX3_layLeast_127 rfl ?_
                    refine aw_get (q0 := 0) (k := 6) C iFX3 k_13 rfl rfl rfl rfl dX3_layLeast_128 ?_
                    refine aw_iload C dX3_layLeast_131 rfl ?_
                    refine aw_ldI (q0 := 2) C rfl (by omega) (by omega) rfl dX3_layLeast_133 ?_
                    refine aw_icmp_ge (tgt := 209) C dX3_layLeast_134 (by decide) (by omega) (by omega) (fun c134 => ?_) (fun c134 => ?_)
                    · refine aw_iinc C dX3_layLeast_209 rfl rfl rfl ?_
                      refine aw_goto (tgt := 95) C dX3_layLeast_212 (by decide) ?_
                      have h8 := ih4 (k + 1) (by omega) (by omega)
                      by_cases hav : tdg (S.2 0) x k < S.2 0 k
                      · have hnz : ¬ rmT (S.2 0) (tdg (S.2 0) x) = 0 := fun h => by
                          have := (rmT_0 hv).2 h k (by omega) (by omega)
                          omega
                        have hst : bsT S x cc9 (k + 1) = if avT S x k = true ∧ gT S x cc9 k < bsT S x cc9 k then gT S x cc9 k else bsT S x cc9 k := by
                          unfold bsT
                          rw [if_neg hnz, if_neg hnz]
                          rfl
                        have hg : gT S x cc9 k = chg (co cc9) (wtS S k (tdg (S.2 0) x k)) + mC (S.2 0) (wtS S) (rmT (S.2 0) (tdg (S.2 0) x) - 1).toNat (upT (tdg (S.2 0) x) k) (wtS S k (tdg (S.2 0) x k)) := rfl
                        have hap : avT S x k = true := decide_eq_true hav
                        first
                        | (exfalso; omega)
                        | (have hch : chg (co cc9) (wtS S k (tdg (S.2 0) x k)) = 0 := if_pos (Or.inl (if_pos (by omega)))
                           by_cases hl : gT S x cc9 k < bsT S x cc9 k
                           · rw [if_pos ⟨hap, hl⟩, hg, hch, Int.zero_add] at hst
                             rw [hst] at h8
                             first
                             | (exfalso; omega)
                             | (refine aw_less ?_ h8; rw [Int.add_zero]; exact fun q hq => List.mem_of_mem_take (i := 5) hq)
                           · rw [if_neg (fun h => hl h.2)] at hst
                             rw [hst] at h8
                             first
                             | (exfalso; omega)
                             | (refine aw_less ?_ h8; exact fun q hq => List.mem_of_mem_take (i := 5) hq))
                        | (have hco : co cc9 = cc9 := if_neg (by omega)
                           have hch : chg (co cc9) (wtS S k (tdg (S.2 0) x k)) = 0 := if_pos (Or.inr (by rw [hco]; exact c185))
                           by_cases hl : gT S x cc9 k < bsT S x cc9 k
                           · rw [if_pos ⟨hap, hl⟩, hg, hch, Int.zero_add] at hst
                             rw [hst] at h8
                             first
                             | (exfalso; omega)
                             | (refine aw_less ?_ h8; rw [Int.add_zero]; exact fun q hq => List.mem_of_mem_take (i := 5) hq)
                           · rw [if_neg (fun h => hl h.2)] at hst
                             rw [hst] at h8
                             first
                             | (exfalso; omega)
                             | (refine aw_less ?_ h8; exact fun q hq => List.mem_of_mem_take (i := 5) hq))
                        | (have hco : co cc9 = cc9 := if_neg (by omega)
                           have hch : chg (co cc9) (wtS S k (tdg (S.2 0) x k)) = 1 := if_neg (by rw [hco]; rintro (h | h); omega; exact c185 h)
                           by_cases hl : gT S x cc9 k < bsT S x cc9 k
                           · rw [if_pos ⟨hap, hl⟩, hg, hch, Int.add_comm] at hst
                             rw [hst] at h8
                             first
                             | (exfalso; omega)
                             | (refine aw_less ?_ h8; exact fun q hq => List.mem_of_mem_take (i := 5) hq)
                           · rw [if_neg (fun h => hl h.2)] at hst
                             rw [hst] at h8
                             first
                             | (exfalso; omega)
                             | (refine aw_less ?_ h8; exact fun q hq => List.mem_of_mem_take (i := 5) hq))
                      · have hst : bsT S x cc9 (k + 1) = bsT S x cc9 k := by
                          unfold bsT
                          split
                          · rfl
                          · exact mnL_3 (decide_eq_false hav)
                        first
                        | (exfalso; omega)
                        | (rw [hst] at h8
                           refine aw_less ?_ h8
                           exact fun q hq => List.mem_of_mem_take (i := 5) hq)
                    · have htm := TM_at hI hs g2 g3 a3 (k := (k : Int)) (by omega) (by omega) c134
                      rw [show (k : Int).toNat = k by omega] at htm
                      have hwb := wtS_b hI (i := (k : Int)) (by omega) (by omega) hvk.1 c134
                      refine aw_aload_n C dX3_layLeast_137 rfl ?_
                      refine aw_get (q0 := 0) (k := 8) C iFX3 k_16 rfl rfl rfl rfl dX3_layLeast_138 ?_
                      refine aw_aload_n C dX3_layLeast_141 rfl ?_
                      refine aw_get (q0 := 0) (k := 5) C iFX3 k_7 rfl rfl rfl rfl dX3_layLeast_142 ?_
                      refine aw_bipush C dX3_layLeast_145 rfl ?_
                      refine aw_iload C dX3_layLeast_147 rfl ?_
                      refine aw_imul C dX3_layLeast_149 ?_
                      refine aw_iload C dX3_layLeast_150 rfl ?_
                      refine aw_iadd C dX3_layLeast_152 ?_
                      refine aw_ldI (q0 := 1) C rfl (by omega) (by omega) rfl dX3_layLeast_153 ?_
                      rw [rM (l := (k : Int)) (k := tdg (S.2 0) x k) rfl (by omega) (by omega) (by omega)]
                      refine aw_ldI (q0 := 3) C rfl (by omega) (by omega) rfl dX3_layLeast_154 ?_
                      refine aw_top (y := wtS S k (tdg (S.2 0) x k)) rfl ?_
                      refine aw_istore C dX3_layLeast_155 rfl rfl ?_
                      refine aw_aload_n C dX3_layLeast_157 rfl ?_
                      refine aw_get (q0 := 0) (k := 17) C iFX3 k_28 rfl rfl rfl rfl dX3_layLeast_158 ?_
                      refine aw_bipush C dX3_layLeast_161 rfl ?_
                      refine aw_iload_n C dX3_layLeast_163 rfl ?_
                      refine aw_aload_n C dX3_layLeast_164 rfl ?_
                      refine aw_get (q0 := 0) (k := 16) C iFX3 k_25 rfl rfl rfl rfl dX3_layLeast_165 ?_
                      refine aw_iload C dX3_layLeast_168 rfl ?_
                      refine aw_ldI (q0 := 6) C rfl (by omega) (by omega) rfl dX3_layLeast_170 ?_
                      rw [hwk]
                      refine aw_iadd C dX3_layLeast_171 ?_
                      refine aw_imul C dX3_layLeast_172 ?_
                      refine aw_iload C dX3_layLeast_173 rfl ?_
                      refine aw_iadd C dX3_layLeast_175 ?_
                      refine aw_ldI (q0 := 7) C rfl (by omega) (by omega) rfl dX3_layLeast_176 ?_
                      refine aw_top htm.2.1 ?_
                      refine aw_iload_n C dX3_layLeast_177 rfl ?_
                      refine aw_iconst C dX3_layLeast_178 ?_
                      refine aw_icmp_ge (tgt := 192) C dX3_layLeast_179 (by decide) (by omega) (by omega) (fun c179 => ?_) (fun c179 => ?_)
                      · refine aw_iconst C dX3_layLeast_192 ?_
                        refine aw_iadd C dX3_layLeast_193 ?_
                        refine aw_istore C dX3_layLeast_194 rfl rfl ?_
                        refine aw_iload C dX3_layLeast_196 rfl ?_
                        refine aw_iload_n C dX3_layLeast_198 rfl ?_
                        refine aw_icmp_ge (tgt := 207) C dX3_layLeast_199 (by decide) (by omega) (by omega) (fun c199 => ?_) (fun c199 => ?_)
                        · refine aw_iload_n C dX3_layLeast_207 rfl ?_
                          refine aw_istore_n C dX3_layLeast_208 rfl rfl ?_
                          refine aw_iinc C dX3_layLeast_209 rfl rfl rfl ?_
                          refine aw_goto (tgt := 95) C dX3_layLeast_212 (by decide) ?_
                          have h8 := ih4 (k + 1) (by omega) (by omega)
                          by_cases hav : tdg (S.2 0) x k < S.2 0 k
                          · have hnz : ¬ rmT (S.2 0) (tdg (S.2 0) x) = 0 := fun h => by
                              have := (rmT_0 hv).2 h k (by omega) (by omega)
                              omega
                            have hst : bsT S x cc9 (k + 1) = if avT S x k = true ∧ gT S x cc9 k < bsT S x cc9 k then gT S x cc9 k else bsT S x cc9 k := by
                              unfold bsT
                              rw [if_neg hnz, if_neg hnz]
                              rfl
                            have hg : gT S x cc9 k = chg (co cc9) (wtS S k (tdg (S.2 0) x k)) + mC (S.2 0) (wtS S) (rmT (S.2 0) (tdg (S.2 0) x) - 1).toNat (upT (tdg (S.2 0) x) k) (wtS S k (tdg (S.2 0) x k)) := rfl
                            have hap : avT S x k = true := decide_eq_true hav
                            first
                            | (exfalso; omega)
                            | (have hch : chg (co cc9) (wtS S k (tdg (S.2 0) x k)) = 0 := if_pos (Or.inl (if_pos (by omega)))
                               by_cases hl : gT S x cc9 k < bsT S x cc9 k
                               · rw [if_pos ⟨hap, hl⟩, hg, hch, Int.zero_add] at hst
                                 rw [hst] at h8
                                 first
                                 | (exfalso; omega)
                                 | (refine aw_less ?_ h8; rw [Int.add_zero]; exact fun q hq => List.mem_of_mem_take (i := 5) hq)
                               · rw [if_neg (fun h => hl h.2)] at hst
                                 rw [hst] at h8
                                 first
                                 | (exfalso; omega)
                                 | (refine aw_less ?_ h8; exact fun q hq => List.mem_of_mem_take (i := 5) hq))
                            | (have hco : co cc9 = cc9 := if_neg (by omega)
                               have hch : chg (co cc9) (wtS S k (tdg (S.2 0) x k)) = 0 := if_pos (Or.inr (by rw [hco]; exact c185))
                               by_cases hl : gT S x cc9 k < bsT S x cc9 k
                               · rw [if_pos ⟨hap, hl⟩, hg, hch, Int.zero_add] at hst
                                 rw [hst] at h8
                                 first
                                 | (exfalso; omega)
                                 | (refine aw_less ?_ h8; rw [Int.add_zero]; exact fun q hq => List.mem_of_mem_take (i := 5) hq)
                               · rw [if_neg (fun h => hl h.2)] at hst
                                 rw [hst] at h8
                                 first
                                 | (exfalso; omega)
                                 | (refine aw_less ?_ h8; exact fun q hq => List.mem_of_mem_take (i := 5) hq))
                            | (have hco : co cc9 = cc9 := if_neg (by omega)
                               have hch : chg (co cc9) (wtS S k (tdg (S.2 0) x k)) = 1 := if_neg (by rw [hco]; rintro (h | h); omega; exact c185 h)
                               by_cases hl : gT S x cc9 k < bsT S x cc9 k
                               · rw [if_pos ⟨hap, hl⟩, hg, hch, Int.add_comm] at hst
                                 rw [hst] at h8
                                 first
                                 | (exfalso; omega)
                                 | (refine aw_less ?_ h8; exact fun q hq => List.mem_of_mem_take (i := 5) hq)
                               · rw [if_neg (fun h => hl h.2)] at hst
                                 rw [hst] at h8
                                 first
                                 | (exfalso; omega)
                                 | (refine aw_less ?_ h8; exact fun q hq => List.mem_of_mem_take (i := 5) hq))
                          · have hst : bsT S x cc9 (k + 1) = bsT S x cc9 k := by
                              unfold bsT
                              split
                              · rfl
                              · exact mnL_3 (decide_eq_false hav)
                            first
                            | (exfalso; omega)
                            | (rw [hst] at h8
                               refine aw_less ?_ h8
                               exact fun q hq => List.mem_of_mem_take (i := 5) hq)
                        · refine aw_iload C dX3_layLeast_202 rfl ?_
                          refine aw_goto (tgt := 208) C dX3_layLeast_204 (by decide) ?_
                          refine aw_istore_n C dX3_layLeast_208 rfl rfl ?_
                          refine aw_iinc C dX3_layLeast_209 rfl rfl rfl ?_
                          refine aw_goto (tgt := 95) C dX3_layLeast_212 (by decide) ?_
                          have h8 := ih4 (k + 1) (by omega) (by omega)
                          by_cases hav : tdg (S.2 0) x k < S.2 0 k
                          · have hnz : ¬ rmT (S.2 0) (tdg (S.2 0) x) = 0 := fun h => by
                              have := (rmT_0 hv).2 h k (by omega) (by omega)
                              omega
                            have hst : bsT S x cc9 (k + 1) = if avT S x k = true ∧ gT S x cc9 k < bsT S x cc9 k then gT S x cc9 k else bsT S x cc9 k := by
                              unfold bsT
                              rw [if_neg hnz, if_neg hnz]
                              rfl
                            have hg : gT S x cc9 k = chg (co cc9) (wtS S k (tdg (S.2 0) x k)) + mC (S.2 0) (wtS S) (rmT (S.2 0) (tdg (S.2 0) x) - 1).toNat (upT (tdg (S.2 0) x) k) (wtS S k (tdg (S.2 0) x k)) := rfl
                            have hap : avT S x k = true := decide_eq_true hav
                            first
                            | (exfalso; omega)
                            | (have hch : chg (co cc9) (wtS S k (tdg (S.2 0) x k)) = 0 := if_pos (Or.inl (if_pos (by omega)))
                               by_cases hl : gT S x cc9 k < bsT S x cc9 k
                               · rw [if_pos ⟨hap, hl⟩, hg, hch, Int.zero_add] at hst
                                 rw [hst] at h8
                                 first
                                 | (exfalso; omega)
                                 | (refine aw_less ?_ h8; rw [Int.add_zero]; exact fun q hq => List.mem_of_mem_take (i := 5) hq)
                               · rw [if_neg (fun h => hl h.2)] at hst
                                 rw [hst] at h8
                                 first
                                 | (exfalso; omega)
                                 | (refine aw_less ?_ h8; exact fun q hq => List.mem_of_mem_take (i := 5) hq))
                            | (have hco : co cc9 = cc9 := if_neg (by omega)
                               have hch : chg (co cc9) (wtS S k (tdg (S.2 0) x k)) = 0 := if_pos (Or.inr (by rw [hco]; exact c185))
                               by_cases hl : gT S x cc9 k < bsT S x cc9 k
                               · rw [if_pos ⟨hap, hl⟩, hg, hch, Int.zero_add] at hst
                                 rw [hst] at h8
                                 first
                                 | (exfalso; omega)
                                 | (refine aw_less ?_ h8; rw [Int.add_zero]; exact fun q hq => List.mem_of_mem_take (i := 5) hq)
                               · rw [if_neg (fun h => hl h.2)] at hst
                                 rw [hst] at h8
                                 first
                                 | (exfalso; omega)
                                 | (refine aw_less ?_ h8; exact fun q hq => List.mem_of_mem_take (i := 5) hq))
                            | (have hco : co cc9 = cc9 := if_neg (by omega)
                               have hch : chg (co cc9) (wtS S k (tdg (S.2 0) x k)) = 1 := if_neg (by rw [hco]; rintro (h | h); omega; exact c185 h)
                               by_cases hl : gT S x cc9 k < bsT S x cc9 k
                               · rw [if_pos ⟨hap, hl⟩, hg, hch, Int.add_comm] at hst
                                 rw [hst] at h8
                                 first
                                 | (exfalso; omega)
                                 | (refine aw_less ?_ h8; exact fun q hq => List.mem_of_mem_take (i := 5) hq)
                               · rw [if_neg (fun h => hl h.2)] at hst
                                 rw [hst] at h8
                                 first
                                 | (exfalso; omega)
                                 | (refine aw_less ?_ h8; exact fun q hq => List.mem_of_mem_take (i := 5) hq))
                          · have hst : bsT S x cc9 (k + 1) = bsT S x cc9 k := by
                              unfold bsT
                              split
                              · rfl
                              · exact mnL_3 (decide_eq_false hav)
                            first
                            | (exfalso; omega)
                            | (rw [hst] at h8
                               refine aw_less ?_ h8
                               exact fun q hq => List.mem_of_mem_take (i := 5) hq)
                      · refine aw_iload_n C dX3_layLeast_182 rfl ?_
                        refine aw_iload C dX3_layLeast_183 rfl ?_
                        refine aw_icmp_eq (tgt := 192) C dX3_layLeast_185 (by decide) (by omega) (by omega) (fun c185 => ?_) (fun c185 => ?_)
                        · refine aw_iconst C dX3_layLeast_192 ?_
                          refine aw_iadd C dX3_layLeast_193 ?_
                          refine aw_istore C dX3_layLeast_194 rfl rfl ?_
                          refine aw_iload C dX3_layLeast_196 rfl ?_
                          refine aw_iload_n C dX3_layLeast_198 rfl ?_
                          refine aw_icmp_ge (tgt := 207) C dX3_layLeast_199 (by decide) (by omega) (by omega) (fun c199 => ?_) (fun c199 => ?_)
                          · refine aw_iload_n C dX3_layLeast_207 rfl ?_
                            refine aw_istore_n C dX3_layLeast_208 rfl rfl ?_
                            refine aw_iinc C dX3_layLeast_209 rfl rfl rfl ?_
                            refine aw_goto (tgt := 95) C dX3_layLeast_212 (by decide) ?_
                            have h8 := ih4 (k + 1) (by omega) (by omega)
                            by_cases hav : tdg (S.2 0) x k < S.2 0 k
                            · have hnz : ¬ rmT (S.2 0) (tdg (S.2 0) x) = 0 := fun h => by
                                have := (rmT_0 hv).2 h k (by omega) (by omega)
                                omega
                              have hst : bsT S x cc9 (k + 1) = if avT S x k = true ∧ gT S x cc9 k < bsT S x cc9 k then gT S x cc9 k else bsT S x cc9 k := by
                                unfold bsT
                                rw [if_neg hnz, if_neg hnz]
                                rfl
                              have hg : gT S x cc9 k = chg (co cc9) (wtS S k (tdg (S.2 0) x k)) + mC (S.2 0) (wtS S) (rmT (S.2 0) (tdg (S.2 0) x) - 1).toNat (upT (tdg (S.2 0) x) k) (wtS S k (tdg (S.2 0) x k)) := rfl
                              have hap : avT S x k = true := decide_eq_true hav
                              first
                              | (exfalso; omega)
                              | (have hch : chg (co cc9) (wtS S k (tdg (S.2 0) x k)) = 0 := if_pos (Or.inl (if_pos (by omega)))
                                 by_cases hl : gT S x cc9 k < bsT S x cc9 k
                                 · rw [if_pos ⟨hap, hl⟩, hg, hch, Int.zero_add] at hst
                                   rw [hst] at h8
                                   first
                                   | (exfalso; omega)
                                   | (refine aw_less ?_ h8; rw [Int.add_zero]; exact fun q hq => List.mem_of_mem_take (i := 5) hq)
                                 · rw [if_neg (fun h => hl h.2)] at hst
                                   rw [hst] at h8
                                   first
                                   | (exfalso; omega)
                                   | (refine aw_less ?_ h8; exact fun q hq => List.mem_of_mem_take (i := 5) hq))
                              | (have hco : co cc9 = cc9 := if_neg (by omega)
                                 have hch : chg (co cc9) (wtS S k (tdg (S.2 0) x k)) = 0 := if_pos (Or.inr (by rw [hco]; exact c185))
                                 by_cases hl : gT S x cc9 k < bsT S x cc9 k
                                 · rw [if_pos ⟨hap, hl⟩, hg, hch, Int.zero_add] at hst
                                   rw [hst] at h8
                                   first
                                   | (exfalso; omega)
                                   | (refine aw_less ?_ h8; rw [Int.add_zero]; exact fun q hq => List.mem_of_mem_take (i := 5) hq)
                                 · rw [if_neg (fun h => hl h.2)] at hst
                                   rw [hst] at h8
                                   first
                                   | (exfalso; omega)
                                   | (refine aw_less ?_ h8; exact fun q hq => List.mem_of_mem_take (i := 5) hq))
                              | (have hco : co cc9 = cc9 := if_neg (by omega)
                                 have hch : chg (co cc9) (wtS S k (tdg (S.2 0) x k)) = 1 := if_neg (by rw [hco]; rintro (h | h); omega; exact c185 h)
                                 by_cases hl : gT S x cc9 k < bsT S x cc9 k
                                 · rw [if_pos ⟨hap, hl⟩, hg, hch, Int.add_comm] at hst
                                   rw [hst] at h8
                                   first
                                   | (exfalso; omega)
                                   | (refine aw_less ?_ h8; exact fun q hq => List.mem_of_mem_take (i := 5) hq)
                                 · rw [if_neg (fun h => hl h.2)] at hst
                                   rw [hst] at h8
                                   first
                                   | (exfalso; omega)
                                   | (refine aw_less ?_ h8; exact fun q hq => List.mem_of_mem_take (i := 5) hq))
                            · have hst : bsT S x cc9 (k + 1) = bsT S x cc9 k := by
                                unfold bsT
                                split
                                · rfl
                                · exact mnL_3 (decide_eq_false hav)
                              first
                              | (exfalso; omega)
                              | (rw [hst] at h8
                                 refine aw_less ?_ h8
                                 exact fun q hq => List.mem_of_mem_take (i := 5) hq)
                          · refine aw_iload C dX3_layLeast_202 rfl ?_
                            refine aw_goto (tgt := 208) C dX3_layLeast_204 (by decide) ?_
                            refine aw_istore_n C dX3_layLeast_208 rfl rfl ?_
                            refine aw_iinc C dX3_layLeast_209 rfl rfl rfl ?_
                            refine aw_goto (tgt := 95) C dX3_layLeast_212 (by decide) ?_
                            have h8 := ih4 (k + 1) (by omega) (by omega)
                            by_cases hav : tdg (S.2 0) x k < S.2 0 k
                            · have hnz : ¬ rmT (S.2 0) (tdg (S.2 0) x) = 0 := fun h => by
                                have := (rmT_0 hv).2 h k (by omega) (by omega)
                                omega
                              have hst : bsT S x cc9 (k + 1) = if avT S x k = true ∧ gT S x cc9 k < bsT S x cc9 k then gT S x cc9 k else bsT S x cc9 k := by
                                unfold bsT
                                rw [if_neg hnz, if_neg hnz]
                                rfl
                              have hg : gT S x cc9 k = chg (co cc9) (wtS S k (tdg (S.2 0) x k)) + mC (S.2 0) (wtS S) (rmT (S.2 0) (tdg (S.2 0) x) - 1).toNat (upT (tdg (S.2 0) x) k) (wtS S k (tdg (S.2 0) x k)) := rfl
                              have hap : avT S x k = true := decide_eq_true hav
                              first
                              | (exfalso; omega)
                              | (have hch : chg (co cc9) (wtS S k (tdg (S.2 0) x k)) = 0 := if_pos (Or.inl (if_pos (by omega)))
                                 by_cases hl : gT S x cc9 k < bsT S x cc9 k
                                 · rw [if_pos ⟨hap, hl⟩, hg, hch, Int.zero_add] at hst
                                   rw [hst] at h8
                                   first
                                   | (exfalso; omega)
                                   | (refine aw_less ?_ h8; rw [Int.add_zero]; exact fun q hq => List.mem_of_mem_take (i := 5) hq)
                                 · rw [if_neg (fun h => hl h.2)] at hst
                                   rw [hst] at h8
                                   first
                                   | (exfalso; omega)
                                   | (refine aw_less ?_ h8; exact fun q hq => List.mem_of_mem_take (i := 5) hq))
                              | (have hco : co cc9 = cc9 := if_neg (by omega)
                                 have hch : chg (co cc9) (wtS S k (tdg (S.2 0) x k)) = 0 := if_pos (Or.inr (by rw [hco]; exact c185))
                                 by_cases hl : gT S x cc9 k < bsT S x cc9 k
                                 · rw [if_pos ⟨hap, hl⟩, hg, hch, Int.zero_add] at hst
                                   rw [hst] at h8
                                   first
                                   | (exfalso; omega)
                                   | (refine aw_less ?_ h8; rw [Int.add_zero]; exact fun q hq => List.mem_of_mem_take (i := 5) hq)
                                 · rw [if_neg (fun h => hl h.2)] at hst
                                   rw [hst] at h8
                                   first
                                   | (exfalso; omega)
                                   | (refine aw_less ?_ h8; exact fun q hq => List.mem_of_mem_take (i := 5) hq))
                              | (have hco : co cc9 = cc9 := if_neg (by omega)
                                 have hch : chg (co cc9) (wtS S k (tdg (S.2 0) x k)) = 1 := if_neg (by rw [hco]; rintro (h | h); omega; exact c185 h)
                                 by_cases hl : gT S x cc9 k < bsT S x cc9 k
                                 · rw [if_pos ⟨hap, hl⟩, hg, hch, Int.add_comm] at hst
                                   rw [hst] at h8
                                   first
                                   | (exfalso; omega)
                                   | (refine aw_less ?_ h8; exact fun q hq => List.mem_of_mem_take (i := 5) hq)
                                 · rw [if_neg (fun h => hl h.2)] at hst
                                   rw [hst] at h8
                                   first
                                   | (exfalso; omega)
                                   | (refine aw_less ?_ h8; exact fun q hq => List.mem_of_mem_take (i := 5) hq))
                            · have hst : bsT S x cc9 (k + 1) = bsT S x cc9 k := by
                                unfold bsT
                                split
                                · rfl
                                · exact mnL_3 (decide_eq_false hav)
                              first
                              | (exfalso; omega)
                              | (rw [hst] at h8
                                 refine aw_less ?_ h8
                                 exact fun q hq => List.mem_of_mem_take (i := 5) hq)
                        · refine aw_iconst C dX3_layLeast_188 ?_
                          refine aw_goto (tgt := 193) C dX3_layLeast_189 (by decide) ?_
                          refine aw_iadd C dX3_layLeast_193 ?_
                          refine aw_istore C dX3_layLeast_194 rfl rfl ?_
                          refine aw_iload C dX3_layLeast_196 rfl ?_
                          refine aw_iload_n C dX3_layLeast_198 rfl ?_
                          refine aw_icmp_ge (tgt := 207) C dX3_layLeast_199 (by decide) (by omega) (by omega) (fun c199 => ?_) (fun c199 => ?_)
                          · refine aw_iload_n C dX3_layLeast_207 rfl ?_
                            refine aw_istore_n C dX3_layLeast_208 rfl rfl ?_
                            refine aw_iinc C dX3_layLeast_209 rfl rfl rfl ?_
                            refine aw_goto (tgt := 95) C dX3_layLeast_212 (by decide) ?_
                            have h8 := ih4 (k + 1) (by omega) (by omega)
                            by_cases hav : tdg (S.2 0) x k < S.2 0 k
                            · have hnz : ¬ rmT (S.2 0) (tdg (S.2 0) x) = 0 := fun h => by
                                have := (rmT_0 hv).2 h k (by omega) (by omega)
                                omega
                              have hst : bsT S x cc9 (k + 1) = if avT S x k = true ∧ gT S x cc9 k < bsT S x cc9 k then gT S x cc9 k else bsT S x cc9 k := by
                                unfold bsT
                                rw [if_neg hnz, if_neg hnz]
                                rfl
                              have hg : gT S x cc9 k = chg (co cc9) (wtS S k (tdg (S.2 0) x k)) + mC (S.2 0) (wtS S) (rmT (S.2 0) (tdg (S.2 0) x) - 1).toNat (upT (tdg (S.2 0) x) k) (wtS S k (tdg (S.2 0) x k)) := rfl
                              have hap : avT S x k = true := decide_eq_true hav
                              first
                              | (exfalso; omega)
                              | (have hch : chg (co cc9) (wtS S k (tdg (S.2 0) x k)) = 0 := if_pos (Or.inl (if_pos (by omega)))
                                 by_cases hl : gT S x cc9 k < bsT S x cc9 k
                                 · rw [if_pos ⟨hap, hl⟩, hg, hch, Int.zero_add] at hst
                                   rw [hst] at h8
                                   first
                                   | (exfalso; omega)
                                   | (refine aw_less ?_ h8; rw [Int.add_zero]; exact fun q hq => List.mem_of_mem_take (i := 5) hq)
                                 · rw [if_neg (fun h => hl h.2)] at hst
                                   rw [hst] at h8
                                   first
                                   | (exfalso; omega)
                                   | (refine aw_less ?_ h8; exact fun q hq => List.mem_of_mem_take (i := 5) hq))
                              | (have hco : co cc9 = cc9 := if_neg (by omega)
                                 have hch : chg (co cc9) (wtS S k (tdg (S.2 0) x k)) = 0 := if_pos (Or.inr (by rw [hco]; exact c185))
                                 by_cases hl : gT S x cc9 k < bsT S x cc9 k
                                 · rw [if_pos ⟨hap, hl⟩, hg, hch, Int.zero_add] at hst
                                   rw [hst] at h8
                                   first
                                   | (exfalso; omega)
                                   | (refine aw_less ?_ h8; rw [Int.add_zero]; exact fun q hq => List.mem_of_mem_take (i := 5) hq)
                                 · rw [if_neg (fun h => hl h.2)] at hst
                                   rw [hst] at h8
                                   first
                                   | (exfalso; omega)
                                   | (refine aw_less ?_ h8; exact fun q hq => List.mem_of_mem_take (i := 5) hq))
                              | (have hco : co cc9 = cc9 := if_neg (by omega)
                                 have hch : chg (co cc9) (wtS S k (tdg (S.2 0) x k)) = 1 := if_neg (by rw [hco]; rintro (h | h); omega; exact c185 h)
                                 by_cases hl : gT S x cc9 k < bsT S x cc9 k
                                 · rw [if_pos ⟨hap, hl⟩, hg, hch, Int.add_comm] at hst
                                   rw [hst] at h8
                                   first
                                   | (exfalso; omega)
                                   | (refine aw_less ?_ h8; exact fun q hq => List.mem_of_mem_take (i := 5) hq)
                                 · rw [if_neg (fun h => hl h.2)] at hst
                                   rw [hst] at h8
                                   first
                                   | (exfalso; omega)
                                   | (refine aw_less ?_ h8; exact fun q hq => List.mem_of_mem_take (i := 5) hq))
                            · have hst : bsT S x cc9 (k + 1) = bsT S x cc9 k := by
                                unfold bsT
                                split
                                · rfl
                                · exact mnL_3 (decide_eq_false hav)
                              first
                              | (exfalso; omega)
                              | (rw [hst] at h8
                                 refine aw_less ?_ h8
                                 exact fun q hq => List.mem_of_mem_take (i := 5) hq)
                          · refine aw_iload C dX3_layLeast_202 rfl ?_
                            refine aw_goto (tgt := 208) C dX3_layLeast_204 (by decide) ?_
                            refine aw_istore_n C dX3_layLeast_208 rfl rfl ?_
                            refine aw_iinc C dX3_layLeast_209 rfl rfl rfl ?_
                            refine aw_goto (tgt := 95) C dX3_layLeast_212 (by decide) ?_
                            have h8 := ih4 (k + 1) (by omega) (by omega)
                            by_cases hav : tdg (S.2 0) x k < S.2 0 k
                            · have hnz : ¬ rmT (S.2 0) (tdg (S.2 0) x) = 0 := fun h => by
                                have := (rmT_0 hv).2 h k (by omega) (by omega)
                                omega
                              have hst : bsT S x cc9 (k + 1) = if avT S x k = true ∧ gT S x cc9 k < bsT S x cc9 k then gT S x cc9 k else bsT S x cc9 k := by
                                unfold bsT
                                rw [if_neg hnz, if_neg hnz]
                                rfl
                              have hg : gT S x cc9 k = chg (co cc9) (wtS S k (tdg (S.2 0) x k)) + mC (S.2 0) (wtS S) (rmT (S.2 0) (tdg (S.2 0) x) - 1).toNat (upT (tdg (S.2 0) x) k) (wtS S k (tdg (S.2 0) x k)) := rfl
                              have hap : avT S x k = true := decide_eq_true hav
                              first
                              | (exfalso; omega)
                              | (have hch : chg (co cc9) (wtS S k (tdg (S.2 0) x k)) = 0 := if_pos (Or.inl (if_pos (by omega)))
                                 by_cases hl : gT S x cc9 k < bsT S x cc9 k
                                 · rw [if_pos ⟨hap, hl⟩, hg, hch, Int.zero_add] at hst
                                   rw [hst] at h8
                                   first
                                   | (exfalso; omega)
                                   | (refine aw_less ?_ h8; rw [Int.add_zero]; exact fun q hq => List.mem_of_mem_take (i := 5) hq)
                                 · rw [if_neg (fun h => hl h.2)] at hst
                                   rw [hst] at h8
                                   first
                                   | (exfalso; omega)
                                   | (refine aw_less ?_ h8; exact fun q hq => List.mem_of_mem_take (i := 5) hq))
                              | (have hco : co cc9 = cc9 := if_neg (by omega)
                                 have hch : chg (co cc9) (wtS S k (tdg (S.2 0) x k)) = 0 := if_pos (Or.inr (by rw [hco]; exact c185))
                                 by_cases hl : gT S x cc9 k < bsT S x cc9 k
                                 · rw [if_pos ⟨hap, hl⟩, hg, hch, Int.zero_add] at hst
                                   rw [hst] at h8
                                   first
                                   | (exfalso; omega)
                                   | (refine aw_less ?_ h8; rw [Int.add_zero]; exact fun q hq => List.mem_of_mem_take (i := 5) hq)
                                 · rw [if_neg (fun h => hl h.2)] at hst
                                   rw [hst] at h8
                                   first
                                   | (exfalso; omega)
                                   | (refine aw_less ?_ h8; exact fun q hq => List.mem_of_mem_take (i := 5) hq))
                              | (have hco : co cc9 = cc9 := if_neg (by omega)
                                 have hch : chg (co cc9) (wtS S k (tdg (S.2 0) x k)) = 1 := if_neg (by rw [hco]; rintro (h | h); omega; exact c185 h)
                                 by_cases hl : gT S x cc9 k < bsT S x cc9 k
                                 · rw [if_pos ⟨hap, hl⟩, hg, hch, Int.add_comm] at hst
                                   rw [hst] at h8
                                   first
                                   | (exfalso; omega)
                                   | (refine aw_less ?_ h8; exact fun q hq => List.mem_of_mem_take (i := 5) hq)
                                 · rw [if_neg (fun h => hl h.2)] at hst
                                   rw [hst] at h8
                                   first
                                   | (exfalso; omega)
                                   | (refine aw_less ?_ h8; exact fun q hq => List.mem_of_mem_take (i := 5) hq))
                            · have hst : bsT S x cc9 (k + 1) = bsT S x cc9 k := by
                                unfold bsT
                                split
                                · rfl
                                · exact mnL_3 (decide_eq_false hav)
                              first
                              | (exfalso; omega)
                              | (rw [hst] at h8
                                 refine aw_less ?_ h8
                                 exact fun q hq => List.mem_of_mem_take (i := 5) hq)
              refine aw_iload_n C dX3_layLeast_64 rfl ?_
              refine aw_iconst C dX3_layLeast_65 ?_
              refine aw_icmp_gt (tgt := 233) C dX3_layLeast_66 (by decide) (by omega) (by omega) (fun c66 => ?_) (fun c66 => ?_)
              · exfalso
                omega
              · refine aw_iload_n C dX3_layLeast_69 rfl ?_
                refine aw_aload_n C dX3_layLeast_70 rfl ?_
                refine aw_get (q0 := 0) (k := 16) C iFX3 k_25 rfl rfl rfl rfl dX3_layLeast_71 ?_
                refine aw_aload_n C dX3_layLeast_74 rfl ?_
                refine aw_get (q0 := 0) (k := 0) C iFX3 k_39 rfl rfl rfl rfl dX3_layLeast_75 ?_
                refine aw_ldI (q0 := 6) C rfl (by omega) (by omega) rfl dX3_layLeast_78 ?_
                have hw4 := a2 (S.1 0) (by omega) (by omega)
                rw [hst5] at hw4
                rw [hw4]
                refine aw_iconst C dX3_layLeast_79 ?_
                refine aw_isub C dX3_layLeast_80 ?_
                refine aw_icmp_ne (tgt := 88) C dX3_layLeast_81 (by decide) (by omega) (by omega) (fun c81 => ?_) (fun c81 => ?_)
                · refine aw_sipush C dX3_layLeast_88 rfl ?_
                  refine aw_istore_n C dX3_layLeast_91 rfl rfl ?_
                  refine aw_iconst C dX3_layLeast_92 ?_
                  refine aw_istore C dX3_layLeast_93 rfl rfl ?_
                  have hw5 := a2 (S.1 0) (by omega) (by omega)
                  rw [hst5] at hw5
                  have hrt := rm_top hI g2 g3
                  have h9 := lp4 6 0 (by omega) (by omega)
                  first
                  | (have e0 : bsT S x cc9 0 = 0 := if_pos (hrt.mpr (by omega))
                     rw [e0] at h9
                     exact h9)
                  | (have e0 : bsT S x cc9 0 = 1000 := if_neg (fun h => by have := hrt.mp h; omega)
                     rw [e0] at h9
                     exact h9)
                · refine aw_iconst C dX3_layLeast_84 ?_
                  refine aw_goto (tgt := 91) C dX3_layLeast_85 (by decide) ?_
                  refine aw_istore_n C dX3_layLeast_91 rfl rfl ?_
                  refine aw_iconst C dX3_layLeast_92 ?_
                  refine aw_istore C dX3_layLeast_93 rfl rfl ?_
                  have hw5 := a2 (S.1 0) (by omega) (by omega)
                  rw [hst5] at hw5
                  have hrt := rm_top hI g2 g3
                  have h9 := lp4 6 0 (by omega) (by omega)
                  first
                  | (have e0 : bsT S x cc9 0 = 0 := if_pos (hrt.mpr (by omega))
                     rw [e0] at h9
                     exact h9)
                  | (have e0 : bsT S x cc9 0 = 1000 := if_neg (fun h => by have := hrt.mp h; omega)
                     rw [e0] at h9
                     exact h9)
            · refine aw_iload_n C dX3_layLeast_64 rfl ?_
              refine aw_iconst C dX3_layLeast_65 ?_
              refine aw_icmp_gt (tgt := 233) C dX3_layLeast_66 (by decide) (by omega) (by omega) (fun c66 => ?_) (fun c66 => ?_)
              · refine aw_iinc C dX3_layLeast_233 rfl rfl rfl ?_
                refine aw_goto (tgt := 58) C dX3_layLeast_236 (by decide) ?_
                exact aw_less (fun q hq => List.mem_of_mem_take (i := 2) hq) (ih2 (x - 1) _ (by omega) (by omega) (by omega) a1 a2 (TM_next hI g2 g3 a3 (fun c d0 d1 => a4 c d0 (by omega))))
              · exfalso
                omega
        refine aw_iload_n C dX3_layLeast_58 rfl ?_
        refine aw_if_lt (tgt := 239) C dX3_layLeast_59 (by decide) (by omega) (fun c59 => ?_) (fun c59 => ?_)
        · exfalso
          omega
        · refine aw_iconst C dX3_layLeast_62 ?_
          refine aw_istore_n C dX3_layLeast_63 rfl rfl ?_
          exact lp3 7 0 P9 (by omega) (by omega) (by omega) g5 g6 g7 (fun c d0 d1 => by omega)
      · have ex : x = -1 := by omega
        subst ex
        refine aw_iload_n C dX3_layLeast_58 rfl ?_
        refine aw_if_lt (tgt := 239) C dX3_layLeast_59 (by decide) (by omega) (fun c59 => ?_) (fun c59 => ?_)
        · refine aw_aload_n C dX3_layLeast_239 rfl ?_
          refine aw_get (q0 := 0) (k := 17) C iFX3 k_28 rfl rfl rfl rfl dX3_layLeast_240 ?_
          refine aw_aload_n C dX3_layLeast_243 rfl ?_
          refine aw_get (q0 := 0) (k := 14) C iFX3 k_60 rfl rfl rfl rfl dX3_layLeast_244 ?_
          refine aw_iconst C dX3_layLeast_247 ?_
          refine aw_icmp_ne (tgt := 255) C dX3_layLeast_248 (by decide) (by omega) (by omega) (fun c248 => ?_) (fun c248 => ?_)
          · refine aw_aload_n C dX3_layLeast_255 rfl ?_
            refine aw_get (q0 := 0) (k := 14) C iFX3 k_60 rfl rfl rfl rfl dX3_layLeast_256 ?_
            refine aw_ldI (q0 := 7) C rfl (by omega) (by omega) rfl dX3_layLeast_259 ?_
            exact aw_iret C dX3_layLeast_260 ⟨by
              first
              | (have e9 := TM_fw hI g7 (c := S.1 8) (by omega) (by omega)
                 rw [show ci (S.1 8) = 5 from if_pos c248] at e9
                 exact e9)
              | (have e9 := TM_fw hI g7 (c := S.1 8) (by omega) (by omega)
                 rw [show ci (S.1 8) = S.1 8 from if_neg c248] at e9
                 exact e9), P9, rfl, g5, g6, g7⟩
          · refine aw_iconst C dX3_layLeast_251 ?_
            refine aw_goto (tgt := 259) C dX3_layLeast_252 (by decide) ?_
            refine aw_ldI (q0 := 7) C rfl (by omega) (by omega) rfl dX3_layLeast_259 ?_
            exact aw_iret C dX3_layLeast_260 ⟨by
              first
              | (have e9 := TM_fw hI g7 (c := S.1 8) (by omega) (by omega)
                 rw [show ci (S.1 8) = 5 from if_pos c248] at e9
                 exact e9)
              | (have e9 := TM_fw hI g7 (c := S.1 8) (by omega) (by omega)
                 rw [show ci (S.1 8) = S.1 8 from if_neg c248] at e9
                 exact e9), P9, rfl, g5, g6, g7⟩
        · exfalso
          omega
  have lp1 : ∀ (n : Nat) (k : Nat), (k : Int) ≤ S.1 0 → S.1 0 - k < n → AW p l e (headSpec wsX3_layLeast ({ frames := 0, cells := 0, slots := 0, locals := 0 } : Room)).room s m args below meth c 8 G A s.heap 0 0 (MQ below (QPi G (fun r u => r = fwS S (S.1 8) ∧ ∃ P9 : St, u = WM G.2 am S P9 ∧ P9.1 = P.1 ∧ WG S P9 ∧ TM S P9 (-1)) A) args s 0 0 A) (WM G.2 am S (wgN S P k)) [(0, .ref (am 0)), (1, .int (zI k))] 9 [] := by
    intro n
    induction n with
    | zero =>
      intro k h1 h2
      exfalso
      omega
    | succ n ih =>
      intro k h1 h2
      refine aw_iload_n C dX3_layLeast_9 rfl ?_
      refine aw_aload_n C dX3_layLeast_10 rfl ?_
      refine aw_get (q0 := 0) (k := 0) C iFX3 k_39 rfl rfl rfl rfl dX3_layLeast_11 ?_
      refine aw_icmp_ge (tgt := 46) C dX3_layLeast_14 (by decide) (by omega) (by omega) (fun c14 => ?_) (fun c14 => ?_)
      · refine aw_aload_n C dX3_layLeast_46 rfl ?_
        refine aw_get (q0 := 0) (k := 16) C iFX3 k_25 rfl rfl rfl rfl dX3_layLeast_47 ?_
        refine aw_aload_n C dX3_layLeast_50 rfl ?_
        refine aw_get (q0 := 0) (k := 0) C iFX3 k_39 rfl rfl rfl rfl dX3_layLeast_51 ?_
        refine aw_ldI (q0 := 6) C rfl (by omega) (by omega) rfl dX3_layLeast_54 ?_
        rw [wgN_at S P k (S.1 0) (by omega) (by omega), hst5]
        refine aw_iconst C dX3_layLeast_55 ?_
        refine aw_isub C dX3_layLeast_56 ?_
        refine aw_istore_n C dX3_layLeast_57 rfl rfl ?_
        exact lp2 433 (stN (S.2 0) 5 - 1) (wgN S P k) (by omega) (by omega) (by omega) (wgN_1 S P k) (fun j d0 d1 => wgN_at S P k j d0 (by omega)) (TM_0 hI)
      · refine aw_aload_n C dX3_layLeast_17 rfl ?_
        refine aw_get (q0 := 0) (k := 16) C iFX3 k_25 rfl rfl rfl rfl dX3_layLeast_18 ?_
        refine aw_iload_n C dX3_layLeast_21 rfl ?_
        refine aw_iconst C dX3_layLeast_22 ?_
        refine aw_iadd C dX3_layLeast_23 ?_
        refine aw_aload_n C dX3_layLeast_24 rfl ?_
        refine aw_get (q0 := 0) (k := 16) C iFX3 k_25 rfl rfl rfl rfl dX3_layLeast_25 ?_
        refine aw_iload_n C dX3_layLeast_28 rfl ?_
        refine aw_ldI (q0 := 6) C rfl (by omega) (by omega) rfl dX3_layLeast_29 ?_
        rw [wgN_at S P k k (by omega) (by omega), show (k : Int).toNat = k by omega]
        refine aw_aload_n C dX3_layLeast_30 rfl ?_
        refine aw_get (q0 := 0) (k := 6) C iFX3 k_13 rfl rfl rfl rfl dX3_layLeast_31 ?_
        refine aw_iload_n C dX3_layLeast_34 rfl ?_
        refine aw_ldI (q0 := 2) C rfl (by omega) (by omega) rfl dX3_layLeast_35 ?_
        refine aw_iconst C dX3_layLeast_36 ?_
        refine aw_iadd C dX3_layLeast_37 ?_
        refine aw_imul C dX3_layLeast_38 ?_
        refine aw_stI (q0 := 6) C rfl (by omega) (by omega) rfl (wm_a6 _ _ _ _ _ _) dX3_layLeast_39 ?_
        refine aw_iinc C dX3_layLeast_40 rfl rfl rfl ?_
        refine aw_goto (tgt := 9) C dX3_layLeast_43 (by decide) ?_
        exact ih (k + 1) (by omega) (by omega)
  refine aw_aload_n C dX3_layLeast_0 rfl ?_
  refine aw_get (q0 := 0) (k := 16) C iFX3 k_25 rfl rfl rfl rfl dX3_layLeast_1 ?_
  refine aw_iconst C dX3_layLeast_4 ?_
  refine aw_iconst C dX3_layLeast_5 ?_
  refine aw_stI (q0 := 6) C rfl (by omega) (by omega) rfl (wm_a6 _ _ _ _ _ _) dX3_layLeast_6 ?_
  refine aw_iconst C dX3_layLeast_7 ?_
  refine aw_istore_n C dX3_layLeast_8 rfl rfl ?_
  exact lp1 6 0 (by omega) (by omega)
