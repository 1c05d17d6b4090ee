/-! WHAT EACH CALL DOES, pure: k tells whether it throws, and which (0: it returns) -/
theorem ite_t {P : Prop} [Decidable P] (h : ¬ (if P then (1 : Int) else 0) = 0) : P := by
  by_cases e : P
  · exact e
  · rw [if_neg e] at h; exact absurd rfl h
theorem ite_f {P : Prop} [Decidable P] (h : (if P then (1 : Int) else 0) = 0) : ¬ P := fun e => by rw [if_pos e] at h; exact absurd h (by decide)
def kBeg (a b c : Int) : Int := if (1 ≤ a ∧ a ≤ 5) ∧ (1 ≤ b ∧ b ≤ 6) ∧ (1 ≤ c ∧ c ≤ 6) then 0 else 1
def sBeg (S : St) (a b c : Int) : St := fogS (us (us (us S 0 a) 1 b) 2 c)
def kSet (a b : Int) : Int := if (0 ≤ a ∧ a ≤ 2) ∧ (0 ≤ b ∧ b ≤ 2) then 0 else 1
def sSet (S : St) (a b : Int) : St := us (us S 3 a) 4 b
def kArr (S : St) (c : Int) : Int := if ¬ (0 ≤ c ∧ c ≤ 4) then 1 else if 99 ≤ S.1 5 ∨ inS S c = -1 then 2 else 0
def sArr (S : St) (c : Int) : St := putS (newS S c) (inS S c) (S.1 5)
def kArI (S : St) (c i : Int) : Int := if ¬ (0 ≤ c ∧ c ≤ 4) then 1 else if ¬ (0 ≤ i ∧ i < S.1 0) then 2 else if 99 ≤ S.1 5 ∨ S.1 1 ≤ S.2 0 i then 3 else 0
def sArI (S : St) (c i : Int) : St := putS (newS S c) i (S.1 5)
/-- how many are at a place -/
def cnS (S : St) (z : Int) : Int := cntN (S.2 2) z (S.1 5).toNat
def kRel (S : St) : Int := if S.1 2 ≤ cnS S 10 ∨ outS S = -1 then 1 else 0
def kReF (S : St) (i : Int) : Int := if ¬ (0 ≤ i ∧ i < S.1 0) then 1 else if S.2 0 i = 0 ∨ S.1 2 ≤ cnS S 10 then 2 else 0
def wtS (S : St) (i q : Int) : Int := S.2 1 (S.2 (10 + i.toNat) q)
def fwS (S : St) (c : Int) : Int := mC (S.2 0) (wtS S) (rmT (S.2 0) zT).toNat zT c
def fiS (S : St) (i c : Int) : Int := chg c (wtS S i 0) + mC (S.2 0) (wtS S) (rmT (S.2 0) (upT zT i)).toNat (upT zT i) (wtS S i 0)
def blS (S : St) : Int := fstB (fun i => decide (0 < S.2 0 i ∧ fiS S i (S.1 8) = fwS S (S.1 8))) 5
/-- how many are in lanes -/
def nlS (S : St) : Int := sumN (S.2 0) (S.1 0).toNat
def kReB (S : St) : Int := if S.1 2 ≤ cnS S 10 ∨ 12 < nlS S ∨ blS S = -1 then 1 else 0
def kSeB (S : St) (b : Int) : Int := if ¬ (0 ≤ b ∧ b < S.1 5) then 1 else if ¬ S.2 2 b = 10 then 2 else 0
def kRee (S : St) (b : Int) : Int := if ¬ (0 ≤ b ∧ b < S.1 5) then 1 else if ¬ S.2 2 b = 11 ∨ inS S (S.2 1 b) = -1 then 2 else 0
def lbS (S : St) : Int := fstB (fun b => decide (S.2 2 b = 10)) (S.1 5).toNat
def kAsm (S : St) : Int := if lbS S = -1 then 1 else 0
def asmS (S : St) (b : Int) : St := us (ua (ua (ua S 2 b 12) 4 b (S.1 6)) 3 (S.1 6) b) 6 (S.1 6 + 1)
def kBod (S : St) (b : Int) : Int := if 0 ≤ b ∧ b < S.1 5 then 0 else 1
def kLan (S : St) (i : Int) : Int := if 0 ≤ i ∧ i < S.1 0 then 0 else 1
def kBAt (S : St) (i j : Int) : Int := if (0 ≤ i ∧ i < S.1 0) ∧ (0 ≤ j ∧ j < S.2 0 i) then 0 else 1
def kAsA (S : St) (q : Int) : Int := if 0 ≤ q ∧ q < S.1 6 then 0 else 1
def kLat (S : St) (b : Int) : Int := if ¬ (0 ≤ b ∧ b < S.1 5) then 1 else if ¬ S.2 2 b = 12 then 2 else 0
def wlN (S : St) : Nat → Int
  | 0 => 0
  | n + 1 => if wlN S n < (n : Int) - S.2 3 n then (n : Int) - S.2 3 n else wlN S n
def kFew (S : St) (most : Int) : Int := if most < nlS S then 1 else 0
/-! the plan that the class copies, and the lanes -/
theorem mC_cong2 {sz sz' : Int → Int} {wt wt' : Int → Int → Int} (hs : ∀ i : Int, 0 ≤ i → i < 5 → sz i = sz' i) (hw : ∀ i q : Int, 0 ≤ i → i < 5 → 0 ≤ q → q < sz i → wt i q = wt' i q) : ∀ (f : Nat) (t : Int → Int) (c : Int), vT sz t → mC sz wt f t c = mC sz' wt' f t c
  | 0, _, _, _ => rfl
  | f + 1, t, c, hv => by
    refine mnL_congr (fun k h0 h5 => ⟨by rw [hs k h0 h5], fun hp => ?_⟩)
    have h2 := of_decide_eq_true hp
    rw [hw k (t k) h0 h5 (hv k h0 h5).1 h2, mC_cong2 hs hw f (upT t k) _ (vT_up hv h2)]
theorem rmT_sz {sz sz' t : Int → Int} (hs : ∀ i : Int, 0 ≤ i → i < 5 → sz i = sz' i) : rmT sz t = rmT sz' t := by
  unfold rmT
  rw [hs 0 (by omega) (by omega), hs 1 (by omega) (by omega), hs 2 (by omega) (by omega), hs 3 (by omega) (by omega), hs 4 (by omega) (by omega)]
theorem colS_at {S : St} (hI : Inv S) {i q : Int} (h0 : 0 ≤ i) (h5 : i < 5) (hq : 0 ≤ q) (hq2 : q < S.2 0 i) : colS S (atS S i q) = wtS S i q := by
  obtain ⟨hn, hz, hr, -⟩ := hI
  have h1 := hr i q h0 h5 hq hq2
  have e1 : atS S i q = S.2 (10 + i.toNat) q := if_pos ⟨hq, hq2⟩
  unfold colS wtS
  rw [e1, if_pos (by omega)]
theorem plS_w {S P : St} (hI : Inv S) (h : plS S P) : ∀ i q : Int, 0 ≤ i → i < 5 → 0 ≤ q → q < P.2 5 i → wtP P i q = wtS S i q := fun i q h0 h5 hq hq2 => by
  rw [h.1 i h0 h5] at hq2
  rw [wtP_at h5, h.2 i q h0 h5 hq hq2, colS_at hI h0 h5 hq hq2]
theorem nlS_5 {S : St} (hI : Inv S) : nlS S = S.2 0 0 + S.2 0 1 + S.2 0 2 + S.2 0 3 + S.2 0 4 := by
  obtain ⟨hn, hz, -⟩ := hI
  have z0 := hz 0 (by omega) (by omega)
  have z1 := hz 1 (by omega) (by omega)
  have z2 := hz 2 (by omega) (by omega)
  have z3 := hz 3 (by omega) (by omega)
  have z4 := hz 4 (by omega) (by omega)
  unfold nlS
  have hc : S.1 0 = 1 ∨ S.1 0 = 2 ∨ S.1 0 = 3 ∨ S.1 0 = 4 ∨ S.1 0 = 5 := by omega
  rcases hc with e | e | e | e | e
  · rw [e]
    show 0 + S.2 0 0 = _
    omega
  · rw [e]
    show 0 + S.2 0 0 + S.2 0 1 = _
    omega
  · rw [e]
    show 0 + S.2 0 0 + S.2 0 1 + S.2 0 2 = _
    omega
  · rw [e]
    show 0 + S.2 0 0 + S.2 0 1 + S.2 0 2 + S.2 0 3 = _
    omega
  · rw [e]
    show 0 + S.2 0 0 + S.2 0 1 + S.2 0 2 + S.2 0 3 + S.2 0 4 = _
    omega
theorem plS_V {S P : St} (hI : Inv S) (h : plS S P) (hs : nlS S ≤ 12) : PV P := by
  have h5 := nlS_5 hI
  have e := h.1
  refine ⟨fun i h0 h5 => ?_, ?_, fun i q h0 h5 hq hq2 => ?_⟩
  · rw [e i h0 h5]
    have := hI.2.1 i h0 h5
    have := hI.1
    omega
  · rw [e 0 (by omega) (by omega), e 1 (by omega) (by omega), e 2 (by omega) (by omega), e 3 (by omega) (by omega), e 4 (by omega) (by omega)]
    omega
  · have hw := plS_w hI h i q h0 h5 hq hq2
    rw [wtP_at h5] at hw
    rw [e i h0 h5] at hq2
    rw [hw]
    have h1 := hI.2.2.1 i q h0 h5 hq hq2
    have h2 := hI.2.2.2.1 (S.2 (10 + i.toNat) q) h1.1 h1.2
    unfold wtS
    omega
theorem fwP_S {S P : St} (hI : Inv S) (h : plS S P) (hs : nlS S ≤ 12) (c : Int) : fwP P c = fwS S c := by
  unfold fwP fwS
  rw [mC_cong2 (sz' := S.2 0) (wt' := wtS S) h.1 (plS_w hI h) _ _ _ (vT_z (plS_V hI h hs)), rmT_sz (sz' := S.2 0) h.1]
theorem fiP_S {S P : St} (hI : Inv S) (h : plS S P) (hs : nlS S ≤ 12) {i : Int} (h0 : 0 ≤ i) (h5 : i < 5) (hp : 0 < P.2 5 i) (c : Int) : fiP P i c = fiS S i c := by
  unfold fiP fiS
  rw [mC_cong2 (sz' := S.2 0) (wt' := wtS S) h.1 (plS_w hI h) _ _ _ (vT_up (vT_z (plS_V hI h hs)) hp), rmT_sz (sz' := S.2 0) h.1, plS_w hI h i 0 h0 h5 (Int.le_refl 0) hp]
theorem blP_S {S P : St} (hI : Inv S) (h : plS S P) (hs : nlS S ≤ 12) : blP P (S.1 8) = blS S := by
  unfold blP blS
  refine fstB_congr (fun k h0 h5 => ?_)
  rw [h.1 k h0 h5, fwP_S hI h hs]
  by_cases hp : 0 < S.2 0 k
  · rw [fiP_S hI h hs h0 h5 (by rw [h.1 k h0 h5]; exact hp)]
  · rw [decide_eq_false (fun x => hp x.1), decide_eq_false (fun x => hp x.1)]
theorem inS_b {S : St} (hI : Inv S) (c : Int) : -1 ≤ inS S c ∧ inS S c < S.1 0 := by
  obtain ⟨hn, hz, -⟩ := hI
  have h1 := fstB_b (fun i => decide (S.2 0 i < S.1 1 ∧ colS S (atS S i (S.2 0 i - 1)) = c)) (S.1 0).toNat
  have h2 := emN_b S (S.1 0).toNat
  have h3 := trN_b S (by omega) (S.1 0).toNat (S.1 7) (by omega) (by omega)
  unfold inS e1S
  split
  · split <;> omega
  · split
    · split <;> omega
    · omega
theorem emN_room {S : St} : ∀ n : Nat, ¬ emN S n = -1 → S.2 0 (emN S n) < S.1 1
  | 0, h => absurd rfl h
  | n + 1, h => by
    have ih := emN_room (S := S) n
    unfold emN at h ⊢
    by_cases e : S.2 0 n < (if emN S n = -1 then S.1 1 else S.2 0 (emN S n))
    · rw [if_pos e]
      split at e
      · exact e
      · rename_i e2
        have := ih e2
        omega
    · rw [if_neg e] at h ⊢
      exact ih h
theorem trN_room {S : St} : ∀ (k : Nat) (i : Int), ¬ trN S k i = -1 → S.2 0 (trN S k i) < S.1 1
  | 0, _, h => absurd rfl h
  | k + 1, i, h => by
    unfold trN at h ⊢
    by_cases e : S.2 0 i < S.1 1
    · rw [if_pos e]; exact e
    · rw [if_neg e] at h ⊢
      exact trN_room k _ h
theorem inS_room {S : St} {c : Int} (h : ¬ inS S c = -1) : S.2 0 (inS S c) < S.1 1 := by
  unfold inS at h ⊢
  by_cases e1 : S.1 3 = 1
  · rw [if_pos e1] at h ⊢
    by_cases e2 : e1S S c = -1
    · rw [if_pos e2] at h ⊢
      exact emN_room _ h
    · rw [if_neg e2]
      exact (of_decide_eq_true (fstB_ok e2)).1
  · rw [if_neg e1] at h ⊢
    by_cases e2 : S.1 3 = 2
    · rw [if_pos e2] at h ⊢
      by_cases e3 : trN S (S.1 0).toNat (S.1 7) = -1
      · rw [if_pos e3] at h ⊢
        exact emN_room _ h
      · rw [if_neg e3]
        exact trN_room _ _ e3
    · rw [if_neg e2] at h ⊢
      exact emN_room _ h
theorem outS_b {S : St} : -1 ≤ outS S ∧ outS S < (S.1 0).toNat ∨ outS S = -1 := by
  have h1 := lhN_b (fitS S (S.1 8) 1) S (S.1 0).toNat
  have h2 := lhN_b (fitS S (-2) (if S.1 4 = 2 then mxN S (S.1 0).toNat else 1)) S (S.1 0).toNat
  unfold outS alS
  split
  · omega
  · split <;> omega
theorem outS_pos {S : St} (h : ¬ outS S = -1) : 0 < S.2 0 (outS S) := by
  have key : ∀ c sh : Int, ¬ lhN (fitS S c sh) S (S.1 0).toNat = -1 → 0 < S.2 0 (lhN (fitS S c sh) S (S.1 0).toNat) := fun c sh h9 => by
    have h1 := (of_decide_eq_true (lhN_ok h9)).1
    unfold atS at h1
    by_cases e : (0 : Int) ≤ 0 ∧ 0 < S.2 0 (lhN (fitS S c sh) S (S.1 0).toNat)
    · exact e.2
    · rw [if_neg e] at h1
      exact absurd rfl h1
  unfold outS at h ⊢
  by_cases e : alS S = -1
  · rw [if_pos e] at h ⊢
    exact key _ _ h
  · rw [if_neg e]
    unfold alS at e ⊢
    by_cases e2 : S.1 4 = 0
    · rw [if_pos e2] at e
      exact absurd rfl e
    · rw [if_neg e2] at e ⊢
      exact key _ _ e
/-- no more numbers under n than n, all different -/
theorem php : ∀ (n a : Nat) (f : Nat → Nat), (∀ i, i < a → f i < n) → (∀ i j, i < a → j < a → f i = f j → i = j) → a ≤ n
  | 0, a, f, h, _ => by
    rcases Nat.eq_zero_or_pos a with e | e
    · omega
    · exact absurd (h 0 e) (by omega)
  | n + 1, 0, _, _, _ => by omega
  | n + 1, a + 1, f, h, hi => by
    have k := php n a (fun i => if f i = n then f a else f i) (fun i hi2 => by
      have h1 := h i (by omega)
      have h2 := h a (by omega)
      split
      · rename_i e
        have : ¬ f a = n := fun e2 => by
          have := hi i a (by omega) (by omega) (by rw [e, e2])
          omega
        omega
      · omega) (fun i j g1 g2 g3 => by
      have h1 := hi i j (by omega) (by omega)
      have h2 := hi i a (by omega) (by omega)
      have h3 := hi j a (by omega) (by omega)
      split at g3
      · split at g3
        · exact h1 (by omega)
        · have := h3 g3.symm
          omega
      · split at g3
        · have := h2 g3
          omega
        · exact h1 g3)
    omega
/-- a body that isn't assembled leaves room in the order -/
theorem asm_lt {S : St} (hI : Inv S) {b : Int} (h0 : 0 ≤ b) (h1 : b < S.1 5) (h2 : ¬ S.2 2 b = 12) : S.1 6 < S.1 5 := by
  obtain ⟨hn, hz, hr, hc, hp, ha, hq, ht⟩ := hI
  have key : ∀ i : Nat, i < (S.1 6).toNat → 0 ≤ S.2 3 i ∧ S.2 3 i < S.1 5 ∧ S.2 2 (S.2 3 i) = 12 ∧ S.2 4 (S.2 3 i) = i := fun i hi => ha i (by omega) (by omega)
  have k := php (S.1 5).toNat ((S.1 6).toNat + 1) (fun i => if i < (S.1 6).toNat then (S.2 3 i).toNat else b.toNat) (fun i hi => by
    split
    · rename_i e
      have := key i e
      omega
    · omega) (fun i j hi hj e => by
    split at e
    · rename_i ei
      have ki := key i ei
      split at e
      · rename_i ej
        have kj := key j ej
        have e2 : S.2 3 i = S.2 3 j := by omega
        have e3 := ki.2.2.2
        rw [e2, kj.2.2.2] at e3
        omega
      · have e2 : S.2 3 i = b := by omega
        rw [e2] at ki
        exact absurd ki.2.2.1 h2
    · split at e
      · rename_i ej
        have kj := key j ej
        have e2 : S.2 3 j = b := by omega
        rw [e2] at kj
        exact absurd kj.2.2.1 h2
      · omega)
  omega
theorem newS_2 (S : St) (c : Int) : (newS S c).2 0 = S.2 0 := by
  show (ua S 1 (S.1 5) c).2 0 = S.2 0
  exact ua_m _ _ _ _ (by decide)
theorem blS_b (S : St) : -1 ≤ blS S ∧ blS S < 5 := fstB_b _ 5
theorem blS_pos {S : St} (h : ¬ blS S = -1) : 0 < S.2 0 (blS S) := (of_decide_eq_true (fstB_ok h)).1

set_option maxHeartbeats 4000000 in
set_option maxRecDepth 100000 in
theorem c_X2_bodies {l : Launch} {G : va_G × (Nat → ClassId)} {ad : Nat → Nat} {S P : St} : Mi l G yX2_bodies wsX2_bodies ({ frames := 0, cells := 0, slots := 0, locals := 0 } : Room) [.ref (ad 0)] (WX G.2 ad S P) (fun r u => r = S.1 5 ∧ u = (WX G.2 ad S P)) := by
  refine Mi.of (own := RX2) (cc := cX2_bodies) (maxL := 1) (ret := (some .int)) (by decide) rfl rfl rfl ?_
  intro p e s m args below meth c A C hN
  have hts := C.2.2.2.2.1
  have iFX2 : ∀ w ∈ u_ws RX2 TX2 17, w ∈ wsX2_bodies := by decide +kernel
  have k_60 := hts (.fieldLink RX2 60 "PaintSequencer" "bodies" "I") (by decide +kernel)
  refine aw_aload_n C dX2_bodies_0 rfl ?_
  refine aw_get (q0 := 0) (k := 11) C iFX2 k_60 rfl rfl rfl rfl dX2_bodies_1 ?_
  exact aw_iret C dX2_bodies_4 ⟨rfl, rfl⟩
set_option maxHeartbeats 4000000 in
set_option maxRecDepth 100000 in
theorem c_X2_changes {l : Launch} {G : va_G × (Nat → ClassId)} {ad : Nat → Nat} {S P : St} : Mi l G yX2_changes wsX2_changes ({ frames := 0, cells := 0, slots := 0, locals := 0 } : Room) [.ref (ad 0)] (WX G.2 ad S P) (fun r u => r = S.1 9 ∧ u = (WX G.2 ad S P)) := by
  refine Mi.of (own := RX2) (cc := cX2_changes) (maxL := 1) (ret := (some .int)) (by decide) rfl rfl rfl ?_
  intro p e s m args below meth c A C hN
  have hts := C.2.2.2.2.1
  have iFX2 : ∀ w ∈ u_ws RX2 TX2 17, w ∈ wsX2_changes := by decide +kernel
  have k_175 := hts (.fieldLink RX2 175 "PaintSequencer" "changes" "I") (by decide +kernel)
  refine aw_aload_n C dX2_changes_0 rfl ?_
  refine aw_get (q0 := 0) (k := 15) C iFX2 k_175 rfl rfl rfl rfl dX2_changes_1 ?_
  exact aw_iret C dX2_changes_4 ⟨rfl, rfl⟩
set_option maxHeartbeats 4000000 in
set_option maxRecDepth 100000 in
theorem c_X2_released {l : Launch} {G : va_G × (Nat → ClassId)} {ad : Nat → Nat} {S P : St} : Mi l G yX2_released wsX2_released ({ frames := 0, cells := 0, slots := 0, locals := 0 } : Room) [.ref (ad 0)] (WX G.2 ad S P) (fun r u => r = S.1 10 ∧ u = (WX G.2 ad S P)) := by
  refine Mi.of (own := RX2) (cc := cX2_released) (maxL := 1) (ret := (some .int)) (by decide) rfl rfl rfl ?_
  intro p e s m args below meth c A C hN
  have hts := C.2.2.2.2.1
  have iFX2 : ∀ w ∈ u_ws RX2 TX2 17, w ∈ wsX2_released := by decide +kernel
  have k_178 := hts (.fieldLink RX2 178 "PaintSequencer" "released" "I") (by decide +kernel)
  refine aw_aload_n C dX2_released_0 rfl ?_
  refine aw_get (q0 := 0) (k := 16) C iFX2 k_178 rfl rfl rfl rfl dX2_released_1 ?_
  exact aw_iret C dX2_released_4 ⟨rfl, rfl⟩
set_option maxHeartbeats 4000000 in
set_option maxRecDepth 100000 in
theorem c_X2_stored {l : Launch} {G : va_G × (Nat → ClassId)} {ad : Nat → Nat} {S P : St} (hI : Inv S) : Mi l G yX2_stored wsX2_stored ({ frames := 1, cells := 0, slots := 0, locals := 23 } : Room) [.ref (ad 0)] (WX G.2 ad S P) (fun r u => r = cnS S 10 ∧ u = (WX G.2 ad S P)) := by
  refine Mi.of (own := RX2) (cc := cX2_stored) (maxL := 1) (ret := (some .int)) (by decide) rfl rfl rfl ?_
  intro p e s m args below meth c A C hN
  have hts := C.2.2.2.2.1
  obtain ⟨hn, hz, hr, hc, hp, ha, hq, ht⟩ := id hI
  refine aw_aload_n C dX2_stored_0 rfl ?_
  refine aw_bipush C dX2_stored_1 rfl ?_
  refine cV1i (ci := 2) (q0 := 0) C hN (c_X2_countAt (by omega) hp (by omega)) (cwV 1 hts gX2_stored_X2_countAt rfl rfl rfl (by decide +kernel) ⟨Nat.le_of_ble_eq_true rfl, Nat.le_of_ble_eq_true rfl⟩) rfl rfl rfl rfl dX2_stored_3 ⟨Nat.zero_le _, Nat.zero_le _⟩ (fun r3 u3 q3 => ?_)
  obtain ⟨rfl, rfl⟩ := q3
  exact aw_iret C dX2_stored_6 ⟨rfl, rfl⟩
set_option maxHeartbeats 4000000 in
set_option maxRecDepth 100000 in
theorem c_X2_worstLateness {l : Launch} {G : va_G × (Nat → ClassId)} {ad : Nat → Nat} {S P : St} (hI : Inv S) : Mi l G yX2_worstLateness wsX2_worstLateness ({ frames := 0, cells := 0, slots := 0, locals := 0 } : Room) [.ref (ad 0)] (WX G.2 ad S P) (fun r u => r = wlN S (S.1 6).toNat ∧ u = (WX G.2 ad S P)) := by
  refine Mi.of (own := RX2) (cc := cX2_worstLateness) (maxL := 4) (ret := (some .int)) (by decide) rfl rfl rfl ?_
  intro p e s m args below meth c A C hN
  have hts := C.2.2.2.2.1
  have iFX2 : ∀ w ∈ u_ws RX2 TX2 17, w ∈ wsX2_worstLateness := by decide +kernel
  have k_161 := hts (.fieldLink RX2 161 "PaintSequencer" "assembled" "I") (by decide +kernel)
  have k_26 := hts (.fieldLink RX2 26 "PaintSequencer" "order" "[I") (by decide +kernel)
  obtain ⟨hn, hz, hr, hc, hp, ha, hq, ht⟩ := id hI
  have lp : ∀ (n : Nat) (k : Nat), (k : Int) ≤ S.1 6 → S.1 6 - k < n → (0 ≤ wlN S k ∧ wlN S k ≤ 99) → AW p l e (headSpec wsX2_worstLateness ({ frames := 0, cells := 0, slots := 0, locals := 0 } : Room)).room s m args below meth c 4 G A s.heap 0 0 (MQ below (QPi G (fun r u => r = wlN S (S.1 6).toNat ∧ u = (WX G.2 ad S P)) A) args s 0 0 A) (WX G.2 ad S P) [(0, .ref (ad 0)), (1, .int (zI (wlN S k))), (2, .int (zI k))] 4 [] := by
    intro n
    induction n with
    | zero =>
      intro k h1 h2 h3
      exfalso
      omega
    | succ n ih =>
      intro k h1 h2 h3
      refine aw_iload_n C dX2_worstLateness_4 rfl ?_
      refine aw_aload_n C dX2_worstLateness_5 rfl ?_
      refine aw_get (q0 := 0) (k := 12) C iFX2 k_161 rfl rfl rfl rfl dX2_worstLateness_6 ?_
      refine aw_icmp_ge (tgt := 34) C dX2_worstLateness_9 (by decide) (by omega) (by omega) (fun c9 => ?_) (fun c9 => ?_)
      · refine aw_iload_n C dX2_worstLateness_34 rfl ?_
        exact aw_iret C dX2_worstLateness_35 ⟨by rw [show (S.1 6).toNat = k by omega], rfl⟩
      · refine aw_iload_n C dX2_worstLateness_12 rfl ?_
        refine aw_aload_n C dX2_worstLateness_13 rfl ?_
        refine aw_get (q0 := 0) (k := 4) C iFX2 k_26 rfl rfl rfl rfl dX2_worstLateness_14 ?_
        refine aw_iload_n C dX2_worstLateness_17 rfl ?_
        refine aw_ldI (q0 := 15) C rfl (by omega) (by omega) rfl dX2_worstLateness_18 ?_
        have h7 := ha k (by omega) (by omega)
        refine aw_isub C dX2_worstLateness_19 ?_
        refine aw_istore_n C dX2_worstLateness_20 rfl rfl ?_
        refine aw_iload_n C dX2_worstLateness_21 rfl ?_
        refine aw_iload_n C dX2_worstLateness_22 rfl ?_
        refine aw_icmp_le (tgt := 28) C dX2_worstLateness_23 (by decide) (by omega) (by omega) (fun c23 => ?_) (fun c23 => ?_)
        · refine aw_iinc C dX2_worstLateness_28 rfl rfl rfl ?_
          refine aw_goto (tgt := 4) C dX2_worstLateness_31 (by decide) ?_
          first
          | (have e8 : wlN S (k + 1) = (k : Int) - S.2 3 k := if_pos c23
             have h8 := ih (k + 1) (by omega) (by omega) (by omega)
             rw [e8] at h8
             refine aw_less ?_ h8
             exact fun q hq => List.mem_of_mem_take (i := 3) hq)
          | (have e8 : wlN S (k + 1) = wlN S k := if_neg (Int.not_lt.mpr c23)
             have h8 := ih (k + 1) (by omega) (by omega) (by omega)
             rw [e8] at h8
             refine aw_less ?_ h8
             exact fun q hq => List.mem_of_mem_take (i := 3) hq)
        · refine aw_iload_n C dX2_worstLateness_26 rfl ?_
          refine aw_istore_n C dX2_worstLateness_27 rfl rfl ?_
          refine aw_iinc C dX2_worstLateness_28 rfl rfl rfl ?_
          refine aw_goto (tgt := 4) C dX2_worstLateness_31 (by decide) ?_
          first
          | (have e8 : wlN S (k + 1) = (k : Int) - S.2 3 k := if_pos c23
             have h8 := ih (k + 1) (by omega) (by omega) (by omega)
             rw [e8] at h8
             refine aw_less ?_ h8
             exact fun q hq => List.mem_of_mem_take (i := 3) hq)
          | (have e8 : wlN S (k + 1) = wlN S k := if_neg (Int.not_lt.mpr c23)
             have h8 := ih (k + 1) (by omega) (by omega) (by omega)
             rw [e8] at h8
             refine aw_less ?_ h8
             exact fun q hq => List.mem_of_mem_take (i := 3) hq)
  refine aw_iconst C dX2_worstLateness_0 ?_
  refine aw_istore_n C dX2_worstLateness_1 rfl rfl ?_
  refine aw_iconst C dX2_worstLateness_2 ?_
  refine aw_istore_n C dX2_worstLateness_3 rfl rfl ?_
  exact lp 100 0 (by omega) (by omega) ⟨Int.le_refl 0, by show (0 : Int) ≤ 99; decide⟩
set_option maxHeartbeats 4000000 in
set_option maxRecDepth 100000 in
theorem c_X2_begin {l : Launch} (hl : l.stackTraces = false) {G : va_G × (Nat → ClassId)} {sa : Nat → Nat} {ad : Nat → Nat} {S P : St} {a b z : Int} (ha : -2147483648 ≤ a ∧ a < 2147483648) (hb : -2147483648 ≤ b ∧ b < 2147483648) (hz : -2147483648 ≤ z ∧ z < 2147483648) : Xi l G sa yX2_begin wsX2_begin ({ frames := 6, cells := 1, slots := 6, locals := 90 } : Room) [.ref (ad 0), .int (zI a), .int (zI b), .int (zI z)] (WX G.2 ad S P) (fun r u => kBeg a b z = 0 ∧ r = S.1 5 ∧ ∃ P9 : St, u = WX G.2 ad (sBeg S a b z) P9) (fun E u => ((E = eIAE ∧ kBeg a b z = 1)) ∧ ∃ P9 : St, u = WX G.2 ad S P9) := by
  refine Xi.of (own := RX2) (cc := cX2_begin) (maxL := 5) (ret := (some .int)) hl (by decide) rfl rfl rfl ?_
  intro p e s m args below meth c A C hN X9
  have hts := C.2.2.2.2.1
  have iFX2 : ∀ w ∈ u_ws RX2 TX2 17, w ∈ wsX2_begin := by decide +kernel
  have k_60 := hts (.fieldLink RX2 60 "PaintSequencer" "bodies" "I") (by decide +kernel)
  have k_36 := hts (.fieldLink RX2 36 "PaintSequencer" "laneCount" "I") (by decide +kernel)
  have k_40 := hts (.fieldLink RX2 40 "PaintSequencer" "depth" "I") (by decide +kernel)
  have k_43 := hts (.fieldLink RX2 43 "PaintSequencer" "storeRoom" "I") (by decide +kernel)
  refine aw_iload_n C dX2_begin_0 rfl ?_
  refine aw_iconst C dX2_begin_1 ?_
  refine aw_icmp_lt (tgt := 10) C dX2_begin_2 (by decide) (by omega) (by omega) (fun c2 => ?_) (fun c2 => ?_)
  · exact aw_throw (is := 51) C X9 (by decide +kernel) (hts (.classLink RX2 49 eIAE) (by decide +kernel)) (hts (.initialized eIAE) (by decide +kernel)) (X9.2.1.2.2.2 (51, "lanes is out of range") (by decide +kernel)) (at_good hts (by decide +kernel) no_IAE X9.2.1.2.1.1 X9.2.1) ok_IAE dX2_begin_10 dX2_begin_13 dX2_begin_14 dX2_begin_16 dX2_begin_19 ⟨rfl, rfl, rfl, rfl⟩ ⟨⟨rfl, (by unfold kBeg; first | rw [if_pos (by omega)] | rw [if_neg (by omega), if_pos (by omega)] | rw [if_neg (by omega), if_neg (by omega), if_pos (by omega)] | rw [if_neg (by omega), if_neg (by omega), if_neg (by omega), if_pos (by omega)] | rw [if_neg (by omega), if_neg (by omega), if_neg (by omega), if_neg (by omega)] | rw [if_neg (by omega), if_neg (by omega), if_neg (by omega)] | rw [if_neg (by omega), if_neg (by omega)] | rw [if_neg (by omega)])⟩, _, rfl⟩
  · refine aw_iload_n C dX2_begin_5 rfl ?_
    refine aw_iconst C dX2_begin_6 ?_
    refine aw_icmp_le (tgt := 20) C dX2_begin_7 (by decide) (by omega) (by omega) (fun c7 => ?_) (fun c7 => ?_)
    · refine aw_iload_n C dX2_begin_20 rfl ?_
      refine aw_iconst C dX2_begin_21 ?_
      refine aw_icmp_lt (tgt := 31) C dX2_begin_22 (by decide) (by omega) (by omega) (fun c22 => ?_) (fun c22 => ?_)
      · exact aw_throw (is := 56) C X9 (by decide +kernel) (hts (.classLink RX2 49 eIAE) (by decide +kernel)) (hts (.initialized eIAE) (by decide +kernel)) (X9.2.1.2.2.2 (56, "depth is out of range") (by decide +kernel)) (at_good hts (by decide +kernel) no_IAE X9.2.1.2.1.1 X9.2.1) ok_IAE dX2_begin_31 dX2_begin_34 dX2_begin_35 dX2_begin_37 dX2_begin_40 ⟨rfl, rfl, rfl, rfl⟩ ⟨⟨rfl, (by unfold kBeg; first | rw [if_pos (by omega)] | rw [if_neg (by omega), if_pos (by omega)] | rw [if_neg (by omega), if_neg (by omega), if_pos (by omega)] | rw [if_neg (by omega), if_neg (by omega), if_neg (by omega), if_pos (by omega)] | rw [if_neg (by omega), if_neg (by omega), if_neg (by omega), if_neg (by omega)] | rw [if_neg (by omega), if_neg (by omega), if_neg (by omega)] | rw [if_neg (by omega), if_neg (by omega)] | rw [if_neg (by omega)])⟩, _, rfl⟩
      · refine aw_iload_n C dX2_begin_25 rfl ?_
        refine aw_bipush C dX2_begin_26 rfl ?_
        refine aw_icmp_le (tgt := 41) C dX2_begin_28 (by decide) (by omega) (by omega) (fun c28 => ?_) (fun c28 => ?_)
        · refine aw_iload_n C dX2_begin_41 rfl ?_
          refine aw_iconst C dX2_begin_42 ?_
          refine aw_icmp_lt (tgt := 52) C dX2_begin_43 (by decide) (by omega) (by omega) (fun c43 => ?_) (fun c43 => ?_)
          · exact aw_throw (is := 58) C X9 (by decide +kernel) (hts (.classLink RX2 49 eIAE) (by decide +kernel)) (hts (.initialized eIAE) (by decide +kernel)) (X9.2.1.2.2.2 (58, "store is out of range") (by decide +kernel)) (at_good hts (by decide +kernel) no_IAE X9.2.1.2.1.1 X9.2.1) ok_IAE dX2_begin_52 dX2_begin_55 dX2_begin_56 dX2_begin_58 dX2_begin_61 ⟨rfl, rfl, rfl, rfl⟩ ⟨⟨rfl, (by unfold kBeg; first | rw [if_pos (by omega)] | rw [if_neg (by omega), if_pos (by omega)] | rw [if_neg (by omega), if_neg (by omega), if_pos (by omega)] | rw [if_neg (by omega), if_neg (by omega), if_neg (by omega), if_pos (by omega)] | rw [if_neg (by omega), if_neg (by omega), if_neg (by omega), if_neg (by omega)] | rw [if_neg (by omega), if_neg (by omega), if_neg (by omega)] | rw [if_neg (by omega), if_neg (by omega)] | rw [if_neg (by omega)])⟩, _, rfl⟩
          · refine aw_iload_n C dX2_begin_46 rfl ?_
            refine aw_bipush C dX2_begin_47 rfl ?_
            refine aw_icmp_le (tgt := 62) C dX2_begin_49 (by decide) (by omega) (by omega) (fun c49 => ?_) (fun c49 => ?_)
            · refine aw_aload_n C dX2_begin_62 rfl ?_
              refine aw_get (q0 := 0) (k := 11) C iFX2 k_60 rfl rfl rfl rfl dX2_begin_63 ?_
              refine aw_istore C dX2_begin_66 rfl rfl ?_
              refine aw_aload_n C dX2_begin_68 rfl ?_
              refine aw_iload_n C dX2_begin_69 rfl ?_
              refine aw_put (q0 := 0) (k := 6) C iFX2 tyX2_ok nmX2 k_36 rfl rfl rfl rfl rfl rfl (wx_f6 _ _ _ _ _) dX2_begin_70 ?_
              refine aw_aload_n C dX2_begin_73 rfl ?_
              refine aw_iload_n C dX2_begin_74 rfl ?_
              refine aw_put (q0 := 0) (k := 7) C iFX2 tyX2_ok nmX2 k_40 rfl rfl rfl rfl rfl rfl (wx_f7 _ _ _ _ _) dX2_begin_75 ?_
              refine aw_aload_n C dX2_begin_78 rfl ?_
              refine aw_iload_n C dX2_begin_79 rfl ?_
              refine aw_put (q0 := 0) (k := 8) C iFX2 tyX2_ok nmX2 k_43 rfl rfl rfl rfl rfl rfl (wx_f8 _ _ _ _ _) dX2_begin_80 ?_
              refine aw_aload_n C dX2_begin_83 rfl ?_
              refine cV0v (ci := 2) (q0 := 0) C hN (c_X2_forgetBodies) (cwV 0 hts gX2_begin_X2_forgetBodies rfl rfl rfl (by decide +kernel) ⟨Nat.le_of_ble_eq_true rfl, Nat.le_of_ble_eq_true rfl⟩) rfl rfl rfl rfl dX2_begin_84 ⟨Nat.zero_le _, Nat.zero_le _⟩ (fun u84 q84 => ?_)
              obtain rfl := q84
              refine aw_iload C dX2_begin_87 rfl ?_
              exact aw_iretX C dX2_begin_89 ⟨(by unfold kBeg; first | rw [if_pos (by omega)] | rw [if_neg (by omega), if_pos (by omega)] | rw [if_neg (by omega), if_neg (by omega), if_pos (by omega)] | rw [if_neg (by omega), if_neg (by omega), if_neg (by omega), if_pos (by omega)] | rw [if_neg (by omega), if_neg (by omega), if_neg (by omega), if_neg (by omega)] | rw [if_neg (by omega), if_neg (by omega), if_neg (by omega)] | rw [if_neg (by omega), if_neg (by omega)] | rw [if_neg (by omega)]), rfl, _, rfl⟩
            · exact aw_throw (is := 58) C X9 (by decide +kernel) (hts (.classLink RX2 49 eIAE) (by decide +kernel)) (hts (.initialized eIAE) (by decide +kernel)) (X9.2.1.2.2.2 (58, "store is out of range") (by decide +kernel)) (at_good hts (by decide +kernel) no_IAE X9.2.1.2.1.1 X9.2.1) ok_IAE dX2_begin_52 dX2_begin_55 dX2_begin_56 dX2_begin_58 dX2_begin_61 ⟨rfl, rfl, rfl, rfl⟩ ⟨⟨rfl, (by unfold kBeg; first | rw [if_pos (by omega)] | rw [if_neg (by omega), if_pos (by omega)] | rw [if_neg (by omega), if_neg (by omega), if_pos (by omega)] | rw [if_neg (by omega), if_neg (by omega), if_neg (by omega), if_pos (by omega)] | rw [if_neg (by omega), if_neg (by omega), if_neg (by omega), if_neg (by omega)] | rw [if_neg (by omega), if_neg (by omega), if_neg (by omega)] | rw [if_neg (by omega), if_neg (by omega)] | rw [if_neg (by omega)])⟩, _, rfl⟩
        · exact aw_throw (is := 56) C X9 (by decide +kernel) (hts (.classLink RX2 49 eIAE) (by decide +kernel)) (hts (.initialized eIAE) (by decide +kernel)) (X9.2.1.2.2.2 (56, "depth is out of range") (by decide +kernel)) (at_good hts (by decide +kernel) no_IAE X9.2.1.2.1.1 X9.2.1) ok_IAE dX2_begin_31 dX2_begin_34 dX2_begin_35 dX2_begin_37 dX2_begin_40 ⟨rfl, rfl, rfl, rfl⟩ ⟨⟨rfl, (by unfold kBeg; first | rw [if_pos (by omega)] | rw [if_neg (by omega), if_pos (by omega)] | rw [if_neg (by omega), if_neg (by omega), if_pos (by omega)] | rw [if_neg (by omega), if_neg (by omega), if_neg (by omega), if_pos (by omega)] | rw [if_neg (by omega), if_neg (by omega), if_neg (by omega), if_neg (by omega)] | rw [if_neg (by omega), if_neg (by omega), if_neg (by omega)] | rw [if_neg (by omega), if_neg (by omega)] | rw [if_neg (by omega)])⟩, _, rfl⟩
    · exact aw_throw (is := 51) C X9 (by decide +kernel) (hts (.classLink RX2 49 eIAE) (by decide +kernel)) (hts (.initialized eIAE) (by decide +kernel)) (X9.2.1.2.2.2 (51, "lanes is out of range") (by decide +kernel)) (at_good hts (by decide +kernel) no_IAE X9.2.1.2.1.1 X9.2.1) ok_IAE dX2_begin_10 dX2_begin_13 dX2_begin_14 dX2_begin_16 dX2_begin_19 ⟨rfl, rfl, rfl, rfl⟩ ⟨⟨rfl, (by unfold kBeg; first | rw [if_pos (by omega)] | rw [if_neg (by omega), if_pos (by omega)] | rw [if_neg (by omega), if_neg (by omega), if_pos (by omega)] | rw [if_neg (by omega), if_neg (by omega), if_neg (by omega), if_pos (by omega)] | rw [if_neg (by omega), if_neg (by omega), if_neg (by omega), if_neg (by omega)] | rw [if_neg (by omega), if_neg (by omega), if_neg (by omega)] | rw [if_neg (by omega), if_neg (by omega)] | rw [if_neg (by omega)])⟩, _, rfl⟩
set_option maxHeartbeats 4000000 in
set_option maxRecDepth 100000 in
theorem c_X2_arriveIn {l : Launch} (hl : l.stackTraces = false) {G : va_G × (Nat → ClassId)} {sa : Nat → Nat} {ad : Nat → Nat} {S P : St} (hI : Inv S) {v i : Int} (hv : -2147483648 ≤ v ∧ v < 2147483648) (hi : -2147483648 ≤ i ∧ i < 2147483648) : Xi l G sa yX2_arriveIn wsX2_arriveIn ({ frames := 6, cells := 1, slots := 6, locals := 90 } : Room) [.ref (ad 0), .int (zI v), .int (zI i)] (WX G.2 ad S P) (fun r u => kArI S v i = 0 ∧ r = S.1 5 ∧ ∃ P9 : St, u = WX G.2 ad (sArI S v i) P9) (fun E u => ((E = eIAE ∧ kArI S v i = 1) ∨ (E = eIOB ∧ kArI S v i = 2) ∨ (E = eISE ∧ kArI S v i = 3)) ∧ ∃ P9 : St, u = WX G.2 ad S P9) := by
  refine Xi.of (own := RX2) (cc := cX2_arriveIn) (maxL := 4) (ret := (some .int)) hl (by decide) rfl rfl rfl ?_
  intro p e s m args below meth c A C hN X9
  have hts := C.2.2.2.2.1
  have iFX2 : ∀ w ∈ u_ws RX2 TX2 17, w ∈ wsX2_arriveIn := by decide +kernel
  have k_60 := hts (.fieldLink RX2 60 "PaintSequencer" "bodies" "I") (by decide +kernel)
  obtain ⟨hn, hz, hr, hc, hp, ha, hq, ht⟩ := id hI
  have hL9 : 1 ≤ S.1 0 ∧ S.1 0 ≤ 5 := by omega
  have hB9 : 0 ≤ S.1 5 ∧ S.1 5 ≤ 99 := by omega
  refine aw_iload_n C dX2_arriveIn_0 rfl ?_
  refine cS1i C hN (c_X2_isColour hv) (va_cwS 1 hts gX2_arriveIn_X2_isColour rfl rfl rfl (by decide +kernel) ⟨Nat.le_of_ble_eq_true rfl, Nat.le_of_ble_eq_true rfl⟩) rfl dX2_arriveIn_1 ⟨Nat.zero_le _, Nat.zero_le _⟩ (fun r1 u1 q1 => ?_)
  obtain ⟨rfl, rfl⟩ := q1
  refine aw_if_ne (tgt := 17) C dX2_arriveIn_4 (by decide) (by split <;> omega) (fun c4 => ?_) (fun c4 => ?_)
  · have d4 := ite_t c4
    refine aw_aload_n C dX2_arriveIn_17 rfl ?_
    refine aw_iload_n C dX2_arriveIn_18 rfl ?_
    refine cV1i (ci := 2) (q0 := 0) C hN (c_X2_isLane hL9 hi) (cwV 1 hts gX2_arriveIn_X2_isLane rfl rfl rfl (by decide +kernel) ⟨Nat.le_of_ble_eq_true rfl, Nat.le_of_ble_eq_true rfl⟩) rfl rfl rfl rfl dX2_arriveIn_19 ⟨Nat.zero_le _, Nat.zero_le _⟩ (fun r19 u19 q19 => ?_)
    obtain ⟨rfl, rfl⟩ := q19
    refine aw_if_ne (tgt := 35) C dX2_arriveIn_22 (by decide) (by split <;> omega) (fun c22 => ?_) (fun c22 => ?_)
    · have d22 := ite_t c22
      refine aw_aload_n C dX2_arriveIn_35 rfl ?_
      refine aw_get (q0 := 0) (k := 11) C iFX2 k_60 rfl rfl rfl rfl dX2_arriveIn_36 ?_
      refine aw_bipush C dX2_arriveIn_39 rfl ?_
      refine aw_icmp_lt (tgt := 54) C dX2_arriveIn_41 (by decide) (by omega) (by omega) (fun c41 => ?_) (fun c41 => ?_)
      · have h8 := hz i (by omega) (by omega)
        refine aw_aload_n C dX2_arriveIn_54 rfl ?_
        refine aw_iload_n C dX2_arriveIn_55 rfl ?_
        refine cV1i (ci := 2) (q0 := 0) C hN (c_X2_hasRoom (by omega) (by omega) (by omega) (by omega)) (cwV 1 hts gX2_arriveIn_X2_hasRoom rfl rfl rfl (by decide +kernel) ⟨Nat.le_of_ble_eq_true rfl, Nat.le_of_ble_eq_true rfl⟩) rfl rfl rfl rfl dX2_arriveIn_56 ⟨Nat.zero_le _, Nat.zero_le _⟩ (fun r56 u56 q56 => ?_)
        obtain ⟨rfl, rfl⟩ := q56
        refine aw_if_ne (tgt := 72) C dX2_arriveIn_59 (by decide) (by split <;> omega) (fun c59 => ?_) (fun c59 => ?_)
        · have d59 := ite_t c59
          refine aw_aload_n C dX2_arriveIn_72 rfl ?_
          refine aw_iload_n C dX2_arriveIn_73 rfl ?_
          refine cV1i (ci := 2) (q0 := 0) C hN (c_X2_newBody (by omega)) (cwV 1 hts gX2_arriveIn_X2_newBody rfl rfl rfl (by decide +kernel) ⟨Nat.le_of_ble_eq_true rfl, Nat.le_of_ble_eq_true rfl⟩) rfl rfl rfl rfl dX2_arriveIn_74 ⟨Nat.zero_le _, Nat.zero_le _⟩ (fun r74 u74 q74 => ?_)
          obtain ⟨rfl, rfl⟩ := q74
          refine aw_istore_n C dX2_arriveIn_77 rfl rfl ?_
          refine aw_aload_n C dX2_arriveIn_78 rfl ?_
          refine aw_iload_n C dX2_arriveIn_79 rfl ?_
          refine aw_iload_n C dX2_arriveIn_80 rfl ?_
          refine cV2v (ci := 2) (q0 := 0) C hN (c_X2_putInto (by exact hL9) (by omega) (by omega) (by rw [newS_2]; omega) (by omega)) (cwV 2 hts gX2_arriveIn_X2_putInto rfl rfl rfl (by decide +kernel) ⟨Nat.le_of_ble_eq_true rfl, Nat.le_of_ble_eq_true rfl⟩) rfl rfl rfl rfl dX2_arriveIn_81 ⟨Nat.zero_le _, Nat.zero_le _⟩ (fun u81 q81 => ?_)
          obtain rfl := q81
          refine aw_iload_n C dX2_arriveIn_84 rfl ?_
          exact aw_iretX C dX2_arriveIn_85 ⟨(by unfold kArI; first | rw [if_pos (by omega)] | rw [if_neg (by omega), if_pos (by omega)] | rw [if_neg (by omega), if_neg (by omega), if_pos (by omega)] | rw [if_neg (by omega), if_neg (by omega), if_neg (by omega), if_pos (by omega)] | rw [if_neg (by omega), if_neg (by omega), if_neg (by omega), if_neg (by omega)] | rw [if_neg (by omega), if_neg (by omega), if_neg (by omega)] | rw [if_neg (by omega), if_neg (by omega)] | rw [if_neg (by omega)]), rfl, _, rfl⟩
        · have d59 := ite_f c59
          exact aw_throw (is := 111) C X9 (by decide +kernel) (hts (.classLink RX2 82 eISE) (by decide +kernel)) (hts (.initialized eISE) (by decide +kernel)) (X9.2.1.2.2.2 (111, "the lane has no room") (by decide +kernel)) (at_good hts (by decide +kernel) no_ISE X9.2.1.2.1.2.1 X9.2.1) ok_ISE dX2_arriveIn_62 dX2_arriveIn_65 dX2_arriveIn_66 dX2_arriveIn_68 dX2_arriveIn_71 ⟨rfl, rfl, rfl, rfl⟩ ⟨(Or.inr (Or.inr ⟨rfl, (by unfold kArI; first | rw [if_pos (by omega)] | rw [if_neg (by omega), if_pos (by omega)] | rw [if_neg (by omega), if_neg (by omega), if_pos (by omega)] | rw [if_neg (by omega), if_neg (by omega), if_neg (by omega), if_pos (by omega)] | rw [if_neg (by omega), if_neg (by omega), if_neg (by omega), if_neg (by omega)] | rw [if_neg (by omega), if_neg (by omega), if_neg (by omega)] | rw [if_neg (by omega), if_neg (by omega)] | rw [if_neg (by omega)])⟩)), _, rfl⟩
      · exact aw_throw (is := 84) C X9 (by decide +kernel) (hts (.classLink RX2 82 eISE) (by decide +kernel)) (hts (.initialized eISE) (by decide +kernel)) (X9.2.1.2.2.2 (84, "there were 99 bodies") (by decide +kernel)) (at_good hts (by decide +kernel) no_ISE X9.2.1.2.1.2.1 X9.2.1) ok_ISE dX2_arriveIn_44 dX2_arriveIn_47 dX2_arriveIn_48 dX2_arriveIn_50 dX2_arriveIn_53 ⟨rfl, rfl, rfl, rfl⟩ ⟨(Or.inr (Or.inr ⟨rfl, (by unfold kArI; first | rw [if_pos (by omega)] | rw [if_neg (by omega), if_pos (by omega)] | rw [if_neg (by omega), if_neg (by omega), if_pos (by omega)] | rw [if_neg (by omega), if_neg (by omega), if_neg (by omega), if_pos (by omega)] | rw [if_neg (by omega), if_neg (by omega), if_neg (by omega), if_neg (by omega)] | rw [if_neg (by omega), if_neg (by omega), if_neg (by omega)] | rw [if_neg (by omega), if_neg (by omega)] | rw [if_neg (by omega)])⟩)), _, rfl⟩
    · have d22 := ite_f c22
      exact aw_throw (is := 105) C X9 (by decide +kernel) (hts (.classLink RX2 103 eIOB) (by decide +kernel)) (hts (.initialized eIOB) (by decide +kernel)) (X9.2.1.2.2.2 (105, "there is no such lane") (by decide +kernel)) (at_good hts (by decide +kernel) no_IOB X9.2.1.2.1.2.2 X9.2.1) ok_IOB dX2_arriveIn_25 dX2_arriveIn_28 dX2_arriveIn_29 dX2_arriveIn_31 dX2_arriveIn_34 ⟨rfl, rfl, rfl, rfl⟩ ⟨(Or.inr (Or.inl ⟨rfl, (by unfold kArI; first | rw [if_pos (by omega)] | rw [if_neg (by omega), if_pos (by omega)] | rw [if_neg (by omega), if_neg (by omega), if_pos (by omega)] | rw [if_neg (by omega), if_neg (by omega), if_neg (by omega), if_pos (by omega)] | rw [if_neg (by omega), if_neg (by omega), if_neg (by omega), if_neg (by omega)] | rw [if_neg (by omega), if_neg (by omega), if_neg (by omega)] | rw [if_neg (by omega), if_neg (by omega)] | rw [if_neg (by omega)])⟩)), _, rfl⟩
  · have d4 := ite_f c4
    exact aw_throw (is := 80) C X9 (by decide +kernel) (hts (.classLink RX2 49 eIAE) (by decide +kernel)) (hts (.initialized eIAE) (by decide +kernel)) (X9.2.1.2.2.2 (80, "colour is out of range") (by decide +kernel)) (at_good hts (by decide +kernel) no_IAE X9.2.1.2.1.1 X9.2.1) ok_IAE dX2_arriveIn_7 dX2_arriveIn_10 dX2_arriveIn_11 dX2_arriveIn_13 dX2_arriveIn_16 ⟨rfl, rfl, rfl, rfl⟩ ⟨Or.inl ⟨rfl, (by unfold kArI; first | rw [if_pos (by omega)] | rw [if_neg (by omega), if_pos (by omega)] | rw [if_neg (by omega), if_neg (by omega), if_pos (by omega)] | rw [if_neg (by omega), if_neg (by omega), if_neg (by omega), if_pos (by omega)] | rw [if_neg (by omega), if_neg (by omega), if_neg (by omega), if_neg (by omega)] | rw [if_neg (by omega), if_neg (by omega), if_neg (by omega)] | rw [if_neg (by omega), if_neg (by omega)] | rw [if_neg (by omega)])⟩, _, rfl⟩
set_option maxHeartbeats 4000000 in
set_option maxRecDepth 100000 in
theorem c_X2_releaseFrom {l : Launch} (hl : l.stackTraces = false) {G : va_G × (Nat → ClassId)} {sa : Nat → Nat} {ad : Nat → Nat} {S P : St} (hI : Inv S) {i : Int} (hi : -2147483648 ≤ i ∧ i < 2147483648) : Xi l G sa yX2_releaseFrom wsX2_releaseFrom ({ frames := 6, cells := 1, slots := 6, locals := 90 } : Room) [.ref (ad 0), .int (zI i)] (WX G.2 ad S P) (fun r u => kReF S i = 0 ∧ r = atS S i 0 ∧ ∃ P9 : St, u = WX G.2 ad (relS S i) P9) (fun E u => ((E = eIOB ∧ kReF S i = 1) ∨ (E = eISE ∧ kReF S i = 2)) ∧ ∃ P9 : St, u = WX G.2 ad S P9) := by
  refine Xi.of (own := RX2) (cc := cX2_releaseFrom) (maxL := 2) (ret := (some .int)) hl (by decide) rfl rfl rfl ?_
  intro p e s m args below meth c A C hN X9
  have hts := C.2.2.2.2.1
  have iFX2 : ∀ w ∈ u_ws RX2 TX2 17, w ∈ wsX2_releaseFrom := by decide +kernel
  have k_11 := hts (.fieldLink RX2 11 "PaintSequencer" "lanes" "[LPaintSequencer$Lane;") (by decide +kernel)
  obtain ⟨hn, hz, hr, hc, hp, ha, hq, ht⟩ := id hI
  have hL9 : 1 ≤ S.1 0 ∧ S.1 0 ≤ 5 := by omega
  have hB9 : 0 ≤ S.1 5 ∧ S.1 5 ≤ 99 := by omega
  refine aw_aload_n C dX2_releaseFrom_0 rfl ?_
  refine aw_iload_n C dX2_releaseFrom_1 rfl ?_
  refine cV1i (ci := 2) (q0 := 0) C hN (c_X2_isLane hL9 hi) (cwV 1 hts gX2_releaseFrom_X2_isLane rfl rfl rfl (by decide +kernel) ⟨Nat.le_of_ble_eq_true rfl, Nat.le_of_ble_eq_true rfl⟩) rfl rfl rfl rfl dX2_releaseFrom_2 ⟨Nat.zero_le _, Nat.zero_le _⟩ (fun r2 u2 q2 => ?_)
  obtain ⟨rfl, rfl⟩ := q2
  refine aw_if_ne (tgt := 18) C dX2_releaseFrom_5 (by decide) (by split <;> omega) (fun c5 => ?_) (fun c5 => ?_)
  · have d5 := ite_t c5
    have h8 := hz i (by omega) (by omega)
    refine aw_aload_n C dX2_releaseFrom_18 rfl ?_
    refine aw_get (q0 := 0) (k := 0) C iFX2 k_11 rfl rfl rfl rfl dX2_releaseFrom_19 ?_
    refine aw_iload_n C dX2_releaseFrom_22 rfl ?_
    refine aw_aldL (q0 := 1) C rfl (by omega) (by omega) rfl rfl dX2_releaseFrom_23 ?_
    refine cV0i (ci := 0)  C hN (c_X0_isEmpty (by omega) (by omega) (by omega)) (cwV 0 hts gX2_releaseFrom_X0_isEmpty rfl rfl rfl (by decide +kernel) ⟨Nat.le_of_ble_eq_true rfl, Nat.le_of_ble_eq_true rfl⟩) rfl rfl (wx_lane (by omega) (by omega)) rfl dX2_releaseFrom_24 ⟨Nat.zero_le _, Nat.zero_le _⟩ (fun r24 u24 q24 => ?_)
    obtain ⟨rfl, rfl⟩ := q24
    refine aw_if_eq (tgt := 40) C dX2_releaseFrom_27 (by decide) (by split <;> omega) (fun c27 => ?_) (fun c27 => ?_)
    · have d27 := ite_f c27
      refine aw_aload_n C dX2_releaseFrom_40 rfl ?_
      refine cV0i (ci := 2) (q0 := 0) C hN (c_X2_storeIsFull hI) (cwV 0 hts gX2_releaseFrom_X2_storeIsFull rfl rfl rfl (by decide +kernel) ⟨Nat.le_of_ble_eq_true rfl, Nat.le_of_ble_eq_true rfl⟩) rfl rfl rfl rfl dX2_releaseFrom_41 ⟨Nat.zero_le _, Nat.zero_le _⟩ (fun r41 u41 q41 => ?_)
      obtain ⟨rfl, rfl⟩ := q41
      have hcn : cntN (S.2 2) 10 (S.1 5).toNat = cnS S 10 := rfl
      rw [hcn]
      refine aw_if_eq (tgt := 57) C dX2_releaseFrom_44 (by decide) (by split <;> omega) (fun c44 => ?_) (fun c44 => ?_)
      · have d44 := ite_f c44
        refine aw_aload_n C dX2_releaseFrom_57 rfl ?_
        refine aw_iload_n C dX2_releaseFrom_58 rfl ?_
        refine cV1i (ci := 2) (q0 := 0) C hN (c_X2_takeHeadOf hI (by omega) (by omega) (by omega)) (cwV 1 hts gX2_releaseFrom_X2_takeHeadOf rfl rfl rfl (by decide +kernel) ⟨Nat.le_of_ble_eq_true rfl, Nat.le_of_ble_eq_true rfl⟩) rfl rfl rfl rfl dX2_releaseFrom_59 ⟨Nat.zero_le _, Nat.zero_le _⟩ (fun r59 u59 q59 => ?_)
        obtain ⟨rfl, rfl⟩ := q59
        exact aw_iretX C dX2_releaseFrom_62 ⟨(by unfold kReF; first | rw [if_pos (by omega)] | rw [if_neg (by omega), if_pos (by omega)] | rw [if_neg (by omega), if_neg (by omega), if_pos (by omega)] | rw [if_neg (by omega), if_neg (by omega), if_neg (by omega), if_pos (by omega)] | rw [if_neg (by omega), if_neg (by omega), if_neg (by omega), if_neg (by omega)] | rw [if_neg (by omega), if_neg (by omega), if_neg (by omega)] | rw [if_neg (by omega), if_neg (by omega)] | rw [if_neg (by omega)]), rfl, _, rfl⟩
      · have d44 := ite_t c44
        exact aw_throw (is := 117) C X9 (by decide +kernel) (hts (.classLink RX2 82 eISE) (by decide +kernel)) (hts (.initialized eISE) (by decide +kernel)) (X9.2.1.2.2.2 (117, "the store is full") (by decide +kernel)) (at_good hts (by decide +kernel) no_ISE X9.2.1.2.1.2.1 X9.2.1) ok_ISE dX2_releaseFrom_47 dX2_releaseFrom_50 dX2_releaseFrom_51 dX2_releaseFrom_53 dX2_releaseFrom_56 ⟨rfl, rfl, rfl, rfl⟩ ⟨(Or.inr ⟨rfl, (by unfold kReF; first | rw [if_pos (by omega)] | rw [if_neg (by omega), if_pos (by omega)] | rw [if_neg (by omega), if_neg (by omega), if_pos (by omega)] | rw [if_neg (by omega), if_neg (by omega), if_neg (by omega), if_pos (by omega)] | rw [if_neg (by omega), if_neg (by omega), if_neg (by omega), if_neg (by omega)] | rw [if_neg (by omega), if_neg (by omega), if_neg (by omega)] | rw [if_neg (by omega), if_neg (by omega)] | rw [if_neg (by omega)])⟩), _, rfl⟩
    · have d27 := ite_t c27
      exact aw_throw (is := 131) C X9 (by decide +kernel) (hts (.classLink RX2 82 eISE) (by decide +kernel)) (hts (.initialized eISE) (by decide +kernel)) (X9.2.1.2.2.2 (131, "the lane is empty") (by decide +kernel)) (at_good hts (by decide +kernel) no_ISE X9.2.1.2.1.2.1 X9.2.1) ok_ISE dX2_releaseFrom_30 dX2_releaseFrom_33 dX2_releaseFrom_34 dX2_releaseFrom_36 dX2_releaseFrom_39 ⟨rfl, rfl, rfl, rfl⟩ ⟨(Or.inr ⟨rfl, (by unfold kReF; first | rw [if_pos (by omega)] | rw [if_neg (by omega), if_pos (by omega)] | rw [if_neg (by omega), if_neg (by omega), if_pos (by omega)] | rw [if_neg (by omega), if_neg (by omega), if_neg (by omega), if_pos (by omega)] | rw [if_neg (by omega), if_neg (by omega), if_neg (by omega), if_neg (by omega)] | rw [if_neg (by omega), if_neg (by omega), if_neg (by omega)] | rw [if_neg (by omega), if_neg (by omega)] | rw [if_neg (by omega)])⟩), _, rfl⟩
  · have d5 := ite_f c5
    exact aw_throw (is := 105) C X9 (by decide +kernel) (hts (.classLink RX2 103 eIOB) (by decide +kernel)) (hts (.initialized eIOB) (by decide +kernel)) (X9.2.1.2.2.2 (105, "there is no such lane") (by decide +kernel)) (at_good hts (by decide +kernel) no_IOB X9.2.1.2.1.2.2 X9.2.1) ok_IOB dX2_releaseFrom_8 dX2_releaseFrom_11 dX2_releaseFrom_12 dX2_releaseFrom_14 dX2_releaseFrom_17 ⟨rfl, rfl, rfl, rfl⟩ ⟨Or.inl ⟨rfl, (by unfold kReF; first | rw [if_pos (by omega)] | rw [if_neg (by omega), if_pos (by omega)] | rw [if_neg (by omega), if_neg (by omega), if_pos (by omega)] | rw [if_neg (by omega), if_neg (by omega), if_neg (by omega), if_pos (by omega)] | rw [if_neg (by omega), if_neg (by omega), if_neg (by omega), if_neg (by omega)] | rw [if_neg (by omega), if_neg (by omega), if_neg (by omega)] | rw [if_neg (by omega), if_neg (by omega)] | rw [if_neg (by omega)])⟩, _, rfl⟩
set_option maxHeartbeats 4000000 in
set_option maxRecDepth 100000 in
theorem c_X2_releaseBest {l : Launch} (hl : l.stackTraces = false) {G : va_G × (Nat → ClassId)} {sa : Nat → Nat} {ad : Nat → Nat} {S P : St} (hI : Inv S) : Xi l G sa yX2_releaseBest wsX2_releaseBest ({ frames := 6, cells := 1, slots := 6, locals := 116 } : Room) [.ref (ad 0)] (WX G.2 ad S P) (fun r u => kReB S = 0 ∧ r = atS S (blS S) 0 ∧ ∃ P9 : St, u = WX G.2 ad (relS S (blS S)) P9) (fun E u => ((E = eISE ∧ kReB S = 1)) ∧ ∃ P9 : St, u = WX G.2 ad S P9) := by
  refine Xi.of (own := RX2) (cc := cX2_releaseBest) (maxL := 2) (ret := (some .int)) hl (by decide) rfl rfl rfl ?_
  intro p e s m args below meth c A C hN X9
  have hts := C.2.2.2.2.1
  have iFX2 : ∀ w ∈ u_ws RX2 TX2 17, w ∈ wsX2_releaseBest := by decide +kernel
  have k_32 := hts (.fieldLink RX2 32 "PaintSequencer" "plan" "LPaintSequencer$Plan;") (by decide +kernel)
  have k_46 := hts (.fieldLink RX2 46 "PaintSequencer" "latestColour" "I") (by decide +kernel)
  obtain ⟨hn, hz, hr, hc, hp, ha, hq, ht⟩ := id hI
  have hL9 : 1 ≤ S.1 0 ∧ S.1 0 ≤ 5 := by omega
  have hB9 : 0 ≤ S.1 5 ∧ S.1 5 ≤ 99 := by omega
  have h5n := nlS_5 hI
  have z0 := hz 0 (by omega) (by omega)
  have z1 := hz 1 (by omega) (by omega)
  have z2 := hz 2 (by omega) (by omega)
  have z3 := hz 3 (by omega) (by omega)
  have z4 := hz 4 (by omega) (by omega)
  refine aw_aload_n C dX2_releaseBest_0 rfl ?_
  refine cV0i (ci := 2) (q0 := 0) C hN (c_X2_storeIsFull hI) (cwV 0 hts gX2_releaseBest_X2_storeIsFull rfl rfl rfl (by decide +kernel) ⟨Nat.le_of_ble_eq_true rfl, Nat.le_of_ble_eq_true rfl⟩) rfl rfl rfl rfl dX2_releaseBest_1 ⟨Nat.zero_le _, Nat.zero_le _⟩ (fun r1 u1 q1 => ?_)
  obtain ⟨rfl, rfl⟩ := q1
  have hcn : cntN (S.2 2) 10 (S.1 5).toNat = cnS S 10 := rfl
  rw [hcn]
  refine aw_if_eq (tgt := 17) C dX2_releaseBest_4 (by decide) (by split <;> omega) (fun c4 => ?_) (fun c4 => ?_)
  · have d4 := ite_f c4
    refine aw_aload_n C dX2_releaseBest_17 rfl ?_
    refine cV0i (ci := 2) (q0 := 0) C hN (c_X2_countInLanes hI) (cwV 0 hts gX2_releaseBest_X2_countInLanes rfl rfl rfl (by decide +kernel) ⟨Nat.le_of_ble_eq_true rfl, Nat.le_of_ble_eq_true rfl⟩) rfl rfl rfl rfl dX2_releaseBest_18 ⟨Nat.zero_le _, Nat.zero_le _⟩ (fun r18 u18 q18 => ?_)
    obtain ⟨rfl, rfl⟩ := q18
    have hnl : sumN (S.2 0) (S.1 0).toNat = nlS S := rfl
    rw [hnl]
    refine aw_bipush C dX2_releaseBest_21 rfl ?_
    refine aw_icmp_le (tgt := 36) C dX2_releaseBest_23 (by decide) (by omega) (by omega) (fun c23 => ?_) (fun c23 => ?_)
    · refine aw_aload_n C dX2_releaseBest_36 rfl ?_
      refine cV0v (ci := 2) (q0 := 0) C hN (c_X2_copyLanesIntoPlan hI) (cwV 0 hts gX2_releaseBest_X2_copyLanesIntoPlan rfl rfl rfl (by decide +kernel) ⟨Nat.le_of_ble_eq_true rfl, Nat.le_of_ble_eq_true rfl⟩) rfl rfl rfl rfl dX2_releaseBest_37 ⟨Nat.zero_le _, Nat.zero_le _⟩ (fun u37 q37 => ?_)
      obtain ⟨P9, rfl, hpl⟩ := q37
      have hV := plS_V hI hpl (by omega)
      refine aw_aload_n C dX2_releaseBest_40 rfl ?_
      refine aw_get (q0 := 0) (k := 5) C iFX2 k_32 rfl rfl rfl rfl dX2_releaseBest_41 ?_
      refine aw_aload_n C dX2_releaseBest_44 rfl ?_
      refine aw_get (q0 := 0) (k := 14) C iFX2 k_46 rfl rfl rfl rfl dX2_releaseBest_45 ?_
      refine cV1i (ci := 1) (q0 := 16) C hN (c_X1_bestLane hV (by omega)) (cwV 1 hts gX2_releaseBest_X1_bestLane rfl rfl rfl (by decide +kernel) ⟨Nat.le_of_ble_eq_true rfl, Nat.le_of_ble_eq_true rfl⟩) rfl rfl rfl rfl dX2_releaseBest_48 ⟨Nat.zero_le _, Nat.zero_le _⟩ (fun r48 u48 q48 => ?_)
      obtain ⟨rfl, P8, rfl, -⟩ := q48
      rw [blP_S hI hpl (by omega)]
      refine aw_istore_n C dX2_releaseBest_51 rfl rfl ?_
      have h9 := blS_b S
      refine aw_iload_n C dX2_releaseBest_52 rfl ?_
      refine aw_iconst C dX2_releaseBest_53 ?_
      refine aw_icmp_ne (tgt := 67) C dX2_releaseBest_54 (by decide) (by omega) (by omega) (fun c54 => ?_) (fun c54 => ?_)
      · have h8 := blS_pos c54
        have h9 := blS_b S
        refine aw_aload_n C dX2_releaseBest_67 rfl ?_
        refine aw_iload_n C dX2_releaseBest_68 rfl ?_
        refine cV1i (ci := 2) (q0 := 0) C hN (c_X2_takeHeadOf hI (by omega) (by omega) h8) (cwV 1 hts gX2_releaseBest_X2_takeHeadOf rfl rfl rfl (by decide +kernel) ⟨Nat.le_of_ble_eq_true rfl, Nat.le_of_ble_eq_true rfl⟩) rfl rfl rfl rfl dX2_releaseBest_69 ⟨Nat.zero_le _, Nat.zero_le _⟩ (fun r69 u69 q69 => ?_)
        obtain ⟨rfl, rfl⟩ := q69
        exact aw_iretX C dX2_releaseBest_72 ⟨(by unfold kReB; first | rw [if_pos (by omega)] | rw [if_neg (by omega), if_pos (by omega)] | rw [if_neg (by omega), if_neg (by omega), if_pos (by omega)] | rw [if_neg (by omega), if_neg (by omega), if_neg (by omega), if_pos (by omega)] | rw [if_neg (by omega), if_neg (by omega), if_neg (by omega), if_neg (by omega)] | rw [if_neg (by omega), if_neg (by omega), if_neg (by omega)] | rw [if_neg (by omega), if_neg (by omega)] | rw [if_neg (by omega)]), rfl, _, rfl⟩
      · exact aw_throw (is := 123) C X9 (by decide +kernel) (hts (.classLink RX2 82 eISE) (by decide +kernel)) (hts (.initialized eISE) (by decide +kernel)) (X9.2.1.2.2.2 (123, "all lanes are empty") (by decide +kernel)) (at_good hts (by decide +kernel) no_ISE X9.2.1.2.1.2.1 X9.2.1) ok_ISE dX2_releaseBest_57 dX2_releaseBest_60 dX2_releaseBest_61 dX2_releaseBest_63 dX2_releaseBest_66 ⟨rfl, rfl, rfl, rfl⟩ ⟨⟨rfl, (by unfold kReB; first | rw [if_pos (by omega)] | rw [if_neg (by omega), if_pos (by omega)] | rw [if_neg (by omega), if_neg (by omega), if_pos (by omega)] | rw [if_neg (by omega), if_neg (by omega), if_neg (by omega), if_pos (by omega)] | rw [if_neg (by omega), if_neg (by omega), if_neg (by omega), if_neg (by omega)] | rw [if_neg (by omega), if_neg (by omega), if_neg (by omega)] | rw [if_neg (by omega), if_neg (by omega)] | rw [if_neg (by omega)])⟩, _, rfl⟩
    · exact aw_throw (is := 136) C X9 (by decide +kernel) (hts (.classLink RX2 82 eISE) (by decide +kernel)) (hts (.initialized eISE) (by decide +kernel)) (X9.2.1.2.2.2 (136, "there are more than 12 bodies in lanes") (by decide +kernel)) (at_good hts (by decide +kernel) no_ISE X9.2.1.2.1.2.1 X9.2.1) ok_ISE dX2_releaseBest_26 dX2_releaseBest_29 dX2_releaseBest_30 dX2_releaseBest_32 dX2_releaseBest_35 ⟨rfl, rfl, rfl, rfl⟩ ⟨⟨rfl, (by unfold kReB; first | rw [if_pos (by omega)] | rw [if_neg (by omega), if_pos (by omega)] | rw [if_neg (by omega), if_neg (by omega), if_pos (by omega)] | rw [if_neg (by omega), if_neg (by omega), if_neg (by omega), if_pos (by omega)] | rw [if_neg (by omega), if_neg (by omega), if_neg (by omega), if_neg (by omega)] | rw [if_neg (by omega), if_neg (by omega), if_neg (by omega)] | rw [if_neg (by omega), if_neg (by omega)] | rw [if_neg (by omega)])⟩, _, rfl⟩
  · have d4 := ite_t c4
    exact aw_throw (is := 117) C X9 (by decide +kernel) (hts (.classLink RX2 82 eISE) (by decide +kernel)) (hts (.initialized eISE) (by decide +kernel)) (X9.2.1.2.2.2 (117, "the store is full") (by decide +kernel)) (at_good hts (by decide +kernel) no_ISE X9.2.1.2.1.2.1 X9.2.1) ok_ISE dX2_releaseBest_7 dX2_releaseBest_10 dX2_releaseBest_11 dX2_releaseBest_13 dX2_releaseBest_16 ⟨rfl, rfl, rfl, rfl⟩ ⟨⟨rfl, (by unfold kReB; first | rw [if_pos (by omega)] | rw [if_neg (by omega), if_pos (by omega)] | rw [if_neg (by omega), if_neg (by omega), if_pos (by omega)] | rw [if_neg (by omega), if_neg (by omega), if_neg (by omega), if_pos (by omega)] | rw [if_neg (by omega), if_neg (by omega), if_neg (by omega), if_neg (by omega)] | rw [if_neg (by omega), if_neg (by omega), if_neg (by omega)] | rw [if_neg (by omega), if_neg (by omega)] | rw [if_neg (by omega)])⟩, _, rfl⟩
set_option maxHeartbeats 4000000 in
set_option maxRecDepth 100000 in
theorem c_X2_where {l : Launch} (hl : l.stackTraces = false) {G : va_G × (Nat → ClassId)} {sa : Nat → Nat} {ad : Nat → Nat} {S P : St} (hI : Inv S) {b : Int} (hb : -2147483648 ≤ b ∧ b < 2147483648) : Xi l G sa yX2_where wsX2_where ({ frames := 6, cells := 1, slots := 6, locals := 90 } : Room) [.ref (ad 0), .int (zI b)] (WX G.2 ad S P) (fun r u => kBod S b = 0 ∧ r = S.2 2 b ∧ ∃ P9 : St, u = WX G.2 ad S P9) (fun E u => ((E = eIOB ∧ kBod S b = 1)) ∧ ∃ P9 : St, u = WX G.2 ad S P9) := by
  refine Xi.of (own := RX2) (cc := cX2_where) (maxL := 2) (ret := (some .int)) hl (by decide) rfl rfl rfl ?_
  intro p e s m args below meth c A C hN X9
  have hts := C.2.2.2.2.1
  have iFX2 : ∀ w ∈ u_ws RX2 TX2 17, w ∈ wsX2_where := by decide +kernel
  have k_20 := hts (.fieldLink RX2 20 "PaintSequencer" "places" "[I") (by decide +kernel)
  obtain ⟨hn, hz, hr, hc, hp, ha, hq, ht⟩ := id hI
  have hL9 : 1 ≤ S.1 0 ∧ S.1 0 ≤ 5 := by omega
  have hB9 : 0 ≤ S.1 5 ∧ S.1 5 ≤ 99 := by omega
  refine aw_aload_n C dX2_where_0 rfl ?_
  refine aw_iload_n C dX2_where_1 rfl ?_
  refine cV1i (ci := 2) (q0 := 0) C hN (c_X2_isBody hB9 hb) (cwV 1 hts gX2_where_X2_isBody rfl rfl rfl (by decide +kernel) ⟨Nat.le_of_ble_eq_true rfl, Nat.le_of_ble_eq_true rfl⟩) rfl rfl rfl rfl dX2_where_2 ⟨Nat.zero_le _, Nat.zero_le _⟩ (fun r2 u2 q2 => ?_)
  obtain ⟨rfl, rfl⟩ := q2
  refine aw_if_ne (tgt := 18) C dX2_where_5 (by decide) (by split <;> omega) (fun c5 => ?_) (fun c5 => ?_)
  · have d5 := ite_t c5
    refine aw_aload_n C dX2_where_18 rfl ?_
    refine aw_get (q0 := 0) (k := 2) C iFX2 k_20 rfl rfl rfl rfl dX2_where_19 ?_
    refine aw_iload_n C dX2_where_22 rfl ?_
    refine aw_ldI (q0 := 13) C rfl (by omega) (by omega) rfl dX2_where_23 ?_
    exact aw_iretX C dX2_where_24 ⟨(by unfold kBod; first | rw [if_pos (by omega)] | rw [if_neg (by omega), if_pos (by omega)] | rw [if_neg (by omega), if_neg (by omega), if_pos (by omega)] | rw [if_neg (by omega), if_neg (by omega), if_neg (by omega), if_pos (by omega)] | rw [if_neg (by omega), if_neg (by omega), if_neg (by omega), if_neg (by omega)] | rw [if_neg (by omega), if_neg (by omega), if_neg (by omega)] | rw [if_neg (by omega), if_neg (by omega)] | rw [if_neg (by omega)]), rfl, _, rfl⟩
  · have d5 := ite_f c5
    exact aw_throw (is := 147) C X9 (by decide +kernel) (hts (.classLink RX2 103 eIOB) (by decide +kernel)) (hts (.initialized eIOB) (by decide +kernel)) (X9.2.1.2.2.2 (147, "there is no such body") (by decide +kernel)) (at_good hts (by decide +kernel) no_IOB X9.2.1.2.1.2.2 X9.2.1) ok_IOB dX2_where_8 dX2_where_11 dX2_where_12 dX2_where_14 dX2_where_17 ⟨rfl, rfl, rfl, rfl⟩ ⟨⟨rfl, (by unfold kBod; first | rw [if_pos (by omega)] | rw [if_neg (by omega), if_pos (by omega)] | rw [if_neg (by omega), if_neg (by omega), if_pos (by omega)] | rw [if_neg (by omega), if_neg (by omega), if_neg (by omega), if_pos (by omega)] | rw [if_neg (by omega), if_neg (by omega), if_neg (by omega), if_neg (by omega)] | rw [if_neg (by omega), if_neg (by omega), if_neg (by omega)] | rw [if_neg (by omega), if_neg (by omega)] | rw [if_neg (by omega)])⟩, _, rfl⟩
set_option maxHeartbeats 4000000 in
set_option maxRecDepth 100000 in
theorem c_X2_inLane {l : Launch} (hl : l.stackTraces = false) {G : va_G × (Nat → ClassId)} {sa : Nat → Nat} {ad : Nat → Nat} {S P : St} (hI : Inv S) {i : Int} (hi : -2147483648 ≤ i ∧ i < 2147483648) : Xi l G sa yX2_inLane wsX2_inLane ({ frames := 6, cells := 1, slots := 6, locals := 90 } : Room) [.ref (ad 0), .int (zI i)] (WX G.2 ad S P) (fun r u => kLan S i = 0 ∧ r = S.2 0 i ∧ ∃ P9 : St, u = WX G.2 ad S P9) (fun E u => ((E = eIOB ∧ kLan S i = 1)) ∧ ∃ P9 : St, u = WX G.2 ad S P9) := by
  refine Xi.of (own := RX2) (cc := cX2_inLane) (maxL := 2) (ret := (some .int)) hl (by decide) rfl rfl rfl ?_
  intro p e s m args below meth c A C hN X9
  have hts := C.2.2.2.2.1
  have iFX2 : ∀ w ∈ u_ws RX2 TX2 17, w ∈ wsX2_inLane := by decide +kernel
  have k_11 := hts (.fieldLink RX2 11 "PaintSequencer" "lanes" "[LPaintSequencer$Lane;") (by decide +kernel)
  obtain ⟨hn, hz, hr, hc, hp, ha, hq, ht⟩ := id hI
  have hL9 : 1 ≤ S.1 0 ∧ S.1 0 ≤ 5 := by omega
  have hB9 : 0 ≤ S.1 5 ∧ S.1 5 ≤ 99 := by omega
  refine aw_aload_n C dX2_inLane_0 rfl ?_
  refine aw_iload_n C dX2_inLane_1 rfl ?_
  refine cV1i (ci := 2) (q0 := 0) C hN (c_X2_isLane hL9 hi) (cwV 1 hts gX2_inLane_X2_isLane rfl rfl rfl (by decide +kernel) ⟨Nat.le_of_ble_eq_true rfl, Nat.le_of_ble_eq_true rfl⟩) rfl rfl rfl rfl dX2_inLane_2 ⟨Nat.zero_le _, Nat.zero_le _⟩ (fun r2 u2 q2 => ?_)
  obtain ⟨rfl, rfl⟩ := q2
  refine aw_if_ne (tgt := 18) C dX2_inLane_5 (by decide) (by split <;> omega) (fun c5 => ?_) (fun c5 => ?_)
  · have d5 := ite_t c5
    refine aw_aload_n C dX2_inLane_18 rfl ?_
    refine aw_get (q0 := 0) (k := 0) C iFX2 k_11 rfl rfl rfl rfl dX2_inLane_19 ?_
    refine aw_iload_n C dX2_inLane_22 rfl ?_
    refine aw_aldL (q0 := 1) C rfl (by omega) (by omega) rfl rfl dX2_inLane_23 ?_
    refine cV0i (ci := 0)  C hN (c_X0_count (by omega) (by omega)) (cwV 0 hts gX2_inLane_X0_count rfl rfl rfl (by decide +kernel) ⟨Nat.le_of_ble_eq_true rfl, Nat.le_of_ble_eq_true rfl⟩) rfl rfl (wx_lane (by omega) (by omega)) rfl dX2_inLane_24 ⟨Nat.zero_le _, Nat.zero_le _⟩ (fun r24 u24 q24 => ?_)
    obtain ⟨rfl, rfl⟩ := q24
    exact aw_iretX C dX2_inLane_27 ⟨(by unfold kLan; first | rw [if_pos (by omega)] | rw [if_neg (by omega), if_pos (by omega)] | rw [if_neg (by omega), if_neg (by omega), if_pos (by omega)] | rw [if_neg (by omega), if_neg (by omega), if_neg (by omega), if_pos (by omega)] | rw [if_neg (by omega), if_neg (by omega), if_neg (by omega), if_neg (by omega)] | rw [if_neg (by omega), if_neg (by omega), if_neg (by omega)] | rw [if_neg (by omega), if_neg (by omega)] | rw [if_neg (by omega)]), rfl, _, rfl⟩
  · have d5 := ite_f c5
    exact aw_throw (is := 105) C X9 (by decide +kernel) (hts (.classLink RX2 103 eIOB) (by decide +kernel)) (hts (.initialized eIOB) (by decide +kernel)) (X9.2.1.2.2.2 (105, "there is no such lane") (by decide +kernel)) (at_good hts (by decide +kernel) no_IOB X9.2.1.2.1.2.2 X9.2.1) ok_IOB dX2_inLane_8 dX2_inLane_11 dX2_inLane_12 dX2_inLane_14 dX2_inLane_17 ⟨rfl, rfl, rfl, rfl⟩ ⟨⟨rfl, (by unfold kLan; first | rw [if_pos (by omega)] | rw [if_neg (by omega), if_pos (by omega)] | rw [if_neg (by omega), if_neg (by omega), if_pos (by omega)] | rw [if_neg (by omega), if_neg (by omega), if_neg (by omega), if_pos (by omega)] | rw [if_neg (by omega), if_neg (by omega), if_neg (by omega), if_neg (by omega)] | rw [if_neg (by omega), if_neg (by omega), if_neg (by omega)] | rw [if_neg (by omega), if_neg (by omega)] | rw [if_neg (by omega)])⟩, _, rfl⟩
set_option maxHeartbeats 4000000 in
set_option maxRecDepth 100000 in
theorem c_X2_assembledAt {l : Launch} (hl : l.stackTraces = false) {G : va_G × (Nat → ClassId)} {sa : Nat → Nat} {ad : Nat → Nat} {S P : St} (hI : Inv S) {i : Int} (hi : -2147483648 ≤ i ∧ i < 2147483648) : Xi l G sa yX2_assembledAt wsX2_assembledAt ({ frames := 6, cells := 1, slots := 6, locals := 90 } : Room) [.ref (ad 0), .int (zI i)] (WX G.2 ad S P) (fun r u => kAsA S i = 0 ∧ r = S.2 3 i ∧ ∃ P9 : St, u = WX G.2 ad S P9) (fun E u => ((E = eIOB ∧ kAsA S i = 1)) ∧ ∃ P9 : St, u = WX G.2 ad S P9) := by
  refine Xi.of (own := RX2) (cc := cX2_assembledAt) (maxL := 2) (ret := (some .int)) hl (by decide) rfl rfl rfl ?_
  intro p e s m args below meth c A C hN X9
  have hts := C.2.2.2.2.1
  have iFX2 : ∀ w ∈ u_ws RX2 TX2 17, w ∈ wsX2_assembledAt := by decide +kernel
  have k_161 := hts (.fieldLink RX2 161 "PaintSequencer" "assembled" "I") (by decide +kernel)
  have k_26 := hts (.fieldLink RX2 26 "PaintSequencer" "order" "[I") (by decide +kernel)
  obtain ⟨hn, hz, hr, hc, hp, ha, hq, ht⟩ := id hI
  have hL9 : 1 ≤ S.1 0 ∧ S.1 0 ≤ 5 := by omega
  have hB9 : 0 ≤ S.1 5 ∧ S.1 5 ≤ 99 := by omega
  refine aw_iload_n C dX2_assembledAt_0 rfl ?_
  refine aw_if_lt (tgt := 12) C dX2_assembledAt_1 (by decide) (by omega) (fun c1 => ?_) (fun c1 => ?_)
  · exact aw_throw (is := 181) C X9 (by decide +kernel) (hts (.classLink RX2 103 eIOB) (by decide +kernel)) (hts (.initialized eIOB) (by decide +kernel)) (X9.2.1.2.2.2 (181, "there is no such position so far") (by decide +kernel)) (at_good hts (by decide +kernel) no_IOB X9.2.1.2.1.2.2 X9.2.1) ok_IOB dX2_assembledAt_12 dX2_assembledAt_15 dX2_assembledAt_16 dX2_assembledAt_18 dX2_assembledAt_21 ⟨rfl, rfl, rfl, rfl⟩ ⟨⟨rfl, (by unfold kAsA; first | rw [if_pos (by omega)] | rw [if_neg (by omega), if_pos (by omega)] | rw [if_neg (by omega), if_neg (by omega), if_pos (by omega)] | rw [if_neg (by omega), if_neg (by omega), if_neg (by omega), if_pos (by omega)] | rw [if_neg (by omega), if_neg (by omega), if_neg (by omega), if_neg (by omega)] | rw [if_neg (by omega), if_neg (by omega), if_neg (by omega)] | rw [if_neg (by omega), if_neg (by omega)] | rw [if_neg (by omega)])⟩, _, rfl⟩
  · refine aw_iload_n C dX2_assembledAt_4 rfl ?_
    refine aw_aload_n C dX2_assembledAt_5 rfl ?_
    refine aw_get (q0 := 0) (k := 12) C iFX2 k_161 rfl rfl rfl rfl dX2_assembledAt_6 ?_
    refine aw_icmp_lt (tgt := 22) C dX2_assembledAt_9 (by decide) (by omega) (by omega) (fun c9 => ?_) (fun c9 => ?_)
    · refine aw_aload_n C dX2_assembledAt_22 rfl ?_
      refine aw_get (q0 := 0) (k := 4) C iFX2 k_26 rfl rfl rfl rfl dX2_assembledAt_23 ?_
      refine aw_iload_n C dX2_assembledAt_26 rfl ?_
      refine aw_ldI (q0 := 15) C rfl (by omega) (by omega) rfl dX2_assembledAt_27 ?_
      exact aw_iretX C dX2_assembledAt_28 ⟨(by unfold kAsA; first | rw [if_pos (by omega)] | rw [if_neg (by omega), if_pos (by omega)] | rw [if_neg (by omega), if_neg (by omega), if_pos (by omega)] | rw [if_neg (by omega), if_neg (by omega), if_neg (by omega), if_pos (by omega)] | rw [if_neg (by omega), if_neg (by omega), if_neg (by omega), if_neg (by omega)] | rw [if_neg (by omega), if_neg (by omega), if_neg (by omega)] | rw [if_neg (by omega), if_neg (by omega)] | rw [if_neg (by omega)]), rfl, _, rfl⟩
    · exact aw_throw (is := 181) C X9 (by decide +kernel) (hts (.classLink RX2 103 eIOB) (by decide +kernel)) (hts (.initialized eIOB) (by decide +kernel)) (X9.2.1.2.2.2 (181, "there is no such position so far") (by decide +kernel)) (at_good hts (by decide +kernel) no_IOB X9.2.1.2.1.2.2 X9.2.1) ok_IOB dX2_assembledAt_12 dX2_assembledAt_15 dX2_assembledAt_16 dX2_assembledAt_18 dX2_assembledAt_21 ⟨rfl, rfl, rfl, rfl⟩ ⟨⟨rfl, (by unfold kAsA; first | rw [if_pos (by omega)] | rw [if_neg (by omega), if_pos (by omega)] | rw [if_neg (by omega), if_neg (by omega), if_pos (by omega)] | rw [if_neg (by omega), if_neg (by omega), if_neg (by omega), if_pos (by omega)] | rw [if_neg (by omega), if_neg (by omega), if_neg (by omega), if_neg (by omega)] | rw [if_neg (by omega), if_neg (by omega), if_neg (by omega)] | rw [if_neg (by omega), if_neg (by omega)] | rw [if_neg (by omega)])⟩, _, rfl⟩
set_option maxHeartbeats 4000000 in
set_option maxRecDepth 100000 in
theorem c_X2_lateness {l : Launch} (hl : l.stackTraces = false) {G : va_G × (Nat → ClassId)} {sa : Nat → Nat} {ad : Nat → Nat} {S P : St} (hI : Inv S) {b : Int} (hb : -2147483648 ≤ b ∧ b < 2147483648) : Xi l G sa yX2_lateness wsX2_lateness ({ frames := 6, cells := 1, slots := 6, locals := 90 } : Room) [.ref (ad 0), .int (zI b)] (WX G.2 ad S P) (fun r u => kLat S b = 0 ∧ r = S.2 4 b - b ∧ ∃ P9 : St, u = WX G.2 ad S P9) (fun E u => ((E = eIOB ∧ kLat S b = 1) ∨ (E = eISE ∧ kLat S b = 2)) ∧ ∃ P9 : St, u = WX G.2 ad S P9) := by
  refine Xi.of (own := RX2) (cc := cX2_lateness) (maxL := 2) (ret := (some .int)) hl (by decide) rfl rfl rfl ?_
  intro p e s m args below meth c A C hN X9
  have hts := C.2.2.2.2.1
  have iFX2 : ∀ w ∈ u_ws RX2 TX2 17, w ∈ wsX2_lateness := by decide +kernel
  have k_20 := hts (.fieldLink RX2 20 "PaintSequencer" "places" "[I") (by decide +kernel)
  have k_23 := hts (.fieldLink RX2 23 "PaintSequencer" "positions" "[I") (by decide +kernel)
  obtain ⟨hn, hz, hr, hc, hp, ha, hq, ht⟩ := id hI
  have hL9 : 1 ≤ S.1 0 ∧ S.1 0 ≤ 5 := by omega
  have hB9 : 0 ≤ S.1 5 ∧ S.1 5 ≤ 99 := by omega
  refine aw_aload_n C dX2_lateness_0 rfl ?_
  refine aw_iload_n C dX2_lateness_1 rfl ?_
  refine cV1i (ci := 2) (q0 := 0) C hN (c_X2_isBody hB9 hb) (cwV 1 hts gX2_lateness_X2_isBody rfl rfl rfl (by decide +kernel) ⟨Nat.le_of_ble_eq_true rfl, Nat.le_of_ble_eq_true rfl⟩) rfl rfl rfl rfl dX2_lateness_2 ⟨Nat.zero_le _, Nat.zero_le _⟩ (fun r2 u2 q2 => ?_)
  obtain ⟨rfl, rfl⟩ := q2
  refine aw_if_ne (tgt := 18) C dX2_lateness_5 (by decide) (by split <;> omega) (fun c5 => ?_) (fun c5 => ?_)
  · have d5 := ite_t c5
    have h8 := hp b (by omega) (by omega)
    refine aw_aload_n C dX2_lateness_18 rfl ?_
    refine aw_get (q0 := 0) (k := 2) C iFX2 k_20 rfl rfl rfl rfl dX2_lateness_19 ?_
    refine aw_iload_n C dX2_lateness_22 rfl ?_
    refine aw_ldI (q0 := 13) C rfl (by omega) (by omega) rfl dX2_lateness_23 ?_
    refine aw_bipush C dX2_lateness_24 rfl ?_
    refine aw_icmp_eq (tgt := 39) C dX2_lateness_26 (by decide) (by omega) (by omega) (fun c26 => ?_) (fun c26 => ?_)
    · refine aw_aload_n C dX2_lateness_39 rfl ?_
      refine aw_get (q0 := 0) (k := 3) C iFX2 k_23 rfl rfl rfl rfl dX2_lateness_40 ?_
      refine aw_iload_n C dX2_lateness_43 rfl ?_
      refine aw_ldI (q0 := 14) C rfl (by omega) (by omega) rfl dX2_lateness_44 ?_
      refine aw_iload_n C dX2_lateness_45 rfl ?_
      refine aw_isub C dX2_lateness_46 ?_
      exact aw_iretX C dX2_lateness_47 ⟨(by unfold kLat; first | rw [if_pos (by omega)] | rw [if_neg (by omega), if_pos (by omega)] | rw [if_neg (by omega), if_neg (by omega), if_pos (by omega)] | rw [if_neg (by omega), if_neg (by omega), if_neg (by omega), if_pos (by omega)] | rw [if_neg (by omega), if_neg (by omega), if_neg (by omega), if_neg (by omega)] | rw [if_neg (by omega), if_neg (by omega), if_neg (by omega)] | rw [if_neg (by omega), if_neg (by omega)] | rw [if_neg (by omega)]), rfl, _, rfl⟩
    · exact aw_throw (is := 183) C X9 (by decide +kernel) (hts (.classLink RX2 82 eISE) (by decide +kernel)) (hts (.initialized eISE) (by decide +kernel)) (X9.2.1.2.2.2 (183, "the body is not assembled") (by decide +kernel)) (at_good hts (by decide +kernel) no_ISE X9.2.1.2.1.2.1 X9.2.1) ok_ISE dX2_lateness_29 dX2_lateness_32 dX2_lateness_33 dX2_lateness_35 dX2_lateness_38 ⟨rfl, rfl, rfl, rfl⟩ ⟨(Or.inr ⟨rfl, (by unfold kLat; first | rw [if_pos (by omega)] | rw [if_neg (by omega), if_pos (by omega)] | rw [if_neg (by omega), if_neg (by omega), if_pos (by omega)] | rw [if_neg (by omega), if_neg (by omega), if_neg (by omega), if_pos (by omega)] | rw [if_neg (by omega), if_neg (by omega), if_neg (by omega), if_neg (by omega)] | rw [if_neg (by omega), if_neg (by omega), if_neg (by omega)] | rw [if_neg (by omega), if_neg (by omega)] | rw [if_neg (by omega)])⟩), _, rfl⟩
  · have d5 := ite_f c5
    exact aw_throw (is := 147) C X9 (by decide +kernel) (hts (.classLink RX2 103 eIOB) (by decide +kernel)) (hts (.initialized eIOB) (by decide +kernel)) (X9.2.1.2.2.2 (147, "there is no such body") (by decide +kernel)) (at_good hts (by decide +kernel) no_IOB X9.2.1.2.1.2.2 X9.2.1) ok_IOB dX2_lateness_8 dX2_lateness_11 dX2_lateness_12 dX2_lateness_14 dX2_lateness_17 ⟨rfl, rfl, rfl, rfl⟩ ⟨Or.inl ⟨rfl, (by unfold kLat; first | rw [if_pos (by omega)] | rw [if_neg (by omega), if_pos (by omega)] | rw [if_neg (by omega), if_neg (by omega), if_pos (by omega)] | rw [if_neg (by omega), if_neg (by omega), if_neg (by omega), if_pos (by omega)] | rw [if_neg (by omega), if_neg (by omega), if_neg (by omega), if_neg (by omega)] | rw [if_neg (by omega), if_neg (by omega), if_neg (by omega)] | rw [if_neg (by omega), if_neg (by omega)] | rw [if_neg (by omega)])⟩, _, rfl⟩
set_option maxHeartbeats 4000000 in
set_option maxRecDepth 100000 in
theorem c_X2_fewestChanges {l : Launch} (hl : l.stackTraces = false) {G : va_G × (Nat → ClassId)} {sa : Nat → Nat} {ad : Nat → Nat} {S P : St} (hI : Inv S) : Xi l G sa yX2_fewestChanges wsX2_fewestChanges ({ frames := 6, cells := 1, slots := 6, locals := 93 } : Room) [.ref (ad 0)] (WX G.2 ad S P) (fun r u => kFew S 12 = 0 ∧ r = fwS S (S.1 8) ∧ ∃ P9 : St, u = WX G.2 ad S P9) (fun E u => ((E = eISE ∧ kFew S 12 = 1)) ∧ ∃ P9 : St, u = WX G.2 ad S P9) := by
  refine Xi.of (own := RX2) (cc := cX2_fewestChanges) (maxL := 1) (ret := (some .int)) hl (by decide) rfl rfl rfl ?_
  intro p e s m args below meth c A C hN X9
  have hts := C.2.2.2.2.1
  have iFX2 : ∀ w ∈ u_ws RX2 TX2 17, w ∈ wsX2_fewestChanges := by decide +kernel
  have k_32 := hts (.fieldLink RX2 32 "PaintSequencer" "plan" "LPaintSequencer$Plan;") (by decide +kernel)
  have k_46 := hts (.fieldLink RX2 46 "PaintSequencer" "latestColour" "I") (by decide +kernel)
  obtain ⟨hn, hz, hr, hc, hp, ha, hq, ht⟩ := id hI
  have hL9 : 1 ≤ S.1 0 ∧ S.1 0 ≤ 5 := by omega
  have hB9 : 0 ≤ S.1 5 ∧ S.1 5 ≤ 99 := by omega
  have h5n := nlS_5 hI
  have z0 := hz 0 (by omega) (by omega)
  have z1 := hz 1 (by omega) (by omega)
  have z2 := hz 2 (by omega) (by omega)
  have z3 := hz 3 (by omega) (by omega)
  have z4 := hz 4 (by omega) (by omega)
  refine aw_aload_n C dX2_fewestChanges_0 rfl ?_
  refine cV0i (ci := 2) (q0 := 0) C hN (c_X2_countInLanes hI) (cwV 0 hts gX2_fewestChanges_X2_countInLanes rfl rfl rfl (by decide +kernel) ⟨Nat.le_of_ble_eq_true rfl, Nat.le_of_ble_eq_true rfl⟩) rfl rfl rfl rfl dX2_fewestChanges_1 ⟨Nat.zero_le _, Nat.zero_le _⟩ (fun r1 u1 q1 => ?_)
  obtain ⟨rfl, rfl⟩ := q1
  have hnl : sumN (S.2 0) (S.1 0).toNat = nlS S := rfl
  rw [hnl]
  refine aw_bipush C dX2_fewestChanges_4 rfl ?_
  refine aw_icmp_le (tgt := 19) C dX2_fewestChanges_6 (by decide) (by omega) (by omega) (fun c6 => ?_) (fun c6 => ?_)
  · refine aw_aload_n C dX2_fewestChanges_19 rfl ?_
    refine cV0v (ci := 2) (q0 := 0) C hN (c_X2_copyLanesIntoPlan hI) (cwV 0 hts gX2_fewestChanges_X2_copyLanesIntoPlan rfl rfl rfl (by decide +kernel) ⟨Nat.le_of_ble_eq_true rfl, Nat.le_of_ble_eq_true rfl⟩) rfl rfl rfl rfl dX2_fewestChanges_20 ⟨Nat.zero_le _, Nat.zero_le _⟩ (fun u20 q20 => ?_)
    obtain ⟨P9, rfl, hpl⟩ := q20
    have hV := plS_V hI hpl (by omega)
    refine aw_aload_n C dX2_fewestChanges_23 rfl ?_
    refine aw_get (q0 := 0) (k := 5) C iFX2 k_32 rfl rfl rfl rfl dX2_fewestChanges_24 ?_
    refine aw_aload_n C dX2_fewestChanges_27 rfl ?_
    refine aw_get (q0 := 0) (k := 14) C iFX2 k_46 rfl rfl rfl rfl dX2_fewestChanges_28 ?_
    refine cV1i (ci := 1) (q0 := 16) C hN (c_X1_fewest hV (by omega)) (cwV 1 hts gX2_fewestChanges_X1_fewest rfl rfl rfl (by decide +kernel) ⟨Nat.le_of_ble_eq_true rfl, Nat.le_of_ble_eq_true rfl⟩) rfl rfl rfl rfl dX2_fewestChanges_31 ⟨Nat.zero_le _, Nat.zero_le _⟩ (fun r31 u31 q31 => ?_)
    obtain ⟨rfl, P8, rfl, -⟩ := q31
    exact aw_iretX C dX2_fewestChanges_34 ⟨(by unfold kFew; first | rw [if_pos (by omega)] | rw [if_neg (by omega), if_pos (by omega)] | rw [if_neg (by omega), if_neg (by omega), if_pos (by omega)] | rw [if_neg (by omega), if_neg (by omega), if_neg (by omega), if_pos (by omega)] | rw [if_neg (by omega), if_neg (by omega), if_neg (by omega), if_neg (by omega)] | rw [if_neg (by omega), if_neg (by omega), if_neg (by omega)] | rw [if_neg (by omega), if_neg (by omega)] | rw [if_neg (by omega)]), fwP_S hI hpl (by omega) _, P8, rfl⟩
  · exact aw_throw (is := 136) C X9 (by decide +kernel) (hts (.classLink RX2 82 eISE) (by decide +kernel)) (hts (.initialized eISE) (by decide +kernel)) (X9.2.1.2.2.2 (136, "there are more than 12 bodies in lanes") (by decide +kernel)) (at_good hts (by decide +kernel) no_ISE X9.2.1.2.1.2.1 X9.2.1) ok_ISE dX2_fewestChanges_9 dX2_fewestChanges_12 dX2_fewestChanges_13 dX2_fewestChanges_15 dX2_fewestChanges_18 ⟨rfl, rfl, rfl, rfl⟩ ⟨⟨rfl, (by unfold kFew; first | rw [if_pos (by omega)] | rw [if_neg (by omega), if_pos (by omega)] | rw [if_neg (by omega), if_neg (by omega), if_pos (by omega)] | rw [if_neg (by omega), if_neg (by omega), if_neg (by omega), if_pos (by omega)] | rw [if_neg (by omega), if_neg (by omega), if_neg (by omega), if_neg (by omega)] | rw [if_neg (by omega), if_neg (by omega), if_neg (by omega)] | rw [if_neg (by omega), if_neg (by omega)] | rw [if_neg (by omega)])⟩, _, rfl⟩
set_option maxHeartbeats 4000000 in
set_option maxRecDepth 100000 in
theorem c_X2_fewestByAll {l : Launch} (hl : l.stackTraces = false) {G : va_G × (Nat → ClassId)} {sa : Nat → Nat} {ad : Nat → Nat} {S P : St} (hI : Inv S) : Xi l G sa yX2_fewestByAll wsX2_fewestByAll ({ frames := 11, cells := 1, slots := 6, locals := 305 } : Room) [.ref (ad 0)] (WX G.2 ad S P) (fun r u => kFew S 8 = 0 ∧ r = fwS S (S.1 8) ∧ ∃ P9 : St, u = WX G.2 ad S P9) (fun E u => ((E = eISE ∧ kFew S 8 = 1)) ∧ ∃ P9 : St, u = WX G.2 ad S P9) := by
  refine Xi.of (own := RX2) (cc := cX2_fewestByAll) (maxL := 1) (ret := (some .int)) hl (by decide) rfl rfl rfl ?_
  intro p e s m args below meth c A C hN X9
  have hts := C.2.2.2.2.1
  have iFX2 : ∀ w ∈ u_ws RX2 TX2 17, w ∈ wsX2_fewestByAll := by decide +kernel
  have k_32 := hts (.fieldLink RX2 32 "PaintSequencer" "plan" "LPaintSequencer$Plan;") (by decide +kernel)
  have k_46 := hts (.fieldLink RX2 46 "PaintSequencer" "latestColour" "I") (by decide +kernel)
  obtain ⟨hn, hz, hr, hc, hp, ha, hq, ht⟩ := id hI
  have hL9 : 1 ≤ S.1 0 ∧ S.1 0 ≤ 5 := by omega
  have hB9 : 0 ≤ S.1 5 ∧ S.1 5 ≤ 99 := by omega
  have h5n := nlS_5 hI
  have z0 := hz 0 (by omega) (by omega)
  have z1 := hz 1 (by omega) (by omega)
  have z2 := hz 2 (by omega) (by omega)
  have z3 := hz 3 (by omega) (by omega)
  have z4 := hz 4 (by omega) (by omega)
  refine aw_aload_n C dX2_fewestByAll_0 rfl ?_
  refine cV0i (ci := 2) (q0 := 0) C hN (c_X2_countInLanes hI) (cwV 0 hts gX2_fewestByAll_X2_countInLanes rfl rfl rfl (by decide +kernel) ⟨Nat.le_of_ble_eq_true rfl, Nat.le_of_ble_eq_true rfl⟩) rfl rfl rfl rfl dX2_fewestByAll_1 ⟨Nat.zero_le _, Nat.zero_le _⟩ (fun r1 u1 q1 => ?_)
  obtain ⟨rfl, rfl⟩ := q1
  have hnl : sumN (S.2 0) (S.1 0).toNat = nlS S := rfl
  rw [hnl]
  refine aw_bipush C dX2_fewestByAll_4 rfl ?_
  refine aw_icmp_le (tgt := 19) C dX2_fewestByAll_6 (by decide) (by omega) (by omega) (fun c6 => ?_) (fun c6 => ?_)
  · refine aw_aload_n C dX2_fewestByAll_19 rfl ?_
    refine cV0v (ci := 2) (q0 := 0) C hN (c_X2_copyLanesIntoPlan hI) (cwV 0 hts gX2_fewestByAll_X2_copyLanesIntoPlan rfl rfl rfl (by decide +kernel) ⟨Nat.le_of_ble_eq_true rfl, Nat.le_of_ble_eq_true rfl⟩) rfl rfl rfl rfl dX2_fewestByAll_20 ⟨Nat.zero_le _, Nat.zero_le _⟩ (fun u20 q20 => ?_)
    obtain ⟨P9, rfl, hpl⟩ := q20
    have hV := plS_V hI hpl (by omega)
    refine aw_aload_n C dX2_fewestByAll_23 rfl ?_
    refine aw_get (q0 := 0) (k := 5) C iFX2 k_32 rfl rfl rfl rfl dX2_fewestByAll_24 ?_
    refine aw_aload_n C dX2_fewestByAll_27 rfl ?_
    refine aw_get (q0 := 0) (k := 14) C iFX2 k_46 rfl rfl rfl rfl dX2_fewestByAll_28 ?_
    refine cV1i (ci := 1) (q0 := 16) C hN (c_X1_fewestOfAllOrders hV (by rw [hpl.1 0 (by omega) (by omega), hpl.1 1 (by omega) (by omega), hpl.1 2 (by omega) (by omega), hpl.1 3 (by omega) (by omega), hpl.1 4 (by omega) (by omega)]; omega) (by omega)) (cwV 1 hts gX2_fewestByAll_X1_fewestOfAllOrders rfl rfl rfl (by decide +kernel) ⟨Nat.le_of_ble_eq_true rfl, Nat.le_of_ble_eq_true rfl⟩) rfl rfl rfl rfl dX2_fewestByAll_31 ⟨Nat.zero_le _, Nat.zero_le _⟩ (fun r31 u31 q31 => ?_)
    obtain ⟨rfl, P8, rfl⟩ := q31
    exact aw_iretX C dX2_fewestByAll_34 ⟨(by unfold kFew; first | rw [if_pos (by omega)] | rw [if_neg (by omega), if_pos (by omega)] | rw [if_neg (by omega), if_neg (by omega), if_pos (by omega)] | rw [if_neg (by omega), if_neg (by omega), if_neg (by omega), if_pos (by omega)] | rw [if_neg (by omega), if_neg (by omega), if_neg (by omega), if_neg (by omega)] | rw [if_neg (by omega), if_neg (by omega), if_neg (by omega)] | rw [if_neg (by omega), if_neg (by omega)] | rw [if_neg (by omega)]), fwP_S hI hpl (by omega) _, P8, rfl⟩
  · exact aw_throw (is := 188) C X9 (by decide +kernel) (hts (.classLink RX2 82 eISE) (by decide +kernel)) (hts (.initialized eISE) (by decide +kernel)) (X9.2.1.2.2.2 (188, "there are more than 8 bodies in lanes") (by decide +kernel)) (at_good hts (by decide +kernel) no_ISE X9.2.1.2.1.2.1 X9.2.1) ok_ISE dX2_fewestByAll_9 dX2_fewestByAll_12 dX2_fewestByAll_13 dX2_fewestByAll_15 dX2_fewestByAll_18 ⟨rfl, rfl, rfl, rfl⟩ ⟨⟨rfl, (by unfold kFew; first | rw [if_pos (by omega)] | rw [if_neg (by omega), if_pos (by omega)] | rw [if_neg (by omega), if_neg (by omega), if_pos (by omega)] | rw [if_neg (by omega), if_neg (by omega), if_neg (by omega), if_pos (by omega)] | rw [if_neg (by omega), if_neg (by omega), if_neg (by omega), if_neg (by omega)] | rw [if_neg (by omega), if_neg (by omega), if_neg (by omega)] | rw [if_neg (by omega), if_neg (by omega)] | rw [if_neg (by omega)])⟩, _, rfl⟩
set_option maxHeartbeats 4000000 in
set_option maxRecDepth 100000 in
theorem c_X2_assemble {l : Launch} (hl : l.stackTraces = false) {G : va_G × (Nat → ClassId)} {sa : Nat → Nat} {ad : Nat → Nat} {S P : St} (hI : Inv S) : Xi l G sa yX2_assemble wsX2_assemble ({ frames := 6, cells := 1, slots := 6, locals := 90 } : Room) [.ref (ad 0)] (WX G.2 ad S P) (fun r u => kAsm S = 0 ∧ r = lbS S ∧ ∃ P9 : St, u = WX G.2 ad (asmS S (lbS S)) P9) (fun E u => ((E = eISE ∧ kAsm S = 1)) ∧ ∃ P9 : St, u = WX G.2 ad S P9) := by
  refine Xi.of (own := RX2) (cc := cX2_assemble) (maxL := 2) (ret := (some .int)) hl (by decide) rfl rfl rfl ?_
  intro p e s m args below meth c A C hN X9
  have hts := C.2.2.2.2.1
  have iFX2 : ∀ w ∈ u_ws RX2 TX2 17, w ∈ wsX2_assemble := by decide +kernel
  have k_20 := hts (.fieldLink RX2 20 "PaintSequencer" "places" "[I") (by decide +kernel)
  have k_23 := hts (.fieldLink RX2 23 "PaintSequencer" "positions" "[I") (by decide +kernel)
  have k_161 := hts (.fieldLink RX2 161 "PaintSequencer" "assembled" "I") (by decide +kernel)
  have k_26 := hts (.fieldLink RX2 26 "PaintSequencer" "order" "[I") (by decide +kernel)
  obtain ⟨hn, hz, hr, hc, hp, ha, hq, ht⟩ := id hI
  have hL9 : 1 ≤ S.1 0 ∧ S.1 0 ≤ 5 := by omega
  have hB9 : 0 ≤ S.1 5 ∧ S.1 5 ≤ 99 := by omega
  refine aw_aload_n C dX2_assemble_0 rfl ?_
  refine cV0i (ci := 2) (q0 := 0) C hN (c_X2_lowestInStore hI) (cwV 0 hts gX2_assemble_X2_lowestInStore rfl rfl rfl (by decide +kernel) ⟨Nat.le_of_ble_eq_true rfl, Nat.le_of_ble_eq_true rfl⟩) rfl rfl rfl rfl dX2_assemble_1 ⟨Nat.zero_le _, Nat.zero_le _⟩ (fun r1 u1 q1 => ?_)
  obtain ⟨rfl, rfl⟩ := q1
  have hlb : fstB (fun b => decide (S.2 2 b = 10)) (S.1 5).toNat = lbS S := rfl
  rw [hlb]
  have h9 := fstB_b (fun b => decide (S.2 2 b = 10)) (S.1 5).toNat
  rw [hlb] at h9
  refine aw_istore_n C dX2_assemble_4 rfl rfl ?_
  refine aw_iload_n C dX2_assemble_5 rfl ?_
  refine aw_iconst C dX2_assemble_6 ?_
  refine aw_icmp_ne (tgt := 20) C dX2_assemble_7 (by decide) (by omega) (by omega) (fun c7 => ?_) (fun c7 => ?_)
  · have h8 : S.2 2 (lbS S) = 10 := of_decide_eq_true (fstB_ok c7)
    have h7 := asm_lt hI (b := lbS S) (by omega) (by omega) (by omega)
    refine aw_aload_n C dX2_assemble_20 rfl ?_
    refine aw_get (q0 := 0) (k := 2) C iFX2 k_20 rfl rfl rfl rfl dX2_assemble_21 ?_
    refine aw_iload_n C dX2_assemble_24 rfl ?_
    refine aw_bipush C dX2_assemble_25 rfl ?_
    refine aw_stI (q0 := 13) C rfl (by omega) (by omega) rfl (wx_a13 _ _ _ _ _ _) dX2_assemble_27 ?_
    refine aw_aload_n C dX2_assemble_28 rfl ?_
    refine aw_get (q0 := 0) (k := 3) C iFX2 k_23 rfl rfl rfl rfl dX2_assemble_29 ?_
    refine aw_iload_n C dX2_assemble_32 rfl ?_
    refine aw_aload_n C dX2_assemble_33 rfl ?_
    refine aw_get (q0 := 0) (k := 12) C iFX2 k_161 rfl rfl rfl rfl dX2_assemble_34 ?_
    refine aw_top (y := S.1 6) rfl ?_
    refine aw_stI (q0 := 14) C rfl (by omega) (by omega) rfl (wx_a14 _ _ _ _ _ _) dX2_assemble_37 ?_
    refine aw_aload_n C dX2_assemble_38 rfl ?_
    refine aw_get (q0 := 0) (k := 4) C iFX2 k_26 rfl rfl rfl rfl dX2_assemble_39 ?_
    refine aw_aload_n C dX2_assemble_42 rfl ?_
    refine aw_get (q0 := 0) (k := 12) C iFX2 k_161 rfl rfl rfl rfl dX2_assemble_43 ?_
    refine aw_top (y := S.1 6) rfl ?_
    refine aw_iload_n C dX2_assemble_46 rfl ?_
    refine aw_stI (q0 := 15) C rfl (by omega) (by omega) rfl (wx_a15 _ _ _ _ _ _) dX2_assemble_47 ?_
    refine aw_aload_n C dX2_assemble_48 rfl ?_
    refine aw_dup C dX2_assemble_49 rfl ?_
    refine aw_get (q0 := 0) (k := 12) C iFX2 k_161 rfl rfl rfl rfl dX2_assemble_50 ?_
    refine aw_iconst C dX2_assemble_53 ?_
    refine aw_iadd C dX2_assemble_54 ?_
    refine aw_put (q0 := 0) (k := 12) C iFX2 tyX2_ok nmX2 k_161 rfl rfl rfl rfl rfl rfl (wx_f12 _ _ _ _ _) dX2_assemble_55 ?_
    refine aw_iload_n C dX2_assemble_58 rfl ?_
    exact aw_iretX C dX2_assemble_59 ⟨(by unfold kAsm; first | rw [if_pos (by omega)] | rw [if_neg (by omega), if_pos (by omega)] | rw [if_neg (by omega), if_neg (by omega), if_pos (by omega)] | rw [if_neg (by omega), if_neg (by omega), if_neg (by omega), if_pos (by omega)] | rw [if_neg (by omega), if_neg (by omega), if_neg (by omega), if_neg (by omega)] | rw [if_neg (by omega), if_neg (by omega), if_neg (by omega)] | rw [if_neg (by omega), if_neg (by omega)] | rw [if_neg (by omega)]), rfl, _, rfl⟩
  · exact aw_throw (is := 159) C X9 (by decide +kernel) (hts (.classLink RX2 82 eISE) (by decide +kernel)) (hts (.initialized eISE) (by decide +kernel)) (X9.2.1.2.2.2 (159, "the store is empty") (by decide +kernel)) (at_good hts (by decide +kernel) no_ISE X9.2.1.2.1.2.1 X9.2.1) ok_ISE dX2_assemble_10 dX2_assemble_13 dX2_assemble_14 dX2_assemble_16 dX2_assemble_19 ⟨rfl, rfl, rfl, rfl⟩ ⟨⟨rfl, (by unfold kAsm; first | rw [if_pos (by omega)] | rw [if_neg (by omega), if_pos (by omega)] | rw [if_neg (by omega), if_neg (by omega), if_pos (by omega)] | rw [if_neg (by omega), if_neg (by omega), if_neg (by omega), if_pos (by omega)] | rw [if_neg (by omega), if_neg (by omega), if_neg (by omega), if_neg (by omega)] | rw [if_neg (by omega), if_neg (by omega), if_neg (by omega)] | rw [if_neg (by omega), if_neg (by omega)] | rw [if_neg (by omega)])⟩, _, rfl⟩

