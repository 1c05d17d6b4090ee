/-! THE FEWEST CHANGES, pure: sz i bodies wait in the lane i, wt i q is the colour of the q-th, t i of them are taken, c is the latest colour (-1: none) -/
def mnL (p : Int → Bool) (g : Int → Int) : Nat → Int
  | 0 => 1000
  | n + 1 => if p n = true ∧ g n < mnL p g n then g n else mnL p g n
theorem mnL_le {p : Int → Bool} {g : Int → Int} : ∀ {n : Nat} {k : Int}, 0 ≤ k → k < n → p k = true → mnL p g n ≤ g k
  | 0, k, h0, h1, _ => by omega
  | n + 1, k, h0, h1, hp => by
    unfold mnL
    by_cases e : k = n
    · subst e
      split
      · omega
      · rename_i h
        rcases Int.lt_or_le (g n) (mnL p g n) with q | q
        · exact absurd ⟨hp, q⟩ h
        · exact q
    · have h2 := mnL_le (g := g) (n := n) h0 (by omega) hp
      split <;> omega
theorem mnL_at (p : Int → Bool) (g : Int → Int) : ∀ n : Nat, mnL p g n = 1000 ∨ ∃ k : Int, 0 ≤ k ∧ k < n ∧ p k = true ∧ mnL p g n = g k
  | 0 => Or.inl rfl
  | n + 1 => by
    unfold mnL
    split
    · rename_i h
      exact Or.inr ⟨n, by omega, by omega, h.1, rfl⟩
    · rcases mnL_at p g n with h | ⟨k, h0, h1, h2, h3⟩
      · exact Or.inl h
      · exact Or.inr ⟨k, h0, by omega, h2, h3⟩
theorem mnL_congr {p q : Int → Bool} {g h : Int → Int} : ∀ {n : Nat}, (∀ k : Int, 0 ≤ k → k < n → p k = q k ∧ (p k = true → g k = h k)) → mnL p g n = mnL q h n
  | 0, _ => rfl
  | n + 1, e => by
    have e1 := mnL_congr (n := n) (fun k h0 h1 => e k h0 (by omega))
    have e2 := e n (by omega) (by omega)
    unfold mnL
    rw [e1, ← e2.1]
    by_cases hp : p n = true
    · rw [e2.2 hp]
    · rw [if_neg (fun x => hp x.1), if_neg (fun x => hp x.1)]
/-- one more taken from the lane i -/
def upT (t : Int → Int) (i : Int) : Int → Int := fun j => if j = i then t j + 1 else t j
def mC (sz : Int → Int) (wt : Int → Int → Int) : Nat → (Int → Int) → Int → Int
  | 0, _, _ => 0
  | f + 1, t, c => mnL (fun i => decide (t i < sz i)) (fun i => chg c (wt i (t i)) + mC sz wt f (upT t i) (wt i (t i))) 5
def rmT (sz t : Int → Int) : Int := (sz 0 - t 0) + (sz 1 - t 1) + (sz 2 - t 2) + (sz 3 - t 3) + (sz 4 - t 4)
def vT (sz t : Int → Int) : Prop := ∀ i : Int, 0 ≤ i → i < 5 → 0 ≤ t i ∧ t i ≤ sz i
theorem vT_up {sz t : Int → Int} {i : Int} (h : vT sz t) (h2 : t i < sz i) : vT sz (upT t i) := fun j h0 h5 => by
  have := h j h0 h5
  unfold upT
  split
  · rename_i e
    subst e
    omega
  · exact this
theorem rmT_up {sz t : Int → Int} {i : Int} (h0 : 0 ≤ i) (h5 : i < 5) : rmT sz (upT t i) = rmT sz t - 1 := by
  unfold rmT upT
  rcases i5 h0 h5 with rfl | rfl | rfl | rfl | rfl <;> simp <;> omega
theorem rmT_pos {sz t : Int → Int} (h : 0 < rmT sz t) : ∃ i : Int, 0 ≤ i ∧ i < 5 ∧ t i < sz i := by
  unfold rmT at h
  by_cases h0 : t 0 < sz 0
  · exact ⟨0, by omega, by omega, h0⟩
  by_cases h1 : t 1 < sz 1
  · exact ⟨1, by omega, by omega, h1⟩
  by_cases h2 : t 2 < sz 2
  · exact ⟨2, by omega, by omega, h2⟩
  by_cases h3 : t 3 < sz 3
  · exact ⟨3, by omega, by omega, h3⟩
  by_cases h4 : t 4 < sz 4
  · exact ⟨4, by omega, by omega, h4⟩
  omega
theorem rmT_0 {sz t : Int → Int} (hv : vT sz t) : 0 ≤ rmT sz t ∧ (rmT sz t = 0 → ∀ i : Int, 0 ≤ i → i < 5 → t i = sz i) := by
  have h0 := hv 0 (by omega) (by omega)
  have h1 := hv 1 (by omega) (by omega)
  have h2 := hv 2 (by omega) (by omega)
  have h3 := hv 3 (by omega) (by omega)
  have h4 := hv 4 (by omega) (by omega)
  unfold rmT
  refine ⟨by omega, fun e i g0 g5 => ?_⟩
  rcases i5 g0 g5 with rfl | rfl | rfl | rfl | rfl <;> omega
theorem mC_b {sz : Int → Int} {wt : Int → Int → Int} : ∀ (f : Nat) (t : Int → Int) (c : Int), vT sz t → rmT sz t = f → 0 ≤ mC sz wt f t c ∧ mC sz wt f t c ≤ f
  | 0, t, c, _, _ => ⟨Int.le_refl 0, Int.le_refl 0⟩
  | f + 1, t, c, hv, hr => by
    obtain ⟨i, h0, h5, h2⟩ := rmT_pos (sz := sz) (t := t) (by omega)
    have hb : ∀ i : Int, 0 ≤ i → i < 5 → t i < sz i → 0 ≤ mC sz wt f (upT t i) (wt i (t i)) ∧ mC sz wt f (upT t i) (wt i (t i)) ≤ f := fun i g0 g5 g2 => mC_b f (upT t i) _ (vT_up hv g2) (by rw [rmT_up g0 g5]; omega)
    have h3 := mnL_le (p := fun i => decide (t i < sz i)) (g := fun i => chg c (wt i (t i)) + mC sz wt f (upT t i) (wt i (t i))) (n := 5) h0 h5 (decide_eq_true h2)
    have h4 := hb i h0 h5 h2
    have h6 := chg_b c (wt i (t i))
    show 0 ≤ mnL _ _ 5 ∧ mnL _ _ 5 ≤ _
    refine ⟨?_, by omega⟩
    rcases mnL_at (fun i => decide (t i < sz i)) (fun i => chg c (wt i (t i)) + mC sz wt f (upT t i) (wt i (t i))) 5 with e | ⟨k, k0, k5, k2, k3⟩
    · rw [e]; decide
    · rw [k3]
      have k4 := hb k k0 k5 (of_decide_eq_true k2)
      have k6 := chg_b c (wt k (t k))
      omega
theorem mC_free {sz : Int → Int} {wt : Int → Int → Int} (f : Nat) (t : Int → Int) : mC sz wt (f + 1) t (-1) = mnL (fun i => decide (t i < sz i)) (fun i => mC sz wt f (upT t i) (wt i (t i))) 5 := by
  refine mnL_congr (fun k _ _ => ⟨rfl, fun _ => ?_⟩)
  show chg (-1) (wt k (t k)) + _ = _
  rw [show chg (-1) (wt k (t k)) = 0 from if_pos (Or.inl rfl)]
  omega
theorem mC_col {sz : Int → Int} {wt : Int → Int → Int} {f : Nat} {t : Int → Int} {c : Int} (hv : vT sz t) (hr : rmT sz t = (f + 1 : Nat)) (hf : f < 900) (hc : ¬ c = -1) :
    mC sz wt (f + 1) t (-1) ≤ mC sz wt (f + 1) t c ∧ mC sz wt (f + 1) t c ≤ mC sz wt (f + 1) t (-1) + 1 ∧ (mC sz wt (f + 1) t c = mC sz wt (f + 1) t (-1) ↔ ∃ k : Int, 0 ≤ k ∧ k < 5 ∧ t k < sz k ∧ wt k (t k) = c ∧ mC sz wt f (upT t k) (wt k (t k)) = mC sz wt (f + 1) t (-1)) := by
  have e1 := mC_free (sz := sz) (wt := wt) f t
  have e2 : mC sz wt (f + 1) t c = mnL (fun i => decide (t i < sz i)) (fun i => chg c (wt i (t i)) + mC sz wt f (upT t i) (wt i (t i))) 5 := rfl
  have bb := mC_b (sz := sz) (wt := wt) (f + 1) t (-1) hv hr
  have bc := mC_b (sz := sz) (wt := wt) (f + 1) t c hv hr
  generalize mC sz wt (f + 1) t (-1) = L at *
  generalize mC sz wt (f + 1) t c = V at *
  have lowA : ∀ k : Int, 0 ≤ k → k < 5 → t k < sz k → L ≤ mC sz wt f (upT t k) (wt k (t k)) := fun k h0 h5 h2 => by
    rw [e1]
    exact mnL_le (g := fun i => mC sz wt f (upT t i) (wt i (t i))) (n := 5) h0 h5 (decide_eq_true h2)
  have upV : ∀ k : Int, 0 ≤ k → k < 5 → t k < sz k → V ≤ chg c (wt k (t k)) + mC sz wt f (upT t k) (wt k (t k)) := fun k h0 h5 h2 => by
    rw [e2]
    exact mnL_le (g := fun i => chg c (wt i (t i)) + mC sz wt f (upT t i) (wt i (t i))) (n := 5) h0 h5 (decide_eq_true h2)
  have atV : ∃ k : Int, 0 ≤ k ∧ k < 5 ∧ t k < sz k ∧ V = chg c (wt k (t k)) + mC sz wt f (upT t k) (wt k (t k)) := by
    rcases mnL_at (fun i => decide (t i < sz i)) (fun i => chg c (wt i (t i)) + mC sz wt f (upT t i) (wt i (t i))) 5 with e | ⟨k, h0, h5, h2, h3⟩
    · rw [← e2] at e; omega
    · exact ⟨k, h0, h5, of_decide_eq_true h2, by rw [e2]; exact h3⟩
  have atL : ∃ k : Int, 0 ≤ k ∧ k < 5 ∧ t k < sz k ∧ L = mC sz wt f (upT t k) (wt k (t k)) := by
    rcases mnL_at (fun i => decide (t i < sz i)) (fun i => mC sz wt f (upT t i) (wt i (t i))) 5 with e | ⟨k, h0, h5, h2, h3⟩
    · rw [← e1] at e; omega
    · exact ⟨k, h0, h5, of_decide_eq_true h2, by rw [e1]; exact h3⟩
  obtain ⟨a, a0, a5, a2, a3⟩ := atV
  obtain ⟨b, b0, b5, b2, b3⟩ := atL
  have ca := chg_b c (wt a (t a))
  have cb := chg_b c (wt b (t b))
  have la := lowA a a0 a5 a2
  have ub := upV b b0 b5 b2
  refine ⟨by omega, by omega, fun e => ?_, fun ⟨k, k0, k5, k2, k3, k4⟩ => ?_⟩
  · have hz : chg c (wt a (t a)) = 0 := by omega
    refine ⟨a, a0, a5, a2, ?_, by omega⟩
    unfold chg at hz
    split at hz
    · rename_i h
      rcases h with h | h
      · exact absurd h hc
      · exact h.symm
    · exact absurd hz (by decide)
  · have uk := upV k k0 k5 k2
    rw [show chg c (wt k (t k)) = 0 from if_pos (Or.inr k3.symm)] at uk
    omega
/-! states by their numbers -/
def stN (sz : Int → Int) : Nat → Int
  | 0 => 1
  | n + 1 => stN sz n * (sz n + 1)
def vlN (sz t : Int → Int) : Nat → Int
  | 0 => 0
  | n + 1 => vlN sz t n + t n * stN sz n
theorem stN_pos {sz : Int → Int} (h : ∀ i : Int, 0 ≤ i → i < 5 → 0 ≤ sz i) : ∀ n : Nat, n ≤ 5 → 1 ≤ stN sz n
  | 0, _ => Int.le_refl 1
  | n + 1, hn => by
    have h1 := stN_pos h n (by omega)
    have h2 := h n (by omega) (by omega)
    show 1 ≤ stN sz n * (sz n + 1)
    have h3 : stN sz n * 1 ≤ stN sz n * (sz n + 1) := Int.mul_le_mul_of_nonneg_left (by omega) (by omega)
    omega
theorem vlN_b {sz t : Int → Int} (hz : ∀ i : Int, 0 ≤ i → i < 5 → 0 ≤ sz i) (hv : vT sz t) : ∀ n : Nat, n ≤ 5 → 0 ≤ vlN sz t n ∧ vlN sz t n < stN sz n
  | 0, _ => ⟨Int.le_refl 0, by show (0 : Int) < 1; decide⟩
  | n + 1, hn => by
    have h1 := vlN_b hz hv n (by omega)
    have h2 := hv n (by omega) (by omega)
    have h3 := stN_pos hz n (by omega)
    show 0 ≤ vlN sz t n + t n * stN sz n ∧ vlN sz t n + t n * stN sz n < stN sz n * (sz n + 1)
    have h4 : 0 ≤ t n * stN sz n := Int.mul_nonneg h2.1 (by omega)
    have h5 : t n * stN sz n ≤ sz n * stN sz n := Int.mul_le_mul_of_nonneg_right h2.2 (by omega)
    have h6 : stN sz n * (sz n + 1) = sz n * stN sz n + stN sz n := by rw [Int.mul_add, Int.mul_one, Int.mul_comm]
    omega
theorem dm_one {a x b y s : Int} (ha : 0 ≤ a ∧ a < s) (hb : 0 ≤ b ∧ b < s) (h : a + x * s = b + y * s) : a = b ∧ x = y := by
  have h1 : (a + x * s) % s = a := by rw [Int.add_mul_emod_self_right, Int.emod_eq_of_lt ha.1 ha.2]
  have h2 : (b + y * s) % s = b := by rw [Int.add_mul_emod_self_right, Int.emod_eq_of_lt hb.1 hb.2]
  have e : a = b := by rw [← h1, ← h2, h]
  refine ⟨e, ?_⟩
  have h3 : x * s = y * s := by omega
  exact Int.eq_of_mul_eq_mul_right (by omega) h3
theorem vlN_inj {sz t u : Int → Int} (hz : ∀ i : Int, 0 ≤ i → i < 5 → 0 ≤ sz i) (ht : vT sz t) (hu : vT sz u) : ∀ n : Nat, n ≤ 5 → vlN sz t n = vlN sz u n → ∀ i : Int, 0 ≤ i → i < n → t i = u i
  | 0, _, _, i, h0, h1 => by omega
  | n + 1, hn, h, i, h0, h1 => by
    have h2 : vlN sz t n + t n * stN sz n = vlN sz u n + u n * stN sz n := h
    obtain ⟨e1, e2⟩ := dm_one (vlN_b hz ht n (by omega)) (vlN_b hz hu n (by omega)) h2
    by_cases e : i = n
    · rw [e]; exact e2
    · exact vlN_inj hz ht hu n (by omega) e1 i h0 (by omega)
theorem vlN_up {sz t : Int → Int} {i : Int} : ∀ n : Nat, 0 ≤ i → vlN sz (upT t i) n = vlN sz t n + if i < n then stN sz i.toNat else 0
  | 0, h0 => by rw [if_neg (by omega)]; rfl
  | n + 1, h0 => by
    show vlN sz (upT t i) n + upT t i n * stN sz n = vlN sz t n + t n * stN sz n + _
    rw [vlN_up n h0]
    unfold upT
    by_cases e : (n : Int) = i
    · have e2 : i.toNat = n := by omega
      rw [if_pos e, if_neg (by omega), if_pos (by omega), e2, Int.add_mul]
      omega
    · rw [if_neg e]
      by_cases e3 : i < n
      · rw [if_pos e3, if_pos (by omega)]; omega
      · rw [if_neg e3, if_neg (by omega)]; omega
theorem vlN_congr {sz t u : Int → Int} : ∀ n : Nat, (∀ i : Int, 0 ≤ i → i < n → t i = u i) → vlN sz t n = vlN sz u n
  | 0, _ => rfl
  | n + 1, h => by
    show vlN sz t n + t n * stN sz n = vlN sz u n + u n * stN sz n
    rw [vlN_congr n (fun i h0 h1 => h i h0 (by omega)), h n (by omega) (by omega)]
theorem mC_congr {sz : Int → Int} {wt : Int → Int → Int} : ∀ (f : Nat) (t u : Int → Int) (c : Int), (∀ i : Int, 0 ≤ i → i < 5 → t i = u i) → mC sz wt f t c = mC sz wt f u c
  | 0, _, _, _, _ => rfl
  | f + 1, t, u, c, h => by
    refine mnL_congr (fun k h0 h5 => ?_)
    have e := h k h0 h5
    refine ⟨by rw [e], fun _ => ?_⟩
    rw [e, mC_congr f (upT t k) (upT u k) _ (fun i g0 g5 => by unfold upT; rw [h i g0 g5])]
theorem rmT_congr {sz t u : Int → Int} (h : ∀ i : Int, 0 ≤ i → i < 5 → t i = u i) : rmT sz t = rmT sz u := by
  unfold rmT
  rw [h 0 (by omega) (by omega), h 1 (by omega) (by omega), h 2 (by omega) (by omega), h 3 (by omega) (by omega), h 4 (by omega) (by omega)]
/-- twelve bodies have at most 432 states -/
def ok432 (a b c d e : Nat) : Bool := !(Nat.ble (a + b + c + d + e) 12) || Nat.ble ((a + 1) * (b + 1) * (c + 1) * (d + 1) * (e + 1)) 432
theorem st_432b : (List.range 7).all (fun a => (List.range 7).all (fun b => (List.range 7).all (fun c => (List.range 7).all (fun d => (List.range 7).all (fun e => ok432 a b c d e))))) = true := by decide +kernel
theorem st_432 (a : Nat) (ha : a < 7) (b : Nat) (hb : b < 7) (c : Nat) (hc : c < 7) (d : Nat) (hd : d < 7) (e : Nat) (he : e < 7) (hs : a + b + c + d + e ≤ 12) : (a + 1) * (b + 1) * (c + 1) * (d + 1) * (e + 1) ≤ 432 := by
  have h := st_432b
  have h1 := List.all_eq_true.mp h a (List.mem_range.mpr ha)
  have h2 := List.all_eq_true.mp h1 b (List.mem_range.mpr hb)
  have h3 := List.all_eq_true.mp h2 c (List.mem_range.mpr hc)
  have h4 := List.all_eq_true.mp h3 d (List.mem_range.mpr hd)
  have h5 := List.all_eq_true.mp h4 e (List.mem_range.mpr he)
  unfold ok432 at h5
  rw [Nat.ble_eq_true_of_le hs] at h5
  exact Nat.le_of_ble_eq_true (by simpa using h5)
theorem stN_432 {sz : Int → Int} (h : ∀ i : Int, 0 ≤ i → i < 5 → 0 ≤ sz i ∧ sz i ≤ 6) (hs : sz 0 + sz 1 + sz 2 + sz 3 + sz 4 ≤ 12) : stN sz 5 ≤ 432 := by
  have h0 := h 0 (by omega) (by omega)
  have h1 := h 1 (by omega) (by omega)
  have h2 := h 2 (by omega) (by omega)
  have h3 := h 3 (by omega) (by omega)
  have h4 := h 4 (by omega) (by omega)
  obtain ⟨a, ea⟩ : ∃ a : Nat, sz 0 = a := ⟨(sz 0).toNat, by omega⟩
  obtain ⟨b, eb⟩ : ∃ a : Nat, sz 1 = a := ⟨(sz 1).toNat, by omega⟩
  obtain ⟨c, ec⟩ : ∃ a : Nat, sz 2 = a := ⟨(sz 2).toNat, by omega⟩
  obtain ⟨d, ed⟩ : ∃ a : Nat, sz 3 = a := ⟨(sz 3).toNat, by omega⟩
  obtain ⟨e, ee⟩ : ∃ a : Nat, sz 4 = a := ⟨(sz 4).toNat, by omega⟩
  have k := st_432 a (by omega) b (by omega) c (by omega) d (by omega) e (by omega) (by omega)
  have e1 : stN sz 5 = (((a + 1) * (b + 1) * (c + 1) * (d + 1) * (e + 1) : Nat) : Int) := by
    show (((((1 : Int) * (sz 0 + 1)) * (sz 1 + 1)) * (sz 2 + 1)) * (sz 3 + 1)) * (sz 4 + 1) = _
    rw [ea, eb, ec, ed, ee]
    simp
  rw [e1]
  omega

