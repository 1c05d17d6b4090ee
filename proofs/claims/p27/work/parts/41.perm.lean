/-! NUMBERS UNDER m, EACH ONCE -/
/-- what a list in f holds of the numbers under m, each once -/
def prmL (f : Int → Int) (m : Nat) : Prop := (∀ j : Int, 0 ≤ j → j < m → 0 ≤ f j ∧ f j < m) ∧ ∀ i j : Int, 0 ≤ i → i < m → 0 ≤ j → j < m → f i = f j → i = j
theorem prm_on {f : Int → Int} {m : Nat} (h : prmL f m) {v : Int} (v0 : 0 ≤ v) (v1 : v < m) : ∃ j : Int, 0 ≤ j ∧ j < m ∧ f j = v := by
  refine Classical.byContradiction (fun hn => ?_)
  have hno : ∀ j : Int, 0 ≤ j → j < m → ¬ f j = v := fun j j0 j1 e => hn ⟨j, j0, j1, e⟩
  have k := php m (m + 1) (fun i => if i < m then (f i).toNat else v.toNat) (fun i hi => by
    split
    · rename_i e
      have := h.1 i (by omega) (by omega)
      omega
    · omega) (fun i j hi hj e => by
    split at e
    · rename_i ei
      have ki := h.1 i (by omega) (by omega)
      split at e
      · rename_i ej
        have kj := h.1 j (by omega) (by omega)
        have := h.2 i j (by omega) (by omega) (by omega) (by omega) (by omega)
        omega
      · exact absurd (show f i = v by omega) (hno i (by omega) (by omega))
    · split at e
      · rename_i ej
        have kj := h.1 j (by omega) (by omega)
        exact absurd (show f j = v by omega) (hno j (by omega) (by omega))
      · omega)
  omega
theorem sum_congr {f g : Int → Int} : ∀ n : Nat, (∀ j : Int, 0 ≤ j → j < n → f j = g j) → sumN f n = sumN g n
  | 0, _ => rfl
  | n + 1, h => by
    unfold sumN
    rw [sum_congr n (fun j j0 j1 => h j j0 (by omega)), h n (by omega) (by omega)]
theorem sum_up {f g : Int → Int} {w d : Int} (w0 : 0 ≤ w) (hg : ∀ v : Int, g v = if v = w then f v + d else f v) : ∀ n : Nat, sumN g n = sumN f n + if w < n then d else 0
  | 0 => by rw [if_neg (by omega)]; rfl
  | n + 1 => by
    have ih := sum_up w0 hg n
    unfold sumN
    rw [ih, hg]
    by_cases e : (n : Int) = w
    · rw [if_pos e, if_neg (by omega), if_pos (by omega)]; omega
    · rw [if_neg e]
      by_cases e2 : w < n
      · rw [if_pos e2, if_pos (by omega)]; omega
      · rw [if_neg e2, if_neg (by omega)]; omega
theorem sum_0 : ∀ (f : Int → Int) (n : Nat), (∀ j : Int, 0 ≤ j → j < n → f j = 0) → sumN f n = 0
  | _, 0, _ => rfl
  | f, n + 1, h => by
    unfold sumN
    rw [sum_0 f n (fun j j0 j1 => h j j0 (by omega)), h n (by omega) (by omega)]
    rfl
theorem sum_cnt {f : Int → Int} {m : Nat} : ∀ k : Nat, (∀ j : Int, 0 ≤ j → j < k → 0 ≤ f j ∧ f j < m) → sumN f k = sumN (fun v => v * cntN f v k) m
  | 0, _ => (sum_0 _ m (fun j _ _ => Int.mul_zero j)).symm
  | k + 1, h => by
    have ih := sum_cnt (f := f) (m := m) k (fun j j0 j1 => h j j0 (by omega))
    have hk := h k (by omega) (by omega)
    have e := sum_up (f := fun v => v * cntN f v k) (g := fun v => v * cntN f v (k + 1)) (w := f k) (d := f k) hk.1 (fun v => by
      show v * (if f k = v then cntN f v k + 1 else cntN f v k) = _
      by_cases e : f k = v
      · rw [if_pos e, if_pos e.symm, e, Int.mul_add, Int.mul_one]
      · rw [if_neg e, if_neg (fun x => e x.symm)]) m
    rw [if_pos hk.2] at e
    rw [e, ← ih]
    rfl
theorem sum_prm {f : Int → Int} {m : Nat} (h : prmL f m) : sumN f m = sumN (fun v => v) m := by
  rw [sum_cnt (m := m) m h.1]
  refine sum_congr m (fun v v0 v1 => ?_)
  obtain ⟨j, j0, j1, e⟩ := prm_on h v0 v1
  have hc := cnt_one (f := f) e j0 m j1 (fun b b0 b1 hne e2 => hne (h.2 b j b0 b1 j0 j1 (e2.trans e.symm)))
  rw [hc, Int.mul_one]
theorem sum_sub (f g : Int → Int) : ∀ n : Nat, sumN (fun j => f j - g j) n = sumN f n - sumN g n
  | 0 => rfl
  | n + 1 => by
    unfold sumN
    rw [sum_sub f g n]
    omega
theorem sum_late {f : Int → Int} {m : Nat} (h : prmL f m) : sumN (fun j => j - f j) m = 0 := by
  rw [sum_sub (fun j => j) f m, sum_prm h]
  omega
theorem sum_b {f : Int → Int} : ∀ k : Nat, (∀ j : Int, 0 ≤ j → j < k → -99 ≤ f j ∧ f j ≤ 99) → -99 * (k : Int) ≤ sumN f k ∧ sumN f k ≤ 99 * (k : Int)
  | 0, _ => ⟨by show (-99 : Int) * 0 ≤ 0; decide, by show (0 : Int) ≤ 99 * 0; decide⟩
  | k + 1, h => by
    have h1 := sum_b k (fun j j0 j1 => h j j0 (by omega))
    have h2 := h k (by omega) (by omega)
    unfold sumN
    omega
/-! the bits that the law gathers -/
def b1L (c : Int) : Int32 := zI 1 <<< (zI c &&& 31)
def seenL (f : Int → Int) : Nat → Int32
  | 0 => 0
  | k + 1 => seenL f k ||| b1L (f k)
theorem b1_bit : ∀ (c : Fin 13) (i : Fin 32), (b1L (c.val : Int)).toBitVec.getLsbD i.val = decide (i.val = c.val) := by decide +kernel
theorem b1_all : ∀ (m : Fin 13) (i : Fin 32), (b1L (m.val : Int) - zI 1).toBitVec.getLsbD i.val = decide (i.val < m.val) := by decide +kernel
theorem b1_rng : ∀ m : Fin 13, 1 ≤ (b1L (m.val : Int)).toInt ∧ (b1L (m.val : Int)).toInt ≤ 4096 := by decide +kernel
theorem seen_bit {f : Int → Int} : ∀ k : Nat, (∀ j : Int, 0 ≤ j → j < k → 0 ≤ f j ∧ f j ≤ 12) → ∀ i : Nat, i < 32 → ((seenL f k).toBitVec.getLsbD i = true ↔ ∃ j : Int, 0 ≤ j ∧ j < k ∧ f j = i)
  | 0, _, i, _ => by
    refine ⟨fun h => ?_, fun ⟨j, j0, j1, _⟩ => by omega⟩
    have e : (seenL f 0).toBitVec = 0#32 := rfl
    rw [e] at h
    simp at h
  | k + 1, h, i, hi => by
    have ih := seen_bit (f := f) k (fun j j0 j1 => h j j0 (by omega)) i hi
    have hk := h k (by omega) (by omega)
    have hb := b1_bit ⟨(f k).toNat, by omega⟩ ⟨i, hi⟩
    have ec : (((f k).toNat : Nat) : Int) = f k := by omega
    simp only [ec] at hb
    have eo : (seenL f (k + 1)).toBitVec = (seenL f k).toBitVec ||| (b1L (f k)).toBitVec := rfl
    rw [eo, BitVec.getLsbD_or, Bool.or_eq_true, ih, hb, decide_eq_true_iff]
    refine ⟨fun q => ?_, fun ⟨j, j0, j1, e⟩ => ?_⟩
    · rcases q with ⟨j, j0, j1, e⟩ | e
      · exact ⟨j, j0, by omega, e⟩
      · exact ⟨k, by omega, by omega, by omega⟩
    · by_cases ej : j = k
      · subst ej
        exact Or.inr (by omega)
      · exact Or.inl ⟨j, j0, by omega, e⟩
theorem seen_all {f : Int → Int} {m : Nat} (h : prmL f m) (hm : m ≤ 12) : seenL f m = b1L m - zI 1 := by
  refine Int32.toBitVec_inj.mp (BitVec.eq_of_getLsbD_eq (fun i hi => ?_))
  have h1 := seen_bit (f := f) m (fun j j0 j1 => by have := h.1 j j0 j1; omega) i hi
  have h2 := b1_all ⟨m, by omega⟩ ⟨i, hi⟩
  rw [h2]
  rw [Bool.eq_iff_iff, h1, decide_eq_true_iff]
  refine ⟨fun ⟨j, j0, j1, e⟩ => ?_, fun hlt => prm_on h (by omega) (by show (i : Int) < (m : Int); exact Int.ofNat_lt.mpr hlt)⟩
  have := h.1 j j0 j1
  show i < m
  omega
/-! the end of a round -/
theorem ord_prm {S : St} (hI : Inv S) (h : S.1 6 = S.1 5) : prmL (S.2 3) (S.1 5).toNat := by
  obtain ⟨hn, hz, hr, hc, hp, ha, hq, ht⟩ := hI
  refine ⟨fun j j0 j1 => ?_, fun i j i0 i1 j0 j1 e => ?_⟩
  · have := ha j j0 (by omega)
    omega
  · have h1 := ha i i0 (by omega)
    have h2 := ha j j0 (by omega)
    have h3 := h1.2.2.2
    rw [e, h2.2.2.2] at h3
    exact h3.symm
theorem lat_at {S : St} (hI : Inv S) {k : Int} (k0 : 0 ≤ k) (k1 : k < S.1 6) : kAsA S k = 0 ∧ (0 ≤ S.2 3 k ∧ S.2 3 k < S.1 5) ∧ kLat S (S.2 3 k) = 0 ∧ S.2 4 (S.2 3 k) - S.2 3 k = k - S.2 3 k := by
  have h := hI.2.2.2.2.2.1 k k0 k1
  refine ⟨if_pos ⟨k0, k1⟩, ⟨h.1, h.2.1⟩, ?_, by rw [h.2.2.2]⟩
  unfold kLat
  rw [if_neg (fun x => x ⟨h.1, h.2.1⟩), if_neg (fun x => x h.2.2.1)]
theorem wl_b {S : St} (hI : Inv S) : ∀ k : Nat, (k : Int) ≤ S.1 6 → 0 ≤ wlN S k ∧ wlN S k ≤ 99
  | 0, _ => ⟨Int.le_refl 0, by show (0 : Int) ≤ 99; decide⟩
  | k + 1, h => by
    have ih := wl_b hI k (by omega)
    have h1 := hI.2.2.2.2.2.1 k (by omega) (by omega)
    have hn := hI.1
    unfold wlN
    split <;> omega
/-- the best head of a state in which bodies wait -/
theorem JL.best {n : Int} {S : St} (h : JL n S) (hlt : S.1 6 < S.1 5) : kReB S = 0 ∧ (0 ≤ blS S ∧ blS S < 5) ∧ 0 < S.2 0 (blS S) ∧ fwS (relS S (blS S)) ((relS S (blS S)).1 8) = fwS S (S.1 8) - chg (S.1 8) (S.2 1 (atS S (blS S) 0)) := by
  have hcn := h.cn
  obtain ⟨hI, e0, e1, e2, e3, e4, e5, e6, e7⟩ := h
  have hs := bl_some hI.1 (by omega) (by have := hI.1.1; omega)
  have hb := blS_b S
  have hp := blS_pos hs
  have hn := hI.1.1
  have b0 : 0 ≤ blS S := by omega
  refine ⟨?_, ⟨b0, hb.2⟩, hp, ?_⟩
  · unfold kReB
    rw [nlS_5 hI.1, hcn, if_neg (fun x => by rcases x with x | x | x <;> first | omega | exact hs x)]
  · have sS : seesL S (S.1 8, S.2 0, wtS S) := ⟨rfl, fun _ _ _ => rfl, fun _ _ _ _ _ _ => rfl⟩
    have h1 := fi_sees hI.1 sS b0 hb.2 hp
    have h2 := fw_sees (inv_rel hI b0 hb.2 hp).1 (sees_rel sS b0 hb.2 hp)
    have h3 := (of_decide_eq_true (fstB_ok hs)).2
    have h4 : fiS S (blS S) (S.1 8) = fwS S (S.1 8) := h3
    have ea : atS S (blS S) 0 = S.2 (10 + (blS S).toNat) 0 := if_pos ⟨Int.le_refl 0, hp⟩
    rw [h2, ← h4, h1, ea]
    show _ = chg (S.1 8) (wtS S (blS S) 0) + fwL (pcR (S.1 8, S.2 0, wtS S) (blS S)) - chg (S.1 8) (S.2 1 (S.2 (10 + (blS S).toNat) 0))
    rw [wt_def]
    omega
/-- once all are released none waits -/
theorem JL.none {n : Int} {S : St} (h : JL n S) (he : S.1 6 = S.1 5) : fwS S (S.1 8) = 0 := by
  have hb := fw_b h.1.1 (S.1 8)
  have e := h.2.2.2.2.2.1
  omega
