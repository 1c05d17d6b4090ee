/-! WHAT HOLDS IN EVERY STATE: Inv, and each body in a lane has that lane as its place, and stands there once -/
def Inv2 (S : St) : Prop := Inv S ∧ (∀ i j : Int, 0 ≤ i → i < 5 → 0 ≤ j → j < S.2 0 i → S.2 2 (S.2 (10 + i.toNat) j) = i) ∧ (∀ i j k : Int, 0 ≤ i → i < 5 → 0 ≤ j → j < k → k < S.2 0 i → ¬ S.2 (10 + i.toNat) j = S.2 (10 + i.toNat) k)
/-- the same but for the place of b, which stands nowhere -/
def InvB (S : St) (b : Int) : Prop := ((1 ≤ S.1 0 ∧ S.1 0 ≤ 5) ∧ (1 ≤ S.1 1 ∧ S.1 1 ≤ 6) ∧ (1 ≤ S.1 2 ∧ S.1 2 ≤ 6) ∧ (0 ≤ S.1 3 ∧ S.1 3 ≤ 2) ∧ (0 ≤ S.1 4 ∧ S.1 4 ≤ 2) ∧ (0 ≤ S.1 5 ∧ S.1 5 ≤ 99) ∧ (0 ≤ S.1 6 ∧ S.1 6 ≤ S.1 5) ∧ (-1 ≤ S.1 8 ∧ S.1 8 ≤ 4)) ∧
  (∀ i : Int, 0 ≤ i → i < 5 → 0 ≤ S.2 0 i ∧ S.2 0 i ≤ S.1 1 ∧ (S.1 0 ≤ i → S.2 0 i = 0)) ∧
  (∀ i j : Int, 0 ≤ i → i < 5 → 0 ≤ j → j < S.2 0 i → 0 ≤ S.2 (10 + i.toNat) j ∧ S.2 (10 + i.toNat) j < S.1 5 ∧ ¬ S.2 (10 + i.toNat) j = b ∧ S.2 2 (S.2 (10 + i.toNat) j) = i) ∧
  (∀ i j k : Int, 0 ≤ i → i < 5 → 0 ≤ j → j < k → k < S.2 0 i → ¬ S.2 (10 + i.toNat) j = S.2 (10 + i.toNat) k) ∧
  (∀ c : Int, 0 ≤ c → c < S.1 5 → 0 ≤ S.2 1 c ∧ S.2 1 c ≤ 4) ∧ (∀ c : Int, 0 ≤ c → c < S.1 5 → ¬ c = b → 0 ≤ S.2 2 c ∧ S.2 2 c ≤ 12) ∧
  (∀ q : Int, 0 ≤ q → q < S.1 6 → 0 ≤ S.2 3 q ∧ S.2 3 q < S.1 5 ∧ S.2 2 (S.2 3 q) = 12 ∧ S.2 4 (S.2 3 q) = q ∧ ¬ S.2 3 q = b) ∧
  (∀ c : Int, 0 ≤ c → c < S.1 5 → ¬ c = b → S.2 2 c = 12 → 0 ≤ S.2 4 c ∧ S.2 4 c < S.1 6 ∧ S.2 3 (S.2 4 c) = c)
theorem put_0 (S : St) {i : Int} (b : Int) (h0 : 0 ≤ i) (j : Int) : (putS S i b).2 0 j = if j = i then S.2 0 i + 1 else S.2 0 j := by
  show (ua (ua S (10 + i.toNat) (S.2 0 i) b) 0 i (S.2 0 i + 1)).2 0 j = _
  rw [ua_s, ua_n _ _ _ _ _ (by omega)]
theorem put_2 (S : St) {i : Int} (b : Int) (j : Int) : (putS S i b).2 2 j = if j = b then i else S.2 2 j := by
  show (ua (addS S i b) 2 b i).2 2 j = _
  rw [ua_s]
  unfold addS
  rw [ua_n _ _ _ _ _ (by omega), ua_n _ _ _ _ _ (by omega)]
theorem put_a (S : St) {i : Int} (b : Int) {a : Nat} (h : a = 1 ∨ a = 3 ∨ a = 4) (j : Int) : (putS S i b).2 a j = S.2 a j := by
  show (ua (addS S i b) 2 b i).2 a j = _
  unfold addS
  rw [ua_n _ _ _ _ _ (by omega), ua_n _ _ _ _ _ (by omega), ua_n _ _ _ _ _ (by omega)]
theorem put_r (S : St) {i k : Int} (b : Int) (h0 : 0 ≤ i) (hk : 0 ≤ k) (j : Int) : (putS S i b).2 (10 + k.toNat) j = if k = i ∧ j = S.2 0 i then b else S.2 (10 + k.toNat) j := by
  show (ua (addS S i b) 2 b i).2 (10 + k.toNat) j = _
  unfold addS
  rw [ua_n _ _ _ _ _ (by omega), ua_n _ _ _ _ _ (by omega)]
  by_cases e : k = i
  · subst e
    rw [ua_s]
    by_cases e2 : j = S.2 0 k
    · rw [if_pos e2, if_pos ⟨rfl, e2⟩]
    · rw [if_neg e2, if_neg (fun x => e2 x.2)]
  · rw [ua_n _ _ _ _ _ (by omega), if_neg (fun x => e x.1)]
theorem inv_put {S : St} {i b : Int} (hI : InvB S b) (h0 : 0 ≤ i) (h1 : i < S.1 0) (hb0 : 0 ≤ b) (hb : b < S.1 5) (hs : S.2 0 i < S.1 1) : Inv2 (putS S i b) := by
  obtain ⟨hn, hz, hr, hd, hc, hp, ha, hq⟩ := hI
  have n0 : (putS S i b).1 0 = S.1 0 := rfl
  have n1 : (putS S i b).1 1 = S.1 1 := rfl
  have n2 : (putS S i b).1 2 = S.1 2 := rfl
  have n3 : (putS S i b).1 3 = S.1 3 := rfl
  have n4 : (putS S i b).1 4 = S.1 4 := rfl
  have n5 : (putS S i b).1 5 = S.1 5 := rfl
  have n6 : (putS S i b).1 6 = S.1 6 := rfl
  have n7 : (putS S i b).1 7 = behS S i := rfl
  have n8 : (putS S i b).1 8 = S.1 8 := rfl
  have n11 : (putS S i b).1 11 = i := rfl
  have hbe : behS S i = if i + 1 < S.1 0 then i + 1 else 0 := rfl
  have hbb : 0 ≤ behS S i ∧ behS S i < S.1 0 := by rw [hbe]; split <;> omega
  have zi := hz i h0 (by omega)
  refine ⟨⟨by rw [n0, n1, n2, n3, n4, n5, n6, n7, n8, n11]; omega, fun j j0 j5 => ?_, fun k j k0 k5 j0 j1 => ?_, fun c c0 c1 => ?_, fun c c0 c1 => ?_, fun q q0 q1 => ?_, fun c c0 c1 h => ?_, ?_⟩, fun k j k0 k5 j0 j1 => ?_, fun k j m k0 k5 j0 j1 m1 => ?_⟩
  · have := hz j j0 j5
    rw [put_0 S b h0, n1, n0]
    split
    · rename_i e
      subst e
      omega
    · omega
  · rw [put_0 S b h0] at j1
    rw [put_r S b h0 k0, n5]
    split
    · omega
    · rename_i e
      have hj : j < S.2 0 k := by
        by_cases e2 : k = i
        · subst e2
          rw [if_pos rfl] at j1
          have : ¬ j = S.2 0 k := fun x => e ⟨rfl, x⟩
          omega
        · rw [if_neg e2] at j1
          exact j1
      have := hr k j k0 k5 j0 hj
      omega
  · rw [put_a S b (by omega)]
    exact hc c c0 c1
  · rw [put_2]
    split
    · omega
    · rename_i e
      exact hp c c0 c1 e
  · have h9 := ha q q0 q1
    rw [put_a S b (a := 3) (by omega), put_a S b (a := 4) (by omega), put_2, if_neg h9.2.2.2.2, n5]
    omega
  · rw [put_2] at h
    rw [put_a S b (a := 4) (by omega), put_a S b (a := 3) (by omega), n6]
    split at h
    · omega
    · rename_i e
      exact hq c c0 c1 e h
  · rw [n7, n11, n0, hbe]
  · rw [put_0 S b h0] at j1
    rw [put_r S b h0 k0, put_2]
    split
    · rename_i e
      rw [if_pos rfl]
      exact e.1.symm
    · rename_i e
      have hj : j < S.2 0 k := by
        by_cases e2 : k = i
        · subst e2
          rw [if_pos rfl] at j1
          have : ¬ j = S.2 0 k := fun x => e ⟨rfl, x⟩
          omega
        · rw [if_neg e2] at j1
          exact j1
      have := hr k j k0 k5 j0 hj
      rw [if_neg this.2.2.1]
      exact this.2.2.2
  · rw [put_0 S b h0] at m1
    rw [put_r S b h0 k0, put_r S b h0 k0]
    by_cases e2 : k = i
    · subst e2
      rw [if_pos rfl] at m1
      rw [if_neg (fun x => by omega)]
      split
      · exact (hr k j k0 k5 j0 (by omega)).2.2.1
      · rename_i e
        have : ¬ m = S.2 0 k := fun x => e ⟨rfl, x⟩
        exact hd k j m k0 k5 j0 j1 (by omega)
    · rw [if_neg e2] at m1
      rw [if_neg (fun x => e2 x.1), if_neg (fun x => e2 x.1)]
      exact hd k j m k0 k5 j0 j1 m1
/-- a body in repair stands nowhere -/
theorem invB_rep {S : St} {b : Int} (hI : Inv2 S) (h : S.2 2 b = 11) : InvB S b := by
  obtain ⟨⟨hn, hz, hr, hc, hp, ha, hq, ht⟩, hl, hd⟩ := hI
  refine ⟨by omega, hz, fun i j i0 i5 j0 j1 => ?_, hd, hc, fun c c0 c1 _ => hp c c0 c1, fun q q0 q1 => ?_, fun c c0 c1 _ h => hq c c0 c1 h⟩
  · have h1 := hr i j i0 i5 j0 j1
    have h2 := hl i j i0 i5 j0 j1
    exact ⟨h1.1, h1.2, fun e => by rw [e] at h2; omega, h2⟩
  · have h1 := ha q q0 q1
    exact ⟨h1.1, h1.2.1, h1.2.2.1, h1.2.2.2, fun e => by rw [e] at h1; omega⟩
/-- a new body stands nowhere -/
theorem invB_new {S : St} {v : Int} (hI : Inv2 S) (h5 : S.1 5 < 99) (hv : 0 ≤ v ∧ v ≤ 4) : InvB (newS S v) (S.1 5) := by
  obtain ⟨⟨hn, hz, hr, hc, hp, ha, hq, ht⟩, hl, hd⟩ := hI
  have n5 : (newS S v).1 5 = S.1 5 + 1 := rfl
  have e1 : ∀ j, (newS S v).2 1 j = if j = S.1 5 then v else S.2 1 j := fun j => ua_s S 1 (S.1 5) v j
  have er : ∀ (k : Nat) (j : Int), (newS S v).2 (10 + k) j = S.2 (10 + k) j := fun k j => ua_n S 1 (S.1 5) v j (by omega)
  refine ⟨?_, hz, fun i j i0 i5 j0 j1 => ?_, fun i j k i0 i5 j0 j1 k1 => ?_, fun c c0 c1 => ?_, fun c c0 c1 h => ?_, fun q q0 q1 => ?_, fun c c0 c1 h h2 => ?_⟩
  · rw [n5]
    show ((1 ≤ S.1 0 ∧ S.1 0 ≤ 5) ∧ (1 ≤ S.1 1 ∧ S.1 1 ≤ 6) ∧ (1 ≤ S.1 2 ∧ S.1 2 ≤ 6) ∧ (0 ≤ S.1 3 ∧ S.1 3 ≤ 2) ∧ (0 ≤ S.1 4 ∧ S.1 4 ≤ 2) ∧ (0 ≤ S.1 5 + 1 ∧ S.1 5 + 1 ≤ 99) ∧ (0 ≤ S.1 6 ∧ S.1 6 ≤ S.1 5 + 1) ∧ (-1 ≤ S.1 8 ∧ S.1 8 ≤ 4))
    omega
  · have h1 := hr i j i0 i5 j0 j1
    have h2 := hl i j i0 i5 j0 j1
    rw [er, n5]
    exact ⟨h1.1, by omega, by omega, h2⟩
  · rw [er, er]
    exact hd i j k i0 i5 j0 j1 k1
  · rw [e1]
    rw [n5] at c1
    split
    · exact hv
    · exact hc c c0 (by omega)
  · rw [n5] at c1
    exact hp c c0 (by omega)
  · have h1 := ha q q0 q1
    rw [n5]
    exact ⟨h1.1, (by show S.2 3 q < S.1 5 + 1; omega), h1.2.2.1, h1.2.2.2, fun e => by have e9 : S.2 3 q = S.1 5 := e; omega⟩
  · rw [n5] at c1
    exact hq c c0 (by omega) h2
/-- a body at no lane and not assembled may go to another place of that kind -/
theorem inv_rep {S : St} {b : Int} (hI : Inv2 S) (h : S.2 2 b = 10) : Inv2 (ua S 2 b 11) := by
  obtain ⟨⟨hn, hz, hr, hc, hp, ha, hq, ht⟩, hl, hd⟩ := hI
  have e2 : ∀ j, (ua S 2 b 11).2 2 j = if j = b then 11 else S.2 2 j := fun j => ua_s S 2 b 11 j
  have er : ∀ (k : Nat) (j : Int), (ua S 2 b 11).2 (10 + k) j = S.2 (10 + k) j := fun k j => ua_n S 2 b 11 j (by omega)
  refine ⟨⟨hn, hz, fun i j i0 i5 j0 j1 => ?_, hc, fun c c0 c1 => ?_, fun q q0 q1 => ?_, fun c c0 c1 h2 => ?_, ht⟩, fun i j i0 i5 j0 j1 => ?_, fun i j k i0 i5 j0 j1 k1 => ?_⟩
  · rw [er]
    exact hr i j i0 i5 j0 j1
  · rw [e2]
    split
    · omega
    · exact hp c c0 c1
  · have h1 := ha q q0 q1
    refine ⟨h1.1, h1.2.1, ?_, h1.2.2.2⟩
    show (ua S 2 b 11).2 2 (S.2 3 q) = 12
    rw [e2, if_neg (fun e => by rw [e] at h1; omega)]
    exact h1.2.2.1
  · rw [e2] at h2
    split at h2
    · omega
    · exact hq c c0 c1 h2
  · have h1 := hl i j i0 i5 j0 j1
    rw [er, e2, if_neg (fun e => by rw [e] at h1; omega)]
    exact h1
  · rw [er, er]
    exact hd i j k i0 i5 j0 j1 k1
theorem inv_asm {S : St} {b : Int} (hI : Inv2 S) (h0 : 0 ≤ b) (h1 : b < S.1 5) (h : S.2 2 b = 10) : Inv2 (asmS S b) := by
  have hlt := asm_lt hI.1 h0 h1 (by omega)
  obtain ⟨⟨hn, hz, hr, hc, hp, ha, hq, ht⟩, hl, hd⟩ := hI
  have e2 : ∀ j, (asmS S b).2 2 j = if j = b then 12 else S.2 2 j := fun j => ua_s S 2 b 12 j
  have e4 : ∀ j, (asmS S b).2 4 j = if j = b then S.1 6 else S.2 4 j := fun j => ua_s (ua S 2 b 12) 4 b (S.1 6) j
  have e3 : ∀ j, (asmS S b).2 3 j = if j = S.1 6 then b else S.2 3 j := fun j => ua_s (ua (ua S 2 b 12) 4 b (S.1 6)) 3 (S.1 6) b j
  have er : ∀ (k : Nat) (j : Int), (asmS S b).2 (10 + k) j = S.2 (10 + k) j := fun k j => by
    show (ua (ua (ua S 2 b 12) 4 b (S.1 6)) 3 (S.1 6) b).2 (10 + k) j = _
    rw [ua_n _ _ _ _ _ (by omega), ua_n _ _ _ _ _ (by omega), ua_n _ _ _ _ _ (by omega)]
  have n6 : (asmS S b).1 6 = S.1 6 + 1 := rfl
  have nb : ∀ q : Int, 0 ≤ q → q < S.1 6 → ¬ S.2 3 q = b := fun q q0 q1 e => by
    have h9 := ha q q0 q1
    rw [e] at h9
    omega
  refine ⟨⟨?_, hz, fun i j i0 i5 j0 j1 => ?_, hc, fun c c0 c1 => ?_, fun q q0 q1 => ?_, fun c c0 c1 h2 => ?_, ht⟩, fun i j i0 i5 j0 j1 => ?_, fun i j k i0 i5 j0 j1 k1 => ?_⟩
  · rw [n6]
    show ((1 ≤ S.1 0 ∧ S.1 0 ≤ 5) ∧ (1 ≤ S.1 1 ∧ S.1 1 ≤ 6) ∧ (1 ≤ S.1 2 ∧ S.1 2 ≤ 6) ∧ (0 ≤ S.1 3 ∧ S.1 3 ≤ 2) ∧ (0 ≤ S.1 4 ∧ S.1 4 ≤ 2) ∧ (0 ≤ S.1 5 ∧ S.1 5 ≤ 99) ∧ (0 ≤ S.1 6 + 1 ∧ S.1 6 + 1 ≤ S.1 5) ∧ (0 ≤ S.1 7 ∧ S.1 7 < S.1 0) ∧ (-1 ≤ S.1 8 ∧ S.1 8 ≤ 4) ∧ (-1 ≤ S.1 11 ∧ S.1 11 < S.1 0))
    omega
  · rw [er]
    exact hr i j i0 i5 j0 j1
  · rw [e2]
    split
    · omega
    · exact hp c c0 c1
  · rw [n6] at q1
    rw [e3]
    by_cases e : q = S.1 6
    · rw [if_pos e, e2, if_pos rfl, e4, if_pos rfl]
      exact ⟨h0, h1, rfl, e.symm⟩
    · rw [if_neg e]
      have h9 := ha q q0 (by omega)
      rw [e2, if_neg (nb q q0 (by omega)), e4, if_neg (nb q q0 (by omega))]
      exact h9
  · rw [n6, e4, e3]
    by_cases e : c = b
    · rw [if_pos e, if_pos rfl]
      omega
    · rw [if_neg e]
      rw [e2, if_neg e] at h2
      have h9 := hq c c0 c1 h2
      rw [if_neg (by omega)]
      omega
  · have h9 := hl i j i0 i5 j0 j1
    rw [er, e2, if_neg (fun e => by rw [e] at h9; omega)]
    exact h9
  · rw [er, er]
    exact hd i j k i0 i5 j0 j1 k1
theorem inv_rel {S : St} {i : Int} (hI : Inv2 S) (h0 : 0 ≤ i) (h5 : i < 5) (hs : 0 < S.2 0 i) : Inv2 (relS S i) := by
  obtain ⟨⟨hn, hz, hr, hc, hp, ha, hq, ht⟩, hl, hd⟩ := hI
  have z9 := hz i h0 h5
  have ea : atS S i 0 = S.2 (10 + i.toNat) 0 := if_pos ⟨Int.le_refl 0, hs⟩
  have hb := hr i 0 h0 h5 (Int.le_refl 0) hs
  have hbp := hl i 0 h0 h5 (Int.le_refl 0) hs
  have hbc := hc _ hb.1 hb.2
  have e0 : ∀ j, (relS S i).2 0 j = if j = i then S.2 0 i - 1 else S.2 0 j := fun j => by
    show (ua (ua (ur S (10 + i.toNat) (shf (S.2 (10 + i.toNat)) (S.2 0 i))) 0 i (S.2 0 i - 1)) 2 (atS S i 0) 10).2 0 j = _
    rw [ua_n _ _ _ _ _ (by omega), ua_s, ur_n _ _ _ (by omega)]
  have ex : ∀ (a : Nat) (j : Int), (a = 1 ∨ a = 3 ∨ a = 4) → (relS S i).2 a j = S.2 a j := fun a j h => by
    show (ua (ua (ur S (10 + i.toNat) (shf (S.2 (10 + i.toNat)) (S.2 0 i))) 0 i (S.2 0 i - 1)) 2 (atS S i 0) 10).2 a j = _
    rw [ua_n _ _ _ _ _ (by omega), ua_n _ _ _ _ _ (by omega), ur_n _ _ _ (by omega)]
  have e2 : ∀ j, (relS S i).2 2 j = if j = S.2 (10 + i.toNat) 0 then 10 else S.2 2 j := fun j => by
    show (ua (ua (ur S (10 + i.toNat) (shf (S.2 (10 + i.toNat)) (S.2 0 i))) 0 i (S.2 0 i - 1)) 2 (atS S i 0) 10).2 2 j = _
    rw [ua_s, ea, ua_n _ _ _ _ _ (by omega), ur_n _ _ _ (by omega)]
  have er : ∀ (k j : Int), 0 ≤ k → 0 ≤ j → j < (relS S i).2 0 k → ∃ j' : Int, (relS S i).2 (10 + k.toNat) j = S.2 (10 + k.toNat) j' ∧ j' = (if k = i then j + 1 else j) ∧ 0 ≤ j' ∧ j' < S.2 0 k := fun k j k0 j0 j1 => by
    rw [e0] at j1
    show ∃ j' : Int, (ua (ua (ur S (10 + i.toNat) (shf (S.2 (10 + i.toNat)) (S.2 0 i))) 0 i (S.2 0 i - 1)) 2 (atS S i 0) 10).2 (10 + k.toNat) j = _ ∧ _
    rw [ua_n _ _ _ _ _ (by omega), ua_n _ _ _ _ _ (by omega)]
    by_cases e : k = i
    · subst e
      rw [if_pos rfl] at j1
      refine ⟨j + 1, ?_, by rw [if_pos rfl], by omega, by omega⟩
      rw [ur_s]
      exact if_pos ⟨j0, by omega⟩
    · rw [if_neg e] at j1
      exact ⟨j, by rw [ur_n _ _ _ (by omega)], by rw [if_neg e], j0, j1⟩
  have nh : ∀ (k j' : Int), 0 ≤ k → k < 5 → 0 ≤ j' → j' < S.2 0 k → (k = i → 1 ≤ j') → ¬ S.2 (10 + k.toNat) j' = S.2 (10 + i.toNat) 0 := fun k j' k0 k5 j0 j1 hk e => by
    have h1 := hl k j' k0 k5 j0 j1
    rw [e, hbp] at h1
    subst h1
    exact hd i 0 j' h0 h5 (Int.le_refl 0) (by have := hk rfl; omega) j1 e.symm
  have n8 : (relS S i).1 8 = S.2 1 (atS S i 0) := rfl
  refine ⟨⟨?_, fun j j0 j5 => ?_, fun k j k0 k5 j0 j1 => ?_, fun c c0 c1 => ?_, fun c c0 c1 => ?_, fun q q0 q1 => ?_, fun c c0 c1 h2 => ?_, ht⟩, fun k j k0 k5 j0 j1 => ?_, fun k j m k0 k5 j0 j1 m1 => ?_⟩
  · rw [n8, ea]
    show ((1 ≤ S.1 0 ∧ S.1 0 ≤ 5) ∧ (1 ≤ S.1 1 ∧ S.1 1 ≤ 6) ∧ (1 ≤ S.1 2 ∧ S.1 2 ≤ 6) ∧ (0 ≤ S.1 3 ∧ S.1 3 ≤ 2) ∧ (0 ≤ S.1 4 ∧ S.1 4 ≤ 2) ∧ (0 ≤ S.1 5 ∧ S.1 5 ≤ 99) ∧ (0 ≤ S.1 6 ∧ S.1 6 ≤ S.1 5) ∧ (0 ≤ S.1 7 ∧ S.1 7 < S.1 0) ∧ (-1 ≤ S.2 1 (S.2 (10 + i.toNat) 0) ∧ S.2 1 (S.2 (10 + i.toNat) 0) ≤ 4) ∧ (-1 ≤ S.1 11 ∧ S.1 11 < S.1 0))
    omega
  · have h1 := hz j j0 j5
    rw [e0]
    show 0 ≤ _ ∧ _ ≤ S.1 1 ∧ (S.1 0 ≤ j → _)
    split
    · rename_i e
      subst e
      omega
    · exact h1
  · obtain ⟨j', e, -, g0, g1⟩ := er k j k0 j0 j1
    rw [e]
    exact hr k j' k0 k5 g0 g1
  · rw [ex 1 c (by omega)]
    exact hc c c0 c1
  · rw [e2]
    split
    · omega
    · exact hp c c0 c1
  · have h9 := ha q q0 q1
    rw [ex 3 q (by omega), ex 4 _ (by omega), e2, if_neg (fun e => by rw [e] at h9; omega)]
    exact h9
  · rw [e2] at h2
    split at h2
    · omega
    · rw [ex 4 c (by omega), ex 3 _ (by omega)]
      exact hq c c0 c1 h2
  · obtain ⟨j', e, ej, g0, g1⟩ := er k j k0 j0 j1
    rw [e, e2, if_neg (nh k j' k0 k5 g0 g1 (fun x => by rw [if_pos x] at ej; omega))]
    exact hl k j' k0 k5 g0 g1
  · obtain ⟨j', e, ej, g0, g1⟩ := er k j k0 j0 (by omega)
    obtain ⟨m', e', em, g0', g1'⟩ := er k m k0 (by omega) m1
    rw [e, e']
    refine hd k j' m' k0 k5 g0 ?_ g1'
    split at ej <;> split at em <;> omega
theorem inv_set {S : St} {a b : Int} (hI : Inv2 S) (ha9 : 0 ≤ a ∧ a ≤ 2) (hb9 : 0 ≤ b ∧ b ≤ 2) : Inv2 (sSet S a b) := by
  obtain ⟨⟨hn, hz, hr, hc, hp, ha, hq, ht⟩, hl, hd⟩ := hI
  refine ⟨⟨?_, hz, hr, hc, hp, ha, hq, ht⟩, hl, hd⟩
  show ((1 ≤ S.1 0 ∧ S.1 0 ≤ 5) ∧ (1 ≤ S.1 1 ∧ S.1 1 ≤ 6) ∧ (1 ≤ S.1 2 ∧ S.1 2 ≤ 6) ∧ (0 ≤ a ∧ a ≤ 2) ∧ (0 ≤ b ∧ b ≤ 2) ∧ (0 ≤ S.1 5 ∧ S.1 5 ≤ 99) ∧ (0 ≤ S.1 6 ∧ S.1 6 ≤ S.1 5) ∧ (0 ≤ S.1 7 ∧ S.1 7 < S.1 0) ∧ (-1 ≤ S.1 8 ∧ S.1 8 ≤ 4) ∧ (-1 ≤ S.1 11 ∧ S.1 11 < S.1 0))
  omega
/-- no body: all lanes are empty -/
theorem inv_nil {S : St} (h0 : 1 ≤ S.1 0 ∧ S.1 0 ≤ 5) (h1 : 1 ≤ S.1 1 ∧ S.1 1 ≤ 6) (h2 : 1 ≤ S.1 2 ∧ S.1 2 ≤ 6) (h3 : 0 ≤ S.1 3 ∧ S.1 3 ≤ 2) (h4 : 0 ≤ S.1 4 ∧ S.1 4 ≤ 2) (h5 : S.1 5 = 0) (h6 : S.1 6 = 0) (h7 : S.1 7 = 0) (h8 : S.1 8 = -1) (h11 : S.1 11 = -1) (hz : ∀ i : Int, 0 ≤ i → i < 5 → S.2 0 i = 0) : Inv2 S := by
  refine ⟨⟨by omega, fun i i0 i5 => ?_, fun i j i0 i5 j0 j1 => ?_, fun c c0 c1 => by omega, fun c c0 c1 => by omega, fun q q0 q1 => by omega, fun c c0 c1 => by omega, by rw [h7, h11, if_pos (by omega)]; rfl⟩, fun i j i0 i5 j0 j1 => ?_, fun i j k i0 i5 j0 j1 k1 => ?_⟩
  · have := hz i i0 i5
    omega
  · have := hz i i0 i5
    omega
  · have := hz i i0 i5
    omega
  · have := hz i i0 i5
    omega
theorem clN_0 (S : St) : ∀ n : Nat, (clN S n).1 = S.1 ∧ ∀ j : Int, (clN S n).2 0 j = if 0 ≤ j ∧ j < (n : Int) then 0 else S.2 0 j
  | 0 => ⟨rfl, fun j => (if_neg (by omega)).symm⟩
  | n + 1 => ⟨(clN_0 S n).1, fun j => by
    show (ua (clN S n) 0 n 0).2 0 j = _
    rw [ua_s, (clN_0 S n).2 j]
    by_cases e : j = (n : Int)
    · rw [if_pos e, if_pos (by omega)]
    · rw [if_neg e]
      by_cases e2 : 0 ≤ j ∧ j < (n : Int)
      · rw [if_pos e2, if_pos (by omega)]
      · rw [if_neg e2, if_neg (by omega)]⟩
theorem us_cong {S T : St} (h : S.1 = T.1) (k : Nat) (v : Int) : (us S k v).1 = (us T k v).1 := by
  funext j
  show (match Nat.beq j k with | true => v | false => S.1 j) = (match Nat.beq j k with | true => v | false => T.1 j)
  rw [h]
theorem inv_beg {S : St} {a b c : Int} (hI : Inv2 S) (h : kBeg a b c = 0) : Inv2 (sBeg S a b c) := by
  have h9 : (1 ≤ a ∧ a ≤ 5) ∧ (1 ≤ b ∧ b ≤ 6) ∧ (1 ≤ c ∧ c ≤ 6) := by
    unfold kBeg at h
    split at h
    · assumption
    · omega
  obtain ⟨⟨hn, -⟩, -⟩ := hI
  have cl := clN_0 (us (us (us S 0 a) 1 b) 2 c) 5
  have g : ∀ k : Nat, (sBeg S a b c).1 k = (us (us (us (us (us (us (us (us (us (us S 0 a) 1 b) 2 c) 5 0) 6 0) 7 0) 8 (-1)) 9 0) 10 0) 11 (-1)).1 k := fun k => by
    show (us (us (us (us (us (us (us (clN (us (us (us S 0 a) 1 b) 2 c) 5) 5 0) 6 0) 7 0) 8 (-1)) 9 0) 10 0) 11 (-1)).1 k = _
    exact congrFun (us_cong (us_cong (us_cong (us_cong (us_cong (us_cong (us_cong cl.1 5 0) 6 0) 7 0) 8 (-1)) 9 0) 10 0) 11 (-1)) k
  refine inv_nil ?_ ?_ ?_ ?_ ?_ ?_ ?_ ?_ ?_ ?_ (fun i i0 i5 => ?_)
  · rw [g 0]; exact h9.1
  · rw [g 1]; exact h9.2.1
  · rw [g 2]; exact h9.2.2
  · rw [g 3]; exact hn.2.2.2.1
  · rw [g 4]; exact hn.2.2.2.2.1
  · rw [g 5]; rfl
  · rw [g 6]; rfl
  · rw [g 7]; rfl
  · rw [g 8]; rfl
  · rw [g 11]; rfl
  · show (clN (us (us (us S 0 a) 1 b) 2 c) 5).2 0 i = 0
    rw [cl.2 i]
    exact if_pos ⟨i0, i5⟩

