/-! WHAT THE LAW SEES OF A STATE: the latest colour, how many wait in each lane, their colours -/
abbrev PcL : Type := Int × ((Int → Int) × (Int → Int → Int))
def seesL (S : St) (Q : PcL) : Prop := S.1 8 = Q.1 ∧ (∀ i : Int, 0 ≤ i → i < 5 → S.2 0 i = Q.2.1 i) ∧ ∀ i q : Int, 0 ≤ i → i < 5 → 0 ≤ q → q < S.2 0 i → wtS S i q = Q.2.2 i q
def pc0 : PcL := (-1, fun _ => 0, fun _ _ => 0)
/-- a body of the colour c comes into the lane i -/
def pcA (Q : PcL) (c i : Int) : PcL := (Q.1, fun j => if j = i then Q.2.1 i + 1 else Q.2.1 j, fun j q => if j = i ∧ q = Q.2.1 i then c else Q.2.2 j q)
/-- the head of the lane i is released -/
def pcR (Q : PcL) (i : Int) : PcL := (Q.2.2 i 0, fun j => if j = i then Q.2.1 i - 1 else Q.2.1 j, fun j q => if j = i then Q.2.2 j (q + 1) else Q.2.2 j q)
def fwL (Q : PcL) : Int := mC Q.2.1 Q.2.2 (rmT Q.2.1 zT).toNat zT Q.1
/-- with the head of the lane i first -/
def fiL (Q : PcL) (i : Int) : Int := chg Q.1 (Q.2.2 i 0) + fwL (pcR Q i)
theorem mC_shift {sz : Int → Int} {wt : Int → Int → Int} {i : Int} : ∀ (f : Nat) (t : Int → Int) (c : Int), mC (fun j => if j = i then sz i - 1 else sz j) (fun j q => if j = i then wt j (q + 1) else wt j q) f t c = mC sz wt f (upT t i) c
  | 0, _, _ => rfl
  | f + 1, t, c => by
    refine mnL_congr (fun k _ _ => ?_)
    have ec : upT (upT t k) i = upT (upT t i) k := funext fun j => by
      show (if j = i then (if j = k then t j + 1 else t j) + 1 else if j = k then t j + 1 else t j) = (if j = k then (if j = i then t j + 1 else t j) + 1 else if j = i then t j + 1 else t j)
      by_cases e1 : j = k
      · by_cases e2 : j = i
        · simp only [if_pos e1, if_pos e2]
        · simp only [if_pos e1, if_neg e2]
      · by_cases e2 : j = i
        · simp only [if_neg e1, if_pos e2]
        · simp only [if_neg e1, if_neg e2]
    have ew : (if k = i then wt k (t k + 1) else wt k (t k)) = wt k (upT t i k) := by
      unfold upT
      split <;> rfl
    refine ⟨?_, fun _ => ?_⟩
    · show decide (t k < (if k = i then sz i - 1 else sz k)) = decide ((if k = i then t k + 1 else t k) < sz k)
      by_cases e : k = i
      · rw [if_pos e, if_pos e]
        subst e
        exact decide_eq_decide.mpr (by omega)
      · rw [if_neg e, if_neg e]
    · show chg c (if k = i then wt k (t k + 1) else wt k (t k)) + mC _ _ f (upT t k) (if k = i then wt k (t k + 1) else wt k (t k)) = _
      rw [ew, mC_shift f (upT t k), ec]
theorem fwL_R {Q : PcL} {i : Int} (h0 : 0 ≤ i) (h5 : i < 5) : fwL (pcR Q i) = mC Q.2.1 Q.2.2 (rmT Q.2.1 (upT zT i)).toNat (upT zT i) (Q.2.2 i 0) := by
  have e : rmT (pcR Q i).2.1 zT = rmT Q.2.1 (upT zT i) := by
    rw [rmT_up h0 h5]
    unfold rmT zT pcR
    rcases i5 h0 h5 with rfl | rfl | rfl | rfl | rfl <;> simp <;> omega
  unfold fwL
  rw [e]
  exact mC_shift _ _ _
theorem vT_S {S : St} (hI : Inv S) : vT (S.2 0) zT := fun i h0 h5 => ⟨Int.le_refl 0, (hI.2.1 i h0 h5).1⟩
theorem fw_sees {S : St} {Q : PcL} (hI : Inv S) (h : seesL S Q) : fwS S (S.1 8) = fwL Q := by
  unfold fwS fwL
  rw [mC_cong2 h.2.1 h.2.2 _ _ _ (vT_S hI), rmT_sz (sz' := Q.2.1) h.2.1, h.1]
theorem fi_sees {S : St} {Q : PcL} (hI : Inv S) (h : seesL S Q) {i : Int} (h0 : 0 ≤ i) (h5 : i < 5) (hp : 0 < S.2 0 i) : fiS S i (S.1 8) = fiL Q i := by
  unfold fiS fiL
  rw [fwL_R h0 h5, mC_cong2 h.2.1 h.2.2 _ _ _ (vT_up (vT_S hI) hp), rmT_sz (sz' := Q.2.1) h.2.1, h.1, h.2.2 i 0 h0 h5 (Int.le_refl 0) hp]
theorem fw_one {sz : Int → Int} {wt : Int → Int → Int} {c : Int} (hp : 0 < rmT sz zT) : mC sz wt (rmT sz zT).toNat zT c = mnL (fun i => decide (0 < sz i)) (fun i => chg c (wt i 0) + mC sz wt ((rmT sz zT).toNat - 1) (upT zT i) (wt i 0)) 5 := by
  obtain ⟨n, hn⟩ : ∃ n : Nat, (rmT sz zT).toNat = n + 1 := ⟨(rmT sz zT).toNat - 1, by omega⟩
  rw [hn]
  rfl
theorem rm_pos {sz : Int → Int} {i : Int} (hz : ∀ i : Int, 0 ≤ i → i < 5 → 0 ≤ sz i) (h0 : 0 ≤ i) (h5 : i < 5) (hp : 0 < sz i) : 0 < rmT sz zT := by
  have z0 := hz 0 (by omega) (by omega)
  have z1 := hz 1 (by omega) (by omega)
  have z2 := hz 2 (by omega) (by omega)
  have z3 := hz 3 (by omega) (by omega)
  have z4 := hz 4 (by omega) (by omega)
  rw [rmT_z]
  rcases i5 h0 h5 with rfl | rfl | rfl | rfl | rfl <;> omega
/-- no head leaves fewer -/
theorem fwL_le {Q : PcL} {i : Int} (hz : ∀ i : Int, 0 ≤ i → i < 5 → 0 ≤ Q.2.1 i) (h0 : 0 ≤ i) (h5 : i < 5) (hp : 0 < Q.2.1 i) : fwL Q ≤ fiL Q i := by
  have hr := rm_pos hz h0 h5 hp
  unfold fiL
  rw [fwL_R h0 h5]
  unfold fwL
  rw [fw_one hr]
  have h := mnL_le (p := fun i => decide (0 < Q.2.1 i)) (g := fun i => chg Q.1 (Q.2.2 i 0) + mC Q.2.1 Q.2.2 ((rmT Q.2.1 zT).toNat - 1) (upT zT i) (Q.2.2 i 0)) (n := 5) h0 h5 (decide_eq_true hp)
  have e : (rmT Q.2.1 (upT zT i)).toNat = (rmT Q.2.1 zT).toNat - 1 := by rw [rmT_up h0 h5]; omega
  rw [e]
  exact h
theorem fw_b {S : St} (hI : Inv S) (c : Int) : 0 ≤ fwS S c ∧ fwS S c ≤ S.2 0 0 + S.2 0 1 + S.2 0 2 + S.2 0 3 + S.2 0 4 := by
  have h := rmT_0 (vT_S hI)
  have h2 := mC_b (sz := S.2 0) (wt := wtS S) (rmT (S.2 0) zT).toNat zT c (vT_S hI) (by omega)
  have e := rmT_z (S.2 0)
  unfold fwS
  omega
/-- where a body waits, a best head is found -/
theorem bl_some {S : St} (hI : Inv S) (hp : 0 < S.2 0 0 + S.2 0 1 + S.2 0 2 + S.2 0 3 + S.2 0 4) (hs : S.2 0 0 + S.2 0 1 + S.2 0 2 + S.2 0 3 + S.2 0 4 ≤ 12) : ¬ blS S = -1 := fun e => by
  have hr : 0 < rmT (S.2 0) zT := by rw [rmT_z]; exact hp
  have hb := fw_b hI (S.1 8)
  have h1 : fwS S (S.1 8) = _ := fw_one (sz := S.2 0) (wt := wtS S) (c := S.1 8) hr
  rcases mnL_at (fun i => decide (0 < S.2 0 i)) (fun i => chg (S.1 8) (wtS S i 0) + mC (S.2 0) (wtS S) ((rmT (S.2 0) zT).toNat - 1) (upT zT i) (wtS S i 0)) 5 with h | ⟨k, k0, k5, k2, k3⟩
  · rw [h] at h1; omega
  · have h2 := fstB_none e k k0 k5
    have h3 := of_decide_eq_true k2
    refine absurd (decide_eq_false_iff_not.mp h2) (fun x => x ⟨h3, ?_⟩)
    rw [h1, k3]
    unfold fiS
    rw [rmT_up k0 k5]
    have e4 : (rmT (S.2 0) zT - 1).toNat = (rmT (S.2 0) zT).toNat - 1 := by omega
    rw [e4]
/-! the calls, as the law sees them -/
theorem wt_def (S : St) (i q : Int) : wtS S i q = S.2 1 (S.2 (10 + i.toNat) q) := rfl
theorem sees_beg {S : St} {a b c : Int} : seesL (sBeg S a b c) pc0 := by
  have e0 : ∀ j : Int, 0 ≤ j → j < 5 → (sBeg S a b c).2 0 j = 0 := fun j h0 h5 => by
    have h := (clN_0 (us (us (us S 0 a) 1 b) 2 c) 5).2 j
    rw [if_pos ⟨h0, h5⟩] at h
    exact h
  exact ⟨rfl, fun i h0 h5 => e0 i h0 h5, fun i q h0 h5 hq hq2 => by rw [e0 i h0 h5] at hq2; omega⟩
theorem sees_arI {S : St} {Q : PcL} (hI : Inv S) (h : seesL S Q) {c i : Int} (h0 : 0 ≤ i) (h5 : i < 5) : seesL (sArI S c i) (pcA Q c i) := by
  obtain ⟨e8, es, ew⟩ := h
  have s0 : ∀ j, (sArI S c i).2 0 j = if j = i then S.2 0 i + 1 else S.2 0 j := fun j => by
    show (putS (newS S c) i (S.1 5)).2 0 j = _
    rw [put_0 _ _ h0, newS_2]
  refine ⟨e8, fun j j0 j5 => ?_, fun j q j0 j5 q0 q1 => ?_⟩
  · rw [s0, es j j0 j5, es i h0 h5]
    rfl
  · rw [s0] at q1
    have e1 : ∀ x, (sArI S c i).2 1 x = if x = S.1 5 then c else S.2 1 x := fun x => by
      show (putS (newS S c) i (S.1 5)).2 1 x = _
      rw [put_a _ _ (Or.inl rfl)]
      show (ua S 1 (S.1 5) c).2 1 x = _
      rw [ua_s]
    have e2 : (sArI S c i).2 (10 + j.toNat) q = if j = i ∧ q = S.2 0 i then S.1 5 else S.2 (10 + j.toNat) q := by
      show (putS (newS S c) i (S.1 5)).2 (10 + j.toNat) q = _
      rw [put_r _ _ h0 j0, newS_2]
      show (if _ then _ else (ua S 1 (S.1 5) c).2 (10 + j.toNat) q) = _
      rw [ua_n _ _ _ _ _ (by omega)]
    rw [wt_def, e2, e1]
    show _ = if j = i ∧ q = Q.2.1 i then c else Q.2.2 j q
    rw [← es i h0 h5]
    by_cases e : j = i ∧ q = S.2 0 i
    · rw [if_pos e, if_pos e, if_pos rfl]
    · have q2 : q < S.2 0 j := by
        by_cases ej : j = i
        · subst ej
          rw [if_pos rfl] at q1
          have : ¬ q = S.2 0 j := fun x => e ⟨rfl, x⟩
          omega
        · rw [if_neg ej] at q1
          exact q1
      have hb := hI.2.2.1 j q j0 j5 q0 q2
      rw [if_neg e, if_neg e, if_neg (by omega)]
      exact ew j q j0 j5 q0 q2
theorem rel_0 (S : St) (i j : Int) : (relS S i).2 0 j = if j = i then S.2 0 i - 1 else S.2 0 j := by
  show (ua (ua (ur S (10 + i.toNat) (shf (S.2 (10 + i.toNat)) (S.2 0 i))) 0 i (S.2 0 i - 1)) 2 (atS S i 0) 10).2 0 j = _
  rw [ua_n _ _ _ _ _ (by omega), ua_s, ur_n _ _ _ (by omega)]
theorem rel_x (S : St) (i : Int) {a : Nat} (j : Int) (h : a = 1 ∨ a = 3 ∨ a = 4) : (relS S i).2 a j = S.2 a j := by
  show (ua (ua (ur S (10 + i.toNat) (shf (S.2 (10 + i.toNat)) (S.2 0 i))) 0 i (S.2 0 i - 1)) 2 (atS S i 0) 10).2 a j = _
  rw [ua_n _ _ _ _ _ (by omega), ua_n _ _ _ _ _ (by omega), ur_n _ _ _ (by omega)]
theorem rel_2 (S : St) (i j : Int) : (relS S i).2 2 j = if j = atS S i 0 then 10 else S.2 2 j := by
  show (ua (ua (ur S (10 + i.toNat) (shf (S.2 (10 + i.toNat)) (S.2 0 i))) 0 i (S.2 0 i - 1)) 2 (atS S i 0) 10).2 2 j = _
  rw [ua_s, ua_n _ _ _ _ _ (by omega), ur_n _ _ _ (by omega)]
theorem sees_rel {S : St} {Q : PcL} (h : seesL S Q) {i : Int} (h0 : 0 ≤ i) (h5 : i < 5) (hp : 0 < S.2 0 i) : seesL (relS S i) (pcR Q i) := by
  obtain ⟨e8, es, ew⟩ := h
  have ea : atS S i 0 = S.2 (10 + i.toNat) 0 := if_pos ⟨Int.le_refl 0, hp⟩
  refine ⟨?_, fun j j0 j5 => ?_, fun j q j0 j5 q0 q1 => ?_⟩
  · show S.2 1 (atS S i 0) = Q.2.2 i 0
    rw [ea]
    exact ew i 0 h0 h5 (Int.le_refl 0) hp
  · rw [rel_0, es j j0 j5, es i h0 h5]
    rfl
  · rw [rel_0] at q1
    rw [wt_def, rel_x _ _ _ (Or.inl rfl)]
    show S.2 1 ((ua (ua (ur S (10 + i.toNat) (shf (S.2 (10 + i.toNat)) (S.2 0 i))) 0 i (S.2 0 i - 1)) 2 (atS S i 0) 10).2 (10 + j.toNat) q) = if j = i then Q.2.2 j (q + 1) else Q.2.2 j q
    rw [ua_n _ _ _ _ _ (by omega), ua_n _ _ _ _ _ (by omega)]
    by_cases e : j = i
    · subst e
      rw [if_pos rfl] at q1
      rw [if_pos rfl, ur_s]
      have e3 : shf (S.2 (10 + j.toNat)) (S.2 0 j) q = S.2 (10 + j.toNat) (q + 1) := if_pos ⟨q0, by omega⟩
      rw [e3]
      exact ew j (q + 1) j0 j5 (by omega) (by omega)
    · rw [if_neg e] at q1
      rw [if_neg e, ur_n _ _ _ (by omega)]
      exact ew j q j0 j5 q0 q1
theorem asm_n (S : St) (b : Int) {a : Nat} (h : ¬ a = 2 ∧ ¬ a = 3 ∧ ¬ a = 4) : (asmS S b).2 a = S.2 a := by
  show (ua (ua (ua S 2 b 12) 4 b (S.1 6)) 3 (S.1 6) b).2 a = _
  rw [ua_m _ _ _ _ (by omega), ua_m _ _ _ _ (by omega), ua_m _ _ _ _ (by omega)]
theorem sees_asm {S : St} {Q : PcL} (h : seesL S Q) (b : Int) : seesL (asmS S b) Q := by
  obtain ⟨e8, es, ew⟩ := h
  have e0 := asm_n S b (a := 0) (by omega)
  refine ⟨e8, fun j j0 j5 => ?_, fun j q j0 j5 q0 q1 => ?_⟩
  · rw [e0]; exact es j j0 j5
  · rw [e0] at q1
    rw [wt_def, asm_n S b (a := 1) (by omega), asm_n S b (a := 10 + j.toNat) (by omega)]
    exact ew j q j0 j5 q0 q1
/-! what holds between the law's calls: the store is empty -/
def JL (n : Int) (S : St) : Prop := Inv2 S ∧ S.1 0 = n ∧ S.1 1 = 5 ∧ S.1 2 = 6 ∧ S.1 10 = S.1 6 ∧ S.2 0 0 + S.2 0 1 + S.2 0 2 + S.2 0 3 + S.2 0 4 + S.1 6 = S.1 5 ∧ S.1 5 ≤ 12 ∧ (0 ≤ S.1 9 ∧ S.1 9 ≤ S.1 10) ∧ ∀ b : Int, 0 ≤ b → b < S.1 5 → ¬ S.2 2 b = 10
theorem cnt_none {f : Int → Int} {v : Int} : ∀ n : Nat, (∀ b : Int, 0 ≤ b → b < n → ¬ f b = v) → cntN f v n = 0
  | 0, _ => rfl
  | n + 1, h => by
    have h1 := cnt_none (f := f) (v := v) n (fun b h0 h1 => h b h0 (by omega))
    have h2 := h n (by omega) (by omega)
    unfold cntN
    rw [if_neg h2, h1]
theorem cnt_one {f : Int → Int} {v z : Int} (hz : f z = v) (z0 : 0 ≤ z) : ∀ n : Nat, z < n → (∀ b : Int, 0 ≤ b → b < n → ¬ b = z → ¬ f b = v) → cntN f v n = 1
  | 0, h, _ => by omega
  | n + 1, h, ho => by
    unfold cntN
    by_cases e : z = n
    · have h1 := cnt_none (f := f) (v := v) n (fun b h0 h1 => ho b h0 (by omega) (by omega))
      rw [if_pos (by rw [← e]; exact hz), h1]
      rfl
    · have h1 := cnt_one hz z0 n (by omega) (fun b h0 h1 h2 => ho b h0 (by omega) h2)
      rw [if_neg (ho n (by omega) (by omega) (fun x => e x.symm)), h1]
theorem JL.cn {n : Int} {S : St} (h : JL n S) : cnS S 10 = 0 := cnt_none _ (fun b h0 h1 => h.2.2.2.2.2.2.2.2 b h0 (by omega))
theorem JL.beg {S : St} (hI : Inv2 S) {n : Int} (h1 : 1 ≤ n) (h5 : n ≤ 5) : JL n (sBeg S n 5 6) ∧ (sBeg S n 5 6).1 5 = 0 ∧ (sBeg S n 5 6).1 6 = 0 := by
  have hk : kBeg n 5 6 = 0 := if_pos ⟨⟨h1, h5⟩, ⟨by decide, by decide⟩, by decide, by decide⟩
  have hi := inv_beg hI hk
  have e0 := (sees_beg (S := S) (a := n) (b := 5) (c := 6)).2.1
  have z0 := e0 0 (by omega) (by omega)
  have z1 := e0 1 (by omega) (by omega)
  have z2 := e0 2 (by omega) (by omega)
  have z3 := e0 3 (by omega) (by omega)
  have z4 := e0 4 (by omega) (by omega)
  have c5 := (clN_0 (us (us (us S 0 n) 1 5) 2 6) 5).1
  refine ⟨⟨hi, ?_, ?_, ?_, rfl, ?_, by show (0 : Int) ≤ 12; decide, ⟨by show (0 : Int) ≤ 0; decide, by show (0 : Int) ≤ 0; decide⟩, fun b h0 h1 => ?_⟩, rfl, rfl⟩
  · have e9 : (sBeg S n 5 6).1 0 = (clN (us (us (us S 0 n) 1 5) 2 6) 5).1 0 := rfl
    rw [e9, c5]
    rfl
  · have e9 : (sBeg S n 5 6).1 1 = (clN (us (us (us S 0 n) 1 5) 2 6) 5).1 1 := rfl
    rw [e9, c5]
    rfl
  · have e9 : (sBeg S n 5 6).1 2 = (clN (us (us (us S 0 n) 1 5) 2 6) 5).1 2 := rfl
    rw [e9, c5]
    rfl
  · rw [z0, z1, z2, z3, z4]
    rfl
  · have : (sBeg S n 5 6).1 5 = 0 := rfl
    omega
theorem JL.arI {n : Int} {S : St} (h : JL n S) {c i : Int} (hc : 0 ≤ c ∧ c ≤ 4) (h0 : 0 ≤ i) (hn : i < n) (hr : S.2 0 i < 5) (hb : S.1 5 ≤ 11) : kArI S c i = 0 ∧ JL n (sArI S c i) ∧ (sArI S c i).1 5 = S.1 5 + 1 ∧ (sArI S c i).1 6 = S.1 6 := by
  obtain ⟨hI, e0, e1, e2, e3, e4, e5, e6, e7⟩ := h
  have hk : kArI S c i = 0 := by
    unfold kArI
    rw [if_neg (fun x => x hc), if_neg (fun x => x ⟨h0, by omega⟩), if_neg (by omega)]
  have i5' : i < 5 := by have := hI.1.1; omega
  have s0 : ∀ j, (sArI S c i).2 0 j = if j = i then S.2 0 i + 1 else S.2 0 j := fun j => by
    show (putS (newS S c) i (S.1 5)).2 0 j = _
    rw [put_0 _ _ h0, newS_2]
  have s2 : ∀ j, (sArI S c i).2 2 j = if j = S.1 5 then i else S.2 2 j := fun j => by
    show (putS (newS S c) i (S.1 5)).2 2 j = _
    rw [put_2]
    show (if _ then _ else (ua S 1 (S.1 5) c).2 2 j) = _
    rw [ua_n _ _ _ _ _ (by omega)]
  have f5 : (sArI S c i).1 5 = S.1 5 + 1 := rfl
  have f6 : (sArI S c i).1 6 = S.1 6 := rfl
  refine ⟨hk, ⟨iv_arI hI hk, e0, e1, e2, e3, ?_, by omega, e6, fun b b0 b1 => ?_⟩, f5, f6⟩
  · rw [s0, s0, s0, s0, s0, f5, f6]
    rcases i5 h0 i5' with rfl | rfl | rfl | rfl | rfl <;> simp <;> omega
  · rw [s2]
    split
    · omega
    · exact e7 b b0 (by omega)
/-- a head is released and assembled -/
theorem JL.rel {n : Int} {S : St} (h : JL n S) {i : Int} (h0 : 0 ≤ i) (h5 : i < 5) (hp : 0 < S.2 0 i) :
    (0 ≤ atS S i 0 ∧ atS S i 0 < S.1 5) ∧ Inv2 (relS S i) ∧ cnS (relS S i) 10 = 1 ∧ kAsm (relS S i) = 0 ∧ lbS (relS S i) = atS S i 0 ∧ kFew (relS S i) 12 = 0 ∧
    JL n (asmS (relS S i) (atS S i 0)) ∧ kBod (asmS (relS S i) (atS S i 0)) (atS S i 0) = 0 ∧ (asmS (relS S i) (atS S i 0)).2 2 (atS S i 0) = 12 ∧
    (asmS (relS S i) (atS S i 0)).1 5 = S.1 5 ∧ (asmS (relS S i) (atS S i 0)).1 6 = S.1 6 + 1 := by
  have hcn := h.cn
  obtain ⟨hI, e0, e1, e2, e3, e4, e5, e6, e7⟩ := h
  have ea : atS S i 0 = S.2 (10 + i.toNat) 0 := if_pos ⟨Int.le_refl 0, hp⟩
  have hb : 0 ≤ atS S i 0 ∧ atS S i 0 < S.1 5 := by rw [ea]; exact hI.1.2.2.1 i 0 h0 h5 (Int.le_refl 0) hp
  have hi1 := inv_rel hI h0 h5 hp
  generalize hbb : atS S i 0 = b at *
  have f5 : (relS S i).1 5 = S.1 5 := rfl
  have r2 : ∀ j, (relS S i).2 2 j = if j = b then 10 else S.2 2 j := fun j => by rw [rel_2, hbb]
  have hc1 : cnS (relS S i) 10 = 1 := cnt_one (z := b) (by rw [r2, if_pos rfl]) hb.1 _ (by rw [f5]; omega) (fun b' b0 b1 hne => by rw [r2, if_neg hne]; rw [f5] at b1; exact e7 b' b0 (by omega))
  have hlb : lbS (relS S i) = b := by
    unfold lbS
    have hq : ¬ fstB (fun b => decide ((relS S i).2 2 b = 10)) ((relS S i).1 5).toNat = -1 := fun e => by
      have := fstB_none e b hb.1 (by rw [f5]; omega)
      rw [r2, if_pos rfl] at this
      exact absurd this (by decide)
    have h2 := of_decide_eq_true (fstB_ok hq)
    have h3 := fstB_b (fun b => decide ((relS S i).2 2 b = 10)) ((relS S i).1 5).toNat
    generalize fstB (fun b => decide ((relS S i).2 2 b = 10)) ((relS S i).1 5).toNat = x at *
    rw [f5] at h3
    rw [r2] at h2
    split at h2
    · assumption
    · exact absurd h2 (e7 x (by omega) (by omega))
  have hka : kAsm (relS S i) = 0 := by
    unfold kAsm
    rw [hlb, if_neg (by omega)]
  have sz : (relS S i).2 0 0 + (relS S i).2 0 1 + (relS S i).2 0 2 + (relS S i).2 0 3 + (relS S i).2 0 4 = S.2 0 0 + S.2 0 1 + S.2 0 2 + S.2 0 3 + S.2 0 4 - 1 := by
    rw [rel_0, rel_0, rel_0, rel_0, rel_0]
    rcases i5 h0 h5 with rfl | rfl | rfl | rfl | rfl <;> simp <;> omega
  have h6 := hI.1.1
  have hkf : kFew (relS S i) 12 = 0 := by
    unfold kFew
    rw [nlS_5 hi1.1, if_neg (by omega)]
  have hi2 : Inv2 (asmS (relS S i) b) := by
    have := iv_asm hi1 hka
    rw [hlb] at this
    exact this
  have g5 : (asmS (relS S i) b).1 5 = S.1 5 := rfl
  have g6 : (asmS (relS S i) b).1 6 = S.1 6 + 1 := rfl
  have a2 : ∀ j, (asmS (relS S i) b).2 2 j = if j = b then 12 else (relS S i).2 2 j := fun j => by
    show (ua (ua (ua (relS S i) 2 b 12) 4 b ((relS S i).1 6)) 3 ((relS S i).1 6) b).2 2 j = _
    rw [ua_n _ _ _ _ _ (by omega), ua_n _ _ _ _ _ (by omega), ua_s]
  have a0 := asm_n (relS S i) b (a := 0) (by omega)
  have g9 : (asmS (relS S i) b).1 9 = S.1 9 + chg (S.1 8) (S.2 1 (atS S i 0)) := rfl
  have g10 : (asmS (relS S i) b).1 10 = S.1 10 + 1 := rfl
  have hg := chg_b (S.1 8) (S.2 1 (atS S i 0))
  refine ⟨hb, hi1, hc1, hka, hlb, hkf, ⟨hi2, e0, e1, e2, by rw [g10, g6, e3], ?_, by rw [g5]; exact e5, ?_, fun b' b0 b1 => ?_⟩, ?_, ?_, g5, g6⟩
  · rw [a0, g5, g6, sz]
    omega
  · rw [g9, g10]
    omega
  · rw [a2]
    split
    · decide
    · rename_i hne
      rw [r2, if_neg hne]
      exact e7 b' b0 b1
  · unfold kBod
    rw [if_pos ⟨hb.1, hb.2⟩]
  · rw [a2, if_pos rfl]
