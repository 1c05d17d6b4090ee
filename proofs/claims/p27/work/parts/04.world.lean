/-! THE STATE: S.1 k the numbers, S.2 a the rows.
S.1: 0 lanes, 1 depth, 2 store, 3 entry, 4 exit, 5 bodies, 6 assembled, 7 the lane in turn, 8 the latest colour (-1: none), 9 changes, 10 releases, 11 the latest lane (-1: none).
S.2: 0 how many in each lane, 1 colours, 2 places, 3 order, 4 positions, 10 + i the bodies of lane i.
Scratch of the class: P.2 0 .. 4 the plan's waiting, 5 sizes, 6 taken, 7 strides, 8 leasts, 9 starts. Scratch of the reference: P.1 0 thrown, P.2 0 weights, 1 least. -/
abbrev St : Type := (Nat → Int) × (Nat → Int → Int)
def us (S : St) (k : Nat) (v : Int) : St := (fun j => match Nat.beq j k with
  | true => v
  | false => S.1 j, S.2)
def ua (S : St) (a : Nat) (i v : Int) : St := (S.1, fun b j => match Nat.beq b a with
  | true => if j = i then v else S.2 b j
  | false => S.2 b j)
theorem nbeq {a b : Nat} (h : a ≠ b) : Nat.beq a b = false := by
  cases hb : Nat.beq a b with
  | true => exact absurd (Nat.eq_of_beq_eq_true hb) h
  | false => rfl
theorem us_s (S : St) (k : Nat) (v : Int) : (us S k v).1 k = v := by unfold us; simp
theorem us_n (S : St) (k : Nat) (v : Int) {j : Nat} (h : j ≠ k) : (us S k v).1 j = S.1 j := by
  unfold us
  have : Nat.beq j k = false := nbeq h
  simp [this]
theorem us_2 (S : St) (k : Nat) (v : Int) : (us S k v).2 = S.2 := rfl
theorem ua_1 (S : St) (a : Nat) (i v : Int) : (ua S a i v).1 = S.1 := rfl
theorem ua_s (S : St) (a : Nat) (i v j : Int) : (ua S a i v).2 a j = if j = i then v else S.2 a j := by unfold ua; simp
theorem ua_n (S : St) (a : Nat) (i v j : Int) {b : Nat} (h : b ≠ a) : (ua S a i v).2 b j = S.2 b j := by
  unfold ua
  have : Nat.beq b a = false := nbeq h
  simp [this]
theorem ua_m (S : St) (a : Nat) (i v : Int) {b : Nat} (h : b ≠ a) : (ua S a i v).2 b = S.2 b := funext fun j => ua_n S a i v j h
abbrev arI (kc : Nat → ClassId) (n : Nat) (f : Int → Int) : va_E := .inl (kc 0, n, .inl (fun j : Nat => zI (f j)))
theorem upd_zI (f : Int → Int) (i x : Int) (h : 0 ≤ i) : upd (fun j : Nat => zI (f j)) i.toNat (zI x) = fun j : Nat => zI (if (j : Int) = i then x else f j) := by
  funext j
  unfold upd
  by_cases e : j = i.toNat
  · have e2 : (j : Int) = i := by omega
    rw [if_pos e, if_pos e2]
  · have e2 : ¬ (j : Int) = i := by omega
    rw [if_neg e, if_neg e2]
theorem at_zI (f : Int → Int) (i : Int) (h : 0 ≤ i) : (fun j : Nat => zI (f j)) i.toNat = zI (f i) := by
  show zI (f (i.toNat : Int)) = _
  rw [Int.toNat_of_nonneg h]

def WX (kc : Nat → ClassId) (ad : Nat → Nat) (S P : St) : va_W := [(ad 0, .inr (2, [.ref (ad 1), .ref (ad 12), .ref (ad 13), .ref (ad 14), .ref (ad 15), .ref (ad 16), .int (zI (S.1 0)), .int (zI (S.1 1)), .int (zI (S.1 2)), .int (zI (S.1 3)), .int (zI (S.1 4)), .int (zI (S.1 5)), .int (zI (S.1 6)), .int (zI (S.1 7)), .int (zI (S.1 8)), .int (zI (S.1 9)), .int (zI (S.1 10))])),
  (ad 1, .inl (kc 1, 5, .inr (.inr (.inr (.inr (fun j => some (ad (2 + j)))))))),
  (ad 2, .inr (0, [.ref (ad 7), .int (zI (S.2 0 0))])),
  (ad 3, .inr (0, [.ref (ad 8), .int (zI (S.2 0 1))])),
  (ad 4, .inr (0, [.ref (ad 9), .int (zI (S.2 0 2))])),
  (ad 5, .inr (0, [.ref (ad 10), .int (zI (S.2 0 3))])),
  (ad 6, .inr (0, [.ref (ad 11), .int (zI (S.2 0 4))])),
  (ad 7, arI kc 6 (S.2 10)),
  (ad 8, arI kc 6 (S.2 11)),
  (ad 9, arI kc 6 (S.2 12)),
  (ad 10, arI kc 6 (S.2 13)),
  (ad 11, arI kc 6 (S.2 14)),
  (ad 12, arI kc 99 (S.2 1)), (ad 13, arI kc 99 (S.2 2)), (ad 14, arI kc 99 (S.2 4)), (ad 15, arI kc 99 (S.2 3)),
  (ad 16, .inr (1, [.ref (ad 17), .ref (ad 23), .ref (ad 24), .ref (ad 25), .ref (ad 26), .ref (ad 27)])),
  (ad 17, .inl (kc 2, 5, .inr (.inr (.inr (.inr (fun j => some (ad (18 + j)))))))),
  (ad 18, arI kc 6 (P.2 0)),
  (ad 19, arI kc 6 (P.2 1)),
  (ad 20, arI kc 6 (P.2 2)),
  (ad 21, arI kc 6 (P.2 3)),
  (ad 22, arI kc 6 (P.2 4)),
  (ad 23, arI kc 5 (P.2 5)), (ad 24, arI kc 5 (P.2 6)), (ad 25, arI kc 5 (P.2 7)), (ad 26, arI kc 432 (P.2 8)), (ad 27, arI kc 432 (P.2 9))]
def rowM (S : St) (j : Int) : Int := S.2 (10 + (j / 6).toNat) (j % 6)
def WM (kc : Nat → ClassId) (am : Nat → Nat) (S P : St) : va_W := [(am 0, .inr (3, [.int (zI (S.1 0)), .int (zI (S.1 1)), .int (zI (S.1 2)), .int (zI (S.1 3)), .int (zI (S.1 4)), .ref (am 1), .ref (am 2), .int (zI (S.1 5)), .ref (am 3), .ref (am 4), .ref (am 5), .int (zI (S.1 6)), .int (zI (S.1 10)), .int (zI (S.1 9)), .int (zI (S.1 8)), .int (zI (S.1 11)), .ref (am 6), .ref (am 7), .int (zI (P.1 0))])),
  (am 1, arI kc 30 (rowM S)), (am 2, arI kc 5 (S.2 0)), (am 3, arI kc 99 (S.2 1)), (am 4, arI kc 99 (S.2 2)), (am 5, arI kc 99 (S.2 3)), (am 6, arI kc 6 (P.2 0)), (am 7, arI kc 3000 (P.2 1))]
section WXS
variable (kc : Nat → ClassId) (ad : Nat → Nat) (S P : St)
theorem wx_f6 (z : Int) : (WX kc ad S P).set 0 (ad 0, .inr (2, ([.ref (ad 1), .ref (ad 12), .ref (ad 13), .ref (ad 14), .ref (ad 15), .ref (ad 16), .int (zI (S.1 0)), .int (zI (S.1 1)), .int (zI (S.1 2)), .int (zI (S.1 3)), .int (zI (S.1 4)), .int (zI (S.1 5)), .int (zI (S.1 6)), .int (zI (S.1 7)), .int (zI (S.1 8)), .int (zI (S.1 9)), .int (zI (S.1 10))] : List Value).set 6 (.int (zI z)))) = WX kc ad (us S 0 z) P := rfl
theorem wx_f7 (z : Int) : (WX kc ad S P).set 0 (ad 0, .inr (2, ([.ref (ad 1), .ref (ad 12), .ref (ad 13), .ref (ad 14), .ref (ad 15), .ref (ad 16), .int (zI (S.1 0)), .int (zI (S.1 1)), .int (zI (S.1 2)), .int (zI (S.1 3)), .int (zI (S.1 4)), .int (zI (S.1 5)), .int (zI (S.1 6)), .int (zI (S.1 7)), .int (zI (S.1 8)), .int (zI (S.1 9)), .int (zI (S.1 10))] : List Value).set 7 (.int (zI z)))) = WX kc ad (us S 1 z) P := rfl
theorem wx_f8 (z : Int) : (WX kc ad S P).set 0 (ad 0, .inr (2, ([.ref (ad 1), .ref (ad 12), .ref (ad 13), .ref (ad 14), .ref (ad 15), .ref (ad 16), .int (zI (S.1 0)), .int (zI (S.1 1)), .int (zI (S.1 2)), .int (zI (S.1 3)), .int (zI (S.1 4)), .int (zI (S.1 5)), .int (zI (S.1 6)), .int (zI (S.1 7)), .int (zI (S.1 8)), .int (zI (S.1 9)), .int (zI (S.1 10))] : List Value).set 8 (.int (zI z)))) = WX kc ad (us S 2 z) P := rfl
theorem wx_f9 (z : Int) : (WX kc ad S P).set 0 (ad 0, .inr (2, ([.ref (ad 1), .ref (ad 12), .ref (ad 13), .ref (ad 14), .ref (ad 15), .ref (ad 16), .int (zI (S.1 0)), .int (zI (S.1 1)), .int (zI (S.1 2)), .int (zI (S.1 3)), .int (zI (S.1 4)), .int (zI (S.1 5)), .int (zI (S.1 6)), .int (zI (S.1 7)), .int (zI (S.1 8)), .int (zI (S.1 9)), .int (zI (S.1 10))] : List Value).set 9 (.int (zI z)))) = WX kc ad (us S 3 z) P := rfl
theorem wx_f10 (z : Int) : (WX kc ad S P).set 0 (ad 0, .inr (2, ([.ref (ad 1), .ref (ad 12), .ref (ad 13), .ref (ad 14), .ref (ad 15), .ref (ad 16), .int (zI (S.1 0)), .int (zI (S.1 1)), .int (zI (S.1 2)), .int (zI (S.1 3)), .int (zI (S.1 4)), .int (zI (S.1 5)), .int (zI (S.1 6)), .int (zI (S.1 7)), .int (zI (S.1 8)), .int (zI (S.1 9)), .int (zI (S.1 10))] : List Value).set 10 (.int (zI z)))) = WX kc ad (us S 4 z) P := rfl
theorem wx_f11 (z : Int) : (WX kc ad S P).set 0 (ad 0, .inr (2, ([.ref (ad 1), .ref (ad 12), .ref (ad 13), .ref (ad 14), .ref (ad 15), .ref (ad 16), .int (zI (S.1 0)), .int (zI (S.1 1)), .int (zI (S.1 2)), .int (zI (S.1 3)), .int (zI (S.1 4)), .int (zI (S.1 5)), .int (zI (S.1 6)), .int (zI (S.1 7)), .int (zI (S.1 8)), .int (zI (S.1 9)), .int (zI (S.1 10))] : List Value).set 11 (.int (zI z)))) = WX kc ad (us S 5 z) P := rfl
theorem wx_f12 (z : Int) : (WX kc ad S P).set 0 (ad 0, .inr (2, ([.ref (ad 1), .ref (ad 12), .ref (ad 13), .ref (ad 14), .ref (ad 15), .ref (ad 16), .int (zI (S.1 0)), .int (zI (S.1 1)), .int (zI (S.1 2)), .int (zI (S.1 3)), .int (zI (S.1 4)), .int (zI (S.1 5)), .int (zI (S.1 6)), .int (zI (S.1 7)), .int (zI (S.1 8)), .int (zI (S.1 9)), .int (zI (S.1 10))] : List Value).set 12 (.int (zI z)))) = WX kc ad (us S 6 z) P := rfl
theorem wx_f13 (z : Int) : (WX kc ad S P).set 0 (ad 0, .inr (2, ([.ref (ad 1), .ref (ad 12), .ref (ad 13), .ref (ad 14), .ref (ad 15), .ref (ad 16), .int (zI (S.1 0)), .int (zI (S.1 1)), .int (zI (S.1 2)), .int (zI (S.1 3)), .int (zI (S.1 4)), .int (zI (S.1 5)), .int (zI (S.1 6)), .int (zI (S.1 7)), .int (zI (S.1 8)), .int (zI (S.1 9)), .int (zI (S.1 10))] : List Value).set 13 (.int (zI z)))) = WX kc ad (us S 7 z) P := rfl
theorem wx_f14 (z : Int) : (WX kc ad S P).set 0 (ad 0, .inr (2, ([.ref (ad 1), .ref (ad 12), .ref (ad 13), .ref (ad 14), .ref (ad 15), .ref (ad 16), .int (zI (S.1 0)), .int (zI (S.1 1)), .int (zI (S.1 2)), .int (zI (S.1 3)), .int (zI (S.1 4)), .int (zI (S.1 5)), .int (zI (S.1 6)), .int (zI (S.1 7)), .int (zI (S.1 8)), .int (zI (S.1 9)), .int (zI (S.1 10))] : List Value).set 14 (.int (zI z)))) = WX kc ad (us S 8 z) P := rfl
theorem wx_f15 (z : Int) : (WX kc ad S P).set 0 (ad 0, .inr (2, ([.ref (ad 1), .ref (ad 12), .ref (ad 13), .ref (ad 14), .ref (ad 15), .ref (ad 16), .int (zI (S.1 0)), .int (zI (S.1 1)), .int (zI (S.1 2)), .int (zI (S.1 3)), .int (zI (S.1 4)), .int (zI (S.1 5)), .int (zI (S.1 6)), .int (zI (S.1 7)), .int (zI (S.1 8)), .int (zI (S.1 9)), .int (zI (S.1 10))] : List Value).set 15 (.int (zI z)))) = WX kc ad (us S 9 z) P := rfl
theorem wx_f16 (z : Int) : (WX kc ad S P).set 0 (ad 0, .inr (2, ([.ref (ad 1), .ref (ad 12), .ref (ad 13), .ref (ad 14), .ref (ad 15), .ref (ad 16), .int (zI (S.1 0)), .int (zI (S.1 1)), .int (zI (S.1 2)), .int (zI (S.1 3)), .int (zI (S.1 4)), .int (zI (S.1 5)), .int (zI (S.1 6)), .int (zI (S.1 7)), .int (zI (S.1 8)), .int (zI (S.1 9)), .int (zI (S.1 10))] : List Value).set 16 (.int (zI z)))) = WX kc ad (us S 10 z) P := rfl
theorem wx_a12 (i z : Int) : (WX kc ad S P).set 12 (ad 12, arI kc 99 (fun j => if j = i then z else S.2 1 j)) = WX kc ad (ua S 1 i z) P := rfl
theorem wx_a13 (i z : Int) : (WX kc ad S P).set 13 (ad 13, arI kc 99 (fun j => if j = i then z else S.2 2 j)) = WX kc ad (ua S 2 i z) P := rfl
theorem wx_a14 (i z : Int) : (WX kc ad S P).set 14 (ad 14, arI kc 99 (fun j => if j = i then z else S.2 4 j)) = WX kc ad (ua S 4 i z) P := rfl
theorem wx_a15 (i z : Int) : (WX kc ad S P).set 15 (ad 15, arI kc 99 (fun j => if j = i then z else S.2 3 j)) = WX kc ad (ua S 3 i z) P := rfl
theorem wx_a23 (i z : Int) : (WX kc ad S P).set 23 (ad 23, arI kc 5 (fun j => if j = i then z else P.2 5 j)) = WX kc ad S (ua P 5 i z) := rfl
theorem wx_a24 (i z : Int) : (WX kc ad S P).set 24 (ad 24, arI kc 5 (fun j => if j = i then z else P.2 6 j)) = WX kc ad S (ua P 6 i z) := rfl
theorem wx_a25 (i z : Int) : (WX kc ad S P).set 25 (ad 25, arI kc 5 (fun j => if j = i then z else P.2 7 j)) = WX kc ad S (ua P 7 i z) := rfl
theorem wx_a26 (i z : Int) : (WX kc ad S P).set 26 (ad 26, arI kc 432 (fun j => if j = i then z else P.2 8 j)) = WX kc ad S (ua P 8 i z) := rfl
theorem wx_a27 (i z : Int) : (WX kc ad S P).set 27 (ad 27, arI kc 432 (fun j => if j = i then z else P.2 9 j)) = WX kc ad S (ua P 9 i z) := rfl
theorem i5 {i : Int} (h0 : 0 ≤ i) (h5 : i < 5) : i = 0 ∨ i = 1 ∨ i = 2 ∨ i = 3 ∨ i = 4 := by omega
variable {kc ad S P}
theorem wx_lane {i : Int} (h0 : 0 ≤ i) (h5 : i < 5) : (WX kc ad S P)[2 + i.toNat]? = some (ad (2 + i.toNat), .inr (0, [.ref (ad (7 + i.toNat)), .int (zI (S.2 0 i))])) := by
  rcases i5 h0 h5 with rfl | rfl | rfl | rfl | rfl <;> rfl
theorem wx_row {i : Int} (h0 : 0 ≤ i) (h5 : i < 5) : (WX kc ad S P)[7 + i.toNat]? = some (ad (7 + i.toNat), arI kc 6 (S.2 (10 + i.toNat))) := by
  rcases i5 h0 h5 with rfl | rfl | rfl | rfl | rfl <;> rfl
theorem wx_wrow {i : Int} (h0 : 0 ≤ i) (h5 : i < 5) : (WX kc ad S P)[18 + i.toNat]? = some (ad (18 + i.toNat), arI kc 6 (P.2 i.toNat)) := by
  rcases i5 h0 h5 with rfl | rfl | rfl | rfl | rfl <;> rfl
theorem wx_lane_set {i z : Int} (h0 : 0 ≤ i) (h5 : i < 5) : (WX kc ad S P).set (2 + i.toNat) (ad (2 + i.toNat), .inr (0, ([.ref (ad (7 + i.toNat)), .int (zI (S.2 0 i))] : List Value).set 1 (.int (zI z)))) = WX kc ad (ua S 0 i z) P := by
  rcases i5 h0 h5 with rfl | rfl | rfl | rfl | rfl <;> simp [WX, ua]
theorem wx_row_set {i j z : Int} (h0 : 0 ≤ i) (h5 : i < 5) : (WX kc ad S P).set (7 + i.toNat) (ad (7 + i.toNat), arI kc 6 (fun q => if q = j then z else S.2 (10 + i.toNat) q)) = WX kc ad (ua S (10 + i.toNat) j z) P := by
  rcases i5 h0 h5 with rfl | rfl | rfl | rfl | rfl <;> rfl
theorem wx_wrow_set {i j z : Int} (h0 : 0 ≤ i) (h5 : i < 5) : (WX kc ad S P).set (18 + i.toNat) (ad (18 + i.toNat), arI kc 6 (fun q => if q = j then z else P.2 i.toNat q)) = WX kc ad S (ua P i.toNat j z) := by
  rcases i5 h0 h5 with rfl | rfl | rfl | rfl | rfl <;> rfl
end WXS
theorem rowM_n (S : St) (a : Nat) (i z : Int) (h : Nat.ble 10 a = false) : rowM (ua S a i z) = rowM S := by
  funext j
  unfold rowM
  refine ua_n S a i z _ ?_
  intro e
  have : Nat.ble 10 a = true := Nat.ble_eq_true_of_le (by omega)
  rw [h] at this
  cases this
section WMS
variable (kc : Nat → ClassId) (am : Nat → Nat) (S P : St)
theorem wm_f0 (z : Int) : (WM kc am S P).set 0 (am 0, .inr (3, ([.int (zI (S.1 0)), .int (zI (S.1 1)), .int (zI (S.1 2)), .int (zI (S.1 3)), .int (zI (S.1 4)), .ref (am 1), .ref (am 2), .int (zI (S.1 5)), .ref (am 3), .ref (am 4), .ref (am 5), .int (zI (S.1 6)), .int (zI (S.1 10)), .int (zI (S.1 9)), .int (zI (S.1 8)), .int (zI (S.1 11)), .ref (am 6), .ref (am 7), .int (zI (P.1 0))] : List Value).set 0 (.int (zI z)))) = WM kc am (us S 0 z) P := rfl
theorem wm_f1 (z : Int) : (WM kc am S P).set 0 (am 0, .inr (3, ([.int (zI (S.1 0)), .int (zI (S.1 1)), .int (zI (S.1 2)), .int (zI (S.1 3)), .int (zI (S.1 4)), .ref (am 1), .ref (am 2), .int (zI (S.1 5)), .ref (am 3), .ref (am 4), .ref (am 5), .int (zI (S.1 6)), .int (zI (S.1 10)), .int (zI (S.1 9)), .int (zI (S.1 8)), .int (zI (S.1 11)), .ref (am 6), .ref (am 7), .int (zI (P.1 0))] : List Value).set 1 (.int (zI z)))) = WM kc am (us S 1 z) P := rfl
theorem wm_f2 (z : Int) : (WM kc am S P).set 0 (am 0, .inr (3, ([.int (zI (S.1 0)), .int (zI (S.1 1)), .int (zI (S.1 2)), .int (zI (S.1 3)), .int (zI (S.1 4)), .ref (am 1), .ref (am 2), .int (zI (S.1 5)), .ref (am 3), .ref (am 4), .ref (am 5), .int (zI (S.1 6)), .int (zI (S.1 10)), .int (zI (S.1 9)), .int (zI (S.1 8)), .int (zI (S.1 11)), .ref (am 6), .ref (am 7), .int (zI (P.1 0))] : List Value).set 2 (.int (zI z)))) = WM kc am (us S 2 z) P := rfl
theorem wm_f3 (z : Int) : (WM kc am S P).set 0 (am 0, .inr (3, ([.int (zI (S.1 0)), .int (zI (S.1 1)), .int (zI (S.1 2)), .int (zI (S.1 3)), .int (zI (S.1 4)), .ref (am 1), .ref (am 2), .int (zI (S.1 5)), .ref (am 3), .ref (am 4), .ref (am 5), .int (zI (S.1 6)), .int (zI (S.1 10)), .int (zI (S.1 9)), .int (zI (S.1 8)), .int (zI (S.1 11)), .ref (am 6), .ref (am 7), .int (zI (P.1 0))] : List Value).set 3 (.int (zI z)))) = WM kc am (us S 3 z) P := rfl
theorem wm_f4 (z : Int) : (WM kc am S P).set 0 (am 0, .inr (3, ([.int (zI (S.1 0)), .int (zI (S.1 1)), .int (zI (S.1 2)), .int (zI (S.1 3)), .int (zI (S.1 4)), .ref (am 1), .ref (am 2), .int (zI (S.1 5)), .ref (am 3), .ref (am 4), .ref (am 5), .int (zI (S.1 6)), .int (zI (S.1 10)), .int (zI (S.1 9)), .int (zI (S.1 8)), .int (zI (S.1 11)), .ref (am 6), .ref (am 7), .int (zI (P.1 0))] : List Value).set 4 (.int (zI z)))) = WM kc am (us S 4 z) P := rfl
theorem wm_f7 (z : Int) : (WM kc am S P).set 0 (am 0, .inr (3, ([.int (zI (S.1 0)), .int (zI (S.1 1)), .int (zI (S.1 2)), .int (zI (S.1 3)), .int (zI (S.1 4)), .ref (am 1), .ref (am 2), .int (zI (S.1 5)), .ref (am 3), .ref (am 4), .ref (am 5), .int (zI (S.1 6)), .int (zI (S.1 10)), .int (zI (S.1 9)), .int (zI (S.1 8)), .int (zI (S.1 11)), .ref (am 6), .ref (am 7), .int (zI (P.1 0))] : List Value).set 7 (.int (zI z)))) = WM kc am (us S 5 z) P := rfl
theorem wm_f11 (z : Int) : (WM kc am S P).set 0 (am 0, .inr (3, ([.int (zI (S.1 0)), .int (zI (S.1 1)), .int (zI (S.1 2)), .int (zI (S.1 3)), .int (zI (S.1 4)), .ref (am 1), .ref (am 2), .int (zI (S.1 5)), .ref (am 3), .ref (am 4), .ref (am 5), .int (zI (S.1 6)), .int (zI (S.1 10)), .int (zI (S.1 9)), .int (zI (S.1 8)), .int (zI (S.1 11)), .ref (am 6), .ref (am 7), .int (zI (P.1 0))] : List Value).set 11 (.int (zI z)))) = WM kc am (us S 6 z) P := rfl
theorem wm_f12 (z : Int) : (WM kc am S P).set 0 (am 0, .inr (3, ([.int (zI (S.1 0)), .int (zI (S.1 1)), .int (zI (S.1 2)), .int (zI (S.1 3)), .int (zI (S.1 4)), .ref (am 1), .ref (am 2), .int (zI (S.1 5)), .ref (am 3), .ref (am 4), .ref (am 5), .int (zI (S.1 6)), .int (zI (S.1 10)), .int (zI (S.1 9)), .int (zI (S.1 8)), .int (zI (S.1 11)), .ref (am 6), .ref (am 7), .int (zI (P.1 0))] : List Value).set 12 (.int (zI z)))) = WM kc am (us S 10 z) P := rfl
theorem wm_f13 (z : Int) : (WM kc am S P).set 0 (am 0, .inr (3, ([.int (zI (S.1 0)), .int (zI (S.1 1)), .int (zI (S.1 2)), .int (zI (S.1 3)), .int (zI (S.1 4)), .ref (am 1), .ref (am 2), .int (zI (S.1 5)), .ref (am 3), .ref (am 4), .ref (am 5), .int (zI (S.1 6)), .int (zI (S.1 10)), .int (zI (S.1 9)), .int (zI (S.1 8)), .int (zI (S.1 11)), .ref (am 6), .ref (am 7), .int (zI (P.1 0))] : List Value).set 13 (.int (zI z)))) = WM kc am (us S 9 z) P := rfl
theorem wm_f14 (z : Int) : (WM kc am S P).set 0 (am 0, .inr (3, ([.int (zI (S.1 0)), .int (zI (S.1 1)), .int (zI (S.1 2)), .int (zI (S.1 3)), .int (zI (S.1 4)), .ref (am 1), .ref (am 2), .int (zI (S.1 5)), .ref (am 3), .ref (am 4), .ref (am 5), .int (zI (S.1 6)), .int (zI (S.1 10)), .int (zI (S.1 9)), .int (zI (S.1 8)), .int (zI (S.1 11)), .ref (am 6), .ref (am 7), .int (zI (P.1 0))] : List Value).set 14 (.int (zI z)))) = WM kc am (us S 8 z) P := rfl
theorem wm_f15 (z : Int) : (WM kc am S P).set 0 (am 0, .inr (3, ([.int (zI (S.1 0)), .int (zI (S.1 1)), .int (zI (S.1 2)), .int (zI (S.1 3)), .int (zI (S.1 4)), .ref (am 1), .ref (am 2), .int (zI (S.1 5)), .ref (am 3), .ref (am 4), .ref (am 5), .int (zI (S.1 6)), .int (zI (S.1 10)), .int (zI (S.1 9)), .int (zI (S.1 8)), .int (zI (S.1 11)), .ref (am 6), .ref (am 7), .int (zI (P.1 0))] : List Value).set 15 (.int (zI z)))) = WM kc am (us S 11 z) P := rfl
theorem wm_f18 (z : Int) : (WM kc am S P).set 0 (am 0, .inr (3, ([.int (zI (S.1 0)), .int (zI (S.1 1)), .int (zI (S.1 2)), .int (zI (S.1 3)), .int (zI (S.1 4)), .ref (am 1), .ref (am 2), .int (zI (S.1 5)), .ref (am 3), .ref (am 4), .ref (am 5), .int (zI (S.1 6)), .int (zI (S.1 10)), .int (zI (S.1 9)), .int (zI (S.1 8)), .int (zI (S.1 11)), .ref (am 6), .ref (am 7), .int (zI (P.1 0))] : List Value).set 18 (.int (zI z)))) = WM kc am S (us P 0 z) := rfl
theorem wm_a3 (i z : Int) : (WM kc am S P).set 3 (am 3, arI kc 99 (fun j => if j = i then z else S.2 1 j)) = WM kc am (ua S 1 i z) P := by unfold WM; rw [rowM_n S 1 i z (by decide)]; rfl
theorem wm_a4 (i z : Int) : (WM kc am S P).set 4 (am 4, arI kc 99 (fun j => if j = i then z else S.2 2 j)) = WM kc am (ua S 2 i z) P := by unfold WM; rw [rowM_n S 2 i z (by decide)]; rfl
theorem wm_a5 (i z : Int) : (WM kc am S P).set 5 (am 5, arI kc 99 (fun j => if j = i then z else S.2 3 j)) = WM kc am (ua S 3 i z) P := by unfold WM; rw [rowM_n S 3 i z (by decide)]; rfl
theorem wm_a2 (i z : Int) : (WM kc am S P).set 2 (am 2, arI kc 5 (fun j => if j = i then z else S.2 0 j)) = WM kc am (ua S 0 i z) P := by unfold WM; rw [rowM_n S 0 i z (by decide)]; rfl
theorem wm_a6 (i z : Int) : (WM kc am S P).set 6 (am 6, arI kc 6 (fun j => if j = i then z else P.2 0 j)) = WM kc am S (ua P 0 i z) := rfl
theorem wm_a7 (i z : Int) : (WM kc am S P).set 7 (am 7, arI kc 3000 (fun j => if j = i then z else P.2 1 j)) = WM kc am S (ua P 1 i z) := rfl
theorem rowM_set {l k z : Int} (h0 : 0 ≤ l) (hk : 0 ≤ k) (h6 : k < 6) : (fun j : Nat => zI ((fun j : Int => if j = 6 * l + k then z else rowM S j) j)) = fun j : Nat => zI (rowM (ua S (10 + l.toNat) k z) j) := by
  funext j
  refine congrArg zI ?_
  unfold rowM ua
  dsimp only
  by_cases e : (j : Int) = 6 * l + k
  · have e1 : (j : Int) / 6 = l := by omega
    have e2 : (j : Int) % 6 = k := by omega
    rw [if_pos e, e1, e2]
    simp
  · rw [if_neg e]
    by_cases e1 : 10 + ((j : Int) / 6).toNat = 10 + l.toNat
    · have e3 : (j : Int) / 6 = l := by omega
      have e2 : ¬ (j : Int) % 6 = k := by omega
      rw [e3]
      simp [e2]
    · have e4 : Nat.beq (10 + ((j : Int) / 6).toNat) (10 + l.toNat) = false := by
        cases hb : Nat.beq (10 + ((j : Int) / 6).toNat) (10 + l.toNat) with
        | true => exact absurd (Nat.eq_of_beq_eq_true hb) e1
        | false => rfl
      rw [e4]
variable {kc am S P}
theorem wm_a1 {l k i z : Int} (hi : i = 6 * l + k) (h0 : 0 ≤ l) (hk : 0 ≤ k) (h6 : k < 6) : (WM kc am S P).set 1 (am 1, arI kc 30 (fun j => if j = i then z else rowM S j)) = WM kc am (ua S (10 + l.toNat) k z) P := by
  subst hi
  have h := rowM_set S (z := z) h0 hk h6
  unfold WM
  simp only [List.set_cons_succ, List.set_cons_zero]
  rw [ua_m S (10 + l.toNat) k z (b := 0) (by omega), ua_m S (10 + l.toNat) k z (b := 1) (by omega), ua_m S (10 + l.toNat) k z (b := 2) (by omega), ua_m S (10 + l.toNat) k z (b := 3) (by omega)]
  unfold arI
  rw [h]
  rfl
theorem rowM_at {l k i : Int} (hi : i = 6 * l + k) (h0 : 0 ≤ l) (hk : 0 ≤ k) (h6 : k < 6) : rowM S i = S.2 (10 + l.toNat) k := by
  unfold rowM
  have e1 : i / 6 = l := by omega
  have e2 : i % 6 = k := by omega
  rw [e1, e2]
end WMS
section AWA
variable {p : Program} {l : Launch} {e : Env} {R : Room} {s : State} {m : MethodId} {args : Array Value} {below : List Frame} {meth : Method} {c : Code} {nL : Nat} {G : va_G × (Nat → ClassId)} {A : Nat → Prop} {H0 : Heap} {cells slots : Nat} {Q : State → Prop}
variable {cc : ByteArray} {ret : Option FieldType} {Ts : List Cond} {own : String} {ws : va_W} {lv : List (Nat × Value)} {pc : Nat} {st : List Value}
theorem aw_ldI (C : cx p l s m args meth c cc nL ret Ts own G A H0) {q0 n : Nat} {a : Nat} {f : Int → Int} {i : Int} (he : ws[q0]? = some (a, arI G.2 n f)) (h0 : 0 ≤ i) (hn : i < (n : Int)) (hb : Nat.ble n 100000 = true) (hd : decode cc pc = .ok (.iaload, 1)) (k : AW p l e R s m args below meth c nL G A H0 cells slots Q ws lv (pc + 1) (.int (zI (f i)) :: st)) : AW p l e R s m args below meth c nL G A H0 cells slots Q ws lv pc (.int (zI i) :: .ref a :: st) :=
  aw_iald C he h0 hn hb (at_zI f i h0) hd k
theorem aw_stI (C : cx p l s m args meth c cc nL ret Ts own G A H0) {q0 n : Nat} {a : Nat} {f : Int → Int} {i x : Int} {ws' : va_W} (he : ws[q0]? = some (a, arI G.2 n f)) (h0 : 0 ≤ i) (hn : i < (n : Int)) (hb : Nat.ble n 100000 = true) (hw : ws.set q0 (a, arI G.2 n (fun j => if j = i then x else f j)) = ws') (hd : decode cc pc = .ok (.iastore, 1)) (k : AW p l e R s m args below meth c nL G A H0 cells slots Q ws' lv (pc + 1) st) : AW p l e R s m args below meth c nL G A H0 cells slots Q ws lv pc (.int (zI x) :: .int (zI i) :: .ref a :: st) :=
  aw_iast C he h0 hn hb (by rw [upd_zI f i x h0]; exact hw) hd k
end AWA
section AWD
variable {p : Program} {l : Launch} {e : Env} {R : Room} {s : State} {m : MethodId} {args : Array Value} {below : List Frame} {meth : Method} {c : Code} {nL : Nat} {G : va_G × (Nat → ClassId)} {A : Nat → Prop} {H0 : Heap} {cells slots : Nat} {Q : State → Prop}
variable {cc : ByteArray} {ret : Option FieldType} {Ts : List Cond} {own : String} {lv : List (Nat × Value)} {pc : Nat} {st : List Value}
variable {wc : va_W} {y : MethodName} {ws9 : List Cond} {rm : Room} {b index maxL : Nat} {Cn host : String} {bytes : ByteArray} {rt : Option FieldType} {ci q0 : Nat} {fs : List Value} {rc : vw_C}
theorem cV0i {post : Int → va_W → Prop} (C : cx p l s m args meth c cc nL ret Ts own G A H0) (hN : NX s) (hM : Mi l G y ws9 rm [.ref b] wc post) (cw : CallW R s args own Cn index y bytes maxL rt ws9 rm 0 0 0) (hc : vwCl[ci]? = some rc) (hCn : rc.1 = Cn) (he : wc[q0]? = some (b, .inr (ci, fs))) (hcat : Nat.ble (st.map fun v => v.category).sum 8 = true) (hd : decode cc pc = .ok (.invokevirtual index, 3)) (hf : cells ≤ R.cells ∧ slots ≤ R.slots) (kk : ∀ (r : Int) (u : va_W), post r u → AW p l e R s m args below meth c nL G A H0 cells slots Q u lv (pc + 3) (.int (zI r) :: st)) : AW p l e R s m args below meth c nL G A H0 cells slots Q wc lv pc (.ref b :: st) := by
  have h := aw_callVi (As := []) (wr := []) (e := e) (below := below) (Q := Q) (lv := lv) C hN hM cw hc hCn he rfl hcat hd hf (fun r u hp => by rw [List.append_nil]; exact kk r u hp)
  rw [List.append_nil] at h
  exact h
theorem cV0v {post : va_W → Prop} (C : cx p l s m args meth c cc nL ret Ts own G A H0) (hN : NX s) (hM : Mv l G y ws9 rm [.ref b] wc post) (cw : CallW R s args own Cn index y bytes maxL rt ws9 rm 0 0 0) (hc : vwCl[ci]? = some rc) (hCn : rc.1 = Cn) (he : wc[q0]? = some (b, .inr (ci, fs))) (hcat : Nat.ble (st.map fun v => v.category).sum 8 = true) (hd : decode cc pc = .ok (.invokevirtual index, 3)) (hf : cells ≤ R.cells ∧ slots ≤ R.slots) (kk : ∀ (u : va_W), post u → AW p l e R s m args below meth c nL G A H0 cells slots Q u lv (pc + 3) st) : AW p l e R s m args below meth c nL G A H0 cells slots Q wc lv pc (.ref b :: st) := by
  have h := aw_callVv (As := []) (wr := []) (e := e) (below := below) (Q := Q) (lv := lv) C hN hM cw hc hCn he rfl hcat hd hf (fun u hp => by rw [List.append_nil]; exact kk u hp)
  rw [List.append_nil] at h
  exact h
theorem cV1i {a1 : Value} {post : Int → va_W → Prop} (C : cx p l s m args meth c cc nL ret Ts own G A H0) (hN : NX s) (hM : Mi l G y ws9 rm [.ref b, a1] wc post) (cw : CallW R s args own Cn index y bytes maxL rt ws9 rm 0 0 1) (hc : vwCl[ci]? = some rc) (hCn : rc.1 = Cn) (he : wc[q0]? = some (b, .inr (ci, fs))) (hcat : Nat.ble (st.map fun v => v.category).sum 8 = true) (hd : decode cc pc = .ok (.invokevirtual index, 3)) (hf : cells ≤ R.cells ∧ slots ≤ R.slots) (kk : ∀ (r : Int) (u : va_W), post r u → AW p l e R s m args below meth c nL G A H0 cells slots Q u lv (pc + 3) (.int (zI r) :: st)) : AW p l e R s m args below meth c nL G A H0 cells slots Q wc lv pc (a1 :: .ref b :: st) := by
  have h := aw_callVi (As := [a1]) (wr := []) (e := e) (below := below) (Q := Q) (lv := lv) C hN hM cw hc hCn he rfl hcat hd hf (fun r u hp => by rw [List.append_nil]; exact kk r u hp)
  rw [List.append_nil] at h
  exact h
theorem cV1v {a1 : Value} {post : va_W → Prop} (C : cx p l s m args meth c cc nL ret Ts own G A H0) (hN : NX s) (hM : Mv l G y ws9 rm [.ref b, a1] wc post) (cw : CallW R s args own Cn index y bytes maxL rt ws9 rm 0 0 1) (hc : vwCl[ci]? = some rc) (hCn : rc.1 = Cn) (he : wc[q0]? = some (b, .inr (ci, fs))) (hcat : Nat.ble (st.map fun v => v.category).sum 8 = true) (hd : decode cc pc = .ok (.invokevirtual index, 3)) (hf : cells ≤ R.cells ∧ slots ≤ R.slots) (kk : ∀ (u : va_W), post u → AW p l e R s m args below meth c nL G A H0 cells slots Q u lv (pc + 3) st) : AW p l e R s m args below meth c nL G A H0 cells slots Q wc lv pc (a1 :: .ref b :: st) := by
  have h := aw_callVv (As := [a1]) (wr := []) (e := e) (below := below) (Q := Q) (lv := lv) C hN hM cw hc hCn he rfl hcat hd hf (fun u hp => by rw [List.append_nil]; exact kk u hp)
  rw [List.append_nil] at h
  exact h
theorem cV2i {a1 : Value} {a2 : Value} {post : Int → va_W → Prop} (C : cx p l s m args meth c cc nL ret Ts own G A H0) (hN : NX s) (hM : Mi l G y ws9 rm [.ref b, a1, a2] wc post) (cw : CallW R s args own Cn index y bytes maxL rt ws9 rm 0 0 2) (hc : vwCl[ci]? = some rc) (hCn : rc.1 = Cn) (he : wc[q0]? = some (b, .inr (ci, fs))) (hcat : Nat.ble (st.map fun v => v.category).sum 8 = true) (hd : decode cc pc = .ok (.invokevirtual index, 3)) (hf : cells ≤ R.cells ∧ slots ≤ R.slots) (kk : ∀ (r : Int) (u : va_W), post r u → AW p l e R s m args below meth c nL G A H0 cells slots Q u lv (pc + 3) (.int (zI r) :: st)) : AW p l e R s m args below meth c nL G A H0 cells slots Q wc lv pc (a2 :: a1 :: .ref b :: st) := by
  have h := aw_callVi (As := [a1, a2]) (wr := []) (e := e) (below := below) (Q := Q) (lv := lv) C hN hM cw hc hCn he rfl hcat hd hf (fun r u hp => by rw [List.append_nil]; exact kk r u hp)
  rw [List.append_nil] at h
  exact h
theorem cV2v {a1 : Value} {a2 : Value} {post : va_W → Prop} (C : cx p l s m args meth c cc nL ret Ts own G A H0) (hN : NX s) (hM : Mv l G y ws9 rm [.ref b, a1, a2] wc post) (cw : CallW R s args own Cn index y bytes maxL rt ws9 rm 0 0 2) (hc : vwCl[ci]? = some rc) (hCn : rc.1 = Cn) (he : wc[q0]? = some (b, .inr (ci, fs))) (hcat : Nat.ble (st.map fun v => v.category).sum 8 = true) (hd : decode cc pc = .ok (.invokevirtual index, 3)) (hf : cells ≤ R.cells ∧ slots ≤ R.slots) (kk : ∀ (u : va_W), post u → AW p l e R s m args below meth c nL G A H0 cells slots Q u lv (pc + 3) st) : AW p l e R s m args below meth c nL G A H0 cells slots Q wc lv pc (a2 :: a1 :: .ref b :: st) := by
  have h := aw_callVv (As := [a1, a2]) (wr := []) (e := e) (below := below) (Q := Q) (lv := lv) C hN hM cw hc hCn he rfl hcat hd hf (fun u hp => by rw [List.append_nil]; exact kk u hp)
  rw [List.append_nil] at h
  exact h
theorem cV3i {a1 : Value} {a2 : Value} {a3 : Value} {post : Int → va_W → Prop} (C : cx p l s m args meth c cc nL ret Ts own G A H0) (hN : NX s) (hM : Mi l G y ws9 rm [.ref b, a1, a2, a3] wc post) (cw : CallW R s args own Cn index y bytes maxL rt ws9 rm 0 0 3) (hc : vwCl[ci]? = some rc) (hCn : rc.1 = Cn) (he : wc[q0]? = some (b, .inr (ci, fs))) (hcat : Nat.ble (st.map fun v => v.category).sum 8 = true) (hd : decode cc pc = .ok (.invokevirtual index, 3)) (hf : cells ≤ R.cells ∧ slots ≤ R.slots) (kk : ∀ (r : Int) (u : va_W), post r u → AW p l e R s m args below meth c nL G A H0 cells slots Q u lv (pc + 3) (.int (zI r) :: st)) : AW p l e R s m args below meth c nL G A H0 cells slots Q wc lv pc (a3 :: a2 :: a1 :: .ref b :: st) := by
  have h := aw_callVi (As := [a1, a2, a3]) (wr := []) (e := e) (below := below) (Q := Q) (lv := lv) C hN hM cw hc hCn he rfl hcat hd hf (fun r u hp => by rw [List.append_nil]; exact kk r u hp)
  rw [List.append_nil] at h
  exact h
theorem cV3v {a1 : Value} {a2 : Value} {a3 : Value} {post : va_W → Prop} (C : cx p l s m args meth c cc nL ret Ts own G A H0) (hN : NX s) (hM : Mv l G y ws9 rm [.ref b, a1, a2, a3] wc post) (cw : CallW R s args own Cn index y bytes maxL rt ws9 rm 0 0 3) (hc : vwCl[ci]? = some rc) (hCn : rc.1 = Cn) (he : wc[q0]? = some (b, .inr (ci, fs))) (hcat : Nat.ble (st.map fun v => v.category).sum 8 = true) (hd : decode cc pc = .ok (.invokevirtual index, 3)) (hf : cells ≤ R.cells ∧ slots ≤ R.slots) (kk : ∀ (u : va_W), post u → AW p l e R s m args below meth c nL G A H0 cells slots Q u lv (pc + 3) st) : AW p l e R s m args below meth c nL G A H0 cells slots Q wc lv pc (a3 :: a2 :: a1 :: .ref b :: st) := by
  have h := aw_callVv (As := [a1, a2, a3]) (wr := []) (e := e) (below := below) (Q := Q) (lv := lv) C hN hM cw hc hCn he rfl hcat hd hf (fun u hp => by rw [List.append_nil]; exact kk u hp)
  rw [List.append_nil] at h
  exact h
theorem cS1i {a1 : Value} {post : Int → va_W → Prop} (C : cx p l s m args meth c cc nL ret Ts own G A H0) (hN : NX s) (hM : Mi l G y ws9 rm [a1] wc post) (cw : CallB R s args own index y bytes maxL rt ws9 rm 0 0 1 ∧ (Cond.static y).before args s = true) (hcat : Nat.ble (st.map fun v => v.category).sum 8 = true) (hd : decode cc pc = .ok (.invokestatic index, 3)) (hf : cells ≤ R.cells ∧ slots ≤ R.slots) (kk : ∀ (r : Int) (u : va_W), post r u → AW p l e R s m args below meth c nL G A H0 cells slots Q u lv (pc + 3) (.int (zI r) :: st)) : AW p l e R s m args below meth c nL G A H0 cells slots Q wc lv pc (a1 :: st) := by
  have h := aw_callSi (As := [a1]) (wr := []) (e := e) (below := below) (Q := Q) (lv := lv) C hN hM cw rfl hcat hd hf (fun r u hp => by rw [List.append_nil]; exact kk r u hp)
  rw [List.append_nil] at h
  exact h
theorem cS2i {a1 : Value} {a2 : Value} {post : Int → va_W → Prop} (C : cx p l s m args meth c cc nL ret Ts own G A H0) (hN : NX s) (hM : Mi l G y ws9 rm [a1, a2] wc post) (cw : CallB R s args own index y bytes maxL rt ws9 rm 0 0 2 ∧ (Cond.static y).before args s = true) (hcat : Nat.ble (st.map fun v => v.category).sum 8 = true) (hd : decode cc pc = .ok (.invokestatic index, 3)) (hf : cells ≤ R.cells ∧ slots ≤ R.slots) (kk : ∀ (r : Int) (u : va_W), post r u → AW p l e R s m args below meth c nL G A H0 cells slots Q u lv (pc + 3) (.int (zI r) :: st)) : AW p l e R s m args below meth c nL G A H0 cells slots Q wc lv pc (a2 :: a1 :: st) := by
  have h := aw_callSi (As := [a1, a2]) (wr := []) (e := e) (below := below) (Q := Q) (lv := lv) C hN hM cw rfl hcat hd hf (fun r u hp => by rw [List.append_nil]; exact kk r u hp)
  rw [List.append_nil] at h
  exact h
theorem cS3i {a1 : Value} {a2 : Value} {a3 : Value} {post : Int → va_W → Prop} (C : cx p l s m args meth c cc nL ret Ts own G A H0) (hN : NX s) (hM : Mi l G y ws9 rm [a1, a2, a3] wc post) (cw : CallB R s args own index y bytes maxL rt ws9 rm 0 0 3 ∧ (Cond.static y).before args s = true) (hcat : Nat.ble (st.map fun v => v.category).sum 8 = true) (hd : decode cc pc = .ok (.invokestatic index, 3)) (hf : cells ≤ R.cells ∧ slots ≤ R.slots) (kk : ∀ (r : Int) (u : va_W), post r u → AW p l e R s m args below meth c nL G A H0 cells slots Q u lv (pc + 3) (.int (zI r) :: st)) : AW p l e R s m args below meth c nL G A H0 cells slots Q wc lv pc (a3 :: a2 :: a1 :: st) := by
  have h := aw_callSi (As := [a1, a2, a3]) (wr := []) (e := e) (below := below) (Q := Q) (lv := lv) C hN hM cw rfl hcat hd hf (fun r u hp => by rw [List.append_nil]; exact kk r u hp)
  rw [List.append_nil] at h
  exact h
theorem cS5i {a1 : Value} {a2 : Value} {a3 : Value} {a4 : Value} {a5 : Value} {post : Int → va_W → Prop} (C : cx p l s m args meth c cc nL ret Ts own G A H0) (hN : NX s) (hM : Mi l G y ws9 rm [a1, a2, a3, a4, a5] wc post) (cw : CallB R s args own index y bytes maxL rt ws9 rm 0 0 5 ∧ (Cond.static y).before args s = true) (hcat : Nat.ble (st.map fun v => v.category).sum 8 = true) (hd : decode cc pc = .ok (.invokestatic index, 3)) (hf : cells ≤ R.cells ∧ slots ≤ R.slots) (kk : ∀ (r : Int) (u : va_W), post r u → AW p l e R s m args below meth c nL G A H0 cells slots Q u lv (pc + 3) (.int (zI r) :: st)) : AW p l e R s m args below meth c nL G A H0 cells slots Q wc lv pc (a5 :: a4 :: a3 :: a2 :: a1 :: st) := by
  have h := aw_callSi (As := [a1, a2, a3, a4, a5]) (wr := []) (e := e) (below := below) (Q := Q) (lv := lv) C hN hM cw rfl hcat hd hf (fun r u hp => by rw [List.append_nil]; exact kk r u hp)
  rw [List.append_nil] at h
  exact h
theorem cN2i {a1 a2 : Value} {post : Int → va_W → Prop} (C : cx p l s m args meth c cc nL ret Ts own G A H0) (hN : NX s) (hM : Mi l G y ws9 rm [a1, a2] wc post) (cw : va_CN R s args own index y host bytes maxL rt ws9 rm 0 0 2 ∧ (Cond.static y).before args s = true ∧ True) (hcat : Nat.ble (st.map fun v => v.category).sum 8 = true) (hd : decode cc pc = .ok (.invokestatic index, 3)) (hf : cells ≤ R.cells ∧ slots ≤ R.slots) (kk : ∀ (r : Int) (u : va_W), post r u → AW p l e R s m args below meth c nL G A H0 cells slots Q u lv (pc + 3) (.int (zI r) :: st)) : AW p l e R s m args below meth c nL G A H0 cells slots Q wc lv pc (a2 :: a1 :: st) := by
  have h := aw_callSNi (As := [a1, a2]) (wr := []) (e := e) (below := below) (Q := Q) (lv := lv) C hN hM cw rfl hcat hd hf (fun r u hp => by rw [List.append_nil]; exact kk r u hp)
  rw [List.append_nil] at h
  exact h
end AWD

