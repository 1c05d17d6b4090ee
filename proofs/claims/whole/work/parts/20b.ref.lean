/-! THE REFERENCE: pure words -/
theorem rM {S : St} {l k i : Int} (hi : i = 6 * l + k) (h0 : 0 ≤ l) (hk : 0 ≤ k) (h6 : k < 6) : rowM S i = S.2 (10 + l.toNat) k := rowM_at hi h0 hk h6
theorem ur_ua (S : St) (a b : Nat) (g : Int → Int) (i v : Int) (h : b ≠ a) : ur (ua S b i v) a g = ua (ur S a g) b i v := by
  unfold ur ua
  refine Prod.ext rfl (funext fun q => ?_)
  cases hq : Nat.beq q a with
  | true =>
    have e := Nat.eq_of_beq_eq_true hq
    subst e
    have hb : Nat.beq q b = false := nbeq (Ne.symm h)
    simp [hq, hb]
  | false => simp [hq]
theorem emN_none {S : St} : ∀ n : Nat, (∀ i : Int, 0 ≤ i → i < n → S.1 1 ≤ S.2 0 i) → emN S n = -1
  | 0, _ => rfl
  | n + 1, h => by
    have ih := emN_none n (fun i h0 h1 => h i h0 (by omega))
    have h1 := h n (by omega) (by omega)
    unfold emN
    rw [ih, if_pos rfl, if_neg (by omega)]
theorem behS_mod {S : St} {i : Int} (h0 : 0 ≤ i) (h1 : i < S.1 0) : behS S i = (i + 1) % S.1 0 := by
  unfold behS
  split
  · rw [Int.emod_eq_of_lt (by omega) (by omega)]
  · rw [show i + 1 = S.1 0 by omega, Int.emod_self]
theorem trN_all {S : St} : ∀ (k : Nat) (i : Int), 0 ≤ i → i < S.1 0 → trN S k i = -1 → ∀ j : Nat, j < k → S.1 1 ≤ S.2 0 ((i + j) % S.1 0)
  | 0, _, _, _, _, j, hj => by omega
  | k + 1, i, h0, h1, h, j, hj => by
    unfold trN at h
    by_cases e : S.2 0 i < S.1 1
    · rw [if_pos e] at h
      omega
    · rw [if_neg e] at h
      rcases Nat.eq_zero_or_pos j with e0 | e0
      · subst e0
        rw [show i + ((0 : Nat) : Int) = i by omega, Int.emod_eq_of_lt h0 h1]
        omega
      · have hb : 0 ≤ behS S i ∧ behS S i < S.1 0 := by unfold behS; split <;> omega
        have h2 := trN_all k (behS S i) hb.1 hb.2 h (j - 1) (by omega)
        rw [behS_mod h0 h1, Int.emod_add_emod, show i + 1 + ((j - 1 : Nat) : Int) = i + j by omega] at h2
        exact h2
theorem tr_em {S : St} (hL : 1 ≤ S.1 0 ∧ S.1 0 ≤ 5) {t : Int} (h0 : 0 ≤ t) (h1 : t < S.1 0) (h : trN S (S.1 0).toNat t = -1) : emN S (S.1 0).toNat = -1 := by
  refine emN_none _ (fun m m0 m1 => ?_)
  have hj := Int.emod_nonneg (m - t) (show S.1 0 ≠ 0 by omega)
  have hj2 := Int.emod_lt_of_pos (m - t) (show 0 < S.1 0 by omega)
  have h2 := trN_all (S.1 0).toNat t h0 h1 h ((m - t) % S.1 0).toNat (by omega)
  rw [show (((m - t) % S.1 0).toNat : Int) = (m - t) % S.1 0 by omega, Int.add_emod_emod, show t + (m - t) = m by omega, Int.emod_eq_of_lt m0 (by omega)] at h2
  exact h2
theorem at_pos {S : St} (hI : Inv S) {i : Int} (h0 : 0 ≤ i) (h5 : i < 5) : ¬ atS S i 0 = -1 ↔ 0 < S.2 0 i := by
  unfold atS
  constructor
  · intro h
    by_cases e : (0 : Int) ≤ 0 ∧ 0 < S.2 0 i
    · exact e.2
    · rw [if_neg e] at h
      exact absurd rfl h
  · intro h
    rw [if_pos ⟨Int.le_refl 0, h⟩]
    have := hI.2.2.1 i 0 h0 h5 (Int.le_refl 0) h
    omega
theorem blk_pos {S : St} {i : Int} (h : 0 < S.2 0 i) : 1 ≤ blkS S i := by
  unfold blkS
  obtain ⟨k, hk⟩ : ∃ k : Nat, (S.2 0 i).toNat = k + 1 := ⟨(S.2 0 i).toNat - 1, by omega⟩
  rw [hk]
  have h1 := blN_b (fun j => colS S (atS S i j)) (colS S (atS S i 0)) k (0 + 1)
  unfold blN
  rw [if_pos rfl]
  omega
theorem blk_0 {S : St} {i : Int} (h : S.2 0 i ≤ 0) : blkS S i = 0 := by
  unfold blkS
  rw [show (S.2 0 i).toNat = 0 by omega]
  rfl
theorem mxN_le {S : St} : ∀ (n : Nat) (i : Int), 0 ≤ i → i < n → blkS S i ≤ mxN S n
  | 0, i, h0, h1 => by omega
  | n + 1, i, h0, h1 => by
    unfold mxN
    by_cases e : i = n
    · rw [e]
      split <;> omega
    · have := mxN_le (S := S) n i h0 (by omega)
      split <;> omega
/-- the heads that fit, in the reference's words -/
def fitM (S : St) (c sh : Int) : Int → Bool := fun i => decide (0 < S.2 0 i ∧ (c = -1 ∨ colS S (atS S i 0) = c) ∧ (sh = -1 ∨ blkS S i = sh))
theorem fit_same {S : St} (hI : Inv S) (hc : ¬ S.1 8 = -1) {k : Int} (h0 : 0 ≤ k) (h5 : k < 5) : fitS S (S.1 8) 1 k = fitM S (S.1 8) (-1) k := by
  have h1 := at_pos hI h0 h5
  have h2 := blk_pos (S := S) (i := k)
  have h3 := hI.1
  unfold fitS fitM
  refine decide_eq_decide.mpr ⟨fun ⟨a, b, d⟩ => ⟨h1.mp a, ?_, Or.inl rfl⟩, fun ⟨a, b, d⟩ => ⟨h1.mpr a, ?_, h2 a⟩⟩
  · rcases b with b | b
    · omega
    · exact Or.inr b
  · rcases b with b | b
    · exact absurd b hc
    · exact Or.inr b
theorem fit_any {S : St} (hI : Inv S) {k : Int} (h0 : 0 ≤ k) (h5 : k < S.1 0) : fitS S (-2) (if S.1 4 = 2 then mxN S (S.1 0).toNat else 1) k = fitM S (-1) (if S.1 4 = 2 then mxN S (S.1 0).toNat else -1) k := by
  have h3 := hI.1
  have h1 := at_pos hI h0 (by omega)
  have h2 := blk_pos (S := S) (i := k)
  have h4 := mxN_le (S := S) (S.1 0).toNat k h0 (by omega)
  unfold fitS fitM
  by_cases e : S.1 4 = 2
  · rw [if_pos e, if_pos e]
    refine decide_eq_decide.mpr ⟨fun ⟨a, b, d⟩ => ⟨h1.mp a, Or.inl rfl, Or.inr (by omega)⟩, fun ⟨a, b, d⟩ => ⟨h1.mpr a, Or.inl rfl, ?_⟩⟩
    rcases d with d | d
    · have := h2 a
      omega
    · omega
  · rw [if_neg e, if_neg e]
    exact decide_eq_decide.mpr ⟨fun ⟨a, b, d⟩ => ⟨h1.mp a, Or.inl rfl, Or.inl rfl⟩, fun ⟨a, b, d⟩ => ⟨h1.mpr a, Or.inl rfl, h2 a⟩⟩
theorem lhN_no {p : Int → Bool} {S : St} : ∀ n : Nat, (∀ i : Int, 0 ≤ i → i < n → p i = false) → lhN p S n = -1
  | 0, _ => rfl
  | n + 1, h => by
    have ih := lhN_no (S := S) n (fun i h0 h1 => h i h0 (by omega))
    have h1 := h n (by omega) (by omega)
    unfold lhN
    rw [if_neg (fun x => by rw [h1] at x; exact absurd x.1 (by decide))]
    exact ih
theorem al_none {S : St} (hI : Inv S) (hc : S.1 8 = -1) : alS S = -1 := by
  unfold alS
  split
  · rfl
  · refine lhN_no _ (fun i h0 h1 => decide_eq_false ?_)
    rintro ⟨a, b, d⟩
    have h3 := hI.1
    have h2 := (at_pos hI h0 (by omega)).mp a
    rw [colS_at hI h0 (by omega) (Int.le_refl 0) h2, hc] at b
    have h4 := hI.2.2.1 i 0 h0 (by omega) (Int.le_refl 0) h2
    have h5 := hI.2.2.2.1 _ h4.1 h4.2
    unfold wtS at b
    omega
theorem zI_rem {x y : Int} (h0 : 0 ≤ x) (h1 : x < 2147483648) (h2 : 0 < y) (h3 : y < 2147483648) : zI x - zI x / zI y * zI y = zI (x % y) := by
  have hx : zI x = nI x.toNat := by show zI x = zI (x.toNat : Int); rw [Int.toNat_of_nonneg h0]
  have hy : zI y = nI y.toNat := by show zI y = zI (y.toNat : Int); rw [Int.toNat_of_nonneg (by omega)]
  rw [hx, hy, pk_rem (by omega) (by omega) (by omega)]
  show zI ((x.toNat % y.toNat : Nat) : Int) = _
  rw [Int.natCast_emod, Int.toNat_of_nonneg h0, Int.toNat_of_nonneg (by omega)]
theorem zI_div {x y : Int} (h0 : 0 ≤ x) (h1 : x < 2147483648) (h2 : 0 < y) (h3 : y < 2147483648) : zI x / zI y = zI (x / y) := by
  have hx : zI x = nI x.toNat := by show zI x = zI (x.toNat : Int); rw [Int.toNat_of_nonneg h0]
  have hy : zI y = nI y.toNat := by show zI y = zI (y.toNat : Int); rw [Int.toNat_of_nonneg (by omega)]
  rw [hx, hy, pk_div (by omega) (by omega) (by omega)]
  show zI ((x.toNat / y.toNat : Nat) : Int) = _
  rw [Int.natCast_ediv, Int.toNat_of_nonneg h0, Int.toNat_of_nonneg (by omega)]
section AWR
variable {p : Program} {l : Launch} {e : Env} {R : Room} {s : State} {m : MethodId} {args : Array Value} {below : List Frame} {meth : Method} {c : Code} {nL : Nat} {G : va_G × (Nat → ClassId)} {A : Nat → Prop} {H0 : Heap} {cells slots : Nat} {Q : State → Prop}
variable {cc : ByteArray} {ret : Option FieldType} {Ts : List Cond} {own : String} {ws : va_W} {lv : List (Nat × Value)} {pc : Nat} {st : List Value}
theorem aw_irem (C : cx p l s m args meth c cc nL ret Ts own G A H0) {x y : Int} (hd : decode cc pc = .ok (.irem, 1)) (hx : 0 ≤ x ∧ x < 2147483648) (hy : 0 < y ∧ y < 2147483648) (k : AW p l e R s m args below meth c nL G A H0 cells slots Q ws lv (pc + 1) (.int (zI (x % y)) :: st)) : AW p l e R s m args below meth c nL G A H0 cells slots Q ws lv pc (.int (zI y) :: .int (zI x) :: st) :=
  fun H locs ls hP hD hS hl => lv_irem C.1 C.2.1 hd (fun h => by have := (zI_eq (a := y) (b := 0) (by omega) (by omega)).mp h; omega) (by rw [zI_rem hx.1 hx.2 hy.1 hy.2]; exact k H locs ls hP hD hS hl)
theorem aw_idiv (C : cx p l s m args meth c cc nL ret Ts own G A H0) {x y : Int} (hd : decode cc pc = .ok (.idiv, 1)) (hx : 0 ≤ x ∧ x < 2147483648) (hy : 0 < y ∧ y < 2147483648) (k : AW p l e R s m args below meth c nL G A H0 cells slots Q ws lv (pc + 1) (.int (zI (x / y)) :: st)) : AW p l e R s m args below meth c nL G A H0 cells slots Q ws lv pc (.int (zI y) :: .int (zI x) :: st) :=
  fun H locs ls hP hD hS hl => lv_idiv C.1 C.2.1 hd (fun h => by have := (zI_eq (a := y) (b := 0) (by omega) (by omega)).mp h; omega) (by rw [zI_div hx.1 hx.2 hy.1 hy.2]; exact k H locs ls hP hD hS hl)
end AWR
/-! THE REFERENCE'S METHODS -/
set_option maxHeartbeats 4000000 in
set_option maxRecDepth 100000 in
theorem c_X3_thrown {l : Launch} {G : va_G × (Nat → ClassId)} {am : Nat → Nat} {S P : St} : Mi l G yX3_thrown wsX3_thrown ({ frames := 0, cells := 0, slots := 0, locals := 0 } : Room) [.ref (am 0)] (WM G.2 am S P) (fun r u => r = P.1 0 ∧ u = (WM G.2 am S P)) := by
  refine Mi.of (own := RX3) (cc := cX3_thrown) (maxL := 1) (ret := (some .int)) (by decide) rfl rfl rfl ?_
  intro p e s m args below meth c A C hN
  have hts := C.2.2.2.2.1
  have iFX3 : ∀ w ∈ u_ws RX3 TX3 19, w ∈ wsX3_thrown := by decide +kernel
  have k_35 := hts (.fieldLink RX3 35 "PaintSequencerModel" "thrown" "I") (by decide +kernel)
  refine aw_aload_n C dX3_thrown_0 rfl ?_
  refine aw_get (q0 := 0) (k := 18) C iFX3 k_35 rfl rfl rfl rfl dX3_thrown_1 ?_
  exact aw_iret C dX3_thrown_4 ⟨rfl, rfl⟩
set_option maxHeartbeats 4000000 in
set_option maxRecDepth 100000 in
theorem c_X3_fails {l : Launch} {G : va_G × (Nat → ClassId)} {am : Nat → Nat} {S P : St} {z : Int} : Mi l G yX3_fails wsX3_fails ({ frames := 0, cells := 0, slots := 0, locals := 0 } : Room) [.ref (am 0), .int (zI z)] (WM G.2 am S P) (fun r u => r = 0 ∧ u = WM G.2 am S (us P 0 z)) := by
  refine Mi.of (own := RX3) (cc := cX3_fails) (maxL := 2) (ret := (some .int)) (by decide) rfl rfl rfl ?_
  intro p e s m args below meth c A C hN
  have hts := C.2.2.2.2.1
  have iFX3 : ∀ w ∈ u_ws RX3 TX3 19, w ∈ wsX3_fails := by decide +kernel
  have k_35 := hts (.fieldLink RX3 35 "PaintSequencerModel" "thrown" "I") (by decide +kernel)
  refine aw_aload_n C dX3_fails_0 rfl ?_
  refine aw_iload_n C dX3_fails_1 rfl ?_
  refine aw_put (q0 := 0) (k := 18) C iFX3 tyX3_ok nmX3 k_35 rfl rfl rfl rfl rfl rfl (wm_f18 _ _ _ _ _) dX3_fails_2 ?_
  refine aw_iconst C dX3_fails_5 ?_
  exact aw_iret C dX3_fails_6 ⟨rfl, rfl⟩
set_option maxHeartbeats 4000000 in
set_option maxRecDepth 100000 in
theorem c_X3_in {l : Launch} {G : va_G × (Nat → ClassId)} {w0 : va_W} {a b d : Int} (ha : -2147483648 ≤ a ∧ a < 2147483648) (hb : -2147483648 ≤ b ∧ b < 2147483648) (hd : -2147483648 ≤ d ∧ d < 2147483648) : Mi l G yX3_in wsX3_in ({ frames := 0, cells := 0, slots := 0, locals := 0 } : Room) [.int (zI a), .int (zI b), .int (zI d)] w0 (fun r u => r = (if b ≤ a ∧ a ≤ d then 1 else 0) ∧ u = w0) := by
  refine Mi.of (own := RX3) (cc := cX3_in) (maxL := 3) (ret := (some .boolean)) (by decide) rfl rfl rfl ?_
  intro p e s m args below meth c A C hN
  have hts := C.2.2.2.2.1
  refine aw_iload_n C dX3_in_0 rfl ?_
  refine aw_iload_n C dX3_in_1 rfl ?_
  refine aw_icmp_lt (tgt := 14) C dX3_in_2 (by decide) (by omega) (by omega) (fun c2 => ?_) (fun c2 => ?_)
  · refine aw_iconst C dX3_in_14 ?_
    exact aw_zret C dX3_in_15 rfl ⟨by first | rw [if_pos (by omega)] | rw [if_neg (by omega)], rfl⟩
  · refine aw_iload_n C dX3_in_5 rfl ?_
    refine aw_iload_n C dX3_in_6 rfl ?_
    refine aw_icmp_gt (tgt := 14) C dX3_in_7 (by decide) (by omega) (by omega) (fun c7 => ?_) (fun c7 => ?_)
    · refine aw_iconst C dX3_in_14 ?_
      exact aw_zret C dX3_in_15 rfl ⟨by first | rw [if_pos (by omega)] | rw [if_neg (by omega)], rfl⟩
    · refine aw_iconst C dX3_in_10 ?_
      refine aw_goto (tgt := 15) C dX3_in_11 (by decide) ?_
      exact aw_zret C dX3_in_15 rfl ⟨by first | rw [if_pos (by omega)] | rw [if_neg (by omega)], rfl⟩
set_option maxHeartbeats 4000000 in
set_option maxRecDepth 100000 in
theorem c_X3_lay {l : Launch} {G : va_G × (Nat → ClassId)} {am : Nat → Nat} {S P : St} {a b d : Int} : Mv l G yX3_lay wsX3_lay ({ frames := 0, cells := 0, slots := 0, locals := 0 } : Room) [.ref (am 0), .int (zI a), .int (zI b), .int (zI d)] (WM G.2 am S P) (fun u => u = WM G.2 am (fogS (us (us (us S 0 a) 1 b) 2 d)) P) := by
  refine Mv.of (own := RX3) (cc := cX3_lay) (maxL := 5) (ret := none) (by decide) rfl rfl rfl ?_
  intro p e s m args below meth c A C hN
  have hts := C.2.2.2.2.1
  have iFX3 : ∀ w ∈ u_ws RX3 TX3 19, w ∈ wsX3_lay := by decide +kernel
  have k_39 := hts (.fieldLink RX3 39 "PaintSequencerModel" "lanes" "I") (by decide +kernel)
  have k_42 := hts (.fieldLink RX3 42 "PaintSequencerModel" "depth" "I") (by decide +kernel)
  have k_45 := hts (.fieldLink RX3 45 "PaintSequencerModel" "room" "I") (by decide +kernel)
  have k_13 := hts (.fieldLink RX3 13 "PaintSequencerModel" "size" "[I") (by decide +kernel)
  have k_48 := hts (.fieldLink RX3 48 "PaintSequencerModel" "many" "I") (by decide +kernel)
  have k_51 := hts (.fieldLink RX3 51 "PaintSequencerModel" "done" "I") (by decide +kernel)
  have k_54 := hts (.fieldLink RX3 54 "PaintSequencerModel" "releases" "I") (by decide +kernel)
  have k_57 := hts (.fieldLink RX3 57 "PaintSequencerModel" "changed" "I") (by decide +kernel)
  have k_60 := hts (.fieldLink RX3 60 "PaintSequencerModel" "latestColour" "I") (by decide +kernel)
  have k_63 := hts (.fieldLink RX3 63 "PaintSequencerModel" "latestLane" "I") (by decide +kernel)
  have lp : ∀ (n : Nat) (k : Nat), (k : Int) ≤ 5 → 5 - (k : Int) < n → AW p l e (headSpec wsX3_lay ({ frames := 0, cells := 0, slots := 0, locals := 0 } : Room)).room s m args below meth c 5 G A s.heap 0 0 (MQ below (QPv G (fun u => u = WM G.2 am (fogS (us (us (us S 0 a) 1 b) 2 d)) P) A) args s 0 0 A) (WM G.2 am (clN (us (us (us S 0 a) 1 b) 2 d) k) P) [(0, .ref (am 0)), (1, .int (zI a)), (2, .int (zI b)), (3, .int (zI d)), (4, .int (zI k))] 18 [] := by
    intro n
    induction n with
    | zero =>
      intro k h1 h2
      exfalso
      omega
    | succ n ih =>
      intro k h1 h2
      refine aw_iload C dX3_lay_18 rfl ?_
      refine aw_iconst C dX3_lay_20 ?_
      refine aw_icmp_ge (tgt := 38) C dX3_lay_21 (by decide) (by omega) (by omega) (fun c21 => ?_) (fun c21 => ?_)
      · have e5 : k = 5 := by omega
        subst e5
        refine aw_aload_n C dX3_lay_38 rfl ?_
        refine aw_iconst C dX3_lay_39 ?_
        refine aw_put (q0 := 0) (k := 7) C iFX3 tyX3_ok nmX3 k_48 rfl rfl rfl rfl rfl rfl (wm_f7 _ _ _ _ _) dX3_lay_40 ?_
        refine aw_aload_n C dX3_lay_43 rfl ?_
        refine aw_iconst C dX3_lay_44 ?_
        refine aw_put (q0 := 0) (k := 11) C iFX3 tyX3_ok nmX3 k_51 rfl rfl rfl rfl rfl rfl (wm_f11 _ _ _ _ _) dX3_lay_45 ?_
        refine aw_aload_n C dX3_lay_48 rfl ?_
        refine aw_iconst C dX3_lay_49 ?_
        refine aw_put (q0 := 0) (k := 12) C iFX3 tyX3_ok nmX3 k_54 rfl rfl rfl rfl rfl rfl (wm_f12 _ _ _ _ _) dX3_lay_50 ?_
        refine aw_aload_n C dX3_lay_53 rfl ?_
        refine aw_iconst C dX3_lay_54 ?_
        refine aw_put (q0 := 0) (k := 13) C iFX3 tyX3_ok nmX3 k_57 rfl rfl rfl rfl rfl rfl (wm_f13 _ _ _ _ _) dX3_lay_55 ?_
        refine aw_aload_n C dX3_lay_58 rfl ?_
        refine aw_iconst C dX3_lay_59 ?_
        refine aw_put (q0 := 0) (k := 14) C iFX3 tyX3_ok nmX3 k_60 rfl rfl rfl rfl rfl rfl (wm_f14 _ _ _ _ _) dX3_lay_60 ?_
        refine aw_aload_n C dX3_lay_63 rfl ?_
        refine aw_iconst C dX3_lay_64 ?_
        refine aw_put (q0 := 0) (k := 15) C iFX3 tyX3_ok nmX3 k_63 rfl rfl rfl rfl rfl rfl (wm_f15 _ _ _ _ _) dX3_lay_65 ?_
        exact aw_vret C dX3_lay_68 rfl
      · refine aw_aload_n C dX3_lay_24 rfl ?_
        refine aw_get (q0 := 0) (k := 6) C iFX3 k_13 rfl rfl rfl rfl dX3_lay_25 ?_
        refine aw_iload C dX3_lay_28 rfl ?_
        refine aw_iconst C dX3_lay_30 ?_
        refine aw_stI (q0 := 2) C rfl (by omega) (by omega) rfl (wm_a2 _ _ _ _ _ _) dX3_lay_31 ?_
        refine aw_iinc C dX3_lay_32 rfl rfl rfl ?_
        refine aw_goto (tgt := 18) C dX3_lay_35 (by decide) ?_
        exact ih (k + 1) (by omega) (by omega)
  refine aw_aload_n C dX3_lay_0 rfl ?_
  refine aw_iload_n C dX3_lay_1 rfl ?_
  refine aw_put (q0 := 0) (k := 0) C iFX3 tyX3_ok nmX3 k_39 rfl rfl rfl rfl rfl rfl (wm_f0 _ _ _ _ _) dX3_lay_2 ?_
  refine aw_aload_n C dX3_lay_5 rfl ?_
  refine aw_iload_n C dX3_lay_6 rfl ?_
  refine aw_put (q0 := 0) (k := 1) C iFX3 tyX3_ok nmX3 k_42 rfl rfl rfl rfl rfl rfl (wm_f1 _ _ _ _ _) dX3_lay_7 ?_
  refine aw_aload_n C dX3_lay_10 rfl ?_
  refine aw_iload_n C dX3_lay_11 rfl ?_
  refine aw_put (q0 := 0) (k := 2) C iFX3 tyX3_ok nmX3 k_45 rfl rfl rfl rfl rfl rfl (wm_f2 _ _ _ _ _) dX3_lay_12 ?_
  refine aw_iconst C dX3_lay_15 ?_
  refine aw_istore C dX3_lay_16 rfl rfl ?_
  exact lp 6 0 (by omega) (by omega)
set_option maxHeartbeats 4000000 in
set_option maxRecDepth 100000 in
theorem c_X3_hasRoom {l : Launch} {G : va_G × (Nat → ClassId)} {am : Nat → Nat} {S P : St} {i : Int} (h0 : 0 ≤ i) (h5 : i < 5) (hs : 0 ≤ S.2 0 i ∧ S.2 0 i ≤ 6) (hD : 1 ≤ S.1 1 ∧ S.1 1 ≤ 6) : Mi l G yX3_hasRoom wsX3_hasRoom ({ frames := 0, cells := 0, slots := 0, locals := 0 } : Room) [.ref (am 0), .int (zI i)] (WM G.2 am S P) (fun r u => r = (if S.2 0 i < S.1 1 then 1 else 0) ∧ u = (WM G.2 am S P)) := by
  refine Mi.of (own := RX3) (cc := cX3_hasRoom) (maxL := 2) (ret := (some .boolean)) (by decide) rfl rfl rfl ?_
  intro p e s m args below meth c A C hN
  have hts := C.2.2.2.2.1
  have iFX3 : ∀ w ∈ u_ws RX3 TX3 19, w ∈ wsX3_hasRoom := by decide +kernel
  have k_13 := hts (.fieldLink RX3 13 "PaintSequencerModel" "size" "[I") (by decide +kernel)
  have k_42 := hts (.fieldLink RX3 42 "PaintSequencerModel" "depth" "I") (by decide +kernel)
  refine aw_aload_n C dX3_hasRoom_0 rfl ?_
  refine aw_get (q0 := 0) (k := 6) C iFX3 k_13 rfl rfl rfl rfl dX3_hasRoom_1 ?_
  refine aw_iload_n C dX3_hasRoom_4 rfl ?_
  refine aw_ldI (q0 := 2) C rfl (by omega) (by omega) rfl dX3_hasRoom_5 ?_
  refine aw_aload_n C dX3_hasRoom_6 rfl ?_
  refine aw_get (q0 := 0) (k := 1) C iFX3 k_42 rfl rfl rfl rfl dX3_hasRoom_7 ?_
  refine aw_icmp_ge (tgt := 17) C dX3_hasRoom_10 (by decide) (by omega) (by omega) (fun c10 => ?_) (fun c10 => ?_)
  · refine aw_iconst C dX3_hasRoom_17 ?_
    exact aw_zret C dX3_hasRoom_18 rfl ⟨by first | rw [if_pos (by omega)] | rw [if_neg (by omega)], rfl⟩
  · refine aw_iconst C dX3_hasRoom_13 ?_
    refine aw_goto (tgt := 18) C dX3_hasRoom_14 (by decide) ?_
    exact aw_zret C dX3_hasRoom_18 rfl ⟨by first | rw [if_pos (by omega)] | rw [if_neg (by omega)], rfl⟩
set_option maxHeartbeats 4000000 in
set_option maxRecDepth 100000 in
theorem c_X3_fewestLane {l : Launch} {G : va_G × (Nat → ClassId)} {am : Nat → Nat} {S P : St} (hI : Inv S) : Mi l G yX3_fewestLane wsX3_fewestLane ({ frames := 1, cells := 0, slots := 0, locals := 21 } : Room) [.ref (am 0)] (WM G.2 am S P) (fun r u => r = emN S (S.1 0).toNat ∧ u = (WM G.2 am S P)) := by
  refine Mi.of (own := RX3) (cc := cX3_fewestLane) (maxL := 3) (ret := (some .int)) (by decide) rfl rfl rfl ?_
  intro p e s m args below meth c A C hN
  have hts := C.2.2.2.2.1
  have iFX3 : ∀ w ∈ u_ws RX3 TX3 19, w ∈ wsX3_fewestLane := by decide +kernel
  have k_39 := hts (.fieldLink RX3 39 "PaintSequencerModel" "lanes" "I") (by decide +kernel)
  have k_13 := hts (.fieldLink RX3 13 "PaintSequencerModel" "size" "[I") (by decide +kernel)
  obtain ⟨hn, hz, hr, hc, hp, ha, hq, ht⟩ := id hI
  have lp : ∀ (n : Nat) (k : Nat), (k : Int) ≤ S.1 0 → S.1 0 - k < n → AW p l e (headSpec wsX3_fewestLane ({ frames := 1, cells := 0, slots := 0, locals := 21 } : Room)).room s m args below meth c 3 G A s.heap 0 0 (MQ below (QPi G (fun r u => r = emN S (S.1 0).toNat ∧ u = (WM G.2 am S P)) A) args s 0 0 A) (WM G.2 am S P) [(0, .ref (am 0)), (1, .int (zI (emN S k))), (2, .int (zI k))] 4 [] := by
    intro n
    induction n with
    | zero =>
      intro k h1 h2
      exfalso
      omega
    | succ n ih =>
      intro k h1 h2
      refine aw_iload_n C dX3_fewestLane_4 rfl ?_
      refine aw_aload_n C dX3_fewestLane_5 rfl ?_
      refine aw_get (q0 := 0) (k := 0) C iFX3 k_39 rfl rfl rfl rfl dX3_fewestLane_6 ?_
      refine aw_icmp_ge (tgt := 48) C dX3_fewestLane_9 (by decide) (by omega) (by omega) (fun c9 => ?_) (fun c9 => ?_)
      · refine aw_iload_n C dX3_fewestLane_48 rfl ?_
        exact aw_iret C dX3_fewestLane_49 ⟨by rw [show (S.1 0).toNat = k by omega], rfl⟩
      · have hrm := emN_room (S := S) k
        have h9 := hz k (by omega) (by omega)
        have h6 := emN_b S k
        refine aw_aload_n C dX3_fewestLane_12 rfl ?_
        refine aw_iload_n C dX3_fewestLane_13 rfl ?_
        refine cV1i (ci := 3) (q0 := 0) C hN (c_X3_hasRoom (by omega) (by omega) (by omega) (by omega)) (cwV 1 hts gX3_fewestLane_X3_hasRoom rfl rfl rfl (by decide +kernel) ⟨Nat.le_of_ble_eq_true rfl, Nat.le_of_ble_eq_true rfl⟩) rfl rfl rfl rfl dX3_fewestLane_14 ⟨Nat.zero_le _, Nat.zero_le _⟩ (fun r14 u14 q14 => ?_)
        obtain ⟨rfl, rfl⟩ := q14
        refine aw_if_eq (tgt := 42) C dX3_fewestLane_17 (by decide) (by split <;> omega) (fun c17 => ?_) (fun c17 => ?_)
        · have d17 := ite_f c17
          refine aw_iinc C dX3_fewestLane_42 rfl rfl rfl ?_
          refine aw_goto (tgt := 4) C dX3_fewestLane_45 (by decide) ?_
          have h8 := ih (k + 1) (by omega) (by omega)
          by_cases hw : S.2 0 k < (if emN S k = -1 then S.1 1 else S.2 0 (emN S k))
          · have e8 : emN S (k + 1) = k := if_pos hw
            rw [e8] at h8
            first
            | exact h8
            | (exfalso
               split at hw
               · omega
               · rename_i e2
                 have := hrm e2
                 omega)
          · have e8 : emN S (k + 1) = emN S k := if_neg hw
            rw [e8] at h8
            first
            | exact h8
            | (exfalso
               split at hw <;> omega)
        · have d17 := ite_t c17
          refine aw_iload_n C dX3_fewestLane_20 rfl ?_
          refine aw_iconst C dX3_fewestLane_21 ?_
          refine aw_icmp_eq (tgt := 40) C dX3_fewestLane_22 (by decide) (by omega) (by omega) (fun c22 => ?_) (fun c22 => ?_)
          · refine aw_iload_n C dX3_fewestLane_40 rfl ?_
            refine aw_istore_n C dX3_fewestLane_41 rfl rfl ?_
            refine aw_iinc C dX3_fewestLane_42 rfl rfl rfl ?_
            refine aw_goto (tgt := 4) C dX3_fewestLane_45 (by decide) ?_
            have h8 := ih (k + 1) (by omega) (by omega)
            by_cases hw : S.2 0 k < (if emN S k = -1 then S.1 1 else S.2 0 (emN S k))
            · have e8 : emN S (k + 1) = k := if_pos hw
              rw [e8] at h8
              first
              | exact h8
              | (exfalso
                 split at hw
                 · omega
                 · rename_i e2
                   have := hrm e2
                   omega)
            · have e8 : emN S (k + 1) = emN S k := if_neg hw
              rw [e8] at h8
              first
              | exact h8
              | (exfalso
                 split at hw <;> omega)
          · have h7 := hz (emN S k) (by omega) (by omega)
            have h7r := hrm c22
            refine aw_aload_n C dX3_fewestLane_25 rfl ?_
            refine aw_get (q0 := 0) (k := 6) C iFX3 k_13 rfl rfl rfl rfl dX3_fewestLane_26 ?_
            refine aw_iload_n C dX3_fewestLane_29 rfl ?_
            refine aw_ldI (q0 := 2) C rfl (by omega) (by omega) rfl dX3_fewestLane_30 ?_
            refine aw_aload_n C dX3_fewestLane_31 rfl ?_
            refine aw_get (q0 := 0) (k := 6) C iFX3 k_13 rfl rfl rfl rfl dX3_fewestLane_32 ?_
            refine aw_iload_n C dX3_fewestLane_35 rfl ?_
            refine aw_ldI (q0 := 2) C rfl (by omega) (by omega) rfl dX3_fewestLane_36 ?_
            refine aw_icmp_ge (tgt := 42) C dX3_fewestLane_37 (by decide) (by omega) (by omega) (fun c37 => ?_) (fun c37 => ?_)
            · refine aw_iinc C dX3_fewestLane_42 rfl rfl rfl ?_
              refine aw_goto (tgt := 4) C dX3_fewestLane_45 (by decide) ?_
              have h8 := ih (k + 1) (by omega) (by omega)
              by_cases hw : S.2 0 k < (if emN S k = -1 then S.1 1 else S.2 0 (emN S k))
              · have e8 : emN S (k + 1) = k := if_pos hw
                rw [e8] at h8
                first
                | exact h8
                | (exfalso
                   split at hw
                   · omega
                   · rename_i e2
                     have := hrm e2
                     omega)
              · have e8 : emN S (k + 1) = emN S k := if_neg hw
                rw [e8] at h8
                first
                | exact h8
                | (exfalso
                   split at hw <;> omega)
            · refine aw_iload_n C dX3_fewestLane_40 rfl ?_
              refine aw_istore_n C dX3_fewestLane_41 rfl rfl ?_
              refine aw_iinc C dX3_fewestLane_42 rfl rfl rfl ?_
              refine aw_goto (tgt := 4) C dX3_fewestLane_45 (by decide) ?_
              have h8 := ih (k + 1) (by omega) (by omega)
              by_cases hw : S.2 0 k < (if emN S k = -1 then S.1 1 else S.2 0 (emN S k))
              · have e8 : emN S (k + 1) = k := if_pos hw
                rw [e8] at h8
                first
                | exact h8
                | (exfalso
                   split at hw
                   · omega
                   · rename_i e2
                     have := hrm e2
                     omega)
              · have e8 : emN S (k + 1) = emN S k := if_neg hw
                rw [e8] at h8
                first
                | exact h8
                | (exfalso
                   split at hw <;> omega)
  refine aw_iconst C dX3_fewestLane_0 ?_
  refine aw_istore_n C dX3_fewestLane_1 rfl rfl ?_
  refine aw_iconst C dX3_fewestLane_2 ?_
  refine aw_istore_n C dX3_fewestLane_3 rfl rfl ?_
  exact lp 6 0 (by omega) (by omega)
set_option maxHeartbeats 4000000 in
set_option maxRecDepth 100000 in
theorem c_X3_laneFor {l : Launch} {G : va_G × (Nat → ClassId)} {am : Nat → Nat} {S P : St} (hI : Inv S) {z : Int} (hz9 : 0 ≤ z ∧ z ≤ 4) : Mi l G yX3_laneFor wsX3_laneFor ({ frames := 2, cells := 0, slots := 0, locals := 43 } : Room) [.ref (am 0), .int (zI z)] (WM G.2 am S P) (fun r u => r = inS S z ∧ u = (WM G.2 am S P)) := by
  refine Mi.of (own := RX3) (cc := cX3_laneFor) (maxL := 4) (ret := (some .int)) (by decide) rfl rfl rfl ?_
  intro p e s m args below meth c A C hN
  have hts := C.2.2.2.2.1
  have iFX3 : ∀ w ∈ u_ws RX3 TX3 19, w ∈ wsX3_laneFor := by decide +kernel
  have k_74 := hts (.fieldLink RX3 74 "PaintSequencerModel" "entry" "I") (by decide +kernel)
  have k_39 := hts (.fieldLink RX3 39 "PaintSequencerModel" "lanes" "I") (by decide +kernel)
  have k_13 := hts (.fieldLink RX3 13 "PaintSequencerModel" "size" "[I") (by decide +kernel)
  have k_16 := hts (.fieldLink RX3 16 "PaintSequencerModel" "colours" "[I") (by decide +kernel)
  have k_7 := hts (.fieldLink RX3 7 "PaintSequencerModel" "row" "[I") (by decide +kernel)
  have k_63 := hts (.fieldLink RX3 63 "PaintSequencerModel" "latestLane" "I") (by decide +kernel)
  obtain ⟨hn, hz, hr, hc, hp, ha, hq, ht⟩ := id hI
  have lp2 : ∀ (n : Nat) (k : Int), 1 ≤ k → k ≤ S.1 0 + 1 → S.1 0 + 1 - k < n → trN S (S.1 0 + 1 - k).toNat ((S.1 11 + k) % S.1 0) = trN S (S.1 0).toNat (S.1 7) → S.1 3 = 2 → AW p l e (headSpec wsX3_laneFor ({ frames := 2, cells := 0, slots := 0, locals := 43 } : Room)).room s m args below meth c 4 G A s.heap 0 0 (MQ below (QPi G (fun r u => r = inS S z ∧ u = (WM G.2 am S P)) A) args s 0 0 A) (WM G.2 am S P) [(0, .ref (am 0)), (1, .int (zI z)), (2, .int (zI k))] 80 [] := by
    intro n
    induction n with
    | zero =>
      intro k h1 h2 h3 h4 c75
      exfalso
      omega
    | succ n ih =>
      intro k h1 h2 h3 h4 c75
      refine aw_iload_n C dX3_laneFor_80 rfl ?_
      refine aw_aload_n C dX3_laneFor_81 rfl ?_
      refine aw_get (q0 := 0) (k := 0) C iFX3 k_39 rfl rfl rfl rfl dX3_laneFor_82 ?_
      refine aw_icmp_gt (tgt := 116) C dX3_laneFor_85 (by decide) (by omega) (by omega) (fun c85 => ?_) (fun c85 => ?_)
      · refine aw_iconst C dX3_laneFor_116 ?_
        exact aw_iret C dX3_laneFor_117 ⟨by
          have e9 : trN S (S.1 0).toNat (S.1 7) = -1 := by
            rw [← h4, show (S.1 0 + 1 - k).toNat = 0 by omega]
            rfl
          unfold inS
          rw [if_neg (by omega), if_pos c75, if_pos e9, tr_em (by omega) (by omega) (by omega) e9], rfl⟩
      · refine aw_aload_n C dX3_laneFor_88 rfl ?_
        refine aw_get (q0 := 0) (k := 15) C iFX3 k_63 rfl rfl rfl rfl dX3_laneFor_89 ?_
        refine aw_iload_n C dX3_laneFor_92 rfl ?_
        refine aw_iadd C dX3_laneFor_93 ?_
        refine aw_aload_n C dX3_laneFor_94 rfl ?_
        refine aw_get (q0 := 0) (k := 0) C iFX3 k_39 rfl rfl rfl rfl dX3_laneFor_95 ?_
        refine aw_irem C dX3_laneFor_98 (by omega) (by omega) ?_
        have hm : 0 ≤ (S.1 11 + k) % S.1 0 ∧ (S.1 11 + k) % S.1 0 < S.1 0 := ⟨Int.emod_nonneg _ (by omega), Int.emod_lt_of_pos _ (by omega)⟩
        have h9 := hz ((S.1 11 + k) % S.1 0) hm.1 (by omega)
        refine aw_istore_n C dX3_laneFor_99 rfl rfl ?_
        refine aw_aload_n C dX3_laneFor_100 rfl ?_
        refine aw_iload_n C dX3_laneFor_101 rfl ?_
        refine cV1i (ci := 3) (q0 := 0) C hN (c_X3_hasRoom (by omega) (by omega) (by omega) (by omega)) (cwV 1 hts gX3_laneFor_X3_hasRoom rfl rfl rfl (by decide +kernel) ⟨Nat.le_of_ble_eq_true rfl, Nat.le_of_ble_eq_true rfl⟩) rfl rfl rfl rfl dX3_laneFor_102 ⟨Nat.zero_le _, Nat.zero_le _⟩ (fun r102 u102 q102 => ?_)
        obtain ⟨rfl, rfl⟩ := q102
        refine aw_if_eq (tgt := 110) C dX3_laneFor_105 (by decide) (by split <;> omega) (fun c105 => ?_) (fun c105 => ?_)
        · have d105 := ite_f c105
          refine aw_iinc C dX3_laneFor_110 rfl rfl rfl ?_
          refine aw_goto (tgt := 80) C dX3_laneFor_113 (by decide) ?_
          refine aw_less ?_ (ih (k + 1) (by omega) (by omega) (by omega) ?_ c75)
          · exact fun q hq => List.mem_of_mem_take (i := 3) hq
          rw [← h4, show (S.1 0 + 1 - k).toNat = (S.1 0 + 1 - (k + 1)).toNat + 1 by omega]
          have e9 : trN S ((S.1 0 + 1 - (k + 1)).toNat + 1) ((S.1 11 + k) % S.1 0) = trN S (S.1 0 + 1 - (k + 1)).toNat (behS S ((S.1 11 + k) % S.1 0)) := if_neg d105
          rw [e9, behS_mod hm.1 hm.2, Int.emod_add_emod, Int.add_assoc]
        · have d105 := ite_t c105
          refine aw_iload_n C dX3_laneFor_108 rfl ?_
          exact aw_iret C dX3_laneFor_109 ⟨by
            have e9 : trN S (S.1 0).toNat (S.1 7) = (S.1 11 + k) % S.1 0 := by
              rw [← h4, show (S.1 0 + 1 - k).toNat = (S.1 0 + 1 - (k + 1)).toNat + 1 by omega]
              exact if_pos d105
            unfold inS
            rw [if_neg (by omega), if_pos c75, e9, if_neg (by omega)], rfl⟩
  have lp : ∀ (n : Nat) (k : Nat), (k : Int) ≤ S.1 0 → S.1 0 - k < n → fstB (fun i => decide (S.2 0 i < S.1 1 ∧ colS S (atS S i (S.2 0 i - 1)) = z)) k = -1 → S.1 3 = 1 → AW p l e (headSpec wsX3_laneFor ({ frames := 2, cells := 0, slots := 0, locals := 43 } : Room)).room s m args below meth c 4 G A s.heap 0 0 (MQ below (QPi G (fun r u => r = inS S z ∧ u = (WM G.2 am S P)) A) args s 0 0 A) (WM G.2 am S P) [(0, .ref (am 0)), (1, .int (zI z)), (2, .int (zI k))] 10 [] := by
    intro n
    induction n with
    | zero =>
      intro k h1 h2 h3 c5
      exfalso
      omega
    | succ n ih =>
      intro k h1 h2 h3 c5
      refine aw_iload_n C dX3_laneFor_10 rfl ?_
      refine aw_aload_n C dX3_laneFor_11 rfl ?_
      refine aw_get (q0 := 0) (k := 0) C iFX3 k_39 rfl rfl rfl rfl dX3_laneFor_12 ?_
      refine aw_icmp_ge (tgt := 70) C dX3_laneFor_15 (by decide) (by omega) (by omega) (fun c15 => ?_) (fun c15 => ?_)
      · have he1 : e1S S z = -1 := by unfold e1S; rw [show (S.1 0).toNat = k by omega]; exact h3
        refine aw_aload_n C dX3_laneFor_70 rfl ?_
        refine aw_get (q0 := 0) (k := 3) C iFX3 k_74 rfl rfl rfl rfl dX3_laneFor_71 ?_
        refine aw_iconst C dX3_laneFor_74 ?_
        refine aw_icmp_ne (tgt := 118) C dX3_laneFor_75 (by decide) (by omega) (by omega) (fun c75 => ?_) (fun c75 => ?_)
        · refine aw_aload_n C dX3_laneFor_118 rfl ?_
          refine cV0i (ci := 3) (q0 := 0) C hN (c_X3_fewestLane hI) (cwV 0 hts gX3_laneFor_X3_fewestLane rfl rfl rfl (by decide +kernel) ⟨Nat.le_of_ble_eq_true rfl, Nat.le_of_ble_eq_true rfl⟩) rfl rfl rfl rfl dX3_laneFor_119 ⟨Nat.zero_le _, Nat.zero_le _⟩ (fun r119 u119 q119 => ?_)
          obtain ⟨rfl, rfl⟩ := q119
          exact aw_iret C dX3_laneFor_122 ⟨by
            unfold inS
            first
            | (exfalso; omega)
            | rw [if_neg c5, if_neg c75]
            | rw [if_pos c5, if_pos he1], rfl⟩
        · refine aw_iconst C dX3_laneFor_78 ?_
          refine aw_istore_n C dX3_laneFor_79 rfl rfl ?_
          exfalso
          omega
      · have h9 := hz k (by omega) (by omega)
        have hno : S.2 0 k ≤ 0 → colS S (atS S k (S.2 0 k - 1)) = -1 := fun h => by
          have e : atS S k (S.2 0 k - 1) = -1 := if_neg (by omega)
          rw [e]
          exact if_neg (by omega)
        refine aw_aload_n C dX3_laneFor_18 rfl ?_
        refine aw_iload_n C dX3_laneFor_19 rfl ?_
        refine cV1i (ci := 3) (q0 := 0) C hN (c_X3_hasRoom (by omega) (by omega) (by omega) (by omega)) (cwV 1 hts gX3_laneFor_X3_hasRoom rfl rfl rfl (by decide +kernel) ⟨Nat.le_of_ble_eq_true rfl, Nat.le_of_ble_eq_true rfl⟩) rfl rfl rfl rfl dX3_laneFor_20 ⟨Nat.zero_le _, Nat.zero_le _⟩ (fun r20 u20 q20 => ?_)
        obtain ⟨rfl, rfl⟩ := q20
        refine aw_if_eq (tgt := 64) C dX3_laneFor_23 (by decide) (by split <;> omega) (fun c23 => ?_) (fun c23 => ?_)
        · have d23 := ite_f c23
          refine aw_iinc C dX3_laneFor_64 rfl rfl rfl ?_
          refine aw_goto (tgt := 10) C dX3_laneFor_67 (by decide) ?_
          refine ih (k + 1) (by omega) (by omega) (fstB_no h3 (decide_eq_false ?_)) c5
          first
          | exact fun h => c59 h.2
          | exact fun h => d23 h.1
          | exact fun h => absurd h.2 (fun e => by rw [hno (by omega)] at e; omega)
        · have d23 := ite_t c23
          refine aw_aload_n C dX3_laneFor_26 rfl ?_
          refine aw_get (q0 := 0) (k := 6) C iFX3 k_13 rfl rfl rfl rfl dX3_laneFor_27 ?_
          refine aw_iload_n C dX3_laneFor_30 rfl ?_
          refine aw_ldI (q0 := 2) C rfl (by omega) (by omega) rfl dX3_laneFor_31 ?_
          refine aw_if_le (tgt := 64) C dX3_laneFor_32 (by decide) (by omega) (fun c32 => ?_) (fun c32 => ?_)
          · refine aw_iinc C dX3_laneFor_64 rfl rfl rfl ?_
            refine aw_goto (tgt := 10) C dX3_laneFor_67 (by decide) ?_
            refine ih (k + 1) (by omega) (by omega) (fstB_no h3 (decide_eq_false ?_)) c5
            first
            | exact fun h => c59 h.2
            | exact fun h => d23 h.1
            | exact fun h => absurd h.2 (fun e => by rw [hno (by omega)] at e; omega)
          · refine aw_aload_n C dX3_laneFor_35 rfl ?_
            refine aw_get (q0 := 0) (k := 8) C iFX3 k_16 rfl rfl rfl rfl dX3_laneFor_36 ?_
            refine aw_aload_n C dX3_laneFor_39 rfl ?_
            refine aw_get (q0 := 0) (k := 5) C iFX3 k_7 rfl rfl rfl rfl dX3_laneFor_40 ?_
            refine aw_bipush C dX3_laneFor_43 rfl ?_
            refine aw_iload_n C dX3_laneFor_45 rfl ?_
            refine aw_imul C dX3_laneFor_46 ?_
            refine aw_aload_n C dX3_laneFor_47 rfl ?_
            refine aw_get (q0 := 0) (k := 6) C iFX3 k_13 rfl rfl rfl rfl dX3_laneFor_48 ?_
            refine aw_iload_n C dX3_laneFor_51 rfl ?_
            refine aw_ldI (q0 := 2) C rfl (by omega) (by omega) rfl dX3_laneFor_52 ?_
            refine aw_iadd C dX3_laneFor_53 ?_
            refine aw_iconst C dX3_laneFor_54 ?_
            refine aw_isub C dX3_laneFor_55 ?_
            refine aw_ldI (q0 := 1) C rfl (by omega) (by omega) rfl dX3_laneFor_56 ?_
            rw [rM (l := (k : Int)) (k := S.2 0 k - 1) (by omega) (by omega) (by omega) (by omega)]
            have h8 := hr k (S.2 0 k - 1) (by omega) (by omega) (by omega) (by omega)
            refine aw_ldI (q0 := 3) C rfl (by omega) (by omega) rfl dX3_laneFor_57 ?_
            have h7 := hc _ h8.1 h8.2
            have e7 : colS S (atS S k (S.2 0 k - 1)) = S.2 1 (S.2 (10 + (k : Int).toNat) (S.2 0 k - 1)) := colS_at hI (by omega) (by omega) (by omega) (by omega)
            rw [← e7] at h7
            rw [← e7]
            refine aw_iload_n C dX3_laneFor_58 rfl ?_
            refine aw_icmp_ne (tgt := 64) C dX3_laneFor_59 (by decide) (by omega) (by omega) (fun c59 => ?_) (fun c59 => ?_)
            · refine aw_iinc C dX3_laneFor_64 rfl rfl rfl ?_
              refine aw_goto (tgt := 10) C dX3_laneFor_67 (by decide) ?_
              refine ih (k + 1) (by omega) (by omega) (fstB_no h3 (decide_eq_false ?_)) c5
              first
              | exact fun h => c59 h.2
              | exact fun h => d23 h.1
              | exact fun h => absurd h.2 (fun e => by rw [hno (by omega)] at e; omega)
            · refine aw_iload_n C dX3_laneFor_62 rfl ?_
              exact aw_iret C dX3_laneFor_63 ⟨by
                have e9 : e1S S z = k := fstB_at h3 (decide_eq_true ⟨d23, c59⟩) (by omega)
                unfold inS
                rw [if_pos c5, e9, if_neg (by omega)], rfl⟩
  refine aw_aload_n C dX3_laneFor_0 rfl ?_
  refine aw_get (q0 := 0) (k := 3) C iFX3 k_74 rfl rfl rfl rfl dX3_laneFor_1 ?_
  refine aw_iconst C dX3_laneFor_4 ?_
  refine aw_icmp_ne (tgt := 70) C dX3_laneFor_5 (by decide) (by omega) (by omega) (fun c5 => ?_) (fun c5 => ?_)
  · refine aw_aload_n C dX3_laneFor_70 rfl ?_
    refine aw_get (q0 := 0) (k := 3) C iFX3 k_74 rfl rfl rfl rfl dX3_laneFor_71 ?_
    refine aw_iconst C dX3_laneFor_74 ?_
    refine aw_icmp_ne (tgt := 118) C dX3_laneFor_75 (by decide) (by omega) (by omega) (fun c75 => ?_) (fun c75 => ?_)
    · refine aw_aload_n C dX3_laneFor_118 rfl ?_
      refine cV0i (ci := 3) (q0 := 0) C hN (c_X3_fewestLane hI) (cwV 0 hts gX3_laneFor_X3_fewestLane rfl rfl rfl (by decide +kernel) ⟨Nat.le_of_ble_eq_true rfl, Nat.le_of_ble_eq_true rfl⟩) rfl rfl rfl rfl dX3_laneFor_119 ⟨Nat.zero_le _, Nat.zero_le _⟩ (fun r119 u119 q119 => ?_)
      obtain ⟨rfl, rfl⟩ := q119
      exact aw_iret C dX3_laneFor_122 ⟨by
        unfold inS
        first
        | (exfalso; omega)
        | rw [if_neg c5, if_neg c75]
        | rw [if_pos c5, if_pos he1], rfl⟩
    · refine aw_iconst C dX3_laneFor_78 ?_
      refine aw_istore_n C dX3_laneFor_79 rfl rfl ?_
      refine aw_less ?_ (lp2 7 1 (by omega) (by omega) (by omega) ?_ c75)
      · exact fun q hq => List.mem_of_mem_take (i := 3) hq
      have et : (S.1 11 + 1) % S.1 0 = S.1 7 := by
        rw [ht]
        split
        · rw [Int.emod_eq_of_lt (by omega) (by omega)]
        · rw [show S.1 11 + 1 = S.1 0 by omega, Int.emod_self]
      rw [et, show S.1 0 + 1 - 1 = S.1 0 by omega]
  · refine aw_iconst C dX3_laneFor_8 ?_
    refine aw_istore_n C dX3_laneFor_9 rfl rfl ?_
    exact lp 6 0 (by omega) (by omega) rfl c5
set_option maxHeartbeats 4000000 in
set_option maxRecDepth 100000 in
theorem c_X3_put {l : Launch} {G : va_G × (Nat → ClassId)} {am : Nat → Nat} {S P : St} {i b : Int} (h0 : 0 ≤ i) (h5 : i < 5) (hs : 0 ≤ S.2 0 i ∧ S.2 0 i < 6) (hb : 0 ≤ b ∧ b < 99) : Mv l G yX3_put wsX3_put ({ frames := 0, cells := 0, slots := 0, locals := 0 } : Room) [.ref (am 0), .int (zI b), .int (zI i)] (WM G.2 am S P) (fun u => u = WM G.2 am (putS S i b) P) := by
  refine Mv.of (own := RX3) (cc := cX3_put) (maxL := 3) (ret := none) (by decide) rfl rfl rfl ?_
  intro p e s m args below meth c A C hN
  have hts := C.2.2.2.2.1
  have iFX3 : ∀ w ∈ u_ws RX3 TX3 19, w ∈ wsX3_put := by decide +kernel
  have k_7 := hts (.fieldLink RX3 7 "PaintSequencerModel" "row" "[I") (by decide +kernel)
  have k_13 := hts (.fieldLink RX3 13 "PaintSequencerModel" "size" "[I") (by decide +kernel)
  have k_19 := hts (.fieldLink RX3 19 "PaintSequencerModel" "places" "[I") (by decide +kernel)
  have k_63 := hts (.fieldLink RX3 63 "PaintSequencerModel" "latestLane" "I") (by decide +kernel)
  refine aw_aload_n C dX3_put_0 rfl ?_
  refine aw_get (q0 := 0) (k := 5) C iFX3 k_7 rfl rfl rfl rfl dX3_put_1 ?_
  refine aw_bipush C dX3_put_4 rfl ?_
  refine aw_iload_n C dX3_put_6 rfl ?_
  refine aw_imul C dX3_put_7 ?_
  refine aw_aload_n C dX3_put_8 rfl ?_
  refine aw_get (q0 := 0) (k := 6) C iFX3 k_13 rfl rfl rfl rfl dX3_put_9 ?_
  refine aw_iload_n C dX3_put_12 rfl ?_
  refine aw_ldI (q0 := 2) C rfl (by omega) (by omega) rfl dX3_put_13 ?_
  refine aw_iadd C dX3_put_14 ?_
  refine aw_iload_n C dX3_put_15 rfl ?_
  refine aw_stI (q0 := 1) C rfl (by omega) (by omega) rfl (wm_a1 (l := i) (k := S.2 0 i) rfl h0 (by omega) (by omega)) dX3_put_16 ?_
  refine aw_aload_n C dX3_put_17 rfl ?_
  refine aw_get (q0 := 0) (k := 6) C iFX3 k_13 rfl rfl rfl rfl dX3_put_18 ?_
  refine aw_iload_n C dX3_put_21 rfl ?_
  refine aw_dup2 C dX3_put_22 rfl rfl ?_
  refine aw_ldI (q0 := 2) C rfl (by omega) (by omega) rfl dX3_put_23 ?_
  rw [show (ua S (10 + i.toNat) (S.2 0 i) b).2 0 i = S.2 0 i from ua_n _ _ _ _ _ (by omega)]
  refine aw_iconst C dX3_put_24 ?_
  refine aw_iadd C dX3_put_25 ?_
  refine aw_stI (q0 := 2) C rfl (by omega) (by omega) rfl (wm_a2 _ _ _ _ _ _) dX3_put_26 ?_
  refine aw_aload_n C dX3_put_27 rfl ?_
  refine aw_get (q0 := 0) (k := 9) C iFX3 k_19 rfl rfl rfl rfl dX3_put_28 ?_
  refine aw_iload_n C dX3_put_31 rfl ?_
  refine aw_iload_n C dX3_put_32 rfl ?_
  refine aw_stI (q0 := 4) C rfl (by omega) (by omega) rfl (wm_a4 _ _ _ _ _ _) dX3_put_33 ?_
  refine aw_aload_n C dX3_put_34 rfl ?_
  refine aw_iload_n C dX3_put_35 rfl ?_
  refine aw_put (q0 := 0) (k := 15) C iFX3 tyX3_ok nmX3 k_63 rfl rfl rfl rfl rfl rfl (wm_f15 _ _ _ _ _) dX3_put_36 ?_
  exact aw_vret C dX3_put_39 rfl
set_option maxHeartbeats 4000000 in
set_option maxRecDepth 100000 in
theorem c_X3_come {l : Launch} {G : va_G × (Nat → ClassId)} {am : Nat → Nat} {S P : St} {i v : Int} (h0 : 0 ≤ i) (h5 : i < 5) (hs : 0 ≤ S.2 0 i ∧ S.2 0 i < 6) (hB : 0 ≤ S.1 5 ∧ S.1 5 < 99) : Mi l G yX3_come wsX3_come ({ frames := 1, cells := 0, slots := 0, locals := 22 } : Room) [.ref (am 0), .int (zI v), .int (zI i)] (WM G.2 am S P) (fun r u => r = S.1 5 ∧ u = WM G.2 am (putS (newS S v) i (S.1 5)) P) := by
  refine Mi.of (own := RX3) (cc := cX3_come) (maxL := 3) (ret := (some .int)) (by decide) rfl rfl rfl ?_
  intro p e s m args below meth c A C hN
  have hts := C.2.2.2.2.1
  have iFX3 : ∀ w ∈ u_ws RX3 TX3 19, w ∈ wsX3_come := by decide +kernel
  have k_16 := hts (.fieldLink RX3 16 "PaintSequencerModel" "colours" "[I") (by decide +kernel)
  have k_48 := hts (.fieldLink RX3 48 "PaintSequencerModel" "many" "I") (by decide +kernel)
  refine aw_aload_n C dX3_come_0 rfl ?_
  refine aw_get (q0 := 0) (k := 8) C iFX3 k_16 rfl rfl rfl rfl dX3_come_1 ?_
  refine aw_aload_n C dX3_come_4 rfl ?_
  refine aw_get (q0 := 0) (k := 7) C iFX3 k_48 rfl rfl rfl rfl dX3_come_5 ?_
  refine aw_iload_n C dX3_come_8 rfl ?_
  refine aw_stI (q0 := 3) C rfl (by omega) (by omega) rfl (wm_a3 _ _ _ _ _ _) dX3_come_9 ?_
  refine aw_aload_n C dX3_come_10 rfl ?_
  refine aw_aload_n C dX3_come_11 rfl ?_
  refine aw_get (q0 := 0) (k := 7) C iFX3 k_48 rfl rfl rfl rfl dX3_come_12 ?_
  refine aw_iload_n C dX3_come_15 rfl ?_
  refine cV2v (ci := 3) (q0 := 0) C hN (c_X3_put h0 h5 (by rw [ua_n _ _ _ _ _ (by decide)]; exact hs) (by exact hB)) (cwV 2 hts gX3_come_X3_put rfl rfl rfl (by decide +kernel) ⟨Nat.le_of_ble_eq_true rfl, Nat.le_of_ble_eq_true rfl⟩) rfl rfl rfl rfl dX3_come_16 ⟨Nat.zero_le _, Nat.zero_le _⟩ (fun u16 q16 => ?_)
  obtain rfl := q16
  refine aw_aload_n C dX3_come_19 rfl ?_
  refine aw_dup C dX3_come_20 rfl ?_
  refine aw_get (q0 := 0) (k := 7) C iFX3 k_48 rfl rfl rfl rfl dX3_come_21 ?_
  refine aw_iconst C dX3_come_24 ?_
  refine aw_iadd C dX3_come_25 ?_
  refine aw_put (q0 := 0) (k := 7) C iFX3 tyX3_ok nmX3 k_48 rfl rfl rfl rfl rfl rfl (wm_f7 _ _ _ _ _) dX3_come_26 ?_
  refine aw_aload_n C dX3_come_29 rfl ?_
  refine aw_get (q0 := 0) (k := 7) C iFX3 k_48 rfl rfl rfl rfl dX3_come_30 ?_
  refine aw_iconst C dX3_come_33 ?_
  refine aw_isub C dX3_come_34 ?_
  exact aw_iret C dX3_come_35 ⟨by show S.1 5 + 1 - 1 = S.1 5; omega, rfl⟩
set_option maxHeartbeats 4000000 in
set_option maxRecDepth 100000 in
theorem c_X3_countIn {l : Launch} {G : va_G × (Nat → ClassId)} {am : Nat → Nat} {S P : St} (hB : 0 ≤ S.1 5 ∧ S.1 5 ≤ 99) (hp : ∀ b : Int, 0 ≤ b → b < S.1 5 → 0 ≤ S.2 2 b ∧ S.2 2 b ≤ 12) {z : Int} (hz9 : -2147483648 ≤ z ∧ z < 2147483648) : Mi l G yX3_countIn wsX3_countIn ({ frames := 0, cells := 0, slots := 0, locals := 0 } : Room) [.ref (am 0), .int (zI z)] (WM G.2 am S P) (fun r u => r = cntN (S.2 2) z (S.1 5).toNat ∧ u = (WM G.2 am S P)) := by
  refine Mi.of (own := RX3) (cc := cX3_countIn) (maxL := 4) (ret := (some .int)) (by decide) rfl rfl rfl ?_
  intro p e s m args below meth c A C hN
  have hts := C.2.2.2.2.1
  have iFX3 : ∀ w ∈ u_ws RX3 TX3 19, w ∈ wsX3_countIn := by decide +kernel
  have k_48 := hts (.fieldLink RX3 48 "PaintSequencerModel" "many" "I") (by decide +kernel)
  have k_19 := hts (.fieldLink RX3 19 "PaintSequencerModel" "places" "[I") (by decide +kernel)
  have lp : ∀ (n : Nat) (k : Nat), (k : Int) ≤ S.1 5 → S.1 5 - k < n → AW p l e (headSpec wsX3_countIn ({ frames := 0, cells := 0, slots := 0, locals := 0 } : Room)).room s m args below meth c 4 G A s.heap 0 0 (MQ below (QPi G (fun r u => r = cntN (S.2 2) z (S.1 5).toNat ∧ u = (WM G.2 am S P)) A) args s 0 0 A) (WM G.2 am S P) [(0, .ref (am 0)), (1, .int (zI z)), (2, .int (zI (cntN (S.2 2) z k))), (3, .int (zI k))] 4 [] := by
    intro n
    induction n with
    | zero =>
      intro k h1 h2
      exfalso
      omega
    | succ n ih =>
      intro k h1 h2
      refine aw_iload_n C dX3_countIn_4 rfl ?_
      refine aw_aload_n C dX3_countIn_5 rfl ?_
      refine aw_get (q0 := 0) (k := 7) C iFX3 k_48 rfl rfl rfl rfl dX3_countIn_6 ?_
      refine aw_icmp_ge (tgt := 36) C dX3_countIn_9 (by decide) (by omega) (by omega) (fun c9 => ?_) (fun c9 => ?_)
      · refine aw_iload_n C dX3_countIn_36 rfl ?_
        exact aw_iret C dX3_countIn_37 ⟨by rw [show (S.1 5).toNat = k by omega], rfl⟩
      · refine aw_iload_n C dX3_countIn_12 rfl ?_
        refine aw_aload_n C dX3_countIn_13 rfl ?_
        refine aw_get (q0 := 0) (k := 9) C iFX3 k_19 rfl rfl rfl rfl dX3_countIn_14 ?_
        refine aw_iload_n C dX3_countIn_17 rfl ?_
        refine aw_ldI (q0 := 4) C rfl (by omega) (by omega) rfl dX3_countIn_18 ?_
        have h7 := hp k (by omega) (by omega)
        refine aw_iload_n C dX3_countIn_19 rfl ?_
        refine aw_icmp_ne (tgt := 27) C dX3_countIn_20 (by decide) (by omega) (by omega) (fun c20 => ?_) (fun c20 => ?_)
        · refine aw_iconst C dX3_countIn_27 ?_
          refine aw_iadd C dX3_countIn_28 ?_
          refine aw_istore_n C dX3_countIn_29 rfl rfl ?_
          refine aw_iinc C dX3_countIn_30 rfl rfl rfl ?_
          refine aw_goto (tgt := 4) C dX3_countIn_33 (by decide) ?_
          first
          | (have e4 : cntN (S.2 2) z (k + 1) = cntN (S.2 2) z k + 1 := if_pos c20
             have h4 := ih (k + 1) (by omega) (by omega)
             rw [e4] at h4
             exact h4)
          | (have e4 : cntN (S.2 2) z (k + 1) = cntN (S.2 2) z k := if_neg c20
             have h4 := ih (k + 1) (by omega) (by omega)
             rw [e4] at h4
             rw [Int.add_zero]
             exact h4)
        · refine aw_iconst C dX3_countIn_23 ?_
          refine aw_goto (tgt := 28) C dX3_countIn_24 (by decide) ?_
          refine aw_iadd C dX3_countIn_28 ?_
          refine aw_istore_n C dX3_countIn_29 rfl rfl ?_
          refine aw_iinc C dX3_countIn_30 rfl rfl rfl ?_
          refine aw_goto (tgt := 4) C dX3_countIn_33 (by decide) ?_
          first
          | (have e4 : cntN (S.2 2) z (k + 1) = cntN (S.2 2) z k + 1 := if_pos c20
             have h4 := ih (k + 1) (by omega) (by omega)
             rw [e4] at h4
             exact h4)
          | (have e4 : cntN (S.2 2) z (k + 1) = cntN (S.2 2) z k := if_neg c20
             have h4 := ih (k + 1) (by omega) (by omega)
             rw [e4] at h4
             rw [Int.add_zero]
             exact h4)
  refine aw_iconst C dX3_countIn_0 ?_
  refine aw_istore_n C dX3_countIn_1 rfl rfl ?_
  refine aw_iconst C dX3_countIn_2 ?_
  refine aw_istore_n C dX3_countIn_3 rfl rfl ?_
  exact lp 100 0 (by omega) (by omega)
set_option maxHeartbeats 4000000 in
set_option maxRecDepth 100000 in
theorem c_X3_isFull {l : Launch} {G : va_G × (Nat → ClassId)} {am : Nat → Nat} {S P : St} (hI : Inv S) : Mi l G yX3_isFull wsX3_isFull ({ frames := 1, cells := 0, slots := 0, locals := 23 } : Room) [.ref (am 0)] (WM G.2 am S P) (fun r u => r = (if S.1 2 ≤ cnS S 10 then 1 else 0) ∧ u = (WM G.2 am S P)) := by
  refine Mi.of (own := RX3) (cc := cX3_isFull) (maxL := 1) (ret := (some .boolean)) (by decide) rfl rfl rfl ?_
  intro p e s m args below meth c A C hN
  have hts := C.2.2.2.2.1
  have iFX3 : ∀ w ∈ u_ws RX3 TX3 19, w ∈ wsX3_isFull := by decide +kernel
  have k_45 := hts (.fieldLink RX3 45 "PaintSequencerModel" "room" "I") (by decide +kernel)
  obtain ⟨hn, hz, hr, hc, hp, ha, hq, ht⟩ := id hI
  have h9 := cntN_b (S.2 2) 10 (S.1 5).toNat
  refine aw_aload_n C dX3_isFull_0 rfl ?_
  refine aw_bipush C dX3_isFull_1 rfl ?_
  refine cV1i (ci := 3) (q0 := 0) C hN (c_X3_countIn (by omega) hp (by omega)) (cwV 1 hts gX3_isFull_X3_countIn rfl rfl rfl (by decide +kernel) ⟨Nat.le_of_ble_eq_true rfl, Nat.le_of_ble_eq_true rfl⟩) rfl rfl rfl rfl dX3_isFull_3 ⟨Nat.zero_le _, Nat.zero_le _⟩ (fun r3 u3 q3 => ?_)
  obtain ⟨rfl, rfl⟩ := q3
  refine aw_aload_n C dX3_isFull_6 rfl ?_
  refine aw_get (q0 := 0) (k := 2) C iFX3 k_45 rfl rfl rfl rfl dX3_isFull_7 ?_
  refine aw_icmp_lt (tgt := 17) C dX3_isFull_10 (by decide) (by omega) (by omega) (fun c10 => ?_) (fun c10 => ?_)
  · refine aw_iconst C dX3_isFull_17 ?_
    exact aw_zret C dX3_isFull_18 rfl ⟨by unfold cnS; first | rw [if_pos (by omega)] | rw [if_neg (by omega)], rfl⟩
  · refine aw_iconst C dX3_isFull_13 ?_
    refine aw_goto (tgt := 18) C dX3_isFull_14 (by decide) ?_
    exact aw_zret C dX3_isFull_18 rfl ⟨by unfold cnS; first | rw [if_pos (by omega)] | rw [if_neg (by omega)], rfl⟩
set_option maxHeartbeats 4000000 in
set_option maxRecDepth 100000 in
theorem c_X3_head {l : Launch} {G : va_G × (Nat → ClassId)} {am : Nat → Nat} {S P : St} (hI : Inv S) {i : Int} (h0 : 0 ≤ i) (h5 : i < 5) : Mi l G yX3_head wsX3_head ({ frames := 0, cells := 0, slots := 0, locals := 0 } : Room) [.ref (am 0), .int (zI i)] (WM G.2 am S P) (fun r u => r = atS S i 0 ∧ u = (WM G.2 am S P)) := by
  refine Mi.of (own := RX3) (cc := cX3_head) (maxL := 2) (ret := (some .int)) (by decide) rfl rfl rfl ?_
  intro p e s m args below meth c A C hN
  have hts := C.2.2.2.2.1
  have iFX3 : ∀ w ∈ u_ws RX3 TX3 19, w ∈ wsX3_head := by decide +kernel
  have k_13 := hts (.fieldLink RX3 13 "PaintSequencerModel" "size" "[I") (by decide +kernel)
  have k_7 := hts (.fieldLink RX3 7 "PaintSequencerModel" "row" "[I") (by decide +kernel)
  obtain ⟨hn, hz, hr, hc, hp, ha, hq, ht⟩ := id hI
  have h9 := hz i h0 h5
  refine aw_aload_n C dX3_head_0 rfl ?_
  refine aw_get (q0 := 0) (k := 6) C iFX3 k_13 rfl rfl rfl rfl dX3_head_1 ?_
  refine aw_iload_n C dX3_head_4 rfl ?_
  refine aw_ldI (q0 := 2) C rfl (by omega) (by omega) rfl dX3_head_5 ?_
  refine aw_if_ne (tgt := 13) C dX3_head_6 (by decide) (by omega) (fun c6 => ?_) (fun c6 => ?_)
  · refine aw_aload_n C dX3_head_13 rfl ?_
    refine aw_get (q0 := 0) (k := 5) C iFX3 k_7 rfl rfl rfl rfl dX3_head_14 ?_
    refine aw_bipush C dX3_head_17 rfl ?_
    refine aw_iload_n C dX3_head_19 rfl ?_
    refine aw_imul C dX3_head_20 ?_
    refine aw_ldI (q0 := 1) C rfl (by omega) (by omega) rfl dX3_head_21 ?_
    exact aw_iret C dX3_head_22 ⟨by
      unfold atS
      first
      | rw [if_neg (by omega)]
      | rw [if_pos (by omega), rM (l := i) (k := 0) (by omega) h0 (by omega) (by omega)], rfl⟩
  · refine aw_iconst C dX3_head_9 ?_
    refine aw_goto (tgt := 22) C dX3_head_10 (by decide) ?_
    exact aw_iret C dX3_head_22 ⟨by
      unfold atS
      first
      | rw [if_neg (by omega)]
      | rw [if_pos (by omega), rM (l := i) (k := 0) (by omega) h0 (by omega) (by omega)], rfl⟩
set_option maxHeartbeats 4000000 in
set_option maxRecDepth 100000 in
theorem c_X3_blockOf {l : Launch} {G : va_G × (Nat → ClassId)} {am : Nat → Nat} {S P : St} (hI : Inv S) {i : Int} (h0 : 0 ≤ i) (h5 : i < 5) : Mi l G yX3_blockOf wsX3_blockOf ({ frames := 0, cells := 0, slots := 0, locals := 0 } : Room) [.ref (am 0), .int (zI i)] (WM G.2 am S P) (fun r u => r = blkS S i ∧ u = (WM G.2 am S P)) := by
  refine Mi.of (own := RX3) (cc := cX3_blockOf) (maxL := 3) (ret := (some .int)) (by decide) rfl rfl rfl ?_
  intro p e s m args below meth c A C hN
  have hts := C.2.2.2.2.1
  have iFX3 : ∀ w ∈ u_ws RX3 TX3 19, w ∈ wsX3_blockOf := by decide +kernel
  have k_13 := hts (.fieldLink RX3 13 "PaintSequencerModel" "size" "[I") (by decide +kernel)
  have k_16 := hts (.fieldLink RX3 16 "PaintSequencerModel" "colours" "[I") (by decide +kernel)
  have k_7 := hts (.fieldLink RX3 7 "PaintSequencerModel" "row" "[I") (by decide +kernel)
  obtain ⟨hn, hz, hr, hc, hp, ha, hq, ht⟩ := id hI
  have h9 := hz i h0 h5
  have lp : ∀ (n : Nat) (q : Int), 0 ≤ q → q ≤ S.2 0 i → S.2 0 i - q < n → blkS S i = blN (fun j => colS S (atS S i j)) (colS S (atS S i 0)) (S.2 0 i - q).toNat q → AW p l e (headSpec wsX3_blockOf ({ frames := 0, cells := 0, slots := 0, locals := 0 } : Room)).room s m args below meth c 3 G A s.heap 0 0 (MQ below (QPi G (fun r u => r = blkS S i ∧ u = (WM G.2 am S P)) A) args s 0 0 A) (WM G.2 am S P) [(0, .ref (am 0)), (1, .int (zI i)), (2, .int (zI q))] 2 [] := by
    intro n
    induction n with
    | zero =>
      intro q h1 h2 h3 h4
      exfalso
      omega
    | succ n ih =>
      intro q h1 h2 h3 h4
      refine aw_iload_n C dX3_blockOf_2 rfl ?_
      refine aw_aload_n C dX3_blockOf_3 rfl ?_
      refine aw_get (q0 := 0) (k := 6) C iFX3 k_13 rfl rfl rfl rfl dX3_blockOf_4 ?_
      refine aw_iload_n C dX3_blockOf_7 rfl ?_
      refine aw_ldI (q0 := 2) C rfl (by omega) (by omega) rfl dX3_blockOf_8 ?_
      refine aw_icmp_ge (tgt := 51) C dX3_blockOf_9 (by decide) (by omega) (by omega) (fun c9 => ?_) (fun c9 => ?_)
      · refine aw_iload_n C dX3_blockOf_51 rfl ?_
        exact aw_iret C dX3_blockOf_52 ⟨by
          rw [h4]
          first
          | (rw [show (S.2 0 i - q).toNat = (S.2 0 i - (q + 1)).toNat + 1 by omega]; exact (if_neg c42).symm)
          | (rw [show (S.2 0 i - q).toNat = 0 by omega]; rfl), rfl⟩
      · refine aw_aload_n C dX3_blockOf_12 rfl ?_
        refine aw_get (q0 := 0) (k := 8) C iFX3 k_16 rfl rfl rfl rfl dX3_blockOf_13 ?_
        refine aw_aload_n C dX3_blockOf_16 rfl ?_
        refine aw_get (q0 := 0) (k := 5) C iFX3 k_7 rfl rfl rfl rfl dX3_blockOf_17 ?_
        refine aw_bipush C dX3_blockOf_20 rfl ?_
        refine aw_iload_n C dX3_blockOf_22 rfl ?_
        refine aw_imul C dX3_blockOf_23 ?_
        refine aw_iload_n C dX3_blockOf_24 rfl ?_
        refine aw_iadd C dX3_blockOf_25 ?_
        refine aw_ldI (q0 := 1) C rfl (by omega) (by omega) rfl dX3_blockOf_26 ?_
        rw [rM (l := i) (k := q) rfl h0 h1 (by omega)]
        have h8 := hr i q h0 h5 h1 (by omega)
        have h7 := hc _ h8.1 h8.2
        have e7 : colS S (atS S i q) = S.2 1 (S.2 (10 + i.toNat) q) := colS_at hI h0 h5 h1 (by omega)
        refine aw_ldI (q0 := 3) C rfl (by omega) (by omega) rfl dX3_blockOf_27 ?_
        rw [← e7]
        refine aw_aload_n C dX3_blockOf_28 rfl ?_
        refine aw_get (q0 := 0) (k := 8) C iFX3 k_16 rfl rfl rfl rfl dX3_blockOf_29 ?_
        refine aw_aload_n C dX3_blockOf_32 rfl ?_
        refine aw_get (q0 := 0) (k := 5) C iFX3 k_7 rfl rfl rfl rfl dX3_blockOf_33 ?_
        refine aw_bipush C dX3_blockOf_36 rfl ?_
        refine aw_iload_n C dX3_blockOf_38 rfl ?_
        refine aw_imul C dX3_blockOf_39 ?_
        refine aw_ldI (q0 := 1) C rfl (by omega) (by omega) rfl dX3_blockOf_40 ?_
        rw [rM (l := i) (k := 0) (by omega) h0 (by omega) (by omega)]
        have g8 := hr i 0 h0 h5 (by omega) (by omega)
        have g7 := hc _ g8.1 g8.2
        have f7 : colS S (atS S i 0) = S.2 1 (S.2 (10 + i.toNat) 0) := colS_at hI h0 h5 (by omega) (by omega)
        refine aw_ldI (q0 := 3) C rfl (by omega) (by omega) rfl dX3_blockOf_41 ?_
        rw [← f7]
        refine aw_icmp_ne (tgt := 51) C dX3_blockOf_42 (by decide) (by omega) (by omega) (fun c42 => ?_) (fun c42 => ?_)
        · refine aw_iload_n C dX3_blockOf_51 rfl ?_
          exact aw_iret C dX3_blockOf_52 ⟨by
            rw [h4]
            first
            | (rw [show (S.2 0 i - q).toNat = (S.2 0 i - (q + 1)).toNat + 1 by omega]; exact (if_neg c42).symm)
            | (rw [show (S.2 0 i - q).toNat = 0 by omega]; rfl), rfl⟩
        · refine aw_iinc C dX3_blockOf_45 rfl rfl rfl ?_
          refine aw_goto (tgt := 2) C dX3_blockOf_48 (by decide) ?_
          refine ih (q + 1) (by omega) (by omega) (by omega) ?_
          rw [h4, show (S.2 0 i - q).toNat = (S.2 0 i - (q + 1)).toNat + 1 by omega]
          exact if_pos c42
  refine aw_iconst C dX3_blockOf_0 ?_
  refine aw_istore_n C dX3_blockOf_1 rfl rfl ?_
  exact lp 7 0 (by omega) (by omega) (by omega) (by rw [Int.sub_zero]; rfl)
