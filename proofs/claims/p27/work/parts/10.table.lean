/-! SETS OF COLOURS AS BITS -/
def mkb (b0 b1 b2 b3 b4 : Bool) : Int := (if b0 then 1 else 0) + (if b1 then 2 else 0) + (if b2 then 4 else 0) + (if b3 then 8 else 0) + (if b4 then 16 else 0)
def mskB (b : Int → Bool) : Int := mkb (b 0) (b 1) (b 2) (b 3) (b 4)
theorem mkb_b : ∀ b0 b1 b2 b3 b4 : Bool, 0 ≤ mkb b0 b1 b2 b3 b4 ∧ mkb b0 b1 b2 b3 b4 < 32 := by decide +kernel
theorem mskB_b (b : Int → Bool) : 0 ≤ mskB b ∧ mskB b < 32 := mkb_b _ _ _ _ _
theorem mkb_0 : ∀ b0 b1 b2 b3 b4 : Bool, mkb b0 b1 b2 b3 b4 = 0 → b0 = false ∧ b1 = false ∧ b2 = false ∧ b3 = false ∧ b4 = false := by decide +kernel
theorem mskB_0 {b : Int → Bool} (h : mskB b = 0) : ∀ c : Int, 0 ≤ c → c < 5 → b c = false := by
  obtain ⟨h0, h1, h2, h3, h4⟩ := mkb_0 _ _ _ _ _ h
  intro c g0 g5
  rcases i5 g0 g5 with rfl | rfl | rfl | rfl | rfl <;> assumption
theorem mskB_no : mskB (fun _ => false) = 0 := by decide +kernel
def sgl (c : Int) : Int → Bool := fun j => decide (j = c)
theorem shl_msk {c : Int} (h0 : 0 ≤ c) (h5 : c < 5) : zI 1 <<< (zI c &&& 31) = zI (mskB (sgl c)) := by
  rcases i5 h0 h5 with rfl | rfl | rfl | rfl | rfl <;> decide +kernel
theorem or_mkb : ∀ b0 b1 b2 b3 b4 d0 d1 d2 d3 d4 : Bool, zI (mkb b0 b1 b2 b3 b4) ||| zI (mkb d0 d1 d2 d3 d4) = zI (mkb (b0 || d0) (b1 || d1) (b2 || d2) (b3 || d3) (b4 || d4)) := by decide +kernel
theorem or_msk (b d : Int → Bool) : zI (mskB b) ||| zI (mskB d) = zI (mskB (fun c => b c || d c)) := or_mkb _ _ _ _ _ _ _ _ _ _
def bitI (b : Bool) : Int := if b then 1 else 0
theorem shr_mkb : ∀ b0 b1 b2 b3 b4 : Bool, (zI (mkb b0 b1 b2 b3 b4) >>> (zI 0 &&& 31)) &&& zI 1 = zI (bitI b0) ∧ (zI (mkb b0 b1 b2 b3 b4) >>> (zI 1 &&& 31)) &&& zI 1 = zI (bitI b1) ∧ (zI (mkb b0 b1 b2 b3 b4) >>> (zI 2 &&& 31)) &&& zI 1 = zI (bitI b2) ∧ (zI (mkb b0 b1 b2 b3 b4) >>> (zI 3 &&& 31)) &&& zI 1 = zI (bitI b3) ∧ (zI (mkb b0 b1 b2 b3 b4) >>> (zI 4 &&& 31)) &&& zI 1 = zI (bitI b4) := by decide +kernel
theorem shr_msk (b : Int → Bool) {c : Int} (h0 : 0 ≤ c) (h5 : c < 5) : (zI (mskB b) >>> (zI c &&& 31)) &&& zI 1 = zI (bitI (b c)) := by
  obtain ⟨e0, e1, e2, e3, e4⟩ := shr_mkb (b 0) (b 1) (b 2) (b 3) (b 4)
  rcases i5 h0 h5 with rfl | rfl | rfl | rfl | rfl <;> assumption
theorem zI_i (x : Int32) : ∃ z : Int, (-2147483648 ≤ z ∧ z < 2147483648) ∧ x = zI z := ⟨x.toInt, zI_rng x, (zI_self x).symm⟩
section AWB
variable {p : Program} {l : Launch} {e : Env} {R : Room} {s : State} {m : MethodId} {args : Array Value} {below : List Frame} {meth : Method} {c : Code} {nL : Nat} {G : va_G × (Nat → ClassId)} {A : Nat → Prop} {H0 : Heap} {cells slots : Nat} {Q : State → Prop}
variable {cc : ByteArray} {ret : Option FieldType} {Ts : List Cond} {own : String} {ws : va_W} {lv : List (Nat × Value)} {pc : Nat} {st : List Value}
theorem aw_ishl (C : cx p l s m args meth c cc nL ret Ts own G A H0) {x y z : Int} (hd : decode cc pc = .ok (.ishl, 1)) (hz : zI x <<< (zI y &&& 31) = zI z) (k : AW p l e R s m args below meth c nL G A H0 cells slots Q ws lv (pc + 1) (.int (zI z) :: st)) : AW p l e R s m args below meth c nL G A H0 cells slots Q ws lv pc (.int (zI y) :: .int (zI x) :: st) :=
  fun H locs ls hP hD hS hl => lv_ishl C.1 C.2.1 hd (by rw [hz]; exact k H locs ls hP hD hS hl)
theorem aw_ior (C : cx p l s m args meth c cc nL ret Ts own G A H0) {x y z : Int} (hd : decode cc pc = .ok (.ior, 1)) (hz : zI x ||| zI y = zI z) (k : AW p l e R s m args below meth c nL G A H0 cells slots Q ws lv (pc + 1) (.int (zI z) :: st)) : AW p l e R s m args below meth c nL G A H0 cells slots Q ws lv pc (.int (zI y) :: .int (zI x) :: st) :=
  fun H locs ls hP hD hS hl => lv_ior C.1 C.2.1 hd (by rw [hz]; exact k H locs ls hP hD hS hl)
/-- a shift to the right with a mask of one bit behind it -/
theorem aw_ishr (C : cx p l s m args meth c cc nL ret Ts own G A H0) {x y : Int} (hd : decode cc pc = .ok (.ishr, 1)) (k : AW p l e R s m args below meth c nL G A H0 cells slots Q ws lv (pc + 1) (.int (zI x >>> (zI y &&& 31)) :: st)) : AW p l e R s m args below meth c nL G A H0 cells slots Q ws lv pc (.int (zI y) :: .int (zI x) :: st) :=
  fun H locs ls hP hD hS hl => lv_ishr C.1 C.2.1 hd (k H locs ls hP hD hS hl)
theorem aw_iand (C : cx p l s m args meth c cc nL ret Ts own G A H0) {x : Int32} {y z : Int} (hd : decode cc pc = .ok (.iand, 1)) (hz : x &&& zI y = zI z) (k : AW p l e R s m args below meth c nL G A H0 cells slots Q ws lv (pc + 1) (.int (zI z) :: st)) : AW p l e R s m args below meth c nL G A H0 cells slots Q ws lv pc (.int (zI y) :: .int x :: st) :=
  fun H locs ls hP hD hS hl => lv_iand C.1 C.2.1 hd (by rw [hz]; exact k H locs ls hP hD hS hl)
end AWB
/-! THE TABLE -/
def ffv (L : Int) (b : Int → Bool) (c : Int) : Int := if c = -1 ∨ mskB b = 0 ∨ b c = true then L else L + 1
theorem ffv_b {L : Int} {b : Int → Bool} {c : Int} : L ≤ ffv L b c ∧ ffv L b c ≤ L + 1 := by unfold ffv; split <;> omega
def lsN (P : St) : Nat → St
  | 0 => P
  | n + 1 => ua (lsN P n) 7 n (stN (P.2 5) n)
theorem lsN_n (P : St) {a : Nat} (h : a ≠ 7) : ∀ n : Nat, (lsN P n).2 a = P.2 a
  | 0 => rfl
  | n + 1 => by show (ua (lsN P n) 7 n (stN (P.2 5) n)).2 a = _; rw [ua_m _ _ _ _ h]; exact lsN_n P h n
theorem lsN_at (P : St) : ∀ (n : Nat) (i : Int), 0 ≤ i → i < n → (lsN P n).2 7 i = stN (P.2 5) i.toNat
  | 0, i, h0, h1 => by omega
  | n + 1, i, h0, h1 => by
    show (ua (lsN P n) 7 n (stN (P.2 5) n)).2 7 i = _
    rw [ua_s]
    split
    · rename_i e
      subst e
      rfl
    · exact lsN_at P n i h0 (by omega)
def rsN (P : St) : Nat → St
  | 0 => P
  | n + 1 => ua (rsN P n) 6 n (P.2 5 n)
theorem rsN_n (P : St) {a : Nat} (h : a ≠ 6) : ∀ n : Nat, (rsN P n).2 a = P.2 a
  | 0 => rfl
  | n + 1 => by show (ua (rsN P n) 6 n (P.2 5 n)).2 a = _; rw [ua_m _ _ _ _ h]; exact rsN_n P h n
theorem rsN_at (P : St) : ∀ (n : Nat) (i : Int), 0 ≤ i → (rsN P n).2 6 i = if i < n then P.2 5 i else P.2 6 i
  | 0, i, h0 => by rw [if_neg (by omega)]; rfl
  | n + 1, i, h0 => by
    show (ua (rsN P n) 6 n (P.2 5 n)).2 6 i = _
    rw [ua_s, rsN_at P n i h0]
    by_cases e : i = n
    · rw [if_pos e, if_pos (by omega), e]
    · rw [if_neg e]
      by_cases e2 : i < n
      · rw [if_pos e2, if_pos (by omega)]
      · rw [if_neg e2, if_neg (by omega)]
/-- the set of colours that the least one can begin with, as the class gathers it -/
def bkN (p : Int → Bool) (col A : Int → Int) : Nat → Int → Bool
  | 0 => fun _ => false
  | n + 1 => if p n = true then (if A n < mnL p A n then sgl (col n) else if A n = mnL p A n then (fun c => bkN p col A n c || sgl (col n) c) else bkN p col A n) else bkN p col A n
theorem mnL_1 {p : Int → Bool} {g : Int → Int} {n : Nat} (h : p n = true) (h2 : g n < mnL p g n) : mnL p g (n + 1) = g n := if_pos ⟨h, h2⟩
theorem mnL_2 {p : Int → Bool} {g : Int → Int} {n : Nat} (h : ¬ g n < mnL p g n) : mnL p g (n + 1) = mnL p g n := if_neg (fun x => h x.2)
theorem mnL_3 {p : Int → Bool} {g : Int → Int} {n : Nat} (h : p n = false) : mnL p g (n + 1) = mnL p g n := if_neg (fun x => by rw [h] at x; exact absurd x.1 (by decide))
theorem bkN_iff {p : Int → Bool} {col A : Int → Int} : ∀ (n : Nat) (c : Int), bkN p col A n c = true ↔ ∃ k : Int, 0 ≤ k ∧ k < n ∧ p k = true ∧ col k = c ∧ A k = mnL p A n
  | 0, c => ⟨fun h => (by cases h), fun ⟨k, h0, h1, _⟩ => by omega⟩
  | n + 1, c => by
    have ih := bkN_iff (p := p) (col := col) (A := A) n c
    by_cases hp : p n = true
    · by_cases h1 : A n < mnL p A n
      · rw [mnL_1 hp h1]
        have e : bkN p col A (n + 1) = sgl (col n) := by show (if p n = true then _ else _) = _; rw [if_pos hp, if_pos h1]
        rw [e]
        unfold sgl
        rw [decide_eq_true_iff]
        refine ⟨fun h => ⟨n, by omega, by omega, hp, h.symm, rfl⟩, fun ⟨k, k0, k1, k2, k3, k4⟩ => ?_⟩
        by_cases e2 : k = n
        · rw [← k3, e2]
        · have := mnL_le (p := p) (g := A) (n := n) k0 (by omega) k2
          omega
      · rw [mnL_2 h1]
        by_cases h2 : A n = mnL p A n
        · have e : bkN p col A (n + 1) = fun c => bkN p col A n c || sgl (col n) c := by show (if p n = true then _ else _) = _; rw [if_pos hp, if_neg h1, if_pos h2]
          rw [e]
          dsimp only
          rw [Bool.or_eq_true, ih]
          unfold sgl
          rw [decide_eq_true_iff]
          refine ⟨fun h => ?_, fun ⟨k, k0, k1, k2, k3, k4⟩ => ?_⟩
          · rcases h with ⟨k, k0, k1, k2⟩ | h
            · exact ⟨k, k0, by omega, k2⟩
            · exact ⟨n, by omega, by omega, hp, h.symm, h2⟩
          · by_cases e2 : k = n
            · exact Or.inr (by rw [← k3, e2])
            · exact Or.inl ⟨k, k0, by omega, k2, k3, k4⟩
        · have e : bkN p col A (n + 1) = bkN p col A n := by show (if p n = true then _ else _) = _; rw [if_pos hp, if_neg h1, if_neg h2]
          rw [e, ih]
          refine ⟨fun ⟨k, k0, k1, k2⟩ => ⟨k, k0, by omega, k2⟩, fun ⟨k, k0, k1, k2, k3, k4⟩ => ?_⟩
          by_cases e2 : k = n
          · rw [e2] at k4; exact absurd k4 h2
          · exact ⟨k, k0, by omega, k2, k3, k4⟩
    · have hp2 : p n = false := by simpa using hp
      rw [mnL_3 hp2]
      have e : bkN p col A (n + 1) = bkN p col A n := by show (if p n = true then _ else _) = _; rw [if_neg hp]
      rw [e, ih]
      refine ⟨fun ⟨k, k0, k1, k2⟩ => ⟨k, k0, by omega, k2⟩, fun ⟨k, k0, k1, k2, k3, k4⟩ => ?_⟩
      by_cases e2 : k = n
      · rw [e2] at k2; exact absurd k2 hp
      · exact ⟨k, k0, by omega, k2, k3, k4⟩
theorem bkN_0 {p : Int → Bool} {col A : Int → Int} {n : Nat} (hc : ∀ k : Int, 0 ≤ k → k < n → p k = true → 0 ≤ col k ∧ col k < 5) (hA : ∀ k : Int, 0 ≤ k → k < n → p k = true → A k < 1000) : mskB (bkN p col A n) = 0 ↔ mnL p A n = 1000 := by
  constructor
  · intro h
    rcases mnL_at p A n with e | ⟨k, k0, k1, k2, k3⟩
    · exact e
    · have h1 := mskB_0 h (col k) (hc k k0 k1 k2).1 (hc k k0 k1 k2).2
      have h2 := (bkN_iff (p := p) (col := col) (A := A) n (col k)).mpr ⟨k, k0, k1, k2, rfl, k3.symm⟩
      rw [h1] at h2
      cases h2
  · intro h
    have e : bkN p col A n = fun _ => false := by
      funext c
      cases hb : bkN p col A n c with
      | false => rfl
      | true =>
        obtain ⟨k, k0, k1, k2, k3, k4⟩ := (bkN_iff n c).mp hb
        have := hA k k0 k1 k2
        omega
    rw [e]
    exact mskB_no
/-- what the class keeps of the least one -/
def lsV (p : Int → Bool) (A : Int → Int) (n : Nat) : Int := if mnL p A n = 1000 then 0 else mnL p A n

set_option maxHeartbeats 4000000 in
set_option maxRecDepth 100000 in
theorem c_X1_fewestFrom {l : Launch} {G : va_G × (Nat → ClassId)} {ad : Nat → Nat} {S P : St} {x c9 : Int} {b : Int → Bool} (hx : 0 ≤ x ∧ x < 432) (hc9 : -1 ≤ c9 ∧ c9 ≤ 4) (h8 : 0 ≤ P.2 8 x ∧ P.2 8 x ≤ 100) (h9 : P.2 9 x = mskB b) : Mi l G yX1_fewestFrom wsX1_fewestFrom ({ frames := 0, cells := 0, slots := 0, locals := 0 } : Room) [.ref (ad 16), .int (zI x), .int (zI c9)] (WX G.2 ad S P) (fun r u => r = ffv (P.2 8 x) b c9 ∧ u = (WX G.2 ad S P)) := by
  refine Mi.of (own := RX1) (cc := cX1_fewestFrom) (maxL := 5) (ret := (some .int)) (by decide) rfl rfl rfl ?_
  intro p e s m args below meth c A C hN
  have hts := C.2.2.2.2.1
  have iFX1 : ∀ w ∈ u_ws RX1 TX1 6, w ∈ wsX1_fewestFrom := by decide +kernel
  have k_29 := hts (.fieldLink RX1 29 "PaintSequencer$Plan" "starts" "[I") (by decide +kernel)
  have k_26 := hts (.fieldLink RX1 26 "PaintSequencer$Plan" "leasts" "[I") (by decide +kernel)
  refine aw_iload_n C dX1_fewestFrom_0 rfl ?_
  refine aw_if_lt (tgt := 11) C dX1_fewestFrom_1 (by decide) (by omega) (fun c1 => ?_) (fun c1 => ?_)
  · exfalso
    omega
  · refine aw_iload_n C dX1_fewestFrom_4 rfl ?_
    refine aw_sipush C dX1_fewestFrom_5 rfl ?_
    refine aw_icmp_lt (tgt := 13) C dX1_fewestFrom_8 (by decide) (by omega) (by omega) (fun c8 => ?_) (fun c8 => ?_)
    · refine aw_iload_n C dX1_fewestFrom_13 rfl ?_
      refine aw_iconst C dX1_fewestFrom_14 ?_
      refine aw_icmp_eq (tgt := 27) C dX1_fewestFrom_15 (by decide) (by omega) (by omega) (fun c15 => ?_) (fun c15 => ?_)
      · refine aw_iconst C dX1_fewestFrom_27 ?_
        refine aw_goto (tgt := 32) C dX1_fewestFrom_28 (by decide) ?_
        refine aw_istore_n C dX1_fewestFrom_32 rfl rfl ?_
        refine aw_iload_n C dX1_fewestFrom_33 rfl ?_
        refine aw_if_ne (tgt := 51) C dX1_fewestFrom_34 (by decide) (by omega) (fun c34 => ?_) (fun c34 => ?_)
        · refine aw_iconst C dX1_fewestFrom_51 ?_
          refine aw_goto (tgt := 56) C dX1_fewestFrom_52 (by decide) ?_
          refine aw_istore C dX1_fewestFrom_56 rfl rfl ?_
          refine aw_iload C dX1_fewestFrom_58 rfl ?_
          refine aw_if_eq (tgt := 72) C dX1_fewestFrom_60 (by decide) (by omega) (fun c60 => ?_) (fun c60 => ?_)
          · refine aw_aload_n C dX1_fewestFrom_72 rfl ?_
            refine aw_get (q0 := 16) (k := 4) C iFX1 k_26 rfl rfl rfl rfl dX1_fewestFrom_73 ?_
            refine aw_iload_n C dX1_fewestFrom_76 rfl ?_
            refine aw_ldI (q0 := 26) C rfl (by omega) (by omega) rfl dX1_fewestFrom_77 ?_
            refine aw_iconst C dX1_fewestFrom_78 ?_
            refine aw_iadd C dX1_fewestFrom_79 ?_
            exact aw_iret C dX1_fewestFrom_80 ⟨by
              unfold ffv
              first
              | (exfalso; omega)
              | rw [if_pos (Or.inl c15)]
              | rw [if_pos (Or.inr (Or.inl c24))]
              | rw [if_pos (Or.inr (Or.inr hb))]
              | (rw [if_neg]; rintro (h | h | h); exact c15 h; exact c24 h; exact hb h), rfl⟩
          · refine aw_aload_n C dX1_fewestFrom_63 rfl ?_
            refine aw_get (q0 := 16) (k := 4) C iFX1 k_26 rfl rfl rfl rfl dX1_fewestFrom_64 ?_
            refine aw_iload_n C dX1_fewestFrom_67 rfl ?_
            refine aw_ldI (q0 := 26) C rfl (by omega) (by omega) rfl dX1_fewestFrom_68 ?_
            refine aw_goto (tgt := 80) C dX1_fewestFrom_69 (by decide) ?_
            exact aw_iret C dX1_fewestFrom_80 ⟨by
              unfold ffv
              first
              | (exfalso; omega)
              | rw [if_pos (Or.inl c15)]
              | rw [if_pos (Or.inr (Or.inl c24))]
              | rw [if_pos (Or.inr (Or.inr hb))]
              | (rw [if_neg]; rintro (h | h | h); exact c15 h; exact c24 h; exact hb h), rfl⟩
        · refine aw_aload_n C dX1_fewestFrom_37 rfl ?_
          refine aw_get (q0 := 16) (k := 5) C iFX1 k_29 rfl rfl rfl rfl dX1_fewestFrom_38 ?_
          refine aw_iload_n C dX1_fewestFrom_41 rfl ?_
          refine aw_ldI (q0 := 27) C rfl (by omega) (by omega) rfl dX1_fewestFrom_42 ?_
          rw [h9]
          refine aw_iload_n C dX1_fewestFrom_43 rfl ?_
          refine aw_ishr C dX1_fewestFrom_44  ?_
          refine aw_iconst C dX1_fewestFrom_45 ?_
          refine aw_iand C dX1_fewestFrom_46 (shr_msk b (by omega) (by omega)) ?_
          refine aw_iconst C dX1_fewestFrom_47 ?_
          refine aw_icmp_ne (tgt := 55) C dX1_fewestFrom_48 (by decide) (by unfold bitI; split <;> omega) (by omega) (fun c48 => ?_) (fun c48 => ?_)
          · have hb : ¬ b c9 = true := fun h => c48 (by unfold bitI; rw [if_pos h])
            refine aw_iconst C dX1_fewestFrom_55 ?_
            refine aw_istore C dX1_fewestFrom_56 rfl rfl ?_
            refine aw_iload C dX1_fewestFrom_58 rfl ?_
            refine aw_if_eq (tgt := 72) C dX1_fewestFrom_60 (by decide) (by omega) (fun c60 => ?_) (fun c60 => ?_)
            · refine aw_aload_n C dX1_fewestFrom_72 rfl ?_
              refine aw_get (q0 := 16) (k := 4) C iFX1 k_26 rfl rfl rfl rfl dX1_fewestFrom_73 ?_
              refine aw_iload_n C dX1_fewestFrom_76 rfl ?_
              refine aw_ldI (q0 := 26) C rfl (by omega) (by omega) rfl dX1_fewestFrom_77 ?_
              refine aw_iconst C dX1_fewestFrom_78 ?_
              refine aw_iadd C dX1_fewestFrom_79 ?_
              exact aw_iret C dX1_fewestFrom_80 ⟨by
                unfold ffv
                first
                | (exfalso; omega)
                | rw [if_pos (Or.inl c15)]
                | rw [if_pos (Or.inr (Or.inl c24))]
                | rw [if_pos (Or.inr (Or.inr hb))]
                | (rw [if_neg]; rintro (h | h | h); exact c15 h; exact c24 h; exact hb h), rfl⟩
            · refine aw_aload_n C dX1_fewestFrom_63 rfl ?_
              refine aw_get (q0 := 16) (k := 4) C iFX1 k_26 rfl rfl rfl rfl dX1_fewestFrom_64 ?_
              refine aw_iload_n C dX1_fewestFrom_67 rfl ?_
              refine aw_ldI (q0 := 26) C rfl (by omega) (by omega) rfl dX1_fewestFrom_68 ?_
              refine aw_goto (tgt := 80) C dX1_fewestFrom_69 (by decide) ?_
              exact aw_iret C dX1_fewestFrom_80 ⟨by
                unfold ffv
                first
                | (exfalso; omega)
                | rw [if_pos (Or.inl c15)]
                | rw [if_pos (Or.inr (Or.inl c24))]
                | rw [if_pos (Or.inr (Or.inr hb))]
                | (rw [if_neg]; rintro (h | h | h); exact c15 h; exact c24 h; exact hb h), rfl⟩
          · have hb : b c9 = true := by
              cases h : b c9 with
              | true => rfl
              | false => rw [h] at c48; exact absurd c48 (by decide)
            refine aw_iconst C dX1_fewestFrom_51 ?_
            refine aw_goto (tgt := 56) C dX1_fewestFrom_52 (by decide) ?_
            refine aw_istore C dX1_fewestFrom_56 rfl rfl ?_
            refine aw_iload C dX1_fewestFrom_58 rfl ?_
            refine aw_if_eq (tgt := 72) C dX1_fewestFrom_60 (by decide) (by omega) (fun c60 => ?_) (fun c60 => ?_)
            · refine aw_aload_n C dX1_fewestFrom_72 rfl ?_
              refine aw_get (q0 := 16) (k := 4) C iFX1 k_26 rfl rfl rfl rfl dX1_fewestFrom_73 ?_
              refine aw_iload_n C dX1_fewestFrom_76 rfl ?_
              refine aw_ldI (q0 := 26) C rfl (by omega) (by omega) rfl dX1_fewestFrom_77 ?_
              refine aw_iconst C dX1_fewestFrom_78 ?_
              refine aw_iadd C dX1_fewestFrom_79 ?_
              exact aw_iret C dX1_fewestFrom_80 ⟨by
                unfold ffv
                first
                | (exfalso; omega)
                | rw [if_pos (Or.inl c15)]
                | rw [if_pos (Or.inr (Or.inl c24))]
                | rw [if_pos (Or.inr (Or.inr hb))]
                | (rw [if_neg]; rintro (h | h | h); exact c15 h; exact c24 h; exact hb h), rfl⟩
            · refine aw_aload_n C dX1_fewestFrom_63 rfl ?_
              refine aw_get (q0 := 16) (k := 4) C iFX1 k_26 rfl rfl rfl rfl dX1_fewestFrom_64 ?_
              refine aw_iload_n C dX1_fewestFrom_67 rfl ?_
              refine aw_ldI (q0 := 26) C rfl (by omega) (by omega) rfl dX1_fewestFrom_68 ?_
              refine aw_goto (tgt := 80) C dX1_fewestFrom_69 (by decide) ?_
              exact aw_iret C dX1_fewestFrom_80 ⟨by
                unfold ffv
                first
                | (exfalso; omega)
                | rw [if_pos (Or.inl c15)]
                | rw [if_pos (Or.inr (Or.inl c24))]
                | rw [if_pos (Or.inr (Or.inr hb))]
                | (rw [if_neg]; rintro (h | h | h); exact c15 h; exact c24 h; exact hb h), rfl⟩
      · refine aw_aload_n C dX1_fewestFrom_18 rfl ?_
        refine aw_get (q0 := 16) (k := 5) C iFX1 k_29 rfl rfl rfl rfl dX1_fewestFrom_19 ?_
        refine aw_iload_n C dX1_fewestFrom_22 rfl ?_
        refine aw_ldI (q0 := 27) C rfl (by omega) (by omega) rfl dX1_fewestFrom_23 ?_
        rw [h9]
        have hm := mskB_b b
        refine aw_if_ne (tgt := 31) C dX1_fewestFrom_24 (by decide) (by omega) (fun c24 => ?_) (fun c24 => ?_)
        · refine aw_iconst C dX1_fewestFrom_31 ?_
          refine aw_istore_n C dX1_fewestFrom_32 rfl rfl ?_
          refine aw_iload_n C dX1_fewestFrom_33 rfl ?_
          refine aw_if_ne (tgt := 51) C dX1_fewestFrom_34 (by decide) (by omega) (fun c34 => ?_) (fun c34 => ?_)
          · refine aw_iconst C dX1_fewestFrom_51 ?_
            refine aw_goto (tgt := 56) C dX1_fewestFrom_52 (by decide) ?_
            refine aw_istore C dX1_fewestFrom_56 rfl rfl ?_
            refine aw_iload C dX1_fewestFrom_58 rfl ?_
            refine aw_if_eq (tgt := 72) C dX1_fewestFrom_60 (by decide) (by omega) (fun c60 => ?_) (fun c60 => ?_)
            · refine aw_aload_n C dX1_fewestFrom_72 rfl ?_
              refine aw_get (q0 := 16) (k := 4) C iFX1 k_26 rfl rfl rfl rfl dX1_fewestFrom_73 ?_
              refine aw_iload_n C dX1_fewestFrom_76 rfl ?_
              refine aw_ldI (q0 := 26) C rfl (by omega) (by omega) rfl dX1_fewestFrom_77 ?_
              refine aw_iconst C dX1_fewestFrom_78 ?_
              refine aw_iadd C dX1_fewestFrom_79 ?_
              exact aw_iret C dX1_fewestFrom_80 ⟨by
                unfold ffv
                first
                | (exfalso; omega)
                | rw [if_pos (Or.inl c15)]
                | rw [if_pos (Or.inr (Or.inl c24))]
                | rw [if_pos (Or.inr (Or.inr hb))]
                | (rw [if_neg]; rintro (h | h | h); exact c15 h; exact c24 h; exact hb h), rfl⟩
            · refine aw_aload_n C dX1_fewestFrom_63 rfl ?_
              refine aw_get (q0 := 16) (k := 4) C iFX1 k_26 rfl rfl rfl rfl dX1_fewestFrom_64 ?_
              refine aw_iload_n C dX1_fewestFrom_67 rfl ?_
              refine aw_ldI (q0 := 26) C rfl (by omega) (by omega) rfl dX1_fewestFrom_68 ?_
              refine aw_goto (tgt := 80) C dX1_fewestFrom_69 (by decide) ?_
              exact aw_iret C dX1_fewestFrom_80 ⟨by
                unfold ffv
                first
                | (exfalso; omega)
                | rw [if_pos (Or.inl c15)]
                | rw [if_pos (Or.inr (Or.inl c24))]
                | rw [if_pos (Or.inr (Or.inr hb))]
                | (rw [if_neg]; rintro (h | h | h); exact c15 h; exact c24 h; exact hb h), rfl⟩
          · refine aw_aload_n C dX1_fewestFrom_37 rfl ?_
            refine aw_get (q0 := 16) (k := 5) C iFX1 k_29 rfl rfl rfl rfl dX1_fewestFrom_38 ?_
            refine aw_iload_n C dX1_fewestFrom_41 rfl ?_
            refine aw_ldI (q0 := 27) C rfl (by omega) (by omega) rfl dX1_fewestFrom_42 ?_
            rw [h9]
            refine aw_iload_n C dX1_fewestFrom_43 rfl ?_
            refine aw_ishr C dX1_fewestFrom_44  ?_
            refine aw_iconst C dX1_fewestFrom_45 ?_
            refine aw_iand C dX1_fewestFrom_46 (shr_msk b (by omega) (by omega)) ?_
            refine aw_iconst C dX1_fewestFrom_47 ?_
            refine aw_icmp_ne (tgt := 55) C dX1_fewestFrom_48 (by decide) (by unfold bitI; split <;> omega) (by omega) (fun c48 => ?_) (fun c48 => ?_)
            · have hb : ¬ b c9 = true := fun h => c48 (by unfold bitI; rw [if_pos h])
              refine aw_iconst C dX1_fewestFrom_55 ?_
              refine aw_istore C dX1_fewestFrom_56 rfl rfl ?_
              refine aw_iload C dX1_fewestFrom_58 rfl ?_
              refine aw_if_eq (tgt := 72) C dX1_fewestFrom_60 (by decide) (by omega) (fun c60 => ?_) (fun c60 => ?_)
              · refine aw_aload_n C dX1_fewestFrom_72 rfl ?_
                refine aw_get (q0 := 16) (k := 4) C iFX1 k_26 rfl rfl rfl rfl dX1_fewestFrom_73 ?_
                refine aw_iload_n C dX1_fewestFrom_76 rfl ?_
                refine aw_ldI (q0 := 26) C rfl (by omega) (by omega) rfl dX1_fewestFrom_77 ?_
                refine aw_iconst C dX1_fewestFrom_78 ?_
                refine aw_iadd C dX1_fewestFrom_79 ?_
                exact aw_iret C dX1_fewestFrom_80 ⟨by
                  unfold ffv
                  first
                  | (exfalso; omega)
                  | rw [if_pos (Or.inl c15)]
                  | rw [if_pos (Or.inr (Or.inl c24))]
                  | rw [if_pos (Or.inr (Or.inr hb))]
                  | (rw [if_neg]; rintro (h | h | h); exact c15 h; exact c24 h; exact hb h), rfl⟩
              · refine aw_aload_n C dX1_fewestFrom_63 rfl ?_
                refine aw_get (q0 := 16) (k := 4) C iFX1 k_26 rfl rfl rfl rfl dX1_fewestFrom_64 ?_
                refine aw_iload_n C dX1_fewestFrom_67 rfl ?_
                refine aw_ldI (q0 := 26) C rfl (by omega) (by omega) rfl dX1_fewestFrom_68 ?_
                refine aw_goto (tgt := 80) C dX1_fewestFrom_69 (by decide) ?_
                exact aw_iret C dX1_fewestFrom_80 ⟨by
                  unfold ffv
                  first
                  | (exfalso; omega)
                  | rw [if_pos (Or.inl c15)]
                  | rw [if_pos (Or.inr (Or.inl c24))]
                  | rw [if_pos (Or.inr (Or.inr hb))]
                  | (rw [if_neg]; rintro (h | h | h); exact c15 h; exact c24 h; exact hb h), rfl⟩
            · have hb : b c9 = true := by
                cases h : b c9 with
                | true => rfl
                | false => rw [h] at c48; exact absurd c48 (by decide)
              refine aw_iconst C dX1_fewestFrom_51 ?_
              refine aw_goto (tgt := 56) C dX1_fewestFrom_52 (by decide) ?_
              refine aw_istore C dX1_fewestFrom_56 rfl rfl ?_
              refine aw_iload C dX1_fewestFrom_58 rfl ?_
              refine aw_if_eq (tgt := 72) C dX1_fewestFrom_60 (by decide) (by omega) (fun c60 => ?_) (fun c60 => ?_)
              · refine aw_aload_n C dX1_fewestFrom_72 rfl ?_
                refine aw_get (q0 := 16) (k := 4) C iFX1 k_26 rfl rfl rfl rfl dX1_fewestFrom_73 ?_
                refine aw_iload_n C dX1_fewestFrom_76 rfl ?_
                refine aw_ldI (q0 := 26) C rfl (by omega) (by omega) rfl dX1_fewestFrom_77 ?_
                refine aw_iconst C dX1_fewestFrom_78 ?_
                refine aw_iadd C dX1_fewestFrom_79 ?_
                exact aw_iret C dX1_fewestFrom_80 ⟨by
                  unfold ffv
                  first
                  | (exfalso; omega)
                  | rw [if_pos (Or.inl c15)]
                  | rw [if_pos (Or.inr (Or.inl c24))]
                  | rw [if_pos (Or.inr (Or.inr hb))]
                  | (rw [if_neg]; rintro (h | h | h); exact c15 h; exact c24 h; exact hb h), rfl⟩
              · refine aw_aload_n C dX1_fewestFrom_63 rfl ?_
                refine aw_get (q0 := 16) (k := 4) C iFX1 k_26 rfl rfl rfl rfl dX1_fewestFrom_64 ?_
                refine aw_iload_n C dX1_fewestFrom_67 rfl ?_
                refine aw_ldI (q0 := 26) C rfl (by omega) (by omega) rfl dX1_fewestFrom_68 ?_
                refine aw_goto (tgt := 80) C dX1_fewestFrom_69 (by decide) ?_
                exact aw_iret C dX1_fewestFrom_80 ⟨by
                  unfold ffv
                  first
                  | (exfalso; omega)
                  | rw [if_pos (Or.inl c15)]
                  | rw [if_pos (Or.inr (Or.inl c24))]
                  | rw [if_pos (Or.inr (Or.inr hb))]
                  | (rw [if_neg]; rintro (h | h | h); exact c15 h; exact c24 h; exact hb h), rfl⟩
        · refine aw_iconst C dX1_fewestFrom_27 ?_
          refine aw_goto (tgt := 32) C dX1_fewestFrom_28 (by decide) ?_
          refine aw_istore_n C dX1_fewestFrom_32 rfl rfl ?_
          refine aw_iload_n C dX1_fewestFrom_33 rfl ?_
          refine aw_if_ne (tgt := 51) C dX1_fewestFrom_34 (by decide) (by omega) (fun c34 => ?_) (fun c34 => ?_)
          · refine aw_iconst C dX1_fewestFrom_51 ?_
            refine aw_goto (tgt := 56) C dX1_fewestFrom_52 (by decide) ?_
            refine aw_istore C dX1_fewestFrom_56 rfl rfl ?_
            refine aw_iload C dX1_fewestFrom_58 rfl ?_
            refine aw_if_eq (tgt := 72) C dX1_fewestFrom_60 (by decide) (by omega) (fun c60 => ?_) (fun c60 => ?_)
            · refine aw_aload_n C dX1_fewestFrom_72 rfl ?_
              refine aw_get (q0 := 16) (k := 4) C iFX1 k_26 rfl rfl rfl rfl dX1_fewestFrom_73 ?_
              refine aw_iload_n C dX1_fewestFrom_76 rfl ?_
              refine aw_ldI (q0 := 26) C rfl (by omega) (by omega) rfl dX1_fewestFrom_77 ?_
              refine aw_iconst C dX1_fewestFrom_78 ?_
              refine aw_iadd C dX1_fewestFrom_79 ?_
              exact aw_iret C dX1_fewestFrom_80 ⟨by
                unfold ffv
                first
                | (exfalso; omega)
                | rw [if_pos (Or.inl c15)]
                | rw [if_pos (Or.inr (Or.inl c24))]
                | rw [if_pos (Or.inr (Or.inr hb))]
                | (rw [if_neg]; rintro (h | h | h); exact c15 h; exact c24 h; exact hb h), rfl⟩
            · refine aw_aload_n C dX1_fewestFrom_63 rfl ?_
              refine aw_get (q0 := 16) (k := 4) C iFX1 k_26 rfl rfl rfl rfl dX1_fewestFrom_64 ?_
              refine aw_iload_n C dX1_fewestFrom_67 rfl ?_
              refine aw_ldI (q0 := 26) C rfl (by omega) (by omega) rfl dX1_fewestFrom_68 ?_
              refine aw_goto (tgt := 80) C dX1_fewestFrom_69 (by decide) ?_
              exact aw_iret C dX1_fewestFrom_80 ⟨by
                unfold ffv
                first
                | (exfalso; omega)
                | rw [if_pos (Or.inl c15)]
                | rw [if_pos (Or.inr (Or.inl c24))]
                | rw [if_pos (Or.inr (Or.inr hb))]
                | (rw [if_neg]; rintro (h | h | h); exact c15 h; exact c24 h; exact hb h), rfl⟩
          · refine aw_aload_n C dX1_fewestFrom_37 rfl ?_
            refine aw_get (q0 := 16) (k := 5) C iFX1 k_29 rfl rfl rfl rfl dX1_fewestFrom_38 ?_
            refine aw_iload_n C dX1_fewestFrom_41 rfl ?_
            refine aw_ldI (q0 := 27) C rfl (by omega) (by omega) rfl dX1_fewestFrom_42 ?_
            rw [h9]
            refine aw_iload_n C dX1_fewestFrom_43 rfl ?_
            refine aw_ishr C dX1_fewestFrom_44  ?_
            refine aw_iconst C dX1_fewestFrom_45 ?_
            refine aw_iand C dX1_fewestFrom_46 (shr_msk b (by omega) (by omega)) ?_
            refine aw_iconst C dX1_fewestFrom_47 ?_
            refine aw_icmp_ne (tgt := 55) C dX1_fewestFrom_48 (by decide) (by unfold bitI; split <;> omega) (by omega) (fun c48 => ?_) (fun c48 => ?_)
            · have hb : ¬ b c9 = true := fun h => c48 (by unfold bitI; rw [if_pos h])
              refine aw_iconst C dX1_fewestFrom_55 ?_
              refine aw_istore C dX1_fewestFrom_56 rfl rfl ?_
              refine aw_iload C dX1_fewestFrom_58 rfl ?_
              refine aw_if_eq (tgt := 72) C dX1_fewestFrom_60 (by decide) (by omega) (fun c60 => ?_) (fun c60 => ?_)
              · refine aw_aload_n C dX1_fewestFrom_72 rfl ?_
                refine aw_get (q0 := 16) (k := 4) C iFX1 k_26 rfl rfl rfl rfl dX1_fewestFrom_73 ?_
                refine aw_iload_n C dX1_fewestFrom_76 rfl ?_
                refine aw_ldI (q0 := 26) C rfl (by omega) (by omega) rfl dX1_fewestFrom_77 ?_
                refine aw_iconst C dX1_fewestFrom_78 ?_
                refine aw_iadd C dX1_fewestFrom_79 ?_
                exact aw_iret C dX1_fewestFrom_80 ⟨by
                  unfold ffv
                  first
                  | (exfalso; omega)
                  | rw [if_pos (Or.inl c15)]
                  | rw [if_pos (Or.inr (Or.inl c24))]
                  | rw [if_pos (Or.inr (Or.inr hb))]
                  | (rw [if_neg]; rintro (h | h | h); exact c15 h; exact c24 h; exact hb h), rfl⟩
              · refine aw_aload_n C dX1_fewestFrom_63 rfl ?_
                refine aw_get (q0 := 16) (k := 4) C iFX1 k_26 rfl rfl rfl rfl dX1_fewestFrom_64 ?_
                refine aw_iload_n C dX1_fewestFrom_67 rfl ?_
                refine aw_ldI (q0 := 26) C rfl (by omega) (by omega) rfl dX1_fewestFrom_68 ?_
                refine aw_goto (tgt := 80) C dX1_fewestFrom_69 (by decide) ?_
                exact aw_iret C dX1_fewestFrom_80 ⟨by
                  unfold ffv
                  first
                  | (exfalso; omega)
                  | rw [if_pos (Or.inl c15)]
                  | rw [if_pos (Or.inr (Or.inl c24))]
                  | rw [if_pos (Or.inr (Or.inr hb))]
                  | (rw [if_neg]; rintro (h | h | h); exact c15 h; exact c24 h; exact hb h), rfl⟩
            · have hb : b c9 = true := by
                cases h : b c9 with
                | true => rfl
                | false => rw [h] at c48; exact absurd c48 (by decide)
              refine aw_iconst C dX1_fewestFrom_51 ?_
              refine aw_goto (tgt := 56) C dX1_fewestFrom_52 (by decide) ?_
              refine aw_istore C dX1_fewestFrom_56 rfl rfl ?_
              refine aw_iload C dX1_fewestFrom_58 rfl ?_
              refine aw_if_eq (tgt := 72) C dX1_fewestFrom_60 (by decide) (by omega) (fun c60 => ?_) (fun c60 => ?_)
              · refine aw_aload_n C dX1_fewestFrom_72 rfl ?_
                refine aw_get (q0 := 16) (k := 4) C iFX1 k_26 rfl rfl rfl rfl dX1_fewestFrom_73 ?_
                refine aw_iload_n C dX1_fewestFrom_76 rfl ?_
                refine aw_ldI (q0 := 26) C rfl (by omega) (by omega) rfl dX1_fewestFrom_77 ?_
                refine aw_iconst C dX1_fewestFrom_78 ?_
                refine aw_iadd C dX1_fewestFrom_79 ?_
                exact aw_iret C dX1_fewestFrom_80 ⟨by
                  unfold ffv
                  first
                  | (exfalso; omega)
                  | rw [if_pos (Or.inl c15)]
                  | rw [if_pos (Or.inr (Or.inl c24))]
                  | rw [if_pos (Or.inr (Or.inr hb))]
                  | (rw [if_neg]; rintro (h | h | h); exact c15 h; exact c24 h; exact hb h), rfl⟩
              · refine aw_aload_n C dX1_fewestFrom_63 rfl ?_
                refine aw_get (q0 := 16) (k := 4) C iFX1 k_26 rfl rfl rfl rfl dX1_fewestFrom_64 ?_
                refine aw_iload_n C dX1_fewestFrom_67 rfl ?_
                refine aw_ldI (q0 := 26) C rfl (by omega) (by omega) rfl dX1_fewestFrom_68 ?_
                refine aw_goto (tgt := 80) C dX1_fewestFrom_69 (by decide) ?_
                exact aw_iret C dX1_fewestFrom_80 ⟨by
                  unfold ffv
                  first
                  | (exfalso; omega)
                  | rw [if_pos (Or.inl c15)]
                  | rw [if_pos (Or.inr (Or.inl c24))]
                  | rw [if_pos (Or.inr (Or.inr hb))]
                  | (rw [if_neg]; rintro (h | h | h); exact c15 h; exact c24 h; exact hb h), rfl⟩
    · exfalso
      omega
set_option maxHeartbeats 4000000 in
set_option maxRecDepth 100000 in
theorem c_X1_layStrides {l : Launch} {G : va_G × (Nat → ClassId)} {ad : Nat → Nat} {S P : St} (h5 : 1 ≤ stN (P.2 5) 5 ∧ stN (P.2 5) 5 ≤ 432) : Mi l G yX1_layStrides wsX1_layStrides ({ frames := 0, cells := 0, slots := 0, locals := 0 } : Room) [.ref (ad 16)] (WX G.2 ad S P) (fun r u => r = stN (P.2 5) 5 ∧ u = WX G.2 ad S (lsN P 5)) := by
  refine Mi.of (own := RX1) (cc := cX1_layStrides) (maxL := 3) (ret := (some .int)) (by decide) rfl rfl rfl ?_
  intro p e s m args below meth c A C hN
  have hts := C.2.2.2.2.1
  have iFX1 : ∀ w ∈ u_ws RX1 TX1 6, w ∈ wsX1_layStrides := by decide +kernel
  have k_23 := hts (.fieldLink RX1 23 "PaintSequencer$Plan" "strides" "[I") (by decide +kernel)
  have k_16 := hts (.fieldLink RX1 16 "PaintSequencer$Plan" "sizes" "[I") (by decide +kernel)
  have lp : ∀ (n : Nat) (k : Nat), (k : Int) ≤ 5 → 5 - (k : Int) < n → AW p l e (headSpec wsX1_layStrides ({ frames := 0, cells := 0, slots := 0, locals := 0 } : Room)).room s m args below meth c 3 G A s.heap 0 0 (MQ below (QPi G (fun r u => r = stN (P.2 5) 5 ∧ u = WX G.2 ad S (lsN P 5)) A) args s 0 0 A) (WX G.2 ad S (lsN P k)) [(0, .ref (ad 16)), (1, .int (zI (stN (P.2 5) k))), (2, .int (zI k))] 4 [] := by
    intro n
    induction n with
    | zero =>
      intro k h1 h2
      exfalso
      omega
    | succ n ih =>
      intro k h1 h2
      refine aw_iload_n C dX1_layStrides_4 rfl ?_
      refine aw_iconst C dX1_layStrides_5 ?_
      refine aw_icmp_ge (tgt := 33) C dX1_layStrides_6 (by decide) (by omega) (by omega) (fun c6 => ?_) (fun c6 => ?_)
      · have e5 : k = 5 := by omega
        subst e5
        refine aw_iload_n C dX1_layStrides_33 rfl ?_
        refine aw_sipush C dX1_layStrides_34 rfl ?_
        refine aw_icmp_ge (tgt := 44) C dX1_layStrides_37 (by decide) (by omega) (by omega) (fun c37 => ?_) (fun c37 => ?_)
        · refine aw_sipush C dX1_layStrides_44 rfl ?_
          exact aw_iret C dX1_layStrides_47 ⟨by omega, rfl⟩
        · refine aw_iload_n C dX1_layStrides_40 rfl ?_
          refine aw_goto (tgt := 47) C dX1_layStrides_41 (by decide) ?_
          exact aw_iret C dX1_layStrides_47 ⟨by omega, rfl⟩
      · refine aw_aload_n C dX1_layStrides_9 rfl ?_
        refine aw_get (q0 := 16) (k := 3) C iFX1 k_23 rfl rfl rfl rfl dX1_layStrides_10 ?_
        refine aw_iload_n C dX1_layStrides_13 rfl ?_
        refine aw_iload_n C dX1_layStrides_14 rfl ?_
        refine aw_stI (q0 := 25) C rfl (by omega) (by omega) rfl (wx_a25 _ _ _ _ _ _) dX1_layStrides_15 ?_
        refine aw_iload_n C dX1_layStrides_16 rfl ?_
        refine aw_aload_n C dX1_layStrides_17 rfl ?_
        refine aw_get (q0 := 16) (k := 1) C iFX1 k_16 rfl rfl rfl rfl dX1_layStrides_18 ?_
        refine aw_iload_n C dX1_layStrides_21 rfl ?_
        refine aw_ldI (q0 := 23) C rfl (by omega) (by omega) rfl dX1_layStrides_22 ?_
        have e7 : (ua (lsN P k) 7 k (stN (P.2 5) k)).2 5 k = P.2 5 k := congrFun (lsN_n P (by decide) (k + 1)) k
        rw [e7]
        refine aw_iconst C dX1_layStrides_23 ?_
        refine aw_iadd C dX1_layStrides_24 ?_
        refine aw_imul C dX1_layStrides_25 ?_
        refine aw_istore_n C dX1_layStrides_26 rfl rfl ?_
        refine aw_iinc C dX1_layStrides_27 rfl rfl rfl ?_
        refine aw_goto (tgt := 4) C dX1_layStrides_30 (by decide) ?_
        exact ih (k + 1) (by omega) (by omega)
  refine aw_iconst C dX1_layStrides_0 ?_
  refine aw_istore_n C dX1_layStrides_1 rfl rfl ?_
  refine aw_iconst C dX1_layStrides_2 ?_
  refine aw_istore_n C dX1_layStrides_3 rfl rfl ?_
  exact lp 6 0 (by omega) (by omega)
set_option maxHeartbeats 4000000 in
set_option maxRecDepth 100000 in
theorem c_X1_stepBack {l : Launch} {G : va_G × (Nat → ClassId)} {ad : Nat → Nat} {S P : St} (hT : ∀ i : Int, 0 ≤ i → i < 5 → (0 ≤ P.2 6 i ∧ P.2 6 i ≤ 6) ∧ (0 ≤ P.2 5 i ∧ P.2 5 i ≤ 6)) : Mv l G yX1_stepBack wsX1_stepBack ({ frames := 0, cells := 0, slots := 0, locals := 0 } : Room) [.ref (ad 16)] (WX G.2 ad S P) (fun u => ∃ k : Nat, k ≤ 5 ∧ (∀ j : Int, 0 ≤ j → j < k → P.2 6 j ≤ 0) ∧ (k < 5 → 0 < P.2 6 k) ∧ u = WX G.2 ad S (if k = 5 then rsN P 5 else ua (rsN P k) 6 k (P.2 6 k - 1))) := by
  refine Mv.of (own := RX1) (cc := cX1_stepBack) (maxL := 2) (ret := none) (by decide) rfl rfl rfl ?_
  intro p e s m args below meth c A C hN
  have hts := C.2.2.2.2.1
  have iFX1 : ∀ w ∈ u_ws RX1 TX1 6, w ∈ wsX1_stepBack := by decide +kernel
  have k_20 := hts (.fieldLink RX1 20 "PaintSequencer$Plan" "taken" "[I") (by decide +kernel)
  have k_16 := hts (.fieldLink RX1 16 "PaintSequencer$Plan" "sizes" "[I") (by decide +kernel)
  have lp : ∀ (n : Nat) (k : Nat), (k : Int) ≤ 5 → 5 - (k : Int) < n → (∀ j : Int, 0 ≤ j → j < k → P.2 6 j ≤ 0) → AW p l e (headSpec wsX1_stepBack ({ frames := 0, cells := 0, slots := 0, locals := 0 } : Room)).room s m args below meth c 2 G A s.heap 0 0 (MQ below (QPv G (fun u => ∃ k : Nat, k ≤ 5 ∧ (∀ j : Int, 0 ≤ j → j < k → P.2 6 j ≤ 0) ∧ (k < 5 → 0 < P.2 6 k) ∧ u = WX G.2 ad S (if k = 5 then rsN P 5 else ua (rsN P k) 6 k (P.2 6 k - 1))) A) args s 0 0 A) (WX G.2 ad S (rsN P k)) [(0, .ref (ad 16)), (1, .int (zI k))] 2 [] := by
    intro n
    induction n with
    | zero =>
      intro k h1 h2 h3
      exfalso
      omega
    | succ n ih =>
      intro k h1 h2 h3
      refine aw_iload_n C dX1_stepBack_2 rfl ?_
      refine aw_iconst C dX1_stepBack_3 ?_
      refine aw_icmp_ge (tgt := 45) C dX1_stepBack_4 (by decide) (by omega) (by omega) (fun c4 => ?_) (fun c4 => ?_)
      · exact aw_vret C dX1_stepBack_45 ⟨5, by omega, fun j g0 g1 => h3 j g0 (by omega), fun h => by omega, by rw [if_pos rfl, show k = 5 by omega]⟩
      · have h4 := hT k (by omega) (by omega)
        have e6 : (rsN P k).2 6 k = P.2 6 k := by rw [rsN_at P k k (by omega), if_neg (by omega)]
        have e5 : (rsN P k).2 5 k = P.2 5 k := by rw [rsN_n P (by decide) k]
        refine aw_aload_n C dX1_stepBack_7 rfl ?_
        refine aw_get (q0 := 16) (k := 2) C iFX1 k_20 rfl rfl rfl rfl dX1_stepBack_8 ?_
        refine aw_iload_n C dX1_stepBack_11 rfl ?_
        refine aw_ldI (q0 := 24) C rfl (by omega) (by omega) rfl dX1_stepBack_12 ?_
        refine aw_if_le (tgt := 27) C dX1_stepBack_13 (by decide) (by omega) (fun c13 => ?_) (fun c13 => ?_)
        · refine aw_aload_n C dX1_stepBack_27 rfl ?_
          refine aw_get (q0 := 16) (k := 2) C iFX1 k_20 rfl rfl rfl rfl dX1_stepBack_28 ?_
          refine aw_iload_n C dX1_stepBack_31 rfl ?_
          refine aw_aload_n C dX1_stepBack_32 rfl ?_
          refine aw_get (q0 := 16) (k := 1) C iFX1 k_16 rfl rfl rfl rfl dX1_stepBack_33 ?_
          refine aw_iload_n C dX1_stepBack_36 rfl ?_
          refine aw_ldI (q0 := 23) C rfl (by omega) (by omega) rfl dX1_stepBack_37 ?_
          refine aw_stI (q0 := 24) C rfl (by omega) (by omega) rfl (wx_a24 _ _ _ _ _ _) dX1_stepBack_38 ?_
          refine aw_iinc C dX1_stepBack_39 rfl rfl rfl ?_
          refine aw_goto (tgt := 2) C dX1_stepBack_42 (by decide) ?_
          rw [e5]
          exact ih (k + 1) (by omega) (by omega) (fun j g0 g1 => by
            by_cases e : j = k
            · rw [e, ← e6]; exact c13
            · exact h3 j g0 (by omega))
        · refine aw_aload_n C dX1_stepBack_16 rfl ?_
          refine aw_get (q0 := 16) (k := 2) C iFX1 k_20 rfl rfl rfl rfl dX1_stepBack_17 ?_
          refine aw_iload_n C dX1_stepBack_20 rfl ?_
          refine aw_dup2 C dX1_stepBack_21 rfl rfl ?_
          refine aw_ldI (q0 := 24) C rfl (by omega) (by omega) rfl dX1_stepBack_22 ?_
          refine aw_iconst C dX1_stepBack_23 ?_
          refine aw_isub C dX1_stepBack_24 ?_
          refine aw_stI (q0 := 24) C rfl (by omega) (by omega) rfl (wx_a24 _ _ _ _ _ _) dX1_stepBack_25 ?_
          exact aw_vret C dX1_stepBack_26 ⟨k, by omega, h3, fun _ => by omega, by rw [if_neg (by omega), e6]⟩
  refine aw_iconst C dX1_stepBack_0 ?_
  refine aw_istore_n C dX1_stepBack_1 rfl rfl ?_
  exact lp 6 0 (by omega) (by omega) (fun j g0 g1 => by omega)
set_option maxHeartbeats 4000000 in
set_option maxRecDepth 100000 in
theorem c_X1_fillState {l : Launch} {G : va_G × (Nat → ClassId)} {ad : Nat → Nat} {S P : St} {x : Int} {F : Int → Int} {bF : Int → Int → Bool} (hx : 0 ≤ x ∧ x < 432) (hT : ∀ i : Int, 0 ≤ i → i < 5 → (0 ≤ P.2 6 i ∧ P.2 6 i ≤ 6) ∧ (0 ≤ P.2 5 i ∧ P.2 5 i ≤ 6)) (hF : ∀ i : Int, 0 ≤ i → i < 5 → P.2 6 i < P.2 5 i → (0 ≤ x + P.2 7 i ∧ x + P.2 7 i < 432) ∧ ((0 ≤ P.2 8 (x + P.2 7 i) ∧ P.2 8 (x + P.2 7 i) ≤ 100) ∧ P.2 9 (x + P.2 7 i) = mskB (bF i)) ∧ ffv (P.2 8 (x + P.2 7 i)) (bF i) (P.2 i.toNat (P.2 6 i)) = F i ∧ (0 ≤ P.2 i.toNat (P.2 6 i) ∧ P.2 i.toNat (P.2 6 i) < 5) ∧ (0 ≤ F i ∧ F i ≤ 101)) : Mv l G yX1_fillState wsX1_fillState ({ frames := 1, cells := 0, slots := 0, locals := 24 } : Room) [.ref (ad 16), .int (zI x)] (WX G.2 ad S P) (fun u => u = WX G.2 ad S (ua (ua P 8 x (lsV (fun i => decide (P.2 6 i < P.2 5 i)) F 5)) 9 x (mskB (bkN (fun i => decide (P.2 6 i < P.2 5 i)) (fun i => P.2 i.toNat (P.2 6 i)) F 5)))) := by
  refine Mv.of (own := RX1) (cc := cX1_fillState) (maxL := 7) (ret := none) (by decide) rfl rfl rfl ?_
  intro p e s m args below meth c A C hN
  have hts := C.2.2.2.2.1
  have iFX1 : ∀ w ∈ u_ws RX1 TX1 6, w ∈ wsX1_fillState := by decide +kernel
  have k_20 := hts (.fieldLink RX1 20 "PaintSequencer$Plan" "taken" "[I") (by decide +kernel)
  have k_16 := hts (.fieldLink RX1 16 "PaintSequencer$Plan" "sizes" "[I") (by decide +kernel)
  have k_11 := hts (.fieldLink RX1 11 "PaintSequencer$Plan" "waiting" "[[I") (by decide +kernel)
  have k_23 := hts (.fieldLink RX1 23 "PaintSequencer$Plan" "strides" "[I") (by decide +kernel)
  have k_26 := hts (.fieldLink RX1 26 "PaintSequencer$Plan" "leasts" "[I") (by decide +kernel)
  have k_29 := hts (.fieldLink RX1 29 "PaintSequencer$Plan" "starts" "[I") (by decide +kernel)
  have hlsb : ∀ k : Nat, (k : Int) ≤ 5 → -1 ≤ lsV (fun i => decide (P.2 6 i < P.2 5 i)) F k ∧ lsV (fun i => decide (P.2 6 i < P.2 5 i)) F k ≤ 1000 := by
    intro k hk
    unfold lsV
    split
    · omega
    · rename_i h
      rcases mnL_at (fun i => decide (P.2 6 i < P.2 5 i)) F k with e | ⟨j, j0, j1, j2, j3⟩
      · exact absurd e h
      · have := (hF j j0 (by omega) (of_decide_eq_true j2)).2.2.2.2
        omega
  have lp : ∀ (n : Nat) (k : Nat), (k : Int) ≤ 5 → 5 - (k : Int) < n → AW p l e (headSpec wsX1_fillState ({ frames := 1, cells := 0, slots := 0, locals := 24 } : Room)).room s m args below meth c 7 G A s.heap 0 0 (MQ below (QPv G (fun u => u = WX G.2 ad S (ua (ua P 8 x (lsV (fun i => decide (P.2 6 i < P.2 5 i)) F 5)) 9 x (mskB (bkN (fun i => decide (P.2 6 i < P.2 5 i)) (fun i => P.2 i.toNat (P.2 6 i)) F 5)))) A) args s 0 0 A) (WX G.2 ad S P) [(0, .ref (ad 16)), (1, .int (zI x)), (2, .int (zI (lsV (fun i => decide (P.2 6 i < P.2 5 i)) F k))), (3, .int (zI (mskB (bkN (fun i => decide (P.2 6 i < P.2 5 i)) (fun i => P.2 i.toNat (P.2 6 i)) F k)))), (4, .int (zI k))] 7 [] := by
    intro n
    induction n with
    | zero =>
      intro k h1 h2
      exfalso
      omega
    | succ n ih =>
      intro k h1 h2
      refine aw_iload C dX1_fillState_7 rfl ?_
      refine aw_iconst C dX1_fillState_9 ?_
      refine aw_icmp_ge (tgt := 104) C dX1_fillState_10 (by decide) (by omega) (by omega) (fun c10 => ?_) (fun c10 => ?_)
      · have e5 : k = 5 := by omega
        subst e5
        refine aw_aload_n C dX1_fillState_104 rfl ?_
        refine aw_get (q0 := 16) (k := 4) C iFX1 k_26 rfl rfl rfl rfl dX1_fillState_105 ?_
        refine aw_iload_n C dX1_fillState_108 rfl ?_
        refine aw_iload_n C dX1_fillState_109 rfl ?_
        refine aw_stI (q0 := 26) C rfl (by omega) (by omega) rfl (wx_a26 _ _ _ _ _ _) dX1_fillState_110 ?_
        refine aw_aload_n C dX1_fillState_111 rfl ?_
        refine aw_get (q0 := 16) (k := 5) C iFX1 k_29 rfl rfl rfl rfl dX1_fillState_112 ?_
        refine aw_iload_n C dX1_fillState_115 rfl ?_
        refine aw_iload_n C dX1_fillState_116 rfl ?_
        refine aw_stI (q0 := 27) C rfl (by omega) (by omega) rfl (wx_a27 _ _ _ _ _ _) dX1_fillState_117 ?_
        exact aw_vret C dX1_fillState_118 rfl
      · have h4 := hT k (by omega) (by omega)
        refine aw_aload_n C dX1_fillState_13 rfl ?_
        refine aw_get (q0 := 16) (k := 2) C iFX1 k_20 rfl rfl rfl rfl dX1_fillState_14 ?_
        refine aw_iload C dX1_fillState_17 rfl ?_
        refine aw_ldI (q0 := 24) C rfl (by omega) (by omega) rfl dX1_fillState_19 ?_
        refine aw_aload_n C dX1_fillState_20 rfl ?_
        refine aw_get (q0 := 16) (k := 1) C iFX1 k_16 rfl rfl rfl rfl dX1_fillState_21 ?_
        refine aw_iload C dX1_fillState_24 rfl ?_
        refine aw_ldI (q0 := 23) C rfl (by omega) (by omega) rfl dX1_fillState_26 ?_
        refine aw_icmp_ge (tgt := 98) C dX1_fillState_27 (by decide) (by omega) (by omega) (fun c27 => ?_) (fun c27 => ?_)
        · refine aw_iinc C dX1_fillState_98 rfl rfl rfl ?_
          refine aw_goto (tgt := 7) C dX1_fillState_101 (by decide) ?_
          have h8 := ih (k + 1) (by omega) (by omega)
          have hz9 := bkN_0 (p := (fun i => decide (P.2 6 i < P.2 5 i))) (col := (fun i => P.2 i.toNat (P.2 6 i))) (A := F) (n := k) (fun i g0 g1 g2 => (hF i g0 (by omega) (of_decide_eq_true g2)).2.2.2.1) (fun i g0 g1 g2 => by have := (hF i g0 (by omega) (of_decide_eq_true g2)).2.2.2.2; omega)
          by_cases hav : P.2 6 k < P.2 5 k
          · have hp9 : (fun i => decide (P.2 6 i < P.2 5 i)) k = true := decide_eq_true hav
            have hF9 := hF k (by omega) (by omega) hav
            by_cases hl : F k < mnL (fun i => decide (P.2 6 i < P.2 5 i)) F k
            · have e2 : lsV (fun i => decide (P.2 6 i < P.2 5 i)) F (k + 1) = F k := by unfold lsV; rw [mnL_1 hp9 hl, if_neg (by omega)]
              have e3 : bkN (fun i => decide (P.2 6 i < P.2 5 i)) (fun i => P.2 i.toNat (P.2 6 i)) F (k + 1) = sgl ((fun i => P.2 i.toNat (P.2 6 i)) k) := by show (if (fun i => decide (P.2 6 i < P.2 5 i)) k = true then _ else _) = _; rw [if_pos hp9, if_pos hl]
              rw [e2, e3] at h8
              first
              | (refine aw_less ?_ h8; exact fun q hq => List.mem_of_mem_take (i := 5) hq)
              | (exfalso
                 by_cases hm9 : mnL (fun i => decide (P.2 6 i < P.2 5 i)) F k = 1000
                 · exact absurd (hz9.mpr hm9) (by omega)
                 · have e9 : lsV (fun i => decide (P.2 6 i < P.2 5 i)) F k = mnL (fun i => decide (P.2 6 i < P.2 5 i)) F k := if_neg hm9
                   omega)
              | (exfalso; omega)
            · by_cases hl2 : F k = mnL (fun i => decide (P.2 6 i < P.2 5 i)) F k
              · have hm9 : ¬ mnL (fun i => decide (P.2 6 i < P.2 5 i)) F k = 1000 := by omega
                have hm8 : ¬ mskB (bkN (fun i => decide (P.2 6 i < P.2 5 i)) (fun i => P.2 i.toNat (P.2 6 i)) F k) = 0 := fun h => hm9 (hz9.mp h)
                have e9 : lsV (fun i => decide (P.2 6 i < P.2 5 i)) F k = mnL (fun i => decide (P.2 6 i < P.2 5 i)) F k := if_neg hm9
                have e2 : lsV (fun i => decide (P.2 6 i < P.2 5 i)) F (k + 1) = lsV (fun i => decide (P.2 6 i < P.2 5 i)) F k := by unfold lsV; rw [mnL_2 hl]
                have e3 : bkN (fun i => decide (P.2 6 i < P.2 5 i)) (fun i => P.2 i.toNat (P.2 6 i)) F (k + 1) = fun c => bkN (fun i => decide (P.2 6 i < P.2 5 i)) (fun i => P.2 i.toNat (P.2 6 i)) F k c || sgl ((fun i => P.2 i.toNat (P.2 6 i)) k) c := by show (if (fun i => decide (P.2 6 i < P.2 5 i)) k = true then _ else _) = _; rw [if_pos hp9, if_neg hl, if_pos hl2]
                rw [e2, e3] at h8
                first
                | (refine aw_less ?_ h8; exact fun q hq => List.mem_of_mem_take (i := 5) hq)
                | (exfalso; omega)
              · have hm9 : ¬ mnL (fun i => decide (P.2 6 i < P.2 5 i)) F k = 1000 := by omega
                have hm8 : ¬ mskB (bkN (fun i => decide (P.2 6 i < P.2 5 i)) (fun i => P.2 i.toNat (P.2 6 i)) F k) = 0 := fun h => hm9 (hz9.mp h)
                have e9 : lsV (fun i => decide (P.2 6 i < P.2 5 i)) F k = mnL (fun i => decide (P.2 6 i < P.2 5 i)) F k := if_neg hm9
                have e2 : lsV (fun i => decide (P.2 6 i < P.2 5 i)) F (k + 1) = lsV (fun i => decide (P.2 6 i < P.2 5 i)) F k := by unfold lsV; rw [mnL_2 hl]
                have e3 : bkN (fun i => decide (P.2 6 i < P.2 5 i)) (fun i => P.2 i.toNat (P.2 6 i)) F (k + 1) = bkN (fun i => decide (P.2 6 i < P.2 5 i)) (fun i => P.2 i.toNat (P.2 6 i)) F k := by show (if (fun i => decide (P.2 6 i < P.2 5 i)) k = true then _ else _) = _; rw [if_pos hp9, if_neg hl, if_neg hl2]
                rw [e2, e3] at h8
                first
                | (refine aw_less ?_ h8; exact fun q hq => List.mem_of_mem_take (i := 5) hq)
                | (exfalso; omega)
          · have hp9 : (fun i => decide (P.2 6 i < P.2 5 i)) k = false := decide_eq_false hav
            have e2 : lsV (fun i => decide (P.2 6 i < P.2 5 i)) F (k + 1) = lsV (fun i => decide (P.2 6 i < P.2 5 i)) F k := by unfold lsV; rw [mnL_3 hp9]
            have e3 : bkN (fun i => decide (P.2 6 i < P.2 5 i)) (fun i => P.2 i.toNat (P.2 6 i)) F (k + 1) = bkN (fun i => decide (P.2 6 i < P.2 5 i)) (fun i => P.2 i.toNat (P.2 6 i)) F k := by show (if (fun i => decide (P.2 6 i < P.2 5 i)) k = true then _ else _) = _; rw [if_neg (by rw [hp9]; decide)]
            rw [e2, e3] at h8
            first
            | (refine aw_less ?_ h8; exact fun q hq => List.mem_of_mem_take (i := 5) hq)
            | (exfalso; omega)
        · have hF1 := hF k (by omega) (by omega) c27
          have hm1 := mskB_b (bkN (fun i => decide (P.2 6 i < P.2 5 i)) (fun i => P.2 i.toNat (P.2 6 i)) F k)
          have hl1 : -1 ≤ lsV (fun i => decide (P.2 6 i < P.2 5 i)) F k ∧ lsV (fun i => decide (P.2 6 i < P.2 5 i)) F k ≤ 1000 := hlsb k (by omega)
          refine aw_aload_n C dX1_fillState_30 rfl ?_
          refine aw_get (q0 := 16) (k := 0) C iFX1 k_11 rfl rfl rfl rfl dX1_fillState_31 ?_
          refine aw_iload C dX1_fillState_34 rfl ?_
          refine aw_aldA (q0 := 17) C rfl (by omega) (by omega) rfl rfl dX1_fillState_36 ?_
          refine aw_aload_n C dX1_fillState_37 rfl ?_
          refine aw_get (q0 := 16) (k := 2) C iFX1 k_20 rfl rfl rfl rfl dX1_fillState_38 ?_
          refine aw_iload C dX1_fillState_41 rfl ?_
          refine aw_ldI (q0 := 24) C rfl (by omega) (by omega) rfl dX1_fillState_43 ?_
          refine aw_ldI  C (wx_wrow (by omega) (by omega)) (by omega) (by omega) rfl dX1_fillState_44 ?_
          refine aw_istore C dX1_fillState_45 rfl rfl ?_
          refine aw_aload_n C dX1_fillState_47 rfl ?_
          refine aw_iload_n C dX1_fillState_48 rfl ?_
          refine aw_aload_n C dX1_fillState_49 rfl ?_
          refine aw_get (q0 := 16) (k := 3) C iFX1 k_23 rfl rfl rfl rfl dX1_fillState_50 ?_
          refine aw_iload C dX1_fillState_53 rfl ?_
          refine aw_ldI (q0 := 25) C rfl (by omega) (by omega) rfl dX1_fillState_55 ?_
          refine aw_iadd C dX1_fillState_56 ?_
          refine aw_iload C dX1_fillState_57 rfl ?_
          refine cV2i (ci := 1) (q0 := 16) C hN (c_X1_fewestFrom hF1.1 (by omega) hF1.2.1.1 hF1.2.1.2) (cwV 2 hts gX1_fillState_X1_fewestFrom rfl rfl rfl (by decide +kernel) ⟨Nat.le_of_ble_eq_true rfl, Nat.le_of_ble_eq_true rfl⟩) rfl rfl rfl rfl dX1_fillState_59 ⟨Nat.zero_le _, Nat.zero_le _⟩ (fun r59 u59 q59 => ?_)
          obtain ⟨rfl, rfl⟩ := q59
          rw [hF1.2.2.1]
          refine aw_istore C dX1_fillState_62 rfl rfl ?_
          refine aw_iload_n C dX1_fillState_64 rfl ?_
          refine aw_if_eq (tgt := 74) C dX1_fillState_65 (by decide) (by omega) (fun c65 => ?_) (fun c65 => ?_)
          · refine aw_iload C dX1_fillState_74 rfl ?_
            refine aw_istore_n C dX1_fillState_76 rfl rfl ?_
            refine aw_iconst C dX1_fillState_77 ?_
            refine aw_iload C dX1_fillState_78 rfl ?_
            refine aw_ishl C dX1_fillState_80 (shl_msk (by omega) (by omega)) ?_
            refine aw_istore_n C dX1_fillState_81 rfl rfl ?_
            refine aw_goto (tgt := 98) C dX1_fillState_82 (by decide) ?_
            refine aw_iinc C dX1_fillState_98 rfl rfl rfl ?_
            refine aw_goto (tgt := 7) C dX1_fillState_101 (by decide) ?_
            have h8 := ih (k + 1) (by omega) (by omega)
            have hz9 := bkN_0 (p := (fun i => decide (P.2 6 i < P.2 5 i))) (col := (fun i => P.2 i.toNat (P.2 6 i))) (A := F) (n := k) (fun i g0 g1 g2 => (hF i g0 (by omega) (of_decide_eq_true g2)).2.2.2.1) (fun i g0 g1 g2 => by have := (hF i g0 (by omega) (of_decide_eq_true g2)).2.2.2.2; omega)
            by_cases hav : P.2 6 k < P.2 5 k
            · have hp9 : (fun i => decide (P.2 6 i < P.2 5 i)) k = true := decide_eq_true hav
              have hF9 := hF k (by omega) (by omega) hav
              by_cases hl : F k < mnL (fun i => decide (P.2 6 i < P.2 5 i)) F k
              · have e2 : lsV (fun i => decide (P.2 6 i < P.2 5 i)) F (k + 1) = F k := by unfold lsV; rw [mnL_1 hp9 hl, if_neg (by omega)]
                have e3 : bkN (fun i => decide (P.2 6 i < P.2 5 i)) (fun i => P.2 i.toNat (P.2 6 i)) F (k + 1) = sgl ((fun i => P.2 i.toNat (P.2 6 i)) k) := by show (if (fun i => decide (P.2 6 i < P.2 5 i)) k = true then _ else _) = _; rw [if_pos hp9, if_pos hl]
                rw [e2, e3] at h8
                first
                | (refine aw_less ?_ h8; exact fun q hq => List.mem_of_mem_take (i := 5) hq)
                | (exfalso
                   by_cases hm9 : mnL (fun i => decide (P.2 6 i < P.2 5 i)) F k = 1000
                   · exact absurd (hz9.mpr hm9) (by omega)
                   · have e9 : lsV (fun i => decide (P.2 6 i < P.2 5 i)) F k = mnL (fun i => decide (P.2 6 i < P.2 5 i)) F k := if_neg hm9
                     omega)
                | (exfalso; omega)
              · by_cases hl2 : F k = mnL (fun i => decide (P.2 6 i < P.2 5 i)) F k
                · have hm9 : ¬ mnL (fun i => decide (P.2 6 i < P.2 5 i)) F k = 1000 := by omega
                  have hm8 : ¬ mskB (bkN (fun i => decide (P.2 6 i < P.2 5 i)) (fun i => P.2 i.toNat (P.2 6 i)) F k) = 0 := fun h => hm9 (hz9.mp h)
                  have e9 : lsV (fun i => decide (P.2 6 i < P.2 5 i)) F k = mnL (fun i => decide (P.2 6 i < P.2 5 i)) F k := if_neg hm9
                  have e2 : lsV (fun i => decide (P.2 6 i < P.2 5 i)) F (k + 1) = lsV (fun i => decide (P.2 6 i < P.2 5 i)) F k := by unfold lsV; rw [mnL_2 hl]
                  have e3 : bkN (fun i => decide (P.2 6 i < P.2 5 i)) (fun i => P.2 i.toNat (P.2 6 i)) F (k + 1) = fun c => bkN (fun i => decide (P.2 6 i < P.2 5 i)) (fun i => P.2 i.toNat (P.2 6 i)) F k c || sgl ((fun i => P.2 i.toNat (P.2 6 i)) k) c := by show (if (fun i => decide (P.2 6 i < P.2 5 i)) k = true then _ else _) = _; rw [if_pos hp9, if_neg hl, if_pos hl2]
                  rw [e2, e3] at h8
                  first
                  | (refine aw_less ?_ h8; exact fun q hq => List.mem_of_mem_take (i := 5) hq)
                  | (exfalso; omega)
                · have hm9 : ¬ mnL (fun i => decide (P.2 6 i < P.2 5 i)) F k = 1000 := by omega
                  have hm8 : ¬ mskB (bkN (fun i => decide (P.2 6 i < P.2 5 i)) (fun i => P.2 i.toNat (P.2 6 i)) F k) = 0 := fun h => hm9 (hz9.mp h)
                  have e9 : lsV (fun i => decide (P.2 6 i < P.2 5 i)) F k = mnL (fun i => decide (P.2 6 i < P.2 5 i)) F k := if_neg hm9
                  have e2 : lsV (fun i => decide (P.2 6 i < P.2 5 i)) F (k + 1) = lsV (fun i => decide (P.2 6 i < P.2 5 i)) F k := by unfold lsV; rw [mnL_2 hl]
                  have e3 : bkN (fun i => decide (P.2 6 i < P.2 5 i)) (fun i => P.2 i.toNat (P.2 6 i)) F (k + 1) = bkN (fun i => decide (P.2 6 i < P.2 5 i)) (fun i => P.2 i.toNat (P.2 6 i)) F k := by show (if (fun i => decide (P.2 6 i < P.2 5 i)) k = true then _ else _) = _; rw [if_pos hp9, if_neg hl, if_neg hl2]
                  rw [e2, e3] at h8
                  first
                  | (refine aw_less ?_ h8; exact fun q hq => List.mem_of_mem_take (i := 5) hq)
                  | (exfalso; omega)
            · have hp9 : (fun i => decide (P.2 6 i < P.2 5 i)) k = false := decide_eq_false hav
              have e2 : lsV (fun i => decide (P.2 6 i < P.2 5 i)) F (k + 1) = lsV (fun i => decide (P.2 6 i < P.2 5 i)) F k := by unfold lsV; rw [mnL_3 hp9]
              have e3 : bkN (fun i => decide (P.2 6 i < P.2 5 i)) (fun i => P.2 i.toNat (P.2 6 i)) F (k + 1) = bkN (fun i => decide (P.2 6 i < P.2 5 i)) (fun i => P.2 i.toNat (P.2 6 i)) F k := by show (if (fun i => decide (P.2 6 i < P.2 5 i)) k = true then _ else _) = _; rw [if_neg (by rw [hp9]; decide)]
              rw [e2, e3] at h8
              first
              | (refine aw_less ?_ h8; exact fun q hq => List.mem_of_mem_take (i := 5) hq)
              | (exfalso; omega)
          · refine aw_iload C dX1_fillState_68 rfl ?_
            refine aw_iload_n C dX1_fillState_70 rfl ?_
            refine aw_icmp_ge (tgt := 85) C dX1_fillState_71 (by decide) (by omega) (by omega) (fun c71 => ?_) (fun c71 => ?_)
            · refine aw_iload C dX1_fillState_85 rfl ?_
              refine aw_iload_n C dX1_fillState_87 rfl ?_
              refine aw_icmp_ne (tgt := 98) C dX1_fillState_88 (by decide) (by omega) (by omega) (fun c88 => ?_) (fun c88 => ?_)
              · refine aw_iinc C dX1_fillState_98 rfl rfl rfl ?_
                refine aw_goto (tgt := 7) C dX1_fillState_101 (by decide) ?_
                have h8 := ih (k + 1) (by omega) (by omega)
                have hz9 := bkN_0 (p := (fun i => decide (P.2 6 i < P.2 5 i))) (col := (fun i => P.2 i.toNat (P.2 6 i))) (A := F) (n := k) (fun i g0 g1 g2 => (hF i g0 (by omega) (of_decide_eq_true g2)).2.2.2.1) (fun i g0 g1 g2 => by have := (hF i g0 (by omega) (of_decide_eq_true g2)).2.2.2.2; omega)
                by_cases hav : P.2 6 k < P.2 5 k
                · have hp9 : (fun i => decide (P.2 6 i < P.2 5 i)) k = true := decide_eq_true hav
                  have hF9 := hF k (by omega) (by omega) hav
                  by_cases hl : F k < mnL (fun i => decide (P.2 6 i < P.2 5 i)) F k
                  · have e2 : lsV (fun i => decide (P.2 6 i < P.2 5 i)) F (k + 1) = F k := by unfold lsV; rw [mnL_1 hp9 hl, if_neg (by omega)]
                    have e3 : bkN (fun i => decide (P.2 6 i < P.2 5 i)) (fun i => P.2 i.toNat (P.2 6 i)) F (k + 1) = sgl ((fun i => P.2 i.toNat (P.2 6 i)) k) := by show (if (fun i => decide (P.2 6 i < P.2 5 i)) k = true then _ else _) = _; rw [if_pos hp9, if_pos hl]
                    rw [e2, e3] at h8
                    first
                    | (refine aw_less ?_ h8; exact fun q hq => List.mem_of_mem_take (i := 5) hq)
                    | (exfalso
                       by_cases hm9 : mnL (fun i => decide (P.2 6 i < P.2 5 i)) F k = 1000
                       · exact absurd (hz9.mpr hm9) (by omega)
                       · have e9 : lsV (fun i => decide (P.2 6 i < P.2 5 i)) F k = mnL (fun i => decide (P.2 6 i < P.2 5 i)) F k := if_neg hm9
                         omega)
                    | (exfalso; omega)
                  · by_cases hl2 : F k = mnL (fun i => decide (P.2 6 i < P.2 5 i)) F k
                    · have hm9 : ¬ mnL (fun i => decide (P.2 6 i < P.2 5 i)) F k = 1000 := by omega
                      have hm8 : ¬ mskB (bkN (fun i => decide (P.2 6 i < P.2 5 i)) (fun i => P.2 i.toNat (P.2 6 i)) F k) = 0 := fun h => hm9 (hz9.mp h)
                      have e9 : lsV (fun i => decide (P.2 6 i < P.2 5 i)) F k = mnL (fun i => decide (P.2 6 i < P.2 5 i)) F k := if_neg hm9
                      have e2 : lsV (fun i => decide (P.2 6 i < P.2 5 i)) F (k + 1) = lsV (fun i => decide (P.2 6 i < P.2 5 i)) F k := by unfold lsV; rw [mnL_2 hl]
                      have e3 : bkN (fun i => decide (P.2 6 i < P.2 5 i)) (fun i => P.2 i.toNat (P.2 6 i)) F (k + 1) = fun c => bkN (fun i => decide (P.2 6 i < P.2 5 i)) (fun i => P.2 i.toNat (P.2 6 i)) F k c || sgl ((fun i => P.2 i.toNat (P.2 6 i)) k) c := by show (if (fun i => decide (P.2 6 i < P.2 5 i)) k = true then _ else _) = _; rw [if_pos hp9, if_neg hl, if_pos hl2]
                      rw [e2, e3] at h8
                      first
                      | (refine aw_less ?_ h8; exact fun q hq => List.mem_of_mem_take (i := 5) hq)
                      | (exfalso; omega)
                    · have hm9 : ¬ mnL (fun i => decide (P.2 6 i < P.2 5 i)) F k = 1000 := by omega
                      have hm8 : ¬ mskB (bkN (fun i => decide (P.2 6 i < P.2 5 i)) (fun i => P.2 i.toNat (P.2 6 i)) F k) = 0 := fun h => hm9 (hz9.mp h)
                      have e9 : lsV (fun i => decide (P.2 6 i < P.2 5 i)) F k = mnL (fun i => decide (P.2 6 i < P.2 5 i)) F k := if_neg hm9
                      have e2 : lsV (fun i => decide (P.2 6 i < P.2 5 i)) F (k + 1) = lsV (fun i => decide (P.2 6 i < P.2 5 i)) F k := by unfold lsV; rw [mnL_2 hl]
                      have e3 : bkN (fun i => decide (P.2 6 i < P.2 5 i)) (fun i => P.2 i.toNat (P.2 6 i)) F (k + 1) = bkN (fun i => decide (P.2 6 i < P.2 5 i)) (fun i => P.2 i.toNat (P.2 6 i)) F k := by show (if (fun i => decide (P.2 6 i < P.2 5 i)) k = true then _ else _) = _; rw [if_pos hp9, if_neg hl, if_neg hl2]
                      rw [e2, e3] at h8
                      first
                      | (refine aw_less ?_ h8; exact fun q hq => List.mem_of_mem_take (i := 5) hq)
                      | (exfalso; omega)
                · have hp9 : (fun i => decide (P.2 6 i < P.2 5 i)) k = false := decide_eq_false hav
                  have e2 : lsV (fun i => decide (P.2 6 i < P.2 5 i)) F (k + 1) = lsV (fun i => decide (P.2 6 i < P.2 5 i)) F k := by unfold lsV; rw [mnL_3 hp9]
                  have e3 : bkN (fun i => decide (P.2 6 i < P.2 5 i)) (fun i => P.2 i.toNat (P.2 6 i)) F (k + 1) = bkN (fun i => decide (P.2 6 i < P.2 5 i)) (fun i => P.2 i.toNat (P.2 6 i)) F k := by show (if (fun i => decide (P.2 6 i < P.2 5 i)) k = true then _ else _) = _; rw [if_neg (by rw [hp9]; decide)]
                  rw [e2, e3] at h8
                  first
                  | (refine aw_less ?_ h8; exact fun q hq => List.mem_of_mem_take (i := 5) hq)
                  | (exfalso; omega)
              · refine aw_iload_n C dX1_fillState_91 rfl ?_
                refine aw_iconst C dX1_fillState_92 ?_
                refine aw_iload C dX1_fillState_93 rfl ?_
                refine aw_ishl C dX1_fillState_95 (shl_msk (by omega) (by omega)) ?_
                refine aw_ior C dX1_fillState_96 (or_msk _ _) ?_
                refine aw_istore_n C dX1_fillState_97 rfl rfl ?_
                refine aw_iinc C dX1_fillState_98 rfl rfl rfl ?_
                refine aw_goto (tgt := 7) C dX1_fillState_101 (by decide) ?_
                have h8 := ih (k + 1) (by omega) (by omega)
                have hz9 := bkN_0 (p := (fun i => decide (P.2 6 i < P.2 5 i))) (col := (fun i => P.2 i.toNat (P.2 6 i))) (A := F) (n := k) (fun i g0 g1 g2 => (hF i g0 (by omega) (of_decide_eq_true g2)).2.2.2.1) (fun i g0 g1 g2 => by have := (hF i g0 (by omega) (of_decide_eq_true g2)).2.2.2.2; omega)
                by_cases hav : P.2 6 k < P.2 5 k
                · have hp9 : (fun i => decide (P.2 6 i < P.2 5 i)) k = true := decide_eq_true hav
                  have hF9 := hF k (by omega) (by omega) hav
                  by_cases hl : F k < mnL (fun i => decide (P.2 6 i < P.2 5 i)) F k
                  · have e2 : lsV (fun i => decide (P.2 6 i < P.2 5 i)) F (k + 1) = F k := by unfold lsV; rw [mnL_1 hp9 hl, if_neg (by omega)]
                    have e3 : bkN (fun i => decide (P.2 6 i < P.2 5 i)) (fun i => P.2 i.toNat (P.2 6 i)) F (k + 1) = sgl ((fun i => P.2 i.toNat (P.2 6 i)) k) := by show (if (fun i => decide (P.2 6 i < P.2 5 i)) k = true then _ else _) = _; rw [if_pos hp9, if_pos hl]
                    rw [e2, e3] at h8
                    first
                    | (refine aw_less ?_ h8; exact fun q hq => List.mem_of_mem_take (i := 5) hq)
                    | (exfalso
                       by_cases hm9 : mnL (fun i => decide (P.2 6 i < P.2 5 i)) F k = 1000
                       · exact absurd (hz9.mpr hm9) (by omega)
                       · have e9 : lsV (fun i => decide (P.2 6 i < P.2 5 i)) F k = mnL (fun i => decide (P.2 6 i < P.2 5 i)) F k := if_neg hm9
                         omega)
                    | (exfalso; omega)
                  · by_cases hl2 : F k = mnL (fun i => decide (P.2 6 i < P.2 5 i)) F k
                    · have hm9 : ¬ mnL (fun i => decide (P.2 6 i < P.2 5 i)) F k = 1000 := by omega
                      have hm8 : ¬ mskB (bkN (fun i => decide (P.2 6 i < P.2 5 i)) (fun i => P.2 i.toNat (P.2 6 i)) F k) = 0 := fun h => hm9 (hz9.mp h)
                      have e9 : lsV (fun i => decide (P.2 6 i < P.2 5 i)) F k = mnL (fun i => decide (P.2 6 i < P.2 5 i)) F k := if_neg hm9
                      have e2 : lsV (fun i => decide (P.2 6 i < P.2 5 i)) F (k + 1) = lsV (fun i => decide (P.2 6 i < P.2 5 i)) F k := by unfold lsV; rw [mnL_2 hl]
                      have e3 : bkN (fun i => decide (P.2 6 i < P.2 5 i)) (fun i => P.2 i.toNat (P.2 6 i)) F (k + 1) = fun c => bkN (fun i => decide (P.2 6 i < P.2 5 i)) (fun i => P.2 i.toNat (P.2 6 i)) F k c || sgl ((fun i => P.2 i.toNat (P.2 6 i)) k) c := by show (if (fun i => decide (P.2 6 i < P.2 5 i)) k = true then _ else _) = _; rw [if_pos hp9, if_neg hl, if_pos hl2]
                      rw [e2, e3] at h8
                      first
                      | (refine aw_less ?_ h8; exact fun q hq => List.mem_of_mem_take (i := 5) hq)
                      | (exfalso; omega)
                    · have hm9 : ¬ mnL (fun i => decide (P.2 6 i < P.2 5 i)) F k = 1000 := by omega
                      have hm8 : ¬ mskB (bkN (fun i => decide (P.2 6 i < P.2 5 i)) (fun i => P.2 i.toNat (P.2 6 i)) F k) = 0 := fun h => hm9 (hz9.mp h)
                      have e9 : lsV (fun i => decide (P.2 6 i < P.2 5 i)) F k = mnL (fun i => decide (P.2 6 i < P.2 5 i)) F k := if_neg hm9
                      have e2 : lsV (fun i => decide (P.2 6 i < P.2 5 i)) F (k + 1) = lsV (fun i => decide (P.2 6 i < P.2 5 i)) F k := by unfold lsV; rw [mnL_2 hl]
                      have e3 : bkN (fun i => decide (P.2 6 i < P.2 5 i)) (fun i => P.2 i.toNat (P.2 6 i)) F (k + 1) = bkN (fun i => decide (P.2 6 i < P.2 5 i)) (fun i => P.2 i.toNat (P.2 6 i)) F k := by show (if (fun i => decide (P.2 6 i < P.2 5 i)) k = true then _ else _) = _; rw [if_pos hp9, if_neg hl, if_neg hl2]
                      rw [e2, e3] at h8
                      first
                      | (refine aw_less ?_ h8; exact fun q hq => List.mem_of_mem_take (i := 5) hq)
                      | (exfalso; omega)
                · have hp9 : (fun i => decide (P.2 6 i < P.2 5 i)) k = false := decide_eq_false hav
                  have e2 : lsV (fun i => decide (P.2 6 i < P.2 5 i)) F (k + 1) = lsV (fun i => decide (P.2 6 i < P.2 5 i)) F k := by unfold lsV; rw [mnL_3 hp9]
                  have e3 : bkN (fun i => decide (P.2 6 i < P.2 5 i)) (fun i => P.2 i.toNat (P.2 6 i)) F (k + 1) = bkN (fun i => decide (P.2 6 i < P.2 5 i)) (fun i => P.2 i.toNat (P.2 6 i)) F k := by show (if (fun i => decide (P.2 6 i < P.2 5 i)) k = true then _ else _) = _; rw [if_neg (by rw [hp9]; decide)]
                  rw [e2, e3] at h8
                  first
                  | (refine aw_less ?_ h8; exact fun q hq => List.mem_of_mem_take (i := 5) hq)
                  | (exfalso; omega)
            · refine aw_iload C dX1_fillState_74 rfl ?_
              refine aw_istore_n C dX1_fillState_76 rfl rfl ?_
              refine aw_iconst C dX1_fillState_77 ?_
              refine aw_iload C dX1_fillState_78 rfl ?_
              refine aw_ishl C dX1_fillState_80 (shl_msk (by omega) (by omega)) ?_
              refine aw_istore_n C dX1_fillState_81 rfl rfl ?_
              refine aw_goto (tgt := 98) C dX1_fillState_82 (by decide) ?_
              refine aw_iinc C dX1_fillState_98 rfl rfl rfl ?_
              refine aw_goto (tgt := 7) C dX1_fillState_101 (by decide) ?_
              have h8 := ih (k + 1) (by omega) (by omega)
              have hz9 := bkN_0 (p := (fun i => decide (P.2 6 i < P.2 5 i))) (col := (fun i => P.2 i.toNat (P.2 6 i))) (A := F) (n := k) (fun i g0 g1 g2 => (hF i g0 (by omega) (of_decide_eq_true g2)).2.2.2.1) (fun i g0 g1 g2 => by have := (hF i g0 (by omega) (of_decide_eq_true g2)).2.2.2.2; omega)
              by_cases hav : P.2 6 k < P.2 5 k
              · have hp9 : (fun i => decide (P.2 6 i < P.2 5 i)) k = true := decide_eq_true hav
                have hF9 := hF k (by omega) (by omega) hav
                by_cases hl : F k < mnL (fun i => decide (P.2 6 i < P.2 5 i)) F k
                · have e2 : lsV (fun i => decide (P.2 6 i < P.2 5 i)) F (k + 1) = F k := by unfold lsV; rw [mnL_1 hp9 hl, if_neg (by omega)]
                  have e3 : bkN (fun i => decide (P.2 6 i < P.2 5 i)) (fun i => P.2 i.toNat (P.2 6 i)) F (k + 1) = sgl ((fun i => P.2 i.toNat (P.2 6 i)) k) := by show (if (fun i => decide (P.2 6 i < P.2 5 i)) k = true then _ else _) = _; rw [if_pos hp9, if_pos hl]
                  rw [e2, e3] at h8
                  first
                  | (refine aw_less ?_ h8; exact fun q hq => List.mem_of_mem_take (i := 5) hq)
                  | (exfalso
                     by_cases hm9 : mnL (fun i => decide (P.2 6 i < P.2 5 i)) F k = 1000
                     · exact absurd (hz9.mpr hm9) (by omega)
                     · have e9 : lsV (fun i => decide (P.2 6 i < P.2 5 i)) F k = mnL (fun i => decide (P.2 6 i < P.2 5 i)) F k := if_neg hm9
                       omega)
                  | (exfalso; omega)
                · by_cases hl2 : F k = mnL (fun i => decide (P.2 6 i < P.2 5 i)) F k
                  · have hm9 : ¬ mnL (fun i => decide (P.2 6 i < P.2 5 i)) F k = 1000 := by omega
                    have hm8 : ¬ mskB (bkN (fun i => decide (P.2 6 i < P.2 5 i)) (fun i => P.2 i.toNat (P.2 6 i)) F k) = 0 := fun h => hm9 (hz9.mp h)
                    have e9 : lsV (fun i => decide (P.2 6 i < P.2 5 i)) F k = mnL (fun i => decide (P.2 6 i < P.2 5 i)) F k := if_neg hm9
                    have e2 : lsV (fun i => decide (P.2 6 i < P.2 5 i)) F (k + 1) = lsV (fun i => decide (P.2 6 i < P.2 5 i)) F k := by unfold lsV; rw [mnL_2 hl]
                    have e3 : bkN (fun i => decide (P.2 6 i < P.2 5 i)) (fun i => P.2 i.toNat (P.2 6 i)) F (k + 1) = fun c => bkN (fun i => decide (P.2 6 i < P.2 5 i)) (fun i => P.2 i.toNat (P.2 6 i)) F k c || sgl ((fun i => P.2 i.toNat (P.2 6 i)) k) c := by show (if (fun i => decide (P.2 6 i < P.2 5 i)) k = true then _ else _) = _; rw [if_pos hp9, if_neg hl, if_pos hl2]
                    rw [e2, e3] at h8
                    first
                    | (refine aw_less ?_ h8; exact fun q hq => List.mem_of_mem_take (i := 5) hq)
                    | (exfalso; omega)
                  · have hm9 : ¬ mnL (fun i => decide (P.2 6 i < P.2 5 i)) F k = 1000 := by omega
                    have hm8 : ¬ mskB (bkN (fun i => decide (P.2 6 i < P.2 5 i)) (fun i => P.2 i.toNat (P.2 6 i)) F k) = 0 := fun h => hm9 (hz9.mp h)
                    have e9 : lsV (fun i => decide (P.2 6 i < P.2 5 i)) F k = mnL (fun i => decide (P.2 6 i < P.2 5 i)) F k := if_neg hm9
                    have e2 : lsV (fun i => decide (P.2 6 i < P.2 5 i)) F (k + 1) = lsV (fun i => decide (P.2 6 i < P.2 5 i)) F k := by unfold lsV; rw [mnL_2 hl]
                    have e3 : bkN (fun i => decide (P.2 6 i < P.2 5 i)) (fun i => P.2 i.toNat (P.2 6 i)) F (k + 1) = bkN (fun i => decide (P.2 6 i < P.2 5 i)) (fun i => P.2 i.toNat (P.2 6 i)) F k := by show (if (fun i => decide (P.2 6 i < P.2 5 i)) k = true then _ else _) = _; rw [if_pos hp9, if_neg hl, if_neg hl2]
                    rw [e2, e3] at h8
                    first
                    | (refine aw_less ?_ h8; exact fun q hq => List.mem_of_mem_take (i := 5) hq)
                    | (exfalso; omega)
              · have hp9 : (fun i => decide (P.2 6 i < P.2 5 i)) k = false := decide_eq_false hav
                have e2 : lsV (fun i => decide (P.2 6 i < P.2 5 i)) F (k + 1) = lsV (fun i => decide (P.2 6 i < P.2 5 i)) F k := by unfold lsV; rw [mnL_3 hp9]
                have e3 : bkN (fun i => decide (P.2 6 i < P.2 5 i)) (fun i => P.2 i.toNat (P.2 6 i)) F (k + 1) = bkN (fun i => decide (P.2 6 i < P.2 5 i)) (fun i => P.2 i.toNat (P.2 6 i)) F k := by show (if (fun i => decide (P.2 6 i < P.2 5 i)) k = true then _ else _) = _; rw [if_neg (by rw [hp9]; decide)]
                rw [e2, e3] at h8
                first
                | (refine aw_less ?_ h8; exact fun q hq => List.mem_of_mem_take (i := 5) hq)
                | (exfalso; omega)
  refine aw_iconst C dX1_fillState_0 ?_
  refine aw_istore_n C dX1_fillState_1 rfl rfl ?_
  refine aw_iconst C dX1_fillState_2 ?_
  refine aw_istore_n C dX1_fillState_3 rfl rfl ?_
  refine aw_iconst C dX1_fillState_4 ?_
  refine aw_istore C dX1_fillState_5 rfl rfl ?_
  exact lp 6 0 (by omega) (by omega)

