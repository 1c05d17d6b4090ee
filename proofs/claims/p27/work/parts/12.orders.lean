/-! ALL ORDERS TRIED -/
def mnI (a b : Int) : Int := if b < a then b else a
theorem ua_back (P : St) (a : Nat) (i v : Int) : ua (ua P a i v) a i (P.2 a i) = P := by
  unfold ua
  refine Prod.ext rfl (funext fun b => funext fun j => ?_)
  cases hb : Nat.beq b a with
  | true =>
    have e := Nat.eq_of_beq_eq_true hb
    subst e
    by_cases e2 : j = i
    · simp [e2]
    · simp [e2]
  | false => simp [hb]
theorem ua_up (P : St) (i : Int) : (ua P 6 i (P.2 6 i + 1)).2 6 = upT (P.2 6) i := funext fun j => by
  rw [ua_s]
  unfold upT
  split
  · rename_i e
    rw [e]
  · rfl
theorem wtP_ua (P : St) {a : Nat} (h : 5 ≤ a) (i v : Int) : wtP (ua P a i v) = wtP P := funext fun j => funext fun q => by
  unfold wtP
  split
  · rw [ua_n _ _ _ _ _ (by omega)]
  · rfl
theorem PV_ua {P : St} (hP : PV P) {a : Nat} (h : 6 ≤ a) (i v : Int) : PV (ua P a i v) := by
  unfold PV at hP ⊢
  rw [ua_m _ _ _ _ (show (5 : Nat) ≠ a by omega)]
  exact ⟨hP.1, hP.2.1, fun j q h0 h5 h6 h7 => by rw [ua_n _ _ _ _ _ (by omega)]; exact hP.2.2 j q h0 h5 h6 h7⟩
/-- the least of the orders that begin with one of the first k lanes -/
def orN (P : St) (d : Nat) (c : Int) (k : Nat) : Int := mnL (fun i => decide (P.2 6 i < P.2 5 i)) (fun i => chg c (wtP P i (P.2 6 i)) + mC (P.2 5) (wtP P) d (upT (P.2 6) i) (wtP P i (P.2 6 i))) k
theorem orN_b {P : St} {d : Nat} (hP : PV P) (hT : vT (P.2 5) (P.2 6)) (hr : rmT (P.2 5) (P.2 6) = (d + 1 : Nat)) (c : Int) {k : Nat} (hk : k ≤ 5) : 0 ≤ orN P d c k ∧ orN P d c k ≤ 1000 := by
  have hd := rmT_12 hP.2.1 hT
  rcases mnL_at (fun i => decide (P.2 6 i < P.2 5 i)) (fun i => chg c (wtP P i (P.2 6 i)) + mC (P.2 5) (wtP P) d (upT (P.2 6) i) (wtP P i (P.2 6 i))) k with e | ⟨j, j0, j1, j2, j3⟩
  · unfold orN
    omega
  · have h2 := of_decide_eq_true j2
    have h3 := mC_b (wt := wtP P) d (upT (P.2 6) j) (wtP P j (P.2 6 j)) (vT_up hT h2) (by rw [rmT_up j0 (by omega)]; omega)
    have h4 := chg_b c (wtP P j (P.2 6 j))
    unfold orN
    rw [j3]
    omega

set_option maxHeartbeats 4000000 in
set_option maxRecDepth 100000 in
/-- all orders of what is left, d bodies, by induction on a bound of d, which the room holds -/
theorem c_X1_tryOrders {l : Launch} {G : va_G × (Nat → ClassId)} : ∀ (n : Nat) {ad : Nat → Nat} {S P : St} {d : Nat} {c9 sp bs : Int} (hP : PV P) (hT : vT (P.2 5) (P.2 6)) (hr : rmT (P.2 5) (P.2 6) = d) (hdn : d ≤ n) (hc9 : -1 ≤ c9 ∧ c9 ≤ 4) (hsp : 0 ≤ sp ∧ sp ≤ 20 - d) (hd0 : (0 : Int) ≤ d) (hbs : 0 ≤ bs ∧ bs ≤ 50), Mi l G yX1_tryOrders wsX1_tryOrders ({ frames := n + 1, cells := 0, slots := 0, locals := 29 * n + 21 } : Room) [.ref (ad 16), .int (zI (d : Int)), .int (zI c9), .int (zI sp), .int (zI bs)] (WX G.2 ad S P) (fun r u => r = mnI bs (sp + mC (P.2 5) (wtP P) d (P.2 6) c9) ∧ u = (WX G.2 ad S P)) := by
  intro n
  induction n with
  | zero =>
    intro ad S P d c9 sp bs hP hT hr hdn hc9 hsp hd0 hbs
    refine Mi.of (own := RX1) (cc := cX1_tryOrders) (maxL := 10) (ret := (some .int)) (by decide) rfl rfl rfl ?_
    intro p e s m args below meth c A C hN
    have hts := C.2.2.2.2.1
    have iFX1 : ∀ w ∈ u_ws RX1 TX1 6, w ∈ wsX1_tryOrders := by decide +kernel
    have k_20 := hts (.fieldLink RX1 20 "PaintSequencer$Plan" "taken" "[I") (by decide +kernel)
    have k_16 := hts (.fieldLink RX1 16 "PaintSequencer$Plan" "sizes" "[I") (by decide +kernel)
    have k_11 := hts (.fieldLink RX1 11 "PaintSequencer$Plan" "waiting" "[[I") (by decide +kernel)
    have hd := rmT_12 hP.2.1 hT
    have hmb := mC_b (wt := wtP P) d (P.2 6) c9 hT hr
    refine aw_iload_n C dX1_tryOrders_0 rfl ?_
    refine aw_iload C dX1_tryOrders_1 rfl ?_
    refine aw_icmp_lt (tgt := 9) C dX1_tryOrders_3 (by decide) (by omega) (by omega) (fun c3 => ?_) (fun c3 => ?_)
    · refine aw_iload_n C dX1_tryOrders_9 rfl ?_
      refine aw_if_gt (tgt := 15) C dX1_tryOrders_10 (by decide) (by omega) (fun c10 => ?_) (fun c10 => ?_)
      · exfalso
        omega
      · refine aw_iload_n C dX1_tryOrders_13 rfl ?_
        exact aw_iret C dX1_tryOrders_14 ⟨by
          have e0 : d = 0 := by omega
          subst e0
          unfold mnI
          rw [show mC (P.2 5) (wtP P) 0 (P.2 6) c9 = 0 from rfl, if_pos (by omega)]
          omega, rfl⟩
    · refine aw_iload C dX1_tryOrders_6 rfl ?_
      exact aw_iret C dX1_tryOrders_8 ⟨by unfold mnI; rw [if_neg (by omega)], rfl⟩
  | succ n ihT =>
    intro ad S P d c9 sp bs hP hT hr hdn hc9 hsp hd0 hbs
    refine Mi.of (own := RX1) (cc := cX1_tryOrders) (maxL := 10) (ret := (some .int)) (by decide) rfl rfl rfl ?_
    intro p e s m args below meth c A C hN
    have hts := C.2.2.2.2.1
    have iFX1 : ∀ w ∈ u_ws RX1 TX1 6, w ∈ wsX1_tryOrders := by decide +kernel
    have k_20 := hts (.fieldLink RX1 20 "PaintSequencer$Plan" "taken" "[I") (by decide +kernel)
    have k_16 := hts (.fieldLink RX1 16 "PaintSequencer$Plan" "sizes" "[I") (by decide +kernel)
    have k_11 := hts (.fieldLink RX1 11 "PaintSequencer$Plan" "waiting" "[[I") (by decide +kernel)
    have hd := rmT_12 hP.2.1 hT
    have hmb := mC_b (wt := wtP P) d (P.2 6) c9 hT hr
    rcases Nat.eq_zero_or_pos d with e0 | e0
    · refine aw_iload_n C dX1_tryOrders_0 rfl ?_
      refine aw_iload C dX1_tryOrders_1 rfl ?_
      refine aw_icmp_lt (tgt := 9) C dX1_tryOrders_3 (by decide) (by omega) (by omega) (fun c3 => ?_) (fun c3 => ?_)
      · refine aw_iload_n C dX1_tryOrders_9 rfl ?_
        refine aw_if_gt (tgt := 15) C dX1_tryOrders_10 (by decide) (by omega) (fun c10 => ?_) (fun c10 => ?_)
        · exfalso
          omega
        · refine aw_iload_n C dX1_tryOrders_13 rfl ?_
          exact aw_iret C dX1_tryOrders_14 ⟨by
            have e0 : d = 0 := by omega
            subst e0
            unfold mnI
            rw [show mC (P.2 5) (wtP P) 0 (P.2 6) c9 = 0 from rfl, if_pos (by omega)]
            omega, rfl⟩
      · refine aw_iload C dX1_tryOrders_6 rfl ?_
        exact aw_iret C dX1_tryOrders_8 ⟨by unfold mnI; rw [if_neg (by omega)], rfl⟩
    · obtain ⟨d2, rfl⟩ : ∃ d2 : Nat, d = d2 + 1 := ⟨d - 1, by omega⟩
      have lp : ∀ (n3 : Nat) (k : Nat), (k : Int) ≤ 5 → 5 - (k : Int) < n3 → AW p l e (headSpec wsX1_tryOrders ({ frames := n + 1 + 1, cells := 0, slots := 0, locals := 29 * (n + 1) + 21 } : Room)).room s m args below meth c 10 G A s.heap 0 0 (MQ below (QPi G (fun r u => r = mnI bs (sp + mC (P.2 5) (wtP P) (d2 + 1) (P.2 6) c9) ∧ u = (WX G.2 ad S P)) A) args s 0 0 A) (WX G.2 ad S P) [(0, .ref (ad 16)), (1, .int (zI ((d2 + 1 : Nat) : Int))), (2, .int (zI c9)), (3, .int (zI sp)), (4, .int (zI bs)), (5, .int (zI (mnI bs (sp + orN P d2 c9 k)))), (6, .int (zI k))] 22 [] := by
        intro n3
        induction n3 with
        | zero =>
          intro k h1 h2
          exfalso
          omega
        | succ n3 ih =>
          intro k h1 h2
          refine aw_iload C dX1_tryOrders_22 rfl ?_
          refine aw_iconst C dX1_tryOrders_24 ?_
          refine aw_icmp_ge (tgt := 112) C dX1_tryOrders_25 (by decide) (by omega) (by omega) (fun c25 => ?_) (fun c25 => ?_)
          · have e5 : k = 5 := by omega
            subst e5
            refine aw_iload C dX1_tryOrders_112 rfl ?_
            exact aw_iret C dX1_tryOrders_114 ⟨by
              show mnI bs (sp + orN P d2 c9 5) = _
              rfl, rfl⟩
          · have hk5 : (k : Int) < 5 := by omega
            have hT9 := hT k (by omega) hk5
            have hS9 := hP.1 k (by omega) hk5
            have hob := orN_b hP hT hr c9 (k := k) (by omega)
            have hfb : 0 ≤ (mnI bs (sp + orN P d2 c9 k)) ∧ (mnI bs (sp + orN P d2 c9 k)) ≤ 50 := by
              unfold mnI
              split <;> omega
            refine aw_aload_n C dX1_tryOrders_28 rfl ?_
            refine aw_get (q0 := 16) (k := 2) C iFX1 k_20 rfl rfl rfl rfl dX1_tryOrders_29 ?_
            refine aw_iload C dX1_tryOrders_32 rfl ?_
            refine aw_ldI (q0 := 24) C rfl (by omega) (by omega) rfl dX1_tryOrders_34 ?_
            refine aw_istore C dX1_tryOrders_35 rfl rfl ?_
            refine aw_iload C dX1_tryOrders_37 rfl ?_
            refine aw_aload_n C dX1_tryOrders_39 rfl ?_
            refine aw_get (q0 := 16) (k := 1) C iFX1 k_16 rfl rfl rfl rfl dX1_tryOrders_40 ?_
            refine aw_iload C dX1_tryOrders_43 rfl ?_
            refine aw_ldI (q0 := 23) C rfl (by omega) (by omega) rfl dX1_tryOrders_45 ?_
            refine aw_icmp_ge (tgt := 106) C dX1_tryOrders_46 (by decide) (by omega) (by omega) (fun c46 => ?_) (fun c46 => ?_)
            · refine aw_iinc C dX1_tryOrders_106 rfl rfl rfl ?_
              refine aw_goto (tgt := 22) C dX1_tryOrders_109 (by decide) ?_
              have h8 := ih (k + 1) (by omega) (by omega)
              have hob := orN_b hP hT hr c9 (k := k) (by omega)
              have hav : ∀ b : Bool, decide (P.2 6 k < P.2 5 k) = b → orN P d2 c9 (k + 1) = if b = true ∧ chg c9 (wtP P k (P.2 6 k)) + mC (P.2 5) (wtP P) d2 (upT (P.2 6) k) (wtP P k (P.2 6 k)) < orN P d2 c9 k then chg c9 (wtP P k (P.2 6 k)) + mC (P.2 5) (wtP P) d2 (upT (P.2 6) k) (wtP P k (P.2 6 k)) else orN P d2 c9 k := fun b hb => by
                subst hb
                rfl
              by_cases h46 : P.2 6 k < P.2 5 k
              · have e9 := hav true (decide_eq_true h46)
                first
                | (exfalso; omega)
                | (rw [ua_back]
                   have e8 : mnI bs (sp + orN P d2 c9 (k + 1)) = mnI (mnI bs (sp + orN P d2 c9 k)) (sp + chg c9 (wtP P k (P.2 6 k)) + mC (P.2 5) (wtP P) d2 (upT (P.2 6) k) (wtP P k (P.2 6 k))) := by
                     by_cases h1 : chg c9 (wtP P k (P.2 6 k)) + mC (P.2 5) (wtP P) d2 (upT (P.2 6) k) (wtP P k (P.2 6 k)) < orN P d2 c9 k
                     · rw [if_pos (And.intro rfl h1)] at e9
                       rw [e9]
                       unfold mnI
                       (repeat' split) <;> omega
                     · rw [if_neg (fun x => h1 x.2)] at e9
                       rw [e9]
                       unfold mnI
                       (repeat' split) <;> omega
                   rw [e8] at h8
                   refine aw_less ?_ h8
                   exact fun q hq => List.mem_of_mem_take (i := 7) hq)
              · have e9 := hav false (decide_eq_false h46)
                rw [if_neg (fun x => absurd x.1 (by decide))] at e9
                first
                | (exfalso; omega)
                | (rw [e9] at h8
                   refine aw_less ?_ h8
                   exact fun q hq => List.mem_of_mem_take (i := 7) hq)
            · have hc := hP.2.2 k (P.2 6 k) (by omega) hk5 (by omega) c46
              rw [← wtP_at (P := P) hk5] at hc
              have hv2 := vT_up hT c46
              have hch := chg_b c9 (wtP P k (P.2 6 k))
              refine aw_aload_n C dX1_tryOrders_49 rfl ?_
              refine aw_get (q0 := 16) (k := 0) C iFX1 k_11 rfl rfl rfl rfl dX1_tryOrders_50 ?_
              refine aw_iload C dX1_tryOrders_53 rfl ?_
              refine aw_aldA (q0 := 17) C rfl (by omega) (by omega) rfl rfl dX1_tryOrders_55 ?_
              refine aw_iload C dX1_tryOrders_56 rfl ?_
              refine aw_ldI  C (wx_wrow (by omega) (by omega)) (by omega) (by omega) rfl dX1_tryOrders_58 ?_
              rw [← wtP_at (P := P) hk5]
              refine aw_istore C dX1_tryOrders_59 rfl rfl ?_
              refine aw_iload_n C dX1_tryOrders_61 rfl ?_
              refine aw_iload_n C dX1_tryOrders_62 rfl ?_
              refine aw_iload C dX1_tryOrders_63 rfl ?_
              refine cN2i C hN (c_X2_changeBetween (by omega) (by omega)) ⟨va_cnB 2 hts gX1_tryOrders_X2_changeBetween_n46 rfl rfl rfl hN (hts (.initialized RX2) (by decide +kernel)) (by decide +kernel) ⟨by show 0 + 1 ≤ n + 1 + 1; omega, by show 8 + (2 + 11) + 0 ≤ 29 * (n + 1) + 21; omega⟩, hts (.static yX2_changeBetween) (by decide +kernel), trivial⟩ rfl dX1_tryOrders_65 ⟨Nat.zero_le _, Nat.zero_le _⟩ (fun r65 u65 q65 => ?_)
              obtain ⟨rfl, rfl⟩ := q65
              refine aw_iadd C dX1_tryOrders_68 ?_
              refine aw_istore C dX1_tryOrders_69 rfl rfl ?_
              refine aw_aload_n C dX1_tryOrders_71 rfl ?_
              refine aw_get (q0 := 16) (k := 2) C iFX1 k_20 rfl rfl rfl rfl dX1_tryOrders_72 ?_
              refine aw_iload C dX1_tryOrders_75 rfl ?_
              refine aw_iload C dX1_tryOrders_77 rfl ?_
              refine aw_iconst C dX1_tryOrders_79 ?_
              refine aw_iadd C dX1_tryOrders_80 ?_
              refine aw_stI (q0 := 24) C rfl (by omega) (by omega) rfl (wx_a24 _ _ _ _ _ _) dX1_tryOrders_81 ?_
              refine aw_aload_n C dX1_tryOrders_82 rfl ?_
              refine aw_iload_n C dX1_tryOrders_83 rfl ?_
              refine aw_iconst C dX1_tryOrders_84 ?_
              refine aw_isub C dX1_tryOrders_85 ?_
              refine aw_top (y := (d2 : Int)) (by omega) ?_
              refine aw_iload C dX1_tryOrders_86 rfl ?_
              refine aw_iload C dX1_tryOrders_88 rfl ?_
              refine aw_iload C dX1_tryOrders_90 rfl ?_
              refine cS5i C hN (ihT (P := ua P 6 k (P.2 6 k + 1)) (d := d2) (PV_ua hP (by decide) _ _) (by rw [ua_up, ua_m _ _ _ _ (by decide)]; exact hv2) (by rw [ua_up, ua_m _ _ _ _ (by decide), rmT_up (by omega) hk5]; omega) (by omega) (by omega) (by omega) (by omega) (by omega)) (va_cwS 5 hts gX1_tryOrders_X1_tryOrders rfl rfl rfl (by decide +kernel) ⟨by show n + 1 + 1 ≤ n + 1 + 1; omega, by show 8 + (10 + 11) + (29 * n + 21) ≤ 29 * (n + 1) + 21; omega⟩) rfl dX1_tryOrders_92 ⟨Nat.zero_le _, Nat.zero_le _⟩ (fun r92 u92 q92 => ?_)
              obtain ⟨rfl, rfl⟩ := q92
              rw [ua_up, wtP_ua P (by decide), ua_m P 6 k (P.2 6 k + 1) (show (5 : Nat) ≠ 6 by decide)]
              refine aw_istore C dX1_tryOrders_95 rfl rfl ?_
              refine aw_aload_n C dX1_tryOrders_97 rfl ?_
              refine aw_get (q0 := 16) (k := 2) C iFX1 k_20 rfl rfl rfl rfl dX1_tryOrders_98 ?_
              refine aw_iload C dX1_tryOrders_101 rfl ?_
              refine aw_iload C dX1_tryOrders_103 rfl ?_
              refine aw_stI (q0 := 24) C rfl (by omega) (by omega) rfl (wx_a24 _ _ _ _ _ _) dX1_tryOrders_105 ?_
              refine aw_iinc C dX1_tryOrders_106 rfl rfl rfl ?_
              refine aw_goto (tgt := 22) C dX1_tryOrders_109 (by decide) ?_
              have h8 := ih (k + 1) (by omega) (by omega)
              have hob := orN_b hP hT hr c9 (k := k) (by omega)
              have hav : ∀ b : Bool, decide (P.2 6 k < P.2 5 k) = b → orN P d2 c9 (k + 1) = if b = true ∧ chg c9 (wtP P k (P.2 6 k)) + mC (P.2 5) (wtP P) d2 (upT (P.2 6) k) (wtP P k (P.2 6 k)) < orN P d2 c9 k then chg c9 (wtP P k (P.2 6 k)) + mC (P.2 5) (wtP P) d2 (upT (P.2 6) k) (wtP P k (P.2 6 k)) else orN P d2 c9 k := fun b hb => by
                subst hb
                rfl
              by_cases h46 : P.2 6 k < P.2 5 k
              · have e9 := hav true (decide_eq_true h46)
                first
                | (exfalso; omega)
                | (rw [ua_back]
                   have e8 : mnI bs (sp + orN P d2 c9 (k + 1)) = mnI (mnI bs (sp + orN P d2 c9 k)) (sp + chg c9 (wtP P k (P.2 6 k)) + mC (P.2 5) (wtP P) d2 (upT (P.2 6) k) (wtP P k (P.2 6 k))) := by
                     by_cases h1 : chg c9 (wtP P k (P.2 6 k)) + mC (P.2 5) (wtP P) d2 (upT (P.2 6) k) (wtP P k (P.2 6 k)) < orN P d2 c9 k
                     · rw [if_pos (And.intro rfl h1)] at e9
                       rw [e9]
                       unfold mnI
                       (repeat' split) <;> omega
                     · rw [if_neg (fun x => h1 x.2)] at e9
                       rw [e9]
                       unfold mnI
                       (repeat' split) <;> omega
                   rw [e8] at h8
                   refine aw_less ?_ h8
                   exact fun q hq => List.mem_of_mem_take (i := 7) hq)
              · have e9 := hav false (decide_eq_false h46)
                rw [if_neg (fun x => absurd x.1 (by decide))] at e9
                first
                | (exfalso; omega)
                | (rw [e9] at h8
                   refine aw_less ?_ h8
                   exact fun q hq => List.mem_of_mem_take (i := 7) hq)
      refine aw_iload_n C dX1_tryOrders_0 rfl ?_
      refine aw_iload C dX1_tryOrders_1 rfl ?_
      refine aw_icmp_lt (tgt := 9) C dX1_tryOrders_3 (by decide) (by omega) (by omega) (fun c3 => ?_) (fun c3 => ?_)
      · refine aw_iload_n C dX1_tryOrders_9 rfl ?_
        refine aw_if_gt (tgt := 15) C dX1_tryOrders_10 (by decide) (by omega) (fun c10 => ?_) (fun c10 => ?_)
        · refine aw_iload C dX1_tryOrders_15 rfl ?_
          refine aw_istore C dX1_tryOrders_17 rfl rfl ?_
          refine aw_iconst C dX1_tryOrders_19 ?_
          refine aw_istore C dX1_tryOrders_20 rfl rfl ?_
          have h9 := lp 6 0 (by omega) (by omega)
          have e9 : mnI bs (sp + orN P d2 c9 0) = bs := by
            show mnI bs (sp + 1000) = bs
            unfold mnI
            rw [if_neg (by omega)]
          rw [e9] at h9
          exact h9
        · exfalso
          omega
      · refine aw_iload C dX1_tryOrders_6 rfl ?_
        exact aw_iret C dX1_tryOrders_8 ⟨by unfold mnI; rw [if_neg (by omega)], rfl⟩
theorem zrN_n (P : St) {a b : Nat} (h : b ≠ a) : ∀ (n : Nat) (i : Int), (zrN P a n).2 b i = P.2 b i
  | 0, _ => rfl
  | n + 1, i => by show (ua (zrN P a n) a n 0).2 b i = _; rw [ua_n _ _ _ _ _ h]; exact zrN_n P h n i
theorem zrN_1 (P : St) (a : Nat) : ∀ n : Nat, (zrN P a n).1 = P.1
  | 0 => rfl
  | n + 1 => zrN_1 P a n
theorem sumN_5 (f : Int → Int) : sumN f 5 = f 0 + f 1 + f 2 + f 3 + f 4 := by
  show 0 + f 0 + f 1 + f 2 + f 3 + f 4 = _
  omega
theorem rmT_z (sz : Int → Int) : rmT sz zT = sz 0 + sz 1 + sz 2 + sz 3 + sz 4 := by
  show (sz 0 - 0) + (sz 1 - 0) + (sz 2 - 0) + (sz 3 - 0) + (sz 4 - 0) = _
  omega
set_option maxHeartbeats 4000000 in
set_option maxRecDepth 100000 in
theorem c_X1_fewestOfAllOrders {l : Launch} {G : va_G × (Nat → ClassId)} {ad : Nat → Nat} {S P : St} (hP : PV P) (h8 : P.2 5 0 + P.2 5 1 + P.2 5 2 + P.2 5 3 + P.2 5 4 ≤ 8) {c9 : Int} (hc9 : -1 ≤ c9 ∧ c9 ≤ 4) : Mi l G yX1_fewestOfAllOrders wsX1_fewestOfAllOrders ({ frames := 10, cells := 0, slots := 0, locals := 282 } : Room) [.ref (ad 16), .int (zI c9)] (WX G.2 ad S P) (fun r u => r = fwP P c9 ∧ ∃ P9 : St, u = WX G.2 ad S P9) := by
  refine Mi.of (own := RX1) (cc := cX1_fewestOfAllOrders) (maxL := 4) (ret := (some .int)) (by decide) rfl rfl rfl ?_
  intro p e s m args below meth c A C hN
  have hts := C.2.2.2.2.1
  have iFX1 : ∀ w ∈ u_ws RX1 TX1 6, w ∈ wsX1_fewestOfAllOrders := by decide +kernel
  have k_20 := hts (.fieldLink RX1 20 "PaintSequencer$Plan" "taken" "[I") (by decide +kernel)
  have k_16 := hts (.fieldLink RX1 16 "PaintSequencer$Plan" "sizes" "[I") (by decide +kernel)
  have hs5 := sumN_5 (P.2 5)
  have hz5 := rmT_z (P.2 5)
  have hrm := rmT_12 hP.2.1 (vT_z hP)
  have ez5 : (zrN P 6 5).2 5 = P.2 5 := funext fun i => zrN_n P (by decide) 5 i
  have ezw : wtP (zrN P 6 5) = wtP P := funext fun i => funext fun q => by
    unfold wtP
    split
    · rw [zrN_n P (by omega) 5 q]
    · rfl
  have hP9 : PV (zrN P 6 5) := by
    unfold PV at hP ⊢
    rw [ez5]
    exact ⟨hP.1, hP.2.1, fun i q h0 h5 h6 h7 => by rw [zrN_n P (by omega) 5 q]; exact hP.2.2 i q h0 h5 h6 h7⟩
  have ez6 : ∀ i : Int, 0 ≤ i → i < 5 → (zrN P 6 5).2 6 i = zT i := fun i h0 h5 => zrN_at P 6 5 i h0 (by omega)
  have hT9 : vT ((zrN P 6 5).2 5) ((zrN P 6 5).2 6) := fun i h0 h5 => by
    rw [ez5, ez6 i h0 h5]
    exact vT_z hP i h0 h5
  have hr9 : rmT ((zrN P 6 5).2 5) ((zrN P 6 5).2 6) = ((rmT (P.2 5) zT).toNat : Int) := by
    rw [ez5, rmT_congr ez6]
    omega
  have lp : ∀ (n : Nat) (k : Nat), (k : Int) ≤ 5 → 5 - (k : Int) < n → AW p l e (headSpec wsX1_fewestOfAllOrders ({ frames := 10, cells := 0, slots := 0, locals := 282 } : Room)).room s m args below meth c 4 G A s.heap 0 0 (MQ below (QPi G (fun r u => r = fwP P c9 ∧ ∃ P9 : St, u = WX G.2 ad S P9) A) args s 0 0 A) (WX G.2 ad S (zrN P 6 k)) [(0, .ref (ad 16)), (1, .int (zI c9)), (2, .int (zI (sumN (P.2 5) k))), (3, .int (zI k))] 4 [] := by
    intro n
    induction n with
    | zero =>
      intro k h1 h2
      exfalso
      omega
    | succ n ih =>
      intro k h1 h2
      refine aw_iload_n C dX1_fewestOfAllOrders_4 rfl ?_
      refine aw_iconst C dX1_fewestOfAllOrders_5 ?_
      refine aw_icmp_ge (tgt := 31) C dX1_fewestOfAllOrders_6 (by decide) (by omega) (by omega) (fun c6 => ?_) (fun c6 => ?_)
      · have e5 : k = 5 := by omega
        subst e5
        rw [show sumN (P.2 5) 5 = ((rmT (P.2 5) zT).toNat : Int) by omega]
        refine aw_aload_n C dX1_fewestOfAllOrders_31 rfl ?_
        refine aw_iload_n C dX1_fewestOfAllOrders_32 rfl ?_
        refine aw_iload_n C dX1_fewestOfAllOrders_33 rfl ?_
        refine aw_iconst C dX1_fewestOfAllOrders_34 ?_
        refine aw_iload_n C dX1_fewestOfAllOrders_35 rfl ?_
        refine aw_iconst C dX1_fewestOfAllOrders_36 ?_
        refine aw_iadd C dX1_fewestOfAllOrders_37 ?_
        refine cS5i C hN (c_X1_tryOrders 8 (d := (rmT (P.2 5) zT).toNat) hP9 hT9 hr9 (by omega) hc9 (by omega) (by omega) (by omega)) (va_cwS 5 hts gX1_fewestOfAllOrders_X1_tryOrders rfl rfl rfl (by decide +kernel) ⟨Nat.le_of_ble_eq_true rfl, Nat.le_of_ble_eq_true rfl⟩) rfl dX1_fewestOfAllOrders_38 ⟨Nat.zero_le _, Nat.zero_le _⟩ (fun r38 u38 q38 => ?_)
        obtain ⟨rfl, rfl⟩ := q38
        exact aw_iret C dX1_fewestOfAllOrders_41 ⟨by
          have hm := mC_b (wt := wtP P) (rmT (P.2 5) zT).toNat zT c9 (vT_z hP) (by omega)
          have e8 : mC ((zrN P 6 5).2 5) (wtP (zrN P 6 5)) (rmT (P.2 5) zT).toNat ((zrN P 6 5).2 6) c9 = fwP P c9 := by
            rw [ez5, ezw]
            exact mC_congr _ _ _ _ (fun i h0 h5 => zrN_at P 6 5 i h0 (by omega))
          rw [e8]
          unfold mnI fwP
          rw [if_pos (by omega)]
          omega, _, rfl⟩
      · refine aw_aload_n C dX1_fewestOfAllOrders_9 rfl ?_
        refine aw_get (q0 := 16) (k := 2) C iFX1 k_20 rfl rfl rfl rfl dX1_fewestOfAllOrders_10 ?_
        refine aw_iload_n C dX1_fewestOfAllOrders_13 rfl ?_
        refine aw_iconst C dX1_fewestOfAllOrders_14 ?_
        refine aw_stI (q0 := 24) C rfl (by omega) (by omega) rfl (wx_a24 _ _ _ _ _ _) dX1_fewestOfAllOrders_15 ?_
        refine aw_iload_n C dX1_fewestOfAllOrders_16 rfl ?_
        refine aw_aload_n C dX1_fewestOfAllOrders_17 rfl ?_
        refine aw_get (q0 := 16) (k := 1) C iFX1 k_16 rfl rfl rfl rfl dX1_fewestOfAllOrders_18 ?_
        refine aw_iload_n C dX1_fewestOfAllOrders_21 rfl ?_
        refine aw_ldI (q0 := 23) C rfl (by omega) (by omega) rfl dX1_fewestOfAllOrders_22 ?_
        have e7 : (ua (zrN P 6 k) 6 k 0).2 5 k = P.2 5 k := zrN_n P (by decide) (k + 1) k
        rw [e7]
        refine aw_iadd C dX1_fewestOfAllOrders_23 ?_
        refine aw_istore_n C dX1_fewestOfAllOrders_24 rfl rfl ?_
        refine aw_iinc C dX1_fewestOfAllOrders_25 rfl rfl rfl ?_
        refine aw_goto (tgt := 4) C dX1_fewestOfAllOrders_28 (by decide) ?_
        exact ih (k + 1) (by omega) (by omega)
  refine aw_iconst C dX1_fewestOfAllOrders_0 ?_
  refine aw_istore_n C dX1_fewestOfAllOrders_1 rfl rfl ?_
  refine aw_iconst C dX1_fewestOfAllOrders_2 ?_
  refine aw_istore_n C dX1_fewestOfAllOrders_3 rfl rfl ?_
  exact lp 6 0 (by omega) (by omega)

