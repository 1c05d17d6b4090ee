def lnF (n y : Int) (k : Nat) : Int := atI (shrI (y + 61 * k * k) (k % 7)) n
def clF (x y : Int) (k : Nat) : Int := atI (shrI x 5 * (k + 1) + y) (if atI (shrI y 9) 2 = 0 then 3 else 5)
def fillP (n x y : Int) : Nat → PcL
  | 0 => pc0
  | k + 1 => if (fillP n x y k).2.1 (lnF n y k) < 5 then pcA (fillP n x y k) (clF x y k) (lnF n y k) else fillP n x y k
set_option maxHeartbeats 4000000 in
set_option maxRecDepth 100000 in
theorem c_L_fill {l : Launch} (hl : l.stackTraces = false) {G : va_G × (Nat → ClassId)} {sa : Nat → Nat} {ad : Nat → Nat} {S P : St} (hI : Inv2 S) {n x y : Int} (hn : 1 ≤ n ∧ n ≤ 5) : Mn l G sa yL_fill wsL_fill ({ frames := 7, cells := 32, slots := 192, locals := 114 } : Room) [.ref (ad 0), .int (zI n), .int (zI x), .int (zI y)] (WX G.2 ad S P) (fun r u => ∃ S1 P1 : St, u = WX G.2 ad S1 P1 ∧ r = S1.1 5 ∧ JL n S1 ∧ S1.1 6 = 0 ∧ seesL S1 (fillP n x y (atI x 13).toNat)) 32 192 := by
  refine Mn.of (own := RL) (cc := cL_fill) (maxL := 7) (ret := (some .int)) hl (by decide) rfl rfl rfl ?_
  intro p e s m args below meth c A C hN X
  have hts := C.2.2.2.2.1
  have hm := atI_b (v := x) (n := 13) (by omega)
  have hk : kBeg n 5 6 = 0 := if_pos ⟨hn, ⟨by decide, by decide⟩, by decide, by decide⟩
  have lp : ∀ (j k : Nat) (S1 P1 : St) (cells slots : Nat), (k : Int) ≤ atI x 13 → atI x 13 - k < j → JL n S1 → S1.1 5 ≤ k → S1.1 6 = 0 → seesL S1 (fillP n x y k) → cells ≤ 1 + 2 * k → slots ≤ 6 * cells → AW p l e (headSpec wsL_fill ({ frames := 7, cells := 32, slots := 192, locals := 114 } : Room)).room s m args below meth c 7 G A s.heap (cells) (slots) (MQ below (QPi G (fun r u => ∃ S1 P1 : St, u = WX G.2 ad S1 P1 ∧ r = S1.1 5 ∧ JL n S1 ∧ S1.1 6 = 0 ∧ seesL S1 (fillP n x y (atI x 13).toNat)) A) args s 32 192 A) (WX G.2 ad S1 P1) [(0, .ref (ad 0)), (1, .int (zI n)), (2, .int (zI x)), (3, .int (zI y)), (4, .int (zI (atI x 13))), (5, .int (zI k))] 20 [] := by
    intro j
    induction j with
    | zero =>
      intro k S1 P1 cells slots h1 h2
      exfalso
      omega
    | succ j ih =>
      intro k S1 P1 cells slots h1 h2 hJ h5 h6 hs hc hsl
      refine aw_iload C dL_fill_20 rfl ?_
      refine aw_iload C dL_fill_22 rfl ?_
      refine aw_icmp_ge (tgt := 101) C dL_fill_24 (by decide) (by omega) (by omega) (fun c24 => ?_) (fun c24 => ?_)
      · refine aw_aload_n C dL_fill_101 rfl ?_
        refine cV0i (ci := 2) (q0 := 0) C hN (c_X2_bodies) (cwV 0 hts gL_fill_X2_bodies rfl rfl rfl (by decide +kernel) ⟨Nat.le_of_ble_eq_true rfl, Nat.le_of_ble_eq_true rfl⟩) rfl rfl rfl rfl dL_fill_102 ⟨by show _ ≤ 32; omega, by show _ ≤ 192; omega⟩ (fun r102 u102 q102 => ?_)
        obtain ⟨rfl, rfl⟩ := q102
        have e9 : (atI x 13).toNat = k := by omega
        exact aw_iretN C (by omega) (by omega) dL_fill_105 ⟨S1, P1, rfl, rfl, hJ, h6, by rw [e9]; exact hs⟩
      · refine aw_iload_n C dL_fill_27 rfl ?_
        refine aw_bipush C dL_fill_28 rfl ?_
        refine aw_iload C dL_fill_30 rfl ?_
        refine aw_imul C dL_fill_32 ?_
        refine aw_iload C dL_fill_33 rfl ?_
        refine aw_imul C dL_fill_35 ?_
        refine aw_iadd C dL_fill_36 ?_
        refine aw_iload C dL_fill_37 rfl ?_
        refine aw_bipush C dL_fill_39 rfl ?_
        refine aw_irem C dL_fill_41 (by omega) (by decide) ?_
        refine aw_shr C dL_fill_42 ?_
        refine aw_iload_n C dL_fill_43 rfl ?_
        refine cS2i C hN (c_L_at (by omega)) (va_cwS 2 hts gL_fill_L_at rfl rfl rfl (by decide +kernel) ⟨Nat.le_of_ble_eq_true rfl, Nat.le_of_ble_eq_true rfl⟩) rfl dL_fill_44 ⟨by show _ ≤ 32; omega, by show _ ≤ 192; omega⟩ (fun r44 u44 q44 => ?_)
        obtain ⟨rfl, rfl⟩ := q44
        have hb : 0 ≤ lnF n y k ∧ lnF n y k < n := atI_b hn.1
        have hkl : kLan S1 (lnF n y k) = 0 := if_pos ⟨hb.1, by rw [hJ.2.1]; exact hb.2⟩
        have hz := hJ.1.1.2.1 (lnF n y k) hb.1 (by omega)
        have h15 := hJ.2.2.1
        have eQ := hs.2.1 (lnF n y k) hb.1 (by omega)
        have eR : lnF n y k = atI (shrI (y + 61 * k * k) (k % 7)) n := rfl
        rw [← eR]
        refine aw_istore C dL_fill_47 rfl rfl ?_
        refine aw_aload_n C dL_fill_49 rfl ?_
        refine aw_iload C dL_fill_50 rfl ?_
        refine cX1 (ci := 2) (q0 := 0) C X (c_X2_inLane hl hJ.1.1 (by omega)) (cwV 1 hts gL_fill_X2_inLane rfl rfl rfl (by decide +kernel) ⟨Nat.le_of_ble_eq_true rfl, Nat.le_of_ble_eq_true rfl⟩) rfl rfl rfl rfl dL_fill_52 ⟨by show _ ≤ 32; omega, by show _ ≤ 192; omega⟩ (fun E u q => by have h9 := q.1; have h8 := hkl; omega) (fun r52 u52 q52 => ?_)
        obtain ⟨-, rfl, P52, rfl⟩ := q52
        refine aw_iconst C dL_fill_55 ?_
        refine aw_icmp_ge (tgt := 95) C dL_fill_56 (by decide) (by omega) (by omega) (fun c56 => ?_) (fun c56 => ?_)
        · have hs1 : seesL S1 (fillP n x y (k + 1)) := by
            show seesL S1 (if _ then _ else _)
            rw [if_neg (by omega)]
            exact hs
          refine aw_iinc C dL_fill_95 rfl rfl rfl ?_
          refine aw_goto (tgt := 20) C dL_fill_98 (by decide) ?_
          refine aw_less ?_ (ih (k + 1) S1 P52 _ _ (by omega) (by omega) hJ (by omega) h6 hs1 (by omega) (by omega))
          exact fun q hq => List.mem_of_mem_take (i := 6) hq
        · have K86 : ∀ w : Int, w = (if atI (shrI y 9) 2 = 0 then 3 else 5) → AW p l e (headSpec wsL_fill ({ frames := 7, cells := 32, slots := 192, locals := 114 } : Room)).room s m args below meth c 7 G A s.heap (cells + 1) (slots + 6) (MQ below (QPi G (fun r u => ∃ S1 P1 : St, u = WX G.2 ad S1 P1 ∧ r = S1.1 5 ∧ JL n S1 ∧ S1.1 6 = 0 ∧ seesL S1 (fillP n x y (atI x 13).toNat)) A) args s 32 192 A) (WX G.2 ad S1 P52) [(0, .ref (ad 0)), (1, .int (zI n)), (2, .int (zI x)), (3, .int (zI y)), (4, .int (zI (atI x 13))), (5, .int (zI k)), (6, .int (zI (lnF n y k)))] 86 [.int (zI w), .int (zI (shrI x 5 * (k + 1) + y)), .ref (ad 0)] := by
            intro w hw
            have hw5 : 3 ≤ w ∧ w ≤ 5 := by split at hw <;> omega
            refine cS2i C hN (c_L_at (by omega)) (va_cwS 2 hts gL_fill_L_at rfl rfl rfl (by decide +kernel) ⟨Nat.le_of_ble_eq_true rfl, Nat.le_of_ble_eq_true rfl⟩) rfl dL_fill_86 ⟨by show _ ≤ 32; omega, by show _ ≤ 192; omega⟩ (fun r86 u86 q86 => ?_)
            obtain ⟨rfl, rfl⟩ := q86
            have eC : clF x y k = atI (shrI x 5 * (k + 1) + y) w := by rw [hw]; rfl
            rw [← eC]
            have hcb : 0 ≤ clF x y k ∧ clF x y k ≤ 4 := by
              have := atI_b (v := shrI x 5 * (k + 1) + y) (n := w) (by omega)
              omega
            have hA := hJ.arI (c := clF x y k) (i := lnF n y k) hcb hb.1 hb.2 (by omega) (by omega)
            have hs1 : seesL (sArI S1 (clF x y k) (lnF n y k)) (fillP n x y (k + 1)) := by
              show seesL _ (if _ then _ else _)
              rw [if_pos (by omega)]
              exact sees_arI hJ.1.1 hs hb.1 (by omega)
            refine aw_iload C dL_fill_89 rfl ?_
            refine cX2 (ci := 2) (q0 := 0) C X (c_X2_arriveIn hl hJ.1.1 (by omega) (by omega)) (cwV 2 hts gL_fill_X2_arriveIn rfl rfl rfl (by decide +kernel) ⟨Nat.le_of_ble_eq_true rfl, Nat.le_of_ble_eq_true rfl⟩) rfl rfl rfl rfl dL_fill_91 ⟨by show _ ≤ 32; omega, by show _ ≤ 192; omega⟩ (fun E u q => by have h9 := q.1; have h8 := hA.1; omega) (fun r91 u91 q91 => ?_)
            obtain ⟨-, rfl, P91, rfl⟩ := q91
            refine aw_pop C dL_fill_94 rfl ?_
            refine aw_iinc C dL_fill_95 rfl rfl rfl ?_
            refine aw_goto (tgt := 20) C dL_fill_98 (by decide) ?_
            refine aw_less ?_ (ih (k + 1) (sArI S1 (clF x y k) (lnF n y k)) P91 _ _ (by omega) (by omega) hA.2.1 (by rw [hA.2.2.1]; omega) (by rw [hA.2.2.2]; exact h6) hs1 (by omega) (by omega))
            exact fun q hq => List.mem_of_mem_take (i := 6) hq
          refine aw_aload_n C dL_fill_59 rfl ?_
          refine aw_iload_n C dL_fill_60 rfl ?_
          refine aw_iconst C dL_fill_61 ?_
          refine aw_shr C dL_fill_62 ?_
          refine aw_iload C dL_fill_63 rfl ?_
          refine aw_iconst C dL_fill_65 ?_
          refine aw_iadd C dL_fill_66 ?_
          refine aw_imul C dL_fill_67 ?_
          refine aw_iload_n C dL_fill_68 rfl ?_
          refine aw_iadd C dL_fill_69 ?_
          refine aw_iload_n C dL_fill_70 rfl ?_
          refine aw_bipush C dL_fill_71 rfl ?_
          refine aw_shr C dL_fill_73 ?_
          refine aw_iconst C dL_fill_74 ?_
          refine cS2i C hN (c_L_at (by omega)) (va_cwS 2 hts gL_fill_L_at rfl rfl rfl (by decide +kernel) ⟨Nat.le_of_ble_eq_true rfl, Nat.le_of_ble_eq_true rfl⟩) rfl dL_fill_75 ⟨by show _ ≤ 32; omega, by show _ ≤ 192; omega⟩ (fun r75 u75 q75 => ?_)
          obtain ⟨rfl, rfl⟩ := q75
          have h75 := atI_b (v := shrI y 9) (n := 2) (by omega)
          refine aw_if_ne (tgt := 85) C dL_fill_78 (by decide) (by omega) (fun c78 => ?_) (fun c78 => ?_)
          · refine aw_iconst C dL_fill_85 ?_
            exact K86 5 (by rw [if_neg c78])
          · refine aw_iconst C dL_fill_81 ?_
            refine aw_goto (tgt := 86) C dL_fill_82 (by decide) ?_
            exact K86 3 (by rw [if_pos c78])
  refine aw_aload_n C dL_fill_0 rfl ?_
  refine aw_iload_n C dL_fill_1 rfl ?_
  refine aw_iconst C dL_fill_2 ?_
  refine aw_bipush C dL_fill_3 rfl ?_
  refine cX3 (ci := 2) (q0 := 0) C X (c_X2_begin hl (by omega) (by omega) (by omega)) (cwV 3 hts gL_fill_X2_begin rfl rfl rfl (by decide +kernel) ⟨Nat.le_of_ble_eq_true rfl, Nat.le_of_ble_eq_true rfl⟩) rfl rfl rfl rfl dL_fill_5 ⟨by show _ ≤ 32; omega, by show _ ≤ 192; omega⟩ (fun E u q => by have h9 := q.1; have h8 := hk; omega) (fun r5 u5 q5 => ?_)
  obtain ⟨-, rfl, P5, rfl⟩ := q5
  refine aw_pop C dL_fill_8 rfl ?_
  refine aw_iload_n C dL_fill_9 rfl ?_
  refine aw_bipush C dL_fill_10 rfl ?_
  refine cS2i C hN (c_L_at (by omega)) (va_cwS 2 hts gL_fill_L_at rfl rfl rfl (by decide +kernel) ⟨Nat.le_of_ble_eq_true rfl, Nat.le_of_ble_eq_true rfl⟩) rfl dL_fill_12 ⟨by show _ ≤ 32; omega, by show _ ≤ 192; omega⟩ (fun r12 u12 q12 => ?_)
  obtain ⟨rfl, rfl⟩ := q12
  refine aw_istore C dL_fill_15 rfl rfl ?_
  refine aw_iconst C dL_fill_17 ?_
  refine aw_istore C dL_fill_18 rfl rfl ?_
  have hB := JL.beg hI hn.1 hn.2
  exact lp 14 0 (sBeg S n 5 6) P5 _ _ (by omega) (by omega) hB.1 (by omega) hB.2.2 sees_beg (by omega) (by omega)
