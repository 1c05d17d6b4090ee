set_option maxHeartbeats 4000000 in
set_option maxRecDepth 100000 in
theorem c_L_round {l : Launch} (hl : l.stackTraces = false) {G : va_G × (Nat → ClassId)} {sa : Nat → Nat} {ad : Nat → Nat} {S P : St} (hI : Inv2 S) {x y z : Int} : Mn l G sa yL_round wsL_round ({ frames := 12, cells := 360, slots := 2160, locals := 325 } : Room) [.ref (ad 0), .int (zI x), .int (zI y), .int (zI z)] (WX G.2 ad S P) (fun r u => r = 1 ∧ ∃ S1 P1 : St, u = WX G.2 ad S1 P1 ∧ Inv2 S1) 360 2160 := by
  refine Mn.of (own := RL) (cc := cL_round) (maxL := 7) (ret := (some .boolean)) hl (by decide) rfl rfl rfl ?_
  intro p e s m args below meth c A C hN X
  have hts := C.2.2.2.2.1
  have hn9 := atI_b (v := shrI z 9) (n := 5) (by omega)
  refine aw_iconst C dL_round_0 ?_
  refine aw_iload_n C dL_round_1 rfl ?_
  refine aw_bipush C dL_round_2 rfl ?_
  refine aw_shr C dL_round_4 ?_
  refine aw_iconst C dL_round_5 ?_
  refine cS2i C hN (c_L_at (by omega)) (va_cwS 2 hts gL_round_L_at rfl rfl rfl (by decide +kernel) ⟨Nat.le_of_ble_eq_true rfl, Nat.le_of_ble_eq_true rfl⟩) rfl dL_round_6 ⟨by show _ ≤ 360; omega, by show _ ≤ 2160; omega⟩ (fun r6 u6 q6 => ?_)
  obtain ⟨rfl, rfl⟩ := q6
  refine aw_iadd C dL_round_9 ?_
  have hn : 1 ≤ 1 + atI (shrI z 9) 5 ∧ 1 + atI (shrI z 9) 5 ≤ 5 := by omega
  generalize 1 + atI (shrI z 9) 5 = n at hn ⊢
  refine aw_istore C dL_round_10 rfl rfl ?_
  refine aw_aload_n C dL_round_12 rfl ?_
  refine aw_iload C dL_round_13 rfl ?_
  refine aw_iload_n C dL_round_15 rfl ?_
  refine aw_iload_n C dL_round_16 rfl ?_
  refine cM4 C X (c_L_fill hl hI hn) (va_cwS 4 hts gL_round_L_fill rfl rfl rfl (by decide +kernel) ⟨Nat.le_of_ble_eq_true rfl, Nat.le_of_ble_eq_true rfl⟩) rfl dL_round_17 ⟨by show _ ≤ 360; omega, by show _ ≤ 2160; omega⟩ (fun r17 u17 q17 => ?_)
  obtain ⟨S2, P2, rfl, rfl, hJ2, h26, hs2⟩ := q17
  refine aw_istore C dL_round_20 rfl rfl ?_
  refine aw_aload_n C dL_round_22 rfl ?_
  refine aw_iload C dL_round_23 rfl ?_
  refine aw_iload_n C dL_round_25 rfl ?_
  refine aw_iconst C dL_round_26 ?_
  refine cM4 C X (c_L_first hl hn hJ2 hs2) (va_cwS 4 hts gL_round_L_first rfl rfl rfl (by decide +kernel) ⟨Nat.le_of_ble_eq_true rfl, Nat.le_of_ble_eq_true rfl⟩) rfl dL_round_27 ⟨by show _ ≤ 360; omega, by show _ ≤ 2160; omega⟩ (fun r27 u27 q27 => ?_)
  obtain ⟨rfl, S3, P3, rfl, hJ3, h35, hs3⟩ := q27
  refine aw_if_ne (tgt := 35) C dL_round_30 (by decide) (by decide) (fun c30 => ?_) (fun h => absurd h (by decide))
  have hn3 := hJ3.1.1.1
  have hj3 := hJ3.2
  have hkf : kFew S3 12 = 0 := by
    unfold kFew
    rw [nlS_5 hJ3.1.1, if_neg (by omega)]
  have hfb := fw_b hJ3.1.1 (S3.1 8)
  refine aw_aload_n C dL_round_35 rfl ?_
  refine cX0 (ci := 2) (q0 := 0) C X (c_X2_fewestChanges hl hJ3.1.1) (cwV 0 hts gL_round_X2_fewestChanges rfl rfl rfl (by decide +kernel) ⟨Nat.le_of_ble_eq_true rfl, Nat.le_of_ble_eq_true rfl⟩) rfl rfl rfl rfl dL_round_36 ⟨by show _ ≤ 360; omega, by show _ ≤ 2160; omega⟩ (fun E u q => by have h9 := q.1; have h8 := hkf; omega) (fun r36 u36 q36 => ?_)
  obtain ⟨-, rfl, P36, rfl⟩ := q36
  refine aw_istore C dL_round_39 rfl rfl ?_
  refine aw_iload C dL_round_41 rfl ?_
  refine aw_if_lt (tgt := 74) C dL_round_43 (by decide) (by omega) (fun h => absurd h (by omega)) (fun c43 => ?_)
  refine aw_iload C dL_round_46 rfl ?_
  refine aw_iload C dL_round_48 rfl ?_
  refine aw_icmp_gt (tgt := 74) C dL_round_50 (by decide) (by omega) (by omega) (fun h => absurd h (by omega)) (fun c50 => ?_)
  have K76 : ∀ (P4 : St) (cells slots : Nat), cells ≤ 42 → slots ≤ 6 * cells → AW p l e (headSpec wsL_round ({ frames := 12, cells := 360, slots := 2160, locals := 325 } : Room)).room s m args below meth c 7 G A s.heap (cells) (slots) (MQ below (QPi G (fun r u => r = 1 ∧ ∃ S1 P1 : St, u = WX G.2 ad S1 P1 ∧ Inv2 S1) A) args s 360 2160 A) (WX G.2 ad S3 P4) [(0, .ref (ad 0)), (1, .int (zI x)), (2, .int (zI y)), (3, .int (zI z)), (4, .int (zI n)), (5, .int (zI (S2.1 5))), (6, .int (zI (fwS S3 (S3.1 8))))] 76 [] := by
    intro P4 cells slots hc hsl
    refine aw_aload_n C dL_round_76 rfl ?_
    refine aw_iload C dL_round_77 rfl ?_
    refine cM2 C X (c_L_follows hl hJ3 rfl) (va_cwS 2 hts gL_round_L_follows rfl rfl rfl (by decide +kernel) ⟨Nat.le_of_ble_eq_true rfl, Nat.le_of_ble_eq_true rfl⟩) rfl dL_round_79 ⟨by show _ ≤ 360; omega, by show _ ≤ 2160; omega⟩ (fun r79 u79 q79 => ?_)
    obtain ⟨rfl, S4, P5, rfl, hJ4, h45, h46⟩ := q79
    refine aw_if_eq (tgt := 94) C dL_round_82 (by decide) (by decide) (fun h => absurd h (by decide)) (fun c82 => ?_)
    have e5 : S2.1 5 = S4.1 5 := by omega
    rw [e5]
    refine aw_aload_n C dL_round_85 rfl ?_
    refine aw_iload C dL_round_86 rfl ?_
    refine cM2 C X (c_L_ends hl hJ4 h46) (va_cwS 2 hts gL_round_L_ends rfl rfl rfl (by decide +kernel) ⟨Nat.le_of_ble_eq_true rfl, Nat.le_of_ble_eq_true rfl⟩) rfl dL_round_88 ⟨by show _ ≤ 360; omega, by show _ ≤ 2160; omega⟩ (fun r88 u88 q88 => ?_)
    obtain ⟨rfl, P6, rfl⟩ := q88
    refine aw_if_ne (tgt := 96) C dL_round_91 (by decide) (by decide) (fun c91 => ?_) (fun h => absurd h (by decide))
    refine aw_aload_n C dL_round_96 rfl ?_
    refine aw_iload C dL_round_97 rfl ?_
    refine aw_iload_n C dL_round_99 rfl ?_
    refine aw_iload_n C dL_round_100 rfl ?_
    refine aw_iload_n C dL_round_101 rfl ?_
    refine aw_iload C dL_round_102 rfl ?_
    refine cM6 C X (c_L_bounds hl hJ4.1 hn (fw_sees hJ3.1.1 hs3) (by omega)) (va_cwS 6 hts gL_round_L_bounds rfl rfl rfl (by decide +kernel) ⟨Nat.le_of_ble_eq_true rfl, Nat.le_of_ble_eq_true rfl⟩) rfl dL_round_104 ⟨by show _ ≤ 360; omega, by show _ ≤ 2160; omega⟩ (fun r104 u104 q104 => ?_)
    obtain ⟨rfl, S7, P7, rfl, hI7⟩ := q104
    exact aw_zretN C (by omega) (by omega) dL_round_107 rfl ⟨rfl, S7, P7, rfl, hI7⟩
  refine aw_iload C dL_round_53 rfl ?_
  refine aw_aload_n C dL_round_55 rfl ?_
  refine cV0i (ci := 2) (q0 := 0) C hN (c_X2_released) (cwV 0 hts gL_round_X2_released rfl rfl rfl (by decide +kernel) ⟨Nat.le_of_ble_eq_true rfl, Nat.le_of_ble_eq_true rfl⟩) rfl rfl rfl rfl dL_round_56 ⟨by show _ ≤ 360; omega, by show _ ≤ 2160; omega⟩ (fun r56 u56 q56 => ?_)
  obtain ⟨rfl, rfl⟩ := q56
  refine aw_isub C dL_round_59 ?_
  refine aw_bipush C dL_round_60 rfl ?_
  refine aw_icmp_ge (tgt := 76) C dL_round_62 (by decide) (by omega) (by omega) (fun c62 => ?_) (fun c62 => ?_)
  · exact K76 P36 _ _ (by omega) (by omega)
  · have hkb : kFew S3 8 = 0 := by
      unfold kFew
      rw [nlS_5 hJ3.1.1, if_neg (by omega)]
    refine aw_aload_n C dL_round_65 rfl ?_
    refine cX0 (ci := 2) (q0 := 0) C X (c_X2_fewestByAll hl hJ3.1.1) (cwV 0 hts gL_round_X2_fewestByAll rfl rfl rfl (by decide +kernel) ⟨Nat.le_of_ble_eq_true rfl, Nat.le_of_ble_eq_true rfl⟩) rfl rfl rfl rfl dL_round_66 ⟨by show _ ≤ 360; omega, by show _ ≤ 2160; omega⟩ (fun E u q => by have h9 := q.1; have h8 := hkb; omega) (fun r66 u66 q66 => ?_)
    obtain ⟨-, rfl, P66, rfl⟩ := q66
    refine aw_iload C dL_round_69 rfl ?_
    refine aw_icmp_eq (tgt := 76) C dL_round_71 (by decide) (by omega) (by omega) (fun c71 => ?_) (fun h => absurd h (fun x => x rfl))
    exact K76 P66 _ _ (by omega) (by omega)
