theorem JL.over {n : Int} {S : St} {Q : PcL} (h : JL n S) (hs : seesL S Q) {i : Int} (h0 : 0 ≤ i) (h5 : i < 5) (hp : 0 < S.2 0 i) : fwL Q ≤ chg (S.1 8) (S.2 1 (atS S i 0)) + fwS (relS S i) ((relS S i).1 8) := by
  have h2 := fw_sees (inv_rel h.1 h0 h5 hp).1 (sees_rel hs h0 h5 hp)
  have h3 := hs.2.2 i 0 h0 h5 (Int.le_refl 0) hp
  have ea : atS S i 0 = S.2 (10 + i.toNat) 0 := if_pos ⟨Int.le_refl 0, hp⟩
  rw [wt_def] at h3
  rw [h2, ea, h3, hs.1]
  exact fwL_le (fun j j0 j5 => by rw [← hs.2.1 j j0 j5]; exact (h.1.1.2.1 j j0 j5).1) h0 h5 (by rw [← hs.2.1 i h0 h5]; exact hp)
set_option maxHeartbeats 4000000 in
set_option maxRecDepth 100000 in
theorem c_L_bounds {l : Launch} (hl : l.stackTraces = false) {G : va_G × (Nat → ClassId)} {sa : Nat → Nat} {ad : Nat → Nat} {S P : St} (hI : Inv2 S) {n x y z due : Int} (hn : 1 ≤ n ∧ n ≤ 5) (hdue : due = fwL (firstP n z 2 (fillP n x y (atI x 13).toNat))) (hd100 : 0 ≤ due ∧ due ≤ 100) : Mn l G sa yL_bounds wsL_bounds ({ frames := 8, cells := 220, slots := 1320, locals := 140 } : Room) [.ref (ad 0), .int (zI n), .int (zI x), .int (zI y), .int (zI z), .int (zI due)] (WX G.2 ad S P) (fun r u => r = 1 ∧ ∃ S1 P1 : St, u = WX G.2 ad S1 P1 ∧ Inv2 S1) 220 1320 := by
  refine Mn.of (own := RL) (cc := cL_bounds) (maxL := 8) (ret := (some .boolean)) hl (by decide) rfl rfl rfl ?_
  intro p e s m args below meth c A C hN X
  have hts := C.2.2.2.2.1
  have hdb : 0 ≤ due ∧ due ≤ 100 := hd100
  have lp : ∀ (j k : Nat) (S1 P1 : St) (cells slots : Nat), (k : Int) ≤ n → n - k < j → Inv2 S1 → cells ≤ 43 * k → slots ≤ 6 * cells → AW p l e (headSpec wsL_bounds ({ frames := 8, cells := 220, slots := 1320, locals := 140 } : Room)).room s m args below meth c 8 G A s.heap (cells) (slots) (MQ below (QPi G (fun r u => r = 1 ∧ ∃ S1 P1 : St, u = WX G.2 ad S1 P1 ∧ Inv2 S1) A) args s 220 1320 A) (WX G.2 ad S1 P1) [(0, .ref (ad 0)), (1, .int (zI n)), (2, .int (zI x)), (3, .int (zI y)), (4, .int (zI z)), (5, .int (zI due)), (6, .int (zI k))] 3 [] := by
    intro j
    induction j with
    | zero =>
      intro k S1 P1 cells slots h1 h2
      exfalso
      omega
    | succ j ih =>
      intro k S1 P1 cells slots h1 h2 hI1 hc hsl
      refine aw_iload C dL_bounds_3 rfl ?_
      refine aw_iload_n C dL_bounds_5 rfl ?_
      refine aw_icmp_ge (tgt := 80) C dL_bounds_6 (by decide) (by omega) (by omega) (fun c6 => ?_) (fun c6 => ?_)
      · refine aw_iconst C dL_bounds_80 ?_
        exact aw_zretN C (by omega) (by omega) dL_bounds_81 rfl ⟨rfl, S1, P1, rfl, hI1⟩
      · refine aw_aload_n C dL_bounds_9 rfl ?_
        refine aw_iload_n C dL_bounds_10 rfl ?_
        refine aw_iload_n C dL_bounds_11 rfl ?_
        refine aw_iload_n C dL_bounds_12 rfl ?_
        refine cM4 C X (c_L_fill hl hI1 hn) (va_cwS 4 hts gL_bounds_L_fill rfl rfl rfl (by decide +kernel) ⟨Nat.le_of_ble_eq_true rfl, Nat.le_of_ble_eq_true rfl⟩) rfl dL_bounds_13 ⟨by show _ ≤ 220; omega, by show _ ≤ 1320; omega⟩ (fun r13 u13 q13 => ?_)
        obtain ⟨S2, P2, rfl, rfl, hJ2, h26, hs2⟩ := q13
        refine aw_pop C dL_bounds_16 rfl ?_
        refine aw_aload_n C dL_bounds_17 rfl ?_
        refine aw_iload_n C dL_bounds_18 rfl ?_
        refine aw_iload C dL_bounds_19 rfl ?_
        refine aw_iconst C dL_bounds_21 ?_
        refine cM4 C X (c_L_first hl hn hJ2 hs2) (va_cwS 4 hts gL_bounds_L_first rfl rfl rfl (by decide +kernel) ⟨Nat.le_of_ble_eq_true rfl, Nat.le_of_ble_eq_true rfl⟩) rfl dL_bounds_22 ⟨by show _ ≤ 220; omega, by show _ ≤ 1320; omega⟩ (fun r22 u22 q22 => ?_)
        obtain ⟨rfl, S3, P3, rfl, hJ3, h35, hs3⟩ := q22
        refine aw_if_ne (tgt := 30) C dL_bounds_25 (by decide) (by decide) (fun c25 => ?_) (fun h => absurd h (by decide))
        have hkl : kLan S3 k = 0 := if_pos ⟨by omega, by rw [hJ3.2.1]; omega⟩
        have hz := hJ3.1.1.2.1 k (by omega) (by omega)
        have hn3 := hJ3.1.1.1
        have hj3 := hJ3.2
        refine aw_aload_n C dL_bounds_30 rfl ?_
        refine aw_iload C dL_bounds_31 rfl ?_
        refine cX1 (ci := 2) (q0 := 0) C X (c_X2_inLane hl hJ3.1.1 (by omega)) (cwV 1 hts gL_bounds_X2_inLane rfl rfl rfl (by decide +kernel) ⟨Nat.le_of_ble_eq_true rfl, Nat.le_of_ble_eq_true rfl⟩) rfl rfl rfl rfl dL_bounds_33 ⟨by show _ ≤ 220; omega, by show _ ≤ 1320; omega⟩ (fun E u q => by have h9 := q.1; have h8 := hkl; omega) (fun r33 u33 q33 => ?_)
        obtain ⟨-, rfl, P33, rfl⟩ := q33
        refine aw_if_ne (tgt := 42) C dL_bounds_36 (by decide) (by omega) (fun c36 => ?_) (fun c36 => ?_)
        · have hp : 0 < S3.2 0 k := by omega
          have hcn := hJ3.cn
          obtain ⟨q1, q2, q3, q4, q5, q6, q7, q8, q9, q10, q11⟩ := hJ3.rel (show (0 : Int) ≤ k by omega) (by omega) hp
          have hkr : kReF S3 k = 0 := by
            unfold kReF
            rw [if_neg (fun x => x ⟨by omega, by rw [hJ3.2.1]; omega⟩), if_neg (by omega)]
          have hov := hJ3.over hs3 (show (0 : Int) ≤ k by omega) (by omega) hp
          have hg := chg_b (S3.1 8) (S3.2 1 (atS S3 k 0))
          have e9 : (relS S3 k).1 9 = S3.1 9 + chg (S3.1 8) (S3.2 1 (atS S3 k 0)) := rfl
          have hfb := fw_b q2.1 ((relS S3 k).1 8)
          have hsm := hJ3.2.2.2.2.2.1
          have z0 := q2.1.2.1 0 (by omega) (by omega)
          have z1 := q2.1.2.1 1 (by omega) (by omega)
          have z2 := q2.1.2.1 2 (by omega) (by omega)
          have z3 := q2.1.2.1 3 (by omega) (by omega)
          have z4 := q2.1.2.1 4 (by omega) (by omega)
          have z5 := q2.1.1
          refine aw_aload_n C dL_bounds_42 rfl ?_
          refine cV0i (ci := 2) (q0 := 0) C hN (c_X2_changes) (cwV 0 hts gL_bounds_X2_changes rfl rfl rfl (by decide +kernel) ⟨Nat.le_of_ble_eq_true rfl, Nat.le_of_ble_eq_true rfl⟩) rfl rfl rfl rfl dL_bounds_43 ⟨by show _ ≤ 220; omega, by show _ ≤ 1320; omega⟩ (fun r43 u43 q43 => ?_)
          obtain ⟨rfl, rfl⟩ := q43
          refine aw_istore C dL_bounds_46 rfl rfl ?_
          refine aw_aload_n C dL_bounds_48 rfl ?_
          refine aw_iload C dL_bounds_49 rfl ?_
          refine cX1 (ci := 2) (q0 := 0) C X (c_X2_releaseFrom hl hJ3.1.1 (by omega)) (cwV 1 hts gL_bounds_X2_releaseFrom rfl rfl rfl (by decide +kernel) ⟨Nat.le_of_ble_eq_true rfl, Nat.le_of_ble_eq_true rfl⟩) rfl rfl rfl rfl dL_bounds_51 ⟨by show _ ≤ 220; omega, by show _ ≤ 1320; omega⟩ (fun E u q => by have h9 := q.1; have h8 := hkr; omega) (fun r51 u51 q51 => ?_)
          obtain ⟨-, rfl, P51, rfl⟩ := q51
          refine aw_pop C dL_bounds_54 rfl ?_
          refine aw_aload_n C dL_bounds_55 rfl ?_
          refine cV0i (ci := 2) (q0 := 0) C hN (c_X2_changes) (cwV 0 hts gL_bounds_X2_changes rfl rfl rfl (by decide +kernel) ⟨Nat.le_of_ble_eq_true rfl, Nat.le_of_ble_eq_true rfl⟩) rfl rfl rfl rfl dL_bounds_56 ⟨by show _ ≤ 220; omega, by show _ ≤ 1320; omega⟩ (fun r56 u56 q56 => ?_)
          obtain ⟨rfl, rfl⟩ := q56
          refine aw_iload C dL_bounds_59 rfl ?_
          refine aw_isub C dL_bounds_61 ?_
          refine aw_aload_n C dL_bounds_62 rfl ?_
          refine cX0 (ci := 2) (q0 := 0) C X (c_X2_fewestChanges hl q2.1) (cwV 0 hts gL_bounds_X2_fewestChanges rfl rfl rfl (by decide +kernel) ⟨Nat.le_of_ble_eq_true rfl, Nat.le_of_ble_eq_true rfl⟩) rfl rfl rfl rfl dL_bounds_63 ⟨by show _ ≤ 220; omega, by show _ ≤ 1320; omega⟩ (fun E u q => by have h9 := q.1; have h8 := q6; omega) (fun r63 u63 q63 => ?_)
          obtain ⟨-, rfl, P63, rfl⟩ := q63
          refine aw_iadd C dL_bounds_66 ?_
          refine aw_iload C dL_bounds_67 rfl ?_
          refine aw_icmp_ge (tgt := 74) C dL_bounds_69 (by decide) (by omega) (by omega) (fun c69 => ?_) (fun h => absurd h (by omega))
          refine aw_iinc C dL_bounds_74 rfl rfl rfl ?_
          refine aw_goto (tgt := 3) C dL_bounds_77 (by decide) ?_
          refine aw_less ?_ (ih (k + 1) (relS S3 k) P63 _ _ (by omega) (by omega) q2 (by omega) (by omega))
          exact fun q hq => List.mem_of_mem_take (i := 7) hq
        · refine aw_goto (tgt := 74) C dL_bounds_39 (by decide) ?_
          refine aw_iinc C dL_bounds_74 rfl rfl rfl ?_
          refine aw_goto (tgt := 3) C dL_bounds_77 (by decide) ?_
          refine aw_less ?_ (ih (k + 1) S3 P33 _ _ (by omega) (by omega) hJ3.1 (by omega) (by omega))
          exact fun q hq => List.mem_of_mem_take (i := 7) hq
  refine aw_iconst C dL_bounds_0 ?_
  refine aw_istore C dL_bounds_1 rfl rfl ?_
  exact lp 6 0 S P _ _ (by omega) (by omega) hI (by omega) (by omega)
