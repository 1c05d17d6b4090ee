set_option maxHeartbeats 4000000 in
set_option maxRecDepth 100000 in
theorem c_L_ends {l : Launch} (hl : l.stackTraces = false) {G : va_G × (Nat → ClassId)} {sa : Nat → Nat} {ad : Nat → Nat} {S P : St} {n : Int} (hJ : JL n S) (he : S.1 6 = S.1 5) : Mn l G sa yL_ends wsL_ends ({ frames := 7, cells := 48, slots := 288, locals := 111 } : Room) [.ref (ad 0), .int (zI (S.1 5))] (WX G.2 ad S P) (fun r u => r = 1 ∧ ∃ P1 : St, u = WX G.2 ad S P1) 48 288 := by
  refine Mn.of (own := RL) (cc := cL_ends) (maxL := 7) (ret := (some .boolean)) hl (by decide) rfl rfl rfl ?_
  intro p e s m args below meth c A C hN X
  have hts := C.2.2.2.2.1
  have hn0 := hJ.1.1.1
  have hj0 := hJ.2
  have hpm := ord_prm hJ.1.1 he
  have lp : ∀ (j k : Nat) (P1 : St) (cells slots : Nat), (k : Int) ≤ S.1 5 → S.1 5 - k < j → cells ≤ 4 * k → slots ≤ 6 * cells → AW p l e (headSpec wsL_ends ({ frames := 7, cells := 48, slots := 288, locals := 111 } : Room)).room s m args below meth c 7 G A s.heap (cells) (slots) (MQ below (QPi G (fun r u => r = 1 ∧ ∃ P1 : St, u = WX G.2 ad S P1) A) args s 48 288 A) (WX G.2 ad S P1) [(0, .ref (ad 0)), (1, .int (zI (S.1 5))), (2, .int (zI (sumN (fun j => j - S.2 3 j) k))), (3, .int (zI (seenL (S.2 3) k).toInt)), (4, .int (zI (wlN S k))), (5, .int (zI k))] 10 [] := by
    intro j
    induction j with
    | zero =>
      intro k P1 cells slots h1 h2
      exfalso
      omega
    | succ j ih =>
      intro k P1 cells slots h1 h2 hc hsl
      have hw := wl_b hJ.1.1 k (by omega)
      have hsb := sum_b (f := fun j => j - S.2 3 j) k (fun j j0 j1 => by have := lat_at hJ.1.1 j0 (show j < S.1 6 by omega); omega)
      refine aw_iload C dL_ends_10 rfl ?_
      refine aw_iload_n C dL_ends_12 rfl ?_
      refine aw_icmp_ge (tgt := 70) C dL_ends_13 (by decide) (by omega) (by omega) (fun c13 => ?_) (fun c13 => ?_)
      · have e9 : (S.1 5).toNat = k := by omega
        have e8 : (k : Int) = S.1 5 := by omega
        rw [e9] at hpm
        have h0 := sum_late hpm
        have hsa := seen_all hpm (by omega)
        have hbr := b1_rng ⟨k, by omega⟩
        have hsI : (seenL (S.2 3) k).toInt = (b1L k).toInt - 1 := by
          rw [hsa]
          have e5 : b1L k - zI 1 = zI ((b1L k).toInt - 1) := by rw [← zI_sub, zI_self]
          rw [e5, zI_toInt (by have h7 : 1 ≤ (b1L k).toInt ∧ (b1L k).toInt ≤ 4096 := hbr; omega)]
        have hbr2 : 1 ≤ (b1L k).toInt ∧ (b1L k).toInt ≤ 4096 := hbr
        refine aw_iload_n C dL_ends_70 rfl ?_
        refine aw_if_ne (tgt := 103) C dL_ends_71 (by decide) (by omega) (fun h => absurd h (fun x => x h0)) (fun c71 => ?_)
        refine aw_iload_n C dL_ends_74 rfl ?_
        refine aw_iconst C dL_ends_75 ?_
        refine aw_iload_n C dL_ends_76 rfl ?_
        refine aw_ishl (z := (b1L k).toInt) C dL_ends_77 (by rw [zI_self, ← e8]; rfl) ?_
        refine aw_iconst C dL_ends_78 ?_
        refine aw_isub C dL_ends_79 ?_
        refine aw_icmp_ne (tgt := 103) C dL_ends_80 (by decide) (by omega) (by omega) (fun h => absurd h (fun x => x hsI)) (fun c80 => ?_)
        refine aw_aload_n C dL_ends_83 rfl ?_
        refine cV0i (ci := 2) (q0 := 0) C hN (c_X2_worstLateness hJ.1.1) (cwV 0 hts gL_ends_X2_worstLateness rfl rfl rfl (by decide +kernel) ⟨Nat.le_of_ble_eq_true rfl, Nat.le_of_ble_eq_true rfl⟩) rfl rfl rfl rfl dL_ends_84 ⟨by show _ ≤ 48; omega, by show _ ≤ 288; omega⟩ (fun r84 u84 q84 => ?_)
        obtain ⟨rfl, rfl⟩ := q84
        have e6 : (S.1 6).toNat = k := by omega
        rw [e6]
        refine aw_iload C dL_ends_87 rfl ?_
        refine aw_icmp_ne (tgt := 103) C dL_ends_89 (by decide) (by omega) (by omega) (fun h => absurd h (fun x => x rfl)) (fun c89 => ?_)
        refine aw_aload_n C dL_ends_92 rfl ?_
        refine cV0i (ci := 2) (q0 := 0) C hN (c_X2_stored hJ.1.1) (cwV 0 hts gL_ends_X2_stored rfl rfl rfl (by decide +kernel) ⟨Nat.le_of_ble_eq_true rfl, Nat.le_of_ble_eq_true rfl⟩) rfl rfl rfl rfl dL_ends_93 ⟨by show _ ≤ 48; omega, by show _ ≤ 288; omega⟩ (fun r93 u93 q93 => ?_)
        obtain ⟨rfl, rfl⟩ := q93
        have hcn := hJ.cn
        refine aw_if_ne (tgt := 103) C dL_ends_96 (by decide) (by omega) (fun h => absurd h (fun x => x hcn)) (fun c96 => ?_)
        refine aw_iconst C dL_ends_99 ?_
        refine aw_goto (tgt := 104) C dL_ends_100 (by decide) ?_
        exact aw_zretN C (by omega) (by omega) dL_ends_104 rfl ⟨rfl, P1, rfl⟩
      · obtain ⟨qa, qb, qc, qd⟩ := lat_at hJ.1.1 (k := k) (by omega) (by omega)
        have K62 : ∀ (v : Int) (P2 : St) (cells2 slots2 : Nat), v = wlN S (k + 1) → cells2 ≤ 4 * (k + 1) → slots2 ≤ 6 * cells2 → AW p l e (headSpec wsL_ends ({ frames := 7, cells := 48, slots := 288, locals := 111 } : Room)).room s m args below meth c 7 G A s.heap (cells2) (slots2) (MQ below (QPi G (fun r u => r = 1 ∧ ∃ P1 : St, u = WX G.2 ad S P1) A) args s 48 288 A) (WX G.2 ad S P2) [(0, .ref (ad 0)), (1, .int (zI (S.1 5))), (2, .int (zI (sumN (fun j => j - S.2 3 j) k + (k - S.2 3 k)))), (3, .int (zI (seenL (S.2 3) (k + 1)).toInt)), (4, .int (zI (wlN S k))), (5, .int (zI k)), (6, .int (zI (S.2 3 k)))] 62 [.int (zI v)] := by
          intro v P2 cells2 slots2 hv hc2 hs2
          subst hv
          refine aw_istore C dL_ends_62 rfl rfl ?_
          refine aw_iinc C dL_ends_64 rfl rfl rfl ?_
          refine aw_goto (tgt := 10) C dL_ends_67 (by decide) ?_
          refine aw_less ?_ (ih (k + 1) P2 cells2 slots2 (by omega) (by omega) hc2 hs2)
          exact fun q hq => List.mem_of_mem_take (i := 6) hq
        refine aw_aload_n C dL_ends_16 rfl ?_
        refine aw_iload C dL_ends_17 rfl ?_
        refine cX1 (ci := 2) (q0 := 0) C X (c_X2_assembledAt hl hJ.1.1 (by omega)) (cwV 1 hts gL_ends_X2_assembledAt rfl rfl rfl (by decide +kernel) ⟨Nat.le_of_ble_eq_true rfl, Nat.le_of_ble_eq_true rfl⟩) rfl rfl rfl rfl dL_ends_19 ⟨by show _ ≤ 48; omega, by show _ ≤ 288; omega⟩ (fun E u q => by have h9 := q.1; have h8 := qa; omega) (fun r19 u19 q19 => ?_)
        obtain ⟨-, rfl, P19, rfl⟩ := q19
        refine aw_istore C dL_ends_22 rfl rfl ?_
        refine aw_iload_n C dL_ends_24 rfl ?_
        refine aw_iconst C dL_ends_25 ?_
        refine aw_iload C dL_ends_26 rfl ?_
        refine aw_ishl (z := (b1L (S.2 3 k)).toInt) C dL_ends_28 (by rw [zI_self]; rfl) ?_
        refine aw_ior (z := (seenL (S.2 3) (k + 1)).toInt) C dL_ends_29 (by rw [zI_self, zI_self, zI_self]; rfl) ?_
        refine aw_istore_n C dL_ends_30 rfl rfl ?_
        refine aw_iload_n C dL_ends_31 rfl ?_
        refine aw_aload_n C dL_ends_32 rfl ?_
        refine aw_iload C dL_ends_33 rfl ?_
        refine cX1 (ci := 2) (q0 := 0) C X (c_X2_lateness hl hJ.1.1 (by omega)) (cwV 1 hts gL_ends_X2_lateness rfl rfl rfl (by decide +kernel) ⟨Nat.le_of_ble_eq_true rfl, Nat.le_of_ble_eq_true rfl⟩) rfl rfl rfl rfl dL_ends_35 ⟨by show _ ≤ 48; omega, by show _ ≤ 288; omega⟩ (fun E u q => by have h9 := q.1; have h8 := qc; omega) (fun r35 u35 q35 => ?_)
        obtain ⟨-, rfl, P35, rfl⟩ := q35
        rw [qd]
        refine aw_iadd C dL_ends_38 ?_
        refine aw_istore_n C dL_ends_39 rfl rfl ?_
        refine aw_aload_n C dL_ends_40 rfl ?_
        refine aw_iload C dL_ends_41 rfl ?_
        refine cX1 (ci := 2) (q0 := 0) C X (c_X2_lateness hl hJ.1.1 (by omega)) (cwV 1 hts gL_ends_X2_lateness rfl rfl rfl (by decide +kernel) ⟨Nat.le_of_ble_eq_true rfl, Nat.le_of_ble_eq_true rfl⟩) rfl rfl rfl rfl dL_ends_43 ⟨by show _ ≤ 48; omega, by show _ ≤ 288; omega⟩ (fun E u q => by have h9 := q.1; have h8 := qc; omega) (fun r43 u43 q43 => ?_)
        obtain ⟨-, rfl, P43, rfl⟩ := q43
        rw [qd]
        refine aw_iload C dL_ends_46 rfl ?_
        refine aw_icmp_le (tgt := 60) C dL_ends_48 (by decide) (by omega) (by omega) (fun c48 => ?_) (fun c48 => ?_)
        · refine aw_iload C dL_ends_60 rfl ?_
          exact K62 (wlN S k) P43 _ _ (if_neg (by omega)).symm (by omega) (by omega)
        · refine aw_aload_n C dL_ends_51 rfl ?_
          refine aw_iload C dL_ends_52 rfl ?_
          refine cX1 (ci := 2) (q0 := 0) C X (c_X2_lateness hl hJ.1.1 (by omega)) (cwV 1 hts gL_ends_X2_lateness rfl rfl rfl (by decide +kernel) ⟨Nat.le_of_ble_eq_true rfl, Nat.le_of_ble_eq_true rfl⟩) rfl rfl rfl rfl dL_ends_54 ⟨by show _ ≤ 48; omega, by show _ ≤ 288; omega⟩ (fun E u q => by have h9 := q.1; have h8 := qc; omega) (fun r54 u54 q54 => ?_)
          obtain ⟨-, rfl, P54, rfl⟩ := q54
          rw [qd]
          refine aw_goto (tgt := 62) C dL_ends_57 (by decide) ?_
          exact K62 ((k : Int) - S.2 3 k) P54 _ _ (if_pos (by omega)).symm (by omega) (by omega)
  refine aw_iconst C dL_ends_0 ?_
  refine aw_istore_n C dL_ends_1 rfl rfl ?_
  refine aw_iconst C dL_ends_2 ?_
  refine aw_istore_n C dL_ends_3 rfl rfl ?_
  refine aw_iconst C dL_ends_4 ?_
  refine aw_istore C dL_ends_5 rfl rfl ?_
  refine aw_iconst C dL_ends_7 ?_
  refine aw_istore C dL_ends_8 rfl rfl ?_
  exact lp 13 0 P _ _ (by omega) (by omega) (by omega) (by omega)
