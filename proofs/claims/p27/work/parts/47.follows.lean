set_option maxHeartbeats 4000000 in
set_option maxRecDepth 100000 in
theorem c_L_follows {l : Launch} (hl : l.stackTraces = false) {G : va_G × (Nat → ClassId)} {sa : Nat → Nat} {ad : Nat → Nat} {S P : St} {n due : Int} (hJ : JL n S) (hdue : due = fwS S (S.1 8)) : Mn l G sa yL_follows wsL_follows ({ frames := 7, cells := 40, slots := 240, locals := 137 } : Room) [.ref (ad 0), .int (zI due)] (WX G.2 ad S P) (fun r u => r = 1 ∧ ∃ S1 P1 : St, u = WX G.2 ad S1 P1 ∧ JL n S1 ∧ S1.1 5 = S.1 5 ∧ S1.1 6 = S1.1 5) 40 240 := by
  refine Mn.of (own := RL) (cc := cL_follows) (maxL := 6) (ret := (some .boolean)) hl (by decide) rfl rfl rfl ?_
  intro p e s m args below meth c A C hN X
  have hts := C.2.2.2.2.1
  have hdb := fw_b hJ.1.1 (S.1 8)
  have lp : ∀ (j : Nat) (S1 P1 : St) (cells slots : Nat), S1.1 5 - S1.1 6 < j → JL n S1 → S1.1 5 = S.1 5 → S1.1 9 + fwS S1 (S1.1 8) = S.1 9 + due → (cells : Int) ≤ 3 * S1.1 6 → slots ≤ 6 * cells → AW p l e (headSpec wsL_follows ({ frames := 7, cells := 40, slots := 240, locals := 137 } : Room)).room s m args below meth c 6 G A s.heap (cells) (slots) (MQ below (QPi G (fun r u => r = 1 ∧ ∃ S1 P1 : St, u = WX G.2 ad S1 P1 ∧ JL n S1 ∧ S1.1 5 = S.1 5 ∧ S1.1 6 = S1.1 5) A) args s 40 240 A) (WX G.2 ad S1 P1) [(0, .ref (ad 0)), (1, .int (zI due)), (2, .int (zI (S.1 9))), (3, .int (zI (fwS S1 (S1.1 8))))] 7 [] := by
    intro j
    induction j with
    | zero =>
      intro S1 P1 cells slots h2 hJ1
      exfalso
      have := hJ1.1.1.1
      omega
    | succ j ih =>
      intro S1 P1 cells slots h2 hJ1 h5 hch hc hsl
      have hn1 := hJ1.1.1.1
      have hj1 := hJ1.2
      have hfb := fw_b hJ1.1.1 (S1.1 8)
      have hj0 := hJ.2
      have hn0 := hJ.1.1.1
      refine aw_aload_n C dL_follows_7 rfl ?_
      refine cV0i (ci := 2) (q0 := 0) C hN (c_X2_released) (cwV 0 hts gL_follows_X2_released rfl rfl rfl (by decide +kernel) ⟨Nat.le_of_ble_eq_true rfl, Nat.le_of_ble_eq_true rfl⟩) rfl rfl rfl rfl dL_follows_8 ⟨by show _ ≤ 40; omega, by show _ ≤ 240; omega⟩ (fun r8 u8 q8 => ?_)
      obtain ⟨rfl, rfl⟩ := q8
      refine aw_aload_n C dL_follows_11 rfl ?_
      refine cV0i (ci := 2) (q0 := 0) C hN (c_X2_bodies) (cwV 0 hts gL_follows_X2_bodies rfl rfl rfl (by decide +kernel) ⟨Nat.le_of_ble_eq_true rfl, Nat.le_of_ble_eq_true rfl⟩) rfl rfl rfl rfl dL_follows_12 ⟨by show _ ≤ 40; omega, by show _ ≤ 240; omega⟩ (fun r12 u12 q12 => ?_)
      obtain ⟨rfl, rfl⟩ := q12
      refine aw_icmp_ge (tgt := 62) C dL_follows_15 (by decide) (by omega) (by omega) (fun c15 => ?_) (fun c15 => ?_)
      · have he : S1.1 6 = S1.1 5 := by omega
        have h0 := hJ1.none he
        refine aw_iload_n C dL_follows_62 rfl ?_
        refine aw_if_ne (tgt := 80) C dL_follows_63 (by decide) (by omega) (fun h => absurd h (fun x => x h0)) (fun c63 => ?_)
        refine aw_aload_n C dL_follows_66 rfl ?_
        refine cV0i (ci := 2) (q0 := 0) C hN (c_X2_changes) (cwV 0 hts gL_follows_X2_changes rfl rfl rfl (by decide +kernel) ⟨Nat.le_of_ble_eq_true rfl, Nat.le_of_ble_eq_true rfl⟩) rfl rfl rfl rfl dL_follows_67 ⟨by show _ ≤ 40; omega, by show _ ≤ 240; omega⟩ (fun r67 u67 q67 => ?_)
        obtain ⟨rfl, rfl⟩ := q67
        refine aw_iload_n C dL_follows_70 rfl ?_
        refine aw_iload_n C dL_follows_71 rfl ?_
        refine aw_iadd C dL_follows_72 ?_
        refine aw_icmp_ne (tgt := 80) C dL_follows_73 (by decide) (by omega) (by omega) (fun h => absurd h (fun x => x (by omega))) (fun c73 => ?_)
        refine aw_iconst C dL_follows_76 ?_
        refine aw_goto (tgt := 81) C dL_follows_77 (by decide) ?_
        exact aw_zretN C (by omega) (by omega) dL_follows_81 rfl ⟨rfl, S1, P1, rfl, hJ1, h5, he⟩
      · have hlt : S1.1 6 < S1.1 5 := by omega
        obtain ⟨hk, hb, hp, hf⟩ := hJ1.best hlt
        obtain ⟨q1, q2, q3, q4, q5, q6, q7, q8, q9, q10, q11⟩ := hJ1.rel hb.1 hb.2 hp
        have hg := chg_b (S1.1 8) (S1.2 1 (atS S1 (blS S1) 0))
        have e9 : (relS S1 (blS S1)).1 9 = S1.1 9 + chg (S1.1 8) (S1.2 1 (atS S1 (blS S1) 0)) := rfl
        have g8 : (asmS (relS S1 (blS S1)) (atS S1 (blS S1) 0)).1 8 = (relS S1 (blS S1)).1 8 := rfl
        have g9 : (asmS (relS S1 (blS S1)) (atS S1 (blS S1) 0)).1 9 = (relS S1 (blS S1)).1 9 := rfl
        have hfw : fwS (asmS (relS S1 (blS S1)) (atS S1 (blS S1) 0)) ((asmS (relS S1 (blS S1)) (atS S1 (blS S1) 0)).1 8) = fwS (relS S1 (blS S1)) ((relS S1 (blS S1)).1 8) := by
          have sS : seesL (relS S1 (blS S1)) ((relS S1 (blS S1)).1 8, (relS S1 (blS S1)).2 0, wtS (relS S1 (blS S1))) := ⟨rfl, fun _ _ _ => rfl, fun _ _ _ _ _ _ => rfl⟩
          rw [fw_sees q2.1 sS, fw_sees q7.1.1 (sees_asm sS _)]
        refine aw_aload_n C dL_follows_18 rfl ?_
        refine cV0i (ci := 2) (q0 := 0) C hN (c_X2_changes) (cwV 0 hts gL_follows_X2_changes rfl rfl rfl (by decide +kernel) ⟨Nat.le_of_ble_eq_true rfl, Nat.le_of_ble_eq_true rfl⟩) rfl rfl rfl rfl dL_follows_19 ⟨by show _ ≤ 40; omega, by show _ ≤ 240; omega⟩ (fun r19 u19 q19 => ?_)
        obtain ⟨rfl, rfl⟩ := q19
        refine aw_istore C dL_follows_22 rfl rfl ?_
        refine aw_aload_n C dL_follows_24 rfl ?_
        refine cX0 (ci := 2) (q0 := 0) C X (c_X2_releaseBest hl hJ1.1.1) (cwV 0 hts gL_follows_X2_releaseBest rfl rfl rfl (by decide +kernel) ⟨Nat.le_of_ble_eq_true rfl, Nat.le_of_ble_eq_true rfl⟩) rfl rfl rfl rfl dL_follows_25 ⟨by show _ ≤ 40; omega, by show _ ≤ 240; omega⟩ (fun E u q => by have h9 := q.1; have h8 := hk; omega) (fun r25 u25 q25 => ?_)
        obtain ⟨-, rfl, P25, rfl⟩ := q25
        refine aw_istore C dL_follows_28 rfl rfl ?_
        refine aw_iload_n C dL_follows_30 rfl ?_
        refine aw_aload_n C dL_follows_31 rfl ?_
        refine cV0i (ci := 2) (q0 := 0) C hN (c_X2_changes) (cwV 0 hts gL_follows_X2_changes rfl rfl rfl (by decide +kernel) ⟨Nat.le_of_ble_eq_true rfl, Nat.le_of_ble_eq_true rfl⟩) rfl rfl rfl rfl dL_follows_32 ⟨by show _ ≤ 40; omega, by show _ ≤ 240; omega⟩ (fun r32 u32 q32 => ?_)
        obtain ⟨rfl, rfl⟩ := q32
        refine aw_iload C dL_follows_35 rfl ?_
        refine aw_isub C dL_follows_37 ?_
        refine aw_isub C dL_follows_38 ?_
        refine aw_istore_n C dL_follows_39 rfl rfl ?_
        refine aw_aload_n C dL_follows_40 rfl ?_
        refine cX0 (ci := 2) (q0 := 0) C X (c_X2_fewestChanges hl q2.1) (cwV 0 hts gL_follows_X2_fewestChanges rfl rfl rfl (by decide +kernel) ⟨Nat.le_of_ble_eq_true rfl, Nat.le_of_ble_eq_true rfl⟩) rfl rfl rfl rfl dL_follows_41 ⟨by show _ ≤ 40; omega, by show _ ≤ 240; omega⟩ (fun E u q => by have h9 := q.1; have h8 := q6; omega) (fun r41 u41 q41 => ?_)
        obtain ⟨-, rfl, P41, rfl⟩ := q41
        refine aw_iload_n C dL_follows_44 rfl ?_
        have hfb2 := fw_b q2.1 ((relS S1 (blS S1)).1 8)
        refine aw_icmp_ne (tgt := 57) C dL_follows_45 (by decide) (by omega) (by omega) (fun h => absurd h (fun x => x (by omega))) (fun c45 => ?_)
        refine aw_aload_n C dL_follows_48 rfl ?_
        refine cX0 (ci := 2) (q0 := 0) C X (c_X2_assemble hl q2.1) (cwV 0 hts gL_follows_X2_assemble rfl rfl rfl (by decide +kernel) ⟨Nat.le_of_ble_eq_true rfl, Nat.le_of_ble_eq_true rfl⟩) rfl rfl rfl rfl dL_follows_49 ⟨by show _ ≤ 40; omega, by show _ ≤ 240; omega⟩ (fun E u q => by have h9 := q.1; have h8 := q4; omega) (fun r49 u49 q49 => ?_)
        obtain ⟨-, rfl, P49, rfl⟩ := q49
        rw [q5]
        refine aw_iload C dL_follows_52 rfl ?_
        refine aw_icmp_eq (tgt := 59) C dL_follows_54 (by decide) (by omega) (by omega) (fun c54 => ?_) (fun h => absurd h (fun x => x rfl))
        refine aw_goto (tgt := 7) C dL_follows_59 (by decide) ?_
        have h8 := ih (asmS (relS S1 (blS S1)) (atS S1 (blS S1) 0)) P49 (cells + 1 + 1 + 1) (slots + 6 + 6 + 6) (by omega) q7 (by omega) (by omega) (by omega) (by omega)
        have e3 : fwS (asmS (relS S1 (blS S1)) (atS S1 (blS S1) 0)) ((asmS (relS S1 (blS S1)) (atS S1 (blS S1) 0)).1 8) = fwS S1 (S1.1 8) - ((relS S1 (blS S1)).1 9 - S1.1 9) := by omega
        rw [e3] at h8
        refine aw_less ?_ h8
        exact fun q hq => List.mem_of_mem_take (i := 4) hq
  refine aw_aload_n C dL_follows_0 rfl ?_
  refine cV0i (ci := 2) (q0 := 0) C hN (c_X2_changes) (cwV 0 hts gL_follows_X2_changes rfl rfl rfl (by decide +kernel) ⟨Nat.le_of_ble_eq_true rfl, Nat.le_of_ble_eq_true rfl⟩) rfl rfl rfl rfl dL_follows_1 ⟨by show _ ≤ 40; omega, by show _ ≤ 240; omega⟩ (fun r1 u1 q1 => ?_)
  obtain ⟨rfl, rfl⟩ := q1
  refine aw_istore_n C dL_follows_4 rfl rfl ?_
  refine aw_iload_n C dL_follows_5 rfl ?_
  refine aw_istore_n C dL_follows_6 rfl rfl ?_
  have hn0 := hJ.1.1.1
  have h8 := lp 13 S P 0 0 (by have := hJ.2; omega) hJ rfl (by omega) (by omega) (by omega)
  rw [← hdue] at h8
  exact h8
