def lzF (n z : Int) (k : Nat) : Int := atI (shrI z (2 * k)) n
def firstP (n z : Int) : Nat → PcL → PcL
  | 0, Q => Q
  | k + 1, Q => if (firstP n z k Q).2.1 (lzF n z k) = 0 then firstP n z k Q else pcR (firstP n z k Q) (lzF n z k)
set_option maxHeartbeats 4000000 in
set_option maxRecDepth 100000 in
theorem c_L_first {l : Launch} (hl : l.stackTraces = false) {G : va_G × (Nat → ClassId)} {sa : Nat → Nat} {ad : Nat → Nat} {S P : St} {n z : Int} {Q : PcL} (hn : 1 ≤ n ∧ n ≤ 5) (hJ : JL n S) (hs : seesL S Q) : Mn l G sa yL_first wsL_first ({ frames := 7, cells := 8, slots := 48, locals := 111 } : Room) [.ref (ad 0), .int (zI n), .int (zI z), .int (zI 2)] (WX G.2 ad S P) (fun r u => r = 1 ∧ ∃ S1 P1 : St, u = WX G.2 ad S1 P1 ∧ JL n S1 ∧ S1.1 5 = S.1 5 ∧ seesL S1 (firstP n z 2 Q)) 8 48 := by
  refine Mn.of (own := RL) (cc := cL_first) (maxL := 7) (ret := (some .boolean)) hl (by decide) rfl rfl rfl ?_
  intro p e s m args below meth c A C hN X
  have hts := C.2.2.2.2.1
  have lp : ∀ (j k : Nat) (S1 P1 : St) (cells slots : Nat), k ≤ 2 → 2 - k < j → JL n S1 → S1.1 5 = S.1 5 → seesL S1 (firstP n z k Q) → cells ≤ 4 * k → slots ≤ 6 * cells → AW p l e (headSpec wsL_first ({ frames := 7, cells := 8, slots := 48, locals := 111 } : Room)).room s m args below meth c 7 G A s.heap (cells) (slots) (MQ below (QPi G (fun r u => r = 1 ∧ ∃ S1 P1 : St, u = WX G.2 ad S1 P1 ∧ JL n S1 ∧ S1.1 5 = S.1 5 ∧ seesL S1 (firstP n z 2 Q)) A) args s 8 48 A) (WX G.2 ad S1 P1) [(0, .ref (ad 0)), (1, .int (zI n)), (2, .int (zI z)), (3, .int (zI 2)), (4, .int (zI k))] 3 [] := by
    intro j
    induction j with
    | zero =>
      intro k S1 P1 cells slots h1 h2
      exfalso
      omega
    | succ j ih =>
      intro k S1 P1 cells slots h1 h2 hJ1 h5 hs1 hc hsl
      refine aw_iload C dL_first_3 rfl ?_
      refine aw_iload_n C dL_first_5 rfl ?_
      refine aw_icmp_ge (tgt := 77) C dL_first_6 (by decide) (by omega) (by omega) (fun c6 => ?_) (fun c6 => ?_)
      · have e9 : k = 2 := by omega
        subst e9
        refine aw_iconst C dL_first_77 ?_
        exact aw_zretN C (by omega) (by omega) dL_first_78 rfl ⟨rfl, S1, P1, rfl, hJ1, h5, hs1⟩
      · refine aw_iload_n C dL_first_9 rfl ?_
        refine aw_iconst C dL_first_10 ?_
        refine aw_iload C dL_first_11 rfl ?_
        refine aw_imul C dL_first_13 ?_
        refine aw_shr C dL_first_14 ?_
        refine aw_iload_n C dL_first_15 rfl ?_
        refine cS2i C hN (c_L_at (by omega)) (va_cwS 2 hts gL_first_L_at rfl rfl rfl (by decide +kernel) ⟨Nat.le_of_ble_eq_true rfl, Nat.le_of_ble_eq_true rfl⟩) rfl dL_first_16 ⟨by show _ ≤ 8; omega, by show _ ≤ 48; omega⟩ (fun r16 u16 q16 => ?_)
        obtain ⟨rfl, rfl⟩ := q16
        have hb : 0 ≤ lzF n z k ∧ lzF n z k < n := atI_b hn.1
        have hkl : kLan S1 (lzF n z k) = 0 := if_pos ⟨hb.1, by rw [hJ1.2.1]; exact hb.2⟩
        have hz := hJ1.1.1.2.1 (lzF n z k) hb.1 (by omega)
        have hn1 := hJ1.1.1.1
        have eQ := hs1.2.1 (lzF n z k) hb.1 (by omega)
        have eR : lzF n z k = atI (shrI z (2 * k)) n := rfl
        rw [← eR]
        refine aw_istore C dL_first_19 rfl rfl ?_
        refine aw_aload_n C dL_first_21 rfl ?_
        refine aw_iload C dL_first_22 rfl ?_
        refine cX1 (ci := 2) (q0 := 0) C X (c_X2_inLane hl hJ1.1.1 (by omega)) (cwV 1 hts gL_first_X2_inLane rfl rfl rfl (by decide +kernel) ⟨Nat.le_of_ble_eq_true rfl, Nat.le_of_ble_eq_true rfl⟩) rfl rfl rfl rfl dL_first_24 ⟨by show _ ≤ 8; omega, by show _ ≤ 48; omega⟩ (fun E u q => by have h9 := q.1; have h8 := hkl; omega) (fun r24 u24 q24 => ?_)
        obtain ⟨-, rfl, P24, rfl⟩ := q24
        refine aw_if_ne (tgt := 33) C dL_first_27 (by decide) (by omega) (fun c27 => ?_) (fun c27 => ?_)
        · have hp : 0 < S1.2 0 (lzF n z k) := by omega
          have hR := hJ1.rel hb.1 (by omega) hp
          have hcn := hJ1.cn
          obtain ⟨q1, q2, q3, q4, q5, q6, q7, q8, q9, q10, q11⟩ := hR
          have hkr : kReF S1 (lzF n z k) = 0 := by
            unfold kReF
            rw [if_neg (fun x => x ⟨hb.1, by rw [hJ1.2.1]; exact hb.2⟩), if_neg (by omega)]
          have hs2 : seesL (asmS (relS S1 (lzF n z k)) (atS S1 (lzF n z k) 0)) (firstP n z (k + 1) Q) := by
            show seesL _ (if _ then _ else _)
            rw [if_neg (by omega)]
            exact sees_asm (sees_rel hs1 hb.1 (by omega) hp) _
          refine aw_aload_n C dL_first_33 rfl ?_
          refine aw_iload C dL_first_34 rfl ?_
          refine cX1 (ci := 2) (q0 := 0) C X (c_X2_releaseFrom hl hJ1.1.1 (by omega)) (cwV 1 hts gL_first_X2_releaseFrom rfl rfl rfl (by decide +kernel) ⟨Nat.le_of_ble_eq_true rfl, Nat.le_of_ble_eq_true rfl⟩) rfl rfl rfl rfl dL_first_36 ⟨by show _ ≤ 8; omega, by show _ ≤ 48; omega⟩ (fun E u q => by have h9 := q.1; have h8 := hkr; omega) (fun r36 u36 q36 => ?_)
          obtain ⟨-, rfl, P36, rfl⟩ := q36
          refine aw_istore C dL_first_39 rfl rfl ?_
          refine aw_aload_n C dL_first_41 rfl ?_
          refine cV0i (ci := 2) (q0 := 0) C hN (c_X2_stored q2.1) (cwV 0 hts gL_first_X2_stored rfl rfl rfl (by decide +kernel) ⟨Nat.le_of_ble_eq_true rfl, Nat.le_of_ble_eq_true rfl⟩) rfl rfl rfl rfl dL_first_42 ⟨by show _ ≤ 8; omega, by show _ ≤ 48; omega⟩ (fun r42 u42 q42 => ?_)
          obtain ⟨rfl, rfl⟩ := q42
          refine aw_iconst C dL_first_45 ?_
          refine aw_icmp_ne (tgt := 69) C dL_first_46 (by decide) (by omega) (by omega) (fun h => absurd h (fun x => x q3)) (fun c46 => ?_)
          refine aw_aload_n C dL_first_49 rfl ?_
          refine cX0 (ci := 2) (q0 := 0) C X (c_X2_assemble hl q2.1) (cwV 0 hts gL_first_X2_assemble rfl rfl rfl (by decide +kernel) ⟨Nat.le_of_ble_eq_true rfl, Nat.le_of_ble_eq_true rfl⟩) rfl rfl rfl rfl dL_first_50 ⟨by show _ ≤ 8; omega, by show _ ≤ 48; omega⟩ (fun E u q => by have h9 := q.1; have h8 := q4; omega) (fun r50 u50 q50 => ?_)
          obtain ⟨-, rfl, P50, rfl⟩ := q50
          rw [q5]
          refine aw_iload C dL_first_53 rfl ?_
          refine aw_icmp_ne (tgt := 69) C dL_first_55 (by decide) (by omega) (by omega) (fun h => absurd h (fun x => x rfl)) (fun c55 => ?_)
          refine aw_aload_n C dL_first_58 rfl ?_
          refine aw_iload C dL_first_59 rfl ?_
          refine cX1 (ci := 2) (q0 := 0) C X (c_X2_where hl q7.1.1 (by omega)) (cwV 1 hts gL_first_X2_where rfl rfl rfl (by decide +kernel) ⟨Nat.le_of_ble_eq_true rfl, Nat.le_of_ble_eq_true rfl⟩) rfl rfl rfl rfl dL_first_61 ⟨by show _ ≤ 8; omega, by show _ ≤ 48; omega⟩ (fun E u q => by have h9 := q.1; have h8 := q8; omega) (fun r61 u61 q61 => ?_)
          obtain ⟨-, rfl, P61, rfl⟩ := q61
          rw [q9]
          refine aw_bipush C dL_first_64 rfl ?_
          refine aw_icmp_eq (tgt := 71) C dL_first_66 (by decide) (by decide) (by decide) (fun c66 => ?_) (fun h => absurd h (fun x => x rfl))
          refine aw_iinc C dL_first_71 rfl rfl rfl ?_
          refine aw_goto (tgt := 3) C dL_first_74 (by decide) ?_
          refine aw_less ?_ (ih (k + 1) _ P61 _ _ (by omega) (by omega) q7 (by rw [q10]; exact h5) hs2 (by omega) (by omega))
          exact fun q hq => List.mem_of_mem_take (i := 5) hq
        · have hs2 : seesL S1 (firstP n z (k + 1) Q) := by
            show seesL S1 (if _ then _ else _)
            rw [if_pos (by omega)]
            exact hs1
          refine aw_goto (tgt := 71) C dL_first_30 (by decide) ?_
          refine aw_iinc C dL_first_71 rfl rfl rfl ?_
          refine aw_goto (tgt := 3) C dL_first_74 (by decide) ?_
          refine aw_less ?_ (ih (k + 1) S1 P24 _ _ (by omega) (by omega) hJ1 h5 hs2 (by omega) (by omega))
          exact fun q hq => List.mem_of_mem_take (i := 5) hq
  refine aw_iconst C dL_first_0 ?_
  refine aw_istore C dL_first_1 rfl rfl ?_
  exact lp 3 0 S P _ _ (by omega) (by omega) hJ rfl hs (by omega) (by omega)
