set_option maxHeartbeats 4000000 in
set_option maxRecDepth 100000 in
theorem c_X3_take {l : Launch} {G : va_G × (Nat → ClassId)} {am : Nat → Nat} {S P : St} (hI : Inv S) {i : Int} (h0 : 0 ≤ i) (h5 : i < 5) (hs : 0 < S.2 0 i) : Mi l G yX3_take wsX3_take ({ frames := 0, cells := 0, slots := 0, locals := 0 } : Room) [.ref (am 0), .int (zI i)] (WM G.2 am S P) (fun r u => r = atS S i 0 ∧ u = WM G.2 am (relS S i) P) := by
  refine Mi.of (own := RX3) (cc := cX3_take) (maxL := 4) (ret := (some .int)) (by decide) rfl rfl rfl ?_
  intro p e s m args below meth c A C hN
  have hts := C.2.2.2.2.1
  have iFX3 : ∀ w ∈ u_ws RX3 TX3 19, w ∈ wsX3_take := by decide +kernel
  have k_7 := hts (.fieldLink RX3 7 "PaintSequencerModel" "row" "[I") (by decide +kernel)
  have k_13 := hts (.fieldLink RX3 13 "PaintSequencerModel" "size" "[I") (by decide +kernel)
  have k_19 := hts (.fieldLink RX3 19 "PaintSequencerModel" "places" "[I") (by decide +kernel)
  have k_54 := hts (.fieldLink RX3 54 "PaintSequencerModel" "releases" "I") (by decide +kernel)
  have k_57 := hts (.fieldLink RX3 57 "PaintSequencerModel" "changed" "I") (by decide +kernel)
  have k_60 := hts (.fieldLink RX3 60 "PaintSequencerModel" "latestColour" "I") (by decide +kernel)
  have k_16 := hts (.fieldLink RX3 16 "PaintSequencerModel" "colours" "[I") (by decide +kernel)
  obtain ⟨hn, hz, hr, hc, hp, ha, hq, ht⟩ := id hI
  have h9 := hz i h0 h5
  have eB : atS S i 0 = S.2 (10 + i.toNat) 0 := if_pos ⟨Int.le_refl 0, hs⟩
  have hbr : 0 ≤ atS S i 0 ∧ atS S i 0 < S.1 5 := by
    rw [eB]
    exact hr i 0 h0 h5 (by omega) hs
  have h8r : -2147483648 ≤ S.1 8 ∧ S.1 8 < 2147483648 := by omega
  have hcr : -2147483648 ≤ S.2 1 (atS S i 0) ∧ S.2 1 (atS S i 0) < 2147483648 := by
    have := hc _ hbr.1 hbr.2
    omega
  have e1c : (ua (takeS S i) 2 (atS S i 0) 10).2 1 = S.2 1 := by rw [ua_m _ _ _ _ (by decide), takeS_2 _ _ (by decide) (by decide)]
  have lp : ∀ (n : Nat) (q : Int), 0 ≤ q → q ≤ S.2 0 i - 1 → S.2 0 i - 1 - q < n → AW p l e (headSpec wsX3_take ({ frames := 0, cells := 0, slots := 0, locals := 0 } : Room)).room s m args below meth c 4 G A s.heap 0 0 (MQ below (QPi G (fun r u => r = atS S i 0 ∧ u = WM G.2 am (relS S i) P) A) args s 0 0 A) (WM G.2 am (ur (ua S 0 i (S.2 0 i - 1)) (10 + i.toNat) (shf (S.2 (10 + i.toNat)) (q + 1))) P) [(0, .ref (am 0)), (1, .int (zI i)), (2, .int (zI (atS S i 0))), (3, .int (zI q))] 22 [] := by
    intro n
    induction n with
    | zero =>
      intro q h1 h2 h3
      exfalso
      omega
    | succ n ih =>
      intro q h1 h2 h3
      have e1 : (ur (ua S 0 i (S.2 0 i - 1)) (10 + i.toNat) (shf (S.2 (10 + i.toNat)) (q + 1))).2 0 i = S.2 0 i - 1 := by rw [ur_n _ _ _ (by omega), ua_s, if_pos rfl]
      refine aw_iload_n C dX3_take_22 rfl ?_
      refine aw_aload_n C dX3_take_23 rfl ?_
      refine aw_get (q0 := 0) (k := 6) C iFX3 k_13 rfl rfl rfl rfl dX3_take_24 ?_
      refine aw_iload_n C dX3_take_27 rfl ?_
      refine aw_ldI (q0 := 2) C rfl (by omega) (by omega) rfl dX3_take_28 ?_
      refine aw_icmp_ge (tgt := 62) C dX3_take_29 (by decide) (by omega) (by omega) (fun c29 => ?_) (fun c29 => ?_)
      · have ex : ur (ua S 0 i (S.2 0 i - 1)) (10 + i.toNat) (shf (S.2 (10 + i.toNat)) (q + 1)) = takeS S i := by
          rw [show q + 1 = S.2 0 i by omega]
          exact ur_ua _ _ _ _ _ _ (by omega)
        rw [ex]
        refine aw_aload_n C dX3_take_62 rfl ?_
        refine aw_get (q0 := 0) (k := 9) C iFX3 k_19 rfl rfl rfl rfl dX3_take_63 ?_
        refine aw_iload_n C dX3_take_66 rfl ?_
        refine aw_bipush C dX3_take_67 rfl ?_
        refine aw_stI (q0 := 4) C rfl (by omega) (by omega) rfl (wm_a4 _ _ _ _ _ _) dX3_take_69 ?_
        refine aw_aload_n C dX3_take_70 rfl ?_
        refine aw_dup C dX3_take_71 rfl ?_
        refine aw_get (q0 := 0) (k := 12) C iFX3 k_54 rfl rfl rfl rfl dX3_take_72 ?_
        refine aw_iconst C dX3_take_75 ?_
        refine aw_iadd C dX3_take_76 ?_
        refine aw_put (q0 := 0) (k := 12) C iFX3 tyX3_ok nmX3 k_54 rfl rfl rfl rfl rfl rfl (wm_f12 _ _ _ _ _) dX3_take_77 ?_
        refine aw_aload_n C dX3_take_80 rfl ?_
        refine aw_dup C dX3_take_81 rfl ?_
        refine aw_get (q0 := 0) (k := 13) C iFX3 k_57 rfl rfl rfl rfl dX3_take_82 ?_
        refine aw_aload_n C dX3_take_85 rfl ?_
        refine aw_get (q0 := 0) (k := 14) C iFX3 k_60 rfl rfl rfl rfl dX3_take_86 ?_
        refine aw_iconst C dX3_take_89 ?_
        refine aw_icmp_eq (tgt := 110) C dX3_take_90 (by decide) (by exact h8r) (by omega) (fun c90 => ?_) (fun c90 => ?_)
        · refine aw_iconst C dX3_take_110 ?_
          refine aw_iadd C dX3_take_111 ?_
          refine aw_put (q0 := 0) (k := 13) C iFX3 tyX3_ok nmX3 k_57 rfl rfl rfl rfl rfl rfl (wm_f13 _ _ _ _ _) dX3_take_112 ?_
          refine aw_aload_n C dX3_take_115 rfl ?_
          refine aw_aload_n C dX3_take_116 rfl ?_
          refine aw_get (q0 := 0) (k := 8) C iFX3 k_16 rfl rfl rfl rfl dX3_take_117 ?_
          refine aw_iload_n C dX3_take_120 rfl ?_
          refine aw_ldI (q0 := 3) C rfl (by omega) (by omega) rfl dX3_take_121 ?_
          refine aw_top (y := S.2 1 (atS S i 0)) (congrFun e1c (atS S i 0)) ?_
          refine aw_put (q0 := 0) (k := 14) C iFX3 tyX3_ok nmX3 k_60 rfl rfl rfl rfl rfl rfl (wm_f14 _ _ _ _ _) dX3_take_122 ?_
          refine aw_iload_n C dX3_take_125 rfl ?_
          exact aw_iret C dX3_take_126 ⟨rfl, by
            unfold relS
            first
            | (rw [show chg (S.1 8) (S.2 1 (atS S i 0)) = 0 from if_pos (Or.inl c90)]; rfl)
            | (rw [show chg (S.1 8) (S.2 1 (atS S i 0)) = 0 from if_pos (Or.inr c103)]; rfl)
            | (rw [show chg (S.1 8) (S.2 1 (atS S i 0)) = 1 from if_neg (by rintro (h | h); exact c90 h; exact c103 h)]; rfl)⟩
        · refine aw_aload_n C dX3_take_93 rfl ?_
          refine aw_get (q0 := 0) (k := 14) C iFX3 k_60 rfl rfl rfl rfl dX3_take_94 ?_
          refine aw_aload_n C dX3_take_97 rfl ?_
          refine aw_get (q0 := 0) (k := 8) C iFX3 k_16 rfl rfl rfl rfl dX3_take_98 ?_
          refine aw_iload_n C dX3_take_101 rfl ?_
          refine aw_ldI (q0 := 3) C rfl (by omega) (by omega) rfl dX3_take_102 ?_
          refine aw_top (y := S.2 1 (atS S i 0)) (congrFun e1c (atS S i 0)) ?_
          refine aw_icmp_eq (tgt := 110) C dX3_take_103 (by decide) (by exact h8r) (by exact hcr) (fun c103 => ?_) (fun c103 => ?_)
          · refine aw_iconst C dX3_take_110 ?_
            refine aw_iadd C dX3_take_111 ?_
            refine aw_put (q0 := 0) (k := 13) C iFX3 tyX3_ok nmX3 k_57 rfl rfl rfl rfl rfl rfl (wm_f13 _ _ _ _ _) dX3_take_112 ?_
            refine aw_aload_n C dX3_take_115 rfl ?_
            refine aw_aload_n C dX3_take_116 rfl ?_
            refine aw_get (q0 := 0) (k := 8) C iFX3 k_16 rfl rfl rfl rfl dX3_take_117 ?_
            refine aw_iload_n C dX3_take_120 rfl ?_
            refine aw_ldI (q0 := 3) C rfl (by omega) (by omega) rfl dX3_take_121 ?_
            refine aw_top (y := S.2 1 (atS S i 0)) (congrFun e1c (atS S i 0)) ?_
            refine aw_put (q0 := 0) (k := 14) C iFX3 tyX3_ok nmX3 k_60 rfl rfl rfl rfl rfl rfl (wm_f14 _ _ _ _ _) dX3_take_122 ?_
            refine aw_iload_n C dX3_take_125 rfl ?_
            exact aw_iret C dX3_take_126 ⟨rfl, by
              unfold relS
              first
              | (rw [show chg (S.1 8) (S.2 1 (atS S i 0)) = 0 from if_pos (Or.inl c90)]; rfl)
              | (rw [show chg (S.1 8) (S.2 1 (atS S i 0)) = 0 from if_pos (Or.inr c103)]; rfl)
              | (rw [show chg (S.1 8) (S.2 1 (atS S i 0)) = 1 from if_neg (by rintro (h | h); exact c90 h; exact c103 h)]; rfl)⟩
          · refine aw_iconst C dX3_take_106 ?_
            refine aw_goto (tgt := 111) C dX3_take_107 (by decide) ?_
            refine aw_iadd C dX3_take_111 ?_
            refine aw_put (q0 := 0) (k := 13) C iFX3 tyX3_ok nmX3 k_57 rfl rfl rfl rfl rfl rfl (wm_f13 _ _ _ _ _) dX3_take_112 ?_
            refine aw_aload_n C dX3_take_115 rfl ?_
            refine aw_aload_n C dX3_take_116 rfl ?_
            refine aw_get (q0 := 0) (k := 8) C iFX3 k_16 rfl rfl rfl rfl dX3_take_117 ?_
            refine aw_iload_n C dX3_take_120 rfl ?_
            refine aw_ldI (q0 := 3) C rfl (by omega) (by omega) rfl dX3_take_121 ?_
            refine aw_top (y := S.2 1 (atS S i 0)) (congrFun e1c (atS S i 0)) ?_
            refine aw_put (q0 := 0) (k := 14) C iFX3 tyX3_ok nmX3 k_60 rfl rfl rfl rfl rfl rfl (wm_f14 _ _ _ _ _) dX3_take_122 ?_
            refine aw_iload_n C dX3_take_125 rfl ?_
            exact aw_iret C dX3_take_126 ⟨rfl, by
              unfold relS
              first
              | (rw [show chg (S.1 8) (S.2 1 (atS S i 0)) = 0 from if_pos (Or.inl c90)]; rfl)
              | (rw [show chg (S.1 8) (S.2 1 (atS S i 0)) = 0 from if_pos (Or.inr c103)]; rfl)
              | (rw [show chg (S.1 8) (S.2 1 (atS S i 0)) = 1 from if_neg (by rintro (h | h); exact c90 h; exact c103 h)]; rfl)⟩
      · refine aw_aload_n C dX3_take_32 rfl ?_
        refine aw_get (q0 := 0) (k := 5) C iFX3 k_7 rfl rfl rfl rfl dX3_take_33 ?_
        refine aw_bipush C dX3_take_36 rfl ?_
        refine aw_iload_n C dX3_take_38 rfl ?_
        refine aw_imul C dX3_take_39 ?_
        refine aw_iload_n C dX3_take_40 rfl ?_
        refine aw_iadd C dX3_take_41 ?_
        refine aw_aload_n C dX3_take_42 rfl ?_
        refine aw_get (q0 := 0) (k := 5) C iFX3 k_7 rfl rfl rfl rfl dX3_take_43 ?_
        refine aw_bipush C dX3_take_46 rfl ?_
        refine aw_iload_n C dX3_take_48 rfl ?_
        refine aw_imul C dX3_take_49 ?_
        refine aw_iload_n C dX3_take_50 rfl ?_
        refine aw_iadd C dX3_take_51 ?_
        refine aw_iconst C dX3_take_52 ?_
        refine aw_iadd C dX3_take_53 ?_
        refine aw_ldI (q0 := 1) C rfl (by omega) (by omega) rfl dX3_take_54 ?_
        rw [rM (l := i) (k := q + 1) (by omega) h0 (by omega) (by omega)]
        refine aw_stI (q0 := 1) C rfl (by omega) (by omega) rfl (wm_a1 (l := i) (k := q) rfl h0 h1 (by omega)) dX3_take_55 ?_
        refine aw_iinc C dX3_take_56 rfl rfl rfl ?_
        refine aw_goto (tgt := 22) C dX3_take_59 (by decide) ?_
        have e2 := ua_ur (ua S 0 i (S.2 0 i - 1)) (10 + i.toNat) (shf (S.2 (10 + i.toNat)) (q + 1)) (shf (S.2 (10 + i.toNat)) (q + 1 + 1)) q ((ur (ua S 0 i (S.2 0 i - 1)) (10 + i.toNat) (shf (S.2 (10 + i.toNat)) (q + 1))).2 (10 + i.toNat) (q + 1)) (fun j => by
          rw [ur_s]
          have e3 := shf_step (S.2 (10 + i.toNat)) (q + 1) (by omega) j
          rw [show q + 1 - 1 = q by omega] at e3
          exact e3)
        rw [e2]
        exact ih (q + 1) (by omega) (by omega) (by omega)
  refine aw_aload_n C dX3_take_0 rfl ?_
  refine aw_get (q0 := 0) (k := 5) C iFX3 k_7 rfl rfl rfl rfl dX3_take_1 ?_
  refine aw_bipush C dX3_take_4 rfl ?_
  refine aw_iload_n C dX3_take_6 rfl ?_
  refine aw_imul C dX3_take_7 ?_
  refine aw_ldI (q0 := 1) C rfl (by omega) (by omega) rfl dX3_take_8 ?_
  rw [rM (l := i) (k := 0) (by omega) h0 (by omega) (by omega), ← eB]
  refine aw_istore_n C dX3_take_9 rfl rfl ?_
  refine aw_aload_n C dX3_take_10 rfl ?_
  refine aw_get (q0 := 0) (k := 6) C iFX3 k_13 rfl rfl rfl rfl dX3_take_11 ?_
  refine aw_iload_n C dX3_take_14 rfl ?_
  refine aw_dup2 C dX3_take_15 rfl rfl ?_
  refine aw_ldI (q0 := 2) C rfl (by omega) (by omega) rfl dX3_take_16 ?_
  refine aw_iconst C dX3_take_17 ?_
  refine aw_isub C dX3_take_18 ?_
  refine aw_stI (q0 := 2) C rfl (by omega) (by omega) rfl (wm_a2 _ _ _ _ _ _) dX3_take_19 ?_
  refine aw_iconst C dX3_take_20 ?_
  refine aw_istore_n C dX3_take_21 rfl rfl ?_
  have h1 := lp 7 0 (by omega) (by omega) (by omega)
  have e4 : ur (ua S 0 i (S.2 0 i - 1)) (10 + i.toNat) (shf (S.2 (10 + i.toNat)) (0 + 1)) = (ua S 0 i (S.2 0 i - 1)) := by
    rw [show (0 : Int) + 1 = 1 by omega, shf_1]
    have e5 : (S.2 (10 + i.toNat)) = (ua S 0 i (S.2 0 i - 1)).2 (10 + i.toNat) := (ua_m _ _ _ _ (by omega)).symm
    rw [e5]
    exact ur_self _ _
  rw [e4] at h1
  exact h1
set_option maxHeartbeats 4000000 in
set_option maxRecDepth 100000 in
theorem c_X3_lowestHead {l : Launch} {G : va_G × (Nat → ClassId)} {am : Nat → Nat} {S P : St} (hI : Inv S) {cc9 sh : Int} (hcc : -1 ≤ cc9 ∧ cc9 ≤ 4) (hsh : -1 ≤ sh ∧ sh ≤ 6) : Mi l G yX3_lowestHead wsX3_lowestHead ({ frames := 1, cells := 0, slots := 0, locals := 22 } : Room) [.ref (am 0), .int (zI cc9), .int (zI sh)] (WM G.2 am S P) (fun r u => r = lhN (fitM S cc9 sh) S (S.1 0).toNat ∧ u = (WM G.2 am S P)) := by
  refine Mi.of (own := RX3) (cc := cX3_lowestHead) (maxL := 6) (ret := (some .int)) (by decide) rfl rfl rfl ?_
  intro p e s m args below meth c A C hN
  have hts := C.2.2.2.2.1
  have iFX3 : ∀ w ∈ u_ws RX3 TX3 19, w ∈ wsX3_lowestHead := by decide +kernel
  have k_39 := hts (.fieldLink RX3 39 "PaintSequencerModel" "lanes" "I") (by decide +kernel)
  have k_13 := hts (.fieldLink RX3 13 "PaintSequencerModel" "size" "[I") (by decide +kernel)
  have k_16 := hts (.fieldLink RX3 16 "PaintSequencerModel" "colours" "[I") (by decide +kernel)
  obtain ⟨hn, hz, hr, hc, hp, ha, hq, ht⟩ := id hI
  have lp : ∀ (n : Nat) (k : Nat), (k : Int) ≤ S.1 0 → S.1 0 - k < n → AW p l e (headSpec wsX3_lowestHead ({ frames := 1, cells := 0, slots := 0, locals := 22 } : Room)).room s m args below meth c 6 G A s.heap 0 0 (MQ below (QPi G (fun r u => r = lhN (fitM S cc9 sh) S (S.1 0).toNat ∧ u = (WM G.2 am S P)) A) args s 0 0 A) (WM G.2 am S P) [(0, .ref (am 0)), (1, .int (zI cc9)), (2, .int (zI sh)), (3, .int (zI (lhN (fitM S cc9 sh) S k))), (4, .int (zI k))] 5 [] := by
    intro n
    induction n with
    | zero =>
      intro k h1 h2
      exfalso
      omega
    | succ n ih =>
      intro k h1 h2
      refine aw_iload C dX3_lowestHead_5 rfl ?_
      refine aw_aload_n C dX3_lowestHead_7 rfl ?_
      refine aw_get (q0 := 0) (k := 0) C iFX3 k_39 rfl rfl rfl rfl dX3_lowestHead_8 ?_
      refine aw_icmp_ge (tgt := 99) C dX3_lowestHead_11 (by decide) (by omega) (by omega) (fun c11 => ?_) (fun c11 => ?_)
      · refine aw_iload_n C dX3_lowestHead_99 rfl ?_
        exact aw_iret C dX3_lowestHead_100 ⟨by rw [show (S.1 0).toNat = k by omega], rfl⟩
      · have h9 := hz k (by omega) (by omega)
        have h6 := lhN_b (fitM S cc9 sh) S k
        have h9b := blkS_b hI (i := k) (by omega) (by omega)
        have h9a := atS_b hI (i := k) (z := 0) (by omega) (by omega)
        have hap := at_pos hI (i := k) (by omega) (by omega)
        have hcol : 0 < S.2 0 k → (0 ≤ atS S k 0 ∧ atS S k 0 < S.1 5) ∧ colS S (atS S k 0) = S.2 1 (atS S k 0) ∧ (0 ≤ S.2 1 (atS S k 0) ∧ S.2 1 (atS S k 0) ≤ 4) := fun h => by
          have e : atS S k 0 = S.2 (10 + (k : Int).toNat) 0 := if_pos ⟨Int.le_refl 0, h⟩
          have g := hr k 0 (by omega) (by omega) (by omega) h
          rw [← e] at g
          exact ⟨g, if_pos g, hc _ g.1 g.2⟩
        refine aw_aload_n C dX3_lowestHead_14 rfl ?_
        refine aw_get (q0 := 0) (k := 6) C iFX3 k_13 rfl rfl rfl rfl dX3_lowestHead_15 ?_
        refine aw_iload C dX3_lowestHead_18 rfl ?_
        refine aw_ldI (q0 := 2) C rfl (by omega) (by omega) rfl dX3_lowestHead_20 ?_
        refine aw_if_le (tgt := 63) C dX3_lowestHead_21 (by decide) (by omega) (fun c21 => ?_) (fun c21 => ?_)
        · refine aw_iconst C dX3_lowestHead_63 ?_
          refine aw_istore C dX3_lowestHead_64 rfl rfl ?_
          refine aw_iload C dX3_lowestHead_66 rfl ?_
          refine aw_if_eq (tgt := 93) C dX3_lowestHead_68 (by decide) (by omega) (fun c68 => ?_) (fun c68 => ?_)
          · refine aw_iinc C dX3_lowestHead_93 rfl rfl rfl ?_
            refine aw_goto (tgt := 5) C dX3_lowestHead_96 (by decide) ?_
            have h8 := ih (k + 1) (by omega) (by omega)
            by_cases hf : fitM S cc9 sh k = true ∧ ((lhN (fitM S cc9 sh) S k) = -1 ∨ atS S k 0 < atS S (lhN (fitM S cc9 sh) S k) 0)
            · have e8 : lhN (fitM S cc9 sh) S (k + 1) = k := if_pos hf
              have hd := of_decide_eq_true hf.1
              first
              | (rw [e8] at h8
                 refine aw_less ?_ h8
                 exact fun q hq => List.mem_of_mem_take (i := 5) hq)
              | (exfalso
                 obtain ⟨hd1, hd2, hd3⟩ := hd
                 have hl := hf.2
                 omega)
            · have e8 : lhN (fitM S cc9 sh) S (k + 1) = (lhN (fitM S cc9 sh) S k) := if_neg hf
              first
              | (rw [e8] at h8
                 refine aw_less ?_ h8
                 exact fun q hq => List.mem_of_mem_take (i := 5) hq)
              | (exfalso
                 exact hf ⟨decide_eq_true ⟨by omega, by omega, by omega⟩, by omega⟩)
          · refine aw_iload_n C dX3_lowestHead_71 rfl ?_
            refine aw_iconst C dX3_lowestHead_72 ?_
            refine aw_icmp_eq (tgt := 90) C dX3_lowestHead_73 (by decide) (by omega) (by omega) (fun c73 => ?_) (fun c73 => ?_)
            · refine aw_iload C dX3_lowestHead_90 rfl ?_
              refine aw_istore_n C dX3_lowestHead_92 rfl rfl ?_
              refine aw_iinc C dX3_lowestHead_93 rfl rfl rfl ?_
              refine aw_goto (tgt := 5) C dX3_lowestHead_96 (by decide) ?_
              have h8 := ih (k + 1) (by omega) (by omega)
              by_cases hf : fitM S cc9 sh k = true ∧ ((lhN (fitM S cc9 sh) S k) = -1 ∨ atS S k 0 < atS S (lhN (fitM S cc9 sh) S k) 0)
              · have e8 : lhN (fitM S cc9 sh) S (k + 1) = k := if_pos hf
                have hd := of_decide_eq_true hf.1
                first
                | (rw [e8] at h8
                   refine aw_less ?_ h8
                   exact fun q hq => List.mem_of_mem_take (i := 5) hq)
                | (exfalso
                   obtain ⟨hd1, hd2, hd3⟩ := hd
                   have hl := hf.2
                   omega)
              · have e8 : lhN (fitM S cc9 sh) S (k + 1) = (lhN (fitM S cc9 sh) S k) := if_neg hf
                first
                | (rw [e8] at h8
                   refine aw_less ?_ h8
                   exact fun q hq => List.mem_of_mem_take (i := 5) hq)
                | (exfalso
                   exact hf ⟨decide_eq_true ⟨by omega, by omega, by omega⟩, by omega⟩)
            · have h7 := atS_b hI (i := (lhN (fitM S cc9 sh) S k)) (z := 0) (by omega) (by omega)
              refine aw_aload_n C dX3_lowestHead_76 rfl ?_
              refine aw_iload C dX3_lowestHead_77 rfl ?_
              refine cV1i (ci := 3) (q0 := 0) C hN (c_X3_head hI (by omega) (by omega)) (cwV 1 hts gX3_lowestHead_X3_head rfl rfl rfl (by decide +kernel) ⟨Nat.le_of_ble_eq_true rfl, Nat.le_of_ble_eq_true rfl⟩) rfl rfl rfl rfl dX3_lowestHead_79 ⟨Nat.zero_le _, Nat.zero_le _⟩ (fun r79 u79 q79 => ?_)
              obtain ⟨rfl, rfl⟩ := q79
              refine aw_aload_n C dX3_lowestHead_82 rfl ?_
              refine aw_iload_n C dX3_lowestHead_83 rfl ?_
              refine cV1i (ci := 3) (q0 := 0) C hN (c_X3_head hI (by omega) (by omega)) (cwV 1 hts gX3_lowestHead_X3_head rfl rfl rfl (by decide +kernel) ⟨Nat.le_of_ble_eq_true rfl, Nat.le_of_ble_eq_true rfl⟩) rfl rfl rfl rfl dX3_lowestHead_84 ⟨Nat.zero_le _, Nat.zero_le _⟩ (fun r84 u84 q84 => ?_)
              obtain ⟨rfl, rfl⟩ := q84
              refine aw_icmp_ge (tgt := 93) C dX3_lowestHead_87 (by decide) (by omega) (by omega) (fun c87 => ?_) (fun c87 => ?_)
              · refine aw_iinc C dX3_lowestHead_93 rfl rfl rfl ?_
                refine aw_goto (tgt := 5) C dX3_lowestHead_96 (by decide) ?_
                have h8 := ih (k + 1) (by omega) (by omega)
                by_cases hf : fitM S cc9 sh k = true ∧ ((lhN (fitM S cc9 sh) S k) = -1 ∨ atS S k 0 < atS S (lhN (fitM S cc9 sh) S k) 0)
                · have e8 : lhN (fitM S cc9 sh) S (k + 1) = k := if_pos hf
                  have hd := of_decide_eq_true hf.1
                  first
                  | (rw [e8] at h8
                     refine aw_less ?_ h8
                     exact fun q hq => List.mem_of_mem_take (i := 5) hq)
                  | (exfalso
                     obtain ⟨hd1, hd2, hd3⟩ := hd
                     have hl := hf.2
                     omega)
                · have e8 : lhN (fitM S cc9 sh) S (k + 1) = (lhN (fitM S cc9 sh) S k) := if_neg hf
                  first
                  | (rw [e8] at h8
                     refine aw_less ?_ h8
                     exact fun q hq => List.mem_of_mem_take (i := 5) hq)
                  | (exfalso
                     exact hf ⟨decide_eq_true ⟨by omega, by omega, by omega⟩, by omega⟩)
              · refine aw_iload C dX3_lowestHead_90 rfl ?_
                refine aw_istore_n C dX3_lowestHead_92 rfl rfl ?_
                refine aw_iinc C dX3_lowestHead_93 rfl rfl rfl ?_
                refine aw_goto (tgt := 5) C dX3_lowestHead_96 (by decide) ?_
                have h8 := ih (k + 1) (by omega) (by omega)
                by_cases hf : fitM S cc9 sh k = true ∧ ((lhN (fitM S cc9 sh) S k) = -1 ∨ atS S k 0 < atS S (lhN (fitM S cc9 sh) S k) 0)
                · have e8 : lhN (fitM S cc9 sh) S (k + 1) = k := if_pos hf
                  have hd := of_decide_eq_true hf.1
                  first
                  | (rw [e8] at h8
                     refine aw_less ?_ h8
                     exact fun q hq => List.mem_of_mem_take (i := 5) hq)
                  | (exfalso
                     obtain ⟨hd1, hd2, hd3⟩ := hd
                     have hl := hf.2
                     omega)
                · have e8 : lhN (fitM S cc9 sh) S (k + 1) = (lhN (fitM S cc9 sh) S k) := if_neg hf
                  first
                  | (rw [e8] at h8
                     refine aw_less ?_ h8
                     exact fun q hq => List.mem_of_mem_take (i := 5) hq)
                  | (exfalso
                     exact hf ⟨decide_eq_true ⟨by omega, by omega, by omega⟩, by omega⟩)
        · refine aw_iload_n C dX3_lowestHead_24 rfl ?_
          refine aw_iconst C dX3_lowestHead_25 ?_
          refine aw_icmp_eq (tgt := 44) C dX3_lowestHead_26 (by decide) (by omega) (by omega) (fun c26 => ?_) (fun c26 => ?_)
          · refine aw_iload_n C dX3_lowestHead_44 rfl ?_
            refine aw_iconst C dX3_lowestHead_45 ?_
            refine aw_icmp_eq (tgt := 59) C dX3_lowestHead_46 (by decide) (by omega) (by omega) (fun c46 => ?_) (fun c46 => ?_)
            · refine aw_iconst C dX3_lowestHead_59 ?_
              refine aw_goto (tgt := 64) C dX3_lowestHead_60 (by decide) ?_
              refine aw_istore C dX3_lowestHead_64 rfl rfl ?_
              refine aw_iload C dX3_lowestHead_66 rfl ?_
              refine aw_if_eq (tgt := 93) C dX3_lowestHead_68 (by decide) (by omega) (fun c68 => ?_) (fun c68 => ?_)
              · refine aw_iinc C dX3_lowestHead_93 rfl rfl rfl ?_
                refine aw_goto (tgt := 5) C dX3_lowestHead_96 (by decide) ?_
                have h8 := ih (k + 1) (by omega) (by omega)
                by_cases hf : fitM S cc9 sh k = true ∧ ((lhN (fitM S cc9 sh) S k) = -1 ∨ atS S k 0 < atS S (lhN (fitM S cc9 sh) S k) 0)
                · have e8 : lhN (fitM S cc9 sh) S (k + 1) = k := if_pos hf
                  have hd := of_decide_eq_true hf.1
                  first
                  | (rw [e8] at h8
                     refine aw_less ?_ h8
                     exact fun q hq => List.mem_of_mem_take (i := 5) hq)
                  | (exfalso
                     obtain ⟨hd1, hd2, hd3⟩ := hd
                     have hl := hf.2
                     omega)
                · have e8 : lhN (fitM S cc9 sh) S (k + 1) = (lhN (fitM S cc9 sh) S k) := if_neg hf
                  first
                  | (rw [e8] at h8
                     refine aw_less ?_ h8
                     exact fun q hq => List.mem_of_mem_take (i := 5) hq)
                  | (exfalso
                     exact hf ⟨decide_eq_true ⟨by omega, by omega, by omega⟩, by omega⟩)
              · refine aw_iload_n C dX3_lowestHead_71 rfl ?_
                refine aw_iconst C dX3_lowestHead_72 ?_
                refine aw_icmp_eq (tgt := 90) C dX3_lowestHead_73 (by decide) (by omega) (by omega) (fun c73 => ?_) (fun c73 => ?_)
                · refine aw_iload C dX3_lowestHead_90 rfl ?_
                  refine aw_istore_n C dX3_lowestHead_92 rfl rfl ?_
                  refine aw_iinc C dX3_lowestHead_93 rfl rfl rfl ?_
                  refine aw_goto (tgt := 5) C dX3_lowestHead_96 (by decide) ?_
                  have h8 := ih (k + 1) (by omega) (by omega)
                  by_cases hf : fitM S cc9 sh k = true ∧ ((lhN (fitM S cc9 sh) S k) = -1 ∨ atS S k 0 < atS S (lhN (fitM S cc9 sh) S k) 0)
                  · have e8 : lhN (fitM S cc9 sh) S (k + 1) = k := if_pos hf
                    have hd := of_decide_eq_true hf.1
                    first
                    | (rw [e8] at h8
                       refine aw_less ?_ h8
                       exact fun q hq => List.mem_of_mem_take (i := 5) hq)
                    | (exfalso
                       obtain ⟨hd1, hd2, hd3⟩ := hd
                       have hl := hf.2
                       omega)
                  · have e8 : lhN (fitM S cc9 sh) S (k + 1) = (lhN (fitM S cc9 sh) S k) := if_neg hf
                    first
                    | (rw [e8] at h8
                       refine aw_less ?_ h8
                       exact fun q hq => List.mem_of_mem_take (i := 5) hq)
                    | (exfalso
                       exact hf ⟨decide_eq_true ⟨by omega, by omega, by omega⟩, by omega⟩)
                · have h7 := atS_b hI (i := (lhN (fitM S cc9 sh) S k)) (z := 0) (by omega) (by omega)
                  refine aw_aload_n C dX3_lowestHead_76 rfl ?_
                  refine aw_iload C dX3_lowestHead_77 rfl ?_
                  refine cV1i (ci := 3) (q0 := 0) C hN (c_X3_head hI (by omega) (by omega)) (cwV 1 hts gX3_lowestHead_X3_head rfl rfl rfl (by decide +kernel) ⟨Nat.le_of_ble_eq_true rfl, Nat.le_of_ble_eq_true rfl⟩) rfl rfl rfl rfl dX3_lowestHead_79 ⟨Nat.zero_le _, Nat.zero_le _⟩ (fun r79 u79 q79 => ?_)
                  obtain ⟨rfl, rfl⟩ := q79
                  refine aw_aload_n C dX3_lowestHead_82 rfl ?_
                  refine aw_iload_n C dX3_lowestHead_83 rfl ?_
                  refine cV1i (ci := 3) (q0 := 0) C hN (c_X3_head hI (by omega) (by omega)) (cwV 1 hts gX3_lowestHead_X3_head rfl rfl rfl (by decide +kernel) ⟨Nat.le_of_ble_eq_true rfl, Nat.le_of_ble_eq_true rfl⟩) rfl rfl rfl rfl dX3_lowestHead_84 ⟨Nat.zero_le _, Nat.zero_le _⟩ (fun r84 u84 q84 => ?_)
                  obtain ⟨rfl, rfl⟩ := q84
                  refine aw_icmp_ge (tgt := 93) C dX3_lowestHead_87 (by decide) (by omega) (by omega) (fun c87 => ?_) (fun c87 => ?_)
                  · refine aw_iinc C dX3_lowestHead_93 rfl rfl rfl ?_
                    refine aw_goto (tgt := 5) C dX3_lowestHead_96 (by decide) ?_
                    have h8 := ih (k + 1) (by omega) (by omega)
                    by_cases hf : fitM S cc9 sh k = true ∧ ((lhN (fitM S cc9 sh) S k) = -1 ∨ atS S k 0 < atS S (lhN (fitM S cc9 sh) S k) 0)
                    · have e8 : lhN (fitM S cc9 sh) S (k + 1) = k := if_pos hf
                      have hd := of_decide_eq_true hf.1
                      first
                      | (rw [e8] at h8
                         refine aw_less ?_ h8
                         exact fun q hq => List.mem_of_mem_take (i := 5) hq)
                      | (exfalso
                         obtain ⟨hd1, hd2, hd3⟩ := hd
                         have hl := hf.2
                         omega)
                    · have e8 : lhN (fitM S cc9 sh) S (k + 1) = (lhN (fitM S cc9 sh) S k) := if_neg hf
                      first
                      | (rw [e8] at h8
                         refine aw_less ?_ h8
                         exact fun q hq => List.mem_of_mem_take (i := 5) hq)
                      | (exfalso
                         exact hf ⟨decide_eq_true ⟨by omega, by omega, by omega⟩, by omega⟩)
                  · refine aw_iload C dX3_lowestHead_90 rfl ?_
                    refine aw_istore_n C dX3_lowestHead_92 rfl rfl ?_
                    refine aw_iinc C dX3_lowestHead_93 rfl rfl rfl ?_
                    refine aw_goto (tgt := 5) C dX3_lowestHead_96 (by decide) ?_
                    have h8 := ih (k + 1) (by omega) (by omega)
                    by_cases hf : fitM S cc9 sh k = true ∧ ((lhN (fitM S cc9 sh) S k) = -1 ∨ atS S k 0 < atS S (lhN (fitM S cc9 sh) S k) 0)
                    · have e8 : lhN (fitM S cc9 sh) S (k + 1) = k := if_pos hf
                      have hd := of_decide_eq_true hf.1
                      first
                      | (rw [e8] at h8
                         refine aw_less ?_ h8
                         exact fun q hq => List.mem_of_mem_take (i := 5) hq)
                      | (exfalso
                         obtain ⟨hd1, hd2, hd3⟩ := hd
                         have hl := hf.2
                         omega)
                    · have e8 : lhN (fitM S cc9 sh) S (k + 1) = (lhN (fitM S cc9 sh) S k) := if_neg hf
                      first
                      | (rw [e8] at h8
                         refine aw_less ?_ h8
                         exact fun q hq => List.mem_of_mem_take (i := 5) hq)
                      | (exfalso
                         exact hf ⟨decide_eq_true ⟨by omega, by omega, by omega⟩, by omega⟩)
            · refine aw_aload_n C dX3_lowestHead_49 rfl ?_
              refine aw_iload C dX3_lowestHead_50 rfl ?_
              refine cV1i (ci := 3) (q0 := 0) C hN (c_X3_blockOf hI (by omega) (by omega)) (cwV 1 hts gX3_lowestHead_X3_blockOf rfl rfl rfl (by decide +kernel) ⟨Nat.le_of_ble_eq_true rfl, Nat.le_of_ble_eq_true rfl⟩) rfl rfl rfl rfl dX3_lowestHead_52 ⟨Nat.zero_le _, Nat.zero_le _⟩ (fun r52 u52 q52 => ?_)
              obtain ⟨rfl, rfl⟩ := q52
              refine aw_iload_n C dX3_lowestHead_55 rfl ?_
              refine aw_icmp_ne (tgt := 63) C dX3_lowestHead_56 (by decide) (by omega) (by omega) (fun c56 => ?_) (fun c56 => ?_)
              · refine aw_iconst C dX3_lowestHead_63 ?_
                refine aw_istore C dX3_lowestHead_64 rfl rfl ?_
                refine aw_iload C dX3_lowestHead_66 rfl ?_
                refine aw_if_eq (tgt := 93) C dX3_lowestHead_68 (by decide) (by omega) (fun c68 => ?_) (fun c68 => ?_)
                · refine aw_iinc C dX3_lowestHead_93 rfl rfl rfl ?_
                  refine aw_goto (tgt := 5) C dX3_lowestHead_96 (by decide) ?_
                  have h8 := ih (k + 1) (by omega) (by omega)
                  by_cases hf : fitM S cc9 sh k = true ∧ ((lhN (fitM S cc9 sh) S k) = -1 ∨ atS S k 0 < atS S (lhN (fitM S cc9 sh) S k) 0)
                  · have e8 : lhN (fitM S cc9 sh) S (k + 1) = k := if_pos hf
                    have hd := of_decide_eq_true hf.1
                    first
                    | (rw [e8] at h8
                       refine aw_less ?_ h8
                       exact fun q hq => List.mem_of_mem_take (i := 5) hq)
                    | (exfalso
                       obtain ⟨hd1, hd2, hd3⟩ := hd
                       have hl := hf.2
                       omega)
                  · have e8 : lhN (fitM S cc9 sh) S (k + 1) = (lhN (fitM S cc9 sh) S k) := if_neg hf
                    first
                    | (rw [e8] at h8
                       refine aw_less ?_ h8
                       exact fun q hq => List.mem_of_mem_take (i := 5) hq)
                    | (exfalso
                       exact hf ⟨decide_eq_true ⟨by omega, by omega, by omega⟩, by omega⟩)
                · refine aw_iload_n C dX3_lowestHead_71 rfl ?_
                  refine aw_iconst C dX3_lowestHead_72 ?_
                  refine aw_icmp_eq (tgt := 90) C dX3_lowestHead_73 (by decide) (by omega) (by omega) (fun c73 => ?_) (fun c73 => ?_)
                  · refine aw_iload C dX3_lowestHead_90 rfl ?_
                    refine aw_istore_n C dX3_lowestHead_92 rfl rfl ?_
                    refine aw_iinc C dX3_lowestHead_93 rfl rfl rfl ?_
                    refine aw_goto (tgt := 5) C dX3_lowestHead_96 (by decide) ?_
                    have h8 := ih (k + 1) (by omega) (by omega)
                    by_cases hf : fitM S cc9 sh k = true ∧ ((lhN (fitM S cc9 sh) S k) = -1 ∨ atS S k 0 < atS S (lhN (fitM S cc9 sh) S k) 0)
                    · have e8 : lhN (fitM S cc9 sh) S (k + 1) = k := if_pos hf
                      have hd := of_decide_eq_true hf.1
                      first
                      | (rw [e8] at h8
                         refine aw_less ?_ h8
                         exact fun q hq => List.mem_of_mem_take (i := 5) hq)
                      | (exfalso
                         obtain ⟨hd1, hd2, hd3⟩ := hd
                         have hl := hf.2
                         omega)
                    · have e8 : lhN (fitM S cc9 sh) S (k + 1) = (lhN (fitM S cc9 sh) S k) := if_neg hf
                      first
                      | (rw [e8] at h8
                         refine aw_less ?_ h8
                         exact fun q hq => List.mem_of_mem_take (i := 5) hq)
                      | (exfalso
                         exact hf ⟨decide_eq_true ⟨by omega, by omega, by omega⟩, by omega⟩)
                  · have h7 := atS_b hI (i := (lhN (fitM S cc9 sh) S k)) (z := 0) (by omega) (by omega)
                    refine aw_aload_n C dX3_lowestHead_76 rfl ?_
                    refine aw_iload C dX3_lowestHead_77 rfl ?_
                    refine cV1i (ci := 3) (q0 := 0) C hN (c_X3_head hI (by omega) (by omega)) (cwV 1 hts gX3_lowestHead_X3_head rfl rfl rfl (by decide +kernel) ⟨Nat.le_of_ble_eq_true rfl, Nat.le_of_ble_eq_true rfl⟩) rfl rfl rfl rfl dX3_lowestHead_79 ⟨Nat.zero_le _, Nat.zero_le _⟩ (fun r79 u79 q79 => ?_)
                    obtain ⟨rfl, rfl⟩ := q79
                    refine aw_aload_n C dX3_lowestHead_82 rfl ?_
                    refine aw_iload_n C dX3_lowestHead_83 rfl ?_
                    refine cV1i (ci := 3) (q0 := 0) C hN (c_X3_head hI (by omega) (by omega)) (cwV 1 hts gX3_lowestHead_X3_head rfl rfl rfl (by decide +kernel) ⟨Nat.le_of_ble_eq_true rfl, Nat.le_of_ble_eq_true rfl⟩) rfl rfl rfl rfl dX3_lowestHead_84 ⟨Nat.zero_le _, Nat.zero_le _⟩ (fun r84 u84 q84 => ?_)
                    obtain ⟨rfl, rfl⟩ := q84
                    refine aw_icmp_ge (tgt := 93) C dX3_lowestHead_87 (by decide) (by omega) (by omega) (fun c87 => ?_) (fun c87 => ?_)
                    · refine aw_iinc C dX3_lowestHead_93 rfl rfl rfl ?_
                      refine aw_goto (tgt := 5) C dX3_lowestHead_96 (by decide) ?_
                      have h8 := ih (k + 1) (by omega) (by omega)
                      by_cases hf : fitM S cc9 sh k = true ∧ ((lhN (fitM S cc9 sh) S k) = -1 ∨ atS S k 0 < atS S (lhN (fitM S cc9 sh) S k) 0)
                      · have e8 : lhN (fitM S cc9 sh) S (k + 1) = k := if_pos hf
                        have hd := of_decide_eq_true hf.1
                        first
                        | (rw [e8] at h8
                           refine aw_less ?_ h8
                           exact fun q hq => List.mem_of_mem_take (i := 5) hq)
                        | (exfalso
                           obtain ⟨hd1, hd2, hd3⟩ := hd
                           have hl := hf.2
                           omega)
                      · have e8 : lhN (fitM S cc9 sh) S (k + 1) = (lhN (fitM S cc9 sh) S k) := if_neg hf
                        first
                        | (rw [e8] at h8
                           refine aw_less ?_ h8
                           exact fun q hq => List.mem_of_mem_take (i := 5) hq)
                        | (exfalso
                           exact hf ⟨decide_eq_true ⟨by omega, by omega, by omega⟩, by omega⟩)
                    · refine aw_iload C dX3_lowestHead_90 rfl ?_
                      refine aw_istore_n C dX3_lowestHead_92 rfl rfl ?_
                      refine aw_iinc C dX3_lowestHead_93 rfl rfl rfl ?_
                      refine aw_goto (tgt := 5) C dX3_lowestHead_96 (by decide) ?_
                      have h8 := ih (k + 1) (by omega) (by omega)
                      by_cases hf : fitM S cc9 sh k = true ∧ ((lhN (fitM S cc9 sh) S k) = -1 ∨ atS S k 0 < atS S (lhN (fitM S cc9 sh) S k) 0)
                      · have e8 : lhN (fitM S cc9 sh) S (k + 1) = k := if_pos hf
                        have hd := of_decide_eq_true hf.1
                        first
                        | (rw [e8] at h8
                           refine aw_less ?_ h8
                           exact fun q hq => List.mem_of_mem_take (i := 5) hq)
                        | (exfalso
                           obtain ⟨hd1, hd2, hd3⟩ := hd
                           have hl := hf.2
                           omega)
                      · have e8 : lhN (fitM S cc9 sh) S (k + 1) = (lhN (fitM S cc9 sh) S k) := if_neg hf
                        first
                        | (rw [e8] at h8
                           refine aw_less ?_ h8
                           exact fun q hq => List.mem_of_mem_take (i := 5) hq)
                        | (exfalso
                           exact hf ⟨decide_eq_true ⟨by omega, by omega, by omega⟩, by omega⟩)
              · refine aw_iconst C dX3_lowestHead_59 ?_
                refine aw_goto (tgt := 64) C dX3_lowestHead_60 (by decide) ?_
                refine aw_istore C dX3_lowestHead_64 rfl rfl ?_
                refine aw_iload C dX3_lowestHead_66 rfl ?_
                refine aw_if_eq (tgt := 93) C dX3_lowestHead_68 (by decide) (by omega) (fun c68 => ?_) (fun c68 => ?_)
                · refine aw_iinc C dX3_lowestHead_93 rfl rfl rfl ?_
                  refine aw_goto (tgt := 5) C dX3_lowestHead_96 (by decide) ?_
                  have h8 := ih (k + 1) (by omega) (by omega)
                  by_cases hf : fitM S cc9 sh k = true ∧ ((lhN (fitM S cc9 sh) S k) = -1 ∨ atS S k 0 < atS S (lhN (fitM S cc9 sh) S k) 0)
                  · have e8 : lhN (fitM S cc9 sh) S (k + 1) = k := if_pos hf
                    have hd := of_decide_eq_true hf.1
                    first
                    | (rw [e8] at h8
                       refine aw_less ?_ h8
                       exact fun q hq => List.mem_of_mem_take (i := 5) hq)
                    | (exfalso
                       obtain ⟨hd1, hd2, hd3⟩ := hd
                       have hl := hf.2
                       omega)
                  · have e8 : lhN (fitM S cc9 sh) S (k + 1) = (lhN (fitM S cc9 sh) S k) := if_neg hf
                    first
                    | (rw [e8] at h8
                       refine aw_less ?_ h8
                       exact fun q hq => List.mem_of_mem_take (i := 5) hq)
                    | (exfalso
                       exact hf ⟨decide_eq_true ⟨by omega, by omega, by omega⟩, by omega⟩)
                · refine aw_iload_n C dX3_lowestHead_71 rfl ?_
                  refine aw_iconst C dX3_lowestHead_72 ?_
                  refine aw_icmp_eq (tgt := 90) C dX3_lowestHead_73 (by decide) (by omega) (by omega) (fun c73 => ?_) (fun c73 => ?_)
                  · refine aw_iload C dX3_lowestHead_90 rfl ?_
                    refine aw_istore_n C dX3_lowestHead_92 rfl rfl ?_
                    refine aw_iinc C dX3_lowestHead_93 rfl rfl rfl ?_
                    refine aw_goto (tgt := 5) C dX3_lowestHead_96 (by decide) ?_
                    have h8 := ih (k + 1) (by omega) (by omega)
                    by_cases hf : fitM S cc9 sh k = true ∧ ((lhN (fitM S cc9 sh) S k) = -1 ∨ atS S k 0 < atS S (lhN (fitM S cc9 sh) S k) 0)
                    · have e8 : lhN (fitM S cc9 sh) S (k + 1) = k := if_pos hf
                      have hd := of_decide_eq_true hf.1
                      first
                      | (rw [e8] at h8
                         refine aw_less ?_ h8
                         exact fun q hq => List.mem_of_mem_take (i := 5) hq)
                      | (exfalso
                         obtain ⟨hd1, hd2, hd3⟩ := hd
                         have hl := hf.2
                         omega)
                    · have e8 : lhN (fitM S cc9 sh) S (k + 1) = (lhN (fitM S cc9 sh) S k) := if_neg hf
                      first
                      | (rw [e8] at h8
                         refine aw_less ?_ h8
                         exact fun q hq => List.mem_of_mem_take (i := 5) hq)
                      | (exfalso
                         exact hf ⟨decide_eq_true ⟨by omega, by omega, by omega⟩, by omega⟩)
                  · have h7 := atS_b hI (i := (lhN (fitM S cc9 sh) S k)) (z := 0) (by omega) (by omega)
                    refine aw_aload_n C dX3_lowestHead_76 rfl ?_
                    refine aw_iload C dX3_lowestHead_77 rfl ?_
                    refine cV1i (ci := 3) (q0 := 0) C hN (c_X3_head hI (by omega) (by omega)) (cwV 1 hts gX3_lowestHead_X3_head rfl rfl rfl (by decide +kernel) ⟨Nat.le_of_ble_eq_true rfl, Nat.le_of_ble_eq_true rfl⟩) rfl rfl rfl rfl dX3_lowestHead_79 ⟨Nat.zero_le _, Nat.zero_le _⟩ (fun r79 u79 q79 => ?_)
                    obtain ⟨rfl, rfl⟩ := q79
                    refine aw_aload_n C dX3_lowestHead_82 rfl ?_
                    refine aw_iload_n C dX3_lowestHead_83 rfl ?_
                    refine cV1i (ci := 3) (q0 := 0) C hN (c_X3_head hI (by omega) (by omega)) (cwV 1 hts gX3_lowestHead_X3_head rfl rfl rfl (by decide +kernel) ⟨Nat.le_of_ble_eq_true rfl, Nat.le_of_ble_eq_true rfl⟩) rfl rfl rfl rfl dX3_lowestHead_84 ⟨Nat.zero_le _, Nat.zero_le _⟩ (fun r84 u84 q84 => ?_)
                    obtain ⟨rfl, rfl⟩ := q84
                    refine aw_icmp_ge (tgt := 93) C dX3_lowestHead_87 (by decide) (by omega) (by omega) (fun c87 => ?_) (fun c87 => ?_)
                    · refine aw_iinc C dX3_lowestHead_93 rfl rfl rfl ?_
                      refine aw_goto (tgt := 5) C dX3_lowestHead_96 (by decide) ?_
                      have h8 := ih (k + 1) (by omega) (by omega)
                      by_cases hf : fitM S cc9 sh k = true ∧ ((lhN (fitM S cc9 sh) S k) = -1 ∨ atS S k 0 < atS S (lhN (fitM S cc9 sh) S k) 0)
                      · have e8 : lhN (fitM S cc9 sh) S (k + 1) = k := if_pos hf
                        have hd := of_decide_eq_true hf.1
                        first
                        | (rw [e8] at h8
                           refine aw_less ?_ h8
                           exact fun q hq => List.mem_of_mem_take (i := 5) hq)
                        | (exfalso
                           obtain ⟨hd1, hd2, hd3⟩ := hd
                           have hl := hf.2
                           omega)
                      · have e8 : lhN (fitM S cc9 sh) S (k + 1) = (lhN (fitM S cc9 sh) S k) := if_neg hf
                        first
                        | (rw [e8] at h8
                           refine aw_less ?_ h8
                           exact fun q hq => List.mem_of_mem_take (i := 5) hq)
                        | (exfalso
                           exact hf ⟨decide_eq_true ⟨by omega, by omega, by omega⟩, by omega⟩)
                    · refine aw_iload C dX3_lowestHead_90 rfl ?_
                      refine aw_istore_n C dX3_lowestHead_92 rfl rfl ?_
                      refine aw_iinc C dX3_lowestHead_93 rfl rfl rfl ?_
                      refine aw_goto (tgt := 5) C dX3_lowestHead_96 (by decide) ?_
                      have h8 := ih (k + 1) (by omega) (by omega)
                      by_cases hf : fitM S cc9 sh k = true ∧ ((lhN (fitM S cc9 sh) S k) = -1 ∨ atS S k 0 < atS S (lhN (fitM S cc9 sh) S k) 0)
                      · have e8 : lhN (fitM S cc9 sh) S (k + 1) = k := if_pos hf
                        have hd := of_decide_eq_true hf.1
                        first
                        | (rw [e8] at h8
                           refine aw_less ?_ h8
                           exact fun q hq => List.mem_of_mem_take (i := 5) hq)
                        | (exfalso
                           obtain ⟨hd1, hd2, hd3⟩ := hd
                           have hl := hf.2
                           omega)
                      · have e8 : lhN (fitM S cc9 sh) S (k + 1) = (lhN (fitM S cc9 sh) S k) := if_neg hf
                        first
                        | (rw [e8] at h8
                           refine aw_less ?_ h8
                           exact fun q hq => List.mem_of_mem_take (i := 5) hq)
                        | (exfalso
                           exact hf ⟨decide_eq_true ⟨by omega, by omega, by omega⟩, by omega⟩)
          · refine aw_aload_n C dX3_lowestHead_29 rfl ?_
            refine aw_get (q0 := 0) (k := 8) C iFX3 k_16 rfl rfl rfl rfl dX3_lowestHead_30 ?_
            refine aw_aload_n C dX3_lowestHead_33 rfl ?_
            refine aw_iload C dX3_lowestHead_34 rfl ?_
            refine cV1i (ci := 3) (q0 := 0) C hN (c_X3_head hI (by omega) (by omega)) (cwV 1 hts gX3_lowestHead_X3_head rfl rfl rfl (by decide +kernel) ⟨Nat.le_of_ble_eq_true rfl, Nat.le_of_ble_eq_true rfl⟩) rfl rfl rfl rfl dX3_lowestHead_36 ⟨Nat.zero_le _, Nat.zero_le _⟩ (fun r36 u36 q36 => ?_)
            obtain ⟨rfl, rfl⟩ := q36
            have hcl := hcol (by omega)
            refine aw_ldI (q0 := 3) C rfl (by omega) (by omega) rfl dX3_lowestHead_39 ?_
            rw [← hcl.2.1]
            refine aw_iload_n C dX3_lowestHead_40 rfl ?_
            refine aw_icmp_ne (tgt := 63) C dX3_lowestHead_41 (by decide) (by omega) (by omega) (fun c41 => ?_) (fun c41 => ?_)
            · refine aw_iconst C dX3_lowestHead_63 ?_
              refine aw_istore C dX3_lowestHead_64 rfl rfl ?_
              refine aw_iload C dX3_lowestHead_66 rfl ?_
              refine aw_if_eq (tgt := 93) C dX3_lowestHead_68 (by decide) (by omega) (fun c68 => ?_) (fun c68 => ?_)
              · refine aw_iinc C dX3_lowestHead_93 rfl rfl rfl ?_
                refine aw_goto (tgt := 5) C dX3_lowestHead_96 (by decide) ?_
                have h8 := ih (k + 1) (by omega) (by omega)
                by_cases hf : fitM S cc9 sh k = true ∧ ((lhN (fitM S cc9 sh) S k) = -1 ∨ atS S k 0 < atS S (lhN (fitM S cc9 sh) S k) 0)
                · have e8 : lhN (fitM S cc9 sh) S (k + 1) = k := if_pos hf
                  have hd := of_decide_eq_true hf.1
                  first
                  | (rw [e8] at h8
                     refine aw_less ?_ h8
                     exact fun q hq => List.mem_of_mem_take (i := 5) hq)
                  | (exfalso
                     obtain ⟨hd1, hd2, hd3⟩ := hd
                     have hl := hf.2
                     omega)
                · have e8 : lhN (fitM S cc9 sh) S (k + 1) = (lhN (fitM S cc9 sh) S k) := if_neg hf
                  first
                  | (rw [e8] at h8
                     refine aw_less ?_ h8
                     exact fun q hq => List.mem_of_mem_take (i := 5) hq)
                  | (exfalso
                     exact hf ⟨decide_eq_true ⟨by omega, by omega, by omega⟩, by omega⟩)
              · refine aw_iload_n C dX3_lowestHead_71 rfl ?_
                refine aw_iconst C dX3_lowestHead_72 ?_
                refine aw_icmp_eq (tgt := 90) C dX3_lowestHead_73 (by decide) (by omega) (by omega) (fun c73 => ?_) (fun c73 => ?_)
                · refine aw_iload C dX3_lowestHead_90 rfl ?_
                  refine aw_istore_n C dX3_lowestHead_92 rfl rfl ?_
                  refine aw_iinc C dX3_lowestHead_93 rfl rfl rfl ?_
                  refine aw_goto (tgt := 5) C dX3_lowestHead_96 (by decide) ?_
                  have h8 := ih (k + 1) (by omega) (by omega)
                  by_cases hf : fitM S cc9 sh k = true ∧ ((lhN (fitM S cc9 sh) S k) = -1 ∨ atS S k 0 < atS S (lhN (fitM S cc9 sh) S k) 0)
                  · have e8 : lhN (fitM S cc9 sh) S (k + 1) = k := if_pos hf
                    have hd := of_decide_eq_true hf.1
                    first
                    | (rw [e8] at h8
                       refine aw_less ?_ h8
                       exact fun q hq => List.mem_of_mem_take (i := 5) hq)
                    | (exfalso
                       obtain ⟨hd1, hd2, hd3⟩ := hd
                       have hl := hf.2
                       omega)
                  · have e8 : lhN (fitM S cc9 sh) S (k + 1) = (lhN (fitM S cc9 sh) S k) := if_neg hf
                    first
                    | (rw [e8] at h8
                       refine aw_less ?_ h8
                       exact fun q hq => List.mem_of_mem_take (i := 5) hq)
                    | (exfalso
                       exact hf ⟨decide_eq_true ⟨by omega, by omega, by omega⟩, by omega⟩)
                · have h7 := atS_b hI (i := (lhN (fitM S cc9 sh) S k)) (z := 0) (by omega) (by omega)
                  refine aw_aload_n C dX3_lowestHead_76 rfl ?_
                  refine aw_iload C dX3_lowestHead_77 rfl ?_
                  refine cV1i (ci := 3) (q0 := 0) C hN (c_X3_head hI (by omega) (by omega)) (cwV 1 hts gX3_lowestHead_X3_head rfl rfl rfl (by decide +kernel) ⟨Nat.le_of_ble_eq_true rfl, Nat.le_of_ble_eq_true rfl⟩) rfl rfl rfl rfl dX3_lowestHead_79 ⟨Nat.zero_le _, Nat.zero_le _⟩ (fun r79 u79 q79 => ?_)
                  obtain ⟨rfl, rfl⟩ := q79
                  refine aw_aload_n C dX3_lowestHead_82 rfl ?_
                  refine aw_iload_n C dX3_lowestHead_83 rfl ?_
                  refine cV1i (ci := 3) (q0 := 0) C hN (c_X3_head hI (by omega) (by omega)) (cwV 1 hts gX3_lowestHead_X3_head rfl rfl rfl (by decide +kernel) ⟨Nat.le_of_ble_eq_true rfl, Nat.le_of_ble_eq_true rfl⟩) rfl rfl rfl rfl dX3_lowestHead_84 ⟨Nat.zero_le _, Nat.zero_le _⟩ (fun r84 u84 q84 => ?_)
                  obtain ⟨rfl, rfl⟩ := q84
                  refine aw_icmp_ge (tgt := 93) C dX3_lowestHead_87 (by decide) (by omega) (by omega) (fun c87 => ?_) (fun c87 => ?_)
                  · refine aw_iinc C dX3_lowestHead_93 rfl rfl rfl ?_
                    refine aw_goto (tgt := 5) C dX3_lowestHead_96 (by decide) ?_
                    have h8 := ih (k + 1) (by omega) (by omega)
                    by_cases hf : fitM S cc9 sh k = true ∧ ((lhN (fitM S cc9 sh) S k) = -1 ∨ atS S k 0 < atS S (lhN (fitM S cc9 sh) S k) 0)
                    · have e8 : lhN (fitM S cc9 sh) S (k + 1) = k := if_pos hf
                      have hd := of_decide_eq_true hf.1
                      first
                      | (rw [e8] at h8
                         refine aw_less ?_ h8
                         exact fun q hq => List.mem_of_mem_take (i := 5) hq)
                      | (exfalso
                         obtain ⟨hd1, hd2, hd3⟩ := hd
                         have hl := hf.2
                         omega)
                    · have e8 : lhN (fitM S cc9 sh) S (k + 1) = (lhN (fitM S cc9 sh) S k) := if_neg hf
                      first
                      | (rw [e8] at h8
                         refine aw_less ?_ h8
                         exact fun q hq => List.mem_of_mem_take (i := 5) hq)
                      | (exfalso
                         exact hf ⟨decide_eq_true ⟨by omega, by omega, by omega⟩, by omega⟩)
                  · refine aw_iload C dX3_lowestHead_90 rfl ?_
                    refine aw_istore_n C dX3_lowestHead_92 rfl rfl ?_
                    refine aw_iinc C dX3_lowestHead_93 rfl rfl rfl ?_
                    refine aw_goto (tgt := 5) C dX3_lowestHead_96 (by decide) ?_
                    have h8 := ih (k + 1) (by omega) (by omega)
                    by_cases hf : fitM S cc9 sh k = true ∧ ((lhN (fitM S cc9 sh) S k) = -1 ∨ atS S k 0 < atS S (lhN (fitM S cc9 sh) S k) 0)
                    · have e8 : lhN (fitM S cc9 sh) S (k + 1) = k := if_pos hf
                      have hd := of_decide_eq_true hf.1
                      first
                      | (rw [e8] at h8
                         refine aw_less ?_ h8
                         exact fun q hq => List.mem_of_mem_take (i := 5) hq)
                      | (exfalso
                         obtain ⟨hd1, hd2, hd3⟩ := hd
                         have hl := hf.2
                         omega)
                    · have e8 : lhN (fitM S cc9 sh) S (k + 1) = (lhN (fitM S cc9 sh) S k) := if_neg hf
                      first
                      | (rw [e8] at h8
                         refine aw_less ?_ h8
                         exact fun q hq => List.mem_of_mem_take (i := 5) hq)
                      | (exfalso
                         exact hf ⟨decide_eq_true ⟨by omega, by omega, by omega⟩, by omega⟩)
            · refine aw_iload_n C dX3_lowestHead_44 rfl ?_
              refine aw_iconst C dX3_lowestHead_45 ?_
              refine aw_icmp_eq (tgt := 59) C dX3_lowestHead_46 (by decide) (by omega) (by omega) (fun c46 => ?_) (fun c46 => ?_)
              · refine aw_iconst C dX3_lowestHead_59 ?_
                refine aw_goto (tgt := 64) C dX3_lowestHead_60 (by decide) ?_
                refine aw_istore C dX3_lowestHead_64 rfl rfl ?_
                refine aw_iload C dX3_lowestHead_66 rfl ?_
                refine aw_if_eq (tgt := 93) C dX3_lowestHead_68 (by decide) (by omega) (fun c68 => ?_) (fun c68 => ?_)
                · refine aw_iinc C dX3_lowestHead_93 rfl rfl rfl ?_
                  refine aw_goto (tgt := 5) C dX3_lowestHead_96 (by decide) ?_
                  have h8 := ih (k + 1) (by omega) (by omega)
                  by_cases hf : fitM S cc9 sh k = true ∧ ((lhN (fitM S cc9 sh) S k) = -1 ∨ atS S k 0 < atS S (lhN (fitM S cc9 sh) S k) 0)
                  · have e8 : lhN (fitM S cc9 sh) S (k + 1) = k := if_pos hf
                    have hd := of_decide_eq_true hf.1
                    first
                    | (rw [e8] at h8
                       refine aw_less ?_ h8
                       exact fun q hq => List.mem_of_mem_take (i := 5) hq)
                    | (exfalso
                       obtain ⟨hd1, hd2, hd3⟩ := hd
                       have hl := hf.2
                       omega)
                  · have e8 : lhN (fitM S cc9 sh) S (k + 1) = (lhN (fitM S cc9 sh) S k) := if_neg hf
                    first
                    | (rw [e8] at h8
                       refine aw_less ?_ h8
                       exact fun q hq => List.mem_of_mem_take (i := 5) hq)
                    | (exfalso
                       exact hf ⟨decide_eq_true ⟨by omega, by omega, by omega⟩, by omega⟩)
                · refine aw_iload_n C dX3_lowestHead_71 rfl ?_
                  refine aw_iconst C dX3_lowestHead_72 ?_
                  refine aw_icmp_eq (tgt := 90) C dX3_lowestHead_73 (by decide) (by omega) (by omega) (fun c73 => ?_) (fun c73 => ?_)
                  · refine aw_iload C dX3_lowestHead_90 rfl ?_
                    refine aw_istore_n C dX3_lowestHead_92 rfl rfl ?_
                    refine aw_iinc C dX3_lowestHead_93 rfl rfl rfl ?_
                    refine aw_goto (tgt := 5) C dX3_lowestHead_96 (by decide) ?_
                    have h8 := ih (k + 1) (by omega) (by omega)
                    by_cases hf : fitM S cc9 sh k = true ∧ ((lhN (fitM S cc9 sh) S k) = -1 ∨ atS S k 0 < atS S (lhN (fitM S cc9 sh) S k) 0)
                    · have e8 : lhN (fitM S cc9 sh) S (k + 1) = k := if_pos hf
                      have hd := of_decide_eq_true hf.1
                      first
                      | (rw [e8] at h8
                         refine aw_less ?_ h8
                         exact fun q hq => List.mem_of_mem_take (i := 5) hq)
                      | (exfalso
                         obtain ⟨hd1, hd2, hd3⟩ := hd
                         have hl := hf.2
                         omega)
                    · have e8 : lhN (fitM S cc9 sh) S (k + 1) = (lhN (fitM S cc9 sh) S k) := if_neg hf
                      first
                      | (rw [e8] at h8
                         refine aw_less ?_ h8
                         exact fun q hq => List.mem_of_mem_take (i := 5) hq)
                      | (exfalso
                         exact hf ⟨decide_eq_true ⟨by omega, by omega, by omega⟩, by omega⟩)
                  · have h7 := atS_b hI (i := (lhN (fitM S cc9 sh) S k)) (z := 0) (by omega) (by omega)
                    refine aw_aload_n C dX3_lowestHead_76 rfl ?_
                    refine aw_iload C dX3_lowestHead_77 rfl ?_
                    refine cV1i (ci := 3) (q0 := 0) C hN (c_X3_head hI (by omega) (by omega)) (cwV 1 hts gX3_lowestHead_X3_head rfl rfl rfl (by decide +kernel) ⟨Nat.le_of_ble_eq_true rfl, Nat.le_of_ble_eq_true rfl⟩) rfl rfl rfl rfl dX3_lowestHead_79 ⟨Nat.zero_le _, Nat.zero_le _⟩ (fun r79 u79 q79 => ?_)
                    obtain ⟨rfl, rfl⟩ := q79
                    refine aw_aload_n C dX3_lowestHead_82 rfl ?_
                    refine aw_iload_n C dX3_lowestHead_83 rfl ?_
                    refine cV1i (ci := 3) (q0 := 0) C hN (c_X3_head hI (by omega) (by omega)) (cwV 1 hts gX3_lowestHead_X3_head rfl rfl rfl (by decide +kernel) ⟨Nat.le_of_ble_eq_true rfl, Nat.le_of_ble_eq_true rfl⟩) rfl rfl rfl rfl dX3_lowestHead_84 ⟨Nat.zero_le _, Nat.zero_le _⟩ (fun r84 u84 q84 => ?_)
                    obtain ⟨rfl, rfl⟩ := q84
                    refine aw_icmp_ge (tgt := 93) C dX3_lowestHead_87 (by decide) (by omega) (by omega) (fun c87 => ?_) (fun c87 => ?_)
                    · refine aw_iinc C dX3_lowestHead_93 rfl rfl rfl ?_
                      refine aw_goto (tgt := 5) C dX3_lowestHead_96 (by decide) ?_
                      have h8 := ih (k + 1) (by omega) (by omega)
                      by_cases hf : fitM S cc9 sh k = true ∧ ((lhN (fitM S cc9 sh) S k) = -1 ∨ atS S k 0 < atS S (lhN (fitM S cc9 sh) S k) 0)
                      · have e8 : lhN (fitM S cc9 sh) S (k + 1) = k := if_pos hf
                        have hd := of_decide_eq_true hf.1
                        first
                        | (rw [e8] at h8
                           refine aw_less ?_ h8
                           exact fun q hq => List.mem_of_mem_take (i := 5) hq)
                        | (exfalso
                           obtain ⟨hd1, hd2, hd3⟩ := hd
                           have hl := hf.2
                           omega)
                      · have e8 : lhN (fitM S cc9 sh) S (k + 1) = (lhN (fitM S cc9 sh) S k) := if_neg hf
                        first
                        | (rw [e8] at h8
                           refine aw_less ?_ h8
                           exact fun q hq => List.mem_of_mem_take (i := 5) hq)
                        | (exfalso
                           exact hf ⟨decide_eq_true ⟨by omega, by omega, by omega⟩, by omega⟩)
                    · refine aw_iload C dX3_lowestHead_90 rfl ?_
                      refine aw_istore_n C dX3_lowestHead_92 rfl rfl ?_
                      refine aw_iinc C dX3_lowestHead_93 rfl rfl rfl ?_
                      refine aw_goto (tgt := 5) C dX3_lowestHead_96 (by decide) ?_
                      have h8 := ih (k + 1) (by omega) (by omega)
                      by_cases hf : fitM S cc9 sh k = true ∧ ((lhN (fitM S cc9 sh) S k) = -1 ∨ atS S k 0 < atS S (lhN (fitM S cc9 sh) S k) 0)
                      · have e8 : lhN (fitM S cc9 sh) S (k + 1) = k := if_pos hf
                        have hd := of_decide_eq_true hf.1
                        first
                        | (rw [e8] at h8
                           refine aw_less ?_ h8
                           exact fun q hq => List.mem_of_mem_take (i := 5) hq)
                        | (exfalso
                           obtain ⟨hd1, hd2, hd3⟩ := hd
                           have hl := hf.2
                           omega)
                      · have e8 : lhN (fitM S cc9 sh) S (k + 1) = (lhN (fitM S cc9 sh) S k) := if_neg hf
                        first
                        | (rw [e8] at h8
                           refine aw_less ?_ h8
                           exact fun q hq => List.mem_of_mem_take (i := 5) hq)
                        | (exfalso
                           exact hf ⟨decide_eq_true ⟨by omega, by omega, by omega⟩, by omega⟩)
              · refine aw_aload_n C dX3_lowestHead_49 rfl ?_
                refine aw_iload C dX3_lowestHead_50 rfl ?_
                refine cV1i (ci := 3) (q0 := 0) C hN (c_X3_blockOf hI (by omega) (by omega)) (cwV 1 hts gX3_lowestHead_X3_blockOf rfl rfl rfl (by decide +kernel) ⟨Nat.le_of_ble_eq_true rfl, Nat.le_of_ble_eq_true rfl⟩) rfl rfl rfl rfl dX3_lowestHead_52 ⟨Nat.zero_le _, Nat.zero_le _⟩ (fun r52 u52 q52 => ?_)
                obtain ⟨rfl, rfl⟩ := q52
                refine aw_iload_n C dX3_lowestHead_55 rfl ?_
                refine aw_icmp_ne (tgt := 63) C dX3_lowestHead_56 (by decide) (by omega) (by omega) (fun c56 => ?_) (fun c56 => ?_)
                · refine aw_iconst C dX3_lowestHead_63 ?_
                  refine aw_istore C dX3_lowestHead_64 rfl rfl ?_
                  refine aw_iload C dX3_lowestHead_66 rfl ?_
                  refine aw_if_eq (tgt := 93) C dX3_lowestHead_68 (by decide) (by omega) (fun c68 => ?_) (fun c68 => ?_)
                  · refine aw_iinc C dX3_lowestHead_93 rfl rfl rfl ?_
                    refine aw_goto (tgt := 5) C dX3_lowestHead_96 (by decide) ?_
                    have h8 := ih (k + 1) (by omega) (by omega)
                    by_cases hf : fitM S cc9 sh k = true ∧ ((lhN (fitM S cc9 sh) S k) = -1 ∨ atS S k 0 < atS S (lhN (fitM S cc9 sh) S k) 0)
                    · have e8 : lhN (fitM S cc9 sh) S (k + 1) = k := if_pos hf
                      have hd := of_decide_eq_true hf.1
                      first
                      | (rw [e8] at h8
                         refine aw_less ?_ h8
                         exact fun q hq => List.mem_of_mem_take (i := 5) hq)
                      | (exfalso
                         obtain ⟨hd1, hd2, hd3⟩ := hd
                         have hl := hf.2
                         omega)
                    · have e8 : lhN (fitM S cc9 sh) S (k + 1) = (lhN (fitM S cc9 sh) S k) := if_neg hf
                      first
                      | (rw [e8] at h8
                         refine aw_less ?_ h8
                         exact fun q hq => List.mem_of_mem_take (i := 5) hq)
                      | (exfalso
                         exact hf ⟨decide_eq_true ⟨by omega, by omega, by omega⟩, by omega⟩)
                  · refine aw_iload_n C dX3_lowestHead_71 rfl ?_
                    refine aw_iconst C dX3_lowestHead_72 ?_
                    refine aw_icmp_eq (tgt := 90) C dX3_lowestHead_73 (by decide) (by omega) (by omega) (fun c73 => ?_) (fun c73 => ?_)
                    · refine aw_iload C dX3_lowestHead_90 rfl ?_
                      refine aw_istore_n C dX3_lowestHead_92 rfl rfl ?_
                      refine aw_iinc C dX3_lowestHead_93 rfl rfl rfl ?_
                      refine aw_goto (tgt := 5) C dX3_lowestHead_96 (by decide) ?_
                      have h8 := ih (k + 1) (by omega) (by omega)
                      by_cases hf : fitM S cc9 sh k = true ∧ ((lhN (fitM S cc9 sh) S k) = -1 ∨ atS S k 0 < atS S (lhN (fitM S cc9 sh) S k) 0)
                      · have e8 : lhN (fitM S cc9 sh) S (k + 1) = k := if_pos hf
                        have hd := of_decide_eq_true hf.1
                        first
                        | (rw [e8] at h8
                           refine aw_less ?_ h8
                           exact fun q hq => List.mem_of_mem_take (i := 5) hq)
                        | (exfalso
                           obtain ⟨hd1, hd2, hd3⟩ := hd
                           have hl := hf.2
                           omega)
                      · have e8 : lhN (fitM S cc9 sh) S (k + 1) = (lhN (fitM S cc9 sh) S k) := if_neg hf
                        first
                        | (rw [e8] at h8
                           refine aw_less ?_ h8
                           exact fun q hq => List.mem_of_mem_take (i := 5) hq)
                        | (exfalso
                           exact hf ⟨decide_eq_true ⟨by omega, by omega, by omega⟩, by omega⟩)
                    · have h7 := atS_b hI (i := (lhN (fitM S cc9 sh) S k)) (z := 0) (by omega) (by omega)
                      refine aw_aload_n C dX3_lowestHead_76 rfl ?_
                      refine aw_iload C dX3_lowestHead_77 rfl ?_
                      refine cV1i (ci := 3) (q0 := 0) C hN (c_X3_head hI (by omega) (by omega)) (cwV 1 hts gX3_lowestHead_X3_head rfl rfl rfl (by decide +kernel) ⟨Nat.le_of_ble_eq_true rfl, Nat.le_of_ble_eq_true rfl⟩) rfl rfl rfl rfl dX3_lowestHead_79 ⟨Nat.zero_le _, Nat.zero_le _⟩ (fun r79 u79 q79 => ?_)
                      obtain ⟨rfl, rfl⟩ := q79
                      refine aw_aload_n C dX3_lowestHead_82 rfl ?_
                      refine aw_iload_n C dX3_lowestHead_83 rfl ?_
                      refine cV1i (ci := 3) (q0 := 0) C hN (c_X3_head hI (by omega) (by omega)) (cwV 1 hts gX3_lowestHead_X3_head rfl rfl rfl (by decide +kernel) ⟨Nat.le_of_ble_eq_true rfl, Nat.le_of_ble_eq_true rfl⟩) rfl rfl rfl rfl dX3_lowestHead_84 ⟨Nat.zero_le _, Nat.zero_le _⟩ (fun r84 u84 q84 => ?_)
                      obtain ⟨rfl, rfl⟩ := q84
                      refine aw_icmp_ge (tgt := 93) C dX3_lowestHead_87 (by decide) (by omega) (by omega) (fun c87 => ?_) (fun c87 => ?_)
                      · refine aw_iinc C dX3_lowestHead_93 rfl rfl rfl ?_
                        refine aw_goto (tgt := 5) C dX3_lowestHead_96 (by decide) ?_
                        have h8 := ih (k + 1) (by omega) (by omega)
                        by_cases hf : fitM S cc9 sh k = true ∧ ((lhN (fitM S cc9 sh) S k) = -1 ∨ atS S k 0 < atS S (lhN (fitM S cc9 sh) S k) 0)
                        · have e8 : lhN (fitM S cc9 sh) S (k + 1) = k := if_pos hf
                          have hd := of_decide_eq_true hf.1
                          first
                          | (rw [e8] at h8
                             refine aw_less ?_ h8
                             exact fun q hq => List.mem_of_mem_take (i := 5) hq)
                          | (exfalso
                             obtain ⟨hd1, hd2, hd3⟩ := hd
                             have hl := hf.2
                             omega)
                        · have e8 : lhN (fitM S cc9 sh) S (k + 1) = (lhN (fitM S cc9 sh) S k) := if_neg hf
                          first
                          | (rw [e8] at h8
                             refine aw_less ?_ h8
                             exact fun q hq => List.mem_of_mem_take (i := 5) hq)
                          | (exfalso
                             exact hf ⟨decide_eq_true ⟨by omega, by omega, by omega⟩, by omega⟩)
                      · refine aw_iload C dX3_lowestHead_90 rfl ?_
                        refine aw_istore_n C dX3_lowestHead_92 rfl rfl ?_
                        refine aw_iinc C dX3_lowestHead_93 rfl rfl rfl ?_
                        refine aw_goto (tgt := 5) C dX3_lowestHead_96 (by decide) ?_
                        have h8 := ih (k + 1) (by omega) (by omega)
                        by_cases hf : fitM S cc9 sh k = true ∧ ((lhN (fitM S cc9 sh) S k) = -1 ∨ atS S k 0 < atS S (lhN (fitM S cc9 sh) S k) 0)
                        · have e8 : lhN (fitM S cc9 sh) S (k + 1) = k := if_pos hf
                          have hd := of_decide_eq_true hf.1
                          first
                          | (rw [e8] at h8
                             refine aw_less ?_ h8
                             exact fun q hq => List.mem_of_mem_take (i := 5) hq)
                          | (exfalso
                             obtain ⟨hd1, hd2, hd3⟩ := hd
                             have hl := hf.2
                             omega)
                        · have e8 : lhN (fitM S cc9 sh) S (k + 1) = (lhN (fitM S cc9 sh) S k) := if_neg hf
                          first
                          | (rw [e8] at h8
                             refine aw_less ?_ h8
                             exact fun q hq => List.mem_of_mem_take (i := 5) hq)
                          | (exfalso
                             exact hf ⟨decide_eq_true ⟨by omega, by omega, by omega⟩, by omega⟩)
                · refine aw_iconst C dX3_lowestHead_59 ?_
                  refine aw_goto (tgt := 64) C dX3_lowestHead_60 (by decide) ?_
                  refine aw_istore C dX3_lowestHead_64 rfl rfl ?_
                  refine aw_iload C dX3_lowestHead_66 rfl ?_
                  refine aw_if_eq (tgt := 93) C dX3_lowestHead_68 (by decide) (by omega) (fun c68 => ?_) (fun c68 => ?_)
                  · refine aw_iinc C dX3_lowestHead_93 rfl rfl rfl ?_
                    refine aw_goto (tgt := 5) C dX3_lowestHead_96 (by decide) ?_
                    have h8 := ih (k + 1) (by omega) (by omega)
                    by_cases hf : fitM S cc9 sh k = true ∧ ((lhN (fitM S cc9 sh) S k) = -1 ∨ atS S k 0 < atS S (lhN (fitM S cc9 sh) S k) 0)
                    · have e8 : lhN (fitM S cc9 sh) S (k + 1) = k := if_pos hf
                      have hd := of_decide_eq_true hf.1
                      first
                      | (rw [e8] at h8
                         refine aw_less ?_ h8
                         exact fun q hq => List.mem_of_mem_take (i := 5) hq)
                      | (exfalso
                         obtain ⟨hd1, hd2, hd3⟩ := hd
                         have hl := hf.2
                         omega)
                    · have e8 : lhN (fitM S cc9 sh) S (k + 1) = (lhN (fitM S cc9 sh) S k) := if_neg hf
                      first
                      | (rw [e8] at h8
                         refine aw_less ?_ h8
                         exact fun q hq => List.mem_of_mem_take (i := 5) hq)
                      | (exfalso
                         exact hf ⟨decide_eq_true ⟨by omega, by omega, by omega⟩, by omega⟩)
                  · refine aw_iload_n C dX3_lowestHead_71 rfl ?_
                    refine aw_iconst C dX3_lowestHead_72 ?_
                    refine aw_icmp_eq (tgt := 90) C dX3_lowestHead_73 (by decide) (by omega) (by omega) (fun c73 => ?_) (fun c73 => ?_)
                    · refine aw_iload C dX3_lowestHead_90 rfl ?_
                      refine aw_istore_n C dX3_lowestHead_92 rfl rfl ?_
                      refine aw_iinc C dX3_lowestHead_93 rfl rfl rfl ?_
                      refine aw_goto (tgt := 5) C dX3_lowestHead_96 (by decide) ?_
                      have h8 := ih (k + 1) (by omega) (by omega)
                      by_cases hf : fitM S cc9 sh k = true ∧ ((lhN (fitM S cc9 sh) S k) = -1 ∨ atS S k 0 < atS S (lhN (fitM S cc9 sh) S k) 0)
                      · have e8 : lhN (fitM S cc9 sh) S (k + 1) = k := if_pos hf
                        have hd := of_decide_eq_true hf.1
                        first
                        | (rw [e8] at h8
                           refine aw_less ?_ h8
                           exact fun q hq => List.mem_of_mem_take (i := 5) hq)
                        | (exfalso
                           obtain ⟨hd1, hd2, hd3⟩ := hd
                           have hl := hf.2
                           omega)
                      · have e8 : lhN (fitM S cc9 sh) S (k + 1) = (lhN (fitM S cc9 sh) S k) := if_neg hf
                        first
                        | (rw [e8] at h8
                           refine aw_less ?_ h8
                           exact fun q hq => List.mem_of_mem_take (i := 5) hq)
                        | (exfalso
                           exact hf ⟨decide_eq_true ⟨by omega, by omega, by omega⟩, by omega⟩)
                    · have h7 := atS_b hI (i := (lhN (fitM S cc9 sh) S k)) (z := 0) (by omega) (by omega)
                      refine aw_aload_n C dX3_lowestHead_76 rfl ?_
                      refine aw_iload C dX3_lowestHead_77 rfl ?_
                      refine cV1i (ci := 3) (q0 := 0) C hN (c_X3_head hI (by omega) (by omega)) (cwV 1 hts gX3_lowestHead_X3_head rfl rfl rfl (by decide +kernel) ⟨Nat.le_of_ble_eq_true rfl, Nat.le_of_ble_eq_true rfl⟩) rfl rfl rfl rfl dX3_lowestHead_79 ⟨Nat.zero_le _, Nat.zero_le _⟩ (fun r79 u79 q79 => ?_)
                      obtain ⟨rfl, rfl⟩ := q79
                      refine aw_aload_n C dX3_lowestHead_82 rfl ?_
                      refine aw_iload_n C dX3_lowestHead_83 rfl ?_
                      refine cV1i (ci := 3) (q0 := 0) C hN (c_X3_head hI (by omega) (by omega)) (cwV 1 hts gX3_lowestHead_X3_head rfl rfl rfl (by decide +kernel) ⟨Nat.le_of_ble_eq_true rfl, Nat.le_of_ble_eq_true rfl⟩) rfl rfl rfl rfl dX3_lowestHead_84 ⟨Nat.zero_le _, Nat.zero_le _⟩ (fun r84 u84 q84 => ?_)
                      obtain ⟨rfl, rfl⟩ := q84
                      refine aw_icmp_ge (tgt := 93) C dX3_lowestHead_87 (by decide) (by omega) (by omega) (fun c87 => ?_) (fun c87 => ?_)
                      · refine aw_iinc C dX3_lowestHead_93 rfl rfl rfl ?_
                        refine aw_goto (tgt := 5) C dX3_lowestHead_96 (by decide) ?_
                        have h8 := ih (k + 1) (by omega) (by omega)
                        by_cases hf : fitM S cc9 sh k = true ∧ ((lhN (fitM S cc9 sh) S k) = -1 ∨ atS S k 0 < atS S (lhN (fitM S cc9 sh) S k) 0)
                        · have e8 : lhN (fitM S cc9 sh) S (k + 1) = k := if_pos hf
                          have hd := of_decide_eq_true hf.1
                          first
                          | (rw [e8] at h8
                             refine aw_less ?_ h8
                             exact fun q hq => List.mem_of_mem_take (i := 5) hq)
                          | (exfalso
                             obtain ⟨hd1, hd2, hd3⟩ := hd
                             have hl := hf.2
                             omega)
                        · have e8 : lhN (fitM S cc9 sh) S (k + 1) = (lhN (fitM S cc9 sh) S k) := if_neg hf
                          first
                          | (rw [e8] at h8
                             refine aw_less ?_ h8
                             exact fun q hq => List.mem_of_mem_take (i := 5) hq)
                          | (exfalso
                             exact hf ⟨decide_eq_true ⟨by omega, by omega, by omega⟩, by omega⟩)
                      · refine aw_iload C dX3_lowestHead_90 rfl ?_
                        refine aw_istore_n C dX3_lowestHead_92 rfl rfl ?_
                        refine aw_iinc C dX3_lowestHead_93 rfl rfl rfl ?_
                        refine aw_goto (tgt := 5) C dX3_lowestHead_96 (by decide) ?_
                        have h8 := ih (k + 1) (by omega) (by omega)
                        by_cases hf : fitM S cc9 sh k = true ∧ ((lhN (fitM S cc9 sh) S k) = -1 ∨ atS S k 0 < atS S (lhN (fitM S cc9 sh) S k) 0)
                        · have e8 : lhN (fitM S cc9 sh) S (k + 1) = k := if_pos hf
                          have hd := of_decide_eq_true hf.1
                          first
                          | (rw [e8] at h8
                             refine aw_less ?_ h8
                             exact fun q hq => List.mem_of_mem_take (i := 5) hq)
                          | (exfalso
                             obtain ⟨hd1, hd2, hd3⟩ := hd
                             have hl := hf.2
                             omega)
                        · have e8 : lhN (fitM S cc9 sh) S (k + 1) = (lhN (fitM S cc9 sh) S k) := if_neg hf
                          first
                          | (rw [e8] at h8
                             refine aw_less ?_ h8
                             exact fun q hq => List.mem_of_mem_take (i := 5) hq)
                          | (exfalso
                             exact hf ⟨decide_eq_true ⟨by omega, by omega, by omega⟩, by omega⟩)
  refine aw_iconst C dX3_lowestHead_0 ?_
  refine aw_istore_n C dX3_lowestHead_1 rfl rfl ?_
  refine aw_iconst C dX3_lowestHead_2 ?_
  refine aw_istore C dX3_lowestHead_3 rfl rfl ?_
  exact lp 6 0 (by omega) (by omega)
set_option maxHeartbeats 4000000 in
set_option maxRecDepth 100000 in
theorem c_X3_laneOut {l : Launch} {G : va_G × (Nat → ClassId)} {am : Nat → Nat} {S P : St} (hI : Inv S) : Mi l G yX3_laneOut wsX3_laneOut ({ frames := 2, cells := 0, slots := 0, locals := 47 } : Room) [.ref (am 0)] (WM G.2 am S P) (fun r u => r = outS S ∧ u = (WM G.2 am S P)) := by
  refine Mi.of (own := RX3) (cc := cX3_laneOut) (maxL := 4) (ret := (some .int)) (by decide) rfl rfl rfl ?_
  intro p e s m args below meth c A C hN
  have hts := C.2.2.2.2.1
  have iFX3 : ∀ w ∈ u_ws RX3 TX3 19, w ∈ wsX3_laneOut := by decide +kernel
  have k_60 := hts (.fieldLink RX3 60 "PaintSequencerModel" "latestColour" "I") (by decide +kernel)
  have k_77 := hts (.fieldLink RX3 77 "PaintSequencerModel" "exit" "I") (by decide +kernel)
  have k_39 := hts (.fieldLink RX3 39 "PaintSequencerModel" "lanes" "I") (by decide +kernel)
  obtain ⟨hn, hz, hr, hc, hp, ha, hq, ht⟩ := id hI
  have lh_r : -2147483648 ≤ lhN (fitM S (S.1 8) (-1)) S (S.1 0).toNat ∧ lhN (fitM S (S.1 8) (-1)) S (S.1 0).toNat < 2147483648 := by
    have := lhN_b (fitM S (S.1 8) (-1)) S (S.1 0).toNat
    omega
  have lp : ∀ (n : Nat) (k : Nat), (k : Int) ≤ S.1 0 → S.1 0 - k < n → alS S = -1 → AW p l e (headSpec wsX3_laneOut ({ frames := 2, cells := 0, slots := 0, locals := 47 } : Room)).room s m args below meth c 4 G A s.heap 0 0 (MQ below (QPi G (fun r u => r = outS S ∧ u = (WM G.2 am S P)) A) args s 0 0 A) (WM G.2 am S P) [(0, .ref (am 0)), (1, .int (zI (-1))), (2, .int (zI (mxN S k))), (3, .int (zI k))] 40 [] := by
    intro n
    induction n with
    | zero =>
      intro k h1 h2 hal
      exfalso
      omega
    | succ n ih =>
      intro k h1 h2 hal
      refine aw_iload_n C dX3_laneOut_40 rfl ?_
      refine aw_aload_n C dX3_laneOut_41 rfl ?_
      refine aw_get (q0 := 0) (k := 0) C iFX3 k_39 rfl rfl rfl rfl dX3_laneOut_42 ?_
      refine aw_icmp_ge (tgt := 73) C dX3_laneOut_45 (by decide) (by omega) (by omega) (fun c45 => ?_) (fun c45 => ?_)
      · have ek : (S.1 0).toNat = k := by omega
        have h7 := mxN_b hI k (by omega)
        refine aw_aload_n C dX3_laneOut_73 rfl ?_
        refine aw_iconst C dX3_laneOut_74 ?_
        refine aw_aload_n C dX3_laneOut_75 rfl ?_
        refine aw_get (q0 := 0) (k := 4) C iFX3 k_77 rfl rfl rfl rfl dX3_laneOut_76 ?_
        refine aw_iconst C dX3_laneOut_79 ?_
        refine aw_icmp_ne (tgt := 87) C dX3_laneOut_80 (by decide) (by omega) (by omega) (fun c80 => ?_) (fun c80 => ?_)
        · refine aw_iconst C dX3_laneOut_87 ?_
          refine cV2i (ci := 3) (q0 := 0) C hN (c_X3_lowestHead hI (by omega) (by omega)) (cwV 2 hts gX3_laneOut_X3_lowestHead rfl rfl rfl (by decide +kernel) ⟨Nat.le_of_ble_eq_true rfl, Nat.le_of_ble_eq_true rfl⟩) rfl rfl rfl rfl dX3_laneOut_88 ⟨Nat.zero_le _, Nat.zero_le _⟩ (fun r88 u88 q88 => ?_)
          obtain ⟨rfl, rfl⟩ := q88
          exact aw_iret C dX3_laneOut_91 ⟨by
            unfold outS
            rw [if_pos hal]
            first
            | (exfalso; omega)
            | (have e9 := lhN_congr (S := S) (n := (S.1 0).toNat) (fun q g0 g1 => fit_any hI g0 (by omega))
               rw [e9]
               first
               | rw [if_pos c80, ek]
               | rw [if_neg c80]), rfl⟩
        · refine aw_iload_n C dX3_laneOut_83 rfl ?_
          refine aw_goto (tgt := 88) C dX3_laneOut_84 (by decide) ?_
          refine cV2i (ci := 3) (q0 := 0) C hN (c_X3_lowestHead hI (by omega) (by omega)) (cwV 2 hts gX3_laneOut_X3_lowestHead rfl rfl rfl (by decide +kernel) ⟨Nat.le_of_ble_eq_true rfl, Nat.le_of_ble_eq_true rfl⟩) rfl rfl rfl rfl dX3_laneOut_88 ⟨Nat.zero_le _, Nat.zero_le _⟩ (fun r88 u88 q88 => ?_)
          obtain ⟨rfl, rfl⟩ := q88
          exact aw_iret C dX3_laneOut_91 ⟨by
            unfold outS
            rw [if_pos hal]
            first
            | (exfalso; omega)
            | (have e9 := lhN_congr (S := S) (n := (S.1 0).toNat) (fun q g0 g1 => fit_any hI g0 (by omega))
               rw [e9]
               first
               | rw [if_pos c80, ek]
               | rw [if_neg c80]), rfl⟩
      · have h9 := blkS_b hI (i := k) (by omega) (by omega)
        have h7 := mxN_b hI k (by omega)
        refine aw_aload_n C dX3_laneOut_48 rfl ?_
        refine aw_iload_n C dX3_laneOut_49 rfl ?_
        refine cV1i (ci := 3) (q0 := 0) C hN (c_X3_blockOf hI (by omega) (by omega)) (cwV 1 hts gX3_laneOut_X3_blockOf rfl rfl rfl (by decide +kernel) ⟨Nat.le_of_ble_eq_true rfl, Nat.le_of_ble_eq_true rfl⟩) rfl rfl rfl rfl dX3_laneOut_50 ⟨Nat.zero_le _, Nat.zero_le _⟩ (fun r50 u50 q50 => ?_)
        obtain ⟨rfl, rfl⟩ := q50
        refine aw_iload_n C dX3_laneOut_53 rfl ?_
        refine aw_icmp_le (tgt := 65) C dX3_laneOut_54 (by decide) (by omega) (by omega) (fun c54 => ?_) (fun c54 => ?_)
        · refine aw_iload_n C dX3_laneOut_65 rfl ?_
          refine aw_istore_n C dX3_laneOut_66 rfl rfl ?_
          refine aw_iinc C dX3_laneOut_67 rfl rfl rfl ?_
          refine aw_goto (tgt := 40) C dX3_laneOut_70 (by decide) ?_
          have h8 := ih (k + 1) (by omega) (by omega) hal
          first
          | (have e8 : mxN S (k + 1) = blkS S k := if_pos c54
             rw [e8] at h8
             exact h8)
          | (have e8 : mxN S (k + 1) = mxN S k := if_neg (Int.not_lt.mpr c54)
             rw [e8] at h8
             exact h8)
        · refine aw_aload_n C dX3_laneOut_57 rfl ?_
          refine aw_iload_n C dX3_laneOut_58 rfl ?_
          refine cV1i (ci := 3) (q0 := 0) C hN (c_X3_blockOf hI (by omega) (by omega)) (cwV 1 hts gX3_laneOut_X3_blockOf rfl rfl rfl (by decide +kernel) ⟨Nat.le_of_ble_eq_true rfl, Nat.le_of_ble_eq_true rfl⟩) rfl rfl rfl rfl dX3_laneOut_59 ⟨Nat.zero_le _, Nat.zero_le _⟩ (fun r59 u59 q59 => ?_)
          obtain ⟨rfl, rfl⟩ := q59
          refine aw_goto (tgt := 66) C dX3_laneOut_62 (by decide) ?_
          refine aw_istore_n C dX3_laneOut_66 rfl rfl ?_
          refine aw_iinc C dX3_laneOut_67 rfl rfl rfl ?_
          refine aw_goto (tgt := 40) C dX3_laneOut_70 (by decide) ?_
          have h8 := ih (k + 1) (by omega) (by omega) hal
          first
          | (have e8 : mxN S (k + 1) = blkS S k := if_pos c54
             rw [e8] at h8
             exact h8)
          | (have e8 : mxN S (k + 1) = mxN S k := if_neg (Int.not_lt.mpr c54)
             rw [e8] at h8
             exact h8)
  refine aw_aload_n C dX3_laneOut_0 rfl ?_
  refine aw_get (q0 := 0) (k := 14) C iFX3 k_60 rfl rfl rfl rfl dX3_laneOut_1 ?_
  refine aw_iconst C dX3_laneOut_4 ?_
  refine aw_icmp_eq (tgt := 15) C dX3_laneOut_5 (by decide) (by omega) (by omega) (fun c5 => ?_) (fun c5 => ?_)
  · refine aw_iconst C dX3_laneOut_15 ?_
    refine aw_goto (tgt := 28) C dX3_laneOut_16 (by decide) ?_
    refine aw_istore_n C dX3_laneOut_28 rfl rfl ?_
    refine aw_iload_n C dX3_laneOut_29 rfl ?_
    refine aw_iconst C dX3_laneOut_30 ?_
    refine aw_icmp_eq (tgt := 36) C dX3_laneOut_31 (by decide) (by first | omega | exact lh_r) (by omega) (fun c31 => ?_) (fun c31 => ?_)
    · refine aw_iconst C dX3_laneOut_36 ?_
      refine aw_istore_n C dX3_laneOut_37 rfl rfl ?_
      refine aw_iconst C dX3_laneOut_38 ?_
      refine aw_istore_n C dX3_laneOut_39 rfl rfl ?_
      have hal : alS S = -1 := by
        first
        | exact al_none hI c5
        | exact if_pos c12
        | (unfold alS
           rw [if_neg c12, lhN_congr (S := S) (n := (S.1 0).toNat) (fun q g0 g1 => fit_same hI c5 g0 (by omega))]
           exact c31)
      first
      | (rw [c31]
         exact lp 6 0 (by omega) (by omega) hal)
      | exact lp 6 0 (by omega) (by omega) hal
    · refine aw_iload_n C dX3_laneOut_34 rfl ?_
      exact aw_iret C dX3_laneOut_35 ⟨by
        first
        | (exfalso; omega)
        | (have e9 : alS S = lhN (fitM S (S.1 8) (-1)) S (S.1 0).toNat := by
             unfold alS
             rw [if_neg c12, lhN_congr (S := S) (n := (S.1 0).toNat) (fun q g0 g1 => fit_same hI c5 g0 (by omega))]
           unfold outS
           rw [e9, if_neg c31]), rfl⟩
  · refine aw_aload_n C dX3_laneOut_8 rfl ?_
    refine aw_get (q0 := 0) (k := 4) C iFX3 k_77 rfl rfl rfl rfl dX3_laneOut_9 ?_
    refine aw_if_ne (tgt := 19) C dX3_laneOut_12 (by decide) (by omega) (fun c12 => ?_) (fun c12 => ?_)
    · refine aw_aload_n C dX3_laneOut_19 rfl ?_
      refine aw_aload_n C dX3_laneOut_20 rfl ?_
      refine aw_get (q0 := 0) (k := 14) C iFX3 k_60 rfl rfl rfl rfl dX3_laneOut_21 ?_
      refine aw_iconst C dX3_laneOut_24 ?_
      refine cV2i (ci := 3) (q0 := 0) C hN (c_X3_lowestHead hI (by omega) (by omega)) (cwV 2 hts gX3_laneOut_X3_lowestHead rfl rfl rfl (by decide +kernel) ⟨Nat.le_of_ble_eq_true rfl, Nat.le_of_ble_eq_true rfl⟩) rfl rfl rfl rfl dX3_laneOut_25 ⟨Nat.zero_le _, Nat.zero_le _⟩ (fun r25 u25 q25 => ?_)
      obtain ⟨rfl, rfl⟩ := q25
      refine aw_istore_n C dX3_laneOut_28 rfl rfl ?_
      refine aw_iload_n C dX3_laneOut_29 rfl ?_
      refine aw_iconst C dX3_laneOut_30 ?_
      refine aw_icmp_eq (tgt := 36) C dX3_laneOut_31 (by decide) (by first | omega | exact lh_r) (by omega) (fun c31 => ?_) (fun c31 => ?_)
      · refine aw_iconst C dX3_laneOut_36 ?_
        refine aw_istore_n C dX3_laneOut_37 rfl rfl ?_
        refine aw_iconst C dX3_laneOut_38 ?_
        refine aw_istore_n C dX3_laneOut_39 rfl rfl ?_
        have hal : alS S = -1 := by
          first
          | exact al_none hI c5
          | exact if_pos c12
          | (unfold alS
             rw [if_neg c12, lhN_congr (S := S) (n := (S.1 0).toNat) (fun q g0 g1 => fit_same hI c5 g0 (by omega))]
             exact c31)
        first
        | (rw [c31]
           exact lp 6 0 (by omega) (by omega) hal)
        | exact lp 6 0 (by omega) (by omega) hal
      · refine aw_iload_n C dX3_laneOut_34 rfl ?_
        exact aw_iret C dX3_laneOut_35 ⟨by
          first
          | (exfalso; omega)
          | (have e9 : alS S = lhN (fitM S (S.1 8) (-1)) S (S.1 0).toNat := by
               unfold alS
               rw [if_neg c12, lhN_congr (S := S) (n := (S.1 0).toNat) (fun q g0 g1 => fit_same hI c5 g0 (by omega))]
             unfold outS
             rw [e9, if_neg c31]), rfl⟩
    · refine aw_iconst C dX3_laneOut_15 ?_
      refine aw_goto (tgt := 28) C dX3_laneOut_16 (by decide) ?_
      refine aw_istore_n C dX3_laneOut_28 rfl rfl ?_
      refine aw_iload_n C dX3_laneOut_29 rfl ?_
      refine aw_iconst C dX3_laneOut_30 ?_
      refine aw_icmp_eq (tgt := 36) C dX3_laneOut_31 (by decide) (by first | omega | exact lh_r) (by omega) (fun c31 => ?_) (fun c31 => ?_)
      · refine aw_iconst C dX3_laneOut_36 ?_
        refine aw_istore_n C dX3_laneOut_37 rfl rfl ?_
        refine aw_iconst C dX3_laneOut_38 ?_
        refine aw_istore_n C dX3_laneOut_39 rfl rfl ?_
        have hal : alS S = -1 := by
          first
          | exact al_none hI c5
          | exact if_pos c12
          | (unfold alS
             rw [if_neg c12, lhN_congr (S := S) (n := (S.1 0).toNat) (fun q g0 g1 => fit_same hI c5 g0 (by omega))]
             exact c31)
        first
        | (rw [c31]
           exact lp 6 0 (by omega) (by omega) hal)
        | exact lp 6 0 (by omega) (by omega) hal
      · refine aw_iload_n C dX3_laneOut_34 rfl ?_
        exact aw_iret C dX3_laneOut_35 ⟨by
          first
          | (exfalso; omega)
          | (have e9 : alS S = lhN (fitM S (S.1 8) (-1)) S (S.1 0).toNat := by
               unfold alS
               rw [if_neg c12, lhN_congr (S := S) (n := (S.1 0).toNat) (fun q g0 g1 => fit_same hI c5 g0 (by omega))]
             unfold outS
             rw [e9, if_neg c31]), rfl⟩
set_option maxHeartbeats 4000000 in
set_option maxRecDepth 100000 in
theorem c_X3_inLanes {l : Launch} {G : va_G × (Nat → ClassId)} {am : Nat → Nat} {S P : St} (hI : Inv S) : Mi l G yX3_inLanes wsX3_inLanes ({ frames := 0, cells := 0, slots := 0, locals := 0 } : Room) [.ref (am 0)] (WM G.2 am S P) (fun r u => r = nlS S ∧ u = (WM G.2 am S P)) := by
  refine Mi.of (own := RX3) (cc := cX3_inLanes) (maxL := 3) (ret := (some .int)) (by decide) rfl rfl rfl ?_
  intro p e s m args below meth c A C hN
  have hts := C.2.2.2.2.1
  have iFX3 : ∀ w ∈ u_ws RX3 TX3 19, w ∈ wsX3_inLanes := by decide +kernel
  have k_39 := hts (.fieldLink RX3 39 "PaintSequencerModel" "lanes" "I") (by decide +kernel)
  have k_13 := hts (.fieldLink RX3 13 "PaintSequencerModel" "size" "[I") (by decide +kernel)
  obtain ⟨hn, hz, hr, hc, hp, ha, hq, ht⟩ := id hI
  have lp : ∀ (n : Nat) (k : Nat), (k : Int) ≤ S.1 0 → S.1 0 - k < n → AW p l e (headSpec wsX3_inLanes ({ frames := 0, cells := 0, slots := 0, locals := 0 } : Room)).room s m args below meth c 3 G A s.heap 0 0 (MQ below (QPi G (fun r u => r = nlS S ∧ u = (WM G.2 am S P)) A) args s 0 0 A) (WM G.2 am S P) [(0, .ref (am 0)), (1, .int (zI (sumN (S.2 0) k))), (2, .int (zI k))] 4 [] := by
    intro n
    induction n with
    | zero =>
      intro k h1 h2
      exfalso
      omega
    | succ n ih =>
      intro k h1 h2
      refine aw_iload_n C dX3_inLanes_4 rfl ?_
      refine aw_aload_n C dX3_inLanes_5 rfl ?_
      refine aw_get (q0 := 0) (k := 0) C iFX3 k_39 rfl rfl rfl rfl dX3_inLanes_6 ?_
      refine aw_icmp_ge (tgt := 27) C dX3_inLanes_9 (by decide) (by omega) (by omega) (fun c9 => ?_) (fun c9 => ?_)
      · refine aw_iload_n C dX3_inLanes_27 rfl ?_
        exact aw_iret C dX3_inLanes_28 ⟨by unfold nlS; rw [show (S.1 0).toNat = k by omega], rfl⟩
      · refine aw_iload_n C dX3_inLanes_12 rfl ?_
        refine aw_aload_n C dX3_inLanes_13 rfl ?_
        refine aw_get (q0 := 0) (k := 6) C iFX3 k_13 rfl rfl rfl rfl dX3_inLanes_14 ?_
        refine aw_iload_n C dX3_inLanes_17 rfl ?_
        refine aw_ldI (q0 := 2) C rfl (by omega) (by omega) rfl dX3_inLanes_18 ?_
        refine aw_iadd C dX3_inLanes_19 ?_
        refine aw_istore_n C dX3_inLanes_20 rfl rfl ?_
        refine aw_iinc C dX3_inLanes_21 rfl rfl rfl ?_
        refine aw_goto (tgt := 4) C dX3_inLanes_24 (by decide) ?_
        exact ih (k + 1) (by omega) (by omega)
  refine aw_iconst C dX3_inLanes_0 ?_
  refine aw_istore_n C dX3_inLanes_1 rfl rfl ?_
  refine aw_iconst C dX3_inLanes_2 ?_
  refine aw_istore_n C dX3_inLanes_3 rfl rfl ?_
  exact lp 6 0 (by omega) (by omega)
