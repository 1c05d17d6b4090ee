/-- what the helper without a value leaves -/
def pV (G : va_G × (Nat → ClassId)) (ad : Nat → Nat) (S S' : St) (k : Int) : Int → va_W → Prop := fun r u => r = k ∧ ∃ P9 : St, (k = 0 → u = WX G.2 ad S' P9) ∧ (¬ k = 0 → u = WX G.2 ad S P9)
set_option maxHeartbeats 4000000 in
set_option maxRecDepth 100000 in
theorem h_begin {l : Launch} (hl : l.stackTraces = false) {G : va_G × (Nat → ClassId)} {sa : Nat → Nat} {ad : Nat → Nat} {S P : St} {a b z : Int} (ha : -2147483648 ≤ a ∧ a < 2147483648) (hb : -2147483648 ≤ b ∧ b < 2147483648) (hz : -2147483648 ≤ z ∧ z < 2147483648) {o : Nat} {f : Nat → Int64} : Mh l G sa yL_begin wsL_begin ({ frames := 7, cells := 1, slots := 6, locals := 114 } : Room) [.ref (ad 0), .int (zI a), .int (zI b), .int (zI z), .ref o] (WX G.2 ad S P ++ [oL G.2 o f]) (pH G ad o S (sBeg S a b z) (kBeg a b z) (S.1 5)) := by
  refine Mh.of (own := RL) (cc := cL_begin) (maxL := 6) (ret := (some .int)) (hh := [(0, 12, 15, 13)]) hl (by decide) rfl rfl rfl ?_
  intro p e s m args below meth c A C X
  have hts := C.2.2.2.2.1
  have kl13 := hts (.classLink RL 13 "java/lang/IllegalArgumentException") (by decide +kernel)
  refine aw_aload C dL_begin_0 rfl ?_
  refine aw_iconst C dL_begin_2 ?_
  refine aw_aload_n C dL_begin_3 rfl ?_
  refine aw_iload_n C dL_begin_4 rfl ?_
  refine aw_iload_n C dL_begin_5 rfl ?_
  refine aw_iload_n C dL_begin_6 rfl ?_
  refine aw_hi (ci := 2) (q0 := 0) (As := [.int (zI a), .int (zI b), .int (zI z)]) C X (c_X2_begin hl ha hb hz) (cwV 3 hts gL_begin_X2_begin rfl rfl rfl (by decide +kernel) ⟨Nat.le_of_ble_eq_true rfl, Nat.le_of_ble_eq_true rfl⟩) rfl rfl rfl rfl rfl dL_begin_7 ⟨Nat.le_of_ble_eq_true rfl, Nat.le_of_ble_eq_true rfl⟩ (fun E u q => ?_) (fun r u q => ?_)
  · obtain ⟨h9, P9, rfl⟩ := q
    obtain ⟨rfl, hk⟩ := h9
    refine ⟨15, ⟨[], (0, 12, 15, 13), [], eIAE, rfl, rfl, (fun _ h => nomatch h), rfl, by decide, kl13, va_Nw.use rfl X.2.1.2.1.1⟩, fun q9 => ?_⟩
    refine aw_astore C dL_begin_15 rfl rfl ?_
    refine aw_iconst C dL_begin_17 ?_
    exact aw_iretH C dL_begin_18 ⟨hk.symm, P9, f, fun h => absurd (hk.symm.trans h) (by decide), fun _ => rfl⟩
  · obtain ⟨hk, rfl, P9, rfl⟩ := q
    refine aw_i2l C dL_begin_10 ?_
    refine aw_lastore (q0 := 28) C rfl rfl dL_begin_11 ?_
    refine aw_goto (tgt := 19) C dL_begin_12 (by decide) ?_
    refine aw_iconst C dL_begin_19 ?_
    exact aw_iretH C dL_begin_20 ⟨hk.symm, P9, _, fun _ => ⟨rfl, rfl⟩, fun h => absurd hk h⟩
set_option maxHeartbeats 4000000 in
set_option maxRecDepth 100000 in
theorem h_setRules {l : Launch} (hl : l.stackTraces = false) {G : va_G × (Nat → ClassId)} {sa : Nat → Nat} {ad : Nat → Nat} {S P : St} {a b : Int} (ha : -2147483648 ≤ a ∧ a < 2147483648) (hb : -2147483648 ≤ b ∧ b < 2147483648) : Mh l G sa yL_setRules wsL_setRules ({ frames := 7, cells := 1, slots := 6, locals := 112 } : Room) [.ref (ad 0), .int (zI a), .int (zI b)] (WX G.2 ad S P) (pV G ad S (sSet S a b) (kSet a b)) := by
  refine Mh.of (own := RL) (cc := cL_setRules) (maxL := 4) (ret := (some .int)) (hh := [(0, 6, 9, 13)]) hl (by decide) rfl rfl rfl ?_
  intro p e s m args below meth c A C X
  have hts := C.2.2.2.2.1
  have kl13 := hts (.classLink RL 13 "java/lang/IllegalArgumentException") (by decide +kernel)
  refine aw_aload_n C dL_setRules_0 rfl ?_
  refine aw_iload_n C dL_setRules_1 rfl ?_
  refine aw_iload_n C dL_setRules_2 rfl ?_
  rw [← List.append_nil (WX G.2 ad S P)]
  refine aw_hv (ci := 2) (q0 := 0) (As := [.int (zI a), .int (zI b)]) C X (c_X2_setRules hl ha hb) (cwV 2 hts gL_setRules_X2_setRules rfl rfl rfl (by decide +kernel) ⟨Nat.le_of_ble_eq_true rfl, Nat.le_of_ble_eq_true rfl⟩) rfl rfl rfl rfl rfl dL_setRules_3 ⟨Nat.le_of_ble_eq_true rfl, Nat.le_of_ble_eq_true rfl⟩ (fun E u q => ?_) (fun u q => ?_)
  · obtain ⟨h9, P9, rfl⟩ := q
    obtain ⟨rfl, hk⟩ := h9
    refine ⟨9, ⟨[], (0, 6, 9, 13), [], eIAE, rfl, rfl, (fun _ h => nomatch h), rfl, by decide, kl13, va_Nw.use rfl X.2.1.2.1.1⟩, fun q9 => ?_⟩
    refine aw_astore_n C dL_setRules_9 rfl rfl ?_
    refine aw_iconst C dL_setRules_10 ?_
    exact aw_iretH C dL_setRules_11 ⟨hk.symm, P9, fun h => absurd (hk.symm.trans h) (by decide), fun _ => List.append_nil _⟩
  · obtain ⟨hk, P9, rfl⟩ := q
    refine aw_goto (tgt := 12) C dL_setRules_6 (by decide) ?_
    refine aw_iconst C dL_setRules_12 ?_
    exact aw_iretH C dL_setRules_13 ⟨hk.symm, P9, fun _ => List.append_nil _, fun h => absurd hk h⟩
set_option maxHeartbeats 4000000 in
set_option maxRecDepth 100000 in
theorem h_arrive {l : Launch} (hl : l.stackTraces = false) {G : va_G × (Nat → ClassId)} {sa : Nat → Nat} {ad : Nat → Nat} {S P : St} (hI : Inv S) {v : Int} (hv : -2147483648 ≤ v ∧ v < 2147483648) {o : Nat} {f : Nat → Int64} : Mh l G sa yL_arrive wsL_arrive ({ frames := 7, cells := 1, slots := 6, locals := 112 } : Room) [.ref (ad 0), .int (zI v), .ref o] (WX G.2 ad S P ++ [oL G.2 o f]) (pH G ad o S (sArr S v) (kArr S v) (inS S v)) := by
  refine Mh.of (own := RL) (cc := cL_arrive) (maxL := 4) (ret := (some .int)) (hh := [(0, 9, 12, 13), (0, 9, 15, 23)]) hl (by decide) rfl rfl rfl ?_
  intro p e s m args below meth c A C X
  have hts := C.2.2.2.2.1
  have kl13 := hts (.classLink RL 13 "java/lang/IllegalArgumentException") (by decide +kernel)
  have kl23 := hts (.classLink RL 23 "java/lang/IllegalStateException") (by decide +kernel)
  refine aw_aload_n C dL_arrive_0 rfl ?_
  refine aw_iconst C dL_arrive_1 ?_
  refine aw_aload_n C dL_arrive_2 rfl ?_
  refine aw_iload_n C dL_arrive_3 rfl ?_
  refine aw_hi (ci := 2) (q0 := 0) (As := [.int (zI v)]) C X (c_X2_arrive hl hI hv) (cwV 1 hts gL_arrive_X2_arrive rfl rfl rfl (by decide +kernel) ⟨Nat.le_of_ble_eq_true rfl, Nat.le_of_ble_eq_true rfl⟩) rfl rfl rfl rfl rfl dL_arrive_4 ⟨Nat.le_of_ble_eq_true rfl, Nat.le_of_ble_eq_true rfl⟩ (fun E u q => ?_) (fun r u q => ?_)
  · obtain ⟨h9, P9, rfl⟩ := q
    rcases h9 with ⟨rfl, hk⟩ | ⟨rfl, hk⟩
    · refine ⟨12, ⟨[], (0, 9, 12, 13), [(0, 9, 15, 23)], eIAE, rfl, rfl, (fun _ h => nomatch h), rfl, by decide, kl13, va_Nw.use rfl X.2.1.2.1.1⟩, fun q9 => ?_⟩
      refine aw_astore_n C dL_arrive_12 rfl rfl ?_
      refine aw_iconst C dL_arrive_13 ?_
      exact aw_iretH C dL_arrive_14 ⟨hk.symm, P9, f, fun h => absurd (hk.symm.trans h) (by decide), fun _ => rfl⟩
    · refine ⟨15, ⟨[(0, 9, 12, 13)], (0, 9, 15, 23), [], eISE, rfl, rfl, (List.forall_mem_cons.mpr ⟨⟨by decide, eIAE, kl13, X.2.2.2.1.1⟩, (fun _ h => nomatch h)⟩), rfl, by decide, kl23, va_Nw.use rfl X.2.1.2.1.2.1⟩, fun q9 => ?_⟩
      refine aw_astore_n C dL_arrive_15 rfl rfl ?_
      refine aw_iconst C dL_arrive_16 ?_
      exact aw_iretH C dL_arrive_17 ⟨hk.symm, P9, f, fun h => absurd (hk.symm.trans h) (by decide), fun _ => rfl⟩
  · obtain ⟨hk, rfl, P9, rfl⟩ := q
    refine aw_i2l C dL_arrive_7 ?_
    refine aw_lastore (q0 := 28) C rfl rfl dL_arrive_8 ?_
    refine aw_goto (tgt := 18) C dL_arrive_9 (by decide) ?_
    refine aw_iconst C dL_arrive_18 ?_
    exact aw_iretH C dL_arrive_19 ⟨hk.symm, P9, _, fun _ => ⟨rfl, rfl⟩, fun h => absurd hk h⟩
set_option maxHeartbeats 4000000 in
set_option maxRecDepth 100000 in
theorem h_arriveIn {l : Launch} (hl : l.stackTraces = false) {G : va_G × (Nat → ClassId)} {sa : Nat → Nat} {ad : Nat → Nat} {S P : St} (hI : Inv S) {v i : Int} (hv : -2147483648 ≤ v ∧ v < 2147483648) (hi : -2147483648 ≤ i ∧ i < 2147483648) {o : Nat} {f : Nat → Int64} : Mh l G sa yL_arriveIn wsL_arriveIn ({ frames := 7, cells := 1, slots := 6, locals := 113 } : Room) [.ref (ad 0), .int (zI v), .int (zI i), .ref o] (WX G.2 ad S P ++ [oL G.2 o f]) (pH G ad o S (sArI S v i) (kArI S v i) (S.1 5)) := by
  refine Mh.of (own := RL) (cc := cL_arriveIn) (maxL := 5) (ret := (some .int)) (hh := [(0, 10, 13, 13), (0, 10, 17, 29), (0, 10, 21, 23)]) hl (by decide) rfl rfl rfl ?_
  intro p e s m args below meth c A C X
  have hts := C.2.2.2.2.1
  have kl13 := hts (.classLink RL 13 "java/lang/IllegalArgumentException") (by decide +kernel)
  have kl23 := hts (.classLink RL 23 "java/lang/IllegalStateException") (by decide +kernel)
  have kl29 := hts (.classLink RL 29 "java/lang/IndexOutOfBoundsException") (by decide +kernel)
  refine aw_aload_n C dL_arriveIn_0 rfl ?_
  refine aw_iconst C dL_arriveIn_1 ?_
  refine aw_aload_n C dL_arriveIn_2 rfl ?_
  refine aw_iload_n C dL_arriveIn_3 rfl ?_
  refine aw_iload_n C dL_arriveIn_4 rfl ?_
  refine aw_hi (ci := 2) (q0 := 0) (As := [.int (zI v), .int (zI i)]) C X (c_X2_arriveIn hl hI hv hi) (cwV 2 hts gL_arriveIn_X2_arriveIn rfl rfl rfl (by decide +kernel) ⟨Nat.le_of_ble_eq_true rfl, Nat.le_of_ble_eq_true rfl⟩) rfl rfl rfl rfl rfl dL_arriveIn_5 ⟨Nat.le_of_ble_eq_true rfl, Nat.le_of_ble_eq_true rfl⟩ (fun E u q => ?_) (fun r u q => ?_)
  · obtain ⟨h9, P9, rfl⟩ := q
    rcases h9 with ⟨rfl, hk⟩ | ⟨rfl, hk⟩ | ⟨rfl, hk⟩
    · refine ⟨13, ⟨[], (0, 10, 13, 13), [(0, 10, 17, 29), (0, 10, 21, 23)], eIAE, rfl, rfl, (fun _ h => nomatch h), rfl, by decide, kl13, va_Nw.use rfl X.2.1.2.1.1⟩, fun q9 => ?_⟩
      refine aw_astore C dL_arriveIn_13 rfl rfl ?_
      refine aw_iconst C dL_arriveIn_15 ?_
      exact aw_iretH C dL_arriveIn_16 ⟨hk.symm, P9, f, fun h => absurd (hk.symm.trans h) (by decide), fun _ => rfl⟩
    · refine ⟨17, ⟨[(0, 10, 13, 13)], (0, 10, 17, 29), [(0, 10, 21, 23)], eIOB, rfl, rfl, (List.forall_mem_cons.mpr ⟨⟨by decide, eIAE, kl13, X.2.2.2.1.2.1⟩, (fun _ h => nomatch h)⟩), rfl, by decide, kl29, va_Nw.use rfl X.2.1.2.1.2.2⟩, fun q9 => ?_⟩
      refine aw_astore C dL_arriveIn_17 rfl rfl ?_
      refine aw_iconst C dL_arriveIn_19 ?_
      exact aw_iretH C dL_arriveIn_20 ⟨hk.symm, P9, f, fun h => absurd (hk.symm.trans h) (by decide), fun _ => rfl⟩
    · refine ⟨21, ⟨[(0, 10, 13, 13), (0, 10, 17, 29)], (0, 10, 21, 23), [], eISE, rfl, rfl, (List.forall_mem_cons.mpr ⟨⟨by decide, eIAE, kl13, X.2.2.2.1.1⟩, (List.forall_mem_cons.mpr ⟨⟨by decide, eIOB, kl29, X.2.2.2.1.2.2⟩, (fun _ h => nomatch h)⟩)⟩), rfl, by decide, kl23, va_Nw.use rfl X.2.1.2.1.2.1⟩, fun q9 => ?_⟩
      refine aw_astore C dL_arriveIn_21 rfl rfl ?_
      refine aw_iconst C dL_arriveIn_23 ?_
      exact aw_iretH C dL_arriveIn_24 ⟨hk.symm, P9, f, fun h => absurd (hk.symm.trans h) (by decide), fun _ => rfl⟩
  · obtain ⟨hk, rfl, P9, rfl⟩ := q
    refine aw_i2l C dL_arriveIn_8 ?_
    refine aw_lastore (q0 := 28) C rfl rfl dL_arriveIn_9 ?_
    refine aw_goto (tgt := 25) C dL_arriveIn_10 (by decide) ?_
    refine aw_iconst C dL_arriveIn_25 ?_
    exact aw_iretH C dL_arriveIn_26 ⟨hk.symm, P9, _, fun _ => ⟨rfl, rfl⟩, fun h => absurd hk h⟩
set_option maxHeartbeats 4000000 in
set_option maxRecDepth 100000 in
theorem h_release {l : Launch} (hl : l.stackTraces = false) {G : va_G × (Nat → ClassId)} {sa : Nat → Nat} {ad : Nat → Nat} {S P : St} (hI : Inv S) {o : Nat} {f : Nat → Int64} : Mh l G sa yL_release wsL_release ({ frames := 7, cells := 1, slots := 6, locals := 135 } : Room) [.ref (ad 0), .ref o] (WX G.2 ad S P ++ [oL G.2 o f]) (pH G ad o S (relS S (outS S)) (kRel S) (atS S (outS S) 0)) := by
  refine Mh.of (own := RL) (cc := cL_release) (maxL := 3) (ret := (some .int)) (hh := [(0, 8, 11, 23)]) hl (by decide) rfl rfl rfl ?_
  intro p e s m args below meth c A C X
  have hts := C.2.2.2.2.1
  have kl23 := hts (.classLink RL 23 "java/lang/IllegalStateException") (by decide +kernel)
  refine aw_aload_n C dL_release_0 rfl ?_
  refine aw_iconst C dL_release_1 ?_
  refine aw_aload_n C dL_release_2 rfl ?_
  refine aw_hi (ci := 2) (q0 := 0) (As := []) C X (c_X2_release hl hI) (cwV 0 hts gL_release_X2_release rfl rfl rfl (by decide +kernel) ⟨Nat.le_of_ble_eq_true rfl, Nat.le_of_ble_eq_true rfl⟩) rfl rfl rfl rfl rfl dL_release_3 ⟨Nat.le_of_ble_eq_true rfl, Nat.le_of_ble_eq_true rfl⟩ (fun E u q => ?_) (fun r u q => ?_)
  · obtain ⟨h9, P9, rfl⟩ := q
    obtain ⟨rfl, hk⟩ := h9
    refine ⟨11, ⟨[], (0, 8, 11, 23), [], eISE, rfl, rfl, (fun _ h => nomatch h), rfl, by decide, kl23, va_Nw.use rfl X.2.1.2.1.2.1⟩, fun q9 => ?_⟩
    refine aw_astore_n C dL_release_11 rfl rfl ?_
    refine aw_iconst C dL_release_12 ?_
    exact aw_iretH C dL_release_13 ⟨hk.symm, P9, f, fun h => absurd (hk.symm.trans h) (by decide), fun _ => rfl⟩
  · obtain ⟨hk, rfl, P9, rfl⟩ := q
    refine aw_i2l C dL_release_6 ?_
    refine aw_lastore (q0 := 28) C rfl rfl dL_release_7 ?_
    refine aw_goto (tgt := 14) C dL_release_8 (by decide) ?_
    refine aw_iconst C dL_release_14 ?_
    exact aw_iretH C dL_release_15 ⟨hk.symm, P9, _, fun _ => ⟨rfl, rfl⟩, fun h => absurd hk h⟩
set_option maxHeartbeats 4000000 in
set_option maxRecDepth 100000 in
theorem h_releaseFrom {l : Launch} (hl : l.stackTraces = false) {G : va_G × (Nat → ClassId)} {sa : Nat → Nat} {ad : Nat → Nat} {S P : St} (hI : Inv S) {i : Int} (hi : -2147483648 ≤ i ∧ i < 2147483648) {o : Nat} {f : Nat → Int64} : Mh l G sa yL_releaseFrom wsL_releaseFrom ({ frames := 7, cells := 1, slots := 6, locals := 111 } : Room) [.ref (ad 0), .int (zI i), .ref o] (WX G.2 ad S P ++ [oL G.2 o f]) (pH G ad o S (relS S i) (kReF S i) (atS S i 0)) := by
  refine Mh.of (own := RL) (cc := cL_releaseFrom) (maxL := 4) (ret := (some .int)) (hh := [(0, 9, 12, 29), (0, 9, 15, 23)]) hl (by decide) rfl rfl rfl ?_
  intro p e s m args below meth c A C X
  have hts := C.2.2.2.2.1
  have kl23 := hts (.classLink RL 23 "java/lang/IllegalStateException") (by decide +kernel)
  have kl29 := hts (.classLink RL 29 "java/lang/IndexOutOfBoundsException") (by decide +kernel)
  refine aw_aload_n C dL_releaseFrom_0 rfl ?_
  refine aw_iconst C dL_releaseFrom_1 ?_
  refine aw_aload_n C dL_releaseFrom_2 rfl ?_
  refine aw_iload_n C dL_releaseFrom_3 rfl ?_
  refine aw_hi (ci := 2) (q0 := 0) (As := [.int (zI i)]) C X (c_X2_releaseFrom hl hI hi) (cwV 1 hts gL_releaseFrom_X2_releaseFrom rfl rfl rfl (by decide +kernel) ⟨Nat.le_of_ble_eq_true rfl, Nat.le_of_ble_eq_true rfl⟩) rfl rfl rfl rfl rfl dL_releaseFrom_4 ⟨Nat.le_of_ble_eq_true rfl, Nat.le_of_ble_eq_true rfl⟩ (fun E u q => ?_) (fun r u q => ?_)
  · obtain ⟨h9, P9, rfl⟩ := q
    rcases h9 with ⟨rfl, hk⟩ | ⟨rfl, hk⟩
    · refine ⟨12, ⟨[], (0, 9, 12, 29), [(0, 9, 15, 23)], eIOB, rfl, rfl, (fun _ h => nomatch h), rfl, by decide, kl29, va_Nw.use rfl X.2.1.2.1.2.2⟩, fun q9 => ?_⟩
      refine aw_astore_n C dL_releaseFrom_12 rfl rfl ?_
      refine aw_iconst C dL_releaseFrom_13 ?_
      exact aw_iretH C dL_releaseFrom_14 ⟨hk.symm, P9, f, fun h => absurd (hk.symm.trans h) (by decide), fun _ => rfl⟩
    · refine ⟨15, ⟨[(0, 9, 12, 29)], (0, 9, 15, 23), [], eISE, rfl, rfl, (List.forall_mem_cons.mpr ⟨⟨by decide, eIOB, kl29, X.2.2.2.1.2.2⟩, (fun _ h => nomatch h)⟩), rfl, by decide, kl23, va_Nw.use rfl X.2.1.2.1.2.1⟩, fun q9 => ?_⟩
      refine aw_astore_n C dL_releaseFrom_15 rfl rfl ?_
      refine aw_iconst C dL_releaseFrom_16 ?_
      exact aw_iretH C dL_releaseFrom_17 ⟨hk.symm, P9, f, fun h => absurd (hk.symm.trans h) (by decide), fun _ => rfl⟩
  · obtain ⟨hk, rfl, P9, rfl⟩ := q
    refine aw_i2l C dL_releaseFrom_7 ?_
    refine aw_lastore (q0 := 28) C rfl rfl dL_releaseFrom_8 ?_
    refine aw_goto (tgt := 18) C dL_releaseFrom_9 (by decide) ?_
    refine aw_iconst C dL_releaseFrom_18 ?_
    exact aw_iretH C dL_releaseFrom_19 ⟨hk.symm, P9, _, fun _ => ⟨rfl, rfl⟩, fun h => absurd hk h⟩
set_option maxHeartbeats 4000000 in
set_option maxRecDepth 100000 in
theorem h_releaseBest {l : Launch} (hl : l.stackTraces = false) {G : va_G × (Nat → ClassId)} {sa : Nat → Nat} {ad : Nat → Nat} {S P : St} (hI : Inv S) {o : Nat} {f : Nat → Int64} : Mh l G sa yL_releaseBest wsL_releaseBest ({ frames := 7, cells := 1, slots := 6, locals := 137 } : Room) [.ref (ad 0), .ref o] (WX G.2 ad S P ++ [oL G.2 o f]) (pH G ad o S (relS S (blS S)) (kReB S) (atS S (blS S) 0)) := by
  refine Mh.of (own := RL) (cc := cL_releaseBest) (maxL := 3) (ret := (some .int)) (hh := [(0, 8, 11, 23)]) hl (by decide) rfl rfl rfl ?_
  intro p e s m args below meth c A C X
  have hts := C.2.2.2.2.1
  have kl23 := hts (.classLink RL 23 "java/lang/IllegalStateException") (by decide +kernel)
  refine aw_aload_n C dL_releaseBest_0 rfl ?_
  refine aw_iconst C dL_releaseBest_1 ?_
  refine aw_aload_n C dL_releaseBest_2 rfl ?_
  refine aw_hi (ci := 2) (q0 := 0) (As := []) C X (c_X2_releaseBest hl hI) (cwV 0 hts gL_releaseBest_X2_releaseBest rfl rfl rfl (by decide +kernel) ⟨Nat.le_of_ble_eq_true rfl, Nat.le_of_ble_eq_true rfl⟩) rfl rfl rfl rfl rfl dL_releaseBest_3 ⟨Nat.le_of_ble_eq_true rfl, Nat.le_of_ble_eq_true rfl⟩ (fun E u q => ?_) (fun r u q => ?_)
  · obtain ⟨h9, P9, rfl⟩ := q
    obtain ⟨rfl, hk⟩ := h9
    refine ⟨11, ⟨[], (0, 8, 11, 23), [], eISE, rfl, rfl, (fun _ h => nomatch h), rfl, by decide, kl23, va_Nw.use rfl X.2.1.2.1.2.1⟩, fun q9 => ?_⟩
    refine aw_astore_n C dL_releaseBest_11 rfl rfl ?_
    refine aw_iconst C dL_releaseBest_12 ?_
    exact aw_iretH C dL_releaseBest_13 ⟨hk.symm, P9, f, fun h => absurd (hk.symm.trans h) (by decide), fun _ => rfl⟩
  · obtain ⟨hk, rfl, P9, rfl⟩ := q
    refine aw_i2l C dL_releaseBest_6 ?_
    refine aw_lastore (q0 := 28) C rfl rfl dL_releaseBest_7 ?_
    refine aw_goto (tgt := 14) C dL_releaseBest_8 (by decide) ?_
    refine aw_iconst C dL_releaseBest_14 ?_
    exact aw_iretH C dL_releaseBest_15 ⟨hk.symm, P9, _, fun _ => ⟨rfl, rfl⟩, fun h => absurd hk h⟩
set_option maxHeartbeats 4000000 in
set_option maxRecDepth 100000 in
theorem h_sendBack {l : Launch} (hl : l.stackTraces = false) {G : va_G × (Nat → ClassId)} {sa : Nat → Nat} {ad : Nat → Nat} {S P : St} (hI : Inv S) {b : Int} (hb : -2147483648 ≤ b ∧ b < 2147483648) {o : Nat} {f : Nat → Int64} : Mh l G sa yL_sendBack wsL_sendBack ({ frames := 7, cells := 1, slots := 6, locals := 111 } : Room) [.ref (ad 0), .int (zI b), .ref o] (WX G.2 ad S P ++ [oL G.2 o f]) (pH G ad o S (ua S 2 b 11) (kSeB S b) (cnS (ua S 2 b 11) 11)) := by
  refine Mh.of (own := RL) (cc := cL_sendBack) (maxL := 4) (ret := (some .int)) (hh := [(0, 9, 12, 29), (0, 9, 15, 23)]) hl (by decide) rfl rfl rfl ?_
  intro p e s m args below meth c A C X
  have hts := C.2.2.2.2.1
  have kl23 := hts (.classLink RL 23 "java/lang/IllegalStateException") (by decide +kernel)
  have kl29 := hts (.classLink RL 29 "java/lang/IndexOutOfBoundsException") (by decide +kernel)
  refine aw_aload_n C dL_sendBack_0 rfl ?_
  refine aw_iconst C dL_sendBack_1 ?_
  refine aw_aload_n C dL_sendBack_2 rfl ?_
  refine aw_iload_n C dL_sendBack_3 rfl ?_
  refine aw_hi (ci := 2) (q0 := 0) (As := [.int (zI b)]) C X (c_X2_sendBack hl hI hb) (cwV 1 hts gL_sendBack_X2_sendBack rfl rfl rfl (by decide +kernel) ⟨Nat.le_of_ble_eq_true rfl, Nat.le_of_ble_eq_true rfl⟩) rfl rfl rfl rfl rfl dL_sendBack_4 ⟨Nat.le_of_ble_eq_true rfl, Nat.le_of_ble_eq_true rfl⟩ (fun E u q => ?_) (fun r u q => ?_)
  · obtain ⟨h9, P9, rfl⟩ := q
    rcases h9 with ⟨rfl, hk⟩ | ⟨rfl, hk⟩
    · refine ⟨12, ⟨[], (0, 9, 12, 29), [(0, 9, 15, 23)], eIOB, rfl, rfl, (fun _ h => nomatch h), rfl, by decide, kl29, va_Nw.use rfl X.2.1.2.1.2.2⟩, fun q9 => ?_⟩
      refine aw_astore_n C dL_sendBack_12 rfl rfl ?_
      refine aw_iconst C dL_sendBack_13 ?_
      exact aw_iretH C dL_sendBack_14 ⟨hk.symm, P9, f, fun h => absurd (hk.symm.trans h) (by decide), fun _ => rfl⟩
    · refine ⟨15, ⟨[(0, 9, 12, 29)], (0, 9, 15, 23), [], eISE, rfl, rfl, (List.forall_mem_cons.mpr ⟨⟨by decide, eIOB, kl29, X.2.2.2.1.2.2⟩, (fun _ h => nomatch h)⟩), rfl, by decide, kl23, va_Nw.use rfl X.2.1.2.1.2.1⟩, fun q9 => ?_⟩
      refine aw_astore_n C dL_sendBack_15 rfl rfl ?_
      refine aw_iconst C dL_sendBack_16 ?_
      exact aw_iretH C dL_sendBack_17 ⟨hk.symm, P9, f, fun h => absurd (hk.symm.trans h) (by decide), fun _ => rfl⟩
  · obtain ⟨hk, rfl, P9, rfl⟩ := q
    refine aw_i2l C dL_sendBack_7 ?_
    refine aw_lastore (q0 := 28) C rfl rfl dL_sendBack_8 ?_
    refine aw_goto (tgt := 18) C dL_sendBack_9 (by decide) ?_
    refine aw_iconst C dL_sendBack_18 ?_
    exact aw_iretH C dL_sendBack_19 ⟨hk.symm, P9, _, fun _ => ⟨rfl, rfl⟩, fun h => absurd hk h⟩
set_option maxHeartbeats 4000000 in
set_option maxRecDepth 100000 in
theorem h_reenter {l : Launch} (hl : l.stackTraces = false) {G : va_G × (Nat → ClassId)} {sa : Nat → Nat} {ad : Nat → Nat} {S P : St} (hI : Inv S) {b : Int} (hb : -2147483648 ≤ b ∧ b < 2147483648) {o : Nat} {f : Nat → Int64} : Mh l G sa yL_reenter wsL_reenter ({ frames := 7, cells := 1, slots := 6, locals := 112 } : Room) [.ref (ad 0), .int (zI b), .ref o] (WX G.2 ad S P ++ [oL G.2 o f]) (pH G ad o S (putS S (inS S (S.2 1 b)) b) (kRee S b) (inS S (S.2 1 b))) := by
  refine Mh.of (own := RL) (cc := cL_reenter) (maxL := 4) (ret := (some .int)) (hh := [(0, 9, 12, 29), (0, 9, 15, 23)]) hl (by decide) rfl rfl rfl ?_
  intro p e s m args below meth c A C X
  have hts := C.2.2.2.2.1
  have kl23 := hts (.classLink RL 23 "java/lang/IllegalStateException") (by decide +kernel)
  have kl29 := hts (.classLink RL 29 "java/lang/IndexOutOfBoundsException") (by decide +kernel)
  refine aw_aload_n C dL_reenter_0 rfl ?_
  refine aw_iconst C dL_reenter_1 ?_
  refine aw_aload_n C dL_reenter_2 rfl ?_
  refine aw_iload_n C dL_reenter_3 rfl ?_
  refine aw_hi (ci := 2) (q0 := 0) (As := [.int (zI b)]) C X (c_X2_reenter hl hI hb) (cwV 1 hts gL_reenter_X2_reenter rfl rfl rfl (by decide +kernel) ⟨Nat.le_of_ble_eq_true rfl, Nat.le_of_ble_eq_true rfl⟩) rfl rfl rfl rfl rfl dL_reenter_4 ⟨Nat.le_of_ble_eq_true rfl, Nat.le_of_ble_eq_true rfl⟩ (fun E u q => ?_) (fun r u q => ?_)
  · obtain ⟨h9, P9, rfl⟩ := q
    rcases h9 with ⟨rfl, hk⟩ | ⟨rfl, hk⟩
    · refine ⟨12, ⟨[], (0, 9, 12, 29), [(0, 9, 15, 23)], eIOB, rfl, rfl, (fun _ h => nomatch h), rfl, by decide, kl29, va_Nw.use rfl X.2.1.2.1.2.2⟩, fun q9 => ?_⟩
      refine aw_astore_n C dL_reenter_12 rfl rfl ?_
      refine aw_iconst C dL_reenter_13 ?_
      exact aw_iretH C dL_reenter_14 ⟨hk.symm, P9, f, fun h => absurd (hk.symm.trans h) (by decide), fun _ => rfl⟩
    · refine ⟨15, ⟨[(0, 9, 12, 29)], (0, 9, 15, 23), [], eISE, rfl, rfl, (List.forall_mem_cons.mpr ⟨⟨by decide, eIOB, kl29, X.2.2.2.1.2.2⟩, (fun _ h => nomatch h)⟩), rfl, by decide, kl23, va_Nw.use rfl X.2.1.2.1.2.1⟩, fun q9 => ?_⟩
      refine aw_astore_n C dL_reenter_15 rfl rfl ?_
      refine aw_iconst C dL_reenter_16 ?_
      exact aw_iretH C dL_reenter_17 ⟨hk.symm, P9, f, fun h => absurd (hk.symm.trans h) (by decide), fun _ => rfl⟩
  · obtain ⟨hk, rfl, P9, rfl⟩ := q
    refine aw_i2l C dL_reenter_7 ?_
    refine aw_lastore (q0 := 28) C rfl rfl dL_reenter_8 ?_
    refine aw_goto (tgt := 18) C dL_reenter_9 (by decide) ?_
    refine aw_iconst C dL_reenter_18 ?_
    exact aw_iretH C dL_reenter_19 ⟨hk.symm, P9, _, fun _ => ⟨rfl, rfl⟩, fun h => absurd hk h⟩
set_option maxHeartbeats 4000000 in
set_option maxRecDepth 100000 in
theorem h_assemble {l : Launch} (hl : l.stackTraces = false) {G : va_G × (Nat → ClassId)} {sa : Nat → Nat} {ad : Nat → Nat} {S P : St} (hI : Inv S) {o : Nat} {f : Nat → Int64} : Mh l G sa yL_assemble wsL_assemble ({ frames := 7, cells := 1, slots := 6, locals := 111 } : Room) [.ref (ad 0), .ref o] (WX G.2 ad S P ++ [oL G.2 o f]) (pH G ad o S (asmS S (lbS S)) (kAsm S) (lbS S)) := by
  refine Mh.of (own := RL) (cc := cL_assemble) (maxL := 3) (ret := (some .int)) (hh := [(0, 8, 11, 23)]) hl (by decide) rfl rfl rfl ?_
  intro p e s m args below meth c A C X
  have hts := C.2.2.2.2.1
  have kl23 := hts (.classLink RL 23 "java/lang/IllegalStateException") (by decide +kernel)
  refine aw_aload_n C dL_assemble_0 rfl ?_
  refine aw_iconst C dL_assemble_1 ?_
  refine aw_aload_n C dL_assemble_2 rfl ?_
  refine aw_hi (ci := 2) (q0 := 0) (As := []) C X (c_X2_assemble hl hI) (cwV 0 hts gL_assemble_X2_assemble rfl rfl rfl (by decide +kernel) ⟨Nat.le_of_ble_eq_true rfl, Nat.le_of_ble_eq_true rfl⟩) rfl rfl rfl rfl rfl dL_assemble_3 ⟨Nat.le_of_ble_eq_true rfl, Nat.le_of_ble_eq_true rfl⟩ (fun E u q => ?_) (fun r u q => ?_)
  · obtain ⟨h9, P9, rfl⟩ := q
    obtain ⟨rfl, hk⟩ := h9
    refine ⟨11, ⟨[], (0, 8, 11, 23), [], eISE, rfl, rfl, (fun _ h => nomatch h), rfl, by decide, kl23, va_Nw.use rfl X.2.1.2.1.2.1⟩, fun q9 => ?_⟩
    refine aw_astore_n C dL_assemble_11 rfl rfl ?_
    refine aw_iconst C dL_assemble_12 ?_
    exact aw_iretH C dL_assemble_13 ⟨hk.symm, P9, f, fun h => absurd (hk.symm.trans h) (by decide), fun _ => rfl⟩
  · obtain ⟨hk, rfl, P9, rfl⟩ := q
    refine aw_i2l C dL_assemble_6 ?_
    refine aw_lastore (q0 := 28) C rfl rfl dL_assemble_7 ?_
    refine aw_goto (tgt := 14) C dL_assemble_8 (by decide) ?_
    refine aw_iconst C dL_assemble_14 ?_
    exact aw_iretH C dL_assemble_15 ⟨hk.symm, P9, _, fun _ => ⟨rfl, rfl⟩, fun h => absurd hk h⟩
set_option maxHeartbeats 4000000 in
set_option maxRecDepth 100000 in
theorem h_colour {l : Launch} (hl : l.stackTraces = false) {G : va_G × (Nat → ClassId)} {sa : Nat → Nat} {ad : Nat → Nat} {S P : St} (hI : Inv S) {b : Int} (hb : -2147483648 ≤ b ∧ b < 2147483648) {o : Nat} {f : Nat → Int64} : Mh l G sa yL_colour wsL_colour ({ frames := 7, cells := 1, slots := 6, locals := 111 } : Room) [.ref (ad 0), .int (zI b), .ref o] (WX G.2 ad S P ++ [oL G.2 o f]) (pH G ad o S S (kBod S b) (S.2 1 b)) := by
  refine Mh.of (own := RL) (cc := cL_colour) (maxL := 4) (ret := (some .int)) (hh := [(0, 9, 12, 29)]) hl (by decide) rfl rfl rfl ?_
  intro p e s m args below meth c A C X
  have hts := C.2.2.2.2.1
  have kl29 := hts (.classLink RL 29 "java/lang/IndexOutOfBoundsException") (by decide +kernel)
  refine aw_aload_n C dL_colour_0 rfl ?_
  refine aw_iconst C dL_colour_1 ?_
  refine aw_aload_n C dL_colour_2 rfl ?_
  refine aw_iload_n C dL_colour_3 rfl ?_
  refine aw_hi (ci := 2) (q0 := 0) (As := [.int (zI b)]) C X (c_X2_colour hl hI hb) (cwV 1 hts gL_colour_X2_colour rfl rfl rfl (by decide +kernel) ⟨Nat.le_of_ble_eq_true rfl, Nat.le_of_ble_eq_true rfl⟩) rfl rfl rfl rfl rfl dL_colour_4 ⟨Nat.le_of_ble_eq_true rfl, Nat.le_of_ble_eq_true rfl⟩ (fun E u q => ?_) (fun r u q => ?_)
  · obtain ⟨h9, P9, rfl⟩ := q
    obtain ⟨rfl, hk⟩ := h9
    refine ⟨12, ⟨[], (0, 9, 12, 29), [], eIOB, rfl, rfl, (fun _ h => nomatch h), rfl, by decide, kl29, va_Nw.use rfl X.2.1.2.1.2.2⟩, fun q9 => ?_⟩
    refine aw_astore_n C dL_colour_12 rfl rfl ?_
    refine aw_iconst C dL_colour_13 ?_
    exact aw_iretH C dL_colour_14 ⟨hk.symm, P9, f, fun h => absurd (hk.symm.trans h) (by decide), fun _ => rfl⟩
  · obtain ⟨hk, rfl, P9, rfl⟩ := q
    refine aw_i2l C dL_colour_7 ?_
    refine aw_lastore (q0 := 28) C rfl rfl dL_colour_8 ?_
    refine aw_goto (tgt := 15) C dL_colour_9 (by decide) ?_
    refine aw_iconst C dL_colour_15 ?_
    exact aw_iretH C dL_colour_16 ⟨hk.symm, P9, _, fun _ => ⟨rfl, rfl⟩, fun h => absurd hk h⟩
set_option maxHeartbeats 4000000 in
set_option maxRecDepth 100000 in
theorem h_where {l : Launch} (hl : l.stackTraces = false) {G : va_G × (Nat → ClassId)} {sa : Nat → Nat} {ad : Nat → Nat} {S P : St} (hI : Inv S) {b : Int} (hb : -2147483648 ≤ b ∧ b < 2147483648) {o : Nat} {f : Nat → Int64} : Mh l G sa yL_where wsL_where ({ frames := 7, cells := 1, slots := 6, locals := 111 } : Room) [.ref (ad 0), .int (zI b), .ref o] (WX G.2 ad S P ++ [oL G.2 o f]) (pH G ad o S S (kBod S b) (S.2 2 b)) := by
  refine Mh.of (own := RL) (cc := cL_where) (maxL := 4) (ret := (some .int)) (hh := [(0, 9, 12, 29)]) hl (by decide) rfl rfl rfl ?_
  intro p e s m args below meth c A C X
  have hts := C.2.2.2.2.1
  have kl29 := hts (.classLink RL 29 "java/lang/IndexOutOfBoundsException") (by decide +kernel)
  refine aw_aload_n C dL_where_0 rfl ?_
  refine aw_iconst C dL_where_1 ?_
  refine aw_aload_n C dL_where_2 rfl ?_
  refine aw_iload_n C dL_where_3 rfl ?_
  refine aw_hi (ci := 2) (q0 := 0) (As := [.int (zI b)]) C X (c_X2_where hl hI hb) (cwV 1 hts gL_where_X2_where rfl rfl rfl (by decide +kernel) ⟨Nat.le_of_ble_eq_true rfl, Nat.le_of_ble_eq_true rfl⟩) rfl rfl rfl rfl rfl dL_where_4 ⟨Nat.le_of_ble_eq_true rfl, Nat.le_of_ble_eq_true rfl⟩ (fun E u q => ?_) (fun r u q => ?_)
  · obtain ⟨h9, P9, rfl⟩ := q
    obtain ⟨rfl, hk⟩ := h9
    refine ⟨12, ⟨[], (0, 9, 12, 29), [], eIOB, rfl, rfl, (fun _ h => nomatch h), rfl, by decide, kl29, va_Nw.use rfl X.2.1.2.1.2.2⟩, fun q9 => ?_⟩
    refine aw_astore_n C dL_where_12 rfl rfl ?_
    refine aw_iconst C dL_where_13 ?_
    exact aw_iretH C dL_where_14 ⟨hk.symm, P9, f, fun h => absurd (hk.symm.trans h) (by decide), fun _ => rfl⟩
  · obtain ⟨hk, rfl, P9, rfl⟩ := q
    refine aw_i2l C dL_where_7 ?_
    refine aw_lastore (q0 := 28) C rfl rfl dL_where_8 ?_
    refine aw_goto (tgt := 15) C dL_where_9 (by decide) ?_
    refine aw_iconst C dL_where_15 ?_
    exact aw_iretH C dL_where_16 ⟨hk.symm, P9, _, fun _ => ⟨rfl, rfl⟩, fun h => absurd hk h⟩
set_option maxHeartbeats 4000000 in
set_option maxRecDepth 100000 in
theorem h_inLane {l : Launch} (hl : l.stackTraces = false) {G : va_G × (Nat → ClassId)} {sa : Nat → Nat} {ad : Nat → Nat} {S P : St} (hI : Inv S) {i : Int} (hi : -2147483648 ≤ i ∧ i < 2147483648) {o : Nat} {f : Nat → Int64} : Mh l G sa yL_inLane wsL_inLane ({ frames := 7, cells := 1, slots := 6, locals := 111 } : Room) [.ref (ad 0), .int (zI i), .ref o] (WX G.2 ad S P ++ [oL G.2 o f]) (pH G ad o S S (kLan S i) (S.2 0 i)) := by
  refine Mh.of (own := RL) (cc := cL_inLane) (maxL := 4) (ret := (some .int)) (hh := [(0, 9, 12, 29)]) hl (by decide) rfl rfl rfl ?_
  intro p e s m args below meth c A C X
  have hts := C.2.2.2.2.1
  have kl29 := hts (.classLink RL 29 "java/lang/IndexOutOfBoundsException") (by decide +kernel)
  refine aw_aload_n C dL_inLane_0 rfl ?_
  refine aw_iconst C dL_inLane_1 ?_
  refine aw_aload_n C dL_inLane_2 rfl ?_
  refine aw_iload_n C dL_inLane_3 rfl ?_
  refine aw_hi (ci := 2) (q0 := 0) (As := [.int (zI i)]) C X (c_X2_inLane hl hI hi) (cwV 1 hts gL_inLane_X2_inLane rfl rfl rfl (by decide +kernel) ⟨Nat.le_of_ble_eq_true rfl, Nat.le_of_ble_eq_true rfl⟩) rfl rfl rfl rfl rfl dL_inLane_4 ⟨Nat.le_of_ble_eq_true rfl, Nat.le_of_ble_eq_true rfl⟩ (fun E u q => ?_) (fun r u q => ?_)
  · obtain ⟨h9, P9, rfl⟩ := q
    obtain ⟨rfl, hk⟩ := h9
    refine ⟨12, ⟨[], (0, 9, 12, 29), [], eIOB, rfl, rfl, (fun _ h => nomatch h), rfl, by decide, kl29, va_Nw.use rfl X.2.1.2.1.2.2⟩, fun q9 => ?_⟩
    refine aw_astore_n C dL_inLane_12 rfl rfl ?_
    refine aw_iconst C dL_inLane_13 ?_
    exact aw_iretH C dL_inLane_14 ⟨hk.symm, P9, f, fun h => absurd (hk.symm.trans h) (by decide), fun _ => rfl⟩
  · obtain ⟨hk, rfl, P9, rfl⟩ := q
    refine aw_i2l C dL_inLane_7 ?_
    refine aw_lastore (q0 := 28) C rfl rfl dL_inLane_8 ?_
    refine aw_goto (tgt := 15) C dL_inLane_9 (by decide) ?_
    refine aw_iconst C dL_inLane_15 ?_
    exact aw_iretH C dL_inLane_16 ⟨hk.symm, P9, _, fun _ => ⟨rfl, rfl⟩, fun h => absurd hk h⟩
set_option maxHeartbeats 4000000 in
set_option maxRecDepth 100000 in
theorem h_bodyAt {l : Launch} (hl : l.stackTraces = false) {G : va_G × (Nat → ClassId)} {sa : Nat → Nat} {ad : Nat → Nat} {S P : St} (hI : Inv S) {i j : Int} (hi : -2147483648 ≤ i ∧ i < 2147483648) (hj : -2147483648 ≤ j ∧ j < 2147483648) {o : Nat} {f : Nat → Int64} : Mh l G sa yL_bodyAt wsL_bodyAt ({ frames := 7, cells := 1, slots := 6, locals := 113 } : Room) [.ref (ad 0), .int (zI i), .int (zI j), .ref o] (WX G.2 ad S P ++ [oL G.2 o f]) (pH G ad o S S (kBAt S i j) (S.2 (10 + i.toNat) j)) := by
  refine Mh.of (own := RL) (cc := cL_bodyAt) (maxL := 5) (ret := (some .int)) (hh := [(0, 10, 13, 29)]) hl (by decide) rfl rfl rfl ?_
  intro p e s m args below meth c A C X
  have hts := C.2.2.2.2.1
  have kl29 := hts (.classLink RL 29 "java/lang/IndexOutOfBoundsException") (by decide +kernel)
  refine aw_aload_n C dL_bodyAt_0 rfl ?_
  refine aw_iconst C dL_bodyAt_1 ?_
  refine aw_aload_n C dL_bodyAt_2 rfl ?_
  refine aw_iload_n C dL_bodyAt_3 rfl ?_
  refine aw_iload_n C dL_bodyAt_4 rfl ?_
  refine aw_hi (ci := 2) (q0 := 0) (As := [.int (zI i), .int (zI j)]) C X (c_X2_bodyAt hl hI hi hj) (cwV 2 hts gL_bodyAt_X2_bodyAt rfl rfl rfl (by decide +kernel) ⟨Nat.le_of_ble_eq_true rfl, Nat.le_of_ble_eq_true rfl⟩) rfl rfl rfl rfl rfl dL_bodyAt_5 ⟨Nat.le_of_ble_eq_true rfl, Nat.le_of_ble_eq_true rfl⟩ (fun E u q => ?_) (fun r u q => ?_)
  · obtain ⟨h9, P9, rfl⟩ := q
    obtain ⟨rfl, hk⟩ := h9
    refine ⟨13, ⟨[], (0, 10, 13, 29), [], eIOB, rfl, rfl, (fun _ h => nomatch h), rfl, by decide, kl29, va_Nw.use rfl X.2.1.2.1.2.2⟩, fun q9 => ?_⟩
    refine aw_astore C dL_bodyAt_13 rfl rfl ?_
    refine aw_iconst C dL_bodyAt_15 ?_
    exact aw_iretH C dL_bodyAt_16 ⟨hk.symm, P9, f, fun h => absurd (hk.symm.trans h) (by decide), fun _ => rfl⟩
  · obtain ⟨hk, rfl, P9, rfl⟩ := q
    refine aw_i2l C dL_bodyAt_8 ?_
    refine aw_lastore (q0 := 28) C rfl rfl dL_bodyAt_9 ?_
    refine aw_goto (tgt := 17) C dL_bodyAt_10 (by decide) ?_
    refine aw_iconst C dL_bodyAt_17 ?_
    exact aw_iretH C dL_bodyAt_18 ⟨hk.symm, P9, _, fun _ => ⟨rfl, rfl⟩, fun h => absurd hk h⟩
set_option maxHeartbeats 4000000 in
set_option maxRecDepth 100000 in
theorem h_block {l : Launch} (hl : l.stackTraces = false) {G : va_G × (Nat → ClassId)} {sa : Nat → Nat} {ad : Nat → Nat} {S P : St} (hI : Inv S) {i : Int} (hi : -2147483648 ≤ i ∧ i < 2147483648) {o : Nat} {f : Nat → Int64} : Mh l G sa yL_block wsL_block ({ frames := 7, cells := 1, slots := 6, locals := 111 } : Room) [.ref (ad 0), .int (zI i), .ref o] (WX G.2 ad S P ++ [oL G.2 o f]) (pH G ad o S S (kLan S i) (blkS S i)) := by
  refine Mh.of (own := RL) (cc := cL_block) (maxL := 4) (ret := (some .int)) (hh := [(0, 9, 12, 29)]) hl (by decide) rfl rfl rfl ?_
  intro p e s m args below meth c A C X
  have hts := C.2.2.2.2.1
  have kl29 := hts (.classLink RL 29 "java/lang/IndexOutOfBoundsException") (by decide +kernel)
  refine aw_aload_n C dL_block_0 rfl ?_
  refine aw_iconst C dL_block_1 ?_
  refine aw_aload_n C dL_block_2 rfl ?_
  refine aw_iload_n C dL_block_3 rfl ?_
  refine aw_hi (ci := 2) (q0 := 0) (As := [.int (zI i)]) C X (c_X2_block hl hI hi) (cwV 1 hts gL_block_X2_block rfl rfl rfl (by decide +kernel) ⟨Nat.le_of_ble_eq_true rfl, Nat.le_of_ble_eq_true rfl⟩) rfl rfl rfl rfl rfl dL_block_4 ⟨Nat.le_of_ble_eq_true rfl, Nat.le_of_ble_eq_true rfl⟩ (fun E u q => ?_) (fun r u q => ?_)
  · obtain ⟨h9, P9, rfl⟩ := q
    obtain ⟨rfl, hk⟩ := h9
    refine ⟨12, ⟨[], (0, 9, 12, 29), [], eIOB, rfl, rfl, (fun _ h => nomatch h), rfl, by decide, kl29, va_Nw.use rfl X.2.1.2.1.2.2⟩, fun q9 => ?_⟩
    refine aw_astore_n C dL_block_12 rfl rfl ?_
    refine aw_iconst C dL_block_13 ?_
    exact aw_iretH C dL_block_14 ⟨hk.symm, P9, f, fun h => absurd (hk.symm.trans h) (by decide), fun _ => rfl⟩
  · obtain ⟨hk, rfl, P9, rfl⟩ := q
    refine aw_i2l C dL_block_7 ?_
    refine aw_lastore (q0 := 28) C rfl rfl dL_block_8 ?_
    refine aw_goto (tgt := 15) C dL_block_9 (by decide) ?_
    refine aw_iconst C dL_block_15 ?_
    exact aw_iretH C dL_block_16 ⟨hk.symm, P9, _, fun _ => ⟨rfl, rfl⟩, fun h => absurd hk h⟩
set_option maxHeartbeats 4000000 in
set_option maxRecDepth 100000 in
theorem h_assembledAt {l : Launch} (hl : l.stackTraces = false) {G : va_G × (Nat → ClassId)} {sa : Nat → Nat} {ad : Nat → Nat} {S P : St} (hI : Inv S) {i : Int} (hi : -2147483648 ≤ i ∧ i < 2147483648) {o : Nat} {f : Nat → Int64} : Mh l G sa yL_assembledAt wsL_assembledAt ({ frames := 7, cells := 1, slots := 6, locals := 111 } : Room) [.ref (ad 0), .int (zI i), .ref o] (WX G.2 ad S P ++ [oL G.2 o f]) (pH G ad o S S (kAsA S i) (S.2 3 i)) := by
  refine Mh.of (own := RL) (cc := cL_assembledAt) (maxL := 4) (ret := (some .int)) (hh := [(0, 9, 12, 29)]) hl (by decide) rfl rfl rfl ?_
  intro p e s m args below meth c A C X
  have hts := C.2.2.2.2.1
  have kl29 := hts (.classLink RL 29 "java/lang/IndexOutOfBoundsException") (by decide +kernel)
  refine aw_aload_n C dL_assembledAt_0 rfl ?_
  refine aw_iconst C dL_assembledAt_1 ?_
  refine aw_aload_n C dL_assembledAt_2 rfl ?_
  refine aw_iload_n C dL_assembledAt_3 rfl ?_
  refine aw_hi (ci := 2) (q0 := 0) (As := [.int (zI i)]) C X (c_X2_assembledAt hl hI hi) (cwV 1 hts gL_assembledAt_X2_assembledAt rfl rfl rfl (by decide +kernel) ⟨Nat.le_of_ble_eq_true rfl, Nat.le_of_ble_eq_true rfl⟩) rfl rfl rfl rfl rfl dL_assembledAt_4 ⟨Nat.le_of_ble_eq_true rfl, Nat.le_of_ble_eq_true rfl⟩ (fun E u q => ?_) (fun r u q => ?_)
  · obtain ⟨h9, P9, rfl⟩ := q
    obtain ⟨rfl, hk⟩ := h9
    refine ⟨12, ⟨[], (0, 9, 12, 29), [], eIOB, rfl, rfl, (fun _ h => nomatch h), rfl, by decide, kl29, va_Nw.use rfl X.2.1.2.1.2.2⟩, fun q9 => ?_⟩
    refine aw_astore_n C dL_assembledAt_12 rfl rfl ?_
    refine aw_iconst C dL_assembledAt_13 ?_
    exact aw_iretH C dL_assembledAt_14 ⟨hk.symm, P9, f, fun h => absurd (hk.symm.trans h) (by decide), fun _ => rfl⟩
  · obtain ⟨hk, rfl, P9, rfl⟩ := q
    refine aw_i2l C dL_assembledAt_7 ?_
    refine aw_lastore (q0 := 28) C rfl rfl dL_assembledAt_8 ?_
    refine aw_goto (tgt := 15) C dL_assembledAt_9 (by decide) ?_
    refine aw_iconst C dL_assembledAt_15 ?_
    exact aw_iretH C dL_assembledAt_16 ⟨hk.symm, P9, _, fun _ => ⟨rfl, rfl⟩, fun h => absurd hk h⟩
set_option maxHeartbeats 4000000 in
set_option maxRecDepth 100000 in
theorem h_lateness {l : Launch} (hl : l.stackTraces = false) {G : va_G × (Nat → ClassId)} {sa : Nat → Nat} {ad : Nat → Nat} {S P : St} (hI : Inv S) {b : Int} (hb : -2147483648 ≤ b ∧ b < 2147483648) {o : Nat} {f : Nat → Int64} : Mh l G sa yL_lateness wsL_lateness ({ frames := 7, cells := 1, slots := 6, locals := 111 } : Room) [.ref (ad 0), .int (zI b), .ref o] (WX G.2 ad S P ++ [oL G.2 o f]) (pH G ad o S S (kLat S b) (S.2 4 b - b)) := by
  refine Mh.of (own := RL) (cc := cL_lateness) (maxL := 4) (ret := (some .int)) (hh := [(0, 9, 12, 29), (0, 9, 15, 23)]) hl (by decide) rfl rfl rfl ?_
  intro p e s m args below meth c A C X
  have hts := C.2.2.2.2.1
  have kl23 := hts (.classLink RL 23 "java/lang/IllegalStateException") (by decide +kernel)
  have kl29 := hts (.classLink RL 29 "java/lang/IndexOutOfBoundsException") (by decide +kernel)
  refine aw_aload_n C dL_lateness_0 rfl ?_
  refine aw_iconst C dL_lateness_1 ?_
  refine aw_aload_n C dL_lateness_2 rfl ?_
  refine aw_iload_n C dL_lateness_3 rfl ?_
  refine aw_hi (ci := 2) (q0 := 0) (As := [.int (zI b)]) C X (c_X2_lateness hl hI hb) (cwV 1 hts gL_lateness_X2_lateness rfl rfl rfl (by decide +kernel) ⟨Nat.le_of_ble_eq_true rfl, Nat.le_of_ble_eq_true rfl⟩) rfl rfl rfl rfl rfl dL_lateness_4 ⟨Nat.le_of_ble_eq_true rfl, Nat.le_of_ble_eq_true rfl⟩ (fun E u q => ?_) (fun r u q => ?_)
  · obtain ⟨h9, P9, rfl⟩ := q
    rcases h9 with ⟨rfl, hk⟩ | ⟨rfl, hk⟩
    · refine ⟨12, ⟨[], (0, 9, 12, 29), [(0, 9, 15, 23)], eIOB, rfl, rfl, (fun _ h => nomatch h), rfl, by decide, kl29, va_Nw.use rfl X.2.1.2.1.2.2⟩, fun q9 => ?_⟩
      refine aw_astore_n C dL_lateness_12 rfl rfl ?_
      refine aw_iconst C dL_lateness_13 ?_
      exact aw_iretH C dL_lateness_14 ⟨hk.symm, P9, f, fun h => absurd (hk.symm.trans h) (by decide), fun _ => rfl⟩
    · refine ⟨15, ⟨[(0, 9, 12, 29)], (0, 9, 15, 23), [], eISE, rfl, rfl, (List.forall_mem_cons.mpr ⟨⟨by decide, eIOB, kl29, X.2.2.2.1.2.2⟩, (fun _ h => nomatch h)⟩), rfl, by decide, kl23, va_Nw.use rfl X.2.1.2.1.2.1⟩, fun q9 => ?_⟩
      refine aw_astore_n C dL_lateness_15 rfl rfl ?_
      refine aw_iconst C dL_lateness_16 ?_
      exact aw_iretH C dL_lateness_17 ⟨hk.symm, P9, f, fun h => absurd (hk.symm.trans h) (by decide), fun _ => rfl⟩
  · obtain ⟨hk, rfl, P9, rfl⟩ := q
    refine aw_i2l C dL_lateness_7 ?_
    refine aw_lastore (q0 := 28) C rfl rfl dL_lateness_8 ?_
    refine aw_goto (tgt := 18) C dL_lateness_9 (by decide) ?_
    refine aw_iconst C dL_lateness_18 ?_
    exact aw_iretH C dL_lateness_19 ⟨hk.symm, P9, _, fun _ => ⟨rfl, rfl⟩, fun h => absurd hk h⟩
set_option maxHeartbeats 4000000 in
set_option maxRecDepth 100000 in
theorem h_fewestChanges {l : Launch} (hl : l.stackTraces = false) {G : va_G × (Nat → ClassId)} {sa : Nat → Nat} {ad : Nat → Nat} {S P : St} (hI : Inv S) {o : Nat} {f : Nat → Int64} : Mh l G sa yL_fewestChanges wsL_fewestChanges ({ frames := 7, cells := 1, slots := 6, locals := 113 } : Room) [.ref (ad 0), .ref o] (WX G.2 ad S P ++ [oL G.2 o f]) (pH G ad o S S (kFew S 12) (fwS S (S.1 8))) := by
  refine Mh.of (own := RL) (cc := cL_fewestChanges) (maxL := 3) (ret := (some .int)) (hh := [(0, 8, 11, 23)]) hl (by decide) rfl rfl rfl ?_
  intro p e s m args below meth c A C X
  have hts := C.2.2.2.2.1
  have kl23 := hts (.classLink RL 23 "java/lang/IllegalStateException") (by decide +kernel)
  refine aw_aload_n C dL_fewestChanges_0 rfl ?_
  refine aw_iconst C dL_fewestChanges_1 ?_
  refine aw_aload_n C dL_fewestChanges_2 rfl ?_
  refine aw_hi (ci := 2) (q0 := 0) (As := []) C X (c_X2_fewestChanges hl hI) (cwV 0 hts gL_fewestChanges_X2_fewestChanges rfl rfl rfl (by decide +kernel) ⟨Nat.le_of_ble_eq_true rfl, Nat.le_of_ble_eq_true rfl⟩) rfl rfl rfl rfl rfl dL_fewestChanges_3 ⟨Nat.le_of_ble_eq_true rfl, Nat.le_of_ble_eq_true rfl⟩ (fun E u q => ?_) (fun r u q => ?_)
  · obtain ⟨h9, P9, rfl⟩ := q
    obtain ⟨rfl, hk⟩ := h9
    refine ⟨11, ⟨[], (0, 8, 11, 23), [], eISE, rfl, rfl, (fun _ h => nomatch h), rfl, by decide, kl23, va_Nw.use rfl X.2.1.2.1.2.1⟩, fun q9 => ?_⟩
    refine aw_astore_n C dL_fewestChanges_11 rfl rfl ?_
    refine aw_iconst C dL_fewestChanges_12 ?_
    exact aw_iretH C dL_fewestChanges_13 ⟨hk.symm, P9, f, fun h => absurd (hk.symm.trans h) (by decide), fun _ => rfl⟩
  · obtain ⟨hk, rfl, P9, rfl⟩ := q
    refine aw_i2l C dL_fewestChanges_6 ?_
    refine aw_lastore (q0 := 28) C rfl rfl dL_fewestChanges_7 ?_
    refine aw_goto (tgt := 14) C dL_fewestChanges_8 (by decide) ?_
    refine aw_iconst C dL_fewestChanges_14 ?_
    exact aw_iretH C dL_fewestChanges_15 ⟨hk.symm, P9, _, fun _ => ⟨rfl, rfl⟩, fun h => absurd hk h⟩
set_option maxHeartbeats 4000000 in
set_option maxRecDepth 100000 in
theorem h_fewestByAll {l : Launch} (hl : l.stackTraces = false) {G : va_G × (Nat → ClassId)} {sa : Nat → Nat} {ad : Nat → Nat} {S P : St} (hI : Inv S) {o : Nat} {f : Nat → Int64} : Mh l G sa yL_fewestByAll wsL_fewestByAll ({ frames := 12, cells := 1, slots := 6, locals := 325 } : Room) [.ref (ad 0), .ref o] (WX G.2 ad S P ++ [oL G.2 o f]) (pH G ad o S S (kFew S 8) (fwS S (S.1 8))) := by
  refine Mh.of (own := RL) (cc := cL_fewestByAll) (maxL := 3) (ret := (some .int)) (hh := [(0, 8, 11, 23)]) hl (by decide) rfl rfl rfl ?_
  intro p e s m args below meth c A C X
  have hts := C.2.2.2.2.1
  have kl23 := hts (.classLink RL 23 "java/lang/IllegalStateException") (by decide +kernel)
  refine aw_aload_n C dL_fewestByAll_0 rfl ?_
  refine aw_iconst C dL_fewestByAll_1 ?_
  refine aw_aload_n C dL_fewestByAll_2 rfl ?_
  refine aw_hi (ci := 2) (q0 := 0) (As := []) C X (c_X2_fewestByAll hl hI) (cwV 0 hts gL_fewestByAll_X2_fewestByAll rfl rfl rfl (by decide +kernel) ⟨Nat.le_of_ble_eq_true rfl, Nat.le_of_ble_eq_true rfl⟩) rfl rfl rfl rfl rfl dL_fewestByAll_3 ⟨Nat.le_of_ble_eq_true rfl, Nat.le_of_ble_eq_true rfl⟩ (fun E u q => ?_) (fun r u q => ?_)
  · obtain ⟨h9, P9, rfl⟩ := q
    obtain ⟨rfl, hk⟩ := h9
    refine ⟨11, ⟨[], (0, 8, 11, 23), [], eISE, rfl, rfl, (fun _ h => nomatch h), rfl, by decide, kl23, va_Nw.use rfl X.2.1.2.1.2.1⟩, fun q9 => ?_⟩
    refine aw_astore_n C dL_fewestByAll_11 rfl rfl ?_
    refine aw_iconst C dL_fewestByAll_12 ?_
    exact aw_iretH C dL_fewestByAll_13 ⟨hk.symm, P9, f, fun h => absurd (hk.symm.trans h) (by decide), fun _ => rfl⟩
  · obtain ⟨hk, rfl, P9, rfl⟩ := q
    refine aw_i2l C dL_fewestByAll_6 ?_
    refine aw_lastore (q0 := 28) C rfl rfl dL_fewestByAll_7 ?_
    refine aw_goto (tgt := 14) C dL_fewestByAll_8 (by decide) ?_
    refine aw_iconst C dL_fewestByAll_14 ?_
    exact aw_iretH C dL_fewestByAll_15 ⟨hk.symm, P9, _, fun _ => ⟨rfl, rfl⟩, fun h => absurd hk h⟩
