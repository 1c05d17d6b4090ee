/-! THE LAW'S METHODS -/
def atI (v n : Int) : Int := ushI v % n
theorem atI_b {v n : Int} (hn : 1 ≤ n) : 0 ≤ atI v n ∧ atI v n < n := ⟨Int.emod_nonneg _ (by omega), Int.emod_lt_of_pos _ (by omega)⟩
set_option maxHeartbeats 4000000 in
set_option maxRecDepth 100000 in
theorem c_L_at {l : Launch} {G : va_G × (Nat → ClassId)} {ad : Nat → Nat} {S P : St} {v n : Int} (hn : 1 ≤ n ∧ n ≤ 13) : Mi l G yL_at wsL_at ({ frames := 0, cells := 0, slots := 0, locals := 0 } : Room) [.int (zI v), .int (zI n)] (WX G.2 ad S P) (fun r u => r = atI v n ∧ u = WX G.2 ad S P) := by
  refine Mi.of (own := RL) (cc := cL_at) (maxL := 2) (ret := (some .int)) (by decide) rfl rfl rfl ?_
  intro p e s m args below meth c A C hN
  refine aw_iload_n C dL_at_0 rfl ?_
  refine aw_iconst C dL_at_1 ?_
  refine aw_ush C dL_at_2 ?_
  refine aw_iload_n C dL_at_3 rfl ?_
  refine aw_irem C dL_at_4 (ushI_b v) (by omega) ?_
  exact aw_iret C dL_at_5 ⟨rfl, rfl⟩
set_option maxHeartbeats 4000000 in
set_option maxRecDepth 100000 in
theorem c_L_cell {l : Launch} {G : va_G × (Nat → ClassId)} {b L : Nat} {xs : Nat → Int32} (hL : L ≤ 260) {k : Int} (hk : 0 ≤ k ∧ k ≤ 100) : Ms l G b L xs yL_cell wsL_cell ({ frames := 0, cells := 0, slots := 0, locals := 0 } : Room) [.ref b, .int (zI k)] (fun _ u => u = []) := by
  refine Ms.of (own := RL) (cc := cL_cell) (maxL := 2) (ret := (some .int)) hL (by decide) rfl rfl rfl ?_
  intro p e s m args below meth c A C X
  have hts := C.2.2.2.2.1
  refine aw_iload_n C dL_cell_0 rfl ?_
  refine aw_aload_n C dL_cell_1 rfl ?_
  refine aw_slen C X dL_cell_2 ?_
  refine aw_icmp_ge (tgt := 12) C dL_cell_3 (by decide) (by omega) (by omega) (fun c3 => ?_) (fun c3 => ?_)
  · refine aw_ldc (v := 513132451) C (hts (.constant RL 7 (zI 513132451)) (by decide +kernel)) dL_cell_12 ?_
    refine aw_iload_n C dL_cell_14 rfl ?_
    refine aw_iconst C dL_cell_15 ?_
    refine aw_iadd C dL_cell_16 ?_
    refine aw_imul C dL_cell_17 ?_
    exact aw_iret C dL_cell_18 rfl
  · refine aw_aload_n C dL_cell_6 rfl ?_
    refine aw_iload_n C dL_cell_7 rfl ?_
    refine aw_sld C X (by omega) (by omega) dL_cell_8 ?_
    refine aw_goto (tgt := 18) C dL_cell_9 (by decide) ?_
    exact aw_iret C dL_cell_18 rfl
