/-! THE LAW FROM ITS ENTRY -/
theorem arr_of {s : State} {args : Array Value} {ty : FieldType} (h : (Cond.arrayClass ty).before args s = true) : ∃ cA : ClassId, ArrOfT s cA ty ∧ s.vm.findClass ("[" ++ ty.toString) = some cA := by
  obtain ⟨c, k, comp, h1, h2, h3⟩ := Cond.arrayClass_spec h
  exact ⟨c, fun n z => ⟨fun k h => (by cases h), k, h2, comp, h3⟩, h1⟩
theorem arr_ofq {s : State} {args : Array Value} {C : String} (h : (Cond.arrayOver (.object C)).before args s = true) : ∃ cA : ClassId, ArrOfT s cA (.object C) ∧ va_RA s cA (.object C) := by
  obtain ⟨comp, c, k, h1, -, h3, h4, h5⟩ := Cond.arrayOver_spec h
  exact ⟨c, fun n z => ⟨fun k h => (by cases h), k, h3, comp, h4⟩, k, comp, h3, h4, h1, h5⟩
theorem arr_ofr {s : State} {args : Array Value} {ty : FieldType} (h : (Cond.arrayOver (.array ty)).before args s = true) : ∃ cA : ClassId, ArrOfT s cA (.array ty) ∧ s.vm.findClass ("[" ++ (FieldType.array ty).toString) = some cA := by
  obtain ⟨comp, c, k, h1, h3, h4, h5⟩ := Cond.arrayOver_specA h
  exact ⟨c, fun n z => ⟨fun k h => (by cases h), k, h3, comp, h4⟩, h5⟩
/-- where the texts stand -/
noncomputable def saU (s : State) : Nat → Nat := fun k => by
  classical
  exact if h : ∃ a : Nat, (Term.string RX2 k).eval #[] s none [] s = some (.ref a) then h.choose else 0
theorem saU_R {s : State} {args : Array Value} {k : Nat} {tx : String} {c : ClassId} (hown : s.vm.findClass RX2 = some c) (h : (Cond.stringRef RX2 k tx).before args s = true) : vk_R RX2 k tx (saU s k) s := by
  obtain ⟨-, -, -, a, -, -, -, -, -, hev⟩ := Cond.stringRef_spec hown h
  have hx : ∃ a : Nat, (Term.string RX2 k).eval #[] s none [] s = some (.ref a) := ⟨a, hev⟩
  refine ⟨h, ?_⟩
  have h1 := hx.choose_spec
  unfold saU
  rw [dif_pos hx]
  exact h1
theorem str_in : ∀ q ∈ strsX, Cond.stringRef RX2 q.1 q.2 ∈ lw_tbl := by decide +kernel
theorem law_NT {s : State} {args : Array Value} {c : ClassId} (hown : s.vm.findClass RX2 = some c) (htt : ∀ w ∈ lw_tbl, w.before args s = true) : NT (saU s) s :=
  ⟨va_Nw.of rfl (htt (.methodLinkNest "PaintSequencer$Plan" 46 yX2_changeBetween "PaintSequencer") (by decide +kernel)),
   ⟨va_Nw.of rfl (htt (.castable eIAE eIAE) (by decide +kernel)), va_Nw.of rfl (htt (.castable eISE eISE) (by decide +kernel)), va_Nw.of rfl (htt (.castable eIOB eIOB) (by decide +kernel))⟩,
   ⟨va_Nw.of rfl (htt dR (by decide +kernel)), va_Nw.of rfl (htt dE (by decide +kernel)), va_Nw.of rfl (htt dT (by decide +kernel))⟩,
   fun q hq => saU_R hown (htt _ (str_in q hq))⟩
theorem law_NK {s : State} {args : Array Value} (htt : ∀ w ∈ lw_tbl, w.before args s = true) : NK s :=
  ⟨va_Nw.of rfl (htt (.methodLinkNest "PaintSequencer" 15 yX0_init "PaintSequencer") (by decide +kernel)), va_Nw.of rfl (htt (.methodLinkNest "PaintSequencer" 31 yX1_init "PaintSequencer") (by decide +kernel)), va_AO.of (htt (.arrayOver (.object RX0)) (by decide +kernel)), htt (.arrayOver (.array .int)) (by decide +kernel)⟩
theorem law_ZQ {s : State} {args : Array Value} (htt : ∀ w ∈ lw_tbl, w.before args s = true) (hg : (Jvm.Cond.and given_1 narrow_1).before args s = true) : ZQ (fun q => s.heap.size ≤ q) s s.heap := by
  have hs := flat_of_before _ hg
  exact ⟨vx_Zqof (htt _ (by decide +kernel)) (htt _ (by decide +kernel)) (hs _ (by decide +kernel)) (fun a h h2 => absurd h (Nat.not_lt.mpr h2)), vx_Zqof (htt _ (by decide +kernel)) (htt _ (by decide +kernel)) (hs _ (by decide +kernel)) (fun a h h2 => absurd h (Nat.not_lt.mpr h2))⟩
set_option maxHeartbeats 4000000 in
set_option maxRecDepth 100000 in
theorem law_known {s : State} {args : Array Value} (hts : ∀ w ∈ wsL_law, w.before args s = true) (htt : ∀ w ∈ lw_tbl, w.before args s = true) : ∃ G : va_G × (Nat → ClassId), va_K G.1 vwCl (tG G) s := by
  obtain ⟨c0, i0, k0⟩ := u_known (n := 2) hts inlX0 (htt (.instantiable RX0 2) (by decide +kernel))
  obtain ⟨c1, i1, k1⟩ := u_known (n := 6) hts inlX1 (htt (.instantiable RX1 6) (by decide +kernel))
  obtain ⟨c2, i2, k2⟩ := u_known (n := 17) hts inlX2 (htt (.instantiable RX2 17) (by decide +kernel))
  obtain ⟨a0, t0, r0⟩ := arr_of (htt (.arrayClass .int) (by decide +kernel))
  obtain ⟨a1, t1, r1⟩ := arr_ofq (htt (.arrayOver (.object RX0)) (by decide +kernel))
  obtain ⟨a2, t2, r2⟩ := arr_ofr (htt (.arrayOver (.array .int)) (by decide +kernel))
  refine ⟨((fun c => match c with | 0 => c0 | 1 => c1 | _ => c2, fun c => match c with | 0 => i0 | 1 => i1 | _ => i2), fun k => match k with | 0 => a0 | 1 => a1 | _ => a2), fun c q hq => ?_, fun k q hk => ?_⟩
  · match c, hq with
    | 0, hq => obtain rfl := Option.some.inj hq; exact k0
    | 1, hq => obtain rfl := Option.some.inj hq; exact k1
    | 2, hq => obtain rfl := Option.some.inj hq; exact k2
    | _ + 3, hq => cases hq
  · match k, hk with
    | 0, hk => obtain rfl := Option.some.inj hk; exact ⟨t0, r0⟩
    | 1, hk => obtain rfl := Option.some.inj hk; exact ⟨t1, r1⟩
    | 2, hk => obtain rfl := Option.some.inj hk; exact ⟨t2, r2⟩
    | _ + 3, hk => cases hk
