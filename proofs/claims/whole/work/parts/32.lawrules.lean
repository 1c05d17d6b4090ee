/-! THE LAW'S OWN ROWS -/
theorem pH_get {G : va_G × (Nat → ClassId)} {ad : Nat → Nat} {o : Nat} {S S' : St} {k v r : Int} {u : va_W} (h : pH G ad o S S' k v r u) : r = k ∧ ∃ (S1 P9 : St) (f : Nat → Int64), u = WX G.2 ad S1 P9 ++ [oL G.2 o f] ∧ (k = 0 → S1 = S' ∧ f 0 = (zI v).toInt64) ∧ (¬ k = 0 → S1 = S) := by
  obtain ⟨h0, P9, f, h1, h2⟩ := h
  by_cases e : k = 0
  · exact ⟨h0, S', P9, f, (h1 e).1, fun _ => ⟨rfl, (h1 e).2⟩, fun x => absurd e x⟩
  · exact ⟨h0, S, P9, f, h2 e, fun x => absurd x e, fun _ => rfl⟩
theorem pV_get {G : va_G × (Nat → ClassId)} {ad : Nat → Nat} {S S' : St} {k r : Int} {u : va_W} (h : pV G ad S S' k r u) : r = k ∧ ∃ S1 P9 : St, u = WX G.2 ad S1 P9 ∧ (k = 0 → S1 = S') ∧ (¬ k = 0 → S1 = S) := by
  obtain ⟨h0, P9, h1, h2⟩ := h
  by_cases e : k = 0
  · exact ⟨h0, S', P9, h1 e, fun _ => rfl, fun x => absurd e x⟩
  · exact ⟨h0, S, P9, h2 e, fun x => absurd x e, fun _ => rfl⟩
theorem pM_get {G : va_G × (Nat → ClassId)} {am : Nat → Nat} {S S' S1 : St} {k v r : Int} {u : va_W} (g1 : k = 0 → S1 = S') (g2 : ¬ k = 0 → S1 = S) (h : ∃ P9 : St, P9.1 0 = k ∧ ((k = 0 ∧ r = v ∧ u = WM G.2 am S' P9) ∨ (¬ k = 0 ∧ u = WM G.2 am S P9))) : ∃ P9 : St, P9.1 0 = k ∧ u = WM G.2 am S1 P9 ∧ (k = 0 → r = v) := by
  obtain ⟨P9, h0, h | h⟩ := h
  · exact ⟨P9, h0, by rw [g1 h.1]; exact h.2.2, fun _ => h.2.1⟩
  · exact ⟨P9, h0, by rw [g2 h.1]; exact h.2, fun x => absurd x h.1⟩
theorem pMv_get {G : va_G × (Nat → ClassId)} {am : Nat → Nat} {S S' S1 : St} {k : Int} {u : va_W} (g1 : k = 0 → S1 = S') (g2 : ¬ k = 0 → S1 = S) (h : ∃ P9 : St, P9.1 0 = k ∧ ((k = 0 ∧ u = WM G.2 am S' P9) ∨ (¬ k = 0 ∧ u = WM G.2 am S P9))) : ∃ P9 : St, P9.1 0 = k ∧ u = WM G.2 am S1 P9 := by
  obtain ⟨P9, h0, h | h⟩ := h
  · exact ⟨P9, h0, by rw [g1 h.1]; exact h.2⟩
  · exact ⟨P9, h0, by rw [g2 h.1]; exact h.2⟩
theorem inv_if {S S' S1 : St} {k : Int} (hI : Inv2 S) (h : k = 0 → Inv2 S') (g1 : k = 0 → S1 = S') (g2 : ¬ k = 0 → S1 = S) : Inv2 S1 := by
  by_cases e : k = 0
  · rw [g1 e]; exact h e
  · rw [g2 e]; exact hI
/-! each call keeps what holds -/
theorem iv_set {S : St} {a b : Int} (hI : Inv2 S) (h : kSet a b = 0) : Inv2 (sSet S a b) := by
  unfold kSet at h
  split at h
  · rename_i e
    exact inv_set hI e.1 e.2
  · omega
theorem iv_arr {S : St} {v : Int} (hI : Inv2 S) (h : kArr S v = 0) : Inv2 (sArr S v) := by
  unfold kArr at h
  split at h
  · omega
  · rename_i e
    split at h
    · omega
    · rename_i e2
      have h1 := inS_b hI.1 v
      have h2 : ¬ inS S v = -1 := fun x => e2 (Or.inr x)
      have h3 := inS_room h2
      have h4 : 0 ≤ v ∧ v ≤ 4 := Decidable.not_not.mp e
      have hn := hI.1.1
      exact inv_put (invB_new hI (by omega) h4) (by omega) h1.2 (by omega) (by show S.1 5 < S.1 5 + 1; omega) h3
theorem iv_arI {S : St} {v i : Int} (hI : Inv2 S) (h : kArI S v i = 0) : Inv2 (sArI S v i) := by
  unfold kArI at h
  split at h
  · omega
  · rename_i e
    split at h
    · omega
    · rename_i e2
      split at h
      · omega
      · rename_i e3
        have h4 : 0 ≤ v ∧ v ≤ 4 := Decidable.not_not.mp e
        have h5 : 0 ≤ i ∧ i < S.1 0 := Decidable.not_not.mp e2
        have hn := hI.1.1
        exact inv_put (invB_new hI (by omega) h4) h5.1 h5.2 (by omega) (by show S.1 5 < S.1 5 + 1; omega) (by show S.2 0 i < S.1 1; omega)
theorem iv_rel {S : St} (hI : Inv2 S) (h : kRel S = 0) : Inv2 (relS S (outS S)) := by
  unfold kRel at h
  split at h
  · omega
  · rename_i e
    have h2 : ¬ outS S = -1 := fun x => e (Or.inr x)
    have h3 := outS_pos h2
    have h4 := outS_b (S := S)
    have hn := hI.1.1
    exact inv_rel hI (by omega) (by omega) h3
theorem iv_reF {S : St} {i : Int} (hI : Inv2 S) (h : kReF S i = 0) : Inv2 (relS S i) := by
  unfold kReF at h
  split at h
  · omega
  · rename_i e
    split at h
    · omega
    · rename_i e2
      have h5 : 0 ≤ i ∧ i < S.1 0 := Decidable.not_not.mp e
      have hn := hI.1.1
      have hz := hI.1.2.1 i h5.1 (by omega)
      exact inv_rel hI h5.1 (by omega) (by omega)
theorem iv_reB {S : St} (hI : Inv2 S) (h : kReB S = 0) : Inv2 (relS S (blS S)) := by
  unfold kReB at h
  split at h
  · omega
  · rename_i e
    have h2 : ¬ blS S = -1 := fun x => e (Or.inr (Or.inr x))
    have h4 := blS_b S
    exact inv_rel hI (by omega) h4.2 (blS_pos h2)
theorem iv_seB {S : St} {b : Int} (hI : Inv2 S) (h : kSeB S b = 0) : Inv2 (ua S 2 b 11) := by
  unfold kSeB at h
  split at h
  · omega
  · split at h
    · omega
    · rename_i e
      exact inv_rep hI (Decidable.not_not.mp e)
theorem iv_ree {S : St} {b : Int} (hI : Inv2 S) (h : kRee S b = 0) : Inv2 (putS S (inS S (S.2 1 b)) b) := by
  unfold kRee at h
  split at h
  · omega
  · rename_i e
    split at h
    · omega
    · rename_i e2
      have h5 : 0 ≤ b ∧ b < S.1 5 := Decidable.not_not.mp e
      have h6 : S.2 2 b = 11 := Decidable.byContradiction (fun x => e2 (Or.inl x))
      have h2 : ¬ inS S (S.2 1 b) = -1 := fun x => e2 (Or.inr x)
      have h1 := inS_b hI.1 (S.2 1 b)
      exact inv_put (invB_rep hI h6) (by omega) h1.2 h5.1 h5.2 (inS_room h2)
theorem iv_asm {S : St} (hI : Inv2 S) (h : kAsm S = 0) : Inv2 (asmS S (lbS S)) := by
  unfold kAsm at h
  split at h
  · omega
  · rename_i e
    have h1 : -1 ≤ lbS S ∧ lbS S < ((S.1 5).toNat : Int) := fstB_b _ _
    have h2 : S.2 2 (lbS S) = 10 := of_decide_eq_true (fstB_ok e)
    have hn := hI.1.1
    exact inv_asm hI (by omega) (by omega) h2
/-- the script, and what the tables say of what the helpers catch -/
def XL (l : Launch) (s : State) (sa : Nat → Nat) (A : Nat → Prop) (b L : Nat) (xs : Nat → Int32) : Prop := l.stackTraces = false ∧ NT sa s ∧ ZQ A s s.heap ∧ NH s ∧ va_X b L xs s s.heap ∧ b < s.heap.size ∧ ¬ A b ∧ L ≤ 2048
section AWL
variable {p : Program} {l : Launch} {e : Env} {R : Room} {s : State} {m : MethodId} {args : Array Value} {below : List Frame} {meth : Method} {c : Code} {nL : Nat} {G : va_G × (Nat → ClassId)} {A : Nat → Prop} {cells slots : Nat} {Q : State → Prop} {H0 : Heap}
variable {cc : ByteArray} {ret : Option FieldType} {Ts : List Cond} {own : String} {ws : va_W} {lv : List (Nat × Value)} {pc : Nat} {st : List Value} {sa : Nat → Nat} {b L : Nat} {xs : Nat → Int32}
theorem aw_widen {k n : Nat} (h1 : cells ≤ k) (h2 : slots ≤ n) (kk : AW p l e R s m args below meth c nL G A H0 k n Q ws lv pc st) : AW p l e R s m args below meth c nL G A H0 cells slots Q ws lv pc st :=
  fun H locs ls hP hD hS hl => W.widen h1 h2 (kk H locs ls hP hD hS hl)
theorem aw_lsub {lv' : List (Nat × Value)} (h : ∀ q ∈ lv', q ∈ lv) (kk : AW p l e R s m args below meth c nL G A H0 cells slots Q ws lv' pc st) : AW p l e R s m args below meth c nL G A H0 cells slots Q ws lv pc st :=
  fun H locs ls hP hD hS hl => kk H locs ls hP hD hS ⟨hl.1, hl.2.1, fun q hq => hl.2.2 q (h q hq)⟩
theorem aw_swap {w1 w2 : va_W} (kk : AW p l e R s m args below meth c nL G A H0 cells slots Q (w2 ++ w1) lv pc st) : AW p l e R s m args below meth c nL G A H0 cells slots Q (w1 ++ w2) lv pc st :=
  fun H locs ls hP hD hS hl => by
    have at2 : ∀ (k : Nat) (q : Nat × va_E), w2[k]? = some q → (w1 ++ w2)[w1.length + k]? = some q := fun k q h => by rw [List.getElem?_append_right (Nat.le_add_right _ _), Nat.add_sub_cancel_left]; exact h
    have at1 : ∀ (k : Nat) (q : Nat × va_E), w1[k]? = some q → (w1 ++ w2)[k]? = some q := fun k q h => by rw [List.getElem?_append_left (List.getElem?_eq_some_iff.mp h).1]; exact h
    refine kk H locs ls (va_P.app (fun k q h => hP _ q (at2 k q h)) (fun k q h => hP _ q (at1 k q h))) (va_D.app ⟨fun i j x y hx hy hxy => ?_, fun k q h => hD.2 _ q (at2 k q h)⟩ ⟨fun i j x y hx hy hxy => hD.1 _ _ _ _ (at1 i x hx) (at1 j y hy) hxy, fun k q h => hD.2 _ q (at1 k q h)⟩ (fun i j x y hx hy hxy => ?_)) hS hl
    · have := hD.1 _ _ _ _ (at2 i x hx) (at2 j y hy) hxy
      omega
    · have h1 := hD.1 _ _ _ _ (at2 i x hx) (at1 j y hy) hxy
      have h2 := (List.getElem?_eq_some_iff.mp hy).1
      omega
theorem aw_sld (C : cx p l s m args meth c cc nL ret Ts own G A s.heap) (X : XL l s sa A b L xs) {i : Int} (h0 : 0 ≤ i) (h1 : i < (L : Int)) (hd : decode cc pc = .ok (.iaload, 1)) (kk : AW p l e R s m args below meth c nL G A s.heap cells slots Q ws lv (pc + 1) (.int (zI (xs i.toNat).toInt) :: st)) : AW p l e R s m args below meth c nL G A s.heap cells slots Q ws lv pc (.int (zI i) :: .ref b :: st) :=
  fun H locs ls hP hD hS hl => by
    have hL := X.2.2.2.2.2.2.2
    refine va_sld C.1 C.2.1 X.2.2.2.2.1 X.2.2.2.2.2.1 X.2.2.2.2.2.2.1 hS (zI_in h0 h1 (by omega)) hd ?_
    rw [zI_clamp h0 (by omega), ← zI_self (xs i.toNat)]
    exact kk H locs ls hP hD hS hl
theorem aw_slen (C : cx p l s m args meth c cc nL ret Ts own G A s.heap) (X : XL l s sa A b L xs) (hd : decode cc pc = .ok (.arraylength, 1)) (kk : AW p l e R s m args below meth c nL G A s.heap cells slots Q ws lv (pc + 1) (.int (zI (L : Int)) :: st)) : AW p l e R s m args below meth c nL G A s.heap cells slots Q ws lv pc (.ref b :: st) :=
  fun H locs ls hP hD hS hl => va_slen C.1 C.2.1 X.2.2.2.2.1 X.2.2.2.2.2.1 X.2.2.2.2.2.2.1 hS hd (kk H locs ls hP hD hS hl)
theorem aw_lcmp (C : cx p l s m args meth c cc nL ret Ts own G A H0) {x : Int64} (hd : decode cc pc = .ok (.lcmp, 1)) (kk : AW p l e R s m args below meth c nL G A H0 cells slots Q ws lv (pc + 1) (.int (zI 0) :: st)) : AW p l e R s m args below meth c nL G A H0 cells slots Q ws lv pc (.long x :: .long x :: st) :=
  fun H locs ls hP hD hS hl => by
    refine W.lcmp C.1 C.2.1 hd ?_
    have h0 : lg_cmp x x = zI 0 := by
      unfold lg_cmp
      rw [if_neg (by simp), if_pos rfl]
      rfl
    rw [h0]
    exact kk H locs ls hP hD hS hl
theorem aw_same (C : cx p l s m args meth c cc nL ret Ts own G A H0) {x : Int} {off : Int} {tgt : Nat} (hd : decode cc pc = .ok (.if_icmp .eq off, 3)) (ht : (pc : Int) + off = (tgt : Int)) (kk : AW p l e R s m args below meth c nL G A H0 cells slots Q ws lv tgt st) : AW p l e R s m args below meth c nL G A H0 cells slots Q ws lv pc (.int (zI x) :: .int (zI x) :: st) := by
  rw [← zI_self (zI x)]
  exact aw_icmp_eq C hd ht (zI_rng _) (zI_rng _) (fun _ => kk) (fun h => absurd rfl h)
theorem aw_table (C : cx p l s m args meth c cc nL ret Ts own G A H0) {z dflt lo hi off : Int} {offs : Array Int} {len tgt : Nat} (hd : decode cc pc = .ok (.tableswitch dflt lo hi offs, len)) (hz : -2147483648 ≤ z ∧ z < 2147483648) (h1 : lo ≤ z) (h2 : z ≤ hi) (ho : offs[(z - lo).toNat]? = some off) (ht : (pc : Int) + off = (tgt : Int)) (kk : AW p l e R s m args below meth c nL G A H0 cells slots Q ws lv tgt st) : AW p l e R s m args below meth c nL G A H0 cells slots Q ws lv pc (.int (zI z) :: st) :=
  fun H locs ls hP hD hS hl => lv_tableIn C.1 C.2.1 hd (by rw [zI_toInt hz]; omega) (by rw [zI_toInt hz]; omega) (by rw [zI_toInt hz]; exact ho) ht (kk H locs ls hP hD hS hl)
theorem aw_tableO (C : cx p l s m args meth c cc nL ret Ts own G A H0) {z dflt lo hi : Int} {offs : Array Int} {len tgt : Nat} (hd : decode cc pc = .ok (.tableswitch dflt lo hi offs, len)) (hz : -2147483648 ≤ z ∧ z < 2147483648) (h1 : z < lo ∨ hi < z) (ht : (pc : Int) + dflt = (tgt : Int)) (kk : AW p l e R s m args below meth c nL G A H0 cells slots Q ws lv tgt st) : AW p l e R s m args below meth c nL G A H0 cells slots Q ws lv pc (.int (zI z) :: st) :=
  fun H locs ls hP hD hS hl => lv_tableOut C.1 C.2.1 hd (by rw [zI_toInt hz]; exact h1) ht (kk H locs ls hP hD hS hl)
theorem preH_at (C : cx p l s m args meth c cc nL ret Ts own G A s.heap) (X : XL l s sa A b L xs) {wc : va_W} {H : Heap} {locs : List Loc} {As : List Value} (hS : va_S A s.heap H locs) (hF : ∀ q, va_A wc H.size q → A q) (hP : va_P G.1 vwCl wc H) (hD : va_D (fun _ => True) wc) : ∀ U : State, U.heap = H → s.WarmedH U.vm → PXh G sa As wc H.size As.toArray U := fun U hU hW => ⟨rfl, by rw [hU], by rw [hU]; exact hP, va_K.moved hW.alike C.2.2.2.2.2.1, hD, NT.warm hW X.2.1, by
  rw [hU]
  exact ZQ.moved hW.alike ((X.2.2.1.kept (fun a ha hn => hS.2.1 a ha hn)).narrow hF), NH.moved hW.alike X.2.2.2.1⟩
variable {wc wr : va_W} {y : MethodName} {ws9 : List Cond} {rm : Room} {As : List Value} {index maxL n : Nat} {bytes : ByteArray} {rt : Option FieldType} {hh : List (Nat × Nat × Nat × Nat)}
theorem aw_hs {post : Int → va_W → Prop} (C : cx p l s m args meth c cc nL ret Ts own G A s.heap) (X : XL l s sa A b L xs) (hM : Mh l G sa y ws9 rm As wc post) (cw : vx_CSW R s args own index y bytes maxL rt hh ws9 rm 1 6 n) (hn : As.length = n) (hcat : Nat.ble (st.map fun v => v.category).sum 8 = true) (hd : decode cc pc = .ok (.invokestatic index, 3)) (hf : cells + 1 ≤ R.cells ∧ slots + 6 ≤ R.slots)
    (kk : ∀ (r : Int) (u : va_W), post r u → AW p l e R s m args below meth c nL G A s.heap (cells + 1) (slots + 6) Q (u ++ wr) lv (pc + 3) (.int (zI r) :: st)) : AW p l e R s m args below meth c nL G A s.heap cells slots Q (wc ++ wr) lv pc (As.reverse ++ st) :=
  fun H locs ls hP hD hS hl => by
    obtain ⟨hPc, hDc, hFc⟩ := aw_pre C hP hD hS
    refine va_calli (vx_runSW (e := e) (below := below) (meth := meth) (cells := cells) (slots := slots) (locs := locs) (g := F0 m pc ls (As.reverse ++ st)) (As := As) (rest := st) (fix_of C) (hM H.size) cw ⟨PXh_blind, preH_at C X hS hFc hPc hDc⟩ rfl hn hl.1 rfl (lv_room (Nat.le_of_ble_eq_true hcat)) hd hf) hS (fun q _ h => hFc q h) hFc (fun r u t H1 locs1 ht hvm hw hB hz1 hk1 hS1 => ?_)
    obtain ⟨rfl, hp⟩ := hw
    obtain ⟨hP1, hD1⟩ := hB
    rw [ht] at hP1
    obtain ⟨hP2, hD2⟩ := jn hP hD hk1 hFc hP1 hD1
    exact kk u.1 u.2 hp H1 locs1 ls hP2 hD2 hS1 hl
end AWL
