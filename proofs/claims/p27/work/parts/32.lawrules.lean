/-! EACH CALL KEEPS WHAT HOLDS; RULES FOR THE LAW'S OWN METHODS -/
theorem iv_arI {S : St} {v i : Int} (hI : Inv2 S) (h : kArI S v i = 0) : Inv2 (sArI S v i) := by
  unfold kArI at h
  split at h
  · omega
  · rename_i e
    split at h
    · omega
    · rename_i e2
      split at h
      · omega
      · rename_i e3
        have h4 : 0 ≤ v ∧ v ≤ 4 := Decidable.not_not.mp e
        have h5 : 0 ≤ i ∧ i < S.1 0 := Decidable.not_not.mp e2
        have hn := hI.1.1
        exact inv_put (invB_new hI (by omega) h4) h5.1 h5.2 (by omega) (by show S.1 5 < S.1 5 + 1; omega) (by show S.2 0 i < S.1 1; omega)
theorem iv_reF {S : St} {i : Int} (hI : Inv2 S) (h : kReF S i = 0) : Inv2 (relS S i) := by
  unfold kReF at h
  split at h
  · omega
  · rename_i e
    split at h
    · omega
    · rename_i e2
      have h5 : 0 ≤ i ∧ i < S.1 0 := Decidable.not_not.mp e
      have hn := hI.1.1
      have hz := hI.1.2.1 i h5.1 (by omega)
      exact inv_rel hI h5.1 (by omega) (by omega)
theorem iv_reB {S : St} (hI : Inv2 S) (h : kReB S = 0) : Inv2 (relS S (blS S)) := by
  unfold kReB at h
  split at h
  · omega
  · rename_i e
    have h2 : ¬ blS S = -1 := fun x => e (Or.inr (Or.inr x))
    have h4 := blS_b S
    exact inv_rel hI (by omega) h4.2 (blS_pos h2)
theorem iv_asm {S : St} (hI : Inv2 S) (h : kAsm S = 0) : Inv2 (asmS S (lbS S)) := by
  unfold kAsm at h
  split at h
  · omega
  · rename_i e
    have h1 : -1 ≤ lbS S ∧ lbS S < ((S.1 5).toNat : Int) := fstB_b _ _
    have h2 : S.2 2 (lbS S) = 10 := of_decide_eq_true (fstB_ok e)
    have hn := hI.1.1
    exact inv_asm hI (by omega) (by omega) h2
section AWL
variable {p : Program} {l : Launch} {e : Env} {R : Room} {s : State} {m : MethodId} {args : Array Value} {below : List Frame} {meth : Method} {c : Code} {nL : Nat} {G : va_G × (Nat → ClassId)} {A : Nat → Prop} {cells slots : Nat} {Q : State → Prop} {H0 : Heap}
variable {cc : ByteArray} {ret : Option FieldType} {Ts : List Cond} {own : String} {ws : va_W} {lv : List (Nat × Value)} {pc : Nat} {st : List Value} {sa : Nat → Nat} {b L : Nat} {xs : Nat → Int32}
theorem aw_widen {k n : Nat} (h1 : cells ≤ k) (h2 : slots ≤ n) (kk : AW p l e R s m args below meth c nL G A H0 k n Q ws lv pc st) : AW p l e R s m args below meth c nL G A H0 cells slots Q ws lv pc st :=
  fun H locs ls hP hD hS hl => W.widen h1 h2 (kk H locs ls hP hD hS hl)
theorem aw_lsub {lv' : List (Nat × Value)} (h : ∀ q ∈ lv', q ∈ lv) (kk : AW p l e R s m args below meth c nL G A H0 cells slots Q ws lv' pc st) : AW p l e R s m args below meth c nL G A H0 cells slots Q ws lv pc st :=
  fun H locs ls hP hD hS hl => kk H locs ls hP hD hS ⟨hl.1, hl.2.1, fun q hq => hl.2.2 q (h q hq)⟩
theorem aw_swap {w1 w2 : va_W} (kk : AW p l e R s m args below meth c nL G A H0 cells slots Q (w2 ++ w1) lv pc st) : AW p l e R s m args below meth c nL G A H0 cells slots Q (w1 ++ w2) lv pc st :=
  fun H locs ls hP hD hS hl => by
    have at2 : ∀ (k : Nat) (q : Nat × va_E), w2[k]? = some q → (w1 ++ w2)[w1.length + k]? = some q := fun k q h => by rw [List.getElem?_append_right (Nat.le_add_right _ _), Nat.add_sub_cancel_left]; exact h
    have at1 : ∀ (k : Nat) (q : Nat × va_E), w1[k]? = some q → (w1 ++ w2)[k]? = some q := fun k q h => by rw [List.getElem?_append_left (List.getElem?_eq_some_iff.mp h).1]; exact h
    refine kk H locs ls (va_P.app (fun k q h => hP _ q (at2 k q h)) (fun k q h => hP _ q (at1 k q h))) (va_D.app ⟨fun i j x y hx hy hxy => ?_, fun k q h => hD.2 _ q (at2 k q h)⟩ ⟨fun i j x y hx hy hxy => hD.1 _ _ _ _ (at1 i x hx) (at1 j y hy) hxy, fun k q h => hD.2 _ q (at1 k q h)⟩ (fun i j x y hx hy hxy => ?_)) hS hl
    · have := hD.1 _ _ _ _ (at2 i x hx) (at2 j y hy) hxy
      omega
    · have h1 := hD.1 _ _ _ _ (at2 i x hx) (at1 j y hy) hxy
      have h2 := (List.getElem?_eq_some_iff.mp hy).1
      omega
end AWL
