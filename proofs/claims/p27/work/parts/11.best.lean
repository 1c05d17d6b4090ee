/-! THE TABLE FILLED: what every state's entry says -/
def wtP (P : St) (i q : Int) : Int := if i < 5 then P.2 i.toNat q else 0
def TE (sz : Int → Int) (wt : Int → Int → Int) (P : St) (t : Int → Int) : Prop := P.2 8 (vlN sz t 5) = mC sz wt (rmT sz t).toNat t (-1) ∧ ∃ b : Int → Bool, P.2 9 (vlN sz t 5) = mskB b ∧ (rmT sz t = 0 → mskB b = 0) ∧ (0 < rmT sz t → ¬ mskB b = 0 ∧ ∀ c : Int, 0 ≤ c → c < 5 → (b c = true ↔ mC sz wt (rmT sz t).toNat t c = mC sz wt (rmT sz t).toNat t (-1)))
def PV (P : St) : Prop := (∀ i : Int, 0 ≤ i → i < 5 → 0 ≤ P.2 5 i ∧ P.2 5 i ≤ 6) ∧ P.2 5 0 + P.2 5 1 + P.2 5 2 + P.2 5 3 + P.2 5 4 ≤ 12 ∧ ∀ i q : Int, 0 ≤ i → i < 5 → 0 ≤ q → q < P.2 5 i → 0 ≤ P.2 i.toNat q ∧ P.2 i.toNat q < 5
theorem rmT_12 {sz t : Int → Int} (hs : sz 0 + sz 1 + sz 2 + sz 3 + sz 4 ≤ 12) (hv : vT sz t) : 0 ≤ rmT sz t ∧ rmT sz t ≤ 12 := by
  have h0 := hv 0 (by omega) (by omega)
  have h1 := hv 1 (by omega) (by omega)
  have h2 := hv 2 (by omega) (by omega)
  have h3 := hv 3 (by omega) (by omega)
  have h4 := hv 4 (by omega) (by omega)
  unfold rmT
  omega
theorem mC_12 {sz : Int → Int} {wt : Int → Int → Int} {t : Int → Int} (hs : sz 0 + sz 1 + sz 2 + sz 3 + sz 4 ≤ 12) (hv : vT sz t) (c : Int) : 0 ≤ mC sz wt (rmT sz t).toNat t c ∧ mC sz wt (rmT sz t).toNat t c ≤ 12 := by
  have h := rmT_12 hs hv
  have h2 := mC_b (wt := wt) (rmT sz t).toNat t c hv (by omega)
  omega
theorem TE_ffv {sz : Int → Int} {wt : Int → Int → Int} {P : St} {t : Int → Int} (hs : sz 0 + sz 1 + sz 2 + sz 3 + sz 4 ≤ 12) (hv : vT sz t) (h : TE sz wt P t) : (0 ≤ P.2 8 (vlN sz t 5) ∧ P.2 8 (vlN sz t 5) ≤ 100) ∧ ∃ b : Int → Bool, P.2 9 (vlN sz t 5) = mskB b ∧ ∀ c : Int, -1 ≤ c → c < 5 → ffv (P.2 8 (vlN sz t 5)) b c = mC sz wt (rmT sz t).toNat t c := by
  obtain ⟨h8, b, h9, hb0, hb1⟩ := h
  have hr := rmT_12 hs hv
  have hm := mC_12 (wt := wt) hs hv (-1)
  refine ⟨by omega, b, h9, fun c c0 c5 => ?_⟩
  rw [h8]
  unfold ffv
  by_cases hz : rmT sz t = 0
  · rw [if_pos (Or.inr (Or.inl (hb0 hz))), hz]
    rfl
  · obtain ⟨hn, hb⟩ := hb1 (by omega)
    by_cases hc : c = -1
    · rw [if_pos (Or.inl hc), hc]
    · obtain ⟨f, hf⟩ : ∃ f : Nat, (rmT sz t).toNat = f + 1 := ⟨(rmT sz t).toNat - 1, by omega⟩
      have hk := mC_col (wt := wt) (f := f) (c := c) hv (by omega) (by omega) hc
      have hb2 := hb c (by omega) c5
      rw [hf] at hb2 ⊢
      by_cases he : b c = true
      · rw [if_pos (Or.inr (Or.inr he)), hb2.mp he]
      · have hne : ¬ mC sz wt (f + 1) t c = mC sz wt (f + 1) t (-1) := fun x => he (hb2.mpr x)
        rw [if_neg (fun x => by rcases x with x | x | x; exact hc x; exact hn x; exact he x)]
        omega
theorem TE_step {sz : Int → Int} {wt : Int → Int → Int} {P : St} {t : Int → Int} (hs : sz 0 + sz 1 + sz 2 + sz 3 + sz 4 ≤ 12) (hv : vT sz t) (hc : ∀ i : Int, 0 ≤ i → i < 5 → t i < sz i → 0 ≤ wt i (t i) ∧ wt i (t i) < 5) {p : Int → Bool} {col F : Int → Int}
    (hp : ∀ i : Int, 0 ≤ i → i < 5 → p i = decide (t i < sz i)) (hcol : ∀ i : Int, 0 ≤ i → i < 5 → t i < sz i → col i = wt i (t i)) (hF : ∀ i : Int, 0 ≤ i → i < 5 → t i < sz i → F i = mC sz wt (rmT sz t - 1).toNat (upT t i) (wt i (t i))) :
    TE sz wt (ua (ua P 8 (vlN sz t 5) (lsV p F 5)) 9 (vlN sz t 5) (mskB (bkN p col F 5))) t := by
  have hr := rmT_12 hs hv
  have e8 : (ua (ua P 8 (vlN sz t 5) (lsV p F 5)) 9 (vlN sz t 5) (mskB (bkN p col F 5))).2 8 (vlN sz t 5) = lsV p F 5 := by
    rw [ua_n _ _ _ _ _ (by decide), ua_s, if_pos rfl]
  have e9 : (ua (ua P 8 (vlN sz t 5) (lsV p F 5)) 9 (vlN sz t 5) (mskB (bkN p col F 5))).2 9 (vlN sz t 5) = mskB (bkN p col F 5) := by
    rw [ua_s, if_pos rfl]
  unfold TE
  rw [e8, e9]
  have hp2 : ∀ i : Int, 0 ≤ i → i < (5 : Nat) → p i = true → t i < sz i := fun i h0 h5 h => by
    rw [hp i h0 h5] at h
    exact of_decide_eq_true h
  have hF2 : ∀ k : Int, 0 ≤ k → k < (5 : Nat) → p k = true → 0 ≤ F k ∧ F k ≤ 12 := fun k h0 h5 h => by
    have h2 := hp2 k h0 h5 h
    rw [hF k h0 h5 h2, ← rmT_up (sz := sz) (t := t) h0 h5]
    exact mC_12 hs (vT_up hv h2) _
  have hz := bkN_0 (p := p) (col := col) (A := F) (n := 5) (fun k h0 h5 h => by rw [hcol k h0 h5 (hp2 k h0 h5 h)]; exact hc k h0 h5 (hp2 k h0 h5 h)) (fun k h0 h5 h => by have := hF2 k h0 h5 h; omega)
  by_cases e : rmT sz t = 0
  · have hno : mnL p F 5 = 1000 := by
      rcases mnL_at p F 5 with h | ⟨k, k0, k5, k2, k3⟩
      · exact h
      · have h1 := hp2 k k0 k5 k2
        have h2 := (rmT_0 hv).2 e k k0 k5
        omega
    refine ⟨?_, _, rfl, fun _ => hz.mpr hno, fun h => by omega⟩
    rw [e]
    show lsV p F 5 = 0
    exact if_pos hno
  · obtain ⟨f, hf⟩ : ∃ f : Nat, (rmT sz t).toNat = f + 1 := ⟨(rmT sz t).toNat - 1, by omega⟩
    have hf2 : (rmT sz t - 1).toNat = f := by omega
    rw [hf2] at hF
    have em : mnL p F 5 = mC sz wt (f + 1) t (-1) := by
      rw [mC_free]
      exact mnL_congr (fun k h0 h5 => ⟨hp k h0 h5, fun h => hF k h0 h5 (hp2 k h0 h5 h)⟩)
    have hm := mC_b (wt := wt) (f + 1) t (-1) hv (by omega)
    have hne : ¬ mnL p F 5 = 1000 := by omega
    rw [hf]
    refine ⟨?_, _, rfl, fun h => absurd h e, fun _ => ⟨fun h => hne (hz.mp h), fun c c0 c5 => ?_⟩⟩
    · rw [← em]
      exact if_neg hne
    · rw [bkN_iff, (mC_col (wt := wt) (f := f) (c := c) hv (by omega) (by omega) (by omega)).2.2, em]
      refine ⟨fun ⟨k, k0, k5, k2, k3, k4⟩ => ?_, fun ⟨k, k0, k5, k2, k3, k4⟩ => ?_⟩
      · have h2 := hp2 k k0 k5 k2
        exact ⟨k, k0, k5, h2, by rw [← hcol k k0 k5 h2]; exact k3, by rw [← hF k k0 k5 h2]; exact k4⟩
      · exact ⟨k, k0, k5, by rw [hp k k0 k5]; exact decide_eq_true k2, by rw [hcol k k0 k5 k2]; exact k3, by rw [hF k k0 k5 k2]; exact k4⟩
theorem TE_keep {sz : Int → Int} {wt : Int → Int → Int} {P P2 : St} {t : Int → Int} (h : TE sz wt P t) (h8 : P2.2 8 (vlN sz t 5) = P.2 8 (vlN sz t 5)) (h9 : P2.2 9 (vlN sz t 5) = P.2 9 (vlN sz t 5)) : TE sz wt P2 t := by
  unfold TE at h ⊢
  rw [h8, h9]
  exact h
theorem TE_congr {sz : Int → Int} {wt : Int → Int → Int} {P : St} {t u : Int → Int} (h : TE sz wt P t) (e : ∀ i : Int, 0 ≤ i → i < 5 → t i = u i) : TE sz wt P u := by
  unfold TE at h ⊢
  rw [← vlN_congr (sz := sz) 5 e, ← rmT_congr (sz := sz) e, ← mC_congr (sz := sz) (wt := wt) _ t u (-1) e]
  obtain ⟨h1, b, h2, h3, h4⟩ := h
  exact ⟨h1, b, h2, h3, fun g => ⟨(h4 g).1, fun c c0 c5 => by rw [← mC_congr (sz := sz) (wt := wt) _ t u c e]; exact (h4 g).2 c c0 c5⟩⟩
theorem vlN_top {sz : Int → Int} : ∀ n : Nat, vlN sz sz n = stN sz n - 1
  | 0 => rfl
  | n + 1 => by
    show vlN sz sz n + sz n * stN sz n = stN sz n * (sz n + 1) - 1
    rw [vlN_top n, Int.mul_add, Int.mul_one, Int.mul_comm (stN sz n) (sz n)]
    omega
theorem vlN_zero {sz : Int → Int} : ∀ n : Nat, vlN sz (fun _ => 0) n = 0
  | 0 => rfl
  | n + 1 => by
    show vlN sz (fun _ => 0) n + 0 * stN sz n = 0
    rw [vlN_zero n, Int.zero_mul]
    rfl
/-- one state back -/
theorem sb_vl {sz t u : Int → Int} {k : Int} (hu : ∀ j : Int, 0 ≤ j → j < 5 → u j = if j < k then sz j else if j = k then t k - 1 else t j) (h0 : ∀ j : Int, 0 ≤ j → j < k → t j = 0) (hk : 0 ≤ k) (hk5 : k < 5) : ∀ n : Nat, n ≤ 5 → (n ≤ k → vlN sz t n = 0 ∧ vlN sz u n = stN sz n - 1) ∧ (k < n → vlN sz u n = vlN sz t n - 1)
  | 0, _ => ⟨fun _ => ⟨rfl, rfl⟩, fun h => by omega⟩
  | n + 1, hn => by
    have ih := sb_vl hu h0 hk hk5 n (by omega)
    have e1 : vlN sz t (n + 1) = vlN sz t n + t n * stN sz n := rfl
    have e2 : vlN sz u (n + 1) = vlN sz u n + u n * stN sz n := rfl
    have e3 : stN sz (n + 1) = stN sz n * (sz n + 1) := rfl
    have eu := hu n (by omega) (by omega)
    refine ⟨fun h => ?_, fun h => ?_⟩
    · have g := ih.1 (by omega)
      rw [if_pos (by omega)] at eu
      rw [e1, e2, e3, eu, g.1, g.2, h0 n (by omega) (by omega), Int.zero_mul, Int.mul_add, Int.mul_one, Int.mul_comm (stN sz n) (sz n)]
      omega
    · by_cases e : (n : Int) = k
      · have g := ih.1 (by omega)
        rw [if_neg (by omega), if_pos e] at eu
        rw [e1, e2, eu, g.1, g.2, e, Int.sub_mul]
        omega
      · have g := ih.2 (by omega)
        rw [if_neg (by omega), if_neg e] at eu
        rw [e1, e2, eu, g]
        omega
def TF (P P9 : St) : Prop := (∀ a : Nat, a < 6 → P9.2 a = P.2 a) ∧ (∀ i : Int, 0 ≤ i → i < 5 → P9.2 7 i = stN (P.2 5) i.toNat) ∧ ∀ t : Int → Int, vT (P.2 5) t → TE (P.2 5) (wtP P) P9 t
/-- at the number x of the loop that fills -/
def TI (P P9 : St) (x : Int) : Prop := (∀ a : Nat, a < 6 → P9.2 a = P.2 a) ∧ (∀ i : Int, 0 ≤ i → i < 5 → P9.2 7 i = stN (P.2 5) i.toNat) ∧ (0 ≤ x → vT (P.2 5) (P9.2 6) ∧ vlN (P.2 5) (P9.2 6) 5 = x) ∧ ∀ t : Int → Int, vT (P.2 5) t → x < vlN (P.2 5) t 5 → TE (P.2 5) (wtP P) P9 t
theorem TI_0 {P : St} (hP : PV P) : TI P (rsN (lsN P 5) 5) (stN (P.2 5) 5 - 1) := by
  have e6 : ∀ i : Int, 0 ≤ i → i < 5 → (rsN (lsN P 5) 5).2 6 i = P.2 5 i := fun i h0 h5 => by
    rw [rsN_at _ 5 i h0, if_pos (by omega), lsN_n P (by decide) 5]
  refine ⟨fun a ha => by rw [rsN_n _ (by omega), lsN_n P (by omega)], fun i h0 h5 => by rw [rsN_n _ (by decide), lsN_at P 5 i h0 (by omega)], fun _ => ⟨fun i h0 h5 => ?_, ?_⟩, fun t hv ht => ?_⟩
  · rw [e6 i h0 h5]
    have := hP.1 i h0 h5
    omega
  · rw [vlN_congr 5 (u := P.2 5) (fun i h0 h5 => e6 i h0 (by omega))]
    exact vlN_top 5
  · have := vlN_b (fun i h0 h5 => (hP.1 i h0 h5).1) hv 5 (by omega)
    omega
theorem wtP_at {P : St} {i : Int} (h5 : i < 5) (q : Int) : wtP P i q = P.2 i.toNat q := if_pos h5
/-- the entries that a state's own is made of -/
theorem TI_F {P P9 : St} {x : Int} (hP : PV P) (h : TI P P9 x) (hx : 0 ≤ x) : (0 ≤ x ∧ x < 432) ∧ ∃ bF : Int → Int → Bool, ∀ i : Int, 0 ≤ i → i < 5 → P9.2 6 i < P9.2 5 i → (0 ≤ x + P9.2 7 i ∧ x + P9.2 7 i < 432) ∧ ((0 ≤ P9.2 8 (x + P9.2 7 i) ∧ P9.2 8 (x + P9.2 7 i) ≤ 100) ∧ P9.2 9 (x + P9.2 7 i) = mskB (bF i)) ∧ ffv (P9.2 8 (x + P9.2 7 i)) (bF i) (P9.2 i.toNat (P9.2 6 i)) = mC (P.2 5) (wtP P) (rmT (P.2 5) (P9.2 6) - 1).toNat (upT (P9.2 6) i) (wtP P i (P9.2 6 i)) ∧ (0 ≤ P9.2 i.toNat (P9.2 6 i) ∧ P9.2 i.toNat (P9.2 6 i) < 5) ∧ (0 ≤ mC (P.2 5) (wtP P) (rmT (P.2 5) (P9.2 6) - 1).toNat (upT (P9.2 6) i) (wtP P i (P9.2 6 i)) ∧ mC (P.2 5) (wtP P) (rmT (P.2 5) (P9.2 6) - 1).toNat (upT (P9.2 6) i) (wtP P i (P9.2 6 i)) ≤ 101) := by
  obtain ⟨ha, h7, h6, hT⟩ := h
  obtain ⟨hv, hvl⟩ := h6 hx
  have hsz : ∀ i : Int, 0 ≤ i → i < 5 → 0 ≤ P.2 5 i := fun i h0 h5 => (hP.1 i h0 h5).1
  have h432 := stN_432 hP.1 hP.2.1
  have hb := vlN_b hsz hv 5 (by omega)
  refine ⟨by omega, ?_⟩
  have key : ∀ i : Int, 0 ≤ i → i < 5 → P9.2 6 i < P.2 5 i → ∃ b : Int → Bool, (0 ≤ x + P9.2 7 i ∧ x + P9.2 7 i < 432) ∧ ((0 ≤ P9.2 8 (x + P9.2 7 i) ∧ P9.2 8 (x + P9.2 7 i) ≤ 100) ∧ P9.2 9 (x + P9.2 7 i) = mskB b) ∧ ffv (P9.2 8 (x + P9.2 7 i)) b (P9.2 i.toNat (P9.2 6 i)) = mC (P.2 5) (wtP P) (rmT (P.2 5) (P9.2 6) - 1).toNat (upT (P9.2 6) i) (wtP P i (P9.2 6 i)) ∧ (0 ≤ P9.2 i.toNat (P9.2 6 i) ∧ P9.2 i.toNat (P9.2 6 i) < 5) ∧ (0 ≤ mC (P.2 5) (wtP P) (rmT (P.2 5) (P9.2 6) - 1).toNat (upT (P9.2 6) i) (wtP P i (P9.2 6 i)) ∧ mC (P.2 5) (wtP P) (rmT (P.2 5) (P9.2 6) - 1).toNat (upT (P9.2 6) i) (wtP P i (P9.2 6 i)) ≤ 101) := by
    intro i h0 h5 h2
    have hv2 := vT_up hv h2
    have e1 := vlN_up (sz := P.2 5) (t := P9.2 6) (i := i) 5 h0
    rw [if_pos (by omega), hvl, ← h7 i h0 h5] at e1
    have hpos := stN_pos hsz i.toNat (by omega)
    rw [← h7 i h0 h5] at hpos
    have hb2 := vlN_b hsz hv2 5 (by omega)
    obtain ⟨k8, b, k9, kf⟩ := TE_ffv hP.2.1 hv2 (hT _ hv2 (by omega))
    rw [e1] at k8 k9 kf
    have hc := hP.2.2 i (P9.2 6 i) h0 h5 (hv i h0 h5).1 h2
    rw [← ha i.toNat (by omega)] at hc
    have kf2 := kf (P9.2 i.toNat (P9.2 6 i)) (by omega) (by omega)
    have hm := mC_12 (wt := wtP P) hP.2.1 hv2 (wtP P i (P9.2 6 i))
    rw [rmT_up h0 h5] at kf2 hm
    have ew : wtP P i (P9.2 6 i) = P9.2 i.toNat (P9.2 6 i) := by rw [wtP_at h5, ha i.toNat (by omega)]
    refine ⟨b, by omega, ⟨k8, k9⟩, by rw [kf2, ew], hc, by omega⟩
  refine ⟨fun i => if h : 0 ≤ i ∧ i < 5 ∧ P9.2 6 i < P.2 5 i then Classical.choose (key i h.1 h.2.1 h.2.2) else fun _ => false, fun i h0 h5 h2 => ?_⟩
  rw [ha 5 (by omega)] at h2
  dsimp only
  rw [dif_pos ⟨h0, h5, h2⟩]
  exact Classical.choose_spec (key i h0 h5 h2)
/-- a state's entry made -/
theorem TI_1 {P P9 : St} {x : Int} (hP : PV P) (h : TI P P9 x) (hx : 0 ≤ x) : ∀ t : Int → Int, vT (P.2 5) t → x - 1 < vlN (P.2 5) t 5 → TE (P.2 5) (wtP P) (ua (ua P9 8 x (lsV (fun i => decide (P9.2 6 i < P9.2 5 i)) (fun i => mC (P.2 5) (wtP P) (rmT (P.2 5) (P9.2 6) - 1).toNat (upT (P9.2 6) i) (wtP P i (P9.2 6 i))) 5)) 9 x (mskB (bkN (fun i => decide (P9.2 6 i < P9.2 5 i)) (fun i => P9.2 i.toNat (P9.2 6 i)) (fun i => mC (P.2 5) (wtP P) (rmT (P.2 5) (P9.2 6) - 1).toNat (upT (P9.2 6) i) (wtP P i (P9.2 6 i))) 5))) t := by
  obtain ⟨ha, h7, h6, hT⟩ := h
  obtain ⟨hv, hvl⟩ := h6 hx
  have hsz : ∀ i : Int, 0 ≤ i → i < 5 → 0 ≤ P.2 5 i := fun i h0 h5 => (hP.1 i h0 h5).1
  intro t ht hlt
  by_cases e : vlN (P.2 5) t 5 = x
  · have et := vlN_inj hsz hv ht 5 (by omega) (by rw [hvl, e])
    refine TE_congr ?_ (fun i h0 h5 => et i h0 (by omega))
    rw [← hvl]
    refine TE_step hP.2.1 hv (fun i h0 h5 h2 => ?_) (fun i h0 h5 => by rw [ha 5 (by omega)]) (fun i h0 h5 h2 => by rw [wtP_at h5, ha i.toNat (by omega)]) (fun i h0 h5 h2 => rfl)
    rw [wtP_at h5]
    exact hP.2.2 i _ h0 h5 (hv i h0 h5).1 h2
  · refine TE_keep (hT t ht (by omega)) ?_ ?_
    · rw [ua_n _ _ _ _ _ (by decide), ua_s, if_neg e]
    · rw [ua_s, if_neg e, ua_n _ _ _ _ _ (by decide)]
/-- .. and the numbers taken one state back -/
theorem TI_2 {P P9 P8 : St} {x : Int} (hP : PV P) (h : TI P P9 x) (hx : 0 ≤ x) (hT1 : ∀ t : Int → Int, vT (P.2 5) t → x - 1 < vlN (P.2 5) t 5 → TE (P.2 5) (wtP P) P8 t) (h8 : ∀ a : Nat, a < 8 → P8.2 a = P9.2 a) {k : Nat} (hk : k ≤ 5) (h0 : ∀ j : Int, 0 ≤ j → j < k → P8.2 6 j ≤ 0) (hkp : k < 5 → 0 < P8.2 6 k) : TI P (if k = 5 then rsN P8 5 else ua (rsN P8 k) 6 k (P8.2 6 k - 1)) (x - 1) := by
  obtain ⟨ha, h7, h6, -⟩ := h
  obtain ⟨hv, hvl⟩ := h6 hx
  rw [h8 6 (by omega)] at h0 hkp ⊢
  have hj : ∀ (a : Nat), a ≠ 6 → (if k = 5 then rsN P8 5 else ua (rsN P8 k) 6 k (P9.2 6 k - 1)).2 a = P8.2 a := fun a h => by
    split
    · exact rsN_n P8 h 5
    · rw [ua_m _ _ _ _ h]; exact rsN_n P8 h k
  refine ⟨fun a h => by rw [hj a (by omega), h8 a (by omega), ha a h], fun i g0 g5 => by rw [hj 7 (by decide), h8 7 (by omega)]; exact h7 i g0 g5, fun hx1 => ?_, fun t ht hl => TE_keep (hT1 t ht hl) (by rw [hj 8 (by decide)]) (by rw [hj 9 (by decide)])⟩
  have hz : ∀ j : Int, 0 ≤ j → j < k → P9.2 6 j = 0 := fun j g0 g1 => by
    have h1 := h0 j g0 g1
    have h2 := hv j g0 (by omega)
    omega
  by_cases e : k = 5
  · have e0 := vlN_congr (sz := P.2 5) 5 (t := P9.2 6) (u := fun _ => 0) (fun i g0 g5 => hz i g0 (by omega))
    rw [hvl, vlN_zero] at e0
    omega
  · rw [if_neg e]
    have hu : ∀ j : Int, 0 ≤ j → j < 5 → (ua (rsN P8 k) 6 k (P9.2 6 k - 1)).2 6 j = if j < k then P.2 5 j else if j = k then P9.2 6 k - 1 else P9.2 6 j := fun j g0 g5 => by
      rw [ua_s, rsN_at P8 k j g0, h8 5 (by omega), h8 6 (by omega), ha 5 (by omega)]
      by_cases e1 : j = k
      · rw [if_pos e1, if_neg (by omega), if_pos e1]
      · rw [if_neg e1]
        by_cases e2 : j < k
        · rw [if_pos e2, if_pos e2]
        · rw [if_neg e2, if_neg e2, if_neg e1]
    have hp := hkp (by omega)
    refine ⟨fun j g0 g5 => ?_, ?_⟩
    · rw [hu j g0 g5]
      have h1 := hv j g0 g5
      have h2 := hP.1 j g0 g5
      split
      · omega
      · split
        · rename_i e2
          rw [e2] at h1
          rw [e2]
          omega
        · exact h1
    · have h1 := (sb_vl (sz := P.2 5) hu hz (by omega) (by omega) 5 (by omega)).2 (by omega)
      omega
theorem TI_end {P P9 : St} (hP : PV P) (h : TI P P9 (-1)) : TF P P9 := ⟨h.1, h.2.1, fun t ht => h.2.2.2 t ht (by have := vlN_b (fun i h0 h5 => (hP.1 i h0 h5).1) ht 5 (by omega); omega)⟩
theorem TI_T {P P9 : St} {x : Int} (hP : PV P) (h : TI P P9 x) (hx : 0 ≤ x) : ∀ i : Int, 0 ≤ i → i < 5 → (0 ≤ P9.2 6 i ∧ P9.2 6 i ≤ 6) ∧ (0 ≤ P9.2 5 i ∧ P9.2 5 i ≤ 6) := fun i h0 h5 => by
  have h1 := (h.2.2.1 hx).1 i h0 h5
  have h2 := hP.1 i h0 h5
  rw [h.1 5 (by omega)]
  omega

set_option maxHeartbeats 4000000 in
set_option maxRecDepth 100000 in
theorem c_X1_fillTable {l : Launch} {G : va_G × (Nat → ClassId)} {ad : Nat → Nat} {S P : St} (hP : PV P) : Mv l G yX1_fillTable wsX1_fillTable ({ frames := 2, cells := 0, slots := 0, locals := 50 } : Room) [.ref (ad 16)] (WX G.2 ad S P) (fun u => ∃ P9 : St, u = WX G.2 ad S P9 ∧ TF P P9) := by
  refine Mv.of (own := RX1) (cc := cX1_fillTable) (maxL := 3) (ret := none) (by decide) rfl rfl rfl ?_
  intro p e s m args below meth c A C hN
  have hts := C.2.2.2.2.1
  have iFX1 : ∀ w ∈ u_ws RX1 TX1 6, w ∈ wsX1_fillTable := by decide +kernel
  have k_20 := hts (.fieldLink RX1 20 "PaintSequencer$Plan" "taken" "[I") (by decide +kernel)
  have k_16 := hts (.fieldLink RX1 16 "PaintSequencer$Plan" "sizes" "[I") (by decide +kernel)
  have h432 := stN_432 hP.1 hP.2.1
  have hpos := stN_pos (fun i h0 h5 => (hP.1 i h0 h5).1) 5 (by omega)
  have lp2 : ∀ (n : Nat) (x : Int) (P9 : St), -1 ≤ x → x < 432 → x + 1 < n → TI P P9 x → AW p l e (headSpec wsX1_fillTable ({ frames := 2, cells := 0, slots := 0, locals := 50 } : Room)).room s m args below meth c 3 G A s.heap 0 0 (MQ below (QPv G (fun u => ∃ P9 : St, u = WX G.2 ad S P9 ∧ TF P P9) A) args s 0 0 A) (WX G.2 ad S P9) [(0, .ref (ad 16)), (1, .int (zI (stN (P.2 5) 5))), (2, .int (zI x))] 34 [] := by
    intro n
    induction n with
    | zero =>
      intro x P9 g1 g2 g3 g4
      exfalso
      omega
    | succ n ih =>
      intro x P9 g1 g2 g3 g4
      refine aw_iload_n C dX1_fillTable_34 rfl ?_
      refine aw_if_lt (tgt := 53) C dX1_fillTable_35 (by decide) (by omega) (fun c35 => ?_) (fun c35 => ?_)
      · exact aw_vret C dX1_fillTable_53 ⟨P9, rfl, TI_end hP (by rw [show (-1 : Int) = x by omega]; exact g4)⟩
      · obtain ⟨hx9, bF, hF9⟩ := TI_F hP g4 c35
        have hT9 := TI_T hP g4 c35
        refine aw_aload_n C dX1_fillTable_38 rfl ?_
        refine aw_iload_n C dX1_fillTable_39 rfl ?_
        refine cV1v (ci := 1) (q0 := 16) C hN (c_X1_fillState (F := fun i => mC (P.2 5) (wtP P) (rmT (P.2 5) (P9.2 6) - 1).toNat (upT (P9.2 6) i) (wtP P i (P9.2 6 i))) (bF := bF) hx9 hT9 hF9) (cwV 1 hts gX1_fillTable_X1_fillState rfl rfl rfl (by decide +kernel) ⟨Nat.le_of_ble_eq_true rfl, Nat.le_of_ble_eq_true rfl⟩) rfl rfl rfl rfl dX1_fillTable_40 ⟨Nat.zero_le _, Nat.zero_le _⟩ (fun u40 q40 => ?_)
        obtain rfl := q40
        refine aw_aload_n C dX1_fillTable_43 rfl ?_
        refine cV0v (ci := 1) (q0 := 16) C hN (c_X1_stepBack (by intro i h0 h5; rw [ua_m _ _ _ _ (by decide), ua_m _ _ _ _ (by decide), ua_m _ _ _ _ (by decide), ua_m _ _ _ _ (by decide)]; exact hT9 i h0 h5)) (cwV 0 hts gX1_fillTable_X1_stepBack rfl rfl rfl (by decide +kernel) ⟨Nat.le_of_ble_eq_true rfl, Nat.le_of_ble_eq_true rfl⟩) rfl rfl rfl rfl dX1_fillTable_44 ⟨Nat.zero_le _, Nat.zero_le _⟩ (fun u44 q44 => ?_)
        obtain ⟨k, k1, k2, k3, rfl⟩ := q44
        refine aw_iinc C dX1_fillTable_47 rfl rfl rfl ?_
        refine aw_goto (tgt := 34) C dX1_fillTable_50 (by decide) ?_
        exact ih (x - 1) _ (by omega) (by omega) (by omega) (TI_2 hP g4 c35 (TI_1 hP g4 c35) (fun a ha => by rw [ua_m _ _ _ _ (by omega), ua_m _ _ _ _ (by omega)]) k1 k2 k3)
  have lp : ∀ (n : Nat) (k : Nat), (k : Int) ≤ 5 → 5 - (k : Int) < n → AW p l e (headSpec wsX1_fillTable ({ frames := 2, cells := 0, slots := 0, locals := 50 } : Room)).room s m args below meth c 3 G A s.heap 0 0 (MQ below (QPv G (fun u => ∃ P9 : St, u = WX G.2 ad S P9 ∧ TF P P9) A) args s 0 0 A) (WX G.2 ad S (rsN (lsN P 5) k)) [(0, .ref (ad 16)), (1, .int (zI (stN (P.2 5) 5))), (2, .int (zI k))] 7 [] := by
    intro n
    induction n with
    | zero =>
      intro k h1 h2
      exfalso
      omega
    | succ n ih =>
      intro k h1 h2
      refine aw_iload_n C dX1_fillTable_7 rfl ?_
      refine aw_iconst C dX1_fillTable_8 ?_
      refine aw_icmp_ge (tgt := 30) C dX1_fillTable_9 (by decide) (by omega) (by omega) (fun c9 => ?_) (fun c9 => ?_)
      · have e5 : k = 5 := by omega
        subst e5
        refine aw_iload_n C dX1_fillTable_30 rfl ?_
        refine aw_iconst C dX1_fillTable_31 ?_
        refine aw_isub C dX1_fillTable_32 ?_
        refine aw_istore_n C dX1_fillTable_33 rfl rfl ?_
        exact lp2 433 (stN (P.2 5) 5 - 1) _ (by omega) (by omega) (by omega) (TI_0 hP)
      · have e5 : (rsN (lsN P 5) k).2 5 k = (lsN P 5).2 5 k := by rw [rsN_n _ (by decide) k]
        refine aw_aload_n C dX1_fillTable_12 rfl ?_
        refine aw_get (q0 := 16) (k := 2) C iFX1 k_20 rfl rfl rfl rfl dX1_fillTable_13 ?_
        refine aw_iload_n C dX1_fillTable_16 rfl ?_
        refine aw_aload_n C dX1_fillTable_17 rfl ?_
        refine aw_get (q0 := 16) (k := 1) C iFX1 k_16 rfl rfl rfl rfl dX1_fillTable_18 ?_
        refine aw_iload_n C dX1_fillTable_21 rfl ?_
        refine aw_ldI (q0 := 23) C rfl (by omega) (by omega) rfl dX1_fillTable_22 ?_
        refine aw_stI (q0 := 24) C rfl (by omega) (by omega) rfl (wx_a24 _ _ _ _ _ _) dX1_fillTable_23 ?_
        refine aw_iinc C dX1_fillTable_24 rfl rfl rfl ?_
        refine aw_goto (tgt := 7) C dX1_fillTable_27 (by decide) ?_
        rw [e5]
        exact ih (k + 1) (by omega) (by omega)
  refine aw_aload_n C dX1_fillTable_0 rfl ?_
  refine cV0i (ci := 1) (q0 := 16) C hN (c_X1_layStrides (by omega)) (cwV 0 hts gX1_fillTable_X1_layStrides rfl rfl rfl (by decide +kernel) ⟨Nat.le_of_ble_eq_true rfl, Nat.le_of_ble_eq_true rfl⟩) rfl rfl rfl rfl dX1_fillTable_1 ⟨Nat.zero_le _, Nat.zero_le _⟩ (fun r1 u1 q1 => ?_)
  obtain ⟨rfl, rfl⟩ := q1
  refine aw_istore_n C dX1_fillTable_4 rfl rfl ?_
  refine aw_iconst C dX1_fillTable_5 ?_
  refine aw_istore_n C dX1_fillTable_6 rfl rfl ?_
  exact lp 6 0 (by omega) (by omega)
def zT : Int → Int := fun _ => 0
/-- the fewest changes of the plan, from its start -/
def fwP (P : St) (c : Int) : Int := mC (P.2 5) (wtP P) (rmT (P.2 5) zT).toNat zT c
/-- .. with the head of the lane i first -/
def fiP (P : St) (i c : Int) : Int := chg c (wtP P i 0) + mC (P.2 5) (wtP P) (rmT (P.2 5) (upT zT i)).toNat (upT zT i) (wtP P i 0)
def blP (P : St) (c : Int) : Int := fstB (fun i => decide (0 < P.2 5 i ∧ fiP P i c = fwP P c)) 5
theorem vT_z {P : St} (hP : PV P) : vT (P.2 5) zT := fun i h0 h5 => ⟨Int.le_refl 0, (hP.1 i h0 h5).1⟩
theorem fwP_b {P : St} (hP : PV P) (c : Int) : 0 ≤ fwP P c ∧ fwP P c ≤ 12 := mC_12 hP.2.1 (vT_z hP) c
theorem fiP_b {P : St} (hP : PV P) {i : Int} (h : 0 < P.2 5 i) (c : Int) : 0 ≤ fiP P i c ∧ fiP P i c ≤ 13 := by
  have h1 := mC_12 (wt := wtP P) hP.2.1 (vT_up (i := i) (vT_z hP) h) (wtP P i 0)
  have h2 := chg_b c (wtP P i 0)
  unfold fiP
  omega

set_option maxHeartbeats 4000000 in
set_option maxRecDepth 100000 in
theorem c_X1_fewest {l : Launch} {G : va_G × (Nat → ClassId)} {ad : Nat → Nat} {S P : St} (hP : PV P) {c9 : Int} (hc9 : -1 ≤ c9 ∧ c9 ≤ 4) : Mi l G yX1_fewest wsX1_fewest ({ frames := 3, cells := 0, slots := 0, locals := 72 } : Room) [.ref (ad 16), .int (zI c9)] (WX G.2 ad S P) (fun r u => r = fwP P c9 ∧ ∃ P9 : St, u = WX G.2 ad S P9 ∧ TF P P9) := by
  refine Mi.of (own := RX1) (cc := cX1_fewest) (maxL := 2) (ret := (some .int)) (by decide) rfl rfl rfl ?_
  intro p e s m args below meth c A C hN
  have hts := C.2.2.2.2.1
  refine aw_aload_n C dX1_fewest_0 rfl ?_
  refine cV0v (ci := 1) (q0 := 16) C hN (c_X1_fillTable hP) (cwV 0 hts gX1_fewest_X1_fillTable rfl rfl rfl (by decide +kernel) ⟨Nat.le_of_ble_eq_true rfl, Nat.le_of_ble_eq_true rfl⟩) rfl rfl rfl rfl dX1_fewest_1 ⟨Nat.zero_le _, Nat.zero_le _⟩ (fun u1 q1 => ?_)
  obtain ⟨P9, rfl, hF⟩ := q1
  obtain ⟨k8, b, k9, kf⟩ := TE_ffv hP.2.1 (vT_z hP) (hF.2.2 zT (vT_z hP))
  rw [show vlN (P.2 5) zT 5 = 0 from vlN_zero 5] at k8 k9 kf
  refine aw_aload_n C dX1_fewest_4 rfl ?_
  refine aw_iconst C dX1_fewest_5 ?_
  refine aw_iload_n C dX1_fewest_6 rfl ?_
  refine cV2i (ci := 1) (q0 := 16) C hN (c_X1_fewestFrom (by omega) hc9 k8 k9) (cwV 2 hts gX1_fewest_X1_fewestFrom rfl rfl rfl (by decide +kernel) ⟨Nat.le_of_ble_eq_true rfl, Nat.le_of_ble_eq_true rfl⟩) rfl rfl rfl rfl dX1_fewest_7 ⟨Nat.zero_le _, Nat.zero_le _⟩ (fun r7 u7 q7 => ?_)
  obtain ⟨rfl, rfl⟩ := q7
  exact aw_iret C dX1_fewest_10 ⟨kf c9 (by omega) (by omega), P9, rfl, hF⟩
set_option maxHeartbeats 4000000 in
set_option maxRecDepth 100000 in
theorem c_X1_fewestWith {l : Launch} {G : va_G × (Nat → ClassId)} {ad : Nat → Nat} {S P P9 : St} (hP : PV P) (hF : TF P P9) {i c9 : Int} (h0 : 0 ≤ i) (h5 : i < 5) (hs : 0 < P.2 5 i) (hc9 : -1 ≤ c9 ∧ c9 ≤ 4) : Mi l G yX1_fewestWith wsX1_fewestWith ({ frames := 1, cells := 0, slots := 0, locals := 24 } : Room) [.ref (ad 16), .int (zI i), .int (zI c9)] (WX G.2 ad S P9) (fun r u => r = fiP P i c9 ∧ u = WX G.2 ad S P9) := by
  refine Mi.of (own := RX1) (cc := cX1_fewestWith) (maxL := 4) (ret := (some .int)) (by decide) rfl rfl rfl ?_
  intro p e s m args below meth c A C hN
  have hts := C.2.2.2.2.1
  have iFX1 : ∀ w ∈ u_ws RX1 TX1 6, w ∈ wsX1_fewestWith := by decide +kernel
  have k_11 := hts (.fieldLink RX1 11 "PaintSequencer$Plan" "waiting" "[[I") (by decide +kernel)
  have k_23 := hts (.fieldLink RX1 23 "PaintSequencer$Plan" "strides" "[I") (by decide +kernel)
  have hv2 := vT_up (i := i) (vT_z hP) hs
  obtain ⟨k8, b, k9, kf⟩ := TE_ffv hP.2.1 hv2 (hF.2.2 _ hv2)
  have e1 := vlN_up (sz := P.2 5) (t := zT) (i := i) 5 h0
  rw [if_pos (by omega), show vlN (P.2 5) zT 5 = 0 from vlN_zero 5, Int.zero_add, ← hF.2.1 i h0 h5] at e1
  have hb2 := vlN_b (fun i h0 h5 => (hP.1 i h0 h5).1) hv2 5 (by omega)
  have h432 := stN_432 hP.1 hP.2.1
  rw [e1] at k8 k9 kf hb2
  have hc := hP.2.2 i 0 h0 h5 (by omega) hs
  have ew : P9.2 i.toNat 0 = wtP P i 0 := by rw [wtP_at h5, hF.1 i.toNat (by omega)]
  rw [← wtP_at (P := P) h5] at hc
  refine aw_aload_n C dX1_fewestWith_0 rfl ?_
  refine aw_get (q0 := 16) (k := 0) C iFX1 k_11 rfl rfl rfl rfl dX1_fewestWith_1 ?_
  refine aw_iload_n C dX1_fewestWith_4 rfl ?_
  refine aw_aldA (q0 := 17) C rfl (by omega) (by omega) rfl rfl dX1_fewestWith_5 ?_
  refine aw_iconst C dX1_fewestWith_6 ?_
  refine aw_ldI  C (wx_wrow (by omega) (by omega)) (by omega) (by omega) rfl dX1_fewestWith_7 ?_
  rw [ew]
  refine aw_istore_n C dX1_fewestWith_8 rfl rfl ?_
  refine aw_iload_n C dX1_fewestWith_9 rfl ?_
  refine aw_iload_n C dX1_fewestWith_10 rfl ?_
  refine cN2i C hN (c_X2_changeBetween (by omega) (by omega)) ⟨va_cnB 2 hts gX1_fewestWith_X2_changeBetween_n46 rfl rfl rfl hN (hts (.initialized RX2) (by decide +kernel)) (by decide +kernel) ⟨Nat.le_of_ble_eq_true rfl, Nat.le_of_ble_eq_true rfl⟩, hts (.static yX2_changeBetween) (by decide +kernel), trivial⟩ rfl dX1_fewestWith_11 ⟨Nat.zero_le _, Nat.zero_le _⟩ (fun r11 u11 q11 => ?_)
  obtain ⟨rfl, rfl⟩ := q11
  refine aw_aload_n C dX1_fewestWith_14 rfl ?_
  refine aw_aload_n C dX1_fewestWith_15 rfl ?_
  refine aw_get (q0 := 16) (k := 3) C iFX1 k_23 rfl rfl rfl rfl dX1_fewestWith_16 ?_
  refine aw_iload_n C dX1_fewestWith_19 rfl ?_
  refine aw_ldI (q0 := 25) C rfl (by omega) (by omega) rfl dX1_fewestWith_20 ?_
  refine aw_iload_n C dX1_fewestWith_21 rfl ?_
  refine cV2i (ci := 1) (q0 := 16) C hN (c_X1_fewestFrom (by omega) (by omega) k8 k9) (cwV 2 hts gX1_fewestWith_X1_fewestFrom rfl rfl rfl (by decide +kernel) ⟨Nat.le_of_ble_eq_true rfl, Nat.le_of_ble_eq_true rfl⟩) rfl rfl rfl rfl dX1_fewestWith_22 ⟨Nat.zero_le _, Nat.zero_le _⟩ (fun r22 u22 q22 => ?_)
  obtain ⟨rfl, rfl⟩ := q22
  refine aw_iadd C dX1_fewestWith_25 ?_
  exact aw_iret C dX1_fewestWith_26 ⟨by unfold fiP; rw [kf _ (by omega) (by omega)], rfl⟩
set_option maxHeartbeats 4000000 in
set_option maxRecDepth 100000 in
theorem c_X1_bestLane {l : Launch} {G : va_G × (Nat → ClassId)} {ad : Nat → Nat} {S P : St} (hP : PV P) {c9 : Int} (hc9 : -1 ≤ c9 ∧ c9 ≤ 4) : Mi l G yX1_bestLane wsX1_bestLane ({ frames := 4, cells := 0, slots := 0, locals := 93 } : Room) [.ref (ad 16), .int (zI c9)] (WX G.2 ad S P) (fun r u => r = blP P c9 ∧ ∃ P9 : St, u = WX G.2 ad S P9 ∧ TF P P9) := by
  refine Mi.of (own := RX1) (cc := cX1_bestLane) (maxL := 4) (ret := (some .int)) (by decide) rfl rfl rfl ?_
  intro p e s m args below meth c A C hN
  have hts := C.2.2.2.2.1
  have iFX1 : ∀ w ∈ u_ws RX1 TX1 6, w ∈ wsX1_bestLane := by decide +kernel
  have k_16 := hts (.fieldLink RX1 16 "PaintSequencer$Plan" "sizes" "[I") (by decide +kernel)
  have hfw := fwP_b hP c9
  have lp : ∀ (n : Nat) (k : Nat) (P9 : St), (k : Int) ≤ 5 → 5 - (k : Int) < n → TF P P9 → fstB (fun i => decide (0 < P.2 5 i ∧ fiP P i c9 = fwP P c9)) k = -1 → AW p l e (headSpec wsX1_bestLane ({ frames := 4, cells := 0, slots := 0, locals := 93 } : Room)).room s m args below meth c 4 G A s.heap 0 0 (MQ below (QPi G (fun r u => r = blP P c9 ∧ ∃ P9 : St, u = WX G.2 ad S P9 ∧ TF P P9) A) args s 0 0 A) (WX G.2 ad S P9) [(0, .ref (ad 16)), (1, .int (zI c9)), (2, .int (zI (fwP P c9))), (3, .int (zI k))] 8 [] := by
    intro n
    induction n with
    | zero =>
      intro k P9 h1 h2 hF h3
      exfalso
      omega
    | succ n ih =>
      intro k P9 h1 h2 hF h3
      refine aw_iload_n C dX1_bestLane_8 rfl ?_
      refine aw_iconst C dX1_bestLane_9 ?_
      refine aw_icmp_ge (tgt := 40) C dX1_bestLane_10 (by decide) (by omega) (by omega) (fun c10 => ?_) (fun c10 => ?_)
      · have e5 : k = 5 := by omega
        subst e5
        refine aw_iconst C dX1_bestLane_40 ?_
        exact aw_iret C dX1_bestLane_41 ⟨h3.symm, P9, rfl, hF⟩
      · have e5 : P9.2 5 k = P.2 5 k := by rw [hF.1 5 (by omega)]
        have h4 := hP.1 k (by omega) (by omega)
        refine aw_aload_n C dX1_bestLane_13 rfl ?_
        refine aw_get (q0 := 16) (k := 1) C iFX1 k_16 rfl rfl rfl rfl dX1_bestLane_14 ?_
        refine aw_iload_n C dX1_bestLane_17 rfl ?_
        refine aw_ldI (q0 := 23) C rfl (by omega) (by omega) rfl dX1_bestLane_18 ?_
        refine aw_if_le (tgt := 34) C dX1_bestLane_19 (by decide) (by omega) (fun c19 => ?_) (fun c19 => ?_)
        · refine aw_iinc C dX1_bestLane_34 rfl rfl rfl ?_
          refine aw_goto (tgt := 8) C dX1_bestLane_37 (by decide) ?_
          refine ih (k + 1) P9 (by omega) (by omega) hF (fstB_no h3 (decide_eq_false ?_))
          rintro ⟨g1, g2⟩
          first
          | exact c29 g2
          | (rw [e5] at c19; omega)
        · have h6 : 0 < P.2 5 k := by omega
          have h7 := fiP_b hP h6 c9
          refine aw_aload_n C dX1_bestLane_22 rfl ?_
          refine aw_iload_n C dX1_bestLane_23 rfl ?_
          refine aw_iload_n C dX1_bestLane_24 rfl ?_
          refine cV2i (ci := 1) (q0 := 16) C hN (c_X1_fewestWith hP hF (by omega) (by omega) h6 hc9) (cwV 2 hts gX1_bestLane_X1_fewestWith rfl rfl rfl (by decide +kernel) ⟨Nat.le_of_ble_eq_true rfl, Nat.le_of_ble_eq_true rfl⟩) rfl rfl rfl rfl dX1_bestLane_25 ⟨Nat.zero_le _, Nat.zero_le _⟩ (fun r25 u25 q25 => ?_)
          obtain ⟨rfl, rfl⟩ := q25
          refine aw_iload_n C dX1_bestLane_28 rfl ?_
          refine aw_icmp_ne (tgt := 34) C dX1_bestLane_29 (by decide) (by omega) (by omega) (fun c29 => ?_) (fun c29 => ?_)
          · refine aw_iinc C dX1_bestLane_34 rfl rfl rfl ?_
            refine aw_goto (tgt := 8) C dX1_bestLane_37 (by decide) ?_
            refine ih (k + 1) P9 (by omega) (by omega) hF (fstB_no h3 (decide_eq_false ?_))
            rintro ⟨g1, g2⟩
            first
            | exact c29 g2
            | (rw [e5] at c19; omega)
          · refine aw_iload_n C dX1_bestLane_32 rfl ?_
            exact aw_iret C dX1_bestLane_33 ⟨(fstB_at h3 (decide_eq_true ⟨h6, c29⟩) (by omega)).symm, P9, rfl, hF⟩
  refine aw_aload_n C dX1_bestLane_0 rfl ?_
  refine aw_iload_n C dX1_bestLane_1 rfl ?_
  refine cV1i (ci := 1) (q0 := 16) C hN (c_X1_fewest hP hc9) (cwV 1 hts gX1_bestLane_X1_fewest rfl rfl rfl (by decide +kernel) ⟨Nat.le_of_ble_eq_true rfl, Nat.le_of_ble_eq_true rfl⟩) rfl rfl rfl rfl dX1_bestLane_2 ⟨Nat.zero_le _, Nat.zero_le _⟩ (fun r2 u2 q2 => ?_)
  obtain ⟨rfl, P9, rfl, hF⟩ := q2
  refine aw_istore_n C dX1_bestLane_5 rfl rfl ?_
  refine aw_iconst C dX1_bestLane_6 ?_
  refine aw_istore_n C dX1_bestLane_7 rfl rfl ?_
  exact lp 6 0 P9 (by omega) (by omega) hF rfl

