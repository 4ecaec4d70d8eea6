/-! swap, skip -/
theorem swN_end {a b n : Int} {w : WO} : ∀ (d : Nat) {i : Int} {v : WO} {c : Int}, w.2 ≤ i → swN a b n w d i v c = v
  | 0, _, _, _, _ => rfl
  | d + 1, i, v, c, h => by
    show (if i < w.2 then _ else v) = v
    rw [if_neg (by omega)]
theorem swN_no {a b n : Int} {w : WO} {d : Nat} {i : Int} {v : WO} {c : Int} (h : i < w.2) (hn : ¬ (i + 1 < w.2 ∧ w.1 i = a ∧ w.1 (i + 1) = b)) : swN a b n w (d + 1) i v c = swN a b n w d (i + 1) (ap v (w.1 i)) c := by
  show (if i < w.2 then (if i + 1 < w.2 ∧ w.1 i = a ∧ w.1 (i + 1) = b then _ else swN a b n w d (i + 1) (ap v (w.1 i)) c) else v) = _
  rw [if_pos h, if_neg hn]
theorem swN_yes {a b n : Int} {w : WO} {d : Nat} {i : Int} {v : WO} {c : Int} (h : i < w.2) (hn : i + 1 < w.2 ∧ w.1 i = a ∧ w.1 (i + 1) = b) : swN a b n w (d + 1) i v c = if (c + 1) % n = 0 then swN a b n w d (i + 2) (ap (ap v b) a) (c + 1) else swN a b n w d (i + 2) (ap (ap v a) b) (c + 1) := by
  show (if i < w.2 then (if i + 1 < w.2 ∧ w.1 i = a ∧ w.1 (i + 1) = b then (if (c + 1) % n = 0 then swN a b n w d (i + 2) (ap (ap v b) a) (c + 1) else swN a b n w d (i + 2) (ap (ap v a) b) (c + 1)) else swN a b n w d (i + 1) (ap v (w.1 i)) c) else v) = _
  rw [if_pos h, if_pos hn]
theorem ap_at {v : WO} {i x : Int} (h : v.2 = i) : (ap v x).1 i = x := by
  show upI v.1 v.2 x i = x
  rw [h, upI_s]
theorem ap_ne {v : WO} {i k x : Int} (h : v.2 = i) (hk : ¬ k = i) : (ap v x).1 k = v.1 k := by
  show upI v.1 v.2 x k = v.1 k
  rw [h, upI_n _ _ hk]
theorem ap_l {v : WO} {i x : Int} (h : v.2 = i) : (ap v x).2 = i + 1 := by show v.2 + 1 = i + 1; rw [h]
theorem s_X5_swap : H_X5_swap pHb (fun σ a b n _ σ' => oHb 4 σ a b n σ') := fun l L c σ a b n hp => m_X5_swap (fun K _ C => b_X5_swap_0 C (by
  obtain ⟨ho, ha, hbb, hn⟩ := hp
  have hl := ho.1
  have hlr : (nrm (frM σ)).2 = (frM σ).2 := rfl
  have key : ∀ (d : Nat) (i : Int) (v : WO) (s : Int) (τ : MS), 0 ≤ i → i ≤ (frM σ).2 → (frM σ).2 - i ≤ d → Sn σ τ → τ 14 0 = (frM σ).2 → 0 ≤ s → s ≤ i → v.2 = i → (∀ k, 0 ≤ k → k < i → τ 13 k = v.1 k) → (∀ k, i ≤ k → k < (frM σ).2 → τ 13 k = (frM σ).1 k) → swN a b n (nrm (frM σ)) d i v s = hb 4 a b n (frM σ) → P_X5_swap_1 K L c τ a b n s i := by
    intro d
    induction d with
    | zero =>
      intro i v s τ h0 h1 hd i1 i2 hs0 hs1 iv i4 i5 hf
      refine b_X5_swap_1 C ⟨by omega, by omega, fun hc => ⟨i1, ?_⟩, fun hc => by omega⟩
      rw [← hf, swN_end 0 (by omega)]
      exact ⟨by show τ 14 0 = v.2; omega, fun k x y => i4 k x (by have y' : k < τ 14 0 := y; omega)⟩
    | succ d ih =>
      intro i v s τ h0 h1 hd i1 i2 hs0 hs1 iv i4 i5 hf
      have hmod := Int.emod_nonneg (s + 1) (show n ≠ 0 by omega)
      have hmod2 := Int.emod_lt_of_pos (s + 1) (show 0 < n by omega)
      refine b_X5_swap_1 C ⟨by omega, by omega, fun hc => ⟨i1, ?_⟩, fun hc => ?_⟩
      · rw [← hf]
        by_cases hi : i < (frM σ).2
        · rw [swN_no (show i < (nrm (frM σ)).2 from hi) (fun q => by have := q.1; omega), swN_end d (by omega), nrm_at h0 hi]
          refine ⟨by rw [ap_l iv]; show τ 14 0 = i + 1; omega, fun k x y => ?_⟩
          have y' : k < τ 14 0 := y
          by_cases hk : k = i
          · rw [hk, ap_at iv]; exact i5 i (Int.le_refl _) hi
          · rw [ap_ne iv hk]; exact i4 k x (by omega)
        · rw [swN_end _ (by omega)]
          exact ⟨by show τ 14 0 = v.2; omega, fun k x y => i4 k x (by have y' : k < τ 14 0 := y; omega)⟩
      · have hi : i < (frM σ).2 := by omega
        have hi1 : i + 1 < (frM σ).2 := by omega
        have hx := i5 i (Int.le_refl _) hi
        have hy := i5 (i + 1) (by omega) hi1
        have hxl := ho.2 i h0 hi
        have hyl := ho.2 (i + 1) (by omega) hi1
        rw [← hx] at hxl
        rw [← hy] at hyl
        have wx : (nrm (frM σ)).1 i = τ 13 i := by rw [nrm_at h0 hi, hx]
        have wy : (nrm (frM σ)).1 (i + 1) = τ 13 (i + 1) := by rw [nrm_at (by omega) hi1, hy]
        have one : ¬ (τ 13 i = a ∧ τ 13 (i + 1) = b) → P_X5_swap_1 K L c τ a b n s (i + 1) := fun hq => by
          rw [swN_no (show i < (nrm (frM σ)).2 from hi) (fun q => hq ⟨wx ▸ q.2.1, wy ▸ q.2.2⟩), wx] at hf
          refine ih (i + 1) _ s τ (by omega) (by omega) (by omega) i1 i2 hs0 (by omega) (ap_l iv) (fun k x y => ?_) (fun k x y => i5 k (by omega) y) hf
          by_cases hk : k = i
          · rw [hk, ap_at iv]
          · rw [ap_ne iv hk]; exact i4 k x (by omega)
        refine ⟨by omega, by omega, by omega, fun hc2 => one (fun q => hc2 q.1), fun hc2 => ⟨by omega, by omega, by omega, fun hc3 => ?_, fun hc3 => one (fun q => hc3 q.2)⟩⟩
        rw [swN_yes (show i < (nrm (frM σ)).2 from hi) ⟨hi1, wx.trans hc2, wy.trans hc3⟩] at hf
        have two : ∀ (x z : Int) (τ' : MS), Sn σ τ' → τ' 14 0 = (frM σ).2 → τ' 13 i = x → τ' 13 (i + 1) = z → (∀ k, ¬ k = i → ¬ k = i + 1 → τ' 13 k = τ 13 k) → swN a b n (nrm (frM σ)) d (i + 2) (ap (ap v x) z) (s + 1) = hb 4 a b n (frM σ) → P_X5_swap_1 K L c τ' a b n (s + 1) (i + 2) := fun x z τ' j1 j2 j3 j4 j5 j6 => by
          refine ih (i + 2) _ (s + 1) τ' (by omega) (by omega) (by omega) j1 j2 (by omega) (by omega) (by rw [ap_l (ap_l iv)]; omega) (fun k p q => ?_) (fun k p q => by rw [j5 k (by omega) (by omega)]; exact i5 k (by omega) q) j6
          by_cases hk1 : k = i + 1
          · rw [hk1, ap_at (ap_l iv), j4]
          · rw [ap_ne (ap_l iv) hk1]
            by_cases hk : k = i
            · rw [hk, ap_at iv, j3]
            · rw [ap_ne iv hk, j5 k hk hk1]; exact i4 k p (by omega)
        refine ⟨by omega, by omega, fun hc4 => ?_, fun hc4 => ?_⟩
        · rw [if_neg hc4] at hf
          exact two a b τ i1 i2 hc2 hc3 (fun _ _ _ => rfl) hf
        · rw [if_pos hc4] at hf
          exact two b a _ (i1.up 13 _ (by decide)) i2 (by show upI (upI (τ 13) i b) (i + 1) a i = b; rw [upI_n _ _ (by omega), upI_s]) (upI_s _ _ _) (fun k h3 h4 => by show upI (upI (τ 13) i b) (i + 1) a k = τ 13 k; rw [upI_n _ _ h4, upI_n _ _ h3]) hf
  exact key (frM σ).2.toNat 0 (fun _ => 0, 0) 0 σ (Int.le_refl _) hl.1 (by omega) Sn.rfl rfl (Int.le_refl _) (Int.le_refl _) rfl (fun k x y => by omega) (fun k x y => rfl) rfl))
theorem skN_no {a n : Int} {w : WO} {d : Nat} {i : Int} (h : i < w.2) (hn : ¬ (w.1 i = a ∧ nx a w (i + 1) < w.2 ∧ nx a w (i + 1) ≤ i + n)) : skN a n w (d + 1) i = skN a n w d (i + 1) := by
  show (if i < w.2 then (if w.1 i = a ∧ nx a w (i + 1) < w.2 ∧ nx a w (i + 1) ≤ i + n then rmW w i (nx a w (i + 1)) else skN a n w d (i + 1)) else w) = _
  rw [if_pos h, if_neg hn]
theorem skN_yes {a n : Int} {w : WO} {d : Nat} {i : Int} (h : i < w.2) (hn : w.1 i = a ∧ nx a w (i + 1) < w.2 ∧ nx a w (i + 1) ≤ i + n) : skN a n w (d + 1) i = rmW w i (nx a w (i + 1)) := by
  show (if i < w.2 then (if w.1 i = a ∧ nx a w (i + 1) < w.2 ∧ nx a w (i + 1) ≤ i + n then rmW w i (nx a w (i + 1)) else skN a n w d (i + 1)) else w) = _
  rw [if_pos h, if_pos hn]
theorem skN_end {a n : Int} {w : WO} : ∀ (d : Nat) {i : Int}, w.2 ≤ i → skN a n w d i = w
  | 0, _, _ => rfl
  | d + 1, i, h => by
    show (if i < w.2 then _ else w) = w
    rw [if_neg (by omega)]
theorem s_X5_skip : H_X5_skip pHb3 (fun σ a n _ σ' => oHb 3 σ a 97 n σ') := fun l L c σ a n hp => m_X5_skip (fun K _ C => b_X5_skip_0 C (by
  obtain ⟨ho, ha, hn⟩ := hp
  have hl := ho.1
  have hlr : (nrm (frM σ)).2 = (frM σ).2 := rfl
  have hnw : ∀ k, 0 ≤ k → k < (frM σ).2 → (nrm (frM σ)).1 k = σ 13 k := fun k x y => nrm_at x y
  have shift : ∀ i j, 0 ≤ i → i < j → j < (frM σ).2 → rmW (nrm (frM σ)) i j = hb 3 a 97 n (frM σ) → ∀ q, j + 1 ≤ q → q ≤ (frM σ).2 → ∀ τ : MS, Sn σ τ → τ 14 0 = (frM σ).2 → (∀ k, 0 ≤ k → k < i + q - j → τ 13 k = (rmW (nrm (frM σ)) i j).1 k) → (∀ k, q ≤ k → k < (frM σ).2 → τ 13 k = σ 13 k) → P_X5_skip_4 K L c τ i j q := by
    intro i j h0 hij hj hf q hq0 hq1
    refine loop_up (P := fun q => ∀ τ : MS, Sn σ τ → τ 14 0 = (frM σ).2 → (∀ k, 0 ≤ k → k < i + q - j → τ 13 k = (rmW (nrm (frM σ)) i j).1 k) → (∀ k, q ≤ k → k < (frM σ).2 → τ 13 k = σ 13 k) → P_X5_skip_4 K L c τ i j q) (j + 1) (frM σ).2 (fun q h2 h3 ih τ i1 i2 i3 i4 => ?_) q hq0 hq1
    refine b_X5_skip_4 C ⟨by omega, by omega, fun hc => ⟨i1.up 14 _ (by decide), ?_⟩, fun hc => ⟨by omega, by omega, ?_⟩⟩
    · rw [← hf]
      refine ⟨by show τ 14 0 - (j - i) = (frM σ).2 - (j - i); rw [i2], fun k x y => ?_⟩
      have y' : k < τ 14 0 - (j - i) := y
      exact i3 k x (by omega)
    · refine ih (by omega) _ (i1.up 13 _ (by decide)) i2 (fun k x y => ?_) (fun k x y => ?_)
      · show upI (τ 13) (i + q - j) (τ 13 q) k = _
        by_cases hk : k = i + q - j
        · rw [hk, upI_s, i4 q (Int.le_refl _) (by omega)]
          show _ = if i + q - j ≤ i then (nrm (frM σ)).1 (i + q - j) else (nrm (frM σ)).1 (i + q - j + (j - i))
          rw [if_neg (by omega), show i + q - j + (j - i) = q from by omega, hnw q (by omega) (by omega)]
        · rw [upI_n _ _ hk]
          exact i3 k x (by omega)
      · show upI (τ 13) (i + q - j) (τ 13 q) k = _
        rw [upI_n _ _ (by omega)]
        exact i4 k (by omega) y
  have key : ∀ (d : Nat) (i : Int) (τ : MS), 0 ≤ i → i ≤ (frM σ).2 → (frM σ).2 - i ≤ d → Sn σ τ → τ 14 0 = (frM σ).2 → τ 13 = σ 13 → skN a n (nrm (frM σ)) d i = hb 3 a 97 n (frM σ) → P_X5_skip_1 K L c τ a n i := by
    intro d
    induction d with
    | zero =>
      intro i τ h0 h1 hd i1 i2 i3 hf
      refine b_X5_skip_1 C ⟨by omega, by omega, fun hc => ⟨i1, ?_⟩, fun hc => by omega⟩
      rw [← hf, skN_end 0 (by omega)]
      exact ⟨i2, fun k x y => by have y' : k < τ 14 0 := y; show τ 13 k = _; rw [hnw k x (by omega), i3]⟩
    | succ d ih =>
      intro i τ h0 h1 hd i1 i2 i3 hf
      refine b_X5_skip_1 C ⟨by omega, by omega, fun hc => ⟨i1, ?_⟩, fun hc => ?_⟩
      · rw [← hf, skN_end _ (by omega)]
        exact ⟨i2, fun k x y => by have y' : k < τ 14 0 := y; show τ 13 k = _; rw [hnw k x (by omega), i3]⟩
      · have hi : i < (frM σ).2 := by omega
        have hxl : 97 ≤ τ 13 i ∧ τ 13 i ≤ 122 := by rw [i3]; exact ho.2 i h0 hi
        have nin := nx_in a (nrm (frM σ)) (i + 1) (by omega)
        have p3 : P_X5_skip_3 K L c τ a n i (nx a (nrm (frM σ)) (i + 1)) := by
          have no : ¬ (τ 13 i = a ∧ nx a (nrm (frM σ)) (i + 1) < (frM σ).2 ∧ nx a (nrm (frM σ)) (i + 1) ≤ i + n) → P_X5_skip_1 K L c τ a n (i + 1) := fun hq => by
            rw [skN_no (show i < (nrm (frM σ)).2 from hi) (fun q => hq ⟨by rw [i3, ← hnw i h0 hi]; exact q.1, q.2⟩)] at hf
            exact ih (i + 1) τ (by omega) (by omega) (by omega) i1 i2 i3 hf
          refine b_X5_skip_3 C ⟨by omega, by omega, by omega, fun hc2 => no (fun q => hc2 q.1), fun hc2 => ⟨by omega, by omega, fun hc3 => no (fun q => by have := q.2.1; omega), fun hc3 => ⟨by omega, fun hc4 => ?_, fun hc4 => no (fun q => hc4 q.2.2)⟩⟩⟩
          rw [skN_yes (show i < (nrm (frM σ)).2 from hi) ⟨by rw [hnw i h0 hi, ← i3]; exact hc2, by omega, hc4⟩] at hf
          refine shift i _ h0 (by omega) (by omega) hf _ (Int.le_refl _) (by omega) τ i1 i2 (fun k x y => ?_) (fun k x y => by rw [i3])
          show τ 13 k = if k ≤ i then (nrm (frM σ)).1 k else (nrm (frM σ)).1 (k + (nx a (nrm (frM σ)) (i + 1) - i))
          rw [if_pos (by omega), hnw k x (by omega), i3]
        refine loop_up (P := fun j => (∀ k, i + 1 ≤ k → k < j → ¬ σ 13 k = a) → nx a (nrm (frM σ)) (i + 1) = nx a (nrm (frM σ)) j → P_X5_skip_2 K L c τ a n i j) (i + 1) (frM σ).2 (fun j h2 h3 jh hno he => ?_) (i + 1) (Int.le_refl _) (by omega) (fun k x y => by omega) rfl
        refine b_X5_skip_2 C ⟨by omega, by omega, fun hc2 => ?_, fun hc2 => ?_⟩
        · rw [nx_end a _ (show (nrm (frM σ)).2 ≤ j by omega)] at he
          rw [← he]; exact p3
        · have hj : j < (frM σ).2 := by omega
          have hyl : 97 ≤ τ 13 j ∧ τ 13 j ≤ 122 := by rw [i3]; exact ho.2 j (by omega) hj
          refine ⟨by omega, by omega, by omega, fun hc3 => ?_, fun hc3 => ?_⟩
          · rw [nx_yes (j := j) a _ (by rw [hnw j (by omega) hj, ← i3]; exact hc3)] at he
            rw [← he]; exact p3
          · rw [nx_no a _ (show j < (nrm (frM σ)).2 from hj) (by rw [hnw j (by omega) hj, ← i3]; exact hc3)] at he
            refine jh hj (fun k x y => ?_) he
            by_cases hk : k = j
            · rw [hk, ← i3]; exact hc3
            · exact hno k x (by omega)
  exact key (frM σ).2.toNat 0 σ (Int.le_refl _) hl.1 (by omega) Sn.rfl rfl rfl rfl))
