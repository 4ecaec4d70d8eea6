/-! drop, double -/
theorem tF_b {kind a b b' n : Int} {w : WO} (h : ¬ kind = 0) : tF kind a b n w = tF kind a b' n w := by
  funext s i
  unfold tF
  rw [if_neg h, if_neg h]
theorem hb_b {kind a b b' n : Int} {w : WO} (h : ¬ kind = 0) (h4 : ¬ kind = 4) : hb kind a b n w = hb kind a b' n w := by
  unfold hb hb0
  rw [if_neg h4, if_neg h4]
  unfold tI
  rw [tF_b h]
def pHb3 (σ : MS) (a n : Int) : Prop := okW (frM σ) ∧ (97 ≤ a ∧ a ≤ 122) ∧ (1 ≤ n ∧ n ≤ 9)
theorem s_X5_drop : H_X5_drop pHb3 (fun σ a n _ σ' => oHb 1 σ a 97 n σ') := fun l L c σ a n hp => m_X5_drop (fun K _ C => b_X5_drop_0 C (by
  obtain ⟨ho, ha, hn⟩ := hp
  have hon := okW_n ho
  have hl := ho.1
  have key : ∀ i, 0 ≤ i → i ≤ (frM σ).2 → ∀ (τ : MS) (s m : Int), (Sn σ τ ∧ τ 14 0 = (frM σ).2 ∧ τ 13 = (frM σ).1 ∧ s = (tI 1 a 97 n (nrm (frM σ)) i).2 ∧ eqW (τ 15, m) (tI 1 a 97 n (nrm (frM σ)) i).1) → P_X5_drop_1 K L c τ a n s m i := by
    intro i h0 h1
    refine loop_up (P := fun i => ∀ (τ : MS) (s m : Int), (Sn σ τ ∧ τ 14 0 = (frM σ).2 ∧ τ 13 = (frM σ).1 ∧ s = (tI 1 a 97 n (nrm (frM σ)) i).2 ∧ eqW (τ 15, m) (tI 1 a 97 n (nrm (frM σ)) i).1) → P_X5_drop_1 K L c τ a n s m i) 0 (frM σ).2 (fun i h0 h1 ih τ s m hI => ?_) i h0 h1
    obtain ⟨i1, i2, i3, i4, i5⟩ := hI
    have hk := tI_ok (kind := 1) (n := n) hon ha (show (97 : Int) ≤ 97 ∧ (97 : Int) ≤ 122 by decide) i h0 h1
    have hs : 0 ≤ s ∧ s ≤ 120 := by rw [i4]; omega
    have em : m = (tI 1 a 97 n (nrm (frM σ)) i).1.2 := i5.1
    have hm : 0 ≤ m ∧ m ≤ i := by have := hk.1.1; have := hk.2.2.2.2 (Or.inr rfl); omega
    refine b_X5_drop_1 C s_X5_become ⟨by omega, by omega, fun hc => ⟨by omega, (i1.trans (become_s τ m)), ?_⟩, fun hc => ?_⟩
    · have hi : i = (frM σ).2 := by omega
      subst hi
      exact (become_w τ m).trans i5
    · have hxl := ho.2 i h0 (by omega)
      have hw : (nrm (frM σ)).1 i = τ 13 i := by rw [nrm_at h0 (by omega), i3]
      rw [← i3] at hxl
      have es := tI_s 1 a 97 n (nrm (frM σ)) h0
      unfold tF at es
      rw [hw, ← i4] at es
      have hmod := Int.emod_nonneg (s + 1) (show n ≠ 0 by omega)
      have hmod2 := Int.emod_lt_of_pos (s + 1) (show 0 < n by omega)
      refine ⟨by omega, by omega, by omega, fun hc2 => ⟨by omega, ?_⟩, fun hc2 => ?_⟩
      · rw [if_neg hc2] at es ⊢
        refine ih (by omega) _ _ _ ⟨i1.up 15 _ (by decide), i2, i3, by rw [es]; show s + 0 = s; omega, ?_⟩
        rw [es]
        exact i5.ap _
      · rw [if_pos hc2] at es ⊢
        refine ⟨by omega, by omega, fun hc3 => ⟨by omega, ?_⟩, fun hc3 => ?_⟩
        · rw [if_neg hc3] at es
          refine ih (by omega) _ _ _ ⟨i1.up 15 _ (by decide), i2, i3, by rw [es], ?_⟩
          rw [es]
          exact i5.ap _
        · rw [if_pos hc3, if_neg (by decide), if_pos rfl] at es
          refine ih (by omega) _ _ _ ⟨i1, i2, i3, by rw [es], ?_⟩
          rw [es]
          exact i5
  exact key 0 (Int.le_refl _) hl.1 σ 0 0 ⟨Sn.rfl, rfl, rfl, by rw [tI_0], by rw [tI_0]; exact ⟨rfl, fun k x y => absurd (show k < 0 from y) (by omega)⟩⟩))
theorem s_X5_twice : H_X5_twice pHb3 (fun σ a n _ σ' => oHb 2 σ a 97 n σ') := fun l L c σ a n hp => m_X5_twice (fun K _ C => b_X5_twice_0 C (by
  obtain ⟨ho, ha, hn⟩ := hp
  have hon := okW_n ho
  have hl := ho.1
  have key : ∀ i, 0 ≤ i → i ≤ (frM σ).2 → ∀ (τ : MS) (s m : Int), (Sn σ τ ∧ τ 14 0 = (frM σ).2 ∧ τ 13 = (frM σ).1 ∧ s = (tI 2 a 97 n (nrm (frM σ)) i).2 ∧ eqW (τ 15, m) (tI 2 a 97 n (nrm (frM σ)) i).1) → P_X5_twice_1 K L c τ a n s m i := by
    intro i h0 h1
    refine loop_up (P := fun i => ∀ (τ : MS) (s m : Int), (Sn σ τ ∧ τ 14 0 = (frM σ).2 ∧ τ 13 = (frM σ).1 ∧ s = (tI 2 a 97 n (nrm (frM σ)) i).2 ∧ eqW (τ 15, m) (tI 2 a 97 n (nrm (frM σ)) i).1) → P_X5_twice_1 K L c τ a n s m i) 0 (frM σ).2 (fun i h0 h1 ih τ s m hI => ?_) i h0 h1
    obtain ⟨i1, i2, i3, i4, i5⟩ := hI
    have hk := tI_ok (kind := 2) (n := n) hon ha (show (97 : Int) ≤ 97 ∧ (97 : Int) ≤ 122 by decide) i h0 h1
    have hs : 0 ≤ s ∧ s ≤ 120 := by rw [i4]; omega
    have em : m = (tI 2 a 97 n (nrm (frM σ)) i).1.2 := i5.1
    have hlr : (nrm (frM σ)).2 = (frM σ).2 := rfl
    have hm : 0 ≤ m ∧ m + ((frM σ).2 - i) ≤ 120 := by have := hk.1.1; have := hk.2.1; omega
    refine b_X5_twice_1 C s_X5_become ⟨by omega, by omega, fun hc => ⟨by omega, (i1.trans (become_s τ m)), ?_⟩, fun hc => ?_⟩
    · have hi : i = (frM σ).2 := by omega
      subst hi
      exact (become_w τ m).trans i5
    · have hxl := ho.2 i h0 (by omega)
      have hw : (nrm (frM σ)).1 i = τ 13 i := by rw [nrm_at h0 (by omega), i3]
      rw [← i3] at hxl
      have es := tI_s 2 a 97 n (nrm (frM σ)) h0
      unfold tF at es
      rw [hw, ← i4] at es
      have hmod := Int.emod_nonneg (s + 1) (show n ≠ 0 by omega)
      have hmod2 := Int.emod_lt_of_pos (s + 1) (show 0 < n by omega)
      refine ⟨by omega, by omega, by omega, by omega, fun hc2 => ?_, fun hc2 => ?_⟩
      · rw [if_neg hc2] at es ⊢
        refine ih (by omega) _ _ _ ⟨i1.up 15 _ (by decide), i2, i3, by rw [es]; show s + 0 = s; omega, ?_⟩
        rw [es]
        exact i5.ap _
      · rw [if_pos hc2] at es ⊢
        refine ⟨by omega, by omega, fun hc3 => ?_, fun hc3 => ?_⟩
        · rw [if_neg hc3] at es
          refine ih (by omega) _ _ _ ⟨i1.up 15 _ (by decide), i2, i3, by rw [es], ?_⟩
          rw [es]
          exact i5.ap _
        · rw [if_pos hc3, if_neg (by decide), if_neg (by decide)] at es
          refine ⟨by omega, fun hc4 => ⟨by omega, ?_⟩, fun hc4 => ?_⟩
          · rw [if_pos (by omega)] at es
            refine ih (by omega) _ _ _ ⟨i1.up 15 _ (by decide), i2, i3, by rw [es], ?_⟩
            rw [es]
            have t2 : ∀ z, z = τ 13 i → eqW (ap (ap (τ 15, m) (τ 13 i)) z) (ap (ap (tI 2 a 97 n (nrm (frM σ)) i).1 (τ 13 i)) (τ 13 i)) := fun z hz => by rw [hz]; exact (i5.ap _).ap _
            exact t2 a hc2.symm
          · rw [if_neg (by omega)] at es
            refine ih (by omega) _ _ _ ⟨i1.up 15 _ (by decide), i2, i3, by rw [es], ?_⟩
            rw [es]
            exact i5.ap _
  exact key 0 (Int.le_refl _) hl.1 σ 0 0 ⟨Sn.rfl, rfl, rfl, by rw [tI_0], by rw [tI_0]; exact ⟨rfl, fun k x y => absurd (show k < 0 from y) (by omega)⟩⟩))
