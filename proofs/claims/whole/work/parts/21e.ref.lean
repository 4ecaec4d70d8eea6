/-! the reference as calls show it; distances -/
def mV (σ : MS) : VT := fun c i j k => match c with
  | 0 => σ 2 0
  | 1 => σ 1 i
  | 2 => σ 3 0
  | 3 => σ 9 0
  | 4 => σ 5 i
  | 5 => σ 4 (120 * i + j)
  | 6 => σ 6 i
  | 7 => σ 7 i
  | 8 => gen (σ 6) i
  | 9 => σ 8 i
  | 10 => σ 10 i
  | _ => σ 11 (4 * (5 * i + j) + k)
theorem mV_sm {σ σ' : MS} (s : Sm σ σ') : mV σ' = mV σ := by
  unfold mV
  rw [s 1 (by decide), s 2 (by decide), s 3 (by decide), s 4 (by decide), s 5 (by decide), s 6 (by decide), s 7 (by decide), s 8 (by decide), s 9 (by decide), s 10 (by decide), s 11 (by decide)]
def KI (σ : MS) : Prop := ∀ a b, 0 ≤ a → a ≤ b → b < 24 → σ 12 (24 * a + b) = -1 ∨ (b < σ 3 0 ∧ σ 12 (24 * a + b) = vD (mV σ) a b)
theorem KI.sn {σ σ' : MS} (h : KI σ) (s : Sn σ σ') : KI σ' := by
  unfold KI at *
  rw [s 12 (by decide), s 3 (by decide), mV_sm s.sm]
  exact h
theorem s_X5_distanceOf : H_X5_distanceOf (fun σ m => (okW (frM σ) ∧ okW (txM σ m)) ∧ 0 ≤ m ∧ m < 24) (fun σ m r σ' => Sn σ σ' ∧ r = levW (frM σ) (txM σ m)) := fun l L c σ m hp => m_X5_distanceOf (fun K _ C => b_X5_distanceOf_0 C (by
  obtain ⟨⟨ho, ht⟩, hm⟩ := hp
  have hf := ho.1
  have hg := ht.1
  refine ⟨hm, ?_⟩
  obtain ⟨f, hfd⟩ : ∃ f, f = σ 13 := ⟨_, rfl⟩
  obtain ⟨n, hnd⟩ : ∃ n, n = σ 14 0 := ⟨_, rfl⟩
  obtain ⟨g, hgd⟩ : ∃ g : Int → Int, g = fun p => σ 4 (120 * m + p) := ⟨_, rfl⟩
  obtain ⟨w, hwd⟩ : ∃ w, w = σ 5 m := ⟨_, rfl⟩
  have hres : levW (frM σ) (txM σ m) = lvI f g n w := by rw [hfd, hnd, hgd, hwd]; rfl
  have hn : 0 ≤ n ∧ n ≤ 120 := by rw [hnd]; exact hf
  have hw : 0 ≤ w ∧ w ≤ 120 := by rw [hwd]; exact hg
  have hfv : ∀ k, 0 ≤ k → k < n → 97 ≤ f k ∧ f k ≤ 122 := fun k x y => by rw [hfd]; exact ho.2 k x (by rw [hnd] at y; exact y)
  have hgv : ∀ k, 0 ≤ k → k < w → 97 ≤ g k ∧ g k ≤ 122 := fun k x y => by rw [hgd]; exact ht.2 k x (by rw [hwd] at y; exact y)
  rw [show σ 5 m = w from hwd.symm]
  have lb : ∀ i j, 0 ≤ i → i ≤ n → 0 ≤ j → j ≤ w → 0 ≤ lvI f g i j ∧ lvI f g i j ≤ 120 := fun i j a b c d => by have := lvI_in f g a c; omega
  have t13 : ∀ τ : MS, Sn σ τ ∧ τ 13 = σ 13 ∧ τ 14 = σ 14 → τ 13 = f ∧ τ 14 0 = n ∧ ∀ p, τ 4 (120 * m + p) = g p := fun τ h => ⟨by rw [h.2.1, hfd], by rw [h.2.2, hnd], fun p => by rw [h.1 4 (by decide), hgd]⟩
  have rows : ∀ i, 1 ≤ i → i ≤ n + 1 → ∀ τ : MS, (Sn σ τ ∧ τ 13 = σ 13 ∧ τ 14 = σ 14) → (∀ k, 0 ≤ k → k ≤ w → τ 16 k = lvI f g (i - 1) k) → P_X5_distanceOf_2 K L c τ m w i := by
    intro i h0 h1
    refine loop_up (P := fun i => ∀ τ : MS, (Sn σ τ ∧ τ 13 = σ 13 ∧ τ 14 = σ 14) → (∀ k, 0 ≤ k → k ≤ w → τ 16 k = lvI f g (i - 1) k) → P_X5_distanceOf_2 K L c τ m w i) 1 (n + 1) (fun i h0 h1 ih τ hs hr => ?_) i h0 h1
    obtain ⟨e1, e2, e3⟩ := t13 τ hs
    refine b_X5_distanceOf_2 C ⟨by omega, by omega, fun hc => ⟨by omega, hs.1, ?_⟩, fun hc => ?_⟩
    · rw [hr w hw.1 (Int.le_refl _), hres, show i - 1 = n from by omega]
    · have hin : i ≤ n := by omega
      have inner : ∀ k, 1 ≤ k → k ≤ w + 1 → ∀ ρ : MS, (Sn σ ρ ∧ ρ 13 = σ 13 ∧ ρ 14 = σ 14) → (∀ j, 0 ≤ j → j < k → ρ 16 j = lvI f g i j) → (∀ j, k ≤ j → j ≤ w → ρ 16 j = lvI f g (i - 1) j) → P_X5_distanceOf_3 K L c ρ m w i (lvI f g (i - 1) (k - 1)) k := by
        intro k k0 k1
        refine loop_up (P := fun k => ∀ ρ : MS, (Sn σ ρ ∧ ρ 13 = σ 13 ∧ ρ 14 = σ 14) → (∀ j, 0 ≤ j → j < k → ρ 16 j = lvI f g i j) → (∀ j, k ≤ j → j ≤ w → ρ 16 j = lvI f g (i - 1) j) → P_X5_distanceOf_3 K L c ρ m w i (lvI f g (i - 1) (k - 1)) k) 1 (w + 1) (fun k k0 k1 jh ρ hs2 ha hb => ?_) k k0 k1
        obtain ⟨e1, e2, e3⟩ := t13 ρ hs2
        refine b_X5_distanceOf_3 C ⟨by omega, by omega, fun hc2 => ?_, fun hc2 => ?_⟩
        · exact ih (by omega) ρ hs2 (fun j x y => by rw [show i + 1 - 1 = i from by omega]; exact ha j x (by omega))
        · have hk : k ≤ w := by omega
          have e4 : ρ 4 ((120 * m + k) - 1) = g (k - 1) := by rw [show (120 * m + k) - 1 = 120 * m + (k - 1) from by omega]; exact e3 _
          have e5 := ha (k - 1) (by omega) (by omega)
          have e6 := hb k (Int.le_refl _) hk
          rw [e4, e1, e5, e6]
          have v1 := hfv (i - 1) (by omega) (by omega)
          have v2 := hgv (k - 1) (by omega) (by omega)
          have v3 := lb i (k - 1) (by omega) hin (by omega) (by omega)
          have v4 := lb (i - 1) k (by omega) (by omega) (by omega) hk
          have v5 := lb (i - 1) (k - 1) (by omega) (by omega) (by omega) (by omega)
          have rec9 := lvI_ss f g h0 k0
          have e7 : (if ((if lvI f g i (k - 1) < lvI f g (i - 1) k then lvI f g i (k - 1) else lvI f g (i - 1) k) + 1) < (lvI f g (i - 1) (k - 1) + ((if ¬ f (i - 1) = g (k - 1) then 1 else 0))) then ((if lvI f g i (k - 1) < lvI f g (i - 1) k then lvI f g i (k - 1) else lvI f g (i - 1) k) + 1) else (lvI f g (i - 1) (k - 1) + ((if ¬ f (i - 1) = g (k - 1) then 1 else 0)))) = lvI f g i k := by
            rw [rec9]
            by_cases q1 : f (i - 1) = g (k - 1)
            · rw [show (if ¬ f (i - 1) = g (k - 1) then (1 : Int) else 0) = 0 from if_neg (fun q => q q1), if_pos q1]
              by_cases q2 : lvI f g i (k - 1) < lvI f g (i - 1) k
              · rw [if_pos q2]; split <;> omega
              · rw [if_neg q2]; split <;> omega
            · rw [show (if ¬ f (i - 1) = g (k - 1) then (1 : Int) else 0) = 1 from if_pos q1, if_neg q1]
              by_cases q2 : lvI f g i (k - 1) < lvI f g (i - 1) k
              · rw [if_pos q2]; split <;> omega
              · rw [if_neg q2]; split <;> omega
          refine ⟨by omega, by omega, by omega, by omega, by omega, by omega, by omega, by omega, ?_, ?_, ?_⟩
          · split <;> omega
          · split <;> omega
          · rw [e7]
            have h9 := jh (by omega) (upM ρ 16 (upI (ρ 16) k (lvI f g i k))) ⟨hs2.1.up 16 _ (by decide), hs2.2.1, hs2.2.2⟩ (fun j x y => ?_) (fun j x y => ?_)
            · rw [show k + 1 - 1 = k from by omega] at h9; exact h9
            · show upI (ρ 16) k (lvI f g i k) j = _
              by_cases hj : j = k
              · rw [hj, upI_s]
              · rw [upI_n _ _ hj]; exact ha j x (by omega)
            · show upI (ρ 16) k (lvI f g i k) j = _
              rw [upI_n _ _ (by omega)]; exact hb j (by omega) y
      have e8 := hr 0 (Int.le_refl _) hw.1
      rw [e8]
      have h9 := inner 1 (Int.le_refl _) (by omega) (upM τ 16 (upI (τ 16) 0 i)) ⟨hs.1.up 16 _ (by decide), hs.2.1, hs.2.2⟩ (fun j x y => ?_) (fun j x y => ?_)
      · exact h9
      · have hj : j = 0 := by omega
        subst hj
        show upI (τ 16) 0 i 0 = _
        rw [upI_s, lvI_i0 f g (by omega)]
      · show upI (τ 16) 0 i j = _
        rw [upI_n _ _ (by omega)]; exact hr j (by omega) y
  have first : ∀ k, 0 ≤ k → k ≤ w + 1 → ∀ τ : MS, (Sn σ τ ∧ τ 13 = σ 13 ∧ τ 14 = σ 14) → (∀ j, 0 ≤ j → j < k → τ 16 j = j) → P_X5_distanceOf_1 K L c τ m w k := by
    intro k k0 k1
    refine loop_up (P := fun k => ∀ τ : MS, (Sn σ τ ∧ τ 13 = σ 13 ∧ τ 14 = σ 14) → (∀ j, 0 ≤ j → j < k → τ 16 j = j) → P_X5_distanceOf_1 K L c τ m w k) 0 (w + 1) (fun k k0 k1 ih τ hs hr => ?_) k k0 k1
    refine b_X5_distanceOf_1 C ⟨by omega, by omega, fun hc => ?_, fun hc => ⟨by omega, ?_⟩⟩
    · exact rows 1 (Int.le_refl _) (by omega) τ hs (fun j x y => by rw [hr j x (by omega)]; exact (lvI_0 f g x).symm)
    · refine ih (by omega) _ ⟨hs.1.up 16 _ (by decide), hs.2.1, hs.2.2⟩ (fun j x y => ?_)
      show upI (τ 16) k k j = j
      by_cases hj : j = k
      · rw [hj, upI_s]
      · rw [upI_n _ _ hj]; exact hr j x (by omega)
  exact first 0 (Int.le_refl _) (by omega) σ ⟨Sn.rfl, rfl, rfl⟩ (fun j x y => by omega)))
