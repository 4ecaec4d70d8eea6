/-! guesses, counts, votes -/
theorem s_X5_guessOf : H_X5_guessOf (fun σ m => MI σ ∧ 0 ≤ m ∧ m < σ 3 0) (fun σ m r σ' => Sm σ σ' ∧ KI σ' ∧ r = vGuess (mV σ) m) := fun l L c σ m hp => m_X5_guessOf (fun K _ C => b_X5_guessOf_0 C (by
  obtain ⟨hp, m0, m1⟩ := hp
  have hn := hp.1.n
  by_cases hth : σ 8 m = 0
  · refine b_X5_guessOf_1 C s_X5_apart ⟨by omega, by omega, fun hc => ⟨Sm.rfl, hp.2, ?_⟩, fun hc => ⟨by omega, by omega, fun hc2 => ⟨Sm.rfl, hp.2, ?_⟩, fun hc2 => absurd hth hc2⟩⟩
    · exact (if_pos hth).symm
    · exact (if_pos hth).symm
  · refine loop_up (P := fun i => ∀ τ : MS, Sm σ τ → KI τ → P_X5_guessOf_1 K L c τ m (gsI (fun k => σ 8 k) (fun k => vD (mV σ) m k) i) i) 0 m (fun i h0 h1 ih τ hs hk => ?_) 0 (Int.le_refl _) m0 σ Sm.rfl hp.2
    have e8 := hs 8 (by decide)
    have hτ := hp.sm hs hk
    have e3 : τ 3 0 = σ 3 0 := by rw [hs 3 (by decide)]
    have ti := hp.1.th h0 (by omega)
    have tm := hp.1.th m0 m1
    have hg := gsI_in (fun k => σ 8 k) (fun k => vD (mV σ) m k) i h0
    have es : gsI (fun k => σ 8 k) (fun k => vD (mV σ) m k) (i + 1) = gsF (fun k => σ 8 k) (fun k => vD (mV σ) m k) (gsI (fun k => σ 8 k) (fun k => vD (mV σ) m k) i) i := fdI_s _ _ h0
    unfold gsF at es
    obtain ⟨b, hb⟩ : ∃ b, b = gsI (fun k => σ 8 k) (fun k => vD (mV σ) m k) i := ⟨_, rfl⟩
    rw [← hb] at es hg ⊢
    refine b_X5_guessOf_1 C s_X5_apart ?_
    rw [e8]
    refine ⟨by omega, by omega, fun hc => ⟨hs, hk, ?_⟩, fun hc => ⟨by omega, by omega, fun hc2 => absurd hc2 hth, fun hc2 => ⟨by omega, by omega, fun hc3 => ?_, fun hc3 => ⟨by omega, fun hc4 => ?_, fun hc4 => ⟨⟨hτ, by omega, by omega⟩, fun r9 σ10 ho => ⟨⟨hτ.sm ho.1 ho.2.1, ?_, ?_⟩, fun r12 σ13 ho2 => ?_⟩⟩⟩⟩⟩⟩
    · rw [hb, show i = m from by omega]
      exact (if_neg hth).symm
    · rw [if_neg (fun q => q.1 hc3)] at es
      rw [← es]; exact ih (by omega) τ hs hk
    · rw [if_pos ⟨hc3, Or.inl hc4⟩] at es
      have h9 := ih (by omega) τ hs hk
      rw [es] at h9; exact h9
    · rw [ho.1 3 (by decide)]; omega
    · rw [ho.1 3 (by decide)]; omega
    · have s1 := hs.trans ho.1
      have s2 := s1.trans ho2.1
      have ea : r9 = vD (mV σ) m i := by rw [ho.2.2, mV_sm hs]
      have eb : r12 = vD (mV σ) m b := by rw [ho2.2.2, mV_sm s1]
      have da := hp.1.d m0 m1 h0 (show i < σ 3 0 by omega)
      have db := hp.1.d m0 m1 (show 0 ≤ b by omega) (show b < σ 3 0 by omega)
      refine ⟨by omega, by omega, fun hc5 => ?_, fun hc5 => ?_⟩
      · rw [if_neg (fun q => q.2.elim hc4 (fun q => by have q' : vD (mV σ) m i ≤ vD (mV σ) m b := q; omega))] at es
        have h9 := ih (by omega) σ13 s2 ho2.2.1
        rw [es] at h9; exact h9
      · rw [if_pos ⟨hc3, Or.inr (by show vD (mV σ) m i ≤ vD (mV σ) m b; omega)⟩] at es
        have h9 := ih (by omega) σ13 s2 ho2.2.1
        rw [es] at h9; exact h9))
def cF (V : VT) (w : Int) : Int → Int := fun m => if w = 3 then (if V 6 m 0 0 = -1 then 1 else 0) else if w = 7 then vRight V m else if w = 6 then (if ¬ V 9 m 0 0 = 0 then V 4 m 0 0 else 0) else 0
theorem vC_0 (V : VT) : vCounted V 0 = vN V := rfl
theorem vC_1 (V : VT) : vCounted V 1 = vThere V := rfl
theorem vC_2 (V : VT) : vCounted V 2 = V 3 0 0 0 := rfl
theorem vC_3 (V : VT) : vCounted V 3 = sumI (fun m => if V 6 m 0 0 = -1 then 1 else 0) (vN V) := rfl
theorem vC_4 (V : VT) : vCounted V 4 = maxI (fun m => V 8 m 0 0) (vN V) := rfl
theorem vC_5 (V : VT) : vCounted V 5 = V 0 0 0 0 := rfl
theorem vC_6 (V : VT) : vCounted V 6 = sumI (fun m => if ¬ V 9 m 0 0 = 0 then V 4 m 0 0 else 0) (vN V) := rfl
theorem vC_7 (V : VT) : vCounted V 7 = sumI (vRight V) (vN V) := rfl
theorem s_X5_counted : H_X5_counted (fun σ w => MI σ ∧ 0 ≤ w ∧ w ≤ 7) (fun σ w r σ' => Sm σ σ' ∧ KI σ' ∧ r = vCounted (mV σ) w) := fun l L c σ w hp => m_X5_counted (fun K _ C => b_X5_counted_0 C s_X5_there (by
  obtain ⟨hp, w0, w1⟩ := hp
  have hn := hp.1.n
  refine ⟨by omega, fun hc => ⟨fun hc2 => ⟨fun hc3 => ⟨fun hc4 => ?_, fun hc4 => ?_⟩, fun hc3 => ?_⟩, fun hc2 => ⟨hp.1, ?_⟩⟩, fun hc => ?_⟩
  · have key := loop_up (P := fun i => ∀ τ : MS, Sm σ τ → KI τ → P_X5_counted_1 K L c τ w (sumI (cF (mV σ) w) i) (maxI (fun m => gen (σ 6) m) i) i) 0 (σ 3 0) (fun i h0 h1 ih τ hs hk => ?_) 0 (Int.le_refl _) hn.1 σ Sm.rfl hp.2
    · exact key
    have hτ := hp.sm hs hk
    have e3 : τ 3 0 = σ 3 0 := by rw [hs 3 (by decide)]
    have e6 := hs 6 (by decide)
    have e8 := hs 8 (by decide)
    have hmx := maxI_in (f := fun m => gen (σ 6) m) 24 i (by decide) h0 (fun k a b => by have := gen_in hp.1.ex k a (by omega); omega)
    refine b_X5_counted_1 C s_X5_generation s_X5_guessOf ?_
    rw [e3, e6, e8]
    refine ⟨by omega, by omega, fun hd => ⟨by omega, fun hd2 => ⟨hs, hk, ?_⟩, fun hd2 => ⟨hs, hk, ?_⟩⟩, fun hd => ?_⟩
    · have ei : i = σ 3 0 := by omega
      rw [ei]
      have hw : w = 3 ∨ w = 6 ∨ w = 7 := by omega
      rcases hw with rfl | rfl | rfl
      · rw [vC_3]; exact sumI_cong _ (fun k _ _ => rfl)
      · rw [vC_6]; exact sumI_cong _ (fun k _ _ => rfl)
      · rw [vC_7]; exact sumI_cong _ (fun k _ _ => rfl)
    · have ei : i = σ 3 0 := by omega
      rw [ei]
      subst hd2
      rw [vC_4]; rfl
    · have hi1 : i < σ 3 0 := by omega
      have gi := gen_in hp.1.ex i h0 hi1
      have xi := hp.1.ex1 h0 hi1
      have ti := hp.1.th h0 hi1
      have li := hp.1.ln h0 hi1
      have nxt : ∀ (ρ : MS) (x z : Int), Sm σ ρ → KI ρ → x = cF (mV σ) w i → z = maxI (fun m => gen (σ 6) m) (i + 1) → P_X5_counted_1 K L c ρ w (sumI (cF (mV σ) w) i + x) z (i + 1) := fun ρ x z a b ex ez => by
        have h9 := ih hi1 ρ a b
        rw [sumI_s _ h0, ← ex, ← ez] at h9; exact h9
      have ez : (if maxI (fun m => gen (σ 6) m) i < gen (σ 6) i then gen (σ 6) i else maxI (fun m => gen (σ 6) m) i) = maxI (fun m => gen (σ 6) m) (i + 1) := (maxI_s _ h0).symm
      have p3n : ∀ ρ : MS, Sm σ ρ → KI ρ → (w = 3 → ¬ σ 6 i = -1) → (w = 7 → vRight (mV σ) i = 0) → P_X5_counted_3 K L c ρ w (sumI (cF (mV σ) w) i) (maxI (fun m => gen (σ 6) m) (i + 1)) i 0 := fun ρ a b h3 h7 => by
        refine b_X5_counted_3 C ⟨by omega, fun _ => ⟨by omega, fun q6 => nxt ρ _ _ a b ?_ rfl, fun q6 => ⟨by omega, by rw [a 8 (by decide)]; omega, fun q8 => ?_, fun q8 => ?_⟩⟩, fun q => absurd rfl q⟩
        · unfold cF
          by_cases w3 : w = 3
          · rw [if_pos w3]; exact (if_neg (h3 w3)).symm
          · rw [if_neg w3]
            by_cases w7 : w = 7
            · rw [if_pos w7]; exact (h7 w7).symm
            · rw [if_neg w7, if_neg q6]
        · rw [a 8 (by decide)] at q8
          refine nxt ρ _ _ a b ?_ rfl
          subst q6
          unfold cF
          rw [if_neg (by omega), if_neg (by omega), if_pos rfl]
          exact (if_neg (fun q => q q8)).symm
        · rw [a 8 (by decide)] at q8
          rw [a 5 (by decide)]
          refine nxt ρ _ _ a b ?_ rfl
          subst q6
          unfold cF
          rw [if_neg (by omega), if_neg (by omega), if_pos rfl]
          exact (if_pos q8).symm
      have p3y : ∀ ρ : MS, Sm σ ρ → KI ρ → cF (mV σ) w i = 1 → P_X5_counted_3 K L c ρ w (sumI (cF (mV σ) w) i) (maxI (fun m => gen (σ 6) m) (i + 1)) i 1 := fun ρ a b h1' => by
        exact b_X5_counted_3 C ⟨by omega, fun q => absurd q (by decide), fun _ => nxt ρ _ _ a b h1'.symm rfl⟩
      have p2 : ∀ ρ : MS, Sm σ ρ → KI ρ → (w = 3 → ¬ σ 6 i = -1) → (w = 7 → vRight (mV σ) i = 0) → P_X5_counted_2 K L c ρ w (sumI (cF (mV σ) w) i) (maxI (fun m => gen (σ 6) m) (i + 1)) i := fun ρ a b h3 h7 => b_X5_counted_2 C (p3n ρ a b h3 h7)
      refine ⟨⟨hτ.1, by omega, by omega⟩, by omega, by omega, by omega, ?_, ?_⟩
      · intro w3
        rw [ez]
        refine ⟨fun w7 => p2 τ hs hk (fun q => absurd q w3) (fun q => absurd q w7), fun w7 => ⟨by omega, by omega, fun q8 => p2 τ hs hk (fun q => absurd q w3) (fun _ => if_neg (fun q => q.1 q8)), fun q8 => ⟨by omega, fun q6 => p2 τ hs hk (fun q => absurd q w3) (fun _ => if_neg (fun q => q.2.1 q6)), fun q6 => ⟨⟨hτ, by omega, by omega⟩, fun r ρ ho => ?_⟩⟩⟩⟩
        have s1 := hs.trans ho.1
        have er : r = vGuess (mV σ) i := by rw [ho.2.2, mV_sm hs]
        have gr : -1 ≤ r ∧ r < i := by
          rw [er]
          have h9 := gsI_in (fun k => σ 8 k) (fun k => vD (mV σ) i k) i h0
          have e9 : vGuess (mV σ) i = gsI (fun k => σ 8 k) (fun k => vD (mV σ) i k) i := if_neg q8
          rw [e9]; exact h9
        rw [s1 6 (by decide)]
        refine ⟨by omega, by omega, fun q9 => p2 ρ s1 ho.2.1 (fun q => absurd q w3) (fun _ => if_neg (fun q => q9 (by rw [er]; exact q.2.2))), fun q9 => p3y ρ s1 ho.2.1 ?_⟩
        unfold cF
        rw [if_neg w3, if_pos w7]
        exact if_pos ⟨q8, q6, by rw [← er]; exact q9⟩
      · intro w3
        rw [ez]
        refine ⟨by omega, by omega, fun q6 => p3n τ hs hk (fun _ => q6) (fun q => by omega), fun q6 => p3y τ hs hk ?_⟩
        unfold cF
        rw [if_pos w3]
        exact if_pos q6
  · subst hc4; exact ⟨Sm.rfl, hp.2, rfl⟩
  · subst hc3; exact ⟨Sm.rfl, hp.2, rfl⟩
  · subst hc2; exact ⟨Sm.rfl, hp.2, rfl⟩
  · subst hc; exact ⟨Sm.rfl, hp.2, rfl⟩))
