/-! trials, advice, find, lose, emend in the house -/
theorem s_X4_trial : H_X4_trial (fun σ m s t w => CI σ ∧ in32 m ∧ in32 s ∧ in32 t ∧ in32 w) (fun σ m s t w r σ' => qA σ (tTrial (cV σ) m s t w) (vTrialA (cV σ) m s t w) r σ') (fun σ m s t w E σ' => qX σ (tTrial (cV σ) m s t w) eIO eIA eIS E σ') := fun l y σ m s t w hp => m_X4_trial (fun K _ C => b_X4_trial_0 C s_X4_manuscriptOf s_X4_scribeOf s_X4_draftCopy s_X4_steps (by
  obtain ⟨hp, hm, hs, ht, hw⟩ := hp
  have vn := vN_c σ
  have e3 : cV σ 3 0 0 0 = σ 3 0 0 0 := rfl
  have e9 : cV σ 9 m 0 0 = σ 12 m 0 0 := rfl
  have one : (¬ (0 ≤ m ∧ m < vN (cV σ)) ∨ ¬ (0 ≤ s ∧ s < cV σ 3 0 0 0) ∨ ¬ (0 ≤ w ∧ w ≤ 1)) → tTrial (cV σ) m s t w = 1 := fun q => if_pos q
  refine ⟨⟨hp.1, hm⟩, fun E u hx => ⟨Or.inl ⟨one (Or.inl (fun q => hx.1 ⟨q.1, by have := q.2; omega⟩)), hx.2.1⟩, by rw [hx.2.2]; exact hp, by rw [hx.2.2]; exact Cm.rfl⟩, fun r τ o => ?_⟩
  obtain ⟨rfl, rfl, m0, m1⟩ := o
  refine ⟨⟨hp.1, hs⟩, fun E u hx => ⟨Or.inl ⟨one (Or.inr (Or.inl (fun q => hx.1 ⟨q.1, by have := q.2; omega⟩))), hx.2.1⟩, by rw [hx.2.2]; exact hp, by rw [hx.2.2]; exact Cm.rfl⟩, fun r5 ρ o => ?_⟩
  obtain ⟨rfl, rfl, s0, s1⟩ := o
  have e21 := hp.1.e21
  have n := hp.1.n
  have c := (hp.1.m m0 m1).1
  have cs := hp.1.s s0 s1
  have n1 : (0 ≤ w ∧ w ≤ 1) → ¬ (¬ (0 ≤ r ∧ r < vN (cV ρ)) ∨ ¬ (0 ≤ r5 ∧ r5 < cV ρ 3 0 0 0) ∨ ¬ (0 ≤ w ∧ w ≤ 1)) := fun hw' => by omega
  have two : (0 ≤ w ∧ w ≤ 1) → ¬ (1 ≤ t ∧ t ≤ 20) → qX ρ (tTrial (cV ρ) r r5 t w) eIO eIA eIS eIA ρ := fun hw' q => ⟨Or.inr (Or.inl ⟨by unfold tTrial; rw [if_neg (n1 hw'), if_pos q], rfl⟩), hp, Cm.rfl⟩
  refine ⟨hw, fun hc => ⟨Or.inl ⟨one (Or.inr (Or.inr (by omega))), rfl⟩, hp, Cm.rfl⟩, fun hc => ⟨fun hd => ⟨ht, fun he => two (by omega) (by omega), fun he => ⟨fun hf => ⟨by omega, by omega, fun hg => ⟨⟨hp, ⟨m0, m1⟩, ⟨s0, s1⟩, by omega, hf⟩, fun r12 φ o => ?_⟩, fun hg => ⟨Or.inr (Or.inr ⟨by unfold tTrial; rw [if_neg (n1 (by omega)), if_neg (by omega)]; exact if_pos hg, rfl⟩), hp, Cm.rfl⟩⟩, fun hf => two (by omega) (by omega)⟩⟩, fun hd => ⟨Or.inl ⟨one (Or.inr (Or.inr (by omega))), rfl⟩, hp, Cm.rfl⟩⟩⟩
  have hT : tTrial (cV ρ) r r5 t w = 0 := by unfold tTrial; rw [if_neg (n1 (by omega)), if_neg (by omega)]; exact if_neg hg
  obtain ⟨cm, cI, ew⟩ := o
  have f2 := cm.e2
  have f21 := cI.1.e21
  have fn := cI.1.n
  refine ⟨fun q => ⟨by omega, ⟨by omega, by omega, cI.2.1 _ (by omega) (by omega), cI.2.1 _ (by omega) (by omega)⟩, fun r16 ω o => ?_⟩, fun q => ⟨by omega, hT, ?_, cI, cm⟩⟩
  · obtain ⟨c7, s7⟩ := cI.of7 o.1
    refine ⟨hT, ?_, c7, cm.trans s7.cm⟩
    rw [o.2]
    unfold vTrialA
    rw [if_neg q, cTx ρ m0, cm.tw (show 3 ≤ r + 3 by omega)]
    exact levW_eq ew eqW.rfl
  · unfold vTrialA
    rw [if_pos q]
    exact ew.1))
theorem av_least {D : Int → Int} {i : Int} (h0 : 0 ≤ i) (hD : ∀ k, 0 ≤ k → k ≤ i → D k ≤ 120) : fdI (avF D) (-1) (i + 1) = if D i < (if fdI (avF D) (-1) i = -1 then 121 else D (fdI (avF D) (-1) i)) then i else fdI (avF D) (-1) i := by
  rw [fdI_s _ _ h0]
  unfold avF
  by_cases q : fdI (avF D) (-1) i = -1
  · have d := hD i h0 (Int.le_refl _)
    unfold avF at q
    rw [if_pos (Or.inl q), if_pos q, if_pos (by omega)]
  · unfold avF at q
    rw [if_neg q]
    by_cases q2 : D i < D (fdI (fun best s => if best = -1 ∨ D s < D best then s else best) (-1) i)
    · rw [if_pos (Or.inr q2), if_pos q2]
    · rw [if_neg (fun z => z.elim q q2), if_neg q2]
theorem av_in (D : Int → Int) (n : Int) (hn : 0 ≤ n) : -1 ≤ fdI (avF D) (-1) n ∧ fdI (avF D) (-1) n < n ∨ (n = 0 ∧ fdI (avF D) (-1) n = -1) := by
  refine int_up (P := fun n => -1 ≤ fdI (avF D) (-1) n ∧ fdI (avF D) (-1) n < n ∨ (n = 0 ∧ fdI (avF D) (-1) n = -1)) (Or.inr ⟨rfl, fdI_0 _ _⟩) (fun i hi ih => ?_) n hn
  rw [fdI_s _ _ hi]
  unfold avF
  split
  · omega
  · unfold avF at ih; omega
theorem s_X4_advise : H_X4_advise (fun σ m => CI σ ∧ in32 m) (fun σ m r σ' => qA σ (tAdvise (cV σ) m) (vAdvise (cV σ) m) r σ') (fun σ m E σ' => qX σ (tAdvise (cV σ) m) eIO eIS "" E σ') := fun l y σ m hp => m_X4_advise (fun K _ C => b_X4_advise_0 C s_X4_manuscriptOf (by
  obtain ⟨hp, hm⟩ := hp
  have vn := vN_c σ
  refine ⟨⟨hp.1, hm⟩, fun E u hx => ⟨Or.inl ⟨if_pos (fun q => hx.1 ⟨q.1, by have := q.2; omega⟩), hx.2.1⟩, by rw [hx.2.2]; exact hp, by rw [hx.2.2]; exact Cm.rfl⟩, fun r τ o => ?_⟩
  obtain ⟨rfl, rfl, m0, m1⟩ := o
  have e21 := hp.1.e21
  have n := hp.1.n
  have ns := hp.1.ns
  have c := (hp.1.m m0 m1).1
  have n1 : ¬ ¬ (0 ≤ r ∧ r < vN (cV τ)) := fun q => q ⟨m0, by omega⟩
  refine ⟨by omega, by omega, fun hg => ?_, fun hg => ⟨Or.inr (Or.inl ⟨by unfold tAdvise; rw [if_neg n1]; exact if_pos hg, rfl⟩), hp, Cm.rfl⟩⟩
  have hT : tAdvise (cV τ) r = 0 := by unfold tAdvise; rw [if_neg n1]; exact if_neg hg
  have txm := hp.2.1 (r + 3) (by omega) (by omega)
  have far : ∀ s, 0 ≤ s → s < τ 3 0 0 0 → 0 ≤ vFar (cV τ) r s ∧ vFar (cV τ) r s ≤ 120 := fun s a b => by
    have cs := hp.1.s a b
    unfold vFar
    rw [cTx τ m0]
    exact levW_in (scW_ok (show okHab (cHa τ s) (τ 13 s 0 0) from cs.2.2.1) txm _ cs.1.1 (Int.le_refl _)) txm
  refine loop_up (P := fun i => ∀ ρ : CS, Cm τ ρ → CI ρ → P_X4_advise_1 K y ρ r (fdI (avF (vFar (cV τ) r)) (-1) i) (if fdI (avF (vFar (cV τ) r)) (-1) i = -1 then 121 else vFar (cV τ) r (fdI (avF (vFar (cV τ) r)) (-1) i)) i) 0 (τ 3 0 0 0) (fun i h0 h1 ih ρ cm cI => ?_) 0 (Int.le_refl _) ns.1 τ Cm.rfl hp
  have f2 := cm.e2
  have f3 : ρ 3 0 0 0 = τ 3 0 0 0 := by rw [cm.e (Or.inl (by decide))]
  have g21 := cI.1.e21
  have g22 := cI.1.e22
  have gn := cI.1.n
  have ai := av_in (vFar (cV τ) r) i h0
  obtain ⟨b, hb⟩ : ∃ b, b = fdI (avF (vFar (cV τ) r)) (-1) i := ⟨_, rfl⟩
  obtain ⟨le, hle⟩ : ∃ le, le = (if b = -1 then 121 else vFar (cV τ) r b) := ⟨_, rfl⟩
  rw [← hb] at ai ⊢
  have hle' : 0 ≤ le ∧ le ≤ 121 := by
    rw [hle]
    by_cases q : b = -1
    · rw [if_pos q]; decide
    · rw [if_neg q]; have := far b (by omega) (by omega); omega
  refine b_X4_advise_1 C s_sizeS s_getS s_X4_draftCopy s_X4_steps ?_
  rw [← hle]
  refine ⟨trivial, by omega, by show -2147483648 ≤ ρ 3 0 0 0 ∧ ρ 3 0 0 0 < 2147483648; omega, fun hc => ?_, fun hc => ?_⟩
  · have hc' : ρ 3 0 0 0 ≤ i := hc
    refine ⟨hT, ?_, cI, cm⟩
    rw [hb, show i = τ 3 0 0 0 from by omega]; rfl
  · have hc' : ¬ ρ 3 0 0 0 ≤ i := hc
    refine ⟨⟨cI.1, h0, by omega⟩, by omega, ⟨cI, ⟨m0, by omega⟩, ⟨h0, by omega⟩, by decide, by decide⟩, fun r7 φ o => ?_⟩
    obtain ⟨cm2, cI2, ew⟩ := o
    have h2 := cm2.e2
    have h21 := cI2.1.e21
    have hn := cI2.1.n
    refine ⟨by omega, ⟨by omega, by omega, cI2.2.1 _ (by omega) (by omega), cI2.2.1 _ (by omega) (by omega)⟩, fun r11 ω o => ?_⟩
    obtain ⟨c7, s7⟩ := cI2.of7 o.1
    have cm3 := (cm.trans cm2).trans s7.cm
    have fi := far i h0 (by omega)
    have er : r11 = vFar (cV τ) r i := by
      rw [o.2, (cm.trans cm2).tw (show 3 ≤ r + 3 by omega)]
      unfold vFar
      rw [cTx τ m0]
      refine levW_eq (ew.trans ?_) eqW.rfl
      rw [cV_cm cm]
      unfold vTrial
      rw [show (1 : Int) = 0 + 1 from rfl, fdT_s _ _ (Int.le_refl _), fdT_0, cTx τ m0]
      exact eqW.rfl
    have al := av_least (D := vFar (cV τ) r) h0 (fun k a q => (far k a (by omega)).2)
    rw [← hb, ← hle] at al
    have h9 := ih (by omega) ω cm3 c7
    refine ⟨by omega, by omega, fun q => ?_, fun q => ?_⟩
    · rw [if_neg (by omega)] at al
      rw [al, ← hle] at h9; exact h9
    · rw [if_pos (by omega)] at al
      rw [al, if_neg (by omega), ← er] at h9; exact h9))
