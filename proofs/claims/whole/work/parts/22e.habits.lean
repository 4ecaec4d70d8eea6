/-! swap and apply in the house -/
theorem s_X0_swapEachNth : H_X0_swapEachNth (fun σ s h f t => pMk σ s h f t ∧ σ 14 s h 0 = 4) (fun σ s h f t _ σ' => oMk 4 σ s h f t σ') := fun l y σ s h f t hp => m_X0_swapEachNth (fun K _ C => b_X0_swapEachNth_0 C (by
  obtain ⟨⟨h1, h2, h3, h4, h5, h6⟩, h7⟩ := hp
  have hl : 0 ≤ σ 5 f 0 0 ∧ σ 5 f 0 0 ≤ 120 := h5.1
  have hab := h1.2
  have hlr : (nrm (tW σ f)).2 = σ 5 f 0 0 := rfl
  have hnw : ∀ k, 0 ≤ k → k < σ 5 f 0 0 → (nrm (tW σ f)).1 k = σ 6 f k 0 := fun k x y => nrm_at x y
  have hx : ∀ k, 0 ≤ k → k < σ 5 f 0 0 → 97 ≤ σ 6 f k 0 ∧ σ 6 f k 0 ≤ 122 := fun k a b => h5.2 k a b
  have ea : 97 + σ 14 s h 1 = σ 14 s h 1 + 97 := by omega
  have eb : 97 + σ 14 s h 2 = σ 14 s h 2 + 97 := by omega
  have key : ∀ (d : Nat) (i : Int) (v : WO) (c : Int) (τ : CS), 0 ≤ i → i ≤ σ 5 f 0 0 → σ 5 f 0 0 - i ≤ d → Ct t σ τ → v.2 = i → eqW (tW τ t) v → swN (σ 14 s h 1 + 97) (σ 14 s h 2 + 97) (σ 14 s h 3) (nrm (tW σ f)) d i v c = hb 4 (σ 14 s h 1 + 97) (σ 14 s h 2 + 97) (σ 14 s h 3) (tW σ f) → P_X0_swapEachNth_1 K y τ s h f t (c % σ 14 s h 3) i := by
    intro d
    induction d with
    | zero =>
      intro i v c τ x0 x1 hd ct iv ek hf
      have m0 := Int.emod_nonneg c (show σ 14 s h 3 ≠ 0 by omega)
      refine b_X0_swapEachNth_1 C s_X3_has s_X3_append ?_
      rw [ct.1 21 (by decide) (by decide), (ct.2 f 0 h4).1]
      refine ⟨h2, by omega, by omega, fun hc => ⟨ct, ?_⟩, fun hc => absurd hc (by omega)⟩
      rw [← hf, swN_end 0 (by omega)]
      exact ek
    | succ d ih =>
      intro i v c τ x0 x1 hd ct iv ek hf
      have m0 := Int.emod_nonneg c (show σ 14 s h 3 ≠ 0 by omega)
      have m1 := Int.emod_lt_of_pos c (show 0 < σ 14 s h 3 by omega)
      have md := mod_step (c := c) (n := σ 14 s h 3) (by omega)
      have e14 := ct.1 14 (by decide) (by decide)
      have e21 := ct.1 21 (by decide) (by decide)
      have e22 := ct.1 22 (by decide) (by decide)
      have e23 := ct.1 23 (by decide) (by decide)
      have etf := ct.tw h4
      have ef6 : ∀ p, τ 6 f p 0 = σ 6 f p 0 := fun p => (ct.2 f p h4).2
      have elt : τ 5 t 0 0 = i := ek.1.trans iv
      refine b_X0_swapEachNth_1 C s_X3_has s_X3_append ?_
      rw [e14, e21, e22, e23, (ct.2 f 0 h4).1, ef6, etf, ea, eb]
      refine ⟨h2, by omega, by omega, fun hc => ⟨ct, ?_⟩, fun hc => ?_⟩
      · rw [← hf, swN_end _ (by omega)]
        exact ek
      · have hi : i < σ 5 f 0 0 := by omega
        have hxi := hx i x0 hi
        -- one letter alone
        have one : ¬ (i + 1 < σ 5 f 0 0 ∧ σ 6 f i 0 = σ 14 s h 1 + 97 ∧ σ 6 f (i + 1) 0 = σ 14 s h 2 + 97) → ∀ τ' : CS, Ct t τ τ' → eqW (tW τ' t) (ap (tW τ t) (σ 6 f i 0)) → P_X0_swapEachNth_1 K y τ' s h f t (c % σ 14 s h 3) (i + 1) := fun hq τ' o1 o2 => by
          rw [swN_no (show i < (nrm (tW σ f)).2 from hi) (fun q => hq ⟨q.1, by rw [← hnw i x0 hi]; exact q.2.1, by rw [← hnw (i + 1) (by omega) q.1]; exact q.2.2⟩), hnw i x0 hi] at hf
          exact ih (i + 1) _ c τ' (by omega) (by omega) (by omega) (ct.trans o1) (ap_l iv) (o2.trans (ek.ap _)) hf
        have pa : ((0 ≤ t ∧ t < σ 21 0 0 0 + 3) ∧ (0 ≤ τ 5 t 0 0 ∧ τ 5 t 0 0 < 120) ∧ -128 ≤ σ 6 f i 0 ∧ σ 6 f i 0 < 128) := ⟨h3, by omega, by omega, by omega⟩
        refine ⟨h1.1, ⟨h2, h5, i32 (by omega), i32 (by omega)⟩, fun hq => ⟨by omega, pa, h3, fun r τ' o => one (fun z => ?_) τ' o.1 o.2⟩, fun hq => ⟨⟨h2, h5, i32 (by omega), i32 (by omega)⟩, fun hq2 => ?_, fun hq2 => ⟨by omega, pa, h3, fun r τ' o => one (fun z => ?_) τ' o.1 o.2⟩⟩⟩
        · have hq' : ¬ hasW (tW σ f) i (σ 14 s h 1 + 97) = true := hq
          exact hq' (hasW_t.mpr ⟨x0, hi, z.2.1⟩)
        · have hq' : hasW (tW σ f) i (σ 14 s h 1 + 97) = true := hq
          have hq2' : hasW (tW σ f) (i + 1) (σ 14 s h 2 + 97) = true := hq2
          have w1 := hasW_t.mp hq'
          have w2 := hasW_t.mp hq2'
          have hi1 : i + 1 < σ 5 f 0 0 := w2.2.1
          rw [swN_yes (show i < (nrm (tW σ f)).2 from hi) ⟨hi1, by rw [hnw i x0 hi]; exact w1.2.2, by rw [hnw (i + 1) (by omega) hi1]; exact w2.2.2⟩] at hf
          -- two letters
          have two : ∀ (p q : Int), (0 ≤ p ∧ p ≤ 25) → (0 ≤ q ∧ q ≤ 25) → (p = if c % σ 14 s h 3 + 1 = σ 14 s h 3 then σ 14 s h 2 else σ 14 s h 1) → (q = if c % σ 14 s h 3 + 1 = σ 14 s h 3 then σ 14 s h 1 else σ 14 s h 2) → swN (σ 14 s h 1 + 97) (σ 14 s h 2 + 97) (σ 14 s h 3) (nrm (tW σ f)) d (i + 2) (ap (ap v (p + 97)) (q + 97)) (c + 1) = hb 4 (σ 14 s h 1 + 97) (σ 14 s h 2 + 97) (σ 14 s h 3) (tW σ f) → P_X0_swapEachNth_2 K y τ s h f t (c % σ 14 s h 3 + 1) (i + 1) p 97 t := fun p q hp hq ep eq hf2 => by
            have e1 : 97 + p = p + 97 := by omega
            have e2 : 97 + q = q + 97 := by omega
            have three : ∀ τ1 : CS, Ct t τ τ1 → eqW (tW τ1 t) (ap (tW τ t) (p + 97)) → P_X0_swapEachNth_3 K y τ1 s h f t (c % σ 14 s h 3 + 1) (i + 1) q 97 t := fun τ1 o1 o2 => by
              have ct1 := ct.trans o1
              have el1 : τ1 5 t 0 0 = i + 1 := by have : τ1 5 t 0 0 = τ 5 t 0 0 + 1 := o2.1; omega
              refine b_X0_swapEachNth_3 C s_X3_append ?_
              rw [ct1.1 21 (by decide) (by decide), e2]
              refine ⟨⟨h3, by omega, by omega, by omega⟩, h3, fun r τ2 o3 => ?_⟩
              have ct2 := ct1.trans o3.1
              rw [ct2.1 22 (by decide) (by decide), ct2.1 23 (by decide) (by decide), ct2.1 14 (by decide) (by decide)]
              have fin : P_X0_swapEachNth_1 K y τ2 s h f t ((c + 1) % σ 14 s h 3) (i + 2) := ih (i + 2) _ (c + 1) τ2 (by omega) (by omega) (by omega) ct2 (by rw [ap_l (ap_l iv)]; omega) (o3.2.trans ((o2.trans (ek.ap _)).ap _)) hf2
              rw [show i + 1 + 1 = i + 2 from by omega]
              refine ⟨h1.1, by omega, by omega, fun z => ?_, fun z => ?_⟩
              · rw [(md.2 z).1] at fin; exact fin
              · rw [md.1 z] at fin; exact fin
            refine b_X0_swapEachNth_2 C s_X3_append ?_
            rw [e21, e1]
            refine ⟨⟨h3, by omega, by omega, by omega⟩, h3, fun r τ1 o => ?_⟩
            have ct1 := ct.trans o.1
            rw [ct1.1 22 (by decide) (by decide), ct1.1 23 (by decide) (by decide), ct1.1 14 (by decide) (by decide)]
            refine ⟨h1.1, by omega, by omega, fun z => ?_, fun z => ?_⟩
            · have : q = σ 14 s h 2 := by rw [eq, if_neg z]
              rw [← this]; exact three τ1 o.1 o.2
            · have : q = σ 14 s h 1 := by rw [eq, if_pos z]
              rw [← this]; exact three τ1 o.1 o.2
          refine ⟨by omega, by omega, fun z => ?_, fun z => ?_⟩
          · rw [if_neg (md.2 z).2] at hf
            exact two _ (σ 14 s h 2) (by omega) (by omega) (by rw [if_neg z]) (by rw [if_neg z]) hf
          · rw [if_pos (md.1 z)] at hf
            exact two _ (σ 14 s h 1) (by omega) (by omega) (by rw [if_pos z]) (by rw [if_pos z]) hf
        · have hq2' : ¬ hasW (tW σ f) (i + 1) (σ 14 s h 2 + 97) = true := hq2
          exact hq2' (hasW_t.mpr ⟨by omega, z.1, z.2.2⟩)
  have h9 := key (σ 5 f 0 0).toNat 0 (fun _ => 0, 0) 0 σ (Int.le_refl _) hl.1 (by omega) Ct.rfl rfl ⟨h6, fun k a b => by have b' : k < σ 5 t 0 0 := b; omega⟩ rfl
  rw [show (0 : Int) % σ 14 s h 3 = 0 from Int.zero_emod _] at h9
  exact h9))
theorem s_X0_apply : H_X0_apply (fun σ s h f t => hOK σ s h ∧ (0 ≤ f ∧ f < σ 21 0 0 0 + 3) ∧ (0 ≤ t ∧ t < σ 21 0 0 0 + 3) ∧ ¬ f = t ∧ okW (tW σ f)) (fun σ s h f t _ σ' => oMk (σ 14 s h 0) σ s h f t σ') := fun l y σ s h f t hp => m_X0_apply (fun K _ C => b_X0_apply_0 C s_X0_skipOnce s_X0_swapEachNth s_X0_treatEachNth (by
  obtain ⟨h1, h2, h3, h4, h5⟩ := hp
  have hab := h1.2
  have ct : Ct t σ (upC σ 5 (up1 (σ 5) t 0)) := ⟨fun c a b => upC_n _ _ a, fun j p hj => ⟨up1_n _ _ _ _ hj, rfl⟩⟩
  have etf : tW (upC σ 5 (up1 (σ 5) t 0)) f = tW σ f := ct.tw h4
  have pm : pMk (upC σ 5 (up1 (σ 5) t 0)) s h f t := ⟨h1.ct ct, h2, h3, h4, by rw [etf]; exact h5, up1_s _ _ _ _ _⟩
  have fin : ∀ (kind : Int) (τ : CS), σ 14 s h 0 = kind → oMk kind (upC σ 5 (up1 (σ 5) t 0)) s h f t τ → oMk (σ 14 s h 0) σ s h f t τ := fun kind τ e o => by
    refine ⟨ct.trans o.1, ?_⟩
    have := o.2
    rw [etf] at this
    rw [e]
    exact this
  refine ⟨h3, h1.1, by omega, fun q => ⟨⟨pm, q⟩, fun r τ o => fin 3 τ q o⟩, fun q => ⟨fun q2 => ⟨⟨pm, q2⟩, fun r τ o => fin 4 τ q2 o⟩, fun q2 => ⟨⟨pm, ?_⟩, fun r τ o => fin _ τ rfl o⟩⟩⟩
  show σ 14 s h 0 ≤ 2
  omega))
