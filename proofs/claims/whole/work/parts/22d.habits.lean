/-! skip, swap, apply in the house -/
def nwF (a n : Int) (w : WO) (i : Int) : Int := if w.1 i = a ∧ nx a w (i + 1) < w.2 ∧ nx a w (i + 1) ≤ i + n then nx a w (i + 1) else -1
theorem s_X0_nextWithin : H_X0_nextWithin (fun σ s h f i => hOK σ s h ∧ (0 ≤ f ∧ f < σ 21 0 0 0 + 3) ∧ okW (tW σ f) ∧ 0 ≤ i ∧ i < σ 5 f 0 0) (fun σ s h f i => nwF (σ 14 s h 1 + 97) (σ 14 s h 3) (tW σ f) i) := fun l y σ s h f i hp => m_X0_nextWithin (fun K _ C => b_X0_nextWithin_0 C s_X3_has (by
  obtain ⟨h1, h2, h3, h4, h5⟩ := hp
  have hl : 0 ≤ σ 5 f 0 0 ∧ σ 5 f 0 0 ≤ 120 := h3.1
  have hab := h1.2
  have e97 : 97 + σ 14 s h 1 = σ 14 s h 1 + 97 := by omega
  have nin := nx_in (σ 14 s h 1 + 97) (tW σ f) (i + 1) (by show i + 1 ≤ σ 5 f 0 0; omega)
  have l2 : (tW σ f).2 = σ 5 f 0 0 := rfl
  rw [e97]
  refine ⟨h1.1, ⟨h2, h3, i32 (by omega), i32 (by omega)⟩, h2, fun q => ⟨?_, rfl⟩, fun q => ?_⟩
  · have q' : ¬ hasW (tW σ f) i (σ 14 s h 1 + 97) = true := q
    show -1 = nwF _ _ _ i
    unfold nwF
    rw [if_neg (fun z => q' (hasW_t.mpr ⟨h4, by omega, z.1⟩))]
  · have q' : hasW (tW σ f) i (σ 14 s h 1 + 97) = true := q
    have wi := (hasW_t.mp q').2.2
    refine loop_up (P := fun j => (∀ k, i + 1 ≤ k → k < j → k < σ 5 f 0 0 → ¬ (tW σ f).1 k = σ 14 s h 1 + 97) → P_X0_nextWithin_1 K y σ s h f i j) (i + 1) (i + σ 14 s h 3 + 1) (fun j j0 j1 ih hno => ?_) (i + 1) (Int.le_refl _) (by omega) (fun k a b => by omega)
    refine b_X0_nextWithin_1 C s_X3_has ?_
    rw [e97]
    refine ⟨h1.1, by omega, by omega, fun hc => ⟨?_, rfl⟩, fun hc => ⟨⟨h2, h3, i32 (by omega), i32 (by omega)⟩, h2, fun z => ih (by omega) (fun k a b c => ?_), fun z => ⟨?_, rfl⟩⟩⟩
    · show -1 = nwF _ _ _ i
      unfold nwF
      rw [if_neg (fun z => hno _ nin.1 (by omega) (by omega) (nin.2.2.1 z.2.1))]
    · have z' : ¬ hasW (tW σ f) j (σ 14 s h 1 + 97) = true := z
      by_cases hk : k = j
      · rw [hk] at c ⊢
        exact fun w => z' (hasW_t.mpr ⟨by omega, by omega, w⟩)
      · exact hno k a (by omega) c
    · have z' : hasW (tW σ f) j (σ 14 s h 1 + 97) = true := z
      have wj := hasW_t.mp z'
      have ej : nx (σ 14 s h 1 + 97) (tW σ f) (i + 1) = j := by
        rcases Int.lt_trichotomy (nx (σ 14 s h 1 + 97) (tW σ f) (i + 1)) j with g | g | g
        · exact absurd (nin.2.2.1 (by omega)) (hno _ nin.1 g (by omega))
        · exact g
        · exact absurd wj.2.2 (nin.2.2.2 j j0 g)
      show j = nwF _ _ _ i
      unfold nwF
      rw [ej, if_pos ⟨wi, by omega, by omega⟩]))
theorem s_X0_skipOnce : H_X0_skipOnce (fun σ s h f t => pMk σ s h f t ∧ σ 14 s h 0 = 3) (fun σ s h f t _ σ' => oMk 3 σ s h f t σ') := fun l y σ s h f t hp => m_X0_skipOnce (fun K _ C => b_X0_skipOnce_0 C (by
  obtain ⟨⟨h1, h2, h3, h4, h5, h6⟩, h7⟩ := hp
  have hl : 0 ≤ σ 5 f 0 0 ∧ σ 5 f 0 0 ≤ 120 := h5.1
  have hab := h1.2
  have hlr : (nrm (tW σ f)).2 = σ 5 f 0 0 := rfl
  have hnw : ∀ k, 0 ≤ k → k < σ 5 f 0 0 → (nrm (tW σ f)).1 k = σ 6 f k 0 := fun k x y => nrm_at x y
  have hx : ∀ k, 0 ≤ k → k < σ 5 f 0 0 → 97 ≤ σ 6 f k 0 ∧ σ 6 f k 0 ≤ 122 := fun k a b => h5.2 k a b
  -- behind the skip
  have rest : ∀ i0 j, 0 ≤ i0 → i0 < j → j < σ 5 f 0 0 → rmW (nrm (tW σ f)) i0 j = hb 3 (σ 14 s h 1 + 97) (σ 14 s h 2 + 97) (σ 14 s h 3) (tW σ f) → ∀ i, j + 1 ≤ i → i ≤ σ 5 f 0 0 → ∀ τ : CS, Ct t σ τ → τ 5 t 0 0 = i - (j - i0) → (∀ k, 0 ≤ k → k < i - (j - i0) → τ 6 t k 0 = (rmW (nrm (tW σ f)) i0 j).1 k) → P_X0_skipOnce_1 K y τ s h f t 1 i := by
    intro i0 j a0 a1 a2 hf i i0' i1'
    refine loop_up (P := fun i => ∀ τ : CS, Ct t σ τ → τ 5 t 0 0 = i - (j - i0) → (∀ k, 0 ≤ k → k < i - (j - i0) → τ 6 t k 0 = (rmW (nrm (tW σ f)) i0 j).1 k) → P_X0_skipOnce_1 K y τ s h f t 1 i) (j + 1) (σ 5 f 0 0) (fun i x0 x1 ih τ ct el ek => ?_) i i0' i1'
    have e21 := ct.1 21 (by decide) (by decide)
    have ef5 : τ 5 f 0 0 = σ 5 f 0 0 := (ct.2 f 0 h4).1
    have ef6 : ∀ p, τ 6 f p 0 = σ 6 f p 0 := fun p => (ct.2 f p h4).2
    refine b_X0_skipOnce_1 C s_X3_append s_X0_nextWithin ?_
    rw [e21, ef5, ef6]
    refine ⟨h2, by omega, by omega, fun hc => ⟨ct, ?_⟩, fun hc => ?_⟩
    · rw [← hf]
      exact ⟨by show τ 5 t 0 0 = σ 5 f 0 0 - (j - i0); omega, fun k a b => ek k a (by have b' : k < τ 5 t 0 0 := b; omega)⟩
    · have hxi := hx i (by omega) (by omega)
      refine ⟨by omega, ⟨h3, by omega, by omega⟩, h3, fun r τ' o => ⟨by decide, fun z => absurd z (by decide), fun _ => b_X0_skipOnce_2 C ⟨by decide, by omega, fun _ => ih (by omega) τ' (ct.trans o.1) ?_ (fun k a b => ?_), fun z => absurd z (by omega)⟩⟩⟩
      · have : τ' 5 t 0 0 = τ 5 t 0 0 + 1 := o.2.1
        omega
      · have lt' : τ' 5 t 0 0 = τ 5 t 0 0 + 1 := o.2.1
        have w : τ' 6 t k 0 = upI (fun p => τ 6 t p 0) (τ 5 t 0 0) (σ 6 f i 0) k := o.2.2 k a (by show k < τ' 5 t 0 0; omega)
        rw [w]
        by_cases hk : k = τ 5 t 0 0
        · rw [hk, upI_s]
          show _ = if τ 5 t 0 0 ≤ i0 then (nrm (tW σ f)).1 (τ 5 t 0 0) else (nrm (tW σ f)).1 (τ 5 t 0 0 + (j - i0))
          rw [if_neg (by omega), show τ 5 t 0 0 + (j - i0) = i from by omega, hnw i (by omega) (by omega)]
        · rw [upI_n _ _ hk]
          exact ek k a (by omega)
  have key : ∀ (d : Nat) (i : Int) (τ : CS), 0 ≤ i → i ≤ σ 5 f 0 0 → σ 5 f 0 0 - i ≤ d → Ct t σ τ → τ 5 t 0 0 = i → (∀ k, 0 ≤ k → k < i → τ 6 t k 0 = σ 6 f k 0) → skN (σ 14 s h 1 + 97) (σ 14 s h 3) (nrm (tW σ f)) d i = hb 3 (σ 14 s h 1 + 97) (σ 14 s h 2 + 97) (σ 14 s h 3) (tW σ f) → P_X0_skipOnce_1 K y τ s h f t 0 i := by
    intro d
    induction d with
    | zero =>
      intro i τ x0 x1 hd ct el ek hf
      have e21 := ct.1 21 (by decide) (by decide)
      have ef5 : τ 5 f 0 0 = σ 5 f 0 0 := (ct.2 f 0 h4).1
      refine b_X0_skipOnce_1 C s_X3_append s_X0_nextWithin ?_
      rw [e21, ef5]
      refine ⟨h2, by omega, by omega, fun hc => ⟨ct, ?_⟩, fun hc => absurd hc (by omega)⟩
      rw [← hf, skN_end 0 (by omega)]
      exact ⟨by show τ 5 t 0 0 = σ 5 f 0 0; omega, fun k a b => by have b' : k < τ 5 t 0 0 := b; rw [hnw k a (by omega)]; exact ek k a (by omega)⟩
    | succ d ih =>
      intro i τ x0 x1 hd ct el ek hf
      have e21 := ct.1 21 (by decide) (by decide)
      have ef5 : τ 5 f 0 0 = σ 5 f 0 0 := (ct.2 f 0 h4).1
      have ef6 : ∀ p, τ 6 f p 0 = σ 6 f p 0 := fun p => (ct.2 f p h4).2
      refine b_X0_skipOnce_1 C s_X3_append s_X0_nextWithin ?_
      rw [e21, ef5, ef6]
      refine ⟨h2, by omega, by omega, fun hc => ⟨ct, ?_⟩, fun hc => ?_⟩
      · rw [← hf, skN_end _ (by omega)]
        exact ⟨by show τ 5 t 0 0 = σ 5 f 0 0; omega, fun k a b => by have b' : k < τ 5 t 0 0 := b; rw [hnw k a (by omega)]; exact ek k a (by omega)⟩
      · have hi : i < σ 5 f 0 0 := by omega
        have hxi := hx i x0 hi
        have nin := nx_in (σ 14 s h 1 + 97) (nrm (tW σ f)) (i + 1) (by omega)
        refine ⟨by omega, ⟨h3, by omega, by omega⟩, h3, fun r τ' o => ⟨by decide, fun _ => ?_, fun z => absurd rfl z⟩⟩
        have ct' := ct.trans o.1
        have lt' : τ' 5 t 0 0 = τ 5 t 0 0 + 1 := o.2.1
        have ek' : ∀ k, 0 ≤ k → k < i + 1 → τ' 6 t k 0 = σ 6 f k 0 := fun k a b => by
          have w : τ' 6 t k 0 = upI (fun p => τ 6 t p 0) (τ 5 t 0 0) (σ 6 f i 0) k := o.2.2 k a (by show k < τ' 5 t 0 0; omega)
          rw [w]
          by_cases hk : k = τ 5 t 0 0
          · rw [hk, upI_s, el]
          · rw [upI_n _ _ hk]; exact ek k a (by omega)
        have etf := ct'.tw h4
        have e14 := ct'.1 14 (by decide) (by decide)
        have e21' := ct'.1 21 (by decide) (by decide)
        have e22' := ct'.1 22 (by decide) (by decide)
        have e23' := ct'.1 23 (by decide) (by decide)
        have ev : nwF (σ 14 s h 1 + 97) (σ 14 s h 3) (tW σ f) i = nwF (σ 14 s h 1 + 97) (σ 14 s h 3) (nrm (tW σ f)) i := by
          have en : ∀ j, i + 1 ≤ j → j ≤ σ 5 f 0 0 → nx (σ 14 s h 1 + 97) (tW σ f) j = nx (σ 14 s h 1 + 97) (nrm (tW σ f)) j := fun j a b => by
            refine loop_up (P := fun j => nx (σ 14 s h 1 + 97) (tW σ f) j = nx (σ 14 s h 1 + 97) (nrm (tW σ f)) j) (i + 1) (σ 5 f 0 0) (fun j a b jh => ?_) j a b
            by_cases hj : j < σ 5 f 0 0
            · by_cases hy : σ 6 f j 0 = σ 14 s h 1 + 97
              · rw [nx_yes (j := j) _ (tW σ f) hy, nx_yes (j := j) _ (nrm (tW σ f)) (by rw [hnw j (by omega) hj]; exact hy)]
              · rw [nx_no (j := j) _ (tW σ f) hj hy, nx_no (j := j) _ (nrm (tW σ f)) hj (by rw [hnw j (by omega) hj]; exact hy)]
                exact jh hj
            · rw [nx_end (j := j) _ (tW σ f) (by show σ 5 f 0 0 ≤ j; omega), nx_end (j := j) _ (nrm (tW σ f)) (by omega)]
          unfold nwF
          rw [en (i + 1) (Int.le_refl _) (by omega), hnw i x0 hi]
          rfl
        refine ⟨⟨h1.ct ct', by rw [e21']; exact h2, by rw [etf]; exact h5, x0, by rw [(ct'.2 f 0 h4).1]; exact hi⟩, ?_, ?_⟩
        · rw [e22', e23']; exact h1.1
        · rw [e14, etf, ev]
          unfold nwF
          by_cases hq : (nrm (tW σ f)).1 i = σ 14 s h 1 + 97 ∧ nx (σ 14 s h 1 + 97) (nrm (tW σ f)) (i + 1) < (nrm (tW σ f)).2 ∧ nx (σ 14 s h 1 + 97) (nrm (tW σ f)) (i + 1) ≤ i + σ 14 s h 3
          · rw [if_pos hq]
            rw [skN_yes (show i < (nrm (tW σ f)).2 from hi) hq] at hf
            refine b_X0_skipOnce_2 C ⟨by omega, by omega, fun z => absurd z (by omega), fun _ => rest i _ x0 (by omega) (by omega) hf _ (Int.le_refl _) (by omega) τ' ct' (by omega) (fun k a b => ?_)⟩
            rw [ek' k a (by omega)]
            show _ = if k ≤ i then (nrm (tW σ f)).1 k else (nrm (tW σ f)).1 (k + (nx (σ 14 s h 1 + 97) (nrm (tW σ f)) (i + 1) - i))
            rw [if_pos (by omega), hnw k a (by omega)]
          · rw [if_neg hq]
            rw [skN_no (show i < (nrm (tW σ f)).2 from hi) hq] at hf
            exact b_X0_skipOnce_2 C ⟨by decide, by omega, fun _ => ih (i + 1) τ' (by omega) (by omega) (by omega) ct' (by omega) ek' hf, fun z => absurd z (by omega)⟩
  exact key (σ 5 f 0 0).toNat 0 σ (Int.le_refl _) hl.1 (by omega) Ct.rfl h6 (fun k a b => by omega) rfl))
