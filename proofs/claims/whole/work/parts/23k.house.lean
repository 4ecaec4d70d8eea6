/-! the house's tape -/
theorem s_X4_tapeIsText : H_X4_tapeIsText (fun σ => CO σ) (fun σ => (decide (0 < σ 0 0 0 0) && (List.range (σ 0 0 0 0).toNat).all (fun i => inB (σ 1 i 0 0 - 97) 0 25))) := fun l y σ hp => m_X4_tapeIsText (fun K _ C => b_X4_tapeIsText_0 C (by
  have tl := hp.tl
  have fin : ∀ r : Int, (r = if (decide (0 < σ 0 0 0 0) && (List.range (σ 0 0 0 0).toNat).all (fun i => inB (σ 1 i 0 0 - 97) 0 25)) = true then 1 else 0) → r = (if (decide (0 < σ 0 0 0 0) && (List.range (σ 0 0 0 0).toNat).all (fun i => inB (σ 1 i 0 0 - 97) 0 25)) = true then 1 else 0) ∧ σ = σ := fun r h => ⟨h, rfl⟩
  refine loop_up (P := fun i => (∀ k, 0 ≤ k → k < i → inB (σ 1 k 0 0 - 97) 0 25 = true) → P_X4_tapeIsText_1 K y σ i) 0 (σ 0 0 0 0) (fun i h0 h1 ih hg => ?_) 0 (Int.le_refl _) tl.1 (fun k a b => by omega)
  refine b_X4_tapeIsText_1 C s_X4_isLetter ⟨by omega, by omega, fun hc => fin _ ?_, fun hc => ?_⟩
  · have ha : (List.range (σ 0 0 0 0).toNat).all (fun i => inB (σ 1 i 0 0 - 97) 0 25) = true := List.all_eq_true.mpr fun k hk => hg k (by omega) (by have := List.mem_range.mp hk; omega)
    rw [ha, Bool.and_true]
    by_cases q : σ 0 0 0 0 ≤ 0
    · rw [if_neg (fun z => z q), if_neg (fun z => by have := of_decide_eq_true z; omega)]
    · rw [if_pos q, if_pos (decide_eq_true (by omega))]
  · have tb := hp.tb h0 (show i < 60 by omega)
    refine ⟨by omega, i32 (by omega), fun q => ih (by omega) (fun k a b => ?_), fun q => fin _ ?_⟩
    · by_cases hk : k = i
      · rw [hk]; exact q
      · exact hg k a (by omega)
    · have q' : ¬ inB (σ 1 i 0 0 - 97) 0 25 = true := q
      rw [if_neg]
      intro z
      have z2 := (Bool.and_eq_true _ _ ▸ z : decide (0 < σ 0 0 0 0) = true ∧ (List.range (σ 0 0 0 0).toNat).all (fun i => inB (σ 1 i 0 0 - 97) 0 25) = true).2
      have z3 := List.all_eq_true.mp z2 i.toNat (List.mem_range.mpr (by omega))
      rw [toNat_c h0] at z3
      exact q' z3))
theorem good_c {σ : CS} (h : CO σ) : (decide (0 < σ 0 0 0 0) && (List.range (σ 0 0 0 0).toNat).all (fun i => inB (σ 1 i 0 0 - 97) 0 25)) = true ↔ vGood (cV σ) := by
  rw [Bool.and_eq_true, decide_eq_true_eq, List.all_eq_true]
  refine ⟨fun q => ⟨q.1, fun i a b => ?_⟩, fun q => ⟨q.1, fun k hk => ?_⟩⟩
  · have b' : i < σ 0 0 0 0 := b
    have z := inB_t.mp (q.2 i.toNat (List.mem_range.mpr (by omega)))
    rw [toNat_c a] at z
    show 97 ≤ σ 1 i 0 0 ∧ σ 1 i 0 0 ≤ 122
    omega
  · have z := q.2 (k : Int) (by omega) (by have := List.mem_range.mp hk; show (k : Int) < σ 0 0 0 0; omega)
    have z' : 97 ≤ σ 1 k 0 0 ∧ σ 1 k 0 0 ≤ 122 := z
    exact inB_t.mpr (by omega)
theorem s_X4_draftFromTape : H_X4_draftFromTape (fun σ => CI σ ∧ vGood (cV σ)) (fun σ _ σ' => Cm σ σ' ∧ CI σ' ∧ eqW (tW σ' 0) (vTape (cV σ))) := fun l y σ hp => m_X4_draftFromTape (fun K _ C => b_X4_draftFromTape_0 C (by
  obtain ⟨hp, hg⟩ := hp
  have tl := hp.1.tl
  have n := hp.1.n
  have e21 := hp.1.e21
  have gd : ∀ i, 0 ≤ i → i < σ 0 0 0 0 → 97 ≤ σ 1 i 0 0 ∧ σ 1 i 0 0 ≤ 122 := hg.2
  refine ⟨by omega, ?_⟩
  refine loop_up (P := fun i => ∀ τ : CS, Ct 0 σ τ → eqW (tW τ 0) (fun p => σ 1 p 0 0, i) → P_X4_draftFromTape_1 K y τ i) 0 (σ 0 0 0 0) (fun i h0 h1 ih τ ct e => ?_) 0 (Int.le_refl _) tl.1 _ ⟨fun c a b => upC_n _ _ a, fun j p hj => ⟨up1_n _ _ _ _ hj, rfl⟩⟩ ⟨show up1 (σ 5) 0 0 0 0 0 = 0 from up1_s _ _ _ _ _, fun k a b => by have b' : k < up1 (σ 5) 0 0 0 0 0 := b; rw [up1_s] at b'; omega⟩
  have f0 : τ 0 0 0 0 = σ 0 0 0 0 := by rw [ct.1 0 (by decide) (by decide)]
  have f1 : ∀ k, τ 1 k 0 0 = σ 1 k 0 0 := fun k => by rw [ct.1 1 (by decide) (by decide)]
  have f21 : τ 21 0 0 0 = σ 21 0 0 0 := by rw [ct.1 21 (by decide) (by decide)]
  have e5 : τ 5 0 0 0 = i := e.1
  refine b_X4_draftFromTape_1 C s_X3_append ?_
  rw [f0, f1, f21]
  refine ⟨by omega, by omega, fun hc => ?_, fun hc => ?_⟩
  · have cm := ct.cm (by decide)
    have ei : i = σ 0 0 0 0 := by omega
    have ok : okW (tW τ 0) := okW.eq (w := (fun p => σ 1 p 0 0, i)) ⟨⟨h0, by show i ≤ 120; omega⟩, fun k a b => gd k a (by have b' : k < i := b; omega)⟩ e.symm
    refine ⟨cm, ⟨hp.1.cm cm, hp.2.1.ct ct ok, hp.2.2.cm cm (ct.1 4 (by decide) (by decide))⟩, ?_⟩
    rw [ei] at e; exact e
  · have g := gd i h0 (by omega)
    refine ⟨by omega, ⟨by omega, by omega, by omega⟩, by omega, fun r ρ o => ih (by omega) ρ (ct.trans o.1) ?_⟩
    refine o.2.trans ((e.ap _).trans ⟨rfl, fun k a b => ?_⟩)
    show upI (fun p => σ 1 p 0 0) i (σ 1 i 0 0) k = σ 1 k 0 0
    by_cases hk : k = i
    · rw [hk, upI_s]
    · rw [upI_n _ _ hk]))
