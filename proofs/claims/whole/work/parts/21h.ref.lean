/-! votes; a scribe's copy -/
theorem sumI_ex {f : Int → Int} (n : Int) (hn : 0 ≤ n) (h : 0 < sumI f n) : ∃ k, (0 ≤ k ∧ k < n) ∧ 0 < f k := by
  revert h
  refine int_up (P := fun n => 0 < sumI f n → ∃ k, (0 ≤ k ∧ k < n) ∧ 0 < f k) (fun h => absurd h (by rw [sumI_0]; decide)) (fun i hi ih h => ?_) n hn
  rw [sumI_s f hi] at h
  by_cases hq : 0 < f i
  · exact ⟨i, ⟨hi, by omega⟩, hq⟩
  · obtain ⟨k, hk, hf⟩ := ih (by omega)
    exact ⟨k, ⟨hk.1, by omega⟩, hf⟩
theorem sumI_pos {f : Int → Int} (n : Int) (hn : 0 ≤ n) (h : ∀ k, 0 ≤ k → k < n → 0 ≤ f k) {j : Int} (j0 : 0 ≤ j) (j1 : j < n) (hj : 0 < f j) : 0 < sumI f n := by
  revert h j1
  refine int_up (P := fun n => (∀ k, 0 ≤ k → k < n → 0 ≤ f k) → j < n → 0 < sumI f n) (fun _ q => by omega) (fun i hi ih h j1 => ?_) n hn
  rw [sumI_s f hi]
  have h1 := h i hi (by omega)
  by_cases hq : j = i
  · subst hq
    have : 0 ≤ sumI f j := by
      refine int_up (P := fun n => n ≤ j → 0 ≤ sumI f n) (fun _ => by rw [sumI_0]; exact Int.le_refl _) (fun k hk ih q => ?_) j j0 (Int.le_refl _)
      rw [sumI_s f hk]
      have a := ih (by omega)
      have b := h k hk (by omega)
      omega
    omega
  · have := ih (fun k a b => h k a (by omega)) (by omega)
    omega
theorem amxI_gt (f : Int → Int) (n : Int) (hn : 0 ≤ n) : 0 < amxI f n → f 0 < f (amxI f n) := by
  refine int_up (P := fun n => 0 < amxI f n → f 0 < f (amxI f n)) (fun h => absurd h (by rw [amxI_0]; decide)) (fun i hi ih h => ?_) n hn
  rw [amxI_s f hi] at h ⊢
  by_cases hq : f (amxI f i) < f i
  · rw [if_pos hq] at h ⊢
    have := amxI_in f i hi
    by_cases h0 : 0 < amxI f i
    · have := ih h0; omega
    · rw [show amxI f i = 0 from by omega] at hq; exact hq
  · rw [if_neg hq] at h ⊢; exact ih h
theorem vMany_in {σ : MS} (h : MO σ) (s : Int) : 0 ≤ vMany (mV σ) s ∧ vMany (mV σ) s ≤ 24 := by
  have hn := h.n
  have := sumI_in (f := fun m => if ¬ σ 8 m = 0 ∧ σ 5 m = s then 1 else 0) 1 (σ 3 0) hn.1 (fun k _ _ => by show 0 ≤ (if ¬ σ 8 k = 0 ∧ σ 5 k = s then (1 : Int) else 0) ∧ _; split <;> decide)
  have e : vMany (mV σ) s = sumI (fun m => if ¬ σ 8 m = 0 ∧ σ 5 m = s then 1 else 0) (σ 3 0) := rfl
  omega
theorem vManyL_in {σ : MS} (h : MO σ) (p s b : Int) : 0 ≤ vManyL (mV σ) p s b ∧ vManyL (mV σ) p s b ≤ 24 := by
  have hn := h.n
  have := sumI_in (f := fun m => if ¬ σ 8 m = 0 ∧ σ 5 m = s ∧ σ 4 (120 * m + p) = 97 + b then 1 else 0) 1 (σ 3 0) hn.1 (fun k _ _ => by show 0 ≤ (if ¬ σ 8 k = 0 ∧ σ 5 k = s ∧ σ 4 (120 * k + p) = 97 + b then (1 : Int) else 0) ∧ _; split <;> decide)
  have e : vManyL (mV σ) p s b = sumI (fun m => if ¬ σ 8 m = 0 ∧ σ 5 m = s ∧ σ 4 (120 * m + p) = 97 + b then 1 else 0) (σ 3 0) := rfl
  omega
theorem vLen_in (V : VT) : 0 ≤ vLen V ∧ vLen V ≤ 120 := by
  have := amxI_in (vMany V) 121 (by decide)
  unfold vLen
  omega
theorem vLet_in (V : VT) (p s : Int) : 97 ≤ vLet V p s ∧ vLet V p s ≤ 122 := by
  have := amxI_in (vManyL V p s) 26 (by decide)
  unfold vLet
  omega
theorem vVote_ok (V : VT) : okW (vVote V) := ⟨vLen_in V, fun k _ _ => vLet_in V k (vLen V)⟩
theorem vLet_pos {σ : MS} (h : MO σ) {p : Int} (p0 : 0 ≤ p) (p1 : p < vLen (mV σ)) : ∃ b, (0 ≤ b ∧ b < 26) ∧ 0 < vManyL (mV σ) p (vLen (mV σ)) b := by
  have hn := h.n
  have a := amxI_gt (vMany (mV σ)) 121 (by decide) (by show 0 < vLen (mV σ); omega)
  have a0 := vMany_in h 0
  obtain ⟨k, hk, hf⟩ := sumI_ex (f := fun m => if ¬ σ 8 m = 0 ∧ σ 5 m = vLen (mV σ) then 1 else 0) (σ 3 0) hn.1 (by show 0 < vMany (mV σ) (vLen (mV σ)); unfold vLen; omega)
  have hc : ¬ σ 8 k = 0 ∧ σ 5 k = vLen (mV σ) := Decidable.byContradiction fun q => by rw [if_neg q] at hf; exact absurd hf (by decide)
  have hl := h.lt hk.1 hk.2 p0 (by rw [hc.2]; exact p1)
  refine ⟨σ 4 (120 * k + p) - 97, by omega, ?_⟩
  refine sumI_pos (f := fun m => if ¬ σ 8 m = 0 ∧ σ 5 m = vLen (mV σ) ∧ σ 4 (120 * m + p) = 97 + (σ 4 (120 * k + p) - 97) then 1 else 0) (σ 3 0) hn.1 (fun j _ _ => by show 0 ≤ (if ¬ σ 8 j = 0 ∧ σ 5 j = vLen (mV σ) ∧ σ 4 (120 * j + p) = 97 + (σ 4 (120 * k + p) - 97) then (1 : Int) else 0); split <;> decide) hk.1 hk.2 ?_
  show 0 < (if ¬ σ 8 k = 0 ∧ σ 5 k = vLen (mV σ) ∧ σ 4 (120 * k + p) = 97 + (σ 4 (120 * k + p) - 97) then (1 : Int) else 0)
  rw [if_pos ⟨hc.1, hc.2, by omega⟩]
  decide
theorem s_X5_votedLength : H_X5_votedLength (fun σ => MO σ) (fun σ => vLen (mV σ)) := fun l L c σ hp => m_X5_votedLength (fun K _ C => b_X5_votedLength_0 C (by
  have hn := hp.n
  refine loop_up (P := fun s => ∀ most, ((s = 0 ∧ most = 0) ∨ (0 < s ∧ most = vMany (mV σ) (amxI (vMany (mV σ)) s))) → P_X5_votedLength_1 K L c σ (amxI (vMany (mV σ)) s) most s) 0 121 (fun s s0 s1 ih most hmo => ?_) 0 (Int.le_refl _) (by decide) 0 (Or.inl ⟨rfl, rfl⟩)
  refine b_X5_votedLength_1 C ⟨by omega, fun hc => ⟨by rw [show s = 121 from by omega]; rfl, rfl⟩, fun hc => ?_⟩
  have hvs := vMany_in hp s
  have hvb := vMany_in hp (amxI (vMany (mV σ)) s)
  have hmost : 0 ≤ most ∧ most ≤ 24 := by omega
  refine loop_up (P := fun i => P_X5_votedLength_2 K L c σ (amxI (vMany (mV σ)) s) most s (sumI (fun m => if ¬ σ 8 m = 0 ∧ σ 5 m = s then 1 else 0) i) i) 0 (σ 3 0) (fun i h0 h1 jh => ?_) 0 (Int.le_refl _) hn.1
  have es := amxI_s (vMany (mV σ)) s0
  refine b_X5_votedLength_2 C ⟨by omega, by omega, fun hd => ?_, fun hd => ?_⟩
  · have ei : i = σ 3 0 := by omega
    rw [ei]
    show (-2147483648 ≤ vMany (mV σ) s ∧ vMany (mV σ) s < 2147483648) ∧ (-2147483648 ≤ most ∧ most < 2147483648) ∧ ((most < vMany (mV σ) s → P_X5_votedLength_1 K L c σ s (vMany (mV σ) s) (s + 1)) ∧ (¬ most < vMany (mV σ) s → P_X5_votedLength_1 K L c σ (amxI (vMany (mV σ)) s) most (s + 1)))
    refine ⟨by omega, by omega, fun hq => ?_, fun hq => ?_⟩
    · have e9 : amxI (vMany (mV σ)) (s + 1) = s := by
        rcases hmo with ⟨x, y⟩ | ⟨x, y⟩
        · rw [x]; exact amxI_1 _
        · rw [es, if_pos (by omega)]
      have h9 := ih (by omega) (vMany (mV σ) s) (Or.inr ⟨by omega, by rw [e9]⟩)
      rw [e9] at h9; exact h9
    · have e9 : amxI (vMany (mV σ)) (s + 1) = amxI (vMany (mV σ)) s ∧ most = vMany (mV σ) (amxI (vMany (mV σ)) s) := by
        rcases hmo with ⟨x, y⟩ | ⟨x, y⟩
        · subst x
          exact ⟨amxI_1 _, by rw [amxI_0]; omega⟩
        · rw [es, if_neg (by omega)]; exact ⟨rfl, y⟩
      have h9 := ih (by omega) most (Or.inr ⟨by omega, by rw [e9.1]; exact e9.2⟩)
      rw [e9.1] at h9; exact h9
  · have th := hp.th h0 (by omega)
    have ln := hp.ln h0 (by omega)
    have h9 := jh (by omega)
    rw [sumI_s _ h0] at h9
    refine ⟨by omega, by omega, fun q => ?_, fun q => ⟨by omega, by omega, fun q2 => ?_, fun q2 => ?_⟩⟩
    · rw [if_neg (fun z => z.1 q)] at h9; exact h9
    · rw [if_neg (fun z => q2 z.2)] at h9; exact h9
    · rw [if_pos ⟨q, q2⟩] at h9; exact h9))
theorem s_X5_voted : H_X5_voted (fun σ p s => MO σ ∧ (0 ≤ p ∧ p < s) ∧ s = vLen (mV σ)) (fun σ p s => vLet (mV σ) p s) := fun l L c σ p s hp => m_X5_voted (fun K _ C => b_X5_voted_0 C (by
  obtain ⟨hp, ⟨p0, p1⟩, hs⟩ := hp
  have hn := hp.n
  have hsl := vLen_in (mV σ)
  refine loop_up (P := fun b => ∀ best most, ((best = 0 ∧ most = 0 ∧ ∀ j, 0 ≤ j → j < b - 97 → vManyL (mV σ) p s j = 0) ∨ (97 < b ∧ best = 97 + amxI (vManyL (mV σ) p s) (b - 97) ∧ most = vManyL (mV σ) p s (amxI (vManyL (mV σ) p s) (b - 97)))) → P_X5_voted_1 K L c σ p s best most b) 97 123 (fun b b0 b1 ih best most hmo => ?_) 97 (Int.le_refl _) (by decide) 0 0 (Or.inl ⟨rfl, rfl, fun j x y => by omega⟩)
  refine b_X5_voted_1 C ⟨by omega, fun hc => ⟨?_, rfl⟩, fun hc => ?_⟩
  · have e9 : b - 97 = 26 := by omega
    rw [e9] at hmo
    rcases hmo with ⟨x, y, z⟩ | ⟨x, y, z⟩
    · obtain ⟨j, hj, hf⟩ := vLet_pos hp p0 (by rw [← hs]; exact p1)
      rw [← hs, z j hj.1 hj.2] at hf
      exact absurd hf (by decide)
    · exact y
  · have hvs := vManyL_in hp p s (b - 97)
    have hvb := vManyL_in hp p s (amxI (vManyL (mV σ) p s) (b - 97))
    have hmost : 0 ≤ most ∧ most ≤ 24 := by omega
    have es := amxI_s (vManyL (mV σ) p s) (show 0 ≤ b - 97 by omega)
    have eb : b + 1 - 97 = b - 97 + 1 := by omega
    refine loop_up (P := fun i => P_X5_voted_2 K L c σ p s best most b (sumI (fun m => if ¬ σ 8 m = 0 ∧ σ 5 m = s ∧ σ 4 (120 * m + p) = 97 + (b - 97) then 1 else 0) i) i) 0 (σ 3 0) (fun i h0 h1 jh => ?_) 0 (Int.le_refl _) hn.1
    refine b_X5_voted_2 C ⟨by omega, by omega, fun hd => ?_, fun hd => ?_⟩
    · have ei : i = σ 3 0 := by omega
      rw [ei]
      show (-2147483648 ≤ vManyL (mV σ) p s (b - 97) ∧ vManyL (mV σ) p s (b - 97) < 2147483648) ∧ (-2147483648 ≤ most ∧ most < 2147483648) ∧ ((most < vManyL (mV σ) p s (b - 97) → P_X5_voted_1 K L c σ p s b (vManyL (mV σ) p s (b - 97)) (b + 1)) ∧ (¬ most < vManyL (mV σ) p s (b - 97) → P_X5_voted_1 K L c σ p s best most (b + 1)))
      refine ⟨by omega, by omega, fun hq => ?_, fun hq => ?_⟩
      · have e9 : amxI (vManyL (mV σ) p s) (b - 97 + 1) = b - 97 := by
          rcases hmo with ⟨x, y, z⟩ | ⟨x, y, z⟩
          · rw [es]
            by_cases h97 : b = 97
            · rw [h97]; show (if vManyL (mV σ) p s (amxI (vManyL (mV σ) p s) 0) < vManyL (mV σ) p s 0 then (0 : Int) else amxI (vManyL (mV σ) p s) 0) = 0; rw [amxI_0]; split <;> rfl
            · have ain := amxI_in (vManyL (mV σ) p s) (b - 97) (by omega)
              rw [if_pos (by rw [z _ ain.1 (by omega)]; omega)]
          · rw [es, if_pos (by omega)]
        refine ih (by omega) b _ (Or.inr ⟨by omega, ?_, ?_⟩)
        · rw [eb, e9]; omega
        · rw [eb, e9]
      · rcases hmo with ⟨x, y, z⟩ | ⟨x, y, z⟩
        · refine ih (by omega) best most (Or.inl ⟨x, y, fun j j0 j1 => ?_⟩)
          by_cases hj : j = b - 97
          · rw [hj]; omega
          · exact z j j0 (by omega)
        · refine ih (by omega) best most (Or.inr ⟨by omega, ?_, ?_⟩)
          · rw [eb, es, if_neg (by omega)]; exact y
          · rw [eb, es, if_neg (by omega)]; exact z
    · have th := hp.th h0 (by omega)
      have ln := hp.ln h0 (by omega)
      have h9 := jh (by omega)
      rw [sumI_s _ h0] at h9
      refine ⟨by omega, by omega, fun q => ?_, fun q => ⟨by omega, by omega, fun q2 => ?_, fun q2 => ?_⟩⟩
      · rw [if_neg (fun z => z.1 q)] at h9; exact h9
      · rw [if_neg (fun z => q2 z.2.1)] at h9; exact h9
      · have lt := hp.lt h0 (by omega) p0 (by omega)
        refine ⟨by omega, by omega, by omega, fun q3 => ?_, fun q3 => ?_⟩
        · rw [if_neg (fun z => q3 (by have := z.2.2; omega))] at h9; exact h9
        · rw [if_pos ⟨q, q2, by omega⟩] at h9; exact h9))
theorem s_X5_copyBy : H_X5_copyBy (fun σ s => (okW (frM σ) ∧ MO σ) ∧ 0 ≤ s ∧ s < 8) (fun σ s _ σ' => Sn σ σ' ∧ eqW (frM σ') (vCopyW (mV σ) s (frM σ))) := fun l L c σ s hp => m_X5_copyBy (fun K _ C => b_X5_copyBy_0 C (by
  obtain ⟨⟨ho, hp⟩, s0, s1⟩ := hp
  have hnh := (hp.nh s0 s1).1
  have hha := hp.ha s0 s1
  refine loop_up (P := fun k => ∀ τ : MS, Sn σ τ → eqW (frM τ) (fdT (scF (haM σ s)) (frM σ) k) → P_X5_copyBy_1 K L c τ s k) 0 (σ 10 s) (fun k h0 h1 ih τ hs he => ?_) 0 (Int.le_refl _) hnh.1 σ Sn.rfl (by rw [fdT_0]; exact eqW.rfl)
  have e10 := hs 10 (by decide)
  have e11 := hs 11 (by decide)
  refine b_X5_copyBy_1 C s_X5_swap s_X5_skip s_X5_twice s_X5_drop s_X5_change ?_
  rw [e10, e11]
  refine ⟨by omega, by omega, by omega, fun hc => ⟨hs, ?_⟩, fun hc => ?_⟩
  · rw [show k = σ 10 s from by omega] at he; exact he
  · have hk := hha k h0 (by omega)
    have a0 : haM σ s k 0 = σ 11 (4 * ((5 * s) + k)) := by show σ 11 (4 * (5 * s + k) + 0) = _; rw [Int.add_zero]
    have a1 : haM σ s k 1 = σ 11 ((4 * ((5 * s) + k)) + 1) := rfl
    have a2 : haM σ s k 2 = σ 11 ((4 * ((5 * s) + k)) + 2) := rfl
    have a3 : haM σ s k 3 = σ 11 ((4 * ((5 * s) + k)) + 3) := rfl
    rw [a0, a1, a2, a3] at hk
    have okt : okW (frM τ) := (scW_ok hha ho k h0 h1).eq he.symm
    have es := fdT_s (scF (haM σ s)) (frM σ) h0
    have fin : ∀ τ' : MS, oHb (σ 11 (4 * ((5 * s) + k))) τ ((σ 11 ((4 * ((5 * s) + k)) + 1)) + 97) ((σ 11 ((4 * ((5 * s) + k)) + 2)) + 97) (σ 11 ((4 * ((5 * s) + k)) + 3)) τ' → P_X5_copyBy_1 K L c τ' s (k + 1) := fun τ' o => by
      refine ih (by omega) τ' (hs.trans o.1) ?_
      rw [es]
      show eqW (frM τ') (hb (haM σ s k 0) (haM σ s k 1 + 97) (haM σ s k 2 + 97) (haM σ s k 3) (fdT (scF (haM σ s)) (frM σ) k))
      rw [a0, a1, a2, a3, ← hb_eq _ _ _ _ he]
      exact o.2
    refine ⟨by omega, by omega, by omega, by omega, by omega, fun q0 => ⟨fun q1 => ⟨fun q2 => ⟨fun q3 => ⟨⟨okt, by omega, by omega, by omega⟩, fun r τ' o => fin τ' ?_⟩, fun q3 => ⟨⟨okt, by omega, by omega⟩, fun r τ' o => fin τ' ?_⟩⟩, fun q2 => ⟨⟨okt, by omega, by omega⟩, fun r τ' o => fin τ' ?_⟩⟩, fun q1 => ⟨⟨okt, by omega, by omega⟩, fun r τ' o => fin τ' ?_⟩⟩, fun q0 => ⟨⟨okt, by omega, by omega, by omega⟩, fun r τ' o => fin τ' ?_⟩⟩
    · rw [show σ 11 (4 * ((5 * s) + k)) = 4 from by omega]; exact o
    · rw [q3]; exact ⟨o.1, by rw [hb_b (b' := 97) (by decide) (by decide)]; exact o.2⟩
    · rw [q2]; exact ⟨o.1, by rw [hb_b (b' := 97) (by decide) (by decide)]; exact o.2⟩
    · rw [q1]; exact ⟨o.1, by rw [hb_b (b' := 97) (by decide) (by decide)]; exact o.2⟩
    · rw [q0]; exact o))
