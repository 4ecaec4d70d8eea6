/-! habits, emend -/
theorem s_X5_addHabit : H_X5_addHabit (fun σ s kind a b n => MI σ ∧ in32 s ∧ in32 kind ∧ in32 a ∧ in32 b ∧ in32 n) (fun σ s kind a b n r σ' => oM σ (tAddH (mV σ) s kind a b n) (fun r V => r = mV σ 10 s 0 0 + 1 ∧ VE V (nHabit (mV σ) s kind a b n)) r σ') := fun l L c σ s kind a b n hp => m_X5_addHabit (fun K _ C => b_X5_addHabit_0 C s_X5_isScribe' s_X5_isIn s_X5_no (by
  obtain ⟨hp, hs, hk, ha, hb, hn⟩ := hp
  have hns := hp.1.ns
  have e9 : mV σ 3 0 0 0 = σ 9 0 := rfl
  refine ⟨⟨hp.u0 _, hs⟩, fun hc => ?_, fun hc => ⟨trivial, oM.t hp (if_pos (fun q => hc ((itS (σ := σ)).mpr q))) (by decide)⟩⟩
  have hc' := (itS (σ := σ)).mp hc
  have two : (¬ (0 ≤ kind ∧ kind ≤ 4) ∨ ¬ (0 ≤ a ∧ a ≤ 25) ∨ ¬ (0 ≤ b ∧ b ≤ 25) ∨ ¬ (1 ≤ n ∧ n ≤ 9)) → tAddH (mV σ) s kind a b n = 2 := fun q => by unfold tAddH; rw [if_neg (fun z => z hc'), if_pos q]
  refine ⟨⟨hk, i32 (by decide), i32 (by decide)⟩, fun q => ⟨trivial, oM.t hp (two (Or.inl (inB_f.mp q))) (by decide)⟩, fun q => ⟨⟨ha, i32 (by decide), i32 (by decide)⟩, fun q2 => ⟨trivial, oM.t hp (two (Or.inr (Or.inl (inB_f.mp q2)))) (by decide)⟩, fun q2 => ⟨⟨hb, i32 (by decide), i32 (by decide)⟩, fun q3 => ⟨trivial, oM.t hp (two (Or.inr (Or.inr (Or.inl (inB_f.mp q3))))) (by decide)⟩, fun q3 => ⟨⟨hn, i32 (by decide), i32 (by decide)⟩, fun q4 => ?_, fun q4 => ⟨trivial, oM.t hp (two (Or.inr (Or.inr (Or.inr (inB_f.mp q4))))) (by decide)⟩⟩⟩⟩⟩
  have k1 := inB_t.mp q
  have k2 := inB_t.mp q2
  have k3 := inB_t.mp q3
  have k4 := inB_t.mp q4
  have nt : ¬ (¬ (0 ≤ kind ∧ kind ≤ 4) ∨ ¬ (0 ≤ a ∧ a ≤ 25) ∨ ¬ (0 ≤ b ∧ b ≤ 25) ∨ ¬ (1 ≤ n ∧ n ≤ 9)) := by omega
  have nh := (hp.1.nh hc'.1 (show s < 8 by omega)).1
  refine ⟨by omega, by show -2147483648 ≤ σ 10 s ∧ σ 10 s < 2147483648; omega, fun q5 => ?_, fun q5 => ⟨trivial, oM.t hp (show tAddH (mV σ) s kind a b n = 3 by unfold tAddH; rw [if_neg (fun z => z hc'), if_neg nt]; exact if_pos q5) (by decide)⟩⟩
  have q5' : ¬ σ 10 s = 5 := q5
  have hT : tAddH (mV σ) s kind a b n = 0 := by unfold tAddH; rw [if_neg (fun z => z hc'), if_neg nt]; exact if_neg q5'
  intro q cq
  refine ⟨by show (0 : Int) ≤ 0 ∧ (0 : Int) ≤ 4 * (5 * s + σ 10 s) ∧ (0 : Int) ≤ 4 ∧ 0 + 4 ≤ (4 : Int) ∧ 4 * (5 * s + σ 10 s) + 4 ≤ (160 : Int); omega, ?_⟩
  have cell : ∀ s2 k p, 0 ≤ s2 → 0 ≤ k → k < 5 → 0 ≤ p → p ≤ 3 → cpI (upI (upI (upI (upI (fun _ => 0) 0 kind) 1 a) 2 b) 3 n) (σ 11) 0 (4 * (5 * s + σ 10 s)) 4 (4 * (5 * s2 + k) + p) = if s2 = s ∧ k = σ 10 s then (if p = 0 then kind else if p = 1 then a else if p = 2 then b else n) else σ 11 (4 * (5 * s2 + k) + p) := fun s2 k p x0 x1 x2 x3 x4 => by
    unfold cpI
    by_cases hq : s2 = s ∧ k = σ 10 s
    · rw [if_pos hq, if_pos (by rw [hq.1, hq.2]; omega), show 0 + (4 * (5 * s2 + k) + p - 4 * (5 * s + σ 10 s)) = p from by rw [hq.1, hq.2]; omega]
      have hp4 : p = 0 ∨ p = 1 ∨ p = 2 ∨ p = 3 := by omega
      rcases hp4 with rfl | rfl | rfl | rfl <;> rfl
    · rw [if_neg hq, if_neg (by omega)]
  have hha : ∀ s2, 0 ≤ s2 → s2 < 8 → okHab (haM (upM (upM (upM σ 0 (fun _ => 0)) 11 (cpI (upI (upI (upI (upI (fun _ => 0) 0 kind) 1 a) 2 b) 3 n) (σ 11) 0 (4 * (5 * s + σ 10 s)) 4)) 10 (upI (σ 10) s (σ 10 s + 1))) s2) (upI (σ 10) s (σ 10 s + 1) s2) := fun s2 x y k k0 k1' => by
    have nh2 := (hp.1.nh x y).1
    have kl : k < 5 ∧ ((s2 = s ∧ k = σ 10 s) ∨ k < σ 10 s2) := by
      by_cases hs2 : s2 = s
      · rw [hs2, upI_s] at k1'; rw [hs2]; omega
      · rw [upI_n _ _ hs2] at k1'; omega
    have c0 := cell s2 k 0 x k0 kl.1 (by decide) (by decide)
    have c1 := cell s2 k 1 x k0 kl.1 (by decide) (by decide)
    have c2 := cell s2 k 2 x k0 kl.1 (by decide) (by decide)
    have c3 := cell s2 k 3 x k0 kl.1 (by decide) (by decide)
    show (0 ≤ cpI _ _ 0 (4 * (5 * s + σ 10 s)) 4 (4 * (5 * s2 + k) + 0) ∧ cpI _ _ 0 (4 * (5 * s + σ 10 s)) 4 (4 * (5 * s2 + k) + 0) ≤ 4) ∧ (0 ≤ cpI _ _ 0 (4 * (5 * s + σ 10 s)) 4 (4 * (5 * s2 + k) + 1) ∧ cpI _ _ 0 (4 * (5 * s + σ 10 s)) 4 (4 * (5 * s2 + k) + 1) ≤ 25) ∧ (0 ≤ cpI _ _ 0 (4 * (5 * s + σ 10 s)) 4 (4 * (5 * s2 + k) + 2) ∧ cpI _ _ 0 (4 * (5 * s + σ 10 s)) 4 (4 * (5 * s2 + k) + 2) ≤ 25) ∧ (1 ≤ cpI _ _ 0 (4 * (5 * s + σ 10 s)) 4 (4 * (5 * s2 + k) + 3) ∧ cpI _ _ 0 (4 * (5 * s + σ 10 s)) 4 (4 * (5 * s2 + k) + 3) ≤ 9)
    rw [c0, c1, c2, c3]
    by_cases hq : s2 = s ∧ k = σ 10 s
    · rw [if_pos hq, if_pos hq, if_pos hq, if_pos hq]
      exact ⟨k1, k2, k3, k4⟩
    · rw [if_neg hq, if_neg hq, if_neg hq, if_neg hq]
      exact hp.1.ha x y k k0 (by omega)
  have es : upI (σ 10) s (σ 10 s + 1) s = σ 10 s + 1 := upI_s _ _ _
  refine ⟨⟨⟨hp.1.1, hp.1.2.1, hp.1.2.2.1, hp.1.2.2.2.1, hp.1.2.2.2.2.1, hp.1.2.2.2.2.2.1, fun s2 x y => ?_, hha, hp.1.2.2.2.2.2.2.2.2⟩, hp.2.tx rfl rfl rfl rfl⟩, hT.symm, fun z => absurd hT z, fun _ => ⟨es, rfl, fun i a b => rfl, rfl, rfl, fun m a b => ⟨eqW.rfl, rfl, rfl, rfl, rfl⟩, fun s2 x y => ⟨?_, fun k k0 k1' p p0 p1 => ?_⟩⟩⟩
  · show (0 ≤ upI (σ 10) s (σ 10 s + 1) s2 ∧ upI (σ 10) s (σ 10 s + 1) s2 ≤ 5) ∧ (σ 9 0 ≤ s2 → upI (σ 10) s (σ 10 s + 1) s2 = 0)
    by_cases hs2 : s2 = s
    · rw [hs2, upI_s]; omega
    · rw [upI_n _ _ hs2]; exact hp.1.nh x y
  · show upI (σ 10) s (σ 10 s + 1) s2 = nHabit (mV σ) s kind a b n 10 s2 0 0
    by_cases hs2 : s2 = s
    · rw [hs2, upI_s]; simp [nHabit, mV]
    · rw [upI_n _ _ hs2]; simp [nHabit, mV, hs2]
  · have y' : s2 < σ 9 0 := y
    have k1'' : k < upI (σ 10) s (σ 10 s + 1) s2 := k1'
    have nh2 := (hp.1.nh x (show s2 < 8 by omega)).1
    have kl : k < 5 := by
      by_cases hs2 : s2 = s
      · rw [hs2, upI_s] at k1''; omega
      · rw [upI_n _ _ hs2] at k1''; omega
    show cpI _ _ 0 (4 * (5 * s + σ 10 s)) 4 (4 * (5 * s2 + k) + p) = nHabit (mV σ) s kind a b n 11 s2 k p
    rw [cell s2 k p x k0 kl p0 p1]
    by_cases hq : s2 = s ∧ k = σ 10 s
    · rw [if_pos hq, hq.1, hq.2]; simp [nHabit, mV]
    · rw [if_neg hq]
      have e9 : nHabit (mV σ) s kind a b n 11 s2 k p = if (11 : Nat) = 11 ∧ s2 = s ∧ k = σ 10 s then (if p = 0 then kind else if p = 1 then a else if p = 2 then b else n) else σ 11 (4 * (5 * s2 + k) + p) := rfl
      rw [e9, if_neg (fun z => hq z.2)]))
theorem s_X5_dropHabit : H_X5_dropHabit (fun σ s h => MI σ ∧ in32 s ∧ in32 h) (fun σ s h r σ' => oM σ (tDrop (mV σ) s h) (fun r V => r = mV σ 10 s 0 0 - 1 ∧ VE V (nDrop (mV σ) s h)) r σ') := fun l L c σ s h hp => m_X5_dropHabit (fun K _ C => b_X5_dropHabit_0 C s_X5_isScribe' s_X5_no s_X5_isIn (by
  obtain ⟨hp, hs, hh⟩ := hp
  have hns := hp.1.ns
  have e9 : mV σ 3 0 0 0 = σ 9 0 := rfl
  have e10 : mV σ 10 s 0 0 = σ 10 s := rfl
  refine ⟨⟨hp.u0 _, hs⟩, fun hc => ⟨trivial, oM.t hp (if_neg (fun q => hc ((itS (σ := σ)).mpr q.1))) (by decide)⟩, fun hc => ?_⟩
  have hc' := (itS (σ := σ)).mp hc
  have nh := (hp.1.nh hc'.1 (show s < 8 by omega)).1
  refine ⟨by omega, ⟨hh, i32 (by decide), i32 (by show -2147483648 ≤ σ 10 s - 1 ∧ σ 10 s - 1 < 2147483648; omega)⟩, fun q => ?_, fun q => ⟨trivial, oM.t hp (if_neg (fun z => inB_f.mp q (by omega))) (by decide)⟩⟩
  have q' : inB h 0 (σ 10 s - 1) = true := q
  rw [inB_t] at q'
  have hT : tDrop (mV σ) s h = 0 := if_pos ⟨hc', by omega⟩
  have es : upI (σ 10) s (σ 10 s - 1) s = σ 10 s - 1 := upI_s _ _ _
  refine loop_up (P := fun k => ∀ τ : MS, (∀ c, ¬ c = 0 → ¬ c = 10 → ¬ c = 11 → τ c = σ c) → τ 0 0 = 0 → τ 10 = upI (σ 10) s (σ 10 s - 1) → (∀ x, τ 11 x = if 4 * (5 * s + h) ≤ x ∧ x < k then σ 11 (x + 4) else σ 11 x) → P_X5_dropHabit_1 K L c τ s k) (4 * (5 * s + h)) (4 * (5 * s + (σ 10 s - 1))) (fun k k0 k1 ih τ h1 h2 h3 h4 => ?_) (4 * (5 * s + h)) (Int.le_refl _) (by omega) _ (fun c x y z => by rw [upM_n _ _ y, upM_n _ _ x]) rfl rfl (fun x => by rw [if_neg (by omega)]; rfl)
  refine b_X5_dropHabit_1 C ?_
  rw [h3, es]
  refine ⟨by omega, by omega, by omega, fun hd => ?_, fun hd => ⟨by omega, by omega, ih (by omega) _ (fun c x y z => by rw [upM_n _ _ z]; exact h1 c x y z) h2 h3 (fun x => ?_)⟩⟩
  · have ek : k = 4 * (5 * s + (σ 10 s - 1)) := by omega
    have cell : ∀ s2 j p, 0 ≤ s2 → 0 ≤ j → j < 5 → 0 ≤ p → p ≤ 3 → τ 11 (4 * (5 * s2 + j) + p) = if s2 = s ∧ h ≤ j ∧ j < σ 10 s - 1 then σ 11 (4 * (5 * s2 + (j + 1)) + p) else σ 11 (4 * (5 * s2 + j) + p) := fun s2 j p x0 x1 x2 x3 x4 => by
      rw [h4]
      by_cases hq : s2 = s ∧ h ≤ j ∧ j < σ 10 s - 1
      · rw [if_pos hq, if_pos (by rw [hq.1]; omega), show 4 * (5 * s2 + j) + p + 4 = 4 * (5 * s2 + (j + 1)) + p from by omega]
      · rw [if_neg hq, if_neg (by omega)]
    have hs' : ∀ c, 1 ≤ c → ¬ c = 10 → ¬ c = 11 → τ c = σ c := fun c a b d => h1 c (by omega) b d
    have f3 : ∀ x, τ 3 x = σ 3 x := congrFun (hs' 3 (by decide) (by decide) (by decide))
    have f4 : ∀ x, τ 4 x = σ 4 x := congrFun (hs' 4 (by decide) (by decide) (by decide))
    have f5 : ∀ x, τ 5 x = σ 5 x := congrFun (hs' 5 (by decide) (by decide) (by decide))
    have f6 : τ 6 = σ 6 := hs' 6 (by decide) (by decide) (by decide)
    have f7 : ∀ x, τ 7 x = σ 7 x := congrFun (hs' 7 (by decide) (by decide) (by decide))
    have f8 : ∀ x, τ 8 x = σ 8 x := congrFun (hs' 8 (by decide) (by decide) (by decide))
    have f9 : ∀ x, τ 9 x = σ 9 x := congrFun (hs' 9 (by decide) (by decide) (by decide))
    have f1 : ∀ x, τ 1 x = σ 1 x := congrFun (hs' 1 (by decide) (by decide) (by decide))
    have f2 : ∀ x, τ 2 x = σ 2 x := congrFun (hs' 2 (by decide) (by decide) (by decide))
    refine ⟨⟨?_, hp.2.tx (hs' 12 (by decide) (by decide) (by decide)) (f3 0) (hs' 4 (by decide) (by decide) (by decide)) (hs' 5 (by decide) (by decide) (by decide))⟩, h2.trans hT.symm, fun z => absurd hT z, fun _ => ⟨rfl, f2 0, fun i a b => f1 i, f3 0, f9 0, fun m a b => ⟨⟨f5 m, fun k z w => f4 _⟩, congrFun f6 m, f7 m, by show gen (τ 6) m = gen (σ 6) m; rw [f6], f8 m⟩, fun s2 x y => ⟨?_, fun j j0 j1 p p0 p1 => ?_⟩⟩⟩
    · have hm := hp.1
      unfold MO txM haM at hm ⊢
      rw [hs' 1 (by decide) (by decide) (by decide), hs' 2 (by decide) (by decide) (by decide), hs' 3 (by decide) (by decide) (by decide), hs' 4 (by decide) (by decide) (by decide), hs' 5 (by decide) (by decide) (by decide), hs' 6 (by decide) (by decide) (by decide), hs' 7 (by decide) (by decide) (by decide), hs' 8 (by decide) (by decide) (by decide), hs' 9 (by decide) (by decide) (by decide), h3]
      refine ⟨hm.1, hm.2.1, hm.2.2.1, hm.2.2.2.1, hm.2.2.2.2.1, hm.2.2.2.2.2.1, fun s2 x y => ?_, fun s2 x y j j0 j1 => ?_, hm.2.2.2.2.2.2.2.2⟩
      · by_cases hs2 : s2 = s
        · rw [hs2, upI_s]; omega
        · rw [upI_n _ _ hs2]; exact hp.1.nh x y
      · have nh2 := (hp.1.nh x y).1
        have jl : j < 5 ∧ j < σ 10 s2 ∧ (s2 = s → j < σ 10 s - 1) := by
          by_cases hs2 : s2 = s
          · rw [hs2, upI_s] at j1; rw [hs2]; omega
          · rw [upI_n _ _ hs2] at j1; omega
        show (0 ≤ τ 11 (4 * (5 * s2 + j) + 0) ∧ τ 11 (4 * (5 * s2 + j) + 0) ≤ 4) ∧ (0 ≤ τ 11 (4 * (5 * s2 + j) + 1) ∧ τ 11 (4 * (5 * s2 + j) + 1) ≤ 25) ∧ (0 ≤ τ 11 (4 * (5 * s2 + j) + 2) ∧ τ 11 (4 * (5 * s2 + j) + 2) ≤ 25) ∧ (1 ≤ τ 11 (4 * (5 * s2 + j) + 3) ∧ τ 11 (4 * (5 * s2 + j) + 3) ≤ 9)
        rw [cell s2 j 0 x j0 jl.1 (by decide) (by decide), cell s2 j 1 x j0 jl.1 (by decide) (by decide), cell s2 j 2 x j0 jl.1 (by decide) (by decide), cell s2 j 3 x j0 jl.1 (by decide) (by decide)]
        by_cases hq : s2 = s ∧ h ≤ j ∧ j < σ 10 s - 1
        · rw [if_pos hq, if_pos hq, if_pos hq, if_pos hq]
          exact hp.1.ha x y (j + 1) (by omega) (by rw [hq.1]; omega)
        · rw [if_neg hq, if_neg hq, if_neg hq, if_neg hq]
          exact hp.1.ha x y j j0 jl.2.1
    · show τ 10 s2 = nDrop (mV σ) s h 10 s2 0 0
      rw [h3]
      by_cases hs2 : s2 = s
      · rw [hs2, upI_s]; simp [nDrop, mV]
      · rw [upI_n _ _ hs2]; simp [nDrop, mV, hs2]
    · have y' : s2 < τ 9 0 := y
      rw [f9] at y'
      have j1' : j < τ 10 s2 := j1
      rw [h3] at j1'
      have nh2 := (hp.1.nh x (show s2 < 8 by omega)).1
      have jl : j < 5 ∧ (s2 = s → j < σ 10 s - 1) := by
        by_cases hs2 : s2 = s
        · rw [hs2, upI_s] at j1'; omega
        · rw [upI_n _ _ hs2] at j1'; omega
      show τ 11 (4 * (5 * s2 + j) + p) = nDrop (mV σ) s h 11 s2 j p
      rw [cell s2 j p x j0 jl.1 p0 p1]
      have e9 : nDrop (mV σ) s h 11 s2 j p = if (11 : Nat) = 11 ∧ s2 = s ∧ h ≤ j then σ 11 (4 * (5 * s + (j + 1)) + p) else σ 11 (4 * (5 * s2 + j) + p) := rfl
      rw [e9]
      by_cases hq : s2 = s ∧ h ≤ j
      · rw [if_pos ⟨hq.1, hq.2, jl.2 hq.1⟩, if_pos ⟨rfl, hq⟩, hq.1]
      · rw [if_neg (fun z => hq ⟨z.1, z.2.1⟩), if_neg (fun z => hq z.2)]
  · show upI (τ 11) k (τ 11 (k + 4)) x = _
    by_cases hx : x = k
    · rw [hx, upI_s, if_pos (by omega), h4, if_neg (by omega)]
    · rw [upI_n _ _ hx, h4]
      by_cases hq : 4 * (5 * s + h) ≤ x ∧ x < k
      · rw [if_pos hq, if_pos (by omega)]
      · rw [if_neg hq, if_neg (by omega)]))
