/-! emend -/
theorem s_X5_emend : H_X5_emend (fun σ m o place many => MI σ ∧ in32 m ∧ in32 o ∧ in32 place ∧ in32 many) (fun σ m o place many r σ' => oM σ (tEmend (mV σ) m o place many) (fun r V => r = vOthers (mV σ) m o place many ∧ VE V (nEmend (mV σ) m o place many)) r σ') := fun l L c σ m o place many hp => m_X5_emend (fun K _ C => b_X5_emend_0 C s_X5_isText' s_X5_no s_X5_isIn (by
  obtain ⟨hp, hm, ho, hpl, hma⟩ := hp
  have hn := hp.1.n
  have e3 : vN (mV σ) = σ 3 0 := rfl
  have e4 : ∀ k, mV σ 4 k 0 0 = σ 5 k := fun k => rfl
  refine ⟨⟨hp.u0 _, hm⟩, fun hc => ⟨trivial, oM.t hp (if_pos (Or.inl (fun q => hc ((itT (σ := σ)).mpr q)))) (by decide)⟩, fun hc => ?_⟩
  have hc' := (itT (σ := σ)).mp hc
  refine ⟨⟨hp.u0 _, ho⟩, fun hd => ?_, fun hd => ⟨trivial, oM.t hp (if_pos (Or.inr (fun q => hd ((itT (σ := σ)).mpr q)))) (by decide)⟩⟩
  have hd' := (itT (σ := σ)).mp hd
  have n1 : ¬ (¬ (0 ≤ m ∧ m < vN (mV σ)) ∨ ¬ (0 ≤ o ∧ o < vN (mV σ))) := fun q => q.elim (fun z => z hc') (fun z => z hd')
  have two : (¬ (1 ≤ many ∧ many ≤ 120) ∨ place < 0 ∨ σ 5 m < place + many ∨ σ 5 o < place + many) → tEmend (mV σ) m o place many = 2 := fun q => by unfold tEmend; rw [if_neg n1]; exact if_pos q
  refine ⟨⟨hma, i32 (by decide), i32 (by decide)⟩, fun q => ⟨trivial, oM.t hp (two (Or.inl (inB_f.mp q))) (by decide)⟩, fun q => ?_⟩
  have k1 := inB_t.mp q
  unfold in32 at hpl
  have ln1 := hp.1.ln hc'.1 hc'.2
  have ln2 := hp.1.ln hd'.1 hd'.2
  obtain ⟨lo, hlo⟩ : ∃ lo, lo = (if σ 5 o < σ 5 m then σ 5 o else σ 5 m) := ⟨_, rfl⟩
  have hl : lo ≤ σ 5 o ∧ lo ≤ σ 5 m ∧ (lo = σ 5 o ∨ lo = σ 5 m) := by
    by_cases q : σ 5 o < σ 5 m
    · rw [if_pos q] at hlo; omega
    · rw [if_neg q] at hlo; omega
  refine ⟨hpl, fun q2 => ⟨trivial, oM.t hp (two (Or.inr (Or.inl q2))) (by decide)⟩, fun q2 => ⟨by omega, by omega, by show -2147483648 ≤ σ 5 m ∧ σ 5 m < 2147483648; omega, by show -2147483648 ≤ σ 5 o ∧ σ 5 o < 2147483648; omega, ?_⟩⟩
  show (-2147483648 ≤ (if σ 5 o < σ 5 m then σ 5 o else σ 5 m) - many ∧ (if σ 5 o < σ 5 m then σ 5 o else σ 5 m) - many < 2147483648) ∧ ((place ≤ (if σ 5 o < σ 5 m then σ 5 o else σ 5 m) - many → (-2147483648 ≤ σ 8 m ∧ σ 8 m < 2147483648) ∧ ((σ 8 m = 0 → _) ∧ (¬ σ 8 m = 0 → (-2147483648 ≤ σ 8 o ∧ σ 8 o < 2147483648) ∧ ((¬ σ 8 o = 0 → P_X5_emend_1 K L c (upM σ 0 (fun _ => 0)) m o place many 0 place) ∧ (σ 8 o = 0 → _))))) ∧ (¬ place ≤ (if σ 5 o < σ 5 m then σ 5 o else σ 5 m) - many → _))
  rw [← hlo]
  have th1 := hp.1.th hc'.1 hc'.2
  have th2 := hp.1.th hd'.1 hd'.2
  refine ⟨by omega, fun q3 => ?_, fun q3 => ⟨trivial, oM.t hp (two (Or.inr (Or.inr (by omega)))) (by decide)⟩⟩
  have n2 : ¬ (¬ (1 ≤ many ∧ many ≤ 120) ∨ place < 0 ∨ mV σ 4 m 0 0 < place + many ∨ mV σ 4 o 0 0 < place + many) := by rw [e4, e4]; omega
  have three : (σ 8 m = 0 ∨ σ 8 o = 0) → tEmend (mV σ) m o place many = 3 := fun q => by unfold tEmend; rw [if_neg n1, if_neg n2]; exact if_pos q
  refine ⟨by omega, fun q4 => ⟨trivial, oM.t hp (three (Or.inl q4)) (by decide)⟩, fun q4 => ⟨by omega, fun q5 => ?_, fun q5 => ⟨trivial, oM.t hp (three (Or.inr q5)) (by decide)⟩⟩⟩
  have hT : tEmend (mV σ) m o place many = 0 := by unfold tEmend; rw [if_neg n1, if_neg n2]; exact if_neg (fun z => z.elim q4 q5)
  have pm : place + many ≤ σ 5 m ∧ place + many ≤ σ 5 o := by omega
  -- the letters behind
  have fin : ∀ τ : MS, (∀ c, ¬ c = 0 → ¬ c = 4 → ¬ c = 12 → τ c = σ c) → τ 0 0 = 0 → (∀ x, τ 4 x = if 120 * m + place ≤ x ∧ x < 120 * m + (place + many) then σ 4 (x - 120 * m + 120 * o) else σ 4 x) → (∀ x y, 0 ≤ x → x < 24 → 0 ≤ y → y < 24 → τ 12 (24 * x + y) = if x = m ∨ y = m then -1 else σ 12 (24 * x + y)) → ∀ r, r = vOthers (mV σ) m o place many → oM σ (tEmend (mV σ) m o place many) (fun r V => r = vOthers (mV σ) m o place many ∧ VE V (nEmend (mV σ) m o place many)) r τ := fun τ h1 h2 h4 h12 r hr => by
    have hs' : ∀ c, 1 ≤ c → ¬ c = 4 → ¬ c = 12 → τ c = σ c := fun c a b d => h1 c (by omega) b d
    have f3 : ∀ x, τ 3 x = σ 3 x := congrFun (hs' 3 (by decide) (by decide) (by decide))
    have f5 : ∀ x, τ 5 x = σ 5 x := congrFun (hs' 5 (by decide) (by decide) (by decide))
    have f6 : τ 6 = σ 6 := hs' 6 (by decide) (by decide) (by decide)
    have f7 : ∀ x, τ 7 x = σ 7 x := congrFun (hs' 7 (by decide) (by decide) (by decide))
    have f8 : ∀ x, τ 8 x = σ 8 x := congrFun (hs' 8 (by decide) (by decide) (by decide))
    have f9 : ∀ x, τ 9 x = σ 9 x := congrFun (hs' 9 (by decide) (by decide) (by decide))
    have f10 : ∀ x, τ 10 x = σ 10 x := congrFun (hs' 10 (by decide) (by decide) (by decide))
    have f11 : ∀ x, τ 11 x = σ 11 x := congrFun (hs' 11 (by decide) (by decide) (by decide))
    have f1 : ∀ x, τ 1 x = σ 1 x := congrFun (hs' 1 (by decide) (by decide) (by decide))
    have f2 : ∀ x, τ 2 x = σ 2 x := congrFun (hs' 2 (by decide) (by decide) (by decide))
    have lt : ∀ k p, 0 ≤ k → k < σ 3 0 → 0 ≤ p → p < σ 5 k → τ 4 (120 * k + p) = if k = m ∧ place ≤ p ∧ p < place + many then σ 4 (120 * o + p) else σ 4 (120 * k + p) := fun k p a b x y => by
      have lk := hp.1.ln a b
      rw [h4]
      by_cases hq : k = m ∧ place ≤ p ∧ p < place + many
      · rw [if_pos hq, if_pos (by rw [hq.1]; omega), show 120 * k + p - 120 * m + 120 * o = 120 * o + p from by rw [hq.1]; omega]
      · rw [if_neg hq, if_neg (by omega)]
    have same : ∀ k, 0 ≤ k → k < σ 3 0 → ¬ k = m → eqW (txM σ k) (txM τ k) := fun k a b hk => ⟨(f5 k).symm, fun p x y => by
      show σ 4 (120 * k + p) = τ 4 (120 * k + p)
      rw [lt k p a b x y, if_neg (fun z => hk z.1)]⟩
    refine ⟨⟨?_, fun x y x0 xy y1 => ?_⟩, h2.trans hT.symm, fun z => absurd hT z, fun _ => ⟨hr, f2 0, fun i a b => f1 i, f3 0, f9 0, fun k a b => ⟨⟨f5 k, fun p x y => ?_⟩, congrFun f6 k, f7 k, by show gen (τ 6) k = gen (σ 6) k; rw [f6], f8 k⟩, fun s x y => ⟨f10 s, fun k z w p u v => f11 _⟩⟩⟩
    · have hM := hp.1
      unfold MO haM at hM ⊢
      rw [hs' 1 (by decide) (by decide) (by decide), hs' 2 (by decide) (by decide) (by decide), hs' 3 (by decide) (by decide) (by decide), hs' 6 (by decide) (by decide) (by decide), hs' 7 (by decide) (by decide) (by decide), hs' 8 (by decide) (by decide) (by decide), hs' 9 (by decide) (by decide) (by decide), hs' 10 (by decide) (by decide) (by decide), hs' 11 (by decide) (by decide) (by decide)]
      refine ⟨hM.1, hM.2.1, hM.2.2.1, fun k a b => ⟨by show 0 ≤ τ 5 k ∧ τ 5 k ≤ 120; rw [f5]; exact hp.1.ln a b, fun p x y => ?_⟩, hM.2.2.2.2⟩
      have y' : p < τ 5 k := y
      rw [f5] at y'
      show 97 ≤ τ 4 (120 * k + p) ∧ τ 4 (120 * k + p) ≤ 122
      rw [lt k p a b x y']
      by_cases hq : k = m ∧ place ≤ p ∧ p < place + many
      · rw [if_pos hq]; exact hp.1.lt hd'.1 hd'.2 x (by omega)
      · rw [if_neg hq]; exact hp.1.lt a b x y'
    · rw [h12 x y x0 (by omega) (by omega) y1]
      by_cases hq : x = m ∨ y = m
      · rw [if_pos hq]; exact Or.inl rfl
      · rw [if_neg hq, f3]
        rcases hp.2 x y x0 xy y1 with z | ⟨z1, z2⟩
        · exact Or.inl z
        · refine Or.inr ⟨z1, ?_⟩
          rw [z2]
          exact levW_eq (same x x0 (by omega) (fun z => hq (Or.inl z))) (same y (by omega) z1 (fun z => hq (Or.inr z)))
    · have y' : p < τ 5 k := y
      rw [f5] at y'
      have b' : k < τ 3 0 := b
      rw [f3] at b'
      show τ 4 (120 * k + p) = nEmend (mV σ) m o place many 5 k p 0
      rw [lt k p a b' x y']
      have e9 : nEmend (mV σ) m o place many 5 k p 0 = if (5 : Nat) = 5 ∧ k = m ∧ place ≤ p ∧ p < place + many then σ 4 (120 * o + p) else σ 4 (120 * k + p) := rfl
      rw [e9]
      by_cases hq : k = m ∧ place ≤ p ∧ p < place + many
      · rw [if_pos hq, if_pos ⟨rfl, hq⟩]
      · rw [if_neg hq, if_neg (fun z => hq z.2)]
  have clear : ∀ k, 0 ≤ k → k ≤ 24 → ∀ τ : MS, (∀ c, ¬ c = 0 → ¬ c = 4 → ¬ c = 12 → τ c = σ c) → τ 0 0 = 0 → (∀ x, τ 4 x = if 120 * m + place ≤ x ∧ x < 120 * m + (place + many) then σ 4 (x - 120 * m + 120 * o) else σ 4 x) → (∀ x y, 0 ≤ x → x < 24 → 0 ≤ y → y < 24 → τ 12 (24 * x + y) = if (x = m ∧ y < k) ∨ (y = m ∧ x < k) then -1 else σ 12 (24 * x + y)) → P_X5_emend_2 K L c τ m (vOthers (mV σ) m o place many) k := fun k k0 k1 => by
    refine loop_up (P := fun k => ∀ τ : MS, (∀ c, ¬ c = 0 → ¬ c = 4 → ¬ c = 12 → τ c = σ c) → τ 0 0 = 0 → (∀ x, τ 4 x = if 120 * m + place ≤ x ∧ x < 120 * m + (place + many) then σ 4 (x - 120 * m + 120 * o) else σ 4 x) → (∀ x y, 0 ≤ x → x < 24 → 0 ≤ y → y < 24 → τ 12 (24 * x + y) = if (x = m ∧ y < k) ∨ (y = m ∧ x < k) then -1 else σ 12 (24 * x + y)) → P_X5_emend_2 K L c τ m (vOthers (mV σ) m o place many) k) 0 24 (fun k k0 k1 ih τ h1 h2 h4 h12 => ?_) k k0 k1
    refine b_X5_emend_2 C ⟨by omega, fun hk => fin τ h1 h2 h4 (fun x y x0 x1 y0 y1 => ?_) _ rfl, fun hk => ⟨by omega, by omega, ih (by omega) _ (fun c a b d => by rw [upM_n _ _ d]; exact h1 c a b d) h2 h4 (fun x y x0 x1 y0 y1 => ?_)⟩⟩
    · rw [h12 x y x0 x1 y0 y1]
      by_cases hq : x = m ∨ y = m
      · rw [if_pos hq, if_pos (by omega)]
      · rw [if_neg hq, if_neg (by omega)]
    · show upI (upI (τ 12) (24 * m + k) (-1)) (24 * k + m) (-1) (24 * x + y) = _
      by_cases a1 : x = k ∧ y = m
      · rw [a1.1, a1.2, upI_s, if_pos (by omega)]
      · rw [upI_n _ _ (by omega)]
        by_cases a2 : x = m ∧ y = k
        · rw [a2.1, a2.2, upI_s, if_pos (by omega)]
        · rw [upI_n _ _ (by omega), h12 x y x0 x1 y0 y1]
          by_cases a3 : (x = m ∧ y < k) ∨ (y = m ∧ x < k)
          · rw [if_pos a3, if_pos (by omega)]
          · rw [if_neg a3, if_neg (by omega)]
  refine loop_up (P := fun k => ∀ τ : MS, (∀ c, ¬ c = 0 → ¬ c = 4 → τ c = σ c) → τ 0 0 = 0 → (∀ x, τ 4 x = if 120 * m + place ≤ x ∧ x < 120 * m + k then σ 4 (x - 120 * m + 120 * o) else σ 4 x) → P_X5_emend_1 K L c τ m o place many (sumI (fun i => if ¬ σ 4 (120 * m + (place + i)) = σ 4 (120 * o + (place + i)) then 1 else 0) (k - place)) k) place (place + many) (fun k k0 k1 ih τ h1 h2 h4 => ?_) place (Int.le_refl _) (by omega) _ (fun c x y => upM_n _ _ x) rfl (fun x => by rw [if_neg (by omega)]; rfl) |> (fun h => by rw [show place - place = 0 from by omega, sumI_0] at h; exact h)
  refine b_X5_emend_1 C ⟨by omega, by omega, fun hk => ?_, fun hk => ?_⟩
  · rw [show k - place = many from by omega]
    exact clear 0 (Int.le_refl _) (by decide) τ (fun c x y z => h1 c x y) h2 (fun x => by rw [h4, show k = place + many from by omega]) (fun x y x0 x1 y0 y1 => by rw [if_neg (by omega), h1 12 (by decide) (by decide)])
  · have a1 : τ 4 (120 * m + k) = σ 4 (120 * m + k) := by rw [h4, if_neg (by omega)]
    have a2 : τ 4 (120 * o + k) = σ 4 (120 * o + k) := by rw [h4, if_neg (by omega)]
    have l1 := hp.1.lt hc'.1 hc'.2 (show 0 ≤ k by omega) (show k < σ 5 m by omega)
    have l2 := hp.1.lt hd'.1 hd'.2 (show 0 ≤ k by omega) (show k < σ 5 o by omega)
    rw [a1, a2]
    have h9 := ih (by omega) (upM τ 4 (upI (τ 4) (120 * m + k) (σ 4 (120 * o + k)))) (fun c x y => by rw [upM_n _ _ y]; exact h1 c x y) h2 (fun x => ?_)
    · rw [show k + 1 - place = (k - place) + 1 from by omega, sumI_s _ (show 0 ≤ k - place by omega), show place + (k - place) = k from by omega] at h9
      exact ⟨by omega, by omega, by omega, by omega, h9⟩
    · show upI (τ 4) (120 * m + k) (σ 4 (120 * o + k)) x = _
      by_cases hx : x = 120 * m + k
      · rw [hx, upI_s, if_pos (by omega), show 120 * m + k - 120 * m + 120 * o = 120 * o + k from by omega]
      · rw [upI_n _ _ hx, h4]
        by_cases hq : 120 * m + place ≤ x ∧ x < 120 * m + k
        · rw [if_pos hq, if_pos (by omega)]
        · rw [if_neg hq, if_neg (by omega)]))
