/-! steps, measures in the house -/
def stR (σ : CS) : Int → Int := fun j => σ 7 j 0 0
theorem s_X4_nextStepRow : H_X4_nextStepRow (fun σ x o ahead w => (0 ≤ o ∧ o < σ 21 0 0 0 + 3) ∧ (97 ≤ x ∧ x ≤ 122) ∧ (0 ≤ ahead ∧ 0 ≤ w ∧ ahead + w ≤ 120) ∧ (∀ j, 0 ≤ j → j < w → 97 ≤ σ 6 o (ahead + j) 0 ∧ σ 6 o (ahead + j) 0 ≤ 122) ∧ ∀ j, 0 ≤ j → j ≤ w → 0 ≤ σ 7 j 0 0 ∧ σ 7 j 0 0 ≤ 1000)
    (fun σ x o ahead w _ σ' => (∀ c, ¬ c = 7 → σ' c = σ c) ∧ ∀ j, 0 ≤ j → j ≤ w → σ' 7 j 0 0 = nrI (stR σ) (fun k => σ 6 o (ahead + k) 0) x j) := fun l y σ x o ahead w hp => m_X4_nextStepRow (fun K _ C => b_X4_nextStepRow_0 C (by
  obtain ⟨h1, h2, h3, h4, h5⟩ := hp
  have nb := nr_in (R := stR σ) (G := fun k => σ 6 o (ahead + k) 0) (x := x) (w := w) (B := 1000) (by decide) h5
  have key := loop_up (P := fun j => ∀ τ : CS, (∀ c, ¬ c = 7 → τ c = σ c) → (∀ k, 0 ≤ k → k < j → τ 7 k 0 0 = nrI (stR σ) (fun k => σ 6 o (ahead + k) 0) x k) → (∀ k, j ≤ k → τ 7 k 0 0 = σ 7 k 0 0) → P_X4_nextStepRow_1 K y τ x o ahead w (σ 7 (j - 1) 0 0) (nrI (stR σ) (fun k => σ 6 o (ahead + k) 0) x (j - 1)) j) 1 (w + 1) (fun j j0 j1 ih τ e1 e2 e3 => ?_) 1 (Int.le_refl _) (by omega)
  · have h9 := key (upC σ 7 (up1 (σ 7) 0 (σ 7 0 0 0 + 1))) (fun c hc => upC_n _ _ hc) (fun k a b => ?_) (fun k a => ?_)
    · exact h9
    · have hk : k = 0 := by omega
      subst hk
      show up1 (σ 7) 0 (σ 7 0 0 0 + 1) 0 0 0 = σ 7 0 0 0 + 1
      exact up1_s _ _ _ _ _
    · exact up1_n _ _ _ _ (by omega)
  · have f21 : τ 21 0 0 0 = σ 21 0 0 0 := by rw [e1 21 (by decide)]
    have f6 : ∀ k, τ 6 o k 0 = σ 6 o k 0 := fun k => by rw [e1 6 (by decide)]
    refine b_X4_nextStepRow_1 C ?_
    rw [f21, f6]
    refine ⟨by omega, by omega, fun hc => ⟨e1, fun k a b => e2 k a (by omega)⟩, fun hc => ?_⟩
    have g1 := h4 (j - 1) (by omega) (by omega)
    rw [show ahead + (j - 1) = ahead + j - 1 from by omega] at g1
    have r1 := h5 j (by omega) (by omega)
    have r2 := h5 (j - 1) (by omega) (by omega)
    have r3 := nb (j - 1) (by omega) (by omega)
    have ej := e3 j (Int.le_refl _)
    have es := nrI_s (stR σ) (fun k => σ 6 o (ahead + k) 0) x j0
    rw [show ahead + (j - 1) = ahead + j - 1 from by omega] at es
    have nxt : ∀ v, v = nrI (stR σ) (fun k => σ 6 o (ahead + k) 0) x j → P_X4_nextStepRow_1 K y (upC τ 7 (up1 (τ 7) j v)) x o ahead w (σ 7 j 0 0) v (j + 1) := fun v ev => by
      have h9 := ih (by omega) (upC τ 7 (up1 (τ 7) j v)) (fun c hc => by rw [upC_n _ _ hc]; exact e1 c hc) (fun k a b => ?_) (fun k a => ?_)
      · rw [show j + 1 - 1 = j from by omega, ← ev] at h9; exact h9
      · show up1 (τ 7) j v k 0 0 = _
        by_cases hk : k = j
        · rw [hk, up1_s, ev]
        · rw [up1_n _ _ _ _ hk]; exact e2 k a (by omega)
      · show up1 (τ 7) j v k 0 0 = _
        rw [up1_n _ _ _ _ (by omega)]; exact e3 k (by omega)
    have two : ∀ s0, (0 ≤ s0 ∧ s0 ≤ 1000) → (¬ σ 6 o (ahead + j - 1) 0 = x) → s0 = min (σ 7 j 0 0) (σ 7 (j - 1) 0 0) → P_X4_nextStepRow_2 K y τ x o ahead w (nrI (stR σ) (fun k => σ 6 o (ahead + k) 0) x (j - 1)) j (σ 7 j 0 0) s0 := fun s0 hs hq e0 => by
      rw [if_neg hq] at es
      have es' : nrI (stR σ) (fun k => σ 6 o (ahead + k) 0) x j = min (min (σ 7 j 0 0) (σ 7 (j - 1) 0 0)) (nrI (stR σ) (fun k => σ 6 o (ahead + k) 0) x (j - 1)) + 1 := es
      exact b_X4_nextStepRow_2 C ⟨by omega, by omega, fun q => ⟨by omega, nxt _ (by omega)⟩, fun q => ⟨by omega, nxt _ (by omega)⟩⟩
    rw [ej]
    refine ⟨by omega, h1, by omega, by omega, by omega, fun q => ⟨by omega, by omega, fun q2 => two _ r2 q (by omega), fun q2 => two _ r1 q (by omega)⟩, fun q => nxt _ ?_⟩
    rw [if_pos q] at es
    exact es.symm))
theorem s_X4_steps : H_X4_steps (fun σ a b => (0 ≤ a ∧ a < σ 21 0 0 0 + 3) ∧ (0 ≤ b ∧ b < σ 21 0 0 0 + 3) ∧ okW (tW σ a) ∧ okW (tW σ b)) (fun σ a b r σ' => (∀ c, ¬ c = 7 → σ' c = σ c) ∧ r = levW (tW σ a) (tW σ b)) := fun l y σ a b hp => m_X4_steps (fun K _ C => b_X4_steps_0 C s_X4_sameAhead s_X4_sameBehind (by
  obtain ⟨h1, h2, h3, h4⟩ := hp
  have l3 : 0 ≤ σ 5 a 0 0 ∧ σ 5 a 0 0 ≤ 120 := h3.1
  have l4 : 0 ≤ σ 5 b 0 0 ∧ σ 5 b 0 0 ≤ 120 := h4.1
  have mn := mnL_in (tW σ a) (tW σ b)
  have ea : (tW σ a).2 = σ 5 a 0 0 := rfl
  have eb : (tW σ b).2 = σ 5 b 0 0 := rfl
  have pin := pfN_in (tW σ a) (tW σ b) (mnL (tW σ a) (tW σ b)).toNat 0
  obtain ⟨p, hp⟩ : ∃ p, p = pfx (tW σ a) (tW σ b) := ⟨_, rfl⟩
  have pin' : (0 ≤ p ∧ p ≤ mnL (tW σ a) (tW σ b)) ∧ ∀ j, 0 ≤ j → j < p → (tW σ a).1 j = (tW σ b).1 j := by rw [hp]; exact ⟨⟨pin.1.1, by have := pin.1.2; unfold pfx; omega⟩, pin.2⟩
  have sin := sfN_in (tW σ a) (tW σ b) (mnL (tW σ a) (tW σ b) - p).toNat 0
  obtain ⟨s, hs⟩ : ∃ s, s = sfx (tW σ a) (tW σ b) p := ⟨_, rfl⟩
  have sin' : (0 ≤ s ∧ s ≤ mnL (tW σ a) (tW σ b) - p) ∧ ∀ j, 0 ≤ j → j < s → (tW σ a).1 ((tW σ a).2 - 1 - j) = (tW σ b).1 ((tW σ b).2 - 1 - j) := by rw [hs]; exact ⟨⟨sin.1.1, by have := sin.1.2; unfold sfx; omega⟩, sin.2⟩
  have fin := steps_lev (w := tW σ a) (v := tW σ b) p s pin'.1.1 sin'.1.1 (by omega) (by omega) pin'.2 sin'.2
  show (_ ∧ _ ∧ _ ∧ _) ∧ (_ ∧ _ ∧ _ ∧ _ ∧ 0 ≤ pfx (tW σ a) (tW σ b) ∧ pfx (tW σ a) (tW σ b) ≤ mnL (tW σ a) (tW σ b)) ∧ _ ∧ _ ∧ P_X4_steps_1 K y σ a b (pfx (tW σ a) (tW σ b)) (σ 5 a 0 0 - sfx (tW σ a) (tW σ b) (pfx (tW σ a) (tW σ b))) (σ 5 b 0 0 - pfx (tW σ a) (tW σ b) - sfx (tW σ a) (tW σ b) (pfx (tW σ a) (tW σ b))) 0
  rw [← hp, ← hs]
  refine ⟨⟨h1, h2, h3, h4⟩, ⟨h1, h2, h3, h4, pin'.1⟩, h1, h2, ?_⟩
  rw [ea, eb] at fin
  obtain ⟨F, hF⟩ : ∃ F : Int → Int, F = fun k => (tW σ a).1 (p + k) := ⟨_, rfl⟩
  obtain ⟨G, hG⟩ : ∃ G : Int → Int, G = fun k => (tW σ b).1 (p + k) := ⟨_, rfl⟩
  rw [← hF, ← hG] at fin
  obtain ⟨w, hw⟩ : ∃ w, w = σ 5 b 0 0 - p - s := ⟨_, rfl⟩
  rw [← hw] at fin ⊢
  have rows : ∀ i, p ≤ i → i ≤ σ 5 a 0 0 - s → ∀ τ : CS, (∀ c, ¬ c = 7 → τ c = σ c) → (∀ k, 0 ≤ k → k ≤ w → τ 7 k 0 0 = lvI F G (i - p) k) → P_X4_steps_2 K y τ a b p (σ 5 a 0 0 - s) w i := by
    intro i i0 i1
    refine loop_up (P := fun i => ∀ τ : CS, (∀ c, ¬ c = 7 → τ c = σ c) → (∀ k, 0 ≤ k → k ≤ w → τ 7 k 0 0 = lvI F G (i - p) k) → P_X4_steps_2 K y τ a b p (σ 5 a 0 0 - s) w i) p (σ 5 a 0 0 - s) (fun i i0 i1 ih τ e1 e2 => ?_) i i0 i1
    have f21 : τ 21 0 0 0 = σ 21 0 0 0 := by rw [e1 21 (by decide)]
    have f6 : ∀ k q, τ 6 k q 0 = σ 6 k q 0 := fun k q => by rw [e1 6 (by decide)]
    refine b_X4_steps_2 C s_X4_nextStepRow ?_
    rw [f21, f6]
    refine ⟨by omega, by omega, fun hc => ⟨by omega, e1, ?_⟩, fun hc => ?_⟩
    · rw [e2 w (by omega) (Int.le_refl _), fin, show i - p = σ 5 a 0 0 - p - s from by omega]
    · have x1 : 97 ≤ σ 6 a i 0 ∧ σ 6 a i 0 ≤ 122 := h3.2 i (by omega) (by omega)
      refine ⟨h1, by omega, h2, ⟨h2, x1, ⟨pin'.1.1, by omega, by omega⟩, fun j j0 j1 => ?_, fun j j0 j1 => ?_⟩, fun r ρ o => ih (by omega) ρ (fun c hc => by rw [o.1 c hc]; exact e1 c hc) (fun k k0 k1 => ?_)⟩
      · rw [f6]; exact h4.2 (p + j) (by omega) (by omega)
      · rw [e2 j j0 j1]; have := lvI_in F G (show 0 ≤ i - p by omega) j0; omega
      · rw [o.2 k k0 k1, show i + 1 - p = (i - p) + 1 from by omega]
        have eg : (fun k => τ 6 b (p + k) 0) = G := by rw [hG]; exact funext fun k => f6 b (p + k)
        rw [eg]
        exact nr_lev (F := F) (w := w) (show 0 ≤ i - p by omega) (by rw [hF]; show σ 6 a (p + (i - p)) 0 = _; rw [show p + (i - p) = i from by omega]) (fun j j0 j1 => e2 j j0 j1) k k0 k1
  refine loop_up (P := fun k => ∀ τ : CS, (∀ c, ¬ c = 7 → τ c = σ c) → (∀ j, 0 ≤ j → j < k → τ 7 j 0 0 = j) → P_X4_steps_1 K y τ a b p (σ 5 a 0 0 - s) w k) 0 (w + 1) (fun k k0 k1 ih τ e1 e2 => ?_) 0 (Int.le_refl _) (by omega) σ (fun c _ => rfl) (fun j x y => by omega)
  refine b_X4_steps_1 C ⟨by omega, by omega, fun hc => ?_, fun hc => ⟨by omega, ih (by omega) _ (fun c hc => by rw [upC_n _ _ hc]; exact e1 c hc) (fun j x z => ?_)⟩⟩
  · exact rows p (Int.le_refl _) (by omega) τ e1 (fun j x z => by rw [e2 j x (by omega), show p - p = 0 from by omega, lvI_0 F G x])
  · show up1 (τ 7) k k j 0 0 = j
    by_cases hj : j = k
    · rw [hj, up1_s]
    · rw [up1_n _ _ _ _ hj]; exact e2 j x (by omega)))
theorem cD {σ : CS} {a b : Int} (a0 : 0 ≤ a) (b0 : 0 ≤ b) : vD (cV σ) a b = levW (tW σ (a + 3)) (tW σ (b + 3)) := by
  unfold vD
  rw [cTx σ a0, cTx σ b0]
theorem cD_in {σ : CS} (h : CTx σ) {a b : Int} (a0 : 0 ≤ a) (a1 : a < σ 2 0 0 0) (b0 : 0 ≤ b) (b1 : b < σ 2 0 0 0) : 0 ≤ vD (cV σ) a b ∧ vD (cV σ) a b ≤ 120 := by
  rw [cD a0 b0]
  exact levW_in (h _ (by omega) (by omega)) (h _ (by omega) (by omega))
/-- the caches alone may have changed -/
def Cs (σ σ' : CS) : Prop := ∀ c, ¬ c = 4 → ¬ c = 7 → ¬ c = 8 → σ' c = σ c
theorem Cs.rfl {σ : CS} : Cs σ σ := fun _ _ _ _ => Eq.refl _
theorem Cs.trans {σ σ' σ'' : CS} (h : Cs σ σ') (g : Cs σ' σ'') : Cs σ σ'' := fun c a b d => (g c a b d).trans (h c a b d)
theorem Cs.cm {σ σ' : CS} (h : Cs σ σ') : Cm σ σ' := ⟨fun c a _ _ d e => h c a d e, fun k p _ => ⟨by rw [h 5 (by decide) (by decide) (by decide)], by rw [h 6 (by decide) (by decide) (by decide)]⟩⟩
theorem Cs.tw {σ σ' : CS} (h : Cs σ σ') (k : Int) : tW σ' k = tW σ k := by
  unfold tW
  rw [h 5 (by decide) (by decide) (by decide), h 6 (by decide) (by decide) (by decide)]
theorem CTx.cs {σ σ' : CS} (h : CTx σ) (g : Cs σ σ') : CTx σ' := fun k a b => by
  rw [g.tw k]
  exact h k a (by rw [g 2 (by decide) (by decide) (by decide)] at b; exact b)
theorem CI.cs {σ σ' : CS} (h : CI σ) (g : Cs σ σ') (k : CK σ') : CI σ' := ⟨h.1.cm g.cm, h.2.1.cs g, k⟩
theorem s_X4_measure : H_X4_measure (fun σ a b => CI σ ∧ (0 ≤ a ∧ a < σ 2 0 0 0) ∧ 0 ≤ b ∧ b < σ 2 0 0 0) (fun σ a b r σ' => Cs σ σ' ∧ CK σ' ∧ r = vD (cV σ) a b) := fun l y σ a b hp => m_X4_measure (fun K _ C => b_X4_measure_0 C s_X4_steps (by
  obtain ⟨hp, ⟨a0, a1⟩, b0, b1⟩ := hp
  have e21 := hp.1.e21
  have n := hp.1.n
  have dd := cD_in hp.2.1 a0 a1 b0 b1
  have kk := hp.2.2 a b a0 a1 b0 b1
  refine ⟨by omega, by omega, by omega, by omega, by omega, fun hc => ⟨Cs.rfl, hp.2.2, by omega⟩, fun hc => ⟨⟨by omega, by omega, hp.2.1 _ (by omega) (by omega), hp.2.1 _ (by omega) (by omega)⟩, fun r τ o => ?_⟩⟩
  have cs : Cs σ τ := fun c _ q _ => o.1 c q
  have er : r = vD (cV σ) a b := by rw [o.2, cD a0 b0]
  have f21 : τ 21 0 0 0 = σ 21 0 0 0 := by rw [o.1 21 (by decide)]
  have cs2 : Cs σ (upC τ 4 (up2 (up2 (τ 4) a b r) b a r)) := fun c q1 q2 q3 => by rw [upC_n _ _ q1]; exact cs c q1 q2 q3
  refine ⟨by omega, by omega, cs2, fun x z x0 x1 z0 z1 => ?_, er⟩
  have e2 : (upC τ 4 (up2 (up2 (τ 4) a b r) b a r)) 2 0 0 0 = σ 2 0 0 0 := cs2.cm.e2
  rw [e2] at x1 z1
  rw [cV_cm cs2.cm]
  show up2 (up2 (τ 4) a b r) b a r x z 0 = -1 ∨ up2 (up2 (τ 4) a b r) b a r x z 0 = vD (cV σ) x z
  unfold up2
  by_cases q : x = b ∧ z = a
  · rw [if_pos q, q.1, q.2, vD_symm, er]; exact Or.inr rfl
  · rw [if_neg q]
    by_cases q2 : x = a ∧ z = b
    · rw [if_pos q2, q2.1, q2.2, er]; exact Or.inr rfl
    · rw [if_neg q2, o.1 4 (by decide)]; exact hp.2.2 x z x0 x1 z0 z1))
theorem s_X4_forgetMeasures : H_X4_forgetMeasures (fun _ m => 0 ≤ m ∧ m < 24) (fun σ m _ σ' => (∀ c, ¬ c = 4 → σ' c = σ c) ∧ ∀ a b, 0 ≤ a → a < 24 → 0 ≤ b → b < 24 → σ' 4 a b 0 = if a = m ∨ b = m then -1 else σ 4 a b 0) := fun l y σ m hp => m_X4_forgetMeasures (fun K _ C => b_X4_forgetMeasures_0 C (by
  refine loop_up (P := fun k => ∀ τ : CS, (∀ c, ¬ c = 4 → τ c = σ c) → (∀ a b, 0 ≤ a → a < 24 → 0 ≤ b → b < 24 → τ 4 a b 0 = if (a = m ∧ b < k) ∨ (b = m ∧ a < k) then -1 else σ 4 a b 0) → P_X4_forgetMeasures_1 K y τ m k) 0 24 (fun k k0 k1 ih τ e1 e2 => ?_) 0 (Int.le_refl _) (by decide) σ (fun _ _ => rfl) (fun a b _ _ _ _ => by rw [if_neg (by omega)])
  refine b_X4_forgetMeasures_1 C ⟨by omega, fun hc => ⟨e1, fun a b a0 a1 b0 b1 => ?_⟩, fun hc => ⟨hp, by omega, ih (by omega) _ (fun c hc => by rw [upC_n _ _ hc]; exact e1 c hc) (fun a b a0 a1 b0 b1 => ?_)⟩⟩
  · rw [e2 a b a0 a1 b0 b1]
    by_cases q : a = m ∨ b = m
    · rw [if_pos q, if_pos (by omega)]
    · rw [if_neg q, if_neg (by omega)]
  · show up2 (up2 (τ 4) m k (-1)) k m (-1) a b 0 = _
    unfold up2
    by_cases q1 : a = k ∧ b = m
    · rw [if_pos q1, if_pos (by omega)]
    · rw [if_neg q1]
      by_cases q2 : a = m ∧ b = k
      · rw [if_pos q2, if_pos (by omega)]
      · rw [if_neg q2, e2 a b a0 a1 b0 b1]
        by_cases q3 : (a = m ∧ b < k) ∨ (b = m ∧ a < k)
        · rw [if_pos q3, if_pos (by omega)]
        · rw [if_neg q3, if_neg (by omega)]))
