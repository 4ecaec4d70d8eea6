/-! distances in the house -/
def pfN (w v : WO) : Nat → Int → Int
  | 0, k => k
  | d + 1, k => if w.1 k = v.1 k then pfN w v d (k + 1) else k
def mnL (w v : WO) : Int := if v.2 < w.2 then v.2 else w.2
def pfx (w v : WO) : Int := pfN w v (mnL w v).toNat 0
theorem pfN_in (w v : WO) : ∀ (d : Nat) (k : Int), (k ≤ pfN w v d k ∧ pfN w v d k ≤ k + d) ∧ ∀ j, k ≤ j → j < pfN w v d k → w.1 j = v.1 j := by
  intro d
  induction d with
  | zero => intro k; exact ⟨⟨Int.le_refl _, by show k ≤ k + 0; omega⟩, fun j a b => by have b' : j < k := b; omega⟩
  | succ d ih =>
    intro k
    have e : pfN w v (d + 1) k = if w.1 k = v.1 k then pfN w v d (k + 1) else k := rfl
    rw [e]
    by_cases h : w.1 k = v.1 k
    · rw [if_pos h]
      obtain ⟨a, b⟩ := ih (k + 1)
      refine ⟨by omega, fun j x y => ?_⟩
      by_cases hj : j = k
      · rw [hj]; exact h
      · exact b j (by omega) y
    · rw [if_neg h]
      exact ⟨by omega, fun j a b => by omega⟩
def sfN (w v : WO) : Nat → Int → Int
  | 0, k => k
  | d + 1, k => if w.1 (w.2 - 1 - k) = v.1 (v.2 - 1 - k) then sfN w v d (k + 1) else k
def sfx (w v : WO) (p : Int) : Int := sfN w v (mnL w v - p).toNat 0
theorem sfN_in (w v : WO) : ∀ (d : Nat) (k : Int), (k ≤ sfN w v d k ∧ sfN w v d k ≤ k + d) ∧ ∀ j, k ≤ j → j < sfN w v d k → w.1 (w.2 - 1 - j) = v.1 (v.2 - 1 - j) := by
  intro d
  induction d with
  | zero => intro k; exact ⟨⟨Int.le_refl _, by show k ≤ k + 0; omega⟩, fun j a b => by have b' : j < k := b; omega⟩
  | succ d ih =>
    intro k
    have e : sfN w v (d + 1) k = if w.1 (w.2 - 1 - k) = v.1 (v.2 - 1 - k) then sfN w v d (k + 1) else k := rfl
    rw [e]
    by_cases h : w.1 (w.2 - 1 - k) = v.1 (v.2 - 1 - k)
    · rw [if_pos h]
      obtain ⟨a, b⟩ := ih (k + 1)
      refine ⟨by omega, fun j x y => ?_⟩
      by_cases hj : j = k
      · rw [hj]; exact h
      · exact b j (by omega) y
    · rw [if_neg h]
      exact ⟨by omega, fun j a b => by omega⟩
theorem mnL_in (w v : WO) : mnL w v ≤ w.2 ∧ mnL w v ≤ v.2 ∧ (mnL w v = w.2 ∨ mnL w v = v.2) := by
  unfold mnL
  by_cases h : v.2 < w.2
  · rw [if_pos h]; omega
  · rw [if_neg h]; omega
theorem steps_lev {w v : WO} (p s : Int) (hp : 0 ≤ p) (hs : 0 ≤ s) (h1 : p + s ≤ w.2) (h2 : p + s ≤ v.2) (hpre : ∀ j, 0 ≤ j → j < p → w.1 j = v.1 j) (hsuf : ∀ j, 0 ≤ j → j < s → w.1 (w.2 - 1 - j) = v.1 (v.2 - 1 - j)) : levW w v = lvI (fun k => w.1 (p + k)) (fun k => v.1 (p + k)) (w.2 - p - s) (v.2 - p - s) := by
  unfold levW lvI
  have a1 := lev_suf (f := w.1) (g := v.1) (w.2 - s).toNat (v.2 - s).toNat s.toNat (fun k hk => by
    have := hsuf (s - 1 - k) (by omega) (by omega)
    rw [show w.2 - 1 - (s - 1 - (k : Int)) = (((w.2 - s).toNat + k : Nat) : Int) from by omega, show v.2 - 1 - (s - 1 - (k : Int)) = (((v.2 - s).toNat + k : Nat) : Int) from by omega] at this
    exact this)
  rw [show w.2.toNat = (w.2 - s).toNat + s.toNat from by omega, show v.2.toNat = (v.2 - s).toNat + s.toNat from by omega, a1]
  have a2 := lev_pre (f := w.1) (g := v.1) p.toNat (fun k hk => hpre k (by omega) (by omega)) (w.2 - p - s).toNat (v.2 - p - s).toNat
  rw [show (w.2 - s).toNat = p.toNat + (w.2 - p - s).toNat from by omega, show (v.2 - s).toNat = p.toNat + (v.2 - p - s).toNat from by omega, a2, toNat_c hp]
theorem lvI_eq (f g : Int → Int) {i j : Int} (h0 : 0 ≤ i) (h1 : 1 ≤ j) (h : f i = g (j - 1)) : lvI f g (i + 1) j = lvI f g i (j - 1) := by
  unfold lvI
  rw [toNat_s h0, show j.toNat = (j - 1).toNat + 1 from by omega]
  exact lev_eq f g (by rw [toNat_c h0, toNat_c (by omega)]; exact h)
theorem lvI_ne (f g : Int → Int) {i j : Int} (h0 : 0 ≤ i) (h1 : 1 ≤ j) (h : ¬ f i = g (j - 1)) : lvI f g (i + 1) j = min (lvI f g i (j - 1)) (min (lvI f g i j) (lvI f g (i + 1) (j - 1))) + 1 := by
  unfold lvI
  rw [toNat_s h0, show j.toNat = (j - 1).toNat + 1 from by omega]
  exact lev_ne f g (by rw [toNat_c h0, toNat_c (by omega)]; exact h)
def nrN (R G : Int → Int) (x : Int) : Nat → Int
  | 0 => R 0 + 1
  | j + 1 => if G j = x then R j else min (min (R ((j : Int) + 1)) (R j)) (nrN R G x j) + 1
def nrI (R G : Int → Int) (x j : Int) : Int := nrN R G x j.toNat
theorem nrI_0 (R G : Int → Int) (x : Int) : nrI R G x 0 = R 0 + 1 := rfl
theorem nrI_s (R G : Int → Int) (x : Int) {j : Int} (h : 1 ≤ j) : nrI R G x j = if G (j - 1) = x then R (j - 1) else min (min (R j) (R (j - 1))) (nrI R G x (j - 1)) + 1 := by
  unfold nrI
  rw [show j.toNat = (j - 1).toNat + 1 from by omega]
  show (if G (((j - 1).toNat : Nat) : Int) = x then R (((j - 1).toNat : Nat) : Int) else min (min (R ((((j - 1).toNat : Nat) : Int) + 1)) (R (((j - 1).toNat : Nat) : Int))) (nrN R G x (j - 1).toNat) + 1) = _
  rw [toNat_c (show 0 ≤ j - 1 by omega), show j - 1 + 1 = j from by omega]
theorem nr_lev {R F G : Int → Int} {x i w : Int} (hi : 0 ≤ i) (hx : F i = x) (hr : ∀ j, 0 ≤ j → j ≤ w → R j = lvI F G i j) : ∀ j, 0 ≤ j → j ≤ w → nrI R G x j = lvI F G (i + 1) j := by
  intro j h0
  refine int_up (P := fun j => j ≤ w → nrI R G x j = lvI F G (i + 1) j) (fun h => ?_) (fun j hj ih h => ?_) j h0
  · rw [nrI_0, hr 0 (Int.le_refl _) h, lvI_i0 F G hi, lvI_i0 F G (by omega)]
  · rw [nrI_s R G x (show 1 ≤ j + 1 by omega), show j + 1 - 1 = j from by omega]
    have r1 := hr j hj (by omega)
    have r2 := hr (j + 1) (by omega) h
    have r3 := ih (by omega)
    by_cases hq : G j = x
    · rw [if_pos hq, r1]
      have := lvI_eq F G hi (show 1 ≤ j + 1 by omega) (by rw [show j + 1 - 1 = j from by omega, hx]; exact hq.symm)
      rw [this, show j + 1 - 1 = j from by omega]
    · rw [if_neg hq, r1, r2, r3]
      have := lvI_ne F G hi (show 1 ≤ j + 1 by omega) (by rw [show j + 1 - 1 = j from by omega, hx]; exact fun q => hq q.symm)
      rw [this, show j + 1 - 1 = j from by omega]
      omega
theorem nr_in {R G : Int → Int} {x w B : Int} (hB : 0 ≤ B) (hr : ∀ j, 0 ≤ j → j ≤ w → 0 ≤ R j ∧ R j ≤ B) : ∀ j, 0 ≤ j → j ≤ w → 0 ≤ nrI R G x j ∧ nrI R G x j ≤ B + 1 := by
  intro j h0
  refine int_up (P := fun j => j ≤ w → 0 ≤ nrI R G x j ∧ nrI R G x j ≤ B + 1) (fun h => ?_) (fun j hj ih h => ?_) j h0
  · rw [nrI_0]; have := hr 0 (Int.le_refl _) h; omega
  · rw [nrI_s R G x (show 1 ≤ j + 1 by omega), show j + 1 - 1 = j from by omega]
    have r1 := hr j hj (by omega)
    have r2 := hr (j + 1) (by omega) h
    have r3 := ih (by omega)
    by_cases hq : G j = x
    · rw [if_pos hq]; omega
    · rw [if_neg hq]; omega
theorem s_X4_sameAhead : H_X4_sameAhead (fun σ a b => (0 ≤ a ∧ a < σ 21 0 0 0 + 3) ∧ (0 ≤ b ∧ b < σ 21 0 0 0 + 3) ∧ okW (tW σ a) ∧ okW (tW σ b)) (fun σ a b => pfx (tW σ a) (tW σ b)) := fun l y σ a b hp => m_X4_sameAhead (fun K _ C => b_X4_sameAhead_0 C (by
  obtain ⟨h1, h2, h3, h4⟩ := hp
  have l3 : 0 ≤ σ 5 a 0 0 ∧ σ 5 a 0 0 ≤ 120 := h3.1
  have l4 : 0 ≤ σ 5 b 0 0 ∧ σ 5 b 0 0 ≤ 120 := h4.1
  have mn := mnL_in (tW σ a) (tW σ b)
  have ea : (tW σ a).2 = σ 5 a 0 0 := rfl
  have eb : (tW σ b).2 = σ 5 b 0 0 := rfl
  refine ⟨h1, h2, by omega, by omega, ?_⟩
  show P_X4_sameAhead_1 K y σ a b 0 (mnL (tW σ a) (tW σ b))
  have key : ∀ (d : Nat) (k : Int), 0 ≤ k → k + d = mnL (tW σ a) (tW σ b) → pfN (tW σ a) (tW σ b) d k = pfx (tW σ a) (tW σ b) → P_X4_sameAhead_1 K y σ a b k (mnL (tW σ a) (tW σ b)) := by
    intro d
    induction d with
    | zero => intro k k0 k1 e; exact b_X4_sameAhead_1 C ⟨by omega, by omega, fun hc => ⟨e, rfl⟩, fun hc => absurd hc (by omega)⟩
    | succ d ih =>
      intro k k0 k1 e
      have x1 : 97 ≤ σ 6 a k 0 ∧ σ 6 a k 0 ≤ 122 := h3.2 k k0 (by omega)
      have x2 : 97 ≤ σ 6 b k 0 ∧ σ 6 b k 0 ≤ 122 := h4.2 k k0 (by omega)
      have e9 : pfN (tW σ a) (tW σ b) (d + 1) k = if σ 6 a k 0 = σ 6 b k 0 then pfN (tW σ a) (tW σ b) d (k + 1) else k := rfl
      rw [e9] at e
      refine b_X4_sameAhead_1 C ⟨by omega, by omega, fun hc => absurd hc (by omega), fun hc => ⟨h1, by omega, h2, by omega, by omega, fun q => ⟨?_, rfl⟩, fun q => ?_⟩⟩
      · rw [if_neg q] at e; exact e
      · rw [if_pos q] at e; exact ih (k + 1) (by omega) (by omega) e
  exact key _ 0 (Int.le_refl _) (by omega) rfl))
theorem s_X4_sameBehind : H_X4_sameBehind (fun σ a b p => (0 ≤ a ∧ a < σ 21 0 0 0 + 3) ∧ (0 ≤ b ∧ b < σ 21 0 0 0 + 3) ∧ okW (tW σ a) ∧ okW (tW σ b) ∧ 0 ≤ p ∧ p ≤ mnL (tW σ a) (tW σ b)) (fun σ a b p => sfx (tW σ a) (tW σ b) p) := fun l y σ a b p hp => m_X4_sameBehind (fun K _ C => b_X4_sameBehind_0 C (by
  obtain ⟨h1, h2, h3, h4, p0, p1⟩ := hp
  have l3 : 0 ≤ σ 5 a 0 0 ∧ σ 5 a 0 0 ≤ 120 := h3.1
  have l4 : 0 ≤ σ 5 b 0 0 ∧ σ 5 b 0 0 ≤ 120 := h4.1
  have mn := mnL_in (tW σ a) (tW σ b)
  have ea : (tW σ a).2 = σ 5 a 0 0 := rfl
  have eb : (tW σ b).2 = σ 5 b 0 0 := rfl
  refine ⟨h1, h2, by omega, by omega, ?_⟩
  show P_X4_sameBehind_1 K y σ a b 0 (mnL (tW σ a) (tW σ b) - p)
  have key : ∀ (d : Nat) (k : Int), 0 ≤ k → k + d = mnL (tW σ a) (tW σ b) - p → sfN (tW σ a) (tW σ b) d k = sfx (tW σ a) (tW σ b) p → P_X4_sameBehind_1 K y σ a b k (mnL (tW σ a) (tW σ b) - p) := by
    intro d
    induction d with
    | zero => intro k k0 k1 e; exact b_X4_sameBehind_1 C ⟨by omega, by omega, fun hc => ⟨e, rfl⟩, fun hc => absurd hc (by omega)⟩
    | succ d ih =>
      intro k k0 k1 e
      have x1 : 97 ≤ σ 6 a (σ 5 a 0 0 - 1 - k) 0 ∧ σ 6 a (σ 5 a 0 0 - 1 - k) 0 ≤ 122 := h3.2 (σ 5 a 0 0 - 1 - k) (by omega) (by omega)
      have x2 : 97 ≤ σ 6 b (σ 5 b 0 0 - 1 - k) 0 ∧ σ 6 b (σ 5 b 0 0 - 1 - k) 0 ≤ 122 := h4.2 (σ 5 b 0 0 - 1 - k) (by omega) (by omega)
      have e9 : sfN (tW σ a) (tW σ b) (d + 1) k = if σ 6 a (σ 5 a 0 0 - 1 - k) 0 = σ 6 b (σ 5 b 0 0 - 1 - k) 0 then sfN (tW σ a) (tW σ b) d (k + 1) else k := rfl
      rw [e9] at e
      refine b_X4_sameBehind_1 C ⟨by omega, by omega, fun hc => absurd hc (by omega), fun hc => ⟨h1, by omega, h2, by omega, by omega, by omega, fun q => ⟨?_, rfl⟩, fun q => ?_⟩⟩
      · rw [if_neg q] at e; exact e
      · rw [if_pos q] at e; exact ih (k + 1) (by omega) (by omega) e
  exact key _ 0 (Int.le_refl _) (by omega) rfl))
