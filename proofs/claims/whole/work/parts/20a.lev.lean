/-! THE DISTANCE OF TWO ROWS OF LETTERS, row by row, and what is known of it -/
def levS (f g : Int → Int) (p : Nat → Int) (i : Nat) : Nat → Int
  | 0 => (i : Int) + 1
  | j + 1 => min (p j + if f i = g j then 0 else 1) (min (p (j + 1)) (levS f g p i j) + 1)
def lev (f g : Int → Int) : Nat → Nat → Int
  | 0, j => (j : Int)
  | i + 1, j => levS f g (lev f g i) i j
theorem lev_0 (f g : Int → Int) (j : Nat) : lev f g 0 j = (j : Int) := rfl
theorem lev_s0 (f g : Int → Int) (i : Nat) : lev f g (i + 1) 0 = (i : Int) + 1 := rfl
theorem lev_i0 (f g : Int → Int) (i : Nat) : lev f g i 0 = (i : Int) := by
  cases i with
  | zero => rfl
  | succ i => rw [lev_s0]; omega
theorem lev_ss (f g : Int → Int) (i j : Nat) : lev f g (i + 1) (j + 1) = min (lev f g i j + if f i = g j then 0 else 1) (min (lev f g i (j + 1)) (lev f g (i + 1) j) + 1) := rfl
theorem lev_ss_le (f g : Int → Int) (i j : Nat) : lev f g (i + 1) (j + 1) ≤ lev f g i j + 1 ∧ lev f g (i + 1) (j + 1) ≤ lev f g i (j + 1) + 1 ∧ lev f g (i + 1) (j + 1) ≤ lev f g (i + 1) j + 1 := by
  rw [lev_ss]
  by_cases h : f i = g j
  · rw [if_pos h]; omega
  · rw [if_neg h]; omega
theorem lev_symm (f g : Int → Int) : ∀ i j : Nat, lev f g i j = lev g f j i := by
  intro i
  induction i with
  | zero => intro j; rw [lev_0, lev_i0]
  | succ i ih =>
    intro j
    induction j with
    | zero => rw [lev_i0, lev_0]
    | succ j jh =>
      rw [lev_ss, lev_ss, ih j, ih (j + 1), jh]
      by_cases h : f i = g j
      · rw [if_pos h, if_pos h.symm]; omega
      · rw [if_neg h, if_neg (fun q => h q.symm)]; omega
theorem lev_A (f g : Int → Int) (i j : Nat) : lev f g i (j + 1) ≤ lev f g i j + 1 := by
  cases i with
  | zero => rw [lev_0, lev_0]; omega
  | succ i => exact (lev_ss_le f g i j).2.2
theorem lev_B (f g : Int → Int) (i j : Nat) : lev f g (i + 1) j ≤ lev f g i j + 1 := by
  rw [lev_symm f g (i + 1) j, lev_symm f g i j]
  exact lev_A g f j i
theorem lev_C (f g : Int → Int) : ∀ i j : Nat, lev f g i j ≤ lev f g i (j + 1) + 1 := by
  intro i
  induction i with
  | zero => intro j; rw [lev_0, lev_0]; omega
  | succ i ih =>
    intro j
    have h1 := lev_B f g i j
    have h2 := ih j
    rw [lev_ss]
    by_cases h : f i = g j
    · rw [if_pos h]; omega
    · rw [if_neg h]; omega
theorem lev_Dd (f g : Int → Int) (i j : Nat) : lev f g i j ≤ lev f g (i + 1) j + 1 := by
  rw [lev_symm f g (i + 1) j, lev_symm f g i j]
  exact lev_C g f j i
theorem lev_E (f g : Int → Int) (i j : Nat) : lev f g i j ≤ lev f g (i + 1) (j + 1) := by
  have h1 := lev_C f g i j
  have h2 := lev_Dd f g i j
  rw [lev_ss]
  by_cases h : f i = g j
  · rw [if_pos h]; omega
  · rw [if_neg h]; omega
theorem lev_eq (f g : Int → Int) {i j : Nat} (h : f i = g j) : lev f g (i + 1) (j + 1) = lev f g i j := by
  have h1 := lev_E f g i j
  have h2 : lev f g (i + 1) (j + 1) ≤ lev f g i j := by rw [lev_ss, if_pos h]; omega
  omega
theorem lev_ne (f g : Int → Int) {i j : Nat} (h : ¬ f i = g j) : lev f g (i + 1) (j + 1) = min (lev f g i j) (min (lev f g i (j + 1)) (lev f g (i + 1) j)) + 1 := by
  rw [lev_ss, if_neg h]; omega
theorem lev_ge (f g : Int → Int) : ∀ i j : Nat, (i : Int) - j ≤ lev f g i j ∧ (j : Int) - i ≤ lev f g i j ∧ 0 ≤ lev f g i j := by
  intro i
  induction i with
  | zero => intro j; rw [lev_0]; omega
  | succ i ih =>
    intro j
    induction j with
    | zero => rw [lev_i0]; omega
    | succ j jh =>
      have h1 := ih j
      have h2 := ih (j + 1)
      rw [lev_ss]
      by_cases h : f i = g j
      · rw [if_pos h]; omega
      · rw [if_neg h]; omega
theorem lev_le (f g : Int → Int) : ∀ i j : Nat, lev f g i j ≤ max (i : Int) j := by
  intro i
  induction i with
  | zero => intro j; rw [lev_0]; omega
  | succ i ih =>
    intro j
    cases j with
    | zero => rw [lev_i0]; omega
    | succ j =>
      have h1 := ih j
      have h2 := (lev_ss_le f g i j).1
      omega
theorem lev_cong {f g f' g' : Int → Int} : ∀ i j : Nat, (∀ k : Nat, k < i → f k = f' k) → (∀ k : Nat, k < j → g k = g' k) → lev f g i j = lev f' g' i j := by
  intro i
  induction i with
  | zero => intro j _ _; rw [lev_0, lev_0]
  | succ i ih =>
    intro j hf
    induction j with
    | zero => intro _; rw [lev_i0, lev_i0]
    | succ j jh =>
      intro hg
      rw [lev_ss, lev_ss, ih j (fun k hk => hf k (by omega)) (fun k hk => hg k (by omega)), ih (j + 1) (fun k hk => hf k (by omega)) hg, jh (fun k hk => hg k (by omega)), hf i (by omega), hg j (by omega)]
theorem lev_self (f : Int → Int) : ∀ i : Nat, lev f f i i = 0 := by
  intro i
  induction i with
  | zero => rfl
  | succ i ih => rw [lev_eq f f rfl, ih]
theorem lev_same {f g : Int → Int} (p : Nat) (h : ∀ k : Nat, k < p → f k = g k) : lev f g p p = 0 := by
  rw [lev_cong (f' := g) (g' := g) p p h (fun _ _ => rfl), lev_self]
/-- what both have ahead costs no step -/
theorem lev_pre {f g : Int → Int} (p : Nat) (h : ∀ k : Nat, k < p → f k = g k) : ∀ i j : Nat, lev f g (p + i) (p + j) = lev (fun k => f (p + k)) (fun k => g (p + k)) i j := by
  have h0 := lev_same p h
  have hj : ∀ j : Nat, lev f g p (p + j) = (j : Int) := by
    intro j
    induction j with
    | zero => exact h0
    | succ j ih =>
      have h1 := lev_A f g p (p + j)
      have h2 := lev_ge f g p (p + (j + 1))
      rw [← Nat.add_assoc] at h2 ⊢
      omega
  intro i
  induction i with
  | zero => intro j; rw [lev_0]; exact hj j
  | succ i ih =>
    intro j
    induction j with
    | zero =>
      rw [lev_i0]
      have h1 := lev_B f g (p + i) p
      have h2 := lev_ge f g (p + (i + 1)) p
      have h3 : lev f g (p + i) p = (i : Int) := by rw [show lev f g (p + i) p = lev f g (p + i) (p + 0) from rfl, ih 0, lev_i0]
      rw [show lev f g (p + (i + 1)) (p + 0) = lev f g (p + i + 1) p from rfl]
      rw [← Nat.add_assoc] at h2
      omega
    | succ j jh =>
      rw [show p + (i + 1) = (p + i) + 1 from rfl, show p + (j + 1) = (p + j) + 1 from rfl, lev_ss, lev_ss, ih j]
      rw [show (p + j) + 1 = p + (j + 1) from rfl, ih (j + 1)]
      rw [show (p + i) + 1 = p + (i + 1) from rfl, jh]
      rw [show (((p + i : Nat) : Int)) = (p : Int) + i from by omega, show (((p + j : Nat) : Int)) = (p : Int) + j from by omega]
/-- nor what both have behind -/
theorem lev_suf {f g : Int → Int} (i j : Nat) : ∀ s : Nat, (∀ k : Nat, k < s → f ((i + k : Nat) : Int) = g ((j + k : Nat) : Int)) → lev f g (i + s) (j + s) = lev f g i j := by
  intro s
  induction s with
  | zero => intro _; rfl
  | succ s ih =>
    intro h
    rw [show i + (s + 1) = (i + s) + 1 from rfl, show j + (s + 1) = (j + s) + 1 from rfl, lev_eq f g (h s (by omega))]
    exact ih (fun k hk => h k (by omega))
