/-! WHAT HOLDS OF THE HOUSE still holds with a scribe, a habit, a manuscript more -/
theorem scribe_I {σ : CS} {M : Int} (h : CI σ) (h8 : σ 3 0 0 0 < 8) (hM : σ 3 0 0 0 + 1 ≤ M ∧ M ≤ 1000000) : CI (sS σ M) ∧ VE (nScribe (cV σ)) (cV (sS σ M)) := by
  have e22 := h.1.e22
  have ns := h.1.ns
  have cp := h.1.cp
  have fl := h.1.fl
  refine ⟨⟨⟨⟨h.1.tl, h.1.n, ⟨?_, ?_⟩, h.1.e21, ?_, cp.1, ⟨hM.1, hM.2⟩, fl.1, ?_⟩, h.1.ex, h.1.2.2.1, fun s a b => ?_, h.1.2.2.2.2⟩, h.2.1, h.2.2⟩, rfl, fun i _ _ => rfl, rfl, rfl, fun m a b => ⟨eqW.rfl, rfl, rfl, rfl, rfl⟩, fun s a b => ?_⟩
  · show 0 ≤ σ 3 0 0 0 + 1; omega
  · show σ 3 0 0 0 + 1 ≤ 8; omega
  · show σ 22 0 0 0 + 1 = σ 3 0 0 0 + 1; omega
  · show σ 27 0 0 0 + 1 = σ 3 0 0 0 + 1; omega
  · have b' : s < σ 3 0 0 0 + 1 := b
    show (0 ≤ up1 (σ 13) (σ 22 0 0 0) 0 s 0 0 ∧ up1 (σ 13) (σ 22 0 0 0) 0 s 0 0 ≤ 5) ∧ (up1 (σ 13) (σ 22 0 0 0) 0 s 0 0 ≤ up1 (σ 20) (σ 22 0 0 0) 0 s 0 0 ∧ up1 (σ 20) (σ 22 0 0 0) 0 s 0 0 ≤ 1000000 ∧ up1 (σ 25) (σ 22 0 0 0) 0 s 0 0 = up1 (σ 13) (σ 22 0 0 0) 0 s 0 0) ∧ okHab (cHa σ s) (up1 (σ 13) (σ 22 0 0 0) 0 s 0 0) ∧ ∀ k, 0 ≤ k → k < up1 (σ 13) (σ 22 0 0 0) 0 s 0 0 → 0 ≤ σ 24 s k 0 ∧ σ 24 s k 0 < up1 (σ 23) (σ 22 0 0 0) 0 s 0 0
    by_cases q : s = σ 22 0 0 0
    · rw [q, up1_s, up1_s, up1_s]
      exact ⟨by omega, by omega, fun k k0 k1 => absurd k1 (by omega), fun k k0 k1 => absurd k1 (by omega)⟩
    · rw [up1_n _ _ _ _ q, up1_n _ _ _ _ q, up1_n _ _ _ _ q, up1_n _ _ _ _ q]
      exact h.1.s a (by omega)
  · have b' : s < σ 3 0 0 0 + 1 := b
    have e10 : nScribe (cV σ) 10 s 0 0 = if s = σ 3 0 0 0 then 0 else σ 13 s 0 0 := by simp [nScribe, cV]
    have u10 : cV (sS σ M) 10 s 0 0 = up1 (σ 13) (σ 22 0 0 0) 0 s 0 0 := rfl
    rw [e10, u10]
    by_cases q : s = σ 22 0 0 0
    · rw [if_pos (q.trans e22), q, up1_s]
      exact ⟨rfl, fun k k0 k1 => absurd k1 (by omega)⟩
    · rw [if_neg (by omega), up1_n _ _ _ _ q]
      exact ⟨rfl, fun k _ _ p _ _ => rfl⟩
theorem habit_I {σ : CS} {s j0 kind x z n M : Int} (h : CI σ) (hs : 0 ≤ s ∧ s < σ 3 0 0 0) (h5 : σ 13 s 0 0 < 5) (hj : (0 ≤ σ 23 s 0 0 ∧ j0 = σ 23 s 0 0) ∨ (σ 23 s 0 0 < 0 ∧ j0 = 0)) (hk : (0 ≤ kind ∧ kind ≤ 4) ∧ (0 ≤ x ∧ x ≤ 25) ∧ (0 ≤ z ∧ z ≤ 25) ∧ (1 ≤ n ∧ n ≤ 9)) (hM : σ 13 s 0 0 + 1 ≤ M ∧ M ≤ 1000000) : CI (sH σ s j0 kind x z n M) ∧ VE (nHabit (cV σ) s kind x z n) (cV (sH σ s j0 kind x z n M)) := by
  have c0 := h.1.s hs.1 hs.2
  have a24 : ∀ s' k, sH σ s j0 kind x z n M 24 s' k 0 = if s' = s ∧ k = σ 13 s 0 0 then j0 else σ 24 s' k 0 := fun _ _ => rfl
  have a14 : ∀ s' j p, sH σ s j0 kind x z n M 14 s' j p = if s' = s ∧ j = j0 then (if p = 0 then kind else if p = 1 then x else if p = 2 then z else n) else σ 14 s' j p := fun _ _ _ => rfl
  have old : ∀ s' k p, 0 ≤ s' → s' < σ 3 0 0 0 → 0 ≤ k → k < σ 13 s' 0 0 → cHa (sH σ s j0 kind x z n M) s' k p = cHa σ s' k p := fun s' k p x0 x1 k0 k1 => by
    have c := (h.1.s x0 x1).2.2.2 k k0 k1
    show sH σ s j0 kind x z n M 14 s' (sH σ s j0 kind x z n M 24 s' k 0) p = σ 14 s' (σ 24 s' k 0) p
    by_cases q : s' = s
    · subst q
      rw [a24, if_neg (by omega), a14, if_neg (by omega)]
    · rw [a24, if_neg (fun w => q w.1), a14, if_neg (fun w => q w.1)]
  have new : ∀ p, cHa (sH σ s j0 kind x z n M) s (σ 13 s 0 0) p = (if p = 0 then kind else if p = 1 then x else if p = 2 then z else n) := fun p => by
    show sH σ s j0 kind x z n M 14 s (sH σ s j0 kind x z n M 24 s (σ 13 s 0 0) 0) p = _
    rw [a24, if_pos ⟨rfl, rfl⟩, a14, if_pos ⟨rfl, rfl⟩]
  have s13 : sH σ s j0 kind x z n M 13 s 0 0 = σ 13 s 0 0 + 1 := if_pos rfl
  have s20 : sH σ s j0 kind x z n M 20 s 0 0 = M := if_pos rfl
  have s25 : sH σ s j0 kind x z n M 25 s 0 0 = σ 25 s 0 0 + 1 := if_pos rfl
  have s23 : sH σ s j0 kind x z n M 23 s 0 0 = j0 + 1 := if_pos rfl
  refine ⟨⟨⟨h.1.1, h.1.ex, h.1.2.2.1, fun s' a b => ?_, h.1.2.2.2.2⟩, h.2.1, h.2.2⟩, rfl, fun i _ _ => rfl, rfl, rfl, fun m a b => ⟨eqW.rfl, rfl, rfl, rfl, rfl⟩, fun s' a b => ?_⟩
  · have b' : s' < σ 3 0 0 0 := b
    by_cases q : s' = s
    · subst q
      rw [s13, s20, s25, s23]
      refine ⟨by omega, by omega, fun k k0 k1 => ?_, fun k k0 k1 => ?_⟩
      · by_cases q2 : k = σ 13 s' 0 0
        · rw [q2, new, new, new, new]
          exact ⟨hk.1, hk.2.1, hk.2.2.1, hk.2.2.2⟩
        · rw [old s' k 0 a b' k0 (by omega), old s' k 1 a b' k0 (by omega), old s' k 2 a b' k0 (by omega), old s' k 3 a b' k0 (by omega)]
          exact c0.2.2.1 k k0 (by omega)
      · rw [a24]
        by_cases q2 : k = σ 13 s' 0 0
        · rw [if_pos ⟨rfl, q2⟩]; omega
        · have := c0.2.2.2 k k0 (by omega)
          rw [if_neg (fun w => q2 w.2)]; omega
    · have c := h.1.s a b'
      have t13 : sH σ s j0 kind x z n M 13 s' 0 0 = σ 13 s' 0 0 := if_neg q
      have t20 : sH σ s j0 kind x z n M 20 s' 0 0 = σ 20 s' 0 0 := if_neg q
      have t25 : sH σ s j0 kind x z n M 25 s' 0 0 = σ 25 s' 0 0 := if_neg q
      have t23 : sH σ s j0 kind x z n M 23 s' 0 0 = σ 23 s' 0 0 := if_neg q
      rw [t13, t20, t25, t23]
      refine ⟨c.1, c.2.1, fun k k0 k1 => ?_, fun k k0 k1 => ?_⟩
      · rw [old s' k 0 a b' k0 k1, old s' k 1 a b' k0 k1, old s' k 2 a b' k0 k1, old s' k 3 a b' k0 k1]
        exact c.2.2.1 k k0 k1
      · rw [a24, if_neg (fun w => q w.1)]
        exact c.2.2.2 k k0 k1
  · have b' : s' < σ 3 0 0 0 := b
    have e10 : nHabit (cV σ) s kind x z n 10 s' 0 0 = if s' = s then σ 13 s 0 0 + 1 else σ 13 s' 0 0 := by simp [nHabit, cV]
    have e11 : ∀ k p, nHabit (cV σ) s kind x z n 11 s' k p = if s' = s ∧ k = σ 13 s 0 0 then (if p = 0 then kind else if p = 1 then x else if p = 2 then z else n) else cHa σ s' k p := fun k p => by simp [nHabit, cV, cHa]
    have u10 : cV (sH σ s j0 kind x z n M) 10 s' 0 0 = sH σ s j0 kind x z n M 13 s' 0 0 := rfl
    have u11 : ∀ k p, cV (sH σ s j0 kind x z n M) 11 s' k p = cHa (sH σ s j0 kind x z n M) s' k p := fun _ _ => rfl
    rw [e10, u10]
    by_cases q : s' = s
    · subst q
      rw [if_pos rfl, s13]
      refine ⟨rfl, fun k k0 k1 p _ _ => ?_⟩
      rw [e11, u11]
      by_cases q2 : k = σ 13 s' 0 0
      · rw [if_pos ⟨rfl, q2⟩, q2, new]
      · rw [if_neg (fun w => q2 w.2), old s' k p a b' k0 (by omega)]
    · have t13 : sH σ s j0 kind x z n M 13 s' 0 0 = σ 13 s' 0 0 := if_neg q
      rw [if_neg q, t13]
      refine ⟨rfl, fun k k0 k1 p _ _ => ?_⟩
      rw [e11, u11, if_neg (fun w => q w.1), old s' k p a b' k0 k1]
theorem drop_I {σ : CS} {s hh : Int} (h : CI σ) (hs : 0 ≤ s ∧ s < σ 3 0 0 0) (h5 : 0 ≤ hh ∧ hh < σ 13 s 0 0) : CI (sD σ s hh) ∧ VE (nDrop (cV σ) s hh) (cV (sD σ s hh)) := by
  have c0 := h.1.s hs.1 hs.2
  have a24 : ∀ s' k, sD σ s hh 24 s' k 0 = if s' = s ∧ hh ≤ k then σ 24 s' (k + 1) 0 else σ 24 s' k 0 := fun _ _ => rfl
  have s13 : sD σ s hh 13 s 0 0 = σ 13 s 0 0 - 1 := if_pos rfl
  have s25 : sD σ s hh 25 s 0 0 = σ 25 s 0 0 - 1 := if_pos rfl
  refine ⟨⟨⟨h.1.1, h.1.ex, h.1.2.2.1, fun s' a b => ?_, h.1.2.2.2.2⟩, h.2.1, h.2.2⟩, rfl, fun i _ _ => rfl, rfl, rfl, fun m a b => ⟨eqW.rfl, rfl, rfl, rfl, rfl⟩, fun s' a b => ?_⟩
  · have b' : s' < σ 3 0 0 0 := b
    have hc : ∀ k p, cHa (sD σ s hh) s' k p = σ 14 s' (sD σ s hh 24 s' k 0) p := fun _ _ => rfl
    by_cases q : s' = s
    · subst q
      have t20 : sD σ s' hh 20 s' 0 0 = σ 20 s' 0 0 := rfl
      have t23 : sD σ s' hh 23 s' 0 0 = σ 23 s' 0 0 := rfl
      rw [s13, t20, s25, t23]
      refine ⟨by omega, by omega, fun k k0 k1 => ?_, fun k k0 k1 => ?_⟩
      · rw [hc, hc, hc, hc, a24]
        by_cases q2 : hh ≤ k
        · rw [if_pos ⟨rfl, q2⟩]; exact c0.2.2.1 (k + 1) (by omega) (by omega)
        · rw [if_neg (fun w => q2 w.2)]; exact c0.2.2.1 k k0 (by omega)
      · rw [a24]
        by_cases q2 : hh ≤ k
        · rw [if_pos ⟨rfl, q2⟩]; exact c0.2.2.2 (k + 1) (by omega) (by omega)
        · rw [if_neg (fun w => q2 w.2)]; exact c0.2.2.2 k k0 (by omega)
    · have c := h.1.s a b'
      have t13 : sD σ s hh 13 s' 0 0 = σ 13 s' 0 0 := if_neg q
      have t25 : sD σ s hh 25 s' 0 0 = σ 25 s' 0 0 := if_neg q
      have t20 : sD σ s hh 20 s' 0 0 = σ 20 s' 0 0 := rfl
      have t23 : sD σ s hh 23 s' 0 0 = σ 23 s' 0 0 := rfl
      rw [t13, t20, t25, t23]
      refine ⟨c.1, c.2.1, fun k k0 k1 => ?_, fun k k0 k1 => ?_⟩
      · rw [hc, hc, hc, hc, a24, if_neg (fun w => q w.1)]; exact c.2.2.1 k k0 k1
      · rw [a24, if_neg (fun w => q w.1)]; exact c.2.2.2 k k0 k1
  · have b' : s' < σ 3 0 0 0 := b
    have e10 : nDrop (cV σ) s hh 10 s' 0 0 = if s' = s then σ 13 s 0 0 - 1 else σ 13 s' 0 0 := by simp [nDrop, cV]
    have e11 : ∀ k p, nDrop (cV σ) s hh 11 s' k p = if s' = s ∧ hh ≤ k then cHa σ s (k + 1) p else cHa σ s' k p := fun k p => by simp [nDrop, cV, cHa]
    have u10 : cV (sD σ s hh) 10 s' 0 0 = sD σ s hh 13 s' 0 0 := rfl
    have u11 : ∀ k p, cV (sD σ s hh) 11 s' k p = σ 14 s' (sD σ s hh 24 s' k 0) p := fun _ _ => rfl
    rw [e10, u10]
    by_cases q : s' = s
    · subst q
      rw [if_pos rfl, s13]
      refine ⟨rfl, fun k k0 k1 p _ _ => ?_⟩
      rw [e11, u11, a24]
      by_cases q2 : hh ≤ k
      · rw [if_pos ⟨rfl, q2⟩, if_pos ⟨rfl, q2⟩]; rfl
      · rw [if_neg (fun w => q2 w.2), if_neg (fun w => q2 w.2)]; rfl
    · have t13 : sD σ s hh 13 s' 0 0 = σ 13 s' 0 0 := if_neg q
      rw [if_neg q, t13]
      refine ⟨rfl, fun k k0 k1 p _ _ => ?_⟩
      rw [e11, u11, a24, if_neg (fun w => q w.1), if_neg (fun w => q w.1)]
      rfl
theorem keep_I {σ τ : CS} {ex sc M : Int} (h : CI σ) (hn : σ 2 0 0 0 < 24) (hex : -1 ≤ ex ∧ ex < σ 2 0 0 0) (hsc : -1 ≤ sc ∧ sc ≤ 7) (hM : σ 2 0 0 0 + 1 ≤ M ∧ M ≤ 1000000)
    (e1 : ∀ c, ¬ c = 4 → τ c = sM σ ex sc (if ex < 0 then 0 else σ 11 ex 0 0 + 1) (σ 5 0 0 0) (cpI (fun p => σ 6 0 p 0) (fun _ => 0) 0 0 (σ 5 0 0 0)) M c) (e4 : ∀ a b, 0 ≤ a → a < 24 → 0 ≤ b → b < 24 → τ 4 a b 0 = if a = σ 2 0 0 0 ∨ b = σ 2 0 0 0 then -1 else σ 4 a b 0) : CI τ ∧ VE (nKeep (cV σ) (tW σ 0) ex sc) (cV τ) := by
  have n0 := h.1.n
  have e21 := h.1.e21
  have cp := h.1.cp
  have fl := h.1.fl
  have w0 : okW (tW σ 0) := h.2.1 0 (by decide) (by omega)
  have w0l : 0 ≤ σ 5 0 0 0 ∧ σ 5 0 0 0 ≤ 120 := w0.1
  generalize hg : (if ex < 0 then 0 else σ 11 ex 0 0 + 1) = g at e1
  have t0 : τ 0 = σ 0 := e1 0 (by decide)
  have t1 : τ 1 = σ 1 := e1 1 (by decide)
  have t2 : τ 2 0 0 0 = σ 2 0 0 0 + 1 := by rw [e1 2 (by decide)]; rfl
  have t3 : τ 3 = σ 3 := e1 3 (by decide)
  have t5 : τ 5 = up1 (σ 5) (σ 21 0 0 0 + 3) (σ 5 0 0 0) := e1 5 (by decide)
  have t6 : τ 6 = upR (σ 6) (σ 21 0 0 0 + 3) (cpI (fun p => σ 6 0 p 0) (fun _ => 0) 0 0 (σ 5 0 0 0)) := e1 6 (by decide)
  have t9 : τ 9 = up1 (σ 9) (σ 21 0 0 0) ex := e1 9 (by decide)
  have t10 : τ 10 = up1 (σ 10) (σ 21 0 0 0) sc := e1 10 (by decide)
  have t11 : τ 11 = up1 (σ 11) (σ 21 0 0 0) g := e1 11 (by decide)
  have t12 : τ 12 = up1 (σ 12) (σ 21 0 0 0) 1 := e1 12 (by decide)
  have t13 : τ 13 = σ 13 := e1 13 (by decide)
  have t14 : τ 14 = σ 14 := e1 14 (by decide)
  have t18 : τ 18 0 0 0 = M := by rw [e1 18 (by decide)]; rfl
  have t19 : τ 19 = σ 19 := e1 19 (by decide)
  have t20 : τ 20 = σ 20 := e1 20 (by decide)
  have t21 : τ 21 0 0 0 = σ 21 0 0 0 + 1 := by rw [e1 21 (by decide)]; rfl
  have t22 : τ 22 = σ 22 := e1 22 (by decide)
  have t23 : τ 23 = σ 23 := e1 23 (by decide)
  have t24 : τ 24 = σ 24 := e1 24 (by decide)
  have t25 : τ 25 = σ 25 := e1 25 (by decide)
  have t26 : τ 26 0 0 0 = σ 26 0 0 0 + 1 := by rw [e1 26 (by decide)]; rfl
  have t27 : τ 27 = σ 27 := e1 27 (by decide)
  have oW : ∀ k, k ≠ σ 2 0 0 0 + 3 → tW τ k = tW σ k := fun k hk => Prod.ext (funext fun p => by show τ 6 k p 0 = σ 6 k p 0; rw [t6, upR_n _ _ _ _ (by omega)]) (by show τ 5 k 0 0 = σ 5 k 0 0; rw [t5, up1_n _ _ _ _ (by omega)])
  have nW : eqW (tW τ (σ 2 0 0 0 + 3)) (tW σ 0) := by
    refine ⟨by show τ 5 (σ 2 0 0 0 + 3) 0 0 = σ 5 0 0 0; rw [t5, e21, up1_s], fun p p0 p1 => ?_⟩
    have p1' : p < τ 5 (σ 2 0 0 0 + 3) 0 0 := p1
    rw [t5, e21, up1_s] at p1'
    show τ 6 (σ 2 0 0 0 + 3) p 0 = σ 6 0 p 0
    rw [t6, e21, upR_s]
    show (if 0 ≤ p ∧ p < 0 + σ 5 0 0 0 then σ 6 0 (0 + (p - 0)) 0 else 0) = _
    rw [if_pos ⟨p0, by omega⟩, show 0 + (p - 0) = p from by omega]
  have o9 : ∀ m, m ≠ σ 2 0 0 0 → τ 9 m 0 0 = σ 9 m 0 0 := fun m hm => by rw [t9, up1_n _ _ _ _ (by omega)]
  have n9 : τ 9 (σ 2 0 0 0) 0 0 = ex := by rw [t9, e21, up1_s]
  have EX : EXI (fun m => τ 9 m 0 0) (σ 2 0 0 0 + 1) := fun m a b => by
    show -1 ≤ τ 9 m 0 0 ∧ τ 9 m 0 0 < m
    by_cases q : m = σ 2 0 0 0
    · rw [q, n9]; exact ⟨hex.1, by omega⟩
    · rw [o9 m q]; exact h.1.ex m a (by omega)
  have gens : ∀ m, 0 ≤ m → m < σ 2 0 0 0 → gen (fun m => τ 9 m 0 0) m = gen (fun m => σ 9 m 0 0) m := fun m a b => (gen_cong (h.1.ex) (fun k a b => (o9 k (by omega)).symm) m a b).symm
  have hVx : ∀ m, 0 ≤ m → m < σ 2 0 0 0 → vTx (cV τ) m = vTx (cV σ) m := fun m a b => by rw [cTx τ a, cTx σ a, oW _ (by omega)]
  have hCO : CO τ := by
    refine ⟨⟨by rw [t0]; exact h.1.tl, by omega, by rw [t3]; exact h.1.ns, by omega, by rw [t22, t3]; exact h.1.e22, by omega, by rw [t3, t19]; exact cp.2, by omega, by rw [t27, t3]; exact fl.2⟩, by rw [t2]; exact EX, fun m a b => ?_, fun s a b => ?_, fun i a b => by rw [t1]; exact h.1.tb a b⟩
    · rw [t2] at b
      by_cases q : m = σ 2 0 0 0
      · subst q
        rw [t10, t11, t12, e21, up1_s, up1_s, up1_s]
        refine ⟨Or.inr rfl, hsc, ?_⟩
        rw [← hg]
        by_cases q2 : ex < 0
        · rw [if_pos q2, gen_o (ex := fun m => τ 9 m 0 0) (m := σ 2 0 0 0) (show (fun m => τ 9 m 0 0) (σ 2 0 0 0) = -1 from by show τ 9 (σ 2 0 0 0) 0 0 = -1; omega)]
        · rw [if_neg q2, gen_s EX n0.1 (by omega) (show ¬ (fun m => τ 9 m 0 0) (σ 2 0 0 0) = -1 from by show ¬ τ 9 (σ 2 0 0 0) 0 0 = -1; omega)]
          show σ 11 ex 0 0 + 1 = gen (fun m => τ 9 m 0 0) (τ 9 (σ 2 0 0 0) 0 0) + 1
          rw [n9, gens ex (by omega) hex.2, (h.1.m (show 0 ≤ ex by omega) hex.2).2.2]
      · have c := h.1.m a (by omega)
        rw [t10, t11, t12, up1_n _ _ _ _ (by omega), up1_n _ _ _ _ (by omega), up1_n _ _ _ _ (by omega), gens m a (by omega)]
        exact c
    · have c := h.1.s a (by rw [t3] at b; exact b)
      have ec : cHa τ s = cHa σ s := by unfold cHa; rw [t14, t24]
      rw [t13, t20, t25, ec, t24, t23]
      exact c
  refine ⟨⟨hCO, fun k a b => ?_, fun a b a0 a1 b0 b1 => ?_⟩, ?_, fun i a b => ?_, ?_, ?_, fun m a b => ?_, fun s a b => ?_⟩
  · rw [t2] at b
    by_cases q : k = σ 2 0 0 0 + 3
    · subst q
      exact ⟨by rw [nW.1]; exact w0.1, fun p p0 p1 => by rw [nW.2 p p0 p1]; exact w0.2 p p0 (by rw [← nW.1]; exact p1)⟩
    · rw [oW k q]; exact h.2.1 k a (by omega)
  · rw [t2] at a1 b1
    rw [e4 a b a0 (by omega) b0 (by omega)]
    by_cases q : a = σ 2 0 0 0 ∨ b = σ 2 0 0 0
    · rw [if_pos q]; exact Or.inl rfl
    · rw [if_neg q]
      have e : vD (cV τ) a b = vD (cV σ) a b := by unfold vD; rw [hVx a a0 (by omega), hVx b b0 (by omega)]
      rw [e]
      exact h.2.2 a b a0 (by omega) b0 (by omega)
  · show σ 0 0 0 0 = τ 0 0 0 0; rw [t0]
  · show σ 1 i 0 0 = τ 1 i 0 0; rw [t1]
  · show nKeep (cV σ) (tW σ 0) ex sc 2 0 0 0 = τ 2 0 0 0; rw [t2]; rfl
  · show σ 3 0 0 0 = τ 3 0 0 0; rw [t3]
  · have b' : m < σ 2 0 0 0 + 1 := b
    have v2 : cV σ 2 0 0 0 = σ 2 0 0 0 := rfl
    by_cases q : m = σ 2 0 0 0
    · subst q
      have x4 := nK_4 (cV σ) (tW σ 0) ex sc
      have x5 := nK_5 (cV σ) (tW σ 0) ex sc
      have x6 := nK_6 (cV σ) (tW σ 0) ex sc
      have x7 := nK_7 (cV σ) (tW σ 0) ex sc
      have x8 := nK_8 (cV σ) (tW σ 0) ex sc
      have x9 := nK_9 (cV σ) (tW σ 0) ex sc
      rw [v2] at x4 x5 x6 x7 x8 x9
      refine ⟨?_, x6.trans ?_, x7.trans ?_, x8.trans ?_, x9.trans ?_⟩
      · rw [cTx τ a]
        have ev : vTx (nKeep (cV σ) (tW σ 0) ex sc) (σ 2 0 0 0) = tW σ 0 := Prod.ext (funext fun p => x5 p) x4
        rw [ev]
        exact nW.symm
      · exact n9.symm
      · show sc = τ 10 (σ 2 0 0 0) 0 0; rw [t10, e21, up1_s]
      · show (if ex = -1 then 0 else σ 11 ex 0 0 + 1) = τ 11 (σ 2 0 0 0) 0 0
        rw [t11, e21, up1_s, ← hg]
        by_cases q2 : ex < 0
        · rw [if_pos q2, if_pos (by omega)]
        · rw [if_neg q2, if_neg (by omega)]
      · show 1 = τ 12 (σ 2 0 0 0) 0 0; rw [t12, e21, up1_s]
    · have q' : ¬ m = cV σ 2 0 0 0 := q
      refine ⟨?_, ?_, ?_, ?_, ?_⟩
      · have ev : vTx (nKeep (cV σ) (tW σ 0) ex sc) m = vTx (cV σ) m := Prod.ext (funext fun p => nK_o (q := 5) (k := 0) (cV σ) (tW σ 0) ex sc (by decide) q') (nK_o (q := 4) (j := 0) (k := 0) (cV σ) (tW σ 0) ex sc (by decide) q')
        rw [ev, hVx m a (by omega)]
        exact eqW.rfl
      · rw [nK_o _ _ _ _ (by decide) q']; exact (o9 m q).symm
      · rw [nK_o _ _ _ _ (by decide) q']; show σ 10 m 0 0 = τ 10 m 0 0; rw [t10, up1_n _ _ _ _ (by omega)]
      · rw [nK_o _ _ _ _ (by decide) q']; show σ 11 m 0 0 = τ 11 m 0 0; rw [t11, up1_n _ _ _ _ (by omega)]
      · rw [nK_o _ _ _ _ (by decide) q']; show σ 12 m 0 0 = τ 12 m 0 0; rw [t12, up1_n _ _ _ _ (by omega)]
  · have x : ∀ k p, cV τ 11 s k p = cV σ 11 s k p := fun k p => by show τ 14 s (τ 24 s k 0) p = σ 14 s (σ 24 s k 0) p; rw [t14, t24]
    refine ⟨by show σ 13 s 0 0 = τ 13 s 0 0; rw [t13], fun k _ _ p _ _ => ?_⟩
    rw [x k p]
    rfl
