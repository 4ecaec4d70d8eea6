/-! THE HOUSE'S TEXTS -/
def tW (σ : CS) (k : Int) : WO := (fun p => σ 6 k p 0, σ 5 k 0 0)
/-- only text k has changed -/
def Ct (k : Int) (σ σ' : CS) : Prop := (∀ c, ¬ c = 5 → ¬ c = 6 → σ' c = σ c) ∧ (∀ j p, ¬ j = k → σ' 5 j 0 0 = σ 5 j 0 0 ∧ σ' 6 j p 0 = σ 6 j p 0)
theorem Ct.rfl {k : Int} {σ : CS} : Ct k σ σ := ⟨fun _ _ _ => Eq.refl _, fun _ _ _ => ⟨Eq.refl _, Eq.refl _⟩⟩
theorem Ct.trans {k : Int} {σ σ' σ'' : CS} (h : Ct k σ σ') (g : Ct k σ' σ'') : Ct k σ σ'' := ⟨fun c a b => (g.1 c a b).trans (h.1 c a b), fun j p a => ⟨(g.2 j p a).1.trans (h.2 j p a).1, (g.2 j p a).2.trans (h.2 j p a).2⟩⟩
theorem Ct.tw {k j : Int} {σ σ' : CS} (h : Ct k σ σ') (hj : ¬ j = k) : tW σ' j = tW σ j := by
  unfold tW
  exact Prod.ext (funext fun p => (h.2 j p hj).2) (h.2 j 0 hj).1
theorem up1_s (f : Int → Int → Int → Int) (a v : Int) (y z : Int) : up1 f a v a y z = v := if_pos rfl
theorem up1_n (f : Int → Int → Int → Int) {a x : Int} (v : Int) (y z : Int) (h : ¬ x = a) : up1 f a v x y z = f x y z := if_neg h
theorem s_X3_append : H_X3_append (fun σ k x => (0 ≤ k ∧ k < σ 21 0 0 0 + 3) ∧ (0 ≤ σ 5 k 0 0 ∧ σ 5 k 0 0 < 120) ∧ -128 ≤ x ∧ x < 128) (fun σ k x _ σ' => Ct k σ σ' ∧ eqW (tW σ' k) (ap (tW σ k) x)) := fun l y σ k x hp => m_X3_append (fun K _ C => b_X3_append_0 C (by
  obtain ⟨h1, h2, h3⟩ := hp
  refine ⟨h1, by omega, fun hc => absurd hc (by omega), fun hc => ⟨h3, h2, ⟨fun c a b => by rw [upC_n _ _ a, upC_n _ _ b], fun j p hj => ⟨up1_n _ _ _ _ hj, ?_⟩⟩, ?_⟩⟩
  · show up2 (σ 6) k (σ 5 k 0 0) x j p 0 = σ 6 j p 0
    exact if_neg (fun q => hj q.1)
  · refine ⟨up1_s _ _ _ _ _, fun p a b => ?_⟩
    show up2 (σ 6) k (σ 5 k 0 0) x k p 0 = upI (fun p => σ 6 k p 0) (σ 5 k 0 0) x p
    unfold up2 upI
    by_cases hp : p = σ 5 k 0 0
    · rw [if_pos ⟨rfl, hp⟩, if_pos hp]
    · rw [if_neg (fun q => hp q.2), if_neg hp]))
theorem s_X3_become : H_X3_become (fun σ k j => (0 ≤ k ∧ k < σ 21 0 0 0 + 3) ∧ (0 ≤ j ∧ j < σ 21 0 0 0 + 3) ∧ okW (tW σ j)) (fun σ k j _ σ' => Ct k σ σ' ∧ eqW (tW σ' k) (tW σ j)) := fun l y σ k j hp => m_X3_become (fun K _ C => b_X3_become_0 C (by
  obtain ⟨h1, h2, h3⟩ := hp
  have hl : 0 ≤ σ 5 j 0 0 ∧ σ 5 j 0 0 ≤ 120 := h3.1
  refine ⟨h2, h1, by omega, fun p a b => ?_, ⟨fun c a b => by rw [upC_n _ _ a, upC_n _ _ b], fun i p hi => ⟨up1_n _ _ _ _ hi, ?_⟩⟩, ?_⟩
  · have : 97 ≤ σ 6 j p 0 ∧ σ 6 j p 0 ≤ 122 := h3.2 p a (by show p < σ 5 j 0 0; omega)
    omega
  · show upR (σ 6) k (cpI (fun p => σ 6 j p 0) (fun p => σ 6 k p 0) 0 0 (σ 5 j 0 0)) i p 0 = σ 6 i p 0
    exact if_neg hi
  · refine ⟨up1_s _ _ _ _ _, fun p a b => ?_⟩
    have b' : p < up1 (σ 5) k (σ 5 j 0 0) k 0 0 := b
    rw [up1_s] at b'
    show upR (σ 6) k (cpI (fun p => σ 6 j p 0) (fun p => σ 6 k p 0) 0 0 (σ 5 j 0 0)) k p 0 = σ 6 j p 0
    unfold upR cpI
    rw [if_pos rfl, if_pos (by omega), show 0 + (p - 0) = p from by omega]))
def hasW (w : WO) (p x : Int) : Bool := decide (0 ≤ p ∧ p < w.2 ∧ w.1 p = x)
theorem hasW_t {w : WO} {p x : Int} : hasW w p x = true ↔ 0 ≤ p ∧ p < w.2 ∧ w.1 p = x := decide_eq_true_iff
theorem s_X3_has : H_X3_has (fun σ k p x => (0 ≤ k ∧ k < σ 21 0 0 0 + 3) ∧ okW (tW σ k) ∧ in32 p ∧ in32 x) (fun σ k p x => hasW (tW σ k) p x) := fun l y σ k p x hp => m_X3_has (fun K _ C => b_X3_has_0 C (by
  obtain ⟨h1, h2, h3, h4⟩ := hp
  have hl : 0 ≤ σ 5 k 0 0 ∧ σ 5 k 0 0 ≤ 120 := h2.1
  have no : ¬ (0 ≤ p ∧ p < (tW σ k).2 ∧ (tW σ k).1 p = x) → (0 : Int) = if hasW (tW σ k) p x = true then 1 else 0 := fun q => by rw [if_neg (fun z => q (hasW_t.mp z))]
  have yes : (0 ≤ p ∧ p < (tW σ k).2 ∧ (tW σ k).1 p = x) → (1 : Int) = if hasW (tW σ k) p x = true then 1 else 0 := fun q => by rw [if_pos (hasW_t.mpr q)]
  unfold in32 at h3 h4
  refine ⟨h3, fun hc => ⟨no (fun q => by omega), rfl⟩, fun hc => ⟨h1, by omega, fun hd => ⟨no (fun q => by have : p < σ 5 k 0 0 := q.2.1; omega), rfl⟩, fun hd => ?_⟩⟩
  have hx : 97 ≤ σ 6 k p 0 ∧ σ 6 k p 0 ≤ 122 := h2.2 p (by omega) (by show p < σ 5 k 0 0; omega)
  exact ⟨by omega, by omega, h4, fun q => ⟨no (fun z => q z.2.2), rfl⟩, fun q => ⟨yes ⟨by omega, by show p < σ 5 k 0 0; omega, q⟩, rfl⟩⟩))
theorem s_X3_takeFrom : H_X3_takeFrom (fun σ k j place many => (0 ≤ k ∧ k < σ 21 0 0 0 + 3) ∧ (0 ≤ j ∧ j < σ 21 0 0 0 + 3) ∧ okW (tW σ k) ∧ okW (tW σ j) ∧ (0 ≤ place ∧ 1 ≤ many) ∧ place + many ≤ σ 5 k 0 0 ∧ place + many ≤ σ 5 j 0 0)
    (fun σ k j place many r σ' => (∀ c, ¬ c = 6 → σ' c = σ c) ∧ (∀ i p, σ' 6 i p 0 = if i = k ∧ place ≤ p ∧ p < place + many then σ 6 j p 0 else σ 6 i p 0) ∧ r = sumI (fun i => if ¬ σ 6 k (place + i) 0 = σ 6 j (place + i) 0 then 1 else 0) many) := fun l y σ k j place many hp => m_X3_takeFrom (fun K _ C => b_X3_takeFrom_0 C (by
  obtain ⟨h1, h2, h3, h4, h5, h6, h7⟩ := hp
  have l3 : 0 ≤ σ 5 k 0 0 ∧ σ 5 k 0 0 ≤ 120 := h3.1
  have l4 : 0 ≤ σ 5 j 0 0 ∧ σ 5 j 0 0 ≤ 120 := h4.1
  have key := loop_up (P := fun q => ∀ τ : CS, (∀ c, ¬ c = 6 → τ c = σ c) → (∀ i p, τ 6 i p 0 = if i = k ∧ place ≤ p ∧ p < q then σ 6 j p 0 else σ 6 i p 0) → P_X3_takeFrom_1 K y τ k j place many (sumI (fun i => if ¬ σ 6 k (place + i) 0 = σ 6 j (place + i) 0 then 1 else 0) (q - place)) q) place (place + many) (fun q q0 q1 ih τ e1 e2 => ?_) place (Int.le_refl _) (by omega) σ (fun c _ => rfl) (fun i p => by rw [if_neg (by omega)])
  · rw [show place - place = 0 from by omega, sumI_0] at key
    exact key
  have f5 : ∀ i, τ 5 i 0 0 = σ 5 i 0 0 := fun i => by rw [e1 5 (by decide)]
  have f21 : τ 21 0 0 0 = σ 21 0 0 0 := by rw [e1 21 (by decide)]
  refine b_X3_takeFrom_1 C ?_
  rw [f5, f5, f21]
  refine ⟨by omega, by omega, fun hc => ⟨e1, fun i p => ?_, by rw [show q - place = many from by omega]⟩, fun hc => ⟨h1, by omega, by omega, fun z => by omega, fun z => ⟨h2, by omega, fun z => by omega, fun z => ?_⟩⟩⟩
  · rw [e2, show q = place + many from by omega]
  · have a1 : τ 6 k q 0 = σ 6 k q 0 := by rw [e2, if_neg (by omega)]
    have a2 : τ 6 j q 0 = σ 6 j q 0 := by rw [e2, if_neg (by omega)]
    have b1 : 97 ≤ σ 6 k q 0 ∧ σ 6 k q 0 ≤ 122 := h3.2 q (by omega) (by show q < σ 5 k 0 0; omega)
    have b2 : 97 ≤ σ 6 j q 0 ∧ σ 6 j q 0 ≤ 122 := h4.2 q (by omega) (by show q < σ 5 j 0 0; omega)
    rw [a1, a2]
    have es : sumI (fun i => if ¬ σ 6 k (place + i) 0 = σ 6 j (place + i) 0 then 1 else 0) (q + 1 - place) = sumI (fun i => if ¬ σ 6 k (place + i) 0 = σ 6 j (place + i) 0 then 1 else 0) (q - place) + if ¬ σ 6 k q 0 = σ 6 j q 0 then 1 else 0 := by
      rw [show q + 1 - place = (q - place) + 1 from by omega, sumI_s _ (show 0 ≤ q - place by omega), show place + (q - place) = q from by omega]
    refine ⟨by omega, by omega, by omega, fun w => ?_, fun w => ⟨by omega, ?_⟩⟩
    · have h9 := ih (by omega) τ e1 (fun i p => ?_)
      · rw [es, if_neg (fun x => x w), Int.add_zero] at h9; exact h9
      · rw [e2]
        by_cases hq : i = k ∧ place ≤ p ∧ p < q
        · rw [if_pos hq, if_pos (by omega)]
        · rw [if_neg hq]
          by_cases hq2 : i = k ∧ place ≤ p ∧ p < q + 1
          · rw [if_pos hq2, hq2.1, show p = q from by omega, w]
          · rw [if_neg hq2]
    · have h9 := ih (by omega) (upC τ 6 (up2 (τ 6) k q (σ 6 j q 0))) (fun c hc => by rw [upC_n _ _ hc]; exact e1 c hc) (fun i p => ?_)
      · rw [es, if_pos w] at h9; exact h9
      · show up2 (τ 6) k q (σ 6 j q 0) i p 0 = _
        unfold up2
        by_cases hq : i = k ∧ p = q
        · rw [if_pos hq, if_pos (by omega), hq.2]
        · rw [if_neg hq, e2]
          by_cases hq2 : i = k ∧ place ≤ p ∧ p < q
          · rw [if_pos hq2, if_pos (by omega)]
          · rw [if_neg hq2, if_neg (by omega)]))
