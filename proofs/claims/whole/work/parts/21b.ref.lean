/-! THE REFERENCE'S STATE: what holds of it between calls -/
def txM (σ : MS) (m : Int) : WO := (fun p => σ 4 (120 * m + p), σ 5 m)
def haM (σ : MS) (s : Int) : Int → Int → Int := fun k p => σ 11 (4 * (5 * s + k) + p)
def frM (σ : MS) : WO := (σ 13, σ 14 0)
def Sm (σ σ' : MS) : Prop := ∀ k, k < 12 → σ' k = σ k
def Sn (σ σ' : MS) : Prop := ∀ k, k < 13 → σ' k = σ k
theorem Sn.sm {σ σ' : MS} (h : Sn σ σ') : Sm σ σ' := fun k hk => h k (by omega)
theorem Sm.rfl {σ : MS} : Sm σ σ := fun _ _ => Eq.refl _
theorem Sm.trans {σ σ' σ'' : MS} (h : Sm σ σ') (g : Sm σ' σ'') : Sm σ σ'' := fun k hk => (g k hk).trans (h k hk)
theorem Sm.symm {σ σ' : MS} (h : Sm σ σ') : Sm σ' σ := fun k hk => (h k hk).symm
theorem Sn.rfl {σ : MS} : Sn σ σ := fun _ _ => Eq.refl _
theorem Sn.trans {σ σ' σ'' : MS} (h : Sn σ σ') (g : Sn σ' σ'') : Sn σ σ'' := fun k hk => (g k hk).trans (h k hk)
theorem Sm.up {σ σ' : MS} (h : Sm σ σ') (k : Nat) (f : Int → Int) (hk : 12 ≤ k) : Sm σ (upM σ' k f) := fun j hj => by rw [upM_n _ _ (by omega)]; exact h j hj
theorem Sn.up {σ σ' : MS} (h : Sn σ σ') (k : Nat) (f : Int → Int) (hk : 13 ≤ k) : Sn σ (upM σ' k f) := fun j hj => by rw [upM_n _ _ (by omega)]; exact h j hj
def MO (σ : MS) : Prop := (0 ≤ σ 2 0 ∧ σ 2 0 ≤ 60) ∧ (0 ≤ σ 3 0 ∧ σ 3 0 ≤ 24) ∧ (0 ≤ σ 9 0 ∧ σ 9 0 ≤ 8) ∧ (∀ m, 0 ≤ m → m < σ 3 0 → okW (txM σ m)) ∧ EXI (σ 6) (σ 3 0) ∧ (∀ m, 0 ≤ m → m < σ 3 0 → σ 8 m = 0 ∨ σ 8 m = 1) ∧ (∀ s, 0 ≤ s → s < 8 → (0 ≤ σ 10 s ∧ σ 10 s ≤ 5) ∧ (σ 9 0 ≤ s → σ 10 s = 0)) ∧ (∀ s, 0 ≤ s → s < 8 → okHab (haM σ s) (σ 10 s)) ∧ (∀ k, 0 ≤ k → k < 60 → 0 ≤ σ 1 k ∧ σ 1 k ≤ 255) ∧ (∀ m, 0 ≤ m → m < σ 3 0 → -1 ≤ σ 7 m ∧ σ 7 m ≤ 7)
theorem MO.tp {σ : MS} (h : MO σ) : 0 ≤ σ 2 0 ∧ σ 2 0 ≤ 60 := h.1
theorem MO.n {σ : MS} (h : MO σ) : 0 ≤ σ 3 0 ∧ σ 3 0 ≤ 24 := h.2.1
theorem MO.ns {σ : MS} (h : MO σ) : 0 ≤ σ 9 0 ∧ σ 9 0 ≤ 8 := h.2.2.1
theorem MO.tx {σ : MS} (h : MO σ) {m : Int} (h0 : 0 ≤ m) (h1 : m < σ 3 0) : okW (txM σ m) := h.2.2.2.1 m h0 h1
theorem MO.ex {σ : MS} (h : MO σ) : EXI (σ 6) (σ 3 0) := h.2.2.2.2.1
theorem MO.th {σ : MS} (h : MO σ) {m : Int} (h0 : 0 ≤ m) (h1 : m < σ 3 0) : σ 8 m = 0 ∨ σ 8 m = 1 := h.2.2.2.2.2.1 m h0 h1
theorem MO.nh {σ : MS} (h : MO σ) {s : Int} (h0 : 0 ≤ s) (h1 : s < 8) : (0 ≤ σ 10 s ∧ σ 10 s ≤ 5) ∧ (σ 9 0 ≤ s → σ 10 s = 0) := h.2.2.2.2.2.2.1 s h0 h1
theorem MO.ha {σ : MS} (h : MO σ) {s : Int} (h0 : 0 ≤ s) (h1 : s < 8) : okHab (haM σ s) (σ 10 s) := h.2.2.2.2.2.2.2.1 s h0 h1
theorem MO.tb {σ : MS} (h : MO σ) {k : Int} (h0 : 0 ≤ k) (h1 : k < 60) : 0 ≤ σ 1 k ∧ σ 1 k ≤ 255 := h.2.2.2.2.2.2.2.2.1 k h0 h1
theorem MO.sc {σ : MS} (h : MO σ) {m : Int} (h0 : 0 ≤ m) (h1 : m < σ 3 0) : -1 ≤ σ 7 m ∧ σ 7 m ≤ 7 := h.2.2.2.2.2.2.2.2.2 m h0 h1
theorem MO.sm {σ σ' : MS} (h : MO σ) (s : Sm σ σ') : MO σ' := by
  unfold MO txM haM at *
  rw [s 1 (by decide), s 2 (by decide), s 3 (by decide), s 4 (by decide), s 5 (by decide), s 6 (by decide), s 7 (by decide), s 8 (by decide), s 9 (by decide), s 10 (by decide), s 11 (by decide)]
  exact h
theorem txM_sm {σ σ' : MS} (s : Sm σ σ') (m : Int) : txM σ' m = txM σ m := by
  unfold txM
  rw [s 4 (by decide), s 5 (by decide)]
theorem haM_sm {σ σ' : MS} (s : Sm σ σ') (m : Int) : haM σ' m = haM σ m := by
  unfold haM
  rw [s 11 (by decide)]
theorem MO.ln {σ : MS} (h : MO σ) {m : Int} (h0 : 0 ≤ m) (h1 : m < σ 3 0) : 0 ≤ σ 5 m ∧ σ 5 m ≤ 120 := (h.tx h0 h1).1
theorem MO.lt {σ : MS} (h : MO σ) {m p : Int} (h0 : 0 ≤ m) (h1 : m < σ 3 0) (p0 : 0 ≤ p) (p1 : p < σ 5 m) : 97 ≤ σ 4 (120 * m + p) ∧ σ 4 (120 * m + p) ≤ 122 := (h.tx h0 h1).2 p p0 p1
/-! the letters in hand -/
theorem s_X5_take : H_X5_take (fun σ m => (0 ≤ m ∧ m < 24) ∧ 0 ≤ σ 5 m ∧ σ 5 m ≤ 120) (fun σ m => upM (upM σ 14 (fun _ => σ 5 m)) 13 (cpI (σ 4) (σ 13) (120 * m) 0 (σ 5 m))) := fun l L c σ m hp => m_X5_take (fun K _ C => b_X5_take_0 C ⟨hp.1, by omega, rfl, rfl⟩)
theorem take_w (σ : MS) (m : Int) : eqW (frM (upM (upM σ 14 (fun _ => σ 5 m)) 13 (cpI (σ 4) (σ 13) (120 * m) 0 (σ 5 m)))) (txM σ m) := by
  refine ⟨rfl, fun k a b => ?_⟩
  have b' : k < σ 5 m := b
  show cpI (σ 4) (σ 13) (120 * m) 0 (σ 5 m) k = σ 4 (120 * m + k)
  unfold cpI
  rw [if_pos (by omega), show 120 * m + (k - 0) = 120 * m + k from by omega]
theorem take_s (σ : MS) (m : Int) : Sn σ (upM (upM σ 14 (fun _ => σ 5 m)) 13 (cpI (σ 4) (σ 13) (120 * m) 0 (σ 5 m))) := (Sn.rfl.up 14 _ (by decide)).up 13 _ (by decide)
theorem s_X5_become : H_X5_become (fun σ m => 0 ≤ m ∧ m ≤ 120) (fun σ m => upM (upM σ 13 (cpI (σ 15) (σ 13) 0 0 m)) 14 (fun _ => m)) := fun l L c σ m hp => m_X5_become (fun K _ C => b_X5_become_0 C ⟨by omega, rfl, rfl⟩)
theorem become_w (σ : MS) (m : Int) : eqW (frM (upM (upM σ 13 (cpI (σ 15) (σ 13) 0 0 m)) 14 (fun _ => m))) (σ 15, m) := by
  refine ⟨rfl, fun k a b => ?_⟩
  have b' : k < m := b
  show cpI (σ 15) (σ 13) 0 0 m k = σ 15 k
  unfold cpI
  rw [if_pos (by omega), show 0 + (k - 0) = k from by omega]
theorem become_s (σ : MS) (m : Int) : Sn σ (upM (upM σ 13 (cpI (σ 15) (σ 13) 0 0 m)) 14 (fun _ => m)) := (Sn.rfl.up 13 _ (by decide)).up 14 _ (by decide)
/-- what is asked of a habit's method, and what it does -/
def pHb (σ : MS) (a b n : Int) : Prop := okW (frM σ) ∧ (97 ≤ a ∧ a ≤ 122) ∧ (97 ≤ b ∧ b ≤ 122) ∧ (1 ≤ n ∧ n ≤ 9)
def oHb (kind : Int) (σ : MS) (a b n : Int) (σ' : MS) : Prop := Sn σ σ' ∧ eqW (frM σ') (hb kind a b n (frM σ))
theorem okW_n {w : WO} (h : okW w) : okW (nrm w) := h.eq (nrm_eqW w).symm
theorem tI0_l {a b n : Int} {w : WO} : ∀ i, 0 ≤ i → (tI 0 a b n w i).1.2 = i := fun i h => by
  refine int_up (P := fun i => (tI 0 a b n w i).1.2 = i) (by rw [tI_0]) (fun i hi ih => ?_) i h
  rw [tI_s _ _ _ _ _ hi]
  unfold tF
  have e : ∀ x, (ap (tI 0 a b n w i).1 x).2 = i + 1 := fun x => by show (tI 0 a b n w i).1.2 + 1 = i + 1; rw [ih]
  by_cases h1 : w.1 i = a
  · rw [if_pos h1]
    by_cases h2 : ((tI 0 a b n w i).2 + 1) % n = 0
    · rw [if_pos h2, if_pos rfl]; exact e _
    · rw [if_neg h2]; exact e _
  · rw [if_neg h1]; exact e _
theorem s_X5_change : H_X5_change pHb (fun σ a b n _ σ' => oHb 0 σ a b n σ') := fun l L c σ a b n hp => m_X5_change (fun K _ C => b_X5_change_0 C (by
  obtain ⟨ho, ha, hbb, hn⟩ := hp
  have hon := okW_n ho
  have hl := ho.1
  have key : ∀ i, 0 ≤ i → i ≤ (frM σ).2 → ∀ (τ : MS) (s : Int), (Sn σ τ ∧ τ 14 0 = (frM σ).2 ∧ s = (tI 0 a b n (nrm (frM σ)) i).2 ∧ (∀ k, 0 ≤ k → k < i → τ 13 k = (tI 0 a b n (nrm (frM σ)) i).1.1 k) ∧ (∀ k, i ≤ k → k < (frM σ).2 → τ 13 k = (frM σ).1 k)) → P_X5_change_1 K L c τ a b n s i := by
    intro i h0 h1
    refine loop_up (P := fun i => ∀ (τ : MS) (s : Int), (Sn σ τ ∧ τ 14 0 = (frM σ).2 ∧ s = (tI 0 a b n (nrm (frM σ)) i).2 ∧ (∀ k, 0 ≤ k → k < i → τ 13 k = (tI 0 a b n (nrm (frM σ)) i).1.1 k) ∧ (∀ k, i ≤ k → k < (frM σ).2 → τ 13 k = (frM σ).1 k)) → P_X5_change_1 K L c τ a b n s i) 0 (frM σ).2 (fun i h0 h1 ih τ s hI => ?_) i h0 h1
    obtain ⟨i1, i2, i3, i4, i5⟩ := hI
    have hk := tI_ok (kind := 0) (n := n) hon ha hbb i h0 h1
    have hs : 0 ≤ s ∧ s ≤ 120 := by rw [i3]; omega
    refine b_X5_change_1 C ⟨by omega, by omega, fun hc => ⟨i1, ?_⟩, fun hc => ?_⟩
    · have hi : i = (frM σ).2 := by omega
      refine ⟨by show τ 14 0 = _; rw [i2]; show _ = (tI 0 a b n (nrm (frM σ)) (nrm (frM σ)).2).1.2; rw [tI0_l _ (show 0 ≤ (nrm (frM σ)).2 from hl.1)]; rfl, fun k x y => ?_⟩
      have y' : k < τ 14 0 := y
      show τ 13 k = (tI 0 a b n (nrm (frM σ)) (nrm (frM σ)).2).1.1 k
      rw [i4 k x (by omega), hi]
      rfl
    · have hx := i5 i (Int.le_refl _) (by omega)
      have hxl := ho.2 i h0 (by omega)
      rw [← hx] at hxl
      have hw : (nrm (frM σ)).1 i = τ 13 i := by rw [nrm_at h0 (by omega), hx]
      have es := tI_s 0 a b n (nrm (frM σ)) h0
      unfold tF at es
      rw [hw, ← i3] at es
      have el := tI0_l (a := a) (b := b) (n := n) (w := nrm (frM σ)) i h0
      have step : ∀ (z s' : Int), tI 0 a b n (nrm (frM σ)) (i + 1) = (ap (tI 0 a b n (nrm (frM σ)) i).1 z, s') → ∀ τ' : MS, Sn σ τ' → τ' 14 0 = (frM σ).2 → (∀ k, ¬ k = i → τ' 13 k = τ 13 k) → τ' 13 i = z → P_X5_change_1 K L c τ' a b n s' (i + 1) := by
        intro z s' e τ' j1 j2 j3 j4
        refine ih (by omega) τ' s' ⟨j1, j2, by rw [e], fun k x y => ?_, fun k x y => ?_⟩
        · rw [e]
          show τ' 13 k = upI (tI 0 a b n (nrm (frM σ)) i).1.1 (tI 0 a b n (nrm (frM σ)) i).1.2 z k
          rw [el]
          by_cases hk : k = i
          · rw [hk, j4, upI_s]
          · rw [upI_n _ _ hk, j3 k hk, i4 k x (by omega)]
        · rw [j3 k (by omega), i5 k (by omega) y]
      refine ⟨by omega, by omega, by omega, fun hc2 => ⟨by omega, ?_, fun hc3 => ?_, fun hc3 => ?_⟩, fun hc2 => ?_⟩
      · have := Int.emod_nonneg (s + 1) (show n ≠ 0 by omega); have := Int.emod_lt_of_pos (s + 1) (show 0 < n by omega); omega
      · rw [if_pos hc2, if_neg hc3] at es
        exact step _ _ es τ i1 i2 (fun _ _ => rfl) rfl
      · rw [if_pos hc2, if_pos hc3, if_pos rfl] at es
        exact step _ _ es _ (i1.up 13 _ (by decide)) i2 (fun k hk => upI_n _ _ hk) (upI_s _ _ _)
      · rw [if_neg hc2] at es
        exact step _ _ es τ i1 i2 (fun _ _ => rfl) rfl
  exact key 0 (Int.le_refl _) hl.1 σ 0 ⟨Sn.rfl, rfl, by rw [tI_0], fun k x y => by omega, fun k x y => rfl⟩))
