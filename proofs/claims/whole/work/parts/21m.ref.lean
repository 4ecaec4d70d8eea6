/-! the reference's calls that change the house: manuscripts, habits -/
theorem gen_cong {ex ex' : Int → Int} {n : Int} (h : EXI ex n) (he : ∀ m, 0 ≤ m → m < n → ex m = ex' m) (m : Int) (h0 : 0 ≤ m) (h1 : m < n) : gen ex m = gen ex' m := by
  have h' : EXI ex' n := fun m a b => by rw [← he m a b]; exact h m a b
  have h2 : -1 ≤ m := by omega
  revert h0
  refine ex_ind (P := fun m => 0 ≤ m → gen ex m = gen ex' m) h (fun m a b ih h0 => ?_) m h2 h1
  by_cases hx : ex m = -1
  · rw [gen_o hx, gen_o (by rw [← he m h0 b]; exact hx)]
  · have hx' : ¬ ex' m = -1 := by rw [← he m h0 b]; exact hx
    have := h m h0 b
    rw [gen_s h h0 b hx, gen_s h' h0 b hx', ← he m h0 b, ih h0 (by omega)]
def kpM (σ : MS) (g : Int → Int) (many o s : Int) : MS := upM (upM (upM (upM (upM (upM σ 4 (cpI g (σ 4) 0 (120 * (σ 3 0)) many)) 5 (upI (σ 5) (σ 3 0) many)) 6 (upI (σ 6) (σ 3 0) o)) 7 (upI (σ 7) (σ 3 0) s)) 8 (upI (σ 8) (σ 3 0) 1)) 3 (fun _ => (σ 3 0) + 1)
theorem kp_tx {σ : MS} (h : MI σ) {g : Int → Int} {many o s : Int} (hw : okW (g, many)) : (∀ m, 0 ≤ m → m < σ 3 0 → eqW (txM (kpM σ g many o s) m) (txM σ m)) ∧ eqW (txM (kpM σ g many o s) (σ 3 0)) (g, many) := by
  have hwl : 0 ≤ many ∧ many ≤ 120 := hw.1
  constructor
  · intro m a b
    have ln := h.1.ln a b
    have e5 : upI (σ 5) (σ 3 0) many m = σ 5 m := upI_n _ _ (by omega)
    refine ⟨e5, fun k x y => ?_⟩
    have y' : k < upI (σ 5) (σ 3 0) many m := y
    show cpI g (σ 4) 0 (120 * (σ 3 0)) many (120 * m + k) = σ 4 (120 * m + k)
    exact if_neg (by omega)
  · refine ⟨upI_s _ _ _, fun k x y => ?_⟩
    have y' : k < upI (σ 5) (σ 3 0) many (σ 3 0) := y
    rw [upI_s] at y'
    show cpI g (σ 4) 0 (120 * (σ 3 0)) many (120 * (σ 3 0) + k) = g k
    unfold cpI
    rw [if_pos (by omega), show 0 + (120 * (σ 3 0) + k - 120 * (σ 3 0)) = k from by omega]
theorem kp_ok {σ : MS} (h : MI σ) {g : Int → Int} {many o s : Int} (hn : σ 3 0 < 24) (hw : okW (g, many)) (ho : -1 ≤ o ∧ o < σ 3 0) (hs : -1 ≤ s ∧ s ≤ 7) : MI (kpM σ g many o s) ∧ VE (mV (kpM σ g many o s)) (nKeep (mV σ) (g, many) o s) := by
  obtain ⟨t1, t2⟩ := kp_tx (o := o) (s := s) h hw
  have n0 := h.1.n
  have exn : EXI (upI (σ 6) (σ 3 0) o) (σ 3 0 + 1) := fun m a b => by
    by_cases hm : m = σ 3 0
    · rw [hm, upI_s]; exact ho
    · rw [upI_n _ _ hm]; exact h.1.ex m a (by omega)
  have exo : EXI (upI (σ 6) (σ 3 0) o) (σ 3 0) := fun m a b => exn m a (by omega)
  have ge : ∀ m, 0 ≤ m → m < σ 3 0 → gen (upI (σ 6) (σ 3 0) o) m = gen (σ 6) m := fun m a b => gen_cong exo (fun k x y => upI_n _ _ (by omega)) m a b
  have e3 : vN (mV σ) = σ 3 0 := rfl
  refine ⟨⟨⟨h.1.1, ⟨by show 0 ≤ σ 3 0 + 1; omega, by show σ 3 0 + 1 ≤ 24; omega⟩, h.1.2.2.1, fun m a b => ?_, exn, fun m a b => ?_, h.1.2.2.2.2.2.2.1, h.1.2.2.2.2.2.2.2.1, h.1.2.2.2.2.2.2.2.2.1, fun m a b => ?_⟩, fun a b x y z => ?_⟩, rfl, fun i a b => rfl, rfl, rfl, fun m a b => ?_, fun s a b => ⟨rfl, fun _ _ _ _ _ _ => rfl⟩⟩
  · have b' : m < σ 3 0 + 1 := b
    by_cases hm : m = σ 3 0
    · rw [hm]; exact hw.eq t2.symm
    · exact (h.1.tx a (by omega)).eq (t1 m a (by omega)).symm
  · have b' : m < σ 3 0 + 1 := b
    show upI (σ 8) (σ 3 0) 1 m = 0 ∨ upI (σ 8) (σ 3 0) 1 m = 1
    by_cases hm : m = σ 3 0
    · rw [hm, upI_s]; exact Or.inr rfl
    · rw [upI_n _ _ hm]; exact h.1.th a (by omega)
  · have b' : m < σ 3 0 + 1 := b
    show -1 ≤ upI (σ 7) (σ 3 0) s m ∧ upI (σ 7) (σ 3 0) s m ≤ 7
    by_cases hm : m = σ 3 0
    · rw [hm, upI_s]; exact hs
    · rw [upI_n _ _ hm]; exact h.1.sc a (by omega)
  · show σ 12 (24 * a + b) = -1 ∨ (b < σ 3 0 + 1 ∧ σ 12 (24 * a + b) = vD (mV (kpM σ g many o s)) a b)
    rcases h.2 a b x y z with q | ⟨q1, q2⟩
    · exact Or.inl q
    · refine Or.inr ⟨by omega, ?_⟩
      rw [q2]
      exact levW_eq (t1 a x (by omega)).symm (t1 b (by omega) q1).symm
  · have b' : m < σ 3 0 + 1 := b
    by_cases hm : m = σ 3 0
    · subst hm
      refine ⟨⟨t2.1.trans (show many = (vTx (nKeep (mV σ) (g, many) o s) (σ 3 0)).2 from (nK_4 (mV σ) (g, many) o s).symm), fun k x y => (t2.2 k x y).trans (show g k = (vTx (nKeep (mV σ) (g, many) o s) (σ 3 0)).1 k from ?_)⟩, ?_, ?_, ?_, ?_⟩
      · exact (nK_5 (mV σ) (g, many) o s k).symm
      · rw [show nKeep (mV σ) (g, many) o s 6 (σ 3 0) 0 0 = o from nK_6 (mV σ) _ _ _]
        exact upI_s _ _ _
      · rw [show nKeep (mV σ) (g, many) o s 7 (σ 3 0) 0 0 = s from nK_7 (mV σ) _ _ _]
        exact upI_s _ _ _
      · rw [show nKeep (mV σ) (g, many) o s 8 (σ 3 0) 0 0 = (if o = -1 then 0 else gen (σ 6) o + 1) from nK_8 (mV σ) _ _ _]
        show gen (upI (σ 6) (σ 3 0) o) (σ 3 0) = _
        by_cases hq : o = -1
        · rw [if_pos hq, gen_o (by rw [upI_s]; exact hq)]
        · rw [if_neg hq, gen_s exn n0.1 (by omega) (by rw [upI_s]; exact hq), upI_s, ge o (by omega) ho.2]
      · rw [show nKeep (mV σ) (g, many) o s 9 (σ 3 0) 0 0 = 1 from nK_9 (mV σ) _ _ _]
        exact upI_s _ _ _
    · have m1 : m < σ 3 0 := by omega
      have nk : ∀ (q : Nat) (j k : Int), ¬ q = 2 → nKeep (mV σ) (g, many) o s q m j k = mV σ q m j k := fun q j k hq => nK_o _ _ _ _ hq hm
      have t := t1 m a m1
      refine ⟨⟨t.1.trans (nk 4 0 0 (by decide)).symm, fun k x y => (t.2 k x y).trans (nk 5 k 0 (by decide)).symm⟩, ?_, ?_, ?_, ?_⟩
      · rw [nk 6 0 0 (by decide)]; exact upI_n _ _ hm
      · rw [nk 7 0 0 (by decide)]; exact upI_n _ _ hm
      · rw [nk 8 0 0 (by decide)]; exact ge m a m1
      · rw [nk 9 0 0 (by decide)]; exact upI_n _ _ hm
def pAdd (g : Int → Int) (σ : MS) (many o s : Int) : Prop := MI σ ∧ σ 3 0 < 24 ∧ okW (g, many) ∧ (-1 ≤ o ∧ o < σ 3 0) ∧ -1 ≤ s ∧ s ≤ 7
def oAdd (g : Int → Int) (σ : MS) (many o s r : Int) (σ' : MS) : Prop := MI σ' ∧ σ' 0 = σ 0 ∧ r = σ 3 0 ∧ VE (mV σ') (nKeep (mV σ) (g, many) o s)
theorem s_X5_add_t1 : H_X5_add_t1 (fun σ many o s => pAdd (σ 1) σ many o s ∧ many ≤ 60) (fun σ many o s r σ' => oAdd (σ 1) σ many o s r σ') := fun l L c σ many o s hp => m_X5_add_t1 (fun K _ C => b_X5_add_t1_0 C (by
  obtain ⟨⟨hp, hn, hw, ho, hs⟩, hm⟩ := hp
  have n0 := hp.1.n
  have hwl : 0 ≤ many ∧ many ≤ 120 := hw.1
  have k := kp_ok hp hn hw ho hs
  exact ⟨by omega, by omega, k.1, rfl, by omega, k.2⟩))
theorem s_X5_add_t13 : H_X5_add_t13 (fun σ many o s => pAdd (σ 13) σ many o s) (fun σ many o s r σ' => oAdd (σ 13) σ many o s r σ') := fun l L c σ many o s hp => m_X5_add_t13 (fun K _ C => b_X5_add_t13_0 C (by
  obtain ⟨hp, hn, hw, ho, hs⟩ := hp
  have n0 := hp.1.n
  have hwl : 0 ≤ many ∧ many ≤ 120 := hw.1
  have k := kp_ok hp hn hw ho hs
  exact ⟨by omega, by omega, k.1, rfl, by omega, k.2⟩))
