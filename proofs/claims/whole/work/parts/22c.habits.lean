/-! THE HOUSE'S HABITS -/
def hOK (σ : CS) (s h : Int) : Prop := ((0 ≤ s ∧ s < σ 22 0 0 0) ∧ (0 ≤ h ∧ h < σ 23 s 0 0)) ∧ (0 ≤ σ 14 s h 0 ∧ σ 14 s h 0 ≤ 4) ∧ (0 ≤ σ 14 s h 1 ∧ σ 14 s h 1 ≤ 25) ∧ (0 ≤ σ 14 s h 2 ∧ σ 14 s h 2 ≤ 25) ∧ (1 ≤ σ 14 s h 3 ∧ σ 14 s h 3 ≤ 9)
theorem hOK.ct {σ σ' : CS} {s h k : Int} (c : Ct k σ σ') (g : hOK σ s h) : hOK σ' s h := by
  unfold hOK
  rw [c.1 22 (by decide) (by decide), c.1 23 (by decide) (by decide), c.1 14 (by decide) (by decide)]
  exact g
theorem s_X0_part : H_X0_part (fun σ s h w => hOK σ s h ∧ 0 ≤ w ∧ w ≤ 3) (fun σ s h w => σ 14 s h w) := fun l y σ s h w hp => m_X0_part (fun K _ C => b_X0_part_0 C (by
  obtain ⟨h1, h2, h3⟩ := hp
  exact ⟨by omega, fun q => ⟨h1.1, by show σ 14 s h 3 = σ 14 s h w; rw [show w = 3 from by omega], rfl⟩, fun q => ⟨h1.1, by rw [q], rfl⟩, fun q => ⟨h1.1, by rw [q], rfl⟩, fun q => ⟨h1.1, by rw [q], rfl⟩⟩))
def trW (kind b n' l rest : Int) (w : WO) : WO := if kind = 0 then ap w (97 + b) else if kind = 1 then w else if w.2 + rest < 120 then ap (ap w l) l else ap w l
theorem s_X0_treat : H_X0_treat (fun σ s h l t rest => hOK σ s h ∧ (0 ≤ t ∧ t < σ 21 0 0 0 + 3) ∧ (97 ≤ l ∧ l ≤ 122) ∧ okW (tW σ t) ∧ (1 ≤ rest ∧ σ 5 t 0 0 + rest ≤ 120) ∧ σ 14 s h 0 ≤ 2) (fun σ s h l t rest _ σ' => Ct t σ σ' ∧ eqW (tW σ' t) (trW (σ 14 s h 0) (σ 14 s h 2) 0 l rest (tW σ t))) := fun l y σ s h c t rest hp => m_X0_treat (fun K _ C => b_X0_treat_0 C s_X3_append (by
  obtain ⟨h1, h2, h3, h4, h5, h6⟩ := hp
  have ht : 0 ≤ σ 5 t 0 0 ∧ σ 5 t 0 0 ≤ 120 := h4.1
  have hab := h1.2
  -- the second half
  have half : ∀ τ : CS, Ct t σ τ → ∀ v4 : Int, (v4 = if ¬ 120 ≤ σ 5 t 0 0 + rest then 1 else 0) → (σ 14 s h 0 = 2 → eqW (tW τ t) (ap (tW σ t) c)) → (¬ σ 14 s h 0 = 2 → eqW (tW τ t) (trW (σ 14 s h 0) (σ 14 s h 2) 0 c rest (tW σ t))) → P_X0_treat_1 K y τ s h c t v4 := fun τ ct v4 e4 ha hb => by
    have e14 := ct.1 14 (by decide) (by decide)
    refine b_X0_treat_1 C s_X3_append ?_
    rw [e14, ct.1 22 (by decide) (by decide), ct.1 23 (by decide) (by decide)]
    refine ⟨h1.1, by omega, fun q => ⟨ct, hb q⟩, fun q => ⟨by rw [e4]; split <;> decide, fun z => ⟨ct, ?_⟩, fun z => ?_⟩⟩
    · have big : ¬ σ 5 t 0 0 + rest < 120 := fun w => by rw [if_pos (by omega)] at e4; omega
      have e9 : trW (σ 14 s h 0) (σ 14 s h 2) 0 c rest (tW σ t) = ap (tW σ t) c := by
        unfold trW
        rw [if_neg (by omega), if_neg (by omega)]
        exact if_neg big
      rw [e9]; exact ha q
    · have small : σ 5 t 0 0 + rest < 120 := Decidable.byContradiction fun w => z (by rw [e4, if_neg (by omega)])
      have w1 := ha q
      have l1 : τ 5 t 0 0 = σ 5 t 0 0 + 1 := w1.1
      refine ⟨⟨by rw [ct.1 21 (by decide) (by decide)]; exact h2, by omega, by omega⟩, by rw [ct.1 21 (by decide) (by decide)]; exact h2, fun r τ' o => ⟨ct.trans o.1, ?_⟩⟩
      have e9 : trW (σ 14 s h 0) (σ 14 s h 2) 0 c rest (tW σ t) = ap (ap (tW σ t) c) c := by
        unfold trW
        rw [if_neg (by omega), if_neg (by omega)]
        exact if_pos small
      rw [e9]
      exact o.2.trans (w1.ap c)
  refine ⟨h2, by omega, h1.1, by omega, fun q => ⟨fun q1 => ?_, fun q1 => ⟨⟨h2, by omega, by omega⟩, fun r τ o => ?_⟩⟩, fun q => ⟨⟨h2, by omega, by omega⟩, fun r τ o => ?_⟩⟩
  · refine half σ Ct.rfl _ rfl (fun z => by omega) (fun _ => ?_)
    unfold trW
    rw [if_neg q, if_pos q1]
    exact eqW.rfl
  · exact half τ o.1 _ rfl (fun _ => o.2) (fun z => by omega)
  · refine half τ o.1 _ rfl (fun z => by omega) (fun _ => ?_)
    unfold trW
    rw [if_pos q]
    exact o.2))
/-- what is asked of the making of one text out of another, and what it does -/
def pMk (σ : CS) (s h f t : Int) : Prop := hOK σ s h ∧ (0 ≤ f ∧ f < σ 21 0 0 0 + 3) ∧ (0 ≤ t ∧ t < σ 21 0 0 0 + 3) ∧ ¬ f = t ∧ okW (tW σ f) ∧ σ 5 t 0 0 = 0
def oMk (kind : Int) (σ : CS) (s h f t : Int) (σ' : CS) : Prop := Ct t σ σ' ∧ eqW (tW σ' t) (hb kind (σ 14 s h 1 + 97) (σ 14 s h 2 + 97) (σ 14 s h 3) (tW σ f))
theorem s_X0_treatEachNth : H_X0_treatEachNth (fun σ s h f t => pMk σ s h f t ∧ σ 14 s h 0 ≤ 2) (fun σ s h f t _ σ' => oMk (σ 14 s h 0) σ s h f t σ') := fun l y σ s h f t hp => m_X0_treatEachNth (fun K _ C => b_X0_treatEachNth_0 C (by
  obtain ⟨⟨h1, h2, h3, h4, h5, h6⟩, h7⟩ := hp
  have hl : 0 ≤ σ 5 f 0 0 ∧ σ 5 f 0 0 ≤ 120 := h5.1
  have hab := h1.2
  have hon := okW_n h5
  have ha : 97 ≤ σ 14 s h 1 + 97 ∧ σ 14 s h 1 + 97 ≤ 122 := by omega
  have hbb : 97 ≤ σ 14 s h 2 + 97 ∧ σ 14 s h 2 + 97 ≤ 122 := by omega
  have hlr : (nrm (tW σ f)).2 = σ 5 f 0 0 := rfl
  have eh : hb (σ 14 s h 0) (σ 14 s h 1 + 97) (σ 14 s h 2 + 97) (σ 14 s h 3) (tW σ f) = (tI (σ 14 s h 0) (σ 14 s h 1 + 97) (σ 14 s h 2 + 97) (σ 14 s h 3) (nrm (tW σ f)) (σ 5 f 0 0)).1 := by
    unfold hb hb0
    rw [if_neg (by omega), if_neg (by omega), hlr]
  obtain ⟨Q, hQ⟩ : ∃ Q : Int → WO × Int, Q = tI (σ 14 s h 0) (σ 14 s h 1 + 97) (σ 14 s h 2 + 97) (σ 14 s h 3) (nrm (tW σ f)) := ⟨_, rfl⟩
  refine loop_up (P := fun i => ∀ τ : CS, Ct t σ τ → eqW (tW τ t) (Q i).1 → P_X0_treatEachNth_1 K y τ s h f t ((Q i).2 % σ 14 s h 3) i) 0 (σ 5 f 0 0) (fun i h0 hi ih τ ct e => ?_) 0 (Int.le_refl _) hl.1 σ Ct.rfl (by rw [hQ, tI_0]; exact ⟨h6, fun k x z => by have z' : k < σ 5 t 0 0 := z; omega⟩) |> (fun k => by rw [hQ, tI_0] at k; rw [show (0 : Int) % σ 14 s h 3 = 0 from Int.zero_emod _] at k; exact k)
  have hk := tI_ok (kind := σ 14 s h 0) (n := σ 14 s h 3) hon ha hbb i h0 (by rw [hlr]; exact hi)
  rw [← hQ, hlr] at hk
  have es := tI_s (σ 14 s h 0) (σ 14 s h 1 + 97) (σ 14 s h 2 + 97) (σ 14 s h 3) (nrm (tW σ f)) h0
  rw [← hQ] at es
  have md := mod_step (c := (Q i).2) (n := σ 14 s h 3) (by omega)
  have m0 := Int.emod_nonneg (Q i).2 (show σ 14 s h 3 ≠ 0 by omega)
  have m1 := Int.emod_lt_of_pos (Q i).2 (show 0 < σ 14 s h 3 by omega)
  have ef := ct.tw (j := f) h4
  have ef5 : τ 5 f 0 0 = σ 5 f 0 0 := (ct.2 f 0 h4).1
  have ef6 : ∀ p, τ 6 f p 0 = σ 6 f p 0 := fun p => (ct.2 f p h4).2
  have e21 := ct.1 21 (by decide) (by decide)
  have e22 := ct.1 22 (by decide) (by decide)
  have e23 := ct.1 23 (by decide) (by decide)
  have e14 := ct.1 14 (by decide) (by decide)
  have et5 : τ 5 t 0 0 = (Q i).1.2 := e.1
  refine b_X0_treatEachNth_1 C ?_
  rw [e21, e22, e23, e14, ef5, ef6]
  refine ⟨h2, by omega, by omega, fun hc => ⟨ct, ?_⟩, fun hc => ?_⟩
  · rw [eh, ← hQ, show σ 5 f 0 0 = i from by omega]; exact e
  · have hx : 97 ≤ σ 6 f i 0 ∧ σ 6 f i 0 ≤ 122 := h5.2 i h0 (by show i < σ 5 f 0 0; omega)
    have hw : (nrm (tW σ f)).1 i = σ 6 f i 0 := nrm_at h0 (by show i < σ 5 f 0 0; omega)
    unfold tF at es
    rw [hw, hlr] at es
    have pa : ∀ x, 97 ≤ x ∧ x ≤ 122 → ((0 ≤ t ∧ t < σ 21 0 0 0 + 3) ∧ (0 ≤ τ 5 t 0 0 ∧ τ 5 t 0 0 < 120) ∧ -128 ≤ x ∧ x < 128) := fun x hx => ⟨h3, by have := hk.1.1; omega, by omega, by omega⟩
    have nxt : ∀ (τ' : CS) (v : Int), Ct t σ τ' → eqW (tW τ' t) (Q (i + 1)).1 → v = (Q (i + 1)).2 % σ 14 s h 3 → P_X0_treatEachNth_1 K y τ' s h f t v (i + 1) := fun τ' v a b d => by rw [d]; exact ih (by omega) τ' a b
    refine ⟨by omega, h1.1, by omega, by omega, fun hq => b_X0_treatEachNth_2 C s_X3_append s_X0_treat ?_, fun hq => b_X0_treatEachNth_2 C s_X3_append s_X0_treat ?_⟩
    · rw [e21, e22, e23, e14, ef5]
      rw [if_neg (by omega)] at es
      exact ⟨h1.1, by omega, by omega, fun _ => ⟨pa _ hx, h3, fun r τ' o => nxt τ' _ (ct.trans o.1) (by rw [es]; exact o.2.trans (e.ap _)) (by rw [es])⟩, fun z => absurd z hq⟩
    · rw [e21, e22, e23, e14, ef5]
      rw [if_pos (by omega)] at es
      refine ⟨h1.1, by omega, by omega, fun z => absurd hq z, fun _ => ⟨by omega, by omega, fun z => ⟨pa _ hx, h3, fun r τ' o => nxt τ' _ (ct.trans o.1) ?_ ?_⟩, fun z => ⟨h2, ⟨h1.ct ct, h3, hx, (hk.1).eq e.symm, ⟨by omega, by have := hk.2.1; omega⟩, h7⟩, fun r τ' o => nxt τ' _ (ct.trans o.1) ?_ ?_⟩⟩⟩
      · rw [if_neg (md.2 z).2] at es
        rw [es]; exact o.2.trans (e.ap _)
      · rw [if_neg (md.2 z).2] at es
        rw [es]; exact (md.2 z).1.symm
      · rw [if_pos (md.1 z)] at es
        refine o.2.trans ?_
        rw [es]
        unfold trW
        by_cases k0 : σ 14 s h 0 = 0
        · rw [if_pos k0, if_pos k0, show 97 + σ 14 s h 2 = σ 14 s h 2 + 97 from by omega]; exact e.ap _
        · rw [if_neg k0, if_neg k0]
          by_cases k1 : σ 14 s h 0 = 1
          · rw [if_pos k1, if_pos k1]; exact e
          · rw [if_neg k1, if_neg k1, show (tW τ t).2 = (Q i).1.2 from e.1]
            by_cases k2 : (Q i).1.2 + (σ 5 f 0 0 - i) < 120
            · rw [if_pos k2, if_pos k2]; exact (e.ap _).ap _
            · rw [if_neg k2, if_neg k2]; exact e.ap _
      · rw [if_pos (md.1 z)] at es
        rw [es]
        by_cases k0 : σ 14 s h 0 = 0
        · rw [if_pos k0]; exact (md.1 z).symm
        · rw [if_neg k0]
          by_cases k1 : σ 14 s h 0 = 1
          · rw [if_pos k1]; exact (md.1 z).symm
          · rw [if_neg k1]
            by_cases k2 : (Q i).1.2 + (σ 5 f 0 0 - i) < 120
            · rw [if_pos k2]; exact (md.1 z).symm
            · rw [if_neg k2]; exact (md.1 z).symm))
