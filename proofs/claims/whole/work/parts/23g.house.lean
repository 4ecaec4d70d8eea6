/-! the text voted for, copies in hand, trials -/
theorem s_X4_voteText : H_X4_voteText (fun σ => CI σ) (fun σ _ σ' => Cm σ σ' ∧ CI σ' ∧ eqW (tW σ' 2) (vVote (cV σ))) := fun l y σ hp => m_X4_voteText (fun K _ C => b_X4_voteText_0 C s_X4_lengthOfMost (by
  have n := hp.1.n
  have vl := vLen_in (cV σ)
  have vo := vVote_ok (cV σ)
  refine ⟨hp, fun r τ o => ?_⟩
  have cs0 := Cs.of8 o.1
  have cI0 := hp.cs cs0 (hp.2.2.of8 o.1)
  have e21 := cI0.1.e21
  have er := o.2
  refine ⟨by have := cI0.1.n; omega, ?_⟩
  rw [er]
  refine loop_up (P := fun i => ∀ ρ : CS, Cm σ ρ → CI ρ → eqW (tW ρ 2) (fun p => vLet (cV σ) p (vLen (cV σ)), i) → P_X4_voteText_1 K y ρ (vLen (cV σ)) i) 0 (vLen (cV σ)) (fun i h0 h1 ih ρ cm cI e => ?_) 0 (Int.le_refl _) vl.1 _ ?_ ?_ ?_
  · refine b_X4_voteText_1 C s_X4_letterOfMost s_X3_append ⟨by omega, by omega, fun hc => ⟨cm, cI, by rw [show i = vLen (cV σ) from by omega] at e; exact e⟩, fun hc => ⟨⟨cI, h0, by omega, vl.2⟩, fun r2 ω o2 => ?_⟩⟩
    have cs := Cs.of8 o2.1
    have cI2 := cI.cs cs (cI.2.2.of8 o2.1)
    have n2 := cI2.1.n
    have e2 := cI2.1.e21
    have el : r2 = vLet (cV σ) i (vLen (cV σ)) := by rw [o2.2, cV_cm cm]
    have lr := vLet_in (cV σ) i (vLen (cV σ))
    have e5 : ω 5 2 0 0 = i := by rw [cs 5 (by decide) (by decide) (by decide)]; exact e.1
    have tw2 : tW ω 2 = tW ρ 2 := cs.tw 2
    refine ⟨⟨by omega, by omega, by omega⟩, by omega, fun r3 φ o3 => ?_⟩
    have ew : eqW (tW φ 2) (fun p => vLet (cV σ) p (vLen (cV σ)), i + 1) := by
      refine o3.2.trans ?_
      rw [tw2, el]
      refine (e.ap _).trans ⟨rfl, fun k a b => ?_⟩
      show upI (fun p => vLet (cV σ) p (vLen (cV σ))) i (vLet (cV σ) i (vLen (cV σ))) k = _
      by_cases hk : k = i
      · rw [hk, upI_s]
      · rw [upI_n _ _ hk]
    have okw : okW (tW φ 2) := okW.eq (w := (fun p => vLet (cV σ) p (vLen (cV σ)), i + 1)) ⟨⟨by show 0 ≤ i + 1; omega, by show i + 1 ≤ 120; omega⟩, fun k a b => vLet_in _ _ _⟩ ew.symm
    have cm3 := o3.1.cm (by decide)
    exact ih (by omega) φ ((cm.trans cs.cm).trans cm3) ⟨cI2.1.cm cm3, cI2.2.1.ct o3.1 okw, cI2.2.2.cm cm3 (o3.1.1 4 (by decide) (by decide))⟩ ew
  · exact cs0.cm.trans (Ct.cm (k := 2) ⟨fun c a b => upC_n _ _ a, fun j p hj => ⟨up1_n _ _ _ _ hj, rfl⟩⟩ (by decide))
  · have ct : Ct 2 τ (upC τ 5 (up1 (τ 5) 2 0)) := ⟨fun c a b => upC_n _ _ a, fun j p hj => ⟨up1_n _ _ _ _ hj, rfl⟩⟩
    have cm3 := ct.cm (by decide)
    refine ⟨cI0.1.cm cm3, cI0.2.1.ct ct ⟨?_, fun k a b => ?_⟩, cI0.2.2.cm cm3 rfl⟩
    · show 0 ≤ up1 (τ 5) 2 0 2 0 0 ∧ up1 (τ 5) 2 0 2 0 0 ≤ 120
      rw [up1_s]; decide
    · have b' : k < up1 (τ 5) 2 0 2 0 0 := b
      rw [up1_s] at b'; omega
  · exact ⟨show up1 (τ 5) 2 0 2 0 0 = 0 from up1_s _ _ _ _ _, fun k a b => by have b' : k < up1 (τ 5) 2 0 2 0 0 := b; rw [up1_s] at b'; omega⟩))
theorem CI.of7 {σ τ : CS} (h : CI σ) (e : ∀ c, ¬ c = 7 → τ c = σ c) : CI τ ∧ Cs σ τ := by
  have cs : Cs σ τ := fun c _ q _ => e c q
  exact ⟨h.cs cs (h.2.2.cm cs.cm (e 4 (by decide))), cs⟩
theorem s_X4_voteDistance : H_X4_voteDistance (fun σ m => CI σ ∧ in32 m) (fun σ m r σ' => qA σ (tOne (cV σ) m) (levW (vVote (cV σ)) (vTx (cV σ) m)) r σ') (fun σ m E σ' => qX σ (tOne (cV σ) m) eIO "" "" E σ') := fun l y σ m hp => m_X4_voteDistance (fun K _ C => b_X4_voteDistance_0 C s_X4_manuscriptOf s_X4_voteText s_X4_steps (by
  obtain ⟨hp, hm⟩ := hp
  have vn := vN_c σ
  refine ⟨⟨hp.1, hm⟩, fun E u hx => ⟨Or.inl ⟨if_neg (fun q => hx.1 ⟨q.1, by have := q.2; omega⟩), hx.2.1⟩, by rw [hx.2.2]; exact hp, by rw [hx.2.2]; exact Cm.rfl⟩, fun r τ o => ?_⟩
  obtain ⟨rfl, rfl, m0, m1⟩ := o
  refine ⟨hp, fun r5 ρ o => ?_⟩
  obtain ⟨cm, cI, ew⟩ := o
  have e2 := cm.e2
  have e21 := cI.1.e21
  have n := cI.1.n
  refine ⟨by omega, ⟨by omega, by omega, cI.2.1 _ (by omega) (by omega), cI.2.1 _ (by omega) (by omega)⟩, fun r9 φ o2 => ?_⟩
  obtain ⟨c7, s7⟩ := cI.of7 o2.1
  refine ⟨if_pos ⟨m0, by omega⟩, ?_, c7, cm.trans s7.cm⟩
  rw [o2.2, levW_symm, cTx τ m0, cm.tw (show 3 ≤ r + 3 by omega)]
  exact levW_eq ew eqW.rfl))
theorem cHab {σ : CS} (h : CO σ) {s k : Int} (s0 : 0 ≤ s) (s1 : s < σ 3 0 0 0) (k0 : 0 ≤ k) (k1 : k < σ 13 s 0 0) : hOK σ s (σ 24 s k 0) := by
  have c := h.s s0 s1
  have e22 := h.e22
  exact ⟨⟨⟨s0, by omega⟩, c.2.2.2 k k0 k1⟩, c.2.2.1 k k0 k1⟩
theorem s_X4_draftCopy : H_X4_draftCopy (fun σ m s t => CI σ ∧ (0 ≤ m ∧ m < σ 2 0 0 0) ∧ (0 ≤ s ∧ s < σ 3 0 0 0) ∧ 0 ≤ t ∧ t ≤ 20) (fun σ m s t _ σ' => Cm σ σ' ∧ CI σ' ∧ eqW (tW σ' 0) (vTrial (cV σ) m s t)) := fun l y σ m s t hp => m_X4_draftCopy (fun K _ C => b_X4_draftCopy_0 C s_X3_become (by
  obtain ⟨hp, ⟨m0, m1⟩, ⟨s0, s1⟩, t0, t1⟩ := hp
  have n := hp.1.n
  have e21 := hp.1.e21
  have txm := hp.2.1 (m + 3) (by omega) (by omega)
  have c := hp.1.s s0 s1
  refine ⟨by omega, ⟨by omega, by omega, txm⟩, by omega, fun r τ o => ?_⟩
  have keep : ∀ ρ φ : CS, Cm σ ρ → CI ρ → ∀ k, k < 3 → Ct k ρ φ → okW (tW φ k) → Cm σ φ ∧ CI φ := fun ρ φ cm cI k hk ct ok => by
    have cm2 := ct.cm hk
    exact ⟨cm.trans cm2, cI.1.cm cm2, cI.2.1.ct ct ok, cI.2.2.cm cm2 (ct.1 4 (by decide) (by decide))⟩
  have k0 := keep σ τ Cm.rfl hp 0 (by decide) o.1 (txm.eq o.2.symm)
  have cw : vCopyW (cV σ) s = fun w => fdT (scF (cHa σ s)) w (σ 13 s 0 0) := rfl
  have hh : okHab (cHa σ s) (σ 13 s 0 0) := c.2.2.1
  refine loop_up (P := fun i => ∀ ρ : CS, Cm σ ρ → CI ρ → eqW (tW ρ 0) (vTrial (cV σ) m s i) → P_X4_draftCopy_1 K y ρ s t i) 0 t (fun i h0 h1 ih ρ cm cI e => ?_) 0 (Int.le_refl _) t0 τ k0.1 k0.2 (by unfold vTrial; rw [fdT_0, cTx σ m0]; exact o.2)
  have okv : okW (vTrial (cV σ) m s i) := vTrial_ok (V := cV σ) hh c.1.1 (by rw [cTx σ m0]; exact txm) i h0
  refine b_X4_draftCopy_1 C ⟨by omega, by omega, fun hc => ⟨cm, cI, by rw [show t = i from by omega]; exact e⟩, fun hc => ?_⟩
  refine loop_up (P := fun k => ∀ ρ : CS, Cm σ ρ → CI ρ → eqW (tW ρ 0) (fdT (scF (cHa σ s)) (vTrial (cV σ) m s i) k) → P_X4_draftCopy_2 K y ρ s t i k) 0 (σ 13 s 0 0) (fun k x0 x1 jh ρ cm cI e => ?_) 0 (Int.le_refl _) c.1.1 ρ cm cI (by rw [fdT_0]; exact e)
  have f3 : ρ 3 0 0 0 = σ 3 0 0 0 := by rw [cm.e (Or.inl (by decide))]
  have f13 : ρ 13 s 0 0 = σ 13 s 0 0 := by rw [cm.e (Or.inr (by decide))]
  have f24 : ρ 24 s k 0 = σ 24 s k 0 := by rw [cm.e (Or.inr (by decide))]
  have f14 : ∀ p, ρ 14 s (σ 24 s k 0) p = σ 14 s (σ 24 s k 0) p := fun p => by rw [cm.e (Or.inr (by decide))]
  have e22 := cI.1.e22
  have g21 := cI.1.e21
  have gn := cI.1.n
  refine b_X4_draftCopy_2 C s_sizeH s_getH s_X0_apply s_X3_become ⟨⟨s0, by omega⟩, ⟨s0, by omega⟩, by omega, by omega, fun hd => ?_, fun hd => ?_⟩
  · have hd' : ρ 13 s 0 0 ≤ k := hd
    refine ih (by omega) ρ cm cI ?_
    unfold vTrial
    rw [fdT_s _ _ h0]
    rw [show k = σ 13 s 0 0 from by omega] at e
    exact e
  · have hd' : ¬ ρ 13 s 0 0 ≤ k := hd
    have hhb := cHab cI.1 s0 (show s < ρ 3 0 0 0 by omega) x0 (show k < ρ 13 s 0 0 by omega)
    have ok0 : okW (tW ρ 0) := cI.2.1 0 (by decide) (by omega)
    refine ⟨⟨cI.1, ⟨s0, by omega⟩, x0, by omega⟩, hhb.1, ⟨hhb, by omega, by omega, by decide, ok0⟩, fun r8 φ o8 => ?_⟩
    have ea : 97 ≤ ρ 14 s (ρ 24 s k 0) 1 + 97 ∧ ρ 14 s (ρ 24 s k 0) 1 + 97 ≤ 122 := by have := hhb.2.2.1; omega
    have eb : 97 ≤ ρ 14 s (ρ 24 s k 0) 2 + 97 ∧ ρ 14 s (ρ 24 s k 0) 2 + 97 ≤ 122 := by have := hhb.2.2.2.1; omega
    have ok1 : okW (tW φ 1) := (hb_ok ok0 ea eb).eq o8.2.symm
    have k1 := keep ρ φ cm cI 1 (by decide) o8.1 ok1
    have n1 := k1.2.1.n
    have e1 := k1.2.1.e21
    refine ⟨⟨by omega, by omega, ok1⟩, by omega, fun r12 ω o12 => ?_⟩
    have k2 := keep φ ω k1.1 k1.2 0 (by decide) o12.1 (ok1.eq o12.2.symm)
    refine jh (by omega) ω k2.1 k2.2 ?_
    rw [fdT_s _ _ x0]
    refine o12.2.trans (o8.2.trans ?_)
    show eqW _ (hb (cHa σ s k 0) (cHa σ s k 1 + 97) (cHa σ s k 2 + 97) (cHa σ s k 3) (fdT (scF (cHa σ s)) (vTrial (cV σ) m s i) k))
    rw [f24, f14, f14, f14, f14, hb_eq _ _ _ _ e]
    exact eqW.rfl))
