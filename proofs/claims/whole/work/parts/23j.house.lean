/-! the digest of the house; the tape -/
theorem s_X4_mixed : H_X4_mixed (fun _ _ x => in32 x) (fun _ d x => d * 31 + x) := fun l y σ d x hp => m_X4_mixed (fun K _ C => b_X4_mixed_0 C ⟨hp, rfl, rfl⟩)
theorem s_X4_textMixed : H_X4_textMixed (fun σ _ k => (0 ≤ k ∧ k < σ 21 0 0 0 + 3) ∧ okW (tW σ k)) (fun σ d k => dgI (tW σ k).1 d (tW σ k).2) := fun l y σ d k hp => m_X4_textMixed (fun K _ C => b_X4_textMixed_0 C (by
  obtain ⟨h1, h2⟩ := hp
  have ln : 0 ≤ σ 5 k 0 0 ∧ σ 5 k 0 0 ≤ 120 := h2.1
  refine loop_up (P := fun i => P_X4_textMixed_1 K y σ k (dgI (tW σ k).1 d i) i) 0 (σ 5 k 0 0) (fun i h0 hi ih => ?_) 0 (Int.le_refl _) ln.1
  refine b_X4_textMixed_1 C s_X4_mixed ⟨h1, by omega, by omega, fun hc => ⟨?_, rfl⟩, fun hc => ?_⟩
  · show _ = dgI (tW σ k).1 d (tW σ k).2
    rw [show i = (tW σ k).2 from by show i = σ 5 k 0 0; omega]
  · have lt : 97 ≤ σ 6 k i 0 ∧ σ 6 k i 0 ≤ 122 := h2.2 i h0 (by show i < σ 5 k 0 0; omega)
    have h9 := ih (by omega)
    rw [dgI_s _ _ h0] at h9
    exact ⟨by omega, i32 (by omega), h9⟩))
theorem dgI_4 (f : Int → Int) (d : Int) {i : Int} (h : 0 ≤ i) : dgI f d (4 * (i + 1)) = (((dgI f d (4 * i) * 31 + f (4 * i)) * 31 + f (4 * i + 1)) * 31 + f (4 * i + 2)) * 31 + f (4 * i + 3) := by
  rw [show 4 * (i + 1) = 4 * i + 1 + 1 + 1 + 1 from by omega, dgI_s _ _ (by omega), dgI_s _ _ (by omega), dgI_s _ _ (by omega), dgI_s _ _ (by omega), show 4 * i + 1 + 1 = 4 * i + 2 from by omega, show 4 * i + 2 + 1 = 4 * i + 3 from by omega]
theorem s_X4_scribeMixed : H_X4_scribeMixed (fun σ _ s => CO σ ∧ 0 ≤ s ∧ s < σ 3 0 0 0) (fun σ d s => vDgS (cV σ) d s) := fun l y σ d s hp => m_X4_scribeMixed (fun K _ C => b_X4_scribeMixed_0 C s_sizeH s_X4_mixed (by
  obtain ⟨hp, s0, s1⟩ := hp
  have e22 := hp.e22
  have c := hp.s s0 s1
  refine ⟨⟨s0, by omega⟩, ⟨s0, by omega⟩, i32 (by omega), ?_⟩
  refine loop_up (P := fun i => P_X4_scribeMixed_1 K y σ s (dgI (fun k => cV σ 11 s (k / 4) (k % 4)) (d * 31 + σ 13 s 0 0) (4 * i)) i) 0 (σ 13 s 0 0) (fun i h0 hi ih => ?_) 0 (Int.le_refl _) c.1.1
  refine b_X4_scribeMixed_1 C s_sizeH ⟨⟨s0, by omega⟩, ⟨s0, by omega⟩, by omega, by omega, fun hc => ⟨?_, rfl⟩, fun hc => ?_⟩
  · have hc' : σ 13 s 0 0 ≤ i := hc
    rw [show i = σ 13 s 0 0 from by omega]; rfl
  · have hc' : ¬ σ 13 s 0 0 ≤ i := hc
    have hh := c.2.2.1 i h0 (by omega)
    have hk := cHab hp s0 s1 h0 (show i < σ 13 s 0 0 by omega)
    refine loop_up (P := fun w => P_X4_scribeMixed_2 K y σ s (dgI (fun k => cV σ 11 s (k / 4) (k % 4)) (d * 31 + σ 13 s 0 0) (4 * i + w)) i w) 0 4 (fun w w0 w1 jh => ?_) 0 (Int.le_refl _) (by decide) |> (fun h => by rw [Int.add_zero] at h; exact h)
    refine b_X4_scribeMixed_2 C s_getH s_X0_part s_X4_mixed ⟨by omega, fun q => ?_, fun q => ⟨⟨s0, by omega⟩, ⟨hp, ⟨s0, s1⟩, h0, by omega⟩, hk.1, ⟨hk, w0, by omega⟩, ?_, ?_⟩⟩
    · have h9 := ih (by omega)
      rw [show 4 * (i + 1) = 4 * i + w from by omega] at h9; exact h9
    · have hw : w = 0 ∨ w = 1 ∨ w = 2 ∨ w = 3 := by omega
      show in32 (cHa σ s i w)
      rcases hw with rfl | rfl | rfl | rfl <;> exact i32 (by omega)
    · have h9 := jh (by omega)
      rw [show 4 * i + (w + 1) = (4 * i + w) + 1 from by omega, dgI_s _ _ (by omega), show (4 * i + w) / 4 = i from by omega, show (4 * i + w) % 4 = w from by omega] at h9
      exact h9))
theorem cC_in {σ : CS} (h : CI σ) {w : Int} (h0 : 0 ≤ w) (h1 : w ≤ 7) : 0 ≤ vCounted (cV σ) w ∧ vCounted (cV σ) w ≤ 2880 := by
  have hn := h.1.n
  have hw : w = 0 ∨ w = 1 ∨ w = 2 ∨ w = 3 ∨ w = 4 ∨ w = 5 ∨ w = 6 ∨ w = 7 := by omega
  rcases hw with rfl | rfl | rfl | rfl | rfl | rfl | rfl | rfl
  · rw [vC_0]; show 0 ≤ σ 2 0 0 0 ∧ σ 2 0 0 0 ≤ 2880; omega
  · rw [vC_1]; have := sum01 (f := fun m => if ¬ cV σ 9 m 0 0 = 0 then 1 else 0) 1 (by decide) hn (fun k _ _ => ite01); show 0 ≤ sumI (fun m => if ¬ cV σ 9 m 0 0 = 0 then 1 else 0) (σ 2 0 0 0) ∧ sumI (fun m => if ¬ cV σ 9 m 0 0 = 0 then 1 else 0) (σ 2 0 0 0) ≤ 2880; omega
  · rw [vC_2]; have := h.1.ns; show 0 ≤ σ 3 0 0 0 ∧ σ 3 0 0 0 ≤ 2880; omega
  · rw [vC_3]; have := sum01 (f := fun m => if cV σ 6 m 0 0 = -1 then 1 else 0) 1 (by decide) hn (fun k _ _ => ite01); show 0 ≤ sumI (fun m => if cV σ 6 m 0 0 = -1 then 1 else 0) (σ 2 0 0 0) ∧ sumI (fun m => if cV σ 6 m 0 0 = -1 then 1 else 0) (σ 2 0 0 0) ≤ 2880; omega
  · rw [vC_4]; have := maxI_in (f := fun m => σ 11 m 0 0) 24 (σ 2 0 0 0) (by decide) hn.1 (fun k a b => by show σ 11 k 0 0 ≤ 24; rw [(h.1.m a b).2.2]; have := gen_in h.1.ex k a b; omega); show 0 ≤ maxI (fun m => σ 11 m 0 0) (σ 2 0 0 0) ∧ maxI (fun m => σ 11 m 0 0) (σ 2 0 0 0) ≤ 2880; omega
  · rw [vC_5]; have := h.1.tl; show 0 ≤ σ 0 0 0 0 ∧ σ 0 0 0 0 ≤ 2880; omega
  · rw [vC_6]; exact sum01 (f := fun m => if ¬ cV σ 9 m 0 0 = 0 then cV σ 4 m 0 0 else 0) 120 (by decide) hn (fun k a b => by have := h.2.1.ln a b; show 0 ≤ (if ¬ cV σ 9 k 0 0 = 0 then cV σ 4 k 0 0 else 0) ∧ (if ¬ cV σ 9 k 0 0 = 0 then cV σ 4 k 0 0 else 0) ≤ 120; rw [cV4 σ a]; split <;> omega)
  · rw [vC_7]; have := sum01 (f := vRight (cV σ)) 1 (by decide) hn (fun k _ _ => by unfold vRight; exact ite01); show 0 ≤ sumI (vRight (cV σ)) (σ 2 0 0 0) ∧ sumI (vRight (cV σ)) (σ 2 0 0 0) ≤ 2880; omega
theorem cT_in {σ : CS} (h : CI σ) {m w : Int} (m0 : 0 ≤ m) (m1 : m < σ 2 0 0 0) (h0 : 0 ≤ w) (h1 : w ≤ 8) : -1 ≤ vTold (cV σ) m w ∧ vTold (cV σ) m w ≤ 2880 := by
  have hn := h.1.n
  have hx := h.1.ex1 m0 m1
  have hm := h.1.m m0 m1
  have hw : w = 0 ∨ w = 1 ∨ w = 2 ∨ w = 3 ∨ w = 4 ∨ w = 5 ∨ w = 6 ∨ w = 7 ∨ w = 8 := by omega
  rcases hw with rfl | rfl | rfl | rfl | rfl | rfl | rfl | rfl | rfl
  · rw [vTold_0, cV4 σ m0]; have := h.2.1.ln m0 m1; omega
  · rw [vTold_1]; show -1 ≤ σ 9 m 0 0 ∧ σ 9 m 0 0 ≤ 2880; omega
  · rw [vTold_2]; show -1 ≤ σ 10 m 0 0 ∧ σ 10 m 0 0 ≤ 2880; omega
  · rw [vTold_3]; have := gen_in h.1.ex m m0 m1; show -1 ≤ σ 11 m 0 0 ∧ σ 11 m 0 0 ≤ 2880; rw [hm.2.2]; omega
  · rw [vTold_4]; have := @ite01 (¬ cV σ 9 m 0 0 = 0) inferInstance; omega
  · rw [vTold_5]; have := sum01 (f := fun k => if cV σ 6 k 0 0 = m then 1 else 0) 1 (by decide) hn (fun k _ _ => ite01); show -1 ≤ sumI (fun k => if cV σ 6 k 0 0 = m then 1 else 0) (σ 2 0 0 0) ∧ sumI (fun k => if cV σ 6 k 0 0 = m then 1 else 0) (σ 2 0 0 0) ≤ 2880; omega
  · rw [vTold_6]; have := sum01 (f := fun k => if dsc (vEx (cV σ)) k m = true then 1 else 0) 1 (by decide) hn (fun k _ _ => ite01); show -1 ≤ sumI (fun k => if dsc (vEx (cV σ)) k m = true then 1 else 0) (σ 2 0 0 0) ∧ sumI (fun k => if dsc (vEx (cV σ)) k m = true then 1 else 0) (σ 2 0 0 0) ≤ 2880; omega
  · rw [vTold_7]
    by_cases q : cV σ 6 m 0 0 = -1
    · rw [if_pos q]; decide
    · have q' : ¬ σ 9 m 0 0 = -1 := q
      have := cD_in h.2.1 m0 m1 (show 0 ≤ σ 9 m 0 0 by omega) (by omega)
      rw [if_neg q]; show -1 ≤ vD (cV σ) m (σ 9 m 0 0) ∧ vD (cV σ) m (σ 9 m 0 0) ≤ 2880; omega
  · rw [vTold_8]
    have o := org_in h.1.ex m0 m1
    have := cD_in h.2.1 m0 m1 o.1 (show org (fun m => σ 9 m 0 0) m < σ 2 0 0 0 by omega)
    show -1 ≤ vD (cV σ) m (org (fun m => σ 9 m 0 0) m) ∧ vD (cV σ) m (org (fun m => σ 9 m 0 0) m) ≤ 2880; omega
theorem s_X4_manuscriptMixed : H_X4_manuscriptMixed (fun σ _ m => CI σ ∧ 0 ≤ m ∧ m < σ 2 0 0 0) (fun σ d m r σ' => Cs σ σ' ∧ CK σ' ∧ r = vDgM (cV σ) d m) := fun l y σ d m hp => m_X4_manuscriptMixed (fun K _ C => b_X4_manuscriptMixed_0 C (by
  obtain ⟨hp, m0, m1⟩ := hp
  have n := hp.1.n
  refine loop_up (P := fun w => ∀ τ : CS, Cs σ τ → CK τ → P_X4_manuscriptMixed_1 K y τ m (dgI (vTold (cV σ) m) d w) w) 0 9 (fun w w0 w1 ih τ cs ck => ?_) 0 (Int.le_refl _) (by decide) σ Cs.rfl hp.2.2
  obtain ⟨cI, ev, f2, f21, ff⟩ := hp.csE cs ck
  refine b_X4_manuscriptMixed_1 C s_X4_guessed s_X4_mixed s_X4_textMixed s_X4_fact ⟨by omega, fun q => ⟨⟨cI, m0, by omega⟩, fun r ρ o => ?_⟩, fun q => ⟨⟨cI, ⟨m0, by omega⟩, w0, by omega⟩, fun r ρ o => ?_⟩⟩
  · have cs2 := cs.trans o.1
    obtain ⟨cI2, ev2, g2, g21, gg⟩ := hp.csE cs2 o.2.1
    have e21 := cI2.1.e21
    have gi := vG_in (cV σ) m0
    have er : r = vGuess (cV σ) m := by rw [o.2.2, ev]
    refine ⟨i32 (by omega), by omega, ⟨by omega, cI2.2.1 _ (by omega) (by omega)⟩, cs2, o.2.1, ?_⟩
    show dgI (tW ρ (m + 3)).1 (dgI (vTold (cV σ) m) d w * 31 + r) (tW ρ (m + 3)).2 = vDgM (cV σ) d m
    have ex := cTx σ m0
    rw [cs2.tw, ← ex, er, show w = 9 from by omega]
    rfl
  · have er : r = vTold (cV σ) m w := by rw [o.2.2, ev]
    have ti := cT_in hp m0 m1 w0 (show w ≤ 8 by omega)
    have h9 := ih (by omega) ρ (cs.trans o.1) o.2.1
    rw [dgI_s _ _ w0, ← er] at h9
    exact ⟨i32 (by omega), h9⟩))
theorem s_X4_digest : H_X4_digest (fun σ => CI σ) (fun σ r σ' => qA σ 0 (vDigest (cV σ)) r σ') := fun l y σ hp => m_X4_digest (fun K _ C => b_X4_digest_0 C (by
  have n := hp.1.n
  have ns := hp.1.ns
  have three : ∀ τ : CS, Cs σ τ → CK τ → ∀ m, 0 ≤ m → m ≤ σ 2 0 0 0 → P_X4_digest_3 K y τ (fdI (vDgM (cV σ)) (fdI (vDgS (cV σ)) (vDg1 (cV σ)) (σ 3 0 0 0)) m) m := fun τ cs ck m m0 m1 => by
    refine loop_up (P := fun m => ∀ τ : CS, Cs σ τ → CK τ → P_X4_digest_3 K y τ (fdI (vDgM (cV σ)) (fdI (vDgS (cV σ)) (vDg1 (cV σ)) (σ 3 0 0 0)) m) m) 0 (σ 2 0 0 0) (fun m m0 m1 ih τ cs ck => ?_) m m0 m1 τ cs ck
    obtain ⟨cI, ev, f2, f21, ff⟩ := hp.csE cs ck
    have e21 := hp.1.e21
    refine b_X4_digest_3 C s_sizeM s_X4_voteText s_X4_mixed s_X4_textMixed s_getM s_X4_manuscriptMixed ?_
    refine ⟨trivial, by omega, by show -2147483648 ≤ τ 2 0 0 0 ∧ τ 2 0 0 0 < 2147483648; omega, fun hc => ⟨cI, fun r ρ o => ?_⟩, fun hc => ?_⟩
    · have hc' : τ 2 0 0 0 ≤ m := hc
      obtain ⟨cm, cI2, ew⟩ := o
      rw [ev] at ew
      have vl := vLen_in (cV σ)
      have n2 := cI2.1.n
      have g21 := cI2.1.e21
      have el : ρ 5 2 0 0 = vLen (cV σ) := ew.1
      refine ⟨by omega, i32 (by omega), ⟨by omega, cI2.2.1 2 (by decide) (by omega)⟩, rfl, ?_, cI2, cs.cm.trans cm⟩
      show dgI (tW ρ 2).1 (_ * 31 + ρ 5 2 0 0) (tW ρ 2).2 = vDigest (cV σ)
      rw [show (tW ρ 2).2 = vLen (cV σ) from ew.1, el, show m = σ 2 0 0 0 from by omega]
      exact dgI_cong _ _ vl.1 (fun k a b => ew.2 k a (by rw [ew.1]; exact b))
    · have hc' : ¬ τ 2 0 0 0 ≤ m := hc
      refine ⟨⟨cI.1, m0, by omega⟩, by omega, ⟨cI, m0, by omega⟩, fun r ρ o => ?_⟩
      have h9 := ih (by omega) ρ (cs.trans o.1) o.2.1
      have eo := o.2.2
      rw [ev] at eo
      rw [fdI_s _ _ m0, ← eo] at h9
      exact h9
  have two : ∀ τ : CS, Cs σ τ → CK τ → ∀ s, 0 ≤ s → s ≤ σ 3 0 0 0 → P_X4_digest_2 K y τ (fdI (vDgS (cV σ)) (vDg1 (cV σ)) s) s := fun τ cs ck s s0 s1 => by
    obtain ⟨cI, ev, f2, f21, ff⟩ := hp.csE cs ck
    have f3 : τ 3 0 0 0 = σ 3 0 0 0 := ff 3 0 0 0 (by decide) (by decide) (by decide)
    have e22 := cI.1.e22
    refine loop_up (P := fun s => P_X4_digest_2 K y τ (fdI (vDgS (cV σ)) (vDg1 (cV σ)) s) s) 0 (σ 3 0 0 0) (fun s s0 s1 ih => ?_) s s0 s1
    refine b_X4_digest_2 C s_sizeS s_getS s_X4_scribeMixed ⟨trivial, by omega, by show -2147483648 ≤ τ 3 0 0 0 ∧ τ 3 0 0 0 < 2147483648; omega, fun hc => ?_, fun hc => ?_⟩
    · have hc' : τ 3 0 0 0 ≤ s := hc
      rw [show s = σ 3 0 0 0 from by omega]
      exact three τ cs ck 0 (Int.le_refl _) n.1
    · have hc' : ¬ τ 3 0 0 0 ≤ s := hc
      have h9 := ih (by omega)
      rw [fdI_s _ _ s0] at h9
      refine ⟨⟨cI.1, s0, by omega⟩, by omega, ⟨cI.1, s0, by omega⟩, ?_⟩
      rw [ev]
      exact h9
  refine loop_up (P := fun w => ∀ τ : CS, Cs σ τ → CK τ → P_X4_digest_1 K y τ (dgI (vCounted (cV σ)) 491 w) w) 0 8 (fun w w0 w1 ih τ cs ck => ?_) 0 (Int.le_refl _) (by decide) σ Cs.rfl hp.2.2
  obtain ⟨cI, ev, f2, f21, ff⟩ := hp.csE cs ck
  refine b_X4_digest_1 C s_X4_counted s_X4_mixed ⟨by omega, fun q => ?_, fun q => ⟨⟨cI, w0, by omega⟩, fun r ρ o => ?_⟩⟩
  · rw [show w = 8 from by omega]
    exact two τ cs ck 0 (Int.le_refl _) ns.1
  · have er : r = vCounted (cV σ) w := by rw [o.2.2, ev]
    have ci := cC_in hp w0 (show w ≤ 7 by omega)
    have h9 := ih (by omega) ρ (cs.trans o.1) o.2.1
    rw [dgI_s _ _ w0, ← er] at h9
    exact ⟨i32 (by omega), h9⟩))
