/-! write, copy, habits, emend of the reference -/
theorem mV_kp0 {σ : MS} {V : VT} (h : mV σ = V) : mV σ = V := h
theorem VE.keep {V U : VT} (h : VE V U) {w v : WO} (hw : eqW w v) {ex sc : Int} (he : -1 ≤ ex ∧ ex < vN V) : VE (nKeep V w ex sc) (nKeep U v ex sc) := by
  obtain ⟨h1, h2, h3, h4, h5, h6⟩ := h
  have hn : V 2 0 0 0 = U 2 0 0 0 := h3
  refine ⟨h1, h2, ?_, h4, fun m a b => ?_, h6⟩
  · show V 2 0 0 0 + 1 = U 2 0 0 0 + 1
    rw [hn]
  · have b' : m < V 2 0 0 0 + 1 := b
    by_cases hm : m = V 2 0 0 0
    · have hm' : m = U 2 0 0 0 := hm.trans hn
      refine ⟨⟨?_, fun k x y => ?_⟩, ?_, ?_, ?_, ?_⟩
      · show nKeep V w ex sc 4 m 0 0 = nKeep U v ex sc 4 m 0 0
        rw [hm, nK_4, hn, nK_4]; exact hw.1
      · have y' : k < nKeep V w ex sc 4 m 0 0 := y
        rw [hm, nK_4] at y'
        show nKeep V w ex sc 5 m k 0 = nKeep U v ex sc 5 m k 0
        rw [hm, nK_5, hn, nK_5]; exact hw.2 k x y'
      · rw [hm, nK_6, hn, nK_6]
      · rw [hm, nK_7, hn, nK_7]
      · rw [hm, nK_8, hn, nK_8]
        by_cases hx : ex = -1
        · rw [if_pos hx, if_pos hx]
        · rw [if_neg hx, if_neg hx, (h5 ex (by omega) he.2).2.2.2.1]
      · rw [hm, nK_9, hn, nK_9]
    · have hm' : ¬ m = U 2 0 0 0 := fun q => hm (q.trans hn.symm)
      obtain ⟨x1, x2, x3, x4, x5⟩ := h5 m a (by show m < V 2 0 0 0; omega)
      refine ⟨⟨?_, fun k x y => ?_⟩, ?_, ?_, ?_, ?_⟩
      · show nKeep V w ex sc 4 m 0 0 = nKeep U v ex sc 4 m 0 0
        rw [nK_o _ _ _ _ (by decide) hm, nK_o _ _ _ _ (by decide) hm']; exact x1.1
      · have y' : k < nKeep V w ex sc 4 m 0 0 := y
        rw [nK_o _ _ _ _ (by decide) hm] at y'
        show nKeep V w ex sc 5 m k 0 = nKeep U v ex sc 5 m k 0
        rw [nK_o _ _ _ _ (by decide) hm, nK_o _ _ _ _ (by decide) hm']; exact x1.2 k x y'
      · rw [nK_o _ _ _ _ (by decide) hm, nK_o _ _ _ _ (by decide) hm']; exact x2
      · rw [nK_o _ _ _ _ (by decide) hm, nK_o _ _ _ _ (by decide) hm']; exact x3
      · rw [nK_o _ _ _ _ (by decide) hm, nK_o _ _ _ _ (by decide) hm']; exact x4
      · rw [nK_o _ _ _ _ (by decide) hm, nK_o _ _ _ _ (by decide) hm']; exact x5
theorem s_X5_copy : H_X5_copy (fun σ m s => MI σ ∧ in32 m ∧ in32 s) (fun σ m s r σ' => oM σ (tCopy (mV σ) m s) (fun r V => r = vN (mV σ) ∧ VE V (nKeep (mV σ) (vCopyW (mV σ) s (vTx (mV σ) m)) m s)) r σ') := fun l L c σ m s hp => m_X5_copy (fun K _ C => b_X5_copy_0 C s_X5_isText' s_X5_no s_X5_isScribe' s_X5_take s_X5_copyBy s_X5_add_t13 (by
  obtain ⟨hp, hm, hs⟩ := hp
  have hn := hp.1.n
  have hns := hp.1.ns
  have e3 : vN (mV σ) = σ 3 0 := rfl
  have e9 : mV σ 3 0 0 0 = σ 9 0 := rfl
  refine ⟨⟨hp.u0 _, hm⟩, fun hc => ⟨trivial, oM.t hp (if_pos (Or.inl (fun q => hc ((itT (σ := σ)).mpr q)))) (by decide)⟩, fun hc => ?_⟩
  have hc' := (itT (σ := σ)).mp hc
  refine ⟨⟨hp.u0 _, hs⟩, fun hd => ?_, fun hd => ⟨trivial, oM.t hp (if_pos (Or.inr (fun q => hd ((itS (σ := σ)).mpr q)))) (by decide)⟩⟩
  have hd' := (itS (σ := σ)).mp hd
  have n1 : ¬ (¬ (0 ≤ m ∧ m < vN (mV σ)) ∨ ¬ (0 ≤ s ∧ s < mV σ 3 0 0 0)) := fun q => q.elim (fun z => z hc') (fun z => z hd')
  have two : (σ 8 m = 0 ∨ σ 3 0 = 24) → tCopy (mV σ) m s = 2 := fun q => by unfold tCopy; rw [if_neg n1]; exact if_pos q
  have th := hp.1.th hc'.1 hc'.2
  have ln := hp.1.ln hc'.1 hc'.2
  have txo := hp.1.tx hc'.1 hc'.2
  have nh := (hp.1.nh hd'.1 (by omega)).1
  have ha := hp.1.ha hd'.1 (show s < 8 by omega)
  refine ⟨by omega, by show -2147483648 ≤ σ 8 m ∧ σ 8 m < 2147483648; omega, fun q => ⟨trivial, oM.t hp (two (Or.inl q)) (by decide)⟩, fun q => ⟨by show -2147483648 ≤ σ 3 0 ∧ σ 3 0 < 2147483648; omega, fun q2 => ?_, fun q2 => ⟨trivial, oM.t hp (two (Or.inr q2)) (by decide)⟩⟩⟩
  have q' : ¬ σ 8 m = 0 := q
  have q2' : ¬ σ 3 0 = 24 := q2
  have hT : tCopy (mV σ) m s = 0 := by unfold tCopy; rw [if_neg n1]; exact if_neg (fun z => z.elim q' q2')
  have s1 : Sn (upM σ 0 (fun _ => 0)) (upM (upM (upM σ 0 (fun _ => 0)) 14 (fun _ => (upM σ 0 (fun _ => 0)) 5 m)) 13 (cpI ((upM σ 0 (fun _ => 0)) 4) ((upM σ 0 (fun _ => 0)) 13) (120 * m) 0 ((upM σ 0 (fun _ => 0)) 5 m))) := take_s _ m
  have ew1 := take_w (upM σ 0 (fun _ => 0)) m
  refine ⟨⟨by omega, ln⟩, ⟨⟨txo.eq ew1.symm, (hp.u0 (fun _ => 0)).1.sm s1.sm⟩, by omega⟩, fun r10 τ o => ?_⟩
  have s2 := s1.trans o.1
  have ew2 : eqW (frM τ) (vCopyW (mV σ) s (vTx (mV σ) m)) := by
    refine o.2.trans ?_
    rw [mV_sm s1.sm, mV_s0 (S0.u0 σ _)]
    exact scW_eq ew1 _ nh.1
  have okc : okW (vCopyW (mV σ) s (vTx (mV σ) m)) := scW_ok ha txo _ nh.1 (Int.le_refl _)
  have hMτ : MI τ := (hp.u0 _).sm s2.sm ((hp.u0 _).2.sn s2)
  have e3τ : τ 3 0 = σ 3 0 := congrFun (s2 3 (by decide)) 0
  have ev : mV τ = mV σ := by rw [mV_sm s2.sm, mV_s0 (S0.u0 σ _)]
  refine ⟨⟨hMτ, by omega, okc.eq ew2.symm, by omega, by omega⟩, fun r σ14 o2 => ?_⟩
  obtain ⟨p1, p2, p3, p4⟩ := o2
  refine ⟨p1, ?_, fun z => absurd hT z, fun _ => ⟨by rw [p3, e3τ]; rfl, p4.trans ?_⟩⟩
  · rw [p2, s2 0 (by decide), hT]; rfl
  · rw [ev]
    exact VE.rfl.keep ew2 (by omega)))
theorem s_X5_write : H_X5_write (fun σ => MI σ) (fun σ r σ' => oM σ (tWrite (mV σ)) (fun r V => (vGood (mV σ) ∧ r = vN (mV σ) ∧ VE V (nKeep (nTrim (mV σ) 0) (vTape (mV σ)) (-1) (-1))) ∨ (¬ vGood (mV σ) ∧ r = -1 ∧ VE V (nTrim (mV σ) 0))) r σ') := fun l L c σ hp => m_X5_write (fun K _ C => b_X5_write_0 C s_X5_no (by
  have hn := hp.1.n
  have ht := hp.1.tp
  refine ⟨by omega, fun hc => ⟨by omega, ?_⟩, fun hc => ⟨trivial, oM.t hp (if_pos hc) (by decide)⟩⟩
  have hT : tWrite (mV σ) = 0 := if_neg hc
  have e2 : mV σ 0 0 0 0 = σ 2 0 := rfl
  have hM2 : MI (upM (upM σ 0 (fun _ => 0)) 2 (fun _ => 0)) := ⟨⟨⟨Int.le_refl _, show (0 : Int) ≤ 60 by decide⟩, hp.1.2⟩, hp.2.tx rfl rfl rfl rfl⟩
  have vt : VE (mV (upM (upM σ 0 (fun _ => 0)) 2 (fun _ => 0))) (nTrim (mV σ) 0) := ⟨rfl, fun i a b => rfl, rfl, rfl, fun m a b => ⟨eqW.rfl, rfl, rfl, rfl, rfl⟩, fun s a b => ⟨rfl, fun _ _ _ _ _ _ => rfl⟩⟩
  have bad : ¬ vGood (mV σ) → ∀ k, 0 ≤ k → k ≤ σ 2 0 → P_X5_write_1 K L c (upM σ 0 (fun _ => 0)) 0 k := fun hb k k0 k1 => by
    refine loop_up (P := fun k => P_X5_write_1 K L c (upM σ 0 (fun _ => 0)) 0 k) 0 (σ 2 0) (fun k k0 k1 ih => ?_) k k0 k1
    refine b_X5_write_1 C s_X5_add_t1 s_X5_isIn ⟨by omega, by show -2147483648 ≤ σ 2 0 ∧ σ 2 0 < 2147483648; omega, fun q => ⟨by decide, fun _ => ?_, fun z => absurd rfl z⟩, fun q => ⟨by decide, fun _ => ih (by have q' : ¬ σ 2 0 ≤ k := q; omega), fun z => absurd rfl z⟩⟩
    exact ⟨hM2, hT.symm, fun z => absurd hT z, fun _ => Or.inr ⟨hb, rfl, vt⟩⟩
  by_cases h0 : σ 2 0 ≤ 0
  · rw [if_neg (fun q => q h0)]
    exact bad (fun q => by have := q.1; omega) 0 (Int.le_refl _) ht.1
  · rw [if_pos h0]
    refine loop_up (P := fun k => (∀ i, 0 ≤ i → i < k → 97 ≤ σ 1 i ∧ σ 1 i ≤ 122) → P_X5_write_1 K L c (upM σ 0 (fun _ => 0)) 1 k) 0 (σ 2 0) (fun k k0 k1 ih hg => ?_) 0 (Int.le_refl _) ht.1 (fun i a b => by omega)
    refine b_X5_write_1 C s_X5_add_t1 s_X5_isIn ⟨by omega, by show -2147483648 ≤ σ 2 0 ∧ σ 2 0 < 2147483648; omega, fun q => ⟨by decide, fun z => absurd z (by decide), fun _ => ?_⟩, fun q => ⟨by decide, fun z => absurd z (by decide), fun _ => ?_⟩⟩
    · have q' : σ 2 0 ≤ k := q
      have hgood : vGood (mV σ) := ⟨by omega, fun i a b => hg i a (by have b' : i < σ 2 0 := b; omega)⟩
      have hw : okW (σ 1, σ 2 0) := ⟨⟨ht.1, by show σ 2 0 ≤ 120; omega⟩, fun i a b => hg i a (by have b' : i < σ 2 0 := b; omega)⟩
      refine ⟨⟨⟨hM2, by show σ 3 0 < 24; omega, hw, ⟨by decide, by show -1 < σ 3 0; omega⟩, by decide, by decide⟩, ht.2⟩, fun r τ o => ?_⟩
      obtain ⟨p1, p2, p3, p4⟩ := o
      refine ⟨p1, ?_, fun z => absurd hT z, fun _ => Or.inl ⟨hgood, by rw [p3]; rfl, p4.trans (vt.keep eqW.rfl ⟨by decide, by show -1 < σ 3 0; omega⟩)⟩⟩
      rw [p2, hT]; rfl
    · have q' : ¬ σ 2 0 ≤ k := q
      have tb := hp.1.tb k0 (show k < 60 by omega)
      refine ⟨by omega, ⟨i32 (by show -2147483648 ≤ σ 1 k ∧ σ 1 k < 2147483648; omega), i32 (by decide), i32 (by decide)⟩, fun z => ?_, fun z => ih (by omega) (fun i a b => ?_)⟩
      · have z' : ¬ inB (σ 1 k) 97 122 = true := z
        rw [inB_f] at z'
        exact bad (fun g => z' (g.2 k k0 (by show k < σ 2 0; omega))) (k + 1) (by omega) (by omega)
      · have z' : inB (σ 1 k) 97 122 = true := z
        rw [inB_t] at z'
        by_cases hi : i = k
        · rw [hi]; exact z'
        · exact hg i a (by omega)))
