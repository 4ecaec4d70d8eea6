/-! votes, trials, advice, the digest -/
theorem Sm.s0 {σ σ' : MS} (h : Sm (upM σ 0 (fun _ => 0)) σ') : S0 σ σ' := fun k a b => by rw [h k b, upM_n _ _ (by omega)]
theorem s_X5_voteLength : H_X5_voteLength (fun σ => MI σ) (fun σ r σ' => oQ σ 0 (vLen (mV σ)) r σ') := fun l L c σ hp => m_X5_voteLength (fun K _ C => b_X5_voteLength_0 C s_X5_votedLength ⟨(hp.u0 _).1, oQ.a hp Sm.rfl (hp.u0 _).2 rfl rfl⟩)
theorem s_X5_vote : H_X5_vote (fun σ p => MI σ ∧ in32 p) (fun σ p r σ' => oQ σ (tVote (mV σ) p) (vLet (mV σ) p (vLen (mV σ))) r σ') := fun l L c σ p hp => m_X5_vote (fun K _ C => b_X5_vote_0 C s_X5_votedLength s_X5_isIn s_X5_no s_X5_voted (by
  obtain ⟨hp, hpp⟩ := hp
  have hl := vLen_in (mV σ)
  refine ⟨(hp.u0 _).1, ⟨hpp, i32 (by decide), i32 (by show -2147483648 ≤ vLen (mV σ) - 1 ∧ vLen (mV σ) - 1 < 2147483648; omega)⟩, fun hc => ⟨trivial, oQ.t hp (if_neg (fun q => inB_f.mp hc ⟨q.1, by show p ≤ vLen (mV σ) - 1; omega⟩)) (by decide)⟩, fun hc => ?_⟩
  have hc' : inB p 0 (vLen (mV σ) - 1) = true := hc
  rw [inB_t] at hc'
  exact ⟨⟨(hp.u0 _).1, ⟨hc'.1, by show p < vLen (mV σ); omega⟩, rfl⟩, oQ.a hp Sm.rfl (hp.u0 _).2 (if_pos ⟨hc'.1, by omega⟩) rfl⟩))
theorem s_X5_voteDistance : H_X5_voteDistance (fun σ m => MI σ ∧ in32 m) (fun σ m r σ' => oQ σ (tOne (mV σ) m) (levW (vVote (mV σ)) (vTx (mV σ) m)) r σ') := fun l L c σ m hp => m_X5_voteDistance (fun K _ C => b_X5_voteDistance_0 C s_X5_isText' s_X5_votedLength s_X5_no (by
  obtain ⟨hp, hm⟩ := hp
  have hl := vLen_in (mV σ)
  have hn := hp.1.n
  have e3 : vN (mV σ) = σ 3 0 := rfl
  refine ⟨⟨hp.u0 _, hm⟩, fun hc => ⟨(hp.u0 _).1, ?_⟩, fun hc => ⟨trivial, oQ.t hp (if_neg (fun q => hc ((itT (σ := σ)).mpr q))) (by decide)⟩⟩
  have hc' := (itT (σ := σ)).mp hc
  refine loop_up (P := fun i => ∀ τ : MS, Sn (upM σ 0 (fun _ => 0)) τ → τ 14 0 = vLen (mV σ) → (∀ k, 0 ≤ k → k < i → τ 13 k = vLet (mV σ) k (vLen (mV σ))) → P_X5_voteDistance_1 K L c τ m i) 0 (vLen (mV σ)) (fun i h0 h1 ih τ hs e14 hr => ?_) 0 (Int.le_refl _) hl.1 _ (Sn.rfl.up 14 _ (by decide)) rfl (fun k x y => by omega)
  have ev : mV τ = mV σ := by rw [mV_sm hs.sm, mV_s0 (S0.u0 σ _)]
  have hτ := (hp.u0 (fun _ => 0)).1.sm hs.sm
  refine b_X5_voteDistance_1 C s_X5_distanceOf s_X5_voted ?_
  rw [e14]
  refine ⟨by omega, by omega, fun hd => ?_, fun hd => ⟨⟨hτ, by omega, by rw [ev]⟩, by omega, ?_⟩⟩
  · have ew : eqW (frM τ) (vVote (mV σ)) := ⟨e14, fun k x y => hr k x (by have y' : k < τ 14 0 := y; omega)⟩
    have et : txM τ m = vTx (mV σ) m := txM_sm (σ := upM σ 0 (fun _ => 0)) hs.sm m
    refine ⟨⟨⟨(vVote_ok _).eq ew.symm, by rw [et]; exact hp.1.tx hc'.1 hc'.2⟩, by omega⟩, fun r ρ o => ?_⟩
    refine oQ.a hp (hs.trans o.1).sm (((hp.u0 _).2.sn hs).sn o.1) (if_pos hc') ?_
    rw [o.2, et]
    exact levW_eq ew eqW.rfl
  · refine ih (by omega) _ (hs.up 13 _ (by decide)) e14 (fun k x y => ?_)
    show upI (τ 13) i (vLet (mV τ) i (vLen (mV σ))) k = _
    by_cases hk : k = i
    · rw [hk, upI_s, ev]
    · rw [upI_n _ _ hk]; exact hr k x (by omega)))
theorem s_X5_trial : H_X5_trial (fun σ m s t w => MI σ ∧ in32 m ∧ in32 s ∧ in32 t ∧ in32 w) (fun σ m s t w r σ' => oQ σ (tTrial (mV σ) m s t w) (vTrialA (mV σ) m s t w) r σ') := fun l L c σ m s t w hp => m_X5_trial (fun K _ C => b_X5_trial_0 C s_X5_isText' s_X5_no s_X5_isScribe' s_X5_isIn s_X5_take (by
  obtain ⟨hp, hm, hs, ht, hw⟩ := hp
  have hn := hp.1.n
  have hns := hp.1.ns
  have e3 : vN (mV σ) = σ 3 0 := rfl
  have e9 : mV σ 3 0 0 0 = σ 9 0 := rfl
  have one : (¬ (0 ≤ m ∧ m < vN (mV σ)) ∨ ¬ (0 ≤ s ∧ s < mV σ 3 0 0 0) ∨ ¬ (0 ≤ w ∧ w ≤ 1)) → tTrial (mV σ) m s t w = 1 := fun q => if_pos q
  refine ⟨⟨hp.u0 _, hm⟩, fun hc => ⟨trivial, oQ.t hp (one (Or.inl (fun q => hc ((itT (σ := σ)).mpr q)))) (by decide)⟩, fun hc => ?_⟩
  have hc' := (itT (σ := σ)).mp hc
  refine ⟨⟨hp.u0 _, hs⟩, fun hd => ⟨trivial, oQ.t hp (one (Or.inr (Or.inl (fun q => hd ((itS (σ := σ)).mpr q))))) (by decide)⟩, fun hd => ?_⟩
  have hd' := (itS (σ := σ)).mp hd
  refine ⟨⟨hw, i32 (by decide), i32 (by decide)⟩, fun he => ?_, fun he => ⟨trivial, oQ.t hp (one (Or.inr (Or.inr (inB_f.mp he)))) (by decide)⟩⟩
  have he' := inB_t.mp he
  have n1 : ¬ (¬ (0 ≤ m ∧ m < vN (mV σ)) ∨ ¬ (0 ≤ s ∧ s < mV σ 3 0 0 0) ∨ ¬ (0 ≤ w ∧ w ≤ 1)) := fun q => q.elim (fun z => z hc') (fun q => q.elim (fun z => z hd') (fun z => z he'))
  refine ⟨⟨ht, i32 (by decide), i32 (by decide)⟩, fun hf => ?_, fun hf => ⟨trivial, oQ.t hp (show tTrial (mV σ) m s t w = 2 by unfold tTrial; rw [if_neg n1, if_pos (inB_f.mp hf)]) (by decide)⟩⟩
  have hf' := inB_t.mp hf
  have th := hp.1.th hc'.1 hc'.2
  refine ⟨by omega, by show -2147483648 ≤ σ 8 m ∧ σ 8 m < 2147483648; omega, fun hg => ?_, fun hg => ⟨trivial, oQ.t hp (show tTrial (mV σ) m s t w = 3 by unfold tTrial; rw [if_neg n1, if_neg (fun q => q hf')]; exact if_pos hg) (by decide)⟩⟩
  have hg' : ¬ σ 8 m = 0 := hg
  have hT : tTrial (mV σ) m s t w = 0 := by unfold tTrial; rw [if_neg n1, if_neg (fun q => q hf')]; exact if_neg hg'
  have ln := hp.1.ln hc'.1 hc'.2
  have nh := (hp.1.nh hd'.1 (by omega)).1
  have ha := hp.1.ha hd'.1 (show s < 8 by omega)
  have txo := hp.1.tx hc'.1 hc'.2
  refine ⟨⟨by omega, ln⟩, ?_⟩
  refine loop_up (P := fun i => ∀ τ : MS, Sn (upM σ 0 (fun _ => 0)) τ → eqW (frM τ) (vTrial (mV σ) m s i) → P_X5_trial_1 K L c τ m s t w i) 0 t (fun i h0 h1 ih τ hs e => ?_) 0 (Int.le_refl _) (by omega) _ (take_s _ m) (by unfold vTrial; rw [fdT_0]; exact take_w (upM σ 0 (fun _ => 0)) m)
  have ev : mV τ = mV σ := by rw [mV_sm hs.sm, mV_s0 (S0.u0 σ _)]
  have hτ := (hp.u0 (fun _ => 0)).1.sm hs.sm
  have okv := vTrial_ok (V := mV σ) (m := m) ha nh.1 txo i h0
  have et : txM τ m = vTx (mV σ) m := txM_sm (σ := upM σ 0 (fun _ => 0)) hs.sm m
  refine b_X5_trial_1 C s_X5_distanceOf s_X5_copyBy ⟨by omega, by omega, fun hi => ⟨by omega, fun w0 => ⟨⟨⟨okv.eq e.symm, by rw [et]; exact txo⟩, by omega⟩, fun r ρ o => ?_⟩, fun w0 => oQ.a hp hs.sm ((hp.u0 _).2.sn hs) hT ?_⟩, fun hi => ⟨⟨⟨okv.eq e.symm, hτ⟩, by omega⟩, fun r ρ o => ih (by omega) ρ (hs.trans o.1) ?_⟩⟩
  · refine oQ.a hp (hs.trans o.1).sm (((hp.u0 _).2.sn hs).sn o.1) hT ?_
    rw [o.2, et, show t = i from by omega]
    unfold vTrialA
    rw [if_neg w0]
    exact levW_eq e eqW.rfl
  · rw [show t = i from by omega]
    unfold vTrialA
    rw [if_pos w0]
    exact e.1
  · rw [ev] at o
    refine o.2.trans ?_
    unfold vTrial
    rw [fdT_s _ _ h0]
    exact scW_eq e _ nh.1))
theorem s_X5_advise : H_X5_advise (fun σ m => MI σ ∧ in32 m) (fun σ m r σ' => oQ σ (tAdvise (mV σ) m) (vAdvise (mV σ) m) r σ') := fun l L c σ m hp => m_X5_advise (fun K _ C => b_X5_advise_0 C s_X5_isText' s_X5_no (by
  obtain ⟨hp, hm⟩ := hp
  have hn := hp.1.n
  have hns := hp.1.ns
  have e3 : vN (mV σ) = σ 3 0 := rfl
  refine ⟨⟨hp.u0 _, hm⟩, fun hc => ?_, fun hc => ⟨trivial, oQ.t hp (if_pos (fun q => hc ((itT (σ := σ)).mpr q))) (by decide)⟩⟩
  have hc' := (itT (σ := σ)).mp hc
  have th := hp.1.th hc'.1 hc'.2
  refine ⟨by omega, by show -2147483648 ≤ σ 8 m ∧ σ 8 m < 2147483648; omega, fun hg => ?_, fun hg => ⟨trivial, oQ.t hp (show tAdvise (mV σ) m = 2 by unfold tAdvise; rw [if_neg (fun q => q hc')]; exact if_pos hg) (by decide)⟩⟩
  have hg' : ¬ σ 8 m = 0 := hg
  have hT : tAdvise (mV σ) m = 0 := by unfold tAdvise; rw [if_neg (fun q => q hc')]; exact if_neg hg'
  have ln := hp.1.ln hc'.1 hc'.2
  have txo := hp.1.tx hc'.1 hc'.2
  refine loop_up (P := fun i => ∀ (τ : MS) (best least : Int), Sn (upM σ 0 (fun _ => 0)) τ → best = fdI (avF (vFar (mV σ) m)) (-1) i → (-1 ≤ best ∧ best < i) → (¬ best = -1 → least = vFar (mV σ) m best ∧ 0 ≤ least ∧ least ≤ 120) → P_X5_advise_1 K L c τ m best least i) 0 (σ 9 0) (fun i h0 h1 ih τ best least hs eb hbi hl => ?_) 0 (Int.le_refl _) hns.1 _ (-1) 0 Sn.rfl rfl (by decide) (fun q => absurd rfl q)
  have ev : mV τ = mV σ := by rw [mV_sm hs.sm, mV_s0 (S0.u0 σ _)]
  have hτ := (hp.u0 (fun _ => 0)).1.sm hs.sm
  have et : txM τ m = vTx (mV σ) m := txM_sm (σ := upM σ 0 (fun _ => 0)) hs.sm m
  have e9 : τ 9 0 = σ 9 0 := congrFun (hs 9 (by decide)) 0
  have e5 : τ 5 m = σ 5 m := congrFun (hs 5 (by decide)) m
  refine b_X5_advise_1 C s_X5_take s_X5_copyBy s_X5_distanceOf ?_
  rw [e9]
  refine ⟨by omega, by omega, fun hi => oQ.a hp hs.sm ((hp.u0 _).2.sn hs) hT (by rw [eb, show i = σ 9 0 from by omega]; rfl), fun hi => ⟨⟨by omega, by rw [e5]; exact ln⟩, ?_⟩⟩
  have ew : eqW (frM (upM (upM τ 14 (fun _ => τ 5 m)) 13 (cpI (τ 4) (τ 13) (120 * m) 0 (τ 5 m)))) (vTx (mV σ) m) := by rw [← et]; exact take_w τ m
  have hs1 : Sn (upM σ 0 (fun _ => 0)) (upM (upM τ 14 (fun _ => τ 5 m)) 13 (cpI (τ 4) (τ 13) (120 * m) 0 (τ 5 m))) := hs.trans (take_s τ m)
  have nh := (hp.1.nh h0 (show i < 8 by omega)).1
  have ha := hp.1.ha h0 (show i < 8 by omega)
  refine ⟨⟨⟨txo.eq ew.symm, (hp.u0 (fun _ => 0)).1.sm hs1.sm⟩, by omega⟩, fun r5 σ6 o => ?_⟩
  have hs2 := hs1.trans o.1
  have ew2 : eqW (frM σ6) (vCopyW (mV σ) i (vTx (mV σ) m)) := by
    refine o.2.trans ?_
    rw [mV_sm hs1.sm, mV_s0 (S0.u0 σ _)]
    exact scW_eq ew _ nh.1
  have okc : okW (vCopyW (mV σ) i (vTx (mV σ) m)) := scW_ok ha txo _ nh.1 (Int.le_refl _)
  have et6 : txM σ6 m = vTx (mV σ) m := txM_sm (σ := upM σ 0 (fun _ => 0)) hs2.sm m
  refine ⟨⟨⟨okc.eq ew2.symm, by rw [et6]; exact txo⟩, by omega⟩, fun r8 σ9 o2 => ?_⟩
  have hs3 := hs2.trans o2.1
  have er : r8 = vFar (mV σ) m i := by rw [o2.2, et6]; exact levW_eq ew2 eqW.rfl
  have hr : 0 ≤ r8 ∧ r8 ≤ 120 := by rw [er]; exact levW_in okc txo
  have es : fdI (avF (vFar (mV σ) m)) (-1) (i + 1) = avF (vFar (mV σ) m) best i := by rw [fdI_s _ _ h0, ← eb]
  unfold avF at es
  refine ⟨by omega, fun q => ih (by omega) σ9 i r8 hs3 (by show i = fdI (fun best s => if best = -1 ∨ vFar (mV σ) m s < vFar (mV σ) m best then s else best) (-1) (i + 1); rw [es, if_pos (Or.inl q)]) (by omega) (fun _ => ⟨er, hr⟩), fun q => ?_⟩
  have hl' := hl q
  refine ⟨by omega, by omega, fun q2 => ih (by omega) σ9 i r8 hs3 ?_ (by omega) (fun _ => ⟨er, hr⟩), fun q2 => ih (by omega) σ9 best least hs3 ?_ (by omega) (fun _ => hl')⟩
  · show i = fdI (fun best s => if best = -1 ∨ vFar (mV σ) m s < vFar (mV σ) m best then s else best) (-1) (i + 1)
    rw [es, if_pos (Or.inr (by omega))]
  · show best = fdI (fun best s => if best = -1 ∨ vFar (mV σ) m s < vFar (mV σ) m best then s else best) (-1) (i + 1)
    rw [es, if_neg (fun z => z.elim q (fun z => by omega))]))
