/-! the reference's calls that change the house: tape, scribes, losses -/
def oM (σ : MS) (T : Int) (Res : Int → VT → Prop) (r : Int) (σ' : MS) : Prop := MI σ' ∧ σ' 0 0 = T ∧ (¬ T = 0 → mV σ' = mV σ) ∧ (T = 0 → Res r (mV σ'))
theorem oM.t {σ : MS} (h : MI σ) {T k : Int} {Res : Int → VT → Prop} (hk : T = k) (hn : ¬ k = 0) : oM σ T Res 0 (upM (upM σ 0 (fun _ => 0)) 0 (fun _ => k)) := ⟨h.uu _ _, hk.symm, fun _ => mV_s0 (S0.uu σ _ _), fun q => absurd (hk.symm.trans q) hn⟩
theorem KI.tx {σ τ : MS} (h : KI σ) (e12 : τ 12 = σ 12) (e3 : τ 3 0 = σ 3 0) (e4 : τ 4 = σ 4) (e5 : τ 5 = σ 5) : KI τ := by
  have ed : ∀ a b, vD (mV τ) a b = vD (mV σ) a b := fun a b => by
    show levW (fun p => τ 4 (120 * a + p), τ 5 a) (fun p => τ 4 (120 * b + p), τ 5 b) = levW (fun p => σ 4 (120 * a + p), σ 5 a) (fun p => σ 4 (120 * b + p), σ 5 b)
    rw [e4, e5]
  intro a b h0 h1 h2
  rw [e12, e3, ed]
  exact h a b h0 h1 h2
theorem s_X5_trim : H_X5_trim (fun σ n => MI σ ∧ in32 n) (fun σ n r σ' => oM σ (tTrim (mV σ) n) (fun r V => r = n ∧ VE V (nTrim (mV σ) n)) r σ') := fun l L c σ n hp => m_X5_trim (fun K _ C => b_X5_trim_0 C s_X5_isIn s_X5_no (by
  obtain ⟨hp, hn⟩ := hp
  have ht := hp.1.tp
  refine ⟨⟨hn, i32 (by decide), i32 (by show -2147483648 ≤ σ 2 0 ∧ σ 2 0 < 2147483648; omega)⟩, fun hc => ?_, fun hc => ⟨trivial, oM.t hp (if_neg (fun q => inB_f.mp hc q)) (by decide)⟩⟩
  have hc' : inB n 0 (σ 2 0) = true := hc
  rw [inB_t] at hc'
  have hT : tTrim (mV σ) n = 0 := if_pos hc'
  refine ⟨⟨⟨⟨hc'.1, by show n ≤ 60; omega⟩, hp.1.2⟩, hp.2.tx rfl rfl rfl rfl⟩, hT.symm, fun q => absurd hT q, fun _ => ⟨rfl, rfl, fun i a b => rfl, rfl, rfl, fun m a b => ⟨eqW.rfl, rfl, rfl, rfl, rfl⟩, fun s a b => ⟨rfl, fun _ _ _ _ _ _ => rfl⟩⟩⟩))
theorem s_X5_addScribe : H_X5_addScribe (fun σ => MI σ) (fun σ r σ' => oM σ (tAddS (mV σ)) (fun r V => r = mV σ 3 0 0 0 ∧ VE V (nScribe (mV σ))) r σ') := fun l L c σ hp => m_X5_addScribe (fun K _ C => b_X5_addScribe_0 C s_X5_no (by
  have hn := hp.1.ns
  have e3 : mV σ 3 0 0 0 = σ 9 0 := rfl
  refine ⟨by omega, fun hc => ?_, fun hc => ⟨trivial, oM.t hp (if_pos hc) (by decide)⟩⟩
  have hT : tAddS (mV σ) = 0 := if_neg hc
  refine ⟨⟨⟨hp.1.1, hp.1.2.1, ⟨by show 0 ≤ σ 9 0 + 1; omega, by show σ 9 0 + 1 ≤ 8; omega⟩, hp.1.2.2.2.1, hp.1.2.2.2.2.1, hp.1.2.2.2.2.2.1, fun s a b => ⟨(hp.1.nh a b).1, fun q => (hp.1.nh a b).2 (by have q' : σ 9 0 + 1 ≤ s := q; omega)⟩, hp.1.2.2.2.2.2.2.2⟩, hp.2.tx rfl rfl rfl rfl⟩, hT.symm, fun q => absurd hT q, fun _ => ⟨by rw [e3]; omega, rfl, fun i a b => rfl, rfl, rfl, fun m a b => ⟨eqW.rfl, rfl, rfl, rfl, rfl⟩, fun s a b => ?_⟩⟩
  have b' : s < σ 9 0 + 1 := b
  have e10 : nScribe (mV σ) 10 s 0 0 = if (10 = 10 ∧ s = σ 9 0) then 0 else σ 10 s := rfl
  refine ⟨?_, fun _ _ _ _ _ _ => rfl⟩
  rw [e10]
  show σ 10 s = _
  by_cases hs : s = σ 9 0
  · rw [if_pos ⟨rfl, hs⟩]; exact (hp.1.nh a (by omega)).2 (by omega)
  · rw [if_neg (fun q => hs q.2)]))
theorem s_X5_lose : H_X5_lose (fun σ m => MI σ ∧ in32 m) (fun σ m r σ' => oM σ (tLose (mV σ) m) (fun r V => r = vThere V ∧ VE V (nLose (mV σ) m)) r σ') := fun l L c σ m hp => m_X5_lose (fun K _ C => b_X5_lose_0 C s_X5_isText' s_X5_there s_X5_no (by
  obtain ⟨hp, hm⟩ := hp
  have hn := hp.1.n
  have e3 : vN (mV σ) = σ 3 0 := rfl
  refine ⟨⟨hp.u0 _, hm⟩, fun hc => ?_, fun hc => ⟨trivial, oM.t hp (if_pos (fun q => hc ((itT (σ := σ)).mpr q))) (by decide)⟩⟩
  have hc' := (itT (σ := σ)).mp hc
  have th := hp.1.th hc'.1 hc'.2
  refine ⟨by omega, by show -2147483648 ≤ σ 8 m ∧ σ 8 m < 2147483648; omega, fun hg => ?_, fun hg => ⟨trivial, oM.t hp (show tLose (mV σ) m = 2 by unfold tLose; rw [if_neg (fun q => q hc')]; exact if_pos hg) (by decide)⟩⟩
  have hg' : ¬ σ 8 m = 0 := hg
  have hT : tLose (mV σ) m = 0 := by unfold tLose; rw [if_neg (fun q => q hc')]; exact if_neg hg'
  have hMO : MO (upM (upM σ 0 (fun _ => 0)) 8 (upI (σ 8) m 0)) := ⟨hp.1.1, hp.1.2.1, hp.1.2.2.1, hp.1.2.2.2.1, hp.1.2.2.2.2.1, fun k a b => by
    show upI (σ 8) m 0 k = 0 ∨ upI (σ 8) m 0 k = 1
    by_cases hk : k = m
    · rw [hk, upI_s]; exact Or.inl rfl
    · rw [upI_n _ _ hk]; exact hp.1.th a b, hp.1.2.2.2.2.2.2⟩
  refine ⟨hMO, ⟨hMO, hp.2.tx rfl rfl rfl rfl⟩, hT.symm, fun q => absurd hT q, fun _ => ⟨rfl, rfl, fun i a b => rfl, rfl, rfl, fun k a b => ⟨eqW.rfl, rfl, rfl, rfl, ?_⟩, fun s a b => ⟨rfl, fun _ _ _ _ _ _ => rfl⟩⟩⟩
  have e9 : nLose (mV σ) m 9 k 0 0 = if (9 = 9 ∧ k = m) then 0 else σ 8 k := rfl
  rw [e9]
  show upI (σ 8) m 0 k = _
  by_cases hk : k = m
  · rw [if_pos ⟨rfl, hk⟩, hk, upI_s]
  · rw [if_neg (fun q => hk q.2), upI_n _ _ hk]))
theorem s_X5_feed : H_X5_feed (fun σ a b d e f => MI σ ∧ in32 a ∧ in32 b ∧ in32 d ∧ in32 e ∧ in32 f) (fun σ a b d e f r σ' => oM σ (tFeed (mV σ)) (fun r V => r = mV σ 0 0 0 0 + 20 ∧ VE V (nFeed (mV σ) a b d e f)) r σ') := fun l L c σ a b d e f hp => m_X5_feed (fun K _ C => b_X5_feed_0 C s_X5_no (by
  have hp := hp.1
  have ht := hp.1.tp
  refine ⟨by omega, fun hc q cq => ?_, fun hc => ⟨trivial, oM.t hp (if_neg hc) (by decide)⟩⟩
  have hT : tFeed (mV σ) = 0 := if_pos hc
  have one : ∀ (j : Int), 0 ≤ j → j ≤ 5 → ∀ τ : MS, (∀ k, ¬ k = 0 → ¬ k = 1 → ¬ k = 2 → τ k = σ k) → τ 0 0 = 0 → τ 2 0 = σ 2 0 + 4 * j → (∀ i, 0 ≤ i → i < 60 → 0 ≤ τ 1 i ∧ τ 1 i ≤ 255) → (∀ i, 0 ≤ i → i < τ 2 0 → τ 1 i = nFeed (mV σ) a b d e f 1 i 0 0) → P_X5_feed_1 K L c q cq (pk5 a b d e f) τ 5 j := fun j j0 j1 => by
    refine loop_up (P := fun j => ∀ τ : MS, (∀ k, ¬ k = 0 → ¬ k = 1 → ¬ k = 2 → τ k = σ k) → τ 0 0 = 0 → τ 2 0 = σ 2 0 + 4 * j → (∀ i, 0 ≤ i → i < 60 → 0 ≤ τ 1 i ∧ τ 1 i ≤ 255) → (∀ i, 0 ≤ i → i < τ 2 0 → τ 1 i = nFeed (mV σ) a b d e f 1 i 0 0) → P_X5_feed_1 K L c q cq (pk5 a b d e f) τ 5 j) 0 5 (fun j j0 j1 ih τ h1 h2 h3 h4 h5 => ?_) j j0 j1
    refine b_X5_feed_1 C ⟨by omega, by omega, fun hd => ?_, fun hd => ⟨by omega, ?_⟩⟩
    · have e2 : τ 2 0 = σ 2 0 + 20 := by omega
      have hs : ∀ k, 3 ≤ k → τ k = σ k := fun k hk => h1 k (by omega) (by omega) (by omega)
      refine ⟨⟨?_, hp.2.tx (hs 12 (by decide)) (congrFun (hs 3 (by decide)) 0) (hs 4 (by decide)) (hs 5 (by decide))⟩, h2.trans hT.symm, fun q => absurd hT q, fun _ => ⟨e2, ?_⟩⟩
      · have hm := hp.1
        unfold MO txM haM at hm ⊢
        rw [hs 3 (by decide), hs 4 (by decide), hs 5 (by decide), hs 6 (by decide), hs 7 (by decide), hs 8 (by decide), hs 9 (by decide), hs 10 (by decide), hs 11 (by decide)]
        exact ⟨by omega, hm.2.1, hm.2.2.1, hm.2.2.2.1, hm.2.2.2.2.1, hm.2.2.2.2.2.1, hm.2.2.2.2.2.2.1, hm.2.2.2.2.2.2.2.1, h4, hm.2.2.2.2.2.2.2.2.2⟩
      · have e3 : ∀ x, τ 3 x = σ 3 x := congrFun (hs 3 (by decide))
        have e4 : ∀ x, τ 4 x = σ 4 x := congrFun (hs 4 (by decide))
        have e5 : ∀ x, τ 5 x = σ 5 x := congrFun (hs 5 (by decide))
        have e6 : τ 6 = σ 6 := hs 6 (by decide)
        have e7 : ∀ x, τ 7 x = σ 7 x := congrFun (hs 7 (by decide))
        have e8 : ∀ x, τ 8 x = σ 8 x := congrFun (hs 8 (by decide))
        have e9 : ∀ x, τ 9 x = σ 9 x := congrFun (hs 9 (by decide))
        have e10 : ∀ x, τ 10 x = σ 10 x := congrFun (hs 10 (by decide))
        have e11 : ∀ x, τ 11 x = σ 11 x := congrFun (hs 11 (by decide))
        exact ⟨e2, h5, e3 0, e9 0, fun m x y => ⟨⟨e5 m, fun k z w => e4 _⟩, congrFun e6 m, e7 m, by show gen (τ 6) m = gen (σ 6) m; rw [e6], e8 m⟩, fun s x y => ⟨e10 s, fun k z w p u v => e11 _⟩⟩
    · have inner : ∀ k, -1 ≤ k → k ≤ 3 → ∀ τ : MS, (∀ k, ¬ k = 0 → ¬ k = 1 → ¬ k = 2 → τ k = σ k) → τ 0 0 = 0 → τ 2 0 = σ 2 0 + 4 * j + (3 - k) → (∀ i, 0 ≤ i → i < 60 → 0 ≤ τ 1 i ∧ τ 1 i ≤ 255) → (∀ i, 0 ≤ i → i < τ 2 0 → τ 1 i = nFeed (mV σ) a b d e f 1 i 0 0) → P_X5_feed_2 K L c q cq (pk5 a b d e f) τ 5 j (pk5 a b d e f j) k := fun k k0 k1 => by
        refine loop_dn (P := fun k => ∀ τ : MS, (∀ k, ¬ k = 0 → ¬ k = 1 → ¬ k = 2 → τ k = σ k) → τ 0 0 = 0 → τ 2 0 = σ 2 0 + 4 * j + (3 - k) → (∀ i, 0 ≤ i → i < 60 → 0 ≤ τ 1 i ∧ τ 1 i ≤ 255) → (∀ i, 0 ≤ i → i < τ 2 0 → τ 1 i = nFeed (mV σ) a b d e f 1 i 0 0) → P_X5_feed_2 K L c q cq (pk5 a b d e f) τ 5 j (pk5 a b d e f j) k) 3 (-1) (fun k k0 k1 jh τ h1 h2 h3 h4 h5 => ?_) k k0 k1
        refine b_X5_feed_2 C ⟨by omega, fun hk => ih (by omega) τ h1 h2 (by omega) h4 h5, fun hk => ⟨by omega, ?_⟩⟩
        rw [show k + (-1) = k - 1 from by omega]
        refine jh (by omega) _ (fun x x0 x1 x2 => by rw [upM_n _ _ x2, upM_n _ _ x1]; exact h1 x x0 x1 x2) h2 (by show τ 2 0 + 1 = _; omega) (fun i x y => ?_) (fun i x y => ?_)
        · show 0 ≤ upI (τ 1) (τ 2 0) (byt (pk5 a b d e f j) k) i ∧ upI (τ 1) (τ 2 0) (byt (pk5 a b d e f j) k) i ≤ 255
          by_cases hi : i = τ 2 0
          · rw [hi, upI_s]; exact zAnd255 _
          · rw [upI_n _ _ hi]; exact h4 i x y
        · have y' : i < τ 2 0 + 1 := y
          show upI (τ 1) (τ 2 0) (byt (pk5 a b d e f j) k) i = _
          by_cases hi : i = τ 2 0
          · rw [hi, upI_s]
            show _ = if τ 2 0 < σ 2 0 then σ 1 (τ 2 0) else byt (pk5 a b d e f ((τ 2 0 - σ 2 0) / 4)) (3 - (τ 2 0 - σ 2 0) % 4)
            rw [if_neg (by omega), show (τ 2 0 - σ 2 0) / 4 = j from by omega, show 3 - (τ 2 0 - σ 2 0) % 4 = k from by omega]
          · rw [upI_n _ _ hi]; exact h5 i x (by omega)
      exact inner 3 (by decide) (by decide) τ h1 h2 (by omega) h4 h5
  refine one 0 (Int.le_refl _) (by decide) _ (fun k x _ _ => upM_n _ _ x) rfl (by show σ 2 0 = _; omega) (fun i x y => hp.1.tb x y) (fun i x y => ?_)
  have y' : i < σ 2 0 := y
  exact (if_pos y').symm))
