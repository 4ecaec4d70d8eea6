/-! votes in the house -/
theorem s_fillT : H_fillT (fun _ _ => True) (fun σ v _ σ' => (∀ c, ¬ c = 8 → σ' c = σ c) ∧ ∀ j, 0 ≤ j → j < 121 → σ' 8 j 0 0 = v) := fun l y σ v _ =>
  cMet.of (maxL := 4) (by decide +kernel) rfl (Nat.le_of_ble_eq_true rfl) (fun K h1 h2 h3 h4 h5 h6 _ => by
    refine g_iconst h2 (z := 0) dJ7_fill_53178_0 ?_
    refine g_istore_n h2 (i := 2) (loc' := [(2, .int (iZ 0)), (0, .ref (y.1 11 0 0)), (1, .int (iZ v))]) h3 dJ7_fill_53178_1 rfl (by decide) rfl ?_
    refine g_aload_n h2 1 dJ7_fill_53178_2 rfl rfl ?_
    refine c_len h2 (N := 121) (κ := 11) (i := 0) (j := 0) rfl rfl rfl dJ7_fill_53178_3 ⟨rfl, rfl⟩ ?_
    refine g_istore_n h2 (i := 3) (loc' := [(3, .int (iZ 121)), (2, .int (iZ 0)), (0, .ref (y.1 11 0 0)), (1, .int (iZ v))]) h3 dJ7_fill_53178_4 rfl (by decide) rfl ?_
    suffices key : ∀ k, 0 ≤ k → k ≤ 121 → ∀ τ : CS, (∀ c, ¬ c = 8 → τ c = σ c) → (∀ j, 0 ≤ j → j < k → τ 8 j 0 0 = v) → G K (CL y τ) (0, 0) [(3, .int (iZ 121)), (2, .int (iZ k)), (0, .ref (y.1 11 0 0)), (1, .int (iZ v))] 5 [] by
      exact key 0 (Int.le_refl _) (by decide) σ (fun _ _ => rfl) (fun j a b => by omega)
    intro k k0 k1
    refine loop_up (P := fun k => ∀ τ : CS, (∀ c, ¬ c = 8 → τ c = σ c) → (∀ j, 0 ≤ j → j < k → τ 8 j 0 0 = v) → G K (CL y τ) (0, 0) [(3, .int (iZ 121)), (2, .int (iZ k)), (0, .ref (y.1 11 0 0)), (1, .int (iZ v))] 5 []) 0 121 (fun k k0 k1 ih τ e1 e2 => ?_) k k0 k1
    refine g_iload_n h2 1 dJ7_fill_53178_5 rfl rfl ?_
    refine g_iload_n h2 0 dJ7_fill_53178_6 rfl rfl ?_
    refine g_icmp_ge h2 (tgt := 20) dJ7_fill_53178_7 (by decide) (by omega) (by decide) (fun hc => ?_) (fun hc => ?_)
    · exact x_vret h2 h4 rfl ⟨Nat.le_of_ble_eq_true rfl, Nat.le_of_ble_eq_true rfl⟩ dJ7_fill_53178_20 ⟨e1, fun j a b => e2 j a (by omega)⟩
    · refine g_aload_n h2 2 dJ7_fill_53178_10 rfl rfl ?_
      refine g_iload_n h2 1 dJ7_fill_53178_11 rfl rfl ?_
      refine g_iload_n h2 3 dJ7_fill_53178_12 rfl rfl ?_
      refine c_ast h2 (σ' := upC τ 8 (up1 (τ 8) k v)) (N := 121) (f := fun p => τ 8 p 0 0) (e := k) (z := v) (κ := 11) (i := 0) (j := 0) rfl rfl rfl (CUpd_8 y _ _) rfl (by decide) dJ7_fill_53178_13 ⟨rfl, rfl⟩ ⟨k0, by omega⟩ ?_
      refine g_iinc h2 (z := k) (w := 1) (loc' := [(2, .int (iZ (k + 1))), (3, .int (iZ 121)), (0, .ref (y.1 11 0 0)), (1, .int (iZ v))]) 1 h3 dJ7_fill_53178_14 rfl (by decide) rfl ?_
      refine g_goto h2 (tgt := 5) dJ7_fill_53178_17 (by decide) ?_
      refine g_sub [1, 0, 2, 3] rfl (ih (by omega) _ (fun c hc => by rw [upC_n _ _ hc]; exact e1 c hc) (fun j a b => ?_))
      show up1 (τ 8) k v j 0 0 = v
      by_cases hj : j = k
      · rw [hj, up1_s]
      · rw [up1_n _ _ _ _ hj]; exact e2 j a (by omega))
theorem s_X4_firstMostTallied : H_X4_firstMostTallied (fun σ s => (1 ≤ s ∧ s ≤ 121) ∧ ∀ j, 0 ≤ j → j < s → 0 ≤ σ 8 j 0 0 ∧ σ 8 j 0 0 ≤ 1000) (fun σ s => amxI (fun j => σ 8 j 0 0) s) := fun l y σ s hp => m_X4_firstMostTallied (fun K _ C => b_X4_firstMostTallied_0 C (by
  obtain ⟨hs, ht⟩ := hp
  have key := loop_up (P := fun i => P_X4_firstMostTallied_1 K y σ s (amxI (fun j => σ 8 j 0 0) i) i) 1 s (fun i h0 h1 ih => ?_) 1 (Int.le_refl _) (by omega)
  · rw [amxI_1] at key; exact key
  have ai := amxI_in (fun j => σ 8 j 0 0) i (by omega)
  have es := amxI_s (fun j => σ 8 j 0 0) (show 0 ≤ i by omega)
  refine b_X4_firstMostTallied_1 C ⟨by omega, by omega, fun hc => ⟨by show _ = amxI (fun j => σ 8 j 0 0) s; rw [show i = s from by omega], rfl⟩, fun hc => ⟨fun hd => by omega, fun hd => ?_⟩⟩
  have t1 := ht i (by omega) (by omega)
  have t2 := ht (amxI (fun j => σ 8 j 0 0) i) ai.1 (by omega)
  have h9 := ih (by omega)
  refine ⟨by omega, by omega, by omega, by omega, fun q => ?_, fun q => ?_⟩
  · rw [es, if_neg (by omega)] at h9; exact h9
  · rw [es, if_pos (by omega)] at h9; exact h9))
theorem tally_up {f : Int → Int → Int → Int} {L j : Int} : up1 f L (f L 0 0 + 1) j 0 0 = f j 0 0 + if L = j then 1 else 0 := by
  by_cases h : j = L
  · rw [h, up1_s, if_pos rfl]
  · rw [up1_n _ _ _ _ h, if_neg (fun q => h q.symm)]; omega
/-- the tally alone has changed -/
theorem Cs.of8 {σ σ' : CS} (h : ∀ c, ¬ c = 8 → σ' c = σ c) : Cs σ σ' := fun c _ _ q => h c q
theorem CK.of8 {σ σ' : CS} (k : CK σ) (h : ∀ c, ¬ c = 8 → σ' c = σ c) : CK σ' := k.cm (Cs.of8 h).cm (h 4 (by decide))
theorem cMany_in {σ : CS} (h : CO σ) (s i : Int) (h0 : 0 ≤ i) (h1 : i ≤ σ 2 0 0 0) : 0 ≤ sumI (fun m => if ¬ cV σ 9 m 0 0 = 0 ∧ cV σ 4 m 0 0 = s then 1 else 0) i ∧ sumI (fun m => if ¬ cV σ 9 m 0 0 = 0 ∧ cV σ 4 m 0 0 = s then 1 else 0) i ≤ 24 := by
  have n := h.n
  have := sum01 (f := fun m => if ¬ cV σ 9 m 0 0 = 0 ∧ cV σ 4 m 0 0 = s then 1 else 0) (n := i) 1 (by decide) ⟨h0, by omega⟩ (fun k _ _ => ite01)
  omega
theorem s_X4_lengthOfMost : H_X4_lengthOfMost (fun σ => CI σ) (fun σ r σ' => (∀ c, ¬ c = 8 → σ' c = σ c) ∧ r = vLen (cV σ)) := fun l y σ hp => m_X4_lengthOfMost (fun K _ C => b_X4_lengthOfMost_0 C s_fillT (by
  have n := hp.1.n
  have e21 := hp.1.e21
  refine ⟨trivial, fun r τ o => ?_⟩
  refine loop_up (P := fun i => ∀ τ : CS, (∀ c, ¬ c = 8 → τ c = σ c) → (∀ j, 0 ≤ j → j < 121 → τ 8 j 0 0 = sumI (fun m => if ¬ cV σ 9 m 0 0 = 0 ∧ cV σ 4 m 0 0 = j then 1 else 0) i) → P_X4_lengthOfMost_1 K y τ i) 0 (σ 2 0 0 0) (fun i h0 h1 ih τ e1 e2 => ?_) 0 (Int.le_refl _) n.1 τ o.1 (fun j a b => by rw [o.2 j a b, sumI_0])
  have cI := hp.cs (Cs.of8 e1) (hp.2.2.of8 e1)
  have f : ∀ c k i j, ¬ c = 8 → τ c k i j = σ c k i j := fun c k i j x => by rw [e1 c x]
  refine b_X4_lengthOfMost_1 C s_sizeM s_X4_firstMostTallied s_getM ?_
  show True ∧ (-2147483648 ≤ i ∧ i < 2147483648) ∧ (-2147483648 ≤ τ 2 0 0 0 ∧ τ 2 0 0 0 < 2147483648) ∧ ((τ 2 0 0 0 ≤ i → _) ∧ (¬ τ 2 0 0 0 ≤ i → (CO τ ∧ 0 ≤ i ∧ i < τ 2 0 0 0) ∧ (0 ≤ i ∧ i < τ 21 0 0 0) ∧ (-2147483648 ≤ τ 12 i 0 0 ∧ τ 12 i 0 0 < 2147483648) ∧ ((τ 12 i 0 0 = 0 → _) ∧ (¬ τ 12 i 0 0 = 0 → (0 ≤ i + 3 ∧ i + 3 < τ 21 0 0 0 + 3) ∧ (0 ≤ τ 5 (i + 3) 0 0 ∧ τ 5 (i + 3) 0 0 < 121) ∧ P_X4_lengthOfMost_1 K y (upC τ 8 (up1 (τ 8) (τ 5 (i + 3) 0 0) (τ 8 (τ 5 (i + 3) 0 0) 0 0 + 1))) (i + 1)))))
  rw [f 2 0 0 0 (by decide), f 21 0 0 0 (by decide), f 12 i 0 0 (by decide), f 5 (i + 3) 0 0 (by decide)]
  refine ⟨trivial, by omega, by omega, fun hc => ⟨⟨by decide, fun j a b => ?_⟩, e1, ?_⟩, fun hc => ?_⟩
  · rw [e2 j a b]; have := cMany_in hp.1 j i h0 h1; omega
  · show amxI (fun j => τ 8 j 0 0) 121 = amxI (vMany (cV σ)) 121
    exact amxI_cong 121 (by decide) (fun k a b => by rw [e2 k a b, show i = σ 2 0 0 0 from by omega]; rfl)
  · have c := (hp.1.m h0 (by omega)).1
    have ln := hp.2.1.ln h0 (show i < σ 2 0 0 0 by omega)
    have e4 := cV4 σ h0
    refine ⟨⟨cI.1, h0, by omega⟩, by omega, by omega, fun q => ih (by omega) τ e1 (fun j a b => ?_), fun q => ⟨by omega, by omega, ih (by omega) _ (fun c hc => by rw [upC_n _ _ hc]; exact e1 c hc) (fun j a b => ?_)⟩⟩
    · rw [e2 j a b, sumI_s _ h0, if_neg (fun z => z.1 q), Int.add_zero]
    · show up1 (τ 8) (σ 5 (i + 3) 0 0) (τ 8 (σ 5 (i + 3) 0 0) 0 0 + 1) j 0 0 = _
      rw [tally_up, e2 j a b, sumI_s _ h0, e4]
      by_cases hq : σ 5 (i + 3) 0 0 = j
      · rw [if_pos hq, if_pos ⟨q, hq⟩]
      · rw [if_neg hq, if_neg (fun z => hq z.2)]))
theorem s_X4_voteLength : H_X4_voteLength (fun σ => CI σ) (fun σ r σ' => qA σ 0 (vLen (cV σ)) r σ') := fun l y σ hp => m_X4_voteLength (fun K _ C => b_X4_voteLength_0 C s_X4_lengthOfMost ⟨hp, fun r τ o => qA.cs hp rfl o.2 (Cs.of8 o.1) (hp.2.2.of8 o.1)⟩)
theorem s_X4_letterOfMost : H_X4_letterOfMost (fun σ p s => CI σ ∧ 0 ≤ p ∧ p < s ∧ s ≤ 120) (fun σ p s r σ' => (∀ c, ¬ c = 8 → σ' c = σ c) ∧ r = vLet (cV σ) p s) := fun l y σ p s hp => m_X4_letterOfMost (fun K _ C => b_X4_letterOfMost_0 C s_fillT (by
  obtain ⟨hp, p0, p1, s1⟩ := hp
  have n := hp.1.n
  have e21 := hp.1.e21
  refine ⟨trivial, fun r τ o => ?_⟩
  refine loop_up (P := fun i => ∀ τ : CS, (∀ c, ¬ c = 8 → τ c = σ c) → (∀ j, 0 ≤ j → j < 26 → τ 8 j 0 0 = sumI (fun m => if ¬ cV σ 9 m 0 0 = 0 ∧ cV σ 4 m 0 0 = s ∧ cV σ 5 m p 0 = 97 + j then 1 else 0) i) → P_X4_letterOfMost_1 K y τ p s i) 0 (σ 2 0 0 0) (fun i h0 h1 ih τ e1 e2 => ?_) 0 (Int.le_refl _) n.1 τ o.1 (fun j a b => by rw [o.2 j a (by omega), sumI_0])
  have cI := hp.cs (Cs.of8 e1) (hp.2.2.of8 e1)
  have f : ∀ c k i j, ¬ c = 8 → τ c k i j = σ c k i j := fun c k i j x => by rw [e1 c x]
  refine b_X4_letterOfMost_1 C s_sizeM s_X4_firstMostTallied s_getM s_X4_isLetter ?_
  show True ∧ (-2147483648 ≤ i ∧ i < 2147483648) ∧ (-2147483648 ≤ τ 2 0 0 0 ∧ τ 2 0 0 0 < 2147483648) ∧ ((τ 2 0 0 0 ≤ i → _) ∧ (¬ τ 2 0 0 0 ≤ i → (CO τ ∧ 0 ≤ i ∧ i < τ 2 0 0 0) ∧ (0 ≤ i ∧ i < τ 21 0 0 0) ∧ (-2147483648 ≤ τ 12 i 0 0 ∧ τ 12 i 0 0 < 2147483648) ∧ ((τ 12 i 0 0 = 0 → _) ∧ (¬ τ 12 i 0 0 = 0 → (0 ≤ i + 3 ∧ i + 3 < τ 21 0 0 0 + 3) ∧ (-2147483648 ≤ τ 5 (i + 3) 0 0 ∧ τ 5 (i + 3) 0 0 < 2147483648) ∧ (-2147483648 ≤ s ∧ s < 2147483648) ∧ ((¬ τ 5 (i + 3) 0 0 = s → _) ∧ (τ 5 (i + 3) 0 0 = s → (-2147483648 ≤ p ∧ p < 2147483648) ∧ ((s ≤ p → _) ∧ (¬ s ≤ p → (0 ≤ p ∧ p < 120) ∧ in32 (τ 6 (i + 3) p 0 - 97) ∧ ((¬ inB (τ 6 (i + 3) p 0 - 97) 0 25 = true → _) ∧ (inB (τ 6 (i + 3) p 0 - 97) 0 25 = true → (0 ≤ τ 6 (i + 3) p 0 - 97 ∧ τ 6 (i + 3) p 0 - 97 < 121) ∧ P_X4_letterOfMost_1 K y (upC τ 8 (up1 (τ 8) (τ 6 (i + 3) p 0 - 97) (τ 8 (τ 6 (i + 3) p 0 - 97) 0 0 + 1))) p s (i + 1)))))))))))
  rw [f 2 0 0 0 (by decide), f 21 0 0 0 (by decide), f 12 i 0 0 (by decide), f 5 (i + 3) 0 0 (by decide), f 6 (i + 3) p 0 (by decide)]
  refine ⟨trivial, by omega, by omega, fun hc => ⟨⟨by decide, fun j a b => ?_⟩, e1, ?_⟩, fun hc => ?_⟩
  · rw [e2 j a b]
    have := sum01 (f := fun m => if ¬ cV σ 9 m 0 0 = 0 ∧ cV σ 4 m 0 0 = s ∧ cV σ 5 m p 0 = 97 + j then 1 else 0) (n := i) 1 (by decide) ⟨h0, by omega⟩ (fun k _ _ => ite01)
    omega
  · show 97 + amxI (fun j => τ 8 j 0 0) 26 = 97 + amxI (vManyL (cV σ) p s) 26
    have ec : ∀ k, 0 ≤ k → k < 26 → τ 8 k 0 0 = vManyL (cV σ) p s k := fun k a b => by rw [e2 k a b, show i = σ 2 0 0 0 from by omega]; rfl
    rw [amxI_cong (f := fun j => τ 8 j 0 0) (g := vManyL (cV σ) p s) 26 (by decide) ec]
  · have c := (hp.1.m h0 (by omega)).1
    have ln := hp.2.1.ln h0 (show i < σ 2 0 0 0 by omega)
    have e4 := cV4 σ h0
    have e5 := cV5 σ p h0
    refine ⟨⟨cI.1, h0, by omega⟩, by omega, by omega, fun q => ih (by omega) τ e1 (fun j a b => ?_), fun q => ⟨by omega, by omega, by omega, fun q2 => ih (by omega) τ e1 (fun j a b => ?_), fun q2 => ⟨by omega, fun q3 => by omega, fun q3 => ?_⟩⟩⟩
    · rw [e2 j a b, sumI_s _ h0, if_neg (fun z => z.1 q), Int.add_zero]
    · rw [e2 j a b, sumI_s _ h0, if_neg (fun z => q2 (by rw [← e4]; exact z.2.1)), Int.add_zero]
    · have lt : 97 ≤ σ 6 (i + 3) p 0 ∧ σ 6 (i + 3) p 0 ≤ 122 := (hp.2.1 (i + 3) (by omega) (by omega)).2 p p0 (by show p < σ 5 (i + 3) 0 0; omega)
      refine ⟨by omega, i32 (by omega), fun q4 => absurd (inB_t.mpr (by omega)) q4, fun q4 => ⟨by omega, ih (by omega) _ (fun c hc => by rw [upC_n _ _ hc]; exact e1 c hc) (fun j a b => ?_)⟩⟩
      show up1 (τ 8) (σ 6 (i + 3) p 0 - 97) (τ 8 (σ 6 (i + 3) p 0 - 97) 0 0 + 1) j 0 0 = _
      rw [tally_up, e2 j a b, sumI_s _ h0, e4, e5]
      by_cases hq : σ 6 (i + 3) p 0 - 97 = j
      · rw [if_pos hq, if_pos ⟨q, q2, by omega⟩]
      · rw [if_neg hq, if_neg (fun z => hq (by have := z.2.2; omega))]))
theorem s_X4_vote : H_X4_vote (fun σ p => CI σ ∧ in32 p) (fun σ p r σ' => qA σ (tVote (cV σ) p) (vLet (cV σ) p (vLen (cV σ))) r σ') (fun σ p E σ' => qX σ (tVote (cV σ) p) eIO "" "" E σ') := fun l y σ p hp => m_X4_vote (fun K _ C => b_X4_vote_0 C s_X4_lengthOfMost s_X4_letterOfMost (by
  obtain ⟨hp, hpp⟩ := hp
  have vl := vLen_in (cV σ)
  refine ⟨hp, fun r τ o => ?_⟩
  have cs := Cs.of8 o.1
  have ck := hp.2.2.of8 o.1
  have cI := hp.cs cs ck
  have er := o.2
  refine ⟨hpp, fun hc => ⟨Or.inl ⟨if_neg (fun q => by omega), rfl⟩, cI, cs.cm⟩, fun hc => ⟨by omega, fun hd => ⟨⟨cI, by omega, by omega, by omega⟩, fun r2 ρ o2 => ?_⟩, fun hd => ⟨Or.inl ⟨if_neg (fun q => by omega), rfl⟩, cI, cs.cm⟩⟩⟩
  refine qA.cs hp (if_pos ⟨by omega, by omega⟩) ?_ (cs.trans (Cs.of8 o2.1)) (ck.of8 o2.1)
  rw [o2.2, cV_cm cs.cm, er]))
