/-! counts, guesses, facts in the house -/
theorem CO.in32 {σ : CS} (h : CO σ) : -2147483648 ≤ σ 2 0 0 0 ∧ σ 2 0 0 0 < 2147483648 := by have := h.n; omega
theorem s_X4_thoseThere : H_X4_thoseThere (fun σ => CO σ) (fun σ => vThere (cV σ)) := fun l y σ hp => m_X4_thoseThere (fun K _ C => b_X4_thoseThere_0 C (by
  have n := hp.n
  have e21 := hp.e21
  refine loop_up (P := fun i => P_X4_thoseThere_1 K y σ (sumI (fun m => if ¬ σ 12 m 0 0 = 0 then 1 else 0) i) i) 0 (σ 2 0 0 0) (fun i h0 h1 ih => ?_) 0 (Int.le_refl _) n.1
  refine b_X4_thoseThere_1 C s_sizeM s_getM ⟨trivial, by omega, by omega, fun hc => ⟨?_, rfl⟩, fun hc => ?_⟩
  · have hc' : σ 2 0 0 0 ≤ i := hc
    rw [show i = σ 2 0 0 0 from by omega]; rfl
  · have hc' : ¬ σ 2 0 0 0 ≤ i := hc
    have c := (hp.m h0 (by omega)).1
    have h9 := ih (by omega)
    rw [sumI_s _ h0] at h9
    refine ⟨⟨hp, h0, by omega⟩, by omega, by omega, fun q => ?_, fun q => ?_⟩
    · rw [if_neg (fun z => z q), Int.add_zero] at h9; exact h9
    · rw [if_pos q] at h9; exact h9))
theorem s_X4_copiesOf : H_X4_copiesOf (fun σ m => CO σ ∧ 0 ≤ m ∧ m < σ 2 0 0 0) (fun σ m => vCopies (cV σ) m) := fun l y σ m hp => m_X4_copiesOf (fun K _ C => b_X4_copiesOf_0 C (by
  obtain ⟨hp, m0, m1⟩ := hp
  have n := hp.n
  have e21 := hp.e21
  refine loop_up (P := fun i => P_X4_copiesOf_1 K y σ m (sumI (fun k => if σ 9 k 0 0 = m then 1 else 0) i) i) 0 (σ 2 0 0 0) (fun i h0 h1 ih => ?_) 0 (Int.le_refl _) n.1
  refine b_X4_copiesOf_1 C s_sizeM s_getM ⟨trivial, by omega, by omega, fun hc => ⟨?_, rfl⟩, fun hc => ?_⟩
  · have hc' : σ 2 0 0 0 ≤ i := hc
    rw [show i = σ 2 0 0 0 from by omega]; rfl
  · have hc' : ¬ σ 2 0 0 0 ≤ i := hc
    have c := hp.ex1 h0 (by omega)
    have h9 := ih (by omega)
    rw [sumI_s _ h0] at h9
    refine ⟨⟨hp, h0, by omega⟩, by omega, by omega, by omega, fun q => ?_, fun q => ?_⟩
    · rw [if_neg q, Int.add_zero] at h9; exact h9
    · rw [if_pos q] at h9; exact h9))
theorem s_X4_descendantsOf : H_X4_descendantsOf (fun σ m => CO σ ∧ 0 ≤ m ∧ m < σ 2 0 0 0) (fun σ m => vDesc (cV σ) m) := fun l y σ m hp => m_X4_descendantsOf (fun K _ C => b_X4_descendantsOf_0 C (by
  obtain ⟨hp, m0, m1⟩ := hp
  have n := hp.n
  have e21 := hp.e21
  refine loop_up (P := fun i => P_X4_descendantsOf_1 K y σ m (sumI (fun k => if dsc (fun m => σ 9 m 0 0) k m = true then 1 else 0) i) i) 0 (σ 2 0 0 0) (fun i h0 h1 ih => ?_) 0 (Int.le_refl _) n.1
  refine b_X4_descendantsOf_1 C s_sizeM s_getM s_X1_descendsFrom ⟨trivial, by omega, by omega, fun hc => ⟨?_, rfl⟩, fun hc => ?_⟩
  · have hc' : σ 2 0 0 0 ≤ i := hc
    rw [show i = σ 2 0 0 0 from by omega]; rfl
  · have hc' : ¬ σ 2 0 0 0 ≤ i := hc
    have h9 := ih (by omega)
    rw [sumI_s _ h0] at h9
    refine ⟨⟨hp, h0, by omega⟩, by omega, ⟨hp, ⟨h0, by omega⟩, m0, m1⟩, fun q => ?_, fun q => ?_⟩
    · have q' : ¬ dsc (fun m => σ 9 m 0 0) i m = true := q
      rw [if_neg q', Int.add_zero] at h9; exact h9
    · have q' : dsc (fun m => σ 9 m 0 0) i m = true := q
      rw [if_pos q'] at h9; exact h9))
theorem s_X4_origins : H_X4_origins (fun σ => CO σ) (fun σ => vCounted (cV σ) 3) := fun l y σ hp => m_X4_origins (fun K _ C => b_X4_origins_0 C (by
  have n := hp.n
  have e21 := hp.e21
  refine loop_up (P := fun i => P_X4_origins_1 K y σ (sumI (fun m => if σ 9 m 0 0 = -1 then 1 else 0) i) i) 0 (σ 2 0 0 0) (fun i h0 h1 ih => ?_) 0 (Int.le_refl _) n.1
  refine b_X4_origins_1 C s_sizeM s_getM ⟨trivial, by omega, by omega, fun hc => ⟨?_, rfl⟩, fun hc => ?_⟩
  · have hc' : σ 2 0 0 0 ≤ i := hc
    rw [show i = σ 2 0 0 0 from by omega]; rfl
  · have hc' : ¬ σ 2 0 0 0 ≤ i := hc
    have c := hp.ex1 h0 (by omega)
    have h9 := ih (by omega)
    rw [sumI_s _ h0] at h9
    refine ⟨⟨hp, h0, by omega⟩, by omega, fun q => ?_, fun q => ?_⟩
    · rw [if_neg (by omega), Int.add_zero] at h9; exact h9
    · rw [if_pos (by omega)] at h9; exact h9))
theorem s_X4_greatestGeneration : H_X4_greatestGeneration (fun σ => CO σ) (fun σ => vCounted (cV σ) 4) := fun l y σ hp => m_X4_greatestGeneration (fun K _ C => b_X4_greatestGeneration_0 C (by
  have n := hp.n
  have e21 := hp.e21
  have gi : ∀ m, 0 ≤ m → m < σ 2 0 0 0 → 0 ≤ σ 11 m 0 0 ∧ σ 11 m 0 0 ≤ 24 := fun m a b => by rw [(hp.m a b).2.2]; have := gen_in hp.ex m a b; omega
  refine loop_up (P := fun i => P_X4_greatestGeneration_1 K y σ (maxI (fun m => σ 11 m 0 0) i) i) 0 (σ 2 0 0 0) (fun i h0 h1 ih => ?_) 0 (Int.le_refl _) n.1
  have mx := maxI_in (f := fun m => σ 11 m 0 0) 24 i (by decide) h0 (fun k a b => (gi k a (by omega)).2)
  refine b_X4_greatestGeneration_1 C s_sizeM s_getM ⟨trivial, by omega, by omega, fun hc => ⟨?_, rfl⟩, fun hc => ?_⟩
  · have hc' : σ 2 0 0 0 ≤ i := hc
    rw [show i = σ 2 0 0 0 from by omega]; rfl
  · have hc' : ¬ σ 2 0 0 0 ≤ i := hc
    have h9 := ih (by omega)
    rw [maxI_s _ h0] at h9
    have := gi i h0 (by omega)
    exact ⟨⟨hp, h0, by omega⟩, by omega, by omega, by omega, h9⟩))
theorem CTx.ln {σ : CS} (h : CTx σ) {m : Int} (h0 : 0 ≤ m) (h1 : m < σ 2 0 0 0) : 0 ≤ σ 5 (m + 3) 0 0 ∧ σ 5 (m + 3) 0 0 ≤ 120 := (h (m + 3) (by omega) (by omega)).1
theorem s_X4_lettersThere : H_X4_lettersThere (fun σ => CI σ) (fun σ => vCounted (cV σ) 6) := fun l y σ hp => m_X4_lettersThere (fun K _ C => b_X4_lettersThere_0 C (by
  have n := hp.1.n
  have e21 := hp.1.e21
  refine loop_up (P := fun i => P_X4_lettersThere_1 K y σ (sumI (fun m => if ¬ cV σ 9 m 0 0 = 0 then cV σ 4 m 0 0 else 0) i) i) 0 (σ 2 0 0 0) (fun i h0 h1 ih => ?_) 0 (Int.le_refl _) n.1
  refine b_X4_lettersThere_1 C s_sizeM s_getM ⟨trivial, by omega, by omega, fun hc => ⟨?_, rfl⟩, fun hc => ?_⟩
  · have hc' : σ 2 0 0 0 ≤ i := hc
    rw [show i = σ 2 0 0 0 from by omega]; rfl
  · have hc' : ¬ σ 2 0 0 0 ≤ i := hc
    have c := (hp.1.m h0 (by omega)).1
    have h9 := ih (by omega)
    rw [sumI_s _ h0, cV4 σ h0] at h9
    refine ⟨⟨hp.1, h0, by omega⟩, by omega, by omega, fun q => ?_, fun q => ⟨by omega, ?_⟩⟩
    · rw [if_neg (fun z => z q), Int.add_zero] at h9; exact h9
    · rw [if_pos (show ¬ cV σ 9 i 0 0 = 0 from q)] at h9; exact h9))
theorem gs_least {th D : Int → Int} {i : Int} (h0 : 0 ≤ i) (hD : ∀ k, 0 ≤ k → k ≤ i → D k ≤ 120) : gsI th D (i + 1) = if ¬ th i = 0 ∧ ¬ (if gsI th D i = -1 then 120 else D (gsI th D i)) < D i then i else gsI th D i := by
  have e : gsI th D (i + 1) = gsF th D (gsI th D i) i := fdI_s _ _ h0
  have hi := gsI_in th D i h0
  rw [e]
  unfold gsF
  by_cases q : gsI th D i = -1
  · rw [if_pos q]
    have d := hD i h0 (Int.le_refl _)
    by_cases q2 : th i = 0
    · rw [if_neg (fun z => z.1 q2), if_neg (fun z => z.1 q2)]
    · rw [if_pos ⟨q2, Or.inl q⟩, if_pos ⟨q2, by omega⟩]
  · rw [if_neg q]
    by_cases q2 : th i = 0
    · rw [if_neg (fun z => z.1 q2), if_neg (fun z => z.1 q2)]
    · by_cases q3 : D i ≤ D (gsI th D i)
      · rw [if_pos ⟨q2, Or.inr q3⟩, if_pos ⟨q2, by omega⟩]
      · rw [if_neg (fun z => z.2.elim q q3), if_neg (fun z => z.2 (by omega))]
theorem s_X4_guessed : H_X4_guessed (fun σ m => CI σ ∧ 0 ≤ m ∧ m < σ 2 0 0 0) (fun σ m r σ' => Cs σ σ' ∧ CK σ' ∧ r = vGuess (cV σ) m) := fun l y σ m hp => m_X4_guessed (fun K _ C => b_X4_guessed_0 C (by
  obtain ⟨hp, m0, m1⟩ := hp
  have n := hp.1.n
  have e21 := hp.1.e21
  have c := (hp.1.m m0 m1).1
  refine ⟨by omega, by omega, fun q => ?_, fun q => ⟨Cs.rfl, hp.2.2, (if_pos q).symm⟩⟩
  have dd : ∀ k, 0 ≤ k → k ≤ m → 0 ≤ vD (cV σ) m k ∧ vD (cV σ) m k ≤ 120 := fun k a b => cD_in hp.2.1 m0 m1 a (by omega)
  refine loop_up (P := fun i => ∀ τ : CS, Cs σ τ → CK τ → P_X4_guessed_1 K y τ m (gsI (fun k => σ 12 k 0 0) (fun k => vD (cV σ) m k) i) (if gsI (fun k => σ 12 k 0 0) (fun k => vD (cV σ) m k) i = -1 then 120 else vD (cV σ) m (gsI (fun k => σ 12 k 0 0) (fun k => vD (cV σ) m k) i)) i) 0 m (fun i h0 h1 ih τ cs ck => ?_) 0 (Int.le_refl _) m0 σ Cs.rfl hp.2.2
  have gi := gsI_in (fun k => σ 12 k 0 0) (fun k => vD (cV σ) m k) i h0
  have gl := gs_least (th := fun k => σ 12 k 0 0) (D := fun k => vD (cV σ) m k) h0 (fun k a b => (dd k a (by omega)).2)
  obtain ⟨b, hb⟩ : ∃ b, b = gsI (fun k => σ 12 k 0 0) (fun k => vD (cV σ) m k) i := ⟨_, rfl⟩
  rw [← hb] at gi gl ⊢
  obtain ⟨le, hle⟩ : ∃ le, le = (if b = -1 then 120 else vD (cV σ) m b) := ⟨_, rfl⟩
  have hle' : 0 ≤ le ∧ le ≤ 120 := by
    rw [hle]
    by_cases q : b = -1
    · rw [if_pos q]; decide
    · rw [if_neg q]; exact dd b (by omega) (by omega)
  rw [← hle] at gl ⊢
  have cI := hp.cs cs ck
  have f2 : τ 2 0 0 0 = σ 2 0 0 0 := cs.cm.e2
  have f21 : τ 21 0 0 0 = σ 21 0 0 0 := by rw [cs 21 (by decide) (by decide) (by decide)]
  have f12 : ∀ k, τ 12 k 0 0 = σ 12 k 0 0 := fun k => by rw [cs 12 (by decide) (by decide) (by decide)]
  have fin : ∀ ρ : CS, Cs σ ρ → CK ρ → i = m → (Cs σ ρ ∧ CK ρ ∧ b = vGuess (cV σ) m) := fun ρ a d e => ⟨a, d, by rw [hb, e]; exact (if_neg q).symm⟩
  refine b_X4_guessed_1 C s_sizeM s_getM s_X4_measure ?_
  show (0 ≤ m ∧ m < τ 21 0 0 0) ∧ _ ∧ _ ∧ ((m ≤ i → _) ∧ (¬ m ≤ i → True ∧ (-2147483648 ≤ τ 2 0 0 0 ∧ τ 2 0 0 0 < 2147483648) ∧ ((τ 2 0 0 0 ≤ i → _) ∧ (¬ τ 2 0 0 0 ≤ i → (CO τ ∧ 0 ≤ i ∧ i < τ 2 0 0 0) ∧ (0 ≤ i ∧ i < τ 21 0 0 0) ∧ (-2147483648 ≤ τ 12 i 0 0 ∧ τ 12 i 0 0 < 2147483648) ∧ ((¬ τ 12 i 0 0 = 0 → _) ∧ (τ 12 i 0 0 = 0 → _))))))
  rw [f21, f2, f12]
  refine ⟨by omega, by omega, by omega, fun hc => fin τ cs ck (by omega), fun hc => ⟨trivial, by omega, fun hd => by omega, fun hd => ⟨⟨cI.1, by omega, by omega⟩, by omega, by have := (hp.1.m h0 (by omega)).1; omega, fun z => ⟨⟨cI, by omega, by omega⟩, fun r ρ o => ?_⟩, fun z => ?_⟩⟩⟩
  · have er : r = vD (cV σ) m i := by rw [o.2.2, cV_cm cs.cm]
    have di := dd i h0 h1
    refine ⟨by omega, by omega, fun w => ?_, fun w => ?_⟩
    · rw [if_neg (fun x => x.2 (by show le < vD (cV σ) m i; omega))] at gl
      have h9 := ih (by omega) ρ (cs.trans o.1) o.2.1
      rw [gl, ← hle] at h9; exact h9
    · rw [if_pos ⟨z, by show ¬ le < vD (cV σ) m i; omega⟩] at gl
      have h9 := ih (by omega) ρ (cs.trans o.1) o.2.1
      rw [gl, if_neg (by omega), ← er] at h9; exact h9
  · rw [if_neg (fun x => x.1 z)] at gl
    have h9 := ih (by omega) τ cs ck
    rw [gl, ← hle] at h9; exact h9))
