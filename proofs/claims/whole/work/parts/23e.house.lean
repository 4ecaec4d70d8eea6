/-! facts, counts; the calls that ask -/
theorem CI.csE {σ τ : CS} (h : CI σ) (a : Cs σ τ) (b : CK τ) : CI τ ∧ cV τ = cV σ ∧ τ 2 0 0 0 = σ 2 0 0 0 ∧ τ 21 0 0 0 = σ 21 0 0 0 ∧ (∀ c k i j, ¬ c = 4 → ¬ c = 7 → ¬ c = 8 → τ c k i j = σ c k i j) := ⟨h.cs a b, cV_cm a.cm, a.cm.e2, by rw [a 21 (by decide) (by decide) (by decide)], fun c k i j x y z => by rw [a c x y z]⟩
theorem s_X4_guessedRight : H_X4_guessedRight (fun σ => CI σ) (fun σ r σ' => Cs σ σ' ∧ CK σ' ∧ r = vCounted (cV σ) 7) := fun l y σ hp => m_X4_guessedRight (fun K _ C => b_X4_guessedRight_0 C (by
  have n := hp.1.n
  refine loop_up (P := fun i => ∀ τ : CS, Cs σ τ → CK τ → P_X4_guessedRight_1 K y τ (sumI (vRight (cV σ)) i) i) 0 (σ 2 0 0 0) (fun i h0 h1 ih τ cs ck => ?_) 0 (Int.le_refl _) n.1 σ Cs.rfl hp.2.2
  obtain ⟨cI, ev, f2, f21, ff⟩ := hp.csE cs ck
  have e21 := hp.1.e21
  refine b_X4_guessedRight_1 C s_sizeM s_getM s_X4_guessed ?_
  show True ∧ (-2147483648 ≤ i ∧ i < 2147483648) ∧ (-2147483648 ≤ τ 2 0 0 0 ∧ τ 2 0 0 0 < 2147483648) ∧ ((τ 2 0 0 0 ≤ i → _) ∧ (¬ τ 2 0 0 0 ≤ i → (CO τ ∧ 0 ≤ i ∧ i < τ 2 0 0 0) ∧ (0 ≤ i ∧ i < τ 21 0 0 0) ∧ (-2147483648 ≤ τ 12 i 0 0 ∧ τ 12 i 0 0 < 2147483648) ∧ ((τ 12 i 0 0 = 0 → _) ∧ (¬ τ 12 i 0 0 = 0 → ((τ 9 i 0 0 < 0 → _) ∧ (¬ τ 9 i 0 0 < 0 → _))))))
  rw [f2, f21, ff 12 i 0 0 (by decide) (by decide) (by decide), ff 9 i 0 0 (by decide) (by decide) (by decide)]
  refine ⟨trivial, by omega, by omega, fun hc => ⟨cs, ck, by rw [show i = σ 2 0 0 0 from by omega]; rfl⟩, fun hc => ?_⟩
  have c := (hp.1.m h0 (by omega)).1
  have x := hp.1.ex1 h0 (show i < σ 2 0 0 0 by omega)
  have no : vRight (cV σ) i = 0 → ∀ ρ : CS, Cs σ ρ → CK ρ → P_X4_guessedRight_1 K y ρ (sumI (vRight (cV σ)) i) (i + 1) := fun e ρ a b => by
    have h9 := ih (by omega) ρ a b
    rw [sumI_s _ h0, e, Int.add_zero] at h9; exact h9
  refine ⟨⟨cI.1, h0, by omega⟩, by omega, by omega, fun q => no (if_neg (fun z => z.1 q)) τ cs ck, fun q => ⟨fun q2 => no (if_neg (fun z => z.2.1 (show σ 9 i 0 0 = -1 by omega))) τ cs ck, fun q2 => ⟨⟨cI, h0, by omega⟩, fun r ρ o => ?_⟩⟩⟩
  have cs2 := cs.trans o.1
  obtain ⟨cI2, ev2, g2, g21, gg⟩ := hp.csE cs2 o.2.1
  have er : r = vGuess (cV σ) i := by rw [o.2.2, ev]
  have gi := vG_in (cV σ) h0
  rw [g21, gg 9 i 0 0 (by decide) (by decide) (by decide)]
  refine ⟨by omega, by omega, by omega, by omega, fun z => no (if_neg (fun w => z (by rw [er]; exact w.2.2))) ρ cs2 o.2.1, fun z => ?_⟩
  have e1 : vRight (cV σ) i = 1 := if_pos ⟨q, show ¬ σ 9 i 0 0 = -1 by omega, by rw [← er]; exact z⟩
  have h9 := ih (by omega) ρ cs2 o.2.1
  rw [sumI_s _ h0, e1] at h9; exact h9))
theorem s_X4_counted : H_X4_counted (fun σ w => CI σ ∧ 0 ≤ w ∧ w ≤ 7) (fun σ w r σ' => Cs σ σ' ∧ CK σ' ∧ r = vCounted (cV σ) w) := fun l y σ w hp => m_X4_counted (fun K _ C => b_X4_counted_0 C s_X4_guessedRight s_sizeM s_X4_thoseThere s_sizeS s_X4_origins s_X4_greatestGeneration s_X4_lettersThere (by
  obtain ⟨hp, w0, w1⟩ := hp
  exact ⟨by omega, fun q => ⟨hp, fun r τ o => by rw [show w = 7 from by omega]; exact o⟩, fun q => ⟨trivial, Cs.rfl, hp.2.2, by rw [q]; rfl⟩, fun q => ⟨hp.1, Cs.rfl, hp.2.2, by rw [q]; rfl⟩, fun q => ⟨trivial, Cs.rfl, hp.2.2, by rw [q]; rfl⟩, fun q => ⟨hp.1, Cs.rfl, hp.2.2, by rw [q]⟩, fun q => ⟨hp.1, Cs.rfl, hp.2.2, by rw [q]⟩, fun q => ⟨Cs.rfl, hp.2.2, by rw [q]; rfl⟩, fun q => ⟨hp, Cs.rfl, hp.2.2, by rw [q]⟩⟩))
theorem s_X4_fact : H_X4_fact (fun σ m w => CI σ ∧ (0 ≤ m ∧ m < σ 2 0 0 0) ∧ 0 ≤ w ∧ w ≤ 8) (fun σ m w r σ' => Cs σ σ' ∧ CK σ' ∧ r = vTold (cV σ) m w) := fun l y σ m w hp => m_X4_fact (fun K _ C => b_X4_fact_0 C s_X1_origin s_X4_measure s_X4_copiesOf s_X4_descendantsOf (by
  obtain ⟨hp, ⟨m0, m1⟩, w0, w1⟩ := hp
  have n := hp.1.n
  have e21 := hp.1.e21
  have c := (hp.1.m m0 m1).1
  have x := hp.1.ex1 m0 m1
  have og := org_in hp.1.ex m0 m1
  refine ⟨by omega, fun q => ⟨⟨hp.1, m0, m1⟩, by omega, ⟨hp, ⟨m0, m1⟩, og.1, by omega⟩, fun r τ o => ⟨o.1, o.2.1, ?_⟩⟩, fun q => ⟨by omega, by omega, Cs.rfl, hp.2.2, ?_⟩, fun q => ⟨by omega, fun z => ⟨by omega, Cs.rfl, hp.2.2, ?_⟩, fun z => ⟨Cs.rfl, hp.2.2, ?_⟩⟩, fun q => ⟨by omega, Cs.rfl, hp.2.2, by rw [q]; rfl⟩, fun q => ⟨by omega, Cs.rfl, hp.2.2, by rw [q]; rfl⟩, fun q => ⟨by omega, by omega, Cs.rfl, hp.2.2, by rw [q]; rfl⟩, fun q => ⟨⟨hp.1, m0, m1⟩, Cs.rfl, hp.2.2, by rw [q]; rfl⟩, fun q => ⟨⟨hp.1, m0, m1⟩, Cs.rfl, hp.2.2, by rw [q]; rfl⟩, fun q => ⟨by omega, fun z => ⟨⟨hp, ⟨m0, m1⟩, by omega, by omega⟩, fun r τ o => ⟨o.1, o.2.1, ?_⟩⟩, fun z => ⟨Cs.rfl, hp.2.2, ?_⟩⟩⟩
  · rw [o.2.2, show w = 8 from by omega, vTold_8]; rfl
  · rw [q, vTold_0, cV4 σ m0]
  · rw [q, vTold_1]; rfl
  · rw [q, vTold_1]; show -1 = σ 9 m 0 0; omega
  · rw [o.2.2, q, vTold_7]; exact (if_neg (show ¬ σ 9 m 0 0 = -1 by omega)).symm
  · rw [q, vTold_7]; exact (if_pos (show σ 9 m 0 0 = -1 by omega)).symm))
theorem qA.cs {σ σ' : CS} {T v r : Int} (h : CI σ) (hT : T = 0) (hr : r = v) (a : Cs σ σ') (b : CK σ') : qA σ T v r σ' := ⟨hT, hr, h.cs a b, a.cm⟩
theorem s_X4_manuscript : H_X4_manuscript (fun σ m w => CI σ ∧ in32 m ∧ in32 w) (fun σ m w r σ' => qA σ (tManu (cV σ) m w) (vTold (cV σ) m w) r σ') (fun σ m w E σ' => qX σ (tManu (cV σ) m w) eIO "" "" E σ') := fun l y σ m w hp => m_X4_manuscript (fun K _ C => b_X4_manuscript_0 C s_X4_manuscriptOf s_X4_fact (by
  obtain ⟨hp, hm, hw⟩ := hp
  have vn := vN_c σ
  refine ⟨⟨hp.1, hm⟩, fun E u hx => ⟨Or.inl ⟨if_neg (fun q => hx.1 ⟨q.1.1, by have := q.1.2; omega⟩), hx.2.1⟩, by rw [hx.2.2]; exact hp, by rw [hx.2.2]; exact Cm.rfl⟩, fun r τ o => ?_⟩
  obtain ⟨rfl, rfl, m0, m1⟩ := o
  exact ⟨hw, fun hc => ⟨Or.inl ⟨if_neg (fun q => by omega), rfl⟩, hp, Cm.rfl⟩, fun hc => ⟨fun hd => ⟨⟨hp, ⟨m0, m1⟩, by omega, by omega⟩, fun r2 ρ o => qA.cs hp (if_pos ⟨⟨m0, by omega⟩, by omega, by omega⟩) o.2.2 o.1 o.2.1⟩, fun hd => ⟨Or.inl ⟨if_neg (fun q => by omega), rfl⟩, hp, Cm.rfl⟩⟩⟩))
theorem s_X4_count : H_X4_count (fun σ w => CI σ ∧ in32 w) (fun σ w r σ' => qA σ (tCount w) (vCounted (cV σ) w) r σ') (fun σ w E σ' => qX σ (tCount w) eIO "" "" E σ') := fun l y σ w hp => m_X4_count (fun K _ C => b_X4_count_0 C s_X4_counted (by
  obtain ⟨hp, hw⟩ := hp
  exact ⟨hw, fun hc => ⟨Or.inl ⟨if_neg (fun q => by omega), rfl⟩, hp, Cm.rfl⟩, fun hc => ⟨fun hd => ⟨⟨hp, by omega, by omega⟩, fun r2 ρ o => qA.cs hp (if_pos ⟨by omega, by omega⟩) o.2.2 o.1 o.2.1⟩, fun hd => ⟨Or.inl ⟨if_neg (fun q => by omega), rfl⟩, hp, Cm.rfl⟩⟩⟩))
theorem s_X4_distance : H_X4_distance (fun σ a b => CI σ ∧ in32 a ∧ in32 b) (fun σ a b r σ' => qA σ (tTwo (cV σ) a b) (vD (cV σ) a b) r σ') (fun σ a b E σ' => qX σ (tTwo (cV σ) a b) eIO "" "" E σ') := fun l y σ a b hp => m_X4_distance (fun K _ C => b_X4_distance_0 C s_X4_manuscriptOf s_X4_measure (by
  obtain ⟨hp, ha, hb⟩ := hp
  have vn := vN_c σ
  refine ⟨⟨hp.1, ha⟩, fun E u hx => ⟨Or.inl ⟨if_neg (fun q => hx.1 ⟨q.1.1, by have := q.1.2; omega⟩), hx.2.1⟩, by rw [hx.2.2]; exact hp, by rw [hx.2.2]; exact Cm.rfl⟩, fun r τ o => ?_⟩
  obtain ⟨rfl, rfl, m0, m1⟩ := o
  refine ⟨⟨hp.1, hb⟩, fun E u hx => ⟨Or.inl ⟨if_neg (fun q => hx.1 ⟨q.2.1, by have := q.2.2; omega⟩), hx.2.1⟩, by rw [hx.2.2]; exact hp, by rw [hx.2.2]; exact Cm.rfl⟩, fun r2 ρ o => ?_⟩
  obtain ⟨rfl, rfl, n0, n1⟩ := o
  exact ⟨⟨hp, ⟨m0, m1⟩, n0, n1⟩, fun r3 ω o => qA.cs hp (if_pos ⟨⟨m0, by omega⟩, n0, by omega⟩) o.2.2 o.1 o.2.1⟩))
theorem s_X4_guess : H_X4_guess (fun σ a => CI σ ∧ in32 a) (fun σ a r σ' => qA σ (tOne (cV σ) a) (vGuess (cV σ) a) r σ') (fun σ a E σ' => qX σ (tOne (cV σ) a) eIO "" "" E σ') := fun l y σ a hp => m_X4_guess (fun K _ C => b_X4_guess_0 C s_X4_manuscriptOf s_X4_guessed (by
  obtain ⟨hp, ha⟩ := hp
  have vn := vN_c σ
  refine ⟨⟨hp.1, ha⟩, fun E u hx => ⟨Or.inl ⟨if_neg (fun q => hx.1 ⟨q.1, by have := q.2; omega⟩), hx.2.1⟩, by rw [hx.2.2]; exact hp, by rw [hx.2.2]; exact Cm.rfl⟩, fun r τ o => ?_⟩
  obtain ⟨rfl, rfl, m0, m1⟩ := o
  exact ⟨⟨hp, m0, m1⟩, fun r3 ω o => qA.cs hp (if_pos ⟨m0, by omega⟩) o.2.2 o.1 o.2.1⟩))
theorem s_X4_common : H_X4_common (fun σ a b => CI σ ∧ in32 a ∧ in32 b) (fun σ a b r σ' => qA σ (tTwo (cV σ) a b) (comm (vEx (cV σ)) a b) r σ') (fun σ a b E σ' => qX σ (tTwo (cV σ) a b) eIO "" "" E σ') := fun l y σ a b hp => m_X4_common (fun K _ C => b_X4_common_0 C s_X4_manuscriptOf (by
  obtain ⟨hp, ha, hb⟩ := hp
  have vn := vN_c σ
  have e21 := hp.1.e21
  refine ⟨⟨hp.1, ha⟩, fun E u hx => ⟨Or.inl ⟨if_neg (fun q => hx.1 ⟨q.1.1, by have := q.1.2; omega⟩), hx.2.1⟩, by rw [hx.2.2]; exact hp, by rw [hx.2.2]; exact Cm.rfl⟩, fun r τ o => ?_⟩
  obtain ⟨rfl, rfl, m0, m1⟩ := o
  refine ⟨⟨hp.1, hb⟩, fun E u hx => ⟨Or.inl ⟨if_neg (fun q => hx.1 ⟨q.2.1, by have := q.2.2; omega⟩), hx.2.1⟩, by rw [hx.2.2]; exact hp, by rw [hx.2.2]; exact Cm.rfl⟩, fun r2 ρ o => ?_⟩
  obtain ⟨rfl, rfl, n0, n1⟩ := o
  have ok : ∀ r3, r3 = comm (fun m => ρ 9 m 0 0) r r2 → qA ρ (tTwo (cV ρ) r r2) (comm (vEx (cV ρ)) r r2) r3 ρ := fun r3 e => ⟨if_pos ⟨⟨m0, by omega⟩, n0, by omega⟩, e, hp, Cm.rfl⟩
  refine ex_ind (P := fun k => wk (fun m => ρ 9 m 0 0) (fun x => isof (fun m => ρ 9 m 0 0) r2 x) k = comm (fun m => ρ 9 m 0 0) r r2 → P_X4_common_1 K y ρ r2 k) (h := hp.1.ex) (fun k x z ih he => ?_) r (by omega) m1 rfl
  refine b_X4_common_1 C s_X1_descendsFrom ⟨fun q => ok _ ?_, fun q => ⟨by omega, by omega, fun q2 => ⟨by omega, ok _ ?_⟩, fun q2 => ⟨⟨hp.1, ⟨n0, n1⟩, by omega, z⟩, by omega, fun q3 => ⟨by omega, ih (by omega) ?_⟩, fun q3 => ⟨by omega, ok _ ?_⟩⟩⟩⟩
  · rw [← he, wk_neg _ _ q]; omega
  · rw [← he, wk_yes]
    show isof (fun m => ρ 9 m 0 0) r2 k = true
    rw [q2]; exact isof_self _ _
  · have q3' : ¬ dsc (fun m => ρ 9 m 0 0) r2 k = true := q3
    rw [← he, wk_no hp.1.ex (by omega) z]
    show ¬ isof (fun m => ρ 9 m 0 0) r2 k = true
    rw [isof_s hp.1.ex n0 n1 (fun w => q2 w.symm)]; exact q3'
  · have q3' : dsc (fun m => ρ 9 m 0 0) r2 k = true := q3
    rw [← he, wk_yes]
    show isof (fun m => ρ 9 m 0 0) r2 k = true
    rw [isof_s hp.1.ex n0 n1 (fun w => q2 w.symm)]; exact q3'))
