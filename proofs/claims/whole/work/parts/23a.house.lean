/-! THE HOUSE'S METHODS: who comes from whom, whose number, the tape's length, letters -/
def eIO : String := "java/lang/IndexOutOfBoundsException"
def eIA : String := "java/lang/IllegalArgumentException"
def eIS : String := "java/lang/IllegalStateException"
theorem s_X1_origin : H_X1_origin (fun σ m => CO σ ∧ 0 ≤ m ∧ m < σ 2 0 0 0) (fun σ m => org (fun m => σ 9 m 0 0) m) := fun l y σ m hp => m_X1_origin (fun K _ C => b_X1_origin_0 C (by
  obtain ⟨hp, h0, h1⟩ := hp
  have e21 := hp.e21
  refine ex_ind (P := fun k => 0 ≤ k → org (fun m => σ 9 m 0 0) k = org (fun m => σ 9 m 0 0) m → P_X1_origin_1 K y σ k) (h := hp.ex) (fun k a b ih k0 he => ?_) m (by omega) h1 h0 rfl
  have hx := hp.ex1 k0 b
  refine b_X1_origin_1 C ⟨by omega, fun hc => ⟨?_, rfl⟩, fun hc => ih k0 (by show 0 ≤ σ 9 k 0 0; omega) ?_⟩
  · show k = org (fun m => σ 9 m 0 0) m
    rw [← he, org_e (ex := fun m => σ 9 m 0 0) (m := k) (show σ 9 k 0 0 = -1 by omega)]
  · show org (fun m => σ 9 m 0 0) (σ 9 k 0 0) = _
    rw [← he, org_s hp.ex k0 b (show ¬ σ 9 k 0 0 = -1 by omega)]))
theorem s_X1_descendsFrom : H_X1_descendsFrom (fun σ m o => CO σ ∧ (0 ≤ m ∧ m < σ 2 0 0 0) ∧ 0 ≤ o ∧ o < σ 2 0 0 0) (fun σ m o => dsc (fun m => σ 9 m 0 0) m o) := fun l y σ m o hp => m_X1_descendsFrom (fun K _ C => b_X1_descendsFrom_0 C (by
  obtain ⟨hp, ⟨h0, h1⟩, o0, o1⟩ := hp
  have e21 := hp.e21
  have hx := hp.ex1 h0 h1
  refine ⟨by omega, ?_⟩
  refine ex_ind (P := fun k => isof (fun m => σ 9 m 0 0) k o = dsc (fun m => σ 9 m 0 0) m o → P_X1_descendsFrom_1 K y σ o k) (h := hp.ex) (fun k a b ih he => ?_) (σ 9 m 0 0) hx.1 (by omega) rfl
  refine b_X1_descendsFrom_1 C ⟨fun hc => ⟨?_, rfl⟩, fun hc => ⟨by omega, by omega, fun hc2 => ⟨by omega, ih (by omega) ?_⟩, fun hc2 => ⟨?_, rfl⟩⟩⟩
  · show (0 : Int) = if dsc (fun m => σ 9 m 0 0) m o = true then 1 else 0
    rw [← he, isof_neg _ hc o0]; rfl
  · rw [← he, isof_s hp.ex (by omega) b hc2]; rfl
  · show (1 : Int) = if dsc (fun m => σ 9 m 0 0) m o = true then 1 else 0
    rw [← he, hc2, isof_self]; rfl))
theorem s_X4_isLetter : H_X4_isLetter (fun _ x => in32 x) (fun _ x => inB x 0 25) := fun l y σ x hp => m_X4_isLetter (fun K _ C => b_X4_isLetter_0 C (by
  have hp' : -2147483648 ≤ x ∧ x < 2147483648 := hp
  have no : ¬ (0 ≤ x ∧ x ≤ 25) → (0 : Int) = if inB x 0 25 = true then 1 else 0 := fun q => by rw [if_neg (inB_f.mpr q)]
  refine ⟨hp', fun hc => ⟨no (by omega), rfl⟩, fun hc => ⟨fun hd => ⟨no (by omega), rfl⟩, fun hd => ⟨?_, rfl⟩⟩⟩
  show (1 : Int) = if inB x 0 25 = true then 1 else 0
  rw [if_pos (inB_t.mpr (by omega))]))
theorem s_X4_manuscriptOf : H_X4_manuscriptOf (fun σ m => CO σ ∧ in32 m) (fun σ m r σ' => r = m ∧ σ' = σ ∧ 0 ≤ m ∧ m < σ 2 0 0 0) (fun σ m E σ' => ¬ (0 ≤ m ∧ m < σ 2 0 0 0) ∧ E = eIO ∧ σ' = σ) := fun l y σ m hp => m_X4_manuscriptOf (fun K _ C => b_X4_manuscriptOf_0 C s_sizeM s_getM (by
  obtain ⟨hp, hm⟩ := hp
  have e21 := hp.e21
  have n := hp.n
  exact ⟨hm, fun hc => ⟨by omega, rfl, rfl⟩, fun hc => ⟨trivial, by omega, fun hd => ⟨⟨hp, by omega, hd⟩, by omega, rfl, rfl, by omega, hd⟩, fun hd => ⟨fun q => hd q.2, rfl, rfl⟩⟩⟩))
theorem s_X4_scribeOf : H_X4_scribeOf (fun σ m => CO σ ∧ in32 m) (fun σ m r σ' => r = m ∧ σ' = σ ∧ 0 ≤ m ∧ m < σ 3 0 0 0) (fun σ m E σ' => ¬ (0 ≤ m ∧ m < σ 3 0 0 0) ∧ E = eIO ∧ σ' = σ) := fun l y σ m hp => m_X4_scribeOf (fun K _ C => b_X4_scribeOf_0 C s_sizeS s_getS (by
  obtain ⟨hp, hm⟩ := hp
  have e22 := hp.e22
  have n := hp.ns
  exact ⟨hm, fun hc => ⟨by omega, rfl, rfl⟩, fun hc => ⟨trivial, by omega, fun hd => ⟨⟨hp, by omega, hd⟩, by omega, rfl, rfl, by omega, hd⟩, fun hd => ⟨fun q => hd q.2, rfl, rfl⟩⟩⟩))
/-- a call that answers without a change that calls show -/
def qA (σ : CS) (T v r : Int) (σ' : CS) : Prop := T = 0 ∧ r = v ∧ CI σ' ∧ Cm σ σ'
/-- one that throws: E goes with the code T -/
def qX (σ : CS) (T : Int) (e1 e2 e3 : String) (E : String) (σ' : CS) : Prop := ((T = 1 ∧ E = e1) ∨ (T = 2 ∧ E = e2) ∨ (T = 3 ∧ E = e3)) ∧ CI σ' ∧ Cm σ σ'
theorem vN_c (σ : CS) : vN (cV σ) = σ 2 0 0 0 := rfl
theorem s_X4_letter : H_X4_letter (fun σ m p => CI σ ∧ in32 m ∧ in32 p) (fun σ m p r σ' => qA σ (tLetter (cV σ) m p) (cV σ 5 m p 0) r σ') (fun σ m p E σ' => qX σ (tLetter (cV σ) m p) eIO "" "" E σ') := fun l y σ m p hp => m_X4_letter (fun K _ C => b_X4_letter_0 C s_X4_manuscriptOf (by
  obtain ⟨hp, hm, hpp⟩ := hp
  have e21 := hp.1.e21
  have vn := vN_c σ
  refine ⟨⟨hp.1, hm⟩, fun E u hx => ⟨Or.inl ⟨if_neg (fun q => hx.1 ⟨q.1.1, by have := q.1.2; omega⟩), hx.2.1⟩, by rw [hx.2.2]; exact hp, by rw [hx.2.2]; exact Cm.rfl⟩, fun r τ o => ?_⟩
  obtain ⟨rfl, rfl, m0, m1⟩ := o
  have ln := (hp.2.1 (r + 3) (by omega) (by omega)).1
  have ln' : 0 ≤ τ 5 (r + 3) 0 0 ∧ τ 5 (r + 3) 0 0 ≤ 120 := ln
  have e4 := cV4 τ m0
  refine ⟨by omega, hpp, fun hc => ⟨Or.inl ⟨if_neg (fun q => by have := q.2.1; omega), rfl⟩, hp, Cm.rfl⟩, fun hc => ⟨by omega, by omega, fun hd => ⟨by omega, if_pos ⟨⟨m0, by omega⟩, by omega, by omega⟩, (cV5 τ p m0).symm, hp, Cm.rfl⟩, fun hd => ⟨Or.inl ⟨if_neg (fun q => by have := q.2.2; omega), rfl⟩, hp, Cm.rfl⟩⟩⟩))
theorem s_X4_trim : H_X4_trim (fun σ n => CI σ ∧ in32 n) (fun σ n r σ' => tTrim (cV σ) n = 0 ∧ r = n ∧ CI σ' ∧ VE (cV σ') (nTrim (cV σ) n)) (fun σ n E σ' => qX σ (tTrim (cV σ) n) eIA "" "" E σ') := fun l y σ n hp => m_X4_trim (fun K _ C => b_X4_trim_0 C (by
  obtain ⟨hp, hn⟩ := hp
  have tl := hp.1.tl
  have e0 : cV σ 0 0 0 0 = σ 0 0 0 0 := rfl
  refine ⟨hn, fun hc => ⟨Or.inl ⟨if_neg (fun q => by omega), rfl⟩, hp, Cm.rfl⟩, fun hc => ⟨by omega, fun hd => ⟨if_pos ⟨by omega, hd⟩, rfl, ⟨⟨⟨⟨by show 0 ≤ n; omega, by show n ≤ 60; omega⟩, hp.1.1.2⟩, hp.1.2⟩, hp.2.1, hp.2.2⟩, rfl, fun i a b => rfl, rfl, rfl, fun m a b => ⟨eqW.rfl, rfl, rfl, rfl, rfl⟩, fun s a b => ⟨rfl, fun _ _ _ _ _ _ => rfl⟩⟩, fun hd => ⟨Or.inl ⟨if_neg (fun q => hd q.2), rfl⟩, hp, Cm.rfl⟩⟩⟩))
theorem s_X4_habit : H_X4_habit (fun σ s k w => CI σ ∧ in32 s ∧ in32 k ∧ in32 w) (fun σ s k w r σ' => qA σ (tHabit (cV σ) s k w) (cV σ 11 s k w) r σ') (fun σ s k w E σ' => qX σ (tHabit (cV σ) s k w) eIO "" "" E σ') := fun l y σ s k w hp => m_X4_habit (fun K _ C => b_X4_habit_0 C s_X4_scribeOf s_sizeH s_getH s_X0_part (by
  obtain ⟨hp, hs, hk, hw⟩ := hp
  have e22 := hp.1.e22
  have e3 : cV σ 3 0 0 0 = σ 3 0 0 0 := rfl
  have e10 : cV σ 10 s 0 0 = σ 13 s 0 0 := rfl
  refine ⟨⟨hp.1, hs⟩, fun E u hx => ⟨Or.inl ⟨if_neg (fun q => hx.1 ⟨q.1.1, by have := q.1.2; omega⟩), hx.2.1⟩, by rw [hx.2.2]; exact hp, by rw [hx.2.2]; exact Cm.rfl⟩, fun r τ o => ?_⟩
  obtain ⟨rfl, rfl, m0, m1⟩ := o
  have c := hp.1.s m0 m1
  have bad : ∀ (q : ¬ ((0 ≤ r ∧ r < cV τ 3 0 0 0) ∧ (0 ≤ k ∧ k < cV τ 10 r 0 0) ∧ 0 ≤ w ∧ w ≤ 3)), qX τ (tHabit (cV τ) r k w) eIO "" "" eIO τ := fun q => ⟨Or.inl ⟨if_neg q, rfl⟩, hp, Cm.rfl⟩
  refine ⟨hk, fun hc => bad (fun q => by omega), fun hc => ⟨by omega, ⟨m0, by omega⟩, by omega, fun hd => ⟨hw, fun he => bad (fun q => by omega), fun he => ⟨fun hf => ?_, fun hf => bad (fun q => by omega)⟩⟩, fun hd => bad (fun q => by have := q.2.1.2; omega)⟩⟩
  have hi := c.2.2.2 k (by omega) hd
  have hh := c.2.2.1 k (by omega) hd
  refine ⟨⟨hp.1, ⟨m0, m1⟩, by omega, hd⟩, ⟨⟨m0, by omega⟩, hi⟩, ⟨⟨⟨⟨m0, by omega⟩, hi⟩, hh⟩, by omega, by omega⟩, if_pos ⟨⟨m0, by omega⟩, ⟨by omega, by omega⟩, by omega, by omega⟩, rfl, hp, Cm.rfl⟩))
