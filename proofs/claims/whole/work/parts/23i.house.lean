/-! find, lose, emend in the house -/
theorem s_X4_find : H_X4_find (fun σ m k a b => CI σ ∧ in32 m ∧ in32 k ∧ in32 a ∧ in32 b) (fun σ m k a b r σ' => qA σ (tFind (cV σ) m k a b) (vFind (cV σ) m k a b) r σ') (fun σ m k a b E σ' => qX σ (tFind (cV σ) m k a b) eIO eIA "" E σ') := fun l y σ m k a b hp => m_X4_find (fun K _ C => b_X4_find_0 C s_X4_manuscriptOf s_X4_isLetter (by
  obtain ⟨hp, hm, hk, ha, hb⟩ := hp
  have vn := vN_c σ
  refine ⟨⟨hp.1, hm⟩, fun E u hx => ⟨Or.inl ⟨if_pos (fun q => hx.1 ⟨q.1, by have := q.2; omega⟩), hx.2.1⟩, by rw [hx.2.2]; exact hp, by rw [hx.2.2]; exact Cm.rfl⟩, fun r τ o => ?_⟩
  obtain ⟨rfl, rfl, m0, m1⟩ := o
  have e21 := hp.1.e21
  have n1 : ¬ ¬ (0 ≤ r ∧ r < vN (cV τ)) := fun q => q ⟨m0, by omega⟩
  have two : (k < 0 ∨ ¬ (0 ≤ a ∧ a ≤ 25) ∨ ¬ (-1 ≤ b ∧ b ≤ 25)) → qX τ (tFind (cV τ) r k a b) eIO eIA "" eIA τ := fun q => ⟨Or.inr (Or.inl ⟨by unfold tFind; rw [if_neg n1, if_pos q], rfl⟩), hp, Cm.rfl⟩
  have ln := hp.2.1.ln m0 m1
  have ok := hp.2.1 (r + 3) (by omega) (by omega)
  unfold in32 at hk hb
  have main : 0 ≤ k → (0 ≤ a ∧ a ≤ 25) → (-1 ≤ b ∧ b ≤ 25) → P_X4_find_1 K y τ a b (r + 3) k := fun hk0 ha0 hb0 => by
    have hT : tFind (cV τ) r k a b = 0 := by unfold tFind; rw [if_neg n1, if_neg (by omega)]
    have ev : vFind (cV τ) r k a b = fnN (tW τ (r + 3)) a b (τ 5 (r + 3) 0 0 - k).toNat k := by unfold vFind; rw [cTx τ m0]; rfl
    have ans : ∀ v, v = fnN (tW τ (r + 3)) a b (τ 5 (r + 3) 0 0 - k).toNat k → qA τ (tFind (cV τ) r k a b) (vFind (cV τ) r k a b) v τ := fun v e => ⟨hT, e.trans ev.symm, hp, Cm.rfl⟩
    have key : ∀ (d : Nat) (i : Int), 0 ≤ i → i < 2147483648 → τ 5 (r + 3) 0 0 - i ≤ d → fnN (tW τ (r + 3)) a b d i = fnN (tW τ (r + 3)) a b (τ 5 (r + 3) 0 0 - k).toNat k → P_X4_find_1 K y τ a b (r + 3) i := by
      intro d
      induction d with
      | zero =>
        intro i h0 h1 hd he
        exact b_X4_find_1 C s_X3_has ⟨by omega, by omega, by omega, fun q => ans _ he, fun q => absurd (show τ 5 (r + 3) 0 0 ≤ i by omega) q⟩
      | succ d ih =>
        intro i h0 h1 hd he
        have ea : 97 + a = a + 97 := by omega
        refine b_X4_find_1 C s_X3_has ⟨by omega, by omega, by omega, fun q => ?_, fun q => ?_⟩
        · refine ans _ ?_
          rw [← he]
          exact (if_neg (show ¬ i < (tW τ (r + 3)).2 by show ¬ i < τ 5 (r + 3) 0 0; omega)).symm
        · have hi : i < (tW τ (r + 3)).2 := by show i < τ 5 (r + 3) 0 0; omega
          have no : ¬ ((tW τ (r + 3)).1 i = 97 + a ∧ (b = -1 ∨ (i + 1 < (tW τ (r + 3)).2 ∧ (tW τ (r + 3)).1 (i + 1) = 97 + b))) → P_X4_find_1 K y τ a b (r + 3) (i + 1) := fun z => by
            rw [fnN_no hi z] at he
            exact ih (i + 1) (by omega) (by omega) (by omega) he
          have yes : ((tW τ (r + 3)).1 i = 97 + a ∧ (b = -1 ∨ (i + 1 < (tW τ (r + 3)).2 ∧ (tW τ (r + 3)).1 (i + 1) = 97 + b))) → qA τ (tFind (cV τ) r k a b) (vFind (cV τ) r k a b) i τ := fun z => by
            rw [fnN_yes hi z] at he
            exact ans _ he
          refine ⟨⟨by omega, ok, i32 (by omega), i32 (by omega)⟩, fun z => no (fun w => ?_), fun z => ?_⟩
          · have z' : ¬ hasW (tW τ (r + 3)) i (97 + a) = true := z
            exact z' (hasW_t.mpr ⟨h0, hi, w.1⟩)
          · have z' : hasW (tW τ (r + 3)) i (97 + a) = true := z
            have w1 := (hasW_t.mp z').2.2
            refine ⟨hb, fun q2 => yes ⟨w1, Or.inl q2⟩, fun q2 => ⟨⟨by omega, ok, i32 (by omega), i32 (by omega)⟩, fun q3 => no (fun w => ?_), fun q3 => yes ⟨w1, Or.inr ?_⟩⟩⟩
            · have q3' : ¬ hasW (tW τ (r + 3)) (i + 1) (97 + b) = true := q3
              exact w.2.elim q2 (fun w => q3' (hasW_t.mpr ⟨by omega, w.1, w.2⟩))
            · have q3' : hasW (tW τ (r + 3)) (i + 1) (97 + b) = true := q3
              exact (hasW_t.mp q3').2
    exact key _ k hk0 hk.2 (by omega) rfl
  refine ⟨by omega, hk, fun hc => ⟨ha, fun q => two (Or.inr (Or.inl (inB_f.mp q))), fun q => ⟨hb, fun q2 => main hc (inB_t.mp q) (by omega), fun q2 => ⟨i32 hb, fun q3 => main hc (inB_t.mp q) (by have := inB_t.mp q3; omega), fun q3 => two (Or.inr (Or.inr (fun w => inB_f.mp q3 (by omega))))⟩⟩⟩, fun hc => two (Or.inl (by omega))⟩))
/-- a call that answers and changes what calls show -/
def qC (T : Int) (Res : Int → VT → Prop) (r : Int) (σ' : CS) : Prop := T = 0 ∧ CI σ' ∧ Res r (cV σ')
theorem s_X4_lose : H_X4_lose (fun σ m => CI σ ∧ in32 m) (fun σ m r σ' => qC (tLose (cV σ) m) (fun r V => r = vThere V ∧ VE V (nLose (cV σ) m)) r σ') (fun σ m E σ' => qX σ (tLose (cV σ) m) eIO eIS "" E σ') := fun l y σ m hp => m_X4_lose (fun K _ C => b_X4_lose_0 C s_X4_manuscriptOf s_X4_thoseThere (by
  obtain ⟨hp, hm⟩ := hp
  have vn := vN_c σ
  refine ⟨⟨hp.1, hm⟩, fun E u hx => ⟨Or.inl ⟨if_pos (fun q => hx.1 ⟨q.1, by have := q.2; omega⟩), hx.2.1⟩, by rw [hx.2.2]; exact hp, by rw [hx.2.2]; exact Cm.rfl⟩, fun r τ o => ?_⟩
  obtain ⟨rfl, rfl, m0, m1⟩ := o
  have e21 := hp.1.e21
  have c := (hp.1.m m0 m1).1
  have n1 : ¬ ¬ (0 ≤ r ∧ r < vN (cV τ)) := fun q => q ⟨m0, by omega⟩
  refine ⟨by omega, by omega, fun hg => ?_, fun hg => ⟨Or.inr (Or.inl ⟨by unfold tLose; rw [if_neg n1]; exact if_pos hg, rfl⟩), hp, Cm.rfl⟩⟩
  have hT : tLose (cV τ) r = 0 := by unfold tLose; rw [if_neg n1]; exact if_neg hg
  have hCO : CO (upC τ 12 (up1 (τ 12) r 0)) := ⟨hp.1.1, hp.1.2.1, fun k a b => ⟨?_, (hp.1.m a b).2⟩, hp.1.2.2.2⟩
  · refine ⟨hCO, hT, ⟨hCO, hp.2.1, fun a b x z w v => ?_⟩, rfl, rfl, fun i a b => rfl, rfl, rfl, fun k a b => ⟨eqW.rfl, rfl, rfl, rfl, ?_⟩, fun s a b => ⟨rfl, fun _ _ _ _ _ _ => rfl⟩⟩
    · rcases hp.2.2 a b x z w v with q | q
      · exact Or.inl q
      · exact Or.inr q
    · have e9 : nLose (cV τ) r 9 k 0 0 = if (9 = 9 ∧ k = r) then 0 else τ 12 k 0 0 := rfl
      rw [e9]
      show up1 (τ 12) r 0 k 0 0 = _
      by_cases hk : k = r
      · rw [if_pos ⟨rfl, hk⟩, hk, up1_s]
      · rw [if_neg (fun q => hk q.2), up1_n _ _ _ _ hk]
  · show up1 (τ 12) r 0 k 0 0 = 0 ∨ up1 (τ 12) r 0 k 0 0 = 1
    by_cases hk : k = r
    · rw [hk, up1_s]; exact Or.inl rfl
    · rw [up1_n _ _ _ _ hk]; exact (hp.1.m a b).1))
theorem s_X4_emend : H_X4_emend (fun σ m o place many => CI σ ∧ in32 m ∧ in32 o ∧ in32 place ∧ in32 many) (fun σ m o place many r σ' => qC (tEmend (cV σ) m o place many) (fun r V => r = vOthers (cV σ) m o place many ∧ VE V (nEmend (cV σ) m o place many)) r σ') (fun σ m o place many E σ' => qX σ (tEmend (cV σ) m o place many) eIO eIA eIS E σ') := fun l y σ m o place many hp => m_X4_emend (fun K _ C => b_X4_emend_0 C s_X4_manuscriptOf s_X4_forgetMeasures s_X3_takeFrom (by
  obtain ⟨hp, hm, ho, hpl, hma⟩ := hp
  have vn := vN_c σ
  refine ⟨⟨hp.1, hm⟩, fun E u hx => ⟨Or.inl ⟨if_pos (Or.inl (fun q => hx.1 ⟨q.1, by have := q.2; omega⟩)), hx.2.1⟩, by rw [hx.2.2]; exact hp, by rw [hx.2.2]; exact Cm.rfl⟩, fun r τ w => ?_⟩
  obtain ⟨rfl, rfl, m0, m1⟩ := w
  refine ⟨⟨hp.1, ho⟩, fun E u hx => ⟨Or.inl ⟨if_pos (Or.inr (fun q => hx.1 ⟨q.1, by have := q.2; omega⟩)), hx.2.1⟩, by rw [hx.2.2]; exact hp, by rw [hx.2.2]; exact Cm.rfl⟩, fun r5 ρ w => ?_⟩
  obtain ⟨rfl, rfl, o0, o1⟩ := w
  have e21 := hp.1.e21
  have n := hp.1.n
  have c1 := (hp.1.m m0 m1).1
  have c2 := (hp.1.m o0 o1).1
  have l1 := hp.2.1.ln m0 m1
  have l2 := hp.2.1.ln o0 o1
  have f1 := cV4 ρ m0
  have f2 := cV4 ρ o0
  have n1 : ¬ (¬ (0 ≤ r ∧ r < vN (cV ρ)) ∨ ¬ (0 ≤ r5 ∧ r5 < vN (cV ρ))) := by omega
  have two : (¬ (1 ≤ many ∧ many ≤ 120) ∨ place < 0 ∨ cV ρ 4 r 0 0 < place + many ∨ cV ρ 4 r5 0 0 < place + many) → qX ρ (tEmend (cV ρ) r r5 place many) eIO eIA eIS eIA ρ := fun q => ⟨Or.inr (Or.inl ⟨by unfold tEmend; rw [if_neg n1, if_pos q], rfl⟩), hp, Cm.rfl⟩
  unfold in32 at hpl hma
  refine ⟨hma, fun q => two (Or.inl (by omega)), fun q => ⟨fun q2 => ⟨hpl, fun q3 => two (Or.inr (Or.inl q3)), fun q3 => ⟨by omega, by omega, by omega, fun q4 => two (Or.inr (Or.inr (Or.inl (by omega)))), fun q4 => ⟨by omega, by omega, by omega, fun q5 => ?_, fun q5 => two (Or.inr (Or.inr (Or.inr (by omega))))⟩⟩⟩, fun q2 => two (Or.inl (by omega))⟩⟩
  have n2 : ¬ (¬ (1 ≤ many ∧ many ≤ 120) ∨ place < 0 ∨ cV ρ 4 r 0 0 < place + many ∨ cV ρ 4 r5 0 0 < place + many) := by omega
  have three : (ρ 12 r 0 0 = 0 ∨ ρ 12 r5 0 0 = 0) → qX ρ (tEmend (cV ρ) r r5 place many) eIO eIA eIS eIS ρ := fun q => ⟨Or.inr (Or.inr ⟨by unfold tEmend; rw [if_neg n1, if_neg n2]; exact if_pos q, rfl⟩), hp, Cm.rfl⟩
  refine ⟨by omega, fun q6 => three (Or.inl q6), fun q6 => ⟨by omega, fun q7 => ⟨by omega, fun r18 φ w => ?_⟩, fun q7 => three (Or.inr q7)⟩⟩
  have hT : tEmend (cV ρ) r r5 place many = 0 := by unfold tEmend; rw [if_neg n1, if_neg n2]; exact if_neg (fun z => z.elim q6 q7)
  obtain ⟨w1, w2⟩ := w
  have g : ∀ c k i j, ¬ c = 4 → φ c k i j = ρ c k i j := fun c k i j x => by rw [w1 c x]
  have tw : ∀ k, tW φ k = tW ρ k := fun k => by unfold tW; rw [w1 5 (by decide), w1 6 (by decide)]
  have ok1 := hp.2.1 (r + 3) (by omega) (by omega)
  have ok2 := hp.2.1 (r5 + 3) (by omega) (by omega)
  refine ⟨by rw [g 21 0 0 0 (by decide)]; omega, by rw [g 21 0 0 0 (by decide)]; omega, ⟨by rw [g 21 0 0 0 (by decide)]; omega, by rw [g 21 0 0 0 (by decide)]; omega, by rw [tw]; exact ok1, by rw [tw]; exact ok2, by omega, by rw [g 5 _ _ _ (by decide)]; omega, by rw [g 5 _ _ _ (by decide)]; omega⟩, by rw [g 21 0 0 0 (by decide)]; omega, fun r24 ω w => ?_⟩
  obtain ⟨u1, u2, u3⟩ := w
  have v : ∀ c k i j, ¬ c = 4 → ¬ c = 6 → ω c k i j = ρ c k i j := fun c k i j x z => by rw [u1 c z, w1 c x]
  have v6 : ∀ i p, ω 6 i p 0 = if i = r + 3 ∧ place ≤ p ∧ p < place + many then ρ 6 (r5 + 3) p 0 else ρ 6 i p 0 := fun i p => by rw [u2 i p, g 6 _ _ _ (by decide), g 6 _ _ _ (by decide)]
  have vf : ∀ c, ¬ c = 4 → ¬ c = 6 → ω c = ρ c := fun c x z => by rw [u1 c z, w1 c x]
  have hCO : CO ω := by
    have hC := hp.1
    unfold CO cHa at hC ⊢
    rw [vf 0 (by decide) (by decide), vf 1 (by decide) (by decide), vf 2 (by decide) (by decide), vf 3 (by decide) (by decide), vf 9 (by decide) (by decide), vf 10 (by decide) (by decide), vf 11 (by decide) (by decide), vf 12 (by decide) (by decide), vf 13 (by decide) (by decide), vf 14 (by decide) (by decide), vf 18 (by decide) (by decide), vf 19 (by decide) (by decide), vf 20 (by decide) (by decide), vf 21 (by decide) (by decide), vf 22 (by decide) (by decide), vf 23 (by decide) (by decide), vf 24 (by decide) (by decide), vf 25 (by decide) (by decide), vf 26 (by decide) (by decide), vf 27 (by decide) (by decide)]
    exact hC
  have same : ∀ k, ¬ k = r + 3 → tW ω k = tW ρ k := fun k hk => Prod.ext (funext fun p => by show ω 6 k p 0 = ρ 6 k p 0; rw [v6, if_neg (fun q => hk q.1)]) (v 5 k 0 0 (by decide) (by decide))
  refine ⟨hT, ⟨hCO, fun k a b => ?_, fun a b x0 x1 z0 z1 => ?_⟩, ?_, v 0 0 0 0 (by decide) (by decide), fun i a b => v 1 i 0 0 (by decide) (by decide), v 2 0 0 0 (by decide) (by decide), v 3 0 0 0 (by decide) (by decide), fun k a b => ⟨⟨?_, fun p x z => ?_⟩, v 9 k 0 0 (by decide) (by decide), v 10 k 0 0 (by decide) (by decide), v 11 k 0 0 (by decide) (by decide), v 12 k 0 0 (by decide) (by decide)⟩, fun s a b => ⟨v 13 s 0 0 (by decide) (by decide), fun k x z p p0 p1 => ?_⟩⟩
  · rw [v 2 0 0 0 (by decide) (by decide)] at b
    have okk := hp.2.1 k a b
    refine ⟨by show 0 ≤ ω 5 k 0 0 ∧ ω 5 k 0 0 ≤ 120; rw [v 5 k 0 0 (by decide) (by decide)]; exact okk.1, fun p x z => ?_⟩
    have z' : p < ω 5 k 0 0 := z
    rw [v 5 k 0 0 (by decide) (by decide)] at z'
    show 97 ≤ ω 6 k p 0 ∧ ω 6 k p 0 ≤ 122
    rw [v6]
    by_cases hq : k = r + 3 ∧ place ≤ p ∧ p < place + many
    · rw [if_pos hq]; exact ok2.2 p x (by show p < ρ 5 (r5 + 3) 0 0; omega)
    · rw [if_neg hq]; exact okk.2 p x z'
  · rw [v 2 0 0 0 (by decide) (by decide)] at x1 z1
    have e4 : ω 4 a b 0 = if a = r ∨ b = r then -1 else ρ 4 a b 0 := by rw [u1 4 (by decide)]; exact w2 a b x0 (by omega) z0 (by omega)
    rw [e4]
    by_cases hq : a = r ∨ b = r
    · rw [if_pos hq]; exact Or.inl rfl
    · rw [if_neg hq]
      rcases hp.2.2 a b x0 x1 z0 z1 with z | z
      · exact Or.inl z
      · refine Or.inr ?_
        rw [z, cD x0 z0, cD x0 z0, same _ (by omega), same _ (by omega)]
  · rw [u3]
    exact sumI_cong many (fun i _ _ => by rw [g 6 _ _ _ (by decide), g 6 _ _ _ (by decide), cV5 ρ _ m0, cV5 ρ _ o0])
  · show cV ω 4 k 0 0 = cV ρ 4 k 0 0
    rw [cV4 ω a, cV4 ρ a]; exact v 5 _ _ _ (by decide) (by decide)
  · show cV ω 5 k p 0 = nEmend (cV ρ) r r5 place many 5 k p 0
    have e9 : nEmend (cV ρ) r r5 place many 5 k p 0 = if (5 : Nat) = 5 ∧ k = r ∧ place ≤ p ∧ p < place + many then cV ρ 5 r5 p 0 else cV ρ 5 k p 0 := rfl
    rw [e9, cV5 ω p a, v6, cV5 ρ p o0, cV5 ρ p a]
    by_cases hq : k = r ∧ place ≤ p ∧ p < place + many
    · rw [if_pos ⟨by omega, hq.2⟩, if_pos ⟨rfl, hq⟩]
    · rw [if_neg (fun w => hq ⟨by omega, w.2⟩), if_neg (fun w => hq w.2)]
  · show ω 14 s (ω 24 s k 0) p = ρ 14 s (ρ 24 s k 0) p
    rw [vf 24 (by decide) (by decide)]; exact v 14 _ _ _ (by decide) (by decide)))
