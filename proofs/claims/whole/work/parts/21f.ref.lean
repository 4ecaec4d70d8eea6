/-! what calls ask of the tree, and distances kept -/
def MI (σ : MS) : Prop := MO σ ∧ KI σ
theorem s_X5_there : H_X5_there (fun σ => MO σ) (fun σ => vThere (mV σ)) := fun l L c σ hp => m_X5_there (fun K _ C => b_X5_there_0 C (by
  have hn := hp.n
  have key := loop_up (P := fun i => P_X5_there_1 K L c σ (sumI (fun m => if ¬ σ 8 m = 0 then 1 else 0) i) i) 0 (σ 3 0) (fun i h0 h1 ih => b_X5_there_1 C ⟨by omega, by omega, fun hc => ⟨by rw [show i = σ 3 0 from by omega]; rfl, rfl⟩, fun hc => ⟨by omega, by have := hp.th h0 (by omega); omega, by have h9 := ih (by omega); rw [sumI_s _ h0] at h9; exact h9⟩⟩) 0 (Int.le_refl _) hn.1
  exact key))
theorem s_X5_origin : H_X5_origin (fun σ m => MO σ ∧ 0 ≤ m ∧ m < σ 3 0) (fun σ m => org (σ 6) m) := fun l L c σ m hp => m_X5_origin (fun K _ C => b_X5_origin_0 C (by
  obtain ⟨hp, h0, h1⟩ := hp
  have hn := hp.n
  refine ex_ind (P := fun k => 0 ≤ k → org (σ 6) k = org (σ 6) m → P_X5_origin_1 K L c σ k) (h := hp.ex) (fun k a b ih k0 he => ?_) m (by omega) h1 h0 rfl
  have hx := hp.ex k k0 b
  refine b_X5_origin_1 C ⟨by omega, by omega, fun hc => ⟨?_, rfl⟩, fun hc => ih k0 (by omega) ?_⟩
  · show k = org (σ 6) m
    rw [← he, org_e hc]
  · rw [← he, org_s hp.ex k0 b hc]))
theorem s_X5_generation : H_X5_generation (fun σ m => MO σ ∧ 0 ≤ m ∧ m < σ 3 0) (fun σ m => gen (σ 6) m) := fun l L c σ m hp => m_X5_generation (fun K _ C => b_X5_generation_0 C (by
  obtain ⟨hp, h0, h1⟩ := hp
  have hn := hp.n
  refine ex_ind (P := fun k => 0 ≤ k → ∀ acc, acc + gen (σ 6) k = gen (σ 6) m → P_X5_generation_1 K L c σ acc k) (h := hp.ex) (fun k a b ih k0 acc he => ?_) m (by omega) h1 h0 0 (by omega)
  have hx := hp.ex k k0 b
  refine b_X5_generation_1 C ⟨by omega, by omega, fun hc => ⟨?_, rfl⟩, fun hc => ih k0 (by omega) _ ?_⟩
  · show acc = gen (σ 6) m
    rw [← he, gen_o hc]; omega
  · rw [← he, gen_s hp.ex k0 b hc]; omega))
theorem s_X5_isOf : H_X5_isOf (fun σ m o => MO σ ∧ (-1 ≤ m ∧ m < σ 3 0) ∧ 0 ≤ o ∧ o < σ 3 0) (fun σ m o => isof (σ 6) m o) := fun l L c σ m o hp => m_X5_isOf (fun K _ C => b_X5_isOf_0 C (by
  obtain ⟨hp, ⟨h0, h1⟩, o0, o1⟩ := hp
  have hn := hp.n
  have fin : ∀ k, -1 ≤ k → k < σ 3 0 → wk (σ 6) (fun x => decide (x = o)) k = wk (σ 6) (fun x => decide (x = o)) m → wk (σ 6) (fun x => decide (x = o)) k = k → P_X5_isOf_2 K L c σ o k := fun k a b e1 e2 => b_X5_isOf_2 C ⟨by omega, by omega, by
    refine ⟨?_, rfl⟩
    show (if k = o then 1 else 0) = if isof (σ 6) m o = true then 1 else 0
    unfold isof
    rw [← e1, e2]
    by_cases hk : k = o
    · rw [if_pos hk, if_pos (decide_eq_true hk)]
    · rw [if_neg hk, if_neg (by rw [decide_eq_true_eq]; exact hk)]⟩
  refine ex_ind (P := fun k => wk (σ 6) (fun x => decide (x = o)) k = wk (σ 6) (fun x => decide (x = o)) m → P_X5_isOf_1 K L c σ o k) (h := hp.ex) (fun k a b ih he => ?_) m h0 h1 rfl
  refine b_X5_isOf_1 C ⟨by omega, fun hc => fin k a b he (wk_neg _ _ (by omega)), fun hc => ⟨by omega, fun hc2 => fin k a b he (wk_yes _ _ (decide_eq_true hc2)), fun hc2 => ⟨by omega, ih (by omega) ?_⟩⟩⟩
  rw [← he, wk_no hp.ex (by omega) b (by rw [decide_eq_true_eq]; exact hc2)]))
theorem MO.d {σ : MS} (h : MO σ) {a b : Int} (a0 : 0 ≤ a) (a1 : a < σ 3 0) (b0 : 0 ≤ b) (b1 : b < σ 3 0) : 0 ≤ vD (mV σ) a b ∧ vD (mV σ) a b ≤ 120 := levW_in (h.tx a0 a1) (h.tx b0 b1)
theorem vD_symm (V : VT) (a b : Int) : vD V a b = vD V b a := levW_symm _ _
theorem s_X5_apart : H_X5_apart (fun σ a b => MI σ ∧ (0 ≤ a ∧ a < σ 3 0) ∧ 0 ≤ b ∧ b < σ 3 0) (fun σ a b r σ' => Sm σ σ' ∧ KI σ' ∧ r = vD (mV σ) a b) := fun l L c σ a b hp => m_X5_apart (fun K _ C => b_X5_apart_0 C s_X5_take s_X5_distanceOf (by
  obtain ⟨⟨hp, hk⟩, ⟨a0, a1⟩, b0, b1⟩ := hp
  have hn := hp.n
  have hla := hp.ln a0 a1
  have hdd := hp.d a0 a1 b0 b1
  obtain ⟨lo, hlo⟩ : ∃ lo, lo = (if b < a then b else a) := ⟨_, rfl⟩
  obtain ⟨hi, hhi⟩ : ∃ hi, hi = (if a < b then b else a) := ⟨_, rfl⟩
  have hc : (lo = a ∧ hi = b ∧ a ≤ b) ∨ (lo = b ∧ hi = a ∧ b < a) := by
    by_cases q : b < a
    · rw [if_pos q] at hlo; rw [if_neg (by omega)] at hhi; exact Or.inr ⟨hlo, hhi, q⟩
    · rw [if_neg q] at hlo
      by_cases q2 : a < b
      · rw [if_pos q2] at hhi; exact Or.inl ⟨hlo, hhi, by omega⟩
      · rw [if_neg q2] at hhi; exact Or.inl ⟨hlo, by omega, by omega⟩
  have hr : 0 ≤ lo ∧ lo ≤ hi ∧ hi < σ 3 0 := by omega
  have ed : vD (mV σ) lo hi = vD (mV σ) a b := by
    rcases hc with ⟨x, y, _⟩ | ⟨x, y, _⟩
    · rw [x, y]
    · rw [x, y, vD_symm]
  rw [← hlo, ← hhi]
  clear hlo hhi hc
  have hkk := hk lo hi hr.1 hr.2.1 (by omega)
  refine ⟨by omega, by omega, by omega, by omega, fun hc => ⟨Sm.rfl, hk, by omega⟩, fun hc => ⟨⟨by omega, hla⟩, ⟨⟨(hp.tx a0 a1).eq (take_w σ a).symm, hp.tx b0 b1⟩, by omega⟩, fun r τ ho => ?_⟩⟩
  obtain ⟨o1, o2⟩ := ho
  have os : Sn σ τ := (take_s σ a).trans o1
  have er : r = vD (mV σ) a b := by rw [o2]; exact levW_eq (take_w σ a) eqW.rfl
  refine ⟨os.sm.up 12 _ (by decide), ?_, by rw [upI_s, er]⟩
  intro x y x0 xy y1
  show upI (τ 12) (24 * lo + hi) r (24 * x + y) = -1 ∨ (y < (upM τ 12 _) 3 0 ∧ upI (τ 12) (24 * lo + hi) r (24 * x + y) = vD (mV (upM τ 12 _)) x y)
  rw [mV_sm (os.sm.up 12 _ (by decide)), show (upM τ 12 (upI (τ 12) (24 * lo + hi) r)) 3 = σ 3 from (os.sm.up 12 _ (by decide)) 3 (by decide)]
  by_cases hxy : 24 * x + y = 24 * lo + hi
  · have e1 : x = lo := by omega
    have e2 : y = hi := by omega
    right
    rw [hxy, upI_s, e1, e2, er, ed]
    exact ⟨hr.2.2, rfl⟩
  · rw [upI_n _ _ hxy, os 12 (by decide)]
    exact hk x y x0 xy y1))
theorem MO.ex1 {σ : MS} (h : MO σ) {m : Int} (h0 : 0 ≤ m) (h1 : m < σ 3 0) : -1 ≤ σ 6 m ∧ σ 6 m < m := h.ex m h0 h1
theorem MI.sm {σ σ' : MS} (h : MI σ) (s : Sm σ σ') (k : KI σ') : MI σ' := ⟨h.1.sm s, k⟩
theorem vTold_0 (V : VT) (m : Int) : vTold V m 0 = V 4 m 0 0 := rfl
theorem vTold_1 (V : VT) (m : Int) : vTold V m 1 = V 6 m 0 0 := rfl
theorem vTold_2 (V : VT) (m : Int) : vTold V m 2 = V 7 m 0 0 := rfl
theorem vTold_3 (V : VT) (m : Int) : vTold V m 3 = V 8 m 0 0 := rfl
theorem vTold_4 (V : VT) (m : Int) : vTold V m 4 = (if ¬ V 9 m 0 0 = 0 then 1 else 0) := rfl
theorem vTold_5 (V : VT) (m : Int) : vTold V m 5 = vCopies V m := rfl
theorem vTold_6 (V : VT) (m : Int) : vTold V m 6 = vDesc V m := rfl
theorem vTold_7 (V : VT) (m : Int) : vTold V m 7 = (if V 6 m 0 0 = -1 then 0 else vD V m (V 6 m 0 0)) := rfl
theorem vTold_8 (V : VT) (m : Int) : vTold V m 8 = vD V m (org (vEx V) m) := rfl
theorem s_X5_told : H_X5_told (fun σ m w => MI σ ∧ (0 ≤ m ∧ m < σ 3 0) ∧ 0 ≤ w ∧ w ≤ 8) (fun σ m w r σ' => Sm σ σ' ∧ KI σ' ∧ r = vTold (mV σ) m w) := fun l L c σ m w hp => m_X5_told (fun K _ C => b_X5_told_0 C (by
  obtain ⟨hp, ⟨m0, m1⟩, w0, w1⟩ := hp
  have hn := hp.1.n
  have hm := hp.1.ex1 m0 m1
  have hth := hp.1.th m0 m1
  have hog := org_in hp.1.ex m0 m1
  refine loop_up (P := fun i => P_X5_told_1 K L c σ m w (sumI (fun k => if σ 6 k = m then 1 else 0) i) (sumI (fun k => if dsc (σ 6) k m = true then 1 else 0) i) i) 0 (σ 3 0) (fun i h0 h1 ih => ?_) 0 (Int.le_refl _) hn.1
  refine b_X5_told_1 C s_X5_origin s_X5_apart s_X5_generation s_X5_isOf ⟨by omega, by omega, fun hc => ⟨by omega, fun q => ⟨⟨hp.1, m0, m1⟩, ⟨hp, ⟨m0, m1⟩, hog.1, by omega⟩, fun r τ ho => ?_⟩, fun q => ⟨by omega, Sm.rfl, hp.2, ?_⟩, fun q => ⟨by omega, Sm.rfl, hp.2, ?_⟩, fun q => ⟨by omega, Sm.rfl, hp.2, ?_⟩, fun q => ⟨⟨hp.1, m0, m1⟩, Sm.rfl, hp.2, ?_⟩, fun q => ⟨by omega, by omega, Sm.rfl, hp.2, ?_⟩, fun q => ⟨Sm.rfl, hp.2, ?_⟩, fun q => ⟨Sm.rfl, hp.2, ?_⟩, fun q => ⟨by omega, by omega, fun q2 => ⟨⟨hp, ⟨m0, m1⟩, by omega, by omega⟩, fun r τ ho => ?_⟩, fun q2 => ⟨Sm.rfl, hp.2, ?_⟩⟩⟩, fun hc => ⟨by omega, ?_, by omega, fun q => ?_, fun q => ⟨⟨hp.1, ⟨by omega, by omega⟩, m0, m1⟩, fun q2 => ?_, fun q2 => ?_⟩⟩⟩
  · refine ⟨ho.1, ho.2.1, ?_⟩
    have q8 : w = 8 := by omega
    subst q8
    rw [ho.2.2, vTold_8]
    rfl
  · subst q; rw [vTold_0]; rfl
  · subst q; rw [vTold_1]; rfl
  · subst q; rw [vTold_2]; rfl
  · subst q; rw [vTold_3]; rfl
  · subst q; rw [vTold_4]; rfl
  · subst q; rw [vTold_5, show i = σ 3 0 from by omega]; rfl
  · subst q; rw [vTold_6, show i = σ 3 0 from by omega]; rfl
  · refine ⟨ho.1, ho.2.1, ?_⟩
    subst q
    rw [ho.2.2, vTold_7]
    exact (if_neg q2).symm
  · subst q
    rw [vTold_7]
    exact (if_pos q2).symm
  · have := hp.1.ex1 h0 (by omega); omega
  · have h9 := ih (by omega)
    rw [sumI_s _ h0, sumI_s _ h0] at h9
    rw [q, dsc_self hp.1.ex m0 m1, show (if false = true then (1 : Int) else 0) = 0 from rfl] at h9
    rw [q]
    exact h9
  · have h9 := ih (by omega)
    rw [sumI_s _ h0, sumI_s _ h0, ← isof_s hp.1.ex h0 (by omega) q, if_neg q2] at h9
    exact h9
  · have h9 := ih (by omega)
    rw [sumI_s _ h0, sumI_s _ h0, ← isof_s hp.1.ex h0 (by omega) q, if_pos q2] at h9
    exact h9))
