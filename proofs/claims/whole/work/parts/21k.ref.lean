/-! the digest -/
theorem sum01 {f : Int → Int} {n : Int} (B : Int) (hB : 0 ≤ B) (hn : 0 ≤ n ∧ n ≤ 24) (h : ∀ k, 0 ≤ k → k < n → 0 ≤ f k ∧ f k ≤ B) : 0 ≤ sumI f n ∧ sumI f n ≤ B * 24 := by
  have a := sumI_in B n hn.1 h
  have b := Int.mul_le_mul_of_nonneg_left hn.2 hB
  exact ⟨a.1, Int.le_trans a.2 b⟩
theorem ite01 {p : Prop} {_ : Decidable p} : 0 ≤ (if p then (1 : Int) else 0) ∧ (if p then (1 : Int) else 0) ≤ 1 := by split <;> decide
theorem vC_in {σ : MS} (h : MO σ) {w : Int} (h0 : 0 ≤ w) (h1 : w ≤ 7) : 0 ≤ vCounted (mV σ) w ∧ vCounted (mV σ) w ≤ 2880 := by
  have hn := h.n
  have hw : w = 0 ∨ w = 1 ∨ w = 2 ∨ w = 3 ∨ w = 4 ∨ w = 5 ∨ w = 6 ∨ w = 7 := by omega
  rcases hw with rfl | rfl | rfl | rfl | rfl | rfl | rfl | rfl
  · rw [vC_0]; show 0 ≤ σ 3 0 ∧ σ 3 0 ≤ 2880; omega
  · rw [vC_1]; have := sum01 (f := fun m => if ¬ σ 8 m = 0 then 1 else 0) 1 (by decide) hn (fun k _ _ => ite01); show 0 ≤ sumI (fun m => if ¬ σ 8 m = 0 then 1 else 0) (σ 3 0) ∧ sumI (fun m => if ¬ σ 8 m = 0 then 1 else 0) (σ 3 0) ≤ 2880; omega
  · rw [vC_2]; have := h.ns; show 0 ≤ σ 9 0 ∧ σ 9 0 ≤ 2880; omega
  · rw [vC_3]; have := sum01 (f := fun m => if mV σ 6 m 0 0 = -1 then 1 else 0) 1 (by decide) hn (fun k _ _ => ite01); show 0 ≤ sumI (fun m => if mV σ 6 m 0 0 = -1 then 1 else 0) (σ 3 0) ∧ sumI (fun m => if mV σ 6 m 0 0 = -1 then 1 else 0) (σ 3 0) ≤ 2880; omega
  · rw [vC_4]; have := maxI_in (f := fun m => gen (σ 6) m) 24 (σ 3 0) (by decide) hn.1 (fun k a b => by have := gen_in h.ex k a b; omega); show 0 ≤ maxI (fun m => gen (σ 6) m) (σ 3 0) ∧ maxI (fun m => gen (σ 6) m) (σ 3 0) ≤ 2880; omega
  · rw [vC_5]; have := h.tp; show 0 ≤ σ 2 0 ∧ σ 2 0 ≤ 2880; omega
  · rw [vC_6]; exact sum01 (f := fun m => if ¬ mV σ 9 m 0 0 = 0 then mV σ 4 m 0 0 else 0) 120 (by decide) hn (fun k a b => by have := h.ln a b; show 0 ≤ (if ¬ mV σ 9 k 0 0 = 0 then σ 5 k else 0) ∧ (if ¬ mV σ 9 k 0 0 = 0 then σ 5 k else 0) ≤ 120; split <;> omega)
  · rw [vC_7]; have := sum01 (f := vRight (mV σ)) 1 (by decide) hn (fun k _ _ => by unfold vRight; exact ite01); show 0 ≤ sumI (vRight (mV σ)) (σ 3 0) ∧ sumI (vRight (mV σ)) (σ 3 0) ≤ 2880; omega
theorem vT_in {σ : MS} (h : MO σ) {m w : Int} (m0 : 0 ≤ m) (m1 : m < σ 3 0) (h0 : 0 ≤ w) (h1 : w ≤ 8) : -1 ≤ vTold (mV σ) m w ∧ vTold (mV σ) m w ≤ 2880 := by
  have hn := h.n
  have hx := h.ex1 m0 m1
  have hw : w = 0 ∨ w = 1 ∨ w = 2 ∨ w = 3 ∨ w = 4 ∨ w = 5 ∨ w = 6 ∨ w = 7 ∨ w = 8 := by omega
  rcases hw with rfl | rfl | rfl | rfl | rfl | rfl | rfl | rfl | rfl
  · rw [vTold_0]; have := h.ln m0 m1; show -1 ≤ σ 5 m ∧ σ 5 m ≤ 2880; omega
  · rw [vTold_1]; show -1 ≤ σ 6 m ∧ σ 6 m ≤ 2880; omega
  · rw [vTold_2]; have := h.sc m0 m1; show -1 ≤ σ 7 m ∧ σ 7 m ≤ 2880; omega
  · rw [vTold_3]; have := gen_in h.ex m m0 m1; show -1 ≤ gen (σ 6) m ∧ gen (σ 6) m ≤ 2880; omega
  · rw [vTold_4]; have := @ite01 (¬ mV σ 9 m 0 0 = 0) inferInstance; omega
  · rw [vTold_5]; have := sum01 (f := fun k => if mV σ 6 k 0 0 = m then 1 else 0) 1 (by decide) hn (fun k _ _ => ite01); show -1 ≤ sumI (fun k => if mV σ 6 k 0 0 = m then 1 else 0) (σ 3 0) ∧ sumI (fun k => if mV σ 6 k 0 0 = m then 1 else 0) (σ 3 0) ≤ 2880; omega
  · rw [vTold_6]; have := sum01 (f := fun k => if dsc (vEx (mV σ)) k m = true then 1 else 0) 1 (by decide) hn (fun k _ _ => ite01); show -1 ≤ sumI (fun k => if dsc (vEx (mV σ)) k m = true then 1 else 0) (σ 3 0) ∧ sumI (fun k => if dsc (vEx (mV σ)) k m = true then 1 else 0) (σ 3 0) ≤ 2880; omega
  · rw [vTold_7]
    by_cases q : mV σ 6 m 0 0 = -1
    · rw [if_pos q]; decide
    · have q' : ¬ σ 6 m = -1 := q
      have := h.d m0 m1 (show 0 ≤ σ 6 m by omega) (by omega)
      rw [if_neg q]; show -1 ≤ vD (mV σ) m (σ 6 m) ∧ vD (mV σ) m (σ 6 m) ≤ 2880; omega
  · rw [vTold_8]
    have o := org_in h.ex m0 m1
    have := h.d m0 m1 o.1 (show org (σ 6) m < σ 3 0 by omega)
    show -1 ≤ vD (mV σ) m (org (σ 6) m) ∧ vD (mV σ) m (org (σ 6) m) ≤ 2880; omega
theorem vG_in (V : VT) {m : Int} (m0 : 0 ≤ m) : -1 ≤ vGuess V m ∧ (vGuess V m < m ∨ vGuess V m = -1) := by
  unfold vGuess
  by_cases q : V 9 m 0 0 = 0
  · rw [if_pos q]; omega
  · rw [if_neg q]; have := gsI_in (fun k => V 9 k 0 0) (fun k => vD V m k) m m0; omega
theorem s_X5_digest : H_X5_digest (fun σ => MI σ) (fun σ r σ' => oQ σ 0 (vDigest (mV σ)) r σ') := fun l L c σ hp => m_X5_digest (fun K _ C => b_X5_digest_0 C (by
  have hn := hp.1.n
  have hns := hp.1.ns
  have hvl := vLen_in (mV σ)
  have fact : ∀ τ : MS, Sm (upM σ 0 (fun _ => 0)) τ → KI τ → MI τ ∧ mV τ = mV σ ∧ τ 3 0 = σ 3 0 ∧ τ 9 0 = σ 9 0 ∧ (∀ s, τ 10 s = σ 10 s) ∧ (∀ k, τ 11 k = σ 11 k) ∧ (∀ m, τ 5 m = σ 5 m) ∧ (∀ k, τ 4 k = σ 4 k) := fun τ a b => ⟨(hp.u0 _).sm a b, by rw [mV_sm a, mV_s0 (S0.u0 σ _)], congrFun (a 3 (by decide)) 0, congrFun (a 9 (by decide)) 0, fun s => congrFun (a 10 (by decide)) s, fun s => congrFun (a 11 (by decide)) s, fun s => congrFun (a 5 (by decide)) s, fun s => congrFun (a 4 (by decide)) s⟩
  have five : ∀ τ : MS, Sm (upM σ 0 (fun _ => 0)) τ → KI τ → ∀ p, 0 ≤ p → p ≤ vLen (mV σ) → P_X5_digest_5 K L c τ (dgI (fun p => vLet (mV σ) p (vLen (mV σ))) (fdI (vDgM (mV σ)) (fdI (vDgS (mV σ)) (vDg1 (mV σ)) (σ 9 0)) (σ 3 0) * 31 + vLen (mV σ)) p) (vLen (mV σ)) p := fun τ a b p p0 p1 => by
    obtain ⟨f1, f2, _⟩ := fact τ a b
    refine loop_up (P := fun p => P_X5_digest_5 K L c τ (dgI (fun p => vLet (mV σ) p (vLen (mV σ))) (fdI (vDgM (mV σ)) (fdI (vDgS (mV σ)) (vDg1 (mV σ)) (σ 9 0)) (σ 3 0) * 31 + vLen (mV σ)) p) (vLen (mV σ)) p) 0 (vLen (mV σ)) (fun p p0 p1 ih => ?_) p p0 p1
    refine b_X5_digest_5 C s_X5_voted ?_
    show (-2147483648 ≤ p ∧ p < 2147483648) ∧ (-2147483648 ≤ vLen (mV σ) ∧ vLen (mV σ) < 2147483648) ∧ ((vLen (mV σ) ≤ p → oQ σ 0 (vDigest (mV σ)) _ τ) ∧ (¬ vLen (mV σ) ≤ p → (MO τ ∧ (0 ≤ p ∧ p < vLen (mV σ)) ∧ vLen (mV σ) = vLen (mV τ)) ∧ (-2147483648 ≤ vLet (mV τ) p (vLen (mV σ)) ∧ vLet (mV τ) p (vLen (mV σ)) < 2147483648) ∧ P_X5_digest_5 K L c τ (_ * 31 + vLet (mV τ) p (vLen (mV σ))) (vLen (mV σ)) (p + 1)))
    rw [f2]
    have lr := vLet_in (mV σ) p (vLen (mV σ))
    refine ⟨by omega, by omega, fun q => oQ.a hp a b rfl (by rw [show p = vLen (mV σ) from by omega]; rfl), fun q => ⟨⟨f1.1, by omega, rfl⟩, by omega, ?_⟩⟩
    have h9 := ih (by omega)
    rw [dgI_s _ _ p0] at h9; exact h9
  have three : ∀ m, 0 ≤ m → m ≤ σ 3 0 → ∀ τ : MS, Sm (upM σ 0 (fun _ => 0)) τ → KI τ → P_X5_digest_3 K L c τ (fdI (vDgM (mV σ)) (fdI (vDgS (mV σ)) (vDg1 (mV σ)) (σ 9 0)) m) m := fun m m0 m1 => by
    refine loop_up (P := fun m => ∀ τ : MS, Sm (upM σ 0 (fun _ => 0)) τ → KI τ → P_X5_digest_3 K L c τ (fdI (vDgM (mV σ)) (fdI (vDgS (mV σ)) (vDg1 (mV σ)) (σ 9 0)) m) m) 0 (σ 3 0) (fun m m0 m1 ih τ a b => ?_) m m0 m1
    obtain ⟨f1, f2, f3, _⟩ := fact τ a b
    refine b_X5_digest_3 C s_X5_votedLength ?_
    show (-2147483648 ≤ m ∧ m < 2147483648) ∧ (-2147483648 ≤ τ 3 0 ∧ τ 3 0 < 2147483648) ∧ ((τ 3 0 ≤ m → MO τ ∧ (-2147483648 ≤ vLen (mV τ) ∧ vLen (mV τ) < 2147483648) ∧ P_X5_digest_5 K L c τ (_ * 31 + vLen (mV τ)) (vLen (mV τ)) 0) ∧ (¬ τ 3 0 ≤ m → P_X5_digest_6 K L c τ _ m 0))
    rw [f2, f3]
    refine ⟨by omega, by omega, fun q => ⟨f1.1, by omega, ?_⟩, fun q => ?_⟩
    · rw [show m = σ 3 0 from by omega]
      exact five τ a b 0 (Int.le_refl _) hvl.1
    · have m1' : m < σ 3 0 := by omega
      have ln := hp.1.ln m0 m1'
      have seven : ∀ d, ∀ τ : MS, Sm (upM σ 0 (fun _ => 0)) τ → KI τ → d = dgI (vTold (mV σ) m) (fdI (vDgM (mV σ)) (fdI (vDgS (mV σ)) (vDg1 (mV σ)) (σ 9 0)) m) 9 * 31 + vGuess (mV σ) m → P_X5_digest_7 K L c τ d m 0 := fun d τ a b ed => by
        obtain ⟨f1, f2, f3, f9, f10, f11, f5, f4⟩ := fact τ a b
        refine loop_up (P := fun p => P_X5_digest_7 K L c τ (dgI (fun p => σ 4 (120 * m + p)) d p) m p) 0 (σ 5 m) (fun p p0 p1 jh => ?_) 0 (Int.le_refl _) ln.1
        refine b_X5_digest_7 C ?_
        rw [f5, f4]
        refine ⟨by omega, by omega, by omega, fun q => ?_, fun q => ?_⟩
        · have h9 := ih (by omega) τ a b
          rw [fdI_s _ _ m0] at h9
          have ep : p = σ 5 m := by omega
          rw [ep, ed]
          exact h9
        · have lt := hp.1.lt m0 m1' p0 (by omega)
          have h9 := jh (by omega)
          rw [dgI_s _ _ p0] at h9
          exact ⟨by omega, by omega, h9⟩
      refine loop_up (P := fun w => ∀ τ : MS, Sm (upM σ 0 (fun _ => 0)) τ → KI τ → P_X5_digest_6 K L c τ (dgI (vTold (mV σ) m) (fdI (vDgM (mV σ)) (fdI (vDgS (mV σ)) (vDg1 (mV σ)) (σ 9 0)) m) w) m w) 0 9 (fun w w0 w1 jh τ a b => ?_) 0 (Int.le_refl _) (by decide) τ a b
      obtain ⟨f1, f2, f3, _⟩ := fact τ a b
      have gi := vG_in (mV σ) m0
      refine b_X5_digest_6 C s_X5_guessOf s_X5_told ⟨by omega, fun q => ⟨⟨f1, m0, by omega⟩, fun r ρ o => ?_⟩, fun q => ⟨⟨f1, ⟨m0, by omega⟩, by omega, by omega⟩, fun r ρ o => ?_⟩⟩
      · have er : r = vGuess (mV σ) m := by rw [o.2.2, f2]
        refine ⟨by omega, seven _ ρ (a.trans o.1) o.2.1 ?_⟩
        rw [er, show w = 9 from by omega]
      · have er : r = vTold (mV σ) m w := by rw [o.2.2, f2]
        have ti := vT_in hp.1 m0 m1' w0 (show w ≤ 8 by omega)
        have h9 := jh (by omega) ρ (a.trans o.1) o.2.1
        rw [dgI_s _ _ w0, ← er] at h9
        exact ⟨by omega, h9⟩
  have two : ∀ s, 0 ≤ s → s ≤ σ 9 0 → ∀ τ : MS, Sm (upM σ 0 (fun _ => 0)) τ → KI τ → P_X5_digest_2 K L c τ (fdI (vDgS (mV σ)) (vDg1 (mV σ)) s) s := fun s s0 s1 => by
    refine loop_up (P := fun s => ∀ τ : MS, Sm (upM σ 0 (fun _ => 0)) τ → KI τ → P_X5_digest_2 K L c τ (fdI (vDgS (mV σ)) (vDg1 (mV σ)) s) s) 0 (σ 9 0) (fun s s0 s1 ih τ a b => ?_) s s0 s1
    obtain ⟨f1, f2, f3, f9, f10, f11, f5, f4⟩ := fact τ a b
    refine b_X5_digest_2 C ?_
    rw [f9, f10]
    refine ⟨by omega, by omega, fun q => ?_, fun q => ⟨by omega, ?_, ?_⟩⟩
    · rw [show s = σ 9 0 from by omega]
      exact three 0 (Int.le_refl _) hn.1 τ a b
    · have := (hp.1.nh s0 (show s < 8 by omega)).1; omega
    · have nh := (hp.1.nh s0 (show s < 8 by omega)).1
      have ha := hp.1.ha s0 (show s < 8 by omega)
      refine loop_up (P := fun k => P_X5_digest_4 K L c τ (dgI (fun k => mV σ 11 s (k / 4) (k % 4)) ((fdI (vDgS (mV σ)) (vDg1 (mV σ)) s * 31) + σ 10 s) k) s k) 0 (4 * σ 10 s) (fun k k0 k1 jh => ?_) 0 (Int.le_refl _) (by omega)
      refine b_X5_digest_4 C ?_
      rw [f10, f11]
      refine ⟨by omega, by omega, by omega, fun q => ?_, fun q => ?_⟩
      · have h9 := ih (by omega) τ a b
        rw [fdI_s _ _ s0] at h9
        rw [show k = 4 * σ 10 s from by omega]
        exact h9
      · have e9 : σ 11 (20 * s + k) = mV σ 11 s (k / 4) (k % 4) := by
          show _ = σ 11 (4 * (5 * s + k / 4) + k % 4)
          rw [show 4 * (5 * s + k / 4) + k % 4 = 20 * s + k from by omega]
        have hk := ha (k / 4) (by omega) (by omega)
        have hv : 0 ≤ haM σ s (k / 4) (k % 4) ∧ haM σ s (k / 4) (k % 4) ≤ 25 := by
          have hq : k % 4 = 0 ∨ k % 4 = 1 ∨ k % 4 = 2 ∨ k % 4 = 3 := by omega
          rcases hq with hq | hq | hq | hq <;> rw [hq] <;> omega
        have hv' : 0 ≤ mV σ 11 s (k / 4) (k % 4) ∧ mV σ 11 s (k / 4) (k % 4) ≤ 25 := hv
        have h9 := jh (by omega)
        rw [dgI_s _ _ k0] at h9
        rw [e9]
        exact ⟨by omega, by omega, h9⟩
  refine loop_up (P := fun w => ∀ τ : MS, Sm (upM σ 0 (fun _ => 0)) τ → KI τ → P_X5_digest_1 K L c τ (dgI (vCounted (mV σ)) 491 w) w) 0 8 (fun w w0 w1 ih τ a b => ?_) 0 (Int.le_refl _) (by decide) _ Sm.rfl (hp.u0 _).2
  obtain ⟨f1, f2, _⟩ := fact τ a b
  refine b_X5_digest_1 C s_X5_counted ⟨by omega, fun q => ?_, fun q => ⟨⟨f1, by omega, by omega⟩, fun r ρ o => ?_⟩⟩
  · rw [show w = 8 from by omega]
    exact two 0 (Int.le_refl _) hns.1 τ a b
  · have er : r = vCounted (mV σ) w := by rw [o.2.2, f2]
    have ci := vC_in hp.1 w0 (show w ≤ 7 by omega)
    have h9 := ih (by omega) ρ (a.trans o.1) o.2.1
    rw [dgI_s _ _ w0, ← er] at h9
    exact ⟨by omega, h9⟩))
