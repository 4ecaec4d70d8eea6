/-! the reference's calls that change nothing -/
def oQ (σ : MS) (T v : Int) (r : Int) (σ' : MS) : Prop := MI σ' ∧ mV σ' = mV σ ∧ σ' 0 0 = T ∧ (T = 0 → r = v)
def S0 (σ σ' : MS) : Prop := ∀ k, 1 ≤ k → k < 12 → σ' k = σ k
theorem mV_s0 {σ σ' : MS} (s : S0 σ σ') : mV σ' = mV σ := by
  unfold mV
  rw [s 1 (by decide) (by decide), s 2 (by decide) (by decide), s 3 (by decide) (by decide), s 4 (by decide) (by decide), s 5 (by decide) (by decide), s 6 (by decide) (by decide), s 7 (by decide) (by decide), s 8 (by decide) (by decide), s 9 (by decide) (by decide), s 10 (by decide) (by decide), s 11 (by decide) (by decide)]
theorem MO.s0 {σ σ' : MS} (h : MO σ) (s : S0 σ σ') : MO σ' := by
  unfold MO txM haM at *
  rw [s 1 (by decide) (by decide), s 2 (by decide) (by decide), s 3 (by decide) (by decide), s 4 (by decide) (by decide), s 5 (by decide) (by decide), s 6 (by decide) (by decide), s 7 (by decide) (by decide), s 8 (by decide) (by decide), s 9 (by decide) (by decide), s 10 (by decide) (by decide), s 11 (by decide) (by decide)]
  exact h
theorem KI.s0 {σ σ' : MS} (h : KI σ) (s : S0 σ σ') (e : σ' 12 = σ 12) : KI σ' := by
  unfold KI at *
  rw [e, s 3 (by decide) (by decide), mV_s0 s]
  exact h
theorem S0.u0 (σ : MS) (f : Int → Int) : S0 σ (upM σ 0 f) := fun k h _ => upM_n _ _ (by omega)
theorem S0.uu (σ : MS) (f g : Int → Int) : S0 σ (upM (upM σ 0 f) 0 g) := fun k h _ => by rw [upM_n _ _ (by omega), upM_n _ _ (by omega)]
theorem MI.u0 {σ : MS} (h : MI σ) (f : Int → Int) : MI (upM σ 0 f) := ⟨h.1.s0 (S0.u0 σ f), h.2.s0 (S0.u0 σ f) rfl⟩
theorem MI.uu {σ : MS} (h : MI σ) (f g : Int → Int) : MI (upM (upM σ 0 f) 0 g) := (h.u0 f).u0 g
/-- it throws -/
theorem oQ.t {σ : MS} (h : MI σ) {T v k : Int} (hk : T = k) (hn : ¬ k = 0) : oQ σ T v 0 (upM (upM σ 0 (fun _ => 0)) 0 (fun _ => k)) := ⟨h.uu _ _, mV_s0 (S0.uu σ _ _), hk.symm, fun q => absurd (hk.symm.trans q) hn⟩
/-- it answers -/
theorem oQ.a {σ σ' : MS} (h : MI σ) {T v r : Int} (hs : Sm (upM σ 0 (fun _ => 0)) σ') (hk : KI σ') (hT : T = 0) (hr : r = v) : oQ σ T v r σ' := by
  refine ⟨(h.u0 _).sm hs hk, ?_, ?_, fun _ => hr⟩
  · rw [mV_sm hs, mV_s0 (S0.u0 σ _)]
  · rw [hs 0 (by decide), hT]; rfl
theorem s_X5_isText' : H_X5_isText (fun σ m => MI σ ∧ in32 m) (fun σ m => inB m 0 (σ 3 0 - 1)) := fun l L c σ m hp => s_X5_isText l L c σ m ⟨hp.2, by have := hp.1.1.n; unfold in32; omega⟩
theorem s_X5_isScribe' : H_X5_isScribe (fun σ m => MI σ ∧ in32 m) (fun σ m => inB m 0 (σ 9 0 - 1)) := fun l L c σ m hp => s_X5_isScribe l L c σ m ⟨hp.2, by have := hp.1.1.ns; unfold in32; omega⟩
theorem inB_f {v lo hi : Int} : ¬ inB v lo hi = true ↔ ¬ (lo ≤ v ∧ v ≤ hi) := by rw [inB_t]
theorem itT {σ : MS} {m : Int} : inB m 0 (σ 3 0 - 1) = true ↔ 0 ≤ m ∧ m < vN (mV σ) := by
  rw [inB_t, show vN (mV σ) = σ 3 0 from rfl]
  omega
theorem itS {σ : MS} {m : Int} : inB m 0 (σ 9 0 - 1) = true ↔ 0 ≤ m ∧ m < mV σ 3 0 0 0 := by
  rw [inB_t, show mV σ 3 0 0 0 = σ 9 0 from rfl]
  omega
theorem lt32 {a : Int} (h : 97 ≤ a ∧ a ≤ 122) : -2147483648 ≤ a ∧ a < 2147483648 := ⟨by omega, by omega⟩
theorem i32 {a : Int} (h : -2147483648 ≤ a ∧ a < 2147483648) : in32 a := h
theorem s_X5_letter : H_X5_letter (fun σ m p => MI σ ∧ in32 m ∧ in32 p) (fun σ m p r σ' => oQ σ (tLetter (mV σ) m p) (mV σ 5 m p 0) r σ') := fun l L c σ m p hp => m_X5_letter (fun K _ C => b_X5_letter_0 C s_X5_isText' s_X5_no s_X5_isIn (by
  obtain ⟨hp, hm, hpl⟩ := hp
  have hn := hp.1.n
  have e3 : vN (mV σ) = σ 3 0 := rfl
  have e5 : mV σ 4 m 0 0 = σ 5 m := rfl
  refine ⟨⟨hp.u0 _, hm⟩, fun hc => ⟨trivial, oQ.t hp (if_neg (fun q => hc ((itT (σ := σ)).mpr q.1))) (by decide)⟩, fun hc => ?_⟩
  have hc' := (itT (σ := σ)).mp hc
  have ln := hp.1.ln hc'.1 hc'.2
  refine ⟨by omega, ⟨hpl, i32 (by decide), i32 (by omega)⟩, fun hd => ⟨trivial, oQ.t hp (if_neg (fun q => inB_f.mp hd (by omega))) (by decide)⟩, fun hd => ?_⟩
  have hd' := inB_t.mp hd
  exact ⟨by omega, oQ.a hp Sm.rfl (hp.u0 _).2 (if_pos ⟨hc', by omega⟩) rfl⟩))
theorem s_X5_habit : H_X5_habit (fun σ s k w => MI σ ∧ in32 s ∧ in32 k ∧ in32 w) (fun σ s k w r σ' => oQ σ (tHabit (mV σ) s k w) (mV σ 11 s k w) r σ') := fun l L c σ s k w hp => m_X5_habit (fun K _ C => b_X5_habit_0 C s_X5_isScribe' s_X5_no s_X5_isIn (by
  obtain ⟨hp, hs, hk, hw⟩ := hp
  have hn := hp.1.ns
  have e3 : mV σ 3 0 0 0 = σ 9 0 := rfl
  have e5 : mV σ 10 s 0 0 = σ 10 s := rfl
  refine ⟨⟨hp.u0 _, hs⟩, fun hc => ⟨trivial, oQ.t hp (if_neg (fun q => hc ((itS (σ := σ)).mpr q.1))) (by decide)⟩, fun hc => ?_⟩
  have hc' := (itS (σ := σ)).mp hc
  have nh := (hp.1.nh hc'.1 (by omega)).1
  refine ⟨by omega, ⟨hk, i32 (by decide), i32 (by omega)⟩, fun hd => ⟨trivial, oQ.t hp (if_neg (fun q => inB_f.mp hd (by omega))) (by decide)⟩, fun hd => ?_⟩
  have hd' := inB_t.mp hd
  refine ⟨⟨hw, i32 (by decide), i32 (by decide)⟩, fun he => ⟨trivial, oQ.t hp (if_neg (fun q => inB_f.mp he (by omega))) (by decide)⟩, fun he => ?_⟩
  have he' := inB_t.mp he
  exact ⟨by omega, oQ.a hp Sm.rfl (hp.u0 _).2 (if_pos ⟨hc', by omega, by omega⟩) rfl⟩))
theorem s_X5_manuscript : H_X5_manuscript (fun σ m w => MI σ ∧ in32 m ∧ in32 w) (fun σ m w r σ' => oQ σ (tManu (mV σ) m w) (vTold (mV σ) m w) r σ') := fun l L c σ m w hp => m_X5_manuscript (fun K _ C => b_X5_manuscript_0 C s_X5_isText' s_X5_no s_X5_isIn s_X5_told (by
  obtain ⟨hp, hm, hw⟩ := hp
  refine ⟨⟨hp.u0 _, hm⟩, fun hc => ⟨trivial, oQ.t hp (if_neg (fun q => hc ((itT (σ := σ)).mpr q.1))) (by decide)⟩, fun hc => ?_⟩
  have hc' := (itT (σ := σ)).mp hc
  refine ⟨⟨hw, i32 (by decide), i32 (by decide)⟩, fun he => ⟨trivial, oQ.t hp (if_neg (fun q => inB_f.mp he (by omega))) (by decide)⟩, fun he => ?_⟩
  have he' := inB_t.mp he
  exact ⟨⟨hp.u0 _, hc', he'⟩, fun r τ o => oQ.a hp o.1 o.2.1 (if_pos ⟨hc', he'⟩) o.2.2⟩))
theorem s_X5_count : H_X5_count (fun σ w => MI σ ∧ in32 w) (fun σ w r σ' => oQ σ (tCount w) (vCounted (mV σ) w) r σ') := fun l L c σ w hp => m_X5_count (fun K _ C => b_X5_count_0 C s_X5_isIn s_X5_no s_X5_counted (by
  obtain ⟨hp, hw⟩ := hp
  refine ⟨⟨hw, i32 (by decide), i32 (by decide)⟩, fun he => ⟨trivial, oQ.t hp (if_neg (fun q => inB_f.mp he q)) (by decide)⟩, fun he => ?_⟩
  have he' := inB_t.mp he
  exact ⟨⟨hp.u0 _, he'⟩, fun r τ o => oQ.a hp o.1 o.2.1 (if_pos he') o.2.2⟩))
theorem s_X5_distance : H_X5_distance (fun σ a b => MI σ ∧ in32 a ∧ in32 b) (fun σ a b r σ' => oQ σ (tTwo (mV σ) a b) (vD (mV σ) a b) r σ') := fun l L c σ a b hp => m_X5_distance (fun K _ C => b_X5_distance_0 C s_X5_isText' s_X5_no s_X5_apart (by
  obtain ⟨hp, ha, hb⟩ := hp
  refine ⟨⟨hp.u0 _, ha⟩, fun hc => ⟨trivial, oQ.t hp (if_neg (fun q => hc ((itT (σ := σ)).mpr q.1))) (by decide)⟩, fun hc => ?_⟩
  have hc' := (itT (σ := σ)).mp hc
  refine ⟨⟨hp.u0 _, hb⟩, fun hd => ⟨trivial, oQ.t hp (if_neg (fun q => hd ((itT (σ := σ)).mpr q.2))) (by decide)⟩, fun hd => ?_⟩
  have hd' := (itT (σ := σ)).mp hd
  exact ⟨⟨hp.u0 _, hc', hd'⟩, fun r τ o => oQ.a hp o.1 o.2.1 (if_pos ⟨hc', hd'⟩) o.2.2⟩))
theorem s_X5_guess : H_X5_guess (fun σ a => MI σ ∧ in32 a) (fun σ a r σ' => oQ σ (tOne (mV σ) a) (vGuess (mV σ) a) r σ') := fun l L c σ a hp => m_X5_guess (fun K _ C => b_X5_guess_0 C s_X5_isText' s_X5_no s_X5_guessOf (by
  obtain ⟨hp, ha⟩ := hp
  refine ⟨⟨hp.u0 _, ha⟩, fun hc => ⟨trivial, oQ.t hp (if_neg (fun q => hc ((itT (σ := σ)).mpr q))) (by decide)⟩, fun hc => ?_⟩
  have hc' := (itT (σ := σ)).mp hc
  exact ⟨⟨hp.u0 _, hc'⟩, fun r τ o => oQ.a hp o.1 o.2.1 (if_pos hc') o.2.2⟩))
theorem s_X5_common : H_X5_common (fun σ a b => MI σ ∧ in32 a ∧ in32 b) (fun σ a b r σ' => oQ σ (tTwo (mV σ) a b) (comm (vEx (mV σ)) a b) r σ') := fun l L c σ a b hp => m_X5_common (fun K _ C => b_X5_common_0 C s_X5_isText' s_X5_no (by
  obtain ⟨hp, ha, hb⟩ := hp
  have hn := hp.1.n
  refine ⟨⟨hp.u0 _, ha⟩, fun hc => ⟨trivial, oQ.t hp (if_neg (fun q => hc ((itT (σ := σ)).mpr q.1))) (by decide)⟩, fun hc => ?_⟩
  have hc' := (itT (σ := σ)).mp hc
  refine ⟨⟨hp.u0 _, hb⟩, fun hd => ?_, fun hd => ⟨trivial, oQ.t hp (if_neg (fun q => hd ((itT (σ := σ)).mpr q.2))) (by decide)⟩⟩
  have hd' := (itT (σ := σ)).mp hd
  have e3 : vN (mV σ) = σ 3 0 := rfl
  refine ex_ind (P := fun k => wk (σ 6) (fun x => isof (σ 6) b x) k = comm (σ 6) a b → P_X5_common_1 K L c (upM σ 0 (fun _ => 0)) b k) (h := hp.1.ex) (fun k x y ih he => ?_) a (by omega) hc'.2 rfl
  refine b_X5_common_1 C s_X5_isOf ⟨by omega, fun q => oQ.a hp Sm.rfl (hp.u0 _).2 (if_pos ⟨hc', hd'⟩) ?_, fun q => ⟨⟨(hp.u0 _).1, ⟨by show -1 ≤ b; omega, by show b < σ 3 0; omega⟩, by omega, y⟩, fun q2 => oQ.a hp Sm.rfl (hp.u0 _).2 (if_pos ⟨hc', hd'⟩) ?_, fun q2 => ⟨by omega, ih (by omega) ?_⟩⟩⟩
  · show k = comm (σ 6) a b
    rw [← he, wk_neg _ _ (by omega)]
  · have q2' : isof (σ 6) b k = true := q2
    show k = comm (σ 6) a b
    rw [← he, wk_yes _ _ q2']
  · have q2' : ¬ isof (σ 6) b k = true := q2
    rw [← he, wk_no hp.1.ex (by omega) y q2']))
theorem s_X5_find : H_X5_find (fun σ m k a b => MI σ ∧ in32 m ∧ in32 k ∧ in32 a ∧ in32 b) (fun σ m k a b r σ' => oQ σ (tFind (mV σ) m k a b) (vFind (mV σ) m k a b) r σ') := fun l L c σ m k a b hp => m_X5_find (fun K _ C => b_X5_find_0 C s_X5_isText' s_X5_no s_X5_isIn (by
  obtain ⟨hp, hm, hk, ha, hb⟩ := hp
  have hn := hp.1.n
  have e3 : vN (mV σ) = σ 3 0 := rfl
  refine ⟨⟨hp.u0 _, hm⟩, fun hc => ?_, fun hc => ⟨trivial, oQ.t hp (if_pos (fun q => hc ((itT (σ := σ)).mpr q))) (by decide)⟩⟩
  have hc' := (itT (σ := σ)).mp hc
  have two : (k < 0 ∨ ¬ (0 ≤ a ∧ a ≤ 25) ∨ ¬ (-1 ≤ b ∧ b ≤ 25)) → tFind (mV σ) m k a b = 2 := fun q => by unfold tFind; rw [if_neg (fun z => z hc'), if_pos q]
  unfold in32 at hk
  refine ⟨hk, fun q => ⟨trivial, oQ.t hp (two (Or.inl q)) (by decide)⟩, fun q => ⟨⟨ha, i32 (by decide), i32 (by decide)⟩, fun q2 => ⟨trivial, oQ.t hp (two (Or.inr (Or.inl (inB_f.mp q2)))) (by decide)⟩, fun q2 => ⟨⟨hb, i32 (by decide), i32 (by decide)⟩, fun q3 => ?_, fun q3 => ⟨trivial, oQ.t hp (two (Or.inr (Or.inr (inB_f.mp q3)))) (by decide)⟩⟩⟩⟩
  have q2' := inB_t.mp q2
  have q3' := inB_t.mp q3
  have hT : tFind (mV σ) m k a b = 0 := by unfold tFind; rw [if_neg (fun z => z hc'), if_neg (by omega)]
  have ln := hp.1.ln hc'.1 hc'.2
  have key : ∀ (d : Nat) (i : Int), 0 ≤ i → i < 2147483648 → σ 5 m - i ≤ d → fnN (txM σ m) a b d i = vFind (mV σ) m k a b → P_X5_find_1 K L c (upM σ 0 (fun _ => 0)) m a b i := by
    intro d
    induction d with
    | zero =>
      intro i h0 h1 hd he
      exact b_X5_find_1 C ⟨by omega, by omega, i32 (by show -2147483648 ≤ σ 5 m ∧ σ 5 m < 2147483648; omega), fun q => oQ.a hp Sm.rfl (hp.u0 _).2 hT he, fun q => absurd (show σ 5 m ≤ i by omega) q⟩
    | succ d ih =>
      intro i h0 h1 hd he
      refine b_X5_find_1 C ⟨by omega, by omega, i32 (by show -2147483648 ≤ σ 5 m ∧ σ 5 m < 2147483648; omega), fun q => oQ.a hp Sm.rfl (hp.u0 _).2 hT ?_, fun q => ?_⟩
      · have q' : σ 5 m ≤ i := q
        rw [← he]
        exact (if_neg (show ¬ i < (txM σ m).2 by show ¬ i < σ 5 m; omega)).symm
      · have q' : ¬ σ 5 m ≤ i := q
        have hi : i < (txM σ m).2 := by show i < σ 5 m; omega
        have lt := hp.1.lt hc'.1 hc'.2 h0 (by omega)
        have no : ¬ (σ 4 (120 * m + i) = 97 + a ∧ (b = -1 ∨ (i + 1 < σ 5 m ∧ σ 4 (120 * m + (i + 1)) = 97 + b))) → P_X5_find_1 K L c (upM σ 0 (fun _ => 0)) m a b (i + 1) := fun z => by
          rw [fnN_no hi z] at he
          exact ih (i + 1) (by omega) (by omega) (by omega) he
        have yes : (σ 4 (120 * m + i) = 97 + a ∧ (b = -1 ∨ (i + 1 < σ 5 m ∧ σ 4 (120 * m + (i + 1)) = 97 + b))) → oQ σ (tFind (mV σ) m k a b) (vFind (mV σ) m k a b) i (upM σ 0 (fun _ => 0)) := fun z => by
          rw [fnN_yes hi z] at he
          exact oQ.a hp Sm.rfl (hp.u0 _).2 hT he
        have ea : 120 * m + i + 1 = 120 * m + (i + 1) := by omega
        refine ⟨by omega, lt32 lt, by omega, fun z => no (fun w => z (by have := w.1; show σ 4 (120 * m + i) = a + 97; omega)), fun z => ?_⟩
        have z' : σ 4 (120 * m + i) = a + 97 := z
        refine ⟨by omega, fun w => yes ⟨by omega, Or.inl w⟩, fun w => ⟨by omega, fun w2 => no (fun v => v.2.elim w (fun u => by have w2' : σ 5 m ≤ i + 1 := w2; omega)), fun w2 => ?_⟩⟩
        have w2' : ¬ σ 5 m ≤ i + 1 := w2
        have lt2 := hp.1.lt hc'.1 hc'.2 (show 0 ≤ i + 1 by omega) (by omega)
        refine ⟨by omega, ?_, by omega, fun w3 => no (fun v => v.2.elim w (fun u => w3 (by have := u.2; show σ 4 (120 * m + i + 1) = b + 97; rw [ea]; omega))), fun w3 => yes ⟨by omega, Or.inr ⟨by omega, ?_⟩⟩⟩
        · show -2147483648 ≤ σ 4 (120 * m + i + 1) ∧ σ 4 (120 * m + i + 1) < 2147483648
          rw [ea]; omega
        · have w3' : σ 4 (120 * m + i + 1) = b + 97 := w3
          rw [ea] at w3'; omega
  exact key _ k (by omega) hk.2 (by show σ 5 m - k ≤ (((txM σ m).2 - k).toNat : Int); show σ 5 m - k ≤ ((σ 5 m - k).toNat : Int); omega) rfl))
