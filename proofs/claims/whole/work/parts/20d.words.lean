/-! what a habit makes of a row of letters is one; scribes -/
theorem swN_ok {a b n : Int} {w : WO} (hw : okW w) (ha : 97 ≤ a ∧ a ≤ 122) (hb : 97 ≤ b ∧ b ≤ 122) : ∀ (d : Nat) (i : Int) (v : WO) (c : Int), 0 ≤ i → okW v → v.2 = i → i ≤ w.2 → okW (swN a b n w d i v c) ∧ (swN a b n w d i v c).2 ≤ w.2 := by
  intro d
  induction d with
  | zero => intro i v c h0 hv he hl; exact ⟨hv, by show v.2 ≤ w.2; omega⟩
  | succ d ih =>
    intro i v c h0 hv he hl
    have hwl := hw.1
    have e : swN a b n w (d + 1) i v c = if i < w.2 then (if i + 1 < w.2 ∧ w.1 i = a ∧ w.1 (i + 1) = b then (if (c + 1) % n = 0 then swN a b n w d (i + 2) (ap (ap v b) a) (c + 1) else swN a b n w d (i + 2) (ap (ap v a) b) (c + 1)) else swN a b n w d (i + 1) (ap v (w.1 i)) c) else v := rfl
    rw [e]
    have l2 : ∀ (x z : Int), (ap (ap v x) z).2 = i + 2 := fun x z => by show v.2 + 1 + 1 = i + 2; omega
    have l1 : ∀ x : Int, (ap v x).2 = i + 1 := fun x => by show v.2 + 1 = i + 1; omega
    by_cases h1 : i < w.2
    · rw [if_pos h1]
      by_cases h2 : i + 1 < w.2 ∧ w.1 i = a ∧ w.1 (i + 1) = b
      · rw [if_pos h2]
        by_cases h3 : (c + 1) % n = 0
        · rw [if_pos h3]
          exact ih (i + 2) _ (c + 1) (by omega) ((hv.ap hb (by omega)).ap ha (by rw [l1]; omega)) (l2 _ _) (by omega)
        · rw [if_neg h3]
          exact ih (i + 2) _ (c + 1) (by omega) ((hv.ap ha (by omega)).ap hb (by rw [l1]; omega)) (l2 _ _) (by omega)
      · rw [if_neg h2]
        exact ih (i + 1) _ c (by omega) (hv.ap (hw.2 i h0 h1) (by omega)) (l1 _) (by omega)
    · rw [if_neg h1]
      exact ⟨hv, by omega⟩
theorem rmW_ok {w : WO} (hw : okW w) {i j : Int} (h0 : 0 ≤ i) (h1 : i ≤ j) (h2 : j < w.2) : okW (rmW w i j) := by
  have hwl := hw.1
  refine ⟨⟨by show 0 ≤ w.2 - (j - i); omega, by show w.2 - (j - i) ≤ 120; omega⟩, fun k a b => ?_⟩
  have b' : k < w.2 - (j - i) := b
  show 97 ≤ (if k ≤ i then w.1 k else w.1 (k + (j - i))) ∧ (if k ≤ i then w.1 k else w.1 (k + (j - i))) ≤ 122
  by_cases hk : k ≤ i
  · rw [if_pos hk]; exact hw.2 k a (by omega)
  · rw [if_neg hk]; exact hw.2 _ (by omega) (by omega)
theorem skN_ok {a n : Int} {w : WO} (hw : okW w) : ∀ (d : Nat) (i : Int), 0 ≤ i → okW (skN a n w d i) := by
  intro d
  induction d with
  | zero => intro i _; exact hw
  | succ d ih =>
    intro i h0
    show okW (if i < w.2 then (if w.1 i = a ∧ nx a w (i + 1) < w.2 ∧ nx a w (i + 1) ≤ i + n then rmW w i (nx a w (i + 1)) else skN a n w d (i + 1)) else w)
    by_cases h1 : i < w.2
    · rw [if_pos h1]
      by_cases h2 : w.1 i = a ∧ nx a w (i + 1) < w.2 ∧ nx a w (i + 1) ≤ i + n
      · rw [if_pos h2]
        exact rmW_ok hw h0 (by have := (nx_in a w (i + 1) (by omega)).1; omega) h2.2.1
      · rw [if_neg h2]
        exact ih (i + 1) (by omega)
    · rw [if_neg h1]; exact hw
theorem okW_0 : okW ((fun _ => 0, 0) : WO) := ⟨⟨Int.le_refl _, by decide⟩, fun k a b => absurd (show k < 0 from b) (by omega)⟩
theorem hb_ok {kind a b n : Int} {w : WO} (hw : okW w) (ha : 97 ≤ a ∧ a ≤ 122) (hbb : 97 ≤ b ∧ b ≤ 122) : okW (hb kind a b n w) := by
  have hn : okW (nrm w) := hw.eq (nrm_eqW w).symm
  unfold hb hb0
  by_cases h3 : kind = 3
  · rw [if_pos h3]; exact skN_ok hn _ _ (Int.le_refl _)
  · rw [if_neg h3]
    by_cases h4 : kind = 4
    · rw [if_pos h4]; exact (swN_ok hn ha hbb _ 0 _ 0 (Int.le_refl _) okW_0 rfl hn.1.1).1
    · rw [if_neg h4]; exact (tI_ok hn ha hbb _ hn.1.1 (Int.le_refl _)).1
/-- a scribe's habits one after another; hab k p: part p of habit k -/
def scF (hab : Int → Int → Int) : WO → Int → WO := fun w k => hb (hab k 0) (hab k 1 + 97) (hab k 2 + 97) (hab k 3) w
def scW (hab : Int → Int → Int) (nh : Int) (w : WO) : WO := fdT (scF hab) w nh
def okHab (hab : Int → Int → Int) (nh : Int) : Prop := ∀ k, 0 ≤ k → k < nh → (0 ≤ hab k 0 ∧ hab k 0 ≤ 4) ∧ (0 ≤ hab k 1 ∧ hab k 1 ≤ 25) ∧ (0 ≤ hab k 2 ∧ hab k 2 ≤ 25) ∧ (1 ≤ hab k 3 ∧ hab k 3 ≤ 9)
theorem scW_ok {hab : Int → Int → Int} {nh : Int} {w : WO} (hh : okHab hab nh) (hw : okW w) : ∀ i, 0 ≤ i → i ≤ nh → okW (fdT (scF hab) w i) := by
  intro i h0
  refine int_up (P := fun i => i ≤ nh → okW (fdT (scF hab) w i)) (fun _ => by rw [fdT_0]; exact hw) (fun i hi ih hl => ?_) i h0
  rw [fdT_s _ _ hi]
  have h := hh i hi (by omega)
  exact hb_ok (ih (by omega)) ⟨by omega, by omega⟩ ⟨by omega, by omega⟩
/-- the same eqW from eqW -/
theorem scW_eq {hab : Int → Int → Int} {w v : WO} (h : eqW w v) : ∀ i, 0 ≤ i → eqW (fdT (scF hab) w i) (fdT (scF hab) v i) := by
  intro i h0
  refine int_up (P := fun i => eqW (fdT (scF hab) w i) (fdT (scF hab) v i)) (by rw [fdT_0, fdT_0]; exact h) (fun i hi ih => ?_) i h0
  rw [fdT_s _ _ hi, fdT_s _ _ hi]
  show eqW (hb (hab i 0) (hab i 1 + 97) (hab i 2 + 97) (hab i 3) (fdT (scF hab) w i)) (hb (hab i 0) (hab i 1 + 97) (hab i 2 + 97) (hab i 3) (fdT (scF hab) v i))
  rw [hb_eq _ _ _ _ ih]
  exact eqW.rfl
theorem scW_cong {hab hab' : Int → Int → Int} {nh : Int} (hn : 0 ≤ nh) (h : ∀ k p, 0 ≤ k → k < nh → hab k p = hab' k p) (w : WO) : scW hab nh w = scW hab' nh w :=
  fdT_cong w nh hn (fun x k a b => by unfold scF; rw [h k 0 a b, h k 1 a b, h k 2 a b, h k 3 a b])
/-- the count seen so far, and the one that goes back to 0 at n -/
theorem mod_step {c n : Int} (hn : 0 < n) : (c % n + 1 = n → (c + 1) % n = 0) ∧ (¬ c % n + 1 = n → (c + 1) % n = c % n + 1 ∧ ¬ (c + 1) % n = 0) := by
  have h0 := Int.emod_nonneg c (by omega : n ≠ 0)
  have h1 := Int.emod_lt_of_pos c hn
  have e : (c + 1) % n = (c % n + 1) % n := by rw [Int.add_emod c 1 n, Int.add_emod (c % n) 1 n, Int.emod_emod_of_dvd c (Int.dvd_refl n)]
  constructor
  · intro h
    rw [e, h, Int.emod_self]
  · intro h
    have : (c % n + 1) % n = c % n + 1 := Int.emod_eq_of_lt (by omega) (by omega)
    rw [e, this]
    exact ⟨rfl, by omega⟩
