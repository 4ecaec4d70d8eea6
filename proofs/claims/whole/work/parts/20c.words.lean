/-! ROWS OF LETTERS, AND WHAT A HABIT MAKES OF ONE -/
abbrev WO : Type := (Int → Int) × Int
def ap (w : WO) (x : Int) : WO := (upI w.1 w.2 x, w.2 + 1)
def eqW (w v : WO) : Prop := w.2 = v.2 ∧ ∀ k, 0 ≤ k → k < w.2 → w.1 k = v.1 k
def okW (w : WO) : Prop := (0 ≤ w.2 ∧ w.2 ≤ 120) ∧ ∀ k, 0 ≤ k → k < w.2 → 97 ≤ w.1 k ∧ w.1 k ≤ 122
def nrm (w : WO) : WO := (fun k => if 0 ≤ k ∧ k < w.2 then w.1 k else 0, w.2)
theorem eqW.rfl {w : WO} : eqW w w := ⟨Eq.refl _, fun _ _ _ => Eq.refl _⟩
theorem eqW.symm {w v : WO} (h : eqW w v) : eqW v w := ⟨h.1.symm, fun k a b => (h.2 k a (by rw [h.1]; exact b)).symm⟩
theorem eqW.trans {w v u : WO} (h : eqW w v) (g : eqW v u) : eqW w u := ⟨h.1.trans g.1, fun k a b => (h.2 k a b).trans (g.2 k a (by rw [← h.1]; exact b))⟩
theorem eqW.ap {w v : WO} (h : eqW w v) (x : Int) : eqW (ap w x) (ap v x) := by
  refine ⟨by show w.2 + 1 = v.2 + 1; rw [h.1], fun k a b => ?_⟩
  show upI w.1 w.2 x k = upI v.1 v.2 x k
  have b' : k < w.2 + 1 := b
  by_cases hk : k = w.2
  · rw [hk, upI_s, h.1, upI_s]
  · rw [upI_n _ _ hk, upI_n _ _ (by rw [← h.1]; exact hk)]
    exact h.2 k a (by omega)
theorem nrm_eq {w v : WO} (h : eqW w v) : nrm w = nrm v := by
  obtain ⟨f, n⟩ := w
  obtain ⟨g, m⟩ := v
  obtain ⟨h1, h2⟩ := h
  replace h1 : n = m := h1
  subst h1
  refine Prod.ext (funext fun k => ?_) (Eq.refl _)
  show (if 0 ≤ k ∧ k < n then f k else 0) = (if 0 ≤ k ∧ k < n then g k else 0)
  by_cases hk : 0 ≤ k ∧ k < n
  · rw [if_pos hk, if_pos hk]; exact h2 k hk.1 hk.2
  · rw [if_neg hk, if_neg hk]
theorem nrm_at {w : WO} {k : Int} (h0 : 0 ≤ k) (h1 : k < w.2) : (nrm w).1 k = w.1 k := if_pos ⟨h0, h1⟩
theorem nrm_eqW (w : WO) : eqW (nrm w) w := ⟨Eq.refl _, fun k a b => nrm_at a b⟩
theorem okW.eq {w v : WO} (h : okW w) (e : eqW w v) : okW v := ⟨by rw [← e.1]; exact h.1, fun k a b => by rw [← e.2 k a (by rw [e.1]; exact b)]; exact h.2 k a (by rw [e.1]; exact b)⟩
theorem okW.ap {w : WO} {x : Int} (h : okW w) (hx : 97 ≤ x ∧ x ≤ 122) (hl : w.2 < 120) : okW (ap w x) := by
  refine ⟨⟨by show 0 ≤ w.2 + 1; have := h.1; omega, by show w.2 + 1 ≤ 120; omega⟩, fun k a b => ?_⟩
  show 97 ≤ upI w.1 w.2 x k ∧ upI w.1 w.2 x k ≤ 122
  have b' : k < w.2 + 1 := b
  by_cases hk : k = w.2
  · rw [hk, upI_s]; exact hx
  · rw [upI_n _ _ hk]; exact h.2 k a (by omega)
def fdTN {A : Type} (F : A → Int → A) (d : A) : Nat → A
  | 0 => d
  | i + 1 => F (fdTN F d i) i
def fdT {A : Type} (F : A → Int → A) (d : A) (i : Int) : A := fdTN F d i.toNat
theorem fdT_0 {A : Type} (F : A → Int → A) (d : A) : fdT F d 0 = d := Eq.refl _
theorem fdT_s {A : Type} (F : A → Int → A) (d : A) {i : Int} (h : 0 ≤ i) : fdT F d (i + 1) = F (fdT F d i) i := by
  unfold fdT
  rw [toNat_s h]
  show F (fdTN F d i.toNat) i.toNat = _
  rw [toNat_c h]
theorem fdT_cong {A : Type} {F G : A → Int → A} (d : A) (n : Int) (hn : 0 ≤ n) (h : ∀ x k, 0 ≤ k → k < n → F x k = G x k) : fdT F d n = fdT G d n := by
  revert h
  refine int_up (P := fun n => (∀ x k, 0 ≤ k → k < n → F x k = G x k) → fdT F d n = fdT G d n) (fun _ => Eq.refl _) (fun i hi ih h => ?_) n hn
  rw [fdT_s F d hi, fdT_s G d hi, ih (fun x k a b => h x k a (by omega)), h _ i hi (by omega)]
/-- the letters one by one: changed, dropped or doubled at each n-th a; the state: what is made so far, and how many a were seen -/
def tF (kind a b n : Int) (w : WO) : WO × Int → Int → WO × Int := fun s i =>
  if w.1 i = a then (if (s.2 + 1) % n = 0 then (if kind = 0 then (ap s.1 b, s.2 + 1) else if kind = 1 then (s.1, s.2 + 1) else if s.1.2 + (w.2 - i) < 120 then (ap (ap s.1 (w.1 i)) (w.1 i), s.2 + 1) else (ap s.1 (w.1 i), s.2 + 1)) else (ap s.1 (w.1 i), s.2 + 1)) else (ap s.1 (w.1 i), s.2)
def tI (kind a b n : Int) (w : WO) (i : Int) : WO × Int := fdT (tF kind a b n w) ((fun _ => 0, 0), 0) i
theorem tI_0 (kind a b n : Int) (w : WO) : tI kind a b n w 0 = ((fun _ => 0, 0), 0) := fdT_0 _ _
theorem tI_s (kind a b n : Int) (w : WO) {i : Int} (h : 0 ≤ i) : tI kind a b n w (i + 1) = tF kind a b n w (tI kind a b n w i) i := fdT_s _ _ h
/-- each n-th a with a b behind it, turned round -/
def swN (a b n : Int) (w : WO) : Nat → Int → WO → Int → WO
  | 0, _, v, _ => v
  | d + 1, i, v, c => if i < w.2 then (if i + 1 < w.2 ∧ w.1 i = a ∧ w.1 (i + 1) = b then (if (c + 1) % n = 0 then swN a b n w d (i + 2) (ap (ap v b) a) (c + 1) else swN a b n w d (i + 2) (ap (ap v a) b) (c + 1)) else swN a b n w d (i + 1) (ap v (w.1 i)) c) else v
/-- the next a, or the end -/
def nxN (a : Int) (w : WO) : Nat → Int → Int
  | 0, j => j
  | d + 1, j => if j < w.2 ∧ ¬ w.1 j = a then nxN a w d (j + 1) else j
def nx (a : Int) (w : WO) (j : Int) : Int := nxN a w (w.2 - j).toNat j
theorem nx_end (a : Int) (w : WO) {j : Int} (h : w.2 ≤ j) : nx a w j = j := by
  unfold nx
  rw [show (w.2 - j).toNat = 0 from by omega]
  rfl
theorem nx_yes (a : Int) (w : WO) {j : Int} (h : w.1 j = a) : nx a w j = j := by
  unfold nx
  cases (w.2 - j).toNat with
  | zero => rfl
  | succ d =>
    show (if j < w.2 ∧ ¬ w.1 j = a then nxN a w d (j + 1) else j) = j
    rw [if_neg (fun q => q.2 h)]
theorem nx_no (a : Int) (w : WO) {j : Int} (h : j < w.2) (hn : ¬ w.1 j = a) : nx a w j = nx a w (j + 1) := by
  unfold nx
  rw [show (w.2 - j).toNat = (w.2 - (j + 1)).toNat + 1 from by omega]
  show (if j < w.2 ∧ ¬ w.1 j = a then nxN a w (w.2 - (j + 1)).toNat (j + 1) else j) = _
  rw [if_pos ⟨h, hn⟩]
theorem nx_in (a : Int) (w : WO) (j : Int) (hj : j ≤ w.2) : j ≤ nx a w j ∧ nx a w j ≤ w.2 ∧ (nx a w j < w.2 → w.1 (nx a w j) = a) ∧ ∀ k, j ≤ k → k < nx a w j → ¬ w.1 k = a := by
  refine loop_up (P := fun j => j ≤ nx a w j ∧ nx a w j ≤ w.2 ∧ (nx a w j < w.2 → w.1 (nx a w j) = a) ∧ ∀ k, j ≤ k → k < nx a w j → ¬ w.1 k = a) j w.2 (fun i h0 h1 ih => ?_) j (Int.le_refl _) hj
  by_cases hi : i < w.2
  · by_cases hy : w.1 i = a
    · rw [nx_yes a w hy]
      exact ⟨Int.le_refl _, h1, fun _ => hy, fun k h2 h3 => by omega⟩
    · rw [nx_no a w hi hy]
      obtain ⟨x1, x2, x3, x4⟩ := ih hi
      refine ⟨by omega, x2, x3, fun k h2 h3 => ?_⟩
      by_cases hk : k = i
      · rw [hk]; exact hy
      · exact x4 k (by omega) h3
  · rw [nx_end a w (by omega)]
    exact ⟨Int.le_refl _, h1, fun q => absurd q hi, fun k h2 h3 => by omega⟩
/-- w without the places i + 1 to j -/
def rmW (w : WO) (i j : Int) : WO := (fun k => if k ≤ i then w.1 k else w.1 (k + (j - i)), w.2 - (j - i))
def skN (a n : Int) (w : WO) : Nat → Int → WO
  | 0, _ => w
  | d + 1, i => if i < w.2 then (if w.1 i = a ∧ nx a w (i + 1) < w.2 ∧ nx a w (i + 1) ≤ i + n then rmW w i (nx a w (i + 1)) else skN a n w d (i + 1)) else w
def hb0 (kind a b n : Int) (w : WO) : WO := if kind = 3 then skN a n w w.2.toNat 0 else if kind = 4 then swN a b n w w.2.toNat 0 (fun _ => 0, 0) 0 else (tI kind a b n w w.2).1
def hb (kind a b n : Int) (w : WO) : WO := hb0 kind a b n (nrm w)
theorem hb_eq (kind a b n : Int) {w v : WO} (h : eqW w v) : hb kind a b n w = hb kind a b n v := by unfold hb; rw [nrm_eq h]
theorem tI_ok {kind a b n : Int} {w : WO} (hw : okW w) (ha : 97 ≤ a ∧ a ≤ 122) (hb : 97 ≤ b ∧ b ≤ 122) : ∀ i, 0 ≤ i → i ≤ w.2 → okW (tI kind a b n w i).1 ∧ (tI kind a b n w i).1.2 + (w.2 - i) ≤ 120 ∧ 0 ≤ (tI kind a b n w i).2 ∧ (tI kind a b n w i).2 ≤ i ∧ (kind = 0 ∨ kind = 1 → (tI kind a b n w i).1.2 ≤ i) := by
  intro i h0
  refine int_up (P := fun i => i ≤ w.2 → okW (tI kind a b n w i).1 ∧ (tI kind a b n w i).1.2 + (w.2 - i) ≤ 120 ∧ 0 ≤ (tI kind a b n w i).2 ∧ (tI kind a b n w i).2 ≤ i ∧ (kind = 0 ∨ kind = 1 → (tI kind a b n w i).1.2 ≤ i)) (fun _ => ?_) (fun i hi ih hl => ?_) i h0
  · rw [tI_0]
    refine ⟨⟨⟨Int.le_refl _, by decide⟩, fun k x y => ?_⟩, ?_, Int.le_refl _, Int.le_refl _, fun _ => Int.le_refl _⟩
    · exact absurd (show k < 0 from y) (by omega)
    · have := hw.1; show 0 + (w.2 - 0) ≤ 120; omega
  · obtain ⟨o, r, s, t, v⟩ := ih (by omega)
    have hx := hw.2 i hi (by omega)
    have hwl := hw.1
    rw [tI_s _ _ _ _ _ hi]
    unfold tF
    generalize tI kind a b n w i = q at o r s t v
    obtain ⟨⟨g, m⟩, c⟩ := q
    simp only at r s t v ⊢
    have hm := o.1
    simp only at hm
    have k1 : ∀ x, 97 ≤ x ∧ x ≤ 122 → okW (ap (g, m) x) := fun x hx => o.ap hx (by show m < 120; omega)
    by_cases c1 : w.1 i = a
    · rw [if_pos c1]
      by_cases c2 : (c + 1) % n = 0
      · rw [if_pos c2]
        by_cases c3 : kind = 0
        · rw [if_pos c3]
          exact ⟨k1 b hb, by show m + 1 + (w.2 - (i + 1)) ≤ 120; omega, by show 0 ≤ c + 1; omega, by show c + 1 ≤ i + 1; omega, fun q => by show m + 1 ≤ i + 1; have := v q; omega⟩
        · rw [if_neg c3]
          by_cases c4 : kind = 1
          · rw [if_pos c4]
            exact ⟨o, by show m + (w.2 - (i + 1)) ≤ 120; omega, by show 0 ≤ c + 1; omega, by show c + 1 ≤ i + 1; omega, fun q => by show m ≤ i + 1; have := v q; omega⟩
          · rw [if_neg c4]
            by_cases c5 : m + (w.2 - i) < 120
            · rw [if_pos c5]
              refine ⟨(k1 _ hx).ap hx (by show m + 1 < 120; omega), by show m + 1 + 1 + (w.2 - (i + 1)) ≤ 120; omega, by show 0 ≤ c + 1; omega, by show c + 1 ≤ i + 1; omega, fun q => ?_⟩
              omega
            · rw [if_neg c5]
              exact ⟨k1 _ hx, by show m + 1 + (w.2 - (i + 1)) ≤ 120; omega, by show 0 ≤ c + 1; omega, by show c + 1 ≤ i + 1; omega, fun q => by show m + 1 ≤ i + 1; have := v q; omega⟩
      · rw [if_neg c2]
        exact ⟨k1 _ hx, by show m + 1 + (w.2 - (i + 1)) ≤ 120; omega, by show 0 ≤ c + 1; omega, by show c + 1 ≤ i + 1; omega, fun q => by show m + 1 ≤ i + 1; have := v q; omega⟩
    · rw [if_neg c1]
      exact ⟨k1 _ hx, by show m + 1 + (w.2 - (i + 1)) ≤ 120; omega, by show 0 ≤ c; omega, by show c ≤ i + 1; omega, fun q => by show m + 1 ≤ i + 1; have := v q; omega⟩
