/-! LOOPS, SUMS, GREATEST ONES, FIRST ONES -/
theorem loop_up {P : Int → Prop} (lo n : Int) (h : ∀ i, lo ≤ i → i ≤ n → (i < n → P (i + 1)) → P i) (i : Int) (h0 : lo ≤ i) (h1 : i ≤ n) : P i := by
  obtain ⟨d, hd⟩ : ∃ d : Nat, (n - i).toNat = d := ⟨_, rfl⟩
  induction d generalizing i with
  | zero => exact h i h0 h1 (fun q => by omega)
  | succ d ih => exact h i h0 h1 (fun q => ih (i + 1) (by omega) (by omega) (by omega))
theorem loop_dn {P : Int → Prop} (n lo : Int) (h : ∀ i, lo ≤ i → i ≤ n → (lo < i → P (i - 1)) → P i) (i : Int) (h0 : lo ≤ i) (h1 : i ≤ n) : P i := by
  obtain ⟨d, hd⟩ : ∃ d : Nat, (i - lo).toNat = d := ⟨_, rfl⟩
  induction d generalizing i with
  | zero => exact h i h0 h1 (fun q => by omega)
  | succ d ih => exact h i h0 h1 (fun q => ih (i - 1) (by omega) (by omega) (by omega))
def sumN (f : Int → Int) : Nat → Int
  | 0 => 0
  | i + 1 => sumN f i + f i
def sumI (f : Int → Int) (i : Int) : Int := sumN f i.toNat
theorem sumI_0 (f : Int → Int) : sumI f 0 = 0 := rfl
theorem toNat_s {i : Int} (h : 0 ≤ i) : (i + 1).toNat = i.toNat + 1 := by omega
theorem toNat_c {i : Int} (h : 0 ≤ i) : ((i.toNat : Nat) : Int) = i := by omega
theorem sumI_s (f : Int → Int) {i : Int} (h : 0 ≤ i) : sumI f (i + 1) = sumI f i + f i := by
  unfold sumI
  rw [toNat_s h]
  show sumN f i.toNat + f i.toNat = _
  rw [toNat_c h]
theorem int_up {P : Int → Prop} (h0 : P 0) (hs : ∀ i, 0 ≤ i → P i → P (i + 1)) (n : Int) (h : 0 ≤ n) : P n := by
  obtain ⟨d, rfl⟩ := Int.eq_ofNat_of_zero_le h
  clear h
  induction d with
  | zero => exact h0
  | succ d ih => exact hs d (by omega) ih
theorem sumI_cong {f g : Int → Int} (n : Int) (h : ∀ k, 0 ≤ k → k < n → f k = g k) : sumI f n = sumI g n := by
  by_cases hn : 0 ≤ n
  · revert h
    refine int_up (P := fun n => (∀ k, 0 ≤ k → k < n → f k = g k) → sumI f n = sumI g n) (fun _ => rfl) (fun i hi ih h => ?_) n hn
    rw [sumI_s f hi, sumI_s g hi, ih (fun k a b => h k a (by omega)), h i hi (by omega)]
  · unfold sumI
    rw [show n.toNat = 0 from by omega]
    rfl
theorem sumI_in {f : Int → Int} (B n : Int) (hn : 0 ≤ n) (h : ∀ k, 0 ≤ k → k < n → 0 ≤ f k ∧ f k ≤ B) : 0 ≤ sumI f n ∧ sumI f n ≤ B * n := by
  revert h
  refine int_up (P := fun n => (∀ k, 0 ≤ k → k < n → 0 ≤ f k ∧ f k ≤ B) → 0 ≤ sumI f n ∧ sumI f n ≤ B * n) (fun _ => by rw [sumI_0]; omega) (fun i hi ih h => ?_) n hn
  have h1 := ih (fun k a b => h k a (by omega))
  have h2 := h i hi (by omega)
  rw [sumI_s f hi, Int.mul_add]
  omega
def maxN (f : Int → Int) : Nat → Int
  | 0 => 0
  | i + 1 => if maxN f i < f i then f i else maxN f i
def maxI (f : Int → Int) (i : Int) : Int := maxN f i.toNat
theorem maxI_0 (f : Int → Int) : maxI f 0 = 0 := rfl
theorem maxI_s (f : Int → Int) {i : Int} (h : 0 ≤ i) : maxI f (i + 1) = if maxI f i < f i then f i else maxI f i := by
  unfold maxI
  rw [toNat_s h]
  show (if maxN f i.toNat < f i.toNat then f i.toNat else maxN f i.toNat) = _
  rw [toNat_c h]
theorem maxI_cong {f g : Int → Int} (n : Int) (hn : 0 ≤ n) (h : ∀ k, 0 ≤ k → k < n → f k = g k) : maxI f n = maxI g n := by
  revert h
  refine int_up (P := fun n => (∀ k, 0 ≤ k → k < n → f k = g k) → maxI f n = maxI g n) (fun _ => rfl) (fun i hi ih h => ?_) n hn
  rw [maxI_s f hi, maxI_s g hi, ih (fun k a b => h k a (by omega)), h i hi (by omega)]
theorem maxI_in {f : Int → Int} (B n : Int) (hB : 0 ≤ B) (hn : 0 ≤ n) (h : ∀ k, 0 ≤ k → k < n → f k ≤ B) : 0 ≤ maxI f n ∧ maxI f n ≤ B := by
  revert h
  refine int_up (P := fun n => (∀ k, 0 ≤ k → k < n → f k ≤ B) → 0 ≤ maxI f n ∧ maxI f n ≤ B) (fun _ => by rw [maxI_0]; omega) (fun i hi ih h => ?_) n hn
  have h1 := ih (fun k a b => h k a (by omega))
  have h2 := h i hi (by omega)
  rw [maxI_s f hi]
  by_cases hq : maxI f i < f i
  · rw [if_pos hq]; omega
  · rw [if_neg hq]; exact h1
/-- the first place of the greatest among the first ones -/
def amxN (f : Int → Int) : Nat → Int
  | 0 => 0
  | i + 1 => if f (amxN f i) < f i then i else amxN f i
def amxI (f : Int → Int) (i : Int) : Int := amxN f i.toNat
theorem amxI_0 (f : Int → Int) : amxI f 0 = 0 := rfl
theorem amxI_s (f : Int → Int) {i : Int} (h : 0 ≤ i) : amxI f (i + 1) = if f (amxI f i) < f i then i else amxI f i := by
  unfold amxI
  rw [toNat_s h]
  show (if f (amxN f i.toNat) < f i.toNat then (i.toNat : Int) else amxN f i.toNat) = _
  rw [toNat_c h]
theorem amxI_1 (f : Int → Int) : amxI f 1 = 0 := by
  rw [show (1 : Int) = 0 + 1 from rfl, amxI_s f (by decide), amxI_0, if_neg (by omega)]
theorem amxI_in (f : Int → Int) (n : Int) (hn : 0 ≤ n) : 0 ≤ amxI f n ∧ (amxI f n < n ∨ n = 0) := by
  refine int_up (P := fun n => 0 ≤ amxI f n ∧ (amxI f n < n ∨ n = 0)) (by rw [amxI_0]; omega) (fun i hi ih => ?_) n hn
  rw [amxI_s f hi]
  by_cases hq : f (amxI f i) < f i
  · rw [if_pos hq]; omega
  · rw [if_neg hq]
    rcases ih with ⟨a, b | b⟩
    · omega
    · subst b; rw [amxI_0]; omega
theorem amxI_ge (f : Int → Int) (n : Int) (hn : 0 ≤ n) : ∀ k, 0 ≤ k → k < n → f k ≤ f (amxI f n) := by
  refine int_up (P := fun n => ∀ k, 0 ≤ k → k < n → f k ≤ f (amxI f n)) (fun k a b => by omega) (fun i hi ih k a b => ?_) n hn
  rw [amxI_s f hi]
  by_cases hq : f (amxI f i) < f i
  · rw [if_pos hq]
    by_cases hk : k = i
    · subst hk; omega
    · have := ih k a (by omega); omega
  · rw [if_neg hq]
    by_cases hk : k = i
    · subst hk; omega
    · exact ih k a (by omega)
theorem amxI_cong {f g : Int → Int} (n : Int) (hn : 0 ≤ n) (h : ∀ k, 0 ≤ k → k < n → f k = g k) : amxI f n = amxI g n := by
  revert h
  refine int_up (P := fun n => (∀ k, 0 ≤ k → k < n → f k = g k) → amxI f n = amxI g n) (fun _ => rfl) (fun i hi ih h => ?_) n hn
  have h1 := ih (fun k a b => h k a (by omega))
  have h2 := amxI_in g i hi
  rw [amxI_s f hi, amxI_s g hi, h1, h i hi (by omega)]
  by_cases hi0 : i = 0
  · subst hi0
    rw [amxI_0, if_neg, if_neg]
    · omega
    · rw [h 0 (by omega) (by omega)]; omega
  · rw [h (amxI g i) h2.1 (by omega)]
/-- a digest of the first ones behind d -/
def dgN (f : Int → Int) (d : Int) : Nat → Int
  | 0 => d
  | i + 1 => dgN f d i * 31 + f i
def dgI (f : Int → Int) (d i : Int) : Int := dgN f d i.toNat
theorem dgI_0 (f : Int → Int) (d : Int) : dgI f d 0 = d := rfl
theorem dgI_s (f : Int → Int) (d : Int) {i : Int} (h : 0 ≤ i) : dgI f d (i + 1) = dgI f d i * 31 + f i := by
  unfold dgI
  rw [toNat_s h]
  show dgN f d i.toNat * 31 + f i.toNat = _
  rw [toNat_c h]
theorem dgI_cong {f g : Int → Int} (d n : Int) (hn : 0 ≤ n) (h : ∀ k, 0 ≤ k → k < n → f k = g k) : dgI f d n = dgI g d n := by
  revert h
  refine int_up (P := fun n => (∀ k, 0 ≤ k → k < n → f k = g k) → dgI f d n = dgI g d n) (fun _ => rfl) (fun i hi ih h => ?_) n hn
  rw [dgI_s f d hi, dgI_s g d hi, ih (fun k a b => h k a (by omega)), h i hi (by omega)]
/-- a fold over the first ones: what a step F makes of the number so far -/
def fdN (F : Int → Int → Int) (d : Int) : Nat → Int
  | 0 => d
  | i + 1 => F (fdN F d i) i
def fdI (F : Int → Int → Int) (d i : Int) : Int := fdN F d i.toNat
theorem fdI_0 (F : Int → Int → Int) (d : Int) : fdI F d 0 = d := rfl
theorem fdI_s (F : Int → Int → Int) (d : Int) {i : Int} (h : 0 ≤ i) : fdI F d (i + 1) = F (fdI F d i) i := by
  unfold fdI
  rw [toNat_s h]
  show F (fdN F d i.toNat) i.toNat = _
  rw [toNat_c h]
theorem fdI_cong {F G : Int → Int → Int} (d n : Int) (hn : 0 ≤ n) (h : ∀ x k, 0 ≤ k → k < n → F x k = G x k) : fdI F d n = fdI G d n := by
  revert h
  refine int_up (P := fun n => (∀ x k, 0 ≤ k → k < n → F x k = G x k) → fdI F d n = fdI G d n) (fun _ => rfl) (fun i hi ih h => ?_) n hn
  rw [fdI_s F d hi, fdI_s G d hi, ih (fun x k a b => h x k a (by omega)), h _ i hi (by omega)]
/-! WHO COMES FROM WHOM: ex m is the exemplar, −1 of an origin; wk: the first one up from m of which P says yes, or −1 -/
def EXI (ex : Int → Int) (n : Int) : Prop := ∀ m, 0 ≤ m → m < n → -1 ≤ ex m ∧ ex m < m
def wkN (ex : Int → Int) (P : Int → Bool) : Nat → Int → Int
  | 0, m => m
  | f + 1, m => if m < 0 ∨ P m = true then m else wkN ex P f (ex m)
def wk (ex : Int → Int) (P : Int → Bool) (m : Int) : Int := wkN ex P (m + 1).toNat m
theorem wkN_fuel {ex : Int → Int} {P : Int → Bool} {n : Int} (h : EXI ex n) : ∀ (f g : Nat) (m : Int), -1 ≤ m → m < n → m + 1 ≤ f → m + 1 ≤ g → wkN ex P f m = wkN ex P g m := by
  intro f
  induction f with
  | zero =>
    intro g m a b c d
    have hm : m = -1 := by omega
    subst hm
    cases g with
    | zero => rfl
    | succ g =>
      show -1 = (if (-1 : Int) < 0 ∨ P (-1) = true then (-1 : Int) else wkN ex P g (ex (-1)))
      rw [if_pos (Or.inl (by decide))]
  | succ f ih =>
    intro g m a b c d
    by_cases hq : m < 0 ∨ P m = true
    · show (if m < 0 ∨ P m = true then m else wkN ex P f (ex m)) = _
      rw [if_pos hq]
      cases g with
      | zero => rfl
      | succ g =>
        show m = (if m < 0 ∨ P m = true then m else wkN ex P g (ex m))
        rw [if_pos hq]
    · cases g with
      | zero => exact absurd (Or.inl (by omega)) hq
      | succ g =>
        show (if m < 0 ∨ P m = true then m else wkN ex P f (ex m)) = (if m < 0 ∨ P m = true then m else wkN ex P g (ex m))
        rw [if_neg hq, if_neg hq]
        have h0 : 0 ≤ m := Int.not_lt.mp (fun q => hq (Or.inl q))
        have he := h m h0 b
        exact ih g (ex m) he.1 (by omega) (by omega) (by omega)
theorem wk_neg (ex : Int → Int) (P : Int → Bool) {m : Int} (h : m < 0) : wk ex P m = m := by
  unfold wk
  rw [show (m + 1).toNat = 0 from by omega]
  rfl
theorem wk_yes (ex : Int → Int) (P : Int → Bool) {m : Int} (h : P m = true) : wk ex P m = m := by
  unfold wk
  cases (m + 1).toNat with
  | zero => rfl
  | succ f =>
    show (if m < 0 ∨ P m = true then m else wkN ex P f (ex m)) = m
    rw [if_pos (Or.inr h)]
theorem wk_no {ex : Int → Int} {P : Int → Bool} {n m : Int} (h : EXI ex n) (h0 : 0 ≤ m) (h1 : m < n) (hp : ¬ P m = true) : wk ex P m = wk ex P (ex m) := by
  unfold wk
  have he := h m h0 h1
  rw [toNat_s h0]
  show (if m < 0 ∨ P m = true then m else wkN ex P m.toNat (ex m)) = _
  rw [if_neg (fun q => q.elim (by omega) hp)]
  exact wkN_fuel h _ _ _ he.1 (by omega) (by omega) (by omega)
/-- by the way up: what holds of −1, and of m when it holds of its exemplar -/
theorem ex_ind {P : Int → Prop} {ex : Int → Int} {n : Int} (h : EXI ex n) (hm : ∀ m, -1 ≤ m → m < n → (0 ≤ m → P (ex m)) → P m) (m : Int) (h0 : -1 ≤ m) (h1 : m < n) : P m := by
  obtain ⟨d, hd⟩ : ∃ d : Nat, (m + 1).toNat ≤ d := ⟨_, Nat.le_refl _⟩
  induction d generalizing m with
  | zero => exact hm m h0 h1 (fun q => absurd hd (by omega))
  | succ d ih => exact hm m h0 h1 (fun q => by
      have he := h m q h1
      exact ih (ex m) he.1 (by omega) (by omega))
theorem wk_in {ex : Int → Int} {P : Int → Bool} {n : Int} (h : EXI ex n) (m : Int) (h0 : -1 ≤ m) (h1 : m < n) : -1 ≤ wk ex P m ∧ wk ex P m ≤ m ∧ (wk ex P m < 0 ∨ P (wk ex P m) = true) := by
  refine ex_ind (P := fun m => -1 ≤ wk ex P m ∧ wk ex P m ≤ m ∧ (wk ex P m < 0 ∨ P (wk ex P m) = true)) h (fun m a b ih => ?_) m h0 h1
  by_cases hm : m < 0
  · rw [wk_neg ex P hm]; exact ⟨a, Int.le_refl _, Or.inl hm⟩
  · by_cases hp : P m = true
    · rw [wk_yes ex P hp]; exact ⟨a, Int.le_refl _, Or.inr hp⟩
    · rw [wk_no h (by omega) b hp]
      have i := ih (by omega)
      have he := h m (by omega) b
      exact ⟨i.1, by omega, i.2.2⟩
theorem wk_cong {ex ex' : Int → Int} {P P' : Int → Bool} {n : Int} (h : EXI ex n) (he : ∀ m, 0 ≤ m → m < n → ex m = ex' m) (hP : ∀ m, 0 ≤ m → m < n → P m = P' m) (m : Int) (h0 : -1 ≤ m) (h1 : m < n) : wk ex P m = wk ex' P' m := by
  have h' : EXI ex' n := fun m a b => by rw [← he m a b]; exact h m a b
  refine ex_ind (P := fun m => wk ex P m = wk ex' P' m) h (fun m a b ih => ?_) m h0 h1
  by_cases hm : m < 0
  · rw [wk_neg ex P hm, wk_neg ex' P' hm]
  · by_cases hp : P m = true
    · rw [wk_yes ex P hp, wk_yes ex' P' (by rw [← hP m (by omega) b]; exact hp)]
    · rw [wk_no h (by omega) b hp, wk_no h' (by omega) b (by rw [← hP m (by omega) b]; exact hp), ← he m (by omega) b]
      exact ih (by omega)
def org (ex : Int → Int) (m : Int) : Int := wk ex (fun x => decide (ex x = -1)) m
def isof (ex : Int → Int) (m o : Int) : Bool := decide (wk ex (fun x => decide (x = o)) m = o)
/-- m descends from o -/
def dsc (ex : Int → Int) (m o : Int) : Bool := isof ex (ex m) o
def comm (ex : Int → Int) (a b : Int) : Int := wk ex (fun x => isof ex b x) a
def genN (ex : Int → Int) : Nat → Int → Int
  | 0, _ => 0
  | f + 1, m => if ex m = -1 then 0 else genN ex f (ex m) + 1
def gen (ex : Int → Int) (m : Int) : Int := genN ex m.toNat m
theorem genN_fuel {ex : Int → Int} {n : Int} (h : EXI ex n) : ∀ (f g : Nat) (m : Int), 0 ≤ m → m < n → m ≤ f → m ≤ g → genN ex f m = genN ex g m := by
  intro f
  induction f with
  | zero =>
    intro g m a b c d
    have hm : m = 0 := by omega
    subst hm
    have he := h 0 a b
    cases g with
    | zero => rfl
    | succ g =>
      show 0 = (if ex 0 = -1 then 0 else genN ex g (ex 0) + 1)
      rw [if_pos (by omega)]
  | succ f ih =>
    intro g m a b c d
    have he := h m a b
    by_cases hq : ex m = -1
    · show (if ex m = -1 then 0 else genN ex f (ex m) + 1) = _
      rw [if_pos hq]
      cases g with
      | zero => rfl
      | succ g =>
        show 0 = (if ex m = -1 then 0 else genN ex g (ex m) + 1)
        rw [if_pos hq]
    · cases g with
      | zero => exact absurd he (by omega)
      | succ g =>
        show (if ex m = -1 then 0 else genN ex f (ex m) + 1) = (if ex m = -1 then 0 else genN ex g (ex m) + 1)
        rw [if_neg hq, if_neg hq, ih g (ex m) (by omega) (by omega) (by omega) (by omega)]
theorem gen_o {ex : Int → Int} {m : Int} (h : ex m = -1) : gen ex m = 0 := by
  unfold gen
  cases m.toNat with
  | zero => rfl
  | succ f =>
    show (if ex m = -1 then 0 else genN ex f (ex m) + 1) = 0
    rw [if_pos h]
theorem gen_s {ex : Int → Int} {n m : Int} (h : EXI ex n) (h0 : 0 ≤ m) (h1 : m < n) (hx : ¬ ex m = -1) : gen ex m = gen ex (ex m) + 1 := by
  have he := h m h0 h1
  unfold gen
  obtain ⟨k, hk⟩ : ∃ k : Nat, m.toNat = k + 1 := ⟨m.toNat - 1, by omega⟩
  rw [hk]
  show (if ex m = -1 then 0 else genN ex k (ex m) + 1) = _
  rw [if_neg hx, genN_fuel h k (ex m).toNat (ex m) (by omega) (by omega) (by omega) (by omega)]
theorem gen_in {ex : Int → Int} {n : Int} (h : EXI ex n) (m : Int) (h0 : 0 ≤ m) (h1 : m < n) : 0 ≤ gen ex m ∧ gen ex m ≤ m := by
  have h2 : -1 ≤ m := by omega
  revert h0
  refine ex_ind (P := fun m => 0 ≤ m → 0 ≤ gen ex m ∧ gen ex m ≤ m) h (fun m a b ih h0 => ?_) m h2 h1
  have he := h m h0 b
  by_cases hx : ex m = -1
  · rw [gen_o hx]; omega
  · rw [gen_s h h0 b hx]
    have := ih h0 (by omega)
    omega
theorem org_e {ex : Int → Int} {m : Int} (h : ex m = -1) : org ex m = m := wk_yes ex _ (decide_eq_true h)
theorem org_s {ex : Int → Int} {n m : Int} (h : EXI ex n) (h0 : 0 ≤ m) (h1 : m < n) (hx : ¬ ex m = -1) : org ex m = org ex (ex m) := wk_no h h0 h1 (fun q => hx (of_decide_eq_true q))
theorem org_in {ex : Int → Int} {n m : Int} (h : EXI ex n) (h0 : 0 ≤ m) (h1 : m < n) : 0 ≤ org ex m ∧ org ex m ≤ m := by
  have h2 : -1 ≤ m := by omega
  revert h0
  refine ex_ind (P := fun m => 0 ≤ m → 0 ≤ org ex m ∧ org ex m ≤ m) h (fun m a b ih h0 => ?_) m h2 h1
  have he := h m h0 b
  by_cases hx : ex m = -1
  · rw [org_e hx]; omega
  · rw [org_s h h0 b hx]
    have := ih h0 (by omega)
    omega
theorem isof_self (ex : Int → Int) (m : Int) : isof ex m m = true := decide_eq_true (wk_yes ex _ (decide_eq_true rfl))
theorem isof_neg (ex : Int → Int) {m o : Int} (h : m < 0) (ho : 0 ≤ o) : isof ex m o = false := decide_eq_false (by rw [wk_neg ex _ h]; omega)
theorem isof_s {ex : Int → Int} {n m o : Int} (h : EXI ex n) (h0 : 0 ≤ m) (h1 : m < n) (hx : ¬ m = o) : isof ex m o = dsc ex m o := by
  unfold dsc isof
  rw [wk_no h h0 h1 (fun q => hx (of_decide_eq_true q))]
theorem isof_lt {ex : Int → Int} {n m o : Int} (h : EXI ex n) (h0 : -1 ≤ m) (h1 : m < n) (hi : isof ex m o = true) : o ≤ m := by
  have := (wk_in (P := fun x => decide (x = o)) h m h0 h1).2.1
  rw [of_decide_eq_true hi] at this
  exact this
theorem dsc_self {ex : Int → Int} {n m : Int} (h : EXI ex n) (h0 : 0 ≤ m) (h1 : m < n) : dsc ex m m = false := by
  have he := h m h0 h1
  cases hd : dsc ex m m with
  | false => rfl
  | true => exact absurd (isof_lt h he.1 (by omega) hd) (by omega)
/-- the guess: of those there the last one that is nearest -/
def gsF (th D : Int → Int) : Int → Int → Int := fun best k => if ¬ th k = 0 ∧ (best = -1 ∨ D k ≤ D best) then k else best
def gsI (th D : Int → Int) (m : Int) : Int := fdI (gsF th D) (-1) m
theorem gsI_in (th D : Int → Int) (m : Int) (hm : 0 ≤ m) : -1 ≤ gsI th D m ∧ gsI th D m < m := by
  refine int_up (P := fun m => -1 ≤ gsI th D m ∧ gsI th D m < m) (by show -1 ≤ fdI (gsF th D) (-1) 0 ∧ fdI (gsF th D) (-1) 0 < 0; rw [fdI_0]; decide) (fun i hi ih => ?_) m hm
  have e : gsI th D (i + 1) = gsF th D (gsI th D i) i := fdI_s (gsF th D) (-1) hi
  rw [e]
  unfold gsF
  by_cases hq : ¬ th i = 0 ∧ (gsI th D i = -1 ∨ D i ≤ D (gsI th D i))
  · rw [if_pos hq]; omega
  · rw [if_neg hq]; omega
