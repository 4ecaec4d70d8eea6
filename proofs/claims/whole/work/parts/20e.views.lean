/-! WHAT CALLS SHOW OF A HOUSE: V 0 the tape's length, 1 the tape, 2 how many manuscripts, 3 how many scribes, 4 lengths, 5 letters, 6 exemplars, 7 scribes of manuscripts, 8 generations, 9 who is there, 10 how many habits, 11 habits -/
def lvI (f g : Int → Int) (i j : Int) : Int := lev f g i.toNat j.toNat
theorem lvI_0 (f g : Int → Int) {j : Int} (h : 0 ≤ j) : lvI f g 0 j = j := by show ((j.toNat : Nat) : Int) = j; exact toNat_c h
theorem lvI_i0 (f g : Int → Int) {i : Int} (h : 0 ≤ i) : lvI f g i 0 = i := by
  unfold lvI
  rw [show (0 : Int).toNat = 0 from rfl, lev_i0, toNat_c h]
theorem lvI_ss (f g : Int → Int) {i j : Int} (h0 : 1 ≤ i) (h1 : 1 ≤ j) : lvI f g i j = min (lvI f g (i - 1) (j - 1) + if f (i - 1) = g (j - 1) then 0 else 1) (min (lvI f g (i - 1) j) (lvI f g i (j - 1)) + 1) := by
  obtain ⟨a, ha⟩ : ∃ a : Nat, i = (a : Int) + 1 := ⟨(i - 1).toNat, by omega⟩
  obtain ⟨b, hb⟩ : ∃ b : Nat, j = (b : Int) + 1 := ⟨(j - 1).toNat, by omega⟩
  subst ha hb
  unfold lvI
  rw [show ((a : Int) + 1).toNat = a + 1 from by omega, show ((b : Int) + 1).toNat = b + 1 from by omega, show ((a : Int) + 1 - 1).toNat = a from by omega, show ((b : Int) + 1 - 1).toNat = b from by omega, lev_ss, show ((a : Int) + 1 - 1) = a from by omega, show ((b : Int) + 1 - 1) = b from by omega]
theorem lvI_in (f g : Int → Int) {i j : Int} (h0 : 0 ≤ i) (h1 : 0 ≤ j) : 0 ≤ lvI f g i j ∧ lvI f g i j ≤ max i j := by
  have a := lev_ge f g i.toNat j.toNat
  have b := lev_le f g i.toNat j.toNat
  unfold lvI
  omega
def levW (w v : WO) : Int := lvI w.1 v.1 w.2 v.2
theorem levW_eq {w v w' v' : WO} (h : eqW w w') (g : eqW v v') : levW w v = levW w' v' := by
  unfold levW lvI
  rw [← h.1, ← g.1]
  exact lev_cong _ _ (fun k hk => h.2 k (by omega) (by omega)) (fun k hk => g.2 k (by omega) (by omega))
theorem levW_symm (w v : WO) : levW w v = levW v w := lev_symm _ _ _ _
theorem levW_in {w v : WO} (h : okW w) (g : okW v) : 0 ≤ levW w v ∧ levW w v ≤ 120 := by
  have a := h.1
  have b := g.1
  have c := lvI_in w.1 v.1 a.1 b.1
  unfold levW
  omega
abbrev VT : Type := Nat → Int → Int → Int → Int
def vEx (V : VT) : Int → Int := fun m => V 6 m 0 0
def vTx (V : VT) (m : Int) : WO := (fun p => V 5 m p 0, V 4 m 0 0)
def vHa (V : VT) (s : Int) : Int → Int → Int := fun k p => V 11 s k p
def vN (V : VT) : Int := V 2 0 0 0
def vD (V : VT) (a b : Int) : Int := levW (vTx V a) (vTx V b)
def vThere (V : VT) : Int := sumI (fun m => if ¬ V 9 m 0 0 = 0 then 1 else 0) (vN V)
def vCopies (V : VT) (m : Int) : Int := sumI (fun k => if V 6 k 0 0 = m then 1 else 0) (vN V)
def vDesc (V : VT) (m : Int) : Int := sumI (fun k => if dsc (vEx V) k m = true then 1 else 0) (vN V)
def vTold (V : VT) (m w : Int) : Int := if w = 0 then V 4 m 0 0 else if w = 1 then V 6 m 0 0 else if w = 2 then V 7 m 0 0 else if w = 3 then V 8 m 0 0 else if w = 4 then (if ¬ V 9 m 0 0 = 0 then 1 else 0) else if w = 5 then vCopies V m else if w = 6 then vDesc V m else if w = 7 then (if V 6 m 0 0 = -1 then 0 else vD V m (V 6 m 0 0)) else vD V m (org (vEx V) m)
def vGuess (V : VT) (m : Int) : Int := if V 9 m 0 0 = 0 then -1 else gsI (fun k => V 9 k 0 0) (fun k => vD V m k) m
def vRight (V : VT) (m : Int) : Int := if ¬ V 9 m 0 0 = 0 ∧ ¬ V 6 m 0 0 = -1 ∧ vGuess V m = V 6 m 0 0 then 1 else 0
def vCounted (V : VT) (w : Int) : Int := if w = 0 then vN V else if w = 1 then vThere V else if w = 2 then V 3 0 0 0 else if w = 3 then sumI (fun m => if V 6 m 0 0 = -1 then 1 else 0) (vN V) else if w = 4 then maxI (fun m => V 8 m 0 0) (vN V) else if w = 5 then V 0 0 0 0 else if w = 6 then sumI (fun m => if ¬ V 9 m 0 0 = 0 then V 4 m 0 0 else 0) (vN V) else sumI (vRight V) (vN V)
def vMany (V : VT) (s : Int) : Int := sumI (fun m => if ¬ V 9 m 0 0 = 0 ∧ V 4 m 0 0 = s then 1 else 0) (vN V)
def vLen (V : VT) : Int := amxI (vMany V) 121
def vManyL (V : VT) (p s b : Int) : Int := sumI (fun m => if ¬ V 9 m 0 0 = 0 ∧ V 4 m 0 0 = s ∧ V 5 m p 0 = 97 + b then 1 else 0) (vN V)
def vLet (V : VT) (p s : Int) : Int := 97 + amxI (vManyL V p s) 26
def vVote (V : VT) : WO := (fun p => vLet V p (vLen V), vLen V)
def vCopyW (V : VT) (s : Int) (w : WO) : WO := scW (vHa V s) (V 10 s 0 0) w
def vTrial (V : VT) (m s t : Int) : WO := fdT (fun w _ => vCopyW V s w) (vTx V m) t
def vFar (V : VT) (m s : Int) : Int := levW (vCopyW V s (vTx V m)) (vTx V m)
def avF (D : Int → Int) : Int → Int → Int := fun best s => if best = -1 ∨ D s < D best then s else best
def vAdvise (V : VT) (m : Int) : Int := fdI (avF (vFar V m)) (-1) (V 3 0 0 0)
def fnN (w : WO) (a b : Int) : Nat → Int → Int
  | 0, _ => -1
  | d + 1, k => if k < w.2 then (if w.1 k = 97 + a ∧ (b = -1 ∨ (k + 1 < w.2 ∧ w.1 (k + 1) = 97 + b)) then k else fnN w a b d (k + 1)) else -1
def vFind (V : VT) (m k a b : Int) : Int := fnN (vTx V m) a b ((vTx V m).2 - k).toNat k
def vDg1 (V : VT) : Int := dgI (vCounted V) 491 8
def vDgS (V : VT) : Int → Int → Int := fun d s => dgI (fun k => V 11 s (k / 4) (k % 4)) (d * 31 + V 10 s 0 0) (4 * V 10 s 0 0)
def vDgM (V : VT) : Int → Int → Int := fun d m => dgI (fun p => V 5 m p 0) (dgI (vTold V m) d 9 * 31 + vGuess V m) (V 4 m 0 0)
def vDigest (V : VT) : Int := dgI (fun p => vLet V p (vLen V)) (fdI (vDgM V) (fdI (vDgS V) (vDg1 V) (V 3 0 0 0)) (vN V) * 31 + vLen V) (vLen V)
def vSum (V : VT) : Int := sumI (fun m => if ¬ V 9 m 0 0 = 0 then vD V m (org (vEx V) m) else 0) (vN V)
