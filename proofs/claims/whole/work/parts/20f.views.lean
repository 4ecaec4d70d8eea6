/-! WHAT THE CALLS THROW AND ANSWER, AND WHAT BECOMES OF THE HOUSE -/
def isT (V : VT) (m : Int) : Prop := 0 ≤ m ∧ m < vN V
def isS (V : VT) (s : Int) : Prop := 0 ≤ s ∧ s < V 3 0 0 0
def bw (lo v hi : Int) : Prop := lo ≤ v ∧ v ≤ hi
def tLetter (V : VT) (m p : Int) : Int := if (0 ≤ m ∧ m < vN V) ∧ 0 ≤ p ∧ p < V 4 m 0 0 then 0 else 1
def tHabit (V : VT) (s k w : Int) : Int := if (0 ≤ s ∧ s < V 3 0 0 0) ∧ (0 ≤ k ∧ k < V 10 s 0 0) ∧ 0 ≤ w ∧ w ≤ 3 then 0 else 1
def tManu (V : VT) (m w : Int) : Int := if (0 ≤ m ∧ m < vN V) ∧ 0 ≤ w ∧ w ≤ 8 then 0 else 1
def tCount (w : Int) : Int := if 0 ≤ w ∧ w ≤ 7 then 0 else 1
def tTwo (V : VT) (a b : Int) : Int := if (0 ≤ a ∧ a < vN V) ∧ 0 ≤ b ∧ b < vN V then 0 else 1
def tOne (V : VT) (a : Int) : Int := if 0 ≤ a ∧ a < vN V then 0 else 1
def tFind (V : VT) (m k a b : Int) : Int := if ¬ (0 ≤ m ∧ m < vN V) then 1 else if k < 0 ∨ ¬ (0 ≤ a ∧ a ≤ 25) ∨ ¬ (-1 ≤ b ∧ b ≤ 25) then 2 else 0
def tVote (V : VT) (p : Int) : Int := if 0 ≤ p ∧ p < vLen V then 0 else 1
def tTrial (V : VT) (m s t w : Int) : Int := if ¬ (0 ≤ m ∧ m < vN V) ∨ ¬ (0 ≤ s ∧ s < V 3 0 0 0) ∨ ¬ (0 ≤ w ∧ w ≤ 1) then 1 else if ¬ (1 ≤ t ∧ t ≤ 20) then 2 else if V 9 m 0 0 = 0 then 3 else 0
def tAdvise (V : VT) (m : Int) : Int := if ¬ (0 ≤ m ∧ m < vN V) then 1 else if V 9 m 0 0 = 0 then 2 else 0
def vTrialA (V : VT) (m s t w : Int) : Int := if w = 0 then (vTrial V m s t).2 else levW (vTrial V m s t) (vTx V m)
theorem vTrial_ok {V : VT} {m s : Int} (hh : okHab (vHa V s) (V 10 s 0 0)) (h0 : 0 ≤ V 10 s 0 0) (ht : okW (vTx V m)) : ∀ t, 0 ≤ t → okW (vTrial V m s t) := by
  intro t h
  refine int_up (P := fun t => okW (vTrial V m s t)) (by unfold vTrial; rw [fdT_0]; exact ht) (fun i hi ih => ?_) t h
  unfold vTrial at ih ⊢
  rw [fdT_s _ _ hi]
  exact scW_ok hh ih _ h0 (Int.le_refl _)
theorem fnN_no {w : WO} {a b : Int} {d : Nat} {k : Int} (h : k < w.2) (hn : ¬ (w.1 k = 97 + a ∧ (b = -1 ∨ (k + 1 < w.2 ∧ w.1 (k + 1) = 97 + b)))) : fnN w a b (d + 1) k = fnN w a b d (k + 1) := by
  show (if k < w.2 then (if w.1 k = 97 + a ∧ (b = -1 ∨ (k + 1 < w.2 ∧ w.1 (k + 1) = 97 + b)) then k else fnN w a b d (k + 1)) else -1) = _
  rw [if_pos h, if_neg hn]
theorem fnN_yes {w : WO} {a b : Int} {d : Nat} {k : Int} (h : k < w.2) (hn : w.1 k = 97 + a ∧ (b = -1 ∨ (k + 1 < w.2 ∧ w.1 (k + 1) = 97 + b))) : fnN w a b (d + 1) k = k := by
  show (if k < w.2 then (if w.1 k = 97 + a ∧ (b = -1 ∨ (k + 1 < w.2 ∧ w.1 (k + 1) = 97 + b)) then k else fnN w a b d (k + 1)) else -1) = _
  rw [if_pos h, if_pos hn]
