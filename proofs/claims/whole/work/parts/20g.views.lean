/-! TWO HOUSES THAT SHOW THE SAME; WHAT BECOMES OF ONE -/
def VE (V U : VT) : Prop := V 0 0 0 0 = U 0 0 0 0 ∧ (∀ i, 0 ≤ i → i < V 0 0 0 0 → V 1 i 0 0 = U 1 i 0 0) ∧ vN V = vN U ∧ V 3 0 0 0 = U 3 0 0 0 ∧
  (∀ m, 0 ≤ m → m < vN V → eqW (vTx V m) (vTx U m) ∧ V 6 m 0 0 = U 6 m 0 0 ∧ V 7 m 0 0 = U 7 m 0 0 ∧ V 8 m 0 0 = U 8 m 0 0 ∧ V 9 m 0 0 = U 9 m 0 0) ∧
  (∀ s, 0 ≤ s → s < V 3 0 0 0 → V 10 s 0 0 = U 10 s 0 0 ∧ ∀ k, 0 ≤ k → k < V 10 s 0 0 → ∀ p, 0 ≤ p → p ≤ 3 → V 11 s k p = U 11 s k p)
theorem VE.rfl {V : VT} : VE V V := ⟨Eq.refl _, fun _ _ _ => Eq.refl _, Eq.refl _, Eq.refl _, fun _ _ _ => ⟨eqW.rfl, Eq.refl _, Eq.refl _, Eq.refl _, Eq.refl _⟩, fun _ _ _ => ⟨Eq.refl _, fun _ _ _ _ _ _ => Eq.refl _⟩⟩
theorem VE.symm {V U : VT} (h : VE V U) : VE U V := by
  obtain ⟨h1, h2, h3, h4, h5, h6⟩ := h
  refine ⟨h1.symm, fun i a b => (h2 i a (by omega)).symm, h3.symm, h4.symm, fun m a b => ?_, fun s a b => ?_⟩
  · obtain ⟨x1, x2, x3, x4, x5⟩ := h5 m a (by omega)
    exact ⟨x1.symm, x2.symm, x3.symm, x4.symm, x5.symm⟩
  · obtain ⟨x1, x2⟩ := h6 s a (by omega)
    exact ⟨x1.symm, fun k c d p e f => (x2 k c (by omega) p e f).symm⟩
theorem VE.trans {V U W : VT} (h : VE V U) (g : VE U W) : VE V W := by
  obtain ⟨h1, h2, h3, h4, h5, h6⟩ := h
  obtain ⟨g1, g2, g3, g4, g5, g6⟩ := g
  refine ⟨h1.trans g1, fun i a b => (h2 i a b).trans (g2 i a (by omega)), h3.trans g3, h4.trans g4, fun m a b => ?_, fun s a b => ?_⟩
  · obtain ⟨x1, x2, x3, x4, x5⟩ := h5 m a b
    obtain ⟨y1, y2, y3, y4, y5⟩ := g5 m a (by omega)
    exact ⟨x1.trans y1, x2.trans y2, x3.trans y3, x4.trans y4, x5.trans y5⟩
  · obtain ⟨x1, x2⟩ := h6 s a b
    obtain ⟨y1, y2⟩ := g6 s a (by omega)
    exact ⟨x1.trans y1, fun k c d p e f => (x2 k c d p e f).trans (y2 k c (by omega) p e f)⟩
def byt (x k : Int) : Int := zAnd (zShr x (8 * k)) 255
def pk5 (a b c d e : Int) : Int → Int := upI (upI (upI (upI (upI (fun _ => 0) 0 a) 1 b) 2 c) 3 d) 4 e
def nFeed (V : VT) (a b c d e : Int) : VT := fun q i j k => if q = 0 then V 0 0 0 0 + 20 else if q = 1 then (if i < V 0 0 0 0 then V 1 i 0 0 else byt (pk5 a b c d e ((i - V 0 0 0 0) / 4)) (3 - (i - V 0 0 0 0) % 4)) else V q i j k
def nTrim (V : VT) (n : Int) : VT := fun q i j k => if q = 0 then n else V q i j k
def nKeep (V : VT) (w : WO) (ex sc : Int) : VT := fun q i j k => if q = 2 then V 2 0 0 0 + 1 else if q = 4 ∧ i = V 2 0 0 0 then w.2 else if q = 5 ∧ i = V 2 0 0 0 then w.1 j else if q = 6 ∧ i = V 2 0 0 0 then ex else if q = 7 ∧ i = V 2 0 0 0 then sc else if q = 8 ∧ i = V 2 0 0 0 then (if ex = -1 then 0 else V 8 ex 0 0 + 1) else if q = 9 ∧ i = V 2 0 0 0 then 1 else V q i j k
def nScribe (V : VT) : VT := fun q i j k => if q = 3 then V 3 0 0 0 + 1 else if q = 10 ∧ i = V 3 0 0 0 then 0 else V q i j k
def nHabit (V : VT) (s kind a b n : Int) : VT := fun q i j k => if q = 10 ∧ i = s then V 10 s 0 0 + 1 else if q = 11 ∧ i = s ∧ j = V 10 s 0 0 then (if k = 0 then kind else if k = 1 then a else if k = 2 then b else n) else V q i j k
def nDrop (V : VT) (s h : Int) : VT := fun q i j k => if q = 10 ∧ i = s then V 10 s 0 0 - 1 else if q = 11 ∧ i = s ∧ h ≤ j then V 11 s (j + 1) k else V q i j k
def nEmend (V : VT) (m o place many : Int) : VT := fun q i j k => if q = 5 ∧ i = m ∧ place ≤ j ∧ j < place + many then V 5 o j 0 else V q i j k
def nLose (V : VT) (m : Int) : VT := fun q i j k => if q = 9 ∧ i = m then 0 else V q i j k
def vGood (V : VT) : Prop := 0 < V 0 0 0 0 ∧ ∀ i, 0 ≤ i → i < V 0 0 0 0 → 97 ≤ V 1 i 0 0 ∧ V 1 i 0 0 ≤ 122
def vTape (V : VT) : WO := (fun i => V 1 i 0 0, V 0 0 0 0)
def vOthers (V : VT) (m o place many : Int) : Int := sumI (fun i => if ¬ V 5 m (place + i) 0 = V 5 o (place + i) 0 then 1 else 0) many
def tFeed (V : VT) : Int := if V 0 0 0 0 + 20 ≤ 60 then 0 else 1
def tTrim (V : VT) (n : Int) : Int := if 0 ≤ n ∧ n ≤ V 0 0 0 0 then 0 else 1
def tWrite (V : VT) : Int := if vN V = 24 then 1 else 0
def tAddS (V : VT) : Int := if V 3 0 0 0 = 8 then 1 else 0
def tAddH (V : VT) (s kind a b n : Int) : Int := if ¬ (0 ≤ s ∧ s < V 3 0 0 0) then 1 else if ¬ (0 ≤ kind ∧ kind ≤ 4) ∨ ¬ (0 ≤ a ∧ a ≤ 25) ∨ ¬ (0 ≤ b ∧ b ≤ 25) ∨ ¬ (1 ≤ n ∧ n ≤ 9) then 2 else if V 10 s 0 0 = 5 then 3 else 0
def tDrop (V : VT) (s h : Int) : Int := if (0 ≤ s ∧ s < V 3 0 0 0) ∧ 0 ≤ h ∧ h < V 10 s 0 0 then 0 else 1
def tCopy (V : VT) (m s : Int) : Int := if ¬ (0 ≤ m ∧ m < vN V) ∨ ¬ (0 ≤ s ∧ s < V 3 0 0 0) then 1 else if V 9 m 0 0 = 0 ∨ vN V = 24 then 2 else 0
def tEmend (V : VT) (m o place many : Int) : Int := if ¬ (0 ≤ m ∧ m < vN V) ∨ ¬ (0 ≤ o ∧ o < vN V) then 1 else if ¬ (1 ≤ many ∧ many ≤ 120) ∨ place < 0 ∨ V 4 m 0 0 < place + many ∨ V 4 o 0 0 < place + many then 2 else if V 9 m 0 0 = 0 ∨ V 9 o 0 0 = 0 then 3 else 0
def tLose (V : VT) (m : Int) : Int := if ¬ (0 ≤ m ∧ m < vN V) then 1 else if V 9 m 0 0 = 0 then 2 else 0
theorem zAnd255 (x : Int) : 0 ≤ zAnd x 255 ∧ zAnd x 255 ≤ 255 := by
  unfold zAnd
  have h : (iZ x &&& iZ 255).toBitVec.toNat ≤ 255 := by
    show ((iZ x).toBitVec &&& (iZ 255).toBitVec).toNat ≤ 255
    rw [BitVec.toNat_and]
    exact Nat.and_le_right
  have e : (iZ x &&& iZ 255).toInt = ((iZ x &&& iZ 255).toBitVec.toNat : Int) := by
    show (iZ x &&& iZ 255).toBitVec.toInt = _
    rw [BitVec.toInt_eq_toNat_of_lt (by omega)]
  omega
theorem nK_4 (V : VT) (w : WO) (ex sc : Int) : nKeep V w ex sc 4 (V 2 0 0 0) 0 0 = w.2 := by simp [nKeep]
theorem nK_5 (V : VT) (w : WO) (ex sc j : Int) : nKeep V w ex sc 5 (V 2 0 0 0) j 0 = w.1 j := by simp [nKeep]
theorem nK_6 (V : VT) (w : WO) (ex sc : Int) : nKeep V w ex sc 6 (V 2 0 0 0) 0 0 = ex := by simp [nKeep]
theorem nK_7 (V : VT) (w : WO) (ex sc : Int) : nKeep V w ex sc 7 (V 2 0 0 0) 0 0 = sc := by simp [nKeep]
theorem nK_8 (V : VT) (w : WO) (ex sc : Int) : nKeep V w ex sc 8 (V 2 0 0 0) 0 0 = (if ex = -1 then 0 else V 8 ex 0 0 + 1) := by simp [nKeep]
theorem nK_9 (V : VT) (w : WO) (ex sc : Int) : nKeep V w ex sc 9 (V 2 0 0 0) 0 0 = 1 := by simp [nKeep]
theorem nK_o (V : VT) (w : WO) (ex sc : Int) {q : Nat} {i j k : Int} (h2 : ¬ q = 2) (h : ¬ i = V 2 0 0 0) : nKeep V w ex sc q i j k = V q i j k := by simp [nKeep, h2, h]
