/-! WHAT BECOMES OF HOUSES THAT SHOW THE SAME SHOWS THE SAME; THEY THROW THE SAME -/
section CONGR2
variable {V U : VT}
theorem VE.feed (h : VE V U) (a b c d e : Int) : VE (nFeed V a b c d e) (nFeed U a b c d e) := by
  refine ⟨by show V 0 0 0 0 + 20 = U 0 0 0 0 + 20; rw [h.1], fun i x z => ?_, h.2.2.1, h.2.2.2.1, h.2.2.2.2.1, h.2.2.2.2.2⟩
  have z' : i < V 0 0 0 0 + 20 := z
  have eV : nFeed V a b c d e 1 i 0 0 = if i < V 0 0 0 0 then V 1 i 0 0 else byt (pk5 a b c d e ((i - V 0 0 0 0) / 4)) (3 - (i - V 0 0 0 0) % 4) := Eq.refl _
  have eU : nFeed U a b c d e 1 i 0 0 = if i < U 0 0 0 0 then U 1 i 0 0 else byt (pk5 a b c d e ((i - U 0 0 0 0) / 4)) (3 - (i - U 0 0 0 0) % 4) := Eq.refl _
  rw [eV, eU, h.tl]
  by_cases q : i < V 0 0 0 0
  · rw [if_pos q, if_pos q]; exact h.2.1 i x q
  · rw [if_neg q, if_neg q]
theorem VE.trim (h : VE V U) {n : Int} (hn : n ≤ V 0 0 0 0) : VE (nTrim V n) (nTrim U n) := ⟨Eq.refl _, fun i x z => h.2.1 i x (by have z' : i < n := z; omega), h.2.2.1, h.2.2.2.1, h.2.2.2.2.1, h.2.2.2.2.2⟩
theorem VE.scribe (h : VE V U) : VE (nScribe V) (nScribe U) := by
  refine ⟨h.1, h.2.1, h.2.2.1, by show V 3 0 0 0 + 1 = U 3 0 0 0 + 1; rw [h.2.2.2.1], h.2.2.2.2.1, fun s a b => ?_⟩
  have b' : s < V 3 0 0 0 + 1 := b
  have eV : nScribe V 10 s 0 0 = if (10 : Nat) = 10 ∧ s = V 3 0 0 0 then 0 else V 10 s 0 0 := Eq.refl _
  have eU : nScribe U 10 s 0 0 = if (10 : Nat) = 10 ∧ s = U 3 0 0 0 then 0 else U 10 s 0 0 := Eq.refl _
  rw [eV, eU, h.ns]
  by_cases q : s = V 3 0 0 0
  · rw [if_pos ⟨Eq.refl _, q⟩, if_pos ⟨Eq.refl _, q⟩]
    exact ⟨Eq.refl _, fun k x z => by omega⟩
  · rw [if_neg (fun w => q w.2), if_neg (fun w => q w.2)]
    exact ⟨h.e10 a (by omega), fun k x z p p0 p1 => h.e11 a (by omega) x z p0 p1⟩
theorem VE.habit (h : VE V U) {s kind a b n : Int} (s0 : 0 ≤ s) (s1 : s < V 3 0 0 0) : VE (nHabit V s kind a b n) (nHabit U s kind a b n) := by
  refine ⟨h.1, h.2.1, h.2.2.1, h.2.2.2.1, h.2.2.2.2.1, fun r x z => ?_⟩
  have z' : r < V 3 0 0 0 := z
  have eV : nHabit V s kind a b n 10 r 0 0 = if (10 : Nat) = 10 ∧ r = s then V 10 s 0 0 + 1 else V 10 r 0 0 := Eq.refl _
  have eU : nHabit U s kind a b n 10 r 0 0 = if (10 : Nat) = 10 ∧ r = s then U 10 s 0 0 + 1 else U 10 r 0 0 := Eq.refl _
  have e10 := h.e10 s0 s1
  have gV : ∀ k p, nHabit V s kind a b n 11 r k p = if (11 : Nat) = 11 ∧ r = s ∧ k = V 10 s 0 0 then (if p = 0 then kind else if p = 1 then a else if p = 2 then b else n) else V 11 r k p := fun k p => Eq.refl _
  have gU : ∀ k p, nHabit U s kind a b n 11 r k p = if (11 : Nat) = 11 ∧ r = s ∧ k = U 10 s 0 0 then (if p = 0 then kind else if p = 1 then a else if p = 2 then b else n) else U 11 r k p := fun k p => Eq.refl _
  rw [eV, eU]
  refine ⟨?_, fun k k0 k1 p p0 p1 => ?_⟩
  · by_cases q : r = s
    · rw [if_pos ⟨Eq.refl _, q⟩, if_pos ⟨Eq.refl _, q⟩, e10]
    · rw [if_neg (fun w => q w.2), if_neg (fun w => q w.2)]; exact h.e10 x z'
  · rw [gV, gU, ← e10]
    by_cases q : r = s ∧ k = V 10 s 0 0
    · have hq : (11 : Nat) = 11 ∧ r = s ∧ k = V 10 s 0 0 := ⟨Eq.refl _, q⟩
      rw [if_pos hq, if_pos hq]
    · rw [if_neg (fun w => q w.2), if_neg (fun w => q w.2)]
      refine h.e11 x z' k0 ?_ p0 p1
      by_cases q2 : r = s
      · rw [if_pos ⟨Eq.refl _, q2⟩] at k1
        rw [q2]
        have : ¬ k = V 10 s 0 0 := fun w => q ⟨q2, w⟩
        omega
      · rw [if_neg (fun w => q2 w.2)] at k1; exact k1
theorem VE.drop (h : VE V U) {s j : Int} (s0 : 0 ≤ s) (s1 : s < V 3 0 0 0) (j0 : 0 ≤ j) : VE (nDrop V s j) (nDrop U s j) := by
  refine ⟨h.1, h.2.1, h.2.2.1, h.2.2.2.1, h.2.2.2.2.1, fun r x z => ?_⟩
  have z' : r < V 3 0 0 0 := z
  have eV : nDrop V s j 10 r 0 0 = if (10 : Nat) = 10 ∧ r = s then V 10 s 0 0 - 1 else V 10 r 0 0 := Eq.refl _
  have eU : nDrop U s j 10 r 0 0 = if (10 : Nat) = 10 ∧ r = s then U 10 s 0 0 - 1 else U 10 r 0 0 := Eq.refl _
  have e10 := h.e10 s0 s1
  have gV : ∀ k p, nDrop V s j 11 r k p = if (11 : Nat) = 11 ∧ r = s ∧ j ≤ k then V 11 s (k + 1) p else V 11 r k p := fun k p => Eq.refl _
  have gU : ∀ k p, nDrop U s j 11 r k p = if (11 : Nat) = 11 ∧ r = s ∧ j ≤ k then U 11 s (k + 1) p else U 11 r k p := fun k p => Eq.refl _
  rw [eV, eU]
  refine ⟨?_, fun k k0 k1 p p0 p1 => ?_⟩
  · by_cases q : r = s
    · rw [if_pos ⟨Eq.refl _, q⟩, if_pos ⟨Eq.refl _, q⟩, e10]
    · rw [if_neg (fun w => q w.2), if_neg (fun w => q w.2)]; exact h.e10 x z'
  · rw [gV, gU]
    by_cases q2 : r = s
    · rw [if_pos ⟨Eq.refl _, q2⟩] at k1
      by_cases q : j ≤ k
      · rw [if_pos ⟨Eq.refl _, q2, q⟩, if_pos ⟨Eq.refl _, q2, q⟩]; exact h.e11 s0 s1 (by omega) (by omega) p0 p1
      · rw [if_neg (fun w => q w.2.2), if_neg (fun w => q w.2.2), q2]; exact h.e11 s0 s1 k0 (by omega) p0 p1
    · rw [if_neg (fun w => q2 w.2)] at k1
      rw [if_neg (fun w => q2 w.2.1), if_neg (fun w => q2 w.2.1)]; exact h.e11 x z' k0 k1 p0 p1
theorem VE.emend (h : VE V U) {m o place many : Int} (o0 : 0 ≤ o) (o1 : o < vN V) (p0 : 0 ≤ place) (hl : place + many ≤ V 4 o 0 0) : VE (nEmend V m o place many) (nEmend U m o place many) := by
  refine ⟨h.1, h.2.1, h.2.2.1, h.2.2.2.1, fun k a b => ⟨⟨h.e4 a b, fun p x z => ?_⟩, h.e6 a b, h.e7 a b, h.e8 a b, h.e9 a b⟩, h.2.2.2.2.2⟩
  have eV : nEmend V m o place many 5 k p 0 = if (5 : Nat) = 5 ∧ k = m ∧ place ≤ p ∧ p < place + many then V 5 o p 0 else V 5 k p 0 := Eq.refl _
  have eU : nEmend U m o place many 5 k p 0 = if (5 : Nat) = 5 ∧ k = m ∧ place ≤ p ∧ p < place + many then U 5 o p 0 else U 5 k p 0 := Eq.refl _
  show nEmend V m o place many 5 k p 0 = nEmend U m o place many 5 k p 0
  rw [eV, eU]
  by_cases q : k = m ∧ place ≤ p ∧ p < place + many
  · rw [if_pos ⟨Eq.refl _, q⟩, if_pos ⟨Eq.refl _, q⟩]; exact (h.tx o0 o1).2 p x (by show p < V 4 o 0 0; omega)
  · rw [if_neg (fun w => q w.2), if_neg (fun w => q w.2)]; exact (h.tx a b).2 p x z
theorem VE.lose (h : VE V U) (m : Int) : VE (nLose V m) (nLose U m) := by
  refine ⟨h.1, h.2.1, h.2.2.1, h.2.2.2.1, fun k a b => ⟨h.tx a b, h.e6 a b, h.e7 a b, h.e8 a b, ?_⟩, h.2.2.2.2.2⟩
  have eV : nLose V m 9 k 0 0 = if (9 : Nat) = 9 ∧ k = m then 0 else V 9 k 0 0 := Eq.refl _
  have eU : nLose U m 9 k 0 0 = if (9 : Nat) = 9 ∧ k = m then 0 else U 9 k 0 0 := Eq.refl _
  rw [eV, eU]
  by_cases q : k = m
  · rw [if_pos ⟨Eq.refl _, q⟩, if_pos ⟨Eq.refl _, q⟩]
  · rw [if_neg (fun w => q w.2), if_neg (fun w => q w.2)]; exact h.e9 a b
theorem VE.others (h : VE V U) {m o place many : Int} (m0 : 0 ≤ m) (m1 : m < vN V) (o0 : 0 ≤ o) (o1 : o < vN V) (p0 : 0 ≤ place) (h1 : place + many ≤ V 4 m 0 0) (h2 : place + many ≤ V 4 o 0 0) : vOthers V m o place many = vOthers U m o place many := by
  refine sumI_cong many (fun i a b => ?_)
  have e1 : V 5 m (place + i) 0 = U 5 m (place + i) 0 := (h.tx m0 m1).2 (place + i) (by omega) (by show place + i < V 4 m 0 0; omega)
  have e2 : V 5 o (place + i) 0 = U 5 o (place + i) 0 := (h.tx o0 o1).2 (place + i) (by omega) (by show place + i < V 4 o 0 0; omega)
  rw [e1, e2]
theorem VE.good (h : VE V U) : vGood V ↔ vGood U := by
  unfold vGood
  rw [h.tl]
  exact ⟨fun q => ⟨q.1, fun i a b => by rw [← h.2.1 i a b]; exact q.2 i a b⟩, fun q => ⟨q.1, fun i a b => by rw [h.2.1 i a b]; exact q.2 i a b⟩⟩
theorem VE.tape (h : VE V U) : eqW (vTape V) (vTape U) := ⟨h.1, fun k a b => h.2.1 k a b⟩
theorem VE.t_Letter (h : VE V U) (m p : Int) : tLetter V m p = tLetter U m p := by
  unfold tLetter
  rw [h.nn]
  by_cases q : 0 ≤ m ∧ m < vN V
  · rw [h.e4 q.1 q.2]
  · rw [if_neg (fun z => q z.1), if_neg (fun z => q z.1)]
theorem VE.t_Habit (h : VE V U) (s k w : Int) : tHabit V s k w = tHabit U s k w := by
  unfold tHabit
  rw [h.ns]
  by_cases q : 0 ≤ s ∧ s < V 3 0 0 0
  · rw [h.e10 q.1 q.2]
  · rw [if_neg (fun z => q z.1), if_neg (fun z => q z.1)]
theorem VE.t_Manu (h : VE V U) (m w : Int) : tManu V m w = tManu U m w := by unfold tManu; rw [h.nn]
theorem VE.t_Two (h : VE V U) (a b : Int) : tTwo V a b = tTwo U a b := by unfold tTwo; rw [h.nn]
theorem VE.t_One (h : VE V U) (a : Int) : tOne V a = tOne U a := by unfold tOne; rw [h.nn]
theorem VE.t_Find (h : VE V U) (m k a b : Int) : tFind V m k a b = tFind U m k a b := by unfold tFind; rw [h.nn]
theorem VE.t_Vote (h : VE V U) (p : Int) : tVote V p = tVote U p := by unfold tVote; rw [h.len]
theorem VE.t_Trial (h : VE V U) (m s t w : Int) : tTrial V m s t w = tTrial U m s t w := by
  unfold tTrial
  rw [h.nn, h.ns]
  by_cases q : 0 ≤ m ∧ m < vN V
  · rw [h.e9 q.1 q.2]
  · rw [if_pos (Or.inl q), if_pos (Or.inl q)]
theorem VE.t_Advise (h : VE V U) (m : Int) : tAdvise V m = tAdvise U m := by
  unfold tAdvise
  rw [h.nn]
  by_cases q : 0 ≤ m ∧ m < vN V
  · rw [h.e9 q.1 q.2]
  · rw [if_pos q, if_pos q]
theorem VE.t_Feed (h : VE V U) : tFeed V = tFeed U := by unfold tFeed; rw [h.tl]
theorem VE.t_Trim (h : VE V U) (n : Int) : tTrim V n = tTrim U n := by unfold tTrim; rw [h.tl]
theorem VE.t_Write (h : VE V U) : tWrite V = tWrite U := by unfold tWrite; rw [h.nn]
theorem VE.t_AddS (h : VE V U) : tAddS V = tAddS U := by unfold tAddS; rw [h.ns]
theorem VE.t_AddH (h : VE V U) (s kind a b n : Int) : tAddH V s kind a b n = tAddH U s kind a b n := by
  unfold tAddH
  rw [h.ns]
  by_cases q : 0 ≤ s ∧ s < V 3 0 0 0
  · rw [h.e10 q.1 q.2]
  · rw [if_pos q, if_pos q]
theorem VE.t_Drop (h : VE V U) (s j : Int) : tDrop V s j = tDrop U s j := by
  unfold tDrop
  rw [h.ns]
  by_cases q : 0 ≤ s ∧ s < V 3 0 0 0
  · rw [h.e10 q.1 q.2]
  · rw [if_neg (fun z => q z.1), if_neg (fun z => q z.1)]
theorem VE.t_Copy (h : VE V U) (m s : Int) : tCopy V m s = tCopy U m s := by
  unfold tCopy
  rw [h.nn, h.ns]
  by_cases q : 0 ≤ m ∧ m < vN V
  · rw [h.e9 q.1 q.2]
  · rw [if_pos (Or.inl q), if_pos (Or.inl q)]
theorem VE.t_Emend (h : VE V U) (m o place many : Int) : tEmend V m o place many = tEmend U m o place many := by
  unfold tEmend
  rw [h.nn]
  by_cases q : 0 ≤ m ∧ m < vN V
  · by_cases q2 : 0 ≤ o ∧ o < vN V
    · rw [h.e9 q.1 q.2, h.e9 q2.1 q2.2, h.e4 q.1 q.2, h.e4 q2.1 q2.2]
    · rw [if_pos (Or.inr q2), if_pos (Or.inr q2)]
  · rw [if_pos (Or.inl q), if_pos (Or.inl q)]
theorem VE.t_Lose (h : VE V U) (m : Int) : tLose V m = tLose U m := by
  unfold tLose
  rw [h.nn]
  by_cases q : 0 ≤ m ∧ m < vN V
  · rw [h.e9 q.1 q.2]
  · rw [if_pos q, if_pos q]
end CONGR2
