/-! WHERE THE HOUSE AND THE REFERENCE SHOW THE SAME, THEY ANSWER THE SAME, AND SHOW THE SAME AGAIN -/
theorem t_c1 {c : Prop} [Decidable c] (h : (if c then (0 : Int) else 1) = 0) : c := by
  by_cases hc : c
  · exact hc
  · rw [if_neg hc] at h; exact absurd h (by decide)
theorem t_c1' {c : Prop} [Decidable c] (h : (if c then (1 : Int) else 0) = 0) : ¬ c := by
  intro hc
  rw [if_pos hc] at h; exact absurd h (by decide)
theorem t_c2 {c d : Prop} [Decidable c] [Decidable d] (h : (if c then (1 : Int) else if d then 2 else 0) = 0) : ¬ c ∧ ¬ d := by
  by_cases hc : c <;> by_cases hd : d <;> simp [hc, hd] at h ⊢
theorem t_c3 {c d e : Prop} [Decidable c] [Decidable d] [Decidable e] (h : (if c then (1 : Int) else if d then 2 else if e then 3 else 0) = 0) : ¬ c ∧ ¬ d ∧ ¬ e := by
  by_cases hc : c <;> by_cases hd : d <;> by_cases he : e <;> simp [hc, hd, he] at h ⊢
theorem t_r1 {c : Prop} [Decidable c] : in32 (if c then (0 : Int) else 1) := by by_cases hc : c <;> simp [hc, in32]
theorem t_r1' {c : Prop} [Decidable c] : in32 (if c then (1 : Int) else 0) := by by_cases hc : c <;> simp [hc, in32]
theorem t_r2 {c d : Prop} [Decidable c] [Decidable d] : in32 (if c then (1 : Int) else if d then 2 else 0) := by by_cases hc : c <;> by_cases hd : d <;> simp [hc, hd, in32]
theorem t_r3 {c d e : Prop} [Decidable c] [Decidable d] [Decidable e] : in32 (if c then (1 : Int) else if d then 2 else if e then 3 else 0) := by by_cases hc : c <;> by_cases hd : d <;> by_cases he : e <;> simp [hc, hd, he, in32]
section JOIN
variable {V U V' U' : VT} {r v : Int}
theorem J_feed (h : VE V U) (o : VO V) {a b d e f : Int} (hr : r = V 0 0 0 0 + 20 ∧ VE V' (nFeed V a b d e f)) (hv : v = U 0 0 0 0 + 20 ∧ VE U' (nFeed U a b d e f)) : v = r ∧ VE V' U' :=
  ⟨by rw [hr.1, hv.1, h.tl], hr.2.trans ((h.feed a b d e f).trans hv.2.symm)⟩
theorem J_trim (h : VE V U) (o : VO V) {n : Int} (ht : tTrim V n = 0) (hr : r = n ∧ VE V' (nTrim V n)) (hv : v = n ∧ VE U' (nTrim U n)) : v = r ∧ VE V' U' :=
  ⟨hv.1.trans hr.1.symm, hr.2.trans ((h.trim (t_c1 ht).2).trans hv.2.symm)⟩
theorem J_write (h : VE V U) (o : VO V) (hr : (vGood V ∧ r = vN V ∧ VE V' (nKeep (nTrim V 0) (vTape V) (-1) (-1))) ∨ (¬ vGood V ∧ r = -1 ∧ VE V' (nTrim V 0))) (hv : (vGood U ∧ v = vN U ∧ VE U' (nKeep (nTrim U 0) (vTape U) (-1) (-1))) ∨ (¬ vGood U ∧ v = -1 ∧ VE U' (nTrim U 0))) (h0 : 0 ≤ V 0 0 0 0) (h1 : 0 ≤ vN V) : v = r ∧ VE V' U' := by
  have ht := h.trim h0
  rcases hr with ⟨g1, r1, r2⟩ | ⟨g1, r1, r2⟩
  · rcases hv with ⟨g2, v1, v2⟩ | ⟨g2, v1, v2⟩
    · exact ⟨by rw [r1, v1, h.nn], r2.trans ((ht.keep h.tape ⟨by omega, by show (-1 : Int) < vN V; omega⟩).trans v2.symm)⟩
    · exact absurd (h.good.mp g1) g2
  · rcases hv with ⟨g2, v1, v2⟩ | ⟨g2, v1, v2⟩
    · exact absurd (h.good.mpr g2) g1
    · exact ⟨v1.trans r1.symm, r2.trans (ht.trans v2.symm)⟩
theorem J_letter (h : VE V U) (o : VO V) {m p : Int} (ht : tLetter V m p = 0) (hr : r = V 5 m p 0 ∧ VE V' V) (hv : v = U 5 m p 0 ∧ VE U' U) : v = r ∧ VE V' U' := by
  obtain ⟨⟨m0, m1⟩, p0, p1⟩ := t_c1 ht
  have e := (h.tx m0 m1).2 p p0 p1
  exact ⟨by rw [hr.1, hv.1]; exact e.symm, hr.2.trans (h.trans hv.2.symm)⟩
theorem J_addScribe (h : VE V U) (o : VO V) (hr : r = V 3 0 0 0 ∧ VE V' (nScribe V)) (hv : v = U 3 0 0 0 ∧ VE U' (nScribe U)) : v = r ∧ VE V' U' :=
  ⟨by rw [hr.1, hv.1, h.ns], hr.2.trans (h.scribe.trans hv.2.symm)⟩
theorem J_addHabit (h : VE V U) (o : VO V) {s kind a b n : Int} (ht : tAddH V s kind a b n = 0) (hr : r = V 10 s 0 0 + 1 ∧ VE V' (nHabit V s kind a b n)) (hv : v = U 10 s 0 0 + 1 ∧ VE U' (nHabit U s kind a b n)) : v = r ∧ VE V' U' := by
  obtain ⟨c1, c2, c3⟩ := t_c3 ht
  have c1 := Decidable.not_not.mp c1
  exact ⟨by rw [hr.1, hv.1, h.e10 c1.1 c1.2], hr.2.trans ((h.habit c1.1 c1.2).trans hv.2.symm)⟩
theorem J_dropHabit (h : VE V U) (o : VO V) {s j : Int} (ht : tDrop V s j = 0) (hr : r = V 10 s 0 0 - 1 ∧ VE V' (nDrop V s j)) (hv : v = U 10 s 0 0 - 1 ∧ VE U' (nDrop U s j)) : v = r ∧ VE V' U' := by
  obtain ⟨⟨s0, s1⟩, j0, j1⟩ := t_c1 ht
  exact ⟨by rw [hr.1, hv.1, h.e10 s0 s1], hr.2.trans ((h.drop s0 s1 j0).trans hv.2.symm)⟩
theorem J_habit (h : VE V U) (o : VO V) {s k w : Int} (ht : tHabit V s k w = 0) (hr : r = V 11 s k w ∧ VE V' V) (hv : v = U 11 s k w ∧ VE U' U) : v = r ∧ VE V' U' := by
  obtain ⟨⟨s0, s1⟩, ⟨k0, k1⟩, w0, w1⟩ := t_c1 ht
  exact ⟨by rw [hr.1, hv.1, h.e11 s0 s1 k0 k1 w0 w1], hr.2.trans (h.trans hv.2.symm)⟩
theorem J_copy (h : VE V U) (o : VO V) {m s : Int} (ht : tCopy V m s = 0) (hr : r = vN V ∧ VE V' (nKeep V (vCopyW V s (vTx V m)) m s)) (hv : v = vN U ∧ VE U' (nKeep U (vCopyW U s (vTx U m)) m s)) : v = r ∧ VE V' U' := by
  obtain ⟨c1, c2⟩ := t_c2 ht
  have m1 : 0 ≤ m ∧ m < vN V := Decidable.byContradiction (fun z => c1 (Or.inl z))
  have s1 : 0 ≤ s ∧ s < V 3 0 0 0 := Decidable.byContradiction (fun z => c1 (Or.inr z))
  exact ⟨by rw [hr.1, hv.1, h.nn], hr.2.trans ((h.keep (h.copyW o s1.1 s1.2 (h.tx m1.1 m1.2)) ⟨by omega, m1.2⟩).trans hv.2.symm)⟩
theorem J_emend (h : VE V U) (o9 : VO V) {m o place many : Int} (ht : tEmend V m o place many = 0) (hr : r = vOthers V m o place many ∧ VE V' (nEmend V m o place many)) (hv : v = vOthers U m o place many ∧ VE U' (nEmend U m o place many)) : v = r ∧ VE V' U' := by
  obtain ⟨c1, c2, c3⟩ := t_c3 ht
  have m1 : 0 ≤ m ∧ m < vN V := Decidable.byContradiction (fun z => c1 (Or.inl z))
  have s1 : 0 ≤ o ∧ o < vN V := Decidable.byContradiction (fun z => c1 (Or.inr z))
  have p0 : 0 ≤ place := by omega
  have e1 : place + many ≤ V 4 m 0 0 := by omega
  have e2 : place + many ≤ V 4 o 0 0 := by omega
  exact ⟨by rw [hr.1, hv.1, h.others m1.1 m1.2 s1.1 s1.2 p0 e1 e2], hr.2.trans ((h.emend s1.1 s1.2 p0 e2).trans hv.2.symm)⟩
theorem J_lose (h : VE V U) (o : VO V) {m : Int} (hr : r = vThere V' ∧ VE V' (nLose V m)) (hv : v = vThere U' ∧ VE U' (nLose U m)) : v = r ∧ VE V' U' := by
  have e := hr.2.trans ((h.lose m).trans hv.2.symm)
  exact ⟨by rw [hr.1, hv.1, e.there], e⟩
theorem J_manuscript (h : VE V U) (o : VO V) {m w : Int} (ht : tManu V m w = 0) (hr : r = vTold V m w ∧ VE V' V) (hv : v = vTold U m w ∧ VE U' U) : v = r ∧ VE V' U' := by
  obtain ⟨⟨m0, m1⟩, w0, w1⟩ := t_c1 ht
  exact ⟨by rw [hr.1, hv.1, h.told o m0 m1], hr.2.trans (h.trans hv.2.symm)⟩
theorem J_count (h : VE V U) (o : VO V) {w : Int} (hr : r = vCounted V w ∧ VE V' V) (hv : v = vCounted U w ∧ VE U' U) : v = r ∧ VE V' U' :=
  ⟨by rw [hr.1, hv.1, h.counted], hr.2.trans (h.trans hv.2.symm)⟩
theorem J_distance (h : VE V U) (o : VO V) {a b : Int} (ht : tTwo V a b = 0) (hr : r = vD V a b ∧ VE V' V) (hv : v = vD U a b ∧ VE U' U) : v = r ∧ VE V' U' := by
  obtain ⟨⟨a0, a1⟩, b0, b1⟩ := t_c1 ht
  exact ⟨by rw [hr.1, hv.1, h.d a0 a1 b0 b1], hr.2.trans (h.trans hv.2.symm)⟩
theorem J_common (h : VE V U) (o : VO V) {a b : Int} (ht : tTwo V a b = 0) (hr : r = comm (vEx V) a b ∧ VE V' V) (hv : v = comm (vEx U) a b ∧ VE U' U) : v = r ∧ VE V' U' := by
  obtain ⟨⟨a0, a1⟩, b0, b1⟩ := t_c1 ht
  exact ⟨by rw [hr.1, hv.1, h.commE o a0 a1 b0 b1], hr.2.trans (h.trans hv.2.symm)⟩
theorem J_guess (h : VE V U) (o : VO V) {a : Int} (ht : tOne V a = 0) (hr : r = vGuess V a ∧ VE V' V) (hv : v = vGuess U a ∧ VE U' U) : v = r ∧ VE V' U' := by
  obtain ⟨a0, a1⟩ := t_c1 ht
  exact ⟨by rw [hr.1, hv.1, h.guess a0 a1], hr.2.trans (h.trans hv.2.symm)⟩
theorem J_find (h : VE V U) (o : VO V) {m k a b : Int} (ht : tFind V m k a b = 0) (hr : r = vFind V m k a b ∧ VE V' V) (hv : v = vFind U m k a b ∧ VE U' U) : v = r ∧ VE V' U' := by
  obtain ⟨c1, c2⟩ := t_c2 ht
  have c1 := Decidable.not_not.mp c1
  exact ⟨by rw [hr.1, hv.1, h.find c1.1 c1.2 (by omega)], hr.2.trans (h.trans hv.2.symm)⟩
theorem J_vote (h : VE V U) (o : VO V) {p : Int} (ht : tVote V p = 0) (hr : r = vLet V p (vLen V) ∧ VE V' V) (hv : v = vLet U p (vLen U) ∧ VE U' U) : v = r ∧ VE V' U' := by
  obtain ⟨p0, p1⟩ := t_c1 ht
  exact ⟨by rw [hr.1, hv.1, ← h.len, h.let p0 p1], hr.2.trans (h.trans hv.2.symm)⟩
theorem J_voteDistance (h : VE V U) (o : VO V) {a : Int} (ht : tOne V a = 0) (hr : r = levW (vVote V) (vTx V a) ∧ VE V' V) (hv : v = levW (vVote U) (vTx U a) ∧ VE U' U) : v = r ∧ VE V' U' := by
  obtain ⟨a0, a1⟩ := t_c1 ht
  exact ⟨by rw [hr.1, hv.1, h.voteD a0 a1], hr.2.trans (h.trans hv.2.symm)⟩
theorem J_trial (h : VE V U) (o : VO V) {m s t w : Int} (ht : tTrial V m s t w = 0) (hr : r = vTrialA V m s t w ∧ VE V' V) (hv : v = vTrialA U m s t w ∧ VE U' U) : v = r ∧ VE V' U' := by
  obtain ⟨c1, c2, c3⟩ := t_c3 ht
  have m1 : 0 ≤ m ∧ m < vN V := Decidable.byContradiction (fun z => c1 (Or.inl z))
  have s1 : 0 ≤ s ∧ s < V 3 0 0 0 := Decidable.byContradiction (fun z => c1 (Or.inr (Or.inl z)))
  exact ⟨by rw [hr.1, hv.1, h.trialA o m1.1 m1.2 s1.1 s1.2 (by omega)], hr.2.trans (h.trans hv.2.symm)⟩
theorem J_advise (h : VE V U) (o : VO V) {a : Int} (ht : tAdvise V a = 0) (hr : r = vAdvise V a ∧ VE V' V) (hv : v = vAdvise U a ∧ VE U' U) : v = r ∧ VE V' U' := by
  obtain ⟨c1, c2⟩ := t_c2 ht
  have c1 := Decidable.not_not.mp c1
  exact ⟨by rw [hr.1, hv.1, h.advise o c1.1 c1.2], hr.2.trans (h.trans hv.2.symm)⟩
end JOIN
