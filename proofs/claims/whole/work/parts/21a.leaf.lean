/-! THE REFERENCE'S SMALL METHODS -/
theorem s_X5_thrown : H_X5_thrown (fun _ => True) (fun σ => σ 0 0) := fun l L c σ _ => m_X5_thrown (fun K _ C => b_X5_thrown_0 C ⟨rfl, rfl⟩)
theorem s_X5_no : H_X5_no (fun _ _ => True) (fun σ k => upM σ 0 (fun _ => k)) := fun l L c σ v1 _ => m_X5_no (fun K _ C => b_X5_no_0 C ⟨rfl, rfl⟩)
def in32 (z : Int) : Prop := -2147483648 ≤ z ∧ z < 2147483648
def inB (v lo hi : Int) : Bool := decide (lo ≤ v ∧ v ≤ hi)
theorem inB_t {v lo hi : Int} : inB v lo hi = true ↔ lo ≤ v ∧ v ≤ hi := decide_eq_true_iff
theorem s_X5_isIn : H_X5_isIn (fun _ v lo hi => in32 v ∧ in32 lo ∧ in32 hi) (fun _ v lo hi => inB v lo hi) := fun l L c σ v0 v1 v2 hp => m_X5_isIn (fun K _ C => b_X5_isIn_0 C (by
  obtain ⟨h0, h1, h2⟩ := hp
  refine ⟨h0, h1, fun hc => ⟨?_, rfl⟩, fun hc => ⟨h2, fun hd => ⟨?_, rfl⟩, fun hd => ⟨?_, rfl⟩⟩⟩
  · rw [if_neg (fun q => by have := inB_t.mp q; omega)]
  · rw [if_neg (fun q => by have := inB_t.mp q; omega)]
  · rw [if_pos (inB_t.mpr (by omega))]))
theorem s_X5_isText : H_X5_isText (fun σ m => in32 m ∧ in32 (σ 3 0 - 1)) (fun σ m => inB m 0 (σ 3 0 - 1)) := fun l L c σ v1 hp => m_X5_isText (fun K _ C => b_X5_isText_0 C s_X5_isIn ⟨⟨hp.1, by unfold in32; omega, hp.2⟩, rfl, rfl⟩)
theorem s_X5_isScribe : H_X5_isScribe (fun σ m => in32 m ∧ in32 (σ 9 0 - 1)) (fun σ m => inB m 0 (σ 9 0 - 1)) := fun l L c σ v1 hp => m_X5_isScribe (fun K _ C => b_X5_isScribe_0 C s_X5_isIn ⟨⟨hp.1, by unfold in32; omega, hp.2⟩, rfl, rfl⟩)
