/-! FROM NAMES TO MAPS AND BACK -/
def CInj (y : LT) (σ : CS) : Prop := ∀ (κ : Nat) (i j : Int) (κ' : Nat) (i' j' : Int), cDom σ κ i j → cDom σ κ' i' j' → y.1 κ i j = y.1 κ' i' j' → κ = κ' ∧ i = i' ∧ j = j'
noncomputable def cmF (y : LT) (σ : CS) : Nat → Option va_E := fun a =>
  @dite _ (∃ p : Nat × Int × Int, cDom σ p.1 p.2.1 p.2.2 ∧ y.1 p.1 p.2.1 p.2.2 = a) (Classical.propDecidable _) (fun h => some (cCell y σ (Classical.choose h).1 (Classical.choose h).2.1 (Classical.choose h).2.2)) (fun _ => none)
def ctF (y : LT) (σ : CS) : ClassId → FieldType → Prop := fun c t => ∃ (κ : Nat) (i j : Int), cDom σ κ i j ∧ cArr κ = some t ∧ y.2.1 κ i j = c
/-- a map shows the house -/
def FWC (m : Nat → Option va_E) (t : ClassId → FieldType → Prop) (y : LT) (σ : CS) : Prop :=
  (∀ κ i j, cDom σ κ i j → m (y.1 κ i j) = some (cCell y σ κ i j)) ∧ (∀ κ i j ty, cDom σ κ i j → cArr κ = some ty → t (y.2.1 κ i j) ty) ∧ CInj y σ
theorem cm_FWC {y : LT} {σ : CS} (hj : CInj y σ) : FWC (cmF y σ) (ctF y σ) y σ := by
  refine ⟨fun κ i j hd => ?_, fun κ i j ty hd ha => ⟨κ, i, j, hd, ha, rfl⟩, hj⟩
  have h : ∃ p : Nat × Int × Int, cDom σ p.1 p.2.1 p.2.2 ∧ y.1 p.1 p.2.1 p.2.2 = y.1 κ i j := ⟨(κ, i, j), hd, rfl⟩
  unfold cmF
  rw [dif_pos h]
  obtain ⟨h1, h2⟩ := Classical.choose_spec h
  obtain ⟨e1, e2, e3⟩ := hj _ _ _ _ _ _ h1 hd h2
  rw [e1, e2, e3]
theorem CL_FW {y : LT} {σ : CS} {ws : va_W} {tys : TysT} (h : CL y σ ws tys) : FW (cmF y σ, ctF y σ) ws tys := by
  refine ⟨fun a e he => ?_, fun c t hc => ?_⟩
  · have he' : cmF y σ a = some e := he
    unfold cmF at he'
    split at he'
    · rename_i hx
      obtain ⟨h1, h2⟩ := Classical.choose_spec hx
      cases he'
      have h9 := h.1 _ _ _ h1
      rw [h2] at h9
      exact h9
    · cases he'
  · obtain ⟨κ, i, j, hd, ha, rfl⟩ := hc
    exact h.2.1 _ _ _ _ hd ha
theorem c_toF {K : KT} {n : Nat × Nat} {loc : List (Nat × Value)} {pc : Nat} {st : List Value} {y : LT} {σ : CS} (h : FWC (cmF y σ) (ctF y σ) y σ → G K (FW (cmF y σ, ctF y σ)) n loc pc st) : G K (CL y σ) n loc pc st :=
  fun ws tys H locs arr hW a b c d e => h (cm_FWC hW.2.2) ws tys H locs arr (CL_FW hW) a b c d e
theorem FWC_CL {m : Nat → Option va_E} {t : ClassId → FieldType → Prop} {y : LT} {σ : CS} (h : FWC m t y σ) {ws : va_W} {tys : TysT} (hW : FW (m, t) ws tys) : CL y σ ws tys :=
  ⟨fun κ i j hd => hW.1 _ _ (h.1 κ i j hd), fun κ i j ty hd ha => hW.2 _ _ (h.2.1 κ i j ty hd ha), h.2.2⟩
theorem c_ofF {K : KT} {n : Nat × Nat} {loc : List (Nat × Value)} {pc : Nat} {st : List Value} {y : LT} {σ : CS} {m : Nat → Option va_E} {t : ClassId → FieldType → Prop} (h : FWC m t y σ) (k : G K (CL y σ) n loc pc st) : G K (FW (m, t)) n loc pc st :=
  fun ws tys H locs arr hW a b c d e => k ws tys H locs arr (FWC_CL h hW) a b c d e
/-- names come and change: the new ones' cells stand in the map, the old ones' are as before -/
theorem FWC_ext {m0 m : Nat → Option va_E} {t0 t : ClassId → FieldType → Prop} {y y' : LT} {σ σ' : CS} (h : FWC m0 t0 y σ) (New : Nat → Int → Int → Prop)
    (hm : ∀ κ i j, cDom σ κ i j → ¬ New κ i j → m (y.1 κ i j) = m0 (y.1 κ i j)) (ht : ∀ c ty, t0 c ty → t c ty)
    (hold : ∀ κ i j, cDom σ' κ i j → New κ i j ∨ (cDom σ κ i j ∧ ¬ New κ i j ∧ y'.1 κ i j = y.1 κ i j ∧ y'.2.1 κ i j = y.2.1 κ i j ∧ cCell y' σ' κ i j = cCell y σ κ i j))
    (hnew : ∀ κ i j, New κ i j → cDom σ' κ i j → m (y'.1 κ i j) = some (cCell y' σ' κ i j) ∧ (∀ ty, cArr κ = some ty → t (y'.2.1 κ i j) ty) ∧ ∀ κ2 i2 j2, cDom σ κ2 i2 j2 → ¬ New κ2 i2 j2 → y.1 κ2 i2 j2 ≠ y'.1 κ i j)
    (hnn : ∀ κ i j κ2 i2 j2, New κ i j → New κ2 i2 j2 → cDom σ' κ i j → cDom σ' κ2 i2 j2 → y'.1 κ i j = y'.1 κ2 i2 j2 → κ = κ2 ∧ i = i2 ∧ j = j2) : FWC m t y' σ' := by
  refine ⟨fun κ i j hd => ?_, fun κ i j ty hd ha => ?_, fun κ i j κ2 i2 j2 hd hd2 e => ?_⟩
  · rcases hold κ i j hd with hn | ⟨h1, h2, h3, h4, h5⟩
    · exact (hnew κ i j hn hd).1
    · rw [h3, hm κ i j h1 h2, h.1 κ i j h1, h5]
  · rcases hold κ i j hd with hn | ⟨h1, h2, h3, h4, h5⟩
    · exact (hnew κ i j hn hd).2.1 ty ha
    · rw [h4]; exact ht _ _ (h.2.1 κ i j ty h1 ha)
  · rcases hold κ i j hd with hn | ⟨h1, h2, h3, h4, h5⟩
    · rcases hold κ2 i2 j2 hd2 with hn2 | ⟨g1, g2, g3, g4, g5⟩
      · exact hnn _ _ _ _ _ _ hn hn2 hd hd2 e
      · rw [g3] at e
        exact absurd e.symm ((hnew κ i j hn hd).2.2 κ2 i2 j2 g1 g2)
    · rcases hold κ2 i2 j2 hd2 with hn2 | ⟨g1, g2, g3, g4, g5⟩
      · rw [h3] at e
        exact absurd e ((hnew κ2 i2 j2 hn2 hd2).2.2 κ i j h1 h2)
      · rw [h3, g3] at e
        exact h.2.2 _ _ _ _ _ _ h1 g1 e
/-- a fresh address is no name's -/
theorem FWC.ne {m : Nat → Option va_E} {t : ClassId → FieldType → Prop} {y : LT} {σ : CS} (h : FWC m t y σ) {q : Nat} (hq : m q = none) {κ : Nat} {i j : Int} (hd : cDom σ κ i j) : y.1 κ i j ≠ q := fun x => by
  have e := h.1 κ i j hd
  rw [x, hq] at e
  cases e
