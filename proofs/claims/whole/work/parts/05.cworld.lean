/-! THE HOUSE'S WORLD: cells by names (kind, i, j): 0 the house, 1 tape, 2 manuscripts' list, 3 its row, 4 scribes' list, 5 its row, 6 measured, 7 its rows i, 8 texts i (0 draft, 1 spare, 2 voted, 3 + m of manuscript m), 9 their letters, 10 stepRow, 11 tally, 12 manuscripts i, 13 scribes i, 14 their habits' lists, 15 their rows, 16 habits (i, j) -/
abbrev CS : Type := Nat → Int → Int → Int → Int
abbrev LT : Type := (Nat → Int → Int → Nat) × (Nat → Int → Int → ClassId) × Nat
def upC (σ : CS) (k : Nat) (f : Int → Int → Int → Int) : CS := fun c => if c = k then f else σ c
theorem upC_s (σ : CS) (k : Nat) (f : Int → Int → Int → Int) : upC σ k f k = f := if_pos rfl
theorem upC_n (σ : CS) {k j : Nat} (f : Int → Int → Int → Int) (h : j ≠ k) : upC σ k f j = σ j := if_neg h
def up1 (f : Int → Int → Int → Int) (a v : Int) : Int → Int → Int → Int := fun x y z => if x = a then v else f x y z
def up2 (f : Int → Int → Int → Int) (a b v : Int) : Int → Int → Int → Int := fun x y z => if x = a ∧ y = b then v else f x y z
def upR (f : Int → Int → Int → Int) (a : Int) (g : Int → Int) : Int → Int → Int → Int := fun x y z => if x = a then g y else f x y z
def vM (y : LT) (e : Int) : Value := va_rf (if e < 0 then none else some (y.1 12 e 0))
theorem vM_ref {y : LT} {e : Int} (h : 0 ≤ e) : vM y e = .ref (y.1 12 e 0) := by
  unfold vM
  rw [if_neg (by omega)]
  rfl
theorem vM_null {y : LT} {e : Int} (h : e < 0) : vM y e = .null := by
  unfold vM
  rw [if_pos h]
  rfl
theorem vM_or (y : LT) (e : Int) : vM y e = .null ∨ ∃ a, vM y e = .ref a := by
  by_cases h : e < 0
  · exact Or.inl (vM_null h)
  · exact Or.inr ⟨_, vM_ref (by omega)⟩
theorem vM_cat (y : LT) (e : Int) : (vM y e).category = 1 := by
  rcases vM_or y e with h | ⟨a, h⟩ <;> rw [h] <;> rfl
def cCell (y : LT) (σ : CS) (κ : Nat) (i j : Int) : va_E := match κ with
  | 0 => .inr (5, [.ref (y.1 1 0 0), .int (iZ (σ 0 0 0 0)), .ref (y.1 2 0 0), .ref (y.1 4 0 0), .ref (y.1 6 0 0), .ref (y.1 8 0 0), .ref (y.1 8 1 0), .ref (y.1 8 2 0), .ref (y.1 10 0 0), .ref (y.1 11 0 0)])
  | 1 => .inl (y.2.1 1 0 0, 60, .inl (fA (fun p => σ 1 p 0 0)))
  | 2 => .inr (0, [.int (iZ (σ 15 0 0 0)), .ref (if σ 18 0 0 0 = 0 then y.2.2 else y.1 3 0 0), .int (iZ (σ 2 0 0 0))])
  | 3 => .inl (y.2.1 3 0 0, (σ 18 0 0 0).toNat, .inr (.inr (.inr (.inr (fun k => if (k : Int) < σ 26 0 0 0 then some (y.1 12 k 0) else none)))))
  | 4 => .inr (0, [.int (iZ (σ 16 0 0 0)), .ref (if σ 19 0 0 0 = 0 then y.2.2 else y.1 5 0 0), .int (iZ (σ 3 0 0 0))])
  | 5 => .inl (y.2.1 5 0 0, (σ 19 0 0 0).toNat, .inr (.inr (.inr (.inr (fun k => if (k : Int) < σ 27 0 0 0 then some (y.1 13 k 0) else none)))))
  | 6 => .inl (y.2.1 6 0 0, 24, .inr (.inr (.inr (.inr (fun k => some (y.1 7 k 0))))))
  | 7 => .inl (y.2.1 7 i 0, 24, .inl (fA (fun p => σ 4 i p 0)))
  | 8 => .inr (4, [.ref (y.1 9 i 0), .int (iZ (σ 5 i 0 0))])
  | 9 => .inl (y.2.1 9 i 0, 120, .inl (fA (fun p => σ 6 i p 0)))
  | 10 => .inl (y.2.1 10 0 0, 121, .inl (fA (fun p => σ 7 p 0 0)))
  | 11 => .inl (y.2.1 11 0 0, 121, .inl (fA (fun p => σ 8 p 0 0)))
  | 12 => .inr (2, [.int (iZ i), vM y (σ 9 i 0 0), .int (iZ (σ 10 i 0 0)), .int (iZ (σ 11 i 0 0)), .ref (y.1 8 (i + 3) 0), .int (iZ (σ 12 i 0 0))])
  | 13 => .inr (3, [.ref (y.1 14 i 0)])
  | 14 => .inr (0, [.int (iZ (σ 17 i 0 0)), .ref (if σ 20 i 0 0 = 0 then y.2.2 else y.1 15 i 0), .int (iZ (σ 13 i 0 0))])
  | 15 => .inl (y.2.1 15 i 0, (σ 20 i 0 0).toNat, .inr (.inr (.inr (.inr (fun k => if (k : Int) < σ 25 i 0 0 then some (y.1 16 i (σ 24 i k 0)) else none)))))
  | _ => .inr (1, [.int (iZ (σ 14 i j 0)), .int (iZ (σ 14 i j 1)), .int (iZ (σ 14 i j 2)), .int (iZ (σ 14 i j 3))])
def cDom (σ : CS) (κ : Nat) (i j : Int) : Prop := match κ with
  | 0 => i = 0 ∧ j = 0
  | 1 => i = 0 ∧ j = 0
  | 2 => i = 0 ∧ j = 0
  | 3 => i = 0 ∧ j = 0 ∧ 0 < σ 18 0 0 0
  | 4 => i = 0 ∧ j = 0
  | 5 => i = 0 ∧ j = 0 ∧ 0 < σ 19 0 0 0
  | 6 => i = 0 ∧ j = 0
  | 7 => 0 ≤ i ∧ i < 24 ∧ j = 0
  | 8 => 0 ≤ i ∧ i < σ 21 0 0 0 + 3 ∧ j = 0
  | 9 => 0 ≤ i ∧ i < σ 21 0 0 0 + 3 ∧ j = 0
  | 10 => i = 0 ∧ j = 0
  | 11 => i = 0 ∧ j = 0
  | 12 => 0 ≤ i ∧ i < σ 21 0 0 0 ∧ j = 0
  | 13 => 0 ≤ i ∧ i < σ 22 0 0 0 ∧ j = 0
  | 14 => 0 ≤ i ∧ i < σ 22 0 0 0 ∧ j = 0
  | 15 => 0 ≤ i ∧ i < σ 22 0 0 0 ∧ j = 0 ∧ 0 < σ 20 i 0 0
  | 16 => 0 ≤ i ∧ i < σ 22 0 0 0 ∧ 0 ≤ j ∧ j < σ 23 i 0 0
  | _ => False
def cArr (κ : Nat) : Option FieldType := match κ with
  | 1 => some .int
  | 3 => some (.object "java/lang/Object")
  | 5 => some (.object "java/lang/Object")
  | 6 => some (.array .int)
  | 7 => some .int
  | 9 => some .byte
  | 10 => some .int
  | 11 => some .int
  | 15 => some (.object "java/lang/Object")
  | _ => none
def CL (y : LT) (σ : CS) : WdT := fun ws tys =>
  (∀ (κ : Nat) (i j : Int), cDom σ κ i j → (y.1 κ i j, cCell y σ κ i j) ∈ ws) ∧ (∀ (κ : Nat) (i j : Int) (ty : FieldType), cDom σ κ i j → cArr κ = some ty → (y.2.1 κ i j, ty) ∈ tys) ∧
  (∀ (κ : Nat) (i j : Int) (κ' : Nat) (i' j' : Int), cDom σ κ i j → cDom σ κ' i' j' → y.1 κ i j = y.1 κ' i' j' → κ = κ' ∧ i = i' ∧ j = j')
/-- σ' is σ with another cell at one name -/
def CUpd (y : LT) (σ σ' : CS) (κ : Nat) (i j : Int) : Prop :=
  (∀ (κ' : Nat) (i' j' : Int), cDom σ' κ' i' j' ↔ cDom σ κ' i' j') ∧ (∀ (κ' : Nat) (i' j' : Int), cDom σ κ' i' j' → ¬ (κ' = κ ∧ i' = i ∧ j' = j) → cCell y σ' κ' i' j' = cCell y σ κ' i' j')
theorem CL_set {y : LT} {σ σ' : CS} {κ : Nat} {i j : Int} {ws : va_W} {tys : TysT} {q0 : Nat} (h : CL y σ ws tys) (hd : cDom σ κ i j) (hq : ws[q0]? = some (y.1 κ i j, cCell y σ κ i j)) (hu : CUpd y σ σ' κ i j) : CL y σ' (ws.set q0 (y.1 κ i j, cCell y σ' κ i j)) tys := by
  obtain ⟨h1, h2, h3⟩ := h
  obtain ⟨u1, u2⟩ := hu
  have hlt := (List.getElem?_eq_some_iff.mp hq).1
  refine ⟨fun κ' i' j' hd' => ?_, fun κ' i' j' ty hd' ht => h2 κ' i' j' ty ((u1 _ _ _).mp hd') ht, fun κ1 i1 j1 κ2 i2 j2 d1 d2 e => h3 κ1 i1 j1 κ2 i2 j2 ((u1 _ _ _).mp d1) ((u1 _ _ _).mp d2) e⟩
  have hd0 := (u1 _ _ _).mp hd'
  by_cases he : κ' = κ ∧ i' = i ∧ j' = j
  · obtain ⟨rfl, rfl, rfl⟩ := he
    exact List.mem_of_getElem? (i := q0) (by rw [List.getElem?_set_self hlt])
  · rw [u2 _ _ _ hd0 he]
    obtain ⟨q, hq'⟩ := List.getElem?_of_mem (h1 _ _ _ hd0)
    have hne : q0 ≠ q := by
      intro e
      subst e
      rw [hq] at hq'
      have e1 : y.1 κ i j = y.1 κ' i' j' := congrArg Prod.fst (Option.some.inj hq')
      obtain ⟨a, b, c⟩ := h3 _ _ _ _ _ _ hd hd0 e1
      exact he ⟨a.symm, b.symm, c.symm⟩
    exact List.mem_of_getElem? (i := q) (by rw [List.getElem?_set_ne hne]; exact hq')
theorem cc_0 (y : LT) (σ : CS) (f : Int → Int → Int → Int) (i j : Int) : ∀ κ : Nat, κ ≠ 0 → cCell y (upC σ 0 f) κ i j = cCell y σ κ i j
  | 0, h => absurd rfl h
  | 1, _ => rfl
  | 2, _ => rfl
  | 3, _ => rfl
  | 4, _ => rfl
  | 5, _ => rfl
  | 6, _ => rfl
  | 7, _ => rfl
  | 8, _ => rfl
  | 9, _ => rfl
  | 10, _ => rfl
  | 11, _ => rfl
  | 12, _ => rfl
  | 13, _ => rfl
  | 14, _ => rfl
  | 15, _ => rfl
  | n + 16, _ => rfl
theorem cd_0 (σ : CS) (f : Int → Int → Int → Int) (i j : Int) : ∀ κ : Nat, cDom (upC σ 0 f) κ i j ↔ cDom σ κ i j
  | 0 => Iff.rfl
  | 1 => Iff.rfl
  | 2 => Iff.rfl
  | 3 => Iff.rfl
  | 4 => Iff.rfl
  | 5 => Iff.rfl
  | 6 => Iff.rfl
  | 7 => Iff.rfl
  | 8 => Iff.rfl
  | 9 => Iff.rfl
  | 10 => Iff.rfl
  | 11 => Iff.rfl
  | 12 => Iff.rfl
  | 13 => Iff.rfl
  | 14 => Iff.rfl
  | 15 => Iff.rfl
  | 16 => Iff.rfl
  | n + 17 => Iff.rfl
theorem cc_1 (y : LT) (σ : CS) (f : Int → Int → Int → Int) (i j : Int) : ∀ κ : Nat, κ ≠ 1 → cCell y (upC σ 1 f) κ i j = cCell y σ κ i j
  | 0, _ => rfl
  | 1, h => absurd rfl h
  | 2, _ => rfl
  | 3, _ => rfl
  | 4, _ => rfl
  | 5, _ => rfl
  | 6, _ => rfl
  | 7, _ => rfl
  | 8, _ => rfl
  | 9, _ => rfl
  | 10, _ => rfl
  | 11, _ => rfl
  | 12, _ => rfl
  | 13, _ => rfl
  | 14, _ => rfl
  | 15, _ => rfl
  | n + 16, _ => rfl
theorem cd_1 (σ : CS) (f : Int → Int → Int → Int) (i j : Int) : ∀ κ : Nat, cDom (upC σ 1 f) κ i j ↔ cDom σ κ i j
  | 0 => Iff.rfl
  | 1 => Iff.rfl
  | 2 => Iff.rfl
  | 3 => Iff.rfl
  | 4 => Iff.rfl
  | 5 => Iff.rfl
  | 6 => Iff.rfl
  | 7 => Iff.rfl
  | 8 => Iff.rfl
  | 9 => Iff.rfl
  | 10 => Iff.rfl
  | 11 => Iff.rfl
  | 12 => Iff.rfl
  | 13 => Iff.rfl
  | 14 => Iff.rfl
  | 15 => Iff.rfl
  | 16 => Iff.rfl
  | n + 17 => Iff.rfl
theorem cc_4 (y : LT) (σ : CS) (f : Int → Int → Int → Int) (i j : Int) : ∀ κ : Nat, κ ≠ 7 → cCell y (upC σ 4 f) κ i j = cCell y σ κ i j
  | 0, _ => rfl
  | 1, _ => rfl
  | 2, _ => rfl
  | 3, _ => rfl
  | 4, _ => rfl
  | 5, _ => rfl
  | 6, _ => rfl
  | 7, h => absurd rfl h
  | 8, _ => rfl
  | 9, _ => rfl
  | 10, _ => rfl
  | 11, _ => rfl
  | 12, _ => rfl
  | 13, _ => rfl
  | 14, _ => rfl
  | 15, _ => rfl
  | n + 16, _ => rfl
theorem cd_4 (σ : CS) (f : Int → Int → Int → Int) (i j : Int) : ∀ κ : Nat, cDom (upC σ 4 f) κ i j ↔ cDom σ κ i j
  | 0 => Iff.rfl
  | 1 => Iff.rfl
  | 2 => Iff.rfl
  | 3 => Iff.rfl
  | 4 => Iff.rfl
  | 5 => Iff.rfl
  | 6 => Iff.rfl
  | 7 => Iff.rfl
  | 8 => Iff.rfl
  | 9 => Iff.rfl
  | 10 => Iff.rfl
  | 11 => Iff.rfl
  | 12 => Iff.rfl
  | 13 => Iff.rfl
  | 14 => Iff.rfl
  | 15 => Iff.rfl
  | 16 => Iff.rfl
  | n + 17 => Iff.rfl
theorem cc_5 (y : LT) (σ : CS) (f : Int → Int → Int → Int) (i j : Int) : ∀ κ : Nat, κ ≠ 8 → cCell y (upC σ 5 f) κ i j = cCell y σ κ i j
  | 0, _ => rfl
  | 1, _ => rfl
  | 2, _ => rfl
  | 3, _ => rfl
  | 4, _ => rfl
  | 5, _ => rfl
  | 6, _ => rfl
  | 7, _ => rfl
  | 8, h => absurd rfl h
  | 9, _ => rfl
  | 10, _ => rfl
  | 11, _ => rfl
  | 12, _ => rfl
  | 13, _ => rfl
  | 14, _ => rfl
  | 15, _ => rfl
  | n + 16, _ => rfl
theorem cd_5 (σ : CS) (f : Int → Int → Int → Int) (i j : Int) : ∀ κ : Nat, cDom (upC σ 5 f) κ i j ↔ cDom σ κ i j
  | 0 => Iff.rfl
  | 1 => Iff.rfl
  | 2 => Iff.rfl
  | 3 => Iff.rfl
  | 4 => Iff.rfl
  | 5 => Iff.rfl
  | 6 => Iff.rfl
  | 7 => Iff.rfl
  | 8 => Iff.rfl
  | 9 => Iff.rfl
  | 10 => Iff.rfl
  | 11 => Iff.rfl
  | 12 => Iff.rfl
  | 13 => Iff.rfl
  | 14 => Iff.rfl
  | 15 => Iff.rfl
  | 16 => Iff.rfl
  | n + 17 => Iff.rfl
theorem cc_6 (y : LT) (σ : CS) (f : Int → Int → Int → Int) (i j : Int) : ∀ κ : Nat, κ ≠ 9 → cCell y (upC σ 6 f) κ i j = cCell y σ κ i j
  | 0, _ => rfl
  | 1, _ => rfl
  | 2, _ => rfl
  | 3, _ => rfl
  | 4, _ => rfl
  | 5, _ => rfl
  | 6, _ => rfl
  | 7, _ => rfl
  | 8, _ => rfl
  | 9, h => absurd rfl h
  | 10, _ => rfl
  | 11, _ => rfl
  | 12, _ => rfl
  | 13, _ => rfl
  | 14, _ => rfl
  | 15, _ => rfl
  | n + 16, _ => rfl
theorem cd_6 (σ : CS) (f : Int → Int → Int → Int) (i j : Int) : ∀ κ : Nat, cDom (upC σ 6 f) κ i j ↔ cDom σ κ i j
  | 0 => Iff.rfl
  | 1 => Iff.rfl
  | 2 => Iff.rfl
  | 3 => Iff.rfl
  | 4 => Iff.rfl
  | 5 => Iff.rfl
  | 6 => Iff.rfl
  | 7 => Iff.rfl
  | 8 => Iff.rfl
  | 9 => Iff.rfl
  | 10 => Iff.rfl
  | 11 => Iff.rfl
  | 12 => Iff.rfl
  | 13 => Iff.rfl
  | 14 => Iff.rfl
  | 15 => Iff.rfl
  | 16 => Iff.rfl
  | n + 17 => Iff.rfl
theorem cc_7 (y : LT) (σ : CS) (f : Int → Int → Int → Int) (i j : Int) : ∀ κ : Nat, κ ≠ 10 → cCell y (upC σ 7 f) κ i j = cCell y σ κ i j
  | 0, _ => rfl
  | 1, _ => rfl
  | 2, _ => rfl
  | 3, _ => rfl
  | 4, _ => rfl
  | 5, _ => rfl
  | 6, _ => rfl
  | 7, _ => rfl
  | 8, _ => rfl
  | 9, _ => rfl
  | 10, h => absurd rfl h
  | 11, _ => rfl
  | 12, _ => rfl
  | 13, _ => rfl
  | 14, _ => rfl
  | 15, _ => rfl
  | n + 16, _ => rfl
theorem cd_7 (σ : CS) (f : Int → Int → Int → Int) (i j : Int) : ∀ κ : Nat, cDom (upC σ 7 f) κ i j ↔ cDom σ κ i j
  | 0 => Iff.rfl
  | 1 => Iff.rfl
  | 2 => Iff.rfl
  | 3 => Iff.rfl
  | 4 => Iff.rfl
  | 5 => Iff.rfl
  | 6 => Iff.rfl
  | 7 => Iff.rfl
  | 8 => Iff.rfl
  | 9 => Iff.rfl
  | 10 => Iff.rfl
  | 11 => Iff.rfl
  | 12 => Iff.rfl
  | 13 => Iff.rfl
  | 14 => Iff.rfl
  | 15 => Iff.rfl
  | 16 => Iff.rfl
  | n + 17 => Iff.rfl
theorem cc_8 (y : LT) (σ : CS) (f : Int → Int → Int → Int) (i j : Int) : ∀ κ : Nat, κ ≠ 11 → cCell y (upC σ 8 f) κ i j = cCell y σ κ i j
  | 0, _ => rfl
  | 1, _ => rfl
  | 2, _ => rfl
  | 3, _ => rfl
  | 4, _ => rfl
  | 5, _ => rfl
  | 6, _ => rfl
  | 7, _ => rfl
  | 8, _ => rfl
  | 9, _ => rfl
  | 10, _ => rfl
  | 11, h => absurd rfl h
  | 12, _ => rfl
  | 13, _ => rfl
  | 14, _ => rfl
  | 15, _ => rfl
  | n + 16, _ => rfl
theorem cd_8 (σ : CS) (f : Int → Int → Int → Int) (i j : Int) : ∀ κ : Nat, cDom (upC σ 8 f) κ i j ↔ cDom σ κ i j
  | 0 => Iff.rfl
  | 1 => Iff.rfl
  | 2 => Iff.rfl
  | 3 => Iff.rfl
  | 4 => Iff.rfl
  | 5 => Iff.rfl
  | 6 => Iff.rfl
  | 7 => Iff.rfl
  | 8 => Iff.rfl
  | 9 => Iff.rfl
  | 10 => Iff.rfl
  | 11 => Iff.rfl
  | 12 => Iff.rfl
  | 13 => Iff.rfl
  | 14 => Iff.rfl
  | 15 => Iff.rfl
  | 16 => Iff.rfl
  | n + 17 => Iff.rfl
theorem cc_12 (y : LT) (σ : CS) (f : Int → Int → Int → Int) (i j : Int) : ∀ κ : Nat, κ ≠ 12 → cCell y (upC σ 12 f) κ i j = cCell y σ κ i j
  | 0, _ => rfl
  | 1, _ => rfl
  | 2, _ => rfl
  | 3, _ => rfl
  | 4, _ => rfl
  | 5, _ => rfl
  | 6, _ => rfl
  | 7, _ => rfl
  | 8, _ => rfl
  | 9, _ => rfl
  | 10, _ => rfl
  | 11, _ => rfl
  | 12, h => absurd rfl h
  | 13, _ => rfl
  | 14, _ => rfl
  | 15, _ => rfl
  | n + 16, _ => rfl
theorem cd_12 (σ : CS) (f : Int → Int → Int → Int) (i j : Int) : ∀ κ : Nat, cDom (upC σ 12 f) κ i j ↔ cDom σ κ i j
  | 0 => Iff.rfl
  | 1 => Iff.rfl
  | 2 => Iff.rfl
  | 3 => Iff.rfl
  | 4 => Iff.rfl
  | 5 => Iff.rfl
  | 6 => Iff.rfl
  | 7 => Iff.rfl
  | 8 => Iff.rfl
  | 9 => Iff.rfl
  | 10 => Iff.rfl
  | 11 => Iff.rfl
  | 12 => Iff.rfl
  | 13 => Iff.rfl
  | 14 => Iff.rfl
  | 15 => Iff.rfl
  | 16 => Iff.rfl
  | n + 17 => Iff.rfl
theorem CUpd_0 (y : LT) (σ : CS) (f : Int → Int → Int → Int) : CUpd y σ (upC σ 0 f) 0 0 0 :=
  ⟨fun κ i j => cd_0 σ f i j κ, fun κ i j hd he => cc_0 y σ f i j κ (fun q => by subst q; exact he ⟨rfl, hd.1, hd.2⟩)⟩
theorem CUpd_1 (y : LT) (σ : CS) (f : Int → Int → Int → Int) : CUpd y σ (upC σ 1 f) 1 0 0 :=
  ⟨fun κ i j => cd_1 σ f i j κ, fun κ i j hd he => cc_1 y σ f i j κ (fun q => by subst q; exact he ⟨rfl, hd.1, hd.2⟩)⟩
theorem CUpd_7 (y : LT) (σ : CS) (f : Int → Int → Int → Int) : CUpd y σ (upC σ 7 f) 10 0 0 :=
  ⟨fun κ i j => cd_7 σ f i j κ, fun κ i j hd he => cc_7 y σ f i j κ (fun q => by subst q; exact he ⟨rfl, hd.1, hd.2⟩)⟩
theorem CUpd_8 (y : LT) (σ : CS) (f : Int → Int → Int → Int) : CUpd y σ (upC σ 8 f) 11 0 0 :=
  ⟨fun κ i j => cd_8 σ f i j κ, fun κ i j hd he => cc_8 y σ f i j κ (fun q => by subst q; exact he ⟨rfl, hd.1, hd.2⟩)⟩
theorem CUpd_4 (y : LT) (σ : CS) (f : Int → Int → Int → Int) (e : Int) (hf : ∀ a b, a ≠ e → f a b 0 = σ 4 a b 0) : CUpd y σ (upC σ 4 f) 7 e 0 :=
  ⟨fun κ i j => cd_4 σ f i j κ, fun κ i j hd he => by
    by_cases q : κ = 7
    · subst q
      obtain ⟨h1, h2, h3⟩ := hd
      have hi : i ≠ e := fun q => he ⟨rfl, q, h3⟩
      show Sum.inl (y.2.1 7 i 0, 24, Sum.inl (fA (fun p => f i p 0))) = Sum.inl (y.2.1 7 i 0, 24, Sum.inl (fA (fun p => σ 4 i p 0)))
      rw [show (fun p => f i p 0) = (fun p => σ 4 i p 0) from funext fun p => hf i p hi]
    · exact cc_4 y σ f i j κ q⟩
theorem CUpd_5 (y : LT) (σ : CS) (f : Int → Int → Int → Int) (e : Int) (hf : ∀ a, a ≠ e → f a 0 0 = σ 5 a 0 0) : CUpd y σ (upC σ 5 f) 8 e 0 :=
  ⟨fun κ i j => cd_5 σ f i j κ, fun κ i j hd he => by
    by_cases q : κ = 8
    · subst q
      obtain ⟨h1, h2, h3⟩ := hd
      have hi : i ≠ e := fun q => he ⟨rfl, q, h3⟩
      show (Sum.inr (4, [.ref (y.1 9 i 0), .int (iZ (f i 0 0))]) : va_E) = Sum.inr (4, [.ref (y.1 9 i 0), .int (iZ (σ 5 i 0 0))])
      rw [hf i hi]
    · exact cc_5 y σ f i j κ q⟩
theorem CUpd_6 (y : LT) (σ : CS) (f : Int → Int → Int → Int) (e : Int) (hf : ∀ a b, a ≠ e → f a b 0 = σ 6 a b 0) : CUpd y σ (upC σ 6 f) 9 e 0 :=
  ⟨fun κ i j => cd_6 σ f i j κ, fun κ i j hd he => by
    by_cases q : κ = 9
    · subst q
      obtain ⟨h1, h2, h3⟩ := hd
      have hi : i ≠ e := fun q => he ⟨rfl, q, h3⟩
      show Sum.inl (y.2.1 9 i 0, 120, Sum.inl (fA (fun p => f i p 0))) = Sum.inl (y.2.1 9 i 0, 120, Sum.inl (fA (fun p => σ 6 i p 0)))
      rw [show (fun p => f i p 0) = (fun p => σ 6 i p 0) from funext fun p => hf i p hi]
    · exact cc_6 y σ f i j κ q⟩
theorem CUpd_12 (y : LT) (σ : CS) (f : Int → Int → Int → Int) (e : Int) (hf : ∀ a, a ≠ e → f a 0 0 = σ 12 a 0 0) : CUpd y σ (upC σ 12 f) 12 e 0 :=
  ⟨fun κ i j => cd_12 σ f i j κ, fun κ i j hd he => by
    by_cases q : κ = 12
    · subst q
      obtain ⟨h1, h2, h3⟩ := hd
      have hi : i ≠ e := fun q => he ⟨rfl, q, h3⟩
      show (Sum.inr (2, [.int (iZ i), vM y (σ 9 i 0 0), .int (iZ (σ 10 i 0 0)), .int (iZ (σ 11 i 0 0)), .ref (y.1 8 (i + 3) 0), .int (iZ (f i 0 0))]) : va_E) = Sum.inr (2, [.int (iZ i), vM y (σ 9 i 0 0), .int (iZ (σ 10 i 0 0)), .int (iZ (σ 11 i 0 0)), .ref (y.1 8 (i + 3) 0), .int (iZ (σ 12 i 0 0))])
      rw [hf i hi]
    · exact cc_12 y σ f i j κ q⟩
section CROWS
variable {K : KT} {cc : ByteArray} {own : String} {Ts : List Cond} {ret : Option FieldType} {R : Room} {n : Nat × Nat} {loc : List (Nat × Value)} {pc : Nat} {st : List Value} {y : LT} {σ σ' : CS} {κ : Nat} {i j : Int} {idx ci : Nat} {fs : List Value} {q : vw_C}
theorem c_recv (hcell : cCell y σ κ i j = .inr (ci, fs)) (hdom : cDom σ κ i j) : ∀ ws tys, CL y σ ws tys → ∃ (q0 : Nat) (fs : List Value), ws[q0]? = some (y.1 κ i j, .inr (ci, fs)) := by
  intro ws tys h
  obtain ⟨q0, hq⟩ := List.getElem?_of_mem (h.1 _ _ _ hdom)
  exact ⟨q0, fs, by rw [hq, hcell]⟩
theorem c_get (C : kOK K cc own Ts ret R) {ref : String} (hcell : cCell y σ κ i j = .inr (ci, fs)) (hcl : vwCl[ci]? = some q) (hin : ∀ w ∈ u_ws q.1 q.2.1 q.2.2, w ∈ Ts) (k : Nat) (hk : k < q.2.2) {v : Value} (hv : fs[k]? = some v) (hl : Cond.fieldLink own idx ref (q.2.1 k).2.1 (q.2.1 k).2.2.1 ∈ Ts) (hs : (q.2.1 k).1 = ref) (hd : decode cc pc = .ok (.getfield idx, 3)) (hdom : cDom σ κ i j) (h : G K (CL y σ) n loc (pc + 3) (v :: st)) : G K (CL y σ) n loc pc (.ref (y.1 κ i j) :: st) := by
  intro ws tys H locs arr hW hK hP hD hS hl2
  obtain ⟨c1, c2, c3, c4, c5, c6⟩ := C
  obtain ⟨q0, hq⟩ := List.getElem?_of_mem (hW.1 _ _ _ hdom)
  rw [hcell] at hq
  exact va_get (D := K.D) (ci := ci) (C := q.1) (T := q.2.1) (N := q.2.2) c1 c2 c5 hin c4 hK hP q0 hq hcl k hk (c5 _ hl) (fun x h9 => by rw [hs] at h9; exact h9) hv hd (h ws tys H locs arr hW hK hP hD hS hl2)
theorem c_put (C : kOK K cc own Ts ret R) {ref : String} (hcell : cCell y σ κ i j = .inr (ci, fs)) (hcl : vwCl[ci]? = some q) (hin : ∀ w ∈ u_ws q.1 q.2.1 q.2.2, w ∈ Ts) (ty0 : Nat → FieldType) (hty0 : ∀ k, k < q.2.2 → parseFieldDescriptor (q.2.1 k).2.2.1 = some (ty0 k)) (hnm : ∀ a, a < q.2.2 → ∀ b, b < q.2.2 → a ≠ b → (q.2.1 a).2.1 ≠ (q.2.1 b).2.1) (k : Nat) (hk : k < q.2.2) (hkl : k < fs.length) {v : Value} {ty : FieldType} (hcell' : cCell y σ' κ i j = .inr (ci, fs.set k v)) (hu : CUpd y σ σ' κ i j) (hl : Cond.fieldLink own idx ref (q.2.1 k).2.1 (q.2.1 k).2.2.1 ∈ Ts) (hs : (q.2.1 k).1 = ref) (hfin : (q.2.1 k).2.2.2 = false) (hty : parseFieldDescriptor (q.2.1 k).2.2.1 = some ty) (hn : narrow ty v = v) (hfit : fits ty v = true)
    (hd : decode cc pc = .ok (.putfield idx, 3)) (hdom : cDom σ κ i j) (h : G K (CL y σ') n loc (pc + 3) st) : G K (CL y σ) n loc pc (v :: .ref (y.1 κ i j) :: st) := by
  intro ws tys H locs arr hW hK hP hD hS hl2
  obtain ⟨c1, c2, c3, c4, c5, c6⟩ := C
  obtain ⟨q0, hq⟩ := List.getElem?_of_mem (hW.1 _ _ _ hdom)
  have hW' := CL_set hW hdom hq hu
  rw [hcell] at hq
  rw [hcell'] at hW'
  exact va_put (D := K.D) (ci := ci) (ty := ty) (C := q.1) (T := q.2.1) (N := q.2.2) c1 c2 c5 hin ty0 hty0 hnm c4 hK hP hD hS q0 hq hcl k hk (c5 _ hl) (fun x h9 => by rw [hs] at h9; exact h9) hfin hty hn hfit hkl hd (fun H1 locs1 hP1 hD1 hS1 => h _ tys H1 locs1 arr hW' hK hP1 hD1 hS1 hl2)
theorem c_ald (C : kOK K cc own Ts ret R) {N : Nat} {cA : ClassId} {f : Int → Int} {e : Int} (hcell : cCell y σ κ i j = .inl (cA, N, .inl (fA f))) (hcA : cA = y.2.1 κ i j) (hty : cArr κ = some .int) (hN : N < 2147483648) (hd : decode cc pc = .ok (.iaload, 1)) (hdom : cDom σ κ i j) (hi : 0 ≤ e ∧ e < N) (h : G K (CL y σ) n loc (pc + 1) (.int (iZ (f e)) :: st)) : G K (CL y σ) n loc pc (.int (iZ e) :: .ref (y.1 κ i j) :: st) := by
  intro ws tys H locs arr hW hK hP hD hS hl2
  subst hcA
  obtain ⟨q0, hq⟩ := List.getElem?_of_mem (hW.1 _ _ _ hdom)
  obtain ⟨t0, ht⟩ := List.getElem?_of_mem (hW.2.1 _ _ _ _ hdom hty)
  rw [hcell] at hq
  refine va_iald C.1 C.2.1 hK hP q0 t0 hq ht (iZ_in hi.1 hi.2 hN) hd ?_
  rw [fA_at hi.1 (by omega)]
  exact h ws tys H locs arr hW hK hP hD hS hl2
theorem c_bald (C : kOK K cc own Ts ret R) {N : Nat} {cA : ClassId} {f : Int → Int} {e : Int} (hcell : cCell y σ κ i j = .inl (cA, N, .inl (fA f))) (hcA : cA = y.2.1 κ i j) (hty : cArr κ = some .byte) (hN : N < 2147483648) (hd : decode cc pc = .ok (.baload, 1)) (hdom : cDom σ κ i j) (hi : 0 ≤ e ∧ e < N) (h : G K (CL y σ) n loc (pc + 1) (.int (iZ (f e)) :: st)) : G K (CL y σ) n loc pc (.int (iZ e) :: .ref (y.1 κ i j) :: st) := by
  intro ws tys H locs arr hW hK hP hD hS hl2
  subst hcA
  obtain ⟨q0, hq⟩ := List.getElem?_of_mem (hW.1 _ _ _ hdom)
  obtain ⟨t0, ht⟩ := List.getElem?_of_mem (hW.2.1 _ _ _ _ hdom hty)
  rw [hcell] at hq
  refine va_bald C.1 C.2.1 hK hP q0 t0 hq ht (iZ_in hi.1 hi.2 hN) hd ?_
  rw [fA_at hi.1 (by omega)]
  exact h ws tys H locs arr hW hK hP hD hS hl2
theorem c_ast (C : kOK K cc own Ts ret R) {N : Nat} {cA : ClassId} {f : Int → Int} {e z : Int} (hcell : cCell y σ κ i j = .inl (cA, N, .inl (fA f))) (hcA : cA = y.2.1 κ i j) (hcell' : cCell y σ' κ i j = .inl (cA, N, .inl (fA (upI f e z)))) (hu : CUpd y σ σ' κ i j) (hty : cArr κ = some .int) (hN : N < 2147483648) (hd : decode cc pc = .ok (.iastore, 1)) (hdom : cDom σ κ i j) (hi : 0 ≤ e ∧ e < N) (h : G K (CL y σ') n loc (pc + 1) st) : G K (CL y σ) n loc pc (.int (iZ z) :: .int (iZ e) :: .ref (y.1 κ i j) :: st) := by
  intro ws tys H locs arr hW hK hP hD hS hl2
  subst hcA
  obtain ⟨q0, hq⟩ := List.getElem?_of_mem (hW.1 _ _ _ hdom)
  obtain ⟨t0, ht⟩ := List.getElem?_of_mem (hW.2.1 _ _ _ _ hdom hty)
  have hW' := CL_set hW hdom hq hu
  rw [hcell] at hq
  rw [hcell'] at hW'
  refine va_iast C.1 C.2.1 hK hP hD hS q0 t0 hq ht (iZ_in hi.1 hi.2 hN) hd (fun H1 locs1 hP1 hD1 hS1 => ?_)
  rw [fA_up hi.1 (by omega)] at hP1 hD1
  exact h _ tys H1 locs1 arr hW' hK hP1 hD1 hS1 hl2
theorem nar_byte {z : Int} (h : -128 ≤ z ∧ z < 128) : vp_nar .byte (iZ z) = iZ z := by
  rw [vp_nar_byte]
  apply Int32.toInt_inj.mp
  rw [Int8.toInt_toInt32, iZ_toInt ⟨by omega, by omega⟩]
  have e : (iZ z).toInt8 = Int8.ofInt z := by
    show (iZ z).toInt8 = Int8.ofInt z
    rw [iZ, Int32.toInt8_ofInt]
  rw [e, Int8.toInt_ofInt_of_le (by omega) (by omega)]
theorem c_bast (C : kOK K cc own Ts ret R) {N : Nat} {cA : ClassId} {f : Int → Int} {e z : Int} (hcell : cCell y σ κ i j = .inl (cA, N, .inl (fA f))) (hcA : cA = y.2.1 κ i j) (hcell' : cCell y σ' κ i j = .inl (cA, N, .inl (fA (upI f e z)))) (hu : CUpd y σ σ' κ i j) (hty : cArr κ = some .byte) (hN : N < 2147483648) (hd : decode cc pc = .ok (.bastore, 1)) (hz : -128 ≤ z ∧ z < 128) (hdom : cDom σ κ i j) (hi : 0 ≤ e ∧ e < N) (h : G K (CL y σ') n loc (pc + 1) st) : G K (CL y σ) n loc pc (.int (iZ z) :: .int (iZ e) :: .ref (y.1 κ i j) :: st) := by
  intro ws tys H locs arr hW hK hP hD hS hl2
  subst hcA
  obtain ⟨q0, hq⟩ := List.getElem?_of_mem (hW.1 _ _ _ hdom)
  obtain ⟨t0, ht⟩ := List.getElem?_of_mem (hW.2.1 _ _ _ _ hdom hty)
  have hW' := CL_set hW hdom hq hu
  rw [hcell] at hq
  rw [hcell'] at hW'
  refine va_bast C.1 C.2.1 hK hP hD hS q0 t0 hq ht (iZ_in hi.1 hi.2 hN) hd (fun H1 locs1 hP1 hD1 hS1 => ?_)
  rw [nar_byte hz, fA_up hi.1 (by omega)] at hP1 hD1
  exact h _ tys H1 locs1 arr hW' hK hP1 hD1 hS1 hl2
theorem c_len (C : kOK K cc own Ts ret R) {N : Nat} {cA : ClassId} {f : Nat → Int32} {ty : FieldType} (hcell : cCell y σ κ i j = .inl (cA, N, .inl f)) (hcA : cA = y.2.1 κ i j) (hty : cArr κ = some ty) (hd : decode cc pc = .ok (.arraylength, 1)) (hdom : cDom σ κ i j) (h : G K (CL y σ) n loc (pc + 1) (.int (iZ (N : Int)) :: st)) : G K (CL y σ) n loc pc (.ref (y.1 κ i j) :: st) := by
  intro ws tys H locs arr hW hK hP hD hS hl2
  subst hcA
  obtain ⟨q0, hq⟩ := List.getElem?_of_mem (hW.1 _ _ _ hdom)
  obtain ⟨t0, ht⟩ := List.getElem?_of_mem (hW.2.1 _ _ _ _ hdom hty)
  rw [hcell] at hq
  exact va_alen C.1 C.2.1 hK hP q0 t0 hq ht (show Int32.ofNat N = iZ (N : Int) from Int32.ofInt_eq_ofNat.symm) hd (h ws tys H locs arr hW hK hP hD hS hl2)
theorem va_aldA {p : Program} {l : Launch} {e : Env} {R : Room} {s : State} {m : MethodId} {args : Array Value} {below : List Frame} {meth : Method} {c : Code} {H : Heap} {locs : List Loc} {cells slots : Nat} {Q : State → Prop} {cc : ByteArray} {pc : Nat} {ls : Array Slot} {rest : List Value} {D : va_G} {cl : List vw_C} {ws : va_W} {tys : List (ClassId × FieldType)} {a : Nat} (hexec : p.tables.exec = Jvm.exec) (hb : c.code = cc) (hK : va_K D cl tys s) (hP : va_P D cl ws H) (q0 t0 : Nat) {cA : ClassId} {t : FieldType} {n : Nat} {f : Nat → Option Nat} (ha : ws[q0]? = some (a, .inl (cA, n, .inr (.inr (.inr (.inr f)))))) (ht : tys[t0]? = some (cA, .array t)) {i : Int32} (hin : vp_in i n) (hdg : decode cc pc = .ok (.aaload, 1))
    (kk : W p l e R s m args below meth c H locs cells slots Q (F0 m (pc + 1) ls (va_rf (f i.toNatClampNeg) :: rest))) : W p l e R s m args below meth c H locs cells slots Q (F0 m pc ls (.int i :: .ref a :: rest)) := by
  have hlt : i.toNatClampNeg < n := Nat.not_le.mp fun q => hin (Or.inr q)
  exact W.aald (v := va_rf (f i.toNatClampNeg)) (ty := .array t) hexec hb (hP q0 _ ha) ((hK.2 t0 _ ht).1 n (fun j => va_rf (f j))) rfl (fun q => by cases q) (by show ¬ (i < 0 ∨ (arrV _ _ _).slots.size ≤ _); rw [arrV_size]; exact hin) (by show (arrV _ _ _).slots[_]? = _; rw [arrV_read _ _ hlt]) rfl rfl hdg kk
/-- measured[e] -/
theorem c_mrow (C : kOK K cc own Ts ret R) {e : Int} (hd : decode cc pc = .ok (.aaload, 1)) (hi : 0 ≤ e ∧ e < 24) (h : G K (CL y σ) n loc (pc + 1) (.ref (y.1 7 e 0) :: st)) : G K (CL y σ) n loc pc (.int (iZ e) :: .ref (y.1 6 0 0) :: st) := by
  intro ws tys H locs arr hW hK hP hD hS hl2
  obtain ⟨q0, hq⟩ := List.getElem?_of_mem (hW.1 6 0 0 ⟨rfl, rfl⟩)
  obtain ⟨t0, ht⟩ := List.getElem?_of_mem (hW.2.1 6 0 0 _ ⟨rfl, rfl⟩ rfl)
  have he : (((iZ e).toNatClampNeg : Nat) : Int) = e := iZ_cl hi.1 (by omega)
  refine va_aldA (n := 24) (f := fun k => some (y.1 7 k 0)) C.1 C.2.1 hK hP q0 t0 hq ht (iZ_in hi.1 hi.2 (by decide)) hd ?_
  show W K.p K.l K.e K.R K.s K.m K.args K.below K.meth K.c H locs n.1 n.2 K.Q (F0 K.m (pc + 1) arr (.ref (y.1 7 (((iZ e).toNatClampNeg : Nat) : Int) 0) :: st))
  rw [he]
  exact h ws tys H locs arr hW hK hP hD hS hl2
/-- System.arraycopy of the letters of text a to those of text b -/
theorem c_copyb (C : kOK K cc own Ts ret R) {a b sp dp m : Int} (hi : 0 ≤ sp ∧ 0 ≤ dp ∧ 0 ≤ m ∧ sp + m ≤ (120 : Int) ∧ dp + m ≤ (120 : Int)) (hda : cDom σ 9 a 0) (hdb : cDom σ 9 b 0) (hfit : ∀ k : Int, sp ≤ k → k < sp + m → -128 ≤ σ 6 a k 0 ∧ σ 6 a k 0 < 128) (hlink : Cond.methodLink own idx arraycopyName ∈ Ts) (hnat : Cond.native arraycopyName ∈ Ts) (hstat : Cond.static arraycopyName ∈ Ts) (hini : Cond.initialized "java/lang/System" ∈ Ts)
    (hframes : 1 ≤ R.frames) (hlocals : (st.map fun v => v.category).sum + (nativeFrameWords "java/lang/System" "arraycopy" 5 + 11) ≤ R.locals) (hd : decode cc pc = .ok (.invokestatic idx, 3)) (h : G K (CL y (upC σ 6 (upR (σ 6) b (cpI (fun p => σ 6 a p 0) (fun p => σ 6 b p 0) sp dp m)))) n loc (pc + 3) st) : G K (CL y σ) n loc pc (.int (iZ m) :: .int (iZ dp) :: .ref (y.1 9 b 0) :: .int (iZ sp) :: .ref (y.1 9 a 0) :: st) := by
  intro ws tys H locs arr hW hK hP hD hS hl2
  obtain ⟨c1, c2, c3, c4, c5, c6, c7, rfl, c9⟩ := C
  obtain ⟨i1, i2, i3, i4, i5⟩ := hi
  obtain ⟨q0, hq⟩ := List.getElem?_of_mem (hW.1 _ _ _ hda)
  obtain ⟨t0, ht⟩ := List.getElem?_of_mem (hW.2.1 9 a 0 _ hda rfl)
  obtain ⟨q1, hq1⟩ := List.getElem?_of_mem (hW.1 _ _ _ hdb)
  obtain ⟨t1, ht1⟩ := List.getElem?_of_mem (hW.2.1 9 b 0 _ hdb rfl)
  have hW' := CL_set (σ' := upC σ 6 (upR (σ 6) b (cpI (fun p => σ 6 a p 0) (fun p => σ 6 b p 0) sp dp m))) hW hdb hq1 (CUpd_6 y σ _ b (fun x p hx => if_neg hx))
  have hc' : cCell y (upC σ 6 (upR (σ 6) b (cpI (fun p => σ 6 a p 0) (fun p => σ 6 b p 0) sp dp m))) 9 b 0 = .inl (y.2.1 9 b 0, 120, .inl (fA (cpI (fun p => σ 6 a p 0) (fun p => σ 6 b p 0) sp dp m))) := by
    show Sum.inl (y.2.1 9 b 0, 120, Sum.inl (fA (fun p => upR (σ 6) b (cpI (fun p => σ 6 a p 0) (fun p => σ 6 b p 0) sp dp m) b p 0))) = _
    rw [show (fun p => upR (σ 6) b (cpI (fun p => σ 6 a p 0) (fun p => σ 6 b p 0) sp dp m) b p 0) = cpI (fun p => σ 6 a p 0) (fun p => σ 6 b p 0) sp dp m from funext fun p => if_pos rfl]
  rw [hc'] at hW'
  have e1 := iZ_cl i1 (by omega)
  have e2 := iZ_cl i2 (by omega)
  have e3 := iZ_cl i3 (by omega)
  refine va_copyi c1 c2 (c3.trans hl2.1.symm) c4 (c5 _ hlink) (c5 _ hnat) (c5 _ hstat) (c5 _ hini) hK hP hD hS q0 q1 t0 t1 (f := fA (fun p => σ 6 a p 0)) (g := fA (fun p => σ 6 b p 0)) hq hq1 ht ht1 rfl (fun q => ?_) (fun q => ?_) (fun q => ?_) (by omega) (by omega) (fun k hk => ?_) hframes hlocals hd (fun H1 locs1 hP1 hD1 hS1 => ?_)
  · have := (iZ_lt (a := sp) (b := 0) (by omega) (by decide)).mp q; omega
  · have := (iZ_lt (a := dp) (b := 0) (by omega) (by decide)).mp q; omega
  · have := (iZ_lt (a := m) (b := 0) (by omega) (by decide)).mp q; omega
  · have hb := hfit (((iZ sp).toNatClampNeg + k : Nat) : Int) (by omega) (by omega)
    show fits .byte (.int (iZ (σ 6 a (((iZ sp).toNatClampNeg + k : Nat) : Int) 0))) = true
    have e4 := nar_byte hb
    rw [vp_nar_byte] at e4
    rw [← e4]
    exact pk_fb _
  rw [fA_cpy ⟨i1, by omega⟩ ⟨i2, by omega⟩ ⟨i3, by omega⟩] at hP1 hD1
  exact h _ tys H1 locs1 arr hW' hK hP1 hD1 hS1 hl2
/-- a cast of an object of the world to its own class -/
theorem c_cast (C : kOK K cc own Ts ret R) {emp : Nat} (hF : SF emp K.A K.s K.s.heap) (hcell : cCell y σ κ i j = .inr (ci, fs)) (hcl : vwCl[ci]? = some q) (hc : (q.1, q.1) ∈ cCasts) (hl : Cond.classLink own idx q.1 ∈ Ts) (hd : decode cc pc = .ok (.checkcast idx, 3)) (hdom : cDom σ κ i j) (h : G K (CL y σ) n loc (pc + 3) (.ref (y.1 κ i j) :: st)) : G K (CL y σ) n loc pc (.ref (y.1 κ i j) :: st) := by
  intro ws tys H locs arr hW hK hP hD hS hl2
  obtain ⟨c1, c2, c3, c4, c5, c6⟩ := C
  obtain ⟨q0, hq⟩ := List.getElem?_of_mem (hW.1 _ _ _ hdom)
  rw [hcell] at hq
  exact va_castY c1 c2 c4 (c5 _ hl) (hF.2.2.2.1 _ hc) (va_recv hK hP hcl hq) hd (h ws tys H locs arr hW hK hP hD hS hl2)
theorem g_i2b {Wd : WdT} (C : kOK K cc own Ts ret R) {z : Int} (hz : -128 ≤ z ∧ z < 128) (hd : decode cc pc = .ok (.i2b, 1)) (k : G K Wd n loc (pc + 1) (.int (iZ z) :: st)) : G K Wd n loc pc (.int (iZ z) :: st) := by
  intro ws tys H locs arr a b c d e f
  have e1 := nar_byte hz
  rw [vp_nar_byte] at e1
  exact lv_i2b C.1 C.2.1 hd (v := iZ z) e1 (k ws tys H locs arr a b c d e f)
theorem g_lsw {Wd : WdT} (C : kOK K cc own Ts ret R) {x dflt : Int} {ps : Array (Int × Int)} {len : Nat} (hd : decode cc pc = .ok (.lookupswitch dflt ps, len)) (hp : (ps.toList.zip (ps.toList.drop 1)).all (fun (a, next) => a.1 < next.1) = true) (hx : -2147483648 ≤ x ∧ x < 2147483648) (k : ∃ (off : Int) (tgt : Nat), Op.lookupswitch.offset ps.toList dflt x = off ∧ (pc : Int) + off = (tgt : Int) ∧ G K Wd n loc tgt st) : G K Wd n loc pc (.int (iZ x) :: st) := by
  intro ws tys H locs arr a b c d e f
  obtain ⟨off, tgt, h1, h2, h3⟩ := k
  exact lv_lookup C.1 C.2.1 hd hp (by rw [iZ_toInt hx]; exact h1) h2 (h3 ws tys H locs arr a b c d e f)
end CROWS
section MVALS
variable {K : KT} {cc : ByteArray} {own : String} {Ts : List Cond} {ret : Option FieldType} {R : Room} {Wd : WdT} {n : Nat × Nat} {loc : List (Nat × Value)} {pc : Nat} {st : List Value} {y : LT} {σ : CS} {e a b : Int} {off : Int} {tgt : Nat}
theorem cat_i (z : Int32) : (Value.int z).category = 1 := rfl
theorem cat_r (z : Nat) : (Value.ref z).category = 1 := rfl
theorem cat_l (z : Int64) : (Value.long z).category = 2 := rfl
theorem c_atM (h : 0 ≤ e) (k : G K Wd n loc pc (.ref (y.1 12 e 0) :: st)) : G K Wd n loc pc (vM y e :: st) := by rw [vM_ref h]; exact k
theorem c_toM (h : 0 ≤ e) (k : G K Wd n loc pc (vM y e :: st)) : G K Wd n loc pc (.ref (y.1 12 e 0) :: st) := by rw [vM_ref h] at k; exact k
theorem c_atM2 {v : Value} (h : 0 ≤ e) (k : G K Wd n loc pc (v :: .ref (y.1 12 e 0) :: st)) : G K Wd n loc pc (v :: vM y e :: st) := by rw [vM_ref h]; exact k
theorem c_Mrecv {S : Type} {l : Launch} {ym : MethodName} {wds : List Cond} {rm : Room} {emp : Nat} {Wd9 : S → WdT} {rk : S → Int → Option Value} {As : List Value} {u : S} {post : Int → S → Prop} (h : 0 ≤ e) (hm : cMet l ym wds rm emp Wd9 rk (vM y e :: As) u post) : cMet l ym wds rm emp Wd9 rk (.ref (y.1 12 e 0) :: As) u post := by rw [vM_ref h] at hm; exact hm
theorem g_aloadM_n (C : kOK K cc own Ts ret R) {j : Fin 4} {i : Nat} (q : Nat) (hd : decode cc pc = .ok (.aload_n j, 1)) (hi : (j : Nat) = i) (hl : loc[q]? = some (i, vM y e)) (k : G K Wd n loc (pc + 1) (vM y e :: st)) : G K Wd n loc pc st := by
  by_cases h : e < 0
  · rw [vM_null h] at hl k
    exact fun ws tys H locs arr a b c d e f => lv_aload_nN C.1 C.2.1 hd hi (lv_at f q hl) (k ws tys H locs arr a b c d e f)
  · rw [vM_ref (by omega)] at hl k
    exact g_aload_n C q hd hi hl k
theorem g_aloadM (C : kOK K cc own Ts ret R) {i : Nat} (q : Nat) (hd : decode cc pc = .ok (.aload i, 2)) (hl : loc[q]? = some (i, vM y e)) (k : G K Wd n loc (pc + 2) (vM y e :: st)) : G K Wd n loc pc st := by
  by_cases h : e < 0
  · rw [vM_null h] at hl k
    exact fun ws tys H locs arr a b c d e f => lv_aloadN C.1 C.2.1 hd (lv_at f q hl) (k ws tys H locs arr a b c d e f)
  · rw [vM_ref (by omega)] at hl k
    exact g_aload C q hd hl k
theorem vM_filter (v : Value) (hv : v.category = 1) (w : Value) (hw : w.category = 1) (i : Nat) (l : List (Nat × Value)) : ((i, v) :: l).filter (fun q => !(q.1 == i) && !(q.1 + 1 == i && q.2.category == 2)) = l.filter (fun q => !(q.1 == i) && !(q.1 + 1 == i && q.2.category == 2)) := by
  simp
theorem g_astoreM_n (C : kOK K cc own Ts ret R) {j : Fin 4} {i nL : Nat} {loc' : List (Nat × Value)} (hn : K.nL = nL) (hd : decode cc pc = .ok (.astore_n j, 1)) (hi : (j : Nat) = i) (hlt : i < nL) (hl : loc.filter (fun q => !(q.1 == i) && !(q.1 + 1 == i && q.2.category == 2)) = loc')
    (k : G K Wd n ((i, vM y e) :: loc') (pc + 1) st) : G K Wd n loc pc (vM y e :: st) := by
  subst hl
  by_cases h : e < 0
  · rw [vM_null h] at k ⊢
    exact fun ws tys H locs arr a b c d e f => lv_astore_nN C.1 C.2.1 hd hi f (by rw [hn]; exact hlt) rfl (fun arr' f' => k ws tys H locs arr' a b c d e f')
  · rw [vM_ref (by omega)] at k ⊢
    exact g_astore_n C hn hd hi hlt rfl k
theorem g_astoreM (C : kOK K cc own Ts ret R) {i nL : Nat} {loc' : List (Nat × Value)} (hn : K.nL = nL) (hd : decode cc pc = .ok (.astore i, 2)) (hlt : i < nL) (hl : loc.filter (fun q => !(q.1 == i) && !(q.1 + 1 == i && q.2.category == 2)) = loc')
    (k : G K Wd n ((i, vM y e) :: loc') (pc + 2) st) : G K Wd n loc pc (vM y e :: st) := by
  subst hl
  by_cases h : e < 0
  · rw [vM_null h] at k ⊢
    exact fun ws tys H locs arr a b c d e f => lv_astoreN C.1 C.2.1 hd f (by rw [hn]; exact hlt) rfl (fun arr' f' => k ws tys H locs arr' a b c d e f')
  · rw [vM_ref (by omega)] at k ⊢
    exact g_astore C hn hd hlt rfl k
theorem g_null (C : kOK K cc own Ts ret R) (hd : decode cc pc = .ok (.aconst_null, 1)) (k : G K Wd n loc (pc + 1) (vM y (-1) :: st)) : G K Wd n loc pc st := by
  rw [vM_null (by decide)] at k
  exact fun ws tys H locs arr a b c d e f => lv_null C.1 C.2.1 hd (k ws tys H locs arr a b c d e f)
theorem g_ifnull (C : kOK K cc own Ts ret R) (hd : decode cc pc = .ok (.ifnull off, 3)) (ht : (pc : Int) + off = (tgt : Int)) (kt : e < 0 → G K Wd n loc tgt st) (kf : ¬ e < 0 → G K Wd n loc (pc + 3) st) : G K Wd n loc pc (vM y e :: st) := by
  by_cases h : e < 0
  · rw [vM_null h]
    exact fun ws tys H locs arr a b c d e f => lv_ifnullN C.1 C.2.1 hd ht (kt h ws tys H locs arr a b c d e f)
  · rw [vM_ref (by omega)]
    exact fun ws tys H locs arr a b c d e f => lv_ifnull C.1 C.2.1 hd (kf h ws tys H locs arr a b c d e f)
theorem g_ifnonnull (C : kOK K cc own Ts ret R) (hd : decode cc pc = .ok (.ifnonnull off, 3)) (ht : (pc : Int) + off = (tgt : Int)) (kt : ¬ e < 0 → G K Wd n loc tgt st) (kf : e < 0 → G K Wd n loc (pc + 3) st) : G K Wd n loc pc (vM y e :: st) := by
  by_cases h : e < 0
  · rw [vM_null h]
    exact fun ws tys H locs arr a b c d e f => lv_ifnonnullN C.1 C.2.1 hd (kf h ws tys H locs arr a b c d e f)
  · rw [vM_ref (by omega)]
    exact fun ws tys H locs arr a b c d e f => lv_ifnonnull C.1 C.2.1 hd ht (kt h ws tys H locs arr a b c d e f)
theorem vM_inj {ws : va_W} {tys : TysT} (hW : CL y σ ws tys) (ha : -1 ≤ a ∧ a < σ 21 0 0 0) (hb : -1 ≤ b ∧ b < σ 21 0 0 0) : (if a < 0 then none else some (y.1 12 a 0)) = (if b < 0 then none else some (y.1 12 b 0)) ↔ a = b := by
  by_cases h1 : a < 0 <;> by_cases h2 : b < 0
  · rw [if_pos h1, if_pos h2]
    exact ⟨fun _ => by omega, fun _ => rfl⟩
  · rw [if_pos h1, if_neg h2]
    exact ⟨(fun q => nomatch q), (fun q => by omega)⟩
  · rw [if_neg h1, if_pos h2]
    exact ⟨(fun q => nomatch q), (fun q => by omega)⟩
  · rw [if_neg h1, if_neg h2]
    refine ⟨fun q => ?_, fun q => by rw [q]⟩
    exact (hW.2.2 12 a 0 12 b 0 ⟨by omega, by omega, rfl⟩ ⟨by omega, by omega, rfl⟩ (Option.some.inj q)).2.1
theorem c_acmp_eq (C : kOK K cc own Ts ret R) (hd : decode cc pc = .ok (.if_acmp .eq off, 3)) (ht : (pc : Int) + off = (tgt : Int)) (ha : -1 ≤ a ∧ a < σ 21 0 0 0) (hb : -1 ≤ b ∧ b < σ 21 0 0 0) (kt : a = b → G K (CL y σ) n loc tgt st) (kf : ¬ a = b → G K (CL y σ) n loc (pc + 3) st) : G K (CL y σ) n loc pc (vM y b :: vM y a :: st) :=
  fun ws tys H locs arr hW c d e f g => lv_acmp_eq (rx := if a < 0 then none else some (y.1 12 a 0)) (ry := if b < 0 then none else some (y.1 12 b 0)) C.1 C.2.1 hd ht (fun h => kt ((vM_inj hW ha hb).mp h) ws tys H locs arr hW c d e f g) (fun h => kf (fun q => h ((vM_inj hW ha hb).mpr q)) ws tys H locs arr hW c d e f g)
theorem c_acmp_ne (C : kOK K cc own Ts ret R) (hd : decode cc pc = .ok (.if_acmp .ne off, 3)) (ht : (pc : Int) + off = (tgt : Int)) (ha : -1 ≤ a ∧ a < σ 21 0 0 0) (hb : -1 ≤ b ∧ b < σ 21 0 0 0) (kt : ¬ a = b → G K (CL y σ) n loc tgt st) (kf : a = b → G K (CL y σ) n loc (pc + 3) st) : G K (CL y σ) n loc pc (vM y b :: vM y a :: st) :=
  fun ws tys H locs arr hW c d e f g => lv_acmp_ne (rx := if a < 0 then none else some (y.1 12 a 0)) (ry := if b < 0 then none else some (y.1 12 b 0)) C.1 C.2.1 hd ht (fun h => kt (fun q => h ((vM_inj hW ha hb).mpr q)) ws tys H locs arr hW c d e f g) (fun h => kf ((vM_inj hW ha hb).mp h) ws tys H locs arr hW c d e f g)
end MVALS
