/-! A HABIT MORE, A HABIT LESS -/
def yH (y : LT) (s j0 : Int) (a p : Nat) (cp : ClassId) : LT :=
  (fun κ i j => match κ with
    | 16 => if i = s ∧ j = j0 then a else y.1 16 i j
    | 15 => if i = s then p else y.1 15 i j
    | k => y.1 k i j,
   fun κ i j => match κ with
    | 15 => if i = s then cp else y.2.1 15 i j
    | k => y.2.1 k i j, y.2.2)
def sH (σ : CS) (s j0 kind x z n M : Int) : CS := fun c => match c with
  | 23 => up1 (σ 23) s (j0 + 1)
  | 14 => fun i j k => if i = s ∧ j = j0 then (if k = 0 then kind else if k = 1 then x else if k = 2 then z else n) else σ 14 i j k
  | 24 => up2 (σ 24) s (σ 13 s 0 0) j0
  | 13 => up1 (σ 13) s (σ 13 s 0 0 + 1)
  | 25 => up1 (σ 25) s (σ 25 s 0 0 + 1)
  | 17 => up1 (σ 17) s (σ 17 s 0 0 + 1)
  | 20 => up1 (σ 20) s M
  | k => σ k
theorem up2_s (f : Int → Int → Int → Int) (a b v z : Int) : up2 f a b v a b z = v := if_pos ⟨rfl, rfl⟩
theorem up2_n (f : Int → Int → Int → Int) {a b i j : Int} (v z : Int) (h : ¬ (i = a ∧ j = b)) : up2 f a b v i j z = f i j z := if_neg h
set_option maxHeartbeats 4000000 in
theorem FWC_H {m0 : Nat → Option va_E} {t0 t : ClassId → FieldType → Prop} {y : LT} {σ : CS} (h : FWC m0 t0 y σ) {s j0 : Int} (hs : 0 ≤ s ∧ s < σ 22 0 0 0) (hj : (0 ≤ σ 23 s 0 0 ∧ j0 = σ 23 s 0 0) ∨ (σ 23 s 0 0 < 0 ∧ j0 = 0)) (hO : σ 25 s 0 0 = σ 13 s 0 0 ∧ ∀ k, 0 ≤ k → k < σ 13 s 0 0 → 0 ≤ σ 24 s k 0 ∧ σ 24 s k 0 < σ 23 s 0 0) {a p n M : Nat} {cp : ClassId} {kind x z nn : Int} (hn : (n : Int) = σ 13 s 0 0) (ha : m0 a = none) (hp : (p = y.1 15 s 0 ∧ 0 < σ 20 s 0 0) ∨ (m0 p = none ∧ p ≠ a)) (ht : ∀ c ty, t0 c ty → t c ty) (htp : t cp tObj) (hM : 0 < M) :
    FWC (fU (fU (fU m0 a (.inr (1, [.int (iZ kind), .int (iZ x), .int (iZ z), .int (iZ nn)]))) p (refsE cp M (va_up (fun k : Nat => if (k : Int) < σ 25 s 0 0 then some (y.1 16 s (σ 24 s k 0)) else none) n (some a)))) (y.1 14 s 0) (.inr (0, [.int (iZ (σ 17 s 0 0 + 1)), .ref p, .int (iZ ((n : Int) + 1))]))) t (yH y s j0 a p cp) (sH σ s j0 kind x z nn M) := by
  obtain ⟨o1, o2⟩ := hO
  have hd4 : cDom σ 14 s 0 := ⟨hs.1, hs.2, rfl⟩
  have n4a : y.1 14 s 0 ≠ a := h.ne ha hd4
  have hpp : p ≠ a ∧ y.1 14 s 0 ≠ p ∧ ∀ κ i j, cDom σ κ i j → ¬ (κ = 15 ∧ i = s) → y.1 κ i j ≠ p := by
    rcases hp with ⟨rfl, h9⟩ | ⟨h9, h10⟩
    · have hd5 : cDom σ 15 s 0 := ⟨hs.1, hs.2, rfl, h9⟩
      exact ⟨h.ne ha hd5, fun x => absurd (h.2.2 _ _ _ _ _ _ hd4 hd5 x).1 (by decide), fun κ i j hd hk x => hk ⟨(h.2.2 _ _ _ _ _ _ hd hd5 x).1, (h.2.2 _ _ _ _ _ _ hd hd5 x).2.1⟩⟩
    · exact ⟨h10, h.ne h9 hd4, fun κ i j hd _ => h.ne h9 hd⟩
  obtain ⟨npa, n4p, nop⟩ := hpp
  have hj0 : 0 ≤ j0 := by omega
  refine FWC_ext h (fun κ i j => (κ = 16 ∧ i = s ∧ j = j0) ∨ (κ = 14 ∧ i = s) ∨ (κ = 15 ∧ i = s)) (fun κ i j hd hN => ?_) ht (fun κ i j hd => ?_) (fun κ i j hN hd => ?_) (fun κ i j κ2 i2 j2 hN hN2 hd hd2 he => ?_)
  · have e3 : y.1 κ i j ≠ y.1 14 s 0 := fun x => hN (Or.inr (Or.inl ⟨(h.2.2 _ _ _ _ _ _ hd hd4 x).1, (h.2.2 _ _ _ _ _ _ hd hd4 x).2.1⟩))
    have e4 : y.1 κ i j ≠ p := nop κ i j hd (fun x => hN (Or.inr (Or.inr x)))
    rw [fU_n _ _ e3, fU_n _ _ e4, fU_n _ _ (h.ne ha hd)]
  · rcases κ with _ | _ | _ | _ | _ | _ | _ | _ | _ | _ | _ | _ | _ | _ | _ | _ | _ | κ
    · exact Or.inr ⟨hd, by simp, rfl, rfl, rfl⟩
    · exact Or.inr ⟨hd, by simp, rfl, rfl, rfl⟩
    · exact Or.inr ⟨hd, by simp, rfl, rfl, rfl⟩
    · exact Or.inr ⟨hd, by simp, rfl, rfl, rfl⟩
    · exact Or.inr ⟨hd, by simp, rfl, rfl, rfl⟩
    · exact Or.inr ⟨hd, by simp, rfl, rfl, rfl⟩
    · exact Or.inr ⟨hd, by simp, rfl, rfl, rfl⟩
    · exact Or.inr ⟨hd, by simp, rfl, rfl, rfl⟩
    · exact Or.inr ⟨hd, by simp, rfl, rfl, rfl⟩
    · exact Or.inr ⟨hd, by simp, rfl, rfl, rfl⟩
    · exact Or.inr ⟨hd, by simp, rfl, rfl, rfl⟩
    · exact Or.inr ⟨hd, by simp, rfl, rfl, rfl⟩
    · exact Or.inr ⟨hd, by simp, rfl, rfl, rfl⟩
    · exact Or.inr ⟨hd, by simp, rfl, rfl, rfl⟩
    · by_cases q : i = s
      · exact Or.inl (by simp [q])
      · refine Or.inr ⟨hd, by simp [q], rfl, rfl, ?_⟩
        show (Sum.inr (0, [.int (iZ (up1 (σ 17) s (σ 17 s 0 0 + 1) i 0 0)), .ref (if up1 (σ 20) s M i 0 0 = 0 then y.2.2 else (if i = s then p else y.1 15 i 0)), .int (iZ (up1 (σ 13) s (σ 13 s 0 0 + 1) i 0 0))]) : va_E) = _
        rw [up1_n _ _ _ _ q, up1_n _ _ _ _ q, up1_n _ _ _ _ q, if_neg q]
        rfl
    · have hd' : 0 ≤ i ∧ i < σ 22 0 0 0 ∧ j = 0 ∧ 0 < up1 (σ 20) s M i 0 0 := hd
      by_cases q : i = s
      · exact Or.inl (by simp [q])
      · rw [up1_n _ _ _ _ q] at hd'
        refine Or.inr ⟨hd', by simp [q], if_neg q, if_neg q, ?_⟩
        show (Sum.inl ((if i = s then cp else y.2.1 15 i 0), (up1 (σ 20) s M i 0 0).toNat, .inr (.inr (.inr (.inr (fun k : Nat => if (k : Int) < up1 (σ 25) s (σ 25 s 0 0 + 1) i 0 0 then some (if i = s ∧ up2 (σ 24) s (σ 13 s 0 0) j0 i k 0 = j0 then a else y.1 16 i (up2 (σ 24) s (σ 13 s 0 0) j0 i k 0)) else none))))) : va_E) = _
        rw [if_neg q, up1_n _ _ _ _ q, up1_n _ _ _ _ q]
        refine congrArg (fun f => refsE (y.2.1 15 i 0) (σ 20 i 0 0).toNat f) (funext fun k => ?_)
        rw [up2_n _ _ _ (fun x => q x.1), if_neg (show ¬ (i = s ∧ σ 24 i k 0 = j0) from fun x => q x.1)]
    · have hd' : 0 ≤ i ∧ i < σ 22 0 0 0 ∧ 0 ≤ j ∧ j < up1 (σ 23) s (j0 + 1) i 0 0 := hd
      by_cases q : i = s ∧ j = j0
      · exact Or.inl (by simp [q])
      · have hd2 : cDom σ 16 i j := by
          by_cases q2 : i = s
          · have q3 : j ≠ j0 := fun x => q ⟨q2, x⟩
            rw [q2, up1_s] at hd'
            rw [q2]
            exact ⟨hd'.1, hd'.2.1, hd'.2.2.1, by omega⟩
          · rw [up1_n _ _ _ _ q2] at hd'; exact hd'
        refine Or.inr ⟨hd2, by simp only [true_and]; omega, if_neg q, rfl, ?_⟩
        show (Sum.inr (1, [.int (iZ (if i = s ∧ j = j0 then (if (0 : Int) = 0 then kind else if (0 : Int) = 1 then x else if (0 : Int) = 2 then z else nn) else σ 14 i j 0)), .int (iZ (if i = s ∧ j = j0 then (if (1 : Int) = 0 then kind else if (1 : Int) = 1 then x else if (1 : Int) = 2 then z else nn) else σ 14 i j 1)), .int (iZ (if i = s ∧ j = j0 then (if (2 : Int) = 0 then kind else if (2 : Int) = 1 then x else if (2 : Int) = 2 then z else nn) else σ 14 i j 2)), .int (iZ (if i = s ∧ j = j0 then (if (3 : Int) = 0 then kind else if (3 : Int) = 1 then x else if (3 : Int) = 2 then z else nn) else σ 14 i j 3))]) : va_E) = _
        rw [if_neg q, if_neg q, if_neg q, if_neg q]
        rfl
    · exact hd.elim
  · rcases hN with ⟨rfl, rfl, rfl⟩ | ⟨rfl, rfl⟩ | ⟨rfl, rfl⟩
    · have e : (yH y i j a p cp).1 16 i j = a := if_pos ⟨rfl, rfl⟩
      refine ⟨?_, (fun ty hc => nomatch hc), fun κ2 i2 j2 hd2 hN2 => ?_⟩
      · rw [e, fU_n _ _ (Ne.symm n4a), fU_n _ _ (Ne.symm npa), fU_s]
        show _ = some (Sum.inr (1, [.int (iZ (if i = i ∧ j = j then (if (0 : Int) = 0 then kind else if (0 : Int) = 1 then x else if (0 : Int) = 2 then z else nn) else σ 14 i j 0)), .int (iZ (if i = i ∧ j = j then (if (1 : Int) = 0 then kind else if (1 : Int) = 1 then x else if (1 : Int) = 2 then z else nn) else σ 14 i j 1)), .int (iZ (if i = i ∧ j = j then (if (2 : Int) = 0 then kind else if (2 : Int) = 1 then x else if (2 : Int) = 2 then z else nn) else σ 14 i j 2)), .int (iZ (if i = i ∧ j = j then (if (3 : Int) = 0 then kind else if (3 : Int) = 1 then x else if (3 : Int) = 2 then z else nn) else σ 14 i j 3))]) : va_E)
        simp
      · rw [e]; exact h.ne ha hd2
    · obtain ⟨-, -, rfl⟩ := hd
      refine ⟨?_, (fun ty hc => nomatch hc), fun κ2 i2 j2 hd2 hN2 x => hN2 (Or.inr (Or.inl ⟨(h.2.2 _ _ _ _ _ _ hd2 hd4 x).1, (h.2.2 _ _ _ _ _ _ hd2 hd4 x).2.1⟩))⟩
      show fU _ (y.1 14 i 0) _ (y.1 14 i 0) = some (Sum.inr (0, [.int (iZ (up1 (σ 17) i (σ 17 i 0 0 + 1) i 0 0)), .ref (if up1 (σ 20) i M i 0 0 = 0 then y.2.2 else (if i = i then p else y.1 15 i 0)), .int (iZ (up1 (σ 13) i (σ 13 i 0 0 + 1) i 0 0))]) : va_E)
      rw [fU_s, up1_s, up1_s, up1_s, if_neg (by omega), if_pos rfl, hn]
    · obtain ⟨-, -, rfl, -⟩ := hd
      have e : (yH y i j0 a p cp).1 15 i 0 = p := if_pos rfl
      have ec : (yH y i j0 a p cp).2.1 15 i 0 = cp := if_pos rfl
      refine ⟨?_, (fun ty hc => by cases hc; rw [ec]; exact htp), fun κ2 i2 j2 hd2 hN2 => ?_⟩
      · rw [e, fU_n _ _ (Ne.symm n4p), fU_s]
        show _ = some (Sum.inl ((if i = i then cp else y.2.1 15 i 0), (up1 (σ 20) i M i 0 0).toNat, .inr (.inr (.inr (.inr (fun k : Nat => if (k : Int) < up1 (σ 25) i (σ 25 i 0 0 + 1) i 0 0 then some (if i = i ∧ up2 (σ 24) i (σ 13 i 0 0) j0 i k 0 = j0 then a else y.1 16 i (up2 (σ 24) i (σ 13 i 0 0) j0 i k 0)) else none))))) : va_E)
        rw [if_pos rfl, up1_s, up1_s, show ((M : Nat) : Int).toNat = M from rfl]
        refine congrArg (fun f => some (refsE cp M f)) (funext fun k => ?_)
        show (if k = n then some a else if (k : Int) < σ 25 i 0 0 then some (y.1 16 i (σ 24 i k 0)) else none) = _
        by_cases q : k = n
        · rw [if_pos q, if_pos (by omega), show (k : Int) = σ 13 i 0 0 from by omega, up2_s, if_pos ⟨rfl, rfl⟩]
        · rw [if_neg q]
          by_cases q2 : (k : Int) < σ 25 i 0 0
          · have q3 := o2 k (by omega) (by omega)
            rw [if_pos q2, if_pos (by omega), up2_n _ _ _ (fun x => by omega), if_neg (fun x => by omega)]
          · rw [if_neg q2, if_neg (by omega)]
      · rw [e]; exact nop κ2 i2 j2 hd2 (fun x => hN2 (Or.inr (Or.inr x)))
  · have ea : (yH y s j0 a p cp).1 16 s j0 = a := if_pos ⟨rfl, rfl⟩
    have e4 : (yH y s j0 a p cp).1 14 s 0 = y.1 14 s 0 := rfl
    have e5 : (yH y s j0 a p cp).1 15 s 0 = p := if_pos rfl
    rcases hN with ⟨rfl, rfl, rfl⟩ | ⟨rfl, rfl⟩ | ⟨rfl, rfl⟩
    · rw [ea] at he
      rcases hN2 with ⟨rfl, rfl, rfl⟩ | ⟨rfl, rfl⟩ | ⟨rfl, rfl⟩
      · exact ⟨rfl, rfl, rfl⟩
      · obtain ⟨-, -, rfl⟩ := hd2
        rw [e4] at he; exact absurd he.symm n4a
      · obtain ⟨-, -, rfl, -⟩ := hd2
        rw [e5] at he; exact absurd he.symm npa
    · obtain ⟨-, -, rfl⟩ := hd
      rw [e4] at he
      rcases hN2 with ⟨rfl, rfl, rfl⟩ | ⟨rfl, rfl⟩ | ⟨rfl, rfl⟩
      · rw [ea] at he; exact absurd he n4a
      · exact ⟨rfl, rfl, hd2.2.2.symm⟩
      · obtain ⟨-, -, rfl, -⟩ := hd2
        rw [e5] at he; exact absurd he n4p
    · obtain ⟨-, -, rfl, -⟩ := hd
      rw [e5] at he
      rcases hN2 with ⟨rfl, rfl, rfl⟩ | ⟨rfl, rfl⟩ | ⟨rfl, rfl⟩
      · rw [ea] at he; exact absurd he npa
      · obtain ⟨-, -, rfl⟩ := hd2
        rw [e4] at he; exact absurd he.symm n4p
      · exact ⟨rfl, rfl, hd2.2.2.1.symm⟩
/-- a habit less: no names come -/
def sD (σ : CS) (s hh : Int) : CS := fun c => match c with
  | 24 => fun i k z => if i = s ∧ hh ≤ k then σ 24 i (k + 1) z else σ 24 i k z
  | 13 => up1 (σ 13) s (σ 13 s 0 0 - 1)
  | 25 => up1 (σ 25) s (σ 25 s 0 0 - 1)
  | 17 => up1 (σ 17) s (σ 17 s 0 0 + 1)
  | k => σ k
set_option maxHeartbeats 4000000 in
theorem FWC_D {m0 : Nat → Option va_E} {t0 : ClassId → FieldType → Prop} {y : LT} {σ : CS} (h : FWC m0 t0 y σ) {s : Int} (hs : 0 ≤ s ∧ s < σ 22 0 0 0) {n hn : Nat} (hsz : (n : Int) = σ 13 s 0 0 ∧ σ 25 s 0 0 = σ 13 s 0 0 ∧ hn < n) (hc : 0 < σ 20 s 0 0) :
    FWC (fU (fU m0 (y.1 15 s 0) (refsE (y.2.1 15 s 0) (σ 20 s 0 0).toNat (rmF (fun k : Nat => if (k : Int) < σ 25 s 0 0 then some (y.1 16 s (σ 24 s k 0)) else none) hn))) (y.1 14 s 0) (.inr (0, [.int (iZ (σ 17 s 0 0 + 1)), .ref (y.1 15 s 0), .int (iZ ((n - 1 : Nat) : Int))]))) t0 y (sD σ s hn) := by
  have hd4 : cDom σ 14 s 0 := ⟨hs.1, hs.2, rfl⟩
  have hd5 : cDom σ 15 s 0 := ⟨hs.1, hs.2, rfl, hc⟩
  have n45 : y.1 14 s 0 ≠ y.1 15 s 0 := fun x => absurd (h.2.2 _ _ _ _ _ _ hd4 hd5 x).1 (by decide)
  refine FWC_ext h (fun κ i _ => (κ = 14 ∧ i = s) ∨ (κ = 15 ∧ i = s)) (fun κ i j hd hN => ?_) (fun _ _ x => x) (fun κ i j hd => ?_) (fun κ i j hN hd => ?_) (fun κ i j κ2 i2 j2 hN hN2 hd hd2 he => ?_)
  · have e3 : y.1 κ i j ≠ y.1 14 s 0 := fun x => hN (Or.inl ⟨(h.2.2 _ _ _ _ _ _ hd hd4 x).1, (h.2.2 _ _ _ _ _ _ hd hd4 x).2.1⟩)
    have e4 : y.1 κ i j ≠ y.1 15 s 0 := fun x => hN (Or.inr ⟨(h.2.2 _ _ _ _ _ _ hd hd5 x).1, (h.2.2 _ _ _ _ _ _ hd hd5 x).2.1⟩)
    rw [fU_n _ _ e3, fU_n _ _ e4]
  · rcases κ with _ | _ | _ | _ | _ | _ | _ | _ | _ | _ | _ | _ | _ | _ | _ | _ | _ | κ
    · exact Or.inr ⟨hd, by simp, rfl, rfl, rfl⟩
    · exact Or.inr ⟨hd, by simp, rfl, rfl, rfl⟩
    · exact Or.inr ⟨hd, by simp, rfl, rfl, rfl⟩
    · exact Or.inr ⟨hd, by simp, rfl, rfl, rfl⟩
    · exact Or.inr ⟨hd, by simp, rfl, rfl, rfl⟩
    · exact Or.inr ⟨hd, by simp, rfl, rfl, rfl⟩
    · exact Or.inr ⟨hd, by simp, rfl, rfl, rfl⟩
    · exact Or.inr ⟨hd, by simp, rfl, rfl, rfl⟩
    · exact Or.inr ⟨hd, by simp, rfl, rfl, rfl⟩
    · exact Or.inr ⟨hd, by simp, rfl, rfl, rfl⟩
    · exact Or.inr ⟨hd, by simp, rfl, rfl, rfl⟩
    · exact Or.inr ⟨hd, by simp, rfl, rfl, rfl⟩
    · exact Or.inr ⟨hd, by simp, rfl, rfl, rfl⟩
    · exact Or.inr ⟨hd, by simp, rfl, rfl, rfl⟩
    · by_cases q : i = s
      · exact Or.inl (by simp [q])
      · refine Or.inr ⟨hd, by simp [q], rfl, rfl, ?_⟩
        show (Sum.inr (0, [.int (iZ (up1 (σ 17) s (σ 17 s 0 0 + 1) i 0 0)), .ref (if σ 20 i 0 0 = 0 then y.2.2 else y.1 15 i 0), .int (iZ (up1 (σ 13) s (σ 13 s 0 0 - 1) i 0 0))]) : va_E) = _
        rw [up1_n _ _ _ _ q, up1_n _ _ _ _ q]
        rfl
    · by_cases q : i = s
      · exact Or.inl (by simp [q])
      · refine Or.inr ⟨hd, by simp [q], rfl, rfl, ?_⟩
        show (Sum.inl (y.2.1 15 i 0, (σ 20 i 0 0).toNat, .inr (.inr (.inr (.inr (fun k : Nat => if (k : Int) < up1 (σ 25) s (σ 25 s 0 0 - 1) i 0 0 then some (y.1 16 i (if i = s ∧ (hn : Int) ≤ (k : Int) then σ 24 i (k + 1) 0 else σ 24 i k 0)) else none))))) : va_E) = _
        rw [up1_n _ _ _ _ q]
        refine congrArg (fun f => refsE (y.2.1 15 i 0) (σ 20 i 0 0).toNat f) (funext fun k => ?_)
        rw [if_neg (show ¬ (i = s ∧ (hn : Int) ≤ (k : Int)) from fun x => q x.1)]
    · exact Or.inr ⟨hd, by simp, rfl, rfl, rfl⟩
    · exact hd.elim
  · rcases hN with ⟨rfl, rfl⟩ | ⟨rfl, rfl⟩
    · obtain ⟨-, -, rfl⟩ := hd
      refine ⟨?_, (fun ty hc => nomatch hc), fun κ2 i2 j2 hd2 hN2 x => hN2 (Or.inl ⟨(h.2.2 _ _ _ _ _ _ hd2 hd4 x).1, (h.2.2 _ _ _ _ _ _ hd2 hd4 x).2.1⟩)⟩
      show fU _ (y.1 14 i 0) _ (y.1 14 i 0) = some (Sum.inr (0, [.int (iZ (up1 (σ 17) i (σ 17 i 0 0 + 1) i 0 0)), .ref (if σ 20 i 0 0 = 0 then y.2.2 else y.1 15 i 0), .int (iZ (up1 (σ 13) i (σ 13 i 0 0 - 1) i 0 0))]) : va_E)
      rw [fU_s, up1_s, up1_s, if_neg (by omega), show ((n - 1 : Nat) : Int) = σ 13 i 0 0 - 1 from by omega]
    · obtain ⟨-, -, rfl, -⟩ := hd
      refine ⟨?_, (fun ty hc => by cases hc; exact h.2.1 15 i 0 _ hd5 rfl), fun κ2 i2 j2 hd2 hN2 x => hN2 (Or.inr ⟨(h.2.2 _ _ _ _ _ _ hd2 hd5 x).1, (h.2.2 _ _ _ _ _ _ hd2 hd5 x).2.1⟩)⟩
      show fU _ (y.1 14 i 0) _ (y.1 15 i 0) = some (Sum.inl (y.2.1 15 i 0, (σ 20 i 0 0).toNat, .inr (.inr (.inr (.inr (fun k : Nat => if (k : Int) < up1 (σ 25) i (σ 25 i 0 0 - 1) i 0 0 then some (y.1 16 i (if i = i ∧ (hn : Int) ≤ (k : Int) then σ 24 i (k + 1) 0 else σ 24 i k 0)) else none))))) : va_E)
      rw [fU_n _ _ (Ne.symm n45), fU_s, up1_s]
      refine congrArg (fun f => some (refsE (y.2.1 15 i 0) (σ 20 i 0 0).toNat f)) (funext fun k => ?_)
      show (if k < hn then (if (k : Int) < σ 25 i 0 0 then some (y.1 16 i (σ 24 i k 0)) else none) else (if ((k + 1 : Nat) : Int) < σ 25 i 0 0 then some (y.1 16 i (σ 24 i ((k + 1 : Nat) : Int) 0)) else none)) = _
      by_cases q : k < hn
      · rw [if_pos q, if_pos (by omega), if_pos (by omega), if_neg (by omega)]
      · rw [if_neg q]
        by_cases q2 : ((k + 1 : Nat) : Int) < σ 25 i 0 0
        · rw [if_pos q2, if_pos (by omega), if_pos ⟨rfl, by omega⟩]
          rfl
        · rw [if_neg q2, if_neg (by omega)]
  · rcases hN with ⟨rfl, rfl⟩ | ⟨rfl, rfl⟩
    · obtain ⟨-, -, rfl⟩ := hd
      rcases hN2 with ⟨rfl, rfl⟩ | ⟨rfl, rfl⟩
      · exact ⟨rfl, rfl, hd2.2.2.symm⟩
      · obtain ⟨-, -, rfl, -⟩ := hd2
        exact absurd he n45
    · obtain ⟨-, -, rfl, -⟩ := hd
      rcases hN2 with ⟨rfl, rfl⟩ | ⟨rfl, rfl⟩
      · obtain ⟨-, -, rfl⟩ := hd2
        exact absurd he.symm n45
      · exact ⟨rfl, rfl, hd2.2.2.1.symm⟩
