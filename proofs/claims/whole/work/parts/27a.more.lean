/-! A SCRIBE MORE, A HABIT MORE OR LESS, A MANUSCRIPT MORE: names and states -/
def yS (y : LT) (s : Int) (a l p : Nat) (cp : ClassId) : LT :=
  (fun κ i j => match κ with
    | 13 => if i = s then a else y.1 13 i j
    | 14 => if i = s then l else y.1 14 i j
    | 5 => p
    | k => y.1 k i j,
   fun κ i j => match κ with
    | 5 => cp
    | k => y.2.1 k i j, y.2.2)
def sS (σ : CS) (M : Int) : CS := fun c => match c with
  | 3 => fun _ _ _ => σ 3 0 0 0 + 1
  | 22 => fun _ _ _ => σ 22 0 0 0 + 1
  | 27 => fun _ _ _ => σ 27 0 0 0 + 1
  | 16 => fun _ _ _ => σ 16 0 0 0 + 1
  | 19 => fun _ _ _ => M
  | 17 => up1 (σ 17) (σ 22 0 0 0) 0
  | 20 => up1 (σ 20) (σ 22 0 0 0) 0
  | 13 => up1 (σ 13) (σ 22 0 0 0) 0
  | 23 => up1 (σ 23) (σ 22 0 0 0) 0
  | 25 => up1 (σ 25) (σ 22 0 0 0) 0
  | k => σ k
set_option maxHeartbeats 4000000 in
theorem FWC_S {m0 : Nat → Option va_E} {t0 t : ClassId → FieldType → Prop} {y : LT} {σ : CS} (h : FWC m0 t0 y σ) (hO : σ 22 0 0 0 = σ 3 0 0 0 ∧ σ 27 0 0 0 = σ 3 0 0 0 ∧ 0 ≤ σ 3 0 0 0) {a l p n M : Nat} {cp : ClassId} (hn : (n : Int) = σ 3 0 0 0) (ha : m0 a = none) (hl : m0 l = none) (hal : a ≠ l) (hp : (p = y.1 5 0 0 ∧ 0 < σ 19 0 0 0) ∨ (m0 p = none ∧ p ≠ a ∧ p ≠ l)) (ht : ∀ c ty, t0 c ty → t c ty) (htp : t cp tObj) (hM : 0 < M) :
    FWC (fU (fU (fU (fU m0 l (.inr (0, [.int (iZ 0), .ref y.2.2, .int (iZ 0)]))) a (.inr (3, [.ref l]))) p (refsE cp M (va_up (fun k : Nat => if (k : Int) < σ 27 0 0 0 then some (y.1 13 k 0) else none) n (some a)))) (y.1 4 0 0) (.inr (0, [.int (iZ (σ 16 0 0 0 + 1)), .ref p, .int (iZ ((n : Int) + 1))]))) t (yS y (σ 22 0 0 0) a l p cp) (sS σ M) := by
  obtain ⟨o1, o2, o3⟩ := hO
  have hd4 : cDom σ 4 0 0 := ⟨rfl, rfl⟩
  have n4a : y.1 4 0 0 ≠ a := h.ne ha hd4
  have n4l : y.1 4 0 0 ≠ l := h.ne hl hd4
  have hpp : p ≠ a ∧ p ≠ l ∧ y.1 4 0 0 ≠ p ∧ ∀ κ i j, cDom σ κ i j → κ ≠ 5 → y.1 κ i j ≠ p := by
    rcases hp with ⟨rfl, h9⟩ | ⟨h9, h10, h11⟩
    · have hd5 : cDom σ 5 0 0 := ⟨rfl, rfl, h9⟩
      exact ⟨h.ne ha hd5, h.ne hl hd5, fun x => absurd (h.2.2 _ _ _ _ _ _ hd4 hd5 x).1 (by decide), fun κ i j hd hk x => hk (h.2.2 _ _ _ _ _ _ hd hd5 x).1⟩
    · exact ⟨h10, h11, h.ne h9 hd4, fun κ i j hd _ => h.ne h9 hd⟩
  obtain ⟨npa, npl, n4p, nop⟩ := hpp
  refine FWC_ext h (fun κ i _ => (κ = 13 ∧ i = σ 22 0 0 0) ∨ (κ = 14 ∧ i = σ 22 0 0 0) ∨ κ = 4 ∨ κ = 5) (fun κ i j hd hN => ?_) ht (fun κ i j hd => ?_) (fun κ i j hN hd => ?_) (fun κ i j κ2 i2 j2 hN hN2 hd hd2 he => ?_)
  · have e3 : y.1 κ i j ≠ y.1 4 0 0 := fun x => hN (Or.inr (Or.inr (Or.inl (h.2.2 _ _ _ _ _ _ hd hd4 x).1)))
    have e4 : y.1 κ i j ≠ p := nop κ i j hd (fun x => hN (Or.inr (Or.inr (Or.inr x))))
    rw [fU_n _ _ e3, fU_n _ _ e4, fU_n _ _ (h.ne ha hd), fU_n _ _ (h.ne hl hd)]
  · rcases κ with _ | _ | _ | _ | _ | _ | _ | _ | _ | _ | _ | _ | _ | _ | _ | _ | _ | κ
    · exact Or.inr ⟨hd, by simp, rfl, rfl, rfl⟩
    · exact Or.inr ⟨hd, by simp, rfl, rfl, rfl⟩
    · exact Or.inr ⟨hd, by simp, rfl, rfl, rfl⟩
    · exact Or.inr ⟨hd, by simp, rfl, rfl, rfl⟩
    · exact Or.inl (by simp)
    · exact Or.inl (by simp)
    · exact Or.inr ⟨hd, by simp, rfl, rfl, rfl⟩
    · exact Or.inr ⟨hd, by simp, rfl, rfl, rfl⟩
    · exact Or.inr ⟨hd, by simp, rfl, rfl, rfl⟩
    · exact Or.inr ⟨hd, by simp, rfl, rfl, rfl⟩
    · exact Or.inr ⟨hd, by simp, rfl, rfl, rfl⟩
    · exact Or.inr ⟨hd, by simp, rfl, rfl, rfl⟩
    · exact Or.inr ⟨hd, by simp, rfl, rfl, rfl⟩
    · have hd' : 0 ≤ i ∧ i < σ 22 0 0 0 + 1 ∧ j = 0 := hd
      by_cases q : i = σ 22 0 0 0
      · exact Or.inl (by simp [q])
      · refine Or.inr ⟨⟨hd'.1, by omega, hd'.2.2⟩, by simp [q], if_neg q, rfl, ?_⟩
        show (Sum.inr (3, [.ref (if i = σ 22 0 0 0 then l else y.1 14 i 0)]) : va_E) = _
        rw [if_neg q]
        rfl
    · have hd' : 0 ≤ i ∧ i < σ 22 0 0 0 + 1 ∧ j = 0 := hd
      by_cases q : i = σ 22 0 0 0
      · exact Or.inl (by simp [q])
      · refine Or.inr ⟨⟨hd'.1, by omega, hd'.2.2⟩, by simp [q], if_neg q, rfl, ?_⟩
        show (Sum.inr (0, [.int (iZ (up1 (σ 17) (σ 22 0 0 0) 0 i 0 0)), .ref (if up1 (σ 20) (σ 22 0 0 0) 0 i 0 0 = 0 then y.2.2 else y.1 15 i 0), .int (iZ (up1 (σ 13) (σ 22 0 0 0) 0 i 0 0))]) : va_E) = _
        rw [up1_n _ _ _ _ q, up1_n _ _ _ _ q, up1_n _ _ _ _ q]
        rfl
    · have hd' : 0 ≤ i ∧ i < σ 22 0 0 0 + 1 ∧ j = 0 ∧ 0 < up1 (σ 20) (σ 22 0 0 0) 0 i 0 0 := hd
      by_cases q : i = σ 22 0 0 0
      · rw [q, up1_s] at hd'; omega
      · rw [up1_n _ _ _ _ q] at hd'
        refine Or.inr ⟨⟨hd'.1, by omega, hd'.2.2.1, hd'.2.2.2⟩, by simp, rfl, rfl, ?_⟩
        show (Sum.inl (y.2.1 15 i 0, (up1 (σ 20) (σ 22 0 0 0) 0 i 0 0).toNat, .inr (.inr (.inr (.inr (fun k : Nat => if (k : Int) < up1 (σ 25) (σ 22 0 0 0) 0 i 0 0 then some (y.1 16 i (σ 24 i k 0)) else none))))) : va_E) = _
        rw [up1_n _ _ _ _ q, up1_n _ _ _ _ q]
        rfl
    · have hd' : 0 ≤ i ∧ i < σ 22 0 0 0 + 1 ∧ 0 ≤ j ∧ j < up1 (σ 23) (σ 22 0 0 0) 0 i 0 0 := hd
      by_cases q : i = σ 22 0 0 0
      · rw [q, up1_s] at hd'; omega
      · rw [up1_n _ _ _ _ q] at hd'
        exact Or.inr ⟨⟨hd'.1, by omega, hd'.2.2.1, hd'.2.2.2⟩, by simp, rfl, rfl, rfl⟩
    · exact hd.elim
  · rcases hN with ⟨rfl, rfl⟩ | ⟨rfl, rfl⟩ | rfl | rfl
    · obtain ⟨-, -, rfl⟩ := hd
      have e : (yS y (σ 22 0 0 0) a l p cp).1 13 (σ 22 0 0 0) 0 = a := if_pos rfl
      refine ⟨?_, (fun ty hc => nomatch hc), fun κ2 i2 j2 hd2 hN2 => ?_⟩
      · rw [e, fU_n _ _ (Ne.symm n4a), fU_n _ _ (Ne.symm npa), fU_s]
        show some (Sum.inr (3, [.ref l]) : va_E) = some (Sum.inr (3, [.ref (if σ 22 0 0 0 = σ 22 0 0 0 then l else y.1 14 (σ 22 0 0 0) 0)]))
        rw [if_pos rfl]
      · rw [e]; exact h.ne ha hd2
    · obtain ⟨-, -, rfl⟩ := hd
      have e : (yS y (σ 22 0 0 0) a l p cp).1 14 (σ 22 0 0 0) 0 = l := if_pos rfl
      refine ⟨?_, (fun ty hc => nomatch hc), fun κ2 i2 j2 hd2 hN2 => ?_⟩
      · rw [e, fU_n _ _ (Ne.symm n4l), fU_n _ _ (Ne.symm npl), fU_n _ _ (Ne.symm hal), fU_s]
        show _ = some (Sum.inr (0, [.int (iZ (up1 (σ 17) (σ 22 0 0 0) 0 (σ 22 0 0 0) 0 0)), .ref (if up1 (σ 20) (σ 22 0 0 0) 0 (σ 22 0 0 0) 0 0 = 0 then y.2.2 else y.1 15 (σ 22 0 0 0) 0), .int (iZ (up1 (σ 13) (σ 22 0 0 0) 0 (σ 22 0 0 0) 0 0))]) : va_E)
        rw [up1_s, up1_s, up1_s, if_pos rfl]
      · rw [e]; exact h.ne hl hd2
    · obtain ⟨rfl, rfl⟩ := hd
      refine ⟨?_, (fun ty hc => nomatch hc), fun κ2 i2 j2 hd2 hN2 x => hN2 (Or.inr (Or.inr (Or.inl (h.2.2 _ _ _ _ _ _ hd2 hd4 x).1)))⟩
      show fU _ (y.1 4 0 0) _ (y.1 4 0 0) = some (Sum.inr (0, [.int (iZ (σ 16 0 0 0 + 1)), .ref (if (M : Int) = 0 then y.2.2 else p), .int (iZ (σ 3 0 0 0 + 1))]) : va_E)
      rw [fU_s, if_neg (by omega), hn]
    · obtain ⟨rfl, rfl, -⟩ := hd
      refine ⟨?_, (fun ty hc => by cases hc; exact htp), fun κ2 i2 j2 hd2 hN2 => nop κ2 i2 j2 hd2 (fun x => hN2 (Or.inr (Or.inr (Or.inr x))))⟩
      show fU _ (y.1 4 0 0) _ p = some (Sum.inl (cp, ((M : Nat) : Int).toNat, .inr (.inr (.inr (.inr (fun k : Nat => if (k : Int) < σ 27 0 0 0 + 1 then some (if (k : Int) = σ 22 0 0 0 then a else y.1 13 k 0) else none))))) : va_E)
      rw [fU_n _ _ (Ne.symm n4p), fU_s, show ((M : Nat) : Int).toNat = M from rfl]
      refine congrArg (fun f => some (refsE cp M f)) (funext fun k => ?_)
      show (if k = n then some a else if (k : Int) < σ 27 0 0 0 then some (y.1 13 k 0) else none) = _
      by_cases q : k = n
      · rw [if_pos q, if_pos (by omega), if_pos (by omega)]
      · rw [if_neg q]
        by_cases q2 : (k : Int) < σ 27 0 0 0
        · rw [if_pos q2, if_pos (by omega), if_neg (by omega)]
        · rw [if_neg q2, if_neg (by omega)]
  · have ea : (yS y (σ 22 0 0 0) a l p cp).1 13 (σ 22 0 0 0) 0 = a := if_pos rfl
    have el : (yS y (σ 22 0 0 0) a l p cp).1 14 (σ 22 0 0 0) 0 = l := if_pos rfl
    have e4 : (yS y (σ 22 0 0 0) a l p cp).1 4 0 0 = y.1 4 0 0 := rfl
    have e5 : (yS y (σ 22 0 0 0) a l p cp).1 5 0 0 = p := rfl
    rcases hN with ⟨rfl, rfl⟩ | ⟨rfl, rfl⟩ | rfl | rfl
    · obtain ⟨-, -, rfl⟩ := hd
      rw [ea] at he
      rcases hN2 with ⟨rfl, rfl⟩ | ⟨rfl, rfl⟩ | rfl | rfl
      · exact ⟨rfl, rfl, hd2.2.2.symm⟩
      · obtain ⟨-, -, rfl⟩ := hd2
        rw [el] at he; exact absurd he hal
      · obtain ⟨rfl, rfl⟩ := hd2
        rw [e4] at he; exact absurd he.symm n4a
      · obtain ⟨rfl, rfl, -⟩ := hd2
        rw [e5] at he; exact absurd he.symm npa
    · obtain ⟨-, -, rfl⟩ := hd
      rw [el] at he
      rcases hN2 with ⟨rfl, rfl⟩ | ⟨rfl, rfl⟩ | rfl | rfl
      · obtain ⟨-, -, rfl⟩ := hd2
        rw [ea] at he; exact absurd he.symm hal
      · exact ⟨rfl, rfl, hd2.2.2.symm⟩
      · obtain ⟨rfl, rfl⟩ := hd2
        rw [e4] at he; exact absurd he.symm n4l
      · obtain ⟨rfl, rfl, -⟩ := hd2
        rw [e5] at he; exact absurd he.symm npl
    · obtain ⟨rfl, rfl⟩ := hd
      rw [e4] at he
      rcases hN2 with ⟨rfl, rfl⟩ | ⟨rfl, rfl⟩ | rfl | rfl
      · obtain ⟨-, -, rfl⟩ := hd2
        rw [ea] at he; exact absurd he n4a
      · obtain ⟨-, -, rfl⟩ := hd2
        rw [el] at he; exact absurd he n4l
      · exact ⟨rfl, hd2.1.symm, hd2.2.symm⟩
      · obtain ⟨rfl, rfl, -⟩ := hd2
        rw [e5] at he; exact absurd he n4p
    · obtain ⟨rfl, rfl, -⟩ := hd
      rw [e5] at he
      rcases hN2 with ⟨rfl, rfl⟩ | ⟨rfl, rfl⟩ | rfl | rfl
      · obtain ⟨-, -, rfl⟩ := hd2
        rw [ea] at he; exact absurd he npa
      · obtain ⟨-, -, rfl⟩ := hd2
        rw [el] at he; exact absurd he npl
      · obtain ⟨rfl, rfl⟩ := hd2
        rw [e4] at he; exact absurd he.symm n4p
      · exact ⟨rfl, hd2.1.symm, hd2.2.1.symm⟩
