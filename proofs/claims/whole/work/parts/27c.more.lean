/-! A MANUSCRIPT MORE -/
def yM (y : LT) (n : Int) (a t tl p : Nat) (ct cp : ClassId) : LT :=
  (fun κ i j => match κ with
    | 12 => if i = n then a else y.1 12 i j
    | 8 => if i = n + 3 then t else y.1 8 i j
    | 9 => if i = n + 3 then tl else y.1 9 i j
    | 3 => p
    | k => y.1 k i j,
   fun κ i j => match κ with
    | 9 => if i = n + 3 then ct else y.2.1 9 i j
    | 3 => cp
    | k => y.2.1 k i j, y.2.2)
def sM (σ : CS) (ex sc g len : Int) (L : Int → Int) (M : Int) : CS := fun c => match c with
  | 2 => fun _ _ _ => σ 2 0 0 0 + 1
  | 21 => fun _ _ _ => σ 21 0 0 0 + 1
  | 26 => fun _ _ _ => σ 26 0 0 0 + 1
  | 15 => fun _ _ _ => σ 15 0 0 0 + 1
  | 18 => fun _ _ _ => M
  | 9 => up1 (σ 9) (σ 21 0 0 0) ex
  | 10 => up1 (σ 10) (σ 21 0 0 0) sc
  | 11 => up1 (σ 11) (σ 21 0 0 0) g
  | 12 => up1 (σ 12) (σ 21 0 0 0) 1
  | 5 => up1 (σ 5) (σ 21 0 0 0 + 3) len
  | 6 => upR (σ 6) (σ 21 0 0 0 + 3) L
  | k => σ k
theorem upR_s (f : Int → Int → Int → Int) (a : Int) (g : Int → Int) (x z : Int) : upR f a g a x z = g x := if_pos rfl
theorem upR_n (f : Int → Int → Int → Int) {a i : Int} (g : Int → Int) (x z : Int) (h : ¬ i = a) : upR f a g i x z = f i x z := if_neg h
theorem yM_v {y : LT} {n : Int} {a t tl p : Nat} {ct cp : ClassId} {e : Int} (h : e < n) : vM (yM y n a t tl p ct cp) e = vM y e := by
  unfold vM
  by_cases q : e < 0
  · rw [if_pos q, if_pos q]
  · rw [if_neg q, if_neg q]
    show va_rf (some (if e = n then a else y.1 12 e 0)) = _
    rw [if_neg (by omega)]
theorem yM_8 {y : LT} {n : Int} {a t tl p : Nat} {ct cp : ClassId} {i j : Int} (h : ¬ i = n + 3) : (yM y n a t tl p ct cp).1 8 i j = y.1 8 i j := if_neg h
theorem yM_9 {y : LT} {n : Int} {a t tl p : Nat} {ct cp : ClassId} {i j : Int} (h : ¬ i = n + 3) : (yM y n a t tl p ct cp).1 9 i j = y.1 9 i j := if_neg h
theorem yM_12 {y : LT} {n : Int} {a t tl p : Nat} {ct cp : ClassId} {i j : Int} (h : ¬ i = n) : (yM y n a t tl p ct cp).1 12 i j = y.1 12 i j := if_neg h
theorem yM_9c {y : LT} {n : Int} {a t tl p : Nat} {ct cp : ClassId} {i j : Int} (h : ¬ i = n + 3) : (yM y n a t tl p ct cp).2.1 9 i j = y.2.1 9 i j := if_neg h
set_option maxHeartbeats 4000000 in
theorem FWC_M {m0 : Nat → Option va_E} {t0 ty' : ClassId → FieldType → Prop} {y : LT} {σ : CS} (h : FWC m0 t0 y σ) (hO : σ 21 0 0 0 = σ 2 0 0 0 ∧ σ 26 0 0 0 = σ 2 0 0 0 ∧ 0 ≤ σ 2 0 0 0) {ex sc g len : Int} {L : Int → Int} {a t tl p n M : Nat} {ct cp : ClassId} (hex : ex < σ 2 0 0 0) (hE : ∀ i, 0 ≤ i → i < σ 2 0 0 0 → σ 9 i 0 0 < i) (hn : (n : Int) = σ 2 0 0 0) (ha : m0 a = none) (hat : m0 t = none) (htl : m0 tl = none) (n1 : a ≠ t) (n2 : a ≠ tl) (n3 : t ≠ tl) (hp : (p = y.1 3 0 0 ∧ 0 < σ 18 0 0 0) ∨ (m0 p = none ∧ p ≠ a ∧ p ≠ t ∧ p ≠ tl)) (ht : ∀ c ty, t0 c ty → ty' c ty) (htp : ty' cp tObj) (htt : ty' ct .byte) (hM : 0 < M) :
    FWC (fU (fU (fU (fU (fU m0 tl (.inl (ct, 120, .inl (fA L)))) t (.inr (4, [.ref tl, .int (iZ len)]))) a (.inr (2, [.int (iZ (n : Int)), vM y ex, .int (iZ sc), .int (iZ g), .ref t, .int (iZ 1)]))) p (refsE cp M (va_up (fun k : Nat => if (k : Int) < σ 26 0 0 0 then some (y.1 12 k 0) else none) n (some a)))) (y.1 2 0 0) (.inr (0, [.int (iZ (σ 15 0 0 0 + 1)), .ref p, .int (iZ ((n : Int) + 1))]))) ty' (yM y (σ 21 0 0 0) a t tl p ct cp) (sM σ ex sc g len L M) := by
  obtain ⟨o1, o2, o3⟩ := hO
  have hd4 : cDom σ 2 0 0 := ⟨rfl, rfl⟩
  have n4a : y.1 2 0 0 ≠ a := h.ne ha hd4
  have n4t : y.1 2 0 0 ≠ t := h.ne hat hd4
  have n4l : y.1 2 0 0 ≠ tl := h.ne htl hd4
  have hpp : p ≠ a ∧ p ≠ t ∧ p ≠ tl ∧ y.1 2 0 0 ≠ p ∧ ∀ κ i j, cDom σ κ i j → κ ≠ 3 → y.1 κ i j ≠ p := by
    rcases hp with ⟨rfl, h9⟩ | ⟨h9, h10, h11, h12⟩
    · have hd5 : cDom σ 3 0 0 := ⟨rfl, rfl, h9⟩
      exact ⟨h.ne ha hd5, h.ne hat hd5, h.ne htl hd5, fun x => absurd (h.2.2 _ _ _ _ _ _ hd4 hd5 x).1 (by decide), fun κ i j hd hk x => hk (h.2.2 _ _ _ _ _ _ hd hd5 x).1⟩
    · exact ⟨h10, h11, h12, h.ne h9 hd4, fun κ i j hd _ => h.ne h9 hd⟩
  obtain ⟨npa, npt, npl, n4p, nop⟩ := hpp
  have ea : (yM y (σ 21 0 0 0) a t tl p ct cp).1 12 (σ 21 0 0 0) 0 = a := if_pos rfl
  have et : (yM y (σ 21 0 0 0) a t tl p ct cp).1 8 (σ 21 0 0 0 + 3) 0 = t := if_pos rfl
  have el : (yM y (σ 21 0 0 0) a t tl p ct cp).1 9 (σ 21 0 0 0 + 3) 0 = tl := if_pos rfl
  have ec : (yM y (σ 21 0 0 0) a t tl p ct cp).2.1 9 (σ 21 0 0 0 + 3) 0 = ct := if_pos rfl
  have e4 : (yM y (σ 21 0 0 0) a t tl p ct cp).1 2 0 0 = y.1 2 0 0 := rfl
  have e5 : (yM y (σ 21 0 0 0) a t tl p ct cp).1 3 0 0 = p := rfl
  refine FWC_ext h (fun κ i _ => (κ = 12 ∧ i = σ 21 0 0 0) ∨ (κ = 8 ∧ i = σ 21 0 0 0 + 3) ∨ (κ = 9 ∧ i = σ 21 0 0 0 + 3) ∨ κ = 2 ∨ κ = 3) (fun κ i j hd hN => ?_) ht (fun κ i j hd => ?_) (fun κ i j hN hd => ?_) (fun κ i j κ2 i2 j2 hN hN2 hd hd2 he => ?_)
  · have e3 : y.1 κ i j ≠ y.1 2 0 0 := fun x => hN (Or.inr (Or.inr (Or.inr (Or.inl (h.2.2 _ _ _ _ _ _ hd hd4 x).1))))
    have e4 : y.1 κ i j ≠ p := nop κ i j hd (fun x => hN (Or.inr (Or.inr (Or.inr (Or.inr x)))))
    rw [fU_n _ _ e3, fU_n _ _ e4, fU_n _ _ (h.ne ha hd), fU_n _ _ (h.ne hat hd), fU_n _ _ (h.ne htl hd)]
  · rcases κ with _ | _ | _ | _ | _ | _ | _ | _ | _ | _ | _ | _ | _ | _ | _ | _ | _ | κ
    · refine Or.inr ⟨hd, by simp, rfl, rfl, ?_⟩
      show (Sum.inr (5, [.ref (y.1 1 0 0), .int (iZ (σ 0 0 0 0)), .ref (y.1 2 0 0), .ref (y.1 4 0 0), .ref (y.1 6 0 0), .ref ((yM y (σ 21 0 0 0) a t tl p ct cp).1 8 0 0), .ref ((yM y (σ 21 0 0 0) a t tl p ct cp).1 8 1 0), .ref ((yM y (σ 21 0 0 0) a t tl p ct cp).1 8 2 0), .ref (y.1 10 0 0), .ref (y.1 11 0 0)]) : va_E) = _
      rw [yM_8 (by omega), yM_8 (by omega), yM_8 (by omega)]
      rfl
    · exact Or.inr ⟨hd, by simp, rfl, rfl, rfl⟩
    · exact Or.inl (by simp)
    · exact Or.inl (by simp)
    · exact Or.inr ⟨hd, by simp, rfl, rfl, rfl⟩
    · exact Or.inr ⟨hd, by simp, rfl, rfl, rfl⟩
    · exact Or.inr ⟨hd, by simp, rfl, rfl, rfl⟩
    · exact Or.inr ⟨hd, by simp, rfl, rfl, rfl⟩
    · have hd' : 0 ≤ i ∧ i < σ 21 0 0 0 + 1 + 3 ∧ j = 0 := hd
      by_cases q : i = σ 21 0 0 0 + 3
      · exact Or.inl (by simp [q])
      · refine Or.inr ⟨⟨hd'.1, by omega, hd'.2.2⟩, by simp [q], if_neg q, rfl, ?_⟩
        show (Sum.inr (4, [.ref ((yM y (σ 21 0 0 0) a t tl p ct cp).1 9 i 0), .int (iZ (up1 (σ 5) (σ 21 0 0 0 + 3) len i 0 0))]) : va_E) = _
        rw [yM_9 q, up1_n _ _ _ _ q]
        rfl
    · have hd' : 0 ≤ i ∧ i < σ 21 0 0 0 + 1 + 3 ∧ j = 0 := hd
      by_cases q : i = σ 21 0 0 0 + 3
      · exact Or.inl (by simp [q])
      · refine Or.inr ⟨⟨hd'.1, by omega, hd'.2.2⟩, by simp [q], if_neg q, if_neg q, ?_⟩
        show (Sum.inl ((yM y (σ 21 0 0 0) a t tl p ct cp).2.1 9 i 0, 120, .inl (fA (fun k => upR (σ 6) (σ 21 0 0 0 + 3) L i k 0))) : va_E) = _
        rw [yM_9c q, show (fun k => upR (σ 6) (σ 21 0 0 0 + 3) L i k 0) = (fun k => σ 6 i k 0) from funext fun k => upR_n _ _ _ _ q]
        rfl
    · exact Or.inr ⟨hd, by simp, rfl, rfl, rfl⟩
    · exact Or.inr ⟨hd, by simp, rfl, rfl, rfl⟩
    · have hd' : 0 ≤ i ∧ i < σ 21 0 0 0 + 1 ∧ j = 0 := hd
      by_cases q : i = σ 21 0 0 0
      · exact Or.inl (by simp [q])
      · have hi := hE i hd'.1 (by omega)
        refine Or.inr ⟨⟨hd'.1, by omega, hd'.2.2⟩, by simp [q], if_neg q, rfl, ?_⟩
        show (Sum.inr (2, [.int (iZ i), vM (yM y (σ 21 0 0 0) a t tl p ct cp) (up1 (σ 9) (σ 21 0 0 0) ex i 0 0), .int (iZ (up1 (σ 10) (σ 21 0 0 0) sc i 0 0)), .int (iZ (up1 (σ 11) (σ 21 0 0 0) g i 0 0)), .ref ((yM y (σ 21 0 0 0) a t tl p ct cp).1 8 (i + 3) 0), .int (iZ (up1 (σ 12) (σ 21 0 0 0) 1 i 0 0))]) : va_E) = _
        rw [up1_n _ _ _ _ q, up1_n _ _ _ _ q, up1_n _ _ _ _ q, up1_n _ _ _ _ q, yM_8 (by omega), yM_v (by omega)]
        rfl
    · exact Or.inr ⟨hd, by simp, rfl, rfl, rfl⟩
    · exact Or.inr ⟨hd, by simp, rfl, rfl, rfl⟩
    · exact Or.inr ⟨hd, by simp, rfl, rfl, rfl⟩
    · exact Or.inr ⟨hd, by simp, rfl, rfl, rfl⟩
    · exact hd.elim
  · rcases hN with ⟨rfl, rfl⟩ | ⟨rfl, rfl⟩ | ⟨rfl, rfl⟩ | rfl | rfl
    · obtain ⟨-, -, rfl⟩ := hd
      refine ⟨?_, (fun ty hc => nomatch hc), fun κ2 i2 j2 hd2 hN2 => by rw [ea]; exact h.ne ha hd2⟩
      rw [ea, fU_n _ _ (Ne.symm n4a), fU_n _ _ (Ne.symm npa), fU_s]
      show _ = some (Sum.inr (2, [.int (iZ (σ 21 0 0 0)), vM (yM y (σ 21 0 0 0) a t tl p ct cp) (up1 (σ 9) (σ 21 0 0 0) ex (σ 21 0 0 0) 0 0), .int (iZ (up1 (σ 10) (σ 21 0 0 0) sc (σ 21 0 0 0) 0 0)), .int (iZ (up1 (σ 11) (σ 21 0 0 0) g (σ 21 0 0 0) 0 0)), .ref ((yM y (σ 21 0 0 0) a t tl p ct cp).1 8 (σ 21 0 0 0 + 3) 0), .int (iZ (up1 (σ 12) (σ 21 0 0 0) 1 (σ 21 0 0 0) 0 0))]) : va_E)
      rw [up1_s, up1_s, up1_s, up1_s, et, yM_v (by omega), show (n : Int) = σ 21 0 0 0 from by omega]
    · obtain ⟨-, -, rfl⟩ := hd
      refine ⟨?_, (fun ty hc => nomatch hc), fun κ2 i2 j2 hd2 hN2 => by rw [et]; exact h.ne hat hd2⟩
      rw [et, fU_n _ _ (Ne.symm n4t), fU_n _ _ (Ne.symm npt), fU_n _ _ (Ne.symm n1), fU_s]
      show _ = some (Sum.inr (4, [.ref ((yM y (σ 21 0 0 0) a t tl p ct cp).1 9 (σ 21 0 0 0 + 3) 0), .int (iZ (up1 (σ 5) (σ 21 0 0 0 + 3) len (σ 21 0 0 0 + 3) 0 0))]) : va_E)
      rw [el, up1_s]
    · obtain ⟨-, -, rfl⟩ := hd
      refine ⟨?_, (fun ty hc => by cases hc; rw [ec]; exact htt), fun κ2 i2 j2 hd2 hN2 => by rw [el]; exact h.ne htl hd2⟩
      rw [el, fU_n _ _ (Ne.symm n4l), fU_n _ _ (Ne.symm npl), fU_n _ _ (Ne.symm n2), fU_n _ _ (Ne.symm n3), fU_s]
      show _ = some (Sum.inl ((yM y (σ 21 0 0 0) a t tl p ct cp).2.1 9 (σ 21 0 0 0 + 3) 0, 120, .inl (fA (fun k => upR (σ 6) (σ 21 0 0 0 + 3) L (σ 21 0 0 0 + 3) k 0))) : va_E)
      rw [ec, show (fun k => upR (σ 6) (σ 21 0 0 0 + 3) L (σ 21 0 0 0 + 3) k 0) = L from funext fun k => upR_s _ _ _ _ _]
    · obtain ⟨rfl, rfl⟩ := hd
      refine ⟨?_, (fun ty hc => nomatch hc), fun κ2 i2 j2 hd2 hN2 x => hN2 (Or.inr (Or.inr (Or.inr (Or.inl (h.2.2 _ _ _ _ _ _ hd2 hd4 x).1))))⟩
      show fU _ (y.1 2 0 0) _ (y.1 2 0 0) = some (Sum.inr (0, [.int (iZ (σ 15 0 0 0 + 1)), .ref (if (M : Int) = 0 then y.2.2 else p), .int (iZ (σ 2 0 0 0 + 1))]) : va_E)
      rw [fU_s, if_neg (by omega), hn]
    · obtain ⟨rfl, rfl, -⟩ := hd
      refine ⟨?_, (fun ty hc => by cases hc; exact htp), fun κ2 i2 j2 hd2 hN2 => nop κ2 i2 j2 hd2 (fun x => hN2 (Or.inr (Or.inr (Or.inr (Or.inr x)))))⟩
      show fU _ (y.1 2 0 0) _ p = some (Sum.inl (cp, ((M : Nat) : Int).toNat, .inr (.inr (.inr (.inr (fun k : Nat => if (k : Int) < σ 26 0 0 0 + 1 then some (if (k : Int) = σ 21 0 0 0 then a else y.1 12 k 0) else none))))) : va_E)
      rw [fU_n _ _ (Ne.symm n4p), fU_s, show ((M : Nat) : Int).toNat = M from rfl]
      refine congrArg (fun f => some (refsE cp M f)) (funext fun k => ?_)
      show (if k = n then some a else if (k : Int) < σ 26 0 0 0 then some (y.1 12 k 0) else none) = _
      by_cases q : k = n
      · rw [if_pos q, if_pos (by omega), if_pos (by omega)]
      · rw [if_neg q]
        by_cases q2 : (k : Int) < σ 26 0 0 0
        · rw [if_pos q2, if_pos (by omega), if_neg (by omega)]
        · rw [if_neg q2, if_neg (by omega)]
  · have N : ∀ κ i j, ((κ = 12 ∧ i = σ 21 0 0 0) ∨ (κ = 8 ∧ i = σ 21 0 0 0 + 3) ∨ (κ = 9 ∧ i = σ 21 0 0 0 + 3) ∨ κ = 2 ∨ κ = 3) → cDom (sM σ ex sc g len L M) κ i j → j = 0 ∧ ((κ = 12 ∧ i = σ 21 0 0 0 ∧ (yM y (σ 21 0 0 0) a t tl p ct cp).1 κ i j = a) ∨ (κ = 8 ∧ i = σ 21 0 0 0 + 3 ∧ (yM y (σ 21 0 0 0) a t tl p ct cp).1 κ i j = t) ∨ (κ = 9 ∧ i = σ 21 0 0 0 + 3 ∧ (yM y (σ 21 0 0 0) a t tl p ct cp).1 κ i j = tl) ∨ (κ = 2 ∧ i = 0 ∧ (yM y (σ 21 0 0 0) a t tl p ct cp).1 κ i j = y.1 2 0 0) ∨ (κ = 3 ∧ i = 0 ∧ (yM y (σ 21 0 0 0) a t tl p ct cp).1 κ i j = p)) := by
      intro κ i j hN hd
      rcases hN with ⟨rfl, rfl⟩ | ⟨rfl, rfl⟩ | ⟨rfl, rfl⟩ | rfl | rfl
      · obtain ⟨-, -, rfl⟩ := hd; exact ⟨rfl, Or.inl ⟨rfl, rfl, ea⟩⟩
      · obtain ⟨-, -, rfl⟩ := hd; exact ⟨rfl, Or.inr (Or.inl ⟨rfl, rfl, et⟩)⟩
      · obtain ⟨-, -, rfl⟩ := hd; exact ⟨rfl, Or.inr (Or.inr (Or.inl ⟨rfl, rfl, el⟩))⟩
      · obtain ⟨rfl, rfl⟩ := hd; exact ⟨rfl, Or.inr (Or.inr (Or.inr (Or.inl ⟨rfl, rfl, rfl⟩)))⟩
      · obtain ⟨rfl, rfl, -⟩ := hd; exact ⟨rfl, Or.inr (Or.inr (Or.inr (Or.inr ⟨rfl, rfl, rfl⟩)))⟩
    obtain ⟨j1, c1⟩ := N _ _ _ hN hd
    obtain ⟨j2', c2⟩ := N _ _ _ hN2 hd2
    have hj : j = j2 := j1.trans j2'.symm
    rcases c1 with ⟨k1, i1, x1⟩ | ⟨k1, i1, x1⟩ | ⟨k1, i1, x1⟩ | ⟨k1, i1, x1⟩ | ⟨k1, i1, x1⟩ <;> rcases c2 with ⟨k2, i2, x2⟩ | ⟨k2, i2, x2⟩ | ⟨k2, i2, x2⟩ | ⟨k2, i2, x2⟩ | ⟨k2, i2, x2⟩ <;> rw [x1, x2] at he <;> first | exact ⟨k1.trans k2.symm, i1.trans i2.symm, hj⟩ | exact absurd he n1 | exact absurd he.symm n1 | exact absurd he n2 | exact absurd he.symm n2 | exact absurd he n3 | exact absurd he.symm n3 | exact absurd he npa | exact absurd he.symm npa | exact absurd he npt | exact absurd he.symm npt | exact absurd he npl | exact absurd he.symm npl | exact absurd he n4a | exact absurd he.symm n4a | exact absurd he n4t | exact absurd he.symm n4t | exact absurd he n4l | exact absurd he.symm n4l | exact absurd he n4p | exact absurd he.symm n4p
