/-! updates of a list of habits and of its row -/
theorem CUpd_14 (y : LT) (σ : CS) (c : Nat) (f : Int → Int → Int → Int) (e : Int) (hc : c = 13 ∨ c = 17) (hf : ∀ a, a ≠ e → f a 0 0 = σ c a 0 0) : CUpd y σ (upC σ c f) 14 e 0 :=
  ⟨fun κ i j => cd_gen σ c f i j (by omega) κ, fun κ i j hd he => by
    by_cases q : κ = 14
    · subst q
      obtain ⟨h1, h2, h3⟩ := hd
      have hi : i ≠ e := fun q => he ⟨rfl, q, h3⟩
      rcases hc with rfl | rfl
      · show (Sum.inr (0, [.int (iZ (σ 17 i 0 0)), .ref (if σ 20 i 0 0 = 0 then y.2.2 else y.1 15 i 0), .int (iZ (f i 0 0))]) : va_E) = Sum.inr (0, [.int (iZ (σ 17 i 0 0)), .ref (if σ 20 i 0 0 = 0 then y.2.2 else y.1 15 i 0), .int (iZ (σ 13 i 0 0))])
        rw [hf i hi]
      · show (Sum.inr (0, [.int (iZ (f i 0 0)), .ref (if σ 20 i 0 0 = 0 then y.2.2 else y.1 15 i 0), .int (iZ (σ 13 i 0 0))]) : va_E) = Sum.inr (0, [.int (iZ (σ 17 i 0 0)), .ref (if σ 20 i 0 0 = 0 then y.2.2 else y.1 15 i 0), .int (iZ (σ 13 i 0 0))])
        rw [hf i hi]
    · exact cc_gen y σ c f i j 14 (by rcases hc with rfl | rfl <;> simp) κ q⟩
theorem CUpd_15 (y : LT) (σ : CS) (c : Nat) (f : Int → Int → Int → Int) (e : Int) (hc : c = 25 ∨ c = 24) (hf : ∀ a k, a ≠ e → f a k 0 = σ c a k 0) : CUpd y σ (upC σ c f) 15 e 0 :=
  ⟨fun κ i j => cd_gen σ c f i j (by omega) κ, fun κ i j hd he => by
    by_cases q : κ = 15
    · subst q
      obtain ⟨h1, h2, h3, h4⟩ := hd
      have hi : i ≠ e := fun q => he ⟨rfl, q, h3⟩
      rcases hc with rfl | rfl
      · show (Sum.inl (y.2.1 15 i 0, (σ 20 i 0 0).toNat, .inr (.inr (.inr (.inr (fun k => if (k : Int) < f i 0 0 then some (y.1 16 i (σ 24 i k 0)) else none))))) : va_E) = Sum.inl (y.2.1 15 i 0, (σ 20 i 0 0).toNat, .inr (.inr (.inr (.inr (fun k => if (k : Int) < σ 25 i 0 0 then some (y.1 16 i (σ 24 i k 0)) else none)))))
        rw [hf i 0 hi]
      · show (Sum.inl (y.2.1 15 i 0, (σ 20 i 0 0).toNat, .inr (.inr (.inr (.inr (fun k => if (k : Int) < σ 25 i 0 0 then some (y.1 16 i (f i k 0)) else none))))) : va_E) = Sum.inl (y.2.1 15 i 0, (σ 20 i 0 0).toNat, .inr (.inr (.inr (.inr (fun k => if (k : Int) < σ 25 i 0 0 then some (y.1 16 i (σ 24 i k 0)) else none)))))
        rw [show (fun k : Nat => if (k : Int) < σ 25 i 0 0 then some (y.1 16 i (f i k 0)) else none) = (fun k : Nat => if (k : Int) < σ 25 i 0 0 then some (y.1 16 i (σ 24 i k 0)) else none) from funext fun k => by rw [hf i k hi]]
    · exact cc_gen y σ c f i j 15 (by rcases hc with rfl | rfl <;> simp) κ q⟩
section SHRINK
variable {K : KT} {cc : ByteArray} {own : String} {Ts : List Cond} {ret : Option FieldType} {R : Room} {n : Nat × Nat} {loc : List (Nat × Value)} {pc : Nat} {st : List Value} {y : LT} {σ : CS}
/-- null into a place of a row of references -/
theorem c_aastN (C : kOK K cc own Ts ret R) {κ N : Nat} {i j e : Int} {f : Nat → Option Nat} {t : String} {σ' : CS} (hcell : cCell y σ κ i j = .inl (y.2.1 κ i j, N, .inr (.inr (.inr (.inr f))))) (hcell' : cCell y σ' κ i j = .inl (y.2.1 κ i j, N, .inr (.inr (.inr (.inr (va_up f e.toNat none)))))) (hu : CUpd y σ σ' κ i j) (hty : cArr κ = some (.object t)) (hd : decode cc pc = .ok (.aastore, 1)) (hdom : cDom σ κ i j) (hN : N < 2147483648) (hi : 0 ≤ e ∧ e < N) (h : G K (CL y σ') n loc (pc + 1) st) : G K (CL y σ) n loc pc (.null :: .int (iZ e) :: .ref (y.1 κ i j) :: st) := by
  intro ws tys H locs arr hW hK hP hD hS hl2
  obtain ⟨q0, hq⟩ := List.getElem?_of_mem (hW.1 κ i j hdom)
  obtain ⟨t0, ht⟩ := List.getElem?_of_mem (hW.2.1 κ i j _ hdom hty)
  have he : (iZ e).toNatClampNeg = e.toNat := by have := iZ_cl hi.1 (show e < 2147483648 by omega); omega
  have hW' := CL_set hW hdom hq hu
  rw [hcell] at hq
  rw [hcell'] at hW'
  refine va_astqN C.1 C.2.1 hK hP hD hS q0 t0 hq ht (iZ_in hi.1 hi.2 hN) hd (fun H1 locs1 hP1 hD1 hS1 => ?_)
  rw [he] at hP1 hD1
  exact h _ tys H1 locs1 arr hW' hK hP1 hD1 hS1 hl2
end SHRINK
