/-! THE HOUSE'S CONSTRUCTOR -/
def yI (a tp l1 l2 om : Nat) (rr : Nat → Nat) (t0 u0 t1 u1 t2 u2 sr ta : Nat) (c_tp c_om c_u0 c_u1 c_u2 c_sr c_ta : ClassId) (emp : Nat) : LT :=
  (fun κ i _ => match κ with
    | 1 => tp
    | 2 => l1
    | 4 => l2
    | 6 => om
    | 7 => rr i.toNat
    | 8 => if i = 0 then t0 else if i = 1 then t1 else t2
    | 9 => if i = 0 then u0 else if i = 1 then u1 else u2
    | 10 => sr
    | 11 => ta
    | _ => a,
   fun κ i _ => match κ with
    | 6 => c_om
    | 9 => if i = 0 then c_u0 else if i = 1 then c_u1 else c_u2
    | 10 => c_sr
    | 11 => c_ta
    | _ => c_tp, emp)
/-- which of the names an address is -/
def yJ (κ : Nat) (i : Int) : Nat := match κ with
  | 0 => 0 | 1 => 1 | 2 => 2 | 4 => 3 | 6 => 4 | 7 => 100 + i.toNat | 8 => if i = 0 then 6 else if i = 1 then 8 else 10 | 9 => if i = 0 then 7 else if i = 1 then 9 else 11 | 10 => 12 | 11 => 13 | _ => 0
set_option maxHeartbeats 8000000 in
theorem FWC_I {m : Nat → Option va_E} {t : ClassId → FieldType → Prop} {a tp l1 l2 om : Nat} {rr : Nat → Nat} {t0 u0 t1 u1 t2 u2 sr ta : Nat} {c_tp c_om c_u0 c_u1 c_u2 c_sr c_ta : ClassId} {emp : Nat}
    (hf : m a = some (.inr (5, [.ref tp, .int (iZ 0), .ref l1, .ref l2, .ref om, .ref t0, .ref t1, .ref t2, .ref sr, .ref ta])) ∧ m tp = some (.inl (c_tp, 60, .inl (fA (fun _ => 0)))) ∧ m l1 = some (.inr (0, [.int (iZ 0), .ref emp, .int (iZ 0)])) ∧ m l2 = some (.inr (0, [.int (iZ 0), .ref emp, .int (iZ 0)])) ∧ m om = some (refsE c_om 24 (fun i => some (rr i))) ∧ (∀ i, i < 24 → m (rr i) = some (.inl (c_tp, 24, .inl (fA (fun _ => 0))))) ∧ m t0 = some (.inr (4, [.ref u0, .int (iZ 0)])) ∧ m u0 = some (.inl (c_u0, 120, .inl (fA (fun _ => 0)))) ∧ m t1 = some (.inr (4, [.ref u1, .int (iZ 0)])) ∧ m u1 = some (.inl (c_u1, 120, .inl (fA (fun _ => 0)))) ∧ m t2 = some (.inr (4, [.ref u2, .int (iZ 0)])) ∧ m u2 = some (.inl (c_u2, 120, .inl (fA (fun _ => 0)))) ∧ m sr = some (.inl (c_sr, 121, .inl (fA (fun _ => 0)))) ∧ m ta = some (.inl (c_ta, 121, .inl (fA (fun _ => 0)))))
    (ht : t c_tp .int ∧ t c_om (.array .int) ∧ t c_u0 .byte ∧ t c_u1 .byte ∧ t c_u2 .byte ∧ t c_sr .int ∧ t c_ta .int)
    (hn : (∀ i j, i < 24 → j < 24 → rr i = rr j → i = j) ∧ a ≠ tp ∧ a ≠ l1 ∧ tp ≠ l1 ∧ a ≠ l2 ∧ tp ≠ l2 ∧ l1 ≠ l2 ∧ a ≠ om ∧ tp ≠ om ∧ l1 ≠ om ∧ l2 ≠ om ∧ (∀ i, i < 24 → a ≠ rr i) ∧ (∀ i, i < 24 → tp ≠ rr i) ∧ (∀ i, i < 24 → l1 ≠ rr i) ∧ (∀ i, i < 24 → l2 ≠ rr i) ∧ (∀ i, i < 24 → om ≠ rr i) ∧ a ≠ t0 ∧ tp ≠ t0 ∧ l1 ≠ t0 ∧ l2 ≠ t0 ∧ om ≠ t0 ∧ (∀ i, i < 24 → rr i ≠ t0) ∧ a ≠ u0 ∧ tp ≠ u0 ∧ l1 ≠ u0 ∧ l2 ≠ u0 ∧ om ≠ u0 ∧ (∀ i, i < 24 → rr i ≠ u0) ∧ t0 ≠ u0 ∧ a ≠ t1 ∧ tp ≠ t1 ∧ l1 ≠ t1 ∧ l2 ≠ t1 ∧ om ≠ t1 ∧ (∀ i, i < 24 → rr i ≠ t1) ∧ t0 ≠ t1 ∧ u0 ≠ t1 ∧ a ≠ u1 ∧ tp ≠ u1 ∧ l1 ≠ u1 ∧ l2 ≠ u1 ∧ om ≠ u1 ∧ (∀ i, i < 24 → rr i ≠ u1) ∧ t0 ≠ u1 ∧ u0 ≠ u1 ∧ t1 ≠ u1 ∧ a ≠ t2 ∧ tp ≠ t2 ∧ l1 ≠ t2 ∧ l2 ≠ t2 ∧ om ≠ t2 ∧ (∀ i, i < 24 → rr i ≠ t2) ∧ t0 ≠ t2 ∧ u0 ≠ t2 ∧ t1 ≠ t2 ∧ u1 ≠ t2 ∧ a ≠ u2 ∧ tp ≠ u2 ∧ l1 ≠ u2 ∧ l2 ≠ u2 ∧ om ≠ u2 ∧ (∀ i, i < 24 → rr i ≠ u2) ∧ t0 ≠ u2 ∧ u0 ≠ u2 ∧ t1 ≠ u2 ∧ u1 ≠ u2 ∧ t2 ≠ u2 ∧ a ≠ sr ∧ tp ≠ sr ∧ l1 ≠ sr ∧ l2 ≠ sr ∧ om ≠ sr ∧ (∀ i, i < 24 → rr i ≠ sr) ∧ t0 ≠ sr ∧ u0 ≠ sr ∧ t1 ≠ sr ∧ u1 ≠ sr ∧ t2 ≠ sr ∧ u2 ≠ sr ∧ a ≠ ta ∧ tp ≠ ta ∧ l1 ≠ ta ∧ l2 ≠ ta ∧ om ≠ ta ∧ (∀ i, i < 24 → rr i ≠ ta) ∧ t0 ≠ ta ∧ u0 ≠ ta ∧ t1 ≠ ta ∧ u1 ≠ ta ∧ t2 ≠ ta ∧ u2 ≠ ta ∧ sr ≠ ta) : FWC m t (yI a tp l1 l2 om rr t0 u0 t1 u1 t2 u2 sr ta c_tp c_om c_u0 c_u1 c_u2 c_sr c_ta emp) (fun _ _ _ _ => 0) := by
  obtain ⟨f_a, f_tp, f_l1, f_l2, f_om, f_rr, f_t0, f_u0, f_t1, f_u1, f_t2, f_u2, f_sr, f_ta⟩ := hf
  obtain ⟨g0, g1, g2, g3, g4, g5, g6⟩ := ht
  have three : ∀ i : Int, 0 ≤ i → i < 0 + 3 → i = 0 ∨ i = 1 ∨ i = 2 := fun i x z => by omega
  -- an address of each number
  obtain ⟨irr, n_a_tp, n_a_l1, n_tp_l1, n_a_l2, n_tp_l2, n_l1_l2, n_a_om, n_tp_om, n_l1_om, n_l2_om, n_a_rr, n_tp_rr, n_l1_rr, n_l2_rr, n_om_rr, n_a_t0, n_tp_t0, n_l1_t0, n_l2_t0, n_om_t0, n_rr_t0, n_a_u0, n_tp_u0, n_l1_u0, n_l2_u0, n_om_u0, n_rr_u0, n_t0_u0, n_a_t1, n_tp_t1, n_l1_t1, n_l2_t1, n_om_t1, n_rr_t1, n_t0_t1, n_u0_t1, n_a_u1, n_tp_u1, n_l1_u1, n_l2_u1, n_om_u1, n_rr_u1, n_t0_u1, n_u0_u1, n_t1_u1, n_a_t2, n_tp_t2, n_l1_t2, n_l2_t2, n_om_t2, n_rr_t2, n_t0_t2, n_u0_t2, n_t1_t2, n_u1_t2, n_a_u2, n_tp_u2, n_l1_u2, n_l2_u2, n_om_u2, n_rr_u2, n_t0_u2, n_u0_u2, n_t1_u2, n_u1_u2, n_t2_u2, n_a_sr, n_tp_sr, n_l1_sr, n_l2_sr, n_om_sr, n_rr_sr, n_t0_sr, n_u0_sr, n_t1_sr, n_u1_sr, n_t2_sr, n_u2_sr, n_a_ta, n_tp_ta, n_l1_ta, n_l2_ta, n_om_ta, n_rr_ta, n_t0_ta, n_u0_ta, n_t1_ta, n_u1_ta, n_t2_ta, n_u2_ta, n_sr_ta⟩ := hn
  refine ⟨fun κ i j hd => ?_, fun κ i j ty hd hc => ?_, fun κ i j κ2 i2 j2 hd hd2 he => ?_⟩
  · rcases κ with _ | _ | _ | _ | _ | _ | _ | _ | _ | _ | _ | _ | _ | _ | _ | _ | _ | κ
    · obtain ⟨rfl, rfl⟩ := hd; exact f_a
    · obtain ⟨rfl, rfl⟩ := hd; exact f_tp
    · obtain ⟨rfl, rfl⟩ := hd; exact f_l1
    · exact absurd hd.2.2 (by decide)
    · obtain ⟨rfl, rfl⟩ := hd; exact f_l2
    · exact absurd hd.2.2 (by decide)
    · obtain ⟨rfl, rfl⟩ := hd; exact f_om
    · obtain ⟨h0, h1, rfl⟩ := hd; exact f_rr i.toNat (by omega)
    · obtain ⟨h0, h1, rfl⟩ := hd
      rcases three i h0 h1 with rfl | rfl | rfl
      · exact f_t0
      · exact f_t1
      · exact f_t2
    · obtain ⟨h0, h1, rfl⟩ := hd
      rcases three i h0 h1 with rfl | rfl | rfl
      · exact f_u0
      · exact f_u1
      · exact f_u2
    · obtain ⟨rfl, rfl⟩ := hd; exact f_sr
    · obtain ⟨rfl, rfl⟩ := hd; exact f_ta
    · exact absurd hd.2.1 (by have := hd.1; show ¬ i < 0; omega)
    · exact absurd hd.2.1 (by have := hd.1; show ¬ i < 0; omega)
    · exact absurd hd.2.1 (by have := hd.1; show ¬ i < 0; omega)
    · exact absurd hd.2.1 (by have := hd.1; show ¬ i < 0; omega)
    · exact absurd hd.2.1 (by have := hd.1; show ¬ i < 0; omega)
    · exact hd.elim
  · rcases κ with _ | _ | _ | _ | _ | _ | _ | _ | _ | _ | _ | _ | _ | _ | _ | _ | _ | κ
    · cases hc
    · cases hc; exact g0
    · cases hc
    · exact absurd hd.2.2 (by decide)
    · cases hc
    · exact absurd hd.2.2 (by decide)
    · cases hc; exact g1
    · cases hc; exact g0
    · cases hc
    · cases hc
      obtain ⟨h0, h1, rfl⟩ := hd
      rcases three i h0 h1 with rfl | rfl | rfl
      · exact g2
      · exact g3
      · exact g4
    · cases hc; exact g5
    · cases hc; exact g6
    · cases hc
    · cases hc
    · cases hc
    · exact absurd hd.2.1 (by have := hd.1; show ¬ i < 0; omega)
    · cases hc
    · cases hc
  · have N : ∀ (κ : Nat) (i j : Int), cDom (fun _ _ _ _ => 0) κ i j → j = 0 ∧ ((κ = 0 ∧ i = 0 ∧ (yI a tp l1 l2 om rr t0 u0 t1 u1 t2 u2 sr ta c_tp c_om c_u0 c_u1 c_u2 c_sr c_ta emp).1 κ i j = a) ∨ (κ = 1 ∧ i = 0 ∧ (yI a tp l1 l2 om rr t0 u0 t1 u1 t2 u2 sr ta c_tp c_om c_u0 c_u1 c_u2 c_sr c_ta emp).1 κ i j = tp) ∨ (κ = 2 ∧ i = 0 ∧ (yI a tp l1 l2 om rr t0 u0 t1 u1 t2 u2 sr ta c_tp c_om c_u0 c_u1 c_u2 c_sr c_ta emp).1 κ i j = l1) ∨ (κ = 4 ∧ i = 0 ∧ (yI a tp l1 l2 om rr t0 u0 t1 u1 t2 u2 sr ta c_tp c_om c_u0 c_u1 c_u2 c_sr c_ta emp).1 κ i j = l2) ∨ (κ = 6 ∧ i = 0 ∧ (yI a tp l1 l2 om rr t0 u0 t1 u1 t2 u2 sr ta c_tp c_om c_u0 c_u1 c_u2 c_sr c_ta emp).1 κ i j = om) ∨ (κ = 10 ∧ i = 0 ∧ (yI a tp l1 l2 om rr t0 u0 t1 u1 t2 u2 sr ta c_tp c_om c_u0 c_u1 c_u2 c_sr c_ta emp).1 κ i j = sr) ∨ (κ = 11 ∧ i = 0 ∧ (yI a tp l1 l2 om rr t0 u0 t1 u1 t2 u2 sr ta c_tp c_om c_u0 c_u1 c_u2 c_sr c_ta emp).1 κ i j = ta) ∨ (κ = 8 ∧ i = 0 ∧ (yI a tp l1 l2 om rr t0 u0 t1 u1 t2 u2 sr ta c_tp c_om c_u0 c_u1 c_u2 c_sr c_ta emp).1 κ i j = t0) ∨ (κ = 8 ∧ i = 1 ∧ (yI a tp l1 l2 om rr t0 u0 t1 u1 t2 u2 sr ta c_tp c_om c_u0 c_u1 c_u2 c_sr c_ta emp).1 κ i j = t1) ∨ (κ = 8 ∧ i = 2 ∧ (yI a tp l1 l2 om rr t0 u0 t1 u1 t2 u2 sr ta c_tp c_om c_u0 c_u1 c_u2 c_sr c_ta emp).1 κ i j = t2) ∨ (κ = 9 ∧ i = 0 ∧ (yI a tp l1 l2 om rr t0 u0 t1 u1 t2 u2 sr ta c_tp c_om c_u0 c_u1 c_u2 c_sr c_ta emp).1 κ i j = u0) ∨ (κ = 9 ∧ i = 1 ∧ (yI a tp l1 l2 om rr t0 u0 t1 u1 t2 u2 sr ta c_tp c_om c_u0 c_u1 c_u2 c_sr c_ta emp).1 κ i j = u1) ∨ (κ = 9 ∧ i = 2 ∧ (yI a tp l1 l2 om rr t0 u0 t1 u1 t2 u2 sr ta c_tp c_om c_u0 c_u1 c_u2 c_sr c_ta emp).1 κ i j = u2) ∨ (κ = 7 ∧ ∃ x : Nat, x < 24 ∧ i = (x : Int) ∧ (yI a tp l1 l2 om rr t0 u0 t1 u1 t2 u2 sr ta c_tp c_om c_u0 c_u1 c_u2 c_sr c_ta emp).1 κ i j = rr x)) := by
      intro κ i j hd
      rcases κ with _ | _ | _ | _ | _ | _ | _ | _ | _ | _ | _ | _ | _ | _ | _ | _ | _ | κ
      · obtain ⟨rfl, rfl⟩ := hd; exact ⟨rfl, Or.inl ⟨rfl, rfl, rfl⟩⟩
      · obtain ⟨rfl, rfl⟩ := hd; exact ⟨rfl, Or.inr (Or.inl ⟨rfl, rfl, rfl⟩)⟩
      · obtain ⟨rfl, rfl⟩ := hd; exact ⟨rfl, Or.inr (Or.inr (Or.inl ⟨rfl, rfl, rfl⟩))⟩
      · exact absurd hd.2.2 (by decide)
      · obtain ⟨rfl, rfl⟩ := hd; exact ⟨rfl, Or.inr (Or.inr (Or.inr (Or.inl ⟨rfl, rfl, rfl⟩)))⟩
      · exact absurd hd.2.2 (by decide)
      · obtain ⟨rfl, rfl⟩ := hd; exact ⟨rfl, Or.inr (Or.inr (Or.inr (Or.inr (Or.inl ⟨rfl, rfl, rfl⟩))))⟩
      · obtain ⟨h0, h1, rfl⟩ := hd; exact ⟨rfl, Or.inr (Or.inr (Or.inr (Or.inr (Or.inr (Or.inr (Or.inr (Or.inr (Or.inr (Or.inr (Or.inr (Or.inr (Or.inr (⟨rfl, i.toNat, by omega, by omega, rfl⟩)))))))))))))⟩
      · obtain ⟨h0, h1, rfl⟩ := hd
        rcases three i h0 h1 with rfl | rfl | rfl
        · exact ⟨rfl, Or.inr (Or.inr (Or.inr (Or.inr (Or.inr (Or.inr (Or.inr (Or.inl ⟨rfl, rfl, rfl⟩)))))))⟩
        · exact ⟨rfl, Or.inr (Or.inr (Or.inr (Or.inr (Or.inr (Or.inr (Or.inr (Or.inr (Or.inl ⟨rfl, rfl, rfl⟩))))))))⟩
        · exact ⟨rfl, Or.inr (Or.inr (Or.inr (Or.inr (Or.inr (Or.inr (Or.inr (Or.inr (Or.inr (Or.inl ⟨rfl, rfl, rfl⟩)))))))))⟩
      · obtain ⟨h0, h1, rfl⟩ := hd
        rcases three i h0 h1 with rfl | rfl | rfl
        · exact ⟨rfl, Or.inr (Or.inr (Or.inr (Or.inr (Or.inr (Or.inr (Or.inr (Or.inr (Or.inr (Or.inr (Or.inl ⟨rfl, rfl, rfl⟩))))))))))⟩
        · exact ⟨rfl, Or.inr (Or.inr (Or.inr (Or.inr (Or.inr (Or.inr (Or.inr (Or.inr (Or.inr (Or.inr (Or.inr (Or.inl ⟨rfl, rfl, rfl⟩)))))))))))⟩
        · exact ⟨rfl, Or.inr (Or.inr (Or.inr (Or.inr (Or.inr (Or.inr (Or.inr (Or.inr (Or.inr (Or.inr (Or.inr (Or.inr (Or.inl ⟨rfl, rfl, rfl⟩))))))))))))⟩
      · obtain ⟨rfl, rfl⟩ := hd; exact ⟨rfl, Or.inr (Or.inr (Or.inr (Or.inr (Or.inr (Or.inl ⟨rfl, rfl, rfl⟩)))))⟩
      · obtain ⟨rfl, rfl⟩ := hd; exact ⟨rfl, Or.inr (Or.inr (Or.inr (Or.inr (Or.inr (Or.inr (Or.inl ⟨rfl, rfl, rfl⟩))))))⟩
      · exact absurd hd.2.1 (by have := hd.1; show ¬ i < 0; omega)
      · exact absurd hd.2.1 (by have := hd.1; show ¬ i < 0; omega)
      · exact absurd hd.2.1 (by have := hd.1; show ¬ i < 0; omega)
      · exact absurd hd.2.1 (by have := hd.1; show ¬ i < 0; omega)
      · exact absurd hd.2.1 (by have := hd.1; show ¬ i < 0; omega)
      · exact hd.elim
    obtain ⟨j1, c1⟩ := N _ _ _ hd
    obtain ⟨j2, c2⟩ := N _ _ _ hd2
    have hj := j1.trans j2.symm
    rcases c1 with ⟨k1, i1, x1⟩ | ⟨k1, i1, x1⟩ | ⟨k1, i1, x1⟩ | ⟨k1, i1, x1⟩ | ⟨k1, i1, x1⟩ | ⟨k1, i1, x1⟩ | ⟨k1, i1, x1⟩ | ⟨k1, i1, x1⟩ | ⟨k1, i1, x1⟩ | ⟨k1, i1, x1⟩ | ⟨k1, i1, x1⟩ | ⟨k1, i1, x1⟩ | ⟨k1, i1, x1⟩ | ⟨k1, p1, q1, i1, x1⟩
    · rcases c2 with ⟨k2, i2, x2⟩ | ⟨k2, i2, x2⟩ | ⟨k2, i2, x2⟩ | ⟨k2, i2, x2⟩ | ⟨k2, i2, x2⟩ | ⟨k2, i2, x2⟩ | ⟨k2, i2, x2⟩ | ⟨k2, i2, x2⟩ | ⟨k2, i2, x2⟩ | ⟨k2, i2, x2⟩ | ⟨k2, i2, x2⟩ | ⟨k2, i2, x2⟩ | ⟨k2, i2, x2⟩ | ⟨k2, p2, q2, i2, x2⟩
      · exact ⟨k1.trans k2.symm, i1.trans i2.symm, hj⟩
      · rw [x1, x2] at he; exact absurd he (n_a_tp)
      · rw [x1, x2] at he; exact absurd he (n_a_l1)
      · rw [x1, x2] at he; exact absurd he (n_a_l2)
      · rw [x1, x2] at he; exact absurd he (n_a_om)
      · rw [x1, x2] at he; exact absurd he (n_a_sr)
      · rw [x1, x2] at he; exact absurd he (n_a_ta)
      · rw [x1, x2] at he; exact absurd he (n_a_t0)
      · rw [x1, x2] at he; exact absurd he (n_a_t1)
      · rw [x1, x2] at he; exact absurd he (n_a_t2)
      · rw [x1, x2] at he; exact absurd he (n_a_u0)
      · rw [x1, x2] at he; exact absurd he (n_a_u1)
      · rw [x1, x2] at he; exact absurd he (n_a_u2)
      · rw [x1, x2] at he; exact absurd he (n_a_rr p2 q2)
    · rcases c2 with ⟨k2, i2, x2⟩ | ⟨k2, i2, x2⟩ | ⟨k2, i2, x2⟩ | ⟨k2, i2, x2⟩ | ⟨k2, i2, x2⟩ | ⟨k2, i2, x2⟩ | ⟨k2, i2, x2⟩ | ⟨k2, i2, x2⟩ | ⟨k2, i2, x2⟩ | ⟨k2, i2, x2⟩ | ⟨k2, i2, x2⟩ | ⟨k2, i2, x2⟩ | ⟨k2, i2, x2⟩ | ⟨k2, p2, q2, i2, x2⟩
      · rw [x1, x2] at he; exact absurd he.symm (n_a_tp)
      · exact ⟨k1.trans k2.symm, i1.trans i2.symm, hj⟩
      · rw [x1, x2] at he; exact absurd he (n_tp_l1)
      · rw [x1, x2] at he; exact absurd he (n_tp_l2)
      · rw [x1, x2] at he; exact absurd he (n_tp_om)
      · rw [x1, x2] at he; exact absurd he (n_tp_sr)
      · rw [x1, x2] at he; exact absurd he (n_tp_ta)
      · rw [x1, x2] at he; exact absurd he (n_tp_t0)
      · rw [x1, x2] at he; exact absurd he (n_tp_t1)
      · rw [x1, x2] at he; exact absurd he (n_tp_t2)
      · rw [x1, x2] at he; exact absurd he (n_tp_u0)
      · rw [x1, x2] at he; exact absurd he (n_tp_u1)
      · rw [x1, x2] at he; exact absurd he (n_tp_u2)
      · rw [x1, x2] at he; exact absurd he (n_tp_rr p2 q2)
    · rcases c2 with ⟨k2, i2, x2⟩ | ⟨k2, i2, x2⟩ | ⟨k2, i2, x2⟩ | ⟨k2, i2, x2⟩ | ⟨k2, i2, x2⟩ | ⟨k2, i2, x2⟩ | ⟨k2, i2, x2⟩ | ⟨k2, i2, x2⟩ | ⟨k2, i2, x2⟩ | ⟨k2, i2, x2⟩ | ⟨k2, i2, x2⟩ | ⟨k2, i2, x2⟩ | ⟨k2, i2, x2⟩ | ⟨k2, p2, q2, i2, x2⟩
      · rw [x1, x2] at he; exact absurd he.symm (n_a_l1)
      · rw [x1, x2] at he; exact absurd he.symm (n_tp_l1)
      · exact ⟨k1.trans k2.symm, i1.trans i2.symm, hj⟩
      · rw [x1, x2] at he; exact absurd he (n_l1_l2)
      · rw [x1, x2] at he; exact absurd he (n_l1_om)
      · rw [x1, x2] at he; exact absurd he (n_l1_sr)
      · rw [x1, x2] at he; exact absurd he (n_l1_ta)
      · rw [x1, x2] at he; exact absurd he (n_l1_t0)
      · rw [x1, x2] at he; exact absurd he (n_l1_t1)
      · rw [x1, x2] at he; exact absurd he (n_l1_t2)
      · rw [x1, x2] at he; exact absurd he (n_l1_u0)
      · rw [x1, x2] at he; exact absurd he (n_l1_u1)
      · rw [x1, x2] at he; exact absurd he (n_l1_u2)
      · rw [x1, x2] at he; exact absurd he (n_l1_rr p2 q2)
    · rcases c2 with ⟨k2, i2, x2⟩ | ⟨k2, i2, x2⟩ | ⟨k2, i2, x2⟩ | ⟨k2, i2, x2⟩ | ⟨k2, i2, x2⟩ | ⟨k2, i2, x2⟩ | ⟨k2, i2, x2⟩ | ⟨k2, i2, x2⟩ | ⟨k2, i2, x2⟩ | ⟨k2, i2, x2⟩ | ⟨k2, i2, x2⟩ | ⟨k2, i2, x2⟩ | ⟨k2, i2, x2⟩ | ⟨k2, p2, q2, i2, x2⟩
      · rw [x1, x2] at he; exact absurd he.symm (n_a_l2)
      · rw [x1, x2] at he; exact absurd he.symm (n_tp_l2)
      · rw [x1, x2] at he; exact absurd he.symm (n_l1_l2)
      · exact ⟨k1.trans k2.symm, i1.trans i2.symm, hj⟩
      · rw [x1, x2] at he; exact absurd he (n_l2_om)
      · rw [x1, x2] at he; exact absurd he (n_l2_sr)
      · rw [x1, x2] at he; exact absurd he (n_l2_ta)
      · rw [x1, x2] at he; exact absurd he (n_l2_t0)
      · rw [x1, x2] at he; exact absurd he (n_l2_t1)
      · rw [x1, x2] at he; exact absurd he (n_l2_t2)
      · rw [x1, x2] at he; exact absurd he (n_l2_u0)
      · rw [x1, x2] at he; exact absurd he (n_l2_u1)
      · rw [x1, x2] at he; exact absurd he (n_l2_u2)
      · rw [x1, x2] at he; exact absurd he (n_l2_rr p2 q2)
    · rcases c2 with ⟨k2, i2, x2⟩ | ⟨k2, i2, x2⟩ | ⟨k2, i2, x2⟩ | ⟨k2, i2, x2⟩ | ⟨k2, i2, x2⟩ | ⟨k2, i2, x2⟩ | ⟨k2, i2, x2⟩ | ⟨k2, i2, x2⟩ | ⟨k2, i2, x2⟩ | ⟨k2, i2, x2⟩ | ⟨k2, i2, x2⟩ | ⟨k2, i2, x2⟩ | ⟨k2, i2, x2⟩ | ⟨k2, p2, q2, i2, x2⟩
      · rw [x1, x2] at he; exact absurd he.symm (n_a_om)
      · rw [x1, x2] at he; exact absurd he.symm (n_tp_om)
      · rw [x1, x2] at he; exact absurd he.symm (n_l1_om)
      · rw [x1, x2] at he; exact absurd he.symm (n_l2_om)
      · exact ⟨k1.trans k2.symm, i1.trans i2.symm, hj⟩
      · rw [x1, x2] at he; exact absurd he (n_om_sr)
      · rw [x1, x2] at he; exact absurd he (n_om_ta)
      · rw [x1, x2] at he; exact absurd he (n_om_t0)
      · rw [x1, x2] at he; exact absurd he (n_om_t1)
      · rw [x1, x2] at he; exact absurd he (n_om_t2)
      · rw [x1, x2] at he; exact absurd he (n_om_u0)
      · rw [x1, x2] at he; exact absurd he (n_om_u1)
      · rw [x1, x2] at he; exact absurd he (n_om_u2)
      · rw [x1, x2] at he; exact absurd he (n_om_rr p2 q2)
    · rcases c2 with ⟨k2, i2, x2⟩ | ⟨k2, i2, x2⟩ | ⟨k2, i2, x2⟩ | ⟨k2, i2, x2⟩ | ⟨k2, i2, x2⟩ | ⟨k2, i2, x2⟩ | ⟨k2, i2, x2⟩ | ⟨k2, i2, x2⟩ | ⟨k2, i2, x2⟩ | ⟨k2, i2, x2⟩ | ⟨k2, i2, x2⟩ | ⟨k2, i2, x2⟩ | ⟨k2, i2, x2⟩ | ⟨k2, p2, q2, i2, x2⟩
      · rw [x1, x2] at he; exact absurd he.symm (n_a_sr)
      · rw [x1, x2] at he; exact absurd he.symm (n_tp_sr)
      · rw [x1, x2] at he; exact absurd he.symm (n_l1_sr)
      · rw [x1, x2] at he; exact absurd he.symm (n_l2_sr)
      · rw [x1, x2] at he; exact absurd he.symm (n_om_sr)
      · exact ⟨k1.trans k2.symm, i1.trans i2.symm, hj⟩
      · rw [x1, x2] at he; exact absurd he (n_sr_ta)
      · rw [x1, x2] at he; exact absurd he.symm (n_t0_sr)
      · rw [x1, x2] at he; exact absurd he.symm (n_t1_sr)
      · rw [x1, x2] at he; exact absurd he.symm (n_t2_sr)
      · rw [x1, x2] at he; exact absurd he.symm (n_u0_sr)
      · rw [x1, x2] at he; exact absurd he.symm (n_u1_sr)
      · rw [x1, x2] at he; exact absurd he.symm (n_u2_sr)
      · rw [x1, x2] at he; exact absurd he.symm (n_rr_sr p2 q2)
    · rcases c2 with ⟨k2, i2, x2⟩ | ⟨k2, i2, x2⟩ | ⟨k2, i2, x2⟩ | ⟨k2, i2, x2⟩ | ⟨k2, i2, x2⟩ | ⟨k2, i2, x2⟩ | ⟨k2, i2, x2⟩ | ⟨k2, i2, x2⟩ | ⟨k2, i2, x2⟩ | ⟨k2, i2, x2⟩ | ⟨k2, i2, x2⟩ | ⟨k2, i2, x2⟩ | ⟨k2, i2, x2⟩ | ⟨k2, p2, q2, i2, x2⟩
      · rw [x1, x2] at he; exact absurd he.symm (n_a_ta)
      · rw [x1, x2] at he; exact absurd he.symm (n_tp_ta)
      · rw [x1, x2] at he; exact absurd he.symm (n_l1_ta)
      · rw [x1, x2] at he; exact absurd he.symm (n_l2_ta)
      · rw [x1, x2] at he; exact absurd he.symm (n_om_ta)
      · rw [x1, x2] at he; exact absurd he.symm (n_sr_ta)
      · exact ⟨k1.trans k2.symm, i1.trans i2.symm, hj⟩
      · rw [x1, x2] at he; exact absurd he.symm (n_t0_ta)
      · rw [x1, x2] at he; exact absurd he.symm (n_t1_ta)
      · rw [x1, x2] at he; exact absurd he.symm (n_t2_ta)
      · rw [x1, x2] at he; exact absurd he.symm (n_u0_ta)
      · rw [x1, x2] at he; exact absurd he.symm (n_u1_ta)
      · rw [x1, x2] at he; exact absurd he.symm (n_u2_ta)
      · rw [x1, x2] at he; exact absurd he.symm (n_rr_ta p2 q2)
    · rcases c2 with ⟨k2, i2, x2⟩ | ⟨k2, i2, x2⟩ | ⟨k2, i2, x2⟩ | ⟨k2, i2, x2⟩ | ⟨k2, i2, x2⟩ | ⟨k2, i2, x2⟩ | ⟨k2, i2, x2⟩ | ⟨k2, i2, x2⟩ | ⟨k2, i2, x2⟩ | ⟨k2, i2, x2⟩ | ⟨k2, i2, x2⟩ | ⟨k2, i2, x2⟩ | ⟨k2, i2, x2⟩ | ⟨k2, p2, q2, i2, x2⟩
      · rw [x1, x2] at he; exact absurd he.symm (n_a_t0)
      · rw [x1, x2] at he; exact absurd he.symm (n_tp_t0)
      · rw [x1, x2] at he; exact absurd he.symm (n_l1_t0)
      · rw [x1, x2] at he; exact absurd he.symm (n_l2_t0)
      · rw [x1, x2] at he; exact absurd he.symm (n_om_t0)
      · rw [x1, x2] at he; exact absurd he (n_t0_sr)
      · rw [x1, x2] at he; exact absurd he (n_t0_ta)
      · exact ⟨k1.trans k2.symm, i1.trans i2.symm, hj⟩
      · rw [x1, x2] at he; exact absurd he (n_t0_t1)
      · rw [x1, x2] at he; exact absurd he (n_t0_t2)
      · rw [x1, x2] at he; exact absurd he (n_t0_u0)
      · rw [x1, x2] at he; exact absurd he (n_t0_u1)
      · rw [x1, x2] at he; exact absurd he (n_t0_u2)
      · rw [x1, x2] at he; exact absurd he.symm (n_rr_t0 p2 q2)
    · rcases c2 with ⟨k2, i2, x2⟩ | ⟨k2, i2, x2⟩ | ⟨k2, i2, x2⟩ | ⟨k2, i2, x2⟩ | ⟨k2, i2, x2⟩ | ⟨k2, i2, x2⟩ | ⟨k2, i2, x2⟩ | ⟨k2, i2, x2⟩ | ⟨k2, i2, x2⟩ | ⟨k2, i2, x2⟩ | ⟨k2, i2, x2⟩ | ⟨k2, i2, x2⟩ | ⟨k2, i2, x2⟩ | ⟨k2, p2, q2, i2, x2⟩
      · rw [x1, x2] at he; exact absurd he.symm (n_a_t1)
      · rw [x1, x2] at he; exact absurd he.symm (n_tp_t1)
      · rw [x1, x2] at he; exact absurd he.symm (n_l1_t1)
      · rw [x1, x2] at he; exact absurd he.symm (n_l2_t1)
      · rw [x1, x2] at he; exact absurd he.symm (n_om_t1)
      · rw [x1, x2] at he; exact absurd he (n_t1_sr)
      · rw [x1, x2] at he; exact absurd he (n_t1_ta)
      · rw [x1, x2] at he; exact absurd he.symm (n_t0_t1)
      · exact ⟨k1.trans k2.symm, i1.trans i2.symm, hj⟩
      · rw [x1, x2] at he; exact absurd he (n_t1_t2)
      · rw [x1, x2] at he; exact absurd he.symm (n_u0_t1)
      · rw [x1, x2] at he; exact absurd he (n_t1_u1)
      · rw [x1, x2] at he; exact absurd he (n_t1_u2)
      · rw [x1, x2] at he; exact absurd he.symm (n_rr_t1 p2 q2)
    · rcases c2 with ⟨k2, i2, x2⟩ | ⟨k2, i2, x2⟩ | ⟨k2, i2, x2⟩ | ⟨k2, i2, x2⟩ | ⟨k2, i2, x2⟩ | ⟨k2, i2, x2⟩ | ⟨k2, i2, x2⟩ | ⟨k2, i2, x2⟩ | ⟨k2, i2, x2⟩ | ⟨k2, i2, x2⟩ | ⟨k2, i2, x2⟩ | ⟨k2, i2, x2⟩ | ⟨k2, i2, x2⟩ | ⟨k2, p2, q2, i2, x2⟩
      · rw [x1, x2] at he; exact absurd he.symm (n_a_t2)
      · rw [x1, x2] at he; exact absurd he.symm (n_tp_t2)
      · rw [x1, x2] at he; exact absurd he.symm (n_l1_t2)
      · rw [x1, x2] at he; exact absurd he.symm (n_l2_t2)
      · rw [x1, x2] at he; exact absurd he.symm (n_om_t2)
      · rw [x1, x2] at he; exact absurd he (n_t2_sr)
      · rw [x1, x2] at he; exact absurd he (n_t2_ta)
      · rw [x1, x2] at he; exact absurd he.symm (n_t0_t2)
      · rw [x1, x2] at he; exact absurd he.symm (n_t1_t2)
      · exact ⟨k1.trans k2.symm, i1.trans i2.symm, hj⟩
      · rw [x1, x2] at he; exact absurd he.symm (n_u0_t2)
      · rw [x1, x2] at he; exact absurd he.symm (n_u1_t2)
      · rw [x1, x2] at he; exact absurd he (n_t2_u2)
      · rw [x1, x2] at he; exact absurd he.symm (n_rr_t2 p2 q2)
    · rcases c2 with ⟨k2, i2, x2⟩ | ⟨k2, i2, x2⟩ | ⟨k2, i2, x2⟩ | ⟨k2, i2, x2⟩ | ⟨k2, i2, x2⟩ | ⟨k2, i2, x2⟩ | ⟨k2, i2, x2⟩ | ⟨k2, i2, x2⟩ | ⟨k2, i2, x2⟩ | ⟨k2, i2, x2⟩ | ⟨k2, i2, x2⟩ | ⟨k2, i2, x2⟩ | ⟨k2, i2, x2⟩ | ⟨k2, p2, q2, i2, x2⟩
      · rw [x1, x2] at he; exact absurd he.symm (n_a_u0)
      · rw [x1, x2] at he; exact absurd he.symm (n_tp_u0)
      · rw [x1, x2] at he; exact absurd he.symm (n_l1_u0)
      · rw [x1, x2] at he; exact absurd he.symm (n_l2_u0)
      · rw [x1, x2] at he; exact absurd he.symm (n_om_u0)
      · rw [x1, x2] at he; exact absurd he (n_u0_sr)
      · rw [x1, x2] at he; exact absurd he (n_u0_ta)
      · rw [x1, x2] at he; exact absurd he.symm (n_t0_u0)
      · rw [x1, x2] at he; exact absurd he (n_u0_t1)
      · rw [x1, x2] at he; exact absurd he (n_u0_t2)
      · exact ⟨k1.trans k2.symm, i1.trans i2.symm, hj⟩
      · rw [x1, x2] at he; exact absurd he (n_u0_u1)
      · rw [x1, x2] at he; exact absurd he (n_u0_u2)
      · rw [x1, x2] at he; exact absurd he.symm (n_rr_u0 p2 q2)
    · rcases c2 with ⟨k2, i2, x2⟩ | ⟨k2, i2, x2⟩ | ⟨k2, i2, x2⟩ | ⟨k2, i2, x2⟩ | ⟨k2, i2, x2⟩ | ⟨k2, i2, x2⟩ | ⟨k2, i2, x2⟩ | ⟨k2, i2, x2⟩ | ⟨k2, i2, x2⟩ | ⟨k2, i2, x2⟩ | ⟨k2, i2, x2⟩ | ⟨k2, i2, x2⟩ | ⟨k2, i2, x2⟩ | ⟨k2, p2, q2, i2, x2⟩
      · rw [x1, x2] at he; exact absurd he.symm (n_a_u1)
      · rw [x1, x2] at he; exact absurd he.symm (n_tp_u1)
      · rw [x1, x2] at he; exact absurd he.symm (n_l1_u1)
      · rw [x1, x2] at he; exact absurd he.symm (n_l2_u1)
      · rw [x1, x2] at he; exact absurd he.symm (n_om_u1)
      · rw [x1, x2] at he; exact absurd he (n_u1_sr)
      · rw [x1, x2] at he; exact absurd he (n_u1_ta)
      · rw [x1, x2] at he; exact absurd he.symm (n_t0_u1)
      · rw [x1, x2] at he; exact absurd he.symm (n_t1_u1)
      · rw [x1, x2] at he; exact absurd he (n_u1_t2)
      · rw [x1, x2] at he; exact absurd he.symm (n_u0_u1)
      · exact ⟨k1.trans k2.symm, i1.trans i2.symm, hj⟩
      · rw [x1, x2] at he; exact absurd he (n_u1_u2)
      · rw [x1, x2] at he; exact absurd he.symm (n_rr_u1 p2 q2)
    · rcases c2 with ⟨k2, i2, x2⟩ | ⟨k2, i2, x2⟩ | ⟨k2, i2, x2⟩ | ⟨k2, i2, x2⟩ | ⟨k2, i2, x2⟩ | ⟨k2, i2, x2⟩ | ⟨k2, i2, x2⟩ | ⟨k2, i2, x2⟩ | ⟨k2, i2, x2⟩ | ⟨k2, i2, x2⟩ | ⟨k2, i2, x2⟩ | ⟨k2, i2, x2⟩ | ⟨k2, i2, x2⟩ | ⟨k2, p2, q2, i2, x2⟩
      · rw [x1, x2] at he; exact absurd he.symm (n_a_u2)
      · rw [x1, x2] at he; exact absurd he.symm (n_tp_u2)
      · rw [x1, x2] at he; exact absurd he.symm (n_l1_u2)
      · rw [x1, x2] at he; exact absurd he.symm (n_l2_u2)
      · rw [x1, x2] at he; exact absurd he.symm (n_om_u2)
      · rw [x1, x2] at he; exact absurd he (n_u2_sr)
      · rw [x1, x2] at he; exact absurd he (n_u2_ta)
      · rw [x1, x2] at he; exact absurd he.symm (n_t0_u2)
      · rw [x1, x2] at he; exact absurd he.symm (n_t1_u2)
      · rw [x1, x2] at he; exact absurd he.symm (n_t2_u2)
      · rw [x1, x2] at he; exact absurd he.symm (n_u0_u2)
      · rw [x1, x2] at he; exact absurd he.symm (n_u1_u2)
      · exact ⟨k1.trans k2.symm, i1.trans i2.symm, hj⟩
      · rw [x1, x2] at he; exact absurd he.symm (n_rr_u2 p2 q2)
    · rcases c2 with ⟨k2, i2, x2⟩ | ⟨k2, i2, x2⟩ | ⟨k2, i2, x2⟩ | ⟨k2, i2, x2⟩ | ⟨k2, i2, x2⟩ | ⟨k2, i2, x2⟩ | ⟨k2, i2, x2⟩ | ⟨k2, i2, x2⟩ | ⟨k2, i2, x2⟩ | ⟨k2, i2, x2⟩ | ⟨k2, i2, x2⟩ | ⟨k2, i2, x2⟩ | ⟨k2, i2, x2⟩ | ⟨k2, p2, q2, i2, x2⟩
      · rw [x1, x2] at he; exact absurd he.symm (n_a_rr p1 q1)
      · rw [x1, x2] at he; exact absurd he.symm (n_tp_rr p1 q1)
      · rw [x1, x2] at he; exact absurd he.symm (n_l1_rr p1 q1)
      · rw [x1, x2] at he; exact absurd he.symm (n_l2_rr p1 q1)
      · rw [x1, x2] at he; exact absurd he.symm (n_om_rr p1 q1)
      · rw [x1, x2] at he; exact absurd he (n_rr_sr p1 q1)
      · rw [x1, x2] at he; exact absurd he (n_rr_ta p1 q1)
      · rw [x1, x2] at he; exact absurd he (n_rr_t0 p1 q1)
      · rw [x1, x2] at he; exact absurd he (n_rr_t1 p1 q1)
      · rw [x1, x2] at he; exact absurd he (n_rr_t2 p1 q1)
      · rw [x1, x2] at he; exact absurd he (n_rr_u0 p1 q1)
      · rw [x1, x2] at he; exact absurd he (n_rr_u1 p1 q1)
      · rw [x1, x2] at he; exact absurd he (n_rr_u2 p1 q1)
      · rw [x1, x2] at he; exact ⟨k1.trans k2.symm, by rw [i1, i2, irr p1 p2 q1 q2 he], hj⟩
abbrev rm_Hi : Room := { frames := 4, cells := 36, slots := 1274, locals := 80 }
set_option maxRecDepth 20000 in
theorem in_Hi_X4 : ∀ w ∈ wsX40, w ∈ wsX4_init := by decide +kernel
set_option maxRecDepth 20000 in
theorem in_Hi_AL : ∀ w ∈ wsJx4a65c0, w ∈ wsX4_init := by decide +kernel
set_option maxRecDepth 20000 in
theorem in_Hi_X3 : ∀ w ∈ wsX30, w ∈ wsX4_init := by decide +kernel
theorem lk_Hi_oi1 : Cond.methodLink RX4 1 objectInit ∈ wsX4_init := List.mem_of_getElem? (i := 1) (by decide +kernel)
theorem lk_Hi_oin : Cond.instanceMethod objectInit ∈ wsX4_init := List.mem_of_getElem? (i := 2) (by decide +kernel)
theorem lk_Hi_oic : Cond.code objectInit ⟨#[0xb1]⟩ 1 none ∈ wsX4_init := List.mem_of_getElem? (i := 3) (by decide +kernel)
theorem lk_Hi_ac_int : Cond.arrayClass .int ∈ wsX4_init := List.mem_of_getElem? (i := 4) (by decide +kernel)
theorem lk_Hi_f9 : Cond.fieldLink RX4 9 "CopyHouse" "tape" "[I" ∈ wsX4_init := List.mem_of_getElem? (i := 5) (by decide +kernel)
theorem lk_Hi_f13 : Cond.fieldLink RX4 13 "CopyHouse" "tapeLength" "I" ∈ wsX4_init := List.mem_of_getElem? (i := 6) (by decide +kernel)
theorem lk_Hi_cl17 : Cond.classLink RX4 17 RJx4a65c ∈ wsX4_init := List.mem_of_getElem? (i := 7) (by decide +kernel)
theorem lk_Hi_in17 : Cond.instantiable RJx4a65c 3 ∈ wsX4_init := List.mem_of_getElem? (i := 8) (by decide +kernel)
theorem lk_Hi_ii17 : Cond.initialized RJx4a65c ∈ wsX4_init := List.mem_of_getElem? (i := 9) (by decide +kernel)
theorem lk_Hi_m19 : Cond.methodLink RX4 19 yJx4a65c_init_da8c8 ∈ wsX4_init := List.mem_of_getElem? (i := 22) (by decide +kernel)
theorem lk_Hi_im_Jx4a65c_init_da8c8 : Cond.instanceMethod yJx4a65c_init_da8c8 ∈ wsX4_init := List.mem_of_getElem? (i := 23) (by decide +kernel)
theorem lk_Hi_ic_Jx4a65c_init_da8c8 : Cond.initialized RJx4a65c ∈ wsX4_init := List.mem_of_getElem? (i := 9) (by decide +kernel)
theorem lk_Hi_f20 : Cond.fieldLink RX4 20 "CopyHouse" "manuscripts" "Ljava/util/ArrayList;" ∈ wsX4_init := List.mem_of_getElem? (i := 10) (by decide +kernel)
theorem lk_Hi_f24 : Cond.fieldLink RX4 24 "CopyHouse" "scribes" "Ljava/util/ArrayList;" ∈ wsX4_init := List.mem_of_getElem? (i := 11) (by decide +kernel)
theorem lk_Hi_mna : Cond.classLink RX4 27 "[[I" ∈ wsX4_init := List.mem_of_getElem? (i := 12) (by decide +kernel)
theorem lk_Hi_f29 : Cond.fieldLink RX4 29 "CopyHouse" "measured" "[[I" ∈ wsX4_init := List.mem_of_getElem? (i := 13) (by decide +kernel)
theorem lk_Hi_cl32 : Cond.classLink RX4 32 RX3 ∈ wsX4_init := List.mem_of_getElem? (i := 14) (by decide +kernel)
theorem lk_Hi_in32 : Cond.instantiable RX3 2 ∈ wsX4_init := List.mem_of_getElem? (i := 15) (by decide +kernel)
theorem lk_Hi_ii32 : Cond.initialized RX3 ∈ wsX4_init := List.mem_of_getElem? (i := 16) (by decide +kernel)
theorem lk_Hi_im_X3_init : Cond.instanceMethod yX3_init ∈ wsX4_init := List.mem_of_getElem? (i := 37) (by decide +kernel)
theorem lk_Hi_ic_X3_init : Cond.initialized RX3 ∈ wsX4_init := List.mem_of_getElem? (i := 16) (by decide +kernel)
theorem lk_Hi_f35 : Cond.fieldLink RX4 35 "CopyHouse" "draft" "LCopyHouse$Text;" ∈ wsX4_init := List.mem_of_getElem? (i := 17) (by decide +kernel)
theorem lk_Hi_f39 : Cond.fieldLink RX4 39 "CopyHouse" "spare" "LCopyHouse$Text;" ∈ wsX4_init := List.mem_of_getElem? (i := 18) (by decide +kernel)
theorem lk_Hi_f42 : Cond.fieldLink RX4 42 "CopyHouse" "voted" "LCopyHouse$Text;" ∈ wsX4_init := List.mem_of_getElem? (i := 19) (by decide +kernel)
theorem lk_Hi_f45 : Cond.fieldLink RX4 45 "CopyHouse" "stepRow" "[I" ∈ wsX4_init := List.mem_of_getElem? (i := 20) (by decide +kernel)
theorem lk_Hi_f48 : Cond.fieldLink RX4 48 "CopyHouse" "tally" "[I" ∈ wsX4_init := List.mem_of_getElem? (i := 21) (by decide +kernel)
set_option maxRecDepth 100000 in
set_option maxHeartbeats 4000000 in
theorem s_Hi {l : Launch} {emp : Nat} {mp : Nat → Option va_E} {ty : ClassId → FieldType → Prop} {a : Nat} (h : mp a = some (.inr (5, [.null, .int (iZ 0), .null, .null, .null, .null, .null, .null, .null, .null]))) : cMet l yX4_init wsX4_init rm_Hi emp UW rkV [.ref a] (Sum.inr (mp, ty)) (fun r u' => ∃ y : LT, u' = Sum.inl (y, fun _ _ _ _ => 0) ∧ y.1 0 0 0 = a ∧ y.2.2 = emp) :=
  cMet.of (maxL := 1) (by decide +kernel) rfl (Nat.le_of_ble_eq_true rfl) (fun K h1 h2 h3 h4 h5 h6 h7 => by
    obtain ⟨m0, em0⟩ : ∃ m, m = mp := ⟨_, rfl⟩
    rw [← em0]
    rw [← em0] at h
    have f_a_0 : m0 a = some (.inr (5, [.null, .int (iZ 0), .null, .null, .null, .null, .null, .null, .null, .null])) := h
    refine g_aload_n h2 0 dX4_init_0 rfl rfl ?_
    refine f_obj h2 lk_Hi_oi1 lk_Hi_oin lk_Hi_oic (Nat.le_of_ble_eq_true rfl) (Nat.le_of_ble_eq_true rfl) dX4_init_1 ?_
    refine g_aload_n h2 0 dX4_init_4 rfl rfl ?_
    refine g_bipush h2 (z := 60) dX4_init_5 (by decide) ?_
    refine f_newa h2 (aty := .int) (ety := .int) (N := 60) (a0 := (60, .inl (fA (fun _ => 0)))) (fun cA => rfl) rfl lk_Hi_ac_int (by decide) (by decide) ⟨Nat.le_of_ble_eq_true rfl, Nat.le_of_ble_eq_true rfl⟩ dX4_init_7 (fun tp c_tp htp => ?_)
    have n_a_tp : a ≠ tp := f_ne f_a_0 htp
    refine f_put h2 (mp' := fU (fU m0 tp (.inl (c_tp, 60, .inl (fA (fun _ => 0))))) a (.inr (5, [.ref tp, .int (iZ 0), .null, .null, .null, .null, .null, .null, .null, .null]))) (ci := 5) (q := (RX4, TX4, 10)) ((fU_n _ _ n_a_tp).trans f_a_0) rfl in_Hi_X4 tyX4 tyX4_ok nmX4 0 (by decide) (Nat.le_of_ble_eq_true rfl) (v := .ref tp) (vt := (.array .int)) lk_Hi_f9 (Or.inl rfl) (Or.inr ⟨rfl, h7 rfl, rfl⟩) rfl rfl rfl rfl dX4_init_9 ?_
    obtain ⟨m1, em1⟩ : ∃ m, m = fU (fU m0 tp (.inl (c_tp, 60, .inl (fA (fun _ => 0))))) a (.inr (5, [.ref tp, .int (iZ 0), .null, .null, .null, .null, .null, .null, .null, .null])) := ⟨_, rfl⟩
    rw [← em1]
    have f_a_1 : m1 a = some (.inr (5, [.ref tp, .int (iZ 0), .null, .null, .null, .null, .null, .null, .null, .null])) := by rw [em1]; exact fU_s _ _ _
    have f_tp_1 : m1 tp = some (.inl (c_tp, 60, .inl (fA (fun _ => 0)))) := by rw [em1]; exact (fU_n _ _ (Ne.symm n_a_tp)).trans (fU_s _ _ _)
    show G K (FW (m1, fY ty c_tp .int)) (1, 60) [(0, .ref a)] 12 []
    refine g_aload_n h2 0 dX4_init_12 rfl rfl ?_
    refine g_iconst h2 (z := 0) dX4_init_13 ?_
    refine f_put h2 (mp' := fU m1 a (.inr (5, [.ref tp, .int (iZ 0), .null, .null, .null, .null, .null, .null, .null, .null]))) (ci := 5) (q := (RX4, TX4, 10)) f_a_1 rfl in_Hi_X4 tyX4 tyX4_ok nmX4 1 (by decide) (Nat.le_of_ble_eq_true rfl) (v := .int (iZ 0)) (vt := .int) lk_Hi_f13 (Or.inl rfl) (Or.inl rfl) rfl rfl rfl rfl dX4_init_14 ?_
    obtain ⟨m2, em2⟩ : ∃ m, m = fU m1 a (.inr (5, [.ref tp, .int (iZ 0), .null, .null, .null, .null, .null, .null, .null, .null])) := ⟨_, rfl⟩
    rw [← em2]
    have f_a_2 : m2 a = some (.inr (5, [.ref tp, .int (iZ 0), .null, .null, .null, .null, .null, .null, .null, .null])) := by rw [em2]; exact fU_s _ _ _
    have f_tp_2 : m2 tp = some (.inl (c_tp, 60, .inl (fA (fun _ => 0)))) := by rw [em2]; exact (fU_n _ _ (Ne.symm n_a_tp)).trans f_tp_1
    show G K (FW (m2, fY ty c_tp .int)) (1, 60) [(0, .ref a)] 17 []
    refine g_aload_n h2 0 dX4_init_17 rfl rfl ?_
    refine f_new h2 (ci := 0) (fs := [.int (iZ 0), .null, .int (iZ 0)]) rfl in_Hi_AL tyJx4a65c tyJx4a65c_ok lk_Hi_cl17 lk_Hi_in17 lk_Hi_ii17 (fun j hj => by rcases j with _ | _ | _ | _ | _ | _ | _ | _ | _ | _ | _ | _ | _ | _ | _ | _ | _ | j <;> first | rfl | omega) ⟨Nat.le_of_ble_eq_true rfl, Nat.le_of_ble_eq_true rfl⟩ dX4_init_18 (fun l1 hl1 => ?_)
    have n_a_l1 : a ≠ l1 := f_ne f_a_2 hl1
    have n_tp_l1 : tp ≠ l1 := f_ne f_tp_2 hl1
    refine g_dup h2 rfl dX4_init_21 ?_
    refine c_callI h2 h5 h6 (s_ALi (fU_s _ _ _)) (fun ht => cwI 0 ht gX4_init_Jx4a65c_init_da8c8 rfl rfl rfl (ht _ lk_Hi_ic_Jx4a65c_init_da8c8) (ht _ lk_Hi_m19) (ht _ lk_Hi_im_Jx4a65c_init_da8c8) rfl (by decide +kernel) ⟨Nat.le_of_ble_eq_true rfl, Nat.le_of_ble_eq_true rfl⟩) rfl rfl (Nat.le_of_ble_eq_true rfl) ⟨Nat.le_of_ble_eq_true rfl, Nat.le_of_ble_eq_true rfl⟩ dX4_init_22 (fun r u' hq => ?_)
    obtain ⟨rfl, rfl⟩ := hq
    rw [fU_fU]
    show G K (FW (fU m2 l1 (.inr (0, [.int (iZ 0), .ref emp, .int (iZ 0)])), fY ty c_tp .int)) (2, 63) [(0, .ref a)] 25 [.ref l1, .ref a]
    refine f_put h2 (mp' := fU (fU m2 l1 (.inr (0, [.int (iZ 0), .ref emp, .int (iZ 0)]))) a (.inr (5, [.ref tp, .int (iZ 0), .ref l1, .null, .null, .null, .null, .null, .null, .null]))) (ci := 5) (q := (RX4, TX4, 10)) ((fU_n _ _ n_a_l1).trans f_a_2) rfl in_Hi_X4 tyX4 tyX4_ok nmX4 2 (by decide) (Nat.le_of_ble_eq_true rfl) (v := .ref l1) (vt := (.object "java/util/ArrayList")) lk_Hi_f20 (Or.inl rfl) (Or.inr ⟨rfl, h7 rfl, rfl⟩) rfl rfl rfl rfl dX4_init_25 ?_
    obtain ⟨m3, em3⟩ : ∃ m, m = fU (fU m2 l1 (.inr (0, [.int (iZ 0), .ref emp, .int (iZ 0)]))) a (.inr (5, [.ref tp, .int (iZ 0), .ref l1, .null, .null, .null, .null, .null, .null, .null])) := ⟨_, rfl⟩
    rw [← em3]
    have f_a_3 : m3 a = some (.inr (5, [.ref tp, .int (iZ 0), .ref l1, .null, .null, .null, .null, .null, .null, .null])) := by rw [em3]; exact fU_s _ _ _
    have f_l1_3 : m3 l1 = some (.inr (0, [.int (iZ 0), .ref emp, .int (iZ 0)])) := by rw [em3]; exact (fU_n _ _ (Ne.symm n_a_l1)).trans (fU_s _ _ _)
    have f_tp_3 : m3 tp = some (.inl (c_tp, 60, .inl (fA (fun _ => 0)))) := by rw [em3]; exact (fU_n _ _ (Ne.symm n_a_tp)).trans ((fU_n _ _ n_tp_l1).trans f_tp_2)
    show G K (FW (m3, fY ty c_tp .int)) (2, 63) [(0, .ref a)] 28 []
    refine g_aload_n h2 0 dX4_init_28 rfl rfl ?_
    refine f_new h2 (ci := 0) (fs := [.int (iZ 0), .null, .int (iZ 0)]) rfl in_Hi_AL tyJx4a65c tyJx4a65c_ok lk_Hi_cl17 lk_Hi_in17 lk_Hi_ii17 (fun j hj => by rcases j with _ | _ | _ | _ | _ | _ | _ | _ | _ | _ | _ | _ | _ | _ | _ | _ | _ | j <;> first | rfl | omega) ⟨Nat.le_of_ble_eq_true rfl, Nat.le_of_ble_eq_true rfl⟩ dX4_init_29 (fun l2 hl2 => ?_)
    have n_a_l2 : a ≠ l2 := f_ne f_a_3 hl2
    have n_tp_l2 : tp ≠ l2 := f_ne f_tp_3 hl2
    have n_l1_l2 : l1 ≠ l2 := f_ne f_l1_3 hl2
    refine g_dup h2 rfl dX4_init_32 ?_
    refine c_callI h2 h5 h6 (s_ALi (fU_s _ _ _)) (fun ht => cwI 0 ht gX4_init_Jx4a65c_init_da8c8 rfl rfl rfl (ht _ lk_Hi_ic_Jx4a65c_init_da8c8) (ht _ lk_Hi_m19) (ht _ lk_Hi_im_Jx4a65c_init_da8c8) rfl (by decide +kernel) ⟨Nat.le_of_ble_eq_true rfl, Nat.le_of_ble_eq_true rfl⟩) rfl rfl (Nat.le_of_ble_eq_true rfl) ⟨Nat.le_of_ble_eq_true rfl, Nat.le_of_ble_eq_true rfl⟩ dX4_init_33 (fun r u' hq => ?_)
    obtain ⟨rfl, rfl⟩ := hq
    rw [fU_fU]
    show G K (FW (fU m3 l2 (.inr (0, [.int (iZ 0), .ref emp, .int (iZ 0)])), fY ty c_tp .int)) (3, 66) [(0, .ref a)] 36 [.ref l2, .ref a]
    refine f_put h2 (mp' := fU (fU m3 l2 (.inr (0, [.int (iZ 0), .ref emp, .int (iZ 0)]))) a (.inr (5, [.ref tp, .int (iZ 0), .ref l1, .ref l2, .null, .null, .null, .null, .null, .null]))) (ci := 5) (q := (RX4, TX4, 10)) ((fU_n _ _ n_a_l2).trans f_a_3) rfl in_Hi_X4 tyX4 tyX4_ok nmX4 3 (by decide) (Nat.le_of_ble_eq_true rfl) (v := .ref l2) (vt := (.object "java/util/ArrayList")) lk_Hi_f24 (Or.inl rfl) (Or.inr ⟨rfl, h7 rfl, rfl⟩) rfl rfl rfl rfl dX4_init_36 ?_
    obtain ⟨m4, em4⟩ : ∃ m, m = fU (fU m3 l2 (.inr (0, [.int (iZ 0), .ref emp, .int (iZ 0)]))) a (.inr (5, [.ref tp, .int (iZ 0), .ref l1, .ref l2, .null, .null, .null, .null, .null, .null])) := ⟨_, rfl⟩
    rw [← em4]
    have f_a_4 : m4 a = some (.inr (5, [.ref tp, .int (iZ 0), .ref l1, .ref l2, .null, .null, .null, .null, .null, .null])) := by rw [em4]; exact fU_s _ _ _
    have f_l2_4 : m4 l2 = some (.inr (0, [.int (iZ 0), .ref emp, .int (iZ 0)])) := by rw [em4]; exact (fU_n _ _ (Ne.symm n_a_l2)).trans (fU_s _ _ _)
    have f_tp_4 : m4 tp = some (.inl (c_tp, 60, .inl (fA (fun _ => 0)))) := by rw [em4]; exact (fU_n _ _ (Ne.symm n_a_tp)).trans ((fU_n _ _ n_tp_l2).trans f_tp_3)
    have f_l1_4 : m4 l1 = some (.inr (0, [.int (iZ 0), .ref emp, .int (iZ 0)])) := by rw [em4]; exact (fU_n _ _ (Ne.symm n_a_l1)).trans ((fU_n _ _ n_l1_l2).trans f_l1_3)
    show G K (FW (m4, fY ty c_tp .int)) (3, 66) [(0, .ref a)] 39 []
    refine g_aload_n h2 0 dX4_init_39 rfl rfl ?_
    refine g_bipush h2 (z := 24) dX4_init_40 (by decide) ?_
    refine g_bipush h2 (z := 24) dX4_init_42 (by decide) ?_
    refine f_mna h2 h5 (N := 24) (M := 24) (cq := c_tp) (fY_s _ _ _) lk_Hi_mna lk_Hi_ac_int ⟨by decide, by decide⟩ ⟨Nat.le_of_ble_eq_true rfl, Nat.le_of_ble_eq_true rfl⟩ dX4_init_44 (fun om rr c_om hom hrr irr n_rr_om => ?_)
    have n_a_om : a ≠ om := f_ne f_a_4 hom
    have n_tp_om : tp ≠ om := f_ne f_tp_4 hom
    have n_l1_om : l1 ≠ om := f_ne f_l1_4 hom
    have n_l2_om : l2 ≠ om := f_ne f_l2_4 hom
    have n_om_rr : ∀ i, i < 24 → om ≠ rr i := fun i hi => Ne.symm (n_rr_om i hi)
    have n_a_rr : ∀ i, i < 24 → a ≠ rr i := fun i hi => f_ne f_a_4 (hrr i hi)
    have n_tp_rr : ∀ i, i < 24 → tp ≠ rr i := fun i hi => f_ne f_tp_4 (hrr i hi)
    have n_l1_rr : ∀ i, i < 24 → l1 ≠ rr i := fun i hi => f_ne f_l1_4 (hrr i hi)
    have n_l2_rr : ∀ i, i < 24 → l2 ≠ rr i := fun i hi => f_ne f_l2_4 (hrr i hi)
    show G K (FW (fU (fR m4 rr 24 (.inl (c_tp, 24, .inl (fA (fun _ => 0))))) om (refsE c_om 24 (fun i => some (rr i))), fY (fY ty c_tp .int) c_om (.array .int))) (28, 666) [(0, .ref a)] 48 [.ref om, .ref a]
    refine f_put h2 (mp' := fU (fU (fR m4 rr 24 (.inl (c_tp, 24, .inl (fA (fun _ => 0))))) om (refsE c_om 24 (fun i => some (rr i)))) a (.inr (5, [.ref tp, .int (iZ 0), .ref l1, .ref l2, .ref om, .null, .null, .null, .null, .null]))) (ci := 5) (q := (RX4, TX4, 10)) ((fU_n _ _ n_a_om).trans ((fR_n _ _ (fun i hi => Ne.symm (n_a_rr i hi))).trans f_a_4)) rfl in_Hi_X4 tyX4 tyX4_ok nmX4 4 (by decide) (Nat.le_of_ble_eq_true rfl) (v := .ref om) (vt := (.array (.array .int))) lk_Hi_f29 (Or.inl rfl) (Or.inr ⟨rfl, h7 rfl, rfl⟩) rfl rfl rfl rfl dX4_init_48 ?_
    obtain ⟨m5, em5⟩ : ∃ m, m = fU (fU (fR m4 rr 24 (.inl (c_tp, 24, .inl (fA (fun _ => 0))))) om (refsE c_om 24 (fun i => some (rr i)))) a (.inr (5, [.ref tp, .int (iZ 0), .ref l1, .ref l2, .ref om, .null, .null, .null, .null, .null])) := ⟨_, rfl⟩
    rw [← em5]
    have f_a_5 : m5 a = some (.inr (5, [.ref tp, .int (iZ 0), .ref l1, .ref l2, .ref om, .null, .null, .null, .null, .null])) := by rw [em5]; exact fU_s _ _ _
    have f_om_5 : m5 om = some (refsE c_om 24 (fun i => some (rr i))) := by rw [em5]; exact (fU_n _ _ (Ne.symm n_a_om)).trans (fU_s _ _ _)
    have f_rr_5 : ∀ i, i < 24 → m5 (rr i) = some (.inl (c_tp, 24, .inl (fA (fun _ => 0)))) := fun i hi => by rw [em5]; exact (fU_n _ _ (Ne.symm (n_a_rr i hi))).trans ((fU_n _ _ (n_rr_om i hi)).trans (fR_s _ _ hi))
    have f_tp_5 : m5 tp = some (.inl (c_tp, 60, .inl (fA (fun _ => 0)))) := by rw [em5]; exact (fU_n _ _ (Ne.symm n_a_tp)).trans ((fU_n _ _ n_tp_om).trans ((fR_n _ _ (fun i hi => Ne.symm (n_tp_rr i hi))).trans f_tp_4))
    have f_l1_5 : m5 l1 = some (.inr (0, [.int (iZ 0), .ref emp, .int (iZ 0)])) := by rw [em5]; exact (fU_n _ _ (Ne.symm n_a_l1)).trans ((fU_n _ _ n_l1_om).trans ((fR_n _ _ (fun i hi => Ne.symm (n_l1_rr i hi))).trans f_l1_4))
    have f_l2_5 : m5 l2 = some (.inr (0, [.int (iZ 0), .ref emp, .int (iZ 0)])) := by rw [em5]; exact (fU_n _ _ (Ne.symm n_a_l2)).trans ((fU_n _ _ n_l2_om).trans ((fR_n _ _ (fun i hi => Ne.symm (n_l2_rr i hi))).trans f_l2_4))
    show G K (FW (m5, fY (fY ty c_tp .int) c_om (.array .int))) (28, 666) [(0, .ref a)] 51 []
    refine g_aload_n h2 0 dX4_init_51 rfl rfl ?_
    refine f_new h2 (ci := 4) (fs := [.null, .int (iZ 0)]) rfl in_Hi_X3 tyX3 tyX3_ok lk_Hi_cl32 lk_Hi_in32 lk_Hi_ii32 (fun j hj => by rcases j with _ | _ | _ | _ | _ | _ | _ | _ | _ | _ | _ | _ | _ | _ | _ | _ | _ | j <;> first | rfl | omega) ⟨Nat.le_of_ble_eq_true rfl, Nat.le_of_ble_eq_true rfl⟩ dX4_init_52 (fun t0 ht0 => ?_)
    have n_a_t0 : a ≠ t0 := f_ne f_a_5 ht0
    have n_tp_t0 : tp ≠ t0 := f_ne f_tp_5 ht0
    have n_l1_t0 : l1 ≠ t0 := f_ne f_l1_5 ht0
    have n_l2_t0 : l2 ≠ t0 := f_ne f_l2_5 ht0
    have n_om_t0 : om ≠ t0 := f_ne f_om_5 ht0
    have n_rr_t0 : ∀ i, i < 24 → rr i ≠ t0 := fun i hi => f_ne (f_rr_5 i hi) ht0
    refine g_dup h2 rfl dX4_init_55 ?_
    refine c_callIN h2 h5 h6 (s_X3i (fU_s _ _ _)) (fun ht => ⟨va_cnB 0 ht gX4_init_X3_init_n34 rfl rfl rfl (h5.2.2.2.2.2.2.2.2.2 (RX4, 34, yX3_init) (List.mem_of_getElem? (i := 0) rfl)) (ht _ lk_Hi_ic_X3_init) (by decide +kernel) ⟨Nat.le_of_ble_eq_true rfl, Nat.le_of_ble_eq_true rfl⟩, rfl, ht _ lk_Hi_im_X3_init⟩) rfl rfl (Nat.le_of_ble_eq_true rfl) ⟨Nat.le_of_ble_eq_true rfl, Nat.le_of_ble_eq_true rfl⟩ dX4_init_56 (fun r u' hq => ?_)
    obtain ⟨u0, c_u0, h9, rfl, rfl⟩ := hq
    have n_t0_u0 := f_ne (fU_s _ _ _) h9
    have hu0 : m5 u0 = none := (fU_n _ _ (Ne.symm n_t0_u0)).symm.trans h9
    have n_a_u0 : a ≠ u0 := f_ne f_a_5 hu0
    have n_tp_u0 : tp ≠ u0 := f_ne f_tp_5 hu0
    have n_l1_u0 : l1 ≠ u0 := f_ne f_l1_5 hu0
    have n_l2_u0 : l2 ≠ u0 := f_ne f_l2_5 hu0
    have n_om_u0 : om ≠ u0 := f_ne f_om_5 hu0
    have n_rr_u0 : ∀ i, i < 24 → rr i ≠ u0 := fun i hi => f_ne (f_rr_5 i hi) hu0
    rw [fU_c m5 _ _ n_t0_u0, fU_fU]
    show G K (FW (fU (fU m5 u0 (.inl (c_u0, 120, .inl (fA (fun _ => 0))))) t0 (.inr (4, [.ref u0, .int (iZ 0)])), fY (fY (fY ty c_tp .int) c_om (.array .int)) c_u0 .byte)) (30, 788) [(0, .ref a)] 59 [.ref t0, .ref a]
    refine f_put h2 (mp' := fU (fU (fU m5 u0 (.inl (c_u0, 120, .inl (fA (fun _ => 0))))) t0 (.inr (4, [.ref u0, .int (iZ 0)]))) a (.inr (5, [.ref tp, .int (iZ 0), .ref l1, .ref l2, .ref om, .ref t0, .null, .null, .null, .null]))) (ci := 5) (q := (RX4, TX4, 10)) ((fU_n _ _ n_a_t0).trans ((fU_n _ _ n_a_u0).trans f_a_5)) rfl in_Hi_X4 tyX4 tyX4_ok nmX4 5 (by decide) (Nat.le_of_ble_eq_true rfl) (v := .ref t0) (vt := (.object "CopyHouse$Text")) lk_Hi_f35 (Or.inl rfl) (Or.inr ⟨rfl, h7 rfl, rfl⟩) rfl rfl rfl rfl dX4_init_59 ?_
    obtain ⟨m6, em6⟩ : ∃ m, m = fU (fU (fU m5 u0 (.inl (c_u0, 120, .inl (fA (fun _ => 0))))) t0 (.inr (4, [.ref u0, .int (iZ 0)]))) a (.inr (5, [.ref tp, .int (iZ 0), .ref l1, .ref l2, .ref om, .ref t0, .null, .null, .null, .null])) := ⟨_, rfl⟩
    rw [← em6]
    have f_a_6 : m6 a = some (.inr (5, [.ref tp, .int (iZ 0), .ref l1, .ref l2, .ref om, .ref t0, .null, .null, .null, .null])) := by rw [em6]; exact fU_s _ _ _
    have f_t0_6 : m6 t0 = some (.inr (4, [.ref u0, .int (iZ 0)])) := by rw [em6]; exact (fU_n _ _ (Ne.symm n_a_t0)).trans (fU_s _ _ _)
    have f_u0_6 : m6 u0 = some (.inl (c_u0, 120, .inl (fA (fun _ => 0)))) := by rw [em6]; exact (fU_n _ _ (Ne.symm n_a_u0)).trans ((fU_n _ _ (Ne.symm n_t0_u0)).trans (fU_s _ _ _))
    have f_tp_6 : m6 tp = some (.inl (c_tp, 60, .inl (fA (fun _ => 0)))) := by rw [em6]; exact (fU_n _ _ (Ne.symm n_a_tp)).trans ((fU_n _ _ n_tp_t0).trans ((fU_n _ _ n_tp_u0).trans f_tp_5))
    have f_l1_6 : m6 l1 = some (.inr (0, [.int (iZ 0), .ref emp, .int (iZ 0)])) := by rw [em6]; exact (fU_n _ _ (Ne.symm n_a_l1)).trans ((fU_n _ _ n_l1_t0).trans ((fU_n _ _ n_l1_u0).trans f_l1_5))
    have f_l2_6 : m6 l2 = some (.inr (0, [.int (iZ 0), .ref emp, .int (iZ 0)])) := by rw [em6]; exact (fU_n _ _ (Ne.symm n_a_l2)).trans ((fU_n _ _ n_l2_t0).trans ((fU_n _ _ n_l2_u0).trans f_l2_5))
    have f_om_6 : m6 om = some (refsE c_om 24 (fun i => some (rr i))) := by rw [em6]; exact (fU_n _ _ (Ne.symm n_a_om)).trans ((fU_n _ _ n_om_t0).trans ((fU_n _ _ n_om_u0).trans f_om_5))
    have f_rr_6 : ∀ i, i < 24 → m6 (rr i) = some (.inl (c_tp, 24, .inl (fA (fun _ => 0)))) := fun i hi => by rw [em6]; exact (fU_n _ _ (Ne.symm (n_a_rr i hi))).trans ((fU_n _ _ (n_rr_t0 i hi)).trans ((fU_n _ _ (n_rr_u0 i hi)).trans (f_rr_5 i hi)))
    show G K (FW (m6, fY (fY (fY ty c_tp .int) c_om (.array .int)) c_u0 .byte)) (30, 788) [(0, .ref a)] 62 []
    refine g_aload_n h2 0 dX4_init_62 rfl rfl ?_
    refine f_new h2 (ci := 4) (fs := [.null, .int (iZ 0)]) rfl in_Hi_X3 tyX3 tyX3_ok lk_Hi_cl32 lk_Hi_in32 lk_Hi_ii32 (fun j hj => by rcases j with _ | _ | _ | _ | _ | _ | _ | _ | _ | _ | _ | _ | _ | _ | _ | _ | _ | j <;> first | rfl | omega) ⟨Nat.le_of_ble_eq_true rfl, Nat.le_of_ble_eq_true rfl⟩ dX4_init_63 (fun t1 ht1 => ?_)
    have n_a_t1 : a ≠ t1 := f_ne f_a_6 ht1
    have n_tp_t1 : tp ≠ t1 := f_ne f_tp_6 ht1
    have n_l1_t1 : l1 ≠ t1 := f_ne f_l1_6 ht1
    have n_l2_t1 : l2 ≠ t1 := f_ne f_l2_6 ht1
    have n_om_t1 : om ≠ t1 := f_ne f_om_6 ht1
    have n_rr_t1 : ∀ i, i < 24 → rr i ≠ t1 := fun i hi => f_ne (f_rr_6 i hi) ht1
    have n_t0_t1 : t0 ≠ t1 := f_ne f_t0_6 ht1
    have n_u0_t1 : u0 ≠ t1 := f_ne f_u0_6 ht1
    refine g_dup h2 rfl dX4_init_66 ?_
    refine c_callIN h2 h5 h6 (s_X3i (fU_s _ _ _)) (fun ht => ⟨va_cnB 0 ht gX4_init_X3_init_n34 rfl rfl rfl (h5.2.2.2.2.2.2.2.2.2 (RX4, 34, yX3_init) (List.mem_of_getElem? (i := 0) rfl)) (ht _ lk_Hi_ic_X3_init) (by decide +kernel) ⟨Nat.le_of_ble_eq_true rfl, Nat.le_of_ble_eq_true rfl⟩, rfl, ht _ lk_Hi_im_X3_init⟩) rfl rfl (Nat.le_of_ble_eq_true rfl) ⟨Nat.le_of_ble_eq_true rfl, Nat.le_of_ble_eq_true rfl⟩ dX4_init_67 (fun r u' hq => ?_)
    obtain ⟨u1, c_u1, h9, rfl, rfl⟩ := hq
    have n_t1_u1 := f_ne (fU_s _ _ _) h9
    have hu1 : m6 u1 = none := (fU_n _ _ (Ne.symm n_t1_u1)).symm.trans h9
    have n_a_u1 : a ≠ u1 := f_ne f_a_6 hu1
    have n_tp_u1 : tp ≠ u1 := f_ne f_tp_6 hu1
    have n_l1_u1 : l1 ≠ u1 := f_ne f_l1_6 hu1
    have n_l2_u1 : l2 ≠ u1 := f_ne f_l2_6 hu1
    have n_om_u1 : om ≠ u1 := f_ne f_om_6 hu1
    have n_rr_u1 : ∀ i, i < 24 → rr i ≠ u1 := fun i hi => f_ne (f_rr_6 i hi) hu1
    have n_t0_u1 : t0 ≠ u1 := f_ne f_t0_6 hu1
    have n_u0_u1 : u0 ≠ u1 := f_ne f_u0_6 hu1
    rw [fU_c m6 _ _ n_t1_u1, fU_fU]
    show G K (FW (fU (fU m6 u1 (.inl (c_u1, 120, .inl (fA (fun _ => 0))))) t1 (.inr (4, [.ref u1, .int (iZ 0)])), fY (fY (fY (fY ty c_tp .int) c_om (.array .int)) c_u0 .byte) c_u1 .byte)) (32, 910) [(0, .ref a)] 70 [.ref t1, .ref a]
    refine f_put h2 (mp' := fU (fU (fU m6 u1 (.inl (c_u1, 120, .inl (fA (fun _ => 0))))) t1 (.inr (4, [.ref u1, .int (iZ 0)]))) a (.inr (5, [.ref tp, .int (iZ 0), .ref l1, .ref l2, .ref om, .ref t0, .ref t1, .null, .null, .null]))) (ci := 5) (q := (RX4, TX4, 10)) ((fU_n _ _ n_a_t1).trans ((fU_n _ _ n_a_u1).trans f_a_6)) rfl in_Hi_X4 tyX4 tyX4_ok nmX4 6 (by decide) (Nat.le_of_ble_eq_true rfl) (v := .ref t1) (vt := (.object "CopyHouse$Text")) lk_Hi_f39 (Or.inl rfl) (Or.inr ⟨rfl, h7 rfl, rfl⟩) rfl rfl rfl rfl dX4_init_70 ?_
    obtain ⟨m7, em7⟩ : ∃ m, m = fU (fU (fU m6 u1 (.inl (c_u1, 120, .inl (fA (fun _ => 0))))) t1 (.inr (4, [.ref u1, .int (iZ 0)]))) a (.inr (5, [.ref tp, .int (iZ 0), .ref l1, .ref l2, .ref om, .ref t0, .ref t1, .null, .null, .null])) := ⟨_, rfl⟩
    rw [← em7]
    have f_a_7 : m7 a = some (.inr (5, [.ref tp, .int (iZ 0), .ref l1, .ref l2, .ref om, .ref t0, .ref t1, .null, .null, .null])) := by rw [em7]; exact fU_s _ _ _
    have f_t1_7 : m7 t1 = some (.inr (4, [.ref u1, .int (iZ 0)])) := by rw [em7]; exact (fU_n _ _ (Ne.symm n_a_t1)).trans (fU_s _ _ _)
    have f_u1_7 : m7 u1 = some (.inl (c_u1, 120, .inl (fA (fun _ => 0)))) := by rw [em7]; exact (fU_n _ _ (Ne.symm n_a_u1)).trans ((fU_n _ _ (Ne.symm n_t1_u1)).trans (fU_s _ _ _))
    have f_tp_7 : m7 tp = some (.inl (c_tp, 60, .inl (fA (fun _ => 0)))) := by rw [em7]; exact (fU_n _ _ (Ne.symm n_a_tp)).trans ((fU_n _ _ n_tp_t1).trans ((fU_n _ _ n_tp_u1).trans f_tp_6))
    have f_l1_7 : m7 l1 = some (.inr (0, [.int (iZ 0), .ref emp, .int (iZ 0)])) := by rw [em7]; exact (fU_n _ _ (Ne.symm n_a_l1)).trans ((fU_n _ _ n_l1_t1).trans ((fU_n _ _ n_l1_u1).trans f_l1_6))
    have f_l2_7 : m7 l2 = some (.inr (0, [.int (iZ 0), .ref emp, .int (iZ 0)])) := by rw [em7]; exact (fU_n _ _ (Ne.symm n_a_l2)).trans ((fU_n _ _ n_l2_t1).trans ((fU_n _ _ n_l2_u1).trans f_l2_6))
    have f_om_7 : m7 om = some (refsE c_om 24 (fun i => some (rr i))) := by rw [em7]; exact (fU_n _ _ (Ne.symm n_a_om)).trans ((fU_n _ _ n_om_t1).trans ((fU_n _ _ n_om_u1).trans f_om_6))
    have f_rr_7 : ∀ i, i < 24 → m7 (rr i) = some (.inl (c_tp, 24, .inl (fA (fun _ => 0)))) := fun i hi => by rw [em7]; exact (fU_n _ _ (Ne.symm (n_a_rr i hi))).trans ((fU_n _ _ (n_rr_t1 i hi)).trans ((fU_n _ _ (n_rr_u1 i hi)).trans (f_rr_6 i hi)))
    have f_t0_7 : m7 t0 = some (.inr (4, [.ref u0, .int (iZ 0)])) := by rw [em7]; exact (fU_n _ _ (Ne.symm n_a_t0)).trans ((fU_n _ _ n_t0_t1).trans ((fU_n _ _ n_t0_u1).trans f_t0_6))
    have f_u0_7 : m7 u0 = some (.inl (c_u0, 120, .inl (fA (fun _ => 0)))) := by rw [em7]; exact (fU_n _ _ (Ne.symm n_a_u0)).trans ((fU_n _ _ n_u0_t1).trans ((fU_n _ _ n_u0_u1).trans f_u0_6))
    show G K (FW (m7, fY (fY (fY (fY ty c_tp .int) c_om (.array .int)) c_u0 .byte) c_u1 .byte)) (32, 910) [(0, .ref a)] 73 []
    refine g_aload_n h2 0 dX4_init_73 rfl rfl ?_
    refine f_new h2 (ci := 4) (fs := [.null, .int (iZ 0)]) rfl in_Hi_X3 tyX3 tyX3_ok lk_Hi_cl32 lk_Hi_in32 lk_Hi_ii32 (fun j hj => by rcases j with _ | _ | _ | _ | _ | _ | _ | _ | _ | _ | _ | _ | _ | _ | _ | _ | _ | j <;> first | rfl | omega) ⟨Nat.le_of_ble_eq_true rfl, Nat.le_of_ble_eq_true rfl⟩ dX4_init_74 (fun t2 ht2 => ?_)
    have n_a_t2 : a ≠ t2 := f_ne f_a_7 ht2
    have n_tp_t2 : tp ≠ t2 := f_ne f_tp_7 ht2
    have n_l1_t2 : l1 ≠ t2 := f_ne f_l1_7 ht2
    have n_l2_t2 : l2 ≠ t2 := f_ne f_l2_7 ht2
    have n_om_t2 : om ≠ t2 := f_ne f_om_7 ht2
    have n_rr_t2 : ∀ i, i < 24 → rr i ≠ t2 := fun i hi => f_ne (f_rr_7 i hi) ht2
    have n_t0_t2 : t0 ≠ t2 := f_ne f_t0_7 ht2
    have n_u0_t2 : u0 ≠ t2 := f_ne f_u0_7 ht2
    have n_t1_t2 : t1 ≠ t2 := f_ne f_t1_7 ht2
    have n_u1_t2 : u1 ≠ t2 := f_ne f_u1_7 ht2
    refine g_dup h2 rfl dX4_init_77 ?_
    refine c_callIN h2 h5 h6 (s_X3i (fU_s _ _ _)) (fun ht => ⟨va_cnB 0 ht gX4_init_X3_init_n34 rfl rfl rfl (h5.2.2.2.2.2.2.2.2.2 (RX4, 34, yX3_init) (List.mem_of_getElem? (i := 0) rfl)) (ht _ lk_Hi_ic_X3_init) (by decide +kernel) ⟨Nat.le_of_ble_eq_true rfl, Nat.le_of_ble_eq_true rfl⟩, rfl, ht _ lk_Hi_im_X3_init⟩) rfl rfl (Nat.le_of_ble_eq_true rfl) ⟨Nat.le_of_ble_eq_true rfl, Nat.le_of_ble_eq_true rfl⟩ dX4_init_78 (fun r u' hq => ?_)
    obtain ⟨u2, c_u2, h9, rfl, rfl⟩ := hq
    have n_t2_u2 := f_ne (fU_s _ _ _) h9
    have hu2 : m7 u2 = none := (fU_n _ _ (Ne.symm n_t2_u2)).symm.trans h9
    have n_a_u2 : a ≠ u2 := f_ne f_a_7 hu2
    have n_tp_u2 : tp ≠ u2 := f_ne f_tp_7 hu2
    have n_l1_u2 : l1 ≠ u2 := f_ne f_l1_7 hu2
    have n_l2_u2 : l2 ≠ u2 := f_ne f_l2_7 hu2
    have n_om_u2 : om ≠ u2 := f_ne f_om_7 hu2
    have n_rr_u2 : ∀ i, i < 24 → rr i ≠ u2 := fun i hi => f_ne (f_rr_7 i hi) hu2
    have n_t0_u2 : t0 ≠ u2 := f_ne f_t0_7 hu2
    have n_u0_u2 : u0 ≠ u2 := f_ne f_u0_7 hu2
    have n_t1_u2 : t1 ≠ u2 := f_ne f_t1_7 hu2
    have n_u1_u2 : u1 ≠ u2 := f_ne f_u1_7 hu2
    rw [fU_c m7 _ _ n_t2_u2, fU_fU]
    show G K (FW (fU (fU m7 u2 (.inl (c_u2, 120, .inl (fA (fun _ => 0))))) t2 (.inr (4, [.ref u2, .int (iZ 0)])), fY (fY (fY (fY (fY ty c_tp .int) c_om (.array .int)) c_u0 .byte) c_u1 .byte) c_u2 .byte)) (34, 1032) [(0, .ref a)] 81 [.ref t2, .ref a]
    refine f_put h2 (mp' := fU (fU (fU m7 u2 (.inl (c_u2, 120, .inl (fA (fun _ => 0))))) t2 (.inr (4, [.ref u2, .int (iZ 0)]))) a (.inr (5, [.ref tp, .int (iZ 0), .ref l1, .ref l2, .ref om, .ref t0, .ref t1, .ref t2, .null, .null]))) (ci := 5) (q := (RX4, TX4, 10)) ((fU_n _ _ n_a_t2).trans ((fU_n _ _ n_a_u2).trans f_a_7)) rfl in_Hi_X4 tyX4 tyX4_ok nmX4 7 (by decide) (Nat.le_of_ble_eq_true rfl) (v := .ref t2) (vt := (.object "CopyHouse$Text")) lk_Hi_f42 (Or.inl rfl) (Or.inr ⟨rfl, h7 rfl, rfl⟩) rfl rfl rfl rfl dX4_init_81 ?_
    obtain ⟨m8, em8⟩ : ∃ m, m = fU (fU (fU m7 u2 (.inl (c_u2, 120, .inl (fA (fun _ => 0))))) t2 (.inr (4, [.ref u2, .int (iZ 0)]))) a (.inr (5, [.ref tp, .int (iZ 0), .ref l1, .ref l2, .ref om, .ref t0, .ref t1, .ref t2, .null, .null])) := ⟨_, rfl⟩
    rw [← em8]
    have f_a_8 : m8 a = some (.inr (5, [.ref tp, .int (iZ 0), .ref l1, .ref l2, .ref om, .ref t0, .ref t1, .ref t2, .null, .null])) := by rw [em8]; exact fU_s _ _ _
    have f_t2_8 : m8 t2 = some (.inr (4, [.ref u2, .int (iZ 0)])) := by rw [em8]; exact (fU_n _ _ (Ne.symm n_a_t2)).trans (fU_s _ _ _)
    have f_u2_8 : m8 u2 = some (.inl (c_u2, 120, .inl (fA (fun _ => 0)))) := by rw [em8]; exact (fU_n _ _ (Ne.symm n_a_u2)).trans ((fU_n _ _ (Ne.symm n_t2_u2)).trans (fU_s _ _ _))
    have f_tp_8 : m8 tp = some (.inl (c_tp, 60, .inl (fA (fun _ => 0)))) := by rw [em8]; exact (fU_n _ _ (Ne.symm n_a_tp)).trans ((fU_n _ _ n_tp_t2).trans ((fU_n _ _ n_tp_u2).trans f_tp_7))
    have f_l1_8 : m8 l1 = some (.inr (0, [.int (iZ 0), .ref emp, .int (iZ 0)])) := by rw [em8]; exact (fU_n _ _ (Ne.symm n_a_l1)).trans ((fU_n _ _ n_l1_t2).trans ((fU_n _ _ n_l1_u2).trans f_l1_7))
    have f_l2_8 : m8 l2 = some (.inr (0, [.int (iZ 0), .ref emp, .int (iZ 0)])) := by rw [em8]; exact (fU_n _ _ (Ne.symm n_a_l2)).trans ((fU_n _ _ n_l2_t2).trans ((fU_n _ _ n_l2_u2).trans f_l2_7))
    have f_om_8 : m8 om = some (refsE c_om 24 (fun i => some (rr i))) := by rw [em8]; exact (fU_n _ _ (Ne.symm n_a_om)).trans ((fU_n _ _ n_om_t2).trans ((fU_n _ _ n_om_u2).trans f_om_7))
    have f_rr_8 : ∀ i, i < 24 → m8 (rr i) = some (.inl (c_tp, 24, .inl (fA (fun _ => 0)))) := fun i hi => by rw [em8]; exact (fU_n _ _ (Ne.symm (n_a_rr i hi))).trans ((fU_n _ _ (n_rr_t2 i hi)).trans ((fU_n _ _ (n_rr_u2 i hi)).trans (f_rr_7 i hi)))
    have f_t0_8 : m8 t0 = some (.inr (4, [.ref u0, .int (iZ 0)])) := by rw [em8]; exact (fU_n _ _ (Ne.symm n_a_t0)).trans ((fU_n _ _ n_t0_t2).trans ((fU_n _ _ n_t0_u2).trans f_t0_7))
    have f_u0_8 : m8 u0 = some (.inl (c_u0, 120, .inl (fA (fun _ => 0)))) := by rw [em8]; exact (fU_n _ _ (Ne.symm n_a_u0)).trans ((fU_n _ _ n_u0_t2).trans ((fU_n _ _ n_u0_u2).trans f_u0_7))
    have f_t1_8 : m8 t1 = some (.inr (4, [.ref u1, .int (iZ 0)])) := by rw [em8]; exact (fU_n _ _ (Ne.symm n_a_t1)).trans ((fU_n _ _ n_t1_t2).trans ((fU_n _ _ n_t1_u2).trans f_t1_7))
    have f_u1_8 : m8 u1 = some (.inl (c_u1, 120, .inl (fA (fun _ => 0)))) := by rw [em8]; exact (fU_n _ _ (Ne.symm n_a_u1)).trans ((fU_n _ _ n_u1_t2).trans ((fU_n _ _ n_u1_u2).trans f_u1_7))
    show G K (FW (m8, fY (fY (fY (fY (fY ty c_tp .int) c_om (.array .int)) c_u0 .byte) c_u1 .byte) c_u2 .byte)) (34, 1032) [(0, .ref a)] 84 []
    refine g_aload_n h2 0 dX4_init_84 rfl rfl ?_
    refine g_bipush h2 (z := 121) dX4_init_85 (by decide) ?_
    refine f_newa h2 (aty := .int) (ety := .int) (N := 121) (a0 := (121, .inl (fA (fun _ => 0)))) (fun cA => rfl) rfl lk_Hi_ac_int (by decide) (by decide) ⟨Nat.le_of_ble_eq_true rfl, Nat.le_of_ble_eq_true rfl⟩ dX4_init_87 (fun sr c_sr hsr => ?_)
    have n_a_sr : a ≠ sr := f_ne f_a_8 hsr
    have n_tp_sr : tp ≠ sr := f_ne f_tp_8 hsr
    have n_l1_sr : l1 ≠ sr := f_ne f_l1_8 hsr
    have n_l2_sr : l2 ≠ sr := f_ne f_l2_8 hsr
    have n_om_sr : om ≠ sr := f_ne f_om_8 hsr
    have n_rr_sr : ∀ i, i < 24 → rr i ≠ sr := fun i hi => f_ne (f_rr_8 i hi) hsr
    have n_t0_sr : t0 ≠ sr := f_ne f_t0_8 hsr
    have n_u0_sr : u0 ≠ sr := f_ne f_u0_8 hsr
    have n_t1_sr : t1 ≠ sr := f_ne f_t1_8 hsr
    have n_u1_sr : u1 ≠ sr := f_ne f_u1_8 hsr
    have n_t2_sr : t2 ≠ sr := f_ne f_t2_8 hsr
    have n_u2_sr : u2 ≠ sr := f_ne f_u2_8 hsr
    refine f_put h2 (mp' := fU (fU m8 sr (.inl (c_sr, 121, .inl (fA (fun _ => 0))))) a (.inr (5, [.ref tp, .int (iZ 0), .ref l1, .ref l2, .ref om, .ref t0, .ref t1, .ref t2, .ref sr, .null]))) (ci := 5) (q := (RX4, TX4, 10)) ((fU_n _ _ n_a_sr).trans f_a_8) rfl in_Hi_X4 tyX4 tyX4_ok nmX4 8 (by decide) (Nat.le_of_ble_eq_true rfl) (v := .ref sr) (vt := (.array .int)) lk_Hi_f45 (Or.inl rfl) (Or.inr ⟨rfl, h7 rfl, rfl⟩) rfl rfl rfl rfl dX4_init_89 ?_
    obtain ⟨m9, em9⟩ : ∃ m, m = fU (fU m8 sr (.inl (c_sr, 121, .inl (fA (fun _ => 0))))) a (.inr (5, [.ref tp, .int (iZ 0), .ref l1, .ref l2, .ref om, .ref t0, .ref t1, .ref t2, .ref sr, .null])) := ⟨_, rfl⟩
    rw [← em9]
    have f_a_9 : m9 a = some (.inr (5, [.ref tp, .int (iZ 0), .ref l1, .ref l2, .ref om, .ref t0, .ref t1, .ref t2, .ref sr, .null])) := by rw [em9]; exact fU_s _ _ _
    have f_sr_9 : m9 sr = some (.inl (c_sr, 121, .inl (fA (fun _ => 0)))) := by rw [em9]; exact (fU_n _ _ (Ne.symm n_a_sr)).trans (fU_s _ _ _)
    have f_tp_9 : m9 tp = some (.inl (c_tp, 60, .inl (fA (fun _ => 0)))) := by rw [em9]; exact (fU_n _ _ (Ne.symm n_a_tp)).trans ((fU_n _ _ n_tp_sr).trans f_tp_8)
    have f_l1_9 : m9 l1 = some (.inr (0, [.int (iZ 0), .ref emp, .int (iZ 0)])) := by rw [em9]; exact (fU_n _ _ (Ne.symm n_a_l1)).trans ((fU_n _ _ n_l1_sr).trans f_l1_8)
    have f_l2_9 : m9 l2 = some (.inr (0, [.int (iZ 0), .ref emp, .int (iZ 0)])) := by rw [em9]; exact (fU_n _ _ (Ne.symm n_a_l2)).trans ((fU_n _ _ n_l2_sr).trans f_l2_8)
    have f_om_9 : m9 om = some (refsE c_om 24 (fun i => some (rr i))) := by rw [em9]; exact (fU_n _ _ (Ne.symm n_a_om)).trans ((fU_n _ _ n_om_sr).trans f_om_8)
    have f_rr_9 : ∀ i, i < 24 → m9 (rr i) = some (.inl (c_tp, 24, .inl (fA (fun _ => 0)))) := fun i hi => by rw [em9]; exact (fU_n _ _ (Ne.symm (n_a_rr i hi))).trans ((fU_n _ _ (n_rr_sr i hi)).trans (f_rr_8 i hi))
    have f_t0_9 : m9 t0 = some (.inr (4, [.ref u0, .int (iZ 0)])) := by rw [em9]; exact (fU_n _ _ (Ne.symm n_a_t0)).trans ((fU_n _ _ n_t0_sr).trans f_t0_8)
    have f_u0_9 : m9 u0 = some (.inl (c_u0, 120, .inl (fA (fun _ => 0)))) := by rw [em9]; exact (fU_n _ _ (Ne.symm n_a_u0)).trans ((fU_n _ _ n_u0_sr).trans f_u0_8)
    have f_t1_9 : m9 t1 = some (.inr (4, [.ref u1, .int (iZ 0)])) := by rw [em9]; exact (fU_n _ _ (Ne.symm n_a_t1)).trans ((fU_n _ _ n_t1_sr).trans f_t1_8)
    have f_u1_9 : m9 u1 = some (.inl (c_u1, 120, .inl (fA (fun _ => 0)))) := by rw [em9]; exact (fU_n _ _ (Ne.symm n_a_u1)).trans ((fU_n _ _ n_u1_sr).trans f_u1_8)
    have f_t2_9 : m9 t2 = some (.inr (4, [.ref u2, .int (iZ 0)])) := by rw [em9]; exact (fU_n _ _ (Ne.symm n_a_t2)).trans ((fU_n _ _ n_t2_sr).trans f_t2_8)
    have f_u2_9 : m9 u2 = some (.inl (c_u2, 120, .inl (fA (fun _ => 0)))) := by rw [em9]; exact (fU_n _ _ (Ne.symm n_a_u2)).trans ((fU_n _ _ n_u2_sr).trans f_u2_8)
    show G K (FW (m9, fY (fY (fY (fY (fY (fY ty c_tp .int) c_om (.array .int)) c_u0 .byte) c_u1 .byte) c_u2 .byte) c_sr .int)) (35, 1153) [(0, .ref a)] 92 []
    refine g_aload_n h2 0 dX4_init_92 rfl rfl ?_
    refine g_bipush h2 (z := 121) dX4_init_93 (by decide) ?_
    refine f_newa h2 (aty := .int) (ety := .int) (N := 121) (a0 := (121, .inl (fA (fun _ => 0)))) (fun cA => rfl) rfl lk_Hi_ac_int (by decide) (by decide) ⟨Nat.le_of_ble_eq_true rfl, Nat.le_of_ble_eq_true rfl⟩ dX4_init_95 (fun ta c_ta hta => ?_)
    have n_a_ta : a ≠ ta := f_ne f_a_9 hta
    have n_tp_ta : tp ≠ ta := f_ne f_tp_9 hta
    have n_l1_ta : l1 ≠ ta := f_ne f_l1_9 hta
    have n_l2_ta : l2 ≠ ta := f_ne f_l2_9 hta
    have n_om_ta : om ≠ ta := f_ne f_om_9 hta
    have n_rr_ta : ∀ i, i < 24 → rr i ≠ ta := fun i hi => f_ne (f_rr_9 i hi) hta
    have n_t0_ta : t0 ≠ ta := f_ne f_t0_9 hta
    have n_u0_ta : u0 ≠ ta := f_ne f_u0_9 hta
    have n_t1_ta : t1 ≠ ta := f_ne f_t1_9 hta
    have n_u1_ta : u1 ≠ ta := f_ne f_u1_9 hta
    have n_t2_ta : t2 ≠ ta := f_ne f_t2_9 hta
    have n_u2_ta : u2 ≠ ta := f_ne f_u2_9 hta
    have n_sr_ta : sr ≠ ta := f_ne f_sr_9 hta
    refine f_put h2 (mp' := fU (fU m9 ta (.inl (c_ta, 121, .inl (fA (fun _ => 0))))) a (.inr (5, [.ref tp, .int (iZ 0), .ref l1, .ref l2, .ref om, .ref t0, .ref t1, .ref t2, .ref sr, .ref ta]))) (ci := 5) (q := (RX4, TX4, 10)) ((fU_n _ _ n_a_ta).trans f_a_9) rfl in_Hi_X4 tyX4 tyX4_ok nmX4 9 (by decide) (Nat.le_of_ble_eq_true rfl) (v := .ref ta) (vt := (.array .int)) lk_Hi_f48 (Or.inl rfl) (Or.inr ⟨rfl, h7 rfl, rfl⟩) rfl rfl rfl rfl dX4_init_97 ?_
    obtain ⟨m10, em10⟩ : ∃ m, m = fU (fU m9 ta (.inl (c_ta, 121, .inl (fA (fun _ => 0))))) a (.inr (5, [.ref tp, .int (iZ 0), .ref l1, .ref l2, .ref om, .ref t0, .ref t1, .ref t2, .ref sr, .ref ta])) := ⟨_, rfl⟩
    rw [← em10]
    have f_a_10 : m10 a = some (.inr (5, [.ref tp, .int (iZ 0), .ref l1, .ref l2, .ref om, .ref t0, .ref t1, .ref t2, .ref sr, .ref ta])) := by rw [em10]; exact fU_s _ _ _
    have f_ta_10 : m10 ta = some (.inl (c_ta, 121, .inl (fA (fun _ => 0)))) := by rw [em10]; exact (fU_n _ _ (Ne.symm n_a_ta)).trans (fU_s _ _ _)
    have f_tp_10 : m10 tp = some (.inl (c_tp, 60, .inl (fA (fun _ => 0)))) := by rw [em10]; exact (fU_n _ _ (Ne.symm n_a_tp)).trans ((fU_n _ _ n_tp_ta).trans f_tp_9)
    have f_l1_10 : m10 l1 = some (.inr (0, [.int (iZ 0), .ref emp, .int (iZ 0)])) := by rw [em10]; exact (fU_n _ _ (Ne.symm n_a_l1)).trans ((fU_n _ _ n_l1_ta).trans f_l1_9)
    have f_l2_10 : m10 l2 = some (.inr (0, [.int (iZ 0), .ref emp, .int (iZ 0)])) := by rw [em10]; exact (fU_n _ _ (Ne.symm n_a_l2)).trans ((fU_n _ _ n_l2_ta).trans f_l2_9)
    have f_om_10 : m10 om = some (refsE c_om 24 (fun i => some (rr i))) := by rw [em10]; exact (fU_n _ _ (Ne.symm n_a_om)).trans ((fU_n _ _ n_om_ta).trans f_om_9)
    have f_rr_10 : ∀ i, i < 24 → m10 (rr i) = some (.inl (c_tp, 24, .inl (fA (fun _ => 0)))) := fun i hi => by rw [em10]; exact (fU_n _ _ (Ne.symm (n_a_rr i hi))).trans ((fU_n _ _ (n_rr_ta i hi)).trans (f_rr_9 i hi))
    have f_t0_10 : m10 t0 = some (.inr (4, [.ref u0, .int (iZ 0)])) := by rw [em10]; exact (fU_n _ _ (Ne.symm n_a_t0)).trans ((fU_n _ _ n_t0_ta).trans f_t0_9)
    have f_u0_10 : m10 u0 = some (.inl (c_u0, 120, .inl (fA (fun _ => 0)))) := by rw [em10]; exact (fU_n _ _ (Ne.symm n_a_u0)).trans ((fU_n _ _ n_u0_ta).trans f_u0_9)
    have f_t1_10 : m10 t1 = some (.inr (4, [.ref u1, .int (iZ 0)])) := by rw [em10]; exact (fU_n _ _ (Ne.symm n_a_t1)).trans ((fU_n _ _ n_t1_ta).trans f_t1_9)
    have f_u1_10 : m10 u1 = some (.inl (c_u1, 120, .inl (fA (fun _ => 0)))) := by rw [em10]; exact (fU_n _ _ (Ne.symm n_a_u1)).trans ((fU_n _ _ n_u1_ta).trans f_u1_9)
    have f_t2_10 : m10 t2 = some (.inr (4, [.ref u2, .int (iZ 0)])) := by rw [em10]; exact (fU_n _ _ (Ne.symm n_a_t2)).trans ((fU_n _ _ n_t2_ta).trans f_t2_9)
    have f_u2_10 : m10 u2 = some (.inl (c_u2, 120, .inl (fA (fun _ => 0)))) := by rw [em10]; exact (fU_n _ _ (Ne.symm n_a_u2)).trans ((fU_n _ _ n_u2_ta).trans f_u2_9)
    have f_sr_10 : m10 sr = some (.inl (c_sr, 121, .inl (fA (fun _ => 0)))) := by rw [em10]; exact (fU_n _ _ (Ne.symm n_a_sr)).trans ((fU_n _ _ n_sr_ta).trans f_sr_9)
    show G K (FW (m10, fY (fY (fY (fY (fY (fY (fY ty c_tp .int) c_om (.array .int)) c_u0 .byte) c_u1 .byte) c_u2 .byte) c_sr .int) c_ta .int)) (36, 1274) [(0, .ref a)] 100 []
    have hW : FWC m10 (fY (fY (fY (fY (fY (fY (fY ty c_tp .int) c_om (.array .int)) c_u0 .byte) c_u1 .byte) c_u2 .byte) c_sr .int) c_ta .int) (yI a tp l1 l2 om rr t0 u0 t1 u1 t2 u2 sr ta c_tp c_om c_u0 c_u1 c_u2 c_sr c_ta emp) (fun _ _ _ _ => 0) := FWC_I ⟨f_a_10, f_tp_10, f_l1_10, f_l2_10, f_om_10, f_rr_10, f_t0_10, f_u0_10, f_t1_10, f_u1_10, f_t2_10, f_u2_10, f_sr_10, f_ta_10⟩ ⟨by simp [fY], by simp [fY], by simp [fY], by simp [fY], by simp [fY], by simp [fY], by simp [fY]⟩ ⟨irr, n_a_tp, n_a_l1, n_tp_l1, n_a_l2, n_tp_l2, n_l1_l2, n_a_om, n_tp_om, n_l1_om, n_l2_om, n_a_rr, n_tp_rr, n_l1_rr, n_l2_rr, n_om_rr, n_a_t0, n_tp_t0, n_l1_t0, n_l2_t0, n_om_t0, (fun i hi => n_rr_t0 i hi), n_a_u0, n_tp_u0, n_l1_u0, n_l2_u0, n_om_u0, (fun i hi => n_rr_u0 i hi), n_t0_u0, n_a_t1, n_tp_t1, n_l1_t1, n_l2_t1, n_om_t1, (fun i hi => n_rr_t1 i hi), n_t0_t1, n_u0_t1, n_a_u1, n_tp_u1, n_l1_u1, n_l2_u1, n_om_u1, (fun i hi => n_rr_u1 i hi), n_t0_u1, n_u0_u1, n_t1_u1, n_a_t2, n_tp_t2, n_l1_t2, n_l2_t2, n_om_t2, (fun i hi => n_rr_t2 i hi), n_t0_t2, n_u0_t2, n_t1_t2, n_u1_t2, n_a_u2, n_tp_u2, n_l1_u2, n_l2_u2, n_om_u2, (fun i hi => n_rr_u2 i hi), n_t0_u2, n_u0_u2, n_t1_u2, n_u1_u2, n_t2_u2, n_a_sr, n_tp_sr, n_l1_sr, n_l2_sr, n_om_sr, (fun i hi => n_rr_sr i hi), n_t0_sr, n_u0_sr, n_t1_sr, n_u1_sr, n_t2_sr, n_u2_sr, n_a_ta, n_tp_ta, n_l1_ta, n_l2_ta, n_om_ta, (fun i hi => n_rr_ta i hi), n_t0_ta, n_u0_ta, n_t1_ta, n_u1_ta, n_t2_ta, n_u2_ta, n_sr_ta⟩
    refine c_ofF (K := K) (n := (36, 1274)) (loc := [(0, .ref a)]) (pc := 100) (st := []) hW ?_
    exact x_vret (u := (Sum.inl (yI a tp l1 l2 om rr t0 u0 t1 u1 t2 u2 sr ta c_tp c_om c_u0 c_u1 c_u2 c_sr c_ta emp, fun _ _ _ _ => 0) : US)) h2 h4 rfl ⟨Nat.le_of_ble_eq_true rfl, Nat.le_of_ble_eq_true rfl⟩ dX4_init_100 ⟨_, rfl, rfl, rfl⟩)
