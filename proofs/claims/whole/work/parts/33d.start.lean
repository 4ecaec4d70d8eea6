/-! THE LAW'S LOOP, AND ITS START -/
set_option maxRecDepth 100000 in
set_option maxHeartbeats 4000000 in
theorem law_loop {K : KT} {b L emp : Nat} {xs : Nat → Int32} (C : lwK K b L xs emp) {qo qh : Nat} {co : ClassId} {Lf : Nat → Nat} {cf : Nat → ClassId} : ∀ (J : Nat) (i : Int) (n : Nat × Nat) (y : LT) (σ : CS) (fo : Nat → Int64) (τ : MS), 0 ≤ i → i ≤ 4000 → (L : Int) - 6 < i + 6 * (J : Int) → n.1 + 16 * J ≤ 601024 → n.2 + 400 * J ≤ 7293034 → lI qh emp y σ τ → G K (LW qo co Lf cf ((y, σ), fo) τ) n [(4, .int (iZ i)), (3, .ref qo), (2, .ref (Lf 0)), (1, .ref qh), (0, .ref b)] 23 [] := by
  have hL : L ≤ 3072 := C.2.2.2.2.2.2.2.2.1
  intro J
  induction J with
  | zero =>
    intro i n y σ fo τ i0 i1 hJ hn1 hn2 hI
    refine g_iload C.1 0 dL_law_23 rfl ?_
    refine g_aload_n C.1 4 dL_law_25 rfl rfl ?_
    refine l_len C dL_law_26 ?_
    refine g_bipush C.1 (z := 6) dL_law_27 (by decide) ?_
    refine g_isub C.1 (x := (L : Int)) (y := 6) dL_law_29 ?_
    refine g_icmp_gt C.1 (tgt := 1678) dL_law_30 (by decide) ⟨by omega, by omega⟩ ⟨by omega, by omega⟩ (fun _ => ?_) (fun h => absurd (by omega) h)
    refine g_iconst C.1 (z := 1) dL_law_1678 ?_
    exact l_end C ⟨by omega, by omega⟩ dL_law_1679
  | succ J ih =>
    intro i n y σ fo τ i0 i1 hJ hn1 hn2 hI
    refine g_iload C.1 0 dL_law_23 rfl ?_
    refine g_aload_n C.1 4 dL_law_25 rfl rfl ?_
    refine l_len C dL_law_26 ?_
    refine g_bipush C.1 (z := 6) dL_law_27 (by decide) ?_
    refine g_isub C.1 (x := (L : Int)) (y := 6) dL_law_29 ?_
    refine g_icmp_gt C.1 (tgt := 1678) dL_law_30 (by decide) ⟨by omega, by omega⟩ ⟨by omega, by omega⟩ (fun _ => ?_) (fun h => ?_)
    · refine g_iconst C.1 (z := 1) dL_law_1678 ?_
      exact l_end C ⟨by omega, by omega⟩ dL_law_1679
    have hi : 0 ≤ i ∧ i + 6 ≤ (L : Int) := ⟨i0, by omega⟩
    have next : lF K qo co Lf cf qh emp b n i := by
      intro n' y' σ' fo' τ' hn' hI'
      refine g_iinc C.1 (z := i) (w := 6) (loc' := [(4, .int (iZ (i + 6))), (3, .ref qo), (2, .ref (Lf 0)), (1, .ref qh), (0, .ref b)]) 0 C.2.1 dL_law_1672 rfl (by decide) rfl ?_
      refine g_goto C.1 (tgt := 23) dL_law_1675 (by decide) ?_
      exact ih (i + 6) n' y' σ' fo' τ' (by omega) (by omega) (by omega) (by omega) (by omega) hI'
    have hr0 : n.1 + 16 ≤ 601024 ∧ n.2 + 400 ≤ 7293034 := ⟨by omega, by omega⟩
    refine g_aload_n C.1 4 dL_law_33 rfl rfl ?_
    refine g_iload C.1 0 dL_law_34 rfl ?_
    refine l_ld C (e := i) (by omega) dL_law_36 ?_
    refine g_bipush C.1 (z := 31) dL_law_37 (by decide) ?_
    refine g_iand C.1 (x := Xv xs i) (y := 31) dL_law_39 ?_
    refine g_tsw C.1 dL_law_40 ⟨Int32.le_toInt _, Int32.toInt_lt _⟩ (fun _ => ⟨1672, by decide, next n y σ fo τ ⟨by omega, by omega⟩ hI⟩) (fun h1 h2 => ?_)
    generalize zAnd (Xv xs i) 31 = z at h1 h2 ⊢
    have hz : z = 0 ∨ z = 1 ∨ z = 2 ∨ z = 3 ∨ z = 4 ∨ z = 5 ∨ z = 6 ∨ z = 7 ∨ z = 8 ∨ z = 9 ∨ z = 10 ∨ z = 11 ∨ z = 12 ∨ z = 13 ∨ z = 14 ∨ z = 15 ∨ z = 16 ∨ z = 17 ∨ z = 18 ∨ z = 19 ∨ z = 20 ∨ z = 21 ∨ z = 22 ∨ z = 23 := by omega
    rcases hz with rfl | rfl | rfl | rfl | rfl | rfl | rfl | rfl | rfl | rfl | rfl | rfl | rfl | rfl | rfl | rfl | rfl | rfl | rfl | rfl | rfl | rfl | rfl | rfl
    · exact ⟨112, 152, rfl, by decide, lc_0 C hI hr0 hi next⟩
    · exact ⟨216, 256, rfl, by decide, lc_1 C hI hr0 hi next⟩
    · exact ⟨272, 312, rfl, by decide, lc_2 C hI hr0 hi next⟩
    · exact ⟨316, 356, rfl, by decide, lc_3 C hI hr0 hi next⟩
    · exact ⟨384, 424, rfl, by decide, lc_4 C hI hr0 hi next⟩
    · exact ⟨428, 468, rfl, by decide, lc_5 C hI hr0 hi next⟩
    · exact ⟨532, 572, rfl, by decide, lc_6 C hI hr0 hi next⟩
    · exact ⟨600, 640, rfl, by decide, lc_7 C hI hr0 hi next⟩
    · exact ⟨680, 720, rfl, by decide, lc_8 C hI hr0 hi next⟩
    · exact ⟨748, 788, rfl, by decide, lc_9 C hI hr0 hi next⟩
    · exact ⟨840, 880, rfl, by decide, lc_10 C hI hr0 hi next⟩
    · exact ⟨896, 936, rfl, by decide, lc_11 C hI hr0 hi next⟩
    · exact ⟨964, 1004, rfl, by decide, lc_12 C hI hr0 hi next⟩
    · exact ⟨1020, 1060, rfl, by decide, lc_13 C hI hr0 hi next⟩
    · exact ⟨1088, 1128, rfl, by decide, lc_14 C hI hr0 hi next⟩
    · exact ⟨1156, 1196, rfl, by decide, lc_15 C hI hr0 hi next⟩
    · exact ⟨1212, 1252, rfl, by decide, lc_16 C hI hr0 hi next⟩
    · exact ⟨1304, 1344, rfl, by decide, lc_17 C hI hr0 hi next⟩
    · exact ⟨1317, 1357, rfl, by decide, lc_18 C hI hr0 hi next⟩
    · exact ⟨1373, 1413, rfl, by decide, lc_19 C hI hr0 hi next⟩
    · exact ⟨1429, 1469, rfl, by decide, lc_20 C hI hr0 hi next⟩
    · exact ⟨1521, 1561, rfl, by decide, lc_21 C hI hr0 hi next⟩
    · exact ⟨1577, 1617, rfl, by decide, lc_22 C hI hr0 hi next⟩
    · exact ⟨1618, 1658, rfl, by decide, lc_23 C hI hr0 hi next⟩
