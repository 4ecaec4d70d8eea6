/-! THE REFERENCE'S CONSTRUCTOR -/
abbrev VS : Type := (((Nat → Nat) × (Nat → ClassId)) × MS) ⊕ FT
def VW : VS → WdT
  | .inl p => MW p.1.1 p.1.2 [] [] p.2
  | .inr u => FW u
def mL (a q1 q4 q5 q6 q7 q8 q10 q11 q12 q13 q15 q16 : Nat) : Nat → Nat := fun k => match k with
  | 1 => q1
  | 4 => q4
  | 5 => q5
  | 6 => q6
  | 7 => q7
  | 8 => q8
  | 10 => q10
  | 11 => q11
  | 12 => q12
  | 13 => q13
  | 15 => q15
  | 16 => q16
  | _ => a
def mC (c_q1 c_q4 c_q5 c_q6 c_q7 c_q8 c_q10 c_q11 c_q12 c_q13 c_q15 c_q16 : ClassId) : Nat → ClassId := fun k => match k with
  | 1 => c_q1
  | 4 => c_q4
  | 5 => c_q5
  | 6 => c_q6
  | 7 => c_q7
  | 8 => c_q8
  | 10 => c_q10
  | 11 => c_q11
  | 12 => c_q12
  | 13 => c_q13
  | 15 => c_q15
  | 16 => c_q16
  | _ => c_q1
theorem nd_inj {X : va_W} (h : (X.map Prod.fst).Nodup) : ∀ (i j : Nat) (p q : Nat × va_E), X[i]? = some p → X[j]? = some q → p.1 = q.1 → i = j := by
  intro i j p q hi hj e
  obtain ⟨li, hi2⟩ := List.getElem?_eq_some_iff.mp hi
  obtain ⟨lj, hj2⟩ := List.getElem?_eq_some_iff.mp hj
  have h2 := List.pairwise_iff_getElem.mp h
  rcases Nat.lt_trichotomy i j with z | z | z
  · have h3 := h2 i j (by simpa using li) (by simpa using lj) z
    rw [List.getElem_map, List.getElem_map, hi2, hj2] at h3
    exact absurd e h3
  · exact z
  · have h3 := h2 j i (by simpa using lj) (by simpa using li) z
    rw [List.getElem_map, List.getElem_map, hi2, hj2] at h3
    exact absurd e.symm h3
theorem f_toL {K : KT} {n : Nat × Nat} {loc : List (Nat × Value)} {pc : Nat} {st : List Value} {m : Nat → Option va_E} {t : ClassId → FieldType → Prop} {X : va_W} {Y : TysT} (h1 : ∀ x ∈ X, m x.1 = some x.2) (h2 : ∀ y ∈ Y, t y.1 y.2) (hn : (X.map Prod.fst).Nodup) (k : G K (fun ws tys => ws = X ∧ tys = Y) n loc pc st) : G K (FW (m, t)) n loc pc st := by
  intro ws tys H locs arr hW hK hP hD hS hl
  have inW : ∀ q : Nat, ∀ x, X[q]? = some x → ∃ j : Nat, ws[j]? = some x := fun q x hx => List.getElem?_of_mem (hW.1 x.1 x.2 (h1 x (List.mem_of_getElem? hx)))
  refine k X Y H locs arr ⟨rfl, rfl⟩ ⟨hK.1, fun q x hx => ?_⟩ (fun q x hx => ?_) ⟨nd_inj hn, fun q x hx => ?_⟩ hS hl
  · obtain ⟨j, hj⟩ := List.getElem?_of_mem (hW.2 x.1 x.2 (h2 x (List.mem_of_getElem? hx)))
    exact hK.2 j x hj
  · obtain ⟨j, hj⟩ := inW q x hx
    exact hP j x hj
  · obtain ⟨j, hj⟩ := inW q x hx
    exact hD.2 j x hj
theorem lk_Mi_g35 : Cond.fieldLink RX5 35 "CopyHouseModel" "known" "[I" ∈ wsX5_init := List.mem_of_getElem? (i := 14) (by decide +kernel)
set_option maxRecDepth 20000 in
theorem in_Mi_g5 : ∀ w ∈ wsX50, w ∈ wsX5_init := by decide +kernel
theorem m_ctor {K : KT} {rm : Room} {L : Nat → Nat} {c : Nat → ClassId} {n : Nat × Nat} (C : kOK K cX5_init RX5 wsX5_init none rm) (hL : K.nL = 2) (k : ∀ σ : MS, (∀ k e, σ k e = if k = 12 ∧ 0 ≤ e ∧ e < 576 then -1 else 0) → G K (MW L c [] [] σ) n [(0, .ref (L 0))] 127 []) : G K (MW L c [] [] (fun _ _ => 0)) n [(0, .ref (L 0))] 103 [] := by
  refine g_iconst C (z := 0) dX5_init_103 ?_
  refine g_istore_n C (loc' := [(1, .int (iZ 0)), (0, .ref (L 0))]) hL dX5_init_104 rfl (by decide) rfl ?_
  have loop : ∀ (d : Nat) (i : Int), 0 ≤ i → i + d = 576 → ∀ σ : MS, (∀ k e, σ k e = if k = 12 ∧ 0 ≤ e ∧ e < i then -1 else 0) → G K (MW L c [] [] σ) n [(1, .int (iZ i)), (0, .ref (L 0))] 105 [] := by
    intro d
    induction d with
    | zero =>
      intro i h0 h1 σ hσ
      obtain rfl : i = 576 := by omega
      refine g_iload_n C 0 dX5_init_105 rfl rfl ?_
      refine g_aload_n C 1 dX5_init_106 rfl rfl ?_
      refine m_get C in_Mi_g5 12 (by decide) (v := .ref (L 12)) rfl lk_Mi_g35 rfl dX5_init_107 ?_
      refine m_len C 9 8 (N := 576) (f := fA (σ 12)) (ty := .int) rfl rfl dX5_init_110 ?_
      refine g_icmp_ge C (tgt := 127) dX5_init_111 (by decide) (by decide) (by decide) (fun _ => ?_) (fun h => absurd (by omega) h)
      refine g_sub [1] rfl ?_
      exact k σ hσ
    | succ d ih =>
      intro i h0 h1 σ hσ
      refine g_iload_n C 0 dX5_init_105 rfl rfl ?_
      refine g_aload_n C 1 dX5_init_106 rfl rfl ?_
      refine m_get C in_Mi_g5 12 (by decide) (v := .ref (L 12)) rfl lk_Mi_g35 rfl dX5_init_107 ?_
      refine m_len C 9 8 (N := 576) (f := fA (σ 12)) (ty := .int) rfl rfl dX5_init_110 ?_
      refine g_icmp_ge C (tgt := 127) dX5_init_111 (by decide) (by omega) (by decide) (fun h => absurd h (by omega)) (fun _ => ?_)
      refine g_aload_n C 1 dX5_init_114 rfl rfl ?_
      refine m_get C in_Mi_g5 12 (by decide) (v := .ref (L 12)) rfl lk_Mi_g35 rfl dX5_init_115 ?_
      refine g_iload_n C 0 dX5_init_118 rfl rfl ?_
      refine g_iconst C (z := -1) dX5_init_119 ?_
      refine m_ast C 9 8 (N := 576) (f := σ 12) (e := i) (z := -1) (σ' := upM σ 12 (upI (σ 12) i (-1))) (X' := []) rfl rfl rfl (by decide) (by omega) dX5_init_120 ?_
      refine g_iinc C (z := i) (loc' := [(1, .int (iZ (i + 1))), (0, .ref (L 0))]) 0 hL dX5_init_121 rfl (by decide) rfl ?_
      refine g_goto C (tgt := 105) dX5_init_124 (by decide) ?_
      refine ih (i + 1) (by omega) (by omega) _ (fun k e => ?_)
      by_cases hk : k = 12
      · subst hk
        rw [upM_s]
        show (if e = i then -1 else σ 12 e) = _
        rw [hσ]
        by_cases he : e = i
        · rw [if_pos he, if_pos ⟨rfl, by omega, by omega⟩]
        · rw [if_neg he]
          by_cases h9 : 0 ≤ e ∧ e < i
          · rw [if_pos ⟨rfl, h9.1, h9.2⟩, if_pos ⟨rfl, h9.1, by omega⟩]
          · rw [if_neg (fun z => h9 ⟨z.2.1, z.2.2⟩), if_neg (fun z => h9 ⟨z.2.1, by omega⟩)]
      · rw [upM_n _ _ hk, hσ, if_neg (fun z => hk z.1), if_neg (fun z => hk z.1)]
  exact loop 576 0 (by omega) (by omega) _ (fun k e => by rw [if_neg (fun z => by omega)])
abbrev rm_Mi : Room := { frames := 1, cells := 12, slots := 4142, locals := 20 }
set_option maxRecDepth 20000 in
theorem in_Mi_X5 : ∀ w ∈ wsX50, w ∈ wsX5_init := by decide +kernel
theorem lk_Mi_oi1 : Cond.methodLink RX5 1 objectInit ∈ wsX5_init := List.mem_of_getElem? (i := 1) (by decide +kernel)
theorem lk_Mi_oin : Cond.instanceMethod objectInit ∈ wsX5_init := List.mem_of_getElem? (i := 2) (by decide +kernel)
theorem lk_Mi_oic : Cond.code objectInit ⟨#[0xb1]⟩ 1 none ∈ wsX5_init := List.mem_of_getElem? (i := 3) (by decide +kernel)
theorem lk_Mi_ac_int : Cond.arrayClass .int ∈ wsX5_init := List.mem_of_getElem? (i := 4) (by decide +kernel)
theorem lk_Mi_f9 : Cond.fieldLink RX5 9 "CopyHouseModel" "tape" "[I" ∈ wsX5_init := List.mem_of_getElem? (i := 5) (by decide +kernel)
theorem lk_Mi_f13 : Cond.fieldLink RX5 13 "CopyHouseModel" "letters" "[I" ∈ wsX5_init := List.mem_of_getElem? (i := 6) (by decide +kernel)
theorem lk_Mi_f16 : Cond.fieldLink RX5 16 "CopyHouseModel" "length" "[I" ∈ wsX5_init := List.mem_of_getElem? (i := 7) (by decide +kernel)
theorem lk_Mi_f19 : Cond.fieldLink RX5 19 "CopyHouseModel" "exemplar" "[I" ∈ wsX5_init := List.mem_of_getElem? (i := 8) (by decide +kernel)
theorem lk_Mi_f22 : Cond.fieldLink RX5 22 "CopyHouseModel" "scribe" "[I" ∈ wsX5_init := List.mem_of_getElem? (i := 9) (by decide +kernel)
theorem lk_Mi_ac_boolean : Cond.arrayClass .boolean ∈ wsX5_init := List.mem_of_getElem? (i := 10) (by decide +kernel)
theorem lk_Mi_f25 : Cond.fieldLink RX5 25 "CopyHouseModel" "isThere" "[Z" ∈ wsX5_init := List.mem_of_getElem? (i := 11) (by decide +kernel)
theorem lk_Mi_f29 : Cond.fieldLink RX5 29 "CopyHouseModel" "habits" "[I" ∈ wsX5_init := List.mem_of_getElem? (i := 12) (by decide +kernel)
theorem lk_Mi_f32 : Cond.fieldLink RX5 32 "CopyHouseModel" "habit" "[I" ∈ wsX5_init := List.mem_of_getElem? (i := 13) (by decide +kernel)
theorem lk_Mi_f35 : Cond.fieldLink RX5 35 "CopyHouseModel" "known" "[I" ∈ wsX5_init := List.mem_of_getElem? (i := 14) (by decide +kernel)
theorem lk_Mi_f38 : Cond.fieldLink RX5 38 "CopyHouseModel" "from" "[I" ∈ wsX5_init := List.mem_of_getElem? (i := 15) (by decide +kernel)
theorem lk_Mi_f41 : Cond.fieldLink RX5 41 "CopyHouseModel" "to" "[I" ∈ wsX5_init := List.mem_of_getElem? (i := 16) (by decide +kernel)
theorem lk_Mi_f44 : Cond.fieldLink RX5 44 "CopyHouseModel" "row" "[I" ∈ wsX5_init := List.mem_of_getElem? (i := 17) (by decide +kernel)
set_option maxRecDepth 100000 in
set_option maxHeartbeats 4000000 in
theorem s_Mi {l : Launch} {emp : Nat} {mp : Nat → Option va_E} {ty : ClassId → FieldType → Prop} {a : Nat} (h : mp a = some (.inr (6, [.int (iZ 0), .null, .int (iZ 0), .int (iZ 0), .null, .null, .null, .null, .null, .int (iZ 0), .null, .null, .null, .null, .int (iZ 0), .null, .null]))) : cMet l yX5_init wsX5_init rm_Mi emp VW rkV [.ref a] (Sum.inr (mp, ty)) (fun r u' => ∃ p : (Nat → Nat) × (Nat → ClassId), ∃ σ : MS, u' = Sum.inl (p, σ) ∧ p.1 0 = a ∧ ∀ k e, σ k e = if k = 12 ∧ 0 ≤ e ∧ e < 576 then -1 else 0) :=
  cMet.of (maxL := 2) (by decide +kernel) rfl (Nat.le_of_ble_eq_true rfl) (fun K h1 h2 h3 h4 h5 h6 h7 => by
    obtain ⟨m0, em0⟩ : ∃ m, m = mp := ⟨_, rfl⟩
    rw [← em0]
    rw [← em0] at h
    have f_a_0 : m0 a = some (.inr (6, [.int (iZ 0), .null, .int (iZ 0), .int (iZ 0), .null, .null, .null, .null, .null, .int (iZ 0), .null, .null, .null, .null, .int (iZ 0), .null, .null])) := h
    refine g_aload_n h2 0 dX5_init_0 rfl rfl ?_
    refine f_obj h2 lk_Mi_oi1 lk_Mi_oin lk_Mi_oic (Nat.le_of_ble_eq_true rfl) (Nat.le_of_ble_eq_true rfl) dX5_init_1 ?_
    refine g_aload_n h2 0 dX5_init_4 rfl rfl ?_
    refine g_bipush h2 (z := 60) dX5_init_5 (by decide) ?_
    refine f_newa h2 (aty := .int) (ety := .int) (N := 60) (a0 := (60, .inl (fA (fun _ => 0)))) (fun cA => rfl) rfl lk_Mi_ac_int (by decide) (by decide) ⟨Nat.le_of_ble_eq_true rfl, Nat.le_of_ble_eq_true rfl⟩ dX5_init_7 (fun q1 c_q1 hq1 => ?_)
    have n_a_q1 : a ≠ q1 := f_ne f_a_0 hq1
    refine f_put h2 (mp' := fU (fU m0 q1 (.inl (c_q1, 60, .inl (fA (fun _ => 0))))) a (.inr (6, [.int (iZ 0), .ref q1, .int (iZ 0), .int (iZ 0), .null, .null, .null, .null, .null, .int (iZ 0), .null, .null, .null, .null, .int (iZ 0), .null, .null]))) (ci := 6) (q := (RX5, TX5, 17)) ((fU_n _ _ n_a_q1).trans f_a_0) rfl in_Mi_X5 tyX5 tyX5_ok nmX5 1 (by decide) (Nat.le_of_ble_eq_true rfl) (v := .ref q1) (vt := (.array .int)) lk_Mi_f9 (Or.inl rfl) (Or.inr ⟨rfl, h7 rfl, rfl⟩) rfl rfl rfl rfl dX5_init_9 ?_
    obtain ⟨m1, em1⟩ : ∃ m, m = fU (fU m0 q1 (.inl (c_q1, 60, .inl (fA (fun _ => 0))))) a (.inr (6, [.int (iZ 0), .ref q1, .int (iZ 0), .int (iZ 0), .null, .null, .null, .null, .null, .int (iZ 0), .null, .null, .null, .null, .int (iZ 0), .null, .null])) := ⟨_, rfl⟩
    rw [← em1]
    have f_a_1 : m1 a = some (.inr (6, [.int (iZ 0), .ref q1, .int (iZ 0), .int (iZ 0), .null, .null, .null, .null, .null, .int (iZ 0), .null, .null, .null, .null, .int (iZ 0), .null, .null])) := by rw [em1]; exact fU_s _ _ _
    have f_q1_1 : m1 q1 = some (.inl (c_q1, 60, .inl (fA (fun _ => 0)))) := by rw [em1]; exact (fU_n _ _ (Ne.symm n_a_q1)).trans (fU_s _ _ _)
    show G K (FW (m1, fY ty c_q1 .int)) (1, 60) [(0, .ref a)] 12 []
    refine g_aload_n h2 0 dX5_init_12 rfl rfl ?_
    refine g_sipush h2 (z := 2880) dX5_init_13 (by decide) ?_
    refine f_newa h2 (aty := .int) (ety := .int) (N := 2880) (a0 := (2880, .inl (fA (fun _ => 0)))) (fun cA => rfl) rfl lk_Mi_ac_int (by decide) (by decide) ⟨Nat.le_of_ble_eq_true rfl, Nat.le_of_ble_eq_true rfl⟩ dX5_init_16 (fun q4 c_q4 hq4 => ?_)
    have n_a_q4 : a ≠ q4 := f_ne f_a_1 hq4
    have n_q1_q4 : q1 ≠ q4 := f_ne f_q1_1 hq4
    refine f_put h2 (mp' := fU (fU m1 q4 (.inl (c_q4, 2880, .inl (fA (fun _ => 0))))) a (.inr (6, [.int (iZ 0), .ref q1, .int (iZ 0), .int (iZ 0), .ref q4, .null, .null, .null, .null, .int (iZ 0), .null, .null, .null, .null, .int (iZ 0), .null, .null]))) (ci := 6) (q := (RX5, TX5, 17)) ((fU_n _ _ n_a_q4).trans f_a_1) rfl in_Mi_X5 tyX5 tyX5_ok nmX5 4 (by decide) (Nat.le_of_ble_eq_true rfl) (v := .ref q4) (vt := (.array .int)) lk_Mi_f13 (Or.inl rfl) (Or.inr ⟨rfl, h7 rfl, rfl⟩) rfl rfl rfl rfl dX5_init_18 ?_
    obtain ⟨m2, em2⟩ : ∃ m, m = fU (fU m1 q4 (.inl (c_q4, 2880, .inl (fA (fun _ => 0))))) a (.inr (6, [.int (iZ 0), .ref q1, .int (iZ 0), .int (iZ 0), .ref q4, .null, .null, .null, .null, .int (iZ 0), .null, .null, .null, .null, .int (iZ 0), .null, .null])) := ⟨_, rfl⟩
    rw [← em2]
    have f_a_2 : m2 a = some (.inr (6, [.int (iZ 0), .ref q1, .int (iZ 0), .int (iZ 0), .ref q4, .null, .null, .null, .null, .int (iZ 0), .null, .null, .null, .null, .int (iZ 0), .null, .null])) := by rw [em2]; exact fU_s _ _ _
    have f_q4_2 : m2 q4 = some (.inl (c_q4, 2880, .inl (fA (fun _ => 0)))) := by rw [em2]; exact (fU_n _ _ (Ne.symm n_a_q4)).trans (fU_s _ _ _)
    have f_q1_2 : m2 q1 = some (.inl (c_q1, 60, .inl (fA (fun _ => 0)))) := by rw [em2]; exact (fU_n _ _ (Ne.symm n_a_q1)).trans ((fU_n _ _ n_q1_q4).trans f_q1_1)
    show G K (FW (m2, fY (fY ty c_q1 .int) c_q4 .int)) (2, 2940) [(0, .ref a)] 21 []
    refine g_aload_n h2 0 dX5_init_21 rfl rfl ?_
    refine g_bipush h2 (z := 24) dX5_init_22 (by decide) ?_
    refine f_newa h2 (aty := .int) (ety := .int) (N := 24) (a0 := (24, .inl (fA (fun _ => 0)))) (fun cA => rfl) rfl lk_Mi_ac_int (by decide) (by decide) ⟨Nat.le_of_ble_eq_true rfl, Nat.le_of_ble_eq_true rfl⟩ dX5_init_24 (fun q5 c_q5 hq5 => ?_)
    have n_a_q5 : a ≠ q5 := f_ne f_a_2 hq5
    have n_q1_q5 : q1 ≠ q5 := f_ne f_q1_2 hq5
    have n_q4_q5 : q4 ≠ q5 := f_ne f_q4_2 hq5
    refine f_put h2 (mp' := fU (fU m2 q5 (.inl (c_q5, 24, .inl (fA (fun _ => 0))))) a (.inr (6, [.int (iZ 0), .ref q1, .int (iZ 0), .int (iZ 0), .ref q4, .ref q5, .null, .null, .null, .int (iZ 0), .null, .null, .null, .null, .int (iZ 0), .null, .null]))) (ci := 6) (q := (RX5, TX5, 17)) ((fU_n _ _ n_a_q5).trans f_a_2) rfl in_Mi_X5 tyX5 tyX5_ok nmX5 5 (by decide) (Nat.le_of_ble_eq_true rfl) (v := .ref q5) (vt := (.array .int)) lk_Mi_f16 (Or.inl rfl) (Or.inr ⟨rfl, h7 rfl, rfl⟩) rfl rfl rfl rfl dX5_init_26 ?_
    obtain ⟨m3, em3⟩ : ∃ m, m = fU (fU m2 q5 (.inl (c_q5, 24, .inl (fA (fun _ => 0))))) a (.inr (6, [.int (iZ 0), .ref q1, .int (iZ 0), .int (iZ 0), .ref q4, .ref q5, .null, .null, .null, .int (iZ 0), .null, .null, .null, .null, .int (iZ 0), .null, .null])) := ⟨_, rfl⟩
    rw [← em3]
    have f_a_3 : m3 a = some (.inr (6, [.int (iZ 0), .ref q1, .int (iZ 0), .int (iZ 0), .ref q4, .ref q5, .null, .null, .null, .int (iZ 0), .null, .null, .null, .null, .int (iZ 0), .null, .null])) := by rw [em3]; exact fU_s _ _ _
    have f_q5_3 : m3 q5 = some (.inl (c_q5, 24, .inl (fA (fun _ => 0)))) := by rw [em3]; exact (fU_n _ _ (Ne.symm n_a_q5)).trans (fU_s _ _ _)
    have f_q1_3 : m3 q1 = some (.inl (c_q1, 60, .inl (fA (fun _ => 0)))) := by rw [em3]; exact (fU_n _ _ (Ne.symm n_a_q1)).trans ((fU_n _ _ n_q1_q5).trans f_q1_2)
    have f_q4_3 : m3 q4 = some (.inl (c_q4, 2880, .inl (fA (fun _ => 0)))) := by rw [em3]; exact (fU_n _ _ (Ne.symm n_a_q4)).trans ((fU_n _ _ n_q4_q5).trans f_q4_2)
    show G K (FW (m3, fY (fY (fY ty c_q1 .int) c_q4 .int) c_q5 .int)) (3, 2964) [(0, .ref a)] 29 []
    refine g_aload_n h2 0 dX5_init_29 rfl rfl ?_
    refine g_bipush h2 (z := 24) dX5_init_30 (by decide) ?_
    refine f_newa h2 (aty := .int) (ety := .int) (N := 24) (a0 := (24, .inl (fA (fun _ => 0)))) (fun cA => rfl) rfl lk_Mi_ac_int (by decide) (by decide) ⟨Nat.le_of_ble_eq_true rfl, Nat.le_of_ble_eq_true rfl⟩ dX5_init_32 (fun q6 c_q6 hq6 => ?_)
    have n_a_q6 : a ≠ q6 := f_ne f_a_3 hq6
    have n_q1_q6 : q1 ≠ q6 := f_ne f_q1_3 hq6
    have n_q4_q6 : q4 ≠ q6 := f_ne f_q4_3 hq6
    have n_q5_q6 : q5 ≠ q6 := f_ne f_q5_3 hq6
    refine f_put h2 (mp' := fU (fU m3 q6 (.inl (c_q6, 24, .inl (fA (fun _ => 0))))) a (.inr (6, [.int (iZ 0), .ref q1, .int (iZ 0), .int (iZ 0), .ref q4, .ref q5, .ref q6, .null, .null, .int (iZ 0), .null, .null, .null, .null, .int (iZ 0), .null, .null]))) (ci := 6) (q := (RX5, TX5, 17)) ((fU_n _ _ n_a_q6).trans f_a_3) rfl in_Mi_X5 tyX5 tyX5_ok nmX5 6 (by decide) (Nat.le_of_ble_eq_true rfl) (v := .ref q6) (vt := (.array .int)) lk_Mi_f19 (Or.inl rfl) (Or.inr ⟨rfl, h7 rfl, rfl⟩) rfl rfl rfl rfl dX5_init_34 ?_
    obtain ⟨m4, em4⟩ : ∃ m, m = fU (fU m3 q6 (.inl (c_q6, 24, .inl (fA (fun _ => 0))))) a (.inr (6, [.int (iZ 0), .ref q1, .int (iZ 0), .int (iZ 0), .ref q4, .ref q5, .ref q6, .null, .null, .int (iZ 0), .null, .null, .null, .null, .int (iZ 0), .null, .null])) := ⟨_, rfl⟩
    rw [← em4]
    have f_a_4 : m4 a = some (.inr (6, [.int (iZ 0), .ref q1, .int (iZ 0), .int (iZ 0), .ref q4, .ref q5, .ref q6, .null, .null, .int (iZ 0), .null, .null, .null, .null, .int (iZ 0), .null, .null])) := by rw [em4]; exact fU_s _ _ _
    have f_q6_4 : m4 q6 = some (.inl (c_q6, 24, .inl (fA (fun _ => 0)))) := by rw [em4]; exact (fU_n _ _ (Ne.symm n_a_q6)).trans (fU_s _ _ _)
    have f_q1_4 : m4 q1 = some (.inl (c_q1, 60, .inl (fA (fun _ => 0)))) := by rw [em4]; exact (fU_n _ _ (Ne.symm n_a_q1)).trans ((fU_n _ _ n_q1_q6).trans f_q1_3)
    have f_q4_4 : m4 q4 = some (.inl (c_q4, 2880, .inl (fA (fun _ => 0)))) := by rw [em4]; exact (fU_n _ _ (Ne.symm n_a_q4)).trans ((fU_n _ _ n_q4_q6).trans f_q4_3)
    have f_q5_4 : m4 q5 = some (.inl (c_q5, 24, .inl (fA (fun _ => 0)))) := by rw [em4]; exact (fU_n _ _ (Ne.symm n_a_q5)).trans ((fU_n _ _ n_q5_q6).trans f_q5_3)
    show G K (FW (m4, fY (fY (fY (fY ty c_q1 .int) c_q4 .int) c_q5 .int) c_q6 .int)) (4, 2988) [(0, .ref a)] 37 []
    refine g_aload_n h2 0 dX5_init_37 rfl rfl ?_
    refine g_bipush h2 (z := 24) dX5_init_38 (by decide) ?_
    refine f_newa h2 (aty := .int) (ety := .int) (N := 24) (a0 := (24, .inl (fA (fun _ => 0)))) (fun cA => rfl) rfl lk_Mi_ac_int (by decide) (by decide) ⟨Nat.le_of_ble_eq_true rfl, Nat.le_of_ble_eq_true rfl⟩ dX5_init_40 (fun q7 c_q7 hq7 => ?_)
    have n_a_q7 : a ≠ q7 := f_ne f_a_4 hq7
    have n_q1_q7 : q1 ≠ q7 := f_ne f_q1_4 hq7
    have n_q4_q7 : q4 ≠ q7 := f_ne f_q4_4 hq7
    have n_q5_q7 : q5 ≠ q7 := f_ne f_q5_4 hq7
    have n_q6_q7 : q6 ≠ q7 := f_ne f_q6_4 hq7
    refine f_put h2 (mp' := fU (fU m4 q7 (.inl (c_q7, 24, .inl (fA (fun _ => 0))))) a (.inr (6, [.int (iZ 0), .ref q1, .int (iZ 0), .int (iZ 0), .ref q4, .ref q5, .ref q6, .ref q7, .null, .int (iZ 0), .null, .null, .null, .null, .int (iZ 0), .null, .null]))) (ci := 6) (q := (RX5, TX5, 17)) ((fU_n _ _ n_a_q7).trans f_a_4) rfl in_Mi_X5 tyX5 tyX5_ok nmX5 7 (by decide) (Nat.le_of_ble_eq_true rfl) (v := .ref q7) (vt := (.array .int)) lk_Mi_f22 (Or.inl rfl) (Or.inr ⟨rfl, h7 rfl, rfl⟩) rfl rfl rfl rfl dX5_init_42 ?_
    obtain ⟨m5, em5⟩ : ∃ m, m = fU (fU m4 q7 (.inl (c_q7, 24, .inl (fA (fun _ => 0))))) a (.inr (6, [.int (iZ 0), .ref q1, .int (iZ 0), .int (iZ 0), .ref q4, .ref q5, .ref q6, .ref q7, .null, .int (iZ 0), .null, .null, .null, .null, .int (iZ 0), .null, .null])) := ⟨_, rfl⟩
    rw [← em5]
    have f_a_5 : m5 a = some (.inr (6, [.int (iZ 0), .ref q1, .int (iZ 0), .int (iZ 0), .ref q4, .ref q5, .ref q6, .ref q7, .null, .int (iZ 0), .null, .null, .null, .null, .int (iZ 0), .null, .null])) := by rw [em5]; exact fU_s _ _ _
    have f_q7_5 : m5 q7 = some (.inl (c_q7, 24, .inl (fA (fun _ => 0)))) := by rw [em5]; exact (fU_n _ _ (Ne.symm n_a_q7)).trans (fU_s _ _ _)
    have f_q1_5 : m5 q1 = some (.inl (c_q1, 60, .inl (fA (fun _ => 0)))) := by rw [em5]; exact (fU_n _ _ (Ne.symm n_a_q1)).trans ((fU_n _ _ n_q1_q7).trans f_q1_4)
    have f_q4_5 : m5 q4 = some (.inl (c_q4, 2880, .inl (fA (fun _ => 0)))) := by rw [em5]; exact (fU_n _ _ (Ne.symm n_a_q4)).trans ((fU_n _ _ n_q4_q7).trans f_q4_4)
    have f_q5_5 : m5 q5 = some (.inl (c_q5, 24, .inl (fA (fun _ => 0)))) := by rw [em5]; exact (fU_n _ _ (Ne.symm n_a_q5)).trans ((fU_n _ _ n_q5_q7).trans f_q5_4)
    have f_q6_5 : m5 q6 = some (.inl (c_q6, 24, .inl (fA (fun _ => 0)))) := by rw [em5]; exact (fU_n _ _ (Ne.symm n_a_q6)).trans ((fU_n _ _ n_q6_q7).trans f_q6_4)
    show G K (FW (m5, fY (fY (fY (fY (fY ty c_q1 .int) c_q4 .int) c_q5 .int) c_q6 .int) c_q7 .int)) (5, 3012) [(0, .ref a)] 45 []
    refine g_aload_n h2 0 dX5_init_45 rfl rfl ?_
    refine g_bipush h2 (z := 24) dX5_init_46 (by decide) ?_
    refine f_newa h2 (aty := .boolean) (ety := .boolean) (N := 24) (a0 := (24, .inl (fA (fun _ => 0)))) (fun cA => rfl) rfl lk_Mi_ac_boolean (by decide) (by decide) ⟨Nat.le_of_ble_eq_true rfl, Nat.le_of_ble_eq_true rfl⟩ dX5_init_48 (fun q8 c_q8 hq8 => ?_)
    have n_a_q8 : a ≠ q8 := f_ne f_a_5 hq8
    have n_q1_q8 : q1 ≠ q8 := f_ne f_q1_5 hq8
    have n_q4_q8 : q4 ≠ q8 := f_ne f_q4_5 hq8
    have n_q5_q8 : q5 ≠ q8 := f_ne f_q5_5 hq8
    have n_q6_q8 : q6 ≠ q8 := f_ne f_q6_5 hq8
    have n_q7_q8 : q7 ≠ q8 := f_ne f_q7_5 hq8
    refine f_put h2 (mp' := fU (fU m5 q8 (.inl (c_q8, 24, .inl (fA (fun _ => 0))))) a (.inr (6, [.int (iZ 0), .ref q1, .int (iZ 0), .int (iZ 0), .ref q4, .ref q5, .ref q6, .ref q7, .ref q8, .int (iZ 0), .null, .null, .null, .null, .int (iZ 0), .null, .null]))) (ci := 6) (q := (RX5, TX5, 17)) ((fU_n _ _ n_a_q8).trans f_a_5) rfl in_Mi_X5 tyX5 tyX5_ok nmX5 8 (by decide) (Nat.le_of_ble_eq_true rfl) (v := .ref q8) (vt := (.array .boolean)) lk_Mi_f25 (Or.inl rfl) (Or.inr ⟨rfl, h7 rfl, rfl⟩) rfl rfl rfl rfl dX5_init_50 ?_
    obtain ⟨m6, em6⟩ : ∃ m, m = fU (fU m5 q8 (.inl (c_q8, 24, .inl (fA (fun _ => 0))))) a (.inr (6, [.int (iZ 0), .ref q1, .int (iZ 0), .int (iZ 0), .ref q4, .ref q5, .ref q6, .ref q7, .ref q8, .int (iZ 0), .null, .null, .null, .null, .int (iZ 0), .null, .null])) := ⟨_, rfl⟩
    rw [← em6]
    have f_a_6 : m6 a = some (.inr (6, [.int (iZ 0), .ref q1, .int (iZ 0), .int (iZ 0), .ref q4, .ref q5, .ref q6, .ref q7, .ref q8, .int (iZ 0), .null, .null, .null, .null, .int (iZ 0), .null, .null])) := by rw [em6]; exact fU_s _ _ _
    have f_q8_6 : m6 q8 = some (.inl (c_q8, 24, .inl (fA (fun _ => 0)))) := by rw [em6]; exact (fU_n _ _ (Ne.symm n_a_q8)).trans (fU_s _ _ _)
    have f_q1_6 : m6 q1 = some (.inl (c_q1, 60, .inl (fA (fun _ => 0)))) := by rw [em6]; exact (fU_n _ _ (Ne.symm n_a_q1)).trans ((fU_n _ _ n_q1_q8).trans f_q1_5)
    have f_q4_6 : m6 q4 = some (.inl (c_q4, 2880, .inl (fA (fun _ => 0)))) := by rw [em6]; exact (fU_n _ _ (Ne.symm n_a_q4)).trans ((fU_n _ _ n_q4_q8).trans f_q4_5)
    have f_q5_6 : m6 q5 = some (.inl (c_q5, 24, .inl (fA (fun _ => 0)))) := by rw [em6]; exact (fU_n _ _ (Ne.symm n_a_q5)).trans ((fU_n _ _ n_q5_q8).trans f_q5_5)
    have f_q6_6 : m6 q6 = some (.inl (c_q6, 24, .inl (fA (fun _ => 0)))) := by rw [em6]; exact (fU_n _ _ (Ne.symm n_a_q6)).trans ((fU_n _ _ n_q6_q8).trans f_q6_5)
    have f_q7_6 : m6 q7 = some (.inl (c_q7, 24, .inl (fA (fun _ => 0)))) := by rw [em6]; exact (fU_n _ _ (Ne.symm n_a_q7)).trans ((fU_n _ _ n_q7_q8).trans f_q7_5)
    show G K (FW (m6, fY (fY (fY (fY (fY (fY ty c_q1 .int) c_q4 .int) c_q5 .int) c_q6 .int) c_q7 .int) c_q8 .boolean)) (6, 3036) [(0, .ref a)] 53 []
    refine g_aload_n h2 0 dX5_init_53 rfl rfl ?_
    refine g_bipush h2 (z := 8) dX5_init_54 (by decide) ?_
    refine f_newa h2 (aty := .int) (ety := .int) (N := 8) (a0 := (8, .inl (fA (fun _ => 0)))) (fun cA => rfl) rfl lk_Mi_ac_int (by decide) (by decide) ⟨Nat.le_of_ble_eq_true rfl, Nat.le_of_ble_eq_true rfl⟩ dX5_init_56 (fun q10 c_q10 hq10 => ?_)
    have n_a_q10 : a ≠ q10 := f_ne f_a_6 hq10
    have n_q1_q10 : q1 ≠ q10 := f_ne f_q1_6 hq10
    have n_q4_q10 : q4 ≠ q10 := f_ne f_q4_6 hq10
    have n_q5_q10 : q5 ≠ q10 := f_ne f_q5_6 hq10
    have n_q6_q10 : q6 ≠ q10 := f_ne f_q6_6 hq10
    have n_q7_q10 : q7 ≠ q10 := f_ne f_q7_6 hq10
    have n_q8_q10 : q8 ≠ q10 := f_ne f_q8_6 hq10
    refine f_put h2 (mp' := fU (fU m6 q10 (.inl (c_q10, 8, .inl (fA (fun _ => 0))))) a (.inr (6, [.int (iZ 0), .ref q1, .int (iZ 0), .int (iZ 0), .ref q4, .ref q5, .ref q6, .ref q7, .ref q8, .int (iZ 0), .ref q10, .null, .null, .null, .int (iZ 0), .null, .null]))) (ci := 6) (q := (RX5, TX5, 17)) ((fU_n _ _ n_a_q10).trans f_a_6) rfl in_Mi_X5 tyX5 tyX5_ok nmX5 10 (by decide) (Nat.le_of_ble_eq_true rfl) (v := .ref q10) (vt := (.array .int)) lk_Mi_f29 (Or.inl rfl) (Or.inr ⟨rfl, h7 rfl, rfl⟩) rfl rfl rfl rfl dX5_init_58 ?_
    obtain ⟨m7, em7⟩ : ∃ m, m = fU (fU m6 q10 (.inl (c_q10, 8, .inl (fA (fun _ => 0))))) a (.inr (6, [.int (iZ 0), .ref q1, .int (iZ 0), .int (iZ 0), .ref q4, .ref q5, .ref q6, .ref q7, .ref q8, .int (iZ 0), .ref q10, .null, .null, .null, .int (iZ 0), .null, .null])) := ⟨_, rfl⟩
    rw [← em7]
    have f_a_7 : m7 a = some (.inr (6, [.int (iZ 0), .ref q1, .int (iZ 0), .int (iZ 0), .ref q4, .ref q5, .ref q6, .ref q7, .ref q8, .int (iZ 0), .ref q10, .null, .null, .null, .int (iZ 0), .null, .null])) := by rw [em7]; exact fU_s _ _ _
    have f_q10_7 : m7 q10 = some (.inl (c_q10, 8, .inl (fA (fun _ => 0)))) := by rw [em7]; exact (fU_n _ _ (Ne.symm n_a_q10)).trans (fU_s _ _ _)
    have f_q1_7 : m7 q1 = some (.inl (c_q1, 60, .inl (fA (fun _ => 0)))) := by rw [em7]; exact (fU_n _ _ (Ne.symm n_a_q1)).trans ((fU_n _ _ n_q1_q10).trans f_q1_6)
    have f_q4_7 : m7 q4 = some (.inl (c_q4, 2880, .inl (fA (fun _ => 0)))) := by rw [em7]; exact (fU_n _ _ (Ne.symm n_a_q4)).trans ((fU_n _ _ n_q4_q10).trans f_q4_6)
    have f_q5_7 : m7 q5 = some (.inl (c_q5, 24, .inl (fA (fun _ => 0)))) := by rw [em7]; exact (fU_n _ _ (Ne.symm n_a_q5)).trans ((fU_n _ _ n_q5_q10).trans f_q5_6)
    have f_q6_7 : m7 q6 = some (.inl (c_q6, 24, .inl (fA (fun _ => 0)))) := by rw [em7]; exact (fU_n _ _ (Ne.symm n_a_q6)).trans ((fU_n _ _ n_q6_q10).trans f_q6_6)
    have f_q7_7 : m7 q7 = some (.inl (c_q7, 24, .inl (fA (fun _ => 0)))) := by rw [em7]; exact (fU_n _ _ (Ne.symm n_a_q7)).trans ((fU_n _ _ n_q7_q10).trans f_q7_6)
    have f_q8_7 : m7 q8 = some (.inl (c_q8, 24, .inl (fA (fun _ => 0)))) := by rw [em7]; exact (fU_n _ _ (Ne.symm n_a_q8)).trans ((fU_n _ _ n_q8_q10).trans f_q8_6)
    show G K (FW (m7, fY (fY (fY (fY (fY (fY (fY ty c_q1 .int) c_q4 .int) c_q5 .int) c_q6 .int) c_q7 .int) c_q8 .boolean) c_q10 .int)) (7, 3044) [(0, .ref a)] 61 []
    refine g_aload_n h2 0 dX5_init_61 rfl rfl ?_
    refine g_sipush h2 (z := 160) dX5_init_62 (by decide) ?_
    refine f_newa h2 (aty := .int) (ety := .int) (N := 160) (a0 := (160, .inl (fA (fun _ => 0)))) (fun cA => rfl) rfl lk_Mi_ac_int (by decide) (by decide) ⟨Nat.le_of_ble_eq_true rfl, Nat.le_of_ble_eq_true rfl⟩ dX5_init_65 (fun q11 c_q11 hq11 => ?_)
    have n_a_q11 : a ≠ q11 := f_ne f_a_7 hq11
    have n_q1_q11 : q1 ≠ q11 := f_ne f_q1_7 hq11
    have n_q4_q11 : q4 ≠ q11 := f_ne f_q4_7 hq11
    have n_q5_q11 : q5 ≠ q11 := f_ne f_q5_7 hq11
    have n_q6_q11 : q6 ≠ q11 := f_ne f_q6_7 hq11
    have n_q7_q11 : q7 ≠ q11 := f_ne f_q7_7 hq11
    have n_q8_q11 : q8 ≠ q11 := f_ne f_q8_7 hq11
    have n_q10_q11 : q10 ≠ q11 := f_ne f_q10_7 hq11
    refine f_put h2 (mp' := fU (fU m7 q11 (.inl (c_q11, 160, .inl (fA (fun _ => 0))))) a (.inr (6, [.int (iZ 0), .ref q1, .int (iZ 0), .int (iZ 0), .ref q4, .ref q5, .ref q6, .ref q7, .ref q8, .int (iZ 0), .ref q10, .ref q11, .null, .null, .int (iZ 0), .null, .null]))) (ci := 6) (q := (RX5, TX5, 17)) ((fU_n _ _ n_a_q11).trans f_a_7) rfl in_Mi_X5 tyX5 tyX5_ok nmX5 11 (by decide) (Nat.le_of_ble_eq_true rfl) (v := .ref q11) (vt := (.array .int)) lk_Mi_f32 (Or.inl rfl) (Or.inr ⟨rfl, h7 rfl, rfl⟩) rfl rfl rfl rfl dX5_init_67 ?_
    obtain ⟨m8, em8⟩ : ∃ m, m = fU (fU m7 q11 (.inl (c_q11, 160, .inl (fA (fun _ => 0))))) a (.inr (6, [.int (iZ 0), .ref q1, .int (iZ 0), .int (iZ 0), .ref q4, .ref q5, .ref q6, .ref q7, .ref q8, .int (iZ 0), .ref q10, .ref q11, .null, .null, .int (iZ 0), .null, .null])) := ⟨_, rfl⟩
    rw [← em8]
    have f_a_8 : m8 a = some (.inr (6, [.int (iZ 0), .ref q1, .int (iZ 0), .int (iZ 0), .ref q4, .ref q5, .ref q6, .ref q7, .ref q8, .int (iZ 0), .ref q10, .ref q11, .null, .null, .int (iZ 0), .null, .null])) := by rw [em8]; exact fU_s _ _ _
    have f_q11_8 : m8 q11 = some (.inl (c_q11, 160, .inl (fA (fun _ => 0)))) := by rw [em8]; exact (fU_n _ _ (Ne.symm n_a_q11)).trans (fU_s _ _ _)
    have f_q1_8 : m8 q1 = some (.inl (c_q1, 60, .inl (fA (fun _ => 0)))) := by rw [em8]; exact (fU_n _ _ (Ne.symm n_a_q1)).trans ((fU_n _ _ n_q1_q11).trans f_q1_7)
    have f_q4_8 : m8 q4 = some (.inl (c_q4, 2880, .inl (fA (fun _ => 0)))) := by rw [em8]; exact (fU_n _ _ (Ne.symm n_a_q4)).trans ((fU_n _ _ n_q4_q11).trans f_q4_7)
    have f_q5_8 : m8 q5 = some (.inl (c_q5, 24, .inl (fA (fun _ => 0)))) := by rw [em8]; exact (fU_n _ _ (Ne.symm n_a_q5)).trans ((fU_n _ _ n_q5_q11).trans f_q5_7)
    have f_q6_8 : m8 q6 = some (.inl (c_q6, 24, .inl (fA (fun _ => 0)))) := by rw [em8]; exact (fU_n _ _ (Ne.symm n_a_q6)).trans ((fU_n _ _ n_q6_q11).trans f_q6_7)
    have f_q7_8 : m8 q7 = some (.inl (c_q7, 24, .inl (fA (fun _ => 0)))) := by rw [em8]; exact (fU_n _ _ (Ne.symm n_a_q7)).trans ((fU_n _ _ n_q7_q11).trans f_q7_7)
    have f_q8_8 : m8 q8 = some (.inl (c_q8, 24, .inl (fA (fun _ => 0)))) := by rw [em8]; exact (fU_n _ _ (Ne.symm n_a_q8)).trans ((fU_n _ _ n_q8_q11).trans f_q8_7)
    have f_q10_8 : m8 q10 = some (.inl (c_q10, 8, .inl (fA (fun _ => 0)))) := by rw [em8]; exact (fU_n _ _ (Ne.symm n_a_q10)).trans ((fU_n _ _ n_q10_q11).trans f_q10_7)
    show G K (FW (m8, fY (fY (fY (fY (fY (fY (fY (fY ty c_q1 .int) c_q4 .int) c_q5 .int) c_q6 .int) c_q7 .int) c_q8 .boolean) c_q10 .int) c_q11 .int)) (8, 3204) [(0, .ref a)] 70 []
    refine g_aload_n h2 0 dX5_init_70 rfl rfl ?_
    refine g_sipush h2 (z := 576) dX5_init_71 (by decide) ?_
    refine f_newa h2 (aty := .int) (ety := .int) (N := 576) (a0 := (576, .inl (fA (fun _ => 0)))) (fun cA => rfl) rfl lk_Mi_ac_int (by decide) (by decide) ⟨Nat.le_of_ble_eq_true rfl, Nat.le_of_ble_eq_true rfl⟩ dX5_init_74 (fun q12 c_q12 hq12 => ?_)
    have n_a_q12 : a ≠ q12 := f_ne f_a_8 hq12
    have n_q1_q12 : q1 ≠ q12 := f_ne f_q1_8 hq12
    have n_q4_q12 : q4 ≠ q12 := f_ne f_q4_8 hq12
    have n_q5_q12 : q5 ≠ q12 := f_ne f_q5_8 hq12
    have n_q6_q12 : q6 ≠ q12 := f_ne f_q6_8 hq12
    have n_q7_q12 : q7 ≠ q12 := f_ne f_q7_8 hq12
    have n_q8_q12 : q8 ≠ q12 := f_ne f_q8_8 hq12
    have n_q10_q12 : q10 ≠ q12 := f_ne f_q10_8 hq12
    have n_q11_q12 : q11 ≠ q12 := f_ne f_q11_8 hq12
    refine f_put h2 (mp' := fU (fU m8 q12 (.inl (c_q12, 576, .inl (fA (fun _ => 0))))) a (.inr (6, [.int (iZ 0), .ref q1, .int (iZ 0), .int (iZ 0), .ref q4, .ref q5, .ref q6, .ref q7, .ref q8, .int (iZ 0), .ref q10, .ref q11, .ref q12, .null, .int (iZ 0), .null, .null]))) (ci := 6) (q := (RX5, TX5, 17)) ((fU_n _ _ n_a_q12).trans f_a_8) rfl in_Mi_X5 tyX5 tyX5_ok nmX5 12 (by decide) (Nat.le_of_ble_eq_true rfl) (v := .ref q12) (vt := (.array .int)) lk_Mi_f35 (Or.inl rfl) (Or.inr ⟨rfl, h7 rfl, rfl⟩) rfl rfl rfl rfl dX5_init_76 ?_
    obtain ⟨m9, em9⟩ : ∃ m, m = fU (fU m8 q12 (.inl (c_q12, 576, .inl (fA (fun _ => 0))))) a (.inr (6, [.int (iZ 0), .ref q1, .int (iZ 0), .int (iZ 0), .ref q4, .ref q5, .ref q6, .ref q7, .ref q8, .int (iZ 0), .ref q10, .ref q11, .ref q12, .null, .int (iZ 0), .null, .null])) := ⟨_, rfl⟩
    rw [← em9]
    have f_a_9 : m9 a = some (.inr (6, [.int (iZ 0), .ref q1, .int (iZ 0), .int (iZ 0), .ref q4, .ref q5, .ref q6, .ref q7, .ref q8, .int (iZ 0), .ref q10, .ref q11, .ref q12, .null, .int (iZ 0), .null, .null])) := by rw [em9]; exact fU_s _ _ _
    have f_q12_9 : m9 q12 = some (.inl (c_q12, 576, .inl (fA (fun _ => 0)))) := by rw [em9]; exact (fU_n _ _ (Ne.symm n_a_q12)).trans (fU_s _ _ _)
    have f_q1_9 : m9 q1 = some (.inl (c_q1, 60, .inl (fA (fun _ => 0)))) := by rw [em9]; exact (fU_n _ _ (Ne.symm n_a_q1)).trans ((fU_n _ _ n_q1_q12).trans f_q1_8)
    have f_q4_9 : m9 q4 = some (.inl (c_q4, 2880, .inl (fA (fun _ => 0)))) := by rw [em9]; exact (fU_n _ _ (Ne.symm n_a_q4)).trans ((fU_n _ _ n_q4_q12).trans f_q4_8)
    have f_q5_9 : m9 q5 = some (.inl (c_q5, 24, .inl (fA (fun _ => 0)))) := by rw [em9]; exact (fU_n _ _ (Ne.symm n_a_q5)).trans ((fU_n _ _ n_q5_q12).trans f_q5_8)
    have f_q6_9 : m9 q6 = some (.inl (c_q6, 24, .inl (fA (fun _ => 0)))) := by rw [em9]; exact (fU_n _ _ (Ne.symm n_a_q6)).trans ((fU_n _ _ n_q6_q12).trans f_q6_8)
    have f_q7_9 : m9 q7 = some (.inl (c_q7, 24, .inl (fA (fun _ => 0)))) := by rw [em9]; exact (fU_n _ _ (Ne.symm n_a_q7)).trans ((fU_n _ _ n_q7_q12).trans f_q7_8)
    have f_q8_9 : m9 q8 = some (.inl (c_q8, 24, .inl (fA (fun _ => 0)))) := by rw [em9]; exact (fU_n _ _ (Ne.symm n_a_q8)).trans ((fU_n _ _ n_q8_q12).trans f_q8_8)
    have f_q10_9 : m9 q10 = some (.inl (c_q10, 8, .inl (fA (fun _ => 0)))) := by rw [em9]; exact (fU_n _ _ (Ne.symm n_a_q10)).trans ((fU_n _ _ n_q10_q12).trans f_q10_8)
    have f_q11_9 : m9 q11 = some (.inl (c_q11, 160, .inl (fA (fun _ => 0)))) := by rw [em9]; exact (fU_n _ _ (Ne.symm n_a_q11)).trans ((fU_n _ _ n_q11_q12).trans f_q11_8)
    show G K (FW (m9, fY (fY (fY (fY (fY (fY (fY (fY (fY ty c_q1 .int) c_q4 .int) c_q5 .int) c_q6 .int) c_q7 .int) c_q8 .boolean) c_q10 .int) c_q11 .int) c_q12 .int)) (9, 3780) [(0, .ref a)] 79 []
    refine g_aload_n h2 0 dX5_init_79 rfl rfl ?_
    refine g_bipush h2 (z := 120) dX5_init_80 (by decide) ?_
    refine f_newa h2 (aty := .int) (ety := .int) (N := 120) (a0 := (120, .inl (fA (fun _ => 0)))) (fun cA => rfl) rfl lk_Mi_ac_int (by decide) (by decide) ⟨Nat.le_of_ble_eq_true rfl, Nat.le_of_ble_eq_true rfl⟩ dX5_init_82 (fun q13 c_q13 hq13 => ?_)
    have n_a_q13 : a ≠ q13 := f_ne f_a_9 hq13
    have n_q1_q13 : q1 ≠ q13 := f_ne f_q1_9 hq13
    have n_q4_q13 : q4 ≠ q13 := f_ne f_q4_9 hq13
    have n_q5_q13 : q5 ≠ q13 := f_ne f_q5_9 hq13
    have n_q6_q13 : q6 ≠ q13 := f_ne f_q6_9 hq13
    have n_q7_q13 : q7 ≠ q13 := f_ne f_q7_9 hq13
    have n_q8_q13 : q8 ≠ q13 := f_ne f_q8_9 hq13
    have n_q10_q13 : q10 ≠ q13 := f_ne f_q10_9 hq13
    have n_q11_q13 : q11 ≠ q13 := f_ne f_q11_9 hq13
    have n_q12_q13 : q12 ≠ q13 := f_ne f_q12_9 hq13
    refine f_put h2 (mp' := fU (fU m9 q13 (.inl (c_q13, 120, .inl (fA (fun _ => 0))))) a (.inr (6, [.int (iZ 0), .ref q1, .int (iZ 0), .int (iZ 0), .ref q4, .ref q5, .ref q6, .ref q7, .ref q8, .int (iZ 0), .ref q10, .ref q11, .ref q12, .ref q13, .int (iZ 0), .null, .null]))) (ci := 6) (q := (RX5, TX5, 17)) ((fU_n _ _ n_a_q13).trans f_a_9) rfl in_Mi_X5 tyX5 tyX5_ok nmX5 13 (by decide) (Nat.le_of_ble_eq_true rfl) (v := .ref q13) (vt := (.array .int)) lk_Mi_f38 (Or.inl rfl) (Or.inr ⟨rfl, h7 rfl, rfl⟩) rfl rfl rfl rfl dX5_init_84 ?_
    obtain ⟨m10, em10⟩ : ∃ m, m = fU (fU m9 q13 (.inl (c_q13, 120, .inl (fA (fun _ => 0))))) a (.inr (6, [.int (iZ 0), .ref q1, .int (iZ 0), .int (iZ 0), .ref q4, .ref q5, .ref q6, .ref q7, .ref q8, .int (iZ 0), .ref q10, .ref q11, .ref q12, .ref q13, .int (iZ 0), .null, .null])) := ⟨_, rfl⟩
    rw [← em10]
    have f_a_10 : m10 a = some (.inr (6, [.int (iZ 0), .ref q1, .int (iZ 0), .int (iZ 0), .ref q4, .ref q5, .ref q6, .ref q7, .ref q8, .int (iZ 0), .ref q10, .ref q11, .ref q12, .ref q13, .int (iZ 0), .null, .null])) := by rw [em10]; exact fU_s _ _ _
    have f_q13_10 : m10 q13 = some (.inl (c_q13, 120, .inl (fA (fun _ => 0)))) := by rw [em10]; exact (fU_n _ _ (Ne.symm n_a_q13)).trans (fU_s _ _ _)
    have f_q1_10 : m10 q1 = some (.inl (c_q1, 60, .inl (fA (fun _ => 0)))) := by rw [em10]; exact (fU_n _ _ (Ne.symm n_a_q1)).trans ((fU_n _ _ n_q1_q13).trans f_q1_9)
    have f_q4_10 : m10 q4 = some (.inl (c_q4, 2880, .inl (fA (fun _ => 0)))) := by rw [em10]; exact (fU_n _ _ (Ne.symm n_a_q4)).trans ((fU_n _ _ n_q4_q13).trans f_q4_9)
    have f_q5_10 : m10 q5 = some (.inl (c_q5, 24, .inl (fA (fun _ => 0)))) := by rw [em10]; exact (fU_n _ _ (Ne.symm n_a_q5)).trans ((fU_n _ _ n_q5_q13).trans f_q5_9)
    have f_q6_10 : m10 q6 = some (.inl (c_q6, 24, .inl (fA (fun _ => 0)))) := by rw [em10]; exact (fU_n _ _ (Ne.symm n_a_q6)).trans ((fU_n _ _ n_q6_q13).trans f_q6_9)
    have f_q7_10 : m10 q7 = some (.inl (c_q7, 24, .inl (fA (fun _ => 0)))) := by rw [em10]; exact (fU_n _ _ (Ne.symm n_a_q7)).trans ((fU_n _ _ n_q7_q13).trans f_q7_9)
    have f_q8_10 : m10 q8 = some (.inl (c_q8, 24, .inl (fA (fun _ => 0)))) := by rw [em10]; exact (fU_n _ _ (Ne.symm n_a_q8)).trans ((fU_n _ _ n_q8_q13).trans f_q8_9)
    have f_q10_10 : m10 q10 = some (.inl (c_q10, 8, .inl (fA (fun _ => 0)))) := by rw [em10]; exact (fU_n _ _ (Ne.symm n_a_q10)).trans ((fU_n _ _ n_q10_q13).trans f_q10_9)
    have f_q11_10 : m10 q11 = some (.inl (c_q11, 160, .inl (fA (fun _ => 0)))) := by rw [em10]; exact (fU_n _ _ (Ne.symm n_a_q11)).trans ((fU_n _ _ n_q11_q13).trans f_q11_9)
    have f_q12_10 : m10 q12 = some (.inl (c_q12, 576, .inl (fA (fun _ => 0)))) := by rw [em10]; exact (fU_n _ _ (Ne.symm n_a_q12)).trans ((fU_n _ _ n_q12_q13).trans f_q12_9)
    show G K (FW (m10, fY (fY (fY (fY (fY (fY (fY (fY (fY (fY ty c_q1 .int) c_q4 .int) c_q5 .int) c_q6 .int) c_q7 .int) c_q8 .boolean) c_q10 .int) c_q11 .int) c_q12 .int) c_q13 .int)) (10, 3900) [(0, .ref a)] 87 []
    refine g_aload_n h2 0 dX5_init_87 rfl rfl ?_
    refine g_bipush h2 (z := 121) dX5_init_88 (by decide) ?_
    refine f_newa h2 (aty := .int) (ety := .int) (N := 121) (a0 := (121, .inl (fA (fun _ => 0)))) (fun cA => rfl) rfl lk_Mi_ac_int (by decide) (by decide) ⟨Nat.le_of_ble_eq_true rfl, Nat.le_of_ble_eq_true rfl⟩ dX5_init_90 (fun q15 c_q15 hq15 => ?_)
    have n_a_q15 : a ≠ q15 := f_ne f_a_10 hq15
    have n_q1_q15 : q1 ≠ q15 := f_ne f_q1_10 hq15
    have n_q4_q15 : q4 ≠ q15 := f_ne f_q4_10 hq15
    have n_q5_q15 : q5 ≠ q15 := f_ne f_q5_10 hq15
    have n_q6_q15 : q6 ≠ q15 := f_ne f_q6_10 hq15
    have n_q7_q15 : q7 ≠ q15 := f_ne f_q7_10 hq15
    have n_q8_q15 : q8 ≠ q15 := f_ne f_q8_10 hq15
    have n_q10_q15 : q10 ≠ q15 := f_ne f_q10_10 hq15
    have n_q11_q15 : q11 ≠ q15 := f_ne f_q11_10 hq15
    have n_q12_q15 : q12 ≠ q15 := f_ne f_q12_10 hq15
    have n_q13_q15 : q13 ≠ q15 := f_ne f_q13_10 hq15
    refine f_put h2 (mp' := fU (fU m10 q15 (.inl (c_q15, 121, .inl (fA (fun _ => 0))))) a (.inr (6, [.int (iZ 0), .ref q1, .int (iZ 0), .int (iZ 0), .ref q4, .ref q5, .ref q6, .ref q7, .ref q8, .int (iZ 0), .ref q10, .ref q11, .ref q12, .ref q13, .int (iZ 0), .ref q15, .null]))) (ci := 6) (q := (RX5, TX5, 17)) ((fU_n _ _ n_a_q15).trans f_a_10) rfl in_Mi_X5 tyX5 tyX5_ok nmX5 15 (by decide) (Nat.le_of_ble_eq_true rfl) (v := .ref q15) (vt := (.array .int)) lk_Mi_f41 (Or.inl rfl) (Or.inr ⟨rfl, h7 rfl, rfl⟩) rfl rfl rfl rfl dX5_init_92 ?_
    obtain ⟨m11, em11⟩ : ∃ m, m = fU (fU m10 q15 (.inl (c_q15, 121, .inl (fA (fun _ => 0))))) a (.inr (6, [.int (iZ 0), .ref q1, .int (iZ 0), .int (iZ 0), .ref q4, .ref q5, .ref q6, .ref q7, .ref q8, .int (iZ 0), .ref q10, .ref q11, .ref q12, .ref q13, .int (iZ 0), .ref q15, .null])) := ⟨_, rfl⟩
    rw [← em11]
    have f_a_11 : m11 a = some (.inr (6, [.int (iZ 0), .ref q1, .int (iZ 0), .int (iZ 0), .ref q4, .ref q5, .ref q6, .ref q7, .ref q8, .int (iZ 0), .ref q10, .ref q11, .ref q12, .ref q13, .int (iZ 0), .ref q15, .null])) := by rw [em11]; exact fU_s _ _ _
    have f_q15_11 : m11 q15 = some (.inl (c_q15, 121, .inl (fA (fun _ => 0)))) := by rw [em11]; exact (fU_n _ _ (Ne.symm n_a_q15)).trans (fU_s _ _ _)
    have f_q1_11 : m11 q1 = some (.inl (c_q1, 60, .inl (fA (fun _ => 0)))) := by rw [em11]; exact (fU_n _ _ (Ne.symm n_a_q1)).trans ((fU_n _ _ n_q1_q15).trans f_q1_10)
    have f_q4_11 : m11 q4 = some (.inl (c_q4, 2880, .inl (fA (fun _ => 0)))) := by rw [em11]; exact (fU_n _ _ (Ne.symm n_a_q4)).trans ((fU_n _ _ n_q4_q15).trans f_q4_10)
    have f_q5_11 : m11 q5 = some (.inl (c_q5, 24, .inl (fA (fun _ => 0)))) := by rw [em11]; exact (fU_n _ _ (Ne.symm n_a_q5)).trans ((fU_n _ _ n_q5_q15).trans f_q5_10)
    have f_q6_11 : m11 q6 = some (.inl (c_q6, 24, .inl (fA (fun _ => 0)))) := by rw [em11]; exact (fU_n _ _ (Ne.symm n_a_q6)).trans ((fU_n _ _ n_q6_q15).trans f_q6_10)
    have f_q7_11 : m11 q7 = some (.inl (c_q7, 24, .inl (fA (fun _ => 0)))) := by rw [em11]; exact (fU_n _ _ (Ne.symm n_a_q7)).trans ((fU_n _ _ n_q7_q15).trans f_q7_10)
    have f_q8_11 : m11 q8 = some (.inl (c_q8, 24, .inl (fA (fun _ => 0)))) := by rw [em11]; exact (fU_n _ _ (Ne.symm n_a_q8)).trans ((fU_n _ _ n_q8_q15).trans f_q8_10)
    have f_q10_11 : m11 q10 = some (.inl (c_q10, 8, .inl (fA (fun _ => 0)))) := by rw [em11]; exact (fU_n _ _ (Ne.symm n_a_q10)).trans ((fU_n _ _ n_q10_q15).trans f_q10_10)
    have f_q11_11 : m11 q11 = some (.inl (c_q11, 160, .inl (fA (fun _ => 0)))) := by rw [em11]; exact (fU_n _ _ (Ne.symm n_a_q11)).trans ((fU_n _ _ n_q11_q15).trans f_q11_10)
    have f_q12_11 : m11 q12 = some (.inl (c_q12, 576, .inl (fA (fun _ => 0)))) := by rw [em11]; exact (fU_n _ _ (Ne.symm n_a_q12)).trans ((fU_n _ _ n_q12_q15).trans f_q12_10)
    have f_q13_11 : m11 q13 = some (.inl (c_q13, 120, .inl (fA (fun _ => 0)))) := by rw [em11]; exact (fU_n _ _ (Ne.symm n_a_q13)).trans ((fU_n _ _ n_q13_q15).trans f_q13_10)
    show G K (FW (m11, fY (fY (fY (fY (fY (fY (fY (fY (fY (fY (fY ty c_q1 .int) c_q4 .int) c_q5 .int) c_q6 .int) c_q7 .int) c_q8 .boolean) c_q10 .int) c_q11 .int) c_q12 .int) c_q13 .int) c_q15 .int)) (11, 4021) [(0, .ref a)] 95 []
    refine g_aload_n h2 0 dX5_init_95 rfl rfl ?_
    refine g_bipush h2 (z := 121) dX5_init_96 (by decide) ?_
    refine f_newa h2 (aty := .int) (ety := .int) (N := 121) (a0 := (121, .inl (fA (fun _ => 0)))) (fun cA => rfl) rfl lk_Mi_ac_int (by decide) (by decide) ⟨Nat.le_of_ble_eq_true rfl, Nat.le_of_ble_eq_true rfl⟩ dX5_init_98 (fun q16 c_q16 hq16 => ?_)
    have n_a_q16 : a ≠ q16 := f_ne f_a_11 hq16
    have n_q1_q16 : q1 ≠ q16 := f_ne f_q1_11 hq16
    have n_q4_q16 : q4 ≠ q16 := f_ne f_q4_11 hq16
    have n_q5_q16 : q5 ≠ q16 := f_ne f_q5_11 hq16
    have n_q6_q16 : q6 ≠ q16 := f_ne f_q6_11 hq16
    have n_q7_q16 : q7 ≠ q16 := f_ne f_q7_11 hq16
    have n_q8_q16 : q8 ≠ q16 := f_ne f_q8_11 hq16
    have n_q10_q16 : q10 ≠ q16 := f_ne f_q10_11 hq16
    have n_q11_q16 : q11 ≠ q16 := f_ne f_q11_11 hq16
    have n_q12_q16 : q12 ≠ q16 := f_ne f_q12_11 hq16
    have n_q13_q16 : q13 ≠ q16 := f_ne f_q13_11 hq16
    have n_q15_q16 : q15 ≠ q16 := f_ne f_q15_11 hq16
    refine f_put h2 (mp' := fU (fU m11 q16 (.inl (c_q16, 121, .inl (fA (fun _ => 0))))) a (.inr (6, [.int (iZ 0), .ref q1, .int (iZ 0), .int (iZ 0), .ref q4, .ref q5, .ref q6, .ref q7, .ref q8, .int (iZ 0), .ref q10, .ref q11, .ref q12, .ref q13, .int (iZ 0), .ref q15, .ref q16]))) (ci := 6) (q := (RX5, TX5, 17)) ((fU_n _ _ n_a_q16).trans f_a_11) rfl in_Mi_X5 tyX5 tyX5_ok nmX5 16 (by decide) (Nat.le_of_ble_eq_true rfl) (v := .ref q16) (vt := (.array .int)) lk_Mi_f44 (Or.inl rfl) (Or.inr ⟨rfl, h7 rfl, rfl⟩) rfl rfl rfl rfl dX5_init_100 ?_
    obtain ⟨m12, em12⟩ : ∃ m, m = fU (fU m11 q16 (.inl (c_q16, 121, .inl (fA (fun _ => 0))))) a (.inr (6, [.int (iZ 0), .ref q1, .int (iZ 0), .int (iZ 0), .ref q4, .ref q5, .ref q6, .ref q7, .ref q8, .int (iZ 0), .ref q10, .ref q11, .ref q12, .ref q13, .int (iZ 0), .ref q15, .ref q16])) := ⟨_, rfl⟩
    rw [← em12]
    have f_a_12 : m12 a = some (.inr (6, [.int (iZ 0), .ref q1, .int (iZ 0), .int (iZ 0), .ref q4, .ref q5, .ref q6, .ref q7, .ref q8, .int (iZ 0), .ref q10, .ref q11, .ref q12, .ref q13, .int (iZ 0), .ref q15, .ref q16])) := by rw [em12]; exact fU_s _ _ _
    have f_q16_12 : m12 q16 = some (.inl (c_q16, 121, .inl (fA (fun _ => 0)))) := by rw [em12]; exact (fU_n _ _ (Ne.symm n_a_q16)).trans (fU_s _ _ _)
    have f_q1_12 : m12 q1 = some (.inl (c_q1, 60, .inl (fA (fun _ => 0)))) := by rw [em12]; exact (fU_n _ _ (Ne.symm n_a_q1)).trans ((fU_n _ _ n_q1_q16).trans f_q1_11)
    have f_q4_12 : m12 q4 = some (.inl (c_q4, 2880, .inl (fA (fun _ => 0)))) := by rw [em12]; exact (fU_n _ _ (Ne.symm n_a_q4)).trans ((fU_n _ _ n_q4_q16).trans f_q4_11)
    have f_q5_12 : m12 q5 = some (.inl (c_q5, 24, .inl (fA (fun _ => 0)))) := by rw [em12]; exact (fU_n _ _ (Ne.symm n_a_q5)).trans ((fU_n _ _ n_q5_q16).trans f_q5_11)
    have f_q6_12 : m12 q6 = some (.inl (c_q6, 24, .inl (fA (fun _ => 0)))) := by rw [em12]; exact (fU_n _ _ (Ne.symm n_a_q6)).trans ((fU_n _ _ n_q6_q16).trans f_q6_11)
    have f_q7_12 : m12 q7 = some (.inl (c_q7, 24, .inl (fA (fun _ => 0)))) := by rw [em12]; exact (fU_n _ _ (Ne.symm n_a_q7)).trans ((fU_n _ _ n_q7_q16).trans f_q7_11)
    have f_q8_12 : m12 q8 = some (.inl (c_q8, 24, .inl (fA (fun _ => 0)))) := by rw [em12]; exact (fU_n _ _ (Ne.symm n_a_q8)).trans ((fU_n _ _ n_q8_q16).trans f_q8_11)
    have f_q10_12 : m12 q10 = some (.inl (c_q10, 8, .inl (fA (fun _ => 0)))) := by rw [em12]; exact (fU_n _ _ (Ne.symm n_a_q10)).trans ((fU_n _ _ n_q10_q16).trans f_q10_11)
    have f_q11_12 : m12 q11 = some (.inl (c_q11, 160, .inl (fA (fun _ => 0)))) := by rw [em12]; exact (fU_n _ _ (Ne.symm n_a_q11)).trans ((fU_n _ _ n_q11_q16).trans f_q11_11)
    have f_q12_12 : m12 q12 = some (.inl (c_q12, 576, .inl (fA (fun _ => 0)))) := by rw [em12]; exact (fU_n _ _ (Ne.symm n_a_q12)).trans ((fU_n _ _ n_q12_q16).trans f_q12_11)
    have f_q13_12 : m12 q13 = some (.inl (c_q13, 120, .inl (fA (fun _ => 0)))) := by rw [em12]; exact (fU_n _ _ (Ne.symm n_a_q13)).trans ((fU_n _ _ n_q13_q16).trans f_q13_11)
    have f_q15_12 : m12 q15 = some (.inl (c_q15, 121, .inl (fA (fun _ => 0)))) := by rw [em12]; exact (fU_n _ _ (Ne.symm n_a_q15)).trans ((fU_n _ _ n_q15_q16).trans f_q15_11)
    show G K (FW (m12, fY (fY (fY (fY (fY (fY (fY (fY (fY (fY (fY (fY ty c_q1 .int) c_q4 .int) c_q5 .int) c_q6 .int) c_q7 .int) c_q8 .boolean) c_q10 .int) c_q11 .int) c_q12 .int) c_q13 .int) c_q15 .int) c_q16 .int)) (12, 4142) [(0, .ref a)] 103 []
    have hnd : ((mws (mL a q1 q4 q5 q6 q7 q8 q10 q11 q12 q13 q15 q16) (mC c_q1 c_q4 c_q5 c_q6 c_q7 c_q8 c_q10 c_q11 c_q12 c_q13 c_q15 c_q16) (fun _ _ => 0) ++ []).map Prod.fst).Nodup := by simp [mL, n_a_q1, n_a_q4, n_q1_q4, n_a_q5, n_q1_q5, n_q4_q5, n_a_q6, n_q1_q6, n_q4_q6, n_q5_q6, n_a_q7, n_q1_q7, n_q4_q7, n_q5_q7, n_q6_q7, n_a_q8, n_q1_q8, n_q4_q8, n_q5_q8, n_q6_q8, n_q7_q8, n_a_q10, n_q1_q10, n_q4_q10, n_q5_q10, n_q6_q10, n_q7_q10, n_q8_q10, n_a_q11, n_q1_q11, n_q4_q11, n_q5_q11, n_q6_q11, n_q7_q11, n_q8_q11, n_q10_q11, n_a_q12, n_q1_q12, n_q4_q12, n_q5_q12, n_q6_q12, n_q7_q12, n_q8_q12, n_q10_q12, n_q11_q12, n_a_q13, n_q1_q13, n_q4_q13, n_q5_q13, n_q6_q13, n_q7_q13, n_q8_q13, n_q10_q13, n_q11_q13, n_q12_q13, n_a_q15, n_q1_q15, n_q4_q15, n_q5_q15, n_q6_q15, n_q7_q15, n_q8_q15, n_q10_q15, n_q11_q15, n_q12_q15, n_q13_q15, n_a_q16, n_q1_q16, n_q4_q16, n_q5_q16, n_q6_q16, n_q7_q16, n_q8_q16, n_q10_q16, n_q11_q16, n_q12_q16, n_q13_q16, n_q15_q16]
    refine f_toL (X := mws (mL a q1 q4 q5 q6 q7 q8 q10 q11 q12 q13 q15 q16) (mC c_q1 c_q4 c_q5 c_q6 c_q7 c_q8 c_q10 c_q11 c_q12 c_q13 c_q15 c_q16) (fun _ _ => 0) ++ []) (Y := mtys (mC c_q1 c_q4 c_q5 c_q6 c_q7 c_q8 c_q10 c_q11 c_q12 c_q13 c_q15 c_q16) ++ []) ?_ ?_ hnd ?_
    · intro x hx
      simp only [List.append_nil, List.mem_cons, List.not_mem_nil, or_false] at hx
      rcases hx with rfl | rfl | rfl | rfl | rfl | rfl | rfl | rfl | rfl | rfl | rfl | rfl | rfl
      · exact f_a_12
      · exact f_q1_12
      · exact f_q4_12
      · exact f_q5_12
      · exact f_q6_12
      · exact f_q7_12
      · exact f_q8_12
      · exact f_q10_12
      · exact f_q11_12
      · exact f_q12_12
      · exact f_q13_12
      · exact f_q15_12
      · exact f_q16_12
    · intro x hx
      simp only [List.append_nil, List.mem_cons, List.not_mem_nil, or_false] at hx
      rcases hx with rfl | rfl | rfl | rfl | rfl | rfl | rfl | rfl | rfl | rfl | rfl | rfl <;> simp [fY, mC]
    refine m_ctor h2 h3 (L := mL a q1 q4 q5 q6 q7 q8 q10 q11 q12 q13 q15 q16) (c := mC c_q1 c_q4 c_q5 c_q6 c_q7 c_q8 c_q10 c_q11 c_q12 c_q13 c_q15 c_q16) (n := (12, 4142)) (fun σ hσ => ?_)
    exact x_vret (u := (Sum.inl ((mL a q1 q4 q5 q6 q7 q8 q10 q11 q12 q13 q15 q16, mC c_q1 c_q4 c_q5 c_q6 c_q7 c_q8 c_q10 c_q11 c_q12 c_q13 c_q15 c_q16), σ) : VS)) h2 h4 rfl ⟨Nat.le_of_ble_eq_true rfl, Nat.le_of_ble_eq_true rfl⟩ dX5_init_127 ⟨_, _, rfl, rfl, hσ⟩)
