/-! THE METHODS THAT MAKE CELLS, from where they do -/
set_option maxRecDepth 20000 in
theorem in_aS_X2 : ∀ w ∈ wsX20, w ∈ wsX4_addScribe := by decide +kernel
set_option maxRecDepth 20000 in
theorem in_aS_X4 : ∀ w ∈ wsX40, w ∈ wsX4_addScribe := by decide +kernel
theorem lk_aS_cl107 : Cond.classLink RX4 107 RX2 ∈ wsX4_addScribe := List.mem_of_getElem? (i := 4) (by decide +kernel)
theorem lk_aS_in107 : Cond.instantiable RX2 1 ∈ wsX4_addScribe := List.mem_of_getElem? (i := 5) (by decide +kernel)
theorem lk_aS_ii107 : Cond.initialized RX2 ∈ wsX4_addScribe := List.mem_of_getElem? (i := 6) (by decide +kernel)
theorem lk_aS_im_X2_init : Cond.instanceMethod yX2_init ∈ wsX4_addScribe := List.mem_of_getElem? (i := 13) (by decide +kernel)
theorem lk_aS_ic_X2_init : Cond.initialized RX2 ∈ wsX4_addScribe := List.mem_of_getElem? (i := 6) (by decide +kernel)
theorem lk_aS_f24 : Cond.fieldLink RX4 24 "CopyHouse" "scribes" "Ljava/util/ArrayList;" ∈ wsX4_addScribe := List.mem_of_getElem? (i := 3) (by decide +kernel)
set_option maxRecDepth 100000 in
set_option maxHeartbeats 8000000 in
theorem p_X4_addScribe_1 {K : KT} {y : LT} {post : Int → US → Prop} {px : String → US → Prop} (C : C_X4_addScribe K y post px) {σ : CS} (hp : CI σ) (h8p : σ 3 0 0 0 < 8) (hpost : ∀ (y' : LT) (σ' : CS), y'.1 0 0 0 = y.1 0 0 0 → y'.2.2 = y.2.2 → CI σ' → VE (nScribe (cV σ)) (cV σ') → post (σ 3 0 0 0) (Sum.inl (y', σ'))) : P_X4_addScribe_1 K y σ := by
  obtain ⟨n, hn⟩ : ∃ n : Nat, (n : Int) = σ 3 0 0 0 := ⟨(σ 3 0 0 0).toNat, by have := hp.1.ns; omega⟩
  have e22 := hp.1.e22
  have ns := hp.1.ns
  have cp9 := hp.1.cp
  have fl := hp.1.fl
  refine c_toF (fun hW => ?_)
  refine f_new C.1 (ci := 3) (fs := [.null]) rfl in_aS_X2 tyX2 tyX2_ok lk_aS_cl107 lk_aS_in107 lk_aS_ii107 (fun j hj => by rcases j with _ | _ | _ | _ | _ | _ | _ | _ | _ | _ | _ | _ | _ | _ | _ | _ | _ | j <;> first | rfl | omega) ⟨Nat.le_of_ble_eq_true rfl, Nat.le_of_ble_eq_true rfl⟩ dX4_addScribe_26 (fun a ha => ?_)
  refine g_dup C.1 rfl dX4_addScribe_29 ?_
  refine c_callIN C.1 C.2.2.2.1 C.2.2.2.2.1 (s_X2i (fU_s _ _ _)) (fun ht => ⟨va_cnB 0 ht gX4_addScribe_X2_init_n109 rfl rfl rfl (C.2.2.2.1.2.2.2.2.2.2.2.2.2 (RX4, 109, yX2_init) (List.mem_of_getElem? (i := 2) rfl)) (ht _ lk_aS_ic_X2_init) (by decide +kernel) ⟨Nat.le_of_ble_eq_true rfl, Nat.le_of_ble_eq_true rfl⟩, rfl, ht _ lk_aS_im_X2_init⟩) rfl rfl (Nat.le_of_ble_eq_true rfl) ⟨Nat.le_of_ble_eq_true rfl, Nat.le_of_ble_eq_true rfl⟩ dX4_addScribe_30 (fun r u' hq => ?_)
  obtain ⟨l, hl, rfl, rfl⟩ := hq
  have ne := f_ne (fU_s _ _ _) hl
  have hl0 : cmF y σ l = none := (fU_n _ _ (Ne.symm ne)).symm.trans hl
  rw [fU_c _ _ _ ne, fU_fU]
  show G K (FW (fU (fU (cmF y σ) l (.inr (0, [.int (iZ 0), .ref y.2.2, .int (iZ 0)]))) a (.inr (3, [.ref l])), ctF y σ)) (2, 4) [(0, .ref ((y.1 0 0 0)))] 33 [.ref a, .ref ((y.1 4 0 0))]
  have hd4 : cDom σ 4 0 0 := ⟨rfl, rfl⟩
  have hA : (fU (fU (cmF y σ) l (.inr (0, [.int (iZ 0), .ref y.2.2, .int (iZ 0)]))) a (.inr (3, [.ref l]))) (y.1 4 0 0) = some (.inr (0, [.int (iZ (σ 16 0 0 0)), .ref (if σ 19 0 0 0 = 0 then y.2.2 else y.1 5 0 0), .int (iZ (n : Int))])) := by
    rw [fU_n _ _ (hW.ne ha hd4), fU_n _ _ (hW.ne hl0 hd4), hn]
    exact hW.1 4 0 0 hd4
  have hrow : ((σ 19 0 0 0).toNat = 0 ∧ (if σ 19 0 0 0 = 0 then y.2.2 else y.1 5 0 0) = y.2.2) ∨ (0 < (σ 19 0 0 0).toNat ∧ ∃ cR, (fU (fU (cmF y σ) l (.inr (0, [.int (iZ 0), .ref y.2.2, .int (iZ 0)]))) a (.inr (3, [.ref l]))) (if σ 19 0 0 0 = 0 then y.2.2 else y.1 5 0 0) = some (refsE cR (σ 19 0 0 0).toNat (fun k : Nat => if (k : Int) < σ 27 0 0 0 then some (y.1 13 k 0) else none)) ∧ (ctF y σ) cR tObj) := by
    by_cases hz : σ 19 0 0 0 = 0
    · exact Or.inl ⟨by omega, if_pos hz⟩
    · have hd5 : cDom σ 5 0 0 := ⟨rfl, rfl, by omega⟩
      refine Or.inr ⟨by omega, y.2.1 5 0 0, ?_, (hW.2.1 5 0 0 _ hd5 rfl)⟩
      rw [if_neg hz, fU_n _ _ (hW.ne ha hd5), fU_n _ _ (hW.ne hl0 hd5)]
      exact hW.1 5 0 0 hd5
  have hel : ∀ (i b : Nat), (fun k : Nat => if (k : Int) < σ 27 0 0 0 then some (y.1 13 k 0) else none) i = some b → ∃ vs, (fU (fU (cmF y σ) l (.inr (0, [.int (iZ 0), .ref y.2.2, .int (iZ 0)]))) a (.inr (3, [.ref l]))) b = some (.inr (3, vs)) := fun i b hb => by
    have hb2 : (if (i : Int) < σ 27 0 0 0 then some (y.1 13 i 0) else none) = some b := hb
    by_cases hi : (i : Int) < σ 27 0 0 0
    · rw [if_pos hi] at hb2
      cases hb2
      have hd6 : cDom σ 13 (i : Int) 0 := ⟨by omega, by omega, rfl⟩
      exact ⟨_, (fU_n _ _ (hW.ne ha hd6)).trans ((fU_n _ _ (hW.ne hl0 hd6)).trans ((hW.1 13 (i : Int) 0 hd6)))⟩
    · rw [if_neg hi] at hb2; cases hb2
  refine c_callV C.1 C.2.2.2.1 C.2.2.2.2.1 (s_add (s := n) (q := (RX2, TX2, 1)) hA hrow (fU_s _ _ _) (Ne.symm (hW.ne ha hd4)) ⟨by omega, by omega, by omega⟩ rfl (by decide +kernel) hel (fun k hk => if_neg (by omega)) (by decide)) (ci := 0) (q := (RJx4a65c, TJx4a65c, 3)) rfl (f_recv hA) (fun ht => cwV 1 ht gX4_addScribe_Jx4a65c_add_9ea2d rfl rfl rfl (by decide +kernel) ⟨Nat.le_of_ble_eq_true rfl, Nat.le_of_ble_eq_true rfl⟩) rfl rfl (Nat.le_of_ble_eq_true rfl) ⟨Nat.le_of_ble_eq_true rfl, Nat.le_of_ble_eq_true rfl⟩ dX4_addScribe_33 (fun r u' hq => ?_)
  obtain ⟨p, cp, M, ty', hp9, h8, h9, rfl, rfl⟩ := hq
  have hp8 : ((p = y.1 5 0 0 ∧ 0 < σ 19 0 0 0) ∨ (cmF y σ p = none ∧ p ≠ a ∧ p ≠ l)) ∧ ty' cp tObj ∧ ∀ c t, (ctF y σ) c t → ty' c t := by
    rcases hp9 with ⟨e1, e2, e3, e4, e5⟩ | ⟨e1, e2⟩
    · have hz : ¬ σ 19 0 0 0 = 0 := by omega
      have hd5 : cDom σ 5 0 0 := ⟨rfl, rfl, by omega⟩
      rw [if_neg hz] at e1 e3
      rw [fU_n _ _ (hW.ne ha hd5), fU_n _ _ (hW.ne hl0 hd5), hW.1 5 0 0 hd5] at e3
      have e6 : y.2.1 5 0 0 = cp := congrArg Prod.fst (Sum.inl.inj (Option.some.inj e3))
      refine ⟨Or.inl ⟨e1, by omega⟩, ?_, fun c t h => by rw [e5]; exact h⟩
      rw [e5, ← e6]
      exact hW.2.1 5 0 0 _ hd5 rfl
    · have x0 : p ≠ a ∧ p ≠ l := by
        refine ⟨fun x => ?_, fun x => ?_⟩
        · rw [x] at e1; simp [fU, ne, Ne.symm ne] at e1
        · rw [x] at e1; simp [fU, ne, Ne.symm ne] at e1
      refine ⟨Or.inr ⟨?_, x0⟩, by rw [e2]; exact fY_s _ _ _, fun c t h => by rw [e2]; exact fY_o h⟩
      rw [fU_n _ _ x0.1, fU_n _ _ x0.2] at e1
      exact e1
  obtain ⟨hp7, htp, ht9⟩ := hp8
  refine c_ofF (FWC_S hW ⟨e22, fl.2, ns.1⟩ hn ha hl0 ne hp7 ht9 htp (by omega)) ?_
  show G K (CL (yS y (σ 22 0 0 0) a l p cp) (sS σ M)) (3, 44) [(0, .ref ((y.1 0 0 0)))] 36 [.int (iZ 1)]
  refine g_pop C.1 rfl dX4_addScribe_36 ?_
  refine g_aload_n C.1 0 dX4_addScribe_37 rfl rfl ?_
  refine c_get C.1 (κ := 0) (i := 0) (j := 0) (ci := 5) (q := (RX4, TX4, 10)) rfl rfl in_aS_X4 3 (by decide) (v := .ref ((y.1 4 0 0))) rfl lk_aS_f24 rfl dX4_addScribe_38 ⟨rfl, rfl⟩ ?_
  refine c_callV C.1 C.2.2.2.1 C.2.2.2.2.1 (s_sizeS K.l (yS y (σ 22 0 0 0) a l p cp) (sS σ M) trivial) (ci := 0) (q := (RJx4a65c, TJx4a65c, 3)) rfl (c_recv rfl ⟨rfl, rfl⟩) (fun ht => cwV 0 ht gX4_addScribe_Jx4a65c_size_8abf5 rfl rfl rfl (by decide +kernel) ⟨Nat.le_of_ble_eq_true rfl, Nat.le_of_ble_eq_true rfl⟩) rfl rfl (Nat.le_of_ble_eq_true rfl) ⟨Nat.le_of_ble_eq_true rfl, Nat.le_of_ble_eq_true rfl⟩ dX4_addScribe_41 (fun r u' hq => ?_)
  rw [hq.1, hq.2]
  show G K (CL (yS y (σ 22 0 0 0) a l p cp) (sS σ M)) (3, 44) [(0, .ref ((y.1 0 0 0)))] 44 [.int (iZ (σ 3 0 0 0 + 1))]
  refine g_iconst C.1 (z := 1) dX4_addScribe_44 ?_
  refine g_isub C.1 (x := σ 3 0 0 0 + 1) (y := 1) dX4_addScribe_45 ?_
  rw [show σ 3 0 0 0 + 1 - 1 = σ 3 0 0 0 from by omega]
  have hI := scribe_I (M := (M : Int)) hp h8p ⟨by omega, by omega⟩
  exact y_iret (u := (Sum.inl (yS y (σ 22 0 0 0) a l p cp, sS σ M) : US)) (r := σ 3 0 0 0) C.1 C.2.2.1 rfl ⟨Nat.le_of_ble_eq_true rfl, Nat.le_of_ble_eq_true rfl⟩ dX4_addScribe_46 (hpost _ _ rfl rfl hI.1 hI.2)

set_option maxRecDepth 20000 in
theorem in_aH_X0 : ∀ w ∈ wsX00, w ∈ wsX4_addHabit := by decide +kernel
set_option maxRecDepth 20000 in
theorem in_aH_X2 : ∀ w ∈ wsX20, w ∈ wsX4_addHabit := by decide +kernel
theorem lk_aH_cl133 : Cond.classLink RX4 133 RX0 ∈ wsX4_addHabit := List.mem_of_getElem? (i := 6) (by decide +kernel)
theorem lk_aH_in133 : Cond.instantiable RX0 4 ∈ wsX4_addHabit := List.mem_of_getElem? (i := 7) (by decide +kernel)
theorem lk_aH_ii133 : Cond.initialized RX0 ∈ wsX4_addHabit := List.mem_of_getElem? (i := 8) (by decide +kernel)
theorem lk_aH_m135 : Cond.methodLink RX4 135 yX0_init ∈ wsX4_addHabit := List.mem_of_getElem? (i := 44) (by decide +kernel)
theorem lk_aH_im_X0_init : Cond.instanceMethod yX0_init ∈ wsX4_addHabit := List.mem_of_getElem? (i := 45) (by decide +kernel)
theorem lk_aH_ic_X0_init : Cond.initialized RX0 ∈ wsX4_addHabit := List.mem_of_getElem? (i := 8) (by decide +kernel)
theorem lk_aH_f128 : Cond.fieldLink RX4 128 "CopyHouse$Scribe" "habits" "Ljava/util/ArrayList;" ∈ wsX4_addHabit := List.mem_of_getElem? (i := 5) (by decide +kernel)
set_option maxRecDepth 100000 in
set_option maxHeartbeats 8000000 in
theorem p_X4_addHabit_1 {K : KT} {y : LT} {post : Int → US → Prop} {px : String → US → Prop} (C : C_X4_addHabit K y post px) {σ : CS} {kind x z nn s : Int} (hp : CI σ) (hs : 0 ≤ s ∧ s < σ 3 0 0 0) (h5 : σ 13 s 0 0 < 5) (hk : (0 ≤ kind ∧ kind ≤ 4) ∧ (0 ≤ x ∧ x ≤ 25) ∧ (0 ≤ z ∧ z ≤ 25) ∧ (1 ≤ nn ∧ nn ≤ 9)) (hpost : ∀ (y' : LT) (σ' : CS), y'.1 0 0 0 = y.1 0 0 0 → y'.2.2 = y.2.2 → CI σ' → VE (nHabit (cV σ) s kind x z nn) (cV σ') → post (σ 13 s 0 0 + 1) (Sum.inl (y', σ'))) : P_X4_addHabit_1 K y σ kind x z nn s s := by
  have c0 := hp.1.s hs.1 hs.2
  have e22 := hp.1.e22
  obtain ⟨n, hn⟩ : ∃ n : Nat, (n : Int) = σ 13 s 0 0 := ⟨(σ 13 s 0 0).toNat, by omega⟩
  obtain ⟨j0, hj⟩ : ∃ j0 : Int, (0 ≤ σ 23 s 0 0 ∧ j0 = σ 23 s 0 0) ∨ (σ 23 s 0 0 < 0 ∧ j0 = 0) := by
    by_cases h : 0 ≤ σ 23 s 0 0
    · exact ⟨_, Or.inl ⟨h, rfl⟩⟩
    · exact ⟨_, Or.inr ⟨by omega, rfl⟩⟩
  refine c_toF (fun hW => ?_)
  refine f_new C.1 (ci := 1) (fs := [.int (iZ 0), .int (iZ 0), .int (iZ 0), .int (iZ 0)]) rfl in_aH_X0 tyX0 tyX0_ok lk_aH_cl133 lk_aH_in133 lk_aH_ii133 (fun j hj => by rcases j with _ | _ | _ | _ | _ | _ | _ | _ | _ | _ | _ | _ | _ | _ | _ | _ | _ | j <;> first | rfl | omega) ⟨Nat.le_of_ble_eq_true rfl, Nat.le_of_ble_eq_true rfl⟩ dX4_addHabit_101 (fun a ha => ?_)
  refine g_dup C.1 rfl dX4_addHabit_104 ?_
  refine g_iload_n C.1 0 dX4_addHabit_105 rfl rfl ?_
  refine g_iload_n C.1 1 dX4_addHabit_106 rfl rfl ?_
  refine g_iload C.1 2 dX4_addHabit_107 rfl ?_
  refine g_iload C.1 3 dX4_addHabit_109 rfl ?_
  refine c_callI C.1 C.2.2.2.1 C.2.2.2.2.1 (s_X0i (fU_s _ _ _)) (fun ht => cwI 4 ht gX4_addHabit_X0_init rfl rfl rfl (ht _ lk_aH_ic_X0_init) (ht _ lk_aH_m135) (ht _ lk_aH_im_X0_init) rfl (by decide +kernel) ⟨Nat.le_of_ble_eq_true rfl, Nat.le_of_ble_eq_true rfl⟩) rfl rfl (Nat.le_of_ble_eq_true rfl) ⟨Nat.le_of_ble_eq_true rfl, Nat.le_of_ble_eq_true rfl⟩ dX4_addHabit_111 (fun r u' hq => ?_)
  obtain ⟨rfl, rfl⟩ := hq
  rw [fU_fU]
  show G K (FW (fU (cmF y σ) a (.inr (1, [.int (iZ kind), .int (iZ x), .int (iZ z), .int (iZ nn)])), ctF y σ)) (2, 10) [(2, .int (iZ kind)), (3, .int (iZ x)), (4, .int (iZ z)), (5, .int (iZ nn)), (6, .ref ((y.1 13 s 0)))] 114 [.ref a, .ref ((y.1 14 s 0))]
  have hd4 : cDom σ 14 s 0 := ⟨hs.1, by omega, rfl⟩
  have hA : (fU (cmF y σ) a (.inr (1, [.int (iZ kind), .int (iZ x), .int (iZ z), .int (iZ nn)]))) (y.1 14 s 0) = some (.inr (0, [.int (iZ (σ 17 s 0 0)), .ref (if σ 20 s 0 0 = 0 then y.2.2 else y.1 15 s 0), .int (iZ (n : Int))])) := by
    rw [fU_n _ _ (hW.ne ha hd4), hn]
    exact hW.1 14 s 0 hd4
  have hrow : ((σ 20 s 0 0).toNat = 0 ∧ (if σ 20 s 0 0 = 0 then y.2.2 else y.1 15 s 0) = y.2.2) ∨ (0 < (σ 20 s 0 0).toNat ∧ ∃ cR, (fU (cmF y σ) a (.inr (1, [.int (iZ kind), .int (iZ x), .int (iZ z), .int (iZ nn)]))) (if σ 20 s 0 0 = 0 then y.2.2 else y.1 15 s 0) = some (refsE cR (σ 20 s 0 0).toNat (fun k : Nat => if (k : Int) < σ 25 s 0 0 then some (y.1 16 s (σ 24 s k 0)) else none)) ∧ (ctF y σ) cR tObj) := by
    by_cases hz : σ 20 s 0 0 = 0
    · exact Or.inl ⟨by omega, if_pos hz⟩
    · have hd5 : cDom σ 15 s 0 := ⟨hs.1, by omega, rfl, by omega⟩
      refine Or.inr ⟨by omega, y.2.1 15 s 0, ?_, (hW.2.1 15 s 0 _ hd5 rfl)⟩
      rw [if_neg hz, fU_n _ _ (hW.ne ha hd5)]
      exact hW.1 15 s 0 hd5
  have hel : ∀ (i b : Nat), (fun k : Nat => if (k : Int) < σ 25 s 0 0 then some (y.1 16 s (σ 24 s k 0)) else none) i = some b → ∃ vs, (fU (cmF y σ) a (.inr (1, [.int (iZ kind), .int (iZ x), .int (iZ z), .int (iZ nn)]))) b = some (.inr (1, vs)) := fun i b hb => by
    have hb2 : (if (i : Int) < σ 25 s 0 0 then some (y.1 16 s (σ 24 s i 0)) else none) = some b := hb
    by_cases hi : (i : Int) < σ 25 s 0 0
    · rw [if_pos hi] at hb2
      cases hb2
      have hd6 : cDom σ 16 s (σ 24 s (i : Int) 0) := ⟨hs.1, by omega, (c0.2.2.2 i (by omega) (by omega)).1, (c0.2.2.2 i (by omega) (by omega)).2⟩
      exact ⟨_, (fU_n _ _ (hW.ne ha hd6)).trans ((hW.1 16 s (σ 24 s (i : Int) 0) hd6))⟩
    · rw [if_neg hi] at hb2; cases hb2
  refine c_callV C.1 C.2.2.2.1 C.2.2.2.2.1 (s_add (s := n) (q := (RX0, TX0, 4)) hA hrow (fU_s _ _ _) (Ne.symm (hW.ne ha hd4)) ⟨by omega, by omega, by omega⟩ rfl (by decide +kernel) hel (fun k hk => if_neg (by omega)) (by decide)) (ci := 0) (q := (RJx4a65c, TJx4a65c, 3)) rfl (f_recv hA) (fun ht => cwV 1 ht gX4_addHabit_Jx4a65c_add_9ea2d rfl rfl rfl (by decide +kernel) ⟨Nat.le_of_ble_eq_true rfl, Nat.le_of_ble_eq_true rfl⟩) rfl rfl (Nat.le_of_ble_eq_true rfl) ⟨Nat.le_of_ble_eq_true rfl, Nat.le_of_ble_eq_true rfl⟩ dX4_addHabit_114 (fun r u' hq => ?_)
  obtain ⟨p, cp, M, ty', hp9, h8, h9, rfl, rfl⟩ := hq
  have hp8 : ((p = y.1 15 s 0 ∧ 0 < σ 20 s 0 0) ∨ (cmF y σ p = none ∧ p ≠ a)) ∧ ty' cp tObj ∧ ∀ c t, (ctF y σ) c t → ty' c t := by
    rcases hp9 with ⟨e1, e2, e3, e4, e5⟩ | ⟨e1, e2⟩
    · have hz : ¬ σ 20 s 0 0 = 0 := by omega
      have hd5 : cDom σ 15 s 0 := ⟨hs.1, by omega, rfl, by omega⟩
      rw [if_neg hz] at e1 e3
      rw [fU_n _ _ (hW.ne ha hd5), hW.1 15 s 0 hd5] at e3
      have e6 : y.2.1 15 s 0 = cp := congrArg Prod.fst (Sum.inl.inj (Option.some.inj e3))
      refine ⟨Or.inl ⟨e1, by omega⟩, ?_, fun c t h => by rw [e5]; exact h⟩
      rw [e5, ← e6]
      exact hW.2.1 15 s 0 _ hd5 rfl
    · have x0 : p ≠ a := by
        refine fun x => ?_
        · rw [x] at e1; simp [fU] at e1
      refine ⟨Or.inr ⟨?_, x0⟩, by rw [e2]; exact fY_s _ _ _, fun c t h => by rw [e2]; exact fY_o h⟩
      rw [fU_n _ _ x0] at e1
      exact e1
  obtain ⟨hp7, htp, ht9⟩ := hp8
  refine c_ofF (FWC_H (kind := kind) (x := x) (z := z) (nn := nn) (j0 := j0) hW ⟨hs.1, by omega⟩ hj ⟨c0.2.1.2.2, c0.2.2.2⟩ hn ha hp7 ht9 htp (by omega)) ?_
  show G K (CL (yH y s j0 a p cp) (sH σ s j0 kind x z nn M)) (3, 50) [(2, .int (iZ kind)), (3, .int (iZ x)), (4, .int (iZ z)), (5, .int (iZ nn)), (6, .ref ((y.1 13 s 0)))] 117 [.int (iZ 1)]
  refine g_pop C.1 rfl dX4_addHabit_117 ?_
  refine g_aload C.1 4 dX4_addHabit_118 rfl ?_
  refine c_get C.1 (κ := 13) (i := s) (j := 0) (ci := 3) (q := (RX2, TX2, 1)) rfl rfl in_aH_X2 0 (by decide) (v := .ref ((y.1 14 s 0))) rfl lk_aH_f128 rfl dX4_addHabit_120 ⟨hs.1, by show s < σ 22 0 0 0; omega, rfl⟩ ?_
  refine c_callV C.1 C.2.2.2.1 C.2.2.2.2.1 (s_sizeH K.l (yH y s j0 a p cp) (sH σ s j0 kind x z nn M) s ⟨hs.1, by show s < σ 22 0 0 0; omega⟩) (ci := 0) (q := (RJx4a65c, TJx4a65c, 3)) rfl (c_recv (κ := 14) (i := s) (j := 0) rfl ⟨hs.1, by show s < σ 22 0 0 0; omega, rfl⟩) (fun ht => cwV 0 ht gX4_addHabit_Jx4a65c_size_8abf5 rfl rfl rfl (by decide +kernel) ⟨Nat.le_of_ble_eq_true rfl, Nat.le_of_ble_eq_true rfl⟩) rfl rfl (Nat.le_of_ble_eq_true rfl) ⟨Nat.le_of_ble_eq_true rfl, Nat.le_of_ble_eq_true rfl⟩ dX4_addHabit_123 (fun r u' hq => ?_)
  rw [hq.1, hq.2]
  show G K (CL (yH y s j0 a p cp) (sH σ s j0 kind x z nn M)) (3, 50) [(2, .int (iZ kind)), (3, .int (iZ x)), (4, .int (iZ z)), (5, .int (iZ nn)), (6, .ref ((y.1 13 s 0)))] 126 [.int (iZ (sH σ s j0 kind x z nn M 13 s 0 0))]
  rw [show sH σ s j0 kind x z nn M 13 s 0 0 = σ 13 s 0 0 + 1 from if_pos rfl]
  show G K (CL (yH y s j0 a p cp) (sH σ s j0 kind x z nn M)) (3, 50) [(2, .int (iZ kind)), (3, .int (iZ x)), (4, .int (iZ z)), (5, .int (iZ nn)), (6, .ref ((y.1 13 s 0)))] 126 [.int (iZ (σ 13 s 0 0 + 1))]
  have hI := habit_I (M := (M : Int)) hp hs h5 hj hk ⟨by omega, by omega⟩
  exact y_iret (u := (Sum.inl (yH y s j0 a p cp, sH σ s j0 kind x z nn M) : US)) (r := σ 13 s 0 0 + 1) C.1 C.2.2.1 rfl ⟨Nat.le_of_ble_eq_true rfl, Nat.le_of_ble_eq_true rfl⟩ dX4_addHabit_126 (hpost _ _ rfl rfl hI.1 hI.2)

set_option maxRecDepth 20000 in
theorem in_dH_X2 : ∀ w ∈ wsX20, w ∈ wsX4_dropHabit := by decide +kernel
theorem lk_dH_f128 : Cond.fieldLink RX4 128 "CopyHouse$Scribe" "habits" "Ljava/util/ArrayList;" ∈ wsX4_dropHabit := List.mem_of_getElem? (i := 3) (by decide +kernel)
set_option maxRecDepth 100000 in
set_option maxHeartbeats 8000000 in
theorem p_X4_dropHabit_1 {K : KT} {y : LT} {post : Int → US → Prop} {px : String → US → Prop} (C : C_X4_dropHabit K y post px) {σ : CS} {s hh : Int} (hp : CI σ) (hs : 0 ≤ s ∧ s < σ 3 0 0 0) (h5 : 0 ≤ hh ∧ hh < σ 13 s 0 0) (hpost : ∀ σ' : CS, CI σ' → VE (nDrop (cV σ) s hh) (cV σ') → post (σ 13 s 0 0 - 1) (Sum.inl (y, σ'))) : P_X4_dropHabit_1 K y σ s hh s := by
  obtain ⟨hn, rfl⟩ : ∃ k : Nat, hh = (k : Int) := ⟨hh.toNat, by omega⟩
  have c0 := hp.1.s hs.1 hs.2
  have e22 := hp.1.e22
  obtain ⟨n, hn9⟩ : ∃ n : Nat, (n : Int) = σ 13 s 0 0 := ⟨(σ 13 s 0 0).toNat, by omega⟩
  refine c_toF (fun hW => ?_)
  have hd4 : cDom σ 14 s 0 := ⟨hs.1, by omega, rfl⟩
  have hd5 : cDom σ 15 s 0 := ⟨hs.1, by omega, rfl, by omega⟩
  have hA : cmF y σ (y.1 14 s 0) = some (.inr (0, [.int (iZ (σ 17 s 0 0)), .ref (y.1 15 s 0), .int (iZ (n : Int))])) := by
    rw [hn9, hW.1 14 s 0 hd4]
    show some (Sum.inr (0, [.int (iZ (σ 17 s 0 0)), .ref (if σ 20 s 0 0 = 0 then y.2.2 else y.1 15 s 0), .int (iZ (σ 13 s 0 0))]) : va_E) = _
    rw [if_neg (by omega)]
  have hel : ∀ (i b : Nat), (fun k : Nat => if (k : Int) < σ 25 s 0 0 then some (y.1 16 s (σ 24 s k 0)) else none) i = some b → ∃ vs, cmF y σ b = some (.inr (1, vs)) := fun i b hb => by
    have hb2 : (if (i : Int) < σ 25 s 0 0 then some (y.1 16 s (σ 24 s i 0)) else none) = some b := hb
    by_cases hi : (i : Int) < σ 25 s 0 0
    · rw [if_pos hi] at hb2
      cases hb2
      exact ⟨_, hW.1 16 s (σ 24 s (i : Int) 0) ⟨hs.1, by omega, (c0.2.2.2 i (by omega) (by omega)).1, (c0.2.2.2 i (by omega) (by omega)).2⟩⟩
    · rw [if_neg hi] at hb2; cases hb2
  refine c_callV C.1 C.2.2.2.1 C.2.2.2.2.1 (s_rmv (s := n) (h := hn) (N := (σ 20 s 0 0).toNat) (q := (RX0, TX0, 4)) hA (hW.1 15 s 0 hd5) (hW.2.1 15 s 0 _ hd5 rfl) (by omega) ⟨by omega, by omega⟩ rfl (by decide +kernel) (by decide) hel (fun k hk => if_neg (by omega)) (b := y.1 16 s (σ 24 s (hn : Int) 0)) (if_pos (by show ((hn : Nat) : Int) < σ 25 s 0 0; omega))) (ci := 0) (q := (RJx4a65c, TJx4a65c, 3)) rfl (f_recv hA) (fun ht => cwV 1 ht gX4_dropHabit_Jx4a65c_remove_915e3 rfl rfl rfl (by decide +kernel) ⟨Nat.le_of_ble_eq_true rfl, Nat.le_of_ble_eq_true rfl⟩) rfl rfl (Nat.le_of_ble_eq_true rfl) ⟨Nat.le_of_ble_eq_true rfl, Nat.le_of_ble_eq_true rfl⟩ dX4_dropHabit_36 (fun r u' hq => ?_)
  obtain ⟨rfl, rfl⟩ := hq
  refine c_ofF (FWC_D hW ⟨hs.1, by omega⟩ ⟨hn9, c0.2.1.2.2, by omega⟩ (by omega)) ?_
  show G K (CL y (sD σ s hn)) (1, 6) [(3, .ref ((y.1 13 s 0)))] 39 [.ref ((y.1 16 s (σ 24 s (hn : Int) 0)))]
  refine g_pop C.1 rfl dX4_dropHabit_39 ?_
  refine g_aload_n C.1 0 dX4_dropHabit_40 rfl rfl ?_
  refine c_get C.1 (κ := 13) (i := s) (j := 0) (ci := 3) (q := (RX2, TX2, 1)) rfl rfl in_dH_X2 0 (by decide) (v := .ref ((y.1 14 s 0))) rfl lk_dH_f128 rfl dX4_dropHabit_41 ⟨hs.1, by show s < σ 22 0 0 0; omega, rfl⟩ ?_
  refine c_callV C.1 C.2.2.2.1 C.2.2.2.2.1 (s_sizeH K.l y (sD σ s hn) s ⟨hs.1, by show s < σ 22 0 0 0; omega⟩) (ci := 0) (q := (RJx4a65c, TJx4a65c, 3)) rfl (c_recv (κ := 14) (i := s) (j := 0) rfl ⟨hs.1, by show s < σ 22 0 0 0; omega, rfl⟩) (fun ht => cwV 0 ht gX4_dropHabit_Jx4a65c_size_8abf5 rfl rfl rfl (by decide +kernel) ⟨Nat.le_of_ble_eq_true rfl, Nat.le_of_ble_eq_true rfl⟩) rfl rfl (Nat.le_of_ble_eq_true rfl) ⟨Nat.le_of_ble_eq_true rfl, Nat.le_of_ble_eq_true rfl⟩ dX4_dropHabit_44 (fun r u' hq => ?_)
  rw [hq.1, hq.2]
  show G K (CL y (sD σ s hn)) (1, 6) [(3, .ref ((y.1 13 s 0)))] 47 [.int (iZ (sD σ s hn 13 s 0 0))]
  rw [show sD σ s hn 13 s 0 0 = σ 13 s 0 0 - 1 from if_pos rfl]
  show G K (CL y (sD σ s hn)) (1, 6) [(3, .ref ((y.1 13 s 0)))] 47 [.int (iZ (σ 13 s 0 0 - 1))]
  have hI := drop_I hp hs (hh := (hn : Int)) ⟨by omega, by omega⟩
  exact y_iret (u := (Sum.inl (y, sD σ s hn) : US)) (r := σ 13 s 0 0 - 1) C.1 C.2.2.1 rfl ⟨Nat.le_of_ble_eq_true rfl, Nat.le_of_ble_eq_true rfl⟩ dX4_dropHabit_47 (hpost _ hI.1 hI.2)

abbrev rm_kD : Room := { frames := 7, cells := 4, slots := 168, locals := 191 }
set_option maxRecDepth 20000 in
theorem in_kD_X4 : ∀ w ∈ wsX40, w ∈ wsX4_keepDraft := by decide +kernel
set_option maxRecDepth 20000 in
theorem in_kD_X1 : ∀ w ∈ wsX10, w ∈ wsX4_keepDraft := by decide +kernel
theorem lk_kD_f20 : Cond.fieldLink RX4 20 "CopyHouse" "manuscripts" "Ljava/util/ArrayList;" ∈ wsX4_keepDraft := List.mem_of_getElem? (i := 1) (by decide +kernel)
theorem lk_kD_cl89 : Cond.classLink RX4 89 RX1 ∈ wsX4_keepDraft := List.mem_of_getElem? (i := 2) (by decide +kernel)
theorem lk_kD_in89 : Cond.instantiable RX1 6 ∈ wsX4_keepDraft := List.mem_of_getElem? (i := 3) (by decide +kernel)
theorem lk_kD_ii89 : Cond.initialized RX1 ∈ wsX4_keepDraft := List.mem_of_getElem? (i := 4) (by decide +kernel)
theorem lk_kD_f35 : Cond.fieldLink RX4 35 "CopyHouse" "draft" "LCopyHouse$Text;" ∈ wsX4_keepDraft := List.mem_of_getElem? (i := 5) (by decide +kernel)
theorem lk_kD_m271 : Cond.methodLink RX4 271 yX1_init ∈ wsX4_keepDraft := List.mem_of_getElem? (i := 12) (by decide +kernel)
theorem lk_kD_im_X1_init : Cond.instanceMethod yX1_init ∈ wsX4_keepDraft := List.mem_of_getElem? (i := 13) (by decide +kernel)
theorem lk_kD_ic_X1_init : Cond.initialized RX1 ∈ wsX4_keepDraft := List.mem_of_getElem? (i := 4) (by decide +kernel)
set_option maxRecDepth 100000 in
set_option maxHeartbeats 4000000 in
theorem s_kD {l : Launch} {y : LT} {σ : CS} {ex sc : Int} (hp : CI σ) (hn24 : σ 2 0 0 0 < 24) (hex : -1 ≤ ex ∧ ex < σ 2 0 0 0) (hsc : -1 ≤ sc ∧ sc ≤ 7) : cMet l yX4_keepDraft wsX4_keepDraft rm_kD y.2.2 UW rkI [.ref (y.1 0 0 0), vM y ex, .int (iZ sc)] (Sum.inl (y, σ)) (fun r u' => ∃ (y' : LT) (σ' : CS), u' = Sum.inl (y', σ') ∧ y'.1 0 0 0 = y.1 0 0 0 ∧ y'.2.2 = y.2.2 ∧ CI σ' ∧ r = σ 2 0 0 0 ∧ VE (nKeep (cV σ) (tW σ 0) ex sc) (cV σ')) :=
  cMet.of (maxL := 4) (by decide +kernel) rfl (by simp [lg_sl, List.flatMap, vM_cat, cat_i, cat_r, cat_l]) (fun K h1 h2 h3 h4 h5 h6 h7 => by
    suffices hk : G K (CL y σ) (0, 0) [(0, .ref ((y.1 0 0 0))), (1, vM y ex), (2, .int (iZ sc))] 0 [] by
      simp only [lv_args, vM_cat, cat_i, cat_r, cat_l]
      exact hk
    obtain ⟨n, hn⟩ : ∃ n : Nat, (n : Int) = σ 2 0 0 0 := ⟨(σ 2 0 0 0).toNat, by have := hp.1.n; omega⟩
    have e21 := hp.1.e21
    have n0 := hp.1.n
    have cp9 := hp.1.cp
    have fl := hp.1.fl
    have w0 : okW (tW σ 0) := hp.2.1 0 (by decide) (by omega)
    have w0l : 0 ≤ σ 5 0 0 0 ∧ σ 5 0 0 0 ≤ 120 := w0.1
    refine g_aload_n h2 0 dX4_keepDraft_0 rfl rfl ?_
    refine c_get h2 (κ := 0) (i := 0) (j := 0) (ci := 5) (q := (RX4, TX4, 10)) rfl rfl in_kD_X4 2 (by decide) (v := .ref ((y.1 2 0 0))) rfl lk_kD_f20 rfl dX4_keepDraft_1 ⟨rfl, rfl⟩ ?_
    refine c_callV h2 h5 h6 (s_sizeM K.l y σ trivial) (ci := 0) (q := (RJx4a65c, TJx4a65c, 3)) rfl (c_recv rfl ⟨rfl, rfl⟩) (fun ht => cwV 0 ht gX4_keepDraft_Jx4a65c_size_8abf5 rfl rfl rfl (by decide +kernel) ⟨Nat.le_of_ble_eq_true rfl, Nat.le_of_ble_eq_true rfl⟩) rfl rfl (Nat.le_of_ble_eq_true rfl) ⟨Nat.le_of_ble_eq_true rfl, Nat.le_of_ble_eq_true rfl⟩ dX4_keepDraft_4 (fun r u' hq => ?_)
    rw [hq.1, hq.2]
    show G K (CL y σ) (0, 0) [(0, .ref ((y.1 0 0 0))), (1, vM y ex), (2, .int (iZ sc))] 7 [.int (iZ (σ 2 0 0 0))]
    rw [← hn]
    show G K (CL y σ) (0, 0) [(0, .ref ((y.1 0 0 0))), (1, vM y ex), (2, .int (iZ sc))] 7 [.int (iZ ((n : Int)))]
    refine g_istore_n h2 (i := 3) (loc' := [(3, .int (iZ (n : Int))), (0, .ref (y.1 0 0 0)), (1, vM y ex), (2, .int (iZ sc))]) h3 dX4_keepDraft_7 rfl (by decide) (by simp [vM_cat, cat_i, cat_r, cat_l]) ?_
    refine g_aload_n h2 1 dX4_keepDraft_8 rfl rfl ?_
    refine c_get h2 (κ := 0) (i := 0) (j := 0) (ci := 5) (q := (RX4, TX4, 10)) rfl rfl in_kD_X4 2 (by decide) (v := .ref ((y.1 2 0 0))) rfl lk_kD_f20 rfl dX4_keepDraft_9 ⟨rfl, rfl⟩ ?_
    refine c_toF (fun hW => ?_)
    refine f_new h2 (ci := 2) (fs := [.int (iZ 0), .null, .int (iZ 0), .int (iZ 0), .null, .int (iZ 0)]) rfl in_kD_X1 tyX1 tyX1_ok lk_kD_cl89 lk_kD_in89 lk_kD_ii89 (fun j hj => by rcases j with _ | _ | _ | _ | _ | _ | _ | _ | _ | _ | _ | _ | _ | _ | _ | _ | _ | j <;> first | rfl | omega) ⟨Nat.le_of_ble_eq_true rfl, Nat.le_of_ble_eq_true rfl⟩ dX4_keepDraft_12 (fun a ha => ?_)
    refine g_dup h2 rfl dX4_keepDraft_15 ?_
    refine g_iload_n h2 0 dX4_keepDraft_16 rfl rfl ?_
    refine g_aloadM_n h2 2 dX4_keepDraft_17 rfl rfl ?_
    refine g_iload_n h2 3 dX4_keepDraft_18 rfl rfl ?_
    refine g_aload_n h2 1 dX4_keepDraft_19 rfl rfl ?_
    have d8 : cDom σ 8 0 0 := ⟨by decide, by omega, rfl⟩
    have d9 : cDom σ 9 0 0 := ⟨by decide, by omega, rfl⟩
    have d0 : cDom σ 0 0 0 := ⟨rfl, rfl⟩
    refine f_get h2 (ci := 5) (q := (RX4, TX4, 10)) ((fU_n _ _ (hW.ne ha d0)).trans (hW.1 0 0 0 d0)) rfl in_kD_X4 5 (by decide) (v := .ref ((y.1 8 0 0))) rfl lk_kD_f35 (Or.inl rfl) dX4_keepDraft_20 ?_
    refine c_callI h2 h5 h6 (s_X1i (y := y) (nu := (n : Int)) (ex := ex) (sc := sc) (gx := σ 11 ex 0 0) (len := σ 5 0 0 0) (f := fun p => σ 6 0 p 0) (e0 := .int (iZ ex)) (e1 := vM y (σ 9 ex 0 0)) (e2 := .int (iZ (σ 10 ex 0 0))) (e4 := .ref (y.1 8 (ex + 3) 0)) (e5 := .int (iZ (σ 12 ex 0 0))) (fU_s _ _ _) ((fU_n _ _ (hW.ne ha d8)).trans (hW.1 8 0 0 d8)) ((fU_n _ _ (hW.ne ha d9)).trans (hW.1 9 0 0 d9)) (hW.2.1 9 0 0 _ d9 rfl) (hW.ne ha d8) w0l (fun j j0 j1 => by have := w0.2 j j0 j1; have : 97 ≤ σ 6 0 j 0 ∧ σ 6 0 j 0 ≤ 122 := this; show -128 ≤ σ 6 0 j 0 ∧ σ 6 0 j 0 < 128; omega) (fun hc => (fU_n _ _ (hW.ne ha (κ := 12) (i := ex) (j := 0) ⟨by omega, by omega, rfl⟩)).trans (hW.1 12 ex 0 ⟨by omega, by omega, rfl⟩)) (fun hc => hW.ne ha (κ := 12) (i := ex) (j := 0) ⟨by omega, by omega, rfl⟩)) (fun ht => cwI 4 ht gX4_keepDraft_X1_init rfl rfl rfl (ht _ lk_kD_ic_X1_init) (ht _ lk_kD_m271) (ht _ lk_kD_im_X1_init) rfl (by decide +kernel) ⟨Nat.le_of_ble_eq_true rfl, Nat.le_of_ble_eq_true rfl⟩) rfl rfl (Nat.le_of_ble_eq_true rfl) ⟨Nat.le_of_ble_eq_true rfl, Nat.le_of_ble_eq_true rfl⟩ dX4_keepDraft_23 (fun r u' hq => ?_)
    obtain ⟨t, tl, ct, ht, htl, n3, rfl, rfl⟩ := hq
    have n1 := f_ne (fU_s _ _ _) ht
    have n2 := f_ne (fU_s _ _ _) htl
    have ht0 : cmF y σ t = none := (fU_n _ _ (Ne.symm n1)).symm.trans ht
    have htl0 : cmF y σ tl = none := (fU_n _ _ (Ne.symm n2)).symm.trans htl
    rw [fU_c (cmF y σ) _ _ n2, fU_c _ _ _ n1, fU_fU]
    show G K (FW (fU (fU (fU (cmF y σ) tl (.inl (ct, 120, .inl (fA (cpI (fun p => σ 6 0 p 0) (fun _ => 0) 0 0 (σ 5 0 0 0)))))) t (.inr (4, [.ref tl, .int (iZ (σ 5 0 0 0))]))) a (.inr (2, [.int (iZ (n : Int)), vM y ex, .int (iZ sc), .int (iZ (if ex < 0 then 0 else σ 11 ex 0 0 + 1)), .ref t, .int (iZ 1)])), fY (ctF y σ) ct .byte)) (3, 128) [(3, .int (iZ ((n : Int)))), (0, .ref ((y.1 0 0 0))), (1, vM y ex), (2, .int (iZ sc))] 26 [.ref a, .ref ((y.1 2 0 0))]
    have hd4 : cDom σ 2 0 0 := ⟨rfl, rfl⟩
    have hA : (fU (fU (fU (cmF y σ) tl (.inl (ct, 120, .inl (fA (cpI (fun p => σ 6 0 p 0) (fun _ => 0) 0 0 (σ 5 0 0 0)))))) t (.inr (4, [.ref tl, .int (iZ (σ 5 0 0 0))]))) a (.inr (2, [.int (iZ (n : Int)), vM y ex, .int (iZ sc), .int (iZ (if ex < 0 then 0 else σ 11 ex 0 0 + 1)), .ref t, .int (iZ 1)]))) (y.1 2 0 0) = some (.inr (0, [.int (iZ (σ 15 0 0 0)), .ref (if σ 18 0 0 0 = 0 then y.2.2 else y.1 3 0 0), .int (iZ (n : Int))])) := by
      rw [fU_n _ _ (hW.ne ha hd4), fU_n _ _ (hW.ne ht0 hd4), fU_n _ _ (hW.ne htl0 hd4), hn]
      exact hW.1 2 0 0 hd4
    have hrow : ((σ 18 0 0 0).toNat = 0 ∧ (if σ 18 0 0 0 = 0 then y.2.2 else y.1 3 0 0) = y.2.2) ∨ (0 < (σ 18 0 0 0).toNat ∧ ∃ cR, (fU (fU (fU (cmF y σ) tl (.inl (ct, 120, .inl (fA (cpI (fun p => σ 6 0 p 0) (fun _ => 0) 0 0 (σ 5 0 0 0)))))) t (.inr (4, [.ref tl, .int (iZ (σ 5 0 0 0))]))) a (.inr (2, [.int (iZ (n : Int)), vM y ex, .int (iZ sc), .int (iZ (if ex < 0 then 0 else σ 11 ex 0 0 + 1)), .ref t, .int (iZ 1)]))) (if σ 18 0 0 0 = 0 then y.2.2 else y.1 3 0 0) = some (refsE cR (σ 18 0 0 0).toNat (fun k : Nat => if (k : Int) < σ 26 0 0 0 then some (y.1 12 k 0) else none)) ∧ (fY (ctF y σ) ct .byte) cR tObj) := by
      by_cases hz : σ 18 0 0 0 = 0
      · exact Or.inl ⟨by omega, if_pos hz⟩
      · have hd5 : cDom σ 3 0 0 := ⟨rfl, rfl, by omega⟩
        refine Or.inr ⟨by omega, y.2.1 3 0 0, ?_, fY_o (hW.2.1 3 0 0 _ hd5 rfl)⟩
        rw [if_neg hz, fU_n _ _ (hW.ne ha hd5), fU_n _ _ (hW.ne ht0 hd5), fU_n _ _ (hW.ne htl0 hd5)]
        exact hW.1 3 0 0 hd5
    have hel : ∀ (i b : Nat), (fun k : Nat => if (k : Int) < σ 26 0 0 0 then some (y.1 12 k 0) else none) i = some b → ∃ vs, (fU (fU (fU (cmF y σ) tl (.inl (ct, 120, .inl (fA (cpI (fun p => σ 6 0 p 0) (fun _ => 0) 0 0 (σ 5 0 0 0)))))) t (.inr (4, [.ref tl, .int (iZ (σ 5 0 0 0))]))) a (.inr (2, [.int (iZ (n : Int)), vM y ex, .int (iZ sc), .int (iZ (if ex < 0 then 0 else σ 11 ex 0 0 + 1)), .ref t, .int (iZ 1)]))) b = some (.inr (2, vs)) := fun i b hb => by
      have hb2 : (if (i : Int) < σ 26 0 0 0 then some (y.1 12 i 0) else none) = some b := hb
      by_cases hi : (i : Int) < σ 26 0 0 0
      · rw [if_pos hi] at hb2
        cases hb2
        have hd6 : cDom σ 12 (i : Int) 0 := ⟨by omega, by omega, rfl⟩
        exact ⟨_, (fU_n _ _ (hW.ne ha hd6)).trans ((fU_n _ _ (hW.ne ht0 hd6)).trans ((fU_n _ _ (hW.ne htl0 hd6)).trans ((hW.1 12 (i : Int) 0 hd6))))⟩
      · rw [if_neg hi] at hb2; cases hb2
    refine c_callV h2 h5 h6 (s_add (s := n) (q := (RX1, TX1, 6)) hA hrow (fU_s _ _ _) (Ne.symm (hW.ne ha hd4)) ⟨by omega, by omega, by omega⟩ rfl (by decide +kernel) hel (fun k hk => if_neg (by omega)) (by decide)) (ci := 0) (q := (RJx4a65c, TJx4a65c, 3)) rfl (f_recv hA) (fun ht => cwV 1 ht gX4_keepDraft_Jx4a65c_add_9ea2d rfl rfl rfl (by decide +kernel) ⟨Nat.le_of_ble_eq_true rfl, Nat.le_of_ble_eq_true rfl⟩) rfl rfl (Nat.le_of_ble_eq_true rfl) ⟨Nat.le_of_ble_eq_true rfl, Nat.le_of_ble_eq_true rfl⟩ dX4_keepDraft_26 (fun r u' hq => ?_)
    obtain ⟨p, cp, M, ty', hp9, h8, h9, rfl, rfl⟩ := hq
    have hp8 : ((p = y.1 3 0 0 ∧ 0 < σ 18 0 0 0) ∨ (cmF y σ p = none ∧ p ≠ a ∧ p ≠ t ∧ p ≠ tl)) ∧ ty' cp tObj ∧ ∀ c t, (fY (ctF y σ) ct .byte) c t → ty' c t := by
      rcases hp9 with ⟨e1, e2, e3, e4, e5⟩ | ⟨e1, e2⟩
      · have hz : ¬ σ 18 0 0 0 = 0 := by omega
        have hd5 : cDom σ 3 0 0 := ⟨rfl, rfl, by omega⟩
        rw [if_neg hz] at e1 e3
        rw [fU_n _ _ (hW.ne ha hd5), fU_n _ _ (hW.ne ht0 hd5), fU_n _ _ (hW.ne htl0 hd5), hW.1 3 0 0 hd5] at e3
        have e6 : y.2.1 3 0 0 = cp := congrArg Prod.fst (Sum.inl.inj (Option.some.inj e3))
        refine ⟨Or.inl ⟨e1, by omega⟩, ?_, fun c t h => by rw [e5]; exact h⟩
        rw [e5, ← e6]
        exact fY_o (hW.2.1 3 0 0 _ hd5 rfl)
      · have x0 : p ≠ a ∧ p ≠ t ∧ p ≠ tl := by
          refine ⟨fun x => ?_, fun x => ?_, fun x => ?_⟩
          · rw [x] at e1; simp [fU, n1, Ne.symm n1, n2, Ne.symm n2, n3, Ne.symm n3] at e1
          · rw [x] at e1; simp [fU, n1, Ne.symm n1, n2, Ne.symm n2, n3, Ne.symm n3] at e1
          · rw [x] at e1; simp [fU, n1, Ne.symm n1, n2, Ne.symm n2, n3, Ne.symm n3] at e1
        refine ⟨Or.inr ⟨?_, x0⟩, by rw [e2]; exact fY_s _ _ _, fun c t h => by rw [e2]; exact fY_o h⟩
        rw [fU_n _ _ x0.1, fU_n _ _ x0.2.1, fU_n _ _ x0.2.2] at e1
        exact e1
    obtain ⟨hp7, htp, ht9⟩ := hp8
    refine c_ofF (FWC_M (g := (if ex < 0 then 0 else σ 11 ex 0 0 + 1)) (len := σ 5 0 0 0) (L := (cpI (fun p => σ 6 0 p 0) (fun _ => 0) 0 0 (σ 5 0 0 0))) (sc := sc) hW ⟨e21, fl.1, n0.1⟩ hex.2 (fun i i0 i1 => (hp.1.ex1 i0 i1).2) hn ha ht0 htl0 n1 n2 n3 hp7 (fun c t h => ht9 c t (fY_o h)) htp (ht9 _ _ (fY_s _ _ _)) (by omega)) ?_
    show G K (CL (yM y (σ 21 0 0 0) a t tl p ct cp) (sM σ ex sc (if ex < 0 then 0 else σ 11 ex 0 0 + 1) (σ 5 0 0 0) (cpI (fun p => σ 6 0 p 0) (fun _ => 0) 0 0 (σ 5 0 0 0)) M)) (4, 168) [(3, .int (iZ ((n : Int)))), (0, .ref ((y.1 0 0 0))), (1, vM y ex), (2, .int (iZ sc))] 29 [.int (iZ 1)]
    refine g_pop h2 rfl dX4_keepDraft_29 ?_
    refine g_aload_n h2 1 dX4_keepDraft_30 rfl rfl ?_
    refine g_iload_n h2 0 dX4_keepDraft_31 rfl rfl ?_
    refine c_callV h2 h5 h6 (s_X4_forgetMeasures K.l (yM y (σ 21 0 0 0) a t tl p ct cp) (sM σ ex sc (if ex < 0 then 0 else σ 11 ex 0 0 + 1) (σ 5 0 0 0) (cpI (fun p => σ 6 0 p 0) (fun _ => 0) 0 0 (σ 5 0 0 0)) M) (n : Int) ⟨by omega, by omega⟩) (ci := 5) (q := (RX4, TX4, 10)) rfl (c_recv (κ := 0) (i := 0) (j := 0) rfl ⟨rfl, rfl⟩) (fun ht => cwV 1 ht gX4_keepDraft_X4_forgetMeasures rfl rfl rfl (by decide +kernel) ⟨Nat.le_of_ble_eq_true rfl, Nat.le_of_ble_eq_true rfl⟩) rfl rfl (Nat.le_of_ble_eq_true rfl) ⟨Nat.le_of_ble_eq_true rfl, Nat.le_of_ble_eq_true rfl⟩ dX4_keepDraft_32 (fun r u' hq => ?_)
    obtain ⟨q1, q2⟩ := hq
    show G K (CL (yM y (σ 21 0 0 0) a t tl p ct cp) u') (4, 168) [(3, .int (iZ ((n : Int)))), (0, .ref ((y.1 0 0 0))), (1, vM y ex), (2, .int (iZ sc))] 35 []
    refine g_iload_n h2 0 dX4_keepDraft_35 rfl rfl ?_
    have hI := keep_I (τ := u') (M := (M : Int)) hp hn24 hex hsc ⟨by omega, by omega⟩ (fun c hc => q1 c hc) (fun a b a0 a1 b0 b1 => by rw [q2 a b a0 a1 b0 b1, hn]; rfl)
    exact x_iret (u := (Sum.inl ((yM y (σ 21 0 0 0) a t tl p ct cp), u') : US)) (r := (n : Int)) h2 h4 rfl ⟨Nat.le_of_ble_eq_true rfl, Nat.le_of_ble_eq_true rfl⟩ dX4_keepDraft_36 ⟨_, _, rfl, rfl, rfl, hI.1, hn, hI.2⟩)
