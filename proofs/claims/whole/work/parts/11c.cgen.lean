/-! X4_sameAhead -/
abbrev rm_X4_sameAhead : Room := { frames := 1, cells := 0, slots := 0, locals := 40 }
set_option maxRecDepth 20000 in
theorem inX4_sameAhead_X3 : ∀ w ∈ wsX30, w ∈ wsX4_sameAhead := by decide +kernel
theorem lk_X4_sameAhead_f93 : Cond.fieldLink RX4 93 "CopyHouse$Text" "length" "I" ∈ wsX4_sameAhead := List.mem_of_getElem? (i := 1) (by decide +kernel)
theorem lk_X4_sameAhead_mm323 : Cond.methodLink RX4 323 Lib.Math.min.name ∈ wsX4_sameAhead := List.mem_of_getElem? (i := 2) (by decide +kernel)
theorem lk_X4_sameAhead_ms323 : Cond.static Lib.Math.min.name ∈ wsX4_sameAhead := List.mem_of_getElem? (i := 3) (by decide +kernel)
theorem lk_X4_sameAhead_mi323 : Cond.initialized "java/lang/Math" ∈ wsX4_sameAhead := List.mem_of_getElem? (i := 4) (by decide +kernel)
theorem lk_X4_sameAhead_mc323 : Cond.code Lib.Math.min.name Lib.Math.min.code 2 (some .int) ∈ wsX4_sameAhead := List.mem_of_getElem? (i := 5) (by decide +kernel)
theorem lk_X4_sameAhead_f101 : Cond.fieldLink RX4 101 "CopyHouse$Text" "letters" "[B" ∈ wsX4_sameAhead := List.mem_of_getElem? (i := 6) (by decide +kernel)
def C_X4_sameAhead (K : KT) (y : LT) (post : Int → CS → Prop) : Prop := kOK K cX4_sameAhead RX4 wsX4_sameAhead (some .int) rm_X4_sameAhead ∧ K.nL = 4 ∧ kQ K (CL y) rkI post rm_X4_sameAhead ∧ SF y.2.2 K.A K.s K.s.heap ∧ K.l.stackTraces = false
def P_X4_sameAhead_0 (K : KT) (y : LT) (σ : CS) (v0 v1 : Int) : Prop := G K (CL y σ) (0, 0) [(0, .ref (y.1 8 v0 0)), (1, .ref (y.1 8 v1 0))] 0 []
def P_X4_sameAhead_1 (K : KT) (y : LT) (σ : CS) (v0 v1 v2 v3 : Int) : Prop := G K (CL y σ) (0, 0) [(0, .ref (y.1 8 v0 0)), (1, .ref (y.1 8 v1 0)), (2, .int (iZ v2)), (3, .int (iZ v3))] 14 []
set_option maxRecDepth 100000 in
set_option maxHeartbeats 4000000 in
theorem b_X4_sameAhead_0 {K : KT} {y : LT} {post : Int → CS → Prop} (C : C_X4_sameAhead K y post) {σ : CS} {v0 v1 : Int} (h : (0 ≤ v0 ∧ v0 < (σ 21 0 0 0) + 3) ∧ (0 ≤ v1 ∧ v1 < (σ 21 0 0 0) + 3) ∧ (-2147483648 ≤ (σ 5 v0 0 0) ∧ (σ 5 v0 0 0) < 2147483648) ∧ (-2147483648 ≤ (σ 5 v1 0 0) ∧ (σ 5 v1 0 0) < 2147483648) ∧ P_X4_sameAhead_1 K y σ v0 v1 0 (if (σ 5 v1 0 0) < (σ 5 v0 0 0) then (σ 5 v1 0 0) else (σ 5 v0 0 0))) : P_X4_sameAhead_0 K y σ v0 v1 := by
  refine g_iconst C.1 (z := 0) dX4_sameAhead_0 ?_
  refine g_istore_n C.1 (i := 2) (loc' := [(2, .int (iZ 0)), (0, .ref (y.1 8 v0 0)), (1, .ref (y.1 8 v1 0))]) C.2.1 dX4_sameAhead_1 rfl (by decide) rfl ?_
  refine g_aload_n C.1 1 dX4_sameAhead_2 rfl rfl ?_
  obtain ⟨hd1, h⟩ := h
  refine c_get C.1 (ci := 4) (q := (RX3, TX3, 2)) rfl rfl inX4_sameAhead_X3 1 (by decide) (v := .int (iZ (σ 5 v0 0 0))) rfl lk_X4_sameAhead_f93 rfl dX4_sameAhead_3 ⟨hd1.1, hd1.2, rfl⟩ ?_
  refine g_aload_n C.1 2 dX4_sameAhead_6 rfl rfl ?_
  obtain ⟨hd2, h⟩ := h
  refine c_get C.1 (ci := 4) (q := (RX3, TX3, 2)) rfl rfl inX4_sameAhead_X3 1 (by decide) (v := .int (iZ (σ 5 v1 0 0))) rfl lk_X4_sameAhead_f93 rfl dX4_sameAhead_7 ⟨hd2.1, hd2.2, rfl⟩ ?_
  obtain ⟨hc3, h⟩ := h
  obtain ⟨hc4, h⟩ := h
  refine g_min C.1 (x := σ 5 v0 0 0) (y := σ 5 v1 0 0) hc3 hc4 lk_X4_sameAhead_mm323 lk_X4_sameAhead_ms323 lk_X4_sameAhead_mi323 lk_X4_sameAhead_mc323 (Nat.le_of_ble_eq_true rfl) (Nat.le_of_ble_eq_true rfl) ⟨Nat.le_of_ble_eq_true rfl, Nat.le_of_ble_eq_true rfl⟩ dX4_sameAhead_10 ?_
  refine g_istore_n C.1 (i := 3) (loc' := [(3, .int (iZ (if (σ 5 v1 0 0) < (σ 5 v0 0 0) then (σ 5 v1 0 0) else (σ 5 v0 0 0)))), (2, .int (iZ 0)), (0, .ref (y.1 8 v0 0)), (1, .ref (y.1 8 v1 0))]) C.2.1 dX4_sameAhead_13 rfl (by decide) rfl ?_
  exact g_sub [2, 3, 1, 0] rfl h
set_option maxRecDepth 100000 in
set_option maxHeartbeats 4000000 in
theorem b_X4_sameAhead_1 {K : KT} {y : LT} {post : Int → CS → Prop} (C : C_X4_sameAhead K y post) {σ : CS} {v0 v1 v2 v3 : Int} (h : (-2147483648 ≤ v2 ∧ v2 < 2147483648) ∧ (-2147483648 ≤ v3 ∧ v3 < 2147483648) ∧ ((v3 ≤ v2 → post v2 σ) ∧ (¬ v3 ≤ v2 → (0 ≤ v0 ∧ v0 < (σ 21 0 0 0) + 3) ∧ (0 ≤ v2 ∧ v2 < 120) ∧ (0 ≤ v1 ∧ v1 < (σ 21 0 0 0) + 3) ∧ (-2147483648 ≤ (σ 6 v0 v2 0) ∧ (σ 6 v0 v2 0) < 2147483648) ∧ (-2147483648 ≤ (σ 6 v1 v2 0) ∧ (σ 6 v1 v2 0) < 2147483648) ∧ ((¬ (σ 6 v0 v2 0) = (σ 6 v1 v2 0) → post v2 σ) ∧ ((σ 6 v0 v2 0) = (σ 6 v1 v2 0) → P_X4_sameAhead_1 K y σ v0 v1 (v2 + 1) v3))))) : P_X4_sameAhead_1 K y σ v0 v1 v2 v3 := by
  refine g_iload_n C.1 2 dX4_sameAhead_14 rfl rfl ?_
  refine g_iload_n C.1 3 dX4_sameAhead_15 rfl rfl ?_
  obtain ⟨hc1, h⟩ := h
  obtain ⟨hc2, h⟩ := h
  refine g_icmp_ge C.1 (tgt := 40) dX4_sameAhead_16 (by decide) hc1 hc2 (fun hc => ?_) (fun hc => ?_)
  · have h := h.1 hc
    refine g_iload_n C.1 2 dX4_sameAhead_40 rfl rfl ?_
    exact x_iret C.1 C.2.2.1 rfl ⟨Nat.le_of_ble_eq_true rfl, Nat.le_of_ble_eq_true rfl⟩ dX4_sameAhead_41 h
  · have h := h.2 hc
    refine g_aload_n C.1 0 dX4_sameAhead_19 rfl rfl ?_
    obtain ⟨hd3, h⟩ := h
    refine c_get C.1 (ci := 4) (q := (RX3, TX3, 2)) rfl rfl inX4_sameAhead_X3 0 (by decide) (v := .ref (y.1 9 v0 0)) rfl lk_X4_sameAhead_f101 rfl dX4_sameAhead_20 ⟨hd3.1, hd3.2, rfl⟩ ?_
    refine g_iload_n C.1 2 dX4_sameAhead_23 rfl rfl ?_
    obtain ⟨hi4, h⟩ := h
    refine c_bald C.1 (N := 120) (f := fun p => σ 6 v0 p 0) (e := v2) rfl rfl rfl (by decide) dX4_sameAhead_24 ⟨hd3.1, hd3.2, rfl⟩ hi4 ?_
    show G K (CL y σ) (0, 0) [(0, .ref (y.1 8 v0 0)), (1, .ref (y.1 8 v1 0)), (2, .int (iZ v2)), (3, .int (iZ v3))] 25 [.int (iZ (σ 6 v0 v2 0))]
    refine g_aload_n C.1 1 dX4_sameAhead_25 rfl rfl ?_
    obtain ⟨hd5, h⟩ := h
    refine c_get C.1 (ci := 4) (q := (RX3, TX3, 2)) rfl rfl inX4_sameAhead_X3 0 (by decide) (v := .ref (y.1 9 v1 0)) rfl lk_X4_sameAhead_f101 rfl dX4_sameAhead_26 ⟨hd5.1, hd5.2, rfl⟩ ?_
    refine g_iload_n C.1 2 dX4_sameAhead_29 rfl rfl ?_
    refine c_bald C.1 (N := 120) (f := fun p => σ 6 v1 p 0) (e := v2) rfl rfl rfl (by decide) dX4_sameAhead_30 ⟨hd5.1, hd5.2, rfl⟩ hi4 ?_
    show G K (CL y σ) (0, 0) [(0, .ref (y.1 8 v0 0)), (1, .ref (y.1 8 v1 0)), (2, .int (iZ v2)), (3, .int (iZ v3))] 31 [.int (iZ (σ 6 v1 v2 0)), .int (iZ (σ 6 v0 v2 0))]
    obtain ⟨hc6, h⟩ := h
    obtain ⟨hc7, h⟩ := h
    refine g_icmp_ne C.1 (tgt := 40) dX4_sameAhead_31 (by decide) hc6 hc7 (fun hc => ?_) (fun hc => ?_)
    · have h := h.1 hc
      refine g_iload_n C.1 2 dX4_sameAhead_40 rfl rfl ?_
      exact x_iret C.1 C.2.2.1 rfl ⟨Nat.le_of_ble_eq_true rfl, Nat.le_of_ble_eq_true rfl⟩ dX4_sameAhead_41 h
    · have h := h.2 hc
      refine g_iinc C.1 (z := v2) (w := 1) (loc' := [(2, .int (iZ (v2 + 1))), (0, .ref (y.1 8 v0 0)), (1, .ref (y.1 8 v1 0)), (3, .int (iZ v3))]) 2 C.2.1 dX4_sameAhead_34 rfl (by decide) rfl ?_
      refine g_goto C.1 (tgt := 14) dX4_sameAhead_37 (by decide) ?_
      exact g_sub [1, 2, 0, 3] rfl h
theorem m_X4_sameAhead {l : Launch} {y : LT} {σ : CS} {v0 v1 : Int} {post : Int → CS → Prop} (h : ∀ K : KT, K.l = l → C_X4_sameAhead K y post → P_X4_sameAhead_0 K y σ v0 v1) : cMet l yX4_sameAhead wsX4_sameAhead rm_X4_sameAhead y.2.2 (CL y) rkI [.ref (y.1 8 v0 0), .ref (y.1 8 v1 0)] σ post :=
  cMet.of (maxL := 4) (by decide +kernel) rfl (Nat.le_of_ble_eq_true rfl) (fun K h1 h2 h3 h4 h5 h6 _ => h K h1 ⟨h2, h3, h4, h5, h6⟩)
def H_X4_sameAhead (p : CS → Int → Int → Prop) (f : CS → Int → Int → Int) : Prop := ∀ (l : Launch) (y : LT) (σ : CS) (v0 v1 : Int), p σ v0 v1 → cMet l yX4_sameAhead wsX4_sameAhead rm_X4_sameAhead y.2.2 (CL y) rkI [.ref (y.1 8 v0 0), .ref (y.1 8 v1 0)] σ (fun r σ' => r = f σ v0 v1 ∧ σ' = σ)

/-! X4_sameBehind -/
abbrev rm_X4_sameBehind : Room := { frames := 1, cells := 0, slots := 0, locals := 40 }
set_option maxRecDepth 20000 in
theorem inX4_sameBehind_X3 : ∀ w ∈ wsX30, w ∈ wsX4_sameBehind := by decide +kernel
theorem lk_X4_sameBehind_f93 : Cond.fieldLink RX4 93 "CopyHouse$Text" "length" "I" ∈ wsX4_sameBehind := List.mem_of_getElem? (i := 1) (by decide +kernel)
theorem lk_X4_sameBehind_mm323 : Cond.methodLink RX4 323 Lib.Math.min.name ∈ wsX4_sameBehind := List.mem_of_getElem? (i := 2) (by decide +kernel)
theorem lk_X4_sameBehind_ms323 : Cond.static Lib.Math.min.name ∈ wsX4_sameBehind := List.mem_of_getElem? (i := 3) (by decide +kernel)
theorem lk_X4_sameBehind_mi323 : Cond.initialized "java/lang/Math" ∈ wsX4_sameBehind := List.mem_of_getElem? (i := 4) (by decide +kernel)
theorem lk_X4_sameBehind_mc323 : Cond.code Lib.Math.min.name Lib.Math.min.code 2 (some .int) ∈ wsX4_sameBehind := List.mem_of_getElem? (i := 5) (by decide +kernel)
theorem lk_X4_sameBehind_f101 : Cond.fieldLink RX4 101 "CopyHouse$Text" "letters" "[B" ∈ wsX4_sameBehind := List.mem_of_getElem? (i := 6) (by decide +kernel)
def C_X4_sameBehind (K : KT) (y : LT) (post : Int → CS → Prop) : Prop := kOK K cX4_sameBehind RX4 wsX4_sameBehind (some .int) rm_X4_sameBehind ∧ K.nL = 5 ∧ kQ K (CL y) rkI post rm_X4_sameBehind ∧ SF y.2.2 K.A K.s K.s.heap ∧ K.l.stackTraces = false
def P_X4_sameBehind_0 (K : KT) (y : LT) (σ : CS) (v0 v1 v2 : Int) : Prop := G K (CL y σ) (0, 0) [(0, .ref (y.1 8 v0 0)), (1, .ref (y.1 8 v1 0)), (2, .int (iZ v2))] 0 []
def P_X4_sameBehind_1 (K : KT) (y : LT) (σ : CS) (v0 v1 v3 v4 : Int) : Prop := G K (CL y σ) (0, 0) [(0, .ref (y.1 8 v0 0)), (1, .ref (y.1 8 v1 0)), (3, .int (iZ v3)), (4, .int (iZ v4))] 17 []
set_option maxRecDepth 100000 in
set_option maxHeartbeats 4000000 in
theorem b_X4_sameBehind_0 {K : KT} {y : LT} {post : Int → CS → Prop} (C : C_X4_sameBehind K y post) {σ : CS} {v0 v1 v2 : Int} (h : (0 ≤ v0 ∧ v0 < (σ 21 0 0 0) + 3) ∧ (0 ≤ v1 ∧ v1 < (σ 21 0 0 0) + 3) ∧ (-2147483648 ≤ (σ 5 v0 0 0) ∧ (σ 5 v0 0 0) < 2147483648) ∧ (-2147483648 ≤ (σ 5 v1 0 0) ∧ (σ 5 v1 0 0) < 2147483648) ∧ P_X4_sameBehind_1 K y σ v0 v1 0 ((if (σ 5 v1 0 0) < (σ 5 v0 0 0) then (σ 5 v1 0 0) else (σ 5 v0 0 0)) - v2)) : P_X4_sameBehind_0 K y σ v0 v1 v2 := by
  refine g_iconst C.1 (z := 0) dX4_sameBehind_0 ?_
  refine g_istore_n C.1 (i := 3) (loc' := [(3, .int (iZ 0)), (0, .ref (y.1 8 v0 0)), (1, .ref (y.1 8 v1 0)), (2, .int (iZ v2))]) C.2.1 dX4_sameBehind_1 rfl (by decide) rfl ?_
  refine g_aload_n C.1 1 dX4_sameBehind_2 rfl rfl ?_
  obtain ⟨hd1, h⟩ := h
  refine c_get C.1 (ci := 4) (q := (RX3, TX3, 2)) rfl rfl inX4_sameBehind_X3 1 (by decide) (v := .int (iZ (σ 5 v0 0 0))) rfl lk_X4_sameBehind_f93 rfl dX4_sameBehind_3 ⟨hd1.1, hd1.2, rfl⟩ ?_
  refine g_aload_n C.1 2 dX4_sameBehind_6 rfl rfl ?_
  obtain ⟨hd2, h⟩ := h
  refine c_get C.1 (ci := 4) (q := (RX3, TX3, 2)) rfl rfl inX4_sameBehind_X3 1 (by decide) (v := .int (iZ (σ 5 v1 0 0))) rfl lk_X4_sameBehind_f93 rfl dX4_sameBehind_7 ⟨hd2.1, hd2.2, rfl⟩ ?_
  obtain ⟨hc3, h⟩ := h
  obtain ⟨hc4, h⟩ := h
  refine g_min C.1 (x := σ 5 v0 0 0) (y := σ 5 v1 0 0) hc3 hc4 lk_X4_sameBehind_mm323 lk_X4_sameBehind_ms323 lk_X4_sameBehind_mi323 lk_X4_sameBehind_mc323 (Nat.le_of_ble_eq_true rfl) (Nat.le_of_ble_eq_true rfl) ⟨Nat.le_of_ble_eq_true rfl, Nat.le_of_ble_eq_true rfl⟩ dX4_sameBehind_10 ?_
  refine g_iload_n C.1 3 dX4_sameBehind_13 rfl rfl ?_
  refine g_isub C.1 (x := if (σ 5 v1 0 0) < (σ 5 v0 0 0) then (σ 5 v1 0 0) else (σ 5 v0 0 0)) (y := v2) dX4_sameBehind_14 ?_
  refine g_istore C.1 (i := 4) (loc' := [(4, .int (iZ ((if (σ 5 v1 0 0) < (σ 5 v0 0 0) then (σ 5 v1 0 0) else (σ 5 v0 0 0)) - v2))), (3, .int (iZ 0)), (0, .ref (y.1 8 v0 0)), (1, .ref (y.1 8 v1 0)), (2, .int (iZ v2))]) C.2.1 dX4_sameBehind_15 (by decide) rfl ?_
  exact g_sub [2, 3, 1, 0] rfl h
set_option maxRecDepth 100000 in
set_option maxHeartbeats 4000000 in
theorem b_X4_sameBehind_1 {K : KT} {y : LT} {post : Int → CS → Prop} (C : C_X4_sameBehind K y post) {σ : CS} {v0 v1 v3 v4 : Int} (h : (-2147483648 ≤ v3 ∧ v3 < 2147483648) ∧ (-2147483648 ≤ v4 ∧ v4 < 2147483648) ∧ ((v4 ≤ v3 → post v3 σ) ∧ (¬ v4 ≤ v3 → (0 ≤ v0 ∧ v0 < (σ 21 0 0 0) + 3) ∧ (0 ≤ (((σ 5 v0 0 0) - 1) - v3) ∧ (((σ 5 v0 0 0) - 1) - v3) < 120) ∧ (0 ≤ v1 ∧ v1 < (σ 21 0 0 0) + 3) ∧ (0 ≤ (((σ 5 v1 0 0) - 1) - v3) ∧ (((σ 5 v1 0 0) - 1) - v3) < 120) ∧ (-2147483648 ≤ (σ 6 v0 (((σ 5 v0 0 0) - 1) - v3) 0) ∧ (σ 6 v0 (((σ 5 v0 0 0) - 1) - v3) 0) < 2147483648) ∧ (-2147483648 ≤ (σ 6 v1 (((σ 5 v1 0 0) - 1) - v3) 0) ∧ (σ 6 v1 (((σ 5 v1 0 0) - 1) - v3) 0) < 2147483648) ∧ ((¬ (σ 6 v0 (((σ 5 v0 0 0) - 1) - v3) 0) = (σ 6 v1 (((σ 5 v1 0 0) - 1) - v3) 0) → post v3 σ) ∧ ((σ 6 v0 (((σ 5 v0 0 0) - 1) - v3) 0) = (σ 6 v1 (((σ 5 v1 0 0) - 1) - v3) 0) → P_X4_sameBehind_1 K y σ v0 v1 (v3 + 1) v4))))) : P_X4_sameBehind_1 K y σ v0 v1 v3 v4 := by
  refine g_iload_n C.1 2 dX4_sameBehind_17 rfl rfl ?_
  refine g_iload C.1 3 dX4_sameBehind_18 rfl ?_
  obtain ⟨hc1, h⟩ := h
  obtain ⟨hc2, h⟩ := h
  refine g_icmp_ge C.1 (tgt := 58) dX4_sameBehind_20 (by decide) hc1 hc2 (fun hc => ?_) (fun hc => ?_)
  · have h := h.1 hc
    refine g_iload_n C.1 2 dX4_sameBehind_58 rfl rfl ?_
    exact x_iret C.1 C.2.2.1 rfl ⟨Nat.le_of_ble_eq_true rfl, Nat.le_of_ble_eq_true rfl⟩ dX4_sameBehind_59 h
  · have h := h.2 hc
    refine g_aload_n C.1 0 dX4_sameBehind_23 rfl rfl ?_
    obtain ⟨hd3, h⟩ := h
    refine c_get C.1 (ci := 4) (q := (RX3, TX3, 2)) rfl rfl inX4_sameBehind_X3 0 (by decide) (v := .ref (y.1 9 v0 0)) rfl lk_X4_sameBehind_f101 rfl dX4_sameBehind_24 ⟨hd3.1, hd3.2, rfl⟩ ?_
    refine g_aload_n C.1 0 dX4_sameBehind_27 rfl rfl ?_
    refine c_get C.1 (ci := 4) (q := (RX3, TX3, 2)) rfl rfl inX4_sameBehind_X3 1 (by decide) (v := .int (iZ (σ 5 v0 0 0))) rfl lk_X4_sameBehind_f93 rfl dX4_sameBehind_28 ⟨hd3.1, hd3.2, rfl⟩ ?_
    refine g_iconst C.1 (z := 1) dX4_sameBehind_31 ?_
    refine g_isub C.1 (x := σ 5 v0 0 0) (y := 1) dX4_sameBehind_32 ?_
    refine g_iload_n C.1 2 dX4_sameBehind_33 rfl rfl ?_
    refine g_isub C.1 (x := (σ 5 v0 0 0) - 1) (y := v3) dX4_sameBehind_34 ?_
    obtain ⟨hi4, h⟩ := h
    refine c_bald C.1 (N := 120) (f := fun p => σ 6 v0 p 0) (e := ((σ 5 v0 0 0) - 1) - v3) rfl rfl rfl (by decide) dX4_sameBehind_35 ⟨hd3.1, hd3.2, rfl⟩ hi4 ?_
    show G K (CL y σ) (0, 0) [(0, .ref (y.1 8 v0 0)), (1, .ref (y.1 8 v1 0)), (3, .int (iZ v3)), (4, .int (iZ v4))] 36 [.int (iZ (σ 6 v0 (((σ 5 v0 0 0) - 1) - v3) 0))]
    refine g_aload_n C.1 1 dX4_sameBehind_36 rfl rfl ?_
    obtain ⟨hd5, h⟩ := h
    refine c_get C.1 (ci := 4) (q := (RX3, TX3, 2)) rfl rfl inX4_sameBehind_X3 0 (by decide) (v := .ref (y.1 9 v1 0)) rfl lk_X4_sameBehind_f101 rfl dX4_sameBehind_37 ⟨hd5.1, hd5.2, rfl⟩ ?_
    refine g_aload_n C.1 1 dX4_sameBehind_40 rfl rfl ?_
    refine c_get C.1 (ci := 4) (q := (RX3, TX3, 2)) rfl rfl inX4_sameBehind_X3 1 (by decide) (v := .int (iZ (σ 5 v1 0 0))) rfl lk_X4_sameBehind_f93 rfl dX4_sameBehind_41 ⟨hd5.1, hd5.2, rfl⟩ ?_
    refine g_iconst C.1 (z := 1) dX4_sameBehind_44 ?_
    refine g_isub C.1 (x := σ 5 v1 0 0) (y := 1) dX4_sameBehind_45 ?_
    refine g_iload_n C.1 2 dX4_sameBehind_46 rfl rfl ?_
    refine g_isub C.1 (x := (σ 5 v1 0 0) - 1) (y := v3) dX4_sameBehind_47 ?_
    obtain ⟨hi6, h⟩ := h
    refine c_bald C.1 (N := 120) (f := fun p => σ 6 v1 p 0) (e := ((σ 5 v1 0 0) - 1) - v3) rfl rfl rfl (by decide) dX4_sameBehind_48 ⟨hd5.1, hd5.2, rfl⟩ hi6 ?_
    show G K (CL y σ) (0, 0) [(0, .ref (y.1 8 v0 0)), (1, .ref (y.1 8 v1 0)), (3, .int (iZ v3)), (4, .int (iZ v4))] 49 [.int (iZ (σ 6 v1 (((σ 5 v1 0 0) - 1) - v3) 0)), .int (iZ (σ 6 v0 (((σ 5 v0 0 0) - 1) - v3) 0))]
    obtain ⟨hc7, h⟩ := h
    obtain ⟨hc8, h⟩ := h
    refine g_icmp_ne C.1 (tgt := 58) dX4_sameBehind_49 (by decide) hc7 hc8 (fun hc => ?_) (fun hc => ?_)
    · have h := h.1 hc
      refine g_iload_n C.1 2 dX4_sameBehind_58 rfl rfl ?_
      exact x_iret C.1 C.2.2.1 rfl ⟨Nat.le_of_ble_eq_true rfl, Nat.le_of_ble_eq_true rfl⟩ dX4_sameBehind_59 h
    · have h := h.2 hc
      refine g_iinc C.1 (z := v3) (w := 1) (loc' := [(3, .int (iZ (v3 + 1))), (0, .ref (y.1 8 v0 0)), (1, .ref (y.1 8 v1 0)), (4, .int (iZ v4))]) 2 C.2.1 dX4_sameBehind_52 rfl (by decide) rfl ?_
      refine g_goto C.1 (tgt := 17) dX4_sameBehind_55 (by decide) ?_
      exact g_sub [1, 2, 0, 3] rfl h
theorem m_X4_sameBehind {l : Launch} {y : LT} {σ : CS} {v0 v1 v2 : Int} {post : Int → CS → Prop} (h : ∀ K : KT, K.l = l → C_X4_sameBehind K y post → P_X4_sameBehind_0 K y σ v0 v1 v2) : cMet l yX4_sameBehind wsX4_sameBehind rm_X4_sameBehind y.2.2 (CL y) rkI [.ref (y.1 8 v0 0), .ref (y.1 8 v1 0), .int (iZ v2)] σ post :=
  cMet.of (maxL := 5) (by decide +kernel) rfl (Nat.le_of_ble_eq_true rfl) (fun K h1 h2 h3 h4 h5 h6 _ => h K h1 ⟨h2, h3, h4, h5, h6⟩)
def H_X4_sameBehind (p : CS → Int → Int → Int → Prop) (f : CS → Int → Int → Int → Int) : Prop := ∀ (l : Launch) (y : LT) (σ : CS) (v0 v1 v2 : Int), p σ v0 v1 v2 → cMet l yX4_sameBehind wsX4_sameBehind rm_X4_sameBehind y.2.2 (CL y) rkI [.ref (y.1 8 v0 0), .ref (y.1 8 v1 0), .int (iZ v2)] σ (fun r σ' => r = f σ v0 v1 v2 ∧ σ' = σ)

/-! X4_nextStepRow -/
abbrev rm_X4_nextStepRow : Room := { frames := 0, cells := 0, slots := 0, locals := 0 }
set_option maxRecDepth 20000 in
theorem inX4_nextStepRow_X4 : ∀ w ∈ wsX40, w ∈ wsX4_nextStepRow := by decide +kernel
theorem lk_X4_nextStepRow_f45 : Cond.fieldLink RX4 45 "CopyHouse" "stepRow" "[I" ∈ wsX4_nextStepRow := List.mem_of_getElem? (i := 1) (by decide +kernel)
def C_X4_nextStepRow (K : KT) (y : LT) (post : Int → CS → Prop) : Prop := kOK K cX4_nextStepRow RX4 wsX4_nextStepRow none rm_X4_nextStepRow ∧ K.nL = 10 ∧ kQ K (CL y) rkV post rm_X4_nextStepRow ∧ SF y.2.2 K.A K.s K.s.heap ∧ K.l.stackTraces = false
def P_X4_nextStepRow_0 (K : KT) (y : LT) (σ : CS) (v1 v2 v3 v4 : Int) : Prop := G K (CL y σ) (0, 0) [(0, .ref (y.1 0 0 0)), (1, .int (iZ v1)), (2, .ref (y.1 9 v2 0)), (3, .int (iZ v3)), (4, .int (iZ v4))] 0 []
def P_X4_nextStepRow_1 (K : KT) (y : LT) (σ : CS) (v1 v2 v3 v4 v5 v6 v7 : Int) : Prop := G K (CL y σ) (0, 0) [(0, .ref (y.1 0 0 0)), (1, .int (iZ v1)), (2, .ref (y.1 9 v2 0)), (3, .int (iZ v3)), (4, .int (iZ v4)), (5, .int (iZ v5)), (6, .int (iZ v6)), (7, .int (iZ v7))] 25 []
def P_X4_nextStepRow_2 (K : KT) (y : LT) (σ : CS) (v1 v2 v3 v4 v6 v7 v8 s0 : Int) : Prop := G K (CL y σ) (0, 0) [(0, .ref (y.1 0 0 0)), (1, .int (iZ v1)), (2, .ref (y.1 9 v2 0)), (3, .int (iZ v3)), (4, .int (iZ v4)), (6, .int (iZ v6)), (7, .int (iZ v7)), (8, .int (iZ v8))] 74 [.int (iZ s0)]
set_option maxRecDepth 100000 in
set_option maxHeartbeats 4000000 in
theorem b_X4_nextStepRow_0 {K : KT} {y : LT} {post : Int → CS → Prop} (C : C_X4_nextStepRow K y post) {σ : CS} {v1 v2 v3 v4 : Int} (h : P_X4_nextStepRow_1 K y (upC σ 7 (up1 (σ 7) 0 ((σ 7 0 0 0) + 1))) v1 v2 v3 v4 (σ 7 0 0 0) ((σ 7 0 0 0) + 1) 1) : P_X4_nextStepRow_0 K y σ v1 v2 v3 v4 := by
  refine g_aload_n C.1 0 dX4_nextStepRow_0 rfl rfl ?_
  refine c_get C.1 (ci := 5) (q := (RX4, TX4, 10)) rfl rfl inX4_nextStepRow_X4 8 (by decide) (v := .ref (y.1 10 0 0)) rfl lk_X4_nextStepRow_f45 rfl dX4_nextStepRow_1 ⟨rfl, rfl⟩ ?_
  refine g_iconst C.1 (z := 0) dX4_nextStepRow_4 ?_
  refine c_ald C.1 (N := 121) (f := fun p => σ 7 p 0 0) (e := 0) rfl rfl rfl (by decide) dX4_nextStepRow_5 ⟨rfl, rfl⟩ (by decide) ?_
  show G K (CL y σ) (0, 0) [(0, .ref (y.1 0 0 0)), (1, .int (iZ v1)), (2, .ref (y.1 9 v2 0)), (3, .int (iZ v3)), (4, .int (iZ v4))] 6 [.int (iZ (σ 7 0 0 0))]
  refine g_istore C.1 (i := 5) (loc' := [(5, .int (iZ (σ 7 0 0 0))), (0, .ref (y.1 0 0 0)), (1, .int (iZ v1)), (2, .ref (y.1 9 v2 0)), (3, .int (iZ v3)), (4, .int (iZ v4))]) C.2.1 dX4_nextStepRow_6 (by decide) rfl ?_
  refine g_iload C.1 0 dX4_nextStepRow_8 rfl ?_
  refine g_iconst C.1 (z := 1) dX4_nextStepRow_10 ?_
  refine g_iadd C.1 (x := σ 7 0 0 0) (y := 1) dX4_nextStepRow_11 ?_
  refine g_istore C.1 (i := 6) (loc' := [(6, .int (iZ ((σ 7 0 0 0) + 1))), (5, .int (iZ (σ 7 0 0 0))), (0, .ref (y.1 0 0 0)), (1, .int (iZ v1)), (2, .ref (y.1 9 v2 0)), (3, .int (iZ v3)), (4, .int (iZ v4))]) C.2.1 dX4_nextStepRow_12 (by decide) rfl ?_
  refine g_aload_n C.1 2 dX4_nextStepRow_14 rfl rfl ?_
  refine c_get C.1 (ci := 5) (q := (RX4, TX4, 10)) rfl rfl inX4_nextStepRow_X4 8 (by decide) (v := .ref (y.1 10 0 0)) rfl lk_X4_nextStepRow_f45 rfl dX4_nextStepRow_15 ⟨rfl, rfl⟩ ?_
  refine g_iconst C.1 (z := 0) dX4_nextStepRow_18 ?_
  refine g_iload C.1 0 dX4_nextStepRow_19 rfl ?_
  refine c_ast C.1 (σ' := upC σ 7 (up1 (σ 7) 0 ((σ 7 0 0 0) + 1))) (N := 121) (f := fun p => σ 7 p 0 0) (e := 0) (z := (σ 7 0 0 0) + 1) rfl rfl rfl (CUpd_7 y _ _) rfl (by decide) dX4_nextStepRow_21 ⟨rfl, rfl⟩ (by decide) ?_
  refine g_iconst C.1 (z := 1) dX4_nextStepRow_22 ?_
  refine g_istore C.1 (i := 7) (loc' := [(7, .int (iZ 1)), (6, .int (iZ ((σ 7 0 0 0) + 1))), (5, .int (iZ (σ 7 0 0 0))), (0, .ref (y.1 0 0 0)), (1, .int (iZ v1)), (2, .ref (y.1 9 v2 0)), (3, .int (iZ v3)), (4, .int (iZ v4))]) C.2.1 dX4_nextStepRow_23 (by decide) rfl ?_
  exact g_sub [3, 4, 5, 6, 7, 2, 1, 0] rfl h
set_option maxRecDepth 100000 in
set_option maxHeartbeats 4000000 in
theorem b_X4_nextStepRow_1 {K : KT} {y : LT} {post : Int → CS → Prop} (C : C_X4_nextStepRow K y post) {σ : CS} {v1 v2 v3 v4 v5 v6 v7 : Int} (h : (-2147483648 ≤ v7 ∧ v7 < 2147483648) ∧ (-2147483648 ≤ v4 ∧ v4 < 2147483648) ∧ ((v4 < v7 → post 0 σ) ∧ (¬ v4 < v7 → (0 ≤ v7 ∧ v7 < 121) ∧ (0 ≤ v2 ∧ v2 < (σ 21 0 0 0) + 3) ∧ (0 ≤ ((v3 + v7) - 1) ∧ ((v3 + v7) - 1) < 120) ∧ (-2147483648 ≤ (σ 6 v2 ((v3 + v7) - 1) 0) ∧ (σ 6 v2 ((v3 + v7) - 1) 0) < 2147483648) ∧ (-2147483648 ≤ v1 ∧ v1 < 2147483648) ∧ ((¬ (σ 6 v2 ((v3 + v7) - 1) 0) = v1 → (-2147483648 ≤ (σ 7 v7 0 0) ∧ (σ 7 v7 0 0) < 2147483648) ∧ (-2147483648 ≤ v5 ∧ v5 < 2147483648) ∧ ((v5 ≤ (σ 7 v7 0 0) → P_X4_nextStepRow_2 K y σ v1 v2 v3 v4 v6 v7 (σ 7 v7 0 0) v5) ∧ (¬ v5 ≤ (σ 7 v7 0 0) → P_X4_nextStepRow_2 K y σ v1 v2 v3 v4 v6 v7 (σ 7 v7 0 0) (σ 7 v7 0 0)))) ∧ ((σ 6 v2 ((v3 + v7) - 1) 0) = v1 → P_X4_nextStepRow_1 K y (upC σ 7 (up1 (σ 7) v7 v5)) v1 v2 v3 v4 (σ 7 v7 0 0) v5 (v7 + 1)))))) : P_X4_nextStepRow_1 K y σ v1 v2 v3 v4 v5 v6 v7 := by
  refine g_iload C.1 7 dX4_nextStepRow_25 rfl ?_
  refine g_iload C.1 4 dX4_nextStepRow_27 rfl ?_
  obtain ⟨hc1, h⟩ := h
  obtain ⟨hc2, h⟩ := h
  refine g_icmp_gt C.1 (tgt := 113) dX4_nextStepRow_29 (by decide) hc1 hc2 (fun hc => ?_) (fun hc => ?_)
  · have h := h.1 hc
    exact x_vret C.1 C.2.2.1 rfl ⟨Nat.le_of_ble_eq_true rfl, Nat.le_of_ble_eq_true rfl⟩ dX4_nextStepRow_113 h
  · have h := h.2 hc
    refine g_aload_n C.1 0 dX4_nextStepRow_32 rfl rfl ?_
    refine c_get C.1 (ci := 5) (q := (RX4, TX4, 10)) rfl rfl inX4_nextStepRow_X4 8 (by decide) (v := .ref (y.1 10 0 0)) rfl lk_X4_nextStepRow_f45 rfl dX4_nextStepRow_33 ⟨rfl, rfl⟩ ?_
    refine g_iload C.1 7 dX4_nextStepRow_36 rfl ?_
    obtain ⟨hi3, h⟩ := h
    refine c_ald C.1 (N := 121) (f := fun p => σ 7 p 0 0) (e := v7) rfl rfl rfl (by decide) dX4_nextStepRow_38 ⟨rfl, rfl⟩ hi3 ?_
    show G K (CL y σ) (0, 0) [(0, .ref (y.1 0 0 0)), (1, .int (iZ v1)), (2, .ref (y.1 9 v2 0)), (3, .int (iZ v3)), (4, .int (iZ v4)), (5, .int (iZ v5)), (6, .int (iZ v6)), (7, .int (iZ v7))] 39 [.int (iZ (σ 7 v7 0 0))]
    refine g_istore C.1 (i := 8) (loc' := [(8, .int (iZ (σ 7 v7 0 0))), (0, .ref (y.1 0 0 0)), (1, .int (iZ v1)), (2, .ref (y.1 9 v2 0)), (3, .int (iZ v3)), (4, .int (iZ v4)), (5, .int (iZ v5)), (6, .int (iZ v6)), (7, .int (iZ v7))]) C.2.1 dX4_nextStepRow_39 (by decide) rfl ?_
    refine g_aload_n C.1 3 dX4_nextStepRow_41 rfl rfl ?_
    refine g_iload_n C.1 4 dX4_nextStepRow_42 rfl rfl ?_
    refine g_iload C.1 8 dX4_nextStepRow_43 rfl ?_
    refine g_iadd C.1 (x := v3) (y := v7) dX4_nextStepRow_45 ?_
    refine g_iconst C.1 (z := 1) dX4_nextStepRow_46 ?_
    refine g_isub C.1 (x := v3 + v7) (y := 1) dX4_nextStepRow_47 ?_
    obtain ⟨hd4, h⟩ := h
    obtain ⟨hi5, h⟩ := h
    refine c_bald C.1 (N := 120) (f := fun p => σ 6 v2 p 0) (e := (v3 + v7) - 1) rfl rfl rfl (by decide) dX4_nextStepRow_48 ⟨hd4.1, hd4.2, rfl⟩ hi5 ?_
    show G K (CL y σ) (0, 0) [(8, .int (iZ (σ 7 v7 0 0))), (0, .ref (y.1 0 0 0)), (1, .int (iZ v1)), (2, .ref (y.1 9 v2 0)), (3, .int (iZ v3)), (4, .int (iZ v4)), (5, .int (iZ v5)), (6, .int (iZ v6)), (7, .int (iZ v7))] 49 [.int (iZ (σ 6 v2 ((v3 + v7) - 1) 0))]
    refine g_iload_n C.1 2 dX4_nextStepRow_49 rfl rfl ?_
    obtain ⟨hc6, h⟩ := h
    obtain ⟨hc7, h⟩ := h
    refine g_icmp_ne C.1 (tgt := 60) dX4_nextStepRow_50 (by decide) hc6 hc7 (fun hc => ?_) (fun hc => ?_)
    · have h := h.1 hc
      refine g_iload C.1 0 dX4_nextStepRow_60 rfl ?_
      refine g_iload C.1 6 dX4_nextStepRow_62 rfl ?_
      obtain ⟨hc8, h⟩ := h
      obtain ⟨hc9, h⟩ := h
      refine g_icmp_ge C.1 (tgt := 72) dX4_nextStepRow_64 (by decide) hc8 hc9 (fun hc => ?_) (fun hc => ?_)
      · have h := h.1 hc
        refine g_iload C.1 6 dX4_nextStepRow_72 rfl ?_
        exact g_sub [1, 2, 3, 4, 5, 7, 8, 0] rfl h
      · have h := h.2 hc
        refine g_iload C.1 0 dX4_nextStepRow_67 rfl ?_
        refine g_goto C.1 (tgt := 74) dX4_nextStepRow_69 (by decide) ?_
        exact g_sub [1, 2, 3, 4, 5, 7, 8, 0] rfl h
    · have h := h.2 hc
      refine g_iload C.1 6 dX4_nextStepRow_53 rfl ?_
      refine g_istore C.1 (i := 6) (loc' := [(6, .int (iZ v5)), (8, .int (iZ (σ 7 v7 0 0))), (0, .ref (y.1 0 0 0)), (1, .int (iZ v1)), (2, .ref (y.1 9 v2 0)), (3, .int (iZ v3)), (4, .int (iZ v4)), (5, .int (iZ v5)), (7, .int (iZ v7))]) C.2.1 dX4_nextStepRow_55 (by decide) rfl ?_
      refine g_goto C.1 (tgt := 94) dX4_nextStepRow_57 (by decide) ?_
      refine g_aload_n C.1 2 dX4_nextStepRow_94 rfl rfl ?_
      refine c_get C.1 (ci := 5) (q := (RX4, TX4, 10)) rfl rfl inX4_nextStepRow_X4 8 (by decide) (v := .ref (y.1 10 0 0)) rfl lk_X4_nextStepRow_f45 rfl dX4_nextStepRow_95 ⟨rfl, rfl⟩ ?_
      refine g_iload C.1 8 dX4_nextStepRow_98 rfl ?_
      refine g_iload C.1 0 dX4_nextStepRow_100 rfl ?_
      refine c_ast C.1 (σ' := upC σ 7 (up1 (σ 7) v7 v5)) (N := 121) (f := fun p => σ 7 p 0 0) (e := v7) (z := v5) rfl rfl rfl (CUpd_7 y _ _) rfl (by decide) dX4_nextStepRow_102 ⟨rfl, rfl⟩ hi3 ?_
      refine g_iload C.1 1 dX4_nextStepRow_103 rfl ?_
      refine g_istore C.1 (i := 5) (loc' := [(5, .int (iZ (σ 7 v7 0 0))), (6, .int (iZ v5)), (8, .int (iZ (σ 7 v7 0 0))), (0, .ref (y.1 0 0 0)), (1, .int (iZ v1)), (2, .ref (y.1 9 v2 0)), (3, .int (iZ v3)), (4, .int (iZ v4)), (7, .int (iZ v7))]) C.2.1 dX4_nextStepRow_105 (by decide) rfl ?_
      refine g_iinc C.1 (z := v7) (w := 1) (loc' := [(7, .int (iZ (v7 + 1))), (5, .int (iZ (σ 7 v7 0 0))), (6, .int (iZ v5)), (8, .int (iZ (σ 7 v7 0 0))), (0, .ref (y.1 0 0 0)), (1, .int (iZ v1)), (2, .ref (y.1 9 v2 0)), (3, .int (iZ v3)), (4, .int (iZ v4))]) 8 C.2.1 dX4_nextStepRow_107 rfl (by decide) rfl ?_
      refine g_goto C.1 (tgt := 25) dX4_nextStepRow_110 (by decide) ?_
      exact g_sub [4, 5, 6, 7, 8, 1, 2, 0] rfl h
set_option maxRecDepth 100000 in
set_option maxHeartbeats 4000000 in
theorem b_X4_nextStepRow_2 {K : KT} {y : LT} {post : Int → CS → Prop} (C : C_X4_nextStepRow K y post) {σ : CS} {v1 v2 v3 v4 v6 v7 v8 s0 : Int} (h : (-2147483648 ≤ v6 ∧ v6 < 2147483648) ∧ (-2147483648 ≤ s0 ∧ s0 < 2147483648) ∧ ((s0 ≤ v6 → (0 ≤ v7 ∧ v7 < 121) ∧ P_X4_nextStepRow_1 K y (upC σ 7 (up1 (σ 7) v7 (s0 + 1))) v1 v2 v3 v4 v8 (s0 + 1) (v7 + 1)) ∧ (¬ s0 ≤ v6 → (0 ≤ v7 ∧ v7 < 121) ∧ P_X4_nextStepRow_1 K y (upC σ 7 (up1 (σ 7) v7 (v6 + 1))) v1 v2 v3 v4 v8 (v6 + 1) (v7 + 1)))) : P_X4_nextStepRow_2 K y σ v1 v2 v3 v4 v6 v7 v8 s0 := by
  refine g_istore C.1 (i := 9) (loc' := [(9, .int (iZ s0)), (0, .ref (y.1 0 0 0)), (1, .int (iZ v1)), (2, .ref (y.1 9 v2 0)), (3, .int (iZ v3)), (4, .int (iZ v4)), (6, .int (iZ v6)), (7, .int (iZ v7)), (8, .int (iZ v8))]) C.2.1 dX4_nextStepRow_74 (by decide) rfl ?_
  refine g_iload C.1 6 dX4_nextStepRow_76 rfl ?_
  refine g_iload C.1 0 dX4_nextStepRow_78 rfl ?_
  obtain ⟨hc1, h⟩ := h
  obtain ⟨hc2, h⟩ := h
  refine g_icmp_ge C.1 (tgt := 88) dX4_nextStepRow_80 (by decide) hc1 hc2 (fun hc => ?_) (fun hc => ?_)
  · have h := h.1 hc
    refine g_iload C.1 0 dX4_nextStepRow_88 rfl ?_
    refine g_iconst C.1 (z := 1) dX4_nextStepRow_90 ?_
    refine g_iadd C.1 (x := s0) (y := 1) dX4_nextStepRow_91 ?_
    refine g_istore C.1 (i := 6) (loc' := [(6, .int (iZ (s0 + 1))), (9, .int (iZ s0)), (0, .ref (y.1 0 0 0)), (1, .int (iZ v1)), (2, .ref (y.1 9 v2 0)), (3, .int (iZ v3)), (4, .int (iZ v4)), (7, .int (iZ v7)), (8, .int (iZ v8))]) C.2.1 dX4_nextStepRow_92 (by decide) rfl ?_
    refine g_aload_n C.1 2 dX4_nextStepRow_94 rfl rfl ?_
    refine c_get C.1 (ci := 5) (q := (RX4, TX4, 10)) rfl rfl inX4_nextStepRow_X4 8 (by decide) (v := .ref (y.1 10 0 0)) rfl lk_X4_nextStepRow_f45 rfl dX4_nextStepRow_95 ⟨rfl, rfl⟩ ?_
    refine g_iload C.1 7 dX4_nextStepRow_98 rfl ?_
    refine g_iload C.1 0 dX4_nextStepRow_100 rfl ?_
    obtain ⟨hi3, h⟩ := h
    refine c_ast C.1 (σ' := upC σ 7 (up1 (σ 7) v7 (s0 + 1))) (N := 121) (f := fun p => σ 7 p 0 0) (e := v7) (z := s0 + 1) rfl rfl rfl (CUpd_7 y _ _) rfl (by decide) dX4_nextStepRow_102 ⟨rfl, rfl⟩ hi3 ?_
    refine g_iload C.1 8 dX4_nextStepRow_103 rfl ?_
    refine g_istore C.1 (i := 5) (loc' := [(5, .int (iZ v8)), (6, .int (iZ (s0 + 1))), (9, .int (iZ s0)), (0, .ref (y.1 0 0 0)), (1, .int (iZ v1)), (2, .ref (y.1 9 v2 0)), (3, .int (iZ v3)), (4, .int (iZ v4)), (7, .int (iZ v7)), (8, .int (iZ v8))]) C.2.1 dX4_nextStepRow_105 (by decide) rfl ?_
    refine g_iinc C.1 (z := v7) (w := 1) (loc' := [(7, .int (iZ (v7 + 1))), (5, .int (iZ v8)), (6, .int (iZ (s0 + 1))), (9, .int (iZ s0)), (0, .ref (y.1 0 0 0)), (1, .int (iZ v1)), (2, .ref (y.1 9 v2 0)), (3, .int (iZ v3)), (4, .int (iZ v4)), (8, .int (iZ v8))]) 8 C.2.1 dX4_nextStepRow_107 rfl (by decide) rfl ?_
    refine g_goto C.1 (tgt := 25) dX4_nextStepRow_110 (by decide) ?_
    exact g_sub [4, 5, 6, 7, 8, 1, 2, 0] rfl h
  · have h := h.2 hc
    refine g_iload C.1 6 dX4_nextStepRow_83 rfl ?_
    refine g_goto C.1 (tgt := 90) dX4_nextStepRow_85 (by decide) ?_
    refine g_iconst C.1 (z := 1) dX4_nextStepRow_90 ?_
    refine g_iadd C.1 (x := v6) (y := 1) dX4_nextStepRow_91 ?_
    refine g_istore C.1 (i := 6) (loc' := [(6, .int (iZ (v6 + 1))), (9, .int (iZ s0)), (0, .ref (y.1 0 0 0)), (1, .int (iZ v1)), (2, .ref (y.1 9 v2 0)), (3, .int (iZ v3)), (4, .int (iZ v4)), (7, .int (iZ v7)), (8, .int (iZ v8))]) C.2.1 dX4_nextStepRow_92 (by decide) rfl ?_
    refine g_aload_n C.1 2 dX4_nextStepRow_94 rfl rfl ?_
    refine c_get C.1 (ci := 5) (q := (RX4, TX4, 10)) rfl rfl inX4_nextStepRow_X4 8 (by decide) (v := .ref (y.1 10 0 0)) rfl lk_X4_nextStepRow_f45 rfl dX4_nextStepRow_95 ⟨rfl, rfl⟩ ?_
    refine g_iload C.1 7 dX4_nextStepRow_98 rfl ?_
    refine g_iload C.1 0 dX4_nextStepRow_100 rfl ?_
    obtain ⟨hi4, h⟩ := h
    refine c_ast C.1 (σ' := upC σ 7 (up1 (σ 7) v7 (v6 + 1))) (N := 121) (f := fun p => σ 7 p 0 0) (e := v7) (z := v6 + 1) rfl rfl rfl (CUpd_7 y _ _) rfl (by decide) dX4_nextStepRow_102 ⟨rfl, rfl⟩ hi4 ?_
    refine g_iload C.1 8 dX4_nextStepRow_103 rfl ?_
    refine g_istore C.1 (i := 5) (loc' := [(5, .int (iZ v8)), (6, .int (iZ (v6 + 1))), (9, .int (iZ s0)), (0, .ref (y.1 0 0 0)), (1, .int (iZ v1)), (2, .ref (y.1 9 v2 0)), (3, .int (iZ v3)), (4, .int (iZ v4)), (7, .int (iZ v7)), (8, .int (iZ v8))]) C.2.1 dX4_nextStepRow_105 (by decide) rfl ?_
    refine g_iinc C.1 (z := v7) (w := 1) (loc' := [(7, .int (iZ (v7 + 1))), (5, .int (iZ v8)), (6, .int (iZ (v6 + 1))), (9, .int (iZ s0)), (0, .ref (y.1 0 0 0)), (1, .int (iZ v1)), (2, .ref (y.1 9 v2 0)), (3, .int (iZ v3)), (4, .int (iZ v4)), (8, .int (iZ v8))]) 8 C.2.1 dX4_nextStepRow_107 rfl (by decide) rfl ?_
    refine g_goto C.1 (tgt := 25) dX4_nextStepRow_110 (by decide) ?_
    exact g_sub [4, 5, 6, 7, 8, 1, 2, 0] rfl h
theorem m_X4_nextStepRow {l : Launch} {y : LT} {σ : CS} {v1 v2 v3 v4 : Int} {post : Int → CS → Prop} (h : ∀ K : KT, K.l = l → C_X4_nextStepRow K y post → P_X4_nextStepRow_0 K y σ v1 v2 v3 v4) : cMet l yX4_nextStepRow wsX4_nextStepRow rm_X4_nextStepRow y.2.2 (CL y) rkV [.ref (y.1 0 0 0), .int (iZ v1), .ref (y.1 9 v2 0), .int (iZ v3), .int (iZ v4)] σ post :=
  cMet.of (maxL := 10) (by decide +kernel) rfl (Nat.le_of_ble_eq_true rfl) (fun K h1 h2 h3 h4 h5 h6 _ => h K h1 ⟨h2, h3, h4, h5, h6⟩)
def H_X4_nextStepRow (p : CS → Int → Int → Int → Int → Prop) (o : CS → Int → Int → Int → Int → Int → CS → Prop) : Prop := ∀ (l : Launch) (y : LT) (σ : CS) (v1 v2 v3 v4 : Int), p σ v1 v2 v3 v4 → cMet l yX4_nextStepRow wsX4_nextStepRow rm_X4_nextStepRow y.2.2 (CL y) rkV [.ref (y.1 0 0 0), .int (iZ v1), .ref (y.1 9 v2 0), .int (iZ v3), .int (iZ v4)] σ (fun r σ' => o σ v1 v2 v3 v4 r σ')

/-! X4_mixed -/
abbrev rm_X4_mixed : Room := { frames := 0, cells := 0, slots := 0, locals := 0 }
theorem lk_X4_mixed_k326 : Cond.constantLong RX4 326 (31) ∈ wsX4_mixed := List.mem_of_getElem? (i := 1) (by decide +kernel)
def C_X4_mixed (K : KT) (y : LT) (post : Int → CS → Prop) : Prop := kOK K cX4_mixed RX4 wsX4_mixed (some .long) rm_X4_mixed ∧ K.nL = 3 ∧ kQ K (CL y) rkL post rm_X4_mixed ∧ SF y.2.2 K.A K.s K.s.heap ∧ K.l.stackTraces = false
def P_X4_mixed_0 (K : KT) (y : LT) (σ : CS) (v0 v2 : Int) : Prop := G K (CL y σ) (0, 0) [(0, .long (lZ v0)), (2, .int (iZ v2))] 0 []
set_option maxRecDepth 100000 in
set_option maxHeartbeats 4000000 in
theorem b_X4_mixed_0 {K : KT} {y : LT} {post : Int → CS → Prop} (C : C_X4_mixed K y post) {σ : CS} {v0 v2 : Int} (h : (-2147483648 ≤ v2 ∧ v2 < 2147483648) ∧ post ((v0 * 31) + v2) σ) : P_X4_mixed_0 K y σ v0 v2 := by
  refine g_lload_n C.1 0 dX4_mixed_0 rfl rfl ?_
  refine g_ldc2 C.1 (x := 31) rfl lk_X4_mixed_k326 dX4_mixed_1 ?_
  refine g_lmul C.1 (x := v0) (y := 31) dX4_mixed_4 ?_
  refine g_iload_n C.1 1 dX4_mixed_5 rfl rfl ?_
  obtain ⟨hc1, h⟩ := h
  refine g_i2l C.1 (x := v2) hc1 dX4_mixed_6 ?_
  refine g_ladd C.1 (x := v0 * 31) (y := v2) dX4_mixed_7 ?_
  exact x_lret C.1 C.2.2.1 rfl ⟨Nat.le_of_ble_eq_true rfl, Nat.le_of_ble_eq_true rfl⟩ dX4_mixed_8 h
theorem m_X4_mixed {l : Launch} {y : LT} {σ : CS} {v0 v2 : Int} {post : Int → CS → Prop} (h : ∀ K : KT, K.l = l → C_X4_mixed K y post → P_X4_mixed_0 K y σ v0 v2) : cMet l yX4_mixed wsX4_mixed rm_X4_mixed y.2.2 (CL y) rkL [.long (lZ v0), .int (iZ v2)] σ post :=
  cMet.of (maxL := 3) (by decide +kernel) rfl (Nat.le_of_ble_eq_true rfl) (fun K h1 h2 h3 h4 h5 h6 _ => h K h1 ⟨h2, h3, h4, h5, h6⟩)
def H_X4_mixed (p : CS → Int → Int → Prop) (f : CS → Int → Int → Int) : Prop := ∀ (l : Launch) (y : LT) (σ : CS) (v0 v2 : Int), p σ v0 v2 → cMet l yX4_mixed wsX4_mixed rm_X4_mixed y.2.2 (CL y) rkL [.long (lZ v0), .int (iZ v2)] σ (fun r σ' => r = f σ v0 v2 ∧ σ' = σ)

/-! X4_scribeMixed -/
abbrev rm_X4_scribeMixed : Room := { frames := 3, cells := 0, slots := 0, locals := 67 }
set_option maxRecDepth 20000 in
theorem inX4_scribeMixed_X2 : ∀ w ∈ wsX20, w ∈ wsX4_scribeMixed := by decide +kernel
theorem lk_X4_scribeMixed_f128 : Cond.fieldLink RX4 128 "CopyHouse$Scribe" "habits" "Ljava/util/ArrayList;" ∈ wsX4_scribeMixed := List.mem_of_getElem? (i := 1) (by decide +kernel)
theorem lk_X4_scribeMixed_cc133 : Cond.classLink RX4 133 "CopyHouse$Habit" ∈ wsX4_scribeMixed := List.mem_of_getElem? (i := 2) (by decide +kernel)
def C_X4_scribeMixed (K : KT) (y : LT) (post : Int → CS → Prop) : Prop := kOK K cX4_scribeMixed RX4 wsX4_scribeMixed (some .long) rm_X4_scribeMixed ∧ K.nL = 7 ∧ kQ K (CL y) rkL post rm_X4_scribeMixed ∧ SF y.2.2 K.A K.s K.s.heap ∧ K.l.stackTraces = false
def P_X4_scribeMixed_0 (K : KT) (y : LT) (σ : CS) (v0 v2 : Int) : Prop := G K (CL y σ) (0, 0) [(0, .long (lZ v0)), (2, .ref (y.1 13 v2 0))] 0 []
def P_X4_scribeMixed_1 (K : KT) (y : LT) (σ : CS) (v2 v3 v5 : Int) : Prop := G K (CL y σ) (0, 0) [(2, .ref (y.1 13 v2 0)), (3, .long (lZ v3)), (5, .int (iZ v5))] 15 []
def P_X4_scribeMixed_2 (K : KT) (y : LT) (σ : CS) (v2 v3 v5 v6 : Int) : Prop := G K (CL y σ) (0, 0) [(2, .ref (y.1 13 v2 0)), (3, .long (lZ v3)), (5, .int (iZ v5)), (6, .int (iZ v6))] 30 []
set_option maxRecDepth 100000 in
set_option maxHeartbeats 4000000 in
theorem b_X4_scribeMixed_0 {K : KT} {y : LT} {post : Int → CS → Prop} (C : C_X4_scribeMixed K y post) {p_sizeH : CS → Int → Prop} {f_sizeH : CS → Int → Int} (h_sizeH : H_sizeH p_sizeH f_sizeH) {p_mixed : CS → Int → Int → Prop} {f_mixed : CS → Int → Int → Int} (h_mixed : H_X4_mixed p_mixed f_mixed) {σ : CS} {v0 v2 : Int} (h : (0 ≤ v2 ∧ v2 < (σ 22 0 0 0)) ∧ (p_sizeH σ v2) ∧ (p_mixed σ v0 (f_sizeH σ v2)) ∧ P_X4_scribeMixed_1 K y σ v2 (f_mixed σ v0 (f_sizeH σ v2)) 0) : P_X4_scribeMixed_0 K y σ v0 v2 := by
  refine g_lload_n C.1 0 dX4_scribeMixed_0 rfl rfl ?_
  refine g_aload_n C.1 1 dX4_scribeMixed_1 rfl rfl ?_
  obtain ⟨hd1, h⟩ := h
  refine c_get C.1 (ci := 3) (q := (RX2, TX2, 1)) rfl rfl inX4_scribeMixed_X2 0 (by decide) (v := .ref (y.1 14 v2 0)) rfl lk_X4_scribeMixed_f128 rfl dX4_scribeMixed_2 ⟨hd1.1, hd1.2, rfl⟩ ?_
  obtain ⟨hp2, h⟩ := h
  refine c_callV C.1 C.2.2.2.1 C.2.2.2.2 (h_sizeH K.l y σ v2 hp2) (ci := 0) (q := (RJx4a65c, TJx4a65c, 3)) rfl (c_recv rfl ⟨hd1.1, hd1.2, rfl⟩) (fun ht => cwV 0 ht gX4_scribeMixed_Jx4a65c_size_8abf5 rfl rfl rfl (by decide +kernel) ⟨Nat.le_of_ble_eq_true rfl, Nat.le_of_ble_eq_true rfl⟩) rfl rfl (Nat.le_of_ble_eq_true rfl) ⟨Nat.le_of_ble_eq_true rfl, Nat.le_of_ble_eq_true rfl⟩ dX4_scribeMixed_5 (fun r σ9 hq => ?_)
  rw [hq.1, hq.2]
  show G K (CL y σ) (0, 0) [(0, .long (lZ v0)), (2, .ref (y.1 13 v2 0))] 8 [.int (iZ (f_sizeH σ v2)), .long (lZ v0)]
  obtain ⟨hp3, h⟩ := h
  refine c_callS C.1 C.2.2.2.1 C.2.2.2.2 (h_mixed K.l y σ v0 (f_sizeH σ v2) hp3) (fun ht => va_cwS 2 ht gX4_scribeMixed_X4_mixed rfl rfl rfl (by decide +kernel) ⟨Nat.le_of_ble_eq_true rfl, Nat.le_of_ble_eq_true rfl⟩) rfl rfl (Nat.le_of_ble_eq_true rfl) ⟨Nat.le_of_ble_eq_true rfl, Nat.le_of_ble_eq_true rfl⟩ dX4_scribeMixed_8 (fun r σ9 hq => ?_)
  rw [hq.1, hq.2]
  show G K (CL y σ) (0, 0) [(0, .long (lZ v0)), (2, .ref (y.1 13 v2 0))] 11 [.long (lZ (f_mixed σ v0 (f_sizeH σ v2)))]
  refine g_lstore_n C.1 (i := 3) (loc' := [(3, .long (lZ (f_mixed σ v0 (f_sizeH σ v2)))), (0, .long (lZ v0)), (2, .ref (y.1 13 v2 0))]) C.2.1 dX4_scribeMixed_11 rfl (by decide) rfl ?_
  refine g_iconst C.1 (z := 0) dX4_scribeMixed_12 ?_
  refine g_istore C.1 (i := 5) (loc' := [(5, .int (iZ 0)), (3, .long (lZ (f_mixed σ v0 (f_sizeH σ v2)))), (0, .long (lZ v0)), (2, .ref (y.1 13 v2 0))]) C.2.1 dX4_scribeMixed_13 (by decide) rfl ?_
  exact g_sub [3, 1, 0] rfl h
set_option maxRecDepth 100000 in
set_option maxHeartbeats 4000000 in
theorem b_X4_scribeMixed_1 {K : KT} {y : LT} {post : Int → CS → Prop} (C : C_X4_scribeMixed K y post) {p_sizeH : CS → Int → Prop} {f_sizeH : CS → Int → Int} (h_sizeH : H_sizeH p_sizeH f_sizeH) {σ : CS} {v2 v3 v5 : Int} (h : (0 ≤ v2 ∧ v2 < (σ 22 0 0 0)) ∧ (p_sizeH σ v2) ∧ (-2147483648 ≤ v5 ∧ v5 < 2147483648) ∧ (-2147483648 ≤ (f_sizeH σ v2) ∧ (f_sizeH σ v2) < 2147483648) ∧ (((f_sizeH σ v2) ≤ v5 → post v3 σ) ∧ (¬ (f_sizeH σ v2) ≤ v5 → P_X4_scribeMixed_2 K y σ v2 v3 v5 0))) : P_X4_scribeMixed_1 K y σ v2 v3 v5 := by
  refine g_iload C.1 2 dX4_scribeMixed_15 rfl ?_
  refine g_aload_n C.1 0 dX4_scribeMixed_17 rfl rfl ?_
  obtain ⟨hd1, h⟩ := h
  refine c_get C.1 (ci := 3) (q := (RX2, TX2, 1)) rfl rfl inX4_scribeMixed_X2 0 (by decide) (v := .ref (y.1 14 v2 0)) rfl lk_X4_scribeMixed_f128 rfl dX4_scribeMixed_18 ⟨hd1.1, hd1.2, rfl⟩ ?_
  obtain ⟨hp2, h⟩ := h
  refine c_callV C.1 C.2.2.2.1 C.2.2.2.2 (h_sizeH K.l y σ v2 hp2) (ci := 0) (q := (RJx4a65c, TJx4a65c, 3)) rfl (c_recv rfl ⟨hd1.1, hd1.2, rfl⟩) (fun ht => cwV 0 ht gX4_scribeMixed_Jx4a65c_size_8abf5 rfl rfl rfl (by decide +kernel) ⟨Nat.le_of_ble_eq_true rfl, Nat.le_of_ble_eq_true rfl⟩) rfl rfl (Nat.le_of_ble_eq_true rfl) ⟨Nat.le_of_ble_eq_true rfl, Nat.le_of_ble_eq_true rfl⟩ dX4_scribeMixed_21 (fun r σ9 hq => ?_)
  rw [hq.1, hq.2]
  show G K (CL y σ) (0, 0) [(2, .ref (y.1 13 v2 0)), (3, .long (lZ v3)), (5, .int (iZ v5))] 24 [.int (iZ (f_sizeH σ v2)), .int (iZ v5)]
  obtain ⟨hc3, h⟩ := h
  obtain ⟨hc4, h⟩ := h
  refine g_icmp_ge C.1 (tgt := 70) dX4_scribeMixed_24 (by decide) hc3 hc4 (fun hc => ?_) (fun hc => ?_)
  · have h := h.1 hc
    refine g_lload_n C.1 1 dX4_scribeMixed_70 rfl rfl ?_
    exact x_lret C.1 C.2.2.1 rfl ⟨Nat.le_of_ble_eq_true rfl, Nat.le_of_ble_eq_true rfl⟩ dX4_scribeMixed_71 h
  · have h := h.2 hc
    refine g_iconst C.1 (z := 0) dX4_scribeMixed_27 ?_
    refine g_istore C.1 (i := 6) (loc' := [(6, .int (iZ 0)), (2, .ref (y.1 13 v2 0)), (3, .long (lZ v3)), (5, .int (iZ v5))]) C.2.1 dX4_scribeMixed_28 (by decide) rfl ?_
    exact g_sub [1, 2, 3, 0] rfl h
set_option maxRecDepth 100000 in
set_option maxHeartbeats 4000000 in
theorem b_X4_scribeMixed_2 {K : KT} {y : LT} {post : Int → CS → Prop} (C : C_X4_scribeMixed K y post) {p_getH : CS → Int → Int → Prop} {f_getH : CS → Int → Int → Int} (h_getH : H_getH p_getH f_getH) {p_part : CS → Int → Int → Int → Prop} {f_part : CS → Int → Int → Int → Int} (h_part : H_X0_part p_part f_part) {p_mixed : CS → Int → Int → Prop} {f_mixed : CS → Int → Int → Int} (h_mixed : H_X4_mixed p_mixed f_mixed) {σ : CS} {v2 v3 v5 v6 : Int} (h : (-2147483648 ≤ v6 ∧ v6 < 2147483648) ∧ ((4 ≤ v6 → P_X4_scribeMixed_1 K y σ v2 v3 (v5 + 1)) ∧ (¬ 4 ≤ v6 → (0 ≤ v2 ∧ v2 < (σ 22 0 0 0)) ∧ (p_getH σ v2 v5) ∧ ((0 ≤ v2 ∧ v2 < (σ 22 0 0 0)) ∧ (0 ≤ (f_getH σ v2 v5) ∧ (f_getH σ v2 v5) < (σ 23 v2 0 0))) ∧ (p_part σ v2 (f_getH σ v2 v5) v6) ∧ (p_mixed σ v3 (f_part σ v2 (f_getH σ v2 v5) v6)) ∧ P_X4_scribeMixed_2 K y σ v2 (f_mixed σ v3 (f_part σ v2 (f_getH σ v2 v5) v6)) v5 (v6 + 1)))) : P_X4_scribeMixed_2 K y σ v2 v3 v5 v6 := by
  refine g_iload C.1 3 dX4_scribeMixed_30 rfl ?_
  refine g_iconst C.1 (z := 4) dX4_scribeMixed_32 ?_
  obtain ⟨hc1, h⟩ := h
  refine g_icmp_ge C.1 (tgt := 64) dX4_scribeMixed_33 (by decide) hc1 (by decide) (fun hc => ?_) (fun hc => ?_)
  · have h := h.1 hc
    refine g_iinc C.1 (z := v5) (w := 1) (loc' := [(5, .int (iZ (v5 + 1))), (2, .ref (y.1 13 v2 0)), (3, .long (lZ v3)), (6, .int (iZ v6))]) 2 C.2.1 dX4_scribeMixed_64 rfl (by decide) rfl ?_
    refine g_goto C.1 (tgt := 15) dX4_scribeMixed_67 (by decide) ?_
    exact g_sub [1, 2, 0] rfl h
  · have h := h.2 hc
    refine g_lload_n C.1 1 dX4_scribeMixed_36 rfl rfl ?_
    refine g_aload_n C.1 0 dX4_scribeMixed_37 rfl rfl ?_
    obtain ⟨hd2, h⟩ := h
    refine c_get C.1 (ci := 3) (q := (RX2, TX2, 1)) rfl rfl inX4_scribeMixed_X2 0 (by decide) (v := .ref (y.1 14 v2 0)) rfl lk_X4_scribeMixed_f128 rfl dX4_scribeMixed_38 ⟨hd2.1, hd2.2, rfl⟩ ?_
    refine g_iload C.1 2 dX4_scribeMixed_41 rfl ?_
    obtain ⟨hp3, h⟩ := h
    refine c_callV C.1 C.2.2.2.1 C.2.2.2.2 (h_getH K.l y σ v2 v5 hp3) (ci := 0) (q := (RJx4a65c, TJx4a65c, 3)) rfl (c_recv rfl ⟨hd2.1, hd2.2, rfl⟩) (fun ht => cwV 1 ht gX4_scribeMixed_Jx4a65c_get_915e3 rfl rfl rfl (by decide +kernel) ⟨Nat.le_of_ble_eq_true rfl, Nat.le_of_ble_eq_true rfl⟩) rfl rfl (Nat.le_of_ble_eq_true rfl) ⟨Nat.le_of_ble_eq_true rfl, Nat.le_of_ble_eq_true rfl⟩ dX4_scribeMixed_43 (fun r σ9 hq => ?_)
    rw [hq.1, hq.2]
    show G K (CL y σ) (0, 0) [(2, .ref (y.1 13 v2 0)), (3, .long (lZ v3)), (5, .int (iZ v5)), (6, .int (iZ v6))] 46 [.ref (y.1 16 v2 (f_getH σ v2 v5)), .long (lZ v3)]
    obtain ⟨hd4, h⟩ := h
    refine c_cast C.1 C.2.2.2.1 (ci := 1) (q := (RX0, TX0, 4)) rfl rfl (by decide +kernel) lk_X4_scribeMixed_cc133 dX4_scribeMixed_46 ⟨hd4.1.1, hd4.1.2, hd4.2.1, hd4.2.2⟩ ?_
    refine g_iload C.1 3 dX4_scribeMixed_49 rfl ?_
    obtain ⟨hp5, h⟩ := h
    refine c_callV C.1 C.2.2.2.1 C.2.2.2.2 (h_part K.l y σ v2 (f_getH σ v2 v5) v6 hp5) (ci := 1) (q := (RX0, TX0, 4)) rfl (c_recv rfl ⟨hd4.1.1, hd4.1.2, hd4.2.1, hd4.2.2⟩) (fun ht => cwV 1 ht gX4_scribeMixed_X0_part rfl rfl rfl (by decide +kernel) ⟨Nat.le_of_ble_eq_true rfl, Nat.le_of_ble_eq_true rfl⟩) rfl rfl (Nat.le_of_ble_eq_true rfl) ⟨Nat.le_of_ble_eq_true rfl, Nat.le_of_ble_eq_true rfl⟩ dX4_scribeMixed_51 (fun r σ9 hq => ?_)
    rw [hq.1, hq.2]
    show G K (CL y σ) (0, 0) [(2, .ref (y.1 13 v2 0)), (3, .long (lZ v3)), (5, .int (iZ v5)), (6, .int (iZ v6))] 54 [.int (iZ (f_part σ v2 (f_getH σ v2 v5) v6)), .long (lZ v3)]
    obtain ⟨hp6, h⟩ := h
    refine c_callS C.1 C.2.2.2.1 C.2.2.2.2 (h_mixed K.l y σ v3 (f_part σ v2 (f_getH σ v2 v5) v6) hp6) (fun ht => va_cwS 2 ht gX4_scribeMixed_X4_mixed rfl rfl rfl (by decide +kernel) ⟨Nat.le_of_ble_eq_true rfl, Nat.le_of_ble_eq_true rfl⟩) rfl rfl (Nat.le_of_ble_eq_true rfl) ⟨Nat.le_of_ble_eq_true rfl, Nat.le_of_ble_eq_true rfl⟩ dX4_scribeMixed_54 (fun r σ9 hq => ?_)
    rw [hq.1, hq.2]
    show G K (CL y σ) (0, 0) [(2, .ref (y.1 13 v2 0)), (3, .long (lZ v3)), (5, .int (iZ v5)), (6, .int (iZ v6))] 57 [.long (lZ (f_mixed σ v3 (f_part σ v2 (f_getH σ v2 v5) v6)))]
    refine g_lstore_n C.1 (i := 3) (loc' := [(3, .long (lZ (f_mixed σ v3 (f_part σ v2 (f_getH σ v2 v5) v6)))), (2, .ref (y.1 13 v2 0)), (5, .int (iZ v5)), (6, .int (iZ v6))]) C.2.1 dX4_scribeMixed_57 rfl (by decide) rfl ?_
    refine g_iinc C.1 (z := v6) (w := 1) (loc' := [(6, .int (iZ (v6 + 1))), (3, .long (lZ (f_mixed σ v3 (f_part σ v2 (f_getH σ v2 v5) v6)))), (2, .ref (y.1 13 v2 0)), (5, .int (iZ v5))]) 3 C.2.1 dX4_scribeMixed_58 rfl (by decide) rfl ?_
    refine g_goto C.1 (tgt := 30) dX4_scribeMixed_61 (by decide) ?_
    exact g_sub [2, 1, 3, 0] rfl h
theorem m_X4_scribeMixed {l : Launch} {y : LT} {σ : CS} {v0 v2 : Int} {post : Int → CS → Prop} (h : ∀ K : KT, K.l = l → C_X4_scribeMixed K y post → P_X4_scribeMixed_0 K y σ v0 v2) : cMet l yX4_scribeMixed wsX4_scribeMixed rm_X4_scribeMixed y.2.2 (CL y) rkL [.long (lZ v0), .ref (y.1 13 v2 0)] σ post :=
  cMet.of (maxL := 7) (by decide +kernel) rfl (Nat.le_of_ble_eq_true rfl) (fun K h1 h2 h3 h4 h5 h6 _ => h K h1 ⟨h2, h3, h4, h5, h6⟩)
def H_X4_scribeMixed (p : CS → Int → Int → Prop) (f : CS → Int → Int → Int) : Prop := ∀ (l : Launch) (y : LT) (σ : CS) (v0 v2 : Int), p σ v0 v2 → cMet l yX4_scribeMixed wsX4_scribeMixed rm_X4_scribeMixed y.2.2 (CL y) rkL [.long (lZ v0), .ref (y.1 13 v2 0)] σ (fun r σ' => r = f σ v0 v2 ∧ σ' = σ)

/-! X4_textMixed -/
abbrev rm_X4_textMixed : Room := { frames := 1, cells := 0, slots := 0, locals := 22 }
set_option maxRecDepth 20000 in
theorem inX4_textMixed_X3 : ∀ w ∈ wsX30, w ∈ wsX4_textMixed := by decide +kernel
theorem lk_X4_textMixed_f93 : Cond.fieldLink RX4 93 "CopyHouse$Text" "length" "I" ∈ wsX4_textMixed := List.mem_of_getElem? (i := 1) (by decide +kernel)
theorem lk_X4_textMixed_f101 : Cond.fieldLink RX4 101 "CopyHouse$Text" "letters" "[B" ∈ wsX4_textMixed := List.mem_of_getElem? (i := 2) (by decide +kernel)
def C_X4_textMixed (K : KT) (y : LT) (post : Int → CS → Prop) : Prop := kOK K cX4_textMixed RX4 wsX4_textMixed (some .long) rm_X4_textMixed ∧ K.nL = 6 ∧ kQ K (CL y) rkL post rm_X4_textMixed ∧ SF y.2.2 K.A K.s K.s.heap ∧ K.l.stackTraces = false
def P_X4_textMixed_0 (K : KT) (y : LT) (σ : CS) (v0 v2 : Int) : Prop := G K (CL y σ) (0, 0) [(0, .long (lZ v0)), (2, .ref (y.1 8 v2 0))] 0 []
def P_X4_textMixed_1 (K : KT) (y : LT) (σ : CS) (v2 v3 v5 : Int) : Prop := G K (CL y σ) (0, 0) [(2, .ref (y.1 8 v2 0)), (3, .long (lZ v3)), (5, .int (iZ v5))] 5 []
set_option maxRecDepth 100000 in
set_option maxHeartbeats 4000000 in
theorem b_X4_textMixed_0 {K : KT} {y : LT} {post : Int → CS → Prop} (C : C_X4_textMixed K y post) {σ : CS} {v0 v2 : Int} (h : P_X4_textMixed_1 K y σ v2 v0 0) : P_X4_textMixed_0 K y σ v0 v2 := by
  refine g_lload_n C.1 0 dX4_textMixed_0 rfl rfl ?_
  refine g_lstore_n C.1 (i := 3) (loc' := [(3, .long (lZ v0)), (0, .long (lZ v0)), (2, .ref (y.1 8 v2 0))]) C.2.1 dX4_textMixed_1 rfl (by decide) rfl ?_
  refine g_iconst C.1 (z := 0) dX4_textMixed_2 ?_
  refine g_istore C.1 (i := 5) (loc' := [(5, .int (iZ 0)), (3, .long (lZ v0)), (0, .long (lZ v0)), (2, .ref (y.1 8 v2 0))]) C.2.1 dX4_textMixed_3 (by decide) rfl ?_
  exact g_sub [3, 1, 0] rfl h
set_option maxRecDepth 100000 in
set_option maxHeartbeats 4000000 in
theorem b_X4_textMixed_1 {K : KT} {y : LT} {post : Int → CS → Prop} (C : C_X4_textMixed K y post) {p_mixed : CS → Int → Int → Prop} {f_mixed : CS → Int → Int → Int} (h_mixed : H_X4_mixed p_mixed f_mixed) {σ : CS} {v2 v3 v5 : Int} (h : (0 ≤ v2 ∧ v2 < (σ 21 0 0 0) + 3) ∧ (-2147483648 ≤ v5 ∧ v5 < 2147483648) ∧ (-2147483648 ≤ (σ 5 v2 0 0) ∧ (σ 5 v2 0 0) < 2147483648) ∧ (((σ 5 v2 0 0) ≤ v5 → post v3 σ) ∧ (¬ (σ 5 v2 0 0) ≤ v5 → (0 ≤ v5 ∧ v5 < 120) ∧ (p_mixed σ v3 (σ 6 v2 v5 0)) ∧ P_X4_textMixed_1 K y σ v2 (f_mixed σ v3 (σ 6 v2 v5 0)) (v5 + 1)))) : P_X4_textMixed_1 K y σ v2 v3 v5 := by
  refine g_iload C.1 2 dX4_textMixed_5 rfl ?_
  refine g_aload_n C.1 0 dX4_textMixed_7 rfl rfl ?_
  obtain ⟨hd1, h⟩ := h
  refine c_get C.1 (ci := 4) (q := (RX3, TX3, 2)) rfl rfl inX4_textMixed_X3 1 (by decide) (v := .int (iZ (σ 5 v2 0 0))) rfl lk_X4_textMixed_f93 rfl dX4_textMixed_8 ⟨hd1.1, hd1.2, rfl⟩ ?_
  obtain ⟨hc2, h⟩ := h
  obtain ⟨hc3, h⟩ := h
  refine g_icmp_ge C.1 (tgt := 32) dX4_textMixed_11 (by decide) hc2 hc3 (fun hc => ?_) (fun hc => ?_)
  · have h := h.1 hc
    refine g_lload_n C.1 1 dX4_textMixed_32 rfl rfl ?_
    exact x_lret C.1 C.2.2.1 rfl ⟨Nat.le_of_ble_eq_true rfl, Nat.le_of_ble_eq_true rfl⟩ dX4_textMixed_33 h
  · have h := h.2 hc
    refine g_lload_n C.1 1 dX4_textMixed_14 rfl rfl ?_
    refine g_aload_n C.1 0 dX4_textMixed_15 rfl rfl ?_
    refine c_get C.1 (ci := 4) (q := (RX3, TX3, 2)) rfl rfl inX4_textMixed_X3 0 (by decide) (v := .ref (y.1 9 v2 0)) rfl lk_X4_textMixed_f101 rfl dX4_textMixed_16 ⟨hd1.1, hd1.2, rfl⟩ ?_
    refine g_iload C.1 2 dX4_textMixed_19 rfl ?_
    obtain ⟨hi4, h⟩ := h
    refine c_bald C.1 (N := 120) (f := fun p => σ 6 v2 p 0) (e := v5) rfl rfl rfl (by decide) dX4_textMixed_21 ⟨hd1.1, hd1.2, rfl⟩ hi4 ?_
    show G K (CL y σ) (0, 0) [(2, .ref (y.1 8 v2 0)), (3, .long (lZ v3)), (5, .int (iZ v5))] 22 [.int (iZ (σ 6 v2 v5 0)), .long (lZ v3)]
    obtain ⟨hp5, h⟩ := h
    refine c_callS C.1 C.2.2.2.1 C.2.2.2.2 (h_mixed K.l y σ v3 (σ 6 v2 v5 0) hp5) (fun ht => va_cwS 2 ht gX4_textMixed_X4_mixed rfl rfl rfl (by decide +kernel) ⟨Nat.le_of_ble_eq_true rfl, Nat.le_of_ble_eq_true rfl⟩) rfl rfl (Nat.le_of_ble_eq_true rfl) ⟨Nat.le_of_ble_eq_true rfl, Nat.le_of_ble_eq_true rfl⟩ dX4_textMixed_22 (fun r σ9 hq => ?_)
    rw [hq.1, hq.2]
    show G K (CL y σ) (0, 0) [(2, .ref (y.1 8 v2 0)), (3, .long (lZ v3)), (5, .int (iZ v5))] 25 [.long (lZ (f_mixed σ v3 (σ 6 v2 v5 0)))]
    refine g_lstore_n C.1 (i := 3) (loc' := [(3, .long (lZ (f_mixed σ v3 (σ 6 v2 v5 0)))), (2, .ref (y.1 8 v2 0)), (5, .int (iZ v5))]) C.2.1 dX4_textMixed_25 rfl (by decide) rfl ?_
    refine g_iinc C.1 (z := v5) (w := 1) (loc' := [(5, .int (iZ (v5 + 1))), (3, .long (lZ (f_mixed σ v3 (σ 6 v2 v5 0)))), (2, .ref (y.1 8 v2 0))]) 2 C.2.1 dX4_textMixed_26 rfl (by decide) rfl ?_
    refine g_goto C.1 (tgt := 5) dX4_textMixed_29 (by decide) ?_
    exact g_sub [2, 1, 0] rfl h
theorem m_X4_textMixed {l : Launch} {y : LT} {σ : CS} {v0 v2 : Int} {post : Int → CS → Prop} (h : ∀ K : KT, K.l = l → C_X4_textMixed K y post → P_X4_textMixed_0 K y σ v0 v2) : cMet l yX4_textMixed wsX4_textMixed rm_X4_textMixed y.2.2 (CL y) rkL [.long (lZ v0), .ref (y.1 8 v2 0)] σ post :=
  cMet.of (maxL := 6) (by decide +kernel) rfl (Nat.le_of_ble_eq_true rfl) (fun K h1 h2 h3 h4 h5 h6 _ => h K h1 ⟨h2, h3, h4, h5, h6⟩)
def H_X4_textMixed (p : CS → Int → Int → Prop) (f : CS → Int → Int → Int) : Prop := ∀ (l : Launch) (y : LT) (σ : CS) (v0 v2 : Int), p σ v0 v2 → cMet l yX4_textMixed wsX4_textMixed rm_X4_textMixed y.2.2 (CL y) rkL [.long (lZ v0), .ref (y.1 8 v2 0)] σ (fun r σ' => r = f σ v0 v2 ∧ σ' = σ)

/-! X4_emend -/
abbrev rm_X4_emend : Room := { frames := 7, cells := 3, slots := 18, locals := 121 }
set_option maxRecDepth 20000 in
theorem at_X4_emend_66 : ∀ w ∈ (vx_atS RX4 66 "java/lang/IllegalArgumentException" ["java/lang/RuntimeException", "java/lang/Exception"]).filter goodWord, w ∈ wsX4_emend := fun w h => by
  unfold wsX4_emend
  simp only [List.mem_cons, List.mem_append]
  simp only [h, or_true, true_or]
set_option maxRecDepth 20000 in
theorem inX4_emend_X1 : ∀ w ∈ wsX10, w ∈ wsX4_emend := by decide +kernel
set_option maxRecDepth 20000 in
theorem inX4_emend_X3 : ∀ w ∈ wsX30, w ∈ wsX4_emend := by decide +kernel
set_option maxRecDepth 20000 in
theorem at_X4_emend_55 : ∀ w ∈ (vx_atS RX4 55 "java/lang/IllegalStateException" ["java/lang/RuntimeException", "java/lang/Exception"]).filter goodWord, w ∈ wsX4_emend := fun w h => by
  unfold wsX4_emend
  simp only [List.mem_cons, List.mem_append]
  simp only [h, or_true, true_or]
theorem lk_X4_emend_cl62 : Cond.classLink RX4 62 "java/lang/IllegalArgumentException" ∈ wsX4_emend := List.mem_of_getElem? (i := 1) (by decide +kernel)
theorem lk_X4_emend_ini_IllegalArgumentException : Cond.initialized "java/lang/IllegalArgumentException" ∈ wsX4_emend := List.mem_of_getElem? (i := 2) (by decide +kernel)
theorem lk_X4_emend_f88 : Cond.fieldLink RX4 88 "CopyHouse$Manuscript" "text" "LCopyHouse$Text;" ∈ wsX4_emend := List.mem_of_getElem? (i := 5) (by decide +kernel)
theorem lk_X4_emend_f93 : Cond.fieldLink RX4 93 "CopyHouse$Text" "length" "I" ∈ wsX4_emend := List.mem_of_getElem? (i := 6) (by decide +kernel)
theorem lk_X4_emend_f153 : Cond.fieldLink RX4 153 "CopyHouse$Manuscript" "there" "Z" ∈ wsX4_emend := List.mem_of_getElem? (i := 7) (by decide +kernel)
theorem lk_X4_emend_cl51 : Cond.classLink RX4 51 "java/lang/IllegalStateException" ∈ wsX4_emend := List.mem_of_getElem? (i := 3) (by decide +kernel)
theorem lk_X4_emend_ini_IllegalStateException : Cond.initialized "java/lang/IllegalStateException" ∈ wsX4_emend := List.mem_of_getElem? (i := 4) (by decide +kernel)
def C_X4_emend (K : KT) (y : LT) (post : Int → CS → Prop) (px : String → CS → Prop) : Prop := kOK K cX4_emend RX4 wsX4_emend (some .int) rm_X4_emend ∧ K.nL = 7 ∧ kQX K (CL y) rkI post px rm_X4_emend ∧ SF y.2.2 K.A K.s K.s.heap ∧ K.l.stackTraces = false ∧ kNX K
def P_X4_emend_0 (K : KT) (y : LT) (σ : CS) (v1 v2 v3 v4 : Int) : Prop := G K (CL y σ) (0, 0) [(0, .ref (y.1 0 0 0)), (1, .int (iZ v1)), (2, .int (iZ v2)), (3, .int (iZ v3)), (4, .int (iZ v4))] 0 []
set_option maxRecDepth 100000 in
set_option maxHeartbeats 4000000 in
theorem b_X4_emend_0 {K : KT} {y : LT} {post : Int → CS → Prop} {px : String → CS → Prop} (C : C_X4_emend K y post px) {p_manuscriptOf : CS → Int → Prop} {o_manuscriptOf : CS → Int → Int → CS → Prop} {x_manuscriptOf : CS → Int → String → CS → Prop} (h_manuscriptOf : H_X4_manuscriptOf p_manuscriptOf o_manuscriptOf x_manuscriptOf) {p_forgetMeasures : CS → Int → Prop} {o_forgetMeasures : CS → Int → Int → CS → Prop} (h_forgetMeasures : H_X4_forgetMeasures p_forgetMeasures o_forgetMeasures) {p_takeFrom : CS → Int → Int → Int → Int → Prop} {o_takeFrom : CS → Int → Int → Int → Int → Int → CS → Prop} (h_takeFrom : H_X3_takeFrom p_takeFrom o_takeFrom) {σ : CS} {v1 v2 v3 v4 : Int} (h : (p_manuscriptOf σ v1) ∧ (∀ (E : String) (u9 : CS), x_manuscriptOf σ v1 E u9 → px E u9) ∧ ∀ (r2 : Int) (σ3 : CS), o_manuscriptOf σ v1 r2 σ3 → (p_manuscriptOf σ3 v2) ∧ (∀ (E : String) (u9 : CS), x_manuscriptOf σ3 v2 E u9 → px E u9) ∧ ∀ (r5 : Int) (σ6 : CS), o_manuscriptOf σ3 v2 r5 σ6 → (-2147483648 ≤ v4 ∧ v4 < 2147483648) ∧ ((v4 < 1 → px "java/lang/IllegalArgumentException" σ6) ∧ (¬ v4 < 1 → ((v4 ≤ 120 → (-2147483648 ≤ v3 ∧ v3 < 2147483648) ∧ ((v3 < 0 → px "java/lang/IllegalArgumentException" σ6) ∧ (¬ v3 < 0 → (0 ≤ r2 ∧ r2 < (σ6 21 0 0 0)) ∧ (0 ≤ (r2 + 3) ∧ (r2 + 3) < (σ6 21 0 0 0) + 3) ∧ (-2147483648 ≤ ((σ6 5 (r2 + 3) 0 0) - v4) ∧ ((σ6 5 (r2 + 3) 0 0) - v4) < 2147483648) ∧ ((((σ6 5 (r2 + 3) 0 0) - v4) < v3 → px "java/lang/IllegalArgumentException" σ6) ∧ (¬ ((σ6 5 (r2 + 3) 0 0) - v4) < v3 → (0 ≤ r5 ∧ r5 < (σ6 21 0 0 0)) ∧ (0 ≤ (r5 + 3) ∧ (r5 + 3) < (σ6 21 0 0 0) + 3) ∧ (-2147483648 ≤ ((σ6 5 (r5 + 3) 0 0) - v4) ∧ ((σ6 5 (r5 + 3) 0 0) - v4) < 2147483648) ∧ ((v3 ≤ ((σ6 5 (r5 + 3) 0 0) - v4) → (-2147483648 ≤ (σ6 12 r2 0 0) ∧ (σ6 12 r2 0 0) < 2147483648) ∧ (((σ6 12 r2 0 0) = 0 → px "java/lang/IllegalStateException" σ6) ∧ (¬ (σ6 12 r2 0 0) = 0 → (-2147483648 ≤ (σ6 12 r5 0 0) ∧ (σ6 12 r5 0 0) < 2147483648) ∧ ((¬ (σ6 12 r5 0 0) = 0 → (p_forgetMeasures σ6 v1) ∧ ∀ (r18 : Int) (σ19 : CS), o_forgetMeasures σ6 v1 r18 σ19 → (0 ≤ r2 ∧ r2 < (σ19 21 0 0 0)) ∧ (0 ≤ r5 ∧ r5 < (σ19 21 0 0 0)) ∧ (p_takeFrom σ19 (r2 + 3) (r5 + 3) v3 v4) ∧ (0 ≤ (r2 + 3) ∧ (r2 + 3) < (σ19 21 0 0 0) + 3) ∧ ∀ (r24 : Int) (σ25 : CS), o_takeFrom σ19 (r2 + 3) (r5 + 3) v3 v4 r24 σ25 → post r24 σ25) ∧ ((σ6 12 r5 0 0) = 0 → px "java/lang/IllegalStateException" σ6))))) ∧ (¬ v3 ≤ ((σ6 5 (r5 + 3) 0 0) - v4) → px "java/lang/IllegalArgumentException" σ6))))))) ∧ (¬ v4 ≤ 120 → px "java/lang/IllegalArgumentException" σ6))))) : P_X4_emend_0 K y σ v1 v2 v3 v4 := by
  refine g_aload_n C.1 0 dX4_emend_0 rfl rfl ?_
  refine g_iload_n C.1 1 dX4_emend_1 rfl rfl ?_
  obtain ⟨hp1, h⟩ := h
  obtain ⟨hx9, h⟩ := h
  refine c_callX C.1 C.2.2.1 C.2.2.2.2.2 C.2.2.2.1 C.2.2.2.2.1 (h_manuscriptOf K.l y σ v1 hp1) (ci := 5) (q := (RX4, TX4, 10)) rfl (c_recv rfl ⟨rfl, rfl⟩) (fun ht => cwV 1 ht gX4_emend_X4_manuscriptOf rfl rfl rfl (by decide +kernel) ⟨Nat.le_of_ble_eq_true rfl, Nat.le_of_ble_eq_true rfl⟩) rfl rfl (Nat.le_of_ble_eq_true rfl) ⟨Nat.le_of_ble_eq_true rfl, Nat.le_of_ble_eq_true rfl⟩ ⟨Nat.le_of_ble_eq_true rfl, Nat.le_of_ble_eq_true rfl⟩ dX4_emend_2 (fun E u9 hq => ⟨u9, hx9 E u9 hq, fun _ _ w9 => w9⟩) (fun r2 σ3 hq => ?_)
  have h := h r2 σ3 hq
  show G K (CL y σ3) (1, 6) [(0, .ref (y.1 0 0 0)), (1, .int (iZ v1)), (2, .int (iZ v2)), (3, .int (iZ v3)), (4, .int (iZ v4))] 5 [vM y r2]
  refine g_astoreM C.1 (i := 5) (loc' := [(0, .ref (y.1 0 0 0)), (1, .int (iZ v1)), (2, .int (iZ v2)), (3, .int (iZ v3)), (4, .int (iZ v4))]) C.2.1 dX4_emend_5 (by decide) rfl ?_
  refine g_aload_n C.1 1 dX4_emend_7 rfl rfl ?_
  refine g_iload_n C.1 3 dX4_emend_8 rfl rfl ?_
  obtain ⟨hp4, h⟩ := h
  obtain ⟨hx9, h⟩ := h
  refine c_callX C.1 C.2.2.1 C.2.2.2.2.2 C.2.2.2.1 C.2.2.2.2.1 (h_manuscriptOf K.l y σ3 v2 hp4) (ci := 5) (q := (RX4, TX4, 10)) rfl (c_recv rfl ⟨rfl, rfl⟩) (fun ht => cwV 1 ht gX4_emend_X4_manuscriptOf rfl rfl rfl (by decide +kernel) ⟨Nat.le_of_ble_eq_true rfl, Nat.le_of_ble_eq_true rfl⟩) rfl rfl (Nat.le_of_ble_eq_true rfl) ⟨Nat.le_of_ble_eq_true rfl, Nat.le_of_ble_eq_true rfl⟩ ⟨Nat.le_of_ble_eq_true rfl, Nat.le_of_ble_eq_true rfl⟩ dX4_emend_9 (fun E u9 hq => ⟨u9, hx9 E u9 hq, fun _ _ w9 => w9⟩) (fun r5 σ6 hq => ?_)
  have h := h r5 σ6 hq
  show G K (CL y σ6) (2, 12) [(5, vM y r2), (0, .ref (y.1 0 0 0)), (1, .int (iZ v1)), (2, .int (iZ v2)), (3, .int (iZ v3)), (4, .int (iZ v4))] 12 [vM y r5]
  refine g_astoreM C.1 (i := 6) (loc' := [(5, vM y r2), (0, .ref (y.1 0 0 0)), (1, .int (iZ v1)), (2, .int (iZ v2)), (3, .int (iZ v3)), (4, .int (iZ v4))]) C.2.1 dX4_emend_12 (by decide) (by simp [vM_cat, cat_i, cat_r, cat_l]) ?_
  refine g_iload C.1 6 dX4_emend_14 rfl ?_
  refine g_iconst C.1 (z := 1) dX4_emend_16 ?_
  obtain ⟨hc7, h⟩ := h
  refine g_icmp_lt C.1 (tgt := 27) dX4_emend_17 (by decide) hc7 (by decide) (fun hc => ?_) (fun hc => ?_)
  · have h := h.1 hc
    exact y_throw C.1 C.2.2.1 C.2.2.2.1 C.2.2.2.2.1 C.2.2.2.2.2 (E := "java/lang/IllegalArgumentException") (text := "no such number of places") (ik := 62) (is := 163) (ic := 66) (by decide +kernel) lk_X4_emend_cl62 lk_X4_emend_ini_IllegalArgumentException (by decide +kernel) at_X4_emend_66 (by decide +kernel) (by decide +kernel) (by decide +kernel) dX4_emend_27 dX4_emend_30 dX4_emend_31 dX4_emend_33 dX4_emend_36 (Nat.le_of_ble_eq_true rfl) (Nat.le_of_ble_eq_true rfl) (Nat.le_of_ble_eq_true rfl) (Nat.le_of_ble_eq_true rfl) ⟨(Nat.le_of_ble_eq_true rfl), (Nat.le_of_ble_eq_true rfl)⟩ h
  · have h := h.2 hc
    refine g_iload C.1 6 dX4_emend_20 rfl ?_
    refine g_bipush C.1 (z := 120) dX4_emend_22 (by decide) ?_
    refine g_icmp_le C.1 (tgt := 37) dX4_emend_24 (by decide) hc7 (by decide) (fun hc => ?_) (fun hc => ?_)
    · have h := h.1 hc
      refine g_iload_n C.1 5 dX4_emend_37 rfl rfl ?_
      obtain ⟨hc8, h⟩ := h
      refine g_if_lt C.1 (tgt := 71) dX4_emend_38 (by decide) hc8 (fun hc => ?_) (fun hc => ?_)
      · have h := h.1 hc
        exact y_throw C.1 C.2.2.1 C.2.2.2.1 C.2.2.2.2.1 C.2.2.2.2.2 (E := "java/lang/IllegalArgumentException") (text := "not in both texts") (ik := 62) (is := 165) (ic := 66) (by decide +kernel) lk_X4_emend_cl62 lk_X4_emend_ini_IllegalArgumentException (by decide +kernel) at_X4_emend_66 (by decide +kernel) (by decide +kernel) (by decide +kernel) dX4_emend_71 dX4_emend_74 dX4_emend_75 dX4_emend_77 dX4_emend_80 (Nat.le_of_ble_eq_true rfl) (Nat.le_of_ble_eq_true rfl) (Nat.le_of_ble_eq_true rfl) (Nat.le_of_ble_eq_true rfl) ⟨(Nat.le_of_ble_eq_true rfl), (Nat.le_of_ble_eq_true rfl)⟩ h
      · have h := h.2 hc
        refine g_iload_n C.1 5 dX4_emend_41 rfl rfl ?_
        refine g_aloadM C.1 1 dX4_emend_42 rfl ?_
        obtain ⟨hd9, h⟩ := h
        refine c_atM hd9.1 ?_
        refine c_get C.1 (ci := 2) (q := (RX1, TX1, 6)) rfl rfl inX4_emend_X1 4 (by decide) (v := .ref (y.1 8 (r2 + 3) 0)) rfl lk_X4_emend_f88 rfl dX4_emend_44 ⟨hd9.1, hd9.2, rfl⟩ ?_
        obtain ⟨hd10, h⟩ := h
        refine c_get C.1 (ci := 4) (q := (RX3, TX3, 2)) rfl rfl inX4_emend_X3 1 (by decide) (v := .int (iZ (σ6 5 (r2 + 3) 0 0))) rfl lk_X4_emend_f93 rfl dX4_emend_47 ⟨hd10.1, hd10.2, rfl⟩ ?_
        refine g_iload C.1 6 dX4_emend_50 rfl ?_
        refine g_isub C.1 (x := σ6 5 (r2 + 3) 0 0) (y := v4) dX4_emend_52 ?_
        obtain ⟨hc11, h⟩ := h
        refine g_icmp_gt C.1 (tgt := 71) dX4_emend_53 (by decide) hc8 hc11 (fun hc => ?_) (fun hc => ?_)
        · have h := h.1 hc
          exact y_throw C.1 C.2.2.1 C.2.2.2.1 C.2.2.2.2.1 C.2.2.2.2.2 (E := "java/lang/IllegalArgumentException") (text := "not in both texts") (ik := 62) (is := 165) (ic := 66) (by decide +kernel) lk_X4_emend_cl62 lk_X4_emend_ini_IllegalArgumentException (by decide +kernel) at_X4_emend_66 (by decide +kernel) (by decide +kernel) (by decide +kernel) dX4_emend_71 dX4_emend_74 dX4_emend_75 dX4_emend_77 dX4_emend_80 (Nat.le_of_ble_eq_true rfl) (Nat.le_of_ble_eq_true rfl) (Nat.le_of_ble_eq_true rfl) (Nat.le_of_ble_eq_true rfl) ⟨(Nat.le_of_ble_eq_true rfl), (Nat.le_of_ble_eq_true rfl)⟩ h
        · have h := h.2 hc
          refine g_iload_n C.1 5 dX4_emend_56 rfl rfl ?_
          refine g_aloadM C.1 0 dX4_emend_57 rfl ?_
          obtain ⟨hd12, h⟩ := h
          refine c_atM hd12.1 ?_
          refine c_get C.1 (ci := 2) (q := (RX1, TX1, 6)) rfl rfl inX4_emend_X1 4 (by decide) (v := .ref (y.1 8 (r5 + 3) 0)) rfl lk_X4_emend_f88 rfl dX4_emend_59 ⟨hd12.1, hd12.2, rfl⟩ ?_
          obtain ⟨hd13, h⟩ := h
          refine c_get C.1 (ci := 4) (q := (RX3, TX3, 2)) rfl rfl inX4_emend_X3 1 (by decide) (v := .int (iZ (σ6 5 (r5 + 3) 0 0))) rfl lk_X4_emend_f93 rfl dX4_emend_62 ⟨hd13.1, hd13.2, rfl⟩ ?_
          refine g_iload C.1 6 dX4_emend_65 rfl ?_
          refine g_isub C.1 (x := σ6 5 (r5 + 3) 0 0) (y := v4) dX4_emend_67 ?_
          obtain ⟨hc14, h⟩ := h
          refine g_icmp_le C.1 (tgt := 81) dX4_emend_68 (by decide) hc8 hc14 (fun hc => ?_) (fun hc => ?_)
          · have h := h.1 hc
            refine g_aloadM C.1 1 dX4_emend_81 rfl ?_
            refine c_atM hd9.1 ?_
            refine c_get C.1 (ci := 2) (q := (RX1, TX1, 6)) rfl rfl inX4_emend_X1 5 (by decide) (v := .int (iZ (σ6 12 r2 0 0))) rfl lk_X4_emend_f153 rfl dX4_emend_83 ⟨hd9.1, hd9.2, rfl⟩ ?_
            obtain ⟨hc15, h⟩ := h
            refine g_if_eq C.1 (tgt := 97) dX4_emend_86 (by decide) hc15 (fun hc => ?_) (fun hc => ?_)
            · have h := h.1 hc
              exact y_throw C.1 C.2.2.1 C.2.2.2.1 C.2.2.2.2.1 C.2.2.2.2.2 (E := "java/lang/IllegalStateException") (text := "one of both is lost") (ik := 51) (is := 167) (ic := 55) (by decide +kernel) lk_X4_emend_cl51 lk_X4_emend_ini_IllegalStateException (by decide +kernel) at_X4_emend_55 (by decide +kernel) (by decide +kernel) (by decide +kernel) dX4_emend_97 dX4_emend_100 dX4_emend_101 dX4_emend_103 dX4_emend_106 (Nat.le_of_ble_eq_true rfl) (Nat.le_of_ble_eq_true rfl) (Nat.le_of_ble_eq_true rfl) (Nat.le_of_ble_eq_true rfl) ⟨(Nat.le_of_ble_eq_true rfl), (Nat.le_of_ble_eq_true rfl)⟩ h
            · have h := h.2 hc
              refine g_aloadM C.1 0 dX4_emend_89 rfl ?_
              refine c_atM hd12.1 ?_
              refine c_get C.1 (ci := 2) (q := (RX1, TX1, 6)) rfl rfl inX4_emend_X1 5 (by decide) (v := .int (iZ (σ6 12 r5 0 0))) rfl lk_X4_emend_f153 rfl dX4_emend_91 ⟨hd12.1, hd12.2, rfl⟩ ?_
              obtain ⟨hc16, h⟩ := h
              refine g_if_ne C.1 (tgt := 107) dX4_emend_94 (by decide) hc16 (fun hc => ?_) (fun hc => ?_)
              · have h := h.1 hc
                refine g_aload_n C.1 2 dX4_emend_107 rfl rfl ?_
                refine g_iload_n C.1 3 dX4_emend_108 rfl rfl ?_
                obtain ⟨hp17, h⟩ := h
                refine c_callV C.1 C.2.2.2.1 C.2.2.2.2.1 (h_forgetMeasures K.l y σ6 v1 hp17) (ci := 5) (q := (RX4, TX4, 10)) rfl (c_recv rfl ⟨rfl, rfl⟩) (fun ht => cwV 1 ht gX4_emend_X4_forgetMeasures rfl rfl rfl (by decide +kernel) ⟨Nat.le_of_ble_eq_true rfl, Nat.le_of_ble_eq_true rfl⟩) rfl rfl (Nat.le_of_ble_eq_true rfl) ⟨Nat.le_of_ble_eq_true rfl, Nat.le_of_ble_eq_true rfl⟩ dX4_emend_109 (fun r18 σ19 hq => ?_)
                have h := h r18 σ19 hq
                show G K (CL y σ19) (2, 12) [(6, vM y r5), (5, vM y r2), (0, .ref (y.1 0 0 0)), (1, .int (iZ v1)), (2, .int (iZ v2)), (3, .int (iZ v3)), (4, .int (iZ v4))] 112 []
                refine g_aloadM C.1 1 dX4_emend_112 rfl ?_
                obtain ⟨hd20, h⟩ := h
                refine c_atM hd20.1 ?_
                refine c_get C.1 (ci := 2) (q := (RX1, TX1, 6)) rfl rfl inX4_emend_X1 4 (by decide) (v := .ref (y.1 8 (r2 + 3) 0)) rfl lk_X4_emend_f88 rfl dX4_emend_114 ⟨hd20.1, hd20.2, rfl⟩ ?_
                refine g_aloadM C.1 0 dX4_emend_117 rfl ?_
                obtain ⟨hd21, h⟩ := h
                refine c_atM hd21.1 ?_
                refine c_get C.1 (ci := 2) (q := (RX1, TX1, 6)) rfl rfl inX4_emend_X1 4 (by decide) (v := .ref (y.1 8 (r5 + 3) 0)) rfl lk_X4_emend_f88 rfl dX4_emend_119 ⟨hd21.1, hd21.2, rfl⟩ ?_
                refine g_iload_n C.1 5 dX4_emend_122 rfl rfl ?_
                refine g_iload C.1 6 dX4_emend_123 rfl ?_
                obtain ⟨hp22, h⟩ := h
                obtain ⟨hd23, h⟩ := h
                refine c_callV C.1 C.2.2.2.1 C.2.2.2.2.1 (h_takeFrom K.l y σ19 (r2 + 3) (r5 + 3) v3 v4 hp22) (ci := 4) (q := (RX3, TX3, 2)) rfl (c_recv rfl ⟨hd23.1, hd23.2, rfl⟩) (fun ht => cwV 3 ht gX4_emend_X3_takeFrom rfl rfl rfl (by decide +kernel) ⟨Nat.le_of_ble_eq_true rfl, Nat.le_of_ble_eq_true rfl⟩) rfl rfl (Nat.le_of_ble_eq_true rfl) ⟨Nat.le_of_ble_eq_true rfl, Nat.le_of_ble_eq_true rfl⟩ dX4_emend_125 (fun r24 σ25 hq => ?_)
                have h := h r24 σ25 hq
                show G K (CL y σ25) (2, 12) [(6, vM y r5), (5, vM y r2), (0, .ref (y.1 0 0 0)), (1, .int (iZ v1)), (2, .int (iZ v2)), (3, .int (iZ v3)), (4, .int (iZ v4))] 128 [.int (iZ r24)]
                exact y_iret C.1 C.2.2.1 rfl ⟨Nat.le_of_ble_eq_true rfl, Nat.le_of_ble_eq_true rfl⟩ dX4_emend_128 h
              · have h := h.2 hc
                exact y_throw C.1 C.2.2.1 C.2.2.2.1 C.2.2.2.2.1 C.2.2.2.2.2 (E := "java/lang/IllegalStateException") (text := "one of both is lost") (ik := 51) (is := 167) (ic := 55) (by decide +kernel) lk_X4_emend_cl51 lk_X4_emend_ini_IllegalStateException (by decide +kernel) at_X4_emend_55 (by decide +kernel) (by decide +kernel) (by decide +kernel) dX4_emend_97 dX4_emend_100 dX4_emend_101 dX4_emend_103 dX4_emend_106 (Nat.le_of_ble_eq_true rfl) (Nat.le_of_ble_eq_true rfl) (Nat.le_of_ble_eq_true rfl) (Nat.le_of_ble_eq_true rfl) ⟨(Nat.le_of_ble_eq_true rfl), (Nat.le_of_ble_eq_true rfl)⟩ h
          · have h := h.2 hc
            exact y_throw C.1 C.2.2.1 C.2.2.2.1 C.2.2.2.2.1 C.2.2.2.2.2 (E := "java/lang/IllegalArgumentException") (text := "not in both texts") (ik := 62) (is := 165) (ic := 66) (by decide +kernel) lk_X4_emend_cl62 lk_X4_emend_ini_IllegalArgumentException (by decide +kernel) at_X4_emend_66 (by decide +kernel) (by decide +kernel) (by decide +kernel) dX4_emend_71 dX4_emend_74 dX4_emend_75 dX4_emend_77 dX4_emend_80 (Nat.le_of_ble_eq_true rfl) (Nat.le_of_ble_eq_true rfl) (Nat.le_of_ble_eq_true rfl) (Nat.le_of_ble_eq_true rfl) ⟨(Nat.le_of_ble_eq_true rfl), (Nat.le_of_ble_eq_true rfl)⟩ h
    · have h := h.2 hc
      exact y_throw C.1 C.2.2.1 C.2.2.2.1 C.2.2.2.2.1 C.2.2.2.2.2 (E := "java/lang/IllegalArgumentException") (text := "no such number of places") (ik := 62) (is := 163) (ic := 66) (by decide +kernel) lk_X4_emend_cl62 lk_X4_emend_ini_IllegalArgumentException (by decide +kernel) at_X4_emend_66 (by decide +kernel) (by decide +kernel) (by decide +kernel) dX4_emend_27 dX4_emend_30 dX4_emend_31 dX4_emend_33 dX4_emend_36 (Nat.le_of_ble_eq_true rfl) (Nat.le_of_ble_eq_true rfl) (Nat.le_of_ble_eq_true rfl) (Nat.le_of_ble_eq_true rfl) ⟨(Nat.le_of_ble_eq_true rfl), (Nat.le_of_ble_eq_true rfl)⟩ h
theorem m_X4_emend {l : Launch} {y : LT} {σ : CS} {v1 v2 v3 v4 : Int} {post : Int → CS → Prop} {px : String → CS → Prop} (h : ∀ K : KT, K.l = l → C_X4_emend K y post px → P_X4_emend_0 K y σ v1 v2 v3 v4) : vMet l yX4_emend wsX4_emend rm_X4_emend y.2.2 (CL y) rkI [.ref (y.1 0 0 0), .int (iZ v1), .int (iZ v2), .int (iZ v3), .int (iZ v4)] σ post px :=
  vMet.of (maxL := 7) (by decide +kernel) rfl (Nat.le_of_ble_eq_true rfl) (fun K h1 h2 h3 h4 h5 h6 h7 => h K h1 ⟨h2, h3, h4, h5, h6, h7⟩)
def H_X4_emend (p : CS → Int → Int → Int → Int → Prop) (o : CS → Int → Int → Int → Int → Int → CS → Prop) (x : CS → Int → Int → Int → Int → String → CS → Prop) : Prop := ∀ (l : Launch) (y : LT) (σ : CS) (v1 v2 v3 v4 : Int), p σ v1 v2 v3 v4 → vMet l yX4_emend wsX4_emend rm_X4_emend y.2.2 (CL y) rkI [.ref (y.1 0 0 0), .int (iZ v1), .int (iZ v2), .int (iZ v3), .int (iZ v4)] σ (fun r σ' => o σ v1 v2 v3 v4 r σ') (x σ v1 v2 v3 v4)

/-! X4_lose -/
abbrev rm_X4_lose : Room := { frames := 7, cells := 2, slots := 12, locals := 121 }
set_option maxRecDepth 20000 in
theorem inX4_lose_X1 : ∀ w ∈ wsX10, w ∈ wsX4_lose := by decide +kernel
set_option maxRecDepth 20000 in
theorem at_X4_lose_55 : ∀ w ∈ (vx_atS RX4 55 "java/lang/IllegalStateException" ["java/lang/RuntimeException", "java/lang/Exception"]).filter goodWord, w ∈ wsX4_lose := fun w h => by
  unfold wsX4_lose
  simp only [List.mem_cons, List.mem_append]
  simp only [h, or_true, true_or]
theorem lk_X4_lose_f153 : Cond.fieldLink RX4 153 "CopyHouse$Manuscript" "there" "Z" ∈ wsX4_lose := List.mem_of_getElem? (i := 3) (by decide +kernel)
theorem lk_X4_lose_cl51 : Cond.classLink RX4 51 "java/lang/IllegalStateException" ∈ wsX4_lose := List.mem_of_getElem? (i := 1) (by decide +kernel)
theorem lk_X4_lose_ini_IllegalStateException : Cond.initialized "java/lang/IllegalStateException" ∈ wsX4_lose := List.mem_of_getElem? (i := 2) (by decide +kernel)
def C_X4_lose (K : KT) (y : LT) (post : Int → CS → Prop) (px : String → CS → Prop) : Prop := kOK K cX4_lose RX4 wsX4_lose (some .int) rm_X4_lose ∧ K.nL = 3 ∧ kQX K (CL y) rkI post px rm_X4_lose ∧ SF y.2.2 K.A K.s K.s.heap ∧ K.l.stackTraces = false ∧ kNX K
def P_X4_lose_0 (K : KT) (y : LT) (σ : CS) (v1 : Int) : Prop := G K (CL y σ) (0, 0) [(0, .ref (y.1 0 0 0)), (1, .int (iZ v1))] 0 []
set_option maxRecDepth 100000 in
set_option maxHeartbeats 4000000 in
theorem b_X4_lose_0 {K : KT} {y : LT} {post : Int → CS → Prop} {px : String → CS → Prop} (C : C_X4_lose K y post px) {p_manuscriptOf : CS → Int → Prop} {o_manuscriptOf : CS → Int → Int → CS → Prop} {x_manuscriptOf : CS → Int → String → CS → Prop} (h_manuscriptOf : H_X4_manuscriptOf p_manuscriptOf o_manuscriptOf x_manuscriptOf) {p_thoseThere : CS → Prop} {f_thoseThere : CS → Int} (h_thoseThere : H_X4_thoseThere p_thoseThere f_thoseThere) {σ : CS} {v1 : Int} (h : (p_manuscriptOf σ v1) ∧ (∀ (E : String) (u9 : CS), x_manuscriptOf σ v1 E u9 → px E u9) ∧ ∀ (r2 : Int) (σ3 : CS), o_manuscriptOf σ v1 r2 σ3 → (0 ≤ r2 ∧ r2 < (σ3 21 0 0 0)) ∧ (-2147483648 ≤ (σ3 12 r2 0 0) ∧ (σ3 12 r2 0 0) < 2147483648) ∧ ((¬ (σ3 12 r2 0 0) = 0 → (p_thoseThere (upC σ3 12 (up1 (σ3 12) r2 0))) ∧ post (f_thoseThere (upC σ3 12 (up1 (σ3 12) r2 0))) (upC σ3 12 (up1 (σ3 12) r2 0))) ∧ ((σ3 12 r2 0 0) = 0 → px "java/lang/IllegalStateException" σ3))) : P_X4_lose_0 K y σ v1 := by
  refine g_aload_n C.1 0 dX4_lose_0 rfl rfl ?_
  refine g_iload_n C.1 1 dX4_lose_1 rfl rfl ?_
  obtain ⟨hp1, h⟩ := h
  obtain ⟨hx9, h⟩ := h
  refine c_callX C.1 C.2.2.1 C.2.2.2.2.2 C.2.2.2.1 C.2.2.2.2.1 (h_manuscriptOf K.l y σ v1 hp1) (ci := 5) (q := (RX4, TX4, 10)) rfl (c_recv rfl ⟨rfl, rfl⟩) (fun ht => cwV 1 ht gX4_lose_X4_manuscriptOf rfl rfl rfl (by decide +kernel) ⟨Nat.le_of_ble_eq_true rfl, Nat.le_of_ble_eq_true rfl⟩) rfl rfl (Nat.le_of_ble_eq_true rfl) ⟨Nat.le_of_ble_eq_true rfl, Nat.le_of_ble_eq_true rfl⟩ ⟨Nat.le_of_ble_eq_true rfl, Nat.le_of_ble_eq_true rfl⟩ dX4_lose_2 (fun E u9 hq => ⟨u9, hx9 E u9 hq, fun _ _ w9 => w9⟩) (fun r2 σ3 hq => ?_)
  have h := h r2 σ3 hq
  show G K (CL y σ3) (1, 6) [(0, .ref (y.1 0 0 0)), (1, .int (iZ v1))] 5 [vM y r2]
  refine g_astoreM_n C.1 (i := 2) (loc' := [(0, .ref (y.1 0 0 0)), (1, .int (iZ v1))]) C.2.1 dX4_lose_5 rfl (by decide) rfl ?_
  refine g_aloadM_n C.1 0 dX4_lose_6 rfl rfl ?_
  obtain ⟨hd4, h⟩ := h
  refine c_atM hd4.1 ?_
  refine c_get C.1 (ci := 2) (q := (RX1, TX1, 6)) rfl rfl inX4_lose_X1 5 (by decide) (v := .int (iZ (σ3 12 r2 0 0))) rfl lk_X4_lose_f153 rfl dX4_lose_7 ⟨hd4.1, hd4.2, rfl⟩ ?_
  obtain ⟨hc5, h⟩ := h
  refine g_if_ne C.1 (tgt := 23) dX4_lose_10 (by decide) hc5 (fun hc => ?_) (fun hc => ?_)
  · have h := h.1 hc
    refine g_aloadM_n C.1 0 dX4_lose_23 rfl rfl ?_
    refine g_iconst C.1 (z := 0) dX4_lose_24 ?_
    refine c_atM2 hd4.1 ?_
    refine c_put C.1 (σ' := upC σ3 12 (up1 (σ3 12) r2 0)) (ci := 2) (q := (RX1, TX1, 6)) rfl rfl inX4_lose_X1 tyX1 tyX1_ok nmX1 5 (by decide) (Nat.le_of_ble_eq_true rfl) (v := .int (iZ 0)) (ty := .boolean) (cu_there _ _ _ _) (CUpd_12 y _ _ _ (fun _ hx => if_neg hx)) lk_X4_lose_f153 rfl rfl rfl (by decide) (by decide) dX4_lose_25 ⟨hd4.1, hd4.2, rfl⟩ ?_
    refine g_aload_n C.1 1 dX4_lose_28 rfl rfl ?_
    obtain ⟨hp6, h⟩ := h
    refine c_callV C.1 C.2.2.2.1 C.2.2.2.2.1 (h_thoseThere K.l y (upC σ3 12 (up1 (σ3 12) r2 0)) hp6) (ci := 5) (q := (RX4, TX4, 10)) rfl (c_recv rfl ⟨rfl, rfl⟩) (fun ht => cwV 0 ht gX4_lose_X4_thoseThere rfl rfl rfl (by decide +kernel) ⟨Nat.le_of_ble_eq_true rfl, Nat.le_of_ble_eq_true rfl⟩) rfl rfl (Nat.le_of_ble_eq_true rfl) ⟨Nat.le_of_ble_eq_true rfl, Nat.le_of_ble_eq_true rfl⟩ dX4_lose_29 (fun r σ9 hq => ?_)
    rw [hq.1, hq.2]
    show G K (CL y (upC σ3 12 (up1 (σ3 12) r2 0))) (1, 6) [(2, vM y r2), (0, .ref (y.1 0 0 0)), (1, .int (iZ v1))] 32 [.int (iZ (f_thoseThere (upC σ3 12 (up1 (σ3 12) r2 0))))]
    exact y_iret C.1 C.2.2.1 rfl ⟨Nat.le_of_ble_eq_true rfl, Nat.le_of_ble_eq_true rfl⟩ dX4_lose_32 h
  · have h := h.2 hc
    exact y_throw C.1 C.2.2.1 C.2.2.2.1 C.2.2.2.2.1 C.2.2.2.2.2 (E := "java/lang/IllegalStateException") (text := "it is lost") (ik := 51) (is := 176) (ic := 55) (by decide +kernel) lk_X4_lose_cl51 lk_X4_lose_ini_IllegalStateException (by decide +kernel) at_X4_lose_55 (by decide +kernel) (by decide +kernel) (by decide +kernel) dX4_lose_13 dX4_lose_16 dX4_lose_17 dX4_lose_19 dX4_lose_22 (Nat.le_of_ble_eq_true rfl) (Nat.le_of_ble_eq_true rfl) (Nat.le_of_ble_eq_true rfl) (Nat.le_of_ble_eq_true rfl) ⟨(Nat.le_of_ble_eq_true rfl), (Nat.le_of_ble_eq_true rfl)⟩ h
theorem m_X4_lose {l : Launch} {y : LT} {σ : CS} {v1 : Int} {post : Int → CS → Prop} {px : String → CS → Prop} (h : ∀ K : KT, K.l = l → C_X4_lose K y post px → P_X4_lose_0 K y σ v1) : vMet l yX4_lose wsX4_lose rm_X4_lose y.2.2 (CL y) rkI [.ref (y.1 0 0 0), .int (iZ v1)] σ post px :=
  vMet.of (maxL := 3) (by decide +kernel) rfl (Nat.le_of_ble_eq_true rfl) (fun K h1 h2 h3 h4 h5 h6 h7 => h K h1 ⟨h2, h3, h4, h5, h6, h7⟩)
def H_X4_lose (p : CS → Int → Prop) (o : CS → Int → Int → CS → Prop) (x : CS → Int → String → CS → Prop) : Prop := ∀ (l : Launch) (y : LT) (σ : CS) (v1 : Int), p σ v1 → vMet l yX4_lose wsX4_lose rm_X4_lose y.2.2 (CL y) rkI [.ref (y.1 0 0 0), .int (iZ v1)] σ (fun r σ' => o σ v1 r σ') (x σ v1)

/-! X4_lengthOfMost -/
abbrev rm_X4_lengthOfMost : Room := { frames := 3, cells := 0, slots := 0, locals := 67 }
set_option maxRecDepth 20000 in
theorem inX4_lengthOfMost_X4 : ∀ w ∈ wsX40, w ∈ wsX4_lengthOfMost := by decide +kernel
set_option maxRecDepth 20000 in
theorem inX4_lengthOfMost_X1 : ∀ w ∈ wsX10, w ∈ wsX4_lengthOfMost := by decide +kernel
set_option maxRecDepth 20000 in
theorem inX4_lengthOfMost_X3 : ∀ w ∈ wsX30, w ∈ wsX4_lengthOfMost := by decide +kernel
theorem lk_X4_lengthOfMost_f48 : Cond.fieldLink RX4 48 "CopyHouse" "tally" "[I" ∈ wsX4_lengthOfMost := List.mem_of_getElem? (i := 1) (by decide +kernel)
theorem lk_X4_lengthOfMost_f20 : Cond.fieldLink RX4 20 "CopyHouse" "manuscripts" "Ljava/util/ArrayList;" ∈ wsX4_lengthOfMost := List.mem_of_getElem? (i := 2) (by decide +kernel)
theorem lk_X4_lengthOfMost_cc89 : Cond.classLink RX4 89 "CopyHouse$Manuscript" ∈ wsX4_lengthOfMost := List.mem_of_getElem? (i := 3) (by decide +kernel)
theorem lk_X4_lengthOfMost_f153 : Cond.fieldLink RX4 153 "CopyHouse$Manuscript" "there" "Z" ∈ wsX4_lengthOfMost := List.mem_of_getElem? (i := 4) (by decide +kernel)
theorem lk_X4_lengthOfMost_f88 : Cond.fieldLink RX4 88 "CopyHouse$Manuscript" "text" "LCopyHouse$Text;" ∈ wsX4_lengthOfMost := List.mem_of_getElem? (i := 5) (by decide +kernel)
theorem lk_X4_lengthOfMost_f93 : Cond.fieldLink RX4 93 "CopyHouse$Text" "length" "I" ∈ wsX4_lengthOfMost := List.mem_of_getElem? (i := 6) (by decide +kernel)
def C_X4_lengthOfMost (K : KT) (y : LT) (post : Int → CS → Prop) : Prop := kOK K cX4_lengthOfMost RX4 wsX4_lengthOfMost (some .int) rm_X4_lengthOfMost ∧ K.nL = 3 ∧ kQ K (CL y) rkI post rm_X4_lengthOfMost ∧ SF y.2.2 K.A K.s K.s.heap ∧ K.l.stackTraces = false
def P_X4_lengthOfMost_0 (K : KT) (y : LT) (σ : CS) : Prop := G K (CL y σ) (0, 0) [(0, .ref (y.1 0 0 0))] 0 []
def P_X4_lengthOfMost_1 (K : KT) (y : LT) (σ : CS) (v1 : Int) : Prop := G K (CL y σ) (0, 0) [(0, .ref (y.1 0 0 0)), (1, .int (iZ v1))] 10 []
set_option maxRecDepth 100000 in
set_option maxHeartbeats 4000000 in
theorem b_X4_lengthOfMost_0 {K : KT} {y : LT} {post : Int → CS → Prop} (C : C_X4_lengthOfMost K y post) {p_fillT : CS → Int → Prop} {o_fillT : CS → Int → Int → CS → Prop} (h_fillT : H_fillT p_fillT o_fillT) {σ : CS} (h : (p_fillT σ 0) ∧ ∀ (r2 : Int) (σ3 : CS), o_fillT σ 0 r2 σ3 → P_X4_lengthOfMost_1 K y σ3 0) : P_X4_lengthOfMost_0 K y σ := by
  refine g_aload_n C.1 0 dX4_lengthOfMost_0 rfl rfl ?_
  refine c_get C.1 (ci := 5) (q := (RX4, TX4, 10)) rfl rfl inX4_lengthOfMost_X4 9 (by decide) (v := .ref (y.1 11 0 0)) rfl lk_X4_lengthOfMost_f48 rfl dX4_lengthOfMost_1 ⟨rfl, rfl⟩ ?_
  refine g_iconst C.1 (z := 0) dX4_lengthOfMost_4 ?_
  obtain ⟨hp1, h⟩ := h
  refine c_callS C.1 C.2.2.2.1 C.2.2.2.2 (h_fillT K.l y σ 0 hp1) (fun ht => va_cwS 2 ht gX4_lengthOfMost_J7_fill_53178 rfl rfl rfl (by decide +kernel) ⟨Nat.le_of_ble_eq_true rfl, Nat.le_of_ble_eq_true rfl⟩) rfl rfl (Nat.le_of_ble_eq_true rfl) ⟨Nat.le_of_ble_eq_true rfl, Nat.le_of_ble_eq_true rfl⟩ dX4_lengthOfMost_5 (fun r2 σ3 hq => ?_)
  have h := h r2 σ3 hq
  show G K (CL y σ3) (0, 0) [(0, .ref (y.1 0 0 0))] 8 []
  refine g_iconst C.1 (z := 0) dX4_lengthOfMost_8 ?_
  refine g_istore_n C.1 (i := 1) (loc' := [(1, .int (iZ 0)), (0, .ref (y.1 0 0 0))]) C.2.1 dX4_lengthOfMost_9 rfl (by decide) rfl ?_
  exact g_sub [1, 0] rfl h
set_option maxRecDepth 100000 in
set_option maxHeartbeats 4000000 in
theorem b_X4_lengthOfMost_1 {K : KT} {y : LT} {post : Int → CS → Prop} (C : C_X4_lengthOfMost K y post) {p_sizeM : CS → Prop} {f_sizeM : CS → Int} (h_sizeM : H_sizeM p_sizeM f_sizeM) {p_firstMostTallied : CS → Int → Prop} {f_firstMostTallied : CS → Int → Int} (h_firstMostTallied : H_X4_firstMostTallied p_firstMostTallied f_firstMostTallied) {p_getM : CS → Int → Prop} (h_getM : H_getM p_getM) {σ : CS} {v1 : Int} (h : (p_sizeM σ) ∧ (-2147483648 ≤ v1 ∧ v1 < 2147483648) ∧ (-2147483648 ≤ (f_sizeM σ) ∧ (f_sizeM σ) < 2147483648) ∧ (((f_sizeM σ) ≤ v1 → (p_firstMostTallied σ 121) ∧ post (f_firstMostTallied σ 121) σ) ∧ (¬ (f_sizeM σ) ≤ v1 → (p_getM σ v1) ∧ (0 ≤ v1 ∧ v1 < (σ 21 0 0 0)) ∧ (-2147483648 ≤ (σ 12 v1 0 0) ∧ (σ 12 v1 0 0) < 2147483648) ∧ (((σ 12 v1 0 0) = 0 → P_X4_lengthOfMost_1 K y σ (v1 + 1)) ∧ (¬ (σ 12 v1 0 0) = 0 → (0 ≤ (v1 + 3) ∧ (v1 + 3) < (σ 21 0 0 0) + 3) ∧ (0 ≤ (σ 5 (v1 + 3) 0 0) ∧ (σ 5 (v1 + 3) 0 0) < 121) ∧ P_X4_lengthOfMost_1 K y (upC σ 8 (up1 (σ 8) (σ 5 (v1 + 3) 0 0) ((σ 8 (σ 5 (v1 + 3) 0 0) 0 0) + 1))) (v1 + 1)))))) : P_X4_lengthOfMost_1 K y σ v1 := by
  refine g_iload_n C.1 1 dX4_lengthOfMost_10 rfl rfl ?_
  refine g_aload_n C.1 0 dX4_lengthOfMost_11 rfl rfl ?_
  refine c_get C.1 (ci := 5) (q := (RX4, TX4, 10)) rfl rfl inX4_lengthOfMost_X4 2 (by decide) (v := .ref (y.1 2 0 0)) rfl lk_X4_lengthOfMost_f20 rfl dX4_lengthOfMost_12 ⟨rfl, rfl⟩ ?_
  obtain ⟨hp1, h⟩ := h
  refine c_callV C.1 C.2.2.2.1 C.2.2.2.2 (h_sizeM K.l y σ hp1) (ci := 0) (q := (RJx4a65c, TJx4a65c, 3)) rfl (c_recv rfl ⟨rfl, rfl⟩) (fun ht => cwV 0 ht gX4_lengthOfMost_Jx4a65c_size_8abf5 rfl rfl rfl (by decide +kernel) ⟨Nat.le_of_ble_eq_true rfl, Nat.le_of_ble_eq_true rfl⟩) rfl rfl (Nat.le_of_ble_eq_true rfl) ⟨Nat.le_of_ble_eq_true rfl, Nat.le_of_ble_eq_true rfl⟩ dX4_lengthOfMost_15 (fun r σ9 hq => ?_)
  rw [hq.1, hq.2]
  show G K (CL y σ) (0, 0) [(0, .ref (y.1 0 0 0)), (1, .int (iZ v1))] 18 [.int (iZ (f_sizeM σ)), .int (iZ v1)]
  obtain ⟨hc2, h⟩ := h
  obtain ⟨hc3, h⟩ := h
  refine g_icmp_ge C.1 (tgt := 62) dX4_lengthOfMost_18 (by decide) hc2 hc3 (fun hc => ?_) (fun hc => ?_)
  · have h := h.1 hc
    refine g_aload_n C.1 0 dX4_lengthOfMost_62 rfl rfl ?_
    refine g_bipush C.1 (z := 121) dX4_lengthOfMost_63 (by decide) ?_
    obtain ⟨hp4, h⟩ := h
    refine c_callV C.1 C.2.2.2.1 C.2.2.2.2 (h_firstMostTallied K.l y σ 121 hp4) (ci := 5) (q := (RX4, TX4, 10)) rfl (c_recv rfl ⟨rfl, rfl⟩) (fun ht => cwV 1 ht gX4_lengthOfMost_X4_firstMostTallied rfl rfl rfl (by decide +kernel) ⟨Nat.le_of_ble_eq_true rfl, Nat.le_of_ble_eq_true rfl⟩) rfl rfl (Nat.le_of_ble_eq_true rfl) ⟨Nat.le_of_ble_eq_true rfl, Nat.le_of_ble_eq_true rfl⟩ dX4_lengthOfMost_65 (fun r σ9 hq => ?_)
    rw [hq.1, hq.2]
    show G K (CL y σ) (0, 0) [(0, .ref (y.1 0 0 0)), (1, .int (iZ v1))] 68 [.int (iZ (f_firstMostTallied σ 121))]
    exact x_iret C.1 C.2.2.1 rfl ⟨Nat.le_of_ble_eq_true rfl, Nat.le_of_ble_eq_true rfl⟩ dX4_lengthOfMost_68 h
  · have h := h.2 hc
    refine g_aload_n C.1 0 dX4_lengthOfMost_21 rfl rfl ?_
    refine c_get C.1 (ci := 5) (q := (RX4, TX4, 10)) rfl rfl inX4_lengthOfMost_X4 2 (by decide) (v := .ref (y.1 2 0 0)) rfl lk_X4_lengthOfMost_f20 rfl dX4_lengthOfMost_22 ⟨rfl, rfl⟩ ?_
    refine g_iload_n C.1 1 dX4_lengthOfMost_25 rfl rfl ?_
    obtain ⟨hp5, h⟩ := h
    refine c_callV C.1 C.2.2.2.1 C.2.2.2.2 (h_getM K.l y σ v1 hp5) (ci := 0) (q := (RJx4a65c, TJx4a65c, 3)) rfl (c_recv rfl ⟨rfl, rfl⟩) (fun ht => cwV 1 ht gX4_lengthOfMost_Jx4a65c_get_915e3 rfl rfl rfl (by decide +kernel) ⟨Nat.le_of_ble_eq_true rfl, Nat.le_of_ble_eq_true rfl⟩) rfl rfl (Nat.le_of_ble_eq_true rfl) ⟨Nat.le_of_ble_eq_true rfl, Nat.le_of_ble_eq_true rfl⟩ dX4_lengthOfMost_26 (fun r σ9 hq => ?_)
    rw [hq.1, hq.2]
    show G K (CL y σ) (0, 0) [(0, .ref (y.1 0 0 0)), (1, .int (iZ v1))] 29 [vM y v1]
    obtain ⟨hd6, h⟩ := h
    refine c_atM hd6.1 ?_
    refine c_cast C.1 C.2.2.2.1 (ci := 2) (q := (RX1, TX1, 6)) rfl rfl (by decide +kernel) lk_X4_lengthOfMost_cc89 dX4_lengthOfMost_29 ⟨hd6.1, hd6.2, rfl⟩ ?_
    refine c_toM hd6.1 ?_
    refine g_astoreM_n C.1 (i := 2) (loc' := [(0, .ref (y.1 0 0 0)), (1, .int (iZ v1))]) C.2.1 dX4_lengthOfMost_32 rfl (by decide) rfl ?_
    refine g_aloadM_n C.1 0 dX4_lengthOfMost_33 rfl rfl ?_
    refine c_atM hd6.1 ?_
    refine c_get C.1 (ci := 2) (q := (RX1, TX1, 6)) rfl rfl inX4_lengthOfMost_X1 5 (by decide) (v := .int (iZ (σ 12 v1 0 0))) rfl lk_X4_lengthOfMost_f153 rfl dX4_lengthOfMost_34 ⟨hd6.1, hd6.2, rfl⟩ ?_
    obtain ⟨hc7, h⟩ := h
    refine g_if_eq C.1 (tgt := 56) dX4_lengthOfMost_37 (by decide) hc7 (fun hc => ?_) (fun hc => ?_)
    · have h := h.1 hc
      refine g_iinc C.1 (z := v1) (w := 1) (loc' := [(1, .int (iZ (v1 + 1))), (2, vM y v1), (0, .ref (y.1 0 0 0))]) 2 C.2.1 dX4_lengthOfMost_56 rfl (by decide) (by simp [vM_cat, cat_i, cat_r, cat_l]) ?_
      refine g_goto C.1 (tgt := 10) dX4_lengthOfMost_59 (by decide) ?_
      exact g_sub [2, 0] rfl h
    · have h := h.2 hc
      refine g_aload_n C.1 1 dX4_lengthOfMost_40 rfl rfl ?_
      refine c_get C.1 (ci := 5) (q := (RX4, TX4, 10)) rfl rfl inX4_lengthOfMost_X4 9 (by decide) (v := .ref (y.1 11 0 0)) rfl lk_X4_lengthOfMost_f48 rfl dX4_lengthOfMost_41 ⟨rfl, rfl⟩ ?_
      refine g_aloadM_n C.1 0 dX4_lengthOfMost_44 rfl rfl ?_
      refine c_atM hd6.1 ?_
      refine c_get C.1 (ci := 2) (q := (RX1, TX1, 6)) rfl rfl inX4_lengthOfMost_X1 4 (by decide) (v := .ref (y.1 8 (v1 + 3) 0)) rfl lk_X4_lengthOfMost_f88 rfl dX4_lengthOfMost_45 ⟨hd6.1, hd6.2, rfl⟩ ?_
      obtain ⟨hd8, h⟩ := h
      refine c_get C.1 (ci := 4) (q := (RX3, TX3, 2)) rfl rfl inX4_lengthOfMost_X3 1 (by decide) (v := .int (iZ (σ 5 (v1 + 3) 0 0))) rfl lk_X4_lengthOfMost_f93 rfl dX4_lengthOfMost_48 ⟨hd8.1, hd8.2, rfl⟩ ?_
      refine g_dup2 C.1 rfl rfl dX4_lengthOfMost_51 ?_
      obtain ⟨hi9, h⟩ := h
      refine c_ald C.1 (N := 121) (f := fun p => σ 8 p 0 0) (e := σ 5 (v1 + 3) 0 0) rfl rfl rfl (by decide) dX4_lengthOfMost_52 ⟨rfl, rfl⟩ hi9 ?_
      show G K (CL y σ) (0, 0) [(2, vM y v1), (0, .ref (y.1 0 0 0)), (1, .int (iZ v1))] 53 [.int (iZ (σ 8 (σ 5 (v1 + 3) 0 0) 0 0)), .int (iZ (σ 5 (v1 + 3) 0 0)), .ref (y.1 11 0 0)]
      refine g_iconst C.1 (z := 1) dX4_lengthOfMost_53 ?_
      refine g_iadd C.1 (x := σ 8 (σ 5 (v1 + 3) 0 0) 0 0) (y := 1) dX4_lengthOfMost_54 ?_
      refine c_ast C.1 (σ' := upC σ 8 (up1 (σ 8) (σ 5 (v1 + 3) 0 0) ((σ 8 (σ 5 (v1 + 3) 0 0) 0 0) + 1))) (N := 121) (f := fun p => σ 8 p 0 0) (e := σ 5 (v1 + 3) 0 0) (z := (σ 8 (σ 5 (v1 + 3) 0 0) 0 0) + 1) rfl rfl rfl (CUpd_8 y _ _) rfl (by decide) dX4_lengthOfMost_55 ⟨rfl, rfl⟩ hi9 ?_
      refine g_iinc C.1 (z := v1) (w := 1) (loc' := [(1, .int (iZ (v1 + 1))), (2, vM y v1), (0, .ref (y.1 0 0 0))]) 2 C.2.1 dX4_lengthOfMost_56 rfl (by decide) (by simp [vM_cat, cat_i, cat_r, cat_l]) ?_
      refine g_goto C.1 (tgt := 10) dX4_lengthOfMost_59 (by decide) ?_
      exact g_sub [2, 0] rfl h
theorem m_X4_lengthOfMost {l : Launch} {y : LT} {σ : CS} {post : Int → CS → Prop} (h : ∀ K : KT, K.l = l → C_X4_lengthOfMost K y post → P_X4_lengthOfMost_0 K y σ) : cMet l yX4_lengthOfMost wsX4_lengthOfMost rm_X4_lengthOfMost y.2.2 (CL y) rkI [.ref (y.1 0 0 0)] σ post :=
  cMet.of (maxL := 3) (by decide +kernel) rfl (Nat.le_of_ble_eq_true rfl) (fun K h1 h2 h3 h4 h5 h6 _ => h K h1 ⟨h2, h3, h4, h5, h6⟩)
def H_X4_lengthOfMost (p : CS → Prop) (o : CS → Int → CS → Prop) : Prop := ∀ (l : Launch) (y : LT) (σ : CS), p σ → cMet l yX4_lengthOfMost wsX4_lengthOfMost rm_X4_lengthOfMost y.2.2 (CL y) rkI [.ref (y.1 0 0 0)] σ (fun r σ' => o σ r σ')

/-! X4_letterOfMost -/
abbrev rm_X4_letterOfMost : Room := { frames := 3, cells := 0, slots := 0, locals := 67 }
set_option maxRecDepth 20000 in
theorem inX4_letterOfMost_X4 : ∀ w ∈ wsX40, w ∈ wsX4_letterOfMost := by decide +kernel
set_option maxRecDepth 20000 in
theorem inX4_letterOfMost_X1 : ∀ w ∈ wsX10, w ∈ wsX4_letterOfMost := by decide +kernel
set_option maxRecDepth 20000 in
theorem inX4_letterOfMost_X3 : ∀ w ∈ wsX30, w ∈ wsX4_letterOfMost := by decide +kernel
theorem lk_X4_letterOfMost_f48 : Cond.fieldLink RX4 48 "CopyHouse" "tally" "[I" ∈ wsX4_letterOfMost := List.mem_of_getElem? (i := 1) (by decide +kernel)
theorem lk_X4_letterOfMost_f20 : Cond.fieldLink RX4 20 "CopyHouse" "manuscripts" "Ljava/util/ArrayList;" ∈ wsX4_letterOfMost := List.mem_of_getElem? (i := 2) (by decide +kernel)
theorem lk_X4_letterOfMost_cc89 : Cond.classLink RX4 89 "CopyHouse$Manuscript" ∈ wsX4_letterOfMost := List.mem_of_getElem? (i := 3) (by decide +kernel)
theorem lk_X4_letterOfMost_f153 : Cond.fieldLink RX4 153 "CopyHouse$Manuscript" "there" "Z" ∈ wsX4_letterOfMost := List.mem_of_getElem? (i := 4) (by decide +kernel)
theorem lk_X4_letterOfMost_f88 : Cond.fieldLink RX4 88 "CopyHouse$Manuscript" "text" "LCopyHouse$Text;" ∈ wsX4_letterOfMost := List.mem_of_getElem? (i := 5) (by decide +kernel)
theorem lk_X4_letterOfMost_f93 : Cond.fieldLink RX4 93 "CopyHouse$Text" "length" "I" ∈ wsX4_letterOfMost := List.mem_of_getElem? (i := 6) (by decide +kernel)
theorem lk_X4_letterOfMost_f101 : Cond.fieldLink RX4 101 "CopyHouse$Text" "letters" "[B" ∈ wsX4_letterOfMost := List.mem_of_getElem? (i := 7) (by decide +kernel)
def C_X4_letterOfMost (K : KT) (y : LT) (post : Int → CS → Prop) : Prop := kOK K cX4_letterOfMost RX4 wsX4_letterOfMost (some .int) rm_X4_letterOfMost ∧ K.nL = 6 ∧ kQ K (CL y) rkI post rm_X4_letterOfMost ∧ SF y.2.2 K.A K.s K.s.heap ∧ K.l.stackTraces = false
def P_X4_letterOfMost_0 (K : KT) (y : LT) (σ : CS) (v1 v2 : Int) : Prop := G K (CL y σ) (0, 0) [(0, .ref (y.1 0 0 0)), (1, .int (iZ v1)), (2, .int (iZ v2))] 0 []
def P_X4_letterOfMost_1 (K : KT) (y : LT) (σ : CS) (v1 v2 v3 : Int) : Prop := G K (CL y σ) (0, 0) [(0, .ref (y.1 0 0 0)), (1, .int (iZ v1)), (2, .int (iZ v2)), (3, .int (iZ v3))] 10 []
set_option maxRecDepth 100000 in
set_option maxHeartbeats 4000000 in
theorem b_X4_letterOfMost_0 {K : KT} {y : LT} {post : Int → CS → Prop} (C : C_X4_letterOfMost K y post) {p_fillT : CS → Int → Prop} {o_fillT : CS → Int → Int → CS → Prop} (h_fillT : H_fillT p_fillT o_fillT) {σ : CS} {v1 v2 : Int} (h : (p_fillT σ 0) ∧ ∀ (r2 : Int) (σ3 : CS), o_fillT σ 0 r2 σ3 → P_X4_letterOfMost_1 K y σ3 v1 v2 0) : P_X4_letterOfMost_0 K y σ v1 v2 := by
  refine g_aload_n C.1 0 dX4_letterOfMost_0 rfl rfl ?_
  refine c_get C.1 (ci := 5) (q := (RX4, TX4, 10)) rfl rfl inX4_letterOfMost_X4 9 (by decide) (v := .ref (y.1 11 0 0)) rfl lk_X4_letterOfMost_f48 rfl dX4_letterOfMost_1 ⟨rfl, rfl⟩ ?_
  refine g_iconst C.1 (z := 0) dX4_letterOfMost_4 ?_
  obtain ⟨hp1, h⟩ := h
  refine c_callS C.1 C.2.2.2.1 C.2.2.2.2 (h_fillT K.l y σ 0 hp1) (fun ht => va_cwS 2 ht gX4_letterOfMost_J7_fill_53178 rfl rfl rfl (by decide +kernel) ⟨Nat.le_of_ble_eq_true rfl, Nat.le_of_ble_eq_true rfl⟩) rfl rfl (Nat.le_of_ble_eq_true rfl) ⟨Nat.le_of_ble_eq_true rfl, Nat.le_of_ble_eq_true rfl⟩ dX4_letterOfMost_5 (fun r2 σ3 hq => ?_)
  have h := h r2 σ3 hq
  show G K (CL y σ3) (0, 0) [(0, .ref (y.1 0 0 0)), (1, .int (iZ v1)), (2, .int (iZ v2))] 8 []
  refine g_iconst C.1 (z := 0) dX4_letterOfMost_8 ?_
  refine g_istore_n C.1 (i := 3) (loc' := [(3, .int (iZ 0)), (0, .ref (y.1 0 0 0)), (1, .int (iZ v1)), (2, .int (iZ v2))]) C.2.1 dX4_letterOfMost_9 rfl (by decide) rfl ?_
  exact g_sub [1, 2, 3, 0] rfl h
set_option maxRecDepth 100000 in
set_option maxHeartbeats 4000000 in
theorem b_X4_letterOfMost_1 {K : KT} {y : LT} {post : Int → CS → Prop} (C : C_X4_letterOfMost K y post) {p_sizeM : CS → Prop} {f_sizeM : CS → Int} (h_sizeM : H_sizeM p_sizeM f_sizeM) {p_firstMostTallied : CS → Int → Prop} {f_firstMostTallied : CS → Int → Int} (h_firstMostTallied : H_X4_firstMostTallied p_firstMostTallied f_firstMostTallied) {p_getM : CS → Int → Prop} (h_getM : H_getM p_getM) {p_isLetter : CS → Int → Prop} {f_isLetter : CS → Int → Bool} (h_isLetter : H_X4_isLetter p_isLetter f_isLetter) {σ : CS} {v1 v2 v3 : Int} (h : (p_sizeM σ) ∧ (-2147483648 ≤ v3 ∧ v3 < 2147483648) ∧ (-2147483648 ≤ (f_sizeM σ) ∧ (f_sizeM σ) < 2147483648) ∧ (((f_sizeM σ) ≤ v3 → (p_firstMostTallied σ 26) ∧ post (97 + (f_firstMostTallied σ 26)) σ) ∧ (¬ (f_sizeM σ) ≤ v3 → (p_getM σ v3) ∧ (0 ≤ v3 ∧ v3 < (σ 21 0 0 0)) ∧ (-2147483648 ≤ (σ 12 v3 0 0) ∧ (σ 12 v3 0 0) < 2147483648) ∧ (((σ 12 v3 0 0) = 0 → P_X4_letterOfMost_1 K y σ v1 v2 (v3 + 1)) ∧ (¬ (σ 12 v3 0 0) = 0 → (0 ≤ (v3 + 3) ∧ (v3 + 3) < (σ 21 0 0 0) + 3) ∧ (-2147483648 ≤ (σ 5 (v3 + 3) 0 0) ∧ (σ 5 (v3 + 3) 0 0) < 2147483648) ∧ (-2147483648 ≤ v2 ∧ v2 < 2147483648) ∧ ((¬ (σ 5 (v3 + 3) 0 0) = v2 → P_X4_letterOfMost_1 K y σ v1 v2 (v3 + 1)) ∧ ((σ 5 (v3 + 3) 0 0) = v2 → (-2147483648 ≤ v1 ∧ v1 < 2147483648) ∧ ((v2 ≤ v1 → P_X4_letterOfMost_1 K y σ v1 v2 (v3 + 1)) ∧ (¬ v2 ≤ v1 → (0 ≤ v1 ∧ v1 < 120) ∧ (p_isLetter σ ((σ 6 (v3 + 3) v1 0) - 97)) ∧ ((¬ (f_isLetter σ ((σ 6 (v3 + 3) v1 0) - 97) = true) → P_X4_letterOfMost_1 K y σ v1 v2 (v3 + 1)) ∧ (f_isLetter σ ((σ 6 (v3 + 3) v1 0) - 97) = true → (0 ≤ ((σ 6 (v3 + 3) v1 0) - 97) ∧ ((σ 6 (v3 + 3) v1 0) - 97) < 121) ∧ P_X4_letterOfMost_1 K y (upC σ 8 (up1 (σ 8) ((σ 6 (v3 + 3) v1 0) - 97) ((σ 8 ((σ 6 (v3 + 3) v1 0) - 97) 0 0) + 1))) v1 v2 (v3 + 1)))))))))))) : P_X4_letterOfMost_1 K y σ v1 v2 v3 := by
  refine g_iload_n C.1 3 dX4_letterOfMost_10 rfl rfl ?_
  refine g_aload_n C.1 0 dX4_letterOfMost_11 rfl rfl ?_
  refine c_get C.1 (ci := 5) (q := (RX4, TX4, 10)) rfl rfl inX4_letterOfMost_X4 2 (by decide) (v := .ref (y.1 2 0 0)) rfl lk_X4_letterOfMost_f20 rfl dX4_letterOfMost_12 ⟨rfl, rfl⟩ ?_
  obtain ⟨hp1, h⟩ := h
  refine c_callV C.1 C.2.2.2.1 C.2.2.2.2 (h_sizeM K.l y σ hp1) (ci := 0) (q := (RJx4a65c, TJx4a65c, 3)) rfl (c_recv rfl ⟨rfl, rfl⟩) (fun ht => cwV 0 ht gX4_letterOfMost_Jx4a65c_size_8abf5 rfl rfl rfl (by decide +kernel) ⟨Nat.le_of_ble_eq_true rfl, Nat.le_of_ble_eq_true rfl⟩) rfl rfl (Nat.le_of_ble_eq_true rfl) ⟨Nat.le_of_ble_eq_true rfl, Nat.le_of_ble_eq_true rfl⟩ dX4_letterOfMost_15 (fun r σ9 hq => ?_)
  rw [hq.1, hq.2]
  show G K (CL y σ) (0, 0) [(0, .ref (y.1 0 0 0)), (1, .int (iZ v1)), (2, .int (iZ v2)), (3, .int (iZ v3))] 18 [.int (iZ (f_sizeM σ)), .int (iZ v3)]
  obtain ⟨hc2, h⟩ := h
  obtain ⟨hc3, h⟩ := h
  refine g_icmp_ge C.1 (tgt := 99) dX4_letterOfMost_18 (by decide) hc2 hc3 (fun hc => ?_) (fun hc => ?_)
  · have h := h.1 hc
    refine g_bipush C.1 (z := 97) dX4_letterOfMost_99 (by decide) ?_
    refine g_aload_n C.1 0 dX4_letterOfMost_101 rfl rfl ?_
    refine g_bipush C.1 (z := 26) dX4_letterOfMost_102 (by decide) ?_
    obtain ⟨hp4, h⟩ := h
    refine c_callV C.1 C.2.2.2.1 C.2.2.2.2 (h_firstMostTallied K.l y σ 26 hp4) (ci := 5) (q := (RX4, TX4, 10)) rfl (c_recv rfl ⟨rfl, rfl⟩) (fun ht => cwV 1 ht gX4_letterOfMost_X4_firstMostTallied rfl rfl rfl (by decide +kernel) ⟨Nat.le_of_ble_eq_true rfl, Nat.le_of_ble_eq_true rfl⟩) rfl rfl (Nat.le_of_ble_eq_true rfl) ⟨Nat.le_of_ble_eq_true rfl, Nat.le_of_ble_eq_true rfl⟩ dX4_letterOfMost_104 (fun r σ9 hq => ?_)
    rw [hq.1, hq.2]
    show G K (CL y σ) (0, 0) [(0, .ref (y.1 0 0 0)), (1, .int (iZ v1)), (2, .int (iZ v2)), (3, .int (iZ v3))] 107 [.int (iZ (f_firstMostTallied σ 26)), .int (iZ 97)]
    refine g_iadd C.1 (x := 97) (y := f_firstMostTallied σ 26) dX4_letterOfMost_107 ?_
    exact x_iret C.1 C.2.2.1 rfl ⟨Nat.le_of_ble_eq_true rfl, Nat.le_of_ble_eq_true rfl⟩ dX4_letterOfMost_108 h
  · have h := h.2 hc
    refine g_aload_n C.1 0 dX4_letterOfMost_21 rfl rfl ?_
    refine c_get C.1 (ci := 5) (q := (RX4, TX4, 10)) rfl rfl inX4_letterOfMost_X4 2 (by decide) (v := .ref (y.1 2 0 0)) rfl lk_X4_letterOfMost_f20 rfl dX4_letterOfMost_22 ⟨rfl, rfl⟩ ?_
    refine g_iload_n C.1 3 dX4_letterOfMost_25 rfl rfl ?_
    obtain ⟨hp5, h⟩ := h
    refine c_callV C.1 C.2.2.2.1 C.2.2.2.2 (h_getM K.l y σ v3 hp5) (ci := 0) (q := (RJx4a65c, TJx4a65c, 3)) rfl (c_recv rfl ⟨rfl, rfl⟩) (fun ht => cwV 1 ht gX4_letterOfMost_Jx4a65c_get_915e3 rfl rfl rfl (by decide +kernel) ⟨Nat.le_of_ble_eq_true rfl, Nat.le_of_ble_eq_true rfl⟩) rfl rfl (Nat.le_of_ble_eq_true rfl) ⟨Nat.le_of_ble_eq_true rfl, Nat.le_of_ble_eq_true rfl⟩ dX4_letterOfMost_26 (fun r σ9 hq => ?_)
    rw [hq.1, hq.2]
    show G K (CL y σ) (0, 0) [(0, .ref (y.1 0 0 0)), (1, .int (iZ v1)), (2, .int (iZ v2)), (3, .int (iZ v3))] 29 [vM y v3]
    obtain ⟨hd6, h⟩ := h
    refine c_atM hd6.1 ?_
    refine c_cast C.1 C.2.2.2.1 (ci := 2) (q := (RX1, TX1, 6)) rfl rfl (by decide +kernel) lk_X4_letterOfMost_cc89 dX4_letterOfMost_29 ⟨hd6.1, hd6.2, rfl⟩ ?_
    refine c_toM hd6.1 ?_
    refine g_astoreM C.1 (i := 4) (loc' := [(0, .ref (y.1 0 0 0)), (1, .int (iZ v1)), (2, .int (iZ v2)), (3, .int (iZ v3))]) C.2.1 dX4_letterOfMost_32 (by decide) rfl ?_
    refine g_aloadM C.1 0 dX4_letterOfMost_34 rfl ?_
    refine c_atM hd6.1 ?_
    refine c_get C.1 (ci := 2) (q := (RX1, TX1, 6)) rfl rfl inX4_letterOfMost_X1 5 (by decide) (v := .int (iZ (σ 12 v3 0 0))) rfl lk_X4_letterOfMost_f153 rfl dX4_letterOfMost_36 ⟨hd6.1, hd6.2, rfl⟩ ?_
    obtain ⟨hc7, h⟩ := h
    refine g_if_eq C.1 (tgt := 93) dX4_letterOfMost_39 (by decide) hc7 (fun hc => ?_) (fun hc => ?_)
    · have h := h.1 hc
      refine g_iinc C.1 (z := v3) (w := 1) (loc' := [(3, .int (iZ (v3 + 1))), (4, vM y v3), (0, .ref (y.1 0 0 0)), (1, .int (iZ v1)), (2, .int (iZ v2))]) 4 C.2.1 dX4_letterOfMost_93 rfl (by decide) (by simp [vM_cat, cat_i, cat_r, cat_l]) ?_
      refine g_goto C.1 (tgt := 10) dX4_letterOfMost_96 (by decide) ?_
      exact g_sub [2, 3, 4, 0] rfl h
    · have h := h.2 hc
      refine g_aloadM C.1 0 dX4_letterOfMost_42 rfl ?_
      refine c_atM hd6.1 ?_
      refine c_get C.1 (ci := 2) (q := (RX1, TX1, 6)) rfl rfl inX4_letterOfMost_X1 4 (by decide) (v := .ref (y.1 8 (v3 + 3) 0)) rfl lk_X4_letterOfMost_f88 rfl dX4_letterOfMost_44 ⟨hd6.1, hd6.2, rfl⟩ ?_
      obtain ⟨hd8, h⟩ := h
      refine c_get C.1 (ci := 4) (q := (RX3, TX3, 2)) rfl rfl inX4_letterOfMost_X3 1 (by decide) (v := .int (iZ (σ 5 (v3 + 3) 0 0))) rfl lk_X4_letterOfMost_f93 rfl dX4_letterOfMost_47 ⟨hd8.1, hd8.2, rfl⟩ ?_
      refine g_iload_n C.1 3 dX4_letterOfMost_50 rfl rfl ?_
      obtain ⟨hc9, h⟩ := h
      obtain ⟨hc10, h⟩ := h
      refine g_icmp_ne C.1 (tgt := 93) dX4_letterOfMost_51 (by decide) hc9 hc10 (fun hc => ?_) (fun hc => ?_)
      · have h := h.1 hc
        refine g_iinc C.1 (z := v3) (w := 1) (loc' := [(3, .int (iZ (v3 + 1))), (4, vM y v3), (0, .ref (y.1 0 0 0)), (1, .int (iZ v1)), (2, .int (iZ v2))]) 4 C.2.1 dX4_letterOfMost_93 rfl (by decide) (by simp [vM_cat, cat_i, cat_r, cat_l]) ?_
        refine g_goto C.1 (tgt := 10) dX4_letterOfMost_96 (by decide) ?_
        exact g_sub [2, 3, 4, 0] rfl h
      · have h := h.2 hc
        refine g_iload_n C.1 2 dX4_letterOfMost_54 rfl rfl ?_
        refine g_iload_n C.1 3 dX4_letterOfMost_55 rfl rfl ?_
        obtain ⟨hc11, h⟩ := h
        refine g_icmp_ge C.1 (tgt := 93) dX4_letterOfMost_56 (by decide) hc11 hc10 (fun hc => ?_) (fun hc => ?_)
        · have h := h.1 hc
          refine g_iinc C.1 (z := v3) (w := 1) (loc' := [(3, .int (iZ (v3 + 1))), (4, vM y v3), (0, .ref (y.1 0 0 0)), (1, .int (iZ v1)), (2, .int (iZ v2))]) 4 C.2.1 dX4_letterOfMost_93 rfl (by decide) (by simp [vM_cat, cat_i, cat_r, cat_l]) ?_
          refine g_goto C.1 (tgt := 10) dX4_letterOfMost_96 (by decide) ?_
          exact g_sub [2, 3, 4, 0] rfl h
        · have h := h.2 hc
          refine g_aloadM C.1 0 dX4_letterOfMost_59 rfl ?_
          refine c_atM hd6.1 ?_
          refine c_get C.1 (ci := 2) (q := (RX1, TX1, 6)) rfl rfl inX4_letterOfMost_X1 4 (by decide) (v := .ref (y.1 8 (v3 + 3) 0)) rfl lk_X4_letterOfMost_f88 rfl dX4_letterOfMost_61 ⟨hd6.1, hd6.2, rfl⟩ ?_
          refine c_get C.1 (ci := 4) (q := (RX3, TX3, 2)) rfl rfl inX4_letterOfMost_X3 0 (by decide) (v := .ref (y.1 9 (v3 + 3) 0)) rfl lk_X4_letterOfMost_f101 rfl dX4_letterOfMost_64 ⟨hd8.1, hd8.2, rfl⟩ ?_
          refine g_iload_n C.1 2 dX4_letterOfMost_67 rfl rfl ?_
          obtain ⟨hi12, h⟩ := h
          refine c_bald C.1 (N := 120) (f := fun p => σ 6 (v3 + 3) p 0) (e := v1) rfl rfl rfl (by decide) dX4_letterOfMost_68 ⟨hd8.1, hd8.2, rfl⟩ hi12 ?_
          show G K (CL y σ) (0, 0) [(4, vM y v3), (0, .ref (y.1 0 0 0)), (1, .int (iZ v1)), (2, .int (iZ v2)), (3, .int (iZ v3))] 69 [.int (iZ (σ 6 (v3 + 3) v1 0))]
          refine g_bipush C.1 (z := 97) dX4_letterOfMost_69 (by decide) ?_
          refine g_isub C.1 (x := σ 6 (v3 + 3) v1 0) (y := 97) dX4_letterOfMost_71 ?_
          refine g_istore C.1 (i := 5) (loc' := [(5, .int (iZ ((σ 6 (v3 + 3) v1 0) - 97))), (4, vM y v3), (0, .ref (y.1 0 0 0)), (1, .int (iZ v1)), (2, .int (iZ v2)), (3, .int (iZ v3))]) C.2.1 dX4_letterOfMost_72 (by decide) (by simp [vM_cat, cat_i, cat_r, cat_l]) ?_
          refine g_iload C.1 0 dX4_letterOfMost_74 rfl ?_
          obtain ⟨hp13, h⟩ := h
          refine c_callS C.1 C.2.2.2.1 C.2.2.2.2 (h_isLetter K.l y σ ((σ 6 (v3 + 3) v1 0) - 97) hp13) (fun ht => va_cwS 1 ht gX4_letterOfMost_X4_isLetter rfl rfl rfl (by decide +kernel) ⟨Nat.le_of_ble_eq_true rfl, Nat.le_of_ble_eq_true rfl⟩) rfl rfl (Nat.le_of_ble_eq_true rfl) ⟨Nat.le_of_ble_eq_true rfl, Nat.le_of_ble_eq_true rfl⟩ dX4_letterOfMost_76 (fun r σ9 hq => ?_)
          rw [hq.1, hq.2]
          show G K (CL y σ) (0, 0) [(5, .int (iZ ((σ 6 (v3 + 3) v1 0) - 97))), (4, vM y v3), (0, .ref (y.1 0 0 0)), (1, .int (iZ v1)), (2, .int (iZ v2)), (3, .int (iZ v3))] 79 [.int (iZ (if f_isLetter σ ((σ 6 (v3 + 3) v1 0) - 97) = true then 1 else 0))]
          refine g_ifb_eq C.1 (tgt := 93) dX4_letterOfMost_79 (by decide) (fun hc => ?_) (fun hc => ?_)
          · have h := h.1 hc
            refine g_iinc C.1 (z := v3) (w := 1) (loc' := [(3, .int (iZ (v3 + 1))), (5, .int (iZ ((σ 6 (v3 + 3) v1 0) - 97))), (4, vM y v3), (0, .ref (y.1 0 0 0)), (1, .int (iZ v1)), (2, .int (iZ v2))]) 5 C.2.1 dX4_letterOfMost_93 rfl (by decide) (by simp [vM_cat, cat_i, cat_r, cat_l]) ?_
            refine g_goto C.1 (tgt := 10) dX4_letterOfMost_96 (by decide) ?_
            exact g_sub [3, 4, 5, 0] rfl h
          · have h := h.2 hc
            refine g_aload_n C.1 2 dX4_letterOfMost_82 rfl rfl ?_
            refine c_get C.1 (ci := 5) (q := (RX4, TX4, 10)) rfl rfl inX4_letterOfMost_X4 9 (by decide) (v := .ref (y.1 11 0 0)) rfl lk_X4_letterOfMost_f48 rfl dX4_letterOfMost_83 ⟨rfl, rfl⟩ ?_
            refine g_iload C.1 0 dX4_letterOfMost_86 rfl ?_
            refine g_dup2 C.1 rfl rfl dX4_letterOfMost_88 ?_
            obtain ⟨hi14, h⟩ := h
            refine c_ald C.1 (N := 121) (f := fun p => σ 8 p 0 0) (e := (σ 6 (v3 + 3) v1 0) - 97) rfl rfl rfl (by decide) dX4_letterOfMost_89 ⟨rfl, rfl⟩ hi14 ?_
            show G K (CL y σ) (0, 0) [(5, .int (iZ ((σ 6 (v3 + 3) v1 0) - 97))), (4, vM y v3), (0, .ref (y.1 0 0 0)), (1, .int (iZ v1)), (2, .int (iZ v2)), (3, .int (iZ v3))] 90 [.int (iZ (σ 8 ((σ 6 (v3 + 3) v1 0) - 97) 0 0)), .int (iZ ((σ 6 (v3 + 3) v1 0) - 97)), .ref (y.1 11 0 0)]
            refine g_iconst C.1 (z := 1) dX4_letterOfMost_90 ?_
            refine g_iadd C.1 (x := σ 8 ((σ 6 (v3 + 3) v1 0) - 97) 0 0) (y := 1) dX4_letterOfMost_91 ?_
            refine c_ast C.1 (σ' := upC σ 8 (up1 (σ 8) ((σ 6 (v3 + 3) v1 0) - 97) ((σ 8 ((σ 6 (v3 + 3) v1 0) - 97) 0 0) + 1))) (N := 121) (f := fun p => σ 8 p 0 0) (e := (σ 6 (v3 + 3) v1 0) - 97) (z := (σ 8 ((σ 6 (v3 + 3) v1 0) - 97) 0 0) + 1) rfl rfl rfl (CUpd_8 y _ _) rfl (by decide) dX4_letterOfMost_92 ⟨rfl, rfl⟩ hi14 ?_
            refine g_iinc C.1 (z := v3) (w := 1) (loc' := [(3, .int (iZ (v3 + 1))), (5, .int (iZ ((σ 6 (v3 + 3) v1 0) - 97))), (4, vM y v3), (0, .ref (y.1 0 0 0)), (1, .int (iZ v1)), (2, .int (iZ v2))]) 5 C.2.1 dX4_letterOfMost_93 rfl (by decide) (by simp [vM_cat, cat_i, cat_r, cat_l]) ?_
            refine g_goto C.1 (tgt := 10) dX4_letterOfMost_96 (by decide) ?_
            exact g_sub [3, 4, 5, 0] rfl h
theorem m_X4_letterOfMost {l : Launch} {y : LT} {σ : CS} {v1 v2 : Int} {post : Int → CS → Prop} (h : ∀ K : KT, K.l = l → C_X4_letterOfMost K y post → P_X4_letterOfMost_0 K y σ v1 v2) : cMet l yX4_letterOfMost wsX4_letterOfMost rm_X4_letterOfMost y.2.2 (CL y) rkI [.ref (y.1 0 0 0), .int (iZ v1), .int (iZ v2)] σ post :=
  cMet.of (maxL := 6) (by decide +kernel) rfl (Nat.le_of_ble_eq_true rfl) (fun K h1 h2 h3 h4 h5 h6 _ => h K h1 ⟨h2, h3, h4, h5, h6⟩)
def H_X4_letterOfMost (p : CS → Int → Int → Prop) (o : CS → Int → Int → Int → CS → Prop) : Prop := ∀ (l : Launch) (y : LT) (σ : CS) (v1 v2 : Int), p σ v1 v2 → cMet l yX4_letterOfMost wsX4_letterOfMost rm_X4_letterOfMost y.2.2 (CL y) rkI [.ref (y.1 0 0 0), .int (iZ v1), .int (iZ v2)] σ (fun r σ' => o σ v1 v2 r σ')

/-! X4_voteText -/
abbrev rm_X4_voteText : Room := { frames := 4, cells := 0, slots := 0, locals := 92 }
set_option maxRecDepth 20000 in
theorem inX4_voteText_X4 : ∀ w ∈ wsX40, w ∈ wsX4_voteText := by decide +kernel
set_option maxRecDepth 20000 in
theorem inX4_voteText_X3 : ∀ w ∈ wsX30, w ∈ wsX4_voteText := by decide +kernel
theorem lk_X4_voteText_f42 : Cond.fieldLink RX4 42 "CopyHouse" "voted" "LCopyHouse$Text;" ∈ wsX4_voteText := List.mem_of_getElem? (i := 1) (by decide +kernel)
theorem lk_X4_voteText_f93 : Cond.fieldLink RX4 93 "CopyHouse$Text" "length" "I" ∈ wsX4_voteText := List.mem_of_getElem? (i := 2) (by decide +kernel)
def C_X4_voteText (K : KT) (y : LT) (post : Int → CS → Prop) : Prop := kOK K cX4_voteText RX4 wsX4_voteText none rm_X4_voteText ∧ K.nL = 3 ∧ kQ K (CL y) rkV post rm_X4_voteText ∧ SF y.2.2 K.A K.s K.s.heap ∧ K.l.stackTraces = false
def P_X4_voteText_0 (K : KT) (y : LT) (σ : CS) : Prop := G K (CL y σ) (0, 0) [(0, .ref (y.1 0 0 0))] 0 []
def P_X4_voteText_1 (K : KT) (y : LT) (σ : CS) (v1 v2 : Int) : Prop := G K (CL y σ) (0, 0) [(0, .ref (y.1 0 0 0)), (1, .int (iZ v1)), (2, .int (iZ v2))] 15 []
set_option maxRecDepth 100000 in
set_option maxHeartbeats 4000000 in
theorem b_X4_voteText_0 {K : KT} {y : LT} {post : Int → CS → Prop} (C : C_X4_voteText K y post) {p_lengthOfMost : CS → Prop} {o_lengthOfMost : CS → Int → CS → Prop} (h_lengthOfMost : H_X4_lengthOfMost p_lengthOfMost o_lengthOfMost) {σ : CS} (h : (p_lengthOfMost σ) ∧ ∀ (r2 : Int) (σ3 : CS), o_lengthOfMost σ r2 σ3 → (0 ≤ (σ3 21 0 0 0)) ∧ P_X4_voteText_1 K y (upC σ3 5 (up1 (σ3 5) 2 0)) r2 0) : P_X4_voteText_0 K y σ := by
  refine g_aload_n C.1 0 dX4_voteText_0 rfl rfl ?_
  obtain ⟨hp1, h⟩ := h
  refine c_callV C.1 C.2.2.2.1 C.2.2.2.2 (h_lengthOfMost K.l y σ hp1) (ci := 5) (q := (RX4, TX4, 10)) rfl (c_recv rfl ⟨rfl, rfl⟩) (fun ht => cwV 0 ht gX4_voteText_X4_lengthOfMost rfl rfl rfl (by decide +kernel) ⟨Nat.le_of_ble_eq_true rfl, Nat.le_of_ble_eq_true rfl⟩) rfl rfl (Nat.le_of_ble_eq_true rfl) ⟨Nat.le_of_ble_eq_true rfl, Nat.le_of_ble_eq_true rfl⟩ dX4_voteText_1 (fun r2 σ3 hq => ?_)
  have h := h r2 σ3 hq
  show G K (CL y σ3) (0, 0) [(0, .ref (y.1 0 0 0))] 4 [.int (iZ r2)]
  refine g_istore_n C.1 (i := 1) (loc' := [(1, .int (iZ r2)), (0, .ref (y.1 0 0 0))]) C.2.1 dX4_voteText_4 rfl (by decide) rfl ?_
  refine g_aload_n C.1 1 dX4_voteText_5 rfl rfl ?_
  refine c_get C.1 (ci := 5) (q := (RX4, TX4, 10)) rfl rfl inX4_voteText_X4 7 (by decide) (v := .ref (y.1 8 2 0)) rfl lk_X4_voteText_f42 rfl dX4_voteText_6 ⟨rfl, rfl⟩ ?_
  refine g_iconst C.1 (z := 0) dX4_voteText_9 ?_
  obtain ⟨hn4, h⟩ := h
  refine c_put C.1 (σ' := upC σ3 5 (up1 (σ3 5) 2 0)) (ci := 4) (q := (RX3, TX3, 2)) rfl rfl inX4_voteText_X3 tyX3 tyX3_ok nmX3 1 (by decide) (Nat.le_of_ble_eq_true rfl) (v := .int (iZ 0)) (ty := .int) (cu_len _ _ _ _) (CUpd_5 y _ _ _ (fun _ hx => if_neg hx)) lk_X4_voteText_f93 rfl rfl rfl rfl rfl dX4_voteText_10 ⟨by decide, by omega, rfl⟩ ?_
  refine g_iconst C.1 (z := 0) dX4_voteText_13 ?_
  refine g_istore_n C.1 (i := 2) (loc' := [(2, .int (iZ 0)), (1, .int (iZ r2)), (0, .ref (y.1 0 0 0))]) C.2.1 dX4_voteText_14 rfl (by decide) rfl ?_
  exact g_sub [2, 1, 0] rfl h
set_option maxRecDepth 100000 in
set_option maxHeartbeats 4000000 in
theorem b_X4_voteText_1 {K : KT} {y : LT} {post : Int → CS → Prop} (C : C_X4_voteText K y post) {p_letterOfMost : CS → Int → Int → Prop} {o_letterOfMost : CS → Int → Int → Int → CS → Prop} (h_letterOfMost : H_X4_letterOfMost p_letterOfMost o_letterOfMost) {p_append : CS → Int → Int → Prop} {o_append : CS → Int → Int → Int → CS → Prop} (h_append : H_X3_append p_append o_append) {σ : CS} {v1 v2 : Int} (h : (-2147483648 ≤ v2 ∧ v2 < 2147483648) ∧ (-2147483648 ≤ v1 ∧ v1 < 2147483648) ∧ ((v1 ≤ v2 → post 0 σ) ∧ (¬ v1 ≤ v2 → (p_letterOfMost σ v2 v1) ∧ ∀ (r4 : Int) (σ5 : CS), o_letterOfMost σ v2 v1 r4 σ5 → (p_append σ5 2 r4) ∧ (0 ≤ (σ5 21 0 0 0)) ∧ ∀ (r8 : Int) (σ9 : CS), o_append σ5 2 r4 r8 σ9 → P_X4_voteText_1 K y σ9 v1 (v2 + 1)))) : P_X4_voteText_1 K y σ v1 v2 := by
  refine g_iload_n C.1 2 dX4_voteText_15 rfl rfl ?_
  refine g_iload_n C.1 1 dX4_voteText_16 rfl rfl ?_
  obtain ⟨hc1, h⟩ := h
  obtain ⟨hc2, h⟩ := h
  refine g_icmp_ge C.1 (tgt := 39) dX4_voteText_17 (by decide) hc1 hc2 (fun hc => ?_) (fun hc => ?_)
  · have h := h.1 hc
    exact x_vret C.1 C.2.2.1 rfl ⟨Nat.le_of_ble_eq_true rfl, Nat.le_of_ble_eq_true rfl⟩ dX4_voteText_39 h
  · have h := h.2 hc
    refine g_aload_n C.1 0 dX4_voteText_20 rfl rfl ?_
    refine c_get C.1 (ci := 5) (q := (RX4, TX4, 10)) rfl rfl inX4_voteText_X4 7 (by decide) (v := .ref (y.1 8 2 0)) rfl lk_X4_voteText_f42 rfl dX4_voteText_21 ⟨rfl, rfl⟩ ?_
    refine g_aload_n C.1 0 dX4_voteText_24 rfl rfl ?_
    refine g_iload_n C.1 2 dX4_voteText_25 rfl rfl ?_
    refine g_iload_n C.1 1 dX4_voteText_26 rfl rfl ?_
    obtain ⟨hp3, h⟩ := h
    refine c_callV C.1 C.2.2.2.1 C.2.2.2.2 (h_letterOfMost K.l y σ v2 v1 hp3) (ci := 5) (q := (RX4, TX4, 10)) rfl (c_recv rfl ⟨rfl, rfl⟩) (fun ht => cwV 2 ht gX4_voteText_X4_letterOfMost rfl rfl rfl (by decide +kernel) ⟨Nat.le_of_ble_eq_true rfl, Nat.le_of_ble_eq_true rfl⟩) rfl rfl (Nat.le_of_ble_eq_true rfl) ⟨Nat.le_of_ble_eq_true rfl, Nat.le_of_ble_eq_true rfl⟩ dX4_voteText_27 (fun r4 σ5 hq => ?_)
    have h := h r4 σ5 hq
    show G K (CL y σ5) (0, 0) [(0, .ref (y.1 0 0 0)), (1, .int (iZ v1)), (2, .int (iZ v2))] 30 [.int (iZ r4), .ref (y.1 8 2 0)]
    obtain ⟨hp6, h⟩ := h
    obtain ⟨hn7, h⟩ := h
    refine c_callV C.1 C.2.2.2.1 C.2.2.2.2 (h_append K.l y σ5 2 r4 hp6) (ci := 4) (q := (RX3, TX3, 2)) rfl (c_recv rfl ⟨by decide, by omega, rfl⟩) (fun ht => cwV 1 ht gX4_voteText_X3_append rfl rfl rfl (by decide +kernel) ⟨Nat.le_of_ble_eq_true rfl, Nat.le_of_ble_eq_true rfl⟩) rfl rfl (Nat.le_of_ble_eq_true rfl) ⟨Nat.le_of_ble_eq_true rfl, Nat.le_of_ble_eq_true rfl⟩ dX4_voteText_30 (fun r8 σ9 hq => ?_)
    have h := h r8 σ9 hq
    show G K (CL y σ9) (0, 0) [(0, .ref (y.1 0 0 0)), (1, .int (iZ v1)), (2, .int (iZ v2))] 33 []
    refine g_iinc C.1 (z := v2) (w := 1) (loc' := [(2, .int (iZ (v2 + 1))), (0, .ref (y.1 0 0 0)), (1, .int (iZ v1))]) 2 C.2.1 dX4_voteText_33 rfl (by decide) rfl ?_
    refine g_goto C.1 (tgt := 15) dX4_voteText_36 (by decide) ?_
    exact g_sub [1, 2, 0] rfl h
theorem m_X4_voteText {l : Launch} {y : LT} {σ : CS} {post : Int → CS → Prop} (h : ∀ K : KT, K.l = l → C_X4_voteText K y post → P_X4_voteText_0 K y σ) : cMet l yX4_voteText wsX4_voteText rm_X4_voteText y.2.2 (CL y) rkV [.ref (y.1 0 0 0)] σ post :=
  cMet.of (maxL := 3) (by decide +kernel) rfl (Nat.le_of_ble_eq_true rfl) (fun K h1 h2 h3 h4 h5 h6 _ => h K h1 ⟨h2, h3, h4, h5, h6⟩)
def H_X4_voteText (p : CS → Prop) (o : CS → Int → CS → Prop) : Prop := ∀ (l : Launch) (y : LT) (σ : CS), p σ → cMet l yX4_voteText wsX4_voteText rm_X4_voteText y.2.2 (CL y) rkV [.ref (y.1 0 0 0)] σ (fun r σ' => o σ r σ')

/-! X4_steps -/
abbrev rm_X4_steps : Room := { frames := 2, cells := 0, slots := 0, locals := 64 }
set_option maxRecDepth 20000 in
theorem inX4_steps_X3 : ∀ w ∈ wsX30, w ∈ wsX4_steps := by decide +kernel
set_option maxRecDepth 20000 in
theorem inX4_steps_X4 : ∀ w ∈ wsX40, w ∈ wsX4_steps := by decide +kernel
theorem lk_X4_steps_f93 : Cond.fieldLink RX4 93 "CopyHouse$Text" "length" "I" ∈ wsX4_steps := List.mem_of_getElem? (i := 1) (by decide +kernel)
theorem lk_X4_steps_f45 : Cond.fieldLink RX4 45 "CopyHouse" "stepRow" "[I" ∈ wsX4_steps := List.mem_of_getElem? (i := 2) (by decide +kernel)
theorem lk_X4_steps_f101 : Cond.fieldLink RX4 101 "CopyHouse$Text" "letters" "[B" ∈ wsX4_steps := List.mem_of_getElem? (i := 3) (by decide +kernel)
def C_X4_steps (K : KT) (y : LT) (post : Int → CS → Prop) : Prop := kOK K cX4_steps RX4 wsX4_steps (some .int) rm_X4_steps ∧ K.nL = 8 ∧ kQ K (CL y) rkI post rm_X4_steps ∧ SF y.2.2 K.A K.s K.s.heap ∧ K.l.stackTraces = false
def P_X4_steps_0 (K : KT) (y : LT) (σ : CS) (v1 v2 : Int) : Prop := G K (CL y σ) (0, 0) [(0, .ref (y.1 0 0 0)), (1, .ref (y.1 8 v1 0)), (2, .ref (y.1 8 v2 0))] 0 []
def P_X4_steps_1 (K : KT) (y : LT) (σ : CS) (v1 v2 v3 v5 v6 v7 : Int) : Prop := G K (CL y σ) (0, 0) [(0, .ref (y.1 0 0 0)), (1, .ref (y.1 8 v1 0)), (2, .ref (y.1 8 v2 0)), (3, .int (iZ v3)), (5, .int (iZ v5)), (6, .int (iZ v6)), (7, .int (iZ v7))] 37 []
def P_X4_steps_2 (K : KT) (y : LT) (σ : CS) (v1 v2 v3 v5 v6 v7 : Int) : Prop := G K (CL y σ) (0, 0) [(0, .ref (y.1 0 0 0)), (1, .ref (y.1 8 v1 0)), (2, .ref (y.1 8 v2 0)), (3, .int (iZ v3)), (5, .int (iZ v5)), (6, .int (iZ v6)), (7, .int (iZ v7))] 62 []
set_option maxRecDepth 100000 in
set_option maxHeartbeats 4000000 in
theorem b_X4_steps_0 {K : KT} {y : LT} {post : Int → CS → Prop} (C : C_X4_steps K y post) {p_sameAhead : CS → Int → Int → Prop} {f_sameAhead : CS → Int → Int → Int} (h_sameAhead : H_X4_sameAhead p_sameAhead f_sameAhead) {p_sameBehind : CS → Int → Int → Int → Prop} {f_sameBehind : CS → Int → Int → Int → Int} (h_sameBehind : H_X4_sameBehind p_sameBehind f_sameBehind) {σ : CS} {v1 v2 : Int} (h : (p_sameAhead σ v1 v2) ∧ (p_sameBehind σ v1 v2 (f_sameAhead σ v1 v2)) ∧ (0 ≤ v1 ∧ v1 < (σ 21 0 0 0) + 3) ∧ (0 ≤ v2 ∧ v2 < (σ 21 0 0 0) + 3) ∧ P_X4_steps_1 K y σ v1 v2 (f_sameAhead σ v1 v2) ((σ 5 v1 0 0) - (f_sameBehind σ v1 v2 (f_sameAhead σ v1 v2))) (((σ 5 v2 0 0) - (f_sameAhead σ v1 v2)) - (f_sameBehind σ v1 v2 (f_sameAhead σ v1 v2))) 0) : P_X4_steps_0 K y σ v1 v2 := by
  refine g_aload_n C.1 1 dX4_steps_0 rfl rfl ?_
  refine g_aload_n C.1 2 dX4_steps_1 rfl rfl ?_
  obtain ⟨hp1, h⟩ := h
  refine c_callS C.1 C.2.2.2.1 C.2.2.2.2 (h_sameAhead K.l y σ v1 v2 hp1) (fun ht => va_cwS 2 ht gX4_steps_X4_sameAhead rfl rfl rfl (by decide +kernel) ⟨Nat.le_of_ble_eq_true rfl, Nat.le_of_ble_eq_true rfl⟩) rfl rfl (Nat.le_of_ble_eq_true rfl) ⟨Nat.le_of_ble_eq_true rfl, Nat.le_of_ble_eq_true rfl⟩ dX4_steps_2 (fun r σ9 hq => ?_)
  rw [hq.1, hq.2]
  show G K (CL y σ) (0, 0) [(0, .ref (y.1 0 0 0)), (1, .ref (y.1 8 v1 0)), (2, .ref (y.1 8 v2 0))] 5 [.int (iZ (f_sameAhead σ v1 v2))]
  refine g_istore_n C.1 (i := 3) (loc' := [(3, .int (iZ (f_sameAhead σ v1 v2))), (0, .ref (y.1 0 0 0)), (1, .ref (y.1 8 v1 0)), (2, .ref (y.1 8 v2 0))]) C.2.1 dX4_steps_5 rfl (by decide) rfl ?_
  refine g_aload_n C.1 2 dX4_steps_6 rfl rfl ?_
  refine g_aload_n C.1 3 dX4_steps_7 rfl rfl ?_
  refine g_iload_n C.1 0 dX4_steps_8 rfl rfl ?_
  obtain ⟨hp2, h⟩ := h
  refine c_callS C.1 C.2.2.2.1 C.2.2.2.2 (h_sameBehind K.l y σ v1 v2 (f_sameAhead σ v1 v2) hp2) (fun ht => va_cwS 3 ht gX4_steps_X4_sameBehind rfl rfl rfl (by decide +kernel) ⟨Nat.le_of_ble_eq_true rfl, Nat.le_of_ble_eq_true rfl⟩) rfl rfl (Nat.le_of_ble_eq_true rfl) ⟨Nat.le_of_ble_eq_true rfl, Nat.le_of_ble_eq_true rfl⟩ dX4_steps_9 (fun r σ9 hq => ?_)
  rw [hq.1, hq.2]
  show G K (CL y σ) (0, 0) [(3, .int (iZ (f_sameAhead σ v1 v2))), (0, .ref (y.1 0 0 0)), (1, .ref (y.1 8 v1 0)), (2, .ref (y.1 8 v2 0))] 12 [.int (iZ (f_sameBehind σ v1 v2 (f_sameAhead σ v1 v2)))]
  refine g_istore C.1 (i := 4) (loc' := [(4, .int (iZ (f_sameBehind σ v1 v2 (f_sameAhead σ v1 v2)))), (3, .int (iZ (f_sameAhead σ v1 v2))), (0, .ref (y.1 0 0 0)), (1, .ref (y.1 8 v1 0)), (2, .ref (y.1 8 v2 0))]) C.2.1 dX4_steps_12 (by decide) rfl ?_
  refine g_aload_n C.1 3 dX4_steps_14 rfl rfl ?_
  obtain ⟨hd3, h⟩ := h
  refine c_get C.1 (ci := 4) (q := (RX3, TX3, 2)) rfl rfl inX4_steps_X3 1 (by decide) (v := .int (iZ (σ 5 v1 0 0))) rfl lk_X4_steps_f93 rfl dX4_steps_15 ⟨hd3.1, hd3.2, rfl⟩ ?_
  refine g_iload C.1 0 dX4_steps_18 rfl ?_
  refine g_isub C.1 (x := σ 5 v1 0 0) (y := f_sameBehind σ v1 v2 (f_sameAhead σ v1 v2)) dX4_steps_20 ?_
  refine g_istore C.1 (i := 5) (loc' := [(5, .int (iZ ((σ 5 v1 0 0) - (f_sameBehind σ v1 v2 (f_sameAhead σ v1 v2))))), (4, .int (iZ (f_sameBehind σ v1 v2 (f_sameAhead σ v1 v2)))), (3, .int (iZ (f_sameAhead σ v1 v2))), (0, .ref (y.1 0 0 0)), (1, .ref (y.1 8 v1 0)), (2, .ref (y.1 8 v2 0))]) C.2.1 dX4_steps_21 (by decide) rfl ?_
  refine g_aload_n C.1 5 dX4_steps_23 rfl rfl ?_
  obtain ⟨hd4, h⟩ := h
  refine c_get C.1 (ci := 4) (q := (RX3, TX3, 2)) rfl rfl inX4_steps_X3 1 (by decide) (v := .int (iZ (σ 5 v2 0 0))) rfl lk_X4_steps_f93 rfl dX4_steps_24 ⟨hd4.1, hd4.2, rfl⟩ ?_
  refine g_iload_n C.1 2 dX4_steps_27 rfl rfl ?_
  refine g_isub C.1 (x := σ 5 v2 0 0) (y := f_sameAhead σ v1 v2) dX4_steps_28 ?_
  refine g_iload C.1 1 dX4_steps_29 rfl ?_
  refine g_isub C.1 (x := (σ 5 v2 0 0) - (f_sameAhead σ v1 v2)) (y := f_sameBehind σ v1 v2 (f_sameAhead σ v1 v2)) dX4_steps_31 ?_
  refine g_istore C.1 (i := 6) (loc' := [(6, .int (iZ (((σ 5 v2 0 0) - (f_sameAhead σ v1 v2)) - (f_sameBehind σ v1 v2 (f_sameAhead σ v1 v2))))), (5, .int (iZ ((σ 5 v1 0 0) - (f_sameBehind σ v1 v2 (f_sameAhead σ v1 v2))))), (4, .int (iZ (f_sameBehind σ v1 v2 (f_sameAhead σ v1 v2)))), (3, .int (iZ (f_sameAhead σ v1 v2))), (0, .ref (y.1 0 0 0)), (1, .ref (y.1 8 v1 0)), (2, .ref (y.1 8 v2 0))]) C.2.1 dX4_steps_32 (by decide) rfl ?_
  refine g_iconst C.1 (z := 0) dX4_steps_34 ?_
  refine g_istore C.1 (i := 7) (loc' := [(7, .int (iZ 0)), (6, .int (iZ (((σ 5 v2 0 0) - (f_sameAhead σ v1 v2)) - (f_sameBehind σ v1 v2 (f_sameAhead σ v1 v2))))), (5, .int (iZ ((σ 5 v1 0 0) - (f_sameBehind σ v1 v2 (f_sameAhead σ v1 v2))))), (4, .int (iZ (f_sameBehind σ v1 v2 (f_sameAhead σ v1 v2)))), (3, .int (iZ (f_sameAhead σ v1 v2))), (0, .ref (y.1 0 0 0)), (1, .ref (y.1 8 v1 0)), (2, .ref (y.1 8 v2 0))]) C.2.1 dX4_steps_35 (by decide) rfl ?_
  exact g_sub [5, 6, 7, 4, 2, 1, 0] rfl h
set_option maxRecDepth 100000 in
set_option maxHeartbeats 4000000 in
theorem b_X4_steps_1 {K : KT} {y : LT} {post : Int → CS → Prop} (C : C_X4_steps K y post) {σ : CS} {v1 v2 v3 v5 v6 v7 : Int} (h : (-2147483648 ≤ v7 ∧ v7 < 2147483648) ∧ (-2147483648 ≤ v6 ∧ v6 < 2147483648) ∧ ((v6 < v7 → P_X4_steps_2 K y σ v1 v2 v3 v5 v6 v3) ∧ (¬ v6 < v7 → (0 ≤ v7 ∧ v7 < 121) ∧ P_X4_steps_1 K y (upC σ 7 (up1 (σ 7) v7 v7)) v1 v2 v3 v5 v6 (v7 + 1)))) : P_X4_steps_1 K y σ v1 v2 v3 v5 v6 v7 := by
  refine g_iload C.1 6 dX4_steps_37 rfl ?_
  refine g_iload C.1 5 dX4_steps_39 rfl ?_
  obtain ⟨hc1, h⟩ := h
  obtain ⟨hc2, h⟩ := h
  refine g_icmp_gt C.1 (tgt := 59) dX4_steps_41 (by decide) hc1 hc2 (fun hc => ?_) (fun hc => ?_)
  · have h := h.1 hc
    refine g_iload_n C.1 3 dX4_steps_59 rfl rfl ?_
    refine g_istore C.1 (i := 7) (loc' := [(7, .int (iZ v3)), (0, .ref (y.1 0 0 0)), (1, .ref (y.1 8 v1 0)), (2, .ref (y.1 8 v2 0)), (3, .int (iZ v3)), (5, .int (iZ v5)), (6, .int (iZ v6))]) C.2.1 dX4_steps_60 (by decide) rfl ?_
    exact g_sub [1, 2, 3, 4, 5, 6, 0] rfl h
  · have h := h.2 hc
    refine g_aload_n C.1 0 dX4_steps_44 rfl rfl ?_
    refine c_get C.1 (ci := 5) (q := (RX4, TX4, 10)) rfl rfl inX4_steps_X4 8 (by decide) (v := .ref (y.1 10 0 0)) rfl lk_X4_steps_f45 rfl dX4_steps_45 ⟨rfl, rfl⟩ ?_
    refine g_iload C.1 6 dX4_steps_48 rfl ?_
    refine g_iload C.1 6 dX4_steps_50 rfl ?_
    obtain ⟨hi3, h⟩ := h
    refine c_ast C.1 (σ' := upC σ 7 (up1 (σ 7) v7 v7)) (N := 121) (f := fun p => σ 7 p 0 0) (e := v7) (z := v7) rfl rfl rfl (CUpd_7 y _ _) rfl (by decide) dX4_steps_52 ⟨rfl, rfl⟩ hi3 ?_
    refine g_iinc C.1 (z := v7) (w := 1) (loc' := [(7, .int (iZ (v7 + 1))), (0, .ref (y.1 0 0 0)), (1, .ref (y.1 8 v1 0)), (2, .ref (y.1 8 v2 0)), (3, .int (iZ v3)), (5, .int (iZ v5)), (6, .int (iZ v6))]) 6 C.2.1 dX4_steps_53 rfl (by decide) rfl ?_
    refine g_goto C.1 (tgt := 37) dX4_steps_56 (by decide) ?_
    exact g_sub [1, 2, 3, 4, 5, 6, 0] rfl h
set_option maxRecDepth 100000 in
set_option maxHeartbeats 4000000 in
theorem b_X4_steps_2 {K : KT} {y : LT} {post : Int → CS → Prop} (C : C_X4_steps K y post) {p_nextStepRow : CS → Int → Int → Int → Int → Prop} {o_nextStepRow : CS → Int → Int → Int → Int → Int → CS → Prop} (h_nextStepRow : H_X4_nextStepRow p_nextStepRow o_nextStepRow) {σ : CS} {v1 v2 v3 v5 v6 v7 : Int} (h : (-2147483648 ≤ v7 ∧ v7 < 2147483648) ∧ (-2147483648 ≤ v5 ∧ v5 < 2147483648) ∧ ((v5 ≤ v7 → (0 ≤ v6 ∧ v6 < 121) ∧ post (σ 7 v6 0 0) σ) ∧ (¬ v5 ≤ v7 → (0 ≤ v1 ∧ v1 < (σ 21 0 0 0) + 3) ∧ (0 ≤ v7 ∧ v7 < 120) ∧ (0 ≤ v2 ∧ v2 < (σ 21 0 0 0) + 3) ∧ (p_nextStepRow σ (σ 6 v1 v7 0) v2 v3 v6) ∧ ∀ (r8 : Int) (σ9 : CS), o_nextStepRow σ (σ 6 v1 v7 0) v2 v3 v6 r8 σ9 → P_X4_steps_2 K y σ9 v1 v2 v3 v5 v6 (v7 + 1)))) : P_X4_steps_2 K y σ v1 v2 v3 v5 v6 v7 := by
  refine g_iload C.1 6 dX4_steps_62 rfl ?_
  refine g_iload C.1 4 dX4_steps_64 rfl ?_
  obtain ⟨hc1, h⟩ := h
  obtain ⟨hc2, h⟩ := h
  refine g_icmp_ge C.1 (tgt := 93) dX4_steps_66 (by decide) hc1 hc2 (fun hc => ?_) (fun hc => ?_)
  · have h := h.1 hc
    refine g_aload_n C.1 0 dX4_steps_93 rfl rfl ?_
    refine c_get C.1 (ci := 5) (q := (RX4, TX4, 10)) rfl rfl inX4_steps_X4 8 (by decide) (v := .ref (y.1 10 0 0)) rfl lk_X4_steps_f45 rfl dX4_steps_94 ⟨rfl, rfl⟩ ?_
    refine g_iload C.1 5 dX4_steps_97 rfl ?_
    obtain ⟨hi3, h⟩ := h
    refine c_ald C.1 (N := 121) (f := fun p => σ 7 p 0 0) (e := v6) rfl rfl rfl (by decide) dX4_steps_99 ⟨rfl, rfl⟩ hi3 ?_
    show G K (CL y σ) (0, 0) [(0, .ref (y.1 0 0 0)), (1, .ref (y.1 8 v1 0)), (2, .ref (y.1 8 v2 0)), (3, .int (iZ v3)), (5, .int (iZ v5)), (6, .int (iZ v6)), (7, .int (iZ v7))] 100 [.int (iZ (σ 7 v6 0 0))]
    exact x_iret C.1 C.2.2.1 rfl ⟨Nat.le_of_ble_eq_true rfl, Nat.le_of_ble_eq_true rfl⟩ dX4_steps_100 h
  · have h := h.2 hc
    refine g_aload_n C.1 0 dX4_steps_69 rfl rfl ?_
    refine g_aload_n C.1 1 dX4_steps_70 rfl rfl ?_
    obtain ⟨hd4, h⟩ := h
    refine c_get C.1 (ci := 4) (q := (RX3, TX3, 2)) rfl rfl inX4_steps_X3 0 (by decide) (v := .ref (y.1 9 v1 0)) rfl lk_X4_steps_f101 rfl dX4_steps_71 ⟨hd4.1, hd4.2, rfl⟩ ?_
    refine g_iload C.1 6 dX4_steps_74 rfl ?_
    obtain ⟨hi5, h⟩ := h
    refine c_bald C.1 (N := 120) (f := fun p => σ 6 v1 p 0) (e := v7) rfl rfl rfl (by decide) dX4_steps_76 ⟨hd4.1, hd4.2, rfl⟩ hi5 ?_
    show G K (CL y σ) (0, 0) [(0, .ref (y.1 0 0 0)), (1, .ref (y.1 8 v1 0)), (2, .ref (y.1 8 v2 0)), (3, .int (iZ v3)), (5, .int (iZ v5)), (6, .int (iZ v6)), (7, .int (iZ v7))] 77 [.int (iZ (σ 6 v1 v7 0)), .ref (y.1 0 0 0)]
    refine g_aload_n C.1 2 dX4_steps_77 rfl rfl ?_
    obtain ⟨hd6, h⟩ := h
    refine c_get C.1 (ci := 4) (q := (RX3, TX3, 2)) rfl rfl inX4_steps_X3 0 (by decide) (v := .ref (y.1 9 v2 0)) rfl lk_X4_steps_f101 rfl dX4_steps_78 ⟨hd6.1, hd6.2, rfl⟩ ?_
    refine g_iload_n C.1 3 dX4_steps_81 rfl rfl ?_
    refine g_iload C.1 5 dX4_steps_82 rfl ?_
    obtain ⟨hp7, h⟩ := h
    refine c_callV C.1 C.2.2.2.1 C.2.2.2.2 (h_nextStepRow K.l y σ (σ 6 v1 v7 0) v2 v3 v6 hp7) (ci := 5) (q := (RX4, TX4, 10)) rfl (c_recv rfl ⟨rfl, rfl⟩) (fun ht => cwV 4 ht gX4_steps_X4_nextStepRow rfl rfl rfl (by decide +kernel) ⟨Nat.le_of_ble_eq_true rfl, Nat.le_of_ble_eq_true rfl⟩) rfl rfl (Nat.le_of_ble_eq_true rfl) ⟨Nat.le_of_ble_eq_true rfl, Nat.le_of_ble_eq_true rfl⟩ dX4_steps_84 (fun r8 σ9 hq => ?_)
    have h := h r8 σ9 hq
    show G K (CL y σ9) (0, 0) [(0, .ref (y.1 0 0 0)), (1, .ref (y.1 8 v1 0)), (2, .ref (y.1 8 v2 0)), (3, .int (iZ v3)), (5, .int (iZ v5)), (6, .int (iZ v6)), (7, .int (iZ v7))] 87 []
    refine g_iinc C.1 (z := v7) (w := 1) (loc' := [(7, .int (iZ (v7 + 1))), (0, .ref (y.1 0 0 0)), (1, .ref (y.1 8 v1 0)), (2, .ref (y.1 8 v2 0)), (3, .int (iZ v3)), (5, .int (iZ v5)), (6, .int (iZ v6))]) 6 C.2.1 dX4_steps_87 rfl (by decide) rfl ?_
    refine g_goto C.1 (tgt := 62) dX4_steps_90 (by decide) ?_
    exact g_sub [1, 2, 3, 4, 5, 6, 0] rfl h
theorem m_X4_steps {l : Launch} {y : LT} {σ : CS} {v1 v2 : Int} {post : Int → CS → Prop} (h : ∀ K : KT, K.l = l → C_X4_steps K y post → P_X4_steps_0 K y σ v1 v2) : cMet l yX4_steps wsX4_steps rm_X4_steps y.2.2 (CL y) rkI [.ref (y.1 0 0 0), .ref (y.1 8 v1 0), .ref (y.1 8 v2 0)] σ post :=
  cMet.of (maxL := 8) (by decide +kernel) rfl (Nat.le_of_ble_eq_true rfl) (fun K h1 h2 h3 h4 h5 h6 _ => h K h1 ⟨h2, h3, h4, h5, h6⟩)
def H_X4_steps (p : CS → Int → Int → Prop) (o : CS → Int → Int → Int → CS → Prop) : Prop := ∀ (l : Launch) (y : LT) (σ : CS) (v1 v2 : Int), p σ v1 v2 → cMet l yX4_steps wsX4_steps rm_X4_steps y.2.2 (CL y) rkI [.ref (y.1 0 0 0), .ref (y.1 8 v1 0), .ref (y.1 8 v2 0)] σ (fun r σ' => o σ v1 v2 r σ')

/-! X4_voteLength -/
abbrev rm_X4_voteLength : Room := { frames := 4, cells := 0, slots := 0, locals := 89 }
def C_X4_voteLength (K : KT) (y : LT) (post : Int → CS → Prop) : Prop := kOK K cX4_voteLength RX4 wsX4_voteLength (some .int) rm_X4_voteLength ∧ K.nL = 1 ∧ kQ K (CL y) rkI post rm_X4_voteLength ∧ SF y.2.2 K.A K.s K.s.heap ∧ K.l.stackTraces = false
def P_X4_voteLength_0 (K : KT) (y : LT) (σ : CS) : Prop := G K (CL y σ) (0, 0) [(0, .ref (y.1 0 0 0))] 0 []
set_option maxRecDepth 100000 in
set_option maxHeartbeats 4000000 in
theorem b_X4_voteLength_0 {K : KT} {y : LT} {post : Int → CS → Prop} (C : C_X4_voteLength K y post) {p_lengthOfMost : CS → Prop} {o_lengthOfMost : CS → Int → CS → Prop} (h_lengthOfMost : H_X4_lengthOfMost p_lengthOfMost o_lengthOfMost) {σ : CS} (h : (p_lengthOfMost σ) ∧ ∀ (r2 : Int) (σ3 : CS), o_lengthOfMost σ r2 σ3 → post r2 σ3) : P_X4_voteLength_0 K y σ := by
  refine g_aload_n C.1 0 dX4_voteLength_0 rfl rfl ?_
  obtain ⟨hp1, h⟩ := h
  refine c_callV C.1 C.2.2.2.1 C.2.2.2.2 (h_lengthOfMost K.l y σ hp1) (ci := 5) (q := (RX4, TX4, 10)) rfl (c_recv rfl ⟨rfl, rfl⟩) (fun ht => cwV 0 ht gX4_voteLength_X4_lengthOfMost rfl rfl rfl (by decide +kernel) ⟨Nat.le_of_ble_eq_true rfl, Nat.le_of_ble_eq_true rfl⟩) rfl rfl (Nat.le_of_ble_eq_true rfl) ⟨Nat.le_of_ble_eq_true rfl, Nat.le_of_ble_eq_true rfl⟩ dX4_voteLength_1 (fun r2 σ3 hq => ?_)
  have h := h r2 σ3 hq
  show G K (CL y σ3) (0, 0) [(0, .ref (y.1 0 0 0))] 4 [.int (iZ r2)]
  exact x_iret C.1 C.2.2.1 rfl ⟨Nat.le_of_ble_eq_true rfl, Nat.le_of_ble_eq_true rfl⟩ dX4_voteLength_4 h
theorem m_X4_voteLength {l : Launch} {y : LT} {σ : CS} {post : Int → CS → Prop} (h : ∀ K : KT, K.l = l → C_X4_voteLength K y post → P_X4_voteLength_0 K y σ) : cMet l yX4_voteLength wsX4_voteLength rm_X4_voteLength y.2.2 (CL y) rkI [.ref (y.1 0 0 0)] σ post :=
  cMet.of (maxL := 1) (by decide +kernel) rfl (Nat.le_of_ble_eq_true rfl) (fun K h1 h2 h3 h4 h5 h6 _ => h K h1 ⟨h2, h3, h4, h5, h6⟩)
def H_X4_voteLength (p : CS → Prop) (o : CS → Int → CS → Prop) : Prop := ∀ (l : Launch) (y : LT) (σ : CS), p σ → cMet l yX4_voteLength wsX4_voteLength rm_X4_voteLength y.2.2 (CL y) rkI [.ref (y.1 0 0 0)] σ (fun r σ' => o σ r σ')

/-! X4_vote -/
abbrev rm_X4_vote : Room := { frames := 6, cells := 1, slots := 6, locals := 100 }
set_option maxRecDepth 20000 in
theorem at_X4_vote_100 : ∀ w ∈ (vx_atS RX4 100 "java/lang/IndexOutOfBoundsException" ["java/lang/RuntimeException", "java/lang/Exception"]).filter goodWord, w ∈ wsX4_vote := fun w h => by
  unfold wsX4_vote
  simp only [List.mem_cons, List.mem_append]
  simp only [h, or_true, true_or]
theorem lk_X4_vote_cl96 : Cond.classLink RX4 96 "java/lang/IndexOutOfBoundsException" ∈ wsX4_vote := List.mem_of_getElem? (i := 1) (by decide +kernel)
theorem lk_X4_vote_ini_IndexOutOfBoundsException : Cond.initialized "java/lang/IndexOutOfBoundsException" ∈ wsX4_vote := List.mem_of_getElem? (i := 2) (by decide +kernel)
def C_X4_vote (K : KT) (y : LT) (post : Int → CS → Prop) (px : String → CS → Prop) : Prop := kOK K cX4_vote RX4 wsX4_vote (some .int) rm_X4_vote ∧ K.nL = 3 ∧ kQX K (CL y) rkI post px rm_X4_vote ∧ SF y.2.2 K.A K.s K.s.heap ∧ K.l.stackTraces = false ∧ kNX K
def P_X4_vote_0 (K : KT) (y : LT) (σ : CS) (v1 : Int) : Prop := G K (CL y σ) (0, 0) [(0, .ref (y.1 0 0 0)), (1, .int (iZ v1))] 0 []
set_option maxRecDepth 100000 in
set_option maxHeartbeats 4000000 in
theorem b_X4_vote_0 {K : KT} {y : LT} {post : Int → CS → Prop} {px : String → CS → Prop} (C : C_X4_vote K y post px) {p_lengthOfMost : CS → Prop} {o_lengthOfMost : CS → Int → CS → Prop} (h_lengthOfMost : H_X4_lengthOfMost p_lengthOfMost o_lengthOfMost) {p_letterOfMost : CS → Int → Int → Prop} {o_letterOfMost : CS → Int → Int → Int → CS → Prop} (h_letterOfMost : H_X4_letterOfMost p_letterOfMost o_letterOfMost) {σ : CS} {v1 : Int} (h : (p_lengthOfMost σ) ∧ ∀ (r2 : Int) (σ3 : CS), o_lengthOfMost σ r2 σ3 → (-2147483648 ≤ v1 ∧ v1 < 2147483648) ∧ ((v1 < 0 → px "java/lang/IndexOutOfBoundsException" σ3) ∧ (¬ v1 < 0 → (-2147483648 ≤ r2 ∧ r2 < 2147483648) ∧ ((v1 < r2 → (p_letterOfMost σ3 v1 r2) ∧ ∀ (r7 : Int) (σ8 : CS), o_letterOfMost σ3 v1 r2 r7 σ8 → post r7 σ8) ∧ (¬ v1 < r2 → px "java/lang/IndexOutOfBoundsException" σ3))))) : P_X4_vote_0 K y σ v1 := by
  refine g_aload_n C.1 0 dX4_vote_0 rfl rfl ?_
  obtain ⟨hp1, h⟩ := h
  refine c_callV C.1 C.2.2.2.1 C.2.2.2.2.1 (h_lengthOfMost K.l y σ hp1) (ci := 5) (q := (RX4, TX4, 10)) rfl (c_recv rfl ⟨rfl, rfl⟩) (fun ht => cwV 0 ht gX4_vote_X4_lengthOfMost rfl rfl rfl (by decide +kernel) ⟨Nat.le_of_ble_eq_true rfl, Nat.le_of_ble_eq_true rfl⟩) rfl rfl (Nat.le_of_ble_eq_true rfl) ⟨Nat.le_of_ble_eq_true rfl, Nat.le_of_ble_eq_true rfl⟩ dX4_vote_1 (fun r2 σ3 hq => ?_)
  have h := h r2 σ3 hq
  show G K (CL y σ3) (0, 0) [(0, .ref (y.1 0 0 0)), (1, .int (iZ v1))] 4 [.int (iZ r2)]
  refine g_istore_n C.1 (i := 2) (loc' := [(2, .int (iZ r2)), (0, .ref (y.1 0 0 0)), (1, .int (iZ v1))]) C.2.1 dX4_vote_4 rfl (by decide) rfl ?_
  refine g_iload_n C.1 2 dX4_vote_5 rfl rfl ?_
  obtain ⟨hc4, h⟩ := h
  refine g_if_lt C.1 (tgt := 14) dX4_vote_6 (by decide) hc4 (fun hc => ?_) (fun hc => ?_)
  · have h := h.1 hc
    exact y_throw C.1 C.2.2.1 C.2.2.2.1 C.2.2.2.2.1 C.2.2.2.2.2 (E := "java/lang/IndexOutOfBoundsException") (text := "no such place is voted for") (ik := 96) (is := 217) (ic := 100) (by decide +kernel) lk_X4_vote_cl96 lk_X4_vote_ini_IndexOutOfBoundsException (by decide +kernel) at_X4_vote_100 (by decide +kernel) (by decide +kernel) (by decide +kernel) dX4_vote_14 dX4_vote_17 dX4_vote_18 dX4_vote_20 dX4_vote_23 (Nat.le_of_ble_eq_true rfl) (Nat.le_of_ble_eq_true rfl) (Nat.le_of_ble_eq_true rfl) (Nat.le_of_ble_eq_true rfl) ⟨(Nat.le_of_ble_eq_true rfl), (Nat.le_of_ble_eq_true rfl)⟩ h
  · have h := h.2 hc
    refine g_iload_n C.1 2 dX4_vote_9 rfl rfl ?_
    refine g_iload_n C.1 0 dX4_vote_10 rfl rfl ?_
    obtain ⟨hc5, h⟩ := h
    refine g_icmp_lt C.1 (tgt := 24) dX4_vote_11 (by decide) hc4 hc5 (fun hc => ?_) (fun hc => ?_)
    · have h := h.1 hc
      refine g_aload_n C.1 1 dX4_vote_24 rfl rfl ?_
      refine g_iload_n C.1 2 dX4_vote_25 rfl rfl ?_
      refine g_iload_n C.1 0 dX4_vote_26 rfl rfl ?_
      obtain ⟨hp6, h⟩ := h
      refine c_callV C.1 C.2.2.2.1 C.2.2.2.2.1 (h_letterOfMost K.l y σ3 v1 r2 hp6) (ci := 5) (q := (RX4, TX4, 10)) rfl (c_recv rfl ⟨rfl, rfl⟩) (fun ht => cwV 2 ht gX4_vote_X4_letterOfMost rfl rfl rfl (by decide +kernel) ⟨Nat.le_of_ble_eq_true rfl, Nat.le_of_ble_eq_true rfl⟩) rfl rfl (Nat.le_of_ble_eq_true rfl) ⟨Nat.le_of_ble_eq_true rfl, Nat.le_of_ble_eq_true rfl⟩ dX4_vote_27 (fun r7 σ8 hq => ?_)
      have h := h r7 σ8 hq
      show G K (CL y σ8) (0, 0) [(2, .int (iZ r2)), (0, .ref (y.1 0 0 0)), (1, .int (iZ v1))] 30 [.int (iZ r7)]
      exact y_iret C.1 C.2.2.1 rfl ⟨Nat.le_of_ble_eq_true rfl, Nat.le_of_ble_eq_true rfl⟩ dX4_vote_30 h
    · have h := h.2 hc
      exact y_throw C.1 C.2.2.1 C.2.2.2.1 C.2.2.2.2.1 C.2.2.2.2.2 (E := "java/lang/IndexOutOfBoundsException") (text := "no such place is voted for") (ik := 96) (is := 217) (ic := 100) (by decide +kernel) lk_X4_vote_cl96 lk_X4_vote_ini_IndexOutOfBoundsException (by decide +kernel) at_X4_vote_100 (by decide +kernel) (by decide +kernel) (by decide +kernel) dX4_vote_14 dX4_vote_17 dX4_vote_18 dX4_vote_20 dX4_vote_23 (Nat.le_of_ble_eq_true rfl) (Nat.le_of_ble_eq_true rfl) (Nat.le_of_ble_eq_true rfl) (Nat.le_of_ble_eq_true rfl) ⟨(Nat.le_of_ble_eq_true rfl), (Nat.le_of_ble_eq_true rfl)⟩ h
theorem m_X4_vote {l : Launch} {y : LT} {σ : CS} {v1 : Int} {post : Int → CS → Prop} {px : String → CS → Prop} (h : ∀ K : KT, K.l = l → C_X4_vote K y post px → P_X4_vote_0 K y σ v1) : vMet l yX4_vote wsX4_vote rm_X4_vote y.2.2 (CL y) rkI [.ref (y.1 0 0 0), .int (iZ v1)] σ post px :=
  vMet.of (maxL := 3) (by decide +kernel) rfl (Nat.le_of_ble_eq_true rfl) (fun K h1 h2 h3 h4 h5 h6 h7 => h K h1 ⟨h2, h3, h4, h5, h6, h7⟩)
def H_X4_vote (p : CS → Int → Prop) (o : CS → Int → Int → CS → Prop) (x : CS → Int → String → CS → Prop) : Prop := ∀ (l : Launch) (y : LT) (σ : CS) (v1 : Int), p σ v1 → vMet l yX4_vote wsX4_vote rm_X4_vote y.2.2 (CL y) rkI [.ref (y.1 0 0 0), .int (iZ v1)] σ (fun r σ' => o σ v1 r σ') (x σ v1)

/-! X4_voteDistance -/
abbrev rm_X4_voteDistance : Room := { frames := 7, cells := 1, slots := 6, locals := 121 }
set_option maxRecDepth 20000 in
theorem inX4_voteDistance_X1 : ∀ w ∈ wsX10, w ∈ wsX4_voteDistance := by decide +kernel
set_option maxRecDepth 20000 in
theorem inX4_voteDistance_X4 : ∀ w ∈ wsX40, w ∈ wsX4_voteDistance := by decide +kernel
theorem lk_X4_voteDistance_f88 : Cond.fieldLink RX4 88 "CopyHouse$Manuscript" "text" "LCopyHouse$Text;" ∈ wsX4_voteDistance := List.mem_of_getElem? (i := 1) (by decide +kernel)
theorem lk_X4_voteDistance_f42 : Cond.fieldLink RX4 42 "CopyHouse" "voted" "LCopyHouse$Text;" ∈ wsX4_voteDistance := List.mem_of_getElem? (i := 2) (by decide +kernel)
def C_X4_voteDistance (K : KT) (y : LT) (post : Int → CS → Prop) (px : String → CS → Prop) : Prop := kOK K cX4_voteDistance RX4 wsX4_voteDistance (some .int) rm_X4_voteDistance ∧ K.nL = 3 ∧ kQX K (CL y) rkI post px rm_X4_voteDistance ∧ SF y.2.2 K.A K.s K.s.heap ∧ K.l.stackTraces = false ∧ kNX K
def P_X4_voteDistance_0 (K : KT) (y : LT) (σ : CS) (v1 : Int) : Prop := G K (CL y σ) (0, 0) [(0, .ref (y.1 0 0 0)), (1, .int (iZ v1))] 0 []
set_option maxRecDepth 100000 in
set_option maxHeartbeats 4000000 in
theorem b_X4_voteDistance_0 {K : KT} {y : LT} {post : Int → CS → Prop} {px : String → CS → Prop} (C : C_X4_voteDistance K y post px) {p_manuscriptOf : CS → Int → Prop} {o_manuscriptOf : CS → Int → Int → CS → Prop} {x_manuscriptOf : CS → Int → String → CS → Prop} (h_manuscriptOf : H_X4_manuscriptOf p_manuscriptOf o_manuscriptOf x_manuscriptOf) {p_voteText : CS → Prop} {o_voteText : CS → Int → CS → Prop} (h_voteText : H_X4_voteText p_voteText o_voteText) {p_steps : CS → Int → Int → Prop} {o_steps : CS → Int → Int → Int → CS → Prop} (h_steps : H_X4_steps p_steps o_steps) {σ : CS} {v1 : Int} (h : (p_manuscriptOf σ v1) ∧ (∀ (E : String) (u9 : CS), x_manuscriptOf σ v1 E u9 → px E u9) ∧ ∀ (r2 : Int) (σ3 : CS), o_manuscriptOf σ v1 r2 σ3 → (p_voteText σ3) ∧ ∀ (r5 : Int) (σ6 : CS), o_voteText σ3 r5 σ6 → (0 ≤ r2 ∧ r2 < (σ6 21 0 0 0)) ∧ (p_steps σ6 (r2 + 3) 2) ∧ ∀ (r9 : Int) (σ10 : CS), o_steps σ6 (r2 + 3) 2 r9 σ10 → post r9 σ10) : P_X4_voteDistance_0 K y σ v1 := by
  refine g_aload_n C.1 0 dX4_voteDistance_0 rfl rfl ?_
  refine g_iload_n C.1 1 dX4_voteDistance_1 rfl rfl ?_
  obtain ⟨hp1, h⟩ := h
  obtain ⟨hx9, h⟩ := h
  refine c_callX C.1 C.2.2.1 C.2.2.2.2.2 C.2.2.2.1 C.2.2.2.2.1 (h_manuscriptOf K.l y σ v1 hp1) (ci := 5) (q := (RX4, TX4, 10)) rfl (c_recv rfl ⟨rfl, rfl⟩) (fun ht => cwV 1 ht gX4_voteDistance_X4_manuscriptOf rfl rfl rfl (by decide +kernel) ⟨Nat.le_of_ble_eq_true rfl, Nat.le_of_ble_eq_true rfl⟩) rfl rfl (Nat.le_of_ble_eq_true rfl) ⟨Nat.le_of_ble_eq_true rfl, Nat.le_of_ble_eq_true rfl⟩ ⟨Nat.le_of_ble_eq_true rfl, Nat.le_of_ble_eq_true rfl⟩ dX4_voteDistance_2 (fun E u9 hq => ⟨u9, hx9 E u9 hq, fun _ _ w9 => w9⟩) (fun r2 σ3 hq => ?_)
  have h := h r2 σ3 hq
  show G K (CL y σ3) (1, 6) [(0, .ref (y.1 0 0 0)), (1, .int (iZ v1))] 5 [vM y r2]
  refine g_astoreM_n C.1 (i := 2) (loc' := [(0, .ref (y.1 0 0 0)), (1, .int (iZ v1))]) C.2.1 dX4_voteDistance_5 rfl (by decide) rfl ?_
  refine g_aload_n C.1 1 dX4_voteDistance_6 rfl rfl ?_
  obtain ⟨hp4, h⟩ := h
  refine c_callV C.1 C.2.2.2.1 C.2.2.2.2.1 (h_voteText K.l y σ3 hp4) (ci := 5) (q := (RX4, TX4, 10)) rfl (c_recv rfl ⟨rfl, rfl⟩) (fun ht => cwV 0 ht gX4_voteDistance_X4_voteText rfl rfl rfl (by decide +kernel) ⟨Nat.le_of_ble_eq_true rfl, Nat.le_of_ble_eq_true rfl⟩) rfl rfl (Nat.le_of_ble_eq_true rfl) ⟨Nat.le_of_ble_eq_true rfl, Nat.le_of_ble_eq_true rfl⟩ dX4_voteDistance_7 (fun r5 σ6 hq => ?_)
  have h := h r5 σ6 hq
  show G K (CL y σ6) (1, 6) [(2, vM y r2), (0, .ref (y.1 0 0 0)), (1, .int (iZ v1))] 10 []
  refine g_aload_n C.1 1 dX4_voteDistance_10 rfl rfl ?_
  refine g_aloadM_n C.1 0 dX4_voteDistance_11 rfl rfl ?_
  obtain ⟨hd7, h⟩ := h
  refine c_atM hd7.1 ?_
  refine c_get C.1 (ci := 2) (q := (RX1, TX1, 6)) rfl rfl inX4_voteDistance_X1 4 (by decide) (v := .ref (y.1 8 (r2 + 3) 0)) rfl lk_X4_voteDistance_f88 rfl dX4_voteDistance_12 ⟨hd7.1, hd7.2, rfl⟩ ?_
  refine g_aload_n C.1 1 dX4_voteDistance_15 rfl rfl ?_
  refine c_get C.1 (ci := 5) (q := (RX4, TX4, 10)) rfl rfl inX4_voteDistance_X4 7 (by decide) (v := .ref (y.1 8 2 0)) rfl lk_X4_voteDistance_f42 rfl dX4_voteDistance_16 ⟨rfl, rfl⟩ ?_
  obtain ⟨hp8, h⟩ := h
  refine c_callV C.1 C.2.2.2.1 C.2.2.2.2.1 (h_steps K.l y σ6 (r2 + 3) 2 hp8) (ci := 5) (q := (RX4, TX4, 10)) rfl (c_recv rfl ⟨rfl, rfl⟩) (fun ht => cwV 2 ht gX4_voteDistance_X4_steps rfl rfl rfl (by decide +kernel) ⟨Nat.le_of_ble_eq_true rfl, Nat.le_of_ble_eq_true rfl⟩) rfl rfl (Nat.le_of_ble_eq_true rfl) ⟨Nat.le_of_ble_eq_true rfl, Nat.le_of_ble_eq_true rfl⟩ dX4_voteDistance_19 (fun r9 σ10 hq => ?_)
  have h := h r9 σ10 hq
  show G K (CL y σ10) (1, 6) [(2, vM y r2), (0, .ref (y.1 0 0 0)), (1, .int (iZ v1))] 22 [.int (iZ r9)]
  exact y_iret C.1 C.2.2.1 rfl ⟨Nat.le_of_ble_eq_true rfl, Nat.le_of_ble_eq_true rfl⟩ dX4_voteDistance_22 h
theorem m_X4_voteDistance {l : Launch} {y : LT} {σ : CS} {v1 : Int} {post : Int → CS → Prop} {px : String → CS → Prop} (h : ∀ K : KT, K.l = l → C_X4_voteDistance K y post px → P_X4_voteDistance_0 K y σ v1) : vMet l yX4_voteDistance wsX4_voteDistance rm_X4_voteDistance y.2.2 (CL y) rkI [.ref (y.1 0 0 0), .int (iZ v1)] σ post px :=
  vMet.of (maxL := 3) (by decide +kernel) rfl (Nat.le_of_ble_eq_true rfl) (fun K h1 h2 h3 h4 h5 h6 h7 => h K h1 ⟨h2, h3, h4, h5, h6, h7⟩)
def H_X4_voteDistance (p : CS → Int → Prop) (o : CS → Int → Int → CS → Prop) (x : CS → Int → String → CS → Prop) : Prop := ∀ (l : Launch) (y : LT) (σ : CS) (v1 : Int), p σ v1 → vMet l yX4_voteDistance wsX4_voteDistance rm_X4_voteDistance y.2.2 (CL y) rkI [.ref (y.1 0 0 0), .int (iZ v1)] σ (fun r σ' => o σ v1 r σ') (x σ v1)
