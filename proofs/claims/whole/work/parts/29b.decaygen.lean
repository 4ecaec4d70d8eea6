/-! decay, up to the doubles -/
/-! X4_decay -/
abbrev rm_X4_decay : Room := { frames := 4, cells := 0, slots := 0, locals := 114 }
set_option maxRecDepth 20000 in
theorem inX4_decay_X4 : ∀ w ∈ wsX40, w ∈ wsX4_decay := by decide +kernel
set_option maxRecDepth 20000 in
theorem inX4_decay_X1 : ∀ w ∈ wsX10, w ∈ wsX4_decay := by decide +kernel
theorem lk_X4_decay_f20 : Cond.fieldLink RX4 20 "CopyHouse" "manuscripts" "Ljava/util/ArrayList;" ∈ wsX4_decay := List.mem_of_getElem? (i := 1) (by decide +kernel)
theorem lk_X4_decay_cc89 : Cond.classLink RX4 89 "CopyHouse$Manuscript" ∈ wsX4_decay := List.mem_of_getElem? (i := 2) (by decide +kernel)
theorem lk_X4_decay_f153 : Cond.fieldLink RX4 153 "CopyHouse$Manuscript" "there" "Z" ∈ wsX4_decay := List.mem_of_getElem? (i := 3) (by decide +kernel)
def C_X4_decay (K : KT) (y : LT) (post : Int → CS → Prop) : Prop := kOK K cX4_decay RX4 wsX4_decay (some .double) rm_X4_decay ∧ K.nL = 5 ∧ kQ K (CL y) rkD post rm_X4_decay ∧ SF y.2.2 K.A K.s K.s.heap ∧ K.l.stackTraces = false
def P_X4_decay_0 (K : KT) (y : LT) (σ : CS) : Prop := G K (CL y σ) (0, 0) [(0, .ref (y.1 0 0 0))] 0 []
def P_X4_decay_1 (K : KT) (y : LT) (σ : CS) (v1 v2 v3 : Int) : Prop := G K (CL y σ) (0, 0) [(0, .ref (y.1 0 0 0)), (1, .int (iZ v1)), (2, .int (iZ v2)), (3, .int (iZ v3))] 6 []
def P_X4_decay_2 (K : KT) (y : LT) (σ : CS) (v1 v2 : Int) : Prop := G K (CL y σ) (0, 0) [(1, .int (iZ v1)), (2, .int (iZ v2))] 61 []
set_option maxRecDepth 100000 in
set_option maxHeartbeats 4000000 in
theorem b_X4_decay_0 {K : KT} {y : LT} {post : Int → CS → Prop} (C : C_X4_decay K y post) {σ : CS} (h : P_X4_decay_1 K y σ 0 0 0) : P_X4_decay_0 K y σ := by
  refine g_iconst C.1 (z := 0) dX4_decay_0 ?_
  refine g_istore_n C.1 (i := 1) (loc' := [(1, .int (iZ 0)), (0, .ref (y.1 0 0 0))]) C.2.1 dX4_decay_1 rfl (by decide) rfl ?_
  refine g_iconst C.1 (z := 0) dX4_decay_2 ?_
  refine g_istore_n C.1 (i := 2) (loc' := [(2, .int (iZ 0)), (1, .int (iZ 0)), (0, .ref (y.1 0 0 0))]) C.2.1 dX4_decay_3 rfl (by decide) rfl ?_
  refine g_iconst C.1 (z := 0) dX4_decay_4 ?_
  refine g_istore_n C.1 (i := 3) (loc' := [(3, .int (iZ 0)), (2, .int (iZ 0)), (1, .int (iZ 0)), (0, .ref (y.1 0 0 0))]) C.2.1 dX4_decay_5 rfl (by decide) rfl ?_
  exact g_sub [3, 2, 1, 0] rfl h
set_option maxRecDepth 100000 in
set_option maxHeartbeats 4000000 in
theorem b_X4_decay_1 {K : KT} {y : LT} {post : Int → CS → Prop} (C : C_X4_decay K y post) {p_sizeM : CS → Prop} {f_sizeM : CS → Int} (h_sizeM : H_sizeM p_sizeM f_sizeM) {p_getM : CS → Int → Prop} (h_getM : H_getM p_getM) {p_origin : CS → Int → Prop} {f_origin : CS → Int → Int} (h_origin : H_X1_origin p_origin f_origin) {p_measure : CS → Int → Int → Prop} {o_measure : CS → Int → Int → Int → CS → Prop} (h_measure : H_X4_measure p_measure o_measure) {σ : CS} {v1 v2 v3 : Int} (h : (p_sizeM σ) ∧ (-2147483648 ≤ v3 ∧ v3 < 2147483648) ∧ (-2147483648 ≤ (f_sizeM σ) ∧ (f_sizeM σ) < 2147483648) ∧ (((f_sizeM σ) ≤ v3 → P_X4_decay_2 K y σ v1 v2) ∧ (¬ (f_sizeM σ) ≤ v3 → (p_getM σ v3) ∧ (0 ≤ v3 ∧ v3 < (σ 21 0 0 0)) ∧ (-2147483648 ≤ (σ 12 v3 0 0) ∧ (σ 12 v3 0 0) < 2147483648) ∧ (((σ 12 v3 0 0) = 0 → P_X4_decay_1 K y σ v1 v2 (v3 + 1)) ∧ (¬ (σ 12 v3 0 0) = 0 → (p_origin σ v3) ∧ (p_measure σ v3 (f_origin σ v3)) ∧ ∀ (r9 : Int) (σ10 : CS), o_measure σ v3 (f_origin σ v3) r9 σ10 → P_X4_decay_1 K y σ10 (v1 + r9) (v2 + 1) (v3 + 1)))))) : P_X4_decay_1 K y σ v1 v2 v3 := by
  refine g_iload_n C.1 3 dX4_decay_6 rfl rfl ?_
  refine g_aload_n C.1 0 dX4_decay_7 rfl rfl ?_
  refine c_get C.1 (ci := 5) (q := (RX4, TX4, 10)) rfl rfl inX4_decay_X4 2 (by decide) (v := .ref (y.1 2 0 0)) rfl lk_X4_decay_f20 rfl dX4_decay_8 ⟨rfl, rfl⟩ ?_
  obtain ⟨hp1, h⟩ := h
  refine c_callV C.1 C.2.2.2.1 C.2.2.2.2 (h_sizeM K.l y σ hp1) (ci := 0) (q := (RJx4a65c, TJx4a65c, 3)) rfl (c_recv rfl ⟨rfl, rfl⟩) (fun ht => cwV 0 ht gX4_decay_Jx4a65c_size_8abf5 rfl rfl rfl (by decide +kernel) ⟨Nat.le_of_ble_eq_true rfl, Nat.le_of_ble_eq_true rfl⟩) rfl rfl (Nat.le_of_ble_eq_true rfl) ⟨Nat.le_of_ble_eq_true rfl, Nat.le_of_ble_eq_true rfl⟩ dX4_decay_11 (fun r σ9 hq => ?_)
  rw [hq.1, hq.2]
  show G K (CL y σ) (0, 0) [(0, .ref (y.1 0 0 0)), (1, .int (iZ v1)), (2, .int (iZ v2)), (3, .int (iZ v3))] 14 [.int (iZ (f_sizeM σ)), .int (iZ v3)]
  obtain ⟨hc2, h⟩ := h
  obtain ⟨hc3, h⟩ := h
  refine g_icmp_ge C.1 (tgt := 61) dX4_decay_14 (by decide) hc2 hc3 (fun hc => ?_) (fun hc => ?_)
  · have h := h.1 hc
    exact g_sub [1, 2] rfl h
  · have h := h.2 hc
    refine g_aload_n C.1 0 dX4_decay_17 rfl rfl ?_
    refine c_get C.1 (ci := 5) (q := (RX4, TX4, 10)) rfl rfl inX4_decay_X4 2 (by decide) (v := .ref (y.1 2 0 0)) rfl lk_X4_decay_f20 rfl dX4_decay_18 ⟨rfl, rfl⟩ ?_
    refine g_iload_n C.1 3 dX4_decay_21 rfl rfl ?_
    obtain ⟨hp4, h⟩ := h
    refine c_callV C.1 C.2.2.2.1 C.2.2.2.2 (h_getM K.l y σ v3 hp4) (ci := 0) (q := (RJx4a65c, TJx4a65c, 3)) rfl (c_recv rfl ⟨rfl, rfl⟩) (fun ht => cwV 1 ht gX4_decay_Jx4a65c_get_915e3 rfl rfl rfl (by decide +kernel) ⟨Nat.le_of_ble_eq_true rfl, Nat.le_of_ble_eq_true rfl⟩) rfl rfl (Nat.le_of_ble_eq_true rfl) ⟨Nat.le_of_ble_eq_true rfl, Nat.le_of_ble_eq_true rfl⟩ dX4_decay_22 (fun r σ9 hq => ?_)
    rw [hq.1, hq.2]
    show G K (CL y σ) (0, 0) [(0, .ref (y.1 0 0 0)), (1, .int (iZ v1)), (2, .int (iZ v2)), (3, .int (iZ v3))] 25 [vM y v3]
    obtain ⟨hd5, h⟩ := h
    refine c_atM hd5.1 ?_
    refine c_cast C.1 C.2.2.2.1 (ci := 2) (q := (RX1, TX1, 6)) rfl rfl (by decide +kernel) lk_X4_decay_cc89 dX4_decay_25 ⟨hd5.1, hd5.2, rfl⟩ ?_
    refine c_toM hd5.1 ?_
    refine g_astoreM C.1 (i := 4) (loc' := [(0, .ref (y.1 0 0 0)), (1, .int (iZ v1)), (2, .int (iZ v2)), (3, .int (iZ v3))]) C.2.1 dX4_decay_28 (by decide) rfl ?_
    refine g_aloadM C.1 0 dX4_decay_30 rfl ?_
    refine c_atM hd5.1 ?_
    refine c_get C.1 (ci := 2) (q := (RX1, TX1, 6)) rfl rfl inX4_decay_X1 5 (by decide) (v := .int (iZ (σ 12 v3 0 0))) rfl lk_X4_decay_f153 rfl dX4_decay_32 ⟨hd5.1, hd5.2, rfl⟩ ?_
    obtain ⟨hc6, h⟩ := h
    refine g_if_eq C.1 (tgt := 55) dX4_decay_35 (by decide) hc6 (fun hc => ?_) (fun hc => ?_)
    · have h := h.1 hc
      refine g_iinc C.1 (z := v3) (w := 1) (loc' := [(3, .int (iZ (v3 + 1))), (4, vM y v3), (0, .ref (y.1 0 0 0)), (1, .int (iZ v1)), (2, .int (iZ v2))]) 4 C.2.1 dX4_decay_55 rfl (by decide) (by simp [vM_cat, cat_i, cat_r, cat_l]) ?_
      refine g_goto C.1 (tgt := 6) dX4_decay_58 (by decide) ?_
      exact g_sub [2, 3, 4, 0] rfl h
    · have h := h.2 hc
      refine g_iload_n C.1 2 dX4_decay_38 rfl rfl ?_
      refine g_aload_n C.1 1 dX4_decay_39 rfl rfl ?_
      refine g_aloadM C.1 0 dX4_decay_40 rfl ?_
      refine g_aloadM C.1 0 dX4_decay_42 rfl ?_
      obtain ⟨hp7, h⟩ := h
      refine c_callV C.1 C.2.2.2.1 C.2.2.2.2 (c_Mrecv hd5.1 (h_origin K.l y σ v3 hp7)) (rest := [vM y v3, .ref (y.1 0 0 0), .int (iZ v1)]) (ci := 2) (q := (RX1, TX1, 6)) rfl (c_recv rfl ⟨hd5.1, hd5.2, rfl⟩) (fun ht => cwV 0 ht gX4_decay_X1_origin rfl rfl rfl (by decide +kernel) ⟨Nat.le_of_ble_eq_true rfl, Nat.le_of_ble_eq_true rfl⟩) rfl (by rw [vM_ref hd5.1]; rfl) (by simp [vM_cat, cat_i, cat_r, cat_l]) ⟨Nat.le_of_ble_eq_true rfl, Nat.le_of_ble_eq_true rfl⟩ dX4_decay_44 (fun r σ9 hq => ?_)
      rw [hq.1, hq.2]
      show G K (CL y σ) (0, 0) [(4, vM y v3), (0, .ref (y.1 0 0 0)), (1, .int (iZ v1)), (2, .int (iZ v2)), (3, .int (iZ v3))] 47 [vM y (f_origin σ v3), vM y v3, .ref (y.1 0 0 0), .int (iZ v1)]
      obtain ⟨hp8, h⟩ := h
      refine c_callV C.1 C.2.2.2.1 C.2.2.2.2 (h_measure K.l y σ v3 (f_origin σ v3) hp8) (ci := 5) (q := (RX4, TX4, 10)) rfl (c_recv rfl ⟨rfl, rfl⟩) (fun ht => cwV 2 ht gX4_decay_X4_measure rfl rfl rfl (by decide +kernel) ⟨Nat.le_of_ble_eq_true rfl, Nat.le_of_ble_eq_true rfl⟩) rfl rfl (Nat.le_of_ble_eq_true rfl) ⟨Nat.le_of_ble_eq_true rfl, Nat.le_of_ble_eq_true rfl⟩ dX4_decay_47 (fun r9 σ10 hq => ?_)
      have h := h r9 σ10 hq
      show G K (CL y σ10) (0, 0) [(4, vM y v3), (0, .ref (y.1 0 0 0)), (1, .int (iZ v1)), (2, .int (iZ v2)), (3, .int (iZ v3))] 50 [.int (iZ r9), .int (iZ v1)]
      refine g_iadd C.1 (x := v1) (y := r9) dX4_decay_50 ?_
      refine g_istore_n C.1 (i := 1) (loc' := [(1, .int (iZ (v1 + r9))), (4, vM y v3), (0, .ref (y.1 0 0 0)), (2, .int (iZ v2)), (3, .int (iZ v3))]) C.2.1 dX4_decay_51 rfl (by decide) (by simp [vM_cat, cat_i, cat_r, cat_l]) ?_
      refine g_iinc C.1 (z := v2) (w := 1) (loc' := [(2, .int (iZ (v2 + 1))), (1, .int (iZ (v1 + r9))), (4, vM y v3), (0, .ref (y.1 0 0 0)), (3, .int (iZ v3))]) 3 C.2.1 dX4_decay_52 rfl (by decide) (by simp [vM_cat, cat_i, cat_r, cat_l]) ?_
      refine g_iinc C.1 (z := v3) (w := 1) (loc' := [(3, .int (iZ (v3 + 1))), (2, .int (iZ (v2 + 1))), (1, .int (iZ (v1 + r9))), (4, vM y v3), (0, .ref (y.1 0 0 0))]) 4 C.2.1 dX4_decay_55 rfl (by decide) (by simp [vM_cat, cat_i, cat_r, cat_l]) ?_
      refine g_goto C.1 (tgt := 6) dX4_decay_58 (by decide) ?_
      exact g_sub [4, 2, 1, 0] rfl h
theorem m_X4_decay {l : Launch} {y : LT} {σ : CS} {post : Int → CS → Prop} (h : ∀ K : KT, K.l = l → C_X4_decay K y post → P_X4_decay_0 K y σ) : cMet l yX4_decay wsX4_decay rm_X4_decay y.2.2 (CL y) rkD [.ref (y.1 0 0 0)] σ post :=
  cMet.of (maxL := 5) (by decide +kernel) rfl (Nat.le_of_ble_eq_true rfl) (fun K h1 h2 h3 h4 h5 h6 _ => h K h1 ⟨h2, h3, h4, h5, h6⟩)
def H_X4_decay (p : CS → Prop) (o : CS → Int → CS → Prop) : Prop := ∀ (l : Launch) (y : LT) (σ : CS), p σ → cMet l yX4_decay wsX4_decay rm_X4_decay y.2.2 (CL y) rkD [.ref (y.1 0 0 0)] σ (fun r σ' => o σ r σ')

/-! X5_decay -/
abbrev rm_X5_decay : Room := { frames := 3, cells := 0, slots := 0, locals := 104 }
theorem inX5_decay : ∀ w ∈ wsX50, w ∈ wsX5_decay := by decide +kernel
theorem lk_X5_decay_f47 : Cond.fieldLink RX5 47 "CopyHouseModel" "thrown" "I" ∈ wsX5_decay := List.mem_of_getElem? (i := 1) (by decide +kernel)
theorem lk_X5_decay_f51 : Cond.fieldLink RX5 51 "CopyHouseModel" "texts" "I" ∈ wsX5_decay := List.mem_of_getElem? (i := 2) (by decide +kernel)
theorem lk_X5_decay_f25 : Cond.fieldLink RX5 25 "CopyHouseModel" "isThere" "[Z" ∈ wsX5_decay := List.mem_of_getElem? (i := 3) (by decide +kernel)
def C_X5_decay (K : KT) (L : Nat → Nat) (c : Nat → ClassId) (post : Int → MS → Prop) : Prop := kOK K cX5_decay RX5 wsX5_decay (some .double) rm_X5_decay ∧ K.nL = 3 ∧ kQ K (MW L c [] []) rkD post rm_X5_decay
def P_X5_decay_0 (K : KT) (L : Nat → Nat) (c : Nat → ClassId) (σ : MS) : Prop := G K (MW L c [] [] σ) (0, 0) [(0, .ref (L 0))] 0 []
def P_X5_decay_1 (K : KT) (L : Nat → Nat) (c : Nat → ClassId) (σ : MS) (v1 v2 : Int) : Prop := G K (MW L c [] [] σ) (0, 0) [(0, .ref (L 0)), (1, .int (iZ v1)), (2, .int (iZ v2))] 9 []
def P_X5_decay_2 (K : KT) (L : Nat → Nat) (c : Nat → ClassId) (σ : MS) (v1 : Int) : Prop := G K (MW L c [] [] σ) (0, 0) [(0, .ref (L 0)), (1, .int (iZ v1))] 49 []
set_option maxRecDepth 100000 in
set_option maxHeartbeats 4000000 in
theorem b_X5_decay_0 {K : KT} {L : Nat → Nat} {c : Nat → ClassId} {post : Int → MS → Prop} (C : C_X5_decay K L c post) {σ : MS} (h : P_X5_decay_1 K L c (upM σ 0 (fun _ => 0)) 0 0) : P_X5_decay_0 K L c σ := by
  refine g_aload_n C.1 0 dX5_decay_0 rfl rfl ?_
  refine g_iconst C.1 (z := 0) dX5_decay_1 ?_
  refine m_put C.1 inX5_decay 0 (by decide) (z := 0) (σ' := upM σ 0 (fun _ => 0)) rfl lk_X5_decay_f47 rfl rfl rfl dX5_decay_2 ?_
  refine g_iconst C.1 (z := 0) dX5_decay_5 ?_
  refine g_istore_n C.1 (i := 1) (loc' := [(1, .int (iZ 0)), (0, .ref (L 0))]) C.2.1 dX5_decay_6 rfl (by decide) rfl ?_
  refine g_iconst C.1 (z := 0) dX5_decay_7 ?_
  refine g_istore_n C.1 (i := 2) (loc' := [(2, .int (iZ 0)), (1, .int (iZ 0)), (0, .ref (L 0))]) C.2.1 dX5_decay_8 rfl (by decide) rfl ?_
  exact g_sub [2, 1, 0] rfl h
set_option maxRecDepth 100000 in
set_option maxHeartbeats 4000000 in
theorem b_X5_decay_1 {K : KT} {L : Nat → Nat} {c : Nat → ClassId} {post : Int → MS → Prop} (C : C_X5_decay K L c post) {p_origin : MS → Int → Prop} {f_origin : MS → Int → Int} (h_origin : H_X5_origin p_origin f_origin) {p_apart : MS → Int → Int → Prop} {o_apart : MS → Int → Int → Int → MS → Prop} (h_apart : H_X5_apart p_apart o_apart) {σ : MS} {v1 v2 : Int} (h : (-2147483648 ≤ v2 ∧ v2 < 2147483648) ∧ (-2147483648 ≤ (σ 3 0) ∧ (σ 3 0) < 2147483648) ∧ (((σ 3 0) ≤ v2 → P_X5_decay_2 K L c σ v1) ∧ (¬ (σ 3 0) ≤ v2 → (0 ≤ v2 ∧ v2 < 24) ∧ (-2147483648 ≤ ((σ 8) v2) ∧ ((σ 8) v2) < 2147483648) ∧ ((((σ 8) v2) = 0 → P_X5_decay_1 K L c σ (v1 + 0) (v2 + 1)) ∧ (¬ ((σ 8) v2) = 0 → (p_origin σ v2) ∧ (p_apart σ v2 (f_origin σ v2)) ∧ ∀ (r7 : Int) (σ8 : MS), o_apart σ v2 (f_origin σ v2) r7 σ8 → P_X5_decay_1 K L c σ8 (v1 + r7) (v2 + 1)))))) : P_X5_decay_1 K L c σ v1 v2 := by
  refine g_iload_n C.1 2 dX5_decay_9 rfl rfl ?_
  refine g_aload_n C.1 0 dX5_decay_10 rfl rfl ?_
  refine m_get C.1 inX5_decay 3 (by decide) (v := .int (iZ (σ 3 0))) rfl lk_X5_decay_f51 rfl dX5_decay_11 ?_
  obtain ⟨hc1, h⟩ := h
  obtain ⟨hc2, h⟩ := h
  refine g_icmp_ge C.1 (tgt := 49) dX5_decay_14 (by decide) hc1 hc2 (fun hc => ?_) (fun hc => ?_)
  · have h := h.1 hc
    exact g_sub [0, 1] rfl h
  · have h := h.2 hc
    refine g_iload_n C.1 1 dX5_decay_17 rfl rfl ?_
    refine g_aload_n C.1 0 dX5_decay_18 rfl rfl ?_
    refine m_get C.1 inX5_decay 8 (by decide) (v := .ref (L 8)) rfl lk_X5_decay_f25 rfl dX5_decay_19 ?_
    refine g_iload_n C.1 2 dX5_decay_22 rfl rfl ?_
    obtain ⟨hi3, h⟩ := h
    refine m_zald C.1 6 5 (N := 24) (f := (σ 8)) (e := v2) rfl rfl (by decide) hi3 dX5_decay_23 ?_
    obtain ⟨hc4, h⟩ := h
    refine g_if_eq C.1 (tgt := 40) dX5_decay_24 (by decide) hc4 (fun hc => ?_) (fun hc => ?_)
    · have h := h.1 hc
      refine g_iconst C.1 (z := 0) dX5_decay_40 ?_
      refine g_iadd C.1 (x := v1) (y := 0) dX5_decay_41 ?_
      refine g_istore_n C.1 (i := 1) (loc' := [(1, .int (iZ (v1 + 0))), (0, .ref (L 0)), (2, .int (iZ v2))]) C.2.1 dX5_decay_42 rfl (by decide) rfl ?_
      refine g_iinc C.1 (z := v2) (w := 1) (loc' := [(2, .int (iZ (v2 + 1))), (1, .int (iZ (v1 + 0))), (0, .ref (L 0))]) 2 C.2.1 dX5_decay_43 rfl (by decide) rfl ?_
      refine g_goto C.1 (tgt := 9) dX5_decay_46 (by decide) ?_
      exact g_sub [2, 1, 0] rfl h
    · have h := h.2 hc
      refine g_aload_n C.1 0 dX5_decay_27 rfl rfl ?_
      refine g_iload_n C.1 2 dX5_decay_28 rfl rfl ?_
      refine g_aload_n C.1 0 dX5_decay_29 rfl rfl ?_
      refine g_iload_n C.1 2 dX5_decay_30 rfl rfl ?_
      obtain ⟨hp5, h⟩ := h
      refine x_callV C.1 (h_origin K.l L c σ v2 hp5) (ci := 6) (q := (RX5, TX5, 17)) rfl m_recv (fun ht => cwV 1 ht gX5_decay_X5_origin rfl rfl rfl (by decide +kernel) ⟨Nat.le_of_ble_eq_true rfl, Nat.le_of_ble_eq_true rfl⟩) rfl rfl (Nat.le_of_ble_eq_true rfl) ⟨Nat.le_of_ble_eq_true rfl, Nat.le_of_ble_eq_true rfl⟩ dX5_decay_31 (fun r σ9 hq => ?_)
      rw [hq.1, hq.2]
      show G K (MW L c [] [] σ) (0, 0) [(0, .ref (L 0)), (1, .int (iZ v1)), (2, .int (iZ v2))] 34 [.int (iZ (f_origin σ v2)), .int (iZ v2), .ref (L 0), .int (iZ v1)]
      obtain ⟨hp6, h⟩ := h
      refine x_callV C.1 (h_apart K.l L c σ v2 (f_origin σ v2) hp6) (ci := 6) (q := (RX5, TX5, 17)) rfl m_recv (fun ht => cwV 2 ht gX5_decay_X5_apart rfl rfl rfl (by decide +kernel) ⟨Nat.le_of_ble_eq_true rfl, Nat.le_of_ble_eq_true rfl⟩) rfl rfl (Nat.le_of_ble_eq_true rfl) ⟨Nat.le_of_ble_eq_true rfl, Nat.le_of_ble_eq_true rfl⟩ dX5_decay_34 (fun r7 σ8 hq => ?_)
      have h := h r7 σ8 hq
      show G K (MW L c [] [] σ8) (0, 0) [(0, .ref (L 0)), (1, .int (iZ v1)), (2, .int (iZ v2))] 37 [.int (iZ r7), .int (iZ v1)]
      refine g_goto C.1 (tgt := 41) dX5_decay_37 (by decide) ?_
      refine g_iadd C.1 (x := v1) (y := r7) dX5_decay_41 ?_
      refine g_istore_n C.1 (i := 1) (loc' := [(1, .int (iZ (v1 + r7))), (0, .ref (L 0)), (2, .int (iZ v2))]) C.2.1 dX5_decay_42 rfl (by decide) rfl ?_
      refine g_iinc C.1 (z := v2) (w := 1) (loc' := [(2, .int (iZ (v2 + 1))), (1, .int (iZ (v1 + r7))), (0, .ref (L 0))]) 2 C.2.1 dX5_decay_43 rfl (by decide) rfl ?_
      refine g_goto C.1 (tgt := 9) dX5_decay_46 (by decide) ?_
      exact g_sub [2, 1, 0] rfl h
def H_X5_decay (p : MS → Prop) (o : MS → Int → MS → Prop) : Prop := ∀ (l : Launch) (L : Nat → Nat) (c : Nat → ClassId) (σ : MS), p σ → xMet l yX5_decay wsX5_decay rm_X5_decay (MW L c [] []) rkD [.ref (L 0)] σ (fun r σ' => o σ r σ')
theorem m_X5_decay {l : Launch} {L : Nat → Nat} {c : Nat → ClassId} {σ : MS} {post : Int → MS → Prop} (h : ∀ K : KT, K.l = l → C_X5_decay K L c post → P_X5_decay_0 K L c σ) : xMet l yX5_decay wsX5_decay rm_X5_decay (MW L c [] []) rkD [.ref (L 0)] σ post :=
  xMet.of (maxL := 3) (by decide +kernel) rfl (Nat.le_of_ble_eq_true rfl) (fun K h1 h2 h3 h4 _ => h K h1 ⟨h2, h4, h3⟩)
