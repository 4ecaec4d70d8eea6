/-! X5_drop -/
abbrev rm_X5_drop : Room := { frames := 2, cells := 0, slots := 0, locals := 81 }
theorem inX5_drop : ∀ w ∈ wsX50, w ∈ wsX5_drop := by decide +kernel
theorem lk_X5_drop_f85 : Cond.fieldLink RX5 85 "CopyHouseModel" "size" "I" ∈ wsX5_drop := List.mem_of_getElem? (i := 1) (by decide +kernel)
theorem lk_X5_drop_f38 : Cond.fieldLink RX5 38 "CopyHouseModel" "from" "[I" ∈ wsX5_drop := List.mem_of_getElem? (i := 2) (by decide +kernel)
theorem lk_X5_drop_f41 : Cond.fieldLink RX5 41 "CopyHouseModel" "to" "[I" ∈ wsX5_drop := List.mem_of_getElem? (i := 3) (by decide +kernel)
def C_X5_drop (K : KT) (L : Nat → Nat) (c : Nat → ClassId) (post : Int → MS → Prop) : Prop := kOK K cX5_drop RX5 wsX5_drop none rm_X5_drop ∧ K.nL = 6 ∧ kQ K (MW L c [] []) rkV post rm_X5_drop
def P_X5_drop_0 (K : KT) (L : Nat → Nat) (c : Nat → ClassId) (σ : MS) (v1 v2 : Int) : Prop := G K (MW L c [] [] σ) (0, 0) [(0, .ref (L 0)), (1, .int (iZ v1)), (2, .int (iZ v2))] 0 []
def P_X5_drop_1 (K : KT) (L : Nat → Nat) (c : Nat → ClassId) (σ : MS) (v1 v2 v3 v4 v5 : Int) : Prop := G K (MW L c [] [] σ) (0, 0) [(0, .ref (L 0)), (1, .int (iZ v1)), (2, .int (iZ v2)), (3, .int (iZ v3)), (4, .int (iZ v4)), (5, .int (iZ v5))] 8 []
set_option maxRecDepth 100000 in
set_option maxHeartbeats 4000000 in
theorem b_X5_drop_0 {K : KT} {L : Nat → Nat} {c : Nat → ClassId} {post : Int → MS → Prop} (C : C_X5_drop K L c post) {σ : MS} {v1 v2 : Int} (h : P_X5_drop_1 K L c σ v1 v2 0 0 0) : P_X5_drop_0 K L c σ v1 v2 := by
  refine g_iconst C.1 (z := 0) dX5_drop_0 ?_
  refine g_istore_n C.1 (loc' := [(3, .int (iZ 0)), (0, .ref (L 0)), (1, .int (iZ v1)), (2, .int (iZ v2))]) C.2.1 dX5_drop_1 rfl (by decide) rfl ?_
  refine g_iconst C.1 (z := 0) dX5_drop_2 ?_
  refine g_istore C.1 (loc' := [(4, .int (iZ 0)), (3, .int (iZ 0)), (0, .ref (L 0)), (1, .int (iZ v1)), (2, .int (iZ v2))]) C.2.1 dX5_drop_3 (by decide) rfl ?_
  refine g_iconst C.1 (z := 0) dX5_drop_5 ?_
  refine g_istore C.1 (loc' := [(5, .int (iZ 0)), (4, .int (iZ 0)), (3, .int (iZ 0)), (0, .ref (L 0)), (1, .int (iZ v1)), (2, .int (iZ v2))]) C.2.1 dX5_drop_6 (by decide) rfl ?_
  exact g_sub [3, 4, 5, 2, 1, 0] rfl h
set_option maxRecDepth 100000 in
set_option maxHeartbeats 4000000 in
theorem b_X5_drop_1 {K : KT} {L : Nat → Nat} {c : Nat → ClassId} {post : Int → MS → Prop} (C : C_X5_drop K L c post) {p_become : MS → Int → Prop} {u_become : MS → Int → MS} (h_become : H_X5_become p_become u_become) {σ : MS} {v1 v2 v3 v4 v5 : Int} (h : (-2147483648 ≤ v5 ∧ v5 < 2147483648) ∧ (-2147483648 ≤ (σ 14 0) ∧ (σ 14 0) < 2147483648) ∧ (((σ 14 0) ≤ v5 → (p_become σ v4) ∧ post 0 ((u_become σ v4))) ∧ (¬ (σ 14 0) ≤ v5 → (0 ≤ v5 ∧ v5 < 120) ∧ (-2147483648 ≤ ((σ 13) v5) ∧ ((σ 13) v5) < 2147483648) ∧ (-2147483648 ≤ v1 ∧ v1 < 2147483648) ∧ ((¬ ((σ 13) v5) = v1 → (0 ≤ v4 ∧ v4 < 121) ∧ P_X5_drop_1 K L c (upM σ 15 (upI (σ 15) v4 ((σ 13) v5))) v1 v2 (v3 + ((if ((σ 13) v5) = v1 then 1 else 0))) (v4 + 1) (v5 + 1)) ∧ (((σ 13) v5) = v1 → ((0 ≤ (v3 + ((if ((σ 13) v5) = v1 then 1 else 0))) ∧ (v3 + ((if ((σ 13) v5) = v1 then 1 else 0))) < 2147483648) ∧ (0 < v2 ∧ v2 < 2147483648)) ∧ (-2147483648 ≤ ((v3 + ((if ((σ 13) v5) = v1 then 1 else 0))) % v2) ∧ ((v3 + ((if ((σ 13) v5) = v1 then 1 else 0))) % v2) < 2147483648) ∧ ((¬ ((v3 + ((if ((σ 13) v5) = v1 then 1 else 0))) % v2) = 0 → (0 ≤ v4 ∧ v4 < 121) ∧ P_X5_drop_1 K L c (upM σ 15 (upI (σ 15) v4 ((σ 13) v5))) v1 v2 (v3 + ((if ((σ 13) v5) = v1 then 1 else 0))) (v4 + 1) (v5 + 1)) ∧ (((v3 + ((if ((σ 13) v5) = v1 then 1 else 0))) % v2) = 0 → P_X5_drop_1 K L c σ v1 v2 (v3 + ((if ((σ 13) v5) = v1 then 1 else 0))) v4 (v5 + 1)))))))) : P_X5_drop_1 K L c σ v1 v2 v3 v4 v5 := by
  refine g_iload C.1 5 dX5_drop_8 rfl ?_
  refine g_aload_n C.1 0 dX5_drop_10 rfl rfl ?_
  refine m_get C.1 inX5_drop 14 (by decide) (v := .int (iZ (σ 14 0))) rfl lk_X5_drop_f85 rfl dX5_drop_11 ?_
  obtain ⟨hc1, h⟩ := h
  obtain ⟨hc2, h⟩ := h
  refine g_icmp_ge C.1 (tgt := 79) dX5_drop_14 (by decide) hc1 hc2 (fun hc => ?_) (fun hc => ?_)
  · have h := h.1 hc
    refine g_aload_n C.1 0 dX5_drop_79 rfl rfl ?_
    refine g_iload C.1 4 dX5_drop_80 rfl ?_
    obtain ⟨hp3, h⟩ := h
    refine x_callV C.1 (h_become K.l L c σ v4 hp3) (ci := 6) (q := (RX5, TX5, 17)) rfl m_recv (fun ht => cwV 1 ht gX5_drop_X5_become rfl rfl rfl (by decide +kernel) ⟨Nat.le_of_ble_eq_true rfl, Nat.le_of_ble_eq_true rfl⟩) rfl rfl (Nat.le_of_ble_eq_true rfl) ⟨Nat.le_of_ble_eq_true rfl, Nat.le_of_ble_eq_true rfl⟩ dX5_drop_82 (fun r σ9 hq => ?_)
    rw [hq.1, hq.2]
    show G K (MW L c [] [] ((u_become σ v4))) (0, 0) [(0, .ref (L 0)), (1, .int (iZ v1)), (2, .int (iZ v2)), (3, .int (iZ v3)), (4, .int (iZ v4)), (5, .int (iZ v5))] 85 []
    exact x_vret C.1 C.2.2 rfl ⟨Nat.le_of_ble_eq_true rfl, Nat.le_of_ble_eq_true rfl⟩ dX5_drop_85 h
  · have h := h.2 hc
    refine g_iload_n C.1 3 dX5_drop_17 rfl rfl ?_
    refine g_aload_n C.1 0 dX5_drop_18 rfl rfl ?_
    refine m_get C.1 inX5_drop 13 (by decide) (v := .ref (L 13)) rfl lk_X5_drop_f38 rfl dX5_drop_19 ?_
    refine g_iload C.1 5 dX5_drop_22 rfl ?_
    obtain ⟨hi4, h⟩ := h
    refine m_ald C.1 10 9 (N := 120) (f := (σ 13)) (e := v5) rfl rfl (by decide) hi4 dX5_drop_24 ?_
    refine g_iload_n C.1 1 dX5_drop_25 rfl rfl ?_
    obtain ⟨hc5, h⟩ := h
    obtain ⟨hc6, h⟩ := h
    suffices hk : G K (MW L c [] [] σ) (0, 0) [(0, .ref (L 0)), (1, .int (iZ v1)), (2, .int (iZ v2)), (3, .int (iZ v3)), (4, .int (iZ v4)), (5, .int (iZ v5))] 34 [.int (iZ (if ((σ 13) v5) = v1 then 1 else 0)), .int (iZ v3)] by
      refine g_icmp_ne C.1 (tgt := 33) dX5_drop_26 (by decide) hc5 hc6 (fun hc => ?_) (fun hc => ?_)
      · refine g_iconst C.1 (z := 0) dX5_drop_33 ?_
        rw [if_neg hc] at hk
        exact hk
      · refine g_iconst C.1 (z := 1) dX5_drop_29 ?_
        refine g_goto C.1 (tgt := 34) dX5_drop_30 (by decide) ?_
        rw [if_pos hc] at hk
        exact hk
    refine g_iadd C.1 (x := v3) (y := (if ((σ 13) v5) = v1 then 1 else 0)) dX5_drop_34 ?_
    refine g_istore_n C.1 (loc' := [(3, .int (iZ (v3 + ((if ((σ 13) v5) = v1 then 1 else 0))))), (0, .ref (L 0)), (1, .int (iZ v1)), (2, .int (iZ v2)), (4, .int (iZ v4)), (5, .int (iZ v5))]) C.2.1 dX5_drop_35 rfl (by decide) rfl ?_
    refine g_aload_n C.1 1 dX5_drop_36 rfl rfl ?_
    refine m_get C.1 inX5_drop 13 (by decide) (v := .ref (L 13)) rfl lk_X5_drop_f38 rfl dX5_drop_37 ?_
    refine g_iload C.1 5 dX5_drop_40 rfl ?_
    refine m_ald C.1 10 9 (N := 120) (f := (σ 13)) (e := v5) rfl rfl (by decide) hi4 dX5_drop_42 ?_
    refine g_iload_n C.1 2 dX5_drop_43 rfl rfl ?_
    refine g_icmp_ne C.1 (tgt := 56) dX5_drop_44 (by decide) hc5 hc6 (fun hc => ?_) (fun hc => ?_)
    · have h := h.1 hc
      refine g_aload_n C.1 1 dX5_drop_56 rfl rfl ?_
      refine m_get C.1 inX5_drop 15 (by decide) (v := .ref (L 15)) rfl lk_X5_drop_f41 rfl dX5_drop_57 ?_
      refine g_iload C.1 4 dX5_drop_60 rfl ?_
      refine g_aload_n C.1 1 dX5_drop_62 rfl rfl ?_
      refine m_get C.1 inX5_drop 13 (by decide) (v := .ref (L 13)) rfl lk_X5_drop_f38 rfl dX5_drop_63 ?_
      refine g_iload C.1 5 dX5_drop_66 rfl ?_
      refine m_ald C.1 10 9 (N := 120) (f := (σ 13)) (e := v5) rfl rfl (by decide) hi4 dX5_drop_68 ?_
      obtain ⟨hi7, h⟩ := h
      refine m_ast C.1 11 10 (N := 121) (f := (σ 15)) (e := v4) (z := (σ 13) v5) (X' := []) (σ' := upM σ 15 (upI (σ 15) v4 ((σ 13) v5))) rfl rfl rfl (by decide) hi7 dX5_drop_69 ?_
      refine g_iinc C.1 (z := v4) (w := 1) (loc' := [(4, .int (iZ (v4 + 1))), (3, .int (iZ (v3 + ((if ((σ 13) v5) = v1 then 1 else 0))))), (0, .ref (L 0)), (1, .int (iZ v1)), (2, .int (iZ v2)), (5, .int (iZ v5))]) 4 C.2.1 dX5_drop_70 rfl (by decide) rfl ?_
      refine g_iinc C.1 (z := v5) (w := 1) (loc' := [(5, .int (iZ (v5 + 1))), (4, .int (iZ (v4 + 1))), (3, .int (iZ (v3 + ((if ((σ 13) v5) = v1 then 1 else 0))))), (0, .ref (L 0)), (1, .int (iZ v1)), (2, .int (iZ v2))]) 5 C.2.1 dX5_drop_73 rfl (by decide) rfl ?_
      refine g_goto C.1 (tgt := 8) dX5_drop_76 (by decide) ?_
      exact g_sub [3, 4, 5, 2, 1, 0] rfl h
    · have h := h.2 hc
      refine g_iload_n C.1 0 dX5_drop_47 rfl rfl ?_
      refine g_iload_n C.1 3 dX5_drop_48 rfl rfl ?_
      obtain ⟨hr8, h⟩ := h
      refine g_irem C.1 (x := (v3 + ((if ((σ 13) v5) = v1 then 1 else 0)))) (y := v2) hr8 dX5_drop_49 ?_
      obtain ⟨hc9, h⟩ := h
      refine g_if_ne C.1 (tgt := 56) dX5_drop_50 (by decide) hc9 (fun hc => ?_) (fun hc => ?_)
      · have h := h.1 hc
        refine g_aload_n C.1 1 dX5_drop_56 rfl rfl ?_
        refine m_get C.1 inX5_drop 15 (by decide) (v := .ref (L 15)) rfl lk_X5_drop_f41 rfl dX5_drop_57 ?_
        refine g_iload C.1 4 dX5_drop_60 rfl ?_
        refine g_aload_n C.1 1 dX5_drop_62 rfl rfl ?_
        refine m_get C.1 inX5_drop 13 (by decide) (v := .ref (L 13)) rfl lk_X5_drop_f38 rfl dX5_drop_63 ?_
        refine g_iload C.1 5 dX5_drop_66 rfl ?_
        refine m_ald C.1 10 9 (N := 120) (f := (σ 13)) (e := v5) rfl rfl (by decide) hi4 dX5_drop_68 ?_
        obtain ⟨hi10, h⟩ := h
        refine m_ast C.1 11 10 (N := 121) (f := (σ 15)) (e := v4) (z := (σ 13) v5) (X' := []) (σ' := upM σ 15 (upI (σ 15) v4 ((σ 13) v5))) rfl rfl rfl (by decide) hi10 dX5_drop_69 ?_
        refine g_iinc C.1 (z := v4) (w := 1) (loc' := [(4, .int (iZ (v4 + 1))), (3, .int (iZ (v3 + ((if ((σ 13) v5) = v1 then 1 else 0))))), (0, .ref (L 0)), (1, .int (iZ v1)), (2, .int (iZ v2)), (5, .int (iZ v5))]) 4 C.2.1 dX5_drop_70 rfl (by decide) rfl ?_
        refine g_iinc C.1 (z := v5) (w := 1) (loc' := [(5, .int (iZ (v5 + 1))), (4, .int (iZ (v4 + 1))), (3, .int (iZ (v3 + ((if ((σ 13) v5) = v1 then 1 else 0))))), (0, .ref (L 0)), (1, .int (iZ v1)), (2, .int (iZ v2))]) 5 C.2.1 dX5_drop_73 rfl (by decide) rfl ?_
        refine g_goto C.1 (tgt := 8) dX5_drop_76 (by decide) ?_
        exact g_sub [3, 4, 5, 2, 1, 0] rfl h
      · have h := h.2 hc
        refine g_goto C.1 (tgt := 73) dX5_drop_53 (by decide) ?_
        refine g_iinc C.1 (z := v5) (w := 1) (loc' := [(5, .int (iZ (v5 + 1))), (3, .int (iZ (v3 + ((if ((σ 13) v5) = v1 then 1 else 0))))), (0, .ref (L 0)), (1, .int (iZ v1)), (2, .int (iZ v2)), (4, .int (iZ v4))]) 5 C.2.1 dX5_drop_73 rfl (by decide) rfl ?_
        refine g_goto C.1 (tgt := 8) dX5_drop_76 (by decide) ?_
        exact g_sub [2, 3, 4, 1, 5, 0] rfl h
def H_X5_drop (p : MS → Int → Int → Prop) (o : MS → Int → Int → Int → MS → Prop) : Prop := ∀ (l : Launch) (L : Nat → Nat) (c : Nat → ClassId) (σ : MS) (v1 v2 : Int), p σ v1 v2 → xMet l yX5_drop wsX5_drop rm_X5_drop (MW L c [] []) rkV [.ref (L 0), .int (iZ v1), .int (iZ v2)] σ (fun r σ' => o σ v1 v2 r σ')
theorem m_X5_drop {l : Launch} {L : Nat → Nat} {c : Nat → ClassId} {σ : MS} {v1 v2 : Int} {post : Int → MS → Prop} (h : ∀ K : KT, K.l = l → C_X5_drop K L c post → P_X5_drop_0 K L c σ v1 v2) : xMet l yX5_drop wsX5_drop rm_X5_drop (MW L c [] []) rkV [.ref (L 0), .int (iZ v1), .int (iZ v2)] σ post :=
  xMet.of (maxL := 6) (by decide +kernel) rfl (Nat.le_of_ble_eq_true rfl) (fun K h1 h2 h3 h4 _ => h K h1 ⟨h2, h4, h3⟩)

/-! X5_twice -/
abbrev rm_X5_twice : Room := { frames := 2, cells := 0, slots := 0, locals := 81 }
theorem inX5_twice : ∀ w ∈ wsX50, w ∈ wsX5_twice := by decide +kernel
theorem lk_X5_twice_f85 : Cond.fieldLink RX5 85 "CopyHouseModel" "size" "I" ∈ wsX5_twice := List.mem_of_getElem? (i := 1) (by decide +kernel)
theorem lk_X5_twice_f41 : Cond.fieldLink RX5 41 "CopyHouseModel" "to" "[I" ∈ wsX5_twice := List.mem_of_getElem? (i := 2) (by decide +kernel)
theorem lk_X5_twice_f38 : Cond.fieldLink RX5 38 "CopyHouseModel" "from" "[I" ∈ wsX5_twice := List.mem_of_getElem? (i := 3) (by decide +kernel)
def C_X5_twice (K : KT) (L : Nat → Nat) (c : Nat → ClassId) (post : Int → MS → Prop) : Prop := kOK K cX5_twice RX5 wsX5_twice none rm_X5_twice ∧ K.nL = 6 ∧ kQ K (MW L c [] []) rkV post rm_X5_twice
def P_X5_twice_0 (K : KT) (L : Nat → Nat) (c : Nat → ClassId) (σ : MS) (v1 v2 : Int) : Prop := G K (MW L c [] [] σ) (0, 0) [(0, .ref (L 0)), (1, .int (iZ v1)), (2, .int (iZ v2))] 0 []
def P_X5_twice_1 (K : KT) (L : Nat → Nat) (c : Nat → ClassId) (σ : MS) (v1 v2 v3 v4 v5 : Int) : Prop := G K (MW L c [] [] σ) (0, 0) [(0, .ref (L 0)), (1, .int (iZ v1)), (2, .int (iZ v2)), (3, .int (iZ v3)), (4, .int (iZ v4)), (5, .int (iZ v5))] 8 []
set_option maxRecDepth 100000 in
set_option maxHeartbeats 4000000 in
theorem b_X5_twice_0 {K : KT} {L : Nat → Nat} {c : Nat → ClassId} {post : Int → MS → Prop} (C : C_X5_twice K L c post) {σ : MS} {v1 v2 : Int} (h : P_X5_twice_1 K L c σ v1 v2 0 0 0) : P_X5_twice_0 K L c σ v1 v2 := by
  refine g_iconst C.1 (z := 0) dX5_twice_0 ?_
  refine g_istore_n C.1 (loc' := [(3, .int (iZ 0)), (0, .ref (L 0)), (1, .int (iZ v1)), (2, .int (iZ v2))]) C.2.1 dX5_twice_1 rfl (by decide) rfl ?_
  refine g_iconst C.1 (z := 0) dX5_twice_2 ?_
  refine g_istore C.1 (loc' := [(4, .int (iZ 0)), (3, .int (iZ 0)), (0, .ref (L 0)), (1, .int (iZ v1)), (2, .int (iZ v2))]) C.2.1 dX5_twice_3 (by decide) rfl ?_
  refine g_iconst C.1 (z := 0) dX5_twice_5 ?_
  refine g_istore C.1 (loc' := [(5, .int (iZ 0)), (4, .int (iZ 0)), (3, .int (iZ 0)), (0, .ref (L 0)), (1, .int (iZ v1)), (2, .int (iZ v2))]) C.2.1 dX5_twice_6 (by decide) rfl ?_
  exact g_sub [3, 4, 5, 2, 1, 0] rfl h
set_option maxRecDepth 100000 in
set_option maxHeartbeats 4000000 in
theorem b_X5_twice_1 {K : KT} {L : Nat → Nat} {c : Nat → ClassId} {post : Int → MS → Prop} (C : C_X5_twice K L c post) {p_become : MS → Int → Prop} {u_become : MS → Int → MS} (h_become : H_X5_become p_become u_become) {σ : MS} {v1 v2 v3 v4 v5 : Int} (h : (-2147483648 ≤ v5 ∧ v5 < 2147483648) ∧ (-2147483648 ≤ (σ 14 0) ∧ (σ 14 0) < 2147483648) ∧ (((σ 14 0) ≤ v5 → (p_become σ v4) ∧ post 0 ((u_become σ v4))) ∧ (¬ (σ 14 0) ≤ v5 → (0 ≤ v5 ∧ v5 < 120) ∧ (0 ≤ v4 ∧ v4 < 121) ∧ (-2147483648 ≤ ((σ 13) v5) ∧ ((σ 13) v5) < 2147483648) ∧ (-2147483648 ≤ v1 ∧ v1 < 2147483648) ∧ ((¬ ((σ 13) v5) = v1 → P_X5_twice_1 K L c (upM σ 15 (upI (σ 15) v4 ((σ 13) v5))) v1 v2 (v3 + ((if ((σ 13) v5) = v1 then 1 else 0))) (v4 + 1) (v5 + 1)) ∧ (((σ 13) v5) = v1 → ((0 ≤ (v3 + ((if ((σ 13) v5) = v1 then 1 else 0))) ∧ (v3 + ((if ((σ 13) v5) = v1 then 1 else 0))) < 2147483648) ∧ (0 < v2 ∧ v2 < 2147483648)) ∧ (-2147483648 ≤ ((v3 + ((if ((σ 13) v5) = v1 then 1 else 0))) % v2) ∧ ((v3 + ((if ((σ 13) v5) = v1 then 1 else 0))) % v2) < 2147483648) ∧ ((¬ ((v3 + ((if ((σ 13) v5) = v1 then 1 else 0))) % v2) = 0 → P_X5_twice_1 K L c (upM σ 15 (upI (σ 15) v4 ((σ 13) v5))) v1 v2 (v3 + ((if ((σ 13) v5) = v1 then 1 else 0))) (v4 + 1) (v5 + 1)) ∧ (((v3 + ((if ((σ 13) v5) = v1 then 1 else 0))) % v2) = 0 → (-2147483648 ≤ ((((v4 + 1) + (σ 14 0)) - v5) - 1) ∧ ((((v4 + 1) + (σ 14 0)) - v5) - 1) < 2147483648) ∧ ((((((v4 + 1) + (σ 14 0)) - v5) - 1) < 120 → (0 ≤ (v4 + 1) ∧ (v4 + 1) < 121) ∧ P_X5_twice_1 K L c (upM σ 15 (upI (upI (σ 15) v4 ((σ 13) v5)) (v4 + 1) v1)) v1 v2 (v3 + ((if ((σ 13) v5) = v1 then 1 else 0))) ((v4 + 1) + 1) (v5 + 1)) ∧ (¬ ((((v4 + 1) + (σ 14 0)) - v5) - 1) < 120 → P_X5_twice_1 K L c (upM σ 15 (upI (σ 15) v4 ((σ 13) v5))) v1 v2 (v3 + ((if ((σ 13) v5) = v1 then 1 else 0))) (v4 + 1) (v5 + 1)))))))))) : P_X5_twice_1 K L c σ v1 v2 v3 v4 v5 := by
  refine g_iload C.1 5 dX5_twice_8 rfl ?_
  refine g_aload_n C.1 0 dX5_twice_10 rfl rfl ?_
  refine m_get C.1 inX5_twice 14 (by decide) (v := .int (iZ (σ 14 0))) rfl lk_X5_twice_f85 rfl dX5_twice_11 ?_
  obtain ⟨hc1, h⟩ := h
  obtain ⟨hc2, h⟩ := h
  refine g_icmp_ge C.1 (tgt := 107) dX5_twice_14 (by decide) hc1 hc2 (fun hc => ?_) (fun hc => ?_)
  · have h := h.1 hc
    refine g_aload_n C.1 0 dX5_twice_107 rfl rfl ?_
    refine g_iload C.1 4 dX5_twice_108 rfl ?_
    obtain ⟨hp3, h⟩ := h
    refine x_callV C.1 (h_become K.l L c σ v4 hp3) (ci := 6) (q := (RX5, TX5, 17)) rfl m_recv (fun ht => cwV 1 ht gX5_twice_X5_become rfl rfl rfl (by decide +kernel) ⟨Nat.le_of_ble_eq_true rfl, Nat.le_of_ble_eq_true rfl⟩) rfl rfl (Nat.le_of_ble_eq_true rfl) ⟨Nat.le_of_ble_eq_true rfl, Nat.le_of_ble_eq_true rfl⟩ dX5_twice_110 (fun r σ9 hq => ?_)
    rw [hq.1, hq.2]
    show G K (MW L c [] [] ((u_become σ v4))) (0, 0) [(0, .ref (L 0)), (1, .int (iZ v1)), (2, .int (iZ v2)), (3, .int (iZ v3)), (4, .int (iZ v4)), (5, .int (iZ v5))] 113 []
    exact x_vret C.1 C.2.2 rfl ⟨Nat.le_of_ble_eq_true rfl, Nat.le_of_ble_eq_true rfl⟩ dX5_twice_113 h
  · have h := h.2 hc
    refine g_aload_n C.1 0 dX5_twice_17 rfl rfl ?_
    refine m_get C.1 inX5_twice 15 (by decide) (v := .ref (L 15)) rfl lk_X5_twice_f41 rfl dX5_twice_18 ?_
    refine g_iload C.1 4 dX5_twice_21 rfl ?_
    refine g_aload_n C.1 0 dX5_twice_23 rfl rfl ?_
    refine m_get C.1 inX5_twice 13 (by decide) (v := .ref (L 13)) rfl lk_X5_twice_f38 rfl dX5_twice_24 ?_
    refine g_iload C.1 5 dX5_twice_27 rfl ?_
    obtain ⟨hi4, h⟩ := h
    refine m_ald C.1 10 9 (N := 120) (f := (σ 13)) (e := v5) rfl rfl (by decide) hi4 dX5_twice_29 ?_
    obtain ⟨hi5, h⟩ := h
    refine m_ast C.1 11 10 (N := 121) (f := (σ 15)) (e := v4) (z := (σ 13) v5) (X' := []) (σ' := upM σ 15 (upI (σ 15) v4 ((σ 13) v5))) rfl rfl rfl (by decide) hi5 dX5_twice_30 ?_
    refine g_iinc C.1 (z := v4) (w := 1) (loc' := [(4, .int (iZ (v4 + 1))), (0, .ref (L 0)), (1, .int (iZ v1)), (2, .int (iZ v2)), (3, .int (iZ v3)), (5, .int (iZ v5))]) 4 C.2.1 dX5_twice_31 rfl (by decide) rfl ?_
    refine g_iload_n C.1 4 dX5_twice_34 rfl rfl ?_
    refine g_aload_n C.1 1 dX5_twice_35 rfl rfl ?_
    refine m_get C.1 inX5_twice 13 (by decide) (v := .ref (L 13)) rfl lk_X5_twice_f38 rfl dX5_twice_36 ?_
    refine g_iload C.1 5 dX5_twice_39 rfl ?_
    refine m_ald C.1 10 9 (N := 120) (f := (σ 13)) (e := v5) rfl rfl (by decide) hi4 dX5_twice_41 ?_
    refine g_iload_n C.1 2 dX5_twice_42 rfl rfl ?_
    obtain ⟨hc6, h⟩ := h
    obtain ⟨hc7, h⟩ := h
    suffices hk : G K (MW L c [] [] (upM σ 15 (upI (σ 15) v4 ((σ 13) v5)))) (0, 0) [(4, .int (iZ (v4 + 1))), (0, .ref (L 0)), (1, .int (iZ v1)), (2, .int (iZ v2)), (3, .int (iZ v3)), (5, .int (iZ v5))] 51 [.int (iZ (if ((σ 13) v5) = v1 then 1 else 0)), .int (iZ v3)] by
      refine g_icmp_ne C.1 (tgt := 50) dX5_twice_43 (by decide) hc6 hc7 (fun hc => ?_) (fun hc => ?_)
      · refine g_iconst C.1 (z := 0) dX5_twice_50 ?_
        rw [if_neg hc] at hk
        exact hk
      · refine g_iconst C.1 (z := 1) dX5_twice_46 ?_
        refine g_goto C.1 (tgt := 51) dX5_twice_47 (by decide) ?_
        rw [if_pos hc] at hk
        exact hk
    refine g_iadd C.1 (x := v3) (y := (if ((σ 13) v5) = v1 then 1 else 0)) dX5_twice_51 ?_
    refine g_istore_n C.1 (loc' := [(3, .int (iZ (v3 + ((if ((σ 13) v5) = v1 then 1 else 0))))), (4, .int (iZ (v4 + 1))), (0, .ref (L 0)), (1, .int (iZ v1)), (2, .int (iZ v2)), (5, .int (iZ v5))]) C.2.1 dX5_twice_52 rfl (by decide) rfl ?_
    refine g_aload_n C.1 2 dX5_twice_53 rfl rfl ?_
    refine m_get C.1 inX5_twice 13 (by decide) (v := .ref (L 13)) rfl lk_X5_twice_f38 rfl dX5_twice_54 ?_
    refine g_iload C.1 5 dX5_twice_57 rfl ?_
    refine m_ald C.1 10 9 (N := 120) (f := (σ 13)) (e := v5) rfl rfl (by decide) hi4 dX5_twice_59 ?_
    refine g_iload_n C.1 3 dX5_twice_60 rfl rfl ?_
    refine g_icmp_ne C.1 (tgt := 101) dX5_twice_61 (by decide) hc6 hc7 (fun hc => ?_) (fun hc => ?_)
    · have h := h.1 hc
      refine g_iinc C.1 (z := v5) (w := 1) (loc' := [(5, .int (iZ (v5 + 1))), (3, .int (iZ (v3 + ((if ((σ 13) v5) = v1 then 1 else 0))))), (4, .int (iZ (v4 + 1))), (0, .ref (L 0)), (1, .int (iZ v1)), (2, .int (iZ v2))]) 5 C.2.1 dX5_twice_101 rfl (by decide) rfl ?_
      refine g_goto C.1 (tgt := 8) dX5_twice_104 (by decide) ?_
      exact g_sub [3, 4, 5, 1, 2, 0] rfl h
    · have h := h.2 hc
      refine g_iload_n C.1 0 dX5_twice_64 rfl rfl ?_
      refine g_iload_n C.1 4 dX5_twice_65 rfl rfl ?_
      obtain ⟨hr8, h⟩ := h
      refine g_irem C.1 (x := (v3 + ((if ((σ 13) v5) = v1 then 1 else 0)))) (y := v2) hr8 dX5_twice_66 ?_
      obtain ⟨hc9, h⟩ := h
      refine g_if_ne C.1 (tgt := 101) dX5_twice_67 (by decide) hc9 (fun hc => ?_) (fun hc => ?_)
      · have h := h.1 hc
        refine g_iinc C.1 (z := v5) (w := 1) (loc' := [(5, .int (iZ (v5 + 1))), (3, .int (iZ (v3 + ((if ((σ 13) v5) = v1 then 1 else 0))))), (4, .int (iZ (v4 + 1))), (0, .ref (L 0)), (1, .int (iZ v1)), (2, .int (iZ v2))]) 5 C.2.1 dX5_twice_101 rfl (by decide) rfl ?_
        refine g_goto C.1 (tgt := 8) dX5_twice_104 (by decide) ?_
        exact g_sub [3, 4, 5, 1, 2, 0] rfl h
      · have h := h.2 hc
        refine g_iload C.1 1 dX5_twice_70 rfl ?_
        refine g_aload_n C.1 2 dX5_twice_72 rfl rfl ?_
        refine m_get C.1 inX5_twice 14 (by decide) (v := .int (iZ (σ 14 0))) rfl lk_X5_twice_f85 rfl dX5_twice_73 ?_
        refine g_iadd C.1 (x := v4 + 1) (y := σ 14 0) dX5_twice_76 ?_
        refine g_iload C.1 5 dX5_twice_77 rfl ?_
        refine g_isub C.1 (x := (v4 + 1) + (σ 14 0)) (y := v5) dX5_twice_79 ?_
        refine g_iconst C.1 (z := 1) dX5_twice_80 ?_
        refine g_isub C.1 (x := ((v4 + 1) + (σ 14 0)) - v5) (y := 1) dX5_twice_81 ?_
        refine g_bipush C.1 (z := 120) dX5_twice_82 (by decide) ?_
        obtain ⟨hc10, h⟩ := h
        refine g_icmp_lt C.1 (tgt := 90) dX5_twice_84 (by decide) hc10 (by decide) (fun hc => ?_) (fun hc => ?_)
        · have h := h.1 hc
          refine g_aload_n C.1 2 dX5_twice_90 rfl rfl ?_
          refine m_get C.1 inX5_twice 15 (by decide) (v := .ref (L 15)) rfl lk_X5_twice_f41 rfl dX5_twice_91 ?_
          refine g_iload C.1 1 dX5_twice_94 rfl ?_
          refine g_iload_n C.1 3 dX5_twice_96 rfl rfl ?_
          obtain ⟨hi11, h⟩ := h
          refine m_ast C.1 11 10 (N := 121) (f := (upI (σ 15) v4 ((σ 13) v5))) (e := (v4 + 1)) (z := v1) (X' := []) (σ' := upM σ 15 (upI (upI (σ 15) v4 ((σ 13) v5)) (v4 + 1) v1)) rfl rfl rfl (by decide) hi11 dX5_twice_97 ?_
          refine g_iinc C.1 (z := (v4 + 1)) (w := 1) (loc' := [(4, .int (iZ ((v4 + 1) + 1))), (3, .int (iZ (v3 + ((if ((σ 13) v5) = v1 then 1 else 0))))), (0, .ref (L 0)), (1, .int (iZ v1)), (2, .int (iZ v2)), (5, .int (iZ v5))]) 1 C.2.1 dX5_twice_98 rfl (by decide) rfl ?_
          refine g_iinc C.1 (z := v5) (w := 1) (loc' := [(5, .int (iZ (v5 + 1))), (4, .int (iZ ((v4 + 1) + 1))), (3, .int (iZ (v3 + ((if ((σ 13) v5) = v1 then 1 else 0))))), (0, .ref (L 0)), (1, .int (iZ v1)), (2, .int (iZ v2))]) 5 C.2.1 dX5_twice_101 rfl (by decide) rfl ?_
          refine g_goto C.1 (tgt := 8) dX5_twice_104 (by decide) ?_
          exact g_sub [3, 4, 5, 2, 1, 0] rfl h
        · have h := h.2 hc
          refine g_goto C.1 (tgt := 101) dX5_twice_87 (by decide) ?_
          refine g_iinc C.1 (z := v5) (w := 1) (loc' := [(5, .int (iZ (v5 + 1))), (3, .int (iZ (v3 + ((if ((σ 13) v5) = v1 then 1 else 0))))), (4, .int (iZ (v4 + 1))), (0, .ref (L 0)), (1, .int (iZ v1)), (2, .int (iZ v2))]) 5 C.2.1 dX5_twice_101 rfl (by decide) rfl ?_
          refine g_goto C.1 (tgt := 8) dX5_twice_104 (by decide) ?_
          exact g_sub [3, 4, 5, 1, 2, 0] rfl h
def H_X5_twice (p : MS → Int → Int → Prop) (o : MS → Int → Int → Int → MS → Prop) : Prop := ∀ (l : Launch) (L : Nat → Nat) (c : Nat → ClassId) (σ : MS) (v1 v2 : Int), p σ v1 v2 → xMet l yX5_twice wsX5_twice rm_X5_twice (MW L c [] []) rkV [.ref (L 0), .int (iZ v1), .int (iZ v2)] σ (fun r σ' => o σ v1 v2 r σ')
theorem m_X5_twice {l : Launch} {L : Nat → Nat} {c : Nat → ClassId} {σ : MS} {v1 v2 : Int} {post : Int → MS → Prop} (h : ∀ K : KT, K.l = l → C_X5_twice K L c post → P_X5_twice_0 K L c σ v1 v2) : xMet l yX5_twice wsX5_twice rm_X5_twice (MW L c [] []) rkV [.ref (L 0), .int (iZ v1), .int (iZ v2)] σ post :=
  xMet.of (maxL := 6) (by decide +kernel) rfl (Nat.le_of_ble_eq_true rfl) (fun K h1 h2 h3 h4 _ => h K h1 ⟨h2, h4, h3⟩)

/-! X5_skip -/
abbrev rm_X5_skip : Room := { frames := 0, cells := 0, slots := 0, locals := 0 }
theorem inX5_skip : ∀ w ∈ wsX50, w ∈ wsX5_skip := by decide +kernel
theorem lk_X5_skip_f85 : Cond.fieldLink RX5 85 "CopyHouseModel" "size" "I" ∈ wsX5_skip := List.mem_of_getElem? (i := 1) (by decide +kernel)
theorem lk_X5_skip_f38 : Cond.fieldLink RX5 38 "CopyHouseModel" "from" "[I" ∈ wsX5_skip := List.mem_of_getElem? (i := 2) (by decide +kernel)
def C_X5_skip (K : KT) (L : Nat → Nat) (c : Nat → ClassId) (post : Int → MS → Prop) : Prop := kOK K cX5_skip RX5 wsX5_skip none rm_X5_skip ∧ K.nL = 6 ∧ kQ K (MW L c [] []) rkV post rm_X5_skip
def P_X5_skip_0 (K : KT) (L : Nat → Nat) (c : Nat → ClassId) (σ : MS) (v1 v2 : Int) : Prop := G K (MW L c [] [] σ) (0, 0) [(0, .ref (L 0)), (1, .int (iZ v1)), (2, .int (iZ v2))] 0 []
def P_X5_skip_1 (K : KT) (L : Nat → Nat) (c : Nat → ClassId) (σ : MS) (v1 v2 v3 : Int) : Prop := G K (MW L c [] [] σ) (0, 0) [(0, .ref (L 0)), (1, .int (iZ v1)), (2, .int (iZ v2)), (3, .int (iZ v3))] 2 []
def P_X5_skip_2 (K : KT) (L : Nat → Nat) (c : Nat → ClassId) (σ : MS) (v1 v2 v3 v4 : Int) : Prop := G K (MW L c [] [] σ) (0, 0) [(0, .ref (L 0)), (1, .int (iZ v1)), (2, .int (iZ v2)), (3, .int (iZ v3)), (4, .int (iZ v4))] 15 []
def P_X5_skip_3 (K : KT) (L : Nat → Nat) (c : Nat → ClassId) (σ : MS) (v1 v2 v3 v4 : Int) : Prop := G K (MW L c [] [] σ) (0, 0) [(0, .ref (L 0)), (1, .int (iZ v1)), (2, .int (iZ v2)), (3, .int (iZ v3)), (4, .int (iZ v4))] 41 []
def P_X5_skip_4 (K : KT) (L : Nat → Nat) (c : Nat → ClassId) (σ : MS) (v3 v4 v5 : Int) : Prop := G K (MW L c [] [] σ) (0, 0) [(0, .ref (L 0)), (3, .int (iZ v3)), (4, .int (iZ v4)), (5, .int (iZ v5))] 77 []
set_option maxRecDepth 100000 in
set_option maxHeartbeats 4000000 in
theorem b_X5_skip_0 {K : KT} {L : Nat → Nat} {c : Nat → ClassId} {post : Int → MS → Prop} (C : C_X5_skip K L c post) {σ : MS} {v1 v2 : Int} (h : P_X5_skip_1 K L c σ v1 v2 0) : P_X5_skip_0 K L c σ v1 v2 := by
  refine g_iconst C.1 (z := 0) dX5_skip_0 ?_
  refine g_istore_n C.1 (loc' := [(3, .int (iZ 0)), (0, .ref (L 0)), (1, .int (iZ v1)), (2, .int (iZ v2))]) C.2.1 dX5_skip_1 rfl (by decide) rfl ?_
  exact g_sub [1, 2, 3, 0] rfl h
set_option maxRecDepth 100000 in
set_option maxHeartbeats 4000000 in
theorem b_X5_skip_1 {K : KT} {L : Nat → Nat} {c : Nat → ClassId} {post : Int → MS → Prop} (C : C_X5_skip K L c post) {σ : MS} {v1 v2 v3 : Int} (h : (-2147483648 ≤ v3 ∧ v3 < 2147483648) ∧ (-2147483648 ≤ (σ 14 0) ∧ (σ 14 0) < 2147483648) ∧ (((σ 14 0) ≤ v3 → post 0 σ) ∧ (¬ (σ 14 0) ≤ v3 → P_X5_skip_2 K L c σ v1 v2 v3 (v3 + 1)))) : P_X5_skip_1 K L c σ v1 v2 v3 := by
  refine g_iload_n C.1 3 dX5_skip_2 rfl rfl ?_
  refine g_aload_n C.1 0 dX5_skip_3 rfl rfl ?_
  refine m_get C.1 inX5_skip 14 (by decide) (v := .int (iZ (σ 14 0))) rfl lk_X5_skip_f85 rfl dX5_skip_4 ?_
  obtain ⟨hc1, h⟩ := h
  obtain ⟨hc2, h⟩ := h
  refine g_icmp_ge C.1 (tgt := 131) dX5_skip_7 (by decide) hc1 hc2 (fun hc => ?_) (fun hc => ?_)
  · have h := h.1 hc
    exact x_vret C.1 C.2.2 rfl ⟨Nat.le_of_ble_eq_true rfl, Nat.le_of_ble_eq_true rfl⟩ dX5_skip_131 h
  · have h := h.2 hc
    refine g_iload_n C.1 3 dX5_skip_10 rfl rfl ?_
    refine g_iconst C.1 (z := 1) dX5_skip_11 ?_
    refine g_iadd C.1 (x := v3) (y := 1) dX5_skip_12 ?_
    refine g_istore C.1 (loc' := [(4, .int (iZ (v3 + 1))), (0, .ref (L 0)), (1, .int (iZ v1)), (2, .int (iZ v2)), (3, .int (iZ v3))]) C.2.1 dX5_skip_13 (by decide) rfl ?_
    exact g_sub [1, 2, 3, 4, 0] rfl h
set_option maxRecDepth 100000 in
set_option maxHeartbeats 4000000 in
theorem b_X5_skip_2 {K : KT} {L : Nat → Nat} {c : Nat → ClassId} {post : Int → MS → Prop} (C : C_X5_skip K L c post) {σ : MS} {v1 v2 v3 v4 : Int} (h : (-2147483648 ≤ v4 ∧ v4 < 2147483648) ∧ (-2147483648 ≤ (σ 14 0) ∧ (σ 14 0) < 2147483648) ∧ (((σ 14 0) ≤ v4 → P_X5_skip_3 K L c σ v1 v2 v3 v4) ∧ (¬ (σ 14 0) ≤ v4 → (0 ≤ v4 ∧ v4 < 120) ∧ (-2147483648 ≤ ((σ 13) v4) ∧ ((σ 13) v4) < 2147483648) ∧ (-2147483648 ≤ v1 ∧ v1 < 2147483648) ∧ ((((σ 13) v4) = v1 → P_X5_skip_3 K L c σ v1 v2 v3 v4) ∧ (¬ ((σ 13) v4) = v1 → P_X5_skip_2 K L c σ v1 v2 v3 (v4 + 1)))))) : P_X5_skip_2 K L c σ v1 v2 v3 v4 := by
  refine g_iload C.1 4 dX5_skip_15 rfl ?_
  refine g_aload_n C.1 0 dX5_skip_17 rfl rfl ?_
  refine m_get C.1 inX5_skip 14 (by decide) (v := .int (iZ (σ 14 0))) rfl lk_X5_skip_f85 rfl dX5_skip_18 ?_
  obtain ⟨hc1, h⟩ := h
  obtain ⟨hc2, h⟩ := h
  refine g_icmp_ge C.1 (tgt := 41) dX5_skip_21 (by decide) hc1 hc2 (fun hc => ?_) (fun hc => ?_)
  · have h := h.1 hc
    exact h
  · have h := h.2 hc
    refine g_aload_n C.1 0 dX5_skip_24 rfl rfl ?_
    refine m_get C.1 inX5_skip 13 (by decide) (v := .ref (L 13)) rfl lk_X5_skip_f38 rfl dX5_skip_25 ?_
    refine g_iload C.1 4 dX5_skip_28 rfl ?_
    obtain ⟨hi3, h⟩ := h
    refine m_ald C.1 10 9 (N := 120) (f := (σ 13)) (e := v4) rfl rfl (by decide) hi3 dX5_skip_30 ?_
    refine g_iload_n C.1 1 dX5_skip_31 rfl rfl ?_
    obtain ⟨hc4, h⟩ := h
    obtain ⟨hc5, h⟩ := h
    refine g_icmp_eq C.1 (tgt := 41) dX5_skip_32 (by decide) hc4 hc5 (fun hc => ?_) (fun hc => ?_)
    · have h := h.1 hc
      exact h
    · have h := h.2 hc
      refine g_iinc C.1 (z := v4) (w := 1) (loc' := [(4, .int (iZ (v4 + 1))), (0, .ref (L 0)), (1, .int (iZ v1)), (2, .int (iZ v2)), (3, .int (iZ v3))]) 4 C.2.1 dX5_skip_35 rfl (by decide) rfl ?_
      refine g_goto C.1 (tgt := 15) dX5_skip_38 (by decide) ?_
      exact g_sub [1, 2, 3, 4, 0] rfl h
set_option maxRecDepth 100000 in
set_option maxHeartbeats 4000000 in
theorem b_X5_skip_3 {K : KT} {L : Nat → Nat} {c : Nat → ClassId} {post : Int → MS → Prop} (C : C_X5_skip K L c post) {σ : MS} {v1 v2 v3 v4 : Int} (h : (0 ≤ v3 ∧ v3 < 120) ∧ (-2147483648 ≤ ((σ 13) v3) ∧ ((σ 13) v3) < 2147483648) ∧ (-2147483648 ≤ v1 ∧ v1 < 2147483648) ∧ ((¬ ((σ 13) v3) = v1 → P_X5_skip_1 K L c σ v1 v2 (v3 + 1)) ∧ (((σ 13) v3) = v1 → (-2147483648 ≤ v4 ∧ v4 < 2147483648) ∧ (-2147483648 ≤ (σ 14 0) ∧ (σ 14 0) < 2147483648) ∧ (((σ 14 0) ≤ v4 → P_X5_skip_1 K L c σ v1 v2 (v3 + 1)) ∧ (¬ (σ 14 0) ≤ v4 → (-2147483648 ≤ (v3 + v2) ∧ (v3 + v2) < 2147483648) ∧ ((v4 ≤ (v3 + v2) → P_X5_skip_4 K L c σ v3 v4 (v4 + 1)) ∧ (¬ v4 ≤ (v3 + v2) → P_X5_skip_1 K L c σ v1 v2 (v3 + 1)))))))) : P_X5_skip_3 K L c σ v1 v2 v3 v4 := by
  refine g_aload_n C.1 0 dX5_skip_41 rfl rfl ?_
  refine m_get C.1 inX5_skip 13 (by decide) (v := .ref (L 13)) rfl lk_X5_skip_f38 rfl dX5_skip_42 ?_
  refine g_iload_n C.1 3 dX5_skip_45 rfl rfl ?_
  obtain ⟨hi1, h⟩ := h
  refine m_ald C.1 10 9 (N := 120) (f := (σ 13)) (e := v3) rfl rfl (by decide) hi1 dX5_skip_46 ?_
  refine g_iload_n C.1 1 dX5_skip_47 rfl rfl ?_
  obtain ⟨hc2, h⟩ := h
  obtain ⟨hc3, h⟩ := h
  refine g_icmp_ne C.1 (tgt := 125) dX5_skip_48 (by decide) hc2 hc3 (fun hc => ?_) (fun hc => ?_)
  · have h := h.1 hc
    refine g_iinc C.1 (z := v3) (w := 1) (loc' := [(3, .int (iZ (v3 + 1))), (0, .ref (L 0)), (1, .int (iZ v1)), (2, .int (iZ v2)), (4, .int (iZ v4))]) 3 C.2.1 dX5_skip_125 rfl (by decide) rfl ?_
    refine g_goto C.1 (tgt := 2) dX5_skip_128 (by decide) ?_
    exact g_sub [1, 2, 3, 0] rfl h
  · have h := h.2 hc
    refine g_iload C.1 4 dX5_skip_51 rfl ?_
    refine g_aload_n C.1 0 dX5_skip_53 rfl rfl ?_
    refine m_get C.1 inX5_skip 14 (by decide) (v := .int (iZ (σ 14 0))) rfl lk_X5_skip_f85 rfl dX5_skip_54 ?_
    obtain ⟨hc4, h⟩ := h
    obtain ⟨hc5, h⟩ := h
    refine g_icmp_ge C.1 (tgt := 125) dX5_skip_57 (by decide) hc4 hc5 (fun hc => ?_) (fun hc => ?_)
    · have h := h.1 hc
      refine g_iinc C.1 (z := v3) (w := 1) (loc' := [(3, .int (iZ (v3 + 1))), (0, .ref (L 0)), (1, .int (iZ v1)), (2, .int (iZ v2)), (4, .int (iZ v4))]) 3 C.2.1 dX5_skip_125 rfl (by decide) rfl ?_
      refine g_goto C.1 (tgt := 2) dX5_skip_128 (by decide) ?_
      exact g_sub [1, 2, 3, 0] rfl h
    · have h := h.2 hc
      refine g_iload C.1 4 dX5_skip_60 rfl ?_
      refine g_iload_n C.1 3 dX5_skip_62 rfl rfl ?_
      refine g_iload_n C.1 2 dX5_skip_63 rfl rfl ?_
      refine g_iadd C.1 (x := v3) (y := v2) dX5_skip_64 ?_
      obtain ⟨hc6, h⟩ := h
      refine g_icmp_le C.1 (tgt := 71) dX5_skip_65 (by decide) hc4 hc6 (fun hc => ?_) (fun hc => ?_)
      · have h := h.1 hc
        refine g_iload C.1 4 dX5_skip_71 rfl ?_
        refine g_iconst C.1 (z := 1) dX5_skip_73 ?_
        refine g_iadd C.1 (x := v4) (y := 1) dX5_skip_74 ?_
        refine g_istore C.1 (loc' := [(5, .int (iZ (v4 + 1))), (0, .ref (L 0)), (1, .int (iZ v1)), (2, .int (iZ v2)), (3, .int (iZ v3)), (4, .int (iZ v4))]) C.2.1 dX5_skip_75 (by decide) rfl ?_
        exact g_sub [1, 4, 5, 0] rfl h
      · have h := h.2 hc
        refine g_goto C.1 (tgt := 125) dX5_skip_68 (by decide) ?_
        refine g_iinc C.1 (z := v3) (w := 1) (loc' := [(3, .int (iZ (v3 + 1))), (0, .ref (L 0)), (1, .int (iZ v1)), (2, .int (iZ v2)), (4, .int (iZ v4))]) 3 C.2.1 dX5_skip_125 rfl (by decide) rfl ?_
        refine g_goto C.1 (tgt := 2) dX5_skip_128 (by decide) ?_
        exact g_sub [1, 2, 3, 0] rfl h
set_option maxRecDepth 100000 in
set_option maxHeartbeats 4000000 in
theorem b_X5_skip_4 {K : KT} {L : Nat → Nat} {c : Nat → ClassId} {post : Int → MS → Prop} (C : C_X5_skip K L c post) {σ : MS} {v3 v4 v5 : Int} (h : (-2147483648 ≤ v5 ∧ v5 < 2147483648) ∧ (-2147483648 ≤ (σ 14 0) ∧ (σ 14 0) < 2147483648) ∧ (((σ 14 0) ≤ v5 → post 0 (upM σ 14 (fun _ => (σ 14 0) - (v4 - v3)))) ∧ (¬ (σ 14 0) ≤ v5 → (0 ≤ v5 ∧ v5 < 120) ∧ (0 ≤ ((v3 + v5) - v4) ∧ ((v3 + v5) - v4) < 120) ∧ P_X5_skip_4 K L c (upM σ 13 (upI (σ 13) ((v3 + v5) - v4) ((σ 13) v5))) v3 v4 (v5 + 1)))) : P_X5_skip_4 K L c σ v3 v4 v5 := by
  refine g_iload C.1 3 dX5_skip_77 rfl ?_
  refine g_aload_n C.1 0 dX5_skip_79 rfl rfl ?_
  refine m_get C.1 inX5_skip 14 (by decide) (v := .int (iZ (σ 14 0))) rfl lk_X5_skip_f85 rfl dX5_skip_80 ?_
  obtain ⟨hc1, h⟩ := h
  obtain ⟨hc2, h⟩ := h
  refine g_icmp_ge C.1 (tgt := 111) dX5_skip_83 (by decide) hc1 hc2 (fun hc => ?_) (fun hc => ?_)
  · have h := h.1 hc
    refine g_aload_n C.1 0 dX5_skip_111 rfl rfl ?_
    refine g_dup C.1 rfl dX5_skip_112 ?_
    refine m_get C.1 inX5_skip 14 (by decide) (v := .int (iZ (σ 14 0))) rfl lk_X5_skip_f85 rfl dX5_skip_113 ?_
    refine g_iload C.1 2 dX5_skip_116 rfl ?_
    refine g_iload_n C.1 1 dX5_skip_118 rfl rfl ?_
    refine g_isub C.1 (x := v4) (y := v3) dX5_skip_119 ?_
    refine g_isub C.1 (x := σ 14 0) (y := v4 - v3) dX5_skip_120 ?_
    refine m_put C.1 inX5_skip 14 (by decide) (z := (σ 14 0) - (v4 - v3)) (σ' := upM σ 14 (fun _ => (σ 14 0) - (v4 - v3))) rfl lk_X5_skip_f85 rfl rfl rfl dX5_skip_121 ?_
    exact x_vret C.1 C.2.2 rfl ⟨Nat.le_of_ble_eq_true rfl, Nat.le_of_ble_eq_true rfl⟩ dX5_skip_124 h
  · have h := h.2 hc
    refine g_aload_n C.1 0 dX5_skip_86 rfl rfl ?_
    refine m_get C.1 inX5_skip 13 (by decide) (v := .ref (L 13)) rfl lk_X5_skip_f38 rfl dX5_skip_87 ?_
    refine g_iload_n C.1 1 dX5_skip_90 rfl rfl ?_
    refine g_iload C.1 3 dX5_skip_91 rfl ?_
    refine g_iadd C.1 (x := v3) (y := v5) dX5_skip_93 ?_
    refine g_iload C.1 2 dX5_skip_94 rfl ?_
    refine g_isub C.1 (x := v3 + v5) (y := v4) dX5_skip_96 ?_
    refine g_aload_n C.1 0 dX5_skip_97 rfl rfl ?_
    refine m_get C.1 inX5_skip 13 (by decide) (v := .ref (L 13)) rfl lk_X5_skip_f38 rfl dX5_skip_98 ?_
    refine g_iload C.1 3 dX5_skip_101 rfl ?_
    obtain ⟨hi3, h⟩ := h
    refine m_ald C.1 10 9 (N := 120) (f := (σ 13)) (e := v5) rfl rfl (by decide) hi3 dX5_skip_103 ?_
    obtain ⟨hi4, h⟩ := h
    refine m_ast C.1 10 9 (N := 120) (f := (σ 13)) (e := ((v3 + v5) - v4)) (z := (σ 13) v5) (X' := []) (σ' := upM σ 13 (upI (σ 13) ((v3 + v5) - v4) ((σ 13) v5))) rfl rfl rfl (by decide) hi4 dX5_skip_104 ?_
    refine g_iinc C.1 (z := v5) (w := 1) (loc' := [(5, .int (iZ (v5 + 1))), (0, .ref (L 0)), (3, .int (iZ v3)), (4, .int (iZ v4))]) 3 C.2.1 dX5_skip_105 rfl (by decide) rfl ?_
    refine g_goto C.1 (tgt := 77) dX5_skip_108 (by decide) ?_
    exact g_sub [1, 2, 3, 0] rfl h
def H_X5_skip (p : MS → Int → Int → Prop) (o : MS → Int → Int → Int → MS → Prop) : Prop := ∀ (l : Launch) (L : Nat → Nat) (c : Nat → ClassId) (σ : MS) (v1 v2 : Int), p σ v1 v2 → xMet l yX5_skip wsX5_skip rm_X5_skip (MW L c [] []) rkV [.ref (L 0), .int (iZ v1), .int (iZ v2)] σ (fun r σ' => o σ v1 v2 r σ')
theorem m_X5_skip {l : Launch} {L : Nat → Nat} {c : Nat → ClassId} {σ : MS} {v1 v2 : Int} {post : Int → MS → Prop} (h : ∀ K : KT, K.l = l → C_X5_skip K L c post → P_X5_skip_0 K L c σ v1 v2) : xMet l yX5_skip wsX5_skip rm_X5_skip (MW L c [] []) rkV [.ref (L 0), .int (iZ v1), .int (iZ v2)] σ post :=
  xMet.of (maxL := 6) (by decide +kernel) rfl (Nat.le_of_ble_eq_true rfl) (fun K h1 h2 h3 h4 _ => h K h1 ⟨h2, h4, h3⟩)

/-! X5_swap -/
abbrev rm_X5_swap : Room := { frames := 0, cells := 0, slots := 0, locals := 0 }
theorem inX5_swap : ∀ w ∈ wsX50, w ∈ wsX5_swap := by decide +kernel
theorem lk_X5_swap_f85 : Cond.fieldLink RX5 85 "CopyHouseModel" "size" "I" ∈ wsX5_swap := List.mem_of_getElem? (i := 1) (by decide +kernel)
theorem lk_X5_swap_f38 : Cond.fieldLink RX5 38 "CopyHouseModel" "from" "[I" ∈ wsX5_swap := List.mem_of_getElem? (i := 2) (by decide +kernel)
def C_X5_swap (K : KT) (L : Nat → Nat) (c : Nat → ClassId) (post : Int → MS → Prop) : Prop := kOK K cX5_swap RX5 wsX5_swap none rm_X5_swap ∧ K.nL = 6 ∧ kQ K (MW L c [] []) rkV post rm_X5_swap
def P_X5_swap_0 (K : KT) (L : Nat → Nat) (c : Nat → ClassId) (σ : MS) (v1 v2 v3 : Int) : Prop := G K (MW L c [] [] σ) (0, 0) [(0, .ref (L 0)), (1, .int (iZ v1)), (2, .int (iZ v2)), (3, .int (iZ v3))] 0 []
def P_X5_swap_1 (K : KT) (L : Nat → Nat) (c : Nat → ClassId) (σ : MS) (v1 v2 v3 v4 v5 : Int) : Prop := G K (MW L c [] [] σ) (0, 0) [(0, .ref (L 0)), (1, .int (iZ v1)), (2, .int (iZ v2)), (3, .int (iZ v3)), (4, .int (iZ v4)), (5, .int (iZ v5))] 6 []
set_option maxRecDepth 100000 in
set_option maxHeartbeats 4000000 in
theorem b_X5_swap_0 {K : KT} {L : Nat → Nat} {c : Nat → ClassId} {post : Int → MS → Prop} (C : C_X5_swap K L c post) {σ : MS} {v1 v2 v3 : Int} (h : P_X5_swap_1 K L c σ v1 v2 v3 0 0) : P_X5_swap_0 K L c σ v1 v2 v3 := by
  refine g_iconst C.1 (z := 0) dX5_swap_0 ?_
  refine g_istore C.1 (loc' := [(4, .int (iZ 0)), (0, .ref (L 0)), (1, .int (iZ v1)), (2, .int (iZ v2)), (3, .int (iZ v3))]) C.2.1 dX5_swap_1 (by decide) rfl ?_
  refine g_iconst C.1 (z := 0) dX5_swap_3 ?_
  refine g_istore C.1 (loc' := [(5, .int (iZ 0)), (4, .int (iZ 0)), (0, .ref (L 0)), (1, .int (iZ v1)), (2, .int (iZ v2)), (3, .int (iZ v3))]) C.2.1 dX5_swap_4 (by decide) rfl ?_
  exact g_sub [2, 3, 4, 5, 1, 0] rfl h
set_option maxRecDepth 100000 in
set_option maxHeartbeats 4000000 in
theorem b_X5_swap_1 {K : KT} {L : Nat → Nat} {c : Nat → ClassId} {post : Int → MS → Prop} (C : C_X5_swap K L c post) {σ : MS} {v1 v2 v3 v4 v5 : Int} (h : (-2147483648 ≤ (v5 + 1) ∧ (v5 + 1) < 2147483648) ∧ (-2147483648 ≤ (σ 14 0) ∧ (σ 14 0) < 2147483648) ∧ (((σ 14 0) ≤ (v5 + 1) → post 0 σ) ∧ (¬ (σ 14 0) ≤ (v5 + 1) → (0 ≤ v5 ∧ v5 < 120) ∧ (-2147483648 ≤ ((σ 13) v5) ∧ ((σ 13) v5) < 2147483648) ∧ (-2147483648 ≤ v1 ∧ v1 < 2147483648) ∧ ((¬ ((σ 13) v5) = v1 → P_X5_swap_1 K L c σ v1 v2 v3 v4 (v5 + 1)) ∧ (((σ 13) v5) = v1 → (0 ≤ (v5 + 1) ∧ (v5 + 1) < 120) ∧ (-2147483648 ≤ ((σ 13) (v5 + 1)) ∧ ((σ 13) (v5 + 1)) < 2147483648) ∧ (-2147483648 ≤ v2 ∧ v2 < 2147483648) ∧ ((((σ 13) (v5 + 1)) = v2 → ((0 ≤ (v4 + 1) ∧ (v4 + 1) < 2147483648) ∧ (0 < v3 ∧ v3 < 2147483648)) ∧ (-2147483648 ≤ ((v4 + 1) % v3) ∧ ((v4 + 1) % v3) < 2147483648) ∧ ((¬ ((v4 + 1) % v3) = 0 → P_X5_swap_1 K L c σ v1 v2 v3 (v4 + 1) (v5 + 2)) ∧ (((v4 + 1) % v3) = 0 → P_X5_swap_1 K L c (upM σ 13 (upI (upI (σ 13) v5 v2) (v5 + 1) v1)) v1 v2 v3 (v4 + 1) (v5 + 2)))) ∧ (¬ ((σ 13) (v5 + 1)) = v2 → P_X5_swap_1 K L c σ v1 v2 v3 v4 (v5 + 1)))))))) : P_X5_swap_1 K L c σ v1 v2 v3 v4 v5 := by
  refine g_iload C.1 5 dX5_swap_6 rfl ?_
  refine g_iconst C.1 (z := 1) dX5_swap_8 ?_
  refine g_iadd C.1 (x := v5) (y := 1) dX5_swap_9 ?_
  refine g_aload_n C.1 0 dX5_swap_10 rfl rfl ?_
  refine m_get C.1 inX5_swap 14 (by decide) (v := .int (iZ (σ 14 0))) rfl lk_X5_swap_f85 rfl dX5_swap_11 ?_
  obtain ⟨hc1, h⟩ := h
  obtain ⟨hc2, h⟩ := h
  refine g_icmp_ge C.1 (tgt := 81) dX5_swap_14 (by decide) hc1 hc2 (fun hc => ?_) (fun hc => ?_)
  · have h := h.1 hc
    exact x_vret C.1 C.2.2 rfl ⟨Nat.le_of_ble_eq_true rfl, Nat.le_of_ble_eq_true rfl⟩ dX5_swap_81 h
  · have h := h.2 hc
    refine g_aload_n C.1 0 dX5_swap_17 rfl rfl ?_
    refine m_get C.1 inX5_swap 13 (by decide) (v := .ref (L 13)) rfl lk_X5_swap_f38 rfl dX5_swap_18 ?_
    refine g_iload C.1 5 dX5_swap_21 rfl ?_
    obtain ⟨hi3, h⟩ := h
    refine m_ald C.1 10 9 (N := 120) (f := (σ 13)) (e := v5) rfl rfl (by decide) hi3 dX5_swap_23 ?_
    refine g_iload_n C.1 1 dX5_swap_24 rfl rfl ?_
    obtain ⟨hc4, h⟩ := h
    obtain ⟨hc5, h⟩ := h
    refine g_icmp_ne C.1 (tgt := 41) dX5_swap_25 (by decide) hc4 hc5 (fun hc => ?_) (fun hc => ?_)
    · have h := h.1 hc
      refine g_iinc C.1 (z := v5) (w := 1) (loc' := [(5, .int (iZ (v5 + 1))), (0, .ref (L 0)), (1, .int (iZ v1)), (2, .int (iZ v2)), (3, .int (iZ v3)), (4, .int (iZ v4))]) 5 C.2.1 dX5_swap_41 rfl (by decide) rfl ?_
      refine g_goto C.1 (tgt := 6) dX5_swap_44 (by decide) ?_
      exact g_sub [1, 2, 3, 4, 5, 0] rfl h
    · have h := h.2 hc
      refine g_aload_n C.1 0 dX5_swap_28 rfl rfl ?_
      refine m_get C.1 inX5_swap 13 (by decide) (v := .ref (L 13)) rfl lk_X5_swap_f38 rfl dX5_swap_29 ?_
      refine g_iload C.1 5 dX5_swap_32 rfl ?_
      refine g_iconst C.1 (z := 1) dX5_swap_34 ?_
      refine g_iadd C.1 (x := v5) (y := 1) dX5_swap_35 ?_
      obtain ⟨hi6, h⟩ := h
      refine m_ald C.1 10 9 (N := 120) (f := (σ 13)) (e := (v5 + 1)) rfl rfl (by decide) hi6 dX5_swap_36 ?_
      refine g_iload_n C.1 2 dX5_swap_37 rfl rfl ?_
      obtain ⟨hc7, h⟩ := h
      obtain ⟨hc8, h⟩ := h
      refine g_icmp_eq C.1 (tgt := 47) dX5_swap_38 (by decide) hc7 hc8 (fun hc => ?_) (fun hc => ?_)
      · have h := h.1 hc
        refine g_iinc C.1 (z := v4) (w := 1) (loc' := [(4, .int (iZ (v4 + 1))), (0, .ref (L 0)), (1, .int (iZ v1)), (2, .int (iZ v2)), (3, .int (iZ v3)), (5, .int (iZ v5))]) 4 C.2.1 dX5_swap_47 rfl (by decide) rfl ?_
        refine g_iload C.1 0 dX5_swap_50 rfl ?_
        refine g_iload_n C.1 4 dX5_swap_52 rfl rfl ?_
        obtain ⟨hr9, h⟩ := h
        refine g_irem C.1 (x := (v4 + 1)) (y := v3) hr9 dX5_swap_53 ?_
        obtain ⟨hc10, h⟩ := h
        refine g_if_ne C.1 (tgt := 75) dX5_swap_54 (by decide) hc10 (fun hc => ?_) (fun hc => ?_)
        · have h := h.1 hc
          refine g_iinc C.1 (z := v5) (w := 2) (loc' := [(5, .int (iZ (v5 + 2))), (4, .int (iZ (v4 + 1))), (0, .ref (L 0)), (1, .int (iZ v1)), (2, .int (iZ v2)), (3, .int (iZ v3))]) 5 C.2.1 dX5_swap_75 rfl (by decide) rfl ?_
          refine g_goto C.1 (tgt := 6) dX5_swap_78 (by decide) ?_
          exact g_sub [2, 3, 4, 5, 1, 0] rfl h
        · have h := h.2 hc
          refine g_aload_n C.1 1 dX5_swap_57 rfl rfl ?_
          refine m_get C.1 inX5_swap 13 (by decide) (v := .ref (L 13)) rfl lk_X5_swap_f38 rfl dX5_swap_58 ?_
          refine g_iload C.1 5 dX5_swap_61 rfl ?_
          refine g_iload_n C.1 3 dX5_swap_63 rfl rfl ?_
          refine m_ast C.1 10 9 (N := 120) (f := (σ 13)) (e := v5) (z := v2) (X' := []) (σ' := upM σ 13 (upI (σ 13) v5 v2)) rfl rfl rfl (by decide) hi3 dX5_swap_64 ?_
          refine g_aload_n C.1 1 dX5_swap_65 rfl rfl ?_
          refine m_get C.1 inX5_swap 13 (by decide) (v := .ref (L 13)) rfl lk_X5_swap_f38 rfl dX5_swap_66 ?_
          refine g_iload C.1 5 dX5_swap_69 rfl ?_
          refine g_iconst C.1 (z := 1) dX5_swap_71 ?_
          refine g_iadd C.1 (x := v5) (y := 1) dX5_swap_72 ?_
          refine g_iload_n C.1 2 dX5_swap_73 rfl rfl ?_
          refine m_ast C.1 10 9 (N := 120) (f := (upI (σ 13) v5 v2)) (e := (v5 + 1)) (z := v1) (X' := []) (σ' := upM σ 13 (upI (upI (σ 13) v5 v2) (v5 + 1) v1)) rfl rfl rfl (by decide) hi6 dX5_swap_74 ?_
          refine g_iinc C.1 (z := v5) (w := 2) (loc' := [(5, .int (iZ (v5 + 2))), (4, .int (iZ (v4 + 1))), (0, .ref (L 0)), (1, .int (iZ v1)), (2, .int (iZ v2)), (3, .int (iZ v3))]) 5 C.2.1 dX5_swap_75 rfl (by decide) rfl ?_
          refine g_goto C.1 (tgt := 6) dX5_swap_78 (by decide) ?_
          exact g_sub [2, 3, 4, 5, 1, 0] rfl h
      · have h := h.2 hc
        refine g_iinc C.1 (z := v5) (w := 1) (loc' := [(5, .int (iZ (v5 + 1))), (0, .ref (L 0)), (1, .int (iZ v1)), (2, .int (iZ v2)), (3, .int (iZ v3)), (4, .int (iZ v4))]) 5 C.2.1 dX5_swap_41 rfl (by decide) rfl ?_
        refine g_goto C.1 (tgt := 6) dX5_swap_44 (by decide) ?_
        exact g_sub [1, 2, 3, 4, 5, 0] rfl h
def H_X5_swap (p : MS → Int → Int → Int → Prop) (o : MS → Int → Int → Int → Int → MS → Prop) : Prop := ∀ (l : Launch) (L : Nat → Nat) (c : Nat → ClassId) (σ : MS) (v1 v2 v3 : Int), p σ v1 v2 v3 → xMet l yX5_swap wsX5_swap rm_X5_swap (MW L c [] []) rkV [.ref (L 0), .int (iZ v1), .int (iZ v2), .int (iZ v3)] σ (fun r σ' => o σ v1 v2 v3 r σ')
theorem m_X5_swap {l : Launch} {L : Nat → Nat} {c : Nat → ClassId} {σ : MS} {v1 v2 v3 : Int} {post : Int → MS → Prop} (h : ∀ K : KT, K.l = l → C_X5_swap K L c post → P_X5_swap_0 K L c σ v1 v2 v3) : xMet l yX5_swap wsX5_swap rm_X5_swap (MW L c [] []) rkV [.ref (L 0), .int (iZ v1), .int (iZ v2), .int (iZ v3)] σ post :=
  xMet.of (maxL := 6) (by decide +kernel) rfl (Nat.le_of_ble_eq_true rfl) (fun K h1 h2 h3 h4 _ => h K h1 ⟨h2, h4, h3⟩)

/-! X5_copyBy -/
abbrev rm_X5_copyBy : Room := { frames := 3, cells := 0, slots := 0, locals := 106 }
theorem inX5_copyBy : ∀ w ∈ wsX50, w ∈ wsX5_copyBy := by decide +kernel
theorem lk_X5_copyBy_f29 : Cond.fieldLink RX5 29 "CopyHouseModel" "habits" "[I" ∈ wsX5_copyBy := List.mem_of_getElem? (i := 1) (by decide +kernel)
theorem lk_X5_copyBy_f32 : Cond.fieldLink RX5 32 "CopyHouseModel" "habit" "[I" ∈ wsX5_copyBy := List.mem_of_getElem? (i := 2) (by decide +kernel)
def C_X5_copyBy (K : KT) (L : Nat → Nat) (c : Nat → ClassId) (post : Int → MS → Prop) : Prop := kOK K cX5_copyBy RX5 wsX5_copyBy none rm_X5_copyBy ∧ K.nL = 8 ∧ kQ K (MW L c [] []) rkV post rm_X5_copyBy
def P_X5_copyBy_0 (K : KT) (L : Nat → Nat) (c : Nat → ClassId) (σ : MS) (v1 : Int) : Prop := G K (MW L c [] [] σ) (0, 0) [(0, .ref (L 0)), (1, .int (iZ v1))] 0 []
def P_X5_copyBy_1 (K : KT) (L : Nat → Nat) (c : Nat → ClassId) (σ : MS) (v1 v2 : Int) : Prop := G K (MW L c [] [] σ) (0, 0) [(0, .ref (L 0)), (1, .int (iZ v1)), (2, .int (iZ v2))] 2 []
set_option maxRecDepth 100000 in
set_option maxHeartbeats 4000000 in
theorem b_X5_copyBy_0 {K : KT} {L : Nat → Nat} {c : Nat → ClassId} {post : Int → MS → Prop} (C : C_X5_copyBy K L c post) {σ : MS} {v1 : Int} (h : P_X5_copyBy_1 K L c σ v1 0) : P_X5_copyBy_0 K L c σ v1 := by
  refine g_iconst C.1 (z := 0) dX5_copyBy_0 ?_
  refine g_istore_n C.1 (loc' := [(2, .int (iZ 0)), (0, .ref (L 0)), (1, .int (iZ v1))]) C.2.1 dX5_copyBy_1 rfl (by decide) rfl ?_
  exact g_sub [1, 2, 0] rfl h
set_option maxRecDepth 100000 in
set_option maxHeartbeats 4000000 in
theorem b_X5_copyBy_1 {K : KT} {L : Nat → Nat} {c : Nat → ClassId} {post : Int → MS → Prop} (C : C_X5_copyBy K L c post) {p_swap : MS → Int → Int → Int → Prop} {o_swap : MS → Int → Int → Int → Int → MS → Prop} (h_swap : H_X5_swap p_swap o_swap) {p_skip : MS → Int → Int → Prop} {o_skip : MS → Int → Int → Int → MS → Prop} (h_skip : H_X5_skip p_skip o_skip) {p_twice : MS → Int → Int → Prop} {o_twice : MS → Int → Int → Int → MS → Prop} (h_twice : H_X5_twice p_twice o_twice) {p_drop : MS → Int → Int → Prop} {o_drop : MS → Int → Int → Int → MS → Prop} (h_drop : H_X5_drop p_drop o_drop) {p_change : MS → Int → Int → Int → Prop} {o_change : MS → Int → Int → Int → Int → MS → Prop} (h_change : H_X5_change p_change o_change) {σ : MS} {v1 v2 : Int} (h : (0 ≤ v1 ∧ v1 < 8) ∧ (-2147483648 ≤ v2 ∧ v2 < 2147483648) ∧ (-2147483648 ≤ ((σ 10) v1) ∧ ((σ 10) v1) < 2147483648) ∧ ((((σ 10) v1) ≤ v2 → post 0 σ) ∧ (¬ ((σ 10) v1) ≤ v2 → (0 ≤ (4 * ((5 * v1) + v2)) ∧ (4 * ((5 * v1) + v2)) < 160) ∧ (0 ≤ ((4 * ((5 * v1) + v2)) + 1) ∧ ((4 * ((5 * v1) + v2)) + 1) < 160) ∧ (0 ≤ ((4 * ((5 * v1) + v2)) + 2) ∧ ((4 * ((5 * v1) + v2)) + 2) < 160) ∧ (0 ≤ ((4 * ((5 * v1) + v2)) + 3) ∧ ((4 * ((5 * v1) + v2)) + 3) < 160) ∧ (-2147483648 ≤ ((σ 11) (4 * ((5 * v1) + v2))) ∧ ((σ 11) (4 * ((5 * v1) + v2))) < 2147483648) ∧ ((¬ ((σ 11) (4 * ((5 * v1) + v2))) = 0 → ((¬ ((σ 11) (4 * ((5 * v1) + v2))) = 1 → ((¬ ((σ 11) (4 * ((5 * v1) + v2))) = 2 → ((¬ ((σ 11) (4 * ((5 * v1) + v2))) = 3 → (p_swap σ (((σ 11) ((4 * ((5 * v1) + v2)) + 1)) + 97) (((σ 11) ((4 * ((5 * v1) + v2)) + 2)) + 97) ((σ 11) ((4 * ((5 * v1) + v2)) + 3))) ∧ ∀ (r10 : Int) (σ11 : MS), o_swap σ (((σ 11) ((4 * ((5 * v1) + v2)) + 1)) + 97) (((σ 11) ((4 * ((5 * v1) + v2)) + 2)) + 97) ((σ 11) ((4 * ((5 * v1) + v2)) + 3)) r10 σ11 → P_X5_copyBy_1 K L c σ11 v1 (v2 + 1)) ∧ (((σ 11) (4 * ((5 * v1) + v2))) = 3 → (p_skip σ (((σ 11) ((4 * ((5 * v1) + v2)) + 1)) + 97) ((σ 11) ((4 * ((5 * v1) + v2)) + 3))) ∧ ∀ (r13 : Int) (σ14 : MS), o_skip σ (((σ 11) ((4 * ((5 * v1) + v2)) + 1)) + 97) ((σ 11) ((4 * ((5 * v1) + v2)) + 3)) r13 σ14 → P_X5_copyBy_1 K L c σ14 v1 (v2 + 1)))) ∧ (((σ 11) (4 * ((5 * v1) + v2))) = 2 → (p_twice σ (((σ 11) ((4 * ((5 * v1) + v2)) + 1)) + 97) ((σ 11) ((4 * ((5 * v1) + v2)) + 3))) ∧ ∀ (r16 : Int) (σ17 : MS), o_twice σ (((σ 11) ((4 * ((5 * v1) + v2)) + 1)) + 97) ((σ 11) ((4 * ((5 * v1) + v2)) + 3)) r16 σ17 → P_X5_copyBy_1 K L c σ17 v1 (v2 + 1)))) ∧ (((σ 11) (4 * ((5 * v1) + v2))) = 1 → (p_drop σ (((σ 11) ((4 * ((5 * v1) + v2)) + 1)) + 97) ((σ 11) ((4 * ((5 * v1) + v2)) + 3))) ∧ ∀ (r19 : Int) (σ20 : MS), o_drop σ (((σ 11) ((4 * ((5 * v1) + v2)) + 1)) + 97) ((σ 11) ((4 * ((5 * v1) + v2)) + 3)) r19 σ20 → P_X5_copyBy_1 K L c σ20 v1 (v2 + 1)))) ∧ (((σ 11) (4 * ((5 * v1) + v2))) = 0 → (p_change σ (((σ 11) ((4 * ((5 * v1) + v2)) + 1)) + 97) (((σ 11) ((4 * ((5 * v1) + v2)) + 2)) + 97) ((σ 11) ((4 * ((5 * v1) + v2)) + 3))) ∧ ∀ (r22 : Int) (σ23 : MS), o_change σ (((σ 11) ((4 * ((5 * v1) + v2)) + 1)) + 97) (((σ 11) ((4 * ((5 * v1) + v2)) + 2)) + 97) ((σ 11) ((4 * ((5 * v1) + v2)) + 3)) r22 σ23 → P_X5_copyBy_1 K L c σ23 v1 (v2 + 1)))))) : P_X5_copyBy_1 K L c σ v1 v2 := by
  refine g_iload_n C.1 2 dX5_copyBy_2 rfl rfl ?_
  refine g_aload_n C.1 0 dX5_copyBy_3 rfl rfl ?_
  refine m_get C.1 inX5_copyBy 10 (by decide) (v := .ref (L 10)) rfl lk_X5_copyBy_f29 rfl dX5_copyBy_4 ?_
  refine g_iload_n C.1 1 dX5_copyBy_7 rfl rfl ?_
  obtain ⟨hi1, h⟩ := h
  refine m_ald C.1 7 6 (N := 8) (f := (σ 10)) (e := v1) rfl rfl (by decide) hi1 dX5_copyBy_8 ?_
  obtain ⟨hc2, h⟩ := h
  obtain ⟨hc3, h⟩ := h
  refine g_icmp_ge C.1 (tgt := 149) dX5_copyBy_9 (by decide) hc2 hc3 (fun hc => ?_) (fun hc => ?_)
  · have h := h.1 hc
    exact x_vret C.1 C.2.2 rfl ⟨Nat.le_of_ble_eq_true rfl, Nat.le_of_ble_eq_true rfl⟩ dX5_copyBy_149 h
  · have h := h.2 hc
    refine g_iconst C.1 (z := 4) dX5_copyBy_12 ?_
    refine g_iconst C.1 (z := 5) dX5_copyBy_13 ?_
    refine g_iload_n C.1 1 dX5_copyBy_14 rfl rfl ?_
    refine g_imul C.1 (x := 5) (y := v1) dX5_copyBy_15 ?_
    refine g_iload_n C.1 2 dX5_copyBy_16 rfl rfl ?_
    refine g_iadd C.1 (x := 5 * v1) (y := v2) dX5_copyBy_17 ?_
    refine g_imul C.1 (x := 4) (y := (5 * v1) + v2) dX5_copyBy_18 ?_
    refine g_istore_n C.1 (loc' := [(3, .int (iZ (4 * ((5 * v1) + v2)))), (0, .ref (L 0)), (1, .int (iZ v1)), (2, .int (iZ v2))]) C.2.1 dX5_copyBy_19 rfl (by decide) rfl ?_
    refine g_aload_n C.1 1 dX5_copyBy_20 rfl rfl ?_
    refine m_get C.1 inX5_copyBy 11 (by decide) (v := .ref (L 11)) rfl lk_X5_copyBy_f32 rfl dX5_copyBy_21 ?_
    refine g_iload_n C.1 0 dX5_copyBy_24 rfl rfl ?_
    obtain ⟨hi4, h⟩ := h
    refine m_ald C.1 8 7 (N := 160) (f := (σ 11)) (e := (4 * ((5 * v1) + v2))) rfl rfl (by decide) hi4 dX5_copyBy_25 ?_
    refine g_istore C.1 (loc' := [(4, .int (iZ ((σ 11) (4 * ((5 * v1) + v2))))), (3, .int (iZ (4 * ((5 * v1) + v2)))), (0, .ref (L 0)), (1, .int (iZ v1)), (2, .int (iZ v2))]) C.2.1 dX5_copyBy_26 (by decide) rfl ?_
    refine g_aload_n C.1 2 dX5_copyBy_28 rfl rfl ?_
    refine m_get C.1 inX5_copyBy 11 (by decide) (v := .ref (L 11)) rfl lk_X5_copyBy_f32 rfl dX5_copyBy_29 ?_
    refine g_iload_n C.1 1 dX5_copyBy_32 rfl rfl ?_
    refine g_iconst C.1 (z := 1) dX5_copyBy_33 ?_
    refine g_iadd C.1 (x := 4 * ((5 * v1) + v2)) (y := 1) dX5_copyBy_34 ?_
    obtain ⟨hi5, h⟩ := h
    refine m_ald C.1 8 7 (N := 160) (f := (σ 11)) (e := ((4 * ((5 * v1) + v2)) + 1)) rfl rfl (by decide) hi5 dX5_copyBy_35 ?_
    refine g_bipush C.1 (z := 97) dX5_copyBy_36 (by decide) ?_
    refine g_iadd C.1 (x := (σ 11) ((4 * ((5 * v1) + v2)) + 1)) (y := 97) dX5_copyBy_38 ?_
    refine g_istore C.1 (loc' := [(5, .int (iZ (((σ 11) ((4 * ((5 * v1) + v2)) + 1)) + 97))), (4, .int (iZ ((σ 11) (4 * ((5 * v1) + v2))))), (3, .int (iZ (4 * ((5 * v1) + v2)))), (0, .ref (L 0)), (1, .int (iZ v1)), (2, .int (iZ v2))]) C.2.1 dX5_copyBy_39 (by decide) rfl ?_
    refine g_aload_n C.1 3 dX5_copyBy_41 rfl rfl ?_
    refine m_get C.1 inX5_copyBy 11 (by decide) (v := .ref (L 11)) rfl lk_X5_copyBy_f32 rfl dX5_copyBy_42 ?_
    refine g_iload_n C.1 2 dX5_copyBy_45 rfl rfl ?_
    refine g_iconst C.1 (z := 2) dX5_copyBy_46 ?_
    refine g_iadd C.1 (x := 4 * ((5 * v1) + v2)) (y := 2) dX5_copyBy_47 ?_
    obtain ⟨hi6, h⟩ := h
    refine m_ald C.1 8 7 (N := 160) (f := (σ 11)) (e := ((4 * ((5 * v1) + v2)) + 2)) rfl rfl (by decide) hi6 dX5_copyBy_48 ?_
    refine g_bipush C.1 (z := 97) dX5_copyBy_49 (by decide) ?_
    refine g_iadd C.1 (x := (σ 11) ((4 * ((5 * v1) + v2)) + 2)) (y := 97) dX5_copyBy_51 ?_
    refine g_istore C.1 (loc' := [(6, .int (iZ (((σ 11) ((4 * ((5 * v1) + v2)) + 2)) + 97))), (5, .int (iZ (((σ 11) ((4 * ((5 * v1) + v2)) + 1)) + 97))), (4, .int (iZ ((σ 11) (4 * ((5 * v1) + v2))))), (3, .int (iZ (4 * ((5 * v1) + v2)))), (0, .ref (L 0)), (1, .int (iZ v1)), (2, .int (iZ v2))]) C.2.1 dX5_copyBy_52 (by decide) rfl ?_
    refine g_aload_n C.1 4 dX5_copyBy_54 rfl rfl ?_
    refine m_get C.1 inX5_copyBy 11 (by decide) (v := .ref (L 11)) rfl lk_X5_copyBy_f32 rfl dX5_copyBy_55 ?_
    refine g_iload_n C.1 3 dX5_copyBy_58 rfl rfl ?_
    refine g_iconst C.1 (z := 3) dX5_copyBy_59 ?_
    refine g_iadd C.1 (x := 4 * ((5 * v1) + v2)) (y := 3) dX5_copyBy_60 ?_
    obtain ⟨hi7, h⟩ := h
    refine m_ald C.1 8 7 (N := 160) (f := (σ 11)) (e := ((4 * ((5 * v1) + v2)) + 3)) rfl rfl (by decide) hi7 dX5_copyBy_61 ?_
    refine g_istore C.1 (loc' := [(7, .int (iZ ((σ 11) ((4 * ((5 * v1) + v2)) + 3)))), (6, .int (iZ (((σ 11) ((4 * ((5 * v1) + v2)) + 2)) + 97))), (5, .int (iZ (((σ 11) ((4 * ((5 * v1) + v2)) + 1)) + 97))), (4, .int (iZ ((σ 11) (4 * ((5 * v1) + v2))))), (3, .int (iZ (4 * ((5 * v1) + v2)))), (0, .ref (L 0)), (1, .int (iZ v1)), (2, .int (iZ v2))]) C.2.1 dX5_copyBy_62 (by decide) rfl ?_
    refine g_iload C.1 3 dX5_copyBy_64 rfl ?_
    obtain ⟨hc8, h⟩ := h
    refine g_if_ne C.1 (tgt := 82) dX5_copyBy_66 (by decide) hc8 (fun hc => ?_) (fun hc => ?_)
    · have h := h.1 hc
      refine g_iload C.1 3 dX5_copyBy_82 rfl ?_
      refine g_iconst C.1 (z := 1) dX5_copyBy_84 ?_
      refine g_icmp_ne C.1 (tgt := 99) dX5_copyBy_85 (by decide) hc8 (by decide) (fun hc => ?_) (fun hc => ?_)
      · have h := h.1 hc
        refine g_iload C.1 3 dX5_copyBy_99 rfl ?_
        refine g_iconst C.1 (z := 2) dX5_copyBy_101 ?_
        refine g_icmp_ne C.1 (tgt := 116) dX5_copyBy_102 (by decide) hc8 (by decide) (fun hc => ?_) (fun hc => ?_)
        · have h := h.1 hc
          refine g_iload C.1 3 dX5_copyBy_116 rfl ?_
          refine g_iconst C.1 (z := 3) dX5_copyBy_118 ?_
          refine g_icmp_ne C.1 (tgt := 133) dX5_copyBy_119 (by decide) hc8 (by decide) (fun hc => ?_) (fun hc => ?_)
          · have h := h.1 hc
            refine g_aload_n C.1 5 dX5_copyBy_133 rfl rfl ?_
            refine g_iload C.1 2 dX5_copyBy_134 rfl ?_
            refine g_iload C.1 1 dX5_copyBy_136 rfl ?_
            refine g_iload C.1 0 dX5_copyBy_138 rfl ?_
            obtain ⟨hp9, h⟩ := h
            refine x_callV C.1 (h_swap K.l L c σ (((σ 11) ((4 * ((5 * v1) + v2)) + 1)) + 97) (((σ 11) ((4 * ((5 * v1) + v2)) + 2)) + 97) ((σ 11) ((4 * ((5 * v1) + v2)) + 3)) hp9) (ci := 6) (q := (RX5, TX5, 17)) rfl m_recv (fun ht => cwV 3 ht gX5_copyBy_X5_swap rfl rfl rfl (by decide +kernel) ⟨Nat.le_of_ble_eq_true rfl, Nat.le_of_ble_eq_true rfl⟩) rfl rfl (Nat.le_of_ble_eq_true rfl) ⟨Nat.le_of_ble_eq_true rfl, Nat.le_of_ble_eq_true rfl⟩ dX5_copyBy_140 (fun r10 σ11 hq => ?_)
            have h := h r10 σ11 hq
            show G K (MW L c [] [] σ11) (0, 0) [(7, .int (iZ ((σ 11) ((4 * ((5 * v1) + v2)) + 3)))), (6, .int (iZ (((σ 11) ((4 * ((5 * v1) + v2)) + 2)) + 97))), (5, .int (iZ (((σ 11) ((4 * ((5 * v1) + v2)) + 1)) + 97))), (4, .int (iZ ((σ 11) (4 * ((5 * v1) + v2))))), (3, .int (iZ (4 * ((5 * v1) + v2)))), (0, .ref (L 0)), (1, .int (iZ v1)), (2, .int (iZ v2))] 143 []
            refine g_iinc C.1 (z := v2) (w := 1) (loc' := [(2, .int (iZ (v2 + 1))), (7, .int (iZ ((σ 11) ((4 * ((5 * v1) + v2)) + 3)))), (6, .int (iZ (((σ 11) ((4 * ((5 * v1) + v2)) + 2)) + 97))), (5, .int (iZ (((σ 11) ((4 * ((5 * v1) + v2)) + 1)) + 97))), (4, .int (iZ ((σ 11) (4 * ((5 * v1) + v2))))), (3, .int (iZ (4 * ((5 * v1) + v2)))), (0, .ref (L 0)), (1, .int (iZ v1))]) 7 C.2.1 dX5_copyBy_143 rfl (by decide) rfl ?_
            refine g_goto C.1 (tgt := 2) dX5_copyBy_146 (by decide) ?_
            exact g_sub [6, 7, 0] rfl h
          · have h := h.2 hc
            refine g_aload_n C.1 5 dX5_copyBy_122 rfl rfl ?_
            refine g_iload C.1 2 dX5_copyBy_123 rfl ?_
            refine g_iload C.1 0 dX5_copyBy_125 rfl ?_
            obtain ⟨hp12, h⟩ := h
            refine x_callV C.1 (h_skip K.l L c σ (((σ 11) ((4 * ((5 * v1) + v2)) + 1)) + 97) ((σ 11) ((4 * ((5 * v1) + v2)) + 3)) hp12) (ci := 6) (q := (RX5, TX5, 17)) rfl m_recv (fun ht => cwV 2 ht gX5_copyBy_X5_skip rfl rfl rfl (by decide +kernel) ⟨Nat.le_of_ble_eq_true rfl, Nat.le_of_ble_eq_true rfl⟩) rfl rfl (Nat.le_of_ble_eq_true rfl) ⟨Nat.le_of_ble_eq_true rfl, Nat.le_of_ble_eq_true rfl⟩ dX5_copyBy_127 (fun r13 σ14 hq => ?_)
            have h := h r13 σ14 hq
            show G K (MW L c [] [] σ14) (0, 0) [(7, .int (iZ ((σ 11) ((4 * ((5 * v1) + v2)) + 3)))), (6, .int (iZ (((σ 11) ((4 * ((5 * v1) + v2)) + 2)) + 97))), (5, .int (iZ (((σ 11) ((4 * ((5 * v1) + v2)) + 1)) + 97))), (4, .int (iZ ((σ 11) (4 * ((5 * v1) + v2))))), (3, .int (iZ (4 * ((5 * v1) + v2)))), (0, .ref (L 0)), (1, .int (iZ v1)), (2, .int (iZ v2))] 130 []
            refine g_goto C.1 (tgt := 143) dX5_copyBy_130 (by decide) ?_
            refine g_iinc C.1 (z := v2) (w := 1) (loc' := [(2, .int (iZ (v2 + 1))), (7, .int (iZ ((σ 11) ((4 * ((5 * v1) + v2)) + 3)))), (6, .int (iZ (((σ 11) ((4 * ((5 * v1) + v2)) + 2)) + 97))), (5, .int (iZ (((σ 11) ((4 * ((5 * v1) + v2)) + 1)) + 97))), (4, .int (iZ ((σ 11) (4 * ((5 * v1) + v2))))), (3, .int (iZ (4 * ((5 * v1) + v2)))), (0, .ref (L 0)), (1, .int (iZ v1))]) 7 C.2.1 dX5_copyBy_143 rfl (by decide) rfl ?_
            refine g_goto C.1 (tgt := 2) dX5_copyBy_146 (by decide) ?_
            exact g_sub [6, 7, 0] rfl h
        · have h := h.2 hc
          refine g_aload_n C.1 5 dX5_copyBy_105 rfl rfl ?_
          refine g_iload C.1 2 dX5_copyBy_106 rfl ?_
          refine g_iload C.1 0 dX5_copyBy_108 rfl ?_
          obtain ⟨hp15, h⟩ := h
          refine x_callV C.1 (h_twice K.l L c σ (((σ 11) ((4 * ((5 * v1) + v2)) + 1)) + 97) ((σ 11) ((4 * ((5 * v1) + v2)) + 3)) hp15) (ci := 6) (q := (RX5, TX5, 17)) rfl m_recv (fun ht => cwV 2 ht gX5_copyBy_X5_twice rfl rfl rfl (by decide +kernel) ⟨Nat.le_of_ble_eq_true rfl, Nat.le_of_ble_eq_true rfl⟩) rfl rfl (Nat.le_of_ble_eq_true rfl) ⟨Nat.le_of_ble_eq_true rfl, Nat.le_of_ble_eq_true rfl⟩ dX5_copyBy_110 (fun r16 σ17 hq => ?_)
          have h := h r16 σ17 hq
          show G K (MW L c [] [] σ17) (0, 0) [(7, .int (iZ ((σ 11) ((4 * ((5 * v1) + v2)) + 3)))), (6, .int (iZ (((σ 11) ((4 * ((5 * v1) + v2)) + 2)) + 97))), (5, .int (iZ (((σ 11) ((4 * ((5 * v1) + v2)) + 1)) + 97))), (4, .int (iZ ((σ 11) (4 * ((5 * v1) + v2))))), (3, .int (iZ (4 * ((5 * v1) + v2)))), (0, .ref (L 0)), (1, .int (iZ v1)), (2, .int (iZ v2))] 113 []
          refine g_goto C.1 (tgt := 143) dX5_copyBy_113 (by decide) ?_
          refine g_iinc C.1 (z := v2) (w := 1) (loc' := [(2, .int (iZ (v2 + 1))), (7, .int (iZ ((σ 11) ((4 * ((5 * v1) + v2)) + 3)))), (6, .int (iZ (((σ 11) ((4 * ((5 * v1) + v2)) + 2)) + 97))), (5, .int (iZ (((σ 11) ((4 * ((5 * v1) + v2)) + 1)) + 97))), (4, .int (iZ ((σ 11) (4 * ((5 * v1) + v2))))), (3, .int (iZ (4 * ((5 * v1) + v2)))), (0, .ref (L 0)), (1, .int (iZ v1))]) 7 C.2.1 dX5_copyBy_143 rfl (by decide) rfl ?_
          refine g_goto C.1 (tgt := 2) dX5_copyBy_146 (by decide) ?_
          exact g_sub [6, 7, 0] rfl h
      · have h := h.2 hc
        refine g_aload_n C.1 5 dX5_copyBy_88 rfl rfl ?_
        refine g_iload C.1 2 dX5_copyBy_89 rfl ?_
        refine g_iload C.1 0 dX5_copyBy_91 rfl ?_
        obtain ⟨hp18, h⟩ := h
        refine x_callV C.1 (h_drop K.l L c σ (((σ 11) ((4 * ((5 * v1) + v2)) + 1)) + 97) ((σ 11) ((4 * ((5 * v1) + v2)) + 3)) hp18) (ci := 6) (q := (RX5, TX5, 17)) rfl m_recv (fun ht => cwV 2 ht gX5_copyBy_X5_drop rfl rfl rfl (by decide +kernel) ⟨Nat.le_of_ble_eq_true rfl, Nat.le_of_ble_eq_true rfl⟩) rfl rfl (Nat.le_of_ble_eq_true rfl) ⟨Nat.le_of_ble_eq_true rfl, Nat.le_of_ble_eq_true rfl⟩ dX5_copyBy_93 (fun r19 σ20 hq => ?_)
        have h := h r19 σ20 hq
        show G K (MW L c [] [] σ20) (0, 0) [(7, .int (iZ ((σ 11) ((4 * ((5 * v1) + v2)) + 3)))), (6, .int (iZ (((σ 11) ((4 * ((5 * v1) + v2)) + 2)) + 97))), (5, .int (iZ (((σ 11) ((4 * ((5 * v1) + v2)) + 1)) + 97))), (4, .int (iZ ((σ 11) (4 * ((5 * v1) + v2))))), (3, .int (iZ (4 * ((5 * v1) + v2)))), (0, .ref (L 0)), (1, .int (iZ v1)), (2, .int (iZ v2))] 96 []
        refine g_goto C.1 (tgt := 143) dX5_copyBy_96 (by decide) ?_
        refine g_iinc C.1 (z := v2) (w := 1) (loc' := [(2, .int (iZ (v2 + 1))), (7, .int (iZ ((σ 11) ((4 * ((5 * v1) + v2)) + 3)))), (6, .int (iZ (((σ 11) ((4 * ((5 * v1) + v2)) + 2)) + 97))), (5, .int (iZ (((σ 11) ((4 * ((5 * v1) + v2)) + 1)) + 97))), (4, .int (iZ ((σ 11) (4 * ((5 * v1) + v2))))), (3, .int (iZ (4 * ((5 * v1) + v2)))), (0, .ref (L 0)), (1, .int (iZ v1))]) 7 C.2.1 dX5_copyBy_143 rfl (by decide) rfl ?_
        refine g_goto C.1 (tgt := 2) dX5_copyBy_146 (by decide) ?_
        exact g_sub [6, 7, 0] rfl h
    · have h := h.2 hc
      refine g_aload_n C.1 5 dX5_copyBy_69 rfl rfl ?_
      refine g_iload C.1 2 dX5_copyBy_70 rfl ?_
      refine g_iload C.1 1 dX5_copyBy_72 rfl ?_
      refine g_iload C.1 0 dX5_copyBy_74 rfl ?_
      obtain ⟨hp21, h⟩ := h
      refine x_callV C.1 (h_change K.l L c σ (((σ 11) ((4 * ((5 * v1) + v2)) + 1)) + 97) (((σ 11) ((4 * ((5 * v1) + v2)) + 2)) + 97) ((σ 11) ((4 * ((5 * v1) + v2)) + 3)) hp21) (ci := 6) (q := (RX5, TX5, 17)) rfl m_recv (fun ht => cwV 3 ht gX5_copyBy_X5_change rfl rfl rfl (by decide +kernel) ⟨Nat.le_of_ble_eq_true rfl, Nat.le_of_ble_eq_true rfl⟩) rfl rfl (Nat.le_of_ble_eq_true rfl) ⟨Nat.le_of_ble_eq_true rfl, Nat.le_of_ble_eq_true rfl⟩ dX5_copyBy_76 (fun r22 σ23 hq => ?_)
      have h := h r22 σ23 hq
      show G K (MW L c [] [] σ23) (0, 0) [(7, .int (iZ ((σ 11) ((4 * ((5 * v1) + v2)) + 3)))), (6, .int (iZ (((σ 11) ((4 * ((5 * v1) + v2)) + 2)) + 97))), (5, .int (iZ (((σ 11) ((4 * ((5 * v1) + v2)) + 1)) + 97))), (4, .int (iZ ((σ 11) (4 * ((5 * v1) + v2))))), (3, .int (iZ (4 * ((5 * v1) + v2)))), (0, .ref (L 0)), (1, .int (iZ v1)), (2, .int (iZ v2))] 79 []
      refine g_goto C.1 (tgt := 143) dX5_copyBy_79 (by decide) ?_
      refine g_iinc C.1 (z := v2) (w := 1) (loc' := [(2, .int (iZ (v2 + 1))), (7, .int (iZ ((σ 11) ((4 * ((5 * v1) + v2)) + 3)))), (6, .int (iZ (((σ 11) ((4 * ((5 * v1) + v2)) + 2)) + 97))), (5, .int (iZ (((σ 11) ((4 * ((5 * v1) + v2)) + 1)) + 97))), (4, .int (iZ ((σ 11) (4 * ((5 * v1) + v2))))), (3, .int (iZ (4 * ((5 * v1) + v2)))), (0, .ref (L 0)), (1, .int (iZ v1))]) 7 C.2.1 dX5_copyBy_143 rfl (by decide) rfl ?_
      refine g_goto C.1 (tgt := 2) dX5_copyBy_146 (by decide) ?_
      exact g_sub [6, 7, 0] rfl h
def H_X5_copyBy (p : MS → Int → Prop) (o : MS → Int → Int → MS → Prop) : Prop := ∀ (l : Launch) (L : Nat → Nat) (c : Nat → ClassId) (σ : MS) (v1 : Int), p σ v1 → xMet l yX5_copyBy wsX5_copyBy rm_X5_copyBy (MW L c [] []) rkV [.ref (L 0), .int (iZ v1)] σ (fun r σ' => o σ v1 r σ')
theorem m_X5_copyBy {l : Launch} {L : Nat → Nat} {c : Nat → ClassId} {σ : MS} {v1 : Int} {post : Int → MS → Prop} (h : ∀ K : KT, K.l = l → C_X5_copyBy K L c post → P_X5_copyBy_0 K L c σ v1) : xMet l yX5_copyBy wsX5_copyBy rm_X5_copyBy (MW L c [] []) rkV [.ref (L 0), .int (iZ v1)] σ post :=
  xMet.of (maxL := 8) (by decide +kernel) rfl (Nat.le_of_ble_eq_true rfl) (fun K h1 h2 h3 h4 _ => h K h1 ⟨h2, h4, h3⟩)

/-! X5_copy -/
abbrev rm_X5_copy : Room := { frames := 4, cells := 0, slots := 0, locals := 133 }
theorem inX5_copy : ∀ w ∈ wsX50, w ∈ wsX5_copy := by decide +kernel
theorem lk_X5_copy_f47 : Cond.fieldLink RX5 47 "CopyHouseModel" "thrown" "I" ∈ wsX5_copy := List.mem_of_getElem? (i := 1) (by decide +kernel)
theorem lk_X5_copy_f25 : Cond.fieldLink RX5 25 "CopyHouseModel" "isThere" "[Z" ∈ wsX5_copy := List.mem_of_getElem? (i := 2) (by decide +kernel)
theorem lk_X5_copy_f51 : Cond.fieldLink RX5 51 "CopyHouseModel" "texts" "I" ∈ wsX5_copy := List.mem_of_getElem? (i := 3) (by decide +kernel)
theorem lk_X5_copy_f38 : Cond.fieldLink RX5 38 "CopyHouseModel" "from" "[I" ∈ wsX5_copy := List.mem_of_getElem? (i := 4) (by decide +kernel)
theorem lk_X5_copy_f85 : Cond.fieldLink RX5 85 "CopyHouseModel" "size" "I" ∈ wsX5_copy := List.mem_of_getElem? (i := 5) (by decide +kernel)
def C_X5_copy (K : KT) (L : Nat → Nat) (c : Nat → ClassId) (post : Int → MS → Prop) : Prop := kOK K cX5_copy RX5 wsX5_copy (some .int) rm_X5_copy ∧ K.nL = 3 ∧ kQ K (MW L c [] []) rkI post rm_X5_copy
def P_X5_copy_0 (K : KT) (L : Nat → Nat) (c : Nat → ClassId) (σ : MS) (v1 v2 : Int) : Prop := G K (MW L c [] [] σ) (0, 0) [(0, .ref (L 0)), (1, .int (iZ v1)), (2, .int (iZ v2))] 0 []
set_option maxRecDepth 100000 in
set_option maxHeartbeats 4000000 in
theorem b_X5_copy_0 {K : KT} {L : Nat → Nat} {c : Nat → ClassId} {post : Int → MS → Prop} (C : C_X5_copy K L c post) {p_isText : MS → Int → Prop} {f_isText : MS → Int → Bool} (h_isText : H_X5_isText p_isText f_isText) {p_no : MS → Int → Prop} {u_no : MS → Int → MS} (h_no : H_X5_no p_no u_no) {p_isScribe : MS → Int → Prop} {f_isScribe : MS → Int → Bool} (h_isScribe : H_X5_isScribe p_isScribe f_isScribe) {p_take : MS → Int → Prop} {u_take : MS → Int → MS} (h_take : H_X5_take p_take u_take) {p_copyBy : MS → Int → Prop} {o_copyBy : MS → Int → Int → MS → Prop} (h_copyBy : H_X5_copyBy p_copyBy o_copyBy) {p_add_t13 : MS → Int → Int → Int → Prop} {o_add_t13 : MS → Int → Int → Int → Int → MS → Prop} (h_add_t13 : H_X5_add_t13 p_add_t13 o_add_t13) {σ : MS} {v1 v2 : Int} (h : (p_isText (upM σ 0 (fun _ => 0)) v1) ∧ ((¬ (f_isText (upM σ 0 (fun _ => 0)) v1 = true) → (p_no (upM σ 0 (fun _ => 0)) 1) ∧ post 0 ((u_no (upM σ 0 (fun _ => 0)) 1))) ∧ (f_isText (upM σ 0 (fun _ => 0)) v1 = true → (p_isScribe (upM σ 0 (fun _ => 0)) v2) ∧ ((f_isScribe (upM σ 0 (fun _ => 0)) v2 = true → (0 ≤ v1 ∧ v1 < 24) ∧ (-2147483648 ≤ ((σ 8) v1) ∧ ((σ 8) v1) < 2147483648) ∧ ((((σ 8) v1) = 0 → (p_no (upM σ 0 (fun _ => 0)) 2) ∧ post 0 ((u_no (upM σ 0 (fun _ => 0)) 2))) ∧ (¬ ((σ 8) v1) = 0 → (-2147483648 ≤ (σ 3 0) ∧ (σ 3 0) < 2147483648) ∧ ((¬ (σ 3 0) = 24 → (p_take (upM σ 0 (fun _ => 0)) v1) ∧ (p_copyBy ((u_take (upM σ 0 (fun _ => 0)) v1)) v2) ∧ ∀ (r10 : Int) (σ11 : MS), o_copyBy ((u_take (upM σ 0 (fun _ => 0)) v1)) v2 r10 σ11 → (p_add_t13 σ11 (σ11 14 0) v1 v2) ∧ ∀ (r13 : Int) (σ14 : MS), o_add_t13 σ11 (σ11 14 0) v1 v2 r13 σ14 → post r13 σ14) ∧ ((σ 3 0) = 24 → (p_no (upM σ 0 (fun _ => 0)) 2) ∧ post 0 ((u_no (upM σ 0 (fun _ => 0)) 2))))))) ∧ (¬ (f_isScribe (upM σ 0 (fun _ => 0)) v2 = true) → (p_no (upM σ 0 (fun _ => 0)) 1) ∧ post 0 ((u_no (upM σ 0 (fun _ => 0)) 1))))))) : P_X5_copy_0 K L c σ v1 v2 := by
  refine g_aload_n C.1 0 dX5_copy_0 rfl rfl ?_
  refine g_iconst C.1 (z := 0) dX5_copy_1 ?_
  refine m_put C.1 inX5_copy 0 (by decide) (z := 0) (σ' := upM σ 0 (fun _ => 0)) rfl lk_X5_copy_f47 rfl rfl rfl dX5_copy_2 ?_
  refine g_aload_n C.1 0 dX5_copy_5 rfl rfl ?_
  refine g_iload_n C.1 1 dX5_copy_6 rfl rfl ?_
  obtain ⟨hp1, h⟩ := h
  refine x_callV C.1 (h_isText K.l L c (upM σ 0 (fun _ => 0)) v1 hp1) (ci := 6) (q := (RX5, TX5, 17)) rfl m_recv (fun ht => cwV 1 ht gX5_copy_X5_isText rfl rfl rfl (by decide +kernel) ⟨Nat.le_of_ble_eq_true rfl, Nat.le_of_ble_eq_true rfl⟩) rfl rfl (Nat.le_of_ble_eq_true rfl) ⟨Nat.le_of_ble_eq_true rfl, Nat.le_of_ble_eq_true rfl⟩ dX5_copy_7 (fun r σ9 hq => ?_)
  rw [hq.1, hq.2]
  show G K (MW L c [] [] (upM σ 0 (fun _ => 0))) (0, 0) [(0, .ref (L 0)), (1, .int (iZ v1)), (2, .int (iZ v2))] 10 [.int (iZ (if f_isText (upM σ 0 (fun _ => 0)) v1 = true then 1 else 0))]
  refine g_ifb_eq C.1 (tgt := 21) dX5_copy_10 (by decide) (fun hc => ?_) (fun hc => ?_)
  · have h := h.1 hc
    refine g_aload_n C.1 0 dX5_copy_21 rfl rfl ?_
    refine g_iconst C.1 (z := 1) dX5_copy_22 ?_
    obtain ⟨hp2, h⟩ := h
    refine x_callV C.1 (h_no K.l L c (upM σ 0 (fun _ => 0)) 1 hp2) (ci := 6) (q := (RX5, TX5, 17)) rfl m_recv (fun ht => cwV 1 ht gX5_copy_X5_no rfl rfl rfl (by decide +kernel) ⟨Nat.le_of_ble_eq_true rfl, Nat.le_of_ble_eq_true rfl⟩) rfl rfl (Nat.le_of_ble_eq_true rfl) ⟨Nat.le_of_ble_eq_true rfl, Nat.le_of_ble_eq_true rfl⟩ dX5_copy_23 (fun r σ9 hq => ?_)
    rw [hq.1, hq.2]
    show G K (MW L c [] [] ((u_no (upM σ 0 (fun _ => 0)) 1))) (0, 0) [(0, .ref (L 0)), (1, .int (iZ v1)), (2, .int (iZ v2))] 26 [.int (iZ 0)]
    exact x_iret C.1 C.2.2 rfl ⟨Nat.le_of_ble_eq_true rfl, Nat.le_of_ble_eq_true rfl⟩ dX5_copy_26 h
  · have h := h.2 hc
    refine g_aload_n C.1 0 dX5_copy_13 rfl rfl ?_
    refine g_iload_n C.1 2 dX5_copy_14 rfl rfl ?_
    obtain ⟨hp3, h⟩ := h
    refine x_callV C.1 (h_isScribe K.l L c (upM σ 0 (fun _ => 0)) v2 hp3) (ci := 6) (q := (RX5, TX5, 17)) rfl m_recv (fun ht => cwV 1 ht gX5_copy_X5_isScribe rfl rfl rfl (by decide +kernel) ⟨Nat.le_of_ble_eq_true rfl, Nat.le_of_ble_eq_true rfl⟩) rfl rfl (Nat.le_of_ble_eq_true rfl) ⟨Nat.le_of_ble_eq_true rfl, Nat.le_of_ble_eq_true rfl⟩ dX5_copy_15 (fun r σ9 hq => ?_)
    rw [hq.1, hq.2]
    show G K (MW L c [] [] (upM σ 0 (fun _ => 0))) (0, 0) [(0, .ref (L 0)), (1, .int (iZ v1)), (2, .int (iZ v2))] 18 [.int (iZ (if f_isScribe (upM σ 0 (fun _ => 0)) v2 = true then 1 else 0))]
    refine g_ifb_ne C.1 (tgt := 27) dX5_copy_18 (by decide) (fun hc => ?_) (fun hc => ?_)
    · have h := h.1 hc
      refine g_aload_n C.1 0 dX5_copy_27 rfl rfl ?_
      refine m_get C.1 inX5_copy 8 (by decide) (v := .ref (L 8)) rfl lk_X5_copy_f25 rfl dX5_copy_28 ?_
      refine g_iload_n C.1 1 dX5_copy_31 rfl rfl ?_
      obtain ⟨hi4, h⟩ := h
      refine m_zald C.1 6 5 (N := 24) (f := (σ 8)) (e := v1) rfl rfl (by decide) hi4 dX5_copy_32 ?_
      obtain ⟨hc5, h⟩ := h
      refine g_if_eq C.1 (tgt := 45) dX5_copy_33 (by decide) hc5 (fun hc => ?_) (fun hc => ?_)
      · have h := h.1 hc
        refine g_aload_n C.1 0 dX5_copy_45 rfl rfl ?_
        refine g_iconst C.1 (z := 2) dX5_copy_46 ?_
        obtain ⟨hp6, h⟩ := h
        refine x_callV C.1 (h_no K.l L c (upM σ 0 (fun _ => 0)) 2 hp6) (ci := 6) (q := (RX5, TX5, 17)) rfl m_recv (fun ht => cwV 1 ht gX5_copy_X5_no rfl rfl rfl (by decide +kernel) ⟨Nat.le_of_ble_eq_true rfl, Nat.le_of_ble_eq_true rfl⟩) rfl rfl (Nat.le_of_ble_eq_true rfl) ⟨Nat.le_of_ble_eq_true rfl, Nat.le_of_ble_eq_true rfl⟩ dX5_copy_47 (fun r σ9 hq => ?_)
        rw [hq.1, hq.2]
        show G K (MW L c [] [] ((u_no (upM σ 0 (fun _ => 0)) 2))) (0, 0) [(0, .ref (L 0)), (1, .int (iZ v1)), (2, .int (iZ v2))] 50 [.int (iZ 0)]
        exact x_iret C.1 C.2.2 rfl ⟨Nat.le_of_ble_eq_true rfl, Nat.le_of_ble_eq_true rfl⟩ dX5_copy_50 h
      · have h := h.2 hc
        refine g_aload_n C.1 0 dX5_copy_36 rfl rfl ?_
        refine m_get C.1 inX5_copy 3 (by decide) (v := .int (iZ (σ 3 0))) rfl lk_X5_copy_f51 rfl dX5_copy_37 ?_
        refine g_bipush C.1 (z := 24) dX5_copy_40 (by decide) ?_
        obtain ⟨hc7, h⟩ := h
        refine g_icmp_ne C.1 (tgt := 51) dX5_copy_42 (by decide) hc7 (by decide) (fun hc => ?_) (fun hc => ?_)
        · have h := h.1 hc
          refine g_aload_n C.1 0 dX5_copy_51 rfl rfl ?_
          refine g_iload_n C.1 1 dX5_copy_52 rfl rfl ?_
          obtain ⟨hp8, h⟩ := h
          refine x_callV C.1 (h_take K.l L c (upM σ 0 (fun _ => 0)) v1 hp8) (ci := 6) (q := (RX5, TX5, 17)) rfl m_recv (fun ht => cwV 1 ht gX5_copy_X5_take rfl rfl rfl (by decide +kernel) ⟨Nat.le_of_ble_eq_true rfl, Nat.le_of_ble_eq_true rfl⟩) rfl rfl (Nat.le_of_ble_eq_true rfl) ⟨Nat.le_of_ble_eq_true rfl, Nat.le_of_ble_eq_true rfl⟩ dX5_copy_53 (fun r σ9 hq => ?_)
          rw [hq.1, hq.2]
          show G K (MW L c [] [] ((u_take (upM σ 0 (fun _ => 0)) v1))) (0, 0) [(0, .ref (L 0)), (1, .int (iZ v1)), (2, .int (iZ v2))] 56 []
          refine g_aload_n C.1 0 dX5_copy_56 rfl rfl ?_
          refine g_iload_n C.1 2 dX5_copy_57 rfl rfl ?_
          obtain ⟨hp9, h⟩ := h
          refine x_callV C.1 (h_copyBy K.l L c ((u_take (upM σ 0 (fun _ => 0)) v1)) v2 hp9) (ci := 6) (q := (RX5, TX5, 17)) rfl m_recv (fun ht => cwV 1 ht gX5_copy_X5_copyBy rfl rfl rfl (by decide +kernel) ⟨Nat.le_of_ble_eq_true rfl, Nat.le_of_ble_eq_true rfl⟩) rfl rfl (Nat.le_of_ble_eq_true rfl) ⟨Nat.le_of_ble_eq_true rfl, Nat.le_of_ble_eq_true rfl⟩ dX5_copy_58 (fun r10 σ11 hq => ?_)
          have h := h r10 σ11 hq
          show G K (MW L c [] [] σ11) (0, 0) [(0, .ref (L 0)), (1, .int (iZ v1)), (2, .int (iZ v2))] 61 []
          refine g_aload_n C.1 0 dX5_copy_61 rfl rfl ?_
          refine g_aload_n C.1 0 dX5_copy_62 rfl rfl ?_
          refine m_get C.1 inX5_copy 13 (by decide) (v := .ref (L 13)) rfl lk_X5_copy_f38 rfl dX5_copy_63 ?_
          refine g_aload_n C.1 0 dX5_copy_66 rfl rfl ?_
          refine m_get C.1 inX5_copy 14 (by decide) (v := .int (iZ (σ11 14 0))) rfl lk_X5_copy_f85 rfl dX5_copy_67 ?_
          refine g_iload_n C.1 1 dX5_copy_70 rfl rfl ?_
          refine g_iload_n C.1 2 dX5_copy_71 rfl rfl ?_
          obtain ⟨hp12, h⟩ := h
          refine x_callV C.1 (h_add_t13 K.l L c σ11 (σ11 14 0) v1 v2 hp12) (ci := 6) (q := (RX5, TX5, 17)) rfl m_recv (fun ht => cwV 4 ht gX5_copy_X5_add rfl rfl rfl (by decide +kernel) ⟨Nat.le_of_ble_eq_true rfl, Nat.le_of_ble_eq_true rfl⟩) rfl rfl (Nat.le_of_ble_eq_true rfl) ⟨Nat.le_of_ble_eq_true rfl, Nat.le_of_ble_eq_true rfl⟩ dX5_copy_72 (fun r13 σ14 hq => ?_)
          have h := h r13 σ14 hq
          show G K (MW L c [] [] σ14) (0, 0) [(0, .ref (L 0)), (1, .int (iZ v1)), (2, .int (iZ v2))] 75 [.int (iZ r13)]
          exact x_iret C.1 C.2.2 rfl ⟨Nat.le_of_ble_eq_true rfl, Nat.le_of_ble_eq_true rfl⟩ dX5_copy_75 h
        · have h := h.2 hc
          refine g_aload_n C.1 0 dX5_copy_45 rfl rfl ?_
          refine g_iconst C.1 (z := 2) dX5_copy_46 ?_
          obtain ⟨hp15, h⟩ := h
          refine x_callV C.1 (h_no K.l L c (upM σ 0 (fun _ => 0)) 2 hp15) (ci := 6) (q := (RX5, TX5, 17)) rfl m_recv (fun ht => cwV 1 ht gX5_copy_X5_no rfl rfl rfl (by decide +kernel) ⟨Nat.le_of_ble_eq_true rfl, Nat.le_of_ble_eq_true rfl⟩) rfl rfl (Nat.le_of_ble_eq_true rfl) ⟨Nat.le_of_ble_eq_true rfl, Nat.le_of_ble_eq_true rfl⟩ dX5_copy_47 (fun r σ9 hq => ?_)
          rw [hq.1, hq.2]
          show G K (MW L c [] [] ((u_no (upM σ 0 (fun _ => 0)) 2))) (0, 0) [(0, .ref (L 0)), (1, .int (iZ v1)), (2, .int (iZ v2))] 50 [.int (iZ 0)]
          exact x_iret C.1 C.2.2 rfl ⟨Nat.le_of_ble_eq_true rfl, Nat.le_of_ble_eq_true rfl⟩ dX5_copy_50 h
    · have h := h.2 hc
      refine g_aload_n C.1 0 dX5_copy_21 rfl rfl ?_
      refine g_iconst C.1 (z := 1) dX5_copy_22 ?_
      obtain ⟨hp16, h⟩ := h
      refine x_callV C.1 (h_no K.l L c (upM σ 0 (fun _ => 0)) 1 hp16) (ci := 6) (q := (RX5, TX5, 17)) rfl m_recv (fun ht => cwV 1 ht gX5_copy_X5_no rfl rfl rfl (by decide +kernel) ⟨Nat.le_of_ble_eq_true rfl, Nat.le_of_ble_eq_true rfl⟩) rfl rfl (Nat.le_of_ble_eq_true rfl) ⟨Nat.le_of_ble_eq_true rfl, Nat.le_of_ble_eq_true rfl⟩ dX5_copy_23 (fun r σ9 hq => ?_)
      rw [hq.1, hq.2]
      show G K (MW L c [] [] ((u_no (upM σ 0 (fun _ => 0)) 1))) (0, 0) [(0, .ref (L 0)), (1, .int (iZ v1)), (2, .int (iZ v2))] 26 [.int (iZ 0)]
      exact x_iret C.1 C.2.2 rfl ⟨Nat.le_of_ble_eq_true rfl, Nat.le_of_ble_eq_true rfl⟩ dX5_copy_26 h
def H_X5_copy (p : MS → Int → Int → Prop) (o : MS → Int → Int → Int → MS → Prop) : Prop := ∀ (l : Launch) (L : Nat → Nat) (c : Nat → ClassId) (σ : MS) (v1 v2 : Int), p σ v1 v2 → xMet l yX5_copy wsX5_copy rm_X5_copy (MW L c [] []) rkI [.ref (L 0), .int (iZ v1), .int (iZ v2)] σ (fun r σ' => o σ v1 v2 r σ')
theorem m_X5_copy {l : Launch} {L : Nat → Nat} {c : Nat → ClassId} {σ : MS} {v1 v2 : Int} {post : Int → MS → Prop} (h : ∀ K : KT, K.l = l → C_X5_copy K L c post → P_X5_copy_0 K L c σ v1 v2) : xMet l yX5_copy wsX5_copy rm_X5_copy (MW L c [] []) rkI [.ref (L 0), .int (iZ v1), .int (iZ v2)] σ post :=
  xMet.of (maxL := 3) (by decide +kernel) rfl (Nat.le_of_ble_eq_true rfl) (fun K h1 h2 h3 h4 _ => h K h1 ⟨h2, h4, h3⟩)

/-! X5_emend -/
abbrev rm_X5_emend : Room := { frames := 2, cells := 0, slots := 0, locals := 43 }
theorem inX5_emend : ∀ w ∈ wsX50, w ∈ wsX5_emend := by decide +kernel
theorem lk_X5_emend_f47 : Cond.fieldLink RX5 47 "CopyHouseModel" "thrown" "I" ∈ wsX5_emend := List.mem_of_getElem? (i := 1) (by decide +kernel)
theorem lk_X5_emend_f16 : Cond.fieldLink RX5 16 "CopyHouseModel" "length" "[I" ∈ wsX5_emend := List.mem_of_getElem? (i := 2) (by decide +kernel)
theorem lk_X5_emend_mm115 : Cond.methodLink RX5 115 Lib.Math.min.name ∈ wsX5_emend := List.mem_of_getElem? (i := 3) (by decide +kernel)
theorem lk_X5_emend_ms115 : Cond.static Lib.Math.min.name ∈ wsX5_emend := List.mem_of_getElem? (i := 4) (by decide +kernel)
theorem lk_X5_emend_mi115 : Cond.initialized "java/lang/Math" ∈ wsX5_emend := List.mem_of_getElem? (i := 5) (by decide +kernel)
theorem lk_X5_emend_mc115 : Cond.code Lib.Math.min.name Lib.Math.min.code 2 (some .int) ∈ wsX5_emend := List.mem_of_getElem? (i := 6) (by decide +kernel)
theorem lk_X5_emend_f25 : Cond.fieldLink RX5 25 "CopyHouseModel" "isThere" "[Z" ∈ wsX5_emend := List.mem_of_getElem? (i := 7) (by decide +kernel)
theorem lk_X5_emend_f13 : Cond.fieldLink RX5 13 "CopyHouseModel" "letters" "[I" ∈ wsX5_emend := List.mem_of_getElem? (i := 8) (by decide +kernel)
theorem lk_X5_emend_f35 : Cond.fieldLink RX5 35 "CopyHouseModel" "known" "[I" ∈ wsX5_emend := List.mem_of_getElem? (i := 9) (by decide +kernel)
def C_X5_emend (K : KT) (L : Nat → Nat) (c : Nat → ClassId) (post : Int → MS → Prop) : Prop := kOK K cX5_emend RX5 wsX5_emend (some .int) rm_X5_emend ∧ K.nL = 7 ∧ kQ K (MW L c [] []) rkI post rm_X5_emend
def P_X5_emend_0 (K : KT) (L : Nat → Nat) (c : Nat → ClassId) (σ : MS) (v1 v2 v3 v4 : Int) : Prop := G K (MW L c [] [] σ) (0, 0) [(0, .ref (L 0)), (1, .int (iZ v1)), (2, .int (iZ v2)), (3, .int (iZ v3)), (4, .int (iZ v4))] 0 []
def P_X5_emend_1 (K : KT) (L : Nat → Nat) (c : Nat → ClassId) (σ : MS) (v1 v2 v3 v4 v5 v6 : Int) : Prop := G K (MW L c [] [] σ) (0, 0) [(0, .ref (L 0)), (1, .int (iZ v1)), (2, .int (iZ v2)), (3, .int (iZ v3)), (4, .int (iZ v4)), (5, .int (iZ v5)), (6, .int (iZ v6))] 100 []
def P_X5_emend_2 (K : KT) (L : Nat → Nat) (c : Nat → ClassId) (σ : MS) (v1 v5 v6 : Int) : Prop := G K (MW L c [] [] σ) (0, 0) [(0, .ref (L 0)), (1, .int (iZ v1)), (5, .int (iZ v5)), (6, .int (iZ v6))] 179 []
set_option maxRecDepth 100000 in
set_option maxHeartbeats 4000000 in
theorem b_X5_emend_0 {K : KT} {L : Nat → Nat} {c : Nat → ClassId} {post : Int → MS → Prop} (C : C_X5_emend K L c post) {p_isText : MS → Int → Prop} {f_isText : MS → Int → Bool} (h_isText : H_X5_isText p_isText f_isText) {p_no : MS → Int → Prop} {u_no : MS → Int → MS} (h_no : H_X5_no p_no u_no) {p_isIn : MS → Int → Int → Int → Prop} {f_isIn : MS → Int → Int → Int → Bool} (h_isIn : H_X5_isIn p_isIn f_isIn) {σ : MS} {v1 v2 v3 v4 : Int} (h : (p_isText (upM σ 0 (fun _ => 0)) v1) ∧ ((¬ (f_isText (upM σ 0 (fun _ => 0)) v1 = true) → (p_no (upM σ 0 (fun _ => 0)) 1) ∧ post 0 ((u_no (upM σ 0 (fun _ => 0)) 1))) ∧ (f_isText (upM σ 0 (fun _ => 0)) v1 = true → (p_isText (upM σ 0 (fun _ => 0)) v2) ∧ ((f_isText (upM σ 0 (fun _ => 0)) v2 = true → (p_isIn (upM σ 0 (fun _ => 0)) v4 1 120) ∧ ((¬ (f_isIn (upM σ 0 (fun _ => 0)) v4 1 120 = true) → (p_no (upM σ 0 (fun _ => 0)) 2) ∧ post 0 ((u_no (upM σ 0 (fun _ => 0)) 2))) ∧ (f_isIn (upM σ 0 (fun _ => 0)) v4 1 120 = true → (-2147483648 ≤ v3 ∧ v3 < 2147483648) ∧ ((v3 < 0 → (p_no (upM σ 0 (fun _ => 0)) 2) ∧ post 0 ((u_no (upM σ 0 (fun _ => 0)) 2))) ∧ (¬ v3 < 0 → (0 ≤ v1 ∧ v1 < 24) ∧ (0 ≤ v2 ∧ v2 < 24) ∧ (-2147483648 ≤ ((σ 5) v1) ∧ ((σ 5) v1) < 2147483648) ∧ (-2147483648 ≤ ((σ 5) v2) ∧ ((σ 5) v2) < 2147483648) ∧ (-2147483648 ≤ ((if ((σ 5) v2) < ((σ 5) v1) then ((σ 5) v2) else ((σ 5) v1)) - v4) ∧ ((if ((σ 5) v2) < ((σ 5) v1) then ((σ 5) v2) else ((σ 5) v1)) - v4) < 2147483648) ∧ ((v3 ≤ ((if ((σ 5) v2) < ((σ 5) v1) then ((σ 5) v2) else ((σ 5) v1)) - v4) → (-2147483648 ≤ ((σ 8) v1) ∧ ((σ 8) v1) < 2147483648) ∧ ((((σ 8) v1) = 0 → (p_no (upM σ 0 (fun _ => 0)) 3) ∧ post 0 ((u_no (upM σ 0 (fun _ => 0)) 3))) ∧ (¬ ((σ 8) v1) = 0 → (-2147483648 ≤ ((σ 8) v2) ∧ ((σ 8) v2) < 2147483648) ∧ ((¬ ((σ 8) v2) = 0 → P_X5_emend_1 K L c (upM σ 0 (fun _ => 0)) v1 v2 v3 v4 0 v3) ∧ (((σ 8) v2) = 0 → (p_no (upM σ 0 (fun _ => 0)) 3) ∧ post 0 ((u_no (upM σ 0 (fun _ => 0)) 3))))))) ∧ (¬ v3 ≤ ((if ((σ 5) v2) < ((σ 5) v1) then ((σ 5) v2) else ((σ 5) v1)) - v4) → (p_no (upM σ 0 (fun _ => 0)) 2) ∧ post 0 ((u_no (upM σ 0 (fun _ => 0)) 2))))))))) ∧ (¬ (f_isText (upM σ 0 (fun _ => 0)) v2 = true) → (p_no (upM σ 0 (fun _ => 0)) 1) ∧ post 0 ((u_no (upM σ 0 (fun _ => 0)) 1))))))) : P_X5_emend_0 K L c σ v1 v2 v3 v4 := by
  refine g_aload_n C.1 0 dX5_emend_0 rfl rfl ?_
  refine g_iconst C.1 (z := 0) dX5_emend_1 ?_
  refine m_put C.1 inX5_emend 0 (by decide) (z := 0) (σ' := upM σ 0 (fun _ => 0)) rfl lk_X5_emend_f47 rfl rfl rfl dX5_emend_2 ?_
  refine g_aload_n C.1 0 dX5_emend_5 rfl rfl ?_
  refine g_iload_n C.1 1 dX5_emend_6 rfl rfl ?_
  obtain ⟨hp1, h⟩ := h
  refine x_callV C.1 (h_isText K.l L c (upM σ 0 (fun _ => 0)) v1 hp1) (ci := 6) (q := (RX5, TX5, 17)) rfl m_recv (fun ht => cwV 1 ht gX5_emend_X5_isText rfl rfl rfl (by decide +kernel) ⟨Nat.le_of_ble_eq_true rfl, Nat.le_of_ble_eq_true rfl⟩) rfl rfl (Nat.le_of_ble_eq_true rfl) ⟨Nat.le_of_ble_eq_true rfl, Nat.le_of_ble_eq_true rfl⟩ dX5_emend_7 (fun r σ9 hq => ?_)
  rw [hq.1, hq.2]
  show G K (MW L c [] [] (upM σ 0 (fun _ => 0))) (0, 0) [(0, .ref (L 0)), (1, .int (iZ v1)), (2, .int (iZ v2)), (3, .int (iZ v3)), (4, .int (iZ v4))] 10 [.int (iZ (if f_isText (upM σ 0 (fun _ => 0)) v1 = true then 1 else 0))]
  refine g_ifb_eq C.1 (tgt := 21) dX5_emend_10 (by decide) (fun hc => ?_) (fun hc => ?_)
  · have h := h.1 hc
    refine g_aload_n C.1 0 dX5_emend_21 rfl rfl ?_
    refine g_iconst C.1 (z := 1) dX5_emend_22 ?_
    obtain ⟨hp2, h⟩ := h
    refine x_callV C.1 (h_no K.l L c (upM σ 0 (fun _ => 0)) 1 hp2) (ci := 6) (q := (RX5, TX5, 17)) rfl m_recv (fun ht => cwV 1 ht gX5_emend_X5_no rfl rfl rfl (by decide +kernel) ⟨Nat.le_of_ble_eq_true rfl, Nat.le_of_ble_eq_true rfl⟩) rfl rfl (Nat.le_of_ble_eq_true rfl) ⟨Nat.le_of_ble_eq_true rfl, Nat.le_of_ble_eq_true rfl⟩ dX5_emend_23 (fun r σ9 hq => ?_)
    rw [hq.1, hq.2]
    show G K (MW L c [] [] ((u_no (upM σ 0 (fun _ => 0)) 1))) (0, 0) [(0, .ref (L 0)), (1, .int (iZ v1)), (2, .int (iZ v2)), (3, .int (iZ v3)), (4, .int (iZ v4))] 26 [.int (iZ 0)]
    exact x_iret C.1 C.2.2 rfl ⟨Nat.le_of_ble_eq_true rfl, Nat.le_of_ble_eq_true rfl⟩ dX5_emend_26 h
  · have h := h.2 hc
    refine g_aload_n C.1 0 dX5_emend_13 rfl rfl ?_
    refine g_iload_n C.1 2 dX5_emend_14 rfl rfl ?_
    obtain ⟨hp3, h⟩ := h
    refine x_callV C.1 (h_isText K.l L c (upM σ 0 (fun _ => 0)) v2 hp3) (ci := 6) (q := (RX5, TX5, 17)) rfl m_recv (fun ht => cwV 1 ht gX5_emend_X5_isText rfl rfl rfl (by decide +kernel) ⟨Nat.le_of_ble_eq_true rfl, Nat.le_of_ble_eq_true rfl⟩) rfl rfl (Nat.le_of_ble_eq_true rfl) ⟨Nat.le_of_ble_eq_true rfl, Nat.le_of_ble_eq_true rfl⟩ dX5_emend_15 (fun r σ9 hq => ?_)
    rw [hq.1, hq.2]
    show G K (MW L c [] [] (upM σ 0 (fun _ => 0))) (0, 0) [(0, .ref (L 0)), (1, .int (iZ v1)), (2, .int (iZ v2)), (3, .int (iZ v3)), (4, .int (iZ v4))] 18 [.int (iZ (if f_isText (upM σ 0 (fun _ => 0)) v2 = true then 1 else 0))]
    refine g_ifb_ne C.1 (tgt := 27) dX5_emend_18 (by decide) (fun hc => ?_) (fun hc => ?_)
    · have h := h.1 hc
      refine g_iload C.1 4 dX5_emend_27 rfl ?_
      refine g_iconst C.1 (z := 1) dX5_emend_29 ?_
      refine g_bipush C.1 (z := 120) dX5_emend_30 (by decide) ?_
      obtain ⟨hp4, h⟩ := h
      refine x_callS C.1 (h_isIn K.l L c (upM σ 0 (fun _ => 0)) v4 1 120 hp4) (fun ht => va_cwS 3 ht gX5_emend_X5_isIn rfl rfl rfl (by decide +kernel) ⟨Nat.le_of_ble_eq_true rfl, Nat.le_of_ble_eq_true rfl⟩) rfl rfl (Nat.le_of_ble_eq_true rfl) ⟨Nat.le_of_ble_eq_true rfl, Nat.le_of_ble_eq_true rfl⟩ dX5_emend_32 (fun r σ9 hq => ?_)
      rw [hq.1, hq.2]
      show G K (MW L c [] [] (upM σ 0 (fun _ => 0))) (0, 0) [(0, .ref (L 0)), (1, .int (iZ v1)), (2, .int (iZ v2)), (3, .int (iZ v3)), (4, .int (iZ v4))] 35 [.int (iZ (if f_isIn (upM σ 0 (fun _ => 0)) v4 1 120 = true then 1 else 0))]
      refine g_ifb_eq C.1 (tgt := 64) dX5_emend_35 (by decide) (fun hc => ?_) (fun hc => ?_)
      · have h := h.1 hc
        refine g_aload_n C.1 0 dX5_emend_64 rfl rfl ?_
        refine g_iconst C.1 (z := 2) dX5_emend_65 ?_
        obtain ⟨hp5, h⟩ := h
        refine x_callV C.1 (h_no K.l L c (upM σ 0 (fun _ => 0)) 2 hp5) (ci := 6) (q := (RX5, TX5, 17)) rfl m_recv (fun ht => cwV 1 ht gX5_emend_X5_no rfl rfl rfl (by decide +kernel) ⟨Nat.le_of_ble_eq_true rfl, Nat.le_of_ble_eq_true rfl⟩) rfl rfl (Nat.le_of_ble_eq_true rfl) ⟨Nat.le_of_ble_eq_true rfl, Nat.le_of_ble_eq_true rfl⟩ dX5_emend_66 (fun r σ9 hq => ?_)
        rw [hq.1, hq.2]
        show G K (MW L c [] [] ((u_no (upM σ 0 (fun _ => 0)) 2))) (0, 0) [(0, .ref (L 0)), (1, .int (iZ v1)), (2, .int (iZ v2)), (3, .int (iZ v3)), (4, .int (iZ v4))] 69 [.int (iZ 0)]
        exact x_iret C.1 C.2.2 rfl ⟨Nat.le_of_ble_eq_true rfl, Nat.le_of_ble_eq_true rfl⟩ dX5_emend_69 h
      · have h := h.2 hc
        refine g_iload_n C.1 3 dX5_emend_38 rfl rfl ?_
        obtain ⟨hc6, h⟩ := h
        refine g_if_lt C.1 (tgt := 64) dX5_emend_39 (by decide) hc6 (fun hc => ?_) (fun hc => ?_)
        · have h := h.1 hc
          refine g_aload_n C.1 0 dX5_emend_64 rfl rfl ?_
          refine g_iconst C.1 (z := 2) dX5_emend_65 ?_
          obtain ⟨hp7, h⟩ := h
          refine x_callV C.1 (h_no K.l L c (upM σ 0 (fun _ => 0)) 2 hp7) (ci := 6) (q := (RX5, TX5, 17)) rfl m_recv (fun ht => cwV 1 ht gX5_emend_X5_no rfl rfl rfl (by decide +kernel) ⟨Nat.le_of_ble_eq_true rfl, Nat.le_of_ble_eq_true rfl⟩) rfl rfl (Nat.le_of_ble_eq_true rfl) ⟨Nat.le_of_ble_eq_true rfl, Nat.le_of_ble_eq_true rfl⟩ dX5_emend_66 (fun r σ9 hq => ?_)
          rw [hq.1, hq.2]
          show G K (MW L c [] [] ((u_no (upM σ 0 (fun _ => 0)) 2))) (0, 0) [(0, .ref (L 0)), (1, .int (iZ v1)), (2, .int (iZ v2)), (3, .int (iZ v3)), (4, .int (iZ v4))] 69 [.int (iZ 0)]
          exact x_iret C.1 C.2.2 rfl ⟨Nat.le_of_ble_eq_true rfl, Nat.le_of_ble_eq_true rfl⟩ dX5_emend_69 h
        · have h := h.2 hc
          refine g_iload_n C.1 3 dX5_emend_42 rfl rfl ?_
          refine g_aload_n C.1 0 dX5_emend_43 rfl rfl ?_
          refine m_get C.1 inX5_emend 5 (by decide) (v := .ref (L 5)) rfl lk_X5_emend_f16 rfl dX5_emend_44 ?_
          refine g_iload_n C.1 1 dX5_emend_47 rfl rfl ?_
          obtain ⟨hi8, h⟩ := h
          refine m_ald C.1 3 2 (N := 24) (f := (σ 5)) (e := v1) rfl rfl (by decide) hi8 dX5_emend_48 ?_
          refine g_aload_n C.1 0 dX5_emend_49 rfl rfl ?_
          refine m_get C.1 inX5_emend 5 (by decide) (v := .ref (L 5)) rfl lk_X5_emend_f16 rfl dX5_emend_50 ?_
          refine g_iload_n C.1 2 dX5_emend_53 rfl rfl ?_
          obtain ⟨hi9, h⟩ := h
          refine m_ald C.1 3 2 (N := 24) (f := (σ 5)) (e := v2) rfl rfl (by decide) hi9 dX5_emend_54 ?_
          obtain ⟨hc10, h⟩ := h
          obtain ⟨hc11, h⟩ := h
          refine g_min C.1 (x := (σ 5) v1) (y := (σ 5) v2) hc10 hc11 lk_X5_emend_mm115 lk_X5_emend_ms115 lk_X5_emend_mi115 lk_X5_emend_mc115 (Nat.le_of_ble_eq_true rfl) (Nat.le_of_ble_eq_true rfl) ⟨Nat.le_of_ble_eq_true rfl, Nat.le_of_ble_eq_true rfl⟩ dX5_emend_55 ?_
          refine g_iload C.1 4 dX5_emend_58 rfl ?_
          refine g_isub C.1 (x := if ((σ 5) v2) < ((σ 5) v1) then ((σ 5) v2) else ((σ 5) v1)) (y := v4) dX5_emend_60 ?_
          obtain ⟨hc12, h⟩ := h
          refine g_icmp_le C.1 (tgt := 70) dX5_emend_61 (by decide) hc6 hc12 (fun hc => ?_) (fun hc => ?_)
          · have h := h.1 hc
            refine g_aload_n C.1 0 dX5_emend_70 rfl rfl ?_
            refine m_get C.1 inX5_emend 8 (by decide) (v := .ref (L 8)) rfl lk_X5_emend_f25 rfl dX5_emend_71 ?_
            refine g_iload_n C.1 1 dX5_emend_74 rfl rfl ?_
            refine m_zald C.1 6 5 (N := 24) (f := (σ 8)) (e := v1) rfl rfl (by decide) hi8 dX5_emend_75 ?_
            obtain ⟨hc13, h⟩ := h
            refine g_if_eq C.1 (tgt := 88) dX5_emend_76 (by decide) hc13 (fun hc => ?_) (fun hc => ?_)
            · have h := h.1 hc
              refine g_aload_n C.1 0 dX5_emend_88 rfl rfl ?_
              refine g_iconst C.1 (z := 3) dX5_emend_89 ?_
              obtain ⟨hp14, h⟩ := h
              refine x_callV C.1 (h_no K.l L c (upM σ 0 (fun _ => 0)) 3 hp14) (ci := 6) (q := (RX5, TX5, 17)) rfl m_recv (fun ht => cwV 1 ht gX5_emend_X5_no rfl rfl rfl (by decide +kernel) ⟨Nat.le_of_ble_eq_true rfl, Nat.le_of_ble_eq_true rfl⟩) rfl rfl (Nat.le_of_ble_eq_true rfl) ⟨Nat.le_of_ble_eq_true rfl, Nat.le_of_ble_eq_true rfl⟩ dX5_emend_90 (fun r σ9 hq => ?_)
              rw [hq.1, hq.2]
              show G K (MW L c [] [] ((u_no (upM σ 0 (fun _ => 0)) 3))) (0, 0) [(0, .ref (L 0)), (1, .int (iZ v1)), (2, .int (iZ v2)), (3, .int (iZ v3)), (4, .int (iZ v4))] 93 [.int (iZ 0)]
              exact x_iret C.1 C.2.2 rfl ⟨Nat.le_of_ble_eq_true rfl, Nat.le_of_ble_eq_true rfl⟩ dX5_emend_93 h
            · have h := h.2 hc
              refine g_aload_n C.1 0 dX5_emend_79 rfl rfl ?_
              refine m_get C.1 inX5_emend 8 (by decide) (v := .ref (L 8)) rfl lk_X5_emend_f25 rfl dX5_emend_80 ?_
              refine g_iload_n C.1 2 dX5_emend_83 rfl rfl ?_
              refine m_zald C.1 6 5 (N := 24) (f := (σ 8)) (e := v2) rfl rfl (by decide) hi9 dX5_emend_84 ?_
              obtain ⟨hc15, h⟩ := h
              refine g_if_ne C.1 (tgt := 94) dX5_emend_85 (by decide) hc15 (fun hc => ?_) (fun hc => ?_)
              · have h := h.1 hc
                refine g_iconst C.1 (z := 0) dX5_emend_94 ?_
                refine g_istore C.1 (loc' := [(5, .int (iZ 0)), (0, .ref (L 0)), (1, .int (iZ v1)), (2, .int (iZ v2)), (3, .int (iZ v3)), (4, .int (iZ v4))]) C.2.1 dX5_emend_95 (by decide) rfl ?_
                refine g_iload_n C.1 4 dX5_emend_97 rfl rfl ?_
                refine g_istore C.1 (loc' := [(6, .int (iZ v3)), (5, .int (iZ 0)), (0, .ref (L 0)), (1, .int (iZ v1)), (2, .int (iZ v2)), (3, .int (iZ v3)), (4, .int (iZ v4))]) C.2.1 dX5_emend_98 (by decide) rfl ?_
                exact g_sub [2, 3, 4, 5, 6, 1, 0] rfl h
              · have h := h.2 hc
                refine g_aload_n C.1 0 dX5_emend_88 rfl rfl ?_
                refine g_iconst C.1 (z := 3) dX5_emend_89 ?_
                obtain ⟨hp16, h⟩ := h
                refine x_callV C.1 (h_no K.l L c (upM σ 0 (fun _ => 0)) 3 hp16) (ci := 6) (q := (RX5, TX5, 17)) rfl m_recv (fun ht => cwV 1 ht gX5_emend_X5_no rfl rfl rfl (by decide +kernel) ⟨Nat.le_of_ble_eq_true rfl, Nat.le_of_ble_eq_true rfl⟩) rfl rfl (Nat.le_of_ble_eq_true rfl) ⟨Nat.le_of_ble_eq_true rfl, Nat.le_of_ble_eq_true rfl⟩ dX5_emend_90 (fun r σ9 hq => ?_)
                rw [hq.1, hq.2]
                show G K (MW L c [] [] ((u_no (upM σ 0 (fun _ => 0)) 3))) (0, 0) [(0, .ref (L 0)), (1, .int (iZ v1)), (2, .int (iZ v2)), (3, .int (iZ v3)), (4, .int (iZ v4))] 93 [.int (iZ 0)]
                exact x_iret C.1 C.2.2 rfl ⟨Nat.le_of_ble_eq_true rfl, Nat.le_of_ble_eq_true rfl⟩ dX5_emend_93 h
          · have h := h.2 hc
            refine g_aload_n C.1 0 dX5_emend_64 rfl rfl ?_
            refine g_iconst C.1 (z := 2) dX5_emend_65 ?_
            obtain ⟨hp17, h⟩ := h
            refine x_callV C.1 (h_no K.l L c (upM σ 0 (fun _ => 0)) 2 hp17) (ci := 6) (q := (RX5, TX5, 17)) rfl m_recv (fun ht => cwV 1 ht gX5_emend_X5_no rfl rfl rfl (by decide +kernel) ⟨Nat.le_of_ble_eq_true rfl, Nat.le_of_ble_eq_true rfl⟩) rfl rfl (Nat.le_of_ble_eq_true rfl) ⟨Nat.le_of_ble_eq_true rfl, Nat.le_of_ble_eq_true rfl⟩ dX5_emend_66 (fun r σ9 hq => ?_)
            rw [hq.1, hq.2]
            show G K (MW L c [] [] ((u_no (upM σ 0 (fun _ => 0)) 2))) (0, 0) [(0, .ref (L 0)), (1, .int (iZ v1)), (2, .int (iZ v2)), (3, .int (iZ v3)), (4, .int (iZ v4))] 69 [.int (iZ 0)]
            exact x_iret C.1 C.2.2 rfl ⟨Nat.le_of_ble_eq_true rfl, Nat.le_of_ble_eq_true rfl⟩ dX5_emend_69 h
    · have h := h.2 hc
      refine g_aload_n C.1 0 dX5_emend_21 rfl rfl ?_
      refine g_iconst C.1 (z := 1) dX5_emend_22 ?_
      obtain ⟨hp18, h⟩ := h
      refine x_callV C.1 (h_no K.l L c (upM σ 0 (fun _ => 0)) 1 hp18) (ci := 6) (q := (RX5, TX5, 17)) rfl m_recv (fun ht => cwV 1 ht gX5_emend_X5_no rfl rfl rfl (by decide +kernel) ⟨Nat.le_of_ble_eq_true rfl, Nat.le_of_ble_eq_true rfl⟩) rfl rfl (Nat.le_of_ble_eq_true rfl) ⟨Nat.le_of_ble_eq_true rfl, Nat.le_of_ble_eq_true rfl⟩ dX5_emend_23 (fun r σ9 hq => ?_)
      rw [hq.1, hq.2]
      show G K (MW L c [] [] ((u_no (upM σ 0 (fun _ => 0)) 1))) (0, 0) [(0, .ref (L 0)), (1, .int (iZ v1)), (2, .int (iZ v2)), (3, .int (iZ v3)), (4, .int (iZ v4))] 26 [.int (iZ 0)]
      exact x_iret C.1 C.2.2 rfl ⟨Nat.le_of_ble_eq_true rfl, Nat.le_of_ble_eq_true rfl⟩ dX5_emend_26 h
set_option maxRecDepth 100000 in
set_option maxHeartbeats 4000000 in
theorem b_X5_emend_1 {K : KT} {L : Nat → Nat} {c : Nat → ClassId} {post : Int → MS → Prop} (C : C_X5_emend K L c post) {σ : MS} {v1 v2 v3 v4 v5 v6 : Int} (h : (-2147483648 ≤ v6 ∧ v6 < 2147483648) ∧ (-2147483648 ≤ (v3 + v4) ∧ (v3 + v4) < 2147483648) ∧ (((v3 + v4) ≤ v6 → P_X5_emend_2 K L c σ v1 v5 0) ∧ (¬ (v3 + v4) ≤ v6 → (0 ≤ ((120 * v1) + v6) ∧ ((120 * v1) + v6) < 2880) ∧ (0 ≤ ((120 * v2) + v6) ∧ ((120 * v2) + v6) < 2880) ∧ (-2147483648 ≤ ((σ 4) ((120 * v1) + v6)) ∧ ((σ 4) ((120 * v1) + v6)) < 2147483648) ∧ (-2147483648 ≤ ((σ 4) ((120 * v2) + v6)) ∧ ((σ 4) ((120 * v2) + v6)) < 2147483648) ∧ P_X5_emend_1 K L c (upM σ 4 (upI (σ 4) ((120 * v1) + v6) ((σ 4) ((120 * v2) + v6)))) v1 v2 v3 v4 (v5 + ((if ¬ ((σ 4) ((120 * v1) + v6)) = ((σ 4) ((120 * v2) + v6)) then 1 else 0))) (v6 + 1)))) : P_X5_emend_1 K L c σ v1 v2 v3 v4 v5 v6 := by
  refine g_iload C.1 6 dX5_emend_100 rfl ?_
  refine g_iload_n C.1 3 dX5_emend_102 rfl rfl ?_
  refine g_iload C.1 4 dX5_emend_103 rfl ?_
  refine g_iadd C.1 (x := v3) (y := v4) dX5_emend_105 ?_
  obtain ⟨hc1, h⟩ := h
  obtain ⟨hc2, h⟩ := h
  refine g_icmp_ge C.1 (tgt := 176) dX5_emend_106 (by decide) hc1 hc2 (fun hc => ?_) (fun hc => ?_)
  · have h := h.1 hc
    refine g_iconst C.1 (z := 0) dX5_emend_176 ?_
    refine g_istore C.1 (loc' := [(6, .int (iZ 0)), (0, .ref (L 0)), (1, .int (iZ v1)), (2, .int (iZ v2)), (3, .int (iZ v3)), (4, .int (iZ v4)), (5, .int (iZ v5))]) C.2.1 dX5_emend_177 (by decide) rfl ?_
    exact g_sub [1, 2, 6, 0] rfl h
  · have h := h.2 hc
    refine g_iload C.1 5 dX5_emend_109 rfl ?_
    refine g_aload_n C.1 0 dX5_emend_111 rfl rfl ?_
    refine m_get C.1 inX5_emend 4 (by decide) (v := .ref (L 4)) rfl lk_X5_emend_f13 rfl dX5_emend_112 ?_
    refine g_bipush C.1 (z := 120) dX5_emend_115 (by decide) ?_
    refine g_iload_n C.1 1 dX5_emend_117 rfl rfl ?_
    refine g_imul C.1 (x := 120) (y := v1) dX5_emend_118 ?_
    refine g_iload C.1 6 dX5_emend_119 rfl ?_
    refine g_iadd C.1 (x := 120 * v1) (y := v6) dX5_emend_121 ?_
    obtain ⟨hi3, h⟩ := h
    refine m_ald C.1 2 1 (N := 2880) (f := (σ 4)) (e := ((120 * v1) + v6)) rfl rfl (by decide) hi3 dX5_emend_122 ?_
    refine g_aload_n C.1 0 dX5_emend_123 rfl rfl ?_
    refine m_get C.1 inX5_emend 4 (by decide) (v := .ref (L 4)) rfl lk_X5_emend_f13 rfl dX5_emend_124 ?_
    refine g_bipush C.1 (z := 120) dX5_emend_127 (by decide) ?_
    refine g_iload_n C.1 2 dX5_emend_129 rfl rfl ?_
    refine g_imul C.1 (x := 120) (y := v2) dX5_emend_130 ?_
    refine g_iload C.1 6 dX5_emend_131 rfl ?_
    refine g_iadd C.1 (x := 120 * v2) (y := v6) dX5_emend_133 ?_
    obtain ⟨hi4, h⟩ := h
    refine m_ald C.1 2 1 (N := 2880) (f := (σ 4)) (e := ((120 * v2) + v6)) rfl rfl (by decide) hi4 dX5_emend_134 ?_
    obtain ⟨hc5, h⟩ := h
    obtain ⟨hc6, h⟩ := h
    suffices hk : G K (MW L c [] [] σ) (0, 0) [(0, .ref (L 0)), (1, .int (iZ v1)), (2, .int (iZ v2)), (3, .int (iZ v3)), (4, .int (iZ v4)), (5, .int (iZ v5)), (6, .int (iZ v6))] 143 [.int (iZ (if ¬ ((σ 4) ((120 * v1) + v6)) = ((σ 4) ((120 * v2) + v6)) then 1 else 0)), .int (iZ v5)] by
      refine g_icmp_eq C.1 (tgt := 142) dX5_emend_135 (by decide) hc5 hc6 (fun hc => ?_) (fun hc => ?_)
      · refine g_iconst C.1 (z := 0) dX5_emend_142 ?_
        rw [if_neg (fun q9 => q9 hc)] at hk
        exact hk
      · refine g_iconst C.1 (z := 1) dX5_emend_138 ?_
        refine g_goto C.1 (tgt := 143) dX5_emend_139 (by decide) ?_
        rw [if_pos hc] at hk
        exact hk
    refine g_iadd C.1 (x := v5) (y := (if ¬ ((σ 4) ((120 * v1) + v6)) = ((σ 4) ((120 * v2) + v6)) then 1 else 0)) dX5_emend_143 ?_
    refine g_istore C.1 (loc' := [(5, .int (iZ (v5 + ((if ¬ ((σ 4) ((120 * v1) + v6)) = ((σ 4) ((120 * v2) + v6)) then 1 else 0))))), (0, .ref (L 0)), (1, .int (iZ v1)), (2, .int (iZ v2)), (3, .int (iZ v3)), (4, .int (iZ v4)), (6, .int (iZ v6))]) C.2.1 dX5_emend_144 (by decide) rfl ?_
    refine g_aload_n C.1 1 dX5_emend_146 rfl rfl ?_
    refine m_get C.1 inX5_emend 4 (by decide) (v := .ref (L 4)) rfl lk_X5_emend_f13 rfl dX5_emend_147 ?_
    refine g_bipush C.1 (z := 120) dX5_emend_150 (by decide) ?_
    refine g_iload_n C.1 2 dX5_emend_152 rfl rfl ?_
    refine g_imul C.1 (x := 120) (y := v1) dX5_emend_153 ?_
    refine g_iload C.1 6 dX5_emend_154 rfl ?_
    refine g_iadd C.1 (x := 120 * v1) (y := v6) dX5_emend_156 ?_
    refine g_aload_n C.1 1 dX5_emend_157 rfl rfl ?_
    refine m_get C.1 inX5_emend 4 (by decide) (v := .ref (L 4)) rfl lk_X5_emend_f13 rfl dX5_emend_158 ?_
    refine g_bipush C.1 (z := 120) dX5_emend_161 (by decide) ?_
    refine g_iload_n C.1 3 dX5_emend_163 rfl rfl ?_
    refine g_imul C.1 (x := 120) (y := v2) dX5_emend_164 ?_
    refine g_iload C.1 6 dX5_emend_165 rfl ?_
    refine g_iadd C.1 (x := 120 * v2) (y := v6) dX5_emend_167 ?_
    refine m_ald C.1 2 1 (N := 2880) (f := (σ 4)) (e := ((120 * v2) + v6)) rfl rfl (by decide) hi4 dX5_emend_168 ?_
    refine m_ast C.1 2 1 (N := 2880) (f := (σ 4)) (e := ((120 * v1) + v6)) (z := (σ 4) ((120 * v2) + v6)) (X' := []) (σ' := upM σ 4 (upI (σ 4) ((120 * v1) + v6) ((σ 4) ((120 * v2) + v6)))) rfl rfl rfl (by decide) hi3 dX5_emend_169 ?_
    refine g_iinc C.1 (z := v6) (w := 1) (loc' := [(6, .int (iZ (v6 + 1))), (5, .int (iZ (v5 + ((if ¬ ((σ 4) ((120 * v1) + v6)) = ((σ 4) ((120 * v2) + v6)) then 1 else 0))))), (0, .ref (L 0)), (1, .int (iZ v1)), (2, .int (iZ v2)), (3, .int (iZ v3)), (4, .int (iZ v4))]) 6 C.2.1 dX5_emend_170 rfl (by decide) rfl ?_
    refine g_goto C.1 (tgt := 100) dX5_emend_173 (by decide) ?_
    exact g_sub [2, 3, 4, 5, 6, 1, 0] rfl h
set_option maxRecDepth 100000 in
set_option maxHeartbeats 4000000 in
theorem b_X5_emend_2 {K : KT} {L : Nat → Nat} {c : Nat → ClassId} {post : Int → MS → Prop} (C : C_X5_emend K L c post) {σ : MS} {v1 v5 v6 : Int} (h : (-2147483648 ≤ v6 ∧ v6 < 2147483648) ∧ ((24 ≤ v6 → post v5 σ) ∧ (¬ 24 ≤ v6 → (0 ≤ ((24 * v1) + v6) ∧ ((24 * v1) + v6) < 576) ∧ (0 ≤ ((24 * v6) + v1) ∧ ((24 * v6) + v1) < 576) ∧ P_X5_emend_2 K L c (upM σ 12 (upI (upI (σ 12) ((24 * v1) + v6) ((-1))) ((24 * v6) + v1) ((-1)))) v1 v5 (v6 + 1)))) : P_X5_emend_2 K L c σ v1 v5 v6 := by
  refine g_iload C.1 3 dX5_emend_179 rfl ?_
  refine g_bipush C.1 (z := 24) dX5_emend_181 (by decide) ?_
  obtain ⟨hc1, h⟩ := h
  refine g_icmp_ge C.1 (tgt := 218) dX5_emend_183 (by decide) hc1 (by decide) (fun hc => ?_) (fun hc => ?_)
  · have h := h.1 hc
    refine g_iload C.1 2 dX5_emend_218 rfl ?_
    exact x_iret C.1 C.2.2 rfl ⟨Nat.le_of_ble_eq_true rfl, Nat.le_of_ble_eq_true rfl⟩ dX5_emend_220 h
  · have h := h.2 hc
    refine g_aload_n C.1 0 dX5_emend_186 rfl rfl ?_
    refine m_get C.1 inX5_emend 12 (by decide) (v := .ref (L 12)) rfl lk_X5_emend_f35 rfl dX5_emend_187 ?_
    refine g_bipush C.1 (z := 24) dX5_emend_190 (by decide) ?_
    refine g_iload_n C.1 1 dX5_emend_192 rfl rfl ?_
    refine g_imul C.1 (x := 24) (y := v1) dX5_emend_193 ?_
    refine g_iload C.1 3 dX5_emend_194 rfl ?_
    refine g_iadd C.1 (x := 24 * v1) (y := v6) dX5_emend_196 ?_
    refine g_iconst C.1 (z := (-1)) dX5_emend_197 ?_
    obtain ⟨hi2, h⟩ := h
    refine m_ast C.1 9 8 (N := 576) (f := (σ 12)) (e := ((24 * v1) + v6)) (z := (-1)) (X' := []) (σ' := upM σ 12 (upI (σ 12) ((24 * v1) + v6) ((-1)))) rfl rfl rfl (by decide) hi2 dX5_emend_198 ?_
    refine g_aload_n C.1 0 dX5_emend_199 rfl rfl ?_
    refine m_get C.1 inX5_emend 12 (by decide) (v := .ref (L 12)) rfl lk_X5_emend_f35 rfl dX5_emend_200 ?_
    refine g_bipush C.1 (z := 24) dX5_emend_203 (by decide) ?_
    refine g_iload C.1 3 dX5_emend_205 rfl ?_
    refine g_imul C.1 (x := 24) (y := v6) dX5_emend_207 ?_
    refine g_iload_n C.1 1 dX5_emend_208 rfl rfl ?_
    refine g_iadd C.1 (x := 24 * v6) (y := v1) dX5_emend_209 ?_
    refine g_iconst C.1 (z := (-1)) dX5_emend_210 ?_
    obtain ⟨hi3, h⟩ := h
    refine m_ast C.1 9 8 (N := 576) (f := (upI (σ 12) ((24 * v1) + v6) ((-1)))) (e := ((24 * v6) + v1)) (z := (-1)) (X' := []) (σ' := upM σ 12 (upI (upI (σ 12) ((24 * v1) + v6) ((-1))) ((24 * v6) + v1) ((-1)))) rfl rfl rfl (by decide) hi3 dX5_emend_211 ?_
    refine g_iinc C.1 (z := v6) (w := 1) (loc' := [(6, .int (iZ (v6 + 1))), (0, .ref (L 0)), (1, .int (iZ v1)), (5, .int (iZ v5))]) 3 C.2.1 dX5_emend_212 rfl (by decide) rfl ?_
    refine g_goto C.1 (tgt := 179) dX5_emend_215 (by decide) ?_
    exact g_sub [1, 2, 3, 0] rfl h
def H_X5_emend (p : MS → Int → Int → Int → Int → Prop) (o : MS → Int → Int → Int → Int → Int → MS → Prop) : Prop := ∀ (l : Launch) (L : Nat → Nat) (c : Nat → ClassId) (σ : MS) (v1 v2 v3 v4 : Int), p σ v1 v2 v3 v4 → xMet l yX5_emend wsX5_emend rm_X5_emend (MW L c [] []) rkI [.ref (L 0), .int (iZ v1), .int (iZ v2), .int (iZ v3), .int (iZ v4)] σ (fun r σ' => o σ v1 v2 v3 v4 r σ')
theorem m_X5_emend {l : Launch} {L : Nat → Nat} {c : Nat → ClassId} {σ : MS} {v1 v2 v3 v4 : Int} {post : Int → MS → Prop} (h : ∀ K : KT, K.l = l → C_X5_emend K L c post → P_X5_emend_0 K L c σ v1 v2 v3 v4) : xMet l yX5_emend wsX5_emend rm_X5_emend (MW L c [] []) rkI [.ref (L 0), .int (iZ v1), .int (iZ v2), .int (iZ v3), .int (iZ v4)] σ post :=
  xMet.of (maxL := 7) (by decide +kernel) rfl (Nat.le_of_ble_eq_true rfl) (fun K h1 h2 h3 h4 _ => h K h1 ⟨h2, h4, h3⟩)

/-! X5_there -/
abbrev rm_X5_there : Room := { frames := 0, cells := 0, slots := 0, locals := 0 }
theorem inX5_there : ∀ w ∈ wsX50, w ∈ wsX5_there := by decide +kernel
theorem lk_X5_there_f51 : Cond.fieldLink RX5 51 "CopyHouseModel" "texts" "I" ∈ wsX5_there := List.mem_of_getElem? (i := 1) (by decide +kernel)
theorem lk_X5_there_f25 : Cond.fieldLink RX5 25 "CopyHouseModel" "isThere" "[Z" ∈ wsX5_there := List.mem_of_getElem? (i := 2) (by decide +kernel)
def C_X5_there (K : KT) (L : Nat → Nat) (c : Nat → ClassId) (post : Int → MS → Prop) : Prop := kOK K cX5_there RX5 wsX5_there (some .int) rm_X5_there ∧ K.nL = 3 ∧ kQ K (MW L c [] []) rkI post rm_X5_there
def P_X5_there_0 (K : KT) (L : Nat → Nat) (c : Nat → ClassId) (σ : MS) : Prop := G K (MW L c [] [] σ) (0, 0) [(0, .ref (L 0))] 0 []
def P_X5_there_1 (K : KT) (L : Nat → Nat) (c : Nat → ClassId) (σ : MS) (v1 v2 : Int) : Prop := G K (MW L c [] [] σ) (0, 0) [(0, .ref (L 0)), (1, .int (iZ v1)), (2, .int (iZ v2))] 4 []
set_option maxRecDepth 100000 in
set_option maxHeartbeats 4000000 in
theorem b_X5_there_0 {K : KT} {L : Nat → Nat} {c : Nat → ClassId} {post : Int → MS → Prop} (C : C_X5_there K L c post) {σ : MS} (h : P_X5_there_1 K L c σ 0 0) : P_X5_there_0 K L c σ := by
  refine g_iconst C.1 (z := 0) dX5_there_0 ?_
  refine g_istore_n C.1 (loc' := [(1, .int (iZ 0)), (0, .ref (L 0))]) C.2.1 dX5_there_1 rfl (by decide) rfl ?_
  refine g_iconst C.1 (z := 0) dX5_there_2 ?_
  refine g_istore_n C.1 (loc' := [(2, .int (iZ 0)), (1, .int (iZ 0)), (0, .ref (L 0))]) C.2.1 dX5_there_3 rfl (by decide) rfl ?_
  exact g_sub [2, 1, 0] rfl h
set_option maxRecDepth 100000 in
set_option maxHeartbeats 4000000 in
theorem b_X5_there_1 {K : KT} {L : Nat → Nat} {c : Nat → ClassId} {post : Int → MS → Prop} (C : C_X5_there K L c post) {σ : MS} {v1 v2 : Int} (h : (-2147483648 ≤ v2 ∧ v2 < 2147483648) ∧ (-2147483648 ≤ (σ 3 0) ∧ (σ 3 0) < 2147483648) ∧ (((σ 3 0) ≤ v2 → post v1 σ) ∧ (¬ (σ 3 0) ≤ v2 → (0 ≤ v2 ∧ v2 < 24) ∧ (-2147483648 ≤ ((σ 8) v2) ∧ ((σ 8) v2) < 2147483648) ∧ P_X5_there_1 K L c σ (v1 + ((if ¬ ((σ 8) v2) = 0 then 1 else 0))) (v2 + 1)))) : P_X5_there_1 K L c σ v1 v2 := by
  refine g_iload_n C.1 2 dX5_there_4 rfl rfl ?_
  refine g_aload_n C.1 0 dX5_there_5 rfl rfl ?_
  refine m_get C.1 inX5_there 3 (by decide) (v := .int (iZ (σ 3 0))) rfl lk_X5_there_f51 rfl dX5_there_6 ?_
  obtain ⟨hc1, h⟩ := h
  obtain ⟨hc2, h⟩ := h
  refine g_icmp_ge C.1 (tgt := 35) dX5_there_9 (by decide) hc1 hc2 (fun hc => ?_) (fun hc => ?_)
  · have h := h.1 hc
    refine g_iload_n C.1 1 dX5_there_35 rfl rfl ?_
    exact x_iret C.1 C.2.2 rfl ⟨Nat.le_of_ble_eq_true rfl, Nat.le_of_ble_eq_true rfl⟩ dX5_there_36 h
  · have h := h.2 hc
    refine g_iload_n C.1 1 dX5_there_12 rfl rfl ?_
    refine g_aload_n C.1 0 dX5_there_13 rfl rfl ?_
    refine m_get C.1 inX5_there 8 (by decide) (v := .ref (L 8)) rfl lk_X5_there_f25 rfl dX5_there_14 ?_
    refine g_iload_n C.1 2 dX5_there_17 rfl rfl ?_
    obtain ⟨hi3, h⟩ := h
    refine m_zald C.1 6 5 (N := 24) (f := (σ 8)) (e := v2) rfl rfl (by decide) hi3 dX5_there_18 ?_
    obtain ⟨hc4, h⟩ := h
    suffices hk : G K (MW L c [] [] σ) (0, 0) [(0, .ref (L 0)), (1, .int (iZ v1)), (2, .int (iZ v2))] 27 [.int (iZ (if ¬ ((σ 8) v2) = 0 then 1 else 0)), .int (iZ v1)] by
      refine g_if_eq C.1 (tgt := 26) dX5_there_19 (by decide) hc4 (fun hc => ?_) (fun hc => ?_)
      · refine g_iconst C.1 (z := 0) dX5_there_26 ?_
        rw [if_neg (fun q9 => q9 hc)] at hk
        exact hk
      · refine g_iconst C.1 (z := 1) dX5_there_22 ?_
        refine g_goto C.1 (tgt := 27) dX5_there_23 (by decide) ?_
        rw [if_pos hc] at hk
        exact hk
    refine g_iadd C.1 (x := v1) (y := (if ¬ ((σ 8) v2) = 0 then 1 else 0)) dX5_there_27 ?_
    refine g_istore_n C.1 (loc' := [(1, .int (iZ (v1 + ((if ¬ ((σ 8) v2) = 0 then 1 else 0))))), (0, .ref (L 0)), (2, .int (iZ v2))]) C.2.1 dX5_there_28 rfl (by decide) rfl ?_
    refine g_iinc C.1 (z := v2) (w := 1) (loc' := [(2, .int (iZ (v2 + 1))), (1, .int (iZ (v1 + ((if ¬ ((σ 8) v2) = 0 then 1 else 0))))), (0, .ref (L 0))]) 2 C.2.1 dX5_there_29 rfl (by decide) rfl ?_
    refine g_goto C.1 (tgt := 4) dX5_there_32 (by decide) ?_
    exact g_sub [2, 1, 0] rfl h
def H_X5_there (p : MS → Prop) (f : MS → Int) : Prop := ∀ (l : Launch) (L : Nat → Nat) (c : Nat → ClassId) (σ : MS), p σ → xMet l yX5_there wsX5_there rm_X5_there (MW L c [] []) rkI [.ref (L 0)] σ (fun r σ' => r = f σ ∧ σ' = σ)
theorem m_X5_there {l : Launch} {L : Nat → Nat} {c : Nat → ClassId} {σ : MS} {post : Int → MS → Prop} (h : ∀ K : KT, K.l = l → C_X5_there K L c post → P_X5_there_0 K L c σ) : xMet l yX5_there wsX5_there rm_X5_there (MW L c [] []) rkI [.ref (L 0)] σ post :=
  xMet.of (maxL := 3) (by decide +kernel) rfl (Nat.le_of_ble_eq_true rfl) (fun K h1 h2 h3 h4 _ => h K h1 ⟨h2, h4, h3⟩)

/-! X5_lose -/
abbrev rm_X5_lose : Room := { frames := 2, cells := 0, slots := 0, locals := 43 }
theorem inX5_lose : ∀ w ∈ wsX50, w ∈ wsX5_lose := by decide +kernel
theorem lk_X5_lose_f47 : Cond.fieldLink RX5 47 "CopyHouseModel" "thrown" "I" ∈ wsX5_lose := List.mem_of_getElem? (i := 1) (by decide +kernel)
theorem lk_X5_lose_f25 : Cond.fieldLink RX5 25 "CopyHouseModel" "isThere" "[Z" ∈ wsX5_lose := List.mem_of_getElem? (i := 2) (by decide +kernel)
def C_X5_lose (K : KT) (L : Nat → Nat) (c : Nat → ClassId) (post : Int → MS → Prop) : Prop := kOK K cX5_lose RX5 wsX5_lose (some .int) rm_X5_lose ∧ K.nL = 2 ∧ kQ K (MW L c [] []) rkI post rm_X5_lose
def P_X5_lose_0 (K : KT) (L : Nat → Nat) (c : Nat → ClassId) (σ : MS) (v1 : Int) : Prop := G K (MW L c [] [] σ) (0, 0) [(0, .ref (L 0)), (1, .int (iZ v1))] 0 []
set_option maxRecDepth 100000 in
set_option maxHeartbeats 4000000 in
theorem b_X5_lose_0 {K : KT} {L : Nat → Nat} {c : Nat → ClassId} {post : Int → MS → Prop} (C : C_X5_lose K L c post) {p_isText : MS → Int → Prop} {f_isText : MS → Int → Bool} (h_isText : H_X5_isText p_isText f_isText) {p_there : MS → Prop} {f_there : MS → Int} (h_there : H_X5_there p_there f_there) {p_no : MS → Int → Prop} {u_no : MS → Int → MS} (h_no : H_X5_no p_no u_no) {σ : MS} {v1 : Int} (h : (p_isText (upM σ 0 (fun _ => 0)) v1) ∧ ((f_isText (upM σ 0 (fun _ => 0)) v1 = true → (0 ≤ v1 ∧ v1 < 24) ∧ (-2147483648 ≤ ((σ 8) v1) ∧ ((σ 8) v1) < 2147483648) ∧ ((¬ ((σ 8) v1) = 0 → (p_there (upM (upM σ 0 (fun _ => 0)) 8 (upI (σ 8) v1 0))) ∧ post (f_there (upM (upM σ 0 (fun _ => 0)) 8 (upI (σ 8) v1 0))) (upM (upM σ 0 (fun _ => 0)) 8 (upI (σ 8) v1 0))) ∧ (((σ 8) v1) = 0 → (p_no (upM σ 0 (fun _ => 0)) 2) ∧ post 0 ((u_no (upM σ 0 (fun _ => 0)) 2))))) ∧ (¬ (f_isText (upM σ 0 (fun _ => 0)) v1 = true) → (p_no (upM σ 0 (fun _ => 0)) 1) ∧ post 0 ((u_no (upM σ 0 (fun _ => 0)) 1))))) : P_X5_lose_0 K L c σ v1 := by
  refine g_aload_n C.1 0 dX5_lose_0 rfl rfl ?_
  refine g_iconst C.1 (z := 0) dX5_lose_1 ?_
  refine m_put C.1 inX5_lose 0 (by decide) (z := 0) (σ' := upM σ 0 (fun _ => 0)) rfl lk_X5_lose_f47 rfl rfl rfl dX5_lose_2 ?_
  refine g_aload_n C.1 0 dX5_lose_5 rfl rfl ?_
  refine g_iload_n C.1 1 dX5_lose_6 rfl rfl ?_
  obtain ⟨hp1, h⟩ := h
  refine x_callV C.1 (h_isText K.l L c (upM σ 0 (fun _ => 0)) v1 hp1) (ci := 6) (q := (RX5, TX5, 17)) rfl m_recv (fun ht => cwV 1 ht gX5_lose_X5_isText rfl rfl rfl (by decide +kernel) ⟨Nat.le_of_ble_eq_true rfl, Nat.le_of_ble_eq_true rfl⟩) rfl rfl (Nat.le_of_ble_eq_true rfl) ⟨Nat.le_of_ble_eq_true rfl, Nat.le_of_ble_eq_true rfl⟩ dX5_lose_7 (fun r σ9 hq => ?_)
  rw [hq.1, hq.2]
  show G K (MW L c [] [] (upM σ 0 (fun _ => 0))) (0, 0) [(0, .ref (L 0)), (1, .int (iZ v1))] 10 [.int (iZ (if f_isText (upM σ 0 (fun _ => 0)) v1 = true then 1 else 0))]
  refine g_ifb_ne C.1 (tgt := 19) dX5_lose_10 (by decide) (fun hc => ?_) (fun hc => ?_)
  · have h := h.1 hc
    refine g_aload_n C.1 0 dX5_lose_19 rfl rfl ?_
    refine m_get C.1 inX5_lose 8 (by decide) (v := .ref (L 8)) rfl lk_X5_lose_f25 rfl dX5_lose_20 ?_
    refine g_iload_n C.1 1 dX5_lose_23 rfl rfl ?_
    obtain ⟨hi2, h⟩ := h
    refine m_zald C.1 6 5 (N := 24) (f := (σ 8)) (e := v1) rfl rfl (by decide) hi2 dX5_lose_24 ?_
    obtain ⟨hc3, h⟩ := h
    refine g_if_ne C.1 (tgt := 34) dX5_lose_25 (by decide) hc3 (fun hc => ?_) (fun hc => ?_)
    · have h := h.1 hc
      refine g_aload_n C.1 0 dX5_lose_34 rfl rfl ?_
      refine m_get C.1 inX5_lose 8 (by decide) (v := .ref (L 8)) rfl lk_X5_lose_f25 rfl dX5_lose_35 ?_
      refine g_iload_n C.1 1 dX5_lose_38 rfl rfl ?_
      refine g_iconst C.1 (z := 0) dX5_lose_39 ?_
      refine m_zast C.1 6 5 (N := 24) (f := (σ 8)) (e := v1) (z := 0) (X' := []) (σ' := upM (upM σ 0 (fun _ => 0)) 8 (upI (σ 8) v1 0)) rfl rfl rfl (by decide) (Or.inl rfl) hi2 dX5_lose_40 ?_
      refine g_aload_n C.1 0 dX5_lose_41 rfl rfl ?_
      obtain ⟨hp4, h⟩ := h
      refine x_callV C.1 (h_there K.l L c (upM (upM σ 0 (fun _ => 0)) 8 (upI (σ 8) v1 0)) hp4) (ci := 6) (q := (RX5, TX5, 17)) rfl m_recv (fun ht => cwV 0 ht gX5_lose_X5_there rfl rfl rfl (by decide +kernel) ⟨Nat.le_of_ble_eq_true rfl, Nat.le_of_ble_eq_true rfl⟩) rfl rfl (Nat.le_of_ble_eq_true rfl) ⟨Nat.le_of_ble_eq_true rfl, Nat.le_of_ble_eq_true rfl⟩ dX5_lose_42 (fun r σ9 hq => ?_)
      rw [hq.1, hq.2]
      show G K (MW L c [] [] (upM (upM σ 0 (fun _ => 0)) 8 (upI (σ 8) v1 0))) (0, 0) [(0, .ref (L 0)), (1, .int (iZ v1))] 45 [.int (iZ (f_there (upM (upM σ 0 (fun _ => 0)) 8 (upI (σ 8) v1 0))))]
      exact x_iret C.1 C.2.2 rfl ⟨Nat.le_of_ble_eq_true rfl, Nat.le_of_ble_eq_true rfl⟩ dX5_lose_45 h
    · have h := h.2 hc
      refine g_aload_n C.1 0 dX5_lose_28 rfl rfl ?_
      refine g_iconst C.1 (z := 2) dX5_lose_29 ?_
      obtain ⟨hp5, h⟩ := h
      refine x_callV C.1 (h_no K.l L c (upM σ 0 (fun _ => 0)) 2 hp5) (ci := 6) (q := (RX5, TX5, 17)) rfl m_recv (fun ht => cwV 1 ht gX5_lose_X5_no rfl rfl rfl (by decide +kernel) ⟨Nat.le_of_ble_eq_true rfl, Nat.le_of_ble_eq_true rfl⟩) rfl rfl (Nat.le_of_ble_eq_true rfl) ⟨Nat.le_of_ble_eq_true rfl, Nat.le_of_ble_eq_true rfl⟩ dX5_lose_30 (fun r σ9 hq => ?_)
      rw [hq.1, hq.2]
      show G K (MW L c [] [] ((u_no (upM σ 0 (fun _ => 0)) 2))) (0, 0) [(0, .ref (L 0)), (1, .int (iZ v1))] 33 [.int (iZ 0)]
      exact x_iret C.1 C.2.2 rfl ⟨Nat.le_of_ble_eq_true rfl, Nat.le_of_ble_eq_true rfl⟩ dX5_lose_33 h
  · have h := h.2 hc
    refine g_aload_n C.1 0 dX5_lose_13 rfl rfl ?_
    refine g_iconst C.1 (z := 1) dX5_lose_14 ?_
    obtain ⟨hp6, h⟩ := h
    refine x_callV C.1 (h_no K.l L c (upM σ 0 (fun _ => 0)) 1 hp6) (ci := 6) (q := (RX5, TX5, 17)) rfl m_recv (fun ht => cwV 1 ht gX5_lose_X5_no rfl rfl rfl (by decide +kernel) ⟨Nat.le_of_ble_eq_true rfl, Nat.le_of_ble_eq_true rfl⟩) rfl rfl (Nat.le_of_ble_eq_true rfl) ⟨Nat.le_of_ble_eq_true rfl, Nat.le_of_ble_eq_true rfl⟩ dX5_lose_15 (fun r σ9 hq => ?_)
    rw [hq.1, hq.2]
    show G K (MW L c [] [] ((u_no (upM σ 0 (fun _ => 0)) 1))) (0, 0) [(0, .ref (L 0)), (1, .int (iZ v1))] 18 [.int (iZ 0)]
    exact x_iret C.1 C.2.2 rfl ⟨Nat.le_of_ble_eq_true rfl, Nat.le_of_ble_eq_true rfl⟩ dX5_lose_18 h
def H_X5_lose (p : MS → Int → Prop) (o : MS → Int → Int → MS → Prop) : Prop := ∀ (l : Launch) (L : Nat → Nat) (c : Nat → ClassId) (σ : MS) (v1 : Int), p σ v1 → xMet l yX5_lose wsX5_lose rm_X5_lose (MW L c [] []) rkI [.ref (L 0), .int (iZ v1)] σ (fun r σ' => o σ v1 r σ')
theorem m_X5_lose {l : Launch} {L : Nat → Nat} {c : Nat → ClassId} {σ : MS} {v1 : Int} {post : Int → MS → Prop} (h : ∀ K : KT, K.l = l → C_X5_lose K L c post → P_X5_lose_0 K L c σ v1) : xMet l yX5_lose wsX5_lose rm_X5_lose (MW L c [] []) rkI [.ref (L 0), .int (iZ v1)] σ post :=
  xMet.of (maxL := 2) (by decide +kernel) rfl (Nat.le_of_ble_eq_true rfl) (fun K h1 h2 h3 h4 _ => h K h1 ⟨h2, h4, h3⟩)
