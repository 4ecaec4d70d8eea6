/-! X5_distanceOf -/
abbrev rm_X5_distanceOf : Room := { frames := 1, cells := 0, slots := 0, locals := 40 }
theorem inX5_distanceOf : ∀ w ∈ wsX50, w ∈ wsX5_distanceOf := by decide +kernel
theorem lk_X5_distanceOf_f16 : Cond.fieldLink RX5 16 "CopyHouseModel" "length" "[I" ∈ wsX5_distanceOf := List.mem_of_getElem? (i := 1) (by decide +kernel)
theorem lk_X5_distanceOf_f44 : Cond.fieldLink RX5 44 "CopyHouseModel" "row" "[I" ∈ wsX5_distanceOf := List.mem_of_getElem? (i := 2) (by decide +kernel)
theorem lk_X5_distanceOf_f85 : Cond.fieldLink RX5 85 "CopyHouseModel" "size" "I" ∈ wsX5_distanceOf := List.mem_of_getElem? (i := 3) (by decide +kernel)
theorem lk_X5_distanceOf_f38 : Cond.fieldLink RX5 38 "CopyHouseModel" "from" "[I" ∈ wsX5_distanceOf := List.mem_of_getElem? (i := 4) (by decide +kernel)
theorem lk_X5_distanceOf_f13 : Cond.fieldLink RX5 13 "CopyHouseModel" "letters" "[I" ∈ wsX5_distanceOf := List.mem_of_getElem? (i := 5) (by decide +kernel)
theorem lk_X5_distanceOf_mm115 : Cond.methodLink RX5 115 Lib.Math.min.name ∈ wsX5_distanceOf := List.mem_of_getElem? (i := 6) (by decide +kernel)
theorem lk_X5_distanceOf_ms115 : Cond.static Lib.Math.min.name ∈ wsX5_distanceOf := List.mem_of_getElem? (i := 7) (by decide +kernel)
theorem lk_X5_distanceOf_mi115 : Cond.initialized "java/lang/Math" ∈ wsX5_distanceOf := List.mem_of_getElem? (i := 8) (by decide +kernel)
theorem lk_X5_distanceOf_mc115 : Cond.code Lib.Math.min.name Lib.Math.min.code 2 (some .int) ∈ wsX5_distanceOf := List.mem_of_getElem? (i := 9) (by decide +kernel)
def C_X5_distanceOf (K : KT) (L : Nat → Nat) (c : Nat → ClassId) (post : Int → MS → Prop) : Prop := kOK K cX5_distanceOf RX5 wsX5_distanceOf (some .int) rm_X5_distanceOf ∧ K.nL = 8 ∧ kQ K (MW L c [] []) rkI post rm_X5_distanceOf
def P_X5_distanceOf_0 (K : KT) (L : Nat → Nat) (c : Nat → ClassId) (σ : MS) (v1 : Int) : Prop := G K (MW L c [] [] σ) (0, 0) [(0, .ref (L 0)), (1, .int (iZ v1))] 0 []
def P_X5_distanceOf_1 (K : KT) (L : Nat → Nat) (c : Nat → ClassId) (σ : MS) (v1 v2 v3 : Int) : Prop := G K (MW L c [] [] σ) (0, 0) [(0, .ref (L 0)), (1, .int (iZ v1)), (2, .int (iZ v2)), (3, .int (iZ v3))] 9 []
def P_X5_distanceOf_2 (K : KT) (L : Nat → Nat) (c : Nat → ClassId) (σ : MS) (v1 v2 v3 : Int) : Prop := G K (MW L c [] [] σ) (0, 0) [(0, .ref (L 0)), (1, .int (iZ v1)), (2, .int (iZ v2)), (3, .int (iZ v3))] 29 []
def P_X5_distanceOf_3 (K : KT) (L : Nat → Nat) (c : Nat → ClassId) (σ : MS) (v1 v2 v3 v4 v5 : Int) : Prop := G K (MW L c [] [] σ) (0, 0) [(0, .ref (L 0)), (1, .int (iZ v1)), (2, .int (iZ v2)), (3, .int (iZ v3)), (4, .int (iZ v4)), (5, .int (iZ v5))] 55 []
set_option maxRecDepth 100000 in
set_option maxHeartbeats 4000000 in
theorem b_X5_distanceOf_0 {K : KT} {L : Nat → Nat} {c : Nat → ClassId} {post : Int → MS → Prop} (C : C_X5_distanceOf K L c post) {σ : MS} {v1 : Int} (h : (0 ≤ v1 ∧ v1 < 24) ∧ P_X5_distanceOf_1 K L c σ v1 ((σ 5) v1) 0) : P_X5_distanceOf_0 K L c σ v1 := by
  refine g_aload_n C.1 0 dX5_distanceOf_0 rfl rfl ?_
  refine m_get C.1 inX5_distanceOf 5 (by decide) (v := .ref (L 5)) rfl lk_X5_distanceOf_f16 rfl dX5_distanceOf_1 ?_
  refine g_iload_n C.1 1 dX5_distanceOf_4 rfl rfl ?_
  obtain ⟨hi1, h⟩ := h
  refine m_ald C.1 3 2 (N := 24) (f := (σ 5)) (e := v1) rfl rfl (by decide) hi1 dX5_distanceOf_5 ?_
  refine g_istore_n C.1 (loc' := [(2, .int (iZ ((σ 5) v1))), (0, .ref (L 0)), (1, .int (iZ v1))]) C.2.1 dX5_distanceOf_6 rfl (by decide) rfl ?_
  refine g_iconst C.1 (z := 0) dX5_distanceOf_7 ?_
  refine g_istore_n C.1 (loc' := [(3, .int (iZ 0)), (2, .int (iZ ((σ 5) v1))), (0, .ref (L 0)), (1, .int (iZ v1))]) C.2.1 dX5_distanceOf_8 rfl (by decide) rfl ?_
  exact g_sub [2, 3, 1, 0] rfl h
set_option maxRecDepth 100000 in
set_option maxHeartbeats 4000000 in
theorem b_X5_distanceOf_1 {K : KT} {L : Nat → Nat} {c : Nat → ClassId} {post : Int → MS → Prop} (C : C_X5_distanceOf K L c post) {σ : MS} {v1 v2 v3 : Int} (h : (-2147483648 ≤ v3 ∧ v3 < 2147483648) ∧ (-2147483648 ≤ v2 ∧ v2 < 2147483648) ∧ ((v2 < v3 → P_X5_distanceOf_2 K L c σ v1 v2 1) ∧ (¬ v2 < v3 → (0 ≤ v3 ∧ v3 < 121) ∧ P_X5_distanceOf_1 K L c (upM σ 16 (upI (σ 16) v3 v3)) v1 v2 (v3 + 1)))) : P_X5_distanceOf_1 K L c σ v1 v2 v3 := by
  refine g_iload_n C.1 3 dX5_distanceOf_9 rfl rfl ?_
  refine g_iload_n C.1 2 dX5_distanceOf_10 rfl rfl ?_
  obtain ⟨hc1, h⟩ := h
  obtain ⟨hc2, h⟩ := h
  refine g_icmp_gt C.1 (tgt := 27) dX5_distanceOf_11 (by decide) hc1 hc2 (fun hc => ?_) (fun hc => ?_)
  · have h := h.1 hc
    refine g_iconst C.1 (z := 1) dX5_distanceOf_27 ?_
    refine g_istore_n C.1 (loc' := [(3, .int (iZ 1)), (0, .ref (L 0)), (1, .int (iZ v1)), (2, .int (iZ v2))]) C.2.1 dX5_distanceOf_28 rfl (by decide) rfl ?_
    exact g_sub [1, 2, 3, 0] rfl h
  · have h := h.2 hc
    refine g_aload_n C.1 0 dX5_distanceOf_14 rfl rfl ?_
    refine m_get C.1 inX5_distanceOf 16 (by decide) (v := .ref (L 16)) rfl lk_X5_distanceOf_f44 rfl dX5_distanceOf_15 ?_
    refine g_iload_n C.1 3 dX5_distanceOf_18 rfl rfl ?_
    refine g_iload_n C.1 3 dX5_distanceOf_19 rfl rfl ?_
    obtain ⟨hi3, h⟩ := h
    refine m_ast C.1 12 11 (N := 121) (f := (σ 16)) (e := v3) (z := v3) (X' := []) (σ' := upM σ 16 (upI (σ 16) v3 v3)) rfl rfl rfl (by decide) hi3 dX5_distanceOf_20 ?_
    refine g_iinc C.1 (z := v3) (w := 1) (loc' := [(3, .int (iZ (v3 + 1))), (0, .ref (L 0)), (1, .int (iZ v1)), (2, .int (iZ v2))]) 3 C.2.1 dX5_distanceOf_21 rfl (by decide) rfl ?_
    refine g_goto C.1 (tgt := 9) dX5_distanceOf_24 (by decide) ?_
    exact g_sub [1, 2, 3, 0] rfl h
set_option maxRecDepth 100000 in
set_option maxHeartbeats 4000000 in
theorem b_X5_distanceOf_2 {K : KT} {L : Nat → Nat} {c : Nat → ClassId} {post : Int → MS → Prop} (C : C_X5_distanceOf K L c post) {σ : MS} {v1 v2 v3 : Int} (h : (-2147483648 ≤ v3 ∧ v3 < 2147483648) ∧ (-2147483648 ≤ (σ 14 0) ∧ (σ 14 0) < 2147483648) ∧ (((σ 14 0) < v3 → (0 ≤ v2 ∧ v2 < 121) ∧ post ((σ 16) v2) σ) ∧ (¬ (σ 14 0) < v3 → P_X5_distanceOf_3 K L c (upM σ 16 (upI (σ 16) 0 v3)) v1 v2 v3 ((σ 16) 0) 1))) : P_X5_distanceOf_2 K L c σ v1 v2 v3 := by
  refine g_iload_n C.1 3 dX5_distanceOf_29 rfl rfl ?_
  refine g_aload_n C.1 0 dX5_distanceOf_30 rfl rfl ?_
  refine m_get C.1 inX5_distanceOf 14 (by decide) (v := .int (iZ (σ 14 0))) rfl lk_X5_distanceOf_f85 rfl dX5_distanceOf_31 ?_
  obtain ⟨hc1, h⟩ := h
  obtain ⟨hc2, h⟩ := h
  refine g_icmp_gt C.1 (tgt := 149) dX5_distanceOf_34 (by decide) hc1 hc2 (fun hc => ?_) (fun hc => ?_)
  · have h := h.1 hc
    refine g_aload_n C.1 0 dX5_distanceOf_149 rfl rfl ?_
    refine m_get C.1 inX5_distanceOf 16 (by decide) (v := .ref (L 16)) rfl lk_X5_distanceOf_f44 rfl dX5_distanceOf_150 ?_
    refine g_iload_n C.1 2 dX5_distanceOf_153 rfl rfl ?_
    obtain ⟨hi3, h⟩ := h
    refine m_ald C.1 12 11 (N := 121) (f := (σ 16)) (e := v2) rfl rfl (by decide) hi3 dX5_distanceOf_154 ?_
    exact x_iret C.1 C.2.2 rfl ⟨Nat.le_of_ble_eq_true rfl, Nat.le_of_ble_eq_true rfl⟩ dX5_distanceOf_155 h
  · have h := h.2 hc
    refine g_aload_n C.1 0 dX5_distanceOf_37 rfl rfl ?_
    refine m_get C.1 inX5_distanceOf 16 (by decide) (v := .ref (L 16)) rfl lk_X5_distanceOf_f44 rfl dX5_distanceOf_38 ?_
    refine g_iconst C.1 (z := 0) dX5_distanceOf_41 ?_
    refine m_ald C.1 12 11 (N := 121) (f := (σ 16)) (e := 0) rfl rfl (by decide) (by decide) dX5_distanceOf_42 ?_
    refine g_istore C.1 (loc' := [(4, .int (iZ ((σ 16) 0))), (0, .ref (L 0)), (1, .int (iZ v1)), (2, .int (iZ v2)), (3, .int (iZ v3))]) C.2.1 dX5_distanceOf_43 (by decide) rfl ?_
    refine g_aload_n C.1 1 dX5_distanceOf_45 rfl rfl ?_
    refine m_get C.1 inX5_distanceOf 16 (by decide) (v := .ref (L 16)) rfl lk_X5_distanceOf_f44 rfl dX5_distanceOf_46 ?_
    refine g_iconst C.1 (z := 0) dX5_distanceOf_49 ?_
    refine g_iload_n C.1 4 dX5_distanceOf_50 rfl rfl ?_
    refine m_ast C.1 12 11 (N := 121) (f := (σ 16)) (e := 0) (z := v3) (X' := []) (σ' := upM σ 16 (upI (σ 16) 0 v3)) rfl rfl rfl (by decide) (by decide) dX5_distanceOf_51 ?_
    refine g_iconst C.1 (z := 1) dX5_distanceOf_52 ?_
    refine g_istore C.1 (loc' := [(5, .int (iZ 1)), (4, .int (iZ ((σ 16) 0))), (0, .ref (L 0)), (1, .int (iZ v1)), (2, .int (iZ v2)), (3, .int (iZ v3))]) C.2.1 dX5_distanceOf_53 (by decide) rfl ?_
    exact g_sub [2, 3, 4, 5, 1, 0] rfl h
set_option maxRecDepth 100000 in
set_option maxHeartbeats 4000000 in
theorem b_X5_distanceOf_3 {K : KT} {L : Nat → Nat} {c : Nat → ClassId} {post : Int → MS → Prop} (C : C_X5_distanceOf K L c post) {σ : MS} {v1 v2 v3 v4 v5 : Int} (h : (-2147483648 ≤ v5 ∧ v5 < 2147483648) ∧ (-2147483648 ≤ v2 ∧ v2 < 2147483648) ∧ ((v2 < v5 → P_X5_distanceOf_2 K L c σ v1 v2 (v3 + 1)) ∧ (¬ v2 < v5 → (0 ≤ v5 ∧ v5 < 121) ∧ (0 ≤ (v3 - 1) ∧ (v3 - 1) < 120) ∧ (0 ≤ (((120 * v1) + v5) - 1) ∧ (((120 * v1) + v5) - 1) < 2880) ∧ (-2147483648 ≤ ((σ 13) (v3 - 1)) ∧ ((σ 13) (v3 - 1)) < 2147483648) ∧ (-2147483648 ≤ ((σ 4) (((120 * v1) + v5) - 1)) ∧ ((σ 4) (((120 * v1) + v5) - 1)) < 2147483648) ∧ (0 ≤ (v5 - 1) ∧ (v5 - 1) < 121) ∧ (-2147483648 ≤ ((σ 16) v5) ∧ ((σ 16) v5) < 2147483648) ∧ (-2147483648 ≤ ((σ 16) (v5 - 1)) ∧ ((σ 16) (v5 - 1)) < 2147483648) ∧ (-2147483648 ≤ (v4 + ((if ¬ ((σ 13) (v3 - 1)) = ((σ 4) (((120 * v1) + v5) - 1)) then 1 else 0))) ∧ (v4 + ((if ¬ ((σ 13) (v3 - 1)) = ((σ 4) (((120 * v1) + v5) - 1)) then 1 else 0))) < 2147483648) ∧ (-2147483648 ≤ ((if ((σ 16) (v5 - 1)) < ((σ 16) v5) then ((σ 16) (v5 - 1)) else ((σ 16) v5)) + 1) ∧ ((if ((σ 16) (v5 - 1)) < ((σ 16) v5) then ((σ 16) (v5 - 1)) else ((σ 16) v5)) + 1) < 2147483648) ∧ P_X5_distanceOf_3 K L c (upM σ 16 (upI (σ 16) v5 (if ((if ((σ 16) (v5 - 1)) < ((σ 16) v5) then ((σ 16) (v5 - 1)) else ((σ 16) v5)) + 1) < (v4 + ((if ¬ ((σ 13) (v3 - 1)) = ((σ 4) (((120 * v1) + v5) - 1)) then 1 else 0))) then ((if ((σ 16) (v5 - 1)) < ((σ 16) v5) then ((σ 16) (v5 - 1)) else ((σ 16) v5)) + 1) else (v4 + ((if ¬ ((σ 13) (v3 - 1)) = ((σ 4) (((120 * v1) + v5) - 1)) then 1 else 0)))))) v1 v2 v3 ((σ 16) v5) (v5 + 1)))) : P_X5_distanceOf_3 K L c σ v1 v2 v3 v4 v5 := by
  refine g_iload C.1 5 dX5_distanceOf_55 rfl ?_
  refine g_iload_n C.1 2 dX5_distanceOf_57 rfl rfl ?_
  obtain ⟨hc1, h⟩ := h
  obtain ⟨hc2, h⟩ := h
  refine g_icmp_gt C.1 (tgt := 143) dX5_distanceOf_58 (by decide) hc1 hc2 (fun hc => ?_) (fun hc => ?_)
  · have h := h.1 hc
    refine g_iinc C.1 (z := v3) (w := 1) (loc' := [(3, .int (iZ (v3 + 1))), (0, .ref (L 0)), (1, .int (iZ v1)), (2, .int (iZ v2)), (4, .int (iZ v4)), (5, .int (iZ v5))]) 3 C.2.1 dX5_distanceOf_143 rfl (by decide) rfl ?_
    refine g_goto C.1 (tgt := 29) dX5_distanceOf_146 (by decide) ?_
    exact g_sub [1, 2, 3, 0] rfl h
  · have h := h.2 hc
    refine g_aload_n C.1 0 dX5_distanceOf_61 rfl rfl ?_
    refine m_get C.1 inX5_distanceOf 16 (by decide) (v := .ref (L 16)) rfl lk_X5_distanceOf_f44 rfl dX5_distanceOf_62 ?_
    refine g_iload C.1 5 dX5_distanceOf_65 rfl ?_
    obtain ⟨hi3, h⟩ := h
    refine m_ald C.1 12 11 (N := 121) (f := (σ 16)) (e := v5) rfl rfl (by decide) hi3 dX5_distanceOf_67 ?_
    refine g_istore C.1 (loc' := [(6, .int (iZ ((σ 16) v5))), (0, .ref (L 0)), (1, .int (iZ v1)), (2, .int (iZ v2)), (3, .int (iZ v3)), (4, .int (iZ v4)), (5, .int (iZ v5))]) C.2.1 dX5_distanceOf_68 (by decide) rfl ?_
    refine g_iload C.1 5 dX5_distanceOf_70 rfl ?_
    refine g_aload_n C.1 1 dX5_distanceOf_72 rfl rfl ?_
    refine m_get C.1 inX5_distanceOf 13 (by decide) (v := .ref (L 13)) rfl lk_X5_distanceOf_f38 rfl dX5_distanceOf_73 ?_
    refine g_iload_n C.1 4 dX5_distanceOf_76 rfl rfl ?_
    refine g_iconst C.1 (z := 1) dX5_distanceOf_77 ?_
    refine g_isub C.1 (x := v3) (y := 1) dX5_distanceOf_78 ?_
    obtain ⟨hi4, h⟩ := h
    refine m_ald C.1 10 9 (N := 120) (f := (σ 13)) (e := (v3 - 1)) rfl rfl (by decide) hi4 dX5_distanceOf_79 ?_
    refine g_aload_n C.1 1 dX5_distanceOf_80 rfl rfl ?_
    refine m_get C.1 inX5_distanceOf 4 (by decide) (v := .ref (L 4)) rfl lk_X5_distanceOf_f13 rfl dX5_distanceOf_81 ?_
    refine g_bipush C.1 (z := 120) dX5_distanceOf_84 (by decide) ?_
    refine g_iload_n C.1 2 dX5_distanceOf_86 rfl rfl ?_
    refine g_imul C.1 (x := 120) (y := v1) dX5_distanceOf_87 ?_
    refine g_iload C.1 6 dX5_distanceOf_88 rfl ?_
    refine g_iadd C.1 (x := 120 * v1) (y := v5) dX5_distanceOf_90 ?_
    refine g_iconst C.1 (z := 1) dX5_distanceOf_91 ?_
    refine g_isub C.1 (x := (120 * v1) + v5) (y := 1) dX5_distanceOf_92 ?_
    obtain ⟨hi5, h⟩ := h
    refine m_ald C.1 2 1 (N := 2880) (f := (σ 4)) (e := (((120 * v1) + v5) - 1)) rfl rfl (by decide) hi5 dX5_distanceOf_93 ?_
    obtain ⟨hc6, h⟩ := h
    obtain ⟨hc7, h⟩ := h
    suffices hk : G K (MW L c [] [] σ) (0, 0) [(6, .int (iZ ((σ 16) v5))), (0, .ref (L 0)), (1, .int (iZ v1)), (2, .int (iZ v2)), (3, .int (iZ v3)), (4, .int (iZ v4)), (5, .int (iZ v5))] 102 [.int (iZ (if ¬ ((σ 13) (v3 - 1)) = ((σ 4) (((120 * v1) + v5) - 1)) then 1 else 0)), .int (iZ v4)] by
      refine g_icmp_ne C.1 (tgt := 101) dX5_distanceOf_94 (by decide) hc6 hc7 (fun hc => ?_) (fun hc => ?_)
      · refine g_iconst C.1 (z := 1) dX5_distanceOf_101 ?_
        rw [if_pos hc] at hk
        exact hk
      · refine g_iconst C.1 (z := 0) dX5_distanceOf_97 ?_
        refine g_goto C.1 (tgt := 102) dX5_distanceOf_98 (by decide) ?_
        rw [if_neg (fun q9 => q9 hc)] at hk
        exact hk
    refine g_iadd C.1 (x := v4) (y := (if ¬ ((σ 13) (v3 - 1)) = ((σ 4) (((120 * v1) + v5) - 1)) then 1 else 0)) dX5_distanceOf_102 ?_
    refine g_istore C.1 (loc' := [(7, .int (iZ (v4 + ((if ¬ ((σ 13) (v3 - 1)) = ((σ 4) (((120 * v1) + v5) - 1)) then 1 else 0))))), (6, .int (iZ ((σ 16) v5))), (0, .ref (L 0)), (1, .int (iZ v1)), (2, .int (iZ v2)), (3, .int (iZ v3)), (4, .int (iZ v4)), (5, .int (iZ v5))]) C.2.1 dX5_distanceOf_103 (by decide) rfl ?_
    refine g_aload_n C.1 2 dX5_distanceOf_105 rfl rfl ?_
    refine m_get C.1 inX5_distanceOf 16 (by decide) (v := .ref (L 16)) rfl lk_X5_distanceOf_f44 rfl dX5_distanceOf_106 ?_
    refine g_iload C.1 7 dX5_distanceOf_109 rfl ?_
    refine g_iload C.1 0 dX5_distanceOf_111 rfl ?_
    refine g_iload C.1 1 dX5_distanceOf_113 rfl ?_
    refine g_aload_n C.1 2 dX5_distanceOf_115 rfl rfl ?_
    refine m_get C.1 inX5_distanceOf 16 (by decide) (v := .ref (L 16)) rfl lk_X5_distanceOf_f44 rfl dX5_distanceOf_116 ?_
    refine g_iload C.1 7 dX5_distanceOf_119 rfl ?_
    refine g_iconst C.1 (z := 1) dX5_distanceOf_121 ?_
    refine g_isub C.1 (x := v5) (y := 1) dX5_distanceOf_122 ?_
    obtain ⟨hi8, h⟩ := h
    refine m_ald C.1 12 11 (N := 121) (f := (σ 16)) (e := (v5 - 1)) rfl rfl (by decide) hi8 dX5_distanceOf_123 ?_
    obtain ⟨hc9, h⟩ := h
    obtain ⟨hc10, h⟩ := h
    refine g_min C.1 (x := (σ 16) v5) (y := (σ 16) (v5 - 1)) hc9 hc10 lk_X5_distanceOf_mm115 lk_X5_distanceOf_ms115 lk_X5_distanceOf_mi115 lk_X5_distanceOf_mc115 (Nat.le_of_ble_eq_true rfl) (Nat.le_of_ble_eq_true rfl) ⟨Nat.le_of_ble_eq_true rfl, Nat.le_of_ble_eq_true rfl⟩ dX5_distanceOf_124 ?_
    refine g_iconst C.1 (z := 1) dX5_distanceOf_127 ?_
    refine g_iadd C.1 (x := if ((σ 16) (v5 - 1)) < ((σ 16) v5) then ((σ 16) (v5 - 1)) else ((σ 16) v5)) (y := 1) dX5_distanceOf_128 ?_
    obtain ⟨hc11, h⟩ := h
    obtain ⟨hc12, h⟩ := h
    refine g_min C.1 (x := v4 + ((if ¬ ((σ 13) (v3 - 1)) = ((σ 4) (((120 * v1) + v5) - 1)) then 1 else 0))) (y := (if ((σ 16) (v5 - 1)) < ((σ 16) v5) then ((σ 16) (v5 - 1)) else ((σ 16) v5)) + 1) hc11 hc12 lk_X5_distanceOf_mm115 lk_X5_distanceOf_ms115 lk_X5_distanceOf_mi115 lk_X5_distanceOf_mc115 (Nat.le_of_ble_eq_true rfl) (Nat.le_of_ble_eq_true rfl) ⟨Nat.le_of_ble_eq_true rfl, Nat.le_of_ble_eq_true rfl⟩ dX5_distanceOf_129 ?_
    refine m_ast C.1 12 11 (N := 121) (f := (σ 16)) (e := v5) (z := if ((if ((σ 16) (v5 - 1)) < ((σ 16) v5) then ((σ 16) (v5 - 1)) else ((σ 16) v5)) + 1) < (v4 + ((if ¬ ((σ 13) (v3 - 1)) = ((σ 4) (((120 * v1) + v5) - 1)) then 1 else 0))) then ((if ((σ 16) (v5 - 1)) < ((σ 16) v5) then ((σ 16) (v5 - 1)) else ((σ 16) v5)) + 1) else (v4 + ((if ¬ ((σ 13) (v3 - 1)) = ((σ 4) (((120 * v1) + v5) - 1)) then 1 else 0)))) (X' := []) (σ' := upM σ 16 (upI (σ 16) v5 (if ((if ((σ 16) (v5 - 1)) < ((σ 16) v5) then ((σ 16) (v5 - 1)) else ((σ 16) v5)) + 1) < (v4 + ((if ¬ ((σ 13) (v3 - 1)) = ((σ 4) (((120 * v1) + v5) - 1)) then 1 else 0))) then ((if ((σ 16) (v5 - 1)) < ((σ 16) v5) then ((σ 16) (v5 - 1)) else ((σ 16) v5)) + 1) else (v4 + ((if ¬ ((σ 13) (v3 - 1)) = ((σ 4) (((120 * v1) + v5) - 1)) then 1 else 0)))))) rfl rfl rfl (by decide) hi3 dX5_distanceOf_132 ?_
    refine g_iload C.1 1 dX5_distanceOf_133 rfl ?_
    refine g_istore C.1 (loc' := [(4, .int (iZ ((σ 16) v5))), (7, .int (iZ (v4 + ((if ¬ ((σ 13) (v3 - 1)) = ((σ 4) (((120 * v1) + v5) - 1)) then 1 else 0))))), (6, .int (iZ ((σ 16) v5))), (0, .ref (L 0)), (1, .int (iZ v1)), (2, .int (iZ v2)), (3, .int (iZ v3)), (5, .int (iZ v5))]) C.2.1 dX5_distanceOf_135 (by decide) rfl ?_
    refine g_iinc C.1 (z := v5) (w := 1) (loc' := [(5, .int (iZ (v5 + 1))), (4, .int (iZ ((σ 16) v5))), (7, .int (iZ (v4 + ((if ¬ ((σ 13) (v3 - 1)) = ((σ 4) (((120 * v1) + v5) - 1)) then 1 else 0))))), (6, .int (iZ ((σ 16) v5))), (0, .ref (L 0)), (1, .int (iZ v1)), (2, .int (iZ v2)), (3, .int (iZ v3))]) 7 C.2.1 dX5_distanceOf_137 rfl (by decide) rfl ?_
    refine g_goto C.1 (tgt := 55) dX5_distanceOf_140 (by decide) ?_
    exact g_sub [4, 5, 6, 7, 1, 0] rfl h
def H_X5_distanceOf (p : MS → Int → Prop) (o : MS → Int → Int → MS → Prop) : Prop := ∀ (l : Launch) (L : Nat → Nat) (c : Nat → ClassId) (σ : MS) (v1 : Int), p σ v1 → xMet l yX5_distanceOf wsX5_distanceOf rm_X5_distanceOf (MW L c [] []) rkI [.ref (L 0), .int (iZ v1)] σ (fun r σ' => o σ v1 r σ')
theorem m_X5_distanceOf {l : Launch} {L : Nat → Nat} {c : Nat → ClassId} {σ : MS} {v1 : Int} {post : Int → MS → Prop} (h : ∀ K : KT, K.l = l → C_X5_distanceOf K L c post → P_X5_distanceOf_0 K L c σ v1) : xMet l yX5_distanceOf wsX5_distanceOf rm_X5_distanceOf (MW L c [] []) rkI [.ref (L 0), .int (iZ v1)] σ post :=
  xMet.of (maxL := 8) (by decide +kernel) rfl (Nat.le_of_ble_eq_true rfl) (fun K h1 h2 h3 h4 _ => h K h1 ⟨h2, h4, h3⟩)

/-! X5_apart -/
abbrev rm_X5_apart : Room := { frames := 2, cells := 0, slots := 0, locals := 81 }
theorem inX5_apart : ∀ w ∈ wsX50, w ∈ wsX5_apart := by decide +kernel
theorem lk_X5_apart_mm115 : Cond.methodLink RX5 115 Lib.Math.min.name ∈ wsX5_apart := List.mem_of_getElem? (i := 1) (by decide +kernel)
theorem lk_X5_apart_ms115 : Cond.static Lib.Math.min.name ∈ wsX5_apart := List.mem_of_getElem? (i := 2) (by decide +kernel)
theorem lk_X5_apart_mi115 : Cond.initialized "java/lang/Math" ∈ wsX5_apart := List.mem_of_getElem? (i := 3) (by decide +kernel)
theorem lk_X5_apart_mc115 : Cond.code Lib.Math.min.name Lib.Math.min.code 2 (some .int) ∈ wsX5_apart := List.mem_of_getElem? (i := 4) (by decide +kernel)
theorem lk_X5_apart_mm125 : Cond.methodLink RX5 125 Lib.Math.max.name ∈ wsX5_apart := List.mem_of_getElem? (i := 5) (by decide +kernel)
theorem lk_X5_apart_ms125 : Cond.static Lib.Math.max.name ∈ wsX5_apart := List.mem_of_getElem? (i := 6) (by decide +kernel)
theorem lk_X5_apart_mi125 : Cond.initialized "java/lang/Math" ∈ wsX5_apart := List.mem_of_getElem? (i := 3) (by decide +kernel)
theorem lk_X5_apart_mc125 : Cond.code Lib.Math.max.name Lib.Math.max.code 2 (some .int) ∈ wsX5_apart := List.mem_of_getElem? (i := 7) (by decide +kernel)
theorem lk_X5_apart_f35 : Cond.fieldLink RX5 35 "CopyHouseModel" "known" "[I" ∈ wsX5_apart := List.mem_of_getElem? (i := 8) (by decide +kernel)
def C_X5_apart (K : KT) (L : Nat → Nat) (c : Nat → ClassId) (post : Int → MS → Prop) : Prop := kOK K cX5_apart RX5 wsX5_apart (some .int) rm_X5_apart ∧ K.nL = 4 ∧ kQ K (MW L c [] []) rkI post rm_X5_apart
def P_X5_apart_0 (K : KT) (L : Nat → Nat) (c : Nat → ClassId) (σ : MS) (v1 v2 : Int) : Prop := G K (MW L c [] [] σ) (0, 0) [(0, .ref (L 0)), (1, .int (iZ v1)), (2, .int (iZ v2))] 0 []
set_option maxRecDepth 100000 in
set_option maxHeartbeats 4000000 in
theorem b_X5_apart_0 {K : KT} {L : Nat → Nat} {c : Nat → ClassId} {post : Int → MS → Prop} (C : C_X5_apart K L c post) {p_take : MS → Int → Prop} {u_take : MS → Int → MS} (h_take : H_X5_take p_take u_take) {p_distanceOf : MS → Int → Prop} {o_distanceOf : MS → Int → Int → MS → Prop} (h_distanceOf : H_X5_distanceOf p_distanceOf o_distanceOf) {σ : MS} {v1 v2 : Int} (h : (-2147483648 ≤ v1 ∧ v1 < 2147483648) ∧ (-2147483648 ≤ v2 ∧ v2 < 2147483648) ∧ (0 ≤ ((24 * (if v2 < v1 then v2 else v1)) + (if v1 < v2 then v2 else v1)) ∧ ((24 * (if v2 < v1 then v2 else v1)) + (if v1 < v2 then v2 else v1)) < 576) ∧ (-2147483648 ≤ ((σ 12) ((24 * (if v2 < v1 then v2 else v1)) + (if v1 < v2 then v2 else v1))) ∧ ((σ 12) ((24 * (if v2 < v1 then v2 else v1)) + (if v1 < v2 then v2 else v1))) < 2147483648) ∧ ((¬ ((σ 12) ((24 * (if v2 < v1 then v2 else v1)) + (if v1 < v2 then v2 else v1))) = ((-1)) → post ((σ 12) ((24 * (if v2 < v1 then v2 else v1)) + (if v1 < v2 then v2 else v1))) σ) ∧ (((σ 12) ((24 * (if v2 < v1 then v2 else v1)) + (if v1 < v2 then v2 else v1))) = ((-1)) → (p_take σ v1) ∧ (p_distanceOf ((u_take σ v1)) v2) ∧ ∀ (r7 : Int) (σ8 : MS), o_distanceOf ((u_take σ v1)) v2 r7 σ8 → post ((upI (σ8 12) ((24 * (if v2 < v1 then v2 else v1)) + (if v1 < v2 then v2 else v1)) r7) ((24 * (if v2 < v1 then v2 else v1)) + (if v1 < v2 then v2 else v1))) (upM σ8 12 (upI (σ8 12) ((24 * (if v2 < v1 then v2 else v1)) + (if v1 < v2 then v2 else v1)) r7))))) : P_X5_apart_0 K L c σ v1 v2 := by
  refine g_bipush C.1 (z := 24) dX5_apart_0 (by decide) ?_
  refine g_iload_n C.1 1 dX5_apart_2 rfl rfl ?_
  refine g_iload_n C.1 2 dX5_apart_3 rfl rfl ?_
  obtain ⟨hc1, h⟩ := h
  obtain ⟨hc2, h⟩ := h
  refine g_min C.1 (x := v1) (y := v2) hc1 hc2 lk_X5_apart_mm115 lk_X5_apart_ms115 lk_X5_apart_mi115 lk_X5_apart_mc115 (Nat.le_of_ble_eq_true rfl) (Nat.le_of_ble_eq_true rfl) ⟨Nat.le_of_ble_eq_true rfl, Nat.le_of_ble_eq_true rfl⟩ dX5_apart_4 ?_
  refine g_imul C.1 (x := 24) (y := if v2 < v1 then v2 else v1) dX5_apart_7 ?_
  refine g_iload_n C.1 1 dX5_apart_8 rfl rfl ?_
  refine g_iload_n C.1 2 dX5_apart_9 rfl rfl ?_
  refine g_max C.1 (x := v1) (y := v2) hc1 hc2 lk_X5_apart_mm125 lk_X5_apart_ms125 lk_X5_apart_mi125 lk_X5_apart_mc125 (Nat.le_of_ble_eq_true rfl) (Nat.le_of_ble_eq_true rfl) ⟨Nat.le_of_ble_eq_true rfl, Nat.le_of_ble_eq_true rfl⟩ dX5_apart_10 ?_
  refine g_iadd C.1 (x := 24 * (if v2 < v1 then v2 else v1)) (y := if v1 < v2 then v2 else v1) dX5_apart_13 ?_
  refine g_istore_n C.1 (loc' := [(3, .int (iZ ((24 * (if v2 < v1 then v2 else v1)) + (if v1 < v2 then v2 else v1)))), (0, .ref (L 0)), (1, .int (iZ v1)), (2, .int (iZ v2))]) C.2.1 dX5_apart_14 rfl (by decide) rfl ?_
  refine g_aload_n C.1 1 dX5_apart_15 rfl rfl ?_
  refine m_get C.1 inX5_apart 12 (by decide) (v := .ref (L 12)) rfl lk_X5_apart_f35 rfl dX5_apart_16 ?_
  refine g_iload_n C.1 0 dX5_apart_19 rfl rfl ?_
  obtain ⟨hi3, h⟩ := h
  refine m_ald C.1 9 8 (N := 576) (f := (σ 12)) (e := ((24 * (if v2 < v1 then v2 else v1)) + (if v1 < v2 then v2 else v1))) rfl rfl (by decide) hi3 dX5_apart_20 ?_
  refine g_iconst C.1 (z := (-1)) dX5_apart_21 ?_
  obtain ⟨hc4, h⟩ := h
  refine g_icmp_ne C.1 (tgt := 41) dX5_apart_22 (by decide) hc4 (by decide) (fun hc => ?_) (fun hc => ?_)
  · have h := h.1 hc
    refine g_aload_n C.1 1 dX5_apart_41 rfl rfl ?_
    refine m_get C.1 inX5_apart 12 (by decide) (v := .ref (L 12)) rfl lk_X5_apart_f35 rfl dX5_apart_42 ?_
    refine g_iload_n C.1 0 dX5_apart_45 rfl rfl ?_
    refine m_ald C.1 9 8 (N := 576) (f := (σ 12)) (e := ((24 * (if v2 < v1 then v2 else v1)) + (if v1 < v2 then v2 else v1))) rfl rfl (by decide) hi3 dX5_apart_46 ?_
    exact x_iret C.1 C.2.2 rfl ⟨Nat.le_of_ble_eq_true rfl, Nat.le_of_ble_eq_true rfl⟩ dX5_apart_47 h
  · have h := h.2 hc
    refine g_aload_n C.1 1 dX5_apart_25 rfl rfl ?_
    refine g_iload_n C.1 2 dX5_apart_26 rfl rfl ?_
    obtain ⟨hp5, h⟩ := h
    refine x_callV C.1 (h_take K.l L c σ v1 hp5) (ci := 6) (q := (RX5, TX5, 17)) rfl m_recv (fun ht => cwV 1 ht gX5_apart_X5_take rfl rfl rfl (by decide +kernel) ⟨Nat.le_of_ble_eq_true rfl, Nat.le_of_ble_eq_true rfl⟩) rfl rfl (Nat.le_of_ble_eq_true rfl) ⟨Nat.le_of_ble_eq_true rfl, Nat.le_of_ble_eq_true rfl⟩ dX5_apart_27 (fun r σ9 hq => ?_)
    rw [hq.1, hq.2]
    show G K (MW L c [] [] ((u_take σ v1))) (0, 0) [(3, .int (iZ ((24 * (if v2 < v1 then v2 else v1)) + (if v1 < v2 then v2 else v1)))), (0, .ref (L 0)), (1, .int (iZ v1)), (2, .int (iZ v2))] 30 []
    refine g_aload_n C.1 1 dX5_apart_30 rfl rfl ?_
    refine m_get C.1 inX5_apart 12 (by decide) (v := .ref (L 12)) rfl lk_X5_apart_f35 rfl dX5_apart_31 ?_
    refine g_iload_n C.1 0 dX5_apart_34 rfl rfl ?_
    refine g_aload_n C.1 1 dX5_apart_35 rfl rfl ?_
    refine g_iload_n C.1 3 dX5_apart_36 rfl rfl ?_
    obtain ⟨hp6, h⟩ := h
    refine x_callV C.1 (h_distanceOf K.l L c ((u_take σ v1)) v2 hp6) (ci := 6) (q := (RX5, TX5, 17)) rfl m_recv (fun ht => cwV 1 ht gX5_apart_X5_distanceOf rfl rfl rfl (by decide +kernel) ⟨Nat.le_of_ble_eq_true rfl, Nat.le_of_ble_eq_true rfl⟩) rfl rfl (Nat.le_of_ble_eq_true rfl) ⟨Nat.le_of_ble_eq_true rfl, Nat.le_of_ble_eq_true rfl⟩ dX5_apart_37 (fun r7 σ8 hq => ?_)
    have h := h r7 σ8 hq
    show G K (MW L c [] [] σ8) (0, 0) [(3, .int (iZ ((24 * (if v2 < v1 then v2 else v1)) + (if v1 < v2 then v2 else v1)))), (0, .ref (L 0)), (1, .int (iZ v1)), (2, .int (iZ v2))] 40 [.int (iZ r7), .int (iZ ((24 * (if v2 < v1 then v2 else v1)) + (if v1 < v2 then v2 else v1))), .ref (L 12)]
    refine m_ast C.1 9 8 (N := 576) (f := (σ8 12)) (e := ((24 * (if v2 < v1 then v2 else v1)) + (if v1 < v2 then v2 else v1))) (z := r7) (X' := []) (σ' := upM σ8 12 (upI (σ8 12) ((24 * (if v2 < v1 then v2 else v1)) + (if v1 < v2 then v2 else v1)) r7)) rfl rfl rfl (by decide) hi3 dX5_apart_40 ?_
    refine g_aload_n C.1 1 dX5_apart_41 rfl rfl ?_
    refine m_get C.1 inX5_apart 12 (by decide) (v := .ref (L 12)) rfl lk_X5_apart_f35 rfl dX5_apart_42 ?_
    refine g_iload_n C.1 0 dX5_apart_45 rfl rfl ?_
    refine m_ald C.1 9 8 (N := 576) (f := (upI (σ8 12) ((24 * (if v2 < v1 then v2 else v1)) + (if v1 < v2 then v2 else v1)) r7)) (e := ((24 * (if v2 < v1 then v2 else v1)) + (if v1 < v2 then v2 else v1))) rfl rfl (by decide) hi3 dX5_apart_46 ?_
    exact x_iret C.1 C.2.2 rfl ⟨Nat.le_of_ble_eq_true rfl, Nat.le_of_ble_eq_true rfl⟩ dX5_apart_47 h
def H_X5_apart (p : MS → Int → Int → Prop) (o : MS → Int → Int → Int → MS → Prop) : Prop := ∀ (l : Launch) (L : Nat → Nat) (c : Nat → ClassId) (σ : MS) (v1 v2 : Int), p σ v1 v2 → xMet l yX5_apart wsX5_apart rm_X5_apart (MW L c [] []) rkI [.ref (L 0), .int (iZ v1), .int (iZ v2)] σ (fun r σ' => o σ v1 v2 r σ')
theorem m_X5_apart {l : Launch} {L : Nat → Nat} {c : Nat → ClassId} {σ : MS} {v1 v2 : Int} {post : Int → MS → Prop} (h : ∀ K : KT, K.l = l → C_X5_apart K L c post → P_X5_apart_0 K L c σ v1 v2) : xMet l yX5_apart wsX5_apart rm_X5_apart (MW L c [] []) rkI [.ref (L 0), .int (iZ v1), .int (iZ v2)] σ post :=
  xMet.of (maxL := 4) (by decide +kernel) rfl (Nat.le_of_ble_eq_true rfl) (fun K h1 h2 h3 h4 _ => h K h1 ⟨h2, h4, h3⟩)

/-! X5_origin -/
abbrev rm_X5_origin : Room := { frames := 0, cells := 0, slots := 0, locals := 0 }
theorem inX5_origin : ∀ w ∈ wsX50, w ∈ wsX5_origin := by decide +kernel
theorem lk_X5_origin_f19 : Cond.fieldLink RX5 19 "CopyHouseModel" "exemplar" "[I" ∈ wsX5_origin := List.mem_of_getElem? (i := 1) (by decide +kernel)
def C_X5_origin (K : KT) (L : Nat → Nat) (c : Nat → ClassId) (post : Int → MS → Prop) : Prop := kOK K cX5_origin RX5 wsX5_origin (some .int) rm_X5_origin ∧ K.nL = 3 ∧ kQ K (MW L c [] []) rkI post rm_X5_origin
def P_X5_origin_0 (K : KT) (L : Nat → Nat) (c : Nat → ClassId) (σ : MS) (v1 : Int) : Prop := G K (MW L c [] [] σ) (0, 0) [(0, .ref (L 0)), (1, .int (iZ v1))] 0 []
def P_X5_origin_1 (K : KT) (L : Nat → Nat) (c : Nat → ClassId) (σ : MS) (v2 : Int) : Prop := G K (MW L c [] [] σ) (0, 0) [(0, .ref (L 0)), (2, .int (iZ v2))] 2 []
set_option maxRecDepth 100000 in
set_option maxHeartbeats 4000000 in
theorem b_X5_origin_0 {K : KT} {L : Nat → Nat} {c : Nat → ClassId} {post : Int → MS → Prop} (C : C_X5_origin K L c post) {σ : MS} {v1 : Int} (h : P_X5_origin_1 K L c σ v1) : P_X5_origin_0 K L c σ v1 := by
  refine g_iload_n C.1 1 dX5_origin_0 rfl rfl ?_
  refine g_istore_n C.1 (loc' := [(2, .int (iZ v1)), (0, .ref (L 0)), (1, .int (iZ v1))]) C.2.1 dX5_origin_1 rfl (by decide) rfl ?_
  exact g_sub [1, 0] rfl h
set_option maxRecDepth 100000 in
set_option maxHeartbeats 4000000 in
theorem b_X5_origin_1 {K : KT} {L : Nat → Nat} {c : Nat → ClassId} {post : Int → MS → Prop} (C : C_X5_origin K L c post) {σ : MS} {v2 : Int} (h : (0 ≤ v2 ∧ v2 < 24) ∧ (-2147483648 ≤ ((σ 6) v2) ∧ ((σ 6) v2) < 2147483648) ∧ ((((σ 6) v2) = ((-1)) → post v2 σ) ∧ (¬ ((σ 6) v2) = ((-1)) → P_X5_origin_1 K L c σ ((σ 6) v2)))) : P_X5_origin_1 K L c σ v2 := by
  refine g_aload_n C.1 0 dX5_origin_2 rfl rfl ?_
  refine m_get C.1 inX5_origin 6 (by decide) (v := .ref (L 6)) rfl lk_X5_origin_f19 rfl dX5_origin_3 ?_
  refine g_iload_n C.1 1 dX5_origin_6 rfl rfl ?_
  obtain ⟨hi1, h⟩ := h
  refine m_ald C.1 4 3 (N := 24) (f := (σ 6)) (e := v2) rfl rfl (by decide) hi1 dX5_origin_7 ?_
  refine g_iconst C.1 (z := (-1)) dX5_origin_8 ?_
  obtain ⟨hc2, h⟩ := h
  refine g_icmp_eq C.1 (tgt := 22) dX5_origin_9 (by decide) hc2 (by decide) (fun hc => ?_) (fun hc => ?_)
  · have h := h.1 hc
    refine g_iload_n C.1 1 dX5_origin_22 rfl rfl ?_
    exact x_iret C.1 C.2.2 rfl ⟨Nat.le_of_ble_eq_true rfl, Nat.le_of_ble_eq_true rfl⟩ dX5_origin_23 h
  · have h := h.2 hc
    refine g_aload_n C.1 0 dX5_origin_12 rfl rfl ?_
    refine m_get C.1 inX5_origin 6 (by decide) (v := .ref (L 6)) rfl lk_X5_origin_f19 rfl dX5_origin_13 ?_
    refine g_iload_n C.1 1 dX5_origin_16 rfl rfl ?_
    refine m_ald C.1 4 3 (N := 24) (f := (σ 6)) (e := v2) rfl rfl (by decide) hi1 dX5_origin_17 ?_
    refine g_istore_n C.1 (loc' := [(2, .int (iZ ((σ 6) v2))), (0, .ref (L 0))]) C.2.1 dX5_origin_18 rfl (by decide) rfl ?_
    refine g_goto C.1 (tgt := 2) dX5_origin_19 (by decide) ?_
    exact g_sub [1, 0] rfl h
def H_X5_origin (p : MS → Int → Prop) (f : MS → Int → Int) : Prop := ∀ (l : Launch) (L : Nat → Nat) (c : Nat → ClassId) (σ : MS) (v1 : Int), p σ v1 → xMet l yX5_origin wsX5_origin rm_X5_origin (MW L c [] []) rkI [.ref (L 0), .int (iZ v1)] σ (fun r σ' => r = f σ v1 ∧ σ' = σ)
theorem m_X5_origin {l : Launch} {L : Nat → Nat} {c : Nat → ClassId} {σ : MS} {v1 : Int} {post : Int → MS → Prop} (h : ∀ K : KT, K.l = l → C_X5_origin K L c post → P_X5_origin_0 K L c σ v1) : xMet l yX5_origin wsX5_origin rm_X5_origin (MW L c [] []) rkI [.ref (L 0), .int (iZ v1)] σ post :=
  xMet.of (maxL := 3) (by decide +kernel) rfl (Nat.le_of_ble_eq_true rfl) (fun K h1 h2 h3 h4 _ => h K h1 ⟨h2, h4, h3⟩)

/-! X5_generation -/
abbrev rm_X5_generation : Room := { frames := 0, cells := 0, slots := 0, locals := 0 }
theorem inX5_generation : ∀ w ∈ wsX50, w ∈ wsX5_generation := by decide +kernel
theorem lk_X5_generation_f19 : Cond.fieldLink RX5 19 "CopyHouseModel" "exemplar" "[I" ∈ wsX5_generation := List.mem_of_getElem? (i := 1) (by decide +kernel)
def C_X5_generation (K : KT) (L : Nat → Nat) (c : Nat → ClassId) (post : Int → MS → Prop) : Prop := kOK K cX5_generation RX5 wsX5_generation (some .int) rm_X5_generation ∧ K.nL = 4 ∧ kQ K (MW L c [] []) rkI post rm_X5_generation
def P_X5_generation_0 (K : KT) (L : Nat → Nat) (c : Nat → ClassId) (σ : MS) (v1 : Int) : Prop := G K (MW L c [] [] σ) (0, 0) [(0, .ref (L 0)), (1, .int (iZ v1))] 0 []
def P_X5_generation_1 (K : KT) (L : Nat → Nat) (c : Nat → ClassId) (σ : MS) (v2 v3 : Int) : Prop := G K (MW L c [] [] σ) (0, 0) [(0, .ref (L 0)), (2, .int (iZ v2)), (3, .int (iZ v3))] 4 []
set_option maxRecDepth 100000 in
set_option maxHeartbeats 4000000 in
theorem b_X5_generation_0 {K : KT} {L : Nat → Nat} {c : Nat → ClassId} {post : Int → MS → Prop} (C : C_X5_generation K L c post) {σ : MS} {v1 : Int} (h : P_X5_generation_1 K L c σ 0 v1) : P_X5_generation_0 K L c σ v1 := by
  refine g_iconst C.1 (z := 0) dX5_generation_0 ?_
  refine g_istore_n C.1 (loc' := [(2, .int (iZ 0)), (0, .ref (L 0)), (1, .int (iZ v1))]) C.2.1 dX5_generation_1 rfl (by decide) rfl ?_
  refine g_iload_n C.1 2 dX5_generation_2 rfl rfl ?_
  refine g_istore_n C.1 (loc' := [(3, .int (iZ v1)), (2, .int (iZ 0)), (0, .ref (L 0)), (1, .int (iZ v1))]) C.2.1 dX5_generation_3 rfl (by decide) rfl ?_
  exact g_sub [2, 1, 0] rfl h
set_option maxRecDepth 100000 in
set_option maxHeartbeats 4000000 in
theorem b_X5_generation_1 {K : KT} {L : Nat → Nat} {c : Nat → ClassId} {post : Int → MS → Prop} (C : C_X5_generation K L c post) {σ : MS} {v2 v3 : Int} (h : (0 ≤ v3 ∧ v3 < 24) ∧ (-2147483648 ≤ ((σ 6) v3) ∧ ((σ 6) v3) < 2147483648) ∧ ((((σ 6) v3) = ((-1)) → post v2 σ) ∧ (¬ ((σ 6) v3) = ((-1)) → P_X5_generation_1 K L c σ (v2 + 1) ((σ 6) v3)))) : P_X5_generation_1 K L c σ v2 v3 := by
  refine g_aload_n C.1 0 dX5_generation_4 rfl rfl ?_
  refine m_get C.1 inX5_generation 6 (by decide) (v := .ref (L 6)) rfl lk_X5_generation_f19 rfl dX5_generation_5 ?_
  refine g_iload_n C.1 2 dX5_generation_8 rfl rfl ?_
  obtain ⟨hi1, h⟩ := h
  refine m_ald C.1 4 3 (N := 24) (f := (σ 6)) (e := v3) rfl rfl (by decide) hi1 dX5_generation_9 ?_
  refine g_iconst C.1 (z := (-1)) dX5_generation_10 ?_
  obtain ⟨hc2, h⟩ := h
  refine g_icmp_eq C.1 (tgt := 27) dX5_generation_11 (by decide) hc2 (by decide) (fun hc => ?_) (fun hc => ?_)
  · have h := h.1 hc
    refine g_iload_n C.1 1 dX5_generation_27 rfl rfl ?_
    exact x_iret C.1 C.2.2 rfl ⟨Nat.le_of_ble_eq_true rfl, Nat.le_of_ble_eq_true rfl⟩ dX5_generation_28 h
  · have h := h.2 hc
    refine g_iinc C.1 (z := v2) (w := 1) (loc' := [(2, .int (iZ (v2 + 1))), (0, .ref (L 0)), (3, .int (iZ v3))]) 1 C.2.1 dX5_generation_14 rfl (by decide) rfl ?_
    refine g_aload_n C.1 1 dX5_generation_17 rfl rfl ?_
    refine m_get C.1 inX5_generation 6 (by decide) (v := .ref (L 6)) rfl lk_X5_generation_f19 rfl dX5_generation_18 ?_
    refine g_iload_n C.1 2 dX5_generation_21 rfl rfl ?_
    refine m_ald C.1 4 3 (N := 24) (f := (σ 6)) (e := v3) rfl rfl (by decide) hi1 dX5_generation_22 ?_
    refine g_istore_n C.1 (loc' := [(3, .int (iZ ((σ 6) v3))), (2, .int (iZ (v2 + 1))), (0, .ref (L 0))]) C.2.1 dX5_generation_23 rfl (by decide) rfl ?_
    refine g_goto C.1 (tgt := 4) dX5_generation_24 (by decide) ?_
    exact g_sub [2, 1, 0] rfl h
def H_X5_generation (p : MS → Int → Prop) (f : MS → Int → Int) : Prop := ∀ (l : Launch) (L : Nat → Nat) (c : Nat → ClassId) (σ : MS) (v1 : Int), p σ v1 → xMet l yX5_generation wsX5_generation rm_X5_generation (MW L c [] []) rkI [.ref (L 0), .int (iZ v1)] σ (fun r σ' => r = f σ v1 ∧ σ' = σ)
theorem m_X5_generation {l : Launch} {L : Nat → Nat} {c : Nat → ClassId} {σ : MS} {v1 : Int} {post : Int → MS → Prop} (h : ∀ K : KT, K.l = l → C_X5_generation K L c post → P_X5_generation_0 K L c σ v1) : xMet l yX5_generation wsX5_generation rm_X5_generation (MW L c [] []) rkI [.ref (L 0), .int (iZ v1)] σ post :=
  xMet.of (maxL := 4) (by decide +kernel) rfl (Nat.le_of_ble_eq_true rfl) (fun K h1 h2 h3 h4 _ => h K h1 ⟨h2, h4, h3⟩)

/-! X5_isOf -/
abbrev rm_X5_isOf : Room := { frames := 0, cells := 0, slots := 0, locals := 0 }
theorem inX5_isOf : ∀ w ∈ wsX50, w ∈ wsX5_isOf := by decide +kernel
theorem lk_X5_isOf_f19 : Cond.fieldLink RX5 19 "CopyHouseModel" "exemplar" "[I" ∈ wsX5_isOf := List.mem_of_getElem? (i := 1) (by decide +kernel)
def C_X5_isOf (K : KT) (L : Nat → Nat) (c : Nat → ClassId) (post : Int → MS → Prop) : Prop := kOK K cX5_isOf RX5 wsX5_isOf (some .boolean) rm_X5_isOf ∧ K.nL = 4 ∧ kQ K (MW L c [] []) rkI post rm_X5_isOf
def P_X5_isOf_0 (K : KT) (L : Nat → Nat) (c : Nat → ClassId) (σ : MS) (v1 v2 : Int) : Prop := G K (MW L c [] [] σ) (0, 0) [(0, .ref (L 0)), (1, .int (iZ v1)), (2, .int (iZ v2))] 0 []
def P_X5_isOf_1 (K : KT) (L : Nat → Nat) (c : Nat → ClassId) (σ : MS) (v2 v3 : Int) : Prop := G K (MW L c [] [] σ) (0, 0) [(0, .ref (L 0)), (2, .int (iZ v2)), (3, .int (iZ v3))] 2 []
def P_X5_isOf_2 (K : KT) (L : Nat → Nat) (c : Nat → ClassId) (σ : MS) (v2 v3 : Int) : Prop := G K (MW L c [] [] σ) (0, 0) [(2, .int (iZ v2)), (3, .int (iZ v3))] 22 []
set_option maxRecDepth 100000 in
set_option maxHeartbeats 4000000 in
theorem b_X5_isOf_0 {K : KT} {L : Nat → Nat} {c : Nat → ClassId} {post : Int → MS → Prop} (C : C_X5_isOf K L c post) {σ : MS} {v1 v2 : Int} (h : P_X5_isOf_1 K L c σ v2 v1) : P_X5_isOf_0 K L c σ v1 v2 := by
  refine g_iload_n C.1 1 dX5_isOf_0 rfl rfl ?_
  refine g_istore_n C.1 (loc' := [(3, .int (iZ v1)), (0, .ref (L 0)), (1, .int (iZ v1)), (2, .int (iZ v2))]) C.2.1 dX5_isOf_1 rfl (by decide) rfl ?_
  exact g_sub [1, 3, 0] rfl h
set_option maxRecDepth 100000 in
set_option maxHeartbeats 4000000 in
theorem b_X5_isOf_1 {K : KT} {L : Nat → Nat} {c : Nat → ClassId} {post : Int → MS → Prop} (C : C_X5_isOf K L c post) {σ : MS} {v2 v3 : Int} (h : (-2147483648 ≤ v3 ∧ v3 < 2147483648) ∧ ((v3 = ((-1)) → P_X5_isOf_2 K L c σ v2 v3) ∧ (¬ v3 = ((-1)) → (-2147483648 ≤ v2 ∧ v2 < 2147483648) ∧ ((v3 = v2 → P_X5_isOf_2 K L c σ v2 v3) ∧ (¬ v3 = v2 → (0 ≤ v3 ∧ v3 < 24) ∧ P_X5_isOf_1 K L c σ v2 ((σ 6) v3)))))) : P_X5_isOf_1 K L c σ v2 v3 := by
  refine g_iload_n C.1 2 dX5_isOf_2 rfl rfl ?_
  refine g_iconst C.1 (z := (-1)) dX5_isOf_3 ?_
  obtain ⟨hc1, h⟩ := h
  refine g_icmp_eq C.1 (tgt := 22) dX5_isOf_4 (by decide) hc1 (by decide) (fun hc => ?_) (fun hc => ?_)
  · have h := h.1 hc
    exact g_sub [1, 2] rfl h
  · have h := h.2 hc
    refine g_iload_n C.1 2 dX5_isOf_7 rfl rfl ?_
    refine g_iload_n C.1 1 dX5_isOf_8 rfl rfl ?_
    obtain ⟨hc2, h⟩ := h
    refine g_icmp_eq C.1 (tgt := 22) dX5_isOf_9 (by decide) hc1 hc2 (fun hc => ?_) (fun hc => ?_)
    · have h := h.1 hc
      exact g_sub [1, 2] rfl h
    · have h := h.2 hc
      refine g_aload_n C.1 0 dX5_isOf_12 rfl rfl ?_
      refine m_get C.1 inX5_isOf 6 (by decide) (v := .ref (L 6)) rfl lk_X5_isOf_f19 rfl dX5_isOf_13 ?_
      refine g_iload_n C.1 2 dX5_isOf_16 rfl rfl ?_
      obtain ⟨hi3, h⟩ := h
      refine m_ald C.1 4 3 (N := 24) (f := (σ 6)) (e := v3) rfl rfl (by decide) hi3 dX5_isOf_17 ?_
      refine g_istore_n C.1 (loc' := [(3, .int (iZ ((σ 6) v3))), (0, .ref (L 0)), (2, .int (iZ v2))]) C.2.1 dX5_isOf_18 rfl (by decide) rfl ?_
      refine g_goto C.1 (tgt := 2) dX5_isOf_19 (by decide) ?_
      exact g_sub [1, 2, 0] rfl h
set_option maxRecDepth 100000 in
set_option maxHeartbeats 4000000 in
theorem b_X5_isOf_2 {K : KT} {L : Nat → Nat} {c : Nat → ClassId} {post : Int → MS → Prop} (C : C_X5_isOf K L c post) {σ : MS} {v2 v3 : Int} (h : (-2147483648 ≤ v3 ∧ v3 < 2147483648) ∧ (-2147483648 ≤ v2 ∧ v2 < 2147483648) ∧ post ((if v3 = v2 then 1 else 0)) σ) : P_X5_isOf_2 K L c σ v2 v3 := by
  refine g_iload_n C.1 1 dX5_isOf_22 rfl rfl ?_
  refine g_iload_n C.1 0 dX5_isOf_23 rfl rfl ?_
  obtain ⟨hc1, h⟩ := h
  obtain ⟨hc2, h⟩ := h
  suffices hk : G K (MW L c [] [] σ) (0, 0) [(2, .int (iZ v2)), (3, .int (iZ v3))] 32 [.int (iZ (if v3 = v2 then 1 else 0))] by
    refine g_icmp_ne C.1 (tgt := 31) dX5_isOf_24 (by decide) hc1 hc2 (fun hc => ?_) (fun hc => ?_)
    · refine g_iconst C.1 (z := 0) dX5_isOf_31 ?_
      rw [if_neg hc] at hk
      exact hk
    · refine g_iconst C.1 (z := 1) dX5_isOf_27 ?_
      refine g_goto C.1 (tgt := 32) dX5_isOf_28 (by decide) ?_
      rw [if_pos hc] at hk
      exact hk
  exact x_zret C.1 C.2.2 rfl ⟨Nat.le_of_ble_eq_true rfl, Nat.le_of_ble_eq_true rfl⟩ dX5_isOf_32 (by by_cases hq : v3 = v2 <;> simp [hq]) h
def H_X5_isOf (p : MS → Int → Int → Prop) (f : MS → Int → Int → Bool) : Prop := ∀ (l : Launch) (L : Nat → Nat) (c : Nat → ClassId) (σ : MS) (v1 v2 : Int), p σ v1 v2 → xMet l yX5_isOf wsX5_isOf rm_X5_isOf (MW L c [] []) rkI [.ref (L 0), .int (iZ v1), .int (iZ v2)] σ (fun r σ' => r = (if f σ v1 v2 = true then 1 else 0) ∧ σ' = σ)
theorem m_X5_isOf {l : Launch} {L : Nat → Nat} {c : Nat → ClassId} {σ : MS} {v1 v2 : Int} {post : Int → MS → Prop} (h : ∀ K : KT, K.l = l → C_X5_isOf K L c post → P_X5_isOf_0 K L c σ v1 v2) : xMet l yX5_isOf wsX5_isOf rm_X5_isOf (MW L c [] []) rkI [.ref (L 0), .int (iZ v1), .int (iZ v2)] σ post :=
  xMet.of (maxL := 4) (by decide +kernel) rfl (Nat.le_of_ble_eq_true rfl) (fun K h1 h2 h3 h4 _ => h K h1 ⟨h2, h4, h3⟩)

/-! X5_told -/
abbrev rm_X5_told : Room := { frames := 3, cells := 0, slots := 0, locals := 104 }
theorem inX5_told : ∀ w ∈ wsX50, w ∈ wsX5_told := by decide +kernel
theorem lk_X5_told_f51 : Cond.fieldLink RX5 51 "CopyHouseModel" "texts" "I" ∈ wsX5_told := List.mem_of_getElem? (i := 1) (by decide +kernel)
theorem lk_X5_told_f16 : Cond.fieldLink RX5 16 "CopyHouseModel" "length" "[I" ∈ wsX5_told := List.mem_of_getElem? (i := 3) (by decide +kernel)
theorem lk_X5_told_f19 : Cond.fieldLink RX5 19 "CopyHouseModel" "exemplar" "[I" ∈ wsX5_told := List.mem_of_getElem? (i := 2) (by decide +kernel)
theorem lk_X5_told_f22 : Cond.fieldLink RX5 22 "CopyHouseModel" "scribe" "[I" ∈ wsX5_told := List.mem_of_getElem? (i := 4) (by decide +kernel)
theorem lk_X5_told_f25 : Cond.fieldLink RX5 25 "CopyHouseModel" "isThere" "[Z" ∈ wsX5_told := List.mem_of_getElem? (i := 5) (by decide +kernel)
def C_X5_told (K : KT) (L : Nat → Nat) (c : Nat → ClassId) (post : Int → MS → Prop) : Prop := kOK K cX5_told RX5 wsX5_told (some .int) rm_X5_told ∧ K.nL = 6 ∧ kQ K (MW L c [] []) rkI post rm_X5_told
def P_X5_told_0 (K : KT) (L : Nat → Nat) (c : Nat → ClassId) (σ : MS) (v1 v2 : Int) : Prop := G K (MW L c [] [] σ) (0, 0) [(0, .ref (L 0)), (1, .int (iZ v1)), (2, .int (iZ v2))] 0 []
def P_X5_told_1 (K : KT) (L : Nat → Nat) (c : Nat → ClassId) (σ : MS) (v1 v2 v3 v4 v5 : Int) : Prop := G K (MW L c [] [] σ) (0, 0) [(0, .ref (L 0)), (1, .int (iZ v1)), (2, .int (iZ v2)), (3, .int (iZ v3)), (4, .int (iZ v4)), (5, .int (iZ v5))] 8 []
set_option maxRecDepth 100000 in
set_option maxHeartbeats 4000000 in
theorem b_X5_told_0 {K : KT} {L : Nat → Nat} {c : Nat → ClassId} {post : Int → MS → Prop} (C : C_X5_told K L c post) {σ : MS} {v1 v2 : Int} (h : P_X5_told_1 K L c σ v1 v2 0 0 0) : P_X5_told_0 K L c σ v1 v2 := by
  refine g_iconst C.1 (z := 0) dX5_told_0 ?_
  refine g_istore_n C.1 (loc' := [(3, .int (iZ 0)), (0, .ref (L 0)), (1, .int (iZ v1)), (2, .int (iZ v2))]) C.2.1 dX5_told_1 rfl (by decide) rfl ?_
  refine g_iconst C.1 (z := 0) dX5_told_2 ?_
  refine g_istore C.1 (loc' := [(4, .int (iZ 0)), (3, .int (iZ 0)), (0, .ref (L 0)), (1, .int (iZ v1)), (2, .int (iZ v2))]) C.2.1 dX5_told_3 (by decide) rfl ?_
  refine g_iconst C.1 (z := 0) dX5_told_5 ?_
  refine g_istore C.1 (loc' := [(5, .int (iZ 0)), (4, .int (iZ 0)), (3, .int (iZ 0)), (0, .ref (L 0)), (1, .int (iZ v1)), (2, .int (iZ v2))]) C.2.1 dX5_told_6 (by decide) rfl ?_
  exact g_sub [3, 4, 5, 2, 1, 0] rfl h
set_option maxRecDepth 100000 in
set_option maxHeartbeats 4000000 in
theorem b_X5_told_1 {K : KT} {L : Nat → Nat} {c : Nat → ClassId} {post : Int → MS → Prop} (C : C_X5_told K L c post) {p_origin : MS → Int → Prop} {f_origin : MS → Int → Int} (h_origin : H_X5_origin p_origin f_origin) {p_apart : MS → Int → Int → Prop} {o_apart : MS → Int → Int → Int → MS → Prop} (h_apart : H_X5_apart p_apart o_apart) {p_generation : MS → Int → Prop} {f_generation : MS → Int → Int} (h_generation : H_X5_generation p_generation f_generation) {p_isOf : MS → Int → Int → Prop} {f_isOf : MS → Int → Int → Bool} (h_isOf : H_X5_isOf p_isOf f_isOf) {σ : MS} {v1 v2 v3 v4 v5 : Int} (h : (-2147483648 ≤ v5 ∧ v5 < 2147483648) ∧ (-2147483648 ≤ (σ 3 0) ∧ (σ 3 0) < 2147483648) ∧ (((σ 3 0) ≤ v5 → (-2147483648 ≤ v2 ∧ v2 < 2147483648) ∧ (((v2 < 0 ∨ 7 < v2) → (p_origin σ v1) ∧ (p_apart σ v1 (f_origin σ v1)) ∧ ∀ (r6 : Int) (σ7 : MS), o_apart σ v1 (f_origin σ v1) r6 σ7 → post r6 σ7) ∧ (v2 = 0 → (0 ≤ v1 ∧ v1 < 24) ∧ post ((σ 5) v1) σ) ∧ (v2 = 1 → (0 ≤ v1 ∧ v1 < 24) ∧ post ((σ 6) v1) σ) ∧ (v2 = 2 → (0 ≤ v1 ∧ v1 < 24) ∧ post ((σ 7) v1) σ) ∧ (v2 = 3 → (p_generation σ v1) ∧ post (f_generation σ v1) σ) ∧ (v2 = 4 → (0 ≤ v1 ∧ v1 < 24) ∧ (-2147483648 ≤ ((σ 8) v1) ∧ ((σ 8) v1) < 2147483648) ∧ post ((if ¬ ((σ 8) v1) = 0 then 1 else 0)) σ) ∧ (v2 = 5 → post v3 σ) ∧ (v2 = 6 → post v4 σ) ∧ (v2 = 7 → (0 ≤ v1 ∧ v1 < 24) ∧ (-2147483648 ≤ ((σ 6) v1) ∧ ((σ 6) v1) < 2147483648) ∧ ((¬ ((σ 6) v1) = ((-1)) → (p_apart σ v1 ((σ 6) v1)) ∧ ∀ (r17 : Int) (σ18 : MS), o_apart σ v1 ((σ 6) v1) r17 σ18 → post r17 σ18) ∧ (((σ 6) v1) = ((-1)) → post 0 σ))))) ∧ (¬ (σ 3 0) ≤ v5 → (0 ≤ v5 ∧ v5 < 24) ∧ (-2147483648 ≤ ((σ 6) v5) ∧ ((σ 6) v5) < 2147483648) ∧ (-2147483648 ≤ v1 ∧ v1 < 2147483648) ∧ ((v5 = v1 → P_X5_told_1 K L c σ v1 v2 (v3 + ((if ((σ 6) v5) = v1 then 1 else 0))) (v4 + 0) (v5 + 1)) ∧ (¬ v5 = v1 → (p_isOf σ v5 v1) ∧ ((¬ (f_isOf σ v5 v1 = true) → P_X5_told_1 K L c σ v1 v2 (v3 + ((if ((σ 6) v5) = v1 then 1 else 0))) (v4 + 0) (v5 + 1)) ∧ (f_isOf σ v5 v1 = true → P_X5_told_1 K L c σ v1 v2 (v3 + ((if ((σ 6) v5) = v1 then 1 else 0))) (v4 + 1) (v5 + 1)))))))) : P_X5_told_1 K L c σ v1 v2 v3 v4 v5 := by
  refine g_iload C.1 5 dX5_told_8 rfl ?_
  refine g_aload_n C.1 0 dX5_told_10 rfl rfl ?_
  refine m_get C.1 inX5_told 3 (by decide) (v := .int (iZ (σ 3 0))) rfl lk_X5_told_f51 rfl dX5_told_11 ?_
  obtain ⟨hc1, h⟩ := h
  obtain ⟨hc2, h⟩ := h
  refine g_icmp_ge C.1 (tgt := 68) dX5_told_14 (by decide) hc1 hc2 (fun hc => ?_) (fun hc => ?_)
  · have h := h.1 hc
    refine g_iload_n C.1 2 dX5_told_68 rfl rfl ?_
    obtain ⟨hc3, h⟩ := h
    refine g_tsw C.1 (x := v2) (lo := 0) (hi := 7) dX5_told_69 hc3 (fun hc => ?_) (fun h1 h2 => ?_)
    · refine ⟨189, by decide, ?_⟩
      have h := h.1 hc
      refine g_aload_n C.1 0 dX5_told_189 rfl rfl ?_
      refine g_iload_n C.1 1 dX5_told_190 rfl rfl ?_
      refine g_aload_n C.1 0 dX5_told_191 rfl rfl ?_
      refine g_iload_n C.1 1 dX5_told_192 rfl rfl ?_
      obtain ⟨hp4, h⟩ := h
      refine x_callV C.1 (h_origin K.l L c σ v1 hp4) (ci := 6) (q := (RX5, TX5, 17)) rfl m_recv (fun ht => cwV 1 ht gX5_told_X5_origin rfl rfl rfl (by decide +kernel) ⟨Nat.le_of_ble_eq_true rfl, Nat.le_of_ble_eq_true rfl⟩) rfl rfl (Nat.le_of_ble_eq_true rfl) ⟨Nat.le_of_ble_eq_true rfl, Nat.le_of_ble_eq_true rfl⟩ dX5_told_193 (fun r σ9 hq => ?_)
      rw [hq.1, hq.2]
      show G K (MW L c [] [] σ) (0, 0) [(0, .ref (L 0)), (1, .int (iZ v1)), (2, .int (iZ v2)), (3, .int (iZ v3)), (4, .int (iZ v4)), (5, .int (iZ v5))] 196 [.int (iZ (f_origin σ v1)), .int (iZ v1), .ref (L 0)]
      obtain ⟨hp5, h⟩ := h
      refine x_callV C.1 (h_apart K.l L c σ v1 (f_origin σ v1) hp5) (ci := 6) (q := (RX5, TX5, 17)) rfl m_recv (fun ht => cwV 2 ht gX5_told_X5_apart rfl rfl rfl (by decide +kernel) ⟨Nat.le_of_ble_eq_true rfl, Nat.le_of_ble_eq_true rfl⟩) rfl rfl (Nat.le_of_ble_eq_true rfl) ⟨Nat.le_of_ble_eq_true rfl, Nat.le_of_ble_eq_true rfl⟩ dX5_told_196 (fun r6 σ7 hq => ?_)
      have h := h r6 σ7 hq
      show G K (MW L c [] [] σ7) (0, 0) [(0, .ref (L 0)), (1, .int (iZ v1)), (2, .int (iZ v2)), (3, .int (iZ v3)), (4, .int (iZ v4)), (5, .int (iZ v5))] 199 [.int (iZ r6)]
      exact x_iret C.1 C.2.2 rfl ⟨Nat.le_of_ble_eq_true rfl, Nat.le_of_ble_eq_true rfl⟩ dX5_told_199 h
    · have hx : v2 = 0 ∨ v2 = 1 ∨ v2 = 2 ∨ v2 = 3 ∨ v2 = 4 ∨ v2 = 5 ∨ v2 = 6 ∨ v2 = 7 := by omega
      have h := h.2
      rcases hx with hx | hx | hx | hx | hx | hx | hx | hx
      · refine ⟨_, 116, (by rw [hx]; rfl), by decide, ?_⟩
        have h := h.1 hx
        refine g_aload_n C.1 0 dX5_told_116 rfl rfl ?_
        refine m_get C.1 inX5_told 5 (by decide) (v := .ref (L 5)) rfl lk_X5_told_f16 rfl dX5_told_117 ?_
        refine g_iload_n C.1 1 dX5_told_120 rfl rfl ?_
        obtain ⟨hi8, h⟩ := h
        refine m_ald C.1 3 2 (N := 24) (f := (σ 5)) (e := v1) rfl rfl (by decide) hi8 dX5_told_121 ?_
        exact x_iret C.1 C.2.2 rfl ⟨Nat.le_of_ble_eq_true rfl, Nat.le_of_ble_eq_true rfl⟩ dX5_told_122 h
      · refine ⟨_, 123, (by rw [hx]; rfl), by decide, ?_⟩
        have h := h.2.1 hx
        refine g_aload_n C.1 0 dX5_told_123 rfl rfl ?_
        refine m_get C.1 inX5_told 6 (by decide) (v := .ref (L 6)) rfl lk_X5_told_f19 rfl dX5_told_124 ?_
        refine g_iload_n C.1 1 dX5_told_127 rfl rfl ?_
        obtain ⟨hi9, h⟩ := h
        refine m_ald C.1 4 3 (N := 24) (f := (σ 6)) (e := v1) rfl rfl (by decide) hi9 dX5_told_128 ?_
        exact x_iret C.1 C.2.2 rfl ⟨Nat.le_of_ble_eq_true rfl, Nat.le_of_ble_eq_true rfl⟩ dX5_told_129 h
      · refine ⟨_, 130, (by rw [hx]; rfl), by decide, ?_⟩
        have h := h.2.2.1 hx
        refine g_aload_n C.1 0 dX5_told_130 rfl rfl ?_
        refine m_get C.1 inX5_told 7 (by decide) (v := .ref (L 7)) rfl lk_X5_told_f22 rfl dX5_told_131 ?_
        refine g_iload_n C.1 1 dX5_told_134 rfl rfl ?_
        obtain ⟨hi10, h⟩ := h
        refine m_ald C.1 5 4 (N := 24) (f := (σ 7)) (e := v1) rfl rfl (by decide) hi10 dX5_told_135 ?_
        exact x_iret C.1 C.2.2 rfl ⟨Nat.le_of_ble_eq_true rfl, Nat.le_of_ble_eq_true rfl⟩ dX5_told_136 h
      · refine ⟨_, 137, (by rw [hx]; rfl), by decide, ?_⟩
        have h := h.2.2.2.1 hx
        refine g_aload_n C.1 0 dX5_told_137 rfl rfl ?_
        refine g_iload_n C.1 1 dX5_told_138 rfl rfl ?_
        obtain ⟨hp11, h⟩ := h
        refine x_callV C.1 (h_generation K.l L c σ v1 hp11) (ci := 6) (q := (RX5, TX5, 17)) rfl m_recv (fun ht => cwV 1 ht gX5_told_X5_generation rfl rfl rfl (by decide +kernel) ⟨Nat.le_of_ble_eq_true rfl, Nat.le_of_ble_eq_true rfl⟩) rfl rfl (Nat.le_of_ble_eq_true rfl) ⟨Nat.le_of_ble_eq_true rfl, Nat.le_of_ble_eq_true rfl⟩ dX5_told_139 (fun r σ9 hq => ?_)
        rw [hq.1, hq.2]
        show G K (MW L c [] [] σ) (0, 0) [(0, .ref (L 0)), (1, .int (iZ v1)), (2, .int (iZ v2)), (3, .int (iZ v3)), (4, .int (iZ v4)), (5, .int (iZ v5))] 142 [.int (iZ (f_generation σ v1))]
        exact x_iret C.1 C.2.2 rfl ⟨Nat.le_of_ble_eq_true rfl, Nat.le_of_ble_eq_true rfl⟩ dX5_told_142 h
      · refine ⟨_, 143, (by rw [hx]; rfl), by decide, ?_⟩
        have h := h.2.2.2.2.1 hx
        refine g_aload_n C.1 0 dX5_told_143 rfl rfl ?_
        refine m_get C.1 inX5_told 8 (by decide) (v := .ref (L 8)) rfl lk_X5_told_f25 rfl dX5_told_144 ?_
        refine g_iload_n C.1 1 dX5_told_147 rfl rfl ?_
        obtain ⟨hi12, h⟩ := h
        refine m_zald C.1 6 5 (N := 24) (f := (σ 8)) (e := v1) rfl rfl (by decide) hi12 dX5_told_148 ?_
        obtain ⟨hc13, h⟩ := h
        suffices hk : G K (MW L c [] [] σ) (0, 0) [(0, .ref (L 0)), (1, .int (iZ v1)), (2, .int (iZ v2)), (3, .int (iZ v3)), (4, .int (iZ v4)), (5, .int (iZ v5))] 157 [.int (iZ (if ¬ ((σ 8) v1) = 0 then 1 else 0))] by
          refine g_if_eq C.1 (tgt := 156) dX5_told_149 (by decide) hc13 (fun hc => ?_) (fun hc => ?_)
          · refine g_iconst C.1 (z := 0) dX5_told_156 ?_
            rw [if_neg (fun q9 => q9 hc)] at hk
            exact hk
          · refine g_iconst C.1 (z := 1) dX5_told_152 ?_
            refine g_goto C.1 (tgt := 157) dX5_told_153 (by decide) ?_
            rw [if_pos hc] at hk
            exact hk
        exact x_iret C.1 C.2.2 rfl ⟨Nat.le_of_ble_eq_true rfl, Nat.le_of_ble_eq_true rfl⟩ dX5_told_157 h
      · refine ⟨_, 158, (by rw [hx]; rfl), by decide, ?_⟩
        have h := h.2.2.2.2.2.1 hx
        refine g_iload_n C.1 3 dX5_told_158 rfl rfl ?_
        exact x_iret C.1 C.2.2 rfl ⟨Nat.le_of_ble_eq_true rfl, Nat.le_of_ble_eq_true rfl⟩ dX5_told_159 h
      · refine ⟨_, 160, (by rw [hx]; rfl), by decide, ?_⟩
        have h := h.2.2.2.2.2.2.1 hx
        refine g_iload C.1 4 dX5_told_160 rfl ?_
        exact x_iret C.1 C.2.2 rfl ⟨Nat.le_of_ble_eq_true rfl, Nat.le_of_ble_eq_true rfl⟩ dX5_told_162 h
      · refine ⟨_, 163, (by rw [hx]; rfl), by decide, ?_⟩
        have h := h.2.2.2.2.2.2.2 hx
        refine g_aload_n C.1 0 dX5_told_163 rfl rfl ?_
        refine m_get C.1 inX5_told 6 (by decide) (v := .ref (L 6)) rfl lk_X5_told_f19 rfl dX5_told_164 ?_
        refine g_iload_n C.1 1 dX5_told_167 rfl rfl ?_
        obtain ⟨hi14, h⟩ := h
        refine m_ald C.1 4 3 (N := 24) (f := (σ 6)) (e := v1) rfl rfl (by decide) hi14 dX5_told_168 ?_
        refine g_iconst C.1 (z := (-1)) dX5_told_169 ?_
        obtain ⟨hc15, h⟩ := h
        refine g_icmp_ne C.1 (tgt := 177) dX5_told_170 (by decide) hc15 (by decide) (fun hc => ?_) (fun hc => ?_)
        · have h := h.1 hc
          refine g_aload_n C.1 0 dX5_told_177 rfl rfl ?_
          refine g_iload_n C.1 1 dX5_told_178 rfl rfl ?_
          refine g_aload_n C.1 0 dX5_told_179 rfl rfl ?_
          refine m_get C.1 inX5_told 6 (by decide) (v := .ref (L 6)) rfl lk_X5_told_f19 rfl dX5_told_180 ?_
          refine g_iload_n C.1 1 dX5_told_183 rfl rfl ?_
          refine m_ald C.1 4 3 (N := 24) (f := (σ 6)) (e := v1) rfl rfl (by decide) hi14 dX5_told_184 ?_
          obtain ⟨hp16, h⟩ := h
          refine x_callV C.1 (h_apart K.l L c σ v1 ((σ 6) v1) hp16) (ci := 6) (q := (RX5, TX5, 17)) rfl m_recv (fun ht => cwV 2 ht gX5_told_X5_apart rfl rfl rfl (by decide +kernel) ⟨Nat.le_of_ble_eq_true rfl, Nat.le_of_ble_eq_true rfl⟩) rfl rfl (Nat.le_of_ble_eq_true rfl) ⟨Nat.le_of_ble_eq_true rfl, Nat.le_of_ble_eq_true rfl⟩ dX5_told_185 (fun r17 σ18 hq => ?_)
          have h := h r17 σ18 hq
          show G K (MW L c [] [] σ18) (0, 0) [(0, .ref (L 0)), (1, .int (iZ v1)), (2, .int (iZ v2)), (3, .int (iZ v3)), (4, .int (iZ v4)), (5, .int (iZ v5))] 188 [.int (iZ r17)]
          exact x_iret C.1 C.2.2 rfl ⟨Nat.le_of_ble_eq_true rfl, Nat.le_of_ble_eq_true rfl⟩ dX5_told_188 h
        · have h := h.2 hc
          refine g_iconst C.1 (z := 0) dX5_told_173 ?_
          refine g_goto C.1 (tgt := 188) dX5_told_174 (by decide) ?_
          exact x_iret C.1 C.2.2 rfl ⟨Nat.le_of_ble_eq_true rfl, Nat.le_of_ble_eq_true rfl⟩ dX5_told_188 h
  · have h := h.2 hc
    refine g_iload_n C.1 3 dX5_told_17 rfl rfl ?_
    refine g_aload_n C.1 0 dX5_told_18 rfl rfl ?_
    refine m_get C.1 inX5_told 6 (by decide) (v := .ref (L 6)) rfl lk_X5_told_f19 rfl dX5_told_19 ?_
    refine g_iload C.1 5 dX5_told_22 rfl ?_
    obtain ⟨hi19, h⟩ := h
    refine m_ald C.1 4 3 (N := 24) (f := (σ 6)) (e := v5) rfl rfl (by decide) hi19 dX5_told_24 ?_
    refine g_iload_n C.1 1 dX5_told_25 rfl rfl ?_
    obtain ⟨hc20, h⟩ := h
    obtain ⟨hc21, h⟩ := h
    suffices hk : G K (MW L c [] [] σ) (0, 0) [(0, .ref (L 0)), (1, .int (iZ v1)), (2, .int (iZ v2)), (3, .int (iZ v3)), (4, .int (iZ v4)), (5, .int (iZ v5))] 34 [.int (iZ (if ((σ 6) v5) = v1 then 1 else 0)), .int (iZ v3)] by
      refine g_icmp_ne C.1 (tgt := 33) dX5_told_26 (by decide) hc20 hc21 (fun hc => ?_) (fun hc => ?_)
      · refine g_iconst C.1 (z := 0) dX5_told_33 ?_
        rw [if_neg hc] at hk
        exact hk
      · refine g_iconst C.1 (z := 1) dX5_told_29 ?_
        refine g_goto C.1 (tgt := 34) dX5_told_30 (by decide) ?_
        rw [if_pos hc] at hk
        exact hk
    refine g_iadd C.1 (x := v3) (y := (if ((σ 6) v5) = v1 then 1 else 0)) dX5_told_34 ?_
    refine g_istore_n C.1 (loc' := [(3, .int (iZ (v3 + ((if ((σ 6) v5) = v1 then 1 else 0))))), (0, .ref (L 0)), (1, .int (iZ v1)), (2, .int (iZ v2)), (4, .int (iZ v4)), (5, .int (iZ v5))]) C.2.1 dX5_told_35 rfl (by decide) rfl ?_
    refine g_iload C.1 4 dX5_told_36 rfl ?_
    refine g_iload C.1 5 dX5_told_38 rfl ?_
    refine g_iload_n C.1 2 dX5_told_40 rfl rfl ?_
    refine g_icmp_eq C.1 (tgt := 58) dX5_told_41 (by decide) hc1 hc21 (fun hc => ?_) (fun hc => ?_)
    · have h := h.1 hc
      refine g_iconst C.1 (z := 0) dX5_told_58 ?_
      refine g_iadd C.1 (x := v4) (y := 0) dX5_told_59 ?_
      refine g_istore C.1 (loc' := [(4, .int (iZ (v4 + 0))), (3, .int (iZ (v3 + ((if ((σ 6) v5) = v1 then 1 else 0))))), (0, .ref (L 0)), (1, .int (iZ v1)), (2, .int (iZ v2)), (5, .int (iZ v5))]) C.2.1 dX5_told_60 (by decide) rfl ?_
      refine g_iinc C.1 (z := v5) (w := 1) (loc' := [(5, .int (iZ (v5 + 1))), (4, .int (iZ (v4 + 0))), (3, .int (iZ (v3 + ((if ((σ 6) v5) = v1 then 1 else 0))))), (0, .ref (L 0)), (1, .int (iZ v1)), (2, .int (iZ v2))]) 5 C.2.1 dX5_told_62 rfl (by decide) rfl ?_
      refine g_goto C.1 (tgt := 8) dX5_told_65 (by decide) ?_
      exact g_sub [3, 4, 5, 2, 1, 0] rfl h
    · have h := h.2 hc
      refine g_aload_n C.1 1 dX5_told_44 rfl rfl ?_
      refine g_iload C.1 5 dX5_told_45 rfl ?_
      refine g_iload_n C.1 2 dX5_told_47 rfl rfl ?_
      obtain ⟨hp22, h⟩ := h
      refine x_callV C.1 (h_isOf K.l L c σ v5 v1 hp22) (ci := 6) (q := (RX5, TX5, 17)) rfl m_recv (fun ht => cwV 2 ht gX5_told_X5_isOf rfl rfl rfl (by decide +kernel) ⟨Nat.le_of_ble_eq_true rfl, Nat.le_of_ble_eq_true rfl⟩) rfl rfl (Nat.le_of_ble_eq_true rfl) ⟨Nat.le_of_ble_eq_true rfl, Nat.le_of_ble_eq_true rfl⟩ dX5_told_48 (fun r σ9 hq => ?_)
      rw [hq.1, hq.2]
      show G K (MW L c [] [] σ) (0, 0) [(3, .int (iZ (v3 + ((if ((σ 6) v5) = v1 then 1 else 0))))), (0, .ref (L 0)), (1, .int (iZ v1)), (2, .int (iZ v2)), (4, .int (iZ v4)), (5, .int (iZ v5))] 51 [.int (iZ (if f_isOf σ v5 v1 = true then 1 else 0)), .int (iZ v4)]
      refine g_ifb_eq C.1 (tgt := 58) dX5_told_51 (by decide) (fun hc => ?_) (fun hc => ?_)
      · have h := h.1 hc
        refine g_iconst C.1 (z := 0) dX5_told_58 ?_
        refine g_iadd C.1 (x := v4) (y := 0) dX5_told_59 ?_
        refine g_istore C.1 (loc' := [(4, .int (iZ (v4 + 0))), (3, .int (iZ (v3 + ((if ((σ 6) v5) = v1 then 1 else 0))))), (0, .ref (L 0)), (1, .int (iZ v1)), (2, .int (iZ v2)), (5, .int (iZ v5))]) C.2.1 dX5_told_60 (by decide) rfl ?_
        refine g_iinc C.1 (z := v5) (w := 1) (loc' := [(5, .int (iZ (v5 + 1))), (4, .int (iZ (v4 + 0))), (3, .int (iZ (v3 + ((if ((σ 6) v5) = v1 then 1 else 0))))), (0, .ref (L 0)), (1, .int (iZ v1)), (2, .int (iZ v2))]) 5 C.2.1 dX5_told_62 rfl (by decide) rfl ?_
        refine g_goto C.1 (tgt := 8) dX5_told_65 (by decide) ?_
        exact g_sub [3, 4, 5, 2, 1, 0] rfl h
      · have h := h.2 hc
        refine g_iconst C.1 (z := 1) dX5_told_54 ?_
        refine g_goto C.1 (tgt := 59) dX5_told_55 (by decide) ?_
        refine g_iadd C.1 (x := v4) (y := 1) dX5_told_59 ?_
        refine g_istore C.1 (loc' := [(4, .int (iZ (v4 + 1))), (3, .int (iZ (v3 + ((if ((σ 6) v5) = v1 then 1 else 0))))), (0, .ref (L 0)), (1, .int (iZ v1)), (2, .int (iZ v2)), (5, .int (iZ v5))]) C.2.1 dX5_told_60 (by decide) rfl ?_
        refine g_iinc C.1 (z := v5) (w := 1) (loc' := [(5, .int (iZ (v5 + 1))), (4, .int (iZ (v4 + 1))), (3, .int (iZ (v3 + ((if ((σ 6) v5) = v1 then 1 else 0))))), (0, .ref (L 0)), (1, .int (iZ v1)), (2, .int (iZ v2))]) 5 C.2.1 dX5_told_62 rfl (by decide) rfl ?_
        refine g_goto C.1 (tgt := 8) dX5_told_65 (by decide) ?_
        exact g_sub [3, 4, 5, 2, 1, 0] rfl h
def H_X5_told (p : MS → Int → Int → Prop) (o : MS → Int → Int → Int → MS → Prop) : Prop := ∀ (l : Launch) (L : Nat → Nat) (c : Nat → ClassId) (σ : MS) (v1 v2 : Int), p σ v1 v2 → xMet l yX5_told wsX5_told rm_X5_told (MW L c [] []) rkI [.ref (L 0), .int (iZ v1), .int (iZ v2)] σ (fun r σ' => o σ v1 v2 r σ')
theorem m_X5_told {l : Launch} {L : Nat → Nat} {c : Nat → ClassId} {σ : MS} {v1 v2 : Int} {post : Int → MS → Prop} (h : ∀ K : KT, K.l = l → C_X5_told K L c post → P_X5_told_0 K L c σ v1 v2) : xMet l yX5_told wsX5_told rm_X5_told (MW L c [] []) rkI [.ref (L 0), .int (iZ v1), .int (iZ v2)] σ post :=
  xMet.of (maxL := 6) (by decide +kernel) rfl (Nat.le_of_ble_eq_true rfl) (fun K h1 h2 h3 h4 _ => h K h1 ⟨h2, h4, h3⟩)

/-! X5_manuscript -/
abbrev rm_X5_manuscript : Room := { frames := 4, cells := 0, slots := 0, locals := 129 }
theorem inX5_manuscript : ∀ w ∈ wsX50, w ∈ wsX5_manuscript := by decide +kernel
theorem lk_X5_manuscript_f47 : Cond.fieldLink RX5 47 "CopyHouseModel" "thrown" "I" ∈ wsX5_manuscript := List.mem_of_getElem? (i := 1) (by decide +kernel)
def C_X5_manuscript (K : KT) (L : Nat → Nat) (c : Nat → ClassId) (post : Int → MS → Prop) : Prop := kOK K cX5_manuscript RX5 wsX5_manuscript (some .int) rm_X5_manuscript ∧ K.nL = 3 ∧ kQ K (MW L c [] []) rkI post rm_X5_manuscript
def P_X5_manuscript_0 (K : KT) (L : Nat → Nat) (c : Nat → ClassId) (σ : MS) (v1 v2 : Int) : Prop := G K (MW L c [] [] σ) (0, 0) [(0, .ref (L 0)), (1, .int (iZ v1)), (2, .int (iZ v2))] 0 []
set_option maxRecDepth 100000 in
set_option maxHeartbeats 4000000 in
theorem b_X5_manuscript_0 {K : KT} {L : Nat → Nat} {c : Nat → ClassId} {post : Int → MS → Prop} (C : C_X5_manuscript K L c post) {p_isText : MS → Int → Prop} {f_isText : MS → Int → Bool} (h_isText : H_X5_isText p_isText f_isText) {p_no : MS → Int → Prop} {u_no : MS → Int → MS} (h_no : H_X5_no p_no u_no) {p_isIn : MS → Int → Int → Int → Prop} {f_isIn : MS → Int → Int → Int → Bool} (h_isIn : H_X5_isIn p_isIn f_isIn) {p_told : MS → Int → Int → Prop} {o_told : MS → Int → Int → Int → MS → Prop} (h_told : H_X5_told p_told o_told) {σ : MS} {v1 v2 : Int} (h : (p_isText (upM σ 0 (fun _ => 0)) v1) ∧ ((¬ (f_isText (upM σ 0 (fun _ => 0)) v1 = true) → (p_no (upM σ 0 (fun _ => 0)) 1) ∧ post 0 ((u_no (upM σ 0 (fun _ => 0)) 1))) ∧ (f_isText (upM σ 0 (fun _ => 0)) v1 = true → (p_isIn (upM σ 0 (fun _ => 0)) v2 0 8) ∧ ((¬ (f_isIn (upM σ 0 (fun _ => 0)) v2 0 8 = true) → (p_no (upM σ 0 (fun _ => 0)) 1) ∧ post 0 ((u_no (upM σ 0 (fun _ => 0)) 1))) ∧ (f_isIn (upM σ 0 (fun _ => 0)) v2 0 8 = true → (p_told (upM σ 0 (fun _ => 0)) v1 v2) ∧ ∀ (r6 : Int) (σ7 : MS), o_told (upM σ 0 (fun _ => 0)) v1 v2 r6 σ7 → post r6 σ7))))) : P_X5_manuscript_0 K L c σ v1 v2 := by
  refine g_aload_n C.1 0 dX5_manuscript_0 rfl rfl ?_
  refine g_iconst C.1 (z := 0) dX5_manuscript_1 ?_
  refine m_put C.1 inX5_manuscript 0 (by decide) (z := 0) (σ' := upM σ 0 (fun _ => 0)) rfl lk_X5_manuscript_f47 rfl rfl rfl dX5_manuscript_2 ?_
  refine g_aload_n C.1 0 dX5_manuscript_5 rfl rfl ?_
  refine g_iload_n C.1 1 dX5_manuscript_6 rfl rfl ?_
  obtain ⟨hp1, h⟩ := h
  refine x_callV C.1 (h_isText K.l L c (upM σ 0 (fun _ => 0)) v1 hp1) (ci := 6) (q := (RX5, TX5, 17)) rfl m_recv (fun ht => cwV 1 ht gX5_manuscript_X5_isText rfl rfl rfl (by decide +kernel) ⟨Nat.le_of_ble_eq_true rfl, Nat.le_of_ble_eq_true rfl⟩) rfl rfl (Nat.le_of_ble_eq_true rfl) ⟨Nat.le_of_ble_eq_true rfl, Nat.le_of_ble_eq_true rfl⟩ dX5_manuscript_7 (fun r σ9 hq => ?_)
  rw [hq.1, hq.2]
  show G K (MW L c [] [] (upM σ 0 (fun _ => 0))) (0, 0) [(0, .ref (L 0)), (1, .int (iZ v1)), (2, .int (iZ v2))] 10 [.int (iZ (if f_isText (upM σ 0 (fun _ => 0)) v1 = true then 1 else 0))]
  refine g_ifb_eq C.1 (tgt := 32) dX5_manuscript_10 (by decide) (fun hc => ?_) (fun hc => ?_)
  · have h := h.1 hc
    refine g_aload_n C.1 0 dX5_manuscript_32 rfl rfl ?_
    refine g_iconst C.1 (z := 1) dX5_manuscript_33 ?_
    obtain ⟨hp2, h⟩ := h
    refine x_callV C.1 (h_no K.l L c (upM σ 0 (fun _ => 0)) 1 hp2) (ci := 6) (q := (RX5, TX5, 17)) rfl m_recv (fun ht => cwV 1 ht gX5_manuscript_X5_no rfl rfl rfl (by decide +kernel) ⟨Nat.le_of_ble_eq_true rfl, Nat.le_of_ble_eq_true rfl⟩) rfl rfl (Nat.le_of_ble_eq_true rfl) ⟨Nat.le_of_ble_eq_true rfl, Nat.le_of_ble_eq_true rfl⟩ dX5_manuscript_34 (fun r σ9 hq => ?_)
    rw [hq.1, hq.2]
    show G K (MW L c [] [] ((u_no (upM σ 0 (fun _ => 0)) 1))) (0, 0) [(0, .ref (L 0)), (1, .int (iZ v1)), (2, .int (iZ v2))] 37 [.int (iZ 0)]
    exact x_iret C.1 C.2.2 rfl ⟨Nat.le_of_ble_eq_true rfl, Nat.le_of_ble_eq_true rfl⟩ dX5_manuscript_37 h
  · have h := h.2 hc
    refine g_iload_n C.1 2 dX5_manuscript_13 rfl rfl ?_
    refine g_iconst C.1 (z := 0) dX5_manuscript_14 ?_
    refine g_bipush C.1 (z := 8) dX5_manuscript_15 (by decide) ?_
    obtain ⟨hp3, h⟩ := h
    refine x_callS C.1 (h_isIn K.l L c (upM σ 0 (fun _ => 0)) v2 0 8 hp3) (fun ht => va_cwS 3 ht gX5_manuscript_X5_isIn rfl rfl rfl (by decide +kernel) ⟨Nat.le_of_ble_eq_true rfl, Nat.le_of_ble_eq_true rfl⟩) rfl rfl (Nat.le_of_ble_eq_true rfl) ⟨Nat.le_of_ble_eq_true rfl, Nat.le_of_ble_eq_true rfl⟩ dX5_manuscript_17 (fun r σ9 hq => ?_)
    rw [hq.1, hq.2]
    show G K (MW L c [] [] (upM σ 0 (fun _ => 0))) (0, 0) [(0, .ref (L 0)), (1, .int (iZ v1)), (2, .int (iZ v2))] 20 [.int (iZ (if f_isIn (upM σ 0 (fun _ => 0)) v2 0 8 = true then 1 else 0))]
    refine g_ifb_eq C.1 (tgt := 32) dX5_manuscript_20 (by decide) (fun hc => ?_) (fun hc => ?_)
    · have h := h.1 hc
      refine g_aload_n C.1 0 dX5_manuscript_32 rfl rfl ?_
      refine g_iconst C.1 (z := 1) dX5_manuscript_33 ?_
      obtain ⟨hp4, h⟩ := h
      refine x_callV C.1 (h_no K.l L c (upM σ 0 (fun _ => 0)) 1 hp4) (ci := 6) (q := (RX5, TX5, 17)) rfl m_recv (fun ht => cwV 1 ht gX5_manuscript_X5_no rfl rfl rfl (by decide +kernel) ⟨Nat.le_of_ble_eq_true rfl, Nat.le_of_ble_eq_true rfl⟩) rfl rfl (Nat.le_of_ble_eq_true rfl) ⟨Nat.le_of_ble_eq_true rfl, Nat.le_of_ble_eq_true rfl⟩ dX5_manuscript_34 (fun r σ9 hq => ?_)
      rw [hq.1, hq.2]
      show G K (MW L c [] [] ((u_no (upM σ 0 (fun _ => 0)) 1))) (0, 0) [(0, .ref (L 0)), (1, .int (iZ v1)), (2, .int (iZ v2))] 37 [.int (iZ 0)]
      exact x_iret C.1 C.2.2 rfl ⟨Nat.le_of_ble_eq_true rfl, Nat.le_of_ble_eq_true rfl⟩ dX5_manuscript_37 h
    · have h := h.2 hc
      refine g_aload_n C.1 0 dX5_manuscript_23 rfl rfl ?_
      refine g_iload_n C.1 1 dX5_manuscript_24 rfl rfl ?_
      refine g_iload_n C.1 2 dX5_manuscript_25 rfl rfl ?_
      obtain ⟨hp5, h⟩ := h
      refine x_callV C.1 (h_told K.l L c (upM σ 0 (fun _ => 0)) v1 v2 hp5) (ci := 6) (q := (RX5, TX5, 17)) rfl m_recv (fun ht => cwV 2 ht gX5_manuscript_X5_told rfl rfl rfl (by decide +kernel) ⟨Nat.le_of_ble_eq_true rfl, Nat.le_of_ble_eq_true rfl⟩) rfl rfl (Nat.le_of_ble_eq_true rfl) ⟨Nat.le_of_ble_eq_true rfl, Nat.le_of_ble_eq_true rfl⟩ dX5_manuscript_26 (fun r6 σ7 hq => ?_)
      have h := h r6 σ7 hq
      show G K (MW L c [] [] σ7) (0, 0) [(0, .ref (L 0)), (1, .int (iZ v1)), (2, .int (iZ v2))] 29 [.int (iZ r6)]
      refine g_goto C.1 (tgt := 37) dX5_manuscript_29 (by decide) ?_
      exact x_iret C.1 C.2.2 rfl ⟨Nat.le_of_ble_eq_true rfl, Nat.le_of_ble_eq_true rfl⟩ dX5_manuscript_37 h
def H_X5_manuscript (p : MS → Int → Int → Prop) (o : MS → Int → Int → Int → MS → Prop) : Prop := ∀ (l : Launch) (L : Nat → Nat) (c : Nat → ClassId) (σ : MS) (v1 v2 : Int), p σ v1 v2 → xMet l yX5_manuscript wsX5_manuscript rm_X5_manuscript (MW L c [] []) rkI [.ref (L 0), .int (iZ v1), .int (iZ v2)] σ (fun r σ' => o σ v1 v2 r σ')
theorem m_X5_manuscript {l : Launch} {L : Nat → Nat} {c : Nat → ClassId} {σ : MS} {v1 v2 : Int} {post : Int → MS → Prop} (h : ∀ K : KT, K.l = l → C_X5_manuscript K L c post → P_X5_manuscript_0 K L c σ v1 v2) : xMet l yX5_manuscript wsX5_manuscript rm_X5_manuscript (MW L c [] []) rkI [.ref (L 0), .int (iZ v1), .int (iZ v2)] σ post :=
  xMet.of (maxL := 3) (by decide +kernel) rfl (Nat.le_of_ble_eq_true rfl) (fun K h1 h2 h3 h4 _ => h K h1 ⟨h2, h4, h3⟩)

/-! X5_guessOf -/
abbrev rm_X5_guessOf : Room := { frames := 3, cells := 0, slots := 0, locals := 104 }
theorem inX5_guessOf : ∀ w ∈ wsX50, w ∈ wsX5_guessOf := by decide +kernel
theorem lk_X5_guessOf_f25 : Cond.fieldLink RX5 25 "CopyHouseModel" "isThere" "[Z" ∈ wsX5_guessOf := List.mem_of_getElem? (i := 1) (by decide +kernel)
def C_X5_guessOf (K : KT) (L : Nat → Nat) (c : Nat → ClassId) (post : Int → MS → Prop) : Prop := kOK K cX5_guessOf RX5 wsX5_guessOf (some .int) rm_X5_guessOf ∧ K.nL = 4 ∧ kQ K (MW L c [] []) rkI post rm_X5_guessOf
def P_X5_guessOf_0 (K : KT) (L : Nat → Nat) (c : Nat → ClassId) (σ : MS) (v1 : Int) : Prop := G K (MW L c [] [] σ) (0, 0) [(0, .ref (L 0)), (1, .int (iZ v1))] 0 []
def P_X5_guessOf_1 (K : KT) (L : Nat → Nat) (c : Nat → ClassId) (σ : MS) (v1 v2 v3 : Int) : Prop := G K (MW L c [] [] σ) (0, 0) [(0, .ref (L 0)), (1, .int (iZ v1)), (2, .int (iZ v2)), (3, .int (iZ v3))] 4 []
set_option maxRecDepth 100000 in
set_option maxHeartbeats 4000000 in
theorem b_X5_guessOf_0 {K : KT} {L : Nat → Nat} {c : Nat → ClassId} {post : Int → MS → Prop} (C : C_X5_guessOf K L c post) {σ : MS} {v1 : Int} (h : P_X5_guessOf_1 K L c σ v1 ((-1)) 0) : P_X5_guessOf_0 K L c σ v1 := by
  refine g_iconst C.1 (z := (-1)) dX5_guessOf_0 ?_
  refine g_istore_n C.1 (loc' := [(2, .int (iZ ((-1)))), (0, .ref (L 0)), (1, .int (iZ v1))]) C.2.1 dX5_guessOf_1 rfl (by decide) rfl ?_
  refine g_iconst C.1 (z := 0) dX5_guessOf_2 ?_
  refine g_istore_n C.1 (loc' := [(3, .int (iZ 0)), (2, .int (iZ ((-1)))), (0, .ref (L 0)), (1, .int (iZ v1))]) C.2.1 dX5_guessOf_3 rfl (by decide) rfl ?_
  exact g_sub [2, 3, 1, 0] rfl h
set_option maxRecDepth 100000 in
set_option maxHeartbeats 4000000 in
theorem b_X5_guessOf_1 {K : KT} {L : Nat → Nat} {c : Nat → ClassId} {post : Int → MS → Prop} (C : C_X5_guessOf K L c post) {p_apart : MS → Int → Int → Prop} {o_apart : MS → Int → Int → Int → MS → Prop} (h_apart : H_X5_apart p_apart o_apart) {σ : MS} {v1 v2 v3 : Int} (h : (-2147483648 ≤ v3 ∧ v3 < 2147483648) ∧ (-2147483648 ≤ v1 ∧ v1 < 2147483648) ∧ ((v1 ≤ v3 → post v2 σ) ∧ (¬ v1 ≤ v3 → (0 ≤ v1 ∧ v1 < 24) ∧ (-2147483648 ≤ ((σ 8) v1) ∧ ((σ 8) v1) < 2147483648) ∧ ((((σ 8) v1) = 0 → post v2 σ) ∧ (¬ ((σ 8) v1) = 0 → (0 ≤ v3 ∧ v3 < 24) ∧ (-2147483648 ≤ ((σ 8) v3) ∧ ((σ 8) v3) < 2147483648) ∧ ((((σ 8) v3) = 0 → P_X5_guessOf_1 K L c σ v1 v2 (v3 + 1)) ∧ (¬ ((σ 8) v3) = 0 → (-2147483648 ≤ v2 ∧ v2 < 2147483648) ∧ ((v2 = ((-1)) → P_X5_guessOf_1 K L c σ v1 v3 (v3 + 1)) ∧ (¬ v2 = ((-1)) → (p_apart σ v1 v3) ∧ ∀ (r9 : Int) (σ10 : MS), o_apart σ v1 v3 r9 σ10 → (p_apart σ10 v1 v2) ∧ ∀ (r12 : Int) (σ13 : MS), o_apart σ10 v1 v2 r12 σ13 → (-2147483648 ≤ r9 ∧ r9 < 2147483648) ∧ (-2147483648 ≤ r12 ∧ r12 < 2147483648) ∧ ((r12 < r9 → P_X5_guessOf_1 K L c σ13 v1 v2 (v3 + 1)) ∧ (¬ r12 < r9 → P_X5_guessOf_1 K L c σ13 v1 v3 (v3 + 1)))))))))))) : P_X5_guessOf_1 K L c σ v1 v2 v3 := by
  refine g_iload_n C.1 3 dX5_guessOf_4 rfl rfl ?_
  refine g_iload_n C.1 1 dX5_guessOf_5 rfl rfl ?_
  obtain ⟨hc1, h⟩ := h
  obtain ⟨hc2, h⟩ := h
  refine g_icmp_ge C.1 (tgt := 55) dX5_guessOf_6 (by decide) hc1 hc2 (fun hc => ?_) (fun hc => ?_)
  · have h := h.1 hc
    refine g_iload_n C.1 2 dX5_guessOf_55 rfl rfl ?_
    exact x_iret C.1 C.2.2 rfl ⟨Nat.le_of_ble_eq_true rfl, Nat.le_of_ble_eq_true rfl⟩ dX5_guessOf_56 h
  · have h := h.2 hc
    refine g_aload_n C.1 0 dX5_guessOf_9 rfl rfl ?_
    refine m_get C.1 inX5_guessOf 8 (by decide) (v := .ref (L 8)) rfl lk_X5_guessOf_f25 rfl dX5_guessOf_10 ?_
    refine g_iload_n C.1 1 dX5_guessOf_13 rfl rfl ?_
    obtain ⟨hi3, h⟩ := h
    refine m_zald C.1 6 5 (N := 24) (f := (σ 8)) (e := v1) rfl rfl (by decide) hi3 dX5_guessOf_14 ?_
    obtain ⟨hc4, h⟩ := h
    refine g_if_eq C.1 (tgt := 55) dX5_guessOf_15 (by decide) hc4 (fun hc => ?_) (fun hc => ?_)
    · have h := h.1 hc
      refine g_iload_n C.1 2 dX5_guessOf_55 rfl rfl ?_
      exact x_iret C.1 C.2.2 rfl ⟨Nat.le_of_ble_eq_true rfl, Nat.le_of_ble_eq_true rfl⟩ dX5_guessOf_56 h
    · have h := h.2 hc
      refine g_aload_n C.1 0 dX5_guessOf_18 rfl rfl ?_
      refine m_get C.1 inX5_guessOf 8 (by decide) (v := .ref (L 8)) rfl lk_X5_guessOf_f25 rfl dX5_guessOf_19 ?_
      refine g_iload_n C.1 3 dX5_guessOf_22 rfl rfl ?_
      obtain ⟨hi5, h⟩ := h
      refine m_zald C.1 6 5 (N := 24) (f := (σ 8)) (e := v3) rfl rfl (by decide) hi5 dX5_guessOf_23 ?_
      obtain ⟨hc6, h⟩ := h
      refine g_if_eq C.1 (tgt := 49) dX5_guessOf_24 (by decide) hc6 (fun hc => ?_) (fun hc => ?_)
      · have h := h.1 hc
        refine g_iinc C.1 (z := v3) (w := 1) (loc' := [(3, .int (iZ (v3 + 1))), (0, .ref (L 0)), (1, .int (iZ v1)), (2, .int (iZ v2))]) 3 C.2.1 dX5_guessOf_49 rfl (by decide) rfl ?_
        refine g_goto C.1 (tgt := 4) dX5_guessOf_52 (by decide) ?_
        exact g_sub [1, 2, 3, 0] rfl h
      · have h := h.2 hc
        refine g_iload_n C.1 2 dX5_guessOf_27 rfl rfl ?_
        refine g_iconst C.1 (z := (-1)) dX5_guessOf_28 ?_
        obtain ⟨hc7, h⟩ := h
        refine g_icmp_eq C.1 (tgt := 47) dX5_guessOf_29 (by decide) hc7 (by decide) (fun hc => ?_) (fun hc => ?_)
        · have h := h.1 hc
          refine g_iload_n C.1 3 dX5_guessOf_47 rfl rfl ?_
          refine g_istore_n C.1 (loc' := [(2, .int (iZ v3)), (0, .ref (L 0)), (1, .int (iZ v1)), (3, .int (iZ v3))]) C.2.1 dX5_guessOf_48 rfl (by decide) rfl ?_
          refine g_iinc C.1 (z := v3) (w := 1) (loc' := [(3, .int (iZ (v3 + 1))), (2, .int (iZ v3)), (0, .ref (L 0)), (1, .int (iZ v1))]) 3 C.2.1 dX5_guessOf_49 rfl (by decide) rfl ?_
          refine g_goto C.1 (tgt := 4) dX5_guessOf_52 (by decide) ?_
          exact g_sub [2, 3, 1, 0] rfl h
        · have h := h.2 hc
          refine g_aload_n C.1 0 dX5_guessOf_32 rfl rfl ?_
          refine g_iload_n C.1 1 dX5_guessOf_33 rfl rfl ?_
          refine g_iload_n C.1 3 dX5_guessOf_34 rfl rfl ?_
          obtain ⟨hp8, h⟩ := h
          refine x_callV C.1 (h_apart K.l L c σ v1 v3 hp8) (ci := 6) (q := (RX5, TX5, 17)) rfl m_recv (fun ht => cwV 2 ht gX5_guessOf_X5_apart rfl rfl rfl (by decide +kernel) ⟨Nat.le_of_ble_eq_true rfl, Nat.le_of_ble_eq_true rfl⟩) rfl rfl (Nat.le_of_ble_eq_true rfl) ⟨Nat.le_of_ble_eq_true rfl, Nat.le_of_ble_eq_true rfl⟩ dX5_guessOf_35 (fun r9 σ10 hq => ?_)
          have h := h r9 σ10 hq
          show G K (MW L c [] [] σ10) (0, 0) [(0, .ref (L 0)), (1, .int (iZ v1)), (2, .int (iZ v2)), (3, .int (iZ v3))] 38 [.int (iZ r9)]
          refine g_aload_n C.1 0 dX5_guessOf_38 rfl rfl ?_
          refine g_iload_n C.1 1 dX5_guessOf_39 rfl rfl ?_
          refine g_iload_n C.1 2 dX5_guessOf_40 rfl rfl ?_
          obtain ⟨hp11, h⟩ := h
          refine x_callV C.1 (h_apart K.l L c σ10 v1 v2 hp11) (ci := 6) (q := (RX5, TX5, 17)) rfl m_recv (fun ht => cwV 2 ht gX5_guessOf_X5_apart rfl rfl rfl (by decide +kernel) ⟨Nat.le_of_ble_eq_true rfl, Nat.le_of_ble_eq_true rfl⟩) rfl rfl (Nat.le_of_ble_eq_true rfl) ⟨Nat.le_of_ble_eq_true rfl, Nat.le_of_ble_eq_true rfl⟩ dX5_guessOf_41 (fun r12 σ13 hq => ?_)
          have h := h r12 σ13 hq
          show G K (MW L c [] [] σ13) (0, 0) [(0, .ref (L 0)), (1, .int (iZ v1)), (2, .int (iZ v2)), (3, .int (iZ v3))] 44 [.int (iZ r12), .int (iZ r9)]
          obtain ⟨hc14, h⟩ := h
          obtain ⟨hc15, h⟩ := h
          refine g_icmp_gt C.1 (tgt := 49) dX5_guessOf_44 (by decide) hc14 hc15 (fun hc => ?_) (fun hc => ?_)
          · have h := h.1 hc
            refine g_iinc C.1 (z := v3) (w := 1) (loc' := [(3, .int (iZ (v3 + 1))), (0, .ref (L 0)), (1, .int (iZ v1)), (2, .int (iZ v2))]) 3 C.2.1 dX5_guessOf_49 rfl (by decide) rfl ?_
            refine g_goto C.1 (tgt := 4) dX5_guessOf_52 (by decide) ?_
            exact g_sub [1, 2, 3, 0] rfl h
          · have h := h.2 hc
            refine g_iload_n C.1 3 dX5_guessOf_47 rfl rfl ?_
            refine g_istore_n C.1 (loc' := [(2, .int (iZ v3)), (0, .ref (L 0)), (1, .int (iZ v1)), (3, .int (iZ v3))]) C.2.1 dX5_guessOf_48 rfl (by decide) rfl ?_
            refine g_iinc C.1 (z := v3) (w := 1) (loc' := [(3, .int (iZ (v3 + 1))), (2, .int (iZ v3)), (0, .ref (L 0)), (1, .int (iZ v1))]) 3 C.2.1 dX5_guessOf_49 rfl (by decide) rfl ?_
            refine g_goto C.1 (tgt := 4) dX5_guessOf_52 (by decide) ?_
            exact g_sub [2, 3, 1, 0] rfl h
def H_X5_guessOf (p : MS → Int → Prop) (o : MS → Int → Int → MS → Prop) : Prop := ∀ (l : Launch) (L : Nat → Nat) (c : Nat → ClassId) (σ : MS) (v1 : Int), p σ v1 → xMet l yX5_guessOf wsX5_guessOf rm_X5_guessOf (MW L c [] []) rkI [.ref (L 0), .int (iZ v1)] σ (fun r σ' => o σ v1 r σ')
theorem m_X5_guessOf {l : Launch} {L : Nat → Nat} {c : Nat → ClassId} {σ : MS} {v1 : Int} {post : Int → MS → Prop} (h : ∀ K : KT, K.l = l → C_X5_guessOf K L c post → P_X5_guessOf_0 K L c σ v1) : xMet l yX5_guessOf wsX5_guessOf rm_X5_guessOf (MW L c [] []) rkI [.ref (L 0), .int (iZ v1)] σ post :=
  xMet.of (maxL := 4) (by decide +kernel) rfl (Nat.le_of_ble_eq_true rfl) (fun K h1 h2 h3 h4 _ => h K h1 ⟨h2, h4, h3⟩)

/-! X5_counted -/
abbrev rm_X5_counted : Room := { frames := 4, cells := 0, slots := 0, locals := 127 }
theorem inX5_counted : ∀ w ∈ wsX50, w ∈ wsX5_counted := by decide +kernel
theorem lk_X5_counted_f61 : Cond.fieldLink RX5 61 "CopyHouseModel" "taped" "I" ∈ wsX5_counted := List.mem_of_getElem? (i := 3) (by decide +kernel)
theorem lk_X5_counted_f58 : Cond.fieldLink RX5 58 "CopyHouseModel" "scribes" "I" ∈ wsX5_counted := List.mem_of_getElem? (i := 2) (by decide +kernel)
theorem lk_X5_counted_f51 : Cond.fieldLink RX5 51 "CopyHouseModel" "texts" "I" ∈ wsX5_counted := List.mem_of_getElem? (i := 1) (by decide +kernel)
theorem lk_X5_counted_mm125 : Cond.methodLink RX5 125 Lib.Math.max.name ∈ wsX5_counted := List.mem_of_getElem? (i := 4) (by decide +kernel)
theorem lk_X5_counted_ms125 : Cond.static Lib.Math.max.name ∈ wsX5_counted := List.mem_of_getElem? (i := 5) (by decide +kernel)
theorem lk_X5_counted_mi125 : Cond.initialized "java/lang/Math" ∈ wsX5_counted := List.mem_of_getElem? (i := 6) (by decide +kernel)
theorem lk_X5_counted_mc125 : Cond.code Lib.Math.max.name Lib.Math.max.code 2 (some .int) ∈ wsX5_counted := List.mem_of_getElem? (i := 7) (by decide +kernel)
theorem lk_X5_counted_f25 : Cond.fieldLink RX5 25 "CopyHouseModel" "isThere" "[Z" ∈ wsX5_counted := List.mem_of_getElem? (i := 9) (by decide +kernel)
theorem lk_X5_counted_f19 : Cond.fieldLink RX5 19 "CopyHouseModel" "exemplar" "[I" ∈ wsX5_counted := List.mem_of_getElem? (i := 8) (by decide +kernel)
theorem lk_X5_counted_f16 : Cond.fieldLink RX5 16 "CopyHouseModel" "length" "[I" ∈ wsX5_counted := List.mem_of_getElem? (i := 10) (by decide +kernel)
def C_X5_counted (K : KT) (L : Nat → Nat) (c : Nat → ClassId) (post : Int → MS → Prop) : Prop := kOK K cX5_counted RX5 wsX5_counted (some .int) rm_X5_counted ∧ K.nL = 6 ∧ kQ K (MW L c [] []) rkI post rm_X5_counted
def P_X5_counted_0 (K : KT) (L : Nat → Nat) (c : Nat → ClassId) (σ : MS) (v1 : Int) : Prop := G K (MW L c [] [] σ) (0, 0) [(0, .ref (L 0)), (1, .int (iZ v1))] 0 []
def P_X5_counted_1 (K : KT) (L : Nat → Nat) (c : Nat → ClassId) (σ : MS) (v1 v2 v3 v4 : Int) : Prop := G K (MW L c [] [] σ) (0, 0) [(0, .ref (L 0)), (1, .int (iZ v1)), (2, .int (iZ v2)), (3, .int (iZ v3)), (4, .int (iZ v4))] 46 []
def P_X5_counted_2 (K : KT) (L : Nat → Nat) (c : Nat → ClassId) (σ : MS) (v1 v2 v3 v4 : Int) : Prop := G K (MW L c [] [] σ) (0, 0) [(0, .ref (L 0)), (1, .int (iZ v1)), (2, .int (iZ v2)), (3, .int (iZ v3)), (4, .int (iZ v4))] 137 []
def P_X5_counted_3 (K : KT) (L : Nat → Nat) (c : Nat → ClassId) (σ : MS) (v1 v2 v3 v4 s0 : Int) : Prop := G K (MW L c [] [] σ) (0, 0) [(0, .ref (L 0)), (1, .int (iZ v1)), (2, .int (iZ v2)), (3, .int (iZ v3)), (4, .int (iZ v4))] 138 [.int (iZ s0)]
set_option maxRecDepth 100000 in
set_option maxHeartbeats 4000000 in
theorem b_X5_counted_0 {K : KT} {L : Nat → Nat} {c : Nat → ClassId} {post : Int → MS → Prop} (C : C_X5_counted K L c post) {p_there : MS → Prop} {f_there : MS → Int} (h_there : H_X5_there p_there f_there) {σ : MS} {v1 : Int} (h : (-2147483648 ≤ v1 ∧ v1 < 2147483648) ∧ ((¬ v1 = 0 → ((¬ v1 = 1 → ((¬ v1 = 2 → ((¬ v1 = 5 → P_X5_counted_1 K L c σ v1 0 0 0) ∧ (v1 = 5 → post (σ 2 0) σ))) ∧ (v1 = 2 → post (σ 9 0) σ))) ∧ (v1 = 1 → (p_there σ) ∧ post (f_there σ) σ))) ∧ (v1 = 0 → post (σ 3 0) σ))) : P_X5_counted_0 K L c σ v1 := by
  refine g_iload_n C.1 1 dX5_counted_0 rfl rfl ?_
  obtain ⟨hc1, h⟩ := h
  refine g_if_ne C.1 (tgt := 9) dX5_counted_1 (by decide) hc1 (fun hc => ?_) (fun hc => ?_)
  · have h := h.1 hc
    refine g_iload_n C.1 1 dX5_counted_9 rfl rfl ?_
    refine g_iconst C.1 (z := 1) dX5_counted_10 ?_
    refine g_icmp_ne C.1 (tgt := 19) dX5_counted_11 (by decide) hc1 (by decide) (fun hc => ?_) (fun hc => ?_)
    · have h := h.1 hc
      refine g_iload_n C.1 1 dX5_counted_19 rfl rfl ?_
      refine g_iconst C.1 (z := 2) dX5_counted_20 ?_
      refine g_icmp_ne C.1 (tgt := 29) dX5_counted_21 (by decide) hc1 (by decide) (fun hc => ?_) (fun hc => ?_)
      · have h := h.1 hc
        refine g_iload_n C.1 1 dX5_counted_29 rfl rfl ?_
        refine g_iconst C.1 (z := 5) dX5_counted_30 ?_
        refine g_icmp_ne C.1 (tgt := 39) dX5_counted_31 (by decide) hc1 (by decide) (fun hc => ?_) (fun hc => ?_)
        · have h := h.1 hc
          refine g_iconst C.1 (z := 0) dX5_counted_39 ?_
          refine g_istore_n C.1 (loc' := [(2, .int (iZ 0)), (0, .ref (L 0)), (1, .int (iZ v1))]) C.2.1 dX5_counted_40 rfl (by decide) rfl ?_
          refine g_iconst C.1 (z := 0) dX5_counted_41 ?_
          refine g_istore_n C.1 (loc' := [(3, .int (iZ 0)), (2, .int (iZ 0)), (0, .ref (L 0)), (1, .int (iZ v1))]) C.2.1 dX5_counted_42 rfl (by decide) rfl ?_
          refine g_iconst C.1 (z := 0) dX5_counted_43 ?_
          refine g_istore C.1 (loc' := [(4, .int (iZ 0)), (3, .int (iZ 0)), (2, .int (iZ 0)), (0, .ref (L 0)), (1, .int (iZ v1))]) C.2.1 dX5_counted_44 (by decide) rfl ?_
          exact g_sub [3, 4, 2, 1, 0] rfl h
        · have h := h.2 hc
          refine g_aload_n C.1 0 dX5_counted_34 rfl rfl ?_
          refine m_get C.1 inX5_counted 2 (by decide) (v := .int (iZ (σ 2 0))) rfl lk_X5_counted_f61 rfl dX5_counted_35 ?_
          exact x_iret C.1 C.2.2 rfl ⟨Nat.le_of_ble_eq_true rfl, Nat.le_of_ble_eq_true rfl⟩ dX5_counted_38 h
      · have h := h.2 hc
        refine g_aload_n C.1 0 dX5_counted_24 rfl rfl ?_
        refine m_get C.1 inX5_counted 9 (by decide) (v := .int (iZ (σ 9 0))) rfl lk_X5_counted_f58 rfl dX5_counted_25 ?_
        exact x_iret C.1 C.2.2 rfl ⟨Nat.le_of_ble_eq_true rfl, Nat.le_of_ble_eq_true rfl⟩ dX5_counted_28 h
    · have h := h.2 hc
      refine g_aload_n C.1 0 dX5_counted_14 rfl rfl ?_
      obtain ⟨hp2, h⟩ := h
      refine x_callV C.1 (h_there K.l L c σ hp2) (ci := 6) (q := (RX5, TX5, 17)) rfl m_recv (fun ht => cwV 0 ht gX5_counted_X5_there rfl rfl rfl (by decide +kernel) ⟨Nat.le_of_ble_eq_true rfl, Nat.le_of_ble_eq_true rfl⟩) rfl rfl (Nat.le_of_ble_eq_true rfl) ⟨Nat.le_of_ble_eq_true rfl, Nat.le_of_ble_eq_true rfl⟩ dX5_counted_15 (fun r σ9 hq => ?_)
      rw [hq.1, hq.2]
      show G K (MW L c [] [] σ) (0, 0) [(0, .ref (L 0)), (1, .int (iZ v1))] 18 [.int (iZ (f_there σ))]
      exact x_iret C.1 C.2.2 rfl ⟨Nat.le_of_ble_eq_true rfl, Nat.le_of_ble_eq_true rfl⟩ dX5_counted_18 h
  · have h := h.2 hc
    refine g_aload_n C.1 0 dX5_counted_4 rfl rfl ?_
    refine m_get C.1 inX5_counted 3 (by decide) (v := .int (iZ (σ 3 0))) rfl lk_X5_counted_f51 rfl dX5_counted_5 ?_
    exact x_iret C.1 C.2.2 rfl ⟨Nat.le_of_ble_eq_true rfl, Nat.le_of_ble_eq_true rfl⟩ dX5_counted_8 h
set_option maxRecDepth 100000 in
set_option maxHeartbeats 4000000 in
theorem b_X5_counted_1 {K : KT} {L : Nat → Nat} {c : Nat → ClassId} {post : Int → MS → Prop} (C : C_X5_counted K L c post) {p_generation : MS → Int → Prop} {f_generation : MS → Int → Int} (h_generation : H_X5_generation p_generation f_generation) {p_guessOf : MS → Int → Prop} {o_guessOf : MS → Int → Int → MS → Prop} (h_guessOf : H_X5_guessOf p_guessOf o_guessOf) {σ : MS} {v1 v2 v3 v4 : Int} (h : (-2147483648 ≤ v4 ∧ v4 < 2147483648) ∧ (-2147483648 ≤ (σ 3 0) ∧ (σ 3 0) < 2147483648) ∧ (((σ 3 0) ≤ v4 → (-2147483648 ≤ v1 ∧ v1 < 2147483648) ∧ ((¬ v1 = 4 → post v2 σ) ∧ (v1 = 4 → post v3 σ))) ∧ (¬ (σ 3 0) ≤ v4 → (p_generation σ v4) ∧ (-2147483648 ≤ v3 ∧ v3 < 2147483648) ∧ (-2147483648 ≤ (f_generation σ v4) ∧ (f_generation σ v4) < 2147483648) ∧ (-2147483648 ≤ v1 ∧ v1 < 2147483648) ∧ ((¬ v1 = 3 → ((¬ v1 = 7 → P_X5_counted_2 K L c σ v1 v2 (if v3 < (f_generation σ v4) then (f_generation σ v4) else v3) v4) ∧ (v1 = 7 → (0 ≤ v4 ∧ v4 < 24) ∧ (-2147483648 ≤ ((σ 8) v4) ∧ ((σ 8) v4) < 2147483648) ∧ ((((σ 8) v4) = 0 → P_X5_counted_2 K L c σ v1 v2 (if v3 < (f_generation σ v4) then (f_generation σ v4) else v3) v4) ∧ (¬ ((σ 8) v4) = 0 → (-2147483648 ≤ ((σ 6) v4) ∧ ((σ 6) v4) < 2147483648) ∧ ((((σ 6) v4) = ((-1)) → P_X5_counted_2 K L c σ v1 v2 (if v3 < (f_generation σ v4) then (f_generation σ v4) else v3) v4) ∧ (¬ ((σ 6) v4) = ((-1)) → (p_guessOf σ v4) ∧ ∀ (r12 : Int) (σ13 : MS), o_guessOf σ v4 r12 σ13 → (-2147483648 ≤ r12 ∧ r12 < 2147483648) ∧ (-2147483648 ≤ ((σ13 6) v4) ∧ ((σ13 6) v4) < 2147483648) ∧ ((¬ r12 = ((σ13 6) v4) → P_X5_counted_2 K L c σ13 v1 v2 (if v3 < (f_generation σ v4) then (f_generation σ v4) else v3) v4) ∧ (r12 = ((σ13 6) v4) → P_X5_counted_3 K L c σ13 v1 v2 (if v3 < (f_generation σ v4) then (f_generation σ v4) else v3) v4 1))))))))) ∧ (v1 = 3 → (0 ≤ v4 ∧ v4 < 24) ∧ (-2147483648 ≤ ((σ 6) v4) ∧ ((σ 6) v4) < 2147483648) ∧ ((¬ ((σ 6) v4) = ((-1)) → P_X5_counted_3 K L c σ v1 v2 (if v3 < (f_generation σ v4) then (f_generation σ v4) else v3) v4 0) ∧ (((σ 6) v4) = ((-1)) → P_X5_counted_3 K L c σ v1 v2 (if v3 < (f_generation σ v4) then (f_generation σ v4) else v3) v4 1))))))) : P_X5_counted_1 K L c σ v1 v2 v3 v4 := by
  refine g_iload C.1 4 dX5_counted_46 rfl ?_
  refine g_aload_n C.1 0 dX5_counted_48 rfl rfl ?_
  refine m_get C.1 inX5_counted 3 (by decide) (v := .int (iZ (σ 3 0))) rfl lk_X5_counted_f51 rfl dX5_counted_49 ?_
  obtain ⟨hc1, h⟩ := h
  obtain ⟨hc2, h⟩ := h
  refine g_icmp_ge C.1 (tgt := 185) dX5_counted_52 (by decide) hc1 hc2 (fun hc => ?_) (fun hc => ?_)
  · have h := h.1 hc
    refine g_iload_n C.1 1 dX5_counted_185 rfl rfl ?_
    refine g_iconst C.1 (z := 4) dX5_counted_186 ?_
    obtain ⟨hc3, h⟩ := h
    refine g_icmp_ne C.1 (tgt := 194) dX5_counted_187 (by decide) hc3 (by decide) (fun hc => ?_) (fun hc => ?_)
    · have h := h.1 hc
      refine g_iload_n C.1 2 dX5_counted_194 rfl rfl ?_
      exact x_iret C.1 C.2.2 rfl ⟨Nat.le_of_ble_eq_true rfl, Nat.le_of_ble_eq_true rfl⟩ dX5_counted_195 h
    · have h := h.2 hc
      refine g_iload_n C.1 3 dX5_counted_190 rfl rfl ?_
      refine g_goto C.1 (tgt := 195) dX5_counted_191 (by decide) ?_
      exact x_iret C.1 C.2.2 rfl ⟨Nat.le_of_ble_eq_true rfl, Nat.le_of_ble_eq_true rfl⟩ dX5_counted_195 h
  · have h := h.2 hc
    refine g_iload_n C.1 3 dX5_counted_55 rfl rfl ?_
    refine g_aload_n C.1 0 dX5_counted_56 rfl rfl ?_
    refine g_iload C.1 4 dX5_counted_57 rfl ?_
    obtain ⟨hp4, h⟩ := h
    refine x_callV C.1 (h_generation K.l L c σ v4 hp4) (ci := 6) (q := (RX5, TX5, 17)) rfl m_recv (fun ht => cwV 1 ht gX5_counted_X5_generation rfl rfl rfl (by decide +kernel) ⟨Nat.le_of_ble_eq_true rfl, Nat.le_of_ble_eq_true rfl⟩) rfl rfl (Nat.le_of_ble_eq_true rfl) ⟨Nat.le_of_ble_eq_true rfl, Nat.le_of_ble_eq_true rfl⟩ dX5_counted_59 (fun r σ9 hq => ?_)
    rw [hq.1, hq.2]
    show G K (MW L c [] [] σ) (0, 0) [(0, .ref (L 0)), (1, .int (iZ v1)), (2, .int (iZ v2)), (3, .int (iZ v3)), (4, .int (iZ v4))] 62 [.int (iZ (f_generation σ v4)), .int (iZ v3)]
    obtain ⟨hc5, h⟩ := h
    obtain ⟨hc6, h⟩ := h
    refine g_max C.1 (x := v3) (y := f_generation σ v4) hc5 hc6 lk_X5_counted_mm125 lk_X5_counted_ms125 lk_X5_counted_mi125 lk_X5_counted_mc125 (Nat.le_of_ble_eq_true rfl) (Nat.le_of_ble_eq_true rfl) ⟨Nat.le_of_ble_eq_true rfl, Nat.le_of_ble_eq_true rfl⟩ dX5_counted_62 ?_
    refine g_istore_n C.1 (loc' := [(3, .int (iZ (if v3 < (f_generation σ v4) then (f_generation σ v4) else v3))), (0, .ref (L 0)), (1, .int (iZ v1)), (2, .int (iZ v2)), (4, .int (iZ v4))]) C.2.1 dX5_counted_65 rfl (by decide) rfl ?_
    refine g_iload_n C.1 2 dX5_counted_66 rfl rfl ?_
    refine g_iconst C.1 (z := 3) dX5_counted_67 ?_
    obtain ⟨hc7, h⟩ := h
    refine g_icmp_ne C.1 (tgt := 90) dX5_counted_68 (by decide) hc7 (by decide) (fun hc => ?_) (fun hc => ?_)
    · have h := h.1 hc
      refine g_iload_n C.1 2 dX5_counted_90 rfl rfl ?_
      refine g_bipush C.1 (z := 7) dX5_counted_91 (by decide) ?_
      refine g_icmp_ne C.1 (tgt := 137) dX5_counted_93 (by decide) hc7 (by decide) (fun hc => ?_) (fun hc => ?_)
      · have h := h.1 hc
        exact g_sub [1, 2, 3, 0, 4] rfl h
      · have h := h.2 hc
        refine g_aload_n C.1 1 dX5_counted_96 rfl rfl ?_
        refine m_get C.1 inX5_counted 8 (by decide) (v := .ref (L 8)) rfl lk_X5_counted_f25 rfl dX5_counted_97 ?_
        refine g_iload C.1 4 dX5_counted_100 rfl ?_
        obtain ⟨hi8, h⟩ := h
        refine m_zald C.1 6 5 (N := 24) (f := (σ 8)) (e := v4) rfl rfl (by decide) hi8 dX5_counted_102 ?_
        obtain ⟨hc9, h⟩ := h
        refine g_if_eq C.1 (tgt := 137) dX5_counted_103 (by decide) hc9 (fun hc => ?_) (fun hc => ?_)
        · have h := h.1 hc
          exact g_sub [1, 2, 3, 0, 4] rfl h
        · have h := h.2 hc
          refine g_aload_n C.1 1 dX5_counted_106 rfl rfl ?_
          refine m_get C.1 inX5_counted 6 (by decide) (v := .ref (L 6)) rfl lk_X5_counted_f19 rfl dX5_counted_107 ?_
          refine g_iload C.1 4 dX5_counted_110 rfl ?_
          refine m_ald C.1 4 3 (N := 24) (f := (σ 6)) (e := v4) rfl rfl (by decide) hi8 dX5_counted_112 ?_
          refine g_iconst C.1 (z := (-1)) dX5_counted_113 ?_
          obtain ⟨hc10, h⟩ := h
          refine g_icmp_eq C.1 (tgt := 137) dX5_counted_114 (by decide) hc10 (by decide) (fun hc => ?_) (fun hc => ?_)
          · have h := h.1 hc
            exact g_sub [1, 2, 3, 0, 4] rfl h
          · have h := h.2 hc
            refine g_aload_n C.1 1 dX5_counted_117 rfl rfl ?_
            refine g_iload C.1 4 dX5_counted_118 rfl ?_
            obtain ⟨hp11, h⟩ := h
            refine x_callV C.1 (h_guessOf K.l L c σ v4 hp11) (ci := 6) (q := (RX5, TX5, 17)) rfl m_recv (fun ht => cwV 1 ht gX5_counted_X5_guessOf rfl rfl rfl (by decide +kernel) ⟨Nat.le_of_ble_eq_true rfl, Nat.le_of_ble_eq_true rfl⟩) rfl rfl (Nat.le_of_ble_eq_true rfl) ⟨Nat.le_of_ble_eq_true rfl, Nat.le_of_ble_eq_true rfl⟩ dX5_counted_120 (fun r12 σ13 hq => ?_)
            have h := h r12 σ13 hq
            show G K (MW L c [] [] σ13) (0, 0) [(3, .int (iZ (if v3 < (f_generation σ v4) then (f_generation σ v4) else v3))), (0, .ref (L 0)), (1, .int (iZ v1)), (2, .int (iZ v2)), (4, .int (iZ v4))] 123 [.int (iZ r12)]
            refine g_aload_n C.1 1 dX5_counted_123 rfl rfl ?_
            refine m_get C.1 inX5_counted 6 (by decide) (v := .ref (L 6)) rfl lk_X5_counted_f19 rfl dX5_counted_124 ?_
            refine g_iload C.1 4 dX5_counted_127 rfl ?_
            refine m_ald C.1 4 3 (N := 24) (f := (σ13 6)) (e := v4) rfl rfl (by decide) hi8 dX5_counted_129 ?_
            obtain ⟨hc14, h⟩ := h
            obtain ⟨hc15, h⟩ := h
            refine g_icmp_ne C.1 (tgt := 137) dX5_counted_130 (by decide) hc14 hc15 (fun hc => ?_) (fun hc => ?_)
            · have h := h.1 hc
              exact g_sub [1, 2, 3, 0, 4] rfl h
            · have h := h.2 hc
              refine g_iconst C.1 (z := 1) dX5_counted_133 ?_
              refine g_goto C.1 (tgt := 138) dX5_counted_134 (by decide) ?_
              exact g_sub [1, 2, 3, 0, 4] rfl h
    · have h := h.2 hc
      refine g_aload_n C.1 1 dX5_counted_71 rfl rfl ?_
      refine m_get C.1 inX5_counted 6 (by decide) (v := .ref (L 6)) rfl lk_X5_counted_f19 rfl dX5_counted_72 ?_
      refine g_iload C.1 4 dX5_counted_75 rfl ?_
      obtain ⟨hi16, h⟩ := h
      refine m_ald C.1 4 3 (N := 24) (f := (σ 6)) (e := v4) rfl rfl (by decide) hi16 dX5_counted_77 ?_
      refine g_iconst C.1 (z := (-1)) dX5_counted_78 ?_
      obtain ⟨hc17, h⟩ := h
      refine g_icmp_ne C.1 (tgt := 86) dX5_counted_79 (by decide) hc17 (by decide) (fun hc => ?_) (fun hc => ?_)
      · have h := h.1 hc
        refine g_iconst C.1 (z := 0) dX5_counted_86 ?_
        refine g_goto C.1 (tgt := 138) dX5_counted_87 (by decide) ?_
        exact g_sub [1, 2, 3, 0, 4] rfl h
      · have h := h.2 hc
        refine g_iconst C.1 (z := 1) dX5_counted_82 ?_
        refine g_goto C.1 (tgt := 138) dX5_counted_83 (by decide) ?_
        exact g_sub [1, 2, 3, 0, 4] rfl h
set_option maxRecDepth 100000 in
set_option maxHeartbeats 4000000 in
theorem b_X5_counted_2 {K : KT} {L : Nat → Nat} {c : Nat → ClassId} {post : Int → MS → Prop} (C : C_X5_counted K L c post) {σ : MS} {v1 v2 v3 v4 : Int} (h : P_X5_counted_3 K L c σ v1 v2 v3 v4 0) : P_X5_counted_2 K L c σ v1 v2 v3 v4 := by
  refine g_iconst C.1 (z := 0) dX5_counted_137 ?_
  exact h
set_option maxRecDepth 100000 in
set_option maxHeartbeats 4000000 in
theorem b_X5_counted_3 {K : KT} {L : Nat → Nat} {c : Nat → ClassId} {post : Int → MS → Prop} (C : C_X5_counted K L c post) {σ : MS} {v1 v2 v3 v4 s0 : Int} (h : (-2147483648 ≤ s0 ∧ s0 < 2147483648) ∧ ((s0 = 0 → (-2147483648 ≤ v1 ∧ v1 < 2147483648) ∧ ((¬ v1 = 6 → P_X5_counted_1 K L c σ v1 (v2 + 0) v3 (v4 + 1)) ∧ (v1 = 6 → (0 ≤ v4 ∧ v4 < 24) ∧ (-2147483648 ≤ ((σ 8) v4) ∧ ((σ 8) v4) < 2147483648) ∧ ((((σ 8) v4) = 0 → P_X5_counted_1 K L c σ v1 (v2 + 0) v3 (v4 + 1)) ∧ (¬ ((σ 8) v4) = 0 → P_X5_counted_1 K L c σ v1 (v2 + ((σ 5) v4)) v3 (v4 + 1)))))) ∧ (¬ s0 = 0 → P_X5_counted_1 K L c σ v1 (v2 + 1) v3 (v4 + 1)))) : P_X5_counted_3 K L c σ v1 v2 v3 v4 s0 := by
  refine g_istore C.1 (loc' := [(5, .int (iZ s0)), (0, .ref (L 0)), (1, .int (iZ v1)), (2, .int (iZ v2)), (3, .int (iZ v3)), (4, .int (iZ v4))]) C.2.1 dX5_counted_138 (by decide) rfl ?_
  refine g_iload_n C.1 3 dX5_counted_140 rfl rfl ?_
  refine g_iload C.1 0 dX5_counted_141 rfl ?_
  obtain ⟨hc1, h⟩ := h
  refine g_if_eq C.1 (tgt := 150) dX5_counted_143 (by decide) hc1 (fun hc => ?_) (fun hc => ?_)
  · have h := h.1 hc
    refine g_iload_n C.1 2 dX5_counted_150 rfl rfl ?_
    refine g_bipush C.1 (z := 6) dX5_counted_151 (by decide) ?_
    obtain ⟨hc2, h⟩ := h
    refine g_icmp_ne C.1 (tgt := 176) dX5_counted_153 (by decide) hc2 (by decide) (fun hc => ?_) (fun hc => ?_)
    · have h := h.1 hc
      refine g_iconst C.1 (z := 0) dX5_counted_176 ?_
      refine g_iadd C.1 (x := v2) (y := 0) dX5_counted_177 ?_
      refine g_istore_n C.1 (loc' := [(2, .int (iZ (v2 + 0))), (5, .int (iZ s0)), (0, .ref (L 0)), (1, .int (iZ v1)), (3, .int (iZ v3)), (4, .int (iZ v4))]) C.2.1 dX5_counted_178 rfl (by decide) rfl ?_
      refine g_iinc C.1 (z := v4) (w := 1) (loc' := [(4, .int (iZ (v4 + 1))), (2, .int (iZ (v2 + 0))), (5, .int (iZ s0)), (0, .ref (L 0)), (1, .int (iZ v1)), (3, .int (iZ v3))]) 5 C.2.1 dX5_counted_179 rfl (by decide) rfl ?_
      refine g_goto C.1 (tgt := 46) dX5_counted_182 (by decide) ?_
      exact g_sub [3, 4, 1, 5, 0] rfl h
    · have h := h.2 hc
      refine g_aload_n C.1 1 dX5_counted_156 rfl rfl ?_
      refine m_get C.1 inX5_counted 8 (by decide) (v := .ref (L 8)) rfl lk_X5_counted_f25 rfl dX5_counted_157 ?_
      refine g_iload C.1 5 dX5_counted_160 rfl ?_
      obtain ⟨hi3, h⟩ := h
      refine m_zald C.1 6 5 (N := 24) (f := (σ 8)) (e := v4) rfl rfl (by decide) hi3 dX5_counted_162 ?_
      obtain ⟨hc4, h⟩ := h
      refine g_if_eq C.1 (tgt := 176) dX5_counted_163 (by decide) hc4 (fun hc => ?_) (fun hc => ?_)
      · have h := h.1 hc
        refine g_iconst C.1 (z := 0) dX5_counted_176 ?_
        refine g_iadd C.1 (x := v2) (y := 0) dX5_counted_177 ?_
        refine g_istore_n C.1 (loc' := [(2, .int (iZ (v2 + 0))), (5, .int (iZ s0)), (0, .ref (L 0)), (1, .int (iZ v1)), (3, .int (iZ v3)), (4, .int (iZ v4))]) C.2.1 dX5_counted_178 rfl (by decide) rfl ?_
        refine g_iinc C.1 (z := v4) (w := 1) (loc' := [(4, .int (iZ (v4 + 1))), (2, .int (iZ (v2 + 0))), (5, .int (iZ s0)), (0, .ref (L 0)), (1, .int (iZ v1)), (3, .int (iZ v3))]) 5 C.2.1 dX5_counted_179 rfl (by decide) rfl ?_
        refine g_goto C.1 (tgt := 46) dX5_counted_182 (by decide) ?_
        exact g_sub [3, 4, 1, 5, 0] rfl h
      · have h := h.2 hc
        refine g_aload_n C.1 1 dX5_counted_166 rfl rfl ?_
        refine m_get C.1 inX5_counted 5 (by decide) (v := .ref (L 5)) rfl lk_X5_counted_f16 rfl dX5_counted_167 ?_
        refine g_iload C.1 5 dX5_counted_170 rfl ?_
        refine m_ald C.1 3 2 (N := 24) (f := (σ 5)) (e := v4) rfl rfl (by decide) hi3 dX5_counted_172 ?_
        refine g_goto C.1 (tgt := 177) dX5_counted_173 (by decide) ?_
        refine g_iadd C.1 (x := v2) (y := (σ 5) v4) dX5_counted_177 ?_
        refine g_istore_n C.1 (loc' := [(2, .int (iZ (v2 + ((σ 5) v4)))), (5, .int (iZ s0)), (0, .ref (L 0)), (1, .int (iZ v1)), (3, .int (iZ v3)), (4, .int (iZ v4))]) C.2.1 dX5_counted_178 rfl (by decide) rfl ?_
        refine g_iinc C.1 (z := v4) (w := 1) (loc' := [(4, .int (iZ (v4 + 1))), (2, .int (iZ (v2 + ((σ 5) v4)))), (5, .int (iZ s0)), (0, .ref (L 0)), (1, .int (iZ v1)), (3, .int (iZ v3))]) 5 C.2.1 dX5_counted_179 rfl (by decide) rfl ?_
        refine g_goto C.1 (tgt := 46) dX5_counted_182 (by decide) ?_
        exact g_sub [3, 4, 1, 5, 0] rfl h
  · have h := h.2 hc
    refine g_iconst C.1 (z := 1) dX5_counted_146 ?_
    refine g_goto C.1 (tgt := 177) dX5_counted_147 (by decide) ?_
    refine g_iadd C.1 (x := v2) (y := 1) dX5_counted_177 ?_
    refine g_istore_n C.1 (loc' := [(2, .int (iZ (v2 + 1))), (5, .int (iZ s0)), (0, .ref (L 0)), (1, .int (iZ v1)), (3, .int (iZ v3)), (4, .int (iZ v4))]) C.2.1 dX5_counted_178 rfl (by decide) rfl ?_
    refine g_iinc C.1 (z := v4) (w := 1) (loc' := [(4, .int (iZ (v4 + 1))), (2, .int (iZ (v2 + 1))), (5, .int (iZ s0)), (0, .ref (L 0)), (1, .int (iZ v1)), (3, .int (iZ v3))]) 5 C.2.1 dX5_counted_179 rfl (by decide) rfl ?_
    refine g_goto C.1 (tgt := 46) dX5_counted_182 (by decide) ?_
    exact g_sub [3, 4, 1, 5, 0] rfl h
def H_X5_counted (p : MS → Int → Prop) (o : MS → Int → Int → MS → Prop) : Prop := ∀ (l : Launch) (L : Nat → Nat) (c : Nat → ClassId) (σ : MS) (v1 : Int), p σ v1 → xMet l yX5_counted wsX5_counted rm_X5_counted (MW L c [] []) rkI [.ref (L 0), .int (iZ v1)] σ (fun r σ' => o σ v1 r σ')
theorem m_X5_counted {l : Launch} {L : Nat → Nat} {c : Nat → ClassId} {σ : MS} {v1 : Int} {post : Int → MS → Prop} (h : ∀ K : KT, K.l = l → C_X5_counted K L c post → P_X5_counted_0 K L c σ v1) : xMet l yX5_counted wsX5_counted rm_X5_counted (MW L c [] []) rkI [.ref (L 0), .int (iZ v1)] σ post :=
  xMet.of (maxL := 6) (by decide +kernel) rfl (Nat.le_of_ble_eq_true rfl) (fun K h1 h2 h3 h4 _ => h K h1 ⟨h2, h4, h3⟩)

/-! X5_count -/
abbrev rm_X5_count : Room := { frames := 5, cells := 0, slots := 0, locals := 152 }
theorem inX5_count : ∀ w ∈ wsX50, w ∈ wsX5_count := by decide +kernel
theorem lk_X5_count_f47 : Cond.fieldLink RX5 47 "CopyHouseModel" "thrown" "I" ∈ wsX5_count := List.mem_of_getElem? (i := 1) (by decide +kernel)
def C_X5_count (K : KT) (L : Nat → Nat) (c : Nat → ClassId) (post : Int → MS → Prop) : Prop := kOK K cX5_count RX5 wsX5_count (some .int) rm_X5_count ∧ K.nL = 2 ∧ kQ K (MW L c [] []) rkI post rm_X5_count
def P_X5_count_0 (K : KT) (L : Nat → Nat) (c : Nat → ClassId) (σ : MS) (v1 : Int) : Prop := G K (MW L c [] [] σ) (0, 0) [(0, .ref (L 0)), (1, .int (iZ v1))] 0 []
set_option maxRecDepth 100000 in
set_option maxHeartbeats 4000000 in
theorem b_X5_count_0 {K : KT} {L : Nat → Nat} {c : Nat → ClassId} {post : Int → MS → Prop} (C : C_X5_count K L c post) {p_isIn : MS → Int → Int → Int → Prop} {f_isIn : MS → Int → Int → Int → Bool} (h_isIn : H_X5_isIn p_isIn f_isIn) {p_no : MS → Int → Prop} {u_no : MS → Int → MS} (h_no : H_X5_no p_no u_no) {p_counted : MS → Int → Prop} {o_counted : MS → Int → Int → MS → Prop} (h_counted : H_X5_counted p_counted o_counted) {σ : MS} {v1 : Int} (h : (p_isIn (upM σ 0 (fun _ => 0)) v1 0 7) ∧ ((¬ (f_isIn (upM σ 0 (fun _ => 0)) v1 0 7 = true) → (p_no (upM σ 0 (fun _ => 0)) 1) ∧ post 0 ((u_no (upM σ 0 (fun _ => 0)) 1))) ∧ (f_isIn (upM σ 0 (fun _ => 0)) v1 0 7 = true → (p_counted (upM σ 0 (fun _ => 0)) v1) ∧ ∀ (r4 : Int) (σ5 : MS), o_counted (upM σ 0 (fun _ => 0)) v1 r4 σ5 → post r4 σ5))) : P_X5_count_0 K L c σ v1 := by
  refine g_aload_n C.1 0 dX5_count_0 rfl rfl ?_
  refine g_iconst C.1 (z := 0) dX5_count_1 ?_
  refine m_put C.1 inX5_count 0 (by decide) (z := 0) (σ' := upM σ 0 (fun _ => 0)) rfl lk_X5_count_f47 rfl rfl rfl dX5_count_2 ?_
  refine g_iload_n C.1 1 dX5_count_5 rfl rfl ?_
  refine g_iconst C.1 (z := 0) dX5_count_6 ?_
  refine g_bipush C.1 (z := 7) dX5_count_7 (by decide) ?_
  obtain ⟨hp1, h⟩ := h
  refine x_callS C.1 (h_isIn K.l L c (upM σ 0 (fun _ => 0)) v1 0 7 hp1) (fun ht => va_cwS 3 ht gX5_count_X5_isIn rfl rfl rfl (by decide +kernel) ⟨Nat.le_of_ble_eq_true rfl, Nat.le_of_ble_eq_true rfl⟩) rfl rfl (Nat.le_of_ble_eq_true rfl) ⟨Nat.le_of_ble_eq_true rfl, Nat.le_of_ble_eq_true rfl⟩ dX5_count_9 (fun r σ9 hq => ?_)
  rw [hq.1, hq.2]
  show G K (MW L c [] [] (upM σ 0 (fun _ => 0))) (0, 0) [(0, .ref (L 0)), (1, .int (iZ v1))] 12 [.int (iZ (if f_isIn (upM σ 0 (fun _ => 0)) v1 0 7 = true then 1 else 0))]
  refine g_ifb_eq C.1 (tgt := 23) dX5_count_12 (by decide) (fun hc => ?_) (fun hc => ?_)
  · have h := h.1 hc
    refine g_aload_n C.1 0 dX5_count_23 rfl rfl ?_
    refine g_iconst C.1 (z := 1) dX5_count_24 ?_
    obtain ⟨hp2, h⟩ := h
    refine x_callV C.1 (h_no K.l L c (upM σ 0 (fun _ => 0)) 1 hp2) (ci := 6) (q := (RX5, TX5, 17)) rfl m_recv (fun ht => cwV 1 ht gX5_count_X5_no rfl rfl rfl (by decide +kernel) ⟨Nat.le_of_ble_eq_true rfl, Nat.le_of_ble_eq_true rfl⟩) rfl rfl (Nat.le_of_ble_eq_true rfl) ⟨Nat.le_of_ble_eq_true rfl, Nat.le_of_ble_eq_true rfl⟩ dX5_count_25 (fun r σ9 hq => ?_)
    rw [hq.1, hq.2]
    show G K (MW L c [] [] ((u_no (upM σ 0 (fun _ => 0)) 1))) (0, 0) [(0, .ref (L 0)), (1, .int (iZ v1))] 28 [.int (iZ 0)]
    exact x_iret C.1 C.2.2 rfl ⟨Nat.le_of_ble_eq_true rfl, Nat.le_of_ble_eq_true rfl⟩ dX5_count_28 h
  · have h := h.2 hc
    refine g_aload_n C.1 0 dX5_count_15 rfl rfl ?_
    refine g_iload_n C.1 1 dX5_count_16 rfl rfl ?_
    obtain ⟨hp3, h⟩ := h
    refine x_callV C.1 (h_counted K.l L c (upM σ 0 (fun _ => 0)) v1 hp3) (ci := 6) (q := (RX5, TX5, 17)) rfl m_recv (fun ht => cwV 1 ht gX5_count_X5_counted rfl rfl rfl (by decide +kernel) ⟨Nat.le_of_ble_eq_true rfl, Nat.le_of_ble_eq_true rfl⟩) rfl rfl (Nat.le_of_ble_eq_true rfl) ⟨Nat.le_of_ble_eq_true rfl, Nat.le_of_ble_eq_true rfl⟩ dX5_count_17 (fun r4 σ5 hq => ?_)
    have h := h r4 σ5 hq
    show G K (MW L c [] [] σ5) (0, 0) [(0, .ref (L 0)), (1, .int (iZ v1))] 20 [.int (iZ r4)]
    refine g_goto C.1 (tgt := 28) dX5_count_20 (by decide) ?_
    exact x_iret C.1 C.2.2 rfl ⟨Nat.le_of_ble_eq_true rfl, Nat.le_of_ble_eq_true rfl⟩ dX5_count_28 h
def H_X5_count (p : MS → Int → Prop) (o : MS → Int → Int → MS → Prop) : Prop := ∀ (l : Launch) (L : Nat → Nat) (c : Nat → ClassId) (σ : MS) (v1 : Int), p σ v1 → xMet l yX5_count wsX5_count rm_X5_count (MW L c [] []) rkI [.ref (L 0), .int (iZ v1)] σ (fun r σ' => o σ v1 r σ')
theorem m_X5_count {l : Launch} {L : Nat → Nat} {c : Nat → ClassId} {σ : MS} {v1 : Int} {post : Int → MS → Prop} (h : ∀ K : KT, K.l = l → C_X5_count K L c post → P_X5_count_0 K L c σ v1) : xMet l yX5_count wsX5_count rm_X5_count (MW L c [] []) rkI [.ref (L 0), .int (iZ v1)] σ post :=
  xMet.of (maxL := 2) (by decide +kernel) rfl (Nat.le_of_ble_eq_true rfl) (fun K h1 h2 h3 h4 _ => h K h1 ⟨h2, h4, h3⟩)

/-! X5_distance -/
abbrev rm_X5_distance : Room := { frames := 3, cells := 0, slots := 0, locals := 104 }
theorem inX5_distance : ∀ w ∈ wsX50, w ∈ wsX5_distance := by decide +kernel
theorem lk_X5_distance_f47 : Cond.fieldLink RX5 47 "CopyHouseModel" "thrown" "I" ∈ wsX5_distance := List.mem_of_getElem? (i := 1) (by decide +kernel)
def C_X5_distance (K : KT) (L : Nat → Nat) (c : Nat → ClassId) (post : Int → MS → Prop) : Prop := kOK K cX5_distance RX5 wsX5_distance (some .int) rm_X5_distance ∧ K.nL = 3 ∧ kQ K (MW L c [] []) rkI post rm_X5_distance
def P_X5_distance_0 (K : KT) (L : Nat → Nat) (c : Nat → ClassId) (σ : MS) (v1 v2 : Int) : Prop := G K (MW L c [] [] σ) (0, 0) [(0, .ref (L 0)), (1, .int (iZ v1)), (2, .int (iZ v2))] 0 []
set_option maxRecDepth 100000 in
set_option maxHeartbeats 4000000 in
theorem b_X5_distance_0 {K : KT} {L : Nat → Nat} {c : Nat → ClassId} {post : Int → MS → Prop} (C : C_X5_distance K L c post) {p_isText : MS → Int → Prop} {f_isText : MS → Int → Bool} (h_isText : H_X5_isText p_isText f_isText) {p_no : MS → Int → Prop} {u_no : MS → Int → MS} (h_no : H_X5_no p_no u_no) {p_apart : MS → Int → Int → Prop} {o_apart : MS → Int → Int → Int → MS → Prop} (h_apart : H_X5_apart p_apart o_apart) {σ : MS} {v1 v2 : Int} (h : (p_isText (upM σ 0 (fun _ => 0)) v1) ∧ ((¬ (f_isText (upM σ 0 (fun _ => 0)) v1 = true) → (p_no (upM σ 0 (fun _ => 0)) 1) ∧ post 0 ((u_no (upM σ 0 (fun _ => 0)) 1))) ∧ (f_isText (upM σ 0 (fun _ => 0)) v1 = true → (p_isText (upM σ 0 (fun _ => 0)) v2) ∧ ((¬ (f_isText (upM σ 0 (fun _ => 0)) v2 = true) → (p_no (upM σ 0 (fun _ => 0)) 1) ∧ post 0 ((u_no (upM σ 0 (fun _ => 0)) 1))) ∧ (f_isText (upM σ 0 (fun _ => 0)) v2 = true → (p_apart (upM σ 0 (fun _ => 0)) v1 v2) ∧ ∀ (r6 : Int) (σ7 : MS), o_apart (upM σ 0 (fun _ => 0)) v1 v2 r6 σ7 → post r6 σ7))))) : P_X5_distance_0 K L c σ v1 v2 := by
  refine g_aload_n C.1 0 dX5_distance_0 rfl rfl ?_
  refine g_iconst C.1 (z := 0) dX5_distance_1 ?_
  refine m_put C.1 inX5_distance 0 (by decide) (z := 0) (σ' := upM σ 0 (fun _ => 0)) rfl lk_X5_distance_f47 rfl rfl rfl dX5_distance_2 ?_
  refine g_aload_n C.1 0 dX5_distance_5 rfl rfl ?_
  refine g_iload_n C.1 1 dX5_distance_6 rfl rfl ?_
  obtain ⟨hp1, h⟩ := h
  refine x_callV C.1 (h_isText K.l L c (upM σ 0 (fun _ => 0)) v1 hp1) (ci := 6) (q := (RX5, TX5, 17)) rfl m_recv (fun ht => cwV 1 ht gX5_distance_X5_isText rfl rfl rfl (by decide +kernel) ⟨Nat.le_of_ble_eq_true rfl, Nat.le_of_ble_eq_true rfl⟩) rfl rfl (Nat.le_of_ble_eq_true rfl) ⟨Nat.le_of_ble_eq_true rfl, Nat.le_of_ble_eq_true rfl⟩ dX5_distance_7 (fun r σ9 hq => ?_)
  rw [hq.1, hq.2]
  show G K (MW L c [] [] (upM σ 0 (fun _ => 0))) (0, 0) [(0, .ref (L 0)), (1, .int (iZ v1)), (2, .int (iZ v2))] 10 [.int (iZ (if f_isText (upM σ 0 (fun _ => 0)) v1 = true then 1 else 0))]
  refine g_ifb_eq C.1 (tgt := 30) dX5_distance_10 (by decide) (fun hc => ?_) (fun hc => ?_)
  · have h := h.1 hc
    refine g_aload_n C.1 0 dX5_distance_30 rfl rfl ?_
    refine g_iconst C.1 (z := 1) dX5_distance_31 ?_
    obtain ⟨hp2, h⟩ := h
    refine x_callV C.1 (h_no K.l L c (upM σ 0 (fun _ => 0)) 1 hp2) (ci := 6) (q := (RX5, TX5, 17)) rfl m_recv (fun ht => cwV 1 ht gX5_distance_X5_no rfl rfl rfl (by decide +kernel) ⟨Nat.le_of_ble_eq_true rfl, Nat.le_of_ble_eq_true rfl⟩) rfl rfl (Nat.le_of_ble_eq_true rfl) ⟨Nat.le_of_ble_eq_true rfl, Nat.le_of_ble_eq_true rfl⟩ dX5_distance_32 (fun r σ9 hq => ?_)
    rw [hq.1, hq.2]
    show G K (MW L c [] [] ((u_no (upM σ 0 (fun _ => 0)) 1))) (0, 0) [(0, .ref (L 0)), (1, .int (iZ v1)), (2, .int (iZ v2))] 35 [.int (iZ 0)]
    exact x_iret C.1 C.2.2 rfl ⟨Nat.le_of_ble_eq_true rfl, Nat.le_of_ble_eq_true rfl⟩ dX5_distance_35 h
  · have h := h.2 hc
    refine g_aload_n C.1 0 dX5_distance_13 rfl rfl ?_
    refine g_iload_n C.1 2 dX5_distance_14 rfl rfl ?_
    obtain ⟨hp3, h⟩ := h
    refine x_callV C.1 (h_isText K.l L c (upM σ 0 (fun _ => 0)) v2 hp3) (ci := 6) (q := (RX5, TX5, 17)) rfl m_recv (fun ht => cwV 1 ht gX5_distance_X5_isText rfl rfl rfl (by decide +kernel) ⟨Nat.le_of_ble_eq_true rfl, Nat.le_of_ble_eq_true rfl⟩) rfl rfl (Nat.le_of_ble_eq_true rfl) ⟨Nat.le_of_ble_eq_true rfl, Nat.le_of_ble_eq_true rfl⟩ dX5_distance_15 (fun r σ9 hq => ?_)
    rw [hq.1, hq.2]
    show G K (MW L c [] [] (upM σ 0 (fun _ => 0))) (0, 0) [(0, .ref (L 0)), (1, .int (iZ v1)), (2, .int (iZ v2))] 18 [.int (iZ (if f_isText (upM σ 0 (fun _ => 0)) v2 = true then 1 else 0))]
    refine g_ifb_eq C.1 (tgt := 30) dX5_distance_18 (by decide) (fun hc => ?_) (fun hc => ?_)
    · have h := h.1 hc
      refine g_aload_n C.1 0 dX5_distance_30 rfl rfl ?_
      refine g_iconst C.1 (z := 1) dX5_distance_31 ?_
      obtain ⟨hp4, h⟩ := h
      refine x_callV C.1 (h_no K.l L c (upM σ 0 (fun _ => 0)) 1 hp4) (ci := 6) (q := (RX5, TX5, 17)) rfl m_recv (fun ht => cwV 1 ht gX5_distance_X5_no rfl rfl rfl (by decide +kernel) ⟨Nat.le_of_ble_eq_true rfl, Nat.le_of_ble_eq_true rfl⟩) rfl rfl (Nat.le_of_ble_eq_true rfl) ⟨Nat.le_of_ble_eq_true rfl, Nat.le_of_ble_eq_true rfl⟩ dX5_distance_32 (fun r σ9 hq => ?_)
      rw [hq.1, hq.2]
      show G K (MW L c [] [] ((u_no (upM σ 0 (fun _ => 0)) 1))) (0, 0) [(0, .ref (L 0)), (1, .int (iZ v1)), (2, .int (iZ v2))] 35 [.int (iZ 0)]
      exact x_iret C.1 C.2.2 rfl ⟨Nat.le_of_ble_eq_true rfl, Nat.le_of_ble_eq_true rfl⟩ dX5_distance_35 h
    · have h := h.2 hc
      refine g_aload_n C.1 0 dX5_distance_21 rfl rfl ?_
      refine g_iload_n C.1 1 dX5_distance_22 rfl rfl ?_
      refine g_iload_n C.1 2 dX5_distance_23 rfl rfl ?_
      obtain ⟨hp5, h⟩ := h
      refine x_callV C.1 (h_apart K.l L c (upM σ 0 (fun _ => 0)) v1 v2 hp5) (ci := 6) (q := (RX5, TX5, 17)) rfl m_recv (fun ht => cwV 2 ht gX5_distance_X5_apart rfl rfl rfl (by decide +kernel) ⟨Nat.le_of_ble_eq_true rfl, Nat.le_of_ble_eq_true rfl⟩) rfl rfl (Nat.le_of_ble_eq_true rfl) ⟨Nat.le_of_ble_eq_true rfl, Nat.le_of_ble_eq_true rfl⟩ dX5_distance_24 (fun r6 σ7 hq => ?_)
      have h := h r6 σ7 hq
      show G K (MW L c [] [] σ7) (0, 0) [(0, .ref (L 0)), (1, .int (iZ v1)), (2, .int (iZ v2))] 27 [.int (iZ r6)]
      refine g_goto C.1 (tgt := 35) dX5_distance_27 (by decide) ?_
      exact x_iret C.1 C.2.2 rfl ⟨Nat.le_of_ble_eq_true rfl, Nat.le_of_ble_eq_true rfl⟩ dX5_distance_35 h
def H_X5_distance (p : MS → Int → Int → Prop) (o : MS → Int → Int → Int → MS → Prop) : Prop := ∀ (l : Launch) (L : Nat → Nat) (c : Nat → ClassId) (σ : MS) (v1 v2 : Int), p σ v1 v2 → xMet l yX5_distance wsX5_distance rm_X5_distance (MW L c [] []) rkI [.ref (L 0), .int (iZ v1), .int (iZ v2)] σ (fun r σ' => o σ v1 v2 r σ')
theorem m_X5_distance {l : Launch} {L : Nat → Nat} {c : Nat → ClassId} {σ : MS} {v1 v2 : Int} {post : Int → MS → Prop} (h : ∀ K : KT, K.l = l → C_X5_distance K L c post → P_X5_distance_0 K L c σ v1 v2) : xMet l yX5_distance wsX5_distance rm_X5_distance (MW L c [] []) rkI [.ref (L 0), .int (iZ v1), .int (iZ v2)] σ post :=
  xMet.of (maxL := 3) (by decide +kernel) rfl (Nat.le_of_ble_eq_true rfl) (fun K h1 h2 h3 h4 _ => h K h1 ⟨h2, h4, h3⟩)

/-! X5_common -/
abbrev rm_X5_common : Room := { frames := 2, cells := 0, slots := 0, locals := 43 }
theorem inX5_common : ∀ w ∈ wsX50, w ∈ wsX5_common := by decide +kernel
theorem lk_X5_common_f47 : Cond.fieldLink RX5 47 "CopyHouseModel" "thrown" "I" ∈ wsX5_common := List.mem_of_getElem? (i := 1) (by decide +kernel)
theorem lk_X5_common_f19 : Cond.fieldLink RX5 19 "CopyHouseModel" "exemplar" "[I" ∈ wsX5_common := List.mem_of_getElem? (i := 2) (by decide +kernel)
def C_X5_common (K : KT) (L : Nat → Nat) (c : Nat → ClassId) (post : Int → MS → Prop) : Prop := kOK K cX5_common RX5 wsX5_common (some .int) rm_X5_common ∧ K.nL = 4 ∧ kQ K (MW L c [] []) rkI post rm_X5_common
def P_X5_common_0 (K : KT) (L : Nat → Nat) (c : Nat → ClassId) (σ : MS) (v1 v2 : Int) : Prop := G K (MW L c [] [] σ) (0, 0) [(0, .ref (L 0)), (1, .int (iZ v1)), (2, .int (iZ v2))] 0 []
def P_X5_common_1 (K : KT) (L : Nat → Nat) (c : Nat → ClassId) (σ : MS) (v2 v3 : Int) : Prop := G K (MW L c [] [] σ) (0, 0) [(0, .ref (L 0)), (2, .int (iZ v2)), (3, .int (iZ v3))] 29 []
set_option maxRecDepth 100000 in
set_option maxHeartbeats 4000000 in
theorem b_X5_common_0 {K : KT} {L : Nat → Nat} {c : Nat → ClassId} {post : Int → MS → Prop} (C : C_X5_common K L c post) {p_isText : MS → Int → Prop} {f_isText : MS → Int → Bool} (h_isText : H_X5_isText p_isText f_isText) {p_no : MS → Int → Prop} {u_no : MS → Int → MS} (h_no : H_X5_no p_no u_no) {σ : MS} {v1 v2 : Int} (h : (p_isText (upM σ 0 (fun _ => 0)) v1) ∧ ((¬ (f_isText (upM σ 0 (fun _ => 0)) v1 = true) → (p_no (upM σ 0 (fun _ => 0)) 1) ∧ post 0 ((u_no (upM σ 0 (fun _ => 0)) 1))) ∧ (f_isText (upM σ 0 (fun _ => 0)) v1 = true → (p_isText (upM σ 0 (fun _ => 0)) v2) ∧ ((f_isText (upM σ 0 (fun _ => 0)) v2 = true → P_X5_common_1 K L c (upM σ 0 (fun _ => 0)) v2 v1) ∧ (¬ (f_isText (upM σ 0 (fun _ => 0)) v2 = true) → (p_no (upM σ 0 (fun _ => 0)) 1) ∧ post 0 ((u_no (upM σ 0 (fun _ => 0)) 1))))))) : P_X5_common_0 K L c σ v1 v2 := by
  refine g_aload_n C.1 0 dX5_common_0 rfl rfl ?_
  refine g_iconst C.1 (z := 0) dX5_common_1 ?_
  refine m_put C.1 inX5_common 0 (by decide) (z := 0) (σ' := upM σ 0 (fun _ => 0)) rfl lk_X5_common_f47 rfl rfl rfl dX5_common_2 ?_
  refine g_aload_n C.1 0 dX5_common_5 rfl rfl ?_
  refine g_iload_n C.1 1 dX5_common_6 rfl rfl ?_
  obtain ⟨hp1, h⟩ := h
  refine x_callV C.1 (h_isText K.l L c (upM σ 0 (fun _ => 0)) v1 hp1) (ci := 6) (q := (RX5, TX5, 17)) rfl m_recv (fun ht => cwV 1 ht gX5_common_X5_isText rfl rfl rfl (by decide +kernel) ⟨Nat.le_of_ble_eq_true rfl, Nat.le_of_ble_eq_true rfl⟩) rfl rfl (Nat.le_of_ble_eq_true rfl) ⟨Nat.le_of_ble_eq_true rfl, Nat.le_of_ble_eq_true rfl⟩ dX5_common_7 (fun r σ9 hq => ?_)
  rw [hq.1, hq.2]
  show G K (MW L c [] [] (upM σ 0 (fun _ => 0))) (0, 0) [(0, .ref (L 0)), (1, .int (iZ v1)), (2, .int (iZ v2))] 10 [.int (iZ (if f_isText (upM σ 0 (fun _ => 0)) v1 = true then 1 else 0))]
  refine g_ifb_eq C.1 (tgt := 21) dX5_common_10 (by decide) (fun hc => ?_) (fun hc => ?_)
  · have h := h.1 hc
    refine g_aload_n C.1 0 dX5_common_21 rfl rfl ?_
    refine g_iconst C.1 (z := 1) dX5_common_22 ?_
    obtain ⟨hp2, h⟩ := h
    refine x_callV C.1 (h_no K.l L c (upM σ 0 (fun _ => 0)) 1 hp2) (ci := 6) (q := (RX5, TX5, 17)) rfl m_recv (fun ht => cwV 1 ht gX5_common_X5_no rfl rfl rfl (by decide +kernel) ⟨Nat.le_of_ble_eq_true rfl, Nat.le_of_ble_eq_true rfl⟩) rfl rfl (Nat.le_of_ble_eq_true rfl) ⟨Nat.le_of_ble_eq_true rfl, Nat.le_of_ble_eq_true rfl⟩ dX5_common_23 (fun r σ9 hq => ?_)
    rw [hq.1, hq.2]
    show G K (MW L c [] [] ((u_no (upM σ 0 (fun _ => 0)) 1))) (0, 0) [(0, .ref (L 0)), (1, .int (iZ v1)), (2, .int (iZ v2))] 26 [.int (iZ 0)]
    exact x_iret C.1 C.2.2 rfl ⟨Nat.le_of_ble_eq_true rfl, Nat.le_of_ble_eq_true rfl⟩ dX5_common_26 h
  · have h := h.2 hc
    refine g_aload_n C.1 0 dX5_common_13 rfl rfl ?_
    refine g_iload_n C.1 2 dX5_common_14 rfl rfl ?_
    obtain ⟨hp3, h⟩ := h
    refine x_callV C.1 (h_isText K.l L c (upM σ 0 (fun _ => 0)) v2 hp3) (ci := 6) (q := (RX5, TX5, 17)) rfl m_recv (fun ht => cwV 1 ht gX5_common_X5_isText rfl rfl rfl (by decide +kernel) ⟨Nat.le_of_ble_eq_true rfl, Nat.le_of_ble_eq_true rfl⟩) rfl rfl (Nat.le_of_ble_eq_true rfl) ⟨Nat.le_of_ble_eq_true rfl, Nat.le_of_ble_eq_true rfl⟩ dX5_common_15 (fun r σ9 hq => ?_)
    rw [hq.1, hq.2]
    show G K (MW L c [] [] (upM σ 0 (fun _ => 0))) (0, 0) [(0, .ref (L 0)), (1, .int (iZ v1)), (2, .int (iZ v2))] 18 [.int (iZ (if f_isText (upM σ 0 (fun _ => 0)) v2 = true then 1 else 0))]
    refine g_ifb_ne C.1 (tgt := 27) dX5_common_18 (by decide) (fun hc => ?_) (fun hc => ?_)
    · have h := h.1 hc
      refine g_iload_n C.1 1 dX5_common_27 rfl rfl ?_
      refine g_istore_n C.1 (loc' := [(3, .int (iZ v1)), (0, .ref (L 0)), (1, .int (iZ v1)), (2, .int (iZ v2))]) C.2.1 dX5_common_28 rfl (by decide) rfl ?_
      exact g_sub [1, 3, 0] rfl h
    · have h := h.2 hc
      refine g_aload_n C.1 0 dX5_common_21 rfl rfl ?_
      refine g_iconst C.1 (z := 1) dX5_common_22 ?_
      obtain ⟨hp4, h⟩ := h
      refine x_callV C.1 (h_no K.l L c (upM σ 0 (fun _ => 0)) 1 hp4) (ci := 6) (q := (RX5, TX5, 17)) rfl m_recv (fun ht => cwV 1 ht gX5_common_X5_no rfl rfl rfl (by decide +kernel) ⟨Nat.le_of_ble_eq_true rfl, Nat.le_of_ble_eq_true rfl⟩) rfl rfl (Nat.le_of_ble_eq_true rfl) ⟨Nat.le_of_ble_eq_true rfl, Nat.le_of_ble_eq_true rfl⟩ dX5_common_23 (fun r σ9 hq => ?_)
      rw [hq.1, hq.2]
      show G K (MW L c [] [] ((u_no (upM σ 0 (fun _ => 0)) 1))) (0, 0) [(0, .ref (L 0)), (1, .int (iZ v1)), (2, .int (iZ v2))] 26 [.int (iZ 0)]
      exact x_iret C.1 C.2.2 rfl ⟨Nat.le_of_ble_eq_true rfl, Nat.le_of_ble_eq_true rfl⟩ dX5_common_26 h
set_option maxRecDepth 100000 in
set_option maxHeartbeats 4000000 in
theorem b_X5_common_1 {K : KT} {L : Nat → Nat} {c : Nat → ClassId} {post : Int → MS → Prop} (C : C_X5_common K L c post) {p_isOf : MS → Int → Int → Prop} {f_isOf : MS → Int → Int → Bool} (h_isOf : H_X5_isOf p_isOf f_isOf) {σ : MS} {v2 v3 : Int} (h : (-2147483648 ≤ v3 ∧ v3 < 2147483648) ∧ ((v3 = ((-1)) → post v3 σ) ∧ (¬ v3 = ((-1)) → (p_isOf σ v2 v3) ∧ ((f_isOf σ v2 v3 = true → post v3 σ) ∧ (¬ (f_isOf σ v2 v3 = true) → (0 ≤ v3 ∧ v3 < 24) ∧ P_X5_common_1 K L c σ v2 ((σ 6) v3)))))) : P_X5_common_1 K L c σ v2 v3 := by
  refine g_iload_n C.1 2 dX5_common_29 rfl rfl ?_
  refine g_iconst C.1 (z := (-1)) dX5_common_30 ?_
  obtain ⟨hc1, h⟩ := h
  refine g_icmp_eq C.1 (tgt := 53) dX5_common_31 (by decide) hc1 (by decide) (fun hc => ?_) (fun hc => ?_)
  · have h := h.1 hc
    refine g_iload_n C.1 2 dX5_common_53 rfl rfl ?_
    exact x_iret C.1 C.2.2 rfl ⟨Nat.le_of_ble_eq_true rfl, Nat.le_of_ble_eq_true rfl⟩ dX5_common_54 h
  · have h := h.2 hc
    refine g_aload_n C.1 0 dX5_common_34 rfl rfl ?_
    refine g_iload_n C.1 1 dX5_common_35 rfl rfl ?_
    refine g_iload_n C.1 2 dX5_common_36 rfl rfl ?_
    obtain ⟨hp2, h⟩ := h
    refine x_callV C.1 (h_isOf K.l L c σ v2 v3 hp2) (ci := 6) (q := (RX5, TX5, 17)) rfl m_recv (fun ht => cwV 2 ht gX5_common_X5_isOf rfl rfl rfl (by decide +kernel) ⟨Nat.le_of_ble_eq_true rfl, Nat.le_of_ble_eq_true rfl⟩) rfl rfl (Nat.le_of_ble_eq_true rfl) ⟨Nat.le_of_ble_eq_true rfl, Nat.le_of_ble_eq_true rfl⟩ dX5_common_37 (fun r σ9 hq => ?_)
    rw [hq.1, hq.2]
    show G K (MW L c [] [] σ) (0, 0) [(0, .ref (L 0)), (2, .int (iZ v2)), (3, .int (iZ v3))] 40 [.int (iZ (if f_isOf σ v2 v3 = true then 1 else 0))]
    refine g_ifb_ne C.1 (tgt := 53) dX5_common_40 (by decide) (fun hc => ?_) (fun hc => ?_)
    · have h := h.1 hc
      refine g_iload_n C.1 2 dX5_common_53 rfl rfl ?_
      exact x_iret C.1 C.2.2 rfl ⟨Nat.le_of_ble_eq_true rfl, Nat.le_of_ble_eq_true rfl⟩ dX5_common_54 h
    · have h := h.2 hc
      refine g_aload_n C.1 0 dX5_common_43 rfl rfl ?_
      refine m_get C.1 inX5_common 6 (by decide) (v := .ref (L 6)) rfl lk_X5_common_f19 rfl dX5_common_44 ?_
      refine g_iload_n C.1 2 dX5_common_47 rfl rfl ?_
      obtain ⟨hi3, h⟩ := h
      refine m_ald C.1 4 3 (N := 24) (f := (σ 6)) (e := v3) rfl rfl (by decide) hi3 dX5_common_48 ?_
      refine g_istore_n C.1 (loc' := [(3, .int (iZ ((σ 6) v3))), (0, .ref (L 0)), (2, .int (iZ v2))]) C.2.1 dX5_common_49 rfl (by decide) rfl ?_
      refine g_goto C.1 (tgt := 29) dX5_common_50 (by decide) ?_
      exact g_sub [1, 2, 0] rfl h
def H_X5_common (p : MS → Int → Int → Prop) (o : MS → Int → Int → Int → MS → Prop) : Prop := ∀ (l : Launch) (L : Nat → Nat) (c : Nat → ClassId) (σ : MS) (v1 v2 : Int), p σ v1 v2 → xMet l yX5_common wsX5_common rm_X5_common (MW L c [] []) rkI [.ref (L 0), .int (iZ v1), .int (iZ v2)] σ (fun r σ' => o σ v1 v2 r σ')
theorem m_X5_common {l : Launch} {L : Nat → Nat} {c : Nat → ClassId} {σ : MS} {v1 v2 : Int} {post : Int → MS → Prop} (h : ∀ K : KT, K.l = l → C_X5_common K L c post → P_X5_common_0 K L c σ v1 v2) : xMet l yX5_common wsX5_common rm_X5_common (MW L c [] []) rkI [.ref (L 0), .int (iZ v1), .int (iZ v2)] σ post :=
  xMet.of (maxL := 4) (by decide +kernel) rfl (Nat.le_of_ble_eq_true rfl) (fun K h1 h2 h3 h4 _ => h K h1 ⟨h2, h4, h3⟩)
