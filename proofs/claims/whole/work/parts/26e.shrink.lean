/-! THE LISTS SHRINK -/
def rmF (f : Nat → Option Nat) (h : Nat) : Nat → Option Nat := fun k => if k < h then f k else f (k + 1)
theorem rmF_cpy {f : Nat → Option Nat} {h s : Nat} (hs : h < s) (hf : ∀ k, s ≤ k → f k = none) : va_up (va_cpy f f (h + 1) h (s - 1 - h)) (s - 1) none = rmF f h := funext fun k => by
  show (if k = s - 1 then none else va_cpy f f (h + 1) h (s - 1 - h) k) = (if k < h then f k else f (k + 1))
  by_cases q : k = s - 1
  · rw [if_pos q, if_neg (by omega), hf (k + 1) (by omega)]
  · rw [if_neg q]
    by_cases q2 : k < h
    · rw [if_pos q2, pk_cpy_out (by omega)]
    · rw [if_neg q2]
      by_cases q3 : k < s - 1
      · rw [pk_cpy_in (by omega) (by omega), show h + 1 + (k - h) = k + 1 from by omega]
      · rw [pk_cpy_out (by omega), hf k (by omega), hf (k + 1) (by omega)]
theorem rmF_last {f : Nat → Option Nat} {h s : Nat} (hs : h + 1 = s) (hf : ∀ k, s ≤ k → f k = none) : va_up f (s - 1) none = rmF f h := funext fun k => by
  show (if k = s - 1 then none else f k) = (if k < h then f k else f (k + 1))
  by_cases q : k = s - 1
  · rw [if_pos q, if_neg (by omega), hf (k + 1) (by omega)]
  · rw [if_neg q]
    by_cases q2 : k < h
    · rw [if_pos q2]
    · rw [if_neg q2, hf k (by omega), hf (k + 1) (by omega)]
abbrev rm_ck3 : Room := { frames := 0, cells := 0, slots := 0, locals := 0 }
set_option maxRecDepth 100000 in
set_option maxHeartbeats 4000000 in
theorem s_ck3 {l : Launch} {emp : Nat} {mp : Nat → Option va_E} {ty : ClassId → FieldType → Prop} {e z : Int} (h : (0 ≤ e ∧ e < z) ∧ z < 2147483648) : cMet l yJ3_checkIndex_8e157 wsJ3_checkIndex_8e157 rm_ck3 emp FW rkI [.int (iZ e), .int (iZ z), .null] (mp, ty) (fun r u' => r = e ∧ u' = (mp, ty)) :=
  cMet.of (maxL := 3) (by decide +kernel) rfl (Nat.le_of_ble_eq_true rfl) (fun K h1 h2 h3 h4 h5 h6 h7 => by
    refine g_iload_n h2 0 dJ3_checkIndex_8e157_0 rfl rfl ?_
    refine g_if_lt h2 (tgt := 9) dJ3_checkIndex_8e157_1 (by decide) (by omega) (fun hc => absurd hc (by omega)) (fun hc => ?_)
    refine g_iload_n h2 0 dJ3_checkIndex_8e157_4 rfl rfl ?_
    refine g_iload_n h2 1 dJ3_checkIndex_8e157_5 rfl rfl ?_
    refine g_icmp_lt h2 (tgt := 16) dJ3_checkIndex_8e157_6 (by decide) (by omega) (by omega) (fun hc => ?_) (fun hc => absurd h.1.2 hc)
    refine g_iload_n h2 0 dJ3_checkIndex_8e157_16 rfl rfl ?_
    exact x_iret h2 h4 rfl ⟨Nat.le_of_ble_eq_true rfl, Nat.le_of_ble_eq_true rfl⟩ dJ3_checkIndex_8e157_17 ⟨rfl, rfl⟩)

abbrev rm_ck15 : Room := { frames := 1, cells := 0, slots := 0, locals := 22 }
set_option maxRecDepth 100000 in
set_option maxHeartbeats 4000000 in
theorem s_ck15 {l : Launch} {emp : Nat} {mp : Nat → Option va_E} {ty : ClassId → FieldType → Prop} {e z : Int} (h : (0 ≤ e ∧ e < z) ∧ z < 2147483648) : cMet l yJ15_checkIndex_7cf53 wsJ15_checkIndex_7cf53 rm_ck15 emp FW rkI [.int (iZ e), .int (iZ z)] (mp, ty) (fun r u' => r = e ∧ u' = (mp, ty)) :=
  cMet.of (maxL := 2) (by decide +kernel) rfl (Nat.le_of_ble_eq_true rfl) (fun K h1 h2 h3 h4 h5 h6 h7 => by
    refine g_iload_n h2 0 dJ15_checkIndex_7cf53_0 rfl rfl ?_
    refine g_iload_n h2 1 dJ15_checkIndex_7cf53_1 rfl rfl ?_
    refine g_nullV h2 dJ15_checkIndex_7cf53_2 ?_
    refine c_callS h2 h5 h6 (s_ck3 (mp := mp) (ty := ty) h) (fun ht => va_cwS 3 ht gJ15_checkIndex_7cf53_J3_checkIndex_8e157 rfl rfl rfl (by decide +kernel) ⟨Nat.le_of_ble_eq_true rfl, Nat.le_of_ble_eq_true rfl⟩) rfl rfl (Nat.le_of_ble_eq_true rfl) ⟨Nat.le_of_ble_eq_true rfl, Nat.le_of_ble_eq_true rfl⟩ dJ15_checkIndex_7cf53_3 (fun r u' hq => ?_)
    obtain ⟨rfl, rfl⟩ := hq
    show G K (FW (mp, ty)) (0, 0) [(0, .int (iZ r)), (1, .int (iZ z))] 6 [.int (iZ r)]
    exact x_iret h2 h4 rfl ⟨Nat.le_of_ble_eq_true rfl, Nat.le_of_ble_eq_true rfl⟩ dJ15_checkIndex_7cf53_6 ⟨rfl, rfl⟩)

abbrev rm_frm : Room := { frames := 1, cells := 0, slots := 0, locals := 60 }
set_option maxRecDepth 20000 in
theorem in_frm_AL : ∀ w ∈ wsJx4a65c0, w ∈ wsJx4a65c_fastRemove_b59b0 := by decide +kernel
theorem lk_frm_f63 : Cond.fieldLink RJx4a65c 63 "java/util/ArrayList" "modCount" "I" ∈ wsJx4a65c_fastRemove_b59b0 := List.mem_of_getElem? (i := 1) (by decide +kernel)
theorem lk_frm_sf : Cond.sameField "java/util/ArrayList" "java/util/AbstractList" "modCount" "I" ∈ wsJx4a65c_fastRemove_b59b0 := List.mem_of_getElem? (i := 2) (by decide +kernel)
theorem lk_frm_f48 : Cond.fieldLink RJx4a65c 48 "java/util/ArrayList" "size" "I" ∈ wsJx4a65c_fastRemove_b59b0 := List.mem_of_getElem? (i := 3) (by decide +kernel)
theorem lk_frm_ac : Cond.methodLink RJx4a65c 112 arraycopyName ∈ wsJx4a65c_fastRemove_b59b0 := List.mem_of_getElem? (i := 4) (by decide +kernel)
theorem lk_frm_acn : Cond.native arraycopyName ∈ wsJx4a65c_fastRemove_b59b0 := List.mem_of_getElem? (i := 5) (by decide +kernel)
theorem lk_frm_acs : Cond.static arraycopyName ∈ wsJx4a65c_fastRemove_b59b0 := List.mem_of_getElem? (i := 6) (by decide +kernel)
theorem lk_frm_aci : Cond.initialized "java/lang/System" ∈ wsJx4a65c_fastRemove_b59b0 := List.mem_of_getElem? (i := 7) (by decide +kernel)
set_option maxRecDepth 100000 in
set_option maxHeartbeats 4000000 in
theorem s_frm {l : Launch} {emp : Nat} {mp : Nat → Option va_E} {ty : ClassId → FieldType → Prop} {a row s h N : Nat} {mc : Int} {cR : ClassId} {f : Nat → Option Nat} {ci : Nat} {q : vw_C} (ha : mp a = some (.inr (0, [.int (iZ mc), .ref row, .int (iZ (s : Int))]))) (hrow : mp row = some (refsE cR N f)) (htR : ty cR tObj) (hh : h < s) (hs : s ≤ N ∧ N ≤ 1000000) (hcl : vwCl[ci]? = some q) (hc8 : (q.1, "java/lang/Object") ∈ cCasts) (hci : ci ≠ 0) (hel : ∀ i b, f i = some b → ∃ vs, mp b = some (.inr (ci, vs))) (hf : ∀ k, s ≤ k → f k = none) : cMet l yJx4a65c_fastRemove_b59b0 wsJx4a65c_fastRemove_b59b0 rm_frm emp FW rkV [.ref a, .ref row, .int (iZ (h : Int))] (mp, ty) (fun r u' => r = 0 ∧ u' = (fU (fU mp row (refsE cR N (rmF f h))) a (.inr (0, [.int (iZ (mc + 1)), .ref row, .int (iZ ((s - 1 : Nat) : Int))])), ty)) :=
  cMet.of (maxL := 4) (by decide +kernel) rfl (Nat.le_of_ble_eq_true rfl) (fun K h1 h2 h3 h4 h5 h6 h7 => by
    refine g_aload_n h2 0 dJx4a65c_fastRemove_b59b0_0 rfl rfl ?_
    refine g_dup h2 rfl dJx4a65c_fastRemove_b59b0_1 ?_
    refine f_get h2 (ci := 0) (q := (RJx4a65c, TJx4a65c, 3)) ha rfl in_frm_AL 0 (by decide) (v := .int (iZ mc)) rfl lk_frm_f63 (Or.inr lk_frm_sf) dJx4a65c_fastRemove_b59b0_2 ?_
    refine g_iconst h2 (z := 1) dJx4a65c_fastRemove_b59b0_5 ?_
    refine g_iadd h2 (x := mc) (y := 1) dJx4a65c_fastRemove_b59b0_6 ?_
    refine f_put h2 (mp' := fU mp a (.inr (0, [.int (iZ (mc + 1)), .ref row, .int (iZ (s : Int))]))) (ci := 0) (q := (RJx4a65c, TJx4a65c, 3)) ha rfl in_frm_AL tyJx4a65c tyJx4a65c_ok nmJx4a65c 0 (by decide) (Nat.le_of_ble_eq_true rfl) (v := .int (iZ (mc + 1))) (vt := .int) lk_frm_f63 (Or.inr lk_frm_sf) (Or.inl rfl) rfl rfl rfl rfl dJx4a65c_fastRemove_b59b0_7 ?_
    refine g_aload_n h2 0 dJx4a65c_fastRemove_b59b0_10 rfl rfl ?_
    refine f_get h2 (ci := 0) (q := (RJx4a65c, TJx4a65c, 3)) (fU_s _ _ _) rfl in_frm_AL 2 (by decide) (v := .int (iZ ((s : Int)))) rfl lk_frm_f48 (Or.inl rfl) dJx4a65c_fastRemove_b59b0_11 ?_
    refine g_iconst h2 (z := 1) dJx4a65c_fastRemove_b59b0_14 ?_
    refine g_isub h2 (x := (s : Int)) (y := 1) dJx4a65c_fastRemove_b59b0_15 ?_
    have ne := f_ne2 ha hrow
    rw [show (s : Int) - 1 = ((s - 1 : Nat) : Int) from by omega]
    refine g_dup h2 rfl dJx4a65c_fastRemove_b59b0_16 ?_
    refine g_istore_n h2 (loc' := [(3, .int (iZ (((s - 1 : Nat) : Int)))), (0, .ref a), (1, .ref row), (2, .int (iZ ((h : Int))))]) h3 dJx4a65c_fastRemove_b59b0_17 rfl (by decide) rfl ?_
    refine g_iload_n h2 3 dJx4a65c_fastRemove_b59b0_18 rfl rfl ?_
    refine g_icmp_le h2 (tgt := 34) dJx4a65c_fastRemove_b59b0_19 (by decide) (by omega) (by omega) (fun hc => ?_) (fun hc => ?_)
    · refine g_aload_n h2 2 dJx4a65c_fastRemove_b59b0_34 rfl rfl ?_
      refine g_aload_n h2 1 dJx4a65c_fastRemove_b59b0_35 rfl rfl ?_
      refine g_iload_n h2 0 dJx4a65c_fastRemove_b59b0_36 rfl rfl ?_
      refine g_dup_x1 h2 rfl rfl dJx4a65c_fastRemove_b59b0_37 ?_
      refine f_put h2 (mp' := fU mp a (.inr (0, [.int (iZ (mc + 1)), .ref row, .int (iZ ((s - 1 : Nat) : Int))]))) (ci := 0) (q := (RJx4a65c, TJx4a65c, 3)) (fU_s _ _ _) rfl in_frm_AL tyJx4a65c tyJx4a65c_ok nmJx4a65c 2 (by decide) (Nat.le_of_ble_eq_true rfl) (v := .int (iZ (((s - 1 : Nat) : Int)))) (vt := .int) lk_frm_f48 (Or.inl rfl) (Or.inl rfl) rfl rfl rfl (fU_fU _ _ _ _) dJx4a65c_fastRemove_b59b0_38 ?_
      refine g_nullV h2 dJx4a65c_fastRemove_b59b0_41 ?_
      refine f_aastN h2 (N := N) (f := f) ((fU_n _ _ (Ne.symm ne)).trans hrow) htR (by omega) ⟨by omega, by omega⟩ dJx4a65c_fastRemove_b59b0_42 ?_
      rw [show ((s - 1 : Nat) : Int).toNat = s - 1 from rfl, fU_c _ _ _ ne, rmF_last (h := h) (by omega) hf]
      show G K (FW (fU (fU mp row (refsE cR N (rmF f h))) a (.inr (0, [.int (iZ (mc + 1)), .ref row, .int (iZ ((s - 1 : Nat) : Int))])), ty)) (0, 0) [(3, .int (iZ (((s - 1 : Nat) : Int)))), (0, .ref a), (1, .ref row), (2, .int (iZ ((h : Int))))] 43 []
      exact x_vret h2 h4 rfl ⟨Nat.le_of_ble_eq_true rfl, Nat.le_of_ble_eq_true rfl⟩ dJx4a65c_fastRemove_b59b0_43 ⟨rfl, rfl⟩
    · refine g_aload_n h2 2 dJx4a65c_fastRemove_b59b0_22 rfl rfl ?_
      refine g_iload_n h2 3 dJx4a65c_fastRemove_b59b0_23 rfl rfl ?_
      refine g_iconst h2 (z := 1) dJx4a65c_fastRemove_b59b0_24 ?_
      refine g_iadd h2 (x := (h : Int)) (y := 1) dJx4a65c_fastRemove_b59b0_25 ?_
      refine g_aload_n h2 2 dJx4a65c_fastRemove_b59b0_26 rfl rfl ?_
      refine g_iload_n h2 3 dJx4a65c_fastRemove_b59b0_27 rfl rfl ?_
      refine g_iload_n h2 0 dJx4a65c_fastRemove_b59b0_28 rfl rfl ?_
      refine g_iload_n h2 3 dJx4a65c_fastRemove_b59b0_29 rfl rfl ?_
      refine g_isub h2 (x := ((s - 1 : Nat) : Int)) (y := (h : Int)) dJx4a65c_fastRemove_b59b0_30 ?_
      refine f_copyq h2 h5 ci (N0 := N) (N1 := N) (f := f) (g := f) (sp := (h : Int) + 1) (dp := (h : Int)) (k := ((s - 1 : Nat) : Int) - (h : Int)) ((fU_n _ _ (Ne.symm ne)).trans hrow) ((fU_n _ _ (Ne.symm ne)).trans hrow) htR htR hcl hc8 ⟨by omega, by omega, by omega, by omega, by omega⟩ ⟨by omega, by omega⟩ (fun i hi b hb => ?_) lk_frm_ac lk_frm_acn lk_frm_acs lk_frm_aci (Nat.le_of_ble_eq_true rfl) (Nat.le_of_ble_eq_true (by decide +kernel)) dJx4a65c_fastRemove_b59b0_31 ?_
      · obtain ⟨vs, h9⟩ := hel _ b hb
        refine ⟨vs, (fU_n _ _ (fun x => ?_)).trans h9⟩
        rw [x, ha] at h9
        injection h9 with h9
        injection h9 with h9
        exact hci (congrArg Prod.fst h9).symm
      rw [show ((h : Int) + 1).toNat = h + 1 from by omega, show (h : Int).toNat = h from rfl, show (((s - 1 : Nat) : Int) - (h : Int)).toNat = s - 1 - h from by omega]
      rw [fU_c _ _ _ ne]
      show G K (FW (fU (fU mp row (refsE cR N (va_cpy f f (h + 1) h (s - 1 - h)))) a (.inr (0, [.int (iZ (mc + 1)), .ref row, .int (iZ (s : Int))])), ty)) (0, 0) [(3, .int (iZ (((s - 1 : Nat) : Int)))), (0, .ref a), (1, .ref row), (2, .int (iZ ((h : Int))))] 34 []
      refine g_aload_n h2 2 dJx4a65c_fastRemove_b59b0_34 rfl rfl ?_
      refine g_aload_n h2 1 dJx4a65c_fastRemove_b59b0_35 rfl rfl ?_
      refine g_iload_n h2 0 dJx4a65c_fastRemove_b59b0_36 rfl rfl ?_
      refine g_dup_x1 h2 rfl rfl dJx4a65c_fastRemove_b59b0_37 ?_
      refine f_put h2 (mp' := fU (fU mp row (refsE cR N (va_cpy f f (h + 1) h (s - 1 - h)))) a (.inr (0, [.int (iZ (mc + 1)), .ref row, .int (iZ ((s - 1 : Nat) : Int))]))) (ci := 0) (q := (RJx4a65c, TJx4a65c, 3)) (fU_s _ _ _) rfl in_frm_AL tyJx4a65c tyJx4a65c_ok nmJx4a65c 2 (by decide) (Nat.le_of_ble_eq_true rfl) (v := .int (iZ (((s - 1 : Nat) : Int)))) (vt := .int) lk_frm_f48 (Or.inl rfl) (Or.inl rfl) rfl rfl rfl (fU_fU _ _ _ _) dJx4a65c_fastRemove_b59b0_38 ?_
      refine g_nullV h2 dJx4a65c_fastRemove_b59b0_41 ?_
      refine f_aastN h2 (N := N) (f := va_cpy f f (h + 1) h (s - 1 - h)) ((fU_n _ _ (Ne.symm ne)).trans (fU_s _ _ _)) htR (by omega) ⟨by omega, by omega⟩ dJx4a65c_fastRemove_b59b0_42 ?_
      rw [show ((s - 1 : Nat) : Int).toNat = s - 1 from rfl, fU_c _ _ _ ne, fU_fU, rmF_cpy hh hf]
      show G K (FW (fU (fU mp row (refsE cR N (rmF f h))) a (.inr (0, [.int (iZ (mc + 1)), .ref row, .int (iZ ((s - 1 : Nat) : Int))])), ty)) (0, 0) [(3, .int (iZ (((s - 1 : Nat) : Int)))), (0, .ref a), (1, .ref row), (2, .int (iZ ((h : Int))))] 43 []
      exact x_vret h2 h4 rfl ⟨Nat.le_of_ble_eq_true rfl, Nat.le_of_ble_eq_true rfl⟩ dJx4a65c_fastRemove_b59b0_43 ⟨rfl, rfl⟩)

abbrev rm_rmv : Room := { frames := 2, cells := 0, slots := 0, locals := 83 }
set_option maxRecDepth 20000 in
theorem in_rmv_AL : ∀ w ∈ wsJx4a65c0, w ∈ wsJx4a65c_remove_915e3 := by decide +kernel
theorem lk_rmv_f48 : Cond.fieldLink RJx4a65c 48 "java/util/ArrayList" "size" "I" ∈ wsJx4a65c_remove_915e3 := List.mem_of_getElem? (i := 1) (by decide +kernel)
theorem lk_rmv_f9 : Cond.fieldLink RJx4a65c 9 "java/util/ArrayList" "elementData" "[Ljava/lang/Object;" ∈ wsJx4a65c_remove_915e3 := List.mem_of_getElem? (i := 2) (by decide +kernel)
set_option maxRecDepth 100000 in
set_option maxHeartbeats 4000000 in
theorem s_rmv {l : Launch} {emp : Nat} {mp : Nat → Option va_E} {ty : ClassId → FieldType → Prop} {a row s h N : Nat} {mc : Int} {cR : ClassId} {f : Nat → Option Nat} {ci : Nat} {q : vw_C} (ha : mp a = some (.inr (0, [.int (iZ mc), .ref row, .int (iZ (s : Int))]))) (hrow : mp row = some (refsE cR N f)) (htR : ty cR tObj) (hh : h < s) (hs : s ≤ N ∧ N ≤ 1000000) (hcl : vwCl[ci]? = some q) (hc8 : (q.1, "java/lang/Object") ∈ cCasts) (hci : ci ≠ 0) (hel : ∀ i b, f i = some b → ∃ vs, mp b = some (.inr (ci, vs))) (hf : ∀ k, s ≤ k → f k = none) {b : Nat} (hb : f (h : Int).toNat = some b) : cMet l yJx4a65c_remove_915e3 wsJx4a65c_remove_915e3 rm_rmv emp FW rkR [.ref a, .int (iZ (h : Int))] (mp, ty) (fun r u' => r = (b : Int) ∧ u' = (fU (fU mp row (refsE cR N (rmF f h))) a (.inr (0, [.int (iZ (mc + 1)), .ref row, .int (iZ ((s - 1 : Nat) : Int))])), ty)) :=
  cMet.of (maxL := 4) (by decide +kernel) rfl (Nat.le_of_ble_eq_true rfl) (fun K h1 h2 h3 h4 h5 h6 h7 => by
    refine g_iload_n h2 1 dJx4a65c_remove_915e3_0 rfl rfl ?_
    refine g_aload_n h2 0 dJx4a65c_remove_915e3_1 rfl rfl ?_
    refine f_get h2 (ci := 0) (q := (RJx4a65c, TJx4a65c, 3)) ha rfl in_rmv_AL 2 (by decide) (v := .int (iZ ((s : Int)))) rfl lk_rmv_f48 (Or.inl rfl) dJx4a65c_remove_915e3_2 ?_
    refine c_callS h2 h5 h6 (s_ck15 (mp := mp) (ty := ty) (e := (h : Int)) (z := (s : Int)) ⟨⟨by omega, by omega⟩, by omega⟩) (fun ht => va_cwS 2 ht gJx4a65c_remove_915e3_J15_checkIndex_7cf53 rfl rfl rfl (by decide +kernel) ⟨Nat.le_of_ble_eq_true rfl, Nat.le_of_ble_eq_true rfl⟩) rfl rfl (Nat.le_of_ble_eq_true rfl) ⟨Nat.le_of_ble_eq_true rfl, Nat.le_of_ble_eq_true rfl⟩ dJx4a65c_remove_915e3_5 (fun r u' hq => ?_)
    obtain ⟨rfl, rfl⟩ := hq
    show G K (FW (mp, ty)) (0, 0) [(0, .ref a), (1, .int (iZ ((h : Int))))] 8 [.int (iZ ((h : Int)))]
    refine g_pop h2 rfl dJx4a65c_remove_915e3_8 ?_
    refine g_aload_n h2 0 dJx4a65c_remove_915e3_9 rfl rfl ?_
    refine f_get h2 (ci := 0) (q := (RJx4a65c, TJx4a65c, 3)) ha rfl in_rmv_AL 1 (by decide) (v := .ref row) rfl lk_rmv_f9 (Or.inl rfl) dJx4a65c_remove_915e3_10 ?_
    refine g_astore_n h2 (loc' := [(2, .ref row), (0, .ref a), (1, .int (iZ ((h : Int))))]) h3 dJx4a65c_remove_915e3_13 rfl (by decide) rfl ?_
    refine g_aload_n h2 0 dJx4a65c_remove_915e3_14 rfl rfl ?_
    refine g_iload_n h2 2 dJx4a65c_remove_915e3_15 rfl rfl ?_
    refine f_aald h2 (N := N) (f := f) hrow htR (by omega) ⟨by omega, by omega⟩ hb dJx4a65c_remove_915e3_16 ?_
    refine g_astore_n h2 (loc' := [(3, .ref b), (2, .ref row), (0, .ref a), (1, .int (iZ ((h : Int))))]) h3 dJx4a65c_remove_915e3_17 rfl (by decide) rfl ?_
    refine g_aload_n h2 2 dJx4a65c_remove_915e3_18 rfl rfl ?_
    refine g_aload_n h2 1 dJx4a65c_remove_915e3_19 rfl rfl ?_
    refine g_iload_n h2 3 dJx4a65c_remove_915e3_20 rfl rfl ?_
    refine c_callV h2 h5 h6 (s_frm ha hrow htR hh hs hcl hc8 hci hel hf) (ci := 0) (q := (RJx4a65c, TJx4a65c, 3)) rfl (f_recv ha) (fun ht => cwV 2 ht gJx4a65c_remove_915e3_Jx4a65c_fastRemove_b59b0 rfl rfl rfl (by decide +kernel) ⟨Nat.le_of_ble_eq_true rfl, Nat.le_of_ble_eq_true rfl⟩) rfl rfl (Nat.le_of_ble_eq_true rfl) ⟨Nat.le_of_ble_eq_true rfl, Nat.le_of_ble_eq_true rfl⟩ dJx4a65c_remove_915e3_21 (fun r u' hq => ?_)
    obtain ⟨rfl, rfl⟩ := hq
    show G K (FW (fU (fU mp row (refsE cR N (rmF f h))) a (.inr (0, [.int (iZ (mc + 1)), .ref row, .int (iZ ((s - 1 : Nat) : Int))])), ty)) (0, 0) [(3, .ref b), (2, .ref row), (0, .ref a), (1, .int (iZ ((h : Int))))] 24 []
    refine g_aload_n h2 0 dJx4a65c_remove_915e3_24 rfl rfl ?_
    exact x_aret h2 h4 rfl (Or.inl ⟨_, rfl⟩) (Or.inr ⟨_, rfl⟩) (r := (b : Int)) rfl ⟨Nat.le_of_ble_eq_true rfl, Nat.le_of_ble_eq_true rfl⟩ dJx4a65c_remove_915e3_25 ⟨rfl, rfl⟩)
