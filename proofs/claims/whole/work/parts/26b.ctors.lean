/-! CONSTRUCTORS, the lists' growing: over worlds as maps -/
theorem fU_fU (m : Nat → Option va_E) (a : Nat) (e e' : va_E) : fU (fU m a e) a e' = fU m a e' := funext fun b => by
  unfold fU
  by_cases h : b = a
  · rw [if_pos h, if_pos h]
  · rw [if_neg h, if_neg h, if_neg h]
theorem fU_c (m : Nat → Option va_E) {a b : Nat} (e e' : va_E) (h : a ≠ b) : fU (fU m a e) b e' = fU (fU m b e') a e := funext fun x => by
  unfold fU
  by_cases h1 : x = b
  · rw [if_pos h1]
    by_cases h2 : x = a
    · exact absurd (h2.symm.trans h1) h
    · rw [if_neg h2, if_pos h1]
  · rw [if_neg h1, if_neg h1]
theorem f_ne {m : Nat → Option va_E} {a q : Nat} {e : va_E} (h : m a = some e) (hq : m q = none) : a ≠ q := fun x => by
  rw [x, hq] at h
  cases h
theorem f_ne2 {m : Nat → Option va_E} {a b ci : Nat} {fs : List Value} {x : ClassId × vp_A} (h : m a = some (.inr (ci, fs))) (hb : m b = some (.inl x)) : a ≠ b := fun q => by
  rw [q, hb] at h
  cases h
theorem f_recv {mp : Nat → Option va_E} {ty : ClassId → FieldType → Prop} {b ci : Nat} {fs : List Value} (hm : mp b = some (.inr (ci, fs))) : ∀ ws tys, FW (mp, ty) ws tys → ∃ (q0 : Nat) (fs : List Value), ws[q0]? = some (b, .inr (ci, fs)) := by
  intro ws tys hW
  obtain ⟨q0, h⟩ := List.getElem?_of_mem (hW.1 _ _ hm)
  exact ⟨q0, fs, h⟩
abbrev rm_ACi : Room := { frames := 1, cells := 0, slots := 0, locals := 20 }
theorem lk_ACi_oi1 : Cond.methodLink RJxa1e45 1 objectInit ∈ wsJxa1e45_init_da8c8 := List.mem_of_getElem? (i := 1) (by decide +kernel)
theorem lk_ACi_oin : Cond.instanceMethod objectInit ∈ wsJxa1e45_init_da8c8 := List.mem_of_getElem? (i := 2) (by decide +kernel)
theorem lk_ACi_oic : Cond.code objectInit ⟨#[0xb1]⟩ 1 none ∈ wsJxa1e45_init_da8c8 := List.mem_of_getElem? (i := 3) (by decide +kernel)
set_option maxRecDepth 100000 in
set_option maxHeartbeats 4000000 in
theorem s_ACi {l : Launch} {emp : Nat} {mp : Nat → Option va_E} {ty : ClassId → FieldType → Prop} {a : Nat} : cMet l yJxa1e45_init_da8c8 wsJxa1e45_init_da8c8 rm_ACi emp FW rkV [.ref a] (mp, ty) (fun r u' => r = 0 ∧ u' = (mp, ty)) :=
  cMet.of (maxL := 1) (by decide +kernel) rfl (Nat.le_of_ble_eq_true rfl) (fun K h1 h2 h3 h4 h5 h6 h7 => by
    refine g_aload_n h2 0 dJxa1e45_init_da8c8_0 rfl rfl ?_
    refine f_obj h2 lk_ACi_oi1 lk_ACi_oin lk_ACi_oic (Nat.le_of_ble_eq_true rfl) (Nat.le_of_ble_eq_true rfl) dJxa1e45_init_da8c8_1 ?_
    exact x_vret h2 h4 rfl ⟨Nat.le_of_ble_eq_true rfl, Nat.le_of_ble_eq_true rfl⟩ dJxa1e45_init_da8c8_4 ⟨rfl, rfl⟩)

abbrev rm_AL0 : Room := { frames := 2, cells := 0, slots := 0, locals := 40 }
set_option maxRecDepth 20000 in
theorem in_AL0_AL : ∀ w ∈ wsJx4a65c0, w ∈ wsJxc12de_init_da8c8 := by decide +kernel
theorem lk_AL0_m1 : Cond.methodLink RJxc12de 1 yJxa1e45_init_da8c8 ∈ wsJxc12de_init_da8c8 := List.mem_of_getElem? (i := 2) (by decide +kernel)
theorem lk_AL0_im_Jxa1e45_init_da8c8 : Cond.instanceMethod yJxa1e45_init_da8c8 ∈ wsJxc12de_init_da8c8 := List.mem_of_getElem? (i := 3) (by decide +kernel)
theorem lk_AL0_ic_Jxa1e45_init_da8c8 : Cond.initialized RJxa1e45 ∈ wsJxc12de_init_da8c8 := List.mem_of_getElem? (i := 4) (by decide +kernel)
theorem lk_AL0_f7 : Cond.fieldLink RJxc12de 7 "java/util/AbstractList" "modCount" "I" ∈ wsJxc12de_init_da8c8 := List.mem_of_getElem? (i := 1) (by decide +kernel)
set_option maxRecDepth 100000 in
set_option maxHeartbeats 4000000 in
theorem s_AL0 {l : Launch} {emp : Nat} {mp : Nat → Option va_E} {ty : ClassId → FieldType → Prop} {a : Nat} {c0 c1 c2 : Value} (h : mp a = some (.inr (0, [c0, c1, c2]))) : cMet l yJxc12de_init_da8c8 wsJxc12de_init_da8c8 rm_AL0 emp FW rkV [.ref a] (mp, ty) (fun r u' => r = 0 ∧ u' = (fU mp a (.inr (0, [.int (iZ 0), c1, c2])), ty)) :=
  cMet.of (maxL := 1) (by decide +kernel) rfl (Nat.le_of_ble_eq_true rfl) (fun K h1 h2 h3 h4 h5 h6 h7 => by
    refine g_aload_n h2 0 dJxc12de_init_da8c8_0 rfl rfl ?_
    refine c_callI h2 h5 h6 (s_ACi (mp := mp) (ty := ty) (a := a)) (fun ht => cwI 0 ht gJxc12de_init_da8c8_Jxa1e45_init_da8c8 rfl rfl rfl (ht _ lk_AL0_ic_Jxa1e45_init_da8c8) (ht _ lk_AL0_m1) (ht _ lk_AL0_im_Jxa1e45_init_da8c8) rfl (by decide +kernel) ⟨Nat.le_of_ble_eq_true rfl, Nat.le_of_ble_eq_true rfl⟩) rfl rfl (Nat.le_of_ble_eq_true rfl) ⟨Nat.le_of_ble_eq_true rfl, Nat.le_of_ble_eq_true rfl⟩ dJxc12de_init_da8c8_1 (fun r u' hq => ?_)
    obtain ⟨rfl, rfl⟩ := hq
    show G K (FW (mp, ty)) (0, 0) [(0, .ref a)] 4 []
    refine g_aload_n h2 0 dJxc12de_init_da8c8_4 rfl rfl ?_
    refine g_iconst h2 (z := 0) dJxc12de_init_da8c8_5 ?_
    refine f_put h2 (mp' := fU mp a (.inr (0, [.int (iZ 0), c1, c2]))) (ci := 0) (q := (RJx4a65c, TJx4a65c, 3)) h rfl in_AL0_AL tyJx4a65c tyJx4a65c_ok nmJx4a65c 0 (by decide) (Nat.le_of_ble_eq_true rfl) (v := .int (iZ 0)) (vt := .int) lk_AL0_f7 (Or.inl rfl) (Or.inl rfl) rfl rfl rfl rfl dJxc12de_init_da8c8_6 ?_
    exact x_vret h2 h4 rfl ⟨Nat.le_of_ble_eq_true rfl, Nat.le_of_ble_eq_true rfl⟩ dJxc12de_init_da8c8_9 ⟨rfl, rfl⟩)

abbrev rm_ALi : Room := { frames := 3, cells := 0, slots := 0, locals := 60 }
set_option maxRecDepth 20000 in
theorem in_ALi_AL : ∀ w ∈ wsJx4a65c0, w ∈ wsJx4a65c_init_da8c8 := by decide +kernel
theorem lk_ALi_m1 : Cond.methodLink RJx4a65c 1 yJxc12de_init_da8c8 ∈ wsJx4a65c_init_da8c8 := List.mem_of_getElem? (i := 3) (by decide +kernel)
theorem lk_ALi_im_Jxc12de_init_da8c8 : Cond.instanceMethod yJxc12de_init_da8c8 ∈ wsJx4a65c_init_da8c8 := List.mem_of_getElem? (i := 4) (by decide +kernel)
theorem lk_ALi_ic_Jxc12de_init_da8c8 : Cond.initialized RJxc12de ∈ wsJx4a65c_init_da8c8 := List.mem_of_getElem? (i := 5) (by decide +kernel)
theorem lk_ALi_gs : Cond.fieldLink RJx4a65c 39 "java/util/ArrayList" "DEFAULTCAPACITY_EMPTY_ELEMENTDATA" "[Ljava/lang/Object;" ∈ wsJx4a65c_init_da8c8 := List.mem_of_getElem? (i := 1) (by decide +kernel)
theorem lk_ALi_f9 : Cond.fieldLink RJx4a65c 9 "java/util/ArrayList" "elementData" "[Ljava/lang/Object;" ∈ wsJx4a65c_init_da8c8 := List.mem_of_getElem? (i := 2) (by decide +kernel)
set_option maxRecDepth 100000 in
set_option maxHeartbeats 4000000 in
theorem s_ALi {l : Launch} {emp : Nat} {mp : Nat → Option va_E} {ty : ClassId → FieldType → Prop} {a : Nat} {c0 c1 c2 : Value} (h : mp a = some (.inr (0, [c0, c1, c2]))) : cMet l yJx4a65c_init_da8c8 wsJx4a65c_init_da8c8 rm_ALi emp FW rkV [.ref a] (mp, ty) (fun r u' => r = 0 ∧ u' = (fU mp a (.inr (0, [.int (iZ 0), .ref emp, c2])), ty)) :=
  cMet.of (maxL := 1) (by decide +kernel) rfl (Nat.le_of_ble_eq_true rfl) (fun K h1 h2 h3 h4 h5 h6 h7 => by
    refine g_aload_n h2 0 dJx4a65c_init_da8c8_0 rfl rfl ?_
    refine c_callI h2 h5 h6 (s_AL0 h) (fun ht => cwI 0 ht gJx4a65c_init_da8c8_Jxc12de_init_da8c8 rfl rfl rfl (ht _ lk_ALi_ic_Jxc12de_init_da8c8) (ht _ lk_ALi_m1) (ht _ lk_ALi_im_Jxc12de_init_da8c8) rfl (by decide +kernel) ⟨Nat.le_of_ble_eq_true rfl, Nat.le_of_ble_eq_true rfl⟩) rfl rfl (Nat.le_of_ble_eq_true rfl) ⟨Nat.le_of_ble_eq_true rfl, Nat.le_of_ble_eq_true rfl⟩ dJx4a65c_init_da8c8_1 (fun r u' hq => ?_)
    obtain ⟨rfl, rfl⟩ := hq
    show G K (FW (fU mp a (.inr (0, [.int (iZ 0), c1, c2])), ty)) (0, 0) [(0, .ref a)] 4 []
    refine g_aload_n h2 0 dJx4a65c_init_da8c8_4 rfl rfl ?_
    refine f_getsE h2 h5 lk_ALi_gs dJx4a65c_init_da8c8_5 ?_
    refine f_put h2 (mp' := fU mp a (.inr (0, [.int (iZ 0), .ref emp, c2]))) (ci := 0) (q := (RJx4a65c, TJx4a65c, 3)) (fU_s _ _ _) rfl in_ALi_AL tyJx4a65c tyJx4a65c_ok nmJx4a65c 1 (by decide) (Nat.le_of_ble_eq_true rfl) (v := .ref emp) (vt := (.array (.object "java/lang/Object"))) lk_ALi_f9 (Or.inl rfl) (Or.inl rfl) rfl rfl rfl (fU_fU _ _ _ _) dJx4a65c_init_da8c8_8 ?_
    exact x_vret h2 h4 rfl ⟨Nat.le_of_ble_eq_true rfl, Nat.le_of_ble_eq_true rfl⟩ dJx4a65c_init_da8c8_11 ⟨rfl, rfl⟩)

abbrev rm_X2i : Room := { frames := 4, cells := 1, slots := 3, locals := 80 }
set_option maxRecDepth 20000 in
theorem in_X2i_AL : ∀ w ∈ wsJx4a65c0, w ∈ wsX2_init := by decide +kernel
set_option maxRecDepth 20000 in
theorem in_X2i_X2 : ∀ w ∈ wsX20, w ∈ wsX2_init := by decide +kernel
theorem lk_X2i_oi1 : Cond.methodLink RX2 1 objectInit ∈ wsX2_init := List.mem_of_getElem? (i := 1) (by decide +kernel)
theorem lk_X2i_oin : Cond.instanceMethod objectInit ∈ wsX2_init := List.mem_of_getElem? (i := 2) (by decide +kernel)
theorem lk_X2i_oic : Cond.code objectInit ⟨#[0xb1]⟩ 1 none ∈ wsX2_init := List.mem_of_getElem? (i := 3) (by decide +kernel)
theorem lk_X2i_cl7 : Cond.classLink RX2 7 RJx4a65c ∈ wsX2_init := List.mem_of_getElem? (i := 4) (by decide +kernel)
theorem lk_X2i_in7 : Cond.instantiable RJx4a65c 3 ∈ wsX2_init := List.mem_of_getElem? (i := 5) (by decide +kernel)
theorem lk_X2i_ii7 : Cond.initialized RJx4a65c ∈ wsX2_init := List.mem_of_getElem? (i := 6) (by decide +kernel)
theorem lk_X2i_m9 : Cond.methodLink RX2 9 yJx4a65c_init_da8c8 ∈ wsX2_init := List.mem_of_getElem? (i := 8) (by decide +kernel)
theorem lk_X2i_im_Jx4a65c_init_da8c8 : Cond.instanceMethod yJx4a65c_init_da8c8 ∈ wsX2_init := List.mem_of_getElem? (i := 9) (by decide +kernel)
theorem lk_X2i_ic_Jx4a65c_init_da8c8 : Cond.initialized RJx4a65c ∈ wsX2_init := List.mem_of_getElem? (i := 6) (by decide +kernel)
theorem lk_X2i_f10 : Cond.fieldLink RX2 10 "CopyHouse$Scribe" "habits" "Ljava/util/ArrayList;" ∈ wsX2_init := List.mem_of_getElem? (i := 7) (by decide +kernel)
set_option maxRecDepth 100000 in
set_option maxHeartbeats 4000000 in
theorem s_X2i {l : Launch} {emp : Nat} {mp : Nat → Option va_E} {ty : ClassId → FieldType → Prop} {a : Nat} {c0 : Value} (h : mp a = some (.inr (3, [c0]))) : cMet l yX2_init wsX2_init rm_X2i emp FW rkV [.ref a] (mp, ty) (fun r u' => ∃ q, mp q = none ∧ r = 0 ∧ u' = (fU (fU mp q (.inr (0, [.int (iZ 0), .ref emp, .int (iZ 0)]))) a (.inr (3, [.ref q])), ty)) :=
  cMet.of (maxL := 1) (by decide +kernel) rfl (Nat.le_of_ble_eq_true rfl) (fun K h1 h2 h3 h4 h5 h6 h7 => by
    refine g_aload_n h2 0 dX2_init_0 rfl rfl ?_
    refine f_obj h2 lk_X2i_oi1 lk_X2i_oin lk_X2i_oic (Nat.le_of_ble_eq_true rfl) (Nat.le_of_ble_eq_true rfl) dX2_init_1 ?_
    refine g_aload_n h2 0 dX2_init_4 rfl rfl ?_
    refine f_new h2 (ci := 0) (fs := [.int (iZ 0), .null, .int (iZ 0)]) rfl in_X2i_AL tyJx4a65c tyJx4a65c_ok lk_X2i_cl7 lk_X2i_in7 lk_X2i_ii7 (fun j hj => by rcases j with _ | _ | _ | _ | _ | _ | _ | _ | _ | _ | _ | _ | _ | _ | _ | _ | _ | j <;> first | rfl | omega) ⟨Nat.le_of_ble_eq_true rfl, Nat.le_of_ble_eq_true rfl⟩ dX2_init_5 (fun q hq0 => ?_)
    refine g_dup h2 rfl dX2_init_8 ?_
    refine c_callI h2 h5 h6 (s_ALi (fU_s _ _ _)) (fun ht => cwI 0 ht gX2_init_Jx4a65c_init_da8c8 rfl rfl rfl (ht _ lk_X2i_ic_Jx4a65c_init_da8c8) (ht _ lk_X2i_m9) (ht _ lk_X2i_im_Jx4a65c_init_da8c8) rfl (by decide +kernel) ⟨Nat.le_of_ble_eq_true rfl, Nat.le_of_ble_eq_true rfl⟩) rfl rfl (Nat.le_of_ble_eq_true rfl) ⟨Nat.le_of_ble_eq_true rfl, Nat.le_of_ble_eq_true rfl⟩ dX2_init_9 (fun r u' hq => ?_)
    obtain ⟨rfl, rfl⟩ := hq
    rw [fU_fU]
    have ne := f_ne h hq0
    show G K (FW (fU mp q (.inr (0, [.int (iZ 0), .ref emp, .int (iZ 0)])), ty)) (1, 3) [(0, .ref a)] 12 [.ref q, .ref a]
    refine f_put h2 (mp' := fU (fU mp q (.inr (0, [.int (iZ 0), .ref emp, .int (iZ 0)]))) a (.inr (3, [.ref q]))) (ci := 3) (q := (RX2, TX2, 1)) ((fU_n _ _ ne).trans h) rfl in_X2i_X2 tyX2 tyX2_ok nmX2 0 (by decide) (Nat.le_of_ble_eq_true rfl) (v := .ref q) (vt := (.object "java/util/ArrayList")) lk_X2i_f10 (Or.inl rfl) (Or.inr ⟨rfl, h7 rfl, rfl⟩) rfl rfl rfl rfl dX2_init_12 ?_
    exact x_vret h2 h4 rfl ⟨Nat.le_of_ble_eq_true rfl, Nat.le_of_ble_eq_true rfl⟩ dX2_init_15 ⟨q, hq0, rfl, rfl⟩)

abbrev rm_X3i : Room := { frames := 1, cells := 1, slots := 120, locals := 20 }
set_option maxRecDepth 20000 in
theorem in_X3i_X3 : ∀ w ∈ wsX30, w ∈ wsX3_init := by decide +kernel
theorem lk_X3i_oi3 : Cond.methodLink RX3 3 objectInit ∈ wsX3_init := List.mem_of_getElem? (i := 1) (by decide +kernel)
theorem lk_X3i_oin : Cond.instanceMethod objectInit ∈ wsX3_init := List.mem_of_getElem? (i := 2) (by decide +kernel)
theorem lk_X3i_oic : Cond.code objectInit ⟨#[0xb1]⟩ 1 none ∈ wsX3_init := List.mem_of_getElem? (i := 3) (by decide +kernel)
theorem lk_X3i_ac_byte : Cond.arrayClass .byte ∈ wsX3_init := List.mem_of_getElem? (i := 4) (by decide +kernel)
theorem lk_X3i_f9 : Cond.fieldLink RX3 9 "CopyHouse$Text" "letters" "[B" ∈ wsX3_init := List.mem_of_getElem? (i := 5) (by decide +kernel)
theorem lk_X3i_f15 : Cond.fieldLink RX3 15 "CopyHouse$Text" "length" "I" ∈ wsX3_init := List.mem_of_getElem? (i := 6) (by decide +kernel)
set_option maxRecDepth 100000 in
set_option maxHeartbeats 4000000 in
theorem s_X3i {l : Launch} {emp : Nat} {mp : Nat → Option va_E} {ty : ClassId → FieldType → Prop} {a : Nat} {c0 c1 : Value} (h : mp a = some (.inr (4, [c0, c1]))) : cMet l yX3_init wsX3_init rm_X3i emp FW rkV [.ref a] (mp, ty) (fun r u' => ∃ q cq, mp q = none ∧ r = 0 ∧ u' = (fU (fU mp q (.inl (cq, 120, .inl (fA (fun _ => 0))))) a (.inr (4, [.ref q, .int (iZ 0)])), fY ty cq .byte)) :=
  cMet.of (maxL := 1) (by decide +kernel) rfl (Nat.le_of_ble_eq_true rfl) (fun K h1 h2 h3 h4 h5 h6 h7 => by
    refine g_aload_n h2 0 dX3_init_0 rfl rfl ?_
    refine f_obj h2 lk_X3i_oi3 lk_X3i_oin lk_X3i_oic (Nat.le_of_ble_eq_true rfl) (Nat.le_of_ble_eq_true rfl) dX3_init_1 ?_
    refine g_aload_n h2 0 dX3_init_4 rfl rfl ?_
    refine g_bipush h2 (z := 120) dX3_init_5 (by decide) ?_
    refine f_newa h2 (aty := .byte) (ety := .byte) (N := 120) (a0 := (120, .inl (fA (fun _ => 0)))) (fun cA => rfl) rfl lk_X3i_ac_byte (by decide) (by decide) ⟨Nat.le_of_ble_eq_true rfl, Nat.le_of_ble_eq_true rfl⟩ dX3_init_7 (fun q cq hq => ?_)
    have ne := f_ne h hq
    refine f_put h2 (mp' := fU (fU mp q (.inl (cq, 120, .inl (fA (fun _ => 0))))) a (.inr (4, [.ref q, c1]))) (ci := 4) (q := (RX3, TX3, 2)) ((fU_n _ _ ne).trans h) rfl in_X3i_X3 tyX3 tyX3_ok nmX3 0 (by decide) (Nat.le_of_ble_eq_true rfl) (v := .ref q) (vt := (.array .byte)) lk_X3i_f9 (Or.inl rfl) (Or.inr ⟨rfl, h7 rfl, rfl⟩) rfl rfl rfl rfl dX3_init_9 ?_
    refine g_aload_n h2 0 dX3_init_12 rfl rfl ?_
    refine g_iconst h2 (z := 0) dX3_init_13 ?_
    refine f_put h2 (mp' := fU (fU mp q (.inl (cq, 120, .inl (fA (fun _ => 0))))) a (.inr (4, [.ref q, .int (iZ 0)]))) (ci := 4) (q := (RX3, TX3, 2)) (fU_s _ _ _) rfl in_X3i_X3 tyX3 tyX3_ok nmX3 1 (by decide) (Nat.le_of_ble_eq_true rfl) (v := .int (iZ 0)) (vt := .int) lk_X3i_f15 (Or.inl rfl) (Or.inl rfl) rfl rfl rfl (fU_fU _ _ _ _) dX3_init_14 ?_
    exact x_vret h2 h4 rfl ⟨Nat.le_of_ble_eq_true rfl, Nat.le_of_ble_eq_true rfl⟩ dX3_init_17 ⟨q, cq, hq, rfl, rfl⟩)

abbrev rm_X0i : Room := { frames := 1, cells := 0, slots := 0, locals := 20 }
set_option maxRecDepth 20000 in
theorem in_X0i_X0 : ∀ w ∈ wsX00, w ∈ wsX0_init := by decide +kernel
theorem lk_X0i_oi3 : Cond.methodLink RX0 3 objectInit ∈ wsX0_init := List.mem_of_getElem? (i := 1) (by decide +kernel)
theorem lk_X0i_oin : Cond.instanceMethod objectInit ∈ wsX0_init := List.mem_of_getElem? (i := 2) (by decide +kernel)
theorem lk_X0i_oic : Cond.code objectInit ⟨#[0xb1]⟩ 1 none ∈ wsX0_init := List.mem_of_getElem? (i := 3) (by decide +kernel)
theorem lk_X0i_f9 : Cond.fieldLink RX0 9 "CopyHouse$Habit" "kind" "I" ∈ wsX0_init := List.mem_of_getElem? (i := 4) (by decide +kernel)
theorem lk_X0i_f15 : Cond.fieldLink RX0 15 "CopyHouse$Habit" "a" "I" ∈ wsX0_init := List.mem_of_getElem? (i := 5) (by decide +kernel)
theorem lk_X0i_f18 : Cond.fieldLink RX0 18 "CopyHouse$Habit" "b" "I" ∈ wsX0_init := List.mem_of_getElem? (i := 6) (by decide +kernel)
theorem lk_X0i_f21 : Cond.fieldLink RX0 21 "CopyHouse$Habit" "n" "I" ∈ wsX0_init := List.mem_of_getElem? (i := 7) (by decide +kernel)
set_option maxRecDepth 100000 in
set_option maxHeartbeats 4000000 in
theorem s_X0i {l : Launch} {emp : Nat} {mp : Nat → Option va_E} {ty : ClassId → FieldType → Prop} {a : Nat} {k x z n : Int} {c0 c1 c2 c3 : Value} (h : mp a = some (.inr (1, [c0, c1, c2, c3]))) : cMet l yX0_init wsX0_init rm_X0i emp FW rkV [.ref a, .int (iZ k), .int (iZ x), .int (iZ z), .int (iZ n)] (mp, ty) (fun r u' => r = 0 ∧ u' = (fU mp a (.inr (1, [.int (iZ k), .int (iZ x), .int (iZ z), .int (iZ n)])), ty)) :=
  cMet.of (maxL := 5) (by decide +kernel) rfl (Nat.le_of_ble_eq_true rfl) (fun K h1 h2 h3 h4 h5 h6 h7 => by
    refine g_aload_n h2 0 dX0_init_0 rfl rfl ?_
    refine f_obj h2 lk_X0i_oi3 lk_X0i_oin lk_X0i_oic (Nat.le_of_ble_eq_true rfl) (Nat.le_of_ble_eq_true rfl) dX0_init_1 ?_
    refine g_aload_n h2 0 dX0_init_4 rfl rfl ?_
    refine g_iload_n h2 1 dX0_init_5 rfl rfl ?_
    refine f_put h2 (mp' := fU mp a (.inr (1, [.int (iZ k), c1, c2, c3]))) (ci := 1) (q := (RX0, TX0, 4)) h rfl in_X0i_X0 tyX0 tyX0_ok nmX0 0 (by decide) (Nat.le_of_ble_eq_true rfl) (v := .int (iZ k)) (vt := .int) lk_X0i_f9 (Or.inl rfl) (Or.inr ⟨rfl, h7 rfl, rfl⟩) rfl rfl rfl rfl dX0_init_6 ?_
    refine g_aload_n h2 0 dX0_init_9 rfl rfl ?_
    refine g_iload_n h2 2 dX0_init_10 rfl rfl ?_
    refine f_put h2 (mp' := fU mp a (.inr (1, [.int (iZ k), .int (iZ x), c2, c3]))) (ci := 1) (q := (RX0, TX0, 4)) (fU_s _ _ _) rfl in_X0i_X0 tyX0 tyX0_ok nmX0 1 (by decide) (Nat.le_of_ble_eq_true rfl) (v := .int (iZ x)) (vt := .int) lk_X0i_f15 (Or.inl rfl) (Or.inr ⟨rfl, h7 rfl, rfl⟩) rfl rfl rfl (fU_fU _ _ _ _) dX0_init_11 ?_
    refine g_aload_n h2 0 dX0_init_14 rfl rfl ?_
    refine g_iload_n h2 3 dX0_init_15 rfl rfl ?_
    refine f_put h2 (mp' := fU mp a (.inr (1, [.int (iZ k), .int (iZ x), .int (iZ z), c3]))) (ci := 1) (q := (RX0, TX0, 4)) (fU_s _ _ _) rfl in_X0i_X0 tyX0 tyX0_ok nmX0 2 (by decide) (Nat.le_of_ble_eq_true rfl) (v := .int (iZ z)) (vt := .int) lk_X0i_f18 (Or.inl rfl) (Or.inr ⟨rfl, h7 rfl, rfl⟩) rfl rfl rfl (fU_fU _ _ _ _) dX0_init_16 ?_
    refine g_aload_n h2 0 dX0_init_19 rfl rfl ?_
    refine g_iload h2 4 dX0_init_20 rfl ?_
    refine f_put h2 (mp' := fU mp a (.inr (1, [.int (iZ k), .int (iZ x), .int (iZ z), .int (iZ n)]))) (ci := 1) (q := (RX0, TX0, 4)) (fU_s _ _ _) rfl in_X0i_X0 tyX0 tyX0_ok nmX0 3 (by decide) (Nat.le_of_ble_eq_true rfl) (v := .int (iZ n)) (vt := .int) lk_X0i_f21 (Or.inl rfl) (Or.inr ⟨rfl, h7 rfl, rfl⟩) rfl rfl rfl (fU_fU _ _ _ _) dX0_init_22 ?_
    exact x_vret h2 h4 rfl ⟨Nat.le_of_ble_eq_true rfl, Nat.le_of_ble_eq_true rfl⟩ dX0_init_25 ⟨rfl, rfl⟩)

abbrev rm_bec : Room := { frames := 1, cells := 0, slots := 0, locals := 60 }
set_option maxRecDepth 20000 in
theorem in_bec_X3 : ∀ w ∈ wsX30, w ∈ wsX3_become := by decide +kernel
theorem lk_bec_f9 : Cond.fieldLink RX3 9 "CopyHouse$Text" "letters" "[B" ∈ wsX3_become := List.mem_of_getElem? (i := 1) (by decide +kernel)
theorem lk_bec_f15 : Cond.fieldLink RX3 15 "CopyHouse$Text" "length" "I" ∈ wsX3_become := List.mem_of_getElem? (i := 2) (by decide +kernel)
theorem lk_bec_ac : Cond.methodLink RX3 19 arraycopyName ∈ wsX3_become := List.mem_of_getElem? (i := 3) (by decide +kernel)
theorem lk_bec_acn : Cond.native arraycopyName ∈ wsX3_become := List.mem_of_getElem? (i := 4) (by decide +kernel)
theorem lk_bec_acs : Cond.static arraycopyName ∈ wsX3_become := List.mem_of_getElem? (i := 5) (by decide +kernel)
theorem lk_bec_aci : Cond.initialized "java/lang/System" ∈ wsX3_become := List.mem_of_getElem? (i := 6) (by decide +kernel)
set_option maxRecDepth 100000 in
set_option maxHeartbeats 4000000 in
theorem s_bec {l : Launch} {emp : Nat} {mp : Nat → Option va_E} {ty : ClassId → FieldType → Prop} {a b la lb : Nat} {ca cb : ClassId} {x len : Int} {f g : Int → Int} (ha : mp a = some (.inr (4, [.ref la, .int (iZ x)]))) (hb : mp b = some (.inr (4, [.ref lb, .int (iZ len)]))) (hla : mp la = some (.inl (ca, 120, .inl (fA g)))) (hlb : mp lb = some (.inl (cb, 120, .inl (fA f)))) (hta : ty ca .byte) (htb : ty cb .byte) (hlen : 0 ≤ len ∧ len ≤ 120) (hfit : ∀ j, 0 ≤ j → j < len → -128 ≤ f j ∧ f j < 128) : cMet l yX3_become wsX3_become rm_bec emp FW rkV [.ref a, .ref b] (mp, ty) (fun r u' => r = 0 ∧ u' = (fU (fU mp la (.inl (ca, 120, .inl (fA (cpI f g 0 0 len))))) a (.inr (4, [.ref la, .int (iZ len)])), ty)) :=
  cMet.of (maxL := 2) (by decide +kernel) rfl (Nat.le_of_ble_eq_true rfl) (fun K h1 h2 h3 h4 h5 h6 h7 => by
    refine g_aload_n h2 1 dX3_become_0 rfl rfl ?_
    refine f_get h2 (ci := 4) (q := (RX3, TX3, 2)) hb rfl in_bec_X3 0 (by decide) (v := .ref lb) rfl lk_bec_f9 (Or.inl rfl) dX3_become_1 ?_
    refine g_iconst h2 (z := 0) dX3_become_4 ?_
    refine g_aload_n h2 0 dX3_become_5 rfl rfl ?_
    refine f_get h2 (ci := 4) (q := (RX3, TX3, 2)) ha rfl in_bec_X3 0 (by decide) (v := .ref la) rfl lk_bec_f9 (Or.inl rfl) dX3_become_6 ?_
    refine g_iconst h2 (z := 0) dX3_become_9 ?_
    refine g_aload_n h2 1 dX3_become_10 rfl rfl ?_
    refine f_get h2 (ci := 4) (q := (RX3, TX3, 2)) hb rfl in_bec_X3 1 (by decide) (v := .int (iZ len)) rfl lk_bec_f15 (Or.inl rfl) dX3_become_11 ?_
    refine f_copyb h2 (N0 := 120) (N1 := 120) (f := f) (g := g) (sp := 0) (dp := 0) (k := len) hlb hla htb hta ⟨by decide, by decide, hlen.1, by omega, by omega⟩ (by decide) (fun j h8 h9 => hfit j h8 (by omega)) lk_bec_ac lk_bec_acn lk_bec_acs lk_bec_aci (Nat.le_of_ble_eq_true rfl) (Nat.le_of_ble_eq_true (by decide +kernel)) dX3_become_14 ?_
    refine g_aload_n h2 0 dX3_become_17 rfl rfl ?_
    refine g_aload_n h2 1 dX3_become_18 rfl rfl ?_
    have ne1 := f_ne2 ha hla
    have ne2 := f_ne2 hb hla
    refine f_get h2 (ci := 4) (q := (RX3, TX3, 2)) ((fU_n _ _ ne2).trans hb) rfl in_bec_X3 1 (by decide) (v := .int (iZ len)) rfl lk_bec_f15 (Or.inl rfl) dX3_become_19 ?_
    refine f_put h2 (mp' := fU (fU mp la (.inl (ca, 120, .inl (fA (cpI f g 0 0 len))))) a (.inr (4, [.ref la, .int (iZ len)]))) (ci := 4) (q := (RX3, TX3, 2)) ((fU_n _ _ ne1).trans ha) rfl in_bec_X3 tyX3 tyX3_ok nmX3 1 (by decide) (Nat.le_of_ble_eq_true rfl) (v := .int (iZ len)) (vt := .int) lk_bec_f15 (Or.inl rfl) (Or.inl rfl) rfl rfl rfl rfl dX3_become_22 ?_
    exact x_vret h2 h4 rfl ⟨Nat.le_of_ble_eq_true rfl, Nat.le_of_ble_eq_true rfl⟩ dX3_become_25 ⟨rfl, rfl⟩)

abbrev rm_X1i : Room := { frames := 2, cells := 2, slots := 122, locals := 81 }
set_option maxRecDepth 20000 in
theorem in_X1i_X3 : ∀ w ∈ wsX30, w ∈ wsX1_init := by decide +kernel
set_option maxRecDepth 20000 in
theorem in_X1i_X1 : ∀ w ∈ wsX10, w ∈ wsX1_init := by decide +kernel
theorem lk_X1i_oi1 : Cond.methodLink RX1 1 objectInit ∈ wsX1_init := List.mem_of_getElem? (i := 1) (by decide +kernel)
theorem lk_X1i_oin : Cond.instanceMethod objectInit ∈ wsX1_init := List.mem_of_getElem? (i := 2) (by decide +kernel)
theorem lk_X1i_oic : Cond.code objectInit ⟨#[0xb1]⟩ 1 none ∈ wsX1_init := List.mem_of_getElem? (i := 3) (by decide +kernel)
theorem lk_X1i_cl7 : Cond.classLink RX1 7 RX3 ∈ wsX1_init := List.mem_of_getElem? (i := 4) (by decide +kernel)
theorem lk_X1i_in7 : Cond.instantiable RX3 2 ∈ wsX1_init := List.mem_of_getElem? (i := 5) (by decide +kernel)
theorem lk_X1i_ii7 : Cond.initialized RX3 ∈ wsX1_init := List.mem_of_getElem? (i := 6) (by decide +kernel)
theorem lk_X1i_im_X3_init : Cond.instanceMethod yX3_init ∈ wsX1_init := List.mem_of_getElem? (i := 13) (by decide +kernel)
theorem lk_X1i_ic_X3_init : Cond.initialized RX3 ∈ wsX1_init := List.mem_of_getElem? (i := 6) (by decide +kernel)
theorem lk_X1i_f10 : Cond.fieldLink RX1 10 "CopyHouse$Manuscript" "text" "LCopyHouse$Text;" ∈ wsX1_init := List.mem_of_getElem? (i := 7) (by decide +kernel)
theorem lk_X1i_f16 : Cond.fieldLink RX1 16 "CopyHouse$Manuscript" "there" "Z" ∈ wsX1_init := List.mem_of_getElem? (i := 8) (by decide +kernel)
theorem lk_X1i_f20 : Cond.fieldLink RX1 20 "CopyHouse$Manuscript" "number" "I" ∈ wsX1_init := List.mem_of_getElem? (i := 9) (by decide +kernel)
theorem lk_X1i_f24 : Cond.fieldLink RX1 24 "CopyHouse$Manuscript" "exemplar" "LCopyHouse$Manuscript;" ∈ wsX1_init := List.mem_of_getElem? (i := 10) (by decide +kernel)
theorem lk_X1i_f28 : Cond.fieldLink RX1 28 "CopyHouse$Manuscript" "scribe" "I" ∈ wsX1_init := List.mem_of_getElem? (i := 11) (by decide +kernel)
theorem lk_X1i_f31 : Cond.fieldLink RX1 31 "CopyHouse$Manuscript" "generation" "I" ∈ wsX1_init := List.mem_of_getElem? (i := 12) (by decide +kernel)
set_option maxRecDepth 100000 in
set_option maxHeartbeats 4000000 in
theorem s_X1i {l : Launch} {emp : Nat} {mp : Nat → Option va_E} {ty : ClassId → FieldType → Prop} {y : LT} {a d dl : Nat} {cd : ClassId} {nu ex sc gx len : Int} {f : Int → Int} {c0 c1 c2 c3 c4 c5 e0 e1 e2 e4 e5 : Value} (h : mp a = some (.inr (2, [c0, c1, c2, c3, c4, c5]))) (hd : mp d = some (.inr (4, [.ref dl, .int (iZ len)]))) (hdl : mp dl = some (.inl (cd, 120, .inl (fA f)))) (htd : ty cd .byte) (hda : d ≠ a) (hlen : 0 ≤ len ∧ len ≤ 120) (hfit : ∀ j, 0 ≤ j → j < len → -128 ≤ f j ∧ f j < 128) (hex : ¬ ex < 0 → mp (y.1 12 ex 0) = some (.inr (2, [e0, e1, e2, .int (iZ gx), e4, e5]))) (hexa : ¬ ex < 0 → y.1 12 ex 0 ≠ a) : cMet l yX1_init wsX1_init rm_X1i emp FW rkV [.ref a, .int (iZ nu), vM y ex, .int (iZ sc), .ref d] (mp, ty) (fun r u' => ∃ t tl ct, mp t = none ∧ mp tl = none ∧ t ≠ tl ∧ r = 0 ∧ u' = (fU (fU (fU mp tl (.inl (ct, 120, .inl (fA (cpI f (fun _ => 0) 0 0 len))))) t (.inr (4, [.ref tl, .int (iZ len)]))) a (.inr (2, [.int (iZ nu), vM y ex, .int (iZ sc), .int (iZ (if ex < 0 then 0 else gx + 1)), .ref t, .int (iZ 1)])), fY ty ct .byte)) :=
  cMet.of (maxL := 5) (by decide +kernel) rfl (by simp [lg_sl, List.flatMap, vM_cat, cat_i, cat_r, cat_l]) (fun K h1 h2 h3 h4 h5 h6 h7 => by
    suffices hk : G K (FW (mp, ty)) (0, 0) [(0, .ref a), (1, .int (iZ nu)), (2, vM y ex), (3, .int (iZ sc)), (4, .ref d)] 0 [] by
      simp only [lv_args, vM_cat, cat_i, cat_r, cat_l]
      exact hk
    refine g_aload_n h2 0 dX1_init_0 rfl rfl ?_
    refine f_obj h2 lk_X1i_oi1 lk_X1i_oin lk_X1i_oic (Nat.le_of_ble_eq_true rfl) (Nat.le_of_ble_eq_true rfl) dX1_init_1 ?_
    refine g_aload_n h2 0 dX1_init_4 rfl rfl ?_
    refine f_new h2 (ci := 4) (fs := [.null, .int (iZ 0)]) rfl in_X1i_X3 tyX3 tyX3_ok lk_X1i_cl7 lk_X1i_in7 lk_X1i_ii7 (fun j hj => by rcases j with _ | _ | _ | _ | _ | _ | _ | _ | _ | _ | _ | _ | _ | _ | _ | _ | _ | j <;> first | rfl | omega) ⟨Nat.le_of_ble_eq_true rfl, Nat.le_of_ble_eq_true rfl⟩ dX1_init_5 (fun t ht => ?_)
    have ne1 := f_ne h ht
    have ne2 := f_ne hd ht
    have ne3 := f_ne hdl ht
    refine g_dup h2 rfl dX1_init_8 ?_
    refine c_callIN h2 h5 h6 (s_X3i (fU_s _ _ _)) (fun ht => ⟨va_cnB 0 ht gX1_init_X3_init_n9 rfl rfl rfl (h5.2.2.2.2.2.2.2.2.2 (RX1, 9, yX3_init) (List.mem_of_getElem? (i := 1) rfl)) (ht _ lk_X1i_ic_X3_init) (by decide +kernel) ⟨Nat.le_of_ble_eq_true rfl, Nat.le_of_ble_eq_true rfl⟩, rfl, ht _ lk_X1i_im_X3_init⟩) rfl rfl (Nat.le_of_ble_eq_true rfl) ⟨Nat.le_of_ble_eq_true rfl, Nat.le_of_ble_eq_true rfl⟩ dX1_init_9 (fun r u' hq => ?_)
    obtain ⟨tl, ct, htl, rfl, rfl⟩ := hq
    have ne4 : t ≠ tl := fun x => by rw [← x, fU_s] at htl; cases htl
    have htl0 : mp tl = none := (fU_n mp _ (Ne.symm ne4)).symm.trans htl
    have ne5 := f_ne h htl0
    have ne6 := f_ne hd htl0
    have ne7 := f_ne hdl htl0
    rw [fU_c mp _ _ ne4, fU_fU]
    show G K (FW (fU (fU mp tl (.inl (ct, 120, .inl (fA (fun _ => 0))))) t (.inr (4, [.ref tl, .int (iZ 0)])), fY ty ct .byte)) (2, 122) [(0, .ref a), (1, .int (iZ nu)), (2, vM y ex), (3, .int (iZ sc)), (4, .ref d)] 12 [.ref t, .ref a]
    refine f_put h2 (mp' := fU (fU (fU mp tl (.inl (ct, 120, .inl (fA (fun _ => 0))))) t (.inr (4, [.ref tl, .int (iZ 0)]))) a (.inr (2, [c0, c1, c2, c3, .ref t, c5]))) (ci := 2) (q := (RX1, TX1, 6)) ((fU_n _ _ ne1).trans ((fU_n _ _ ne5).trans h)) rfl in_X1i_X1 tyX1 tyX1_ok nmX1 4 (by decide) (Nat.le_of_ble_eq_true rfl) (v := .ref t) (vt := (.object "CopyHouse$Text")) lk_X1i_f10 (Or.inl rfl) (Or.inr ⟨rfl, h7 rfl, rfl⟩) rfl rfl rfl rfl dX1_init_12 ?_
    refine g_aload_n h2 0 dX1_init_15 rfl rfl ?_
    refine g_iconst h2 (z := 1) dX1_init_16 ?_
    refine f_put h2 (mp' := fU (fU (fU mp tl (.inl (ct, 120, .inl (fA (fun _ => 0))))) t (.inr (4, [.ref tl, .int (iZ 0)]))) a (.inr (2, [c0, c1, c2, c3, .ref t, .int (iZ 1)]))) (ci := 2) (q := (RX1, TX1, 6)) (fU_s _ _ _) rfl in_X1i_X1 tyX1 tyX1_ok nmX1 5 (by decide) (Nat.le_of_ble_eq_true rfl) (v := .int (iZ 1)) (vt := .boolean) lk_X1i_f16 (Or.inl rfl) (Or.inl rfl) rfl (by decide) (by decide) (fU_fU _ _ _ _) dX1_init_17 ?_
    refine g_aload_n h2 0 dX1_init_20 rfl rfl ?_
    refine g_iload_n h2 1 dX1_init_21 rfl rfl ?_
    refine f_put h2 (mp' := fU (fU (fU mp tl (.inl (ct, 120, .inl (fA (fun _ => 0))))) t (.inr (4, [.ref tl, .int (iZ 0)]))) a (.inr (2, [.int (iZ nu), c1, c2, c3, .ref t, .int (iZ 1)]))) (ci := 2) (q := (RX1, TX1, 6)) (fU_s _ _ _) rfl in_X1i_X1 tyX1 tyX1_ok nmX1 0 (by decide) (Nat.le_of_ble_eq_true rfl) (v := .int (iZ nu)) (vt := .int) lk_X1i_f20 (Or.inl rfl) (Or.inr ⟨rfl, h7 rfl, rfl⟩) rfl rfl rfl (fU_fU _ _ _ _) dX1_init_22 ?_
    refine g_aload_n h2 0 dX1_init_25 rfl rfl ?_
    refine g_aloadM_n h2 2 dX1_init_26 rfl rfl ?_
    refine f_put h2 (mp' := fU (fU (fU mp tl (.inl (ct, 120, .inl (fA (fun _ => 0))))) t (.inr (4, [.ref tl, .int (iZ 0)]))) a (.inr (2, [.int (iZ nu), vM y ex, c2, c3, .ref t, .int (iZ 1)]))) (ci := 2) (q := (RX1, TX1, 6)) (fU_s _ _ _) rfl in_X1i_X1 tyX1 tyX1_ok nmX1 1 (by decide) (Nat.le_of_ble_eq_true rfl) (v := vM y ex) (vt := .object "CopyHouse$Manuscript") lk_X1i_f24 (Or.inl rfl) (Or.inr ⟨rfl, h7 rfl, rfl⟩) rfl (by rcases vM_or y ex with h8 | ⟨_, h8⟩ <;> rw [h8] <;> rfl) (by rcases vM_or y ex with h8 | ⟨_, h8⟩ <;> rw [h8] <;> rfl) (fU_fU _ _ _ _) dX1_init_27 ?_
    refine g_aload_n h2 0 dX1_init_30 rfl rfl ?_
    refine g_iload_n h2 3 dX1_init_31 rfl rfl ?_
    refine f_put h2 (mp' := fU (fU (fU mp tl (.inl (ct, 120, .inl (fA (fun _ => 0))))) t (.inr (4, [.ref tl, .int (iZ 0)]))) a (.inr (2, [.int (iZ nu), vM y ex, .int (iZ sc), c3, .ref t, .int (iZ 1)]))) (ci := 2) (q := (RX1, TX1, 6)) (fU_s _ _ _) rfl in_X1i_X1 tyX1 tyX1_ok nmX1 2 (by decide) (Nat.le_of_ble_eq_true rfl) (v := .int (iZ sc)) (vt := .int) lk_X1i_f28 (Or.inl rfl) (Or.inr ⟨rfl, h7 rfl, rfl⟩) rfl rfl rfl (fU_fU _ _ _ _) dX1_init_32 ?_
    refine g_aload_n h2 0 dX1_init_35 rfl rfl ?_
    refine g_aloadM_n h2 2 dX1_init_36 rfl rfl ?_
    have ne8 : d ≠ a := hda
    have ne9 := Ne.symm (f_ne2 h hdl)
    have key : G K (FW (fU (fU (fU mp tl (.inl (ct, 120, .inl (fA (fun _ => 0))))) t (.inr (4, [.ref tl, .int (iZ 0)]))) a (.inr (2, [.int (iZ nu), vM y ex, .int (iZ sc), c3, .ref t, .int (iZ 1)])), fY ty ct .byte)) (2, 122) [(0, .ref a), (1, .int (iZ nu)), (2, vM y ex), (3, .int (iZ sc)), (4, .ref d)] 50 [.int (iZ (if ex < 0 then 0 else gx + 1)), .ref a] := by
      obtain ⟨gz, hgz⟩ : ∃ gz, gz = if ex < 0 then 0 else gx + 1 := ⟨_, rfl⟩
      rw [← hgz]
      refine f_put h2 (mp' := fU (fU (fU mp tl (.inl (ct, 120, .inl (fA (fun _ => 0))))) t (.inr (4, [.ref tl, .int (iZ 0)]))) a (.inr (2, [.int (iZ nu), vM y ex, .int (iZ sc), .int (iZ gz), .ref t, .int (iZ 1)]))) (ci := 2) (q := (RX1, TX1, 6)) (fU_s _ _ _) rfl in_X1i_X1 tyX1 tyX1_ok nmX1 3 (by decide) (Nat.le_of_ble_eq_true rfl) (v := .int (iZ gz)) (vt := .int) lk_X1i_f31 (Or.inl rfl) (Or.inr ⟨rfl, h7 rfl, rfl⟩) rfl rfl rfl (fU_fU _ _ _ _) dX1_init_50 ?_
      refine g_aload_n h2 0 dX1_init_53 rfl rfl ?_
      refine f_get h2 (ci := 2) (q := (RX1, TX1, 6)) (fU_s _ _ _) rfl in_X1i_X1 4 (by decide) (v := .ref t) rfl lk_X1i_f10 (Or.inl rfl) dX1_init_54 ?_
      refine g_aload h2 4 dX1_init_57 rfl ?_
      refine c_callV h2 h5 h6 (s_bec (a := t) (b := d) (la := tl) (lb := dl) (x := 0) (len := len) (f := f) (g := fun _ => 0) ((fU_n _ _ (Ne.symm ne1)).trans (fU_s _ _ _)) ((fU_n _ _ ne8).trans ((fU_n _ _ ne2).trans ((fU_n _ _ ne6).trans hd))) ((fU_n _ _ (Ne.symm ne5)).trans ((fU_n _ _ (Ne.symm ne4)).trans (fU_s _ _ _))) ((fU_n _ _ ne9).trans ((fU_n _ _ ne3).trans ((fU_n _ _ ne7).trans hdl))) (fY_s _ _ _) (fY_o htd) hlen hfit) (ci := 4) (q := (RX3, TX3, 2)) rfl (f_recv ((fU_n _ _ (Ne.symm ne1)).trans (fU_s _ _ _))) (fun ht => cwV 1 ht gX1_init_X3_become rfl rfl rfl (by decide +kernel) ⟨Nat.le_of_ble_eq_true rfl, Nat.le_of_ble_eq_true rfl⟩) rfl rfl (Nat.le_of_ble_eq_true rfl) ⟨Nat.le_of_ble_eq_true rfl, Nat.le_of_ble_eq_true rfl⟩ dX1_init_59 (fun r u' hq => ?_)
      obtain ⟨rfl, rfl⟩ := hq
      show G K (FW (fU (fU (fU (fU (fU mp tl (.inl (ct, 120, .inl (fA (fun _ => 0))))) t (.inr (4, [.ref tl, .int (iZ 0)]))) a (.inr (2, [.int (iZ nu), vM y ex, .int (iZ sc), .int (iZ gz), .ref t, .int (iZ 1)]))) tl (.inl (ct, 120, .inl (fA (cpI f (fun _ => 0) 0 0 len))))) t (.inr (4, [.ref tl, .int (iZ len)])), fY ty ct .byte)) (2, 122) [(0, .ref a), (1, .int (iZ nu)), (2, vM y ex), (3, .int (iZ sc)), (4, .ref d)] 62 []
      exact x_vret h2 h4 rfl ⟨Nat.le_of_ble_eq_true rfl, Nat.le_of_ble_eq_true rfl⟩ dX1_init_62 ⟨t, tl, ct, ht, htl0, ne4, rfl, by rw [hgz, fU_c _ _ _ ne5, fU_c _ _ _ ne4, fU_fU, fU_c _ _ _ ne1, fU_fU]⟩
    refine g_ifnonnull h2 (tgt := 44) dX1_init_37 (by decide) (fun hc => ?_) (fun hc => ?_)
    · rw [show (if ex < 0 then 0 else gx + 1) = gx + 1 from if_neg hc] at key
      refine g_aloadM_n h2 2 dX1_init_44 rfl rfl ?_
      refine c_atM (show 0 ≤ ex by omega) ?_
      have ne10 : y.1 12 ex 0 ≠ t := f_ne (hex hc) ht
      have ne11 : y.1 12 ex 0 ≠ tl := f_ne (hex hc) htl0
      have ne12 : y.1 12 ex 0 ≠ a := hexa hc
      refine f_get h2 (ci := 2) (q := (RX1, TX1, 6)) ((fU_n _ _ ne12).trans ((fU_n _ _ ne10).trans ((fU_n _ _ ne11).trans (hex hc)))) rfl in_X1i_X1 3 (by decide) (v := .int (iZ gx)) rfl lk_X1i_f31 (Or.inl rfl) dX1_init_45 ?_
      refine g_iconst h2 (z := 1) dX1_init_48 ?_
      refine g_iadd h2 (x := gx) (y := 1) dX1_init_49 ?_
      exact key
    · rw [show (if ex < 0 then 0 else gx + 1) = 0 from if_pos hc] at key
      refine g_iconst h2 (z := 0) dX1_init_40 ?_
      refine g_goto h2 (tgt := 50) dX1_init_41 (by decide) ?_
      exact key)
