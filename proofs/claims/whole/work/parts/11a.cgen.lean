/-! THE HOUSE'S METHODS, block by block; ahead: what is asked of the lists -/
def rkM {S : Type} (y : LT) : S → Int → Option Value := fun _ r => some (vM y r)
def rkS {S : Type} (y : LT) : S → Int → Option Value := fun _ r => some (.ref (y.1 13 r 0))
def rkH {S : Type} (y : LT) (s : Int) : S → Int → Option Value := fun _ r => some (.ref (y.1 16 s r))
theorem cu_len (y : LT) (σ : CS) (k z : Int) : cCell y (upC σ 5 (up1 (σ 5) k z)) 8 k 0 = .inr (4, [.ref (y.1 9 k 0), .int (iZ z)]) := by
  show (Sum.inr (4, [.ref (y.1 9 k 0), .int (iZ (up1 (σ 5) k z k 0 0))]) : va_E) = _
  rw [show up1 (σ 5) k z k 0 0 = z from if_pos rfl]
theorem cu_there (y : LT) (σ : CS) (k z : Int) : cCell y (upC σ 12 (up1 (σ 12) k z)) 12 k 0 = .inr (2, [.int (iZ k), vM y (σ 9 k 0 0), .int (iZ (σ 10 k 0 0)), .int (iZ (σ 11 k 0 0)), .ref (y.1 8 (k + 3) 0), .int (iZ z)]) := by
  show (Sum.inr (2, [.int (iZ k), vM y (σ 9 k 0 0), .int (iZ (σ 10 k 0 0)), .int (iZ (σ 11 k 0 0)), .ref (y.1 8 (k + 3) 0), .int (iZ (up1 (σ 12) k z k 0 0))]) : va_E) = _
  rw [show up1 (σ 12) k z k 0 0 = z from if_pos rfl]
theorem cu_meas (y : LT) (σ : CS) (a e z : Int) : cCell y (upC σ 4 (up2 (σ 4) a e z)) 7 a 0 = .inl (y.2.1 7 a 0, 24, .inl (fA (upI (fun p => σ 4 a p 0) e z))) := by
  show (Sum.inl (y.2.1 7 a 0, 24, Sum.inl (fA (fun p => up2 (σ 4) a e z a p 0))) : va_E) = _
  rw [show (fun p => up2 (σ 4) a e z a p 0) = upI (fun p => σ 4 a p 0) e z from funext fun p => by unfold up2 upI; by_cases h : p = e <;> simp [h]]
theorem cu_let (y : LT) (σ : CS) (a e z : Int) : cCell y (upC σ 6 (up2 (σ 6) a e z)) 9 a 0 = .inl (y.2.1 9 a 0, 120, .inl (fA (upI (fun p => σ 6 a p 0) e z))) := by
  show (Sum.inl (y.2.1 9 a 0, 120, Sum.inl (fA (fun p => up2 (σ 6) a e z a p 0))) : va_E) = _
  rw [show (fun p => up2 (σ 6) a e z a p 0) = upI (fun p => σ 6 a p 0) e z from funext fun p => by unfold up2 upI; by_cases h : p = e <;> simp [h]]
abbrev rm_sizeM : Room := { frames := 0, cells := 0, slots := 0, locals := 0 }
def H_sizeM (p : CS → Prop) (f : CS → Int) : Prop := ∀ (l : Launch) (y : LT) (σ : CS), p σ → cMet l yJx4a65c_size_8abf5 wsJx4a65c_size_8abf5 rm_sizeM y.2.2 (CL y) rkI [.ref (y.1 2 0 0)] σ (fun r σ' => r = f σ ∧ σ' = σ)
abbrev rm_getM : Room := { frames := 2, cells := 0, slots := 0, locals := 46 }
def H_getM (p : CS → Int → Prop) : Prop := ∀ (l : Launch) (y : LT) (σ : CS) (v1 : Int), p σ v1 → cMet l yJx4a65c_get_915e3 wsJx4a65c_get_915e3 rm_getM y.2.2 (CL y) (rkM y) [.ref (y.1 2 0 0), .int (iZ v1)] σ (fun r σ' => r = v1 ∧ σ' = σ)
abbrev rm_sizeS : Room := { frames := 0, cells := 0, slots := 0, locals := 0 }
def H_sizeS (p : CS → Prop) (f : CS → Int) : Prop := ∀ (l : Launch) (y : LT) (σ : CS), p σ → cMet l yJx4a65c_size_8abf5 wsJx4a65c_size_8abf5 rm_sizeS y.2.2 (CL y) rkI [.ref (y.1 4 0 0)] σ (fun r σ' => r = f σ ∧ σ' = σ)
abbrev rm_getS : Room := { frames := 2, cells := 0, slots := 0, locals := 46 }
def H_getS (p : CS → Int → Prop) : Prop := ∀ (l : Launch) (y : LT) (σ : CS) (v1 : Int), p σ v1 → cMet l yJx4a65c_get_915e3 wsJx4a65c_get_915e3 rm_getS y.2.2 (CL y) (rkS y) [.ref (y.1 4 0 0), .int (iZ v1)] σ (fun r σ' => r = v1 ∧ σ' = σ)
abbrev rm_sizeH : Room := { frames := 0, cells := 0, slots := 0, locals := 0 }
def H_sizeH (p : CS → Int → Prop) (f : CS → Int → Int) : Prop := ∀ (l : Launch) (y : LT) (σ : CS) (v0 : Int), p σ v0 → cMet l yJx4a65c_size_8abf5 wsJx4a65c_size_8abf5 rm_sizeH y.2.2 (CL y) rkI [.ref (y.1 14 v0 0)] σ (fun r σ' => r = f σ v0 ∧ σ' = σ)
abbrev rm_getH : Room := { frames := 2, cells := 0, slots := 0, locals := 46 }
def H_getH (p : CS → Int → Int → Prop) (f : CS → Int → Int → Int) : Prop := ∀ (l : Launch) (y : LT) (σ : CS) (v0 v1 : Int), p σ v0 v1 → cMet l yJx4a65c_get_915e3 wsJx4a65c_get_915e3 rm_getH y.2.2 (CL y) (rkH y v0) [.ref (y.1 14 v0 0), .int (iZ v1)] σ (fun r σ' => r = f σ v0 v1 ∧ σ' = σ)
abbrev rm_fillT : Room := { frames := 0, cells := 0, slots := 0, locals := 0 }
def H_fillT (p : CS → Int → Prop) (o : CS → Int → Int → CS → Prop) : Prop := ∀ (l : Launch) (y : LT) (σ : CS) (v1 : Int), p σ v1 → cMet l yJ7_fill_53178 wsJ7_fill_53178 rm_fillT y.2.2 (CL y) rkV [.ref (y.1 11 0 0), .int (iZ v1)] σ (fun r σ' => o σ v1 r σ')
/-! X3_append -/
abbrev rm_X3_append : Room := { frames := 0, cells := 0, slots := 0, locals := 0 }
set_option maxRecDepth 20000 in
theorem inX3_append_X3 : ∀ w ∈ wsX30, w ∈ wsX3_append := by decide +kernel
theorem lk_X3_append_f15 : Cond.fieldLink RX3 15 "CopyHouse$Text" "length" "I" ∈ wsX3_append := List.mem_of_getElem? (i := 1) (by decide +kernel)
theorem lk_X3_append_f9 : Cond.fieldLink RX3 9 "CopyHouse$Text" "letters" "[B" ∈ wsX3_append := List.mem_of_getElem? (i := 2) (by decide +kernel)
def C_X3_append (K : KT) (y : LT) (post : Int → CS → Prop) : Prop := kOK K cX3_append RX3 wsX3_append none rm_X3_append ∧ K.nL = 2 ∧ kQ K (CL y) rkV post rm_X3_append ∧ SF y.2.2 K.A K.s K.s.heap ∧ K.l.stackTraces = false
def P_X3_append_0 (K : KT) (y : LT) (σ : CS) (v0 v1 : Int) : Prop := G K (CL y σ) (0, 0) [(0, .ref (y.1 8 v0 0)), (1, .int (iZ v1))] 0 []
set_option maxRecDepth 100000 in
set_option maxHeartbeats 4000000 in
theorem b_X3_append_0 {K : KT} {y : LT} {post : Int → CS → Prop} (C : C_X3_append K y post) {σ : CS} {v0 v1 : Int} (h : (0 ≤ v0 ∧ v0 < (σ 21 0 0 0) + 3) ∧ (-2147483648 ≤ (σ 5 v0 0 0) ∧ (σ 5 v0 0 0) < 2147483648) ∧ ((120 ≤ (σ 5 v0 0 0) → post 0 σ) ∧ (¬ 120 ≤ (σ 5 v0 0 0) → (-128 ≤ v1 ∧ v1 < 128) ∧ (0 ≤ (σ 5 v0 0 0) ∧ (σ 5 v0 0 0) < 120) ∧ post 0 (upC (upC σ 6 (up2 (σ 6) v0 (σ 5 v0 0 0) v1)) 5 (up1 (σ 5) v0 ((σ 5 v0 0 0) + 1)))))) : P_X3_append_0 K y σ v0 v1 := by
  refine g_aload_n C.1 0 dX3_append_0 rfl rfl ?_
  obtain ⟨hd1, h⟩ := h
  refine c_get C.1 (ci := 4) (q := (RX3, TX3, 2)) rfl rfl inX3_append_X3 1 (by decide) (v := .int (iZ (σ 5 v0 0 0))) rfl lk_X3_append_f15 rfl dX3_append_1 ⟨hd1.1, hd1.2, rfl⟩ ?_
  refine g_aload_n C.1 0 dX3_append_4 rfl rfl ?_
  refine c_get C.1 (ci := 4) (q := (RX3, TX3, 2)) rfl rfl inX3_append_X3 0 (by decide) (v := .ref (y.1 9 v0 0)) rfl lk_X3_append_f9 rfl dX3_append_5 ⟨hd1.1, hd1.2, rfl⟩ ?_
  refine c_len C.1 (N := 120) rfl rfl rfl dX3_append_8 ⟨hd1.1, hd1.2, rfl⟩ ?_
  obtain ⟨hc2, h⟩ := h
  refine g_icmp_ge C.1 (tgt := 33) dX3_append_9 (by decide) hc2 (by decide) (fun hc => ?_) (fun hc => ?_)
  · have h := h.1 hc
    exact x_vret C.1 C.2.2.1 rfl ⟨Nat.le_of_ble_eq_true rfl, Nat.le_of_ble_eq_true rfl⟩ dX3_append_33 h
  · have h := h.2 hc
    refine g_aload_n C.1 0 dX3_append_12 rfl rfl ?_
    refine c_get C.1 (ci := 4) (q := (RX3, TX3, 2)) rfl rfl inX3_append_X3 0 (by decide) (v := .ref (y.1 9 v0 0)) rfl lk_X3_append_f9 rfl dX3_append_13 ⟨hd1.1, hd1.2, rfl⟩ ?_
    refine g_aload_n C.1 0 dX3_append_16 rfl rfl ?_
    refine c_get C.1 (ci := 4) (q := (RX3, TX3, 2)) rfl rfl inX3_append_X3 1 (by decide) (v := .int (iZ (σ 5 v0 0 0))) rfl lk_X3_append_f15 rfl dX3_append_17 ⟨hd1.1, hd1.2, rfl⟩ ?_
    refine g_iload_n C.1 1 dX3_append_20 rfl rfl ?_
    obtain ⟨hz3, h⟩ := h
    refine g_i2b C.1 (z := v1) hz3 dX3_append_21 ?_
    obtain ⟨hi4, h⟩ := h
    refine c_bast C.1 (σ' := upC σ 6 (up2 (σ 6) v0 (σ 5 v0 0 0) v1)) (N := 120) (f := fun p => σ 6 v0 p 0) (e := σ 5 v0 0 0) (z := v1) rfl rfl (cu_let _ _ _ _ _) (CUpd_6 y _ _ _ (fun _ _ hx => if_neg (fun q => hx q.1))) rfl (by decide) dX3_append_22 hz3 ⟨hd1.1, hd1.2, rfl⟩ hi4 ?_
    refine g_aload_n C.1 0 dX3_append_23 rfl rfl ?_
    refine g_dup C.1 rfl dX3_append_24 ?_
    refine c_get C.1 (ci := 4) (q := (RX3, TX3, 2)) rfl rfl inX3_append_X3 1 (by decide) (v := .int (iZ (σ 5 v0 0 0))) rfl lk_X3_append_f15 rfl dX3_append_25 ⟨hd1.1, hd1.2, rfl⟩ ?_
    refine g_iconst C.1 (z := 1) dX3_append_28 ?_
    refine g_iadd C.1 (x := σ 5 v0 0 0) (y := 1) dX3_append_29 ?_
    refine c_put C.1 (σ' := upC (upC σ 6 (up2 (σ 6) v0 (σ 5 v0 0 0) v1)) 5 (up1 (σ 5) v0 ((σ 5 v0 0 0) + 1))) (ci := 4) (q := (RX3, TX3, 2)) rfl rfl inX3_append_X3 tyX3 tyX3_ok nmX3 1 (by decide) (Nat.le_of_ble_eq_true rfl) (v := .int (iZ ((σ 5 v0 0 0) + 1))) (ty := .int) (cu_len _ _ _ _) (CUpd_5 y _ _ _ (fun _ hx => if_neg hx)) lk_X3_append_f15 rfl rfl rfl rfl rfl dX3_append_30 ⟨hd1.1, hd1.2, rfl⟩ ?_
    exact x_vret C.1 C.2.2.1 rfl ⟨Nat.le_of_ble_eq_true rfl, Nat.le_of_ble_eq_true rfl⟩ dX3_append_33 h
theorem m_X3_append {l : Launch} {y : LT} {σ : CS} {v0 v1 : Int} {post : Int → CS → Prop} (h : ∀ K : KT, K.l = l → C_X3_append K y post → P_X3_append_0 K y σ v0 v1) : cMet l yX3_append wsX3_append rm_X3_append y.2.2 (CL y) rkV [.ref (y.1 8 v0 0), .int (iZ v1)] σ post :=
  cMet.of (maxL := 2) (by decide +kernel) rfl (Nat.le_of_ble_eq_true rfl) (fun K h1 h2 h3 h4 h5 h6 _ => h K h1 ⟨h2, h3, h4, h5, h6⟩)
def H_X3_append (p : CS → Int → Int → Prop) (o : CS → Int → Int → Int → CS → Prop) : Prop := ∀ (l : Launch) (y : LT) (σ : CS) (v0 v1 : Int), p σ v0 v1 → cMet l yX3_append wsX3_append rm_X3_append y.2.2 (CL y) rkV [.ref (y.1 8 v0 0), .int (iZ v1)] σ (fun r σ' => o σ v0 v1 r σ')

/-! X3_become -/
abbrev rm_X3_become : Room := { frames := 1, cells := 0, slots := 0, locals := 60 }
set_option maxRecDepth 20000 in
theorem inX3_become_X3 : ∀ w ∈ wsX30, w ∈ wsX3_become := by decide +kernel
theorem lk_X3_become_f9 : Cond.fieldLink RX3 9 "CopyHouse$Text" "letters" "[B" ∈ wsX3_become := List.mem_of_getElem? (i := 1) (by decide +kernel)
theorem lk_X3_become_f15 : Cond.fieldLink RX3 15 "CopyHouse$Text" "length" "I" ∈ wsX3_become := List.mem_of_getElem? (i := 2) (by decide +kernel)
theorem lk_X3_become_ac19 : Cond.methodLink RX3 19 arraycopyName ∈ wsX3_become := List.mem_of_getElem? (i := 3) (by decide +kernel)
theorem lk_X3_become_acn : Cond.native arraycopyName ∈ wsX3_become := List.mem_of_getElem? (i := 4) (by decide +kernel)
theorem lk_X3_become_acs : Cond.static arraycopyName ∈ wsX3_become := List.mem_of_getElem? (i := 5) (by decide +kernel)
theorem lk_X3_become_aci : Cond.initialized "java/lang/System" ∈ wsX3_become := List.mem_of_getElem? (i := 6) (by decide +kernel)
def C_X3_become (K : KT) (y : LT) (post : Int → CS → Prop) : Prop := kOK K cX3_become RX3 wsX3_become none rm_X3_become ∧ K.nL = 2 ∧ kQ K (CL y) rkV post rm_X3_become ∧ SF y.2.2 K.A K.s K.s.heap ∧ K.l.stackTraces = false
def P_X3_become_0 (K : KT) (y : LT) (σ : CS) (v0 v1 : Int) : Prop := G K (CL y σ) (0, 0) [(0, .ref (y.1 8 v0 0)), (1, .ref (y.1 8 v1 0))] 0 []
set_option maxRecDepth 100000 in
set_option maxHeartbeats 4000000 in
theorem b_X3_become_0 {K : KT} {y : LT} {post : Int → CS → Prop} (C : C_X3_become K y post) {σ : CS} {v0 v1 : Int} (h : (0 ≤ v1 ∧ v1 < (σ 21 0 0 0) + 3) ∧ (0 ≤ v0 ∧ v0 < (σ 21 0 0 0) + 3) ∧ ((0 : Int) ≤ 0 ∧ (0 : Int) ≤ 0 ∧ (0 : Int) ≤ (σ 5 v1 0 0) ∧ 0 + (σ 5 v1 0 0) ≤ (120 : Int) ∧ 0 + (σ 5 v1 0 0) ≤ (120 : Int)) ∧ (∀ k : Int, 0 ≤ k → k < 0 + (σ 5 v1 0 0) → -128 ≤ σ 6 v1 k 0 ∧ σ 6 v1 k 0 < 128) ∧ post 0 (upC (upC σ 6 (upR (σ 6) v0 (cpI (fun p => σ 6 v1 p 0) (fun p => σ 6 v0 p 0) 0 0 (σ 5 v1 0 0)))) 5 (up1 (σ 5) v0 (σ 5 v1 0 0)))) : P_X3_become_0 K y σ v0 v1 := by
  refine g_aload_n C.1 1 dX3_become_0 rfl rfl ?_
  obtain ⟨hd1, h⟩ := h
  refine c_get C.1 (ci := 4) (q := (RX3, TX3, 2)) rfl rfl inX3_become_X3 0 (by decide) (v := .ref (y.1 9 v1 0)) rfl lk_X3_become_f9 rfl dX3_become_1 ⟨hd1.1, hd1.2, rfl⟩ ?_
  refine g_iconst C.1 (z := 0) dX3_become_4 ?_
  refine g_aload_n C.1 0 dX3_become_5 rfl rfl ?_
  obtain ⟨hd2, h⟩ := h
  refine c_get C.1 (ci := 4) (q := (RX3, TX3, 2)) rfl rfl inX3_become_X3 0 (by decide) (v := .ref (y.1 9 v0 0)) rfl lk_X3_become_f9 rfl dX3_become_6 ⟨hd2.1, hd2.2, rfl⟩ ?_
  refine g_iconst C.1 (z := 0) dX3_become_9 ?_
  refine g_aload_n C.1 1 dX3_become_10 rfl rfl ?_
  refine c_get C.1 (ci := 4) (q := (RX3, TX3, 2)) rfl rfl inX3_become_X3 1 (by decide) (v := .int (iZ (σ 5 v1 0 0))) rfl lk_X3_become_f15 rfl dX3_become_11 ⟨hd1.1, hd1.2, rfl⟩ ?_
  obtain ⟨ha3, h⟩ := h
  obtain ⟨hb4, h⟩ := h
  refine c_copyb C.1 (a := v1) (b := v0) (sp := 0) (dp := 0) (m := σ 5 v1 0 0) ha3 ⟨hd1.1, hd1.2, rfl⟩ ⟨hd2.1, hd2.2, rfl⟩ hb4 lk_X3_become_ac19 lk_X3_become_acn lk_X3_become_acs lk_X3_become_aci (Nat.le_of_ble_eq_true rfl) (Nat.le_of_ble_eq_true (by decide +kernel)) dX3_become_14 ?_
  refine g_aload_n C.1 0 dX3_become_17 rfl rfl ?_
  refine g_aload_n C.1 1 dX3_become_18 rfl rfl ?_
  refine c_get C.1 (ci := 4) (q := (RX3, TX3, 2)) rfl rfl inX3_become_X3 1 (by decide) (v := .int (iZ (σ 5 v1 0 0))) rfl lk_X3_become_f15 rfl dX3_become_19 ⟨hd1.1, hd1.2, rfl⟩ ?_
  refine c_put C.1 (σ' := upC (upC σ 6 (upR (σ 6) v0 (cpI (fun p => σ 6 v1 p 0) (fun p => σ 6 v0 p 0) 0 0 (σ 5 v1 0 0)))) 5 (up1 (σ 5) v0 (σ 5 v1 0 0))) (ci := 4) (q := (RX3, TX3, 2)) rfl rfl inX3_become_X3 tyX3 tyX3_ok nmX3 1 (by decide) (Nat.le_of_ble_eq_true rfl) (v := .int (iZ (σ 5 v1 0 0))) (ty := .int) (cu_len _ _ _ _) (CUpd_5 y _ _ _ (fun _ hx => if_neg hx)) lk_X3_become_f15 rfl rfl rfl rfl rfl dX3_become_22 ⟨hd2.1, hd2.2, rfl⟩ ?_
  exact x_vret C.1 C.2.2.1 rfl ⟨Nat.le_of_ble_eq_true rfl, Nat.le_of_ble_eq_true rfl⟩ dX3_become_25 h
theorem m_X3_become {l : Launch} {y : LT} {σ : CS} {v0 v1 : Int} {post : Int → CS → Prop} (h : ∀ K : KT, K.l = l → C_X3_become K y post → P_X3_become_0 K y σ v0 v1) : cMet l yX3_become wsX3_become rm_X3_become y.2.2 (CL y) rkV [.ref (y.1 8 v0 0), .ref (y.1 8 v1 0)] σ post :=
  cMet.of (maxL := 2) (by decide +kernel) rfl (Nat.le_of_ble_eq_true rfl) (fun K h1 h2 h3 h4 h5 h6 _ => h K h1 ⟨h2, h3, h4, h5, h6⟩)
def H_X3_become (p : CS → Int → Int → Prop) (o : CS → Int → Int → Int → CS → Prop) : Prop := ∀ (l : Launch) (y : LT) (σ : CS) (v0 v1 : Int), p σ v0 v1 → cMet l yX3_become wsX3_become rm_X3_become y.2.2 (CL y) rkV [.ref (y.1 8 v0 0), .ref (y.1 8 v1 0)] σ (fun r σ' => o σ v0 v1 r σ')

/-! X3_has -/
abbrev rm_X3_has : Room := { frames := 0, cells := 0, slots := 0, locals := 0 }
set_option maxRecDepth 20000 in
theorem inX3_has_X3 : ∀ w ∈ wsX30, w ∈ wsX3_has := by decide +kernel
theorem lk_X3_has_f15 : Cond.fieldLink RX3 15 "CopyHouse$Text" "length" "I" ∈ wsX3_has := List.mem_of_getElem? (i := 1) (by decide +kernel)
theorem lk_X3_has_f9 : Cond.fieldLink RX3 9 "CopyHouse$Text" "letters" "[B" ∈ wsX3_has := List.mem_of_getElem? (i := 2) (by decide +kernel)
def C_X3_has (K : KT) (y : LT) (post : Int → CS → Prop) : Prop := kOK K cX3_has RX3 wsX3_has (some .boolean) rm_X3_has ∧ K.nL = 3 ∧ kQ K (CL y) rkI post rm_X3_has ∧ SF y.2.2 K.A K.s K.s.heap ∧ K.l.stackTraces = false
def P_X3_has_0 (K : KT) (y : LT) (σ : CS) (v0 v1 v2 : Int) : Prop := G K (CL y σ) (0, 0) [(0, .ref (y.1 8 v0 0)), (1, .int (iZ v1)), (2, .int (iZ v2))] 0 []
set_option maxRecDepth 100000 in
set_option maxHeartbeats 4000000 in
theorem b_X3_has_0 {K : KT} {y : LT} {post : Int → CS → Prop} (C : C_X3_has K y post) {σ : CS} {v0 v1 v2 : Int} (h : (-2147483648 ≤ v1 ∧ v1 < 2147483648) ∧ ((v1 < 0 → post 0 σ) ∧ (¬ v1 < 0 → (0 ≤ v0 ∧ v0 < (σ 21 0 0 0) + 3) ∧ (-2147483648 ≤ (σ 5 v0 0 0) ∧ (σ 5 v0 0 0) < 2147483648) ∧ (((σ 5 v0 0 0) ≤ v1 → post 0 σ) ∧ (¬ (σ 5 v0 0 0) ≤ v1 → (0 ≤ v1 ∧ v1 < 120) ∧ (-2147483648 ≤ (σ 6 v0 v1 0) ∧ (σ 6 v0 v1 0) < 2147483648) ∧ (-2147483648 ≤ v2 ∧ v2 < 2147483648) ∧ ((¬ (σ 6 v0 v1 0) = v2 → post 0 σ) ∧ ((σ 6 v0 v1 0) = v2 → post 1 σ))))))) : P_X3_has_0 K y σ v0 v1 v2 := by
  refine g_iload_n C.1 1 dX3_has_0 rfl rfl ?_
  obtain ⟨hc1, h⟩ := h
  refine g_if_lt C.1 (tgt := 26) dX3_has_1 (by decide) hc1 (fun hc => ?_) (fun hc => ?_)
  · have h := h.1 hc
    refine g_iconst C.1 (z := 0) dX3_has_26 ?_
    exact x_zret C.1 C.2.2.1 rfl ⟨Nat.le_of_ble_eq_true rfl, Nat.le_of_ble_eq_true rfl⟩ dX3_has_27 (Or.inl rfl) h
  · have h := h.2 hc
    refine g_iload_n C.1 1 dX3_has_4 rfl rfl ?_
    refine g_aload_n C.1 0 dX3_has_5 rfl rfl ?_
    obtain ⟨hd2, h⟩ := h
    refine c_get C.1 (ci := 4) (q := (RX3, TX3, 2)) rfl rfl inX3_has_X3 1 (by decide) (v := .int (iZ (σ 5 v0 0 0))) rfl lk_X3_has_f15 rfl dX3_has_6 ⟨hd2.1, hd2.2, rfl⟩ ?_
    obtain ⟨hc3, h⟩ := h
    refine g_icmp_ge C.1 (tgt := 26) dX3_has_9 (by decide) hc1 hc3 (fun hc => ?_) (fun hc => ?_)
    · have h := h.1 hc
      refine g_iconst C.1 (z := 0) dX3_has_26 ?_
      exact x_zret C.1 C.2.2.1 rfl ⟨Nat.le_of_ble_eq_true rfl, Nat.le_of_ble_eq_true rfl⟩ dX3_has_27 (Or.inl rfl) h
    · have h := h.2 hc
      refine g_aload_n C.1 0 dX3_has_12 rfl rfl ?_
      refine c_get C.1 (ci := 4) (q := (RX3, TX3, 2)) rfl rfl inX3_has_X3 0 (by decide) (v := .ref (y.1 9 v0 0)) rfl lk_X3_has_f9 rfl dX3_has_13 ⟨hd2.1, hd2.2, rfl⟩ ?_
      refine g_iload_n C.1 1 dX3_has_16 rfl rfl ?_
      obtain ⟨hi4, h⟩ := h
      refine c_bald C.1 (N := 120) (f := fun p => σ 6 v0 p 0) (e := v1) rfl rfl rfl (by decide) dX3_has_17 ⟨hd2.1, hd2.2, rfl⟩ hi4 ?_
      show G K (CL y σ) (0, 0) [(0, .ref (y.1 8 v0 0)), (1, .int (iZ v1)), (2, .int (iZ v2))] 18 [.int (iZ (σ 6 v0 v1 0))]
      refine g_iload_n C.1 2 dX3_has_18 rfl rfl ?_
      obtain ⟨hc5, h⟩ := h
      obtain ⟨hc6, h⟩ := h
      refine g_icmp_ne C.1 (tgt := 26) dX3_has_19 (by decide) hc5 hc6 (fun hc => ?_) (fun hc => ?_)
      · have h := h.1 hc
        refine g_iconst C.1 (z := 0) dX3_has_26 ?_
        exact x_zret C.1 C.2.2.1 rfl ⟨Nat.le_of_ble_eq_true rfl, Nat.le_of_ble_eq_true rfl⟩ dX3_has_27 (Or.inl rfl) h
      · have h := h.2 hc
        refine g_iconst C.1 (z := 1) dX3_has_22 ?_
        refine g_goto C.1 (tgt := 27) dX3_has_23 (by decide) ?_
        exact x_zret C.1 C.2.2.1 rfl ⟨Nat.le_of_ble_eq_true rfl, Nat.le_of_ble_eq_true rfl⟩ dX3_has_27 (Or.inr rfl) h
theorem m_X3_has {l : Launch} {y : LT} {σ : CS} {v0 v1 v2 : Int} {post : Int → CS → Prop} (h : ∀ K : KT, K.l = l → C_X3_has K y post → P_X3_has_0 K y σ v0 v1 v2) : cMet l yX3_has wsX3_has rm_X3_has y.2.2 (CL y) rkI [.ref (y.1 8 v0 0), .int (iZ v1), .int (iZ v2)] σ post :=
  cMet.of (maxL := 3) (by decide +kernel) rfl (Nat.le_of_ble_eq_true rfl) (fun K h1 h2 h3 h4 h5 h6 _ => h K h1 ⟨h2, h3, h4, h5, h6⟩)
def H_X3_has (p : CS → Int → Int → Int → Prop) (f : CS → Int → Int → Int → Bool) : Prop := ∀ (l : Launch) (y : LT) (σ : CS) (v0 v1 v2 : Int), p σ v0 v1 v2 → cMet l yX3_has wsX3_has rm_X3_has y.2.2 (CL y) rkI [.ref (y.1 8 v0 0), .int (iZ v1), .int (iZ v2)] σ (fun r σ' => r = (if f σ v0 v1 v2 = true then 1 else 0) ∧ σ' = σ)

/-! X3_takeFrom -/
abbrev rm_X3_takeFrom : Room := { frames := 0, cells := 0, slots := 0, locals := 0 }
set_option maxRecDepth 20000 in
theorem inX3_takeFrom_X3 : ∀ w ∈ wsX30, w ∈ wsX3_takeFrom := by decide +kernel
theorem lk_X3_takeFrom_f15 : Cond.fieldLink RX3 15 "CopyHouse$Text" "length" "I" ∈ wsX3_takeFrom := List.mem_of_getElem? (i := 1) (by decide +kernel)
theorem lk_X3_takeFrom_f9 : Cond.fieldLink RX3 9 "CopyHouse$Text" "letters" "[B" ∈ wsX3_takeFrom := List.mem_of_getElem? (i := 2) (by decide +kernel)
def C_X3_takeFrom (K : KT) (y : LT) (post : Int → CS → Prop) : Prop := kOK K cX3_takeFrom RX3 wsX3_takeFrom (some .int) rm_X3_takeFrom ∧ K.nL = 6 ∧ kQ K (CL y) rkI post rm_X3_takeFrom ∧ SF y.2.2 K.A K.s K.s.heap ∧ K.l.stackTraces = false
def P_X3_takeFrom_0 (K : KT) (y : LT) (σ : CS) (v0 v1 v2 v3 : Int) : Prop := G K (CL y σ) (0, 0) [(0, .ref (y.1 8 v0 0)), (1, .ref (y.1 8 v1 0)), (2, .int (iZ v2)), (3, .int (iZ v3))] 0 []
def P_X3_takeFrom_1 (K : KT) (y : LT) (σ : CS) (v0 v1 v2 v3 v4 v5 : Int) : Prop := G K (CL y σ) (0, 0) [(0, .ref (y.1 8 v0 0)), (1, .ref (y.1 8 v1 0)), (2, .int (iZ v2)), (3, .int (iZ v3)), (4, .int (iZ v4)), (5, .int (iZ v5))] 6 []
set_option maxRecDepth 100000 in
set_option maxHeartbeats 4000000 in
theorem b_X3_takeFrom_0 {K : KT} {y : LT} {post : Int → CS → Prop} (C : C_X3_takeFrom K y post) {σ : CS} {v0 v1 v2 v3 : Int} (h : P_X3_takeFrom_1 K y σ v0 v1 v2 v3 0 v2) : P_X3_takeFrom_0 K y σ v0 v1 v2 v3 := by
  refine g_iconst C.1 (z := 0) dX3_takeFrom_0 ?_
  refine g_istore C.1 (i := 4) (loc' := [(4, .int (iZ 0)), (0, .ref (y.1 8 v0 0)), (1, .ref (y.1 8 v1 0)), (2, .int (iZ v2)), (3, .int (iZ v3))]) C.2.1 dX3_takeFrom_1 (by decide) rfl ?_
  refine g_iload_n C.1 3 dX3_takeFrom_3 rfl rfl ?_
  refine g_istore C.1 (i := 5) (loc' := [(5, .int (iZ v2)), (4, .int (iZ 0)), (0, .ref (y.1 8 v0 0)), (1, .ref (y.1 8 v1 0)), (2, .int (iZ v2)), (3, .int (iZ v3))]) C.2.1 dX3_takeFrom_4 (by decide) rfl ?_
  exact g_sub [2, 3, 4, 5, 1, 0] rfl h
set_option maxRecDepth 100000 in
set_option maxHeartbeats 4000000 in
theorem b_X3_takeFrom_1 {K : KT} {y : LT} {post : Int → CS → Prop} (C : C_X3_takeFrom K y post) {σ : CS} {v0 v1 v2 v3 v4 v5 : Int} (h : (-2147483648 ≤ (v5 - v2) ∧ (v5 - v2) < 2147483648) ∧ (-2147483648 ≤ v3 ∧ v3 < 2147483648) ∧ ((v3 ≤ (v5 - v2) → post v4 σ) ∧ (¬ v3 ≤ (v5 - v2) → (0 ≤ v0 ∧ v0 < (σ 21 0 0 0) + 3) ∧ (-2147483648 ≤ v5 ∧ v5 < 2147483648) ∧ (-2147483648 ≤ (σ 5 v0 0 0) ∧ (σ 5 v0 0 0) < 2147483648) ∧ (((σ 5 v0 0 0) ≤ v5 → post v4 σ) ∧ (¬ (σ 5 v0 0 0) ≤ v5 → (0 ≤ v1 ∧ v1 < (σ 21 0 0 0) + 3) ∧ (-2147483648 ≤ (σ 5 v1 0 0) ∧ (σ 5 v1 0 0) < 2147483648) ∧ (((σ 5 v1 0 0) ≤ v5 → post v4 σ) ∧ (¬ (σ 5 v1 0 0) ≤ v5 → (0 ≤ v5 ∧ v5 < 120) ∧ (-2147483648 ≤ (σ 6 v0 v5 0) ∧ (σ 6 v0 v5 0) < 2147483648) ∧ (-2147483648 ≤ (σ 6 v1 v5 0) ∧ (σ 6 v1 v5 0) < 2147483648) ∧ (((σ 6 v0 v5 0) = (σ 6 v1 v5 0) → P_X3_takeFrom_1 K y σ v0 v1 v2 v3 v4 (v5 + 1)) ∧ (¬ (σ 6 v0 v5 0) = (σ 6 v1 v5 0) → (-128 ≤ (σ 6 v1 v5 0) ∧ (σ 6 v1 v5 0) < 128) ∧ P_X3_takeFrom_1 K y (upC σ 6 (up2 (σ 6) v0 v5 (σ 6 v1 v5 0))) v0 v1 v2 v3 (v4 + 1) (v5 + 1)))))))))) : P_X3_takeFrom_1 K y σ v0 v1 v2 v3 v4 v5 := by
  refine g_iload C.1 5 dX3_takeFrom_6 rfl ?_
  refine g_iload_n C.1 2 dX3_takeFrom_8 rfl rfl ?_
  refine g_isub C.1 (x := v5) (y := v2) dX3_takeFrom_9 ?_
  refine g_iload_n C.1 3 dX3_takeFrom_10 rfl rfl ?_
  obtain ⟨hc1, h⟩ := h
  obtain ⟨hc2, h⟩ := h
  refine g_icmp_ge C.1 (tgt := 72) dX3_takeFrom_11 (by decide) hc1 hc2 (fun hc => ?_) (fun hc => ?_)
  · have h := h.1 hc
    refine g_iload C.1 4 dX3_takeFrom_72 rfl ?_
    exact x_iret C.1 C.2.2.1 rfl ⟨Nat.le_of_ble_eq_true rfl, Nat.le_of_ble_eq_true rfl⟩ dX3_takeFrom_74 h
  · have h := h.2 hc
    refine g_iload C.1 5 dX3_takeFrom_14 rfl ?_
    refine g_aload_n C.1 0 dX3_takeFrom_16 rfl rfl ?_
    obtain ⟨hd3, h⟩ := h
    refine c_get C.1 (ci := 4) (q := (RX3, TX3, 2)) rfl rfl inX3_takeFrom_X3 1 (by decide) (v := .int (iZ (σ 5 v0 0 0))) rfl lk_X3_takeFrom_f15 rfl dX3_takeFrom_17 ⟨hd3.1, hd3.2, rfl⟩ ?_
    obtain ⟨hc4, h⟩ := h
    obtain ⟨hc5, h⟩ := h
    refine g_icmp_ge C.1 (tgt := 72) dX3_takeFrom_20 (by decide) hc4 hc5 (fun hc => ?_) (fun hc => ?_)
    · have h := h.1 hc
      refine g_iload C.1 4 dX3_takeFrom_72 rfl ?_
      exact x_iret C.1 C.2.2.1 rfl ⟨Nat.le_of_ble_eq_true rfl, Nat.le_of_ble_eq_true rfl⟩ dX3_takeFrom_74 h
    · have h := h.2 hc
      refine g_iload C.1 5 dX3_takeFrom_23 rfl ?_
      refine g_aload_n C.1 1 dX3_takeFrom_25 rfl rfl ?_
      obtain ⟨hd6, h⟩ := h
      refine c_get C.1 (ci := 4) (q := (RX3, TX3, 2)) rfl rfl inX3_takeFrom_X3 1 (by decide) (v := .int (iZ (σ 5 v1 0 0))) rfl lk_X3_takeFrom_f15 rfl dX3_takeFrom_26 ⟨hd6.1, hd6.2, rfl⟩ ?_
      obtain ⟨hc7, h⟩ := h
      refine g_icmp_ge C.1 (tgt := 72) dX3_takeFrom_29 (by decide) hc4 hc7 (fun hc => ?_) (fun hc => ?_)
      · have h := h.1 hc
        refine g_iload C.1 4 dX3_takeFrom_72 rfl ?_
        exact x_iret C.1 C.2.2.1 rfl ⟨Nat.le_of_ble_eq_true rfl, Nat.le_of_ble_eq_true rfl⟩ dX3_takeFrom_74 h
      · have h := h.2 hc
        refine g_aload_n C.1 0 dX3_takeFrom_32 rfl rfl ?_
        refine c_get C.1 (ci := 4) (q := (RX3, TX3, 2)) rfl rfl inX3_takeFrom_X3 0 (by decide) (v := .ref (y.1 9 v0 0)) rfl lk_X3_takeFrom_f9 rfl dX3_takeFrom_33 ⟨hd3.1, hd3.2, rfl⟩ ?_
        refine g_iload C.1 5 dX3_takeFrom_36 rfl ?_
        obtain ⟨hi8, h⟩ := h
        refine c_bald C.1 (N := 120) (f := fun p => σ 6 v0 p 0) (e := v5) rfl rfl rfl (by decide) dX3_takeFrom_38 ⟨hd3.1, hd3.2, rfl⟩ hi8 ?_
        show G K (CL y σ) (0, 0) [(0, .ref (y.1 8 v0 0)), (1, .ref (y.1 8 v1 0)), (2, .int (iZ v2)), (3, .int (iZ v3)), (4, .int (iZ v4)), (5, .int (iZ v5))] 39 [.int (iZ (σ 6 v0 v5 0))]
        refine g_aload_n C.1 1 dX3_takeFrom_39 rfl rfl ?_
        refine c_get C.1 (ci := 4) (q := (RX3, TX3, 2)) rfl rfl inX3_takeFrom_X3 0 (by decide) (v := .ref (y.1 9 v1 0)) rfl lk_X3_takeFrom_f9 rfl dX3_takeFrom_40 ⟨hd6.1, hd6.2, rfl⟩ ?_
        refine g_iload C.1 5 dX3_takeFrom_43 rfl ?_
        refine c_bald C.1 (N := 120) (f := fun p => σ 6 v1 p 0) (e := v5) rfl rfl rfl (by decide) dX3_takeFrom_45 ⟨hd6.1, hd6.2, rfl⟩ hi8 ?_
        show G K (CL y σ) (0, 0) [(0, .ref (y.1 8 v0 0)), (1, .ref (y.1 8 v1 0)), (2, .int (iZ v2)), (3, .int (iZ v3)), (4, .int (iZ v4)), (5, .int (iZ v5))] 46 [.int (iZ (σ 6 v1 v5 0)), .int (iZ (σ 6 v0 v5 0))]
        obtain ⟨hc9, h⟩ := h
        obtain ⟨hc10, h⟩ := h
        refine g_icmp_eq C.1 (tgt := 66) dX3_takeFrom_46 (by decide) hc9 hc10 (fun hc => ?_) (fun hc => ?_)
        · have h := h.1 hc
          refine g_iinc C.1 (z := v5) (w := 1) (loc' := [(5, .int (iZ (v5 + 1))), (0, .ref (y.1 8 v0 0)), (1, .ref (y.1 8 v1 0)), (2, .int (iZ v2)), (3, .int (iZ v3)), (4, .int (iZ v4))]) 5 C.2.1 dX3_takeFrom_66 rfl (by decide) rfl ?_
          refine g_goto C.1 (tgt := 6) dX3_takeFrom_69 (by decide) ?_
          exact g_sub [1, 2, 3, 4, 5, 0] rfl h
        · have h := h.2 hc
          refine g_aload_n C.1 0 dX3_takeFrom_49 rfl rfl ?_
          refine c_get C.1 (ci := 4) (q := (RX3, TX3, 2)) rfl rfl inX3_takeFrom_X3 0 (by decide) (v := .ref (y.1 9 v0 0)) rfl lk_X3_takeFrom_f9 rfl dX3_takeFrom_50 ⟨hd3.1, hd3.2, rfl⟩ ?_
          refine g_iload C.1 5 dX3_takeFrom_53 rfl ?_
          refine g_aload_n C.1 1 dX3_takeFrom_55 rfl rfl ?_
          refine c_get C.1 (ci := 4) (q := (RX3, TX3, 2)) rfl rfl inX3_takeFrom_X3 0 (by decide) (v := .ref (y.1 9 v1 0)) rfl lk_X3_takeFrom_f9 rfl dX3_takeFrom_56 ⟨hd6.1, hd6.2, rfl⟩ ?_
          refine g_iload C.1 5 dX3_takeFrom_59 rfl ?_
          refine c_bald C.1 (N := 120) (f := fun p => σ 6 v1 p 0) (e := v5) rfl rfl rfl (by decide) dX3_takeFrom_61 ⟨hd6.1, hd6.2, rfl⟩ hi8 ?_
          show G K (CL y σ) (0, 0) [(0, .ref (y.1 8 v0 0)), (1, .ref (y.1 8 v1 0)), (2, .int (iZ v2)), (3, .int (iZ v3)), (4, .int (iZ v4)), (5, .int (iZ v5))] 62 [.int (iZ (σ 6 v1 v5 0)), .int (iZ v5), .ref (y.1 9 v0 0)]
          obtain ⟨hz11, h⟩ := h
          refine c_bast C.1 (σ' := upC σ 6 (up2 (σ 6) v0 v5 (σ 6 v1 v5 0))) (N := 120) (f := fun p => σ 6 v0 p 0) (e := v5) (z := σ 6 v1 v5 0) rfl rfl (cu_let _ _ _ _ _) (CUpd_6 y _ _ _ (fun _ _ hx => if_neg (fun q => hx q.1))) rfl (by decide) dX3_takeFrom_62 hz11 ⟨hd3.1, hd3.2, rfl⟩ hi8 ?_
          refine g_iinc C.1 (z := v4) (w := 1) (loc' := [(4, .int (iZ (v4 + 1))), (0, .ref (y.1 8 v0 0)), (1, .ref (y.1 8 v1 0)), (2, .int (iZ v2)), (3, .int (iZ v3)), (5, .int (iZ v5))]) 4 C.2.1 dX3_takeFrom_63 rfl (by decide) rfl ?_
          refine g_iinc C.1 (z := v5) (w := 1) (loc' := [(5, .int (iZ (v5 + 1))), (4, .int (iZ (v4 + 1))), (0, .ref (y.1 8 v0 0)), (1, .ref (y.1 8 v1 0)), (2, .int (iZ v2)), (3, .int (iZ v3))]) 5 C.2.1 dX3_takeFrom_66 rfl (by decide) rfl ?_
          refine g_goto C.1 (tgt := 6) dX3_takeFrom_69 (by decide) ?_
          exact g_sub [2, 3, 4, 5, 1, 0] rfl h
theorem m_X3_takeFrom {l : Launch} {y : LT} {σ : CS} {v0 v1 v2 v3 : Int} {post : Int → CS → Prop} (h : ∀ K : KT, K.l = l → C_X3_takeFrom K y post → P_X3_takeFrom_0 K y σ v0 v1 v2 v3) : cMet l yX3_takeFrom wsX3_takeFrom rm_X3_takeFrom y.2.2 (CL y) rkI [.ref (y.1 8 v0 0), .ref (y.1 8 v1 0), .int (iZ v2), .int (iZ v3)] σ post :=
  cMet.of (maxL := 6) (by decide +kernel) rfl (Nat.le_of_ble_eq_true rfl) (fun K h1 h2 h3 h4 h5 h6 _ => h K h1 ⟨h2, h3, h4, h5, h6⟩)
def H_X3_takeFrom (p : CS → Int → Int → Int → Int → Prop) (o : CS → Int → Int → Int → Int → Int → CS → Prop) : Prop := ∀ (l : Launch) (y : LT) (σ : CS) (v0 v1 v2 v3 : Int), p σ v0 v1 v2 v3 → cMet l yX3_takeFrom wsX3_takeFrom rm_X3_takeFrom y.2.2 (CL y) rkI [.ref (y.1 8 v0 0), .ref (y.1 8 v1 0), .int (iZ v2), .int (iZ v3)] σ (fun r σ' => o σ v0 v1 v2 v3 r σ')

/-! X0_part -/
abbrev rm_X0_part : Room := { frames := 0, cells := 0, slots := 0, locals := 0 }
set_option maxRecDepth 20000 in
theorem inX0_part_X0 : ∀ w ∈ wsX00, w ∈ wsX0_part := by decide +kernel
theorem lk_X0_part_f21 : Cond.fieldLink RX0 21 "CopyHouse$Habit" "n" "I" ∈ wsX0_part := List.mem_of_getElem? (i := 4) (by decide +kernel)
theorem lk_X0_part_f9 : Cond.fieldLink RX0 9 "CopyHouse$Habit" "kind" "I" ∈ wsX0_part := List.mem_of_getElem? (i := 1) (by decide +kernel)
theorem lk_X0_part_f15 : Cond.fieldLink RX0 15 "CopyHouse$Habit" "a" "I" ∈ wsX0_part := List.mem_of_getElem? (i := 2) (by decide +kernel)
theorem lk_X0_part_f18 : Cond.fieldLink RX0 18 "CopyHouse$Habit" "b" "I" ∈ wsX0_part := List.mem_of_getElem? (i := 3) (by decide +kernel)
def C_X0_part (K : KT) (y : LT) (post : Int → CS → Prop) : Prop := kOK K cX0_part RX0 wsX0_part (some .int) rm_X0_part ∧ K.nL = 2 ∧ kQ K (CL y) rkI post rm_X0_part ∧ SF y.2.2 K.A K.s K.s.heap ∧ K.l.stackTraces = false
def P_X0_part_0 (K : KT) (y : LT) (σ : CS) (v0 v0b v1 : Int) : Prop := G K (CL y σ) (0, 0) [(0, .ref (y.1 16 v0 v0b)), (1, .int (iZ v1))] 0 []
set_option maxRecDepth 100000 in
set_option maxHeartbeats 4000000 in
theorem b_X0_part_0 {K : KT} {y : LT} {post : Int → CS → Prop} (C : C_X0_part K y post) {σ : CS} {v0 v0b v1 : Int} (h : (-2147483648 ≤ v1 ∧ v1 < 2147483648) ∧ (((v1 < 0 ∨ 2 < v1) → ((0 ≤ v0 ∧ v0 < (σ 22 0 0 0)) ∧ (0 ≤ v0b ∧ v0b < (σ 23 v0 0 0))) ∧ post (σ 14 v0 v0b 3) σ) ∧ (v1 = 0 → ((0 ≤ v0 ∧ v0 < (σ 22 0 0 0)) ∧ (0 ≤ v0b ∧ v0b < (σ 23 v0 0 0))) ∧ post (σ 14 v0 v0b 0) σ) ∧ (v1 = 1 → ((0 ≤ v0 ∧ v0 < (σ 22 0 0 0)) ∧ (0 ≤ v0b ∧ v0b < (σ 23 v0 0 0))) ∧ post (σ 14 v0 v0b 1) σ) ∧ (v1 = 2 → ((0 ≤ v0 ∧ v0 < (σ 22 0 0 0)) ∧ (0 ≤ v0b ∧ v0b < (σ 23 v0 0 0))) ∧ post (σ 14 v0 v0b 2) σ))) : P_X0_part_0 K y σ v0 v0b v1 := by
  refine g_iload_n C.1 1 dX0_part_0 rfl rfl ?_
  obtain ⟨hc1, h⟩ := h
  refine g_tsw C.1 (x := v1) (lo := 0) (hi := 2) dX0_part_1 hc1 (fun hc => ?_) (fun h1 h2 => ?_)
  · refine ⟨43, by decide, ?_⟩
    have h := h.1 hc
    refine g_aload_n C.1 0 dX0_part_43 rfl rfl ?_
    obtain ⟨hd2, h⟩ := h
    refine c_get C.1 (ci := 1) (q := (RX0, TX0, 4)) rfl rfl inX0_part_X0 3 (by decide) (v := .int (iZ (σ 14 v0 v0b 3))) rfl lk_X0_part_f21 rfl dX0_part_44 ⟨hd2.1.1, hd2.1.2, hd2.2.1, hd2.2.2⟩ ?_
    exact x_iret C.1 C.2.2.1 rfl ⟨Nat.le_of_ble_eq_true rfl, Nat.le_of_ble_eq_true rfl⟩ dX0_part_47 h
  · have hx : v1 = 0 ∨ v1 = 1 ∨ v1 = 2 := by omega
    have h := h.2
    rcases hx with hx | hx | hx
    · refine ⟨_, 28, (by rw [hx]; rfl), by decide, ?_⟩
      have h := h.1 hx
      refine g_aload_n C.1 0 dX0_part_28 rfl rfl ?_
      obtain ⟨hd3, h⟩ := h
      refine c_get C.1 (ci := 1) (q := (RX0, TX0, 4)) rfl rfl inX0_part_X0 0 (by decide) (v := .int (iZ (σ 14 v0 v0b 0))) rfl lk_X0_part_f9 rfl dX0_part_29 ⟨hd3.1.1, hd3.1.2, hd3.2.1, hd3.2.2⟩ ?_
      exact x_iret C.1 C.2.2.1 rfl ⟨Nat.le_of_ble_eq_true rfl, Nat.le_of_ble_eq_true rfl⟩ dX0_part_32 h
    · refine ⟨_, 33, (by rw [hx]; rfl), by decide, ?_⟩
      have h := h.2.1 hx
      refine g_aload_n C.1 0 dX0_part_33 rfl rfl ?_
      obtain ⟨hd4, h⟩ := h
      refine c_get C.1 (ci := 1) (q := (RX0, TX0, 4)) rfl rfl inX0_part_X0 1 (by decide) (v := .int (iZ (σ 14 v0 v0b 1))) rfl lk_X0_part_f15 rfl dX0_part_34 ⟨hd4.1.1, hd4.1.2, hd4.2.1, hd4.2.2⟩ ?_
      exact x_iret C.1 C.2.2.1 rfl ⟨Nat.le_of_ble_eq_true rfl, Nat.le_of_ble_eq_true rfl⟩ dX0_part_37 h
    · refine ⟨_, 38, (by rw [hx]; rfl), by decide, ?_⟩
      have h := h.2.2 hx
      refine g_aload_n C.1 0 dX0_part_38 rfl rfl ?_
      obtain ⟨hd5, h⟩ := h
      refine c_get C.1 (ci := 1) (q := (RX0, TX0, 4)) rfl rfl inX0_part_X0 2 (by decide) (v := .int (iZ (σ 14 v0 v0b 2))) rfl lk_X0_part_f18 rfl dX0_part_39 ⟨hd5.1.1, hd5.1.2, hd5.2.1, hd5.2.2⟩ ?_
      exact x_iret C.1 C.2.2.1 rfl ⟨Nat.le_of_ble_eq_true rfl, Nat.le_of_ble_eq_true rfl⟩ dX0_part_42 h
theorem m_X0_part {l : Launch} {y : LT} {σ : CS} {v0 v0b v1 : Int} {post : Int → CS → Prop} (h : ∀ K : KT, K.l = l → C_X0_part K y post → P_X0_part_0 K y σ v0 v0b v1) : cMet l yX0_part wsX0_part rm_X0_part y.2.2 (CL y) rkI [.ref (y.1 16 v0 v0b), .int (iZ v1)] σ post :=
  cMet.of (maxL := 2) (by decide +kernel) rfl (Nat.le_of_ble_eq_true rfl) (fun K h1 h2 h3 h4 h5 h6 _ => h K h1 ⟨h2, h3, h4, h5, h6⟩)
def H_X0_part (p : CS → Int → Int → Int → Prop) (f : CS → Int → Int → Int → Int) : Prop := ∀ (l : Launch) (y : LT) (σ : CS) (v0 v0b v1 : Int), p σ v0 v0b v1 → cMet l yX0_part wsX0_part rm_X0_part y.2.2 (CL y) rkI [.ref (y.1 16 v0 v0b), .int (iZ v1)] σ (fun r σ' => r = f σ v0 v0b v1 ∧ σ' = σ)

/-! X0_treat -/
abbrev rm_X0_treat : Room := { frames := 1, cells := 0, slots := 0, locals := 21 }
set_option maxRecDepth 20000 in
theorem inX0_treat_X3 : ∀ w ∈ wsX30, w ∈ wsX0_treat := by decide +kernel
set_option maxRecDepth 20000 in
theorem inX0_treat_X0 : ∀ w ∈ wsX00, w ∈ wsX0_treat := by decide +kernel
theorem lk_X0_treat_f24 : Cond.fieldLink RX0 24 "CopyHouse$Text" "length" "I" ∈ wsX0_treat := List.mem_of_getElem? (i := 1) (by decide +kernel)
theorem lk_X0_treat_f9 : Cond.fieldLink RX0 9 "CopyHouse$Habit" "kind" "I" ∈ wsX0_treat := List.mem_of_getElem? (i := 2) (by decide +kernel)
theorem lk_X0_treat_f18 : Cond.fieldLink RX0 18 "CopyHouse$Habit" "b" "I" ∈ wsX0_treat := List.mem_of_getElem? (i := 3) (by decide +kernel)
def C_X0_treat (K : KT) (y : LT) (post : Int → CS → Prop) : Prop := kOK K cX0_treat RX0 wsX0_treat none rm_X0_treat ∧ K.nL = 5 ∧ kQ K (CL y) rkV post rm_X0_treat ∧ SF y.2.2 K.A K.s K.s.heap ∧ K.l.stackTraces = false
def P_X0_treat_0 (K : KT) (y : LT) (σ : CS) (v0 v0b v1 v2 v3 : Int) : Prop := G K (CL y σ) (0, 0) [(0, .ref (y.1 16 v0 v0b)), (1, .int (iZ v1)), (2, .ref (y.1 8 v2 0)), (3, .int (iZ v3))] 0 []
def P_X0_treat_1 (K : KT) (y : LT) (σ : CS) (v0 v0b v1 v2 v4 : Int) : Prop := G K (CL y σ) (0, 0) [(0, .ref (y.1 16 v0 v0b)), (1, .int (iZ v1)), (2, .ref (y.1 8 v2 0)), (4, .int (iZ v4))] 52 []
set_option maxRecDepth 100000 in
set_option maxHeartbeats 4000000 in
theorem b_X0_treat_0 {K : KT} {y : LT} {post : Int → CS → Prop} (C : C_X0_treat K y post) {p_append : CS → Int → Int → Prop} {o_append : CS → Int → Int → Int → CS → Prop} (h_append : H_X3_append p_append o_append) {σ : CS} {v0 v0b v1 v2 v3 : Int} (h : (0 ≤ v2 ∧ v2 < (σ 21 0 0 0) + 3) ∧ (-2147483648 ≤ ((σ 5 v2 0 0) + v3) ∧ ((σ 5 v2 0 0) + v3) < 2147483648) ∧ ((0 ≤ v0 ∧ v0 < (σ 22 0 0 0)) ∧ (0 ≤ v0b ∧ v0b < (σ 23 v0 0 0))) ∧ (-2147483648 ≤ (σ 14 v0 v0b 0) ∧ (σ 14 v0 v0b 0) < 2147483648) ∧ ((¬ (σ 14 v0 v0b 0) = 0 → (((σ 14 v0 v0b 0) = 1 → P_X0_treat_1 K y σ v0 v0b v1 v2 ((if ¬ 120 ≤ ((σ 5 v2 0 0) + v3) then 1 else 0))) ∧ (¬ (σ 14 v0 v0b 0) = 1 → (p_append σ v2 v1) ∧ ∀ (r6 : Int) (σ7 : CS), o_append σ v2 v1 r6 σ7 → P_X0_treat_1 K y σ7 v0 v0b v1 v2 ((if ¬ 120 ≤ ((σ 5 v2 0 0) + v3) then 1 else 0))))) ∧ ((σ 14 v0 v0b 0) = 0 → (p_append σ v2 (97 + (σ 14 v0 v0b 2))) ∧ ∀ (r9 : Int) (σ10 : CS), o_append σ v2 (97 + (σ 14 v0 v0b 2)) r9 σ10 → P_X0_treat_1 K y σ10 v0 v0b v1 v2 ((if ¬ 120 ≤ ((σ 5 v2 0 0) + v3) then 1 else 0))))) : P_X0_treat_0 K y σ v0 v0b v1 v2 v3 := by
  refine g_aload_n C.1 2 dX0_treat_0 rfl rfl ?_
  obtain ⟨hd1, h⟩ := h
  refine c_get C.1 (ci := 4) (q := (RX3, TX3, 2)) rfl rfl inX0_treat_X3 1 (by decide) (v := .int (iZ (σ 5 v2 0 0))) rfl lk_X0_treat_f24 rfl dX0_treat_1 ⟨hd1.1, hd1.2, rfl⟩ ?_
  refine g_iload_n C.1 3 dX0_treat_4 rfl rfl ?_
  refine g_iadd C.1 (x := σ 5 v2 0 0) (y := v3) dX0_treat_5 ?_
  refine g_bipush C.1 (z := 120) dX0_treat_6 (by decide) ?_
  obtain ⟨hc2, h⟩ := h
  suffices hk : G K (CL y σ) (0, 0) [(0, .ref (y.1 16 v0 v0b)), (1, .int (iZ v1)), (2, .ref (y.1 8 v2 0)), (3, .int (iZ v3))] 16 [.int (iZ (if ¬ 120 ≤ ((σ 5 v2 0 0) + v3) then 1 else 0))] by
    refine g_icmp_ge C.1 (tgt := 15) dX0_treat_8 (by decide) hc2 (by decide) (fun hc => ?_) (fun hc => ?_)
    · refine g_iconst C.1 (z := 0) dX0_treat_15 ?_
      rw [if_neg (fun q9 => q9 hc)] at hk
      exact hk
    · refine g_iconst C.1 (z := 1) dX0_treat_11 ?_
      refine g_goto C.1 (tgt := 16) dX0_treat_12 (by decide) ?_
      rw [if_pos hc] at hk
      exact hk
  refine g_istore C.1 (i := 4) (loc' := [(4, .int (iZ (if ¬ 120 ≤ ((σ 5 v2 0 0) + v3) then 1 else 0))), (0, .ref (y.1 16 v0 v0b)), (1, .int (iZ v1)), (2, .ref (y.1 8 v2 0)), (3, .int (iZ v3))]) C.2.1 dX0_treat_16 (by decide) rfl ?_
  refine g_aload_n C.1 1 dX0_treat_18 rfl rfl ?_
  obtain ⟨hd3, h⟩ := h
  refine c_get C.1 (ci := 1) (q := (RX0, TX0, 4)) rfl rfl inX0_treat_X0 0 (by decide) (v := .int (iZ (σ 14 v0 v0b 0))) rfl lk_X0_treat_f9 rfl dX0_treat_19 ⟨hd3.1.1, hd3.1.2, hd3.2.1, hd3.2.2⟩ ?_
  obtain ⟨hc4, h⟩ := h
  refine g_if_ne C.1 (tgt := 39) dX0_treat_22 (by decide) hc4 (fun hc => ?_) (fun hc => ?_)
  · have h := h.1 hc
    refine g_aload_n C.1 1 dX0_treat_39 rfl rfl ?_
    refine c_get C.1 (ci := 1) (q := (RX0, TX0, 4)) rfl rfl inX0_treat_X0 0 (by decide) (v := .int (iZ (σ 14 v0 v0b 0))) rfl lk_X0_treat_f9 rfl dX0_treat_40 ⟨hd3.1.1, hd3.1.2, hd3.2.1, hd3.2.2⟩ ?_
    refine g_iconst C.1 (z := 1) dX0_treat_43 ?_
    refine g_icmp_eq C.1 (tgt := 52) dX0_treat_44 (by decide) hc4 (by decide) (fun hc => ?_) (fun hc => ?_)
    · have h := h.1 hc
      exact g_sub [1, 2, 3, 0] rfl h
    · have h := h.2 hc
      refine g_aload_n C.1 3 dX0_treat_47 rfl rfl ?_
      refine g_iload_n C.1 2 dX0_treat_48 rfl rfl ?_
      obtain ⟨hp5, h⟩ := h
      refine c_callV C.1 C.2.2.2.1 C.2.2.2.2 (h_append K.l y σ v2 v1 hp5) (ci := 4) (q := (RX3, TX3, 2)) rfl (c_recv rfl ⟨hd1.1, hd1.2, rfl⟩) (fun ht => cwV 1 ht gX0_treat_X3_append rfl rfl rfl (by decide +kernel) ⟨Nat.le_of_ble_eq_true rfl, Nat.le_of_ble_eq_true rfl⟩) rfl rfl (Nat.le_of_ble_eq_true rfl) ⟨Nat.le_of_ble_eq_true rfl, Nat.le_of_ble_eq_true rfl⟩ dX0_treat_49 (fun r6 σ7 hq => ?_)
      have h := h r6 σ7 hq
      show G K (CL y σ7) (0, 0) [(4, .int (iZ (if ¬ 120 ≤ ((σ 5 v2 0 0) + v3) then 1 else 0))), (0, .ref (y.1 16 v0 v0b)), (1, .int (iZ v1)), (2, .ref (y.1 8 v2 0)), (3, .int (iZ v3))] 52 []
      exact g_sub [1, 2, 3, 0] rfl h
  · have h := h.2 hc
    refine g_aload_n C.1 3 dX0_treat_25 rfl rfl ?_
    refine g_bipush C.1 (z := 97) dX0_treat_26 (by decide) ?_
    refine g_aload_n C.1 1 dX0_treat_28 rfl rfl ?_
    refine c_get C.1 (ci := 1) (q := (RX0, TX0, 4)) rfl rfl inX0_treat_X0 2 (by decide) (v := .int (iZ (σ 14 v0 v0b 2))) rfl lk_X0_treat_f18 rfl dX0_treat_29 ⟨hd3.1.1, hd3.1.2, hd3.2.1, hd3.2.2⟩ ?_
    refine g_iadd C.1 (x := 97) (y := σ 14 v0 v0b 2) dX0_treat_32 ?_
    obtain ⟨hp8, h⟩ := h
    refine c_callV C.1 C.2.2.2.1 C.2.2.2.2 (h_append K.l y σ v2 (97 + (σ 14 v0 v0b 2)) hp8) (ci := 4) (q := (RX3, TX3, 2)) rfl (c_recv rfl ⟨hd1.1, hd1.2, rfl⟩) (fun ht => cwV 1 ht gX0_treat_X3_append rfl rfl rfl (by decide +kernel) ⟨Nat.le_of_ble_eq_true rfl, Nat.le_of_ble_eq_true rfl⟩) rfl rfl (Nat.le_of_ble_eq_true rfl) ⟨Nat.le_of_ble_eq_true rfl, Nat.le_of_ble_eq_true rfl⟩ dX0_treat_33 (fun r9 σ10 hq => ?_)
    have h := h r9 σ10 hq
    show G K (CL y σ10) (0, 0) [(4, .int (iZ (if ¬ 120 ≤ ((σ 5 v2 0 0) + v3) then 1 else 0))), (0, .ref (y.1 16 v0 v0b)), (1, .int (iZ v1)), (2, .ref (y.1 8 v2 0)), (3, .int (iZ v3))] 36 []
    refine g_goto C.1 (tgt := 52) dX0_treat_36 (by decide) ?_
    exact g_sub [1, 2, 3, 0] rfl h
set_option maxRecDepth 100000 in
set_option maxHeartbeats 4000000 in
theorem b_X0_treat_1 {K : KT} {y : LT} {post : Int → CS → Prop} (C : C_X0_treat K y post) {p_append : CS → Int → Int → Prop} {o_append : CS → Int → Int → Int → CS → Prop} (h_append : H_X3_append p_append o_append) {σ : CS} {v0 v0b v1 v2 v4 : Int} (h : ((0 ≤ v0 ∧ v0 < (σ 22 0 0 0)) ∧ (0 ≤ v0b ∧ v0b < (σ 23 v0 0 0))) ∧ (-2147483648 ≤ (σ 14 v0 v0b 0) ∧ (σ 14 v0 v0b 0) < 2147483648) ∧ ((¬ (σ 14 v0 v0b 0) = 2 → post 0 σ) ∧ ((σ 14 v0 v0b 0) = 2 → (-2147483648 ≤ v4 ∧ v4 < 2147483648) ∧ ((v4 = 0 → post 0 σ) ∧ (¬ v4 = 0 → (p_append σ v2 v1) ∧ (0 ≤ v2 ∧ v2 < (σ 21 0 0 0) + 3) ∧ ∀ (r6 : Int) (σ7 : CS), o_append σ v2 v1 r6 σ7 → post 0 σ7))))) : P_X0_treat_1 K y σ v0 v0b v1 v2 v4 := by
  refine g_aload_n C.1 0 dX0_treat_52 rfl rfl ?_
  obtain ⟨hd1, h⟩ := h
  refine c_get C.1 (ci := 1) (q := (RX0, TX0, 4)) rfl rfl inX0_treat_X0 0 (by decide) (v := .int (iZ (σ 14 v0 v0b 0))) rfl lk_X0_treat_f9 rfl dX0_treat_53 ⟨hd1.1.1, hd1.1.2, hd1.2.1, hd1.2.2⟩ ?_
  refine g_iconst C.1 (z := 2) dX0_treat_56 ?_
  obtain ⟨hc2, h⟩ := h
  refine g_icmp_ne C.1 (tgt := 70) dX0_treat_57 (by decide) hc2 (by decide) (fun hc => ?_) (fun hc => ?_)
  · have h := h.1 hc
    exact x_vret C.1 C.2.2.1 rfl ⟨Nat.le_of_ble_eq_true rfl, Nat.le_of_ble_eq_true rfl⟩ dX0_treat_70 h
  · have h := h.2 hc
    refine g_iload C.1 3 dX0_treat_60 rfl ?_
    obtain ⟨hc3, h⟩ := h
    refine g_if_eq C.1 (tgt := 70) dX0_treat_62 (by decide) hc3 (fun hc => ?_) (fun hc => ?_)
    · have h := h.1 hc
      exact x_vret C.1 C.2.2.1 rfl ⟨Nat.le_of_ble_eq_true rfl, Nat.le_of_ble_eq_true rfl⟩ dX0_treat_70 h
    · have h := h.2 hc
      refine g_aload_n C.1 2 dX0_treat_65 rfl rfl ?_
      refine g_iload_n C.1 1 dX0_treat_66 rfl rfl ?_
      obtain ⟨hp4, h⟩ := h
      obtain ⟨hd5, h⟩ := h
      refine c_callV C.1 C.2.2.2.1 C.2.2.2.2 (h_append K.l y σ v2 v1 hp4) (ci := 4) (q := (RX3, TX3, 2)) rfl (c_recv rfl ⟨hd5.1, hd5.2, rfl⟩) (fun ht => cwV 1 ht gX0_treat_X3_append rfl rfl rfl (by decide +kernel) ⟨Nat.le_of_ble_eq_true rfl, Nat.le_of_ble_eq_true rfl⟩) rfl rfl (Nat.le_of_ble_eq_true rfl) ⟨Nat.le_of_ble_eq_true rfl, Nat.le_of_ble_eq_true rfl⟩ dX0_treat_67 (fun r6 σ7 hq => ?_)
      have h := h r6 σ7 hq
      show G K (CL y σ7) (0, 0) [(0, .ref (y.1 16 v0 v0b)), (1, .int (iZ v1)), (2, .ref (y.1 8 v2 0)), (4, .int (iZ v4))] 70 []
      exact x_vret C.1 C.2.2.1 rfl ⟨Nat.le_of_ble_eq_true rfl, Nat.le_of_ble_eq_true rfl⟩ dX0_treat_70 h
theorem m_X0_treat {l : Launch} {y : LT} {σ : CS} {v0 v0b v1 v2 v3 : Int} {post : Int → CS → Prop} (h : ∀ K : KT, K.l = l → C_X0_treat K y post → P_X0_treat_0 K y σ v0 v0b v1 v2 v3) : cMet l yX0_treat wsX0_treat rm_X0_treat y.2.2 (CL y) rkV [.ref (y.1 16 v0 v0b), .int (iZ v1), .ref (y.1 8 v2 0), .int (iZ v3)] σ post :=
  cMet.of (maxL := 5) (by decide +kernel) rfl (Nat.le_of_ble_eq_true rfl) (fun K h1 h2 h3 h4 h5 h6 _ => h K h1 ⟨h2, h3, h4, h5, h6⟩)
def H_X0_treat (p : CS → Int → Int → Int → Int → Int → Prop) (o : CS → Int → Int → Int → Int → Int → Int → CS → Prop) : Prop := ∀ (l : Launch) (y : LT) (σ : CS) (v0 v0b v1 v2 v3 : Int), p σ v0 v0b v1 v2 v3 → cMet l yX0_treat wsX0_treat rm_X0_treat y.2.2 (CL y) rkV [.ref (y.1 16 v0 v0b), .int (iZ v1), .ref (y.1 8 v2 0), .int (iZ v3)] σ (fun r σ' => o σ v0 v0b v1 v2 v3 r σ')

/-! X0_treatEachNth -/
abbrev rm_X0_treatEachNth : Room := { frames := 2, cells := 0, slots := 0, locals := 45 }
set_option maxRecDepth 20000 in
theorem inX0_treatEachNth_X3 : ∀ w ∈ wsX30, w ∈ wsX0_treatEachNth := by decide +kernel
set_option maxRecDepth 20000 in
theorem inX0_treatEachNth_X0 : ∀ w ∈ wsX00, w ∈ wsX0_treatEachNth := by decide +kernel
theorem lk_X0_treatEachNth_f24 : Cond.fieldLink RX0 24 "CopyHouse$Text" "length" "I" ∈ wsX0_treatEachNth := List.mem_of_getElem? (i := 1) (by decide +kernel)
theorem lk_X0_treatEachNth_f39 : Cond.fieldLink RX0 39 "CopyHouse$Text" "letters" "[B" ∈ wsX0_treatEachNth := List.mem_of_getElem? (i := 2) (by decide +kernel)
theorem lk_X0_treatEachNth_f15 : Cond.fieldLink RX0 15 "CopyHouse$Habit" "a" "I" ∈ wsX0_treatEachNth := List.mem_of_getElem? (i := 3) (by decide +kernel)
theorem lk_X0_treatEachNth_f21 : Cond.fieldLink RX0 21 "CopyHouse$Habit" "n" "I" ∈ wsX0_treatEachNth := List.mem_of_getElem? (i := 4) (by decide +kernel)
def C_X0_treatEachNth (K : KT) (y : LT) (post : Int → CS → Prop) : Prop := kOK K cX0_treatEachNth RX0 wsX0_treatEachNth none rm_X0_treatEachNth ∧ K.nL = 6 ∧ kQ K (CL y) rkV post rm_X0_treatEachNth ∧ SF y.2.2 K.A K.s K.s.heap ∧ K.l.stackTraces = false
def P_X0_treatEachNth_0 (K : KT) (y : LT) (σ : CS) (v0 v0b v1 v2 : Int) : Prop := G K (CL y σ) (0, 0) [(0, .ref (y.1 16 v0 v0b)), (1, .ref (y.1 8 v1 0)), (2, .ref (y.1 8 v2 0))] 0 []
def P_X0_treatEachNth_1 (K : KT) (y : LT) (σ : CS) (v0 v0b v1 v2 v3 v4 : Int) : Prop := G K (CL y σ) (0, 0) [(0, .ref (y.1 16 v0 v0b)), (1, .ref (y.1 8 v1 0)), (2, .ref (y.1 8 v2 0)), (3, .int (iZ v3)), (4, .int (iZ v4))] 5 []
def P_X0_treatEachNth_2 (K : KT) (y : LT) (σ : CS) (v0 v0b v1 v2 v3 v4 v5 : Int) : Prop := G K (CL y σ) (0, 0) [(0, .ref (y.1 16 v0 v0b)), (1, .ref (y.1 8 v1 0)), (2, .ref (y.1 8 v2 0)), (3, .int (iZ v3)), (4, .int (iZ v4)), (5, .int (iZ v5))] 38 []
set_option maxRecDepth 100000 in
set_option maxHeartbeats 4000000 in
theorem b_X0_treatEachNth_0 {K : KT} {y : LT} {post : Int → CS → Prop} (C : C_X0_treatEachNth K y post) {σ : CS} {v0 v0b v1 v2 : Int} (h : P_X0_treatEachNth_1 K y σ v0 v0b v1 v2 0 0) : P_X0_treatEachNth_0 K y σ v0 v0b v1 v2 := by
  refine g_iconst C.1 (z := 0) dX0_treatEachNth_0 ?_
  refine g_istore_n C.1 (i := 3) (loc' := [(3, .int (iZ 0)), (0, .ref (y.1 16 v0 v0b)), (1, .ref (y.1 8 v1 0)), (2, .ref (y.1 8 v2 0))]) C.2.1 dX0_treatEachNth_1 rfl (by decide) rfl ?_
  refine g_iconst C.1 (z := 0) dX0_treatEachNth_2 ?_
  refine g_istore C.1 (i := 4) (loc' := [(4, .int (iZ 0)), (3, .int (iZ 0)), (0, .ref (y.1 16 v0 v0b)), (1, .ref (y.1 8 v1 0)), (2, .ref (y.1 8 v2 0))]) C.2.1 dX0_treatEachNth_3 (by decide) rfl ?_
  exact g_sub [2, 3, 4, 1, 0] rfl h
set_option maxRecDepth 100000 in
set_option maxHeartbeats 4000000 in
theorem b_X0_treatEachNth_1 {K : KT} {y : LT} {post : Int → CS → Prop} (C : C_X0_treatEachNth K y post) {σ : CS} {v0 v0b v1 v2 v3 v4 : Int} (h : (0 ≤ v1 ∧ v1 < (σ 21 0 0 0) + 3) ∧ (-2147483648 ≤ v4 ∧ v4 < 2147483648) ∧ (-2147483648 ≤ (σ 5 v1 0 0) ∧ (σ 5 v1 0 0) < 2147483648) ∧ (((σ 5 v1 0 0) ≤ v4 → post 0 σ) ∧ (¬ (σ 5 v1 0 0) ≤ v4 → (0 ≤ v4 ∧ v4 < 120) ∧ ((0 ≤ v0 ∧ v0 < (σ 22 0 0 0)) ∧ (0 ≤ v0b ∧ v0b < (σ 23 v0 0 0))) ∧ (-2147483648 ≤ (σ 6 v1 v4 0) ∧ (σ 6 v1 v4 0) < 2147483648) ∧ (-2147483648 ≤ (97 + (σ 14 v0 v0b 1)) ∧ (97 + (σ 14 v0 v0b 1)) < 2147483648) ∧ ((¬ (σ 6 v1 v4 0) = (97 + (σ 14 v0 v0b 1)) → P_X0_treatEachNth_2 K y σ v0 v0b v1 v2 v3 v4 (σ 6 v1 v4 0)) ∧ ((σ 6 v1 v4 0) = (97 + (σ 14 v0 v0b 1)) → P_X0_treatEachNth_2 K y σ v0 v0b v1 v2 (v3 + 1) v4 (σ 6 v1 v4 0)))))) : P_X0_treatEachNth_1 K y σ v0 v0b v1 v2 v3 v4 := by
  refine g_iload C.1 4 dX0_treatEachNth_5 rfl ?_
  refine g_aload_n C.1 1 dX0_treatEachNth_7 rfl rfl ?_
  obtain ⟨hd1, h⟩ := h
  refine c_get C.1 (ci := 4) (q := (RX3, TX3, 2)) rfl rfl inX0_treatEachNth_X3 1 (by decide) (v := .int (iZ (σ 5 v1 0 0))) rfl lk_X0_treatEachNth_f24 rfl dX0_treatEachNth_8 ⟨hd1.1, hd1.2, rfl⟩ ?_
  obtain ⟨hc2, h⟩ := h
  obtain ⟨hc3, h⟩ := h
  refine g_icmp_ge C.1 (tgt := 89) dX0_treatEachNth_11 (by decide) hc2 hc3 (fun hc => ?_) (fun hc => ?_)
  · have h := h.1 hc
    exact x_vret C.1 C.2.2.1 rfl ⟨Nat.le_of_ble_eq_true rfl, Nat.le_of_ble_eq_true rfl⟩ dX0_treatEachNth_89 h
  · have h := h.2 hc
    refine g_aload_n C.1 1 dX0_treatEachNth_14 rfl rfl ?_
    refine c_get C.1 (ci := 4) (q := (RX3, TX3, 2)) rfl rfl inX0_treatEachNth_X3 0 (by decide) (v := .ref (y.1 9 v1 0)) rfl lk_X0_treatEachNth_f39 rfl dX0_treatEachNth_15 ⟨hd1.1, hd1.2, rfl⟩ ?_
    refine g_iload C.1 4 dX0_treatEachNth_18 rfl ?_
    obtain ⟨hi4, h⟩ := h
    refine c_bald C.1 (N := 120) (f := fun p => σ 6 v1 p 0) (e := v4) rfl rfl rfl (by decide) dX0_treatEachNth_20 ⟨hd1.1, hd1.2, rfl⟩ hi4 ?_
    show G K (CL y σ) (0, 0) [(0, .ref (y.1 16 v0 v0b)), (1, .ref (y.1 8 v1 0)), (2, .ref (y.1 8 v2 0)), (3, .int (iZ v3)), (4, .int (iZ v4))] 21 [.int (iZ (σ 6 v1 v4 0))]
    refine g_istore C.1 (i := 5) (loc' := [(5, .int (iZ (σ 6 v1 v4 0))), (0, .ref (y.1 16 v0 v0b)), (1, .ref (y.1 8 v1 0)), (2, .ref (y.1 8 v2 0)), (3, .int (iZ v3)), (4, .int (iZ v4))]) C.2.1 dX0_treatEachNth_21 (by decide) rfl ?_
    refine g_iload C.1 0 dX0_treatEachNth_23 rfl ?_
    refine g_bipush C.1 (z := 97) dX0_treatEachNth_25 (by decide) ?_
    refine g_aload_n C.1 1 dX0_treatEachNth_27 rfl rfl ?_
    obtain ⟨hd5, h⟩ := h
    refine c_get C.1 (ci := 1) (q := (RX0, TX0, 4)) rfl rfl inX0_treatEachNth_X0 1 (by decide) (v := .int (iZ (σ 14 v0 v0b 1))) rfl lk_X0_treatEachNth_f15 rfl dX0_treatEachNth_28 ⟨hd5.1.1, hd5.1.2, hd5.2.1, hd5.2.2⟩ ?_
    refine g_iadd C.1 (x := 97) (y := σ 14 v0 v0b 1) dX0_treatEachNth_31 ?_
    obtain ⟨hc6, h⟩ := h
    obtain ⟨hc7, h⟩ := h
    refine g_icmp_ne C.1 (tgt := 38) dX0_treatEachNth_32 (by decide) hc6 hc7 (fun hc => ?_) (fun hc => ?_)
    · have h := h.1 hc
      exact g_sub [1, 2, 3, 4, 5, 0] rfl h
    · have h := h.2 hc
      refine g_iinc C.1 (z := v3) (w := 1) (loc' := [(3, .int (iZ (v3 + 1))), (5, .int (iZ (σ 6 v1 v4 0))), (0, .ref (y.1 16 v0 v0b)), (1, .ref (y.1 8 v1 0)), (2, .ref (y.1 8 v2 0)), (4, .int (iZ v4))]) 4 C.2.1 dX0_treatEachNth_35 rfl (by decide) rfl ?_
      exact g_sub [2, 3, 4, 0, 5, 1] rfl h
set_option maxRecDepth 100000 in
set_option maxHeartbeats 4000000 in
theorem b_X0_treatEachNth_2 {K : KT} {y : LT} {post : Int → CS → Prop} (C : C_X0_treatEachNth K y post) {p_append : CS → Int → Int → Prop} {o_append : CS → Int → Int → Int → CS → Prop} (h_append : H_X3_append p_append o_append) {p_treat : CS → Int → Int → Int → Int → Int → Prop} {o_treat : CS → Int → Int → Int → Int → Int → Int → CS → Prop} (h_treat : H_X0_treat p_treat o_treat) {σ : CS} {v0 v0b v1 v2 v3 v4 v5 : Int} (h : ((0 ≤ v0 ∧ v0 < (σ 22 0 0 0)) ∧ (0 ≤ v0b ∧ v0b < (σ 23 v0 0 0))) ∧ (-2147483648 ≤ v5 ∧ v5 < 2147483648) ∧ (-2147483648 ≤ (97 + (σ 14 v0 v0b 1)) ∧ (97 + (σ 14 v0 v0b 1)) < 2147483648) ∧ ((¬ v5 = (97 + (σ 14 v0 v0b 1)) → (p_append σ v2 v5) ∧ (0 ≤ v2 ∧ v2 < (σ 21 0 0 0) + 3) ∧ ∀ (r6 : Int) (σ7 : CS), o_append σ v2 v5 r6 σ7 → P_X0_treatEachNth_1 K y σ7 v0 v0b v1 v2 v3 (v4 + 1)) ∧ (v5 = (97 + (σ 14 v0 v0b 1)) → (-2147483648 ≤ v3 ∧ v3 < 2147483648) ∧ (-2147483648 ≤ (σ 14 v0 v0b 3) ∧ (σ 14 v0 v0b 3) < 2147483648) ∧ ((¬ v3 = (σ 14 v0 v0b 3) → (p_append σ v2 v5) ∧ (0 ≤ v2 ∧ v2 < (σ 21 0 0 0) + 3) ∧ ∀ (r12 : Int) (σ13 : CS), o_append σ v2 v5 r12 σ13 → P_X0_treatEachNth_1 K y σ13 v0 v0b v1 v2 v3 (v4 + 1)) ∧ (v3 = (σ 14 v0 v0b 3) → (0 ≤ v1 ∧ v1 < (σ 21 0 0 0) + 3) ∧ (p_treat σ v0 v0b v5 v2 ((σ 5 v1 0 0) - v4)) ∧ ∀ (r16 : Int) (σ17 : CS), o_treat σ v0 v0b v5 v2 ((σ 5 v1 0 0) - v4) r16 σ17 → P_X0_treatEachNth_1 K y σ17 v0 v0b v1 v2 0 (v4 + 1)))))) : P_X0_treatEachNth_2 K y σ v0 v0b v1 v2 v3 v4 v5 := by
  refine g_iload C.1 5 dX0_treatEachNth_38 rfl ?_
  refine g_bipush C.1 (z := 97) dX0_treatEachNth_40 (by decide) ?_
  refine g_aload_n C.1 0 dX0_treatEachNth_42 rfl rfl ?_
  obtain ⟨hd1, h⟩ := h
  refine c_get C.1 (ci := 1) (q := (RX0, TX0, 4)) rfl rfl inX0_treatEachNth_X0 1 (by decide) (v := .int (iZ (σ 14 v0 v0b 1))) rfl lk_X0_treatEachNth_f15 rfl dX0_treatEachNth_43 ⟨hd1.1.1, hd1.1.2, hd1.2.1, hd1.2.2⟩ ?_
  refine g_iadd C.1 (x := 97) (y := σ 14 v0 v0b 1) dX0_treatEachNth_46 ?_
  obtain ⟨hc2, h⟩ := h
  obtain ⟨hc3, h⟩ := h
  refine g_icmp_ne C.1 (tgt := 77) dX0_treatEachNth_47 (by decide) hc2 hc3 (fun hc => ?_) (fun hc => ?_)
  · have h := h.1 hc
    refine g_aload_n C.1 2 dX0_treatEachNth_77 rfl rfl ?_
    refine g_iload C.1 5 dX0_treatEachNth_78 rfl ?_
    obtain ⟨hp4, h⟩ := h
    obtain ⟨hd5, h⟩ := h
    refine c_callV C.1 C.2.2.2.1 C.2.2.2.2 (h_append K.l y σ v2 v5 hp4) (ci := 4) (q := (RX3, TX3, 2)) rfl (c_recv rfl ⟨hd5.1, hd5.2, rfl⟩) (fun ht => cwV 1 ht gX0_treatEachNth_X3_append rfl rfl rfl (by decide +kernel) ⟨Nat.le_of_ble_eq_true rfl, Nat.le_of_ble_eq_true rfl⟩) rfl rfl (Nat.le_of_ble_eq_true rfl) ⟨Nat.le_of_ble_eq_true rfl, Nat.le_of_ble_eq_true rfl⟩ dX0_treatEachNth_80 (fun r6 σ7 hq => ?_)
    have h := h r6 σ7 hq
    show G K (CL y σ7) (0, 0) [(0, .ref (y.1 16 v0 v0b)), (1, .ref (y.1 8 v1 0)), (2, .ref (y.1 8 v2 0)), (3, .int (iZ v3)), (4, .int (iZ v4)), (5, .int (iZ v5))] 83 []
    refine g_iinc C.1 (z := v4) (w := 1) (loc' := [(4, .int (iZ (v4 + 1))), (0, .ref (y.1 16 v0 v0b)), (1, .ref (y.1 8 v1 0)), (2, .ref (y.1 8 v2 0)), (3, .int (iZ v3)), (5, .int (iZ v5))]) 4 C.2.1 dX0_treatEachNth_83 rfl (by decide) rfl ?_
    refine g_goto C.1 (tgt := 5) dX0_treatEachNth_86 (by decide) ?_
    exact g_sub [1, 2, 3, 4, 0] rfl h
  · have h := h.2 hc
    refine g_iload_n C.1 3 dX0_treatEachNth_50 rfl rfl ?_
    refine g_aload_n C.1 0 dX0_treatEachNth_51 rfl rfl ?_
    refine c_get C.1 (ci := 1) (q := (RX0, TX0, 4)) rfl rfl inX0_treatEachNth_X0 3 (by decide) (v := .int (iZ (σ 14 v0 v0b 3))) rfl lk_X0_treatEachNth_f21 rfl dX0_treatEachNth_52 ⟨hd1.1.1, hd1.1.2, hd1.2.1, hd1.2.2⟩ ?_
    obtain ⟨hc8, h⟩ := h
    obtain ⟨hc9, h⟩ := h
    refine g_icmp_ne C.1 (tgt := 77) dX0_treatEachNth_55 (by decide) hc8 hc9 (fun hc => ?_) (fun hc => ?_)
    · have h := h.1 hc
      refine g_aload_n C.1 2 dX0_treatEachNth_77 rfl rfl ?_
      refine g_iload C.1 5 dX0_treatEachNth_78 rfl ?_
      obtain ⟨hp10, h⟩ := h
      obtain ⟨hd11, h⟩ := h
      refine c_callV C.1 C.2.2.2.1 C.2.2.2.2 (h_append K.l y σ v2 v5 hp10) (ci := 4) (q := (RX3, TX3, 2)) rfl (c_recv rfl ⟨hd11.1, hd11.2, rfl⟩) (fun ht => cwV 1 ht gX0_treatEachNth_X3_append rfl rfl rfl (by decide +kernel) ⟨Nat.le_of_ble_eq_true rfl, Nat.le_of_ble_eq_true rfl⟩) rfl rfl (Nat.le_of_ble_eq_true rfl) ⟨Nat.le_of_ble_eq_true rfl, Nat.le_of_ble_eq_true rfl⟩ dX0_treatEachNth_80 (fun r12 σ13 hq => ?_)
      have h := h r12 σ13 hq
      show G K (CL y σ13) (0, 0) [(0, .ref (y.1 16 v0 v0b)), (1, .ref (y.1 8 v1 0)), (2, .ref (y.1 8 v2 0)), (3, .int (iZ v3)), (4, .int (iZ v4)), (5, .int (iZ v5))] 83 []
      refine g_iinc C.1 (z := v4) (w := 1) (loc' := [(4, .int (iZ (v4 + 1))), (0, .ref (y.1 16 v0 v0b)), (1, .ref (y.1 8 v1 0)), (2, .ref (y.1 8 v2 0)), (3, .int (iZ v3)), (5, .int (iZ v5))]) 4 C.2.1 dX0_treatEachNth_83 rfl (by decide) rfl ?_
      refine g_goto C.1 (tgt := 5) dX0_treatEachNth_86 (by decide) ?_
      exact g_sub [1, 2, 3, 4, 0] rfl h
    · have h := h.2 hc
      refine g_iconst C.1 (z := 0) dX0_treatEachNth_58 ?_
      refine g_istore_n C.1 (i := 3) (loc' := [(3, .int (iZ 0)), (0, .ref (y.1 16 v0 v0b)), (1, .ref (y.1 8 v1 0)), (2, .ref (y.1 8 v2 0)), (4, .int (iZ v4)), (5, .int (iZ v5))]) C.2.1 dX0_treatEachNth_59 rfl (by decide) rfl ?_
      refine g_aload_n C.1 1 dX0_treatEachNth_60 rfl rfl ?_
      refine g_iload C.1 5 dX0_treatEachNth_61 rfl ?_
      refine g_aload_n C.1 3 dX0_treatEachNth_63 rfl rfl ?_
      refine g_aload_n C.1 2 dX0_treatEachNth_64 rfl rfl ?_
      obtain ⟨hd14, h⟩ := h
      refine c_get C.1 (ci := 4) (q := (RX3, TX3, 2)) rfl rfl inX0_treatEachNth_X3 1 (by decide) (v := .int (iZ (σ 5 v1 0 0))) rfl lk_X0_treatEachNth_f24 rfl dX0_treatEachNth_65 ⟨hd14.1, hd14.2, rfl⟩ ?_
      refine g_iload C.1 4 dX0_treatEachNth_68 rfl ?_
      refine g_isub C.1 (x := σ 5 v1 0 0) (y := v4) dX0_treatEachNth_70 ?_
      obtain ⟨hp15, h⟩ := h
      refine c_callV C.1 C.2.2.2.1 C.2.2.2.2 (h_treat K.l y σ v0 v0b v5 v2 ((σ 5 v1 0 0) - v4) hp15) (ci := 1) (q := (RX0, TX0, 4)) rfl (c_recv rfl ⟨hd1.1.1, hd1.1.2, hd1.2.1, hd1.2.2⟩) (fun ht => cwV 3 ht gX0_treatEachNth_X0_treat rfl rfl rfl (by decide +kernel) ⟨Nat.le_of_ble_eq_true rfl, Nat.le_of_ble_eq_true rfl⟩) rfl rfl (Nat.le_of_ble_eq_true rfl) ⟨Nat.le_of_ble_eq_true rfl, Nat.le_of_ble_eq_true rfl⟩ dX0_treatEachNth_71 (fun r16 σ17 hq => ?_)
      have h := h r16 σ17 hq
      show G K (CL y σ17) (0, 0) [(3, .int (iZ 0)), (0, .ref (y.1 16 v0 v0b)), (1, .ref (y.1 8 v1 0)), (2, .ref (y.1 8 v2 0)), (4, .int (iZ v4)), (5, .int (iZ v5))] 74 []
      refine g_goto C.1 (tgt := 83) dX0_treatEachNth_74 (by decide) ?_
      refine g_iinc C.1 (z := v4) (w := 1) (loc' := [(4, .int (iZ (v4 + 1))), (3, .int (iZ 0)), (0, .ref (y.1 16 v0 v0b)), (1, .ref (y.1 8 v1 0)), (2, .ref (y.1 8 v2 0)), (5, .int (iZ v5))]) 4 C.2.1 dX0_treatEachNth_83 rfl (by decide) rfl ?_
      refine g_goto C.1 (tgt := 5) dX0_treatEachNth_86 (by decide) ?_
      exact g_sub [2, 3, 4, 1, 0] rfl h
theorem m_X0_treatEachNth {l : Launch} {y : LT} {σ : CS} {v0 v0b v1 v2 : Int} {post : Int → CS → Prop} (h : ∀ K : KT, K.l = l → C_X0_treatEachNth K y post → P_X0_treatEachNth_0 K y σ v0 v0b v1 v2) : cMet l yX0_treatEachNth wsX0_treatEachNth rm_X0_treatEachNth y.2.2 (CL y) rkV [.ref (y.1 16 v0 v0b), .ref (y.1 8 v1 0), .ref (y.1 8 v2 0)] σ post :=
  cMet.of (maxL := 6) (by decide +kernel) rfl (Nat.le_of_ble_eq_true rfl) (fun K h1 h2 h3 h4 h5 h6 _ => h K h1 ⟨h2, h3, h4, h5, h6⟩)
def H_X0_treatEachNth (p : CS → Int → Int → Int → Int → Prop) (o : CS → Int → Int → Int → Int → Int → CS → Prop) : Prop := ∀ (l : Launch) (y : LT) (σ : CS) (v0 v0b v1 v2 : Int), p σ v0 v0b v1 v2 → cMet l yX0_treatEachNth wsX0_treatEachNth rm_X0_treatEachNth y.2.2 (CL y) rkV [.ref (y.1 16 v0 v0b), .ref (y.1 8 v1 0), .ref (y.1 8 v2 0)] σ (fun r σ' => o σ v0 v0b v1 v2 r σ')

/-! X0_nextWithin -/
abbrev rm_X0_nextWithin : Room := { frames := 1, cells := 0, slots := 0, locals := 22 }
set_option maxRecDepth 20000 in
theorem inX0_nextWithin_X0 : ∀ w ∈ wsX00, w ∈ wsX0_nextWithin := by decide +kernel
theorem lk_X0_nextWithin_f15 : Cond.fieldLink RX0 15 "CopyHouse$Habit" "a" "I" ∈ wsX0_nextWithin := List.mem_of_getElem? (i := 1) (by decide +kernel)
theorem lk_X0_nextWithin_f21 : Cond.fieldLink RX0 21 "CopyHouse$Habit" "n" "I" ∈ wsX0_nextWithin := List.mem_of_getElem? (i := 2) (by decide +kernel)
def C_X0_nextWithin (K : KT) (y : LT) (post : Int → CS → Prop) : Prop := kOK K cX0_nextWithin RX0 wsX0_nextWithin (some .int) rm_X0_nextWithin ∧ K.nL = 4 ∧ kQ K (CL y) rkI post rm_X0_nextWithin ∧ SF y.2.2 K.A K.s K.s.heap ∧ K.l.stackTraces = false
def P_X0_nextWithin_0 (K : KT) (y : LT) (σ : CS) (v0 v0b v1 v2 : Int) : Prop := G K (CL y σ) (0, 0) [(0, .ref (y.1 16 v0 v0b)), (1, .ref (y.1 8 v1 0)), (2, .int (iZ v2))] 0 []
def P_X0_nextWithin_1 (K : KT) (y : LT) (σ : CS) (v0 v0b v1 v2 v3 : Int) : Prop := G K (CL y σ) (0, 0) [(0, .ref (y.1 16 v0 v0b)), (1, .ref (y.1 8 v1 0)), (2, .int (iZ v2)), (3, .int (iZ v3))] 19 []
set_option maxRecDepth 100000 in
set_option maxHeartbeats 4000000 in
theorem b_X0_nextWithin_0 {K : KT} {y : LT} {post : Int → CS → Prop} (C : C_X0_nextWithin K y post) {p_has : CS → Int → Int → Int → Prop} {f_has : CS → Int → Int → Int → Bool} (h_has : H_X3_has p_has f_has) {σ : CS} {v0 v0b v1 v2 : Int} (h : ((0 ≤ v0 ∧ v0 < (σ 22 0 0 0)) ∧ (0 ≤ v0b ∧ v0b < (σ 23 v0 0 0))) ∧ (p_has σ v1 v2 (97 + (σ 14 v0 v0b 1))) ∧ (0 ≤ v1 ∧ v1 < (σ 21 0 0 0) + 3) ∧ ((¬ (f_has σ v1 v2 (97 + (σ 14 v0 v0b 1)) = true) → post ((-1)) σ) ∧ (f_has σ v1 v2 (97 + (σ 14 v0 v0b 1)) = true → P_X0_nextWithin_1 K y σ v0 v0b v1 v2 (v2 + 1)))) : P_X0_nextWithin_0 K y σ v0 v0b v1 v2 := by
  refine g_aload_n C.1 1 dX0_nextWithin_0 rfl rfl ?_
  refine g_iload_n C.1 2 dX0_nextWithin_1 rfl rfl ?_
  refine g_bipush C.1 (z := 97) dX0_nextWithin_2 (by decide) ?_
  refine g_aload_n C.1 0 dX0_nextWithin_4 rfl rfl ?_
  obtain ⟨hd1, h⟩ := h
  refine c_get C.1 (ci := 1) (q := (RX0, TX0, 4)) rfl rfl inX0_nextWithin_X0 1 (by decide) (v := .int (iZ (σ 14 v0 v0b 1))) rfl lk_X0_nextWithin_f15 rfl dX0_nextWithin_5 ⟨hd1.1.1, hd1.1.2, hd1.2.1, hd1.2.2⟩ ?_
  refine g_iadd C.1 (x := 97) (y := σ 14 v0 v0b 1) dX0_nextWithin_8 ?_
  obtain ⟨hp2, h⟩ := h
  obtain ⟨hd3, h⟩ := h
  refine c_callV C.1 C.2.2.2.1 C.2.2.2.2 (h_has K.l y σ v1 v2 (97 + (σ 14 v0 v0b 1)) hp2) (ci := 4) (q := (RX3, TX3, 2)) rfl (c_recv rfl ⟨hd3.1, hd3.2, rfl⟩) (fun ht => cwV 2 ht gX0_nextWithin_X3_has rfl rfl rfl (by decide +kernel) ⟨Nat.le_of_ble_eq_true rfl, Nat.le_of_ble_eq_true rfl⟩) rfl rfl (Nat.le_of_ble_eq_true rfl) ⟨Nat.le_of_ble_eq_true rfl, Nat.le_of_ble_eq_true rfl⟩ dX0_nextWithin_9 (fun r σ9 hq => ?_)
  rw [hq.1, hq.2]
  show G K (CL y σ) (0, 0) [(0, .ref (y.1 16 v0 v0b)), (1, .ref (y.1 8 v1 0)), (2, .int (iZ v2))] 12 [.int (iZ (if f_has σ v1 v2 (97 + (σ 14 v0 v0b 1)) = true then 1 else 0))]
  refine g_ifb_eq C.1 (tgt := 52) dX0_nextWithin_12 (by decide) (fun hc => ?_) (fun hc => ?_)
  · have h := h.1 hc
    refine g_iconst C.1 (z := (-1)) dX0_nextWithin_52 ?_
    exact x_iret C.1 C.2.2.1 rfl ⟨Nat.le_of_ble_eq_true rfl, Nat.le_of_ble_eq_true rfl⟩ dX0_nextWithin_53 h
  · have h := h.2 hc
    refine g_iload_n C.1 2 dX0_nextWithin_15 rfl rfl ?_
    refine g_iconst C.1 (z := 1) dX0_nextWithin_16 ?_
    refine g_iadd C.1 (x := v2) (y := 1) dX0_nextWithin_17 ?_
    refine g_istore_n C.1 (i := 3) (loc' := [(3, .int (iZ (v2 + 1))), (0, .ref (y.1 16 v0 v0b)), (1, .ref (y.1 8 v1 0)), (2, .int (iZ v2))]) C.2.1 dX0_nextWithin_18 rfl (by decide) rfl ?_
    exact g_sub [1, 2, 3, 0] rfl h
set_option maxRecDepth 100000 in
set_option maxHeartbeats 4000000 in
theorem b_X0_nextWithin_1 {K : KT} {y : LT} {post : Int → CS → Prop} (C : C_X0_nextWithin K y post) {p_has : CS → Int → Int → Int → Prop} {f_has : CS → Int → Int → Int → Bool} (h_has : H_X3_has p_has f_has) {σ : CS} {v0 v0b v1 v2 v3 : Int} (h : ((0 ≤ v0 ∧ v0 < (σ 22 0 0 0)) ∧ (0 ≤ v0b ∧ v0b < (σ 23 v0 0 0))) ∧ (-2147483648 ≤ (v3 - v2) ∧ (v3 - v2) < 2147483648) ∧ (-2147483648 ≤ (σ 14 v0 v0b 3) ∧ (σ 14 v0 v0b 3) < 2147483648) ∧ (((σ 14 v0 v0b 3) < (v3 - v2) → post ((-1)) σ) ∧ (¬ (σ 14 v0 v0b 3) < (v3 - v2) → (p_has σ v1 v3 (97 + (σ 14 v0 v0b 1))) ∧ (0 ≤ v1 ∧ v1 < (σ 21 0 0 0) + 3) ∧ ((¬ (f_has σ v1 v3 (97 + (σ 14 v0 v0b 1)) = true) → P_X0_nextWithin_1 K y σ v0 v0b v1 v2 (v3 + 1)) ∧ (f_has σ v1 v3 (97 + (σ 14 v0 v0b 1)) = true → post v3 σ))))) : P_X0_nextWithin_1 K y σ v0 v0b v1 v2 v3 := by
  refine g_iload_n C.1 3 dX0_nextWithin_19 rfl rfl ?_
  refine g_iload_n C.1 2 dX0_nextWithin_20 rfl rfl ?_
  refine g_isub C.1 (x := v3) (y := v2) dX0_nextWithin_21 ?_
  refine g_aload_n C.1 0 dX0_nextWithin_22 rfl rfl ?_
  obtain ⟨hd1, h⟩ := h
  refine c_get C.1 (ci := 1) (q := (RX0, TX0, 4)) rfl rfl inX0_nextWithin_X0 3 (by decide) (v := .int (iZ (σ 14 v0 v0b 3))) rfl lk_X0_nextWithin_f21 rfl dX0_nextWithin_23 ⟨hd1.1.1, hd1.1.2, hd1.2.1, hd1.2.2⟩ ?_
  obtain ⟨hc2, h⟩ := h
  obtain ⟨hc3, h⟩ := h
  refine g_icmp_gt C.1 (tgt := 52) dX0_nextWithin_26 (by decide) hc2 hc3 (fun hc => ?_) (fun hc => ?_)
  · have h := h.1 hc
    refine g_iconst C.1 (z := (-1)) dX0_nextWithin_52 ?_
    exact x_iret C.1 C.2.2.1 rfl ⟨Nat.le_of_ble_eq_true rfl, Nat.le_of_ble_eq_true rfl⟩ dX0_nextWithin_53 h
  · have h := h.2 hc
    refine g_aload_n C.1 1 dX0_nextWithin_29 rfl rfl ?_
    refine g_iload_n C.1 3 dX0_nextWithin_30 rfl rfl ?_
    refine g_bipush C.1 (z := 97) dX0_nextWithin_31 (by decide) ?_
    refine g_aload_n C.1 0 dX0_nextWithin_33 rfl rfl ?_
    refine c_get C.1 (ci := 1) (q := (RX0, TX0, 4)) rfl rfl inX0_nextWithin_X0 1 (by decide) (v := .int (iZ (σ 14 v0 v0b 1))) rfl lk_X0_nextWithin_f15 rfl dX0_nextWithin_34 ⟨hd1.1.1, hd1.1.2, hd1.2.1, hd1.2.2⟩ ?_
    refine g_iadd C.1 (x := 97) (y := σ 14 v0 v0b 1) dX0_nextWithin_37 ?_
    obtain ⟨hp4, h⟩ := h
    obtain ⟨hd5, h⟩ := h
    refine c_callV C.1 C.2.2.2.1 C.2.2.2.2 (h_has K.l y σ v1 v3 (97 + (σ 14 v0 v0b 1)) hp4) (ci := 4) (q := (RX3, TX3, 2)) rfl (c_recv rfl ⟨hd5.1, hd5.2, rfl⟩) (fun ht => cwV 2 ht gX0_nextWithin_X3_has rfl rfl rfl (by decide +kernel) ⟨Nat.le_of_ble_eq_true rfl, Nat.le_of_ble_eq_true rfl⟩) rfl rfl (Nat.le_of_ble_eq_true rfl) ⟨Nat.le_of_ble_eq_true rfl, Nat.le_of_ble_eq_true rfl⟩ dX0_nextWithin_38 (fun r σ9 hq => ?_)
    rw [hq.1, hq.2]
    show G K (CL y σ) (0, 0) [(0, .ref (y.1 16 v0 v0b)), (1, .ref (y.1 8 v1 0)), (2, .int (iZ v2)), (3, .int (iZ v3))] 41 [.int (iZ (if f_has σ v1 v3 (97 + (σ 14 v0 v0b 1)) = true then 1 else 0))]
    refine g_ifb_eq C.1 (tgt := 46) dX0_nextWithin_41 (by decide) (fun hc => ?_) (fun hc => ?_)
    · have h := h.1 hc
      refine g_iinc C.1 (z := v3) (w := 1) (loc' := [(3, .int (iZ (v3 + 1))), (0, .ref (y.1 16 v0 v0b)), (1, .ref (y.1 8 v1 0)), (2, .int (iZ v2))]) 3 C.2.1 dX0_nextWithin_46 rfl (by decide) rfl ?_
      refine g_goto C.1 (tgt := 19) dX0_nextWithin_49 (by decide) ?_
      exact g_sub [1, 2, 3, 0] rfl h
    · have h := h.2 hc
      refine g_iload_n C.1 3 dX0_nextWithin_44 rfl rfl ?_
      exact x_iret C.1 C.2.2.1 rfl ⟨Nat.le_of_ble_eq_true rfl, Nat.le_of_ble_eq_true rfl⟩ dX0_nextWithin_45 h
theorem m_X0_nextWithin {l : Launch} {y : LT} {σ : CS} {v0 v0b v1 v2 : Int} {post : Int → CS → Prop} (h : ∀ K : KT, K.l = l → C_X0_nextWithin K y post → P_X0_nextWithin_0 K y σ v0 v0b v1 v2) : cMet l yX0_nextWithin wsX0_nextWithin rm_X0_nextWithin y.2.2 (CL y) rkI [.ref (y.1 16 v0 v0b), .ref (y.1 8 v1 0), .int (iZ v2)] σ post :=
  cMet.of (maxL := 4) (by decide +kernel) rfl (Nat.le_of_ble_eq_true rfl) (fun K h1 h2 h3 h4 h5 h6 _ => h K h1 ⟨h2, h3, h4, h5, h6⟩)
def H_X0_nextWithin (p : CS → Int → Int → Int → Int → Prop) (f : CS → Int → Int → Int → Int → Int) : Prop := ∀ (l : Launch) (y : LT) (σ : CS) (v0 v0b v1 v2 : Int), p σ v0 v0b v1 v2 → cMet l yX0_nextWithin wsX0_nextWithin rm_X0_nextWithin y.2.2 (CL y) rkI [.ref (y.1 16 v0 v0b), .ref (y.1 8 v1 0), .int (iZ v2)] σ (fun r σ' => r = f σ v0 v0b v1 v2 ∧ σ' = σ)

/-! X0_skipOnce -/
abbrev rm_X0_skipOnce : Room := { frames := 2, cells := 0, slots := 0, locals := 45 }
set_option maxRecDepth 20000 in
theorem inX0_skipOnce_X3 : ∀ w ∈ wsX30, w ∈ wsX0_skipOnce := by decide +kernel
theorem lk_X0_skipOnce_f24 : Cond.fieldLink RX0 24 "CopyHouse$Text" "length" "I" ∈ wsX0_skipOnce := List.mem_of_getElem? (i := 1) (by decide +kernel)
theorem lk_X0_skipOnce_f39 : Cond.fieldLink RX0 39 "CopyHouse$Text" "letters" "[B" ∈ wsX0_skipOnce := List.mem_of_getElem? (i := 2) (by decide +kernel)
def C_X0_skipOnce (K : KT) (y : LT) (post : Int → CS → Prop) : Prop := kOK K cX0_skipOnce RX0 wsX0_skipOnce none rm_X0_skipOnce ∧ K.nL = 6 ∧ kQ K (CL y) rkV post rm_X0_skipOnce ∧ SF y.2.2 K.A K.s K.s.heap ∧ K.l.stackTraces = false
def P_X0_skipOnce_0 (K : KT) (y : LT) (σ : CS) (v0 v0b v1 v2 : Int) : Prop := G K (CL y σ) (0, 0) [(0, .ref (y.1 16 v0 v0b)), (1, .ref (y.1 8 v1 0)), (2, .ref (y.1 8 v2 0))] 0 []
def P_X0_skipOnce_1 (K : KT) (y : LT) (σ : CS) (v0 v0b v1 v2 v3 v4 : Int) : Prop := G K (CL y σ) (0, 0) [(0, .ref (y.1 16 v0 v0b)), (1, .ref (y.1 8 v1 0)), (2, .ref (y.1 8 v2 0)), (3, .int (iZ v3)), (4, .int (iZ v4))] 5 []
def P_X0_skipOnce_2 (K : KT) (y : LT) (σ : CS) (v0 v0b v1 v2 v3 v4 s0 : Int) : Prop := G K (CL y σ) (0, 0) [(0, .ref (y.1 16 v0 v0b)), (1, .ref (y.1 8 v1 0)), (2, .ref (y.1 8 v2 0)), (3, .int (iZ v3)), (4, .int (iZ v4))] 40 [.int (iZ s0)]
set_option maxRecDepth 100000 in
set_option maxHeartbeats 4000000 in
theorem b_X0_skipOnce_0 {K : KT} {y : LT} {post : Int → CS → Prop} (C : C_X0_skipOnce K y post) {σ : CS} {v0 v0b v1 v2 : Int} (h : P_X0_skipOnce_1 K y σ v0 v0b v1 v2 0 0) : P_X0_skipOnce_0 K y σ v0 v0b v1 v2 := by
  refine g_iconst C.1 (z := 0) dX0_skipOnce_0 ?_
  refine g_istore_n C.1 (i := 3) (loc' := [(3, .int (iZ 0)), (0, .ref (y.1 16 v0 v0b)), (1, .ref (y.1 8 v1 0)), (2, .ref (y.1 8 v2 0))]) C.2.1 dX0_skipOnce_1 rfl (by decide) rfl ?_
  refine g_iconst C.1 (z := 0) dX0_skipOnce_2 ?_
  refine g_istore C.1 (i := 4) (loc' := [(4, .int (iZ 0)), (3, .int (iZ 0)), (0, .ref (y.1 16 v0 v0b)), (1, .ref (y.1 8 v1 0)), (2, .ref (y.1 8 v2 0))]) C.2.1 dX0_skipOnce_3 (by decide) rfl ?_
  exact g_sub [2, 3, 4, 1, 0] rfl h
set_option maxRecDepth 100000 in
set_option maxHeartbeats 4000000 in
theorem b_X0_skipOnce_1 {K : KT} {y : LT} {post : Int → CS → Prop} (C : C_X0_skipOnce K y post) {p_append : CS → Int → Int → Prop} {o_append : CS → Int → Int → Int → CS → Prop} (h_append : H_X3_append p_append o_append) {p_nextWithin : CS → Int → Int → Int → Int → Prop} {f_nextWithin : CS → Int → Int → Int → Int → Int} (h_nextWithin : H_X0_nextWithin p_nextWithin f_nextWithin) {σ : CS} {v0 v0b v1 v2 v3 v4 : Int} (h : (0 ≤ v1 ∧ v1 < (σ 21 0 0 0) + 3) ∧ (-2147483648 ≤ v4 ∧ v4 < 2147483648) ∧ (-2147483648 ≤ (σ 5 v1 0 0) ∧ (σ 5 v1 0 0) < 2147483648) ∧ (((σ 5 v1 0 0) ≤ v4 → post 0 σ) ∧ (¬ (σ 5 v1 0 0) ≤ v4 → (0 ≤ v4 ∧ v4 < 120) ∧ (p_append σ v2 (σ 6 v1 v4 0)) ∧ (0 ≤ v2 ∧ v2 < (σ 21 0 0 0) + 3) ∧ ∀ (r7 : Int) (σ8 : CS), o_append σ v2 (σ 6 v1 v4 0) r7 σ8 → (-2147483648 ≤ v3 ∧ v3 < 2147483648) ∧ ((v3 = 0 → (p_nextWithin σ8 v0 v0b v1 v4) ∧ ((0 ≤ v0 ∧ v0 < (σ8 22 0 0 0)) ∧ (0 ≤ v0b ∧ v0b < (σ8 23 v0 0 0))) ∧ P_X0_skipOnce_2 K y σ8 v0 v0b v1 v2 v3 v4 (f_nextWithin σ8 v0 v0b v1 v4)) ∧ (¬ v3 = 0 → P_X0_skipOnce_2 K y σ8 v0 v0b v1 v2 v3 v4 ((-1))))))) : P_X0_skipOnce_1 K y σ v0 v0b v1 v2 v3 v4 := by
  refine g_iload C.1 4 dX0_skipOnce_5 rfl ?_
  refine g_aload_n C.1 1 dX0_skipOnce_7 rfl rfl ?_
  obtain ⟨hd1, h⟩ := h
  refine c_get C.1 (ci := 4) (q := (RX3, TX3, 2)) rfl rfl inX0_skipOnce_X3 1 (by decide) (v := .int (iZ (σ 5 v1 0 0))) rfl lk_X0_skipOnce_f24 rfl dX0_skipOnce_8 ⟨hd1.1, hd1.2, rfl⟩ ?_
  obtain ⟨hc2, h⟩ := h
  obtain ⟨hc3, h⟩ := h
  refine g_icmp_ge C.1 (tgt := 61) dX0_skipOnce_11 (by decide) hc2 hc3 (fun hc => ?_) (fun hc => ?_)
  · have h := h.1 hc
    exact x_vret C.1 C.2.2.1 rfl ⟨Nat.le_of_ble_eq_true rfl, Nat.le_of_ble_eq_true rfl⟩ dX0_skipOnce_61 h
  · have h := h.2 hc
    refine g_aload_n C.1 2 dX0_skipOnce_14 rfl rfl ?_
    refine g_aload_n C.1 1 dX0_skipOnce_15 rfl rfl ?_
    refine c_get C.1 (ci := 4) (q := (RX3, TX3, 2)) rfl rfl inX0_skipOnce_X3 0 (by decide) (v := .ref (y.1 9 v1 0)) rfl lk_X0_skipOnce_f39 rfl dX0_skipOnce_16 ⟨hd1.1, hd1.2, rfl⟩ ?_
    refine g_iload C.1 4 dX0_skipOnce_19 rfl ?_
    obtain ⟨hi4, h⟩ := h
    refine c_bald C.1 (N := 120) (f := fun p => σ 6 v1 p 0) (e := v4) rfl rfl rfl (by decide) dX0_skipOnce_21 ⟨hd1.1, hd1.2, rfl⟩ hi4 ?_
    show G K (CL y σ) (0, 0) [(0, .ref (y.1 16 v0 v0b)), (1, .ref (y.1 8 v1 0)), (2, .ref (y.1 8 v2 0)), (3, .int (iZ v3)), (4, .int (iZ v4))] 22 [.int (iZ (σ 6 v1 v4 0)), .ref (y.1 8 v2 0)]
    obtain ⟨hp5, h⟩ := h
    obtain ⟨hd6, h⟩ := h
    refine c_callV C.1 C.2.2.2.1 C.2.2.2.2 (h_append K.l y σ v2 (σ 6 v1 v4 0) hp5) (ci := 4) (q := (RX3, TX3, 2)) rfl (c_recv rfl ⟨hd6.1, hd6.2, rfl⟩) (fun ht => cwV 1 ht gX0_skipOnce_X3_append rfl rfl rfl (by decide +kernel) ⟨Nat.le_of_ble_eq_true rfl, Nat.le_of_ble_eq_true rfl⟩) rfl rfl (Nat.le_of_ble_eq_true rfl) ⟨Nat.le_of_ble_eq_true rfl, Nat.le_of_ble_eq_true rfl⟩ dX0_skipOnce_22 (fun r7 σ8 hq => ?_)
    have h := h r7 σ8 hq
    show G K (CL y σ8) (0, 0) [(0, .ref (y.1 16 v0 v0b)), (1, .ref (y.1 8 v1 0)), (2, .ref (y.1 8 v2 0)), (3, .int (iZ v3)), (4, .int (iZ v4))] 25 []
    refine g_iload_n C.1 3 dX0_skipOnce_25 rfl rfl ?_
    obtain ⟨hc9, h⟩ := h
    refine g_if_eq C.1 (tgt := 33) dX0_skipOnce_26 (by decide) hc9 (fun hc => ?_) (fun hc => ?_)
    · have h := h.1 hc
      refine g_aload_n C.1 0 dX0_skipOnce_33 rfl rfl ?_
      refine g_aload_n C.1 1 dX0_skipOnce_34 rfl rfl ?_
      refine g_iload C.1 4 dX0_skipOnce_35 rfl ?_
      obtain ⟨hp10, h⟩ := h
      obtain ⟨hd11, h⟩ := h
      refine c_callV C.1 C.2.2.2.1 C.2.2.2.2 (h_nextWithin K.l y σ8 v0 v0b v1 v4 hp10) (ci := 1) (q := (RX0, TX0, 4)) rfl (c_recv rfl ⟨hd11.1.1, hd11.1.2, hd11.2.1, hd11.2.2⟩) (fun ht => cwV 2 ht gX0_skipOnce_X0_nextWithin rfl rfl rfl (by decide +kernel) ⟨Nat.le_of_ble_eq_true rfl, Nat.le_of_ble_eq_true rfl⟩) rfl rfl (Nat.le_of_ble_eq_true rfl) ⟨Nat.le_of_ble_eq_true rfl, Nat.le_of_ble_eq_true rfl⟩ dX0_skipOnce_37 (fun r σ9 hq => ?_)
      rw [hq.1, hq.2]
      show G K (CL y σ8) (0, 0) [(0, .ref (y.1 16 v0 v0b)), (1, .ref (y.1 8 v1 0)), (2, .ref (y.1 8 v2 0)), (3, .int (iZ v3)), (4, .int (iZ v4))] 40 [.int (iZ (f_nextWithin σ8 v0 v0b v1 v4))]
      exact h
    · have h := h.2 hc
      refine g_iconst C.1 (z := (-1)) dX0_skipOnce_29 ?_
      refine g_goto C.1 (tgt := 40) dX0_skipOnce_30 (by decide) ?_
      exact h
set_option maxRecDepth 100000 in
set_option maxHeartbeats 4000000 in
theorem b_X0_skipOnce_2 {K : KT} {y : LT} {post : Int → CS → Prop} (C : C_X0_skipOnce K y post) {σ : CS} {v0 v0b v1 v2 v3 v4 s0 : Int} (h : (-2147483648 ≤ s0 ∧ s0 < 2147483648) ∧ (-2147483648 ≤ v4 ∧ v4 < 2147483648) ∧ ((s0 ≤ v4 → P_X0_skipOnce_1 K y σ v0 v0b v1 v2 v3 (v4 + 1)) ∧ (¬ s0 ≤ v4 → P_X0_skipOnce_1 K y σ v0 v0b v1 v2 1 (s0 + 1)))) : P_X0_skipOnce_2 K y σ v0 v0b v1 v2 v3 v4 s0 := by
  refine g_istore C.1 (i := 5) (loc' := [(5, .int (iZ s0)), (0, .ref (y.1 16 v0 v0b)), (1, .ref (y.1 8 v1 0)), (2, .ref (y.1 8 v2 0)), (3, .int (iZ v3)), (4, .int (iZ v4))]) C.2.1 dX0_skipOnce_40 (by decide) rfl ?_
  refine g_iload C.1 0 dX0_skipOnce_42 rfl ?_
  refine g_iload C.1 5 dX0_skipOnce_44 rfl ?_
  obtain ⟨hc1, h⟩ := h
  obtain ⟨hc2, h⟩ := h
  refine g_icmp_le C.1 (tgt := 55) dX0_skipOnce_46 (by decide) hc1 hc2 (fun hc => ?_) (fun hc => ?_)
  · have h := h.1 hc
    refine g_iinc C.1 (z := v4) (w := 1) (loc' := [(4, .int (iZ (v4 + 1))), (5, .int (iZ s0)), (0, .ref (y.1 16 v0 v0b)), (1, .ref (y.1 8 v1 0)), (2, .ref (y.1 8 v2 0)), (3, .int (iZ v3))]) 5 C.2.1 dX0_skipOnce_55 rfl (by decide) rfl ?_
    refine g_goto C.1 (tgt := 5) dX0_skipOnce_58 (by decide) ?_
    exact g_sub [2, 3, 4, 5, 0] rfl h
  · have h := h.2 hc
    refine g_iload C.1 0 dX0_skipOnce_49 rfl ?_
    refine g_istore C.1 (i := 4) (loc' := [(4, .int (iZ s0)), (5, .int (iZ s0)), (0, .ref (y.1 16 v0 v0b)), (1, .ref (y.1 8 v1 0)), (2, .ref (y.1 8 v2 0)), (3, .int (iZ v3))]) C.2.1 dX0_skipOnce_51 (by decide) rfl ?_
    refine g_iconst C.1 (z := 1) dX0_skipOnce_53 ?_
    refine g_istore_n C.1 (i := 3) (loc' := [(3, .int (iZ 1)), (4, .int (iZ s0)), (5, .int (iZ s0)), (0, .ref (y.1 16 v0 v0b)), (1, .ref (y.1 8 v1 0)), (2, .ref (y.1 8 v2 0))]) C.2.1 dX0_skipOnce_54 rfl (by decide) rfl ?_
    refine g_iinc C.1 (z := s0) (w := 1) (loc' := [(4, .int (iZ (s0 + 1))), (3, .int (iZ 1)), (5, .int (iZ s0)), (0, .ref (y.1 16 v0 v0b)), (1, .ref (y.1 8 v1 0)), (2, .ref (y.1 8 v2 0))]) 1 C.2.1 dX0_skipOnce_55 rfl (by decide) rfl ?_
    refine g_goto C.1 (tgt := 5) dX0_skipOnce_58 (by decide) ?_
    exact g_sub [3, 4, 5, 1, 0] rfl h
theorem m_X0_skipOnce {l : Launch} {y : LT} {σ : CS} {v0 v0b v1 v2 : Int} {post : Int → CS → Prop} (h : ∀ K : KT, K.l = l → C_X0_skipOnce K y post → P_X0_skipOnce_0 K y σ v0 v0b v1 v2) : cMet l yX0_skipOnce wsX0_skipOnce rm_X0_skipOnce y.2.2 (CL y) rkV [.ref (y.1 16 v0 v0b), .ref (y.1 8 v1 0), .ref (y.1 8 v2 0)] σ post :=
  cMet.of (maxL := 6) (by decide +kernel) rfl (Nat.le_of_ble_eq_true rfl) (fun K h1 h2 h3 h4 h5 h6 _ => h K h1 ⟨h2, h3, h4, h5, h6⟩)
def H_X0_skipOnce (p : CS → Int → Int → Int → Int → Prop) (o : CS → Int → Int → Int → Int → Int → CS → Prop) : Prop := ∀ (l : Launch) (y : LT) (σ : CS) (v0 v0b v1 v2 : Int), p σ v0 v0b v1 v2 → cMet l yX0_skipOnce wsX0_skipOnce rm_X0_skipOnce y.2.2 (CL y) rkV [.ref (y.1 16 v0 v0b), .ref (y.1 8 v1 0), .ref (y.1 8 v2 0)] σ (fun r σ' => o σ v0 v0b v1 v2 r σ')

/-! X0_swapEachNth -/
abbrev rm_X0_swapEachNth : Room := { frames := 1, cells := 0, slots := 0, locals := 22 }
set_option maxRecDepth 20000 in
theorem inX0_swapEachNth_X3 : ∀ w ∈ wsX30, w ∈ wsX0_swapEachNth := by decide +kernel
set_option maxRecDepth 20000 in
theorem inX0_swapEachNth_X0 : ∀ w ∈ wsX00, w ∈ wsX0_swapEachNth := by decide +kernel
theorem lk_X0_swapEachNth_f24 : Cond.fieldLink RX0 24 "CopyHouse$Text" "length" "I" ∈ wsX0_swapEachNth := List.mem_of_getElem? (i := 1) (by decide +kernel)
theorem lk_X0_swapEachNth_f15 : Cond.fieldLink RX0 15 "CopyHouse$Habit" "a" "I" ∈ wsX0_swapEachNth := List.mem_of_getElem? (i := 2) (by decide +kernel)
theorem lk_X0_swapEachNth_f39 : Cond.fieldLink RX0 39 "CopyHouse$Text" "letters" "[B" ∈ wsX0_swapEachNth := List.mem_of_getElem? (i := 4) (by decide +kernel)
theorem lk_X0_swapEachNth_f18 : Cond.fieldLink RX0 18 "CopyHouse$Habit" "b" "I" ∈ wsX0_swapEachNth := List.mem_of_getElem? (i := 3) (by decide +kernel)
theorem lk_X0_swapEachNth_f21 : Cond.fieldLink RX0 21 "CopyHouse$Habit" "n" "I" ∈ wsX0_swapEachNth := List.mem_of_getElem? (i := 5) (by decide +kernel)
def C_X0_swapEachNth (K : KT) (y : LT) (post : Int → CS → Prop) : Prop := kOK K cX0_swapEachNth RX0 wsX0_swapEachNth none rm_X0_swapEachNth ∧ K.nL = 5 ∧ kQ K (CL y) rkV post rm_X0_swapEachNth ∧ SF y.2.2 K.A K.s K.s.heap ∧ K.l.stackTraces = false
def P_X0_swapEachNth_0 (K : KT) (y : LT) (σ : CS) (v0 v0b v1 v2 : Int) : Prop := G K (CL y σ) (0, 0) [(0, .ref (y.1 16 v0 v0b)), (1, .ref (y.1 8 v1 0)), (2, .ref (y.1 8 v2 0))] 0 []
def P_X0_swapEachNth_1 (K : KT) (y : LT) (σ : CS) (v0 v0b v1 v2 v3 v4 : Int) : Prop := G K (CL y σ) (0, 0) [(0, .ref (y.1 16 v0 v0b)), (1, .ref (y.1 8 v1 0)), (2, .ref (y.1 8 v2 0)), (3, .int (iZ v3)), (4, .int (iZ v4))] 5 []
def P_X0_swapEachNth_2 (K : KT) (y : LT) (σ : CS) (v0 v0b v1 v2 v3 v4 s0 s1 s2 : Int) : Prop := G K (CL y σ) (0, 0) [(0, .ref (y.1 16 v0 v0b)), (1, .ref (y.1 8 v1 0)), (2, .ref (y.1 8 v2 0)), (3, .int (iZ v3)), (4, .int (iZ v4))] 90 [.int (iZ s0), .int (iZ s1), .ref (y.1 8 s2 0)]
def P_X0_swapEachNth_3 (K : KT) (y : LT) (σ : CS) (v0 v0b v1 v2 v3 v4 s0 s1 s2 : Int) : Prop := G K (CL y σ) (0, 0) [(0, .ref (y.1 16 v0 v0b)), (1, .ref (y.1 8 v1 0)), (2, .ref (y.1 8 v2 0)), (3, .int (iZ v3)), (4, .int (iZ v4))] 116 [.int (iZ s0), .int (iZ s1), .ref (y.1 8 s2 0)]
set_option maxRecDepth 100000 in
set_option maxHeartbeats 4000000 in
theorem b_X0_swapEachNth_0 {K : KT} {y : LT} {post : Int → CS → Prop} (C : C_X0_swapEachNth K y post) {σ : CS} {v0 v0b v1 v2 : Int} (h : P_X0_swapEachNth_1 K y σ v0 v0b v1 v2 0 0) : P_X0_swapEachNth_0 K y σ v0 v0b v1 v2 := by
  refine g_iconst C.1 (z := 0) dX0_swapEachNth_0 ?_
  refine g_istore_n C.1 (i := 3) (loc' := [(3, .int (iZ 0)), (0, .ref (y.1 16 v0 v0b)), (1, .ref (y.1 8 v1 0)), (2, .ref (y.1 8 v2 0))]) C.2.1 dX0_swapEachNth_1 rfl (by decide) rfl ?_
  refine g_iconst C.1 (z := 0) dX0_swapEachNth_2 ?_
  refine g_istore C.1 (i := 4) (loc' := [(4, .int (iZ 0)), (3, .int (iZ 0)), (0, .ref (y.1 16 v0 v0b)), (1, .ref (y.1 8 v1 0)), (2, .ref (y.1 8 v2 0))]) C.2.1 dX0_swapEachNth_3 (by decide) rfl ?_
  exact g_sub [2, 3, 4, 1, 0] rfl h
set_option maxRecDepth 100000 in
set_option maxHeartbeats 4000000 in
theorem b_X0_swapEachNth_1 {K : KT} {y : LT} {post : Int → CS → Prop} (C : C_X0_swapEachNth K y post) {p_has : CS → Int → Int → Int → Prop} {f_has : CS → Int → Int → Int → Bool} (h_has : H_X3_has p_has f_has) {p_append : CS → Int → Int → Prop} {o_append : CS → Int → Int → Int → CS → Prop} (h_append : H_X3_append p_append o_append) {σ : CS} {v0 v0b v1 v2 v3 v4 : Int} (h : (0 ≤ v1 ∧ v1 < (σ 21 0 0 0) + 3) ∧ (-2147483648 ≤ v4 ∧ v4 < 2147483648) ∧ (-2147483648 ≤ (σ 5 v1 0 0) ∧ (σ 5 v1 0 0) < 2147483648) ∧ (((σ 5 v1 0 0) ≤ v4 → post 0 σ) ∧ (¬ (σ 5 v1 0 0) ≤ v4 → ((0 ≤ v0 ∧ v0 < (σ 22 0 0 0)) ∧ (0 ≤ v0b ∧ v0b < (σ 23 v0 0 0))) ∧ (p_has σ v1 v4 (97 + (σ 14 v0 v0b 1))) ∧ ((¬ (f_has σ v1 v4 (97 + (σ 14 v0 v0b 1)) = true) → (0 ≤ v4 ∧ v4 < 120) ∧ (p_append σ v2 (σ 6 v1 v4 0)) ∧ (0 ≤ v2 ∧ v2 < (σ 21 0 0 0) + 3) ∧ ∀ (r9 : Int) (σ10 : CS), o_append σ v2 (σ 6 v1 v4 0) r9 σ10 → P_X0_swapEachNth_1 K y σ10 v0 v0b v1 v2 v3 (v4 + 1)) ∧ (f_has σ v1 v4 (97 + (σ 14 v0 v0b 1)) = true → (p_has σ v1 (v4 + 1) (97 + (σ 14 v0 v0b 2))) ∧ ((f_has σ v1 (v4 + 1) (97 + (σ 14 v0 v0b 2)) = true → (-2147483648 ≤ (v3 + 1) ∧ (v3 + 1) < 2147483648) ∧ (-2147483648 ≤ (σ 14 v0 v0b 3) ∧ (σ 14 v0 v0b 3) < 2147483648) ∧ ((¬ (v3 + 1) = (σ 14 v0 v0b 3) → P_X0_swapEachNth_2 K y σ v0 v0b v1 v2 (v3 + 1) (v4 + 1) (σ 14 v0 v0b 1) 97 v2) ∧ ((v3 + 1) = (σ 14 v0 v0b 3) → P_X0_swapEachNth_2 K y σ v0 v0b v1 v2 (v3 + 1) (v4 + 1) (σ 14 v0 v0b 2) 97 v2))) ∧ (¬ (f_has σ v1 (v4 + 1) (97 + (σ 14 v0 v0b 2)) = true) → (0 ≤ v4 ∧ v4 < 120) ∧ (p_append σ v2 (σ 6 v1 v4 0)) ∧ (0 ≤ v2 ∧ v2 < (σ 21 0 0 0) + 3) ∧ ∀ (r17 : Int) (σ18 : CS), o_append σ v2 (σ 6 v1 v4 0) r17 σ18 → P_X0_swapEachNth_1 K y σ18 v0 v0b v1 v2 v3 (v4 + 1)))))))) : P_X0_swapEachNth_1 K y σ v0 v0b v1 v2 v3 v4 := by
  refine g_iload C.1 4 dX0_swapEachNth_5 rfl ?_
  refine g_aload_n C.1 1 dX0_swapEachNth_7 rfl rfl ?_
  obtain ⟨hd1, h⟩ := h
  refine c_get C.1 (ci := 4) (q := (RX3, TX3, 2)) rfl rfl inX0_swapEachNth_X3 1 (by decide) (v := .int (iZ (σ 5 v1 0 0))) rfl lk_X0_swapEachNth_f24 rfl dX0_swapEachNth_8 ⟨hd1.1, hd1.2, rfl⟩ ?_
  obtain ⟨hc2, h⟩ := h
  obtain ⟨hc3, h⟩ := h
  refine g_icmp_ge C.1 (tgt := 140) dX0_swapEachNth_11 (by decide) hc2 hc3 (fun hc => ?_) (fun hc => ?_)
  · have h := h.1 hc
    exact x_vret C.1 C.2.2.1 rfl ⟨Nat.le_of_ble_eq_true rfl, Nat.le_of_ble_eq_true rfl⟩ dX0_swapEachNth_140 h
  · have h := h.2 hc
    refine g_aload_n C.1 1 dX0_swapEachNth_14 rfl rfl ?_
    refine g_iload C.1 4 dX0_swapEachNth_15 rfl ?_
    refine g_bipush C.1 (z := 97) dX0_swapEachNth_17 (by decide) ?_
    refine g_aload_n C.1 0 dX0_swapEachNth_19 rfl rfl ?_
    obtain ⟨hd4, h⟩ := h
    refine c_get C.1 (ci := 1) (q := (RX0, TX0, 4)) rfl rfl inX0_swapEachNth_X0 1 (by decide) (v := .int (iZ (σ 14 v0 v0b 1))) rfl lk_X0_swapEachNth_f15 rfl dX0_swapEachNth_20 ⟨hd4.1.1, hd4.1.2, hd4.2.1, hd4.2.2⟩ ?_
    refine g_iadd C.1 (x := 97) (y := σ 14 v0 v0b 1) dX0_swapEachNth_23 ?_
    obtain ⟨hp5, h⟩ := h
    refine c_callV C.1 C.2.2.2.1 C.2.2.2.2 (h_has K.l y σ v1 v4 (97 + (σ 14 v0 v0b 1)) hp5) (ci := 4) (q := (RX3, TX3, 2)) rfl (c_recv rfl ⟨hd1.1, hd1.2, rfl⟩) (fun ht => cwV 2 ht gX0_swapEachNth_X3_has rfl rfl rfl (by decide +kernel) ⟨Nat.le_of_ble_eq_true rfl, Nat.le_of_ble_eq_true rfl⟩) rfl rfl (Nat.le_of_ble_eq_true rfl) ⟨Nat.le_of_ble_eq_true rfl, Nat.le_of_ble_eq_true rfl⟩ dX0_swapEachNth_24 (fun r σ9 hq => ?_)
    rw [hq.1, hq.2]
    show G K (CL y σ) (0, 0) [(0, .ref (y.1 16 v0 v0b)), (1, .ref (y.1 8 v1 0)), (2, .ref (y.1 8 v2 0)), (3, .int (iZ v3)), (4, .int (iZ v4))] 27 [.int (iZ (if f_has σ v1 v4 (97 + (σ 14 v0 v0b 1)) = true then 1 else 0))]
    refine g_ifb_eq C.1 (tgt := 48) dX0_swapEachNth_27 (by decide) (fun hc => ?_) (fun hc => ?_)
    · have h := h.1 hc
      refine g_aload_n C.1 2 dX0_swapEachNth_48 rfl rfl ?_
      refine g_aload_n C.1 1 dX0_swapEachNth_49 rfl rfl ?_
      refine c_get C.1 (ci := 4) (q := (RX3, TX3, 2)) rfl rfl inX0_swapEachNth_X3 0 (by decide) (v := .ref (y.1 9 v1 0)) rfl lk_X0_swapEachNth_f39 rfl dX0_swapEachNth_50 ⟨hd1.1, hd1.2, rfl⟩ ?_
      refine g_iload C.1 4 dX0_swapEachNth_53 rfl ?_
      obtain ⟨hi6, h⟩ := h
      refine c_bald C.1 (N := 120) (f := fun p => σ 6 v1 p 0) (e := v4) rfl rfl rfl (by decide) dX0_swapEachNth_55 ⟨hd1.1, hd1.2, rfl⟩ hi6 ?_
      show G K (CL y σ) (0, 0) [(0, .ref (y.1 16 v0 v0b)), (1, .ref (y.1 8 v1 0)), (2, .ref (y.1 8 v2 0)), (3, .int (iZ v3)), (4, .int (iZ v4))] 56 [.int (iZ (σ 6 v1 v4 0)), .ref (y.1 8 v2 0)]
      obtain ⟨hp7, h⟩ := h
      obtain ⟨hd8, h⟩ := h
      refine c_callV C.1 C.2.2.2.1 C.2.2.2.2 (h_append K.l y σ v2 (σ 6 v1 v4 0) hp7) (ci := 4) (q := (RX3, TX3, 2)) rfl (c_recv rfl ⟨hd8.1, hd8.2, rfl⟩) (fun ht => cwV 1 ht gX0_swapEachNth_X3_append rfl rfl rfl (by decide +kernel) ⟨Nat.le_of_ble_eq_true rfl, Nat.le_of_ble_eq_true rfl⟩) rfl rfl (Nat.le_of_ble_eq_true rfl) ⟨Nat.le_of_ble_eq_true rfl, Nat.le_of_ble_eq_true rfl⟩ dX0_swapEachNth_56 (fun r9 σ10 hq => ?_)
      have h := h r9 σ10 hq
      show G K (CL y σ10) (0, 0) [(0, .ref (y.1 16 v0 v0b)), (1, .ref (y.1 8 v1 0)), (2, .ref (y.1 8 v2 0)), (3, .int (iZ v3)), (4, .int (iZ v4))] 59 []
      refine g_goto C.1 (tgt := 134) dX0_swapEachNth_59 (by decide) ?_
      refine g_iinc C.1 (z := v4) (w := 1) (loc' := [(4, .int (iZ (v4 + 1))), (0, .ref (y.1 16 v0 v0b)), (1, .ref (y.1 8 v1 0)), (2, .ref (y.1 8 v2 0)), (3, .int (iZ v3))]) 4 C.2.1 dX0_swapEachNth_134 rfl (by decide) rfl ?_
      refine g_goto C.1 (tgt := 5) dX0_swapEachNth_137 (by decide) ?_
      exact g_sub [1, 2, 3, 4, 0] rfl h
    · have h := h.2 hc
      refine g_aload_n C.1 1 dX0_swapEachNth_30 rfl rfl ?_
      refine g_iload C.1 4 dX0_swapEachNth_31 rfl ?_
      refine g_iconst C.1 (z := 1) dX0_swapEachNth_33 ?_
      refine g_iadd C.1 (x := v4) (y := 1) dX0_swapEachNth_34 ?_
      refine g_bipush C.1 (z := 97) dX0_swapEachNth_35 (by decide) ?_
      refine g_aload_n C.1 0 dX0_swapEachNth_37 rfl rfl ?_
      refine c_get C.1 (ci := 1) (q := (RX0, TX0, 4)) rfl rfl inX0_swapEachNth_X0 2 (by decide) (v := .int (iZ (σ 14 v0 v0b 2))) rfl lk_X0_swapEachNth_f18 rfl dX0_swapEachNth_38 ⟨hd4.1.1, hd4.1.2, hd4.2.1, hd4.2.2⟩ ?_
      refine g_iadd C.1 (x := 97) (y := σ 14 v0 v0b 2) dX0_swapEachNth_41 ?_
      obtain ⟨hp11, h⟩ := h
      refine c_callV C.1 C.2.2.2.1 C.2.2.2.2 (h_has K.l y σ v1 (v4 + 1) (97 + (σ 14 v0 v0b 2)) hp11) (ci := 4) (q := (RX3, TX3, 2)) rfl (c_recv rfl ⟨hd1.1, hd1.2, rfl⟩) (fun ht => cwV 2 ht gX0_swapEachNth_X3_has rfl rfl rfl (by decide +kernel) ⟨Nat.le_of_ble_eq_true rfl, Nat.le_of_ble_eq_true rfl⟩) rfl rfl (Nat.le_of_ble_eq_true rfl) ⟨Nat.le_of_ble_eq_true rfl, Nat.le_of_ble_eq_true rfl⟩ dX0_swapEachNth_42 (fun r σ9 hq => ?_)
      rw [hq.1, hq.2]
      show G K (CL y σ) (0, 0) [(0, .ref (y.1 16 v0 v0b)), (1, .ref (y.1 8 v1 0)), (2, .ref (y.1 8 v2 0)), (3, .int (iZ v3)), (4, .int (iZ v4))] 45 [.int (iZ (if f_has σ v1 (v4 + 1) (97 + (σ 14 v0 v0b 2)) = true then 1 else 0))]
      refine g_ifb_ne C.1 (tgt := 62) dX0_swapEachNth_45 (by decide) (fun hc => ?_) (fun hc => ?_)
      · have h := h.1 hc
        refine g_iinc C.1 (z := v4) (w := 1) (loc' := [(4, .int (iZ (v4 + 1))), (0, .ref (y.1 16 v0 v0b)), (1, .ref (y.1 8 v1 0)), (2, .ref (y.1 8 v2 0)), (3, .int (iZ v3))]) 4 C.2.1 dX0_swapEachNth_62 rfl (by decide) rfl ?_
        refine g_iinc C.1 (z := v3) (w := 1) (loc' := [(3, .int (iZ (v3 + 1))), (4, .int (iZ (v4 + 1))), (0, .ref (y.1 16 v0 v0b)), (1, .ref (y.1 8 v1 0)), (2, .ref (y.1 8 v2 0))]) 4 C.2.1 dX0_swapEachNth_65 rfl (by decide) rfl ?_
        refine g_aload_n C.1 4 dX0_swapEachNth_68 rfl rfl ?_
        refine g_bipush C.1 (z := 97) dX0_swapEachNth_69 (by decide) ?_
        refine g_iload_n C.1 0 dX0_swapEachNth_71 rfl rfl ?_
        refine g_aload_n C.1 2 dX0_swapEachNth_72 rfl rfl ?_
        refine c_get C.1 (ci := 1) (q := (RX0, TX0, 4)) rfl rfl inX0_swapEachNth_X0 3 (by decide) (v := .int (iZ (σ 14 v0 v0b 3))) rfl lk_X0_swapEachNth_f21 rfl dX0_swapEachNth_73 ⟨hd4.1.1, hd4.1.2, hd4.2.1, hd4.2.2⟩ ?_
        obtain ⟨hc12, h⟩ := h
        obtain ⟨hc13, h⟩ := h
        refine g_icmp_ne C.1 (tgt := 86) dX0_swapEachNth_76 (by decide) hc12 hc13 (fun hc => ?_) (fun hc => ?_)
        · have h := h.1 hc
          refine g_aload_n C.1 2 dX0_swapEachNth_86 rfl rfl ?_
          refine c_get C.1 (ci := 1) (q := (RX0, TX0, 4)) rfl rfl inX0_swapEachNth_X0 1 (by decide) (v := .int (iZ (σ 14 v0 v0b 1))) rfl lk_X0_swapEachNth_f15 rfl dX0_swapEachNth_87 ⟨hd4.1.1, hd4.1.2, hd4.2.1, hd4.2.2⟩ ?_
          exact g_sub [2, 3, 4, 0, 1] rfl h
        · have h := h.2 hc
          refine g_aload_n C.1 2 dX0_swapEachNth_79 rfl rfl ?_
          refine c_get C.1 (ci := 1) (q := (RX0, TX0, 4)) rfl rfl inX0_swapEachNth_X0 2 (by decide) (v := .int (iZ (σ 14 v0 v0b 2))) rfl lk_X0_swapEachNth_f18 rfl dX0_swapEachNth_80 ⟨hd4.1.1, hd4.1.2, hd4.2.1, hd4.2.2⟩ ?_
          refine g_goto C.1 (tgt := 90) dX0_swapEachNth_83 (by decide) ?_
          exact g_sub [2, 3, 4, 0, 1] rfl h
      · have h := h.2 hc
        refine g_aload_n C.1 2 dX0_swapEachNth_48 rfl rfl ?_
        refine g_aload_n C.1 1 dX0_swapEachNth_49 rfl rfl ?_
        refine c_get C.1 (ci := 4) (q := (RX3, TX3, 2)) rfl rfl inX0_swapEachNth_X3 0 (by decide) (v := .ref (y.1 9 v1 0)) rfl lk_X0_swapEachNth_f39 rfl dX0_swapEachNth_50 ⟨hd1.1, hd1.2, rfl⟩ ?_
        refine g_iload C.1 4 dX0_swapEachNth_53 rfl ?_
        obtain ⟨hi14, h⟩ := h
        refine c_bald C.1 (N := 120) (f := fun p => σ 6 v1 p 0) (e := v4) rfl rfl rfl (by decide) dX0_swapEachNth_55 ⟨hd1.1, hd1.2, rfl⟩ hi14 ?_
        show G K (CL y σ) (0, 0) [(0, .ref (y.1 16 v0 v0b)), (1, .ref (y.1 8 v1 0)), (2, .ref (y.1 8 v2 0)), (3, .int (iZ v3)), (4, .int (iZ v4))] 56 [.int (iZ (σ 6 v1 v4 0)), .ref (y.1 8 v2 0)]
        obtain ⟨hp15, h⟩ := h
        obtain ⟨hd16, h⟩ := h
        refine c_callV C.1 C.2.2.2.1 C.2.2.2.2 (h_append K.l y σ v2 (σ 6 v1 v4 0) hp15) (ci := 4) (q := (RX3, TX3, 2)) rfl (c_recv rfl ⟨hd16.1, hd16.2, rfl⟩) (fun ht => cwV 1 ht gX0_swapEachNth_X3_append rfl rfl rfl (by decide +kernel) ⟨Nat.le_of_ble_eq_true rfl, Nat.le_of_ble_eq_true rfl⟩) rfl rfl (Nat.le_of_ble_eq_true rfl) ⟨Nat.le_of_ble_eq_true rfl, Nat.le_of_ble_eq_true rfl⟩ dX0_swapEachNth_56 (fun r17 σ18 hq => ?_)
        have h := h r17 σ18 hq
        show G K (CL y σ18) (0, 0) [(0, .ref (y.1 16 v0 v0b)), (1, .ref (y.1 8 v1 0)), (2, .ref (y.1 8 v2 0)), (3, .int (iZ v3)), (4, .int (iZ v4))] 59 []
        refine g_goto C.1 (tgt := 134) dX0_swapEachNth_59 (by decide) ?_
        refine g_iinc C.1 (z := v4) (w := 1) (loc' := [(4, .int (iZ (v4 + 1))), (0, .ref (y.1 16 v0 v0b)), (1, .ref (y.1 8 v1 0)), (2, .ref (y.1 8 v2 0)), (3, .int (iZ v3))]) 4 C.2.1 dX0_swapEachNth_134 rfl (by decide) rfl ?_
        refine g_goto C.1 (tgt := 5) dX0_swapEachNth_137 (by decide) ?_
        exact g_sub [1, 2, 3, 4, 0] rfl h
set_option maxRecDepth 100000 in
set_option maxHeartbeats 4000000 in
theorem b_X0_swapEachNth_2 {K : KT} {y : LT} {post : Int → CS → Prop} (C : C_X0_swapEachNth K y post) {p_append : CS → Int → Int → Prop} {o_append : CS → Int → Int → Int → CS → Prop} (h_append : H_X3_append p_append o_append) {σ : CS} {v0 v0b v1 v2 v3 v4 s0 s1 s2 : Int} (h : (p_append σ s2 (s1 + s0)) ∧ (0 ≤ s2 ∧ s2 < (σ 21 0 0 0) + 3) ∧ ∀ (r3 : Int) (σ4 : CS), o_append σ s2 (s1 + s0) r3 σ4 → ((0 ≤ v0 ∧ v0 < (σ4 22 0 0 0)) ∧ (0 ≤ v0b ∧ v0b < (σ4 23 v0 0 0))) ∧ (-2147483648 ≤ v3 ∧ v3 < 2147483648) ∧ (-2147483648 ≤ (σ4 14 v0 v0b 3) ∧ (σ4 14 v0 v0b 3) < 2147483648) ∧ ((¬ v3 = (σ4 14 v0 v0b 3) → P_X0_swapEachNth_3 K y σ4 v0 v0b v1 v2 v3 v4 (σ4 14 v0 v0b 2) 97 v2) ∧ (v3 = (σ4 14 v0 v0b 3) → P_X0_swapEachNth_3 K y σ4 v0 v0b v1 v2 v3 v4 (σ4 14 v0 v0b 1) 97 v2))) : P_X0_swapEachNth_2 K y σ v0 v0b v1 v2 v3 v4 s0 s1 s2 := by
  refine g_iadd C.1 (x := s1) (y := s0) dX0_swapEachNth_90 ?_
  obtain ⟨hp1, h⟩ := h
  obtain ⟨hd2, h⟩ := h
  refine c_callV C.1 C.2.2.2.1 C.2.2.2.2 (h_append K.l y σ s2 (s1 + s0) hp1) (ci := 4) (q := (RX3, TX3, 2)) rfl (c_recv rfl ⟨hd2.1, hd2.2, rfl⟩) (fun ht => cwV 1 ht gX0_swapEachNth_X3_append rfl rfl rfl (by decide +kernel) ⟨Nat.le_of_ble_eq_true rfl, Nat.le_of_ble_eq_true rfl⟩) rfl rfl (Nat.le_of_ble_eq_true rfl) ⟨Nat.le_of_ble_eq_true rfl, Nat.le_of_ble_eq_true rfl⟩ dX0_swapEachNth_91 (fun r3 σ4 hq => ?_)
  have h := h r3 σ4 hq
  show G K (CL y σ4) (0, 0) [(0, .ref (y.1 16 v0 v0b)), (1, .ref (y.1 8 v1 0)), (2, .ref (y.1 8 v2 0)), (3, .int (iZ v3)), (4, .int (iZ v4))] 94 []
  refine g_aload_n C.1 2 dX0_swapEachNth_94 rfl rfl ?_
  refine g_bipush C.1 (z := 97) dX0_swapEachNth_95 (by decide) ?_
  refine g_iload_n C.1 3 dX0_swapEachNth_97 rfl rfl ?_
  refine g_aload_n C.1 0 dX0_swapEachNth_98 rfl rfl ?_
  obtain ⟨hd5, h⟩ := h
  refine c_get C.1 (ci := 1) (q := (RX0, TX0, 4)) rfl rfl inX0_swapEachNth_X0 3 (by decide) (v := .int (iZ (σ4 14 v0 v0b 3))) rfl lk_X0_swapEachNth_f21 rfl dX0_swapEachNth_99 ⟨hd5.1.1, hd5.1.2, hd5.2.1, hd5.2.2⟩ ?_
  obtain ⟨hc6, h⟩ := h
  obtain ⟨hc7, h⟩ := h
  refine g_icmp_ne C.1 (tgt := 112) dX0_swapEachNth_102 (by decide) hc6 hc7 (fun hc => ?_) (fun hc => ?_)
  · have h := h.1 hc
    refine g_aload_n C.1 0 dX0_swapEachNth_112 rfl rfl ?_
    refine c_get C.1 (ci := 1) (q := (RX0, TX0, 4)) rfl rfl inX0_swapEachNth_X0 2 (by decide) (v := .int (iZ (σ4 14 v0 v0b 2))) rfl lk_X0_swapEachNth_f18 rfl dX0_swapEachNth_113 ⟨hd5.1.1, hd5.1.2, hd5.2.1, hd5.2.2⟩ ?_
    exact h
  · have h := h.2 hc
    refine g_aload_n C.1 0 dX0_swapEachNth_105 rfl rfl ?_
    refine c_get C.1 (ci := 1) (q := (RX0, TX0, 4)) rfl rfl inX0_swapEachNth_X0 1 (by decide) (v := .int (iZ (σ4 14 v0 v0b 1))) rfl lk_X0_swapEachNth_f15 rfl dX0_swapEachNth_106 ⟨hd5.1.1, hd5.1.2, hd5.2.1, hd5.2.2⟩ ?_
    refine g_goto C.1 (tgt := 116) dX0_swapEachNth_109 (by decide) ?_
    exact h
set_option maxRecDepth 100000 in
set_option maxHeartbeats 4000000 in
theorem b_X0_swapEachNth_3 {K : KT} {y : LT} {post : Int → CS → Prop} (C : C_X0_swapEachNth K y post) {p_append : CS → Int → Int → Prop} {o_append : CS → Int → Int → Int → CS → Prop} (h_append : H_X3_append p_append o_append) {σ : CS} {v0 v0b v1 v2 v3 v4 s0 s1 s2 : Int} (h : (p_append σ s2 (s1 + s0)) ∧ (0 ≤ s2 ∧ s2 < (σ 21 0 0 0) + 3) ∧ ∀ (r3 : Int) (σ4 : CS), o_append σ s2 (s1 + s0) r3 σ4 → ((0 ≤ v0 ∧ v0 < (σ4 22 0 0 0)) ∧ (0 ≤ v0b ∧ v0b < (σ4 23 v0 0 0))) ∧ (-2147483648 ≤ v3 ∧ v3 < 2147483648) ∧ (-2147483648 ≤ (σ4 14 v0 v0b 3) ∧ (σ4 14 v0 v0b 3) < 2147483648) ∧ ((¬ v3 = (σ4 14 v0 v0b 3) → P_X0_swapEachNth_1 K y σ4 v0 v0b v1 v2 v3 (v4 + 1)) ∧ (v3 = (σ4 14 v0 v0b 3) → P_X0_swapEachNth_1 K y σ4 v0 v0b v1 v2 0 (v4 + 1)))) : P_X0_swapEachNth_3 K y σ v0 v0b v1 v2 v3 v4 s0 s1 s2 := by
  refine g_iadd C.1 (x := s1) (y := s0) dX0_swapEachNth_116 ?_
  obtain ⟨hp1, h⟩ := h
  obtain ⟨hd2, h⟩ := h
  refine c_callV C.1 C.2.2.2.1 C.2.2.2.2 (h_append K.l y σ s2 (s1 + s0) hp1) (ci := 4) (q := (RX3, TX3, 2)) rfl (c_recv rfl ⟨hd2.1, hd2.2, rfl⟩) (fun ht => cwV 1 ht gX0_swapEachNth_X3_append rfl rfl rfl (by decide +kernel) ⟨Nat.le_of_ble_eq_true rfl, Nat.le_of_ble_eq_true rfl⟩) rfl rfl (Nat.le_of_ble_eq_true rfl) ⟨Nat.le_of_ble_eq_true rfl, Nat.le_of_ble_eq_true rfl⟩ dX0_swapEachNth_117 (fun r3 σ4 hq => ?_)
  have h := h r3 σ4 hq
  show G K (CL y σ4) (0, 0) [(0, .ref (y.1 16 v0 v0b)), (1, .ref (y.1 8 v1 0)), (2, .ref (y.1 8 v2 0)), (3, .int (iZ v3)), (4, .int (iZ v4))] 120 []
  refine g_iload_n C.1 3 dX0_swapEachNth_120 rfl rfl ?_
  refine g_aload_n C.1 0 dX0_swapEachNth_121 rfl rfl ?_
  obtain ⟨hd5, h⟩ := h
  refine c_get C.1 (ci := 1) (q := (RX0, TX0, 4)) rfl rfl inX0_swapEachNth_X0 3 (by decide) (v := .int (iZ (σ4 14 v0 v0b 3))) rfl lk_X0_swapEachNth_f21 rfl dX0_swapEachNth_122 ⟨hd5.1.1, hd5.1.2, hd5.2.1, hd5.2.2⟩ ?_
  obtain ⟨hc6, h⟩ := h
  obtain ⟨hc7, h⟩ := h
  refine g_icmp_ne C.1 (tgt := 132) dX0_swapEachNth_125 (by decide) hc6 hc7 (fun hc => ?_) (fun hc => ?_)
  · have h := h.1 hc
    refine g_iload_n C.1 3 dX0_swapEachNth_132 rfl rfl ?_
    refine g_istore_n C.1 (i := 3) (loc' := [(3, .int (iZ v3)), (0, .ref (y.1 16 v0 v0b)), (1, .ref (y.1 8 v1 0)), (2, .ref (y.1 8 v2 0)), (4, .int (iZ v4))]) C.2.1 dX0_swapEachNth_133 rfl (by decide) rfl ?_
    refine g_iinc C.1 (z := v4) (w := 1) (loc' := [(4, .int (iZ (v4 + 1))), (3, .int (iZ v3)), (0, .ref (y.1 16 v0 v0b)), (1, .ref (y.1 8 v1 0)), (2, .ref (y.1 8 v2 0))]) 4 C.2.1 dX0_swapEachNth_134 rfl (by decide) rfl ?_
    refine g_goto C.1 (tgt := 5) dX0_swapEachNth_137 (by decide) ?_
    exact g_sub [2, 3, 4, 1, 0] rfl h
  · have h := h.2 hc
    refine g_iconst C.1 (z := 0) dX0_swapEachNth_128 ?_
    refine g_goto C.1 (tgt := 133) dX0_swapEachNth_129 (by decide) ?_
    refine g_istore_n C.1 (i := 3) (loc' := [(3, .int (iZ 0)), (0, .ref (y.1 16 v0 v0b)), (1, .ref (y.1 8 v1 0)), (2, .ref (y.1 8 v2 0)), (4, .int (iZ v4))]) C.2.1 dX0_swapEachNth_133 rfl (by decide) rfl ?_
    refine g_iinc C.1 (z := v4) (w := 1) (loc' := [(4, .int (iZ (v4 + 1))), (3, .int (iZ 0)), (0, .ref (y.1 16 v0 v0b)), (1, .ref (y.1 8 v1 0)), (2, .ref (y.1 8 v2 0))]) 4 C.2.1 dX0_swapEachNth_134 rfl (by decide) rfl ?_
    refine g_goto C.1 (tgt := 5) dX0_swapEachNth_137 (by decide) ?_
    exact g_sub [2, 3, 4, 1, 0] rfl h
theorem m_X0_swapEachNth {l : Launch} {y : LT} {σ : CS} {v0 v0b v1 v2 : Int} {post : Int → CS → Prop} (h : ∀ K : KT, K.l = l → C_X0_swapEachNth K y post → P_X0_swapEachNth_0 K y σ v0 v0b v1 v2) : cMet l yX0_swapEachNth wsX0_swapEachNth rm_X0_swapEachNth y.2.2 (CL y) rkV [.ref (y.1 16 v0 v0b), .ref (y.1 8 v1 0), .ref (y.1 8 v2 0)] σ post :=
  cMet.of (maxL := 5) (by decide +kernel) rfl (Nat.le_of_ble_eq_true rfl) (fun K h1 h2 h3 h4 h5 h6 _ => h K h1 ⟨h2, h3, h4, h5, h6⟩)
def H_X0_swapEachNth (p : CS → Int → Int → Int → Int → Prop) (o : CS → Int → Int → Int → Int → Int → CS → Prop) : Prop := ∀ (l : Launch) (y : LT) (σ : CS) (v0 v0b v1 v2 : Int), p σ v0 v0b v1 v2 → cMet l yX0_swapEachNth wsX0_swapEachNth rm_X0_swapEachNth y.2.2 (CL y) rkV [.ref (y.1 16 v0 v0b), .ref (y.1 8 v1 0), .ref (y.1 8 v2 0)] σ (fun r σ' => o σ v0 v0b v1 v2 r σ')

/-! X0_apply -/
abbrev rm_X0_apply : Room := { frames := 3, cells := 0, slots := 0, locals := 70 }
set_option maxRecDepth 20000 in
theorem inX0_apply_X3 : ∀ w ∈ wsX30, w ∈ wsX0_apply := by decide +kernel
set_option maxRecDepth 20000 in
theorem inX0_apply_X0 : ∀ w ∈ wsX00, w ∈ wsX0_apply := by decide +kernel
theorem lk_X0_apply_f24 : Cond.fieldLink RX0 24 "CopyHouse$Text" "length" "I" ∈ wsX0_apply := List.mem_of_getElem? (i := 1) (by decide +kernel)
theorem lk_X0_apply_f9 : Cond.fieldLink RX0 9 "CopyHouse$Habit" "kind" "I" ∈ wsX0_apply := List.mem_of_getElem? (i := 2) (by decide +kernel)
def C_X0_apply (K : KT) (y : LT) (post : Int → CS → Prop) : Prop := kOK K cX0_apply RX0 wsX0_apply none rm_X0_apply ∧ K.nL = 3 ∧ kQ K (CL y) rkV post rm_X0_apply ∧ SF y.2.2 K.A K.s K.s.heap ∧ K.l.stackTraces = false
def P_X0_apply_0 (K : KT) (y : LT) (σ : CS) (v0 v0b v1 v2 : Int) : Prop := G K (CL y σ) (0, 0) [(0, .ref (y.1 16 v0 v0b)), (1, .ref (y.1 8 v1 0)), (2, .ref (y.1 8 v2 0))] 0 []
set_option maxRecDepth 100000 in
set_option maxHeartbeats 4000000 in
theorem b_X0_apply_0 {K : KT} {y : LT} {post : Int → CS → Prop} (C : C_X0_apply K y post) {p_skipOnce : CS → Int → Int → Int → Int → Prop} {o_skipOnce : CS → Int → Int → Int → Int → Int → CS → Prop} (h_skipOnce : H_X0_skipOnce p_skipOnce o_skipOnce) {p_swapEachNth : CS → Int → Int → Int → Int → Prop} {o_swapEachNth : CS → Int → Int → Int → Int → Int → CS → Prop} (h_swapEachNth : H_X0_swapEachNth p_swapEachNth o_swapEachNth) {p_treatEachNth : CS → Int → Int → Int → Int → Prop} {o_treatEachNth : CS → Int → Int → Int → Int → Int → CS → Prop} (h_treatEachNth : H_X0_treatEachNth p_treatEachNth o_treatEachNth) {σ : CS} {v0 v0b v1 v2 : Int} (h : (0 ≤ v2 ∧ v2 < (σ 21 0 0 0) + 3) ∧ ((0 ≤ v0 ∧ v0 < (σ 22 0 0 0)) ∧ (0 ≤ v0b ∧ v0b < (σ 23 v0 0 0))) ∧ (-2147483648 ≤ (σ 14 v0 v0b 0) ∧ (σ 14 v0 v0b 0) < 2147483648) ∧ (((σ 14 v0 v0b 0) = 3 → (p_skipOnce (upC σ 5 (up1 (σ 5) v2 0)) v0 v0b v1 v2) ∧ ∀ (r6 : Int) (σ7 : CS), o_skipOnce (upC σ 5 (up1 (σ 5) v2 0)) v0 v0b v1 v2 r6 σ7 → post 0 σ7) ∧ (¬ (σ 14 v0 v0b 0) = 3 → (((σ 14 v0 v0b 0) = 4 → (p_swapEachNth (upC σ 5 (up1 (σ 5) v2 0)) v0 v0b v1 v2) ∧ ∀ (r10 : Int) (σ11 : CS), o_swapEachNth (upC σ 5 (up1 (σ 5) v2 0)) v0 v0b v1 v2 r10 σ11 → post 0 σ11) ∧ (¬ (σ 14 v0 v0b 0) = 4 → (p_treatEachNth (upC σ 5 (up1 (σ 5) v2 0)) v0 v0b v1 v2) ∧ ∀ (r13 : Int) (σ14 : CS), o_treatEachNth (upC σ 5 (up1 (σ 5) v2 0)) v0 v0b v1 v2 r13 σ14 → post 0 σ14))))) : P_X0_apply_0 K y σ v0 v0b v1 v2 := by
  refine g_aload_n C.1 2 dX0_apply_0 rfl rfl ?_
  refine g_iconst C.1 (z := 0) dX0_apply_1 ?_
  obtain ⟨hd1, h⟩ := h
  refine c_put C.1 (σ' := upC σ 5 (up1 (σ 5) v2 0)) (ci := 4) (q := (RX3, TX3, 2)) rfl rfl inX0_apply_X3 tyX3 tyX3_ok nmX3 1 (by decide) (Nat.le_of_ble_eq_true rfl) (v := .int (iZ 0)) (ty := .int) (cu_len _ _ _ _) (CUpd_5 y _ _ _ (fun _ hx => if_neg hx)) lk_X0_apply_f24 rfl rfl rfl rfl rfl dX0_apply_2 ⟨hd1.1, hd1.2, rfl⟩ ?_
  refine g_aload_n C.1 0 dX0_apply_5 rfl rfl ?_
  obtain ⟨hd2, h⟩ := h
  refine c_get C.1 (ci := 1) (q := (RX0, TX0, 4)) rfl rfl inX0_apply_X0 0 (by decide) (v := .int (iZ (σ 14 v0 v0b 0))) rfl lk_X0_apply_f9 rfl dX0_apply_6 ⟨hd2.1.1, hd2.1.2, hd2.2.1, hd2.2.2⟩ ?_
  obtain ⟨hc3, h⟩ := h
  refine g_lsw C.1 (x := σ 14 v0 v0b 0) dX0_apply_9 (by decide) hc3 ?_
  by_cases hk4 : (σ 14 v0 v0b 0) = 3
  · refine ⟨27, 36, (by rw [hk4]; first | rfl | decide), by decide, ?_⟩
    have h := h.1 hk4
    refine g_aload_n C.1 0 dX0_apply_36 rfl rfl ?_
    refine g_aload_n C.1 1 dX0_apply_37 rfl rfl ?_
    refine g_aload_n C.1 2 dX0_apply_38 rfl rfl ?_
    obtain ⟨hp5, h⟩ := h
    refine c_callV C.1 C.2.2.2.1 C.2.2.2.2 (h_skipOnce K.l y (upC σ 5 (up1 (σ 5) v2 0)) v0 v0b v1 v2 hp5) (ci := 1) (q := (RX0, TX0, 4)) rfl (c_recv rfl ⟨hd2.1.1, hd2.1.2, hd2.2.1, hd2.2.2⟩) (fun ht => cwV 2 ht gX0_apply_X0_skipOnce rfl rfl rfl (by decide +kernel) ⟨Nat.le_of_ble_eq_true rfl, Nat.le_of_ble_eq_true rfl⟩) rfl rfl (Nat.le_of_ble_eq_true rfl) ⟨Nat.le_of_ble_eq_true rfl, Nat.le_of_ble_eq_true rfl⟩ dX0_apply_39 (fun r6 σ7 hq => ?_)
    have h := h r6 σ7 hq
    show G K (CL y σ7) (0, 0) [(0, .ref (y.1 16 v0 v0b)), (1, .ref (y.1 8 v1 0)), (2, .ref (y.1 8 v2 0))] 42 []
    refine g_goto C.1 (tgt := 60) dX0_apply_42 (by decide) ?_
    exact x_vret C.1 C.2.2.1 rfl ⟨Nat.le_of_ble_eq_true rfl, Nat.le_of_ble_eq_true rfl⟩ dX0_apply_60 h
  · have h := h.2 hk4
    by_cases hk8 : (σ 14 v0 v0b 0) = 4
    · refine ⟨36, 45, (by rw [hk8]; first | rfl | decide), by decide, ?_⟩
      have h := h.1 hk8
      refine g_aload_n C.1 0 dX0_apply_45 rfl rfl ?_
      refine g_aload_n C.1 1 dX0_apply_46 rfl rfl ?_
      refine g_aload_n C.1 2 dX0_apply_47 rfl rfl ?_
      obtain ⟨hp9, h⟩ := h
      refine c_callV C.1 C.2.2.2.1 C.2.2.2.2 (h_swapEachNth K.l y (upC σ 5 (up1 (σ 5) v2 0)) v0 v0b v1 v2 hp9) (ci := 1) (q := (RX0, TX0, 4)) rfl (c_recv rfl ⟨hd2.1.1, hd2.1.2, hd2.2.1, hd2.2.2⟩) (fun ht => cwV 2 ht gX0_apply_X0_swapEachNth rfl rfl rfl (by decide +kernel) ⟨Nat.le_of_ble_eq_true rfl, Nat.le_of_ble_eq_true rfl⟩) rfl rfl (Nat.le_of_ble_eq_true rfl) ⟨Nat.le_of_ble_eq_true rfl, Nat.le_of_ble_eq_true rfl⟩ dX0_apply_48 (fun r10 σ11 hq => ?_)
      have h := h r10 σ11 hq
      show G K (CL y σ11) (0, 0) [(0, .ref (y.1 16 v0 v0b)), (1, .ref (y.1 8 v1 0)), (2, .ref (y.1 8 v2 0))] 51 []
      refine g_goto C.1 (tgt := 60) dX0_apply_51 (by decide) ?_
      exact x_vret C.1 C.2.2.1 rfl ⟨Nat.le_of_ble_eq_true rfl, Nat.le_of_ble_eq_true rfl⟩ dX0_apply_60 h
    · have h := h.2 hk8
      refine ⟨45, 54, (by simp [Op.lookupswitch.offset, Ne.symm (a := (σ 14 v0 v0b 0)) hk4, hk4, Ne.symm (a := (σ 14 v0 v0b 0)) hk8, hk8]), by decide, ?_⟩
      refine g_aload_n C.1 0 dX0_apply_54 rfl rfl ?_
      refine g_aload_n C.1 1 dX0_apply_55 rfl rfl ?_
      refine g_aload_n C.1 2 dX0_apply_56 rfl rfl ?_
      obtain ⟨hp12, h⟩ := h
      refine c_callV C.1 C.2.2.2.1 C.2.2.2.2 (h_treatEachNth K.l y (upC σ 5 (up1 (σ 5) v2 0)) v0 v0b v1 v2 hp12) (ci := 1) (q := (RX0, TX0, 4)) rfl (c_recv rfl ⟨hd2.1.1, hd2.1.2, hd2.2.1, hd2.2.2⟩) (fun ht => cwV 2 ht gX0_apply_X0_treatEachNth rfl rfl rfl (by decide +kernel) ⟨Nat.le_of_ble_eq_true rfl, Nat.le_of_ble_eq_true rfl⟩) rfl rfl (Nat.le_of_ble_eq_true rfl) ⟨Nat.le_of_ble_eq_true rfl, Nat.le_of_ble_eq_true rfl⟩ dX0_apply_57 (fun r13 σ14 hq => ?_)
      have h := h r13 σ14 hq
      show G K (CL y σ14) (0, 0) [(0, .ref (y.1 16 v0 v0b)), (1, .ref (y.1 8 v1 0)), (2, .ref (y.1 8 v2 0))] 60 []
      exact x_vret C.1 C.2.2.1 rfl ⟨Nat.le_of_ble_eq_true rfl, Nat.le_of_ble_eq_true rfl⟩ dX0_apply_60 h
theorem m_X0_apply {l : Launch} {y : LT} {σ : CS} {v0 v0b v1 v2 : Int} {post : Int → CS → Prop} (h : ∀ K : KT, K.l = l → C_X0_apply K y post → P_X0_apply_0 K y σ v0 v0b v1 v2) : cMet l yX0_apply wsX0_apply rm_X0_apply y.2.2 (CL y) rkV [.ref (y.1 16 v0 v0b), .ref (y.1 8 v1 0), .ref (y.1 8 v2 0)] σ post :=
  cMet.of (maxL := 3) (by decide +kernel) rfl (Nat.le_of_ble_eq_true rfl) (fun K h1 h2 h3 h4 h5 h6 _ => h K h1 ⟨h2, h3, h4, h5, h6⟩)
def H_X0_apply (p : CS → Int → Int → Int → Int → Prop) (o : CS → Int → Int → Int → Int → Int → CS → Prop) : Prop := ∀ (l : Launch) (y : LT) (σ : CS) (v0 v0b v1 v2 : Int), p σ v0 v0b v1 v2 → cMet l yX0_apply wsX0_apply rm_X0_apply y.2.2 (CL y) rkV [.ref (y.1 16 v0 v0b), .ref (y.1 8 v1 0), .ref (y.1 8 v2 0)] σ (fun r σ' => o σ v0 v0b v1 v2 r σ')

/-! X1_origin -/
abbrev rm_X1_origin : Room := { frames := 0, cells := 0, slots := 0, locals := 0 }
set_option maxRecDepth 20000 in
theorem inX1_origin_X1 : ∀ w ∈ wsX10, w ∈ wsX1_origin := by decide +kernel
theorem lk_X1_origin_f24 : Cond.fieldLink RX1 24 "CopyHouse$Manuscript" "exemplar" "LCopyHouse$Manuscript;" ∈ wsX1_origin := List.mem_of_getElem? (i := 1) (by decide +kernel)
def C_X1_origin (K : KT) (y : LT) (post : Int → CS → Prop) : Prop := kOK K cX1_origin RX1 wsX1_origin (some (.object "CopyHouse$Manuscript")) rm_X1_origin ∧ K.nL = 2 ∧ kQ K (CL y) (rkM y) post rm_X1_origin ∧ SF y.2.2 K.A K.s K.s.heap ∧ K.l.stackTraces = false
def P_X1_origin_0 (K : KT) (y : LT) (σ : CS) (v0 : Int) : Prop := G K (CL y σ) (0, 0) [(0, vM y v0)] 0 []
def P_X1_origin_1 (K : KT) (y : LT) (σ : CS) (v1 : Int) : Prop := G K (CL y σ) (0, 0) [(1, vM y v1)] 2 []
set_option maxRecDepth 100000 in
set_option maxHeartbeats 4000000 in
theorem b_X1_origin_0 {K : KT} {y : LT} {post : Int → CS → Prop} (C : C_X1_origin K y post) {σ : CS} {v0 : Int} (h : P_X1_origin_1 K y σ v0) : P_X1_origin_0 K y σ v0 := by
  refine g_aloadM_n C.1 0 dX1_origin_0 rfl rfl ?_
  refine g_astoreM_n C.1 (i := 1) (loc' := [(0, vM y v0)]) C.2.1 dX1_origin_1 rfl (by decide) (by simp [vM_cat, cat_i, cat_r, cat_l]) ?_
  exact g_sub [0] rfl h
set_option maxRecDepth 100000 in
set_option maxHeartbeats 4000000 in
theorem b_X1_origin_1 {K : KT} {y : LT} {post : Int → CS → Prop} (C : C_X1_origin K y post) {σ : CS} {v1 : Int} (h : (0 ≤ v1 ∧ v1 < (σ 21 0 0 0)) ∧ (((σ 9 v1 0 0) < 0 → post v1 σ) ∧ (¬ (σ 9 v1 0 0) < 0 → P_X1_origin_1 K y σ (σ 9 v1 0 0)))) : P_X1_origin_1 K y σ v1 := by
  refine g_aloadM_n C.1 0 dX1_origin_2 rfl rfl ?_
  obtain ⟨hd1, h⟩ := h
  refine c_atM hd1.1 ?_
  refine c_get C.1 (ci := 2) (q := (RX1, TX1, 6)) rfl rfl inX1_origin_X1 1 (by decide) (v := vM y (σ 9 v1 0 0)) rfl lk_X1_origin_f24 rfl dX1_origin_3 ⟨hd1.1, hd1.2, rfl⟩ ?_
  refine g_ifnull C.1 (tgt := 17) dX1_origin_6 (by decide) (fun hc => ?_) (fun hc => ?_)
  · have h := h.1 hc
    refine g_aloadM_n C.1 0 dX1_origin_17 rfl rfl ?_
    exact x_aret C.1 C.2.2.1 rfl (Or.inl ⟨_, rfl⟩) (vM_or y _) (r := v1) rfl ⟨Nat.le_of_ble_eq_true rfl, Nat.le_of_ble_eq_true rfl⟩ dX1_origin_18 h
  · have h := h.2 hc
    refine g_aloadM_n C.1 0 dX1_origin_9 rfl rfl ?_
    refine c_atM hd1.1 ?_
    refine c_get C.1 (ci := 2) (q := (RX1, TX1, 6)) rfl rfl inX1_origin_X1 1 (by decide) (v := vM y (σ 9 v1 0 0)) rfl lk_X1_origin_f24 rfl dX1_origin_10 ⟨hd1.1, hd1.2, rfl⟩ ?_
    refine g_astoreM_n C.1 (i := 1) (loc' := []) C.2.1 dX1_origin_13 rfl (by decide) (by simp [vM_cat, cat_i, cat_r, cat_l]) ?_
    refine g_goto C.1 (tgt := 2) dX1_origin_14 (by decide) ?_
    exact h
theorem m_X1_origin {l : Launch} {y : LT} {σ : CS} {v0 : Int} {post : Int → CS → Prop} (h : ∀ K : KT, K.l = l → C_X1_origin K y post → P_X1_origin_0 K y σ v0) : cMet l yX1_origin wsX1_origin rm_X1_origin y.2.2 (CL y) (rkM y) [vM y v0] σ post :=
  cMet.of (maxL := 2) (by decide +kernel) rfl (by simp [lg_sl, List.flatMap, vM_cat, cat_i, cat_r, cat_l]) (fun K h1 h2 h3 h4 h5 h6 _ => by
    have h9 := h K h1 ⟨h2, h3, h4, h5, h6⟩
    simp only [lv_args, vM_cat, cat_i, cat_r, cat_l]
    exact h9)
def H_X1_origin (p : CS → Int → Prop) (f : CS → Int → Int) : Prop := ∀ (l : Launch) (y : LT) (σ : CS) (v0 : Int), p σ v0 → cMet l yX1_origin wsX1_origin rm_X1_origin y.2.2 (CL y) (rkM y) [vM y v0] σ (fun r σ' => r = f σ v0 ∧ σ' = σ)

/-! X1_descendsFrom -/
abbrev rm_X1_descendsFrom : Room := { frames := 0, cells := 0, slots := 0, locals := 0 }
set_option maxRecDepth 20000 in
theorem inX1_descendsFrom_X1 : ∀ w ∈ wsX10, w ∈ wsX1_descendsFrom := by decide +kernel
theorem lk_X1_descendsFrom_f24 : Cond.fieldLink RX1 24 "CopyHouse$Manuscript" "exemplar" "LCopyHouse$Manuscript;" ∈ wsX1_descendsFrom := List.mem_of_getElem? (i := 1) (by decide +kernel)
def C_X1_descendsFrom (K : KT) (y : LT) (post : Int → CS → Prop) : Prop := kOK K cX1_descendsFrom RX1 wsX1_descendsFrom (some .boolean) rm_X1_descendsFrom ∧ K.nL = 3 ∧ kQ K (CL y) rkI post rm_X1_descendsFrom ∧ SF y.2.2 K.A K.s K.s.heap ∧ K.l.stackTraces = false
def P_X1_descendsFrom_0 (K : KT) (y : LT) (σ : CS) (v0 v1 : Int) : Prop := G K (CL y σ) (0, 0) [(0, vM y v0), (1, vM y v1)] 0 []
def P_X1_descendsFrom_1 (K : KT) (y : LT) (σ : CS) (v1 v2 : Int) : Prop := G K (CL y σ) (0, 0) [(1, vM y v1), (2, vM y v2)] 5 []
set_option maxRecDepth 100000 in
set_option maxHeartbeats 4000000 in
theorem b_X1_descendsFrom_0 {K : KT} {y : LT} {post : Int → CS → Prop} (C : C_X1_descendsFrom K y post) {σ : CS} {v0 v1 : Int} (h : (0 ≤ v0 ∧ v0 < (σ 21 0 0 0)) ∧ P_X1_descendsFrom_1 K y σ v1 (σ 9 v0 0 0)) : P_X1_descendsFrom_0 K y σ v0 v1 := by
  refine g_aloadM_n C.1 0 dX1_descendsFrom_0 rfl rfl ?_
  obtain ⟨hd1, h⟩ := h
  refine c_atM hd1.1 ?_
  refine c_get C.1 (ci := 2) (q := (RX1, TX1, 6)) rfl rfl inX1_descendsFrom_X1 1 (by decide) (v := vM y (σ 9 v0 0 0)) rfl lk_X1_descendsFrom_f24 rfl dX1_descendsFrom_1 ⟨hd1.1, hd1.2, rfl⟩ ?_
  refine g_astoreM_n C.1 (i := 2) (loc' := [(0, vM y v0), (1, vM y v1)]) C.2.1 dX1_descendsFrom_4 rfl (by decide) (by simp [vM_cat, cat_i, cat_r, cat_l]) ?_
  exact g_sub [2, 0] rfl h
set_option maxRecDepth 100000 in
set_option maxHeartbeats 4000000 in
theorem b_X1_descendsFrom_1 {K : KT} {y : LT} {post : Int → CS → Prop} (C : C_X1_descendsFrom K y post) {σ : CS} {v1 v2 : Int} (h : ((v2 < 0 → post 0 σ) ∧ (¬ v2 < 0 → (-1 ≤ v2 ∧ v2 < (σ 21 0 0 0)) ∧ (-1 ≤ v1 ∧ v1 < (σ 21 0 0 0)) ∧ ((¬ v2 = v1 → (0 ≤ v2 ∧ v2 < (σ 21 0 0 0)) ∧ P_X1_descendsFrom_1 K y σ v1 (σ 9 v2 0 0)) ∧ (v2 = v1 → post 1 σ))))) : P_X1_descendsFrom_1 K y σ v1 v2 := by
  refine g_aloadM_n C.1 1 dX1_descendsFrom_5 rfl rfl ?_
  refine g_ifnull C.1 (tgt := 24) dX1_descendsFrom_6 (by decide) (fun hc => ?_) (fun hc => ?_)
  · have h := h.1 hc
    refine g_iconst C.1 (z := 0) dX1_descendsFrom_24 ?_
    exact x_zret C.1 C.2.2.1 rfl ⟨Nat.le_of_ble_eq_true rfl, Nat.le_of_ble_eq_true rfl⟩ dX1_descendsFrom_25 (Or.inl rfl) h
  · have h := h.2 hc
    refine g_aloadM_n C.1 1 dX1_descendsFrom_9 rfl rfl ?_
    refine g_aloadM_n C.1 0 dX1_descendsFrom_10 rfl rfl ?_
    obtain ⟨hm1, h⟩ := h
    obtain ⟨hm2, h⟩ := h
    refine c_acmp_ne C.1 (tgt := 16) dX1_descendsFrom_11 (by decide) hm1 hm2 (fun hc => ?_) (fun hc => ?_)
    · have h := h.1 hc
      refine g_aloadM_n C.1 1 dX1_descendsFrom_16 rfl rfl ?_
      obtain ⟨hd3, h⟩ := h
      refine c_atM hd3.1 ?_
      refine c_get C.1 (ci := 2) (q := (RX1, TX1, 6)) rfl rfl inX1_descendsFrom_X1 1 (by decide) (v := vM y (σ 9 v2 0 0)) rfl lk_X1_descendsFrom_f24 rfl dX1_descendsFrom_17 ⟨hd3.1, hd3.2, rfl⟩ ?_
      refine g_astoreM_n C.1 (i := 2) (loc' := [(1, vM y v1)]) C.2.1 dX1_descendsFrom_20 rfl (by decide) (by simp [vM_cat, cat_i, cat_r, cat_l]) ?_
      refine g_goto C.1 (tgt := 5) dX1_descendsFrom_21 (by decide) ?_
      exact g_sub [1, 0] rfl h
    · have h := h.2 hc
      refine g_iconst C.1 (z := 1) dX1_descendsFrom_14 ?_
      exact x_zret C.1 C.2.2.1 rfl ⟨Nat.le_of_ble_eq_true rfl, Nat.le_of_ble_eq_true rfl⟩ dX1_descendsFrom_15 (Or.inr rfl) h
theorem m_X1_descendsFrom {l : Launch} {y : LT} {σ : CS} {v0 v1 : Int} {post : Int → CS → Prop} (h : ∀ K : KT, K.l = l → C_X1_descendsFrom K y post → P_X1_descendsFrom_0 K y σ v0 v1) : cMet l yX1_descendsFrom wsX1_descendsFrom rm_X1_descendsFrom y.2.2 (CL y) rkI [vM y v0, vM y v1] σ post :=
  cMet.of (maxL := 3) (by decide +kernel) rfl (by simp [lg_sl, List.flatMap, vM_cat, cat_i, cat_r, cat_l]) (fun K h1 h2 h3 h4 h5 h6 _ => by
    have h9 := h K h1 ⟨h2, h3, h4, h5, h6⟩
    simp only [lv_args, vM_cat, cat_i, cat_r, cat_l]
    exact h9)
def H_X1_descendsFrom (p : CS → Int → Int → Prop) (f : CS → Int → Int → Bool) : Prop := ∀ (l : Launch) (y : LT) (σ : CS) (v0 v1 : Int), p σ v0 v1 → cMet l yX1_descendsFrom wsX1_descendsFrom rm_X1_descendsFrom y.2.2 (CL y) rkI [vM y v0, vM y v1] σ (fun r σ' => r = (if f σ v0 v1 = true then 1 else 0) ∧ σ' = σ)

/-! X4_isLetter -/
abbrev rm_X4_isLetter : Room := { frames := 0, cells := 0, slots := 0, locals := 0 }
def C_X4_isLetter (K : KT) (y : LT) (post : Int → CS → Prop) : Prop := kOK K cX4_isLetter RX4 wsX4_isLetter (some .boolean) rm_X4_isLetter ∧ K.nL = 1 ∧ kQ K (CL y) rkI post rm_X4_isLetter ∧ SF y.2.2 K.A K.s K.s.heap ∧ K.l.stackTraces = false
def P_X4_isLetter_0 (K : KT) (y : LT) (σ : CS) (v0 : Int) : Prop := G K (CL y σ) (0, 0) [(0, .int (iZ v0))] 0 []
set_option maxRecDepth 100000 in
set_option maxHeartbeats 4000000 in
theorem b_X4_isLetter_0 {K : KT} {y : LT} {post : Int → CS → Prop} (C : C_X4_isLetter K y post) {σ : CS} {v0 : Int} (h : (-2147483648 ≤ v0 ∧ v0 < 2147483648) ∧ ((v0 < 0 → post 0 σ) ∧ (¬ v0 < 0 → ((26 ≤ v0 → post 0 σ) ∧ (¬ 26 ≤ v0 → post 1 σ))))) : P_X4_isLetter_0 K y σ v0 := by
  refine g_iload_n C.1 0 dX4_isLetter_0 rfl rfl ?_
  obtain ⟨hc1, h⟩ := h
  refine g_if_lt C.1 (tgt := 14) dX4_isLetter_1 (by decide) hc1 (fun hc => ?_) (fun hc => ?_)
  · have h := h.1 hc
    refine g_iconst C.1 (z := 0) dX4_isLetter_14 ?_
    exact x_zret C.1 C.2.2.1 rfl ⟨Nat.le_of_ble_eq_true rfl, Nat.le_of_ble_eq_true rfl⟩ dX4_isLetter_15 (Or.inl rfl) h
  · have h := h.2 hc
    refine g_iload_n C.1 0 dX4_isLetter_4 rfl rfl ?_
    refine g_bipush C.1 (z := 26) dX4_isLetter_5 (by decide) ?_
    refine g_icmp_ge C.1 (tgt := 14) dX4_isLetter_7 (by decide) hc1 (by decide) (fun hc => ?_) (fun hc => ?_)
    · have h := h.1 hc
      refine g_iconst C.1 (z := 0) dX4_isLetter_14 ?_
      exact x_zret C.1 C.2.2.1 rfl ⟨Nat.le_of_ble_eq_true rfl, Nat.le_of_ble_eq_true rfl⟩ dX4_isLetter_15 (Or.inl rfl) h
    · have h := h.2 hc
      refine g_iconst C.1 (z := 1) dX4_isLetter_10 ?_
      refine g_goto C.1 (tgt := 15) dX4_isLetter_11 (by decide) ?_
      exact x_zret C.1 C.2.2.1 rfl ⟨Nat.le_of_ble_eq_true rfl, Nat.le_of_ble_eq_true rfl⟩ dX4_isLetter_15 (Or.inr rfl) h
theorem m_X4_isLetter {l : Launch} {y : LT} {σ : CS} {v0 : Int} {post : Int → CS → Prop} (h : ∀ K : KT, K.l = l → C_X4_isLetter K y post → P_X4_isLetter_0 K y σ v0) : cMet l yX4_isLetter wsX4_isLetter rm_X4_isLetter y.2.2 (CL y) rkI [.int (iZ v0)] σ post :=
  cMet.of (maxL := 1) (by decide +kernel) rfl (Nat.le_of_ble_eq_true rfl) (fun K h1 h2 h3 h4 h5 h6 _ => h K h1 ⟨h2, h3, h4, h5, h6⟩)
def H_X4_isLetter (p : CS → Int → Prop) (f : CS → Int → Bool) : Prop := ∀ (l : Launch) (y : LT) (σ : CS) (v0 : Int), p σ v0 → cMet l yX4_isLetter wsX4_isLetter rm_X4_isLetter y.2.2 (CL y) rkI [.int (iZ v0)] σ (fun r σ' => r = (if f σ v0 = true then 1 else 0) ∧ σ' = σ)

/-! X4_manuscriptOf -/
abbrev rm_X4_manuscriptOf : Room := { frames := 6, cells := 1, slots := 6, locals := 100 }
set_option maxRecDepth 20000 in
theorem at_X4_manuscriptOf_100 : ∀ w ∈ (vx_atS RX4 100 "java/lang/IndexOutOfBoundsException" ["java/lang/RuntimeException", "java/lang/Exception"]).filter goodWord, w ∈ wsX4_manuscriptOf := fun w h => by
  unfold wsX4_manuscriptOf
  simp only [List.mem_cons, List.mem_append]
  simp only [h, or_true, true_or]
set_option maxRecDepth 20000 in
theorem inX4_manuscriptOf_X4 : ∀ w ∈ wsX40, w ∈ wsX4_manuscriptOf := by decide +kernel
theorem lk_X4_manuscriptOf_cl96 : Cond.classLink RX4 96 "java/lang/IndexOutOfBoundsException" ∈ wsX4_manuscriptOf := List.mem_of_getElem? (i := 1) (by decide +kernel)
theorem lk_X4_manuscriptOf_ini_IndexOutOfBoundsException : Cond.initialized "java/lang/IndexOutOfBoundsException" ∈ wsX4_manuscriptOf := List.mem_of_getElem? (i := 2) (by decide +kernel)
theorem lk_X4_manuscriptOf_f20 : Cond.fieldLink RX4 20 "CopyHouse" "manuscripts" "Ljava/util/ArrayList;" ∈ wsX4_manuscriptOf := List.mem_of_getElem? (i := 3) (by decide +kernel)
theorem lk_X4_manuscriptOf_cc89 : Cond.classLink RX4 89 "CopyHouse$Manuscript" ∈ wsX4_manuscriptOf := List.mem_of_getElem? (i := 4) (by decide +kernel)
def C_X4_manuscriptOf (K : KT) (y : LT) (post : Int → CS → Prop) (px : String → CS → Prop) : Prop := kOK K cX4_manuscriptOf RX4 wsX4_manuscriptOf (some (.object "CopyHouse$Manuscript")) rm_X4_manuscriptOf ∧ K.nL = 2 ∧ kQX K (CL y) (rkM y) post px rm_X4_manuscriptOf ∧ SF y.2.2 K.A K.s K.s.heap ∧ K.l.stackTraces = false ∧ kNX K
def P_X4_manuscriptOf_0 (K : KT) (y : LT) (σ : CS) (v1 : Int) : Prop := G K (CL y σ) (0, 0) [(0, .ref (y.1 0 0 0)), (1, .int (iZ v1))] 0 []
set_option maxRecDepth 100000 in
set_option maxHeartbeats 4000000 in
theorem b_X4_manuscriptOf_0 {K : KT} {y : LT} {post : Int → CS → Prop} {px : String → CS → Prop} (C : C_X4_manuscriptOf K y post px) {p_sizeM : CS → Prop} {f_sizeM : CS → Int} (h_sizeM : H_sizeM p_sizeM f_sizeM) {p_getM : CS → Int → Prop} (h_getM : H_getM p_getM) {σ : CS} {v1 : Int} (h : (-2147483648 ≤ v1 ∧ v1 < 2147483648) ∧ ((v1 < 0 → px "java/lang/IndexOutOfBoundsException" σ) ∧ (¬ v1 < 0 → (p_sizeM σ) ∧ (-2147483648 ≤ (f_sizeM σ) ∧ (f_sizeM σ) < 2147483648) ∧ ((v1 < (f_sizeM σ) → (p_getM σ v1) ∧ (0 ≤ v1 ∧ v1 < (σ 21 0 0 0)) ∧ post v1 σ) ∧ (¬ v1 < (f_sizeM σ) → px "java/lang/IndexOutOfBoundsException" σ))))) : P_X4_manuscriptOf_0 K y σ v1 := by
  refine g_iload_n C.1 1 dX4_manuscriptOf_0 rfl rfl ?_
  obtain ⟨hc1, h⟩ := h
  refine g_if_lt C.1 (tgt := 15) dX4_manuscriptOf_1 (by decide) hc1 (fun hc => ?_) (fun hc => ?_)
  · have h := h.1 hc
    exact y_throwW C.1 C.2.2.1 C.2.2.2.1 C.2.2.2.2.1 C.2.2.2.2.2 (E := "java/lang/IndexOutOfBoundsException") (text := "no such manuscript") (ik := 96) (is := 256) (ic := 100) (by decide +kernel) lk_X4_manuscriptOf_cl96 lk_X4_manuscriptOf_ini_IndexOutOfBoundsException (by decide +kernel) at_X4_manuscriptOf_100 (by decide +kernel) (by decide +kernel) (by decide +kernel) dX4_manuscriptOf_15 dX4_manuscriptOf_18 dX4_manuscriptOf_19 dX4_manuscriptOf_22 dX4_manuscriptOf_25 (Nat.le_of_ble_eq_true rfl) (Nat.le_of_ble_eq_true rfl) (Nat.le_of_ble_eq_true rfl) (Nat.le_of_ble_eq_true rfl) ⟨(Nat.le_of_ble_eq_true rfl), (Nat.le_of_ble_eq_true rfl)⟩ h
  · have h := h.2 hc
    refine g_iload_n C.1 1 dX4_manuscriptOf_4 rfl rfl ?_
    refine g_aload_n C.1 0 dX4_manuscriptOf_5 rfl rfl ?_
    refine c_get C.1 (ci := 5) (q := (RX4, TX4, 10)) rfl rfl inX4_manuscriptOf_X4 2 (by decide) (v := .ref (y.1 2 0 0)) rfl lk_X4_manuscriptOf_f20 rfl dX4_manuscriptOf_6 ⟨rfl, rfl⟩ ?_
    obtain ⟨hp2, h⟩ := h
    refine c_callV C.1 C.2.2.2.1 C.2.2.2.2.1 (h_sizeM K.l y σ hp2) (ci := 0) (q := (RJx4a65c, TJx4a65c, 3)) rfl (c_recv rfl ⟨rfl, rfl⟩) (fun ht => cwV 0 ht gX4_manuscriptOf_Jx4a65c_size_8abf5 rfl rfl rfl (by decide +kernel) ⟨Nat.le_of_ble_eq_true rfl, Nat.le_of_ble_eq_true rfl⟩) rfl rfl (Nat.le_of_ble_eq_true rfl) ⟨Nat.le_of_ble_eq_true rfl, Nat.le_of_ble_eq_true rfl⟩ dX4_manuscriptOf_9 (fun r σ9 hq => ?_)
    rw [hq.1, hq.2]
    show G K (CL y σ) (0, 0) [(0, .ref (y.1 0 0 0)), (1, .int (iZ v1))] 12 [.int (iZ (f_sizeM σ)), .int (iZ v1)]
    obtain ⟨hc3, h⟩ := h
    refine g_icmp_lt C.1 (tgt := 26) dX4_manuscriptOf_12 (by decide) hc1 hc3 (fun hc => ?_) (fun hc => ?_)
    · have h := h.1 hc
      refine g_aload_n C.1 0 dX4_manuscriptOf_26 rfl rfl ?_
      refine c_get C.1 (ci := 5) (q := (RX4, TX4, 10)) rfl rfl inX4_manuscriptOf_X4 2 (by decide) (v := .ref (y.1 2 0 0)) rfl lk_X4_manuscriptOf_f20 rfl dX4_manuscriptOf_27 ⟨rfl, rfl⟩ ?_
      refine g_iload_n C.1 1 dX4_manuscriptOf_30 rfl rfl ?_
      obtain ⟨hp4, h⟩ := h
      refine c_callV C.1 C.2.2.2.1 C.2.2.2.2.1 (h_getM K.l y σ v1 hp4) (ci := 0) (q := (RJx4a65c, TJx4a65c, 3)) rfl (c_recv rfl ⟨rfl, rfl⟩) (fun ht => cwV 1 ht gX4_manuscriptOf_Jx4a65c_get_915e3 rfl rfl rfl (by decide +kernel) ⟨Nat.le_of_ble_eq_true rfl, Nat.le_of_ble_eq_true rfl⟩) rfl rfl (Nat.le_of_ble_eq_true rfl) ⟨Nat.le_of_ble_eq_true rfl, Nat.le_of_ble_eq_true rfl⟩ dX4_manuscriptOf_31 (fun r σ9 hq => ?_)
      rw [hq.1, hq.2]
      show G K (CL y σ) (0, 0) [(0, .ref (y.1 0 0 0)), (1, .int (iZ v1))] 34 [vM y v1]
      obtain ⟨hd5, h⟩ := h
      refine c_atM hd5.1 ?_
      refine c_cast C.1 C.2.2.2.1 (ci := 2) (q := (RX1, TX1, 6)) rfl rfl (by decide +kernel) lk_X4_manuscriptOf_cc89 dX4_manuscriptOf_34 ⟨hd5.1, hd5.2, rfl⟩ ?_
      refine c_toM hd5.1 ?_
      exact y_aret C.1 C.2.2.1 rfl (Or.inl ⟨_, rfl⟩) (vM_or y _) (r := v1) rfl ⟨Nat.le_of_ble_eq_true rfl, Nat.le_of_ble_eq_true rfl⟩ dX4_manuscriptOf_37 h
    · have h := h.2 hc
      exact y_throwW C.1 C.2.2.1 C.2.2.2.1 C.2.2.2.2.1 C.2.2.2.2.2 (E := "java/lang/IndexOutOfBoundsException") (text := "no such manuscript") (ik := 96) (is := 256) (ic := 100) (by decide +kernel) lk_X4_manuscriptOf_cl96 lk_X4_manuscriptOf_ini_IndexOutOfBoundsException (by decide +kernel) at_X4_manuscriptOf_100 (by decide +kernel) (by decide +kernel) (by decide +kernel) dX4_manuscriptOf_15 dX4_manuscriptOf_18 dX4_manuscriptOf_19 dX4_manuscriptOf_22 dX4_manuscriptOf_25 (Nat.le_of_ble_eq_true rfl) (Nat.le_of_ble_eq_true rfl) (Nat.le_of_ble_eq_true rfl) (Nat.le_of_ble_eq_true rfl) ⟨(Nat.le_of_ble_eq_true rfl), (Nat.le_of_ble_eq_true rfl)⟩ h
theorem m_X4_manuscriptOf {l : Launch} {y : LT} {σ : CS} {v1 : Int} {post : Int → CS → Prop} {px : String → CS → Prop} (h : ∀ K : KT, K.l = l → C_X4_manuscriptOf K y post px → P_X4_manuscriptOf_0 K y σ v1) : vMet l yX4_manuscriptOf wsX4_manuscriptOf rm_X4_manuscriptOf y.2.2 (CL y) (rkM y) [.ref (y.1 0 0 0), .int (iZ v1)] σ post px :=
  vMet.of (maxL := 2) (by decide +kernel) rfl (Nat.le_of_ble_eq_true rfl) (fun K h1 h2 h3 h4 h5 h6 h7 => h K h1 ⟨h2, h3, h4, h5, h6, h7⟩)
def H_X4_manuscriptOf (p : CS → Int → Prop) (o : CS → Int → Int → CS → Prop) (x : CS → Int → String → CS → Prop) : Prop := ∀ (l : Launch) (y : LT) (σ : CS) (v1 : Int), p σ v1 → vMet l yX4_manuscriptOf wsX4_manuscriptOf rm_X4_manuscriptOf y.2.2 (CL y) (rkM y) [.ref (y.1 0 0 0), .int (iZ v1)] σ (fun r σ' => o σ v1 r σ') (x σ v1)

/-! X4_scribeOf -/
abbrev rm_X4_scribeOf : Room := { frames := 6, cells := 1, slots := 6, locals := 100 }
set_option maxRecDepth 20000 in
theorem at_X4_scribeOf_100 : ∀ w ∈ (vx_atS RX4 100 "java/lang/IndexOutOfBoundsException" ["java/lang/RuntimeException", "java/lang/Exception"]).filter goodWord, w ∈ wsX4_scribeOf := fun w h => by
  unfold wsX4_scribeOf
  simp only [List.mem_cons, List.mem_append]
  simp only [h, or_true, true_or]
set_option maxRecDepth 20000 in
theorem inX4_scribeOf_X4 : ∀ w ∈ wsX40, w ∈ wsX4_scribeOf := by decide +kernel
theorem lk_X4_scribeOf_cl96 : Cond.classLink RX4 96 "java/lang/IndexOutOfBoundsException" ∈ wsX4_scribeOf := List.mem_of_getElem? (i := 1) (by decide +kernel)
theorem lk_X4_scribeOf_ini_IndexOutOfBoundsException : Cond.initialized "java/lang/IndexOutOfBoundsException" ∈ wsX4_scribeOf := List.mem_of_getElem? (i := 2) (by decide +kernel)
theorem lk_X4_scribeOf_f24 : Cond.fieldLink RX4 24 "CopyHouse" "scribes" "Ljava/util/ArrayList;" ∈ wsX4_scribeOf := List.mem_of_getElem? (i := 3) (by decide +kernel)
theorem lk_X4_scribeOf_cc107 : Cond.classLink RX4 107 "CopyHouse$Scribe" ∈ wsX4_scribeOf := List.mem_of_getElem? (i := 4) (by decide +kernel)
def C_X4_scribeOf (K : KT) (y : LT) (post : Int → CS → Prop) (px : String → CS → Prop) : Prop := kOK K cX4_scribeOf RX4 wsX4_scribeOf (some (.object "CopyHouse$Scribe")) rm_X4_scribeOf ∧ K.nL = 2 ∧ kQX K (CL y) (rkS y) post px rm_X4_scribeOf ∧ SF y.2.2 K.A K.s K.s.heap ∧ K.l.stackTraces = false ∧ kNX K
def P_X4_scribeOf_0 (K : KT) (y : LT) (σ : CS) (v1 : Int) : Prop := G K (CL y σ) (0, 0) [(0, .ref (y.1 0 0 0)), (1, .int (iZ v1))] 0 []
set_option maxRecDepth 100000 in
set_option maxHeartbeats 4000000 in
theorem b_X4_scribeOf_0 {K : KT} {y : LT} {post : Int → CS → Prop} {px : String → CS → Prop} (C : C_X4_scribeOf K y post px) {p_sizeS : CS → Prop} {f_sizeS : CS → Int} (h_sizeS : H_sizeS p_sizeS f_sizeS) {p_getS : CS → Int → Prop} (h_getS : H_getS p_getS) {σ : CS} {v1 : Int} (h : (-2147483648 ≤ v1 ∧ v1 < 2147483648) ∧ ((v1 < 0 → px "java/lang/IndexOutOfBoundsException" σ) ∧ (¬ v1 < 0 → (p_sizeS σ) ∧ (-2147483648 ≤ (f_sizeS σ) ∧ (f_sizeS σ) < 2147483648) ∧ ((v1 < (f_sizeS σ) → (p_getS σ v1) ∧ (0 ≤ v1 ∧ v1 < (σ 22 0 0 0)) ∧ post v1 σ) ∧ (¬ v1 < (f_sizeS σ) → px "java/lang/IndexOutOfBoundsException" σ))))) : P_X4_scribeOf_0 K y σ v1 := by
  refine g_iload_n C.1 1 dX4_scribeOf_0 rfl rfl ?_
  obtain ⟨hc1, h⟩ := h
  refine g_if_lt C.1 (tgt := 15) dX4_scribeOf_1 (by decide) hc1 (fun hc => ?_) (fun hc => ?_)
  · have h := h.1 hc
    exact y_throwW C.1 C.2.2.1 C.2.2.2.1 C.2.2.2.2.1 C.2.2.2.2.2 (E := "java/lang/IndexOutOfBoundsException") (text := "no such scribe") (ik := 96) (is := 258) (ic := 100) (by decide +kernel) lk_X4_scribeOf_cl96 lk_X4_scribeOf_ini_IndexOutOfBoundsException (by decide +kernel) at_X4_scribeOf_100 (by decide +kernel) (by decide +kernel) (by decide +kernel) dX4_scribeOf_15 dX4_scribeOf_18 dX4_scribeOf_19 dX4_scribeOf_22 dX4_scribeOf_25 (Nat.le_of_ble_eq_true rfl) (Nat.le_of_ble_eq_true rfl) (Nat.le_of_ble_eq_true rfl) (Nat.le_of_ble_eq_true rfl) ⟨(Nat.le_of_ble_eq_true rfl), (Nat.le_of_ble_eq_true rfl)⟩ h
  · have h := h.2 hc
    refine g_iload_n C.1 1 dX4_scribeOf_4 rfl rfl ?_
    refine g_aload_n C.1 0 dX4_scribeOf_5 rfl rfl ?_
    refine c_get C.1 (ci := 5) (q := (RX4, TX4, 10)) rfl rfl inX4_scribeOf_X4 3 (by decide) (v := .ref (y.1 4 0 0)) rfl lk_X4_scribeOf_f24 rfl dX4_scribeOf_6 ⟨rfl, rfl⟩ ?_
    obtain ⟨hp2, h⟩ := h
    refine c_callV C.1 C.2.2.2.1 C.2.2.2.2.1 (h_sizeS K.l y σ hp2) (ci := 0) (q := (RJx4a65c, TJx4a65c, 3)) rfl (c_recv rfl ⟨rfl, rfl⟩) (fun ht => cwV 0 ht gX4_scribeOf_Jx4a65c_size_8abf5 rfl rfl rfl (by decide +kernel) ⟨Nat.le_of_ble_eq_true rfl, Nat.le_of_ble_eq_true rfl⟩) rfl rfl (Nat.le_of_ble_eq_true rfl) ⟨Nat.le_of_ble_eq_true rfl, Nat.le_of_ble_eq_true rfl⟩ dX4_scribeOf_9 (fun r σ9 hq => ?_)
    rw [hq.1, hq.2]
    show G K (CL y σ) (0, 0) [(0, .ref (y.1 0 0 0)), (1, .int (iZ v1))] 12 [.int (iZ (f_sizeS σ)), .int (iZ v1)]
    obtain ⟨hc3, h⟩ := h
    refine g_icmp_lt C.1 (tgt := 26) dX4_scribeOf_12 (by decide) hc1 hc3 (fun hc => ?_) (fun hc => ?_)
    · have h := h.1 hc
      refine g_aload_n C.1 0 dX4_scribeOf_26 rfl rfl ?_
      refine c_get C.1 (ci := 5) (q := (RX4, TX4, 10)) rfl rfl inX4_scribeOf_X4 3 (by decide) (v := .ref (y.1 4 0 0)) rfl lk_X4_scribeOf_f24 rfl dX4_scribeOf_27 ⟨rfl, rfl⟩ ?_
      refine g_iload_n C.1 1 dX4_scribeOf_30 rfl rfl ?_
      obtain ⟨hp4, h⟩ := h
      refine c_callV C.1 C.2.2.2.1 C.2.2.2.2.1 (h_getS K.l y σ v1 hp4) (ci := 0) (q := (RJx4a65c, TJx4a65c, 3)) rfl (c_recv rfl ⟨rfl, rfl⟩) (fun ht => cwV 1 ht gX4_scribeOf_Jx4a65c_get_915e3 rfl rfl rfl (by decide +kernel) ⟨Nat.le_of_ble_eq_true rfl, Nat.le_of_ble_eq_true rfl⟩) rfl rfl (Nat.le_of_ble_eq_true rfl) ⟨Nat.le_of_ble_eq_true rfl, Nat.le_of_ble_eq_true rfl⟩ dX4_scribeOf_31 (fun r σ9 hq => ?_)
      rw [hq.1, hq.2]
      show G K (CL y σ) (0, 0) [(0, .ref (y.1 0 0 0)), (1, .int (iZ v1))] 34 [.ref (y.1 13 v1 0)]
      obtain ⟨hd5, h⟩ := h
      refine c_cast C.1 C.2.2.2.1 (ci := 3) (q := (RX2, TX2, 1)) rfl rfl (by decide +kernel) lk_X4_scribeOf_cc107 dX4_scribeOf_34 ⟨hd5.1, hd5.2, rfl⟩ ?_
      exact y_aret C.1 C.2.2.1 rfl (Or.inl ⟨_, rfl⟩) (Or.inr ⟨_, rfl⟩) (r := v1) rfl ⟨Nat.le_of_ble_eq_true rfl, Nat.le_of_ble_eq_true rfl⟩ dX4_scribeOf_37 h
    · have h := h.2 hc
      exact y_throwW C.1 C.2.2.1 C.2.2.2.1 C.2.2.2.2.1 C.2.2.2.2.2 (E := "java/lang/IndexOutOfBoundsException") (text := "no such scribe") (ik := 96) (is := 258) (ic := 100) (by decide +kernel) lk_X4_scribeOf_cl96 lk_X4_scribeOf_ini_IndexOutOfBoundsException (by decide +kernel) at_X4_scribeOf_100 (by decide +kernel) (by decide +kernel) (by decide +kernel) dX4_scribeOf_15 dX4_scribeOf_18 dX4_scribeOf_19 dX4_scribeOf_22 dX4_scribeOf_25 (Nat.le_of_ble_eq_true rfl) (Nat.le_of_ble_eq_true rfl) (Nat.le_of_ble_eq_true rfl) (Nat.le_of_ble_eq_true rfl) ⟨(Nat.le_of_ble_eq_true rfl), (Nat.le_of_ble_eq_true rfl)⟩ h
theorem m_X4_scribeOf {l : Launch} {y : LT} {σ : CS} {v1 : Int} {post : Int → CS → Prop} {px : String → CS → Prop} (h : ∀ K : KT, K.l = l → C_X4_scribeOf K y post px → P_X4_scribeOf_0 K y σ v1) : vMet l yX4_scribeOf wsX4_scribeOf rm_X4_scribeOf y.2.2 (CL y) (rkS y) [.ref (y.1 0 0 0), .int (iZ v1)] σ post px :=
  vMet.of (maxL := 2) (by decide +kernel) rfl (Nat.le_of_ble_eq_true rfl) (fun K h1 h2 h3 h4 h5 h6 h7 => h K h1 ⟨h2, h3, h4, h5, h6, h7⟩)
def H_X4_scribeOf (p : CS → Int → Prop) (o : CS → Int → Int → CS → Prop) (x : CS → Int → String → CS → Prop) : Prop := ∀ (l : Launch) (y : LT) (σ : CS) (v1 : Int), p σ v1 → vMet l yX4_scribeOf wsX4_scribeOf rm_X4_scribeOf y.2.2 (CL y) (rkS y) [.ref (y.1 0 0 0), .int (iZ v1)] σ (fun r σ' => o σ v1 r σ') (x σ v1)

/-! X4_feedNumber -/
abbrev rm_X4_feedNumber : Room := { frames := 0, cells := 0, slots := 0, locals := 0 }
set_option maxRecDepth 20000 in
theorem inX4_feedNumber_X4 : ∀ w ∈ wsX40, w ∈ wsX4_feedNumber := by decide +kernel
theorem lk_X4_feedNumber_f13 : Cond.fieldLink RX4 13 "CopyHouse" "tapeLength" "I" ∈ wsX4_feedNumber := List.mem_of_getElem? (i := 1) (by decide +kernel)
theorem lk_X4_feedNumber_f9 : Cond.fieldLink RX4 9 "CopyHouse" "tape" "[I" ∈ wsX4_feedNumber := List.mem_of_getElem? (i := 2) (by decide +kernel)
def C_X4_feedNumber (K : KT) (y : LT) (post : Int → CS → Prop) : Prop := kOK K cX4_feedNumber RX4 wsX4_feedNumber none rm_X4_feedNumber ∧ K.nL = 3 ∧ kQ K (CL y) rkV post rm_X4_feedNumber ∧ SF y.2.2 K.A K.s K.s.heap ∧ K.l.stackTraces = false
def P_X4_feedNumber_0 (K : KT) (y : LT) (σ : CS) (v1 : Int) : Prop := G K (CL y σ) (0, 0) [(0, .ref (y.1 0 0 0)), (1, .int (iZ v1))] 0 []
def P_X4_feedNumber_1 (K : KT) (y : LT) (σ : CS) (v1 v2 : Int) : Prop := G K (CL y σ) (0, 0) [(0, .ref (y.1 0 0 0)), (1, .int (iZ v1)), (2, .int (iZ v2))] 3 []
set_option maxRecDepth 100000 in
set_option maxHeartbeats 4000000 in
theorem b_X4_feedNumber_0 {K : KT} {y : LT} {post : Int → CS → Prop} (C : C_X4_feedNumber K y post) {σ : CS} {v1 : Int} (h : P_X4_feedNumber_1 K y σ v1 24) : P_X4_feedNumber_0 K y σ v1 := by
  refine g_bipush C.1 (z := 24) dX4_feedNumber_0 (by decide) ?_
  refine g_istore_n C.1 (i := 2) (loc' := [(2, .int (iZ 24)), (0, .ref (y.1 0 0 0)), (1, .int (iZ v1))]) C.2.1 dX4_feedNumber_2 rfl (by decide) rfl ?_
  exact g_sub [1, 2, 0] rfl h
set_option maxRecDepth 100000 in
set_option maxHeartbeats 4000000 in
theorem b_X4_feedNumber_1 {K : KT} {y : LT} {post : Int → CS → Prop} (C : C_X4_feedNumber K y post) {σ : CS} {v1 v2 : Int} (h : (-2147483648 ≤ v2 ∧ v2 < 2147483648) ∧ ((v2 < 0 → post 0 σ) ∧ (¬ v2 < 0 → (-2147483648 ≤ (σ 0 0 0 0) ∧ (σ 0 0 0 0) < 2147483648) ∧ ((60 ≤ (σ 0 0 0 0) → P_X4_feedNumber_1 K y σ v1 (v2 + (-8))) ∧ (¬ 60 ≤ (σ 0 0 0 0) → (0 ≤ (σ 0 0 0 0) ∧ (σ 0 0 0 0) < 60) ∧ P_X4_feedNumber_1 K y (upC (upC σ 1 (up1 (σ 1) (σ 0 0 0 0) (zAnd (zUshr v1 v2) 255))) 0 (fun _ _ _ => (σ 0 0 0 0) + 1)) v1 (v2 + (-8))))))) : P_X4_feedNumber_1 K y σ v1 v2 := by
  refine g_iload_n C.1 2 dX4_feedNumber_3 rfl rfl ?_
  obtain ⟨hc1, h⟩ := h
  refine g_if_lt C.1 (tgt := 51) dX4_feedNumber_4 (by decide) hc1 (fun hc => ?_) (fun hc => ?_)
  · have h := h.1 hc
    exact x_vret C.1 C.2.2.1 rfl ⟨Nat.le_of_ble_eq_true rfl, Nat.le_of_ble_eq_true rfl⟩ dX4_feedNumber_51 h
  · have h := h.2 hc
    refine g_aload_n C.1 0 dX4_feedNumber_7 rfl rfl ?_
    refine c_get C.1 (ci := 5) (q := (RX4, TX4, 10)) rfl rfl inX4_feedNumber_X4 1 (by decide) (v := .int (iZ (σ 0 0 0 0))) rfl lk_X4_feedNumber_f13 rfl dX4_feedNumber_8 ⟨rfl, rfl⟩ ?_
    refine g_aload_n C.1 0 dX4_feedNumber_11 rfl rfl ?_
    refine c_get C.1 (ci := 5) (q := (RX4, TX4, 10)) rfl rfl inX4_feedNumber_X4 0 (by decide) (v := .ref (y.1 1 0 0)) rfl lk_X4_feedNumber_f9 rfl dX4_feedNumber_12 ⟨rfl, rfl⟩ ?_
    refine c_len C.1 (N := 60) rfl rfl rfl dX4_feedNumber_15 ⟨rfl, rfl⟩ ?_
    obtain ⟨hc2, h⟩ := h
    refine g_icmp_ge C.1 (tgt := 45) dX4_feedNumber_16 (by decide) hc2 (by decide) (fun hc => ?_) (fun hc => ?_)
    · have h := h.1 hc
      refine g_iinc C.1 (z := v2) (w := (-8)) (loc' := [(2, .int (iZ (v2 + (-8)))), (0, .ref (y.1 0 0 0)), (1, .int (iZ v1))]) 2 C.2.1 dX4_feedNumber_45 rfl (by decide) rfl ?_
      refine g_goto C.1 (tgt := 3) dX4_feedNumber_48 (by decide) ?_
      exact g_sub [1, 2, 0] rfl h
    · have h := h.2 hc
      refine g_aload_n C.1 0 dX4_feedNumber_19 rfl rfl ?_
      refine c_get C.1 (ci := 5) (q := (RX4, TX4, 10)) rfl rfl inX4_feedNumber_X4 0 (by decide) (v := .ref (y.1 1 0 0)) rfl lk_X4_feedNumber_f9 rfl dX4_feedNumber_20 ⟨rfl, rfl⟩ ?_
      refine g_aload_n C.1 0 dX4_feedNumber_23 rfl rfl ?_
      refine c_get C.1 (ci := 5) (q := (RX4, TX4, 10)) rfl rfl inX4_feedNumber_X4 1 (by decide) (v := .int (iZ (σ 0 0 0 0))) rfl lk_X4_feedNumber_f13 rfl dX4_feedNumber_24 ⟨rfl, rfl⟩ ?_
      refine g_iload_n C.1 1 dX4_feedNumber_27 rfl rfl ?_
      refine g_iload_n C.1 2 dX4_feedNumber_28 rfl rfl ?_
      refine g_iushr C.1 (x := v1) (y := v2) dX4_feedNumber_29 ?_
      refine g_sipush C.1 (z := 255) dX4_feedNumber_30 (by decide) ?_
      refine g_iand C.1 (x := zUshr v1 v2) (y := 255) dX4_feedNumber_33 ?_
      obtain ⟨hi3, h⟩ := h
      refine c_ast C.1 (σ' := upC σ 1 (up1 (σ 1) (σ 0 0 0 0) (zAnd (zUshr v1 v2) 255))) (N := 60) (f := fun p => σ 1 p 0 0) (e := σ 0 0 0 0) (z := zAnd (zUshr v1 v2) 255) rfl rfl rfl (CUpd_1 y _ _) rfl (by decide) dX4_feedNumber_34 ⟨rfl, rfl⟩ hi3 ?_
      refine g_aload_n C.1 0 dX4_feedNumber_35 rfl rfl ?_
      refine g_dup C.1 rfl dX4_feedNumber_36 ?_
      refine c_get C.1 (ci := 5) (q := (RX4, TX4, 10)) rfl rfl inX4_feedNumber_X4 1 (by decide) (v := .int (iZ (σ 0 0 0 0))) rfl lk_X4_feedNumber_f13 rfl dX4_feedNumber_37 ⟨rfl, rfl⟩ ?_
      refine g_iconst C.1 (z := 1) dX4_feedNumber_40 ?_
      refine g_iadd C.1 (x := σ 0 0 0 0) (y := 1) dX4_feedNumber_41 ?_
      refine c_put C.1 (σ' := upC (upC σ 1 (up1 (σ 1) (σ 0 0 0 0) (zAnd (zUshr v1 v2) 255))) 0 (fun _ _ _ => (σ 0 0 0 0) + 1)) (ci := 5) (q := (RX4, TX4, 10)) rfl rfl inX4_feedNumber_X4 tyX4 tyX4_ok nmX4 1 (by decide) (Nat.le_of_ble_eq_true rfl) (v := .int (iZ ((σ 0 0 0 0) + 1))) (ty := .int) rfl (CUpd_0 y _ _) lk_X4_feedNumber_f13 rfl rfl rfl rfl rfl dX4_feedNumber_42 ⟨rfl, rfl⟩ ?_
      refine g_iinc C.1 (z := v2) (w := (-8)) (loc' := [(2, .int (iZ (v2 + (-8)))), (0, .ref (y.1 0 0 0)), (1, .int (iZ v1))]) 2 C.2.1 dX4_feedNumber_45 rfl (by decide) rfl ?_
      refine g_goto C.1 (tgt := 3) dX4_feedNumber_48 (by decide) ?_
      exact g_sub [1, 2, 0] rfl h
theorem m_X4_feedNumber {l : Launch} {y : LT} {σ : CS} {v1 : Int} {post : Int → CS → Prop} (h : ∀ K : KT, K.l = l → C_X4_feedNumber K y post → P_X4_feedNumber_0 K y σ v1) : cMet l yX4_feedNumber wsX4_feedNumber rm_X4_feedNumber y.2.2 (CL y) rkV [.ref (y.1 0 0 0), .int (iZ v1)] σ post :=
  cMet.of (maxL := 3) (by decide +kernel) rfl (Nat.le_of_ble_eq_true rfl) (fun K h1 h2 h3 h4 h5 h6 _ => h K h1 ⟨h2, h3, h4, h5, h6⟩)
def H_X4_feedNumber (p : CS → Int → Prop) (o : CS → Int → Int → CS → Prop) : Prop := ∀ (l : Launch) (y : LT) (σ : CS) (v1 : Int), p σ v1 → cMet l yX4_feedNumber wsX4_feedNumber rm_X4_feedNumber y.2.2 (CL y) rkV [.ref (y.1 0 0 0), .int (iZ v1)] σ (fun r σ' => o σ v1 r σ')
