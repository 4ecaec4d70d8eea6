/-! PUBLIC METHODS THAT MAKE CELLS, up to where they do -/
/-! X4_addScribe -/
abbrev rm_X4_addScribe : Room := { frames := 8, cells := 10, slots := 300, locals := 230 }
set_option maxRecDepth 20000 in
theorem inX4_addScribe_X4 : ∀ w ∈ wsX40, w ∈ wsX4_addScribe := by decide +kernel
set_option maxRecDepth 20000 in
theorem at_X4_addScribe_55 : ∀ w ∈ (vx_atS RX4 55 "java/lang/IllegalStateException" ["java/lang/RuntimeException", "java/lang/Exception"]).filter goodWord, w ∈ wsX4_addScribe := fun w h => by
  unfold wsX4_addScribe
  simp only [List.mem_cons, List.mem_append]
  simp only [h, or_true, true_or]
theorem lk_X4_addScribe_f24 : Cond.fieldLink RX4 24 "CopyHouse" "scribes" "Ljava/util/ArrayList;" ∈ wsX4_addScribe := List.mem_of_getElem? (i := 3) (by decide +kernel)
theorem lk_X4_addScribe_cl51 : Cond.classLink RX4 51 "java/lang/IllegalStateException" ∈ wsX4_addScribe := List.mem_of_getElem? (i := 1) (by decide +kernel)
theorem lk_X4_addScribe_ini_IllegalStateException : Cond.initialized "java/lang/IllegalStateException" ∈ wsX4_addScribe := List.mem_of_getElem? (i := 2) (by decide +kernel)
def C_X4_addScribe (K : KT) (y : LT) (post : Int → US → Prop) (px : String → US → Prop) : Prop := kOK K cX4_addScribe RX4 wsX4_addScribe (some .int) rm_X4_addScribe ∧ K.nL = 1 ∧ kQX K UW rkI post px rm_X4_addScribe ∧ SF y.2.2 K.A K.s K.s.heap ∧ K.l.stackTraces = false ∧ kNX K
def P_X4_addScribe_0 (K : KT) (y : LT) (σ : CS) : Prop := G K (CL y σ) (0, 0) [(0, .ref (y.1 0 0 0))] 0 []
def P_X4_addScribe_1 (K : KT) (y : LT) (σ : CS) : Prop := G K (CL y σ) (0, 0) [(0, .ref (y.1 0 0 0))] 26 [.ref (y.1 4 0 0)]
set_option maxRecDepth 100000 in
set_option maxHeartbeats 4000000 in
theorem b_X4_addScribe_0 {K : KT} {y : LT} {post : Int → US → Prop} {px : String → US → Prop} (C : C_X4_addScribe K y post px) {p_sizeS : CS → Prop} {f_sizeS : CS → Int} (h_sizeS : H_sizeS p_sizeS f_sizeS) {σ : CS} (h : (p_sizeS σ) ∧ (-2147483648 ≤ (f_sizeS σ) ∧ (f_sizeS σ) < 2147483648) ∧ (((f_sizeS σ) < 8 → P_X4_addScribe_1 K y σ) ∧ (¬ (f_sizeS σ) < 8 → px "java/lang/IllegalStateException" (Sum.inl (y, σ))))) : P_X4_addScribe_0 K y σ := by
  refine g_aload_n C.1 0 dX4_addScribe_0 rfl rfl ?_
  refine c_get C.1 (ci := 5) (q := (RX4, TX4, 10)) rfl rfl inX4_addScribe_X4 3 (by decide) (v := .ref (y.1 4 0 0)) rfl lk_X4_addScribe_f24 rfl dX4_addScribe_1 ⟨rfl, rfl⟩ ?_
  obtain ⟨hp1, h⟩ := h
  refine c_callV C.1 C.2.2.2.1 C.2.2.2.2.1 (h_sizeS K.l y σ hp1) (ci := 0) (q := (RJx4a65c, TJx4a65c, 3)) rfl (c_recv rfl ⟨rfl, rfl⟩) (fun ht => cwV 0 ht gX4_addScribe_Jx4a65c_size_8abf5 rfl rfl rfl (by decide +kernel) ⟨Nat.le_of_ble_eq_true rfl, Nat.le_of_ble_eq_true rfl⟩) rfl rfl (Nat.le_of_ble_eq_true rfl) ⟨Nat.le_of_ble_eq_true rfl, Nat.le_of_ble_eq_true rfl⟩ dX4_addScribe_4 (fun r σ9 hq => ?_)
  rw [hq.1, hq.2]
  show G K (CL y σ) (0, 0) [(0, .ref (y.1 0 0 0))] 7 [.int (iZ (f_sizeS σ))]
  refine g_bipush C.1 (z := 8) dX4_addScribe_7 (by decide) ?_
  obtain ⟨hc2, h⟩ := h
  refine g_icmp_lt C.1 (tgt := 22) dX4_addScribe_9 (by decide) hc2 (by decide) (fun hc => ?_) (fun hc => ?_)
  · have h := h.1 hc
    refine g_aload_n C.1 0 dX4_addScribe_22 rfl rfl ?_
    refine c_get C.1 (ci := 5) (q := (RX4, TX4, 10)) rfl rfl inX4_addScribe_X4 3 (by decide) (v := .ref (y.1 4 0 0)) rfl lk_X4_addScribe_f24 rfl dX4_addScribe_23 ⟨rfl, rfl⟩ ?_
    exact h
  · have h := h.2 hc
    exact y_throw (u := (Sum.inl (y, σ) : US)) C.1 C.2.2.1 C.2.2.2.1 C.2.2.2.2.1 C.2.2.2.2.2 (E := "java/lang/IllegalStateException") (text := "there are enough scribes") (ik := 51) (is := 105) (ic := 55) (by decide +kernel) lk_X4_addScribe_cl51 lk_X4_addScribe_ini_IllegalStateException (by decide +kernel) at_X4_addScribe_55 (by decide +kernel) (by decide +kernel) (by decide +kernel) dX4_addScribe_12 dX4_addScribe_15 dX4_addScribe_16 dX4_addScribe_18 dX4_addScribe_21 (Nat.le_of_ble_eq_true rfl) (Nat.le_of_ble_eq_true rfl) (Nat.le_of_ble_eq_true rfl) (Nat.le_of_ble_eq_true rfl) ⟨(Nat.le_of_ble_eq_true rfl), (Nat.le_of_ble_eq_true rfl)⟩ h
theorem m_X4_addScribe {l : Launch} {y : LT} {σ : CS} {post : Int → US → Prop} {px : String → US → Prop} (h : ∀ K : KT, K.l = l → C_X4_addScribe K y post px → P_X4_addScribe_0 K y σ) : vMet l yX4_addScribe wsX4_addScribe rm_X4_addScribe y.2.2 UW rkI [.ref (y.1 0 0 0)] (Sum.inl (y, σ)) post px :=
  vMet.of (maxL := 1) (by decide +kernel) rfl (Nat.le_of_ble_eq_true rfl) (fun K h1 h2 h3 h4 h5 h6 h7 => h K h1 ⟨h2, h3, h4, h5, h6, h7⟩)

/-! X4_addHabit -/
abbrev rm_X4_addHabit : Room := { frames := 8, cells := 10, slots := 300, locals := 230 }
set_option maxRecDepth 20000 in
theorem at_X4_addHabit_66 : ∀ w ∈ (vx_atS RX4 66 "java/lang/IllegalArgumentException" ["java/lang/RuntimeException", "java/lang/Exception"]).filter goodWord, w ∈ wsX4_addHabit := fun w h => by
  unfold wsX4_addHabit
  simp only [List.mem_cons, List.mem_append]
  simp only [h, or_true, true_or]
set_option maxRecDepth 20000 in
theorem inX4_addHabit_X2 : ∀ w ∈ wsX20, w ∈ wsX4_addHabit := by decide +kernel
set_option maxRecDepth 20000 in
theorem at_X4_addHabit_55 : ∀ w ∈ (vx_atS RX4 55 "java/lang/IllegalStateException" ["java/lang/RuntimeException", "java/lang/Exception"]).filter goodWord, w ∈ wsX4_addHabit := fun w h => by
  unfold wsX4_addHabit
  simp only [List.mem_cons, List.mem_append]
  simp only [h, or_true, true_or]
theorem lk_X4_addHabit_cl62 : Cond.classLink RX4 62 "java/lang/IllegalArgumentException" ∈ wsX4_addHabit := List.mem_of_getElem? (i := 1) (by decide +kernel)
theorem lk_X4_addHabit_ini_IllegalArgumentException : Cond.initialized "java/lang/IllegalArgumentException" ∈ wsX4_addHabit := List.mem_of_getElem? (i := 2) (by decide +kernel)
theorem lk_X4_addHabit_f128 : Cond.fieldLink RX4 128 "CopyHouse$Scribe" "habits" "Ljava/util/ArrayList;" ∈ wsX4_addHabit := List.mem_of_getElem? (i := 5) (by decide +kernel)
theorem lk_X4_addHabit_cl51 : Cond.classLink RX4 51 "java/lang/IllegalStateException" ∈ wsX4_addHabit := List.mem_of_getElem? (i := 3) (by decide +kernel)
theorem lk_X4_addHabit_ini_IllegalStateException : Cond.initialized "java/lang/IllegalStateException" ∈ wsX4_addHabit := List.mem_of_getElem? (i := 4) (by decide +kernel)
def C_X4_addHabit (K : KT) (y : LT) (post : Int → US → Prop) (px : String → US → Prop) : Prop := kOK K cX4_addHabit RX4 wsX4_addHabit (some .int) rm_X4_addHabit ∧ K.nL = 7 ∧ kQX K UW rkI post px rm_X4_addHabit ∧ SF y.2.2 K.A K.s K.s.heap ∧ K.l.stackTraces = false ∧ kNX K
def P_X4_addHabit_0 (K : KT) (y : LT) (σ : CS) (v1 v2 v3 v4 v5 : Int) : Prop := G K (CL y σ) (0, 0) [(0, .ref (y.1 0 0 0)), (1, .int (iZ v1)), (2, .int (iZ v2)), (3, .int (iZ v3)), (4, .int (iZ v4)), (5, .int (iZ v5))] 0 []
def P_X4_addHabit_1 (K : KT) (y : LT) (σ : CS) (v2 v3 v4 v5 v6 s0 : Int) : Prop := G K (CL y σ) (1, 6) [(2, .int (iZ v2)), (3, .int (iZ v3)), (4, .int (iZ v4)), (5, .int (iZ v5)), (6, .ref (y.1 13 v6 0))] 101 [.ref (y.1 14 s0 0)]
set_option maxRecDepth 100000 in
set_option maxHeartbeats 4000000 in
theorem b_X4_addHabit_0 {K : KT} {y : LT} {post : Int → US → Prop} {px : String → US → Prop} (C : C_X4_addHabit K y post px) {p_scribeOf : CS → Int → Prop} {o_scribeOf : CS → Int → Int → CS → Prop} {x_scribeOf : CS → Int → String → CS → Prop} (h_scribeOf : H_X4_scribeOf p_scribeOf o_scribeOf x_scribeOf) {p_isLetter : CS → Int → Prop} {f_isLetter : CS → Int → Bool} (h_isLetter : H_X4_isLetter p_isLetter f_isLetter) {p_sizeH : CS → Int → Prop} {f_sizeH : CS → Int → Int} (h_sizeH : H_sizeH p_sizeH f_sizeH) {σ : CS} {v1 v2 v3 v4 v5 : Int} (h : (p_scribeOf σ v1) ∧ (∀ (E : String) (u9 : CS), x_scribeOf σ v1 E u9 → px E (Sum.inl (y, u9))) ∧ ∀ (r2 : Int) (σ3 : CS), o_scribeOf σ v1 r2 σ3 → (-2147483648 ≤ v2 ∧ v2 < 2147483648) ∧ ((v2 < 0 → px "java/lang/IllegalArgumentException" (Sum.inl (y, σ3))) ∧ (¬ v2 < 0 → ((v2 ≤ 4 → (p_isLetter σ3 v3) ∧ ((¬ (f_isLetter σ3 v3 = true) → px "java/lang/IllegalArgumentException" (Sum.inl (y, σ3))) ∧ (f_isLetter σ3 v3 = true → (p_isLetter σ3 v4) ∧ ((f_isLetter σ3 v4 = true → (-2147483648 ≤ v5 ∧ v5 < 2147483648) ∧ ((v5 < 1 → px "java/lang/IllegalArgumentException" (Sum.inl (y, σ3))) ∧ (¬ v5 < 1 → ((v5 ≤ 9 → (0 ≤ r2 ∧ r2 < (σ3 22 0 0 0)) ∧ (p_sizeH σ3 r2) ∧ (-2147483648 ≤ (f_sizeH σ3 r2) ∧ (f_sizeH σ3 r2) < 2147483648) ∧ (((f_sizeH σ3 r2) < 5 → P_X4_addHabit_1 K y σ3 v2 v3 v4 v5 r2 r2) ∧ (¬ (f_sizeH σ3 r2) < 5 → px "java/lang/IllegalStateException" (Sum.inl (y, σ3))))) ∧ (¬ v5 ≤ 9 → px "java/lang/IllegalArgumentException" (Sum.inl (y, σ3))))))) ∧ (¬ (f_isLetter σ3 v4 = true) → px "java/lang/IllegalArgumentException" (Sum.inl (y, σ3))))))) ∧ (¬ v2 ≤ 4 → px "java/lang/IllegalArgumentException" (Sum.inl (y, σ3))))))) : P_X4_addHabit_0 K y σ v1 v2 v3 v4 v5 := by
  refine g_aload_n C.1 0 dX4_addHabit_0 rfl rfl ?_
  refine g_iload_n C.1 1 dX4_addHabit_1 rfl rfl ?_
  obtain ⟨hp1, h⟩ := h
  obtain ⟨hx9, h⟩ := h
  refine c_callX C.1 C.2.2.1 C.2.2.2.2.2 C.2.2.2.1 C.2.2.2.2.1 (h_scribeOf K.l y σ v1 hp1) (ci := 5) (q := (RX4, TX4, 10)) rfl (c_recv rfl ⟨rfl, rfl⟩) (fun ht => cwV 1 ht gX4_addHabit_X4_scribeOf rfl rfl rfl (by decide +kernel) ⟨Nat.le_of_ble_eq_true rfl, Nat.le_of_ble_eq_true rfl⟩) rfl rfl (Nat.le_of_ble_eq_true rfl) ⟨Nat.le_of_ble_eq_true rfl, Nat.le_of_ble_eq_true rfl⟩ ⟨Nat.le_of_ble_eq_true rfl, Nat.le_of_ble_eq_true rfl⟩ dX4_addHabit_2 (fun E u9 hq => ⟨Sum.inl (y, u9), hx9 E u9 hq, fun _ _ w9 => w9⟩) (fun r2 σ3 hq => ?_)
  have h := h r2 σ3 hq
  show G K (CL y σ3) (1, 6) [(0, .ref (y.1 0 0 0)), (1, .int (iZ v1)), (2, .int (iZ v2)), (3, .int (iZ v3)), (4, .int (iZ v4)), (5, .int (iZ v5))] 5 [.ref (y.1 13 r2 0)]
  refine g_astore C.1 (i := 6) (loc' := [(6, .ref (y.1 13 r2 0)), (0, .ref (y.1 0 0 0)), (1, .int (iZ v1)), (2, .int (iZ v2)), (3, .int (iZ v3)), (4, .int (iZ v4)), (5, .int (iZ v5))]) C.2.1 dX4_addHabit_5 (by decide) rfl ?_
  refine g_iload_n C.1 3 dX4_addHabit_7 rfl rfl ?_
  obtain ⟨hc4, h⟩ := h
  refine g_if_lt C.1 (tgt := 16) dX4_addHabit_8 (by decide) hc4 (fun hc => ?_) (fun hc => ?_)
  · have h := h.1 hc
    exact y_throw (u := (Sum.inl (y, σ3) : US)) C.1 C.2.2.1 C.2.2.2.1 C.2.2.2.2.1 C.2.2.2.2.2 (E := "java/lang/IllegalArgumentException") (text := "no such kind") (ik := 62) (is := 118) (ic := 66) (by decide +kernel) lk_X4_addHabit_cl62 lk_X4_addHabit_ini_IllegalArgumentException (by decide +kernel) at_X4_addHabit_66 (by decide +kernel) (by decide +kernel) (by decide +kernel) dX4_addHabit_16 dX4_addHabit_19 dX4_addHabit_20 dX4_addHabit_22 dX4_addHabit_25 (Nat.le_of_ble_eq_true rfl) (Nat.le_of_ble_eq_true rfl) (Nat.le_of_ble_eq_true rfl) (Nat.le_of_ble_eq_true rfl) ⟨(Nat.le_of_ble_eq_true rfl), (Nat.le_of_ble_eq_true rfl)⟩ h
  · have h := h.2 hc
    refine g_iload_n C.1 3 dX4_addHabit_11 rfl rfl ?_
    refine g_iconst C.1 (z := 4) dX4_addHabit_12 ?_
    refine g_icmp_le C.1 (tgt := 26) dX4_addHabit_13 (by decide) hc4 (by decide) (fun hc => ?_) (fun hc => ?_)
    · have h := h.1 hc
      refine g_iload_n C.1 4 dX4_addHabit_26 rfl rfl ?_
      obtain ⟨hp5, h⟩ := h
      refine c_callS C.1 C.2.2.2.1 C.2.2.2.2.1 (h_isLetter K.l y σ3 v3 hp5) (fun ht => va_cwS 1 ht gX4_addHabit_X4_isLetter rfl rfl rfl (by decide +kernel) ⟨Nat.le_of_ble_eq_true rfl, Nat.le_of_ble_eq_true rfl⟩) rfl rfl (Nat.le_of_ble_eq_true rfl) ⟨Nat.le_of_ble_eq_true rfl, Nat.le_of_ble_eq_true rfl⟩ dX4_addHabit_27 (fun r σ9 hq => ?_)
      rw [hq.1, hq.2]
      show G K (CL y σ3) (1, 6) [(6, .ref (y.1 13 r2 0)), (0, .ref (y.1 0 0 0)), (1, .int (iZ v1)), (2, .int (iZ v2)), (3, .int (iZ v3)), (4, .int (iZ v4)), (5, .int (iZ v5))] 30 [.int (iZ (if f_isLetter σ3 v3 = true then 1 else 0))]
      refine g_ifb_eq C.1 (tgt := 41) dX4_addHabit_30 (by decide) (fun hc => ?_) (fun hc => ?_)
      · have h := h.1 hc
        exact y_throw (u := (Sum.inl (y, σ3) : US)) C.1 C.2.2.1 C.2.2.2.1 C.2.2.2.2.1 C.2.2.2.2.2 (E := "java/lang/IllegalArgumentException") (text := "no such letter") (ik := 62) (is := 124) (ic := 66) (by decide +kernel) lk_X4_addHabit_cl62 lk_X4_addHabit_ini_IllegalArgumentException (by decide +kernel) at_X4_addHabit_66 (by decide +kernel) (by decide +kernel) (by decide +kernel) dX4_addHabit_41 dX4_addHabit_44 dX4_addHabit_45 dX4_addHabit_47 dX4_addHabit_50 (Nat.le_of_ble_eq_true rfl) (Nat.le_of_ble_eq_true rfl) (Nat.le_of_ble_eq_true rfl) (Nat.le_of_ble_eq_true rfl) ⟨(Nat.le_of_ble_eq_true rfl), (Nat.le_of_ble_eq_true rfl)⟩ h
      · have h := h.2 hc
        refine g_iload C.1 5 dX4_addHabit_33 rfl ?_
        obtain ⟨hp6, h⟩ := h
        refine c_callS C.1 C.2.2.2.1 C.2.2.2.2.1 (h_isLetter K.l y σ3 v4 hp6) (fun ht => va_cwS 1 ht gX4_addHabit_X4_isLetter rfl rfl rfl (by decide +kernel) ⟨Nat.le_of_ble_eq_true rfl, Nat.le_of_ble_eq_true rfl⟩) rfl rfl (Nat.le_of_ble_eq_true rfl) ⟨Nat.le_of_ble_eq_true rfl, Nat.le_of_ble_eq_true rfl⟩ dX4_addHabit_35 (fun r σ9 hq => ?_)
        rw [hq.1, hq.2]
        show G K (CL y σ3) (1, 6) [(6, .ref (y.1 13 r2 0)), (0, .ref (y.1 0 0 0)), (1, .int (iZ v1)), (2, .int (iZ v2)), (3, .int (iZ v3)), (4, .int (iZ v4)), (5, .int (iZ v5))] 38 [.int (iZ (if f_isLetter σ3 v4 = true then 1 else 0))]
        refine g_ifb_ne C.1 (tgt := 51) dX4_addHabit_38 (by decide) (fun hc => ?_) (fun hc => ?_)
        · have h := h.1 hc
          refine g_iload C.1 6 dX4_addHabit_51 rfl ?_
          refine g_iconst C.1 (z := 1) dX4_addHabit_53 ?_
          obtain ⟨hc7, h⟩ := h
          refine g_icmp_lt C.1 (tgt := 64) dX4_addHabit_54 (by decide) hc7 (by decide) (fun hc => ?_) (fun hc => ?_)
          · have h := h.1 hc
            exact y_throw (u := (Sum.inl (y, σ3) : US)) C.1 C.2.2.1 C.2.2.2.1 C.2.2.2.2.1 C.2.2.2.2.2 (E := "java/lang/IllegalArgumentException") (text := "no such n") (ik := 62) (is := 126) (ic := 66) (by decide +kernel) lk_X4_addHabit_cl62 lk_X4_addHabit_ini_IllegalArgumentException (by decide +kernel) at_X4_addHabit_66 (by decide +kernel) (by decide +kernel) (by decide +kernel) dX4_addHabit_64 dX4_addHabit_67 dX4_addHabit_68 dX4_addHabit_70 dX4_addHabit_73 (Nat.le_of_ble_eq_true rfl) (Nat.le_of_ble_eq_true rfl) (Nat.le_of_ble_eq_true rfl) (Nat.le_of_ble_eq_true rfl) ⟨(Nat.le_of_ble_eq_true rfl), (Nat.le_of_ble_eq_true rfl)⟩ h
          · have h := h.2 hc
            refine g_iload C.1 6 dX4_addHabit_57 rfl ?_
            refine g_bipush C.1 (z := 9) dX4_addHabit_59 (by decide) ?_
            refine g_icmp_le C.1 (tgt := 74) dX4_addHabit_61 (by decide) hc7 (by decide) (fun hc => ?_) (fun hc => ?_)
            · have h := h.1 hc
              refine g_aload C.1 0 dX4_addHabit_74 rfl ?_
              obtain ⟨hd8, h⟩ := h
              refine c_get C.1 (ci := 3) (q := (RX2, TX2, 1)) rfl rfl inX4_addHabit_X2 0 (by decide) (v := .ref (y.1 14 r2 0)) rfl lk_X4_addHabit_f128 rfl dX4_addHabit_76 ⟨hd8.1, hd8.2, rfl⟩ ?_
              obtain ⟨hp9, h⟩ := h
              refine c_callV C.1 C.2.2.2.1 C.2.2.2.2.1 (h_sizeH K.l y σ3 r2 hp9) (ci := 0) (q := (RJx4a65c, TJx4a65c, 3)) rfl (c_recv rfl ⟨hd8.1, hd8.2, rfl⟩) (fun ht => cwV 0 ht gX4_addHabit_Jx4a65c_size_8abf5 rfl rfl rfl (by decide +kernel) ⟨Nat.le_of_ble_eq_true rfl, Nat.le_of_ble_eq_true rfl⟩) rfl rfl (Nat.le_of_ble_eq_true rfl) ⟨Nat.le_of_ble_eq_true rfl, Nat.le_of_ble_eq_true rfl⟩ dX4_addHabit_79 (fun r σ9 hq => ?_)
              rw [hq.1, hq.2]
              show G K (CL y σ3) (1, 6) [(6, .ref (y.1 13 r2 0)), (0, .ref (y.1 0 0 0)), (1, .int (iZ v1)), (2, .int (iZ v2)), (3, .int (iZ v3)), (4, .int (iZ v4)), (5, .int (iZ v5))] 82 [.int (iZ (f_sizeH σ3 r2))]
              refine g_iconst C.1 (z := 5) dX4_addHabit_82 ?_
              obtain ⟨hc10, h⟩ := h
              refine g_icmp_lt C.1 (tgt := 96) dX4_addHabit_83 (by decide) hc10 (by decide) (fun hc => ?_) (fun hc => ?_)
              · have h := h.1 hc
                refine g_aload C.1 0 dX4_addHabit_96 rfl ?_
                refine c_get C.1 (ci := 3) (q := (RX2, TX2, 1)) rfl rfl inX4_addHabit_X2 0 (by decide) (v := .ref (y.1 14 r2 0)) rfl lk_X4_addHabit_f128 rfl dX4_addHabit_98 ⟨hd8.1, hd8.2, rfl⟩ ?_
                exact g_sub [3, 4, 5, 6, 0] rfl h
              · have h := h.2 hc
                exact y_throw (u := (Sum.inl (y, σ3) : US)) C.1 C.2.2.1 C.2.2.2.1 C.2.2.2.2.1 C.2.2.2.2.2 (E := "java/lang/IllegalStateException") (text := "the scribe has enough habits") (ik := 51) (is := 131) (ic := 55) (by decide +kernel) lk_X4_addHabit_cl51 lk_X4_addHabit_ini_IllegalStateException (by decide +kernel) at_X4_addHabit_55 (by decide +kernel) (by decide +kernel) (by decide +kernel) dX4_addHabit_86 dX4_addHabit_89 dX4_addHabit_90 dX4_addHabit_92 dX4_addHabit_95 (Nat.le_of_ble_eq_true rfl) (Nat.le_of_ble_eq_true rfl) (Nat.le_of_ble_eq_true rfl) (Nat.le_of_ble_eq_true rfl) ⟨(Nat.le_of_ble_eq_true rfl), (Nat.le_of_ble_eq_true rfl)⟩ h
            · have h := h.2 hc
              exact y_throw (u := (Sum.inl (y, σ3) : US)) C.1 C.2.2.1 C.2.2.2.1 C.2.2.2.2.1 C.2.2.2.2.2 (E := "java/lang/IllegalArgumentException") (text := "no such n") (ik := 62) (is := 126) (ic := 66) (by decide +kernel) lk_X4_addHabit_cl62 lk_X4_addHabit_ini_IllegalArgumentException (by decide +kernel) at_X4_addHabit_66 (by decide +kernel) (by decide +kernel) (by decide +kernel) dX4_addHabit_64 dX4_addHabit_67 dX4_addHabit_68 dX4_addHabit_70 dX4_addHabit_73 (Nat.le_of_ble_eq_true rfl) (Nat.le_of_ble_eq_true rfl) (Nat.le_of_ble_eq_true rfl) (Nat.le_of_ble_eq_true rfl) ⟨(Nat.le_of_ble_eq_true rfl), (Nat.le_of_ble_eq_true rfl)⟩ h
        · have h := h.2 hc
          exact y_throw (u := (Sum.inl (y, σ3) : US)) C.1 C.2.2.1 C.2.2.2.1 C.2.2.2.2.1 C.2.2.2.2.2 (E := "java/lang/IllegalArgumentException") (text := "no such letter") (ik := 62) (is := 124) (ic := 66) (by decide +kernel) lk_X4_addHabit_cl62 lk_X4_addHabit_ini_IllegalArgumentException (by decide +kernel) at_X4_addHabit_66 (by decide +kernel) (by decide +kernel) (by decide +kernel) dX4_addHabit_41 dX4_addHabit_44 dX4_addHabit_45 dX4_addHabit_47 dX4_addHabit_50 (Nat.le_of_ble_eq_true rfl) (Nat.le_of_ble_eq_true rfl) (Nat.le_of_ble_eq_true rfl) (Nat.le_of_ble_eq_true rfl) ⟨(Nat.le_of_ble_eq_true rfl), (Nat.le_of_ble_eq_true rfl)⟩ h
    · have h := h.2 hc
      exact y_throw (u := (Sum.inl (y, σ3) : US)) C.1 C.2.2.1 C.2.2.2.1 C.2.2.2.2.1 C.2.2.2.2.2 (E := "java/lang/IllegalArgumentException") (text := "no such kind") (ik := 62) (is := 118) (ic := 66) (by decide +kernel) lk_X4_addHabit_cl62 lk_X4_addHabit_ini_IllegalArgumentException (by decide +kernel) at_X4_addHabit_66 (by decide +kernel) (by decide +kernel) (by decide +kernel) dX4_addHabit_16 dX4_addHabit_19 dX4_addHabit_20 dX4_addHabit_22 dX4_addHabit_25 (Nat.le_of_ble_eq_true rfl) (Nat.le_of_ble_eq_true rfl) (Nat.le_of_ble_eq_true rfl) (Nat.le_of_ble_eq_true rfl) ⟨(Nat.le_of_ble_eq_true rfl), (Nat.le_of_ble_eq_true rfl)⟩ h
theorem m_X4_addHabit {l : Launch} {y : LT} {σ : CS} {v1 v2 v3 v4 v5 : Int} {post : Int → US → Prop} {px : String → US → Prop} (h : ∀ K : KT, K.l = l → C_X4_addHabit K y post px → P_X4_addHabit_0 K y σ v1 v2 v3 v4 v5) : vMet l yX4_addHabit wsX4_addHabit rm_X4_addHabit y.2.2 UW rkI [.ref (y.1 0 0 0), .int (iZ v1), .int (iZ v2), .int (iZ v3), .int (iZ v4), .int (iZ v5)] (Sum.inl (y, σ)) post px :=
  vMet.of (maxL := 7) (by decide +kernel) rfl (Nat.le_of_ble_eq_true rfl) (fun K h1 h2 h3 h4 h5 h6 h7 => h K h1 ⟨h2, h3, h4, h5, h6, h7⟩)

/-! X4_dropHabit -/
abbrev rm_X4_dropHabit : Room := { frames := 8, cells := 10, slots := 300, locals := 230 }
set_option maxRecDepth 20000 in
theorem at_X4_dropHabit_100 : ∀ w ∈ (vx_atS RX4 100 "java/lang/IndexOutOfBoundsException" ["java/lang/RuntimeException", "java/lang/Exception"]).filter goodWord, w ∈ wsX4_dropHabit := fun w h => by
  unfold wsX4_dropHabit
  simp only [List.mem_cons, List.mem_append]
  simp only [h, or_true, true_or]
set_option maxRecDepth 20000 in
theorem inX4_dropHabit_X2 : ∀ w ∈ wsX20, w ∈ wsX4_dropHabit := by decide +kernel
theorem lk_X4_dropHabit_cl96 : Cond.classLink RX4 96 "java/lang/IndexOutOfBoundsException" ∈ wsX4_dropHabit := List.mem_of_getElem? (i := 1) (by decide +kernel)
theorem lk_X4_dropHabit_ini_IndexOutOfBoundsException : Cond.initialized "java/lang/IndexOutOfBoundsException" ∈ wsX4_dropHabit := List.mem_of_getElem? (i := 2) (by decide +kernel)
theorem lk_X4_dropHabit_f128 : Cond.fieldLink RX4 128 "CopyHouse$Scribe" "habits" "Ljava/util/ArrayList;" ∈ wsX4_dropHabit := List.mem_of_getElem? (i := 3) (by decide +kernel)
def C_X4_dropHabit (K : KT) (y : LT) (post : Int → US → Prop) (px : String → US → Prop) : Prop := kOK K cX4_dropHabit RX4 wsX4_dropHabit (some .int) rm_X4_dropHabit ∧ K.nL = 4 ∧ kQX K UW rkI post px rm_X4_dropHabit ∧ SF y.2.2 K.A K.s K.s.heap ∧ K.l.stackTraces = false ∧ kNX K
def P_X4_dropHabit_0 (K : KT) (y : LT) (σ : CS) (v1 v2 : Int) : Prop := G K (CL y σ) (0, 0) [(0, .ref (y.1 0 0 0)), (1, .int (iZ v1)), (2, .int (iZ v2))] 0 []
def P_X4_dropHabit_1 (K : KT) (y : LT) (σ : CS) (v3 s0 s1 : Int) : Prop := G K (CL y σ) (1, 6) [(3, .ref (y.1 13 v3 0))] 36 [.int (iZ s0), .ref (y.1 14 s1 0)]
set_option maxRecDepth 100000 in
set_option maxHeartbeats 4000000 in
theorem b_X4_dropHabit_0 {K : KT} {y : LT} {post : Int → US → Prop} {px : String → US → Prop} (C : C_X4_dropHabit K y post px) {p_scribeOf : CS → Int → Prop} {o_scribeOf : CS → Int → Int → CS → Prop} {x_scribeOf : CS → Int → String → CS → Prop} (h_scribeOf : H_X4_scribeOf p_scribeOf o_scribeOf x_scribeOf) {p_sizeH : CS → Int → Prop} {f_sizeH : CS → Int → Int} (h_sizeH : H_sizeH p_sizeH f_sizeH) {σ : CS} {v1 v2 : Int} (h : (p_scribeOf σ v1) ∧ (∀ (E : String) (u9 : CS), x_scribeOf σ v1 E u9 → px E (Sum.inl (y, u9))) ∧ ∀ (r2 : Int) (σ3 : CS), o_scribeOf σ v1 r2 σ3 → (-2147483648 ≤ v2 ∧ v2 < 2147483648) ∧ ((v2 < 0 → px "java/lang/IndexOutOfBoundsException" (Sum.inl (y, σ3))) ∧ (¬ v2 < 0 → (0 ≤ r2 ∧ r2 < (σ3 22 0 0 0)) ∧ (p_sizeH σ3 r2) ∧ (-2147483648 ≤ (f_sizeH σ3 r2) ∧ (f_sizeH σ3 r2) < 2147483648) ∧ ((v2 < (f_sizeH σ3 r2) → P_X4_dropHabit_1 K y σ3 r2 v2 r2) ∧ (¬ v2 < (f_sizeH σ3 r2) → px "java/lang/IndexOutOfBoundsException" (Sum.inl (y, σ3))))))) : P_X4_dropHabit_0 K y σ v1 v2 := by
  refine g_aload_n C.1 0 dX4_dropHabit_0 rfl rfl ?_
  refine g_iload_n C.1 1 dX4_dropHabit_1 rfl rfl ?_
  obtain ⟨hp1, h⟩ := h
  obtain ⟨hx9, h⟩ := h
  refine c_callX C.1 C.2.2.1 C.2.2.2.2.2 C.2.2.2.1 C.2.2.2.2.1 (h_scribeOf K.l y σ v1 hp1) (ci := 5) (q := (RX4, TX4, 10)) rfl (c_recv rfl ⟨rfl, rfl⟩) (fun ht => cwV 1 ht gX4_dropHabit_X4_scribeOf rfl rfl rfl (by decide +kernel) ⟨Nat.le_of_ble_eq_true rfl, Nat.le_of_ble_eq_true rfl⟩) rfl rfl (Nat.le_of_ble_eq_true rfl) ⟨Nat.le_of_ble_eq_true rfl, Nat.le_of_ble_eq_true rfl⟩ ⟨Nat.le_of_ble_eq_true rfl, Nat.le_of_ble_eq_true rfl⟩ dX4_dropHabit_2 (fun E u9 hq => ⟨Sum.inl (y, u9), hx9 E u9 hq, fun _ _ w9 => w9⟩) (fun r2 σ3 hq => ?_)
  have h := h r2 σ3 hq
  show G K (CL y σ3) (1, 6) [(0, .ref (y.1 0 0 0)), (1, .int (iZ v1)), (2, .int (iZ v2))] 5 [.ref (y.1 13 r2 0)]
  refine g_astore_n C.1 (i := 3) (loc' := [(3, .ref (y.1 13 r2 0)), (0, .ref (y.1 0 0 0)), (1, .int (iZ v1)), (2, .int (iZ v2))]) C.2.1 dX4_dropHabit_5 rfl (by decide) rfl ?_
  refine g_iload_n C.1 3 dX4_dropHabit_6 rfl rfl ?_
  obtain ⟨hc4, h⟩ := h
  refine g_if_lt C.1 (tgt := 21) dX4_dropHabit_7 (by decide) hc4 (fun hc => ?_) (fun hc => ?_)
  · have h := h.1 hc
    exact y_throw (u := (Sum.inl (y, σ3) : US)) C.1 C.2.2.1 C.2.2.2.1 C.2.2.2.2.1 C.2.2.2.2.2 (E := "java/lang/IndexOutOfBoundsException") (text := "no such habit") (ik := 96) (is := 138) (ic := 100) (by decide +kernel) lk_X4_dropHabit_cl96 lk_X4_dropHabit_ini_IndexOutOfBoundsException (by decide +kernel) at_X4_dropHabit_100 (by decide +kernel) (by decide +kernel) (by decide +kernel) dX4_dropHabit_21 dX4_dropHabit_24 dX4_dropHabit_25 dX4_dropHabit_27 dX4_dropHabit_30 (Nat.le_of_ble_eq_true rfl) (Nat.le_of_ble_eq_true rfl) (Nat.le_of_ble_eq_true rfl) (Nat.le_of_ble_eq_true rfl) ⟨(Nat.le_of_ble_eq_true rfl), (Nat.le_of_ble_eq_true rfl)⟩ h
  · have h := h.2 hc
    refine g_iload_n C.1 3 dX4_dropHabit_10 rfl rfl ?_
    refine g_aload_n C.1 0 dX4_dropHabit_11 rfl rfl ?_
    obtain ⟨hd5, h⟩ := h
    refine c_get C.1 (ci := 3) (q := (RX2, TX2, 1)) rfl rfl inX4_dropHabit_X2 0 (by decide) (v := .ref (y.1 14 r2 0)) rfl lk_X4_dropHabit_f128 rfl dX4_dropHabit_12 ⟨hd5.1, hd5.2, rfl⟩ ?_
    obtain ⟨hp6, h⟩ := h
    refine c_callV C.1 C.2.2.2.1 C.2.2.2.2.1 (h_sizeH K.l y σ3 r2 hp6) (ci := 0) (q := (RJx4a65c, TJx4a65c, 3)) rfl (c_recv rfl ⟨hd5.1, hd5.2, rfl⟩) (fun ht => cwV 0 ht gX4_dropHabit_Jx4a65c_size_8abf5 rfl rfl rfl (by decide +kernel) ⟨Nat.le_of_ble_eq_true rfl, Nat.le_of_ble_eq_true rfl⟩) rfl rfl (Nat.le_of_ble_eq_true rfl) ⟨Nat.le_of_ble_eq_true rfl, Nat.le_of_ble_eq_true rfl⟩ dX4_dropHabit_15 (fun r σ9 hq => ?_)
    rw [hq.1, hq.2]
    show G K (CL y σ3) (1, 6) [(3, .ref (y.1 13 r2 0)), (0, .ref (y.1 0 0 0)), (1, .int (iZ v1)), (2, .int (iZ v2))] 18 [.int (iZ (f_sizeH σ3 r2)), .int (iZ v2)]
    obtain ⟨hc7, h⟩ := h
    refine g_icmp_lt C.1 (tgt := 31) dX4_dropHabit_18 (by decide) hc4 hc7 (fun hc => ?_) (fun hc => ?_)
    · have h := h.1 hc
      refine g_aload_n C.1 0 dX4_dropHabit_31 rfl rfl ?_
      refine c_get C.1 (ci := 3) (q := (RX2, TX2, 1)) rfl rfl inX4_dropHabit_X2 0 (by decide) (v := .ref (y.1 14 r2 0)) rfl lk_X4_dropHabit_f128 rfl dX4_dropHabit_32 ⟨hd5.1, hd5.2, rfl⟩ ?_
      refine g_iload_n C.1 3 dX4_dropHabit_35 rfl rfl ?_
      exact g_sub [0] rfl h
    · have h := h.2 hc
      exact y_throw (u := (Sum.inl (y, σ3) : US)) C.1 C.2.2.1 C.2.2.2.1 C.2.2.2.2.1 C.2.2.2.2.2 (E := "java/lang/IndexOutOfBoundsException") (text := "no such habit") (ik := 96) (is := 138) (ic := 100) (by decide +kernel) lk_X4_dropHabit_cl96 lk_X4_dropHabit_ini_IndexOutOfBoundsException (by decide +kernel) at_X4_dropHabit_100 (by decide +kernel) (by decide +kernel) (by decide +kernel) dX4_dropHabit_21 dX4_dropHabit_24 dX4_dropHabit_25 dX4_dropHabit_27 dX4_dropHabit_30 (Nat.le_of_ble_eq_true rfl) (Nat.le_of_ble_eq_true rfl) (Nat.le_of_ble_eq_true rfl) (Nat.le_of_ble_eq_true rfl) ⟨(Nat.le_of_ble_eq_true rfl), (Nat.le_of_ble_eq_true rfl)⟩ h
theorem m_X4_dropHabit {l : Launch} {y : LT} {σ : CS} {v1 v2 : Int} {post : Int → US → Prop} {px : String → US → Prop} (h : ∀ K : KT, K.l = l → C_X4_dropHabit K y post px → P_X4_dropHabit_0 K y σ v1 v2) : vMet l yX4_dropHabit wsX4_dropHabit rm_X4_dropHabit y.2.2 UW rkI [.ref (y.1 0 0 0), .int (iZ v1), .int (iZ v2)] (Sum.inl (y, σ)) post px :=
  vMet.of (maxL := 4) (by decide +kernel) rfl (Nat.le_of_ble_eq_true rfl) (fun K h1 h2 h3 h4 h5 h6 h7 => h K h1 ⟨h2, h3, h4, h5, h6, h7⟩)

/-! X4_copy -/
abbrev rm_X4_copy : Room := { frames := 8, cells := 10, slots := 300, locals := 230 }
set_option maxRecDepth 20000 in
theorem inX4_copy_X1 : ∀ w ∈ wsX10, w ∈ wsX4_copy := by decide +kernel
set_option maxRecDepth 20000 in
theorem inX4_copy_X4 : ∀ w ∈ wsX40, w ∈ wsX4_copy := by decide +kernel
set_option maxRecDepth 20000 in
theorem at_X4_copy_55 : ∀ w ∈ (vx_atS RX4 55 "java/lang/IllegalStateException" ["java/lang/RuntimeException", "java/lang/Exception"]).filter goodWord, w ∈ wsX4_copy := fun w h => by
  unfold wsX4_copy
  simp only [List.mem_cons, List.mem_append]
  simp only [h, or_true, true_or]
theorem lk_X4_copy_f153 : Cond.fieldLink RX4 153 "CopyHouse$Manuscript" "there" "Z" ∈ wsX4_copy := List.mem_of_getElem? (i := 3) (by decide +kernel)
theorem lk_X4_copy_f20 : Cond.fieldLink RX4 20 "CopyHouse" "manuscripts" "Ljava/util/ArrayList;" ∈ wsX4_copy := List.mem_of_getElem? (i := 4) (by decide +kernel)
theorem lk_X4_copy_cl51 : Cond.classLink RX4 51 "java/lang/IllegalStateException" ∈ wsX4_copy := List.mem_of_getElem? (i := 1) (by decide +kernel)
theorem lk_X4_copy_ini_IllegalStateException : Cond.initialized "java/lang/IllegalStateException" ∈ wsX4_copy := List.mem_of_getElem? (i := 2) (by decide +kernel)
def C_X4_copy (K : KT) (y : LT) (post : Int → US → Prop) (px : String → US → Prop) : Prop := kOK K cX4_copy RX4 wsX4_copy (some .int) rm_X4_copy ∧ K.nL = 5 ∧ kQX K UW rkI post px rm_X4_copy ∧ SF y.2.2 K.A K.s K.s.heap ∧ K.l.stackTraces = false ∧ kNX K
def P_X4_copy_0 (K : KT) (y : LT) (σ : CS) (v1 v2 : Int) : Prop := G K (CL y σ) (0, 0) [(0, .ref (y.1 0 0 0)), (1, .int (iZ v1)), (2, .int (iZ v2))] 0 []
def P_X4_copy_1 (K : KT) (y : LT) (σ : CS) (s0 s1 : Int) : Prop := G K (CL y σ) (2, 12) [] 63 [.int (iZ s0), vM y s1, .ref (y.1 0 0 0)]
set_option maxRecDepth 100000 in
set_option maxHeartbeats 4000000 in
theorem b_X4_copy_0 {K : KT} {y : LT} {post : Int → US → Prop} {px : String → US → Prop} (C : C_X4_copy K y post px) {p_manuscriptOf : CS → Int → Prop} {o_manuscriptOf : CS → Int → Int → CS → Prop} {x_manuscriptOf : CS → Int → String → CS → Prop} (h_manuscriptOf : H_X4_manuscriptOf p_manuscriptOf o_manuscriptOf x_manuscriptOf) {p_scribeOf : CS → Int → Prop} {o_scribeOf : CS → Int → Int → CS → Prop} {x_scribeOf : CS → Int → String → CS → Prop} (h_scribeOf : H_X4_scribeOf p_scribeOf o_scribeOf x_scribeOf) {p_sizeM : CS → Prop} {f_sizeM : CS → Int} (h_sizeM : H_sizeM p_sizeM f_sizeM) {p_draftCopy : CS → Int → Int → Int → Prop} {o_draftCopy : CS → Int → Int → Int → Int → CS → Prop} (h_draftCopy : H_X4_draftCopy p_draftCopy o_draftCopy) {σ : CS} {v1 v2 : Int} (h : (p_manuscriptOf σ v1) ∧ (∀ (E : String) (u9 : CS), x_manuscriptOf σ v1 E u9 → px E (Sum.inl (y, u9))) ∧ ∀ (r2 : Int) (σ3 : CS), o_manuscriptOf σ v1 r2 σ3 → (p_scribeOf σ3 v2) ∧ (∀ (E : String) (u9 : CS), x_scribeOf σ3 v2 E u9 → px E (Sum.inl (y, u9))) ∧ ∀ (r5 : Int) (σ6 : CS), o_scribeOf σ3 v2 r5 σ6 → (0 ≤ r2 ∧ r2 < (σ6 21 0 0 0)) ∧ (-2147483648 ≤ (σ6 12 r2 0 0) ∧ (σ6 12 r2 0 0) < 2147483648) ∧ ((¬ (σ6 12 r2 0 0) = 0 → (p_sizeM σ6) ∧ (-2147483648 ≤ (f_sizeM σ6) ∧ (f_sizeM σ6) < 2147483648) ∧ (((f_sizeM σ6) < 24 → (p_draftCopy σ6 r2 r5 1) ∧ ∀ (r12 : Int) (σ13 : CS), o_draftCopy σ6 r2 r5 1 r12 σ13 → P_X4_copy_1 K y σ13 v2 r2) ∧ (¬ (f_sizeM σ6) < 24 → px "java/lang/IllegalStateException" (Sum.inl (y, σ6))))) ∧ ((σ6 12 r2 0 0) = 0 → px "java/lang/IllegalStateException" (Sum.inl (y, σ6))))) : P_X4_copy_0 K y σ v1 v2 := by
  refine g_aload_n C.1 0 dX4_copy_0 rfl rfl ?_
  refine g_iload_n C.1 1 dX4_copy_1 rfl rfl ?_
  obtain ⟨hp1, h⟩ := h
  obtain ⟨hx9, h⟩ := h
  refine c_callX C.1 C.2.2.1 C.2.2.2.2.2 C.2.2.2.1 C.2.2.2.2.1 (h_manuscriptOf K.l y σ v1 hp1) (ci := 5) (q := (RX4, TX4, 10)) rfl (c_recv rfl ⟨rfl, rfl⟩) (fun ht => cwV 1 ht gX4_copy_X4_manuscriptOf rfl rfl rfl (by decide +kernel) ⟨Nat.le_of_ble_eq_true rfl, Nat.le_of_ble_eq_true rfl⟩) rfl rfl (Nat.le_of_ble_eq_true rfl) ⟨Nat.le_of_ble_eq_true rfl, Nat.le_of_ble_eq_true rfl⟩ ⟨Nat.le_of_ble_eq_true rfl, Nat.le_of_ble_eq_true rfl⟩ dX4_copy_2 (fun E u9 hq => ⟨Sum.inl (y, u9), hx9 E u9 hq, fun _ _ w9 => w9⟩) (fun r2 σ3 hq => ?_)
  have h := h r2 σ3 hq
  show G K (CL y σ3) (1, 6) [(0, .ref (y.1 0 0 0)), (1, .int (iZ v1)), (2, .int (iZ v2))] 5 [vM y r2]
  refine g_astoreM_n C.1 (i := 3) (loc' := [(0, .ref (y.1 0 0 0)), (1, .int (iZ v1)), (2, .int (iZ v2))]) C.2.1 dX4_copy_5 rfl (by decide) rfl ?_
  refine g_aload_n C.1 1 dX4_copy_6 rfl rfl ?_
  refine g_iload_n C.1 3 dX4_copy_7 rfl rfl ?_
  obtain ⟨hp4, h⟩ := h
  obtain ⟨hx9, h⟩ := h
  refine c_callX C.1 C.2.2.1 C.2.2.2.2.2 C.2.2.2.1 C.2.2.2.2.1 (h_scribeOf K.l y σ3 v2 hp4) (ci := 5) (q := (RX4, TX4, 10)) rfl (c_recv rfl ⟨rfl, rfl⟩) (fun ht => cwV 1 ht gX4_copy_X4_scribeOf rfl rfl rfl (by decide +kernel) ⟨Nat.le_of_ble_eq_true rfl, Nat.le_of_ble_eq_true rfl⟩) rfl rfl (Nat.le_of_ble_eq_true rfl) ⟨Nat.le_of_ble_eq_true rfl, Nat.le_of_ble_eq_true rfl⟩ ⟨Nat.le_of_ble_eq_true rfl, Nat.le_of_ble_eq_true rfl⟩ dX4_copy_8 (fun E u9 hq => ⟨Sum.inl (y, u9), hx9 E u9 hq, fun _ _ w9 => w9⟩) (fun r5 σ6 hq => ?_)
  have h := h r5 σ6 hq
  show G K (CL y σ6) (2, 12) [(3, vM y r2), (0, .ref (y.1 0 0 0)), (1, .int (iZ v1)), (2, .int (iZ v2))] 11 [.ref (y.1 13 r5 0)]
  refine g_astore C.1 (i := 4) (loc' := [(4, .ref (y.1 13 r5 0)), (3, vM y r2), (0, .ref (y.1 0 0 0)), (1, .int (iZ v1)), (2, .int (iZ v2))]) C.2.1 dX4_copy_11 (by decide) (by simp [vM_cat, cat_i, cat_r, cat_l]) ?_
  refine g_aloadM_n C.1 1 dX4_copy_13 rfl rfl ?_
  obtain ⟨hd7, h⟩ := h
  refine c_atM hd7.1 ?_
  refine c_get C.1 (ci := 2) (q := (RX1, TX1, 6)) rfl rfl inX4_copy_X1 5 (by decide) (v := .int (iZ (σ6 12 r2 0 0))) rfl lk_X4_copy_f153 rfl dX4_copy_14 ⟨hd7.1, hd7.2, rfl⟩ ?_
  obtain ⟨hc8, h⟩ := h
  refine g_if_ne C.1 (tgt := 30) dX4_copy_17 (by decide) hc8 (fun hc => ?_) (fun hc => ?_)
  · have h := h.1 hc
    refine g_aload_n C.1 2 dX4_copy_30 rfl rfl ?_
    refine c_get C.1 (ci := 5) (q := (RX4, TX4, 10)) rfl rfl inX4_copy_X4 2 (by decide) (v := .ref (y.1 2 0 0)) rfl lk_X4_copy_f20 rfl dX4_copy_31 ⟨rfl, rfl⟩ ?_
    obtain ⟨hp9, h⟩ := h
    refine c_callV C.1 C.2.2.2.1 C.2.2.2.2.1 (h_sizeM K.l y σ6 hp9) (ci := 0) (q := (RJx4a65c, TJx4a65c, 3)) rfl (c_recv rfl ⟨rfl, rfl⟩) (fun ht => cwV 0 ht gX4_copy_Jx4a65c_size_8abf5 rfl rfl rfl (by decide +kernel) ⟨Nat.le_of_ble_eq_true rfl, Nat.le_of_ble_eq_true rfl⟩) rfl rfl (Nat.le_of_ble_eq_true rfl) ⟨Nat.le_of_ble_eq_true rfl, Nat.le_of_ble_eq_true rfl⟩ dX4_copy_34 (fun r σ9 hq => ?_)
    rw [hq.1, hq.2]
    show G K (CL y σ6) (2, 12) [(4, .ref (y.1 13 r5 0)), (3, vM y r2), (0, .ref (y.1 0 0 0)), (1, .int (iZ v1)), (2, .int (iZ v2))] 37 [.int (iZ (f_sizeM σ6))]
    refine g_bipush C.1 (z := 24) dX4_copy_37 (by decide) ?_
    obtain ⟨hc10, h⟩ := h
    refine g_icmp_lt C.1 (tgt := 52) dX4_copy_39 (by decide) hc10 (by decide) (fun hc => ?_) (fun hc => ?_)
    · have h := h.1 hc
      refine g_aload_n C.1 2 dX4_copy_52 rfl rfl ?_
      refine g_aloadM_n C.1 1 dX4_copy_53 rfl rfl ?_
      refine g_aload C.1 0 dX4_copy_54 rfl ?_
      refine g_iconst C.1 (z := 1) dX4_copy_56 ?_
      obtain ⟨hp11, h⟩ := h
      refine c_callV C.1 C.2.2.2.1 C.2.2.2.2.1 (h_draftCopy K.l y σ6 r2 r5 1 hp11) (ci := 5) (q := (RX4, TX4, 10)) rfl (c_recv rfl ⟨rfl, rfl⟩) (fun ht => cwV 3 ht gX4_copy_X4_draftCopy rfl rfl rfl (by decide +kernel) ⟨Nat.le_of_ble_eq_true rfl, Nat.le_of_ble_eq_true rfl⟩) rfl rfl (Nat.le_of_ble_eq_true rfl) ⟨Nat.le_of_ble_eq_true rfl, Nat.le_of_ble_eq_true rfl⟩ dX4_copy_57 (fun r12 σ13 hq => ?_)
      have h := h r12 σ13 hq
      show G K (CL y σ13) (2, 12) [(4, .ref (y.1 13 r5 0)), (3, vM y r2), (0, .ref (y.1 0 0 0)), (1, .int (iZ v1)), (2, .int (iZ v2))] 60 []
      refine g_aload_n C.1 2 dX4_copy_60 rfl rfl ?_
      refine g_aloadM_n C.1 1 dX4_copy_61 rfl rfl ?_
      refine g_iload_n C.1 4 dX4_copy_62 rfl rfl ?_
      exact g_sub [] rfl h
    · have h := h.2 hc
      exact y_throw (u := (Sum.inl (y, σ6) : US)) C.1 C.2.2.1 C.2.2.2.1 C.2.2.2.2.1 C.2.2.2.2.2 (E := "java/lang/IllegalStateException") (text := "there are enough manuscripts") (ik := 51) (is := 71) (ic := 55) (by decide +kernel) lk_X4_copy_cl51 lk_X4_copy_ini_IllegalStateException (by decide +kernel) at_X4_copy_55 (by decide +kernel) (by decide +kernel) (by decide +kernel) dX4_copy_42 dX4_copy_45 dX4_copy_46 dX4_copy_48 dX4_copy_51 (Nat.le_of_ble_eq_true rfl) (Nat.le_of_ble_eq_true rfl) (Nat.le_of_ble_eq_true rfl) (Nat.le_of_ble_eq_true rfl) ⟨(Nat.le_of_ble_eq_true rfl), (Nat.le_of_ble_eq_true rfl)⟩ h
  · have h := h.2 hc
    exact y_throw (u := (Sum.inl (y, σ6) : US)) C.1 C.2.2.1 C.2.2.2.1 C.2.2.2.2.1 C.2.2.2.2.2 (E := "java/lang/IllegalStateException") (text := "the exemplar is lost") (ik := 51) (is := 157) (ic := 55) (by decide +kernel) lk_X4_copy_cl51 lk_X4_copy_ini_IllegalStateException (by decide +kernel) at_X4_copy_55 (by decide +kernel) (by decide +kernel) (by decide +kernel) dX4_copy_20 dX4_copy_23 dX4_copy_24 dX4_copy_26 dX4_copy_29 (Nat.le_of_ble_eq_true rfl) (Nat.le_of_ble_eq_true rfl) (Nat.le_of_ble_eq_true rfl) (Nat.le_of_ble_eq_true rfl) ⟨(Nat.le_of_ble_eq_true rfl), (Nat.le_of_ble_eq_true rfl)⟩ h
theorem m_X4_copy {l : Launch} {y : LT} {σ : CS} {v1 v2 : Int} {post : Int → US → Prop} {px : String → US → Prop} (h : ∀ K : KT, K.l = l → C_X4_copy K y post px → P_X4_copy_0 K y σ v1 v2) : vMet l yX4_copy wsX4_copy rm_X4_copy y.2.2 UW rkI [.ref (y.1 0 0 0), .int (iZ v1), .int (iZ v2)] (Sum.inl (y, σ)) post px :=
  vMet.of (maxL := 5) (by decide +kernel) rfl (Nat.le_of_ble_eq_true rfl) (fun K h1 h2 h3 h4 h5 h6 h7 => h K h1 ⟨h2, h3, h4, h5, h6, h7⟩)

/-! X4_write -/
abbrev rm_X4_write : Room := { frames := 8, cells := 10, slots := 300, locals := 230 }
set_option maxRecDepth 20000 in
theorem inX4_write_X4 : ∀ w ∈ wsX40, w ∈ wsX4_write := by decide +kernel
set_option maxRecDepth 20000 in
theorem at_X4_write_55 : ∀ w ∈ (vx_atS RX4 55 "java/lang/IllegalStateException" ["java/lang/RuntimeException", "java/lang/Exception"]).filter goodWord, w ∈ wsX4_write := fun w h => by
  unfold wsX4_write
  simp only [List.mem_cons, List.mem_append]
  simp only [h, or_true, true_or]
theorem lk_X4_write_f20 : Cond.fieldLink RX4 20 "CopyHouse" "manuscripts" "Ljava/util/ArrayList;" ∈ wsX4_write := List.mem_of_getElem? (i := 3) (by decide +kernel)
theorem lk_X4_write_cl51 : Cond.classLink RX4 51 "java/lang/IllegalStateException" ∈ wsX4_write := List.mem_of_getElem? (i := 1) (by decide +kernel)
theorem lk_X4_write_ini_IllegalStateException : Cond.initialized "java/lang/IllegalStateException" ∈ wsX4_write := List.mem_of_getElem? (i := 2) (by decide +kernel)
theorem lk_X4_write_f13 : Cond.fieldLink RX4 13 "CopyHouse" "tapeLength" "I" ∈ wsX4_write := List.mem_of_getElem? (i := 4) (by decide +kernel)
def C_X4_write (K : KT) (y : LT) (post : Int → US → Prop) (px : String → US → Prop) : Prop := kOK K cX4_write RX4 wsX4_write (some .int) rm_X4_write ∧ K.nL = 2 ∧ kQX K UW rkI post px rm_X4_write ∧ SF y.2.2 K.A K.s K.s.heap ∧ K.l.stackTraces = false ∧ kNX K
def P_X4_write_0 (K : KT) (y : LT) (σ : CS) : Prop := G K (CL y σ) (0, 0) [(0, .ref (y.1 0 0 0))] 0 []
def P_X4_write_1 (K : KT) (y : LT) (σ : CS) (v1 : Int) : Prop := G K (CL y σ) (0, 0) [(0, .ref (y.1 0 0 0)), (1, .int (iZ v1))] 35 []
def P_X4_write_2 (K : KT) (y : LT) (σ : CS) (s0 s1 : Int) : Prop := G K (CL y σ) (0, 0) [] 47 [.int (iZ s0), vM y s1, .ref (y.1 0 0 0)]
set_option maxRecDepth 100000 in
set_option maxHeartbeats 4000000 in
theorem b_X4_write_0 {K : KT} {y : LT} {post : Int → US → Prop} {px : String → US → Prop} (C : C_X4_write K y post px) {p_sizeM : CS → Prop} {f_sizeM : CS → Int} (h_sizeM : H_sizeM p_sizeM f_sizeM) {p_tapeIsText : CS → Prop} {f_tapeIsText : CS → Bool} (h_tapeIsText : H_X4_tapeIsText p_tapeIsText f_tapeIsText) {p_draftFromTape : CS → Prop} {o_draftFromTape : CS → Int → CS → Prop} (h_draftFromTape : H_X4_draftFromTape p_draftFromTape o_draftFromTape) {σ : CS} (h : (p_sizeM σ) ∧ (-2147483648 ≤ (f_sizeM σ) ∧ (f_sizeM σ) < 2147483648) ∧ (((f_sizeM σ) < 24 → (p_tapeIsText σ) ∧ ((¬ (f_tapeIsText σ = true) → P_X4_write_1 K y σ ((if f_tapeIsText σ = true then 1 else 0))) ∧ (f_tapeIsText σ = true → (p_draftFromTape σ) ∧ ∀ (r5 : Int) (σ6 : CS), o_draftFromTape σ r5 σ6 → P_X4_write_1 K y σ6 ((if f_tapeIsText σ = true then 1 else 0))))) ∧ (¬ (f_sizeM σ) < 24 → px "java/lang/IllegalStateException" (Sum.inl (y, σ))))) : P_X4_write_0 K y σ := by
  refine g_aload_n C.1 0 dX4_write_0 rfl rfl ?_
  refine c_get C.1 (ci := 5) (q := (RX4, TX4, 10)) rfl rfl inX4_write_X4 2 (by decide) (v := .ref (y.1 2 0 0)) rfl lk_X4_write_f20 rfl dX4_write_1 ⟨rfl, rfl⟩ ?_
  obtain ⟨hp1, h⟩ := h
  refine c_callV C.1 C.2.2.2.1 C.2.2.2.2.1 (h_sizeM K.l y σ hp1) (ci := 0) (q := (RJx4a65c, TJx4a65c, 3)) rfl (c_recv rfl ⟨rfl, rfl⟩) (fun ht => cwV 0 ht gX4_write_Jx4a65c_size_8abf5 rfl rfl rfl (by decide +kernel) ⟨Nat.le_of_ble_eq_true rfl, Nat.le_of_ble_eq_true rfl⟩) rfl rfl (Nat.le_of_ble_eq_true rfl) ⟨Nat.le_of_ble_eq_true rfl, Nat.le_of_ble_eq_true rfl⟩ dX4_write_4 (fun r σ9 hq => ?_)
  rw [hq.1, hq.2]
  show G K (CL y σ) (0, 0) [(0, .ref (y.1 0 0 0))] 7 [.int (iZ (f_sizeM σ))]
  refine g_bipush C.1 (z := 24) dX4_write_7 (by decide) ?_
  obtain ⟨hc2, h⟩ := h
  refine g_icmp_lt C.1 (tgt := 22) dX4_write_9 (by decide) hc2 (by decide) (fun hc => ?_) (fun hc => ?_)
  · have h := h.1 hc
    refine g_aload_n C.1 0 dX4_write_22 rfl rfl ?_
    obtain ⟨hp3, h⟩ := h
    refine c_callV C.1 C.2.2.2.1 C.2.2.2.2.1 (h_tapeIsText K.l y σ hp3) (ci := 5) (q := (RX4, TX4, 10)) rfl (c_recv rfl ⟨rfl, rfl⟩) (fun ht => cwV 0 ht gX4_write_X4_tapeIsText rfl rfl rfl (by decide +kernel) ⟨Nat.le_of_ble_eq_true rfl, Nat.le_of_ble_eq_true rfl⟩) rfl rfl (Nat.le_of_ble_eq_true rfl) ⟨Nat.le_of_ble_eq_true rfl, Nat.le_of_ble_eq_true rfl⟩ dX4_write_23 (fun r σ9 hq => ?_)
    rw [hq.1, hq.2]
    show G K (CL y σ) (0, 0) [(0, .ref (y.1 0 0 0))] 26 [.int (iZ (if f_tapeIsText σ = true then 1 else 0))]
    refine g_istore_n C.1 (i := 1) (loc' := [(1, .int (iZ (if f_tapeIsText σ = true then 1 else 0))), (0, .ref (y.1 0 0 0))]) C.2.1 dX4_write_26 rfl (by decide) rfl ?_
    refine g_iload_n C.1 0 dX4_write_27 rfl rfl ?_
    refine g_ifb_eq C.1 (tgt := 35) dX4_write_28 (by decide) (fun hc => ?_) (fun hc => ?_)
    · have h := h.1 hc
      exact g_sub [1, 0] rfl h
    · have h := h.2 hc
      refine g_aload_n C.1 1 dX4_write_31 rfl rfl ?_
      obtain ⟨hp4, h⟩ := h
      refine c_callV C.1 C.2.2.2.1 C.2.2.2.2.1 (h_draftFromTape K.l y σ hp4) (ci := 5) (q := (RX4, TX4, 10)) rfl (c_recv rfl ⟨rfl, rfl⟩) (fun ht => cwV 0 ht gX4_write_X4_draftFromTape rfl rfl rfl (by decide +kernel) ⟨Nat.le_of_ble_eq_true rfl, Nat.le_of_ble_eq_true rfl⟩) rfl rfl (Nat.le_of_ble_eq_true rfl) ⟨Nat.le_of_ble_eq_true rfl, Nat.le_of_ble_eq_true rfl⟩ dX4_write_32 (fun r5 σ6 hq => ?_)
      have h := h r5 σ6 hq
      show G K (CL y σ6) (0, 0) [(1, .int (iZ (if f_tapeIsText σ = true then 1 else 0))), (0, .ref (y.1 0 0 0))] 35 []
      exact g_sub [1, 0] rfl h
  · have h := h.2 hc
    exact y_throw (u := (Sum.inl (y, σ) : US)) C.1 C.2.2.1 C.2.2.2.1 C.2.2.2.2.1 C.2.2.2.2.2 (E := "java/lang/IllegalStateException") (text := "there are enough manuscripts") (ik := 51) (is := 71) (ic := 55) (by decide +kernel) lk_X4_write_cl51 lk_X4_write_ini_IllegalStateException (by decide +kernel) at_X4_write_55 (by decide +kernel) (by decide +kernel) (by decide +kernel) dX4_write_12 dX4_write_15 dX4_write_16 dX4_write_18 dX4_write_21 (Nat.le_of_ble_eq_true rfl) (Nat.le_of_ble_eq_true rfl) (Nat.le_of_ble_eq_true rfl) (Nat.le_of_ble_eq_true rfl) ⟨(Nat.le_of_ble_eq_true rfl), (Nat.le_of_ble_eq_true rfl)⟩ h
set_option maxRecDepth 100000 in
set_option maxHeartbeats 4000000 in
theorem b_X4_write_1 {K : KT} {y : LT} {post : Int → US → Prop} {px : String → US → Prop} (C : C_X4_write K y post px) {σ : CS} {v1 : Int} (h : (-2147483648 ≤ v1 ∧ v1 < 2147483648) ∧ ((v1 = 0 → post ((-1)) (Sum.inl (y, upC σ 0 (fun _ _ _ => 0)))) ∧ (¬ v1 = 0 → P_X4_write_2 K y (upC σ 0 (fun _ _ _ => 0)) ((-1)) ((-1))))) : P_X4_write_1 K y σ v1 := by
  refine g_aload_n C.1 0 dX4_write_35 rfl rfl ?_
  refine g_iconst C.1 (z := 0) dX4_write_36 ?_
  refine c_put C.1 (σ' := upC σ 0 (fun _ _ _ => 0)) (ci := 5) (q := (RX4, TX4, 10)) rfl rfl inX4_write_X4 tyX4 tyX4_ok nmX4 1 (by decide) (Nat.le_of_ble_eq_true rfl) (v := .int (iZ 0)) (ty := .int) rfl (CUpd_0 y _ _) lk_X4_write_f13 rfl rfl rfl rfl rfl dX4_write_37 ⟨rfl, rfl⟩ ?_
  refine g_iload_n C.1 1 dX4_write_40 rfl rfl ?_
  obtain ⟨hc1, h⟩ := h
  refine g_if_eq C.1 (tgt := 53) dX4_write_41 (by decide) hc1 (fun hc => ?_) (fun hc => ?_)
  · have h := h.1 hc
    refine g_iconst C.1 (z := (-1)) dX4_write_53 ?_
    exact y_iret (u := (Sum.inl (y, upC σ 0 (fun _ _ _ => 0)) : US)) (r := (-1)) C.1 C.2.2.1 rfl ⟨Nat.le_of_ble_eq_true rfl, Nat.le_of_ble_eq_true rfl⟩ dX4_write_54 h
  · have h := h.2 hc
    refine g_aload_n C.1 0 dX4_write_44 rfl rfl ?_
    refine g_null C.1 (y := y) dX4_write_45 ?_
    refine g_iconst C.1 (z := (-1)) dX4_write_46 ?_
    exact g_sub [] rfl h
theorem m_X4_write {l : Launch} {y : LT} {σ : CS} {post : Int → US → Prop} {px : String → US → Prop} (h : ∀ K : KT, K.l = l → C_X4_write K y post px → P_X4_write_0 K y σ) : vMet l yX4_write wsX4_write rm_X4_write y.2.2 UW rkI [.ref (y.1 0 0 0)] (Sum.inl (y, σ)) post px :=
  vMet.of (maxL := 2) (by decide +kernel) rfl (Nat.le_of_ble_eq_true rfl) (fun K h1 h2 h3 h4 h5 h6 h7 => h K h1 ⟨h2, h3, h4, h5, h6, h7⟩)
