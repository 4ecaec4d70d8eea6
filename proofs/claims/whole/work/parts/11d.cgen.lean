/-! X4_trial -/
abbrev rm_X4_trial : Room := { frames := 7, cells := 3, slots := 18, locals := 121 }
set_option maxRecDepth 20000 in
theorem at_X4_trial_100 : ∀ w ∈ (vx_atS RX4 100 "java/lang/IndexOutOfBoundsException" ["java/lang/RuntimeException", "java/lang/Exception"]).filter goodWord, w ∈ wsX4_trial := fun w h => by
  unfold wsX4_trial
  simp only [List.mem_cons, List.mem_append]
  simp only [h, or_true, true_or]
set_option maxRecDepth 20000 in
theorem at_X4_trial_66 : ∀ w ∈ (vx_atS RX4 66 "java/lang/IllegalArgumentException" ["java/lang/RuntimeException", "java/lang/Exception"]).filter goodWord, w ∈ wsX4_trial := fun w h => by
  unfold wsX4_trial
  simp only [List.mem_cons, List.mem_append]
  simp only [h, or_true, true_or]
set_option maxRecDepth 20000 in
theorem inX4_trial_X1 : ∀ w ∈ wsX10, w ∈ wsX4_trial := by decide +kernel
set_option maxRecDepth 20000 in
theorem inX4_trial_X4 : ∀ w ∈ wsX40, w ∈ wsX4_trial := by decide +kernel
set_option maxRecDepth 20000 in
theorem inX4_trial_X3 : ∀ w ∈ wsX30, w ∈ wsX4_trial := by decide +kernel
set_option maxRecDepth 20000 in
theorem at_X4_trial_55 : ∀ w ∈ (vx_atS RX4 55 "java/lang/IllegalStateException" ["java/lang/RuntimeException", "java/lang/Exception"]).filter goodWord, w ∈ wsX4_trial := fun w h => by
  unfold wsX4_trial
  simp only [List.mem_cons, List.mem_append]
  simp only [h, or_true, true_or]
theorem lk_X4_trial_cl96 : Cond.classLink RX4 96 "java/lang/IndexOutOfBoundsException" ∈ wsX4_trial := List.mem_of_getElem? (i := 1) (by decide +kernel)
theorem lk_X4_trial_ini_IndexOutOfBoundsException : Cond.initialized "java/lang/IndexOutOfBoundsException" ∈ wsX4_trial := List.mem_of_getElem? (i := 2) (by decide +kernel)
theorem lk_X4_trial_cl62 : Cond.classLink RX4 62 "java/lang/IllegalArgumentException" ∈ wsX4_trial := List.mem_of_getElem? (i := 3) (by decide +kernel)
theorem lk_X4_trial_ini_IllegalArgumentException : Cond.initialized "java/lang/IllegalArgumentException" ∈ wsX4_trial := List.mem_of_getElem? (i := 4) (by decide +kernel)
theorem lk_X4_trial_f153 : Cond.fieldLink RX4 153 "CopyHouse$Manuscript" "there" "Z" ∈ wsX4_trial := List.mem_of_getElem? (i := 7) (by decide +kernel)
theorem lk_X4_trial_f35 : Cond.fieldLink RX4 35 "CopyHouse" "draft" "LCopyHouse$Text;" ∈ wsX4_trial := List.mem_of_getElem? (i := 8) (by decide +kernel)
theorem lk_X4_trial_f88 : Cond.fieldLink RX4 88 "CopyHouse$Manuscript" "text" "LCopyHouse$Text;" ∈ wsX4_trial := List.mem_of_getElem? (i := 10) (by decide +kernel)
theorem lk_X4_trial_f93 : Cond.fieldLink RX4 93 "CopyHouse$Text" "length" "I" ∈ wsX4_trial := List.mem_of_getElem? (i := 9) (by decide +kernel)
theorem lk_X4_trial_cl51 : Cond.classLink RX4 51 "java/lang/IllegalStateException" ∈ wsX4_trial := List.mem_of_getElem? (i := 5) (by decide +kernel)
theorem lk_X4_trial_ini_IllegalStateException : Cond.initialized "java/lang/IllegalStateException" ∈ wsX4_trial := List.mem_of_getElem? (i := 6) (by decide +kernel)
def C_X4_trial (K : KT) (y : LT) (post : Int → CS → Prop) (px : String → CS → Prop) : Prop := kOK K cX4_trial RX4 wsX4_trial (some .int) rm_X4_trial ∧ K.nL = 7 ∧ kQX K (CL y) rkI post px rm_X4_trial ∧ SF y.2.2 K.A K.s K.s.heap ∧ K.l.stackTraces = false ∧ kNX K
def P_X4_trial_0 (K : KT) (y : LT) (σ : CS) (v1 v2 v3 v4 : Int) : Prop := G K (CL y σ) (0, 0) [(0, .ref (y.1 0 0 0)), (1, .int (iZ v1)), (2, .int (iZ v2)), (3, .int (iZ v3)), (4, .int (iZ v4))] 0 []
set_option maxRecDepth 100000 in
set_option maxHeartbeats 4000000 in
theorem b_X4_trial_0 {K : KT} {y : LT} {post : Int → CS → Prop} {px : String → CS → Prop} (C : C_X4_trial K y post px) {p_manuscriptOf : CS → Int → Prop} {o_manuscriptOf : CS → Int → Int → CS → Prop} {x_manuscriptOf : CS → Int → String → CS → Prop} (h_manuscriptOf : H_X4_manuscriptOf p_manuscriptOf o_manuscriptOf x_manuscriptOf) {p_scribeOf : CS → Int → Prop} {o_scribeOf : CS → Int → Int → CS → Prop} {x_scribeOf : CS → Int → String → CS → Prop} (h_scribeOf : H_X4_scribeOf p_scribeOf o_scribeOf x_scribeOf) {p_draftCopy : CS → Int → Int → Int → Prop} {o_draftCopy : CS → Int → Int → Int → Int → CS → Prop} (h_draftCopy : H_X4_draftCopy p_draftCopy o_draftCopy) {p_steps : CS → Int → Int → Prop} {o_steps : CS → Int → Int → Int → CS → Prop} (h_steps : H_X4_steps p_steps o_steps) {σ : CS} {v1 v2 v3 v4 : Int} (h : (p_manuscriptOf σ v1) ∧ (∀ (E : String) (u9 : CS), x_manuscriptOf σ v1 E u9 → px E u9) ∧ ∀ (r2 : Int) (σ3 : CS), o_manuscriptOf σ v1 r2 σ3 → (p_scribeOf σ3 v2) ∧ (∀ (E : String) (u9 : CS), x_scribeOf σ3 v2 E u9 → px E u9) ∧ ∀ (r5 : Int) (σ6 : CS), o_scribeOf σ3 v2 r5 σ6 → (-2147483648 ≤ v4 ∧ v4 < 2147483648) ∧ ((v4 < 0 → px "java/lang/IndexOutOfBoundsException" σ6) ∧ (¬ v4 < 0 → ((v4 ≤ 1 → (-2147483648 ≤ v3 ∧ v3 < 2147483648) ∧ ((v3 < 1 → px "java/lang/IllegalArgumentException" σ6) ∧ (¬ v3 < 1 → ((v3 ≤ 20 → (0 ≤ r2 ∧ r2 < (σ6 21 0 0 0)) ∧ (-2147483648 ≤ (σ6 12 r2 0 0) ∧ (σ6 12 r2 0 0) < 2147483648) ∧ ((¬ (σ6 12 r2 0 0) = 0 → (p_draftCopy σ6 r2 r5 v3) ∧ ∀ (r12 : Int) (σ13 : CS), o_draftCopy σ6 r2 r5 v3 r12 σ13 → ((¬ v4 = 0 → (0 ≤ r2 ∧ r2 < (σ13 21 0 0 0)) ∧ (p_steps σ13 0 (r2 + 3)) ∧ ∀ (r16 : Int) (σ17 : CS), o_steps σ13 0 (r2 + 3) r16 σ17 → post r16 σ17) ∧ (v4 = 0 → (0 ≤ (σ13 21 0 0 0)) ∧ post (σ13 5 0 0 0) σ13))) ∧ ((σ6 12 r2 0 0) = 0 → px "java/lang/IllegalStateException" σ6))) ∧ (¬ v3 ≤ 20 → px "java/lang/IllegalArgumentException" σ6))))) ∧ (¬ v4 ≤ 1 → px "java/lang/IndexOutOfBoundsException" σ6))))) : P_X4_trial_0 K y σ v1 v2 v3 v4 := by
  refine g_aload_n C.1 0 dX4_trial_0 rfl rfl ?_
  refine g_iload_n C.1 1 dX4_trial_1 rfl rfl ?_
  obtain ⟨hp1, h⟩ := h
  obtain ⟨hx9, h⟩ := h
  refine c_callX C.1 C.2.2.1 C.2.2.2.2.2 C.2.2.2.1 C.2.2.2.2.1 (h_manuscriptOf K.l y σ v1 hp1) (ci := 5) (q := (RX4, TX4, 10)) rfl (c_recv rfl ⟨rfl, rfl⟩) (fun ht => cwV 1 ht gX4_trial_X4_manuscriptOf rfl rfl rfl (by decide +kernel) ⟨Nat.le_of_ble_eq_true rfl, Nat.le_of_ble_eq_true rfl⟩) rfl rfl (Nat.le_of_ble_eq_true rfl) ⟨Nat.le_of_ble_eq_true rfl, Nat.le_of_ble_eq_true rfl⟩ ⟨Nat.le_of_ble_eq_true rfl, Nat.le_of_ble_eq_true rfl⟩ dX4_trial_2 (fun E u9 hq => ⟨u9, hx9 E u9 hq, fun _ _ w9 => w9⟩) (fun r2 σ3 hq => ?_)
  have h := h r2 σ3 hq
  show G K (CL y σ3) (1, 6) [(0, .ref (y.1 0 0 0)), (1, .int (iZ v1)), (2, .int (iZ v2)), (3, .int (iZ v3)), (4, .int (iZ v4))] 5 [vM y r2]
  refine g_astoreM C.1 (i := 5) (loc' := [(0, .ref (y.1 0 0 0)), (1, .int (iZ v1)), (2, .int (iZ v2)), (3, .int (iZ v3)), (4, .int (iZ v4))]) C.2.1 dX4_trial_5 (by decide) rfl ?_
  refine g_aload_n C.1 1 dX4_trial_7 rfl rfl ?_
  refine g_iload_n C.1 3 dX4_trial_8 rfl rfl ?_
  obtain ⟨hp4, h⟩ := h
  obtain ⟨hx9, h⟩ := h
  refine c_callX C.1 C.2.2.1 C.2.2.2.2.2 C.2.2.2.1 C.2.2.2.2.1 (h_scribeOf K.l y σ3 v2 hp4) (ci := 5) (q := (RX4, TX4, 10)) rfl (c_recv rfl ⟨rfl, rfl⟩) (fun ht => cwV 1 ht gX4_trial_X4_scribeOf rfl rfl rfl (by decide +kernel) ⟨Nat.le_of_ble_eq_true rfl, Nat.le_of_ble_eq_true rfl⟩) rfl rfl (Nat.le_of_ble_eq_true rfl) ⟨Nat.le_of_ble_eq_true rfl, Nat.le_of_ble_eq_true rfl⟩ ⟨Nat.le_of_ble_eq_true rfl, Nat.le_of_ble_eq_true rfl⟩ dX4_trial_9 (fun E u9 hq => ⟨u9, hx9 E u9 hq, fun _ _ w9 => w9⟩) (fun r5 σ6 hq => ?_)
  have h := h r5 σ6 hq
  show G K (CL y σ6) (2, 12) [(5, vM y r2), (0, .ref (y.1 0 0 0)), (1, .int (iZ v1)), (2, .int (iZ v2)), (3, .int (iZ v3)), (4, .int (iZ v4))] 12 [.ref (y.1 13 r5 0)]
  refine g_astore C.1 (i := 6) (loc' := [(6, .ref (y.1 13 r5 0)), (5, vM y r2), (0, .ref (y.1 0 0 0)), (1, .int (iZ v1)), (2, .int (iZ v2)), (3, .int (iZ v3)), (4, .int (iZ v4))]) C.2.1 dX4_trial_12 (by decide) (by simp [vM_cat, cat_i, cat_r, cat_l]) ?_
  refine g_iload C.1 6 dX4_trial_14 rfl ?_
  obtain ⟨hc7, h⟩ := h
  refine g_if_lt C.1 (tgt := 25) dX4_trial_16 (by decide) hc7 (fun hc => ?_) (fun hc => ?_)
  · have h := h.1 hc
    exact y_throw C.1 C.2.2.1 C.2.2.2.1 C.2.2.2.2.1 C.2.2.2.2.2 (E := "java/lang/IndexOutOfBoundsException") (text := "nothing of this kind is told of a trial") (ik := 96) (is := 230) (ic := 100) (by decide +kernel) lk_X4_trial_cl96 lk_X4_trial_ini_IndexOutOfBoundsException (by decide +kernel) at_X4_trial_100 (by decide +kernel) (by decide +kernel) (by decide +kernel) dX4_trial_25 dX4_trial_28 dX4_trial_29 dX4_trial_31 dX4_trial_34 (Nat.le_of_ble_eq_true rfl) (Nat.le_of_ble_eq_true rfl) (Nat.le_of_ble_eq_true rfl) (Nat.le_of_ble_eq_true rfl) ⟨(Nat.le_of_ble_eq_true rfl), (Nat.le_of_ble_eq_true rfl)⟩ h
  · have h := h.2 hc
    refine g_iload C.1 6 dX4_trial_19 rfl ?_
    refine g_iconst C.1 (z := 1) dX4_trial_21 ?_
    refine g_icmp_le C.1 (tgt := 35) dX4_trial_22 (by decide) hc7 (by decide) (fun hc => ?_) (fun hc => ?_)
    · have h := h.1 hc
      refine g_iload_n C.1 5 dX4_trial_35 rfl rfl ?_
      refine g_iconst C.1 (z := 1) dX4_trial_36 ?_
      obtain ⟨hc8, h⟩ := h
      refine g_icmp_lt C.1 (tgt := 46) dX4_trial_37 (by decide) hc8 (by decide) (fun hc => ?_) (fun hc => ?_)
      · have h := h.1 hc
        exact y_throw C.1 C.2.2.1 C.2.2.2.1 C.2.2.2.2.1 C.2.2.2.2.2 (E := "java/lang/IllegalArgumentException") (text := "no such number of times") (ik := 62) (is := 232) (ic := 66) (by decide +kernel) lk_X4_trial_cl62 lk_X4_trial_ini_IllegalArgumentException (by decide +kernel) at_X4_trial_66 (by decide +kernel) (by decide +kernel) (by decide +kernel) dX4_trial_46 dX4_trial_49 dX4_trial_50 dX4_trial_52 dX4_trial_55 (Nat.le_of_ble_eq_true rfl) (Nat.le_of_ble_eq_true rfl) (Nat.le_of_ble_eq_true rfl) (Nat.le_of_ble_eq_true rfl) ⟨(Nat.le_of_ble_eq_true rfl), (Nat.le_of_ble_eq_true rfl)⟩ h
      · have h := h.2 hc
        refine g_iload_n C.1 5 dX4_trial_40 rfl rfl ?_
        refine g_bipush C.1 (z := 20) dX4_trial_41 (by decide) ?_
        refine g_icmp_le C.1 (tgt := 56) dX4_trial_43 (by decide) hc8 (by decide) (fun hc => ?_) (fun hc => ?_)
        · have h := h.1 hc
          refine g_aloadM C.1 1 dX4_trial_56 rfl ?_
          obtain ⟨hd9, h⟩ := h
          refine c_atM hd9.1 ?_
          refine c_get C.1 (ci := 2) (q := (RX1, TX1, 6)) rfl rfl inX4_trial_X1 5 (by decide) (v := .int (iZ (σ6 12 r2 0 0))) rfl lk_X4_trial_f153 rfl dX4_trial_58 ⟨hd9.1, hd9.2, rfl⟩ ?_
          obtain ⟨hc10, h⟩ := h
          refine g_if_ne C.1 (tgt := 74) dX4_trial_61 (by decide) hc10 (fun hc => ?_) (fun hc => ?_)
          · have h := h.1 hc
            refine g_aload_n C.1 2 dX4_trial_74 rfl rfl ?_
            refine g_aloadM C.1 1 dX4_trial_75 rfl ?_
            refine g_aload C.1 0 dX4_trial_77 rfl ?_
            refine g_iload_n C.1 5 dX4_trial_79 rfl rfl ?_
            obtain ⟨hp11, h⟩ := h
            refine c_callV C.1 C.2.2.2.1 C.2.2.2.2.1 (h_draftCopy K.l y σ6 r2 r5 v3 hp11) (ci := 5) (q := (RX4, TX4, 10)) rfl (c_recv rfl ⟨rfl, rfl⟩) (fun ht => cwV 3 ht gX4_trial_X4_draftCopy rfl rfl rfl (by decide +kernel) ⟨Nat.le_of_ble_eq_true rfl, Nat.le_of_ble_eq_true rfl⟩) rfl rfl (Nat.le_of_ble_eq_true rfl) ⟨Nat.le_of_ble_eq_true rfl, Nat.le_of_ble_eq_true rfl⟩ dX4_trial_80 (fun r12 σ13 hq => ?_)
            have h := h r12 σ13 hq
            show G K (CL y σ13) (2, 12) [(6, .ref (y.1 13 r5 0)), (5, vM y r2), (0, .ref (y.1 0 0 0)), (1, .int (iZ v1)), (2, .int (iZ v2)), (3, .int (iZ v3)), (4, .int (iZ v4))] 83 []
            refine g_iload C.1 6 dX4_trial_83 rfl ?_
            refine g_if_ne C.1 (tgt := 98) dX4_trial_85 (by decide) hc7 (fun hc => ?_) (fun hc => ?_)
            · have h := h.1 hc
              refine g_aload_n C.1 2 dX4_trial_98 rfl rfl ?_
              refine g_aload_n C.1 2 dX4_trial_99 rfl rfl ?_
              refine c_get C.1 (ci := 5) (q := (RX4, TX4, 10)) rfl rfl inX4_trial_X4 5 (by decide) (v := .ref (y.1 8 0 0)) rfl lk_X4_trial_f35 rfl dX4_trial_100 ⟨rfl, rfl⟩ ?_
              refine g_aloadM C.1 1 dX4_trial_103 rfl ?_
              obtain ⟨hd14, h⟩ := h
              refine c_atM hd14.1 ?_
              refine c_get C.1 (ci := 2) (q := (RX1, TX1, 6)) rfl rfl inX4_trial_X1 4 (by decide) (v := .ref (y.1 8 (r2 + 3) 0)) rfl lk_X4_trial_f88 rfl dX4_trial_105 ⟨hd14.1, hd14.2, rfl⟩ ?_
              obtain ⟨hp15, h⟩ := h
              refine c_callV C.1 C.2.2.2.1 C.2.2.2.2.1 (h_steps K.l y σ13 0 (r2 + 3) hp15) (ci := 5) (q := (RX4, TX4, 10)) rfl (c_recv rfl ⟨rfl, rfl⟩) (fun ht => cwV 2 ht gX4_trial_X4_steps rfl rfl rfl (by decide +kernel) ⟨Nat.le_of_ble_eq_true rfl, Nat.le_of_ble_eq_true rfl⟩) rfl rfl (Nat.le_of_ble_eq_true rfl) ⟨Nat.le_of_ble_eq_true rfl, Nat.le_of_ble_eq_true rfl⟩ dX4_trial_108 (fun r16 σ17 hq => ?_)
              have h := h r16 σ17 hq
              show G K (CL y σ17) (2, 12) [(6, .ref (y.1 13 r5 0)), (5, vM y r2), (0, .ref (y.1 0 0 0)), (1, .int (iZ v1)), (2, .int (iZ v2)), (3, .int (iZ v3)), (4, .int (iZ v4))] 111 [.int (iZ r16)]
              exact y_iret C.1 C.2.2.1 rfl ⟨Nat.le_of_ble_eq_true rfl, Nat.le_of_ble_eq_true rfl⟩ dX4_trial_111 h
            · have h := h.2 hc
              refine g_aload_n C.1 2 dX4_trial_88 rfl rfl ?_
              refine c_get C.1 (ci := 5) (q := (RX4, TX4, 10)) rfl rfl inX4_trial_X4 5 (by decide) (v := .ref (y.1 8 0 0)) rfl lk_X4_trial_f35 rfl dX4_trial_89 ⟨rfl, rfl⟩ ?_
              obtain ⟨hn18, h⟩ := h
              refine c_get C.1 (ci := 4) (q := (RX3, TX3, 2)) rfl rfl inX4_trial_X3 1 (by decide) (v := .int (iZ (σ13 5 0 0 0))) rfl lk_X4_trial_f93 rfl dX4_trial_92 ⟨by decide, by omega, rfl⟩ ?_
              refine g_goto C.1 (tgt := 111) dX4_trial_95 (by decide) ?_
              exact y_iret C.1 C.2.2.1 rfl ⟨Nat.le_of_ble_eq_true rfl, Nat.le_of_ble_eq_true rfl⟩ dX4_trial_111 h
          · have h := h.2 hc
            exact y_throw C.1 C.2.2.1 C.2.2.2.1 C.2.2.2.2.1 C.2.2.2.2.2 (E := "java/lang/IllegalStateException") (text := "the exemplar is lost") (ik := 51) (is := 157) (ic := 55) (by decide +kernel) lk_X4_trial_cl51 lk_X4_trial_ini_IllegalStateException (by decide +kernel) at_X4_trial_55 (by decide +kernel) (by decide +kernel) (by decide +kernel) dX4_trial_64 dX4_trial_67 dX4_trial_68 dX4_trial_70 dX4_trial_73 (Nat.le_of_ble_eq_true rfl) (Nat.le_of_ble_eq_true rfl) (Nat.le_of_ble_eq_true rfl) (Nat.le_of_ble_eq_true rfl) ⟨(Nat.le_of_ble_eq_true rfl), (Nat.le_of_ble_eq_true rfl)⟩ h
        · have h := h.2 hc
          exact y_throw C.1 C.2.2.1 C.2.2.2.1 C.2.2.2.2.1 C.2.2.2.2.2 (E := "java/lang/IllegalArgumentException") (text := "no such number of times") (ik := 62) (is := 232) (ic := 66) (by decide +kernel) lk_X4_trial_cl62 lk_X4_trial_ini_IllegalArgumentException (by decide +kernel) at_X4_trial_66 (by decide +kernel) (by decide +kernel) (by decide +kernel) dX4_trial_46 dX4_trial_49 dX4_trial_50 dX4_trial_52 dX4_trial_55 (Nat.le_of_ble_eq_true rfl) (Nat.le_of_ble_eq_true rfl) (Nat.le_of_ble_eq_true rfl) (Nat.le_of_ble_eq_true rfl) ⟨(Nat.le_of_ble_eq_true rfl), (Nat.le_of_ble_eq_true rfl)⟩ h
    · have h := h.2 hc
      exact y_throw C.1 C.2.2.1 C.2.2.2.1 C.2.2.2.2.1 C.2.2.2.2.2 (E := "java/lang/IndexOutOfBoundsException") (text := "nothing of this kind is told of a trial") (ik := 96) (is := 230) (ic := 100) (by decide +kernel) lk_X4_trial_cl96 lk_X4_trial_ini_IndexOutOfBoundsException (by decide +kernel) at_X4_trial_100 (by decide +kernel) (by decide +kernel) (by decide +kernel) dX4_trial_25 dX4_trial_28 dX4_trial_29 dX4_trial_31 dX4_trial_34 (Nat.le_of_ble_eq_true rfl) (Nat.le_of_ble_eq_true rfl) (Nat.le_of_ble_eq_true rfl) (Nat.le_of_ble_eq_true rfl) ⟨(Nat.le_of_ble_eq_true rfl), (Nat.le_of_ble_eq_true rfl)⟩ h
theorem m_X4_trial {l : Launch} {y : LT} {σ : CS} {v1 v2 v3 v4 : Int} {post : Int → CS → Prop} {px : String → CS → Prop} (h : ∀ K : KT, K.l = l → C_X4_trial K y post px → P_X4_trial_0 K y σ v1 v2 v3 v4) : vMet l yX4_trial wsX4_trial rm_X4_trial y.2.2 (CL y) rkI [.ref (y.1 0 0 0), .int (iZ v1), .int (iZ v2), .int (iZ v3), .int (iZ v4)] σ post px :=
  vMet.of (maxL := 7) (by decide +kernel) rfl (Nat.le_of_ble_eq_true rfl) (fun K h1 h2 h3 h4 h5 h6 h7 => h K h1 ⟨h2, h3, h4, h5, h6, h7⟩)
def H_X4_trial (p : CS → Int → Int → Int → Int → Prop) (o : CS → Int → Int → Int → Int → Int → CS → Prop) (x : CS → Int → Int → Int → Int → String → CS → Prop) : Prop := ∀ (l : Launch) (y : LT) (σ : CS) (v1 v2 v3 v4 : Int), p σ v1 v2 v3 v4 → vMet l yX4_trial wsX4_trial rm_X4_trial y.2.2 (CL y) rkI [.ref (y.1 0 0 0), .int (iZ v1), .int (iZ v2), .int (iZ v3), .int (iZ v4)] σ (fun r σ' => o σ v1 v2 v3 v4 r σ') (x σ v1 v2 v3 v4)

/-! X4_advise -/
abbrev rm_X4_advise : Room := { frames := 7, cells := 2, slots := 12, locals := 121 }
set_option maxRecDepth 20000 in
theorem inX4_advise_X1 : ∀ w ∈ wsX10, w ∈ wsX4_advise := by decide +kernel
set_option maxRecDepth 20000 in
theorem at_X4_advise_55 : ∀ w ∈ (vx_atS RX4 55 "java/lang/IllegalStateException" ["java/lang/RuntimeException", "java/lang/Exception"]).filter goodWord, w ∈ wsX4_advise := fun w h => by
  unfold wsX4_advise
  simp only [List.mem_cons, List.mem_append]
  simp only [h, or_true, true_or]
set_option maxRecDepth 20000 in
theorem inX4_advise_X4 : ∀ w ∈ wsX40, w ∈ wsX4_advise := by decide +kernel
theorem lk_X4_advise_f153 : Cond.fieldLink RX4 153 "CopyHouse$Manuscript" "there" "Z" ∈ wsX4_advise := List.mem_of_getElem? (i := 3) (by decide +kernel)
theorem lk_X4_advise_cl51 : Cond.classLink RX4 51 "java/lang/IllegalStateException" ∈ wsX4_advise := List.mem_of_getElem? (i := 1) (by decide +kernel)
theorem lk_X4_advise_ini_IllegalStateException : Cond.initialized "java/lang/IllegalStateException" ∈ wsX4_advise := List.mem_of_getElem? (i := 2) (by decide +kernel)
theorem lk_X4_advise_f24 : Cond.fieldLink RX4 24 "CopyHouse" "scribes" "Ljava/util/ArrayList;" ∈ wsX4_advise := List.mem_of_getElem? (i := 4) (by decide +kernel)
theorem lk_X4_advise_cc107 : Cond.classLink RX4 107 "CopyHouse$Scribe" ∈ wsX4_advise := List.mem_of_getElem? (i := 5) (by decide +kernel)
theorem lk_X4_advise_f35 : Cond.fieldLink RX4 35 "CopyHouse" "draft" "LCopyHouse$Text;" ∈ wsX4_advise := List.mem_of_getElem? (i := 6) (by decide +kernel)
theorem lk_X4_advise_f88 : Cond.fieldLink RX4 88 "CopyHouse$Manuscript" "text" "LCopyHouse$Text;" ∈ wsX4_advise := List.mem_of_getElem? (i := 7) (by decide +kernel)
def C_X4_advise (K : KT) (y : LT) (post : Int → CS → Prop) (px : String → CS → Prop) : Prop := kOK K cX4_advise RX4 wsX4_advise (some .int) rm_X4_advise ∧ K.nL = 7 ∧ kQX K (CL y) rkI post px rm_X4_advise ∧ SF y.2.2 K.A K.s K.s.heap ∧ K.l.stackTraces = false ∧ kNX K
def P_X4_advise_0 (K : KT) (y : LT) (σ : CS) (v1 : Int) : Prop := G K (CL y σ) (0, 0) [(0, .ref (y.1 0 0 0)), (1, .int (iZ v1))] 0 []
def P_X4_advise_1 (K : KT) (y : LT) (σ : CS) (v2 v3 v4 v5 : Int) : Prop := G K (CL y σ) (1, 6) [(0, .ref (y.1 0 0 0)), (2, vM y v2), (3, .int (iZ v3)), (4, .int (iZ v4)), (5, .int (iZ v5))] 32 []
set_option maxRecDepth 100000 in
set_option maxHeartbeats 4000000 in
theorem b_X4_advise_0 {K : KT} {y : LT} {post : Int → CS → Prop} {px : String → CS → Prop} (C : C_X4_advise K y post px) {p_manuscriptOf : CS → Int → Prop} {o_manuscriptOf : CS → Int → Int → CS → Prop} {x_manuscriptOf : CS → Int → String → CS → Prop} (h_manuscriptOf : H_X4_manuscriptOf p_manuscriptOf o_manuscriptOf x_manuscriptOf) {σ : CS} {v1 : Int} (h : (p_manuscriptOf σ v1) ∧ (∀ (E : String) (u9 : CS), x_manuscriptOf σ v1 E u9 → px E u9) ∧ ∀ (r2 : Int) (σ3 : CS), o_manuscriptOf σ v1 r2 σ3 → (0 ≤ r2 ∧ r2 < (σ3 21 0 0 0)) ∧ (-2147483648 ≤ (σ3 12 r2 0 0) ∧ (σ3 12 r2 0 0) < 2147483648) ∧ ((¬ (σ3 12 r2 0 0) = 0 → P_X4_advise_1 K y σ3 r2 ((-1)) 121 0) ∧ ((σ3 12 r2 0 0) = 0 → px "java/lang/IllegalStateException" σ3))) : P_X4_advise_0 K y σ v1 := by
  refine g_aload_n C.1 0 dX4_advise_0 rfl rfl ?_
  refine g_iload_n C.1 1 dX4_advise_1 rfl rfl ?_
  obtain ⟨hp1, h⟩ := h
  obtain ⟨hx9, h⟩ := h
  refine c_callX C.1 C.2.2.1 C.2.2.2.2.2 C.2.2.2.1 C.2.2.2.2.1 (h_manuscriptOf K.l y σ v1 hp1) (ci := 5) (q := (RX4, TX4, 10)) rfl (c_recv rfl ⟨rfl, rfl⟩) (fun ht => cwV 1 ht gX4_advise_X4_manuscriptOf rfl rfl rfl (by decide +kernel) ⟨Nat.le_of_ble_eq_true rfl, Nat.le_of_ble_eq_true rfl⟩) rfl rfl (Nat.le_of_ble_eq_true rfl) ⟨Nat.le_of_ble_eq_true rfl, Nat.le_of_ble_eq_true rfl⟩ ⟨Nat.le_of_ble_eq_true rfl, Nat.le_of_ble_eq_true rfl⟩ dX4_advise_2 (fun E u9 hq => ⟨u9, hx9 E u9 hq, fun _ _ w9 => w9⟩) (fun r2 σ3 hq => ?_)
  have h := h r2 σ3 hq
  show G K (CL y σ3) (1, 6) [(0, .ref (y.1 0 0 0)), (1, .int (iZ v1))] 5 [vM y r2]
  refine g_astoreM_n C.1 (i := 2) (loc' := [(0, .ref (y.1 0 0 0)), (1, .int (iZ v1))]) C.2.1 dX4_advise_5 rfl (by decide) rfl ?_
  refine g_aloadM_n C.1 0 dX4_advise_6 rfl rfl ?_
  obtain ⟨hd4, h⟩ := h
  refine c_atM hd4.1 ?_
  refine c_get C.1 (ci := 2) (q := (RX1, TX1, 6)) rfl rfl inX4_advise_X1 5 (by decide) (v := .int (iZ (σ3 12 r2 0 0))) rfl lk_X4_advise_f153 rfl dX4_advise_7 ⟨hd4.1, hd4.2, rfl⟩ ?_
  obtain ⟨hc5, h⟩ := h
  refine g_if_ne C.1 (tgt := 23) dX4_advise_10 (by decide) hc5 (fun hc => ?_) (fun hc => ?_)
  · have h := h.1 hc
    refine g_iconst C.1 (z := (-1)) dX4_advise_23 ?_
    refine g_istore_n C.1 (i := 3) (loc' := [(3, .int (iZ ((-1)))), (2, vM y r2), (0, .ref (y.1 0 0 0)), (1, .int (iZ v1))]) C.2.1 dX4_advise_24 rfl (by decide) (by simp [vM_cat, cat_i, cat_r, cat_l]) ?_
    refine g_bipush C.1 (z := 121) dX4_advise_25 (by decide) ?_
    refine g_istore C.1 (i := 4) (loc' := [(4, .int (iZ 121)), (3, .int (iZ ((-1)))), (2, vM y r2), (0, .ref (y.1 0 0 0)), (1, .int (iZ v1))]) C.2.1 dX4_advise_27 (by decide) (by simp [vM_cat, cat_i, cat_r, cat_l]) ?_
    refine g_iconst C.1 (z := 0) dX4_advise_29 ?_
    refine g_istore C.1 (i := 5) (loc' := [(5, .int (iZ 0)), (4, .int (iZ 121)), (3, .int (iZ ((-1)))), (2, vM y r2), (0, .ref (y.1 0 0 0)), (1, .int (iZ v1))]) C.2.1 dX4_advise_30 (by decide) (by simp [vM_cat, cat_i, cat_r, cat_l]) ?_
    exact g_sub [4, 3, 2, 1, 0] rfl h
  · have h := h.2 hc
    exact y_throw C.1 C.2.2.1 C.2.2.2.1 C.2.2.2.2.1 C.2.2.2.2.2 (E := "java/lang/IllegalStateException") (text := "the exemplar is lost") (ik := 51) (is := 157) (ic := 55) (by decide +kernel) lk_X4_advise_cl51 lk_X4_advise_ini_IllegalStateException (by decide +kernel) at_X4_advise_55 (by decide +kernel) (by decide +kernel) (by decide +kernel) dX4_advise_13 dX4_advise_16 dX4_advise_17 dX4_advise_19 dX4_advise_22 (Nat.le_of_ble_eq_true rfl) (Nat.le_of_ble_eq_true rfl) (Nat.le_of_ble_eq_true rfl) (Nat.le_of_ble_eq_true rfl) ⟨(Nat.le_of_ble_eq_true rfl), (Nat.le_of_ble_eq_true rfl)⟩ h
set_option maxRecDepth 100000 in
set_option maxHeartbeats 4000000 in
theorem b_X4_advise_1 {K : KT} {y : LT} {post : Int → CS → Prop} {px : String → CS → Prop} (C : C_X4_advise K y post px) {p_sizeS : CS → Prop} {f_sizeS : CS → Int} (h_sizeS : H_sizeS p_sizeS f_sizeS) {p_getS : CS → Int → Prop} (h_getS : H_getS p_getS) {p_draftCopy : CS → Int → Int → Int → Prop} {o_draftCopy : CS → Int → Int → Int → Int → CS → Prop} (h_draftCopy : H_X4_draftCopy p_draftCopy o_draftCopy) {p_steps : CS → Int → Int → Prop} {o_steps : CS → Int → Int → Int → CS → Prop} (h_steps : H_X4_steps p_steps o_steps) {σ : CS} {v2 v3 v4 v5 : Int} (h : (p_sizeS σ) ∧ (-2147483648 ≤ v5 ∧ v5 < 2147483648) ∧ (-2147483648 ≤ (f_sizeS σ) ∧ (f_sizeS σ) < 2147483648) ∧ (((f_sizeS σ) ≤ v5 → post v3 σ) ∧ (¬ (f_sizeS σ) ≤ v5 → (p_getS σ v5) ∧ (0 ≤ v5 ∧ v5 < (σ 22 0 0 0)) ∧ (p_draftCopy σ v2 v5 1) ∧ ∀ (r7 : Int) (σ8 : CS), o_draftCopy σ v2 v5 1 r7 σ8 → (0 ≤ v2 ∧ v2 < (σ8 21 0 0 0)) ∧ (p_steps σ8 0 (v2 + 3)) ∧ ∀ (r11 : Int) (σ12 : CS), o_steps σ8 0 (v2 + 3) r11 σ12 → (-2147483648 ≤ r11 ∧ r11 < 2147483648) ∧ (-2147483648 ≤ v4 ∧ v4 < 2147483648) ∧ ((v4 ≤ r11 → P_X4_advise_1 K y σ12 v2 v3 v4 (v5 + 1)) ∧ (¬ v4 ≤ r11 → P_X4_advise_1 K y σ12 v2 v5 r11 (v5 + 1)))))) : P_X4_advise_1 K y σ v2 v3 v4 v5 := by
  refine g_iload C.1 4 dX4_advise_32 rfl ?_
  refine g_aload_n C.1 0 dX4_advise_34 rfl rfl ?_
  refine c_get C.1 (ci := 5) (q := (RX4, TX4, 10)) rfl rfl inX4_advise_X4 3 (by decide) (v := .ref (y.1 4 0 0)) rfl lk_X4_advise_f24 rfl dX4_advise_35 ⟨rfl, rfl⟩ ?_
  obtain ⟨hp1, h⟩ := h
  refine c_callV C.1 C.2.2.2.1 C.2.2.2.2.1 (h_sizeS K.l y σ hp1) (ci := 0) (q := (RJx4a65c, TJx4a65c, 3)) rfl (c_recv rfl ⟨rfl, rfl⟩) (fun ht => cwV 0 ht gX4_advise_Jx4a65c_size_8abf5 rfl rfl rfl (by decide +kernel) ⟨Nat.le_of_ble_eq_true rfl, Nat.le_of_ble_eq_true rfl⟩) rfl rfl (Nat.le_of_ble_eq_true rfl) ⟨Nat.le_of_ble_eq_true rfl, Nat.le_of_ble_eq_true rfl⟩ dX4_advise_38 (fun r σ9 hq => ?_)
  rw [hq.1, hq.2]
  show G K (CL y σ) (1, 6) [(0, .ref (y.1 0 0 0)), (2, vM y v2), (3, .int (iZ v3)), (4, .int (iZ v4)), (5, .int (iZ v5))] 41 [.int (iZ (f_sizeS σ)), .int (iZ v5)]
  obtain ⟨hc2, h⟩ := h
  obtain ⟨hc3, h⟩ := h
  refine g_icmp_ge C.1 (tgt := 96) dX4_advise_41 (by decide) hc2 hc3 (fun hc => ?_) (fun hc => ?_)
  · have h := h.1 hc
    refine g_iload_n C.1 2 dX4_advise_96 rfl rfl ?_
    exact y_iret C.1 C.2.2.1 rfl ⟨Nat.le_of_ble_eq_true rfl, Nat.le_of_ble_eq_true rfl⟩ dX4_advise_97 h
  · have h := h.2 hc
    refine g_aload_n C.1 0 dX4_advise_44 rfl rfl ?_
    refine g_aloadM_n C.1 1 dX4_advise_45 rfl rfl ?_
    refine g_aload_n C.1 0 dX4_advise_46 rfl rfl ?_
    refine c_get C.1 (ci := 5) (q := (RX4, TX4, 10)) rfl rfl inX4_advise_X4 3 (by decide) (v := .ref (y.1 4 0 0)) rfl lk_X4_advise_f24 rfl dX4_advise_47 ⟨rfl, rfl⟩ ?_
    refine g_iload C.1 4 dX4_advise_50 rfl ?_
    obtain ⟨hp4, h⟩ := h
    refine c_callV C.1 C.2.2.2.1 C.2.2.2.2.1 (h_getS K.l y σ v5 hp4) (ci := 0) (q := (RJx4a65c, TJx4a65c, 3)) rfl (c_recv rfl ⟨rfl, rfl⟩) (fun ht => cwV 1 ht gX4_advise_Jx4a65c_get_915e3 rfl rfl rfl (by decide +kernel) ⟨Nat.le_of_ble_eq_true rfl, Nat.le_of_ble_eq_true rfl⟩) rfl rfl (by simp [vM_cat, cat_i, cat_r, cat_l]) ⟨Nat.le_of_ble_eq_true rfl, Nat.le_of_ble_eq_true rfl⟩ dX4_advise_52 (fun r σ9 hq => ?_)
    rw [hq.1, hq.2]
    show G K (CL y σ) (1, 6) [(0, .ref (y.1 0 0 0)), (2, vM y v2), (3, .int (iZ v3)), (4, .int (iZ v4)), (5, .int (iZ v5))] 55 [.ref (y.1 13 v5 0), vM y v2, .ref (y.1 0 0 0)]
    obtain ⟨hd5, h⟩ := h
    refine c_cast C.1 C.2.2.2.1 (ci := 3) (q := (RX2, TX2, 1)) rfl rfl (by decide +kernel) lk_X4_advise_cc107 dX4_advise_55 ⟨hd5.1, hd5.2, rfl⟩ ?_
    refine g_iconst C.1 (z := 1) dX4_advise_58 ?_
    obtain ⟨hp6, h⟩ := h
    refine c_callV C.1 C.2.2.2.1 C.2.2.2.2.1 (h_draftCopy K.l y σ v2 v5 1 hp6) (ci := 5) (q := (RX4, TX4, 10)) rfl (c_recv rfl ⟨rfl, rfl⟩) (fun ht => cwV 3 ht gX4_advise_X4_draftCopy rfl rfl rfl (by decide +kernel) ⟨Nat.le_of_ble_eq_true rfl, Nat.le_of_ble_eq_true rfl⟩) rfl rfl (Nat.le_of_ble_eq_true rfl) ⟨Nat.le_of_ble_eq_true rfl, Nat.le_of_ble_eq_true rfl⟩ dX4_advise_59 (fun r7 σ8 hq => ?_)
    have h := h r7 σ8 hq
    show G K (CL y σ8) (1, 6) [(0, .ref (y.1 0 0 0)), (2, vM y v2), (3, .int (iZ v3)), (4, .int (iZ v4)), (5, .int (iZ v5))] 62 []
    refine g_aload_n C.1 0 dX4_advise_62 rfl rfl ?_
    refine g_aload_n C.1 0 dX4_advise_63 rfl rfl ?_
    refine c_get C.1 (ci := 5) (q := (RX4, TX4, 10)) rfl rfl inX4_advise_X4 5 (by decide) (v := .ref (y.1 8 0 0)) rfl lk_X4_advise_f35 rfl dX4_advise_64 ⟨rfl, rfl⟩ ?_
    refine g_aloadM_n C.1 1 dX4_advise_67 rfl rfl ?_
    obtain ⟨hd9, h⟩ := h
    refine c_atM hd9.1 ?_
    refine c_get C.1 (ci := 2) (q := (RX1, TX1, 6)) rfl rfl inX4_advise_X1 4 (by decide) (v := .ref (y.1 8 (v2 + 3) 0)) rfl lk_X4_advise_f88 rfl dX4_advise_68 ⟨hd9.1, hd9.2, rfl⟩ ?_
    obtain ⟨hp10, h⟩ := h
    refine c_callV C.1 C.2.2.2.1 C.2.2.2.2.1 (h_steps K.l y σ8 0 (v2 + 3) hp10) (ci := 5) (q := (RX4, TX4, 10)) rfl (c_recv rfl ⟨rfl, rfl⟩) (fun ht => cwV 2 ht gX4_advise_X4_steps rfl rfl rfl (by decide +kernel) ⟨Nat.le_of_ble_eq_true rfl, Nat.le_of_ble_eq_true rfl⟩) rfl rfl (Nat.le_of_ble_eq_true rfl) ⟨Nat.le_of_ble_eq_true rfl, Nat.le_of_ble_eq_true rfl⟩ dX4_advise_71 (fun r11 σ12 hq => ?_)
    have h := h r11 σ12 hq
    show G K (CL y σ12) (1, 6) [(0, .ref (y.1 0 0 0)), (2, vM y v2), (3, .int (iZ v3)), (4, .int (iZ v4)), (5, .int (iZ v5))] 74 [.int (iZ r11)]
    refine g_istore C.1 (i := 6) (loc' := [(6, .int (iZ r11)), (0, .ref (y.1 0 0 0)), (2, vM y v2), (3, .int (iZ v3)), (4, .int (iZ v4)), (5, .int (iZ v5))]) C.2.1 dX4_advise_74 (by decide) (by simp [vM_cat, cat_i, cat_r, cat_l]) ?_
    refine g_iload C.1 0 dX4_advise_76 rfl ?_
    refine g_iload C.1 4 dX4_advise_78 rfl ?_
    obtain ⟨hc13, h⟩ := h
    obtain ⟨hc14, h⟩ := h
    refine g_icmp_ge C.1 (tgt := 90) dX4_advise_80 (by decide) hc13 hc14 (fun hc => ?_) (fun hc => ?_)
    · have h := h.1 hc
      refine g_iinc C.1 (z := v5) (w := 1) (loc' := [(5, .int (iZ (v5 + 1))), (6, .int (iZ r11)), (0, .ref (y.1 0 0 0)), (2, vM y v2), (3, .int (iZ v3)), (4, .int (iZ v4))]) 5 C.2.1 dX4_advise_90 rfl (by decide) (by simp [vM_cat, cat_i, cat_r, cat_l]) ?_
      refine g_goto C.1 (tgt := 32) dX4_advise_93 (by decide) ?_
      exact g_sub [2, 3, 4, 5, 0] rfl h
    · have h := h.2 hc
      refine g_iload C.1 0 dX4_advise_83 rfl ?_
      refine g_istore C.1 (i := 4) (loc' := [(4, .int (iZ r11)), (6, .int (iZ r11)), (0, .ref (y.1 0 0 0)), (2, vM y v2), (3, .int (iZ v3)), (5, .int (iZ v5))]) C.2.1 dX4_advise_85 (by decide) (by simp [vM_cat, cat_i, cat_r, cat_l]) ?_
      refine g_iload C.1 5 dX4_advise_87 rfl ?_
      refine g_istore_n C.1 (i := 3) (loc' := [(3, .int (iZ v5)), (4, .int (iZ r11)), (6, .int (iZ r11)), (0, .ref (y.1 0 0 0)), (2, vM y v2), (5, .int (iZ v5))]) C.2.1 dX4_advise_89 rfl (by decide) (by simp [vM_cat, cat_i, cat_r, cat_l]) ?_
      refine g_iinc C.1 (z := v5) (w := 1) (loc' := [(5, .int (iZ (v5 + 1))), (3, .int (iZ v5)), (4, .int (iZ r11)), (6, .int (iZ r11)), (0, .ref (y.1 0 0 0)), (2, vM y v2)]) 5 C.2.1 dX4_advise_90 rfl (by decide) (by simp [vM_cat, cat_i, cat_r, cat_l]) ?_
      refine g_goto C.1 (tgt := 32) dX4_advise_93 (by decide) ?_
      exact g_sub [4, 5, 1, 2, 0] rfl h
theorem m_X4_advise {l : Launch} {y : LT} {σ : CS} {v1 : Int} {post : Int → CS → Prop} {px : String → CS → Prop} (h : ∀ K : KT, K.l = l → C_X4_advise K y post px → P_X4_advise_0 K y σ v1) : vMet l yX4_advise wsX4_advise rm_X4_advise y.2.2 (CL y) rkI [.ref (y.1 0 0 0), .int (iZ v1)] σ post px :=
  vMet.of (maxL := 7) (by decide +kernel) rfl (Nat.le_of_ble_eq_true rfl) (fun K h1 h2 h3 h4 h5 h6 h7 => h K h1 ⟨h2, h3, h4, h5, h6, h7⟩)
def H_X4_advise (p : CS → Int → Prop) (o : CS → Int → Int → CS → Prop) (x : CS → Int → String → CS → Prop) : Prop := ∀ (l : Launch) (y : LT) (σ : CS) (v1 : Int), p σ v1 → vMet l yX4_advise wsX4_advise rm_X4_advise y.2.2 (CL y) rkI [.ref (y.1 0 0 0), .int (iZ v1)] σ (fun r σ' => o σ v1 r σ') (x σ v1)

/-! X4_measure -/
abbrev rm_X4_measure : Room := { frames := 3, cells := 0, slots := 0, locals := 91 }
set_option maxRecDepth 20000 in
theorem inX4_measure_X4 : ∀ w ∈ wsX40, w ∈ wsX4_measure := by decide +kernel
set_option maxRecDepth 20000 in
theorem inX4_measure_X1 : ∀ w ∈ wsX10, w ∈ wsX4_measure := by decide +kernel
theorem lk_X4_measure_f29 : Cond.fieldLink RX4 29 "CopyHouse" "measured" "[[I" ∈ wsX4_measure := List.mem_of_getElem? (i := 1) (by decide +kernel)
theorem lk_X4_measure_f199 : Cond.fieldLink RX4 199 "CopyHouse$Manuscript" "number" "I" ∈ wsX4_measure := List.mem_of_getElem? (i := 2) (by decide +kernel)
theorem lk_X4_measure_f88 : Cond.fieldLink RX4 88 "CopyHouse$Manuscript" "text" "LCopyHouse$Text;" ∈ wsX4_measure := List.mem_of_getElem? (i := 3) (by decide +kernel)
def C_X4_measure (K : KT) (y : LT) (post : Int → CS → Prop) : Prop := kOK K cX4_measure RX4 wsX4_measure (some .int) rm_X4_measure ∧ K.nL = 4 ∧ kQ K (CL y) rkI post rm_X4_measure ∧ SF y.2.2 K.A K.s K.s.heap ∧ K.l.stackTraces = false
def P_X4_measure_0 (K : KT) (y : LT) (σ : CS) (v1 v2 : Int) : Prop := G K (CL y σ) (0, 0) [(0, .ref (y.1 0 0 0)), (1, vM y v1), (2, vM y v2)] 0 []
set_option maxRecDepth 100000 in
set_option maxHeartbeats 4000000 in
theorem b_X4_measure_0 {K : KT} {y : LT} {post : Int → CS → Prop} (C : C_X4_measure K y post) {p_steps : CS → Int → Int → Prop} {o_steps : CS → Int → Int → Int → CS → Prop} (h_steps : H_X4_steps p_steps o_steps) {σ : CS} {v1 v2 : Int} (h : (0 ≤ v1 ∧ v1 < (σ 21 0 0 0)) ∧ (0 ≤ v1 ∧ v1 < 24) ∧ (0 ≤ v2 ∧ v2 < (σ 21 0 0 0)) ∧ (0 ≤ v2 ∧ v2 < 24) ∧ (-2147483648 ≤ (σ 4 v1 v2 0) ∧ (σ 4 v1 v2 0) < 2147483648) ∧ ((¬ (σ 4 v1 v2 0) = ((-1)) → post (σ 4 v1 v2 0) σ) ∧ ((σ 4 v1 v2 0) = ((-1)) → (p_steps σ (v1 + 3) (v2 + 3)) ∧ ∀ (r7 : Int) (σ8 : CS), o_steps σ (v1 + 3) (v2 + 3) r7 σ8 → (0 ≤ v1 ∧ v1 < (σ8 21 0 0 0)) ∧ (0 ≤ v2 ∧ v2 < (σ8 21 0 0 0)) ∧ post r7 (upC σ8 4 (up2 ((up2 (σ8 4) v1 v2 r7)) v2 v1 r7))))) : P_X4_measure_0 K y σ v1 v2 := by
  refine g_aload_n C.1 0 dX4_measure_0 rfl rfl ?_
  refine c_get C.1 (ci := 5) (q := (RX4, TX4, 10)) rfl rfl inX4_measure_X4 4 (by decide) (v := .ref (y.1 6 0 0)) rfl lk_X4_measure_f29 rfl dX4_measure_1 ⟨rfl, rfl⟩ ?_
  refine g_aloadM_n C.1 1 dX4_measure_4 rfl rfl ?_
  obtain ⟨hd1, h⟩ := h
  refine c_atM hd1.1 ?_
  refine c_get C.1 (ci := 2) (q := (RX1, TX1, 6)) rfl rfl inX4_measure_X1 0 (by decide) (v := .int (iZ v1)) rfl lk_X4_measure_f199 rfl dX4_measure_5 ⟨hd1.1, hd1.2, rfl⟩ ?_
  obtain ⟨hd2, h⟩ := h
  refine c_mrow C.1 (e := v1) dX4_measure_8 hd2 ?_
  refine g_aloadM_n C.1 2 dX4_measure_9 rfl rfl ?_
  obtain ⟨hd3, h⟩ := h
  refine c_atM hd3.1 ?_
  refine c_get C.1 (ci := 2) (q := (RX1, TX1, 6)) rfl rfl inX4_measure_X1 0 (by decide) (v := .int (iZ v2)) rfl lk_X4_measure_f199 rfl dX4_measure_10 ⟨hd3.1, hd3.2, rfl⟩ ?_
  obtain ⟨hi4, h⟩ := h
  refine c_ald C.1 (N := 24) (f := fun p => σ 4 v1 p 0) (e := v2) rfl rfl rfl (by decide) dX4_measure_13 ⟨hd2.1, hd2.2, rfl⟩ hi4 ?_
  show G K (CL y σ) (0, 0) [(0, .ref (y.1 0 0 0)), (1, vM y v1), (2, vM y v2)] 14 [.int (iZ (σ 4 v1 v2 0))]
  refine g_istore_n C.1 (i := 3) (loc' := [(3, .int (iZ (σ 4 v1 v2 0))), (0, .ref (y.1 0 0 0)), (1, vM y v1), (2, vM y v2)]) C.2.1 dX4_measure_14 rfl (by decide) (by simp [vM_cat, cat_i, cat_r, cat_l]) ?_
  refine g_iload_n C.1 0 dX4_measure_15 rfl rfl ?_
  refine g_iconst C.1 (z := (-1)) dX4_measure_16 ?_
  obtain ⟨hc5, h⟩ := h
  refine g_icmp_ne C.1 (tgt := 63) dX4_measure_17 (by decide) hc5 (by decide) (fun hc => ?_) (fun hc => ?_)
  · have h := h.1 hc
    refine g_iload_n C.1 0 dX4_measure_63 rfl rfl ?_
    exact x_iret C.1 C.2.2.1 rfl ⟨Nat.le_of_ble_eq_true rfl, Nat.le_of_ble_eq_true rfl⟩ dX4_measure_64 h
  · have h := h.2 hc
    refine g_aload_n C.1 1 dX4_measure_20 rfl rfl ?_
    refine g_aloadM_n C.1 2 dX4_measure_21 rfl rfl ?_
    refine c_atM hd1.1 ?_
    refine c_get C.1 (ci := 2) (q := (RX1, TX1, 6)) rfl rfl inX4_measure_X1 4 (by decide) (v := .ref (y.1 8 (v1 + 3) 0)) rfl lk_X4_measure_f88 rfl dX4_measure_22 ⟨hd1.1, hd1.2, rfl⟩ ?_
    refine g_aloadM_n C.1 3 dX4_measure_25 rfl rfl ?_
    refine c_atM hd3.1 ?_
    refine c_get C.1 (ci := 2) (q := (RX1, TX1, 6)) rfl rfl inX4_measure_X1 4 (by decide) (v := .ref (y.1 8 (v2 + 3) 0)) rfl lk_X4_measure_f88 rfl dX4_measure_26 ⟨hd3.1, hd3.2, rfl⟩ ?_
    obtain ⟨hp6, h⟩ := h
    refine c_callV C.1 C.2.2.2.1 C.2.2.2.2 (h_steps K.l y σ (v1 + 3) (v2 + 3) hp6) (ci := 5) (q := (RX4, TX4, 10)) rfl (c_recv rfl ⟨rfl, rfl⟩) (fun ht => cwV 2 ht gX4_measure_X4_steps rfl rfl rfl (by decide +kernel) ⟨Nat.le_of_ble_eq_true rfl, Nat.le_of_ble_eq_true rfl⟩) rfl rfl (Nat.le_of_ble_eq_true rfl) ⟨Nat.le_of_ble_eq_true rfl, Nat.le_of_ble_eq_true rfl⟩ dX4_measure_29 (fun r7 σ8 hq => ?_)
    have h := h r7 σ8 hq
    show G K (CL y σ8) (0, 0) [(3, .int (iZ (σ 4 v1 v2 0))), (0, .ref (y.1 0 0 0)), (1, vM y v1), (2, vM y v2)] 32 [.int (iZ r7)]
    refine g_istore_n C.1 (i := 3) (loc' := [(3, .int (iZ r7)), (0, .ref (y.1 0 0 0)), (1, vM y v1), (2, vM y v2)]) C.2.1 dX4_measure_32 rfl (by decide) (by simp [vM_cat, cat_i, cat_r, cat_l]) ?_
    refine g_aload_n C.1 1 dX4_measure_33 rfl rfl ?_
    refine c_get C.1 (ci := 5) (q := (RX4, TX4, 10)) rfl rfl inX4_measure_X4 4 (by decide) (v := .ref (y.1 6 0 0)) rfl lk_X4_measure_f29 rfl dX4_measure_34 ⟨rfl, rfl⟩ ?_
    refine g_aloadM_n C.1 2 dX4_measure_37 rfl rfl ?_
    obtain ⟨hd9, h⟩ := h
    refine c_atM hd9.1 ?_
    refine c_get C.1 (ci := 2) (q := (RX1, TX1, 6)) rfl rfl inX4_measure_X1 0 (by decide) (v := .int (iZ v1)) rfl lk_X4_measure_f199 rfl dX4_measure_38 ⟨hd9.1, hd9.2, rfl⟩ ?_
    refine c_mrow C.1 (e := v1) dX4_measure_41 hd2 ?_
    refine g_aloadM_n C.1 3 dX4_measure_42 rfl rfl ?_
    obtain ⟨hd10, h⟩ := h
    refine c_atM hd10.1 ?_
    refine c_get C.1 (ci := 2) (q := (RX1, TX1, 6)) rfl rfl inX4_measure_X1 0 (by decide) (v := .int (iZ v2)) rfl lk_X4_measure_f199 rfl dX4_measure_43 ⟨hd10.1, hd10.2, rfl⟩ ?_
    refine g_iload_n C.1 0 dX4_measure_46 rfl rfl ?_
    refine c_ast C.1 (σ' := upC σ8 4 (up2 (σ8 4) v1 v2 r7)) (N := 24) (f := fun p => σ8 4 v1 p 0) (e := v2) (z := r7) rfl rfl (cu_meas _ _ _ _ _) (CUpd_4 y _ _ _ (fun _ _ hx => if_neg (fun q => hx q.1))) rfl (by decide) dX4_measure_47 ⟨hd2.1, hd2.2, rfl⟩ hi4 ?_
    refine g_aload_n C.1 1 dX4_measure_48 rfl rfl ?_
    refine c_get C.1 (ci := 5) (q := (RX4, TX4, 10)) rfl rfl inX4_measure_X4 4 (by decide) (v := .ref (y.1 6 0 0)) rfl lk_X4_measure_f29 rfl dX4_measure_49 ⟨rfl, rfl⟩ ?_
    refine g_aloadM_n C.1 3 dX4_measure_52 rfl rfl ?_
    refine c_atM hd10.1 ?_
    refine c_get C.1 (ci := 2) (q := (RX1, TX1, 6)) rfl rfl inX4_measure_X1 0 (by decide) (v := .int (iZ v2)) rfl lk_X4_measure_f199 rfl dX4_measure_53 ⟨hd10.1, hd10.2, rfl⟩ ?_
    refine c_mrow C.1 (e := v2) dX4_measure_56 hi4 ?_
    refine g_aloadM_n C.1 2 dX4_measure_57 rfl rfl ?_
    refine c_atM hd9.1 ?_
    refine c_get C.1 (ci := 2) (q := (RX1, TX1, 6)) rfl rfl inX4_measure_X1 0 (by decide) (v := .int (iZ v1)) rfl lk_X4_measure_f199 rfl dX4_measure_58 ⟨hd9.1, hd9.2, rfl⟩ ?_
    refine g_iload_n C.1 0 dX4_measure_61 rfl rfl ?_
    refine c_ast C.1 (σ' := upC (upC σ8 4 (up2 (σ8 4) v1 v2 r7)) 4 (up2 ((up2 (σ8 4) v1 v2 r7)) v2 v1 r7)) (N := 24) (f := fun p => (up2 (σ8 4) v1 v2 r7) v2 p 0) (e := v1) (z := r7) rfl rfl (cu_meas _ _ _ _ _) (CUpd_4 y _ _ _ (fun _ _ hx => if_neg (fun q => hx q.1))) rfl (by decide) dX4_measure_62 ⟨hi4.1, hi4.2, rfl⟩ hd2 ?_
    rw [show upC (upC σ8 4 (up2 (σ8 4) v1 v2 r7)) 4 (up2 ((up2 (σ8 4) v1 v2 r7)) v2 v1 r7) = upC σ8 4 (up2 ((up2 (σ8 4) v1 v2 r7)) v2 v1 r7) from by funext c9; unfold upC; split <;> simp_all]
    refine g_iload_n C.1 0 dX4_measure_63 rfl rfl ?_
    exact x_iret C.1 C.2.2.1 rfl ⟨Nat.le_of_ble_eq_true rfl, Nat.le_of_ble_eq_true rfl⟩ dX4_measure_64 h
theorem m_X4_measure {l : Launch} {y : LT} {σ : CS} {v1 v2 : Int} {post : Int → CS → Prop} (h : ∀ K : KT, K.l = l → C_X4_measure K y post → P_X4_measure_0 K y σ v1 v2) : cMet l yX4_measure wsX4_measure rm_X4_measure y.2.2 (CL y) rkI [.ref (y.1 0 0 0), vM y v1, vM y v2] σ post :=
  cMet.of (maxL := 4) (by decide +kernel) rfl (by simp [lg_sl, List.flatMap, vM_cat, cat_i, cat_r, cat_l]) (fun K h1 h2 h3 h4 h5 h6 _ => by
    have h9 := h K h1 ⟨h2, h3, h4, h5, h6⟩
    simp only [lv_args, vM_cat, cat_i, cat_r, cat_l]
    exact h9)
def H_X4_measure (p : CS → Int → Int → Prop) (o : CS → Int → Int → Int → CS → Prop) : Prop := ∀ (l : Launch) (y : LT) (σ : CS) (v1 v2 : Int), p σ v1 v2 → cMet l yX4_measure wsX4_measure rm_X4_measure y.2.2 (CL y) rkI [.ref (y.1 0 0 0), vM y v1, vM y v2] σ (fun r σ' => o σ v1 v2 r σ')

/-! X4_distance -/
abbrev rm_X4_distance : Room := { frames := 7, cells := 2, slots := 12, locals := 121 }
def C_X4_distance (K : KT) (y : LT) (post : Int → CS → Prop) (px : String → CS → Prop) : Prop := kOK K cX4_distance RX4 wsX4_distance (some .int) rm_X4_distance ∧ K.nL = 3 ∧ kQX K (CL y) rkI post px rm_X4_distance ∧ SF y.2.2 K.A K.s K.s.heap ∧ K.l.stackTraces = false ∧ kNX K
def P_X4_distance_0 (K : KT) (y : LT) (σ : CS) (v1 v2 : Int) : Prop := G K (CL y σ) (0, 0) [(0, .ref (y.1 0 0 0)), (1, .int (iZ v1)), (2, .int (iZ v2))] 0 []
set_option maxRecDepth 100000 in
set_option maxHeartbeats 4000000 in
theorem b_X4_distance_0 {K : KT} {y : LT} {post : Int → CS → Prop} {px : String → CS → Prop} (C : C_X4_distance K y post px) {p_manuscriptOf : CS → Int → Prop} {o_manuscriptOf : CS → Int → Int → CS → Prop} {x_manuscriptOf : CS → Int → String → CS → Prop} (h_manuscriptOf : H_X4_manuscriptOf p_manuscriptOf o_manuscriptOf x_manuscriptOf) {p_measure : CS → Int → Int → Prop} {o_measure : CS → Int → Int → Int → CS → Prop} (h_measure : H_X4_measure p_measure o_measure) {σ : CS} {v1 v2 : Int} (h : (p_manuscriptOf σ v1) ∧ (∀ (E : String) (u9 : CS), x_manuscriptOf σ v1 E u9 → px E u9) ∧ ∀ (r2 : Int) (σ3 : CS), o_manuscriptOf σ v1 r2 σ3 → (p_manuscriptOf σ3 v2) ∧ (∀ (E : String) (u9 : CS), x_manuscriptOf σ3 v2 E u9 → px E u9) ∧ ∀ (r5 : Int) (σ6 : CS), o_manuscriptOf σ3 v2 r5 σ6 → (p_measure σ6 r2 r5) ∧ ∀ (r8 : Int) (σ9 : CS), o_measure σ6 r2 r5 r8 σ9 → post r8 σ9) : P_X4_distance_0 K y σ v1 v2 := by
  refine g_aload_n C.1 0 dX4_distance_0 rfl rfl ?_
  refine g_aload_n C.1 0 dX4_distance_1 rfl rfl ?_
  refine g_iload_n C.1 1 dX4_distance_2 rfl rfl ?_
  obtain ⟨hp1, h⟩ := h
  obtain ⟨hx9, h⟩ := h
  refine c_callX C.1 C.2.2.1 C.2.2.2.2.2 C.2.2.2.1 C.2.2.2.2.1 (h_manuscriptOf K.l y σ v1 hp1) (ci := 5) (q := (RX4, TX4, 10)) rfl (c_recv rfl ⟨rfl, rfl⟩) (fun ht => cwV 1 ht gX4_distance_X4_manuscriptOf rfl rfl rfl (by decide +kernel) ⟨Nat.le_of_ble_eq_true rfl, Nat.le_of_ble_eq_true rfl⟩) rfl rfl (Nat.le_of_ble_eq_true rfl) ⟨Nat.le_of_ble_eq_true rfl, Nat.le_of_ble_eq_true rfl⟩ ⟨Nat.le_of_ble_eq_true rfl, Nat.le_of_ble_eq_true rfl⟩ dX4_distance_3 (fun E u9 hq => ⟨u9, hx9 E u9 hq, fun _ _ w9 => w9⟩) (fun r2 σ3 hq => ?_)
  have h := h r2 σ3 hq
  show G K (CL y σ3) (1, 6) [(0, .ref (y.1 0 0 0)), (1, .int (iZ v1)), (2, .int (iZ v2))] 6 [vM y r2, .ref (y.1 0 0 0)]
  refine g_aload_n C.1 0 dX4_distance_6 rfl rfl ?_
  refine g_iload_n C.1 2 dX4_distance_7 rfl rfl ?_
  obtain ⟨hp4, h⟩ := h
  obtain ⟨hx9, h⟩ := h
  refine c_callX C.1 C.2.2.1 C.2.2.2.2.2 C.2.2.2.1 C.2.2.2.2.1 (h_manuscriptOf K.l y σ3 v2 hp4) (ci := 5) (q := (RX4, TX4, 10)) rfl (c_recv rfl ⟨rfl, rfl⟩) (fun ht => cwV 1 ht gX4_distance_X4_manuscriptOf rfl rfl rfl (by decide +kernel) ⟨Nat.le_of_ble_eq_true rfl, Nat.le_of_ble_eq_true rfl⟩) rfl rfl (by simp [vM_cat, cat_i, cat_r, cat_l]) ⟨Nat.le_of_ble_eq_true rfl, Nat.le_of_ble_eq_true rfl⟩ ⟨Nat.le_of_ble_eq_true rfl, Nat.le_of_ble_eq_true rfl⟩ dX4_distance_8 (fun E u9 hq => ⟨u9, hx9 E u9 hq, fun _ _ w9 => w9⟩) (fun r5 σ6 hq => ?_)
  have h := h r5 σ6 hq
  show G K (CL y σ6) (2, 12) [(0, .ref (y.1 0 0 0)), (1, .int (iZ v1)), (2, .int (iZ v2))] 11 [vM y r5, vM y r2, .ref (y.1 0 0 0)]
  obtain ⟨hp7, h⟩ := h
  refine c_callV C.1 C.2.2.2.1 C.2.2.2.2.1 (h_measure K.l y σ6 r2 r5 hp7) (ci := 5) (q := (RX4, TX4, 10)) rfl (c_recv rfl ⟨rfl, rfl⟩) (fun ht => cwV 2 ht gX4_distance_X4_measure rfl rfl rfl (by decide +kernel) ⟨Nat.le_of_ble_eq_true rfl, Nat.le_of_ble_eq_true rfl⟩) rfl rfl (Nat.le_of_ble_eq_true rfl) ⟨Nat.le_of_ble_eq_true rfl, Nat.le_of_ble_eq_true rfl⟩ dX4_distance_11 (fun r8 σ9 hq => ?_)
  have h := h r8 σ9 hq
  show G K (CL y σ9) (2, 12) [(0, .ref (y.1 0 0 0)), (1, .int (iZ v1)), (2, .int (iZ v2))] 14 [.int (iZ r8)]
  exact y_iret C.1 C.2.2.1 rfl ⟨Nat.le_of_ble_eq_true rfl, Nat.le_of_ble_eq_true rfl⟩ dX4_distance_14 h
theorem m_X4_distance {l : Launch} {y : LT} {σ : CS} {v1 v2 : Int} {post : Int → CS → Prop} {px : String → CS → Prop} (h : ∀ K : KT, K.l = l → C_X4_distance K y post px → P_X4_distance_0 K y σ v1 v2) : vMet l yX4_distance wsX4_distance rm_X4_distance y.2.2 (CL y) rkI [.ref (y.1 0 0 0), .int (iZ v1), .int (iZ v2)] σ post px :=
  vMet.of (maxL := 3) (by decide +kernel) rfl (Nat.le_of_ble_eq_true rfl) (fun K h1 h2 h3 h4 h5 h6 h7 => h K h1 ⟨h2, h3, h4, h5, h6, h7⟩)
def H_X4_distance (p : CS → Int → Int → Prop) (o : CS → Int → Int → Int → CS → Prop) (x : CS → Int → Int → String → CS → Prop) : Prop := ∀ (l : Launch) (y : LT) (σ : CS) (v1 v2 : Int), p σ v1 v2 → vMet l yX4_distance wsX4_distance rm_X4_distance y.2.2 (CL y) rkI [.ref (y.1 0 0 0), .int (iZ v1), .int (iZ v2)] σ (fun r σ' => o σ v1 v2 r σ') (x σ v1 v2)

/-! X4_fact -/
abbrev rm_X4_fact : Room := { frames := 4, cells := 0, slots := 0, locals := 114 }
set_option maxRecDepth 20000 in
theorem inX4_fact_X1 : ∀ w ∈ wsX10, w ∈ wsX4_fact := by decide +kernel
set_option maxRecDepth 20000 in
theorem inX4_fact_X3 : ∀ w ∈ wsX30, w ∈ wsX4_fact := by decide +kernel
theorem lk_X4_fact_f88 : Cond.fieldLink RX4 88 "CopyHouse$Manuscript" "text" "LCopyHouse$Text;" ∈ wsX4_fact := List.mem_of_getElem? (i := 1) (by decide +kernel)
theorem lk_X4_fact_f93 : Cond.fieldLink RX4 93 "CopyHouse$Text" "length" "I" ∈ wsX4_fact := List.mem_of_getElem? (i := 2) (by decide +kernel)
theorem lk_X4_fact_f202 : Cond.fieldLink RX4 202 "CopyHouse$Manuscript" "exemplar" "LCopyHouse$Manuscript;" ∈ wsX4_fact := List.mem_of_getElem? (i := 3) (by decide +kernel)
theorem lk_X4_fact_f199 : Cond.fieldLink RX4 199 "CopyHouse$Manuscript" "number" "I" ∈ wsX4_fact := List.mem_of_getElem? (i := 4) (by decide +kernel)
theorem lk_X4_fact_f274 : Cond.fieldLink RX4 274 "CopyHouse$Manuscript" "scribe" "I" ∈ wsX4_fact := List.mem_of_getElem? (i := 5) (by decide +kernel)
theorem lk_X4_fact_f277 : Cond.fieldLink RX4 277 "CopyHouse$Manuscript" "generation" "I" ∈ wsX4_fact := List.mem_of_getElem? (i := 6) (by decide +kernel)
theorem lk_X4_fact_f153 : Cond.fieldLink RX4 153 "CopyHouse$Manuscript" "there" "Z" ∈ wsX4_fact := List.mem_of_getElem? (i := 7) (by decide +kernel)
def C_X4_fact (K : KT) (y : LT) (post : Int → CS → Prop) : Prop := kOK K cX4_fact RX4 wsX4_fact (some .int) rm_X4_fact ∧ K.nL = 3 ∧ kQ K (CL y) rkI post rm_X4_fact ∧ SF y.2.2 K.A K.s K.s.heap ∧ K.l.stackTraces = false
def P_X4_fact_0 (K : KT) (y : LT) (σ : CS) (v1 v2 : Int) : Prop := G K (CL y σ) (0, 0) [(0, .ref (y.1 0 0 0)), (1, vM y v1), (2, .int (iZ v2))] 0 []
set_option maxRecDepth 100000 in
set_option maxHeartbeats 4000000 in
theorem b_X4_fact_0 {K : KT} {y : LT} {post : Int → CS → Prop} (C : C_X4_fact K y post) {p_origin : CS → Int → Prop} {f_origin : CS → Int → Int} (h_origin : H_X1_origin p_origin f_origin) {p_measure : CS → Int → Int → Prop} {o_measure : CS → Int → Int → Int → CS → Prop} (h_measure : H_X4_measure p_measure o_measure) {p_copiesOf : CS → Int → Prop} {f_copiesOf : CS → Int → Int} (h_copiesOf : H_X4_copiesOf p_copiesOf f_copiesOf) {p_descendantsOf : CS → Int → Prop} {f_descendantsOf : CS → Int → Int} (h_descendantsOf : H_X4_descendantsOf p_descendantsOf f_descendantsOf) {σ : CS} {v1 v2 : Int} (h : (-2147483648 ≤ v2 ∧ v2 < 2147483648) ∧ (((v2 < 0 ∨ 7 < v2) → (p_origin σ v1) ∧ (0 ≤ v1 ∧ v1 < (σ 21 0 0 0)) ∧ (p_measure σ v1 (f_origin σ v1)) ∧ ∀ (r5 : Int) (σ6 : CS), o_measure σ v1 (f_origin σ v1) r5 σ6 → post r5 σ6) ∧ (v2 = 0 → (0 ≤ v1 ∧ v1 < (σ 21 0 0 0)) ∧ (0 ≤ (v1 + 3) ∧ (v1 + 3) < (σ 21 0 0 0) + 3) ∧ post (σ 5 (v1 + 3) 0 0) σ) ∧ (v2 = 1 → (0 ≤ v1 ∧ v1 < (σ 21 0 0 0)) ∧ ((¬ (σ 9 v1 0 0) < 0 → (0 ≤ (σ 9 v1 0 0) ∧ (σ 9 v1 0 0) < (σ 21 0 0 0)) ∧ post (σ 9 v1 0 0) σ) ∧ ((σ 9 v1 0 0) < 0 → post ((-1)) σ))) ∧ (v2 = 2 → (0 ≤ v1 ∧ v1 < (σ 21 0 0 0)) ∧ post (σ 10 v1 0 0) σ) ∧ (v2 = 3 → (0 ≤ v1 ∧ v1 < (σ 21 0 0 0)) ∧ post (σ 11 v1 0 0) σ) ∧ (v2 = 4 → (0 ≤ v1 ∧ v1 < (σ 21 0 0 0)) ∧ (-2147483648 ≤ (σ 12 v1 0 0) ∧ (σ 12 v1 0 0) < 2147483648) ∧ post ((if ¬ (σ 12 v1 0 0) = 0 then 1 else 0)) σ) ∧ (v2 = 5 → (p_copiesOf σ v1) ∧ post (f_copiesOf σ v1) σ) ∧ (v2 = 6 → (p_descendantsOf σ v1) ∧ post (f_descendantsOf σ v1) σ) ∧ (v2 = 7 → (0 ≤ v1 ∧ v1 < (σ 21 0 0 0)) ∧ ((¬ (σ 9 v1 0 0) < 0 → (p_measure σ v1 (σ 9 v1 0 0)) ∧ ∀ (r19 : Int) (σ20 : CS), o_measure σ v1 (σ 9 v1 0 0) r19 σ20 → post r19 σ20) ∧ ((σ 9 v1 0 0) < 0 → post 0 σ))))) : P_X4_fact_0 K y σ v1 v2 := by
  refine g_iload_n C.1 2 dX4_fact_0 rfl rfl ?_
  obtain ⟨hc1, h⟩ := h
  refine g_tsw C.1 (x := v2) (lo := 0) (hi := 7) dX4_fact_1 hc1 (fun hc => ?_) (fun h1 h2 => ?_)
  · refine ⟨131, by decide, ?_⟩
    have h := h.1 hc
    refine g_aload_n C.1 0 dX4_fact_131 rfl rfl ?_
    refine g_aloadM_n C.1 1 dX4_fact_132 rfl rfl ?_
    refine g_aloadM_n C.1 1 dX4_fact_133 rfl rfl ?_
    obtain ⟨hp2, h⟩ := h
    obtain ⟨hd3, h⟩ := h
    refine c_callV C.1 C.2.2.2.1 C.2.2.2.2 (c_Mrecv hd3.1 (h_origin K.l y σ v1 hp2)) (rest := [vM y v1, .ref (y.1 0 0 0)]) (ci := 2) (q := (RX1, TX1, 6)) rfl (c_recv rfl ⟨hd3.1, hd3.2, rfl⟩) (fun ht => cwV 0 ht gX4_fact_X1_origin rfl rfl rfl (by decide +kernel) ⟨Nat.le_of_ble_eq_true rfl, Nat.le_of_ble_eq_true rfl⟩) rfl (by rw [vM_ref hd3.1]; rfl) (by simp [vM_cat, cat_i, cat_r, cat_l]) ⟨Nat.le_of_ble_eq_true rfl, Nat.le_of_ble_eq_true rfl⟩ dX4_fact_134 (fun r σ9 hq => ?_)
    rw [hq.1, hq.2]
    show G K (CL y σ) (0, 0) [(0, .ref (y.1 0 0 0)), (1, vM y v1), (2, .int (iZ v2))] 137 [vM y (f_origin σ v1), vM y v1, .ref (y.1 0 0 0)]
    obtain ⟨hp4, h⟩ := h
    refine c_callV C.1 C.2.2.2.1 C.2.2.2.2 (h_measure K.l y σ v1 (f_origin σ v1) hp4) (ci := 5) (q := (RX4, TX4, 10)) rfl (c_recv rfl ⟨rfl, rfl⟩) (fun ht => cwV 2 ht gX4_fact_X4_measure rfl rfl rfl (by decide +kernel) ⟨Nat.le_of_ble_eq_true rfl, Nat.le_of_ble_eq_true rfl⟩) rfl rfl (Nat.le_of_ble_eq_true rfl) ⟨Nat.le_of_ble_eq_true rfl, Nat.le_of_ble_eq_true rfl⟩ dX4_fact_137 (fun r5 σ6 hq => ?_)
    have h := h r5 σ6 hq
    show G K (CL y σ6) (0, 0) [(0, .ref (y.1 0 0 0)), (1, vM y v1), (2, .int (iZ v2))] 140 [.int (iZ r5)]
    exact x_iret C.1 C.2.2.1 rfl ⟨Nat.le_of_ble_eq_true rfl, Nat.le_of_ble_eq_true rfl⟩ dX4_fact_140 h
  · have hx : v2 = 0 ∨ v2 = 1 ∨ v2 = 2 ∨ v2 = 3 ∨ v2 = 4 ∨ v2 = 5 ∨ v2 = 6 ∨ v2 = 7 := by omega
    have h := h.2
    rcases hx with hx | hx | hx | hx | hx | hx | hx | hx
    · refine ⟨_, 48, (by rw [hx]; rfl), by decide, ?_⟩
      have h := h.1 hx
      refine g_aloadM_n C.1 1 dX4_fact_48 rfl rfl ?_
      obtain ⟨hd7, h⟩ := h
      refine c_atM hd7.1 ?_
      refine c_get C.1 (ci := 2) (q := (RX1, TX1, 6)) rfl rfl inX4_fact_X1 4 (by decide) (v := .ref (y.1 8 (v1 + 3) 0)) rfl lk_X4_fact_f88 rfl dX4_fact_49 ⟨hd7.1, hd7.2, rfl⟩ ?_
      obtain ⟨hd8, h⟩ := h
      refine c_get C.1 (ci := 4) (q := (RX3, TX3, 2)) rfl rfl inX4_fact_X3 1 (by decide) (v := .int (iZ (σ 5 (v1 + 3) 0 0))) rfl lk_X4_fact_f93 rfl dX4_fact_52 ⟨hd8.1, hd8.2, rfl⟩ ?_
      exact x_iret C.1 C.2.2.1 rfl ⟨Nat.le_of_ble_eq_true rfl, Nat.le_of_ble_eq_true rfl⟩ dX4_fact_55 h
    · refine ⟨_, 56, (by rw [hx]; rfl), by decide, ?_⟩
      have h := h.2.1 hx
      refine g_aloadM_n C.1 1 dX4_fact_56 rfl rfl ?_
      obtain ⟨hd9, h⟩ := h
      refine c_atM hd9.1 ?_
      refine c_get C.1 (ci := 2) (q := (RX1, TX1, 6)) rfl rfl inX4_fact_X1 1 (by decide) (v := vM y (σ 9 v1 0 0)) rfl lk_X4_fact_f202 rfl dX4_fact_57 ⟨hd9.1, hd9.2, rfl⟩ ?_
      refine g_ifnonnull C.1 (tgt := 67) dX4_fact_60 (by decide) (fun hc => ?_) (fun hc => ?_)
      · have h := h.1 hc
        refine g_aloadM_n C.1 1 dX4_fact_67 rfl rfl ?_
        refine c_atM hd9.1 ?_
        refine c_get C.1 (ci := 2) (q := (RX1, TX1, 6)) rfl rfl inX4_fact_X1 1 (by decide) (v := vM y (σ 9 v1 0 0)) rfl lk_X4_fact_f202 rfl dX4_fact_68 ⟨hd9.1, hd9.2, rfl⟩ ?_
        obtain ⟨hd10, h⟩ := h
        refine c_atM hd10.1 ?_
        refine c_get C.1 (ci := 2) (q := (RX1, TX1, 6)) rfl rfl inX4_fact_X1 0 (by decide) (v := .int (iZ (σ 9 v1 0 0))) rfl lk_X4_fact_f199 rfl dX4_fact_71 ⟨hd10.1, hd10.2, rfl⟩ ?_
        exact x_iret C.1 C.2.2.1 rfl ⟨Nat.le_of_ble_eq_true rfl, Nat.le_of_ble_eq_true rfl⟩ dX4_fact_74 h
      · have h := h.2 hc
        refine g_iconst C.1 (z := (-1)) dX4_fact_63 ?_
        refine g_goto C.1 (tgt := 74) dX4_fact_64 (by decide) ?_
        exact x_iret C.1 C.2.2.1 rfl ⟨Nat.le_of_ble_eq_true rfl, Nat.le_of_ble_eq_true rfl⟩ dX4_fact_74 h
    · refine ⟨_, 75, (by rw [hx]; rfl), by decide, ?_⟩
      have h := h.2.2.1 hx
      refine g_aloadM_n C.1 1 dX4_fact_75 rfl rfl ?_
      obtain ⟨hd11, h⟩ := h
      refine c_atM hd11.1 ?_
      refine c_get C.1 (ci := 2) (q := (RX1, TX1, 6)) rfl rfl inX4_fact_X1 2 (by decide) (v := .int (iZ (σ 10 v1 0 0))) rfl lk_X4_fact_f274 rfl dX4_fact_76 ⟨hd11.1, hd11.2, rfl⟩ ?_
      exact x_iret C.1 C.2.2.1 rfl ⟨Nat.le_of_ble_eq_true rfl, Nat.le_of_ble_eq_true rfl⟩ dX4_fact_79 h
    · refine ⟨_, 80, (by rw [hx]; rfl), by decide, ?_⟩
      have h := h.2.2.2.1 hx
      refine g_aloadM_n C.1 1 dX4_fact_80 rfl rfl ?_
      obtain ⟨hd12, h⟩ := h
      refine c_atM hd12.1 ?_
      refine c_get C.1 (ci := 2) (q := (RX1, TX1, 6)) rfl rfl inX4_fact_X1 3 (by decide) (v := .int (iZ (σ 11 v1 0 0))) rfl lk_X4_fact_f277 rfl dX4_fact_81 ⟨hd12.1, hd12.2, rfl⟩ ?_
      exact x_iret C.1 C.2.2.1 rfl ⟨Nat.le_of_ble_eq_true rfl, Nat.le_of_ble_eq_true rfl⟩ dX4_fact_84 h
    · refine ⟨_, 85, (by rw [hx]; rfl), by decide, ?_⟩
      have h := h.2.2.2.2.1 hx
      refine g_aloadM_n C.1 1 dX4_fact_85 rfl rfl ?_
      obtain ⟨hd13, h⟩ := h
      refine c_atM hd13.1 ?_
      refine c_get C.1 (ci := 2) (q := (RX1, TX1, 6)) rfl rfl inX4_fact_X1 5 (by decide) (v := .int (iZ (σ 12 v1 0 0))) rfl lk_X4_fact_f153 rfl dX4_fact_86 ⟨hd13.1, hd13.2, rfl⟩ ?_
      obtain ⟨hc14, h⟩ := h
      suffices hk : G K (CL y σ) (0, 0) [(0, .ref (y.1 0 0 0)), (1, vM y v1), (2, .int (iZ v2))] 97 [.int (iZ (if ¬ (σ 12 v1 0 0) = 0 then 1 else 0))] by
        refine g_if_eq C.1 (tgt := 96) dX4_fact_89 (by decide) hc14 (fun hc => ?_) (fun hc => ?_)
        · refine g_iconst C.1 (z := 0) dX4_fact_96 ?_
          rw [if_neg (fun q9 => q9 hc)] at hk
          exact hk
        · refine g_iconst C.1 (z := 1) dX4_fact_92 ?_
          refine g_goto C.1 (tgt := 97) dX4_fact_93 (by decide) ?_
          rw [if_pos hc] at hk
          exact hk
      exact x_iret C.1 C.2.2.1 rfl ⟨Nat.le_of_ble_eq_true rfl, Nat.le_of_ble_eq_true rfl⟩ dX4_fact_97 h
    · refine ⟨_, 98, (by rw [hx]; rfl), by decide, ?_⟩
      have h := h.2.2.2.2.2.1 hx
      refine g_aload_n C.1 0 dX4_fact_98 rfl rfl ?_
      refine g_aloadM_n C.1 1 dX4_fact_99 rfl rfl ?_
      obtain ⟨hp15, h⟩ := h
      refine c_callV C.1 C.2.2.2.1 C.2.2.2.2 (h_copiesOf K.l y σ v1 hp15) (ci := 5) (q := (RX4, TX4, 10)) rfl (c_recv rfl ⟨rfl, rfl⟩) (fun ht => cwV 1 ht gX4_fact_X4_copiesOf rfl rfl rfl (by decide +kernel) ⟨Nat.le_of_ble_eq_true rfl, Nat.le_of_ble_eq_true rfl⟩) rfl rfl (Nat.le_of_ble_eq_true rfl) ⟨Nat.le_of_ble_eq_true rfl, Nat.le_of_ble_eq_true rfl⟩ dX4_fact_100 (fun r σ9 hq => ?_)
      rw [hq.1, hq.2]
      show G K (CL y σ) (0, 0) [(0, .ref (y.1 0 0 0)), (1, vM y v1), (2, .int (iZ v2))] 103 [.int (iZ (f_copiesOf σ v1))]
      exact x_iret C.1 C.2.2.1 rfl ⟨Nat.le_of_ble_eq_true rfl, Nat.le_of_ble_eq_true rfl⟩ dX4_fact_103 h
    · refine ⟨_, 104, (by rw [hx]; rfl), by decide, ?_⟩
      have h := h.2.2.2.2.2.2.1 hx
      refine g_aload_n C.1 0 dX4_fact_104 rfl rfl ?_
      refine g_aloadM_n C.1 1 dX4_fact_105 rfl rfl ?_
      obtain ⟨hp16, h⟩ := h
      refine c_callV C.1 C.2.2.2.1 C.2.2.2.2 (h_descendantsOf K.l y σ v1 hp16) (ci := 5) (q := (RX4, TX4, 10)) rfl (c_recv rfl ⟨rfl, rfl⟩) (fun ht => cwV 1 ht gX4_fact_X4_descendantsOf rfl rfl rfl (by decide +kernel) ⟨Nat.le_of_ble_eq_true rfl, Nat.le_of_ble_eq_true rfl⟩) rfl rfl (Nat.le_of_ble_eq_true rfl) ⟨Nat.le_of_ble_eq_true rfl, Nat.le_of_ble_eq_true rfl⟩ dX4_fact_106 (fun r σ9 hq => ?_)
      rw [hq.1, hq.2]
      show G K (CL y σ) (0, 0) [(0, .ref (y.1 0 0 0)), (1, vM y v1), (2, .int (iZ v2))] 109 [.int (iZ (f_descendantsOf σ v1))]
      exact x_iret C.1 C.2.2.1 rfl ⟨Nat.le_of_ble_eq_true rfl, Nat.le_of_ble_eq_true rfl⟩ dX4_fact_109 h
    · refine ⟨_, 110, (by rw [hx]; rfl), by decide, ?_⟩
      have h := h.2.2.2.2.2.2.2 hx
      refine g_aloadM_n C.1 1 dX4_fact_110 rfl rfl ?_
      obtain ⟨hd17, h⟩ := h
      refine c_atM hd17.1 ?_
      refine c_get C.1 (ci := 2) (q := (RX1, TX1, 6)) rfl rfl inX4_fact_X1 1 (by decide) (v := vM y (σ 9 v1 0 0)) rfl lk_X4_fact_f202 rfl dX4_fact_111 ⟨hd17.1, hd17.2, rfl⟩ ?_
      refine g_ifnonnull C.1 (tgt := 121) dX4_fact_114 (by decide) (fun hc => ?_) (fun hc => ?_)
      · have h := h.1 hc
        refine g_aload_n C.1 0 dX4_fact_121 rfl rfl ?_
        refine g_aloadM_n C.1 1 dX4_fact_122 rfl rfl ?_
        refine g_aloadM_n C.1 1 dX4_fact_123 rfl rfl ?_
        refine c_atM hd17.1 ?_
        refine c_get C.1 (ci := 2) (q := (RX1, TX1, 6)) rfl rfl inX4_fact_X1 1 (by decide) (v := vM y (σ 9 v1 0 0)) rfl lk_X4_fact_f202 rfl dX4_fact_124 ⟨hd17.1, hd17.2, rfl⟩ ?_
        obtain ⟨hp18, h⟩ := h
        refine c_callV C.1 C.2.2.2.1 C.2.2.2.2 (h_measure K.l y σ v1 (σ 9 v1 0 0) hp18) (ci := 5) (q := (RX4, TX4, 10)) rfl (c_recv rfl ⟨rfl, rfl⟩) (fun ht => cwV 2 ht gX4_fact_X4_measure rfl rfl rfl (by decide +kernel) ⟨Nat.le_of_ble_eq_true rfl, Nat.le_of_ble_eq_true rfl⟩) rfl rfl (Nat.le_of_ble_eq_true rfl) ⟨Nat.le_of_ble_eq_true rfl, Nat.le_of_ble_eq_true rfl⟩ dX4_fact_127 (fun r19 σ20 hq => ?_)
        have h := h r19 σ20 hq
        show G K (CL y σ20) (0, 0) [(0, .ref (y.1 0 0 0)), (1, vM y v1), (2, .int (iZ v2))] 130 [.int (iZ r19)]
        exact x_iret C.1 C.2.2.1 rfl ⟨Nat.le_of_ble_eq_true rfl, Nat.le_of_ble_eq_true rfl⟩ dX4_fact_130 h
      · have h := h.2 hc
        refine g_iconst C.1 (z := 0) dX4_fact_117 ?_
        refine g_goto C.1 (tgt := 130) dX4_fact_118 (by decide) ?_
        exact x_iret C.1 C.2.2.1 rfl ⟨Nat.le_of_ble_eq_true rfl, Nat.le_of_ble_eq_true rfl⟩ dX4_fact_130 h
theorem m_X4_fact {l : Launch} {y : LT} {σ : CS} {v1 v2 : Int} {post : Int → CS → Prop} (h : ∀ K : KT, K.l = l → C_X4_fact K y post → P_X4_fact_0 K y σ v1 v2) : cMet l yX4_fact wsX4_fact rm_X4_fact y.2.2 (CL y) rkI [.ref (y.1 0 0 0), vM y v1, .int (iZ v2)] σ post :=
  cMet.of (maxL := 3) (by decide +kernel) rfl (by simp [lg_sl, List.flatMap, vM_cat, cat_i, cat_r, cat_l]) (fun K h1 h2 h3 h4 h5 h6 _ => by
    have h9 := h K h1 ⟨h2, h3, h4, h5, h6⟩
    simp only [lv_args, vM_cat, cat_i, cat_r, cat_l]
    exact h9)
def H_X4_fact (p : CS → Int → Int → Prop) (o : CS → Int → Int → Int → CS → Prop) : Prop := ∀ (l : Launch) (y : LT) (σ : CS) (v1 v2 : Int), p σ v1 v2 → cMet l yX4_fact wsX4_fact rm_X4_fact y.2.2 (CL y) rkI [.ref (y.1 0 0 0), vM y v1, .int (iZ v2)] σ (fun r σ' => o σ v1 v2 r σ')

/-! X4_guessed -/
abbrev rm_X4_guessed : Room := { frames := 4, cells := 0, slots := 0, locals := 114 }
set_option maxRecDepth 20000 in
theorem inX4_guessed_X1 : ∀ w ∈ wsX10, w ∈ wsX4_guessed := by decide +kernel
set_option maxRecDepth 20000 in
theorem inX4_guessed_X4 : ∀ w ∈ wsX40, w ∈ wsX4_guessed := by decide +kernel
theorem lk_X4_guessed_f153 : Cond.fieldLink RX4 153 "CopyHouse$Manuscript" "there" "Z" ∈ wsX4_guessed := List.mem_of_getElem? (i := 1) (by decide +kernel)
theorem lk_X4_guessed_f199 : Cond.fieldLink RX4 199 "CopyHouse$Manuscript" "number" "I" ∈ wsX4_guessed := List.mem_of_getElem? (i := 2) (by decide +kernel)
theorem lk_X4_guessed_f20 : Cond.fieldLink RX4 20 "CopyHouse" "manuscripts" "Ljava/util/ArrayList;" ∈ wsX4_guessed := List.mem_of_getElem? (i := 3) (by decide +kernel)
theorem lk_X4_guessed_cc89 : Cond.classLink RX4 89 "CopyHouse$Manuscript" ∈ wsX4_guessed := List.mem_of_getElem? (i := 4) (by decide +kernel)
def C_X4_guessed (K : KT) (y : LT) (post : Int → CS → Prop) : Prop := kOK K cX4_guessed RX4 wsX4_guessed (some .int) rm_X4_guessed ∧ K.nL = 7 ∧ kQ K (CL y) rkI post rm_X4_guessed ∧ SF y.2.2 K.A K.s K.s.heap ∧ K.l.stackTraces = false
def P_X4_guessed_0 (K : KT) (y : LT) (σ : CS) (v1 : Int) : Prop := G K (CL y σ) (0, 0) [(0, .ref (y.1 0 0 0)), (1, vM y v1)] 0 []
def P_X4_guessed_1 (K : KT) (y : LT) (σ : CS) (v1 v2 v3 v4 : Int) : Prop := G K (CL y σ) (0, 0) [(0, .ref (y.1 0 0 0)), (1, vM y v1), (2, .int (iZ v2)), (3, .int (iZ v3)), (4, .int (iZ v4))] 17 []
set_option maxRecDepth 100000 in
set_option maxHeartbeats 4000000 in
theorem b_X4_guessed_0 {K : KT} {y : LT} {post : Int → CS → Prop} (C : C_X4_guessed K y post) {σ : CS} {v1 : Int} (h : (0 ≤ v1 ∧ v1 < (σ 21 0 0 0)) ∧ (-2147483648 ≤ (σ 12 v1 0 0) ∧ (σ 12 v1 0 0) < 2147483648) ∧ ((¬ (σ 12 v1 0 0) = 0 → P_X4_guessed_1 K y σ v1 ((-1)) 120 0) ∧ ((σ 12 v1 0 0) = 0 → post ((-1)) σ))) : P_X4_guessed_0 K y σ v1 := by
  refine g_aloadM_n C.1 1 dX4_guessed_0 rfl rfl ?_
  obtain ⟨hd1, h⟩ := h
  refine c_atM hd1.1 ?_
  refine c_get C.1 (ci := 2) (q := (RX1, TX1, 6)) rfl rfl inX4_guessed_X1 5 (by decide) (v := .int (iZ (σ 12 v1 0 0))) rfl lk_X4_guessed_f153 rfl dX4_guessed_1 ⟨hd1.1, hd1.2, rfl⟩ ?_
  obtain ⟨hc2, h⟩ := h
  refine g_if_ne C.1 (tgt := 9) dX4_guessed_4 (by decide) hc2 (fun hc => ?_) (fun hc => ?_)
  · have h := h.1 hc
    refine g_iconst C.1 (z := (-1)) dX4_guessed_9 ?_
    refine g_istore_n C.1 (i := 2) (loc' := [(2, .int (iZ ((-1)))), (0, .ref (y.1 0 0 0)), (1, vM y v1)]) C.2.1 dX4_guessed_10 rfl (by decide) (by simp [vM_cat, cat_i, cat_r, cat_l]) ?_
    refine g_bipush C.1 (z := 120) dX4_guessed_11 (by decide) ?_
    refine g_istore_n C.1 (i := 3) (loc' := [(3, .int (iZ 120)), (2, .int (iZ ((-1)))), (0, .ref (y.1 0 0 0)), (1, vM y v1)]) C.2.1 dX4_guessed_13 rfl (by decide) (by simp [vM_cat, cat_i, cat_r, cat_l]) ?_
    refine g_iconst C.1 (z := 0) dX4_guessed_14 ?_
    refine g_istore C.1 (i := 4) (loc' := [(4, .int (iZ 0)), (3, .int (iZ 120)), (2, .int (iZ ((-1)))), (0, .ref (y.1 0 0 0)), (1, vM y v1)]) C.2.1 dX4_guessed_15 (by decide) (by simp [vM_cat, cat_i, cat_r, cat_l]) ?_
    exact g_sub [3, 4, 2, 1, 0] rfl h
  · have h := h.2 hc
    refine g_iconst C.1 (z := (-1)) dX4_guessed_7 ?_
    exact x_iret C.1 C.2.2.1 rfl ⟨Nat.le_of_ble_eq_true rfl, Nat.le_of_ble_eq_true rfl⟩ dX4_guessed_8 h
set_option maxRecDepth 100000 in
set_option maxHeartbeats 4000000 in
theorem b_X4_guessed_1 {K : KT} {y : LT} {post : Int → CS → Prop} (C : C_X4_guessed K y post) {p_sizeM : CS → Prop} {f_sizeM : CS → Int} (h_sizeM : H_sizeM p_sizeM f_sizeM) {p_getM : CS → Int → Prop} (h_getM : H_getM p_getM) {p_measure : CS → Int → Int → Prop} {o_measure : CS → Int → Int → Int → CS → Prop} (h_measure : H_X4_measure p_measure o_measure) {σ : CS} {v1 v2 v3 v4 : Int} (h : (0 ≤ v1 ∧ v1 < (σ 21 0 0 0)) ∧ (-2147483648 ≤ v4 ∧ v4 < 2147483648) ∧ (-2147483648 ≤ v1 ∧ v1 < 2147483648) ∧ ((v1 ≤ v4 → post v2 σ) ∧ (¬ v1 ≤ v4 → (p_sizeM σ) ∧ (-2147483648 ≤ (f_sizeM σ) ∧ (f_sizeM σ) < 2147483648) ∧ (((f_sizeM σ) ≤ v4 → post v2 σ) ∧ (¬ (f_sizeM σ) ≤ v4 → (p_getM σ v4) ∧ (0 ≤ v4 ∧ v4 < (σ 21 0 0 0)) ∧ (-2147483648 ≤ (σ 12 v4 0 0) ∧ (σ 12 v4 0 0) < 2147483648) ∧ ((¬ (σ 12 v4 0 0) = 0 → (p_measure σ v1 v4) ∧ ∀ (r10 : Int) (σ11 : CS), o_measure σ v1 v4 r10 σ11 → (-2147483648 ≤ r10 ∧ r10 < 2147483648) ∧ (-2147483648 ≤ v3 ∧ v3 < 2147483648) ∧ ((v3 < r10 → P_X4_guessed_1 K y σ11 v1 v2 v3 (v4 + 1)) ∧ (¬ v3 < r10 → P_X4_guessed_1 K y σ11 v1 v4 r10 (v4 + 1)))) ∧ ((σ 12 v4 0 0) = 0 → P_X4_guessed_1 K y σ v1 v2 v3 (v4 + 1)))))))) : P_X4_guessed_1 K y σ v1 v2 v3 v4 := by
  refine g_iload C.1 4 dX4_guessed_17 rfl ?_
  refine g_aloadM_n C.1 1 dX4_guessed_19 rfl rfl ?_
  obtain ⟨hd1, h⟩ := h
  refine c_atM hd1.1 ?_
  refine c_get C.1 (ci := 2) (q := (RX1, TX1, 6)) rfl rfl inX4_guessed_X1 0 (by decide) (v := .int (iZ v1)) rfl lk_X4_guessed_f199 rfl dX4_guessed_20 ⟨hd1.1, hd1.2, rfl⟩ ?_
  obtain ⟨hc2, h⟩ := h
  obtain ⟨hc3, h⟩ := h
  refine g_icmp_ge C.1 (tgt := 90) dX4_guessed_23 (by decide) hc2 hc3 (fun hc => ?_) (fun hc => ?_)
  · have h := h.1 hc
    refine g_iload_n C.1 2 dX4_guessed_90 rfl rfl ?_
    exact x_iret C.1 C.2.2.1 rfl ⟨Nat.le_of_ble_eq_true rfl, Nat.le_of_ble_eq_true rfl⟩ dX4_guessed_91 h
  · have h := h.2 hc
    refine g_iload C.1 4 dX4_guessed_26 rfl ?_
    refine g_aload_n C.1 0 dX4_guessed_28 rfl rfl ?_
    refine c_get C.1 (ci := 5) (q := (RX4, TX4, 10)) rfl rfl inX4_guessed_X4 2 (by decide) (v := .ref (y.1 2 0 0)) rfl lk_X4_guessed_f20 rfl dX4_guessed_29 ⟨rfl, rfl⟩ ?_
    obtain ⟨hp4, h⟩ := h
    refine c_callV C.1 C.2.2.2.1 C.2.2.2.2 (h_sizeM K.l y σ hp4) (ci := 0) (q := (RJx4a65c, TJx4a65c, 3)) rfl (c_recv rfl ⟨rfl, rfl⟩) (fun ht => cwV 0 ht gX4_guessed_Jx4a65c_size_8abf5 rfl rfl rfl (by decide +kernel) ⟨Nat.le_of_ble_eq_true rfl, Nat.le_of_ble_eq_true rfl⟩) rfl rfl (Nat.le_of_ble_eq_true rfl) ⟨Nat.le_of_ble_eq_true rfl, Nat.le_of_ble_eq_true rfl⟩ dX4_guessed_32 (fun r σ9 hq => ?_)
    rw [hq.1, hq.2]
    show G K (CL y σ) (0, 0) [(0, .ref (y.1 0 0 0)), (1, vM y v1), (2, .int (iZ v2)), (3, .int (iZ v3)), (4, .int (iZ v4))] 35 [.int (iZ (f_sizeM σ)), .int (iZ v4)]
    obtain ⟨hc5, h⟩ := h
    refine g_icmp_ge C.1 (tgt := 90) dX4_guessed_35 (by decide) hc2 hc5 (fun hc => ?_) (fun hc => ?_)
    · have h := h.1 hc
      refine g_iload_n C.1 2 dX4_guessed_90 rfl rfl ?_
      exact x_iret C.1 C.2.2.1 rfl ⟨Nat.le_of_ble_eq_true rfl, Nat.le_of_ble_eq_true rfl⟩ dX4_guessed_91 h
    · have h := h.2 hc
      refine g_aload_n C.1 0 dX4_guessed_38 rfl rfl ?_
      refine c_get C.1 (ci := 5) (q := (RX4, TX4, 10)) rfl rfl inX4_guessed_X4 2 (by decide) (v := .ref (y.1 2 0 0)) rfl lk_X4_guessed_f20 rfl dX4_guessed_39 ⟨rfl, rfl⟩ ?_
      refine g_iload C.1 4 dX4_guessed_42 rfl ?_
      obtain ⟨hp6, h⟩ := h
      refine c_callV C.1 C.2.2.2.1 C.2.2.2.2 (h_getM K.l y σ v4 hp6) (ci := 0) (q := (RJx4a65c, TJx4a65c, 3)) rfl (c_recv rfl ⟨rfl, rfl⟩) (fun ht => cwV 1 ht gX4_guessed_Jx4a65c_get_915e3 rfl rfl rfl (by decide +kernel) ⟨Nat.le_of_ble_eq_true rfl, Nat.le_of_ble_eq_true rfl⟩) rfl rfl (Nat.le_of_ble_eq_true rfl) ⟨Nat.le_of_ble_eq_true rfl, Nat.le_of_ble_eq_true rfl⟩ dX4_guessed_44 (fun r σ9 hq => ?_)
      rw [hq.1, hq.2]
      show G K (CL y σ) (0, 0) [(0, .ref (y.1 0 0 0)), (1, vM y v1), (2, .int (iZ v2)), (3, .int (iZ v3)), (4, .int (iZ v4))] 47 [vM y v4]
      obtain ⟨hd7, h⟩ := h
      refine c_atM hd7.1 ?_
      refine c_cast C.1 C.2.2.2.1 (ci := 2) (q := (RX1, TX1, 6)) rfl rfl (by decide +kernel) lk_X4_guessed_cc89 dX4_guessed_47 ⟨hd7.1, hd7.2, rfl⟩ ?_
      refine c_toM hd7.1 ?_
      refine g_astoreM C.1 (i := 5) (loc' := [(0, .ref (y.1 0 0 0)), (1, vM y v1), (2, .int (iZ v2)), (3, .int (iZ v3)), (4, .int (iZ v4))]) C.2.1 dX4_guessed_50 (by decide) (by simp [vM_cat, cat_i, cat_r, cat_l]) ?_
      refine g_aloadM C.1 0 dX4_guessed_52 rfl ?_
      refine c_atM hd7.1 ?_
      refine c_get C.1 (ci := 2) (q := (RX1, TX1, 6)) rfl rfl inX4_guessed_X1 5 (by decide) (v := .int (iZ (σ 12 v4 0 0))) rfl lk_X4_guessed_f153 rfl dX4_guessed_54 ⟨hd7.1, hd7.2, rfl⟩ ?_
      obtain ⟨hc8, h⟩ := h
      refine g_if_ne C.1 (tgt := 63) dX4_guessed_57 (by decide) hc8 (fun hc => ?_) (fun hc => ?_)
      · have h := h.1 hc
        refine g_aload_n C.1 1 dX4_guessed_63 rfl rfl ?_
        refine g_aloadM_n C.1 2 dX4_guessed_64 rfl rfl ?_
        refine g_aloadM C.1 0 dX4_guessed_65 rfl ?_
        obtain ⟨hp9, h⟩ := h
        refine c_callV C.1 C.2.2.2.1 C.2.2.2.2 (h_measure K.l y σ v1 v4 hp9) (ci := 5) (q := (RX4, TX4, 10)) rfl (c_recv rfl ⟨rfl, rfl⟩) (fun ht => cwV 2 ht gX4_guessed_X4_measure rfl rfl rfl (by decide +kernel) ⟨Nat.le_of_ble_eq_true rfl, Nat.le_of_ble_eq_true rfl⟩) rfl rfl (Nat.le_of_ble_eq_true rfl) ⟨Nat.le_of_ble_eq_true rfl, Nat.le_of_ble_eq_true rfl⟩ dX4_guessed_67 (fun r10 σ11 hq => ?_)
        have h := h r10 σ11 hq
        show G K (CL y σ11) (0, 0) [(5, vM y v4), (0, .ref (y.1 0 0 0)), (1, vM y v1), (2, .int (iZ v2)), (3, .int (iZ v3)), (4, .int (iZ v4))] 70 [.int (iZ r10)]
        refine g_istore C.1 (i := 6) (loc' := [(6, .int (iZ r10)), (5, vM y v4), (0, .ref (y.1 0 0 0)), (1, vM y v1), (2, .int (iZ v2)), (3, .int (iZ v3)), (4, .int (iZ v4))]) C.2.1 dX4_guessed_70 (by decide) (by simp [vM_cat, cat_i, cat_r, cat_l]) ?_
        refine g_iload C.1 0 dX4_guessed_72 rfl ?_
        refine g_iload_n C.1 5 dX4_guessed_74 rfl rfl ?_
        obtain ⟨hc12, h⟩ := h
        obtain ⟨hc13, h⟩ := h
        refine g_icmp_gt C.1 (tgt := 84) dX4_guessed_75 (by decide) hc12 hc13 (fun hc => ?_) (fun hc => ?_)
        · have h := h.1 hc
          refine g_iinc C.1 (z := v4) (w := 1) (loc' := [(4, .int (iZ (v4 + 1))), (6, .int (iZ r10)), (5, vM y v4), (0, .ref (y.1 0 0 0)), (1, vM y v1), (2, .int (iZ v2)), (3, .int (iZ v3))]) 6 C.2.1 dX4_guessed_84 rfl (by decide) (by simp [vM_cat, cat_i, cat_r, cat_l]) ?_
          refine g_goto C.1 (tgt := 17) dX4_guessed_87 (by decide) ?_
          exact g_sub [3, 4, 5, 6, 0] rfl h
        · have h := h.2 hc
          refine g_iload C.1 0 dX4_guessed_78 rfl ?_
          refine g_istore_n C.1 (i := 3) (loc' := [(3, .int (iZ r10)), (6, .int (iZ r10)), (5, vM y v4), (0, .ref (y.1 0 0 0)), (1, vM y v1), (2, .int (iZ v2)), (4, .int (iZ v4))]) C.2.1 dX4_guessed_80 rfl (by decide) (by simp [vM_cat, cat_i, cat_r, cat_l]) ?_
          refine g_iload C.1 6 dX4_guessed_81 rfl ?_
          refine g_istore_n C.1 (i := 2) (loc' := [(2, .int (iZ v4)), (3, .int (iZ r10)), (6, .int (iZ r10)), (5, vM y v4), (0, .ref (y.1 0 0 0)), (1, vM y v1), (4, .int (iZ v4))]) C.2.1 dX4_guessed_83 rfl (by decide) (by simp [vM_cat, cat_i, cat_r, cat_l]) ?_
          refine g_iinc C.1 (z := v4) (w := 1) (loc' := [(4, .int (iZ (v4 + 1))), (2, .int (iZ v4)), (3, .int (iZ r10)), (6, .int (iZ r10)), (5, vM y v4), (0, .ref (y.1 0 0 0)), (1, vM y v1)]) 6 C.2.1 dX4_guessed_84 rfl (by decide) (by simp [vM_cat, cat_i, cat_r, cat_l]) ?_
          refine g_goto C.1 (tgt := 17) dX4_guessed_87 (by decide) ?_
          exact g_sub [5, 6, 1, 2, 0] rfl h
      · have h := h.2 hc
        refine g_goto C.1 (tgt := 84) dX4_guessed_60 (by decide) ?_
        refine g_iinc C.1 (z := v4) (w := 1) (loc' := [(4, .int (iZ (v4 + 1))), (5, vM y v4), (0, .ref (y.1 0 0 0)), (1, vM y v1), (2, .int (iZ v2)), (3, .int (iZ v3))]) 5 C.2.1 dX4_guessed_84 rfl (by decide) (by simp [vM_cat, cat_i, cat_r, cat_l]) ?_
        refine g_goto C.1 (tgt := 17) dX4_guessed_87 (by decide) ?_
        exact g_sub [2, 3, 4, 5, 0] rfl h
theorem m_X4_guessed {l : Launch} {y : LT} {σ : CS} {v1 : Int} {post : Int → CS → Prop} (h : ∀ K : KT, K.l = l → C_X4_guessed K y post → P_X4_guessed_0 K y σ v1) : cMet l yX4_guessed wsX4_guessed rm_X4_guessed y.2.2 (CL y) rkI [.ref (y.1 0 0 0), vM y v1] σ post :=
  cMet.of (maxL := 7) (by decide +kernel) rfl (by simp [lg_sl, List.flatMap, vM_cat, cat_i, cat_r, cat_l]) (fun K h1 h2 h3 h4 h5 h6 _ => by
    have h9 := h K h1 ⟨h2, h3, h4, h5, h6⟩
    simp only [lv_args, vM_cat, cat_i, cat_r, cat_l]
    exact h9)
def H_X4_guessed (p : CS → Int → Prop) (o : CS → Int → Int → CS → Prop) : Prop := ∀ (l : Launch) (y : LT) (σ : CS) (v1 : Int), p σ v1 → cMet l yX4_guessed wsX4_guessed rm_X4_guessed y.2.2 (CL y) rkI [.ref (y.1 0 0 0), vM y v1] σ (fun r σ' => o σ v1 r σ')

/-! X4_manuscriptMixed -/
abbrev rm_X4_manuscriptMixed : Room := { frames := 5, cells := 0, slots := 0, locals := 140 }
set_option maxRecDepth 20000 in
theorem inX4_manuscriptMixed_X1 : ∀ w ∈ wsX10, w ∈ wsX4_manuscriptMixed := by decide +kernel
theorem lk_X4_manuscriptMixed_f88 : Cond.fieldLink RX4 88 "CopyHouse$Manuscript" "text" "LCopyHouse$Text;" ∈ wsX4_manuscriptMixed := List.mem_of_getElem? (i := 1) (by decide +kernel)
def C_X4_manuscriptMixed (K : KT) (y : LT) (post : Int → CS → Prop) : Prop := kOK K cX4_manuscriptMixed RX4 wsX4_manuscriptMixed (some .long) rm_X4_manuscriptMixed ∧ K.nL = 7 ∧ kQ K (CL y) rkL post rm_X4_manuscriptMixed ∧ SF y.2.2 K.A K.s K.s.heap ∧ K.l.stackTraces = false
def P_X4_manuscriptMixed_0 (K : KT) (y : LT) (σ : CS) (v1 v3 : Int) : Prop := G K (CL y σ) (0, 0) [(0, .ref (y.1 0 0 0)), (1, .long (lZ v1)), (3, vM y v3)] 0 []
def P_X4_manuscriptMixed_1 (K : KT) (y : LT) (σ : CS) (v3 v4 v6 : Int) : Prop := G K (CL y σ) (0, 0) [(0, .ref (y.1 0 0 0)), (3, vM y v3), (4, .long (lZ v4)), (6, .int (iZ v6))] 6 []
set_option maxRecDepth 100000 in
set_option maxHeartbeats 4000000 in
theorem b_X4_manuscriptMixed_0 {K : KT} {y : LT} {post : Int → CS → Prop} (C : C_X4_manuscriptMixed K y post) {σ : CS} {v1 v3 : Int} (h : P_X4_manuscriptMixed_1 K y σ v3 v1 0) : P_X4_manuscriptMixed_0 K y σ v1 v3 := by
  refine g_lload_n C.1 1 dX4_manuscriptMixed_0 rfl rfl ?_
  refine g_lstore C.1 (i := 4) (loc' := [(4, .long (lZ v1)), (0, .ref (y.1 0 0 0)), (1, .long (lZ v1)), (3, vM y v3)]) C.2.1 dX4_manuscriptMixed_1 (by decide) (by simp [vM_cat, cat_i, cat_r, cat_l]) ?_
  refine g_iconst C.1 (z := 0) dX4_manuscriptMixed_3 ?_
  refine g_istore C.1 (i := 6) (loc' := [(6, .int (iZ 0)), (4, .long (lZ v1)), (0, .ref (y.1 0 0 0)), (1, .long (lZ v1)), (3, vM y v3)]) C.2.1 dX4_manuscriptMixed_4 (by decide) (by simp [vM_cat, cat_i, cat_r, cat_l]) ?_
  exact g_sub [2, 4, 1, 0] rfl h
set_option maxRecDepth 100000 in
set_option maxHeartbeats 4000000 in
theorem b_X4_manuscriptMixed_1 {K : KT} {y : LT} {post : Int → CS → Prop} (C : C_X4_manuscriptMixed K y post) {p_guessed : CS → Int → Prop} {o_guessed : CS → Int → Int → CS → Prop} (h_guessed : H_X4_guessed p_guessed o_guessed) {p_mixed : CS → Int → Int → Prop} {f_mixed : CS → Int → Int → Int} (h_mixed : H_X4_mixed p_mixed f_mixed) {p_textMixed : CS → Int → Int → Prop} {f_textMixed : CS → Int → Int → Int} (h_textMixed : H_X4_textMixed p_textMixed f_textMixed) {p_fact : CS → Int → Int → Prop} {o_fact : CS → Int → Int → Int → CS → Prop} (h_fact : H_X4_fact p_fact o_fact) {σ : CS} {v3 v4 v6 : Int} (h : (-2147483648 ≤ v6 ∧ v6 < 2147483648) ∧ ((9 ≤ v6 → (p_guessed σ v3) ∧ ∀ (r3 : Int) (σ4 : CS), o_guessed σ v3 r3 σ4 → (p_mixed σ4 v4 r3) ∧ (0 ≤ v3 ∧ v3 < (σ4 21 0 0 0)) ∧ (p_textMixed σ4 (f_mixed σ4 v4 r3) (v3 + 3)) ∧ post (f_textMixed σ4 (f_mixed σ4 v4 r3) (v3 + 3)) σ4) ∧ (¬ 9 ≤ v6 → (p_fact σ v3 v6) ∧ ∀ (r9 : Int) (σ10 : CS), o_fact σ v3 v6 r9 σ10 → (p_mixed σ10 v4 r9) ∧ P_X4_manuscriptMixed_1 K y σ10 v3 (f_mixed σ10 v4 r9) (v6 + 1)))) : P_X4_manuscriptMixed_1 K y σ v3 v4 v6 := by
  refine g_iload C.1 3 dX4_manuscriptMixed_6 rfl ?_
  refine g_bipush C.1 (z := 9) dX4_manuscriptMixed_8 (by decide) ?_
  obtain ⟨hc1, h⟩ := h
  refine g_icmp_ge C.1 (tgt := 33) dX4_manuscriptMixed_10 (by decide) hc1 (by decide) (fun hc => ?_) (fun hc => ?_)
  · have h := h.1 hc
    refine g_lload C.1 2 dX4_manuscriptMixed_33 rfl ?_
    refine g_aload_n C.1 0 dX4_manuscriptMixed_35 rfl rfl ?_
    refine g_aloadM_n C.1 1 dX4_manuscriptMixed_36 rfl rfl ?_
    obtain ⟨hp2, h⟩ := h
    refine c_callV C.1 C.2.2.2.1 C.2.2.2.2 (h_guessed K.l y σ v3 hp2) (ci := 5) (q := (RX4, TX4, 10)) rfl (c_recv rfl ⟨rfl, rfl⟩) (fun ht => cwV 1 ht gX4_manuscriptMixed_X4_guessed rfl rfl rfl (by decide +kernel) ⟨Nat.le_of_ble_eq_true rfl, Nat.le_of_ble_eq_true rfl⟩) rfl rfl (Nat.le_of_ble_eq_true rfl) ⟨Nat.le_of_ble_eq_true rfl, Nat.le_of_ble_eq_true rfl⟩ dX4_manuscriptMixed_37 (fun r3 σ4 hq => ?_)
    have h := h r3 σ4 hq
    show G K (CL y σ4) (0, 0) [(0, .ref (y.1 0 0 0)), (3, vM y v3), (4, .long (lZ v4)), (6, .int (iZ v6))] 40 [.int (iZ r3), .long (lZ v4)]
    obtain ⟨hp5, h⟩ := h
    refine c_callS C.1 C.2.2.2.1 C.2.2.2.2 (h_mixed K.l y σ4 v4 r3 hp5) (fun ht => va_cwS 2 ht gX4_manuscriptMixed_X4_mixed rfl rfl rfl (by decide +kernel) ⟨Nat.le_of_ble_eq_true rfl, Nat.le_of_ble_eq_true rfl⟩) rfl rfl (Nat.le_of_ble_eq_true rfl) ⟨Nat.le_of_ble_eq_true rfl, Nat.le_of_ble_eq_true rfl⟩ dX4_manuscriptMixed_40 (fun r σ9 hq => ?_)
    rw [hq.1, hq.2]
    show G K (CL y σ4) (0, 0) [(0, .ref (y.1 0 0 0)), (3, vM y v3), (4, .long (lZ v4)), (6, .int (iZ v6))] 43 [.long (lZ (f_mixed σ4 v4 r3))]
    refine g_lstore C.1 (i := 4) (loc' := [(4, .long (lZ (f_mixed σ4 v4 r3))), (0, .ref (y.1 0 0 0)), (3, vM y v3), (6, .int (iZ v6))]) C.2.1 dX4_manuscriptMixed_43 (by decide) (by simp [vM_cat, cat_i, cat_r, cat_l]) ?_
    refine g_lload C.1 0 dX4_manuscriptMixed_45 rfl ?_
    refine g_aloadM_n C.1 2 dX4_manuscriptMixed_47 rfl rfl ?_
    obtain ⟨hd6, h⟩ := h
    refine c_atM hd6.1 ?_
    refine c_get C.1 (ci := 2) (q := (RX1, TX1, 6)) rfl rfl inX4_manuscriptMixed_X1 4 (by decide) (v := .ref (y.1 8 (v3 + 3) 0)) rfl lk_X4_manuscriptMixed_f88 rfl dX4_manuscriptMixed_48 ⟨hd6.1, hd6.2, rfl⟩ ?_
    obtain ⟨hp7, h⟩ := h
    refine c_callS C.1 C.2.2.2.1 C.2.2.2.2 (h_textMixed K.l y σ4 (f_mixed σ4 v4 r3) (v3 + 3) hp7) (fun ht => va_cwS 2 ht gX4_manuscriptMixed_X4_textMixed rfl rfl rfl (by decide +kernel) ⟨Nat.le_of_ble_eq_true rfl, Nat.le_of_ble_eq_true rfl⟩) rfl rfl (Nat.le_of_ble_eq_true rfl) ⟨Nat.le_of_ble_eq_true rfl, Nat.le_of_ble_eq_true rfl⟩ dX4_manuscriptMixed_51 (fun r σ9 hq => ?_)
    rw [hq.1, hq.2]
    show G K (CL y σ4) (0, 0) [(4, .long (lZ (f_mixed σ4 v4 r3))), (0, .ref (y.1 0 0 0)), (3, vM y v3), (6, .int (iZ v6))] 54 [.long (lZ (f_textMixed σ4 (f_mixed σ4 v4 r3) (v3 + 3)))]
    exact x_lret C.1 C.2.2.1 rfl ⟨Nat.le_of_ble_eq_true rfl, Nat.le_of_ble_eq_true rfl⟩ dX4_manuscriptMixed_54 h
  · have h := h.2 hc
    refine g_lload C.1 2 dX4_manuscriptMixed_13 rfl ?_
    refine g_aload_n C.1 0 dX4_manuscriptMixed_15 rfl rfl ?_
    refine g_aloadM_n C.1 1 dX4_manuscriptMixed_16 rfl rfl ?_
    refine g_iload C.1 3 dX4_manuscriptMixed_17 rfl ?_
    obtain ⟨hp8, h⟩ := h
    refine c_callV C.1 C.2.2.2.1 C.2.2.2.2 (h_fact K.l y σ v3 v6 hp8) (ci := 5) (q := (RX4, TX4, 10)) rfl (c_recv rfl ⟨rfl, rfl⟩) (fun ht => cwV 2 ht gX4_manuscriptMixed_X4_fact rfl rfl rfl (by decide +kernel) ⟨Nat.le_of_ble_eq_true rfl, Nat.le_of_ble_eq_true rfl⟩) rfl rfl (Nat.le_of_ble_eq_true rfl) ⟨Nat.le_of_ble_eq_true rfl, Nat.le_of_ble_eq_true rfl⟩ dX4_manuscriptMixed_19 (fun r9 σ10 hq => ?_)
    have h := h r9 σ10 hq
    show G K (CL y σ10) (0, 0) [(0, .ref (y.1 0 0 0)), (3, vM y v3), (4, .long (lZ v4)), (6, .int (iZ v6))] 22 [.int (iZ r9), .long (lZ v4)]
    obtain ⟨hp11, h⟩ := h
    refine c_callS C.1 C.2.2.2.1 C.2.2.2.2 (h_mixed K.l y σ10 v4 r9 hp11) (fun ht => va_cwS 2 ht gX4_manuscriptMixed_X4_mixed rfl rfl rfl (by decide +kernel) ⟨Nat.le_of_ble_eq_true rfl, Nat.le_of_ble_eq_true rfl⟩) rfl rfl (Nat.le_of_ble_eq_true rfl) ⟨Nat.le_of_ble_eq_true rfl, Nat.le_of_ble_eq_true rfl⟩ dX4_manuscriptMixed_22 (fun r σ9 hq => ?_)
    rw [hq.1, hq.2]
    show G K (CL y σ10) (0, 0) [(0, .ref (y.1 0 0 0)), (3, vM y v3), (4, .long (lZ v4)), (6, .int (iZ v6))] 25 [.long (lZ (f_mixed σ10 v4 r9))]
    refine g_lstore C.1 (i := 4) (loc' := [(4, .long (lZ (f_mixed σ10 v4 r9))), (0, .ref (y.1 0 0 0)), (3, vM y v3), (6, .int (iZ v6))]) C.2.1 dX4_manuscriptMixed_25 (by decide) (by simp [vM_cat, cat_i, cat_r, cat_l]) ?_
    refine g_iinc C.1 (z := v6) (w := 1) (loc' := [(6, .int (iZ (v6 + 1))), (4, .long (lZ (f_mixed σ10 v4 r9))), (0, .ref (y.1 0 0 0)), (3, vM y v3)]) 3 C.2.1 dX4_manuscriptMixed_27 rfl (by decide) (by simp [vM_cat, cat_i, cat_r, cat_l]) ?_
    refine g_goto C.1 (tgt := 6) dX4_manuscriptMixed_30 (by decide) ?_
    exact g_sub [2, 3, 1, 0] rfl h
theorem m_X4_manuscriptMixed {l : Launch} {y : LT} {σ : CS} {v1 v3 : Int} {post : Int → CS → Prop} (h : ∀ K : KT, K.l = l → C_X4_manuscriptMixed K y post → P_X4_manuscriptMixed_0 K y σ v1 v3) : cMet l yX4_manuscriptMixed wsX4_manuscriptMixed rm_X4_manuscriptMixed y.2.2 (CL y) rkL [.ref (y.1 0 0 0), .long (lZ v1), vM y v3] σ post :=
  cMet.of (maxL := 7) (by decide +kernel) rfl (by simp [lg_sl, List.flatMap, vM_cat, cat_i, cat_r, cat_l]) (fun K h1 h2 h3 h4 h5 h6 _ => by
    have h9 := h K h1 ⟨h2, h3, h4, h5, h6⟩
    simp only [lv_args, vM_cat, cat_i, cat_r, cat_l]
    exact h9)
def H_X4_manuscriptMixed (p : CS → Int → Int → Prop) (o : CS → Int → Int → Int → CS → Prop) : Prop := ∀ (l : Launch) (y : LT) (σ : CS) (v1 v3 : Int), p σ v1 v3 → cMet l yX4_manuscriptMixed wsX4_manuscriptMixed rm_X4_manuscriptMixed y.2.2 (CL y) rkL [.ref (y.1 0 0 0), .long (lZ v1), vM y v3] σ (fun r σ' => o σ v1 v3 r σ')

/-! X4_manuscript -/
abbrev rm_X4_manuscript : Room := { frames := 7, cells := 2, slots := 12, locals := 136 }
set_option maxRecDepth 20000 in
theorem at_X4_manuscript_100 : ∀ w ∈ (vx_atS RX4 100 "java/lang/IndexOutOfBoundsException" ["java/lang/RuntimeException", "java/lang/Exception"]).filter goodWord, w ∈ wsX4_manuscript := fun w h => by
  unfold wsX4_manuscript
  simp only [List.mem_cons, List.mem_append]
  simp only [h, or_true, true_or]
theorem lk_X4_manuscript_cl96 : Cond.classLink RX4 96 "java/lang/IndexOutOfBoundsException" ∈ wsX4_manuscript := List.mem_of_getElem? (i := 1) (by decide +kernel)
theorem lk_X4_manuscript_ini_IndexOutOfBoundsException : Cond.initialized "java/lang/IndexOutOfBoundsException" ∈ wsX4_manuscript := List.mem_of_getElem? (i := 2) (by decide +kernel)
def C_X4_manuscript (K : KT) (y : LT) (post : Int → CS → Prop) (px : String → CS → Prop) : Prop := kOK K cX4_manuscript RX4 wsX4_manuscript (some .int) rm_X4_manuscript ∧ K.nL = 4 ∧ kQX K (CL y) rkI post px rm_X4_manuscript ∧ SF y.2.2 K.A K.s K.s.heap ∧ K.l.stackTraces = false ∧ kNX K
def P_X4_manuscript_0 (K : KT) (y : LT) (σ : CS) (v1 v2 : Int) : Prop := G K (CL y σ) (0, 0) [(0, .ref (y.1 0 0 0)), (1, .int (iZ v1)), (2, .int (iZ v2))] 0 []
set_option maxRecDepth 100000 in
set_option maxHeartbeats 4000000 in
theorem b_X4_manuscript_0 {K : KT} {y : LT} {post : Int → CS → Prop} {px : String → CS → Prop} (C : C_X4_manuscript K y post px) {p_manuscriptOf : CS → Int → Prop} {o_manuscriptOf : CS → Int → Int → CS → Prop} {x_manuscriptOf : CS → Int → String → CS → Prop} (h_manuscriptOf : H_X4_manuscriptOf p_manuscriptOf o_manuscriptOf x_manuscriptOf) {p_fact : CS → Int → Int → Prop} {o_fact : CS → Int → Int → Int → CS → Prop} (h_fact : H_X4_fact p_fact o_fact) {σ : CS} {v1 v2 : Int} (h : (p_manuscriptOf σ v1) ∧ (∀ (E : String) (u9 : CS), x_manuscriptOf σ v1 E u9 → px E u9) ∧ ∀ (r2 : Int) (σ3 : CS), o_manuscriptOf σ v1 r2 σ3 → (-2147483648 ≤ v2 ∧ v2 < 2147483648) ∧ ((v2 < 0 → px "java/lang/IndexOutOfBoundsException" σ3) ∧ (¬ v2 < 0 → ((v2 < 9 → (p_fact σ3 r2 v2) ∧ ∀ (r6 : Int) (σ7 : CS), o_fact σ3 r2 v2 r6 σ7 → post r6 σ7) ∧ (¬ v2 < 9 → px "java/lang/IndexOutOfBoundsException" σ3))))) : P_X4_manuscript_0 K y σ v1 v2 := by
  refine g_aload_n C.1 0 dX4_manuscript_0 rfl rfl ?_
  refine g_iload_n C.1 1 dX4_manuscript_1 rfl rfl ?_
  obtain ⟨hp1, h⟩ := h
  obtain ⟨hx9, h⟩ := h
  refine c_callX C.1 C.2.2.1 C.2.2.2.2.2 C.2.2.2.1 C.2.2.2.2.1 (h_manuscriptOf K.l y σ v1 hp1) (ci := 5) (q := (RX4, TX4, 10)) rfl (c_recv rfl ⟨rfl, rfl⟩) (fun ht => cwV 1 ht gX4_manuscript_X4_manuscriptOf rfl rfl rfl (by decide +kernel) ⟨Nat.le_of_ble_eq_true rfl, Nat.le_of_ble_eq_true rfl⟩) rfl rfl (Nat.le_of_ble_eq_true rfl) ⟨Nat.le_of_ble_eq_true rfl, Nat.le_of_ble_eq_true rfl⟩ ⟨Nat.le_of_ble_eq_true rfl, Nat.le_of_ble_eq_true rfl⟩ dX4_manuscript_2 (fun E u9 hq => ⟨u9, hx9 E u9 hq, fun _ _ w9 => w9⟩) (fun r2 σ3 hq => ?_)
  have h := h r2 σ3 hq
  show G K (CL y σ3) (1, 6) [(0, .ref (y.1 0 0 0)), (1, .int (iZ v1)), (2, .int (iZ v2))] 5 [vM y r2]
  refine g_astoreM_n C.1 (i := 3) (loc' := [(0, .ref (y.1 0 0 0)), (1, .int (iZ v1)), (2, .int (iZ v2))]) C.2.1 dX4_manuscript_5 rfl (by decide) rfl ?_
  refine g_iload_n C.1 3 dX4_manuscript_6 rfl rfl ?_
  obtain ⟨hc4, h⟩ := h
  refine g_if_lt C.1 (tgt := 16) dX4_manuscript_7 (by decide) hc4 (fun hc => ?_) (fun hc => ?_)
  · have h := h.1 hc
    exact y_throw C.1 C.2.2.1 C.2.2.2.1 C.2.2.2.2.1 C.2.2.2.2.2 (E := "java/lang/IndexOutOfBoundsException") (text := "nothing of this kind is told of a manuscript") (ik := 96) (is := 181) (ic := 100) (by decide +kernel) lk_X4_manuscript_cl96 lk_X4_manuscript_ini_IndexOutOfBoundsException (by decide +kernel) at_X4_manuscript_100 (by decide +kernel) (by decide +kernel) (by decide +kernel) dX4_manuscript_16 dX4_manuscript_19 dX4_manuscript_20 dX4_manuscript_22 dX4_manuscript_25 (Nat.le_of_ble_eq_true rfl) (Nat.le_of_ble_eq_true rfl) (Nat.le_of_ble_eq_true rfl) (Nat.le_of_ble_eq_true rfl) ⟨(Nat.le_of_ble_eq_true rfl), (Nat.le_of_ble_eq_true rfl)⟩ h
  · have h := h.2 hc
    refine g_iload_n C.1 3 dX4_manuscript_10 rfl rfl ?_
    refine g_bipush C.1 (z := 9) dX4_manuscript_11 (by decide) ?_
    refine g_icmp_lt C.1 (tgt := 26) dX4_manuscript_13 (by decide) hc4 (by decide) (fun hc => ?_) (fun hc => ?_)
    · have h := h.1 hc
      refine g_aload_n C.1 1 dX4_manuscript_26 rfl rfl ?_
      refine g_aloadM_n C.1 0 dX4_manuscript_27 rfl rfl ?_
      refine g_iload_n C.1 3 dX4_manuscript_28 rfl rfl ?_
      obtain ⟨hp5, h⟩ := h
      refine c_callV C.1 C.2.2.2.1 C.2.2.2.2.1 (h_fact K.l y σ3 r2 v2 hp5) (ci := 5) (q := (RX4, TX4, 10)) rfl (c_recv rfl ⟨rfl, rfl⟩) (fun ht => cwV 2 ht gX4_manuscript_X4_fact rfl rfl rfl (by decide +kernel) ⟨Nat.le_of_ble_eq_true rfl, Nat.le_of_ble_eq_true rfl⟩) rfl rfl (Nat.le_of_ble_eq_true rfl) ⟨Nat.le_of_ble_eq_true rfl, Nat.le_of_ble_eq_true rfl⟩ dX4_manuscript_29 (fun r6 σ7 hq => ?_)
      have h := h r6 σ7 hq
      show G K (CL y σ7) (1, 6) [(3, vM y r2), (0, .ref (y.1 0 0 0)), (1, .int (iZ v1)), (2, .int (iZ v2))] 32 [.int (iZ r6)]
      exact y_iret C.1 C.2.2.1 rfl ⟨Nat.le_of_ble_eq_true rfl, Nat.le_of_ble_eq_true rfl⟩ dX4_manuscript_32 h
    · have h := h.2 hc
      exact y_throw C.1 C.2.2.1 C.2.2.2.1 C.2.2.2.2.1 C.2.2.2.2.2 (E := "java/lang/IndexOutOfBoundsException") (text := "nothing of this kind is told of a manuscript") (ik := 96) (is := 181) (ic := 100) (by decide +kernel) lk_X4_manuscript_cl96 lk_X4_manuscript_ini_IndexOutOfBoundsException (by decide +kernel) at_X4_manuscript_100 (by decide +kernel) (by decide +kernel) (by decide +kernel) dX4_manuscript_16 dX4_manuscript_19 dX4_manuscript_20 dX4_manuscript_22 dX4_manuscript_25 (Nat.le_of_ble_eq_true rfl) (Nat.le_of_ble_eq_true rfl) (Nat.le_of_ble_eq_true rfl) (Nat.le_of_ble_eq_true rfl) ⟨(Nat.le_of_ble_eq_true rfl), (Nat.le_of_ble_eq_true rfl)⟩ h
theorem m_X4_manuscript {l : Launch} {y : LT} {σ : CS} {v1 v2 : Int} {post : Int → CS → Prop} {px : String → CS → Prop} (h : ∀ K : KT, K.l = l → C_X4_manuscript K y post px → P_X4_manuscript_0 K y σ v1 v2) : vMet l yX4_manuscript wsX4_manuscript rm_X4_manuscript y.2.2 (CL y) rkI [.ref (y.1 0 0 0), .int (iZ v1), .int (iZ v2)] σ post px :=
  vMet.of (maxL := 4) (by decide +kernel) rfl (Nat.le_of_ble_eq_true rfl) (fun K h1 h2 h3 h4 h5 h6 h7 => h K h1 ⟨h2, h3, h4, h5, h6, h7⟩)
def H_X4_manuscript (p : CS → Int → Int → Prop) (o : CS → Int → Int → Int → CS → Prop) (x : CS → Int → Int → String → CS → Prop) : Prop := ∀ (l : Launch) (y : LT) (σ : CS) (v1 v2 : Int), p σ v1 v2 → vMet l yX4_manuscript wsX4_manuscript rm_X4_manuscript y.2.2 (CL y) rkI [.ref (y.1 0 0 0), .int (iZ v1), .int (iZ v2)] σ (fun r σ' => o σ v1 v2 r σ') (x σ v1 v2)

/-! X4_guess -/
abbrev rm_X4_guess : Room := { frames := 7, cells := 1, slots := 6, locals := 140 }
def C_X4_guess (K : KT) (y : LT) (post : Int → CS → Prop) (px : String → CS → Prop) : Prop := kOK K cX4_guess RX4 wsX4_guess (some .int) rm_X4_guess ∧ K.nL = 2 ∧ kQX K (CL y) rkI post px rm_X4_guess ∧ SF y.2.2 K.A K.s K.s.heap ∧ K.l.stackTraces = false ∧ kNX K
def P_X4_guess_0 (K : KT) (y : LT) (σ : CS) (v1 : Int) : Prop := G K (CL y σ) (0, 0) [(0, .ref (y.1 0 0 0)), (1, .int (iZ v1))] 0 []
set_option maxRecDepth 100000 in
set_option maxHeartbeats 4000000 in
theorem b_X4_guess_0 {K : KT} {y : LT} {post : Int → CS → Prop} {px : String → CS → Prop} (C : C_X4_guess K y post px) {p_manuscriptOf : CS → Int → Prop} {o_manuscriptOf : CS → Int → Int → CS → Prop} {x_manuscriptOf : CS → Int → String → CS → Prop} (h_manuscriptOf : H_X4_manuscriptOf p_manuscriptOf o_manuscriptOf x_manuscriptOf) {p_guessed : CS → Int → Prop} {o_guessed : CS → Int → Int → CS → Prop} (h_guessed : H_X4_guessed p_guessed o_guessed) {σ : CS} {v1 : Int} (h : (p_manuscriptOf σ v1) ∧ (∀ (E : String) (u9 : CS), x_manuscriptOf σ v1 E u9 → px E u9) ∧ ∀ (r2 : Int) (σ3 : CS), o_manuscriptOf σ v1 r2 σ3 → (p_guessed σ3 r2) ∧ ∀ (r5 : Int) (σ6 : CS), o_guessed σ3 r2 r5 σ6 → post r5 σ6) : P_X4_guess_0 K y σ v1 := by
  refine g_aload_n C.1 0 dX4_guess_0 rfl rfl ?_
  refine g_aload_n C.1 0 dX4_guess_1 rfl rfl ?_
  refine g_iload_n C.1 1 dX4_guess_2 rfl rfl ?_
  obtain ⟨hp1, h⟩ := h
  obtain ⟨hx9, h⟩ := h
  refine c_callX C.1 C.2.2.1 C.2.2.2.2.2 C.2.2.2.1 C.2.2.2.2.1 (h_manuscriptOf K.l y σ v1 hp1) (ci := 5) (q := (RX4, TX4, 10)) rfl (c_recv rfl ⟨rfl, rfl⟩) (fun ht => cwV 1 ht gX4_guess_X4_manuscriptOf rfl rfl rfl (by decide +kernel) ⟨Nat.le_of_ble_eq_true rfl, Nat.le_of_ble_eq_true rfl⟩) rfl rfl (Nat.le_of_ble_eq_true rfl) ⟨Nat.le_of_ble_eq_true rfl, Nat.le_of_ble_eq_true rfl⟩ ⟨Nat.le_of_ble_eq_true rfl, Nat.le_of_ble_eq_true rfl⟩ dX4_guess_3 (fun E u9 hq => ⟨u9, hx9 E u9 hq, fun _ _ w9 => w9⟩) (fun r2 σ3 hq => ?_)
  have h := h r2 σ3 hq
  show G K (CL y σ3) (1, 6) [(0, .ref (y.1 0 0 0)), (1, .int (iZ v1))] 6 [vM y r2, .ref (y.1 0 0 0)]
  obtain ⟨hp4, h⟩ := h
  refine c_callV C.1 C.2.2.2.1 C.2.2.2.2.1 (h_guessed K.l y σ3 r2 hp4) (ci := 5) (q := (RX4, TX4, 10)) rfl (c_recv rfl ⟨rfl, rfl⟩) (fun ht => cwV 1 ht gX4_guess_X4_guessed rfl rfl rfl (by decide +kernel) ⟨Nat.le_of_ble_eq_true rfl, Nat.le_of_ble_eq_true rfl⟩) rfl rfl (Nat.le_of_ble_eq_true rfl) ⟨Nat.le_of_ble_eq_true rfl, Nat.le_of_ble_eq_true rfl⟩ dX4_guess_6 (fun r5 σ6 hq => ?_)
  have h := h r5 σ6 hq
  show G K (CL y σ6) (1, 6) [(0, .ref (y.1 0 0 0)), (1, .int (iZ v1))] 9 [.int (iZ r5)]
  exact y_iret C.1 C.2.2.1 rfl ⟨Nat.le_of_ble_eq_true rfl, Nat.le_of_ble_eq_true rfl⟩ dX4_guess_9 h
theorem m_X4_guess {l : Launch} {y : LT} {σ : CS} {v1 : Int} {post : Int → CS → Prop} {px : String → CS → Prop} (h : ∀ K : KT, K.l = l → C_X4_guess K y post px → P_X4_guess_0 K y σ v1) : vMet l yX4_guess wsX4_guess rm_X4_guess y.2.2 (CL y) rkI [.ref (y.1 0 0 0), .int (iZ v1)] σ post px :=
  vMet.of (maxL := 2) (by decide +kernel) rfl (Nat.le_of_ble_eq_true rfl) (fun K h1 h2 h3 h4 h5 h6 h7 => h K h1 ⟨h2, h3, h4, h5, h6, h7⟩)
def H_X4_guess (p : CS → Int → Prop) (o : CS → Int → Int → CS → Prop) (x : CS → Int → String → CS → Prop) : Prop := ∀ (l : Launch) (y : LT) (σ : CS) (v1 : Int), p σ v1 → vMet l yX4_guess wsX4_guess rm_X4_guess y.2.2 (CL y) rkI [.ref (y.1 0 0 0), .int (iZ v1)] σ (fun r σ' => o σ v1 r σ') (x σ v1)

/-! X4_guessedRight -/
abbrev rm_X4_guessedRight : Room := { frames := 5, cells := 0, slots := 0, locals := 140 }
set_option maxRecDepth 20000 in
theorem inX4_guessedRight_X4 : ∀ w ∈ wsX40, w ∈ wsX4_guessedRight := by decide +kernel
set_option maxRecDepth 20000 in
theorem inX4_guessedRight_X1 : ∀ w ∈ wsX10, w ∈ wsX4_guessedRight := by decide +kernel
theorem lk_X4_guessedRight_f20 : Cond.fieldLink RX4 20 "CopyHouse" "manuscripts" "Ljava/util/ArrayList;" ∈ wsX4_guessedRight := List.mem_of_getElem? (i := 1) (by decide +kernel)
theorem lk_X4_guessedRight_cc89 : Cond.classLink RX4 89 "CopyHouse$Manuscript" ∈ wsX4_guessedRight := List.mem_of_getElem? (i := 2) (by decide +kernel)
theorem lk_X4_guessedRight_f153 : Cond.fieldLink RX4 153 "CopyHouse$Manuscript" "there" "Z" ∈ wsX4_guessedRight := List.mem_of_getElem? (i := 3) (by decide +kernel)
theorem lk_X4_guessedRight_f202 : Cond.fieldLink RX4 202 "CopyHouse$Manuscript" "exemplar" "LCopyHouse$Manuscript;" ∈ wsX4_guessedRight := List.mem_of_getElem? (i := 4) (by decide +kernel)
theorem lk_X4_guessedRight_f199 : Cond.fieldLink RX4 199 "CopyHouse$Manuscript" "number" "I" ∈ wsX4_guessedRight := List.mem_of_getElem? (i := 5) (by decide +kernel)
def C_X4_guessedRight (K : KT) (y : LT) (post : Int → CS → Prop) : Prop := kOK K cX4_guessedRight RX4 wsX4_guessedRight (some .int) rm_X4_guessedRight ∧ K.nL = 4 ∧ kQ K (CL y) rkI post rm_X4_guessedRight ∧ SF y.2.2 K.A K.s K.s.heap ∧ K.l.stackTraces = false
def P_X4_guessedRight_0 (K : KT) (y : LT) (σ : CS) : Prop := G K (CL y σ) (0, 0) [(0, .ref (y.1 0 0 0))] 0 []
def P_X4_guessedRight_1 (K : KT) (y : LT) (σ : CS) (v1 v2 : Int) : Prop := G K (CL y σ) (0, 0) [(0, .ref (y.1 0 0 0)), (1, .int (iZ v1)), (2, .int (iZ v2))] 4 []
set_option maxRecDepth 100000 in
set_option maxHeartbeats 4000000 in
theorem b_X4_guessedRight_0 {K : KT} {y : LT} {post : Int → CS → Prop} (C : C_X4_guessedRight K y post) {σ : CS} (h : P_X4_guessedRight_1 K y σ 0 0) : P_X4_guessedRight_0 K y σ := by
  refine g_iconst C.1 (z := 0) dX4_guessedRight_0 ?_
  refine g_istore_n C.1 (i := 1) (loc' := [(1, .int (iZ 0)), (0, .ref (y.1 0 0 0))]) C.2.1 dX4_guessedRight_1 rfl (by decide) rfl ?_
  refine g_iconst C.1 (z := 0) dX4_guessedRight_2 ?_
  refine g_istore_n C.1 (i := 2) (loc' := [(2, .int (iZ 0)), (1, .int (iZ 0)), (0, .ref (y.1 0 0 0))]) C.2.1 dX4_guessedRight_3 rfl (by decide) rfl ?_
  exact g_sub [2, 1, 0] rfl h
set_option maxRecDepth 100000 in
set_option maxHeartbeats 4000000 in
theorem b_X4_guessedRight_1 {K : KT} {y : LT} {post : Int → CS → Prop} (C : C_X4_guessedRight K y post) {p_sizeM : CS → Prop} {f_sizeM : CS → Int} (h_sizeM : H_sizeM p_sizeM f_sizeM) {p_getM : CS → Int → Prop} (h_getM : H_getM p_getM) {p_guessed : CS → Int → Prop} {o_guessed : CS → Int → Int → CS → Prop} (h_guessed : H_X4_guessed p_guessed o_guessed) {σ : CS} {v1 v2 : Int} (h : (p_sizeM σ) ∧ (-2147483648 ≤ v2 ∧ v2 < 2147483648) ∧ (-2147483648 ≤ (f_sizeM σ) ∧ (f_sizeM σ) < 2147483648) ∧ (((f_sizeM σ) ≤ v2 → post v1 σ) ∧ (¬ (f_sizeM σ) ≤ v2 → (p_getM σ v2) ∧ (0 ≤ v2 ∧ v2 < (σ 21 0 0 0)) ∧ (-2147483648 ≤ (σ 12 v2 0 0) ∧ (σ 12 v2 0 0) < 2147483648) ∧ (((σ 12 v2 0 0) = 0 → P_X4_guessedRight_1 K y σ v1 (v2 + 1)) ∧ (¬ (σ 12 v2 0 0) = 0 → (((σ 9 v2 0 0) < 0 → P_X4_guessedRight_1 K y σ v1 (v2 + 1)) ∧ (¬ (σ 9 v2 0 0) < 0 → (p_guessed σ v2) ∧ ∀ (r8 : Int) (σ9 : CS), o_guessed σ v2 r8 σ9 → (0 ≤ v2 ∧ v2 < (σ9 21 0 0 0)) ∧ (0 ≤ (σ9 9 v2 0 0) ∧ (σ9 9 v2 0 0) < (σ9 21 0 0 0)) ∧ (-2147483648 ≤ r8 ∧ r8 < 2147483648) ∧ (-2147483648 ≤ (σ9 9 v2 0 0) ∧ (σ9 9 v2 0 0) < 2147483648) ∧ ((¬ r8 = (σ9 9 v2 0 0) → P_X4_guessedRight_1 K y σ9 v1 (v2 + 1)) ∧ (r8 = (σ9 9 v2 0 0) → P_X4_guessedRight_1 K y σ9 (v1 + 1) (v2 + 1)))))))))) : P_X4_guessedRight_1 K y σ v1 v2 := by
  refine g_iload_n C.1 2 dX4_guessedRight_4 rfl rfl ?_
  refine g_aload_n C.1 0 dX4_guessedRight_5 rfl rfl ?_
  refine c_get C.1 (ci := 5) (q := (RX4, TX4, 10)) rfl rfl inX4_guessedRight_X4 2 (by decide) (v := .ref (y.1 2 0 0)) rfl lk_X4_guessedRight_f20 rfl dX4_guessedRight_6 ⟨rfl, rfl⟩ ?_
  obtain ⟨hp1, h⟩ := h
  refine c_callV C.1 C.2.2.2.1 C.2.2.2.2 (h_sizeM K.l y σ hp1) (ci := 0) (q := (RJx4a65c, TJx4a65c, 3)) rfl (c_recv rfl ⟨rfl, rfl⟩) (fun ht => cwV 0 ht gX4_guessedRight_Jx4a65c_size_8abf5 rfl rfl rfl (by decide +kernel) ⟨Nat.le_of_ble_eq_true rfl, Nat.le_of_ble_eq_true rfl⟩) rfl rfl (Nat.le_of_ble_eq_true rfl) ⟨Nat.le_of_ble_eq_true rfl, Nat.le_of_ble_eq_true rfl⟩ dX4_guessedRight_9 (fun r σ9 hq => ?_)
  rw [hq.1, hq.2]
  show G K (CL y σ) (0, 0) [(0, .ref (y.1 0 0 0)), (1, .int (iZ v1)), (2, .int (iZ v2))] 12 [.int (iZ (f_sizeM σ)), .int (iZ v2)]
  obtain ⟨hc2, h⟩ := h
  obtain ⟨hc3, h⟩ := h
  refine g_icmp_ge C.1 (tgt := 65) dX4_guessedRight_12 (by decide) hc2 hc3 (fun hc => ?_) (fun hc => ?_)
  · have h := h.1 hc
    refine g_iload_n C.1 1 dX4_guessedRight_65 rfl rfl ?_
    exact x_iret C.1 C.2.2.1 rfl ⟨Nat.le_of_ble_eq_true rfl, Nat.le_of_ble_eq_true rfl⟩ dX4_guessedRight_66 h
  · have h := h.2 hc
    refine g_aload_n C.1 0 dX4_guessedRight_15 rfl rfl ?_
    refine c_get C.1 (ci := 5) (q := (RX4, TX4, 10)) rfl rfl inX4_guessedRight_X4 2 (by decide) (v := .ref (y.1 2 0 0)) rfl lk_X4_guessedRight_f20 rfl dX4_guessedRight_16 ⟨rfl, rfl⟩ ?_
    refine g_iload_n C.1 2 dX4_guessedRight_19 rfl rfl ?_
    obtain ⟨hp4, h⟩ := h
    refine c_callV C.1 C.2.2.2.1 C.2.2.2.2 (h_getM K.l y σ v2 hp4) (ci := 0) (q := (RJx4a65c, TJx4a65c, 3)) rfl (c_recv rfl ⟨rfl, rfl⟩) (fun ht => cwV 1 ht gX4_guessedRight_Jx4a65c_get_915e3 rfl rfl rfl (by decide +kernel) ⟨Nat.le_of_ble_eq_true rfl, Nat.le_of_ble_eq_true rfl⟩) rfl rfl (Nat.le_of_ble_eq_true rfl) ⟨Nat.le_of_ble_eq_true rfl, Nat.le_of_ble_eq_true rfl⟩ dX4_guessedRight_20 (fun r σ9 hq => ?_)
    rw [hq.1, hq.2]
    show G K (CL y σ) (0, 0) [(0, .ref (y.1 0 0 0)), (1, .int (iZ v1)), (2, .int (iZ v2))] 23 [vM y v2]
    obtain ⟨hd5, h⟩ := h
    refine c_atM hd5.1 ?_
    refine c_cast C.1 C.2.2.2.1 (ci := 2) (q := (RX1, TX1, 6)) rfl rfl (by decide +kernel) lk_X4_guessedRight_cc89 dX4_guessedRight_23 ⟨hd5.1, hd5.2, rfl⟩ ?_
    refine c_toM hd5.1 ?_
    refine g_astoreM_n C.1 (i := 3) (loc' := [(0, .ref (y.1 0 0 0)), (1, .int (iZ v1)), (2, .int (iZ v2))]) C.2.1 dX4_guessedRight_26 rfl (by decide) rfl ?_
    refine g_aloadM_n C.1 0 dX4_guessedRight_27 rfl rfl ?_
    refine c_atM hd5.1 ?_
    refine c_get C.1 (ci := 2) (q := (RX1, TX1, 6)) rfl rfl inX4_guessedRight_X1 5 (by decide) (v := .int (iZ (σ 12 v2 0 0))) rfl lk_X4_guessedRight_f153 rfl dX4_guessedRight_28 ⟨hd5.1, hd5.2, rfl⟩ ?_
    obtain ⟨hc6, h⟩ := h
    refine g_if_eq C.1 (tgt := 59) dX4_guessedRight_31 (by decide) hc6 (fun hc => ?_) (fun hc => ?_)
    · have h := h.1 hc
      refine g_iinc C.1 (z := v2) (w := 1) (loc' := [(2, .int (iZ (v2 + 1))), (3, vM y v2), (0, .ref (y.1 0 0 0)), (1, .int (iZ v1))]) 3 C.2.1 dX4_guessedRight_59 rfl (by decide) (by simp [vM_cat, cat_i, cat_r, cat_l]) ?_
      refine g_goto C.1 (tgt := 4) dX4_guessedRight_62 (by decide) ?_
      exact g_sub [2, 3, 0] rfl h
    · have h := h.2 hc
      refine g_aloadM_n C.1 0 dX4_guessedRight_34 rfl rfl ?_
      refine c_atM hd5.1 ?_
      refine c_get C.1 (ci := 2) (q := (RX1, TX1, 6)) rfl rfl inX4_guessedRight_X1 1 (by decide) (v := vM y (σ 9 v2 0 0)) rfl lk_X4_guessedRight_f202 rfl dX4_guessedRight_35 ⟨hd5.1, hd5.2, rfl⟩ ?_
      refine g_ifnull C.1 (tgt := 59) dX4_guessedRight_38 (by decide) (fun hc => ?_) (fun hc => ?_)
      · have h := h.1 hc
        refine g_iinc C.1 (z := v2) (w := 1) (loc' := [(2, .int (iZ (v2 + 1))), (3, vM y v2), (0, .ref (y.1 0 0 0)), (1, .int (iZ v1))]) 3 C.2.1 dX4_guessedRight_59 rfl (by decide) (by simp [vM_cat, cat_i, cat_r, cat_l]) ?_
        refine g_goto C.1 (tgt := 4) dX4_guessedRight_62 (by decide) ?_
        exact g_sub [2, 3, 0] rfl h
      · have h := h.2 hc
        refine g_aload_n C.1 1 dX4_guessedRight_41 rfl rfl ?_
        refine g_aloadM_n C.1 0 dX4_guessedRight_42 rfl rfl ?_
        obtain ⟨hp7, h⟩ := h
        refine c_callV C.1 C.2.2.2.1 C.2.2.2.2 (h_guessed K.l y σ v2 hp7) (ci := 5) (q := (RX4, TX4, 10)) rfl (c_recv rfl ⟨rfl, rfl⟩) (fun ht => cwV 1 ht gX4_guessedRight_X4_guessed rfl rfl rfl (by decide +kernel) ⟨Nat.le_of_ble_eq_true rfl, Nat.le_of_ble_eq_true rfl⟩) rfl rfl (Nat.le_of_ble_eq_true rfl) ⟨Nat.le_of_ble_eq_true rfl, Nat.le_of_ble_eq_true rfl⟩ dX4_guessedRight_43 (fun r8 σ9 hq => ?_)
        have h := h r8 σ9 hq
        show G K (CL y σ9) (0, 0) [(3, vM y v2), (0, .ref (y.1 0 0 0)), (1, .int (iZ v1)), (2, .int (iZ v2))] 46 [.int (iZ r8)]
        refine g_aloadM_n C.1 0 dX4_guessedRight_46 rfl rfl ?_
        obtain ⟨hd10, h⟩ := h
        refine c_atM hd10.1 ?_
        refine c_get C.1 (ci := 2) (q := (RX1, TX1, 6)) rfl rfl inX4_guessedRight_X1 1 (by decide) (v := vM y (σ9 9 v2 0 0)) rfl lk_X4_guessedRight_f202 rfl dX4_guessedRight_47 ⟨hd10.1, hd10.2, rfl⟩ ?_
        obtain ⟨hd11, h⟩ := h
        refine c_atM hd11.1 ?_
        refine c_get C.1 (ci := 2) (q := (RX1, TX1, 6)) rfl rfl inX4_guessedRight_X1 0 (by decide) (v := .int (iZ (σ9 9 v2 0 0))) rfl lk_X4_guessedRight_f199 rfl dX4_guessedRight_50 ⟨hd11.1, hd11.2, rfl⟩ ?_
        obtain ⟨hc12, h⟩ := h
        obtain ⟨hc13, h⟩ := h
        refine g_icmp_ne C.1 (tgt := 59) dX4_guessedRight_53 (by decide) hc12 hc13 (fun hc => ?_) (fun hc => ?_)
        · have h := h.1 hc
          refine g_iinc C.1 (z := v2) (w := 1) (loc' := [(2, .int (iZ (v2 + 1))), (3, vM y v2), (0, .ref (y.1 0 0 0)), (1, .int (iZ v1))]) 3 C.2.1 dX4_guessedRight_59 rfl (by decide) (by simp [vM_cat, cat_i, cat_r, cat_l]) ?_
          refine g_goto C.1 (tgt := 4) dX4_guessedRight_62 (by decide) ?_
          exact g_sub [2, 3, 0] rfl h
        · have h := h.2 hc
          refine g_iinc C.1 (z := v1) (w := 1) (loc' := [(1, .int (iZ (v1 + 1))), (3, vM y v2), (0, .ref (y.1 0 0 0)), (2, .int (iZ v2))]) 2 C.2.1 dX4_guessedRight_56 rfl (by decide) (by simp [vM_cat, cat_i, cat_r, cat_l]) ?_
          refine g_iinc C.1 (z := v2) (w := 1) (loc' := [(2, .int (iZ (v2 + 1))), (1, .int (iZ (v1 + 1))), (3, vM y v2), (0, .ref (y.1 0 0 0))]) 3 C.2.1 dX4_guessedRight_59 rfl (by decide) (by simp [vM_cat, cat_i, cat_r, cat_l]) ?_
          refine g_goto C.1 (tgt := 4) dX4_guessedRight_62 (by decide) ?_
          exact g_sub [3, 1, 0] rfl h
theorem m_X4_guessedRight {l : Launch} {y : LT} {σ : CS} {post : Int → CS → Prop} (h : ∀ K : KT, K.l = l → C_X4_guessedRight K y post → P_X4_guessedRight_0 K y σ) : cMet l yX4_guessedRight wsX4_guessedRight rm_X4_guessedRight y.2.2 (CL y) rkI [.ref (y.1 0 0 0)] σ post :=
  cMet.of (maxL := 4) (by decide +kernel) rfl (Nat.le_of_ble_eq_true rfl) (fun K h1 h2 h3 h4 h5 h6 _ => h K h1 ⟨h2, h3, h4, h5, h6⟩)
def H_X4_guessedRight (p : CS → Prop) (o : CS → Int → CS → Prop) : Prop := ∀ (l : Launch) (y : LT) (σ : CS), p σ → cMet l yX4_guessedRight wsX4_guessedRight rm_X4_guessedRight y.2.2 (CL y) rkI [.ref (y.1 0 0 0)] σ (fun r σ' => o σ r σ')

/-! X4_counted -/
abbrev rm_X4_counted : Room := { frames := 6, cells := 0, slots := 0, locals := 163 }
set_option maxRecDepth 20000 in
theorem inX4_counted_X4 : ∀ w ∈ wsX40, w ∈ wsX4_counted := by decide +kernel
theorem lk_X4_counted_f20 : Cond.fieldLink RX4 20 "CopyHouse" "manuscripts" "Ljava/util/ArrayList;" ∈ wsX4_counted := List.mem_of_getElem? (i := 1) (by decide +kernel)
theorem lk_X4_counted_f24 : Cond.fieldLink RX4 24 "CopyHouse" "scribes" "Ljava/util/ArrayList;" ∈ wsX4_counted := List.mem_of_getElem? (i := 2) (by decide +kernel)
theorem lk_X4_counted_f13 : Cond.fieldLink RX4 13 "CopyHouse" "tapeLength" "I" ∈ wsX4_counted := List.mem_of_getElem? (i := 3) (by decide +kernel)
def C_X4_counted (K : KT) (y : LT) (post : Int → CS → Prop) : Prop := kOK K cX4_counted RX4 wsX4_counted (some .int) rm_X4_counted ∧ K.nL = 2 ∧ kQ K (CL y) rkI post rm_X4_counted ∧ SF y.2.2 K.A K.s K.s.heap ∧ K.l.stackTraces = false
def P_X4_counted_0 (K : KT) (y : LT) (σ : CS) (v1 : Int) : Prop := G K (CL y σ) (0, 0) [(0, .ref (y.1 0 0 0)), (1, .int (iZ v1))] 0 []
set_option maxRecDepth 100000 in
set_option maxHeartbeats 4000000 in
theorem b_X4_counted_0 {K : KT} {y : LT} {post : Int → CS → Prop} (C : C_X4_counted K y post) {p_guessedRight : CS → Prop} {o_guessedRight : CS → Int → CS → Prop} (h_guessedRight : H_X4_guessedRight p_guessedRight o_guessedRight) {p_sizeM : CS → Prop} {f_sizeM : CS → Int} (h_sizeM : H_sizeM p_sizeM f_sizeM) {p_thoseThere : CS → Prop} {f_thoseThere : CS → Int} (h_thoseThere : H_X4_thoseThere p_thoseThere f_thoseThere) {p_sizeS : CS → Prop} {f_sizeS : CS → Int} (h_sizeS : H_sizeS p_sizeS f_sizeS) {p_origins : CS → Prop} {f_origins : CS → Int} (h_origins : H_X4_origins p_origins f_origins) {p_greatestGeneration : CS → Prop} {f_greatestGeneration : CS → Int} (h_greatestGeneration : H_X4_greatestGeneration p_greatestGeneration f_greatestGeneration) {p_lettersThere : CS → Prop} {f_lettersThere : CS → Int} (h_lettersThere : H_X4_lettersThere p_lettersThere f_lettersThere) {σ : CS} {v1 : Int} (h : (-2147483648 ≤ v1 ∧ v1 < 2147483648) ∧ (((v1 < 0 ∨ 6 < v1) → (p_guessedRight σ) ∧ ∀ (r3 : Int) (σ4 : CS), o_guessedRight σ r3 σ4 → post r3 σ4) ∧ (v1 = 0 → (p_sizeM σ) ∧ post (f_sizeM σ) σ) ∧ (v1 = 1 → (p_thoseThere σ) ∧ post (f_thoseThere σ) σ) ∧ (v1 = 2 → (p_sizeS σ) ∧ post (f_sizeS σ) σ) ∧ (v1 = 3 → (p_origins σ) ∧ post (f_origins σ) σ) ∧ (v1 = 4 → (p_greatestGeneration σ) ∧ post (f_greatestGeneration σ) σ) ∧ (v1 = 5 → post (σ 0 0 0 0) σ) ∧ (v1 = 6 → (p_lettersThere σ) ∧ post (f_lettersThere σ) σ))) : P_X4_counted_0 K y σ v1 := by
  refine g_iload_n C.1 1 dX4_counted_0 rfl rfl ?_
  obtain ⟨hc1, h⟩ := h
  refine g_tsw C.1 (x := v1) (lo := 0) (hi := 6) dX4_counted_1 hc1 (fun hc => ?_) (fun h1 h2 => ?_)
  · refine ⟨85, by decide, ?_⟩
    have h := h.1 hc
    refine g_aload_n C.1 0 dX4_counted_85 rfl rfl ?_
    obtain ⟨hp2, h⟩ := h
    refine c_callV C.1 C.2.2.2.1 C.2.2.2.2 (h_guessedRight K.l y σ hp2) (ci := 5) (q := (RX4, TX4, 10)) rfl (c_recv rfl ⟨rfl, rfl⟩) (fun ht => cwV 0 ht gX4_counted_X4_guessedRight rfl rfl rfl (by decide +kernel) ⟨Nat.le_of_ble_eq_true rfl, Nat.le_of_ble_eq_true rfl⟩) rfl rfl (Nat.le_of_ble_eq_true rfl) ⟨Nat.le_of_ble_eq_true rfl, Nat.le_of_ble_eq_true rfl⟩ dX4_counted_86 (fun r3 σ4 hq => ?_)
    have h := h r3 σ4 hq
    show G K (CL y σ4) (0, 0) [(0, .ref (y.1 0 0 0)), (1, .int (iZ v1))] 89 [.int (iZ r3)]
    exact x_iret C.1 C.2.2.1 rfl ⟨Nat.le_of_ble_eq_true rfl, Nat.le_of_ble_eq_true rfl⟩ dX4_counted_89 h
  · have hx : v1 = 0 ∨ v1 = 1 ∨ v1 = 2 ∨ v1 = 3 ∨ v1 = 4 ∨ v1 = 5 ∨ v1 = 6 := by omega
    have h := h.2
    rcases hx with hx | hx | hx | hx | hx | hx | hx
    · refine ⟨_, 44, (by rw [hx]; rfl), by decide, ?_⟩
      have h := h.1 hx
      refine g_aload_n C.1 0 dX4_counted_44 rfl rfl ?_
      refine c_get C.1 (ci := 5) (q := (RX4, TX4, 10)) rfl rfl inX4_counted_X4 2 (by decide) (v := .ref (y.1 2 0 0)) rfl lk_X4_counted_f20 rfl dX4_counted_45 ⟨rfl, rfl⟩ ?_
      obtain ⟨hp5, h⟩ := h
      refine c_callV C.1 C.2.2.2.1 C.2.2.2.2 (h_sizeM K.l y σ hp5) (ci := 0) (q := (RJx4a65c, TJx4a65c, 3)) rfl (c_recv rfl ⟨rfl, rfl⟩) (fun ht => cwV 0 ht gX4_counted_Jx4a65c_size_8abf5 rfl rfl rfl (by decide +kernel) ⟨Nat.le_of_ble_eq_true rfl, Nat.le_of_ble_eq_true rfl⟩) rfl rfl (Nat.le_of_ble_eq_true rfl) ⟨Nat.le_of_ble_eq_true rfl, Nat.le_of_ble_eq_true rfl⟩ dX4_counted_48 (fun r σ9 hq => ?_)
      rw [hq.1, hq.2]
      show G K (CL y σ) (0, 0) [(0, .ref (y.1 0 0 0)), (1, .int (iZ v1))] 51 [.int (iZ (f_sizeM σ))]
      exact x_iret C.1 C.2.2.1 rfl ⟨Nat.le_of_ble_eq_true rfl, Nat.le_of_ble_eq_true rfl⟩ dX4_counted_51 h
    · refine ⟨_, 52, (by rw [hx]; rfl), by decide, ?_⟩
      have h := h.2.1 hx
      refine g_aload_n C.1 0 dX4_counted_52 rfl rfl ?_
      obtain ⟨hp6, h⟩ := h
      refine c_callV C.1 C.2.2.2.1 C.2.2.2.2 (h_thoseThere K.l y σ hp6) (ci := 5) (q := (RX4, TX4, 10)) rfl (c_recv rfl ⟨rfl, rfl⟩) (fun ht => cwV 0 ht gX4_counted_X4_thoseThere rfl rfl rfl (by decide +kernel) ⟨Nat.le_of_ble_eq_true rfl, Nat.le_of_ble_eq_true rfl⟩) rfl rfl (Nat.le_of_ble_eq_true rfl) ⟨Nat.le_of_ble_eq_true rfl, Nat.le_of_ble_eq_true rfl⟩ dX4_counted_53 (fun r σ9 hq => ?_)
      rw [hq.1, hq.2]
      show G K (CL y σ) (0, 0) [(0, .ref (y.1 0 0 0)), (1, .int (iZ v1))] 56 [.int (iZ (f_thoseThere σ))]
      exact x_iret C.1 C.2.2.1 rfl ⟨Nat.le_of_ble_eq_true rfl, Nat.le_of_ble_eq_true rfl⟩ dX4_counted_56 h
    · refine ⟨_, 57, (by rw [hx]; rfl), by decide, ?_⟩
      have h := h.2.2.1 hx
      refine g_aload_n C.1 0 dX4_counted_57 rfl rfl ?_
      refine c_get C.1 (ci := 5) (q := (RX4, TX4, 10)) rfl rfl inX4_counted_X4 3 (by decide) (v := .ref (y.1 4 0 0)) rfl lk_X4_counted_f24 rfl dX4_counted_58 ⟨rfl, rfl⟩ ?_
      obtain ⟨hp7, h⟩ := h
      refine c_callV C.1 C.2.2.2.1 C.2.2.2.2 (h_sizeS K.l y σ hp7) (ci := 0) (q := (RJx4a65c, TJx4a65c, 3)) rfl (c_recv rfl ⟨rfl, rfl⟩) (fun ht => cwV 0 ht gX4_counted_Jx4a65c_size_8abf5 rfl rfl rfl (by decide +kernel) ⟨Nat.le_of_ble_eq_true rfl, Nat.le_of_ble_eq_true rfl⟩) rfl rfl (Nat.le_of_ble_eq_true rfl) ⟨Nat.le_of_ble_eq_true rfl, Nat.le_of_ble_eq_true rfl⟩ dX4_counted_61 (fun r σ9 hq => ?_)
      rw [hq.1, hq.2]
      show G K (CL y σ) (0, 0) [(0, .ref (y.1 0 0 0)), (1, .int (iZ v1))] 64 [.int (iZ (f_sizeS σ))]
      exact x_iret C.1 C.2.2.1 rfl ⟨Nat.le_of_ble_eq_true rfl, Nat.le_of_ble_eq_true rfl⟩ dX4_counted_64 h
    · refine ⟨_, 65, (by rw [hx]; rfl), by decide, ?_⟩
      have h := h.2.2.2.1 hx
      refine g_aload_n C.1 0 dX4_counted_65 rfl rfl ?_
      obtain ⟨hp8, h⟩ := h
      refine c_callV C.1 C.2.2.2.1 C.2.2.2.2 (h_origins K.l y σ hp8) (ci := 5) (q := (RX4, TX4, 10)) rfl (c_recv rfl ⟨rfl, rfl⟩) (fun ht => cwV 0 ht gX4_counted_X4_origins rfl rfl rfl (by decide +kernel) ⟨Nat.le_of_ble_eq_true rfl, Nat.le_of_ble_eq_true rfl⟩) rfl rfl (Nat.le_of_ble_eq_true rfl) ⟨Nat.le_of_ble_eq_true rfl, Nat.le_of_ble_eq_true rfl⟩ dX4_counted_66 (fun r σ9 hq => ?_)
      rw [hq.1, hq.2]
      show G K (CL y σ) (0, 0) [(0, .ref (y.1 0 0 0)), (1, .int (iZ v1))] 69 [.int (iZ (f_origins σ))]
      exact x_iret C.1 C.2.2.1 rfl ⟨Nat.le_of_ble_eq_true rfl, Nat.le_of_ble_eq_true rfl⟩ dX4_counted_69 h
    · refine ⟨_, 70, (by rw [hx]; rfl), by decide, ?_⟩
      have h := h.2.2.2.2.1 hx
      refine g_aload_n C.1 0 dX4_counted_70 rfl rfl ?_
      obtain ⟨hp9, h⟩ := h
      refine c_callV C.1 C.2.2.2.1 C.2.2.2.2 (h_greatestGeneration K.l y σ hp9) (ci := 5) (q := (RX4, TX4, 10)) rfl (c_recv rfl ⟨rfl, rfl⟩) (fun ht => cwV 0 ht gX4_counted_X4_greatestGeneration rfl rfl rfl (by decide +kernel) ⟨Nat.le_of_ble_eq_true rfl, Nat.le_of_ble_eq_true rfl⟩) rfl rfl (Nat.le_of_ble_eq_true rfl) ⟨Nat.le_of_ble_eq_true rfl, Nat.le_of_ble_eq_true rfl⟩ dX4_counted_71 (fun r σ9 hq => ?_)
      rw [hq.1, hq.2]
      show G K (CL y σ) (0, 0) [(0, .ref (y.1 0 0 0)), (1, .int (iZ v1))] 74 [.int (iZ (f_greatestGeneration σ))]
      exact x_iret C.1 C.2.2.1 rfl ⟨Nat.le_of_ble_eq_true rfl, Nat.le_of_ble_eq_true rfl⟩ dX4_counted_74 h
    · refine ⟨_, 75, (by rw [hx]; rfl), by decide, ?_⟩
      have h := h.2.2.2.2.2.1 hx
      refine g_aload_n C.1 0 dX4_counted_75 rfl rfl ?_
      refine c_get C.1 (ci := 5) (q := (RX4, TX4, 10)) rfl rfl inX4_counted_X4 1 (by decide) (v := .int (iZ (σ 0 0 0 0))) rfl lk_X4_counted_f13 rfl dX4_counted_76 ⟨rfl, rfl⟩ ?_
      exact x_iret C.1 C.2.2.1 rfl ⟨Nat.le_of_ble_eq_true rfl, Nat.le_of_ble_eq_true rfl⟩ dX4_counted_79 h
    · refine ⟨_, 80, (by rw [hx]; rfl), by decide, ?_⟩
      have h := h.2.2.2.2.2.2 hx
      refine g_aload_n C.1 0 dX4_counted_80 rfl rfl ?_
      obtain ⟨hp10, h⟩ := h
      refine c_callV C.1 C.2.2.2.1 C.2.2.2.2 (h_lettersThere K.l y σ hp10) (ci := 5) (q := (RX4, TX4, 10)) rfl (c_recv rfl ⟨rfl, rfl⟩) (fun ht => cwV 0 ht gX4_counted_X4_lettersThere rfl rfl rfl (by decide +kernel) ⟨Nat.le_of_ble_eq_true rfl, Nat.le_of_ble_eq_true rfl⟩) rfl rfl (Nat.le_of_ble_eq_true rfl) ⟨Nat.le_of_ble_eq_true rfl, Nat.le_of_ble_eq_true rfl⟩ dX4_counted_81 (fun r σ9 hq => ?_)
      rw [hq.1, hq.2]
      show G K (CL y σ) (0, 0) [(0, .ref (y.1 0 0 0)), (1, .int (iZ v1))] 84 [.int (iZ (f_lettersThere σ))]
      exact x_iret C.1 C.2.2.1 rfl ⟨Nat.le_of_ble_eq_true rfl, Nat.le_of_ble_eq_true rfl⟩ dX4_counted_84 h
theorem m_X4_counted {l : Launch} {y : LT} {σ : CS} {v1 : Int} {post : Int → CS → Prop} (h : ∀ K : KT, K.l = l → C_X4_counted K y post → P_X4_counted_0 K y σ v1) : cMet l yX4_counted wsX4_counted rm_X4_counted y.2.2 (CL y) rkI [.ref (y.1 0 0 0), .int (iZ v1)] σ post :=
  cMet.of (maxL := 2) (by decide +kernel) rfl (Nat.le_of_ble_eq_true rfl) (fun K h1 h2 h3 h4 h5 h6 _ => h K h1 ⟨h2, h3, h4, h5, h6⟩)
def H_X4_counted (p : CS → Int → Prop) (o : CS → Int → Int → CS → Prop) : Prop := ∀ (l : Launch) (y : LT) (σ : CS) (v1 : Int), p σ v1 → cMet l yX4_counted wsX4_counted rm_X4_counted y.2.2 (CL y) rkI [.ref (y.1 0 0 0), .int (iZ v1)] σ (fun r σ' => o σ v1 r σ')

/-! X4_count -/
abbrev rm_X4_count : Room := { frames := 7, cells := 1, slots := 6, locals := 184 }
set_option maxRecDepth 20000 in
theorem at_X4_count_100 : ∀ w ∈ (vx_atS RX4 100 "java/lang/IndexOutOfBoundsException" ["java/lang/RuntimeException", "java/lang/Exception"]).filter goodWord, w ∈ wsX4_count := fun w h => by
  unfold wsX4_count
  simp only [List.mem_cons, List.mem_append]
  simp only [h, or_true, true_or]
theorem lk_X4_count_cl96 : Cond.classLink RX4 96 "java/lang/IndexOutOfBoundsException" ∈ wsX4_count := List.mem_of_getElem? (i := 1) (by decide +kernel)
theorem lk_X4_count_ini_IndexOutOfBoundsException : Cond.initialized "java/lang/IndexOutOfBoundsException" ∈ wsX4_count := List.mem_of_getElem? (i := 2) (by decide +kernel)
def C_X4_count (K : KT) (y : LT) (post : Int → CS → Prop) (px : String → CS → Prop) : Prop := kOK K cX4_count RX4 wsX4_count (some .int) rm_X4_count ∧ K.nL = 2 ∧ kQX K (CL y) rkI post px rm_X4_count ∧ SF y.2.2 K.A K.s K.s.heap ∧ K.l.stackTraces = false ∧ kNX K
def P_X4_count_0 (K : KT) (y : LT) (σ : CS) (v1 : Int) : Prop := G K (CL y σ) (0, 0) [(0, .ref (y.1 0 0 0)), (1, .int (iZ v1))] 0 []
set_option maxRecDepth 100000 in
set_option maxHeartbeats 4000000 in
theorem b_X4_count_0 {K : KT} {y : LT} {post : Int → CS → Prop} {px : String → CS → Prop} (C : C_X4_count K y post px) {p_counted : CS → Int → Prop} {o_counted : CS → Int → Int → CS → Prop} (h_counted : H_X4_counted p_counted o_counted) {σ : CS} {v1 : Int} (h : (-2147483648 ≤ v1 ∧ v1 < 2147483648) ∧ ((v1 < 0 → px "java/lang/IndexOutOfBoundsException" σ) ∧ (¬ v1 < 0 → ((v1 < 8 → (p_counted σ v1) ∧ ∀ (r3 : Int) (σ4 : CS), o_counted σ v1 r3 σ4 → post r3 σ4) ∧ (¬ v1 < 8 → px "java/lang/IndexOutOfBoundsException" σ))))) : P_X4_count_0 K y σ v1 := by
  refine g_iload_n C.1 1 dX4_count_0 rfl rfl ?_
  obtain ⟨hc1, h⟩ := h
  refine g_if_lt C.1 (tgt := 10) dX4_count_1 (by decide) hc1 (fun hc => ?_) (fun hc => ?_)
  · have h := h.1 hc
    exact y_throw C.1 C.2.2.1 C.2.2.2.1 C.2.2.2.2.1 C.2.2.2.2.2 (E := "java/lang/IndexOutOfBoundsException") (text := "nothing of this kind is counted") (ik := 96) (is := 186) (ic := 100) (by decide +kernel) lk_X4_count_cl96 lk_X4_count_ini_IndexOutOfBoundsException (by decide +kernel) at_X4_count_100 (by decide +kernel) (by decide +kernel) (by decide +kernel) dX4_count_10 dX4_count_13 dX4_count_14 dX4_count_16 dX4_count_19 (Nat.le_of_ble_eq_true rfl) (Nat.le_of_ble_eq_true rfl) (Nat.le_of_ble_eq_true rfl) (Nat.le_of_ble_eq_true rfl) ⟨(Nat.le_of_ble_eq_true rfl), (Nat.le_of_ble_eq_true rfl)⟩ h
  · have h := h.2 hc
    refine g_iload_n C.1 1 dX4_count_4 rfl rfl ?_
    refine g_bipush C.1 (z := 8) dX4_count_5 (by decide) ?_
    refine g_icmp_lt C.1 (tgt := 20) dX4_count_7 (by decide) hc1 (by decide) (fun hc => ?_) (fun hc => ?_)
    · have h := h.1 hc
      refine g_aload_n C.1 0 dX4_count_20 rfl rfl ?_
      refine g_iload_n C.1 1 dX4_count_21 rfl rfl ?_
      obtain ⟨hp2, h⟩ := h
      refine c_callV C.1 C.2.2.2.1 C.2.2.2.2.1 (h_counted K.l y σ v1 hp2) (ci := 5) (q := (RX4, TX4, 10)) rfl (c_recv rfl ⟨rfl, rfl⟩) (fun ht => cwV 1 ht gX4_count_X4_counted rfl rfl rfl (by decide +kernel) ⟨Nat.le_of_ble_eq_true rfl, Nat.le_of_ble_eq_true rfl⟩) rfl rfl (Nat.le_of_ble_eq_true rfl) ⟨Nat.le_of_ble_eq_true rfl, Nat.le_of_ble_eq_true rfl⟩ dX4_count_22 (fun r3 σ4 hq => ?_)
      have h := h r3 σ4 hq
      show G K (CL y σ4) (0, 0) [(0, .ref (y.1 0 0 0)), (1, .int (iZ v1))] 25 [.int (iZ r3)]
      exact y_iret C.1 C.2.2.1 rfl ⟨Nat.le_of_ble_eq_true rfl, Nat.le_of_ble_eq_true rfl⟩ dX4_count_25 h
    · have h := h.2 hc
      exact y_throw C.1 C.2.2.1 C.2.2.2.1 C.2.2.2.2.1 C.2.2.2.2.2 (E := "java/lang/IndexOutOfBoundsException") (text := "nothing of this kind is counted") (ik := 96) (is := 186) (ic := 100) (by decide +kernel) lk_X4_count_cl96 lk_X4_count_ini_IndexOutOfBoundsException (by decide +kernel) at_X4_count_100 (by decide +kernel) (by decide +kernel) (by decide +kernel) dX4_count_10 dX4_count_13 dX4_count_14 dX4_count_16 dX4_count_19 (Nat.le_of_ble_eq_true rfl) (Nat.le_of_ble_eq_true rfl) (Nat.le_of_ble_eq_true rfl) (Nat.le_of_ble_eq_true rfl) ⟨(Nat.le_of_ble_eq_true rfl), (Nat.le_of_ble_eq_true rfl)⟩ h
theorem m_X4_count {l : Launch} {y : LT} {σ : CS} {v1 : Int} {post : Int → CS → Prop} {px : String → CS → Prop} (h : ∀ K : KT, K.l = l → C_X4_count K y post px → P_X4_count_0 K y σ v1) : vMet l yX4_count wsX4_count rm_X4_count y.2.2 (CL y) rkI [.ref (y.1 0 0 0), .int (iZ v1)] σ post px :=
  vMet.of (maxL := 2) (by decide +kernel) rfl (Nat.le_of_ble_eq_true rfl) (fun K h1 h2 h3 h4 h5 h6 h7 => h K h1 ⟨h2, h3, h4, h5, h6, h7⟩)
def H_X4_count (p : CS → Int → Prop) (o : CS → Int → Int → CS → Prop) (x : CS → Int → String → CS → Prop) : Prop := ∀ (l : Launch) (y : LT) (σ : CS) (v1 : Int), p σ v1 → vMet l yX4_count wsX4_count rm_X4_count y.2.2 (CL y) rkI [.ref (y.1 0 0 0), .int (iZ v1)] σ (fun r σ' => o σ v1 r σ') (x σ v1)

/-! X4_digest -/
abbrev rm_X4_digest : Room := { frames := 7, cells := 0, slots := 0, locals := 184 }
set_option maxRecDepth 20000 in
theorem inX4_digest_X4 : ∀ w ∈ wsX40, w ∈ wsX4_digest := by decide +kernel
set_option maxRecDepth 20000 in
theorem inX4_digest_X3 : ∀ w ∈ wsX30, w ∈ wsX4_digest := by decide +kernel
theorem lk_X4_digest_k238 : Cond.constantLong RX4 238 (491) ∈ wsX4_digest := List.mem_of_getElem? (i := 1) (by decide +kernel)
theorem lk_X4_digest_f24 : Cond.fieldLink RX4 24 "CopyHouse" "scribes" "Ljava/util/ArrayList;" ∈ wsX4_digest := List.mem_of_getElem? (i := 2) (by decide +kernel)
theorem lk_X4_digest_cc107 : Cond.classLink RX4 107 "CopyHouse$Scribe" ∈ wsX4_digest := List.mem_of_getElem? (i := 3) (by decide +kernel)
theorem lk_X4_digest_f20 : Cond.fieldLink RX4 20 "CopyHouse" "manuscripts" "Ljava/util/ArrayList;" ∈ wsX4_digest := List.mem_of_getElem? (i := 4) (by decide +kernel)
theorem lk_X4_digest_f42 : Cond.fieldLink RX4 42 "CopyHouse" "voted" "LCopyHouse$Text;" ∈ wsX4_digest := List.mem_of_getElem? (i := 6) (by decide +kernel)
theorem lk_X4_digest_f93 : Cond.fieldLink RX4 93 "CopyHouse$Text" "length" "I" ∈ wsX4_digest := List.mem_of_getElem? (i := 7) (by decide +kernel)
theorem lk_X4_digest_cc89 : Cond.classLink RX4 89 "CopyHouse$Manuscript" ∈ wsX4_digest := List.mem_of_getElem? (i := 5) (by decide +kernel)
def C_X4_digest (K : KT) (y : LT) (post : Int → CS → Prop) : Prop := kOK K cX4_digest RX4 wsX4_digest (some .long) rm_X4_digest ∧ K.nL = 4 ∧ kQ K (CL y) rkL post rm_X4_digest ∧ SF y.2.2 K.A K.s K.s.heap ∧ K.l.stackTraces = false
def P_X4_digest_0 (K : KT) (y : LT) (σ : CS) : Prop := G K (CL y σ) (0, 0) [(0, .ref (y.1 0 0 0))] 0 []
def P_X4_digest_1 (K : KT) (y : LT) (σ : CS) (v1 v3 : Int) : Prop := G K (CL y σ) (0, 0) [(0, .ref (y.1 0 0 0)), (1, .long (lZ v1)), (3, .int (iZ v3))] 6 []
def P_X4_digest_2 (K : KT) (y : LT) (σ : CS) (v1 v3 : Int) : Prop := G K (CL y σ) (0, 0) [(0, .ref (y.1 0 0 0)), (1, .long (lZ v1)), (3, .int (iZ v3))] 30 []
def P_X4_digest_3 (K : KT) (y : LT) (σ : CS) (v1 v3 : Int) : Prop := G K (CL y σ) (0, 0) [(0, .ref (y.1 0 0 0)), (1, .long (lZ v1)), (3, .int (iZ v3))] 65 []
set_option maxRecDepth 100000 in
set_option maxHeartbeats 4000000 in
theorem b_X4_digest_0 {K : KT} {y : LT} {post : Int → CS → Prop} (C : C_X4_digest K y post) {σ : CS} (h : P_X4_digest_1 K y σ 491 0) : P_X4_digest_0 K y σ := by
  refine g_ldc2 C.1 (x := 491) rfl lk_X4_digest_k238 dX4_digest_0 ?_
  refine g_lstore_n C.1 (i := 1) (loc' := [(1, .long (lZ 491)), (0, .ref (y.1 0 0 0))]) C.2.1 dX4_digest_3 rfl (by decide) rfl ?_
  refine g_iconst C.1 (z := 0) dX4_digest_4 ?_
  refine g_istore_n C.1 (i := 3) (loc' := [(3, .int (iZ 0)), (1, .long (lZ 491)), (0, .ref (y.1 0 0 0))]) C.2.1 dX4_digest_5 rfl (by decide) rfl ?_
  exact g_sub [2, 1, 0] rfl h
set_option maxRecDepth 100000 in
set_option maxHeartbeats 4000000 in
theorem b_X4_digest_1 {K : KT} {y : LT} {post : Int → CS → Prop} (C : C_X4_digest K y post) {p_counted : CS → Int → Prop} {o_counted : CS → Int → Int → CS → Prop} (h_counted : H_X4_counted p_counted o_counted) {p_mixed : CS → Int → Int → Prop} {f_mixed : CS → Int → Int → Int} (h_mixed : H_X4_mixed p_mixed f_mixed) {σ : CS} {v1 v3 : Int} (h : (-2147483648 ≤ v3 ∧ v3 < 2147483648) ∧ ((8 ≤ v3 → P_X4_digest_2 K y σ v1 0) ∧ (¬ 8 ≤ v3 → (p_counted σ v3) ∧ ∀ (r3 : Int) (σ4 : CS), o_counted σ v3 r3 σ4 → (p_mixed σ4 v1 r3) ∧ P_X4_digest_1 K y σ4 (f_mixed σ4 v1 r3) (v3 + 1)))) : P_X4_digest_1 K y σ v1 v3 := by
  refine g_iload_n C.1 2 dX4_digest_6 rfl rfl ?_
  refine g_bipush C.1 (z := 8) dX4_digest_7 (by decide) ?_
  obtain ⟨hc1, h⟩ := h
  refine g_icmp_ge C.1 (tgt := 28) dX4_digest_9 (by decide) hc1 (by decide) (fun hc => ?_) (fun hc => ?_)
  · have h := h.1 hc
    refine g_iconst C.1 (z := 0) dX4_digest_28 ?_
    refine g_istore_n C.1 (i := 3) (loc' := [(3, .int (iZ 0)), (0, .ref (y.1 0 0 0)), (1, .long (lZ v1))]) C.2.1 dX4_digest_29 rfl (by decide) rfl ?_
    exact g_sub [1, 2, 0] rfl h
  · have h := h.2 hc
    refine g_lload_n C.1 1 dX4_digest_12 rfl rfl ?_
    refine g_aload_n C.1 0 dX4_digest_13 rfl rfl ?_
    refine g_iload_n C.1 2 dX4_digest_14 rfl rfl ?_
    obtain ⟨hp2, h⟩ := h
    refine c_callV C.1 C.2.2.2.1 C.2.2.2.2 (h_counted K.l y σ v3 hp2) (ci := 5) (q := (RX4, TX4, 10)) rfl (c_recv rfl ⟨rfl, rfl⟩) (fun ht => cwV 1 ht gX4_digest_X4_counted rfl rfl rfl (by decide +kernel) ⟨Nat.le_of_ble_eq_true rfl, Nat.le_of_ble_eq_true rfl⟩) rfl rfl (Nat.le_of_ble_eq_true rfl) ⟨Nat.le_of_ble_eq_true rfl, Nat.le_of_ble_eq_true rfl⟩ dX4_digest_15 (fun r3 σ4 hq => ?_)
    have h := h r3 σ4 hq
    show G K (CL y σ4) (0, 0) [(0, .ref (y.1 0 0 0)), (1, .long (lZ v1)), (3, .int (iZ v3))] 18 [.int (iZ r3), .long (lZ v1)]
    obtain ⟨hp5, h⟩ := h
    refine c_callS C.1 C.2.2.2.1 C.2.2.2.2 (h_mixed K.l y σ4 v1 r3 hp5) (fun ht => va_cwS 2 ht gX4_digest_X4_mixed rfl rfl rfl (by decide +kernel) ⟨Nat.le_of_ble_eq_true rfl, Nat.le_of_ble_eq_true rfl⟩) rfl rfl (Nat.le_of_ble_eq_true rfl) ⟨Nat.le_of_ble_eq_true rfl, Nat.le_of_ble_eq_true rfl⟩ dX4_digest_18 (fun r σ9 hq => ?_)
    rw [hq.1, hq.2]
    show G K (CL y σ4) (0, 0) [(0, .ref (y.1 0 0 0)), (1, .long (lZ v1)), (3, .int (iZ v3))] 21 [.long (lZ (f_mixed σ4 v1 r3))]
    refine g_lstore_n C.1 (i := 1) (loc' := [(1, .long (lZ (f_mixed σ4 v1 r3))), (0, .ref (y.1 0 0 0)), (3, .int (iZ v3))]) C.2.1 dX4_digest_21 rfl (by decide) rfl ?_
    refine g_iinc C.1 (z := v3) (w := 1) (loc' := [(3, .int (iZ (v3 + 1))), (1, .long (lZ (f_mixed σ4 v1 r3))), (0, .ref (y.1 0 0 0))]) 2 C.2.1 dX4_digest_22 rfl (by decide) rfl ?_
    refine g_goto C.1 (tgt := 6) dX4_digest_25 (by decide) ?_
    exact g_sub [2, 1, 0] rfl h
set_option maxRecDepth 100000 in
set_option maxHeartbeats 4000000 in
theorem b_X4_digest_2 {K : KT} {y : LT} {post : Int → CS → Prop} (C : C_X4_digest K y post) {p_sizeS : CS → Prop} {f_sizeS : CS → Int} (h_sizeS : H_sizeS p_sizeS f_sizeS) {p_getS : CS → Int → Prop} (h_getS : H_getS p_getS) {p_scribeMixed : CS → Int → Int → Prop} {f_scribeMixed : CS → Int → Int → Int} (h_scribeMixed : H_X4_scribeMixed p_scribeMixed f_scribeMixed) {σ : CS} {v1 v3 : Int} (h : (p_sizeS σ) ∧ (-2147483648 ≤ v3 ∧ v3 < 2147483648) ∧ (-2147483648 ≤ (f_sizeS σ) ∧ (f_sizeS σ) < 2147483648) ∧ (((f_sizeS σ) ≤ v3 → P_X4_digest_3 K y σ v1 0) ∧ (¬ (f_sizeS σ) ≤ v3 → (p_getS σ v3) ∧ (0 ≤ v3 ∧ v3 < (σ 22 0 0 0)) ∧ (p_scribeMixed σ v1 v3) ∧ P_X4_digest_2 K y σ (f_scribeMixed σ v1 v3) (v3 + 1)))) : P_X4_digest_2 K y σ v1 v3 := by
  refine g_iload_n C.1 2 dX4_digest_30 rfl rfl ?_
  refine g_aload_n C.1 0 dX4_digest_31 rfl rfl ?_
  refine c_get C.1 (ci := 5) (q := (RX4, TX4, 10)) rfl rfl inX4_digest_X4 3 (by decide) (v := .ref (y.1 4 0 0)) rfl lk_X4_digest_f24 rfl dX4_digest_32 ⟨rfl, rfl⟩ ?_
  obtain ⟨hp1, h⟩ := h
  refine c_callV C.1 C.2.2.2.1 C.2.2.2.2 (h_sizeS K.l y σ hp1) (ci := 0) (q := (RJx4a65c, TJx4a65c, 3)) rfl (c_recv rfl ⟨rfl, rfl⟩) (fun ht => cwV 0 ht gX4_digest_Jx4a65c_size_8abf5 rfl rfl rfl (by decide +kernel) ⟨Nat.le_of_ble_eq_true rfl, Nat.le_of_ble_eq_true rfl⟩) rfl rfl (Nat.le_of_ble_eq_true rfl) ⟨Nat.le_of_ble_eq_true rfl, Nat.le_of_ble_eq_true rfl⟩ dX4_digest_35 (fun r σ9 hq => ?_)
  rw [hq.1, hq.2]
  show G K (CL y σ) (0, 0) [(0, .ref (y.1 0 0 0)), (1, .long (lZ v1)), (3, .int (iZ v3))] 38 [.int (iZ (f_sizeS σ)), .int (iZ v3)]
  obtain ⟨hc2, h⟩ := h
  obtain ⟨hc3, h⟩ := h
  refine g_icmp_ge C.1 (tgt := 63) dX4_digest_38 (by decide) hc2 hc3 (fun hc => ?_) (fun hc => ?_)
  · have h := h.1 hc
    refine g_iconst C.1 (z := 0) dX4_digest_63 ?_
    refine g_istore_n C.1 (i := 3) (loc' := [(3, .int (iZ 0)), (0, .ref (y.1 0 0 0)), (1, .long (lZ v1))]) C.2.1 dX4_digest_64 rfl (by decide) rfl ?_
    exact g_sub [1, 2, 0] rfl h
  · have h := h.2 hc
    refine g_lload_n C.1 1 dX4_digest_41 rfl rfl ?_
    refine g_aload_n C.1 0 dX4_digest_42 rfl rfl ?_
    refine c_get C.1 (ci := 5) (q := (RX4, TX4, 10)) rfl rfl inX4_digest_X4 3 (by decide) (v := .ref (y.1 4 0 0)) rfl lk_X4_digest_f24 rfl dX4_digest_43 ⟨rfl, rfl⟩ ?_
    refine g_iload_n C.1 2 dX4_digest_46 rfl rfl ?_
    obtain ⟨hp4, h⟩ := h
    refine c_callV C.1 C.2.2.2.1 C.2.2.2.2 (h_getS K.l y σ v3 hp4) (ci := 0) (q := (RJx4a65c, TJx4a65c, 3)) rfl (c_recv rfl ⟨rfl, rfl⟩) (fun ht => cwV 1 ht gX4_digest_Jx4a65c_get_915e3 rfl rfl rfl (by decide +kernel) ⟨Nat.le_of_ble_eq_true rfl, Nat.le_of_ble_eq_true rfl⟩) rfl rfl (Nat.le_of_ble_eq_true rfl) ⟨Nat.le_of_ble_eq_true rfl, Nat.le_of_ble_eq_true rfl⟩ dX4_digest_47 (fun r σ9 hq => ?_)
    rw [hq.1, hq.2]
    show G K (CL y σ) (0, 0) [(0, .ref (y.1 0 0 0)), (1, .long (lZ v1)), (3, .int (iZ v3))] 50 [.ref (y.1 13 v3 0), .long (lZ v1)]
    obtain ⟨hd5, h⟩ := h
    refine c_cast C.1 C.2.2.2.1 (ci := 3) (q := (RX2, TX2, 1)) rfl rfl (by decide +kernel) lk_X4_digest_cc107 dX4_digest_50 ⟨hd5.1, hd5.2, rfl⟩ ?_
    obtain ⟨hp6, h⟩ := h
    refine c_callS C.1 C.2.2.2.1 C.2.2.2.2 (h_scribeMixed K.l y σ v1 v3 hp6) (fun ht => va_cwS 2 ht gX4_digest_X4_scribeMixed rfl rfl rfl (by decide +kernel) ⟨Nat.le_of_ble_eq_true rfl, Nat.le_of_ble_eq_true rfl⟩) rfl rfl (Nat.le_of_ble_eq_true rfl) ⟨Nat.le_of_ble_eq_true rfl, Nat.le_of_ble_eq_true rfl⟩ dX4_digest_53 (fun r σ9 hq => ?_)
    rw [hq.1, hq.2]
    show G K (CL y σ) (0, 0) [(0, .ref (y.1 0 0 0)), (1, .long (lZ v1)), (3, .int (iZ v3))] 56 [.long (lZ (f_scribeMixed σ v1 v3))]
    refine g_lstore_n C.1 (i := 1) (loc' := [(1, .long (lZ (f_scribeMixed σ v1 v3))), (0, .ref (y.1 0 0 0)), (3, .int (iZ v3))]) C.2.1 dX4_digest_56 rfl (by decide) rfl ?_
    refine g_iinc C.1 (z := v3) (w := 1) (loc' := [(3, .int (iZ (v3 + 1))), (1, .long (lZ (f_scribeMixed σ v1 v3))), (0, .ref (y.1 0 0 0))]) 2 C.2.1 dX4_digest_57 rfl (by decide) rfl ?_
    refine g_goto C.1 (tgt := 30) dX4_digest_60 (by decide) ?_
    exact g_sub [2, 1, 0] rfl h
set_option maxRecDepth 100000 in
set_option maxHeartbeats 4000000 in
theorem b_X4_digest_3 {K : KT} {y : LT} {post : Int → CS → Prop} (C : C_X4_digest K y post) {p_sizeM : CS → Prop} {f_sizeM : CS → Int} (h_sizeM : H_sizeM p_sizeM f_sizeM) {p_voteText : CS → Prop} {o_voteText : CS → Int → CS → Prop} (h_voteText : H_X4_voteText p_voteText o_voteText) {p_mixed : CS → Int → Int → Prop} {f_mixed : CS → Int → Int → Int} (h_mixed : H_X4_mixed p_mixed f_mixed) {p_textMixed : CS → Int → Int → Prop} {f_textMixed : CS → Int → Int → Int} (h_textMixed : H_X4_textMixed p_textMixed f_textMixed) {p_getM : CS → Int → Prop} (h_getM : H_getM p_getM) {p_manuscriptMixed : CS → Int → Int → Prop} {o_manuscriptMixed : CS → Int → Int → Int → CS → Prop} (h_manuscriptMixed : H_X4_manuscriptMixed p_manuscriptMixed o_manuscriptMixed) {σ : CS} {v1 v3 : Int} (h : (p_sizeM σ) ∧ (-2147483648 ≤ v3 ∧ v3 < 2147483648) ∧ (-2147483648 ≤ (f_sizeM σ) ∧ (f_sizeM σ) < 2147483648) ∧ (((f_sizeM σ) ≤ v3 → (p_voteText σ) ∧ ∀ (r5 : Int) (σ6 : CS), o_voteText σ r5 σ6 → (0 ≤ (σ6 21 0 0 0)) ∧ (p_mixed σ6 v1 (σ6 5 2 0 0)) ∧ (p_textMixed σ6 (f_mixed σ6 v1 (σ6 5 2 0 0)) 2) ∧ post (f_textMixed σ6 (f_mixed σ6 v1 (σ6 5 2 0 0)) 2) σ6) ∧ (¬ (f_sizeM σ) ≤ v3 → (p_getM σ v3) ∧ (0 ≤ v3 ∧ v3 < (σ 21 0 0 0)) ∧ (p_manuscriptMixed σ v1 v3) ∧ ∀ (r13 : Int) (σ14 : CS), o_manuscriptMixed σ v1 v3 r13 σ14 → P_X4_digest_3 K y σ14 r13 (v3 + 1)))) : P_X4_digest_3 K y σ v1 v3 := by
  refine g_iload_n C.1 2 dX4_digest_65 rfl rfl ?_
  refine g_aload_n C.1 0 dX4_digest_66 rfl rfl ?_
  refine c_get C.1 (ci := 5) (q := (RX4, TX4, 10)) rfl rfl inX4_digest_X4 2 (by decide) (v := .ref (y.1 2 0 0)) rfl lk_X4_digest_f20 rfl dX4_digest_67 ⟨rfl, rfl⟩ ?_
  obtain ⟨hp1, h⟩ := h
  refine c_callV C.1 C.2.2.2.1 C.2.2.2.2 (h_sizeM K.l y σ hp1) (ci := 0) (q := (RJx4a65c, TJx4a65c, 3)) rfl (c_recv rfl ⟨rfl, rfl⟩) (fun ht => cwV 0 ht gX4_digest_Jx4a65c_size_8abf5 rfl rfl rfl (by decide +kernel) ⟨Nat.le_of_ble_eq_true rfl, Nat.le_of_ble_eq_true rfl⟩) rfl rfl (Nat.le_of_ble_eq_true rfl) ⟨Nat.le_of_ble_eq_true rfl, Nat.le_of_ble_eq_true rfl⟩ dX4_digest_70 (fun r σ9 hq => ?_)
  rw [hq.1, hq.2]
  show G K (CL y σ) (0, 0) [(0, .ref (y.1 0 0 0)), (1, .long (lZ v1)), (3, .int (iZ v3))] 73 [.int (iZ (f_sizeM σ)), .int (iZ v3)]
  obtain ⟨hc2, h⟩ := h
  obtain ⟨hc3, h⟩ := h
  refine g_icmp_ge C.1 (tgt := 99) dX4_digest_73 (by decide) hc2 hc3 (fun hc => ?_) (fun hc => ?_)
  · have h := h.1 hc
    refine g_aload_n C.1 0 dX4_digest_99 rfl rfl ?_
    obtain ⟨hp4, h⟩ := h
    refine c_callV C.1 C.2.2.2.1 C.2.2.2.2 (h_voteText K.l y σ hp4) (ci := 5) (q := (RX4, TX4, 10)) rfl (c_recv rfl ⟨rfl, rfl⟩) (fun ht => cwV 0 ht gX4_digest_X4_voteText rfl rfl rfl (by decide +kernel) ⟨Nat.le_of_ble_eq_true rfl, Nat.le_of_ble_eq_true rfl⟩) rfl rfl (Nat.le_of_ble_eq_true rfl) ⟨Nat.le_of_ble_eq_true rfl, Nat.le_of_ble_eq_true rfl⟩ dX4_digest_100 (fun r5 σ6 hq => ?_)
    have h := h r5 σ6 hq
    show G K (CL y σ6) (0, 0) [(0, .ref (y.1 0 0 0)), (1, .long (lZ v1)), (3, .int (iZ v3))] 103 []
    refine g_lload_n C.1 1 dX4_digest_103 rfl rfl ?_
    refine g_aload_n C.1 0 dX4_digest_104 rfl rfl ?_
    refine c_get C.1 (ci := 5) (q := (RX4, TX4, 10)) rfl rfl inX4_digest_X4 7 (by decide) (v := .ref (y.1 8 2 0)) rfl lk_X4_digest_f42 rfl dX4_digest_105 ⟨rfl, rfl⟩ ?_
    obtain ⟨hn7, h⟩ := h
    refine c_get C.1 (ci := 4) (q := (RX3, TX3, 2)) rfl rfl inX4_digest_X3 1 (by decide) (v := .int (iZ (σ6 5 2 0 0))) rfl lk_X4_digest_f93 rfl dX4_digest_108 ⟨by decide, by omega, rfl⟩ ?_
    obtain ⟨hp8, h⟩ := h
    refine c_callS C.1 C.2.2.2.1 C.2.2.2.2 (h_mixed K.l y σ6 v1 (σ6 5 2 0 0) hp8) (fun ht => va_cwS 2 ht gX4_digest_X4_mixed rfl rfl rfl (by decide +kernel) ⟨Nat.le_of_ble_eq_true rfl, Nat.le_of_ble_eq_true rfl⟩) rfl rfl (Nat.le_of_ble_eq_true rfl) ⟨Nat.le_of_ble_eq_true rfl, Nat.le_of_ble_eq_true rfl⟩ dX4_digest_111 (fun r σ9 hq => ?_)
    rw [hq.1, hq.2]
    show G K (CL y σ6) (0, 0) [(0, .ref (y.1 0 0 0)), (1, .long (lZ v1)), (3, .int (iZ v3))] 114 [.long (lZ (f_mixed σ6 v1 (σ6 5 2 0 0)))]
    refine g_lstore_n C.1 (i := 1) (loc' := [(1, .long (lZ (f_mixed σ6 v1 (σ6 5 2 0 0)))), (0, .ref (y.1 0 0 0)), (3, .int (iZ v3))]) C.2.1 dX4_digest_114 rfl (by decide) rfl ?_
    refine g_lload_n C.1 0 dX4_digest_115 rfl rfl ?_
    refine g_aload_n C.1 1 dX4_digest_116 rfl rfl ?_
    refine c_get C.1 (ci := 5) (q := (RX4, TX4, 10)) rfl rfl inX4_digest_X4 7 (by decide) (v := .ref (y.1 8 2 0)) rfl lk_X4_digest_f42 rfl dX4_digest_117 ⟨rfl, rfl⟩ ?_
    obtain ⟨hp9, h⟩ := h
    refine c_callS C.1 C.2.2.2.1 C.2.2.2.2 (h_textMixed K.l y σ6 (f_mixed σ6 v1 (σ6 5 2 0 0)) 2 hp9) (fun ht => va_cwS 2 ht gX4_digest_X4_textMixed rfl rfl rfl (by decide +kernel) ⟨Nat.le_of_ble_eq_true rfl, Nat.le_of_ble_eq_true rfl⟩) rfl rfl (Nat.le_of_ble_eq_true rfl) ⟨Nat.le_of_ble_eq_true rfl, Nat.le_of_ble_eq_true rfl⟩ dX4_digest_120 (fun r σ9 hq => ?_)
    rw [hq.1, hq.2]
    show G K (CL y σ6) (0, 0) [(1, .long (lZ (f_mixed σ6 v1 (σ6 5 2 0 0)))), (0, .ref (y.1 0 0 0)), (3, .int (iZ v3))] 123 [.long (lZ (f_textMixed σ6 (f_mixed σ6 v1 (σ6 5 2 0 0)) 2))]
    exact x_lret C.1 C.2.2.1 rfl ⟨Nat.le_of_ble_eq_true rfl, Nat.le_of_ble_eq_true rfl⟩ dX4_digest_123 h
  · have h := h.2 hc
    refine g_aload_n C.1 0 dX4_digest_76 rfl rfl ?_
    refine g_lload_n C.1 1 dX4_digest_77 rfl rfl ?_
    refine g_aload_n C.1 0 dX4_digest_78 rfl rfl ?_
    refine c_get C.1 (ci := 5) (q := (RX4, TX4, 10)) rfl rfl inX4_digest_X4 2 (by decide) (v := .ref (y.1 2 0 0)) rfl lk_X4_digest_f20 rfl dX4_digest_79 ⟨rfl, rfl⟩ ?_
    refine g_iload_n C.1 2 dX4_digest_82 rfl rfl ?_
    obtain ⟨hp10, h⟩ := h
    refine c_callV C.1 C.2.2.2.1 C.2.2.2.2 (h_getM K.l y σ v3 hp10) (ci := 0) (q := (RJx4a65c, TJx4a65c, 3)) rfl (c_recv rfl ⟨rfl, rfl⟩) (fun ht => cwV 1 ht gX4_digest_Jx4a65c_get_915e3 rfl rfl rfl (by decide +kernel) ⟨Nat.le_of_ble_eq_true rfl, Nat.le_of_ble_eq_true rfl⟩) rfl rfl (Nat.le_of_ble_eq_true rfl) ⟨Nat.le_of_ble_eq_true rfl, Nat.le_of_ble_eq_true rfl⟩ dX4_digest_83 (fun r σ9 hq => ?_)
    rw [hq.1, hq.2]
    show G K (CL y σ) (0, 0) [(0, .ref (y.1 0 0 0)), (1, .long (lZ v1)), (3, .int (iZ v3))] 86 [vM y v3, .long (lZ v1), .ref (y.1 0 0 0)]
    obtain ⟨hd11, h⟩ := h
    refine c_atM hd11.1 ?_
    refine c_cast C.1 C.2.2.2.1 (ci := 2) (q := (RX1, TX1, 6)) rfl rfl (by decide +kernel) lk_X4_digest_cc89 dX4_digest_86 ⟨hd11.1, hd11.2, rfl⟩ ?_
    refine c_toM hd11.1 ?_
    obtain ⟨hp12, h⟩ := h
    refine c_callV C.1 C.2.2.2.1 C.2.2.2.2 (h_manuscriptMixed K.l y σ v1 v3 hp12) (ci := 5) (q := (RX4, TX4, 10)) rfl (c_recv rfl ⟨rfl, rfl⟩) (fun ht => cwV 2 ht gX4_digest_X4_manuscriptMixed rfl rfl rfl (by decide +kernel) ⟨Nat.le_of_ble_eq_true rfl, Nat.le_of_ble_eq_true rfl⟩) rfl rfl (Nat.le_of_ble_eq_true rfl) ⟨Nat.le_of_ble_eq_true rfl, Nat.le_of_ble_eq_true rfl⟩ dX4_digest_89 (fun r13 σ14 hq => ?_)
    have h := h r13 σ14 hq
    show G K (CL y σ14) (0, 0) [(0, .ref (y.1 0 0 0)), (1, .long (lZ v1)), (3, .int (iZ v3))] 92 [.long (lZ r13)]
    refine g_lstore_n C.1 (i := 1) (loc' := [(1, .long (lZ r13)), (0, .ref (y.1 0 0 0)), (3, .int (iZ v3))]) C.2.1 dX4_digest_92 rfl (by decide) rfl ?_
    refine g_iinc C.1 (z := v3) (w := 1) (loc' := [(3, .int (iZ (v3 + 1))), (1, .long (lZ r13)), (0, .ref (y.1 0 0 0))]) 2 C.2.1 dX4_digest_93 rfl (by decide) rfl ?_
    refine g_goto C.1 (tgt := 65) dX4_digest_96 (by decide) ?_
    exact g_sub [2, 1, 0] rfl h
theorem m_X4_digest {l : Launch} {y : LT} {σ : CS} {post : Int → CS → Prop} (h : ∀ K : KT, K.l = l → C_X4_digest K y post → P_X4_digest_0 K y σ) : cMet l yX4_digest wsX4_digest rm_X4_digest y.2.2 (CL y) rkL [.ref (y.1 0 0 0)] σ post :=
  cMet.of (maxL := 4) (by decide +kernel) rfl (Nat.le_of_ble_eq_true rfl) (fun K h1 h2 h3 h4 h5 h6 _ => h K h1 ⟨h2, h3, h4, h5, h6⟩)
def H_X4_digest (p : CS → Prop) (o : CS → Int → CS → Prop) : Prop := ∀ (l : Launch) (y : LT) (σ : CS), p σ → cMet l yX4_digest wsX4_digest rm_X4_digest y.2.2 (CL y) rkL [.ref (y.1 0 0 0)] σ (fun r σ' => o σ r σ')
