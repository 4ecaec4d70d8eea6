/-! X4_feed -/
abbrev rm_X4_feed : Room := { frames := 6, cells := 1, slots := 6, locals := 100 }
set_option maxRecDepth 20000 in
theorem inX4_feed_X4 : ∀ w ∈ wsX40, w ∈ wsX4_feed := by decide +kernel
set_option maxRecDepth 20000 in
theorem at_X4_feed_55 : ∀ w ∈ (vx_atS RX4 55 "java/lang/IllegalStateException" ["java/lang/RuntimeException", "java/lang/Exception"]).filter goodWord, w ∈ wsX4_feed := fun w h => by
  unfold wsX4_feed
  simp only [List.mem_cons, List.mem_append]
  simp only [h, or_true, true_or]
theorem lk_X4_feed_f13 : Cond.fieldLink RX4 13 "CopyHouse" "tapeLength" "I" ∈ wsX4_feed := List.mem_of_getElem? (i := 3) (by decide +kernel)
theorem lk_X4_feed_cl51 : Cond.classLink RX4 51 "java/lang/IllegalStateException" ∈ wsX4_feed := List.mem_of_getElem? (i := 1) (by decide +kernel)
theorem lk_X4_feed_ini_IllegalStateException : Cond.initialized "java/lang/IllegalStateException" ∈ wsX4_feed := List.mem_of_getElem? (i := 2) (by decide +kernel)
def C_X4_feed (K : KT) (y : LT) (post : Int → CS → Prop) (px : String → CS → Prop) : Prop := kOK K cX4_feed RX4 wsX4_feed (some .int) rm_X4_feed ∧ K.nL = 6 ∧ kQX K (CL y) rkI post px rm_X4_feed ∧ SF y.2.2 K.A K.s K.s.heap ∧ K.l.stackTraces = false ∧ kNX K
def P_X4_feed_0 (K : KT) (y : LT) (σ : CS) (v1 v2 v3 v4 v5 : Int) : Prop := G K (CL y σ) (0, 0) [(0, .ref (y.1 0 0 0)), (1, .int (iZ v1)), (2, .int (iZ v2)), (3, .int (iZ v3)), (4, .int (iZ v4)), (5, .int (iZ v5))] 0 []
set_option maxRecDepth 100000 in
set_option maxHeartbeats 4000000 in
theorem b_X4_feed_0 {K : KT} {y : LT} {post : Int → CS → Prop} {px : String → CS → Prop} (C : C_X4_feed K y post px) {p_feedNumber : CS → Int → Prop} {o_feedNumber : CS → Int → Int → CS → Prop} (h_feedNumber : H_X4_feedNumber p_feedNumber o_feedNumber) {σ : CS} {v1 v2 v3 v4 v5 : Int} (h : (-2147483648 ≤ (σ 0 0 0 0) ∧ (σ 0 0 0 0) < 2147483648) ∧ (((σ 0 0 0 0) ≤ 40 → (p_feedNumber σ v1) ∧ ∀ (r3 : Int) (σ4 : CS), o_feedNumber σ v1 r3 σ4 → (p_feedNumber σ4 v2) ∧ ∀ (r6 : Int) (σ7 : CS), o_feedNumber σ4 v2 r6 σ7 → (p_feedNumber σ7 v3) ∧ ∀ (r9 : Int) (σ10 : CS), o_feedNumber σ7 v3 r9 σ10 → (p_feedNumber σ10 v4) ∧ ∀ (r12 : Int) (σ13 : CS), o_feedNumber σ10 v4 r12 σ13 → (p_feedNumber σ13 v5) ∧ ∀ (r15 : Int) (σ16 : CS), o_feedNumber σ13 v5 r15 σ16 → post (σ16 0 0 0 0) σ16) ∧ (¬ (σ 0 0 0 0) ≤ 40 → px "java/lang/IllegalStateException" σ))) : P_X4_feed_0 K y σ v1 v2 v3 v4 v5 := by
  refine g_aload_n C.1 0 dX4_feed_0 rfl rfl ?_
  refine c_get C.1 (ci := 5) (q := (RX4, TX4, 10)) rfl rfl inX4_feed_X4 1 (by decide) (v := .int (iZ (σ 0 0 0 0))) rfl lk_X4_feed_f13 rfl dX4_feed_1 ⟨rfl, rfl⟩ ?_
  refine g_bipush C.1 (z := 40) dX4_feed_4 (by decide) ?_
  obtain ⟨hc1, h⟩ := h
  refine g_icmp_le C.1 (tgt := 19) dX4_feed_6 (by decide) hc1 (by decide) (fun hc => ?_) (fun hc => ?_)
  · have h := h.1 hc
    refine g_aload_n C.1 0 dX4_feed_19 rfl rfl ?_
    refine g_iload_n C.1 1 dX4_feed_20 rfl rfl ?_
    obtain ⟨hp2, h⟩ := h
    refine c_callV C.1 C.2.2.2.1 C.2.2.2.2.1 (h_feedNumber K.l y σ v1 hp2) (ci := 5) (q := (RX4, TX4, 10)) rfl (c_recv rfl ⟨rfl, rfl⟩) (fun ht => cwV 1 ht gX4_feed_X4_feedNumber rfl rfl rfl (by decide +kernel) ⟨Nat.le_of_ble_eq_true rfl, Nat.le_of_ble_eq_true rfl⟩) rfl rfl (Nat.le_of_ble_eq_true rfl) ⟨Nat.le_of_ble_eq_true rfl, Nat.le_of_ble_eq_true rfl⟩ dX4_feed_21 (fun r3 σ4 hq => ?_)
    have h := h r3 σ4 hq
    show G K (CL y σ4) (0, 0) [(0, .ref (y.1 0 0 0)), (1, .int (iZ v1)), (2, .int (iZ v2)), (3, .int (iZ v3)), (4, .int (iZ v4)), (5, .int (iZ v5))] 24 []
    refine g_aload_n C.1 0 dX4_feed_24 rfl rfl ?_
    refine g_iload_n C.1 2 dX4_feed_25 rfl rfl ?_
    obtain ⟨hp5, h⟩ := h
    refine c_callV C.1 C.2.2.2.1 C.2.2.2.2.1 (h_feedNumber K.l y σ4 v2 hp5) (ci := 5) (q := (RX4, TX4, 10)) rfl (c_recv rfl ⟨rfl, rfl⟩) (fun ht => cwV 1 ht gX4_feed_X4_feedNumber rfl rfl rfl (by decide +kernel) ⟨Nat.le_of_ble_eq_true rfl, Nat.le_of_ble_eq_true rfl⟩) rfl rfl (Nat.le_of_ble_eq_true rfl) ⟨Nat.le_of_ble_eq_true rfl, Nat.le_of_ble_eq_true rfl⟩ dX4_feed_26 (fun r6 σ7 hq => ?_)
    have h := h r6 σ7 hq
    show G K (CL y σ7) (0, 0) [(0, .ref (y.1 0 0 0)), (1, .int (iZ v1)), (2, .int (iZ v2)), (3, .int (iZ v3)), (4, .int (iZ v4)), (5, .int (iZ v5))] 29 []
    refine g_aload_n C.1 0 dX4_feed_29 rfl rfl ?_
    refine g_iload_n C.1 3 dX4_feed_30 rfl rfl ?_
    obtain ⟨hp8, h⟩ := h
    refine c_callV C.1 C.2.2.2.1 C.2.2.2.2.1 (h_feedNumber K.l y σ7 v3 hp8) (ci := 5) (q := (RX4, TX4, 10)) rfl (c_recv rfl ⟨rfl, rfl⟩) (fun ht => cwV 1 ht gX4_feed_X4_feedNumber rfl rfl rfl (by decide +kernel) ⟨Nat.le_of_ble_eq_true rfl, Nat.le_of_ble_eq_true rfl⟩) rfl rfl (Nat.le_of_ble_eq_true rfl) ⟨Nat.le_of_ble_eq_true rfl, Nat.le_of_ble_eq_true rfl⟩ dX4_feed_31 (fun r9 σ10 hq => ?_)
    have h := h r9 σ10 hq
    show G K (CL y σ10) (0, 0) [(0, .ref (y.1 0 0 0)), (1, .int (iZ v1)), (2, .int (iZ v2)), (3, .int (iZ v3)), (4, .int (iZ v4)), (5, .int (iZ v5))] 34 []
    refine g_aload_n C.1 0 dX4_feed_34 rfl rfl ?_
    refine g_iload C.1 4 dX4_feed_35 rfl ?_
    obtain ⟨hp11, h⟩ := h
    refine c_callV C.1 C.2.2.2.1 C.2.2.2.2.1 (h_feedNumber K.l y σ10 v4 hp11) (ci := 5) (q := (RX4, TX4, 10)) rfl (c_recv rfl ⟨rfl, rfl⟩) (fun ht => cwV 1 ht gX4_feed_X4_feedNumber rfl rfl rfl (by decide +kernel) ⟨Nat.le_of_ble_eq_true rfl, Nat.le_of_ble_eq_true rfl⟩) rfl rfl (Nat.le_of_ble_eq_true rfl) ⟨Nat.le_of_ble_eq_true rfl, Nat.le_of_ble_eq_true rfl⟩ dX4_feed_37 (fun r12 σ13 hq => ?_)
    have h := h r12 σ13 hq
    show G K (CL y σ13) (0, 0) [(0, .ref (y.1 0 0 0)), (1, .int (iZ v1)), (2, .int (iZ v2)), (3, .int (iZ v3)), (4, .int (iZ v4)), (5, .int (iZ v5))] 40 []
    refine g_aload_n C.1 0 dX4_feed_40 rfl rfl ?_
    refine g_iload C.1 5 dX4_feed_41 rfl ?_
    obtain ⟨hp14, h⟩ := h
    refine c_callV C.1 C.2.2.2.1 C.2.2.2.2.1 (h_feedNumber K.l y σ13 v5 hp14) (ci := 5) (q := (RX4, TX4, 10)) rfl (c_recv rfl ⟨rfl, rfl⟩) (fun ht => cwV 1 ht gX4_feed_X4_feedNumber rfl rfl rfl (by decide +kernel) ⟨Nat.le_of_ble_eq_true rfl, Nat.le_of_ble_eq_true rfl⟩) rfl rfl (Nat.le_of_ble_eq_true rfl) ⟨Nat.le_of_ble_eq_true rfl, Nat.le_of_ble_eq_true rfl⟩ dX4_feed_43 (fun r15 σ16 hq => ?_)
    have h := h r15 σ16 hq
    show G K (CL y σ16) (0, 0) [(0, .ref (y.1 0 0 0)), (1, .int (iZ v1)), (2, .int (iZ v2)), (3, .int (iZ v3)), (4, .int (iZ v4)), (5, .int (iZ v5))] 46 []
    refine g_aload_n C.1 0 dX4_feed_46 rfl rfl ?_
    refine c_get C.1 (ci := 5) (q := (RX4, TX4, 10)) rfl rfl inX4_feed_X4 1 (by decide) (v := .int (iZ (σ16 0 0 0 0))) rfl lk_X4_feed_f13 rfl dX4_feed_47 ⟨rfl, rfl⟩ ?_
    exact y_iret C.1 C.2.2.1 rfl ⟨Nat.le_of_ble_eq_true rfl, Nat.le_of_ble_eq_true rfl⟩ dX4_feed_50 h
  · have h := h.2 hc
    exact y_throw C.1 C.2.2.1 C.2.2.2.1 C.2.2.2.2.1 C.2.2.2.2.2 (E := "java/lang/IllegalStateException") (text := "the tape would be too long") (ik := 51) (is := 53) (ic := 55) (by decide +kernel) lk_X4_feed_cl51 lk_X4_feed_ini_IllegalStateException (by decide +kernel) at_X4_feed_55 (by decide +kernel) (by decide +kernel) (by decide +kernel) dX4_feed_9 dX4_feed_12 dX4_feed_13 dX4_feed_15 dX4_feed_18 (Nat.le_of_ble_eq_true rfl) (Nat.le_of_ble_eq_true rfl) (Nat.le_of_ble_eq_true rfl) (Nat.le_of_ble_eq_true rfl) ⟨(Nat.le_of_ble_eq_true rfl), (Nat.le_of_ble_eq_true rfl)⟩ h
theorem m_X4_feed {l : Launch} {y : LT} {σ : CS} {v1 v2 v3 v4 v5 : Int} {post : Int → CS → Prop} {px : String → CS → Prop} (h : ∀ K : KT, K.l = l → C_X4_feed K y post px → P_X4_feed_0 K y σ v1 v2 v3 v4 v5) : vMet l yX4_feed wsX4_feed rm_X4_feed y.2.2 (CL y) rkI [.ref (y.1 0 0 0), .int (iZ v1), .int (iZ v2), .int (iZ v3), .int (iZ v4), .int (iZ v5)] σ post px :=
  vMet.of (maxL := 6) (by decide +kernel) rfl (Nat.le_of_ble_eq_true rfl) (fun K h1 h2 h3 h4 h5 h6 h7 => h K h1 ⟨h2, h3, h4, h5, h6, h7⟩)
def H_X4_feed (p : CS → Int → Int → Int → Int → Int → Prop) (o : CS → Int → Int → Int → Int → Int → Int → CS → Prop) (x : CS → Int → Int → Int → Int → Int → String → CS → Prop) : Prop := ∀ (l : Launch) (y : LT) (σ : CS) (v1 v2 v3 v4 v5 : Int), p σ v1 v2 v3 v4 v5 → vMet l yX4_feed wsX4_feed rm_X4_feed y.2.2 (CL y) rkI [.ref (y.1 0 0 0), .int (iZ v1), .int (iZ v2), .int (iZ v3), .int (iZ v4), .int (iZ v5)] σ (fun r σ' => o σ v1 v2 v3 v4 v5 r σ') (x σ v1 v2 v3 v4 v5)

/-! X4_trim -/
abbrev rm_X4_trim : Room := { frames := 6, cells := 1, slots := 6, locals := 100 }
set_option maxRecDepth 20000 in
theorem at_X4_trim_66 : ∀ w ∈ (vx_atS RX4 66 "java/lang/IllegalArgumentException" ["java/lang/RuntimeException", "java/lang/Exception"]).filter goodWord, w ∈ wsX4_trim := fun w h => by
  unfold wsX4_trim
  simp only [List.mem_cons, List.mem_append]
  simp only [h, or_true, true_or]
set_option maxRecDepth 20000 in
theorem inX4_trim_X4 : ∀ w ∈ wsX40, w ∈ wsX4_trim := by decide +kernel
theorem lk_X4_trim_cl62 : Cond.classLink RX4 62 "java/lang/IllegalArgumentException" ∈ wsX4_trim := List.mem_of_getElem? (i := 1) (by decide +kernel)
theorem lk_X4_trim_ini_IllegalArgumentException : Cond.initialized "java/lang/IllegalArgumentException" ∈ wsX4_trim := List.mem_of_getElem? (i := 2) (by decide +kernel)
theorem lk_X4_trim_f13 : Cond.fieldLink RX4 13 "CopyHouse" "tapeLength" "I" ∈ wsX4_trim := List.mem_of_getElem? (i := 3) (by decide +kernel)
def C_X4_trim (K : KT) (y : LT) (post : Int → CS → Prop) (px : String → CS → Prop) : Prop := kOK K cX4_trim RX4 wsX4_trim (some .int) rm_X4_trim ∧ K.nL = 2 ∧ kQX K (CL y) rkI post px rm_X4_trim ∧ SF y.2.2 K.A K.s K.s.heap ∧ K.l.stackTraces = false ∧ kNX K
def P_X4_trim_0 (K : KT) (y : LT) (σ : CS) (v1 : Int) : Prop := G K (CL y σ) (0, 0) [(0, .ref (y.1 0 0 0)), (1, .int (iZ v1))] 0 []
set_option maxRecDepth 100000 in
set_option maxHeartbeats 4000000 in
theorem b_X4_trim_0 {K : KT} {y : LT} {post : Int → CS → Prop} {px : String → CS → Prop} (C : C_X4_trim K y post px) {σ : CS} {v1 : Int} (h : (-2147483648 ≤ v1 ∧ v1 < 2147483648) ∧ ((v1 < 0 → px "java/lang/IllegalArgumentException" σ) ∧ (¬ v1 < 0 → (-2147483648 ≤ (σ 0 0 0 0) ∧ (σ 0 0 0 0) < 2147483648) ∧ ((v1 ≤ (σ 0 0 0 0) → post v1 (upC σ 0 (fun _ _ _ => v1))) ∧ (¬ v1 ≤ (σ 0 0 0 0) → px "java/lang/IllegalArgumentException" σ))))) : P_X4_trim_0 K y σ v1 := by
  refine g_iload_n C.1 1 dX4_trim_0 rfl rfl ?_
  obtain ⟨hc1, h⟩ := h
  refine g_if_lt C.1 (tgt := 12) dX4_trim_1 (by decide) hc1 (fun hc => ?_) (fun hc => ?_)
  · have h := h.1 hc
    exact y_throw C.1 C.2.2.1 C.2.2.2.1 C.2.2.2.2.1 C.2.2.2.2.2 (E := "java/lang/IllegalArgumentException") (text := "the tape does not have so many bytes") (ik := 62) (is := 64) (ic := 66) (by decide +kernel) lk_X4_trim_cl62 lk_X4_trim_ini_IllegalArgumentException (by decide +kernel) at_X4_trim_66 (by decide +kernel) (by decide +kernel) (by decide +kernel) dX4_trim_12 dX4_trim_15 dX4_trim_16 dX4_trim_18 dX4_trim_21 (Nat.le_of_ble_eq_true rfl) (Nat.le_of_ble_eq_true rfl) (Nat.le_of_ble_eq_true rfl) (Nat.le_of_ble_eq_true rfl) ⟨(Nat.le_of_ble_eq_true rfl), (Nat.le_of_ble_eq_true rfl)⟩ h
  · have h := h.2 hc
    refine g_iload_n C.1 1 dX4_trim_4 rfl rfl ?_
    refine g_aload_n C.1 0 dX4_trim_5 rfl rfl ?_
    refine c_get C.1 (ci := 5) (q := (RX4, TX4, 10)) rfl rfl inX4_trim_X4 1 (by decide) (v := .int (iZ (σ 0 0 0 0))) rfl lk_X4_trim_f13 rfl dX4_trim_6 ⟨rfl, rfl⟩ ?_
    obtain ⟨hc2, h⟩ := h
    refine g_icmp_le C.1 (tgt := 22) dX4_trim_9 (by decide) hc1 hc2 (fun hc => ?_) (fun hc => ?_)
    · have h := h.1 hc
      refine g_aload_n C.1 0 dX4_trim_22 rfl rfl ?_
      refine g_iload_n C.1 1 dX4_trim_23 rfl rfl ?_
      refine c_put C.1 (σ' := upC σ 0 (fun _ _ _ => v1)) (ci := 5) (q := (RX4, TX4, 10)) rfl rfl inX4_trim_X4 tyX4 tyX4_ok nmX4 1 (by decide) (Nat.le_of_ble_eq_true rfl) (v := .int (iZ v1)) (ty := .int) rfl (CUpd_0 y _ _) lk_X4_trim_f13 rfl rfl rfl rfl rfl dX4_trim_24 ⟨rfl, rfl⟩ ?_
      refine g_iload_n C.1 1 dX4_trim_27 rfl rfl ?_
      exact y_iret C.1 C.2.2.1 rfl ⟨Nat.le_of_ble_eq_true rfl, Nat.le_of_ble_eq_true rfl⟩ dX4_trim_28 h
    · have h := h.2 hc
      exact y_throw C.1 C.2.2.1 C.2.2.2.1 C.2.2.2.2.1 C.2.2.2.2.2 (E := "java/lang/IllegalArgumentException") (text := "the tape does not have so many bytes") (ik := 62) (is := 64) (ic := 66) (by decide +kernel) lk_X4_trim_cl62 lk_X4_trim_ini_IllegalArgumentException (by decide +kernel) at_X4_trim_66 (by decide +kernel) (by decide +kernel) (by decide +kernel) dX4_trim_12 dX4_trim_15 dX4_trim_16 dX4_trim_18 dX4_trim_21 (Nat.le_of_ble_eq_true rfl) (Nat.le_of_ble_eq_true rfl) (Nat.le_of_ble_eq_true rfl) (Nat.le_of_ble_eq_true rfl) ⟨(Nat.le_of_ble_eq_true rfl), (Nat.le_of_ble_eq_true rfl)⟩ h
theorem m_X4_trim {l : Launch} {y : LT} {σ : CS} {v1 : Int} {post : Int → CS → Prop} {px : String → CS → Prop} (h : ∀ K : KT, K.l = l → C_X4_trim K y post px → P_X4_trim_0 K y σ v1) : vMet l yX4_trim wsX4_trim rm_X4_trim y.2.2 (CL y) rkI [.ref (y.1 0 0 0), .int (iZ v1)] σ post px :=
  vMet.of (maxL := 2) (by decide +kernel) rfl (Nat.le_of_ble_eq_true rfl) (fun K h1 h2 h3 h4 h5 h6 h7 => h K h1 ⟨h2, h3, h4, h5, h6, h7⟩)
def H_X4_trim (p : CS → Int → Prop) (o : CS → Int → Int → CS → Prop) (x : CS → Int → String → CS → Prop) : Prop := ∀ (l : Launch) (y : LT) (σ : CS) (v1 : Int), p σ v1 → vMet l yX4_trim wsX4_trim rm_X4_trim y.2.2 (CL y) rkI [.ref (y.1 0 0 0), .int (iZ v1)] σ (fun r σ' => o σ v1 r σ') (x σ v1)

/-! X4_letter -/
abbrev rm_X4_letter : Room := { frames := 7, cells := 2, slots := 12, locals := 121 }
set_option maxRecDepth 20000 in
theorem inX4_letter_X1 : ∀ w ∈ wsX10, w ∈ wsX4_letter := by decide +kernel
set_option maxRecDepth 20000 in
theorem at_X4_letter_100 : ∀ w ∈ (vx_atS RX4 100 "java/lang/IndexOutOfBoundsException" ["java/lang/RuntimeException", "java/lang/Exception"]).filter goodWord, w ∈ wsX4_letter := fun w h => by
  unfold wsX4_letter
  simp only [List.mem_cons, List.mem_append]
  simp only [h, or_true, true_or]
set_option maxRecDepth 20000 in
theorem inX4_letter_X3 : ∀ w ∈ wsX30, w ∈ wsX4_letter := by decide +kernel
theorem lk_X4_letter_f88 : Cond.fieldLink RX4 88 "CopyHouse$Manuscript" "text" "LCopyHouse$Text;" ∈ wsX4_letter := List.mem_of_getElem? (i := 3) (by decide +kernel)
theorem lk_X4_letter_cl96 : Cond.classLink RX4 96 "java/lang/IndexOutOfBoundsException" ∈ wsX4_letter := List.mem_of_getElem? (i := 1) (by decide +kernel)
theorem lk_X4_letter_ini_IndexOutOfBoundsException : Cond.initialized "java/lang/IndexOutOfBoundsException" ∈ wsX4_letter := List.mem_of_getElem? (i := 2) (by decide +kernel)
theorem lk_X4_letter_f93 : Cond.fieldLink RX4 93 "CopyHouse$Text" "length" "I" ∈ wsX4_letter := List.mem_of_getElem? (i := 4) (by decide +kernel)
theorem lk_X4_letter_f101 : Cond.fieldLink RX4 101 "CopyHouse$Text" "letters" "[B" ∈ wsX4_letter := List.mem_of_getElem? (i := 5) (by decide +kernel)
def C_X4_letter (K : KT) (y : LT) (post : Int → CS → Prop) (px : String → CS → Prop) : Prop := kOK K cX4_letter RX4 wsX4_letter (some .int) rm_X4_letter ∧ K.nL = 4 ∧ kQX K (CL y) rkI post px rm_X4_letter ∧ SF y.2.2 K.A K.s K.s.heap ∧ K.l.stackTraces = false ∧ kNX K
def P_X4_letter_0 (K : KT) (y : LT) (σ : CS) (v1 v2 : Int) : Prop := G K (CL y σ) (0, 0) [(0, .ref (y.1 0 0 0)), (1, .int (iZ v1)), (2, .int (iZ v2))] 0 []
set_option maxRecDepth 100000 in
set_option maxHeartbeats 4000000 in
theorem b_X4_letter_0 {K : KT} {y : LT} {post : Int → CS → Prop} {px : String → CS → Prop} (C : C_X4_letter K y post px) {p_manuscriptOf : CS → Int → Prop} {o_manuscriptOf : CS → Int → Int → CS → Prop} {x_manuscriptOf : CS → Int → String → CS → Prop} (h_manuscriptOf : H_X4_manuscriptOf p_manuscriptOf o_manuscriptOf x_manuscriptOf) {σ : CS} {v1 v2 : Int} (h : (p_manuscriptOf σ v1) ∧ (∀ (E : String) (u9 : CS), x_manuscriptOf σ v1 E u9 → px E u9) ∧ ∀ (r2 : Int) (σ3 : CS), o_manuscriptOf σ v1 r2 σ3 → (0 ≤ r2 ∧ r2 < (σ3 21 0 0 0)) ∧ (-2147483648 ≤ v2 ∧ v2 < 2147483648) ∧ ((v2 < 0 → px "java/lang/IndexOutOfBoundsException" σ3) ∧ (¬ v2 < 0 → (0 ≤ (r2 + 3) ∧ (r2 + 3) < (σ3 21 0 0 0) + 3) ∧ (-2147483648 ≤ (σ3 5 (r2 + 3) 0 0) ∧ (σ3 5 (r2 + 3) 0 0) < 2147483648) ∧ ((v2 < (σ3 5 (r2 + 3) 0 0) → (0 ≤ v2 ∧ v2 < 120) ∧ post (σ3 6 (r2 + 3) v2 0) σ3) ∧ (¬ v2 < (σ3 5 (r2 + 3) 0 0) → px "java/lang/IndexOutOfBoundsException" σ3))))) : P_X4_letter_0 K y σ v1 v2 := by
  refine g_aload_n C.1 0 dX4_letter_0 rfl rfl ?_
  refine g_iload_n C.1 1 dX4_letter_1 rfl rfl ?_
  obtain ⟨hp1, h⟩ := h
  obtain ⟨hx9, h⟩ := h
  refine c_callX C.1 C.2.2.1 C.2.2.2.2.2 C.2.2.2.1 C.2.2.2.2.1 (h_manuscriptOf K.l y σ v1 hp1) (ci := 5) (q := (RX4, TX4, 10)) rfl (c_recv rfl ⟨rfl, rfl⟩) (fun ht => cwV 1 ht gX4_letter_X4_manuscriptOf rfl rfl rfl (by decide +kernel) ⟨Nat.le_of_ble_eq_true rfl, Nat.le_of_ble_eq_true rfl⟩) rfl rfl (Nat.le_of_ble_eq_true rfl) ⟨Nat.le_of_ble_eq_true rfl, Nat.le_of_ble_eq_true rfl⟩ ⟨Nat.le_of_ble_eq_true rfl, Nat.le_of_ble_eq_true rfl⟩ dX4_letter_2 (fun E u9 hq => ⟨u9, hx9 E u9 hq, fun _ _ w9 => w9⟩) (fun r2 σ3 hq => ?_)
  have h := h r2 σ3 hq
  show G K (CL y σ3) (1, 6) [(0, .ref (y.1 0 0 0)), (1, .int (iZ v1)), (2, .int (iZ v2))] 5 [vM y r2]
  obtain ⟨hd4, h⟩ := h
  refine c_atM hd4.1 ?_
  refine c_get C.1 (ci := 2) (q := (RX1, TX1, 6)) rfl rfl inX4_letter_X1 4 (by decide) (v := .ref (y.1 8 (r2 + 3) 0)) rfl lk_X4_letter_f88 rfl dX4_letter_5 ⟨hd4.1, hd4.2, rfl⟩ ?_
  refine g_astore_n C.1 (i := 3) (loc' := [(3, .ref (y.1 8 (r2 + 3) 0)), (0, .ref (y.1 0 0 0)), (1, .int (iZ v1)), (2, .int (iZ v2))]) C.2.1 dX4_letter_8 rfl (by decide) rfl ?_
  refine g_iload_n C.1 3 dX4_letter_9 rfl rfl ?_
  obtain ⟨hc5, h⟩ := h
  refine g_if_lt C.1 (tgt := 21) dX4_letter_10 (by decide) hc5 (fun hc => ?_) (fun hc => ?_)
  · have h := h.1 hc
    exact y_throw C.1 C.2.2.1 C.2.2.2.1 C.2.2.2.2.1 C.2.2.2.2.2 (E := "java/lang/IndexOutOfBoundsException") (text := "no such place") (ik := 96) (is := 98) (ic := 100) (by decide +kernel) lk_X4_letter_cl96 lk_X4_letter_ini_IndexOutOfBoundsException (by decide +kernel) at_X4_letter_100 (by decide +kernel) (by decide +kernel) (by decide +kernel) dX4_letter_21 dX4_letter_24 dX4_letter_25 dX4_letter_27 dX4_letter_30 (Nat.le_of_ble_eq_true rfl) (Nat.le_of_ble_eq_true rfl) (Nat.le_of_ble_eq_true rfl) (Nat.le_of_ble_eq_true rfl) ⟨(Nat.le_of_ble_eq_true rfl), (Nat.le_of_ble_eq_true rfl)⟩ h
  · have h := h.2 hc
    refine g_iload_n C.1 3 dX4_letter_13 rfl rfl ?_
    refine g_aload_n C.1 0 dX4_letter_14 rfl rfl ?_
    obtain ⟨hd6, h⟩ := h
    refine c_get C.1 (ci := 4) (q := (RX3, TX3, 2)) rfl rfl inX4_letter_X3 1 (by decide) (v := .int (iZ (σ3 5 (r2 + 3) 0 0))) rfl lk_X4_letter_f93 rfl dX4_letter_15 ⟨hd6.1, hd6.2, rfl⟩ ?_
    obtain ⟨hc7, h⟩ := h
    refine g_icmp_lt C.1 (tgt := 31) dX4_letter_18 (by decide) hc5 hc7 (fun hc => ?_) (fun hc => ?_)
    · have h := h.1 hc
      refine g_aload_n C.1 0 dX4_letter_31 rfl rfl ?_
      refine c_get C.1 (ci := 4) (q := (RX3, TX3, 2)) rfl rfl inX4_letter_X3 0 (by decide) (v := .ref (y.1 9 (r2 + 3) 0)) rfl lk_X4_letter_f101 rfl dX4_letter_32 ⟨hd6.1, hd6.2, rfl⟩ ?_
      refine g_iload_n C.1 3 dX4_letter_35 rfl rfl ?_
      obtain ⟨hi8, h⟩ := h
      refine c_bald C.1 (N := 120) (f := fun p => σ3 6 (r2 + 3) p 0) (e := v2) rfl rfl rfl (by decide) dX4_letter_36 ⟨hd6.1, hd6.2, rfl⟩ hi8 ?_
      show G K (CL y σ3) (1, 6) [(3, .ref (y.1 8 (r2 + 3) 0)), (0, .ref (y.1 0 0 0)), (1, .int (iZ v1)), (2, .int (iZ v2))] 37 [.int (iZ (σ3 6 (r2 + 3) v2 0))]
      exact y_iret C.1 C.2.2.1 rfl ⟨Nat.le_of_ble_eq_true rfl, Nat.le_of_ble_eq_true rfl⟩ dX4_letter_37 h
    · have h := h.2 hc
      exact y_throw C.1 C.2.2.1 C.2.2.2.1 C.2.2.2.2.1 C.2.2.2.2.2 (E := "java/lang/IndexOutOfBoundsException") (text := "no such place") (ik := 96) (is := 98) (ic := 100) (by decide +kernel) lk_X4_letter_cl96 lk_X4_letter_ini_IndexOutOfBoundsException (by decide +kernel) at_X4_letter_100 (by decide +kernel) (by decide +kernel) (by decide +kernel) dX4_letter_21 dX4_letter_24 dX4_letter_25 dX4_letter_27 dX4_letter_30 (Nat.le_of_ble_eq_true rfl) (Nat.le_of_ble_eq_true rfl) (Nat.le_of_ble_eq_true rfl) (Nat.le_of_ble_eq_true rfl) ⟨(Nat.le_of_ble_eq_true rfl), (Nat.le_of_ble_eq_true rfl)⟩ h
theorem m_X4_letter {l : Launch} {y : LT} {σ : CS} {v1 v2 : Int} {post : Int → CS → Prop} {px : String → CS → Prop} (h : ∀ K : KT, K.l = l → C_X4_letter K y post px → P_X4_letter_0 K y σ v1 v2) : vMet l yX4_letter wsX4_letter rm_X4_letter y.2.2 (CL y) rkI [.ref (y.1 0 0 0), .int (iZ v1), .int (iZ v2)] σ post px :=
  vMet.of (maxL := 4) (by decide +kernel) rfl (Nat.le_of_ble_eq_true rfl) (fun K h1 h2 h3 h4 h5 h6 h7 => h K h1 ⟨h2, h3, h4, h5, h6, h7⟩)
def H_X4_letter (p : CS → Int → Int → Prop) (o : CS → Int → Int → Int → CS → Prop) (x : CS → Int → Int → String → CS → Prop) : Prop := ∀ (l : Launch) (y : LT) (σ : CS) (v1 v2 : Int), p σ v1 v2 → vMet l yX4_letter wsX4_letter rm_X4_letter y.2.2 (CL y) rkI [.ref (y.1 0 0 0), .int (iZ v1), .int (iZ v2)] σ (fun r σ' => o σ v1 v2 r σ') (x σ v1 v2)

/-! X4_habit -/
abbrev rm_X4_habit : Room := { frames := 7, cells := 2, slots := 12, locals := 121 }
set_option maxRecDepth 20000 in
theorem at_X4_habit_100 : ∀ w ∈ (vx_atS RX4 100 "java/lang/IndexOutOfBoundsException" ["java/lang/RuntimeException", "java/lang/Exception"]).filter goodWord, w ∈ wsX4_habit := fun w h => by
  unfold wsX4_habit
  simp only [List.mem_cons, List.mem_append]
  simp only [h, or_true, true_or]
set_option maxRecDepth 20000 in
theorem inX4_habit_X2 : ∀ w ∈ wsX20, w ∈ wsX4_habit := by decide +kernel
theorem lk_X4_habit_cl96 : Cond.classLink RX4 96 "java/lang/IndexOutOfBoundsException" ∈ wsX4_habit := List.mem_of_getElem? (i := 1) (by decide +kernel)
theorem lk_X4_habit_ini_IndexOutOfBoundsException : Cond.initialized "java/lang/IndexOutOfBoundsException" ∈ wsX4_habit := List.mem_of_getElem? (i := 2) (by decide +kernel)
theorem lk_X4_habit_f128 : Cond.fieldLink RX4 128 "CopyHouse$Scribe" "habits" "Ljava/util/ArrayList;" ∈ wsX4_habit := List.mem_of_getElem? (i := 3) (by decide +kernel)
theorem lk_X4_habit_cc133 : Cond.classLink RX4 133 "CopyHouse$Habit" ∈ wsX4_habit := List.mem_of_getElem? (i := 4) (by decide +kernel)
def C_X4_habit (K : KT) (y : LT) (post : Int → CS → Prop) (px : String → CS → Prop) : Prop := kOK K cX4_habit RX4 wsX4_habit (some .int) rm_X4_habit ∧ K.nL = 5 ∧ kQX K (CL y) rkI post px rm_X4_habit ∧ SF y.2.2 K.A K.s K.s.heap ∧ K.l.stackTraces = false ∧ kNX K
def P_X4_habit_0 (K : KT) (y : LT) (σ : CS) (v1 v2 v3 : Int) : Prop := G K (CL y σ) (0, 0) [(0, .ref (y.1 0 0 0)), (1, .int (iZ v1)), (2, .int (iZ v2)), (3, .int (iZ v3))] 0 []
set_option maxRecDepth 100000 in
set_option maxHeartbeats 4000000 in
theorem b_X4_habit_0 {K : KT} {y : LT} {post : Int → CS → Prop} {px : String → CS → Prop} (C : C_X4_habit K y post px) {p_scribeOf : CS → Int → Prop} {o_scribeOf : CS → Int → Int → CS → Prop} {x_scribeOf : CS → Int → String → CS → Prop} (h_scribeOf : H_X4_scribeOf p_scribeOf o_scribeOf x_scribeOf) {p_sizeH : CS → Int → Prop} {f_sizeH : CS → Int → Int} (h_sizeH : H_sizeH p_sizeH f_sizeH) {p_getH : CS → Int → Int → Prop} {f_getH : CS → Int → Int → Int} (h_getH : H_getH p_getH f_getH) {p_part : CS → Int → Int → Int → Prop} {f_part : CS → Int → Int → Int → Int} (h_part : H_X0_part p_part f_part) {σ : CS} {v1 v2 v3 : Int} (h : (p_scribeOf σ v1) ∧ (∀ (E : String) (u9 : CS), x_scribeOf σ v1 E u9 → px E u9) ∧ ∀ (r2 : Int) (σ3 : CS), o_scribeOf σ v1 r2 σ3 → (-2147483648 ≤ v2 ∧ v2 < 2147483648) ∧ ((v2 < 0 → px "java/lang/IndexOutOfBoundsException" σ3) ∧ (¬ v2 < 0 → (0 ≤ r2 ∧ r2 < (σ3 22 0 0 0)) ∧ (p_sizeH σ3 r2) ∧ (-2147483648 ≤ (f_sizeH σ3 r2) ∧ (f_sizeH σ3 r2) < 2147483648) ∧ ((v2 < (f_sizeH σ3 r2) → (-2147483648 ≤ v3 ∧ v3 < 2147483648) ∧ ((v3 < 0 → px "java/lang/IndexOutOfBoundsException" σ3) ∧ (¬ v3 < 0 → ((v3 < 4 → (p_getH σ3 r2 v2) ∧ ((0 ≤ r2 ∧ r2 < (σ3 22 0 0 0)) ∧ (0 ≤ (f_getH σ3 r2 v2) ∧ (f_getH σ3 r2 v2) < (σ3 23 r2 0 0))) ∧ (p_part σ3 r2 (f_getH σ3 r2 v2) v3) ∧ post (f_part σ3 r2 (f_getH σ3 r2 v2) v3) σ3) ∧ (¬ v3 < 4 → px "java/lang/IndexOutOfBoundsException" σ3))))) ∧ (¬ v2 < (f_sizeH σ3 r2) → px "java/lang/IndexOutOfBoundsException" σ3))))) : P_X4_habit_0 K y σ v1 v2 v3 := by
  refine g_aload_n C.1 0 dX4_habit_0 rfl rfl ?_
  refine g_iload_n C.1 1 dX4_habit_1 rfl rfl ?_
  obtain ⟨hp1, h⟩ := h
  obtain ⟨hx9, h⟩ := h
  refine c_callX C.1 C.2.2.1 C.2.2.2.2.2 C.2.2.2.1 C.2.2.2.2.1 (h_scribeOf K.l y σ v1 hp1) (ci := 5) (q := (RX4, TX4, 10)) rfl (c_recv rfl ⟨rfl, rfl⟩) (fun ht => cwV 1 ht gX4_habit_X4_scribeOf rfl rfl rfl (by decide +kernel) ⟨Nat.le_of_ble_eq_true rfl, Nat.le_of_ble_eq_true rfl⟩) rfl rfl (Nat.le_of_ble_eq_true rfl) ⟨Nat.le_of_ble_eq_true rfl, Nat.le_of_ble_eq_true rfl⟩ ⟨Nat.le_of_ble_eq_true rfl, Nat.le_of_ble_eq_true rfl⟩ dX4_habit_2 (fun E u9 hq => ⟨u9, hx9 E u9 hq, fun _ _ w9 => w9⟩) (fun r2 σ3 hq => ?_)
  have h := h r2 σ3 hq
  show G K (CL y σ3) (1, 6) [(0, .ref (y.1 0 0 0)), (1, .int (iZ v1)), (2, .int (iZ v2)), (3, .int (iZ v3))] 5 [.ref (y.1 13 r2 0)]
  refine g_astore C.1 (i := 4) (loc' := [(4, .ref (y.1 13 r2 0)), (0, .ref (y.1 0 0 0)), (1, .int (iZ v1)), (2, .int (iZ v2)), (3, .int (iZ v3))]) C.2.1 dX4_habit_5 (by decide) rfl ?_
  refine g_iload_n C.1 3 dX4_habit_7 rfl rfl ?_
  obtain ⟨hc4, h⟩ := h
  refine g_if_lt C.1 (tgt := 23) dX4_habit_8 (by decide) hc4 (fun hc => ?_) (fun hc => ?_)
  · have h := h.1 hc
    exact y_throw C.1 C.2.2.1 C.2.2.2.1 C.2.2.2.2.1 C.2.2.2.2.2 (E := "java/lang/IndexOutOfBoundsException") (text := "no such habit") (ik := 96) (is := 138) (ic := 100) (by decide +kernel) lk_X4_habit_cl96 lk_X4_habit_ini_IndexOutOfBoundsException (by decide +kernel) at_X4_habit_100 (by decide +kernel) (by decide +kernel) (by decide +kernel) dX4_habit_23 dX4_habit_26 dX4_habit_27 dX4_habit_29 dX4_habit_32 (Nat.le_of_ble_eq_true rfl) (Nat.le_of_ble_eq_true rfl) (Nat.le_of_ble_eq_true rfl) (Nat.le_of_ble_eq_true rfl) ⟨(Nat.le_of_ble_eq_true rfl), (Nat.le_of_ble_eq_true rfl)⟩ h
  · have h := h.2 hc
    refine g_iload_n C.1 3 dX4_habit_11 rfl rfl ?_
    refine g_aload C.1 0 dX4_habit_12 rfl ?_
    obtain ⟨hd5, h⟩ := h
    refine c_get C.1 (ci := 3) (q := (RX2, TX2, 1)) rfl rfl inX4_habit_X2 0 (by decide) (v := .ref (y.1 14 r2 0)) rfl lk_X4_habit_f128 rfl dX4_habit_14 ⟨hd5.1, hd5.2, rfl⟩ ?_
    obtain ⟨hp6, h⟩ := h
    refine c_callV C.1 C.2.2.2.1 C.2.2.2.2.1 (h_sizeH K.l y σ3 r2 hp6) (ci := 0) (q := (RJx4a65c, TJx4a65c, 3)) rfl (c_recv rfl ⟨hd5.1, hd5.2, rfl⟩) (fun ht => cwV 0 ht gX4_habit_Jx4a65c_size_8abf5 rfl rfl rfl (by decide +kernel) ⟨Nat.le_of_ble_eq_true rfl, Nat.le_of_ble_eq_true rfl⟩) rfl rfl (Nat.le_of_ble_eq_true rfl) ⟨Nat.le_of_ble_eq_true rfl, Nat.le_of_ble_eq_true rfl⟩ dX4_habit_17 (fun r σ9 hq => ?_)
    rw [hq.1, hq.2]
    show G K (CL y σ3) (1, 6) [(4, .ref (y.1 13 r2 0)), (0, .ref (y.1 0 0 0)), (1, .int (iZ v1)), (2, .int (iZ v2)), (3, .int (iZ v3))] 20 [.int (iZ (f_sizeH σ3 r2)), .int (iZ v2)]
    obtain ⟨hc7, h⟩ := h
    refine g_icmp_lt C.1 (tgt := 33) dX4_habit_20 (by decide) hc4 hc7 (fun hc => ?_) (fun hc => ?_)
    · have h := h.1 hc
      refine g_iload_n C.1 4 dX4_habit_33 rfl rfl ?_
      obtain ⟨hc8, h⟩ := h
      refine g_if_lt C.1 (tgt := 42) dX4_habit_34 (by decide) hc8 (fun hc => ?_) (fun hc => ?_)
      · have h := h.1 hc
        exact y_throw C.1 C.2.2.1 C.2.2.2.1 C.2.2.2.2.1 C.2.2.2.2.2 (E := "java/lang/IndexOutOfBoundsException") (text := "a habit has no such part") (ik := 96) (is := 144) (ic := 100) (by decide +kernel) lk_X4_habit_cl96 lk_X4_habit_ini_IndexOutOfBoundsException (by decide +kernel) at_X4_habit_100 (by decide +kernel) (by decide +kernel) (by decide +kernel) dX4_habit_42 dX4_habit_45 dX4_habit_46 dX4_habit_48 dX4_habit_51 (Nat.le_of_ble_eq_true rfl) (Nat.le_of_ble_eq_true rfl) (Nat.le_of_ble_eq_true rfl) (Nat.le_of_ble_eq_true rfl) ⟨(Nat.le_of_ble_eq_true rfl), (Nat.le_of_ble_eq_true rfl)⟩ h
      · have h := h.2 hc
        refine g_iload_n C.1 4 dX4_habit_37 rfl rfl ?_
        refine g_iconst C.1 (z := 4) dX4_habit_38 ?_
        refine g_icmp_lt C.1 (tgt := 52) dX4_habit_39 (by decide) hc8 (by decide) (fun hc => ?_) (fun hc => ?_)
        · have h := h.1 hc
          refine g_aload C.1 0 dX4_habit_52 rfl ?_
          refine c_get C.1 (ci := 3) (q := (RX2, TX2, 1)) rfl rfl inX4_habit_X2 0 (by decide) (v := .ref (y.1 14 r2 0)) rfl lk_X4_habit_f128 rfl dX4_habit_54 ⟨hd5.1, hd5.2, rfl⟩ ?_
          refine g_iload_n C.1 3 dX4_habit_57 rfl rfl ?_
          obtain ⟨hp9, h⟩ := h
          refine c_callV C.1 C.2.2.2.1 C.2.2.2.2.1 (h_getH K.l y σ3 r2 v2 hp9) (ci := 0) (q := (RJx4a65c, TJx4a65c, 3)) rfl (c_recv rfl ⟨hd5.1, hd5.2, rfl⟩) (fun ht => cwV 1 ht gX4_habit_Jx4a65c_get_915e3 rfl rfl rfl (by decide +kernel) ⟨Nat.le_of_ble_eq_true rfl, Nat.le_of_ble_eq_true rfl⟩) rfl rfl (Nat.le_of_ble_eq_true rfl) ⟨Nat.le_of_ble_eq_true rfl, Nat.le_of_ble_eq_true rfl⟩ dX4_habit_58 (fun r σ9 hq => ?_)
          rw [hq.1, hq.2]
          show G K (CL y σ3) (1, 6) [(4, .ref (y.1 13 r2 0)), (0, .ref (y.1 0 0 0)), (1, .int (iZ v1)), (2, .int (iZ v2)), (3, .int (iZ v3))] 61 [.ref (y.1 16 r2 (f_getH σ3 r2 v2))]
          obtain ⟨hd10, h⟩ := h
          refine c_cast C.1 C.2.2.2.1 (ci := 1) (q := (RX0, TX0, 4)) rfl rfl (by decide +kernel) lk_X4_habit_cc133 dX4_habit_61 ⟨hd10.1.1, hd10.1.2, hd10.2.1, hd10.2.2⟩ ?_
          refine g_iload_n C.1 4 dX4_habit_64 rfl rfl ?_
          obtain ⟨hp11, h⟩ := h
          refine c_callV C.1 C.2.2.2.1 C.2.2.2.2.1 (h_part K.l y σ3 r2 (f_getH σ3 r2 v2) v3 hp11) (ci := 1) (q := (RX0, TX0, 4)) rfl (c_recv rfl ⟨hd10.1.1, hd10.1.2, hd10.2.1, hd10.2.2⟩) (fun ht => cwV 1 ht gX4_habit_X0_part rfl rfl rfl (by decide +kernel) ⟨Nat.le_of_ble_eq_true rfl, Nat.le_of_ble_eq_true rfl⟩) rfl rfl (Nat.le_of_ble_eq_true rfl) ⟨Nat.le_of_ble_eq_true rfl, Nat.le_of_ble_eq_true rfl⟩ dX4_habit_65 (fun r σ9 hq => ?_)
          rw [hq.1, hq.2]
          show G K (CL y σ3) (1, 6) [(4, .ref (y.1 13 r2 0)), (0, .ref (y.1 0 0 0)), (1, .int (iZ v1)), (2, .int (iZ v2)), (3, .int (iZ v3))] 68 [.int (iZ (f_part σ3 r2 (f_getH σ3 r2 v2) v3))]
          exact y_iret C.1 C.2.2.1 rfl ⟨Nat.le_of_ble_eq_true rfl, Nat.le_of_ble_eq_true rfl⟩ dX4_habit_68 h
        · have h := h.2 hc
          exact y_throw C.1 C.2.2.1 C.2.2.2.1 C.2.2.2.2.1 C.2.2.2.2.2 (E := "java/lang/IndexOutOfBoundsException") (text := "a habit has no such part") (ik := 96) (is := 144) (ic := 100) (by decide +kernel) lk_X4_habit_cl96 lk_X4_habit_ini_IndexOutOfBoundsException (by decide +kernel) at_X4_habit_100 (by decide +kernel) (by decide +kernel) (by decide +kernel) dX4_habit_42 dX4_habit_45 dX4_habit_46 dX4_habit_48 dX4_habit_51 (Nat.le_of_ble_eq_true rfl) (Nat.le_of_ble_eq_true rfl) (Nat.le_of_ble_eq_true rfl) (Nat.le_of_ble_eq_true rfl) ⟨(Nat.le_of_ble_eq_true rfl), (Nat.le_of_ble_eq_true rfl)⟩ h
    · have h := h.2 hc
      exact y_throw C.1 C.2.2.1 C.2.2.2.1 C.2.2.2.2.1 C.2.2.2.2.2 (E := "java/lang/IndexOutOfBoundsException") (text := "no such habit") (ik := 96) (is := 138) (ic := 100) (by decide +kernel) lk_X4_habit_cl96 lk_X4_habit_ini_IndexOutOfBoundsException (by decide +kernel) at_X4_habit_100 (by decide +kernel) (by decide +kernel) (by decide +kernel) dX4_habit_23 dX4_habit_26 dX4_habit_27 dX4_habit_29 dX4_habit_32 (Nat.le_of_ble_eq_true rfl) (Nat.le_of_ble_eq_true rfl) (Nat.le_of_ble_eq_true rfl) (Nat.le_of_ble_eq_true rfl) ⟨(Nat.le_of_ble_eq_true rfl), (Nat.le_of_ble_eq_true rfl)⟩ h
theorem m_X4_habit {l : Launch} {y : LT} {σ : CS} {v1 v2 v3 : Int} {post : Int → CS → Prop} {px : String → CS → Prop} (h : ∀ K : KT, K.l = l → C_X4_habit K y post px → P_X4_habit_0 K y σ v1 v2 v3) : vMet l yX4_habit wsX4_habit rm_X4_habit y.2.2 (CL y) rkI [.ref (y.1 0 0 0), .int (iZ v1), .int (iZ v2), .int (iZ v3)] σ post px :=
  vMet.of (maxL := 5) (by decide +kernel) rfl (Nat.le_of_ble_eq_true rfl) (fun K h1 h2 h3 h4 h5 h6 h7 => h K h1 ⟨h2, h3, h4, h5, h6, h7⟩)
def H_X4_habit (p : CS → Int → Int → Int → Prop) (o : CS → Int → Int → Int → Int → CS → Prop) (x : CS → Int → Int → Int → String → CS → Prop) : Prop := ∀ (l : Launch) (y : LT) (σ : CS) (v1 v2 v3 : Int), p σ v1 v2 v3 → vMet l yX4_habit wsX4_habit rm_X4_habit y.2.2 (CL y) rkI [.ref (y.1 0 0 0), .int (iZ v1), .int (iZ v2), .int (iZ v3)] σ (fun r σ' => o σ v1 v2 v3 r σ') (x σ v1 v2 v3)

/-! X4_common -/
abbrev rm_X4_common : Room := { frames := 7, cells := 2, slots := 12, locals := 121 }
set_option maxRecDepth 20000 in
theorem inX4_common_X1 : ∀ w ∈ wsX10, w ∈ wsX4_common := by decide +kernel
theorem lk_X4_common_f199 : Cond.fieldLink RX4 199 "CopyHouse$Manuscript" "number" "I" ∈ wsX4_common := List.mem_of_getElem? (i := 1) (by decide +kernel)
theorem lk_X4_common_f202 : Cond.fieldLink RX4 202 "CopyHouse$Manuscript" "exemplar" "LCopyHouse$Manuscript;" ∈ wsX4_common := List.mem_of_getElem? (i := 2) (by decide +kernel)
def C_X4_common (K : KT) (y : LT) (post : Int → CS → Prop) (px : String → CS → Prop) : Prop := kOK K cX4_common RX4 wsX4_common (some .int) rm_X4_common ∧ K.nL = 6 ∧ kQX K (CL y) rkI post px rm_X4_common ∧ SF y.2.2 K.A K.s K.s.heap ∧ K.l.stackTraces = false ∧ kNX K
def P_X4_common_0 (K : KT) (y : LT) (σ : CS) (v1 v2 : Int) : Prop := G K (CL y σ) (0, 0) [(0, .ref (y.1 0 0 0)), (1, .int (iZ v1)), (2, .int (iZ v2))] 0 []
def P_X4_common_1 (K : KT) (y : LT) (σ : CS) (v4 v5 : Int) : Prop := G K (CL y σ) (2, 12) [(4, vM y v4), (5, vM y v5)] 16 []
set_option maxRecDepth 100000 in
set_option maxHeartbeats 4000000 in
theorem b_X4_common_0 {K : KT} {y : LT} {post : Int → CS → Prop} {px : String → CS → Prop} (C : C_X4_common K y post px) {p_manuscriptOf : CS → Int → Prop} {o_manuscriptOf : CS → Int → Int → CS → Prop} {x_manuscriptOf : CS → Int → String → CS → Prop} (h_manuscriptOf : H_X4_manuscriptOf p_manuscriptOf o_manuscriptOf x_manuscriptOf) {σ : CS} {v1 v2 : Int} (h : (p_manuscriptOf σ v1) ∧ (∀ (E : String) (u9 : CS), x_manuscriptOf σ v1 E u9 → px E u9) ∧ ∀ (r2 : Int) (σ3 : CS), o_manuscriptOf σ v1 r2 σ3 → (p_manuscriptOf σ3 v2) ∧ (∀ (E : String) (u9 : CS), x_manuscriptOf σ3 v2 E u9 → px E u9) ∧ ∀ (r5 : Int) (σ6 : CS), o_manuscriptOf σ3 v2 r5 σ6 → P_X4_common_1 K y σ6 r5 r2) : P_X4_common_0 K y σ v1 v2 := by
  refine g_aload_n C.1 0 dX4_common_0 rfl rfl ?_
  refine g_iload_n C.1 1 dX4_common_1 rfl rfl ?_
  obtain ⟨hp1, h⟩ := h
  obtain ⟨hx9, h⟩ := h
  refine c_callX C.1 C.2.2.1 C.2.2.2.2.2 C.2.2.2.1 C.2.2.2.2.1 (h_manuscriptOf K.l y σ v1 hp1) (ci := 5) (q := (RX4, TX4, 10)) rfl (c_recv rfl ⟨rfl, rfl⟩) (fun ht => cwV 1 ht gX4_common_X4_manuscriptOf rfl rfl rfl (by decide +kernel) ⟨Nat.le_of_ble_eq_true rfl, Nat.le_of_ble_eq_true rfl⟩) rfl rfl (Nat.le_of_ble_eq_true rfl) ⟨Nat.le_of_ble_eq_true rfl, Nat.le_of_ble_eq_true rfl⟩ ⟨Nat.le_of_ble_eq_true rfl, Nat.le_of_ble_eq_true rfl⟩ dX4_common_2 (fun E u9 hq => ⟨u9, hx9 E u9 hq, fun _ _ w9 => w9⟩) (fun r2 σ3 hq => ?_)
  have h := h r2 σ3 hq
  show G K (CL y σ3) (1, 6) [(0, .ref (y.1 0 0 0)), (1, .int (iZ v1)), (2, .int (iZ v2))] 5 [vM y r2]
  refine g_astoreM_n C.1 (i := 3) (loc' := [(0, .ref (y.1 0 0 0)), (1, .int (iZ v1)), (2, .int (iZ v2))]) C.2.1 dX4_common_5 rfl (by decide) rfl ?_
  refine g_aload_n C.1 1 dX4_common_6 rfl rfl ?_
  refine g_iload_n C.1 3 dX4_common_7 rfl rfl ?_
  obtain ⟨hp4, h⟩ := h
  obtain ⟨hx9, h⟩ := h
  refine c_callX C.1 C.2.2.1 C.2.2.2.2.2 C.2.2.2.1 C.2.2.2.2.1 (h_manuscriptOf K.l y σ3 v2 hp4) (ci := 5) (q := (RX4, TX4, 10)) rfl (c_recv rfl ⟨rfl, rfl⟩) (fun ht => cwV 1 ht gX4_common_X4_manuscriptOf rfl rfl rfl (by decide +kernel) ⟨Nat.le_of_ble_eq_true rfl, Nat.le_of_ble_eq_true rfl⟩) rfl rfl (Nat.le_of_ble_eq_true rfl) ⟨Nat.le_of_ble_eq_true rfl, Nat.le_of_ble_eq_true rfl⟩ ⟨Nat.le_of_ble_eq_true rfl, Nat.le_of_ble_eq_true rfl⟩ dX4_common_8 (fun E u9 hq => ⟨u9, hx9 E u9 hq, fun _ _ w9 => w9⟩) (fun r5 σ6 hq => ?_)
  have h := h r5 σ6 hq
  show G K (CL y σ6) (2, 12) [(3, vM y r2), (0, .ref (y.1 0 0 0)), (1, .int (iZ v1)), (2, .int (iZ v2))] 11 [vM y r5]
  refine g_astoreM C.1 (i := 4) (loc' := [(3, vM y r2), (0, .ref (y.1 0 0 0)), (1, .int (iZ v1)), (2, .int (iZ v2))]) C.2.1 dX4_common_11 (by decide) (by simp [vM_cat, cat_i, cat_r, cat_l]) ?_
  refine g_aloadM_n C.1 1 dX4_common_13 rfl rfl ?_
  refine g_astoreM C.1 (i := 5) (loc' := [(4, vM y r5), (3, vM y r2), (0, .ref (y.1 0 0 0)), (1, .int (iZ v1)), (2, .int (iZ v2))]) C.2.1 dX4_common_14 (by decide) (by simp [vM_cat, cat_i, cat_r, cat_l]) ?_
  exact g_sub [1, 0] rfl h
set_option maxRecDepth 100000 in
set_option maxHeartbeats 4000000 in
theorem b_X4_common_1 {K : KT} {y : LT} {post : Int → CS → Prop} {px : String → CS → Prop} (C : C_X4_common K y post px) {p_descendsFrom : CS → Int → Int → Prop} {f_descendsFrom : CS → Int → Int → Bool} (h_descendsFrom : H_X1_descendsFrom p_descendsFrom f_descendsFrom) {σ : CS} {v4 v5 : Int} (h : ((v5 < 0 → post ((-1)) σ) ∧ (¬ v5 < 0 → (-1 ≤ v5 ∧ v5 < (σ 21 0 0 0)) ∧ (-1 ≤ v4 ∧ v4 < (σ 21 0 0 0)) ∧ ((v5 = v4 → (0 ≤ v5 ∧ v5 < (σ 21 0 0 0)) ∧ post v5 σ) ∧ (¬ v5 = v4 → (p_descendsFrom σ v4 v5) ∧ (0 ≤ v4 ∧ v4 < (σ 21 0 0 0)) ∧ ((¬ (f_descendsFrom σ v4 v5 = true) → (0 ≤ v5 ∧ v5 < (σ 21 0 0 0)) ∧ P_X4_common_1 K y σ v4 (σ 9 v5 0 0)) ∧ (f_descendsFrom σ v4 v5 = true → (0 ≤ v5 ∧ v5 < (σ 21 0 0 0)) ∧ post v5 σ))))))) : P_X4_common_1 K y σ v4 v5 := by
  refine g_aloadM C.1 1 dX4_common_16 rfl ?_
  refine g_ifnull C.1 (tgt := 54) dX4_common_18 (by decide) (fun hc => ?_) (fun hc => ?_)
  · have h := h.1 hc
    refine g_iconst C.1 (z := (-1)) dX4_common_54 ?_
    exact y_iret C.1 C.2.2.1 rfl ⟨Nat.le_of_ble_eq_true rfl, Nat.le_of_ble_eq_true rfl⟩ dX4_common_55 h
  · have h := h.2 hc
    refine g_aloadM C.1 1 dX4_common_21 rfl ?_
    refine g_aloadM C.1 0 dX4_common_23 rfl ?_
    obtain ⟨hm1, h⟩ := h
    obtain ⟨hm2, h⟩ := h
    refine c_acmp_eq C.1 (tgt := 38) dX4_common_25 (by decide) hm1 hm2 (fun hc => ?_) (fun hc => ?_)
    · have h := h.1 hc
      refine g_aloadM C.1 1 dX4_common_38 rfl ?_
      obtain ⟨hd3, h⟩ := h
      refine c_atM hd3.1 ?_
      refine c_get C.1 (ci := 2) (q := (RX1, TX1, 6)) rfl rfl inX4_common_X1 0 (by decide) (v := .int (iZ v5)) rfl lk_X4_common_f199 rfl dX4_common_40 ⟨hd3.1, hd3.2, rfl⟩ ?_
      exact y_iret C.1 C.2.2.1 rfl ⟨Nat.le_of_ble_eq_true rfl, Nat.le_of_ble_eq_true rfl⟩ dX4_common_43 h
    · have h := h.2 hc
      refine g_aloadM C.1 0 dX4_common_28 rfl ?_
      refine g_aloadM C.1 1 dX4_common_30 rfl ?_
      obtain ⟨hp4, h⟩ := h
      obtain ⟨hd5, h⟩ := h
      refine c_callV C.1 C.2.2.2.1 C.2.2.2.2.1 (c_Mrecv hd5.1 (h_descendsFrom K.l y σ v4 v5 hp4)) (rest := []) (ci := 2) (q := (RX1, TX1, 6)) rfl (c_recv rfl ⟨hd5.1, hd5.2, rfl⟩) (fun ht => cwV 1 ht gX4_common_X1_descendsFrom rfl rfl rfl (by decide +kernel) ⟨Nat.le_of_ble_eq_true rfl, Nat.le_of_ble_eq_true rfl⟩) rfl (by rw [vM_ref hd5.1]; rfl) (Nat.le_of_ble_eq_true rfl) ⟨Nat.le_of_ble_eq_true rfl, Nat.le_of_ble_eq_true rfl⟩ dX4_common_32 (fun r σ9 hq => ?_)
      rw [hq.1, hq.2]
      show G K (CL y σ) (2, 12) [(4, vM y v4), (5, vM y v5)] 35 [.int (iZ (if f_descendsFrom σ v4 v5 = true then 1 else 0))]
      refine g_ifb_eq C.1 (tgt := 44) dX4_common_35 (by decide) (fun hc => ?_) (fun hc => ?_)
      · have h := h.1 hc
        refine g_aloadM C.1 1 dX4_common_44 rfl ?_
        obtain ⟨hd6, h⟩ := h
        refine c_atM hd6.1 ?_
        refine c_get C.1 (ci := 2) (q := (RX1, TX1, 6)) rfl rfl inX4_common_X1 1 (by decide) (v := vM y (σ 9 v5 0 0)) rfl lk_X4_common_f202 rfl dX4_common_46 ⟨hd6.1, hd6.2, rfl⟩ ?_
        refine g_astoreM C.1 (i := 5) (loc' := [(4, vM y v4)]) C.2.1 dX4_common_49 (by decide) (by simp [vM_cat, cat_i, cat_r, cat_l]) ?_
        refine g_goto C.1 (tgt := 16) dX4_common_51 (by decide) ?_
        exact g_sub [1, 0] rfl h
      · have h := h.2 hc
        refine g_aloadM C.1 1 dX4_common_38 rfl ?_
        obtain ⟨hd7, h⟩ := h
        refine c_atM hd7.1 ?_
        refine c_get C.1 (ci := 2) (q := (RX1, TX1, 6)) rfl rfl inX4_common_X1 0 (by decide) (v := .int (iZ v5)) rfl lk_X4_common_f199 rfl dX4_common_40 ⟨hd7.1, hd7.2, rfl⟩ ?_
        exact y_iret C.1 C.2.2.1 rfl ⟨Nat.le_of_ble_eq_true rfl, Nat.le_of_ble_eq_true rfl⟩ dX4_common_43 h
theorem m_X4_common {l : Launch} {y : LT} {σ : CS} {v1 v2 : Int} {post : Int → CS → Prop} {px : String → CS → Prop} (h : ∀ K : KT, K.l = l → C_X4_common K y post px → P_X4_common_0 K y σ v1 v2) : vMet l yX4_common wsX4_common rm_X4_common y.2.2 (CL y) rkI [.ref (y.1 0 0 0), .int (iZ v1), .int (iZ v2)] σ post px :=
  vMet.of (maxL := 6) (by decide +kernel) rfl (Nat.le_of_ble_eq_true rfl) (fun K h1 h2 h3 h4 h5 h6 h7 => h K h1 ⟨h2, h3, h4, h5, h6, h7⟩)
def H_X4_common (p : CS → Int → Int → Prop) (o : CS → Int → Int → Int → CS → Prop) (x : CS → Int → Int → String → CS → Prop) : Prop := ∀ (l : Launch) (y : LT) (σ : CS) (v1 v2 : Int), p σ v1 v2 → vMet l yX4_common wsX4_common rm_X4_common y.2.2 (CL y) rkI [.ref (y.1 0 0 0), .int (iZ v1), .int (iZ v2)] σ (fun r σ' => o σ v1 v2 r σ') (x σ v1 v2)

/-! X4_find -/
abbrev rm_X4_find : Room := { frames := 7, cells := 2, slots := 12, locals := 121 }
set_option maxRecDepth 20000 in
theorem inX4_find_X1 : ∀ w ∈ wsX10, w ∈ wsX4_find := by decide +kernel
set_option maxRecDepth 20000 in
theorem at_X4_find_66 : ∀ w ∈ (vx_atS RX4 66 "java/lang/IllegalArgumentException" ["java/lang/RuntimeException", "java/lang/Exception"]).filter goodWord, w ∈ wsX4_find := fun w h => by
  unfold wsX4_find
  simp only [List.mem_cons, List.mem_append]
  simp only [h, or_true, true_or]
set_option maxRecDepth 20000 in
theorem inX4_find_X3 : ∀ w ∈ wsX30, w ∈ wsX4_find := by decide +kernel
theorem lk_X4_find_f88 : Cond.fieldLink RX4 88 "CopyHouse$Manuscript" "text" "LCopyHouse$Text;" ∈ wsX4_find := List.mem_of_getElem? (i := 3) (by decide +kernel)
theorem lk_X4_find_cl62 : Cond.classLink RX4 62 "java/lang/IllegalArgumentException" ∈ wsX4_find := List.mem_of_getElem? (i := 1) (by decide +kernel)
theorem lk_X4_find_ini_IllegalArgumentException : Cond.initialized "java/lang/IllegalArgumentException" ∈ wsX4_find := List.mem_of_getElem? (i := 2) (by decide +kernel)
theorem lk_X4_find_f93 : Cond.fieldLink RX4 93 "CopyHouse$Text" "length" "I" ∈ wsX4_find := List.mem_of_getElem? (i := 4) (by decide +kernel)
def C_X4_find (K : KT) (y : LT) (post : Int → CS → Prop) (px : String → CS → Prop) : Prop := kOK K cX4_find RX4 wsX4_find (some .int) rm_X4_find ∧ K.nL = 7 ∧ kQX K (CL y) rkI post px rm_X4_find ∧ SF y.2.2 K.A K.s K.s.heap ∧ K.l.stackTraces = false ∧ kNX K
def P_X4_find_0 (K : KT) (y : LT) (σ : CS) (v1 v2 v3 v4 : Int) : Prop := G K (CL y σ) (0, 0) [(0, .ref (y.1 0 0 0)), (1, .int (iZ v1)), (2, .int (iZ v2)), (3, .int (iZ v3)), (4, .int (iZ v4))] 0 []
def P_X4_find_1 (K : KT) (y : LT) (σ : CS) (v3 v4 v5 v6 : Int) : Prop := G K (CL y σ) (1, 6) [(3, .int (iZ v3)), (4, .int (iZ v4)), (5, .ref (y.1 8 v5 0)), (6, .int (iZ v6))] 58 []
set_option maxRecDepth 100000 in
set_option maxHeartbeats 4000000 in
theorem b_X4_find_0 {K : KT} {y : LT} {post : Int → CS → Prop} {px : String → CS → Prop} (C : C_X4_find K y post px) {p_manuscriptOf : CS → Int → Prop} {o_manuscriptOf : CS → Int → Int → CS → Prop} {x_manuscriptOf : CS → Int → String → CS → Prop} (h_manuscriptOf : H_X4_manuscriptOf p_manuscriptOf o_manuscriptOf x_manuscriptOf) {p_isLetter : CS → Int → Prop} {f_isLetter : CS → Int → Bool} (h_isLetter : H_X4_isLetter p_isLetter f_isLetter) {σ : CS} {v1 v2 v3 v4 : Int} (h : (p_manuscriptOf σ v1) ∧ (∀ (E : String) (u9 : CS), x_manuscriptOf σ v1 E u9 → px E u9) ∧ ∀ (r2 : Int) (σ3 : CS), o_manuscriptOf σ v1 r2 σ3 → (0 ≤ r2 ∧ r2 < (σ3 21 0 0 0)) ∧ (-2147483648 ≤ v2 ∧ v2 < 2147483648) ∧ ((0 ≤ v2 → (p_isLetter σ3 v3) ∧ ((¬ (f_isLetter σ3 v3 = true) → px "java/lang/IllegalArgumentException" σ3) ∧ (f_isLetter σ3 v3 = true → (-2147483648 ≤ v4 ∧ v4 < 2147483648) ∧ ((v4 = ((-1)) → P_X4_find_1 K y σ3 v3 v4 (r2 + 3) v2) ∧ (¬ v4 = ((-1)) → (p_isLetter σ3 v4) ∧ ((f_isLetter σ3 v4 = true → P_X4_find_1 K y σ3 v3 v4 (r2 + 3) v2) ∧ (¬ (f_isLetter σ3 v4 = true) → px "java/lang/IllegalArgumentException" σ3))))))) ∧ (¬ 0 ≤ v2 → px "java/lang/IllegalArgumentException" σ3))) : P_X4_find_0 K y σ v1 v2 v3 v4 := by
  refine g_aload_n C.1 0 dX4_find_0 rfl rfl ?_
  refine g_iload_n C.1 1 dX4_find_1 rfl rfl ?_
  obtain ⟨hp1, h⟩ := h
  obtain ⟨hx9, h⟩ := h
  refine c_callX C.1 C.2.2.1 C.2.2.2.2.2 C.2.2.2.1 C.2.2.2.2.1 (h_manuscriptOf K.l y σ v1 hp1) (ci := 5) (q := (RX4, TX4, 10)) rfl (c_recv rfl ⟨rfl, rfl⟩) (fun ht => cwV 1 ht gX4_find_X4_manuscriptOf rfl rfl rfl (by decide +kernel) ⟨Nat.le_of_ble_eq_true rfl, Nat.le_of_ble_eq_true rfl⟩) rfl rfl (Nat.le_of_ble_eq_true rfl) ⟨Nat.le_of_ble_eq_true rfl, Nat.le_of_ble_eq_true rfl⟩ ⟨Nat.le_of_ble_eq_true rfl, Nat.le_of_ble_eq_true rfl⟩ dX4_find_2 (fun E u9 hq => ⟨u9, hx9 E u9 hq, fun _ _ w9 => w9⟩) (fun r2 σ3 hq => ?_)
  have h := h r2 σ3 hq
  show G K (CL y σ3) (1, 6) [(0, .ref (y.1 0 0 0)), (1, .int (iZ v1)), (2, .int (iZ v2)), (3, .int (iZ v3)), (4, .int (iZ v4))] 5 [vM y r2]
  obtain ⟨hd4, h⟩ := h
  refine c_atM hd4.1 ?_
  refine c_get C.1 (ci := 2) (q := (RX1, TX1, 6)) rfl rfl inX4_find_X1 4 (by decide) (v := .ref (y.1 8 (r2 + 3) 0)) rfl lk_X4_find_f88 rfl dX4_find_5 ⟨hd4.1, hd4.2, rfl⟩ ?_
  refine g_astore C.1 (i := 5) (loc' := [(5, .ref (y.1 8 (r2 + 3) 0)), (0, .ref (y.1 0 0 0)), (1, .int (iZ v1)), (2, .int (iZ v2)), (3, .int (iZ v3)), (4, .int (iZ v4))]) C.2.1 dX4_find_8 (by decide) rfl ?_
  refine g_iload_n C.1 3 dX4_find_10 rfl rfl ?_
  obtain ⟨hc5, h⟩ := h
  refine g_if_ge C.1 (tgt := 24) dX4_find_11 (by decide) hc5 (fun hc => ?_) (fun hc => ?_)
  · have h := h.1 hc
    refine g_iload_n C.1 4 dX4_find_24 rfl rfl ?_
    obtain ⟨hp6, h⟩ := h
    refine c_callS C.1 C.2.2.2.1 C.2.2.2.2.1 (h_isLetter K.l y σ3 v3 hp6) (fun ht => va_cwS 1 ht gX4_find_X4_isLetter rfl rfl rfl (by decide +kernel) ⟨Nat.le_of_ble_eq_true rfl, Nat.le_of_ble_eq_true rfl⟩) rfl rfl (Nat.le_of_ble_eq_true rfl) ⟨Nat.le_of_ble_eq_true rfl, Nat.le_of_ble_eq_true rfl⟩ dX4_find_25 (fun r σ9 hq => ?_)
    rw [hq.1, hq.2]
    show G K (CL y σ3) (1, 6) [(5, .ref (y.1 8 (r2 + 3) 0)), (0, .ref (y.1 0 0 0)), (1, .int (iZ v1)), (2, .int (iZ v2)), (3, .int (iZ v3)), (4, .int (iZ v4))] 28 [.int (iZ (if f_isLetter σ3 v3 = true then 1 else 0))]
    refine g_ifb_eq C.1 (tgt := 45) dX4_find_28 (by decide) (fun hc => ?_) (fun hc => ?_)
    · have h := h.1 hc
      exact y_throw C.1 C.2.2.1 C.2.2.2.1 C.2.2.2.2.1 C.2.2.2.2.2 (E := "java/lang/IllegalArgumentException") (text := "no such letter") (ik := 62) (is := 124) (ic := 66) (by decide +kernel) lk_X4_find_cl62 lk_X4_find_ini_IllegalArgumentException (by decide +kernel) at_X4_find_66 (by decide +kernel) (by decide +kernel) (by decide +kernel) dX4_find_45 dX4_find_48 dX4_find_49 dX4_find_51 dX4_find_54 (Nat.le_of_ble_eq_true rfl) (Nat.le_of_ble_eq_true rfl) (Nat.le_of_ble_eq_true rfl) (Nat.le_of_ble_eq_true rfl) ⟨(Nat.le_of_ble_eq_true rfl), (Nat.le_of_ble_eq_true rfl)⟩ h
    · have h := h.2 hc
      refine g_iload C.1 5 dX4_find_31 rfl ?_
      refine g_iconst C.1 (z := (-1)) dX4_find_33 ?_
      obtain ⟨hc7, h⟩ := h
      refine g_icmp_eq C.1 (tgt := 55) dX4_find_34 (by decide) hc7 (by decide) (fun hc => ?_) (fun hc => ?_)
      · have h := h.1 hc
        refine g_iload_n C.1 3 dX4_find_55 rfl rfl ?_
        refine g_istore C.1 (i := 6) (loc' := [(6, .int (iZ v2)), (5, .ref (y.1 8 (r2 + 3) 0)), (0, .ref (y.1 0 0 0)), (1, .int (iZ v1)), (2, .int (iZ v2)), (3, .int (iZ v3)), (4, .int (iZ v4))]) C.2.1 dX4_find_56 (by decide) rfl ?_
        exact g_sub [5, 6, 1, 0] rfl h
      · have h := h.2 hc
        refine g_iload C.1 5 dX4_find_37 rfl ?_
        obtain ⟨hp8, h⟩ := h
        refine c_callS C.1 C.2.2.2.1 C.2.2.2.2.1 (h_isLetter K.l y σ3 v4 hp8) (fun ht => va_cwS 1 ht gX4_find_X4_isLetter rfl rfl rfl (by decide +kernel) ⟨Nat.le_of_ble_eq_true rfl, Nat.le_of_ble_eq_true rfl⟩) rfl rfl (Nat.le_of_ble_eq_true rfl) ⟨Nat.le_of_ble_eq_true rfl, Nat.le_of_ble_eq_true rfl⟩ dX4_find_39 (fun r σ9 hq => ?_)
        rw [hq.1, hq.2]
        show G K (CL y σ3) (1, 6) [(5, .ref (y.1 8 (r2 + 3) 0)), (0, .ref (y.1 0 0 0)), (1, .int (iZ v1)), (2, .int (iZ v2)), (3, .int (iZ v3)), (4, .int (iZ v4))] 42 [.int (iZ (if f_isLetter σ3 v4 = true then 1 else 0))]
        refine g_ifb_ne C.1 (tgt := 55) dX4_find_42 (by decide) (fun hc => ?_) (fun hc => ?_)
        · have h := h.1 hc
          refine g_iload_n C.1 3 dX4_find_55 rfl rfl ?_
          refine g_istore C.1 (i := 6) (loc' := [(6, .int (iZ v2)), (5, .ref (y.1 8 (r2 + 3) 0)), (0, .ref (y.1 0 0 0)), (1, .int (iZ v1)), (2, .int (iZ v2)), (3, .int (iZ v3)), (4, .int (iZ v4))]) C.2.1 dX4_find_56 (by decide) rfl ?_
          exact g_sub [5, 6, 1, 0] rfl h
        · have h := h.2 hc
          exact y_throw C.1 C.2.2.1 C.2.2.2.1 C.2.2.2.2.1 C.2.2.2.2.2 (E := "java/lang/IllegalArgumentException") (text := "no such letter") (ik := 62) (is := 124) (ic := 66) (by decide +kernel) lk_X4_find_cl62 lk_X4_find_ini_IllegalArgumentException (by decide +kernel) at_X4_find_66 (by decide +kernel) (by decide +kernel) (by decide +kernel) dX4_find_45 dX4_find_48 dX4_find_49 dX4_find_51 dX4_find_54 (Nat.le_of_ble_eq_true rfl) (Nat.le_of_ble_eq_true rfl) (Nat.le_of_ble_eq_true rfl) (Nat.le_of_ble_eq_true rfl) ⟨(Nat.le_of_ble_eq_true rfl), (Nat.le_of_ble_eq_true rfl)⟩ h
  · have h := h.2 hc
    exact y_throw C.1 C.2.2.1 C.2.2.2.1 C.2.2.2.2.1 C.2.2.2.2.2 (E := "java/lang/IllegalArgumentException") (text := "no such place") (ik := 62) (is := 98) (ic := 66) (by decide +kernel) lk_X4_find_cl62 lk_X4_find_ini_IllegalArgumentException (by decide +kernel) at_X4_find_66 (by decide +kernel) (by decide +kernel) (by decide +kernel) dX4_find_14 dX4_find_17 dX4_find_18 dX4_find_20 dX4_find_23 (Nat.le_of_ble_eq_true rfl) (Nat.le_of_ble_eq_true rfl) (Nat.le_of_ble_eq_true rfl) (Nat.le_of_ble_eq_true rfl) ⟨(Nat.le_of_ble_eq_true rfl), (Nat.le_of_ble_eq_true rfl)⟩ h
set_option maxRecDepth 100000 in
set_option maxHeartbeats 4000000 in
theorem b_X4_find_1 {K : KT} {y : LT} {post : Int → CS → Prop} {px : String → CS → Prop} (C : C_X4_find K y post px) {p_has : CS → Int → Int → Int → Prop} {f_has : CS → Int → Int → Int → Bool} (h_has : H_X3_has p_has f_has) {σ : CS} {v3 v4 v5 v6 : Int} (h : (0 ≤ v5 ∧ v5 < (σ 21 0 0 0) + 3) ∧ (-2147483648 ≤ v6 ∧ v6 < 2147483648) ∧ (-2147483648 ≤ (σ 5 v5 0 0) ∧ (σ 5 v5 0 0) < 2147483648) ∧ (((σ 5 v5 0 0) ≤ v6 → post ((-1)) σ) ∧ (¬ (σ 5 v5 0 0) ≤ v6 → (p_has σ v5 v6 (97 + v3)) ∧ ((¬ (f_has σ v5 v6 (97 + v3) = true) → P_X4_find_1 K y σ v3 v4 v5 (v6 + 1)) ∧ (f_has σ v5 v6 (97 + v3) = true → (-2147483648 ≤ v4 ∧ v4 < 2147483648) ∧ ((v4 = ((-1)) → post v6 σ) ∧ (¬ v4 = ((-1)) → (p_has σ v5 (v6 + 1) (97 + v4)) ∧ ((¬ (f_has σ v5 (v6 + 1) (97 + v4) = true) → P_X4_find_1 K y σ v3 v4 v5 (v6 + 1)) ∧ (f_has σ v5 (v6 + 1) (97 + v4) = true → post v6 σ))))))))) : P_X4_find_1 K y σ v3 v4 v5 v6 := by
  refine g_iload C.1 3 dX4_find_58 rfl ?_
  refine g_aload C.1 2 dX4_find_60 rfl ?_
  obtain ⟨hd1, h⟩ := h
  refine c_get C.1 (ci := 4) (q := (RX3, TX3, 2)) rfl rfl inX4_find_X3 1 (by decide) (v := .int (iZ (σ 5 v5 0 0))) rfl lk_X4_find_f93 rfl dX4_find_62 ⟨hd1.1, hd1.2, rfl⟩ ?_
  obtain ⟨hc2, h⟩ := h
  obtain ⟨hc3, h⟩ := h
  refine g_icmp_ge C.1 (tgt := 114) dX4_find_65 (by decide) hc2 hc3 (fun hc => ?_) (fun hc => ?_)
  · have h := h.1 hc
    refine g_iconst C.1 (z := (-1)) dX4_find_114 ?_
    exact y_iret C.1 C.2.2.1 rfl ⟨Nat.le_of_ble_eq_true rfl, Nat.le_of_ble_eq_true rfl⟩ dX4_find_115 h
  · have h := h.2 hc
    refine g_aload C.1 2 dX4_find_68 rfl ?_
    refine g_iload C.1 3 dX4_find_70 rfl ?_
    refine g_bipush C.1 (z := 97) dX4_find_72 (by decide) ?_
    refine g_iload_n C.1 0 dX4_find_74 rfl rfl ?_
    refine g_iadd C.1 (x := 97) (y := v3) dX4_find_75 ?_
    obtain ⟨hp4, h⟩ := h
    refine c_callV C.1 C.2.2.2.1 C.2.2.2.2.1 (h_has K.l y σ v5 v6 (97 + v3) hp4) (ci := 4) (q := (RX3, TX3, 2)) rfl (c_recv rfl ⟨hd1.1, hd1.2, rfl⟩) (fun ht => cwV 2 ht gX4_find_X3_has rfl rfl rfl (by decide +kernel) ⟨Nat.le_of_ble_eq_true rfl, Nat.le_of_ble_eq_true rfl⟩) rfl rfl (Nat.le_of_ble_eq_true rfl) ⟨Nat.le_of_ble_eq_true rfl, Nat.le_of_ble_eq_true rfl⟩ dX4_find_76 (fun r σ9 hq => ?_)
    rw [hq.1, hq.2]
    show G K (CL y σ) (1, 6) [(3, .int (iZ v3)), (4, .int (iZ v4)), (5, .ref (y.1 8 v5 0)), (6, .int (iZ v6))] 79 [.int (iZ (if f_has σ v5 v6 (97 + v3) = true then 1 else 0))]
    refine g_ifb_eq C.1 (tgt := 108) dX4_find_79 (by decide) (fun hc => ?_) (fun hc => ?_)
    · have h := h.1 hc
      refine g_iinc C.1 (z := v6) (w := 1) (loc' := [(6, .int (iZ (v6 + 1))), (3, .int (iZ v3)), (4, .int (iZ v4)), (5, .ref (y.1 8 v5 0))]) 3 C.2.1 dX4_find_108 rfl (by decide) rfl ?_
      refine g_goto C.1 (tgt := 58) dX4_find_111 (by decide) ?_
      exact g_sub [1, 2, 3, 0] rfl h
    · have h := h.2 hc
      refine g_iload C.1 1 dX4_find_82 rfl ?_
      refine g_iconst C.1 (z := (-1)) dX4_find_84 ?_
      obtain ⟨hc5, h⟩ := h
      refine g_icmp_eq C.1 (tgt := 105) dX4_find_85 (by decide) hc5 (by decide) (fun hc => ?_) (fun hc => ?_)
      · have h := h.1 hc
        refine g_iload C.1 3 dX4_find_105 rfl ?_
        exact y_iret C.1 C.2.2.1 rfl ⟨Nat.le_of_ble_eq_true rfl, Nat.le_of_ble_eq_true rfl⟩ dX4_find_107 h
      · have h := h.2 hc
        refine g_aload C.1 2 dX4_find_88 rfl ?_
        refine g_iload C.1 3 dX4_find_90 rfl ?_
        refine g_iconst C.1 (z := 1) dX4_find_92 ?_
        refine g_iadd C.1 (x := v6) (y := 1) dX4_find_93 ?_
        refine g_bipush C.1 (z := 97) dX4_find_94 (by decide) ?_
        refine g_iload C.1 1 dX4_find_96 rfl ?_
        refine g_iadd C.1 (x := 97) (y := v4) dX4_find_98 ?_
        obtain ⟨hp6, h⟩ := h
        refine c_callV C.1 C.2.2.2.1 C.2.2.2.2.1 (h_has K.l y σ v5 (v6 + 1) (97 + v4) hp6) (ci := 4) (q := (RX3, TX3, 2)) rfl (c_recv rfl ⟨hd1.1, hd1.2, rfl⟩) (fun ht => cwV 2 ht gX4_find_X3_has rfl rfl rfl (by decide +kernel) ⟨Nat.le_of_ble_eq_true rfl, Nat.le_of_ble_eq_true rfl⟩) rfl rfl (Nat.le_of_ble_eq_true rfl) ⟨Nat.le_of_ble_eq_true rfl, Nat.le_of_ble_eq_true rfl⟩ dX4_find_99 (fun r σ9 hq => ?_)
        rw [hq.1, hq.2]
        show G K (CL y σ) (1, 6) [(3, .int (iZ v3)), (4, .int (iZ v4)), (5, .ref (y.1 8 v5 0)), (6, .int (iZ v6))] 102 [.int (iZ (if f_has σ v5 (v6 + 1) (97 + v4) = true then 1 else 0))]
        refine g_ifb_eq C.1 (tgt := 108) dX4_find_102 (by decide) (fun hc => ?_) (fun hc => ?_)
        · have h := h.1 hc
          refine g_iinc C.1 (z := v6) (w := 1) (loc' := [(6, .int (iZ (v6 + 1))), (3, .int (iZ v3)), (4, .int (iZ v4)), (5, .ref (y.1 8 v5 0))]) 3 C.2.1 dX4_find_108 rfl (by decide) rfl ?_
          refine g_goto C.1 (tgt := 58) dX4_find_111 (by decide) ?_
          exact g_sub [1, 2, 3, 0] rfl h
        · have h := h.2 hc
          refine g_iload C.1 3 dX4_find_105 rfl ?_
          exact y_iret C.1 C.2.2.1 rfl ⟨Nat.le_of_ble_eq_true rfl, Nat.le_of_ble_eq_true rfl⟩ dX4_find_107 h
theorem m_X4_find {l : Launch} {y : LT} {σ : CS} {v1 v2 v3 v4 : Int} {post : Int → CS → Prop} {px : String → CS → Prop} (h : ∀ K : KT, K.l = l → C_X4_find K y post px → P_X4_find_0 K y σ v1 v2 v3 v4) : vMet l yX4_find wsX4_find rm_X4_find y.2.2 (CL y) rkI [.ref (y.1 0 0 0), .int (iZ v1), .int (iZ v2), .int (iZ v3), .int (iZ v4)] σ post px :=
  vMet.of (maxL := 7) (by decide +kernel) rfl (Nat.le_of_ble_eq_true rfl) (fun K h1 h2 h3 h4 h5 h6 h7 => h K h1 ⟨h2, h3, h4, h5, h6, h7⟩)
def H_X4_find (p : CS → Int → Int → Int → Int → Prop) (o : CS → Int → Int → Int → Int → Int → CS → Prop) (x : CS → Int → Int → Int → Int → String → CS → Prop) : Prop := ∀ (l : Launch) (y : LT) (σ : CS) (v1 v2 v3 v4 : Int), p σ v1 v2 v3 v4 → vMet l yX4_find wsX4_find rm_X4_find y.2.2 (CL y) rkI [.ref (y.1 0 0 0), .int (iZ v1), .int (iZ v2), .int (iZ v3), .int (iZ v4)] σ (fun r σ' => o σ v1 v2 v3 v4 r σ') (x σ v1 v2 v3 v4)

/-! X4_tapeIsText -/
abbrev rm_X4_tapeIsText : Room := { frames := 1, cells := 0, slots := 0, locals := 20 }
set_option maxRecDepth 20000 in
theorem inX4_tapeIsText_X4 : ∀ w ∈ wsX40, w ∈ wsX4_tapeIsText := by decide +kernel
theorem lk_X4_tapeIsText_f13 : Cond.fieldLink RX4 13 "CopyHouse" "tapeLength" "I" ∈ wsX4_tapeIsText := List.mem_of_getElem? (i := 1) (by decide +kernel)
theorem lk_X4_tapeIsText_f9 : Cond.fieldLink RX4 9 "CopyHouse" "tape" "[I" ∈ wsX4_tapeIsText := List.mem_of_getElem? (i := 2) (by decide +kernel)
def C_X4_tapeIsText (K : KT) (y : LT) (post : Int → CS → Prop) : Prop := kOK K cX4_tapeIsText RX4 wsX4_tapeIsText (some .boolean) rm_X4_tapeIsText ∧ K.nL = 2 ∧ kQ K (CL y) rkI post rm_X4_tapeIsText ∧ SF y.2.2 K.A K.s K.s.heap ∧ K.l.stackTraces = false
def P_X4_tapeIsText_0 (K : KT) (y : LT) (σ : CS) : Prop := G K (CL y σ) (0, 0) [(0, .ref (y.1 0 0 0))] 0 []
def P_X4_tapeIsText_1 (K : KT) (y : LT) (σ : CS) (v1 : Int) : Prop := G K (CL y σ) (0, 0) [(0, .ref (y.1 0 0 0)), (1, .int (iZ v1))] 2 []
set_option maxRecDepth 100000 in
set_option maxHeartbeats 4000000 in
theorem b_X4_tapeIsText_0 {K : KT} {y : LT} {post : Int → CS → Prop} (C : C_X4_tapeIsText K y post) {σ : CS} (h : P_X4_tapeIsText_1 K y σ 0) : P_X4_tapeIsText_0 K y σ := by
  refine g_iconst C.1 (z := 0) dX4_tapeIsText_0 ?_
  refine g_istore_n C.1 (i := 1) (loc' := [(1, .int (iZ 0)), (0, .ref (y.1 0 0 0))]) C.2.1 dX4_tapeIsText_1 rfl (by decide) rfl ?_
  exact g_sub [1, 0] rfl h
set_option maxRecDepth 100000 in
set_option maxHeartbeats 4000000 in
theorem b_X4_tapeIsText_1 {K : KT} {y : LT} {post : Int → CS → Prop} (C : C_X4_tapeIsText K y post) {p_isLetter : CS → Int → Prop} {f_isLetter : CS → Int → Bool} (h_isLetter : H_X4_isLetter p_isLetter f_isLetter) {σ : CS} {v1 : Int} (h : (-2147483648 ≤ v1 ∧ v1 < 2147483648) ∧ (-2147483648 ≤ (σ 0 0 0 0) ∧ (σ 0 0 0 0) < 2147483648) ∧ (((σ 0 0 0 0) ≤ v1 → post ((if ¬ (σ 0 0 0 0) ≤ 0 then 1 else 0)) σ) ∧ (¬ (σ 0 0 0 0) ≤ v1 → (0 ≤ v1 ∧ v1 < 60) ∧ (p_isLetter σ ((σ 1 v1 0 0) - 97)) ∧ ((f_isLetter σ ((σ 1 v1 0 0) - 97) = true → P_X4_tapeIsText_1 K y σ (v1 + 1)) ∧ (¬ (f_isLetter σ ((σ 1 v1 0 0) - 97) = true) → post 0 σ))))) : P_X4_tapeIsText_1 K y σ v1 := by
  refine g_iload_n C.1 1 dX4_tapeIsText_2 rfl rfl ?_
  refine g_aload_n C.1 0 dX4_tapeIsText_3 rfl rfl ?_
  refine c_get C.1 (ci := 5) (q := (RX4, TX4, 10)) rfl rfl inX4_tapeIsText_X4 1 (by decide) (v := .int (iZ (σ 0 0 0 0))) rfl lk_X4_tapeIsText_f13 rfl dX4_tapeIsText_4 ⟨rfl, rfl⟩ ?_
  obtain ⟨hc1, h⟩ := h
  obtain ⟨hc2, h⟩ := h
  refine g_icmp_ge C.1 (tgt := 33) dX4_tapeIsText_7 (by decide) hc1 hc2 (fun hc => ?_) (fun hc => ?_)
  · have h := h.1 hc
    refine g_aload_n C.1 0 dX4_tapeIsText_33 rfl rfl ?_
    refine c_get C.1 (ci := 5) (q := (RX4, TX4, 10)) rfl rfl inX4_tapeIsText_X4 1 (by decide) (v := .int (iZ (σ 0 0 0 0))) rfl lk_X4_tapeIsText_f13 rfl dX4_tapeIsText_34 ⟨rfl, rfl⟩ ?_
    suffices hk : G K (CL y σ) (0, 0) [(0, .ref (y.1 0 0 0)), (1, .int (iZ v1))] 45 [.int (iZ (if ¬ (σ 0 0 0 0) ≤ 0 then 1 else 0))] by
      refine g_if_le C.1 (tgt := 44) dX4_tapeIsText_37 (by decide) hc2 (fun hc => ?_) (fun hc => ?_)
      · refine g_iconst C.1 (z := 0) dX4_tapeIsText_44 ?_
        rw [if_neg (fun q9 => q9 hc)] at hk
        exact hk
      · refine g_iconst C.1 (z := 1) dX4_tapeIsText_40 ?_
        refine g_goto C.1 (tgt := 45) dX4_tapeIsText_41 (by decide) ?_
        rw [if_pos hc] at hk
        exact hk
    exact x_zret C.1 C.2.2.1 rfl ⟨Nat.le_of_ble_eq_true rfl, Nat.le_of_ble_eq_true rfl⟩ dX4_tapeIsText_45 (by by_cases hq : ¬ (σ 0 0 0 0) ≤ 0 <;> simp [hq]) h
  · have h := h.2 hc
    refine g_aload_n C.1 0 dX4_tapeIsText_10 rfl rfl ?_
    refine c_get C.1 (ci := 5) (q := (RX4, TX4, 10)) rfl rfl inX4_tapeIsText_X4 0 (by decide) (v := .ref (y.1 1 0 0)) rfl lk_X4_tapeIsText_f9 rfl dX4_tapeIsText_11 ⟨rfl, rfl⟩ ?_
    refine g_iload_n C.1 1 dX4_tapeIsText_14 rfl rfl ?_
    obtain ⟨hi3, h⟩ := h
    refine c_ald C.1 (N := 60) (f := fun p => σ 1 p 0 0) (e := v1) rfl rfl rfl (by decide) dX4_tapeIsText_15 ⟨rfl, rfl⟩ hi3 ?_
    show G K (CL y σ) (0, 0) [(0, .ref (y.1 0 0 0)), (1, .int (iZ v1))] 16 [.int (iZ (σ 1 v1 0 0))]
    refine g_bipush C.1 (z := 97) dX4_tapeIsText_16 (by decide) ?_
    refine g_isub C.1 (x := σ 1 v1 0 0) (y := 97) dX4_tapeIsText_18 ?_
    obtain ⟨hp4, h⟩ := h
    refine c_callS C.1 C.2.2.2.1 C.2.2.2.2 (h_isLetter K.l y σ ((σ 1 v1 0 0) - 97) hp4) (fun ht => va_cwS 1 ht gX4_tapeIsText_X4_isLetter rfl rfl rfl (by decide +kernel) ⟨Nat.le_of_ble_eq_true rfl, Nat.le_of_ble_eq_true rfl⟩) rfl rfl (Nat.le_of_ble_eq_true rfl) ⟨Nat.le_of_ble_eq_true rfl, Nat.le_of_ble_eq_true rfl⟩ dX4_tapeIsText_19 (fun r σ9 hq => ?_)
    rw [hq.1, hq.2]
    show G K (CL y σ) (0, 0) [(0, .ref (y.1 0 0 0)), (1, .int (iZ v1))] 22 [.int (iZ (if f_isLetter σ ((σ 1 v1 0 0) - 97) = true then 1 else 0))]
    refine g_ifb_ne C.1 (tgt := 27) dX4_tapeIsText_22 (by decide) (fun hc => ?_) (fun hc => ?_)
    · have h := h.1 hc
      refine g_iinc C.1 (z := v1) (w := 1) (loc' := [(1, .int (iZ (v1 + 1))), (0, .ref (y.1 0 0 0))]) 1 C.2.1 dX4_tapeIsText_27 rfl (by decide) rfl ?_
      refine g_goto C.1 (tgt := 2) dX4_tapeIsText_30 (by decide) ?_
      exact g_sub [1, 0] rfl h
    · have h := h.2 hc
      refine g_iconst C.1 (z := 0) dX4_tapeIsText_25 ?_
      exact x_zret C.1 C.2.2.1 rfl ⟨Nat.le_of_ble_eq_true rfl, Nat.le_of_ble_eq_true rfl⟩ dX4_tapeIsText_26 (Or.inl rfl) h
theorem m_X4_tapeIsText {l : Launch} {y : LT} {σ : CS} {post : Int → CS → Prop} (h : ∀ K : KT, K.l = l → C_X4_tapeIsText K y post → P_X4_tapeIsText_0 K y σ) : cMet l yX4_tapeIsText wsX4_tapeIsText rm_X4_tapeIsText y.2.2 (CL y) rkI [.ref (y.1 0 0 0)] σ post :=
  cMet.of (maxL := 2) (by decide +kernel) rfl (Nat.le_of_ble_eq_true rfl) (fun K h1 h2 h3 h4 h5 h6 _ => h K h1 ⟨h2, h3, h4, h5, h6⟩)
def H_X4_tapeIsText (p : CS → Prop) (f : CS → Bool) : Prop := ∀ (l : Launch) (y : LT) (σ : CS), p σ → cMet l yX4_tapeIsText wsX4_tapeIsText rm_X4_tapeIsText y.2.2 (CL y) rkI [.ref (y.1 0 0 0)] σ (fun r σ' => r = (if f σ = true then 1 else 0) ∧ σ' = σ)

/-! X4_draftFromTape -/
abbrev rm_X4_draftFromTape : Room := { frames := 1, cells := 0, slots := 0, locals := 21 }
set_option maxRecDepth 20000 in
theorem inX4_draftFromTape_X4 : ∀ w ∈ wsX40, w ∈ wsX4_draftFromTape := by decide +kernel
set_option maxRecDepth 20000 in
theorem inX4_draftFromTape_X3 : ∀ w ∈ wsX30, w ∈ wsX4_draftFromTape := by decide +kernel
theorem lk_X4_draftFromTape_f35 : Cond.fieldLink RX4 35 "CopyHouse" "draft" "LCopyHouse$Text;" ∈ wsX4_draftFromTape := List.mem_of_getElem? (i := 1) (by decide +kernel)
theorem lk_X4_draftFromTape_f93 : Cond.fieldLink RX4 93 "CopyHouse$Text" "length" "I" ∈ wsX4_draftFromTape := List.mem_of_getElem? (i := 2) (by decide +kernel)
theorem lk_X4_draftFromTape_f13 : Cond.fieldLink RX4 13 "CopyHouse" "tapeLength" "I" ∈ wsX4_draftFromTape := List.mem_of_getElem? (i := 3) (by decide +kernel)
theorem lk_X4_draftFromTape_f9 : Cond.fieldLink RX4 9 "CopyHouse" "tape" "[I" ∈ wsX4_draftFromTape := List.mem_of_getElem? (i := 4) (by decide +kernel)
def C_X4_draftFromTape (K : KT) (y : LT) (post : Int → CS → Prop) : Prop := kOK K cX4_draftFromTape RX4 wsX4_draftFromTape none rm_X4_draftFromTape ∧ K.nL = 2 ∧ kQ K (CL y) rkV post rm_X4_draftFromTape ∧ SF y.2.2 K.A K.s K.s.heap ∧ K.l.stackTraces = false
def P_X4_draftFromTape_0 (K : KT) (y : LT) (σ : CS) : Prop := G K (CL y σ) (0, 0) [(0, .ref (y.1 0 0 0))] 0 []
def P_X4_draftFromTape_1 (K : KT) (y : LT) (σ : CS) (v1 : Int) : Prop := G K (CL y σ) (0, 0) [(0, .ref (y.1 0 0 0)), (1, .int (iZ v1))] 10 []
set_option maxRecDepth 100000 in
set_option maxHeartbeats 4000000 in
theorem b_X4_draftFromTape_0 {K : KT} {y : LT} {post : Int → CS → Prop} (C : C_X4_draftFromTape K y post) {σ : CS} (h : (0 ≤ (σ 21 0 0 0)) ∧ P_X4_draftFromTape_1 K y (upC σ 5 (up1 (σ 5) 0 0)) 0) : P_X4_draftFromTape_0 K y σ := by
  refine g_aload_n C.1 0 dX4_draftFromTape_0 rfl rfl ?_
  refine c_get C.1 (ci := 5) (q := (RX4, TX4, 10)) rfl rfl inX4_draftFromTape_X4 5 (by decide) (v := .ref (y.1 8 0 0)) rfl lk_X4_draftFromTape_f35 rfl dX4_draftFromTape_1 ⟨rfl, rfl⟩ ?_
  refine g_iconst C.1 (z := 0) dX4_draftFromTape_4 ?_
  obtain ⟨hn1, h⟩ := h
  refine c_put C.1 (σ' := upC σ 5 (up1 (σ 5) 0 0)) (ci := 4) (q := (RX3, TX3, 2)) rfl rfl inX4_draftFromTape_X3 tyX3 tyX3_ok nmX3 1 (by decide) (Nat.le_of_ble_eq_true rfl) (v := .int (iZ 0)) (ty := .int) (cu_len _ _ _ _) (CUpd_5 y _ _ _ (fun _ hx => if_neg hx)) lk_X4_draftFromTape_f93 rfl rfl rfl rfl rfl dX4_draftFromTape_5 ⟨by decide, by omega, rfl⟩ ?_
  refine g_iconst C.1 (z := 0) dX4_draftFromTape_8 ?_
  refine g_istore_n C.1 (i := 1) (loc' := [(1, .int (iZ 0)), (0, .ref (y.1 0 0 0))]) C.2.1 dX4_draftFromTape_9 rfl (by decide) rfl ?_
  exact g_sub [1, 0] rfl h
set_option maxRecDepth 100000 in
set_option maxHeartbeats 4000000 in
theorem b_X4_draftFromTape_1 {K : KT} {y : LT} {post : Int → CS → Prop} (C : C_X4_draftFromTape K y post) {p_append : CS → Int → Int → Prop} {o_append : CS → Int → Int → Int → CS → Prop} (h_append : H_X3_append p_append o_append) {σ : CS} {v1 : Int} (h : (-2147483648 ≤ v1 ∧ v1 < 2147483648) ∧ (-2147483648 ≤ (σ 0 0 0 0) ∧ (σ 0 0 0 0) < 2147483648) ∧ (((σ 0 0 0 0) ≤ v1 → post 0 σ) ∧ (¬ (σ 0 0 0 0) ≤ v1 → (0 ≤ v1 ∧ v1 < 60) ∧ (p_append σ 0 (σ 1 v1 0 0)) ∧ (0 ≤ (σ 21 0 0 0)) ∧ ∀ (r6 : Int) (σ7 : CS), o_append σ 0 (σ 1 v1 0 0) r6 σ7 → P_X4_draftFromTape_1 K y σ7 (v1 + 1)))) : P_X4_draftFromTape_1 K y σ v1 := by
  refine g_iload_n C.1 1 dX4_draftFromTape_10 rfl rfl ?_
  refine g_aload_n C.1 0 dX4_draftFromTape_11 rfl rfl ?_
  refine c_get C.1 (ci := 5) (q := (RX4, TX4, 10)) rfl rfl inX4_draftFromTape_X4 1 (by decide) (v := .int (iZ (σ 0 0 0 0))) rfl lk_X4_draftFromTape_f13 rfl dX4_draftFromTape_12 ⟨rfl, rfl⟩ ?_
  obtain ⟨hc1, h⟩ := h
  obtain ⟨hc2, h⟩ := h
  refine g_icmp_ge C.1 (tgt := 37) dX4_draftFromTape_15 (by decide) hc1 hc2 (fun hc => ?_) (fun hc => ?_)
  · have h := h.1 hc
    exact x_vret C.1 C.2.2.1 rfl ⟨Nat.le_of_ble_eq_true rfl, Nat.le_of_ble_eq_true rfl⟩ dX4_draftFromTape_37 h
  · have h := h.2 hc
    refine g_aload_n C.1 0 dX4_draftFromTape_18 rfl rfl ?_
    refine c_get C.1 (ci := 5) (q := (RX4, TX4, 10)) rfl rfl inX4_draftFromTape_X4 5 (by decide) (v := .ref (y.1 8 0 0)) rfl lk_X4_draftFromTape_f35 rfl dX4_draftFromTape_19 ⟨rfl, rfl⟩ ?_
    refine g_aload_n C.1 0 dX4_draftFromTape_22 rfl rfl ?_
    refine c_get C.1 (ci := 5) (q := (RX4, TX4, 10)) rfl rfl inX4_draftFromTape_X4 0 (by decide) (v := .ref (y.1 1 0 0)) rfl lk_X4_draftFromTape_f9 rfl dX4_draftFromTape_23 ⟨rfl, rfl⟩ ?_
    refine g_iload_n C.1 1 dX4_draftFromTape_26 rfl rfl ?_
    obtain ⟨hi3, h⟩ := h
    refine c_ald C.1 (N := 60) (f := fun p => σ 1 p 0 0) (e := v1) rfl rfl rfl (by decide) dX4_draftFromTape_27 ⟨rfl, rfl⟩ hi3 ?_
    show G K (CL y σ) (0, 0) [(0, .ref (y.1 0 0 0)), (1, .int (iZ v1))] 28 [.int (iZ (σ 1 v1 0 0)), .ref (y.1 8 0 0)]
    obtain ⟨hp4, h⟩ := h
    obtain ⟨hn5, h⟩ := h
    refine c_callV C.1 C.2.2.2.1 C.2.2.2.2 (h_append K.l y σ 0 (σ 1 v1 0 0) hp4) (ci := 4) (q := (RX3, TX3, 2)) rfl (c_recv rfl ⟨by decide, by omega, rfl⟩) (fun ht => cwV 1 ht gX4_draftFromTape_X3_append rfl rfl rfl (by decide +kernel) ⟨Nat.le_of_ble_eq_true rfl, Nat.le_of_ble_eq_true rfl⟩) rfl rfl (Nat.le_of_ble_eq_true rfl) ⟨Nat.le_of_ble_eq_true rfl, Nat.le_of_ble_eq_true rfl⟩ dX4_draftFromTape_28 (fun r6 σ7 hq => ?_)
    have h := h r6 σ7 hq
    show G K (CL y σ7) (0, 0) [(0, .ref (y.1 0 0 0)), (1, .int (iZ v1))] 31 []
    refine g_iinc C.1 (z := v1) (w := 1) (loc' := [(1, .int (iZ (v1 + 1))), (0, .ref (y.1 0 0 0))]) 1 C.2.1 dX4_draftFromTape_31 rfl (by decide) rfl ?_
    refine g_goto C.1 (tgt := 10) dX4_draftFromTape_34 (by decide) ?_
    exact g_sub [1, 0] rfl h
theorem m_X4_draftFromTape {l : Launch} {y : LT} {σ : CS} {post : Int → CS → Prop} (h : ∀ K : KT, K.l = l → C_X4_draftFromTape K y post → P_X4_draftFromTape_0 K y σ) : cMet l yX4_draftFromTape wsX4_draftFromTape rm_X4_draftFromTape y.2.2 (CL y) rkV [.ref (y.1 0 0 0)] σ post :=
  cMet.of (maxL := 2) (by decide +kernel) rfl (Nat.le_of_ble_eq_true rfl) (fun K h1 h2 h3 h4 h5 h6 _ => h K h1 ⟨h2, h3, h4, h5, h6⟩)
def H_X4_draftFromTape (p : CS → Prop) (o : CS → Int → CS → Prop) : Prop := ∀ (l : Launch) (y : LT) (σ : CS), p σ → cMet l yX4_draftFromTape wsX4_draftFromTape rm_X4_draftFromTape y.2.2 (CL y) rkV [.ref (y.1 0 0 0)] σ (fun r σ' => o σ r σ')

/-! X4_draftCopy -/
abbrev rm_X4_draftCopy : Room := { frames := 4, cells := 0, slots := 0, locals := 92 }
set_option maxRecDepth 20000 in
theorem inX4_draftCopy_X4 : ∀ w ∈ wsX40, w ∈ wsX4_draftCopy := by decide +kernel
set_option maxRecDepth 20000 in
theorem inX4_draftCopy_X1 : ∀ w ∈ wsX10, w ∈ wsX4_draftCopy := by decide +kernel
set_option maxRecDepth 20000 in
theorem inX4_draftCopy_X2 : ∀ w ∈ wsX20, w ∈ wsX4_draftCopy := by decide +kernel
theorem lk_X4_draftCopy_f35 : Cond.fieldLink RX4 35 "CopyHouse" "draft" "LCopyHouse$Text;" ∈ wsX4_draftCopy := List.mem_of_getElem? (i := 1) (by decide +kernel)
theorem lk_X4_draftCopy_f88 : Cond.fieldLink RX4 88 "CopyHouse$Manuscript" "text" "LCopyHouse$Text;" ∈ wsX4_draftCopy := List.mem_of_getElem? (i := 2) (by decide +kernel)
theorem lk_X4_draftCopy_f128 : Cond.fieldLink RX4 128 "CopyHouse$Scribe" "habits" "Ljava/util/ArrayList;" ∈ wsX4_draftCopy := List.mem_of_getElem? (i := 3) (by decide +kernel)
theorem lk_X4_draftCopy_cc133 : Cond.classLink RX4 133 "CopyHouse$Habit" ∈ wsX4_draftCopy := List.mem_of_getElem? (i := 4) (by decide +kernel)
theorem lk_X4_draftCopy_f39 : Cond.fieldLink RX4 39 "CopyHouse" "spare" "LCopyHouse$Text;" ∈ wsX4_draftCopy := List.mem_of_getElem? (i := 5) (by decide +kernel)
def C_X4_draftCopy (K : KT) (y : LT) (post : Int → CS → Prop) : Prop := kOK K cX4_draftCopy RX4 wsX4_draftCopy none rm_X4_draftCopy ∧ K.nL = 6 ∧ kQ K (CL y) rkV post rm_X4_draftCopy ∧ SF y.2.2 K.A K.s K.s.heap ∧ K.l.stackTraces = false
def P_X4_draftCopy_0 (K : KT) (y : LT) (σ : CS) (v1 v2 v3 : Int) : Prop := G K (CL y σ) (0, 0) [(0, .ref (y.1 0 0 0)), (1, vM y v1), (2, .ref (y.1 13 v2 0)), (3, .int (iZ v3))] 0 []
def P_X4_draftCopy_1 (K : KT) (y : LT) (σ : CS) (v2 v3 v4 : Int) : Prop := G K (CL y σ) (0, 0) [(0, .ref (y.1 0 0 0)), (2, .ref (y.1 13 v2 0)), (3, .int (iZ v3)), (4, .int (iZ v4))] 14 []
def P_X4_draftCopy_2 (K : KT) (y : LT) (σ : CS) (v2 v3 v4 v5 : Int) : Prop := G K (CL y σ) (0, 0) [(0, .ref (y.1 0 0 0)), (2, .ref (y.1 13 v2 0)), (3, .int (iZ v3)), (4, .int (iZ v4)), (5, .int (iZ v5))] 23 []
set_option maxRecDepth 100000 in
set_option maxHeartbeats 4000000 in
theorem b_X4_draftCopy_0 {K : KT} {y : LT} {post : Int → CS → Prop} (C : C_X4_draftCopy K y post) {p_become : CS → Int → Int → Prop} {o_become : CS → Int → Int → Int → CS → Prop} (h_become : H_X3_become p_become o_become) {σ : CS} {v1 v2 v3 : Int} (h : (0 ≤ v1 ∧ v1 < (σ 21 0 0 0)) ∧ (p_become σ 0 (v1 + 3)) ∧ (0 ≤ (σ 21 0 0 0)) ∧ ∀ (r4 : Int) (σ5 : CS), o_become σ 0 (v1 + 3) r4 σ5 → P_X4_draftCopy_1 K y σ5 v2 v3 0) : P_X4_draftCopy_0 K y σ v1 v2 v3 := by
  refine g_aload_n C.1 0 dX4_draftCopy_0 rfl rfl ?_
  refine c_get C.1 (ci := 5) (q := (RX4, TX4, 10)) rfl rfl inX4_draftCopy_X4 5 (by decide) (v := .ref (y.1 8 0 0)) rfl lk_X4_draftCopy_f35 rfl dX4_draftCopy_1 ⟨rfl, rfl⟩ ?_
  refine g_aloadM_n C.1 1 dX4_draftCopy_4 rfl rfl ?_
  obtain ⟨hd1, h⟩ := h
  refine c_atM hd1.1 ?_
  refine c_get C.1 (ci := 2) (q := (RX1, TX1, 6)) rfl rfl inX4_draftCopy_X1 4 (by decide) (v := .ref (y.1 8 (v1 + 3) 0)) rfl lk_X4_draftCopy_f88 rfl dX4_draftCopy_5 ⟨hd1.1, hd1.2, rfl⟩ ?_
  obtain ⟨hp2, h⟩ := h
  obtain ⟨hn3, h⟩ := h
  refine c_callV C.1 C.2.2.2.1 C.2.2.2.2 (h_become K.l y σ 0 (v1 + 3) hp2) (ci := 4) (q := (RX3, TX3, 2)) rfl (c_recv rfl ⟨by decide, by omega, rfl⟩) (fun ht => cwV 1 ht gX4_draftCopy_X3_become rfl rfl rfl (by decide +kernel) ⟨Nat.le_of_ble_eq_true rfl, Nat.le_of_ble_eq_true rfl⟩) rfl rfl (Nat.le_of_ble_eq_true rfl) ⟨Nat.le_of_ble_eq_true rfl, Nat.le_of_ble_eq_true rfl⟩ dX4_draftCopy_8 (fun r4 σ5 hq => ?_)
  have h := h r4 σ5 hq
  show G K (CL y σ5) (0, 0) [(0, .ref (y.1 0 0 0)), (1, vM y v1), (2, .ref (y.1 13 v2 0)), (3, .int (iZ v3))] 11 []
  refine g_iconst C.1 (z := 0) dX4_draftCopy_11 ?_
  refine g_istore C.1 (i := 4) (loc' := [(4, .int (iZ 0)), (0, .ref (y.1 0 0 0)), (1, vM y v1), (2, .ref (y.1 13 v2 0)), (3, .int (iZ v3))]) C.2.1 dX4_draftCopy_12 (by decide) (by simp [vM_cat, cat_i, cat_r, cat_l]) ?_
  exact g_sub [1, 3, 4, 0] rfl h
set_option maxRecDepth 100000 in
set_option maxHeartbeats 4000000 in
theorem b_X4_draftCopy_1 {K : KT} {y : LT} {post : Int → CS → Prop} (C : C_X4_draftCopy K y post) {σ : CS} {v2 v3 v4 : Int} (h : (-2147483648 ≤ v4 ∧ v4 < 2147483648) ∧ (-2147483648 ≤ v3 ∧ v3 < 2147483648) ∧ ((v3 ≤ v4 → post 0 σ) ∧ (¬ v3 ≤ v4 → P_X4_draftCopy_2 K y σ v2 v3 v4 0))) : P_X4_draftCopy_1 K y σ v2 v3 v4 := by
  refine g_iload C.1 3 dX4_draftCopy_14 rfl ?_
  refine g_iload_n C.1 2 dX4_draftCopy_16 rfl rfl ?_
  obtain ⟨hc1, h⟩ := h
  obtain ⟨hc2, h⟩ := h
  refine g_icmp_ge C.1 (tgt := 81) dX4_draftCopy_17 (by decide) hc1 hc2 (fun hc => ?_) (fun hc => ?_)
  · have h := h.1 hc
    exact x_vret C.1 C.2.2.1 rfl ⟨Nat.le_of_ble_eq_true rfl, Nat.le_of_ble_eq_true rfl⟩ dX4_draftCopy_81 h
  · have h := h.2 hc
    refine g_iconst C.1 (z := 0) dX4_draftCopy_20 ?_
    refine g_istore C.1 (i := 5) (loc' := [(5, .int (iZ 0)), (0, .ref (y.1 0 0 0)), (2, .ref (y.1 13 v2 0)), (3, .int (iZ v3)), (4, .int (iZ v4))]) C.2.1 dX4_draftCopy_21 (by decide) rfl ?_
    exact g_sub [1, 2, 3, 4, 0] rfl h
set_option maxRecDepth 100000 in
set_option maxHeartbeats 4000000 in
theorem b_X4_draftCopy_2 {K : KT} {y : LT} {post : Int → CS → Prop} (C : C_X4_draftCopy K y post) {p_sizeH : CS → Int → Prop} {f_sizeH : CS → Int → Int} (h_sizeH : H_sizeH p_sizeH f_sizeH) {p_getH : CS → Int → Int → Prop} {f_getH : CS → Int → Int → Int} (h_getH : H_getH p_getH f_getH) {p_apply : CS → Int → Int → Int → Int → Prop} {o_apply : CS → Int → Int → Int → Int → Int → CS → Prop} (h_apply : H_X0_apply p_apply o_apply) {p_become : CS → Int → Int → Prop} {o_become : CS → Int → Int → Int → CS → Prop} (h_become : H_X3_become p_become o_become) {σ : CS} {v2 v3 v4 v5 : Int} (h : (0 ≤ v2 ∧ v2 < (σ 22 0 0 0)) ∧ (p_sizeH σ v2) ∧ (-2147483648 ≤ v5 ∧ v5 < 2147483648) ∧ (-2147483648 ≤ (f_sizeH σ v2) ∧ (f_sizeH σ v2) < 2147483648) ∧ (((f_sizeH σ v2) ≤ v5 → P_X4_draftCopy_1 K y σ v2 v3 (v4 + 1)) ∧ (¬ (f_sizeH σ v2) ≤ v5 → (p_getH σ v2 v5) ∧ ((0 ≤ v2 ∧ v2 < (σ 22 0 0 0)) ∧ (0 ≤ (f_getH σ v2 v5) ∧ (f_getH σ v2 v5) < (σ 23 v2 0 0))) ∧ (p_apply σ v2 (f_getH σ v2 v5) 0 1) ∧ ∀ (r8 : Int) (σ9 : CS), o_apply σ v2 (f_getH σ v2 v5) 0 1 r8 σ9 → (p_become σ9 0 1) ∧ (0 ≤ (σ9 21 0 0 0)) ∧ ∀ (r12 : Int) (σ13 : CS), o_become σ9 0 1 r12 σ13 → P_X4_draftCopy_2 K y σ13 v2 v3 v4 (v5 + 1)))) : P_X4_draftCopy_2 K y σ v2 v3 v4 v5 := by
  refine g_iload C.1 4 dX4_draftCopy_23 rfl ?_
  refine g_aload_n C.1 1 dX4_draftCopy_25 rfl rfl ?_
  obtain ⟨hd1, h⟩ := h
  refine c_get C.1 (ci := 3) (q := (RX2, TX2, 1)) rfl rfl inX4_draftCopy_X2 0 (by decide) (v := .ref (y.1 14 v2 0)) rfl lk_X4_draftCopy_f128 rfl dX4_draftCopy_26 ⟨hd1.1, hd1.2, rfl⟩ ?_
  obtain ⟨hp2, h⟩ := h
  refine c_callV C.1 C.2.2.2.1 C.2.2.2.2 (h_sizeH K.l y σ v2 hp2) (ci := 0) (q := (RJx4a65c, TJx4a65c, 3)) rfl (c_recv rfl ⟨hd1.1, hd1.2, rfl⟩) (fun ht => cwV 0 ht gX4_draftCopy_Jx4a65c_size_8abf5 rfl rfl rfl (by decide +kernel) ⟨Nat.le_of_ble_eq_true rfl, Nat.le_of_ble_eq_true rfl⟩) rfl rfl (Nat.le_of_ble_eq_true rfl) ⟨Nat.le_of_ble_eq_true rfl, Nat.le_of_ble_eq_true rfl⟩ dX4_draftCopy_29 (fun r σ9 hq => ?_)
  rw [hq.1, hq.2]
  show G K (CL y σ) (0, 0) [(0, .ref (y.1 0 0 0)), (2, .ref (y.1 13 v2 0)), (3, .int (iZ v3)), (4, .int (iZ v4)), (5, .int (iZ v5))] 32 [.int (iZ (f_sizeH σ v2)), .int (iZ v5)]
  obtain ⟨hc3, h⟩ := h
  obtain ⟨hc4, h⟩ := h
  refine g_icmp_ge C.1 (tgt := 75) dX4_draftCopy_32 (by decide) hc3 hc4 (fun hc => ?_) (fun hc => ?_)
  · have h := h.1 hc
    refine g_iinc C.1 (z := v4) (w := 1) (loc' := [(4, .int (iZ (v4 + 1))), (0, .ref (y.1 0 0 0)), (2, .ref (y.1 13 v2 0)), (3, .int (iZ v3)), (5, .int (iZ v5))]) 3 C.2.1 dX4_draftCopy_75 rfl (by decide) rfl ?_
    refine g_goto C.1 (tgt := 14) dX4_draftCopy_78 (by decide) ?_
    exact g_sub [1, 2, 3, 0] rfl h
  · have h := h.2 hc
    refine g_aload_n C.1 1 dX4_draftCopy_35 rfl rfl ?_
    refine c_get C.1 (ci := 3) (q := (RX2, TX2, 1)) rfl rfl inX4_draftCopy_X2 0 (by decide) (v := .ref (y.1 14 v2 0)) rfl lk_X4_draftCopy_f128 rfl dX4_draftCopy_36 ⟨hd1.1, hd1.2, rfl⟩ ?_
    refine g_iload C.1 4 dX4_draftCopy_39 rfl ?_
    obtain ⟨hp5, h⟩ := h
    refine c_callV C.1 C.2.2.2.1 C.2.2.2.2 (h_getH K.l y σ v2 v5 hp5) (ci := 0) (q := (RJx4a65c, TJx4a65c, 3)) rfl (c_recv rfl ⟨hd1.1, hd1.2, rfl⟩) (fun ht => cwV 1 ht gX4_draftCopy_Jx4a65c_get_915e3 rfl rfl rfl (by decide +kernel) ⟨Nat.le_of_ble_eq_true rfl, Nat.le_of_ble_eq_true rfl⟩) rfl rfl (Nat.le_of_ble_eq_true rfl) ⟨Nat.le_of_ble_eq_true rfl, Nat.le_of_ble_eq_true rfl⟩ dX4_draftCopy_41 (fun r σ9 hq => ?_)
    rw [hq.1, hq.2]
    show G K (CL y σ) (0, 0) [(0, .ref (y.1 0 0 0)), (2, .ref (y.1 13 v2 0)), (3, .int (iZ v3)), (4, .int (iZ v4)), (5, .int (iZ v5))] 44 [.ref (y.1 16 v2 (f_getH σ v2 v5))]
    obtain ⟨hd6, h⟩ := h
    refine c_cast C.1 C.2.2.2.1 (ci := 1) (q := (RX0, TX0, 4)) rfl rfl (by decide +kernel) lk_X4_draftCopy_cc133 dX4_draftCopy_44 ⟨hd6.1.1, hd6.1.2, hd6.2.1, hd6.2.2⟩ ?_
    refine g_aload_n C.1 0 dX4_draftCopy_47 rfl rfl ?_
    refine c_get C.1 (ci := 5) (q := (RX4, TX4, 10)) rfl rfl inX4_draftCopy_X4 5 (by decide) (v := .ref (y.1 8 0 0)) rfl lk_X4_draftCopy_f35 rfl dX4_draftCopy_48 ⟨rfl, rfl⟩ ?_
    refine g_aload_n C.1 0 dX4_draftCopy_51 rfl rfl ?_
    refine c_get C.1 (ci := 5) (q := (RX4, TX4, 10)) rfl rfl inX4_draftCopy_X4 6 (by decide) (v := .ref (y.1 8 1 0)) rfl lk_X4_draftCopy_f39 rfl dX4_draftCopy_52 ⟨rfl, rfl⟩ ?_
    obtain ⟨hp7, h⟩ := h
    refine c_callV C.1 C.2.2.2.1 C.2.2.2.2 (h_apply K.l y σ v2 (f_getH σ v2 v5) 0 1 hp7) (ci := 1) (q := (RX0, TX0, 4)) rfl (c_recv rfl ⟨hd6.1.1, hd6.1.2, hd6.2.1, hd6.2.2⟩) (fun ht => cwV 2 ht gX4_draftCopy_X0_apply rfl rfl rfl (by decide +kernel) ⟨Nat.le_of_ble_eq_true rfl, Nat.le_of_ble_eq_true rfl⟩) rfl rfl (Nat.le_of_ble_eq_true rfl) ⟨Nat.le_of_ble_eq_true rfl, Nat.le_of_ble_eq_true rfl⟩ dX4_draftCopy_55 (fun r8 σ9 hq => ?_)
    have h := h r8 σ9 hq
    show G K (CL y σ9) (0, 0) [(0, .ref (y.1 0 0 0)), (2, .ref (y.1 13 v2 0)), (3, .int (iZ v3)), (4, .int (iZ v4)), (5, .int (iZ v5))] 58 []
    refine g_aload_n C.1 0 dX4_draftCopy_58 rfl rfl ?_
    refine c_get C.1 (ci := 5) (q := (RX4, TX4, 10)) rfl rfl inX4_draftCopy_X4 5 (by decide) (v := .ref (y.1 8 0 0)) rfl lk_X4_draftCopy_f35 rfl dX4_draftCopy_59 ⟨rfl, rfl⟩ ?_
    refine g_aload_n C.1 0 dX4_draftCopy_62 rfl rfl ?_
    refine c_get C.1 (ci := 5) (q := (RX4, TX4, 10)) rfl rfl inX4_draftCopy_X4 6 (by decide) (v := .ref (y.1 8 1 0)) rfl lk_X4_draftCopy_f39 rfl dX4_draftCopy_63 ⟨rfl, rfl⟩ ?_
    obtain ⟨hp10, h⟩ := h
    obtain ⟨hn11, h⟩ := h
    refine c_callV C.1 C.2.2.2.1 C.2.2.2.2 (h_become K.l y σ9 0 1 hp10) (ci := 4) (q := (RX3, TX3, 2)) rfl (c_recv rfl ⟨by decide, by omega, rfl⟩) (fun ht => cwV 1 ht gX4_draftCopy_X3_become rfl rfl rfl (by decide +kernel) ⟨Nat.le_of_ble_eq_true rfl, Nat.le_of_ble_eq_true rfl⟩) rfl rfl (Nat.le_of_ble_eq_true rfl) ⟨Nat.le_of_ble_eq_true rfl, Nat.le_of_ble_eq_true rfl⟩ dX4_draftCopy_66 (fun r12 σ13 hq => ?_)
    have h := h r12 σ13 hq
    show G K (CL y σ13) (0, 0) [(0, .ref (y.1 0 0 0)), (2, .ref (y.1 13 v2 0)), (3, .int (iZ v3)), (4, .int (iZ v4)), (5, .int (iZ v5))] 69 []
    refine g_iinc C.1 (z := v5) (w := 1) (loc' := [(5, .int (iZ (v5 + 1))), (0, .ref (y.1 0 0 0)), (2, .ref (y.1 13 v2 0)), (3, .int (iZ v3)), (4, .int (iZ v4))]) 4 C.2.1 dX4_draftCopy_69 rfl (by decide) rfl ?_
    refine g_goto C.1 (tgt := 23) dX4_draftCopy_72 (by decide) ?_
    exact g_sub [1, 2, 3, 4, 0] rfl h
theorem m_X4_draftCopy {l : Launch} {y : LT} {σ : CS} {v1 v2 v3 : Int} {post : Int → CS → Prop} (h : ∀ K : KT, K.l = l → C_X4_draftCopy K y post → P_X4_draftCopy_0 K y σ v1 v2 v3) : cMet l yX4_draftCopy wsX4_draftCopy rm_X4_draftCopy y.2.2 (CL y) rkV [.ref (y.1 0 0 0), vM y v1, .ref (y.1 13 v2 0), .int (iZ v3)] σ post :=
  cMet.of (maxL := 6) (by decide +kernel) rfl (by simp [lg_sl, List.flatMap, vM_cat, cat_i, cat_r, cat_l]) (fun K h1 h2 h3 h4 h5 h6 _ => by
    have h9 := h K h1 ⟨h2, h3, h4, h5, h6⟩
    simp only [lv_args, vM_cat, cat_i, cat_r, cat_l]
    exact h9)
def H_X4_draftCopy (p : CS → Int → Int → Int → Prop) (o : CS → Int → Int → Int → Int → CS → Prop) : Prop := ∀ (l : Launch) (y : LT) (σ : CS) (v1 v2 v3 : Int), p σ v1 v2 v3 → cMet l yX4_draftCopy wsX4_draftCopy rm_X4_draftCopy y.2.2 (CL y) rkV [.ref (y.1 0 0 0), vM y v1, .ref (y.1 13 v2 0), .int (iZ v3)] σ (fun r σ' => o σ v1 v2 v3 r σ')

/-! X4_copiesOf -/
abbrev rm_X4_copiesOf : Room := { frames := 3, cells := 0, slots := 0, locals := 67 }
set_option maxRecDepth 20000 in
theorem inX4_copiesOf_X4 : ∀ w ∈ wsX40, w ∈ wsX4_copiesOf := by decide +kernel
set_option maxRecDepth 20000 in
theorem inX4_copiesOf_X1 : ∀ w ∈ wsX10, w ∈ wsX4_copiesOf := by decide +kernel
theorem lk_X4_copiesOf_f20 : Cond.fieldLink RX4 20 "CopyHouse" "manuscripts" "Ljava/util/ArrayList;" ∈ wsX4_copiesOf := List.mem_of_getElem? (i := 1) (by decide +kernel)
theorem lk_X4_copiesOf_cc89 : Cond.classLink RX4 89 "CopyHouse$Manuscript" ∈ wsX4_copiesOf := List.mem_of_getElem? (i := 2) (by decide +kernel)
theorem lk_X4_copiesOf_f202 : Cond.fieldLink RX4 202 "CopyHouse$Manuscript" "exemplar" "LCopyHouse$Manuscript;" ∈ wsX4_copiesOf := List.mem_of_getElem? (i := 3) (by decide +kernel)
def C_X4_copiesOf (K : KT) (y : LT) (post : Int → CS → Prop) : Prop := kOK K cX4_copiesOf RX4 wsX4_copiesOf (some .int) rm_X4_copiesOf ∧ K.nL = 4 ∧ kQ K (CL y) rkI post rm_X4_copiesOf ∧ SF y.2.2 K.A K.s K.s.heap ∧ K.l.stackTraces = false
def P_X4_copiesOf_0 (K : KT) (y : LT) (σ : CS) (v1 : Int) : Prop := G K (CL y σ) (0, 0) [(0, .ref (y.1 0 0 0)), (1, vM y v1)] 0 []
def P_X4_copiesOf_1 (K : KT) (y : LT) (σ : CS) (v1 v2 v3 : Int) : Prop := G K (CL y σ) (0, 0) [(0, .ref (y.1 0 0 0)), (1, vM y v1), (2, .int (iZ v2)), (3, .int (iZ v3))] 4 []
set_option maxRecDepth 100000 in
set_option maxHeartbeats 4000000 in
theorem b_X4_copiesOf_0 {K : KT} {y : LT} {post : Int → CS → Prop} (C : C_X4_copiesOf K y post) {σ : CS} {v1 : Int} (h : P_X4_copiesOf_1 K y σ v1 0 0) : P_X4_copiesOf_0 K y σ v1 := by
  refine g_iconst C.1 (z := 0) dX4_copiesOf_0 ?_
  refine g_istore_n C.1 (i := 2) (loc' := [(2, .int (iZ 0)), (0, .ref (y.1 0 0 0)), (1, vM y v1)]) C.2.1 dX4_copiesOf_1 rfl (by decide) (by simp [vM_cat, cat_i, cat_r, cat_l]) ?_
  refine g_iconst C.1 (z := 0) dX4_copiesOf_2 ?_
  refine g_istore_n C.1 (i := 3) (loc' := [(3, .int (iZ 0)), (2, .int (iZ 0)), (0, .ref (y.1 0 0 0)), (1, vM y v1)]) C.2.1 dX4_copiesOf_3 rfl (by decide) (by simp [vM_cat, cat_i, cat_r, cat_l]) ?_
  exact g_sub [2, 3, 1, 0] rfl h
set_option maxRecDepth 100000 in
set_option maxHeartbeats 4000000 in
theorem b_X4_copiesOf_1 {K : KT} {y : LT} {post : Int → CS → Prop} (C : C_X4_copiesOf K y post) {p_sizeM : CS → Prop} {f_sizeM : CS → Int} (h_sizeM : H_sizeM p_sizeM f_sizeM) {p_getM : CS → Int → Prop} (h_getM : H_getM p_getM) {σ : CS} {v1 v2 v3 : Int} (h : (p_sizeM σ) ∧ (-2147483648 ≤ v3 ∧ v3 < 2147483648) ∧ (-2147483648 ≤ (f_sizeM σ) ∧ (f_sizeM σ) < 2147483648) ∧ (((f_sizeM σ) ≤ v3 → post v2 σ) ∧ (¬ (f_sizeM σ) ≤ v3 → (p_getM σ v3) ∧ (0 ≤ v3 ∧ v3 < (σ 21 0 0 0)) ∧ (-1 ≤ (σ 9 v3 0 0) ∧ (σ 9 v3 0 0) < (σ 21 0 0 0)) ∧ (-1 ≤ v1 ∧ v1 < (σ 21 0 0 0)) ∧ ((¬ (σ 9 v3 0 0) = v1 → P_X4_copiesOf_1 K y σ v1 v2 (v3 + 1)) ∧ ((σ 9 v3 0 0) = v1 → P_X4_copiesOf_1 K y σ v1 (v2 + 1) (v3 + 1)))))) : P_X4_copiesOf_1 K y σ v1 v2 v3 := by
  refine g_iload_n C.1 3 dX4_copiesOf_4 rfl rfl ?_
  refine g_aload_n C.1 0 dX4_copiesOf_5 rfl rfl ?_
  refine c_get C.1 (ci := 5) (q := (RX4, TX4, 10)) rfl rfl inX4_copiesOf_X4 2 (by decide) (v := .ref (y.1 2 0 0)) rfl lk_X4_copiesOf_f20 rfl dX4_copiesOf_6 ⟨rfl, rfl⟩ ?_
  obtain ⟨hp1, h⟩ := h
  refine c_callV C.1 C.2.2.2.1 C.2.2.2.2 (h_sizeM K.l y σ hp1) (ci := 0) (q := (RJx4a65c, TJx4a65c, 3)) rfl (c_recv rfl ⟨rfl, rfl⟩) (fun ht => cwV 0 ht gX4_copiesOf_Jx4a65c_size_8abf5 rfl rfl rfl (by decide +kernel) ⟨Nat.le_of_ble_eq_true rfl, Nat.le_of_ble_eq_true rfl⟩) rfl rfl (Nat.le_of_ble_eq_true rfl) ⟨Nat.le_of_ble_eq_true rfl, Nat.le_of_ble_eq_true rfl⟩ dX4_copiesOf_9 (fun r σ9 hq => ?_)
  rw [hq.1, hq.2]
  show G K (CL y σ) (0, 0) [(0, .ref (y.1 0 0 0)), (1, vM y v1), (2, .int (iZ v2)), (3, .int (iZ v3))] 12 [.int (iZ (f_sizeM σ)), .int (iZ v3)]
  obtain ⟨hc2, h⟩ := h
  obtain ⟨hc3, h⟩ := h
  refine g_icmp_ge C.1 (tgt := 42) dX4_copiesOf_12 (by decide) hc2 hc3 (fun hc => ?_) (fun hc => ?_)
  · have h := h.1 hc
    refine g_iload_n C.1 2 dX4_copiesOf_42 rfl rfl ?_
    exact x_iret C.1 C.2.2.1 rfl ⟨Nat.le_of_ble_eq_true rfl, Nat.le_of_ble_eq_true rfl⟩ dX4_copiesOf_43 h
  · have h := h.2 hc
    refine g_aload_n C.1 0 dX4_copiesOf_15 rfl rfl ?_
    refine c_get C.1 (ci := 5) (q := (RX4, TX4, 10)) rfl rfl inX4_copiesOf_X4 2 (by decide) (v := .ref (y.1 2 0 0)) rfl lk_X4_copiesOf_f20 rfl dX4_copiesOf_16 ⟨rfl, rfl⟩ ?_
    refine g_iload_n C.1 3 dX4_copiesOf_19 rfl rfl ?_
    obtain ⟨hp4, h⟩ := h
    refine c_callV C.1 C.2.2.2.1 C.2.2.2.2 (h_getM K.l y σ v3 hp4) (ci := 0) (q := (RJx4a65c, TJx4a65c, 3)) rfl (c_recv rfl ⟨rfl, rfl⟩) (fun ht => cwV 1 ht gX4_copiesOf_Jx4a65c_get_915e3 rfl rfl rfl (by decide +kernel) ⟨Nat.le_of_ble_eq_true rfl, Nat.le_of_ble_eq_true rfl⟩) rfl rfl (Nat.le_of_ble_eq_true rfl) ⟨Nat.le_of_ble_eq_true rfl, Nat.le_of_ble_eq_true rfl⟩ dX4_copiesOf_20 (fun r σ9 hq => ?_)
    rw [hq.1, hq.2]
    show G K (CL y σ) (0, 0) [(0, .ref (y.1 0 0 0)), (1, vM y v1), (2, .int (iZ v2)), (3, .int (iZ v3))] 23 [vM y v3]
    obtain ⟨hd5, h⟩ := h
    refine c_atM hd5.1 ?_
    refine c_cast C.1 C.2.2.2.1 (ci := 2) (q := (RX1, TX1, 6)) rfl rfl (by decide +kernel) lk_X4_copiesOf_cc89 dX4_copiesOf_23 ⟨hd5.1, hd5.2, rfl⟩ ?_
    refine c_toM hd5.1 ?_
    refine c_atM hd5.1 ?_
    refine c_get C.1 (ci := 2) (q := (RX1, TX1, 6)) rfl rfl inX4_copiesOf_X1 1 (by decide) (v := vM y (σ 9 v3 0 0)) rfl lk_X4_copiesOf_f202 rfl dX4_copiesOf_26 ⟨hd5.1, hd5.2, rfl⟩ ?_
    refine g_aloadM_n C.1 1 dX4_copiesOf_29 rfl rfl ?_
    obtain ⟨hm6, h⟩ := h
    obtain ⟨hm7, h⟩ := h
    refine c_acmp_ne C.1 (tgt := 36) dX4_copiesOf_30 (by decide) hm6 hm7 (fun hc => ?_) (fun hc => ?_)
    · have h := h.1 hc
      refine g_iinc C.1 (z := v3) (w := 1) (loc' := [(3, .int (iZ (v3 + 1))), (0, .ref (y.1 0 0 0)), (1, vM y v1), (2, .int (iZ v2))]) 3 C.2.1 dX4_copiesOf_36 rfl (by decide) (by simp [vM_cat, cat_i, cat_r, cat_l]) ?_
      refine g_goto C.1 (tgt := 4) dX4_copiesOf_39 (by decide) ?_
      exact g_sub [1, 2, 3, 0] rfl h
    · have h := h.2 hc
      refine g_iinc C.1 (z := v2) (w := 1) (loc' := [(2, .int (iZ (v2 + 1))), (0, .ref (y.1 0 0 0)), (1, vM y v1), (3, .int (iZ v3))]) 2 C.2.1 dX4_copiesOf_33 rfl (by decide) (by simp [vM_cat, cat_i, cat_r, cat_l]) ?_
      refine g_iinc C.1 (z := v3) (w := 1) (loc' := [(3, .int (iZ (v3 + 1))), (2, .int (iZ (v2 + 1))), (0, .ref (y.1 0 0 0)), (1, vM y v1)]) 3 C.2.1 dX4_copiesOf_36 rfl (by decide) (by simp [vM_cat, cat_i, cat_r, cat_l]) ?_
      refine g_goto C.1 (tgt := 4) dX4_copiesOf_39 (by decide) ?_
      exact g_sub [2, 3, 1, 0] rfl h
theorem m_X4_copiesOf {l : Launch} {y : LT} {σ : CS} {v1 : Int} {post : Int → CS → Prop} (h : ∀ K : KT, K.l = l → C_X4_copiesOf K y post → P_X4_copiesOf_0 K y σ v1) : cMet l yX4_copiesOf wsX4_copiesOf rm_X4_copiesOf y.2.2 (CL y) rkI [.ref (y.1 0 0 0), vM y v1] σ post :=
  cMet.of (maxL := 4) (by decide +kernel) rfl (by simp [lg_sl, List.flatMap, vM_cat, cat_i, cat_r, cat_l]) (fun K h1 h2 h3 h4 h5 h6 _ => by
    have h9 := h K h1 ⟨h2, h3, h4, h5, h6⟩
    simp only [lv_args, vM_cat, cat_i, cat_r, cat_l]
    exact h9)
def H_X4_copiesOf (p : CS → Int → Prop) (f : CS → Int → Int) : Prop := ∀ (l : Launch) (y : LT) (σ : CS) (v1 : Int), p σ v1 → cMet l yX4_copiesOf wsX4_copiesOf rm_X4_copiesOf y.2.2 (CL y) rkI [.ref (y.1 0 0 0), vM y v1] σ (fun r σ' => r = f σ v1 ∧ σ' = σ)

/-! X4_descendantsOf -/
abbrev rm_X4_descendantsOf : Room := { frames := 3, cells := 0, slots := 0, locals := 67 }
set_option maxRecDepth 20000 in
theorem inX4_descendantsOf_X4 : ∀ w ∈ wsX40, w ∈ wsX4_descendantsOf := by decide +kernel
theorem lk_X4_descendantsOf_f20 : Cond.fieldLink RX4 20 "CopyHouse" "manuscripts" "Ljava/util/ArrayList;" ∈ wsX4_descendantsOf := List.mem_of_getElem? (i := 1) (by decide +kernel)
theorem lk_X4_descendantsOf_cc89 : Cond.classLink RX4 89 "CopyHouse$Manuscript" ∈ wsX4_descendantsOf := List.mem_of_getElem? (i := 2) (by decide +kernel)
def C_X4_descendantsOf (K : KT) (y : LT) (post : Int → CS → Prop) : Prop := kOK K cX4_descendantsOf RX4 wsX4_descendantsOf (some .int) rm_X4_descendantsOf ∧ K.nL = 4 ∧ kQ K (CL y) rkI post rm_X4_descendantsOf ∧ SF y.2.2 K.A K.s K.s.heap ∧ K.l.stackTraces = false
def P_X4_descendantsOf_0 (K : KT) (y : LT) (σ : CS) (v1 : Int) : Prop := G K (CL y σ) (0, 0) [(0, .ref (y.1 0 0 0)), (1, vM y v1)] 0 []
def P_X4_descendantsOf_1 (K : KT) (y : LT) (σ : CS) (v1 v2 v3 : Int) : Prop := G K (CL y σ) (0, 0) [(0, .ref (y.1 0 0 0)), (1, vM y v1), (2, .int (iZ v2)), (3, .int (iZ v3))] 4 []
set_option maxRecDepth 100000 in
set_option maxHeartbeats 4000000 in
theorem b_X4_descendantsOf_0 {K : KT} {y : LT} {post : Int → CS → Prop} (C : C_X4_descendantsOf K y post) {σ : CS} {v1 : Int} (h : P_X4_descendantsOf_1 K y σ v1 0 0) : P_X4_descendantsOf_0 K y σ v1 := by
  refine g_iconst C.1 (z := 0) dX4_descendantsOf_0 ?_
  refine g_istore_n C.1 (i := 2) (loc' := [(2, .int (iZ 0)), (0, .ref (y.1 0 0 0)), (1, vM y v1)]) C.2.1 dX4_descendantsOf_1 rfl (by decide) (by simp [vM_cat, cat_i, cat_r, cat_l]) ?_
  refine g_iconst C.1 (z := 0) dX4_descendantsOf_2 ?_
  refine g_istore_n C.1 (i := 3) (loc' := [(3, .int (iZ 0)), (2, .int (iZ 0)), (0, .ref (y.1 0 0 0)), (1, vM y v1)]) C.2.1 dX4_descendantsOf_3 rfl (by decide) (by simp [vM_cat, cat_i, cat_r, cat_l]) ?_
  exact g_sub [2, 3, 1, 0] rfl h
set_option maxRecDepth 100000 in
set_option maxHeartbeats 4000000 in
theorem b_X4_descendantsOf_1 {K : KT} {y : LT} {post : Int → CS → Prop} (C : C_X4_descendantsOf K y post) {p_sizeM : CS → Prop} {f_sizeM : CS → Int} (h_sizeM : H_sizeM p_sizeM f_sizeM) {p_getM : CS → Int → Prop} (h_getM : H_getM p_getM) {p_descendsFrom : CS → Int → Int → Prop} {f_descendsFrom : CS → Int → Int → Bool} (h_descendsFrom : H_X1_descendsFrom p_descendsFrom f_descendsFrom) {σ : CS} {v1 v2 v3 : Int} (h : (p_sizeM σ) ∧ (-2147483648 ≤ v3 ∧ v3 < 2147483648) ∧ (-2147483648 ≤ (f_sizeM σ) ∧ (f_sizeM σ) < 2147483648) ∧ (((f_sizeM σ) ≤ v3 → post v2 σ) ∧ (¬ (f_sizeM σ) ≤ v3 → (p_getM σ v3) ∧ (0 ≤ v3 ∧ v3 < (σ 21 0 0 0)) ∧ (p_descendsFrom σ v3 v1) ∧ ((¬ (f_descendsFrom σ v3 v1 = true) → P_X4_descendantsOf_1 K y σ v1 v2 (v3 + 1)) ∧ (f_descendsFrom σ v3 v1 = true → P_X4_descendantsOf_1 K y σ v1 (v2 + 1) (v3 + 1)))))) : P_X4_descendantsOf_1 K y σ v1 v2 v3 := by
  refine g_iload_n C.1 3 dX4_descendantsOf_4 rfl rfl ?_
  refine g_aload_n C.1 0 dX4_descendantsOf_5 rfl rfl ?_
  refine c_get C.1 (ci := 5) (q := (RX4, TX4, 10)) rfl rfl inX4_descendantsOf_X4 2 (by decide) (v := .ref (y.1 2 0 0)) rfl lk_X4_descendantsOf_f20 rfl dX4_descendantsOf_6 ⟨rfl, rfl⟩ ?_
  obtain ⟨hp1, h⟩ := h
  refine c_callV C.1 C.2.2.2.1 C.2.2.2.2 (h_sizeM K.l y σ hp1) (ci := 0) (q := (RJx4a65c, TJx4a65c, 3)) rfl (c_recv rfl ⟨rfl, rfl⟩) (fun ht => cwV 0 ht gX4_descendantsOf_Jx4a65c_size_8abf5 rfl rfl rfl (by decide +kernel) ⟨Nat.le_of_ble_eq_true rfl, Nat.le_of_ble_eq_true rfl⟩) rfl rfl (Nat.le_of_ble_eq_true rfl) ⟨Nat.le_of_ble_eq_true rfl, Nat.le_of_ble_eq_true rfl⟩ dX4_descendantsOf_9 (fun r σ9 hq => ?_)
  rw [hq.1, hq.2]
  show G K (CL y σ) (0, 0) [(0, .ref (y.1 0 0 0)), (1, vM y v1), (2, .int (iZ v2)), (3, .int (iZ v3))] 12 [.int (iZ (f_sizeM σ)), .int (iZ v3)]
  obtain ⟨hc2, h⟩ := h
  obtain ⟨hc3, h⟩ := h
  refine g_icmp_ge C.1 (tgt := 42) dX4_descendantsOf_12 (by decide) hc2 hc3 (fun hc => ?_) (fun hc => ?_)
  · have h := h.1 hc
    refine g_iload_n C.1 2 dX4_descendantsOf_42 rfl rfl ?_
    exact x_iret C.1 C.2.2.1 rfl ⟨Nat.le_of_ble_eq_true rfl, Nat.le_of_ble_eq_true rfl⟩ dX4_descendantsOf_43 h
  · have h := h.2 hc
    refine g_aload_n C.1 0 dX4_descendantsOf_15 rfl rfl ?_
    refine c_get C.1 (ci := 5) (q := (RX4, TX4, 10)) rfl rfl inX4_descendantsOf_X4 2 (by decide) (v := .ref (y.1 2 0 0)) rfl lk_X4_descendantsOf_f20 rfl dX4_descendantsOf_16 ⟨rfl, rfl⟩ ?_
    refine g_iload_n C.1 3 dX4_descendantsOf_19 rfl rfl ?_
    obtain ⟨hp4, h⟩ := h
    refine c_callV C.1 C.2.2.2.1 C.2.2.2.2 (h_getM K.l y σ v3 hp4) (ci := 0) (q := (RJx4a65c, TJx4a65c, 3)) rfl (c_recv rfl ⟨rfl, rfl⟩) (fun ht => cwV 1 ht gX4_descendantsOf_Jx4a65c_get_915e3 rfl rfl rfl (by decide +kernel) ⟨Nat.le_of_ble_eq_true rfl, Nat.le_of_ble_eq_true rfl⟩) rfl rfl (Nat.le_of_ble_eq_true rfl) ⟨Nat.le_of_ble_eq_true rfl, Nat.le_of_ble_eq_true rfl⟩ dX4_descendantsOf_20 (fun r σ9 hq => ?_)
    rw [hq.1, hq.2]
    show G K (CL y σ) (0, 0) [(0, .ref (y.1 0 0 0)), (1, vM y v1), (2, .int (iZ v2)), (3, .int (iZ v3))] 23 [vM y v3]
    obtain ⟨hd5, h⟩ := h
    refine c_atM hd5.1 ?_
    refine c_cast C.1 C.2.2.2.1 (ci := 2) (q := (RX1, TX1, 6)) rfl rfl (by decide +kernel) lk_X4_descendantsOf_cc89 dX4_descendantsOf_23 ⟨hd5.1, hd5.2, rfl⟩ ?_
    refine c_toM hd5.1 ?_
    refine g_aloadM_n C.1 1 dX4_descendantsOf_26 rfl rfl ?_
    obtain ⟨hp6, h⟩ := h
    refine c_callV C.1 C.2.2.2.1 C.2.2.2.2 (c_Mrecv hd5.1 (h_descendsFrom K.l y σ v3 v1 hp6)) (rest := []) (ci := 2) (q := (RX1, TX1, 6)) rfl (c_recv rfl ⟨hd5.1, hd5.2, rfl⟩) (fun ht => cwV 1 ht gX4_descendantsOf_X1_descendsFrom rfl rfl rfl (by decide +kernel) ⟨Nat.le_of_ble_eq_true rfl, Nat.le_of_ble_eq_true rfl⟩) rfl (by rw [vM_ref hd5.1]; rfl) (Nat.le_of_ble_eq_true rfl) ⟨Nat.le_of_ble_eq_true rfl, Nat.le_of_ble_eq_true rfl⟩ dX4_descendantsOf_27 (fun r σ9 hq => ?_)
    rw [hq.1, hq.2]
    show G K (CL y σ) (0, 0) [(0, .ref (y.1 0 0 0)), (1, vM y v1), (2, .int (iZ v2)), (3, .int (iZ v3))] 30 [.int (iZ (if f_descendsFrom σ v3 v1 = true then 1 else 0))]
    refine g_ifb_eq C.1 (tgt := 36) dX4_descendantsOf_30 (by decide) (fun hc => ?_) (fun hc => ?_)
    · have h := h.1 hc
      refine g_iinc C.1 (z := v3) (w := 1) (loc' := [(3, .int (iZ (v3 + 1))), (0, .ref (y.1 0 0 0)), (1, vM y v1), (2, .int (iZ v2))]) 3 C.2.1 dX4_descendantsOf_36 rfl (by decide) (by simp [vM_cat, cat_i, cat_r, cat_l]) ?_
      refine g_goto C.1 (tgt := 4) dX4_descendantsOf_39 (by decide) ?_
      exact g_sub [1, 2, 3, 0] rfl h
    · have h := h.2 hc
      refine g_iinc C.1 (z := v2) (w := 1) (loc' := [(2, .int (iZ (v2 + 1))), (0, .ref (y.1 0 0 0)), (1, vM y v1), (3, .int (iZ v3))]) 2 C.2.1 dX4_descendantsOf_33 rfl (by decide) (by simp [vM_cat, cat_i, cat_r, cat_l]) ?_
      refine g_iinc C.1 (z := v3) (w := 1) (loc' := [(3, .int (iZ (v3 + 1))), (2, .int (iZ (v2 + 1))), (0, .ref (y.1 0 0 0)), (1, vM y v1)]) 3 C.2.1 dX4_descendantsOf_36 rfl (by decide) (by simp [vM_cat, cat_i, cat_r, cat_l]) ?_
      refine g_goto C.1 (tgt := 4) dX4_descendantsOf_39 (by decide) ?_
      exact g_sub [2, 3, 1, 0] rfl h
theorem m_X4_descendantsOf {l : Launch} {y : LT} {σ : CS} {v1 : Int} {post : Int → CS → Prop} (h : ∀ K : KT, K.l = l → C_X4_descendantsOf K y post → P_X4_descendantsOf_0 K y σ v1) : cMet l yX4_descendantsOf wsX4_descendantsOf rm_X4_descendantsOf y.2.2 (CL y) rkI [.ref (y.1 0 0 0), vM y v1] σ post :=
  cMet.of (maxL := 4) (by decide +kernel) rfl (by simp [lg_sl, List.flatMap, vM_cat, cat_i, cat_r, cat_l]) (fun K h1 h2 h3 h4 h5 h6 _ => by
    have h9 := h K h1 ⟨h2, h3, h4, h5, h6⟩
    simp only [lv_args, vM_cat, cat_i, cat_r, cat_l]
    exact h9)
def H_X4_descendantsOf (p : CS → Int → Prop) (f : CS → Int → Int) : Prop := ∀ (l : Launch) (y : LT) (σ : CS) (v1 : Int), p σ v1 → cMet l yX4_descendantsOf wsX4_descendantsOf rm_X4_descendantsOf y.2.2 (CL y) rkI [.ref (y.1 0 0 0), vM y v1] σ (fun r σ' => r = f σ v1 ∧ σ' = σ)

/-! X4_thoseThere -/
abbrev rm_X4_thoseThere : Room := { frames := 3, cells := 0, slots := 0, locals := 67 }
set_option maxRecDepth 20000 in
theorem inX4_thoseThere_X4 : ∀ w ∈ wsX40, w ∈ wsX4_thoseThere := by decide +kernel
set_option maxRecDepth 20000 in
theorem inX4_thoseThere_X1 : ∀ w ∈ wsX10, w ∈ wsX4_thoseThere := by decide +kernel
theorem lk_X4_thoseThere_f20 : Cond.fieldLink RX4 20 "CopyHouse" "manuscripts" "Ljava/util/ArrayList;" ∈ wsX4_thoseThere := List.mem_of_getElem? (i := 1) (by decide +kernel)
theorem lk_X4_thoseThere_cc89 : Cond.classLink RX4 89 "CopyHouse$Manuscript" ∈ wsX4_thoseThere := List.mem_of_getElem? (i := 2) (by decide +kernel)
theorem lk_X4_thoseThere_f153 : Cond.fieldLink RX4 153 "CopyHouse$Manuscript" "there" "Z" ∈ wsX4_thoseThere := List.mem_of_getElem? (i := 3) (by decide +kernel)
def C_X4_thoseThere (K : KT) (y : LT) (post : Int → CS → Prop) : Prop := kOK K cX4_thoseThere RX4 wsX4_thoseThere (some .int) rm_X4_thoseThere ∧ K.nL = 3 ∧ kQ K (CL y) rkI post rm_X4_thoseThere ∧ SF y.2.2 K.A K.s K.s.heap ∧ K.l.stackTraces = false
def P_X4_thoseThere_0 (K : KT) (y : LT) (σ : CS) : Prop := G K (CL y σ) (0, 0) [(0, .ref (y.1 0 0 0))] 0 []
def P_X4_thoseThere_1 (K : KT) (y : LT) (σ : CS) (v1 v2 : Int) : Prop := G K (CL y σ) (0, 0) [(0, .ref (y.1 0 0 0)), (1, .int (iZ v1)), (2, .int (iZ v2))] 4 []
set_option maxRecDepth 100000 in
set_option maxHeartbeats 4000000 in
theorem b_X4_thoseThere_0 {K : KT} {y : LT} {post : Int → CS → Prop} (C : C_X4_thoseThere K y post) {σ : CS} (h : P_X4_thoseThere_1 K y σ 0 0) : P_X4_thoseThere_0 K y σ := by
  refine g_iconst C.1 (z := 0) dX4_thoseThere_0 ?_
  refine g_istore_n C.1 (i := 1) (loc' := [(1, .int (iZ 0)), (0, .ref (y.1 0 0 0))]) C.2.1 dX4_thoseThere_1 rfl (by decide) rfl ?_
  refine g_iconst C.1 (z := 0) dX4_thoseThere_2 ?_
  refine g_istore_n C.1 (i := 2) (loc' := [(2, .int (iZ 0)), (1, .int (iZ 0)), (0, .ref (y.1 0 0 0))]) C.2.1 dX4_thoseThere_3 rfl (by decide) rfl ?_
  exact g_sub [2, 1, 0] rfl h
set_option maxRecDepth 100000 in
set_option maxHeartbeats 4000000 in
theorem b_X4_thoseThere_1 {K : KT} {y : LT} {post : Int → CS → Prop} (C : C_X4_thoseThere K y post) {p_sizeM : CS → Prop} {f_sizeM : CS → Int} (h_sizeM : H_sizeM p_sizeM f_sizeM) {p_getM : CS → Int → Prop} (h_getM : H_getM p_getM) {σ : CS} {v1 v2 : Int} (h : (p_sizeM σ) ∧ (-2147483648 ≤ v2 ∧ v2 < 2147483648) ∧ (-2147483648 ≤ (f_sizeM σ) ∧ (f_sizeM σ) < 2147483648) ∧ (((f_sizeM σ) ≤ v2 → post v1 σ) ∧ (¬ (f_sizeM σ) ≤ v2 → (p_getM σ v2) ∧ (0 ≤ v2 ∧ v2 < (σ 21 0 0 0)) ∧ (-2147483648 ≤ (σ 12 v2 0 0) ∧ (σ 12 v2 0 0) < 2147483648) ∧ (((σ 12 v2 0 0) = 0 → P_X4_thoseThere_1 K y σ v1 (v2 + 1)) ∧ (¬ (σ 12 v2 0 0) = 0 → P_X4_thoseThere_1 K y σ (v1 + 1) (v2 + 1)))))) : P_X4_thoseThere_1 K y σ v1 v2 := by
  refine g_iload_n C.1 2 dX4_thoseThere_4 rfl rfl ?_
  refine g_aload_n C.1 0 dX4_thoseThere_5 rfl rfl ?_
  refine c_get C.1 (ci := 5) (q := (RX4, TX4, 10)) rfl rfl inX4_thoseThere_X4 2 (by decide) (v := .ref (y.1 2 0 0)) rfl lk_X4_thoseThere_f20 rfl dX4_thoseThere_6 ⟨rfl, rfl⟩ ?_
  obtain ⟨hp1, h⟩ := h
  refine c_callV C.1 C.2.2.2.1 C.2.2.2.2 (h_sizeM K.l y σ hp1) (ci := 0) (q := (RJx4a65c, TJx4a65c, 3)) rfl (c_recv rfl ⟨rfl, rfl⟩) (fun ht => cwV 0 ht gX4_thoseThere_Jx4a65c_size_8abf5 rfl rfl rfl (by decide +kernel) ⟨Nat.le_of_ble_eq_true rfl, Nat.le_of_ble_eq_true rfl⟩) rfl rfl (Nat.le_of_ble_eq_true rfl) ⟨Nat.le_of_ble_eq_true rfl, Nat.le_of_ble_eq_true rfl⟩ dX4_thoseThere_9 (fun r σ9 hq => ?_)
  rw [hq.1, hq.2]
  show G K (CL y σ) (0, 0) [(0, .ref (y.1 0 0 0)), (1, .int (iZ v1)), (2, .int (iZ v2))] 12 [.int (iZ (f_sizeM σ)), .int (iZ v2)]
  obtain ⟨hc2, h⟩ := h
  obtain ⟨hc3, h⟩ := h
  refine g_icmp_ge C.1 (tgt := 41) dX4_thoseThere_12 (by decide) hc2 hc3 (fun hc => ?_) (fun hc => ?_)
  · have h := h.1 hc
    refine g_iload_n C.1 1 dX4_thoseThere_41 rfl rfl ?_
    exact x_iret C.1 C.2.2.1 rfl ⟨Nat.le_of_ble_eq_true rfl, Nat.le_of_ble_eq_true rfl⟩ dX4_thoseThere_42 h
  · have h := h.2 hc
    refine g_aload_n C.1 0 dX4_thoseThere_15 rfl rfl ?_
    refine c_get C.1 (ci := 5) (q := (RX4, TX4, 10)) rfl rfl inX4_thoseThere_X4 2 (by decide) (v := .ref (y.1 2 0 0)) rfl lk_X4_thoseThere_f20 rfl dX4_thoseThere_16 ⟨rfl, rfl⟩ ?_
    refine g_iload_n C.1 2 dX4_thoseThere_19 rfl rfl ?_
    obtain ⟨hp4, h⟩ := h
    refine c_callV C.1 C.2.2.2.1 C.2.2.2.2 (h_getM K.l y σ v2 hp4) (ci := 0) (q := (RJx4a65c, TJx4a65c, 3)) rfl (c_recv rfl ⟨rfl, rfl⟩) (fun ht => cwV 1 ht gX4_thoseThere_Jx4a65c_get_915e3 rfl rfl rfl (by decide +kernel) ⟨Nat.le_of_ble_eq_true rfl, Nat.le_of_ble_eq_true rfl⟩) rfl rfl (Nat.le_of_ble_eq_true rfl) ⟨Nat.le_of_ble_eq_true rfl, Nat.le_of_ble_eq_true rfl⟩ dX4_thoseThere_20 (fun r σ9 hq => ?_)
    rw [hq.1, hq.2]
    show G K (CL y σ) (0, 0) [(0, .ref (y.1 0 0 0)), (1, .int (iZ v1)), (2, .int (iZ v2))] 23 [vM y v2]
    obtain ⟨hd5, h⟩ := h
    refine c_atM hd5.1 ?_
    refine c_cast C.1 C.2.2.2.1 (ci := 2) (q := (RX1, TX1, 6)) rfl rfl (by decide +kernel) lk_X4_thoseThere_cc89 dX4_thoseThere_23 ⟨hd5.1, hd5.2, rfl⟩ ?_
    refine c_toM hd5.1 ?_
    refine c_atM hd5.1 ?_
    refine c_get C.1 (ci := 2) (q := (RX1, TX1, 6)) rfl rfl inX4_thoseThere_X1 5 (by decide) (v := .int (iZ (σ 12 v2 0 0))) rfl lk_X4_thoseThere_f153 rfl dX4_thoseThere_26 ⟨hd5.1, hd5.2, rfl⟩ ?_
    obtain ⟨hc6, h⟩ := h
    refine g_if_eq C.1 (tgt := 35) dX4_thoseThere_29 (by decide) hc6 (fun hc => ?_) (fun hc => ?_)
    · have h := h.1 hc
      refine g_iinc C.1 (z := v2) (w := 1) (loc' := [(2, .int (iZ (v2 + 1))), (0, .ref (y.1 0 0 0)), (1, .int (iZ v1))]) 2 C.2.1 dX4_thoseThere_35 rfl (by decide) rfl ?_
      refine g_goto C.1 (tgt := 4) dX4_thoseThere_38 (by decide) ?_
      exact g_sub [1, 2, 0] rfl h
    · have h := h.2 hc
      refine g_iinc C.1 (z := v1) (w := 1) (loc' := [(1, .int (iZ (v1 + 1))), (0, .ref (y.1 0 0 0)), (2, .int (iZ v2))]) 1 C.2.1 dX4_thoseThere_32 rfl (by decide) rfl ?_
      refine g_iinc C.1 (z := v2) (w := 1) (loc' := [(2, .int (iZ (v2 + 1))), (1, .int (iZ (v1 + 1))), (0, .ref (y.1 0 0 0))]) 2 C.2.1 dX4_thoseThere_35 rfl (by decide) rfl ?_
      refine g_goto C.1 (tgt := 4) dX4_thoseThere_38 (by decide) ?_
      exact g_sub [2, 1, 0] rfl h
theorem m_X4_thoseThere {l : Launch} {y : LT} {σ : CS} {post : Int → CS → Prop} (h : ∀ K : KT, K.l = l → C_X4_thoseThere K y post → P_X4_thoseThere_0 K y σ) : cMet l yX4_thoseThere wsX4_thoseThere rm_X4_thoseThere y.2.2 (CL y) rkI [.ref (y.1 0 0 0)] σ post :=
  cMet.of (maxL := 3) (by decide +kernel) rfl (Nat.le_of_ble_eq_true rfl) (fun K h1 h2 h3 h4 h5 h6 _ => h K h1 ⟨h2, h3, h4, h5, h6⟩)
def H_X4_thoseThere (p : CS → Prop) (f : CS → Int) : Prop := ∀ (l : Launch) (y : LT) (σ : CS), p σ → cMet l yX4_thoseThere wsX4_thoseThere rm_X4_thoseThere y.2.2 (CL y) rkI [.ref (y.1 0 0 0)] σ (fun r σ' => r = f σ ∧ σ' = σ)

/-! X4_origins -/
abbrev rm_X4_origins : Room := { frames := 3, cells := 0, slots := 0, locals := 67 }
set_option maxRecDepth 20000 in
theorem inX4_origins_X4 : ∀ w ∈ wsX40, w ∈ wsX4_origins := by decide +kernel
set_option maxRecDepth 20000 in
theorem inX4_origins_X1 : ∀ w ∈ wsX10, w ∈ wsX4_origins := by decide +kernel
theorem lk_X4_origins_f20 : Cond.fieldLink RX4 20 "CopyHouse" "manuscripts" "Ljava/util/ArrayList;" ∈ wsX4_origins := List.mem_of_getElem? (i := 1) (by decide +kernel)
theorem lk_X4_origins_cc89 : Cond.classLink RX4 89 "CopyHouse$Manuscript" ∈ wsX4_origins := List.mem_of_getElem? (i := 2) (by decide +kernel)
theorem lk_X4_origins_f202 : Cond.fieldLink RX4 202 "CopyHouse$Manuscript" "exemplar" "LCopyHouse$Manuscript;" ∈ wsX4_origins := List.mem_of_getElem? (i := 3) (by decide +kernel)
def C_X4_origins (K : KT) (y : LT) (post : Int → CS → Prop) : Prop := kOK K cX4_origins RX4 wsX4_origins (some .int) rm_X4_origins ∧ K.nL = 3 ∧ kQ K (CL y) rkI post rm_X4_origins ∧ SF y.2.2 K.A K.s K.s.heap ∧ K.l.stackTraces = false
def P_X4_origins_0 (K : KT) (y : LT) (σ : CS) : Prop := G K (CL y σ) (0, 0) [(0, .ref (y.1 0 0 0))] 0 []
def P_X4_origins_1 (K : KT) (y : LT) (σ : CS) (v1 v2 : Int) : Prop := G K (CL y σ) (0, 0) [(0, .ref (y.1 0 0 0)), (1, .int (iZ v1)), (2, .int (iZ v2))] 4 []
set_option maxRecDepth 100000 in
set_option maxHeartbeats 4000000 in
theorem b_X4_origins_0 {K : KT} {y : LT} {post : Int → CS → Prop} (C : C_X4_origins K y post) {σ : CS} (h : P_X4_origins_1 K y σ 0 0) : P_X4_origins_0 K y σ := by
  refine g_iconst C.1 (z := 0) dX4_origins_0 ?_
  refine g_istore_n C.1 (i := 1) (loc' := [(1, .int (iZ 0)), (0, .ref (y.1 0 0 0))]) C.2.1 dX4_origins_1 rfl (by decide) rfl ?_
  refine g_iconst C.1 (z := 0) dX4_origins_2 ?_
  refine g_istore_n C.1 (i := 2) (loc' := [(2, .int (iZ 0)), (1, .int (iZ 0)), (0, .ref (y.1 0 0 0))]) C.2.1 dX4_origins_3 rfl (by decide) rfl ?_
  exact g_sub [2, 1, 0] rfl h
set_option maxRecDepth 100000 in
set_option maxHeartbeats 4000000 in
theorem b_X4_origins_1 {K : KT} {y : LT} {post : Int → CS → Prop} (C : C_X4_origins K y post) {p_sizeM : CS → Prop} {f_sizeM : CS → Int} (h_sizeM : H_sizeM p_sizeM f_sizeM) {p_getM : CS → Int → Prop} (h_getM : H_getM p_getM) {σ : CS} {v1 v2 : Int} (h : (p_sizeM σ) ∧ (-2147483648 ≤ v2 ∧ v2 < 2147483648) ∧ (-2147483648 ≤ (f_sizeM σ) ∧ (f_sizeM σ) < 2147483648) ∧ (((f_sizeM σ) ≤ v2 → post v1 σ) ∧ (¬ (f_sizeM σ) ≤ v2 → (p_getM σ v2) ∧ (0 ≤ v2 ∧ v2 < (σ 21 0 0 0)) ∧ ((¬ (σ 9 v2 0 0) < 0 → P_X4_origins_1 K y σ v1 (v2 + 1)) ∧ ((σ 9 v2 0 0) < 0 → P_X4_origins_1 K y σ (v1 + 1) (v2 + 1)))))) : P_X4_origins_1 K y σ v1 v2 := by
  refine g_iload_n C.1 2 dX4_origins_4 rfl rfl ?_
  refine g_aload_n C.1 0 dX4_origins_5 rfl rfl ?_
  refine c_get C.1 (ci := 5) (q := (RX4, TX4, 10)) rfl rfl inX4_origins_X4 2 (by decide) (v := .ref (y.1 2 0 0)) rfl lk_X4_origins_f20 rfl dX4_origins_6 ⟨rfl, rfl⟩ ?_
  obtain ⟨hp1, h⟩ := h
  refine c_callV C.1 C.2.2.2.1 C.2.2.2.2 (h_sizeM K.l y σ hp1) (ci := 0) (q := (RJx4a65c, TJx4a65c, 3)) rfl (c_recv rfl ⟨rfl, rfl⟩) (fun ht => cwV 0 ht gX4_origins_Jx4a65c_size_8abf5 rfl rfl rfl (by decide +kernel) ⟨Nat.le_of_ble_eq_true rfl, Nat.le_of_ble_eq_true rfl⟩) rfl rfl (Nat.le_of_ble_eq_true rfl) ⟨Nat.le_of_ble_eq_true rfl, Nat.le_of_ble_eq_true rfl⟩ dX4_origins_9 (fun r σ9 hq => ?_)
  rw [hq.1, hq.2]
  show G K (CL y σ) (0, 0) [(0, .ref (y.1 0 0 0)), (1, .int (iZ v1)), (2, .int (iZ v2))] 12 [.int (iZ (f_sizeM σ)), .int (iZ v2)]
  obtain ⟨hc2, h⟩ := h
  obtain ⟨hc3, h⟩ := h
  refine g_icmp_ge C.1 (tgt := 41) dX4_origins_12 (by decide) hc2 hc3 (fun hc => ?_) (fun hc => ?_)
  · have h := h.1 hc
    refine g_iload_n C.1 1 dX4_origins_41 rfl rfl ?_
    exact x_iret C.1 C.2.2.1 rfl ⟨Nat.le_of_ble_eq_true rfl, Nat.le_of_ble_eq_true rfl⟩ dX4_origins_42 h
  · have h := h.2 hc
    refine g_aload_n C.1 0 dX4_origins_15 rfl rfl ?_
    refine c_get C.1 (ci := 5) (q := (RX4, TX4, 10)) rfl rfl inX4_origins_X4 2 (by decide) (v := .ref (y.1 2 0 0)) rfl lk_X4_origins_f20 rfl dX4_origins_16 ⟨rfl, rfl⟩ ?_
    refine g_iload_n C.1 2 dX4_origins_19 rfl rfl ?_
    obtain ⟨hp4, h⟩ := h
    refine c_callV C.1 C.2.2.2.1 C.2.2.2.2 (h_getM K.l y σ v2 hp4) (ci := 0) (q := (RJx4a65c, TJx4a65c, 3)) rfl (c_recv rfl ⟨rfl, rfl⟩) (fun ht => cwV 1 ht gX4_origins_Jx4a65c_get_915e3 rfl rfl rfl (by decide +kernel) ⟨Nat.le_of_ble_eq_true rfl, Nat.le_of_ble_eq_true rfl⟩) rfl rfl (Nat.le_of_ble_eq_true rfl) ⟨Nat.le_of_ble_eq_true rfl, Nat.le_of_ble_eq_true rfl⟩ dX4_origins_20 (fun r σ9 hq => ?_)
    rw [hq.1, hq.2]
    show G K (CL y σ) (0, 0) [(0, .ref (y.1 0 0 0)), (1, .int (iZ v1)), (2, .int (iZ v2))] 23 [vM y v2]
    obtain ⟨hd5, h⟩ := h
    refine c_atM hd5.1 ?_
    refine c_cast C.1 C.2.2.2.1 (ci := 2) (q := (RX1, TX1, 6)) rfl rfl (by decide +kernel) lk_X4_origins_cc89 dX4_origins_23 ⟨hd5.1, hd5.2, rfl⟩ ?_
    refine c_toM hd5.1 ?_
    refine c_atM hd5.1 ?_
    refine c_get C.1 (ci := 2) (q := (RX1, TX1, 6)) rfl rfl inX4_origins_X1 1 (by decide) (v := vM y (σ 9 v2 0 0)) rfl lk_X4_origins_f202 rfl dX4_origins_26 ⟨hd5.1, hd5.2, rfl⟩ ?_
    refine g_ifnonnull C.1 (tgt := 35) dX4_origins_29 (by decide) (fun hc => ?_) (fun hc => ?_)
    · have h := h.1 hc
      refine g_iinc C.1 (z := v2) (w := 1) (loc' := [(2, .int (iZ (v2 + 1))), (0, .ref (y.1 0 0 0)), (1, .int (iZ v1))]) 2 C.2.1 dX4_origins_35 rfl (by decide) rfl ?_
      refine g_goto C.1 (tgt := 4) dX4_origins_38 (by decide) ?_
      exact g_sub [1, 2, 0] rfl h
    · have h := h.2 hc
      refine g_iinc C.1 (z := v1) (w := 1) (loc' := [(1, .int (iZ (v1 + 1))), (0, .ref (y.1 0 0 0)), (2, .int (iZ v2))]) 1 C.2.1 dX4_origins_32 rfl (by decide) rfl ?_
      refine g_iinc C.1 (z := v2) (w := 1) (loc' := [(2, .int (iZ (v2 + 1))), (1, .int (iZ (v1 + 1))), (0, .ref (y.1 0 0 0))]) 2 C.2.1 dX4_origins_35 rfl (by decide) rfl ?_
      refine g_goto C.1 (tgt := 4) dX4_origins_38 (by decide) ?_
      exact g_sub [2, 1, 0] rfl h
theorem m_X4_origins {l : Launch} {y : LT} {σ : CS} {post : Int → CS → Prop} (h : ∀ K : KT, K.l = l → C_X4_origins K y post → P_X4_origins_0 K y σ) : cMet l yX4_origins wsX4_origins rm_X4_origins y.2.2 (CL y) rkI [.ref (y.1 0 0 0)] σ post :=
  cMet.of (maxL := 3) (by decide +kernel) rfl (Nat.le_of_ble_eq_true rfl) (fun K h1 h2 h3 h4 h5 h6 _ => h K h1 ⟨h2, h3, h4, h5, h6⟩)
def H_X4_origins (p : CS → Prop) (f : CS → Int) : Prop := ∀ (l : Launch) (y : LT) (σ : CS), p σ → cMet l yX4_origins wsX4_origins rm_X4_origins y.2.2 (CL y) rkI [.ref (y.1 0 0 0)] σ (fun r σ' => r = f σ ∧ σ' = σ)

/-! X4_greatestGeneration -/
abbrev rm_X4_greatestGeneration : Room := { frames := 3, cells := 0, slots := 0, locals := 67 }
set_option maxRecDepth 20000 in
theorem inX4_greatestGeneration_X4 : ∀ w ∈ wsX40, w ∈ wsX4_greatestGeneration := by decide +kernel
set_option maxRecDepth 20000 in
theorem inX4_greatestGeneration_X1 : ∀ w ∈ wsX10, w ∈ wsX4_greatestGeneration := by decide +kernel
theorem lk_X4_greatestGeneration_f20 : Cond.fieldLink RX4 20 "CopyHouse" "manuscripts" "Ljava/util/ArrayList;" ∈ wsX4_greatestGeneration := List.mem_of_getElem? (i := 1) (by decide +kernel)
theorem lk_X4_greatestGeneration_cc89 : Cond.classLink RX4 89 "CopyHouse$Manuscript" ∈ wsX4_greatestGeneration := List.mem_of_getElem? (i := 2) (by decide +kernel)
theorem lk_X4_greatestGeneration_f277 : Cond.fieldLink RX4 277 "CopyHouse$Manuscript" "generation" "I" ∈ wsX4_greatestGeneration := List.mem_of_getElem? (i := 3) (by decide +kernel)
theorem lk_X4_greatestGeneration_mm298 : Cond.methodLink RX4 298 Lib.Math.max.name ∈ wsX4_greatestGeneration := List.mem_of_getElem? (i := 4) (by decide +kernel)
theorem lk_X4_greatestGeneration_ms298 : Cond.static Lib.Math.max.name ∈ wsX4_greatestGeneration := List.mem_of_getElem? (i := 5) (by decide +kernel)
theorem lk_X4_greatestGeneration_mi298 : Cond.initialized "java/lang/Math" ∈ wsX4_greatestGeneration := List.mem_of_getElem? (i := 6) (by decide +kernel)
theorem lk_X4_greatestGeneration_mc298 : Cond.code Lib.Math.max.name Lib.Math.max.code 2 (some .int) ∈ wsX4_greatestGeneration := List.mem_of_getElem? (i := 7) (by decide +kernel)
def C_X4_greatestGeneration (K : KT) (y : LT) (post : Int → CS → Prop) : Prop := kOK K cX4_greatestGeneration RX4 wsX4_greatestGeneration (some .int) rm_X4_greatestGeneration ∧ K.nL = 3 ∧ kQ K (CL y) rkI post rm_X4_greatestGeneration ∧ SF y.2.2 K.A K.s K.s.heap ∧ K.l.stackTraces = false
def P_X4_greatestGeneration_0 (K : KT) (y : LT) (σ : CS) : Prop := G K (CL y σ) (0, 0) [(0, .ref (y.1 0 0 0))] 0 []
def P_X4_greatestGeneration_1 (K : KT) (y : LT) (σ : CS) (v1 v2 : Int) : Prop := G K (CL y σ) (0, 0) [(0, .ref (y.1 0 0 0)), (1, .int (iZ v1)), (2, .int (iZ v2))] 4 []
set_option maxRecDepth 100000 in
set_option maxHeartbeats 4000000 in
theorem b_X4_greatestGeneration_0 {K : KT} {y : LT} {post : Int → CS → Prop} (C : C_X4_greatestGeneration K y post) {σ : CS} (h : P_X4_greatestGeneration_1 K y σ 0 0) : P_X4_greatestGeneration_0 K y σ := by
  refine g_iconst C.1 (z := 0) dX4_greatestGeneration_0 ?_
  refine g_istore_n C.1 (i := 1) (loc' := [(1, .int (iZ 0)), (0, .ref (y.1 0 0 0))]) C.2.1 dX4_greatestGeneration_1 rfl (by decide) rfl ?_
  refine g_iconst C.1 (z := 0) dX4_greatestGeneration_2 ?_
  refine g_istore_n C.1 (i := 2) (loc' := [(2, .int (iZ 0)), (1, .int (iZ 0)), (0, .ref (y.1 0 0 0))]) C.2.1 dX4_greatestGeneration_3 rfl (by decide) rfl ?_
  exact g_sub [2, 1, 0] rfl h
set_option maxRecDepth 100000 in
set_option maxHeartbeats 4000000 in
theorem b_X4_greatestGeneration_1 {K : KT} {y : LT} {post : Int → CS → Prop} (C : C_X4_greatestGeneration K y post) {p_sizeM : CS → Prop} {f_sizeM : CS → Int} (h_sizeM : H_sizeM p_sizeM f_sizeM) {p_getM : CS → Int → Prop} (h_getM : H_getM p_getM) {σ : CS} {v1 v2 : Int} (h : (p_sizeM σ) ∧ (-2147483648 ≤ v2 ∧ v2 < 2147483648) ∧ (-2147483648 ≤ (f_sizeM σ) ∧ (f_sizeM σ) < 2147483648) ∧ (((f_sizeM σ) ≤ v2 → post v1 σ) ∧ (¬ (f_sizeM σ) ≤ v2 → (p_getM σ v2) ∧ (0 ≤ v2 ∧ v2 < (σ 21 0 0 0)) ∧ (-2147483648 ≤ v1 ∧ v1 < 2147483648) ∧ (-2147483648 ≤ (σ 11 v2 0 0) ∧ (σ 11 v2 0 0) < 2147483648) ∧ P_X4_greatestGeneration_1 K y σ (if v1 < (σ 11 v2 0 0) then (σ 11 v2 0 0) else v1) (v2 + 1)))) : P_X4_greatestGeneration_1 K y σ v1 v2 := by
  refine g_iload_n C.1 2 dX4_greatestGeneration_4 rfl rfl ?_
  refine g_aload_n C.1 0 dX4_greatestGeneration_5 rfl rfl ?_
  refine c_get C.1 (ci := 5) (q := (RX4, TX4, 10)) rfl rfl inX4_greatestGeneration_X4 2 (by decide) (v := .ref (y.1 2 0 0)) rfl lk_X4_greatestGeneration_f20 rfl dX4_greatestGeneration_6 ⟨rfl, rfl⟩ ?_
  obtain ⟨hp1, h⟩ := h
  refine c_callV C.1 C.2.2.2.1 C.2.2.2.2 (h_sizeM K.l y σ hp1) (ci := 0) (q := (RJx4a65c, TJx4a65c, 3)) rfl (c_recv rfl ⟨rfl, rfl⟩) (fun ht => cwV 0 ht gX4_greatestGeneration_Jx4a65c_size_8abf5 rfl rfl rfl (by decide +kernel) ⟨Nat.le_of_ble_eq_true rfl, Nat.le_of_ble_eq_true rfl⟩) rfl rfl (Nat.le_of_ble_eq_true rfl) ⟨Nat.le_of_ble_eq_true rfl, Nat.le_of_ble_eq_true rfl⟩ dX4_greatestGeneration_9 (fun r σ9 hq => ?_)
  rw [hq.1, hq.2]
  show G K (CL y σ) (0, 0) [(0, .ref (y.1 0 0 0)), (1, .int (iZ v1)), (2, .int (iZ v2))] 12 [.int (iZ (f_sizeM σ)), .int (iZ v2)]
  obtain ⟨hc2, h⟩ := h
  obtain ⟨hc3, h⟩ := h
  refine g_icmp_ge C.1 (tgt := 40) dX4_greatestGeneration_12 (by decide) hc2 hc3 (fun hc => ?_) (fun hc => ?_)
  · have h := h.1 hc
    refine g_iload_n C.1 1 dX4_greatestGeneration_40 rfl rfl ?_
    exact x_iret C.1 C.2.2.1 rfl ⟨Nat.le_of_ble_eq_true rfl, Nat.le_of_ble_eq_true rfl⟩ dX4_greatestGeneration_41 h
  · have h := h.2 hc
    refine g_iload_n C.1 1 dX4_greatestGeneration_15 rfl rfl ?_
    refine g_aload_n C.1 0 dX4_greatestGeneration_16 rfl rfl ?_
    refine c_get C.1 (ci := 5) (q := (RX4, TX4, 10)) rfl rfl inX4_greatestGeneration_X4 2 (by decide) (v := .ref (y.1 2 0 0)) rfl lk_X4_greatestGeneration_f20 rfl dX4_greatestGeneration_17 ⟨rfl, rfl⟩ ?_
    refine g_iload_n C.1 2 dX4_greatestGeneration_20 rfl rfl ?_
    obtain ⟨hp4, h⟩ := h
    refine c_callV C.1 C.2.2.2.1 C.2.2.2.2 (h_getM K.l y σ v2 hp4) (ci := 0) (q := (RJx4a65c, TJx4a65c, 3)) rfl (c_recv rfl ⟨rfl, rfl⟩) (fun ht => cwV 1 ht gX4_greatestGeneration_Jx4a65c_get_915e3 rfl rfl rfl (by decide +kernel) ⟨Nat.le_of_ble_eq_true rfl, Nat.le_of_ble_eq_true rfl⟩) rfl rfl (Nat.le_of_ble_eq_true rfl) ⟨Nat.le_of_ble_eq_true rfl, Nat.le_of_ble_eq_true rfl⟩ dX4_greatestGeneration_21 (fun r σ9 hq => ?_)
    rw [hq.1, hq.2]
    show G K (CL y σ) (0, 0) [(0, .ref (y.1 0 0 0)), (1, .int (iZ v1)), (2, .int (iZ v2))] 24 [vM y v2, .int (iZ v1)]
    obtain ⟨hd5, h⟩ := h
    refine c_atM hd5.1 ?_
    refine c_cast C.1 C.2.2.2.1 (ci := 2) (q := (RX1, TX1, 6)) rfl rfl (by decide +kernel) lk_X4_greatestGeneration_cc89 dX4_greatestGeneration_24 ⟨hd5.1, hd5.2, rfl⟩ ?_
    refine c_toM hd5.1 ?_
    refine c_atM hd5.1 ?_
    refine c_get C.1 (ci := 2) (q := (RX1, TX1, 6)) rfl rfl inX4_greatestGeneration_X1 3 (by decide) (v := .int (iZ (σ 11 v2 0 0))) rfl lk_X4_greatestGeneration_f277 rfl dX4_greatestGeneration_27 ⟨hd5.1, hd5.2, rfl⟩ ?_
    obtain ⟨hc6, h⟩ := h
    obtain ⟨hc7, h⟩ := h
    refine g_max C.1 (x := v1) (y := σ 11 v2 0 0) hc6 hc7 lk_X4_greatestGeneration_mm298 lk_X4_greatestGeneration_ms298 lk_X4_greatestGeneration_mi298 lk_X4_greatestGeneration_mc298 (Nat.le_of_ble_eq_true rfl) (Nat.le_of_ble_eq_true rfl) ⟨Nat.le_of_ble_eq_true rfl, Nat.le_of_ble_eq_true rfl⟩ dX4_greatestGeneration_30 ?_
    refine g_istore_n C.1 (i := 1) (loc' := [(1, .int (iZ (if v1 < (σ 11 v2 0 0) then (σ 11 v2 0 0) else v1))), (0, .ref (y.1 0 0 0)), (2, .int (iZ v2))]) C.2.1 dX4_greatestGeneration_33 rfl (by decide) rfl ?_
    refine g_iinc C.1 (z := v2) (w := 1) (loc' := [(2, .int (iZ (v2 + 1))), (1, .int (iZ (if v1 < (σ 11 v2 0 0) then (σ 11 v2 0 0) else v1))), (0, .ref (y.1 0 0 0))]) 2 C.2.1 dX4_greatestGeneration_34 rfl (by decide) rfl ?_
    refine g_goto C.1 (tgt := 4) dX4_greatestGeneration_37 (by decide) ?_
    exact g_sub [2, 1, 0] rfl h
theorem m_X4_greatestGeneration {l : Launch} {y : LT} {σ : CS} {post : Int → CS → Prop} (h : ∀ K : KT, K.l = l → C_X4_greatestGeneration K y post → P_X4_greatestGeneration_0 K y σ) : cMet l yX4_greatestGeneration wsX4_greatestGeneration rm_X4_greatestGeneration y.2.2 (CL y) rkI [.ref (y.1 0 0 0)] σ post :=
  cMet.of (maxL := 3) (by decide +kernel) rfl (Nat.le_of_ble_eq_true rfl) (fun K h1 h2 h3 h4 h5 h6 _ => h K h1 ⟨h2, h3, h4, h5, h6⟩)
def H_X4_greatestGeneration (p : CS → Prop) (f : CS → Int) : Prop := ∀ (l : Launch) (y : LT) (σ : CS), p σ → cMet l yX4_greatestGeneration wsX4_greatestGeneration rm_X4_greatestGeneration y.2.2 (CL y) rkI [.ref (y.1 0 0 0)] σ (fun r σ' => r = f σ ∧ σ' = σ)

/-! X4_lettersThere -/
abbrev rm_X4_lettersThere : Room := { frames := 3, cells := 0, slots := 0, locals := 67 }
set_option maxRecDepth 20000 in
theorem inX4_lettersThere_X4 : ∀ w ∈ wsX40, w ∈ wsX4_lettersThere := by decide +kernel
set_option maxRecDepth 20000 in
theorem inX4_lettersThere_X1 : ∀ w ∈ wsX10, w ∈ wsX4_lettersThere := by decide +kernel
set_option maxRecDepth 20000 in
theorem inX4_lettersThere_X3 : ∀ w ∈ wsX30, w ∈ wsX4_lettersThere := by decide +kernel
theorem lk_X4_lettersThere_f20 : Cond.fieldLink RX4 20 "CopyHouse" "manuscripts" "Ljava/util/ArrayList;" ∈ wsX4_lettersThere := List.mem_of_getElem? (i := 1) (by decide +kernel)
theorem lk_X4_lettersThere_cc89 : Cond.classLink RX4 89 "CopyHouse$Manuscript" ∈ wsX4_lettersThere := List.mem_of_getElem? (i := 2) (by decide +kernel)
theorem lk_X4_lettersThere_f153 : Cond.fieldLink RX4 153 "CopyHouse$Manuscript" "there" "Z" ∈ wsX4_lettersThere := List.mem_of_getElem? (i := 3) (by decide +kernel)
theorem lk_X4_lettersThere_f88 : Cond.fieldLink RX4 88 "CopyHouse$Manuscript" "text" "LCopyHouse$Text;" ∈ wsX4_lettersThere := List.mem_of_getElem? (i := 4) (by decide +kernel)
theorem lk_X4_lettersThere_f93 : Cond.fieldLink RX4 93 "CopyHouse$Text" "length" "I" ∈ wsX4_lettersThere := List.mem_of_getElem? (i := 5) (by decide +kernel)
def C_X4_lettersThere (K : KT) (y : LT) (post : Int → CS → Prop) : Prop := kOK K cX4_lettersThere RX4 wsX4_lettersThere (some .int) rm_X4_lettersThere ∧ K.nL = 4 ∧ kQ K (CL y) rkI post rm_X4_lettersThere ∧ SF y.2.2 K.A K.s K.s.heap ∧ K.l.stackTraces = false
def P_X4_lettersThere_0 (K : KT) (y : LT) (σ : CS) : Prop := G K (CL y σ) (0, 0) [(0, .ref (y.1 0 0 0))] 0 []
def P_X4_lettersThere_1 (K : KT) (y : LT) (σ : CS) (v1 v2 : Int) : Prop := G K (CL y σ) (0, 0) [(0, .ref (y.1 0 0 0)), (1, .int (iZ v1)), (2, .int (iZ v2))] 4 []
set_option maxRecDepth 100000 in
set_option maxHeartbeats 4000000 in
theorem b_X4_lettersThere_0 {K : KT} {y : LT} {post : Int → CS → Prop} (C : C_X4_lettersThere K y post) {σ : CS} (h : P_X4_lettersThere_1 K y σ 0 0) : P_X4_lettersThere_0 K y σ := by
  refine g_iconst C.1 (z := 0) dX4_lettersThere_0 ?_
  refine g_istore_n C.1 (i := 1) (loc' := [(1, .int (iZ 0)), (0, .ref (y.1 0 0 0))]) C.2.1 dX4_lettersThere_1 rfl (by decide) rfl ?_
  refine g_iconst C.1 (z := 0) dX4_lettersThere_2 ?_
  refine g_istore_n C.1 (i := 2) (loc' := [(2, .int (iZ 0)), (1, .int (iZ 0)), (0, .ref (y.1 0 0 0))]) C.2.1 dX4_lettersThere_3 rfl (by decide) rfl ?_
  exact g_sub [2, 1, 0] rfl h
set_option maxRecDepth 100000 in
set_option maxHeartbeats 4000000 in
theorem b_X4_lettersThere_1 {K : KT} {y : LT} {post : Int → CS → Prop} (C : C_X4_lettersThere K y post) {p_sizeM : CS → Prop} {f_sizeM : CS → Int} (h_sizeM : H_sizeM p_sizeM f_sizeM) {p_getM : CS → Int → Prop} (h_getM : H_getM p_getM) {σ : CS} {v1 v2 : Int} (h : (p_sizeM σ) ∧ (-2147483648 ≤ v2 ∧ v2 < 2147483648) ∧ (-2147483648 ≤ (f_sizeM σ) ∧ (f_sizeM σ) < 2147483648) ∧ (((f_sizeM σ) ≤ v2 → post v1 σ) ∧ (¬ (f_sizeM σ) ≤ v2 → (p_getM σ v2) ∧ (0 ≤ v2 ∧ v2 < (σ 21 0 0 0)) ∧ (-2147483648 ≤ (σ 12 v2 0 0) ∧ (σ 12 v2 0 0) < 2147483648) ∧ (((σ 12 v2 0 0) = 0 → P_X4_lettersThere_1 K y σ v1 (v2 + 1)) ∧ (¬ (σ 12 v2 0 0) = 0 → (0 ≤ (v2 + 3) ∧ (v2 + 3) < (σ 21 0 0 0) + 3) ∧ P_X4_lettersThere_1 K y σ (v1 + (σ 5 (v2 + 3) 0 0)) (v2 + 1)))))) : P_X4_lettersThere_1 K y σ v1 v2 := by
  refine g_iload_n C.1 2 dX4_lettersThere_4 rfl rfl ?_
  refine g_aload_n C.1 0 dX4_lettersThere_5 rfl rfl ?_
  refine c_get C.1 (ci := 5) (q := (RX4, TX4, 10)) rfl rfl inX4_lettersThere_X4 2 (by decide) (v := .ref (y.1 2 0 0)) rfl lk_X4_lettersThere_f20 rfl dX4_lettersThere_6 ⟨rfl, rfl⟩ ?_
  obtain ⟨hp1, h⟩ := h
  refine c_callV C.1 C.2.2.2.1 C.2.2.2.2 (h_sizeM K.l y σ hp1) (ci := 0) (q := (RJx4a65c, TJx4a65c, 3)) rfl (c_recv rfl ⟨rfl, rfl⟩) (fun ht => cwV 0 ht gX4_lettersThere_Jx4a65c_size_8abf5 rfl rfl rfl (by decide +kernel) ⟨Nat.le_of_ble_eq_true rfl, Nat.le_of_ble_eq_true rfl⟩) rfl rfl (Nat.le_of_ble_eq_true rfl) ⟨Nat.le_of_ble_eq_true rfl, Nat.le_of_ble_eq_true rfl⟩ dX4_lettersThere_9 (fun r σ9 hq => ?_)
  rw [hq.1, hq.2]
  show G K (CL y σ) (0, 0) [(0, .ref (y.1 0 0 0)), (1, .int (iZ v1)), (2, .int (iZ v2))] 12 [.int (iZ (f_sizeM σ)), .int (iZ v2)]
  obtain ⟨hc2, h⟩ := h
  obtain ⟨hc3, h⟩ := h
  refine g_icmp_ge C.1 (tgt := 50) dX4_lettersThere_12 (by decide) hc2 hc3 (fun hc => ?_) (fun hc => ?_)
  · have h := h.1 hc
    refine g_iload_n C.1 1 dX4_lettersThere_50 rfl rfl ?_
    exact x_iret C.1 C.2.2.1 rfl ⟨Nat.le_of_ble_eq_true rfl, Nat.le_of_ble_eq_true rfl⟩ dX4_lettersThere_51 h
  · have h := h.2 hc
    refine g_aload_n C.1 0 dX4_lettersThere_15 rfl rfl ?_
    refine c_get C.1 (ci := 5) (q := (RX4, TX4, 10)) rfl rfl inX4_lettersThere_X4 2 (by decide) (v := .ref (y.1 2 0 0)) rfl lk_X4_lettersThere_f20 rfl dX4_lettersThere_16 ⟨rfl, rfl⟩ ?_
    refine g_iload_n C.1 2 dX4_lettersThere_19 rfl rfl ?_
    obtain ⟨hp4, h⟩ := h
    refine c_callV C.1 C.2.2.2.1 C.2.2.2.2 (h_getM K.l y σ v2 hp4) (ci := 0) (q := (RJx4a65c, TJx4a65c, 3)) rfl (c_recv rfl ⟨rfl, rfl⟩) (fun ht => cwV 1 ht gX4_lettersThere_Jx4a65c_get_915e3 rfl rfl rfl (by decide +kernel) ⟨Nat.le_of_ble_eq_true rfl, Nat.le_of_ble_eq_true rfl⟩) rfl rfl (Nat.le_of_ble_eq_true rfl) ⟨Nat.le_of_ble_eq_true rfl, Nat.le_of_ble_eq_true rfl⟩ dX4_lettersThere_20 (fun r σ9 hq => ?_)
    rw [hq.1, hq.2]
    show G K (CL y σ) (0, 0) [(0, .ref (y.1 0 0 0)), (1, .int (iZ v1)), (2, .int (iZ v2))] 23 [vM y v2]
    obtain ⟨hd5, h⟩ := h
    refine c_atM hd5.1 ?_
    refine c_cast C.1 C.2.2.2.1 (ci := 2) (q := (RX1, TX1, 6)) rfl rfl (by decide +kernel) lk_X4_lettersThere_cc89 dX4_lettersThere_23 ⟨hd5.1, hd5.2, rfl⟩ ?_
    refine c_toM hd5.1 ?_
    refine g_astoreM_n C.1 (i := 3) (loc' := [(0, .ref (y.1 0 0 0)), (1, .int (iZ v1)), (2, .int (iZ v2))]) C.2.1 dX4_lettersThere_26 rfl (by decide) rfl ?_
    refine g_aloadM_n C.1 0 dX4_lettersThere_27 rfl rfl ?_
    refine c_atM hd5.1 ?_
    refine c_get C.1 (ci := 2) (q := (RX1, TX1, 6)) rfl rfl inX4_lettersThere_X1 5 (by decide) (v := .int (iZ (σ 12 v2 0 0))) rfl lk_X4_lettersThere_f153 rfl dX4_lettersThere_28 ⟨hd5.1, hd5.2, rfl⟩ ?_
    obtain ⟨hc6, h⟩ := h
    refine g_if_eq C.1 (tgt := 44) dX4_lettersThere_31 (by decide) hc6 (fun hc => ?_) (fun hc => ?_)
    · have h := h.1 hc
      refine g_iinc C.1 (z := v2) (w := 1) (loc' := [(2, .int (iZ (v2 + 1))), (3, vM y v2), (0, .ref (y.1 0 0 0)), (1, .int (iZ v1))]) 3 C.2.1 dX4_lettersThere_44 rfl (by decide) (by simp [vM_cat, cat_i, cat_r, cat_l]) ?_
      refine g_goto C.1 (tgt := 4) dX4_lettersThere_47 (by decide) ?_
      exact g_sub [2, 3, 0] rfl h
    · have h := h.2 hc
      refine g_iload_n C.1 2 dX4_lettersThere_34 rfl rfl ?_
      refine g_aloadM_n C.1 0 dX4_lettersThere_35 rfl rfl ?_
      refine c_atM hd5.1 ?_
      refine c_get C.1 (ci := 2) (q := (RX1, TX1, 6)) rfl rfl inX4_lettersThere_X1 4 (by decide) (v := .ref (y.1 8 (v2 + 3) 0)) rfl lk_X4_lettersThere_f88 rfl dX4_lettersThere_36 ⟨hd5.1, hd5.2, rfl⟩ ?_
      obtain ⟨hd7, h⟩ := h
      refine c_get C.1 (ci := 4) (q := (RX3, TX3, 2)) rfl rfl inX4_lettersThere_X3 1 (by decide) (v := .int (iZ (σ 5 (v2 + 3) 0 0))) rfl lk_X4_lettersThere_f93 rfl dX4_lettersThere_39 ⟨hd7.1, hd7.2, rfl⟩ ?_
      refine g_iadd C.1 (x := v1) (y := σ 5 (v2 + 3) 0 0) dX4_lettersThere_42 ?_
      refine g_istore_n C.1 (i := 1) (loc' := [(1, .int (iZ (v1 + (σ 5 (v2 + 3) 0 0)))), (3, vM y v2), (0, .ref (y.1 0 0 0)), (2, .int (iZ v2))]) C.2.1 dX4_lettersThere_43 rfl (by decide) (by simp [vM_cat, cat_i, cat_r, cat_l]) ?_
      refine g_iinc C.1 (z := v2) (w := 1) (loc' := [(2, .int (iZ (v2 + 1))), (1, .int (iZ (v1 + (σ 5 (v2 + 3) 0 0)))), (3, vM y v2), (0, .ref (y.1 0 0 0))]) 3 C.2.1 dX4_lettersThere_44 rfl (by decide) (by simp [vM_cat, cat_i, cat_r, cat_l]) ?_
      refine g_goto C.1 (tgt := 4) dX4_lettersThere_47 (by decide) ?_
      exact g_sub [3, 1, 0] rfl h
theorem m_X4_lettersThere {l : Launch} {y : LT} {σ : CS} {post : Int → CS → Prop} (h : ∀ K : KT, K.l = l → C_X4_lettersThere K y post → P_X4_lettersThere_0 K y σ) : cMet l yX4_lettersThere wsX4_lettersThere rm_X4_lettersThere y.2.2 (CL y) rkI [.ref (y.1 0 0 0)] σ post :=
  cMet.of (maxL := 4) (by decide +kernel) rfl (Nat.le_of_ble_eq_true rfl) (fun K h1 h2 h3 h4 h5 h6 _ => h K h1 ⟨h2, h3, h4, h5, h6⟩)
def H_X4_lettersThere (p : CS → Prop) (f : CS → Int) : Prop := ∀ (l : Launch) (y : LT) (σ : CS), p σ → cMet l yX4_lettersThere wsX4_lettersThere rm_X4_lettersThere y.2.2 (CL y) rkI [.ref (y.1 0 0 0)] σ (fun r σ' => r = f σ ∧ σ' = σ)

/-! X4_firstMostTallied -/
abbrev rm_X4_firstMostTallied : Room := { frames := 0, cells := 0, slots := 0, locals := 0 }
set_option maxRecDepth 20000 in
theorem inX4_firstMostTallied_X4 : ∀ w ∈ wsX40, w ∈ wsX4_firstMostTallied := by decide +kernel
theorem lk_X4_firstMostTallied_f48 : Cond.fieldLink RX4 48 "CopyHouse" "tally" "[I" ∈ wsX4_firstMostTallied := List.mem_of_getElem? (i := 1) (by decide +kernel)
def C_X4_firstMostTallied (K : KT) (y : LT) (post : Int → CS → Prop) : Prop := kOK K cX4_firstMostTallied RX4 wsX4_firstMostTallied (some .int) rm_X4_firstMostTallied ∧ K.nL = 4 ∧ kQ K (CL y) rkI post rm_X4_firstMostTallied ∧ SF y.2.2 K.A K.s K.s.heap ∧ K.l.stackTraces = false
def P_X4_firstMostTallied_0 (K : KT) (y : LT) (σ : CS) (v1 : Int) : Prop := G K (CL y σ) (0, 0) [(0, .ref (y.1 0 0 0)), (1, .int (iZ v1))] 0 []
def P_X4_firstMostTallied_1 (K : KT) (y : LT) (σ : CS) (v1 v2 v3 : Int) : Prop := G K (CL y σ) (0, 0) [(0, .ref (y.1 0 0 0)), (1, .int (iZ v1)), (2, .int (iZ v2)), (3, .int (iZ v3))] 4 []
set_option maxRecDepth 100000 in
set_option maxHeartbeats 4000000 in
theorem b_X4_firstMostTallied_0 {K : KT} {y : LT} {post : Int → CS → Prop} (C : C_X4_firstMostTallied K y post) {σ : CS} {v1 : Int} (h : P_X4_firstMostTallied_1 K y σ v1 0 1) : P_X4_firstMostTallied_0 K y σ v1 := by
  refine g_iconst C.1 (z := 0) dX4_firstMostTallied_0 ?_
  refine g_istore_n C.1 (i := 2) (loc' := [(2, .int (iZ 0)), (0, .ref (y.1 0 0 0)), (1, .int (iZ v1))]) C.2.1 dX4_firstMostTallied_1 rfl (by decide) rfl ?_
  refine g_iconst C.1 (z := 1) dX4_firstMostTallied_2 ?_
  refine g_istore_n C.1 (i := 3) (loc' := [(3, .int (iZ 1)), (2, .int (iZ 0)), (0, .ref (y.1 0 0 0)), (1, .int (iZ v1))]) C.2.1 dX4_firstMostTallied_3 rfl (by decide) rfl ?_
  exact g_sub [2, 3, 1, 0] rfl h
set_option maxRecDepth 100000 in
set_option maxHeartbeats 4000000 in
theorem b_X4_firstMostTallied_1 {K : KT} {y : LT} {post : Int → CS → Prop} (C : C_X4_firstMostTallied K y post) {σ : CS} {v1 v2 v3 : Int} (h : (-2147483648 ≤ v3 ∧ v3 < 2147483648) ∧ (-2147483648 ≤ v1 ∧ v1 < 2147483648) ∧ ((v1 ≤ v3 → post v2 σ) ∧ (¬ v1 ≤ v3 → ((121 ≤ v3 → post v2 σ) ∧ (¬ 121 ≤ v3 → (0 ≤ v3 ∧ v3 < 121) ∧ (0 ≤ v2 ∧ v2 < 121) ∧ (-2147483648 ≤ (σ 8 v3 0 0) ∧ (σ 8 v3 0 0) < 2147483648) ∧ (-2147483648 ≤ (σ 8 v2 0 0) ∧ (σ 8 v2 0 0) < 2147483648) ∧ (((σ 8 v3 0 0) ≤ (σ 8 v2 0 0) → P_X4_firstMostTallied_1 K y σ v1 v2 (v3 + 1)) ∧ (¬ (σ 8 v3 0 0) ≤ (σ 8 v2 0 0) → P_X4_firstMostTallied_1 K y σ v1 v3 (v3 + 1)))))))) : P_X4_firstMostTallied_1 K y σ v1 v2 v3 := by
  refine g_iload_n C.1 3 dX4_firstMostTallied_4 rfl rfl ?_
  refine g_iload_n C.1 1 dX4_firstMostTallied_5 rfl rfl ?_
  obtain ⟨hc1, h⟩ := h
  obtain ⟨hc2, h⟩ := h
  refine g_icmp_ge C.1 (tgt := 41) dX4_firstMostTallied_6 (by decide) hc1 hc2 (fun hc => ?_) (fun hc => ?_)
  · have h := h.1 hc
    refine g_iload_n C.1 2 dX4_firstMostTallied_41 rfl rfl ?_
    exact x_iret C.1 C.2.2.1 rfl ⟨Nat.le_of_ble_eq_true rfl, Nat.le_of_ble_eq_true rfl⟩ dX4_firstMostTallied_42 h
  · have h := h.2 hc
    refine g_iload_n C.1 3 dX4_firstMostTallied_9 rfl rfl ?_
    refine g_aload_n C.1 0 dX4_firstMostTallied_10 rfl rfl ?_
    refine c_get C.1 (ci := 5) (q := (RX4, TX4, 10)) rfl rfl inX4_firstMostTallied_X4 9 (by decide) (v := .ref (y.1 11 0 0)) rfl lk_X4_firstMostTallied_f48 rfl dX4_firstMostTallied_11 ⟨rfl, rfl⟩ ?_
    refine c_len C.1 (N := 121) rfl rfl rfl dX4_firstMostTallied_14 ⟨rfl, rfl⟩ ?_
    refine g_icmp_ge C.1 (tgt := 41) dX4_firstMostTallied_15 (by decide) hc1 (by decide) (fun hc => ?_) (fun hc => ?_)
    · have h := h.1 hc
      refine g_iload_n C.1 2 dX4_firstMostTallied_41 rfl rfl ?_
      exact x_iret C.1 C.2.2.1 rfl ⟨Nat.le_of_ble_eq_true rfl, Nat.le_of_ble_eq_true rfl⟩ dX4_firstMostTallied_42 h
    · have h := h.2 hc
      refine g_aload_n C.1 0 dX4_firstMostTallied_18 rfl rfl ?_
      refine c_get C.1 (ci := 5) (q := (RX4, TX4, 10)) rfl rfl inX4_firstMostTallied_X4 9 (by decide) (v := .ref (y.1 11 0 0)) rfl lk_X4_firstMostTallied_f48 rfl dX4_firstMostTallied_19 ⟨rfl, rfl⟩ ?_
      refine g_iload_n C.1 3 dX4_firstMostTallied_22 rfl rfl ?_
      obtain ⟨hi3, h⟩ := h
      refine c_ald C.1 (N := 121) (f := fun p => σ 8 p 0 0) (e := v3) rfl rfl rfl (by decide) dX4_firstMostTallied_23 ⟨rfl, rfl⟩ hi3 ?_
      show G K (CL y σ) (0, 0) [(0, .ref (y.1 0 0 0)), (1, .int (iZ v1)), (2, .int (iZ v2)), (3, .int (iZ v3))] 24 [.int (iZ (σ 8 v3 0 0))]
      refine g_aload_n C.1 0 dX4_firstMostTallied_24 rfl rfl ?_
      refine c_get C.1 (ci := 5) (q := (RX4, TX4, 10)) rfl rfl inX4_firstMostTallied_X4 9 (by decide) (v := .ref (y.1 11 0 0)) rfl lk_X4_firstMostTallied_f48 rfl dX4_firstMostTallied_25 ⟨rfl, rfl⟩ ?_
      refine g_iload_n C.1 2 dX4_firstMostTallied_28 rfl rfl ?_
      obtain ⟨hi4, h⟩ := h
      refine c_ald C.1 (N := 121) (f := fun p => σ 8 p 0 0) (e := v2) rfl rfl rfl (by decide) dX4_firstMostTallied_29 ⟨rfl, rfl⟩ hi4 ?_
      show G K (CL y σ) (0, 0) [(0, .ref (y.1 0 0 0)), (1, .int (iZ v1)), (2, .int (iZ v2)), (3, .int (iZ v3))] 30 [.int (iZ (σ 8 v2 0 0)), .int (iZ (σ 8 v3 0 0))]
      obtain ⟨hc5, h⟩ := h
      obtain ⟨hc6, h⟩ := h
      refine g_icmp_le C.1 (tgt := 35) dX4_firstMostTallied_30 (by decide) hc5 hc6 (fun hc => ?_) (fun hc => ?_)
      · have h := h.1 hc
        refine g_iinc C.1 (z := v3) (w := 1) (loc' := [(3, .int (iZ (v3 + 1))), (0, .ref (y.1 0 0 0)), (1, .int (iZ v1)), (2, .int (iZ v2))]) 3 C.2.1 dX4_firstMostTallied_35 rfl (by decide) rfl ?_
        refine g_goto C.1 (tgt := 4) dX4_firstMostTallied_38 (by decide) ?_
        exact g_sub [1, 2, 3, 0] rfl h
      · have h := h.2 hc
        refine g_iload_n C.1 3 dX4_firstMostTallied_33 rfl rfl ?_
        refine g_istore_n C.1 (i := 2) (loc' := [(2, .int (iZ v3)), (0, .ref (y.1 0 0 0)), (1, .int (iZ v1)), (3, .int (iZ v3))]) C.2.1 dX4_firstMostTallied_34 rfl (by decide) rfl ?_
        refine g_iinc C.1 (z := v3) (w := 1) (loc' := [(3, .int (iZ (v3 + 1))), (2, .int (iZ v3)), (0, .ref (y.1 0 0 0)), (1, .int (iZ v1))]) 3 C.2.1 dX4_firstMostTallied_35 rfl (by decide) rfl ?_
        refine g_goto C.1 (tgt := 4) dX4_firstMostTallied_38 (by decide) ?_
        exact g_sub [2, 3, 1, 0] rfl h
theorem m_X4_firstMostTallied {l : Launch} {y : LT} {σ : CS} {v1 : Int} {post : Int → CS → Prop} (h : ∀ K : KT, K.l = l → C_X4_firstMostTallied K y post → P_X4_firstMostTallied_0 K y σ v1) : cMet l yX4_firstMostTallied wsX4_firstMostTallied rm_X4_firstMostTallied y.2.2 (CL y) rkI [.ref (y.1 0 0 0), .int (iZ v1)] σ post :=
  cMet.of (maxL := 4) (by decide +kernel) rfl (Nat.le_of_ble_eq_true rfl) (fun K h1 h2 h3 h4 h5 h6 _ => h K h1 ⟨h2, h3, h4, h5, h6⟩)
def H_X4_firstMostTallied (p : CS → Int → Prop) (f : CS → Int → Int) : Prop := ∀ (l : Launch) (y : LT) (σ : CS) (v1 : Int), p σ v1 → cMet l yX4_firstMostTallied wsX4_firstMostTallied rm_X4_firstMostTallied y.2.2 (CL y) rkI [.ref (y.1 0 0 0), .int (iZ v1)] σ (fun r σ' => r = f σ v1 ∧ σ' = σ)

/-! X4_forgetMeasures -/
abbrev rm_X4_forgetMeasures : Room := { frames := 0, cells := 0, slots := 0, locals := 0 }
set_option maxRecDepth 20000 in
theorem inX4_forgetMeasures_X4 : ∀ w ∈ wsX40, w ∈ wsX4_forgetMeasures := by decide +kernel
theorem lk_X4_forgetMeasures_f29 : Cond.fieldLink RX4 29 "CopyHouse" "measured" "[[I" ∈ wsX4_forgetMeasures := List.mem_of_getElem? (i := 1) (by decide +kernel)
def C_X4_forgetMeasures (K : KT) (y : LT) (post : Int → CS → Prop) : Prop := kOK K cX4_forgetMeasures RX4 wsX4_forgetMeasures none rm_X4_forgetMeasures ∧ K.nL = 3 ∧ kQ K (CL y) rkV post rm_X4_forgetMeasures ∧ SF y.2.2 K.A K.s K.s.heap ∧ K.l.stackTraces = false
def P_X4_forgetMeasures_0 (K : KT) (y : LT) (σ : CS) (v1 : Int) : Prop := G K (CL y σ) (0, 0) [(0, .ref (y.1 0 0 0)), (1, .int (iZ v1))] 0 []
def P_X4_forgetMeasures_1 (K : KT) (y : LT) (σ : CS) (v1 v2 : Int) : Prop := G K (CL y σ) (0, 0) [(0, .ref (y.1 0 0 0)), (1, .int (iZ v1)), (2, .int (iZ v2))] 2 []
set_option maxRecDepth 100000 in
set_option maxHeartbeats 4000000 in
theorem b_X4_forgetMeasures_0 {K : KT} {y : LT} {post : Int → CS → Prop} (C : C_X4_forgetMeasures K y post) {σ : CS} {v1 : Int} (h : P_X4_forgetMeasures_1 K y σ v1 0) : P_X4_forgetMeasures_0 K y σ v1 := by
  refine g_iconst C.1 (z := 0) dX4_forgetMeasures_0 ?_
  refine g_istore_n C.1 (i := 2) (loc' := [(2, .int (iZ 0)), (0, .ref (y.1 0 0 0)), (1, .int (iZ v1))]) C.2.1 dX4_forgetMeasures_1 rfl (by decide) rfl ?_
  exact g_sub [1, 2, 0] rfl h
set_option maxRecDepth 100000 in
set_option maxHeartbeats 4000000 in
theorem b_X4_forgetMeasures_1 {K : KT} {y : LT} {post : Int → CS → Prop} (C : C_X4_forgetMeasures K y post) {σ : CS} {v1 v2 : Int} (h : (-2147483648 ≤ v2 ∧ v2 < 2147483648) ∧ ((24 ≤ v2 → post 0 σ) ∧ (¬ 24 ≤ v2 → (0 ≤ v1 ∧ v1 < 24) ∧ (0 ≤ v2 ∧ v2 < 24) ∧ P_X4_forgetMeasures_1 K y (upC σ 4 (up2 ((up2 (σ 4) v1 v2 ((-1)))) v2 v1 ((-1)))) v1 (v2 + 1)))) : P_X4_forgetMeasures_1 K y σ v1 v2 := by
  refine g_iload_n C.1 2 dX4_forgetMeasures_2 rfl rfl ?_
  refine g_bipush C.1 (z := 24) dX4_forgetMeasures_3 (by decide) ?_
  obtain ⟨hc1, h⟩ := h
  refine g_icmp_ge C.1 (tgt := 32) dX4_forgetMeasures_5 (by decide) hc1 (by decide) (fun hc => ?_) (fun hc => ?_)
  · have h := h.1 hc
    exact x_vret C.1 C.2.2.1 rfl ⟨Nat.le_of_ble_eq_true rfl, Nat.le_of_ble_eq_true rfl⟩ dX4_forgetMeasures_32 h
  · have h := h.2 hc
    refine g_aload_n C.1 0 dX4_forgetMeasures_8 rfl rfl ?_
    refine c_get C.1 (ci := 5) (q := (RX4, TX4, 10)) rfl rfl inX4_forgetMeasures_X4 4 (by decide) (v := .ref (y.1 6 0 0)) rfl lk_X4_forgetMeasures_f29 rfl dX4_forgetMeasures_9 ⟨rfl, rfl⟩ ?_
    refine g_iload_n C.1 1 dX4_forgetMeasures_12 rfl rfl ?_
    obtain ⟨hd2, h⟩ := h
    refine c_mrow C.1 (e := v1) dX4_forgetMeasures_13 hd2 ?_
    refine g_iload_n C.1 2 dX4_forgetMeasures_14 rfl rfl ?_
    refine g_iconst C.1 (z := (-1)) dX4_forgetMeasures_15 ?_
    obtain ⟨hi3, h⟩ := h
    refine c_ast C.1 (σ' := upC σ 4 (up2 (σ 4) v1 v2 ((-1)))) (N := 24) (f := fun p => σ 4 v1 p 0) (e := v2) (z := (-1)) rfl rfl (cu_meas _ _ _ _ _) (CUpd_4 y _ _ _ (fun _ _ hx => if_neg (fun q => hx q.1))) rfl (by decide) dX4_forgetMeasures_16 ⟨hd2.1, hd2.2, rfl⟩ hi3 ?_
    refine g_aload_n C.1 0 dX4_forgetMeasures_17 rfl rfl ?_
    refine c_get C.1 (ci := 5) (q := (RX4, TX4, 10)) rfl rfl inX4_forgetMeasures_X4 4 (by decide) (v := .ref (y.1 6 0 0)) rfl lk_X4_forgetMeasures_f29 rfl dX4_forgetMeasures_18 ⟨rfl, rfl⟩ ?_
    refine g_iload_n C.1 2 dX4_forgetMeasures_21 rfl rfl ?_
    refine c_mrow C.1 (e := v2) dX4_forgetMeasures_22 hi3 ?_
    refine g_iload_n C.1 1 dX4_forgetMeasures_23 rfl rfl ?_
    refine g_iconst C.1 (z := (-1)) dX4_forgetMeasures_24 ?_
    refine c_ast C.1 (σ' := upC (upC σ 4 (up2 (σ 4) v1 v2 ((-1)))) 4 (up2 ((up2 (σ 4) v1 v2 ((-1)))) v2 v1 ((-1)))) (N := 24) (f := fun p => (up2 (σ 4) v1 v2 ((-1))) v2 p 0) (e := v1) (z := (-1)) rfl rfl (cu_meas _ _ _ _ _) (CUpd_4 y _ _ _ (fun _ _ hx => if_neg (fun q => hx q.1))) rfl (by decide) dX4_forgetMeasures_25 ⟨hi3.1, hi3.2, rfl⟩ hd2 ?_
    rw [show upC (upC σ 4 (up2 (σ 4) v1 v2 ((-1)))) 4 (up2 ((up2 (σ 4) v1 v2 ((-1)))) v2 v1 ((-1))) = upC σ 4 (up2 ((up2 (σ 4) v1 v2 ((-1)))) v2 v1 ((-1))) from by funext c9; unfold upC; split <;> simp_all]
    refine g_iinc C.1 (z := v2) (w := 1) (loc' := [(2, .int (iZ (v2 + 1))), (0, .ref (y.1 0 0 0)), (1, .int (iZ v1))]) 2 C.2.1 dX4_forgetMeasures_26 rfl (by decide) rfl ?_
    refine g_goto C.1 (tgt := 2) dX4_forgetMeasures_29 (by decide) ?_
    exact g_sub [1, 2, 0] rfl h
theorem m_X4_forgetMeasures {l : Launch} {y : LT} {σ : CS} {v1 : Int} {post : Int → CS → Prop} (h : ∀ K : KT, K.l = l → C_X4_forgetMeasures K y post → P_X4_forgetMeasures_0 K y σ v1) : cMet l yX4_forgetMeasures wsX4_forgetMeasures rm_X4_forgetMeasures y.2.2 (CL y) rkV [.ref (y.1 0 0 0), .int (iZ v1)] σ post :=
  cMet.of (maxL := 3) (by decide +kernel) rfl (Nat.le_of_ble_eq_true rfl) (fun K h1 h2 h3 h4 h5 h6 _ => h K h1 ⟨h2, h3, h4, h5, h6⟩)
def H_X4_forgetMeasures (p : CS → Int → Prop) (o : CS → Int → Int → CS → Prop) : Prop := ∀ (l : Launch) (y : LT) (σ : CS) (v1 : Int), p σ v1 → cMet l yX4_forgetMeasures wsX4_forgetMeasures rm_X4_forgetMeasures y.2.2 (CL y) rkV [.ref (y.1 0 0 0), .int (iZ v1)] σ (fun r σ' => o σ v1 r σ')
