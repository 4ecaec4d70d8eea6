/-! X5_thrown -/
abbrev rm_X5_thrown : Room := { frames := 0, cells := 0, slots := 0, locals := 0 }
theorem inX5_thrown : ∀ w ∈ wsX50, w ∈ wsX5_thrown := by decide +kernel
theorem lk_X5_thrown_f47 : Cond.fieldLink RX5 47 "CopyHouseModel" "thrown" "I" ∈ wsX5_thrown := List.mem_of_getElem? (i := 1) (by decide +kernel)
def C_X5_thrown (K : KT) (L : Nat → Nat) (c : Nat → ClassId) (post : Int → MS → Prop) : Prop := kOK K cX5_thrown RX5 wsX5_thrown (some .int) rm_X5_thrown ∧ K.nL = 1 ∧ kQ K (MW L c [] []) rkI post rm_X5_thrown
def P_X5_thrown_0 (K : KT) (L : Nat → Nat) (c : Nat → ClassId) (σ : MS) : Prop := G K (MW L c [] [] σ) (0, 0) [(0, .ref (L 0))] 0 []
set_option maxRecDepth 100000 in
set_option maxHeartbeats 4000000 in
theorem b_X5_thrown_0 {K : KT} {L : Nat → Nat} {c : Nat → ClassId} {post : Int → MS → Prop} (C : C_X5_thrown K L c post) {σ : MS} (h : post (σ 0 0) σ) : P_X5_thrown_0 K L c σ := by
  refine g_aload_n C.1 0 dX5_thrown_0 rfl rfl ?_
  refine m_get C.1 inX5_thrown 0 (by decide) (v := .int (iZ (σ 0 0))) rfl lk_X5_thrown_f47 rfl dX5_thrown_1 ?_
  exact x_iret C.1 C.2.2 rfl ⟨Nat.le_of_ble_eq_true rfl, Nat.le_of_ble_eq_true rfl⟩ dX5_thrown_4 h
def H_X5_thrown (p : MS → Prop) (f : MS → Int) : Prop := ∀ (l : Launch) (L : Nat → Nat) (c : Nat → ClassId) (σ : MS), p σ → xMet l yX5_thrown wsX5_thrown rm_X5_thrown (MW L c [] []) rkI [.ref (L 0)] σ (fun r σ' => r = f σ ∧ σ' = σ)
theorem m_X5_thrown {l : Launch} {L : Nat → Nat} {c : Nat → ClassId} {σ : MS} {post : Int → MS → Prop} (h : ∀ K : KT, K.l = l → C_X5_thrown K L c post → P_X5_thrown_0 K L c σ) : xMet l yX5_thrown wsX5_thrown rm_X5_thrown (MW L c [] []) rkI [.ref (L 0)] σ post :=
  xMet.of (maxL := 1) (by decide +kernel) rfl (Nat.le_of_ble_eq_true rfl) (fun K h1 h2 h3 h4 _ => h K h1 ⟨h2, h4, h3⟩)

/-! X5_no -/
abbrev rm_X5_no : Room := { frames := 0, cells := 0, slots := 0, locals := 0 }
theorem inX5_no : ∀ w ∈ wsX50, w ∈ wsX5_no := by decide +kernel
theorem lk_X5_no_f47 : Cond.fieldLink RX5 47 "CopyHouseModel" "thrown" "I" ∈ wsX5_no := List.mem_of_getElem? (i := 1) (by decide +kernel)
def C_X5_no (K : KT) (L : Nat → Nat) (c : Nat → ClassId) (post : Int → MS → Prop) : Prop := kOK K cX5_no RX5 wsX5_no (some .int) rm_X5_no ∧ K.nL = 2 ∧ kQ K (MW L c [] []) rkI post rm_X5_no
def P_X5_no_0 (K : KT) (L : Nat → Nat) (c : Nat → ClassId) (σ : MS) (v1 : Int) : Prop := G K (MW L c [] [] σ) (0, 0) [(0, .ref (L 0)), (1, .int (iZ v1))] 0 []
set_option maxRecDepth 100000 in
set_option maxHeartbeats 4000000 in
theorem b_X5_no_0 {K : KT} {L : Nat → Nat} {c : Nat → ClassId} {post : Int → MS → Prop} (C : C_X5_no K L c post) {σ : MS} {v1 : Int} (h : post 0 (upM σ 0 (fun _ => v1))) : P_X5_no_0 K L c σ v1 := by
  refine g_aload_n C.1 0 dX5_no_0 rfl rfl ?_
  refine g_iload_n C.1 1 dX5_no_1 rfl rfl ?_
  refine m_put C.1 inX5_no 0 (by decide) (z := v1) (σ' := upM σ 0 (fun _ => v1)) rfl lk_X5_no_f47 rfl rfl rfl dX5_no_2 ?_
  refine g_iconst C.1 (z := 0) dX5_no_5 ?_
  exact x_iret C.1 C.2.2 rfl ⟨Nat.le_of_ble_eq_true rfl, Nat.le_of_ble_eq_true rfl⟩ dX5_no_6 h
def H_X5_no (p : MS → Int → Prop) (u : MS → Int → MS) : Prop := ∀ (l : Launch) (L : Nat → Nat) (c : Nat → ClassId) (σ : MS) (v1 : Int), p σ v1 → xMet l yX5_no wsX5_no rm_X5_no (MW L c [] []) rkI [.ref (L 0), .int (iZ v1)] σ (fun r σ' => r = 0 ∧ σ' = u σ v1)
theorem m_X5_no {l : Launch} {L : Nat → Nat} {c : Nat → ClassId} {σ : MS} {v1 : Int} {post : Int → MS → Prop} (h : ∀ K : KT, K.l = l → C_X5_no K L c post → P_X5_no_0 K L c σ v1) : xMet l yX5_no wsX5_no rm_X5_no (MW L c [] []) rkI [.ref (L 0), .int (iZ v1)] σ post :=
  xMet.of (maxL := 2) (by decide +kernel) rfl (Nat.le_of_ble_eq_true rfl) (fun K h1 h2 h3 h4 _ => h K h1 ⟨h2, h4, h3⟩)

/-! X5_isIn -/
abbrev rm_X5_isIn : Room := { frames := 0, cells := 0, slots := 0, locals := 0 }
def C_X5_isIn (K : KT) (L : Nat → Nat) (c : Nat → ClassId) (post : Int → MS → Prop) : Prop := kOK K cX5_isIn RX5 wsX5_isIn (some .boolean) rm_X5_isIn ∧ K.nL = 3 ∧ kQ K (MW L c [] []) rkI post rm_X5_isIn
def P_X5_isIn_0 (K : KT) (L : Nat → Nat) (c : Nat → ClassId) (σ : MS) (v0 v1 v2 : Int) : Prop := G K (MW L c [] [] σ) (0, 0) [(0, .int (iZ v0)), (1, .int (iZ v1)), (2, .int (iZ v2))] 0 []
set_option maxRecDepth 100000 in
set_option maxHeartbeats 4000000 in
theorem b_X5_isIn_0 {K : KT} {L : Nat → Nat} {c : Nat → ClassId} {post : Int → MS → Prop} (C : C_X5_isIn K L c post) {σ : MS} {v0 v1 v2 : Int} (h : (-2147483648 ≤ v0 ∧ v0 < 2147483648) ∧ (-2147483648 ≤ v1 ∧ v1 < 2147483648) ∧ ((v0 < v1 → post 0 σ) ∧ (¬ v0 < v1 → (-2147483648 ≤ v2 ∧ v2 < 2147483648) ∧ ((v2 < v0 → post 0 σ) ∧ (¬ v2 < v0 → post 1 σ))))) : P_X5_isIn_0 K L c σ v0 v1 v2 := by
  refine g_iload_n C.1 0 dX5_isIn_0 rfl rfl ?_
  refine g_iload_n C.1 1 dX5_isIn_1 rfl rfl ?_
  obtain ⟨hc1, h⟩ := h
  obtain ⟨hc2, h⟩ := h
  refine g_icmp_lt C.1 (tgt := 14) dX5_isIn_2 (by decide) hc1 hc2 (fun hc => ?_) (fun hc => ?_)
  · have h := h.1 hc
    refine g_iconst C.1 (z := 0) dX5_isIn_14 ?_
    exact x_zret C.1 C.2.2 rfl ⟨Nat.le_of_ble_eq_true rfl, Nat.le_of_ble_eq_true rfl⟩ dX5_isIn_15 (Or.inl rfl) h
  · have h := h.2 hc
    refine g_iload_n C.1 0 dX5_isIn_5 rfl rfl ?_
    refine g_iload_n C.1 2 dX5_isIn_6 rfl rfl ?_
    obtain ⟨hc3, h⟩ := h
    refine g_icmp_gt C.1 (tgt := 14) dX5_isIn_7 (by decide) hc1 hc3 (fun hc => ?_) (fun hc => ?_)
    · have h := h.1 hc
      refine g_iconst C.1 (z := 0) dX5_isIn_14 ?_
      exact x_zret C.1 C.2.2 rfl ⟨Nat.le_of_ble_eq_true rfl, Nat.le_of_ble_eq_true rfl⟩ dX5_isIn_15 (Or.inl rfl) h
    · have h := h.2 hc
      refine g_iconst C.1 (z := 1) dX5_isIn_10 ?_
      refine g_goto C.1 (tgt := 15) dX5_isIn_11 (by decide) ?_
      exact x_zret C.1 C.2.2 rfl ⟨Nat.le_of_ble_eq_true rfl, Nat.le_of_ble_eq_true rfl⟩ dX5_isIn_15 (Or.inr rfl) h
def H_X5_isIn (p : MS → Int → Int → Int → Prop) (f : MS → Int → Int → Int → Bool) : Prop := ∀ (l : Launch) (L : Nat → Nat) (c : Nat → ClassId) (σ : MS) (v0 v1 v2 : Int), p σ v0 v1 v2 → xMet l yX5_isIn wsX5_isIn rm_X5_isIn (MW L c [] []) rkI [.int (iZ v0), .int (iZ v1), .int (iZ v2)] σ (fun r σ' => r = (if f σ v0 v1 v2 = true then 1 else 0) ∧ σ' = σ)
theorem m_X5_isIn {l : Launch} {L : Nat → Nat} {c : Nat → ClassId} {σ : MS} {v0 v1 v2 : Int} {post : Int → MS → Prop} (h : ∀ K : KT, K.l = l → C_X5_isIn K L c post → P_X5_isIn_0 K L c σ v0 v1 v2) : xMet l yX5_isIn wsX5_isIn rm_X5_isIn (MW L c [] []) rkI [.int (iZ v0), .int (iZ v1), .int (iZ v2)] σ post :=
  xMet.of (maxL := 3) (by decide +kernel) rfl (Nat.le_of_ble_eq_true rfl) (fun K h1 h2 h3 h4 _ => h K h1 ⟨h2, h4, h3⟩)

/-! X5_isText -/
abbrev rm_X5_isText : Room := { frames := 1, cells := 0, slots := 0, locals := 22 }
theorem inX5_isText : ∀ w ∈ wsX50, w ∈ wsX5_isText := by decide +kernel
theorem lk_X5_isText_f51 : Cond.fieldLink RX5 51 "CopyHouseModel" "texts" "I" ∈ wsX5_isText := List.mem_of_getElem? (i := 1) (by decide +kernel)
def C_X5_isText (K : KT) (L : Nat → Nat) (c : Nat → ClassId) (post : Int → MS → Prop) : Prop := kOK K cX5_isText RX5 wsX5_isText (some .boolean) rm_X5_isText ∧ K.nL = 2 ∧ kQ K (MW L c [] []) rkI post rm_X5_isText
def P_X5_isText_0 (K : KT) (L : Nat → Nat) (c : Nat → ClassId) (σ : MS) (v1 : Int) : Prop := G K (MW L c [] [] σ) (0, 0) [(0, .ref (L 0)), (1, .int (iZ v1))] 0 []
set_option maxRecDepth 100000 in
set_option maxHeartbeats 4000000 in
theorem b_X5_isText_0 {K : KT} {L : Nat → Nat} {c : Nat → ClassId} {post : Int → MS → Prop} (C : C_X5_isText K L c post) {p_isIn : MS → Int → Int → Int → Prop} {f_isIn : MS → Int → Int → Int → Bool} (h_isIn : H_X5_isIn p_isIn f_isIn) {σ : MS} {v1 : Int} (h : (p_isIn σ v1 0 ((σ 3 0) - 1)) ∧ post ((if f_isIn σ v1 0 ((σ 3 0) - 1) = true then 1 else 0)) σ) : P_X5_isText_0 K L c σ v1 := by
  refine g_iload_n C.1 1 dX5_isText_0 rfl rfl ?_
  refine g_iconst C.1 (z := 0) dX5_isText_1 ?_
  refine g_aload_n C.1 0 dX5_isText_2 rfl rfl ?_
  refine m_get C.1 inX5_isText 3 (by decide) (v := .int (iZ (σ 3 0))) rfl lk_X5_isText_f51 rfl dX5_isText_3 ?_
  refine g_iconst C.1 (z := 1) dX5_isText_6 ?_
  refine g_isub C.1 (x := σ 3 0) (y := 1) dX5_isText_7 ?_
  obtain ⟨hp1, h⟩ := h
  refine x_callS C.1 (h_isIn K.l L c σ v1 0 ((σ 3 0) - 1) hp1) (fun ht => va_cwS 3 ht gX5_isText_X5_isIn rfl rfl rfl (by decide +kernel) ⟨Nat.le_of_ble_eq_true rfl, Nat.le_of_ble_eq_true rfl⟩) rfl rfl (Nat.le_of_ble_eq_true rfl) ⟨Nat.le_of_ble_eq_true rfl, Nat.le_of_ble_eq_true rfl⟩ dX5_isText_8 (fun r σ9 hq => ?_)
  rw [hq.1, hq.2]
  show G K (MW L c [] [] σ) (0, 0) [(0, .ref (L 0)), (1, .int (iZ v1))] 11 [.int (iZ (if f_isIn σ v1 0 ((σ 3 0) - 1) = true then 1 else 0))]
  exact x_zret C.1 C.2.2 rfl ⟨Nat.le_of_ble_eq_true rfl, Nat.le_of_ble_eq_true rfl⟩ dX5_isText_11 (by by_cases hq : f_isIn σ v1 0 ((σ 3 0) - 1) = true <;> simp [hq]) h
def H_X5_isText (p : MS → Int → Prop) (f : MS → Int → Bool) : Prop := ∀ (l : Launch) (L : Nat → Nat) (c : Nat → ClassId) (σ : MS) (v1 : Int), p σ v1 → xMet l yX5_isText wsX5_isText rm_X5_isText (MW L c [] []) rkI [.ref (L 0), .int (iZ v1)] σ (fun r σ' => r = (if f σ v1 = true then 1 else 0) ∧ σ' = σ)
theorem m_X5_isText {l : Launch} {L : Nat → Nat} {c : Nat → ClassId} {σ : MS} {v1 : Int} {post : Int → MS → Prop} (h : ∀ K : KT, K.l = l → C_X5_isText K L c post → P_X5_isText_0 K L c σ v1) : xMet l yX5_isText wsX5_isText rm_X5_isText (MW L c [] []) rkI [.ref (L 0), .int (iZ v1)] σ post :=
  xMet.of (maxL := 2) (by decide +kernel) rfl (Nat.le_of_ble_eq_true rfl) (fun K h1 h2 h3 h4 _ => h K h1 ⟨h2, h4, h3⟩)

/-! X5_isScribe -/
abbrev rm_X5_isScribe : Room := { frames := 1, cells := 0, slots := 0, locals := 22 }
theorem inX5_isScribe : ∀ w ∈ wsX50, w ∈ wsX5_isScribe := by decide +kernel
theorem lk_X5_isScribe_f58 : Cond.fieldLink RX5 58 "CopyHouseModel" "scribes" "I" ∈ wsX5_isScribe := List.mem_of_getElem? (i := 1) (by decide +kernel)
def C_X5_isScribe (K : KT) (L : Nat → Nat) (c : Nat → ClassId) (post : Int → MS → Prop) : Prop := kOK K cX5_isScribe RX5 wsX5_isScribe (some .boolean) rm_X5_isScribe ∧ K.nL = 2 ∧ kQ K (MW L c [] []) rkI post rm_X5_isScribe
def P_X5_isScribe_0 (K : KT) (L : Nat → Nat) (c : Nat → ClassId) (σ : MS) (v1 : Int) : Prop := G K (MW L c [] [] σ) (0, 0) [(0, .ref (L 0)), (1, .int (iZ v1))] 0 []
set_option maxRecDepth 100000 in
set_option maxHeartbeats 4000000 in
theorem b_X5_isScribe_0 {K : KT} {L : Nat → Nat} {c : Nat → ClassId} {post : Int → MS → Prop} (C : C_X5_isScribe K L c post) {p_isIn : MS → Int → Int → Int → Prop} {f_isIn : MS → Int → Int → Int → Bool} (h_isIn : H_X5_isIn p_isIn f_isIn) {σ : MS} {v1 : Int} (h : (p_isIn σ v1 0 ((σ 9 0) - 1)) ∧ post ((if f_isIn σ v1 0 ((σ 9 0) - 1) = true then 1 else 0)) σ) : P_X5_isScribe_0 K L c σ v1 := by
  refine g_iload_n C.1 1 dX5_isScribe_0 rfl rfl ?_
  refine g_iconst C.1 (z := 0) dX5_isScribe_1 ?_
  refine g_aload_n C.1 0 dX5_isScribe_2 rfl rfl ?_
  refine m_get C.1 inX5_isScribe 9 (by decide) (v := .int (iZ (σ 9 0))) rfl lk_X5_isScribe_f58 rfl dX5_isScribe_3 ?_
  refine g_iconst C.1 (z := 1) dX5_isScribe_6 ?_
  refine g_isub C.1 (x := σ 9 0) (y := 1) dX5_isScribe_7 ?_
  obtain ⟨hp1, h⟩ := h
  refine x_callS C.1 (h_isIn K.l L c σ v1 0 ((σ 9 0) - 1) hp1) (fun ht => va_cwS 3 ht gX5_isScribe_X5_isIn rfl rfl rfl (by decide +kernel) ⟨Nat.le_of_ble_eq_true rfl, Nat.le_of_ble_eq_true rfl⟩) rfl rfl (Nat.le_of_ble_eq_true rfl) ⟨Nat.le_of_ble_eq_true rfl, Nat.le_of_ble_eq_true rfl⟩ dX5_isScribe_8 (fun r σ9 hq => ?_)
  rw [hq.1, hq.2]
  show G K (MW L c [] [] σ) (0, 0) [(0, .ref (L 0)), (1, .int (iZ v1))] 11 [.int (iZ (if f_isIn σ v1 0 ((σ 9 0) - 1) = true then 1 else 0))]
  exact x_zret C.1 C.2.2 rfl ⟨Nat.le_of_ble_eq_true rfl, Nat.le_of_ble_eq_true rfl⟩ dX5_isScribe_11 (by by_cases hq : f_isIn σ v1 0 ((σ 9 0) - 1) = true <;> simp [hq]) h
def H_X5_isScribe (p : MS → Int → Prop) (f : MS → Int → Bool) : Prop := ∀ (l : Launch) (L : Nat → Nat) (c : Nat → ClassId) (σ : MS) (v1 : Int), p σ v1 → xMet l yX5_isScribe wsX5_isScribe rm_X5_isScribe (MW L c [] []) rkI [.ref (L 0), .int (iZ v1)] σ (fun r σ' => r = (if f σ v1 = true then 1 else 0) ∧ σ' = σ)
theorem m_X5_isScribe {l : Launch} {L : Nat → Nat} {c : Nat → ClassId} {σ : MS} {v1 : Int} {post : Int → MS → Prop} (h : ∀ K : KT, K.l = l → C_X5_isScribe K L c post → P_X5_isScribe_0 K L c σ v1) : xMet l yX5_isScribe wsX5_isScribe rm_X5_isScribe (MW L c [] []) rkI [.ref (L 0), .int (iZ v1)] σ post :=
  xMet.of (maxL := 2) (by decide +kernel) rfl (Nat.le_of_ble_eq_true rfl) (fun K h1 h2 h3 h4 _ => h K h1 ⟨h2, h4, h3⟩)

/-! X5_feed -/
abbrev rm_X5_feed : Room := { frames := 1, cells := 1, slots := 5, locals := 21 }
theorem inX5_feed : ∀ w ∈ wsX50, w ∈ wsX5_feed := by decide +kernel
theorem lk_X5_feed_f47 : Cond.fieldLink RX5 47 "CopyHouseModel" "thrown" "I" ∈ wsX5_feed := List.mem_of_getElem? (i := 1) (by decide +kernel)
theorem lk_X5_feed_f61 : Cond.fieldLink RX5 61 "CopyHouseModel" "taped" "I" ∈ wsX5_feed := List.mem_of_getElem? (i := 2) (by decide +kernel)
theorem lk_X5_feed_newa : Cond.arrayClass .int ∈ wsX5_feed := List.mem_of_getElem? (i := 3) (by decide +kernel)
theorem lk_X5_feed_f9 : Cond.fieldLink RX5 9 "CopyHouseModel" "tape" "[I" ∈ wsX5_feed := List.mem_of_getElem? (i := 4) (by decide +kernel)
def C_X5_feed (K : KT) (L : Nat → Nat) (c : Nat → ClassId) (post : Int → MS → Prop) : Prop := kOK K cX5_feed RX5 wsX5_feed (some .int) rm_X5_feed ∧ K.nL = 12 ∧ kQ K (MW L c [] []) rkI post rm_X5_feed
def P_X5_feed_0 (K : KT) (L : Nat → Nat) (c : Nat → ClassId) (σ : MS) (v1 v2 v3 v4 v5 : Int) : Prop := G K (MW L c [] [] σ) (0, 0) [(0, .ref (L 0)), (1, .int (iZ v1)), (2, .int (iZ v2)), (3, .int (iZ v3)), (4, .int (iZ v4)), (5, .int (iZ v5))] 0 []
def P_X5_feed_1 (K : KT) (L : Nat → Nat) (c : Nat → ClassId) (q : Nat) (cq : ClassId) (t : Int → Int) (σ : MS) (v8 v9 : Int) : Prop := G K (MW L c [(q, .inl (cq, 5, .inl (fA t)))] [(cq, .int)] σ) (1, 5) [(0, .ref (L 0)), (7, .ref q), (8, .int (iZ v8)), (9, .int (iZ v9))] 62 []
def P_X5_feed_2 (K : KT) (L : Nat → Nat) (c : Nat → ClassId) (q : Nat) (cq : ClassId) (t : Int → Int) (σ : MS) (v8 v9 v10 v11 : Int) : Prop := G K (MW L c [(q, .inl (cq, 5, .inl (fA t)))] [(cq, .int)] σ) (1, 5) [(0, .ref (L 0)), (7, .ref q), (8, .int (iZ v8)), (9, .int (iZ v9)), (10, .int (iZ v10)), (11, .int (iZ v11))] 79 []
set_option maxRecDepth 100000 in
set_option maxHeartbeats 4000000 in
theorem b_X5_feed_0 {K : KT} {L : Nat → Nat} {c : Nat → ClassId} {post : Int → MS → Prop} (C : C_X5_feed K L c post) {p_no : MS → Int → Prop} {u_no : MS → Int → MS} (h_no : H_X5_no p_no u_no) {σ : MS} {v1 v2 v3 v4 v5 : Int} (h : (-2147483648 ≤ ((σ 2 0) + 20) ∧ ((σ 2 0) + 20) < 2147483648) ∧ ((((σ 2 0) + 20) ≤ 60 → ∀ (q : Nat) (cq : ClassId), P_X5_feed_1 K L c q cq (upI (upI (upI (upI (upI ((fun _ => 0)) 0 v1) 1 v2) 2 v3) 3 v4) 4 v5) (upM σ 0 (fun _ => 0)) 5 0) ∧ (¬ ((σ 2 0) + 20) ≤ 60 → (p_no (upM σ 0 (fun _ => 0)) 1) ∧ post 0 ((u_no (upM σ 0 (fun _ => 0)) 1))))) : P_X5_feed_0 K L c σ v1 v2 v3 v4 v5 := by
  refine g_aload_n C.1 0 dX5_feed_0 rfl rfl ?_
  refine g_iconst C.1 (z := 0) dX5_feed_1 ?_
  refine m_put C.1 inX5_feed 0 (by decide) (z := 0) (σ' := upM σ 0 (fun _ => 0)) rfl lk_X5_feed_f47 rfl rfl rfl dX5_feed_2 ?_
  refine g_aload_n C.1 0 dX5_feed_5 rfl rfl ?_
  refine m_get C.1 inX5_feed 2 (by decide) (v := .int (iZ (σ 2 0))) rfl lk_X5_feed_f61 rfl dX5_feed_6 ?_
  refine g_bipush C.1 (z := 20) dX5_feed_9 (by decide) ?_
  refine g_iadd C.1 (x := σ 2 0) (y := 20) dX5_feed_11 ?_
  refine g_bipush C.1 (z := 60) dX5_feed_12 (by decide) ?_
  obtain ⟨hc1, h⟩ := h
  refine g_icmp_le C.1 (tgt := 23) dX5_feed_14 (by decide) hc1 (by decide) (fun hc => ?_) (fun hc => ?_)
  · have h := h.1 hc
    refine g_iconst C.1 (z := 5) dX5_feed_23 ?_
    refine m_newa C.1 (N := 5) (by decide) lk_X5_feed_newa (by decide) dX5_feed_24 (fun q cq => ?_)
    have h := h q cq
    refine g_dup C.1 rfl dX5_feed_26 ?_
    refine g_iconst C.1 (z := 0) dX5_feed_27 ?_
    refine g_iload_n C.1 1 dX5_feed_28 rfl rfl ?_
    refine m_ast C.1 13 12 (N := 5) (f := ((fun _ => 0))) (e := 0) (z := v1) (X' := [(q, .inl (cq, 5, .inl (fA (upI ((fun _ => 0)) 0 v1))))]) (σ' := upM σ 0 (fun _ => 0)) rfl rfl rfl (by decide) (by decide) dX5_feed_29 ?_
    refine g_dup C.1 rfl dX5_feed_30 ?_
    refine g_iconst C.1 (z := 1) dX5_feed_31 ?_
    refine g_iload_n C.1 2 dX5_feed_32 rfl rfl ?_
    refine m_ast C.1 13 12 (N := 5) (f := (upI ((fun _ => 0)) 0 v1)) (e := 1) (z := v2) (X' := [(q, .inl (cq, 5, .inl (fA (upI (upI ((fun _ => 0)) 0 v1) 1 v2))))]) (σ' := upM σ 0 (fun _ => 0)) rfl rfl rfl (by decide) (by decide) dX5_feed_33 ?_
    refine g_dup C.1 rfl dX5_feed_34 ?_
    refine g_iconst C.1 (z := 2) dX5_feed_35 ?_
    refine g_iload_n C.1 3 dX5_feed_36 rfl rfl ?_
    refine m_ast C.1 13 12 (N := 5) (f := (upI (upI ((fun _ => 0)) 0 v1) 1 v2)) (e := 2) (z := v3) (X' := [(q, .inl (cq, 5, .inl (fA (upI (upI (upI ((fun _ => 0)) 0 v1) 1 v2) 2 v3))))]) (σ' := upM σ 0 (fun _ => 0)) rfl rfl rfl (by decide) (by decide) dX5_feed_37 ?_
    refine g_dup C.1 rfl dX5_feed_38 ?_
    refine g_iconst C.1 (z := 3) dX5_feed_39 ?_
    refine g_iload C.1 4 dX5_feed_40 rfl ?_
    refine m_ast C.1 13 12 (N := 5) (f := (upI (upI (upI ((fun _ => 0)) 0 v1) 1 v2) 2 v3)) (e := 3) (z := v4) (X' := [(q, .inl (cq, 5, .inl (fA (upI (upI (upI (upI ((fun _ => 0)) 0 v1) 1 v2) 2 v3) 3 v4))))]) (σ' := upM σ 0 (fun _ => 0)) rfl rfl rfl (by decide) (by decide) dX5_feed_42 ?_
    refine g_dup C.1 rfl dX5_feed_43 ?_
    refine g_iconst C.1 (z := 4) dX5_feed_44 ?_
    refine g_iload C.1 5 dX5_feed_45 rfl ?_
    refine m_ast C.1 13 12 (N := 5) (f := (upI (upI (upI (upI ((fun _ => 0)) 0 v1) 1 v2) 2 v3) 3 v4)) (e := 4) (z := v5) (X' := [(q, .inl (cq, 5, .inl (fA (upI (upI (upI (upI (upI ((fun _ => 0)) 0 v1) 1 v2) 2 v3) 3 v4) 4 v5))))]) (σ' := upM σ 0 (fun _ => 0)) rfl rfl rfl (by decide) (by decide) dX5_feed_47 ?_
    refine g_astore C.1 (loc' := [(6, .ref q), (0, .ref (L 0)), (1, .int (iZ v1)), (2, .int (iZ v2)), (3, .int (iZ v3)), (4, .int (iZ v4)), (5, .int (iZ v5))]) C.2.1 dX5_feed_48 (by decide) rfl ?_
    refine g_aload C.1 0 dX5_feed_50 rfl ?_
    refine g_astore C.1 (loc' := [(7, .ref q), (6, .ref q), (0, .ref (L 0)), (1, .int (iZ v1)), (2, .int (iZ v2)), (3, .int (iZ v3)), (4, .int (iZ v4)), (5, .int (iZ v5))]) C.2.1 dX5_feed_52 (by decide) rfl ?_
    refine g_aload C.1 0 dX5_feed_54 rfl ?_
    refine m_len C.1 13 12 (N := 5) rfl rfl dX5_feed_56 ?_
    refine g_istore C.1 (loc' := [(8, .int (iZ 5)), (7, .ref q), (6, .ref q), (0, .ref (L 0)), (1, .int (iZ v1)), (2, .int (iZ v2)), (3, .int (iZ v3)), (4, .int (iZ v4)), (5, .int (iZ v5))]) C.2.1 dX5_feed_57 (by decide) rfl ?_
    refine g_iconst C.1 (z := 0) dX5_feed_59 ?_
    refine g_istore C.1 (loc' := [(9, .int (iZ 0)), (8, .int (iZ 5)), (7, .ref q), (6, .ref q), (0, .ref (L 0)), (1, .int (iZ v1)), (2, .int (iZ v2)), (3, .int (iZ v3)), (4, .int (iZ v4)), (5, .int (iZ v5))]) C.2.1 dX5_feed_60 (by decide) rfl ?_
    exact g_sub [4, 2, 1, 0] rfl h
  · have h := h.2 hc
    refine g_aload_n C.1 0 dX5_feed_17 rfl rfl ?_
    refine g_iconst C.1 (z := 1) dX5_feed_18 ?_
    obtain ⟨hp2, h⟩ := h
    refine x_callV C.1 (h_no K.l L c (upM σ 0 (fun _ => 0)) 1 hp2) (ci := 6) (q := (RX5, TX5, 17)) rfl m_recv (fun ht => cwV 1 ht gX5_feed_X5_no rfl rfl rfl (by decide +kernel) ⟨Nat.le_of_ble_eq_true rfl, Nat.le_of_ble_eq_true rfl⟩) rfl rfl (Nat.le_of_ble_eq_true rfl) ⟨Nat.le_of_ble_eq_true rfl, Nat.le_of_ble_eq_true rfl⟩ dX5_feed_19 (fun r σ9 hq => ?_)
    rw [hq.1, hq.2]
    show G K (MW L c [] [] ((u_no (upM σ 0 (fun _ => 0)) 1))) (0, 0) [(0, .ref (L 0)), (1, .int (iZ v1)), (2, .int (iZ v2)), (3, .int (iZ v3)), (4, .int (iZ v4)), (5, .int (iZ v5))] 22 [.int (iZ 0)]
    exact x_iret C.1 C.2.2 rfl ⟨Nat.le_of_ble_eq_true rfl, Nat.le_of_ble_eq_true rfl⟩ dX5_feed_22 h
set_option maxRecDepth 100000 in
set_option maxHeartbeats 4000000 in
theorem b_X5_feed_1 {K : KT} {L : Nat → Nat} {c : Nat → ClassId} {post : Int → MS → Prop} (C : C_X5_feed K L c post) {q : Nat} {cq : ClassId} {t : Int → Int} {σ : MS} {v8 v9 : Int} (h : (-2147483648 ≤ v9 ∧ v9 < 2147483648) ∧ (-2147483648 ≤ v8 ∧ v8 < 2147483648) ∧ ((v8 ≤ v9 → post (σ 2 0) σ) ∧ (¬ v8 ≤ v9 → (0 ≤ v9 ∧ v9 < 5) ∧ P_X5_feed_2 K L c q cq t σ v8 v9 (t v9) 3))) : P_X5_feed_1 K L c q cq t σ v8 v9 := by
  refine g_iload C.1 3 dX5_feed_62 rfl ?_
  refine g_iload C.1 2 dX5_feed_64 rfl ?_
  obtain ⟨hc1, h⟩ := h
  obtain ⟨hc2, h⟩ := h
  refine g_icmp_ge C.1 (tgt := 127) dX5_feed_66 (by decide) hc1 hc2 (fun hc => ?_) (fun hc => ?_)
  · have h := h.1 hc
    refine g_aload_n C.1 0 dX5_feed_127 rfl rfl ?_
    refine m_get C.1 inX5_feed 2 (by decide) (v := .int (iZ (σ 2 0))) rfl lk_X5_feed_f61 rfl dX5_feed_128 ?_
    refine m_drop ?_
    exact x_iret C.1 C.2.2 rfl ⟨Nat.le_of_ble_eq_true rfl, Nat.le_of_ble_eq_true rfl⟩ dX5_feed_131 h
  · have h := h.2 hc
    refine g_aload C.1 1 dX5_feed_69 rfl ?_
    refine g_iload C.1 3 dX5_feed_71 rfl ?_
    obtain ⟨hi3, h⟩ := h
    refine m_ald C.1 13 12 (N := 5) (f := t) (e := v9) rfl rfl (by decide) hi3 dX5_feed_73 ?_
    refine g_istore C.1 (loc' := [(10, .int (iZ (t v9))), (0, .ref (L 0)), (7, .ref q), (8, .int (iZ v8)), (9, .int (iZ v9))]) C.2.1 dX5_feed_74 (by decide) rfl ?_
    refine g_iconst C.1 (z := 3) dX5_feed_76 ?_
    refine g_istore C.1 (loc' := [(11, .int (iZ 3)), (10, .int (iZ (t v9))), (0, .ref (L 0)), (7, .ref q), (8, .int (iZ v8)), (9, .int (iZ v9))]) C.2.1 dX5_feed_77 (by decide) rfl ?_
    exact g_sub [2, 3, 4, 5, 1, 0] rfl h
set_option maxRecDepth 100000 in
set_option maxHeartbeats 4000000 in
theorem b_X5_feed_2 {K : KT} {L : Nat → Nat} {c : Nat → ClassId} {post : Int → MS → Prop} (C : C_X5_feed K L c post) {q : Nat} {cq : ClassId} {t : Int → Int} {σ : MS} {v8 v9 v10 v11 : Int} (h : (-2147483648 ≤ v11 ∧ v11 < 2147483648) ∧ ((v11 < 0 → P_X5_feed_1 K L c q cq t σ v8 (v9 + 1)) ∧ (¬ v11 < 0 → (0 ≤ (σ 2 0) ∧ (σ 2 0) < 60) ∧ P_X5_feed_2 K L c q cq t (upM (upM σ 1 (upI (σ 1) (σ 2 0) (zAnd (zShr v10 (8 * v11)) 255))) 2 (fun _ => (σ 2 0) + 1)) v8 v9 v10 (v11 + (-1))))) : P_X5_feed_2 K L c q cq t σ v8 v9 v10 v11 := by
  refine g_iload C.1 5 dX5_feed_79 rfl ?_
  obtain ⟨hc1, h⟩ := h
  refine g_if_lt C.1 (tgt := 121) dX5_feed_81 (by decide) hc1 (fun hc => ?_) (fun hc => ?_)
  · have h := h.1 hc
    refine g_iinc C.1 (z := v9) (w := 1) (loc' := [(9, .int (iZ (v9 + 1))), (0, .ref (L 0)), (7, .ref q), (8, .int (iZ v8)), (10, .int (iZ v10)), (11, .int (iZ v11))]) 3 C.2.1 dX5_feed_121 rfl (by decide) rfl ?_
    refine g_goto C.1 (tgt := 62) dX5_feed_124 (by decide) ?_
    exact g_sub [1, 2, 3, 0] rfl h
  · have h := h.2 hc
    refine g_aload_n C.1 0 dX5_feed_84 rfl rfl ?_
    refine m_get C.1 inX5_feed 1 (by decide) (v := .ref (L 1)) rfl lk_X5_feed_f9 rfl dX5_feed_85 ?_
    refine g_aload_n C.1 0 dX5_feed_88 rfl rfl ?_
    refine m_get C.1 inX5_feed 2 (by decide) (v := .int (iZ (σ 2 0))) rfl lk_X5_feed_f61 rfl dX5_feed_89 ?_
    refine g_iload C.1 4 dX5_feed_92 rfl ?_
    refine g_bipush C.1 (z := 8) dX5_feed_94 (by decide) ?_
    refine g_iload C.1 5 dX5_feed_96 rfl ?_
    refine g_imul C.1 (x := 8) (y := v11) dX5_feed_98 ?_
    refine g_ishr C.1 (x := v10) (y := 8 * v11) dX5_feed_99 ?_
    refine g_sipush C.1 (z := 255) dX5_feed_100 (by decide) ?_
    refine g_iand C.1 (x := zShr v10 (8 * v11)) (y := 255) dX5_feed_103 ?_
    obtain ⟨hi2, h⟩ := h
    refine m_ast C.1 1 0 (N := 60) (f := (σ 1)) (e := (σ 2 0)) (z := zAnd (zShr v10 (8 * v11)) 255) (X' := [(q, .inl (cq, 5, .inl (fA t)))]) (σ' := upM σ 1 (upI (σ 1) (σ 2 0) (zAnd (zShr v10 (8 * v11)) 255))) rfl rfl rfl (by decide) hi2 dX5_feed_104 ?_
    refine g_aload_n C.1 0 dX5_feed_105 rfl rfl ?_
    refine g_dup C.1 rfl dX5_feed_106 ?_
    refine m_get C.1 inX5_feed 2 (by decide) (v := .int (iZ (σ 2 0))) rfl lk_X5_feed_f61 rfl dX5_feed_107 ?_
    refine g_iconst C.1 (z := 1) dX5_feed_110 ?_
    refine g_iadd C.1 (x := σ 2 0) (y := 1) dX5_feed_111 ?_
    refine m_put C.1 inX5_feed 2 (by decide) (z := (σ 2 0) + 1) (σ' := upM (upM σ 1 (upI (σ 1) (σ 2 0) (zAnd (zShr v10 (8 * v11)) 255))) 2 (fun _ => (σ 2 0) + 1)) rfl lk_X5_feed_f61 rfl rfl rfl dX5_feed_112 ?_
    refine g_iinc C.1 (z := v11) (w := (-1)) (loc' := [(11, .int (iZ (v11 + (-1)))), (0, .ref (L 0)), (7, .ref q), (8, .int (iZ v8)), (9, .int (iZ v9)), (10, .int (iZ v10))]) 5 C.2.1 dX5_feed_115 rfl (by decide) rfl ?_
    refine g_goto C.1 (tgt := 79) dX5_feed_118 (by decide) ?_
    exact g_sub [1, 2, 3, 4, 5, 0] rfl h
def H_X5_feed (p : MS → Int → Int → Int → Int → Int → Prop) (o : MS → Int → Int → Int → Int → Int → Int → MS → Prop) : Prop := ∀ (l : Launch) (L : Nat → Nat) (c : Nat → ClassId) (σ : MS) (v1 v2 v3 v4 v5 : Int), p σ v1 v2 v3 v4 v5 → xMet l yX5_feed wsX5_feed rm_X5_feed (MW L c [] []) rkI [.ref (L 0), .int (iZ v1), .int (iZ v2), .int (iZ v3), .int (iZ v4), .int (iZ v5)] σ (fun r σ' => o σ v1 v2 v3 v4 v5 r σ')
theorem m_X5_feed {l : Launch} {L : Nat → Nat} {c : Nat → ClassId} {σ : MS} {v1 v2 v3 v4 v5 : Int} {post : Int → MS → Prop} (h : ∀ K : KT, K.l = l → C_X5_feed K L c post → P_X5_feed_0 K L c σ v1 v2 v3 v4 v5) : xMet l yX5_feed wsX5_feed rm_X5_feed (MW L c [] []) rkI [.ref (L 0), .int (iZ v1), .int (iZ v2), .int (iZ v3), .int (iZ v4), .int (iZ v5)] σ post :=
  xMet.of (maxL := 12) (by decide +kernel) rfl (Nat.le_of_ble_eq_true rfl) (fun K h1 h2 h3 h4 _ => h K h1 ⟨h2, h4, h3⟩)

/-! X5_trim -/
abbrev rm_X5_trim : Room := { frames := 1, cells := 0, slots := 0, locals := 22 }
theorem inX5_trim : ∀ w ∈ wsX50, w ∈ wsX5_trim := by decide +kernel
theorem lk_X5_trim_f47 : Cond.fieldLink RX5 47 "CopyHouseModel" "thrown" "I" ∈ wsX5_trim := List.mem_of_getElem? (i := 1) (by decide +kernel)
theorem lk_X5_trim_f61 : Cond.fieldLink RX5 61 "CopyHouseModel" "taped" "I" ∈ wsX5_trim := List.mem_of_getElem? (i := 2) (by decide +kernel)
def C_X5_trim (K : KT) (L : Nat → Nat) (c : Nat → ClassId) (post : Int → MS → Prop) : Prop := kOK K cX5_trim RX5 wsX5_trim (some .int) rm_X5_trim ∧ K.nL = 2 ∧ kQ K (MW L c [] []) rkI post rm_X5_trim
def P_X5_trim_0 (K : KT) (L : Nat → Nat) (c : Nat → ClassId) (σ : MS) (v1 : Int) : Prop := G K (MW L c [] [] σ) (0, 0) [(0, .ref (L 0)), (1, .int (iZ v1))] 0 []
set_option maxRecDepth 100000 in
set_option maxHeartbeats 4000000 in
theorem b_X5_trim_0 {K : KT} {L : Nat → Nat} {c : Nat → ClassId} {post : Int → MS → Prop} (C : C_X5_trim K L c post) {p_isIn : MS → Int → Int → Int → Prop} {f_isIn : MS → Int → Int → Int → Bool} (h_isIn : H_X5_isIn p_isIn f_isIn) {p_no : MS → Int → Prop} {u_no : MS → Int → MS} (h_no : H_X5_no p_no u_no) {σ : MS} {v1 : Int} (h : (p_isIn (upM σ 0 (fun _ => 0)) v1 0 (σ 2 0)) ∧ ((f_isIn (upM σ 0 (fun _ => 0)) v1 0 (σ 2 0) = true → post v1 (upM (upM σ 0 (fun _ => 0)) 2 (fun _ => v1))) ∧ (¬ (f_isIn (upM σ 0 (fun _ => 0)) v1 0 (σ 2 0) = true) → (p_no (upM σ 0 (fun _ => 0)) 1) ∧ post 0 ((u_no (upM σ 0 (fun _ => 0)) 1))))) : P_X5_trim_0 K L c σ v1 := by
  refine g_aload_n C.1 0 dX5_trim_0 rfl rfl ?_
  refine g_iconst C.1 (z := 0) dX5_trim_1 ?_
  refine m_put C.1 inX5_trim 0 (by decide) (z := 0) (σ' := upM σ 0 (fun _ => 0)) rfl lk_X5_trim_f47 rfl rfl rfl dX5_trim_2 ?_
  refine g_iload_n C.1 1 dX5_trim_5 rfl rfl ?_
  refine g_iconst C.1 (z := 0) dX5_trim_6 ?_
  refine g_aload_n C.1 0 dX5_trim_7 rfl rfl ?_
  refine m_get C.1 inX5_trim 2 (by decide) (v := .int (iZ (σ 2 0))) rfl lk_X5_trim_f61 rfl dX5_trim_8 ?_
  obtain ⟨hp1, h⟩ := h
  refine x_callS C.1 (h_isIn K.l L c (upM σ 0 (fun _ => 0)) v1 0 (σ 2 0) hp1) (fun ht => va_cwS 3 ht gX5_trim_X5_isIn rfl rfl rfl (by decide +kernel) ⟨Nat.le_of_ble_eq_true rfl, Nat.le_of_ble_eq_true rfl⟩) rfl rfl (Nat.le_of_ble_eq_true rfl) ⟨Nat.le_of_ble_eq_true rfl, Nat.le_of_ble_eq_true rfl⟩ dX5_trim_11 (fun r σ9 hq => ?_)
  rw [hq.1, hq.2]
  show G K (MW L c [] [] (upM σ 0 (fun _ => 0))) (0, 0) [(0, .ref (L 0)), (1, .int (iZ v1))] 14 [.int (iZ (if f_isIn (upM σ 0 (fun _ => 0)) v1 0 (σ 2 0) = true then 1 else 0))]
  refine g_ifb_ne C.1 (tgt := 23) dX5_trim_14 (by decide) (fun hc => ?_) (fun hc => ?_)
  · have h := h.1 hc
    refine g_aload_n C.1 0 dX5_trim_23 rfl rfl ?_
    refine g_iload_n C.1 1 dX5_trim_24 rfl rfl ?_
    refine m_put C.1 inX5_trim 2 (by decide) (z := v1) (σ' := upM (upM σ 0 (fun _ => 0)) 2 (fun _ => v1)) rfl lk_X5_trim_f61 rfl rfl rfl dX5_trim_25 ?_
    refine g_iload_n C.1 1 dX5_trim_28 rfl rfl ?_
    exact x_iret C.1 C.2.2 rfl ⟨Nat.le_of_ble_eq_true rfl, Nat.le_of_ble_eq_true rfl⟩ dX5_trim_29 h
  · have h := h.2 hc
    refine g_aload_n C.1 0 dX5_trim_17 rfl rfl ?_
    refine g_iconst C.1 (z := 1) dX5_trim_18 ?_
    obtain ⟨hp2, h⟩ := h
    refine x_callV C.1 (h_no K.l L c (upM σ 0 (fun _ => 0)) 1 hp2) (ci := 6) (q := (RX5, TX5, 17)) rfl m_recv (fun ht => cwV 1 ht gX5_trim_X5_no rfl rfl rfl (by decide +kernel) ⟨Nat.le_of_ble_eq_true rfl, Nat.le_of_ble_eq_true rfl⟩) rfl rfl (Nat.le_of_ble_eq_true rfl) ⟨Nat.le_of_ble_eq_true rfl, Nat.le_of_ble_eq_true rfl⟩ dX5_trim_19 (fun r σ9 hq => ?_)
    rw [hq.1, hq.2]
    show G K (MW L c [] [] ((u_no (upM σ 0 (fun _ => 0)) 1))) (0, 0) [(0, .ref (L 0)), (1, .int (iZ v1))] 22 [.int (iZ 0)]
    exact x_iret C.1 C.2.2 rfl ⟨Nat.le_of_ble_eq_true rfl, Nat.le_of_ble_eq_true rfl⟩ dX5_trim_22 h
def H_X5_trim (p : MS → Int → Prop) (o : MS → Int → Int → MS → Prop) : Prop := ∀ (l : Launch) (L : Nat → Nat) (c : Nat → ClassId) (σ : MS) (v1 : Int), p σ v1 → xMet l yX5_trim wsX5_trim rm_X5_trim (MW L c [] []) rkI [.ref (L 0), .int (iZ v1)] σ (fun r σ' => o σ v1 r σ')
theorem m_X5_trim {l : Launch} {L : Nat → Nat} {c : Nat → ClassId} {σ : MS} {v1 : Int} {post : Int → MS → Prop} (h : ∀ K : KT, K.l = l → C_X5_trim K L c post → P_X5_trim_0 K L c σ v1) : xMet l yX5_trim wsX5_trim rm_X5_trim (MW L c [] []) rkI [.ref (L 0), .int (iZ v1)] σ post :=
  xMet.of (maxL := 2) (by decide +kernel) rfl (Nat.le_of_ble_eq_true rfl) (fun K h1 h2 h3 h4 _ => h K h1 ⟨h2, h4, h3⟩)

/-! X5_add_t1 -/
abbrev rm_X5_add_t1 : Room := { frames := 1, cells := 0, slots := 0, locals := 60 }
theorem inX5_add_t1 : ∀ w ∈ wsX50, w ∈ wsX5_add := by decide +kernel
theorem lk_X5_add_t1_f13 : Cond.fieldLink RX5 13 "CopyHouseModel" "letters" "[I" ∈ wsX5_add := List.mem_of_getElem? (i := 1) (by decide +kernel)
theorem lk_X5_add_t1_f51 : Cond.fieldLink RX5 51 "CopyHouseModel" "texts" "I" ∈ wsX5_add := List.mem_of_getElem? (i := 2) (by decide +kernel)
theorem lk_X5_add_t1_ac68 : Cond.methodLink RX5 68 arraycopyName ∈ wsX5_add := List.mem_of_getElem? (i := 3) (by decide +kernel)
theorem lk_X5_add_t1_acn : Cond.native arraycopyName ∈ wsX5_add := List.mem_of_getElem? (i := 4) (by decide +kernel)
theorem lk_X5_add_t1_acs : Cond.static arraycopyName ∈ wsX5_add := List.mem_of_getElem? (i := 5) (by decide +kernel)
theorem lk_X5_add_t1_aci : Cond.initialized "java/lang/System" ∈ wsX5_add := List.mem_of_getElem? (i := 6) (by decide +kernel)
theorem lk_X5_add_t1_f16 : Cond.fieldLink RX5 16 "CopyHouseModel" "length" "[I" ∈ wsX5_add := List.mem_of_getElem? (i := 7) (by decide +kernel)
theorem lk_X5_add_t1_f19 : Cond.fieldLink RX5 19 "CopyHouseModel" "exemplar" "[I" ∈ wsX5_add := List.mem_of_getElem? (i := 8) (by decide +kernel)
theorem lk_X5_add_t1_f22 : Cond.fieldLink RX5 22 "CopyHouseModel" "scribe" "[I" ∈ wsX5_add := List.mem_of_getElem? (i := 9) (by decide +kernel)
theorem lk_X5_add_t1_f25 : Cond.fieldLink RX5 25 "CopyHouseModel" "isThere" "[Z" ∈ wsX5_add := List.mem_of_getElem? (i := 10) (by decide +kernel)
def C_X5_add_t1 (K : KT) (L : Nat → Nat) (c : Nat → ClassId) (post : Int → MS → Prop) : Prop := kOK K cX5_add RX5 wsX5_add (some .int) rm_X5_add_t1 ∧ K.nL = 5 ∧ kQ K (MW L c [] []) rkI post rm_X5_add_t1
def P_X5_add_t1_0 (K : KT) (L : Nat → Nat) (c : Nat → ClassId) (σ : MS) (v2 v3 v4 : Int) : Prop := G K (MW L c [] [] σ) (0, 0) [(0, .ref (L 0)), (1, .ref (L 1)), (2, .int (iZ v2)), (3, .int (iZ v3)), (4, .int (iZ v4))] 0 []
set_option maxRecDepth 100000 in
set_option maxHeartbeats 4000000 in
theorem b_X5_add_t1_0 {K : KT} {L : Nat → Nat} {c : Nat → ClassId} {post : Int → MS → Prop} (C : C_X5_add_t1 K L c post) {σ : MS} {v2 v3 v4 : Int} (h : ((0 : Int) ≤ 0 ∧ (0 : Int) ≤ (120 * (σ 3 0)) ∧ (0 : Int) ≤ v2 ∧ 0 + v2 ≤ (60 : Int) ∧ (120 * (σ 3 0)) + v2 ≤ (2880 : Int)) ∧ (0 ≤ (σ 3 0) ∧ (σ 3 0) < 24) ∧ post (((σ 3 0) + 1) - 1) (upM (upM (upM (upM (upM (upM σ 4 (cpI (σ 1) (σ 4) 0 (120 * (σ 3 0)) v2)) 5 (upI (σ 5) (σ 3 0) v2)) 6 (upI (σ 6) (σ 3 0) v3)) 7 (upI (σ 7) (σ 3 0) v4)) 8 (upI (σ 8) (σ 3 0) 1)) 3 (fun _ => (σ 3 0) + 1))) : P_X5_add_t1_0 K L c σ v2 v3 v4 := by
  refine g_aload_n C.1 1 dX5_add_0 rfl rfl ?_
  refine g_iconst C.1 (z := 0) dX5_add_1 ?_
  refine g_aload_n C.1 0 dX5_add_2 rfl rfl ?_
  refine m_get C.1 inX5_add_t1 4 (by decide) (v := .ref (L 4)) rfl lk_X5_add_t1_f13 rfl dX5_add_3 ?_
  refine g_bipush C.1 (z := 120) dX5_add_6 (by decide) ?_
  refine g_aload_n C.1 0 dX5_add_8 rfl rfl ?_
  refine m_get C.1 inX5_add_t1 3 (by decide) (v := .int (iZ (σ 3 0))) rfl lk_X5_add_t1_f51 rfl dX5_add_9 ?_
  refine g_imul C.1 (x := 120) (y := σ 3 0) dX5_add_12 ?_
  refine g_iload_n C.1 2 dX5_add_13 rfl rfl ?_
  obtain ⟨ha1, h⟩ := h
  refine m_copy C.1 1 2 0 1 (N0 := 60) (N1 := 2880) (f := (σ 1)) (g := (σ 4)) (sp := 0) (dp := 120 * (σ 3 0)) (m := v2) (σ' := upM σ 4 (cpI (σ 1) (σ 4) 0 (120 * (σ 3 0)) v2)) (X' := []) rfl rfl rfl rfl rfl (by decide) ha1 lk_X5_add_t1_ac68 lk_X5_add_t1_acn lk_X5_add_t1_acs lk_X5_add_t1_aci (Nat.le_of_ble_eq_true rfl) (Nat.le_of_ble_eq_true (by decide +kernel)) dX5_add_14 ?_
  refine g_aload_n C.1 0 dX5_add_17 rfl rfl ?_
  refine m_get C.1 inX5_add_t1 5 (by decide) (v := .ref (L 5)) rfl lk_X5_add_t1_f16 rfl dX5_add_18 ?_
  refine g_aload_n C.1 0 dX5_add_21 rfl rfl ?_
  refine m_get C.1 inX5_add_t1 3 (by decide) (v := .int (iZ (σ 3 0))) rfl lk_X5_add_t1_f51 rfl dX5_add_22 ?_
  refine g_iload_n C.1 2 dX5_add_25 rfl rfl ?_
  obtain ⟨hi2, h⟩ := h
  refine m_ast C.1 3 2 (N := 24) (f := (σ 5)) (e := (σ 3 0)) (z := v2) (X' := []) (σ' := upM (upM σ 4 (cpI (σ 1) (σ 4) 0 (120 * (σ 3 0)) v2)) 5 (upI (σ 5) (σ 3 0) v2)) rfl rfl rfl (by decide) hi2 dX5_add_26 ?_
  refine g_aload_n C.1 0 dX5_add_27 rfl rfl ?_
  refine m_get C.1 inX5_add_t1 6 (by decide) (v := .ref (L 6)) rfl lk_X5_add_t1_f19 rfl dX5_add_28 ?_
  refine g_aload_n C.1 0 dX5_add_31 rfl rfl ?_
  refine m_get C.1 inX5_add_t1 3 (by decide) (v := .int (iZ (σ 3 0))) rfl lk_X5_add_t1_f51 rfl dX5_add_32 ?_
  refine g_iload_n C.1 3 dX5_add_35 rfl rfl ?_
  refine m_ast C.1 4 3 (N := 24) (f := (σ 6)) (e := (σ 3 0)) (z := v3) (X' := []) (σ' := upM (upM (upM σ 4 (cpI (σ 1) (σ 4) 0 (120 * (σ 3 0)) v2)) 5 (upI (σ 5) (σ 3 0) v2)) 6 (upI (σ 6) (σ 3 0) v3)) rfl rfl rfl (by decide) hi2 dX5_add_36 ?_
  refine g_aload_n C.1 0 dX5_add_37 rfl rfl ?_
  refine m_get C.1 inX5_add_t1 7 (by decide) (v := .ref (L 7)) rfl lk_X5_add_t1_f22 rfl dX5_add_38 ?_
  refine g_aload_n C.1 0 dX5_add_41 rfl rfl ?_
  refine m_get C.1 inX5_add_t1 3 (by decide) (v := .int (iZ (σ 3 0))) rfl lk_X5_add_t1_f51 rfl dX5_add_42 ?_
  refine g_iload C.1 4 dX5_add_45 rfl ?_
  refine m_ast C.1 5 4 (N := 24) (f := (σ 7)) (e := (σ 3 0)) (z := v4) (X' := []) (σ' := upM (upM (upM (upM σ 4 (cpI (σ 1) (σ 4) 0 (120 * (σ 3 0)) v2)) 5 (upI (σ 5) (σ 3 0) v2)) 6 (upI (σ 6) (σ 3 0) v3)) 7 (upI (σ 7) (σ 3 0) v4)) rfl rfl rfl (by decide) hi2 dX5_add_47 ?_
  refine g_aload_n C.1 0 dX5_add_48 rfl rfl ?_
  refine m_get C.1 inX5_add_t1 8 (by decide) (v := .ref (L 8)) rfl lk_X5_add_t1_f25 rfl dX5_add_49 ?_
  refine g_aload_n C.1 0 dX5_add_52 rfl rfl ?_
  refine m_get C.1 inX5_add_t1 3 (by decide) (v := .int (iZ (σ 3 0))) rfl lk_X5_add_t1_f51 rfl dX5_add_53 ?_
  refine g_iconst C.1 (z := 1) dX5_add_56 ?_
  refine m_zast C.1 6 5 (N := 24) (f := (σ 8)) (e := (σ 3 0)) (z := 1) (X' := []) (σ' := upM (upM (upM (upM (upM σ 4 (cpI (σ 1) (σ 4) 0 (120 * (σ 3 0)) v2)) 5 (upI (σ 5) (σ 3 0) v2)) 6 (upI (σ 6) (σ 3 0) v3)) 7 (upI (σ 7) (σ 3 0) v4)) 8 (upI (σ 8) (σ 3 0) 1)) rfl rfl rfl (by decide) (Or.inr rfl) hi2 dX5_add_57 ?_
  refine g_aload_n C.1 0 dX5_add_58 rfl rfl ?_
  refine g_dup C.1 rfl dX5_add_59 ?_
  refine m_get C.1 inX5_add_t1 3 (by decide) (v := .int (iZ (σ 3 0))) rfl lk_X5_add_t1_f51 rfl dX5_add_60 ?_
  refine g_iconst C.1 (z := 1) dX5_add_63 ?_
  refine g_iadd C.1 (x := σ 3 0) (y := 1) dX5_add_64 ?_
  refine m_put C.1 inX5_add_t1 3 (by decide) (z := (σ 3 0) + 1) (σ' := upM (upM (upM (upM (upM (upM σ 4 (cpI (σ 1) (σ 4) 0 (120 * (σ 3 0)) v2)) 5 (upI (σ 5) (σ 3 0) v2)) 6 (upI (σ 6) (σ 3 0) v3)) 7 (upI (σ 7) (σ 3 0) v4)) 8 (upI (σ 8) (σ 3 0) 1)) 3 (fun _ => (σ 3 0) + 1)) rfl lk_X5_add_t1_f51 rfl rfl rfl dX5_add_65 ?_
  refine g_aload_n C.1 0 dX5_add_68 rfl rfl ?_
  refine m_get C.1 inX5_add_t1 3 (by decide) (v := .int (iZ ((σ 3 0) + 1))) rfl lk_X5_add_t1_f51 rfl dX5_add_69 ?_
  refine g_iconst C.1 (z := 1) dX5_add_72 ?_
  refine g_isub C.1 (x := (σ 3 0) + 1) (y := 1) dX5_add_73 ?_
  exact x_iret C.1 C.2.2 rfl ⟨Nat.le_of_ble_eq_true rfl, Nat.le_of_ble_eq_true rfl⟩ dX5_add_74 h
def H_X5_add_t1 (p : MS → Int → Int → Int → Prop) (o : MS → Int → Int → Int → Int → MS → Prop) : Prop := ∀ (l : Launch) (L : Nat → Nat) (c : Nat → ClassId) (σ : MS) (v2 v3 v4 : Int), p σ v2 v3 v4 → xMet l yX5_add wsX5_add rm_X5_add_t1 (MW L c [] []) rkI [.ref (L 0), .ref (L 1), .int (iZ v2), .int (iZ v3), .int (iZ v4)] σ (fun r σ' => o σ v2 v3 v4 r σ')
theorem m_X5_add_t1 {l : Launch} {L : Nat → Nat} {c : Nat → ClassId} {σ : MS} {v2 v3 v4 : Int} {post : Int → MS → Prop} (h : ∀ K : KT, K.l = l → C_X5_add_t1 K L c post → P_X5_add_t1_0 K L c σ v2 v3 v4) : xMet l yX5_add wsX5_add rm_X5_add_t1 (MW L c [] []) rkI [.ref (L 0), .ref (L 1), .int (iZ v2), .int (iZ v3), .int (iZ v4)] σ post :=
  xMet.of (maxL := 5) (by decide +kernel) rfl (Nat.le_of_ble_eq_true rfl) (fun K h1 h2 h3 h4 _ => h K h1 ⟨h2, h4, h3⟩)

/-! X5_add_t13 -/
abbrev rm_X5_add_t13 : Room := { frames := 1, cells := 0, slots := 0, locals := 60 }
theorem inX5_add_t13 : ∀ w ∈ wsX50, w ∈ wsX5_add := by decide +kernel
theorem lk_X5_add_t13_f13 : Cond.fieldLink RX5 13 "CopyHouseModel" "letters" "[I" ∈ wsX5_add := List.mem_of_getElem? (i := 1) (by decide +kernel)
theorem lk_X5_add_t13_f51 : Cond.fieldLink RX5 51 "CopyHouseModel" "texts" "I" ∈ wsX5_add := List.mem_of_getElem? (i := 2) (by decide +kernel)
theorem lk_X5_add_t13_ac68 : Cond.methodLink RX5 68 arraycopyName ∈ wsX5_add := List.mem_of_getElem? (i := 3) (by decide +kernel)
theorem lk_X5_add_t13_acn : Cond.native arraycopyName ∈ wsX5_add := List.mem_of_getElem? (i := 4) (by decide +kernel)
theorem lk_X5_add_t13_acs : Cond.static arraycopyName ∈ wsX5_add := List.mem_of_getElem? (i := 5) (by decide +kernel)
theorem lk_X5_add_t13_aci : Cond.initialized "java/lang/System" ∈ wsX5_add := List.mem_of_getElem? (i := 6) (by decide +kernel)
theorem lk_X5_add_t13_f16 : Cond.fieldLink RX5 16 "CopyHouseModel" "length" "[I" ∈ wsX5_add := List.mem_of_getElem? (i := 7) (by decide +kernel)
theorem lk_X5_add_t13_f19 : Cond.fieldLink RX5 19 "CopyHouseModel" "exemplar" "[I" ∈ wsX5_add := List.mem_of_getElem? (i := 8) (by decide +kernel)
theorem lk_X5_add_t13_f22 : Cond.fieldLink RX5 22 "CopyHouseModel" "scribe" "[I" ∈ wsX5_add := List.mem_of_getElem? (i := 9) (by decide +kernel)
theorem lk_X5_add_t13_f25 : Cond.fieldLink RX5 25 "CopyHouseModel" "isThere" "[Z" ∈ wsX5_add := List.mem_of_getElem? (i := 10) (by decide +kernel)
def C_X5_add_t13 (K : KT) (L : Nat → Nat) (c : Nat → ClassId) (post : Int → MS → Prop) : Prop := kOK K cX5_add RX5 wsX5_add (some .int) rm_X5_add_t13 ∧ K.nL = 5 ∧ kQ K (MW L c [] []) rkI post rm_X5_add_t13
def P_X5_add_t13_0 (K : KT) (L : Nat → Nat) (c : Nat → ClassId) (σ : MS) (v2 v3 v4 : Int) : Prop := G K (MW L c [] [] σ) (0, 0) [(0, .ref (L 0)), (1, .ref (L 13)), (2, .int (iZ v2)), (3, .int (iZ v3)), (4, .int (iZ v4))] 0 []
set_option maxRecDepth 100000 in
set_option maxHeartbeats 4000000 in
theorem b_X5_add_t13_0 {K : KT} {L : Nat → Nat} {c : Nat → ClassId} {post : Int → MS → Prop} (C : C_X5_add_t13 K L c post) {σ : MS} {v2 v3 v4 : Int} (h : ((0 : Int) ≤ 0 ∧ (0 : Int) ≤ (120 * (σ 3 0)) ∧ (0 : Int) ≤ v2 ∧ 0 + v2 ≤ (120 : Int) ∧ (120 * (σ 3 0)) + v2 ≤ (2880 : Int)) ∧ (0 ≤ (σ 3 0) ∧ (σ 3 0) < 24) ∧ post (((σ 3 0) + 1) - 1) (upM (upM (upM (upM (upM (upM σ 4 (cpI (σ 13) (σ 4) 0 (120 * (σ 3 0)) v2)) 5 (upI (σ 5) (σ 3 0) v2)) 6 (upI (σ 6) (σ 3 0) v3)) 7 (upI (σ 7) (σ 3 0) v4)) 8 (upI (σ 8) (σ 3 0) 1)) 3 (fun _ => (σ 3 0) + 1))) : P_X5_add_t13_0 K L c σ v2 v3 v4 := by
  refine g_aload_n C.1 1 dX5_add_0 rfl rfl ?_
  refine g_iconst C.1 (z := 0) dX5_add_1 ?_
  refine g_aload_n C.1 0 dX5_add_2 rfl rfl ?_
  refine m_get C.1 inX5_add_t13 4 (by decide) (v := .ref (L 4)) rfl lk_X5_add_t13_f13 rfl dX5_add_3 ?_
  refine g_bipush C.1 (z := 120) dX5_add_6 (by decide) ?_
  refine g_aload_n C.1 0 dX5_add_8 rfl rfl ?_
  refine m_get C.1 inX5_add_t13 3 (by decide) (v := .int (iZ (σ 3 0))) rfl lk_X5_add_t13_f51 rfl dX5_add_9 ?_
  refine g_imul C.1 (x := 120) (y := σ 3 0) dX5_add_12 ?_
  refine g_iload_n C.1 2 dX5_add_13 rfl rfl ?_
  obtain ⟨ha1, h⟩ := h
  refine m_copy C.1 10 2 9 1 (N0 := 120) (N1 := 2880) (f := (σ 13)) (g := (σ 4)) (sp := 0) (dp := 120 * (σ 3 0)) (m := v2) (σ' := upM σ 4 (cpI (σ 13) (σ 4) 0 (120 * (σ 3 0)) v2)) (X' := []) rfl rfl rfl rfl rfl (by decide) ha1 lk_X5_add_t13_ac68 lk_X5_add_t13_acn lk_X5_add_t13_acs lk_X5_add_t13_aci (Nat.le_of_ble_eq_true rfl) (Nat.le_of_ble_eq_true (by decide +kernel)) dX5_add_14 ?_
  refine g_aload_n C.1 0 dX5_add_17 rfl rfl ?_
  refine m_get C.1 inX5_add_t13 5 (by decide) (v := .ref (L 5)) rfl lk_X5_add_t13_f16 rfl dX5_add_18 ?_
  refine g_aload_n C.1 0 dX5_add_21 rfl rfl ?_
  refine m_get C.1 inX5_add_t13 3 (by decide) (v := .int (iZ (σ 3 0))) rfl lk_X5_add_t13_f51 rfl dX5_add_22 ?_
  refine g_iload_n C.1 2 dX5_add_25 rfl rfl ?_
  obtain ⟨hi2, h⟩ := h
  refine m_ast C.1 3 2 (N := 24) (f := (σ 5)) (e := (σ 3 0)) (z := v2) (X' := []) (σ' := upM (upM σ 4 (cpI (σ 13) (σ 4) 0 (120 * (σ 3 0)) v2)) 5 (upI (σ 5) (σ 3 0) v2)) rfl rfl rfl (by decide) hi2 dX5_add_26 ?_
  refine g_aload_n C.1 0 dX5_add_27 rfl rfl ?_
  refine m_get C.1 inX5_add_t13 6 (by decide) (v := .ref (L 6)) rfl lk_X5_add_t13_f19 rfl dX5_add_28 ?_
  refine g_aload_n C.1 0 dX5_add_31 rfl rfl ?_
  refine m_get C.1 inX5_add_t13 3 (by decide) (v := .int (iZ (σ 3 0))) rfl lk_X5_add_t13_f51 rfl dX5_add_32 ?_
  refine g_iload_n C.1 3 dX5_add_35 rfl rfl ?_
  refine m_ast C.1 4 3 (N := 24) (f := (σ 6)) (e := (σ 3 0)) (z := v3) (X' := []) (σ' := upM (upM (upM σ 4 (cpI (σ 13) (σ 4) 0 (120 * (σ 3 0)) v2)) 5 (upI (σ 5) (σ 3 0) v2)) 6 (upI (σ 6) (σ 3 0) v3)) rfl rfl rfl (by decide) hi2 dX5_add_36 ?_
  refine g_aload_n C.1 0 dX5_add_37 rfl rfl ?_
  refine m_get C.1 inX5_add_t13 7 (by decide) (v := .ref (L 7)) rfl lk_X5_add_t13_f22 rfl dX5_add_38 ?_
  refine g_aload_n C.1 0 dX5_add_41 rfl rfl ?_
  refine m_get C.1 inX5_add_t13 3 (by decide) (v := .int (iZ (σ 3 0))) rfl lk_X5_add_t13_f51 rfl dX5_add_42 ?_
  refine g_iload C.1 4 dX5_add_45 rfl ?_
  refine m_ast C.1 5 4 (N := 24) (f := (σ 7)) (e := (σ 3 0)) (z := v4) (X' := []) (σ' := upM (upM (upM (upM σ 4 (cpI (σ 13) (σ 4) 0 (120 * (σ 3 0)) v2)) 5 (upI (σ 5) (σ 3 0) v2)) 6 (upI (σ 6) (σ 3 0) v3)) 7 (upI (σ 7) (σ 3 0) v4)) rfl rfl rfl (by decide) hi2 dX5_add_47 ?_
  refine g_aload_n C.1 0 dX5_add_48 rfl rfl ?_
  refine m_get C.1 inX5_add_t13 8 (by decide) (v := .ref (L 8)) rfl lk_X5_add_t13_f25 rfl dX5_add_49 ?_
  refine g_aload_n C.1 0 dX5_add_52 rfl rfl ?_
  refine m_get C.1 inX5_add_t13 3 (by decide) (v := .int (iZ (σ 3 0))) rfl lk_X5_add_t13_f51 rfl dX5_add_53 ?_
  refine g_iconst C.1 (z := 1) dX5_add_56 ?_
  refine m_zast C.1 6 5 (N := 24) (f := (σ 8)) (e := (σ 3 0)) (z := 1) (X' := []) (σ' := upM (upM (upM (upM (upM σ 4 (cpI (σ 13) (σ 4) 0 (120 * (σ 3 0)) v2)) 5 (upI (σ 5) (σ 3 0) v2)) 6 (upI (σ 6) (σ 3 0) v3)) 7 (upI (σ 7) (σ 3 0) v4)) 8 (upI (σ 8) (σ 3 0) 1)) rfl rfl rfl (by decide) (Or.inr rfl) hi2 dX5_add_57 ?_
  refine g_aload_n C.1 0 dX5_add_58 rfl rfl ?_
  refine g_dup C.1 rfl dX5_add_59 ?_
  refine m_get C.1 inX5_add_t13 3 (by decide) (v := .int (iZ (σ 3 0))) rfl lk_X5_add_t13_f51 rfl dX5_add_60 ?_
  refine g_iconst C.1 (z := 1) dX5_add_63 ?_
  refine g_iadd C.1 (x := σ 3 0) (y := 1) dX5_add_64 ?_
  refine m_put C.1 inX5_add_t13 3 (by decide) (z := (σ 3 0) + 1) (σ' := upM (upM (upM (upM (upM (upM σ 4 (cpI (σ 13) (σ 4) 0 (120 * (σ 3 0)) v2)) 5 (upI (σ 5) (σ 3 0) v2)) 6 (upI (σ 6) (σ 3 0) v3)) 7 (upI (σ 7) (σ 3 0) v4)) 8 (upI (σ 8) (σ 3 0) 1)) 3 (fun _ => (σ 3 0) + 1)) rfl lk_X5_add_t13_f51 rfl rfl rfl dX5_add_65 ?_
  refine g_aload_n C.1 0 dX5_add_68 rfl rfl ?_
  refine m_get C.1 inX5_add_t13 3 (by decide) (v := .int (iZ ((σ 3 0) + 1))) rfl lk_X5_add_t13_f51 rfl dX5_add_69 ?_
  refine g_iconst C.1 (z := 1) dX5_add_72 ?_
  refine g_isub C.1 (x := (σ 3 0) + 1) (y := 1) dX5_add_73 ?_
  exact x_iret C.1 C.2.2 rfl ⟨Nat.le_of_ble_eq_true rfl, Nat.le_of_ble_eq_true rfl⟩ dX5_add_74 h
def H_X5_add_t13 (p : MS → Int → Int → Int → Prop) (o : MS → Int → Int → Int → Int → MS → Prop) : Prop := ∀ (l : Launch) (L : Nat → Nat) (c : Nat → ClassId) (σ : MS) (v2 v3 v4 : Int), p σ v2 v3 v4 → xMet l yX5_add wsX5_add rm_X5_add_t13 (MW L c [] []) rkI [.ref (L 0), .ref (L 13), .int (iZ v2), .int (iZ v3), .int (iZ v4)] σ (fun r σ' => o σ v2 v3 v4 r σ')
theorem m_X5_add_t13 {l : Launch} {L : Nat → Nat} {c : Nat → ClassId} {σ : MS} {v2 v3 v4 : Int} {post : Int → MS → Prop} (h : ∀ K : KT, K.l = l → C_X5_add_t13 K L c post → P_X5_add_t13_0 K L c σ v2 v3 v4) : xMet l yX5_add wsX5_add rm_X5_add_t13 (MW L c [] []) rkI [.ref (L 0), .ref (L 13), .int (iZ v2), .int (iZ v3), .int (iZ v4)] σ post :=
  xMet.of (maxL := 5) (by decide +kernel) rfl (Nat.le_of_ble_eq_true rfl) (fun K h1 h2 h3 h4 _ => h K h1 ⟨h2, h4, h3⟩)

/-! X5_write -/
abbrev rm_X5_write : Room := { frames := 2, cells := 0, slots := 0, locals := 84 }
theorem inX5_write : ∀ w ∈ wsX50, w ∈ wsX5_write := by decide +kernel
theorem lk_X5_write_f47 : Cond.fieldLink RX5 47 "CopyHouseModel" "thrown" "I" ∈ wsX5_write := List.mem_of_getElem? (i := 1) (by decide +kernel)
theorem lk_X5_write_f51 : Cond.fieldLink RX5 51 "CopyHouseModel" "texts" "I" ∈ wsX5_write := List.mem_of_getElem? (i := 2) (by decide +kernel)
theorem lk_X5_write_f61 : Cond.fieldLink RX5 61 "CopyHouseModel" "taped" "I" ∈ wsX5_write := List.mem_of_getElem? (i := 3) (by decide +kernel)
theorem lk_X5_write_f9 : Cond.fieldLink RX5 9 "CopyHouseModel" "tape" "[I" ∈ wsX5_write := List.mem_of_getElem? (i := 4) (by decide +kernel)
def C_X5_write (K : KT) (L : Nat → Nat) (c : Nat → ClassId) (post : Int → MS → Prop) : Prop := kOK K cX5_write RX5 wsX5_write (some .int) rm_X5_write ∧ K.nL = 3 ∧ kQ K (MW L c [] []) rkI post rm_X5_write
def P_X5_write_0 (K : KT) (L : Nat → Nat) (c : Nat → ClassId) (σ : MS) : Prop := G K (MW L c [] [] σ) (0, 0) [(0, .ref (L 0))] 0 []
def P_X5_write_1 (K : KT) (L : Nat → Nat) (c : Nat → ClassId) (σ : MS) (v1 v2 : Int) : Prop := G K (MW L c [] [] σ) (0, 0) [(0, .ref (L 0)), (1, .int (iZ v1)), (2, .int (iZ v2))] 35 []
set_option maxRecDepth 100000 in
set_option maxHeartbeats 4000000 in
theorem b_X5_write_0 {K : KT} {L : Nat → Nat} {c : Nat → ClassId} {post : Int → MS → Prop} (C : C_X5_write K L c post) {p_no : MS → Int → Prop} {u_no : MS → Int → MS} (h_no : H_X5_no p_no u_no) {σ : MS} (h : (-2147483648 ≤ (σ 3 0) ∧ (σ 3 0) < 2147483648) ∧ ((¬ (σ 3 0) = 24 → (-2147483648 ≤ (σ 2 0) ∧ (σ 2 0) < 2147483648) ∧ P_X5_write_1 K L c (upM σ 0 (fun _ => 0)) ((if ¬ (σ 2 0) ≤ 0 then 1 else 0)) 0) ∧ ((σ 3 0) = 24 → (p_no (upM σ 0 (fun _ => 0)) 1) ∧ post 0 ((u_no (upM σ 0 (fun _ => 0)) 1))))) : P_X5_write_0 K L c σ := by
  refine g_aload_n C.1 0 dX5_write_0 rfl rfl ?_
  refine g_iconst C.1 (z := 0) dX5_write_1 ?_
  refine m_put C.1 inX5_write 0 (by decide) (z := 0) (σ' := upM σ 0 (fun _ => 0)) rfl lk_X5_write_f47 rfl rfl rfl dX5_write_2 ?_
  refine g_aload_n C.1 0 dX5_write_5 rfl rfl ?_
  refine m_get C.1 inX5_write 3 (by decide) (v := .int (iZ (σ 3 0))) rfl lk_X5_write_f51 rfl dX5_write_6 ?_
  refine g_bipush C.1 (z := 24) dX5_write_9 (by decide) ?_
  obtain ⟨hc1, h⟩ := h
  refine g_icmp_ne C.1 (tgt := 20) dX5_write_11 (by decide) hc1 (by decide) (fun hc => ?_) (fun hc => ?_)
  · have h := h.1 hc
    refine g_aload_n C.1 0 dX5_write_20 rfl rfl ?_
    refine m_get C.1 inX5_write 2 (by decide) (v := .int (iZ (σ 2 0))) rfl lk_X5_write_f61 rfl dX5_write_21 ?_
    obtain ⟨hc2, h⟩ := h
    suffices hk : G K (MW L c [] [] (upM σ 0 (fun _ => 0))) (0, 0) [(0, .ref (L 0))] 32 [.int (iZ (if ¬ (σ 2 0) ≤ 0 then 1 else 0))] by
      refine g_if_le C.1 (tgt := 31) dX5_write_24 (by decide) hc2 (fun hc => ?_) (fun hc => ?_)
      · refine g_iconst C.1 (z := 0) dX5_write_31 ?_
        rw [if_neg (fun q9 => q9 hc)] at hk
        exact hk
      · refine g_iconst C.1 (z := 1) dX5_write_27 ?_
        refine g_goto C.1 (tgt := 32) dX5_write_28 (by decide) ?_
        rw [if_pos hc] at hk
        exact hk
    refine g_istore_n C.1 (loc' := [(1, .int (iZ (if ¬ (σ 2 0) ≤ 0 then 1 else 0))), (0, .ref (L 0))]) C.2.1 dX5_write_32 rfl (by decide) rfl ?_
    refine g_iconst C.1 (z := 0) dX5_write_33 ?_
    refine g_istore_n C.1 (loc' := [(2, .int (iZ 0)), (1, .int (iZ (if ¬ (σ 2 0) ≤ 0 then 1 else 0))), (0, .ref (L 0))]) C.2.1 dX5_write_34 rfl (by decide) rfl ?_
    exact g_sub [2, 1, 0] rfl h
  · have h := h.2 hc
    refine g_aload_n C.1 0 dX5_write_14 rfl rfl ?_
    refine g_iconst C.1 (z := 1) dX5_write_15 ?_
    obtain ⟨hp3, h⟩ := h
    refine x_callV C.1 (h_no K.l L c (upM σ 0 (fun _ => 0)) 1 hp3) (ci := 6) (q := (RX5, TX5, 17)) rfl m_recv (fun ht => cwV 1 ht gX5_write_X5_no rfl rfl rfl (by decide +kernel) ⟨Nat.le_of_ble_eq_true rfl, Nat.le_of_ble_eq_true rfl⟩) rfl rfl (Nat.le_of_ble_eq_true rfl) ⟨Nat.le_of_ble_eq_true rfl, Nat.le_of_ble_eq_true rfl⟩ dX5_write_16 (fun r σ9 hq => ?_)
    rw [hq.1, hq.2]
    show G K (MW L c [] [] ((u_no (upM σ 0 (fun _ => 0)) 1))) (0, 0) [(0, .ref (L 0))] 19 [.int (iZ 0)]
    exact x_iret C.1 C.2.2 rfl ⟨Nat.le_of_ble_eq_true rfl, Nat.le_of_ble_eq_true rfl⟩ dX5_write_19 h
set_option maxRecDepth 100000 in
set_option maxHeartbeats 4000000 in
theorem b_X5_write_1 {K : KT} {L : Nat → Nat} {c : Nat → ClassId} {post : Int → MS → Prop} (C : C_X5_write K L c post) {p_add_t1 : MS → Int → Int → Int → Prop} {o_add_t1 : MS → Int → Int → Int → Int → MS → Prop} (h_add_t1 : H_X5_add_t1 p_add_t1 o_add_t1) {p_isIn : MS → Int → Int → Int → Prop} {f_isIn : MS → Int → Int → Int → Bool} (h_isIn : H_X5_isIn p_isIn f_isIn) {σ : MS} {v1 v2 : Int} (h : (-2147483648 ≤ v2 ∧ v2 < 2147483648) ∧ (-2147483648 ≤ (σ 2 0) ∧ (σ 2 0) < 2147483648) ∧ (((σ 2 0) ≤ v2 → (-2147483648 ≤ v1 ∧ v1 < 2147483648) ∧ ((v1 = 0 → post ((-1)) (upM σ 2 (fun _ => 0))) ∧ (¬ v1 = 0 → (p_add_t1 (upM σ 2 (fun _ => 0)) (σ 2 0) ((-1)) ((-1))) ∧ ∀ (r5 : Int) (σ6 : MS), o_add_t1 (upM σ 2 (fun _ => 0)) (σ 2 0) ((-1)) ((-1)) r5 σ6 → post r5 σ6))) ∧ (¬ (σ 2 0) ≤ v2 → (-2147483648 ≤ v1 ∧ v1 < 2147483648) ∧ ((v1 = 0 → P_X5_write_1 K L c σ 0 (v2 + 1)) ∧ (¬ v1 = 0 → (0 ≤ v2 ∧ v2 < 60) ∧ (p_isIn σ ((σ 1) v2) 97 122) ∧ ((¬ (f_isIn σ ((σ 1) v2) 97 122 = true) → P_X5_write_1 K L c σ 0 (v2 + 1)) ∧ (f_isIn σ ((σ 1) v2) 97 122 = true → P_X5_write_1 K L c σ 1 (v2 + 1)))))))) : P_X5_write_1 K L c σ v1 v2 := by
  refine g_iload_n C.1 2 dX5_write_35 rfl rfl ?_
  refine g_aload_n C.1 0 dX5_write_36 rfl rfl ?_
  refine m_get C.1 inX5_write 2 (by decide) (v := .int (iZ (σ 2 0))) rfl lk_X5_write_f61 rfl dX5_write_37 ?_
  obtain ⟨hc1, h⟩ := h
  obtain ⟨hc2, h⟩ := h
  refine g_icmp_ge C.1 (tgt := 75) dX5_write_40 (by decide) hc1 hc2 (fun hc => ?_) (fun hc => ?_)
  · have h := h.1 hc
    refine g_aload_n C.1 0 dX5_write_75 rfl rfl ?_
    refine m_get C.1 inX5_write 2 (by decide) (v := .int (iZ (σ 2 0))) rfl lk_X5_write_f61 rfl dX5_write_76 ?_
    refine g_istore_n C.1 (loc' := [(2, .int (iZ (σ 2 0))), (0, .ref (L 0)), (1, .int (iZ v1))]) C.2.1 dX5_write_79 rfl (by decide) rfl ?_
    refine g_aload_n C.1 1 dX5_write_80 rfl rfl ?_
    refine g_iconst C.1 (z := 0) dX5_write_81 ?_
    refine m_put C.1 inX5_write 2 (by decide) (z := 0) (σ' := upM σ 2 (fun _ => 0)) rfl lk_X5_write_f61 rfl rfl rfl dX5_write_82 ?_
    refine g_iload_n C.1 2 dX5_write_85 rfl rfl ?_
    obtain ⟨hc3, h⟩ := h
    refine g_if_eq C.1 (tgt := 103) dX5_write_86 (by decide) hc3 (fun hc => ?_) (fun hc => ?_)
    · have h := h.1 hc
      refine g_iconst C.1 (z := (-1)) dX5_write_103 ?_
      exact x_iret C.1 C.2.2 rfl ⟨Nat.le_of_ble_eq_true rfl, Nat.le_of_ble_eq_true rfl⟩ dX5_write_104 h
    · have h := h.2 hc
      refine g_aload_n C.1 1 dX5_write_89 rfl rfl ?_
      refine g_aload_n C.1 1 dX5_write_90 rfl rfl ?_
      refine m_get C.1 inX5_write 1 (by decide) (v := .ref (L 1)) rfl lk_X5_write_f9 rfl dX5_write_91 ?_
      refine g_iload_n C.1 0 dX5_write_94 rfl rfl ?_
      refine g_iconst C.1 (z := (-1)) dX5_write_95 ?_
      refine g_iconst C.1 (z := (-1)) dX5_write_96 ?_
      obtain ⟨hp4, h⟩ := h
      refine x_callV C.1 (h_add_t1 K.l L c (upM σ 2 (fun _ => 0)) (σ 2 0) ((-1)) ((-1)) hp4) (ci := 6) (q := (RX5, TX5, 17)) rfl m_recv (fun ht => cwV 4 ht gX5_write_X5_add rfl rfl rfl (by decide +kernel) ⟨Nat.le_of_ble_eq_true rfl, Nat.le_of_ble_eq_true rfl⟩) rfl rfl (Nat.le_of_ble_eq_true rfl) ⟨Nat.le_of_ble_eq_true rfl, Nat.le_of_ble_eq_true rfl⟩ dX5_write_97 (fun r5 σ6 hq => ?_)
      have h := h r5 σ6 hq
      show G K (MW L c [] [] σ6) (0, 0) [(2, .int (iZ (σ 2 0))), (0, .ref (L 0)), (1, .int (iZ v1))] 100 [.int (iZ r5)]
      refine g_goto C.1 (tgt := 104) dX5_write_100 (by decide) ?_
      exact x_iret C.1 C.2.2 rfl ⟨Nat.le_of_ble_eq_true rfl, Nat.le_of_ble_eq_true rfl⟩ dX5_write_104 h
  · have h := h.2 hc
    refine g_iload_n C.1 1 dX5_write_43 rfl rfl ?_
    obtain ⟨hc7, h⟩ := h
    refine g_if_eq C.1 (tgt := 67) dX5_write_44 (by decide) hc7 (fun hc => ?_) (fun hc => ?_)
    · have h := h.1 hc
      refine g_iconst C.1 (z := 0) dX5_write_67 ?_
      refine g_istore_n C.1 (loc' := [(1, .int (iZ 0)), (0, .ref (L 0)), (2, .int (iZ v2))]) C.2.1 dX5_write_68 rfl (by decide) rfl ?_
      refine g_iinc C.1 (z := v2) (w := 1) (loc' := [(2, .int (iZ (v2 + 1))), (1, .int (iZ 0)), (0, .ref (L 0))]) 2 C.2.1 dX5_write_69 rfl (by decide) rfl ?_
      refine g_goto C.1 (tgt := 35) dX5_write_72 (by decide) ?_
      exact g_sub [2, 1, 0] rfl h
    · have h := h.2 hc
      refine g_aload_n C.1 0 dX5_write_47 rfl rfl ?_
      refine m_get C.1 inX5_write 1 (by decide) (v := .ref (L 1)) rfl lk_X5_write_f9 rfl dX5_write_48 ?_
      refine g_iload_n C.1 2 dX5_write_51 rfl rfl ?_
      obtain ⟨hi8, h⟩ := h
      refine m_ald C.1 1 0 (N := 60) (f := (σ 1)) (e := v2) rfl rfl (by decide) hi8 dX5_write_52 ?_
      refine g_bipush C.1 (z := 97) dX5_write_53 (by decide) ?_
      refine g_bipush C.1 (z := 122) dX5_write_55 (by decide) ?_
      obtain ⟨hp9, h⟩ := h
      refine x_callS C.1 (h_isIn K.l L c σ ((σ 1) v2) 97 122 hp9) (fun ht => va_cwS 3 ht gX5_write_X5_isIn rfl rfl rfl (by decide +kernel) ⟨Nat.le_of_ble_eq_true rfl, Nat.le_of_ble_eq_true rfl⟩) rfl rfl (Nat.le_of_ble_eq_true rfl) ⟨Nat.le_of_ble_eq_true rfl, Nat.le_of_ble_eq_true rfl⟩ dX5_write_57 (fun r σ9 hq => ?_)
      rw [hq.1, hq.2]
      show G K (MW L c [] [] σ) (0, 0) [(0, .ref (L 0)), (1, .int (iZ v1)), (2, .int (iZ v2))] 60 [.int (iZ (if f_isIn σ ((σ 1) v2) 97 122 = true then 1 else 0))]
      refine g_ifb_eq C.1 (tgt := 67) dX5_write_60 (by decide) (fun hc => ?_) (fun hc => ?_)
      · have h := h.1 hc
        refine g_iconst C.1 (z := 0) dX5_write_67 ?_
        refine g_istore_n C.1 (loc' := [(1, .int (iZ 0)), (0, .ref (L 0)), (2, .int (iZ v2))]) C.2.1 dX5_write_68 rfl (by decide) rfl ?_
        refine g_iinc C.1 (z := v2) (w := 1) (loc' := [(2, .int (iZ (v2 + 1))), (1, .int (iZ 0)), (0, .ref (L 0))]) 2 C.2.1 dX5_write_69 rfl (by decide) rfl ?_
        refine g_goto C.1 (tgt := 35) dX5_write_72 (by decide) ?_
        exact g_sub [2, 1, 0] rfl h
      · have h := h.2 hc
        refine g_iconst C.1 (z := 1) dX5_write_63 ?_
        refine g_goto C.1 (tgt := 68) dX5_write_64 (by decide) ?_
        refine g_istore_n C.1 (loc' := [(1, .int (iZ 1)), (0, .ref (L 0)), (2, .int (iZ v2))]) C.2.1 dX5_write_68 rfl (by decide) rfl ?_
        refine g_iinc C.1 (z := v2) (w := 1) (loc' := [(2, .int (iZ (v2 + 1))), (1, .int (iZ 1)), (0, .ref (L 0))]) 2 C.2.1 dX5_write_69 rfl (by decide) rfl ?_
        refine g_goto C.1 (tgt := 35) dX5_write_72 (by decide) ?_
        exact g_sub [2, 1, 0] rfl h
def H_X5_write (p : MS → Prop) (o : MS → Int → MS → Prop) : Prop := ∀ (l : Launch) (L : Nat → Nat) (c : Nat → ClassId) (σ : MS), p σ → xMet l yX5_write wsX5_write rm_X5_write (MW L c [] []) rkI [.ref (L 0)] σ (fun r σ' => o σ r σ')
theorem m_X5_write {l : Launch} {L : Nat → Nat} {c : Nat → ClassId} {σ : MS} {post : Int → MS → Prop} (h : ∀ K : KT, K.l = l → C_X5_write K L c post → P_X5_write_0 K L c σ) : xMet l yX5_write wsX5_write rm_X5_write (MW L c [] []) rkI [.ref (L 0)] σ post :=
  xMet.of (maxL := 3) (by decide +kernel) rfl (Nat.le_of_ble_eq_true rfl) (fun K h1 h2 h3 h4 _ => h K h1 ⟨h2, h4, h3⟩)

/-! X5_letter -/
abbrev rm_X5_letter : Room := { frames := 2, cells := 0, slots := 0, locals := 43 }
theorem inX5_letter : ∀ w ∈ wsX50, w ∈ wsX5_letter := by decide +kernel
theorem lk_X5_letter_f47 : Cond.fieldLink RX5 47 "CopyHouseModel" "thrown" "I" ∈ wsX5_letter := List.mem_of_getElem? (i := 1) (by decide +kernel)
theorem lk_X5_letter_f16 : Cond.fieldLink RX5 16 "CopyHouseModel" "length" "[I" ∈ wsX5_letter := List.mem_of_getElem? (i := 2) (by decide +kernel)
theorem lk_X5_letter_f13 : Cond.fieldLink RX5 13 "CopyHouseModel" "letters" "[I" ∈ wsX5_letter := List.mem_of_getElem? (i := 3) (by decide +kernel)
def C_X5_letter (K : KT) (L : Nat → Nat) (c : Nat → ClassId) (post : Int → MS → Prop) : Prop := kOK K cX5_letter RX5 wsX5_letter (some .int) rm_X5_letter ∧ K.nL = 3 ∧ kQ K (MW L c [] []) rkI post rm_X5_letter
def P_X5_letter_0 (K : KT) (L : Nat → Nat) (c : Nat → ClassId) (σ : MS) (v1 v2 : Int) : Prop := G K (MW L c [] [] σ) (0, 0) [(0, .ref (L 0)), (1, .int (iZ v1)), (2, .int (iZ v2))] 0 []
set_option maxRecDepth 100000 in
set_option maxHeartbeats 4000000 in
theorem b_X5_letter_0 {K : KT} {L : Nat → Nat} {c : Nat → ClassId} {post : Int → MS → Prop} (C : C_X5_letter K L c post) {p_isText : MS → Int → Prop} {f_isText : MS → Int → Bool} (h_isText : H_X5_isText p_isText f_isText) {p_no : MS → Int → Prop} {u_no : MS → Int → MS} (h_no : H_X5_no p_no u_no) {p_isIn : MS → Int → Int → Int → Prop} {f_isIn : MS → Int → Int → Int → Bool} (h_isIn : H_X5_isIn p_isIn f_isIn) {σ : MS} {v1 v2 : Int} (h : (p_isText (upM σ 0 (fun _ => 0)) v1) ∧ ((¬ (f_isText (upM σ 0 (fun _ => 0)) v1 = true) → (p_no (upM σ 0 (fun _ => 0)) 1) ∧ post 0 ((u_no (upM σ 0 (fun _ => 0)) 1))) ∧ (f_isText (upM σ 0 (fun _ => 0)) v1 = true → (0 ≤ v1 ∧ v1 < 24) ∧ (p_isIn (upM σ 0 (fun _ => 0)) v2 0 (((σ 5) v1) - 1)) ∧ ((¬ (f_isIn (upM σ 0 (fun _ => 0)) v2 0 (((σ 5) v1) - 1) = true) → (p_no (upM σ 0 (fun _ => 0)) 1) ∧ post 0 ((u_no (upM σ 0 (fun _ => 0)) 1))) ∧ (f_isIn (upM σ 0 (fun _ => 0)) v2 0 (((σ 5) v1) - 1) = true → (0 ≤ ((120 * v1) + v2) ∧ ((120 * v1) + v2) < 2880) ∧ post ((σ 4) ((120 * v1) + v2)) (upM σ 0 (fun _ => 0))))))) : P_X5_letter_0 K L c σ v1 v2 := by
  refine g_aload_n C.1 0 dX5_letter_0 rfl rfl ?_
  refine g_iconst C.1 (z := 0) dX5_letter_1 ?_
  refine m_put C.1 inX5_letter 0 (by decide) (z := 0) (σ' := upM σ 0 (fun _ => 0)) rfl lk_X5_letter_f47 rfl rfl rfl dX5_letter_2 ?_
  refine g_aload_n C.1 0 dX5_letter_5 rfl rfl ?_
  refine g_iload_n C.1 1 dX5_letter_6 rfl rfl ?_
  obtain ⟨hp1, h⟩ := h
  refine x_callV C.1 (h_isText K.l L c (upM σ 0 (fun _ => 0)) v1 hp1) (ci := 6) (q := (RX5, TX5, 17)) rfl m_recv (fun ht => cwV 1 ht gX5_letter_X5_isText rfl rfl rfl (by decide +kernel) ⟨Nat.le_of_ble_eq_true rfl, Nat.le_of_ble_eq_true rfl⟩) rfl rfl (Nat.le_of_ble_eq_true rfl) ⟨Nat.le_of_ble_eq_true rfl, Nat.le_of_ble_eq_true rfl⟩ dX5_letter_7 (fun r σ9 hq => ?_)
  rw [hq.1, hq.2]
  show G K (MW L c [] [] (upM σ 0 (fun _ => 0))) (0, 0) [(0, .ref (L 0)), (1, .int (iZ v1)), (2, .int (iZ v2))] 10 [.int (iZ (if f_isText (upM σ 0 (fun _ => 0)) v1 = true then 1 else 0))]
  refine g_ifb_eq C.1 (tgt := 43) dX5_letter_10 (by decide) (fun hc => ?_) (fun hc => ?_)
  · have h := h.1 hc
    refine g_aload_n C.1 0 dX5_letter_43 rfl rfl ?_
    refine g_iconst C.1 (z := 1) dX5_letter_44 ?_
    obtain ⟨hp2, h⟩ := h
    refine x_callV C.1 (h_no K.l L c (upM σ 0 (fun _ => 0)) 1 hp2) (ci := 6) (q := (RX5, TX5, 17)) rfl m_recv (fun ht => cwV 1 ht gX5_letter_X5_no rfl rfl rfl (by decide +kernel) ⟨Nat.le_of_ble_eq_true rfl, Nat.le_of_ble_eq_true rfl⟩) rfl rfl (Nat.le_of_ble_eq_true rfl) ⟨Nat.le_of_ble_eq_true rfl, Nat.le_of_ble_eq_true rfl⟩ dX5_letter_45 (fun r σ9 hq => ?_)
    rw [hq.1, hq.2]
    show G K (MW L c [] [] ((u_no (upM σ 0 (fun _ => 0)) 1))) (0, 0) [(0, .ref (L 0)), (1, .int (iZ v1)), (2, .int (iZ v2))] 48 [.int (iZ 0)]
    exact x_iret C.1 C.2.2 rfl ⟨Nat.le_of_ble_eq_true rfl, Nat.le_of_ble_eq_true rfl⟩ dX5_letter_48 h
  · have h := h.2 hc
    refine g_iload_n C.1 2 dX5_letter_13 rfl rfl ?_
    refine g_iconst C.1 (z := 0) dX5_letter_14 ?_
    refine g_aload_n C.1 0 dX5_letter_15 rfl rfl ?_
    refine m_get C.1 inX5_letter 5 (by decide) (v := .ref (L 5)) rfl lk_X5_letter_f16 rfl dX5_letter_16 ?_
    refine g_iload_n C.1 1 dX5_letter_19 rfl rfl ?_
    obtain ⟨hi3, h⟩ := h
    refine m_ald C.1 3 2 (N := 24) (f := (σ 5)) (e := v1) rfl rfl (by decide) hi3 dX5_letter_20 ?_
    refine g_iconst C.1 (z := 1) dX5_letter_21 ?_
    refine g_isub C.1 (x := (σ 5) v1) (y := 1) dX5_letter_22 ?_
    obtain ⟨hp4, h⟩ := h
    refine x_callS C.1 (h_isIn K.l L c (upM σ 0 (fun _ => 0)) v2 0 (((σ 5) v1) - 1) hp4) (fun ht => va_cwS 3 ht gX5_letter_X5_isIn rfl rfl rfl (by decide +kernel) ⟨Nat.le_of_ble_eq_true rfl, Nat.le_of_ble_eq_true rfl⟩) rfl rfl (Nat.le_of_ble_eq_true rfl) ⟨Nat.le_of_ble_eq_true rfl, Nat.le_of_ble_eq_true rfl⟩ dX5_letter_23 (fun r σ9 hq => ?_)
    rw [hq.1, hq.2]
    show G K (MW L c [] [] (upM σ 0 (fun _ => 0))) (0, 0) [(0, .ref (L 0)), (1, .int (iZ v1)), (2, .int (iZ v2))] 26 [.int (iZ (if f_isIn (upM σ 0 (fun _ => 0)) v2 0 (((σ 5) v1) - 1) = true then 1 else 0))]
    refine g_ifb_eq C.1 (tgt := 43) dX5_letter_26 (by decide) (fun hc => ?_) (fun hc => ?_)
    · have h := h.1 hc
      refine g_aload_n C.1 0 dX5_letter_43 rfl rfl ?_
      refine g_iconst C.1 (z := 1) dX5_letter_44 ?_
      obtain ⟨hp5, h⟩ := h
      refine x_callV C.1 (h_no K.l L c (upM σ 0 (fun _ => 0)) 1 hp5) (ci := 6) (q := (RX5, TX5, 17)) rfl m_recv (fun ht => cwV 1 ht gX5_letter_X5_no rfl rfl rfl (by decide +kernel) ⟨Nat.le_of_ble_eq_true rfl, Nat.le_of_ble_eq_true rfl⟩) rfl rfl (Nat.le_of_ble_eq_true rfl) ⟨Nat.le_of_ble_eq_true rfl, Nat.le_of_ble_eq_true rfl⟩ dX5_letter_45 (fun r σ9 hq => ?_)
      rw [hq.1, hq.2]
      show G K (MW L c [] [] ((u_no (upM σ 0 (fun _ => 0)) 1))) (0, 0) [(0, .ref (L 0)), (1, .int (iZ v1)), (2, .int (iZ v2))] 48 [.int (iZ 0)]
      exact x_iret C.1 C.2.2 rfl ⟨Nat.le_of_ble_eq_true rfl, Nat.le_of_ble_eq_true rfl⟩ dX5_letter_48 h
    · have h := h.2 hc
      refine g_aload_n C.1 0 dX5_letter_29 rfl rfl ?_
      refine m_get C.1 inX5_letter 4 (by decide) (v := .ref (L 4)) rfl lk_X5_letter_f13 rfl dX5_letter_30 ?_
      refine g_bipush C.1 (z := 120) dX5_letter_33 (by decide) ?_
      refine g_iload_n C.1 1 dX5_letter_35 rfl rfl ?_
      refine g_imul C.1 (x := 120) (y := v1) dX5_letter_36 ?_
      refine g_iload_n C.1 2 dX5_letter_37 rfl rfl ?_
      refine g_iadd C.1 (x := 120 * v1) (y := v2) dX5_letter_38 ?_
      obtain ⟨hi6, h⟩ := h
      refine m_ald C.1 2 1 (N := 2880) (f := (σ 4)) (e := ((120 * v1) + v2)) rfl rfl (by decide) hi6 dX5_letter_39 ?_
      refine g_goto C.1 (tgt := 48) dX5_letter_40 (by decide) ?_
      exact x_iret C.1 C.2.2 rfl ⟨Nat.le_of_ble_eq_true rfl, Nat.le_of_ble_eq_true rfl⟩ dX5_letter_48 h
def H_X5_letter (p : MS → Int → Int → Prop) (o : MS → Int → Int → Int → MS → Prop) : Prop := ∀ (l : Launch) (L : Nat → Nat) (c : Nat → ClassId) (σ : MS) (v1 v2 : Int), p σ v1 v2 → xMet l yX5_letter wsX5_letter rm_X5_letter (MW L c [] []) rkI [.ref (L 0), .int (iZ v1), .int (iZ v2)] σ (fun r σ' => o σ v1 v2 r σ')
theorem m_X5_letter {l : Launch} {L : Nat → Nat} {c : Nat → ClassId} {σ : MS} {v1 v2 : Int} {post : Int → MS → Prop} (h : ∀ K : KT, K.l = l → C_X5_letter K L c post → P_X5_letter_0 K L c σ v1 v2) : xMet l yX5_letter wsX5_letter rm_X5_letter (MW L c [] []) rkI [.ref (L 0), .int (iZ v1), .int (iZ v2)] σ post :=
  xMet.of (maxL := 3) (by decide +kernel) rfl (Nat.le_of_ble_eq_true rfl) (fun K h1 h2 h3 h4 _ => h K h1 ⟨h2, h4, h3⟩)

/-! X5_addScribe -/
abbrev rm_X5_addScribe : Room := { frames := 1, cells := 0, slots := 0, locals := 21 }
theorem inX5_addScribe : ∀ w ∈ wsX50, w ∈ wsX5_addScribe := by decide +kernel
theorem lk_X5_addScribe_f47 : Cond.fieldLink RX5 47 "CopyHouseModel" "thrown" "I" ∈ wsX5_addScribe := List.mem_of_getElem? (i := 1) (by decide +kernel)
theorem lk_X5_addScribe_f58 : Cond.fieldLink RX5 58 "CopyHouseModel" "scribes" "I" ∈ wsX5_addScribe := List.mem_of_getElem? (i := 2) (by decide +kernel)
def C_X5_addScribe (K : KT) (L : Nat → Nat) (c : Nat → ClassId) (post : Int → MS → Prop) : Prop := kOK K cX5_addScribe RX5 wsX5_addScribe (some .int) rm_X5_addScribe ∧ K.nL = 1 ∧ kQ K (MW L c [] []) rkI post rm_X5_addScribe
def P_X5_addScribe_0 (K : KT) (L : Nat → Nat) (c : Nat → ClassId) (σ : MS) : Prop := G K (MW L c [] [] σ) (0, 0) [(0, .ref (L 0))] 0 []
set_option maxRecDepth 100000 in
set_option maxHeartbeats 4000000 in
theorem b_X5_addScribe_0 {K : KT} {L : Nat → Nat} {c : Nat → ClassId} {post : Int → MS → Prop} (C : C_X5_addScribe K L c post) {p_no : MS → Int → Prop} {u_no : MS → Int → MS} (h_no : H_X5_no p_no u_no) {σ : MS} (h : (-2147483648 ≤ (σ 9 0) ∧ (σ 9 0) < 2147483648) ∧ ((¬ (σ 9 0) = 8 → post (((σ 9 0) + 1) - 1) (upM (upM σ 0 (fun _ => 0)) 9 (fun _ => (σ 9 0) + 1))) ∧ ((σ 9 0) = 8 → (p_no (upM σ 0 (fun _ => 0)) 1) ∧ post 0 ((u_no (upM σ 0 (fun _ => 0)) 1))))) : P_X5_addScribe_0 K L c σ := by
  refine g_aload_n C.1 0 dX5_addScribe_0 rfl rfl ?_
  refine g_iconst C.1 (z := 0) dX5_addScribe_1 ?_
  refine m_put C.1 inX5_addScribe 0 (by decide) (z := 0) (σ' := upM σ 0 (fun _ => 0)) rfl lk_X5_addScribe_f47 rfl rfl rfl dX5_addScribe_2 ?_
  refine g_aload_n C.1 0 dX5_addScribe_5 rfl rfl ?_
  refine m_get C.1 inX5_addScribe 9 (by decide) (v := .int (iZ (σ 9 0))) rfl lk_X5_addScribe_f58 rfl dX5_addScribe_6 ?_
  refine g_bipush C.1 (z := 8) dX5_addScribe_9 (by decide) ?_
  obtain ⟨hc1, h⟩ := h
  refine g_icmp_ne C.1 (tgt := 20) dX5_addScribe_11 (by decide) hc1 (by decide) (fun hc => ?_) (fun hc => ?_)
  · have h := h.1 hc
    refine g_aload_n C.1 0 dX5_addScribe_20 rfl rfl ?_
    refine g_dup C.1 rfl dX5_addScribe_21 ?_
    refine m_get C.1 inX5_addScribe 9 (by decide) (v := .int (iZ (σ 9 0))) rfl lk_X5_addScribe_f58 rfl dX5_addScribe_22 ?_
    refine g_iconst C.1 (z := 1) dX5_addScribe_25 ?_
    refine g_iadd C.1 (x := σ 9 0) (y := 1) dX5_addScribe_26 ?_
    refine m_put C.1 inX5_addScribe 9 (by decide) (z := (σ 9 0) + 1) (σ' := upM (upM σ 0 (fun _ => 0)) 9 (fun _ => (σ 9 0) + 1)) rfl lk_X5_addScribe_f58 rfl rfl rfl dX5_addScribe_27 ?_
    refine g_aload_n C.1 0 dX5_addScribe_30 rfl rfl ?_
    refine m_get C.1 inX5_addScribe 9 (by decide) (v := .int (iZ ((σ 9 0) + 1))) rfl lk_X5_addScribe_f58 rfl dX5_addScribe_31 ?_
    refine g_iconst C.1 (z := 1) dX5_addScribe_34 ?_
    refine g_isub C.1 (x := (σ 9 0) + 1) (y := 1) dX5_addScribe_35 ?_
    exact x_iret C.1 C.2.2 rfl ⟨Nat.le_of_ble_eq_true rfl, Nat.le_of_ble_eq_true rfl⟩ dX5_addScribe_36 h
  · have h := h.2 hc
    refine g_aload_n C.1 0 dX5_addScribe_14 rfl rfl ?_
    refine g_iconst C.1 (z := 1) dX5_addScribe_15 ?_
    obtain ⟨hp2, h⟩ := h
    refine x_callV C.1 (h_no K.l L c (upM σ 0 (fun _ => 0)) 1 hp2) (ci := 6) (q := (RX5, TX5, 17)) rfl m_recv (fun ht => cwV 1 ht gX5_addScribe_X5_no rfl rfl rfl (by decide +kernel) ⟨Nat.le_of_ble_eq_true rfl, Nat.le_of_ble_eq_true rfl⟩) rfl rfl (Nat.le_of_ble_eq_true rfl) ⟨Nat.le_of_ble_eq_true rfl, Nat.le_of_ble_eq_true rfl⟩ dX5_addScribe_16 (fun r σ9 hq => ?_)
    rw [hq.1, hq.2]
    show G K (MW L c [] [] ((u_no (upM σ 0 (fun _ => 0)) 1))) (0, 0) [(0, .ref (L 0))] 19 [.int (iZ 0)]
    exact x_iret C.1 C.2.2 rfl ⟨Nat.le_of_ble_eq_true rfl, Nat.le_of_ble_eq_true rfl⟩ dX5_addScribe_19 h
def H_X5_addScribe (p : MS → Prop) (o : MS → Int → MS → Prop) : Prop := ∀ (l : Launch) (L : Nat → Nat) (c : Nat → ClassId) (σ : MS), p σ → xMet l yX5_addScribe wsX5_addScribe rm_X5_addScribe (MW L c [] []) rkI [.ref (L 0)] σ (fun r σ' => o σ r σ')
theorem m_X5_addScribe {l : Launch} {L : Nat → Nat} {c : Nat → ClassId} {σ : MS} {post : Int → MS → Prop} (h : ∀ K : KT, K.l = l → C_X5_addScribe K L c post → P_X5_addScribe_0 K L c σ) : xMet l yX5_addScribe wsX5_addScribe rm_X5_addScribe (MW L c [] []) rkI [.ref (L 0)] σ post :=
  xMet.of (maxL := 1) (by decide +kernel) rfl (Nat.le_of_ble_eq_true rfl) (fun K h1 h2 h3 h4 _ => h K h1 ⟨h2, h4, h3⟩)

/-! X5_addHabit -/
abbrev rm_X5_addHabit : Room := { frames := 2, cells := 1, slots := 4, locals := 60 }
theorem inX5_addHabit : ∀ w ∈ wsX50, w ∈ wsX5_addHabit := by decide +kernel
theorem lk_X5_addHabit_f47 : Cond.fieldLink RX5 47 "CopyHouseModel" "thrown" "I" ∈ wsX5_addHabit := List.mem_of_getElem? (i := 1) (by decide +kernel)
theorem lk_X5_addHabit_f29 : Cond.fieldLink RX5 29 "CopyHouseModel" "habits" "[I" ∈ wsX5_addHabit := List.mem_of_getElem? (i := 2) (by decide +kernel)
theorem lk_X5_addHabit_newa : Cond.arrayClass .int ∈ wsX5_addHabit := List.mem_of_getElem? (i := 3) (by decide +kernel)
theorem lk_X5_addHabit_f32 : Cond.fieldLink RX5 32 "CopyHouseModel" "habit" "[I" ∈ wsX5_addHabit := List.mem_of_getElem? (i := 4) (by decide +kernel)
theorem lk_X5_addHabit_ac68 : Cond.methodLink RX5 68 arraycopyName ∈ wsX5_addHabit := List.mem_of_getElem? (i := 5) (by decide +kernel)
theorem lk_X5_addHabit_acn : Cond.native arraycopyName ∈ wsX5_addHabit := List.mem_of_getElem? (i := 6) (by decide +kernel)
theorem lk_X5_addHabit_acs : Cond.static arraycopyName ∈ wsX5_addHabit := List.mem_of_getElem? (i := 7) (by decide +kernel)
theorem lk_X5_addHabit_aci : Cond.initialized "java/lang/System" ∈ wsX5_addHabit := List.mem_of_getElem? (i := 8) (by decide +kernel)
def C_X5_addHabit (K : KT) (L : Nat → Nat) (c : Nat → ClassId) (post : Int → MS → Prop) : Prop := kOK K cX5_addHabit RX5 wsX5_addHabit (some .int) rm_X5_addHabit ∧ K.nL = 7 ∧ kQ K (MW L c [] []) rkI post rm_X5_addHabit
def P_X5_addHabit_0 (K : KT) (L : Nat → Nat) (c : Nat → ClassId) (σ : MS) (v1 v2 v3 v4 v5 : Int) : Prop := G K (MW L c [] [] σ) (0, 0) [(0, .ref (L 0)), (1, .int (iZ v1)), (2, .int (iZ v2)), (3, .int (iZ v3)), (4, .int (iZ v4)), (5, .int (iZ v5))] 0 []
set_option maxRecDepth 100000 in
set_option maxHeartbeats 4000000 in
theorem b_X5_addHabit_0 {K : KT} {L : Nat → Nat} {c : Nat → ClassId} {post : Int → MS → Prop} (C : C_X5_addHabit K L c post) {p_isScribe : MS → Int → Prop} {f_isScribe : MS → Int → Bool} (h_isScribe : H_X5_isScribe p_isScribe f_isScribe) {p_isIn : MS → Int → Int → Int → Prop} {f_isIn : MS → Int → Int → Int → Bool} (h_isIn : H_X5_isIn p_isIn f_isIn) {p_no : MS → Int → Prop} {u_no : MS → Int → MS} (h_no : H_X5_no p_no u_no) {σ : MS} {v1 v2 v3 v4 v5 : Int} (h : (p_isScribe (upM σ 0 (fun _ => 0)) v1) ∧ ((f_isScribe (upM σ 0 (fun _ => 0)) v1 = true → (p_isIn (upM σ 0 (fun _ => 0)) v2 0 4) ∧ ((¬ (f_isIn (upM σ 0 (fun _ => 0)) v2 0 4 = true) → (p_no (upM σ 0 (fun _ => 0)) 2) ∧ post 0 ((u_no (upM σ 0 (fun _ => 0)) 2))) ∧ (f_isIn (upM σ 0 (fun _ => 0)) v2 0 4 = true → (p_isIn (upM σ 0 (fun _ => 0)) v3 0 25) ∧ ((¬ (f_isIn (upM σ 0 (fun _ => 0)) v3 0 25 = true) → (p_no (upM σ 0 (fun _ => 0)) 2) ∧ post 0 ((u_no (upM σ 0 (fun _ => 0)) 2))) ∧ (f_isIn (upM σ 0 (fun _ => 0)) v3 0 25 = true → (p_isIn (upM σ 0 (fun _ => 0)) v4 0 25) ∧ ((¬ (f_isIn (upM σ 0 (fun _ => 0)) v4 0 25 = true) → (p_no (upM σ 0 (fun _ => 0)) 2) ∧ post 0 ((u_no (upM σ 0 (fun _ => 0)) 2))) ∧ (f_isIn (upM σ 0 (fun _ => 0)) v4 0 25 = true → (p_isIn (upM σ 0 (fun _ => 0)) v5 1 9) ∧ ((f_isIn (upM σ 0 (fun _ => 0)) v5 1 9 = true → (0 ≤ v1 ∧ v1 < 8) ∧ (-2147483648 ≤ ((σ 10) v1) ∧ ((σ 10) v1) < 2147483648) ∧ ((¬ ((σ 10) v1) = 5 → ∀ (q : Nat) (cq : ClassId), ((0 : Int) ≤ 0 ∧ (0 : Int) ≤ (4 * ((5 * v1) + ((σ 10) v1))) ∧ (0 : Int) ≤ 4 ∧ 0 + 4 ≤ (4 : Int) ∧ (4 * ((5 * v1) + ((σ 10) v1))) + 4 ≤ (160 : Int)) ∧ post ((upI (σ 10) v1 (((σ 10) v1) + 1)) v1) (upM (upM (upM σ 0 (fun _ => 0)) 11 (cpI (upI (upI (upI (upI ((fun _ => 0)) 0 v2) 1 v3) 2 v4) 3 v5) (σ 11) 0 (4 * ((5 * v1) + ((σ 10) v1))) 4)) 10 (upI (σ 10) v1 (((σ 10) v1) + 1)))) ∧ (((σ 10) v1) = 5 → (p_no (upM σ 0 (fun _ => 0)) 3) ∧ post 0 ((u_no (upM σ 0 (fun _ => 0)) 3))))) ∧ (¬ (f_isIn (upM σ 0 (fun _ => 0)) v5 1 9 = true) → (p_no (upM σ 0 (fun _ => 0)) 2) ∧ post 0 ((u_no (upM σ 0 (fun _ => 0)) 2))))))))))) ∧ (¬ (f_isScribe (upM σ 0 (fun _ => 0)) v1 = true) → (p_no (upM σ 0 (fun _ => 0)) 1) ∧ post 0 ((u_no (upM σ 0 (fun _ => 0)) 1))))) : P_X5_addHabit_0 K L c σ v1 v2 v3 v4 v5 := by
  refine g_aload_n C.1 0 dX5_addHabit_0 rfl rfl ?_
  refine g_iconst C.1 (z := 0) dX5_addHabit_1 ?_
  refine m_put C.1 inX5_addHabit 0 (by decide) (z := 0) (σ' := upM σ 0 (fun _ => 0)) rfl lk_X5_addHabit_f47 rfl rfl rfl dX5_addHabit_2 ?_
  refine g_aload_n C.1 0 dX5_addHabit_5 rfl rfl ?_
  refine g_iload_n C.1 1 dX5_addHabit_6 rfl rfl ?_
  obtain ⟨hp1, h⟩ := h
  refine x_callV C.1 (h_isScribe K.l L c (upM σ 0 (fun _ => 0)) v1 hp1) (ci := 6) (q := (RX5, TX5, 17)) rfl m_recv (fun ht => cwV 1 ht gX5_addHabit_X5_isScribe rfl rfl rfl (by decide +kernel) ⟨Nat.le_of_ble_eq_true rfl, Nat.le_of_ble_eq_true rfl⟩) rfl rfl (Nat.le_of_ble_eq_true rfl) ⟨Nat.le_of_ble_eq_true rfl, Nat.le_of_ble_eq_true rfl⟩ dX5_addHabit_7 (fun r σ9 hq => ?_)
  rw [hq.1, hq.2]
  show G K (MW L c [] [] (upM σ 0 (fun _ => 0))) (0, 0) [(0, .ref (L 0)), (1, .int (iZ v1)), (2, .int (iZ v2)), (3, .int (iZ v3)), (4, .int (iZ v4)), (5, .int (iZ v5))] 10 [.int (iZ (if f_isScribe (upM σ 0 (fun _ => 0)) v1 = true then 1 else 0))]
  refine g_ifb_ne C.1 (tgt := 19) dX5_addHabit_10 (by decide) (fun hc => ?_) (fun hc => ?_)
  · have h := h.1 hc
    refine g_iload_n C.1 2 dX5_addHabit_19 rfl rfl ?_
    refine g_iconst C.1 (z := 0) dX5_addHabit_20 ?_
    refine g_iconst C.1 (z := 4) dX5_addHabit_21 ?_
    obtain ⟨hp2, h⟩ := h
    refine x_callS C.1 (h_isIn K.l L c (upM σ 0 (fun _ => 0)) v2 0 4 hp2) (fun ht => va_cwS 3 ht gX5_addHabit_X5_isIn rfl rfl rfl (by decide +kernel) ⟨Nat.le_of_ble_eq_true rfl, Nat.le_of_ble_eq_true rfl⟩) rfl rfl (Nat.le_of_ble_eq_true rfl) ⟨Nat.le_of_ble_eq_true rfl, Nat.le_of_ble_eq_true rfl⟩ dX5_addHabit_22 (fun r σ9 hq => ?_)
    rw [hq.1, hq.2]
    show G K (MW L c [] [] (upM σ 0 (fun _ => 0))) (0, 0) [(0, .ref (L 0)), (1, .int (iZ v1)), (2, .int (iZ v2)), (3, .int (iZ v3)), (4, .int (iZ v4)), (5, .int (iZ v5))] 25 [.int (iZ (if f_isIn (upM σ 0 (fun _ => 0)) v2 0 4 = true then 1 else 0))]
    refine g_ifb_eq C.1 (tgt := 60) dX5_addHabit_25 (by decide) (fun hc => ?_) (fun hc => ?_)
    · have h := h.1 hc
      refine g_aload_n C.1 0 dX5_addHabit_60 rfl rfl ?_
      refine g_iconst C.1 (z := 2) dX5_addHabit_61 ?_
      obtain ⟨hp3, h⟩ := h
      refine x_callV C.1 (h_no K.l L c (upM σ 0 (fun _ => 0)) 2 hp3) (ci := 6) (q := (RX5, TX5, 17)) rfl m_recv (fun ht => cwV 1 ht gX5_addHabit_X5_no rfl rfl rfl (by decide +kernel) ⟨Nat.le_of_ble_eq_true rfl, Nat.le_of_ble_eq_true rfl⟩) rfl rfl (Nat.le_of_ble_eq_true rfl) ⟨Nat.le_of_ble_eq_true rfl, Nat.le_of_ble_eq_true rfl⟩ dX5_addHabit_62 (fun r σ9 hq => ?_)
      rw [hq.1, hq.2]
      show G K (MW L c [] [] ((u_no (upM σ 0 (fun _ => 0)) 2))) (0, 0) [(0, .ref (L 0)), (1, .int (iZ v1)), (2, .int (iZ v2)), (3, .int (iZ v3)), (4, .int (iZ v4)), (5, .int (iZ v5))] 65 [.int (iZ 0)]
      exact x_iret C.1 C.2.2 rfl ⟨Nat.le_of_ble_eq_true rfl, Nat.le_of_ble_eq_true rfl⟩ dX5_addHabit_65 h
    · have h := h.2 hc
      refine g_iload_n C.1 3 dX5_addHabit_28 rfl rfl ?_
      refine g_iconst C.1 (z := 0) dX5_addHabit_29 ?_
      refine g_bipush C.1 (z := 25) dX5_addHabit_30 (by decide) ?_
      obtain ⟨hp4, h⟩ := h
      refine x_callS C.1 (h_isIn K.l L c (upM σ 0 (fun _ => 0)) v3 0 25 hp4) (fun ht => va_cwS 3 ht gX5_addHabit_X5_isIn rfl rfl rfl (by decide +kernel) ⟨Nat.le_of_ble_eq_true rfl, Nat.le_of_ble_eq_true rfl⟩) rfl rfl (Nat.le_of_ble_eq_true rfl) ⟨Nat.le_of_ble_eq_true rfl, Nat.le_of_ble_eq_true rfl⟩ dX5_addHabit_32 (fun r σ9 hq => ?_)
      rw [hq.1, hq.2]
      show G K (MW L c [] [] (upM σ 0 (fun _ => 0))) (0, 0) [(0, .ref (L 0)), (1, .int (iZ v1)), (2, .int (iZ v2)), (3, .int (iZ v3)), (4, .int (iZ v4)), (5, .int (iZ v5))] 35 [.int (iZ (if f_isIn (upM σ 0 (fun _ => 0)) v3 0 25 = true then 1 else 0))]
      refine g_ifb_eq C.1 (tgt := 60) dX5_addHabit_35 (by decide) (fun hc => ?_) (fun hc => ?_)
      · have h := h.1 hc
        refine g_aload_n C.1 0 dX5_addHabit_60 rfl rfl ?_
        refine g_iconst C.1 (z := 2) dX5_addHabit_61 ?_
        obtain ⟨hp5, h⟩ := h
        refine x_callV C.1 (h_no K.l L c (upM σ 0 (fun _ => 0)) 2 hp5) (ci := 6) (q := (RX5, TX5, 17)) rfl m_recv (fun ht => cwV 1 ht gX5_addHabit_X5_no rfl rfl rfl (by decide +kernel) ⟨Nat.le_of_ble_eq_true rfl, Nat.le_of_ble_eq_true rfl⟩) rfl rfl (Nat.le_of_ble_eq_true rfl) ⟨Nat.le_of_ble_eq_true rfl, Nat.le_of_ble_eq_true rfl⟩ dX5_addHabit_62 (fun r σ9 hq => ?_)
        rw [hq.1, hq.2]
        show G K (MW L c [] [] ((u_no (upM σ 0 (fun _ => 0)) 2))) (0, 0) [(0, .ref (L 0)), (1, .int (iZ v1)), (2, .int (iZ v2)), (3, .int (iZ v3)), (4, .int (iZ v4)), (5, .int (iZ v5))] 65 [.int (iZ 0)]
        exact x_iret C.1 C.2.2 rfl ⟨Nat.le_of_ble_eq_true rfl, Nat.le_of_ble_eq_true rfl⟩ dX5_addHabit_65 h
      · have h := h.2 hc
        refine g_iload C.1 4 dX5_addHabit_38 rfl ?_
        refine g_iconst C.1 (z := 0) dX5_addHabit_40 ?_
        refine g_bipush C.1 (z := 25) dX5_addHabit_41 (by decide) ?_
        obtain ⟨hp6, h⟩ := h
        refine x_callS C.1 (h_isIn K.l L c (upM σ 0 (fun _ => 0)) v4 0 25 hp6) (fun ht => va_cwS 3 ht gX5_addHabit_X5_isIn rfl rfl rfl (by decide +kernel) ⟨Nat.le_of_ble_eq_true rfl, Nat.le_of_ble_eq_true rfl⟩) rfl rfl (Nat.le_of_ble_eq_true rfl) ⟨Nat.le_of_ble_eq_true rfl, Nat.le_of_ble_eq_true rfl⟩ dX5_addHabit_43 (fun r σ9 hq => ?_)
        rw [hq.1, hq.2]
        show G K (MW L c [] [] (upM σ 0 (fun _ => 0))) (0, 0) [(0, .ref (L 0)), (1, .int (iZ v1)), (2, .int (iZ v2)), (3, .int (iZ v3)), (4, .int (iZ v4)), (5, .int (iZ v5))] 46 [.int (iZ (if f_isIn (upM σ 0 (fun _ => 0)) v4 0 25 = true then 1 else 0))]
        refine g_ifb_eq C.1 (tgt := 60) dX5_addHabit_46 (by decide) (fun hc => ?_) (fun hc => ?_)
        · have h := h.1 hc
          refine g_aload_n C.1 0 dX5_addHabit_60 rfl rfl ?_
          refine g_iconst C.1 (z := 2) dX5_addHabit_61 ?_
          obtain ⟨hp7, h⟩ := h
          refine x_callV C.1 (h_no K.l L c (upM σ 0 (fun _ => 0)) 2 hp7) (ci := 6) (q := (RX5, TX5, 17)) rfl m_recv (fun ht => cwV 1 ht gX5_addHabit_X5_no rfl rfl rfl (by decide +kernel) ⟨Nat.le_of_ble_eq_true rfl, Nat.le_of_ble_eq_true rfl⟩) rfl rfl (Nat.le_of_ble_eq_true rfl) ⟨Nat.le_of_ble_eq_true rfl, Nat.le_of_ble_eq_true rfl⟩ dX5_addHabit_62 (fun r σ9 hq => ?_)
          rw [hq.1, hq.2]
          show G K (MW L c [] [] ((u_no (upM σ 0 (fun _ => 0)) 2))) (0, 0) [(0, .ref (L 0)), (1, .int (iZ v1)), (2, .int (iZ v2)), (3, .int (iZ v3)), (4, .int (iZ v4)), (5, .int (iZ v5))] 65 [.int (iZ 0)]
          exact x_iret C.1 C.2.2 rfl ⟨Nat.le_of_ble_eq_true rfl, Nat.le_of_ble_eq_true rfl⟩ dX5_addHabit_65 h
        · have h := h.2 hc
          refine g_iload C.1 5 dX5_addHabit_49 rfl ?_
          refine g_iconst C.1 (z := 1) dX5_addHabit_51 ?_
          refine g_bipush C.1 (z := 9) dX5_addHabit_52 (by decide) ?_
          obtain ⟨hp8, h⟩ := h
          refine x_callS C.1 (h_isIn K.l L c (upM σ 0 (fun _ => 0)) v5 1 9 hp8) (fun ht => va_cwS 3 ht gX5_addHabit_X5_isIn rfl rfl rfl (by decide +kernel) ⟨Nat.le_of_ble_eq_true rfl, Nat.le_of_ble_eq_true rfl⟩) rfl rfl (Nat.le_of_ble_eq_true rfl) ⟨Nat.le_of_ble_eq_true rfl, Nat.le_of_ble_eq_true rfl⟩ dX5_addHabit_54 (fun r σ9 hq => ?_)
          rw [hq.1, hq.2]
          show G K (MW L c [] [] (upM σ 0 (fun _ => 0))) (0, 0) [(0, .ref (L 0)), (1, .int (iZ v1)), (2, .int (iZ v2)), (3, .int (iZ v3)), (4, .int (iZ v4)), (5, .int (iZ v5))] 57 [.int (iZ (if f_isIn (upM σ 0 (fun _ => 0)) v5 1 9 = true then 1 else 0))]
          refine g_ifb_ne C.1 (tgt := 66) dX5_addHabit_57 (by decide) (fun hc => ?_) (fun hc => ?_)
          · have h := h.1 hc
            refine g_aload_n C.1 0 dX5_addHabit_66 rfl rfl ?_
            refine m_get C.1 inX5_addHabit 10 (by decide) (v := .ref (L 10)) rfl lk_X5_addHabit_f29 rfl dX5_addHabit_67 ?_
            refine g_iload_n C.1 1 dX5_addHabit_70 rfl rfl ?_
            obtain ⟨hi9, h⟩ := h
            refine m_ald C.1 7 6 (N := 8) (f := (σ 10)) (e := v1) rfl rfl (by decide) hi9 dX5_addHabit_71 ?_
            refine g_iconst C.1 (z := 5) dX5_addHabit_72 ?_
            obtain ⟨hc10, h⟩ := h
            refine g_icmp_ne C.1 (tgt := 82) dX5_addHabit_73 (by decide) hc10 (by decide) (fun hc => ?_) (fun hc => ?_)
            · have h := h.1 hc
              refine g_iconst C.1 (z := 4) dX5_addHabit_82 ?_
              refine m_newa C.1 (N := 4) (by decide) lk_X5_addHabit_newa (by decide) dX5_addHabit_83 (fun q cq => ?_)
              have h := h q cq
              refine g_dup C.1 rfl dX5_addHabit_85 ?_
              refine g_iconst C.1 (z := 0) dX5_addHabit_86 ?_
              refine g_iload_n C.1 2 dX5_addHabit_87 rfl rfl ?_
              refine m_ast C.1 13 12 (N := 4) (f := ((fun _ => 0))) (e := 0) (z := v2) (X' := [(q, .inl (cq, 4, .inl (fA (upI ((fun _ => 0)) 0 v2))))]) (σ' := upM σ 0 (fun _ => 0)) rfl rfl rfl (by decide) (by decide) dX5_addHabit_88 ?_
              refine g_dup C.1 rfl dX5_addHabit_89 ?_
              refine g_iconst C.1 (z := 1) dX5_addHabit_90 ?_
              refine g_iload_n C.1 3 dX5_addHabit_91 rfl rfl ?_
              refine m_ast C.1 13 12 (N := 4) (f := (upI ((fun _ => 0)) 0 v2)) (e := 1) (z := v3) (X' := [(q, .inl (cq, 4, .inl (fA (upI (upI ((fun _ => 0)) 0 v2) 1 v3))))]) (σ' := upM σ 0 (fun _ => 0)) rfl rfl rfl (by decide) (by decide) dX5_addHabit_92 ?_
              refine g_dup C.1 rfl dX5_addHabit_93 ?_
              refine g_iconst C.1 (z := 2) dX5_addHabit_94 ?_
              refine g_iload C.1 4 dX5_addHabit_95 rfl ?_
              refine m_ast C.1 13 12 (N := 4) (f := (upI (upI ((fun _ => 0)) 0 v2) 1 v3)) (e := 2) (z := v4) (X' := [(q, .inl (cq, 4, .inl (fA (upI (upI (upI ((fun _ => 0)) 0 v2) 1 v3) 2 v4))))]) (σ' := upM σ 0 (fun _ => 0)) rfl rfl rfl (by decide) (by decide) dX5_addHabit_97 ?_
              refine g_dup C.1 rfl dX5_addHabit_98 ?_
              refine g_iconst C.1 (z := 3) dX5_addHabit_99 ?_
              refine g_iload C.1 5 dX5_addHabit_100 rfl ?_
              refine m_ast C.1 13 12 (N := 4) (f := (upI (upI (upI ((fun _ => 0)) 0 v2) 1 v3) 2 v4)) (e := 3) (z := v5) (X' := [(q, .inl (cq, 4, .inl (fA (upI (upI (upI (upI ((fun _ => 0)) 0 v2) 1 v3) 2 v4) 3 v5))))]) (σ' := upM σ 0 (fun _ => 0)) rfl rfl rfl (by decide) (by decide) dX5_addHabit_102 ?_
              refine g_astore C.1 (loc' := [(6, .ref q), (0, .ref (L 0)), (1, .int (iZ v1)), (2, .int (iZ v2)), (3, .int (iZ v3)), (4, .int (iZ v4)), (5, .int (iZ v5))]) C.2.1 dX5_addHabit_103 (by decide) rfl ?_
              refine g_aload C.1 0 dX5_addHabit_105 rfl ?_
              refine g_iconst C.1 (z := 0) dX5_addHabit_107 ?_
              refine g_aload_n C.1 1 dX5_addHabit_108 rfl rfl ?_
              refine m_get C.1 inX5_addHabit 11 (by decide) (v := .ref (L 11)) rfl lk_X5_addHabit_f32 rfl dX5_addHabit_109 ?_
              refine g_iconst C.1 (z := 4) dX5_addHabit_112 ?_
              refine g_iconst C.1 (z := 5) dX5_addHabit_113 ?_
              refine g_iload_n C.1 2 dX5_addHabit_114 rfl rfl ?_
              refine g_imul C.1 (x := 5) (y := v1) dX5_addHabit_115 ?_
              refine g_aload_n C.1 1 dX5_addHabit_116 rfl rfl ?_
              refine m_get C.1 inX5_addHabit 10 (by decide) (v := .ref (L 10)) rfl lk_X5_addHabit_f29 rfl dX5_addHabit_117 ?_
              refine g_iload_n C.1 2 dX5_addHabit_120 rfl rfl ?_
              refine m_ald C.1 7 6 (N := 8) (f := (σ 10)) (e := v1) rfl rfl (by decide) hi9 dX5_addHabit_121 ?_
              refine g_iadd C.1 (x := 5 * v1) (y := (σ 10) v1) dX5_addHabit_122 ?_
              refine g_imul C.1 (x := 4) (y := (5 * v1) + ((σ 10) v1)) dX5_addHabit_123 ?_
              refine g_iconst C.1 (z := 4) dX5_addHabit_124 ?_
              obtain ⟨ha11, h⟩ := h
              refine m_copy C.1 13 8 12 7 (N0 := 4) (N1 := 160) (f := (upI (upI (upI (upI ((fun _ => 0)) 0 v2) 1 v3) 2 v4) 3 v5)) (g := (σ 11)) (sp := 0) (dp := 4 * ((5 * v1) + ((σ 10) v1))) (m := 4) (σ' := upM (upM σ 0 (fun _ => 0)) 11 (cpI (upI (upI (upI (upI ((fun _ => 0)) 0 v2) 1 v3) 2 v4) 3 v5) (σ 11) 0 (4 * ((5 * v1) + ((σ 10) v1))) 4)) (X' := [(q, .inl (cq, 4, .inl (fA (upI (upI (upI (upI ((fun _ => 0)) 0 v2) 1 v3) 2 v4) 3 v5))))]) rfl rfl rfl rfl rfl (by decide) ha11 lk_X5_addHabit_ac68 lk_X5_addHabit_acn lk_X5_addHabit_acs lk_X5_addHabit_aci (Nat.le_of_ble_eq_true rfl) (Nat.le_of_ble_eq_true (by decide +kernel)) dX5_addHabit_125 ?_
              refine g_aload_n C.1 1 dX5_addHabit_128 rfl rfl ?_
              refine m_get C.1 inX5_addHabit 10 (by decide) (v := .ref (L 10)) rfl lk_X5_addHabit_f29 rfl dX5_addHabit_129 ?_
              refine g_iload_n C.1 2 dX5_addHabit_132 rfl rfl ?_
              refine g_dup2 C.1 rfl rfl dX5_addHabit_133 ?_
              refine m_ald C.1 7 6 (N := 8) (f := (σ 10)) (e := v1) rfl rfl (by decide) hi9 dX5_addHabit_134 ?_
              refine g_iconst C.1 (z := 1) dX5_addHabit_135 ?_
              refine g_iadd C.1 (x := (σ 10) v1) (y := 1) dX5_addHabit_136 ?_
              refine m_ast C.1 7 6 (N := 8) (f := (σ 10)) (e := v1) (z := ((σ 10) v1) + 1) (X' := [(q, .inl (cq, 4, .inl (fA (upI (upI (upI (upI ((fun _ => 0)) 0 v2) 1 v3) 2 v4) 3 v5))))]) (σ' := upM (upM (upM σ 0 (fun _ => 0)) 11 (cpI (upI (upI (upI (upI ((fun _ => 0)) 0 v2) 1 v3) 2 v4) 3 v5) (σ 11) 0 (4 * ((5 * v1) + ((σ 10) v1))) 4)) 10 (upI (σ 10) v1 (((σ 10) v1) + 1))) rfl rfl rfl (by decide) hi9 dX5_addHabit_137 ?_
              refine g_aload_n C.1 1 dX5_addHabit_138 rfl rfl ?_
              refine m_get C.1 inX5_addHabit 10 (by decide) (v := .ref (L 10)) rfl lk_X5_addHabit_f29 rfl dX5_addHabit_139 ?_
              refine g_iload_n C.1 2 dX5_addHabit_142 rfl rfl ?_
              refine m_ald C.1 7 6 (N := 8) (f := (upI (σ 10) v1 (((σ 10) v1) + 1))) (e := v1) rfl rfl (by decide) hi9 dX5_addHabit_143 ?_
              refine m_drop ?_
              exact x_iret C.1 C.2.2 rfl ⟨Nat.le_of_ble_eq_true rfl, Nat.le_of_ble_eq_true rfl⟩ dX5_addHabit_144 h
            · have h := h.2 hc
              refine g_aload_n C.1 0 dX5_addHabit_76 rfl rfl ?_
              refine g_iconst C.1 (z := 3) dX5_addHabit_77 ?_
              obtain ⟨hp12, h⟩ := h
              refine x_callV C.1 (h_no K.l L c (upM σ 0 (fun _ => 0)) 3 hp12) (ci := 6) (q := (RX5, TX5, 17)) rfl m_recv (fun ht => cwV 1 ht gX5_addHabit_X5_no rfl rfl rfl (by decide +kernel) ⟨Nat.le_of_ble_eq_true rfl, Nat.le_of_ble_eq_true rfl⟩) rfl rfl (Nat.le_of_ble_eq_true rfl) ⟨Nat.le_of_ble_eq_true rfl, Nat.le_of_ble_eq_true rfl⟩ dX5_addHabit_78 (fun r σ9 hq => ?_)
              rw [hq.1, hq.2]
              show G K (MW L c [] [] ((u_no (upM σ 0 (fun _ => 0)) 3))) (0, 0) [(0, .ref (L 0)), (1, .int (iZ v1)), (2, .int (iZ v2)), (3, .int (iZ v3)), (4, .int (iZ v4)), (5, .int (iZ v5))] 81 [.int (iZ 0)]
              exact x_iret C.1 C.2.2 rfl ⟨Nat.le_of_ble_eq_true rfl, Nat.le_of_ble_eq_true rfl⟩ dX5_addHabit_81 h
          · have h := h.2 hc
            refine g_aload_n C.1 0 dX5_addHabit_60 rfl rfl ?_
            refine g_iconst C.1 (z := 2) dX5_addHabit_61 ?_
            obtain ⟨hp13, h⟩ := h
            refine x_callV C.1 (h_no K.l L c (upM σ 0 (fun _ => 0)) 2 hp13) (ci := 6) (q := (RX5, TX5, 17)) rfl m_recv (fun ht => cwV 1 ht gX5_addHabit_X5_no rfl rfl rfl (by decide +kernel) ⟨Nat.le_of_ble_eq_true rfl, Nat.le_of_ble_eq_true rfl⟩) rfl rfl (Nat.le_of_ble_eq_true rfl) ⟨Nat.le_of_ble_eq_true rfl, Nat.le_of_ble_eq_true rfl⟩ dX5_addHabit_62 (fun r σ9 hq => ?_)
            rw [hq.1, hq.2]
            show G K (MW L c [] [] ((u_no (upM σ 0 (fun _ => 0)) 2))) (0, 0) [(0, .ref (L 0)), (1, .int (iZ v1)), (2, .int (iZ v2)), (3, .int (iZ v3)), (4, .int (iZ v4)), (5, .int (iZ v5))] 65 [.int (iZ 0)]
            exact x_iret C.1 C.2.2 rfl ⟨Nat.le_of_ble_eq_true rfl, Nat.le_of_ble_eq_true rfl⟩ dX5_addHabit_65 h
  · have h := h.2 hc
    refine g_aload_n C.1 0 dX5_addHabit_13 rfl rfl ?_
    refine g_iconst C.1 (z := 1) dX5_addHabit_14 ?_
    obtain ⟨hp14, h⟩ := h
    refine x_callV C.1 (h_no K.l L c (upM σ 0 (fun _ => 0)) 1 hp14) (ci := 6) (q := (RX5, TX5, 17)) rfl m_recv (fun ht => cwV 1 ht gX5_addHabit_X5_no rfl rfl rfl (by decide +kernel) ⟨Nat.le_of_ble_eq_true rfl, Nat.le_of_ble_eq_true rfl⟩) rfl rfl (Nat.le_of_ble_eq_true rfl) ⟨Nat.le_of_ble_eq_true rfl, Nat.le_of_ble_eq_true rfl⟩ dX5_addHabit_15 (fun r σ9 hq => ?_)
    rw [hq.1, hq.2]
    show G K (MW L c [] [] ((u_no (upM σ 0 (fun _ => 0)) 1))) (0, 0) [(0, .ref (L 0)), (1, .int (iZ v1)), (2, .int (iZ v2)), (3, .int (iZ v3)), (4, .int (iZ v4)), (5, .int (iZ v5))] 18 [.int (iZ 0)]
    exact x_iret C.1 C.2.2 rfl ⟨Nat.le_of_ble_eq_true rfl, Nat.le_of_ble_eq_true rfl⟩ dX5_addHabit_18 h
def H_X5_addHabit (p : MS → Int → Int → Int → Int → Int → Prop) (o : MS → Int → Int → Int → Int → Int → Int → MS → Prop) : Prop := ∀ (l : Launch) (L : Nat → Nat) (c : Nat → ClassId) (σ : MS) (v1 v2 v3 v4 v5 : Int), p σ v1 v2 v3 v4 v5 → xMet l yX5_addHabit wsX5_addHabit rm_X5_addHabit (MW L c [] []) rkI [.ref (L 0), .int (iZ v1), .int (iZ v2), .int (iZ v3), .int (iZ v4), .int (iZ v5)] σ (fun r σ' => o σ v1 v2 v3 v4 v5 r σ')
theorem m_X5_addHabit {l : Launch} {L : Nat → Nat} {c : Nat → ClassId} {σ : MS} {v1 v2 v3 v4 v5 : Int} {post : Int → MS → Prop} (h : ∀ K : KT, K.l = l → C_X5_addHabit K L c post → P_X5_addHabit_0 K L c σ v1 v2 v3 v4 v5) : xMet l yX5_addHabit wsX5_addHabit rm_X5_addHabit (MW L c [] []) rkI [.ref (L 0), .int (iZ v1), .int (iZ v2), .int (iZ v3), .int (iZ v4), .int (iZ v5)] σ post :=
  xMet.of (maxL := 7) (by decide +kernel) rfl (Nat.le_of_ble_eq_true rfl) (fun K h1 h2 h3 h4 _ => h K h1 ⟨h2, h4, h3⟩)

/-! X5_dropHabit -/
abbrev rm_X5_dropHabit : Room := { frames := 2, cells := 0, slots := 0, locals := 43 }
theorem inX5_dropHabit : ∀ w ∈ wsX50, w ∈ wsX5_dropHabit := by decide +kernel
theorem lk_X5_dropHabit_f47 : Cond.fieldLink RX5 47 "CopyHouseModel" "thrown" "I" ∈ wsX5_dropHabit := List.mem_of_getElem? (i := 1) (by decide +kernel)
theorem lk_X5_dropHabit_f29 : Cond.fieldLink RX5 29 "CopyHouseModel" "habits" "[I" ∈ wsX5_dropHabit := List.mem_of_getElem? (i := 2) (by decide +kernel)
theorem lk_X5_dropHabit_f32 : Cond.fieldLink RX5 32 "CopyHouseModel" "habit" "[I" ∈ wsX5_dropHabit := List.mem_of_getElem? (i := 3) (by decide +kernel)
def C_X5_dropHabit (K : KT) (L : Nat → Nat) (c : Nat → ClassId) (post : Int → MS → Prop) : Prop := kOK K cX5_dropHabit RX5 wsX5_dropHabit (some .int) rm_X5_dropHabit ∧ K.nL = 4 ∧ kQ K (MW L c [] []) rkI post rm_X5_dropHabit
def P_X5_dropHabit_0 (K : KT) (L : Nat → Nat) (c : Nat → ClassId) (σ : MS) (v1 v2 : Int) : Prop := G K (MW L c [] [] σ) (0, 0) [(0, .ref (L 0)), (1, .int (iZ v1)), (2, .int (iZ v2))] 0 []
def P_X5_dropHabit_1 (K : KT) (L : Nat → Nat) (c : Nat → ClassId) (σ : MS) (v1 v3 : Int) : Prop := G K (MW L c [] [] σ) (0, 0) [(0, .ref (L 0)), (1, .int (iZ v1)), (3, .int (iZ v3))] 53 []
set_option maxRecDepth 100000 in
set_option maxHeartbeats 4000000 in
theorem b_X5_dropHabit_0 {K : KT} {L : Nat → Nat} {c : Nat → ClassId} {post : Int → MS → Prop} (C : C_X5_dropHabit K L c post) {p_isScribe : MS → Int → Prop} {f_isScribe : MS → Int → Bool} (h_isScribe : H_X5_isScribe p_isScribe f_isScribe) {p_no : MS → Int → Prop} {u_no : MS → Int → MS} (h_no : H_X5_no p_no u_no) {p_isIn : MS → Int → Int → Int → Prop} {f_isIn : MS → Int → Int → Int → Bool} (h_isIn : H_X5_isIn p_isIn f_isIn) {σ : MS} {v1 v2 : Int} (h : (p_isScribe (upM σ 0 (fun _ => 0)) v1) ∧ ((¬ (f_isScribe (upM σ 0 (fun _ => 0)) v1 = true) → (p_no (upM σ 0 (fun _ => 0)) 1) ∧ post 0 ((u_no (upM σ 0 (fun _ => 0)) 1))) ∧ (f_isScribe (upM σ 0 (fun _ => 0)) v1 = true → (0 ≤ v1 ∧ v1 < 8) ∧ (p_isIn (upM σ 0 (fun _ => 0)) v2 0 (((σ 10) v1) - 1)) ∧ ((f_isIn (upM σ 0 (fun _ => 0)) v2 0 (((σ 10) v1) - 1) = true → P_X5_dropHabit_1 K L c (upM (upM σ 0 (fun _ => 0)) 10 (upI (σ 10) v1 (((σ 10) v1) - 1))) v1 (4 * ((5 * v1) + v2))) ∧ (¬ (f_isIn (upM σ 0 (fun _ => 0)) v2 0 (((σ 10) v1) - 1) = true) → (p_no (upM σ 0 (fun _ => 0)) 1) ∧ post 0 ((u_no (upM σ 0 (fun _ => 0)) 1))))))) : P_X5_dropHabit_0 K L c σ v1 v2 := by
  refine g_aload_n C.1 0 dX5_dropHabit_0 rfl rfl ?_
  refine g_iconst C.1 (z := 0) dX5_dropHabit_1 ?_
  refine m_put C.1 inX5_dropHabit 0 (by decide) (z := 0) (σ' := upM σ 0 (fun _ => 0)) rfl lk_X5_dropHabit_f47 rfl rfl rfl dX5_dropHabit_2 ?_
  refine g_aload_n C.1 0 dX5_dropHabit_5 rfl rfl ?_
  refine g_iload_n C.1 1 dX5_dropHabit_6 rfl rfl ?_
  obtain ⟨hp1, h⟩ := h
  refine x_callV C.1 (h_isScribe K.l L c (upM σ 0 (fun _ => 0)) v1 hp1) (ci := 6) (q := (RX5, TX5, 17)) rfl m_recv (fun ht => cwV 1 ht gX5_dropHabit_X5_isScribe rfl rfl rfl (by decide +kernel) ⟨Nat.le_of_ble_eq_true rfl, Nat.le_of_ble_eq_true rfl⟩) rfl rfl (Nat.le_of_ble_eq_true rfl) ⟨Nat.le_of_ble_eq_true rfl, Nat.le_of_ble_eq_true rfl⟩ dX5_dropHabit_7 (fun r σ9 hq => ?_)
  rw [hq.1, hq.2]
  show G K (MW L c [] [] (upM σ 0 (fun _ => 0))) (0, 0) [(0, .ref (L 0)), (1, .int (iZ v1)), (2, .int (iZ v2))] 10 [.int (iZ (if f_isScribe (upM σ 0 (fun _ => 0)) v1 = true then 1 else 0))]
  refine g_ifb_eq C.1 (tgt := 29) dX5_dropHabit_10 (by decide) (fun hc => ?_) (fun hc => ?_)
  · have h := h.1 hc
    refine g_aload_n C.1 0 dX5_dropHabit_29 rfl rfl ?_
    refine g_iconst C.1 (z := 1) dX5_dropHabit_30 ?_
    obtain ⟨hp2, h⟩ := h
    refine x_callV C.1 (h_no K.l L c (upM σ 0 (fun _ => 0)) 1 hp2) (ci := 6) (q := (RX5, TX5, 17)) rfl m_recv (fun ht => cwV 1 ht gX5_dropHabit_X5_no rfl rfl rfl (by decide +kernel) ⟨Nat.le_of_ble_eq_true rfl, Nat.le_of_ble_eq_true rfl⟩) rfl rfl (Nat.le_of_ble_eq_true rfl) ⟨Nat.le_of_ble_eq_true rfl, Nat.le_of_ble_eq_true rfl⟩ dX5_dropHabit_31 (fun r σ9 hq => ?_)
    rw [hq.1, hq.2]
    show G K (MW L c [] [] ((u_no (upM σ 0 (fun _ => 0)) 1))) (0, 0) [(0, .ref (L 0)), (1, .int (iZ v1)), (2, .int (iZ v2))] 34 [.int (iZ 0)]
    exact x_iret C.1 C.2.2 rfl ⟨Nat.le_of_ble_eq_true rfl, Nat.le_of_ble_eq_true rfl⟩ dX5_dropHabit_34 h
  · have h := h.2 hc
    refine g_iload_n C.1 2 dX5_dropHabit_13 rfl rfl ?_
    refine g_iconst C.1 (z := 0) dX5_dropHabit_14 ?_
    refine g_aload_n C.1 0 dX5_dropHabit_15 rfl rfl ?_
    refine m_get C.1 inX5_dropHabit 10 (by decide) (v := .ref (L 10)) rfl lk_X5_dropHabit_f29 rfl dX5_dropHabit_16 ?_
    refine g_iload_n C.1 1 dX5_dropHabit_19 rfl rfl ?_
    obtain ⟨hi3, h⟩ := h
    refine m_ald C.1 7 6 (N := 8) (f := (σ 10)) (e := v1) rfl rfl (by decide) hi3 dX5_dropHabit_20 ?_
    refine g_iconst C.1 (z := 1) dX5_dropHabit_21 ?_
    refine g_isub C.1 (x := (σ 10) v1) (y := 1) dX5_dropHabit_22 ?_
    obtain ⟨hp4, h⟩ := h
    refine x_callS C.1 (h_isIn K.l L c (upM σ 0 (fun _ => 0)) v2 0 (((σ 10) v1) - 1) hp4) (fun ht => va_cwS 3 ht gX5_dropHabit_X5_isIn rfl rfl rfl (by decide +kernel) ⟨Nat.le_of_ble_eq_true rfl, Nat.le_of_ble_eq_true rfl⟩) rfl rfl (Nat.le_of_ble_eq_true rfl) ⟨Nat.le_of_ble_eq_true rfl, Nat.le_of_ble_eq_true rfl⟩ dX5_dropHabit_23 (fun r σ9 hq => ?_)
    rw [hq.1, hq.2]
    show G K (MW L c [] [] (upM σ 0 (fun _ => 0))) (0, 0) [(0, .ref (L 0)), (1, .int (iZ v1)), (2, .int (iZ v2))] 26 [.int (iZ (if f_isIn (upM σ 0 (fun _ => 0)) v2 0 (((σ 10) v1) - 1) = true then 1 else 0))]
    refine g_ifb_ne C.1 (tgt := 35) dX5_dropHabit_26 (by decide) (fun hc => ?_) (fun hc => ?_)
    · have h := h.1 hc
      refine g_aload_n C.1 0 dX5_dropHabit_35 rfl rfl ?_
      refine m_get C.1 inX5_dropHabit 10 (by decide) (v := .ref (L 10)) rfl lk_X5_dropHabit_f29 rfl dX5_dropHabit_36 ?_
      refine g_iload_n C.1 1 dX5_dropHabit_39 rfl rfl ?_
      refine g_dup2 C.1 rfl rfl dX5_dropHabit_40 ?_
      refine m_ald C.1 7 6 (N := 8) (f := (σ 10)) (e := v1) rfl rfl (by decide) hi3 dX5_dropHabit_41 ?_
      refine g_iconst C.1 (z := 1) dX5_dropHabit_42 ?_
      refine g_isub C.1 (x := (σ 10) v1) (y := 1) dX5_dropHabit_43 ?_
      refine m_ast C.1 7 6 (N := 8) (f := (σ 10)) (e := v1) (z := ((σ 10) v1) - 1) (X' := []) (σ' := upM (upM σ 0 (fun _ => 0)) 10 (upI (σ 10) v1 (((σ 10) v1) - 1))) rfl rfl rfl (by decide) hi3 dX5_dropHabit_44 ?_
      refine g_iconst C.1 (z := 4) dX5_dropHabit_45 ?_
      refine g_iconst C.1 (z := 5) dX5_dropHabit_46 ?_
      refine g_iload_n C.1 1 dX5_dropHabit_47 rfl rfl ?_
      refine g_imul C.1 (x := 5) (y := v1) dX5_dropHabit_48 ?_
      refine g_iload_n C.1 2 dX5_dropHabit_49 rfl rfl ?_
      refine g_iadd C.1 (x := 5 * v1) (y := v2) dX5_dropHabit_50 ?_
      refine g_imul C.1 (x := 4) (y := (5 * v1) + v2) dX5_dropHabit_51 ?_
      refine g_istore_n C.1 (loc' := [(3, .int (iZ (4 * ((5 * v1) + v2)))), (0, .ref (L 0)), (1, .int (iZ v1)), (2, .int (iZ v2))]) C.2.1 dX5_dropHabit_52 rfl (by decide) rfl ?_
      exact g_sub [1, 2, 0] rfl h
    · have h := h.2 hc
      refine g_aload_n C.1 0 dX5_dropHabit_29 rfl rfl ?_
      refine g_iconst C.1 (z := 1) dX5_dropHabit_30 ?_
      obtain ⟨hp5, h⟩ := h
      refine x_callV C.1 (h_no K.l L c (upM σ 0 (fun _ => 0)) 1 hp5) (ci := 6) (q := (RX5, TX5, 17)) rfl m_recv (fun ht => cwV 1 ht gX5_dropHabit_X5_no rfl rfl rfl (by decide +kernel) ⟨Nat.le_of_ble_eq_true rfl, Nat.le_of_ble_eq_true rfl⟩) rfl rfl (Nat.le_of_ble_eq_true rfl) ⟨Nat.le_of_ble_eq_true rfl, Nat.le_of_ble_eq_true rfl⟩ dX5_dropHabit_31 (fun r σ9 hq => ?_)
      rw [hq.1, hq.2]
      show G K (MW L c [] [] ((u_no (upM σ 0 (fun _ => 0)) 1))) (0, 0) [(0, .ref (L 0)), (1, .int (iZ v1)), (2, .int (iZ v2))] 34 [.int (iZ 0)]
      exact x_iret C.1 C.2.2 rfl ⟨Nat.le_of_ble_eq_true rfl, Nat.le_of_ble_eq_true rfl⟩ dX5_dropHabit_34 h
set_option maxRecDepth 100000 in
set_option maxHeartbeats 4000000 in
theorem b_X5_dropHabit_1 {K : KT} {L : Nat → Nat} {c : Nat → ClassId} {post : Int → MS → Prop} (C : C_X5_dropHabit K L c post) {σ : MS} {v1 v3 : Int} (h : (0 ≤ v1 ∧ v1 < 8) ∧ (-2147483648 ≤ v3 ∧ v3 < 2147483648) ∧ (-2147483648 ≤ (4 * ((5 * v1) + ((σ 10) v1))) ∧ (4 * ((5 * v1) + ((σ 10) v1))) < 2147483648) ∧ (((4 * ((5 * v1) + ((σ 10) v1))) ≤ v3 → post ((σ 10) v1) σ) ∧ (¬ (4 * ((5 * v1) + ((σ 10) v1))) ≤ v3 → (0 ≤ (v3 + 4) ∧ (v3 + 4) < 160) ∧ (0 ≤ v3 ∧ v3 < 160) ∧ P_X5_dropHabit_1 K L c (upM σ 11 (upI (σ 11) v3 ((σ 11) (v3 + 4)))) v1 (v3 + 1)))) : P_X5_dropHabit_1 K L c σ v1 v3 := by
  refine g_iload_n C.1 2 dX5_dropHabit_53 rfl rfl ?_
  refine g_iconst C.1 (z := 4) dX5_dropHabit_54 ?_
  refine g_iconst C.1 (z := 5) dX5_dropHabit_55 ?_
  refine g_iload_n C.1 1 dX5_dropHabit_56 rfl rfl ?_
  refine g_imul C.1 (x := 5) (y := v1) dX5_dropHabit_57 ?_
  refine g_aload_n C.1 0 dX5_dropHabit_58 rfl rfl ?_
  refine m_get C.1 inX5_dropHabit 10 (by decide) (v := .ref (L 10)) rfl lk_X5_dropHabit_f29 rfl dX5_dropHabit_59 ?_
  refine g_iload_n C.1 1 dX5_dropHabit_62 rfl rfl ?_
  obtain ⟨hi1, h⟩ := h
  refine m_ald C.1 7 6 (N := 8) (f := (σ 10)) (e := v1) rfl rfl (by decide) hi1 dX5_dropHabit_63 ?_
  refine g_iadd C.1 (x := 5 * v1) (y := (σ 10) v1) dX5_dropHabit_64 ?_
  refine g_imul C.1 (x := 4) (y := (5 * v1) + ((σ 10) v1)) dX5_dropHabit_65 ?_
  obtain ⟨hc2, h⟩ := h
  obtain ⟨hc3, h⟩ := h
  refine g_icmp_ge C.1 (tgt := 89) dX5_dropHabit_66 (by decide) hc2 hc3 (fun hc => ?_) (fun hc => ?_)
  · have h := h.1 hc
    refine g_aload_n C.1 0 dX5_dropHabit_89 rfl rfl ?_
    refine m_get C.1 inX5_dropHabit 10 (by decide) (v := .ref (L 10)) rfl lk_X5_dropHabit_f29 rfl dX5_dropHabit_90 ?_
    refine g_iload_n C.1 1 dX5_dropHabit_93 rfl rfl ?_
    refine m_ald C.1 7 6 (N := 8) (f := (σ 10)) (e := v1) rfl rfl (by decide) hi1 dX5_dropHabit_94 ?_
    exact x_iret C.1 C.2.2 rfl ⟨Nat.le_of_ble_eq_true rfl, Nat.le_of_ble_eq_true rfl⟩ dX5_dropHabit_95 h
  · have h := h.2 hc
    refine g_aload_n C.1 0 dX5_dropHabit_69 rfl rfl ?_
    refine m_get C.1 inX5_dropHabit 11 (by decide) (v := .ref (L 11)) rfl lk_X5_dropHabit_f32 rfl dX5_dropHabit_70 ?_
    refine g_iload_n C.1 2 dX5_dropHabit_73 rfl rfl ?_
    refine g_aload_n C.1 0 dX5_dropHabit_74 rfl rfl ?_
    refine m_get C.1 inX5_dropHabit 11 (by decide) (v := .ref (L 11)) rfl lk_X5_dropHabit_f32 rfl dX5_dropHabit_75 ?_
    refine g_iload_n C.1 2 dX5_dropHabit_78 rfl rfl ?_
    refine g_iconst C.1 (z := 4) dX5_dropHabit_79 ?_
    refine g_iadd C.1 (x := v3) (y := 4) dX5_dropHabit_80 ?_
    obtain ⟨hi4, h⟩ := h
    refine m_ald C.1 8 7 (N := 160) (f := (σ 11)) (e := (v3 + 4)) rfl rfl (by decide) hi4 dX5_dropHabit_81 ?_
    obtain ⟨hi5, h⟩ := h
    refine m_ast C.1 8 7 (N := 160) (f := (σ 11)) (e := v3) (z := (σ 11) (v3 + 4)) (X' := []) (σ' := upM σ 11 (upI (σ 11) v3 ((σ 11) (v3 + 4)))) rfl rfl rfl (by decide) hi5 dX5_dropHabit_82 ?_
    refine g_iinc C.1 (z := v3) (w := 1) (loc' := [(3, .int (iZ (v3 + 1))), (0, .ref (L 0)), (1, .int (iZ v1))]) 2 C.2.1 dX5_dropHabit_83 rfl (by decide) rfl ?_
    refine g_goto C.1 (tgt := 53) dX5_dropHabit_86 (by decide) ?_
    exact g_sub [1, 2, 0] rfl h
def H_X5_dropHabit (p : MS → Int → Int → Prop) (o : MS → Int → Int → Int → MS → Prop) : Prop := ∀ (l : Launch) (L : Nat → Nat) (c : Nat → ClassId) (σ : MS) (v1 v2 : Int), p σ v1 v2 → xMet l yX5_dropHabit wsX5_dropHabit rm_X5_dropHabit (MW L c [] []) rkI [.ref (L 0), .int (iZ v1), .int (iZ v2)] σ (fun r σ' => o σ v1 v2 r σ')
theorem m_X5_dropHabit {l : Launch} {L : Nat → Nat} {c : Nat → ClassId} {σ : MS} {v1 v2 : Int} {post : Int → MS → Prop} (h : ∀ K : KT, K.l = l → C_X5_dropHabit K L c post → P_X5_dropHabit_0 K L c σ v1 v2) : xMet l yX5_dropHabit wsX5_dropHabit rm_X5_dropHabit (MW L c [] []) rkI [.ref (L 0), .int (iZ v1), .int (iZ v2)] σ post :=
  xMet.of (maxL := 4) (by decide +kernel) rfl (Nat.le_of_ble_eq_true rfl) (fun K h1 h2 h3 h4 _ => h K h1 ⟨h2, h4, h3⟩)

/-! X5_habit -/
abbrev rm_X5_habit : Room := { frames := 2, cells := 0, slots := 0, locals := 43 }
theorem inX5_habit : ∀ w ∈ wsX50, w ∈ wsX5_habit := by decide +kernel
theorem lk_X5_habit_f47 : Cond.fieldLink RX5 47 "CopyHouseModel" "thrown" "I" ∈ wsX5_habit := List.mem_of_getElem? (i := 1) (by decide +kernel)
theorem lk_X5_habit_f29 : Cond.fieldLink RX5 29 "CopyHouseModel" "habits" "[I" ∈ wsX5_habit := List.mem_of_getElem? (i := 2) (by decide +kernel)
theorem lk_X5_habit_f32 : Cond.fieldLink RX5 32 "CopyHouseModel" "habit" "[I" ∈ wsX5_habit := List.mem_of_getElem? (i := 3) (by decide +kernel)
def C_X5_habit (K : KT) (L : Nat → Nat) (c : Nat → ClassId) (post : Int → MS → Prop) : Prop := kOK K cX5_habit RX5 wsX5_habit (some .int) rm_X5_habit ∧ K.nL = 4 ∧ kQ K (MW L c [] []) rkI post rm_X5_habit
def P_X5_habit_0 (K : KT) (L : Nat → Nat) (c : Nat → ClassId) (σ : MS) (v1 v2 v3 : Int) : Prop := G K (MW L c [] [] σ) (0, 0) [(0, .ref (L 0)), (1, .int (iZ v1)), (2, .int (iZ v2)), (3, .int (iZ v3))] 0 []
set_option maxRecDepth 100000 in
set_option maxHeartbeats 4000000 in
theorem b_X5_habit_0 {K : KT} {L : Nat → Nat} {c : Nat → ClassId} {post : Int → MS → Prop} (C : C_X5_habit K L c post) {p_isScribe : MS → Int → Prop} {f_isScribe : MS → Int → Bool} (h_isScribe : H_X5_isScribe p_isScribe f_isScribe) {p_no : MS → Int → Prop} {u_no : MS → Int → MS} (h_no : H_X5_no p_no u_no) {p_isIn : MS → Int → Int → Int → Prop} {f_isIn : MS → Int → Int → Int → Bool} (h_isIn : H_X5_isIn p_isIn f_isIn) {σ : MS} {v1 v2 v3 : Int} (h : (p_isScribe (upM σ 0 (fun _ => 0)) v1) ∧ ((¬ (f_isScribe (upM σ 0 (fun _ => 0)) v1 = true) → (p_no (upM σ 0 (fun _ => 0)) 1) ∧ post 0 ((u_no (upM σ 0 (fun _ => 0)) 1))) ∧ (f_isScribe (upM σ 0 (fun _ => 0)) v1 = true → (0 ≤ v1 ∧ v1 < 8) ∧ (p_isIn (upM σ 0 (fun _ => 0)) v2 0 (((σ 10) v1) - 1)) ∧ ((¬ (f_isIn (upM σ 0 (fun _ => 0)) v2 0 (((σ 10) v1) - 1) = true) → (p_no (upM σ 0 (fun _ => 0)) 1) ∧ post 0 ((u_no (upM σ 0 (fun _ => 0)) 1))) ∧ (f_isIn (upM σ 0 (fun _ => 0)) v2 0 (((σ 10) v1) - 1) = true → (p_isIn (upM σ 0 (fun _ => 0)) v3 0 3) ∧ ((¬ (f_isIn (upM σ 0 (fun _ => 0)) v3 0 3 = true) → (p_no (upM σ 0 (fun _ => 0)) 1) ∧ post 0 ((u_no (upM σ 0 (fun _ => 0)) 1))) ∧ (f_isIn (upM σ 0 (fun _ => 0)) v3 0 3 = true → (0 ≤ ((4 * ((5 * v1) + v2)) + v3) ∧ ((4 * ((5 * v1) + v2)) + v3) < 160) ∧ post ((σ 11) ((4 * ((5 * v1) + v2)) + v3)) (upM σ 0 (fun _ => 0))))))))) : P_X5_habit_0 K L c σ v1 v2 v3 := by
  refine g_aload_n C.1 0 dX5_habit_0 rfl rfl ?_
  refine g_iconst C.1 (z := 0) dX5_habit_1 ?_
  refine m_put C.1 inX5_habit 0 (by decide) (z := 0) (σ' := upM σ 0 (fun _ => 0)) rfl lk_X5_habit_f47 rfl rfl rfl dX5_habit_2 ?_
  refine g_aload_n C.1 0 dX5_habit_5 rfl rfl ?_
  refine g_iload_n C.1 1 dX5_habit_6 rfl rfl ?_
  obtain ⟨hp1, h⟩ := h
  refine x_callV C.1 (h_isScribe K.l L c (upM σ 0 (fun _ => 0)) v1 hp1) (ci := 6) (q := (RX5, TX5, 17)) rfl m_recv (fun ht => cwV 1 ht gX5_habit_X5_isScribe rfl rfl rfl (by decide +kernel) ⟨Nat.le_of_ble_eq_true rfl, Nat.le_of_ble_eq_true rfl⟩) rfl rfl (Nat.le_of_ble_eq_true rfl) ⟨Nat.le_of_ble_eq_true rfl, Nat.le_of_ble_eq_true rfl⟩ dX5_habit_7 (fun r σ9 hq => ?_)
  rw [hq.1, hq.2]
  show G K (MW L c [] [] (upM σ 0 (fun _ => 0))) (0, 0) [(0, .ref (L 0)), (1, .int (iZ v1)), (2, .int (iZ v2)), (3, .int (iZ v3))] 10 [.int (iZ (if f_isScribe (upM σ 0 (fun _ => 0)) v1 = true then 1 else 0))]
  refine g_ifb_eq C.1 (tgt := 55) dX5_habit_10 (by decide) (fun hc => ?_) (fun hc => ?_)
  · have h := h.1 hc
    refine g_aload_n C.1 0 dX5_habit_55 rfl rfl ?_
    refine g_iconst C.1 (z := 1) dX5_habit_56 ?_
    obtain ⟨hp2, h⟩ := h
    refine x_callV C.1 (h_no K.l L c (upM σ 0 (fun _ => 0)) 1 hp2) (ci := 6) (q := (RX5, TX5, 17)) rfl m_recv (fun ht => cwV 1 ht gX5_habit_X5_no rfl rfl rfl (by decide +kernel) ⟨Nat.le_of_ble_eq_true rfl, Nat.le_of_ble_eq_true rfl⟩) rfl rfl (Nat.le_of_ble_eq_true rfl) ⟨Nat.le_of_ble_eq_true rfl, Nat.le_of_ble_eq_true rfl⟩ dX5_habit_57 (fun r σ9 hq => ?_)
    rw [hq.1, hq.2]
    show G K (MW L c [] [] ((u_no (upM σ 0 (fun _ => 0)) 1))) (0, 0) [(0, .ref (L 0)), (1, .int (iZ v1)), (2, .int (iZ v2)), (3, .int (iZ v3))] 60 [.int (iZ 0)]
    exact x_iret C.1 C.2.2 rfl ⟨Nat.le_of_ble_eq_true rfl, Nat.le_of_ble_eq_true rfl⟩ dX5_habit_60 h
  · have h := h.2 hc
    refine g_iload_n C.1 2 dX5_habit_13 rfl rfl ?_
    refine g_iconst C.1 (z := 0) dX5_habit_14 ?_
    refine g_aload_n C.1 0 dX5_habit_15 rfl rfl ?_
    refine m_get C.1 inX5_habit 10 (by decide) (v := .ref (L 10)) rfl lk_X5_habit_f29 rfl dX5_habit_16 ?_
    refine g_iload_n C.1 1 dX5_habit_19 rfl rfl ?_
    obtain ⟨hi3, h⟩ := h
    refine m_ald C.1 7 6 (N := 8) (f := (σ 10)) (e := v1) rfl rfl (by decide) hi3 dX5_habit_20 ?_
    refine g_iconst C.1 (z := 1) dX5_habit_21 ?_
    refine g_isub C.1 (x := (σ 10) v1) (y := 1) dX5_habit_22 ?_
    obtain ⟨hp4, h⟩ := h
    refine x_callS C.1 (h_isIn K.l L c (upM σ 0 (fun _ => 0)) v2 0 (((σ 10) v1) - 1) hp4) (fun ht => va_cwS 3 ht gX5_habit_X5_isIn rfl rfl rfl (by decide +kernel) ⟨Nat.le_of_ble_eq_true rfl, Nat.le_of_ble_eq_true rfl⟩) rfl rfl (Nat.le_of_ble_eq_true rfl) ⟨Nat.le_of_ble_eq_true rfl, Nat.le_of_ble_eq_true rfl⟩ dX5_habit_23 (fun r σ9 hq => ?_)
    rw [hq.1, hq.2]
    show G K (MW L c [] [] (upM σ 0 (fun _ => 0))) (0, 0) [(0, .ref (L 0)), (1, .int (iZ v1)), (2, .int (iZ v2)), (3, .int (iZ v3))] 26 [.int (iZ (if f_isIn (upM σ 0 (fun _ => 0)) v2 0 (((σ 10) v1) - 1) = true then 1 else 0))]
    refine g_ifb_eq C.1 (tgt := 55) dX5_habit_26 (by decide) (fun hc => ?_) (fun hc => ?_)
    · have h := h.1 hc
      refine g_aload_n C.1 0 dX5_habit_55 rfl rfl ?_
      refine g_iconst C.1 (z := 1) dX5_habit_56 ?_
      obtain ⟨hp5, h⟩ := h
      refine x_callV C.1 (h_no K.l L c (upM σ 0 (fun _ => 0)) 1 hp5) (ci := 6) (q := (RX5, TX5, 17)) rfl m_recv (fun ht => cwV 1 ht gX5_habit_X5_no rfl rfl rfl (by decide +kernel) ⟨Nat.le_of_ble_eq_true rfl, Nat.le_of_ble_eq_true rfl⟩) rfl rfl (Nat.le_of_ble_eq_true rfl) ⟨Nat.le_of_ble_eq_true rfl, Nat.le_of_ble_eq_true rfl⟩ dX5_habit_57 (fun r σ9 hq => ?_)
      rw [hq.1, hq.2]
      show G K (MW L c [] [] ((u_no (upM σ 0 (fun _ => 0)) 1))) (0, 0) [(0, .ref (L 0)), (1, .int (iZ v1)), (2, .int (iZ v2)), (3, .int (iZ v3))] 60 [.int (iZ 0)]
      exact x_iret C.1 C.2.2 rfl ⟨Nat.le_of_ble_eq_true rfl, Nat.le_of_ble_eq_true rfl⟩ dX5_habit_60 h
    · have h := h.2 hc
      refine g_iload_n C.1 3 dX5_habit_29 rfl rfl ?_
      refine g_iconst C.1 (z := 0) dX5_habit_30 ?_
      refine g_iconst C.1 (z := 3) dX5_habit_31 ?_
      obtain ⟨hp6, h⟩ := h
      refine x_callS C.1 (h_isIn K.l L c (upM σ 0 (fun _ => 0)) v3 0 3 hp6) (fun ht => va_cwS 3 ht gX5_habit_X5_isIn rfl rfl rfl (by decide +kernel) ⟨Nat.le_of_ble_eq_true rfl, Nat.le_of_ble_eq_true rfl⟩) rfl rfl (Nat.le_of_ble_eq_true rfl) ⟨Nat.le_of_ble_eq_true rfl, Nat.le_of_ble_eq_true rfl⟩ dX5_habit_32 (fun r σ9 hq => ?_)
      rw [hq.1, hq.2]
      show G K (MW L c [] [] (upM σ 0 (fun _ => 0))) (0, 0) [(0, .ref (L 0)), (1, .int (iZ v1)), (2, .int (iZ v2)), (3, .int (iZ v3))] 35 [.int (iZ (if f_isIn (upM σ 0 (fun _ => 0)) v3 0 3 = true then 1 else 0))]
      refine g_ifb_eq C.1 (tgt := 55) dX5_habit_35 (by decide) (fun hc => ?_) (fun hc => ?_)
      · have h := h.1 hc
        refine g_aload_n C.1 0 dX5_habit_55 rfl rfl ?_
        refine g_iconst C.1 (z := 1) dX5_habit_56 ?_
        obtain ⟨hp7, h⟩ := h
        refine x_callV C.1 (h_no K.l L c (upM σ 0 (fun _ => 0)) 1 hp7) (ci := 6) (q := (RX5, TX5, 17)) rfl m_recv (fun ht => cwV 1 ht gX5_habit_X5_no rfl rfl rfl (by decide +kernel) ⟨Nat.le_of_ble_eq_true rfl, Nat.le_of_ble_eq_true rfl⟩) rfl rfl (Nat.le_of_ble_eq_true rfl) ⟨Nat.le_of_ble_eq_true rfl, Nat.le_of_ble_eq_true rfl⟩ dX5_habit_57 (fun r σ9 hq => ?_)
        rw [hq.1, hq.2]
        show G K (MW L c [] [] ((u_no (upM σ 0 (fun _ => 0)) 1))) (0, 0) [(0, .ref (L 0)), (1, .int (iZ v1)), (2, .int (iZ v2)), (3, .int (iZ v3))] 60 [.int (iZ 0)]
        exact x_iret C.1 C.2.2 rfl ⟨Nat.le_of_ble_eq_true rfl, Nat.le_of_ble_eq_true rfl⟩ dX5_habit_60 h
      · have h := h.2 hc
        refine g_aload_n C.1 0 dX5_habit_38 rfl rfl ?_
        refine m_get C.1 inX5_habit 11 (by decide) (v := .ref (L 11)) rfl lk_X5_habit_f32 rfl dX5_habit_39 ?_
        refine g_iconst C.1 (z := 4) dX5_habit_42 ?_
        refine g_iconst C.1 (z := 5) dX5_habit_43 ?_
        refine g_iload_n C.1 1 dX5_habit_44 rfl rfl ?_
        refine g_imul C.1 (x := 5) (y := v1) dX5_habit_45 ?_
        refine g_iload_n C.1 2 dX5_habit_46 rfl rfl ?_
        refine g_iadd C.1 (x := 5 * v1) (y := v2) dX5_habit_47 ?_
        refine g_imul C.1 (x := 4) (y := (5 * v1) + v2) dX5_habit_48 ?_
        refine g_iload_n C.1 3 dX5_habit_49 rfl rfl ?_
        refine g_iadd C.1 (x := 4 * ((5 * v1) + v2)) (y := v3) dX5_habit_50 ?_
        obtain ⟨hi8, h⟩ := h
        refine m_ald C.1 8 7 (N := 160) (f := (σ 11)) (e := ((4 * ((5 * v1) + v2)) + v3)) rfl rfl (by decide) hi8 dX5_habit_51 ?_
        refine g_goto C.1 (tgt := 60) dX5_habit_52 (by decide) ?_
        exact x_iret C.1 C.2.2 rfl ⟨Nat.le_of_ble_eq_true rfl, Nat.le_of_ble_eq_true rfl⟩ dX5_habit_60 h
def H_X5_habit (p : MS → Int → Int → Int → Prop) (o : MS → Int → Int → Int → Int → MS → Prop) : Prop := ∀ (l : Launch) (L : Nat → Nat) (c : Nat → ClassId) (σ : MS) (v1 v2 v3 : Int), p σ v1 v2 v3 → xMet l yX5_habit wsX5_habit rm_X5_habit (MW L c [] []) rkI [.ref (L 0), .int (iZ v1), .int (iZ v2), .int (iZ v3)] σ (fun r σ' => o σ v1 v2 v3 r σ')
theorem m_X5_habit {l : Launch} {L : Nat → Nat} {c : Nat → ClassId} {σ : MS} {v1 v2 v3 : Int} {post : Int → MS → Prop} (h : ∀ K : KT, K.l = l → C_X5_habit K L c post → P_X5_habit_0 K L c σ v1 v2 v3) : xMet l yX5_habit wsX5_habit rm_X5_habit (MW L c [] []) rkI [.ref (L 0), .int (iZ v1), .int (iZ v2), .int (iZ v3)] σ post :=
  xMet.of (maxL := 4) (by decide +kernel) rfl (Nat.le_of_ble_eq_true rfl) (fun K h1 h2 h3 h4 _ => h K h1 ⟨h2, h4, h3⟩)

/-! X5_take -/
abbrev rm_X5_take : Room := { frames := 1, cells := 0, slots := 0, locals := 60 }
theorem inX5_take : ∀ w ∈ wsX50, w ∈ wsX5_take := by decide +kernel
theorem lk_X5_take_f16 : Cond.fieldLink RX5 16 "CopyHouseModel" "length" "[I" ∈ wsX5_take := List.mem_of_getElem? (i := 1) (by decide +kernel)
theorem lk_X5_take_f85 : Cond.fieldLink RX5 85 "CopyHouseModel" "size" "I" ∈ wsX5_take := List.mem_of_getElem? (i := 2) (by decide +kernel)
theorem lk_X5_take_f13 : Cond.fieldLink RX5 13 "CopyHouseModel" "letters" "[I" ∈ wsX5_take := List.mem_of_getElem? (i := 3) (by decide +kernel)
theorem lk_X5_take_f38 : Cond.fieldLink RX5 38 "CopyHouseModel" "from" "[I" ∈ wsX5_take := List.mem_of_getElem? (i := 4) (by decide +kernel)
theorem lk_X5_take_ac68 : Cond.methodLink RX5 68 arraycopyName ∈ wsX5_take := List.mem_of_getElem? (i := 5) (by decide +kernel)
theorem lk_X5_take_acn : Cond.native arraycopyName ∈ wsX5_take := List.mem_of_getElem? (i := 6) (by decide +kernel)
theorem lk_X5_take_acs : Cond.static arraycopyName ∈ wsX5_take := List.mem_of_getElem? (i := 7) (by decide +kernel)
theorem lk_X5_take_aci : Cond.initialized "java/lang/System" ∈ wsX5_take := List.mem_of_getElem? (i := 8) (by decide +kernel)
def C_X5_take (K : KT) (L : Nat → Nat) (c : Nat → ClassId) (post : Int → MS → Prop) : Prop := kOK K cX5_take RX5 wsX5_take none rm_X5_take ∧ K.nL = 2 ∧ kQ K (MW L c [] []) rkV post rm_X5_take
def P_X5_take_0 (K : KT) (L : Nat → Nat) (c : Nat → ClassId) (σ : MS) (v1 : Int) : Prop := G K (MW L c [] [] σ) (0, 0) [(0, .ref (L 0)), (1, .int (iZ v1))] 0 []
set_option maxRecDepth 100000 in
set_option maxHeartbeats 4000000 in
theorem b_X5_take_0 {K : KT} {L : Nat → Nat} {c : Nat → ClassId} {post : Int → MS → Prop} (C : C_X5_take K L c post) {σ : MS} {v1 : Int} (h : (0 ≤ v1 ∧ v1 < 24) ∧ ((0 : Int) ≤ (120 * v1) ∧ (0 : Int) ≤ 0 ∧ (0 : Int) ≤ ((σ 5) v1) ∧ (120 * v1) + ((σ 5) v1) ≤ (2880 : Int) ∧ 0 + ((σ 5) v1) ≤ (120 : Int)) ∧ post 0 (upM (upM σ 14 (fun _ => (σ 5) v1)) 13 (cpI (σ 4) (σ 13) (120 * v1) 0 ((σ 5) v1)))) : P_X5_take_0 K L c σ v1 := by
  refine g_aload_n C.1 0 dX5_take_0 rfl rfl ?_
  refine g_aload_n C.1 0 dX5_take_1 rfl rfl ?_
  refine m_get C.1 inX5_take 5 (by decide) (v := .ref (L 5)) rfl lk_X5_take_f16 rfl dX5_take_2 ?_
  refine g_iload_n C.1 1 dX5_take_5 rfl rfl ?_
  obtain ⟨hi1, h⟩ := h
  refine m_ald C.1 3 2 (N := 24) (f := (σ 5)) (e := v1) rfl rfl (by decide) hi1 dX5_take_6 ?_
  refine m_put C.1 inX5_take 14 (by decide) (z := (σ 5) v1) (σ' := upM σ 14 (fun _ => (σ 5) v1)) rfl lk_X5_take_f85 rfl rfl rfl dX5_take_7 ?_
  refine g_aload_n C.1 0 dX5_take_10 rfl rfl ?_
  refine m_get C.1 inX5_take 4 (by decide) (v := .ref (L 4)) rfl lk_X5_take_f13 rfl dX5_take_11 ?_
  refine g_bipush C.1 (z := 120) dX5_take_14 (by decide) ?_
  refine g_iload_n C.1 1 dX5_take_16 rfl rfl ?_
  refine g_imul C.1 (x := 120) (y := v1) dX5_take_17 ?_
  refine g_aload_n C.1 0 dX5_take_18 rfl rfl ?_
  refine m_get C.1 inX5_take 13 (by decide) (v := .ref (L 13)) rfl lk_X5_take_f38 rfl dX5_take_19 ?_
  refine g_iconst C.1 (z := 0) dX5_take_22 ?_
  refine g_aload_n C.1 0 dX5_take_23 rfl rfl ?_
  refine m_get C.1 inX5_take 14 (by decide) (v := .int (iZ ((σ 5) v1))) rfl lk_X5_take_f85 rfl dX5_take_24 ?_
  obtain ⟨ha2, h⟩ := h
  refine m_copy C.1 2 10 1 9 (N0 := 2880) (N1 := 120) (f := (σ 4)) (g := (σ 13)) (sp := 120 * v1) (dp := 0) (m := (σ 5) v1) (σ' := upM (upM σ 14 (fun _ => (σ 5) v1)) 13 (cpI (σ 4) (σ 13) (120 * v1) 0 ((σ 5) v1))) (X' := []) rfl rfl rfl rfl rfl (by decide) ha2 lk_X5_take_ac68 lk_X5_take_acn lk_X5_take_acs lk_X5_take_aci (Nat.le_of_ble_eq_true rfl) (Nat.le_of_ble_eq_true (by decide +kernel)) dX5_take_27 ?_
  exact x_vret C.1 C.2.2 rfl ⟨Nat.le_of_ble_eq_true rfl, Nat.le_of_ble_eq_true rfl⟩ dX5_take_30 h
def H_X5_take (p : MS → Int → Prop) (u : MS → Int → MS) : Prop := ∀ (l : Launch) (L : Nat → Nat) (c : Nat → ClassId) (σ : MS) (v1 : Int), p σ v1 → xMet l yX5_take wsX5_take rm_X5_take (MW L c [] []) rkV [.ref (L 0), .int (iZ v1)] σ (fun r σ' => r = 0 ∧ σ' = u σ v1)
theorem m_X5_take {l : Launch} {L : Nat → Nat} {c : Nat → ClassId} {σ : MS} {v1 : Int} {post : Int → MS → Prop} (h : ∀ K : KT, K.l = l → C_X5_take K L c post → P_X5_take_0 K L c σ v1) : xMet l yX5_take wsX5_take rm_X5_take (MW L c [] []) rkV [.ref (L 0), .int (iZ v1)] σ post :=
  xMet.of (maxL := 2) (by decide +kernel) rfl (Nat.le_of_ble_eq_true rfl) (fun K h1 h2 h3 h4 _ => h K h1 ⟨h2, h4, h3⟩)

/-! X5_become -/
abbrev rm_X5_become : Room := { frames := 1, cells := 0, slots := 0, locals := 60 }
theorem inX5_become : ∀ w ∈ wsX50, w ∈ wsX5_become := by decide +kernel
theorem lk_X5_become_f41 : Cond.fieldLink RX5 41 "CopyHouseModel" "to" "[I" ∈ wsX5_become := List.mem_of_getElem? (i := 1) (by decide +kernel)
theorem lk_X5_become_f38 : Cond.fieldLink RX5 38 "CopyHouseModel" "from" "[I" ∈ wsX5_become := List.mem_of_getElem? (i := 2) (by decide +kernel)
theorem lk_X5_become_ac68 : Cond.methodLink RX5 68 arraycopyName ∈ wsX5_become := List.mem_of_getElem? (i := 3) (by decide +kernel)
theorem lk_X5_become_acn : Cond.native arraycopyName ∈ wsX5_become := List.mem_of_getElem? (i := 4) (by decide +kernel)
theorem lk_X5_become_acs : Cond.static arraycopyName ∈ wsX5_become := List.mem_of_getElem? (i := 5) (by decide +kernel)
theorem lk_X5_become_aci : Cond.initialized "java/lang/System" ∈ wsX5_become := List.mem_of_getElem? (i := 6) (by decide +kernel)
theorem lk_X5_become_f85 : Cond.fieldLink RX5 85 "CopyHouseModel" "size" "I" ∈ wsX5_become := List.mem_of_getElem? (i := 7) (by decide +kernel)
def C_X5_become (K : KT) (L : Nat → Nat) (c : Nat → ClassId) (post : Int → MS → Prop) : Prop := kOK K cX5_become RX5 wsX5_become none rm_X5_become ∧ K.nL = 2 ∧ kQ K (MW L c [] []) rkV post rm_X5_become
def P_X5_become_0 (K : KT) (L : Nat → Nat) (c : Nat → ClassId) (σ : MS) (v1 : Int) : Prop := G K (MW L c [] [] σ) (0, 0) [(0, .ref (L 0)), (1, .int (iZ v1))] 0 []
set_option maxRecDepth 100000 in
set_option maxHeartbeats 4000000 in
theorem b_X5_become_0 {K : KT} {L : Nat → Nat} {c : Nat → ClassId} {post : Int → MS → Prop} (C : C_X5_become K L c post) {σ : MS} {v1 : Int} (h : ((0 : Int) ≤ 0 ∧ (0 : Int) ≤ 0 ∧ (0 : Int) ≤ v1 ∧ 0 + v1 ≤ (121 : Int) ∧ 0 + v1 ≤ (120 : Int)) ∧ post 0 (upM (upM σ 13 (cpI (σ 15) (σ 13) 0 0 v1)) 14 (fun _ => v1))) : P_X5_become_0 K L c σ v1 := by
  refine g_aload_n C.1 0 dX5_become_0 rfl rfl ?_
  refine m_get C.1 inX5_become 15 (by decide) (v := .ref (L 15)) rfl lk_X5_become_f41 rfl dX5_become_1 ?_
  refine g_iconst C.1 (z := 0) dX5_become_4 ?_
  refine g_aload_n C.1 0 dX5_become_5 rfl rfl ?_
  refine m_get C.1 inX5_become 13 (by decide) (v := .ref (L 13)) rfl lk_X5_become_f38 rfl dX5_become_6 ?_
  refine g_iconst C.1 (z := 0) dX5_become_9 ?_
  refine g_iload_n C.1 1 dX5_become_10 rfl rfl ?_
  obtain ⟨ha1, h⟩ := h
  refine m_copy C.1 11 10 10 9 (N0 := 121) (N1 := 120) (f := (σ 15)) (g := (σ 13)) (sp := 0) (dp := 0) (m := v1) (σ' := upM σ 13 (cpI (σ 15) (σ 13) 0 0 v1)) (X' := []) rfl rfl rfl rfl rfl (by decide) ha1 lk_X5_become_ac68 lk_X5_become_acn lk_X5_become_acs lk_X5_become_aci (Nat.le_of_ble_eq_true rfl) (Nat.le_of_ble_eq_true (by decide +kernel)) dX5_become_11 ?_
  refine g_aload_n C.1 0 dX5_become_14 rfl rfl ?_
  refine g_iload_n C.1 1 dX5_become_15 rfl rfl ?_
  refine m_put C.1 inX5_become 14 (by decide) (z := v1) (σ' := upM (upM σ 13 (cpI (σ 15) (σ 13) 0 0 v1)) 14 (fun _ => v1)) rfl lk_X5_become_f85 rfl rfl rfl dX5_become_16 ?_
  exact x_vret C.1 C.2.2 rfl ⟨Nat.le_of_ble_eq_true rfl, Nat.le_of_ble_eq_true rfl⟩ dX5_become_19 h
def H_X5_become (p : MS → Int → Prop) (u : MS → Int → MS) : Prop := ∀ (l : Launch) (L : Nat → Nat) (c : Nat → ClassId) (σ : MS) (v1 : Int), p σ v1 → xMet l yX5_become wsX5_become rm_X5_become (MW L c [] []) rkV [.ref (L 0), .int (iZ v1)] σ (fun r σ' => r = 0 ∧ σ' = u σ v1)
theorem m_X5_become {l : Launch} {L : Nat → Nat} {c : Nat → ClassId} {σ : MS} {v1 : Int} {post : Int → MS → Prop} (h : ∀ K : KT, K.l = l → C_X5_become K L c post → P_X5_become_0 K L c σ v1) : xMet l yX5_become wsX5_become rm_X5_become (MW L c [] []) rkV [.ref (L 0), .int (iZ v1)] σ post :=
  xMet.of (maxL := 2) (by decide +kernel) rfl (Nat.le_of_ble_eq_true rfl) (fun K h1 h2 h3 h4 _ => h K h1 ⟨h2, h4, h3⟩)

/-! X5_change -/
abbrev rm_X5_change : Room := { frames := 0, cells := 0, slots := 0, locals := 0 }
theorem inX5_change : ∀ w ∈ wsX50, w ∈ wsX5_change := by decide +kernel
theorem lk_X5_change_f85 : Cond.fieldLink RX5 85 "CopyHouseModel" "size" "I" ∈ wsX5_change := List.mem_of_getElem? (i := 1) (by decide +kernel)
theorem lk_X5_change_f38 : Cond.fieldLink RX5 38 "CopyHouseModel" "from" "[I" ∈ wsX5_change := List.mem_of_getElem? (i := 2) (by decide +kernel)
def C_X5_change (K : KT) (L : Nat → Nat) (c : Nat → ClassId) (post : Int → MS → Prop) : Prop := kOK K cX5_change RX5 wsX5_change none rm_X5_change ∧ K.nL = 6 ∧ kQ K (MW L c [] []) rkV post rm_X5_change
def P_X5_change_0 (K : KT) (L : Nat → Nat) (c : Nat → ClassId) (σ : MS) (v1 v2 v3 : Int) : Prop := G K (MW L c [] [] σ) (0, 0) [(0, .ref (L 0)), (1, .int (iZ v1)), (2, .int (iZ v2)), (3, .int (iZ v3))] 0 []
def P_X5_change_1 (K : KT) (L : Nat → Nat) (c : Nat → ClassId) (σ : MS) (v1 v2 v3 v4 v5 : Int) : Prop := G K (MW L c [] [] σ) (0, 0) [(0, .ref (L 0)), (1, .int (iZ v1)), (2, .int (iZ v2)), (3, .int (iZ v3)), (4, .int (iZ v4)), (5, .int (iZ v5))] 6 []
set_option maxRecDepth 100000 in
set_option maxHeartbeats 4000000 in
theorem b_X5_change_0 {K : KT} {L : Nat → Nat} {c : Nat → ClassId} {post : Int → MS → Prop} (C : C_X5_change K L c post) {σ : MS} {v1 v2 v3 : Int} (h : P_X5_change_1 K L c σ v1 v2 v3 0 0) : P_X5_change_0 K L c σ v1 v2 v3 := by
  refine g_iconst C.1 (z := 0) dX5_change_0 ?_
  refine g_istore C.1 (loc' := [(4, .int (iZ 0)), (0, .ref (L 0)), (1, .int (iZ v1)), (2, .int (iZ v2)), (3, .int (iZ v3))]) C.2.1 dX5_change_1 (by decide) rfl ?_
  refine g_iconst C.1 (z := 0) dX5_change_3 ?_
  refine g_istore C.1 (loc' := [(5, .int (iZ 0)), (4, .int (iZ 0)), (0, .ref (L 0)), (1, .int (iZ v1)), (2, .int (iZ v2)), (3, .int (iZ v3))]) C.2.1 dX5_change_4 (by decide) rfl ?_
  exact g_sub [2, 3, 4, 5, 1, 0] rfl h
set_option maxRecDepth 100000 in
set_option maxHeartbeats 4000000 in
theorem b_X5_change_1 {K : KT} {L : Nat → Nat} {c : Nat → ClassId} {post : Int → MS → Prop} (C : C_X5_change K L c post) {σ : MS} {v1 v2 v3 v4 v5 : Int} (h : (-2147483648 ≤ v5 ∧ v5 < 2147483648) ∧ (-2147483648 ≤ (σ 14 0) ∧ (σ 14 0) < 2147483648) ∧ (((σ 14 0) ≤ v5 → post 0 σ) ∧ (¬ (σ 14 0) ≤ v5 → (0 ≤ v5 ∧ v5 < 120) ∧ (-2147483648 ≤ ((σ 13) v5) ∧ ((σ 13) v5) < 2147483648) ∧ (-2147483648 ≤ v1 ∧ v1 < 2147483648) ∧ ((((σ 13) v5) = v1 → ((0 ≤ (v4 + 1) ∧ (v4 + 1) < 2147483648) ∧ (0 < v3 ∧ v3 < 2147483648)) ∧ (-2147483648 ≤ ((v4 + 1) % v3) ∧ ((v4 + 1) % v3) < 2147483648) ∧ ((¬ ((v4 + 1) % v3) = 0 → P_X5_change_1 K L c σ v1 v2 v3 (v4 + 1) (v5 + 1)) ∧ (((v4 + 1) % v3) = 0 → P_X5_change_1 K L c (upM σ 13 (upI (σ 13) v5 v2)) v1 v2 v3 (v4 + 1) (v5 + 1)))) ∧ (¬ ((σ 13) v5) = v1 → P_X5_change_1 K L c σ v1 v2 v3 v4 (v5 + 1)))))) : P_X5_change_1 K L c σ v1 v2 v3 v4 v5 := by
  refine g_iload C.1 5 dX5_change_6 rfl ?_
  refine g_aload_n C.1 0 dX5_change_8 rfl rfl ?_
  refine m_get C.1 inX5_change 14 (by decide) (v := .int (iZ (σ 14 0))) rfl lk_X5_change_f85 rfl dX5_change_9 ?_
  obtain ⟨hc1, h⟩ := h
  obtain ⟨hc2, h⟩ := h
  refine g_icmp_ge C.1 (tgt := 53) dX5_change_12 (by decide) hc1 hc2 (fun hc => ?_) (fun hc => ?_)
  · have h := h.1 hc
    exact x_vret C.1 C.2.2 rfl ⟨Nat.le_of_ble_eq_true rfl, Nat.le_of_ble_eq_true rfl⟩ dX5_change_53 h
  · have h := h.2 hc
    refine g_aload_n C.1 0 dX5_change_15 rfl rfl ?_
    refine m_get C.1 inX5_change 13 (by decide) (v := .ref (L 13)) rfl lk_X5_change_f38 rfl dX5_change_16 ?_
    refine g_iload C.1 5 dX5_change_19 rfl ?_
    obtain ⟨hi3, h⟩ := h
    refine m_ald C.1 10 9 (N := 120) (f := (σ 13)) (e := v5) rfl rfl (by decide) hi3 dX5_change_21 ?_
    refine g_iload_n C.1 1 dX5_change_22 rfl rfl ?_
    obtain ⟨hc4, h⟩ := h
    obtain ⟨hc5, h⟩ := h
    refine g_icmp_eq C.1 (tgt := 29) dX5_change_23 (by decide) hc4 hc5 (fun hc => ?_) (fun hc => ?_)
    · have h := h.1 hc
      refine g_iinc C.1 (z := v4) (w := 1) (loc' := [(4, .int (iZ (v4 + 1))), (0, .ref (L 0)), (1, .int (iZ v1)), (2, .int (iZ v2)), (3, .int (iZ v3)), (5, .int (iZ v5))]) 4 C.2.1 dX5_change_29 rfl (by decide) rfl ?_
      refine g_iload C.1 0 dX5_change_32 rfl ?_
      refine g_iload_n C.1 4 dX5_change_34 rfl rfl ?_
      obtain ⟨hr6, h⟩ := h
      refine g_irem C.1 (x := (v4 + 1)) (y := v3) hr6 dX5_change_35 ?_
      obtain ⟨hc7, h⟩ := h
      refine g_if_ne C.1 (tgt := 47) dX5_change_36 (by decide) hc7 (fun hc => ?_) (fun hc => ?_)
      · have h := h.1 hc
        refine g_iinc C.1 (z := v5) (w := 1) (loc' := [(5, .int (iZ (v5 + 1))), (4, .int (iZ (v4 + 1))), (0, .ref (L 0)), (1, .int (iZ v1)), (2, .int (iZ v2)), (3, .int (iZ v3))]) 5 C.2.1 dX5_change_47 rfl (by decide) rfl ?_
        refine g_goto C.1 (tgt := 6) dX5_change_50 (by decide) ?_
        exact g_sub [2, 3, 4, 5, 1, 0] rfl h
      · have h := h.2 hc
        refine g_aload_n C.1 1 dX5_change_39 rfl rfl ?_
        refine m_get C.1 inX5_change 13 (by decide) (v := .ref (L 13)) rfl lk_X5_change_f38 rfl dX5_change_40 ?_
        refine g_iload C.1 5 dX5_change_43 rfl ?_
        refine g_iload_n C.1 3 dX5_change_45 rfl rfl ?_
        refine m_ast C.1 10 9 (N := 120) (f := (σ 13)) (e := v5) (z := v2) (X' := []) (σ' := upM σ 13 (upI (σ 13) v5 v2)) rfl rfl rfl (by decide) hi3 dX5_change_46 ?_
        refine g_iinc C.1 (z := v5) (w := 1) (loc' := [(5, .int (iZ (v5 + 1))), (4, .int (iZ (v4 + 1))), (0, .ref (L 0)), (1, .int (iZ v1)), (2, .int (iZ v2)), (3, .int (iZ v3))]) 5 C.2.1 dX5_change_47 rfl (by decide) rfl ?_
        refine g_goto C.1 (tgt := 6) dX5_change_50 (by decide) ?_
        exact g_sub [2, 3, 4, 5, 1, 0] rfl h
    · have h := h.2 hc
      refine g_goto C.1 (tgt := 47) dX5_change_26 (by decide) ?_
      refine g_iinc C.1 (z := v5) (w := 1) (loc' := [(5, .int (iZ (v5 + 1))), (0, .ref (L 0)), (1, .int (iZ v1)), (2, .int (iZ v2)), (3, .int (iZ v3)), (4, .int (iZ v4))]) 5 C.2.1 dX5_change_47 rfl (by decide) rfl ?_
      refine g_goto C.1 (tgt := 6) dX5_change_50 (by decide) ?_
      exact g_sub [1, 2, 3, 4, 5, 0] rfl h
def H_X5_change (p : MS → Int → Int → Int → Prop) (o : MS → Int → Int → Int → Int → MS → Prop) : Prop := ∀ (l : Launch) (L : Nat → Nat) (c : Nat → ClassId) (σ : MS) (v1 v2 v3 : Int), p σ v1 v2 v3 → xMet l yX5_change wsX5_change rm_X5_change (MW L c [] []) rkV [.ref (L 0), .int (iZ v1), .int (iZ v2), .int (iZ v3)] σ (fun r σ' => o σ v1 v2 v3 r σ')
theorem m_X5_change {l : Launch} {L : Nat → Nat} {c : Nat → ClassId} {σ : MS} {v1 v2 v3 : Int} {post : Int → MS → Prop} (h : ∀ K : KT, K.l = l → C_X5_change K L c post → P_X5_change_0 K L c σ v1 v2 v3) : xMet l yX5_change wsX5_change rm_X5_change (MW L c [] []) rkV [.ref (L 0), .int (iZ v1), .int (iZ v2), .int (iZ v3)] σ post :=
  xMet.of (maxL := 6) (by decide +kernel) rfl (Nat.le_of_ble_eq_true rfl) (fun K h1 h2 h3 h4 _ => h K h1 ⟨h2, h4, h3⟩)
