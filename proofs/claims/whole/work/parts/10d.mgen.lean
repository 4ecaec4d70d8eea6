/-! X5_guess -/
abbrev rm_X5_guess : Room := { frames := 4, cells := 0, slots := 0, locals := 127 }
theorem inX5_guess : ∀ w ∈ wsX50, w ∈ wsX5_guess := by decide +kernel
theorem lk_X5_guess_f47 : Cond.fieldLink RX5 47 "CopyHouseModel" "thrown" "I" ∈ wsX5_guess := List.mem_of_getElem? (i := 1) (by decide +kernel)
def C_X5_guess (K : KT) (L : Nat → Nat) (c : Nat → ClassId) (post : Int → MS → Prop) : Prop := kOK K cX5_guess RX5 wsX5_guess (some .int) rm_X5_guess ∧ K.nL = 2 ∧ kQ K (MW L c [] []) rkI post rm_X5_guess
def P_X5_guess_0 (K : KT) (L : Nat → Nat) (c : Nat → ClassId) (σ : MS) (v1 : Int) : Prop := G K (MW L c [] [] σ) (0, 0) [(0, .ref (L 0)), (1, .int (iZ v1))] 0 []
set_option maxRecDepth 100000 in
set_option maxHeartbeats 4000000 in
theorem b_X5_guess_0 {K : KT} {L : Nat → Nat} {c : Nat → ClassId} {post : Int → MS → Prop} (C : C_X5_guess K L c post) {p_isText : MS → Int → Prop} {f_isText : MS → Int → Bool} (h_isText : H_X5_isText p_isText f_isText) {p_no : MS → Int → Prop} {u_no : MS → Int → MS} (h_no : H_X5_no p_no u_no) {p_guessOf : MS → Int → Prop} {o_guessOf : MS → Int → Int → MS → Prop} (h_guessOf : H_X5_guessOf p_guessOf o_guessOf) {σ : MS} {v1 : Int} (h : (p_isText (upM σ 0 (fun _ => 0)) v1) ∧ ((¬ (f_isText (upM σ 0 (fun _ => 0)) v1 = true) → (p_no (upM σ 0 (fun _ => 0)) 1) ∧ post 0 ((u_no (upM σ 0 (fun _ => 0)) 1))) ∧ (f_isText (upM σ 0 (fun _ => 0)) v1 = true → (p_guessOf (upM σ 0 (fun _ => 0)) v1) ∧ ∀ (r4 : Int) (σ5 : MS), o_guessOf (upM σ 0 (fun _ => 0)) v1 r4 σ5 → post r4 σ5))) : P_X5_guess_0 K L c σ v1 := by
  refine g_aload_n C.1 0 dX5_guess_0 rfl rfl ?_
  refine g_iconst C.1 (z := 0) dX5_guess_1 ?_
  refine m_put C.1 inX5_guess 0 (by decide) (z := 0) (σ' := upM σ 0 (fun _ => 0)) rfl lk_X5_guess_f47 rfl rfl rfl dX5_guess_2 ?_
  refine g_aload_n C.1 0 dX5_guess_5 rfl rfl ?_
  refine g_iload_n C.1 1 dX5_guess_6 rfl rfl ?_
  obtain ⟨hp1, h⟩ := h
  refine x_callV C.1 (h_isText K.l L c (upM σ 0 (fun _ => 0)) v1 hp1) (ci := 6) (q := (RX5, TX5, 17)) rfl m_recv (fun ht => cwV 1 ht gX5_guess_X5_isText rfl rfl rfl (by decide +kernel) ⟨Nat.le_of_ble_eq_true rfl, Nat.le_of_ble_eq_true rfl⟩) rfl rfl (Nat.le_of_ble_eq_true rfl) ⟨Nat.le_of_ble_eq_true rfl, Nat.le_of_ble_eq_true rfl⟩ dX5_guess_7 (fun r σ9 hq => ?_)
  rw [hq.1, hq.2]
  show G K (MW L c [] [] (upM σ 0 (fun _ => 0))) (0, 0) [(0, .ref (L 0)), (1, .int (iZ v1))] 10 [.int (iZ (if f_isText (upM σ 0 (fun _ => 0)) v1 = true then 1 else 0))]
  refine g_ifb_eq C.1 (tgt := 21) dX5_guess_10 (by decide) (fun hc => ?_) (fun hc => ?_)
  · have h := h.1 hc
    refine g_aload_n C.1 0 dX5_guess_21 rfl rfl ?_
    refine g_iconst C.1 (z := 1) dX5_guess_22 ?_
    obtain ⟨hp2, h⟩ := h
    refine x_callV C.1 (h_no K.l L c (upM σ 0 (fun _ => 0)) 1 hp2) (ci := 6) (q := (RX5, TX5, 17)) rfl m_recv (fun ht => cwV 1 ht gX5_guess_X5_no rfl rfl rfl (by decide +kernel) ⟨Nat.le_of_ble_eq_true rfl, Nat.le_of_ble_eq_true rfl⟩) rfl rfl (Nat.le_of_ble_eq_true rfl) ⟨Nat.le_of_ble_eq_true rfl, Nat.le_of_ble_eq_true rfl⟩ dX5_guess_23 (fun r σ9 hq => ?_)
    rw [hq.1, hq.2]
    show G K (MW L c [] [] ((u_no (upM σ 0 (fun _ => 0)) 1))) (0, 0) [(0, .ref (L 0)), (1, .int (iZ v1))] 26 [.int (iZ 0)]
    exact x_iret C.1 C.2.2 rfl ⟨Nat.le_of_ble_eq_true rfl, Nat.le_of_ble_eq_true rfl⟩ dX5_guess_26 h
  · have h := h.2 hc
    refine g_aload_n C.1 0 dX5_guess_13 rfl rfl ?_
    refine g_iload_n C.1 1 dX5_guess_14 rfl rfl ?_
    obtain ⟨hp3, h⟩ := h
    refine x_callV C.1 (h_guessOf K.l L c (upM σ 0 (fun _ => 0)) v1 hp3) (ci := 6) (q := (RX5, TX5, 17)) rfl m_recv (fun ht => cwV 1 ht gX5_guess_X5_guessOf rfl rfl rfl (by decide +kernel) ⟨Nat.le_of_ble_eq_true rfl, Nat.le_of_ble_eq_true rfl⟩) rfl rfl (Nat.le_of_ble_eq_true rfl) ⟨Nat.le_of_ble_eq_true rfl, Nat.le_of_ble_eq_true rfl⟩ dX5_guess_15 (fun r4 σ5 hq => ?_)
    have h := h r4 σ5 hq
    show G K (MW L c [] [] σ5) (0, 0) [(0, .ref (L 0)), (1, .int (iZ v1))] 18 [.int (iZ r4)]
    refine g_goto C.1 (tgt := 26) dX5_guess_18 (by decide) ?_
    exact x_iret C.1 C.2.2 rfl ⟨Nat.le_of_ble_eq_true rfl, Nat.le_of_ble_eq_true rfl⟩ dX5_guess_26 h
def H_X5_guess (p : MS → Int → Prop) (o : MS → Int → Int → MS → Prop) : Prop := ∀ (l : Launch) (L : Nat → Nat) (c : Nat → ClassId) (σ : MS) (v1 : Int), p σ v1 → xMet l yX5_guess wsX5_guess rm_X5_guess (MW L c [] []) rkI [.ref (L 0), .int (iZ v1)] σ (fun r σ' => o σ v1 r σ')
theorem m_X5_guess {l : Launch} {L : Nat → Nat} {c : Nat → ClassId} {σ : MS} {v1 : Int} {post : Int → MS → Prop} (h : ∀ K : KT, K.l = l → C_X5_guess K L c post → P_X5_guess_0 K L c σ v1) : xMet l yX5_guess wsX5_guess rm_X5_guess (MW L c [] []) rkI [.ref (L 0), .int (iZ v1)] σ post :=
  xMet.of (maxL := 2) (by decide +kernel) rfl (Nat.le_of_ble_eq_true rfl) (fun K h1 h2 h3 h4 _ => h K h1 ⟨h2, h4, h3⟩)

/-! X5_find -/
abbrev rm_X5_find : Room := { frames := 2, cells := 0, slots := 0, locals := 43 }
theorem inX5_find : ∀ w ∈ wsX50, w ∈ wsX5_find := by decide +kernel
theorem lk_X5_find_f47 : Cond.fieldLink RX5 47 "CopyHouseModel" "thrown" "I" ∈ wsX5_find := List.mem_of_getElem? (i := 1) (by decide +kernel)
theorem lk_X5_find_f16 : Cond.fieldLink RX5 16 "CopyHouseModel" "length" "[I" ∈ wsX5_find := List.mem_of_getElem? (i := 2) (by decide +kernel)
theorem lk_X5_find_f13 : Cond.fieldLink RX5 13 "CopyHouseModel" "letters" "[I" ∈ wsX5_find := List.mem_of_getElem? (i := 3) (by decide +kernel)
def C_X5_find (K : KT) (L : Nat → Nat) (c : Nat → ClassId) (post : Int → MS → Prop) : Prop := kOK K cX5_find RX5 wsX5_find (some .int) rm_X5_find ∧ K.nL = 7 ∧ kQ K (MW L c [] []) rkI post rm_X5_find
def P_X5_find_0 (K : KT) (L : Nat → Nat) (c : Nat → ClassId) (σ : MS) (v1 v2 v3 v4 : Int) : Prop := G K (MW L c [] [] σ) (0, 0) [(0, .ref (L 0)), (1, .int (iZ v1)), (2, .int (iZ v2)), (3, .int (iZ v3)), (4, .int (iZ v4))] 0 []
def P_X5_find_1 (K : KT) (L : Nat → Nat) (c : Nat → ClassId) (σ : MS) (v1 v3 v4 v5 : Int) : Prop := G K (MW L c [] [] σ) (0, 0) [(0, .ref (L 0)), (1, .int (iZ v1)), (3, .int (iZ v3)), (4, .int (iZ v4)), (5, .int (iZ v5))] 53 []
set_option maxRecDepth 100000 in
set_option maxHeartbeats 4000000 in
theorem b_X5_find_0 {K : KT} {L : Nat → Nat} {c : Nat → ClassId} {post : Int → MS → Prop} (C : C_X5_find K L c post) {p_isText : MS → Int → Prop} {f_isText : MS → Int → Bool} (h_isText : H_X5_isText p_isText f_isText) {p_no : MS → Int → Prop} {u_no : MS → Int → MS} (h_no : H_X5_no p_no u_no) {p_isIn : MS → Int → Int → Int → Prop} {f_isIn : MS → Int → Int → Int → Bool} (h_isIn : H_X5_isIn p_isIn f_isIn) {σ : MS} {v1 v2 v3 v4 : Int} (h : (p_isText (upM σ 0 (fun _ => 0)) v1) ∧ ((f_isText (upM σ 0 (fun _ => 0)) v1 = true → (-2147483648 ≤ v2 ∧ v2 < 2147483648) ∧ ((v2 < 0 → (p_no (upM σ 0 (fun _ => 0)) 2) ∧ post 0 ((u_no (upM σ 0 (fun _ => 0)) 2))) ∧ (¬ v2 < 0 → (p_isIn (upM σ 0 (fun _ => 0)) v3 0 25) ∧ ((¬ (f_isIn (upM σ 0 (fun _ => 0)) v3 0 25 = true) → (p_no (upM σ 0 (fun _ => 0)) 2) ∧ post 0 ((u_no (upM σ 0 (fun _ => 0)) 2))) ∧ (f_isIn (upM σ 0 (fun _ => 0)) v3 0 25 = true → (p_isIn (upM σ 0 (fun _ => 0)) v4 ((-1)) 25) ∧ ((f_isIn (upM σ 0 (fun _ => 0)) v4 ((-1)) 25 = true → P_X5_find_1 K L c (upM σ 0 (fun _ => 0)) v1 v3 v4 v2) ∧ (¬ (f_isIn (upM σ 0 (fun _ => 0)) v4 ((-1)) 25 = true) → (p_no (upM σ 0 (fun _ => 0)) 2) ∧ post 0 ((u_no (upM σ 0 (fun _ => 0)) 2))))))))) ∧ (¬ (f_isText (upM σ 0 (fun _ => 0)) v1 = true) → (p_no (upM σ 0 (fun _ => 0)) 1) ∧ post 0 ((u_no (upM σ 0 (fun _ => 0)) 1))))) : P_X5_find_0 K L c σ v1 v2 v3 v4 := by
  refine g_aload_n C.1 0 dX5_find_0 rfl rfl ?_
  refine g_iconst C.1 (z := 0) dX5_find_1 ?_
  refine m_put C.1 inX5_find 0 (by decide) (z := 0) (σ' := upM σ 0 (fun _ => 0)) rfl lk_X5_find_f47 rfl rfl rfl dX5_find_2 ?_
  refine g_aload_n C.1 0 dX5_find_5 rfl rfl ?_
  refine g_iload_n C.1 1 dX5_find_6 rfl rfl ?_
  obtain ⟨hp1, h⟩ := h
  refine x_callV C.1 (h_isText K.l L c (upM σ 0 (fun _ => 0)) v1 hp1) (ci := 6) (q := (RX5, TX5, 17)) rfl m_recv (fun ht => cwV 1 ht gX5_find_X5_isText rfl rfl rfl (by decide +kernel) ⟨Nat.le_of_ble_eq_true rfl, Nat.le_of_ble_eq_true rfl⟩) rfl rfl (Nat.le_of_ble_eq_true rfl) ⟨Nat.le_of_ble_eq_true rfl, Nat.le_of_ble_eq_true rfl⟩ dX5_find_7 (fun r σ9 hq => ?_)
  rw [hq.1, hq.2]
  show G K (MW L c [] [] (upM σ 0 (fun _ => 0))) (0, 0) [(0, .ref (L 0)), (1, .int (iZ v1)), (2, .int (iZ v2)), (3, .int (iZ v3)), (4, .int (iZ v4))] 10 [.int (iZ (if f_isText (upM σ 0 (fun _ => 0)) v1 = true then 1 else 0))]
  refine g_ifb_ne C.1 (tgt := 19) dX5_find_10 (by decide) (fun hc => ?_) (fun hc => ?_)
  · have h := h.1 hc
    refine g_iload_n C.1 2 dX5_find_19 rfl rfl ?_
    obtain ⟨hc2, h⟩ := h
    refine g_if_lt C.1 (tgt := 44) dX5_find_20 (by decide) hc2 (fun hc => ?_) (fun hc => ?_)
    · have h := h.1 hc
      refine g_aload_n C.1 0 dX5_find_44 rfl rfl ?_
      refine g_iconst C.1 (z := 2) dX5_find_45 ?_
      obtain ⟨hp3, h⟩ := h
      refine x_callV C.1 (h_no K.l L c (upM σ 0 (fun _ => 0)) 2 hp3) (ci := 6) (q := (RX5, TX5, 17)) rfl m_recv (fun ht => cwV 1 ht gX5_find_X5_no rfl rfl rfl (by decide +kernel) ⟨Nat.le_of_ble_eq_true rfl, Nat.le_of_ble_eq_true rfl⟩) rfl rfl (Nat.le_of_ble_eq_true rfl) ⟨Nat.le_of_ble_eq_true rfl, Nat.le_of_ble_eq_true rfl⟩ dX5_find_46 (fun r σ9 hq => ?_)
      rw [hq.1, hq.2]
      show G K (MW L c [] [] ((u_no (upM σ 0 (fun _ => 0)) 2))) (0, 0) [(0, .ref (L 0)), (1, .int (iZ v1)), (2, .int (iZ v2)), (3, .int (iZ v3)), (4, .int (iZ v4))] 49 [.int (iZ 0)]
      exact x_iret C.1 C.2.2 rfl ⟨Nat.le_of_ble_eq_true rfl, Nat.le_of_ble_eq_true rfl⟩ dX5_find_49 h
    · have h := h.2 hc
      refine g_iload_n C.1 3 dX5_find_23 rfl rfl ?_
      refine g_iconst C.1 (z := 0) dX5_find_24 ?_
      refine g_bipush C.1 (z := 25) dX5_find_25 (by decide) ?_
      obtain ⟨hp4, h⟩ := h
      refine x_callS C.1 (h_isIn K.l L c (upM σ 0 (fun _ => 0)) v3 0 25 hp4) (fun ht => va_cwS 3 ht gX5_find_X5_isIn rfl rfl rfl (by decide +kernel) ⟨Nat.le_of_ble_eq_true rfl, Nat.le_of_ble_eq_true rfl⟩) rfl rfl (Nat.le_of_ble_eq_true rfl) ⟨Nat.le_of_ble_eq_true rfl, Nat.le_of_ble_eq_true rfl⟩ dX5_find_27 (fun r σ9 hq => ?_)
      rw [hq.1, hq.2]
      show G K (MW L c [] [] (upM σ 0 (fun _ => 0))) (0, 0) [(0, .ref (L 0)), (1, .int (iZ v1)), (2, .int (iZ v2)), (3, .int (iZ v3)), (4, .int (iZ v4))] 30 [.int (iZ (if f_isIn (upM σ 0 (fun _ => 0)) v3 0 25 = true then 1 else 0))]
      refine g_ifb_eq C.1 (tgt := 44) dX5_find_30 (by decide) (fun hc => ?_) (fun hc => ?_)
      · have h := h.1 hc
        refine g_aload_n C.1 0 dX5_find_44 rfl rfl ?_
        refine g_iconst C.1 (z := 2) dX5_find_45 ?_
        obtain ⟨hp5, h⟩ := h
        refine x_callV C.1 (h_no K.l L c (upM σ 0 (fun _ => 0)) 2 hp5) (ci := 6) (q := (RX5, TX5, 17)) rfl m_recv (fun ht => cwV 1 ht gX5_find_X5_no rfl rfl rfl (by decide +kernel) ⟨Nat.le_of_ble_eq_true rfl, Nat.le_of_ble_eq_true rfl⟩) rfl rfl (Nat.le_of_ble_eq_true rfl) ⟨Nat.le_of_ble_eq_true rfl, Nat.le_of_ble_eq_true rfl⟩ dX5_find_46 (fun r σ9 hq => ?_)
        rw [hq.1, hq.2]
        show G K (MW L c [] [] ((u_no (upM σ 0 (fun _ => 0)) 2))) (0, 0) [(0, .ref (L 0)), (1, .int (iZ v1)), (2, .int (iZ v2)), (3, .int (iZ v3)), (4, .int (iZ v4))] 49 [.int (iZ 0)]
        exact x_iret C.1 C.2.2 rfl ⟨Nat.le_of_ble_eq_true rfl, Nat.le_of_ble_eq_true rfl⟩ dX5_find_49 h
      · have h := h.2 hc
        refine g_iload C.1 4 dX5_find_33 rfl ?_
        refine g_iconst C.1 (z := (-1)) dX5_find_35 ?_
        refine g_bipush C.1 (z := 25) dX5_find_36 (by decide) ?_
        obtain ⟨hp6, h⟩ := h
        refine x_callS C.1 (h_isIn K.l L c (upM σ 0 (fun _ => 0)) v4 ((-1)) 25 hp6) (fun ht => va_cwS 3 ht gX5_find_X5_isIn rfl rfl rfl (by decide +kernel) ⟨Nat.le_of_ble_eq_true rfl, Nat.le_of_ble_eq_true rfl⟩) rfl rfl (Nat.le_of_ble_eq_true rfl) ⟨Nat.le_of_ble_eq_true rfl, Nat.le_of_ble_eq_true rfl⟩ dX5_find_38 (fun r σ9 hq => ?_)
        rw [hq.1, hq.2]
        show G K (MW L c [] [] (upM σ 0 (fun _ => 0))) (0, 0) [(0, .ref (L 0)), (1, .int (iZ v1)), (2, .int (iZ v2)), (3, .int (iZ v3)), (4, .int (iZ v4))] 41 [.int (iZ (if f_isIn (upM σ 0 (fun _ => 0)) v4 ((-1)) 25 = true then 1 else 0))]
        refine g_ifb_ne C.1 (tgt := 50) dX5_find_41 (by decide) (fun hc => ?_) (fun hc => ?_)
        · have h := h.1 hc
          refine g_iload_n C.1 2 dX5_find_50 rfl rfl ?_
          refine g_istore C.1 (loc' := [(5, .int (iZ v2)), (0, .ref (L 0)), (1, .int (iZ v1)), (2, .int (iZ v2)), (3, .int (iZ v3)), (4, .int (iZ v4))]) C.2.1 dX5_find_51 (by decide) rfl ?_
          exact g_sub [1, 2, 4, 5, 0] rfl h
        · have h := h.2 hc
          refine g_aload_n C.1 0 dX5_find_44 rfl rfl ?_
          refine g_iconst C.1 (z := 2) dX5_find_45 ?_
          obtain ⟨hp7, h⟩ := h
          refine x_callV C.1 (h_no K.l L c (upM σ 0 (fun _ => 0)) 2 hp7) (ci := 6) (q := (RX5, TX5, 17)) rfl m_recv (fun ht => cwV 1 ht gX5_find_X5_no rfl rfl rfl (by decide +kernel) ⟨Nat.le_of_ble_eq_true rfl, Nat.le_of_ble_eq_true rfl⟩) rfl rfl (Nat.le_of_ble_eq_true rfl) ⟨Nat.le_of_ble_eq_true rfl, Nat.le_of_ble_eq_true rfl⟩ dX5_find_46 (fun r σ9 hq => ?_)
          rw [hq.1, hq.2]
          show G K (MW L c [] [] ((u_no (upM σ 0 (fun _ => 0)) 2))) (0, 0) [(0, .ref (L 0)), (1, .int (iZ v1)), (2, .int (iZ v2)), (3, .int (iZ v3)), (4, .int (iZ v4))] 49 [.int (iZ 0)]
          exact x_iret C.1 C.2.2 rfl ⟨Nat.le_of_ble_eq_true rfl, Nat.le_of_ble_eq_true rfl⟩ dX5_find_49 h
  · have h := h.2 hc
    refine g_aload_n C.1 0 dX5_find_13 rfl rfl ?_
    refine g_iconst C.1 (z := 1) dX5_find_14 ?_
    obtain ⟨hp8, h⟩ := h
    refine x_callV C.1 (h_no K.l L c (upM σ 0 (fun _ => 0)) 1 hp8) (ci := 6) (q := (RX5, TX5, 17)) rfl m_recv (fun ht => cwV 1 ht gX5_find_X5_no rfl rfl rfl (by decide +kernel) ⟨Nat.le_of_ble_eq_true rfl, Nat.le_of_ble_eq_true rfl⟩) rfl rfl (Nat.le_of_ble_eq_true rfl) ⟨Nat.le_of_ble_eq_true rfl, Nat.le_of_ble_eq_true rfl⟩ dX5_find_15 (fun r σ9 hq => ?_)
    rw [hq.1, hq.2]
    show G K (MW L c [] [] ((u_no (upM σ 0 (fun _ => 0)) 1))) (0, 0) [(0, .ref (L 0)), (1, .int (iZ v1)), (2, .int (iZ v2)), (3, .int (iZ v3)), (4, .int (iZ v4))] 18 [.int (iZ 0)]
    exact x_iret C.1 C.2.2 rfl ⟨Nat.le_of_ble_eq_true rfl, Nat.le_of_ble_eq_true rfl⟩ dX5_find_18 h
set_option maxRecDepth 100000 in
set_option maxHeartbeats 4000000 in
theorem b_X5_find_1 {K : KT} {L : Nat → Nat} {c : Nat → ClassId} {post : Int → MS → Prop} (C : C_X5_find K L c post) {σ : MS} {v1 v3 v4 v5 : Int} (h : (0 ≤ v1 ∧ v1 < 24) ∧ (-2147483648 ≤ v5 ∧ v5 < 2147483648) ∧ (-2147483648 ≤ ((σ 5) v1) ∧ ((σ 5) v1) < 2147483648) ∧ ((((σ 5) v1) ≤ v5 → post ((-1)) σ) ∧ (¬ ((σ 5) v1) ≤ v5 → (0 ≤ ((120 * v1) + v5) ∧ ((120 * v1) + v5) < 2880) ∧ (-2147483648 ≤ ((σ 4) ((120 * v1) + v5)) ∧ ((σ 4) ((120 * v1) + v5)) < 2147483648) ∧ (-2147483648 ≤ (v3 + 97) ∧ (v3 + 97) < 2147483648) ∧ ((¬ ((σ 4) ((120 * v1) + v5)) = (v3 + 97) → P_X5_find_1 K L c σ v1 v3 v4 (v5 + 1)) ∧ (((σ 4) ((120 * v1) + v5)) = (v3 + 97) → (-2147483648 ≤ v4 ∧ v4 < 2147483648) ∧ ((v4 = ((-1)) → post v5 σ) ∧ (¬ v4 = ((-1)) → (-2147483648 ≤ (v5 + 1) ∧ (v5 + 1) < 2147483648) ∧ ((((σ 5) v1) ≤ (v5 + 1) → P_X5_find_1 K L c σ v1 v3 v4 (v5 + 1)) ∧ (¬ ((σ 5) v1) ≤ (v5 + 1) → (0 ≤ (((120 * v1) + v5) + 1) ∧ (((120 * v1) + v5) + 1) < 2880) ∧ (-2147483648 ≤ ((σ 4) (((120 * v1) + v5) + 1)) ∧ ((σ 4) (((120 * v1) + v5) + 1)) < 2147483648) ∧ (-2147483648 ≤ (v4 + 97) ∧ (v4 + 97) < 2147483648) ∧ ((¬ ((σ 4) (((120 * v1) + v5) + 1)) = (v4 + 97) → P_X5_find_1 K L c σ v1 v3 v4 (v5 + 1)) ∧ (((σ 4) (((120 * v1) + v5) + 1)) = (v4 + 97) → post v5 σ))))))))))) : P_X5_find_1 K L c σ v1 v3 v4 v5 := by
  refine g_iload C.1 4 dX5_find_53 rfl ?_
  refine g_aload_n C.1 0 dX5_find_55 rfl rfl ?_
  refine m_get C.1 inX5_find 5 (by decide) (v := .ref (L 5)) rfl lk_X5_find_f16 rfl dX5_find_56 ?_
  refine g_iload_n C.1 1 dX5_find_59 rfl rfl ?_
  obtain ⟨hi1, h⟩ := h
  refine m_ald C.1 3 2 (N := 24) (f := (σ 5)) (e := v1) rfl rfl (by decide) hi1 dX5_find_60 ?_
  obtain ⟨hc2, h⟩ := h
  obtain ⟨hc3, h⟩ := h
  refine g_icmp_ge C.1 (tgt := 132) dX5_find_61 (by decide) hc2 hc3 (fun hc => ?_) (fun hc => ?_)
  · have h := h.1 hc
    refine g_iconst C.1 (z := (-1)) dX5_find_132 ?_
    exact x_iret C.1 C.2.2 rfl ⟨Nat.le_of_ble_eq_true rfl, Nat.le_of_ble_eq_true rfl⟩ dX5_find_133 h
  · have h := h.2 hc
    refine g_bipush C.1 (z := 120) dX5_find_64 (by decide) ?_
    refine g_iload_n C.1 1 dX5_find_66 rfl rfl ?_
    refine g_imul C.1 (x := 120) (y := v1) dX5_find_67 ?_
    refine g_iload C.1 4 dX5_find_68 rfl ?_
    refine g_iadd C.1 (x := 120 * v1) (y := v5) dX5_find_70 ?_
    refine g_istore C.1 (loc' := [(6, .int (iZ ((120 * v1) + v5))), (0, .ref (L 0)), (1, .int (iZ v1)), (3, .int (iZ v3)), (4, .int (iZ v4)), (5, .int (iZ v5))]) C.2.1 dX5_find_71 (by decide) rfl ?_
    refine g_aload_n C.1 1 dX5_find_73 rfl rfl ?_
    refine m_get C.1 inX5_find 4 (by decide) (v := .ref (L 4)) rfl lk_X5_find_f13 rfl dX5_find_74 ?_
    refine g_iload C.1 0 dX5_find_77 rfl ?_
    obtain ⟨hi4, h⟩ := h
    refine m_ald C.1 2 1 (N := 2880) (f := (σ 4)) (e := ((120 * v1) + v5)) rfl rfl (by decide) hi4 dX5_find_79 ?_
    refine g_iload_n C.1 3 dX5_find_80 rfl rfl ?_
    refine g_bipush C.1 (z := 97) dX5_find_81 (by decide) ?_
    refine g_iadd C.1 (x := v3) (y := 97) dX5_find_83 ?_
    obtain ⟨hc5, h⟩ := h
    obtain ⟨hc6, h⟩ := h
    refine g_icmp_ne C.1 (tgt := 126) dX5_find_84 (by decide) hc5 hc6 (fun hc => ?_) (fun hc => ?_)
    · have h := h.1 hc
      refine g_iinc C.1 (z := v5) (w := 1) (loc' := [(5, .int (iZ (v5 + 1))), (6, .int (iZ ((120 * v1) + v5))), (0, .ref (L 0)), (1, .int (iZ v1)), (3, .int (iZ v3)), (4, .int (iZ v4))]) 5 C.2.1 dX5_find_126 rfl (by decide) rfl ?_
      refine g_goto C.1 (tgt := 53) dX5_find_129 (by decide) ?_
      exact g_sub [2, 3, 4, 5, 0] rfl h
    · have h := h.2 hc
      refine g_iload C.1 4 dX5_find_87 rfl ?_
      refine g_iconst C.1 (z := (-1)) dX5_find_89 ?_
      obtain ⟨hc7, h⟩ := h
      refine g_icmp_eq C.1 (tgt := 123) dX5_find_90 (by decide) hc7 (by decide) (fun hc => ?_) (fun hc => ?_)
      · have h := h.1 hc
        refine g_iload C.1 5 dX5_find_123 rfl ?_
        exact x_iret C.1 C.2.2 rfl ⟨Nat.le_of_ble_eq_true rfl, Nat.le_of_ble_eq_true rfl⟩ dX5_find_125 h
      · have h := h.2 hc
        refine g_iload C.1 5 dX5_find_93 rfl ?_
        refine g_iconst C.1 (z := 1) dX5_find_95 ?_
        refine g_iadd C.1 (x := v5) (y := 1) dX5_find_96 ?_
        refine g_aload_n C.1 1 dX5_find_97 rfl rfl ?_
        refine m_get C.1 inX5_find 5 (by decide) (v := .ref (L 5)) rfl lk_X5_find_f16 rfl dX5_find_98 ?_
        refine g_iload_n C.1 2 dX5_find_101 rfl rfl ?_
        refine m_ald C.1 3 2 (N := 24) (f := (σ 5)) (e := v1) rfl rfl (by decide) hi1 dX5_find_102 ?_
        obtain ⟨hc8, h⟩ := h
        refine g_icmp_ge C.1 (tgt := 126) dX5_find_103 (by decide) hc8 hc3 (fun hc => ?_) (fun hc => ?_)
        · have h := h.1 hc
          refine g_iinc C.1 (z := v5) (w := 1) (loc' := [(5, .int (iZ (v5 + 1))), (6, .int (iZ ((120 * v1) + v5))), (0, .ref (L 0)), (1, .int (iZ v1)), (3, .int (iZ v3)), (4, .int (iZ v4))]) 5 C.2.1 dX5_find_126 rfl (by decide) rfl ?_
          refine g_goto C.1 (tgt := 53) dX5_find_129 (by decide) ?_
          exact g_sub [2, 3, 4, 5, 0] rfl h
        · have h := h.2 hc
          refine g_aload_n C.1 1 dX5_find_106 rfl rfl ?_
          refine m_get C.1 inX5_find 4 (by decide) (v := .ref (L 4)) rfl lk_X5_find_f13 rfl dX5_find_107 ?_
          refine g_iload C.1 0 dX5_find_110 rfl ?_
          refine g_iconst C.1 (z := 1) dX5_find_112 ?_
          refine g_iadd C.1 (x := (120 * v1) + v5) (y := 1) dX5_find_113 ?_
          obtain ⟨hi9, h⟩ := h
          refine m_ald C.1 2 1 (N := 2880) (f := (σ 4)) (e := (((120 * v1) + v5) + 1)) rfl rfl (by decide) hi9 dX5_find_114 ?_
          refine g_iload C.1 4 dX5_find_115 rfl ?_
          refine g_bipush C.1 (z := 97) dX5_find_117 (by decide) ?_
          refine g_iadd C.1 (x := v4) (y := 97) dX5_find_119 ?_
          obtain ⟨hc10, h⟩ := h
          obtain ⟨hc11, h⟩ := h
          refine g_icmp_ne C.1 (tgt := 126) dX5_find_120 (by decide) hc10 hc11 (fun hc => ?_) (fun hc => ?_)
          · have h := h.1 hc
            refine g_iinc C.1 (z := v5) (w := 1) (loc' := [(5, .int (iZ (v5 + 1))), (6, .int (iZ ((120 * v1) + v5))), (0, .ref (L 0)), (1, .int (iZ v1)), (3, .int (iZ v3)), (4, .int (iZ v4))]) 5 C.2.1 dX5_find_126 rfl (by decide) rfl ?_
            refine g_goto C.1 (tgt := 53) dX5_find_129 (by decide) ?_
            exact g_sub [2, 3, 4, 5, 0] rfl h
          · have h := h.2 hc
            refine g_iload C.1 5 dX5_find_123 rfl ?_
            exact x_iret C.1 C.2.2 rfl ⟨Nat.le_of_ble_eq_true rfl, Nat.le_of_ble_eq_true rfl⟩ dX5_find_125 h
def H_X5_find (p : MS → Int → Int → Int → Int → Prop) (o : MS → Int → Int → Int → Int → Int → MS → Prop) : Prop := ∀ (l : Launch) (L : Nat → Nat) (c : Nat → ClassId) (σ : MS) (v1 v2 v3 v4 : Int), p σ v1 v2 v3 v4 → xMet l yX5_find wsX5_find rm_X5_find (MW L c [] []) rkI [.ref (L 0), .int (iZ v1), .int (iZ v2), .int (iZ v3), .int (iZ v4)] σ (fun r σ' => o σ v1 v2 v3 v4 r σ')
theorem m_X5_find {l : Launch} {L : Nat → Nat} {c : Nat → ClassId} {σ : MS} {v1 v2 v3 v4 : Int} {post : Int → MS → Prop} (h : ∀ K : KT, K.l = l → C_X5_find K L c post → P_X5_find_0 K L c σ v1 v2 v3 v4) : xMet l yX5_find wsX5_find rm_X5_find (MW L c [] []) rkI [.ref (L 0), .int (iZ v1), .int (iZ v2), .int (iZ v3), .int (iZ v4)] σ post :=
  xMet.of (maxL := 7) (by decide +kernel) rfl (Nat.le_of_ble_eq_true rfl) (fun K h1 h2 h3 h4 _ => h K h1 ⟨h2, h4, h3⟩)

/-! X5_votedLength -/
abbrev rm_X5_votedLength : Room := { frames := 0, cells := 0, slots := 0, locals := 0 }
theorem inX5_votedLength : ∀ w ∈ wsX50, w ∈ wsX5_votedLength := by decide +kernel
theorem lk_X5_votedLength_f51 : Cond.fieldLink RX5 51 "CopyHouseModel" "texts" "I" ∈ wsX5_votedLength := List.mem_of_getElem? (i := 1) (by decide +kernel)
theorem lk_X5_votedLength_f25 : Cond.fieldLink RX5 25 "CopyHouseModel" "isThere" "[Z" ∈ wsX5_votedLength := List.mem_of_getElem? (i := 2) (by decide +kernel)
theorem lk_X5_votedLength_f16 : Cond.fieldLink RX5 16 "CopyHouseModel" "length" "[I" ∈ wsX5_votedLength := List.mem_of_getElem? (i := 3) (by decide +kernel)
def C_X5_votedLength (K : KT) (L : Nat → Nat) (c : Nat → ClassId) (post : Int → MS → Prop) : Prop := kOK K cX5_votedLength RX5 wsX5_votedLength (some .int) rm_X5_votedLength ∧ K.nL = 6 ∧ kQ K (MW L c [] []) rkI post rm_X5_votedLength
def P_X5_votedLength_0 (K : KT) (L : Nat → Nat) (c : Nat → ClassId) (σ : MS) : Prop := G K (MW L c [] [] σ) (0, 0) [(0, .ref (L 0))] 0 []
def P_X5_votedLength_1 (K : KT) (L : Nat → Nat) (c : Nat → ClassId) (σ : MS) (v1 v2 v3 : Int) : Prop := G K (MW L c [] [] σ) (0, 0) [(0, .ref (L 0)), (1, .int (iZ v1)), (2, .int (iZ v2)), (3, .int (iZ v3))] 6 []
def P_X5_votedLength_2 (K : KT) (L : Nat → Nat) (c : Nat → ClassId) (σ : MS) (v1 v2 v3 v4 v5 : Int) : Prop := G K (MW L c [] [] σ) (0, 0) [(0, .ref (L 0)), (1, .int (iZ v1)), (2, .int (iZ v2)), (3, .int (iZ v3)), (4, .int (iZ v4)), (5, .int (iZ v5))] 18 []
set_option maxRecDepth 100000 in
set_option maxHeartbeats 4000000 in
theorem b_X5_votedLength_0 {K : KT} {L : Nat → Nat} {c : Nat → ClassId} {post : Int → MS → Prop} (C : C_X5_votedLength K L c post) {σ : MS} (h : P_X5_votedLength_1 K L c σ 0 0 0) : P_X5_votedLength_0 K L c σ := by
  refine g_iconst C.1 (z := 0) dX5_votedLength_0 ?_
  refine g_istore_n C.1 (loc' := [(1, .int (iZ 0)), (0, .ref (L 0))]) C.2.1 dX5_votedLength_1 rfl (by decide) rfl ?_
  refine g_iconst C.1 (z := 0) dX5_votedLength_2 ?_
  refine g_istore_n C.1 (loc' := [(2, .int (iZ 0)), (1, .int (iZ 0)), (0, .ref (L 0))]) C.2.1 dX5_votedLength_3 rfl (by decide) rfl ?_
  refine g_iconst C.1 (z := 0) dX5_votedLength_4 ?_
  refine g_istore_n C.1 (loc' := [(3, .int (iZ 0)), (2, .int (iZ 0)), (1, .int (iZ 0)), (0, .ref (L 0))]) C.2.1 dX5_votedLength_5 rfl (by decide) rfl ?_
  exact g_sub [3, 2, 1, 0] rfl h
set_option maxRecDepth 100000 in
set_option maxHeartbeats 4000000 in
theorem b_X5_votedLength_1 {K : KT} {L : Nat → Nat} {c : Nat → ClassId} {post : Int → MS → Prop} (C : C_X5_votedLength K L c post) {σ : MS} {v1 v2 v3 : Int} (h : (-2147483648 ≤ v3 ∧ v3 < 2147483648) ∧ ((120 < v3 → post v1 σ) ∧ (¬ 120 < v3 → P_X5_votedLength_2 K L c σ v1 v2 v3 0 0))) : P_X5_votedLength_1 K L c σ v1 v2 v3 := by
  refine g_iload_n C.1 3 dX5_votedLength_6 rfl rfl ?_
  refine g_bipush C.1 (z := 120) dX5_votedLength_7 (by decide) ?_
  obtain ⟨hc1, h⟩ := h
  refine g_icmp_gt C.1 (tgt := 84) dX5_votedLength_9 (by decide) hc1 (by decide) (fun hc => ?_) (fun hc => ?_)
  · have h := h.1 hc
    refine g_iload_n C.1 1 dX5_votedLength_84 rfl rfl ?_
    exact x_iret C.1 C.2.2 rfl ⟨Nat.le_of_ble_eq_true rfl, Nat.le_of_ble_eq_true rfl⟩ dX5_votedLength_85 h
  · have h := h.2 hc
    refine g_iconst C.1 (z := 0) dX5_votedLength_12 ?_
    refine g_istore C.1 (loc' := [(4, .int (iZ 0)), (0, .ref (L 0)), (1, .int (iZ v1)), (2, .int (iZ v2)), (3, .int (iZ v3))]) C.2.1 dX5_votedLength_13 (by decide) rfl ?_
    refine g_iconst C.1 (z := 0) dX5_votedLength_15 ?_
    refine g_istore C.1 (loc' := [(5, .int (iZ 0)), (4, .int (iZ 0)), (0, .ref (L 0)), (1, .int (iZ v1)), (2, .int (iZ v2)), (3, .int (iZ v3))]) C.2.1 dX5_votedLength_16 (by decide) rfl ?_
    exact g_sub [2, 3, 4, 5, 1, 0] rfl h
set_option maxRecDepth 100000 in
set_option maxHeartbeats 4000000 in
theorem b_X5_votedLength_2 {K : KT} {L : Nat → Nat} {c : Nat → ClassId} {post : Int → MS → Prop} (C : C_X5_votedLength K L c post) {σ : MS} {v1 v2 v3 v4 v5 : Int} (h : (-2147483648 ≤ v5 ∧ v5 < 2147483648) ∧ (-2147483648 ≤ (σ 3 0) ∧ (σ 3 0) < 2147483648) ∧ (((σ 3 0) ≤ v5 → (-2147483648 ≤ v4 ∧ v4 < 2147483648) ∧ (-2147483648 ≤ v2 ∧ v2 < 2147483648) ∧ ((v2 < v4 → P_X5_votedLength_1 K L c σ v3 v4 (v3 + 1)) ∧ (¬ v2 < v4 → P_X5_votedLength_1 K L c σ v1 v2 (v3 + 1)))) ∧ (¬ (σ 3 0) ≤ v5 → (0 ≤ v5 ∧ v5 < 24) ∧ (-2147483648 ≤ ((σ 8) v5) ∧ ((σ 8) v5) < 2147483648) ∧ ((((σ 8) v5) = 0 → P_X5_votedLength_2 K L c σ v1 v2 v3 (v4 + 0) (v5 + 1)) ∧ (¬ ((σ 8) v5) = 0 → (-2147483648 ≤ ((σ 5) v5) ∧ ((σ 5) v5) < 2147483648) ∧ (-2147483648 ≤ v3 ∧ v3 < 2147483648) ∧ ((¬ ((σ 5) v5) = v3 → P_X5_votedLength_2 K L c σ v1 v2 v3 (v4 + 0) (v5 + 1)) ∧ (((σ 5) v5) = v3 → P_X5_votedLength_2 K L c σ v1 v2 v3 (v4 + 1) (v5 + 1)))))))) : P_X5_votedLength_2 K L c σ v1 v2 v3 v4 v5 := by
  refine g_iload C.1 5 dX5_votedLength_18 rfl ?_
  refine g_aload_n C.1 0 dX5_votedLength_20 rfl rfl ?_
  refine m_get C.1 inX5_votedLength 3 (by decide) (v := .int (iZ (σ 3 0))) rfl lk_X5_votedLength_f51 rfl dX5_votedLength_21 ?_
  obtain ⟨hc1, h⟩ := h
  obtain ⟨hc2, h⟩ := h
  refine g_icmp_ge C.1 (tgt := 64) dX5_votedLength_24 (by decide) hc1 hc2 (fun hc => ?_) (fun hc => ?_)
  · have h := h.1 hc
    refine g_iload C.1 4 dX5_votedLength_64 rfl ?_
    refine g_iload_n C.1 2 dX5_votedLength_66 rfl rfl ?_
    obtain ⟨hc3, h⟩ := h
    obtain ⟨hc4, h⟩ := h
    refine g_icmp_gt C.1 (tgt := 73) dX5_votedLength_67 (by decide) hc3 hc4 (fun hc => ?_) (fun hc => ?_)
    · have h := h.1 hc
      refine g_iload C.1 4 dX5_votedLength_73 rfl ?_
      refine g_istore_n C.1 (loc' := [(2, .int (iZ v4)), (0, .ref (L 0)), (1, .int (iZ v1)), (3, .int (iZ v3)), (4, .int (iZ v4)), (5, .int (iZ v5))]) C.2.1 dX5_votedLength_75 rfl (by decide) rfl ?_
      refine g_iload_n C.1 3 dX5_votedLength_76 rfl rfl ?_
      refine g_istore_n C.1 (loc' := [(1, .int (iZ v3)), (2, .int (iZ v4)), (0, .ref (L 0)), (3, .int (iZ v3)), (4, .int (iZ v4)), (5, .int (iZ v5))]) C.2.1 dX5_votedLength_77 rfl (by decide) rfl ?_
      refine g_iinc C.1 (z := v3) (w := 1) (loc' := [(3, .int (iZ (v3 + 1))), (1, .int (iZ v3)), (2, .int (iZ v4)), (0, .ref (L 0)), (4, .int (iZ v4)), (5, .int (iZ v5))]) 3 C.2.1 dX5_votedLength_78 rfl (by decide) rfl ?_
      refine g_goto C.1 (tgt := 6) dX5_votedLength_81 (by decide) ?_
      exact g_sub [3, 1, 2, 0] rfl h
    · have h := h.2 hc
      refine g_goto C.1 (tgt := 78) dX5_votedLength_70 (by decide) ?_
      refine g_iinc C.1 (z := v3) (w := 1) (loc' := [(3, .int (iZ (v3 + 1))), (0, .ref (L 0)), (1, .int (iZ v1)), (2, .int (iZ v2)), (4, .int (iZ v4)), (5, .int (iZ v5))]) 3 C.2.1 dX5_votedLength_78 rfl (by decide) rfl ?_
      refine g_goto C.1 (tgt := 6) dX5_votedLength_81 (by decide) ?_
      exact g_sub [1, 2, 3, 0] rfl h
  · have h := h.2 hc
    refine g_iload C.1 4 dX5_votedLength_27 rfl ?_
    refine g_aload_n C.1 0 dX5_votedLength_29 rfl rfl ?_
    refine m_get C.1 inX5_votedLength 8 (by decide) (v := .ref (L 8)) rfl lk_X5_votedLength_f25 rfl dX5_votedLength_30 ?_
    refine g_iload C.1 5 dX5_votedLength_33 rfl ?_
    obtain ⟨hi5, h⟩ := h
    refine m_zald C.1 6 5 (N := 24) (f := (σ 8)) (e := v5) rfl rfl (by decide) hi5 dX5_votedLength_35 ?_
    obtain ⟨hc6, h⟩ := h
    refine g_if_eq C.1 (tgt := 54) dX5_votedLength_36 (by decide) hc6 (fun hc => ?_) (fun hc => ?_)
    · have h := h.1 hc
      refine g_iconst C.1 (z := 0) dX5_votedLength_54 ?_
      refine g_iadd C.1 (x := v4) (y := 0) dX5_votedLength_55 ?_
      refine g_istore C.1 (loc' := [(4, .int (iZ (v4 + 0))), (0, .ref (L 0)), (1, .int (iZ v1)), (2, .int (iZ v2)), (3, .int (iZ v3)), (5, .int (iZ v5))]) C.2.1 dX5_votedLength_56 (by decide) rfl ?_
      refine g_iinc C.1 (z := v5) (w := 1) (loc' := [(5, .int (iZ (v5 + 1))), (4, .int (iZ (v4 + 0))), (0, .ref (L 0)), (1, .int (iZ v1)), (2, .int (iZ v2)), (3, .int (iZ v3))]) 5 C.2.1 dX5_votedLength_58 rfl (by decide) rfl ?_
      refine g_goto C.1 (tgt := 18) dX5_votedLength_61 (by decide) ?_
      exact g_sub [2, 3, 4, 5, 1, 0] rfl h
    · have h := h.2 hc
      refine g_aload_n C.1 0 dX5_votedLength_39 rfl rfl ?_
      refine m_get C.1 inX5_votedLength 5 (by decide) (v := .ref (L 5)) rfl lk_X5_votedLength_f16 rfl dX5_votedLength_40 ?_
      refine g_iload C.1 5 dX5_votedLength_43 rfl ?_
      refine m_ald C.1 3 2 (N := 24) (f := (σ 5)) (e := v5) rfl rfl (by decide) hi5 dX5_votedLength_45 ?_
      refine g_iload_n C.1 3 dX5_votedLength_46 rfl rfl ?_
      obtain ⟨hc7, h⟩ := h
      obtain ⟨hc8, h⟩ := h
      refine g_icmp_ne C.1 (tgt := 54) dX5_votedLength_47 (by decide) hc7 hc8 (fun hc => ?_) (fun hc => ?_)
      · have h := h.1 hc
        refine g_iconst C.1 (z := 0) dX5_votedLength_54 ?_
        refine g_iadd C.1 (x := v4) (y := 0) dX5_votedLength_55 ?_
        refine g_istore C.1 (loc' := [(4, .int (iZ (v4 + 0))), (0, .ref (L 0)), (1, .int (iZ v1)), (2, .int (iZ v2)), (3, .int (iZ v3)), (5, .int (iZ v5))]) C.2.1 dX5_votedLength_56 (by decide) rfl ?_
        refine g_iinc C.1 (z := v5) (w := 1) (loc' := [(5, .int (iZ (v5 + 1))), (4, .int (iZ (v4 + 0))), (0, .ref (L 0)), (1, .int (iZ v1)), (2, .int (iZ v2)), (3, .int (iZ v3))]) 5 C.2.1 dX5_votedLength_58 rfl (by decide) rfl ?_
        refine g_goto C.1 (tgt := 18) dX5_votedLength_61 (by decide) ?_
        exact g_sub [2, 3, 4, 5, 1, 0] rfl h
      · have h := h.2 hc
        refine g_iconst C.1 (z := 1) dX5_votedLength_50 ?_
        refine g_goto C.1 (tgt := 55) dX5_votedLength_51 (by decide) ?_
        refine g_iadd C.1 (x := v4) (y := 1) dX5_votedLength_55 ?_
        refine g_istore C.1 (loc' := [(4, .int (iZ (v4 + 1))), (0, .ref (L 0)), (1, .int (iZ v1)), (2, .int (iZ v2)), (3, .int (iZ v3)), (5, .int (iZ v5))]) C.2.1 dX5_votedLength_56 (by decide) rfl ?_
        refine g_iinc C.1 (z := v5) (w := 1) (loc' := [(5, .int (iZ (v5 + 1))), (4, .int (iZ (v4 + 1))), (0, .ref (L 0)), (1, .int (iZ v1)), (2, .int (iZ v2)), (3, .int (iZ v3))]) 5 C.2.1 dX5_votedLength_58 rfl (by decide) rfl ?_
        refine g_goto C.1 (tgt := 18) dX5_votedLength_61 (by decide) ?_
        exact g_sub [2, 3, 4, 5, 1, 0] rfl h
def H_X5_votedLength (p : MS → Prop) (f : MS → Int) : Prop := ∀ (l : Launch) (L : Nat → Nat) (c : Nat → ClassId) (σ : MS), p σ → xMet l yX5_votedLength wsX5_votedLength rm_X5_votedLength (MW L c [] []) rkI [.ref (L 0)] σ (fun r σ' => r = f σ ∧ σ' = σ)
theorem m_X5_votedLength {l : Launch} {L : Nat → Nat} {c : Nat → ClassId} {σ : MS} {post : Int → MS → Prop} (h : ∀ K : KT, K.l = l → C_X5_votedLength K L c post → P_X5_votedLength_0 K L c σ) : xMet l yX5_votedLength wsX5_votedLength rm_X5_votedLength (MW L c [] []) rkI [.ref (L 0)] σ post :=
  xMet.of (maxL := 6) (by decide +kernel) rfl (Nat.le_of_ble_eq_true rfl) (fun K h1 h2 h3 h4 _ => h K h1 ⟨h2, h4, h3⟩)

/-! X5_voteLength -/
abbrev rm_X5_voteLength : Room := { frames := 1, cells := 0, slots := 0, locals := 25 }
theorem inX5_voteLength : ∀ w ∈ wsX50, w ∈ wsX5_voteLength := by decide +kernel
theorem lk_X5_voteLength_f47 : Cond.fieldLink RX5 47 "CopyHouseModel" "thrown" "I" ∈ wsX5_voteLength := List.mem_of_getElem? (i := 1) (by decide +kernel)
def C_X5_voteLength (K : KT) (L : Nat → Nat) (c : Nat → ClassId) (post : Int → MS → Prop) : Prop := kOK K cX5_voteLength RX5 wsX5_voteLength (some .int) rm_X5_voteLength ∧ K.nL = 1 ∧ kQ K (MW L c [] []) rkI post rm_X5_voteLength
def P_X5_voteLength_0 (K : KT) (L : Nat → Nat) (c : Nat → ClassId) (σ : MS) : Prop := G K (MW L c [] [] σ) (0, 0) [(0, .ref (L 0))] 0 []
set_option maxRecDepth 100000 in
set_option maxHeartbeats 4000000 in
theorem b_X5_voteLength_0 {K : KT} {L : Nat → Nat} {c : Nat → ClassId} {post : Int → MS → Prop} (C : C_X5_voteLength K L c post) {p_votedLength : MS → Prop} {f_votedLength : MS → Int} (h_votedLength : H_X5_votedLength p_votedLength f_votedLength) {σ : MS} (h : (p_votedLength (upM σ 0 (fun _ => 0))) ∧ post (f_votedLength (upM σ 0 (fun _ => 0))) (upM σ 0 (fun _ => 0))) : P_X5_voteLength_0 K L c σ := by
  refine g_aload_n C.1 0 dX5_voteLength_0 rfl rfl ?_
  refine g_iconst C.1 (z := 0) dX5_voteLength_1 ?_
  refine m_put C.1 inX5_voteLength 0 (by decide) (z := 0) (σ' := upM σ 0 (fun _ => 0)) rfl lk_X5_voteLength_f47 rfl rfl rfl dX5_voteLength_2 ?_
  refine g_aload_n C.1 0 dX5_voteLength_5 rfl rfl ?_
  obtain ⟨hp1, h⟩ := h
  refine x_callV C.1 (h_votedLength K.l L c (upM σ 0 (fun _ => 0)) hp1) (ci := 6) (q := (RX5, TX5, 17)) rfl m_recv (fun ht => cwV 0 ht gX5_voteLength_X5_votedLength rfl rfl rfl (by decide +kernel) ⟨Nat.le_of_ble_eq_true rfl, Nat.le_of_ble_eq_true rfl⟩) rfl rfl (Nat.le_of_ble_eq_true rfl) ⟨Nat.le_of_ble_eq_true rfl, Nat.le_of_ble_eq_true rfl⟩ dX5_voteLength_6 (fun r σ9 hq => ?_)
  rw [hq.1, hq.2]
  show G K (MW L c [] [] (upM σ 0 (fun _ => 0))) (0, 0) [(0, .ref (L 0))] 9 [.int (iZ (f_votedLength (upM σ 0 (fun _ => 0))))]
  exact x_iret C.1 C.2.2 rfl ⟨Nat.le_of_ble_eq_true rfl, Nat.le_of_ble_eq_true rfl⟩ dX5_voteLength_9 h
def H_X5_voteLength (p : MS → Prop) (o : MS → Int → MS → Prop) : Prop := ∀ (l : Launch) (L : Nat → Nat) (c : Nat → ClassId) (σ : MS), p σ → xMet l yX5_voteLength wsX5_voteLength rm_X5_voteLength (MW L c [] []) rkI [.ref (L 0)] σ (fun r σ' => o σ r σ')
theorem m_X5_voteLength {l : Launch} {L : Nat → Nat} {c : Nat → ClassId} {σ : MS} {post : Int → MS → Prop} (h : ∀ K : KT, K.l = l → C_X5_voteLength K L c post → P_X5_voteLength_0 K L c σ) : xMet l yX5_voteLength wsX5_voteLength rm_X5_voteLength (MW L c [] []) rkI [.ref (L 0)] σ post :=
  xMet.of (maxL := 1) (by decide +kernel) rfl (Nat.le_of_ble_eq_true rfl) (fun K h1 h2 h3 h4 _ => h K h1 ⟨h2, h4, h3⟩)

/-! X5_voted -/
abbrev rm_X5_voted : Room := { frames := 0, cells := 0, slots := 0, locals := 0 }
theorem inX5_voted : ∀ w ∈ wsX50, w ∈ wsX5_voted := by decide +kernel
theorem lk_X5_voted_f51 : Cond.fieldLink RX5 51 "CopyHouseModel" "texts" "I" ∈ wsX5_voted := List.mem_of_getElem? (i := 1) (by decide +kernel)
theorem lk_X5_voted_f25 : Cond.fieldLink RX5 25 "CopyHouseModel" "isThere" "[Z" ∈ wsX5_voted := List.mem_of_getElem? (i := 2) (by decide +kernel)
theorem lk_X5_voted_f16 : Cond.fieldLink RX5 16 "CopyHouseModel" "length" "[I" ∈ wsX5_voted := List.mem_of_getElem? (i := 3) (by decide +kernel)
theorem lk_X5_voted_f13 : Cond.fieldLink RX5 13 "CopyHouseModel" "letters" "[I" ∈ wsX5_voted := List.mem_of_getElem? (i := 4) (by decide +kernel)
def C_X5_voted (K : KT) (L : Nat → Nat) (c : Nat → ClassId) (post : Int → MS → Prop) : Prop := kOK K cX5_voted RX5 wsX5_voted (some .int) rm_X5_voted ∧ K.nL = 8 ∧ kQ K (MW L c [] []) rkI post rm_X5_voted
def P_X5_voted_0 (K : KT) (L : Nat → Nat) (c : Nat → ClassId) (σ : MS) (v1 v2 : Int) : Prop := G K (MW L c [] [] σ) (0, 0) [(0, .ref (L 0)), (1, .int (iZ v1)), (2, .int (iZ v2))] 0 []
def P_X5_voted_1 (K : KT) (L : Nat → Nat) (c : Nat → ClassId) (σ : MS) (v1 v2 v3 v4 v5 : Int) : Prop := G K (MW L c [] [] σ) (0, 0) [(0, .ref (L 0)), (1, .int (iZ v1)), (2, .int (iZ v2)), (3, .int (iZ v3)), (4, .int (iZ v4)), (5, .int (iZ v5))] 9 []
def P_X5_voted_2 (K : KT) (L : Nat → Nat) (c : Nat → ClassId) (σ : MS) (v1 v2 v3 v4 v5 v6 v7 : Int) : Prop := G K (MW L c [] [] σ) (0, 0) [(0, .ref (L 0)), (1, .int (iZ v1)), (2, .int (iZ v2)), (3, .int (iZ v3)), (4, .int (iZ v4)), (5, .int (iZ v5)), (6, .int (iZ v6)), (7, .int (iZ v7))] 22 []
set_option maxRecDepth 100000 in
set_option maxHeartbeats 4000000 in
theorem b_X5_voted_0 {K : KT} {L : Nat → Nat} {c : Nat → ClassId} {post : Int → MS → Prop} (C : C_X5_voted K L c post) {σ : MS} {v1 v2 : Int} (h : P_X5_voted_1 K L c σ v1 v2 0 0 97) : P_X5_voted_0 K L c σ v1 v2 := by
  refine g_iconst C.1 (z := 0) dX5_voted_0 ?_
  refine g_istore_n C.1 (loc' := [(3, .int (iZ 0)), (0, .ref (L 0)), (1, .int (iZ v1)), (2, .int (iZ v2))]) C.2.1 dX5_voted_1 rfl (by decide) rfl ?_
  refine g_iconst C.1 (z := 0) dX5_voted_2 ?_
  refine g_istore C.1 (loc' := [(4, .int (iZ 0)), (3, .int (iZ 0)), (0, .ref (L 0)), (1, .int (iZ v1)), (2, .int (iZ v2))]) C.2.1 dX5_voted_3 (by decide) rfl ?_
  refine g_bipush C.1 (z := 97) dX5_voted_5 (by decide) ?_
  refine g_istore C.1 (loc' := [(5, .int (iZ 97)), (4, .int (iZ 0)), (3, .int (iZ 0)), (0, .ref (L 0)), (1, .int (iZ v1)), (2, .int (iZ v2))]) C.2.1 dX5_voted_7 (by decide) rfl ?_
  exact g_sub [3, 4, 5, 2, 1, 0] rfl h
set_option maxRecDepth 100000 in
set_option maxHeartbeats 4000000 in
theorem b_X5_voted_1 {K : KT} {L : Nat → Nat} {c : Nat → ClassId} {post : Int → MS → Prop} (C : C_X5_voted K L c post) {σ : MS} {v1 v2 v3 v4 v5 : Int} (h : (-2147483648 ≤ v5 ∧ v5 < 2147483648) ∧ ((122 < v5 → post v3 σ) ∧ (¬ 122 < v5 → P_X5_voted_2 K L c σ v1 v2 v3 v4 v5 0 0))) : P_X5_voted_1 K L c σ v1 v2 v3 v4 v5 := by
  refine g_iload C.1 5 dX5_voted_9 rfl ?_
  refine g_bipush C.1 (z := 122) dX5_voted_11 (by decide) ?_
  obtain ⟨hc1, h⟩ := h
  refine g_icmp_gt C.1 (tgt := 108) dX5_voted_13 (by decide) hc1 (by decide) (fun hc => ?_) (fun hc => ?_)
  · have h := h.1 hc
    refine g_iload_n C.1 3 dX5_voted_108 rfl rfl ?_
    exact x_iret C.1 C.2.2 rfl ⟨Nat.le_of_ble_eq_true rfl, Nat.le_of_ble_eq_true rfl⟩ dX5_voted_109 h
  · have h := h.2 hc
    refine g_iconst C.1 (z := 0) dX5_voted_16 ?_
    refine g_istore C.1 (loc' := [(6, .int (iZ 0)), (0, .ref (L 0)), (1, .int (iZ v1)), (2, .int (iZ v2)), (3, .int (iZ v3)), (4, .int (iZ v4)), (5, .int (iZ v5))]) C.2.1 dX5_voted_17 (by decide) rfl ?_
    refine g_iconst C.1 (z := 0) dX5_voted_19 ?_
    refine g_istore C.1 (loc' := [(7, .int (iZ 0)), (6, .int (iZ 0)), (0, .ref (L 0)), (1, .int (iZ v1)), (2, .int (iZ v2)), (3, .int (iZ v3)), (4, .int (iZ v4)), (5, .int (iZ v5))]) C.2.1 dX5_voted_20 (by decide) rfl ?_
    exact g_sub [2, 3, 4, 5, 6, 7, 1, 0] rfl h
set_option maxRecDepth 100000 in
set_option maxHeartbeats 4000000 in
theorem b_X5_voted_2 {K : KT} {L : Nat → Nat} {c : Nat → ClassId} {post : Int → MS → Prop} (C : C_X5_voted K L c post) {σ : MS} {v1 v2 v3 v4 v5 v6 v7 : Int} (h : (-2147483648 ≤ v7 ∧ v7 < 2147483648) ∧ (-2147483648 ≤ (σ 3 0) ∧ (σ 3 0) < 2147483648) ∧ (((σ 3 0) ≤ v7 → (-2147483648 ≤ v6 ∧ v6 < 2147483648) ∧ (-2147483648 ≤ v4 ∧ v4 < 2147483648) ∧ ((v4 < v6 → P_X5_voted_1 K L c σ v1 v2 v5 v6 (v5 + 1)) ∧ (¬ v4 < v6 → P_X5_voted_1 K L c σ v1 v2 v3 v4 (v5 + 1)))) ∧ (¬ (σ 3 0) ≤ v7 → (0 ≤ v7 ∧ v7 < 24) ∧ (-2147483648 ≤ ((σ 8) v7) ∧ ((σ 8) v7) < 2147483648) ∧ ((((σ 8) v7) = 0 → P_X5_voted_2 K L c σ v1 v2 v3 v4 v5 (v6 + 0) (v7 + 1)) ∧ (¬ ((σ 8) v7) = 0 → (-2147483648 ≤ ((σ 5) v7) ∧ ((σ 5) v7) < 2147483648) ∧ (-2147483648 ≤ v2 ∧ v2 < 2147483648) ∧ ((¬ ((σ 5) v7) = v2 → P_X5_voted_2 K L c σ v1 v2 v3 v4 v5 (v6 + 0) (v7 + 1)) ∧ (((σ 5) v7) = v2 → (0 ≤ ((120 * v7) + v1) ∧ ((120 * v7) + v1) < 2880) ∧ (-2147483648 ≤ ((σ 4) ((120 * v7) + v1)) ∧ ((σ 4) ((120 * v7) + v1)) < 2147483648) ∧ (-2147483648 ≤ v5 ∧ v5 < 2147483648) ∧ ((¬ ((σ 4) ((120 * v7) + v1)) = v5 → P_X5_voted_2 K L c σ v1 v2 v3 v4 v5 (v6 + 0) (v7 + 1)) ∧ (((σ 4) ((120 * v7) + v1)) = v5 → P_X5_voted_2 K L c σ v1 v2 v3 v4 v5 (v6 + 1) (v7 + 1)))))))))) : P_X5_voted_2 K L c σ v1 v2 v3 v4 v5 v6 v7 := by
  refine g_iload C.1 7 dX5_voted_22 rfl ?_
  refine g_aload_n C.1 0 dX5_voted_24 rfl rfl ?_
  refine m_get C.1 inX5_voted 3 (by decide) (v := .int (iZ (σ 3 0))) rfl lk_X5_voted_f51 rfl dX5_voted_25 ?_
  obtain ⟨hc1, h⟩ := h
  obtain ⟨hc2, h⟩ := h
  refine g_icmp_ge C.1 (tgt := 85) dX5_voted_28 (by decide) hc1 hc2 (fun hc => ?_) (fun hc => ?_)
  · have h := h.1 hc
    refine g_iload C.1 6 dX5_voted_85 rfl ?_
    refine g_iload C.1 4 dX5_voted_87 rfl ?_
    obtain ⟨hc3, h⟩ := h
    obtain ⟨hc4, h⟩ := h
    refine g_icmp_gt C.1 (tgt := 95) dX5_voted_89 (by decide) hc3 hc4 (fun hc => ?_) (fun hc => ?_)
    · have h := h.1 hc
      refine g_iload C.1 6 dX5_voted_95 rfl ?_
      refine g_istore C.1 (loc' := [(4, .int (iZ v6)), (0, .ref (L 0)), (1, .int (iZ v1)), (2, .int (iZ v2)), (3, .int (iZ v3)), (5, .int (iZ v5)), (6, .int (iZ v6)), (7, .int (iZ v7))]) C.2.1 dX5_voted_97 (by decide) rfl ?_
      refine g_iload C.1 5 dX5_voted_99 rfl ?_
      refine g_istore_n C.1 (loc' := [(3, .int (iZ v5)), (4, .int (iZ v6)), (0, .ref (L 0)), (1, .int (iZ v1)), (2, .int (iZ v2)), (5, .int (iZ v5)), (6, .int (iZ v6)), (7, .int (iZ v7))]) C.2.1 dX5_voted_101 rfl (by decide) rfl ?_
      refine g_iinc C.1 (z := v5) (w := 1) (loc' := [(5, .int (iZ (v5 + 1))), (3, .int (iZ v5)), (4, .int (iZ v6)), (0, .ref (L 0)), (1, .int (iZ v1)), (2, .int (iZ v2)), (6, .int (iZ v6)), (7, .int (iZ v7))]) 5 C.2.1 dX5_voted_102 rfl (by decide) rfl ?_
      refine g_goto C.1 (tgt := 9) dX5_voted_105 (by decide) ?_
      exact g_sub [3, 4, 5, 1, 2, 0] rfl h
    · have h := h.2 hc
      refine g_goto C.1 (tgt := 102) dX5_voted_92 (by decide) ?_
      refine g_iinc C.1 (z := v5) (w := 1) (loc' := [(5, .int (iZ (v5 + 1))), (0, .ref (L 0)), (1, .int (iZ v1)), (2, .int (iZ v2)), (3, .int (iZ v3)), (4, .int (iZ v4)), (6, .int (iZ v6)), (7, .int (iZ v7))]) 5 C.2.1 dX5_voted_102 rfl (by decide) rfl ?_
      refine g_goto C.1 (tgt := 9) dX5_voted_105 (by decide) ?_
      exact g_sub [1, 2, 3, 4, 5, 0] rfl h
  · have h := h.2 hc
    refine g_iload C.1 6 dX5_voted_31 rfl ?_
    refine g_aload_n C.1 0 dX5_voted_33 rfl rfl ?_
    refine m_get C.1 inX5_voted 8 (by decide) (v := .ref (L 8)) rfl lk_X5_voted_f25 rfl dX5_voted_34 ?_
    refine g_iload C.1 7 dX5_voted_37 rfl ?_
    obtain ⟨hi5, h⟩ := h
    refine m_zald C.1 6 5 (N := 24) (f := (σ 8)) (e := v7) rfl rfl (by decide) hi5 dX5_voted_39 ?_
    obtain ⟨hc6, h⟩ := h
    refine g_if_eq C.1 (tgt := 75) dX5_voted_40 (by decide) hc6 (fun hc => ?_) (fun hc => ?_)
    · have h := h.1 hc
      refine g_iconst C.1 (z := 0) dX5_voted_75 ?_
      refine g_iadd C.1 (x := v6) (y := 0) dX5_voted_76 ?_
      refine g_istore C.1 (loc' := [(6, .int (iZ (v6 + 0))), (0, .ref (L 0)), (1, .int (iZ v1)), (2, .int (iZ v2)), (3, .int (iZ v3)), (4, .int (iZ v4)), (5, .int (iZ v5)), (7, .int (iZ v7))]) C.2.1 dX5_voted_77 (by decide) rfl ?_
      refine g_iinc C.1 (z := v7) (w := 1) (loc' := [(7, .int (iZ (v7 + 1))), (6, .int (iZ (v6 + 0))), (0, .ref (L 0)), (1, .int (iZ v1)), (2, .int (iZ v2)), (3, .int (iZ v3)), (4, .int (iZ v4)), (5, .int (iZ v5))]) 7 C.2.1 dX5_voted_79 rfl (by decide) rfl ?_
      refine g_goto C.1 (tgt := 22) dX5_voted_82 (by decide) ?_
      exact g_sub [2, 3, 4, 5, 6, 7, 1, 0] rfl h
    · have h := h.2 hc
      refine g_aload_n C.1 0 dX5_voted_43 rfl rfl ?_
      refine m_get C.1 inX5_voted 5 (by decide) (v := .ref (L 5)) rfl lk_X5_voted_f16 rfl dX5_voted_44 ?_
      refine g_iload C.1 7 dX5_voted_47 rfl ?_
      refine m_ald C.1 3 2 (N := 24) (f := (σ 5)) (e := v7) rfl rfl (by decide) hi5 dX5_voted_49 ?_
      refine g_iload_n C.1 2 dX5_voted_50 rfl rfl ?_
      obtain ⟨hc7, h⟩ := h
      obtain ⟨hc8, h⟩ := h
      refine g_icmp_ne C.1 (tgt := 75) dX5_voted_51 (by decide) hc7 hc8 (fun hc => ?_) (fun hc => ?_)
      · have h := h.1 hc
        refine g_iconst C.1 (z := 0) dX5_voted_75 ?_
        refine g_iadd C.1 (x := v6) (y := 0) dX5_voted_76 ?_
        refine g_istore C.1 (loc' := [(6, .int (iZ (v6 + 0))), (0, .ref (L 0)), (1, .int (iZ v1)), (2, .int (iZ v2)), (3, .int (iZ v3)), (4, .int (iZ v4)), (5, .int (iZ v5)), (7, .int (iZ v7))]) C.2.1 dX5_voted_77 (by decide) rfl ?_
        refine g_iinc C.1 (z := v7) (w := 1) (loc' := [(7, .int (iZ (v7 + 1))), (6, .int (iZ (v6 + 0))), (0, .ref (L 0)), (1, .int (iZ v1)), (2, .int (iZ v2)), (3, .int (iZ v3)), (4, .int (iZ v4)), (5, .int (iZ v5))]) 7 C.2.1 dX5_voted_79 rfl (by decide) rfl ?_
        refine g_goto C.1 (tgt := 22) dX5_voted_82 (by decide) ?_
        exact g_sub [2, 3, 4, 5, 6, 7, 1, 0] rfl h
      · have h := h.2 hc
        refine g_aload_n C.1 0 dX5_voted_54 rfl rfl ?_
        refine m_get C.1 inX5_voted 4 (by decide) (v := .ref (L 4)) rfl lk_X5_voted_f13 rfl dX5_voted_55 ?_
        refine g_bipush C.1 (z := 120) dX5_voted_58 (by decide) ?_
        refine g_iload C.1 7 dX5_voted_60 rfl ?_
        refine g_imul C.1 (x := 120) (y := v7) dX5_voted_62 ?_
        refine g_iload_n C.1 1 dX5_voted_63 rfl rfl ?_
        refine g_iadd C.1 (x := 120 * v7) (y := v1) dX5_voted_64 ?_
        obtain ⟨hi9, h⟩ := h
        refine m_ald C.1 2 1 (N := 2880) (f := (σ 4)) (e := ((120 * v7) + v1)) rfl rfl (by decide) hi9 dX5_voted_65 ?_
        refine g_iload C.1 5 dX5_voted_66 rfl ?_
        obtain ⟨hc10, h⟩ := h
        obtain ⟨hc11, h⟩ := h
        refine g_icmp_ne C.1 (tgt := 75) dX5_voted_68 (by decide) hc10 hc11 (fun hc => ?_) (fun hc => ?_)
        · have h := h.1 hc
          refine g_iconst C.1 (z := 0) dX5_voted_75 ?_
          refine g_iadd C.1 (x := v6) (y := 0) dX5_voted_76 ?_
          refine g_istore C.1 (loc' := [(6, .int (iZ (v6 + 0))), (0, .ref (L 0)), (1, .int (iZ v1)), (2, .int (iZ v2)), (3, .int (iZ v3)), (4, .int (iZ v4)), (5, .int (iZ v5)), (7, .int (iZ v7))]) C.2.1 dX5_voted_77 (by decide) rfl ?_
          refine g_iinc C.1 (z := v7) (w := 1) (loc' := [(7, .int (iZ (v7 + 1))), (6, .int (iZ (v6 + 0))), (0, .ref (L 0)), (1, .int (iZ v1)), (2, .int (iZ v2)), (3, .int (iZ v3)), (4, .int (iZ v4)), (5, .int (iZ v5))]) 7 C.2.1 dX5_voted_79 rfl (by decide) rfl ?_
          refine g_goto C.1 (tgt := 22) dX5_voted_82 (by decide) ?_
          exact g_sub [2, 3, 4, 5, 6, 7, 1, 0] rfl h
        · have h := h.2 hc
          refine g_iconst C.1 (z := 1) dX5_voted_71 ?_
          refine g_goto C.1 (tgt := 76) dX5_voted_72 (by decide) ?_
          refine g_iadd C.1 (x := v6) (y := 1) dX5_voted_76 ?_
          refine g_istore C.1 (loc' := [(6, .int (iZ (v6 + 1))), (0, .ref (L 0)), (1, .int (iZ v1)), (2, .int (iZ v2)), (3, .int (iZ v3)), (4, .int (iZ v4)), (5, .int (iZ v5)), (7, .int (iZ v7))]) C.2.1 dX5_voted_77 (by decide) rfl ?_
          refine g_iinc C.1 (z := v7) (w := 1) (loc' := [(7, .int (iZ (v7 + 1))), (6, .int (iZ (v6 + 1))), (0, .ref (L 0)), (1, .int (iZ v1)), (2, .int (iZ v2)), (3, .int (iZ v3)), (4, .int (iZ v4)), (5, .int (iZ v5))]) 7 C.2.1 dX5_voted_79 rfl (by decide) rfl ?_
          refine g_goto C.1 (tgt := 22) dX5_voted_82 (by decide) ?_
          exact g_sub [2, 3, 4, 5, 6, 7, 1, 0] rfl h
def H_X5_voted (p : MS → Int → Int → Prop) (f : MS → Int → Int → Int) : Prop := ∀ (l : Launch) (L : Nat → Nat) (c : Nat → ClassId) (σ : MS) (v1 v2 : Int), p σ v1 v2 → xMet l yX5_voted wsX5_voted rm_X5_voted (MW L c [] []) rkI [.ref (L 0), .int (iZ v1), .int (iZ v2)] σ (fun r σ' => r = f σ v1 v2 ∧ σ' = σ)
theorem m_X5_voted {l : Launch} {L : Nat → Nat} {c : Nat → ClassId} {σ : MS} {v1 v2 : Int} {post : Int → MS → Prop} (h : ∀ K : KT, K.l = l → C_X5_voted K L c post → P_X5_voted_0 K L c σ v1 v2) : xMet l yX5_voted wsX5_voted rm_X5_voted (MW L c [] []) rkI [.ref (L 0), .int (iZ v1), .int (iZ v2)] σ post :=
  xMet.of (maxL := 8) (by decide +kernel) rfl (Nat.le_of_ble_eq_true rfl) (fun K h1 h2 h3 h4 _ => h K h1 ⟨h2, h4, h3⟩)

/-! X5_vote -/
abbrev rm_X5_vote : Room := { frames := 1, cells := 0, slots := 0, locals := 27 }
theorem inX5_vote : ∀ w ∈ wsX50, w ∈ wsX5_vote := by decide +kernel
theorem lk_X5_vote_f47 : Cond.fieldLink RX5 47 "CopyHouseModel" "thrown" "I" ∈ wsX5_vote := List.mem_of_getElem? (i := 1) (by decide +kernel)
def C_X5_vote (K : KT) (L : Nat → Nat) (c : Nat → ClassId) (post : Int → MS → Prop) : Prop := kOK K cX5_vote RX5 wsX5_vote (some .int) rm_X5_vote ∧ K.nL = 3 ∧ kQ K (MW L c [] []) rkI post rm_X5_vote
def P_X5_vote_0 (K : KT) (L : Nat → Nat) (c : Nat → ClassId) (σ : MS) (v1 : Int) : Prop := G K (MW L c [] [] σ) (0, 0) [(0, .ref (L 0)), (1, .int (iZ v1))] 0 []
set_option maxRecDepth 100000 in
set_option maxHeartbeats 4000000 in
theorem b_X5_vote_0 {K : KT} {L : Nat → Nat} {c : Nat → ClassId} {post : Int → MS → Prop} (C : C_X5_vote K L c post) {p_votedLength : MS → Prop} {f_votedLength : MS → Int} (h_votedLength : H_X5_votedLength p_votedLength f_votedLength) {p_isIn : MS → Int → Int → Int → Prop} {f_isIn : MS → Int → Int → Int → Bool} (h_isIn : H_X5_isIn p_isIn f_isIn) {p_no : MS → Int → Prop} {u_no : MS → Int → MS} (h_no : H_X5_no p_no u_no) {p_voted : MS → Int → Int → Prop} {f_voted : MS → Int → Int → Int} (h_voted : H_X5_voted p_voted f_voted) {σ : MS} {v1 : Int} (h : (p_votedLength (upM σ 0 (fun _ => 0))) ∧ (p_isIn (upM σ 0 (fun _ => 0)) v1 0 ((f_votedLength (upM σ 0 (fun _ => 0))) - 1)) ∧ ((¬ (f_isIn (upM σ 0 (fun _ => 0)) v1 0 ((f_votedLength (upM σ 0 (fun _ => 0))) - 1) = true) → (p_no (upM σ 0 (fun _ => 0)) 1) ∧ post 0 ((u_no (upM σ 0 (fun _ => 0)) 1))) ∧ (f_isIn (upM σ 0 (fun _ => 0)) v1 0 ((f_votedLength (upM σ 0 (fun _ => 0))) - 1) = true → (p_voted (upM σ 0 (fun _ => 0)) v1 (f_votedLength (upM σ 0 (fun _ => 0)))) ∧ post (f_voted (upM σ 0 (fun _ => 0)) v1 (f_votedLength (upM σ 0 (fun _ => 0)))) (upM σ 0 (fun _ => 0))))) : P_X5_vote_0 K L c σ v1 := by
  refine g_aload_n C.1 0 dX5_vote_0 rfl rfl ?_
  refine g_iconst C.1 (z := 0) dX5_vote_1 ?_
  refine m_put C.1 inX5_vote 0 (by decide) (z := 0) (σ' := upM σ 0 (fun _ => 0)) rfl lk_X5_vote_f47 rfl rfl rfl dX5_vote_2 ?_
  refine g_aload_n C.1 0 dX5_vote_5 rfl rfl ?_
  obtain ⟨hp1, h⟩ := h
  refine x_callV C.1 (h_votedLength K.l L c (upM σ 0 (fun _ => 0)) hp1) (ci := 6) (q := (RX5, TX5, 17)) rfl m_recv (fun ht => cwV 0 ht gX5_vote_X5_votedLength rfl rfl rfl (by decide +kernel) ⟨Nat.le_of_ble_eq_true rfl, Nat.le_of_ble_eq_true rfl⟩) rfl rfl (Nat.le_of_ble_eq_true rfl) ⟨Nat.le_of_ble_eq_true rfl, Nat.le_of_ble_eq_true rfl⟩ dX5_vote_6 (fun r σ9 hq => ?_)
  rw [hq.1, hq.2]
  show G K (MW L c [] [] (upM σ 0 (fun _ => 0))) (0, 0) [(0, .ref (L 0)), (1, .int (iZ v1))] 9 [.int (iZ (f_votedLength (upM σ 0 (fun _ => 0))))]
  refine g_istore_n C.1 (loc' := [(2, .int (iZ (f_votedLength (upM σ 0 (fun _ => 0))))), (0, .ref (L 0)), (1, .int (iZ v1))]) C.2.1 dX5_vote_9 rfl (by decide) rfl ?_
  refine g_iload_n C.1 2 dX5_vote_10 rfl rfl ?_
  refine g_iconst C.1 (z := 0) dX5_vote_11 ?_
  refine g_iload_n C.1 0 dX5_vote_12 rfl rfl ?_
  refine g_iconst C.1 (z := 1) dX5_vote_13 ?_
  refine g_isub C.1 (x := f_votedLength (upM σ 0 (fun _ => 0))) (y := 1) dX5_vote_14 ?_
  obtain ⟨hp2, h⟩ := h
  refine x_callS C.1 (h_isIn K.l L c (upM σ 0 (fun _ => 0)) v1 0 ((f_votedLength (upM σ 0 (fun _ => 0))) - 1) hp2) (fun ht => va_cwS 3 ht gX5_vote_X5_isIn rfl rfl rfl (by decide +kernel) ⟨Nat.le_of_ble_eq_true rfl, Nat.le_of_ble_eq_true rfl⟩) rfl rfl (Nat.le_of_ble_eq_true rfl) ⟨Nat.le_of_ble_eq_true rfl, Nat.le_of_ble_eq_true rfl⟩ dX5_vote_15 (fun r σ9 hq => ?_)
  rw [hq.1, hq.2]
  show G K (MW L c [] [] (upM σ 0 (fun _ => 0))) (0, 0) [(2, .int (iZ (f_votedLength (upM σ 0 (fun _ => 0))))), (0, .ref (L 0)), (1, .int (iZ v1))] 18 [.int (iZ (if f_isIn (upM σ 0 (fun _ => 0)) v1 0 ((f_votedLength (upM σ 0 (fun _ => 0))) - 1) = true then 1 else 0))]
  refine g_ifb_eq C.1 (tgt := 30) dX5_vote_18 (by decide) (fun hc => ?_) (fun hc => ?_)
  · have h := h.1 hc
    refine g_aload_n C.1 1 dX5_vote_30 rfl rfl ?_
    refine g_iconst C.1 (z := 1) dX5_vote_31 ?_
    obtain ⟨hp3, h⟩ := h
    refine x_callV C.1 (h_no K.l L c (upM σ 0 (fun _ => 0)) 1 hp3) (ci := 6) (q := (RX5, TX5, 17)) rfl m_recv (fun ht => cwV 1 ht gX5_vote_X5_no rfl rfl rfl (by decide +kernel) ⟨Nat.le_of_ble_eq_true rfl, Nat.le_of_ble_eq_true rfl⟩) rfl rfl (Nat.le_of_ble_eq_true rfl) ⟨Nat.le_of_ble_eq_true rfl, Nat.le_of_ble_eq_true rfl⟩ dX5_vote_32 (fun r σ9 hq => ?_)
    rw [hq.1, hq.2]
    show G K (MW L c [] [] ((u_no (upM σ 0 (fun _ => 0)) 1))) (0, 0) [(2, .int (iZ (f_votedLength (upM σ 0 (fun _ => 0))))), (0, .ref (L 0)), (1, .int (iZ v1))] 35 [.int (iZ 0)]
    exact x_iret C.1 C.2.2 rfl ⟨Nat.le_of_ble_eq_true rfl, Nat.le_of_ble_eq_true rfl⟩ dX5_vote_35 h
  · have h := h.2 hc
    refine g_aload_n C.1 1 dX5_vote_21 rfl rfl ?_
    refine g_iload_n C.1 2 dX5_vote_22 rfl rfl ?_
    refine g_iload_n C.1 0 dX5_vote_23 rfl rfl ?_
    obtain ⟨hp4, h⟩ := h
    refine x_callV C.1 (h_voted K.l L c (upM σ 0 (fun _ => 0)) v1 (f_votedLength (upM σ 0 (fun _ => 0))) hp4) (ci := 6) (q := (RX5, TX5, 17)) rfl m_recv (fun ht => cwV 2 ht gX5_vote_X5_voted rfl rfl rfl (by decide +kernel) ⟨Nat.le_of_ble_eq_true rfl, Nat.le_of_ble_eq_true rfl⟩) rfl rfl (Nat.le_of_ble_eq_true rfl) ⟨Nat.le_of_ble_eq_true rfl, Nat.le_of_ble_eq_true rfl⟩ dX5_vote_24 (fun r σ9 hq => ?_)
    rw [hq.1, hq.2]
    show G K (MW L c [] [] (upM σ 0 (fun _ => 0))) (0, 0) [(2, .int (iZ (f_votedLength (upM σ 0 (fun _ => 0))))), (0, .ref (L 0)), (1, .int (iZ v1))] 27 [.int (iZ (f_voted (upM σ 0 (fun _ => 0)) v1 (f_votedLength (upM σ 0 (fun _ => 0)))))]
    refine g_goto C.1 (tgt := 35) dX5_vote_27 (by decide) ?_
    exact x_iret C.1 C.2.2 rfl ⟨Nat.le_of_ble_eq_true rfl, Nat.le_of_ble_eq_true rfl⟩ dX5_vote_35 h
def H_X5_vote (p : MS → Int → Prop) (o : MS → Int → Int → MS → Prop) : Prop := ∀ (l : Launch) (L : Nat → Nat) (c : Nat → ClassId) (σ : MS) (v1 : Int), p σ v1 → xMet l yX5_vote wsX5_vote rm_X5_vote (MW L c [] []) rkI [.ref (L 0), .int (iZ v1)] σ (fun r σ' => o σ v1 r σ')
theorem m_X5_vote {l : Launch} {L : Nat → Nat} {c : Nat → ClassId} {σ : MS} {v1 : Int} {post : Int → MS → Prop} (h : ∀ K : KT, K.l = l → C_X5_vote K L c post → P_X5_vote_0 K L c σ v1) : xMet l yX5_vote wsX5_vote rm_X5_vote (MW L c [] []) rkI [.ref (L 0), .int (iZ v1)] σ post :=
  xMet.of (maxL := 3) (by decide +kernel) rfl (Nat.le_of_ble_eq_true rfl) (fun K h1 h2 h3 h4 _ => h K h1 ⟨h2, h4, h3⟩)

/-! X5_voteDistance -/
abbrev rm_X5_voteDistance : Room := { frames := 2, cells := 0, slots := 0, locals := 67 }
theorem inX5_voteDistance : ∀ w ∈ wsX50, w ∈ wsX5_voteDistance := by decide +kernel
theorem lk_X5_voteDistance_f47 : Cond.fieldLink RX5 47 "CopyHouseModel" "thrown" "I" ∈ wsX5_voteDistance := List.mem_of_getElem? (i := 1) (by decide +kernel)
theorem lk_X5_voteDistance_f85 : Cond.fieldLink RX5 85 "CopyHouseModel" "size" "I" ∈ wsX5_voteDistance := List.mem_of_getElem? (i := 2) (by decide +kernel)
theorem lk_X5_voteDistance_f38 : Cond.fieldLink RX5 38 "CopyHouseModel" "from" "[I" ∈ wsX5_voteDistance := List.mem_of_getElem? (i := 3) (by decide +kernel)
def C_X5_voteDistance (K : KT) (L : Nat → Nat) (c : Nat → ClassId) (post : Int → MS → Prop) : Prop := kOK K cX5_voteDistance RX5 wsX5_voteDistance (some .int) rm_X5_voteDistance ∧ K.nL = 3 ∧ kQ K (MW L c [] []) rkI post rm_X5_voteDistance
def P_X5_voteDistance_0 (K : KT) (L : Nat → Nat) (c : Nat → ClassId) (σ : MS) (v1 : Int) : Prop := G K (MW L c [] [] σ) (0, 0) [(0, .ref (L 0)), (1, .int (iZ v1))] 0 []
def P_X5_voteDistance_1 (K : KT) (L : Nat → Nat) (c : Nat → ClassId) (σ : MS) (v1 v2 : Int) : Prop := G K (MW L c [] [] σ) (0, 0) [(0, .ref (L 0)), (1, .int (iZ v1)), (2, .int (iZ v2))] 29 []
set_option maxRecDepth 100000 in
set_option maxHeartbeats 4000000 in
theorem b_X5_voteDistance_0 {K : KT} {L : Nat → Nat} {c : Nat → ClassId} {post : Int → MS → Prop} (C : C_X5_voteDistance K L c post) {p_isText : MS → Int → Prop} {f_isText : MS → Int → Bool} (h_isText : H_X5_isText p_isText f_isText) {p_votedLength : MS → Prop} {f_votedLength : MS → Int} (h_votedLength : H_X5_votedLength p_votedLength f_votedLength) {p_no : MS → Int → Prop} {u_no : MS → Int → MS} (h_no : H_X5_no p_no u_no) {σ : MS} {v1 : Int} (h : (p_isText (upM σ 0 (fun _ => 0)) v1) ∧ ((f_isText (upM σ 0 (fun _ => 0)) v1 = true → (p_votedLength (upM σ 0 (fun _ => 0))) ∧ P_X5_voteDistance_1 K L c (upM (upM σ 0 (fun _ => 0)) 14 (fun _ => f_votedLength (upM σ 0 (fun _ => 0)))) v1 0) ∧ (¬ (f_isText (upM σ 0 (fun _ => 0)) v1 = true) → (p_no (upM σ 0 (fun _ => 0)) 1) ∧ post 0 ((u_no (upM σ 0 (fun _ => 0)) 1))))) : P_X5_voteDistance_0 K L c σ v1 := by
  refine g_aload_n C.1 0 dX5_voteDistance_0 rfl rfl ?_
  refine g_iconst C.1 (z := 0) dX5_voteDistance_1 ?_
  refine m_put C.1 inX5_voteDistance 0 (by decide) (z := 0) (σ' := upM σ 0 (fun _ => 0)) rfl lk_X5_voteDistance_f47 rfl rfl rfl dX5_voteDistance_2 ?_
  refine g_aload_n C.1 0 dX5_voteDistance_5 rfl rfl ?_
  refine g_iload_n C.1 1 dX5_voteDistance_6 rfl rfl ?_
  obtain ⟨hp1, h⟩ := h
  refine x_callV C.1 (h_isText K.l L c (upM σ 0 (fun _ => 0)) v1 hp1) (ci := 6) (q := (RX5, TX5, 17)) rfl m_recv (fun ht => cwV 1 ht gX5_voteDistance_X5_isText rfl rfl rfl (by decide +kernel) ⟨Nat.le_of_ble_eq_true rfl, Nat.le_of_ble_eq_true rfl⟩) rfl rfl (Nat.le_of_ble_eq_true rfl) ⟨Nat.le_of_ble_eq_true rfl, Nat.le_of_ble_eq_true rfl⟩ dX5_voteDistance_7 (fun r σ9 hq => ?_)
  rw [hq.1, hq.2]
  show G K (MW L c [] [] (upM σ 0 (fun _ => 0))) (0, 0) [(0, .ref (L 0)), (1, .int (iZ v1))] 10 [.int (iZ (if f_isText (upM σ 0 (fun _ => 0)) v1 = true then 1 else 0))]
  refine g_ifb_ne C.1 (tgt := 19) dX5_voteDistance_10 (by decide) (fun hc => ?_) (fun hc => ?_)
  · have h := h.1 hc
    refine g_aload_n C.1 0 dX5_voteDistance_19 rfl rfl ?_
    refine g_aload_n C.1 0 dX5_voteDistance_20 rfl rfl ?_
    obtain ⟨hp2, h⟩ := h
    refine x_callV C.1 (h_votedLength K.l L c (upM σ 0 (fun _ => 0)) hp2) (ci := 6) (q := (RX5, TX5, 17)) rfl m_recv (fun ht => cwV 0 ht gX5_voteDistance_X5_votedLength rfl rfl rfl (by decide +kernel) ⟨Nat.le_of_ble_eq_true rfl, Nat.le_of_ble_eq_true rfl⟩) rfl rfl (Nat.le_of_ble_eq_true rfl) ⟨Nat.le_of_ble_eq_true rfl, Nat.le_of_ble_eq_true rfl⟩ dX5_voteDistance_21 (fun r σ9 hq => ?_)
    rw [hq.1, hq.2]
    show G K (MW L c [] [] (upM σ 0 (fun _ => 0))) (0, 0) [(0, .ref (L 0)), (1, .int (iZ v1))] 24 [.int (iZ (f_votedLength (upM σ 0 (fun _ => 0)))), .ref (L 0)]
    refine m_put C.1 inX5_voteDistance 14 (by decide) (z := f_votedLength (upM σ 0 (fun _ => 0))) (σ' := upM (upM σ 0 (fun _ => 0)) 14 (fun _ => f_votedLength (upM σ 0 (fun _ => 0)))) rfl lk_X5_voteDistance_f85 rfl rfl rfl dX5_voteDistance_24 ?_
    refine g_iconst C.1 (z := 0) dX5_voteDistance_27 ?_
    refine g_istore_n C.1 (loc' := [(2, .int (iZ 0)), (0, .ref (L 0)), (1, .int (iZ v1))]) C.2.1 dX5_voteDistance_28 rfl (by decide) rfl ?_
    exact g_sub [1, 2, 0] rfl h
  · have h := h.2 hc
    refine g_aload_n C.1 0 dX5_voteDistance_13 rfl rfl ?_
    refine g_iconst C.1 (z := 1) dX5_voteDistance_14 ?_
    obtain ⟨hp3, h⟩ := h
    refine x_callV C.1 (h_no K.l L c (upM σ 0 (fun _ => 0)) 1 hp3) (ci := 6) (q := (RX5, TX5, 17)) rfl m_recv (fun ht => cwV 1 ht gX5_voteDistance_X5_no rfl rfl rfl (by decide +kernel) ⟨Nat.le_of_ble_eq_true rfl, Nat.le_of_ble_eq_true rfl⟩) rfl rfl (Nat.le_of_ble_eq_true rfl) ⟨Nat.le_of_ble_eq_true rfl, Nat.le_of_ble_eq_true rfl⟩ dX5_voteDistance_15 (fun r σ9 hq => ?_)
    rw [hq.1, hq.2]
    show G K (MW L c [] [] ((u_no (upM σ 0 (fun _ => 0)) 1))) (0, 0) [(0, .ref (L 0)), (1, .int (iZ v1))] 18 [.int (iZ 0)]
    exact x_iret C.1 C.2.2 rfl ⟨Nat.le_of_ble_eq_true rfl, Nat.le_of_ble_eq_true rfl⟩ dX5_voteDistance_18 h
set_option maxRecDepth 100000 in
set_option maxHeartbeats 4000000 in
theorem b_X5_voteDistance_1 {K : KT} {L : Nat → Nat} {c : Nat → ClassId} {post : Int → MS → Prop} (C : C_X5_voteDistance K L c post) {p_distanceOf : MS → Int → Prop} {o_distanceOf : MS → Int → Int → MS → Prop} (h_distanceOf : H_X5_distanceOf p_distanceOf o_distanceOf) {p_voted : MS → Int → Int → Prop} {f_voted : MS → Int → Int → Int} (h_voted : H_X5_voted p_voted f_voted) {σ : MS} {v1 v2 : Int} (h : (-2147483648 ≤ v2 ∧ v2 < 2147483648) ∧ (-2147483648 ≤ (σ 14 0) ∧ (σ 14 0) < 2147483648) ∧ (((σ 14 0) ≤ v2 → (p_distanceOf σ v1) ∧ ∀ (r4 : Int) (σ5 : MS), o_distanceOf σ v1 r4 σ5 → post r4 σ5) ∧ (¬ (σ 14 0) ≤ v2 → (p_voted σ v2 (σ 14 0)) ∧ (0 ≤ v2 ∧ v2 < 120) ∧ P_X5_voteDistance_1 K L c (upM σ 13 (upI (σ 13) v2 (f_voted σ v2 (σ 14 0)))) v1 (v2 + 1)))) : P_X5_voteDistance_1 K L c σ v1 v2 := by
  refine g_iload_n C.1 2 dX5_voteDistance_29 rfl rfl ?_
  refine g_aload_n C.1 0 dX5_voteDistance_30 rfl rfl ?_
  refine m_get C.1 inX5_voteDistance 14 (by decide) (v := .int (iZ (σ 14 0))) rfl lk_X5_voteDistance_f85 rfl dX5_voteDistance_31 ?_
  obtain ⟨hc1, h⟩ := h
  obtain ⟨hc2, h⟩ := h
  refine g_icmp_ge C.1 (tgt := 58) dX5_voteDistance_34 (by decide) hc1 hc2 (fun hc => ?_) (fun hc => ?_)
  · have h := h.1 hc
    refine g_aload_n C.1 0 dX5_voteDistance_58 rfl rfl ?_
    refine g_iload_n C.1 1 dX5_voteDistance_59 rfl rfl ?_
    obtain ⟨hp3, h⟩ := h
    refine x_callV C.1 (h_distanceOf K.l L c σ v1 hp3) (ci := 6) (q := (RX5, TX5, 17)) rfl m_recv (fun ht => cwV 1 ht gX5_voteDistance_X5_distanceOf rfl rfl rfl (by decide +kernel) ⟨Nat.le_of_ble_eq_true rfl, Nat.le_of_ble_eq_true rfl⟩) rfl rfl (Nat.le_of_ble_eq_true rfl) ⟨Nat.le_of_ble_eq_true rfl, Nat.le_of_ble_eq_true rfl⟩ dX5_voteDistance_60 (fun r4 σ5 hq => ?_)
    have h := h r4 σ5 hq
    show G K (MW L c [] [] σ5) (0, 0) [(0, .ref (L 0)), (1, .int (iZ v1)), (2, .int (iZ v2))] 63 [.int (iZ r4)]
    exact x_iret C.1 C.2.2 rfl ⟨Nat.le_of_ble_eq_true rfl, Nat.le_of_ble_eq_true rfl⟩ dX5_voteDistance_63 h
  · have h := h.2 hc
    refine g_aload_n C.1 0 dX5_voteDistance_37 rfl rfl ?_
    refine m_get C.1 inX5_voteDistance 13 (by decide) (v := .ref (L 13)) rfl lk_X5_voteDistance_f38 rfl dX5_voteDistance_38 ?_
    refine g_iload_n C.1 2 dX5_voteDistance_41 rfl rfl ?_
    refine g_aload_n C.1 0 dX5_voteDistance_42 rfl rfl ?_
    refine g_iload_n C.1 2 dX5_voteDistance_43 rfl rfl ?_
    refine g_aload_n C.1 0 dX5_voteDistance_44 rfl rfl ?_
    refine m_get C.1 inX5_voteDistance 14 (by decide) (v := .int (iZ (σ 14 0))) rfl lk_X5_voteDistance_f85 rfl dX5_voteDistance_45 ?_
    obtain ⟨hp6, h⟩ := h
    refine x_callV C.1 (h_voted K.l L c σ v2 (σ 14 0) hp6) (ci := 6) (q := (RX5, TX5, 17)) rfl m_recv (fun ht => cwV 2 ht gX5_voteDistance_X5_voted rfl rfl rfl (by decide +kernel) ⟨Nat.le_of_ble_eq_true rfl, Nat.le_of_ble_eq_true rfl⟩) rfl rfl (Nat.le_of_ble_eq_true rfl) ⟨Nat.le_of_ble_eq_true rfl, Nat.le_of_ble_eq_true rfl⟩ dX5_voteDistance_48 (fun r σ9 hq => ?_)
    rw [hq.1, hq.2]
    show G K (MW L c [] [] σ) (0, 0) [(0, .ref (L 0)), (1, .int (iZ v1)), (2, .int (iZ v2))] 51 [.int (iZ (f_voted σ v2 (σ 14 0))), .int (iZ v2), .ref (L 13)]
    obtain ⟨hi7, h⟩ := h
    refine m_ast C.1 10 9 (N := 120) (f := (σ 13)) (e := v2) (z := f_voted σ v2 (σ 14 0)) (X' := []) (σ' := upM σ 13 (upI (σ 13) v2 (f_voted σ v2 (σ 14 0)))) rfl rfl rfl (by decide) hi7 dX5_voteDistance_51 ?_
    refine g_iinc C.1 (z := v2) (w := 1) (loc' := [(2, .int (iZ (v2 + 1))), (0, .ref (L 0)), (1, .int (iZ v1))]) 2 C.2.1 dX5_voteDistance_52 rfl (by decide) rfl ?_
    refine g_goto C.1 (tgt := 29) dX5_voteDistance_55 (by decide) ?_
    exact g_sub [1, 2, 0] rfl h
def H_X5_voteDistance (p : MS → Int → Prop) (o : MS → Int → Int → MS → Prop) : Prop := ∀ (l : Launch) (L : Nat → Nat) (c : Nat → ClassId) (σ : MS) (v1 : Int), p σ v1 → xMet l yX5_voteDistance wsX5_voteDistance rm_X5_voteDistance (MW L c [] []) rkI [.ref (L 0), .int (iZ v1)] σ (fun r σ' => o σ v1 r σ')
theorem m_X5_voteDistance {l : Launch} {L : Nat → Nat} {c : Nat → ClassId} {σ : MS} {v1 : Int} {post : Int → MS → Prop} (h : ∀ K : KT, K.l = l → C_X5_voteDistance K L c post → P_X5_voteDistance_0 K L c σ v1) : xMet l yX5_voteDistance wsX5_voteDistance rm_X5_voteDistance (MW L c [] []) rkI [.ref (L 0), .int (iZ v1)] σ post :=
  xMet.of (maxL := 3) (by decide +kernel) rfl (Nat.le_of_ble_eq_true rfl) (fun K h1 h2 h3 h4 _ => h K h1 ⟨h2, h4, h3⟩)

/-! X5_trial -/
abbrev rm_X5_trial : Room := { frames := 4, cells := 0, slots := 0, locals := 133 }
theorem inX5_trial : ∀ w ∈ wsX50, w ∈ wsX5_trial := by decide +kernel
theorem lk_X5_trial_f47 : Cond.fieldLink RX5 47 "CopyHouseModel" "thrown" "I" ∈ wsX5_trial := List.mem_of_getElem? (i := 1) (by decide +kernel)
theorem lk_X5_trial_f25 : Cond.fieldLink RX5 25 "CopyHouseModel" "isThere" "[Z" ∈ wsX5_trial := List.mem_of_getElem? (i := 2) (by decide +kernel)
theorem lk_X5_trial_f85 : Cond.fieldLink RX5 85 "CopyHouseModel" "size" "I" ∈ wsX5_trial := List.mem_of_getElem? (i := 3) (by decide +kernel)
def C_X5_trial (K : KT) (L : Nat → Nat) (c : Nat → ClassId) (post : Int → MS → Prop) : Prop := kOK K cX5_trial RX5 wsX5_trial (some .int) rm_X5_trial ∧ K.nL = 6 ∧ kQ K (MW L c [] []) rkI post rm_X5_trial
def P_X5_trial_0 (K : KT) (L : Nat → Nat) (c : Nat → ClassId) (σ : MS) (v1 v2 v3 v4 : Int) : Prop := G K (MW L c [] [] σ) (0, 0) [(0, .ref (L 0)), (1, .int (iZ v1)), (2, .int (iZ v2)), (3, .int (iZ v3)), (4, .int (iZ v4))] 0 []
def P_X5_trial_1 (K : KT) (L : Nat → Nat) (c : Nat → ClassId) (σ : MS) (v1 v2 v3 v4 v5 : Int) : Prop := G K (MW L c [] [] σ) (0, 0) [(0, .ref (L 0)), (1, .int (iZ v1)), (2, .int (iZ v2)), (3, .int (iZ v3)), (4, .int (iZ v4)), (5, .int (iZ v5))] 76 []
set_option maxRecDepth 100000 in
set_option maxHeartbeats 4000000 in
theorem b_X5_trial_0 {K : KT} {L : Nat → Nat} {c : Nat → ClassId} {post : Int → MS → Prop} (C : C_X5_trial K L c post) {p_isText : MS → Int → Prop} {f_isText : MS → Int → Bool} (h_isText : H_X5_isText p_isText f_isText) {p_no : MS → Int → Prop} {u_no : MS → Int → MS} (h_no : H_X5_no p_no u_no) {p_isScribe : MS → Int → Prop} {f_isScribe : MS → Int → Bool} (h_isScribe : H_X5_isScribe p_isScribe f_isScribe) {p_isIn : MS → Int → Int → Int → Prop} {f_isIn : MS → Int → Int → Int → Bool} (h_isIn : H_X5_isIn p_isIn f_isIn) {p_take : MS → Int → Prop} {u_take : MS → Int → MS} (h_take : H_X5_take p_take u_take) {σ : MS} {v1 v2 v3 v4 : Int} (h : (p_isText (upM σ 0 (fun _ => 0)) v1) ∧ ((¬ (f_isText (upM σ 0 (fun _ => 0)) v1 = true) → (p_no (upM σ 0 (fun _ => 0)) 1) ∧ post 0 ((u_no (upM σ 0 (fun _ => 0)) 1))) ∧ (f_isText (upM σ 0 (fun _ => 0)) v1 = true → (p_isScribe (upM σ 0 (fun _ => 0)) v2) ∧ ((¬ (f_isScribe (upM σ 0 (fun _ => 0)) v2 = true) → (p_no (upM σ 0 (fun _ => 0)) 1) ∧ post 0 ((u_no (upM σ 0 (fun _ => 0)) 1))) ∧ (f_isScribe (upM σ 0 (fun _ => 0)) v2 = true → (p_isIn (upM σ 0 (fun _ => 0)) v4 0 1) ∧ ((f_isIn (upM σ 0 (fun _ => 0)) v4 0 1 = true → (p_isIn (upM σ 0 (fun _ => 0)) v3 1 20) ∧ ((f_isIn (upM σ 0 (fun _ => 0)) v3 1 20 = true → (0 ≤ v1 ∧ v1 < 24) ∧ (-2147483648 ≤ ((σ 8) v1) ∧ ((σ 8) v1) < 2147483648) ∧ ((¬ ((σ 8) v1) = 0 → (p_take (upM σ 0 (fun _ => 0)) v1) ∧ P_X5_trial_1 K L c ((u_take (upM σ 0 (fun _ => 0)) v1)) v1 v2 v3 v4 0) ∧ (((σ 8) v1) = 0 → (p_no (upM σ 0 (fun _ => 0)) 3) ∧ post 0 ((u_no (upM σ 0 (fun _ => 0)) 3))))) ∧ (¬ (f_isIn (upM σ 0 (fun _ => 0)) v3 1 20 = true) → (p_no (upM σ 0 (fun _ => 0)) 2) ∧ post 0 ((u_no (upM σ 0 (fun _ => 0)) 2))))) ∧ (¬ (f_isIn (upM σ 0 (fun _ => 0)) v4 0 1 = true) → (p_no (upM σ 0 (fun _ => 0)) 1) ∧ post 0 ((u_no (upM σ 0 (fun _ => 0)) 1))))))))) : P_X5_trial_0 K L c σ v1 v2 v3 v4 := by
  refine g_aload_n C.1 0 dX5_trial_0 rfl rfl ?_
  refine g_iconst C.1 (z := 0) dX5_trial_1 ?_
  refine m_put C.1 inX5_trial 0 (by decide) (z := 0) (σ' := upM σ 0 (fun _ => 0)) rfl lk_X5_trial_f47 rfl rfl rfl dX5_trial_2 ?_
  refine g_aload_n C.1 0 dX5_trial_5 rfl rfl ?_
  refine g_iload_n C.1 1 dX5_trial_6 rfl rfl ?_
  obtain ⟨hp1, h⟩ := h
  refine x_callV C.1 (h_isText K.l L c (upM σ 0 (fun _ => 0)) v1 hp1) (ci := 6) (q := (RX5, TX5, 17)) rfl m_recv (fun ht => cwV 1 ht gX5_trial_X5_isText rfl rfl rfl (by decide +kernel) ⟨Nat.le_of_ble_eq_true rfl, Nat.le_of_ble_eq_true rfl⟩) rfl rfl (Nat.le_of_ble_eq_true rfl) ⟨Nat.le_of_ble_eq_true rfl, Nat.le_of_ble_eq_true rfl⟩ dX5_trial_7 (fun r σ9 hq => ?_)
  rw [hq.1, hq.2]
  show G K (MW L c [] [] (upM σ 0 (fun _ => 0))) (0, 0) [(0, .ref (L 0)), (1, .int (iZ v1)), (2, .int (iZ v2)), (3, .int (iZ v3)), (4, .int (iZ v4))] 10 [.int (iZ (if f_isText (upM σ 0 (fun _ => 0)) v1 = true then 1 else 0))]
  refine g_ifb_eq C.1 (tgt := 31) dX5_trial_10 (by decide) (fun hc => ?_) (fun hc => ?_)
  · have h := h.1 hc
    refine g_aload_n C.1 0 dX5_trial_31 rfl rfl ?_
    refine g_iconst C.1 (z := 1) dX5_trial_32 ?_
    obtain ⟨hp2, h⟩ := h
    refine x_callV C.1 (h_no K.l L c (upM σ 0 (fun _ => 0)) 1 hp2) (ci := 6) (q := (RX5, TX5, 17)) rfl m_recv (fun ht => cwV 1 ht gX5_trial_X5_no rfl rfl rfl (by decide +kernel) ⟨Nat.le_of_ble_eq_true rfl, Nat.le_of_ble_eq_true rfl⟩) rfl rfl (Nat.le_of_ble_eq_true rfl) ⟨Nat.le_of_ble_eq_true rfl, Nat.le_of_ble_eq_true rfl⟩ dX5_trial_33 (fun r σ9 hq => ?_)
    rw [hq.1, hq.2]
    show G K (MW L c [] [] ((u_no (upM σ 0 (fun _ => 0)) 1))) (0, 0) [(0, .ref (L 0)), (1, .int (iZ v1)), (2, .int (iZ v2)), (3, .int (iZ v3)), (4, .int (iZ v4))] 36 [.int (iZ 0)]
    exact x_iret C.1 C.2.2 rfl ⟨Nat.le_of_ble_eq_true rfl, Nat.le_of_ble_eq_true rfl⟩ dX5_trial_36 h
  · have h := h.2 hc
    refine g_aload_n C.1 0 dX5_trial_13 rfl rfl ?_
    refine g_iload_n C.1 2 dX5_trial_14 rfl rfl ?_
    obtain ⟨hp3, h⟩ := h
    refine x_callV C.1 (h_isScribe K.l L c (upM σ 0 (fun _ => 0)) v2 hp3) (ci := 6) (q := (RX5, TX5, 17)) rfl m_recv (fun ht => cwV 1 ht gX5_trial_X5_isScribe rfl rfl rfl (by decide +kernel) ⟨Nat.le_of_ble_eq_true rfl, Nat.le_of_ble_eq_true rfl⟩) rfl rfl (Nat.le_of_ble_eq_true rfl) ⟨Nat.le_of_ble_eq_true rfl, Nat.le_of_ble_eq_true rfl⟩ dX5_trial_15 (fun r σ9 hq => ?_)
    rw [hq.1, hq.2]
    show G K (MW L c [] [] (upM σ 0 (fun _ => 0))) (0, 0) [(0, .ref (L 0)), (1, .int (iZ v1)), (2, .int (iZ v2)), (3, .int (iZ v3)), (4, .int (iZ v4))] 18 [.int (iZ (if f_isScribe (upM σ 0 (fun _ => 0)) v2 = true then 1 else 0))]
    refine g_ifb_eq C.1 (tgt := 31) dX5_trial_18 (by decide) (fun hc => ?_) (fun hc => ?_)
    · have h := h.1 hc
      refine g_aload_n C.1 0 dX5_trial_31 rfl rfl ?_
      refine g_iconst C.1 (z := 1) dX5_trial_32 ?_
      obtain ⟨hp4, h⟩ := h
      refine x_callV C.1 (h_no K.l L c (upM σ 0 (fun _ => 0)) 1 hp4) (ci := 6) (q := (RX5, TX5, 17)) rfl m_recv (fun ht => cwV 1 ht gX5_trial_X5_no rfl rfl rfl (by decide +kernel) ⟨Nat.le_of_ble_eq_true rfl, Nat.le_of_ble_eq_true rfl⟩) rfl rfl (Nat.le_of_ble_eq_true rfl) ⟨Nat.le_of_ble_eq_true rfl, Nat.le_of_ble_eq_true rfl⟩ dX5_trial_33 (fun r σ9 hq => ?_)
      rw [hq.1, hq.2]
      show G K (MW L c [] [] ((u_no (upM σ 0 (fun _ => 0)) 1))) (0, 0) [(0, .ref (L 0)), (1, .int (iZ v1)), (2, .int (iZ v2)), (3, .int (iZ v3)), (4, .int (iZ v4))] 36 [.int (iZ 0)]
      exact x_iret C.1 C.2.2 rfl ⟨Nat.le_of_ble_eq_true rfl, Nat.le_of_ble_eq_true rfl⟩ dX5_trial_36 h
    · have h := h.2 hc
      refine g_iload C.1 4 dX5_trial_21 rfl ?_
      refine g_iconst C.1 (z := 0) dX5_trial_23 ?_
      refine g_iconst C.1 (z := 1) dX5_trial_24 ?_
      obtain ⟨hp5, h⟩ := h
      refine x_callS C.1 (h_isIn K.l L c (upM σ 0 (fun _ => 0)) v4 0 1 hp5) (fun ht => va_cwS 3 ht gX5_trial_X5_isIn rfl rfl rfl (by decide +kernel) ⟨Nat.le_of_ble_eq_true rfl, Nat.le_of_ble_eq_true rfl⟩) rfl rfl (Nat.le_of_ble_eq_true rfl) ⟨Nat.le_of_ble_eq_true rfl, Nat.le_of_ble_eq_true rfl⟩ dX5_trial_25 (fun r σ9 hq => ?_)
      rw [hq.1, hq.2]
      show G K (MW L c [] [] (upM σ 0 (fun _ => 0))) (0, 0) [(0, .ref (L 0)), (1, .int (iZ v1)), (2, .int (iZ v2)), (3, .int (iZ v3)), (4, .int (iZ v4))] 28 [.int (iZ (if f_isIn (upM σ 0 (fun _ => 0)) v4 0 1 = true then 1 else 0))]
      refine g_ifb_ne C.1 (tgt := 37) dX5_trial_28 (by decide) (fun hc => ?_) (fun hc => ?_)
      · have h := h.1 hc
        refine g_iload_n C.1 3 dX5_trial_37 rfl rfl ?_
        refine g_iconst C.1 (z := 1) dX5_trial_38 ?_
        refine g_bipush C.1 (z := 20) dX5_trial_39 (by decide) ?_
        obtain ⟨hp6, h⟩ := h
        refine x_callS C.1 (h_isIn K.l L c (upM σ 0 (fun _ => 0)) v3 1 20 hp6) (fun ht => va_cwS 3 ht gX5_trial_X5_isIn rfl rfl rfl (by decide +kernel) ⟨Nat.le_of_ble_eq_true rfl, Nat.le_of_ble_eq_true rfl⟩) rfl rfl (Nat.le_of_ble_eq_true rfl) ⟨Nat.le_of_ble_eq_true rfl, Nat.le_of_ble_eq_true rfl⟩ dX5_trial_41 (fun r σ9 hq => ?_)
        rw [hq.1, hq.2]
        show G K (MW L c [] [] (upM σ 0 (fun _ => 0))) (0, 0) [(0, .ref (L 0)), (1, .int (iZ v1)), (2, .int (iZ v2)), (3, .int (iZ v3)), (4, .int (iZ v4))] 44 [.int (iZ (if f_isIn (upM σ 0 (fun _ => 0)) v3 1 20 = true then 1 else 0))]
        refine g_ifb_ne C.1 (tgt := 53) dX5_trial_44 (by decide) (fun hc => ?_) (fun hc => ?_)
        · have h := h.1 hc
          refine g_aload_n C.1 0 dX5_trial_53 rfl rfl ?_
          refine m_get C.1 inX5_trial 8 (by decide) (v := .ref (L 8)) rfl lk_X5_trial_f25 rfl dX5_trial_54 ?_
          refine g_iload_n C.1 1 dX5_trial_57 rfl rfl ?_
          obtain ⟨hi7, h⟩ := h
          refine m_zald C.1 6 5 (N := 24) (f := (σ 8)) (e := v1) rfl rfl (by decide) hi7 dX5_trial_58 ?_
          obtain ⟨hc8, h⟩ := h
          refine g_if_ne C.1 (tgt := 68) dX5_trial_59 (by decide) hc8 (fun hc => ?_) (fun hc => ?_)
          · have h := h.1 hc
            refine g_aload_n C.1 0 dX5_trial_68 rfl rfl ?_
            refine g_iload_n C.1 1 dX5_trial_69 rfl rfl ?_
            obtain ⟨hp9, h⟩ := h
            refine x_callV C.1 (h_take K.l L c (upM σ 0 (fun _ => 0)) v1 hp9) (ci := 6) (q := (RX5, TX5, 17)) rfl m_recv (fun ht => cwV 1 ht gX5_trial_X5_take rfl rfl rfl (by decide +kernel) ⟨Nat.le_of_ble_eq_true rfl, Nat.le_of_ble_eq_true rfl⟩) rfl rfl (Nat.le_of_ble_eq_true rfl) ⟨Nat.le_of_ble_eq_true rfl, Nat.le_of_ble_eq_true rfl⟩ dX5_trial_70 (fun r σ9 hq => ?_)
            rw [hq.1, hq.2]
            show G K (MW L c [] [] ((u_take (upM σ 0 (fun _ => 0)) v1))) (0, 0) [(0, .ref (L 0)), (1, .int (iZ v1)), (2, .int (iZ v2)), (3, .int (iZ v3)), (4, .int (iZ v4))] 73 []
            refine g_iconst C.1 (z := 0) dX5_trial_73 ?_
            refine g_istore C.1 (loc' := [(5, .int (iZ 0)), (0, .ref (L 0)), (1, .int (iZ v1)), (2, .int (iZ v2)), (3, .int (iZ v3)), (4, .int (iZ v4))]) C.2.1 dX5_trial_74 (by decide) rfl ?_
            exact g_sub [1, 2, 3, 4, 5, 0] rfl h
          · have h := h.2 hc
            refine g_aload_n C.1 0 dX5_trial_62 rfl rfl ?_
            refine g_iconst C.1 (z := 3) dX5_trial_63 ?_
            obtain ⟨hp10, h⟩ := h
            refine x_callV C.1 (h_no K.l L c (upM σ 0 (fun _ => 0)) 3 hp10) (ci := 6) (q := (RX5, TX5, 17)) rfl m_recv (fun ht => cwV 1 ht gX5_trial_X5_no rfl rfl rfl (by decide +kernel) ⟨Nat.le_of_ble_eq_true rfl, Nat.le_of_ble_eq_true rfl⟩) rfl rfl (Nat.le_of_ble_eq_true rfl) ⟨Nat.le_of_ble_eq_true rfl, Nat.le_of_ble_eq_true rfl⟩ dX5_trial_64 (fun r σ9 hq => ?_)
            rw [hq.1, hq.2]
            show G K (MW L c [] [] ((u_no (upM σ 0 (fun _ => 0)) 3))) (0, 0) [(0, .ref (L 0)), (1, .int (iZ v1)), (2, .int (iZ v2)), (3, .int (iZ v3)), (4, .int (iZ v4))] 67 [.int (iZ 0)]
            exact x_iret C.1 C.2.2 rfl ⟨Nat.le_of_ble_eq_true rfl, Nat.le_of_ble_eq_true rfl⟩ dX5_trial_67 h
        · have h := h.2 hc
          refine g_aload_n C.1 0 dX5_trial_47 rfl rfl ?_
          refine g_iconst C.1 (z := 2) dX5_trial_48 ?_
          obtain ⟨hp11, h⟩ := h
          refine x_callV C.1 (h_no K.l L c (upM σ 0 (fun _ => 0)) 2 hp11) (ci := 6) (q := (RX5, TX5, 17)) rfl m_recv (fun ht => cwV 1 ht gX5_trial_X5_no rfl rfl rfl (by decide +kernel) ⟨Nat.le_of_ble_eq_true rfl, Nat.le_of_ble_eq_true rfl⟩) rfl rfl (Nat.le_of_ble_eq_true rfl) ⟨Nat.le_of_ble_eq_true rfl, Nat.le_of_ble_eq_true rfl⟩ dX5_trial_49 (fun r σ9 hq => ?_)
          rw [hq.1, hq.2]
          show G K (MW L c [] [] ((u_no (upM σ 0 (fun _ => 0)) 2))) (0, 0) [(0, .ref (L 0)), (1, .int (iZ v1)), (2, .int (iZ v2)), (3, .int (iZ v3)), (4, .int (iZ v4))] 52 [.int (iZ 0)]
          exact x_iret C.1 C.2.2 rfl ⟨Nat.le_of_ble_eq_true rfl, Nat.le_of_ble_eq_true rfl⟩ dX5_trial_52 h
      · have h := h.2 hc
        refine g_aload_n C.1 0 dX5_trial_31 rfl rfl ?_
        refine g_iconst C.1 (z := 1) dX5_trial_32 ?_
        obtain ⟨hp12, h⟩ := h
        refine x_callV C.1 (h_no K.l L c (upM σ 0 (fun _ => 0)) 1 hp12) (ci := 6) (q := (RX5, TX5, 17)) rfl m_recv (fun ht => cwV 1 ht gX5_trial_X5_no rfl rfl rfl (by decide +kernel) ⟨Nat.le_of_ble_eq_true rfl, Nat.le_of_ble_eq_true rfl⟩) rfl rfl (Nat.le_of_ble_eq_true rfl) ⟨Nat.le_of_ble_eq_true rfl, Nat.le_of_ble_eq_true rfl⟩ dX5_trial_33 (fun r σ9 hq => ?_)
        rw [hq.1, hq.2]
        show G K (MW L c [] [] ((u_no (upM σ 0 (fun _ => 0)) 1))) (0, 0) [(0, .ref (L 0)), (1, .int (iZ v1)), (2, .int (iZ v2)), (3, .int (iZ v3)), (4, .int (iZ v4))] 36 [.int (iZ 0)]
        exact x_iret C.1 C.2.2 rfl ⟨Nat.le_of_ble_eq_true rfl, Nat.le_of_ble_eq_true rfl⟩ dX5_trial_36 h
set_option maxRecDepth 100000 in
set_option maxHeartbeats 4000000 in
theorem b_X5_trial_1 {K : KT} {L : Nat → Nat} {c : Nat → ClassId} {post : Int → MS → Prop} (C : C_X5_trial K L c post) {p_distanceOf : MS → Int → Prop} {o_distanceOf : MS → Int → Int → MS → Prop} (h_distanceOf : H_X5_distanceOf p_distanceOf o_distanceOf) {p_copyBy : MS → Int → Prop} {o_copyBy : MS → Int → Int → MS → Prop} (h_copyBy : H_X5_copyBy p_copyBy o_copyBy) {σ : MS} {v1 v2 v3 v4 v5 : Int} (h : (-2147483648 ≤ v5 ∧ v5 < 2147483648) ∧ (-2147483648 ≤ v3 ∧ v3 < 2147483648) ∧ ((v3 ≤ v5 → (-2147483648 ≤ v4 ∧ v4 < 2147483648) ∧ ((¬ v4 = 0 → (p_distanceOf σ v1) ∧ ∀ (r5 : Int) (σ6 : MS), o_distanceOf σ v1 r5 σ6 → post r5 σ6) ∧ (v4 = 0 → post (σ 14 0) σ))) ∧ (¬ v3 ≤ v5 → (p_copyBy σ v2) ∧ ∀ (r8 : Int) (σ9 : MS), o_copyBy σ v2 r8 σ9 → P_X5_trial_1 K L c σ9 v1 v2 v3 v4 (v5 + 1)))) : P_X5_trial_1 K L c σ v1 v2 v3 v4 v5 := by
  refine g_iload C.1 5 dX5_trial_76 rfl ?_
  refine g_iload_n C.1 3 dX5_trial_78 rfl rfl ?_
  obtain ⟨hc1, h⟩ := h
  obtain ⟨hc2, h⟩ := h
  refine g_icmp_ge C.1 (tgt := 93) dX5_trial_79 (by decide) hc1 hc2 (fun hc => ?_) (fun hc => ?_)
  · have h := h.1 hc
    refine g_iload C.1 4 dX5_trial_93 rfl ?_
    obtain ⟨hc3, h⟩ := h
    refine g_if_ne C.1 (tgt := 105) dX5_trial_95 (by decide) hc3 (fun hc => ?_) (fun hc => ?_)
    · have h := h.1 hc
      refine g_aload_n C.1 0 dX5_trial_105 rfl rfl ?_
      refine g_iload_n C.1 1 dX5_trial_106 rfl rfl ?_
      obtain ⟨hp4, h⟩ := h
      refine x_callV C.1 (h_distanceOf K.l L c σ v1 hp4) (ci := 6) (q := (RX5, TX5, 17)) rfl m_recv (fun ht => cwV 1 ht gX5_trial_X5_distanceOf rfl rfl rfl (by decide +kernel) ⟨Nat.le_of_ble_eq_true rfl, Nat.le_of_ble_eq_true rfl⟩) rfl rfl (Nat.le_of_ble_eq_true rfl) ⟨Nat.le_of_ble_eq_true rfl, Nat.le_of_ble_eq_true rfl⟩ dX5_trial_107 (fun r5 σ6 hq => ?_)
      have h := h r5 σ6 hq
      show G K (MW L c [] [] σ6) (0, 0) [(0, .ref (L 0)), (1, .int (iZ v1)), (2, .int (iZ v2)), (3, .int (iZ v3)), (4, .int (iZ v4)), (5, .int (iZ v5))] 110 [.int (iZ r5)]
      exact x_iret C.1 C.2.2 rfl ⟨Nat.le_of_ble_eq_true rfl, Nat.le_of_ble_eq_true rfl⟩ dX5_trial_110 h
    · have h := h.2 hc
      refine g_aload_n C.1 0 dX5_trial_98 rfl rfl ?_
      refine m_get C.1 inX5_trial 14 (by decide) (v := .int (iZ (σ 14 0))) rfl lk_X5_trial_f85 rfl dX5_trial_99 ?_
      refine g_goto C.1 (tgt := 110) dX5_trial_102 (by decide) ?_
      exact x_iret C.1 C.2.2 rfl ⟨Nat.le_of_ble_eq_true rfl, Nat.le_of_ble_eq_true rfl⟩ dX5_trial_110 h
  · have h := h.2 hc
    refine g_aload_n C.1 0 dX5_trial_82 rfl rfl ?_
    refine g_iload_n C.1 2 dX5_trial_83 rfl rfl ?_
    obtain ⟨hp7, h⟩ := h
    refine x_callV C.1 (h_copyBy K.l L c σ v2 hp7) (ci := 6) (q := (RX5, TX5, 17)) rfl m_recv (fun ht => cwV 1 ht gX5_trial_X5_copyBy rfl rfl rfl (by decide +kernel) ⟨Nat.le_of_ble_eq_true rfl, Nat.le_of_ble_eq_true rfl⟩) rfl rfl (Nat.le_of_ble_eq_true rfl) ⟨Nat.le_of_ble_eq_true rfl, Nat.le_of_ble_eq_true rfl⟩ dX5_trial_84 (fun r8 σ9 hq => ?_)
    have h := h r8 σ9 hq
    show G K (MW L c [] [] σ9) (0, 0) [(0, .ref (L 0)), (1, .int (iZ v1)), (2, .int (iZ v2)), (3, .int (iZ v3)), (4, .int (iZ v4)), (5, .int (iZ v5))] 87 []
    refine g_iinc C.1 (z := v5) (w := 1) (loc' := [(5, .int (iZ (v5 + 1))), (0, .ref (L 0)), (1, .int (iZ v1)), (2, .int (iZ v2)), (3, .int (iZ v3)), (4, .int (iZ v4))]) 5 C.2.1 dX5_trial_87 rfl (by decide) rfl ?_
    refine g_goto C.1 (tgt := 76) dX5_trial_90 (by decide) ?_
    exact g_sub [1, 2, 3, 4, 5, 0] rfl h
def H_X5_trial (p : MS → Int → Int → Int → Int → Prop) (o : MS → Int → Int → Int → Int → Int → MS → Prop) : Prop := ∀ (l : Launch) (L : Nat → Nat) (c : Nat → ClassId) (σ : MS) (v1 v2 v3 v4 : Int), p σ v1 v2 v3 v4 → xMet l yX5_trial wsX5_trial rm_X5_trial (MW L c [] []) rkI [.ref (L 0), .int (iZ v1), .int (iZ v2), .int (iZ v3), .int (iZ v4)] σ (fun r σ' => o σ v1 v2 v3 v4 r σ')
theorem m_X5_trial {l : Launch} {L : Nat → Nat} {c : Nat → ClassId} {σ : MS} {v1 v2 v3 v4 : Int} {post : Int → MS → Prop} (h : ∀ K : KT, K.l = l → C_X5_trial K L c post → P_X5_trial_0 K L c σ v1 v2 v3 v4) : xMet l yX5_trial wsX5_trial rm_X5_trial (MW L c [] []) rkI [.ref (L 0), .int (iZ v1), .int (iZ v2), .int (iZ v3), .int (iZ v4)] σ post :=
  xMet.of (maxL := 6) (by decide +kernel) rfl (Nat.le_of_ble_eq_true rfl) (fun K h1 h2 h3 h4 _ => h K h1 ⟨h2, h4, h3⟩)

/-! X5_advise -/
abbrev rm_X5_advise : Room := { frames := 4, cells := 0, slots := 0, locals := 133 }
theorem inX5_advise : ∀ w ∈ wsX50, w ∈ wsX5_advise := by decide +kernel
theorem lk_X5_advise_f47 : Cond.fieldLink RX5 47 "CopyHouseModel" "thrown" "I" ∈ wsX5_advise := List.mem_of_getElem? (i := 1) (by decide +kernel)
theorem lk_X5_advise_f25 : Cond.fieldLink RX5 25 "CopyHouseModel" "isThere" "[Z" ∈ wsX5_advise := List.mem_of_getElem? (i := 2) (by decide +kernel)
theorem lk_X5_advise_f58 : Cond.fieldLink RX5 58 "CopyHouseModel" "scribes" "I" ∈ wsX5_advise := List.mem_of_getElem? (i := 3) (by decide +kernel)
def C_X5_advise (K : KT) (L : Nat → Nat) (c : Nat → ClassId) (post : Int → MS → Prop) : Prop := kOK K cX5_advise RX5 wsX5_advise (some .int) rm_X5_advise ∧ K.nL = 6 ∧ kQ K (MW L c [] []) rkI post rm_X5_advise
def P_X5_advise_0 (K : KT) (L : Nat → Nat) (c : Nat → ClassId) (σ : MS) (v1 : Int) : Prop := G K (MW L c [] [] σ) (0, 0) [(0, .ref (L 0)), (1, .int (iZ v1))] 0 []
def P_X5_advise_1 (K : KT) (L : Nat → Nat) (c : Nat → ClassId) (σ : MS) (v1 v2 v3 v4 : Int) : Prop := G K (MW L c [] [] σ) (0, 0) [(0, .ref (L 0)), (1, .int (iZ v1)), (2, .int (iZ v2)), (3, .int (iZ v3)), (4, .int (iZ v4))] 41 []
set_option maxRecDepth 100000 in
set_option maxHeartbeats 4000000 in
theorem b_X5_advise_0 {K : KT} {L : Nat → Nat} {c : Nat → ClassId} {post : Int → MS → Prop} (C : C_X5_advise K L c post) {p_isText : MS → Int → Prop} {f_isText : MS → Int → Bool} (h_isText : H_X5_isText p_isText f_isText) {p_no : MS → Int → Prop} {u_no : MS → Int → MS} (h_no : H_X5_no p_no u_no) {σ : MS} {v1 : Int} (h : (p_isText (upM σ 0 (fun _ => 0)) v1) ∧ ((f_isText (upM σ 0 (fun _ => 0)) v1 = true → (0 ≤ v1 ∧ v1 < 24) ∧ (-2147483648 ≤ ((σ 8) v1) ∧ ((σ 8) v1) < 2147483648) ∧ ((¬ ((σ 8) v1) = 0 → P_X5_advise_1 K L c (upM σ 0 (fun _ => 0)) v1 ((-1)) 0 0) ∧ (((σ 8) v1) = 0 → (p_no (upM σ 0 (fun _ => 0)) 2) ∧ post 0 ((u_no (upM σ 0 (fun _ => 0)) 2))))) ∧ (¬ (f_isText (upM σ 0 (fun _ => 0)) v1 = true) → (p_no (upM σ 0 (fun _ => 0)) 1) ∧ post 0 ((u_no (upM σ 0 (fun _ => 0)) 1))))) : P_X5_advise_0 K L c σ v1 := by
  refine g_aload_n C.1 0 dX5_advise_0 rfl rfl ?_
  refine g_iconst C.1 (z := 0) dX5_advise_1 ?_
  refine m_put C.1 inX5_advise 0 (by decide) (z := 0) (σ' := upM σ 0 (fun _ => 0)) rfl lk_X5_advise_f47 rfl rfl rfl dX5_advise_2 ?_
  refine g_aload_n C.1 0 dX5_advise_5 rfl rfl ?_
  refine g_iload_n C.1 1 dX5_advise_6 rfl rfl ?_
  obtain ⟨hp1, h⟩ := h
  refine x_callV C.1 (h_isText K.l L c (upM σ 0 (fun _ => 0)) v1 hp1) (ci := 6) (q := (RX5, TX5, 17)) rfl m_recv (fun ht => cwV 1 ht gX5_advise_X5_isText rfl rfl rfl (by decide +kernel) ⟨Nat.le_of_ble_eq_true rfl, Nat.le_of_ble_eq_true rfl⟩) rfl rfl (Nat.le_of_ble_eq_true rfl) ⟨Nat.le_of_ble_eq_true rfl, Nat.le_of_ble_eq_true rfl⟩ dX5_advise_7 (fun r σ9 hq => ?_)
  rw [hq.1, hq.2]
  show G K (MW L c [] [] (upM σ 0 (fun _ => 0))) (0, 0) [(0, .ref (L 0)), (1, .int (iZ v1))] 10 [.int (iZ (if f_isText (upM σ 0 (fun _ => 0)) v1 = true then 1 else 0))]
  refine g_ifb_ne C.1 (tgt := 19) dX5_advise_10 (by decide) (fun hc => ?_) (fun hc => ?_)
  · have h := h.1 hc
    refine g_aload_n C.1 0 dX5_advise_19 rfl rfl ?_
    refine m_get C.1 inX5_advise 8 (by decide) (v := .ref (L 8)) rfl lk_X5_advise_f25 rfl dX5_advise_20 ?_
    refine g_iload_n C.1 1 dX5_advise_23 rfl rfl ?_
    obtain ⟨hi2, h⟩ := h
    refine m_zald C.1 6 5 (N := 24) (f := (σ 8)) (e := v1) rfl rfl (by decide) hi2 dX5_advise_24 ?_
    obtain ⟨hc3, h⟩ := h
    refine g_if_ne C.1 (tgt := 34) dX5_advise_25 (by decide) hc3 (fun hc => ?_) (fun hc => ?_)
    · have h := h.1 hc
      refine g_iconst C.1 (z := (-1)) dX5_advise_34 ?_
      refine g_istore_n C.1 (loc' := [(2, .int (iZ ((-1)))), (0, .ref (L 0)), (1, .int (iZ v1))]) C.2.1 dX5_advise_35 rfl (by decide) rfl ?_
      refine g_iconst C.1 (z := 0) dX5_advise_36 ?_
      refine g_istore_n C.1 (loc' := [(3, .int (iZ 0)), (2, .int (iZ ((-1)))), (0, .ref (L 0)), (1, .int (iZ v1))]) C.2.1 dX5_advise_37 rfl (by decide) rfl ?_
      refine g_iconst C.1 (z := 0) dX5_advise_38 ?_
      refine g_istore C.1 (loc' := [(4, .int (iZ 0)), (3, .int (iZ 0)), (2, .int (iZ ((-1)))), (0, .ref (L 0)), (1, .int (iZ v1))]) C.2.1 dX5_advise_39 (by decide) rfl ?_
      exact g_sub [3, 4, 2, 1, 0] rfl h
    · have h := h.2 hc
      refine g_aload_n C.1 0 dX5_advise_28 rfl rfl ?_
      refine g_iconst C.1 (z := 2) dX5_advise_29 ?_
      obtain ⟨hp4, h⟩ := h
      refine x_callV C.1 (h_no K.l L c (upM σ 0 (fun _ => 0)) 2 hp4) (ci := 6) (q := (RX5, TX5, 17)) rfl m_recv (fun ht => cwV 1 ht gX5_advise_X5_no rfl rfl rfl (by decide +kernel) ⟨Nat.le_of_ble_eq_true rfl, Nat.le_of_ble_eq_true rfl⟩) rfl rfl (Nat.le_of_ble_eq_true rfl) ⟨Nat.le_of_ble_eq_true rfl, Nat.le_of_ble_eq_true rfl⟩ dX5_advise_30 (fun r σ9 hq => ?_)
      rw [hq.1, hq.2]
      show G K (MW L c [] [] ((u_no (upM σ 0 (fun _ => 0)) 2))) (0, 0) [(0, .ref (L 0)), (1, .int (iZ v1))] 33 [.int (iZ 0)]
      exact x_iret C.1 C.2.2 rfl ⟨Nat.le_of_ble_eq_true rfl, Nat.le_of_ble_eq_true rfl⟩ dX5_advise_33 h
  · have h := h.2 hc
    refine g_aload_n C.1 0 dX5_advise_13 rfl rfl ?_
    refine g_iconst C.1 (z := 1) dX5_advise_14 ?_
    obtain ⟨hp5, h⟩ := h
    refine x_callV C.1 (h_no K.l L c (upM σ 0 (fun _ => 0)) 1 hp5) (ci := 6) (q := (RX5, TX5, 17)) rfl m_recv (fun ht => cwV 1 ht gX5_advise_X5_no rfl rfl rfl (by decide +kernel) ⟨Nat.le_of_ble_eq_true rfl, Nat.le_of_ble_eq_true rfl⟩) rfl rfl (Nat.le_of_ble_eq_true rfl) ⟨Nat.le_of_ble_eq_true rfl, Nat.le_of_ble_eq_true rfl⟩ dX5_advise_15 (fun r σ9 hq => ?_)
    rw [hq.1, hq.2]
    show G K (MW L c [] [] ((u_no (upM σ 0 (fun _ => 0)) 1))) (0, 0) [(0, .ref (L 0)), (1, .int (iZ v1))] 18 [.int (iZ 0)]
    exact x_iret C.1 C.2.2 rfl ⟨Nat.le_of_ble_eq_true rfl, Nat.le_of_ble_eq_true rfl⟩ dX5_advise_18 h
set_option maxRecDepth 100000 in
set_option maxHeartbeats 4000000 in
theorem b_X5_advise_1 {K : KT} {L : Nat → Nat} {c : Nat → ClassId} {post : Int → MS → Prop} (C : C_X5_advise K L c post) {p_take : MS → Int → Prop} {u_take : MS → Int → MS} (h_take : H_X5_take p_take u_take) {p_copyBy : MS → Int → Prop} {o_copyBy : MS → Int → Int → MS → Prop} (h_copyBy : H_X5_copyBy p_copyBy o_copyBy) {p_distanceOf : MS → Int → Prop} {o_distanceOf : MS → Int → Int → MS → Prop} (h_distanceOf : H_X5_distanceOf p_distanceOf o_distanceOf) {σ : MS} {v1 v2 v3 v4 : Int} (h : (-2147483648 ≤ v4 ∧ v4 < 2147483648) ∧ (-2147483648 ≤ (σ 9 0) ∧ (σ 9 0) < 2147483648) ∧ (((σ 9 0) ≤ v4 → post v2 σ) ∧ (¬ (σ 9 0) ≤ v4 → (p_take σ v1) ∧ (p_copyBy ((u_take σ v1)) v4) ∧ ∀ (r5 : Int) (σ6 : MS), o_copyBy ((u_take σ v1)) v4 r5 σ6 → (p_distanceOf σ6 v1) ∧ ∀ (r8 : Int) (σ9 : MS), o_distanceOf σ6 v1 r8 σ9 → (-2147483648 ≤ v2 ∧ v2 < 2147483648) ∧ ((v2 = ((-1)) → P_X5_advise_1 K L c σ9 v1 v4 r8 (v4 + 1)) ∧ (¬ v2 = ((-1)) → (-2147483648 ≤ r8 ∧ r8 < 2147483648) ∧ (-2147483648 ≤ v3 ∧ v3 < 2147483648) ∧ ((r8 < v3 → P_X5_advise_1 K L c σ9 v1 v4 r8 (v4 + 1)) ∧ (¬ r8 < v3 → P_X5_advise_1 K L c σ9 v1 v2 v3 (v4 + 1)))))))) : P_X5_advise_1 K L c σ v1 v2 v3 v4 := by
  refine g_iload C.1 4 dX5_advise_41 rfl ?_
  refine g_aload_n C.1 0 dX5_advise_43 rfl rfl ?_
  refine m_get C.1 inX5_advise 9 (by decide) (v := .int (iZ (σ 9 0))) rfl lk_X5_advise_f58 rfl dX5_advise_44 ?_
  obtain ⟨hc1, h⟩ := h
  obtain ⟨hc2, h⟩ := h
  refine g_icmp_ge C.1 (tgt := 94) dX5_advise_47 (by decide) hc1 hc2 (fun hc => ?_) (fun hc => ?_)
  · have h := h.1 hc
    refine g_iload_n C.1 2 dX5_advise_94 rfl rfl ?_
    exact x_iret C.1 C.2.2 rfl ⟨Nat.le_of_ble_eq_true rfl, Nat.le_of_ble_eq_true rfl⟩ dX5_advise_95 h
  · have h := h.2 hc
    refine g_aload_n C.1 0 dX5_advise_50 rfl rfl ?_
    refine g_iload_n C.1 1 dX5_advise_51 rfl rfl ?_
    obtain ⟨hp3, h⟩ := h
    refine x_callV C.1 (h_take K.l L c σ v1 hp3) (ci := 6) (q := (RX5, TX5, 17)) rfl m_recv (fun ht => cwV 1 ht gX5_advise_X5_take rfl rfl rfl (by decide +kernel) ⟨Nat.le_of_ble_eq_true rfl, Nat.le_of_ble_eq_true rfl⟩) rfl rfl (Nat.le_of_ble_eq_true rfl) ⟨Nat.le_of_ble_eq_true rfl, Nat.le_of_ble_eq_true rfl⟩ dX5_advise_52 (fun r σ9 hq => ?_)
    rw [hq.1, hq.2]
    show G K (MW L c [] [] ((u_take σ v1))) (0, 0) [(0, .ref (L 0)), (1, .int (iZ v1)), (2, .int (iZ v2)), (3, .int (iZ v3)), (4, .int (iZ v4))] 55 []
    refine g_aload_n C.1 0 dX5_advise_55 rfl rfl ?_
    refine g_iload C.1 4 dX5_advise_56 rfl ?_
    obtain ⟨hp4, h⟩ := h
    refine x_callV C.1 (h_copyBy K.l L c ((u_take σ v1)) v4 hp4) (ci := 6) (q := (RX5, TX5, 17)) rfl m_recv (fun ht => cwV 1 ht gX5_advise_X5_copyBy rfl rfl rfl (by decide +kernel) ⟨Nat.le_of_ble_eq_true rfl, Nat.le_of_ble_eq_true rfl⟩) rfl rfl (Nat.le_of_ble_eq_true rfl) ⟨Nat.le_of_ble_eq_true rfl, Nat.le_of_ble_eq_true rfl⟩ dX5_advise_58 (fun r5 σ6 hq => ?_)
    have h := h r5 σ6 hq
    show G K (MW L c [] [] σ6) (0, 0) [(0, .ref (L 0)), (1, .int (iZ v1)), (2, .int (iZ v2)), (3, .int (iZ v3)), (4, .int (iZ v4))] 61 []
    refine g_aload_n C.1 0 dX5_advise_61 rfl rfl ?_
    refine g_iload_n C.1 1 dX5_advise_62 rfl rfl ?_
    obtain ⟨hp7, h⟩ := h
    refine x_callV C.1 (h_distanceOf K.l L c σ6 v1 hp7) (ci := 6) (q := (RX5, TX5, 17)) rfl m_recv (fun ht => cwV 1 ht gX5_advise_X5_distanceOf rfl rfl rfl (by decide +kernel) ⟨Nat.le_of_ble_eq_true rfl, Nat.le_of_ble_eq_true rfl⟩) rfl rfl (Nat.le_of_ble_eq_true rfl) ⟨Nat.le_of_ble_eq_true rfl, Nat.le_of_ble_eq_true rfl⟩ dX5_advise_63 (fun r8 σ9 hq => ?_)
    have h := h r8 σ9 hq
    show G K (MW L c [] [] σ9) (0, 0) [(0, .ref (L 0)), (1, .int (iZ v1)), (2, .int (iZ v2)), (3, .int (iZ v3)), (4, .int (iZ v4))] 66 [.int (iZ r8)]
    refine g_istore C.1 (loc' := [(5, .int (iZ r8)), (0, .ref (L 0)), (1, .int (iZ v1)), (2, .int (iZ v2)), (3, .int (iZ v3)), (4, .int (iZ v4))]) C.2.1 dX5_advise_66 (by decide) rfl ?_
    refine g_iload_n C.1 3 dX5_advise_68 rfl rfl ?_
    refine g_iconst C.1 (z := (-1)) dX5_advise_69 ?_
    obtain ⟨hc10, h⟩ := h
    refine g_icmp_eq C.1 (tgt := 82) dX5_advise_70 (by decide) hc10 (by decide) (fun hc => ?_) (fun hc => ?_)
    · have h := h.1 hc
      refine g_iload C.1 5 dX5_advise_82 rfl ?_
      refine g_istore_n C.1 (loc' := [(2, .int (iZ v4)), (5, .int (iZ r8)), (0, .ref (L 0)), (1, .int (iZ v1)), (3, .int (iZ v3)), (4, .int (iZ v4))]) C.2.1 dX5_advise_84 rfl (by decide) rfl ?_
      refine g_iload C.1 1 dX5_advise_85 rfl ?_
      refine g_istore_n C.1 (loc' := [(3, .int (iZ r8)), (2, .int (iZ v4)), (5, .int (iZ r8)), (0, .ref (L 0)), (1, .int (iZ v1)), (4, .int (iZ v4))]) C.2.1 dX5_advise_87 rfl (by decide) rfl ?_
      refine g_iinc C.1 (z := v4) (w := 1) (loc' := [(4, .int (iZ (v4 + 1))), (3, .int (iZ r8)), (2, .int (iZ v4)), (5, .int (iZ r8)), (0, .ref (L 0)), (1, .int (iZ v1))]) 5 C.2.1 dX5_advise_88 rfl (by decide) rfl ?_
      refine g_goto C.1 (tgt := 41) dX5_advise_91 (by decide) ?_
      exact g_sub [4, 5, 2, 1, 0] rfl h
    · have h := h.2 hc
      refine g_iload C.1 0 dX5_advise_73 rfl ?_
      refine g_iload_n C.1 4 dX5_advise_75 rfl rfl ?_
      obtain ⟨hc11, h⟩ := h
      obtain ⟨hc12, h⟩ := h
      refine g_icmp_lt C.1 (tgt := 82) dX5_advise_76 (by decide) hc11 hc12 (fun hc => ?_) (fun hc => ?_)
      · have h := h.1 hc
        refine g_iload C.1 5 dX5_advise_82 rfl ?_
        refine g_istore_n C.1 (loc' := [(2, .int (iZ v4)), (5, .int (iZ r8)), (0, .ref (L 0)), (1, .int (iZ v1)), (3, .int (iZ v3)), (4, .int (iZ v4))]) C.2.1 dX5_advise_84 rfl (by decide) rfl ?_
        refine g_iload C.1 1 dX5_advise_85 rfl ?_
        refine g_istore_n C.1 (loc' := [(3, .int (iZ r8)), (2, .int (iZ v4)), (5, .int (iZ r8)), (0, .ref (L 0)), (1, .int (iZ v1)), (4, .int (iZ v4))]) C.2.1 dX5_advise_87 rfl (by decide) rfl ?_
        refine g_iinc C.1 (z := v4) (w := 1) (loc' := [(4, .int (iZ (v4 + 1))), (3, .int (iZ r8)), (2, .int (iZ v4)), (5, .int (iZ r8)), (0, .ref (L 0)), (1, .int (iZ v1))]) 5 C.2.1 dX5_advise_88 rfl (by decide) rfl ?_
        refine g_goto C.1 (tgt := 41) dX5_advise_91 (by decide) ?_
        exact g_sub [4, 5, 2, 1, 0] rfl h
      · have h := h.2 hc
        refine g_goto C.1 (tgt := 88) dX5_advise_79 (by decide) ?_
        refine g_iinc C.1 (z := v4) (w := 1) (loc' := [(4, .int (iZ (v4 + 1))), (5, .int (iZ r8)), (0, .ref (L 0)), (1, .int (iZ v1)), (2, .int (iZ v2)), (3, .int (iZ v3))]) 5 C.2.1 dX5_advise_88 rfl (by decide) rfl ?_
        refine g_goto C.1 (tgt := 41) dX5_advise_91 (by decide) ?_
        exact g_sub [2, 3, 4, 5, 0] rfl h
def H_X5_advise (p : MS → Int → Prop) (o : MS → Int → Int → MS → Prop) : Prop := ∀ (l : Launch) (L : Nat → Nat) (c : Nat → ClassId) (σ : MS) (v1 : Int), p σ v1 → xMet l yX5_advise wsX5_advise rm_X5_advise (MW L c [] []) rkI [.ref (L 0), .int (iZ v1)] σ (fun r σ' => o σ v1 r σ')
theorem m_X5_advise {l : Launch} {L : Nat → Nat} {c : Nat → ClassId} {σ : MS} {v1 : Int} {post : Int → MS → Prop} (h : ∀ K : KT, K.l = l → C_X5_advise K L c post → P_X5_advise_0 K L c σ v1) : xMet l yX5_advise wsX5_advise rm_X5_advise (MW L c [] []) rkI [.ref (L 0), .int (iZ v1)] σ post :=
  xMet.of (maxL := 6) (by decide +kernel) rfl (Nat.le_of_ble_eq_true rfl) (fun K h1 h2 h3 h4 _ => h K h1 ⟨h2, h4, h3⟩)

/-! X5_digest -/
abbrev rm_X5_digest : Room := { frames := 5, cells := 0, slots := 0, locals := 152 }
theorem inX5_digest : ∀ w ∈ wsX50, w ∈ wsX5_digest := by decide +kernel
theorem lk_X5_digest_f47 : Cond.fieldLink RX5 47 "CopyHouseModel" "thrown" "I" ∈ wsX5_digest := List.mem_of_getElem? (i := 1) (by decide +kernel)
theorem lk_X5_digest_k159 : Cond.constantLong RX5 159 (491) ∈ wsX5_digest := List.mem_of_getElem? (i := 2) (by decide +kernel)
theorem lk_X5_digest_k161 : Cond.constantLong RX5 161 (31) ∈ wsX5_digest := List.mem_of_getElem? (i := 3) (by decide +kernel)
theorem lk_X5_digest_f58 : Cond.fieldLink RX5 58 "CopyHouseModel" "scribes" "I" ∈ wsX5_digest := List.mem_of_getElem? (i := 4) (by decide +kernel)
theorem lk_X5_digest_f29 : Cond.fieldLink RX5 29 "CopyHouseModel" "habits" "[I" ∈ wsX5_digest := List.mem_of_getElem? (i := 5) (by decide +kernel)
theorem lk_X5_digest_f51 : Cond.fieldLink RX5 51 "CopyHouseModel" "texts" "I" ∈ wsX5_digest := List.mem_of_getElem? (i := 7) (by decide +kernel)
theorem lk_X5_digest_f32 : Cond.fieldLink RX5 32 "CopyHouseModel" "habit" "[I" ∈ wsX5_digest := List.mem_of_getElem? (i := 6) (by decide +kernel)
theorem lk_X5_digest_f16 : Cond.fieldLink RX5 16 "CopyHouseModel" "length" "[I" ∈ wsX5_digest := List.mem_of_getElem? (i := 8) (by decide +kernel)
theorem lk_X5_digest_f13 : Cond.fieldLink RX5 13 "CopyHouseModel" "letters" "[I" ∈ wsX5_digest := List.mem_of_getElem? (i := 9) (by decide +kernel)
def C_X5_digest (K : KT) (L : Nat → Nat) (c : Nat → ClassId) (post : Int → MS → Prop) : Prop := kOK K cX5_digest RX5 wsX5_digest (some .long) rm_X5_digest ∧ K.nL = 5 ∧ kQ K (MW L c [] []) rkL post rm_X5_digest
def P_X5_digest_0 (K : KT) (L : Nat → Nat) (c : Nat → ClassId) (σ : MS) : Prop := G K (MW L c [] [] σ) (0, 0) [(0, .ref (L 0))] 0 []
def P_X5_digest_1 (K : KT) (L : Nat → Nat) (c : Nat → ClassId) (σ : MS) (v1 v3 : Int) : Prop := G K (MW L c [] [] σ) (0, 0) [(0, .ref (L 0)), (1, .long (lZ v1)), (3, .int (iZ v3))] 11 []
def P_X5_digest_2 (K : KT) (L : Nat → Nat) (c : Nat → ClassId) (σ : MS) (v1 v3 : Int) : Prop := G K (MW L c [] [] σ) (0, 0) [(0, .ref (L 0)), (1, .long (lZ v1)), (3, .int (iZ v3))] 38 []
def P_X5_digest_3 (K : KT) (L : Nat → Nat) (c : Nat → ClassId) (σ : MS) (v1 v3 : Int) : Prop := G K (MW L c [] [] σ) (0, 0) [(0, .ref (L 0)), (1, .long (lZ v1)), (3, .int (iZ v3))] 110 []
def P_X5_digest_4 (K : KT) (L : Nat → Nat) (c : Nat → ClassId) (σ : MS) (v1 v3 v4 : Int) : Prop := G K (MW L c [] [] σ) (0, 0) [(0, .ref (L 0)), (1, .long (lZ v1)), (3, .int (iZ v3)), (4, .int (iZ v4))] 63 []
def P_X5_digest_5 (K : KT) (L : Nat → Nat) (c : Nat → ClassId) (σ : MS) (v1 v3 v4 : Int) : Prop := G K (MW L c [] [] σ) (0, 0) [(0, .ref (L 0)), (1, .long (lZ v1)), (3, .int (iZ v3)), (4, .int (iZ v4))] 225 []
def P_X5_digest_6 (K : KT) (L : Nat → Nat) (c : Nat → ClassId) (σ : MS) (v1 v3 v4 : Int) : Prop := G K (MW L c [] [] σ) (0, 0) [(0, .ref (L 0)), (1, .long (lZ v1)), (3, .int (iZ v3)), (4, .int (iZ v4))] 121 []
def P_X5_digest_7 (K : KT) (L : Nat → Nat) (c : Nat → ClassId) (σ : MS) (v1 v3 v4 : Int) : Prop := G K (MW L c [] [] σ) (0, 0) [(0, .ref (L 0)), (1, .long (lZ v1)), (3, .int (iZ v3)), (4, .int (iZ v4))] 165 []
set_option maxRecDepth 100000 in
set_option maxHeartbeats 4000000 in
theorem b_X5_digest_0 {K : KT} {L : Nat → Nat} {c : Nat → ClassId} {post : Int → MS → Prop} (C : C_X5_digest K L c post) {σ : MS} (h : P_X5_digest_1 K L c (upM σ 0 (fun _ => 0)) 491 0) : P_X5_digest_0 K L c σ := by
  refine g_aload_n C.1 0 dX5_digest_0 rfl rfl ?_
  refine g_iconst C.1 (z := 0) dX5_digest_1 ?_
  refine m_put C.1 inX5_digest 0 (by decide) (z := 0) (σ' := upM σ 0 (fun _ => 0)) rfl lk_X5_digest_f47 rfl rfl rfl dX5_digest_2 ?_
  refine g_ldc2 C.1 (x := 491) rfl lk_X5_digest_k159 dX5_digest_5 ?_
  refine g_lstore_n C.1 (loc' := [(1, .long (lZ 491)), (0, .ref (L 0))]) C.2.1 dX5_digest_8 rfl (by decide) rfl ?_
  refine g_iconst C.1 (z := 0) dX5_digest_9 ?_
  refine g_istore_n C.1 (loc' := [(3, .int (iZ 0)), (1, .long (lZ 491)), (0, .ref (L 0))]) C.2.1 dX5_digest_10 rfl (by decide) rfl ?_
  exact g_sub [2, 1, 0] rfl h
set_option maxRecDepth 100000 in
set_option maxHeartbeats 4000000 in
theorem b_X5_digest_1 {K : KT} {L : Nat → Nat} {c : Nat → ClassId} {post : Int → MS → Prop} (C : C_X5_digest K L c post) {p_counted : MS → Int → Prop} {o_counted : MS → Int → Int → MS → Prop} (h_counted : H_X5_counted p_counted o_counted) {σ : MS} {v1 v3 : Int} (h : (-2147483648 ≤ v3 ∧ v3 < 2147483648) ∧ ((8 ≤ v3 → P_X5_digest_2 K L c σ v1 0) ∧ (¬ 8 ≤ v3 → (p_counted σ v3) ∧ ∀ (r3 : Int) (σ4 : MS), o_counted σ v3 r3 σ4 → (-2147483648 ≤ r3 ∧ r3 < 2147483648) ∧ P_X5_digest_1 K L c σ4 ((v1 * 31) + r3) (v3 + 1)))) : P_X5_digest_1 K L c σ v1 v3 := by
  refine g_iload_n C.1 2 dX5_digest_11 rfl rfl ?_
  refine g_bipush C.1 (z := 8) dX5_digest_12 (by decide) ?_
  obtain ⟨hc1, h⟩ := h
  refine g_icmp_ge C.1 (tgt := 36) dX5_digest_14 (by decide) hc1 (by decide) (fun hc => ?_) (fun hc => ?_)
  · have h := h.1 hc
    refine g_iconst C.1 (z := 0) dX5_digest_36 ?_
    refine g_istore_n C.1 (loc' := [(3, .int (iZ 0)), (0, .ref (L 0)), (1, .long (lZ v1))]) C.2.1 dX5_digest_37 rfl (by decide) rfl ?_
    exact g_sub [1, 2, 0] rfl h
  · have h := h.2 hc
    refine g_lload_n C.1 1 dX5_digest_17 rfl rfl ?_
    refine g_ldc2 C.1 (x := 31) rfl lk_X5_digest_k161 dX5_digest_18 ?_
    refine g_lmul C.1 (x := v1) (y := 31) dX5_digest_21 ?_
    refine g_aload_n C.1 0 dX5_digest_22 rfl rfl ?_
    refine g_iload_n C.1 2 dX5_digest_23 rfl rfl ?_
    obtain ⟨hp2, h⟩ := h
    refine x_callV C.1 (h_counted K.l L c σ v3 hp2) (ci := 6) (q := (RX5, TX5, 17)) rfl m_recv (fun ht => cwV 1 ht gX5_digest_X5_counted rfl rfl rfl (by decide +kernel) ⟨Nat.le_of_ble_eq_true rfl, Nat.le_of_ble_eq_true rfl⟩) rfl rfl (Nat.le_of_ble_eq_true rfl) ⟨Nat.le_of_ble_eq_true rfl, Nat.le_of_ble_eq_true rfl⟩ dX5_digest_24 (fun r3 σ4 hq => ?_)
    have h := h r3 σ4 hq
    show G K (MW L c [] [] σ4) (0, 0) [(0, .ref (L 0)), (1, .long (lZ v1)), (3, .int (iZ v3))] 27 [.int (iZ r3), .long (lZ (v1 * 31))]
    obtain ⟨hc5, h⟩ := h
    refine g_i2l C.1 (x := r3) hc5 dX5_digest_27 ?_
    refine g_ladd C.1 (x := v1 * 31) (y := r3) dX5_digest_28 ?_
    refine g_lstore_n C.1 (loc' := [(1, .long (lZ ((v1 * 31) + r3))), (0, .ref (L 0)), (3, .int (iZ v3))]) C.2.1 dX5_digest_29 rfl (by decide) rfl ?_
    refine g_iinc C.1 (z := v3) (w := 1) (loc' := [(3, .int (iZ (v3 + 1))), (1, .long (lZ ((v1 * 31) + r3))), (0, .ref (L 0))]) 2 C.2.1 dX5_digest_30 rfl (by decide) rfl ?_
    refine g_goto C.1 (tgt := 11) dX5_digest_33 (by decide) ?_
    exact g_sub [2, 1, 0] rfl h
set_option maxRecDepth 100000 in
set_option maxHeartbeats 4000000 in
theorem b_X5_digest_2 {K : KT} {L : Nat → Nat} {c : Nat → ClassId} {post : Int → MS → Prop} (C : C_X5_digest K L c post) {σ : MS} {v1 v3 : Int} (h : (-2147483648 ≤ v3 ∧ v3 < 2147483648) ∧ (-2147483648 ≤ (σ 9 0) ∧ (σ 9 0) < 2147483648) ∧ (((σ 9 0) ≤ v3 → P_X5_digest_3 K L c σ v1 0) ∧ (¬ (σ 9 0) ≤ v3 → (0 ≤ v3 ∧ v3 < 8) ∧ (-2147483648 ≤ ((σ 10) v3) ∧ ((σ 10) v3) < 2147483648) ∧ P_X5_digest_4 K L c σ ((v1 * 31) + ((σ 10) v3)) v3 0))) : P_X5_digest_2 K L c σ v1 v3 := by
  refine g_iload_n C.1 2 dX5_digest_38 rfl rfl ?_
  refine g_aload_n C.1 0 dX5_digest_39 rfl rfl ?_
  refine m_get C.1 inX5_digest 9 (by decide) (v := .int (iZ (σ 9 0))) rfl lk_X5_digest_f58 rfl dX5_digest_40 ?_
  obtain ⟨hc1, h⟩ := h
  obtain ⟨hc2, h⟩ := h
  refine g_icmp_ge C.1 (tgt := 108) dX5_digest_43 (by decide) hc1 hc2 (fun hc => ?_) (fun hc => ?_)
  · have h := h.1 hc
    refine g_iconst C.1 (z := 0) dX5_digest_108 ?_
    refine g_istore_n C.1 (loc' := [(3, .int (iZ 0)), (0, .ref (L 0)), (1, .long (lZ v1))]) C.2.1 dX5_digest_109 rfl (by decide) rfl ?_
    exact g_sub [1, 2, 0] rfl h
  · have h := h.2 hc
    refine g_lload_n C.1 1 dX5_digest_46 rfl rfl ?_
    refine g_ldc2 C.1 (x := 31) rfl lk_X5_digest_k161 dX5_digest_47 ?_
    refine g_lmul C.1 (x := v1) (y := 31) dX5_digest_50 ?_
    refine g_aload_n C.1 0 dX5_digest_51 rfl rfl ?_
    refine m_get C.1 inX5_digest 10 (by decide) (v := .ref (L 10)) rfl lk_X5_digest_f29 rfl dX5_digest_52 ?_
    refine g_iload_n C.1 2 dX5_digest_55 rfl rfl ?_
    obtain ⟨hi3, h⟩ := h
    refine m_ald C.1 7 6 (N := 8) (f := (σ 10)) (e := v3) rfl rfl (by decide) hi3 dX5_digest_56 ?_
    obtain ⟨hc4, h⟩ := h
    refine g_i2l C.1 (x := (σ 10) v3) hc4 dX5_digest_57 ?_
    refine g_ladd C.1 (x := v1 * 31) (y := (σ 10) v3) dX5_digest_58 ?_
    refine g_lstore_n C.1 (loc' := [(1, .long (lZ ((v1 * 31) + ((σ 10) v3)))), (0, .ref (L 0)), (3, .int (iZ v3))]) C.2.1 dX5_digest_59 rfl (by decide) rfl ?_
    refine g_iconst C.1 (z := 0) dX5_digest_60 ?_
    refine g_istore C.1 (loc' := [(4, .int (iZ 0)), (1, .long (lZ ((v1 * 31) + ((σ 10) v3)))), (0, .ref (L 0)), (3, .int (iZ v3))]) C.2.1 dX5_digest_61 (by decide) rfl ?_
    exact g_sub [2, 1, 3, 0] rfl h
set_option maxRecDepth 100000 in
set_option maxHeartbeats 4000000 in
theorem b_X5_digest_3 {K : KT} {L : Nat → Nat} {c : Nat → ClassId} {post : Int → MS → Prop} (C : C_X5_digest K L c post) {p_votedLength : MS → Prop} {f_votedLength : MS → Int} (h_votedLength : H_X5_votedLength p_votedLength f_votedLength) {σ : MS} {v1 v3 : Int} (h : (-2147483648 ≤ v3 ∧ v3 < 2147483648) ∧ (-2147483648 ≤ (σ 3 0) ∧ (σ 3 0) < 2147483648) ∧ (((σ 3 0) ≤ v3 → (p_votedLength σ) ∧ (-2147483648 ≤ (f_votedLength σ) ∧ (f_votedLength σ) < 2147483648) ∧ P_X5_digest_5 K L c σ ((v1 * 31) + (f_votedLength σ)) (f_votedLength σ) 0) ∧ (¬ (σ 3 0) ≤ v3 → P_X5_digest_6 K L c σ v1 v3 0))) : P_X5_digest_3 K L c σ v1 v3 := by
  refine g_iload_n C.1 2 dX5_digest_110 rfl rfl ?_
  refine g_aload_n C.1 0 dX5_digest_111 rfl rfl ?_
  refine m_get C.1 inX5_digest 3 (by decide) (v := .int (iZ (σ 3 0))) rfl lk_X5_digest_f51 rfl dX5_digest_112 ?_
  obtain ⟨hc1, h⟩ := h
  obtain ⟨hc2, h⟩ := h
  refine g_icmp_ge C.1 (tgt := 208) dX5_digest_115 (by decide) hc1 hc2 (fun hc => ?_) (fun hc => ?_)
  · have h := h.1 hc
    refine g_aload_n C.1 0 dX5_digest_208 rfl rfl ?_
    obtain ⟨hp3, h⟩ := h
    refine x_callV C.1 (h_votedLength K.l L c σ hp3) (ci := 6) (q := (RX5, TX5, 17)) rfl m_recv (fun ht => cwV 0 ht gX5_digest_X5_votedLength rfl rfl rfl (by decide +kernel) ⟨Nat.le_of_ble_eq_true rfl, Nat.le_of_ble_eq_true rfl⟩) rfl rfl (Nat.le_of_ble_eq_true rfl) ⟨Nat.le_of_ble_eq_true rfl, Nat.le_of_ble_eq_true rfl⟩ dX5_digest_209 (fun r σ9 hq => ?_)
    rw [hq.1, hq.2]
    show G K (MW L c [] [] σ) (0, 0) [(0, .ref (L 0)), (1, .long (lZ v1)), (3, .int (iZ v3))] 212 [.int (iZ (f_votedLength σ))]
    refine g_istore_n C.1 (loc' := [(3, .int (iZ (f_votedLength σ))), (0, .ref (L 0)), (1, .long (lZ v1))]) C.2.1 dX5_digest_212 rfl (by decide) rfl ?_
    refine g_lload_n C.1 2 dX5_digest_213 rfl rfl ?_
    refine g_ldc2 C.1 (x := 31) rfl lk_X5_digest_k161 dX5_digest_214 ?_
    refine g_lmul C.1 (x := v1) (y := 31) dX5_digest_217 ?_
    refine g_iload_n C.1 0 dX5_digest_218 rfl rfl ?_
    obtain ⟨hc4, h⟩ := h
    refine g_i2l C.1 (x := f_votedLength σ) hc4 dX5_digest_219 ?_
    refine g_ladd C.1 (x := v1 * 31) (y := f_votedLength σ) dX5_digest_220 ?_
    refine g_lstore_n C.1 (loc' := [(1, .long (lZ ((v1 * 31) + (f_votedLength σ)))), (3, .int (iZ (f_votedLength σ))), (0, .ref (L 0))]) C.2.1 dX5_digest_221 rfl (by decide) rfl ?_
    refine g_iconst C.1 (z := 0) dX5_digest_222 ?_
    refine g_istore C.1 (loc' := [(4, .int (iZ 0)), (1, .long (lZ ((v1 * 31) + (f_votedLength σ)))), (3, .int (iZ (f_votedLength σ))), (0, .ref (L 0))]) C.2.1 dX5_digest_223 (by decide) rfl ?_
    exact g_sub [3, 1, 2, 0] rfl h
  · have h := h.2 hc
    refine g_iconst C.1 (z := 0) dX5_digest_118 ?_
    refine g_istore C.1 (loc' := [(4, .int (iZ 0)), (0, .ref (L 0)), (1, .long (lZ v1)), (3, .int (iZ v3))]) C.2.1 dX5_digest_119 (by decide) rfl ?_
    exact g_sub [1, 2, 3, 0] rfl h
set_option maxRecDepth 100000 in
set_option maxHeartbeats 4000000 in
theorem b_X5_digest_4 {K : KT} {L : Nat → Nat} {c : Nat → ClassId} {post : Int → MS → Prop} (C : C_X5_digest K L c post) {σ : MS} {v1 v3 v4 : Int} (h : (0 ≤ v3 ∧ v3 < 8) ∧ (-2147483648 ≤ v4 ∧ v4 < 2147483648) ∧ (-2147483648 ≤ (4 * ((σ 10) v3)) ∧ (4 * ((σ 10) v3)) < 2147483648) ∧ (((4 * ((σ 10) v3)) ≤ v4 → P_X5_digest_2 K L c σ v1 (v3 + 1)) ∧ (¬ (4 * ((σ 10) v3)) ≤ v4 → (0 ≤ ((20 * v3) + v4) ∧ ((20 * v3) + v4) < 160) ∧ (-2147483648 ≤ ((σ 11) ((20 * v3) + v4)) ∧ ((σ 11) ((20 * v3) + v4)) < 2147483648) ∧ P_X5_digest_4 K L c σ ((v1 * 31) + ((σ 11) ((20 * v3) + v4))) v3 (v4 + 1)))) : P_X5_digest_4 K L c σ v1 v3 v4 := by
  refine g_iload C.1 3 dX5_digest_63 rfl ?_
  refine g_iconst C.1 (z := 4) dX5_digest_65 ?_
  refine g_aload_n C.1 0 dX5_digest_66 rfl rfl ?_
  refine m_get C.1 inX5_digest 10 (by decide) (v := .ref (L 10)) rfl lk_X5_digest_f29 rfl dX5_digest_67 ?_
  refine g_iload_n C.1 2 dX5_digest_70 rfl rfl ?_
  obtain ⟨hi1, h⟩ := h
  refine m_ald C.1 7 6 (N := 8) (f := (σ 10)) (e := v3) rfl rfl (by decide) hi1 dX5_digest_71 ?_
  refine g_imul C.1 (x := 4) (y := (σ 10) v3) dX5_digest_72 ?_
  obtain ⟨hc2, h⟩ := h
  obtain ⟨hc3, h⟩ := h
  refine g_icmp_ge C.1 (tgt := 102) dX5_digest_73 (by decide) hc2 hc3 (fun hc => ?_) (fun hc => ?_)
  · have h := h.1 hc
    refine g_iinc C.1 (z := v3) (w := 1) (loc' := [(3, .int (iZ (v3 + 1))), (0, .ref (L 0)), (1, .long (lZ v1)), (4, .int (iZ v4))]) 2 C.2.1 dX5_digest_102 rfl (by decide) rfl ?_
    refine g_goto C.1 (tgt := 38) dX5_digest_105 (by decide) ?_
    exact g_sub [1, 2, 0] rfl h
  · have h := h.2 hc
    refine g_lload_n C.1 1 dX5_digest_76 rfl rfl ?_
    refine g_ldc2 C.1 (x := 31) rfl lk_X5_digest_k161 dX5_digest_77 ?_
    refine g_lmul C.1 (x := v1) (y := 31) dX5_digest_80 ?_
    refine g_aload_n C.1 0 dX5_digest_81 rfl rfl ?_
    refine m_get C.1 inX5_digest 11 (by decide) (v := .ref (L 11)) rfl lk_X5_digest_f32 rfl dX5_digest_82 ?_
    refine g_bipush C.1 (z := 20) dX5_digest_85 (by decide) ?_
    refine g_iload_n C.1 2 dX5_digest_87 rfl rfl ?_
    refine g_imul C.1 (x := 20) (y := v3) dX5_digest_88 ?_
    refine g_iload C.1 3 dX5_digest_89 rfl ?_
    refine g_iadd C.1 (x := 20 * v3) (y := v4) dX5_digest_91 ?_
    obtain ⟨hi4, h⟩ := h
    refine m_ald C.1 8 7 (N := 160) (f := (σ 11)) (e := ((20 * v3) + v4)) rfl rfl (by decide) hi4 dX5_digest_92 ?_
    obtain ⟨hc5, h⟩ := h
    refine g_i2l C.1 (x := (σ 11) ((20 * v3) + v4)) hc5 dX5_digest_93 ?_
    refine g_ladd C.1 (x := v1 * 31) (y := (σ 11) ((20 * v3) + v4)) dX5_digest_94 ?_
    refine g_lstore_n C.1 (loc' := [(1, .long (lZ ((v1 * 31) + ((σ 11) ((20 * v3) + v4))))), (0, .ref (L 0)), (3, .int (iZ v3)), (4, .int (iZ v4))]) C.2.1 dX5_digest_95 rfl (by decide) rfl ?_
    refine g_iinc C.1 (z := v4) (w := 1) (loc' := [(4, .int (iZ (v4 + 1))), (1, .long (lZ ((v1 * 31) + ((σ 11) ((20 * v3) + v4))))), (0, .ref (L 0)), (3, .int (iZ v3))]) 3 C.2.1 dX5_digest_96 rfl (by decide) rfl ?_
    refine g_goto C.1 (tgt := 63) dX5_digest_99 (by decide) ?_
    exact g_sub [2, 1, 3, 0] rfl h
set_option maxRecDepth 100000 in
set_option maxHeartbeats 4000000 in
theorem b_X5_digest_5 {K : KT} {L : Nat → Nat} {c : Nat → ClassId} {post : Int → MS → Prop} (C : C_X5_digest K L c post) {p_voted : MS → Int → Int → Prop} {f_voted : MS → Int → Int → Int} (h_voted : H_X5_voted p_voted f_voted) {σ : MS} {v1 v3 v4 : Int} (h : (-2147483648 ≤ v4 ∧ v4 < 2147483648) ∧ (-2147483648 ≤ v3 ∧ v3 < 2147483648) ∧ ((v3 ≤ v4 → post v1 σ) ∧ (¬ v3 ≤ v4 → (p_voted σ v4 v3) ∧ (-2147483648 ≤ (f_voted σ v4 v3) ∧ (f_voted σ v4 v3) < 2147483648) ∧ P_X5_digest_5 K L c σ ((v1 * 31) + (f_voted σ v4 v3)) v3 (v4 + 1)))) : P_X5_digest_5 K L c σ v1 v3 v4 := by
  refine g_iload C.1 3 dX5_digest_225 rfl ?_
  refine g_iload_n C.1 2 dX5_digest_227 rfl rfl ?_
  obtain ⟨hc1, h⟩ := h
  obtain ⟨hc2, h⟩ := h
  refine g_icmp_ge C.1 (tgt := 252) dX5_digest_228 (by decide) hc1 hc2 (fun hc => ?_) (fun hc => ?_)
  · have h := h.1 hc
    refine g_lload_n C.1 1 dX5_digest_252 rfl rfl ?_
    exact x_lret C.1 C.2.2 rfl ⟨Nat.le_of_ble_eq_true rfl, Nat.le_of_ble_eq_true rfl⟩ dX5_digest_253 h
  · have h := h.2 hc
    refine g_lload_n C.1 1 dX5_digest_231 rfl rfl ?_
    refine g_ldc2 C.1 (x := 31) rfl lk_X5_digest_k161 dX5_digest_232 ?_
    refine g_lmul C.1 (x := v1) (y := 31) dX5_digest_235 ?_
    refine g_aload_n C.1 0 dX5_digest_236 rfl rfl ?_
    refine g_iload C.1 3 dX5_digest_237 rfl ?_
    refine g_iload_n C.1 2 dX5_digest_239 rfl rfl ?_
    obtain ⟨hp3, h⟩ := h
    refine x_callV C.1 (h_voted K.l L c σ v4 v3 hp3) (ci := 6) (q := (RX5, TX5, 17)) rfl m_recv (fun ht => cwV 2 ht gX5_digest_X5_voted rfl rfl rfl (by decide +kernel) ⟨Nat.le_of_ble_eq_true rfl, Nat.le_of_ble_eq_true rfl⟩) rfl rfl (Nat.le_of_ble_eq_true rfl) ⟨Nat.le_of_ble_eq_true rfl, Nat.le_of_ble_eq_true rfl⟩ dX5_digest_240 (fun r σ9 hq => ?_)
    rw [hq.1, hq.2]
    show G K (MW L c [] [] σ) (0, 0) [(0, .ref (L 0)), (1, .long (lZ v1)), (3, .int (iZ v3)), (4, .int (iZ v4))] 243 [.int (iZ (f_voted σ v4 v3)), .long (lZ (v1 * 31))]
    obtain ⟨hc4, h⟩ := h
    refine g_i2l C.1 (x := f_voted σ v4 v3) hc4 dX5_digest_243 ?_
    refine g_ladd C.1 (x := v1 * 31) (y := f_voted σ v4 v3) dX5_digest_244 ?_
    refine g_lstore_n C.1 (loc' := [(1, .long (lZ ((v1 * 31) + (f_voted σ v4 v3)))), (0, .ref (L 0)), (3, .int (iZ v3)), (4, .int (iZ v4))]) C.2.1 dX5_digest_245 rfl (by decide) rfl ?_
    refine g_iinc C.1 (z := v4) (w := 1) (loc' := [(4, .int (iZ (v4 + 1))), (1, .long (lZ ((v1 * 31) + (f_voted σ v4 v3)))), (0, .ref (L 0)), (3, .int (iZ v3))]) 3 C.2.1 dX5_digest_246 rfl (by decide) rfl ?_
    refine g_goto C.1 (tgt := 225) dX5_digest_249 (by decide) ?_
    exact g_sub [2, 1, 3, 0] rfl h
set_option maxRecDepth 100000 in
set_option maxHeartbeats 4000000 in
theorem b_X5_digest_6 {K : KT} {L : Nat → Nat} {c : Nat → ClassId} {post : Int → MS → Prop} (C : C_X5_digest K L c post) {p_guessOf : MS → Int → Prop} {o_guessOf : MS → Int → Int → MS → Prop} (h_guessOf : H_X5_guessOf p_guessOf o_guessOf) {p_told : MS → Int → Int → Prop} {o_told : MS → Int → Int → Int → MS → Prop} (h_told : H_X5_told p_told o_told) {σ : MS} {v1 v3 v4 : Int} (h : (-2147483648 ≤ v4 ∧ v4 < 2147483648) ∧ ((9 ≤ v4 → (p_guessOf σ v3) ∧ ∀ (r3 : Int) (σ4 : MS), o_guessOf σ v3 r3 σ4 → (-2147483648 ≤ r3 ∧ r3 < 2147483648) ∧ P_X5_digest_7 K L c σ4 ((v1 * 31) + r3) v3 0) ∧ (¬ 9 ≤ v4 → (p_told σ v3 v4) ∧ ∀ (r7 : Int) (σ8 : MS), o_told σ v3 v4 r7 σ8 → (-2147483648 ≤ r7 ∧ r7 < 2147483648) ∧ P_X5_digest_6 K L c σ8 ((v1 * 31) + r7) v3 (v4 + 1)))) : P_X5_digest_6 K L c σ v1 v3 v4 := by
  refine g_iload C.1 3 dX5_digest_121 rfl ?_
  refine g_bipush C.1 (z := 9) dX5_digest_123 (by decide) ?_
  obtain ⟨hc1, h⟩ := h
  refine g_icmp_ge C.1 (tgt := 149) dX5_digest_125 (by decide) hc1 (by decide) (fun hc => ?_) (fun hc => ?_)
  · have h := h.1 hc
    refine g_lload_n C.1 1 dX5_digest_149 rfl rfl ?_
    refine g_ldc2 C.1 (x := 31) rfl lk_X5_digest_k161 dX5_digest_150 ?_
    refine g_lmul C.1 (x := v1) (y := 31) dX5_digest_153 ?_
    refine g_aload_n C.1 0 dX5_digest_154 rfl rfl ?_
    refine g_iload_n C.1 2 dX5_digest_155 rfl rfl ?_
    obtain ⟨hp2, h⟩ := h
    refine x_callV C.1 (h_guessOf K.l L c σ v3 hp2) (ci := 6) (q := (RX5, TX5, 17)) rfl m_recv (fun ht => cwV 1 ht gX5_digest_X5_guessOf rfl rfl rfl (by decide +kernel) ⟨Nat.le_of_ble_eq_true rfl, Nat.le_of_ble_eq_true rfl⟩) rfl rfl (Nat.le_of_ble_eq_true rfl) ⟨Nat.le_of_ble_eq_true rfl, Nat.le_of_ble_eq_true rfl⟩ dX5_digest_156 (fun r3 σ4 hq => ?_)
    have h := h r3 σ4 hq
    show G K (MW L c [] [] σ4) (0, 0) [(0, .ref (L 0)), (1, .long (lZ v1)), (3, .int (iZ v3)), (4, .int (iZ v4))] 159 [.int (iZ r3), .long (lZ (v1 * 31))]
    obtain ⟨hc5, h⟩ := h
    refine g_i2l C.1 (x := r3) hc5 dX5_digest_159 ?_
    refine g_ladd C.1 (x := v1 * 31) (y := r3) dX5_digest_160 ?_
    refine g_lstore_n C.1 (loc' := [(1, .long (lZ ((v1 * 31) + r3))), (0, .ref (L 0)), (3, .int (iZ v3)), (4, .int (iZ v4))]) C.2.1 dX5_digest_161 rfl (by decide) rfl ?_
    refine g_iconst C.1 (z := 0) dX5_digest_162 ?_
    refine g_istore C.1 (loc' := [(4, .int (iZ 0)), (1, .long (lZ ((v1 * 31) + r3))), (0, .ref (L 0)), (3, .int (iZ v3))]) C.2.1 dX5_digest_163 (by decide) rfl ?_
    exact g_sub [2, 1, 3, 0] rfl h
  · have h := h.2 hc
    refine g_lload_n C.1 1 dX5_digest_128 rfl rfl ?_
    refine g_ldc2 C.1 (x := 31) rfl lk_X5_digest_k161 dX5_digest_129 ?_
    refine g_lmul C.1 (x := v1) (y := 31) dX5_digest_132 ?_
    refine g_aload_n C.1 0 dX5_digest_133 rfl rfl ?_
    refine g_iload_n C.1 2 dX5_digest_134 rfl rfl ?_
    refine g_iload C.1 3 dX5_digest_135 rfl ?_
    obtain ⟨hp6, h⟩ := h
    refine x_callV C.1 (h_told K.l L c σ v3 v4 hp6) (ci := 6) (q := (RX5, TX5, 17)) rfl m_recv (fun ht => cwV 2 ht gX5_digest_X5_told rfl rfl rfl (by decide +kernel) ⟨Nat.le_of_ble_eq_true rfl, Nat.le_of_ble_eq_true rfl⟩) rfl rfl (Nat.le_of_ble_eq_true rfl) ⟨Nat.le_of_ble_eq_true rfl, Nat.le_of_ble_eq_true rfl⟩ dX5_digest_137 (fun r7 σ8 hq => ?_)
    have h := h r7 σ8 hq
    show G K (MW L c [] [] σ8) (0, 0) [(0, .ref (L 0)), (1, .long (lZ v1)), (3, .int (iZ v3)), (4, .int (iZ v4))] 140 [.int (iZ r7), .long (lZ (v1 * 31))]
    obtain ⟨hc9, h⟩ := h
    refine g_i2l C.1 (x := r7) hc9 dX5_digest_140 ?_
    refine g_ladd C.1 (x := v1 * 31) (y := r7) dX5_digest_141 ?_
    refine g_lstore_n C.1 (loc' := [(1, .long (lZ ((v1 * 31) + r7))), (0, .ref (L 0)), (3, .int (iZ v3)), (4, .int (iZ v4))]) C.2.1 dX5_digest_142 rfl (by decide) rfl ?_
    refine g_iinc C.1 (z := v4) (w := 1) (loc' := [(4, .int (iZ (v4 + 1))), (1, .long (lZ ((v1 * 31) + r7))), (0, .ref (L 0)), (3, .int (iZ v3))]) 3 C.2.1 dX5_digest_143 rfl (by decide) rfl ?_
    refine g_goto C.1 (tgt := 121) dX5_digest_146 (by decide) ?_
    exact g_sub [2, 1, 3, 0] rfl h
set_option maxRecDepth 100000 in
set_option maxHeartbeats 4000000 in
theorem b_X5_digest_7 {K : KT} {L : Nat → Nat} {c : Nat → ClassId} {post : Int → MS → Prop} (C : C_X5_digest K L c post) {σ : MS} {v1 v3 v4 : Int} (h : (0 ≤ v3 ∧ v3 < 24) ∧ (-2147483648 ≤ v4 ∧ v4 < 2147483648) ∧ (-2147483648 ≤ ((σ 5) v3) ∧ ((σ 5) v3) < 2147483648) ∧ ((((σ 5) v3) ≤ v4 → P_X5_digest_3 K L c σ v1 (v3 + 1)) ∧ (¬ ((σ 5) v3) ≤ v4 → (0 ≤ ((120 * v3) + v4) ∧ ((120 * v3) + v4) < 2880) ∧ (-2147483648 ≤ ((σ 4) ((120 * v3) + v4)) ∧ ((σ 4) ((120 * v3) + v4)) < 2147483648) ∧ P_X5_digest_7 K L c σ ((v1 * 31) + ((σ 4) ((120 * v3) + v4))) v3 (v4 + 1)))) : P_X5_digest_7 K L c σ v1 v3 v4 := by
  refine g_iload C.1 3 dX5_digest_165 rfl ?_
  refine g_aload_n C.1 0 dX5_digest_167 rfl rfl ?_
  refine m_get C.1 inX5_digest 5 (by decide) (v := .ref (L 5)) rfl lk_X5_digest_f16 rfl dX5_digest_168 ?_
  refine g_iload_n C.1 2 dX5_digest_171 rfl rfl ?_
  obtain ⟨hi1, h⟩ := h
  refine m_ald C.1 3 2 (N := 24) (f := (σ 5)) (e := v3) rfl rfl (by decide) hi1 dX5_digest_172 ?_
  obtain ⟨hc2, h⟩ := h
  obtain ⟨hc3, h⟩ := h
  refine g_icmp_ge C.1 (tgt := 202) dX5_digest_173 (by decide) hc2 hc3 (fun hc => ?_) (fun hc => ?_)
  · have h := h.1 hc
    refine g_iinc C.1 (z := v3) (w := 1) (loc' := [(3, .int (iZ (v3 + 1))), (0, .ref (L 0)), (1, .long (lZ v1)), (4, .int (iZ v4))]) 2 C.2.1 dX5_digest_202 rfl (by decide) rfl ?_
    refine g_goto C.1 (tgt := 110) dX5_digest_205 (by decide) ?_
    exact g_sub [1, 2, 0] rfl h
  · have h := h.2 hc
    refine g_lload_n C.1 1 dX5_digest_176 rfl rfl ?_
    refine g_ldc2 C.1 (x := 31) rfl lk_X5_digest_k161 dX5_digest_177 ?_
    refine g_lmul C.1 (x := v1) (y := 31) dX5_digest_180 ?_
    refine g_aload_n C.1 0 dX5_digest_181 rfl rfl ?_
    refine m_get C.1 inX5_digest 4 (by decide) (v := .ref (L 4)) rfl lk_X5_digest_f13 rfl dX5_digest_182 ?_
    refine g_bipush C.1 (z := 120) dX5_digest_185 (by decide) ?_
    refine g_iload_n C.1 2 dX5_digest_187 rfl rfl ?_
    refine g_imul C.1 (x := 120) (y := v3) dX5_digest_188 ?_
    refine g_iload C.1 3 dX5_digest_189 rfl ?_
    refine g_iadd C.1 (x := 120 * v3) (y := v4) dX5_digest_191 ?_
    obtain ⟨hi4, h⟩ := h
    refine m_ald C.1 2 1 (N := 2880) (f := (σ 4)) (e := ((120 * v3) + v4)) rfl rfl (by decide) hi4 dX5_digest_192 ?_
    obtain ⟨hc5, h⟩ := h
    refine g_i2l C.1 (x := (σ 4) ((120 * v3) + v4)) hc5 dX5_digest_193 ?_
    refine g_ladd C.1 (x := v1 * 31) (y := (σ 4) ((120 * v3) + v4)) dX5_digest_194 ?_
    refine g_lstore_n C.1 (loc' := [(1, .long (lZ ((v1 * 31) + ((σ 4) ((120 * v3) + v4))))), (0, .ref (L 0)), (3, .int (iZ v3)), (4, .int (iZ v4))]) C.2.1 dX5_digest_195 rfl (by decide) rfl ?_
    refine g_iinc C.1 (z := v4) (w := 1) (loc' := [(4, .int (iZ (v4 + 1))), (1, .long (lZ ((v1 * 31) + ((σ 4) ((120 * v3) + v4))))), (0, .ref (L 0)), (3, .int (iZ v3))]) 3 C.2.1 dX5_digest_196 rfl (by decide) rfl ?_
    refine g_goto C.1 (tgt := 165) dX5_digest_199 (by decide) ?_
    exact g_sub [2, 1, 3, 0] rfl h
def H_X5_digest (p : MS → Prop) (o : MS → Int → MS → Prop) : Prop := ∀ (l : Launch) (L : Nat → Nat) (c : Nat → ClassId) (σ : MS), p σ → xMet l yX5_digest wsX5_digest rm_X5_digest (MW L c [] []) rkL [.ref (L 0)] σ (fun r σ' => o σ r σ')
theorem m_X5_digest {l : Launch} {L : Nat → Nat} {c : Nat → ClassId} {σ : MS} {post : Int → MS → Prop} (h : ∀ K : KT, K.l = l → C_X5_digest K L c post → P_X5_digest_0 K L c σ) : xMet l yX5_digest wsX5_digest rm_X5_digest (MW L c [] []) rkL [.ref (L 0)] σ post :=
  xMet.of (maxL := 5) (by decide +kernel) rfl (Nat.le_of_ble_eq_true rfl) (fun K h1 h2 h3 h4 _ => h K h1 ⟨h2, h4, h3⟩)
