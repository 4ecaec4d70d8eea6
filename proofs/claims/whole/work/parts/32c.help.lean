/-! THE LAW'S HELPERS: what each answers, and what it leaves behind -/
def hQ (y : LT) (σ : CS) (T : Int) (Res : Int → VT → Prop) (r : Int) (u : HU) : Prop := (u.1.1.1 0 0 0 = y.1 0 0 0 ∧ u.1.1.2.2 = y.2.2) ∧ CI u.1.2 ∧ r = T ∧ (T = 0 → ∃ v : Int, u.2 0 = (iZ v).toInt64 ∧ Res v (cV u.1.2)) ∧ (¬ T = 0 → cV u.1.2 = cV σ)
def kct (K : KT) (own : String) (pc : Nat) (E : String) (hpc : Nat) (L : List ExceptionTableEntry) : Prop := ∃ (pre : List ExceptionTableEntry) (x : ExceptionTableEntry) (suf : List ExceptionTableEntry) (name : String), L = pre ++ x :: suf ∧
  (∀ z ∈ pre, covers z pc = false ∨ (z.catchType ≠ 0 ∧ ∃ nm : String, (Cond.classLink own z.catchType nm).before K.args K.s = true ∧ va_Nc E nm K.s)) ∧ covers x pc = true ∧ x.catchType ≠ 0 ∧ (Cond.classLink own x.catchType name).before K.args K.s = true ∧ (Cond.castable E name).before K.args K.s = true ∧ x.handlerPc = hpc
theorem kct.on {K : KT} {own : String} {pc : Nat} {E : String} {hpc : Nat} {hh : List (Nat × Nat × Nat × Nat)} (h : kTab K hh) (k : kct K own pc E hpc (tableOf hh)) : kCatch K own pc E hpc := by
  have h' : K.c.exceptionTable.toList = tableOf hh := h
  rw [← h'] at k
  exact k
theorem kct.here {K : KT} {own : String} {pc : Nat} {E name : String} {x : ExceptionTableEntry} {suf : List ExceptionTableEntry} (hc : covers x pc = true) (h0 : x.catchType ≠ 0) (hl : (Cond.classLink own x.catchType name).before K.args K.s = true) (hx : (Cond.castable E name).before K.args K.s = true) : kct K own pc E x.handlerPc (x :: suf) :=
  ⟨[], x, suf, name, rfl, fun z hz => absurd hz List.not_mem_nil, hc, h0, hl, hx, rfl⟩
theorem kct.next {K : KT} {own : String} {pc : Nat} {E nm : String} {hpc : Nat} {z : ExceptionTableEntry} {L : List ExceptionTableEntry} (h0 : z.catchType ≠ 0) (hl : (Cond.classLink own z.catchType nm).before K.args K.s = true) (hn : va_Nc E nm K.s) (k : kct K own pc E hpc L) : kct K own pc E hpc (z :: L) := by
  obtain ⟨pre, x, suf, name, rfl, k2, k3⟩ := k
  refine ⟨z :: pre, x, suf, name, rfl, fun w hw => ?_, k3⟩
  rcases List.mem_cons.mp hw with rfl | hw
  · exact Or.inr ⟨h0, nm, hl, hn⟩
  · exact k2 w hw
theorem t_no3 {c d : Prop} [Decidable c] [Decidable d] : ¬ ((if c then (1 : Int) else if d then 2 else 0) = 3) := by
  by_cases hc : c <;> by_cases hd : d <;> simp [hc, hd]
theorem VE.of_eq {V U : VT} (h : V = U) : VE V U := h ▸ VE.rfl
abbrev rm_L_feed : Room := { frames := 7, cells := 1, slots := 6, locals := 125 }
theorem lk_L_feed_c13 : Cond.classLink RL 13 "java/lang/IllegalStateException" ∈ wsL_feed := List.mem_of_getElem? (i := 1) (by decide +kernel)
set_option maxRecDepth 100000 in
set_option maxHeartbeats 4000000 in
theorem s_L_feed {l : Launch} {qo : Nat} {co : ClassId} (y : LT) (σ : CS) (fo : Nat → Int64) (a b d e f : Int) (hp : CI σ) (hs : in32 a ∧ in32 b ∧ in32 d ∧ in32 e ∧ in32 f) : lMet l yL_feed wsL_feed rm_L_feed y.2.2 (HW qo co) rkI [.ref (y.1 0 0 0), .int (iZ a), .int (iZ b), .int (iZ d), .int (iZ e), .int (iZ f), .ref qo] ((y, σ), fo) (hQ y σ (tFeed (cV σ)) (fun r V => r = cV σ 0 0 0 0 + 20 ∧ VE V (nFeed (cV σ) a b d e f))) :=
  lMet.of (maxL := 8) (hh := [(0, 16, 19, 13)]) (by decide +kernel) rfl (Nat.le_of_ble_eq_true rfl) (fun K h1 h2 h3 h4 h5 h6 h7 h8 => by
    show G K (Sep (CL y σ) (OUT qo co fo)) (0, 0) _ 0 []
    refine g_aload h2 6 dL_feed_0 rfl ?_
    refine g_iconst h2 (z := 0) dL_feed_2 ?_
    refine g_aload_n h2 0 dL_feed_3 rfl rfl ?_
    refine g_iload_n h2 1 dL_feed_4 rfl rfl ?_
    refine g_iload_n h2 2 dL_feed_5 rfl rfl ?_
    refine g_iload_n h2 3 dL_feed_6 rfl rfl ?_
    refine g_iload h2 4 dL_feed_7 rfl ?_
    refine g_iload h2 5 dL_feed_9 rfl ?_
    refine s_callH h2 h5 h6 (s_X4_feed K.l y σ a b d e f ⟨hp, hs⟩) (ci := 5) (q := (RX4, TX4, 10)) rfl (c_recv rfl ⟨rfl, rfl⟩) (fun ht => cwV 5 ht gL_feed_X4_feed rfl rfl rfl (by decide +kernel) ⟨Nat.le_of_ble_eq_true rfl, Nat.le_of_ble_eq_true rfl⟩) rfl rfl (Nat.le_of_ble_eq_true rfl) ⟨Nat.le_of_ble_eq_true rfl, Nat.le_of_ble_eq_true rfl⟩ dL_feed_11 (fun E u' hx => ?_) (fun r u' hq => ?_)
    · obtain ⟨hx, hci, hcm⟩ := hx
      rcases hx with ⟨hT, rfl⟩ | ⟨hT, rfl⟩ | ⟨hT, rfl⟩
      · refine ⟨19, kct.on h8 (kct.here rfl (by decide) (h2.2.2.2.2.1 _ lk_L_feed_c13) (va_Nw.use rfl (h5.2.2.2.1 (eIS, eIS) (by simp [cCasts, eIS])))), fun q9 => ?_⟩
        refine g_astore h2 (loc' := [(7, .ref q9), (0, .ref (y.1 0 0 0)), (1, .int (iZ a)), (2, .int (iZ b)), (3, .int (iZ d)), (4, .int (iZ e)), (5, .int (iZ f)), (6, .ref qo)]) h3 dL_feed_19 (by decide) rfl ?_
        refine g_iconst h2 (z := 1) dL_feed_21 ?_
        exact x_iret (u := (((y, u'), fo) : HU)) (r := 1) h2 h4 rfl ⟨Nat.le_of_ble_eq_true rfl, Nat.le_of_ble_eq_true rfl⟩ dL_feed_22 ⟨⟨rfl, rfl⟩, hci, hT.symm, fun h => absurd (hT.symm.trans h) (by decide), fun _ => cV_cm hcm⟩
      · exact absurd hT (by unfold tFeed; first | exact t_no3 | (repeat' split <;> decide))
      · exact absurd hT (by unfold tFeed; first | exact t_no3 | (repeat' split <;> decide))
    · obtain ⟨hT, hci, hr⟩ := hq
      refine s_i2l h2 dL_feed_14 ?_
      refine o_last h2 dL_feed_15 (fun f' hf => ?_)
      refine g_goto h2 (tgt := 23) dL_feed_16 (by decide) ?_
      refine g_iconst h2 (z := 0) dL_feed_23 ?_
      exact x_iret (u := (((y, u'), f') : HU)) (r := 0) h2 h4 rfl ⟨Nat.le_of_ble_eq_true rfl, Nat.le_of_ble_eq_true rfl⟩ dL_feed_24 ⟨⟨rfl, rfl⟩, hci, hT.symm, fun _ => ⟨r, hf, hr⟩, fun h => absurd hT h⟩)
abbrev rm_L_trim : Room := { frames := 7, cells := 1, slots := 6, locals := 121 }
theorem lk_L_trim_c19 : Cond.classLink RL 19 "java/lang/IllegalArgumentException" ∈ wsL_trim := List.mem_of_getElem? (i := 1) (by decide +kernel)
set_option maxRecDepth 100000 in
set_option maxHeartbeats 4000000 in
theorem s_L_trim {l : Launch} {qo : Nat} {co : ClassId} (y : LT) (σ : CS) (fo : Nat → Int64) (n : Int) (hp : CI σ) (hs : in32 n) : lMet l yL_trim wsL_trim rm_L_trim y.2.2 (HW qo co) rkI [.ref (y.1 0 0 0), .int (iZ n), .ref qo] ((y, σ), fo) (hQ y σ (tTrim (cV σ) n) (fun r V => r = n ∧ VE V (nTrim (cV σ) n))) :=
  lMet.of (maxL := 4) (hh := [(0, 9, 12, 19)]) (by decide +kernel) rfl (Nat.le_of_ble_eq_true rfl) (fun K h1 h2 h3 h4 h5 h6 h7 h8 => by
    show G K (Sep (CL y σ) (OUT qo co fo)) (0, 0) _ 0 []
    refine g_aload_n h2 2 dL_trim_0 rfl rfl ?_
    refine g_iconst h2 (z := 0) dL_trim_1 ?_
    refine g_aload_n h2 0 dL_trim_2 rfl rfl ?_
    refine g_iload_n h2 1 dL_trim_3 rfl rfl ?_
    refine s_callH h2 h5 h6 (s_X4_trim K.l y σ n ⟨hp, hs⟩) (ci := 5) (q := (RX4, TX4, 10)) rfl (c_recv rfl ⟨rfl, rfl⟩) (fun ht => cwV 1 ht gL_trim_X4_trim rfl rfl rfl (by decide +kernel) ⟨Nat.le_of_ble_eq_true rfl, Nat.le_of_ble_eq_true rfl⟩) rfl rfl (Nat.le_of_ble_eq_true rfl) ⟨Nat.le_of_ble_eq_true rfl, Nat.le_of_ble_eq_true rfl⟩ dL_trim_4 (fun E u' hx => ?_) (fun r u' hq => ?_)
    · obtain ⟨hx, hci, hcm⟩ := hx
      rcases hx with ⟨hT, rfl⟩ | ⟨hT, rfl⟩ | ⟨hT, rfl⟩
      · refine ⟨12, kct.on h8 (kct.here rfl (by decide) (h2.2.2.2.2.1 _ lk_L_trim_c19) (va_Nw.use rfl (h5.2.2.2.1 (eIA, eIA) (by simp [cCasts, eIA])))), fun q9 => ?_⟩
        refine g_astore_n h2 (loc' := [(3, .ref q9), (0, .ref (y.1 0 0 0)), (1, .int (iZ n)), (2, .ref qo)]) h3 dL_trim_12 rfl (by decide) rfl ?_
        refine g_iconst h2 (z := 1) dL_trim_13 ?_
        exact x_iret (u := (((y, u'), fo) : HU)) (r := 1) h2 h4 rfl ⟨Nat.le_of_ble_eq_true rfl, Nat.le_of_ble_eq_true rfl⟩ dL_trim_14 ⟨⟨rfl, rfl⟩, hci, hT.symm, fun h => absurd (hT.symm.trans h) (by decide), fun _ => cV_cm hcm⟩
      · exact absurd hT (by unfold tTrim; first | exact t_no3 | (repeat' split <;> decide))
      · exact absurd hT (by unfold tTrim; first | exact t_no3 | (repeat' split <;> decide))
    · obtain ⟨hT, hr1, hci, hr2⟩ := hq
      refine s_i2l h2 dL_trim_7 ?_
      refine o_last h2 dL_trim_8 (fun f' hf => ?_)
      refine g_goto h2 (tgt := 15) dL_trim_9 (by decide) ?_
      refine g_iconst h2 (z := 0) dL_trim_15 ?_
      exact x_iret (u := (((y, u'), f') : HU)) (r := 0) h2 h4 rfl ⟨Nat.le_of_ble_eq_true rfl, Nat.le_of_ble_eq_true rfl⟩ dL_trim_16 ⟨⟨rfl, rfl⟩, hci, hT.symm, fun _ => ⟨r, hf, ⟨hr1, hr2⟩⟩, fun h => absurd hT h⟩)
abbrev rm_L_write : Room := { frames := 9, cells := 10, slots := 300, locals := 251 }
theorem lk_L_write_c13 : Cond.classLink RL 13 "java/lang/IllegalStateException" ∈ wsL_write := List.mem_of_getElem? (i := 1) (by decide +kernel)
set_option maxRecDepth 100000 in
set_option maxHeartbeats 4000000 in
theorem s_L_write {l : Launch} {qo : Nat} {co : ClassId} (y : LT) (σ : CS) (fo : Nat → Int64) (hp : CI σ) : lMet l yL_write wsL_write rm_L_write y.2.2 (HW qo co) rkI [.ref (y.1 0 0 0), .ref qo] ((y, σ), fo) (hQ y σ (tWrite (cV σ)) (fun r V => (vGood (cV σ) ∧ r = vN (cV σ) ∧ VE V (nKeep (nTrim (cV σ) 0) (vTape (cV σ)) (-1) (-1))) ∨ (¬ vGood (cV σ) ∧ r = -1 ∧ VE V (nTrim (cV σ) 0)))) :=
  lMet.of (maxL := 3) (hh := [(0, 8, 11, 13)]) (by decide +kernel) rfl (Nat.le_of_ble_eq_true rfl) (fun K h1 h2 h3 h4 h5 h6 h7 h8 => by
    show G K (Sep (UW (Sum.inl (y, σ))) (OUT qo co fo)) (0, 0) _ 0 []
    refine g_aload_n h2 1 dL_write_0 rfl rfl ?_
    refine g_iconst h2 (z := 0) dL_write_1 ?_
    refine g_aload_n h2 0 dL_write_2 rfl rfl ?_
    refine s_callH h2 h5 h6 (s_X4_write K.l y σ hp) (ci := 5) (q := (RX4, TX4, 10)) rfl (c_recv rfl ⟨rfl, rfl⟩) (fun ht => cwV 0 ht gL_write_X4_write rfl rfl rfl (by decide +kernel) ⟨Nat.le_of_ble_eq_true rfl, Nat.le_of_ble_eq_true rfl⟩) rfl rfl (Nat.le_of_ble_eq_true rfl) ⟨Nat.le_of_ble_eq_true rfl, Nat.le_of_ble_eq_true rfl⟩ dL_write_3 (fun E u' hx => ?_) (fun r u' hq => ?_)
    · obtain ⟨σ', rfl, hx, hci, hcm⟩ := hx
      rcases hx with ⟨hT, rfl⟩ | ⟨hT, rfl⟩ | ⟨hT, rfl⟩
      · refine ⟨11, kct.on h8 (kct.here rfl (by decide) (h2.2.2.2.2.1 _ lk_L_write_c13) (va_Nw.use rfl (h5.2.2.2.1 (eIS, eIS) (by simp [cCasts, eIS])))), fun q9 => ?_⟩
        refine g_astore_n h2 (loc' := [(2, .ref q9), (0, .ref (y.1 0 0 0)), (1, .ref qo)]) h3 dL_write_11 rfl (by decide) rfl ?_
        refine g_iconst h2 (z := 1) dL_write_12 ?_
        exact x_iret (u := (((y, σ'), fo) : HU)) (r := 1) h2 h4 rfl ⟨Nat.le_of_ble_eq_true rfl, Nat.le_of_ble_eq_true rfl⟩ dL_write_13 ⟨⟨rfl, rfl⟩, hci, hT.symm, fun h => absurd (hT.symm.trans h) (by decide), fun _ => cV_cm hcm⟩
      · exact absurd hT (by unfold tWrite; first | exact t_no3 | (repeat' split <;> decide))
      · exact absurd hT (by unfold tWrite; first | exact t_no3 | (repeat' split <;> decide))
    · obtain ⟨y', σ', rfl, hy, he, hT, hci, hr⟩ := hq
      refine s_i2l h2 dL_write_6 ?_
      refine o_last h2 dL_write_7 (fun f' hf => ?_)
      refine g_goto h2 (tgt := 14) dL_write_8 (by decide) ?_
      refine g_iconst h2 (z := 0) dL_write_14 ?_
      exact x_iret (u := (((y', σ'), f') : HU)) (r := 0) h2 h4 rfl ⟨Nat.le_of_ble_eq_true rfl, Nat.le_of_ble_eq_true rfl⟩ dL_write_15 ⟨⟨hy, he⟩, hci, hT.symm, fun _ => ⟨r, hf, hr⟩, fun h => absurd hT h⟩)
abbrev rm_L_letter : Room := { frames := 8, cells := 2, slots := 12, locals := 144 }
theorem lk_L_letter_c29 : Cond.classLink RL 29 "java/lang/IndexOutOfBoundsException" ∈ wsL_letter := List.mem_of_getElem? (i := 1) (by decide +kernel)
set_option maxRecDepth 100000 in
set_option maxHeartbeats 4000000 in
theorem s_L_letter {l : Launch} {qo : Nat} {co : ClassId} (y : LT) (σ : CS) (fo : Nat → Int64) (m p : Int) (hp : CI σ) (hs : in32 m ∧ in32 p) : lMet l yL_letter wsL_letter rm_L_letter y.2.2 (HW qo co) rkI [.ref (y.1 0 0 0), .int (iZ m), .int (iZ p), .ref qo] ((y, σ), fo) (hQ y σ (tLetter (cV σ) m p) (fun r V => r = (cV σ 5 m p 0) ∧ VE V (cV σ))) :=
  lMet.of (maxL := 5) (hh := [(0, 10, 13, 29)]) (by decide +kernel) rfl (Nat.le_of_ble_eq_true rfl) (fun K h1 h2 h3 h4 h5 h6 h7 h8 => by
    show G K (Sep (CL y σ) (OUT qo co fo)) (0, 0) _ 0 []
    refine g_aload_n h2 3 dL_letter_0 rfl rfl ?_
    refine g_iconst h2 (z := 0) dL_letter_1 ?_
    refine g_aload_n h2 0 dL_letter_2 rfl rfl ?_
    refine g_iload_n h2 1 dL_letter_3 rfl rfl ?_
    refine g_iload_n h2 2 dL_letter_4 rfl rfl ?_
    refine s_callH h2 h5 h6 (s_X4_letter K.l y σ m p ⟨hp, hs⟩) (ci := 5) (q := (RX4, TX4, 10)) rfl (c_recv rfl ⟨rfl, rfl⟩) (fun ht => cwV 2 ht gL_letter_X4_letter rfl rfl rfl (by decide +kernel) ⟨Nat.le_of_ble_eq_true rfl, Nat.le_of_ble_eq_true rfl⟩) rfl rfl (Nat.le_of_ble_eq_true rfl) ⟨Nat.le_of_ble_eq_true rfl, Nat.le_of_ble_eq_true rfl⟩ dL_letter_5 (fun E u' hx => ?_) (fun r u' hq => ?_)
    · obtain ⟨hx, hci, hcm⟩ := hx
      rcases hx with ⟨hT, rfl⟩ | ⟨hT, rfl⟩ | ⟨hT, rfl⟩
      · refine ⟨13, kct.on h8 (kct.here rfl (by decide) (h2.2.2.2.2.1 _ lk_L_letter_c29) (va_Nw.use rfl (h5.2.2.2.1 (eIO, eIO) (by simp [cCasts, eIO])))), fun q9 => ?_⟩
        refine g_astore h2 (loc' := [(4, .ref q9), (0, .ref (y.1 0 0 0)), (1, .int (iZ m)), (2, .int (iZ p)), (3, .ref qo)]) h3 dL_letter_13 (by decide) rfl ?_
        refine g_iconst h2 (z := 1) dL_letter_15 ?_
        exact x_iret (u := (((y, u'), fo) : HU)) (r := 1) h2 h4 rfl ⟨Nat.le_of_ble_eq_true rfl, Nat.le_of_ble_eq_true rfl⟩ dL_letter_16 ⟨⟨rfl, rfl⟩, hci, hT.symm, fun h => absurd (hT.symm.trans h) (by decide), fun _ => cV_cm hcm⟩
      · exact absurd hT (by unfold tLetter; first | exact t_no3 | (repeat' split <;> decide))
      · exact absurd hT (by unfold tLetter; first | exact t_no3 | (repeat' split <;> decide))
    · obtain ⟨hT, hr, hci, hcm⟩ := hq
      refine s_i2l h2 dL_letter_8 ?_
      refine o_last h2 dL_letter_9 (fun f' hf => ?_)
      refine g_goto h2 (tgt := 17) dL_letter_10 (by decide) ?_
      refine g_iconst h2 (z := 0) dL_letter_17 ?_
      exact x_iret (u := (((y, u'), f') : HU)) (r := 0) h2 h4 rfl ⟨Nat.le_of_ble_eq_true rfl, Nat.le_of_ble_eq_true rfl⟩ dL_letter_18 ⟨⟨rfl, rfl⟩, hci, hT.symm, fun _ => ⟨r, hf, ⟨hr, VE.of_eq (cV_cm hcm)⟩⟩, fun h => absurd hT h⟩)
abbrev rm_L_addScribe : Room := { frames := 9, cells := 10, slots := 300, locals := 250 }
theorem lk_L_addScribe_c13 : Cond.classLink RL 13 "java/lang/IllegalStateException" ∈ wsL_addScribe := List.mem_of_getElem? (i := 1) (by decide +kernel)
set_option maxRecDepth 100000 in
set_option maxHeartbeats 4000000 in
theorem s_L_addScribe {l : Launch} {qo : Nat} {co : ClassId} (y : LT) (σ : CS) (fo : Nat → Int64) (hp : CI σ) : lMet l yL_addScribe wsL_addScribe rm_L_addScribe y.2.2 (HW qo co) rkI [.ref (y.1 0 0 0), .ref qo] ((y, σ), fo) (hQ y σ (tAddS (cV σ)) (fun r V => r = cV σ 3 0 0 0 ∧ VE V (nScribe (cV σ)))) :=
  lMet.of (maxL := 3) (hh := [(0, 8, 11, 13)]) (by decide +kernel) rfl (Nat.le_of_ble_eq_true rfl) (fun K h1 h2 h3 h4 h5 h6 h7 h8 => by
    show G K (Sep (UW (Sum.inl (y, σ))) (OUT qo co fo)) (0, 0) _ 0 []
    refine g_aload_n h2 1 dL_addScribe_0 rfl rfl ?_
    refine g_iconst h2 (z := 0) dL_addScribe_1 ?_
    refine g_aload_n h2 0 dL_addScribe_2 rfl rfl ?_
    refine s_callH h2 h5 h6 (s_X4_addScribe K.l y σ hp) (ci := 5) (q := (RX4, TX4, 10)) rfl (c_recv rfl ⟨rfl, rfl⟩) (fun ht => cwV 0 ht gL_addScribe_X4_addScribe rfl rfl rfl (by decide +kernel) ⟨Nat.le_of_ble_eq_true rfl, Nat.le_of_ble_eq_true rfl⟩) rfl rfl (Nat.le_of_ble_eq_true rfl) ⟨Nat.le_of_ble_eq_true rfl, Nat.le_of_ble_eq_true rfl⟩ dL_addScribe_3 (fun E u' hx => ?_) (fun r u' hq => ?_)
    · obtain ⟨σ', rfl, hx, hci, hcm⟩ := hx
      rcases hx with ⟨hT, rfl⟩ | ⟨hT, rfl⟩ | ⟨hT, rfl⟩
      · refine ⟨11, kct.on h8 (kct.here rfl (by decide) (h2.2.2.2.2.1 _ lk_L_addScribe_c13) (va_Nw.use rfl (h5.2.2.2.1 (eIS, eIS) (by simp [cCasts, eIS])))), fun q9 => ?_⟩
        refine g_astore_n h2 (loc' := [(2, .ref q9), (0, .ref (y.1 0 0 0)), (1, .ref qo)]) h3 dL_addScribe_11 rfl (by decide) rfl ?_
        refine g_iconst h2 (z := 1) dL_addScribe_12 ?_
        exact x_iret (u := (((y, σ'), fo) : HU)) (r := 1) h2 h4 rfl ⟨Nat.le_of_ble_eq_true rfl, Nat.le_of_ble_eq_true rfl⟩ dL_addScribe_13 ⟨⟨rfl, rfl⟩, hci, hT.symm, fun h => absurd (hT.symm.trans h) (by decide), fun _ => cV_cm hcm⟩
      · exact absurd hT (by unfold tAddS; first | exact t_no3 | (repeat' split <;> decide))
      · exact absurd hT (by unfold tAddS; first | exact t_no3 | (repeat' split <;> decide))
    · obtain ⟨y', σ', rfl, hy, he, hT, hci, hr⟩ := hq
      refine s_i2l h2 dL_addScribe_6 ?_
      refine o_last h2 dL_addScribe_7 (fun f' hf => ?_)
      refine g_goto h2 (tgt := 14) dL_addScribe_8 (by decide) ?_
      refine g_iconst h2 (z := 0) dL_addScribe_14 ?_
      exact x_iret (u := (((y', σ'), f') : HU)) (r := 0) h2 h4 rfl ⟨Nat.le_of_ble_eq_true rfl, Nat.le_of_ble_eq_true rfl⟩ dL_addScribe_15 ⟨⟨hy, he⟩, hci, hT.symm, fun _ => ⟨r, hf, hr⟩, fun h => absurd hT h⟩)
abbrev rm_L_addHabit : Room := { frames := 9, cells := 10, slots := 300, locals := 256 }
theorem lk_L_addHabit_c29 : Cond.classLink RL 29 "java/lang/IndexOutOfBoundsException" ∈ wsL_addHabit := List.mem_of_getElem? (i := 1) (by decide +kernel)
theorem lk_L_addHabit_c19 : Cond.classLink RL 19 "java/lang/IllegalArgumentException" ∈ wsL_addHabit := List.mem_of_getElem? (i := 2) (by decide +kernel)
theorem lk_L_addHabit_c13 : Cond.classLink RL 13 "java/lang/IllegalStateException" ∈ wsL_addHabit := List.mem_of_getElem? (i := 3) (by decide +kernel)
set_option maxRecDepth 100000 in
set_option maxHeartbeats 4000000 in
theorem s_L_addHabit {l : Launch} {qo : Nat} {co : ClassId} (y : LT) (σ : CS) (fo : Nat → Int64) (s kind x z n : Int) (hp : CI σ) (hs : in32 s ∧ in32 kind ∧ in32 x ∧ in32 z ∧ in32 n) : lMet l yL_addHabit wsL_addHabit rm_L_addHabit y.2.2 (HW qo co) rkI [.ref (y.1 0 0 0), .int (iZ s), .int (iZ kind), .int (iZ x), .int (iZ z), .int (iZ n), .ref qo] ((y, σ), fo) (hQ y σ (tAddH (cV σ) s kind x z n) (fun r V => r = cV σ 10 s 0 0 + 1 ∧ VE V (nHabit (cV σ) s kind x z n))) :=
  lMet.of (maxL := 8) (hh := [(0, 16, 19, 29), (0, 16, 23, 19), (0, 16, 27, 13)]) (by decide +kernel) rfl (Nat.le_of_ble_eq_true rfl) (fun K h1 h2 h3 h4 h5 h6 h7 h8 => by
    show G K (Sep (UW (Sum.inl (y, σ))) (OUT qo co fo)) (0, 0) _ 0 []
    refine g_aload h2 6 dL_addHabit_0 rfl ?_
    refine g_iconst h2 (z := 0) dL_addHabit_2 ?_
    refine g_aload_n h2 0 dL_addHabit_3 rfl rfl ?_
    refine g_iload_n h2 1 dL_addHabit_4 rfl rfl ?_
    refine g_iload_n h2 2 dL_addHabit_5 rfl rfl ?_
    refine g_iload_n h2 3 dL_addHabit_6 rfl rfl ?_
    refine g_iload h2 4 dL_addHabit_7 rfl ?_
    refine g_iload h2 5 dL_addHabit_9 rfl ?_
    refine s_callH h2 h5 h6 (s_X4_addHabit K.l y σ s kind x z n hp hs) (ci := 5) (q := (RX4, TX4, 10)) rfl (c_recv rfl ⟨rfl, rfl⟩) (fun ht => cwV 5 ht gL_addHabit_X4_addHabit rfl rfl rfl (by decide +kernel) ⟨Nat.le_of_ble_eq_true rfl, Nat.le_of_ble_eq_true rfl⟩) rfl rfl (Nat.le_of_ble_eq_true rfl) ⟨Nat.le_of_ble_eq_true rfl, Nat.le_of_ble_eq_true rfl⟩ dL_addHabit_11 (fun E u' hx => ?_) (fun r u' hq => ?_)
    · obtain ⟨σ', rfl, hx, hci, hcm⟩ := hx
      rcases hx with ⟨hT, rfl⟩ | ⟨hT, rfl⟩ | ⟨hT, rfl⟩
      · refine ⟨19, kct.on h8 (kct.here rfl (by decide) (h2.2.2.2.2.1 _ lk_L_addHabit_c29) (va_Nw.use rfl (h5.2.2.2.1 (eIO, eIO) (by simp [cCasts, eIO])))), fun q9 => ?_⟩
        refine g_astore h2 (loc' := [(7, .ref q9), (0, .ref (y.1 0 0 0)), (1, .int (iZ s)), (2, .int (iZ kind)), (3, .int (iZ x)), (4, .int (iZ z)), (5, .int (iZ n)), (6, .ref qo)]) h3 dL_addHabit_19 (by decide) rfl ?_
        refine g_iconst h2 (z := 1) dL_addHabit_21 ?_
        exact x_iret (u := (((y, σ'), fo) : HU)) (r := 1) h2 h4 rfl ⟨Nat.le_of_ble_eq_true rfl, Nat.le_of_ble_eq_true rfl⟩ dL_addHabit_22 ⟨⟨rfl, rfl⟩, hci, hT.symm, fun h => absurd (hT.symm.trans h) (by decide), fun _ => cV_cm hcm⟩
      · refine ⟨23, kct.on h8 (kct.next (by decide) (h2.2.2.2.2.1 _ lk_L_addHabit_c29) (h7 (eIA, eIO) (by simp [cNots, eIA, eIO])) (kct.here rfl (by decide) (h2.2.2.2.2.1 _ lk_L_addHabit_c19) (va_Nw.use rfl (h5.2.2.2.1 (eIA, eIA) (by simp [cCasts, eIA]))))), fun q9 => ?_⟩
        refine g_astore h2 (loc' := [(7, .ref q9), (0, .ref (y.1 0 0 0)), (1, .int (iZ s)), (2, .int (iZ kind)), (3, .int (iZ x)), (4, .int (iZ z)), (5, .int (iZ n)), (6, .ref qo)]) h3 dL_addHabit_23 (by decide) rfl ?_
        refine g_iconst h2 (z := 2) dL_addHabit_25 ?_
        exact x_iret (u := (((y, σ'), fo) : HU)) (r := 2) h2 h4 rfl ⟨Nat.le_of_ble_eq_true rfl, Nat.le_of_ble_eq_true rfl⟩ dL_addHabit_26 ⟨⟨rfl, rfl⟩, hci, hT.symm, fun h => absurd (hT.symm.trans h) (by decide), fun _ => cV_cm hcm⟩
      · refine ⟨27, kct.on h8 (kct.next (by decide) (h2.2.2.2.2.1 _ lk_L_addHabit_c29) (h7 (eIS, eIO) (by simp [cNots, eIS, eIO])) (kct.next (by decide) (h2.2.2.2.2.1 _ lk_L_addHabit_c19) (h7 (eIS, eIA) (by simp [cNots, eIS, eIA])) (kct.here rfl (by decide) (h2.2.2.2.2.1 _ lk_L_addHabit_c13) (va_Nw.use rfl (h5.2.2.2.1 (eIS, eIS) (by simp [cCasts, eIS])))))), fun q9 => ?_⟩
        refine g_astore h2 (loc' := [(7, .ref q9), (0, .ref (y.1 0 0 0)), (1, .int (iZ s)), (2, .int (iZ kind)), (3, .int (iZ x)), (4, .int (iZ z)), (5, .int (iZ n)), (6, .ref qo)]) h3 dL_addHabit_27 (by decide) rfl ?_
        refine g_iconst h2 (z := 3) dL_addHabit_29 ?_
        exact x_iret (u := (((y, σ'), fo) : HU)) (r := 3) h2 h4 rfl ⟨Nat.le_of_ble_eq_true rfl, Nat.le_of_ble_eq_true rfl⟩ dL_addHabit_30 ⟨⟨rfl, rfl⟩, hci, hT.symm, fun h => absurd (hT.symm.trans h) (by decide), fun _ => cV_cm hcm⟩
    · obtain ⟨y', σ', rfl, hy, he, hT, hci, hr⟩ := hq
      refine s_i2l h2 dL_addHabit_14 ?_
      refine o_last h2 dL_addHabit_15 (fun f' hf => ?_)
      refine g_goto h2 (tgt := 31) dL_addHabit_16 (by decide) ?_
      refine g_iconst h2 (z := 0) dL_addHabit_31 ?_
      exact x_iret (u := (((y', σ'), f') : HU)) (r := 0) h2 h4 rfl ⟨Nat.le_of_ble_eq_true rfl, Nat.le_of_ble_eq_true rfl⟩ dL_addHabit_32 ⟨⟨hy, he⟩, hci, hT.symm, fun _ => ⟨r, hf, hr⟩, fun h => absurd hT h⟩)
abbrev rm_L_dropHabit : Room := { frames := 9, cells := 10, slots := 300, locals := 253 }
theorem lk_L_dropHabit_c29 : Cond.classLink RL 29 "java/lang/IndexOutOfBoundsException" ∈ wsL_dropHabit := List.mem_of_getElem? (i := 1) (by decide +kernel)
set_option maxRecDepth 100000 in
set_option maxHeartbeats 4000000 in
theorem s_L_dropHabit {l : Launch} {qo : Nat} {co : ClassId} (y : LT) (σ : CS) (fo : Nat → Int64) (s hh : Int) (hp : CI σ) (hs : in32 s ∧ in32 hh) : lMet l yL_dropHabit wsL_dropHabit rm_L_dropHabit y.2.2 (HW qo co) rkI [.ref (y.1 0 0 0), .int (iZ s), .int (iZ hh), .ref qo] ((y, σ), fo) (hQ y σ (tDrop (cV σ) s hh) (fun r V => r = cV σ 10 s 0 0 - 1 ∧ VE V (nDrop (cV σ) s hh))) :=
  lMet.of (maxL := 5) (hh := [(0, 10, 13, 29)]) (by decide +kernel) rfl (Nat.le_of_ble_eq_true rfl) (fun K h1 h2 h3 h4 h5 h6 h7 h8 => by
    show G K (Sep (UW (Sum.inl (y, σ))) (OUT qo co fo)) (0, 0) _ 0 []
    refine g_aload_n h2 3 dL_dropHabit_0 rfl rfl ?_
    refine g_iconst h2 (z := 0) dL_dropHabit_1 ?_
    refine g_aload_n h2 0 dL_dropHabit_2 rfl rfl ?_
    refine g_iload_n h2 1 dL_dropHabit_3 rfl rfl ?_
    refine g_iload_n h2 2 dL_dropHabit_4 rfl rfl ?_
    refine s_callH h2 h5 h6 (s_X4_dropHabit K.l y σ s hh hp hs) (ci := 5) (q := (RX4, TX4, 10)) rfl (c_recv rfl ⟨rfl, rfl⟩) (fun ht => cwV 2 ht gL_dropHabit_X4_dropHabit rfl rfl rfl (by decide +kernel) ⟨Nat.le_of_ble_eq_true rfl, Nat.le_of_ble_eq_true rfl⟩) rfl rfl (Nat.le_of_ble_eq_true rfl) ⟨Nat.le_of_ble_eq_true rfl, Nat.le_of_ble_eq_true rfl⟩ dL_dropHabit_5 (fun E u' hx => ?_) (fun r u' hq => ?_)
    · obtain ⟨σ', rfl, hx, hci, hcm⟩ := hx
      rcases hx with ⟨hT, rfl⟩ | ⟨hT, rfl⟩ | ⟨hT, rfl⟩
      · refine ⟨13, kct.on h8 (kct.here rfl (by decide) (h2.2.2.2.2.1 _ lk_L_dropHabit_c29) (va_Nw.use rfl (h5.2.2.2.1 (eIO, eIO) (by simp [cCasts, eIO])))), fun q9 => ?_⟩
        refine g_astore h2 (loc' := [(4, .ref q9), (0, .ref (y.1 0 0 0)), (1, .int (iZ s)), (2, .int (iZ hh)), (3, .ref qo)]) h3 dL_dropHabit_13 (by decide) rfl ?_
        refine g_iconst h2 (z := 1) dL_dropHabit_15 ?_
        exact x_iret (u := (((y, σ'), fo) : HU)) (r := 1) h2 h4 rfl ⟨Nat.le_of_ble_eq_true rfl, Nat.le_of_ble_eq_true rfl⟩ dL_dropHabit_16 ⟨⟨rfl, rfl⟩, hci, hT.symm, fun h => absurd (hT.symm.trans h) (by decide), fun _ => cV_cm hcm⟩
      · exact absurd hT (by unfold tDrop; first | exact t_no3 | (repeat' split <;> decide))
      · exact absurd hT (by unfold tDrop; first | exact t_no3 | (repeat' split <;> decide))
    · obtain ⟨y', σ', rfl, hy, he, hT, hci, hr⟩ := hq
      refine s_i2l h2 dL_dropHabit_8 ?_
      refine o_last h2 dL_dropHabit_9 (fun f' hf => ?_)
      refine g_goto h2 (tgt := 17) dL_dropHabit_10 (by decide) ?_
      refine g_iconst h2 (z := 0) dL_dropHabit_17 ?_
      exact x_iret (u := (((y', σ'), f') : HU)) (r := 0) h2 h4 rfl ⟨Nat.le_of_ble_eq_true rfl, Nat.le_of_ble_eq_true rfl⟩ dL_dropHabit_18 ⟨⟨hy, he⟩, hci, hT.symm, fun _ => ⟨r, hf, hr⟩, fun h => absurd hT h⟩)
abbrev rm_L_habit : Room := { frames := 8, cells := 2, slots := 12, locals := 145 }
theorem lk_L_habit_c29 : Cond.classLink RL 29 "java/lang/IndexOutOfBoundsException" ∈ wsL_habit := List.mem_of_getElem? (i := 1) (by decide +kernel)
set_option maxRecDepth 100000 in
set_option maxHeartbeats 4000000 in
theorem s_L_habit {l : Launch} {qo : Nat} {co : ClassId} (y : LT) (σ : CS) (fo : Nat → Int64) (s k w : Int) (hp : CI σ) (hs : in32 s ∧ in32 k ∧ in32 w) : lMet l yL_habit wsL_habit rm_L_habit y.2.2 (HW qo co) rkI [.ref (y.1 0 0 0), .int (iZ s), .int (iZ k), .int (iZ w), .ref qo] ((y, σ), fo) (hQ y σ (tHabit (cV σ) s k w) (fun r V => r = (cV σ 11 s k w) ∧ VE V (cV σ))) :=
  lMet.of (maxL := 6) (hh := [(0, 12, 15, 29)]) (by decide +kernel) rfl (Nat.le_of_ble_eq_true rfl) (fun K h1 h2 h3 h4 h5 h6 h7 h8 => by
    show G K (Sep (CL y σ) (OUT qo co fo)) (0, 0) _ 0 []
    refine g_aload h2 4 dL_habit_0 rfl ?_
    refine g_iconst h2 (z := 0) dL_habit_2 ?_
    refine g_aload_n h2 0 dL_habit_3 rfl rfl ?_
    refine g_iload_n h2 1 dL_habit_4 rfl rfl ?_
    refine g_iload_n h2 2 dL_habit_5 rfl rfl ?_
    refine g_iload_n h2 3 dL_habit_6 rfl rfl ?_
    refine s_callH h2 h5 h6 (s_X4_habit K.l y σ s k w ⟨hp, hs⟩) (ci := 5) (q := (RX4, TX4, 10)) rfl (c_recv rfl ⟨rfl, rfl⟩) (fun ht => cwV 3 ht gL_habit_X4_habit rfl rfl rfl (by decide +kernel) ⟨Nat.le_of_ble_eq_true rfl, Nat.le_of_ble_eq_true rfl⟩) rfl rfl (Nat.le_of_ble_eq_true rfl) ⟨Nat.le_of_ble_eq_true rfl, Nat.le_of_ble_eq_true rfl⟩ dL_habit_7 (fun E u' hx => ?_) (fun r u' hq => ?_)
    · obtain ⟨hx, hci, hcm⟩ := hx
      rcases hx with ⟨hT, rfl⟩ | ⟨hT, rfl⟩ | ⟨hT, rfl⟩
      · refine ⟨15, kct.on h8 (kct.here rfl (by decide) (h2.2.2.2.2.1 _ lk_L_habit_c29) (va_Nw.use rfl (h5.2.2.2.1 (eIO, eIO) (by simp [cCasts, eIO])))), fun q9 => ?_⟩
        refine g_astore h2 (loc' := [(5, .ref q9), (0, .ref (y.1 0 0 0)), (1, .int (iZ s)), (2, .int (iZ k)), (3, .int (iZ w)), (4, .ref qo)]) h3 dL_habit_15 (by decide) rfl ?_
        refine g_iconst h2 (z := 1) dL_habit_17 ?_
        exact x_iret (u := (((y, u'), fo) : HU)) (r := 1) h2 h4 rfl ⟨Nat.le_of_ble_eq_true rfl, Nat.le_of_ble_eq_true rfl⟩ dL_habit_18 ⟨⟨rfl, rfl⟩, hci, hT.symm, fun h => absurd (hT.symm.trans h) (by decide), fun _ => cV_cm hcm⟩
      · exact absurd hT (by unfold tHabit; first | exact t_no3 | (repeat' split <;> decide))
      · exact absurd hT (by unfold tHabit; first | exact t_no3 | (repeat' split <;> decide))
    · obtain ⟨hT, hr, hci, hcm⟩ := hq
      refine s_i2l h2 dL_habit_10 ?_
      refine o_last h2 dL_habit_11 (fun f' hf => ?_)
      refine g_goto h2 (tgt := 19) dL_habit_12 (by decide) ?_
      refine g_iconst h2 (z := 0) dL_habit_19 ?_
      exact x_iret (u := (((y, u'), f') : HU)) (r := 0) h2 h4 rfl ⟨Nat.le_of_ble_eq_true rfl, Nat.le_of_ble_eq_true rfl⟩ dL_habit_20 ⟨⟨rfl, rfl⟩, hci, hT.symm, fun _ => ⟨r, hf, ⟨hr, VE.of_eq (cV_cm hcm)⟩⟩, fun h => absurd hT h⟩)
abbrev rm_L_copy : Room := { frames := 9, cells := 10, slots := 300, locals := 254 }
theorem lk_L_copy_c29 : Cond.classLink RL 29 "java/lang/IndexOutOfBoundsException" ∈ wsL_copy := List.mem_of_getElem? (i := 1) (by decide +kernel)
theorem lk_L_copy_c13 : Cond.classLink RL 13 "java/lang/IllegalStateException" ∈ wsL_copy := List.mem_of_getElem? (i := 2) (by decide +kernel)
set_option maxRecDepth 100000 in
set_option maxHeartbeats 4000000 in
theorem s_L_copy {l : Launch} {qo : Nat} {co : ClassId} (y : LT) (σ : CS) (fo : Nat → Int64) (m s : Int) (hp : CI σ) (hs : in32 m ∧ in32 s) : lMet l yL_copy wsL_copy rm_L_copy y.2.2 (HW qo co) rkI [.ref (y.1 0 0 0), .int (iZ m), .int (iZ s), .ref qo] ((y, σ), fo) (hQ y σ (tCopy (cV σ) m s) (fun r V => r = vN (cV σ) ∧ VE V (nKeep (cV σ) (vCopyW (cV σ) s (vTx (cV σ) m)) m s))) :=
  lMet.of (maxL := 5) (hh := [(0, 10, 13, 29), (0, 10, 17, 13)]) (by decide +kernel) rfl (Nat.le_of_ble_eq_true rfl) (fun K h1 h2 h3 h4 h5 h6 h7 h8 => by
    show G K (Sep (UW (Sum.inl (y, σ))) (OUT qo co fo)) (0, 0) _ 0 []
    refine g_aload_n h2 3 dL_copy_0 rfl rfl ?_
    refine g_iconst h2 (z := 0) dL_copy_1 ?_
    refine g_aload_n h2 0 dL_copy_2 rfl rfl ?_
    refine g_iload_n h2 1 dL_copy_3 rfl rfl ?_
    refine g_iload_n h2 2 dL_copy_4 rfl rfl ?_
    refine s_callH h2 h5 h6 (s_X4_copy K.l y σ m s hp hs) (ci := 5) (q := (RX4, TX4, 10)) rfl (c_recv rfl ⟨rfl, rfl⟩) (fun ht => cwV 2 ht gL_copy_X4_copy rfl rfl rfl (by decide +kernel) ⟨Nat.le_of_ble_eq_true rfl, Nat.le_of_ble_eq_true rfl⟩) rfl rfl (Nat.le_of_ble_eq_true rfl) ⟨Nat.le_of_ble_eq_true rfl, Nat.le_of_ble_eq_true rfl⟩ dL_copy_5 (fun E u' hx => ?_) (fun r u' hq => ?_)
    · obtain ⟨σ', rfl, hx, hci, hcm⟩ := hx
      rcases hx with ⟨hT, rfl⟩ | ⟨hT, rfl⟩ | ⟨hT, rfl⟩
      · refine ⟨13, kct.on h8 (kct.here rfl (by decide) (h2.2.2.2.2.1 _ lk_L_copy_c29) (va_Nw.use rfl (h5.2.2.2.1 (eIO, eIO) (by simp [cCasts, eIO])))), fun q9 => ?_⟩
        refine g_astore h2 (loc' := [(4, .ref q9), (0, .ref (y.1 0 0 0)), (1, .int (iZ m)), (2, .int (iZ s)), (3, .ref qo)]) h3 dL_copy_13 (by decide) rfl ?_
        refine g_iconst h2 (z := 1) dL_copy_15 ?_
        exact x_iret (u := (((y, σ'), fo) : HU)) (r := 1) h2 h4 rfl ⟨Nat.le_of_ble_eq_true rfl, Nat.le_of_ble_eq_true rfl⟩ dL_copy_16 ⟨⟨rfl, rfl⟩, hci, hT.symm, fun h => absurd (hT.symm.trans h) (by decide), fun _ => cV_cm hcm⟩
      · refine ⟨17, kct.on h8 (kct.next (by decide) (h2.2.2.2.2.1 _ lk_L_copy_c29) (h7 (eIS, eIO) (by simp [cNots, eIS, eIO])) (kct.here rfl (by decide) (h2.2.2.2.2.1 _ lk_L_copy_c13) (va_Nw.use rfl (h5.2.2.2.1 (eIS, eIS) (by simp [cCasts, eIS]))))), fun q9 => ?_⟩
        refine g_astore h2 (loc' := [(4, .ref q9), (0, .ref (y.1 0 0 0)), (1, .int (iZ m)), (2, .int (iZ s)), (3, .ref qo)]) h3 dL_copy_17 (by decide) rfl ?_
        refine g_iconst h2 (z := 2) dL_copy_19 ?_
        exact x_iret (u := (((y, σ'), fo) : HU)) (r := 2) h2 h4 rfl ⟨Nat.le_of_ble_eq_true rfl, Nat.le_of_ble_eq_true rfl⟩ dL_copy_20 ⟨⟨rfl, rfl⟩, hci, hT.symm, fun h => absurd (hT.symm.trans h) (by decide), fun _ => cV_cm hcm⟩
      · exact absurd hT (by unfold tCopy; first | exact t_no3 | (repeat' split <;> decide))
    · obtain ⟨y', σ', rfl, hy, he, hT, hci, hr⟩ := hq
      refine s_i2l h2 dL_copy_8 ?_
      refine o_last h2 dL_copy_9 (fun f' hf => ?_)
      refine g_goto h2 (tgt := 21) dL_copy_10 (by decide) ?_
      refine g_iconst h2 (z := 0) dL_copy_21 ?_
      exact x_iret (u := (((y', σ'), f') : HU)) (r := 0) h2 h4 rfl ⟨Nat.le_of_ble_eq_true rfl, Nat.le_of_ble_eq_true rfl⟩ dL_copy_22 ⟨⟨hy, he⟩, hci, hT.symm, fun _ => ⟨r, hf, hr⟩, fun h => absurd hT h⟩)
abbrev rm_L_emend : Room := { frames := 8, cells := 3, slots := 18, locals := 147 }
theorem lk_L_emend_c29 : Cond.classLink RL 29 "java/lang/IndexOutOfBoundsException" ∈ wsL_emend := List.mem_of_getElem? (i := 1) (by decide +kernel)
theorem lk_L_emend_c19 : Cond.classLink RL 19 "java/lang/IllegalArgumentException" ∈ wsL_emend := List.mem_of_getElem? (i := 2) (by decide +kernel)
theorem lk_L_emend_c13 : Cond.classLink RL 13 "java/lang/IllegalStateException" ∈ wsL_emend := List.mem_of_getElem? (i := 3) (by decide +kernel)
set_option maxRecDepth 100000 in
set_option maxHeartbeats 4000000 in
theorem s_L_emend {l : Launch} {qo : Nat} {co : ClassId} (y : LT) (σ : CS) (fo : Nat → Int64) (m o place many : Int) (hp : CI σ) (hs : in32 m ∧ in32 o ∧ in32 place ∧ in32 many) : lMet l yL_emend wsL_emend rm_L_emend y.2.2 (HW qo co) rkI [.ref (y.1 0 0 0), .int (iZ m), .int (iZ o), .int (iZ place), .int (iZ many), .ref qo] ((y, σ), fo) (hQ y σ (tEmend (cV σ) m o place many) (fun r V => r = vOthers (cV σ) m o place many ∧ VE V (nEmend (cV σ) m o place many))) :=
  lMet.of (maxL := 7) (hh := [(0, 14, 17, 29), (0, 14, 21, 19), (0, 14, 25, 13)]) (by decide +kernel) rfl (Nat.le_of_ble_eq_true rfl) (fun K h1 h2 h3 h4 h5 h6 h7 h8 => by
    show G K (Sep (CL y σ) (OUT qo co fo)) (0, 0) _ 0 []
    refine g_aload h2 5 dL_emend_0 rfl ?_
    refine g_iconst h2 (z := 0) dL_emend_2 ?_
    refine g_aload_n h2 0 dL_emend_3 rfl rfl ?_
    refine g_iload_n h2 1 dL_emend_4 rfl rfl ?_
    refine g_iload_n h2 2 dL_emend_5 rfl rfl ?_
    refine g_iload_n h2 3 dL_emend_6 rfl rfl ?_
    refine g_iload h2 4 dL_emend_7 rfl ?_
    refine s_callH h2 h5 h6 (s_X4_emend K.l y σ m o place many ⟨hp, hs⟩) (ci := 5) (q := (RX4, TX4, 10)) rfl (c_recv rfl ⟨rfl, rfl⟩) (fun ht => cwV 4 ht gL_emend_X4_emend rfl rfl rfl (by decide +kernel) ⟨Nat.le_of_ble_eq_true rfl, Nat.le_of_ble_eq_true rfl⟩) rfl rfl (Nat.le_of_ble_eq_true rfl) ⟨Nat.le_of_ble_eq_true rfl, Nat.le_of_ble_eq_true rfl⟩ dL_emend_9 (fun E u' hx => ?_) (fun r u' hq => ?_)
    · obtain ⟨hx, hci, hcm⟩ := hx
      rcases hx with ⟨hT, rfl⟩ | ⟨hT, rfl⟩ | ⟨hT, rfl⟩
      · refine ⟨17, kct.on h8 (kct.here rfl (by decide) (h2.2.2.2.2.1 _ lk_L_emend_c29) (va_Nw.use rfl (h5.2.2.2.1 (eIO, eIO) (by simp [cCasts, eIO])))), fun q9 => ?_⟩
        refine g_astore h2 (loc' := [(6, .ref q9), (0, .ref (y.1 0 0 0)), (1, .int (iZ m)), (2, .int (iZ o)), (3, .int (iZ place)), (4, .int (iZ many)), (5, .ref qo)]) h3 dL_emend_17 (by decide) rfl ?_
        refine g_iconst h2 (z := 1) dL_emend_19 ?_
        exact x_iret (u := (((y, u'), fo) : HU)) (r := 1) h2 h4 rfl ⟨Nat.le_of_ble_eq_true rfl, Nat.le_of_ble_eq_true rfl⟩ dL_emend_20 ⟨⟨rfl, rfl⟩, hci, hT.symm, fun h => absurd (hT.symm.trans h) (by decide), fun _ => cV_cm hcm⟩
      · refine ⟨21, kct.on h8 (kct.next (by decide) (h2.2.2.2.2.1 _ lk_L_emend_c29) (h7 (eIA, eIO) (by simp [cNots, eIA, eIO])) (kct.here rfl (by decide) (h2.2.2.2.2.1 _ lk_L_emend_c19) (va_Nw.use rfl (h5.2.2.2.1 (eIA, eIA) (by simp [cCasts, eIA]))))), fun q9 => ?_⟩
        refine g_astore h2 (loc' := [(6, .ref q9), (0, .ref (y.1 0 0 0)), (1, .int (iZ m)), (2, .int (iZ o)), (3, .int (iZ place)), (4, .int (iZ many)), (5, .ref qo)]) h3 dL_emend_21 (by decide) rfl ?_
        refine g_iconst h2 (z := 2) dL_emend_23 ?_
        exact x_iret (u := (((y, u'), fo) : HU)) (r := 2) h2 h4 rfl ⟨Nat.le_of_ble_eq_true rfl, Nat.le_of_ble_eq_true rfl⟩ dL_emend_24 ⟨⟨rfl, rfl⟩, hci, hT.symm, fun h => absurd (hT.symm.trans h) (by decide), fun _ => cV_cm hcm⟩
      · refine ⟨25, kct.on h8 (kct.next (by decide) (h2.2.2.2.2.1 _ lk_L_emend_c29) (h7 (eIS, eIO) (by simp [cNots, eIS, eIO])) (kct.next (by decide) (h2.2.2.2.2.1 _ lk_L_emend_c19) (h7 (eIS, eIA) (by simp [cNots, eIS, eIA])) (kct.here rfl (by decide) (h2.2.2.2.2.1 _ lk_L_emend_c13) (va_Nw.use rfl (h5.2.2.2.1 (eIS, eIS) (by simp [cCasts, eIS])))))), fun q9 => ?_⟩
        refine g_astore h2 (loc' := [(6, .ref q9), (0, .ref (y.1 0 0 0)), (1, .int (iZ m)), (2, .int (iZ o)), (3, .int (iZ place)), (4, .int (iZ many)), (5, .ref qo)]) h3 dL_emend_25 (by decide) rfl ?_
        refine g_iconst h2 (z := 3) dL_emend_27 ?_
        exact x_iret (u := (((y, u'), fo) : HU)) (r := 3) h2 h4 rfl ⟨Nat.le_of_ble_eq_true rfl, Nat.le_of_ble_eq_true rfl⟩ dL_emend_28 ⟨⟨rfl, rfl⟩, hci, hT.symm, fun h => absurd (hT.symm.trans h) (by decide), fun _ => cV_cm hcm⟩
    · obtain ⟨hT, hci, hr⟩ := hq
      refine s_i2l h2 dL_emend_12 ?_
      refine o_last h2 dL_emend_13 (fun f' hf => ?_)
      refine g_goto h2 (tgt := 29) dL_emend_14 (by decide) ?_
      refine g_iconst h2 (z := 0) dL_emend_29 ?_
      exact x_iret (u := (((y, u'), f') : HU)) (r := 0) h2 h4 rfl ⟨Nat.le_of_ble_eq_true rfl, Nat.le_of_ble_eq_true rfl⟩ dL_emend_30 ⟨⟨rfl, rfl⟩, hci, hT.symm, fun _ => ⟨r, hf, hr⟩, fun h => absurd hT h⟩)
abbrev rm_L_lose : Room := { frames := 8, cells := 2, slots := 12, locals := 143 }
theorem lk_L_lose_c29 : Cond.classLink RL 29 "java/lang/IndexOutOfBoundsException" ∈ wsL_lose := List.mem_of_getElem? (i := 1) (by decide +kernel)
theorem lk_L_lose_c13 : Cond.classLink RL 13 "java/lang/IllegalStateException" ∈ wsL_lose := List.mem_of_getElem? (i := 2) (by decide +kernel)
set_option maxRecDepth 100000 in
set_option maxHeartbeats 4000000 in
theorem s_L_lose {l : Launch} {qo : Nat} {co : ClassId} (y : LT) (σ : CS) (fo : Nat → Int64) (m : Int) (hp : CI σ) (hs : in32 m) : lMet l yL_lose wsL_lose rm_L_lose y.2.2 (HW qo co) rkI [.ref (y.1 0 0 0), .int (iZ m), .ref qo] ((y, σ), fo) (hQ y σ (tLose (cV σ) m) (fun r V => r = vThere V ∧ VE V (nLose (cV σ) m))) :=
  lMet.of (maxL := 4) (hh := [(0, 9, 12, 29), (0, 9, 15, 13)]) (by decide +kernel) rfl (Nat.le_of_ble_eq_true rfl) (fun K h1 h2 h3 h4 h5 h6 h7 h8 => by
    show G K (Sep (CL y σ) (OUT qo co fo)) (0, 0) _ 0 []
    refine g_aload_n h2 2 dL_lose_0 rfl rfl ?_
    refine g_iconst h2 (z := 0) dL_lose_1 ?_
    refine g_aload_n h2 0 dL_lose_2 rfl rfl ?_
    refine g_iload_n h2 1 dL_lose_3 rfl rfl ?_
    refine s_callH h2 h5 h6 (s_X4_lose K.l y σ m ⟨hp, hs⟩) (ci := 5) (q := (RX4, TX4, 10)) rfl (c_recv rfl ⟨rfl, rfl⟩) (fun ht => cwV 1 ht gL_lose_X4_lose rfl rfl rfl (by decide +kernel) ⟨Nat.le_of_ble_eq_true rfl, Nat.le_of_ble_eq_true rfl⟩) rfl rfl (Nat.le_of_ble_eq_true rfl) ⟨Nat.le_of_ble_eq_true rfl, Nat.le_of_ble_eq_true rfl⟩ dL_lose_4 (fun E u' hx => ?_) (fun r u' hq => ?_)
    · obtain ⟨hx, hci, hcm⟩ := hx
      rcases hx with ⟨hT, rfl⟩ | ⟨hT, rfl⟩ | ⟨hT, rfl⟩
      · refine ⟨12, kct.on h8 (kct.here rfl (by decide) (h2.2.2.2.2.1 _ lk_L_lose_c29) (va_Nw.use rfl (h5.2.2.2.1 (eIO, eIO) (by simp [cCasts, eIO])))), fun q9 => ?_⟩
        refine g_astore_n h2 (loc' := [(3, .ref q9), (0, .ref (y.1 0 0 0)), (1, .int (iZ m)), (2, .ref qo)]) h3 dL_lose_12 rfl (by decide) rfl ?_
        refine g_iconst h2 (z := 1) dL_lose_13 ?_
        exact x_iret (u := (((y, u'), fo) : HU)) (r := 1) h2 h4 rfl ⟨Nat.le_of_ble_eq_true rfl, Nat.le_of_ble_eq_true rfl⟩ dL_lose_14 ⟨⟨rfl, rfl⟩, hci, hT.symm, fun h => absurd (hT.symm.trans h) (by decide), fun _ => cV_cm hcm⟩
      · refine ⟨15, kct.on h8 (kct.next (by decide) (h2.2.2.2.2.1 _ lk_L_lose_c29) (h7 (eIS, eIO) (by simp [cNots, eIS, eIO])) (kct.here rfl (by decide) (h2.2.2.2.2.1 _ lk_L_lose_c13) (va_Nw.use rfl (h5.2.2.2.1 (eIS, eIS) (by simp [cCasts, eIS]))))), fun q9 => ?_⟩
        refine g_astore_n h2 (loc' := [(3, .ref q9), (0, .ref (y.1 0 0 0)), (1, .int (iZ m)), (2, .ref qo)]) h3 dL_lose_15 rfl (by decide) rfl ?_
        refine g_iconst h2 (z := 2) dL_lose_16 ?_
        exact x_iret (u := (((y, u'), fo) : HU)) (r := 2) h2 h4 rfl ⟨Nat.le_of_ble_eq_true rfl, Nat.le_of_ble_eq_true rfl⟩ dL_lose_17 ⟨⟨rfl, rfl⟩, hci, hT.symm, fun h => absurd (hT.symm.trans h) (by decide), fun _ => cV_cm hcm⟩
      · exact absurd hT (by unfold tLose; first | exact t_no3 | (repeat' split <;> decide))
    · obtain ⟨hT, hci, hr⟩ := hq
      refine s_i2l h2 dL_lose_7 ?_
      refine o_last h2 dL_lose_8 (fun f' hf => ?_)
      refine g_goto h2 (tgt := 18) dL_lose_9 (by decide) ?_
      refine g_iconst h2 (z := 0) dL_lose_18 ?_
      exact x_iret (u := (((y, u'), f') : HU)) (r := 0) h2 h4 rfl ⟨Nat.le_of_ble_eq_true rfl, Nat.le_of_ble_eq_true rfl⟩ dL_lose_19 ⟨⟨rfl, rfl⟩, hci, hT.symm, fun _ => ⟨r, hf, hr⟩, fun h => absurd hT h⟩)
abbrev rm_L_manuscript : Room := { frames := 8, cells := 2, slots := 12, locals := 159 }
theorem lk_L_manuscript_c29 : Cond.classLink RL 29 "java/lang/IndexOutOfBoundsException" ∈ wsL_manuscript := List.mem_of_getElem? (i := 1) (by decide +kernel)
set_option maxRecDepth 100000 in
set_option maxHeartbeats 4000000 in
theorem s_L_manuscript {l : Launch} {qo : Nat} {co : ClassId} (y : LT) (σ : CS) (fo : Nat → Int64) (m w : Int) (hp : CI σ) (hs : in32 m ∧ in32 w) : lMet l yL_manuscript wsL_manuscript rm_L_manuscript y.2.2 (HW qo co) rkI [.ref (y.1 0 0 0), .int (iZ m), .int (iZ w), .ref qo] ((y, σ), fo) (hQ y σ (tManu (cV σ) m w) (fun r V => r = (vTold (cV σ) m w) ∧ VE V (cV σ))) :=
  lMet.of (maxL := 5) (hh := [(0, 10, 13, 29)]) (by decide +kernel) rfl (Nat.le_of_ble_eq_true rfl) (fun K h1 h2 h3 h4 h5 h6 h7 h8 => by
    show G K (Sep (CL y σ) (OUT qo co fo)) (0, 0) _ 0 []
    refine g_aload_n h2 3 dL_manuscript_0 rfl rfl ?_
    refine g_iconst h2 (z := 0) dL_manuscript_1 ?_
    refine g_aload_n h2 0 dL_manuscript_2 rfl rfl ?_
    refine g_iload_n h2 1 dL_manuscript_3 rfl rfl ?_
    refine g_iload_n h2 2 dL_manuscript_4 rfl rfl ?_
    refine s_callH h2 h5 h6 (s_X4_manuscript K.l y σ m w ⟨hp, hs⟩) (ci := 5) (q := (RX4, TX4, 10)) rfl (c_recv rfl ⟨rfl, rfl⟩) (fun ht => cwV 2 ht gL_manuscript_X4_manuscript rfl rfl rfl (by decide +kernel) ⟨Nat.le_of_ble_eq_true rfl, Nat.le_of_ble_eq_true rfl⟩) rfl rfl (Nat.le_of_ble_eq_true rfl) ⟨Nat.le_of_ble_eq_true rfl, Nat.le_of_ble_eq_true rfl⟩ dL_manuscript_5 (fun E u' hx => ?_) (fun r u' hq => ?_)
    · obtain ⟨hx, hci, hcm⟩ := hx
      rcases hx with ⟨hT, rfl⟩ | ⟨hT, rfl⟩ | ⟨hT, rfl⟩
      · refine ⟨13, kct.on h8 (kct.here rfl (by decide) (h2.2.2.2.2.1 _ lk_L_manuscript_c29) (va_Nw.use rfl (h5.2.2.2.1 (eIO, eIO) (by simp [cCasts, eIO])))), fun q9 => ?_⟩
        refine g_astore h2 (loc' := [(4, .ref q9), (0, .ref (y.1 0 0 0)), (1, .int (iZ m)), (2, .int (iZ w)), (3, .ref qo)]) h3 dL_manuscript_13 (by decide) rfl ?_
        refine g_iconst h2 (z := 1) dL_manuscript_15 ?_
        exact x_iret (u := (((y, u'), fo) : HU)) (r := 1) h2 h4 rfl ⟨Nat.le_of_ble_eq_true rfl, Nat.le_of_ble_eq_true rfl⟩ dL_manuscript_16 ⟨⟨rfl, rfl⟩, hci, hT.symm, fun h => absurd (hT.symm.trans h) (by decide), fun _ => cV_cm hcm⟩
      · exact absurd hT (by unfold tManu; first | exact t_no3 | (repeat' split <;> decide))
      · exact absurd hT (by unfold tManu; first | exact t_no3 | (repeat' split <;> decide))
    · obtain ⟨hT, hr, hci, hcm⟩ := hq
      refine s_i2l h2 dL_manuscript_8 ?_
      refine o_last h2 dL_manuscript_9 (fun f' hf => ?_)
      refine g_goto h2 (tgt := 17) dL_manuscript_10 (by decide) ?_
      refine g_iconst h2 (z := 0) dL_manuscript_17 ?_
      exact x_iret (u := (((y, u'), f') : HU)) (r := 0) h2 h4 rfl ⟨Nat.le_of_ble_eq_true rfl, Nat.le_of_ble_eq_true rfl⟩ dL_manuscript_18 ⟨⟨rfl, rfl⟩, hci, hT.symm, fun _ => ⟨r, hf, ⟨hr, VE.of_eq (cV_cm hcm)⟩⟩, fun h => absurd hT h⟩)
abbrev rm_L_count : Room := { frames := 8, cells := 1, slots := 6, locals := 205 }
theorem lk_L_count_c29 : Cond.classLink RL 29 "java/lang/IndexOutOfBoundsException" ∈ wsL_count := List.mem_of_getElem? (i := 1) (by decide +kernel)
set_option maxRecDepth 100000 in
set_option maxHeartbeats 4000000 in
theorem s_L_count {l : Launch} {qo : Nat} {co : ClassId} (y : LT) (σ : CS) (fo : Nat → Int64) (w : Int) (hp : CI σ) (hs : in32 w) : lMet l yL_count wsL_count rm_L_count y.2.2 (HW qo co) rkI [.ref (y.1 0 0 0), .int (iZ w), .ref qo] ((y, σ), fo) (hQ y σ (tCount w) (fun r V => r = (vCounted (cV σ) w) ∧ VE V (cV σ))) :=
  lMet.of (maxL := 4) (hh := [(0, 9, 12, 29)]) (by decide +kernel) rfl (Nat.le_of_ble_eq_true rfl) (fun K h1 h2 h3 h4 h5 h6 h7 h8 => by
    show G K (Sep (CL y σ) (OUT qo co fo)) (0, 0) _ 0 []
    refine g_aload_n h2 2 dL_count_0 rfl rfl ?_
    refine g_iconst h2 (z := 0) dL_count_1 ?_
    refine g_aload_n h2 0 dL_count_2 rfl rfl ?_
    refine g_iload_n h2 1 dL_count_3 rfl rfl ?_
    refine s_callH h2 h5 h6 (s_X4_count K.l y σ w ⟨hp, hs⟩) (ci := 5) (q := (RX4, TX4, 10)) rfl (c_recv rfl ⟨rfl, rfl⟩) (fun ht => cwV 1 ht gL_count_X4_count rfl rfl rfl (by decide +kernel) ⟨Nat.le_of_ble_eq_true rfl, Nat.le_of_ble_eq_true rfl⟩) rfl rfl (Nat.le_of_ble_eq_true rfl) ⟨Nat.le_of_ble_eq_true rfl, Nat.le_of_ble_eq_true rfl⟩ dL_count_4 (fun E u' hx => ?_) (fun r u' hq => ?_)
    · obtain ⟨hx, hci, hcm⟩ := hx
      rcases hx with ⟨hT, rfl⟩ | ⟨hT, rfl⟩ | ⟨hT, rfl⟩
      · refine ⟨12, kct.on h8 (kct.here rfl (by decide) (h2.2.2.2.2.1 _ lk_L_count_c29) (va_Nw.use rfl (h5.2.2.2.1 (eIO, eIO) (by simp [cCasts, eIO])))), fun q9 => ?_⟩
        refine g_astore_n h2 (loc' := [(3, .ref q9), (0, .ref (y.1 0 0 0)), (1, .int (iZ w)), (2, .ref qo)]) h3 dL_count_12 rfl (by decide) rfl ?_
        refine g_iconst h2 (z := 1) dL_count_13 ?_
        exact x_iret (u := (((y, u'), fo) : HU)) (r := 1) h2 h4 rfl ⟨Nat.le_of_ble_eq_true rfl, Nat.le_of_ble_eq_true rfl⟩ dL_count_14 ⟨⟨rfl, rfl⟩, hci, hT.symm, fun h => absurd (hT.symm.trans h) (by decide), fun _ => cV_cm hcm⟩
      · exact absurd hT (by unfold tCount; first | exact t_no3 | (repeat' split <;> decide))
      · exact absurd hT (by unfold tCount; first | exact t_no3 | (repeat' split <;> decide))
    · obtain ⟨hT, hr, hci, hcm⟩ := hq
      refine s_i2l h2 dL_count_7 ?_
      refine o_last h2 dL_count_8 (fun f' hf => ?_)
      refine g_goto h2 (tgt := 15) dL_count_9 (by decide) ?_
      refine g_iconst h2 (z := 0) dL_count_15 ?_
      exact x_iret (u := (((y, u'), f') : HU)) (r := 0) h2 h4 rfl ⟨Nat.le_of_ble_eq_true rfl, Nat.le_of_ble_eq_true rfl⟩ dL_count_16 ⟨⟨rfl, rfl⟩, hci, hT.symm, fun _ => ⟨r, hf, ⟨hr, VE.of_eq (cV_cm hcm)⟩⟩, fun h => absurd hT h⟩)
abbrev rm_L_distance : Room := { frames := 8, cells := 2, slots := 12, locals := 143 }
theorem lk_L_distance_c29 : Cond.classLink RL 29 "java/lang/IndexOutOfBoundsException" ∈ wsL_distance := List.mem_of_getElem? (i := 1) (by decide +kernel)
set_option maxRecDepth 100000 in
set_option maxHeartbeats 4000000 in
theorem s_L_distance {l : Launch} {qo : Nat} {co : ClassId} (y : LT) (σ : CS) (fo : Nat → Int64) (a b : Int) (hp : CI σ) (hs : in32 a ∧ in32 b) : lMet l yL_distance wsL_distance rm_L_distance y.2.2 (HW qo co) rkI [.ref (y.1 0 0 0), .int (iZ a), .int (iZ b), .ref qo] ((y, σ), fo) (hQ y σ (tTwo (cV σ) a b) (fun r V => r = (vD (cV σ) a b) ∧ VE V (cV σ))) :=
  lMet.of (maxL := 5) (hh := [(0, 10, 13, 29)]) (by decide +kernel) rfl (Nat.le_of_ble_eq_true rfl) (fun K h1 h2 h3 h4 h5 h6 h7 h8 => by
    show G K (Sep (CL y σ) (OUT qo co fo)) (0, 0) _ 0 []
    refine g_aload_n h2 3 dL_distance_0 rfl rfl ?_
    refine g_iconst h2 (z := 0) dL_distance_1 ?_
    refine g_aload_n h2 0 dL_distance_2 rfl rfl ?_
    refine g_iload_n h2 1 dL_distance_3 rfl rfl ?_
    refine g_iload_n h2 2 dL_distance_4 rfl rfl ?_
    refine s_callH h2 h5 h6 (s_X4_distance K.l y σ a b ⟨hp, hs⟩) (ci := 5) (q := (RX4, TX4, 10)) rfl (c_recv rfl ⟨rfl, rfl⟩) (fun ht => cwV 2 ht gL_distance_X4_distance rfl rfl rfl (by decide +kernel) ⟨Nat.le_of_ble_eq_true rfl, Nat.le_of_ble_eq_true rfl⟩) rfl rfl (Nat.le_of_ble_eq_true rfl) ⟨Nat.le_of_ble_eq_true rfl, Nat.le_of_ble_eq_true rfl⟩ dL_distance_5 (fun E u' hx => ?_) (fun r u' hq => ?_)
    · obtain ⟨hx, hci, hcm⟩ := hx
      rcases hx with ⟨hT, rfl⟩ | ⟨hT, rfl⟩ | ⟨hT, rfl⟩
      · refine ⟨13, kct.on h8 (kct.here rfl (by decide) (h2.2.2.2.2.1 _ lk_L_distance_c29) (va_Nw.use rfl (h5.2.2.2.1 (eIO, eIO) (by simp [cCasts, eIO])))), fun q9 => ?_⟩
        refine g_astore h2 (loc' := [(4, .ref q9), (0, .ref (y.1 0 0 0)), (1, .int (iZ a)), (2, .int (iZ b)), (3, .ref qo)]) h3 dL_distance_13 (by decide) rfl ?_
        refine g_iconst h2 (z := 1) dL_distance_15 ?_
        exact x_iret (u := (((y, u'), fo) : HU)) (r := 1) h2 h4 rfl ⟨Nat.le_of_ble_eq_true rfl, Nat.le_of_ble_eq_true rfl⟩ dL_distance_16 ⟨⟨rfl, rfl⟩, hci, hT.symm, fun h => absurd (hT.symm.trans h) (by decide), fun _ => cV_cm hcm⟩
      · exact absurd hT (by unfold tTwo; first | exact t_no3 | (repeat' split <;> decide))
      · exact absurd hT (by unfold tTwo; first | exact t_no3 | (repeat' split <;> decide))
    · obtain ⟨hT, hr, hci, hcm⟩ := hq
      refine s_i2l h2 dL_distance_8 ?_
      refine o_last h2 dL_distance_9 (fun f' hf => ?_)
      refine g_goto h2 (tgt := 17) dL_distance_10 (by decide) ?_
      refine g_iconst h2 (z := 0) dL_distance_17 ?_
      exact x_iret (u := (((y, u'), f') : HU)) (r := 0) h2 h4 rfl ⟨Nat.le_of_ble_eq_true rfl, Nat.le_of_ble_eq_true rfl⟩ dL_distance_18 ⟨⟨rfl, rfl⟩, hci, hT.symm, fun _ => ⟨r, hf, ⟨hr, VE.of_eq (cV_cm hcm)⟩⟩, fun h => absurd hT h⟩)
abbrev rm_L_common : Room := { frames := 8, cells := 2, slots := 12, locals := 146 }
theorem lk_L_common_c29 : Cond.classLink RL 29 "java/lang/IndexOutOfBoundsException" ∈ wsL_common := List.mem_of_getElem? (i := 1) (by decide +kernel)
set_option maxRecDepth 100000 in
set_option maxHeartbeats 4000000 in
theorem s_L_common {l : Launch} {qo : Nat} {co : ClassId} (y : LT) (σ : CS) (fo : Nat → Int64) (a b : Int) (hp : CI σ) (hs : in32 a ∧ in32 b) : lMet l yL_common wsL_common rm_L_common y.2.2 (HW qo co) rkI [.ref (y.1 0 0 0), .int (iZ a), .int (iZ b), .ref qo] ((y, σ), fo) (hQ y σ (tTwo (cV σ) a b) (fun r V => r = (comm (vEx (cV σ)) a b) ∧ VE V (cV σ))) :=
  lMet.of (maxL := 5) (hh := [(0, 10, 13, 29)]) (by decide +kernel) rfl (Nat.le_of_ble_eq_true rfl) (fun K h1 h2 h3 h4 h5 h6 h7 h8 => by
    show G K (Sep (CL y σ) (OUT qo co fo)) (0, 0) _ 0 []
    refine g_aload_n h2 3 dL_common_0 rfl rfl ?_
    refine g_iconst h2 (z := 0) dL_common_1 ?_
    refine g_aload_n h2 0 dL_common_2 rfl rfl ?_
    refine g_iload_n h2 1 dL_common_3 rfl rfl ?_
    refine g_iload_n h2 2 dL_common_4 rfl rfl ?_
    refine s_callH h2 h5 h6 (s_X4_common K.l y σ a b ⟨hp, hs⟩) (ci := 5) (q := (RX4, TX4, 10)) rfl (c_recv rfl ⟨rfl, rfl⟩) (fun ht => cwV 2 ht gL_common_X4_common rfl rfl rfl (by decide +kernel) ⟨Nat.le_of_ble_eq_true rfl, Nat.le_of_ble_eq_true rfl⟩) rfl rfl (Nat.le_of_ble_eq_true rfl) ⟨Nat.le_of_ble_eq_true rfl, Nat.le_of_ble_eq_true rfl⟩ dL_common_5 (fun E u' hx => ?_) (fun r u' hq => ?_)
    · obtain ⟨hx, hci, hcm⟩ := hx
      rcases hx with ⟨hT, rfl⟩ | ⟨hT, rfl⟩ | ⟨hT, rfl⟩
      · refine ⟨13, kct.on h8 (kct.here rfl (by decide) (h2.2.2.2.2.1 _ lk_L_common_c29) (va_Nw.use rfl (h5.2.2.2.1 (eIO, eIO) (by simp [cCasts, eIO])))), fun q9 => ?_⟩
        refine g_astore h2 (loc' := [(4, .ref q9), (0, .ref (y.1 0 0 0)), (1, .int (iZ a)), (2, .int (iZ b)), (3, .ref qo)]) h3 dL_common_13 (by decide) rfl ?_
        refine g_iconst h2 (z := 1) dL_common_15 ?_
        exact x_iret (u := (((y, u'), fo) : HU)) (r := 1) h2 h4 rfl ⟨Nat.le_of_ble_eq_true rfl, Nat.le_of_ble_eq_true rfl⟩ dL_common_16 ⟨⟨rfl, rfl⟩, hci, hT.symm, fun h => absurd (hT.symm.trans h) (by decide), fun _ => cV_cm hcm⟩
      · exact absurd hT (by unfold tTwo; first | exact t_no3 | (repeat' split <;> decide))
      · exact absurd hT (by unfold tTwo; first | exact t_no3 | (repeat' split <;> decide))
    · obtain ⟨hT, hr, hci, hcm⟩ := hq
      refine s_i2l h2 dL_common_8 ?_
      refine o_last h2 dL_common_9 (fun f' hf => ?_)
      refine g_goto h2 (tgt := 17) dL_common_10 (by decide) ?_
      refine g_iconst h2 (z := 0) dL_common_17 ?_
      exact x_iret (u := (((y, u'), f') : HU)) (r := 0) h2 h4 rfl ⟨Nat.le_of_ble_eq_true rfl, Nat.le_of_ble_eq_true rfl⟩ dL_common_18 ⟨⟨rfl, rfl⟩, hci, hT.symm, fun _ => ⟨r, hf, ⟨hr, VE.of_eq (cV_cm hcm)⟩⟩, fun h => absurd hT h⟩)
abbrev rm_L_guess : Room := { frames := 8, cells := 1, slots := 6, locals := 161 }
theorem lk_L_guess_c29 : Cond.classLink RL 29 "java/lang/IndexOutOfBoundsException" ∈ wsL_guess := List.mem_of_getElem? (i := 1) (by decide +kernel)
set_option maxRecDepth 100000 in
set_option maxHeartbeats 4000000 in
theorem s_L_guess {l : Launch} {qo : Nat} {co : ClassId} (y : LT) (σ : CS) (fo : Nat → Int64) (a : Int) (hp : CI σ) (hs : in32 a) : lMet l yL_guess wsL_guess rm_L_guess y.2.2 (HW qo co) rkI [.ref (y.1 0 0 0), .int (iZ a), .ref qo] ((y, σ), fo) (hQ y σ (tOne (cV σ) a) (fun r V => r = (vGuess (cV σ) a) ∧ VE V (cV σ))) :=
  lMet.of (maxL := 4) (hh := [(0, 9, 12, 29)]) (by decide +kernel) rfl (Nat.le_of_ble_eq_true rfl) (fun K h1 h2 h3 h4 h5 h6 h7 h8 => by
    show G K (Sep (CL y σ) (OUT qo co fo)) (0, 0) _ 0 []
    refine g_aload_n h2 2 dL_guess_0 rfl rfl ?_
    refine g_iconst h2 (z := 0) dL_guess_1 ?_
    refine g_aload_n h2 0 dL_guess_2 rfl rfl ?_
    refine g_iload_n h2 1 dL_guess_3 rfl rfl ?_
    refine s_callH h2 h5 h6 (s_X4_guess K.l y σ a ⟨hp, hs⟩) (ci := 5) (q := (RX4, TX4, 10)) rfl (c_recv rfl ⟨rfl, rfl⟩) (fun ht => cwV 1 ht gL_guess_X4_guess rfl rfl rfl (by decide +kernel) ⟨Nat.le_of_ble_eq_true rfl, Nat.le_of_ble_eq_true rfl⟩) rfl rfl (Nat.le_of_ble_eq_true rfl) ⟨Nat.le_of_ble_eq_true rfl, Nat.le_of_ble_eq_true rfl⟩ dL_guess_4 (fun E u' hx => ?_) (fun r u' hq => ?_)
    · obtain ⟨hx, hci, hcm⟩ := hx
      rcases hx with ⟨hT, rfl⟩ | ⟨hT, rfl⟩ | ⟨hT, rfl⟩
      · refine ⟨12, kct.on h8 (kct.here rfl (by decide) (h2.2.2.2.2.1 _ lk_L_guess_c29) (va_Nw.use rfl (h5.2.2.2.1 (eIO, eIO) (by simp [cCasts, eIO])))), fun q9 => ?_⟩
        refine g_astore_n h2 (loc' := [(3, .ref q9), (0, .ref (y.1 0 0 0)), (1, .int (iZ a)), (2, .ref qo)]) h3 dL_guess_12 rfl (by decide) rfl ?_
        refine g_iconst h2 (z := 1) dL_guess_13 ?_
        exact x_iret (u := (((y, u'), fo) : HU)) (r := 1) h2 h4 rfl ⟨Nat.le_of_ble_eq_true rfl, Nat.le_of_ble_eq_true rfl⟩ dL_guess_14 ⟨⟨rfl, rfl⟩, hci, hT.symm, fun h => absurd (hT.symm.trans h) (by decide), fun _ => cV_cm hcm⟩
      · exact absurd hT (by unfold tOne; first | exact t_no3 | (repeat' split <;> decide))
      · exact absurd hT (by unfold tOne; first | exact t_no3 | (repeat' split <;> decide))
    · obtain ⟨hT, hr, hci, hcm⟩ := hq
      refine s_i2l h2 dL_guess_7 ?_
      refine o_last h2 dL_guess_8 (fun f' hf => ?_)
      refine g_goto h2 (tgt := 15) dL_guess_9 (by decide) ?_
      refine g_iconst h2 (z := 0) dL_guess_15 ?_
      exact x_iret (u := (((y, u'), f') : HU)) (r := 0) h2 h4 rfl ⟨Nat.le_of_ble_eq_true rfl, Nat.le_of_ble_eq_true rfl⟩ dL_guess_16 ⟨⟨rfl, rfl⟩, hci, hT.symm, fun _ => ⟨r, hf, ⟨hr, VE.of_eq (cV_cm hcm)⟩⟩, fun h => absurd hT h⟩)
abbrev rm_L_find : Room := { frames := 8, cells := 2, slots := 12, locals := 147 }
theorem lk_L_find_c29 : Cond.classLink RL 29 "java/lang/IndexOutOfBoundsException" ∈ wsL_find := List.mem_of_getElem? (i := 1) (by decide +kernel)
theorem lk_L_find_c19 : Cond.classLink RL 19 "java/lang/IllegalArgumentException" ∈ wsL_find := List.mem_of_getElem? (i := 2) (by decide +kernel)
set_option maxRecDepth 100000 in
set_option maxHeartbeats 4000000 in
theorem s_L_find {l : Launch} {qo : Nat} {co : ClassId} (y : LT) (σ : CS) (fo : Nat → Int64) (m k a b : Int) (hp : CI σ) (hs : in32 m ∧ in32 k ∧ in32 a ∧ in32 b) : lMet l yL_find wsL_find rm_L_find y.2.2 (HW qo co) rkI [.ref (y.1 0 0 0), .int (iZ m), .int (iZ k), .int (iZ a), .int (iZ b), .ref qo] ((y, σ), fo) (hQ y σ (tFind (cV σ) m k a b) (fun r V => r = (vFind (cV σ) m k a b) ∧ VE V (cV σ))) :=
  lMet.of (maxL := 7) (hh := [(0, 14, 17, 29), (0, 14, 21, 19)]) (by decide +kernel) rfl (Nat.le_of_ble_eq_true rfl) (fun K h1 h2 h3 h4 h5 h6 h7 h8 => by
    show G K (Sep (CL y σ) (OUT qo co fo)) (0, 0) _ 0 []
    refine g_aload h2 5 dL_find_0 rfl ?_
    refine g_iconst h2 (z := 0) dL_find_2 ?_
    refine g_aload_n h2 0 dL_find_3 rfl rfl ?_
    refine g_iload_n h2 1 dL_find_4 rfl rfl ?_
    refine g_iload_n h2 2 dL_find_5 rfl rfl ?_
    refine g_iload_n h2 3 dL_find_6 rfl rfl ?_
    refine g_iload h2 4 dL_find_7 rfl ?_
    refine s_callH h2 h5 h6 (s_X4_find K.l y σ m k a b ⟨hp, hs⟩) (ci := 5) (q := (RX4, TX4, 10)) rfl (c_recv rfl ⟨rfl, rfl⟩) (fun ht => cwV 4 ht gL_find_X4_find rfl rfl rfl (by decide +kernel) ⟨Nat.le_of_ble_eq_true rfl, Nat.le_of_ble_eq_true rfl⟩) rfl rfl (Nat.le_of_ble_eq_true rfl) ⟨Nat.le_of_ble_eq_true rfl, Nat.le_of_ble_eq_true rfl⟩ dL_find_9 (fun E u' hx => ?_) (fun r u' hq => ?_)
    · obtain ⟨hx, hci, hcm⟩ := hx
      rcases hx with ⟨hT, rfl⟩ | ⟨hT, rfl⟩ | ⟨hT, rfl⟩
      · refine ⟨17, kct.on h8 (kct.here rfl (by decide) (h2.2.2.2.2.1 _ lk_L_find_c29) (va_Nw.use rfl (h5.2.2.2.1 (eIO, eIO) (by simp [cCasts, eIO])))), fun q9 => ?_⟩
        refine g_astore h2 (loc' := [(6, .ref q9), (0, .ref (y.1 0 0 0)), (1, .int (iZ m)), (2, .int (iZ k)), (3, .int (iZ a)), (4, .int (iZ b)), (5, .ref qo)]) h3 dL_find_17 (by decide) rfl ?_
        refine g_iconst h2 (z := 1) dL_find_19 ?_
        exact x_iret (u := (((y, u'), fo) : HU)) (r := 1) h2 h4 rfl ⟨Nat.le_of_ble_eq_true rfl, Nat.le_of_ble_eq_true rfl⟩ dL_find_20 ⟨⟨rfl, rfl⟩, hci, hT.symm, fun h => absurd (hT.symm.trans h) (by decide), fun _ => cV_cm hcm⟩
      · refine ⟨21, kct.on h8 (kct.next (by decide) (h2.2.2.2.2.1 _ lk_L_find_c29) (h7 (eIA, eIO) (by simp [cNots, eIA, eIO])) (kct.here rfl (by decide) (h2.2.2.2.2.1 _ lk_L_find_c19) (va_Nw.use rfl (h5.2.2.2.1 (eIA, eIA) (by simp [cCasts, eIA]))))), fun q9 => ?_⟩
        refine g_astore h2 (loc' := [(6, .ref q9), (0, .ref (y.1 0 0 0)), (1, .int (iZ m)), (2, .int (iZ k)), (3, .int (iZ a)), (4, .int (iZ b)), (5, .ref qo)]) h3 dL_find_21 (by decide) rfl ?_
        refine g_iconst h2 (z := 2) dL_find_23 ?_
        exact x_iret (u := (((y, u'), fo) : HU)) (r := 2) h2 h4 rfl ⟨Nat.le_of_ble_eq_true rfl, Nat.le_of_ble_eq_true rfl⟩ dL_find_24 ⟨⟨rfl, rfl⟩, hci, hT.symm, fun h => absurd (hT.symm.trans h) (by decide), fun _ => cV_cm hcm⟩
      · exact absurd hT (by unfold tFind; first | exact t_no3 | (repeat' split <;> decide))
    · obtain ⟨hT, hr, hci, hcm⟩ := hq
      refine s_i2l h2 dL_find_12 ?_
      refine o_last h2 dL_find_13 (fun f' hf => ?_)
      refine g_goto h2 (tgt := 25) dL_find_14 (by decide) ?_
      refine g_iconst h2 (z := 0) dL_find_25 ?_
      exact x_iret (u := (((y, u'), f') : HU)) (r := 0) h2 h4 rfl ⟨Nat.le_of_ble_eq_true rfl, Nat.le_of_ble_eq_true rfl⟩ dL_find_26 ⟨⟨rfl, rfl⟩, hci, hT.symm, fun _ => ⟨r, hf, ⟨hr, VE.of_eq (cV_cm hcm)⟩⟩, fun h => absurd hT h⟩)
abbrev rm_L_vote : Room := { frames := 7, cells := 1, slots := 6, locals := 122 }
theorem lk_L_vote_c29 : Cond.classLink RL 29 "java/lang/IndexOutOfBoundsException" ∈ wsL_vote := List.mem_of_getElem? (i := 1) (by decide +kernel)
set_option maxRecDepth 100000 in
set_option maxHeartbeats 4000000 in
theorem s_L_vote {l : Launch} {qo : Nat} {co : ClassId} (y : LT) (σ : CS) (fo : Nat → Int64) (p : Int) (hp : CI σ) (hs : in32 p) : lMet l yL_vote wsL_vote rm_L_vote y.2.2 (HW qo co) rkI [.ref (y.1 0 0 0), .int (iZ p), .ref qo] ((y, σ), fo) (hQ y σ (tVote (cV σ) p) (fun r V => r = (vLet (cV σ) p (vLen (cV σ))) ∧ VE V (cV σ))) :=
  lMet.of (maxL := 4) (hh := [(0, 9, 12, 29)]) (by decide +kernel) rfl (Nat.le_of_ble_eq_true rfl) (fun K h1 h2 h3 h4 h5 h6 h7 h8 => by
    show G K (Sep (CL y σ) (OUT qo co fo)) (0, 0) _ 0 []
    refine g_aload_n h2 2 dL_vote_0 rfl rfl ?_
    refine g_iconst h2 (z := 0) dL_vote_1 ?_
    refine g_aload_n h2 0 dL_vote_2 rfl rfl ?_
    refine g_iload_n h2 1 dL_vote_3 rfl rfl ?_
    refine s_callH h2 h5 h6 (s_X4_vote K.l y σ p ⟨hp, hs⟩) (ci := 5) (q := (RX4, TX4, 10)) rfl (c_recv rfl ⟨rfl, rfl⟩) (fun ht => cwV 1 ht gL_vote_X4_vote rfl rfl rfl (by decide +kernel) ⟨Nat.le_of_ble_eq_true rfl, Nat.le_of_ble_eq_true rfl⟩) rfl rfl (Nat.le_of_ble_eq_true rfl) ⟨Nat.le_of_ble_eq_true rfl, Nat.le_of_ble_eq_true rfl⟩ dL_vote_4 (fun E u' hx => ?_) (fun r u' hq => ?_)
    · obtain ⟨hx, hci, hcm⟩ := hx
      rcases hx with ⟨hT, rfl⟩ | ⟨hT, rfl⟩ | ⟨hT, rfl⟩
      · refine ⟨12, kct.on h8 (kct.here rfl (by decide) (h2.2.2.2.2.1 _ lk_L_vote_c29) (va_Nw.use rfl (h5.2.2.2.1 (eIO, eIO) (by simp [cCasts, eIO])))), fun q9 => ?_⟩
        refine g_astore_n h2 (loc' := [(3, .ref q9), (0, .ref (y.1 0 0 0)), (1, .int (iZ p)), (2, .ref qo)]) h3 dL_vote_12 rfl (by decide) rfl ?_
        refine g_iconst h2 (z := 1) dL_vote_13 ?_
        exact x_iret (u := (((y, u'), fo) : HU)) (r := 1) h2 h4 rfl ⟨Nat.le_of_ble_eq_true rfl, Nat.le_of_ble_eq_true rfl⟩ dL_vote_14 ⟨⟨rfl, rfl⟩, hci, hT.symm, fun h => absurd (hT.symm.trans h) (by decide), fun _ => cV_cm hcm⟩
      · exact absurd hT (by unfold tVote; first | exact t_no3 | (repeat' split <;> decide))
      · exact absurd hT (by unfold tVote; first | exact t_no3 | (repeat' split <;> decide))
    · obtain ⟨hT, hr, hci, hcm⟩ := hq
      refine s_i2l h2 dL_vote_7 ?_
      refine o_last h2 dL_vote_8 (fun f' hf => ?_)
      refine g_goto h2 (tgt := 15) dL_vote_9 (by decide) ?_
      refine g_iconst h2 (z := 0) dL_vote_15 ?_
      exact x_iret (u := (((y, u'), f') : HU)) (r := 0) h2 h4 rfl ⟨Nat.le_of_ble_eq_true rfl, Nat.le_of_ble_eq_true rfl⟩ dL_vote_16 ⟨⟨rfl, rfl⟩, hci, hT.symm, fun _ => ⟨r, hf, ⟨hr, VE.of_eq (cV_cm hcm)⟩⟩, fun h => absurd hT h⟩)
abbrev rm_L_voteDistance : Room := { frames := 8, cells := 1, slots := 6, locals := 143 }
theorem lk_L_voteDistance_c29 : Cond.classLink RL 29 "java/lang/IndexOutOfBoundsException" ∈ wsL_voteDistance := List.mem_of_getElem? (i := 1) (by decide +kernel)
set_option maxRecDepth 100000 in
set_option maxHeartbeats 4000000 in
theorem s_L_voteDistance {l : Launch} {qo : Nat} {co : ClassId} (y : LT) (σ : CS) (fo : Nat → Int64) (m : Int) (hp : CI σ) (hs : in32 m) : lMet l yL_voteDistance wsL_voteDistance rm_L_voteDistance y.2.2 (HW qo co) rkI [.ref (y.1 0 0 0), .int (iZ m), .ref qo] ((y, σ), fo) (hQ y σ (tOne (cV σ) m) (fun r V => r = (levW (vVote (cV σ)) (vTx (cV σ) m)) ∧ VE V (cV σ))) :=
  lMet.of (maxL := 4) (hh := [(0, 9, 12, 29)]) (by decide +kernel) rfl (Nat.le_of_ble_eq_true rfl) (fun K h1 h2 h3 h4 h5 h6 h7 h8 => by
    show G K (Sep (CL y σ) (OUT qo co fo)) (0, 0) _ 0 []
    refine g_aload_n h2 2 dL_voteDistance_0 rfl rfl ?_
    refine g_iconst h2 (z := 0) dL_voteDistance_1 ?_
    refine g_aload_n h2 0 dL_voteDistance_2 rfl rfl ?_
    refine g_iload_n h2 1 dL_voteDistance_3 rfl rfl ?_
    refine s_callH h2 h5 h6 (s_X4_voteDistance K.l y σ m ⟨hp, hs⟩) (ci := 5) (q := (RX4, TX4, 10)) rfl (c_recv rfl ⟨rfl, rfl⟩) (fun ht => cwV 1 ht gL_voteDistance_X4_voteDistance rfl rfl rfl (by decide +kernel) ⟨Nat.le_of_ble_eq_true rfl, Nat.le_of_ble_eq_true rfl⟩) rfl rfl (Nat.le_of_ble_eq_true rfl) ⟨Nat.le_of_ble_eq_true rfl, Nat.le_of_ble_eq_true rfl⟩ dL_voteDistance_4 (fun E u' hx => ?_) (fun r u' hq => ?_)
    · obtain ⟨hx, hci, hcm⟩ := hx
      rcases hx with ⟨hT, rfl⟩ | ⟨hT, rfl⟩ | ⟨hT, rfl⟩
      · refine ⟨12, kct.on h8 (kct.here rfl (by decide) (h2.2.2.2.2.1 _ lk_L_voteDistance_c29) (va_Nw.use rfl (h5.2.2.2.1 (eIO, eIO) (by simp [cCasts, eIO])))), fun q9 => ?_⟩
        refine g_astore_n h2 (loc' := [(3, .ref q9), (0, .ref (y.1 0 0 0)), (1, .int (iZ m)), (2, .ref qo)]) h3 dL_voteDistance_12 rfl (by decide) rfl ?_
        refine g_iconst h2 (z := 1) dL_voteDistance_13 ?_
        exact x_iret (u := (((y, u'), fo) : HU)) (r := 1) h2 h4 rfl ⟨Nat.le_of_ble_eq_true rfl, Nat.le_of_ble_eq_true rfl⟩ dL_voteDistance_14 ⟨⟨rfl, rfl⟩, hci, hT.symm, fun h => absurd (hT.symm.trans h) (by decide), fun _ => cV_cm hcm⟩
      · exact absurd hT (by unfold tOne; first | exact t_no3 | (repeat' split <;> decide))
      · exact absurd hT (by unfold tOne; first | exact t_no3 | (repeat' split <;> decide))
    · obtain ⟨hT, hr, hci, hcm⟩ := hq
      refine s_i2l h2 dL_voteDistance_7 ?_
      refine o_last h2 dL_voteDistance_8 (fun f' hf => ?_)
      refine g_goto h2 (tgt := 15) dL_voteDistance_9 (by decide) ?_
      refine g_iconst h2 (z := 0) dL_voteDistance_15 ?_
      exact x_iret (u := (((y, u'), f') : HU)) (r := 0) h2 h4 rfl ⟨Nat.le_of_ble_eq_true rfl, Nat.le_of_ble_eq_true rfl⟩ dL_voteDistance_16 ⟨⟨rfl, rfl⟩, hci, hT.symm, fun _ => ⟨r, hf, ⟨hr, VE.of_eq (cV_cm hcm)⟩⟩, fun h => absurd hT h⟩)
abbrev rm_L_trial : Room := { frames := 8, cells := 3, slots := 18, locals := 147 }
theorem lk_L_trial_c29 : Cond.classLink RL 29 "java/lang/IndexOutOfBoundsException" ∈ wsL_trial := List.mem_of_getElem? (i := 1) (by decide +kernel)
theorem lk_L_trial_c19 : Cond.classLink RL 19 "java/lang/IllegalArgumentException" ∈ wsL_trial := List.mem_of_getElem? (i := 2) (by decide +kernel)
theorem lk_L_trial_c13 : Cond.classLink RL 13 "java/lang/IllegalStateException" ∈ wsL_trial := List.mem_of_getElem? (i := 3) (by decide +kernel)
set_option maxRecDepth 100000 in
set_option maxHeartbeats 4000000 in
theorem s_L_trial {l : Launch} {qo : Nat} {co : ClassId} (y : LT) (σ : CS) (fo : Nat → Int64) (m s t w : Int) (hp : CI σ) (hs : in32 m ∧ in32 s ∧ in32 t ∧ in32 w) : lMet l yL_trial wsL_trial rm_L_trial y.2.2 (HW qo co) rkI [.ref (y.1 0 0 0), .int (iZ m), .int (iZ s), .int (iZ t), .int (iZ w), .ref qo] ((y, σ), fo) (hQ y σ (tTrial (cV σ) m s t w) (fun r V => r = (vTrialA (cV σ) m s t w) ∧ VE V (cV σ))) :=
  lMet.of (maxL := 7) (hh := [(0, 14, 17, 29), (0, 14, 21, 19), (0, 14, 25, 13)]) (by decide +kernel) rfl (Nat.le_of_ble_eq_true rfl) (fun K h1 h2 h3 h4 h5 h6 h7 h8 => by
    show G K (Sep (CL y σ) (OUT qo co fo)) (0, 0) _ 0 []
    refine g_aload h2 5 dL_trial_0 rfl ?_
    refine g_iconst h2 (z := 0) dL_trial_2 ?_
    refine g_aload_n h2 0 dL_trial_3 rfl rfl ?_
    refine g_iload_n h2 1 dL_trial_4 rfl rfl ?_
    refine g_iload_n h2 2 dL_trial_5 rfl rfl ?_
    refine g_iload_n h2 3 dL_trial_6 rfl rfl ?_
    refine g_iload h2 4 dL_trial_7 rfl ?_
    refine s_callH h2 h5 h6 (s_X4_trial K.l y σ m s t w ⟨hp, hs⟩) (ci := 5) (q := (RX4, TX4, 10)) rfl (c_recv rfl ⟨rfl, rfl⟩) (fun ht => cwV 4 ht gL_trial_X4_trial rfl rfl rfl (by decide +kernel) ⟨Nat.le_of_ble_eq_true rfl, Nat.le_of_ble_eq_true rfl⟩) rfl rfl (Nat.le_of_ble_eq_true rfl) ⟨Nat.le_of_ble_eq_true rfl, Nat.le_of_ble_eq_true rfl⟩ dL_trial_9 (fun E u' hx => ?_) (fun r u' hq => ?_)
    · obtain ⟨hx, hci, hcm⟩ := hx
      rcases hx with ⟨hT, rfl⟩ | ⟨hT, rfl⟩ | ⟨hT, rfl⟩
      · refine ⟨17, kct.on h8 (kct.here rfl (by decide) (h2.2.2.2.2.1 _ lk_L_trial_c29) (va_Nw.use rfl (h5.2.2.2.1 (eIO, eIO) (by simp [cCasts, eIO])))), fun q9 => ?_⟩
        refine g_astore h2 (loc' := [(6, .ref q9), (0, .ref (y.1 0 0 0)), (1, .int (iZ m)), (2, .int (iZ s)), (3, .int (iZ t)), (4, .int (iZ w)), (5, .ref qo)]) h3 dL_trial_17 (by decide) rfl ?_
        refine g_iconst h2 (z := 1) dL_trial_19 ?_
        exact x_iret (u := (((y, u'), fo) : HU)) (r := 1) h2 h4 rfl ⟨Nat.le_of_ble_eq_true rfl, Nat.le_of_ble_eq_true rfl⟩ dL_trial_20 ⟨⟨rfl, rfl⟩, hci, hT.symm, fun h => absurd (hT.symm.trans h) (by decide), fun _ => cV_cm hcm⟩
      · refine ⟨21, kct.on h8 (kct.next (by decide) (h2.2.2.2.2.1 _ lk_L_trial_c29) (h7 (eIA, eIO) (by simp [cNots, eIA, eIO])) (kct.here rfl (by decide) (h2.2.2.2.2.1 _ lk_L_trial_c19) (va_Nw.use rfl (h5.2.2.2.1 (eIA, eIA) (by simp [cCasts, eIA]))))), fun q9 => ?_⟩
        refine g_astore h2 (loc' := [(6, .ref q9), (0, .ref (y.1 0 0 0)), (1, .int (iZ m)), (2, .int (iZ s)), (3, .int (iZ t)), (4, .int (iZ w)), (5, .ref qo)]) h3 dL_trial_21 (by decide) rfl ?_
        refine g_iconst h2 (z := 2) dL_trial_23 ?_
        exact x_iret (u := (((y, u'), fo) : HU)) (r := 2) h2 h4 rfl ⟨Nat.le_of_ble_eq_true rfl, Nat.le_of_ble_eq_true rfl⟩ dL_trial_24 ⟨⟨rfl, rfl⟩, hci, hT.symm, fun h => absurd (hT.symm.trans h) (by decide), fun _ => cV_cm hcm⟩
      · refine ⟨25, kct.on h8 (kct.next (by decide) (h2.2.2.2.2.1 _ lk_L_trial_c29) (h7 (eIS, eIO) (by simp [cNots, eIS, eIO])) (kct.next (by decide) (h2.2.2.2.2.1 _ lk_L_trial_c19) (h7 (eIS, eIA) (by simp [cNots, eIS, eIA])) (kct.here rfl (by decide) (h2.2.2.2.2.1 _ lk_L_trial_c13) (va_Nw.use rfl (h5.2.2.2.1 (eIS, eIS) (by simp [cCasts, eIS])))))), fun q9 => ?_⟩
        refine g_astore h2 (loc' := [(6, .ref q9), (0, .ref (y.1 0 0 0)), (1, .int (iZ m)), (2, .int (iZ s)), (3, .int (iZ t)), (4, .int (iZ w)), (5, .ref qo)]) h3 dL_trial_25 (by decide) rfl ?_
        refine g_iconst h2 (z := 3) dL_trial_27 ?_
        exact x_iret (u := (((y, u'), fo) : HU)) (r := 3) h2 h4 rfl ⟨Nat.le_of_ble_eq_true rfl, Nat.le_of_ble_eq_true rfl⟩ dL_trial_28 ⟨⟨rfl, rfl⟩, hci, hT.symm, fun h => absurd (hT.symm.trans h) (by decide), fun _ => cV_cm hcm⟩
    · obtain ⟨hT, hr, hci, hcm⟩ := hq
      refine s_i2l h2 dL_trial_12 ?_
      refine o_last h2 dL_trial_13 (fun f' hf => ?_)
      refine g_goto h2 (tgt := 29) dL_trial_14 (by decide) ?_
      refine g_iconst h2 (z := 0) dL_trial_29 ?_
      exact x_iret (u := (((y, u'), f') : HU)) (r := 0) h2 h4 rfl ⟨Nat.le_of_ble_eq_true rfl, Nat.le_of_ble_eq_true rfl⟩ dL_trial_30 ⟨⟨rfl, rfl⟩, hci, hT.symm, fun _ => ⟨r, hf, ⟨hr, VE.of_eq (cV_cm hcm)⟩⟩, fun h => absurd hT h⟩)
abbrev rm_L_advise : Room := { frames := 8, cells := 2, slots := 12, locals := 147 }
theorem lk_L_advise_c29 : Cond.classLink RL 29 "java/lang/IndexOutOfBoundsException" ∈ wsL_advise := List.mem_of_getElem? (i := 1) (by decide +kernel)
theorem lk_L_advise_c13 : Cond.classLink RL 13 "java/lang/IllegalStateException" ∈ wsL_advise := List.mem_of_getElem? (i := 2) (by decide +kernel)
set_option maxRecDepth 100000 in
set_option maxHeartbeats 4000000 in
theorem s_L_advise {l : Launch} {qo : Nat} {co : ClassId} (y : LT) (σ : CS) (fo : Nat → Int64) (m : Int) (hp : CI σ) (hs : in32 m) : lMet l yL_advise wsL_advise rm_L_advise y.2.2 (HW qo co) rkI [.ref (y.1 0 0 0), .int (iZ m), .ref qo] ((y, σ), fo) (hQ y σ (tAdvise (cV σ) m) (fun r V => r = (vAdvise (cV σ) m) ∧ VE V (cV σ))) :=
  lMet.of (maxL := 4) (hh := [(0, 9, 12, 29), (0, 9, 15, 13)]) (by decide +kernel) rfl (Nat.le_of_ble_eq_true rfl) (fun K h1 h2 h3 h4 h5 h6 h7 h8 => by
    show G K (Sep (CL y σ) (OUT qo co fo)) (0, 0) _ 0 []
    refine g_aload_n h2 2 dL_advise_0 rfl rfl ?_
    refine g_iconst h2 (z := 0) dL_advise_1 ?_
    refine g_aload_n h2 0 dL_advise_2 rfl rfl ?_
    refine g_iload_n h2 1 dL_advise_3 rfl rfl ?_
    refine s_callH h2 h5 h6 (s_X4_advise K.l y σ m ⟨hp, hs⟩) (ci := 5) (q := (RX4, TX4, 10)) rfl (c_recv rfl ⟨rfl, rfl⟩) (fun ht => cwV 1 ht gL_advise_X4_advise rfl rfl rfl (by decide +kernel) ⟨Nat.le_of_ble_eq_true rfl, Nat.le_of_ble_eq_true rfl⟩) rfl rfl (Nat.le_of_ble_eq_true rfl) ⟨Nat.le_of_ble_eq_true rfl, Nat.le_of_ble_eq_true rfl⟩ dL_advise_4 (fun E u' hx => ?_) (fun r u' hq => ?_)
    · obtain ⟨hx, hci, hcm⟩ := hx
      rcases hx with ⟨hT, rfl⟩ | ⟨hT, rfl⟩ | ⟨hT, rfl⟩
      · refine ⟨12, kct.on h8 (kct.here rfl (by decide) (h2.2.2.2.2.1 _ lk_L_advise_c29) (va_Nw.use rfl (h5.2.2.2.1 (eIO, eIO) (by simp [cCasts, eIO])))), fun q9 => ?_⟩
        refine g_astore_n h2 (loc' := [(3, .ref q9), (0, .ref (y.1 0 0 0)), (1, .int (iZ m)), (2, .ref qo)]) h3 dL_advise_12 rfl (by decide) rfl ?_
        refine g_iconst h2 (z := 1) dL_advise_13 ?_
        exact x_iret (u := (((y, u'), fo) : HU)) (r := 1) h2 h4 rfl ⟨Nat.le_of_ble_eq_true rfl, Nat.le_of_ble_eq_true rfl⟩ dL_advise_14 ⟨⟨rfl, rfl⟩, hci, hT.symm, fun h => absurd (hT.symm.trans h) (by decide), fun _ => cV_cm hcm⟩
      · refine ⟨15, kct.on h8 (kct.next (by decide) (h2.2.2.2.2.1 _ lk_L_advise_c29) (h7 (eIS, eIO) (by simp [cNots, eIS, eIO])) (kct.here rfl (by decide) (h2.2.2.2.2.1 _ lk_L_advise_c13) (va_Nw.use rfl (h5.2.2.2.1 (eIS, eIS) (by simp [cCasts, eIS]))))), fun q9 => ?_⟩
        refine g_astore_n h2 (loc' := [(3, .ref q9), (0, .ref (y.1 0 0 0)), (1, .int (iZ m)), (2, .ref qo)]) h3 dL_advise_15 rfl (by decide) rfl ?_
        refine g_iconst h2 (z := 2) dL_advise_16 ?_
        exact x_iret (u := (((y, u'), fo) : HU)) (r := 2) h2 h4 rfl ⟨Nat.le_of_ble_eq_true rfl, Nat.le_of_ble_eq_true rfl⟩ dL_advise_17 ⟨⟨rfl, rfl⟩, hci, hT.symm, fun h => absurd (hT.symm.trans h) (by decide), fun _ => cV_cm hcm⟩
      · exact absurd hT (by unfold tAdvise; first | exact t_no3 | (repeat' split <;> decide))
    · obtain ⟨hT, hr, hci, hcm⟩ := hq
      refine s_i2l h2 dL_advise_7 ?_
      refine o_last h2 dL_advise_8 (fun f' hf => ?_)
      refine g_goto h2 (tgt := 18) dL_advise_9 (by decide) ?_
      refine g_iconst h2 (z := 0) dL_advise_18 ?_
      exact x_iret (u := (((y, u'), f') : HU)) (r := 0) h2 h4 rfl ⟨Nat.le_of_ble_eq_true rfl, Nat.le_of_ble_eq_true rfl⟩ dL_advise_19 ⟨⟨rfl, rfl⟩, hci, hT.symm, fun _ => ⟨r, hf, ⟨hr, VE.of_eq (cV_cm hcm)⟩⟩, fun h => absurd hT h⟩)
