/-! THE JDK'S LISTS IN THE HOUSE'S WORLD: size, get -/
theorem va_aldO {p : Program} {l : Launch} {e : Env} {R : Room} {s : State} {m : MethodId} {args : Array Value} {below : List Frame} {meth : Method} {c : Code} {H : Heap} {locs : List Loc} {cells slots : Nat} {Q : State → Prop} {cc : ByteArray} {pc : Nat} {ls : Array Slot} {rest : List Value} {D : va_G} {cl : List vw_C} {ws : va_W} {tys : List (ClassId × FieldType)} {a : Nat} (hexec : p.tables.exec = Jvm.exec) (hb : c.code = cc) (hK : va_K D cl tys s) (hP : va_P D cl ws H) (q0 t0 : Nat) {cA : ClassId} {t : String} {n : Nat} {f : Nat → Option Nat} (ha : ws[q0]? = some (a, .inl (cA, n, .inr (.inr (.inr (.inr f)))))) (ht : tys[t0]? = some (cA, .object t)) {i : Int32} (hin : vp_in i n) (hdg : decode cc pc = .ok (.aaload, 1))
    (kk : W p l e R s m args below meth c H locs cells slots Q (F0 m (pc + 1) ls (va_rf (f i.toNatClampNeg) :: rest))) : W p l e R s m args below meth c H locs cells slots Q (F0 m pc ls (.int i :: .ref a :: rest)) := by
  have hlt : i.toNatClampNeg < n := Nat.not_le.mp fun q => hin (Or.inr q)
  exact W.aald (v := va_rf (f i.toNatClampNeg)) (ty := .object t) hexec hb (hP q0 _ ha) ((hK.2 t0 _ ht).1 n (fun j => va_rf (f j))) rfl (fun q => by cases q) (by show ¬ (i < 0 ∨ (arrV _ _ _).slots.size ≤ _); rw [arrV_size]; exact hin) (by show (arrV _ _ _).slots[_]? = _; rw [arrV_read _ _ hlt]) rfl rfl hdg kk
section LISTS
variable {K : KT} {cc : ByteArray} {own : String} {Ts : List Cond} {ret : Option FieldType} {R : Room} {n : Nat × Nat} {loc : List (Nat × Value)} {pc : Nat} {st : List Value} {y : LT} {σ : CS}
theorem c_aald (C : kOK K cc own Ts ret R) {κ N b : Nat} {i j e : Int} {f : Nat → Option Nat} {t : String} (hcell : cCell y σ κ i j = .inl (y.2.1 κ i j, N, .inr (.inr (.inr (.inr f))))) (hty : cArr κ = some (.object t)) (hd : decode cc pc = .ok (.aaload, 1)) (hdom : cDom σ κ i j) (hN : N < 2147483648) (hi : 0 ≤ e ∧ e < N) (hf : f e.toNat = some b) (h : G K (CL y σ) n loc (pc + 1) (.ref b :: st)) : G K (CL y σ) n loc pc (.int (iZ e) :: .ref (y.1 κ i j) :: st) := by
  intro ws tys H locs arr hW hK hP hD hS hl2
  obtain ⟨q0, hq⟩ := List.getElem?_of_mem (hW.1 κ i j hdom)
  obtain ⟨t0, ht⟩ := List.getElem?_of_mem (hW.2.1 κ i j _ hdom hty)
  have he : (iZ e).toNatClampNeg = e.toNat := by have := iZ_cl hi.1 (show e < 2147483648 by omega); omega
  rw [hcell] at hq
  refine va_aldO C.1 C.2.1 hK hP q0 t0 hq ht (iZ_in hi.1 hi.2 hN) hd ?_
  rw [he, hf]
  exact h ws tys H locs arr hW hK hP hD hS hl2
end LISTS
abbrev QAL : vw_C := (RJx4a65c, TJx4a65c, 3)
theorem inAL_size : ∀ w ∈ wsJx4a65c0, w ∈ wsJx4a65c_size_8abf5 := by decide +kernel
theorem inAL_get : ∀ w ∈ wsJx4a65c0, w ∈ wsJx4a65c_get_915e3 := by decide +kernel
theorem inAL_ed : ∀ w ∈ wsJx4a65c0, w ∈ wsJx4a65c_elementData_915e3 := by decide +kernel
/-- a list of the world: its cell, and the row behind it -/
def lCell (y : LT) (σ : CS) (κ : Nat) (i sz : Int) : Prop := ∃ (a : Int32) (b : Nat), cCell y σ κ i 0 = .inr (0, [.int a, .ref b, .int (iZ sz)]) ∧ cDom σ κ i 0
theorem l_size {l : Launch} {y : LT} {σ : CS} {κ : Nat} {i sz : Int} (h : lCell y σ κ i sz) : cMet l yJx4a65c_size_8abf5 wsJx4a65c_size_8abf5 { frames := 0, cells := 0, slots := 0, locals := 0 } y.2.2 (CL y) rkI [.ref (y.1 κ i 0)] σ (fun r σ' => r = sz ∧ σ' = σ) :=
  cMet.of (maxL := 1) (by decide +kernel) rfl (Nat.le_of_ble_eq_true rfl) (fun K h1 h2 h3 h4 h5 h6 _ => by
    obtain ⟨a, b, hc, hd⟩ := h
    refine g_aload_n h2 0 dJx4a65c_size_8abf5_0 rfl rfl ?_
    refine c_get h2 (ci := 0) (q := QAL) hc rfl inAL_size 2 (by decide) (v := .int (iZ sz)) rfl (List.mem_of_getElem? (i := 1) rfl) rfl dJx4a65c_size_8abf5_1 hd ?_
    exact x_iret h2 h4 rfl ⟨Nat.le_of_ble_eq_true rfl, Nat.le_of_ble_eq_true rfl⟩ dJx4a65c_size_8abf5_4 ⟨rfl, rfl⟩)
abbrev rm_chk3 : Room := { frames := 0, cells := 0, slots := 0, locals := 0 }
theorem l_chk3 {l : Launch} {y : LT} {σ : CS} {e sz : Int} (h : (0 ≤ e ∧ e < sz) ∧ sz < 2147483648) : cMet l yJ3_checkIndex_8e157 wsJ3_checkIndex_8e157 rm_chk3 y.2.2 (CL y) rkI [.int (iZ e), .int (iZ sz), .null] σ (fun r σ' => r = e ∧ σ' = σ) :=
  cMet.of (maxL := 3) (by decide +kernel) rfl (Nat.le_of_ble_eq_true rfl) (fun K h1 h2 h3 h4 h5 h6 _ => by
    refine g_iload_n h2 0 dJ3_checkIndex_8e157_0 rfl rfl ?_
    refine g_if_lt h2 (tgt := 9) dJ3_checkIndex_8e157_1 (by decide) (by omega) (fun hc => absurd hc (by omega)) (fun hc => ?_)
    refine g_iload_n h2 0 dJ3_checkIndex_8e157_4 rfl rfl ?_
    refine g_iload_n h2 1 dJ3_checkIndex_8e157_5 rfl rfl ?_
    refine g_icmp_lt h2 (tgt := 16) dJ3_checkIndex_8e157_6 (by decide) (by omega) (by omega) (fun hc => ?_) (fun hc => absurd h.1.2 hc)
    refine g_iload_n h2 0 dJ3_checkIndex_8e157_16 rfl rfl ?_
    exact x_iret h2 h4 rfl ⟨Nat.le_of_ble_eq_true rfl, Nat.le_of_ble_eq_true rfl⟩ dJ3_checkIndex_8e157_17 ⟨rfl, rfl⟩)
abbrev rm_chk15 : Room := { frames := 1, cells := 0, slots := 0, locals := 22 }
theorem g_nullV {K : KT} {cc : ByteArray} {own : String} {Ts : List Cond} {ret : Option FieldType} {R : Room} {n : Nat × Nat} {loc : List (Nat × Value)} {pc : Nat} {st : List Value} {Wd : WdT} (C : kOK K cc own Ts ret R) (hd : decode cc pc = .ok (.aconst_null, 1)) (k : G K Wd n loc (pc + 1) (.null :: st)) : G K Wd n loc pc st :=
  fun ws tys H locs arr a b c d e f => lv_null C.1 C.2.1 hd (k ws tys H locs arr a b c d e f)
theorem l_chk15 {l : Launch} {y : LT} {σ : CS} {e sz : Int} (h : (0 ≤ e ∧ e < sz) ∧ sz < 2147483648) : cMet l yJ15_checkIndex_7cf53 wsJ15_checkIndex_7cf53 rm_chk15 y.2.2 (CL y) rkI [.int (iZ e), .int (iZ sz)] σ (fun r σ' => r = e ∧ σ' = σ) :=
  cMet.of (maxL := 2) (by decide +kernel) rfl (Nat.le_of_ble_eq_true rfl) (fun K h1 h2 h3 h4 h5 h6 _ => by
    refine g_iload_n h2 0 dJ15_checkIndex_7cf53_0 rfl rfl ?_
    refine g_iload_n h2 1 dJ15_checkIndex_7cf53_1 rfl rfl ?_
    refine g_nullV h2 dJ15_checkIndex_7cf53_2 ?_
    refine c_callS h2 h5 h6 (l_chk3 h) (fun ht => va_cwS 3 ht gJ15_checkIndex_7cf53_J3_checkIndex_8e157 rfl rfl rfl (by decide +kernel) ⟨Nat.le_of_ble_eq_true rfl, Nat.le_of_ble_eq_true rfl⟩) rfl rfl (Nat.le_of_ble_eq_true rfl) ⟨Nat.le_of_ble_eq_true rfl, Nat.le_of_ble_eq_true rfl⟩ dJ15_checkIndex_7cf53_3 (fun r σ9 hq => ?_)
    rw [hq.1, hq.2]
    exact x_iret h2 h4 rfl ⟨Nat.le_of_ble_eq_true rfl, Nat.le_of_ble_eq_true rfl⟩ dJ15_checkIndex_7cf53_6 ⟨rfl, rfl⟩)
/-- what stands at a list's place -/
def lAt (y : LT) (σ : CS) (κ : Nat) (i sz e : Int) (b : Nat) : Prop := ∃ (a : Int32) (N : Nat) (f : Nat → Option Nat), cCell y σ κ i 0 = .inr (0, [.int a, .ref (y.1 (κ + 1) i 0), .int (iZ sz)]) ∧ cDom σ κ i 0 ∧ cCell y σ (κ + 1) i 0 = .inl (y.2.1 (κ + 1) i 0, N, .inr (.inr (.inr (.inr f)))) ∧ cDom σ (κ + 1) i 0 ∧ cArr (κ + 1) = some (.object "java/lang/Object") ∧ N < 2147483648 ∧ (0 ≤ e ∧ e < N) ∧ f e.toNat = some b
abbrev rm_ed : Room := { frames := 0, cells := 0, slots := 0, locals := 0 }
theorem l_ed {l : Launch} {y : LT} {σ : CS} {κ : Nat} {i sz e r0 : Int} {b : Nat} {rk : CS → Int → Option Value} (h : lAt y σ κ i sz e b) (hr : rk σ r0 = some (.ref b)) : cMet l yJx4a65c_elementData_915e3 wsJx4a65c_elementData_915e3 rm_ed y.2.2 (CL y) rk [.ref (y.1 κ i 0), .int (iZ e)] σ (fun r σ' => r = r0 ∧ σ' = σ) :=
  cMet.of (maxL := 2) (by decide +kernel) rfl (Nat.le_of_ble_eq_true rfl) (fun K h1 h2 h3 h4 h5 h6 _ => by
    obtain ⟨a, N, f, hc, hd, hc2, hd2, ha, hN, he, hf⟩ := h
    refine g_aload_n h2 0 dJx4a65c_elementData_915e3_0 rfl rfl ?_
    refine c_get h2 (ci := 0) (q := QAL) hc rfl inAL_ed 1 (by decide) (v := .ref (y.1 (κ + 1) i 0)) rfl (List.mem_of_getElem? (i := 1) rfl) rfl dJx4a65c_elementData_915e3_1 hd ?_
    refine g_iload_n h2 1 dJx4a65c_elementData_915e3_4 rfl rfl ?_
    refine c_aald h2 hc2 ha dJx4a65c_elementData_915e3_5 hd2 hN he hf ?_
    exact x_aret h2 h4 rfl (Or.inl ⟨_, rfl⟩) (Or.inr ⟨_, rfl⟩) (r := r0) hr ⟨Nat.le_of_ble_eq_true rfl, Nat.le_of_ble_eq_true rfl⟩ dJx4a65c_elementData_915e3_6 ⟨rfl, rfl⟩)
theorem l_get {l : Launch} {y : LT} {σ : CS} {κ : Nat} {i sz e r0 : Int} {b : Nat} {rk : CS → Int → Option Value} (h : lAt y σ κ i sz e b) (hs : e < sz ∧ sz < 2147483648) (hr : rk σ r0 = some (.ref b)) : cMet l yJx4a65c_get_915e3 wsJx4a65c_get_915e3 { frames := 2, cells := 0, slots := 0, locals := 46 } y.2.2 (CL y) rk [.ref (y.1 κ i 0), .int (iZ e)] σ (fun r σ' => r = r0 ∧ σ' = σ) :=
  cMet.of (maxL := 2) (by decide +kernel) rfl (Nat.le_of_ble_eq_true rfl) (fun K h1 h2 h3 h4 h5 h6 _ => by
    have h0 := h
    obtain ⟨a, N, f, hc, hd, hc2, hd2, ha, hN, he, hf⟩ := h
    refine g_iload_n h2 1 dJx4a65c_get_915e3_0 rfl rfl ?_
    refine g_aload_n h2 0 dJx4a65c_get_915e3_1 rfl rfl ?_
    refine c_get h2 (ci := 0) (q := QAL) hc rfl inAL_get 2 (by decide) (v := .int (iZ sz)) rfl (List.mem_of_getElem? (i := 1) rfl) rfl dJx4a65c_get_915e3_2 hd ?_
    refine c_callS h2 h5 h6 (l_chk15 (e := e) (sz := sz) ⟨⟨he.1, hs.1⟩, hs.2⟩) (fun ht => va_cwS 2 ht gJx4a65c_get_915e3_J15_checkIndex_7cf53 rfl rfl rfl (by decide +kernel) ⟨Nat.le_of_ble_eq_true rfl, Nat.le_of_ble_eq_true rfl⟩) rfl rfl (Nat.le_of_ble_eq_true rfl) ⟨Nat.le_of_ble_eq_true rfl, Nat.le_of_ble_eq_true rfl⟩ dJx4a65c_get_915e3_5 (fun r σ9 hq => ?_)
    rw [hq.1, hq.2]
    refine g_pop h2 rfl dJx4a65c_get_915e3_8 ?_
    refine g_aload_n h2 0 dJx4a65c_get_915e3_9 rfl rfl ?_
    refine g_iload_n h2 1 dJx4a65c_get_915e3_10 rfl rfl ?_
    refine c_callV h2 h5 h6 (l_ed h0 hr) (ci := 0) (q := QAL) rfl (c_recv hc hd) (fun ht => cwV 1 ht gJx4a65c_get_915e3_Jx4a65c_elementData_915e3 rfl rfl rfl (by decide +kernel) ⟨Nat.le_of_ble_eq_true rfl, Nat.le_of_ble_eq_true rfl⟩) rfl rfl (Nat.le_of_ble_eq_true rfl) ⟨Nat.le_of_ble_eq_true rfl, Nat.le_of_ble_eq_true rfl⟩ dJx4a65c_get_915e3_11 (fun r σ9 hq => ?_)
    rw [hq.1, hq.2, hr]
    exact x_aret h2 h4 rfl (Or.inl ⟨_, rfl⟩) (Or.inr ⟨_, rfl⟩) (r := r0) hr ⟨Nat.le_of_ble_eq_true rfl, Nat.le_of_ble_eq_true rfl⟩ dJx4a65c_get_915e3_14 ⟨rfl, rfl⟩)
