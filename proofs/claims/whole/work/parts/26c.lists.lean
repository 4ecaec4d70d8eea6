/-! THE LISTS GROW -/
def rkR {S : Type} : S → Int → Option Value := fun _ r => some (.ref r.toNat)
theorem zShr1 {e : Int} (h : 0 ≤ e ∧ e < 2147483648) : zShr e 1 = e / 2 := by
  obtain ⟨n, rfl⟩ := Int.eq_ofNat_of_zero_le h.1
  unfold zShr
  have e1 : iZ (n : Int) = nI n := Int32.ofInt_eq_ofNat
  rw [e1, pk_shrN (by omega) _ 1 (by decide), nI_toInt (by omega)]
  omega
/-- contracts that know the object of the class of arrays of objects -/
def cMetM {S : Type} (mi : Nat) (l : Launch) (y : MethodName) (wds : List Cond) (rm : Room) (emp : Nat) (Wd : S → WdT) (rk : S → Int → Option Value) (av : List Value) (u : S) (post : Int → S → Prop) : Prop :=
  l.stackTraces = false → ∀ (D : va_G) (ws : va_W) (tys : TysT) (sz : Nat), Wd u ws tys → Met l y wds rm (fun v U => cPc emp D av ws tys sz v U ∧ va_Mi "[Ljava/lang/Object;" mi U) (xQ D Wd rk post (va_A ws sz)) rm.cells rm.slots (va_A ws sz)
theorem cMetM.of {S : Type} {mi : Nat} {l : Launch} {y : MethodName} {wds ws' : List Cond} {rm : Room} {emp : Nat} {Wd : S → WdT} {rk : S → Int → Option Value} {av : List Value} {u : S} {post : Int → S → Prop} {cc : ByteArray} {maxL : Nat} {ret : Option FieldType}
    (hy : plainName y.cls = true) (hw : wds = Cond.code y cc maxL ret :: ws') (hav : (lg_sl av).length ≤ maxL)
    (body : ∀ K : KT, K.l = l → kOK K cc y.cls wds ret rm → K.nL = maxL → kQ K Wd rk post rm → SF emp K.A K.s K.s.heap → K.l.stackTraces = false → va_Mi "[Ljava/lang/Object;" mi K.s → G K (Wd u) (0, 0) (lv_args 0 av) 0 []) : cMetM mi l y wds rm emp Wd rk av u post := by
  intro hst D ws tys sz hW
  refine Met.ofW (cc := cc) (maxL := maxL) (ret := ret) hy hw ?_
  intro p e s m args below meth c s₁ B hml hv
  obtain ⟨⟨rfl, hsz, hP, hK, hD0, hF⟩, hM⟩ := hv
  subst hsz
  have hl := lv_entry av hav
  rw [lg_entry_eq]
  exact body (p, l, e, rm, s, m, av.toArray, below, meth, c, MQ below (xQ D Wd rk post (va_A ws s.heap.size)) av.toArray s rm.cells rm.slots (va_A ws s.heap.size), D, va_A ws s.heap.size, maxL) rfl
    ⟨B.exec, B.bytes, hml, findClass_of_methodNamed B.named, atoms_spec (ws := wds) B.pre, B.returns, B.notSynchronized, rfl, fun q h => Or.inr h, hy⟩ rfl rfl hF hst hM
    ws tys s.heap [] _ hW hK hP hD0.self va_S.rf hl
theorem c_callSM {S : Type} {K : KT} {mi : Nat} {cc : ByteArray} {own : String} {Ts : List Cond} {ret ret' : Option FieldType} {R : Room} {Wd : S → WdT} {rk : S → Int → Option Value} {post : Int → S → Prop} {rm : Room} {n : Nat × Nat} {loc : List (Nat × Value)} {pc : Nat} {u : S} {y : MethodName} {wds : List Cond} {index maxL nargs emp : Nat} {bytes : ByteArray} {As rest : List Value} (C : kOK K cc own Ts ret R) (hF : SF emp K.A K.s K.s.heap) (hst : K.l.stackTraces = false) (hMi : va_Mi "[Ljava/lang/Object;" mi K.s) (hM : cMetM mi K.l y wds rm emp Wd rk As u post)
    (cw : (∀ w ∈ Ts, w.before K.args K.s = true) → CallB R K.s K.args own index y bytes maxL ret' wds rm rm.cells rm.slots nargs ∧ (Cond.static y).before K.args K.s = true) (hn : As.length = nargs) {stk : List Value} (hstk : stk = As.reverse ++ rest) (hr8 : (rest.map fun v => v.category).sum ≤ 8) (hf : n.1 + rm.cells ≤ R.cells ∧ n.2 + rm.slots ≤ R.slots) (hd : decode cc pc = .ok (.invokestatic index, 3))
    (kk : ∀ (r : Int) (u' : S), post r u' → G K (Wd u') (n.1 + rm.cells, n.2 + rm.slots) loc (pc + 3) ((rk u' r).toList ++ rest)) : G K (Wd u) n loc pc stk := by
  intro ws tys H locs arr hW hK hP hD hS hl
  obtain ⟨c1, c2, c3, c4, c5, c6, c7, c8, c9, c10⟩ := C
  subst hstk c8
  have hr := va_runS (e := K.e) (below := K.below) (meth := K.meth) (H := H) (locs := locs) (cells := n.1) (slots := n.2) (g := F0 K.m pc arr (As.reverse ++ rest)) (rest := rest) (As := As) ⟨c1, c2, c3, c4, c5⟩ (hM hst K.D ws tys H.size hW) (cw c5) ⟨fun a U g mk q => ⟨cPc_blind emp K.D _ ws tys H.size a U g mk q.1, va_Mi.moved (u := U) (U := U.calling g mk a) (Vm.Alike.refl U.vm) q.2⟩, fun U hU hw => ⟨c_pre hF c9 hK hP hD hS U hU hw, va_Mi.moved hw.alike hMi⟩⟩ rfl hn hl.1 rfl (lv_room (ls := arr) (m := K.m) (pc := pc) hr8) hd hf
  exact x_back hD hS c9 hl hr kk
theorem va_cpy0 {f : Nat → Option Nat} {N : Nat} (hf : ∀ k, N ≤ k → f k = none) : va_cpy f (fun _ => none) 0 0 N = f := funext fun k => by
  by_cases h : k < N
  · rw [pk_cpy_in (by omega) (by omega)]
    rw [show 0 + (k - 0) = k from by omega]
  · rw [pk_cpy_out (by omega), hf k (by omega)]
abbrev rm_nl : Room := { frames := 1, cells := 0, slots := 0, locals := 40 }
theorem lk_nl_mm : Cond.methodLink RJ8 194 Lib.Math.max.name ∈ wsJ8_newLength_cabcc := List.mem_of_getElem? (i := 1) (by decide +kernel)
theorem lk_nl_ms : Cond.static Lib.Math.max.name ∈ wsJ8_newLength_cabcc := List.mem_of_getElem? (i := 2) (by decide +kernel)
theorem lk_nl_mi : Cond.initialized "java/lang/Math" ∈ wsJ8_newLength_cabcc := List.mem_of_getElem? (i := 3) (by decide +kernel)
theorem lk_nl_mc : Cond.code Lib.Math.max.name Lib.Math.max.code 2 (some .int) ∈ wsJ8_newLength_cabcc := List.mem_of_getElem? (i := 4) (by decide +kernel)
theorem lk_nl_k200 : Cond.constant RJ8 200 (2147483639) ∈ wsJ8_newLength_cabcc := List.mem_of_getElem? (i := 5) (by decide +kernel)
set_option maxRecDepth 100000 in
set_option maxHeartbeats 4000000 in
theorem s_nl {l : Launch} {emp : Nat} {mp : Nat → Option va_E} {ty : ClassId → FieldType → Prop} {e p : Int} (he : 0 ≤ e ∧ e ≤ 1000) (hp : 0 ≤ p ∧ p ≤ 1000) : cMet l yJ8_newLength_cabcc wsJ8_newLength_cabcc rm_nl emp FW rkI [.int (iZ e), .int (iZ 1), .int (iZ p)] (mp, ty) (fun r u' => r = e + (if 1 < p then p else 1) ∧ u' = (mp, ty)) :=
  cMet.of (maxL := 4) (by decide +kernel) rfl (Nat.le_of_ble_eq_true rfl) (fun K h1 h2 h3 h4 h5 h6 h7 => by
    refine g_iload_n h2 0 dJ8_newLength_cabcc_0 rfl rfl ?_
    refine g_iload_n h2 1 dJ8_newLength_cabcc_1 rfl rfl ?_
    refine g_iload_n h2 2 dJ8_newLength_cabcc_2 rfl rfl ?_
    refine g_max h2 (x := 1) (y := p) (by decide) (by omega) lk_nl_mm lk_nl_ms lk_nl_mi lk_nl_mc (Nat.le_of_ble_eq_true rfl) (Nat.le_of_ble_eq_true rfl) ⟨Nat.le_of_ble_eq_true rfl, Nat.le_of_ble_eq_true rfl⟩ dJ8_newLength_cabcc_3 ?_
    refine g_iadd h2 (x := e) (y := if 1 < p then p else 1) dJ8_newLength_cabcc_6 ?_
    refine g_istore_n h2 (loc' := [(3, .int (iZ (e + (if 1 < p then p else 1)))), (0, .int (iZ e)), (1, .int (iZ 1)), (2, .int (iZ p))]) h3 dJ8_newLength_cabcc_7 rfl (by decide) rfl ?_
    refine g_iconst h2 (z := 0) dJ8_newLength_cabcc_8 ?_
    refine g_iload_n h2 0 dJ8_newLength_cabcc_9 rfl rfl ?_
    refine g_icmp_ge h2 (tgt := 21) dJ8_newLength_cabcc_10 (by decide) (by decide) (by split <;> omega) (fun hc => absurd hc (by split <;> omega)) (fun hc => ?_)
    refine g_iload_n h2 0 dJ8_newLength_cabcc_13 rfl rfl ?_
    refine f_ldc h2 (z := 2147483639) (by decide) lk_nl_k200 dJ8_newLength_cabcc_14 ?_
    refine g_icmp_gt h2 (tgt := 21) dJ8_newLength_cabcc_16 (by decide) (by split <;> omega) (by decide) (fun hc => absurd hc (by split <;> omega)) (fun hc => ?_)
    refine g_iload_n h2 0 dJ8_newLength_cabcc_19 rfl rfl ?_
    exact x_iret h2 h4 rfl ⟨Nat.le_of_ble_eq_true rfl, Nat.le_of_ble_eq_true rfl⟩ dJ8_newLength_cabcc_20 ⟨rfl, rfl⟩)

abbrev rm_cpo : Room := { frames := 1, cells := 1, slots := 40, locals := 60 }
theorem lk_cpo_cl110 : Cond.classLink RJ7 110 "[Ljava/lang/Object;" ∈ wsJ7_copyOf_6403c := List.mem_of_getElem? (i := 1) (by decide +kernel)
theorem lk_cpo_cl2 : Cond.classLink RJ7 2 "java/lang/Object" ∈ wsJ7_copyOf_6403c := List.mem_of_getElem? (i := 2) (by decide +kernel)
theorem lk_cpo_mm : Cond.methodLink RJ7 304 Lib.Math.min.name ∈ wsJ7_copyOf_6403c := List.mem_of_getElem? (i := 3) (by decide +kernel)
theorem lk_cpo_ms : Cond.static Lib.Math.min.name ∈ wsJ7_copyOf_6403c := List.mem_of_getElem? (i := 4) (by decide +kernel)
theorem lk_cpo_mi : Cond.initialized "java/lang/Math" ∈ wsJ7_copyOf_6403c := List.mem_of_getElem? (i := 5) (by decide +kernel)
theorem lk_cpo_mc : Cond.code Lib.Math.min.name Lib.Math.min.code 2 (some .int) ∈ wsJ7_copyOf_6403c := List.mem_of_getElem? (i := 6) (by decide +kernel)
theorem lk_cpo_ac : Cond.methodLink RJ7 150 arraycopyName ∈ wsJ7_copyOf_6403c := List.mem_of_getElem? (i := 7) (by decide +kernel)
theorem lk_cpo_acn : Cond.native arraycopyName ∈ wsJ7_copyOf_6403c := List.mem_of_getElem? (i := 8) (by decide +kernel)
theorem lk_cpo_acs : Cond.static arraycopyName ∈ wsJ7_copyOf_6403c := List.mem_of_getElem? (i := 9) (by decide +kernel)
theorem lk_cpo_aci : Cond.initialized "java/lang/System" ∈ wsJ7_copyOf_6403c := List.mem_of_getElem? (i := 10) (by decide +kernel)
set_option maxRecDepth 100000 in
set_option maxHeartbeats 4000000 in
theorem s_cpo {l : Launch} {emp : Nat} {mp : Nat → Option va_E} {ty : ClassId → FieldType → Prop} {w mi N M : Nat} {cw : ClassId} {f : Nat → Option Nat} (hw : mp w = some (refsE cw N f)) (htw : ty cw tObj) (hNM : N ≤ M ∧ M ≤ 40) {ci : Nat} {q : vw_C} (hcl : vwCl[ci]? = some q) (hcc : (q.1, "java/lang/Object") ∈ cCasts) (hel : ∀ i b, f i = some b → ∃ vs, mp b = some (.inr (ci, vs))) (hf : ∀ k, N ≤ k → f k = none) : cMetM mi l yJ7_copyOf_6403c wsJ7_copyOf_6403c rm_cpo emp FW rkR [.ref w, .int (iZ (M : Int)), .ref mi] (mp, ty) (fun r u' => ∃ (p : Nat) (cp : ClassId), mp p = none ∧ r = (p : Int) ∧ u' = (fU mp p (refsE cp M f), fY ty cp tObj)) :=
  cMetM.of (maxL := 4) (by decide +kernel) rfl (Nat.le_of_ble_eq_true rfl) (fun K h1 h2 h3 h4 h5 h6 h7 => by
    refine g_aload_n h2 2 dJ7_copyOf_6403c_0 rfl rfl ?_
    refine f_ldcM h2 h7 lk_cpo_cl110 dJ7_copyOf_6403c_1 ?_
    refine f_acmp_ne h2 (tgt := 13) dJ7_copyOf_6403c_3 (by decide) ?_
    refine g_iload_n h2 1 dJ7_copyOf_6403c_6 rfl rfl ?_
    refine f_newq h2 h5 40 lk_cpo_cl2 ⟨by omega, by omega⟩ (by decide) ⟨Nat.le_of_ble_eq_true rfl, Nat.le_of_ble_eq_true rfl⟩ dJ7_copyOf_6403c_7 (fun p cp hp => ?_)
    rw [show (M : Int).toNat = M from rfl]
    have ne := f_ne hw hp
    refine g_goto h2 (tgt := 24) dJ7_copyOf_6403c_10 (by decide) ?_
    refine g_astore_n h2 (loc' := [(3, .ref p), (0, .ref w), (1, .int (iZ ((M : Int)))), (2, .ref mi)]) h3 dJ7_copyOf_6403c_24 rfl (by decide) rfl ?_
    refine g_aload_n h2 1 dJ7_copyOf_6403c_25 rfl rfl ?_
    refine g_iconst h2 (z := 0) dJ7_copyOf_6403c_26 ?_
    refine g_aload_n h2 0 dJ7_copyOf_6403c_27 rfl rfl ?_
    refine g_iconst h2 (z := 0) dJ7_copyOf_6403c_28 ?_
    refine g_aload_n h2 1 dJ7_copyOf_6403c_29 rfl rfl ?_
    refine f_alen h2 (N := N) ((fU_n _ _ ne).trans hw) (fY_o htw) dJ7_copyOf_6403c_30 ?_
    refine g_iload_n h2 2 dJ7_copyOf_6403c_31 rfl rfl ?_
    refine g_min h2 (x := (N : Int)) (y := (M : Int)) (by omega) (by omega) lk_cpo_mm lk_cpo_ms lk_cpo_mi lk_cpo_mc (Nat.le_of_ble_eq_true rfl) (Nat.le_of_ble_eq_true rfl) ⟨Nat.le_of_ble_eq_true rfl, Nat.le_of_ble_eq_true rfl⟩ dJ7_copyOf_6403c_32 ?_
    rw [if_neg (show ¬ (M : Int) < (N : Int) by omega)]
    refine f_copyq h2 h5 ci (N0 := N) (N1 := M) (f := f) (g := fun _ => none) (sp := 0) (dp := 0) (k := (N : Int)) ((fU_n _ _ ne).trans hw) (fU_s _ _ _) (fY_o htw) (fY_s _ _ _) hcl hcc ⟨by decide, by decide, by omega, by omega, by omega⟩ ⟨by omega, by omega⟩ (fun i hi b hb => ?_) lk_cpo_ac lk_cpo_acn lk_cpo_acs lk_cpo_aci (Nat.le_of_ble_eq_true rfl) (Nat.le_of_ble_eq_true (by decide +kernel)) dJ7_copyOf_6403c_35 ?_
    · obtain ⟨vs, hv⟩ := hel _ b hb
      exact ⟨vs, (fU_n _ _ (f_ne hv hp)).trans hv⟩
    rw [fU_fU, show (0 : Int).toNat = 0 from rfl, show (N : Int).toNat = N from rfl, va_cpy0 hf]
    refine g_aload_n h2 0 dJ7_copyOf_6403c_38 rfl rfl ?_
    exact x_aret h2 h4 rfl (Or.inr ⟨_, rfl⟩) (Or.inr ⟨_, rfl⟩) (r := (p : Int)) rfl ⟨Nat.le_of_ble_eq_true rfl, Nat.le_of_ble_eq_true rfl⟩ dJ7_copyOf_6403c_39 ⟨p, cp, hp, rfl, rfl⟩)

abbrev rm_cpt : Room := { frames := 2, cells := 1, slots := 40, locals := 83 }
theorem lk_cpt_gm : Cond.methodLink RJ7 86 ⟨"java/lang/Object", "getClass", "()Ljava/lang/Class;"⟩ ∈ wsJ7_copyOf_1904c := List.mem_of_getElem? (i := 1) (by decide +kernel)
theorem lk_cpt_gs : Cond.selects "[Ljava/lang/Object;" ⟨"java/lang/Object", "getClass", "()Ljava/lang/Class;"⟩ ⟨"java/lang/Object", "getClass", "()Ljava/lang/Class;"⟩ ∈ wsJ7_copyOf_1904c := List.mem_of_getElem? (i := 2) (by decide +kernel)
theorem lk_cpt_gi : Cond.instanceMethod ⟨"java/lang/Object", "getClass", "()Ljava/lang/Class;"⟩ ∈ wsJ7_copyOf_1904c := List.mem_of_getElem? (i := 3) (by decide +kernel)
theorem lk_cpt_gn : Cond.native ⟨"java/lang/Object", "getClass", "()Ljava/lang/Class;"⟩ ∈ wsJ7_copyOf_1904c := List.mem_of_getElem? (i := 4) (by decide +kernel)
set_option maxRecDepth 100000 in
set_option maxHeartbeats 4000000 in
theorem s_cpt {l : Launch} {emp : Nat} {mp : Nat → Option va_E} {ty : ClassId → FieldType → Prop} {w N M : Nat} {cw : ClassId} {f : Nat → Option Nat} (hw : mp w = some (refsE cw N f)) (htw : ty cw tObj) (hNM : N ≤ M ∧ M ≤ 40) {ci : Nat} {q : vw_C} (hcl : vwCl[ci]? = some q) (hcc : (q.1, "java/lang/Object") ∈ cCasts) (hel : ∀ i b, f i = some b → ∃ vs, mp b = some (.inr (ci, vs))) (hf : ∀ k, N ≤ k → f k = none) : cMet l yJ7_copyOf_1904c wsJ7_copyOf_1904c rm_cpt emp FW rkR [.ref w, .int (iZ (M : Int))] (mp, ty) (fun r u' => ∃ (p : Nat) (cp : ClassId), mp p = none ∧ r = (p : Int) ∧ u' = (fU mp p (refsE cp M f), fY ty cp tObj)) :=
  cMet.of (maxL := 2) (by decide +kernel) rfl (Nat.le_of_ble_eq_true rfl) (fun K h1 h2 h3 h4 h5 h6 h7 => by
    obtain ⟨mi, hmi⟩ := h5.2.2.2.2.2.2.2.2.1
    refine g_aload_n h2 0 dJ7_copyOf_1904c_0 rfl rfl ?_
    refine g_iload_n h2 1 dJ7_copyOf_1904c_1 rfl rfl ?_
    refine g_aload_n h2 0 dJ7_copyOf_1904c_2 rfl rfl ?_
    refine f_getC h2 h5 hmi hw htw lk_cpt_gm lk_cpt_gs lk_cpt_gi lk_cpt_gn (Nat.le_of_ble_eq_true rfl) (Nat.le_of_ble_eq_true rfl) dJ7_copyOf_1904c_3 ?_
    refine c_callSM h2 h5 h6 hmi (s_cpo (mp := mp) (ty := ty) (mi := mi) hw htw hNM hcl hcc hel hf) (fun ht => va_cwS 3 ht gJ7_copyOf_1904c_J7_copyOf_6403c rfl rfl rfl (by decide +kernel) ⟨Nat.le_of_ble_eq_true rfl, Nat.le_of_ble_eq_true rfl⟩) rfl rfl (Nat.le_of_ble_eq_true rfl) ⟨Nat.le_of_ble_eq_true rfl, Nat.le_of_ble_eq_true rfl⟩ dJ7_copyOf_1904c_6 (fun r u' hq => ?_)
    obtain ⟨p, cp, hp, rfl, rfl⟩ := hq
    show G K (FW (fU mp p (refsE cp M f), fY ty cp tObj)) (1, 40) [(0, .ref w), (1, .int (iZ ((M : Int))))] 9 [.ref p]
    exact x_aret h2 h4 rfl (Or.inr ⟨_, rfl⟩) (Or.inr ⟨_, rfl⟩) (r := (p : Int)) rfl ⟨Nat.le_of_ble_eq_true rfl, Nat.le_of_ble_eq_true rfl⟩ dJ7_copyOf_1904c_9 ⟨p, cp, hp, rfl, rfl⟩)

abbrev rm_gr : Room := { frames := 3, cells := 1, slots := 40, locals := 104 }
set_option maxRecDepth 20000 in
theorem in_gr_AL : ∀ w ∈ wsJx4a65c0, w ∈ wsJx4a65c_grow_92f84 := by decide +kernel
theorem lk_gr_f9 : Cond.fieldLink RJx4a65c 9 "java/util/ArrayList" "elementData" "[Ljava/lang/Object;" ∈ wsJx4a65c_grow_92f84 := List.mem_of_getElem? (i := 1) (by decide +kernel)
theorem lk_gr_gs : Cond.fieldLink RJx4a65c 39 "java/util/ArrayList" "DEFAULTCAPACITY_EMPTY_ELEMENTDATA" "[Ljava/lang/Object;" ∈ wsJx4a65c_grow_92f84 := List.mem_of_getElem? (i := 2) (by decide +kernel)
theorem lk_gr_mm : Cond.methodLink RJx4a65c 79 Lib.Math.max.name ∈ wsJx4a65c_grow_92f84 := List.mem_of_getElem? (i := 3) (by decide +kernel)
theorem lk_gr_ms : Cond.static Lib.Math.max.name ∈ wsJx4a65c_grow_92f84 := List.mem_of_getElem? (i := 4) (by decide +kernel)
theorem lk_gr_mi : Cond.initialized "java/lang/Math" ∈ wsJx4a65c_grow_92f84 := List.mem_of_getElem? (i := 5) (by decide +kernel)
theorem lk_gr_mc : Cond.code Lib.Math.max.name Lib.Math.max.code 2 (some .int) ∈ wsJx4a65c_grow_92f84 := List.mem_of_getElem? (i := 6) (by decide +kernel)
theorem lk_gr_cl7 : Cond.classLink RJx4a65c 7 "java/lang/Object" ∈ wsJx4a65c_grow_92f84 := List.mem_of_getElem? (i := 7) (by decide +kernel)
set_option maxRecDepth 100000 in
set_option maxHeartbeats 4000000 in
theorem s_gr {l : Launch} {emp : Nat} {mp : Nat → Option va_E} {ty : ClassId → FieldType → Prop} {a row N : Nat} {mc : Int} {f : Nat → Option Nat} (ha : mp a = some (.inr (0, [.int (iZ mc), .ref row, .int (iZ (N : Int))]))) (hrow : (N = 0 ∧ row = emp) ∨ (0 < N ∧ ∃ cR, mp row = some (refsE cR N f) ∧ ty cR tObj)) (hN : N ≤ 24) {ci : Nat} {q : vw_C} (hcl : vwCl[ci]? = some q) (hcc : (q.1, "java/lang/Object") ∈ cCasts) (hel : ∀ i b, f i = some b → ∃ vs, mp b = some (.inr (ci, vs))) (hf : ∀ k, N ≤ k → f k = none) : cMet l yJx4a65c_grow_92f84 wsJx4a65c_grow_92f84 rm_gr emp FW rkR [.ref a, .int (iZ ((N : Int) + 1))] (mp, ty) (fun r u' => ∃ (p : Nat) (cp : ClassId) (M : Nat), mp p = none ∧ N + 1 ≤ M ∧ M ≤ 40 ∧ r = (p : Int) ∧ u' = (fU (fU mp p (refsE cp M f)) a (.inr (0, [.int (iZ mc), .ref p, .int (iZ (N : Int))])), fY ty cp tObj)) :=
  cMet.of (maxL := 4) (by decide +kernel) rfl (Nat.le_of_ble_eq_true rfl) (fun K h1 h2 h3 h4 h5 h6 h7 => by
    refine g_aload_n h2 0 dJx4a65c_grow_92f84_0 rfl rfl ?_
    refine f_get h2 (ci := 0) (q := (RJx4a65c, TJx4a65c, 3)) ha rfl in_gr_AL 1 (by decide) (v := .ref row) rfl lk_gr_f9 (Or.inl rfl) dJx4a65c_grow_92f84_1 ?_
    rcases hrow with ⟨hN00, rfl⟩ | ⟨hN0, cR, hrow, htR⟩
    · refine f_elen h2 h5 dJx4a65c_grow_92f84_4 ?_
      refine g_istore_n h2 (loc' := [(2, .int (iZ 0)), (0, .ref a), (1, .int (iZ ((N : Int) + 1)))]) h3 dJx4a65c_grow_92f84_5 rfl (by decide) rfl ?_
      refine g_iload_n h2 0 dJx4a65c_grow_92f84_6 rfl rfl ?_
      refine g_if_gt h2 (tgt := 20) dJx4a65c_grow_92f84_7 (by decide) (by decide) (fun hc => absurd hc (by decide)) (fun hc => ?_)
      refine g_aload_n h2 1 dJx4a65c_grow_92f84_10 rfl rfl ?_
      refine f_get h2 (ci := 0) (q := (RJx4a65c, TJx4a65c, 3)) ha rfl in_gr_AL 1 (by decide) (v := .ref row) rfl lk_gr_f9 (Or.inl rfl) dJx4a65c_grow_92f84_11 ?_
      refine f_getsE h2 h5 lk_gr_gs dJx4a65c_grow_92f84_14 ?_
      refine f_acmp_eq h2 (tgt := 45) dJx4a65c_grow_92f84_17 (by decide) ?_
      refine g_aload_n h2 1 dJx4a65c_grow_92f84_45 rfl rfl ?_
      refine g_bipush h2 (z := 10) dJx4a65c_grow_92f84_46 (by decide) ?_
      refine g_iload_n h2 2 dJx4a65c_grow_92f84_48 rfl rfl ?_
      refine g_max h2 (x := 10) (y := (N : Int) + 1) (by decide) (by omega) lk_gr_mm lk_gr_ms lk_gr_mi lk_gr_mc (Nat.le_of_ble_eq_true rfl) (Nat.le_of_ble_eq_true rfl) ⟨Nat.le_of_ble_eq_true rfl, Nat.le_of_ble_eq_true rfl⟩ dJx4a65c_grow_92f84_49 ?_
      rw [if_neg (show ¬ (10 : Int) < (N : Int) + 1 by omega)]
      refine f_newq h2 h5 40 lk_gr_cl7 ⟨by decide, by decide⟩ (by decide) ⟨Nat.le_of_ble_eq_true rfl, Nat.le_of_ble_eq_true rfl⟩ dJx4a65c_grow_92f84_52 (fun p cp hp => ?_)
      have ne := f_ne ha hp
      have hff : f = fun _ => none := funext fun k => hf k (by omega)
      rw [show (10 : Int).toNat = 10 from rfl, ← hff]
      refine g_dup_x1 h2 rfl rfl dJx4a65c_grow_92f84_55 ?_
      refine f_put h2 (mp' := fU (fU mp p (refsE cp 10 f)) a (.inr (0, [.int (iZ mc), .ref p, .int (iZ (N : Int))]))) (ci := 0) (q := (RJx4a65c, TJx4a65c, 3)) ((fU_n _ _ ne).trans ha) rfl in_gr_AL tyJx4a65c tyJx4a65c_ok nmJx4a65c 1 (by decide) (Nat.le_of_ble_eq_true rfl) (v := .ref p) (vt := (.array (.object "java/lang/Object"))) lk_gr_f9 (Or.inl rfl) (Or.inl rfl) rfl rfl rfl rfl dJx4a65c_grow_92f84_56 ?_
      exact x_aret h2 h4 rfl (Or.inr ⟨_, rfl⟩) (Or.inr ⟨_, rfl⟩) (r := (p : Int)) rfl ⟨Nat.le_of_ble_eq_true rfl, Nat.le_of_ble_eq_true rfl⟩ dJx4a65c_grow_92f84_59 ⟨p, cp, 10, hp, by omega, by omega, rfl, rfl⟩
    · refine f_alen h2 (N := N) hrow htR dJx4a65c_grow_92f84_4 ?_
      refine g_istore_n h2 (loc' := [(2, .int (iZ ((N : Int)))), (0, .ref a), (1, .int (iZ ((N : Int) + 1)))]) h3 dJx4a65c_grow_92f84_5 rfl (by decide) rfl ?_
      refine g_iload_n h2 0 dJx4a65c_grow_92f84_6 rfl rfl ?_
      refine g_if_gt h2 (tgt := 20) dJx4a65c_grow_92f84_7 (by decide) (by omega) (fun hc => ?_) (fun hc => absurd hc (by omega))
      refine g_iload_n h2 0 dJx4a65c_grow_92f84_20 rfl rfl ?_
      refine g_iload_n h2 2 dJx4a65c_grow_92f84_21 rfl rfl ?_
      refine g_iload_n h2 0 dJx4a65c_grow_92f84_22 rfl rfl ?_
      refine g_isub h2 (x := (N : Int) + 1) (y := (N : Int)) dJx4a65c_grow_92f84_23 ?_
      refine g_iload_n h2 0 dJx4a65c_grow_92f84_24 rfl rfl ?_
      refine g_iconst h2 (z := 1) dJx4a65c_grow_92f84_25 ?_
      rw [show ((N : Int) + 1) - (N : Int) = 1 from by omega]
      refine g_ishr h2 (x := (N : Int)) (y := 1) dJx4a65c_grow_92f84_26 ?_
      rw [zShr1 (by omega)]
      refine c_callS h2 h5 h6 (s_nl (mp := mp) (ty := ty) (e := (N : Int)) (p := (N : Int) / 2) (by omega) (by omega)) (fun ht => va_cwS 3 ht gJx4a65c_grow_92f84_J8_newLength_cabcc rfl rfl rfl (by decide +kernel) ⟨Nat.le_of_ble_eq_true rfl, Nat.le_of_ble_eq_true rfl⟩) rfl rfl (Nat.le_of_ble_eq_true rfl) ⟨Nat.le_of_ble_eq_true rfl, Nat.le_of_ble_eq_true rfl⟩ dJx4a65c_grow_92f84_27 (fun r u' hq => ?_)
      obtain ⟨hr, rfl⟩ := hq
      obtain ⟨M, rfl⟩ : ∃ M : Nat, r = (M : Int) := ⟨r.toNat, by rw [hr]; split <;> omega⟩
      have hM : N + 1 ≤ M ∧ M ≤ 40 := by split at hr <;> omega
      show G K (FW (mp, ty)) (0, 0) [(2, .int (iZ ((N : Int)))), (0, .ref a), (1, .int (iZ ((N : Int) + 1)))] 30 [.int (iZ ((M : Int)))]
      refine g_istore_n h2 (loc' := [(3, .int (iZ ((M : Int)))), (2, .int (iZ ((N : Int)))), (0, .ref a), (1, .int (iZ ((N : Int) + 1)))]) h3 dJx4a65c_grow_92f84_30 rfl (by decide) rfl ?_
      refine g_aload_n h2 2 dJx4a65c_grow_92f84_31 rfl rfl ?_
      refine g_aload_n h2 2 dJx4a65c_grow_92f84_32 rfl rfl ?_
      refine f_get h2 (ci := 0) (q := (RJx4a65c, TJx4a65c, 3)) ha rfl in_gr_AL 1 (by decide) (v := .ref row) rfl lk_gr_f9 (Or.inl rfl) dJx4a65c_grow_92f84_33 ?_
      refine g_iload_n h2 0 dJx4a65c_grow_92f84_36 rfl rfl ?_
      refine c_callS h2 h5 h6 (s_cpt (mp := mp) (ty := ty) (M := M) hrow htR (by omega) hcl hcc hel hf) (fun ht => va_cwS 2 ht gJx4a65c_grow_92f84_J7_copyOf_1904c rfl rfl rfl (by decide +kernel) ⟨Nat.le_of_ble_eq_true rfl, Nat.le_of_ble_eq_true rfl⟩) rfl rfl (Nat.le_of_ble_eq_true rfl) ⟨Nat.le_of_ble_eq_true rfl, Nat.le_of_ble_eq_true rfl⟩ dJx4a65c_grow_92f84_37 (fun r u' hq => ?_)
      obtain ⟨p, cp, hp, rfl, rfl⟩ := hq
      have ne := f_ne ha hp
      show G K (FW (fU mp p (refsE cp M f), fY ty cp tObj)) (1, 40) [(3, .int (iZ ((M : Int)))), (2, .int (iZ ((N : Int)))), (0, .ref a), (1, .int (iZ ((N : Int) + 1)))] 40 [.ref p, .ref a]
      refine g_dup_x1 h2 rfl rfl dJx4a65c_grow_92f84_40 ?_
      refine f_put h2 (mp' := fU (fU mp p (refsE cp M f)) a (.inr (0, [.int (iZ mc), .ref p, .int (iZ (N : Int))]))) (ci := 0) (q := (RJx4a65c, TJx4a65c, 3)) ((fU_n _ _ ne).trans ha) rfl in_gr_AL tyJx4a65c tyJx4a65c_ok nmJx4a65c 1 (by decide) (Nat.le_of_ble_eq_true rfl) (v := .ref p) (vt := (.array (.object "java/lang/Object"))) lk_gr_f9 (Or.inl rfl) (Or.inl rfl) rfl rfl rfl rfl dJx4a65c_grow_92f84_41 ?_
      exact x_aret h2 h4 rfl (Or.inr ⟨_, rfl⟩) (Or.inr ⟨_, rfl⟩) (r := (p : Int)) rfl ⟨Nat.le_of_ble_eq_true rfl, Nat.le_of_ble_eq_true rfl⟩ dJx4a65c_grow_92f84_44 ⟨p, cp, M, hp, hM.1, hM.2, rfl, rfl⟩)

abbrev rm_gr2 : Room := { frames := 4, cells := 1, slots := 40, locals := 127 }
set_option maxRecDepth 20000 in
theorem in_gr2_AL : ∀ w ∈ wsJx4a65c0, w ∈ wsJx4a65c_grow_d5877 := by decide +kernel
theorem lk_gr2_f48 : Cond.fieldLink RJx4a65c 48 "java/util/ArrayList" "size" "I" ∈ wsJx4a65c_grow_d5877 := List.mem_of_getElem? (i := 1) (by decide +kernel)
set_option maxRecDepth 100000 in
set_option maxHeartbeats 4000000 in
theorem s_gr2 {l : Launch} {emp : Nat} {mp : Nat → Option va_E} {ty : ClassId → FieldType → Prop} {a row N : Nat} {mc : Int} {f : Nat → Option Nat} (ha : mp a = some (.inr (0, [.int (iZ mc), .ref row, .int (iZ (N : Int))]))) (hrow : (N = 0 ∧ row = emp) ∨ (0 < N ∧ ∃ cR, mp row = some (refsE cR N f) ∧ ty cR tObj)) (hN : N ≤ 24) {ci : Nat} {q : vw_C} (hcl : vwCl[ci]? = some q) (hcc : (q.1, "java/lang/Object") ∈ cCasts) (hel : ∀ i b, f i = some b → ∃ vs, mp b = some (.inr (ci, vs))) (hf : ∀ k, N ≤ k → f k = none) : cMet l yJx4a65c_grow_d5877 wsJx4a65c_grow_d5877 rm_gr2 emp FW rkR [.ref a] (mp, ty) (fun r u' => ∃ (p : Nat) (cp : ClassId) (M : Nat), mp p = none ∧ N + 1 ≤ M ∧ M ≤ 40 ∧ r = (p : Int) ∧ u' = (fU (fU mp p (refsE cp M f)) a (.inr (0, [.int (iZ mc), .ref p, .int (iZ (N : Int))])), fY ty cp tObj)) :=
  cMet.of (maxL := 1) (by decide +kernel) rfl (Nat.le_of_ble_eq_true rfl) (fun K h1 h2 h3 h4 h5 h6 h7 => by
    refine g_aload_n h2 0 dJx4a65c_grow_d5877_0 rfl rfl ?_
    refine g_aload_n h2 0 dJx4a65c_grow_d5877_1 rfl rfl ?_
    refine f_get h2 (ci := 0) (q := (RJx4a65c, TJx4a65c, 3)) ha rfl in_gr2_AL 2 (by decide) (v := .int (iZ ((N : Int)))) rfl lk_gr2_f48 (Or.inl rfl) dJx4a65c_grow_d5877_2 ?_
    refine g_iconst h2 (z := 1) dJx4a65c_grow_d5877_5 ?_
    refine g_iadd h2 (x := (N : Int)) (y := 1) dJx4a65c_grow_d5877_6 ?_
    refine c_callV h2 h5 h6 (s_gr (mp := mp) (ty := ty) (f := f) ha hrow hN hcl hcc hel hf) (ci := 0) (q := (RJx4a65c, TJx4a65c, 3)) rfl (f_recv ha) (fun ht => cwV 1 ht gJx4a65c_grow_d5877_Jx4a65c_grow_92f84 rfl rfl rfl (by decide +kernel) ⟨Nat.le_of_ble_eq_true rfl, Nat.le_of_ble_eq_true rfl⟩) rfl rfl (Nat.le_of_ble_eq_true rfl) ⟨Nat.le_of_ble_eq_true rfl, Nat.le_of_ble_eq_true rfl⟩ dJx4a65c_grow_d5877_7 (fun r u' hq => ?_)
    obtain ⟨p, cp, M, hp, h8, h9, rfl, rfl⟩ := hq
    show G K (FW (fU (fU mp p (refsE cp M f)) a (.inr (0, [.int (iZ mc), .ref p, .int (iZ (N : Int))])), fY ty cp tObj)) (1, 40) [(0, .ref a)] 10 [.ref p]
    exact x_aret h2 h4 rfl (Or.inr ⟨_, rfl⟩) (Or.inr ⟨_, rfl⟩) (r := (p : Int)) rfl ⟨Nat.le_of_ble_eq_true rfl, Nat.le_of_ble_eq_true rfl⟩ dJx4a65c_grow_d5877_10 ⟨p, cp, M, hp, h8, h9, rfl, rfl⟩)

abbrev rm_adp : Room := { frames := 5, cells := 1, slots := 40, locals := 147 }
set_option maxRecDepth 20000 in
theorem in_adp_AL : ∀ w ∈ wsJx4a65c0, w ∈ wsJx4a65c_add_72be8 := by decide +kernel
theorem lk_adp_f48 : Cond.fieldLink RJx4a65c 48 "java/util/ArrayList" "size" "I" ∈ wsJx4a65c_add_72be8 := List.mem_of_getElem? (i := 1) (by decide +kernel)
set_option maxRecDepth 100000 in
set_option maxHeartbeats 4000000 in
theorem s_adp {l : Launch} {emp : Nat} {mp : Nat → Option va_E} {ty : ClassId → FieldType → Prop} {a v row s N : Nat} {mc : Int} {f : Nat → Option Nat} {ci : Nat} {q : vw_C} {vs : List Value} (ha : mp a = some (.inr (0, [.int (iZ mc), .ref row, .int (iZ (s : Int))]))) (hrow : (N = 0 ∧ row = emp) ∨ (0 < N ∧ ∃ cR, mp row = some (refsE cR N f) ∧ ty cR tObj)) (hv : mp v = some (.inr (ci, vs))) (hva : v ≠ a) (hs : s ≤ N ∧ s ≤ 24 ∧ N ≤ 1000000) (hcl : vwCl[ci]? = some q) (hcc : (q.1, "java/lang/Object") ∈ cCasts) (hel : ∀ i b, f i = some b → ∃ vs, mp b = some (.inr (ci, vs))) (hf : ∀ k, s ≤ k → f k = none) : cMet l yJx4a65c_add_72be8 wsJx4a65c_add_72be8 rm_adp emp FW rkV [.ref a, .ref v, .ref row, .int (iZ (s : Int))] (mp, ty) (fun r u' => ∃ (p : Nat) (cp : ClassId) (M : Nat) (ty' : ClassId → FieldType → Prop), ((p = row ∧ 0 < N ∧ mp row = some (refsE cp N f) ∧ M = N ∧ ty' = ty) ∨ (mp p = none ∧ ty' = fY ty cp tObj)) ∧ s + 1 ≤ M ∧ M ≤ 1000000 ∧ r = 0 ∧ u' = (fU (fU mp p (refsE cp M (va_up f s (some v)))) a (.inr (0, [.int (iZ mc), .ref p, .int (iZ ((s : Int) + 1))])), ty')) :=
  cMet.of (maxL := 4) (by decide +kernel) rfl (Nat.le_of_ble_eq_true rfl) (fun K h1 h2 h3 h4 h5 h6 h7 => by
    refine g_iload_n h2 3 dJx4a65c_add_72be8_0 rfl rfl ?_
    refine g_aload_n h2 2 dJx4a65c_add_72be8_1 rfl rfl ?_
    rcases hrow with ⟨hN00, rfl⟩ | ⟨hN0, cR, hrow, htR⟩
    · refine f_elen h2 h5 dJx4a65c_add_72be8_2 ?_
      have hs0 : s = 0 := by omega
      refine g_icmp_ne h2 (tgt := 11) dJx4a65c_add_72be8_3 (by decide) (by omega) (by omega) (fun hc => absurd (show (s : Int) = 0 by omega) hc) (fun hc => ?_)
      refine g_aload_n h2 0 dJx4a65c_add_72be8_6 rfl rfl ?_
      refine c_callV h2 h5 h6 (s_gr2 (mp := mp) (ty := ty) (f := f) (N := s) (row := row) (mc := mc) ha (Or.inl ⟨hs0, rfl⟩) (by omega) hcl hcc hel (fun k hk => hf k (by omega))) (ci := 0) (q := (RJx4a65c, TJx4a65c, 3)) rfl (f_recv ha) (fun ht => cwV 0 ht gJx4a65c_add_72be8_Jx4a65c_grow_d5877 rfl rfl rfl (by decide +kernel) ⟨Nat.le_of_ble_eq_true rfl, Nat.le_of_ble_eq_true rfl⟩) rfl rfl (Nat.le_of_ble_eq_true rfl) ⟨Nat.le_of_ble_eq_true rfl, Nat.le_of_ble_eq_true rfl⟩ dJx4a65c_add_72be8_7 (fun r u' hq => ?_)
      obtain ⟨p, cp, M, hp, h8, h9, rfl, rfl⟩ := hq
      have ne := f_ne ha hp
      have ne2 := f_ne hv hp
      show G K (FW (fU (fU mp p (refsE cp M f)) a (.inr (0, [.int (iZ mc), .ref p, .int (iZ (s : Int))])), fY ty cp tObj)) (1, 40) [(0, .ref a), (1, .ref v), (2, .ref row), (3, .int (iZ ((s : Int))))] 10 [.ref p]
      refine g_astore_n h2 (loc' := [(2, .ref p), (0, .ref a), (1, .ref v), (3, .int (iZ ((s : Int))))]) h3 dJx4a65c_add_72be8_10 rfl (by decide) rfl ?_
      refine g_aload_n h2 0 dJx4a65c_add_72be8_11 rfl rfl ?_
      refine g_iload_n h2 3 dJx4a65c_add_72be8_12 rfl rfl ?_
      refine g_aload_n h2 2 dJx4a65c_add_72be8_13 rfl rfl ?_
      refine f_aast h2 h5 (N := M) (f := f) ((fU_n _ _ (Ne.symm ne)).trans (fU_s _ _ _)) (fY_s _ _ _) ((fU_n _ _ hva).trans ((fU_n _ _ ne2).trans hv)) hcl hcc (by omega) ⟨by omega, by omega⟩ dJx4a65c_add_72be8_14 ?_
      rw [show (s : Int).toNat = s from rfl]
      rw [fU_c _ _ _ ne, fU_fU]
      show G K (FW (fU (fU mp p (refsE cp M (va_up f s (some v)))) a (.inr (0, [.int (iZ mc), .ref p, .int (iZ (s : Int))])), fY ty cp tObj)) (1, 40) [(2, .ref p), (0, .ref a), (1, .ref v), (3, .int (iZ ((s : Int))))] 15 []
      refine g_aload_n h2 1 dJx4a65c_add_72be8_15 rfl rfl ?_
      refine g_iload_n h2 3 dJx4a65c_add_72be8_16 rfl rfl ?_
      refine g_iconst h2 (z := 1) dJx4a65c_add_72be8_17 ?_
      refine g_iadd h2 (x := (s : Int)) (y := 1) dJx4a65c_add_72be8_18 ?_
      refine f_put h2 (mp' := fU (fU mp p (refsE cp M (va_up f s (some v)))) a (.inr (0, [.int (iZ mc), .ref p, .int (iZ ((s : Int) + 1))]))) (ci := 0) (q := (RJx4a65c, TJx4a65c, 3)) (fU_s _ _ _) rfl in_adp_AL tyJx4a65c tyJx4a65c_ok nmJx4a65c 2 (by decide) (Nat.le_of_ble_eq_true rfl) (v := .int (iZ (((s : Int)) + 1))) (vt := .int) lk_adp_f48 (Or.inl rfl) (Or.inl rfl) rfl rfl rfl (fU_fU _ _ _ _) dJx4a65c_add_72be8_19 ?_
      exact x_vret h2 h4 rfl ⟨Nat.le_of_ble_eq_true rfl, Nat.le_of_ble_eq_true rfl⟩ dJx4a65c_add_72be8_22 ⟨p, cp, M, _, Or.inr ⟨hp, rfl⟩, h8, by omega, rfl, rfl⟩
    · refine f_alen h2 (N := N) hrow htR dJx4a65c_add_72be8_2 ?_
      by_cases hsN : s = N
      · refine g_icmp_ne h2 (tgt := 11) dJx4a65c_add_72be8_3 (by decide) (by omega) (by omega) (fun hc => absurd (show (s : Int) = (N : Int) by omega) hc) (fun hc => ?_)
        refine g_aload_n h2 0 dJx4a65c_add_72be8_6 rfl rfl ?_
        refine c_callV h2 h5 h6 (s_gr2 (mp := mp) (ty := ty) (f := f) (N := s) (row := row) (mc := mc) ha (Or.inr ⟨by omega, cR, by rw [hsN]; exact hrow, htR⟩) (by omega) hcl hcc hel (fun k hk => hf k (by omega))) (ci := 0) (q := (RJx4a65c, TJx4a65c, 3)) rfl (f_recv ha) (fun ht => cwV 0 ht gJx4a65c_add_72be8_Jx4a65c_grow_d5877 rfl rfl rfl (by decide +kernel) ⟨Nat.le_of_ble_eq_true rfl, Nat.le_of_ble_eq_true rfl⟩) rfl rfl (Nat.le_of_ble_eq_true rfl) ⟨Nat.le_of_ble_eq_true rfl, Nat.le_of_ble_eq_true rfl⟩ dJx4a65c_add_72be8_7 (fun r u' hq => ?_)
        obtain ⟨p, cp, M, hp, h8, h9, rfl, rfl⟩ := hq
        have ne := f_ne ha hp
        have ne2 := f_ne hv hp
        show G K (FW (fU (fU mp p (refsE cp M f)) a (.inr (0, [.int (iZ mc), .ref p, .int (iZ (s : Int))])), fY ty cp tObj)) (1, 40) [(0, .ref a), (1, .ref v), (2, .ref row), (3, .int (iZ ((s : Int))))] 10 [.ref p]
        refine g_astore_n h2 (loc' := [(2, .ref p), (0, .ref a), (1, .ref v), (3, .int (iZ ((s : Int))))]) h3 dJx4a65c_add_72be8_10 rfl (by decide) rfl ?_
        refine g_aload_n h2 0 dJx4a65c_add_72be8_11 rfl rfl ?_
        refine g_iload_n h2 3 dJx4a65c_add_72be8_12 rfl rfl ?_
        refine g_aload_n h2 2 dJx4a65c_add_72be8_13 rfl rfl ?_
        refine f_aast h2 h5 (N := M) (f := f) ((fU_n _ _ (Ne.symm ne)).trans (fU_s _ _ _)) (fY_s _ _ _) ((fU_n _ _ hva).trans ((fU_n _ _ ne2).trans hv)) hcl hcc (by omega) ⟨by omega, by omega⟩ dJx4a65c_add_72be8_14 ?_
        rw [show (s : Int).toNat = s from rfl]
        rw [fU_c _ _ _ ne, fU_fU]
        show G K (FW (fU (fU mp p (refsE cp M (va_up f s (some v)))) a (.inr (0, [.int (iZ mc), .ref p, .int (iZ (s : Int))])), fY ty cp tObj)) (1, 40) [(2, .ref p), (0, .ref a), (1, .ref v), (3, .int (iZ ((s : Int))))] 15 []
        refine g_aload_n h2 1 dJx4a65c_add_72be8_15 rfl rfl ?_
        refine g_iload_n h2 3 dJx4a65c_add_72be8_16 rfl rfl ?_
        refine g_iconst h2 (z := 1) dJx4a65c_add_72be8_17 ?_
        refine g_iadd h2 (x := (s : Int)) (y := 1) dJx4a65c_add_72be8_18 ?_
        refine f_put h2 (mp' := fU (fU mp p (refsE cp M (va_up f s (some v)))) a (.inr (0, [.int (iZ mc), .ref p, .int (iZ ((s : Int) + 1))]))) (ci := 0) (q := (RJx4a65c, TJx4a65c, 3)) (fU_s _ _ _) rfl in_adp_AL tyJx4a65c tyJx4a65c_ok nmJx4a65c 2 (by decide) (Nat.le_of_ble_eq_true rfl) (v := .int (iZ (((s : Int)) + 1))) (vt := .int) lk_adp_f48 (Or.inl rfl) (Or.inl rfl) rfl rfl rfl (fU_fU _ _ _ _) dJx4a65c_add_72be8_19 ?_
        exact x_vret h2 h4 rfl ⟨Nat.le_of_ble_eq_true rfl, Nat.le_of_ble_eq_true rfl⟩ dJx4a65c_add_72be8_22 ⟨p, cp, M, _, Or.inr ⟨hp, rfl⟩, h8, by omega, rfl, rfl⟩
      · refine g_icmp_ne h2 (tgt := 11) dJx4a65c_add_72be8_3 (by decide) (by omega) (by omega) (fun hc => ?_) (fun hc => absurd hc (by omega))
        have ne := f_ne2 ha hrow
        refine g_aload_n h2 2 dJx4a65c_add_72be8_11 rfl rfl ?_
        refine g_iload_n h2 3 dJx4a65c_add_72be8_12 rfl rfl ?_
        refine g_aload_n h2 1 dJx4a65c_add_72be8_13 rfl rfl ?_
        refine f_aast h2 h5 (N := N) (f := f) hrow htR hv hcl hcc (by omega) ⟨by omega, by omega⟩ dJx4a65c_add_72be8_14 ?_
        rw [show (s : Int).toNat = s from rfl]
        show G K (FW (fU (mp) row (refsE cR N (va_up f s (some v))), ty)) (0, 0) [(0, .ref a), (1, .ref v), (2, .ref row), (3, .int (iZ ((s : Int))))] 15 []
        refine g_aload_n h2 0 dJx4a65c_add_72be8_15 rfl rfl ?_
        refine g_iload_n h2 3 dJx4a65c_add_72be8_16 rfl rfl ?_
        refine g_iconst h2 (z := 1) dJx4a65c_add_72be8_17 ?_
        refine g_iadd h2 (x := (s : Int)) (y := 1) dJx4a65c_add_72be8_18 ?_
        refine f_put h2 (mp' := fU (fU mp row (refsE cR N (va_up f s (some v)))) a (.inr (0, [.int (iZ mc), .ref row, .int (iZ ((s : Int) + 1))]))) (ci := 0) (q := (RJx4a65c, TJx4a65c, 3)) ((fU_n _ _ ne).trans ha) rfl in_adp_AL tyJx4a65c tyJx4a65c_ok nmJx4a65c 2 (by decide) (Nat.le_of_ble_eq_true rfl) (v := .int (iZ (((s : Int)) + 1))) (vt := .int) lk_adp_f48 (Or.inl rfl) (Or.inl rfl) rfl rfl rfl rfl dJx4a65c_add_72be8_19 ?_
        exact x_vret h2 h4 rfl ⟨Nat.le_of_ble_eq_true rfl, Nat.le_of_ble_eq_true rfl⟩ dJx4a65c_add_72be8_22 ⟨row, cR, N, _, Or.inl ⟨rfl, hN0, hrow, rfl, rfl⟩, by omega, by omega, rfl, rfl⟩)

abbrev rm_add : Room := { frames := 6, cells := 1, slots := 40, locals := 170 }
set_option maxRecDepth 20000 in
theorem in_add_AL : ∀ w ∈ wsJx4a65c0, w ∈ wsJx4a65c_add_9ea2d := by decide +kernel
theorem lk_add_f63 : Cond.fieldLink RJx4a65c 63 "java/util/ArrayList" "modCount" "I" ∈ wsJx4a65c_add_9ea2d := List.mem_of_getElem? (i := 1) (by decide +kernel)
theorem lk_add_sf : Cond.sameField "java/util/ArrayList" "java/util/AbstractList" "modCount" "I" ∈ wsJx4a65c_add_9ea2d := List.mem_of_getElem? (i := 2) (by decide +kernel)
theorem lk_add_f9 : Cond.fieldLink RJx4a65c 9 "java/util/ArrayList" "elementData" "[Ljava/lang/Object;" ∈ wsJx4a65c_add_9ea2d := List.mem_of_getElem? (i := 3) (by decide +kernel)
theorem lk_add_f48 : Cond.fieldLink RJx4a65c 48 "java/util/ArrayList" "size" "I" ∈ wsJx4a65c_add_9ea2d := List.mem_of_getElem? (i := 4) (by decide +kernel)
set_option maxRecDepth 100000 in
set_option maxHeartbeats 4000000 in
theorem s_add {l : Launch} {emp : Nat} {mp : Nat → Option va_E} {ty : ClassId → FieldType → Prop} {a v row s N : Nat} {mc : Int} {f : Nat → Option Nat} {ci : Nat} {q : vw_C} {vs : List Value} (ha : mp a = some (.inr (0, [.int (iZ mc), .ref row, .int (iZ (s : Int))]))) (hrow : (N = 0 ∧ row = emp) ∨ (0 < N ∧ ∃ cR, mp row = some (refsE cR N f) ∧ ty cR tObj)) (hv : mp v = some (.inr (ci, vs))) (hva : v ≠ a) (hs : s ≤ N ∧ s ≤ 24 ∧ N ≤ 1000000) (hcl : vwCl[ci]? = some q) (hcc : (q.1, "java/lang/Object") ∈ cCasts) (hel : ∀ i b, f i = some b → ∃ vs, mp b = some (.inr (ci, vs))) (hf : ∀ k, s ≤ k → f k = none) (hci : ci ≠ 0) : cMet l yJx4a65c_add_9ea2d wsJx4a65c_add_9ea2d rm_add emp FW rkI [.ref a, .ref v] (mp, ty) (fun r u' => ∃ (p : Nat) (cp : ClassId) (M : Nat) (ty' : ClassId → FieldType → Prop), ((p = row ∧ 0 < N ∧ mp row = some (refsE cp N f) ∧ M = N ∧ ty' = ty) ∨ (mp p = none ∧ ty' = fY ty cp tObj)) ∧ s + 1 ≤ M ∧ M ≤ 1000000 ∧ r = 1 ∧ u' = (fU (fU mp p (refsE cp M (va_up f s (some v)))) a (.inr (0, [.int (iZ (mc + 1)), .ref p, .int (iZ ((s : Int) + 1))])), ty')) :=
  cMet.of (maxL := 2) (by decide +kernel) rfl (Nat.le_of_ble_eq_true rfl) (fun K h1 h2 h3 h4 h5 h6 h7 => by
    refine g_aload_n h2 0 dJx4a65c_add_9ea2d_0 rfl rfl ?_
    refine g_dup h2 rfl dJx4a65c_add_9ea2d_1 ?_
    refine f_get h2 (ci := 0) (q := (RJx4a65c, TJx4a65c, 3)) ha rfl in_add_AL 0 (by decide) (v := .int (iZ mc)) rfl lk_add_f63 (Or.inr lk_add_sf) dJx4a65c_add_9ea2d_2 ?_
    refine g_iconst h2 (z := 1) dJx4a65c_add_9ea2d_5 ?_
    refine g_iadd h2 (x := mc) (y := 1) dJx4a65c_add_9ea2d_6 ?_
    refine f_put h2 (mp' := fU mp a (.inr (0, [.int (iZ (mc + 1)), .ref row, .int (iZ (s : Int))]))) (ci := 0) (q := (RJx4a65c, TJx4a65c, 3)) ha rfl in_add_AL tyJx4a65c tyJx4a65c_ok nmJx4a65c 0 (by decide) (Nat.le_of_ble_eq_true rfl) (v := .int (iZ (mc + 1))) (vt := .int) lk_add_f63 (Or.inr lk_add_sf) (Or.inl rfl) rfl rfl rfl rfl dJx4a65c_add_9ea2d_7 ?_
    refine g_aload_n h2 0 dJx4a65c_add_9ea2d_10 rfl rfl ?_
    refine g_aload_n h2 1 dJx4a65c_add_9ea2d_11 rfl rfl ?_
    refine g_aload_n h2 0 dJx4a65c_add_9ea2d_12 rfl rfl ?_
    refine f_get h2 (ci := 0) (q := (RJx4a65c, TJx4a65c, 3)) (fU_s _ _ _) rfl in_add_AL 1 (by decide) (v := .ref row) rfl lk_add_f9 (Or.inl rfl) dJx4a65c_add_9ea2d_13 ?_
    refine g_aload_n h2 0 dJx4a65c_add_9ea2d_16 rfl rfl ?_
    refine f_get h2 (ci := 0) (q := (RJx4a65c, TJx4a65c, 3)) (fU_s _ _ _) rfl in_add_AL 2 (by decide) (v := .int (iZ ((s : Int)))) rfl lk_add_f48 (Or.inl rfl) dJx4a65c_add_9ea2d_17 ?_
    have hrow1 : (N = 0 ∧ row = emp) ∨ (0 < N ∧ ∃ cR, fU mp a (.inr (0, [.int (iZ (mc + 1)), .ref row, .int (iZ (s : Int))])) row = some (refsE cR N f) ∧ ty cR tObj) := by
      rcases hrow with h8 | ⟨h8, cR, h9, h10⟩
      · exact Or.inl h8
      · exact Or.inr ⟨h8, cR, (fU_n _ _ (Ne.symm (f_ne2 ha h9))).trans h9, h10⟩
    have hel1 : ∀ i b, f i = some b → ∃ vs, fU mp a (.inr (0, [.int (iZ (mc + 1)), .ref row, .int (iZ (s : Int))])) b = some (.inr (ci, vs)) := fun i b hb => by
      obtain ⟨vs, h9⟩ := hel i b hb
      refine ⟨vs, (fU_n _ _ (fun x => ?_)).trans h9⟩
      rw [x, ha] at h9
      injection h9 with h9
      injection h9 with h9
      exact hci (congrArg Prod.fst h9).symm
    refine c_callV h2 h5 h6 (s_adp (fU_s _ _ _) hrow1 ((fU_n _ _ hva).trans hv) hva hs hcl hcc hel1 hf) (ci := 0) (q := (RJx4a65c, TJx4a65c, 3)) rfl (f_recv (fU_s _ _ _)) (fun ht => cwV 3 ht gJx4a65c_add_9ea2d_Jx4a65c_add_72be8 rfl rfl rfl (by decide +kernel) ⟨Nat.le_of_ble_eq_true rfl, Nat.le_of_ble_eq_true rfl⟩) rfl rfl (Nat.le_of_ble_eq_true rfl) ⟨Nat.le_of_ble_eq_true rfl, Nat.le_of_ble_eq_true rfl⟩ dJx4a65c_add_9ea2d_20 (fun r u' hq => ?_)
    obtain ⟨p, cp, M, ty', hp, h8, h9, rfl, rfl⟩ := hq
    have hpa : a ≠ p := by
      rcases hp with ⟨rfl, h10, h11, h12, h13⟩ | ⟨h10, h11⟩
      · intro x; rw [← x, fU_s] at h11; cases h11
      · intro x; rw [← x, fU_s] at h10; cases h10
    rw [fU_c _ _ _ hpa, fU_fU]
    show G K (FW (fU (fU mp p (refsE cp M (va_up f s (some v)))) a (.inr (0, [.int (iZ (mc + 1)), .ref p, .int (iZ ((s : Int) + 1))])), ty')) (1, 40) [(0, .ref a), (1, .ref v)] 23 []
    refine g_iconst h2 (z := 1) dJx4a65c_add_9ea2d_23 ?_
    have hp2 : (p = row ∧ 0 < N ∧ mp row = some (refsE cp N f) ∧ M = N ∧ ty' = ty) ∨ (mp p = none ∧ ty' = fY ty cp tObj) := by
      rcases hp with ⟨rfl, h10, h11, h12, h13⟩ | hp
      · exact Or.inl ⟨rfl, h10, (fU_n _ _ (Ne.symm hpa)).symm.trans h11, h12, h13⟩
      · exact Or.inr ⟨(fU_n _ _ (Ne.symm hpa)).symm.trans hp.1, hp.2⟩
    exact x_zret h2 h4 rfl ⟨Nat.le_of_ble_eq_true rfl, Nat.le_of_ble_eq_true rfl⟩ dJx4a65c_add_9ea2d_24 (Or.inr rfl) ⟨p, cp, M, ty', hp2, h8, h9, rfl, rfl⟩)
