/-! THE HELPERS' BASE: the place for a long, methods with a table of handlers, calls beside a world that stays -/
def cNots : List (String × String) := [("java/lang/IllegalArgumentException", "java/lang/IndexOutOfBoundsException"), ("java/lang/IllegalStateException", "java/lang/IndexOutOfBoundsException"), ("java/lang/IllegalStateException", "java/lang/IllegalArgumentException")]
def SN (U : State) : Prop := ∀ q ∈ cNots, va_Nc q.1 q.2 U
theorem SN.moved {u U : State} (hvm : u.vm.Alike U.vm) (h : SN u) : SN U := fun q hq => (h q hq).moved hvm
/-- one array of one long -/
def OUT (qo : Nat) (co : ClassId) (f : Nat → Int64) : WdT := fun ws tys => ws = [(qo, .inl (co, 1, .inr (.inl f)))] ∧ tys = [(co, .long)]
/-- a world, and a thing made anew -/
def EX (q : Nat) (e : va_E) : WdT := fun ws tys => ws = [(q, e)] ∧ tys = []
abbrev HU : Type := (LT × CS) × (Nat → Int64)
def HW (qo : Nat) (co : ClassId) : HU → WdT := fun u => Sep (CL u.1.1 u.1.2) (OUT qo co u.2)
def lPc (emp : Nat) (D : va_G) (av : List Value) (ws : va_W) (tys : TysT) (sz : Nat) : Array Value → State → Prop :=
  va_Pc av (fun U => (U.heap.size = sz ∧ va_P D vwCl ws U.heap ∧ va_K D vwCl tys U ∧ va_D (fun _ => True) ws ∧ SF emp (va_A ws sz) U U.heap) ∧ SN U)
theorem lPc_blind (emp : Nat) (D : va_G) (av : List Value) (ws : va_W) (tys : TysT) (sz : Nat) : FrameBlind (lPc emp D av ws tys sz) := fun a U g mk q => by
  obtain ⟨q0, ⟨q1, qP, qK, qD, qF⟩, qN⟩ := q
  exact ⟨q0, ⟨q1, qP, va_K.moved (u := U) (U := U.calling g mk a) (Vm.Alike.refl U.vm) qK, qD, qF.next (State.WarmedH.refl U) (fun _ _ _ => rfl) (fun _ h => h)⟩, qN⟩
def lMet {S : Type} (l : Launch) (y : MethodName) (wds : List Cond) (rm : Room) (emp : Nat) (Wd : S → WdT) (rk : S → Int → Option Value) (av : List Value) (u : S) (post : Int → S → Prop) : Prop :=
  l.stackTraces = false → ∀ (D : va_G) (ws : va_W) (tys : TysT) (sz : Nat), Wd u ws tys → Met l y wds rm (lPc emp D av ws tys sz) (xQ D Wd rk post (va_A ws sz)) rm.cells rm.slots (va_A ws sz)
/-- the frame's table of exceptions -/
def kTab (K : KT) (hh : List (Nat × Nat × Nat × Nat)) : Prop := K.c.exceptionTable.toList = tableOf hh
theorem Met.ofWH {l : Launch} {y : MethodName} {ws ws' : List Cond} {rm : Room} {Pc : Array Value → State → Prop} {Qc : Array Value → State → Outcome → State → Prop} {mc ms : Nat} {free : Nat → Prop} {cc : ByteArray} {maxL : Nat} {ret : Option FieldType} {hh : List (Nat × Nat × Nat × Nat)}
    (hy : plainName y.cls = true) (hw : ws = Cond.codeWith y cc maxL ret hh :: ws')
    (body : ∀ p e s m args below meth c s₁, BodyLoose p l y (headSpec ws rm) cc maxL ret e s m args below meth c s₁ → c.maxLocals = maxL → c.exceptionTable.toList = tableOf hh → Pc args s →
      W p l e (headSpec ws rm).room s m args below meth c s.heap [] 0 0 (MQ below Qc args s mc ms free) (entryFrame m args maxL)) : Met l y ws rm Pc Qc mc ms free := by
  refine MetFree.of_bodyS (code := cc) (maxLocals := maxL) (ret := ret) hy ?_ ?_
  · intro args s m h hn
    obtain ⟨m9, meth, c, hn9, h1, h2, h3, h4, -, h5, h6, -⟩ := Cond.codeWith_spec (atoms_spec (ws := ws) h _ (by rw [hw]; exact List.mem_cons_self))
    cases hn.symm.trans hn9
    exact ⟨meth, c, h1, h2, h3, h4, h5, h6⟩
  · intro p e s m args below meth c s₁ B hml hP _
    have hh0 : s₁.heap = s.heap := by rw [B.state]; rfl
    obtain ⟨t, a1, o, b1, b2, b3⟩ := body p e s m args below meth c s₁ B hml (vx_table (x := y) B (atoms_spec (ws := ws) B.pre _ (by rw [hw]; exact List.mem_cons_self))) hP s₁ hh0 (Stand.of_body B)
    exact ⟨t, o, a1, b1, b2, b3⟩
theorem lMet.of {S : Type} {l : Launch} {y : MethodName} {wds ws' : List Cond} {rm : Room} {emp : Nat} {Wd : S → WdT} {rk : S → Int → Option Value} {av : List Value} {u : S} {post : Int → S → Prop} {cc : ByteArray} {maxL : Nat} {ret : Option FieldType} {hh : List (Nat × Nat × Nat × Nat)}
    (hy : plainName y.cls = true) (hw : wds = Cond.codeWith y cc maxL ret hh :: ws') (hav : (lg_sl av).length ≤ maxL)
    (body : ∀ K : KT, K.l = l → kOK K cc y.cls wds ret rm → K.nL = maxL → kQ K Wd rk post rm → SF emp K.A K.s K.s.heap → K.l.stackTraces = false → SN K.s → kTab K hh → G K (Wd u) (0, 0) (lv_args 0 av) 0 []) : lMet l y wds rm emp Wd rk av u post := by
  intro hst D ws tys sz hW
  refine Met.ofWH (cc := cc) (maxL := maxL) (ret := ret) (hh := hh) hy hw ?_
  intro p e s m args below meth c s₁ B hml htab hv
  obtain ⟨rfl, ⟨hsz, hP, hK, hD0, hF⟩, hN⟩ := hv
  subst hsz
  have hl := lv_entry av hav
  rw [lg_entry_eq]
  exact body (p, l, e, rm, s, m, av.toArray, below, meth, c, MQ below (xQ D Wd rk post (va_A ws s.heap.size)) av.toArray s rm.cells rm.slots (va_A ws s.heap.size), D, va_A ws s.heap.size, maxL) rfl
    ⟨B.exec, B.bytes, hml, findClass_of_methodNamed B.named, atoms_spec (ws := wds) B.pre, B.returns, B.notSynchronized, rfl, fun q h => Or.inr h, hy⟩ rfl rfl hF hst hN htab
    ws tys s.heap [] _ hW hK hP hD0.self va_S.rf hl
/-- the table has a row that takes E here, and no row ahead does -/
def kCatch (K : KT) (own : String) (pc : Nat) (E : String) (hpc : Nat) : Prop := ∃ (pre : List ExceptionTableEntry) (x : ExceptionTableEntry) (suf : List ExceptionTableEntry) (name : String), K.c.exceptionTable.toList = pre ++ x :: suf ∧
  (∀ z ∈ pre, covers z pc = false ∨ (z.catchType ≠ 0 ∧ ∃ nm : String, (Cond.classLink own z.catchType nm).before K.args K.s = true ∧ va_Nc E nm K.s)) ∧ covers x pc = true ∧ x.catchType ≠ 0 ∧ (Cond.classLink own x.catchType name).before K.args K.s = true ∧ (Cond.castable E name).before K.args K.s = true ∧ x.handlerPc = hpc
section SEPROWS
variable {S S0 : Type} {K : KT} {cc : ByteArray} {own : String} {Ts : List Cond} {ret ret' : Option FieldType} {R : Room} {Wd : S → WdT} {B : WdT} {rk : S → Int → Option Value} {post : Int → S → Prop} {px : String → S → Prop} {rm rm0 : Room} {n : Nat × Nat} {loc : List (Nat × Value)} {pc : Nat} {st : List Value} {u : S} {y : MethodName} {wds : List Cond} {index maxL nargs emp : Nat} {bytes : ByteArray} {As rest : List Value} {b ci : Nat} {q : vw_C}
theorem c_pre2 {w1 w2 : va_W} {t1 t2 : TysT} {H : Heap} {locs : List Loc} {av : List Value} (hF : SF emp K.A K.s K.s.heap) (hA : ∀ q, K.s.heap.size ≤ q → K.A q) (hK : va_K K.D vwCl (t1 ++ t2) K.s) (hP : va_P K.D vwCl (w1 ++ w2) H) (hD : va_D K.A (w1 ++ w2)) (hS : va_S K.A K.s.heap H locs) :
    (va_K K.D vwCl t1 K.s ∧ va_P K.D vwCl w1 H ∧ va_D K.A w1) ∧ ∀ U : State, U.heap = H → K.s.WarmedH U.vm → cPc emp K.D av w1 t1 H.size av.toArray U := by
  have h1 : va_K K.D vwCl t1 K.s := va_K_iff.mpr ⟨hK.1, fun q hq => (va_K_iff.mp hK).2 q (List.mem_append_left _ hq)⟩
  have h2 : va_P K.D vwCl w1 H := va_P_iff.mpr fun q hq => va_P_iff.mp hP q (List.mem_append_left _ hq)
  have h3 : va_D K.A w1 := by
    obtain ⟨h4, h5⟩ := va_D_iff.mp hD
    rw [List.map_append, List.nodup_append] at h4
    exact va_D_iff.mpr ⟨h4.1, fun q hq => h5 q (List.mem_append_left _ hq)⟩
  exact ⟨⟨h1, h2, h3⟩, c_pre hF hA h1 h2 h3 hS⟩
/-- a call of a house's method that may throw: what it throws is caught here -/
theorem s_callH (C : kOK K cc own Ts ret R) (hF : SF emp K.A K.s K.s.heap) (hst : K.l.stackTraces = false) (hM : vMet K.l y wds rm emp Wd rk (.ref b :: As) u post px) (hcl : vwCl[ci]? = some q) (hrecv : ∀ ws tys, Wd u ws tys → ∃ (q0 : Nat) (fs : List Value), ws[q0]? = some (b, .inr (ci, fs)))
    (cw : (∀ w ∈ Ts, w.before K.args K.s = true) → CallW R K.s K.args own q.1 index y bytes maxL ret' wds rm rm.cells rm.slots nargs) (hn : As.length = nargs) {stk : List Value} (hstk : stk = As.reverse ++ .ref b :: rest) (hr8 : (rest.map fun v => v.category).sum ≤ 8) (hf : n.1 + rm.cells ≤ R.cells ∧ n.2 + rm.slots ≤ R.slots) (hd : decode cc pc = .ok (.invokevirtual index, 3))
    (kx : ∀ (E : String) (u' : S), px E u' → ∃ hpc, kCatch K own pc E hpc ∧ ∀ q9 : Nat, G K (Sep (Wd u') B) (n.1 + rm.cells, n.2 + rm.slots) loc hpc [.ref q9])
    (kk : ∀ (r : Int) (u' : S), post r u' → G K (Sep (Wd u') B) (n.1 + rm.cells, n.2 + rm.slots) loc (pc + 3) ((rk u' r).toList ++ rest)) : G K (Sep (Wd u) B) n loc pc stk := by
  intro ws tys H locs arr hW hK hP hD hS hl
  obtain ⟨c1, c2, c3, c4, c5, c6, c7, c8, c9, c10⟩ := C
  obtain ⟨w1, w2, t1, t2, hW1, hB, rfl, rfl⟩ := hW
  subst hstk c8
  obtain ⟨⟨hK1, hP1, hD1⟩, hpre⟩ := c_pre2 (av := .ref b :: As) hF c9 hK hP hD hS
  obtain ⟨q0, fs, he⟩ := hrecv w1 t1 hW1
  have hr := vx_runV (e := K.e) (below := K.below) (meth := K.meth) (H := H) (locs := locs) (cells := n.1) (slots := n.2) (g := F0 K.m pc arr (As.reverse ++ .ref b :: rest)) (rest := rest) (As := As) ⟨c1, c2, c3, c4, c5⟩ (hM hst K.D w1 t1 H.size hW1) (cw c5) ⟨cPc_blind emp K.D _ w1 t1 H.size, va_recv hK1 hP1 hcl he, hpre⟩ rfl hn hl.1 rfl (lv_room (ls := arr) (m := K.m) (pc := pc) hr8) hd hf
  have hsub := c_sub hD1 hS c9
  intro T hT X
  rcases hr T hT X with ⟨v, st₀, t, T', L, h0, X', hL, e1, e2, ⟨⟨r, u', ws', tys', hv, hp, hw', hP', hK', hD'⟩, hz, hk⟩, stp⟩ | ⟨q9, st₀, t, T', L, E, ce, h0, X', hL, e1, e2, ⟨⟨u', ws', tys', hp, hw', hP', hK', hD'⟩, hz, hk⟩, hce, hcv, hcl9, stp⟩
  · cases hv
    rw [h0] at hz hk
    have hKs := va_K_iff.mp (va_K.moved (show K.s.vm.Alike t.vm by rw [← e2]; exact X'.warmed.alike).symm hK')
    obtain ⟨hP2, hD2⟩ := sep_back hP hD hsub (H1 := T'.heap) (fun q x z => by rw [e1]; exact hk q x z) (by rw [e1]; exact hP') hD'
    obtain ⟨t2', a1, b1⟩ := kk r u' hp (ws' ++ w2) (tys' ++ t2) T'.heap (locs ++ L) arr ⟨ws', w2, tys', t2, hw', hB, rfl, rfl⟩ (va_K_iff.mpr ⟨hKs.1, fun q hq => by
        rcases List.mem_append.mp hq with h | h
        · exact hKs.2 q h
        · exact (va_K_iff.mp hK).2 q (List.mem_append_right _ h)⟩) hP2 hD2
      ⟨Nat.le_trans hS.1 (by rw [e1]; exact hz), fun q h1 h2 => by rw [e1, hk q (Nat.lt_of_lt_of_le h1 hS.1) (fun z => h2 (hsub q z))]; exact hS.2.1 q h1 h2, fun q hq => by
        rcases List.mem_append.mp hq with h | h
        · exact hS.2.2 q h
        · exact hsub _ (hL q h)⟩ hl T' rfl X'
    exact ⟨t2', stp t2' a1, b1⟩
  · rw [h0] at hz hk
    have hKs := va_K_iff.mp (va_K.moved (show K.s.vm.Alike t.vm by rw [← e2]; exact X'.warmed.alike).symm hK')
    obtain ⟨hP2, hD2⟩ := sep_back hP hD hsub (H1 := T'.heap) (fun q x z => by rw [e1]; exact hk q x z) (by rw [e1]; exact hP') hD'
    have hS' : va_S K.A K.s.heap T'.heap (locs ++ L) := ⟨Nat.le_trans hS.1 (by rw [e1]; exact hz), fun q h1 h2 => by rw [e1, hk q (Nat.lt_of_lt_of_le h1 hS.1) (fun z => h2 (hsub q z))]; exact hS.2.1 q h1 h2, fun q hq => by
        rcases List.mem_append.mp hq with h | h
        · exact hS.2.2 q h
        · exact hsub _ (hL q h)⟩
    obtain ⟨hpc, ⟨pre, x, suf, name, hsplit, hpass, hcov, hct, hlink, hcast, rfl⟩, kh⟩ := kx E u' hp
    have key : vx_W K.p K.l K.e K.R K.s K.m K.args K.below K.meth K.c T'.heap (locs ++ L) (n.1 + rm.cells) (n.2 + rm.slots) K.Q (F0 K.m pc arr rest) q9 :=
      vx_catch c4 pre x suf hsplit hpass hcov hct hlink hcast (by rw [e1]; exact hce) hcv hcl9 (kh q9 (ws' ++ w2) (tys' ++ t2) T'.heap (locs ++ L) arr ⟨ws', w2, tys', t2, hw', hB, rfl, rfl⟩ (va_K_iff.mpr ⟨hKs.1, fun q hq => by
        rcases List.mem_append.mp hq with h | h
        · exact hKs.2 q h
        · exact (va_K_iff.mp hK).2 q (List.mem_append_right _ h)⟩) hP2 hD2 hS' hl)
    obtain ⟨t2', a1, b1⟩ := key T' rfl X'
    exact ⟨t2', stp.trans a1, b1⟩
/-- a call of a house's method that returns -/
theorem s_callV (C : kOK K cc own Ts ret R) (hF : SF emp K.A K.s K.s.heap) (hst : K.l.stackTraces = false) (hM : cMet K.l y wds rm emp Wd rk (.ref b :: As) u post) (hcl : vwCl[ci]? = some q) (hrecv : ∀ ws tys, Wd u ws tys → ∃ (q0 : Nat) (fs : List Value), ws[q0]? = some (b, .inr (ci, fs)))
    (cw : (∀ w ∈ Ts, w.before K.args K.s = true) → CallW R K.s K.args own q.1 index y bytes maxL ret' wds rm rm.cells rm.slots nargs) (hn : As.length = nargs) {stk : List Value} (hstk : stk = As.reverse ++ .ref b :: rest) (hr8 : (rest.map fun v => v.category).sum ≤ 8) (hf : n.1 + rm.cells ≤ R.cells ∧ n.2 + rm.slots ≤ R.slots) (hd : decode cc pc = .ok (.invokevirtual index, 3))
    (kk : ∀ (r : Int) (u' : S), post r u' → G K (Sep (Wd u') B) (n.1 + rm.cells, n.2 + rm.slots) loc (pc + 3) ((rk u' r).toList ++ rest)) : G K (Sep (Wd u) B) n loc pc stk := by
  intro ws tys H locs arr hW hK hP hD hS hl
  obtain ⟨c1, c2, c3, c4, c5, c6, c7, c8, c9, c10⟩ := C
  obtain ⟨w1, w2, t1, t2, hW1, hB, rfl, rfl⟩ := hW
  subst hstk c8
  obtain ⟨⟨hK1, hP1, hD1⟩, hpre⟩ := c_pre2 (av := .ref b :: As) hF c9 hK hP hD hS
  obtain ⟨q0, fs, he⟩ := hrecv w1 t1 hW1
  have hr := va_runV (e := K.e) (below := K.below) (meth := K.meth) (H := H) (locs := locs) (cells := n.1) (slots := n.2) (g := F0 K.m pc arr (As.reverse ++ .ref b :: rest)) (rest := rest) (As := As) ⟨c1, c2, c3, c4, c5⟩ (hM hst K.D w1 t1 H.size hW1) (cw c5) ⟨cPc_blind emp K.D _ w1 t1 H.size, va_recv hK1 hP1 hcl he, hpre⟩ rfl hn hl.1 rfl (lv_room (ls := arr) (m := K.m) (pc := pc) hr8) hd hf
  exact x_backS hB hK hP hD hS c9 hl hr kk
/-- a call of the reference's method -/
theorem s_callM (C : kOK K cc own Ts ret R) (hM : xMet K.l y wds rm Wd rk (.ref b :: As) u post) (hcl : vwCl[ci]? = some q) (hrecv : ∀ ws tys, Wd u ws tys → ∃ (q0 : Nat) (fs : List Value), ws[q0]? = some (b, .inr (ci, fs)))
    (cw : (∀ w ∈ Ts, w.before K.args K.s = true) → CallW R K.s K.args own q.1 index y bytes maxL ret' wds rm rm.cells rm.slots nargs) (hn : As.length = nargs) {stk : List Value} (hstk : stk = As.reverse ++ .ref b :: rest) (hr8 : (rest.map fun v => v.category).sum ≤ 8) (hf : n.1 + rm.cells ≤ R.cells ∧ n.2 + rm.slots ≤ R.slots) (hd : decode cc pc = .ok (.invokevirtual index, 3))
    (kk : ∀ (r : Int) (u' : S), post r u' → G K (Sep (Wd u') B) (n.1 + rm.cells, n.2 + rm.slots) loc (pc + 3) ((rk u' r).toList ++ rest)) : G K (Sep (Wd u) B) n loc pc stk := by
  intro ws tys H locs arr hW hK hP hD hS hl
  obtain ⟨c1, c2, c3, c4, c5, c6, c7, c8, c9, c10⟩ := C
  obtain ⟨w1, w2, t1, t2, hW1, hB, rfl, rfl⟩ := hW
  subst hstk c8
  have hK1 : va_K K.D vwCl t1 K.s := va_K_iff.mpr ⟨hK.1, fun q hq => (va_K_iff.mp hK).2 q (List.mem_append_left _ hq)⟩
  have hP1 : va_P K.D vwCl w1 H := va_P_iff.mpr fun q hq => va_P_iff.mp hP q (List.mem_append_left _ hq)
  have hD1 : va_D K.A w1 := by
    obtain ⟨h4, h5⟩ := va_D_iff.mp hD
    rw [List.map_append, List.nodup_append] at h4
    exact va_D_iff.mpr ⟨h4.1, fun q hq => h5 q (List.mem_append_left _ hq)⟩
  obtain ⟨q0, fs, he⟩ := hrecv w1 t1 hW1
  have hr := va_runV (e := K.e) (below := K.below) (meth := K.meth) (H := H) (locs := locs) (cells := n.1) (slots := n.2) (g := F0 K.m pc arr (As.reverse ++ .ref b :: rest)) (rest := rest) (As := As) ⟨c1, c2, c3, c4, c5⟩ (hM K.D w1 t1 H.size hW1) (cw c5) ⟨xPc_blind K.D _ w1 t1 H.size, va_recv hK1 hP1 hcl he, fun U hU hw => ⟨rfl, by rw [hU], by rw [hU]; exact hP1, va_K.moved hw.alike hK1, hD1.weaken (fun _ _ _ _ => trivial)⟩⟩ rfl hn hl.1 rfl (lv_room (ls := arr) (m := K.m) (pc := pc) hr8) hd hf
  exact x_backS hB hK hP hD hS c9 hl hr kk
/-- a constructor's call -/
theorem s_callI (C : kOK K cc own Ts ret R) (hF : SF emp K.A K.s K.s.heap) (hst : K.l.stackTraces = false) (hM : cMet K.l y wds rm emp Wd rk (.ref b :: As) u post)
    (cw : (∀ w ∈ Ts, w.before K.args K.s = true) → CallB R K.s K.args own index y bytes maxL none wds rm rm.cells rm.slots nargs ∧ y.name = "<init>" ∧ (Cond.instanceMethod y).before K.args K.s = true) (hn : As.length = nargs) {stk : List Value} (hstk : stk = As.reverse ++ .ref b :: rest) (hr8 : (rest.map fun v => v.category).sum ≤ 8) (hf : n.1 + rm.cells ≤ R.cells ∧ n.2 + rm.slots ≤ R.slots) (hd : decode cc pc = .ok (.invokespecial index, 3))
    (kk : ∀ (r : Int) (u' : S), post r u' → G K (Sep (Wd u') B) (n.1 + rm.cells, n.2 + rm.slots) loc (pc + 3) ((rk u' r).toList ++ rest)) : G K (Sep (Wd u) B) n loc pc stk := by
  intro ws tys H locs arr hW hK hP hD hS hl
  obtain ⟨c1, c2, c3, c4, c5, c6, c7, c8, c9, c10⟩ := C
  obtain ⟨w1, w2, t1, t2, hW1, hB, rfl, rfl⟩ := hW
  subst hstk c8
  obtain ⟨⟨hK1, hP1, hD1⟩, hpre⟩ := c_pre2 (av := .ref b :: As) hF c9 hK hP hD hS
  have hr := va_runI (e := K.e) (below := K.below) (meth := K.meth) (H := H) (locs := locs) (cells := n.1) (slots := n.2) (g := F0 K.m pc arr (As.reverse ++ .ref b :: rest)) (rest := rest) (As := As) ⟨c1, c2, c3, c4, c5⟩ (hM hst K.D w1 t1 H.size hW1) (cw c5) ⟨cPc_blind emp K.D _ w1 t1 H.size, hpre⟩ rfl hn hl.1 rfl (lv_room (ls := arr) (m := K.m) (pc := pc) hr8) hd hf
  exact x_backS hB hK hP hD hS c9 hl hr kk
/-- a helper's call -/
theorem s_callL {hh : List (Nat × Nat × Nat × Nat)} (C : kOK K cc own Ts ret R) (hF : SF emp K.A K.s K.s.heap) (hN : SN K.s) (hst : K.l.stackTraces = false) (hM : lMet K.l y wds rm emp Wd rk As u post)
    (cw : (∀ w ∈ Ts, w.before K.args K.s = true) → vx_CSW R K.s K.args own index y bytes maxL ret' hh wds rm rm.cells rm.slots nargs) (hn : As.length = nargs) {stk : List Value} (hstk : stk = As.reverse ++ rest) (hr8 : (rest.map fun v => v.category).sum ≤ 8) (hf : n.1 + rm.cells ≤ R.cells ∧ n.2 + rm.slots ≤ R.slots) (hd : decode cc pc = .ok (.invokestatic index, 3))
    (kk : ∀ (r : Int) (u' : S), post r u' → G K (Sep (Wd u') B) (n.1 + rm.cells, n.2 + rm.slots) loc (pc + 3) ((rk u' r).toList ++ rest)) : G K (Sep (Wd u) B) n loc pc stk := by
  intro ws tys H locs arr hW hK hP hD hS hl
  obtain ⟨c1, c2, c3, c4, c5, c6, c7, c8, c9, c10⟩ := C
  obtain ⟨w1, w2, t1, t2, hW1, hB, rfl, rfl⟩ := hW
  subst hstk c8
  obtain ⟨⟨hK1, hP1, hD1⟩, hpre⟩ := c_pre2 (av := As) hF c9 hK hP hD hS
  have hr := vx_runSW (e := K.e) (below := K.below) (meth := K.meth) (H := H) (locs := locs) (cells := n.1) (slots := n.2) (g := F0 K.m pc arr (As.reverse ++ rest)) (rest := rest) (As := As) ⟨c1, c2, c3, c4, c5⟩ (hM hst K.D w1 t1 H.size hW1) (cw c5) ⟨lPc_blind emp K.D _ w1 t1 H.size, fun U hU hw => ⟨(hpre U hU hw).1, (hpre U hU hw).2, SN.moved hw.alike hN⟩⟩ rfl hn hl.1 rfl (lv_room (ls := arr) (m := K.m) (pc := pc) hr8) hd hf
  exact x_backS hB hK hP hD hS c9 hl hr kk
theorem o_last {A : WdT} {qo : Nat} {co : ClassId} {f : Nat → Int64} {v : Int64} (C : kOK K cc own Ts ret R) (hd : decode cc pc = .ok (.lastore, 1)) (k : ∀ f' : Nat → Int64, f' 0 = v → G K (Sep A (OUT qo co f')) n loc (pc + 1) st) : G K (Sep A (OUT qo co f)) n loc pc (.long v :: .int (iZ 0) :: .ref qo :: st) := by
  intro ws tys H locs arr hW hK hP hD hS hl
  obtain ⟨w1, w2, t1, t2, hW1, ⟨rfl, rfl⟩, rfl, rfl⟩ := hW
  refine va_last C.1 C.2.1 hK hP hD hS w1.length t1.length (a := qo) (cA := co) (n := 1) (f := f) (by simp) (by simp) (i := iZ 0) (x := v) (iZ_in (by omega) (by omega) (by omega)) hd (fun H1 locs1 hP1 hD1 hS1 => ?_)
  have e : (w1 ++ [(qo, (.inl (co, 1, .inr (.inl f)) : va_E))]).set w1.length (qo, .inl (co, 1, .inr (.inl (vp_updL f (iZ 0).toNatClampNeg v)))) = w1 ++ [(qo, .inl (co, 1, .inr (.inl (vp_updL f (iZ 0).toNatClampNeg v))))] := by
    rw [List.set_append_right _ _ (Nat.le_refl _), Nat.sub_self]; rfl
  rw [e] at hP1 hD1
  exact k _ (if_pos rfl) _ _ H1 locs1 arr ⟨w1, _, t1, _, hW1, ⟨rfl, rfl⟩, rfl, rfl⟩ hK hP1 hD1 hS1 hl
theorem o_lald {A : WdT} {qo : Nat} {co : ClassId} {f : Nat → Int64} (C : kOK K cc own Ts ret R) (hd : decode cc pc = .ok (.laload, 1)) (k : G K (Sep A (OUT qo co f)) n loc (pc + 1) (.long (f 0) :: st)) : G K (Sep A (OUT qo co f)) n loc pc (.int (iZ 0) :: .ref qo :: st) := by
  intro ws tys H locs arr hW hK hP hD hS hl
  obtain ⟨w1, w2, t1, t2, hW1, ⟨rfl, rfl⟩, rfl, rfl⟩ := hW
  exact va_lald C.1 C.2.1 hK hP w1.length t1.length (a := qo) (cA := co) (n := 1) (f := f) (by simp) (by simp) (i := iZ 0) (iZ_in (by omega) (by omega) (by omega)) hd (k _ _ H locs arr ⟨w1, _, t1, _, hW1, ⟨rfl, rfl⟩, rfl, rfl⟩ hK hP hD hS hl)
/-- new, and a new long array, beside any world -/
theorem s_new {Wd : WdT} (C : kOK K cc own Ts ret R) {ci N idx : Nat} {Cn : String} {T : u_T} (hcl : vwCl[ci]? = some (Cn, T, N)) (hin : ∀ w ∈ u_ws Cn T N, w ∈ Ts) (ty0 : Nat → FieldType) (hty : ∀ k, k < N → parseFieldDescriptor (T k).2.2.1 = some (ty0 k)) (hl : Cond.classLink own idx Cn ∈ Ts) (hinst : Cond.instantiable Cn N ∈ Ts) (hini : Cond.initialized Cn ∈ Ts) {fs : List Value} (hfs : ∀ j, j < N → defaultValue (ty0 j) = vp_V fs j) (hn : n.1 + 1 ≤ R.cells ∧ n.2 + N ≤ R.slots) (hd : decode cc pc = .ok (.new idx, 3))
    (h : ∀ q, G K (Sep Wd (EX q (.inr (ci, fs)))) (n.1 + 1, n.2 + N) loc (pc + 3) (.ref q :: st)) : G K Wd n loc pc st := by
  intro ws tys H locs arr hW hK hP hD hS hl2
  obtain ⟨c1, c2, c3, c4, c5, c6, c7, rfl, c9⟩ := C
  exact va_new c1 c2 c5 hin ty0 hty c4 (c5 _ hl) (c5 _ hinst) (c5 _ hini) hK hP hD hS c9.1 hcl hfs hn.1 hn.2 hd (fun q H1 hP1 hD1 hS1 => h q _ tys H1 locs arr ⟨ws, _, tys, [], hW, ⟨rfl, rfl⟩, rfl, (List.append_nil _).symm⟩ hK hP1 hD1 hS1 hl2)
theorem s_newl {Wd : WdT} (C : kOK K cc own Ts ret R) (harr : Cond.arrayClass .long ∈ Ts) (hn : n.1 + 1 ≤ R.cells ∧ n.2 + 1 ≤ R.slots) (hd : decode cc pc = .ok (.newarray .long, 2))
    (h : ∀ (q : Nat) (cq : ClassId), G K (Sep Wd (OUT q cq (fun _ => 0))) (n.1 + 1, n.2 + 1) loc (pc + 2) (.ref q :: st)) : G K Wd n loc pc (.int (iZ 1) :: st) := by
  intro ws tys H locs arr hW hK hP hD hS hl2
  obtain ⟨c1', c2, c3, c4, c5, c6, c7, rfl, c9⟩ := C
  exact va_newa (atype := .long) (ty := .long) (N' := 1) (a0 := (1, .inr (.inl (fun _ => 0)))) c1' c2 (c5 _ harr) rfl hK hP hD hS c9.1 (fun cA => rfl) (by decide) (by decide) (by decide) hn.1 hn.2 hd (fun q cA H1 hK1 hP1 hD1 hS1 => h q cA _ _ H1 locs arr ⟨ws, _, tys, _, hW, ⟨rfl, rfl⟩, rfl, rfl⟩ hK1 hP1 hD1 hS1 hl2)
end SEPROWS
theorem s_i2l {K : KT} {cc : ByteArray} {own : String} {Ts : List Cond} {ret : Option FieldType} {R : Room} {Wd : WdT} {n : Nat × Nat} {loc : List (Nat × Value)} {pc : Nat} {st : List Value} {x : Int} (C : kOK K cc own Ts ret R) (hd : decode cc pc = .ok (.i2l, 1)) (k : G K Wd n loc (pc + 1) (.long (iZ x).toInt64 :: st)) : G K Wd n loc pc (.int (iZ x) :: st) :=
  fun ws tys H locs arr a b c d e f => lv_i2l C.1 C.2.1 hd rfl (k ws tys H locs arr a b c d e f)
