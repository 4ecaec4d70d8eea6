/-! THE HOUSE'S BASE: what of the JDK's statics, texts and tables its methods reach; contracts of methods that return, and of those that may throw -/
def cStrs : List (Nat × String) := [(53, "the tape would be too long"), (64, "the tape does not have so many bytes"), (71, "there are enough manuscripts"), (98, "no such place"), (105, "there are enough scribes"), (118, "no such kind"), (124, "no such letter"), (126, "no such n"), (131, "the scribe has enough habits"), (138, "no such habit"), (144, "a habit has no such part"), (157, "the exemplar is lost"), (163, "no such number of places"), (165, "not in both texts"), (167, "one of both is lost"), (176, "it is lost"), (181, "nothing of this kind is told of a manuscript"), (186, "nothing of this kind is counted"), (217, "no such place is voted for"), (230, "nothing of this kind is told of a trial"), (232, "no such number of times"), (256, "no such manuscript"), (258, "no such scribe")]
def cCasts : List (String × String) := [("CopyHouse$Habit", "CopyHouse$Habit"), ("CopyHouse$Manuscript", "CopyHouse$Manuscript"), ("CopyHouse$Scribe", "CopyHouse$Scribe"), ("CopyHouse$Habit", "java/lang/Object"), ("CopyHouse$Manuscript", "java/lang/Object"), ("CopyHouse$Scribe", "java/lang/Object"), ("java/lang/IllegalStateException", "java/lang/IllegalStateException"), ("java/lang/IllegalArgumentException", "java/lang/IllegalArgumentException"), ("java/lang/IndexOutOfBoundsException", "java/lang/IndexOutOfBoundsException")]
/-- constructors of nest mates: who calls, at which place of its tables, what -/
def cNests : List (String × Nat × MethodName) := [(RX4, 34, yX3_init), (RX1, 9, yX3_init), (RX4, 109, yX2_init)]
def cDecls : List MethodName := [Bundle.initS "java/lang/RuntimeException", Bundle.initS "java/lang/Exception", Bundle.initS Bundle.tN]
theorem va_AOA.moved {t : FieldType} {u U : State} (hvm : u.vm.Alike U.vm) (h : va_AOA t u) : va_AOA t U := over_moved (a := #[]) (a' := #[]) hvm h
def SF (emp : Nat) (A : Nat → Prop) (U : State) (H : Heap) : Prop :=
  (va_Z "java/util/ArrayList" "DEFAULTCAPACITY_EMPTY_ELEMENTDATA" "[Ljava/lang/Object;" (.ref emp) A U H ∧ va_T (.object "java/lang/Object") emp 0 (fun _ => .null) A U H) ∧
  (vx_Zq Bundle.tN "UNASSIGNED_STACK" Bundle.steD A U H ∧ vx_Zq Bundle.tN "SUPPRESSED_SENTINEL" Bundle.listD A U H) ∧
  (∀ q ∈ cStrs, ∃ a : Nat, vk_R RX4 q.1 q.2 a U) ∧ (∀ q ∈ cCasts, va_Nw (.castable q.1 q.2) U) ∧ (∀ x ∈ cDecls, va_Nw (.declares x) U) ∧
  (va_AO "java/lang/Object" U ∧ va_AOA .int U ∧ va_Dc U ∧ (∃ mi : Nat, va_Mi "[Ljava/lang/Object;" mi U) ∧ ∀ w ∈ cNests, va_Nw (.methodLinkNest w.1 w.2.1 w.2.2 RX4) U)
theorem SF.next {emp : Nat} {A B : Nat → Prop} {s U : State} {H H1 : Heap} (h : SF emp A s H) (hW : s.WarmedH U.vm) (hk : ∀ a : Nat, a < H.size → ¬ A a → H1[a]? = H[a]?) (hAB : ∀ q, B q → A q) : SF emp B U H1 := by
  obtain ⟨⟨h1, h2⟩, ⟨h3, h4⟩, h5, h6, h7, h8, h9, h10, ⟨mi, h11⟩, h12⟩ := h
  refine ⟨⟨va_Z.moved hW.alike ((h1.kept hk).narrow hAB), va_T.moved hW.alike ((h2.kept hk).narrow hAB)⟩, ⟨vx_Zq.moved hW.alike ((h3.kept hk).narrow hAB), vx_Zq.moved hW.alike ((h4.kept hk).narrow hAB)⟩, fun q hq => ?_, fun q hq => va_Nw.warmC hW (h6 q hq), fun x hx => va_Nw.warmD hW (h7 x hx), va_AO.moved hW.alike h8, va_AOA.moved hW.alike h9, va_Dc.moved hW.alike h10, ⟨mi, va_Mi.moved hW.alike h11⟩, fun w hw => va_Nw.warmM hW (h12 w hw)⟩
  obtain ⟨a, ha⟩ := h5 q hq
  exact ⟨a, vk_R.warm hW ha⟩
def cPc (emp : Nat) (D : va_G) (av : List Value) (ws : va_W) (tys : TysT) (sz : Nat) : Array Value → State → Prop :=
  va_Pc av (fun U => U.heap.size = sz ∧ va_P D vwCl ws U.heap ∧ va_K D vwCl tys U ∧ va_D (fun _ => True) ws ∧ SF emp (va_A ws sz) U U.heap)
theorem cPc_blind (emp : Nat) (D : va_G) (av : List Value) (ws : va_W) (tys : TysT) (sz : Nat) : FrameBlind (cPc emp D av ws tys sz) := fun a U g mk q => by
  obtain ⟨q0, q1, qP, qK, qD, qF⟩ := q
  exact ⟨q0, q1, qP, va_K.moved (u := U) (U := U.calling g mk a) (Vm.Alike.refl U.vm) qK, qD, qF.next (State.WarmedH.refl U) (fun _ _ _ => rfl) (fun _ h => h)⟩
def cMet {S : Type} (l : Launch) (y : MethodName) (wds : List Cond) (rm : Room) (emp : Nat) (Wd : S → WdT) (rk : S → Int → Option Value) (av : List Value) (u : S) (post : Int → S → Prop) : Prop :=
  l.stackTraces = false → ∀ (D : va_G) (ws : va_W) (tys : TysT) (sz : Nat), Wd u ws tys → Met l y wds rm (cPc emp D av ws tys sz) (xQ D Wd rk post (va_A ws sz)) rm.cells rm.slots (va_A ws sz)
/-- a contract's throw: which exception, with what state of the world -/
def cX {S : Type} (D : va_G) (Wd : S → WdT) (px : String → S → Prop) (A : Nat → Prop) : String → State → State → Prop := fun E st t =>
  (∃ (u : S) (ws : va_W) (tys : TysT), px E u ∧ Wd u ws tys ∧ va_P D vwCl ws t.heap ∧ va_K D vwCl tys t ∧ va_D A ws) ∧ va_F A st t
def vMet {S : Type} (l : Launch) (y : MethodName) (wds : List Cond) (rm : Room) (emp : Nat) (Wd : S → WdT) (rk : S → Int → Option Value) (av : List Value) (u : S) (post : Int → S → Prop) (px : String → S → Prop) : Prop :=
  l.stackTraces = false → ∀ (D : va_G) (ws : va_W) (tys : TysT) (sz : Nat), Wd u ws tys → vx_Met l y wds rm (cPc emp D av ws tys sz) (xQ D Wd rk post (va_A ws sz)) (cX D Wd px (va_A ws sz)) rm.cells rm.slots (va_A ws sz)
def kQX {S : Type} (K : KT) (Wd : S → WdT) (rk : S → Int → Option Value) (post : Int → S → Prop) (px : String → S → Prop) (rm : Room) : Prop :=
  K.Q = vx_MQ K.below (xQ K.D Wd rk post K.A) (cX K.D Wd px K.A) K.args K.s rm.cells rm.slots K.A
theorem cMet.of {S : Type} {l : Launch} {y : MethodName} {wds ws' : List Cond} {rm : Room} {emp : Nat} {Wd : S → WdT} {rk : S → Int → Option Value} {av : List Value} {u : S} {post : Int → S → Prop} {cc : ByteArray} {maxL : Nat} {ret : Option FieldType}
    (hy : plainName y.cls = true) (hw : wds = Cond.code y cc maxL ret :: ws') (hav : (lg_sl av).length ≤ maxL)
    (body : ∀ K : KT, K.l = l → kOK K cc y.cls wds ret rm → K.nL = maxL → kQ K Wd rk post rm → SF emp K.A K.s K.s.heap → K.l.stackTraces = false → (y.name = "<init>" → K.meth.name = "<init>") → G K (Wd u) (0, 0) (lv_args 0 av) 0 []) : cMet l y wds rm emp Wd rk av u post := by
  intro hst D ws tys sz hW
  refine Met.ofW (cc := cc) (maxL := maxL) (ret := ret) hy hw ?_
  intro p e s m args below meth c s₁ B hml hv
  obtain ⟨rfl, hsz, hP, hK, hD0, hF⟩ := hv
  subst hsz
  have hl := lv_entry av hav
  rw [lg_entry_eq]
  exact body (p, l, e, rm, s, m, av.toArray, below, meth, c, MQ below (xQ D Wd rk post (va_A ws s.heap.size)) av.toArray s rm.cells rm.slots (va_A ws s.heap.size), D, va_A ws s.heap.size, maxL) rfl
    ⟨B.exec, B.bytes, hml, findClass_of_methodNamed B.named, atoms_spec (ws := wds) B.pre, B.returns, B.notSynchronized, rfl, fun q h => Or.inr h, hy⟩ rfl rfl hF hst (fun h => (name_of_methodNamed B.named B.method).1.trans h)
    ws tys s.heap [] _ hW hK hP hD0.self va_S.rf hl
/-- the frame's table of exceptions is empty -/
def kNX (K : KT) : Prop := ∀ x ∈ K.c.exceptionTable.toList, False
theorem vMet.of {S : Type} {l : Launch} {y : MethodName} {wds ws' : List Cond} {rm : Room} {emp : Nat} {Wd : S → WdT} {rk : S → Int → Option Value} {av : List Value} {u : S} {post : Int → S → Prop} {px : String → S → Prop} {cc : ByteArray} {maxL : Nat} {ret : Option FieldType}
    (hy : plainName y.cls = true) (hw : wds = Cond.code y cc maxL ret :: ws') (hav : (lg_sl av).length ≤ maxL)
    (body : ∀ K : KT, K.l = l → kOK K cc y.cls wds ret rm → K.nL = maxL → kQX K Wd rk post px rm → SF emp K.A K.s K.s.heap → K.l.stackTraces = false → kNX K → G K (Wd u) (0, 0) (lv_args 0 av) 0 []) : vMet l y wds rm emp Wd rk av u post px := by
  intro hst D ws tys sz hW
  refine vx_ofW (cc := cc) (maxL := maxL) (ret := ret) hy hw ?_
  intro p e s m args below meth c s₁ B hml hnx hv
  obtain ⟨rfl, hsz, hP, hK, hD0, hF⟩ := hv
  subst hsz
  have hl := lv_entry av hav
  rw [lg_entry_eq]
  exact body (p, l, e, rm, s, m, av.toArray, below, meth, c, vx_MQ below (xQ D Wd rk post (va_A ws s.heap.size)) (cX D Wd px (va_A ws s.heap.size)) av.toArray s rm.cells rm.slots (va_A ws s.heap.size), D, va_A ws s.heap.size, maxL) rfl
    ⟨B.exec, B.bytes, hml, findClass_of_methodNamed B.named, atoms_spec (ws := wds) B.pre, B.returns, B.notSynchronized, rfl, fun q h => Or.inr h, hy⟩ rfl rfl hF hst hnx
    ws tys s.heap [] _ hW hK hP hD0.self va_S.rf hl
section CENDS
variable {S : Type} {K : KT} {cc : ByteArray} {own : String} {Ts : List Cond} {ret : Option FieldType} {R : Room} {Wd : S → WdT} {rk : S → Int → Option Value} {post : Int → S → Prop} {px : String → S → Prop} {rm : Room} {n : Nat × Nat} {loc : List (Nat × Value)} {pc : Nat} {st : List Value} {u : S} {r : Int}
/-- a goal of a method that may throw, where it returns: as of one that only returns -/
theorem y_ret (hQ : kQX K Wd rk post px rm) (k : ∀ K2 : KT, K2 = (K.1, K.2.1, K.2.2.1, K.2.2.2.1, K.2.2.2.2.1, K.2.2.2.2.2.1, K.2.2.2.2.2.2.1, K.2.2.2.2.2.2.2.1, K.2.2.2.2.2.2.2.2.1, K.2.2.2.2.2.2.2.2.2.1, MQ K.below (xQ K.D Wd rk post K.A) K.args K.s rm.cells rm.slots K.A, K.2.2.2.2.2.2.2.2.2.2.2) → G K2 (Wd u) n loc pc st) : G K (Wd u) n loc pc st := by
  intro ws tys H locs arr a b c d e f
  rw [hQ]
  exact vx_ret (k _ rfl ws tys H locs arr a b c d e f)
theorem y_iret (C : kOK K cc own Ts (some .int) R) (hQ : kQX K Wd rk post px rm) (hr : rk u r = some (.int (iZ r))) (hn : n.1 ≤ rm.cells ∧ n.2 ≤ rm.slots) (hd : decode cc pc = .ok (.ireturn, 1)) (hp : post r u) : G K (Wd u) n loc pc [.int (iZ r)] :=
  y_ret hQ (fun K2 h2 => by subst h2; exact x_iret C rfl hr hn hd hp)
theorem y_vret (C : kOK K cc own Ts none R) (hQ : kQX K Wd rk post px rm) (hr : rk u 0 = none) (hn : n.1 ≤ rm.cells ∧ n.2 ≤ rm.slots) (hd : decode cc pc = .ok (.return_, 1)) (hp : post 0 u) : G K (Wd u) n loc pc [] :=
  y_ret hQ (fun K2 h2 => by subst h2; exact x_vret C rfl hr hn hd hp)
theorem x_aret (C : kOK K cc own Ts ret R) (hQ : kQ K Wd rk post rm) {v : Value} {rt : FieldType} (hret : ret = some rt) (hrt : (∃ n, rt = .object n) ∨ ∃ t, rt = .array t) (hv : v = .null ∨ ∃ a, v = .ref a) (hr : rk u r = some v) (hn : n.1 ≤ rm.cells ∧ n.2 ≤ rm.slots) (hd : decode cc pc = .ok (.areturn, 1)) (hp : post r u) : G K (Wd u) n loc pc [v] := by
  intro ws tys H locs arr hW hK hP hD hS hl
  obtain ⟨c1, c2, c3, c4, c5, c6, c7, c8, c9⟩ := C
  rw [hQ]
  refine W.widen hn.1 hn.2 ?_
  exact W.aret (v := v) c1 c2 (c6.trans hret) hrt hv (fun t ht hw => ⟨⟨r, u, ws, tys, by rw [hr], hp, hW, by rw [ht]; exact hP, va_K.moved hw.alike hK, hD⟩, hS.F ht⟩) hS.2.2 hd c7
theorem y_aret (C : kOK K cc own Ts ret R) (hQ : kQX K Wd rk post px rm) {v : Value} {rt : FieldType} (hret : ret = some rt) (hrt : (∃ n, rt = .object n) ∨ ∃ t, rt = .array t) (hv : v = .null ∨ ∃ a, v = .ref a) (hr : rk u r = some v) (hn : n.1 ≤ rm.cells ∧ n.2 ≤ rm.slots) (hd : decode cc pc = .ok (.areturn, 1)) (hp : post r u) : G K (Wd u) n loc pc [v] :=
  y_ret hQ (fun K2 h2 => by
    subst h2
    refine x_aret (cc := cc) (own := own) (Ts := Ts) (R := R) (ret := ret) (Wd := Wd) (rk := rk) (post := post) (rm := rm) ?_ ?_ hret hrt hv hr hn hd hp
    · exact C
    · exact rfl)
theorem x_dret (C : kOK K cc own Ts (some .double) R) (hQ : kQ K Wd rk post rm) {v : UInt64} (hr : rk u r = some (.double v)) (hn : n.1 ≤ rm.cells ∧ n.2 ≤ rm.slots) (hd : decode cc pc = .ok (.dreturn, 1)) (hp : post r u) : G K (Wd u) n loc pc [.double v] := by
  intro ws tys H locs arr hW hK hP hD hS hl
  obtain ⟨c1, c2, c3, c4, c5, c6, c7, c8, c9⟩ := C
  rw [hQ]
  refine W.widen hn.1 hn.2 ?_
  exact W.dret (v := v) c1 c2 c6 (fun t ht hw => ⟨⟨r, u, ws, tys, by rw [hr], hp, hW, by rw [ht]; exact hP, va_K.moved hw.alike hK, hD⟩, hS.F ht⟩) hS.2.2 hd c7
/-- throw new E("text") -/
theorem y_throw (C : kOK K cc RX4 Ts ret R) (hQ : kQX K Wd rk post px rm) {emp : Nat} (hF : SF emp K.A K.s K.s.heap) (hl : K.l.stackTraces = false) (hnx : kNX K) {E text : String} {ik is ic : Nat} (hcls : Bundle.fit E = true) (hk : Cond.classLink RX4 ik E ∈ Ts) (hini : Cond.initialized E ∈ Ts) (hstr : (is, text) ∈ cStrs)
    (hat : ∀ w ∈ (vx_atS RX4 ic E ["java/lang/RuntimeException", "java/lang/Exception"]).filter goodWord, w ∈ Ts) (hE : (E, E) ∈ cCasts)
    (hat2 : ∀ w ∈ (vx_atS RX4 ic E ["java/lang/RuntimeException", "java/lang/Exception"]).filter (fun w => !goodWord w), w ∈ [Cond.castable E E, Cond.declares (Bundle.initS "java/lang/RuntimeException"), Cond.declares (Bundle.initS "java/lang/Exception"), Cond.declares (Bundle.initS Bundle.tN)])
    (hgood : ∀ w ∈ Cond.classLink RX4 ik E :: Cond.initialized E :: vx_atS RX4 ic E ["java/lang/RuntimeException", "java/lang/Exception"], vx_ot w = true)
    (d0 : decode cc pc = .ok (.new ik, 3)) (d3 : decode cc (pc + 3) = .ok (.dup, 1)) (d4 : decode cc (pc + 4) = .ok (.ldc is, 2)) (d6 : decode cc (pc + 6) = .ok (.invokespecial ic, 3)) (d9 : decode cc (pc + 9) = .ok (.athrow, 1))
    (hRf : 5 < R.frames) (hRl : (st.map fun v => v.category).sum + 82 ≤ R.locals) (hRc : n.1 + 1 ≤ R.cells) (hRs : n.2 + 6 ≤ R.slots) (hnm : n.1 + 1 ≤ rm.cells ∧ n.2 + 6 ≤ rm.slots) (hp : px E u) : G K (Wd u) n loc pc st := by
  intro ws tys H locs arr hW hK hP hD hS hl2
  obtain ⟨c1, c2, c3, c4, c5, c6, c7, rfl, c9⟩ := C
  obtain ⟨⟨h1, h2⟩, ⟨h3, h4⟩, h5, h6, h7, h8⟩ := hF
  obtain ⟨sa, hsa⟩ := h5 _ hstr
  rw [hQ]
  have hdm : ∀ x ∈ cDecls, (Cond.declares x).before K.args K.s = true := fun x hx => va_Nw.use rfl (h7 x hx)
  exact vx_throwS (names := ["java/lang/RuntimeException", "java/lang/Exception"]) (ik := ik) (is := is) (ic := ic) (sa := sa) c1 c2 hl c4 hcls (by decide +kernel) (c5 _ hk) (c5 _ hini) hsa
    (vx_hat (fun w hw => c5 _ (hat w hw)) hat2 (vx_c (va_Nw.use rfl (h6 _ hE)) (vx_c (hdm _ (by simp [cDecls])) (vx_c (hdm _ (by simp [cDecls])) (vx_c (hdm _ (by simp [cDecls])) vx_n)))))
    hgood h3 h4 hS (hl2.1.trans c3.symm) d0 d3 d4 d6 d9 (fun x hx => absurd (hnx x hx) id) hRf (by show _ + (13 * 3 + 43) ≤ _; omega) hRc hRs c7
    (fun t ha hz hq => ⟨⟨u, ws, tys, hp, hW, hP.kept (fun k q hk => hq q.1 (hP k q hk).lt), va_K.moved ha hK, hD⟩, Nat.le_trans hS.1 hz, fun q h9 h10 => (hq q (Nat.lt_of_lt_of_le h9 hS.1)).trans (hS.2.1 q h9 h10)⟩) hS.2.2 hnm.1 hnm.2
/-- the same, the text by a wide index -/
theorem y_throwW (C : kOK K cc RX4 Ts ret R) (hQ : kQX K Wd rk post px rm) {emp : Nat} (hF : SF emp K.A K.s K.s.heap) (hl : K.l.stackTraces = false) (hnx : kNX K) {E text : String} {ik is ic : Nat} (hcls : Bundle.fit E = true) (hk : Cond.classLink RX4 ik E ∈ Ts) (hini : Cond.initialized E ∈ Ts) (hstr : (is, text) ∈ cStrs)
    (hat : ∀ w ∈ (vx_atS RX4 ic E ["java/lang/RuntimeException", "java/lang/Exception"]).filter goodWord, w ∈ Ts) (hE : (E, E) ∈ cCasts)
    (hat2 : ∀ w ∈ (vx_atS RX4 ic E ["java/lang/RuntimeException", "java/lang/Exception"]).filter (fun w => !goodWord w), w ∈ [Cond.castable E E, Cond.declares (Bundle.initS "java/lang/RuntimeException"), Cond.declares (Bundle.initS "java/lang/Exception"), Cond.declares (Bundle.initS Bundle.tN)])
    (hgood : ∀ w ∈ Cond.classLink RX4 ik E :: Cond.initialized E :: vx_atS RX4 ic E ["java/lang/RuntimeException", "java/lang/Exception"], vx_ot w = true)
    (d0 : decode cc pc = .ok (.new ik, 3)) (d3 : decode cc (pc + 3) = .ok (.dup, 1)) (d4 : decode cc (pc + 4) = .ok (.ldc_w is, 3)) (d7 : decode cc (pc + 7) = .ok (.invokespecial ic, 3)) (d10 : decode cc (pc + 10) = .ok (.athrow, 1))
    (hRf : 5 < R.frames) (hRl : (st.map fun v => v.category).sum + 82 ≤ R.locals) (hRc : n.1 + 1 ≤ R.cells) (hRs : n.2 + 6 ≤ R.slots) (hnm : n.1 + 1 ≤ rm.cells ∧ n.2 + 6 ≤ rm.slots) (hp : px E u) : G K (Wd u) n loc pc st := by
  intro ws tys H locs arr hW hK hP hD hS hl2
  obtain ⟨c1, c2, c3, c4, c5, c6, c7, rfl, c9⟩ := C
  obtain ⟨⟨h1, h2⟩, ⟨h3, h4⟩, h5, h6, h7, h8⟩ := hF
  obtain ⟨sa, hsa⟩ := h5 _ hstr
  rw [hQ]
  have hdm : ∀ x ∈ cDecls, (Cond.declares x).before K.args K.s = true := fun x hx => va_Nw.use rfl (h7 x hx)
  exact vx_throwSW (names := ["java/lang/RuntimeException", "java/lang/Exception"]) (ik := ik) (is := is) (ic := ic) (sa := sa) c1 c2 hl c4 hcls (by decide +kernel) (c5 _ hk) (c5 _ hini) hsa
    (vx_hat (fun w hw => c5 _ (hat w hw)) hat2 (vx_c (va_Nw.use rfl (h6 _ hE)) (vx_c (hdm _ (by simp [cDecls])) (vx_c (hdm _ (by simp [cDecls])) (vx_c (hdm _ (by simp [cDecls])) vx_n)))))
    hgood h3 h4 hS (hl2.1.trans c3.symm) d0 d3 d4 d7 d10 (fun x hx => absurd (hnx x hx) id) hRf (by show _ + (13 * 3 + 43) ≤ _; omega) hRc hRs c7
    (fun t ha hz hq => ⟨⟨u, ws, tys, hp, hW, hP.kept (fun k q hk => hq q.1 (hP k q hk).lt), va_K.moved ha hK, hD⟩, Nat.le_trans hS.1 hz, fun q h9 h10 => (hq q (Nat.lt_of_lt_of_le h9 hS.1)).trans (hS.2.1 q h9 h10)⟩) hS.2.2 hnm.1 hnm.2
end CENDS
section CCALLS
variable {S S0 : Type} {K : KT} {cc : ByteArray} {own : String} {Ts : List Cond} {ret ret' : Option FieldType} {R : Room} {Wd : S → WdT} {rk : S → Int → Option Value} {post : Int → S → Prop} {px : String → S → Prop} {rm rm0 : Room} {n : Nat × Nat} {loc : List (Nat × Value)} {pc : Nat} {st : List Value} {u : S} {y : MethodName} {wds : List Cond} {index maxL nargs emp : Nat} {bytes : ByteArray} {As rest : List Value} {b ci : Nat} {q : vw_C}
theorem c_sub {ws : va_W} {H : Heap} {locs : List Loc} (hD : va_D K.A ws) (hS : va_S K.A K.s.heap H locs) (hA : ∀ q, K.s.heap.size ≤ q → K.A q) : ∀ q, va_A ws H.size q → K.A q := by
  intro q h
  rcases h with ⟨k, e, h⟩ | h
  · exact hD.2 k (q, e) h
  · exact hA q (Nat.le_trans hS.1 h)
theorem c_pre {ws : va_W} {tys : TysT} {H : Heap} {locs : List Loc} {av : List Value} (hF : SF emp K.A K.s K.s.heap) (hA : ∀ q, K.s.heap.size ≤ q → K.A q) (hK : va_K K.D vwCl tys K.s) (hP : va_P K.D vwCl ws H) (hD : va_D K.A ws) (hS : va_S K.A K.s.heap H locs) :
    ∀ U : State, U.heap = H → K.s.WarmedH U.vm → cPc emp K.D av ws tys H.size av.toArray U := fun U hU hw =>
  ⟨rfl, by rw [hU], by rw [hU]; exact hP, va_K.moved hw.alike hK, hD.weaken (fun _ _ _ _ => trivial), by rw [hU]; exact hF.next hw hS.2.1 (c_sub hD hS hA)⟩
theorem c_callV (C : kOK K cc own Ts ret R) (hF : SF emp K.A K.s K.s.heap) (hst : K.l.stackTraces = false) (hM : cMet K.l y wds rm emp Wd rk (.ref b :: As) u post) (hcl : vwCl[ci]? = some q) (hrecv : ∀ ws tys, Wd u ws tys → ∃ (q0 : Nat) (fs : List Value), ws[q0]? = some (b, .inr (ci, fs)))
    (cw : (∀ w ∈ Ts, w.before K.args K.s = true) → CallW R K.s K.args own q.1 index y bytes maxL ret' wds rm rm.cells rm.slots nargs) (hn : As.length = nargs) {stk : List Value} (hstk : stk = As.reverse ++ .ref b :: rest) (hr8 : (rest.map fun v => v.category).sum ≤ 8) (hf : n.1 + rm.cells ≤ R.cells ∧ n.2 + rm.slots ≤ R.slots) (hd : decode cc pc = .ok (.invokevirtual index, 3))
    (kk : ∀ (r : Int) (u' : S), post r u' → G K (Wd u') (n.1 + rm.cells, n.2 + rm.slots) loc (pc + 3) ((rk u' r).toList ++ rest)) : G K (Wd u) n loc pc stk := by
  intro ws tys H locs arr hW hK hP hD hS hl
  obtain ⟨c1, c2, c3, c4, c5, c6, c7, c8, c9, c10⟩ := C
  subst hstk c8
  obtain ⟨q0, fs, he⟩ := hrecv ws tys hW
  have hr := va_runV (e := K.e) (below := K.below) (meth := K.meth) (H := H) (locs := locs) (cells := n.1) (slots := n.2) (g := F0 K.m pc arr (As.reverse ++ .ref b :: rest)) (rest := rest) (As := As) ⟨c1, c2, c3, c4, c5⟩ (hM hst K.D ws tys H.size hW) (cw c5) ⟨cPc_blind emp K.D _ ws tys H.size, va_recv hK hP hcl he, c_pre hF c9 hK hP hD hS⟩ rfl hn hl.1 rfl (lv_room (ls := arr) (m := K.m) (pc := pc) hr8) hd hf
  exact x_back hD hS c9 hl hr kk
theorem c_callS (C : kOK K cc own Ts ret R) (hF : SF emp K.A K.s K.s.heap) (hst : K.l.stackTraces = false) (hM : cMet K.l y wds rm emp Wd rk As u post)
    (cw : (∀ w ∈ Ts, w.before K.args K.s = true) → CallB R K.s K.args own index y bytes maxL ret' wds rm rm.cells rm.slots nargs ∧ (Cond.static y).before K.args K.s = true) (hn : As.length = nargs) {stk : List Value} (hstk : stk = As.reverse ++ rest) (hr8 : (rest.map fun v => v.category).sum ≤ 8) (hf : n.1 + rm.cells ≤ R.cells ∧ n.2 + rm.slots ≤ R.slots) (hd : decode cc pc = .ok (.invokestatic index, 3))
    (kk : ∀ (r : Int) (u' : S), post r u' → G K (Wd u') (n.1 + rm.cells, n.2 + rm.slots) loc (pc + 3) ((rk u' r).toList ++ rest)) : G K (Wd u) n loc pc stk := by
  intro ws tys H locs arr hW hK hP hD hS hl
  obtain ⟨c1, c2, c3, c4, c5, c6, c7, c8, c9, c10⟩ := C
  subst hstk c8
  have hr := va_runS (e := K.e) (below := K.below) (meth := K.meth) (H := H) (locs := locs) (cells := n.1) (slots := n.2) (g := F0 K.m pc arr (As.reverse ++ rest)) (rest := rest) (As := As) ⟨c1, c2, c3, c4, c5⟩ (hM hst K.D ws tys H.size hW) (cw c5) ⟨cPc_blind emp K.D _ ws tys H.size, c_pre hF c9 hK hP hD hS⟩ rfl hn hl.1 rfl (lv_room (ls := arr) (m := K.m) (pc := pc) hr8) hd hf
  exact x_back hD hS c9 hl hr kk
theorem c_callI (C : kOK K cc own Ts ret R) (hF : SF emp K.A K.s K.s.heap) (hst : K.l.stackTraces = false) (hM : cMet K.l y wds rm emp Wd rk (.ref b :: As) u post)
    (cw : (∀ w ∈ Ts, w.before K.args K.s = true) → CallB R K.s K.args own index y bytes maxL none wds rm rm.cells rm.slots nargs ∧ y.name = "<init>" ∧ (Cond.instanceMethod y).before K.args K.s = true) (hn : As.length = nargs) {stk : List Value} (hstk : stk = As.reverse ++ .ref b :: rest) (hr8 : (rest.map fun v => v.category).sum ≤ 8) (hf : n.1 + rm.cells ≤ R.cells ∧ n.2 + rm.slots ≤ R.slots) (hd : decode cc pc = .ok (.invokespecial index, 3))
    (kk : ∀ (r : Int) (u' : S), post r u' → G K (Wd u') (n.1 + rm.cells, n.2 + rm.slots) loc (pc + 3) ((rk u' r).toList ++ rest)) : G K (Wd u) n loc pc stk := by
  intro ws tys H locs arr hW hK hP hD hS hl
  obtain ⟨c1, c2, c3, c4, c5, c6, c7, c8, c9, c10⟩ := C
  subst hstk c8
  have hr := va_runI (e := K.e) (below := K.below) (meth := K.meth) (H := H) (locs := locs) (cells := n.1) (slots := n.2) (g := F0 K.m pc arr (As.reverse ++ .ref b :: rest)) (rest := rest) (As := As) ⟨c1, c2, c3, c4, c5⟩ (hM hst K.D ws tys H.size hW) (cw c5) ⟨cPc_blind emp K.D _ ws tys H.size, c_pre hF c9 hK hP hD hS⟩ rfl hn hl.1 rfl (lv_room (ls := arr) (m := K.m) (pc := pc) hr8) hd hf
  exact x_back hD hS c9 hl hr kk
/-- a call of a method that may throw, out of one that may throw and lets it pass: kx hands the exception on -/
theorem c_callX {Wd0 : S0 → WdT} {rk0 : S0 → Int → Option Value} {post0 : Int → S0 → Prop} {px0 : String → S0 → Prop} (C : kOK K cc own Ts ret R) (hQ : kQX K Wd0 rk0 post0 px0 rm0) (hnx : kNX K) (hF : SF emp K.A K.s K.s.heap) (hst : K.l.stackTraces = false) (hM : vMet K.l y wds rm emp Wd rk (.ref b :: As) u post px) (hcl : vwCl[ci]? = some q) (hrecv : ∀ ws tys, Wd u ws tys → ∃ (q0 : Nat) (fs : List Value), ws[q0]? = some (b, .inr (ci, fs)))
    (cw : (∀ w ∈ Ts, w.before K.args K.s = true) → CallW R K.s K.args own q.1 index y bytes maxL ret' wds rm rm.cells rm.slots nargs) (hn : As.length = nargs) {stk : List Value} (hstk : stk = As.reverse ++ .ref b :: rest) (hr8 : (rest.map fun v => v.category).sum ≤ 8) (hf : n.1 + rm.cells ≤ R.cells ∧ n.2 + rm.slots ≤ R.slots) (hf0 : n.1 + rm.cells ≤ rm0.cells ∧ n.2 + rm.slots ≤ rm0.slots) (hd : decode cc pc = .ok (.invokevirtual index, 3))
    (kx : ∀ (E : String) (u' : S), px E u' → ∃ u0 : S0, px0 E u0 ∧ ∀ ws tys, Wd u' ws tys → Wd0 u0 ws tys)
    (kk : ∀ (r : Int) (u' : S), post r u' → G K (Wd u') (n.1 + rm.cells, n.2 + rm.slots) loc (pc + 3) ((rk u' r).toList ++ rest)) : G K (Wd u) n loc pc stk := by
  intro ws tys H locs arr hW hK hP hD hS hl
  obtain ⟨c1, c2, c3, c4, c5, c6, c7, c8, c9, c10⟩ := C
  subst hstk c8
  obtain ⟨q0, fs, he⟩ := hrecv ws tys hW
  have hr := vx_runV (e := K.e) (below := K.below) (meth := K.meth) (H := H) (locs := locs) (cells := n.1) (slots := n.2) (g := F0 K.m pc arr (As.reverse ++ .ref b :: rest)) (rest := rest) (As := As) ⟨c1, c2, c3, c4, c5⟩ (hM hst K.D ws tys H.size hW) (cw c5) ⟨cPc_blind emp K.D _ ws tys H.size, va_recv hK hP hcl he, c_pre hF c9 hK hP hD hS⟩ rfl hn hl.1 rfl (lv_room (ls := arr) (m := K.m) (pc := pc) hr8) hd hf
  have hsub := c_sub hD hS c9
  intro T hT X
  rcases hr T hT X with ⟨v, st₀, t, T', L, h0, X', hL, e1, e2, ⟨⟨r, u', ws', tys', hv, hp, hw', hP', hK', hD'⟩, hz, hk⟩, stp⟩ | ⟨q9, st₀, t, T', L, E, ce, h0, X', hL, e1, e2, ⟨⟨u', ws', tys', hp, hw', hP', hK', hD'⟩, hz, hk⟩, hce, hcv, hcl9, stp⟩
  · cases hv
    rw [h0] at hz hk
    obtain ⟨t2, a1, b1⟩ := kk r u' hp ws' tys' T'.heap (locs ++ L) arr hw' (va_K.moved (show K.s.vm.Alike t.vm by rw [← e2]; exact X'.warmed.alike).symm hK') (by rw [e1]; exact hP') (hD'.weaken (fun _ _ _ h => hsub _ h))
      ⟨Nat.le_trans hS.1 (by rw [e1]; exact hz), fun q h1 h2 => by rw [e1, hk q (Nat.lt_of_lt_of_le h1 hS.1) (fun z => h2 (hsub q z))]; exact hS.2.1 q h1 h2, fun q hq => by
        rcases List.mem_append.mp hq with h | h
        · exact hS.2.2 q h
        · exact hsub _ (hL q h)⟩ hl T' rfl X'
    exact ⟨t2, stp t2 a1, b1⟩
  · rw [h0] at hz hk
    obtain ⟨u0, hp0, hw0⟩ := kx E u' hp
    have hS' : va_S K.A K.s.heap T'.heap (locs ++ L) := ⟨Nat.le_trans hS.1 (by rw [e1]; exact hz), fun q h1 h2 => by rw [e1, hk q (Nat.lt_of_lt_of_le h1 hS.1) (fun z => h2 (hsub q z))]; exact hS.2.1 q h1 h2, fun q hq => by
        rcases List.mem_append.mp hq with h | h
        · exact hS.2.2 q h
        · exact hsub _ (hL q h)⟩
    have key : vx_W K.p K.l K.e K.R K.s K.m K.args K.below K.meth K.c T'.heap (locs ++ L) (n.1 + rm.cells) (n.2 + rm.slots) K.Q (F0 K.m pc arr rest) q9 := by
      rw [hQ]
      refine vx_out (E := E) (ce := ce) (fun x hx => absurd (hnx x hx) id) c7 (by rw [e1]; exact hce) hcv hcl9 (fun t9 ht9 ha9 => ?_) hS'.2.2 hf0.1 hf0.2
      have hKs : va_K K.D vwCl tys' K.s := va_K.moved (show K.s.vm.Alike t.vm by rw [← e2]; exact X'.warmed.alike).symm hK'
      exact ⟨⟨u0, ws', tys', hp0, hw0 _ _ hw', by rw [ht9, e1]; exact hP', va_K.moved ha9 hKs, hD'.weaken (fun _ _ _ h => hsub _ h)⟩, by rw [ht9]; exact hS'.1, fun q h1 h2 => by rw [ht9]; exact hS'.2.1 q h1 h2⟩
    obtain ⟨t2, a1, b1⟩ := key T' rfl X'
    exact ⟨t2, stp.trans a1, b1⟩
end CCALLS
