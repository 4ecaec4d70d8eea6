/-! BASE: whole numbers as ints; goals over a world that a predicate allows; contracts over such worlds; a row an instruction. -/
def iZ (z : Int) : Int32 := Int32.ofInt z
def lZ (z : Int) : Int64 := Int64.ofInt z
theorem iZ_toInt {z : Int} (h : -2147483648 ≤ z ∧ z < 2147483648) : (iZ z).toInt = z := Int32.toInt_ofInt_of_le h.1 h.2
theorem iZ_self (x : Int32) : iZ x.toInt = x := Int32.ofInt_toInt x
theorem iZ_lt {a b : Int} (ha : -2147483648 ≤ a ∧ a < 2147483648) (hb : -2147483648 ≤ b ∧ b < 2147483648) : iZ a < iZ b ↔ a < b := by
  rw [Int32.lt_iff_toInt_lt, iZ_toInt ha, iZ_toInt hb]
theorem iZ_le {a b : Int} (ha : -2147483648 ≤ a ∧ a < 2147483648) (hb : -2147483648 ≤ b ∧ b < 2147483648) : iZ a ≤ iZ b ↔ a ≤ b := by
  rw [Int32.le_iff_toInt_le, iZ_toInt ha, iZ_toInt hb]
theorem iZ_eq {a b : Int} (ha : -2147483648 ≤ a ∧ a < 2147483648) (hb : -2147483648 ≤ b ∧ b < 2147483648) : iZ a = iZ b ↔ a = b := by
  rw [← Int32.toInt_inj, iZ_toInt ha, iZ_toInt hb]
theorem iZ_add (a b : Int) : iZ a + iZ b = iZ (a + b) := (Int32.ofInt_add a b).symm
theorem iZ_sub (a b : Int) : iZ a - iZ b = iZ (a - b) := (Int32.ofInt_sub a b).symm
theorem iZ_mul (a b : Int) : iZ a * iZ b = iZ (a * b) := (Int32.ofInt_mul a b).symm
theorem iZ_cl {e : Int} (h0 : 0 ≤ e) (h : e < 2147483648) : ((iZ e).toNatClampNeg : Int) = e := by
  have h1 : (iZ e).toNatClampNeg = (iZ e).toInt.toNat := rfl
  rw [h1, iZ_toInt ⟨by omega, h⟩]
  omega
theorem iZ_in {e : Int} {N : Nat} (h0 : 0 ≤ e) (h : e < N) (hN : N < 2147483648) : vp_in (iZ e) N := by
  rw [vp_in_iff, iZ_toInt ⟨by omega, by omega⟩]
  exact ⟨h0, h⟩
/-- an array's contents out of whole numbers -/
def fA (f : Int → Int) : Nat → Int32 := fun k => iZ (f k)
def upI (f : Int → Int) (e v : Int) : Int → Int := fun k => if k = e then v else f k
theorem fA_at {f : Int → Int} {e : Int} (h0 : 0 ≤ e) (h : e < 2147483648) : fA f (iZ e).toNatClampNeg = iZ (f e) := by
  show iZ (f ((iZ e).toNatClampNeg : Int)) = _
  rw [iZ_cl h0 h]
theorem fA_up {f : Int → Int} {e v : Int} (h0 : 0 ≤ e) (h : e < 2147483648) : upd (fA f) (iZ e).toNatClampNeg (iZ v) = fA (upI f e v) := by
  funext k
  show (if k = (iZ e).toNatClampNeg then iZ v else iZ (f k)) = iZ (if (k : Int) = e then v else f k)
  have hc := iZ_cl h0 h
  by_cases hk : k = (iZ e).toNatClampNeg
  · rw [if_pos hk, if_pos (by rw [hk]; exact hc)]
  · rw [if_neg hk, if_neg (by intro q; exact hk (by omega))]
/-- what stays over a method's walk -/
abbrev KT : Type := Program × Launch × Env × Room × State × MethodId × Array Value × List Frame × Method × Code × (State → Prop) × va_G × (Nat → Prop) × Nat
abbrev KT.p (K : KT) : Program := K.1
abbrev KT.l (K : KT) : Launch := K.2.1
abbrev KT.e (K : KT) : Env := K.2.2.1
abbrev KT.R (K : KT) : Room := K.2.2.2.1
abbrev KT.s (K : KT) : State := K.2.2.2.2.1
abbrev KT.m (K : KT) : MethodId := K.2.2.2.2.2.1
abbrev KT.args (K : KT) : Array Value := K.2.2.2.2.2.2.1
abbrev KT.below (K : KT) : List Frame := K.2.2.2.2.2.2.2.1
abbrev KT.meth (K : KT) : Method := K.2.2.2.2.2.2.2.2.1
abbrev KT.c (K : KT) : Code := K.2.2.2.2.2.2.2.2.2.1
abbrev KT.Q (K : KT) : State → Prop := K.2.2.2.2.2.2.2.2.2.2.1
abbrev KT.D (K : KT) : va_G := K.2.2.2.2.2.2.2.2.2.2.2.1
abbrev KT.A (K : KT) : Nat → Prop := K.2.2.2.2.2.2.2.2.2.2.2.2.1
abbrev KT.nL (K : KT) : Nat := K.2.2.2.2.2.2.2.2.2.2.2.2.2
abbrev TysT : Type := List (ClassId × FieldType)
abbrev WdT : Type := va_W → TysT → Prop
/-- the goal at a place of the code: every world that Wd allows leads on -/
def G (K : KT) (Wd : WdT) (n : Nat × Nat) (loc : List (Nat × Value)) (pc : Nat) (st : List Value) : Prop :=
  ∀ (ws : va_W) (tys : TysT) (H : Heap) (locs : List Loc) (arr : Array Slot), Wd ws tys → va_K K.D vwCl tys K.s → va_P K.D vwCl ws H → va_D K.A ws → va_S K.A K.s.heap H locs → lv_has arr K.nL loc →
    W K.p K.l K.e K.R K.s K.m K.args K.below K.meth K.c H locs n.1 n.2 K.Q (F0 K.m pc arr st)
def kOK (K : KT) (cc : ByteArray) (own : String) (Ts : List Cond) (ret : Option FieldType) (R : Room) : Prop :=
  K.p.tables.exec = Jvm.exec ∧ K.c.code = cc ∧ K.c.maxLocals = K.nL ∧ K.s.vm.findClass own = some K.m.cls ∧ (∀ w ∈ Ts, w.before K.args K.s = true) ∧ K.meth.sig.returnType = ret ∧ K.meth.locks = false ∧ K.R = R ∧ (∀ q, K.s.heap.size ≤ q → K.A q) ∧ plainName own = true
/-- a contract's end: an answer r, a state of the world that goes with it -/
def xQ {S : Type} (D : va_G) (Wd : S → WdT) (rk : S → Int → Option Value) (post : Int → S → Prop) (A : Nat → Prop) : Array Value → State → Outcome → State → Prop := fun _ st oc t =>
  (∃ (r : Int) (u : S) (ws : va_W) (tys : TysT), oc = .returned (rk u r) ∧ post r u ∧ Wd u ws tys ∧ va_P D vwCl ws t.heap ∧ va_K D vwCl tys t ∧ va_D A ws) ∧ va_F A st t
def xPc (D : va_G) (av : List Value) (ws : va_W) (tys : TysT) (sz : Nat) : Array Value → State → Prop :=
  va_Pc av (fun U => U.heap.size = sz ∧ va_P D vwCl ws U.heap ∧ va_K D vwCl tys U ∧ va_D (fun _ => True) ws)
def xMet {S : Type} (l : Launch) (y : MethodName) (wds : List Cond) (rm : Room) (Wd : S → WdT) (rk : S → Int → Option Value) (av : List Value) (u : S) (post : Int → S → Prop) : Prop :=
  ∀ (D : va_G) (ws : va_W) (tys : TysT) (sz : Nat), Wd u ws tys → Met l y wds rm (xPc D av ws tys sz) (xQ D Wd rk post (va_A ws sz)) rm.cells rm.slots (va_A ws sz)
def kQ {S : Type} (K : KT) (Wd : S → WdT) (rk : S → Int → Option Value) (post : Int → S → Prop) (rm : Room) : Prop :=
  K.Q = MQ K.below (xQ K.D Wd rk post K.A) K.args K.s rm.cells rm.slots K.A
theorem xPc_blind (D : va_G) (av : List Value) (ws : va_W) (tys : TysT) (sz : Nat) : FrameBlind (xPc D av ws tys sz) := fun a U g mk q => by
  obtain ⟨q0, q1, qP, qK, qD⟩ := q
  exact ⟨q0, q1, qP, va_K.moved (u := U) (U := U.calling g mk a) (Vm.Alike.refl U.vm) qK, qD⟩
/-- a method's contract out of its walk -/
theorem xMet.of {S : Type} {l : Launch} {y : MethodName} {wds ws' : List Cond} {rm : Room} {Wd : S → WdT} {rk : S → Int → Option Value} {av : List Value} {u : S} {post : Int → S → Prop} {cc : ByteArray} {maxL : Nat} {ret : Option FieldType}
    (hy : plainName y.cls = true) (hw : wds = Cond.code y cc maxL ret :: ws') (hav : (lg_sl av).length ≤ maxL)
    (body : ∀ K : KT, K.l = l → kOK K cc y.cls wds ret rm → kQ K Wd rk post rm → K.nL = maxL → (y.name = "<init>" → K.meth.name = "<init>") → G K (Wd u) (0, 0) (lv_args 0 av) 0 []) : xMet l y wds rm Wd rk av u post := by
  intro D ws tys sz hW
  refine Met.ofW (cc := cc) (maxL := maxL) (ret := ret) hy hw ?_
  intro p e s m args below meth c s₁ B hml hv
  obtain ⟨rfl, hsz, hP, hK, hD0⟩ := hv
  subst hsz
  have hl := lv_entry av hav
  rw [lg_entry_eq]
  exact body (p, l, e, rm, s, m, av.toArray, below, meth, c, MQ below (xQ D Wd rk post (va_A ws s.heap.size)) av.toArray s rm.cells rm.slots (va_A ws s.heap.size), D, va_A ws s.heap.size, maxL) rfl
    ⟨B.exec, B.bytes, hml, findClass_of_methodNamed B.named, atoms_spec (ws := wds) B.pre, B.returns, B.notSynchronized, rfl, fun q h => Or.inr h, hy⟩ rfl rfl (fun h => (name_of_methodNamed B.named B.method).1.trans h)
    ws tys s.heap [] _ hW hK hP hD0.self va_S.rf hl
section ROWS
variable {K : KT} {cc : ByteArray} {own : String} {Ts : List Cond} {ret : Option FieldType} {R : Room} {Wd : WdT} {n : Nat × Nat} {loc : List (Nat × Value)} {pc : Nat} {st : List Value}
theorem g_sub {loc' : List (Nat × Value)} (ks : List Nat) (h : lv_pick loc ks = loc') (k : G K Wd n loc' pc st) : G K Wd n loc pc st :=
  fun ws tys H locs arr a b c d e f => k ws tys H locs arr a b c d e (lv_sub f ks h)
theorem g_widen {n' : Nat × Nat} (h : n.1 ≤ n'.1 ∧ n.2 ≤ n'.2) (k : G K Wd n' loc pc st) : G K Wd n loc pc st :=
  fun ws tys H locs arr a b c d e f => W.widen h.1 h.2 (k ws tys H locs arr a b c d e f)
theorem g_iload_n (C : kOK K cc own Ts ret R) {j : Fin 4} {i : Nat} {x : Int32} (q : Nat) (hd : decode cc pc = .ok (.iload_n j, 1)) (hi : (j : Nat) = i) (hl : loc[q]? = some (i, .int x)) (k : G K Wd n loc (pc + 1) (.int x :: st)) : G K Wd n loc pc st :=
  fun ws tys H locs arr a b c d e f => lv_iload_n C.1 C.2.1 hd hi (lv_at f q hl) (k ws tys H locs arr a b c d e f)
theorem g_iload (C : kOK K cc own Ts ret R) {i : Nat} {x : Int32} (q : Nat) (hd : decode cc pc = .ok (.iload i, 2)) (hl : loc[q]? = some (i, .int x)) (k : G K Wd n loc (pc + 2) (.int x :: st)) : G K Wd n loc pc st :=
  fun ws tys H locs arr a b c d e f => lv_iload C.1 C.2.1 hd (lv_at f q hl) (k ws tys H locs arr a b c d e f)
theorem g_aload_n (C : kOK K cc own Ts ret R) {j : Fin 4} {i : Nat} {x : Nat} (q : Nat) (hd : decode cc pc = .ok (.aload_n j, 1)) (hi : (j : Nat) = i) (hl : loc[q]? = some (i, .ref x)) (k : G K Wd n loc (pc + 1) (.ref x :: st)) : G K Wd n loc pc st :=
  fun ws tys H locs arr a b c d e f => lv_aload_n C.1 C.2.1 hd hi (lv_at f q hl) (k ws tys H locs arr a b c d e f)
theorem g_aload (C : kOK K cc own Ts ret R) {i : Nat} {x : Nat} (q : Nat) (hd : decode cc pc = .ok (.aload i, 2)) (hl : loc[q]? = some (i, .ref x)) (k : G K Wd n loc (pc + 2) (.ref x :: st)) : G K Wd n loc pc st :=
  fun ws tys H locs arr a b c d e f => lv_aload C.1 C.2.1 hd (lv_at f q hl) (k ws tys H locs arr a b c d e f)
theorem g_istore_n (C : kOK K cc own Ts ret R) {j : Fin 4} {i nL : Nat} {x : Int32} {loc' : List (Nat × Value)} (hn : K.nL = nL) (hd : decode cc pc = .ok (.istore_n j, 1)) (hi : (j : Nat) = i) (hlt : i < nL) (hl : (i, Value.int x) :: loc.filter (fun q => !(q.1 == i) && !(q.1 + 1 == i && q.2.category == 2)) = loc')
    (k : G K Wd n loc' (pc + 1) st) : G K Wd n loc pc (.int x :: st) :=
  fun ws tys H locs arr a b c d e f => lv_istore_n C.1 C.2.1 hd hi f (by rw [hn]; exact hlt) hl (fun arr' f' => k ws tys H locs arr' a b c d e f')
theorem g_istore (C : kOK K cc own Ts ret R) {i nL : Nat} {x : Int32} {loc' : List (Nat × Value)} (hn : K.nL = nL) (hd : decode cc pc = .ok (.istore i, 2)) (hlt : i < nL) (hl : (i, Value.int x) :: loc.filter (fun q => !(q.1 == i) && !(q.1 + 1 == i && q.2.category == 2)) = loc')
    (k : G K Wd n loc' (pc + 2) st) : G K Wd n loc pc (.int x :: st) :=
  fun ws tys H locs arr a b c d e f => lv_istore C.1 C.2.1 hd f (by rw [hn]; exact hlt) hl (fun arr' f' => k ws tys H locs arr' a b c d e f')
theorem g_astore_n (C : kOK K cc own Ts ret R) {j : Fin 4} {i nL : Nat} {x : Nat} {loc' : List (Nat × Value)} (hn : K.nL = nL) (hd : decode cc pc = .ok (.astore_n j, 1)) (hi : (j : Nat) = i) (hlt : i < nL) (hl : (i, Value.ref x) :: loc.filter (fun q => !(q.1 == i) && !(q.1 + 1 == i && q.2.category == 2)) = loc')
    (k : G K Wd n loc' (pc + 1) st) : G K Wd n loc pc (.ref x :: st) :=
  fun ws tys H locs arr a b c d e f => lv_astore_n C.1 C.2.1 hd hi f (by rw [hn]; exact hlt) hl (fun arr' f' => k ws tys H locs arr' a b c d e f')
theorem g_astore (C : kOK K cc own Ts ret R) {i nL : Nat} {x : Nat} {loc' : List (Nat × Value)} (hn : K.nL = nL) (hd : decode cc pc = .ok (.astore i, 2)) (hlt : i < nL) (hl : (i, Value.ref x) :: loc.filter (fun q => !(q.1 == i) && !(q.1 + 1 == i && q.2.category == 2)) = loc')
    (k : G K Wd n loc' (pc + 2) st) : G K Wd n loc pc (.ref x :: st) :=
  fun ws tys H locs arr a b c d e f => lv_astore C.1 C.2.1 hd f (by rw [hn]; exact hlt) hl (fun arr' f' => k ws tys H locs arr' a b c d e f')
theorem g_iinc (C : kOK K cc own Ts ret R) {i nL : Nat} {z w : Int} {loc' : List (Nat × Value)} (q : Nat) (hn : K.nL = nL) (hd : decode cc pc = .ok (.iinc i w, 3)) (hq : loc[q]? = some (i, .int (iZ z))) (hlt : i < nL) (hl : (i, Value.int (iZ (z + w))) :: loc.filter (fun q => !(q.1 == i) && !(q.1 + 1 == i && q.2.category == 2)) = loc')
    (k : G K Wd n loc' (pc + 3) st) : G K Wd n loc pc st :=
  fun ws tys H locs arr a b c d e f => lv_iinc C.1 C.2.1 hd f hq (iZ_add z w) (by rw [hn]; exact hlt) hl (fun arr' f' => k ws tys H locs arr' a b c d e f')
theorem g_iconst (C : kOK K cc own Ts ret R) {z : Int} (hd : decode cc pc = .ok (.iconst z, 1)) (k : G K Wd n loc (pc + 1) (.int (iZ z) :: st)) : G K Wd n loc pc st :=
  fun ws tys H locs arr a b c d e f => lv_iconst C.1 C.2.1 hd rfl (k ws tys H locs arr a b c d e f)
theorem g_bipush (C : kOK K cc own Ts ret R) {z : Int} (hd : decode cc pc = .ok (.bipush z, 2)) (hv : (Int8.ofInt z).toInt32 = iZ z) (k : G K Wd n loc (pc + 2) (.int (iZ z) :: st)) : G K Wd n loc pc st :=
  fun ws tys H locs arr a b c d e f => lv_bipush C.1 C.2.1 hd hv (k ws tys H locs arr a b c d e f)
theorem g_sipush (C : kOK K cc own Ts ret R) {z : Int} (hd : decode cc pc = .ok (.sipush z, 3)) (hv : (Int16.ofInt z).toInt32 = iZ z) (k : G K Wd n loc (pc + 3) (.int (iZ z) :: st)) : G K Wd n loc pc st :=
  fun ws tys H locs arr a b c d e f => lv_sipush C.1 C.2.1 hd hv (k ws tys H locs arr a b c d e f)
theorem g_iadd (C : kOK K cc own Ts ret R) {x y : Int} (hd : decode cc pc = .ok (.iadd, 1)) (k : G K Wd n loc (pc + 1) (.int (iZ (x + y)) :: st)) : G K Wd n loc pc (.int (iZ y) :: .int (iZ x) :: st) :=
  fun ws tys H locs arr a b c d e f => lv_iadd C.1 C.2.1 hd (by rw [iZ_add]; exact k ws tys H locs arr a b c d e f)
theorem g_isub (C : kOK K cc own Ts ret R) {x y : Int} (hd : decode cc pc = .ok (.isub, 1)) (k : G K Wd n loc (pc + 1) (.int (iZ (x - y)) :: st)) : G K Wd n loc pc (.int (iZ y) :: .int (iZ x) :: st) :=
  fun ws tys H locs arr a b c d e f => lv_isub C.1 C.2.1 hd (by rw [iZ_sub]; exact k ws tys H locs arr a b c d e f)
theorem g_imul (C : kOK K cc own Ts ret R) {x y : Int} (hd : decode cc pc = .ok (.imul, 1)) (k : G K Wd n loc (pc + 1) (.int (iZ (x * y)) :: st)) : G K Wd n loc pc (.int (iZ y) :: .int (iZ x) :: st) :=
  fun ws tys H locs arr a b c d e f => lv_imul C.1 C.2.1 hd (by rw [iZ_mul]; exact k ws tys H locs arr a b c d e f)
def zAnd (x y : Int) : Int := (iZ x &&& iZ y).toInt
def zShr (x y : Int) : Int := (iZ x >>> (iZ y &&& 31)).toInt
def zUshr (x y : Int) : Int := ((iZ x).toUInt32 >>> ((iZ y).toUInt32 &&& Int32.toUInt32 31)).toInt32.toInt
theorem g_iand (C : kOK K cc own Ts ret R) {x y : Int} (hd : decode cc pc = .ok (.iand, 1)) (k : G K Wd n loc (pc + 1) (.int (iZ (zAnd x y)) :: st)) : G K Wd n loc pc (.int (iZ y) :: .int (iZ x) :: st) :=
  fun ws tys H locs arr a b c d e f => lv_iand C.1 C.2.1 hd (by rw [← iZ_self (iZ x &&& iZ y)]; exact k ws tys H locs arr a b c d e f)
theorem g_ishr (C : kOK K cc own Ts ret R) {x y : Int} (hd : decode cc pc = .ok (.ishr, 1)) (k : G K Wd n loc (pc + 1) (.int (iZ (zShr x y)) :: st)) : G K Wd n loc pc (.int (iZ y) :: .int (iZ x) :: st) :=
  fun ws tys H locs arr a b c d e f => lv_ishr C.1 C.2.1 hd (by rw [← iZ_self (iZ x >>> (iZ y &&& 31))]; exact k ws tys H locs arr a b c d e f)
theorem g_iushr (C : kOK K cc own Ts ret R) {x y : Int} (hd : decode cc pc = .ok (.iushr, 1)) (k : G K Wd n loc (pc + 1) (.int (iZ (zUshr x y)) :: st)) : G K Wd n loc pc (.int (iZ y) :: .int (iZ x) :: st) :=
  fun ws tys H locs arr a b c d e f => lv_iushr C.1 C.2.1 hd (iZ_self _).symm (k ws tys H locs arr a b c d e f)
theorem g_irem (C : kOK K cc own Ts ret R) {x y : Int} (hxy : (0 ≤ x ∧ x < 2147483648) ∧ (0 < y ∧ y < 2147483648)) (hd : decode cc pc = .ok (.irem, 1)) (k : G K Wd n loc (pc + 1) (.int (iZ (x % y)) :: st)) : G K Wd n loc pc (.int (iZ y) :: .int (iZ x) :: st) := by
  obtain ⟨hx, hy⟩ := hxy
  obtain ⟨a, rfl⟩ := Int.eq_ofNat_of_zero_le hx.1
  obtain ⟨b, rfl⟩ := Int.eq_ofNat_of_zero_le (Int.le_of_lt hy.1)
  have e1 : iZ (a : Int) = nI a := Int32.ofInt_eq_ofNat
  have e2 : iZ (b : Int) = nI b := Int32.ofInt_eq_ofNat
  have e3 : iZ ((a : Int) % (b : Int)) = nI (a % b) := by
    rw [← Int.natCast_emod]
    exact Int32.ofInt_eq_ofNat
  rw [e1, e2]
  rw [e3] at k
  intro ws tys H locs arr a1 b1 c1 d1 e f
  refine lv_irem C.1 C.2.1 hd (nI_ne0 (by omega) (by omega)) ?_
  rw [pk_rem (by omega) (by omega) (by omega)]
  exact k ws tys H locs arr a1 b1 c1 d1 e f
theorem g_goto (C : kOK K cc own Ts ret R) {off : Int} {tgt : Nat} (hd : decode cc pc = .ok (.goto off, 3)) (ht : (pc : Int) + off = (tgt : Int)) (k : G K Wd n loc tgt st) : G K Wd n loc pc st :=
  fun ws tys H locs arr a b c d e f => lv_goto C.1 C.2.1 hd ht (k ws tys H locs arr a b c d e f)
theorem g_dup (C : kOK K cc own Ts ret R) {v : Value} (hv : v.category = 1) (hd : decode cc pc = .ok (.dup, 1)) (k : G K Wd n loc (pc + 1) (v :: v :: st)) : G K Wd n loc pc (v :: st) :=
  fun ws tys H locs arr a b c d e f => lv_dup C.1 C.2.1 hd hv (k ws tys H locs arr a b c d e f)
theorem g_dup2 (C : kOK K cc own Ts ret R) {v w : Value} (hv : v.category = 1) (hw : w.category = 1) (hd : decode cc pc = .ok (.dup2, 1)) (k : G K Wd n loc (pc + 1) (v :: w :: v :: w :: st)) : G K Wd n loc pc (v :: w :: st) :=
  fun ws tys H locs arr a b c d e f => lv_dup2_11 C.1 C.2.1 hd hv hw (k ws tys H locs arr a b c d e f)
theorem g_dup_x1 (C : kOK K cc own Ts ret R) {v w : Value} (hv : v.category = 1) (hw : w.category = 1) (hd : decode cc pc = .ok (.dup_x1, 1)) (k : G K Wd n loc (pc + 1) (v :: w :: v :: st)) : G K Wd n loc pc (v :: w :: st) :=
  fun ws tys H locs arr a b c d e f => lv_dup_x1 C.1 C.2.1 hd hv hw (k ws tys H locs arr a b c d e f)
theorem g_pop (C : kOK K cc own Ts ret R) {v : Value} (hv : v.category = 1) (hd : decode cc pc = .ok (.pop, 1)) (k : G K Wd n loc (pc + 1) st) : G K Wd n loc pc (v :: st) :=
  fun ws tys H locs arr a b c d e f => lv_pop C.1 C.2.1 hd hv (k ws tys H locs arr a b c d e f)
end ROWS
section ROWS2
variable {K : KT} {cc : ByteArray} {own : String} {Ts : List Cond} {ret : Option FieldType} {R : Room} {Wd : WdT} {n : Nat × Nat} {loc : List (Nat × Value)} {pc : Nat} {st : List Value} {off : Int} {tgt : Nat} {x y : Int}
theorem g_icmp_eq (C : kOK K cc own Ts ret R) (hd : decode cc pc = .ok (.if_icmp .eq off, 3)) (ht : (pc : Int) + off = (tgt : Int)) (hx : -2147483648 ≤ x ∧ x < 2147483648) (hy : -2147483648 ≤ y ∧ y < 2147483648) (kt : x = y → G K Wd n loc tgt st) (kf : ¬ x = y → G K Wd n loc (pc + 3) st) : G K Wd n loc pc (.int (iZ y) :: .int (iZ x) :: st) :=
  fun ws tys H locs arr a b c d e f => lv_icmp_eq C.1 C.2.1 hd ht (fun h => kt ((iZ_eq hx hy).mp h) ws tys H locs arr a b c d e f) (fun h => kf (fun q => h ((iZ_eq hx hy).mpr q)) ws tys H locs arr a b c d e f)
theorem g_icmp_ne (C : kOK K cc own Ts ret R) (hd : decode cc pc = .ok (.if_icmp .ne off, 3)) (ht : (pc : Int) + off = (tgt : Int)) (hx : -2147483648 ≤ x ∧ x < 2147483648) (hy : -2147483648 ≤ y ∧ y < 2147483648) (kt : ¬ x = y → G K Wd n loc tgt st) (kf : x = y → G K Wd n loc (pc + 3) st) : G K Wd n loc pc (.int (iZ y) :: .int (iZ x) :: st) :=
  fun ws tys H locs arr a b c d e f => lv_icmp_ne C.1 C.2.1 hd ht (fun h => kt (fun q => h ((iZ_eq hx hy).mpr q)) ws tys H locs arr a b c d e f) (fun h => kf ((iZ_eq hx hy).mp h) ws tys H locs arr a b c d e f)
theorem g_icmp_lt (C : kOK K cc own Ts ret R) (hd : decode cc pc = .ok (.if_icmp .lt off, 3)) (ht : (pc : Int) + off = (tgt : Int)) (hx : -2147483648 ≤ x ∧ x < 2147483648) (hy : -2147483648 ≤ y ∧ y < 2147483648) (kt : x < y → G K Wd n loc tgt st) (kf : ¬ x < y → G K Wd n loc (pc + 3) st) : G K Wd n loc pc (.int (iZ y) :: .int (iZ x) :: st) :=
  fun ws tys H locs arr a b c d e f => lv_icmp_lt C.1 C.2.1 hd ht (fun h => kt ((iZ_lt hx hy).mp h) ws tys H locs arr a b c d e f) (fun h => kf (fun q => h ((iZ_lt hx hy).mpr q)) ws tys H locs arr a b c d e f)
theorem g_icmp_ge (C : kOK K cc own Ts ret R) (hd : decode cc pc = .ok (.if_icmp .ge off, 3)) (ht : (pc : Int) + off = (tgt : Int)) (hx : -2147483648 ≤ x ∧ x < 2147483648) (hy : -2147483648 ≤ y ∧ y < 2147483648) (kt : y ≤ x → G K Wd n loc tgt st) (kf : ¬ y ≤ x → G K Wd n loc (pc + 3) st) : G K Wd n loc pc (.int (iZ y) :: .int (iZ x) :: st) :=
  fun ws tys H locs arr a b c d e f => lv_icmp_ge C.1 C.2.1 hd ht (fun h => kt ((iZ_le hy hx).mp h) ws tys H locs arr a b c d e f) (fun h => kf (fun q => h ((iZ_le hy hx).mpr q)) ws tys H locs arr a b c d e f)
theorem g_icmp_gt (C : kOK K cc own Ts ret R) (hd : decode cc pc = .ok (.if_icmp .gt off, 3)) (ht : (pc : Int) + off = (tgt : Int)) (hx : -2147483648 ≤ x ∧ x < 2147483648) (hy : -2147483648 ≤ y ∧ y < 2147483648) (kt : y < x → G K Wd n loc tgt st) (kf : ¬ y < x → G K Wd n loc (pc + 3) st) : G K Wd n loc pc (.int (iZ y) :: .int (iZ x) :: st) :=
  fun ws tys H locs arr a b c d e f => lv_icmp_gt C.1 C.2.1 hd ht (fun h => kt ((iZ_lt hy hx).mp h) ws tys H locs arr a b c d e f) (fun h => kf (fun q => h ((iZ_lt hy hx).mpr q)) ws tys H locs arr a b c d e f)
theorem g_icmp_le (C : kOK K cc own Ts ret R) (hd : decode cc pc = .ok (.if_icmp .le off, 3)) (ht : (pc : Int) + off = (tgt : Int)) (hx : -2147483648 ≤ x ∧ x < 2147483648) (hy : -2147483648 ≤ y ∧ y < 2147483648) (kt : x ≤ y → G K Wd n loc tgt st) (kf : ¬ x ≤ y → G K Wd n loc (pc + 3) st) : G K Wd n loc pc (.int (iZ y) :: .int (iZ x) :: st) :=
  fun ws tys H locs arr a b c d e f => lv_icmp_le C.1 C.2.1 hd ht (fun h => kt ((iZ_le hx hy).mp h) ws tys H locs arr a b c d e f) (fun h => kf (fun q => h ((iZ_le hx hy).mpr q)) ws tys H locs arr a b c d e f)
theorem iZ_0 : iZ 0 = 0 := rfl
theorem g_if_eq (C : kOK K cc own Ts ret R) (hd : decode cc pc = .ok (.ifCond .eq off, 3)) (ht : (pc : Int) + off = (tgt : Int)) (hx : -2147483648 ≤ x ∧ x < 2147483648) (kt : x = 0 → G K Wd n loc tgt st) (kf : ¬ x = 0 → G K Wd n loc (pc + 3) st) : G K Wd n loc pc (.int (iZ x) :: st) :=
  fun ws tys H locs arr a b c d e f => lv_if_eq C.1 C.2.1 hd ht (fun h => kt ((iZ_eq hx (by decide)).mp (h.trans iZ_0.symm)) ws tys H locs arr a b c d e f) (fun h => kf (fun q => h (by rw [q]; rfl)) ws tys H locs arr a b c d e f)
theorem g_if_ne (C : kOK K cc own Ts ret R) (hd : decode cc pc = .ok (.ifCond .ne off, 3)) (ht : (pc : Int) + off = (tgt : Int)) (hx : -2147483648 ≤ x ∧ x < 2147483648) (kt : ¬ x = 0 → G K Wd n loc tgt st) (kf : x = 0 → G K Wd n loc (pc + 3) st) : G K Wd n loc pc (.int (iZ x) :: st) :=
  fun ws tys H locs arr a b c d e f => lv_if_ne C.1 C.2.1 hd ht (fun h => kt (fun q => h (by rw [q]; rfl)) ws tys H locs arr a b c d e f) (fun h => kf ((iZ_eq hx (by decide)).mp (h.trans iZ_0.symm)) ws tys H locs arr a b c d e f)
theorem g_if_lt (C : kOK K cc own Ts ret R) (hd : decode cc pc = .ok (.ifCond .lt off, 3)) (ht : (pc : Int) + off = (tgt : Int)) (hx : -2147483648 ≤ x ∧ x < 2147483648) (kt : x < 0 → G K Wd n loc tgt st) (kf : ¬ x < 0 → G K Wd n loc (pc + 3) st) : G K Wd n loc pc (.int (iZ x) :: st) :=
  fun ws tys H locs arr a b c d e f => lv_if_lt C.1 C.2.1 hd ht (fun h => kt ((iZ_lt hx (b := 0) (by decide)).mp h) ws tys H locs arr a b c d e f) (fun h => kf (fun q => h ((iZ_lt hx (b := 0) (by decide)).mpr q)) ws tys H locs arr a b c d e f)
theorem g_if_ge (C : kOK K cc own Ts ret R) (hd : decode cc pc = .ok (.ifCond .ge off, 3)) (ht : (pc : Int) + off = (tgt : Int)) (hx : -2147483648 ≤ x ∧ x < 2147483648) (kt : 0 ≤ x → G K Wd n loc tgt st) (kf : ¬ 0 ≤ x → G K Wd n loc (pc + 3) st) : G K Wd n loc pc (.int (iZ x) :: st) :=
  fun ws tys H locs arr a b c d e f => lv_if_ge C.1 C.2.1 hd ht (fun h => kt ((iZ_le (a := 0) (by decide) hx).mp h) ws tys H locs arr a b c d e f) (fun h => kf (fun q => h ((iZ_le (a := 0) (by decide) hx).mpr q)) ws tys H locs arr a b c d e f)
theorem g_if_gt (C : kOK K cc own Ts ret R) (hd : decode cc pc = .ok (.ifCond .gt off, 3)) (ht : (pc : Int) + off = (tgt : Int)) (hx : -2147483648 ≤ x ∧ x < 2147483648) (kt : 0 < x → G K Wd n loc tgt st) (kf : ¬ 0 < x → G K Wd n loc (pc + 3) st) : G K Wd n loc pc (.int (iZ x) :: st) :=
  fun ws tys H locs arr a b c d e f => lv_if_gt C.1 C.2.1 hd ht (fun h => kt ((iZ_lt (a := 0) (by decide) hx).mp h) ws tys H locs arr a b c d e f) (fun h => kf (fun q => h ((iZ_lt (a := 0) (by decide) hx).mpr q)) ws tys H locs arr a b c d e f)
theorem g_if_le (C : kOK K cc own Ts ret R) (hd : decode cc pc = .ok (.ifCond .le off, 3)) (ht : (pc : Int) + off = (tgt : Int)) (hx : -2147483648 ≤ x ∧ x < 2147483648) (kt : x ≤ 0 → G K Wd n loc tgt st) (kf : ¬ x ≤ 0 → G K Wd n loc (pc + 3) st) : G K Wd n loc pc (.int (iZ x) :: st) :=
  fun ws tys H locs arr a b c d e f => lv_if_le C.1 C.2.1 hd ht (fun h => kt ((iZ_le hx (b := 0) (by decide)).mp h) ws tys H locs arr a b c d e f) (fun h => kf (fun q => h ((iZ_le hx (b := 0) (by decide)).mpr q)) ws tys H locs arr a b c d e f)
theorem g_max (C : kOK K cc own Ts ret R) {idx : Nat} (hx : -2147483648 ≤ x ∧ x < 2147483648) (hy : -2147483648 ≤ y ∧ y < 2147483648) (hlink : Cond.methodLink own idx Lib.Math.max.name ∈ Ts) (hstat : Cond.static Lib.Math.max.name ∈ Ts) (hini : Cond.initialized "java/lang/Math" ∈ Ts) (hcode : Cond.code Lib.Math.max.name Lib.Math.max.code 2 (some .int) ∈ Ts)
    (hf : 1 ≤ R.frames) (hlo : (st.map fun v => v.category).sum + 13 ≤ R.locals) (hn : n.1 ≤ R.cells ∧ n.2 ≤ R.slots) (hd : decode cc pc = .ok (.invokestatic idx, 3)) (k : G K Wd n loc (pc + 3) (.int (iZ (if x < y then y else x)) :: st)) : G K Wd n loc pc (.int (iZ y) :: .int (iZ x) :: st) := by
  intro ws tys H locs arr a b c d e f
  obtain ⟨c1, c2, c3, c4, c5, c6, c7, rfl, c9⟩ := C
  refine va_mmax c1 c2 (c3.trans f.1.symm) c4 (c5 _ hlink) (c5 _ hstat) (c5 _ hini) (c5 _ hcode) hf hlo hn.1 hn.2 hd ?_
  have e1 : (if iZ x < iZ y then iZ y else iZ x) = iZ (if x < y then y else x) := by
    by_cases h : x < y
    · rw [if_pos h, if_pos ((iZ_lt hx hy).mpr h)]
    · rw [if_neg h, if_neg (fun q => h ((iZ_lt hx hy).mp q))]
  rw [e1]
  exact k ws tys H locs arr a b c d e f
theorem g_min (C : kOK K cc own Ts ret R) {idx : Nat} (hx : -2147483648 ≤ x ∧ x < 2147483648) (hy : -2147483648 ≤ y ∧ y < 2147483648) (hlink : Cond.methodLink own idx Lib.Math.min.name ∈ Ts) (hstat : Cond.static Lib.Math.min.name ∈ Ts) (hini : Cond.initialized "java/lang/Math" ∈ Ts) (hcode : Cond.code Lib.Math.min.name Lib.Math.min.code 2 (some .int) ∈ Ts)
    (hf : 1 ≤ R.frames) (hlo : (st.map fun v => v.category).sum + 13 ≤ R.locals) (hn : n.1 ≤ R.cells ∧ n.2 ≤ R.slots) (hd : decode cc pc = .ok (.invokestatic idx, 3)) (k : G K Wd n loc (pc + 3) (.int (iZ (if y < x then y else x)) :: st)) : G K Wd n loc pc (.int (iZ y) :: .int (iZ x) :: st) := by
  intro ws tys H locs arr a b c d e f
  obtain ⟨c1, c2, c3, c4, c5, c6, c7, rfl, c9⟩ := C
  refine va_mmin c1 c2 (c3.trans f.1.symm) c4 (c5 _ hlink) (c5 _ hstat) (c5 _ hini) (c5 _ hcode) hf hlo hn.1 hn.2 hd ?_
  have e1 : (if iZ y < iZ x then iZ y else iZ x) = iZ (if y < x then y else x) := by
    by_cases h : y < x
    · rw [if_pos h, if_pos ((iZ_lt hy hx).mpr h)]
    · rw [if_neg h, if_neg (fun q => h ((iZ_lt hy hx).mp q))]
  rw [e1]
  exact k ws tys H locs arr a b c d e f
end ROWS2
section ENDS
variable {S : Type} {K : KT} {cc : ByteArray} {own : String} {Ts : List Cond} {R : Room} {Wd : S → WdT} {rk : S → Int → Option Value} {post : Int → S → Prop} {rm : Room} {n : Nat × Nat} {loc : List (Nat × Value)} {pc : Nat} {st : List Value} {u : S} {r : Int}
theorem x_iret (C : kOK K cc own Ts (some .int) R) (hQ : kQ K Wd rk post rm) (hr : rk u r = some (.int (iZ r))) (hn : n.1 ≤ rm.cells ∧ n.2 ≤ rm.slots) (hd : decode cc pc = .ok (.ireturn, 1)) (hp : post r u) : G K (Wd u) n loc pc [.int (iZ r)] := by
  intro ws tys H locs arr hW hK hP hD hS hl
  obtain ⟨c1, c2, c3, c4, c5, c6, c7, c8, c9⟩ := C
  rw [hQ]
  refine W.widen hn.1 hn.2 ?_
  exact W.iret (v := iZ r) c1 c2 c6 (fun t ht hw => ⟨⟨r, u, ws, tys, by rw [hr], hp, hW, by rw [ht]; exact hP, va_K.moved hw.alike hK, hD⟩, hS.F ht⟩) hS.2.2 hd c7
theorem x_zret (C : kOK K cc own Ts (some .boolean) R) (hQ : kQ K Wd rk post rm) (hr : rk u r = some (.int (iZ r))) (hn : n.1 ≤ rm.cells ∧ n.2 ≤ rm.slots) (hd : decode cc pc = .ok (.ireturn, 1)) (hz : r = 0 ∨ r = 1) (hp : post r u) : G K (Wd u) n loc pc [.int (iZ r)] := by
  intro ws tys H locs arr hW hK hP hD hS hl
  obtain ⟨c1, c2, c3, c4, c5, c6, c7, c8, c9⟩ := C
  rw [hQ]
  refine W.widen hn.1 hn.2 ?_
  exact W.zret (v := iZ r) c1 c2 c6 (by rcases hz with rfl | rfl <;> decide) (fun t ht hw => ⟨⟨r, u, ws, tys, by rw [hr], hp, hW, by rw [ht]; exact hP, va_K.moved hw.alike hK, hD⟩, hS.F ht⟩) hS.2.2 hd c7
theorem x_vret (C : kOK K cc own Ts none R) (hQ : kQ K Wd rk post rm) (hr : rk u 0 = none) (hn : n.1 ≤ rm.cells ∧ n.2 ≤ rm.slots) (hd : decode cc pc = .ok (.return_, 1)) (hp : post 0 u) : G K (Wd u) n loc pc [] := by
  intro ws tys H locs arr hW hK hP hD hS hl
  obtain ⟨c1, c2, c3, c4, c5, c6, c7, c8, c9⟩ := C
  rw [hQ]
  refine W.widen hn.1 hn.2 ?_
  exact W.vret c1 c2 c6 (fun t ht hw => ⟨⟨0, u, ws, tys, by rw [hr], hp, hW, by rw [ht]; exact hP, va_K.moved hw.alike hK, hD⟩, hS.F ht⟩) hS.2.2 hd c7
theorem x_lret (C : kOK K cc own Ts (some .long) R) (hQ : kQ K Wd rk post rm) (hr : rk u r = some (.long (lZ r))) (hn : n.1 ≤ rm.cells ∧ n.2 ≤ rm.slots) (hd : decode cc pc = .ok (.lreturn, 1)) (hp : post r u) : G K (Wd u) n loc pc [.long (lZ r)] := by
  intro ws tys H locs arr hW hK hP hD hS hl
  obtain ⟨c1, c2, c3, c4, c5, c6, c7, c8, c9⟩ := C
  rw [hQ]
  refine W.widen hn.1 hn.2 ?_
  exact W.lret (v := lZ r) c1 c2 c6 (fun t ht hw => ⟨⟨r, u, ws, tys, by rw [hr], hp, hW, by rw [ht]; exact hP, va_K.moved hw.alike hK, hD⟩, hS.F ht⟩) hS.2.2 hd c7
end ENDS
section CALLS
variable {S : Type} {K : KT} {cc : ByteArray} {own : String} {Ts : List Cond} {ret ret' : Option FieldType} {R : Room} {Wd : S → WdT} {rk : S → Int → Option Value} {post : Int → S → Prop} {rm : Room} {n : Nat × Nat} {loc : List (Nat × Value)} {pc : Nat} {st : List Value} {u : S} {y : MethodName} {wds : List Cond} {index maxL nargs : Nat} {bytes : ByteArray} {As rest : List Value} {b ci : Nat} {q : vw_C}
theorem x_back {ws : va_W} {H : Heap} {locs : List Loc} {arr : Array Slot} {st0 : List Value} {a : Array Value} (hD : va_D K.A ws) (hS : va_S K.A K.s.heap H locs) (hA : ∀ q, K.s.heap.size ≤ q → K.A q) (hl : lv_has arr K.nL loc)
    (hr : va_Run K.p K.l K.e K.R K.s K.m K.args K.below K.meth K.c H locs n.1 n.2 rm.cells rm.slots (F0 K.m pc arr st0) rest (xQ K.D Wd rk post (va_A ws H.size) a) (va_A ws H.size))
    (kk : ∀ (r : Int) (u' : S), post r u' → G K (Wd u') (n.1 + rm.cells, n.2 + rm.slots) loc (pc + 3) ((rk u' r).toList ++ rest)) :
    W K.p K.l K.e K.R K.s K.m K.args K.below K.meth K.c H locs n.1 n.2 K.Q (F0 K.m pc arr st0) := by
  have hsub : ∀ q, va_A ws H.size q → K.A q := by
    intro q h
    rcases h with ⟨k, e, h⟩ | h
    · exact hD.2 k (q, e) h
    · exact hA q (Nat.le_trans hS.1 h)
  intro T hT X
  obtain ⟨v, st₀, t, T', L, h0, X', hL, e1, e2, ⟨⟨r, u', ws', tys', hv, hp, hW', hP', hK', hD'⟩, hz, hk⟩, st⟩ := hr T hT X
  cases hv
  rw [h0] at hz hk
  obtain ⟨t2, a1, b1⟩ := kk r u' hp ws' tys' T'.heap (locs ++ L) arr hW' (va_K.moved (show K.s.vm.Alike t.vm by rw [← e2]; exact X'.warmed.alike).symm hK') (by rw [e1]; exact hP') (hD'.weaken (fun _ _ _ h => hsub _ h))
    ⟨Nat.le_trans hS.1 (by rw [e1]; exact hz), fun q h1 h2 => by rw [e1, hk q (Nat.lt_of_lt_of_le h1 hS.1) (fun z => h2 (hsub q z))]; exact hS.2.1 q h1 h2, fun q hq => by
      rcases List.mem_append.mp hq with h | h
      · exact hS.2.2 q h
      · exact hsub _ (hL q h)⟩ hl T' rfl X'
  exact ⟨t2, st t2 a1, b1⟩
/-- a call of a method of the receiver's own, by its contract -/
theorem x_callV (C : kOK K cc own Ts ret R) (hM : xMet K.l y wds rm Wd rk (.ref b :: As) u post) (hcl : vwCl[ci]? = some q) (hrecv : ∀ ws tys, Wd u ws tys → ∃ (q0 : Nat) (fs : List Value), ws[q0]? = some (b, .inr (ci, fs)))
    (cw : (∀ w ∈ Ts, w.before K.args K.s = true) → CallW R K.s K.args own q.1 index y bytes maxL ret' wds rm rm.cells rm.slots nargs) (hn : As.length = nargs) {stk : List Value} (hstk : stk = As.reverse ++ .ref b :: rest) (hr8 : (rest.map fun v => v.category).sum ≤ 8) (hf : n.1 + rm.cells ≤ R.cells ∧ n.2 + rm.slots ≤ R.slots) (hd : decode cc pc = .ok (.invokevirtual index, 3))
    (kk : ∀ (r : Int) (u' : S), post r u' → G K (Wd u') (n.1 + rm.cells, n.2 + rm.slots) loc (pc + 3) ((rk u' r).toList ++ rest)) : G K (Wd u) n loc pc stk := by
  intro ws tys H locs arr hW hK hP hD hS hl
  obtain ⟨c1, c2, c3, c4, c5, c6, c7, c8, c9, c10⟩ := C
  subst hstk c8
  obtain ⟨q0, fs, he⟩ := hrecv ws tys hW
  have hr := va_runV (e := K.e) (below := K.below) (meth := K.meth) (H := H) (locs := locs) (cells := n.1) (slots := n.2) (g := F0 K.m pc arr (As.reverse ++ .ref b :: rest)) (rest := rest) (As := As) ⟨c1, c2, c3, c4, c5⟩ (hM K.D ws tys H.size hW) (cw c5) ⟨xPc_blind K.D _ ws tys H.size, va_recv hK hP hcl he, fun U hU hw => ⟨rfl, by rw [hU], by rw [hU]; exact hP, va_K.moved hw.alike hK, hD.weaken (fun _ _ _ _ => trivial)⟩⟩ rfl hn hl.1 rfl (lv_room (ls := arr) (m := K.m) (pc := pc) hr8) hd hf
  exact x_back hD hS c9 hl hr kk
theorem x_callS (C : kOK K cc own Ts ret R) (hM : xMet K.l y wds rm Wd rk As u post)
    (cw : (∀ w ∈ Ts, w.before K.args K.s = true) → CallB R K.s K.args own index y bytes maxL ret' wds rm rm.cells rm.slots nargs ∧ (Cond.static y).before K.args K.s = true) (hn : As.length = nargs) {stk : List Value} (hstk : stk = As.reverse ++ rest) (hr8 : (rest.map fun v => v.category).sum ≤ 8) (hf : n.1 + rm.cells ≤ R.cells ∧ n.2 + rm.slots ≤ R.slots) (hd : decode cc pc = .ok (.invokestatic index, 3))
    (kk : ∀ (r : Int) (u' : S), post r u' → G K (Wd u') (n.1 + rm.cells, n.2 + rm.slots) loc (pc + 3) ((rk u' r).toList ++ rest)) : G K (Wd u) n loc pc stk := by
  intro ws tys H locs arr hW hK hP hD hS hl
  obtain ⟨c1, c2, c3, c4, c5, c6, c7, c8, c9, c10⟩ := C
  subst hstk c8
  have hr := va_runS (e := K.e) (below := K.below) (meth := K.meth) (H := H) (locs := locs) (cells := n.1) (slots := n.2) (g := F0 K.m pc arr (As.reverse ++ rest)) (rest := rest) (As := As) ⟨c1, c2, c3, c4, c5⟩ (hM K.D ws tys H.size hW) (cw c5) ⟨xPc_blind K.D _ ws tys H.size, fun U hU hw => ⟨rfl, by rw [hU], by rw [hU]; exact hP, va_K.moved hw.alike hK, hD.weaken (fun _ _ _ _ => trivial)⟩⟩ rfl hn hl.1 rfl (lv_room (ls := arr) (m := K.m) (pc := pc) hr8) hd hf
  exact x_back hD hS c9 hl hr kk
end CALLS
section LONGS
variable {K : KT} {cc : ByteArray} {own : String} {Ts : List Cond} {ret : Option FieldType} {R : Room} {Wd : WdT} {n : Nat × Nat} {loc : List (Nat × Value)} {pc : Nat} {st : List Value} {x y : Int}
theorem lZ_add (a b : Int) : lZ a + lZ b = lZ (a + b) := (Int64.ofInt_add a b).symm
theorem lZ_mul (a b : Int) : lZ a * lZ b = lZ (a * b) := (Int64.ofInt_mul a b).symm
theorem lZ_toInt {z : Int} (h : -9223372036854775808 ≤ z ∧ z < 9223372036854775808) : (lZ z).toInt = z := Int64.toInt_ofInt_of_le h.1 h.2
theorem iZ_l {z : Int} (h : -2147483648 ≤ z ∧ z < 2147483648) : (iZ z).toInt64 = lZ z := by
  rw [← Int64.toInt_inj, Int32.toInt_toInt64, iZ_toInt h, lZ_toInt ⟨by omega, by omega⟩]
theorem g_ldc2 (C : kOK K cc own Ts ret R) {idx : Nat} {v : Int64} (hv : v = lZ x) (hc : Cond.constantLong own idx v ∈ Ts) (hd : decode cc pc = .ok (.ldc2_w idx, 3)) (k : G K Wd n loc (pc + 3) (.long (lZ x) :: st)) : G K Wd n loc pc st :=
  fun ws tys H locs arr a b c d e f => lv_ldc2 C.1 C.2.1 C.2.2.2.1 (C.2.2.2.2.1 _ hc) hd (by rw [hv]; exact k ws tys H locs arr a b c d e f)
theorem g_ladd (C : kOK K cc own Ts ret R) (hd : decode cc pc = .ok (.ladd, 1)) (k : G K Wd n loc (pc + 1) (.long (lZ (x + y)) :: st)) : G K Wd n loc pc (.long (lZ y) :: .long (lZ x) :: st) :=
  fun ws tys H locs arr a b c d e f => lv_ladd C.1 C.2.1 hd (by rw [lZ_add]; exact k ws tys H locs arr a b c d e f)
theorem g_lmul (C : kOK K cc own Ts ret R) (hd : decode cc pc = .ok (.lmul, 1)) (k : G K Wd n loc (pc + 1) (.long (lZ (x * y)) :: st)) : G K Wd n loc pc (.long (lZ y) :: .long (lZ x) :: st) :=
  fun ws tys H locs arr a b c d e f => lv_lmul C.1 C.2.1 hd (by rw [lZ_mul]; exact k ws tys H locs arr a b c d e f)
theorem g_i2l (C : kOK K cc own Ts ret R) (hx : -2147483648 ≤ x ∧ x < 2147483648) (hd : decode cc pc = .ok (.i2l, 1)) (k : G K Wd n loc (pc + 1) (.long (lZ x) :: st)) : G K Wd n loc pc (.int (iZ x) :: st) :=
  fun ws tys H locs arr a b c d e f => lv_i2l C.1 C.2.1 hd (iZ_l hx) (k ws tys H locs arr a b c d e f)
theorem g_lload_n (C : kOK K cc own Ts ret R) {j : Fin 4} {i : Nat} {v : Int64} (q : Nat) (hd : decode cc pc = .ok (.lload_n j, 1)) (hi : (j : Nat) = i) (hl : loc[q]? = some (i, .long v)) (k : G K Wd n loc (pc + 1) (.long v :: st)) : G K Wd n loc pc st :=
  fun ws tys H locs arr a b c d e f => lv_lload_n C.1 C.2.1 hd hi (lv_at f q hl) (k ws tys H locs arr a b c d e f)
theorem g_lload (C : kOK K cc own Ts ret R) {i : Nat} {v : Int64} (q : Nat) (hd : decode cc pc = .ok (.lload i, 2)) (hl : loc[q]? = some (i, .long v)) (k : G K Wd n loc (pc + 2) (.long v :: st)) : G K Wd n loc pc st :=
  fun ws tys H locs arr a b c d e f => lv_lload C.1 C.2.1 hd (lv_at f q hl) (k ws tys H locs arr a b c d e f)
theorem g_lstore_n (C : kOK K cc own Ts ret R) {j : Fin 4} {i nL : Nat} {v : Int64} {loc' : List (Nat × Value)} (hn : K.nL = nL) (hd : decode cc pc = .ok (.lstore_n j, 1)) (hi : (j : Nat) = i) (hlt : i + 1 < nL) (hl : (i, Value.long v) :: loc.filter (fun q => !(q.1 == i) && (!(q.1 == i + 1) && !(q.1 + 1 == i && q.2.category == 2))) = loc')
    (k : G K Wd n loc' (pc + 1) st) : G K Wd n loc pc (.long v :: st) :=
  fun ws tys H locs arr a b c d e f => lv_lstore_n C.1 C.2.1 hd hi f (by rw [hn]; exact hlt) hl (fun arr' f' => k ws tys H locs arr' a b c d e f')
theorem g_lstore (C : kOK K cc own Ts ret R) {i nL : Nat} {v : Int64} {loc' : List (Nat × Value)} (hn : K.nL = nL) (hd : decode cc pc = .ok (.lstore i, 2)) (hlt : i + 1 < nL) (hl : (i, Value.long v) :: loc.filter (fun q => !(q.1 == i) && (!(q.1 == i + 1) && !(q.1 + 1 == i && q.2.category == 2))) = loc')
    (k : G K Wd n loc' (pc + 2) st) : G K Wd n loc pc (.long v :: st) :=
  fun ws tys H locs arr a b c d e f => lv_lstore C.1 C.2.1 hd f (by rw [hn]; exact hlt) hl (fun arr' f' => k ws tys H locs arr' a b c d e f')
theorem g_ifb_eq (C : kOK K cc own Ts ret R) {off : Int} {tgt : Nat} {b : Prop} {_ : Decidable b} (hd : decode cc pc = .ok (.ifCond .eq off, 3)) (ht : (pc : Int) + off = (tgt : Int)) (kt : ¬ b → G K Wd n loc tgt st) (kf : b → G K Wd n loc (pc + 3) st) : G K Wd n loc pc (.int (iZ (if b then 1 else 0)) :: st) := by
  by_cases h : b
  · rw [if_pos h]
    exact g_if_eq C hd ht (by decide) (fun q => absurd q (by decide)) (fun _ => kf h)
  · rw [if_neg h]
    exact g_if_eq C hd ht (by decide) (fun _ => kt h) (fun q => absurd rfl q)
theorem g_ifb_ne (C : kOK K cc own Ts ret R) {off : Int} {tgt : Nat} {b : Prop} {_ : Decidable b} (hd : decode cc pc = .ok (.ifCond .ne off, 3)) (ht : (pc : Int) + off = (tgt : Int)) (kt : b → G K Wd n loc tgt st) (kf : ¬ b → G K Wd n loc (pc + 3) st) : G K Wd n loc pc (.int (iZ (if b then 1 else 0)) :: st) := by
  by_cases h : b
  · rw [if_pos h]
    exact g_if_ne C hd ht (by decide) (fun _ => kt h) (fun q => absurd q (by decide))
  · rw [if_neg h]
    exact g_if_ne C hd ht (by decide) (fun q => absurd rfl q) (fun _ => kf h)
theorem g_tsw (C : kOK K cc own Ts ret R) {dflt lo hi : Int} {offs : Array Int} {len : Nat} (hd : decode cc pc = .ok (.tableswitch dflt lo hi offs, len)) (hx : -2147483648 ≤ x ∧ x < 2147483648)
    (ko : (x < lo ∨ hi < x) → ∃ tgt : Nat, (pc : Int) + dflt = (tgt : Int) ∧ G K Wd n loc tgt st) (ki : ¬ x < lo → ¬ hi < x → ∃ (off : Int) (tgt : Nat), offs[(x - lo).toNat]? = some off ∧ (pc : Int) + off = (tgt : Int) ∧ G K Wd n loc tgt st) : G K Wd n loc pc (.int (iZ x) :: st) := by
  intro ws tys H locs arr a b c d e f
  have ex := iZ_toInt hx
  by_cases h1 : x < lo
  · obtain ⟨t, ht, k⟩ := ko (Or.inl h1)
    exact lv_tableOut C.1 C.2.1 hd (by rw [ex]; exact Or.inl h1) ht (k ws tys H locs arr a b c d e f)
  · by_cases h2 : hi < x
    · obtain ⟨t, ht, k⟩ := ko (Or.inr h2)
      exact lv_tableOut C.1 C.2.1 hd (by rw [ex]; exact Or.inr h2) ht (k ws tys H locs arr a b c d e f)
    · obtain ⟨off, t, ho, ht, k⟩ := ki h1 h2
      exact lv_tableIn C.1 C.2.1 hd (by rw [ex]; exact h1) (by rw [ex]; exact h2) (by rw [ex]; exact ho) ht (k ws tys H locs arr a b c d e f)
end LONGS
