/-! THE LAW'S ROWS: the script, longs and doubles side by side, its end -/
section VLC
variable {p : Program} {l : Launch} {e : Env} {R : Room} {s : State} {m : MethodId} {args : Array Value} {below : List Frame} {meth : Method} {c : Code} {H : Heap} {locs : List Loc} {cells slots : Nat} {Q : State → Prop} {ls : Array Slot} {rest : List Value} {cc : ByteArray} {pc : Nat}
theorem vl_lcmp (hexec : p.tables.exec = Jvm.exec) (hb : c.code = cc) {x : Int64} (hdg : decode cc pc = .ok (.lcmp, 1))
    (k : W p l e R s m args below meth c H locs cells slots Q (F0 m (pc + 1) ls (.int 0 :: rest))) : W p l e R s m args below meth c H locs cells slots Q (F0 m pc ls (.long x :: .long x :: rest)) := by
  intro T hT X
  obtain ⟨t, a, b⟩ := k T hT X
  refine ⟨t, ?_, b⟩
  jvm_step X.here [X.here.top, hexec, hb, hdg]
  exact a
end VLC
/-- the script's numbers -/
def Xv (xs : Nat → Int32) (e : Int) : Int := (xs e.toNat).toInt
theorem Xv_in (xs : Nat → Int32) (e : Int) : in32 (Xv xs e) := ⟨Int32.le_toInt _, Int32.toInt_lt _⟩
/-- what holds of the law's frame -/
def lwK (K : KT) (b L : Nat) (xs : Nat → Int32) (emp : Nat) : Prop := kOK K cL_law RL wsL_law (some .boolean) room_1 ∧ K.nL = 9 ∧ SF emp K.A K.s K.s.heap ∧ SN K.s ∧ K.l.stackTraces = false ∧ va_X b L xs K.s K.s.heap ∧ b < K.s.heap.size ∧ ¬ K.A b ∧ L ≤ 3072 ∧ (∀ q, K.A q → K.s.heap.size ≤ q) ∧ K.args = #[Value.ref b] ∧ K.Q = lw_Z K.below #[Value.ref b] K.s
section LROWS
variable {K : KT} {b L emp : Nat} {xs : Nat → Int32} {Wd : WdT} {n : Nat × Nat} {loc : List (Nat × Value)} {pc : Nat} {st : List Value}
theorem l_len (C : lwK K b L xs emp) (hd : decode cL_law pc = .ok (.arraylength, 1)) (k : G K Wd n loc (pc + 1) (.int (iZ (L : Int)) :: st)) : G K Wd n loc pc (.ref b :: st) := by
  obtain ⟨c1, c2, c3, c4, c5, c6, c7, c8, c9⟩ := C
  intro ws tys H locs arr hW hK hP hD hS hl
  refine va_slen c1.1 c1.2.1 c6 c7 c8 hS hd ?_
  rw [show Int32.ofNat L = iZ (L : Int) from Int32.ofInt_eq_ofNat.symm]
  exact k ws tys H locs arr hW hK hP hD hS hl
theorem l_ld (C : lwK K b L xs emp) {e : Int} (he : 0 ≤ e ∧ e < (L : Int)) (hd : decode cL_law pc = .ok (.iaload, 1)) (k : G K Wd n loc (pc + 1) (.int (iZ (Xv xs e)) :: st)) : G K Wd n loc pc (.int (iZ e) :: .ref b :: st) := by
  obtain ⟨c1, c2, c3, c4, c5, c6, c7, c8, c9, c10⟩ := C
  intro ws tys H locs arr hW hK hP hD hS hl
  refine va_sld c1.1 c1.2.1 c6 c7 c8 hS (iZ_in he.1 he.2 (by omega)) hd ?_
  have e1 : (iZ e).toNatClampNeg = e.toNat := by have := iZ_cl he.1 (by omega); omega
  rw [e1, ← iZ_self (xs e.toNat)]
  exact k ws tys H locs arr hW hK hP hD hS hl
theorem l_end (C : lwK K b L xs emp) (hn : n.1 ≤ 601024 ∧ n.2 ≤ 7293034) (hd : decode cL_law pc = .ok (.ireturn, 1)) : G K Wd n loc pc [.int (iZ 1)] := by
  obtain ⟨c1, c2, c3, c4, c5, c6, c7, c8, c9, c10, c11, c12⟩ := C
  intro ws tys H locs arr hW hK hP hD hS hl
  obtain ⟨d1, d2, d3, d4, d5, d6, d7, d8, d9⟩ := c1
  rw [c12]
  refine va_forget (fun q hq => c10 _ (hS.2.2 q hq)) ?_
  refine W.widen hn.1 hn.2 ?_
  have h := lw_ret (p := K.p) (l := K.l) (e := K.e) (s := K.s) (m := K.m) (below := K.below) (meth := K.meth) (c := K.c) (b := b) (d0 := K.s.drawn) (Drawn.sameBut.refl K.s.drawn lw_cs) d1 d2 d6 d7 (pc := pc) (H := H) (ls := arr) hd
  show W K.p K.l K.e K.R K.s K.m K.args K.below K.meth K.c H [] 601024 7293034 _ _
  rw [c11, d8]
  exact h
theorem l_lcmp {cc : ByteArray} {own : String} {Ts : List Cond} {ret : Option FieldType} {R : Room} {x y : Int64} (C : kOK K cc own Ts ret R) (e : x = y) (hd : decode cc pc = .ok (.lcmp, 1)) (k : G K Wd n loc (pc + 1) (.int (iZ 0) :: st)) : G K Wd n loc pc (.long y :: .long x :: st) := by
  subst e
  exact fun ws tys H locs arr a b c d e f => vl_lcmp C.1 C.2.1 hd (k ws tys H locs arr a b c d e f)
theorem l_dcmp {cc : ByteArray} {own : String} {Ts : List Cond} {ret : Option FieldType} {R : Room} {x y : UInt64} {op : CmpOp} (C : kOK K cc own Ts ret R) (hd : decode cc pc = .ok (.dcmp op, 1)) (k : ∀ z : Int, z = (Op.cmpValue (FP.dcmp x y) op).toInt → in32 z → G K Wd n loc (pc + 1) (.int (iZ z) :: st)) : G K Wd n loc pc (.double y :: .double x :: st) :=
  fun ws tys H locs arr a b c d e f => lv_dcmp C.1 C.2.1 hd (by
    have h := k _ rfl ⟨Int32.le_toInt _, Int32.toInt_lt _⟩ ws tys H locs arr a b c d e f
    rw [iZ_self] at h
    exact h)
theorem l_dload {cc : ByteArray} {own : String} {Ts : List Cond} {ret : Option FieldType} {R : Room} {i : Nat} {x : UInt64} (C : kOK K cc own Ts ret R) (q : Nat) (hd : decode cc pc = .ok (.dload i, 2)) (hl : loc[q]? = some (i, .double x)) (k : G K Wd n loc (pc + 2) (.double x :: st)) : G K Wd n loc pc st :=
  fun ws tys H locs arr a b c d e f => lv_dload C.1 C.2.1 hd (lv_at f q hl) (k ws tys H locs arr a b c d e f)
theorem l_dstore {cc : ByteArray} {own : String} {Ts : List Cond} {ret : Option FieldType} {R : Room} {i nL : Nat} {x : UInt64} {loc' : List (Nat × Value)} (C : kOK K cc own Ts ret R) (hn : K.nL = nL) (hd : decode cc pc = .ok (.dstore i, 2)) (hlt : i + 1 < nL) (hl : (i, Value.double x) :: loc.filter (fun q => !(q.1 == i) && (!(q.1 == i + 1) && !(q.1 + 1 == i && q.2.category == 2))) = loc') (k : G K Wd n loc' (pc + 2) st) : G K Wd n loc pc (.double x :: st) :=
  fun ws tys H locs arr a b c d e f => lv_dstore C.1 C.2.1 hd f (by rw [hn]; exact hlt) hl (fun arr' f' => k ws tys H locs arr' a b c d e f')
end LROWS
