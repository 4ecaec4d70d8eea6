/-! WORLDS AS MAPS: what stands at an address, of which kind an array is; the rows of methods that make cells -/
abbrev FT : Type := (Nat → Option va_E) × (ClassId → FieldType → Prop)
def FW (u : FT) : WdT := fun ws tys => (∀ a e, u.1 a = some e → (a, e) ∈ ws) ∧ ∀ c ty, u.2 c ty → (c, ty) ∈ tys
def fU (m : Nat → Option va_E) (a : Nat) (e : va_E) : Nat → Option va_E := fun b => if b = a then some e else m b
theorem fU_s (m : Nat → Option va_E) (a : Nat) (e : va_E) : fU m a e a = some e := if_pos rfl
theorem fU_n (m : Nat → Option va_E) {a b : Nat} (e : va_E) (h : b ≠ a) : fU m a e b = m b := if_neg h
def fY (t : ClassId → FieldType → Prop) (c : ClassId) (ty : FieldType) : ClassId → FieldType → Prop := fun c' ty' => t c' ty' ∨ (c' = c ∧ ty' = ty)
theorem fY_s (t : ClassId → FieldType → Prop) (c : ClassId) (ty : FieldType) : fY t c ty c ty := Or.inr ⟨rfl, rfl⟩
theorem fY_o {t : ClassId → FieldType → Prop} {c c' : ClassId} {ty ty' : FieldType} (h : t c' ty') : fY t c ty c' ty' := Or.inl h
abbrev refsE (c : ClassId) (N : Nat) (f : Nat → Option Nat) : va_E := .inl (c, N, .inr (.inr (.inr (.inr f))))
abbrev tObj : FieldType := .object "java/lang/Object"
theorem FW_set {m : Nat → Option va_E} {t : ClassId → FieldType → Prop} {ws : va_W} {tys : TysT} {q0 a : Nat} {e0 : va_E} (e : va_E) (h : FW (m, t) ws tys) (hq : ws[q0]? = some (a, e0)) : FW (fU m a e, t) (ws.set q0 (a, e)) tys := by
  have hlt := (List.getElem?_eq_some_iff.mp hq).1
  refine ⟨fun b e' hb => ?_, h.2⟩
  by_cases hba : b = a
  · subst hba
    have hb' : some e = some e' := (fU_s m b e).symm.trans hb
    cases hb'
    exact List.mem_of_getElem? (i := q0) (by rw [List.getElem?_set_self hlt])
  · have hb' : m b = some e' := (fU_n m e hba).symm.trans hb
    obtain ⟨q, hq'⟩ := List.getElem?_of_mem (h.1 b e' hb')
    have hne : q0 ≠ q := by
      intro x
      subst x
      rw [hq] at hq'
      exact hba (congrArg Prod.fst (Option.some.inj hq')).symm
    exact List.mem_of_getElem? (i := q) (by rw [List.getElem?_set_ne hne]; exact hq')
theorem FW_push {m : Nat → Option va_E} {t : ClassId → FieldType → Prop} {ws : va_W} {tys : TysT} {q : Nat} {e : va_E} (h : FW (m, t) ws tys) : FW (fU m q e, t) (ws ++ [(q, e)]) tys := by
  refine ⟨fun b e' hb => ?_, h.2⟩
  by_cases hba : b = q
  · subst hba
    have hb' : some e = some e' := (fU_s m b e).symm.trans hb
    cases hb'
    exact List.mem_append_right _ List.mem_cons_self
  · exact List.mem_append_left _ (h.1 b e' ((fU_n m e hba).symm.trans hb))
theorem FW_pushT {m : Nat → Option va_E} {t : ClassId → FieldType → Prop} {ws : va_W} {tys : TysT} {q : Nat} {e : va_E} {c : ClassId} {ty : FieldType} (h : FW (m, t) ws tys) : FW (fU m q e, fY t c ty) (ws ++ [(q, e)]) (tys ++ [(c, ty)]) := by
  refine ⟨(FW_push h).1, fun c' ty' hc => ?_⟩
  rcases hc with hc | ⟨rfl, rfl⟩
  · exact List.mem_append_left _ (h.2 _ _ hc)
  · exact List.mem_append_right _ List.mem_cons_self
theorem FW_new {m : Nat → Option va_E} {t : ClassId → FieldType → Prop} {ws : va_W} {tys : TysT} {q : Nat} {e : va_E} {A : Nat → Prop} (h : FW (m, t) ws tys) (hD : va_D A (ws ++ [(q, e)])) : m q = none := by
  cases hm : m q with
  | none => rfl
  | some e1 =>
    obtain ⟨i, hi⟩ := List.getElem?_of_mem (h.1 q e1 hm)
    have hl := (List.getElem?_eq_some_iff.mp hi).1
    have h9 := hD.1 i ws.length (q, e1) (q, e) (by rw [List.getElem?_append_left hl]; exact hi) (by simp) rfl
    omega
/-- a world of the house by its names, or by its map -/
abbrev US : Type := (LT × CS) ⊕ FT
def UW : US → WdT
  | .inl p => CL p.1 p.2
  | .inr u => FW u
section FROWS
variable {K : KT} {cc : ByteArray} {own : String} {Ts : List Cond} {ret : Option FieldType} {R : Room} {n : Nat × Nat} {loc : List (Nat × Value)} {pc : Nat} {st : List Value} {mp : Nat → Option va_E} {ty : ClassId → FieldType → Prop} {idx : Nat}
theorem f_get (C : kOK K cc own Ts ret R) {ref : String} {a ci : Nat} {fs : List Value} {q : vw_C} (hm : mp a = some (.inr (ci, fs))) (hcl : vwCl[ci]? = some q) (hin : ∀ w ∈ u_ws q.1 q.2.1 q.2.2, w ∈ Ts) (k : Nat) (hk : k < q.2.2) {v : Value} (hv : fs[k]? = some v) (hl : Cond.fieldLink own idx ref (q.2.1 k).2.1 (q.2.1 k).2.2.1 ∈ Ts) (hs : (q.2.1 k).1 = ref ∨ Cond.sameField ref (q.2.1 k).1 (q.2.1 k).2.1 (q.2.1 k).2.2.1 ∈ Ts) (hd : decode cc pc = .ok (.getfield idx, 3)) (h : G K (FW (mp, ty)) n loc (pc + 3) (v :: st)) : G K (FW (mp, ty)) n loc pc (.ref a :: st) := by
  intro ws tys H locs arr hW hK hP hD hS hl2
  obtain ⟨c1, c2, c3, c4, c5, c6⟩ := C
  obtain ⟨q0, hq⟩ := List.getElem?_of_mem (hW.1 _ _ hm)
  exact va_get (D := K.D) (ci := ci) (C := q.1) (T := q.2.1) (N := q.2.2) c1 c2 c5 hin c4 hK hP q0 hq hcl k hk (c5 _ hl) (fun x h9 => by
    rcases hs with hs | hs
    · rw [hs] at h9; exact h9
    · exact u_same (c5 _ hs) x h9) hv hd (h ws tys H locs arr hW hK hP hD hS hl2)
theorem f_put (C : kOK K cc own Ts ret R) {ref : String} {a ci : Nat} {fs : List Value} {q : vw_C} {mp' : Nat → Option va_E} (hm : mp a = some (.inr (ci, fs))) (hcl : vwCl[ci]? = some q) (hin : ∀ w ∈ u_ws q.1 q.2.1 q.2.2, w ∈ Ts) (ty0 : Nat → FieldType) (hty0 : ∀ k, k < q.2.2 → parseFieldDescriptor (q.2.1 k).2.2.1 = some (ty0 k)) (hnm : ∀ a, a < q.2.2 → ∀ b, b < q.2.2 → a ≠ b → (q.2.1 a).2.1 ≠ (q.2.1 b).2.1) (k : Nat) (hk : k < q.2.2) (hkl : k < fs.length) {v : Value} {vt : FieldType} (hl : Cond.fieldLink own idx ref (q.2.1 k).2.1 (q.2.1 k).2.2.1 ∈ Ts) (hs : (q.2.1 k).1 = ref ∨ Cond.sameField ref (q.2.1 k).1 (q.2.1 k).2.1 (q.2.1 k).2.2.1 ∈ Ts)
    (hfin : (q.2.1 k).2.2.2 = false ∨ ((q.2.1 k).2.2.2 = true ∧ K.meth.name = "<init>" ∧ (q.2.1 k).1 = own)) (hty : parseFieldDescriptor (q.2.1 k).2.2.1 = some vt) (hn : narrow vt v = v) (hfit : fits vt v = true) (he : fU mp a (.inr (ci, fs.set k v)) = mp') (hd : decode cc pc = .ok (.putfield idx, 3)) (h : G K (FW (mp', ty)) n loc (pc + 3) st) : G K (FW (mp, ty)) n loc pc (v :: .ref a :: st) := by
  subst he
  intro ws tys H locs arr hW hK hP hD hS hl2
  obtain ⟨c1, c2, c3, c4, c5, c6⟩ := C
  obtain ⟨q0, hq⟩ := List.getElem?_of_mem (hW.1 _ _ hm)
  have hsame : ∀ x, K.s.fieldFound? (q.2.1 k).1 (q.2.1 k).2.1 (q.2.1 k).2.2.1 = some x → K.s.fieldFound? ref (q.2.1 k).2.1 (q.2.1 k).2.2.1 = some x := fun x h9 => by
    rcases hs with hs | hs
    · rw [hs] at h9; exact h9
    · exact u_same (c5 _ hs) x h9
  rcases hfin with hfin | ⟨hfin, hi, hdc⟩
  · exact va_put (D := K.D) (ci := ci) (ty := vt) (C := q.1) (T := q.2.1) (N := q.2.2) c1 c2 c5 hin ty0 hty0 hnm c4 hK hP hD hS q0 hq hcl k hk (c5 _ hl) hsame hfin hty hn hfit hkl hd (fun H1 locs1 hP1 hD1 hS1 => h _ tys H1 locs1 arr (FW_set _ hW hq) hK hP1 hD1 hS1 hl2)
  · exact va_putF (D := K.D) (ci := ci) (ty := vt) (C := q.1) (T := q.2.1) (N := q.2.2) c1 c2 c5 hin ty0 hty0 hnm c4 hK hP hD hS q0 hq hcl k hk (c5 _ hl) hsame hfin hi hdc hty hn hfit hkl hd (fun H1 locs1 hP1 hD1 hS1 => h _ tys H1 locs1 arr (FW_set _ hW hq) hK hP1 hD1 hS1 hl2)
theorem f_new (C : kOK K cc own Ts ret R) {ci N : Nat} {Cn : String} {T : u_T} (hcl : vwCl[ci]? = some (Cn, T, N)) (hin : ∀ w ∈ u_ws Cn T N, w ∈ Ts) (ty0 : Nat → FieldType) (hty : ∀ k, k < N → parseFieldDescriptor (T k).2.2.1 = some (ty0 k)) (hl : Cond.classLink own idx Cn ∈ Ts) (hinst : Cond.instantiable Cn N ∈ Ts) (hini : Cond.initialized Cn ∈ Ts) {fs : List Value} (hfs : ∀ j, j < N → defaultValue (ty0 j) = vp_V fs j) (hn : n.1 + 1 ≤ R.cells ∧ n.2 + N ≤ R.slots) (hd : decode cc pc = .ok (.new idx, 3))
    (h : ∀ q, mp q = none → G K (FW (fU mp q (.inr (ci, fs)), ty)) (n.1 + 1, n.2 + N) loc (pc + 3) (.ref q :: st)) : G K (FW (mp, ty)) n loc pc st := by
  intro ws tys H locs arr hW hK hP hD hS hl2
  obtain ⟨c1, c2, c3, c4, c5, c6, c7, rfl, c9⟩ := C
  exact va_new c1 c2 c5 hin ty0 hty c4 (c5 _ hl) (c5 _ hinst) (c5 _ hini) hK hP hD hS c9.1 hcl hfs hn.1 hn.2 hd (fun q H1 hP1 hD1 hS1 => h q (FW_new hW hD1) _ tys H1 locs arr (FW_push hW) hK hP1 hD1 hS1 hl2)
theorem f_newa (C : kOK K cc own Ts ret R) {aty : ArrayType} {ety : FieldType} {N : Nat} {a0 : vp_A} (ha : ∀ cA : ClassId, vp_cell cA a0 = arrV cA N (fun _ => defaultValue ety)) (hety : newarray.typeOf aty = ety) (harr : Cond.arrayClass (newarray.typeOf aty) ∈ Ts) (hN : N < 100000) (hby : N * componentBytes ety ≤ 536870912) (hn : n.1 + 1 ≤ R.cells ∧ n.2 + N ≤ R.slots) (hd : decode cc pc = .ok (.newarray aty, 2))
    (h : ∀ (q : Nat) (cq : ClassId), mp q = none → G K (FW (fU mp q (.inl (cq, a0)), fY ty cq ety)) (n.1 + 1, n.2 + N) loc (pc + 2) (.ref q :: st)) : G K (FW (mp, ty)) n loc pc (.int (iZ (N : Int)) :: st) := by
  intro ws tys H locs arr hW hK hP hD hS hl2
  obtain ⟨c1', c2, c3, c4, c5, c6, c7, rfl, c9⟩ := C
  have e0 : (iZ (N : Int)).toNatClampNeg = N := by have := iZ_cl (e := (N : Int)) (by omega) (by omega); omega
  exact va_newa (atype := aty) (ty := ety) (N' := N) (a0 := a0) c1' c2 (c5 _ harr) hety hK hP hD hS c9.1 ha (fun q => by have := (iZ_lt (a := (N : Int)) (b := 0) (by omega) (by decide)).mp q; omega) e0 hby hn.1 hn.2 hd (fun q cA H1 hK1 hP1 hD1 hS1 => h q cA (FW_new hW hD1) _ _ H1 locs arr (FW_pushT hW) hK1 hP1 hD1 hS1 hl2)
theorem f_newq (C : kOK K cc own Ts ret R) {emp : Nat} (hF : SF emp K.A K.s K.s.heap) {e : Int} (M : Nat) (hl : Cond.classLink own idx "java/lang/Object" ∈ Ts) (he : 0 ≤ e ∧ e ≤ (M : Int)) (hM : M < 100000) (hn : n.1 + 1 ≤ R.cells ∧ n.2 + M ≤ R.slots) (hd : decode cc pc = .ok (.anewarray idx, 3))
    (h : ∀ (q : Nat) (cq : ClassId), mp q = none → G K (FW (fU mp q (refsE cq e.toNat (fun _ => none)), fY ty cq tObj)) (n.1 + 1, n.2 + M) loc (pc + 3) (.ref q :: st)) : G K (FW (mp, ty)) n loc pc (.int (iZ e) :: st) := by
  intro ws tys H locs arr hW hK hP hD hS hl2
  obtain ⟨c1', c2, c3, c4, c5, c6, c7, rfl, c9⟩ := C
  have e0 : (iZ e).toNatClampNeg = e.toNat := by have := iZ_cl (e := e) (by omega) (by omega); omega
  refine va_newq (N' := e.toNat) c1' c2 c4 (c5 _ hl) hF.2.2.2.2.2.1 hK hP hD hS c9.1 (fun q => by have := (iZ_lt (a := e) (b := 0) (by omega) (by decide)).mp q; omega) e0 (by omega) hn.1 (by omega) hd (fun q cA H1 hK1 hP1 hD1 hS1 => ?_)
  exact g_widen (n := (n.1 + 1, n.2 + e.toNat)) (n' := (n.1 + 1, n.2 + M)) ⟨Nat.le_refl _, by show n.2 + e.toNat ≤ n.2 + M; omega⟩ (h q cA (FW_new hW hD1)) _ _ H1 locs arr (FW_pushT hW) hK1 hP1 hD1 hS1 hl2
theorem f_alen (C : kOK K cc own Ts ret R) {a N : Nat} {cA : ClassId} {x : (Nat → Int32) ⊕ ((Nat → Int64) ⊕ ((Nat → UInt32) ⊕ ((Nat → UInt64) ⊕ (Nat → Option Nat))))} {ety : FieldType} (hm : mp a = some (.inl (cA, N, x))) (ht : ty cA ety) (hd : decode cc pc = .ok (.arraylength, 1)) (h : G K (FW (mp, ty)) n loc (pc + 1) (.int (iZ (N : Int)) :: st)) : G K (FW (mp, ty)) n loc pc (.ref a :: st) := by
  intro ws tys H locs arr hW hK hP hD hS hl2
  obtain ⟨q0, hq⟩ := List.getElem?_of_mem (hW.1 _ _ hm)
  obtain ⟨t0, ht0⟩ := List.getElem?_of_mem (hW.2 _ _ ht)
  exact va_alen C.1 C.2.1 hK hP q0 t0 hq ht0 (show Int32.ofNat N = iZ (N : Int) from Int32.ofInt_eq_ofNat.symm) hd (h ws tys H locs arr hW hK hP hD hS hl2)
theorem f_elen {Wd : WdT} (C : kOK K cc own Ts ret R) {emp : Nat} (hF : SF emp K.A K.s K.s.heap) (hd : decode cc pc = .ok (.arraylength, 1)) (h : G K Wd n loc (pc + 1) (.int (iZ 0) :: st)) : G K Wd n loc pc (.ref emp :: st) := by
  intro ws tys H locs arr hW hK hP hD hS hl2
  exact va_tlen C.1 C.2.1 hF.1.2 hS (v := iZ 0) rfl hd (h ws tys H locs arr hW hK hP hD hS hl2)
theorem f_getsE {Wd : WdT} (C : kOK K cc own Ts ret R) {emp : Nat} (hF : SF emp K.A K.s K.s.heap) (hl : Cond.fieldLink own idx "java/util/ArrayList" "DEFAULTCAPACITY_EMPTY_ELEMENTDATA" "[Ljava/lang/Object;" ∈ Ts) (hd : decode cc pc = .ok (.getstatic idx, 3)) (h : G K Wd n loc (pc + 3) (.ref emp :: st)) : G K Wd n loc pc st := by
  intro ws tys H locs arr hW hK hP hD hS hl2
  exact va_gets C.1 C.2.1 hF.1.1 hS C.2.2.2.1 (C.2.2.2.2.1 _ hl) (fun x h9 => h9) hd (h ws tys H locs arr hW hK hP hD hS hl2)
theorem f_aast (C : kOK K cc own Ts ret R) {emp : Nat} (hF : SF emp K.A K.s K.s.heap) {a b N ci : Nat} {cA : ClassId} {f : Nat → Option Nat} {vs : List Value} {q : vw_C} {e : Int} (hm : mp a = some (refsE cA N f)) (ht : ty cA tObj) (hb : mp b = some (.inr (ci, vs))) (hcl : vwCl[ci]? = some q) (hc : (q.1, "java/lang/Object") ∈ cCasts) (hN : N < 2147483648) (hi : 0 ≤ e ∧ e < N) (hd : decode cc pc = .ok (.aastore, 1)) (h : G K (FW (fU mp a (refsE cA N (va_up f e.toNat (some b))), ty)) n loc (pc + 1) st) : G K (FW (mp, ty)) n loc pc (.ref b :: .int (iZ e) :: .ref a :: st) := by
  intro ws tys H locs arr hW hK hP hD hS hl2
  obtain ⟨q0, hq⟩ := List.getElem?_of_mem (hW.1 _ _ hm)
  obtain ⟨qk, hqk⟩ := List.getElem?_of_mem (hW.1 _ _ hb)
  obtain ⟨t0, ht0⟩ := List.getElem?_of_mem (hW.2 _ _ ht)
  have he : (iZ e).toNatClampNeg = e.toNat := by have := iZ_cl hi.1 (show e < 2147483648 by omega); omega
  refine va_astqO C.1 C.2.1 hK hP hD hS q0 t0 qk ci hq ht0 (hF.2.2.2.1 _ hc) hqk hcl (iZ_in hi.1 hi.2 hN) hd (fun H1 locs1 hP1 hD1 hS1 => ?_)
  rw [he] at hP1 hD1
  exact h _ tys H1 locs1 arr (FW_set _ hW hq) hK hP1 hD1 hS1 hl2
theorem f_aastN (C : kOK K cc own Ts ret R) {a N : Nat} {cA : ClassId} {f : Nat → Option Nat} {e : Int} (hm : mp a = some (refsE cA N f)) (ht : ty cA tObj) (hN : N < 2147483648) (hi : 0 ≤ e ∧ e < N) (hd : decode cc pc = .ok (.aastore, 1)) (h : G K (FW (fU mp a (refsE cA N (va_up f e.toNat none)), ty)) n loc (pc + 1) st) : G K (FW (mp, ty)) n loc pc (.null :: .int (iZ e) :: .ref a :: st) := by
  intro ws tys H locs arr hW hK hP hD hS hl2
  obtain ⟨q0, hq⟩ := List.getElem?_of_mem (hW.1 _ _ hm)
  obtain ⟨t0, ht0⟩ := List.getElem?_of_mem (hW.2 _ _ ht)
  have he : (iZ e).toNatClampNeg = e.toNat := by have := iZ_cl hi.1 (show e < 2147483648 by omega); omega
  refine va_astqN C.1 C.2.1 hK hP hD hS q0 t0 hq ht0 (iZ_in hi.1 hi.2 hN) hd (fun H1 locs1 hP1 hD1 hS1 => ?_)
  rw [he] at hP1 hD1
  exact h _ tys H1 locs1 arr (FW_set _ hW hq) hK hP1 hD1 hS1 hl2
theorem f_aald (C : kOK K cc own Ts ret R) {a N b : Nat} {cA : ClassId} {f : Nat → Option Nat} {e : Int} (hm : mp a = some (refsE cA N f)) (ht : ty cA tObj) (hN : N < 2147483648) (hi : 0 ≤ e ∧ e < N) (hf : f e.toNat = some b) (hd : decode cc pc = .ok (.aaload, 1)) (h : G K (FW (mp, ty)) n loc (pc + 1) (.ref b :: st)) : G K (FW (mp, ty)) n loc pc (.int (iZ e) :: .ref a :: st) := by
  intro ws tys H locs arr hW hK hP hD hS hl2
  obtain ⟨q0, hq⟩ := List.getElem?_of_mem (hW.1 _ _ hm)
  obtain ⟨t0, ht0⟩ := List.getElem?_of_mem (hW.2 _ _ ht)
  have he : (iZ e).toNatClampNeg = e.toNat := by have := iZ_cl hi.1 (show e < 2147483648 by omega); omega
  refine va_aldO C.1 C.2.1 hK hP q0 t0 hq ht0 (iZ_in hi.1 hi.2 hN) hd ?_
  rw [he, hf]
  exact h ws tys H locs arr hW hK hP hD hS hl2
theorem f_copyq (C : kOK K cc own Ts ret R) {emp : Nat} (hF : SF emp K.A K.s K.s.heap) {a0 a1 N0 N1 : Nat} (ci : Nat) {c0 c1 : ClassId} {f g : Nat → Option Nat} {q : vw_C} {sp dp k : Int} (hm0 : mp a0 = some (refsE c0 N0 f)) (hm1 : mp a1 = some (refsE c1 N1 g)) (ht0 : ty c0 tObj) (ht1 : ty c1 tObj) (hcl : vwCl[ci]? = some q) (hc : (q.1, "java/lang/Object") ∈ cCasts) (hi : 0 ≤ sp ∧ 0 ≤ dp ∧ 0 ≤ k ∧ sp + k ≤ (N0 : Int) ∧ dp + k ≤ (N1 : Int)) (hN : N0 < 2147483648 ∧ N1 < 2147483648)
    (hel : ∀ i : Nat, i < k.toNat → ∀ b, f (sp.toNat + i) = some b → ∃ vs, mp b = some (.inr (ci, vs))) (hlink : Cond.methodLink own idx arraycopyName ∈ Ts) (hnat : Cond.native arraycopyName ∈ Ts) (hstat : Cond.static arraycopyName ∈ Ts) (hini : Cond.initialized "java/lang/System" ∈ Ts)
    (hframes : 1 ≤ R.frames) (hlocals : (st.map fun v => v.category).sum + (nativeFrameWords "java/lang/System" "arraycopy" 5 + 11) ≤ R.locals) (hd : decode cc pc = .ok (.invokestatic idx, 3)) (h : G K (FW (fU mp a1 (refsE c1 N1 (va_cpy f g sp.toNat dp.toNat k.toNat)), ty)) n loc (pc + 3) st) : G K (FW (mp, ty)) n loc pc (.int (iZ k) :: .int (iZ dp) :: .ref a1 :: .int (iZ sp) :: .ref a0 :: st) := by
  intro ws tys H locs arr hW hK hP hD hS hl2
  obtain ⟨c1', c2, c3, c4, c5, c6, c7, rfl, c9⟩ := C
  obtain ⟨i1, i2, i3, i4, i5⟩ := hi
  obtain ⟨q0, hq0⟩ := List.getElem?_of_mem (hW.1 _ _ hm0)
  obtain ⟨q1, hq1⟩ := List.getElem?_of_mem (hW.1 _ _ hm1)
  obtain ⟨t0, ht0'⟩ := List.getElem?_of_mem (hW.2 _ _ ht0)
  obtain ⟨t1, ht1'⟩ := List.getElem?_of_mem (hW.2 _ _ ht1)
  have e1 : (iZ sp).toNatClampNeg = sp.toNat := by have := iZ_cl i1 (show sp < 2147483648 by omega); omega
  have e2 : (iZ dp).toNatClampNeg = dp.toNat := by have := iZ_cl i2 (show dp < 2147483648 by omega); omega
  have e3 : (iZ k).toNatClampNeg = k.toNat := by have := iZ_cl i3 (show k < 2147483648 by omega); omega
  refine va_copyq (C := q.1) c1' c2 (c3.trans hl2.1.symm) c4 (c5 _ hlink) (c5 _ hnat) (c5 _ hstat) (c5 _ hini) hK hP hD hS q0 q1 t0 t1 hq0 hq1 ht0' ht1' (fun x => ?_) (fun x => ?_) (fun x => ?_) (by omega) (by omega) (fun i hi b hb => ?_) (vb_asgC (hF.2.2.2.1 _ hc)) hframes hlocals hd (fun H1 locs1 hP1 hD1 hS1 => ?_)
  · have := (iZ_lt (a := sp) (b := 0) (by omega) (by decide)).mp x; omega
  · have := (iZ_lt (a := dp) (b := 0) (by omega) (by decide)).mp x; omega
  · have := (iZ_lt (a := k) (b := 0) (by omega) (by decide)).mp x; omega
  · rw [e1] at hb
    obtain ⟨vs, hv⟩ := hel i (by omega) b hb
    obtain ⟨qb, hqb⟩ := List.getElem?_of_mem (hW.1 _ _ hv)
    exact va_recv hK hP hcl hqb
  · rw [e1, e2, e3] at hP1 hD1
    exact h _ tys H1 locs1 arr (FW_set _ hW hq1) hK hP1 hD1 hS1 hl2
theorem f_copyb (C : kOK K cc own Ts ret R) {a0 a1 N0 N1 : Nat} {c0 c1 : ClassId} {f g : Int → Int} {sp dp k : Int} (hm0 : mp a0 = some (.inl (c0, N0, .inl (fA f)))) (hm1 : mp a1 = some (.inl (c1, N1, .inl (fA g)))) (ht0 : ty c0 .byte) (ht1 : ty c1 .byte) (hi : 0 ≤ sp ∧ 0 ≤ dp ∧ 0 ≤ k ∧ sp + k ≤ (N0 : Int) ∧ dp + k ≤ (N1 : Int)) (hN : N0 < 2147483648 ∧ N1 < 2147483648) (hfit : ∀ j : Int, sp ≤ j → j < sp + k → -128 ≤ f j ∧ f j < 128) (hlink : Cond.methodLink own idx arraycopyName ∈ Ts) (hnat : Cond.native arraycopyName ∈ Ts) (hstat : Cond.static arraycopyName ∈ Ts) (hini : Cond.initialized "java/lang/System" ∈ Ts)
    (hframes : 1 ≤ R.frames) (hlocals : (st.map fun v => v.category).sum + (nativeFrameWords "java/lang/System" "arraycopy" 5 + 11) ≤ R.locals) (hd : decode cc pc = .ok (.invokestatic idx, 3)) (h : G K (FW (fU mp a1 (.inl (c1, N1, .inl (fA (cpI f g sp dp k)))), ty)) n loc (pc + 3) st) : G K (FW (mp, ty)) n loc pc (.int (iZ k) :: .int (iZ dp) :: .ref a1 :: .int (iZ sp) :: .ref a0 :: st) := by
  intro ws tys H locs arr hW hK hP hD hS hl2
  obtain ⟨c1', c2, c3, c4, c5, c6, c7, rfl, c9⟩ := C
  obtain ⟨i1, i2, i3, i4, i5⟩ := hi
  obtain ⟨q0, hq0⟩ := List.getElem?_of_mem (hW.1 _ _ hm0)
  obtain ⟨q1, hq1⟩ := List.getElem?_of_mem (hW.1 _ _ hm1)
  obtain ⟨t0, ht0'⟩ := List.getElem?_of_mem (hW.2 _ _ ht0)
  obtain ⟨t1, ht1'⟩ := List.getElem?_of_mem (hW.2 _ _ ht1)
  have e1 := iZ_cl i1 (show sp < 2147483648 by omega)
  have e2 := iZ_cl i2 (show dp < 2147483648 by omega)
  have e3 := iZ_cl i3 (show k < 2147483648 by omega)
  refine va_copyi c1' c2 (c3.trans hl2.1.symm) c4 (c5 _ hlink) (c5 _ hnat) (c5 _ hstat) (c5 _ hini) hK hP hD hS q0 q1 t0 t1 (f := fA f) (g := fA g) hq0 hq1 ht0' ht1' rfl (fun x => ?_) (fun x => ?_) (fun x => ?_) (by omega) (by omega) (fun j hj => ?_) hframes hlocals hd (fun H1 locs1 hP1 hD1 hS1 => ?_)
  · have := (iZ_lt (a := sp) (b := 0) (by omega) (by decide)).mp x; omega
  · have := (iZ_lt (a := dp) (b := 0) (by omega) (by decide)).mp x; omega
  · have := (iZ_lt (a := k) (b := 0) (by omega) (by decide)).mp x; omega
  · have hb := hfit (((iZ sp).toNatClampNeg + j : Nat) : Int) (by omega) (by omega)
    show fits .byte (.int (iZ (f (((iZ sp).toNatClampNeg + j : Nat) : Int)))) = true
    have e4 := nar_byte hb
    rw [vp_nar_byte] at e4
    rw [← e4]
    exact pk_fb _
  · rw [fA_cpy ⟨i1, by omega⟩ ⟨i2, by omega⟩ ⟨i3, by omega⟩] at hP1 hD1
    exact h _ tys H1 locs1 arr (FW_set _ hW hq1) hK hP1 hD1 hS1 hl2
theorem f_obj {Wd : WdT} (C : kOK K cc own Ts ret R) {a : Nat} (hlink : Cond.methodLink own idx Lib.objectInit ∈ Ts) (hinst : Cond.instanceMethod Lib.objectInit ∈ Ts) (hcode : Cond.code Lib.objectInit ⟨#[0xb1]⟩ 1 none ∈ Ts) (hf : 1 ≤ R.frames) (hlo : (st.map fun v => v.category).sum + 12 ≤ R.locals) (hd : decode cc pc = .ok (.invokespecial idx, 3)) (k : G K Wd n loc (pc + 3) st) : G K Wd n loc pc (.ref a :: st) := by
  intro ws tys H locs arr hW hK hP hD hS hl2
  obtain ⟨c1, c2, c3, c4, c5, c6, c7, rfl, c9⟩ := C
  exact W.objInit c1 c2 c4 (c5 _ hlink) (c5 _ hinst) (c5 _ hcode) (g := F0 K.m pc arr (.ref a :: st)) rfl (hl2.1.trans c3.symm) rfl hd hf (by show 2 * 0 + _ + 12 ≤ _; omega) (k ws tys H locs arr hW hK hP hD hS hl2)
theorem f_acmp_eq {Wd : WdT} (C : kOK K cc own Ts ret R) {off : Int} {tgt a : Nat} (hd : decode cc pc = .ok (.if_acmp .eq off, 3)) (ht : (pc : Int) + off = (tgt : Int)) (k : G K Wd n loc tgt st) : G K Wd n loc pc (.ref a :: .ref a :: st) :=
  fun ws tys H locs arr b c d e f g => lv_acmp_eq (rx := some a) (ry := some a) C.1 C.2.1 hd ht (fun _ => k ws tys H locs arr b c d e f g) (fun h => absurd rfl h)
theorem f_acmp_ne {Wd : WdT} (C : kOK K cc own Ts ret R) {off : Int} {tgt a : Nat} (hd : decode cc pc = .ok (.if_acmp .ne off, 3)) (ht : (pc : Int) + off = (tgt : Int)) (k : G K Wd n loc (pc + 3) st) : G K Wd n loc pc (.ref a :: .ref a :: st) :=
  fun ws tys H locs arr b c d e f g => lv_acmp_ne (rx := some a) (ry := some a) C.1 C.2.1 hd ht (fun h => absurd rfl h) (fun _ => k ws tys H locs arr b c d e f g)
theorem f_ldc {Wd : WdT} (C : kOK K cc own Ts ret R) {v : Int32} {z : Int} (hv : v = iZ z) (hc : Cond.constant own idx v ∈ Ts) (hd : decode cc pc = .ok (.ldc idx, 2)) (k : G K Wd n loc (pc + 2) (.int (iZ z) :: st)) : G K Wd n loc pc st :=
  fun ws tys H locs arr a b c d e f => lv_ldc C.1 C.2.1 C.2.2.2.1 (C.2.2.2.2.1 _ hc) hd (by rw [hv]; exact k ws tys H locs arr a b c d e f)
theorem f_ldcM {Wd : WdT} (C : kOK K cc own Ts ret R) {mi : Nat} (hM : va_Mi "[Ljava/lang/Object;" mi K.s) (hl : Cond.classLink own idx "[Ljava/lang/Object;" ∈ Ts) (hd : decode cc pc = .ok (.ldc idx, 2)) (k : G K Wd n loc (pc + 2) (.ref mi :: st)) : G K Wd n loc pc st :=
  fun ws tys H locs arr a b c d e f => va_ldcM C.1 C.2.1 C.2.2.2.1 (C.2.2.2.2.1 _ hl) hM hd (k ws tys H locs arr a b c d e f)
/-- getClass() of an array of objects -/
theorem f_getC (C : kOK K cc own Ts ret R) {emp : Nat} (hF : SF emp K.A K.s K.s.heap) {mi a N : Nat} {cA : ClassId} {f : Nat → Option Nat} (hM : va_Mi "[Ljava/lang/Object;" mi K.s) (hm : mp a = some (refsE cA N f)) (ht : ty cA tObj) (hlink : Cond.methodLink own idx ⟨"java/lang/Object", "getClass", "()Ljava/lang/Class;"⟩ ∈ Ts) (hsel : Cond.selects "[Ljava/lang/Object;" ⟨"java/lang/Object", "getClass", "()Ljava/lang/Class;"⟩ ⟨"java/lang/Object", "getClass", "()Ljava/lang/Class;"⟩ ∈ Ts) (hinst : Cond.instanceMethod ⟨"java/lang/Object", "getClass", "()Ljava/lang/Class;"⟩ ∈ Ts) (hnat : Cond.native ⟨"java/lang/Object", "getClass", "()Ljava/lang/Class;"⟩ ∈ Ts)
    (hf : 1 ≤ R.frames) (hlo : (st.map fun v => v.category).sum + 14 ≤ R.locals) (hd : decode cc pc = .ok (.invokevirtual idx, 3)) (k : G K (FW (mp, ty)) n loc (pc + 3) (.ref mi :: st)) : G K (FW (mp, ty)) n loc pc (.ref a :: st) := by
  intro ws tys H locs arr hW hK hP hD hS hl2
  obtain ⟨c1, c2, c3, c4, c5, c6, c7, rfl, c9⟩ := C
  obtain ⟨q0, hq0⟩ := List.getElem?_of_mem (hW.1 _ _ hm)
  obtain ⟨t0, ht0⟩ := List.getElem?_of_mem (hW.2 _ _ ht)
  have hdc : va_Dc K.s := hF.2.2.2.2.2.2.2.1
  have hcls : K.s.vm.findClass "[Ljava/lang/Object;" = some cA := va_nmO (hK.2 t0 _ ht0).2 (by decide)
  exact va_getC (C := "[Ljava/lang/Object;") c1 c2 (c3.trans hl2.1.symm) c4 (c5 _ hlink) hdc.use (c5 _ hsel) (c5 _ hinst) (c5 _ hnat) hM ⟨_, hP q0 _ hq0, rfl, hcls⟩ hf hlo hd (k ws tys H locs arr hW hK hP hD hS hl2)
end FROWS
/-- a call of a nest mate's constructor -/
theorem c_callIN {S : Type} {K : KT} {cc : ByteArray} {own host : String} {Ts : List Cond} {ret : Option FieldType} {R : Room} {Wd : S → WdT} {rk : S → Int → Option Value} {post : Int → S → Prop} {rm : Room} {n : Nat × Nat} {loc : List (Nat × Value)} {pc : Nat} {u : S} {y : MethodName} {wds : List Cond} {index maxL nargs emp : Nat} {bytes : ByteArray} {As rest : List Value} {b : Nat} (C : kOK K cc own Ts ret R) (hF : SF emp K.A K.s K.s.heap) (hst : K.l.stackTraces = false) (hM : cMet K.l y wds rm emp Wd rk (.ref b :: As) u post)
    (cw : (∀ w ∈ Ts, w.before K.args K.s = true) → va_CN R K.s K.args own index y host bytes maxL none wds rm rm.cells rm.slots nargs ∧ y.name = "<init>" ∧ (Cond.instanceMethod y).before K.args K.s = true) (hn : As.length = nargs) {stk : List Value} (hstk : stk = As.reverse ++ .ref b :: rest) (hr8 : (rest.map fun v => v.category).sum ≤ 8) (hf : n.1 + rm.cells ≤ R.cells ∧ n.2 + rm.slots ≤ R.slots) (hd : decode cc pc = .ok (.invokespecial index, 3))
    (kk : ∀ (r : Int) (u' : S), post r u' → G K (Wd u') (n.1 + rm.cells, n.2 + rm.slots) loc (pc + 3) ((rk u' r).toList ++ rest)) : G K (Wd u) n loc pc stk := by
  intro ws tys H locs arr hW hK hP hD hS hl
  obtain ⟨c1, c2, c3, c4, c5, c6, c7, c8, c9, c10⟩ := C
  subst hstk c8
  have hr := va_runIN (e := K.e) (below := K.below) (meth := K.meth) (H := H) (locs := locs) (cells := n.1) (slots := n.2) (g := F0 K.m pc arr (As.reverse ++ .ref b :: rest)) (rest := rest) (As := As) ⟨c1, c2, c3, c4, c5⟩ (hM hst K.D ws tys H.size hW) (cw c5) ⟨cPc_blind emp K.D _ ws tys H.size, c_pre hF c9 hK hP hD hS⟩ rfl hn hl.1 rfl (lv_room (ls := arr) (m := K.m) (pc := pc) hr8) hd hf
  exact x_back hD hS c9 hl hr kk
