/-! a field of a class that stands above: read and written by the name below -/
section ABOVE
variable {K : KT} {cc : ByteArray} {own : String} {Ts : List Cond} {ret : Option FieldType} {R : Room} {n : Nat × Nat} {loc : List (Nat × Value)} {pc : Nat} {st : List Value} {y : LT} {σ σ' : CS} {κ ci idx : Nat} {i j : Int} {fs : List Value} {q : vw_C}
theorem c_getS (C : kOK K cc own Ts ret R) {ref : String} (hcell : cCell y σ κ i j = .inr (ci, fs)) (hcl : vwCl[ci]? = some q) (hin : ∀ w ∈ u_ws q.1 q.2.1 q.2.2, w ∈ Ts) (k : Nat) (hk : k < q.2.2) {v : Value} (hv : fs[k]? = some v) (hl : Cond.fieldLink own idx ref (q.2.1 k).2.1 (q.2.1 k).2.2.1 ∈ Ts) (hs : Cond.sameField ref (q.2.1 k).1 (q.2.1 k).2.1 (q.2.1 k).2.2.1 ∈ Ts) (hd : decode cc pc = .ok (.getfield idx, 3)) (hdom : cDom σ κ i j) (h : G K (CL y σ) n loc (pc + 3) (v :: st)) : G K (CL y σ) n loc pc (.ref (y.1 κ i j) :: st) := by
  intro ws tys H locs arr hW hK hP hD hS hl2
  obtain ⟨c1, c2, c3, c4, c5, c6⟩ := C
  obtain ⟨q0, hq⟩ := List.getElem?_of_mem (hW.1 _ _ _ hdom)
  rw [hcell] at hq
  exact va_get (D := K.D) (ci := ci) (C := q.1) (T := q.2.1) (N := q.2.2) c1 c2 c5 hin c4 hK hP q0 hq hcl k hk (c5 _ hl) (fun x h9 => u_same (c5 _ hs) x h9) hv hd (h ws tys H locs arr hW hK hP hD hS hl2)
theorem c_putS (C : kOK K cc own Ts ret R) {ref : String} (hcell : cCell y σ κ i j = .inr (ci, fs)) (hcl : vwCl[ci]? = some q) (hin : ∀ w ∈ u_ws q.1 q.2.1 q.2.2, w ∈ Ts) (ty0 : Nat → FieldType) (hty0 : ∀ k, k < q.2.2 → parseFieldDescriptor (q.2.1 k).2.2.1 = some (ty0 k)) (hnm : ∀ a, a < q.2.2 → ∀ b, b < q.2.2 → a ≠ b → (q.2.1 a).2.1 ≠ (q.2.1 b).2.1) (k : Nat) (hk : k < q.2.2) (hkl : k < fs.length) {v : Value} {ty : FieldType} (hcell' : cCell y σ' κ i j = .inr (ci, fs.set k v)) (hu : CUpd y σ σ' κ i j) (hl : Cond.fieldLink own idx ref (q.2.1 k).2.1 (q.2.1 k).2.2.1 ∈ Ts) (hs : Cond.sameField ref (q.2.1 k).1 (q.2.1 k).2.1 (q.2.1 k).2.2.1 ∈ Ts) (hfin : (q.2.1 k).2.2.2 = false) (hty : parseFieldDescriptor (q.2.1 k).2.2.1 = some ty) (hn : narrow ty v = v) (hfit : fits ty v = true)
    (hd : decode cc pc = .ok (.putfield idx, 3)) (hdom : cDom σ κ i j) (h : G K (CL y σ') n loc (pc + 3) st) : G K (CL y σ) n loc pc (v :: .ref (y.1 κ i j) :: st) := by
  intro ws tys H locs arr hW hK hP hD hS hl2
  obtain ⟨c1, c2, c3, c4, c5, c6⟩ := C
  obtain ⟨q0, hq⟩ := List.getElem?_of_mem (hW.1 _ _ _ hdom)
  have hW' := CL_set hW hdom hq hu
  rw [hcell] at hq
  rw [hcell'] at hW'
  exact va_put (D := K.D) (ci := ci) (ty := ty) (C := q.1) (T := q.2.1) (N := q.2.2) c1 c2 c5 hin ty0 hty0 hnm c4 hK hP hD hS q0 hq hcl k hk (c5 _ hl) (fun x h9 => u_same (c5 _ hs) x h9) hfin hty hn hfit hkl hd (fun H1 locs1 hP1 hD1 hS1 => h _ tys H1 locs1 arr hW' hK hP1 hD1 hS1 hl2)
end ABOVE
