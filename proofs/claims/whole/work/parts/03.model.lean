/-! THE REFERENCE'S WORLD: its object and its twelve arrays, at addresses L, their kinds c; its state σ: a row of numbers for each field -/
abbrev MS : Type := Nat → Int → Int
def upM (σ : MS) (k : Nat) (f : Int → Int) : MS := fun j => if j = k then f else σ j
theorem upM_s (σ : MS) (k : Nat) (f : Int → Int) : upM σ k f k = f := if_pos rfl
theorem upM_n (σ : MS) {k j : Nat} (f : Int → Int) (h : j ≠ k) : upM σ k f j = σ j := if_neg h
theorem upI_s (f : Int → Int) (e v : Int) : upI f e v e = v := if_pos rfl
theorem upI_n (f : Int → Int) {e j : Int} (v : Int) (h : j ≠ e) : upI f e v j = f j := if_neg h
def cpI (f g : Int → Int) (sp dp n : Int) : Int → Int := fun k => if dp ≤ k ∧ k < dp + n then f (sp + (k - dp)) else g k
def rkI {S : Type} : S → Int → Option Value := fun _ r => some (.int (iZ r))
def rkV {S : Type} : S → Int → Option Value := fun _ _ => none
def rkL {S : Type} : S → Int → Option Value := fun _ r => some (.long (lZ r))
abbrev mfs (L : Nat → Nat) (σ : MS) : List Value := [.int (iZ (σ 0 0)), .ref (L 1), .int (iZ (σ 2 0)), .int (iZ (σ 3 0)), .ref (L 4), .ref (L 5), .ref (L 6), .ref (L 7), .ref (L 8), .int (iZ (σ 9 0)), .ref (L 10), .ref (L 11), .ref (L 12), .ref (L 13), .int (iZ (σ 14 0)), .ref (L 15), .ref (L 16)]
abbrev mws (L : Nat → Nat) (c : Nat → ClassId) (σ : MS) : va_W := [(L 0, .inr (6, mfs L σ)), (L 1, .inl (c 1, 60, .inl (fA (σ 1)))), (L 4, .inl (c 4, 2880, .inl (fA (σ 4)))), (L 5, .inl (c 5, 24, .inl (fA (σ 5)))), (L 6, .inl (c 6, 24, .inl (fA (σ 6)))), (L 7, .inl (c 7, 24, .inl (fA (σ 7)))), (L 8, .inl (c 8, 24, .inl (fA (σ 8)))), (L 10, .inl (c 10, 8, .inl (fA (σ 10)))), (L 11, .inl (c 11, 160, .inl (fA (σ 11)))), (L 12, .inl (c 12, 576, .inl (fA (σ 12)))), (L 13, .inl (c 13, 120, .inl (fA (σ 13)))), (L 15, .inl (c 15, 121, .inl (fA (σ 15)))), (L 16, .inl (c 16, 121, .inl (fA (σ 16))))]
abbrev mtys (c : Nat → ClassId) : TysT := [(c 1, .int), (c 4, .int), (c 5, .int), (c 6, .int), (c 7, .int), (c 8, .boolean), (c 10, .int), (c 11, .int), (c 12, .int), (c 13, .int), (c 15, .int), (c 16, .int)]
def MW (L : Nat → Nat) (c : Nat → ClassId) (X : va_W) (Y : TysT) (σ : MS) : WdT := fun ws tys => ws = mws L c σ ++ X ∧ tys = mtys c ++ Y
theorem m_recv {L : Nat → Nat} {c : Nat → ClassId} {X : va_W} {Y : TysT} {σ : MS} : ∀ ws tys, MW L c X Y σ ws tys → ∃ (q0 : Nat) (fs : List Value), ws[q0]? = some (L 0, .inr (6, fs)) := by
  rintro ws tys ⟨rfl, rfl⟩
  exact ⟨0, _, rfl⟩
section MROWS
variable {K : KT} {cc : ByteArray} {own : String} {Ts : List Cond} {ret : Option FieldType} {R : Room} {n : Nat × Nat} {loc : List (Nat × Value)} {pc : Nat} {st : List Value} {L : Nat → Nat} {c : Nat → ClassId} {X : va_W} {Y : TysT} {σ : MS} {idx : Nat}
theorem m_drop (k : G K (MW L c [] [] σ) n loc pc st) : G K (MW L c X Y σ) n loc pc st := by
  rintro ws tys H locs arr ⟨rfl, rfl⟩ hK hP hD hS hl
  refine k (mws L c σ) (mtys c) H locs arr ⟨(List.append_nil _).symm, (List.append_nil _).symm⟩ ?_ ?_ ?_ hS hl
  · exact ⟨hK.1, fun k q hk => hK.2 k q (by rw [List.getElem?_append_left (List.getElem?_eq_some_iff.mp hk).1]; exact hk)⟩
  · exact fun k q hk => hP k q (by rw [List.getElem?_append_left (List.getElem?_eq_some_iff.mp hk).1]; exact hk)
  · exact ⟨fun i j p q hi hj h => hD.1 i j p q (by rw [List.getElem?_append_left (List.getElem?_eq_some_iff.mp hi).1]; exact hi) (by rw [List.getElem?_append_left (List.getElem?_eq_some_iff.mp hj).1]; exact hj) h, fun k q hk => hD.2 k q (by rw [List.getElem?_append_left (List.getElem?_eq_some_iff.mp hk).1]; exact hk)⟩
theorem m_get (C : kOK K cc RX5 Ts ret R) (hin : ∀ w ∈ wsX50, w ∈ Ts) (k : Nat) (hk : k < 17) {v : Value} (hv : (mfs L σ)[k]? = some v) (hl : Cond.fieldLink RX5 idx RX5 (TX5 k).2.1 (TX5 k).2.2.1 ∈ Ts) (hs : (TX5 k).1 = RX5) (hd : decode cc pc = .ok (.getfield idx, 3)) (h : G K (MW L c X Y σ) n loc (pc + 3) (v :: st)) : G K (MW L c X Y σ) n loc pc (.ref (L 0) :: st) := by
  rintro ws tys H locs arr ⟨rfl, rfl⟩ hK hP hD hS hl2
  obtain ⟨c1, c2, c3, c4, c5, c6⟩ := C
  exact va_get (D := K.D) (ci := 6) (C := RX5) (T := TX5) (N := 17) c1 c2 c5 hin c4 hK hP 0 rfl rfl k hk (c5 _ hl) (fun x h9 => by rw [hs] at h9; exact h9) hv hd (h _ _ H locs arr ⟨rfl, rfl⟩ hK hP hD hS hl2)
theorem m_put (C : kOK K cc RX5 Ts ret R) (hin : ∀ w ∈ wsX50, w ∈ Ts) (k : Nat) (hk : k < 17) {z : Int} {σ' : MS} (hset : (mws L c σ ++ X).set 0 (L 0, .inr (6, (mfs L σ).set k (.int (iZ z)))) = mws L c σ' ++ X) (hl : Cond.fieldLink RX5 idx RX5 (TX5 k).2.1 (TX5 k).2.2.1 ∈ Ts) (hs : (TX5 k).1 = RX5) (hfin : (TX5 k).2.2.2 = false) (hty : parseFieldDescriptor (TX5 k).2.2.1 = some .int) (hd : decode cc pc = .ok (.putfield idx, 3))
    (h : G K (MW L c X Y σ') n loc (pc + 3) st) : G K (MW L c X Y σ) n loc pc (.int (iZ z) :: .ref (L 0) :: st) := by
  rintro ws tys H locs arr ⟨rfl, rfl⟩ hK hP hD hS hl2
  obtain ⟨c1, c2, c3, c4, c5, c6⟩ := C
  refine va_put (D := K.D) (ci := 6) (v := .int (iZ z)) (ty := .int) (C := RX5) (T := TX5) (N := 17) c1 c2 c5 hin tyX5 tyX5_ok nmX5 c4 hK hP hD hS 0 rfl rfl k hk (c5 _ hl) (fun x h9 => by rw [hs] at h9; exact h9) hfin hty rfl rfl (by simpa using hk) hd (fun H1 locs1 hP1 hD1 hS1 => ?_)
  rw [hset] at hP1 hD1
  exact h _ _ H1 locs1 arr ⟨rfl, rfl⟩ hK hP1 hD1 hS1 hl2
theorem m_ald (C : kOK K cc own Ts ret R) (p t : Nat) {a N : Nat} {cA : ClassId} {f : Int → Int} {e : Int} (hp : (mws L c σ ++ X)[p]? = some (a, .inl (cA, N, .inl (fA f)))) (ht : (mtys c ++ Y)[t]? = some (cA, .int)) (hN : N < 2147483648) (hi : 0 ≤ e ∧ e < N) (hd : decode cc pc = .ok (.iaload, 1)) (h : G K (MW L c X Y σ) n loc (pc + 1) (.int (iZ (f e)) :: st)) : G K (MW L c X Y σ) n loc pc (.int (iZ e) :: .ref a :: st) := by
  rintro ws tys H locs arr ⟨rfl, rfl⟩ hK hP hD hS hl2
  refine va_iald C.1 C.2.1 hK hP p t hp ht (iZ_in hi.1 hi.2 hN) hd ?_
  rw [fA_at hi.1 (by omega)]
  exact h _ _ H locs arr ⟨rfl, rfl⟩ hK hP hD hS hl2
theorem m_zald (C : kOK K cc own Ts ret R) (p t : Nat) {a N : Nat} {cA : ClassId} {f : Int → Int} {e : Int} (hp : (mws L c σ ++ X)[p]? = some (a, .inl (cA, N, .inl (fA f)))) (ht : (mtys c ++ Y)[t]? = some (cA, .boolean)) (hN : N < 2147483648) (hi : 0 ≤ e ∧ e < N) (hd : decode cc pc = .ok (.baload, 1)) (h : G K (MW L c X Y σ) n loc (pc + 1) (.int (iZ (f e)) :: st)) : G K (MW L c X Y σ) n loc pc (.int (iZ e) :: .ref a :: st) := by
  rintro ws tys H locs arr ⟨rfl, rfl⟩ hK hP hD hS hl2
  refine va_zald C.1 C.2.1 hK hP p t hp ht (iZ_in hi.1 hi.2 hN) hd ?_
  rw [fA_at hi.1 (by omega)]
  exact h _ _ H locs arr ⟨rfl, rfl⟩ hK hP hD hS hl2
theorem m_ast (C : kOK K cc own Ts ret R) (p t : Nat) {a N : Nat} {cA : ClassId} {f : Int → Int} {e z : Int} {X' : va_W} {σ' : MS} (hp : (mws L c σ ++ X)[p]? = some (a, .inl (cA, N, .inl (fA f)))) (ht : (mtys c ++ Y)[t]? = some (cA, .int)) (hset : (mws L c σ ++ X).set p (a, .inl (cA, N, .inl (fA (upI f e z)))) = mws L c σ' ++ X') (hN : N < 2147483648) (hi : 0 ≤ e ∧ e < N) (hd : decode cc pc = .ok (.iastore, 1)) (h : G K (MW L c X' Y σ') n loc (pc + 1) st) : G K (MW L c X Y σ) n loc pc (.int (iZ z) :: .int (iZ e) :: .ref a :: st) := by
  rintro ws tys H locs arr ⟨rfl, rfl⟩ hK hP hD hS hl2
  refine va_iast C.1 C.2.1 hK hP hD hS p t hp ht (iZ_in hi.1 hi.2 hN) hd (fun H1 locs1 hP1 hD1 hS1 => ?_)
  rw [fA_up hi.1 (by omega), hset] at hP1 hD1
  exact h _ _ H1 locs1 arr ⟨rfl, rfl⟩ hK hP1 hD1 hS1 hl2
theorem m_zast (C : kOK K cc own Ts ret R) (p t : Nat) {a N : Nat} {cA : ClassId} {f : Int → Int} {e z : Int} {X' : va_W} {σ' : MS} (hp : (mws L c σ ++ X)[p]? = some (a, .inl (cA, N, .inl (fA f)))) (ht : (mtys c ++ Y)[t]? = some (cA, .boolean)) (hset : (mws L c σ ++ X).set p (a, .inl (cA, N, .inl (fA (upI f e z)))) = mws L c σ' ++ X') (hN : N < 2147483648) (hz : z = 0 ∨ z = 1) (hi : 0 ≤ e ∧ e < N) (hd : decode cc pc = .ok (.bastore, 1)) (h : G K (MW L c X' Y σ') n loc (pc + 1) st) : G K (MW L c X Y σ) n loc pc (.int (iZ z) :: .int (iZ e) :: .ref a :: st) := by
  rintro ws tys H locs arr ⟨rfl, rfl⟩ hK hP hD hS hl2
  refine va_zast C.1 C.2.1 hK hP hD hS p t hp ht (iZ_in hi.1 hi.2 hN) hd (fun H1 locs1 hP1 hD1 hS1 => ?_)
  have e1 : vp_nar .boolean (iZ z) = iZ z := by rcases hz with rfl | rfl <;> decide
  rw [e1, fA_up hi.1 (by omega), hset] at hP1 hD1
  exact h _ _ H1 locs1 arr ⟨rfl, rfl⟩ hK hP1 hD1 hS1 hl2
theorem fA_cpy {f g : Int → Int} {sp dp m : Int} (h1 : 0 ≤ sp ∧ sp < 2147483648) (h2 : 0 ≤ dp ∧ dp < 2147483648) (h3 : 0 ≤ m ∧ m < 2147483648) : va_cpy (fA f) (fA g) (iZ sp).toNatClampNeg (iZ dp).toNatClampNeg (iZ m).toNatClampNeg = fA (cpI f g sp dp m) := by
  funext k
  have e1 := iZ_cl h1.1 h1.2
  have e2 := iZ_cl h2.1 h2.2
  have e3 := iZ_cl h3.1 h3.2
  show (if (iZ dp).toNatClampNeg ≤ k ∧ k < (iZ dp).toNatClampNeg + (iZ m).toNatClampNeg then iZ (f (((iZ sp).toNatClampNeg + (k - (iZ dp).toNatClampNeg) : Nat) : Int)) else iZ (g k)) = iZ (if dp ≤ (k : Int) ∧ (k : Int) < dp + m then f (sp + ((k : Int) - dp)) else g k)
  by_cases hk : (iZ dp).toNatClampNeg ≤ k ∧ k < (iZ dp).toNatClampNeg + (iZ m).toNatClampNeg
  · rw [if_pos hk, if_pos (by omega)]
    have e4 : (((iZ sp).toNatClampNeg + (k - (iZ dp).toNatClampNeg) : Nat) : Int) = sp + ((k : Int) - dp) := by omega
    rw [e4]
  · rw [if_neg hk, if_neg (by omega)]
theorem m_copy (C : kOK K cc own Ts ret R) (p0 p1 t0 t1 : Nat) {a0 a1 N0 N1 : Nat} {c0 c1 : ClassId} {f g : Int → Int} {sp dp m : Int} {σ' : MS} {X' : va_W} (hp0 : (mws L c σ ++ X)[p0]? = some (a0, .inl (c0, N0, .inl (fA f)))) (hp1 : (mws L c σ ++ X)[p1]? = some (a1, .inl (c1, N1, .inl (fA g)))) (ht0 : (mtys c ++ Y)[t0]? = some (c0, .int)) (ht1 : (mtys c ++ Y)[t1]? = some (c1, .int)) (hset : (mws L c σ ++ X).set p1 (a1, .inl (c1, N1, .inl (fA (cpI f g sp dp m)))) = mws L c σ' ++ X')
    (hN : N0 < 2147483648 ∧ N1 < 2147483648) (hi : 0 ≤ sp ∧ 0 ≤ dp ∧ 0 ≤ m ∧ sp + m ≤ N0 ∧ dp + m ≤ N1) (hlink : Cond.methodLink own idx arraycopyName ∈ Ts) (hnat : Cond.native arraycopyName ∈ Ts) (hstat : Cond.static arraycopyName ∈ Ts) (hini : Cond.initialized "java/lang/System" ∈ Ts)
    (hframes : 1 ≤ R.frames) (hlocals : (st.map fun v => v.category).sum + (nativeFrameWords "java/lang/System" "arraycopy" 5 + 11) ≤ R.locals) (hd : decode cc pc = .ok (.invokestatic idx, 3)) (h : G K (MW L c X' Y σ') n loc (pc + 3) st) : G K (MW L c X Y σ) n loc pc (.int (iZ m) :: .int (iZ dp) :: .ref a1 :: .int (iZ sp) :: .ref a0 :: st) := by
  rintro ws tys H locs arr ⟨rfl, rfl⟩ hK hP hD hS hl2
  obtain ⟨c1', c2, c3, c4, c5, c6, c7, rfl, c9⟩ := C
  obtain ⟨i1, i2, i3, i4, i5⟩ := hi
  have e1 := iZ_cl i1 (by omega)
  have e2 := iZ_cl i2 (by omega)
  have e3 := iZ_cl i3 (by omega)
  refine va_copyi c1' c2 (c3.trans hl2.1.symm) c4 (c5 _ hlink) (c5 _ hnat) (c5 _ hstat) (c5 _ hini) hK hP hD hS p0 p1 t0 t1 hp0 hp1 ht0 ht1 rfl (fun q => ?_) (fun q => ?_) (fun q => ?_) (by omega) (by omega) (fun i hi => rfl) hframes hlocals hd (fun H1 locs1 hP1 hD1 hS1 => ?_)
  · have := (iZ_lt (a := sp) (b := 0) (by omega) (by decide)).mp q; omega
  · have := (iZ_lt (a := dp) (b := 0) (by omega) (by decide)).mp q; omega
  · have := (iZ_lt (a := m) (b := 0) (by omega) (by decide)).mp q; omega
  rw [fA_cpy ⟨i1, by omega⟩ ⟨i2, by omega⟩ ⟨i3, by omega⟩, hset] at hP1 hD1
  exact h _ _ H1 locs1 arr ⟨rfl, rfl⟩ hK hP1 hD1 hS1 hl2
theorem m_len (C : kOK K cc own Ts ret R) (p t : Nat) {a N : Nat} {cA : ClassId} {f : Nat → Int32} {ty : FieldType} (hp : (mws L c σ ++ X)[p]? = some (a, .inl (cA, N, .inl f))) (ht : (mtys c ++ Y)[t]? = some (cA, ty)) (hd : decode cc pc = .ok (.arraylength, 1)) (h : G K (MW L c X Y σ) n loc (pc + 1) (.int (iZ (N : Int)) :: st)) : G K (MW L c X Y σ) n loc pc (.ref a :: st) := by
  rintro ws tys H locs arr ⟨rfl, rfl⟩ hK hP hD hS hl2
  exact va_alen C.1 C.2.1 hK hP p t hp ht (show Int32.ofNat N = iZ (N : Int) from Int32.ofInt_eq_ofNat.symm) hd (h _ _ H locs arr ⟨rfl, rfl⟩ hK hP hD hS hl2)
theorem m_newa (C : kOK K cc own Ts ret R) {N : Nat} (hN : N < 100000) (harr : Cond.arrayClass .int ∈ Ts) (hn : n.1 + 1 ≤ R.cells ∧ n.2 + N ≤ R.slots) (hd : decode cc pc = .ok (.newarray .int, 2)) (h : ∀ (q : Nat) (cq : ClassId), G K (MW L c [(q, .inl (cq, N, .inl (fA (fun _ => 0))))] [(cq, .int)] σ) (n.1 + 1, n.2 + N) loc (pc + 2) (.ref q :: st)) : G K (MW L c [] [] σ) n loc pc (.int (iZ (N : Int)) :: st) := by
  rintro ws tys H locs arr ⟨rfl, rfl⟩ hK hP hD hS hl2
  obtain ⟨c1', c2, c3, c4, c5, c6, c7, rfl, c9⟩ := C
  have e0 : (iZ (N : Int)).toNatClampNeg = N := by have := iZ_cl (e := (N : Int)) (by omega) (by omega); omega
  refine va_newa (atype := .int) (ty := .int) (N' := N) (a0 := (N, .inl (fA (fun _ => 0)))) c1' c2 (c5 _ harr) rfl hK hP hD hS c9.1 (fun cA => ?_) (fun q => ?_) e0 (by show N * 4 ≤ _; omega) hn.1 hn.2 hd (fun q cA H1 hK1 hP1 hD1 hS1 => ?_)
  · rfl
  · have := (iZ_lt (a := (N : Int)) (b := 0) (by omega) (by decide)).mp q; omega
  rw [List.append_nil] at hK1 hP1 hD1
  exact h q cA _ _ H1 locs arr ⟨rfl, rfl⟩ hK1 hP1 hD1 hS1 hl2
end MROWS
