/-! ROWS OF ROWS in worlds as maps -/
noncomputable def fR (m : Nat → Option va_E) (r : Nat → Nat) (N : Nat) (e : va_E) : Nat → Option va_E := fun b => @ite _ (∃ i, i < N ∧ r i = b) (Classical.propDecidable _) (some e) (m b)
theorem fR_s (m : Nat → Option va_E) {r : Nat → Nat} {N i : Nat} (e : va_E) (hi : i < N) : fR m r N e (r i) = some e := if_pos ⟨i, hi, rfl⟩
theorem fR_n (m : Nat → Option va_E) {r : Nat → Nat} {N b : Nat} (e : va_E) (h : ∀ i, i < N → r i ≠ b) : fR m r N e b = m b := if_neg (fun ⟨i, hi, x⟩ => h i hi x)
theorem arrV_ext (c : ClassId) {N : Nat} {f g : Nat → Value} (h : ∀ k, k < N → f k = g k) : arrV c N f = arrV c N g := by
  unfold arrV
  rw [show (fun j : Fin N => f j.val) = (fun j : Fin N => g j.val) from funext fun j => h j.val j.isLt]
theorem f_conv {K : KT} {n : Nat × Nat} {loc : List (Nat × Value)} {pc : Nat} {st : List Value} {m : Nat → Option va_E} {t : ClassId → FieldType → Prop} {q N : Nat} {c : ClassId} {f f' : Nat → Option Nat} (hm : m q = some (refsE c N f)) (hff : ∀ k, k < N → f k = f' k) (k : G K (FW (fU m q (refsE c N f'), t)) n loc pc st) : G K (FW (m, t)) n loc pc st := by
  intro ws tys H locs arr hW hK hP hD hS hl
  obtain ⟨q0, hq⟩ := List.getElem?_of_mem (hW.1 _ _ hm)
  refine k _ tys H locs arr (FW_set _ hW hq) hK (fun k' x hx => ?_) (hD.set hq) hS hl
  by_cases hk : q0 = k'
  · subst hk
    rw [List.getElem?_set_self (List.getElem?_eq_some_iff.mp hq).1] at hx
    cases hx
    have h9 : H[q]? = some (vp_cell c (N, .inr (.inr (.inr (.inr f))))) := hP q0 _ hq
    show H[q]? = some (vp_cell c (N, .inr (.inr (.inr (.inr f')))))
    rw [h9, vp_cell_q, vp_cell_q, arrV_ext c (fun k hk => by rw [hff k hk])]
  · rw [List.getElem?_set_ne hk] at hx
    exact hP k' x hx
theorem f_mna {K : KT} {cc : ByteArray} {own : String} {Ts : List Cond} {ret : Option FieldType} {R : Room} {n : Nat × Nat} {loc : List (Nat × Value)} {pc idx : Nat} {st : List Value} {mp : Nat → Option va_E} {ty : ClassId → FieldType → Prop} (C : kOK K cc own Ts ret R) {emp : Nat} (hF : SF emp K.A K.s K.s.heap) {cq : ClassId} {N M : Nat} (hcq : ty cq .int) (hl : Cond.classLink own idx "[[I" ∈ Ts) (harr : Cond.arrayClass .int ∈ Ts) (hNM : N < 10000 ∧ M < 10000) (hn : n.1 + (1 + N) ≤ R.cells ∧ n.2 + (N + N * M) ≤ R.slots) (hd : decode cc pc = .ok (.multianewarray idx 2, 4))
    (h : ∀ (q : Nat) (r : Nat → Nat) (cA : ClassId), mp q = none → (∀ i, i < N → mp (r i) = none) → (∀ i j, i < N → j < N → r i = r j → i = j) → (∀ i, i < N → r i ≠ q) → G K (FW (fU (fR mp r N (.inl (cq, M, .inl (fA (fun _ => 0))))) q (refsE cA N (fun i => some (r i))), fY ty cA (.array .int))) (n.1 + 1 + N, n.2 + N + N * M) loc (pc + 4) (.ref q :: st)) : G K (FW (mp, ty)) n loc pc (.int (iZ (M : Int)) :: .int (iZ (N : Int)) :: st) := by
  intro ws tys H locs arr hW hK hP hD hS hl2
  obtain ⟨c1, c2, c3, c4, c5, c6, c7, rfl, c9⟩ := C
  obtain ⟨t0, ht0⟩ := List.getElem?_of_mem (hW.2 _ _ hcq)
  have hcy : K.s.vm.findClass (FieldType.array .int).toString = some cq := (hK.2 t0 _ ht0).2
  have eN : (iZ (N : Int)).toNatClampNeg = N := by have := iZ_cl (e := (N : Int)) (by omega) (by omega); omega
  have eM : (iZ (M : Int)).toNatClampNeg = M := by have := iZ_cl (e := (M : Int)) (by omega) (by omega); omega
  refine va_mna (X := ws) (L := []) (f := fun _ => .inl (cq, M, .inl (fA (fun _ => 0)))) (ty := .int) (cy := cq) (N' := N) (K' := M) (z := (M, .inl (fA (fun _ => 0)))) c1 c2 c4 (c5 _ hl) hF.2.2.2.2.2.2.1 (c5 _ harr) hcy hK (by rw [show ws ++ va_pl [] _ = ws from List.append_nil ws]; exact hP) (by rw [show ws ++ va_pl [] _ = ws from List.append_nil ws]; exact hD) hS c9.1 (fun q => by have := (iZ_lt (a := (N : Int)) (b := 0) (by omega) (by decide)).mp q; omega) (fun q => by have := (iZ_lt (a := (M : Int)) (b := 0) (by omega) (by decide)).mp q; omega) eN eM (by omega) (by show M * 4 ≤ _; omega) (by omega) rfl rfl hn.1 hn.2 (fun c => arrV_new c M _) hd (fun q r cA H1 hinj hrL hK1 hP1 hD1 hS1 => ?_)
  have hpos : ∀ i, i < N → ((ws ++ [(q, refsE cA N (fun i => if i < N then some (r i) else none))]) ++ va_pl ([] ++ (List.range N).map r) (vr_up (fun _ => Sum.inl (cq, M, Sum.inl (fA (fun _ => 0)))) ((List.range N).map r) (.inl (cq, (M, .inl (fA (fun _ => 0)))))))[ws.length + 1 + i]? = some (r i, .inl (cq, M, .inl (fA (fun _ => 0)))) := fun i hi => by
    rw [List.getElem?_append_right (by simp)]
    have hm : r i ∈ (List.range N).map r := List.mem_map.mpr ⟨i, List.mem_range.mpr hi, rfl⟩
    simp [va_pl, hi, vr_up, hm]
  have hpq : ((ws ++ [(q, refsE cA N (fun i => if i < N then some (r i) else none))]) ++ va_pl ([] ++ (List.range N).map r) (vr_up (fun _ => Sum.inl (cq, M, Sum.inl (fA (fun _ => 0)))) ((List.range N).map r) (.inl (cq, (M, .inl (fA (fun _ => 0)))))))[ws.length]? = some (q, refsE cA N (fun i => if i < N then some (r i) else none)) := by
    rw [List.getElem?_append_left (by simp)]
    simp
  have fresh : ∀ (p : Nat) (x : Nat) (e : va_E), ws.length ≤ p → ((ws ++ [(q, refsE cA N (fun i => if i < N then some (r i) else none))]) ++ va_pl ([] ++ (List.range N).map r) (vr_up (fun _ => Sum.inl (cq, M, Sum.inl (fA (fun _ => 0)))) ((List.range N).map r) (.inl (cq, (M, .inl (fA (fun _ => 0)))))))[p]? = some (x, e) → mp x = none := fun p x e hp he => by
    cases hm : mp x with
    | none => rfl
    | some e1 =>
      obtain ⟨i, hi⟩ := List.getElem?_of_mem (hW.1 x e1 hm)
      have hlt := (List.getElem?_eq_some_iff.mp hi).1
      have h9 := hD1.1 i p (x, e1) (x, e) (by rw [List.getElem?_append_left (by simp; omega), List.getElem?_append_left hlt]; exact hi) he rfl
      omega
  have hqr : ∀ i, i < N → r i ≠ q := fun i hi x => by
    have h9 := hD1.1 (ws.length + 1 + i) ws.length _ _ (hpos i hi) hpq x
    omega
  have hqn := fresh _ _ _ (Nat.le_refl _) hpq
  have hrn : ∀ i, i < N → mp (r i) = none := fun i hi => fresh _ _ _ (by omega) (hpos i hi)
  refine f_conv (K := K) (n := (n.1 + 1 + N, n.2 + N + N * M)) (m := fU (fR mp r N (.inl (cq, M, .inl (fA (fun _ => 0))))) q (refsE cA N (fun i => if i < N then some (r i) else none))) (t := fY ty cA (.array .int)) (f' := fun i => some (r i)) (fU_s _ _ _) (fun k hk => if_pos hk) (by rw [fU_fU]; exact h q r cA hqn hrn hinj hqr) _ _ H1 locs arr ⟨fun b e hb => ?_, fun c9 t9 h9 => ?_⟩ hK1 hP1 hD1 hS1 hl2
  · have hb' : fU (fR mp r N (.inl (cq, M, .inl (fA (fun _ => 0))))) q (refsE cA N (fun i => if i < N then some (r i) else none)) b = some e := hb
    by_cases h1 : b = q
    · subst h1
      rw [fU_s] at hb'
      cases hb'
      exact List.mem_of_getElem? hpq
    · rw [fU_n _ _ h1] at hb'
      by_cases h2 : ∃ i, i < N ∧ r i = b
      · obtain ⟨i, hi, rfl⟩ := h2
        rw [fR_s _ _ hi] at hb'
        cases hb'
        exact List.mem_of_getElem? (hpos i hi)
      · rw [fR_n _ _ (fun i hi x => h2 ⟨i, hi, x⟩)] at hb'
        exact List.mem_append_left _ (List.mem_append_left _ (hW.1 _ _ hb'))
  · rcases h9 with h9 | ⟨rfl, rfl⟩
    · exact List.mem_append_left _ (hW.2 _ _ h9)
    · exact List.mem_append_right _ List.mem_cons_self
