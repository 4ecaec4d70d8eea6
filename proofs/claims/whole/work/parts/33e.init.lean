/-! AT THE START -/
theorem CI_z : CI (fun _ _ _ _ => 0) := by
  refine ⟨⟨by simp, fun m a z => ?_, fun m a z => ?_, fun s a z => ?_, fun i a z => by simp⟩, fun k a z => ⟨⟨by show (0 : Int) ≤ 0; decide, by show (0 : Int) ≤ 120; decide⟩, fun p x y => ?_⟩, fun a b x z => ?_⟩
  all_goals first | exact absurd z (by show ¬ _ < (0 : Int); omega) | exact absurd y (by show ¬ p < (0 : Int); omega)
theorem MI_0 {τ : MS} (h : ∀ k e, τ k e = if k = 12 ∧ 0 ≤ e ∧ e < 576 then -1 else 0) : MI τ := by
  have h0 : ∀ k e, ¬ k = 12 → τ k e = 0 := fun k e hk => by rw [h, if_neg (fun z => hk z.1)]
  have e2 := h0 2 0 (by decide)
  have e3 := h0 3 0 (by decide)
  have e9 := h0 9 0 (by decide)
  refine ⟨⟨by omega, by omega, by omega, fun m a z => absurd z (by omega), fun m a z => absurd z (by omega), fun m a z => absurd z (by omega), fun s a z => ?_, fun s a z => ?_, fun k a z => ?_, fun m a z => absurd z (by omega)⟩, fun a b x y z => Or.inl ?_⟩
  · have := h0 10 s (by decide)
    exact ⟨by omega, fun _ => this⟩
  · intro k x y
    have := h0 10 s (by decide)
    exact absurd y (by omega)
  · have := h0 1 k (by decide)
    omega
  · rw [h, if_pos ⟨rfl, by omega, by omega⟩]
theorem VE_0 {τ : MS} (h : ∀ k e, τ k e = if k = 12 ∧ 0 ≤ e ∧ e < 576 then -1 else 0) : VE (mV τ) (cV (fun _ _ _ _ => 0)) := by
  have h0 : ∀ k e, ¬ k = 12 → τ k e = 0 := fun k e hk => by rw [h, if_neg (fun z => hk z.1)]
  have e2 : mV τ 0 0 0 0 = 0 := h0 2 0 (by decide)
  have e3 : vN (mV τ) = 0 := h0 3 0 (by decide)
  have e9 : mV τ 3 0 0 0 = 0 := h0 9 0 (by decide)
  exact ⟨e2, fun i a z => absurd z (by omega), e3, e9, fun i a z => absurd z (by omega), fun i a z => absurd z (by omega)⟩
def EX0 : WdT := fun ws tys => ws = [] ∧ tys = []
theorem sep_EX0 {A : WdT} : ∀ ws tys, Sep A EX0 ws tys → A ws tys := by
  rintro ws tys ⟨w1, w2, t1, t2, h1, ⟨rfl, rfl⟩, rfl, rfl⟩
  rw [List.append_nil, List.append_nil]
  exact h1
theorem ex_fw {q : Nat} {e : va_E} : ∀ ws tys, EX q e ws tys → FW (fU (fun _ => none) q e, fun _ _ => False) ws tys := by
  rintro ws tys ⟨rfl, rfl⟩
  refine ⟨fun a e1 h => ?_, fun c t h => h.elim⟩
  have h' : (if a = q then some e else none) = some e1 := h
  by_cases ha : a = q
  · rw [if_pos ha] at h'
    cases h'
    rw [ha]
    exact List.mem_cons_self
  · rw [if_neg ha] at h'
    cases h'
/-- a class can be cast to itself -/
theorem nw_self {C T : String} {args : Array Value} {s : State} (h : (Cond.castable C T).before args s = true) : va_Nw (.castable C C) s := by
  obtain ⟨c, t, hc, -, -⟩ := Cond.castable_spec h
  show (Cond.castable C C).holds #[] s none s [] = true
  simp [Cond.holds, Cond.value, hc, va_asg]
set_option maxRecDepth 100000 in
theorem st_casts : ∀ q ∈ cCasts, q.1 = q.2 ∧ Cond.castable q.1 "java/lang/Object" ∈ lw_tbl ∨ Cond.castable q.1 q.2 ∈ lw_tbl := by decide +kernel
set_option maxRecDepth 100000 in
theorem st_decls : ∀ x ∈ cDecls, Cond.declares x ∈ lw_tbl := by decide +kernel
set_option maxRecDepth 100000 in
theorem st_nests : ∀ w ∈ cNests, Cond.methodLinkNest w.1 w.2.1 w.2.2 RX4 ∈ lw_tbl := by decide +kernel
set_option maxRecDepth 100000 in
theorem st_strs : ∀ q ∈ cStrs, Cond.stringRef RX4 q.1 q.2 ∈ lw_tbl := by decide +kernel
set_option maxRecDepth 100000 in
theorem st_nots : ∀ q ∈ cNots, Cond.not (.castable q.1 q.2) ∈ flatC (Jvm.Cond.and given_1 narrow_1) := by decide +kernel
abbrev tDE : Term := .static "java/util/ArrayList" "DEFAULTCAPACITY_EMPTY_ELEMENTDATA" "[Ljava/lang/Object;"
set_option maxRecDepth 100000 in
theorem st_w : (Cond.laysStatic "java/util/ArrayList" "DEFAULTCAPACITY_EMPTY_ELEMENTDATA" "[Ljava/lang/Object;" ∈ lw_tbl ∧ Cond.initialized "java/util/ArrayList" ∈ lw_tbl) ∧ (Cond.laysStatic Bundle.tN "UNASSIGNED_STACK" Bundle.steD ∈ lw_tbl ∧ Cond.laysStatic Bundle.tN "SUPPRESSED_SENTINEL" Bundle.listD ∈ lw_tbl ∧ Cond.initialized Bundle.tN ∈ lw_tbl) ∧ Cond.arrayOver (.object "java/lang/Object") ∈ lw_tbl ∧ Cond.arrayOver (.array .int) ∈ lw_tbl ∧ Cond.declares ⟨"java/lang/Object", "getClass", "()Ljava/lang/Class;"⟩ ∈ lw_tbl := by decide +kernel
set_option maxRecDepth 100000 in
theorem st_g : (Cond.arrayOf tDE (.object "java/lang/Object") ∈ flatC (Jvm.Cond.and given_1 narrow_1) ∧ Cond.eq (.length tDE) (.int 0) ∈ flatC (Jvm.Cond.and given_1 narrow_1)) ∧ (Cond.isRef (.static Bundle.tN "UNASSIGNED_STACK" Bundle.steD) ∈ flatC (Jvm.Cond.and given_1 narrow_1) ∧ Cond.isRef (.static Bundle.tN "SUPPRESSED_SENTINEL" Bundle.listD) ∈ flatC (Jvm.Cond.and given_1 narrow_1)) ∧ Cond.isRef (.mirror "[Ljava/lang/Object;") ∈ flatC (Jvm.Cond.and given_1 narrow_1) := by decide +kernel
set_option maxRecDepth 100000 in
theorem st_i : Cond.instantiable RJx4a65c 3 ∈ lw_tbl ∧ Cond.instantiable RX0 4 ∈ lw_tbl ∧ Cond.instantiable RX1 6 ∈ lw_tbl ∧ Cond.instantiable RX2 1 ∈ lw_tbl ∧ Cond.instantiable RX3 2 ∈ lw_tbl ∧ Cond.instantiable RX4 10 ∈ lw_tbl ∧ Cond.instantiable RX5 17 ∈ lw_tbl := by decide +kernel
theorem st_SF {s : State} {b : Nat} (hts : ∀ w ∈ lw_tbl, w.before #[Value.ref b] s = true) (hgv : (Jvm.Cond.and given_1 narrow_1).before #[Value.ref b] s = true) : ∃ emp, SF emp (fun q => s.heap.size ≤ q) s s.heap ∧ SN s := by
  have hs := flat_of_before _ hgv
  have hA : ∀ a : Nat, a < s.heap.size → ¬ (fun q => s.heap.size ≤ q) a := fun a h => Nat.not_le.mpr h
  obtain ⟨⟨w1, w2⟩, ⟨w3, w4, w5⟩, w6, w7, w8⟩ := st_w
  obtain ⟨⟨g1, g2⟩, ⟨g3, g4⟩, g5⟩ := st_g
  obtain ⟨emp, he, hT⟩ := va_Tof (N := 0) (f := fun _ => .null) (A := fun q => s.heap.size ≤ q) (by decide) (hs _ g1) (va_eqt (hs _ g2)) (fun j hj => absurd hj (Nat.not_lt_zero j)) hA
  refine ⟨emp, ⟨⟨va_Zof (hts _ w1) (hts _ w2) he hA, hT⟩, ⟨vx_Zqof (hts _ w3) (hts _ w5) (hs _ g3) hA, vx_Zqof (hts _ w4) (hts _ w5) (hs _ g4) hA⟩, fun q hq => ?_, fun q hq => ?_, fun x hx => va_Nw.of rfl (hts _ (st_decls x hx)), va_AO.of (hts _ w6), hts _ w7, va_Dc.of (hts _ w8), va_Mi.of (hs _ g5), fun w hw => va_Nw.of rfl (hts _ (st_nests w hw))⟩, fun q hq => va_Nc.of (hs _ (st_nots q hq))⟩
  · have h1 := hts _ (st_strs q hq)
    obtain ⟨cC, kC, hfc, -⟩ := Cond.instantiable_spec (hts _ st_i.2.2.2.2.2.1)
    obtain ⟨k, cf, i, a, -, -, -, -, -, h9⟩ := Cond.stringRef_spec (args := #[]) (first := s) (o := none) (idx := []) hfc h1
    exact ⟨a, h1, h9⟩
  · rcases st_casts q hq with ⟨e, h⟩ | h
    · rw [← e]
      exact nw_self (hts _ h)
    · exact va_Nw.of rfl (hts _ h)
