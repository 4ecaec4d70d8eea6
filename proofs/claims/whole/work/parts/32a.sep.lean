/-! WORLDS SIDE BY SIDE: a call knows one, the other stays -/
def Sep (A B : WdT) : WdT := fun ws tys => ∃ (w1 w2 : va_W) (t1 t2 : TysT), A w1 t1 ∧ B w2 t2 ∧ ws = w1 ++ w2 ∧ tys = t1 ++ t2
theorem va_P_iff {D : va_G} {ws : va_W} {H : Heap} : va_P D vwCl ws H ↔ ∀ q ∈ ws, va_at D vwCl q H := ⟨fun h q hq => by obtain ⟨k, hk⟩ := List.getElem?_of_mem hq; exact h k q hk, fun h k q hk => h q (List.mem_of_getElem? hk)⟩
theorem va_D_iff {A : Nat → Prop} {ws : va_W} : va_D A ws ↔ (ws.map Prod.fst).Nodup ∧ ∀ q ∈ ws, A q.1 := by
  refine ⟨fun h => ⟨?_, fun q hq => by obtain ⟨k, hk⟩ := List.getElem?_of_mem hq; exact h.2 k q hk⟩, fun h => ⟨nd_inj h.1, fun k q hk => h.2 q (List.mem_of_getElem? hk)⟩⟩
  refine List.pairwise_iff_getElem.mpr (fun i j hi hj hij e => ?_)
  rw [List.getElem_map, List.getElem_map] at e
  have li : i < ws.length := by simpa using hi
  have lj : j < ws.length := by simpa using hj
  have := h.1 i j _ _ (List.getElem?_eq_getElem li) (List.getElem?_eq_getElem lj) e
  omega
def TyOk (U : State) (q : ClassId × FieldType) : Prop := ArrOfT U q.1 q.2 ∧ va_RA U q.1 q.2
theorem va_K_iff {D : va_G} {tys : TysT} {U : State} : va_K D vwCl tys U ↔ (∀ (c : Nat) (q : vw_C), vwCl[c]? = some q → u_Kn U q.1 q.2.1 q.2.2 (D.1 c) (D.2 c)) ∧ ∀ q ∈ tys, TyOk U q :=
  ⟨fun h => ⟨h.1, fun q hq => by obtain ⟨k, hk⟩ := List.getElem?_of_mem hq; exact h.2 k q hk⟩, fun h => ⟨h.1, fun k q hk => h.2 q (List.mem_of_getElem? hk)⟩⟩
/-- another world of the same cells, in another order, or of fewer -/
theorem g_re {K : KT} {n : Nat × Nat} {loc : List (Nat × Value)} {pc : Nat} {st : List Value} {A B : WdT} (h : ∀ ws tys, A ws tys → ∃ (ws' : va_W) (tys' : TysT), B ws' tys' ∧ (∀ q ∈ ws', q ∈ ws) ∧ ((ws.map Prod.fst).Nodup → (ws'.map Prod.fst).Nodup) ∧ ∀ q ∈ tys', q ∈ tys) (k : G K B n loc pc st) : G K A n loc pc st := by
  intro ws tys H locs arr hW hK hP hD hS hl
  obtain ⟨ws', tys', h1, h2, h3, h4⟩ := h ws tys hW
  rw [va_K_iff] at hK
  rw [va_P_iff] at hP
  rw [va_D_iff] at hD
  exact k ws' tys' H locs arr h1 (va_K_iff.mpr ⟨hK.1, fun q hq => hK.2 q (h4 q hq)⟩) (va_P_iff.mpr fun q hq => hP q (h2 q hq)) (va_D_iff.mpr ⟨h3 hD.1, fun q hq => hD.2 q (h2 q hq)⟩) hS hl
theorem g_swap {K : KT} {n : Nat × Nat} {loc : List (Nat × Value)} {pc : Nat} {st : List Value} {A B : WdT} (k : G K (Sep B A) n loc pc st) : G K (Sep A B) n loc pc st :=
  g_re (fun ws tys h => by
    obtain ⟨w1, w2, t1, t2, h1, h2, rfl, rfl⟩ := h
    refine ⟨w2 ++ w1, t2 ++ t1, ⟨w2, w1, t2, t1, h2, h1, rfl, rfl⟩, fun q hq => ?_, fun h => ?_, fun q hq => ?_⟩
    · rcases List.mem_append.mp hq with x | x
      · exact List.mem_append_right _ x
      · exact List.mem_append_left _ x
    · rw [List.map_append] at *
      exact (List.perm_append_comm.nodup_iff).mp h
    · rcases List.mem_append.mp hq with x | x
      · exact List.mem_append_right _ x
      · exact List.mem_append_left _ x) k
theorem g_assoc {K : KT} {n : Nat × Nat} {loc : List (Nat × Value)} {pc : Nat} {st : List Value} {A B C : WdT} (k : G K (Sep A (Sep B C)) n loc pc st) : G K (Sep (Sep A B) C) n loc pc st :=
  g_re (fun ws tys h => by
    obtain ⟨w0, w3, t0, t3, ⟨w1, w2, t1, t2, h1, h2, rfl, rfl⟩, h3, rfl, rfl⟩ := h
    exact ⟨w1 ++ (w2 ++ w3), t1 ++ (t2 ++ t3), ⟨w1, _, t1, _, h1, ⟨w2, w3, t2, t3, h2, h3, rfl, rfl⟩, rfl, rfl⟩, fun q hq => by rw [List.append_assoc]; exact hq, fun h => by rw [List.append_assoc] at h; exact h, fun q hq => by rw [List.append_assoc]; exact hq⟩) k
theorem g_assoc' {K : KT} {n : Nat × Nat} {loc : List (Nat × Value)} {pc : Nat} {st : List Value} {A B C : WdT} (k : G K (Sep (Sep A B) C) n loc pc st) : G K (Sep A (Sep B C)) n loc pc st :=
  g_re (fun ws tys h => by
    obtain ⟨w1, w0, t1, t0, h1, ⟨w2, w3, t2, t3, h2, h3, rfl, rfl⟩, rfl, rfl⟩ := h
    exact ⟨(w1 ++ w2) ++ w3, (t1 ++ t2) ++ t3, ⟨_, w3, _, t3, ⟨w1, w2, t1, t2, h1, h2, rfl, rfl⟩, h3, rfl, rfl⟩, fun q hq => by rw [← List.append_assoc]; exact hq, fun h => by rw [← List.append_assoc] at h; exact h, fun q hq => by rw [← List.append_assoc]; exact hq⟩) k
theorem g_mono {K : KT} {n : Nat × Nat} {loc : List (Nat × Value)} {pc : Nat} {st : List Value} {A B : WdT} (h : ∀ ws tys, A ws tys → B ws tys) (k : G K B n loc pc st) : G K A n loc pc st :=
  fun ws tys H locs arr hW a b c d e => k ws tys H locs arr (h ws tys hW) a b c d e
theorem Sep.mono {A A' B B' : WdT} (h : ∀ ws tys, A ws tys → A' ws tys) (g : ∀ ws tys, B ws tys → B' ws tys) : ∀ ws tys, Sep A B ws tys → Sep A' B' ws tys := by
  rintro ws tys ⟨w1, w2, t1, t2, h1, h2, e1, e2⟩
  exact ⟨w1, w2, t1, t2, h _ _ h1, g _ _ h2, e1, e2⟩
section SEP
variable {S S0 : Type} {K : KT} {cc : ByteArray} {own : String} {Ts : List Cond} {ret ret' : Option FieldType} {R : Room} {Wd : S → WdT} {B : WdT} {rk : S → Int → Option Value} {post : Int → S → Prop} {px : String → S → Prop} {rm rm0 : Room} {n : Nat × Nat} {loc : List (Nat × Value)} {pc : Nat} {st : List Value} {u : S} {y : MethodName} {wds : List Cond} {index maxL nargs emp : Nat} {bytes : ByteArray} {As rest : List Value} {b ci : Nat} {q : vw_C}
/-- what stands beside the callee's world: behind the call, beside its world then -/
theorem sep_back {w1 w2 w' : va_W} {H H1 : Heap} (hP : va_P K.D vwCl (w1 ++ w2) H) (hD : va_D K.A (w1 ++ w2)) (hsub : ∀ q, va_A w1 H.size q → K.A q) (hk : ∀ q, q < H.size → ¬ va_A w1 H.size q → H1[q]? = H[q]?) (hP' : va_P K.D vwCl w' H1) (hD' : va_D (va_A w1 H.size) w') : va_P K.D vwCl (w' ++ w2) H1 ∧ va_D K.A (w' ++ w2) := by
  have hn := (va_D_iff.mp hD).1
  have h9 := (va_D_iff.mp hD).2
  have h10 := va_D_iff.mp hD'
  rw [List.map_append, List.nodup_append] at hn
  have dis : ∀ q ∈ w2, q.1 < H.size ∧ ¬ va_A w1 H.size q.1 := fun q hq => by
    have lt : q.1 < H.size := by
      obtain ⟨k, hk⟩ := List.getElem?_of_mem (List.mem_append_right w1 hq)
      exact (hP k q hk).lt
    refine ⟨lt, fun h => ?_⟩
    rcases h with ⟨k, e, h⟩ | h
    · exact hn.2.2 q.1 (List.mem_map.mpr ⟨(q.1, e), List.mem_of_getElem? h, rfl⟩) q.1 (List.mem_map.mpr ⟨q, hq, rfl⟩) rfl
    · omega
  refine ⟨va_P_iff.mpr fun q hq => ?_, va_D_iff.mpr ⟨?_, fun q hq => ?_⟩⟩
  · rcases List.mem_append.mp hq with h | h
    · exact va_P_iff.mp hP' q h
    · exact (va_P_iff.mp hP q (List.mem_append_right _ h)).kept (hk q.1 (dis q h).1 (dis q h).2)
  · rw [List.map_append, List.nodup_append]
    refine ⟨h10.1, hn.2.1, fun a ha c hc e => ?_⟩
    obtain ⟨p, hp, rfl⟩ := List.mem_map.mp ha
    obtain ⟨q, hq, rfl⟩ := List.mem_map.mp hc
    exact (dis q hq).2 (e ▸ h10.2 p hp)
  · rcases List.mem_append.mp hq with h | h
    · exact hsub _ (h10.2 q h)
    · exact h9 q (List.mem_append_right _ h)
theorem x_backS {w1 w2 : va_W} {t1 t2 : TysT} {H : Heap} {locs : List Loc} {arr : Array Slot} {st0 : List Value} {a : Array Value} (hB : B w2 t2) (hK : va_K K.D vwCl (t1 ++ t2) K.s) (hP : va_P K.D vwCl (w1 ++ w2) H) (hD : va_D K.A (w1 ++ w2)) (hS : va_S K.A K.s.heap H locs) (hA : ∀ q, K.s.heap.size ≤ q → K.A q) (hl : lv_has arr K.nL loc)
    (hr : va_Run K.p K.l K.e K.R K.s K.m K.args K.below K.meth K.c H locs n.1 n.2 rm.cells rm.slots (F0 K.m pc arr st0) rest (xQ K.D Wd rk post (va_A w1 H.size) a) (va_A w1 H.size))
    (kk : ∀ (r : Int) (u' : S), post r u' → G K (Sep (Wd u') B) (n.1 + rm.cells, n.2 + rm.slots) loc (pc + 3) ((rk u' r).toList ++ rest)) :
    W K.p K.l K.e K.R K.s K.m K.args K.below K.meth K.c H locs n.1 n.2 K.Q (F0 K.m pc arr st0) := by
  have hsub : ∀ q, va_A w1 H.size q → K.A q := by
    intro q h
    rcases h with ⟨k, e, h⟩ | h
    · exact (va_D_iff.mp hD).2 (q, e) (List.mem_append_left _ (List.mem_of_getElem? h))
    · exact hA q (Nat.le_trans hS.1 h)
  intro T hT X
  obtain ⟨v, st₀, t, T', L, h0, X', hL, e1, e2, ⟨⟨r, u', ws', tys', hv, hp, hW', hP', hK', hD'⟩, hz, hk⟩, st⟩ := hr T hT X
  cases hv
  rw [h0] at hz hk
  have hKs := va_K_iff.mp (va_K.moved (show K.s.vm.Alike t.vm by rw [← e2]; exact X'.warmed.alike).symm hK')
  obtain ⟨hP2, hD2⟩ := sep_back hP hD hsub (H1 := T'.heap) (fun q x z => by rw [e1]; exact hk q x z) (by rw [e1]; exact hP') hD'
  obtain ⟨t2', a1, b1⟩ := kk r u' hp (ws' ++ w2) (tys' ++ t2) T'.heap (locs ++ L) arr ⟨ws', w2, tys', t2, hW', hB, rfl, rfl⟩ (va_K_iff.mpr ⟨hKs.1, fun q hq => by
      rcases List.mem_append.mp hq with h | h
      · exact hKs.2 q h
      · exact (va_K_iff.mp hK).2 q (List.mem_append_right _ h)⟩) hP2 hD2
    ⟨Nat.le_trans hS.1 (by rw [e1]; exact hz), fun q h1 h2 => by rw [e1, hk q (Nat.lt_of_lt_of_le h1 hS.1) (fun z => h2 (hsub q z))]; exact hS.2.1 q h1 h2, fun q hq => by
      rcases List.mem_append.mp hq with h | h
      · exact hS.2.2 q h
      · exact hsub _ (hL q h)⟩ hl T' rfl X'
  exact ⟨t2', st t2' a1, b1⟩
end SEP
