/-! THE LAW, FROM ITS ENTRY -/
theorem lk_law_cl8 : Cond.classLink RL 8 RX4 ∈ wsL_law := List.mem_of_getElem? (i := 0) (by decide +kernel)
theorem lk_law_cl85 : Cond.classLink RL 85 RX5 ∈ wsL_law := List.mem_of_getElem? (i := 3) (by decide +kernel)
theorem lk_law_in4 : Cond.instantiable RX4 10 ∈ wsL_law := List.mem_of_getElem? (i := 1) (by decide +kernel)
theorem lk_law_in5 : Cond.instantiable RX5 17 ∈ wsL_law := List.mem_of_getElem? (i := 4) (by decide +kernel)
theorem lk_law_ii4 : Cond.initialized RX4 ∈ wsL_law := List.mem_of_getElem? (i := 2) (by decide +kernel)
theorem lk_law_ii5 : Cond.initialized RX5 ∈ wsL_law := List.mem_of_getElem? (i := 5) (by decide +kernel)
theorem lk_law_m84 : Cond.methodLink RL 84 yX4_init ∈ wsL_law := List.mem_of_getElem? (i := 7) (by decide +kernel)
theorem lk_law_m87 : Cond.methodLink RL 87 yX5_init ∈ wsL_law := List.mem_of_getElem? (i := 52) (by decide +kernel)
theorem lk_law_im4 : Cond.instanceMethod yX4_init ∈ wsL_law := List.mem_of_getElem? (i := 8) (by decide +kernel)
theorem lk_law_im5 : Cond.instanceMethod yX5_init ∈ wsL_law := List.mem_of_getElem? (i := 53) (by decide +kernel)
theorem lk_law_acl : Cond.arrayClass .long ∈ wsL_law := List.mem_of_getElem? (i := 6) (by decide +kernel)
set_option maxRecDepth 100000 in
set_option maxHeartbeats 4000000 in
theorem law_begin {K : KT} {b L emp : Nat} {xs : Nat → Int32} (C : lwK K b L xs emp) : G K EX0 (0, 0) [(0, .ref b)] 0 [] := by
  have hL : L ≤ 3072 := C.2.2.2.2.2.2.2.2.1
  refine s_new C.1 (ci := 5) (fs := [.null, .int (iZ 0), .null, .null, .null, .null, .null, .null, .null, .null]) rfl inlX4 tyX4 tyX4_ok lk_law_cl8 lk_law_in4 lk_law_ii4 (fun j hj => by rcases j with _ | _ | _ | _ | _ | _ | _ | _ | _ | _ | _ | _ | _ | _ | _ | _ | _ | j <;> first | rfl | omega) ⟨Nat.le_of_ble_eq_true rfl, Nat.le_of_ble_eq_true rfl⟩ dL_law_0 (fun qh => ?_)
  refine g_dup C.1 rfl dL_law_3 ?_
  refine g_swap ?_
  refine g_mono (Sep.mono (ex_fw (q := qh)) (fun _ _ h => h)) ?_
  refine s_callI C.1 C.2.2.1 C.2.2.2.2.1 (Wd := UW) (u := Sum.inr (fU (fun _ => none) qh (.inr (5, [.null, .int (iZ 0), .null, .null, .null, .null, .null, .null, .null, .null])), fun _ _ => False)) (s_Hi (fU_s _ _ _)) (fun ht => cwI 0 ht gL_law_X4_init rfl rfl rfl (ht _ lk_law_ii4) (ht _ lk_law_m84) (ht _ lk_law_im4) rfl (by decide +kernel) ⟨Nat.le_of_ble_eq_true rfl, Nat.le_of_ble_eq_true rfl⟩) rfl rfl (Nat.le_of_ble_eq_true rfl) ⟨Nat.le_of_ble_eq_true rfl, Nat.le_of_ble_eq_true rfl⟩ dL_law_4 (fun r u' hq => ?_)
  obtain ⟨y, rfl, hy, he⟩ := hq
  refine g_mono sep_EX0 ?_
  refine g_astore_n C.1 (loc' := [(1, .ref qh), (0, .ref b)]) C.2.1 dL_law_7 rfl (by decide) rfl ?_
  refine s_new C.1 (ci := 6) (fs := [.int (iZ 0), .null, .int (iZ 0), .int (iZ 0), .null, .null, .null, .null, .null, .int (iZ 0), .null, .null, .null, .null, .int (iZ 0), .null, .null]) rfl inlX5 tyX5 tyX5_ok lk_law_cl85 lk_law_in5 lk_law_ii5 (fun j hj => by rcases j with _ | _ | _ | _ | _ | _ | _ | _ | _ | _ | _ | _ | _ | _ | _ | _ | _ | j <;> first | rfl | omega) ⟨Nat.le_of_ble_eq_true rfl, Nat.le_of_ble_eq_true rfl⟩ dL_law_8 (fun qm => ?_)
  refine g_dup C.1 rfl dL_law_11 ?_
  refine g_swap ?_
  refine g_mono (Sep.mono (ex_fw (q := qm)) (fun _ _ h => h)) ?_
  refine s_callI C.1 C.2.2.1 C.2.2.2.2.1 (Wd := VW) (u := Sum.inr (fU (fun _ => none) qm (.inr (6, [.int (iZ 0), .null, .int (iZ 0), .int (iZ 0), .null, .null, .null, .null, .null, .int (iZ 0), .null, .null, .null, .null, .int (iZ 0), .null, .null])), fun _ _ => False)) (s_Mi (fU_s _ _ _)) (fun ht => cwI 0 ht gL_law_X5_init rfl rfl rfl (ht _ lk_law_ii5) (ht _ lk_law_m87) (ht _ lk_law_im5) rfl (by decide +kernel) ⟨Nat.le_of_ble_eq_true rfl, Nat.le_of_ble_eq_true rfl⟩) rfl rfl (Nat.le_of_ble_eq_true rfl) ⟨Nat.le_of_ble_eq_true rfl, Nat.le_of_ble_eq_true rfl⟩ dL_law_12 (fun r u' hq => ?_)
  obtain ⟨⟨Lf, cf⟩, τ, rfl, hq0, hτ⟩ := hq
  obtain rfl : Lf 0 = qm := hq0
  refine g_astore_n C.1 (loc' := [(2, .ref (Lf 0)), (1, .ref qh), (0, .ref b)]) C.2.1 dL_law_15 rfl (by decide) rfl ?_
  refine g_iconst C.1 (z := 1) dL_law_16 ?_
  refine s_newl C.1 lk_law_acl ⟨Nat.le_of_ble_eq_true rfl, Nat.le_of_ble_eq_true rfl⟩ dL_law_17 (fun qo co => ?_)
  refine g_astore_n C.1 (loc' := [(3, .ref qo), (2, .ref (Lf 0)), (1, .ref qh), (0, .ref b)]) C.2.1 dL_law_19 rfl (by decide) rfl ?_
  refine g_iconst C.1 (z := 0) dL_law_20 ?_
  refine g_istore C.1 (loc' := [(4, .int (iZ 0)), (3, .ref qo), (2, .ref (Lf 0)), (1, .ref qh), (0, .ref b)]) C.2.1 dL_law_21 (by decide) rfl ?_
  refine g_assoc ?_
  refine g_swap ?_
  exact law_loop C 512 0 (51, 5444) y (fun _ _ _ _ => 0) (fun _ => 0) τ (by decide) (by decide) (by omega) (by decide) (by decide) ⟨hy, he, CI_z, MI_0 hτ, VE_0 hτ⟩

set_option maxRecDepth 100000 in
set_option maxHeartbeats 4000000 in
theorem whole_start {p : Program} {e : Env} {s : State} {m : MethodId} {below : List Frame} {meth : Method} {c : Code} (l : Launch) (hflags : l.flags = flags0) {b L : Nat} {xs : Nat → Int32} (hL : L ≤ 3072) (C0 : lw_At p s m meth c b L xs) : W p l e room_1 s m #[Value.ref b] below meth c s.heap [] 0 0 (lw_Z below #[Value.ref b] s) (entryFrame m ([Value.ref b] : List Value).toArray 9) := by
  obtain ⟨hx, hb, hr, hml, hown, hts, hX, hbl, hlocks, hgv⟩ := id C0
  obtain ⟨emp, hSF, hSN⟩ := st_SF hts hgv
  obtain ⟨j0, j1, j2, j3, j4, j5, j6⟩ := st_i
  obtain ⟨c0, k0, h0⟩ := u_known (C := RJx4a65c) (T := TJx4a65c) (N := 3) (n := 3) hts inJx4a65c (hts _ j0)
  obtain ⟨c1, k1, h1⟩ := u_known (C := RX0) (T := TX0) (N := 4) (n := 4) hts inX0 (hts _ j1)
  obtain ⟨c2, k2, h2⟩ := u_known (C := RX1) (T := TX1) (N := 6) (n := 6) hts inX1 (hts _ j2)
  obtain ⟨c3, k3, h3⟩ := u_known (C := RX2) (T := TX2) (N := 1) (n := 1) hts inX2 (hts _ j3)
  obtain ⟨c4, k4, h4⟩ := u_known (C := RX3) (T := TX3) (N := 2) (n := 2) hts inX3 (hts _ j4)
  obtain ⟨c5, k5, h5⟩ := u_known (C := RX4) (T := TX4) (N := 10) (n := 10) hts inX4 (hts _ j5)
  obtain ⟨c6, k6, h6⟩ := u_known (C := RX5) (T := TX5) (N := 17) (n := 17) hts inX5 (hts _ j6)
  obtain ⟨dC, dI, hKc⟩ : ∃ (dC : Nat → ClassId) (dI : Nat → Nat → Nat), ∀ (k : Nat) (q : vw_C), vwCl[k]? = some q → u_Kn s q.1 q.2.1 q.2.2 (dC k) (dI k) := by
    refine ⟨fun k => match k with | 0 => c0 | 1 => c1 | 2 => c2 | 3 => c3 | 4 => c4 | 5 => c5 | _ => c6, fun k => match k with | 0 => k0 | 1 => k1 | 2 => k2 | 3 => k3 | 4 => k4 | 5 => k5 | _ => k6, ?_⟩
    intro k q hq
    match k, hq with
    | 0, hq => cases hq; exact h0
    | 1, hq => cases hq; exact h1
    | 2, hq => cases hq; exact h2
    | 3, hq => cases hq; exact h3
    | 4, hq => cases hq; exact h4
    | 5, hq => cases hq; exact h5
    | 6, hq => cases hq; exact h6
    | k + 7, hq => simp [vwCl] at hq
  have hl := lv_entry ([.ref b]) (n := 9) (Nat.le_of_ble_eq_true rfl)
  rw [lg_entry_eq]
  obtain ⟨K, hKd⟩ : ∃ K : KT, K = (p, l, e, room_1, s, m, #[Value.ref b], below, meth, c, lw_Z below #[Value.ref b] s, (dC, dI), (fun q => s.heap.size ≤ q), 9) := ⟨_, rfl⟩
  have C : lwK (p, l, e, room_1, s, m, #[Value.ref b], below, meth, c, lw_Z below #[Value.ref b] s, (dC, dI), (fun q => s.heap.size ≤ q), 9) b L xs emp :=
    ⟨⟨hx, hb, hml, hown, fun w hw => hts w (wsL_law_in w hw), hr, hlocks, rfl, fun q h => h, by decide +kernel⟩, rfl, hSF, hSN, by
      show (!l.flags.contains noTraceFlag) = false
      rw [hflags]
      decide +kernel, hX, hbl, Nat.not_le.mpr hbl, hL, fun q h => h, rfl, rfl⟩
  exact law_begin C [] [] s.heap [] _ ⟨rfl, rfl⟩ ⟨hKc, fun k q h => by simp at h⟩ (fun k q h => by simp at h) ⟨fun i j p q h => by simp at h, fun k q h => by simp at h⟩ va_S.rf hl
