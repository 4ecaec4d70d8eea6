/-! THE LAW'S CASES -/
def LW (qo : Nat) (co : ClassId) (Lf : Nat → Nat) (cf : Nat → ClassId) (u : HU) (τ : MS) : WdT := Sep (HW qo co u) (MW Lf cf [] [] τ)
def lI (qh emp : Nat) (y : LT) (σ : CS) (τ : MS) : Prop := y.1 0 0 0 = qh ∧ y.2.2 = emp ∧ CI σ ∧ MI τ ∧ VE (mV τ) (cV σ)
/-- what the loop's foot asks -/
def lF (K : KT) (qo : Nat) (co : ClassId) (Lf : Nat → Nat) (cf : Nat → ClassId) (qh emp b : Nat) (n : Nat × Nat) (i : Int) : Prop := ∀ (n' : Nat × Nat) (y : LT) (σ : CS) (fo : Nat → Int64) (τ : MS), n'.1 ≤ n.1 + 16 ∧ n'.2 ≤ n.2 + 400 → lI qh emp y σ τ → G K (LW qo co Lf cf ((y, σ), fo) τ) n' [(4, .int (iZ i)), (3, .ref qo), (2, .ref (Lf 0)), (1, .ref qh), (0, .ref b)] 1672 []
theorem l_same {K : KT} {cc : ByteArray} {own : String} {Ts : List Cond} {ret : Option FieldType} {R : Room} {Wd : WdT} {n : Nat × Nat} {loc : List (Nat × Value)} {pc : Nat} {st : List Value} {off : Int} {tgt : Nat} {x : Int32} (C : kOK K cc own Ts ret R) (hd : decode cc pc = .ok (.if_icmp .eq off, 3)) (ht : (pc : Int) + off = (tgt : Int)) (k : G K Wd n loc tgt st) : G K Wd n loc pc (.int x :: .int x :: st) :=
  fun ws tys H locs arr a b c d e f => lv_icmp_eq C.1 C.2.1 hd ht (fun _ => k ws tys H locs arr a b c d e f) (fun h => absurd rfl h)

set_option maxRecDepth 100000 in
set_option maxHeartbeats 4000000 in
theorem lc_0 {K : KT} {b L emp qo qh : Nat} {xs : Nat → Int32} {co : ClassId} {Lf : Nat → Nat} {cf : Nat → ClassId} {y : LT} {σ : CS} {fo : Nat → Int64} {τ : MS} {n : Nat × Nat} {i : Int} (C : lwK K b L xs emp) (hI : lI qh emp y σ τ) (hr0 : n.1 + 16 ≤ 601024 ∧ n.2 + 400 ≤ 7293034) (hi : 0 ≤ i ∧ i + 6 ≤ (L : Int)) (next : lF K qo co Lf cf qh emp b n i) : G K (LW qo co Lf cf ((y, σ), fo) τ) n [(4, .int (iZ i)), (3, .ref qo), (2, .ref (Lf 0)), (1, .ref qh), (0, .ref b)] 152 [] := by
  obtain ⟨rfl, rfl, hci, hmi, hve⟩ := hI
  have o9 := VO_m hmi.1
  show G K (Sep (HW qo co ((y, σ), fo)) (MW Lf cf [] [] τ)) n _ 152 []
  refine g_aload_n C.1 3 dL_law_152 rfl rfl ?_
  refine g_aload_n C.1 4 dL_law_153 rfl rfl ?_
  refine g_iload C.1 0 dL_law_154 rfl ?_
  refine g_iconst C.1 (z := 1) dL_law_156 ?_
  refine g_iadd C.1 (x := i) (y := 1) dL_law_157 ?_
  refine l_ld C (e := i + 1) (by omega) dL_law_158 ?_
  refine g_aload_n C.1 4 dL_law_159 rfl rfl ?_
  refine g_iload C.1 0 dL_law_160 rfl ?_
  refine g_iconst C.1 (z := 2) dL_law_162 ?_
  refine g_iadd C.1 (x := i) (y := 2) dL_law_163 ?_
  refine l_ld C (e := i + 2) (by omega) dL_law_164 ?_
  refine g_aload_n C.1 4 dL_law_165 rfl rfl ?_
  refine g_iload C.1 0 dL_law_166 rfl ?_
  refine g_iconst C.1 (z := 3) dL_law_168 ?_
  refine g_iadd C.1 (x := i) (y := 3) dL_law_169 ?_
  refine l_ld C (e := i + 3) (by omega) dL_law_170 ?_
  refine g_aload_n C.1 4 dL_law_171 rfl rfl ?_
  refine g_iload C.1 0 dL_law_172 rfl ?_
  refine g_iconst C.1 (z := 4) dL_law_174 ?_
  refine g_iadd C.1 (x := i) (y := 4) dL_law_175 ?_
  refine l_ld C (e := i + 4) (by omega) dL_law_176 ?_
  refine g_aload_n C.1 4 dL_law_177 rfl rfl ?_
  refine g_iload C.1 0 dL_law_178 rfl ?_
  refine g_iconst C.1 (z := 5) dL_law_180 ?_
  refine g_iadd C.1 (x := i) (y := 5) dL_law_181 ?_
  refine l_ld C (e := i + 5) (by omega) dL_law_182 ?_
  refine g_aload_n C.1 1 dL_law_183 rfl rfl ?_
  refine s_callL C.1 C.2.2.1 C.2.2.2.1 C.2.2.2.2.1 (s_L_feed y σ fo (Xv xs (i + 1)) (Xv xs (i + 2)) (Xv xs (i + 3)) (Xv xs (i + 4)) (Xv xs (i + 5)) hci ⟨Xv_in xs _, Xv_in xs _, Xv_in xs _, Xv_in xs _, Xv_in xs _⟩) (fun ht => vx_cwSW 7 ht gL_law_L_feed rfl rfl rfl (by decide +kernel) ⟨Nat.le_of_ble_eq_true rfl, Nat.le_of_ble_eq_true rfl⟩) rfl rfl (Nat.le_of_ble_eq_true rfl) ⟨(show n.1 + 1 ≤ 601024 by omega), (show n.2 + 6 ≤ 7293034 by omega)⟩ dL_law_184 (fun T u' hq => ?_)
  obtain ⟨⟨y', σ'⟩, fo'⟩ := u'
  obtain ⟨⟨hy, he⟩, hci', hTd, hv, hn⟩ := hq
  dsimp only at hy he hci' hv hn
  rw [← hTd] at hv hn
  refine g_istore C.1 (loc' := [(5, .int (iZ T)), (4, .int (iZ i)), (3, .ref qo), (2, .ref (Lf 0)), (1, .ref (y.1 0 0 0)), (0, .ref b)]) C.2.1 dL_law_187 (by decide) rfl ?_
  refine g_aload_n C.1 3 dL_law_189 rfl rfl ?_
  refine g_aload_n C.1 5 dL_law_190 rfl rfl ?_
  refine g_iload C.1 1 dL_law_191 rfl ?_
  refine g_iconst C.1 (z := 1) dL_law_193 ?_
  refine g_iadd C.1 (x := i) (y := 1) dL_law_194 ?_
  refine l_ld C (e := i + 1) (by omega) dL_law_195 ?_
  refine g_aload_n C.1 5 dL_law_196 rfl rfl ?_
  refine g_iload C.1 1 dL_law_197 rfl ?_
  refine g_iconst C.1 (z := 2) dL_law_199 ?_
  refine g_iadd C.1 (x := i) (y := 2) dL_law_200 ?_
  refine l_ld C (e := i + 2) (by omega) dL_law_201 ?_
  refine g_aload_n C.1 5 dL_law_202 rfl rfl ?_
  refine g_iload C.1 1 dL_law_203 rfl ?_
  refine g_iconst C.1 (z := 3) dL_law_205 ?_
  refine g_iadd C.1 (x := i) (y := 3) dL_law_206 ?_
  refine l_ld C (e := i + 3) (by omega) dL_law_207 ?_
  refine g_aload_n C.1 5 dL_law_208 rfl rfl ?_
  refine g_iload C.1 1 dL_law_209 rfl ?_
  refine g_iconst C.1 (z := 4) dL_law_211 ?_
  refine g_iadd C.1 (x := i) (y := 4) dL_law_212 ?_
  refine l_ld C (e := i + 4) (by omega) dL_law_213 ?_
  refine g_aload_n C.1 5 dL_law_214 rfl rfl ?_
  refine g_iload C.1 1 dL_law_215 rfl ?_
  refine g_iconst C.1 (z := 5) dL_law_217 ?_
  refine g_iadd C.1 (x := i) (y := 5) dL_law_218 ?_
  refine l_ld C (e := i + 5) (by omega) dL_law_219 ?_
  refine g_swap ?_
  refine s_callM C.1 (s_X5_feed K.l Lf cf τ (Xv xs (i + 1)) (Xv xs (i + 2)) (Xv xs (i + 3)) (Xv xs (i + 4)) (Xv xs (i + 5)) ⟨hmi, Xv_in xs _, Xv_in xs _, Xv_in xs _, Xv_in xs _, Xv_in xs _⟩) (ci := 6) (q := (RX5, TX5, 17)) rfl m_recv (fun ht => cwV 5 ht gL_law_X5_feed rfl rfl rfl (by decide +kernel) ⟨Nat.le_of_ble_eq_true rfl, Nat.le_of_ble_eq_true rfl⟩) rfl rfl (Nat.le_of_ble_eq_true rfl) ⟨(show n.1 + 1 + 1 ≤ 601024 by omega), (show n.2 + 6 + 5 ≤ 7293034 by omega)⟩ dL_law_220 (fun r τ' hq => ?_)
  obtain ⟨hmi', h00, hun, hrm⟩ := hq
  refine g_istore C.1 (loc' := [(6, .int (iZ r)), (5, .int (iZ T)), (4, .int (iZ i)), (3, .ref qo), (2, .ref (Lf 0)), (1, .ref (y.1 0 0 0)), (0, .ref b)]) C.2.1 dL_law_223 (by decide) rfl ?_
  refine g_aload_n C.1 4 dL_law_225 rfl rfl ?_
  refine s_callM C.1 (s_X5_thrown K.l Lf cf τ' trivial) (ci := 6) (q := (RX5, TX5, 17)) rfl m_recv (fun ht => cwV 0 ht gL_law_X5_thrown rfl rfl rfl (by decide +kernel) ⟨Nat.le_of_ble_eq_true rfl, Nat.le_of_ble_eq_true rfl⟩) rfl rfl (Nat.le_of_ble_eq_true rfl) ⟨(show n.1 + 1 + 1 + 0 ≤ 601024 by omega), (show n.2 + 6 + 5 + 0 ≤ 7293034 by omega)⟩ dL_law_226 (fun r2 τ2 hq => ?_)
  obtain ⟨e2, e3⟩ := hq
  subst e3
  have hTm : T = (tFeed (mV τ)) := hTd.trans (hve.t_Feed).symm
  rw [← hTm] at h00 hun hrm
  obtain rfl : r2 = T := e2.trans h00
  refine g_swap ?_
  refine g_iload C.1 1 dL_law_229 rfl ?_
  refine l_same C.1 (tgt := 236) dL_law_231 (by decide) ?_
  refine g_iload C.1 1 dL_law_236 rfl ?_
  have hT32 : in32 r2 := by rw [hTd]; unfold tFeed; first | exact t_r1 | exact t_r1' | exact t_r2 | exact t_r3
  refine g_if_ne C.1 (tgt := 253) dL_law_238 (by decide) hT32 (fun h0 => ?_) (fun h0 => ?_)
  · refine g_goto C.1 (tgt := 1672) dL_law_253 (by decide) ?_
    refine g_sub [2, 3, 4, 5, 6] rfl ?_
    exact next (n.1 + 1 + 1 + 0, n.2 + 6 + 5 + 0) y' σ' fo' τ2 ⟨(show n.1 + 1 + 1 + 0 ≤ n.1 + 16 by omega), (show n.2 + 6 + 5 + 0 ≤ n.2 + 400 by omega)⟩ ⟨hy, he, hci', hmi', by rw [hun h0, hn h0]; exact hve⟩
  · obtain ⟨v, hf, hrc⟩ := hv h0
    have hJ := J_feed hve o9 (hrm h0) hrc
    obtain ⟨rfl, hve2⟩ := hJ
    refine g_aload_n C.1 3 dL_law_241 rfl rfl ?_
    refine g_iconst C.1 (z := 0) dL_law_242 ?_
    refine g_mono (A := Sep (Sep (CL y' σ') (OUT qo co fo')) (MW Lf cf [] [] τ2)) (B := Sep (Sep (CL y' σ') (OUT qo co fo')) (MW Lf cf [] [] τ2)) (fun _ _ h => h) ?_
    refine g_swap ?_
    refine g_assoc' ?_
    refine o_lald C.1 dL_law_243 ?_
    refine g_assoc ?_
    refine g_swap ?_
    refine g_iload C.1 0 dL_law_244 rfl ?_
    refine s_i2l C.1 dL_law_246 ?_
    refine l_lcmp C.1 hf dL_law_247 ?_
    refine g_if_eq C.1 (tgt := 253) dL_law_248 (by decide) (by decide) (fun _ => ?_) (fun h => absurd rfl h)
    show G K (Sep (HW qo co ((y', σ'), fo')) (MW Lf cf [] [] τ2)) _ _ 253 []
    refine g_goto C.1 (tgt := 1672) dL_law_253 (by decide) ?_
    refine g_sub [2, 3, 4, 5, 6] rfl ?_
    exact next (n.1 + 1 + 1 + 0, n.2 + 6 + 5 + 0) y' σ' fo' τ2 ⟨(show n.1 + 1 + 1 + 0 ≤ n.1 + 16 by omega), (show n.2 + 6 + 5 + 0 ≤ n.2 + 400 by omega)⟩ ⟨hy, he, hci', hmi', hve2⟩
set_option maxRecDepth 100000 in
set_option maxHeartbeats 4000000 in
theorem lc_1 {K : KT} {b L emp qo qh : Nat} {xs : Nat → Int32} {co : ClassId} {Lf : Nat → Nat} {cf : Nat → ClassId} {y : LT} {σ : CS} {fo : Nat → Int64} {τ : MS} {n : Nat × Nat} {i : Int} (C : lwK K b L xs emp) (hI : lI qh emp y σ τ) (hr0 : n.1 + 16 ≤ 601024 ∧ n.2 + 400 ≤ 7293034) (hi : 0 ≤ i ∧ i + 6 ≤ (L : Int)) (next : lF K qo co Lf cf qh emp b n i) : G K (LW qo co Lf cf ((y, σ), fo) τ) n [(4, .int (iZ i)), (3, .ref qo), (2, .ref (Lf 0)), (1, .ref qh), (0, .ref b)] 256 [] := by
  obtain ⟨rfl, rfl, hci, hmi, hve⟩ := hI
  have o9 := VO_m hmi.1
  show G K (Sep (HW qo co ((y, σ), fo)) (MW Lf cf [] [] τ)) n _ 256 []
  refine g_aload_n C.1 3 dL_law_256 rfl rfl ?_
  refine g_aload_n C.1 4 dL_law_257 rfl rfl ?_
  refine g_iload C.1 0 dL_law_258 rfl ?_
  refine g_iconst C.1 (z := 1) dL_law_260 ?_
  refine g_iadd C.1 (x := i) (y := 1) dL_law_261 ?_
  refine l_ld C (e := i + 1) (by omega) dL_law_262 ?_
  refine g_aload_n C.1 1 dL_law_263 rfl rfl ?_
  refine s_callL C.1 C.2.2.1 C.2.2.2.1 C.2.2.2.2.1 (s_L_trim y σ fo (Xv xs (i + 1)) hci (Xv_in xs _)) (fun ht => vx_cwSW 3 ht gL_law_L_trim rfl rfl rfl (by decide +kernel) ⟨Nat.le_of_ble_eq_true rfl, Nat.le_of_ble_eq_true rfl⟩) rfl rfl (Nat.le_of_ble_eq_true rfl) ⟨(show n.1 + 1 ≤ 601024 by omega), (show n.2 + 6 ≤ 7293034 by omega)⟩ dL_law_264 (fun T u' hq => ?_)
  obtain ⟨⟨y', σ'⟩, fo'⟩ := u'
  obtain ⟨⟨hy, he⟩, hci', hTd, hv, hn⟩ := hq
  dsimp only at hy he hci' hv hn
  rw [← hTd] at hv hn
  refine g_istore C.1 (loc' := [(5, .int (iZ T)), (4, .int (iZ i)), (3, .ref qo), (2, .ref (Lf 0)), (1, .ref (y.1 0 0 0)), (0, .ref b)]) C.2.1 dL_law_267 (by decide) rfl ?_
  refine g_aload_n C.1 3 dL_law_269 rfl rfl ?_
  refine g_aload_n C.1 5 dL_law_270 rfl rfl ?_
  refine g_iload C.1 1 dL_law_271 rfl ?_
  refine g_iconst C.1 (z := 1) dL_law_273 ?_
  refine g_iadd C.1 (x := i) (y := 1) dL_law_274 ?_
  refine l_ld C (e := i + 1) (by omega) dL_law_275 ?_
  refine g_swap ?_
  refine s_callM C.1 (s_X5_trim K.l Lf cf τ (Xv xs (i + 1)) ⟨hmi, Xv_in xs _⟩) (ci := 6) (q := (RX5, TX5, 17)) rfl m_recv (fun ht => cwV 1 ht gL_law_X5_trim rfl rfl rfl (by decide +kernel) ⟨Nat.le_of_ble_eq_true rfl, Nat.le_of_ble_eq_true rfl⟩) rfl rfl (Nat.le_of_ble_eq_true rfl) ⟨(show n.1 + 1 + 0 ≤ 601024 by omega), (show n.2 + 6 + 0 ≤ 7293034 by omega)⟩ dL_law_276 (fun r τ' hq => ?_)
  obtain ⟨hmi', h00, hun, hrm⟩ := hq
  refine g_istore C.1 (loc' := [(6, .int (iZ r)), (5, .int (iZ T)), (4, .int (iZ i)), (3, .ref qo), (2, .ref (Lf 0)), (1, .ref (y.1 0 0 0)), (0, .ref b)]) C.2.1 dL_law_279 (by decide) rfl ?_
  refine g_aload_n C.1 4 dL_law_281 rfl rfl ?_
  refine s_callM C.1 (s_X5_thrown K.l Lf cf τ' trivial) (ci := 6) (q := (RX5, TX5, 17)) rfl m_recv (fun ht => cwV 0 ht gL_law_X5_thrown rfl rfl rfl (by decide +kernel) ⟨Nat.le_of_ble_eq_true rfl, Nat.le_of_ble_eq_true rfl⟩) rfl rfl (Nat.le_of_ble_eq_true rfl) ⟨(show n.1 + 1 + 0 + 0 ≤ 601024 by omega), (show n.2 + 6 + 0 + 0 ≤ 7293034 by omega)⟩ dL_law_282 (fun r2 τ2 hq => ?_)
  obtain ⟨e2, e3⟩ := hq
  subst e3
  have hTm : T = (tTrim (mV τ) (Xv xs (i + 1))) := hTd.trans (hve.t_Trim (Xv xs (i + 1))).symm
  rw [← hTm] at h00 hun hrm
  obtain rfl : r2 = T := e2.trans h00
  refine g_swap ?_
  refine g_iload C.1 1 dL_law_285 rfl ?_
  refine l_same C.1 (tgt := 292) dL_law_287 (by decide) ?_
  refine g_iload C.1 1 dL_law_292 rfl ?_
  have hT32 : in32 r2 := by rw [hTd]; unfold tTrim; first | exact t_r1 | exact t_r1' | exact t_r2 | exact t_r3
  refine g_if_ne C.1 (tgt := 309) dL_law_294 (by decide) hT32 (fun h0 => ?_) (fun h0 => ?_)
  · refine g_goto C.1 (tgt := 1672) dL_law_309 (by decide) ?_
    refine g_sub [2, 3, 4, 5, 6] rfl ?_
    exact next (n.1 + 1 + 0 + 0, n.2 + 6 + 0 + 0) y' σ' fo' τ2 ⟨(show n.1 + 1 + 0 + 0 ≤ n.1 + 16 by omega), (show n.2 + 6 + 0 + 0 ≤ n.2 + 400 by omega)⟩ ⟨hy, he, hci', hmi', by rw [hun h0, hn h0]; exact hve⟩
  · obtain ⟨v, hf, hrc⟩ := hv h0
    have hJ := J_trim hve o9 (hTm.symm.trans h0) (hrm h0) hrc
    obtain ⟨rfl, hve2⟩ := hJ
    refine g_aload_n C.1 3 dL_law_297 rfl rfl ?_
    refine g_iconst C.1 (z := 0) dL_law_298 ?_
    refine g_mono (A := Sep (Sep (CL y' σ') (OUT qo co fo')) (MW Lf cf [] [] τ2)) (B := Sep (Sep (CL y' σ') (OUT qo co fo')) (MW Lf cf [] [] τ2)) (fun _ _ h => h) ?_
    refine g_swap ?_
    refine g_assoc' ?_
    refine o_lald C.1 dL_law_299 ?_
    refine g_assoc ?_
    refine g_swap ?_
    refine g_iload C.1 0 dL_law_300 rfl ?_
    refine s_i2l C.1 dL_law_302 ?_
    refine l_lcmp C.1 hf dL_law_303 ?_
    refine g_if_eq C.1 (tgt := 309) dL_law_304 (by decide) (by decide) (fun _ => ?_) (fun h => absurd rfl h)
    show G K (Sep (HW qo co ((y', σ'), fo')) (MW Lf cf [] [] τ2)) _ _ 309 []
    refine g_goto C.1 (tgt := 1672) dL_law_309 (by decide) ?_
    refine g_sub [2, 3, 4, 5, 6] rfl ?_
    exact next (n.1 + 1 + 0 + 0, n.2 + 6 + 0 + 0) y' σ' fo' τ2 ⟨(show n.1 + 1 + 0 + 0 ≤ n.1 + 16 by omega), (show n.2 + 6 + 0 + 0 ≤ n.2 + 400 by omega)⟩ ⟨hy, he, hci', hmi', hve2⟩
set_option maxRecDepth 100000 in
set_option maxHeartbeats 4000000 in
theorem lc_2 {K : KT} {b L emp qo qh : Nat} {xs : Nat → Int32} {co : ClassId} {Lf : Nat → Nat} {cf : Nat → ClassId} {y : LT} {σ : CS} {fo : Nat → Int64} {τ : MS} {n : Nat × Nat} {i : Int} (C : lwK K b L xs emp) (hI : lI qh emp y σ τ) (hr0 : n.1 + 16 ≤ 601024 ∧ n.2 + 400 ≤ 7293034) (hi : 0 ≤ i ∧ i + 6 ≤ (L : Int)) (next : lF K qo co Lf cf qh emp b n i) : G K (LW qo co Lf cf ((y, σ), fo) τ) n [(4, .int (iZ i)), (3, .ref qo), (2, .ref (Lf 0)), (1, .ref qh), (0, .ref b)] 312 [] := by
  obtain ⟨rfl, rfl, hci, hmi, hve⟩ := hI
  have o9 := VO_m hmi.1
  show G K (Sep (HW qo co ((y, σ), fo)) (MW Lf cf [] [] τ)) n _ 312 []
  refine g_aload_n C.1 3 dL_law_312 rfl rfl ?_
  refine g_aload_n C.1 1 dL_law_313 rfl rfl ?_
  refine s_callL C.1 C.2.2.1 C.2.2.2.1 C.2.2.2.2.1 (s_L_write y σ fo hci) (fun ht => vx_cwSW 2 ht gL_law_L_write rfl rfl rfl (by decide +kernel) ⟨Nat.le_of_ble_eq_true rfl, Nat.le_of_ble_eq_true rfl⟩) rfl rfl (Nat.le_of_ble_eq_true rfl) ⟨(show n.1 + 10 ≤ 601024 by omega), (show n.2 + 300 ≤ 7293034 by omega)⟩ dL_law_314 (fun T u' hq => ?_)
  obtain ⟨⟨y', σ'⟩, fo'⟩ := u'
  obtain ⟨⟨hy, he⟩, hci', hTd, hv, hn⟩ := hq
  dsimp only at hy he hci' hv hn
  rw [← hTd] at hv hn
  refine g_istore C.1 (loc' := [(5, .int (iZ T)), (4, .int (iZ i)), (3, .ref qo), (2, .ref (Lf 0)), (1, .ref (y.1 0 0 0)), (0, .ref b)]) C.2.1 dL_law_317 (by decide) rfl ?_
  refine g_aload_n C.1 3 dL_law_319 rfl rfl ?_
  refine g_swap ?_
  refine s_callM C.1 (s_X5_write K.l Lf cf τ hmi) (ci := 6) (q := (RX5, TX5, 17)) rfl m_recv (fun ht => cwV 0 ht gL_law_X5_write rfl rfl rfl (by decide +kernel) ⟨Nat.le_of_ble_eq_true rfl, Nat.le_of_ble_eq_true rfl⟩) rfl rfl (Nat.le_of_ble_eq_true rfl) ⟨(show n.1 + 10 + 0 ≤ 601024 by omega), (show n.2 + 300 + 0 ≤ 7293034 by omega)⟩ dL_law_320 (fun r τ' hq => ?_)
  obtain ⟨hmi', h00, hun, hrm⟩ := hq
  refine g_istore C.1 (loc' := [(6, .int (iZ r)), (5, .int (iZ T)), (4, .int (iZ i)), (3, .ref qo), (2, .ref (Lf 0)), (1, .ref (y.1 0 0 0)), (0, .ref b)]) C.2.1 dL_law_323 (by decide) rfl ?_
  refine g_aload_n C.1 4 dL_law_325 rfl rfl ?_
  refine s_callM C.1 (s_X5_thrown K.l Lf cf τ' trivial) (ci := 6) (q := (RX5, TX5, 17)) rfl m_recv (fun ht => cwV 0 ht gL_law_X5_thrown rfl rfl rfl (by decide +kernel) ⟨Nat.le_of_ble_eq_true rfl, Nat.le_of_ble_eq_true rfl⟩) rfl rfl (Nat.le_of_ble_eq_true rfl) ⟨(show n.1 + 10 + 0 + 0 ≤ 601024 by omega), (show n.2 + 300 + 0 + 0 ≤ 7293034 by omega)⟩ dL_law_326 (fun r2 τ2 hq => ?_)
  obtain ⟨e2, e3⟩ := hq
  subst e3
  have hTm : T = (tWrite (mV τ)) := hTd.trans (hve.t_Write).symm
  rw [← hTm] at h00 hun hrm
  obtain rfl : r2 = T := e2.trans h00
  refine g_swap ?_
  refine g_iload C.1 1 dL_law_329 rfl ?_
  refine l_same C.1 (tgt := 336) dL_law_331 (by decide) ?_
  refine g_iload C.1 1 dL_law_336 rfl ?_
  have hT32 : in32 r2 := by rw [hTd]; unfold tWrite; first | exact t_r1 | exact t_r1' | exact t_r2 | exact t_r3
  refine g_if_ne C.1 (tgt := 353) dL_law_338 (by decide) hT32 (fun h0 => ?_) (fun h0 => ?_)
  · refine g_goto C.1 (tgt := 1672) dL_law_353 (by decide) ?_
    refine g_sub [2, 3, 4, 5, 6] rfl ?_
    exact next (n.1 + 10 + 0 + 0, n.2 + 300 + 0 + 0) y' σ' fo' τ2 ⟨(show n.1 + 10 + 0 + 0 ≤ n.1 + 16 by omega), (show n.2 + 300 + 0 + 0 ≤ n.2 + 400 by omega)⟩ ⟨hy, he, hci', hmi', by rw [hun h0, hn h0]; exact hve⟩
  · obtain ⟨v, hf, hrc⟩ := hv h0
    have hw0 : 0 ≤ mV τ 0 0 0 0 := hmi.1.1.1
    have hw1 : 0 ≤ vN (mV τ) := hmi.1.2.1.1
    have hJ := J_write hve o9 (hrm h0) hrc hw0 hw1
    obtain ⟨rfl, hve2⟩ := hJ
    refine g_aload_n C.1 3 dL_law_341 rfl rfl ?_
    refine g_iconst C.1 (z := 0) dL_law_342 ?_
    refine g_mono (A := Sep (Sep (CL y' σ') (OUT qo co fo')) (MW Lf cf [] [] τ2)) (B := Sep (Sep (CL y' σ') (OUT qo co fo')) (MW Lf cf [] [] τ2)) (fun _ _ h => h) ?_
    refine g_swap ?_
    refine g_assoc' ?_
    refine o_lald C.1 dL_law_343 ?_
    refine g_assoc ?_
    refine g_swap ?_
    refine g_iload C.1 0 dL_law_344 rfl ?_
    refine s_i2l C.1 dL_law_346 ?_
    refine l_lcmp C.1 hf dL_law_347 ?_
    refine g_if_eq C.1 (tgt := 353) dL_law_348 (by decide) (by decide) (fun _ => ?_) (fun h => absurd rfl h)
    show G K (Sep (HW qo co ((y', σ'), fo')) (MW Lf cf [] [] τ2)) _ _ 353 []
    refine g_goto C.1 (tgt := 1672) dL_law_353 (by decide) ?_
    refine g_sub [2, 3, 4, 5, 6] rfl ?_
    exact next (n.1 + 10 + 0 + 0, n.2 + 300 + 0 + 0) y' σ' fo' τ2 ⟨(show n.1 + 10 + 0 + 0 ≤ n.1 + 16 by omega), (show n.2 + 300 + 0 + 0 ≤ n.2 + 400 by omega)⟩ ⟨hy, he, hci', hmi', hve2⟩
set_option maxRecDepth 100000 in
set_option maxHeartbeats 4000000 in
theorem lc_3 {K : KT} {b L emp qo qh : Nat} {xs : Nat → Int32} {co : ClassId} {Lf : Nat → Nat} {cf : Nat → ClassId} {y : LT} {σ : CS} {fo : Nat → Int64} {τ : MS} {n : Nat × Nat} {i : Int} (C : lwK K b L xs emp) (hI : lI qh emp y σ τ) (hr0 : n.1 + 16 ≤ 601024 ∧ n.2 + 400 ≤ 7293034) (hi : 0 ≤ i ∧ i + 6 ≤ (L : Int)) (next : lF K qo co Lf cf qh emp b n i) : G K (LW qo co Lf cf ((y, σ), fo) τ) n [(4, .int (iZ i)), (3, .ref qo), (2, .ref (Lf 0)), (1, .ref qh), (0, .ref b)] 356 [] := by
  obtain ⟨rfl, rfl, hci, hmi, hve⟩ := hI
  have o9 := VO_m hmi.1
  show G K (Sep (HW qo co ((y, σ), fo)) (MW Lf cf [] [] τ)) n _ 356 []
  refine g_aload_n C.1 3 dL_law_356 rfl rfl ?_
  refine g_aload_n C.1 4 dL_law_357 rfl rfl ?_
  refine g_iload C.1 0 dL_law_358 rfl ?_
  refine g_iconst C.1 (z := 1) dL_law_360 ?_
  refine g_iadd C.1 (x := i) (y := 1) dL_law_361 ?_
  refine l_ld C (e := i + 1) (by omega) dL_law_362 ?_
  refine g_aload_n C.1 4 dL_law_363 rfl rfl ?_
  refine g_iload C.1 0 dL_law_364 rfl ?_
  refine g_iconst C.1 (z := 2) dL_law_366 ?_
  refine g_iadd C.1 (x := i) (y := 2) dL_law_367 ?_
  refine l_ld C (e := i + 2) (by omega) dL_law_368 ?_
  refine g_aload_n C.1 1 dL_law_369 rfl rfl ?_
  refine s_callL C.1 C.2.2.1 C.2.2.2.1 C.2.2.2.2.1 (s_L_letter y σ fo (Xv xs (i + 1)) (Xv xs (i + 2)) hci ⟨Xv_in xs _, Xv_in xs _⟩) (fun ht => vx_cwSW 4 ht gL_law_L_letter rfl rfl rfl (by decide +kernel) ⟨Nat.le_of_ble_eq_true rfl, Nat.le_of_ble_eq_true rfl⟩) rfl rfl (Nat.le_of_ble_eq_true rfl) ⟨(show n.1 + 2 ≤ 601024 by omega), (show n.2 + 12 ≤ 7293034 by omega)⟩ dL_law_370 (fun T u' hq => ?_)
  obtain ⟨⟨y', σ'⟩, fo'⟩ := u'
  obtain ⟨⟨hy, he⟩, hci', hTd, hv, hn⟩ := hq
  dsimp only at hy he hci' hv hn
  rw [← hTd] at hv hn
  refine g_istore C.1 (loc' := [(5, .int (iZ T)), (4, .int (iZ i)), (3, .ref qo), (2, .ref (Lf 0)), (1, .ref (y.1 0 0 0)), (0, .ref b)]) C.2.1 dL_law_373 (by decide) rfl ?_
  refine g_aload_n C.1 3 dL_law_375 rfl rfl ?_
  refine g_aload_n C.1 5 dL_law_376 rfl rfl ?_
  refine g_iload C.1 1 dL_law_377 rfl ?_
  refine g_iconst C.1 (z := 1) dL_law_379 ?_
  refine g_iadd C.1 (x := i) (y := 1) dL_law_380 ?_
  refine l_ld C (e := i + 1) (by omega) dL_law_381 ?_
  refine g_aload_n C.1 5 dL_law_382 rfl rfl ?_
  refine g_iload C.1 1 dL_law_383 rfl ?_
  refine g_iconst C.1 (z := 2) dL_law_385 ?_
  refine g_iadd C.1 (x := i) (y := 2) dL_law_386 ?_
  refine l_ld C (e := i + 2) (by omega) dL_law_387 ?_
  refine g_swap ?_
  refine s_callM C.1 (s_X5_letter K.l Lf cf τ (Xv xs (i + 1)) (Xv xs (i + 2)) ⟨hmi, Xv_in xs _, Xv_in xs _⟩) (ci := 6) (q := (RX5, TX5, 17)) rfl m_recv (fun ht => cwV 2 ht gL_law_X5_letter rfl rfl rfl (by decide +kernel) ⟨Nat.le_of_ble_eq_true rfl, Nat.le_of_ble_eq_true rfl⟩) rfl rfl (Nat.le_of_ble_eq_true rfl) ⟨(show n.1 + 2 + 0 ≤ 601024 by omega), (show n.2 + 12 + 0 ≤ 7293034 by omega)⟩ dL_law_388 (fun r τ' hq => ?_)
  obtain ⟨hmi', hmV, h00, hres⟩ := hq
  have hun : ¬ T = 0 → mV τ' = mV τ := fun _ => hmV
  have hrm := fun h => (⟨hres h, VE.of_eq hmV⟩ : _ ∧ VE (mV τ') (mV τ))
  refine g_istore C.1 (loc' := [(6, .int (iZ r)), (5, .int (iZ T)), (4, .int (iZ i)), (3, .ref qo), (2, .ref (Lf 0)), (1, .ref (y.1 0 0 0)), (0, .ref b)]) C.2.1 dL_law_391 (by decide) rfl ?_
  refine g_aload_n C.1 4 dL_law_393 rfl rfl ?_
  refine s_callM C.1 (s_X5_thrown K.l Lf cf τ' trivial) (ci := 6) (q := (RX5, TX5, 17)) rfl m_recv (fun ht => cwV 0 ht gL_law_X5_thrown rfl rfl rfl (by decide +kernel) ⟨Nat.le_of_ble_eq_true rfl, Nat.le_of_ble_eq_true rfl⟩) rfl rfl (Nat.le_of_ble_eq_true rfl) ⟨(show n.1 + 2 + 0 + 0 ≤ 601024 by omega), (show n.2 + 12 + 0 + 0 ≤ 7293034 by omega)⟩ dL_law_394 (fun r2 τ2 hq => ?_)
  obtain ⟨e2, e3⟩ := hq
  subst e3
  have hTm : T = (tLetter (mV τ) (Xv xs (i + 1)) (Xv xs (i + 2))) := hTd.trans (hve.t_Letter (Xv xs (i + 1)) (Xv xs (i + 2))).symm
  rw [← hTm] at h00 hrm
  obtain rfl : r2 = T := e2.trans h00
  refine g_swap ?_
  refine g_iload C.1 1 dL_law_397 rfl ?_
  refine l_same C.1 (tgt := 404) dL_law_399 (by decide) ?_
  refine g_iload C.1 1 dL_law_404 rfl ?_
  have hT32 : in32 r2 := by rw [hTd]; unfold tLetter; first | exact t_r1 | exact t_r1' | exact t_r2 | exact t_r3
  refine g_if_ne C.1 (tgt := 421) dL_law_406 (by decide) hT32 (fun h0 => ?_) (fun h0 => ?_)
  · refine g_goto C.1 (tgt := 1672) dL_law_421 (by decide) ?_
    refine g_sub [2, 3, 4, 5, 6] rfl ?_
    exact next (n.1 + 2 + 0 + 0, n.2 + 12 + 0 + 0) y' σ' fo' τ2 ⟨(show n.1 + 2 + 0 + 0 ≤ n.1 + 16 by omega), (show n.2 + 12 + 0 + 0 ≤ n.2 + 400 by omega)⟩ ⟨hy, he, hci', hmi', by rw [hun h0, hn h0]; exact hve⟩
  · obtain ⟨v, hf, hrc⟩ := hv h0
    have hJ := J_letter hve o9 (hTm.symm.trans h0) (hrm h0) hrc
    obtain ⟨rfl, hve2⟩ := hJ
    refine g_aload_n C.1 3 dL_law_409 rfl rfl ?_
    refine g_iconst C.1 (z := 0) dL_law_410 ?_
    refine g_mono (A := Sep (Sep (CL y' σ') (OUT qo co fo')) (MW Lf cf [] [] τ2)) (B := Sep (Sep (CL y' σ') (OUT qo co fo')) (MW Lf cf [] [] τ2)) (fun _ _ h => h) ?_
    refine g_swap ?_
    refine g_assoc' ?_
    refine o_lald C.1 dL_law_411 ?_
    refine g_assoc ?_
    refine g_swap ?_
    refine g_iload C.1 0 dL_law_412 rfl ?_
    refine s_i2l C.1 dL_law_414 ?_
    refine l_lcmp C.1 hf dL_law_415 ?_
    refine g_if_eq C.1 (tgt := 421) dL_law_416 (by decide) (by decide) (fun _ => ?_) (fun h => absurd rfl h)
    show G K (Sep (HW qo co ((y', σ'), fo')) (MW Lf cf [] [] τ2)) _ _ 421 []
    refine g_goto C.1 (tgt := 1672) dL_law_421 (by decide) ?_
    refine g_sub [2, 3, 4, 5, 6] rfl ?_
    exact next (n.1 + 2 + 0 + 0, n.2 + 12 + 0 + 0) y' σ' fo' τ2 ⟨(show n.1 + 2 + 0 + 0 ≤ n.1 + 16 by omega), (show n.2 + 12 + 0 + 0 ≤ n.2 + 400 by omega)⟩ ⟨hy, he, hci', hmi', hve2⟩
set_option maxRecDepth 100000 in
set_option maxHeartbeats 4000000 in
theorem lc_4 {K : KT} {b L emp qo qh : Nat} {xs : Nat → Int32} {co : ClassId} {Lf : Nat → Nat} {cf : Nat → ClassId} {y : LT} {σ : CS} {fo : Nat → Int64} {τ : MS} {n : Nat × Nat} {i : Int} (C : lwK K b L xs emp) (hI : lI qh emp y σ τ) (hr0 : n.1 + 16 ≤ 601024 ∧ n.2 + 400 ≤ 7293034) (hi : 0 ≤ i ∧ i + 6 ≤ (L : Int)) (next : lF K qo co Lf cf qh emp b n i) : G K (LW qo co Lf cf ((y, σ), fo) τ) n [(4, .int (iZ i)), (3, .ref qo), (2, .ref (Lf 0)), (1, .ref qh), (0, .ref b)] 424 [] := by
  obtain ⟨rfl, rfl, hci, hmi, hve⟩ := hI
  have o9 := VO_m hmi.1
  show G K (Sep (HW qo co ((y, σ), fo)) (MW Lf cf [] [] τ)) n _ 424 []
  refine g_aload_n C.1 3 dL_law_424 rfl rfl ?_
  refine g_aload_n C.1 1 dL_law_425 rfl rfl ?_
  refine s_callL C.1 C.2.2.1 C.2.2.2.1 C.2.2.2.2.1 (s_L_addScribe y σ fo hci) (fun ht => vx_cwSW 2 ht gL_law_L_addScribe rfl rfl rfl (by decide +kernel) ⟨Nat.le_of_ble_eq_true rfl, Nat.le_of_ble_eq_true rfl⟩) rfl rfl (Nat.le_of_ble_eq_true rfl) ⟨(show n.1 + 10 ≤ 601024 by omega), (show n.2 + 300 ≤ 7293034 by omega)⟩ dL_law_426 (fun T u' hq => ?_)
  obtain ⟨⟨y', σ'⟩, fo'⟩ := u'
  obtain ⟨⟨hy, he⟩, hci', hTd, hv, hn⟩ := hq
  dsimp only at hy he hci' hv hn
  rw [← hTd] at hv hn
  refine g_istore C.1 (loc' := [(5, .int (iZ T)), (4, .int (iZ i)), (3, .ref qo), (2, .ref (Lf 0)), (1, .ref (y.1 0 0 0)), (0, .ref b)]) C.2.1 dL_law_429 (by decide) rfl ?_
  refine g_aload_n C.1 3 dL_law_431 rfl rfl ?_
  refine g_swap ?_
  refine s_callM C.1 (s_X5_addScribe K.l Lf cf τ hmi) (ci := 6) (q := (RX5, TX5, 17)) rfl m_recv (fun ht => cwV 0 ht gL_law_X5_addScribe rfl rfl rfl (by decide +kernel) ⟨Nat.le_of_ble_eq_true rfl, Nat.le_of_ble_eq_true rfl⟩) rfl rfl (Nat.le_of_ble_eq_true rfl) ⟨(show n.1 + 10 + 0 ≤ 601024 by omega), (show n.2 + 300 + 0 ≤ 7293034 by omega)⟩ dL_law_432 (fun r τ' hq => ?_)
  obtain ⟨hmi', h00, hun, hrm⟩ := hq
  refine g_istore C.1 (loc' := [(6, .int (iZ r)), (5, .int (iZ T)), (4, .int (iZ i)), (3, .ref qo), (2, .ref (Lf 0)), (1, .ref (y.1 0 0 0)), (0, .ref b)]) C.2.1 dL_law_435 (by decide) rfl ?_
  refine g_aload_n C.1 4 dL_law_437 rfl rfl ?_
  refine s_callM C.1 (s_X5_thrown K.l Lf cf τ' trivial) (ci := 6) (q := (RX5, TX5, 17)) rfl m_recv (fun ht => cwV 0 ht gL_law_X5_thrown rfl rfl rfl (by decide +kernel) ⟨Nat.le_of_ble_eq_true rfl, Nat.le_of_ble_eq_true rfl⟩) rfl rfl (Nat.le_of_ble_eq_true rfl) ⟨(show n.1 + 10 + 0 + 0 ≤ 601024 by omega), (show n.2 + 300 + 0 + 0 ≤ 7293034 by omega)⟩ dL_law_438 (fun r2 τ2 hq => ?_)
  obtain ⟨e2, e3⟩ := hq
  subst e3
  have hTm : T = (tAddS (mV τ)) := hTd.trans (hve.t_AddS).symm
  rw [← hTm] at h00 hun hrm
  obtain rfl : r2 = T := e2.trans h00
  refine g_swap ?_
  refine g_iload C.1 1 dL_law_441 rfl ?_
  refine l_same C.1 (tgt := 448) dL_law_443 (by decide) ?_
  refine g_iload C.1 1 dL_law_448 rfl ?_
  have hT32 : in32 r2 := by rw [hTd]; unfold tAddS; first | exact t_r1 | exact t_r1' | exact t_r2 | exact t_r3
  refine g_if_ne C.1 (tgt := 465) dL_law_450 (by decide) hT32 (fun h0 => ?_) (fun h0 => ?_)
  · refine g_goto C.1 (tgt := 1672) dL_law_465 (by decide) ?_
    refine g_sub [2, 3, 4, 5, 6] rfl ?_
    exact next (n.1 + 10 + 0 + 0, n.2 + 300 + 0 + 0) y' σ' fo' τ2 ⟨(show n.1 + 10 + 0 + 0 ≤ n.1 + 16 by omega), (show n.2 + 300 + 0 + 0 ≤ n.2 + 400 by omega)⟩ ⟨hy, he, hci', hmi', by rw [hun h0, hn h0]; exact hve⟩
  · obtain ⟨v, hf, hrc⟩ := hv h0
    have hJ := J_addScribe hve o9 (hrm h0) hrc
    obtain ⟨rfl, hve2⟩ := hJ
    refine g_aload_n C.1 3 dL_law_453 rfl rfl ?_
    refine g_iconst C.1 (z := 0) dL_law_454 ?_
    refine g_mono (A := Sep (Sep (CL y' σ') (OUT qo co fo')) (MW Lf cf [] [] τ2)) (B := Sep (Sep (CL y' σ') (OUT qo co fo')) (MW Lf cf [] [] τ2)) (fun _ _ h => h) ?_
    refine g_swap ?_
    refine g_assoc' ?_
    refine o_lald C.1 dL_law_455 ?_
    refine g_assoc ?_
    refine g_swap ?_
    refine g_iload C.1 0 dL_law_456 rfl ?_
    refine s_i2l C.1 dL_law_458 ?_
    refine l_lcmp C.1 hf dL_law_459 ?_
    refine g_if_eq C.1 (tgt := 465) dL_law_460 (by decide) (by decide) (fun _ => ?_) (fun h => absurd rfl h)
    show G K (Sep (HW qo co ((y', σ'), fo')) (MW Lf cf [] [] τ2)) _ _ 465 []
    refine g_goto C.1 (tgt := 1672) dL_law_465 (by decide) ?_
    refine g_sub [2, 3, 4, 5, 6] rfl ?_
    exact next (n.1 + 10 + 0 + 0, n.2 + 300 + 0 + 0) y' σ' fo' τ2 ⟨(show n.1 + 10 + 0 + 0 ≤ n.1 + 16 by omega), (show n.2 + 300 + 0 + 0 ≤ n.2 + 400 by omega)⟩ ⟨hy, he, hci', hmi', hve2⟩
set_option maxRecDepth 100000 in
set_option maxHeartbeats 4000000 in
theorem lc_5 {K : KT} {b L emp qo qh : Nat} {xs : Nat → Int32} {co : ClassId} {Lf : Nat → Nat} {cf : Nat → ClassId} {y : LT} {σ : CS} {fo : Nat → Int64} {τ : MS} {n : Nat × Nat} {i : Int} (C : lwK K b L xs emp) (hI : lI qh emp y σ τ) (hr0 : n.1 + 16 ≤ 601024 ∧ n.2 + 400 ≤ 7293034) (hi : 0 ≤ i ∧ i + 6 ≤ (L : Int)) (next : lF K qo co Lf cf qh emp b n i) : G K (LW qo co Lf cf ((y, σ), fo) τ) n [(4, .int (iZ i)), (3, .ref qo), (2, .ref (Lf 0)), (1, .ref qh), (0, .ref b)] 468 [] := by
  obtain ⟨rfl, rfl, hci, hmi, hve⟩ := hI
  have o9 := VO_m hmi.1
  show G K (Sep (HW qo co ((y, σ), fo)) (MW Lf cf [] [] τ)) n _ 468 []
  refine g_aload_n C.1 3 dL_law_468 rfl rfl ?_
  refine g_aload_n C.1 4 dL_law_469 rfl rfl ?_
  refine g_iload C.1 0 dL_law_470 rfl ?_
  refine g_iconst C.1 (z := 1) dL_law_472 ?_
  refine g_iadd C.1 (x := i) (y := 1) dL_law_473 ?_
  refine l_ld C (e := i + 1) (by omega) dL_law_474 ?_
  refine g_aload_n C.1 4 dL_law_475 rfl rfl ?_
  refine g_iload C.1 0 dL_law_476 rfl ?_
  refine g_iconst C.1 (z := 2) dL_law_478 ?_
  refine g_iadd C.1 (x := i) (y := 2) dL_law_479 ?_
  refine l_ld C (e := i + 2) (by omega) dL_law_480 ?_
  refine g_aload_n C.1 4 dL_law_481 rfl rfl ?_
  refine g_iload C.1 0 dL_law_482 rfl ?_
  refine g_iconst C.1 (z := 3) dL_law_484 ?_
  refine g_iadd C.1 (x := i) (y := 3) dL_law_485 ?_
  refine l_ld C (e := i + 3) (by omega) dL_law_486 ?_
  refine g_aload_n C.1 4 dL_law_487 rfl rfl ?_
  refine g_iload C.1 0 dL_law_488 rfl ?_
  refine g_iconst C.1 (z := 4) dL_law_490 ?_
  refine g_iadd C.1 (x := i) (y := 4) dL_law_491 ?_
  refine l_ld C (e := i + 4) (by omega) dL_law_492 ?_
  refine g_aload_n C.1 4 dL_law_493 rfl rfl ?_
  refine g_iload C.1 0 dL_law_494 rfl ?_
  refine g_iconst C.1 (z := 5) dL_law_496 ?_
  refine g_iadd C.1 (x := i) (y := 5) dL_law_497 ?_
  refine l_ld C (e := i + 5) (by omega) dL_law_498 ?_
  refine g_aload_n C.1 1 dL_law_499 rfl rfl ?_
  refine s_callL C.1 C.2.2.1 C.2.2.2.1 C.2.2.2.2.1 (s_L_addHabit y σ fo (Xv xs (i + 1)) (Xv xs (i + 2)) (Xv xs (i + 3)) (Xv xs (i + 4)) (Xv xs (i + 5)) hci ⟨Xv_in xs _, Xv_in xs _, Xv_in xs _, Xv_in xs _, Xv_in xs _⟩) (fun ht => vx_cwSW 7 ht gL_law_L_addHabit rfl rfl rfl (by decide +kernel) ⟨Nat.le_of_ble_eq_true rfl, Nat.le_of_ble_eq_true rfl⟩) rfl rfl (Nat.le_of_ble_eq_true rfl) ⟨(show n.1 + 10 ≤ 601024 by omega), (show n.2 + 300 ≤ 7293034 by omega)⟩ dL_law_500 (fun T u' hq => ?_)
  obtain ⟨⟨y', σ'⟩, fo'⟩ := u'
  obtain ⟨⟨hy, he⟩, hci', hTd, hv, hn⟩ := hq
  dsimp only at hy he hci' hv hn
  rw [← hTd] at hv hn
  refine g_istore C.1 (loc' := [(5, .int (iZ T)), (4, .int (iZ i)), (3, .ref qo), (2, .ref (Lf 0)), (1, .ref (y.1 0 0 0)), (0, .ref b)]) C.2.1 dL_law_503 (by decide) rfl ?_
  refine g_aload_n C.1 3 dL_law_505 rfl rfl ?_
  refine g_aload_n C.1 5 dL_law_506 rfl rfl ?_
  refine g_iload C.1 1 dL_law_507 rfl ?_
  refine g_iconst C.1 (z := 1) dL_law_509 ?_
  refine g_iadd C.1 (x := i) (y := 1) dL_law_510 ?_
  refine l_ld C (e := i + 1) (by omega) dL_law_511 ?_
  refine g_aload_n C.1 5 dL_law_512 rfl rfl ?_
  refine g_iload C.1 1 dL_law_513 rfl ?_
  refine g_iconst C.1 (z := 2) dL_law_515 ?_
  refine g_iadd C.1 (x := i) (y := 2) dL_law_516 ?_
  refine l_ld C (e := i + 2) (by omega) dL_law_517 ?_
  refine g_aload_n C.1 5 dL_law_518 rfl rfl ?_
  refine g_iload C.1 1 dL_law_519 rfl ?_
  refine g_iconst C.1 (z := 3) dL_law_521 ?_
  refine g_iadd C.1 (x := i) (y := 3) dL_law_522 ?_
  refine l_ld C (e := i + 3) (by omega) dL_law_523 ?_
  refine g_aload_n C.1 5 dL_law_524 rfl rfl ?_
  refine g_iload C.1 1 dL_law_525 rfl ?_
  refine g_iconst C.1 (z := 4) dL_law_527 ?_
  refine g_iadd C.1 (x := i) (y := 4) dL_law_528 ?_
  refine l_ld C (e := i + 4) (by omega) dL_law_529 ?_
  refine g_aload_n C.1 5 dL_law_530 rfl rfl ?_
  refine g_iload C.1 1 dL_law_531 rfl ?_
  refine g_iconst C.1 (z := 5) dL_law_533 ?_
  refine g_iadd C.1 (x := i) (y := 5) dL_law_534 ?_
  refine l_ld C (e := i + 5) (by omega) dL_law_535 ?_
  refine g_swap ?_
  refine s_callM C.1 (s_X5_addHabit K.l Lf cf τ (Xv xs (i + 1)) (Xv xs (i + 2)) (Xv xs (i + 3)) (Xv xs (i + 4)) (Xv xs (i + 5)) ⟨hmi, Xv_in xs _, Xv_in xs _, Xv_in xs _, Xv_in xs _, Xv_in xs _⟩) (ci := 6) (q := (RX5, TX5, 17)) rfl m_recv (fun ht => cwV 5 ht gL_law_X5_addHabit rfl rfl rfl (by decide +kernel) ⟨Nat.le_of_ble_eq_true rfl, Nat.le_of_ble_eq_true rfl⟩) rfl rfl (Nat.le_of_ble_eq_true rfl) ⟨(show n.1 + 10 + 1 ≤ 601024 by omega), (show n.2 + 300 + 4 ≤ 7293034 by omega)⟩ dL_law_536 (fun r τ' hq => ?_)
  obtain ⟨hmi', h00, hun, hrm⟩ := hq
  refine g_istore C.1 (loc' := [(6, .int (iZ r)), (5, .int (iZ T)), (4, .int (iZ i)), (3, .ref qo), (2, .ref (Lf 0)), (1, .ref (y.1 0 0 0)), (0, .ref b)]) C.2.1 dL_law_539 (by decide) rfl ?_
  refine g_aload_n C.1 4 dL_law_541 rfl rfl ?_
  refine s_callM C.1 (s_X5_thrown K.l Lf cf τ' trivial) (ci := 6) (q := (RX5, TX5, 17)) rfl m_recv (fun ht => cwV 0 ht gL_law_X5_thrown rfl rfl rfl (by decide +kernel) ⟨Nat.le_of_ble_eq_true rfl, Nat.le_of_ble_eq_true rfl⟩) rfl rfl (Nat.le_of_ble_eq_true rfl) ⟨(show n.1 + 10 + 1 + 0 ≤ 601024 by omega), (show n.2 + 300 + 4 + 0 ≤ 7293034 by omega)⟩ dL_law_542 (fun r2 τ2 hq => ?_)
  obtain ⟨e2, e3⟩ := hq
  subst e3
  have hTm : T = (tAddH (mV τ) (Xv xs (i + 1)) (Xv xs (i + 2)) (Xv xs (i + 3)) (Xv xs (i + 4)) (Xv xs (i + 5))) := hTd.trans (hve.t_AddH (Xv xs (i + 1)) (Xv xs (i + 2)) (Xv xs (i + 3)) (Xv xs (i + 4)) (Xv xs (i + 5))).symm
  rw [← hTm] at h00 hun hrm
  obtain rfl : r2 = T := e2.trans h00
  refine g_swap ?_
  refine g_iload C.1 1 dL_law_545 rfl ?_
  refine l_same C.1 (tgt := 552) dL_law_547 (by decide) ?_
  refine g_iload C.1 1 dL_law_552 rfl ?_
  have hT32 : in32 r2 := by rw [hTd]; unfold tAddH; first | exact t_r1 | exact t_r1' | exact t_r2 | exact t_r3
  refine g_if_ne C.1 (tgt := 569) dL_law_554 (by decide) hT32 (fun h0 => ?_) (fun h0 => ?_)
  · refine g_goto C.1 (tgt := 1672) dL_law_569 (by decide) ?_
    refine g_sub [2, 3, 4, 5, 6] rfl ?_
    exact next (n.1 + 10 + 1 + 0, n.2 + 300 + 4 + 0) y' σ' fo' τ2 ⟨(show n.1 + 10 + 1 + 0 ≤ n.1 + 16 by omega), (show n.2 + 300 + 4 + 0 ≤ n.2 + 400 by omega)⟩ ⟨hy, he, hci', hmi', by rw [hun h0, hn h0]; exact hve⟩
  · obtain ⟨v, hf, hrc⟩ := hv h0
    have hJ := J_addHabit hve o9 (hTm.symm.trans h0) (hrm h0) hrc
    obtain ⟨rfl, hve2⟩ := hJ
    refine g_aload_n C.1 3 dL_law_557 rfl rfl ?_
    refine g_iconst C.1 (z := 0) dL_law_558 ?_
    refine g_mono (A := Sep (Sep (CL y' σ') (OUT qo co fo')) (MW Lf cf [] [] τ2)) (B := Sep (Sep (CL y' σ') (OUT qo co fo')) (MW Lf cf [] [] τ2)) (fun _ _ h => h) ?_
    refine g_swap ?_
    refine g_assoc' ?_
    refine o_lald C.1 dL_law_559 ?_
    refine g_assoc ?_
    refine g_swap ?_
    refine g_iload C.1 0 dL_law_560 rfl ?_
    refine s_i2l C.1 dL_law_562 ?_
    refine l_lcmp C.1 hf dL_law_563 ?_
    refine g_if_eq C.1 (tgt := 569) dL_law_564 (by decide) (by decide) (fun _ => ?_) (fun h => absurd rfl h)
    show G K (Sep (HW qo co ((y', σ'), fo')) (MW Lf cf [] [] τ2)) _ _ 569 []
    refine g_goto C.1 (tgt := 1672) dL_law_569 (by decide) ?_
    refine g_sub [2, 3, 4, 5, 6] rfl ?_
    exact next (n.1 + 10 + 1 + 0, n.2 + 300 + 4 + 0) y' σ' fo' τ2 ⟨(show n.1 + 10 + 1 + 0 ≤ n.1 + 16 by omega), (show n.2 + 300 + 4 + 0 ≤ n.2 + 400 by omega)⟩ ⟨hy, he, hci', hmi', hve2⟩
set_option maxRecDepth 100000 in
set_option maxHeartbeats 4000000 in
theorem lc_6 {K : KT} {b L emp qo qh : Nat} {xs : Nat → Int32} {co : ClassId} {Lf : Nat → Nat} {cf : Nat → ClassId} {y : LT} {σ : CS} {fo : Nat → Int64} {τ : MS} {n : Nat × Nat} {i : Int} (C : lwK K b L xs emp) (hI : lI qh emp y σ τ) (hr0 : n.1 + 16 ≤ 601024 ∧ n.2 + 400 ≤ 7293034) (hi : 0 ≤ i ∧ i + 6 ≤ (L : Int)) (next : lF K qo co Lf cf qh emp b n i) : G K (LW qo co Lf cf ((y, σ), fo) τ) n [(4, .int (iZ i)), (3, .ref qo), (2, .ref (Lf 0)), (1, .ref qh), (0, .ref b)] 572 [] := by
  obtain ⟨rfl, rfl, hci, hmi, hve⟩ := hI
  have o9 := VO_m hmi.1
  show G K (Sep (HW qo co ((y, σ), fo)) (MW Lf cf [] [] τ)) n _ 572 []
  refine g_aload_n C.1 3 dL_law_572 rfl rfl ?_
  refine g_aload_n C.1 4 dL_law_573 rfl rfl ?_
  refine g_iload C.1 0 dL_law_574 rfl ?_
  refine g_iconst C.1 (z := 1) dL_law_576 ?_
  refine g_iadd C.1 (x := i) (y := 1) dL_law_577 ?_
  refine l_ld C (e := i + 1) (by omega) dL_law_578 ?_
  refine g_aload_n C.1 4 dL_law_579 rfl rfl ?_
  refine g_iload C.1 0 dL_law_580 rfl ?_
  refine g_iconst C.1 (z := 2) dL_law_582 ?_
  refine g_iadd C.1 (x := i) (y := 2) dL_law_583 ?_
  refine l_ld C (e := i + 2) (by omega) dL_law_584 ?_
  refine g_aload_n C.1 1 dL_law_585 rfl rfl ?_
  refine s_callL C.1 C.2.2.1 C.2.2.2.1 C.2.2.2.2.1 (s_L_dropHabit y σ fo (Xv xs (i + 1)) (Xv xs (i + 2)) hci ⟨Xv_in xs _, Xv_in xs _⟩) (fun ht => vx_cwSW 4 ht gL_law_L_dropHabit rfl rfl rfl (by decide +kernel) ⟨Nat.le_of_ble_eq_true rfl, Nat.le_of_ble_eq_true rfl⟩) rfl rfl (Nat.le_of_ble_eq_true rfl) ⟨(show n.1 + 10 ≤ 601024 by omega), (show n.2 + 300 ≤ 7293034 by omega)⟩ dL_law_586 (fun T u' hq => ?_)
  obtain ⟨⟨y', σ'⟩, fo'⟩ := u'
  obtain ⟨⟨hy, he⟩, hci', hTd, hv, hn⟩ := hq
  dsimp only at hy he hci' hv hn
  rw [← hTd] at hv hn
  refine g_istore C.1 (loc' := [(5, .int (iZ T)), (4, .int (iZ i)), (3, .ref qo), (2, .ref (Lf 0)), (1, .ref (y.1 0 0 0)), (0, .ref b)]) C.2.1 dL_law_589 (by decide) rfl ?_
  refine g_aload_n C.1 3 dL_law_591 rfl rfl ?_
  refine g_aload_n C.1 5 dL_law_592 rfl rfl ?_
  refine g_iload C.1 1 dL_law_593 rfl ?_
  refine g_iconst C.1 (z := 1) dL_law_595 ?_
  refine g_iadd C.1 (x := i) (y := 1) dL_law_596 ?_
  refine l_ld C (e := i + 1) (by omega) dL_law_597 ?_
  refine g_aload_n C.1 5 dL_law_598 rfl rfl ?_
  refine g_iload C.1 1 dL_law_599 rfl ?_
  refine g_iconst C.1 (z := 2) dL_law_601 ?_
  refine g_iadd C.1 (x := i) (y := 2) dL_law_602 ?_
  refine l_ld C (e := i + 2) (by omega) dL_law_603 ?_
  refine g_swap ?_
  refine s_callM C.1 (s_X5_dropHabit K.l Lf cf τ (Xv xs (i + 1)) (Xv xs (i + 2)) ⟨hmi, Xv_in xs _, Xv_in xs _⟩) (ci := 6) (q := (RX5, TX5, 17)) rfl m_recv (fun ht => cwV 2 ht gL_law_X5_dropHabit rfl rfl rfl (by decide +kernel) ⟨Nat.le_of_ble_eq_true rfl, Nat.le_of_ble_eq_true rfl⟩) rfl rfl (Nat.le_of_ble_eq_true rfl) ⟨(show n.1 + 10 + 0 ≤ 601024 by omega), (show n.2 + 300 + 0 ≤ 7293034 by omega)⟩ dL_law_604 (fun r τ' hq => ?_)
  obtain ⟨hmi', h00, hun, hrm⟩ := hq
  refine g_istore C.1 (loc' := [(6, .int (iZ r)), (5, .int (iZ T)), (4, .int (iZ i)), (3, .ref qo), (2, .ref (Lf 0)), (1, .ref (y.1 0 0 0)), (0, .ref b)]) C.2.1 dL_law_607 (by decide) rfl ?_
  refine g_aload_n C.1 4 dL_law_609 rfl rfl ?_
  refine s_callM C.1 (s_X5_thrown K.l Lf cf τ' trivial) (ci := 6) (q := (RX5, TX5, 17)) rfl m_recv (fun ht => cwV 0 ht gL_law_X5_thrown rfl rfl rfl (by decide +kernel) ⟨Nat.le_of_ble_eq_true rfl, Nat.le_of_ble_eq_true rfl⟩) rfl rfl (Nat.le_of_ble_eq_true rfl) ⟨(show n.1 + 10 + 0 + 0 ≤ 601024 by omega), (show n.2 + 300 + 0 + 0 ≤ 7293034 by omega)⟩ dL_law_610 (fun r2 τ2 hq => ?_)
  obtain ⟨e2, e3⟩ := hq
  subst e3
  have hTm : T = (tDrop (mV τ) (Xv xs (i + 1)) (Xv xs (i + 2))) := hTd.trans (hve.t_Drop (Xv xs (i + 1)) (Xv xs (i + 2))).symm
  rw [← hTm] at h00 hun hrm
  obtain rfl : r2 = T := e2.trans h00
  refine g_swap ?_
  refine g_iload C.1 1 dL_law_613 rfl ?_
  refine l_same C.1 (tgt := 620) dL_law_615 (by decide) ?_
  refine g_iload C.1 1 dL_law_620 rfl ?_
  have hT32 : in32 r2 := by rw [hTd]; unfold tDrop; first | exact t_r1 | exact t_r1' | exact t_r2 | exact t_r3
  refine g_if_ne C.1 (tgt := 637) dL_law_622 (by decide) hT32 (fun h0 => ?_) (fun h0 => ?_)
  · refine g_goto C.1 (tgt := 1672) dL_law_637 (by decide) ?_
    refine g_sub [2, 3, 4, 5, 6] rfl ?_
    exact next (n.1 + 10 + 0 + 0, n.2 + 300 + 0 + 0) y' σ' fo' τ2 ⟨(show n.1 + 10 + 0 + 0 ≤ n.1 + 16 by omega), (show n.2 + 300 + 0 + 0 ≤ n.2 + 400 by omega)⟩ ⟨hy, he, hci', hmi', by rw [hun h0, hn h0]; exact hve⟩
  · obtain ⟨v, hf, hrc⟩ := hv h0
    have hJ := J_dropHabit hve o9 (hTm.symm.trans h0) (hrm h0) hrc
    obtain ⟨rfl, hve2⟩ := hJ
    refine g_aload_n C.1 3 dL_law_625 rfl rfl ?_
    refine g_iconst C.1 (z := 0) dL_law_626 ?_
    refine g_mono (A := Sep (Sep (CL y' σ') (OUT qo co fo')) (MW Lf cf [] [] τ2)) (B := Sep (Sep (CL y' σ') (OUT qo co fo')) (MW Lf cf [] [] τ2)) (fun _ _ h => h) ?_
    refine g_swap ?_
    refine g_assoc' ?_
    refine o_lald C.1 dL_law_627 ?_
    refine g_assoc ?_
    refine g_swap ?_
    refine g_iload C.1 0 dL_law_628 rfl ?_
    refine s_i2l C.1 dL_law_630 ?_
    refine l_lcmp C.1 hf dL_law_631 ?_
    refine g_if_eq C.1 (tgt := 637) dL_law_632 (by decide) (by decide) (fun _ => ?_) (fun h => absurd rfl h)
    show G K (Sep (HW qo co ((y', σ'), fo')) (MW Lf cf [] [] τ2)) _ _ 637 []
    refine g_goto C.1 (tgt := 1672) dL_law_637 (by decide) ?_
    refine g_sub [2, 3, 4, 5, 6] rfl ?_
    exact next (n.1 + 10 + 0 + 0, n.2 + 300 + 0 + 0) y' σ' fo' τ2 ⟨(show n.1 + 10 + 0 + 0 ≤ n.1 + 16 by omega), (show n.2 + 300 + 0 + 0 ≤ n.2 + 400 by omega)⟩ ⟨hy, he, hci', hmi', hve2⟩
set_option maxRecDepth 100000 in
set_option maxHeartbeats 4000000 in
theorem lc_7 {K : KT} {b L emp qo qh : Nat} {xs : Nat → Int32} {co : ClassId} {Lf : Nat → Nat} {cf : Nat → ClassId} {y : LT} {σ : CS} {fo : Nat → Int64} {τ : MS} {n : Nat × Nat} {i : Int} (C : lwK K b L xs emp) (hI : lI qh emp y σ τ) (hr0 : n.1 + 16 ≤ 601024 ∧ n.2 + 400 ≤ 7293034) (hi : 0 ≤ i ∧ i + 6 ≤ (L : Int)) (next : lF K qo co Lf cf qh emp b n i) : G K (LW qo co Lf cf ((y, σ), fo) τ) n [(4, .int (iZ i)), (3, .ref qo), (2, .ref (Lf 0)), (1, .ref qh), (0, .ref b)] 640 [] := by
  obtain ⟨rfl, rfl, hci, hmi, hve⟩ := hI
  have o9 := VO_m hmi.1
  show G K (Sep (HW qo co ((y, σ), fo)) (MW Lf cf [] [] τ)) n _ 640 []
  refine g_aload_n C.1 3 dL_law_640 rfl rfl ?_
  refine g_aload_n C.1 4 dL_law_641 rfl rfl ?_
  refine g_iload C.1 0 dL_law_642 rfl ?_
  refine g_iconst C.1 (z := 1) dL_law_644 ?_
  refine g_iadd C.1 (x := i) (y := 1) dL_law_645 ?_
  refine l_ld C (e := i + 1) (by omega) dL_law_646 ?_
  refine g_aload_n C.1 4 dL_law_647 rfl rfl ?_
  refine g_iload C.1 0 dL_law_648 rfl ?_
  refine g_iconst C.1 (z := 2) dL_law_650 ?_
  refine g_iadd C.1 (x := i) (y := 2) dL_law_651 ?_
  refine l_ld C (e := i + 2) (by omega) dL_law_652 ?_
  refine g_aload_n C.1 4 dL_law_653 rfl rfl ?_
  refine g_iload C.1 0 dL_law_654 rfl ?_
  refine g_iconst C.1 (z := 3) dL_law_656 ?_
  refine g_iadd C.1 (x := i) (y := 3) dL_law_657 ?_
  refine l_ld C (e := i + 3) (by omega) dL_law_658 ?_
  refine g_aload_n C.1 1 dL_law_659 rfl rfl ?_
  refine s_callL C.1 C.2.2.1 C.2.2.2.1 C.2.2.2.2.1 (s_L_habit y σ fo (Xv xs (i + 1)) (Xv xs (i + 2)) (Xv xs (i + 3)) hci ⟨Xv_in xs _, Xv_in xs _, Xv_in xs _⟩) (fun ht => vx_cwSW 5 ht gL_law_L_habit rfl rfl rfl (by decide +kernel) ⟨Nat.le_of_ble_eq_true rfl, Nat.le_of_ble_eq_true rfl⟩) rfl rfl (Nat.le_of_ble_eq_true rfl) ⟨(show n.1 + 2 ≤ 601024 by omega), (show n.2 + 12 ≤ 7293034 by omega)⟩ dL_law_660 (fun T u' hq => ?_)
  obtain ⟨⟨y', σ'⟩, fo'⟩ := u'
  obtain ⟨⟨hy, he⟩, hci', hTd, hv, hn⟩ := hq
  dsimp only at hy he hci' hv hn
  rw [← hTd] at hv hn
  refine g_istore C.1 (loc' := [(5, .int (iZ T)), (4, .int (iZ i)), (3, .ref qo), (2, .ref (Lf 0)), (1, .ref (y.1 0 0 0)), (0, .ref b)]) C.2.1 dL_law_663 (by decide) rfl ?_
  refine g_aload_n C.1 3 dL_law_665 rfl rfl ?_
  refine g_aload_n C.1 5 dL_law_666 rfl rfl ?_
  refine g_iload C.1 1 dL_law_667 rfl ?_
  refine g_iconst C.1 (z := 1) dL_law_669 ?_
  refine g_iadd C.1 (x := i) (y := 1) dL_law_670 ?_
  refine l_ld C (e := i + 1) (by omega) dL_law_671 ?_
  refine g_aload_n C.1 5 dL_law_672 rfl rfl ?_
  refine g_iload C.1 1 dL_law_673 rfl ?_
  refine g_iconst C.1 (z := 2) dL_law_675 ?_
  refine g_iadd C.1 (x := i) (y := 2) dL_law_676 ?_
  refine l_ld C (e := i + 2) (by omega) dL_law_677 ?_
  refine g_aload_n C.1 5 dL_law_678 rfl rfl ?_
  refine g_iload C.1 1 dL_law_679 rfl ?_
  refine g_iconst C.1 (z := 3) dL_law_681 ?_
  refine g_iadd C.1 (x := i) (y := 3) dL_law_682 ?_
  refine l_ld C (e := i + 3) (by omega) dL_law_683 ?_
  refine g_swap ?_
  refine s_callM C.1 (s_X5_habit K.l Lf cf τ (Xv xs (i + 1)) (Xv xs (i + 2)) (Xv xs (i + 3)) ⟨hmi, Xv_in xs _, Xv_in xs _, Xv_in xs _⟩) (ci := 6) (q := (RX5, TX5, 17)) rfl m_recv (fun ht => cwV 3 ht gL_law_X5_habit rfl rfl rfl (by decide +kernel) ⟨Nat.le_of_ble_eq_true rfl, Nat.le_of_ble_eq_true rfl⟩) rfl rfl (Nat.le_of_ble_eq_true rfl) ⟨(show n.1 + 2 + 0 ≤ 601024 by omega), (show n.2 + 12 + 0 ≤ 7293034 by omega)⟩ dL_law_684 (fun r τ' hq => ?_)
  obtain ⟨hmi', hmV, h00, hres⟩ := hq
  have hun : ¬ T = 0 → mV τ' = mV τ := fun _ => hmV
  have hrm := fun h => (⟨hres h, VE.of_eq hmV⟩ : _ ∧ VE (mV τ') (mV τ))
  refine g_istore C.1 (loc' := [(6, .int (iZ r)), (5, .int (iZ T)), (4, .int (iZ i)), (3, .ref qo), (2, .ref (Lf 0)), (1, .ref (y.1 0 0 0)), (0, .ref b)]) C.2.1 dL_law_687 (by decide) rfl ?_
  refine g_aload_n C.1 4 dL_law_689 rfl rfl ?_
  refine s_callM C.1 (s_X5_thrown K.l Lf cf τ' trivial) (ci := 6) (q := (RX5, TX5, 17)) rfl m_recv (fun ht => cwV 0 ht gL_law_X5_thrown rfl rfl rfl (by decide +kernel) ⟨Nat.le_of_ble_eq_true rfl, Nat.le_of_ble_eq_true rfl⟩) rfl rfl (Nat.le_of_ble_eq_true rfl) ⟨(show n.1 + 2 + 0 + 0 ≤ 601024 by omega), (show n.2 + 12 + 0 + 0 ≤ 7293034 by omega)⟩ dL_law_690 (fun r2 τ2 hq => ?_)
  obtain ⟨e2, e3⟩ := hq
  subst e3
  have hTm : T = (tHabit (mV τ) (Xv xs (i + 1)) (Xv xs (i + 2)) (Xv xs (i + 3))) := hTd.trans (hve.t_Habit (Xv xs (i + 1)) (Xv xs (i + 2)) (Xv xs (i + 3))).symm
  rw [← hTm] at h00 hrm
  obtain rfl : r2 = T := e2.trans h00
  refine g_swap ?_
  refine g_iload C.1 1 dL_law_693 rfl ?_
  refine l_same C.1 (tgt := 700) dL_law_695 (by decide) ?_
  refine g_iload C.1 1 dL_law_700 rfl ?_
  have hT32 : in32 r2 := by rw [hTd]; unfold tHabit; first | exact t_r1 | exact t_r1' | exact t_r2 | exact t_r3
  refine g_if_ne C.1 (tgt := 717) dL_law_702 (by decide) hT32 (fun h0 => ?_) (fun h0 => ?_)
  · refine g_goto C.1 (tgt := 1672) dL_law_717 (by decide) ?_
    refine g_sub [2, 3, 4, 5, 6] rfl ?_
    exact next (n.1 + 2 + 0 + 0, n.2 + 12 + 0 + 0) y' σ' fo' τ2 ⟨(show n.1 + 2 + 0 + 0 ≤ n.1 + 16 by omega), (show n.2 + 12 + 0 + 0 ≤ n.2 + 400 by omega)⟩ ⟨hy, he, hci', hmi', by rw [hun h0, hn h0]; exact hve⟩
  · obtain ⟨v, hf, hrc⟩ := hv h0
    have hJ := J_habit hve o9 (hTm.symm.trans h0) (hrm h0) hrc
    obtain ⟨rfl, hve2⟩ := hJ
    refine g_aload_n C.1 3 dL_law_705 rfl rfl ?_
    refine g_iconst C.1 (z := 0) dL_law_706 ?_
    refine g_mono (A := Sep (Sep (CL y' σ') (OUT qo co fo')) (MW Lf cf [] [] τ2)) (B := Sep (Sep (CL y' σ') (OUT qo co fo')) (MW Lf cf [] [] τ2)) (fun _ _ h => h) ?_
    refine g_swap ?_
    refine g_assoc' ?_
    refine o_lald C.1 dL_law_707 ?_
    refine g_assoc ?_
    refine g_swap ?_
    refine g_iload C.1 0 dL_law_708 rfl ?_
    refine s_i2l C.1 dL_law_710 ?_
    refine l_lcmp C.1 hf dL_law_711 ?_
    refine g_if_eq C.1 (tgt := 717) dL_law_712 (by decide) (by decide) (fun _ => ?_) (fun h => absurd rfl h)
    show G K (Sep (HW qo co ((y', σ'), fo')) (MW Lf cf [] [] τ2)) _ _ 717 []
    refine g_goto C.1 (tgt := 1672) dL_law_717 (by decide) ?_
    refine g_sub [2, 3, 4, 5, 6] rfl ?_
    exact next (n.1 + 2 + 0 + 0, n.2 + 12 + 0 + 0) y' σ' fo' τ2 ⟨(show n.1 + 2 + 0 + 0 ≤ n.1 + 16 by omega), (show n.2 + 12 + 0 + 0 ≤ n.2 + 400 by omega)⟩ ⟨hy, he, hci', hmi', hve2⟩
set_option maxRecDepth 100000 in
set_option maxHeartbeats 4000000 in
theorem lc_8 {K : KT} {b L emp qo qh : Nat} {xs : Nat → Int32} {co : ClassId} {Lf : Nat → Nat} {cf : Nat → ClassId} {y : LT} {σ : CS} {fo : Nat → Int64} {τ : MS} {n : Nat × Nat} {i : Int} (C : lwK K b L xs emp) (hI : lI qh emp y σ τ) (hr0 : n.1 + 16 ≤ 601024 ∧ n.2 + 400 ≤ 7293034) (hi : 0 ≤ i ∧ i + 6 ≤ (L : Int)) (next : lF K qo co Lf cf qh emp b n i) : G K (LW qo co Lf cf ((y, σ), fo) τ) n [(4, .int (iZ i)), (3, .ref qo), (2, .ref (Lf 0)), (1, .ref qh), (0, .ref b)] 720 [] := by
  obtain ⟨rfl, rfl, hci, hmi, hve⟩ := hI
  have o9 := VO_m hmi.1
  show G K (Sep (HW qo co ((y, σ), fo)) (MW Lf cf [] [] τ)) n _ 720 []
  refine g_aload_n C.1 3 dL_law_720 rfl rfl ?_
  refine g_aload_n C.1 4 dL_law_721 rfl rfl ?_
  refine g_iload C.1 0 dL_law_722 rfl ?_
  refine g_iconst C.1 (z := 1) dL_law_724 ?_
  refine g_iadd C.1 (x := i) (y := 1) dL_law_725 ?_
  refine l_ld C (e := i + 1) (by omega) dL_law_726 ?_
  refine g_aload_n C.1 4 dL_law_727 rfl rfl ?_
  refine g_iload C.1 0 dL_law_728 rfl ?_
  refine g_iconst C.1 (z := 2) dL_law_730 ?_
  refine g_iadd C.1 (x := i) (y := 2) dL_law_731 ?_
  refine l_ld C (e := i + 2) (by omega) dL_law_732 ?_
  refine g_aload_n C.1 1 dL_law_733 rfl rfl ?_
  refine s_callL C.1 C.2.2.1 C.2.2.2.1 C.2.2.2.2.1 (s_L_copy y σ fo (Xv xs (i + 1)) (Xv xs (i + 2)) hci ⟨Xv_in xs _, Xv_in xs _⟩) (fun ht => vx_cwSW 4 ht gL_law_L_copy rfl rfl rfl (by decide +kernel) ⟨Nat.le_of_ble_eq_true rfl, Nat.le_of_ble_eq_true rfl⟩) rfl rfl (Nat.le_of_ble_eq_true rfl) ⟨(show n.1 + 10 ≤ 601024 by omega), (show n.2 + 300 ≤ 7293034 by omega)⟩ dL_law_734 (fun T u' hq => ?_)
  obtain ⟨⟨y', σ'⟩, fo'⟩ := u'
  obtain ⟨⟨hy, he⟩, hci', hTd, hv, hn⟩ := hq
  dsimp only at hy he hci' hv hn
  rw [← hTd] at hv hn
  refine g_istore C.1 (loc' := [(5, .int (iZ T)), (4, .int (iZ i)), (3, .ref qo), (2, .ref (Lf 0)), (1, .ref (y.1 0 0 0)), (0, .ref b)]) C.2.1 dL_law_737 (by decide) rfl ?_
  refine g_aload_n C.1 3 dL_law_739 rfl rfl ?_
  refine g_aload_n C.1 5 dL_law_740 rfl rfl ?_
  refine g_iload C.1 1 dL_law_741 rfl ?_
  refine g_iconst C.1 (z := 1) dL_law_743 ?_
  refine g_iadd C.1 (x := i) (y := 1) dL_law_744 ?_
  refine l_ld C (e := i + 1) (by omega) dL_law_745 ?_
  refine g_aload_n C.1 5 dL_law_746 rfl rfl ?_
  refine g_iload C.1 1 dL_law_747 rfl ?_
  refine g_iconst C.1 (z := 2) dL_law_749 ?_
  refine g_iadd C.1 (x := i) (y := 2) dL_law_750 ?_
  refine l_ld C (e := i + 2) (by omega) dL_law_751 ?_
  refine g_swap ?_
  refine s_callM C.1 (s_X5_copy K.l Lf cf τ (Xv xs (i + 1)) (Xv xs (i + 2)) ⟨hmi, Xv_in xs _, Xv_in xs _⟩) (ci := 6) (q := (RX5, TX5, 17)) rfl m_recv (fun ht => cwV 2 ht gL_law_X5_copy rfl rfl rfl (by decide +kernel) ⟨Nat.le_of_ble_eq_true rfl, Nat.le_of_ble_eq_true rfl⟩) rfl rfl (Nat.le_of_ble_eq_true rfl) ⟨(show n.1 + 10 + 0 ≤ 601024 by omega), (show n.2 + 300 + 0 ≤ 7293034 by omega)⟩ dL_law_752 (fun r τ' hq => ?_)
  obtain ⟨hmi', h00, hun, hrm⟩ := hq
  refine g_istore C.1 (loc' := [(6, .int (iZ r)), (5, .int (iZ T)), (4, .int (iZ i)), (3, .ref qo), (2, .ref (Lf 0)), (1, .ref (y.1 0 0 0)), (0, .ref b)]) C.2.1 dL_law_755 (by decide) rfl ?_
  refine g_aload_n C.1 4 dL_law_757 rfl rfl ?_
  refine s_callM C.1 (s_X5_thrown K.l Lf cf τ' trivial) (ci := 6) (q := (RX5, TX5, 17)) rfl m_recv (fun ht => cwV 0 ht gL_law_X5_thrown rfl rfl rfl (by decide +kernel) ⟨Nat.le_of_ble_eq_true rfl, Nat.le_of_ble_eq_true rfl⟩) rfl rfl (Nat.le_of_ble_eq_true rfl) ⟨(show n.1 + 10 + 0 + 0 ≤ 601024 by omega), (show n.2 + 300 + 0 + 0 ≤ 7293034 by omega)⟩ dL_law_758 (fun r2 τ2 hq => ?_)
  obtain ⟨e2, e3⟩ := hq
  subst e3
  have hTm : T = (tCopy (mV τ) (Xv xs (i + 1)) (Xv xs (i + 2))) := hTd.trans (hve.t_Copy (Xv xs (i + 1)) (Xv xs (i + 2))).symm
  rw [← hTm] at h00 hun hrm
  obtain rfl : r2 = T := e2.trans h00
  refine g_swap ?_
  refine g_iload C.1 1 dL_law_761 rfl ?_
  refine l_same C.1 (tgt := 768) dL_law_763 (by decide) ?_
  refine g_iload C.1 1 dL_law_768 rfl ?_
  have hT32 : in32 r2 := by rw [hTd]; unfold tCopy; first | exact t_r1 | exact t_r1' | exact t_r2 | exact t_r3
  refine g_if_ne C.1 (tgt := 785) dL_law_770 (by decide) hT32 (fun h0 => ?_) (fun h0 => ?_)
  · refine g_goto C.1 (tgt := 1672) dL_law_785 (by decide) ?_
    refine g_sub [2, 3, 4, 5, 6] rfl ?_
    exact next (n.1 + 10 + 0 + 0, n.2 + 300 + 0 + 0) y' σ' fo' τ2 ⟨(show n.1 + 10 + 0 + 0 ≤ n.1 + 16 by omega), (show n.2 + 300 + 0 + 0 ≤ n.2 + 400 by omega)⟩ ⟨hy, he, hci', hmi', by rw [hun h0, hn h0]; exact hve⟩
  · obtain ⟨v, hf, hrc⟩ := hv h0
    have hJ := J_copy hve o9 (hTm.symm.trans h0) (hrm h0) hrc
    obtain ⟨rfl, hve2⟩ := hJ
    refine g_aload_n C.1 3 dL_law_773 rfl rfl ?_
    refine g_iconst C.1 (z := 0) dL_law_774 ?_
    refine g_mono (A := Sep (Sep (CL y' σ') (OUT qo co fo')) (MW Lf cf [] [] τ2)) (B := Sep (Sep (CL y' σ') (OUT qo co fo')) (MW Lf cf [] [] τ2)) (fun _ _ h => h) ?_
    refine g_swap ?_
    refine g_assoc' ?_
    refine o_lald C.1 dL_law_775 ?_
    refine g_assoc ?_
    refine g_swap ?_
    refine g_iload C.1 0 dL_law_776 rfl ?_
    refine s_i2l C.1 dL_law_778 ?_
    refine l_lcmp C.1 hf dL_law_779 ?_
    refine g_if_eq C.1 (tgt := 785) dL_law_780 (by decide) (by decide) (fun _ => ?_) (fun h => absurd rfl h)
    show G K (Sep (HW qo co ((y', σ'), fo')) (MW Lf cf [] [] τ2)) _ _ 785 []
    refine g_goto C.1 (tgt := 1672) dL_law_785 (by decide) ?_
    refine g_sub [2, 3, 4, 5, 6] rfl ?_
    exact next (n.1 + 10 + 0 + 0, n.2 + 300 + 0 + 0) y' σ' fo' τ2 ⟨(show n.1 + 10 + 0 + 0 ≤ n.1 + 16 by omega), (show n.2 + 300 + 0 + 0 ≤ n.2 + 400 by omega)⟩ ⟨hy, he, hci', hmi', hve2⟩
set_option maxRecDepth 100000 in
set_option maxHeartbeats 4000000 in
theorem lc_9 {K : KT} {b L emp qo qh : Nat} {xs : Nat → Int32} {co : ClassId} {Lf : Nat → Nat} {cf : Nat → ClassId} {y : LT} {σ : CS} {fo : Nat → Int64} {τ : MS} {n : Nat × Nat} {i : Int} (C : lwK K b L xs emp) (hI : lI qh emp y σ τ) (hr0 : n.1 + 16 ≤ 601024 ∧ n.2 + 400 ≤ 7293034) (hi : 0 ≤ i ∧ i + 6 ≤ (L : Int)) (next : lF K qo co Lf cf qh emp b n i) : G K (LW qo co Lf cf ((y, σ), fo) τ) n [(4, .int (iZ i)), (3, .ref qo), (2, .ref (Lf 0)), (1, .ref qh), (0, .ref b)] 788 [] := by
  obtain ⟨rfl, rfl, hci, hmi, hve⟩ := hI
  have o9 := VO_m hmi.1
  show G K (Sep (HW qo co ((y, σ), fo)) (MW Lf cf [] [] τ)) n _ 788 []
  refine g_aload_n C.1 3 dL_law_788 rfl rfl ?_
  refine g_aload_n C.1 4 dL_law_789 rfl rfl ?_
  refine g_iload C.1 0 dL_law_790 rfl ?_
  refine g_iconst C.1 (z := 1) dL_law_792 ?_
  refine g_iadd C.1 (x := i) (y := 1) dL_law_793 ?_
  refine l_ld C (e := i + 1) (by omega) dL_law_794 ?_
  refine g_aload_n C.1 4 dL_law_795 rfl rfl ?_
  refine g_iload C.1 0 dL_law_796 rfl ?_
  refine g_iconst C.1 (z := 2) dL_law_798 ?_
  refine g_iadd C.1 (x := i) (y := 2) dL_law_799 ?_
  refine l_ld C (e := i + 2) (by omega) dL_law_800 ?_
  refine g_aload_n C.1 4 dL_law_801 rfl rfl ?_
  refine g_iload C.1 0 dL_law_802 rfl ?_
  refine g_iconst C.1 (z := 3) dL_law_804 ?_
  refine g_iadd C.1 (x := i) (y := 3) dL_law_805 ?_
  refine l_ld C (e := i + 3) (by omega) dL_law_806 ?_
  refine g_aload_n C.1 4 dL_law_807 rfl rfl ?_
  refine g_iload C.1 0 dL_law_808 rfl ?_
  refine g_iconst C.1 (z := 4) dL_law_810 ?_
  refine g_iadd C.1 (x := i) (y := 4) dL_law_811 ?_
  refine l_ld C (e := i + 4) (by omega) dL_law_812 ?_
  refine g_aload_n C.1 1 dL_law_813 rfl rfl ?_
  refine s_callL C.1 C.2.2.1 C.2.2.2.1 C.2.2.2.2.1 (s_L_emend y σ fo (Xv xs (i + 1)) (Xv xs (i + 2)) (Xv xs (i + 3)) (Xv xs (i + 4)) hci ⟨Xv_in xs _, Xv_in xs _, Xv_in xs _, Xv_in xs _⟩) (fun ht => vx_cwSW 6 ht gL_law_L_emend rfl rfl rfl (by decide +kernel) ⟨Nat.le_of_ble_eq_true rfl, Nat.le_of_ble_eq_true rfl⟩) rfl rfl (Nat.le_of_ble_eq_true rfl) ⟨(show n.1 + 3 ≤ 601024 by omega), (show n.2 + 18 ≤ 7293034 by omega)⟩ dL_law_814 (fun T u' hq => ?_)
  obtain ⟨⟨y', σ'⟩, fo'⟩ := u'
  obtain ⟨⟨hy, he⟩, hci', hTd, hv, hn⟩ := hq
  dsimp only at hy he hci' hv hn
  rw [← hTd] at hv hn
  refine g_istore C.1 (loc' := [(5, .int (iZ T)), (4, .int (iZ i)), (3, .ref qo), (2, .ref (Lf 0)), (1, .ref (y.1 0 0 0)), (0, .ref b)]) C.2.1 dL_law_817 (by decide) rfl ?_
  refine g_aload_n C.1 3 dL_law_819 rfl rfl ?_
  refine g_aload_n C.1 5 dL_law_820 rfl rfl ?_
  refine g_iload C.1 1 dL_law_821 rfl ?_
  refine g_iconst C.1 (z := 1) dL_law_823 ?_
  refine g_iadd C.1 (x := i) (y := 1) dL_law_824 ?_
  refine l_ld C (e := i + 1) (by omega) dL_law_825 ?_
  refine g_aload_n C.1 5 dL_law_826 rfl rfl ?_
  refine g_iload C.1 1 dL_law_827 rfl ?_
  refine g_iconst C.1 (z := 2) dL_law_829 ?_
  refine g_iadd C.1 (x := i) (y := 2) dL_law_830 ?_
  refine l_ld C (e := i + 2) (by omega) dL_law_831 ?_
  refine g_aload_n C.1 5 dL_law_832 rfl rfl ?_
  refine g_iload C.1 1 dL_law_833 rfl ?_
  refine g_iconst C.1 (z := 3) dL_law_835 ?_
  refine g_iadd C.1 (x := i) (y := 3) dL_law_836 ?_
  refine l_ld C (e := i + 3) (by omega) dL_law_837 ?_
  refine g_aload_n C.1 5 dL_law_838 rfl rfl ?_
  refine g_iload C.1 1 dL_law_839 rfl ?_
  refine g_iconst C.1 (z := 4) dL_law_841 ?_
  refine g_iadd C.1 (x := i) (y := 4) dL_law_842 ?_
  refine l_ld C (e := i + 4) (by omega) dL_law_843 ?_
  refine g_swap ?_
  refine s_callM C.1 (s_X5_emend K.l Lf cf τ (Xv xs (i + 1)) (Xv xs (i + 2)) (Xv xs (i + 3)) (Xv xs (i + 4)) ⟨hmi, Xv_in xs _, Xv_in xs _, Xv_in xs _, Xv_in xs _⟩) (ci := 6) (q := (RX5, TX5, 17)) rfl m_recv (fun ht => cwV 4 ht gL_law_X5_emend rfl rfl rfl (by decide +kernel) ⟨Nat.le_of_ble_eq_true rfl, Nat.le_of_ble_eq_true rfl⟩) rfl rfl (Nat.le_of_ble_eq_true rfl) ⟨(show n.1 + 3 + 0 ≤ 601024 by omega), (show n.2 + 18 + 0 ≤ 7293034 by omega)⟩ dL_law_844 (fun r τ' hq => ?_)
  obtain ⟨hmi', h00, hun, hrm⟩ := hq
  refine g_istore C.1 (loc' := [(6, .int (iZ r)), (5, .int (iZ T)), (4, .int (iZ i)), (3, .ref qo), (2, .ref (Lf 0)), (1, .ref (y.1 0 0 0)), (0, .ref b)]) C.2.1 dL_law_847 (by decide) rfl ?_
  refine g_aload_n C.1 4 dL_law_849 rfl rfl ?_
  refine s_callM C.1 (s_X5_thrown K.l Lf cf τ' trivial) (ci := 6) (q := (RX5, TX5, 17)) rfl m_recv (fun ht => cwV 0 ht gL_law_X5_thrown rfl rfl rfl (by decide +kernel) ⟨Nat.le_of_ble_eq_true rfl, Nat.le_of_ble_eq_true rfl⟩) rfl rfl (Nat.le_of_ble_eq_true rfl) ⟨(show n.1 + 3 + 0 + 0 ≤ 601024 by omega), (show n.2 + 18 + 0 + 0 ≤ 7293034 by omega)⟩ dL_law_850 (fun r2 τ2 hq => ?_)
  obtain ⟨e2, e3⟩ := hq
  subst e3
  have hTm : T = (tEmend (mV τ) (Xv xs (i + 1)) (Xv xs (i + 2)) (Xv xs (i + 3)) (Xv xs (i + 4))) := hTd.trans (hve.t_Emend (Xv xs (i + 1)) (Xv xs (i + 2)) (Xv xs (i + 3)) (Xv xs (i + 4))).symm
  rw [← hTm] at h00 hun hrm
  obtain rfl : r2 = T := e2.trans h00
  refine g_swap ?_
  refine g_iload C.1 1 dL_law_853 rfl ?_
  refine l_same C.1 (tgt := 860) dL_law_855 (by decide) ?_
  refine g_iload C.1 1 dL_law_860 rfl ?_
  have hT32 : in32 r2 := by rw [hTd]; unfold tEmend; first | exact t_r1 | exact t_r1' | exact t_r2 | exact t_r3
  refine g_if_ne C.1 (tgt := 877) dL_law_862 (by decide) hT32 (fun h0 => ?_) (fun h0 => ?_)
  · refine g_goto C.1 (tgt := 1672) dL_law_877 (by decide) ?_
    refine g_sub [2, 3, 4, 5, 6] rfl ?_
    exact next (n.1 + 3 + 0 + 0, n.2 + 18 + 0 + 0) y' σ' fo' τ2 ⟨(show n.1 + 3 + 0 + 0 ≤ n.1 + 16 by omega), (show n.2 + 18 + 0 + 0 ≤ n.2 + 400 by omega)⟩ ⟨hy, he, hci', hmi', by rw [hun h0, hn h0]; exact hve⟩
  · obtain ⟨v, hf, hrc⟩ := hv h0
    have hJ := J_emend hve o9 (hTm.symm.trans h0) (hrm h0) hrc
    obtain ⟨rfl, hve2⟩ := hJ
    refine g_aload_n C.1 3 dL_law_865 rfl rfl ?_
    refine g_iconst C.1 (z := 0) dL_law_866 ?_
    refine g_mono (A := Sep (Sep (CL y' σ') (OUT qo co fo')) (MW Lf cf [] [] τ2)) (B := Sep (Sep (CL y' σ') (OUT qo co fo')) (MW Lf cf [] [] τ2)) (fun _ _ h => h) ?_
    refine g_swap ?_
    refine g_assoc' ?_
    refine o_lald C.1 dL_law_867 ?_
    refine g_assoc ?_
    refine g_swap ?_
    refine g_iload C.1 0 dL_law_868 rfl ?_
    refine s_i2l C.1 dL_law_870 ?_
    refine l_lcmp C.1 hf dL_law_871 ?_
    refine g_if_eq C.1 (tgt := 877) dL_law_872 (by decide) (by decide) (fun _ => ?_) (fun h => absurd rfl h)
    show G K (Sep (HW qo co ((y', σ'), fo')) (MW Lf cf [] [] τ2)) _ _ 877 []
    refine g_goto C.1 (tgt := 1672) dL_law_877 (by decide) ?_
    refine g_sub [2, 3, 4, 5, 6] rfl ?_
    exact next (n.1 + 3 + 0 + 0, n.2 + 18 + 0 + 0) y' σ' fo' τ2 ⟨(show n.1 + 3 + 0 + 0 ≤ n.1 + 16 by omega), (show n.2 + 18 + 0 + 0 ≤ n.2 + 400 by omega)⟩ ⟨hy, he, hci', hmi', hve2⟩
set_option maxRecDepth 100000 in
set_option maxHeartbeats 4000000 in
theorem lc_10 {K : KT} {b L emp qo qh : Nat} {xs : Nat → Int32} {co : ClassId} {Lf : Nat → Nat} {cf : Nat → ClassId} {y : LT} {σ : CS} {fo : Nat → Int64} {τ : MS} {n : Nat × Nat} {i : Int} (C : lwK K b L xs emp) (hI : lI qh emp y σ τ) (hr0 : n.1 + 16 ≤ 601024 ∧ n.2 + 400 ≤ 7293034) (hi : 0 ≤ i ∧ i + 6 ≤ (L : Int)) (next : lF K qo co Lf cf qh emp b n i) : G K (LW qo co Lf cf ((y, σ), fo) τ) n [(4, .int (iZ i)), (3, .ref qo), (2, .ref (Lf 0)), (1, .ref qh), (0, .ref b)] 880 [] := by
  obtain ⟨rfl, rfl, hci, hmi, hve⟩ := hI
  have o9 := VO_m hmi.1
  show G K (Sep (HW qo co ((y, σ), fo)) (MW Lf cf [] [] τ)) n _ 880 []
  refine g_aload_n C.1 3 dL_law_880 rfl rfl ?_
  refine g_aload_n C.1 4 dL_law_881 rfl rfl ?_
  refine g_iload C.1 0 dL_law_882 rfl ?_
  refine g_iconst C.1 (z := 1) dL_law_884 ?_
  refine g_iadd C.1 (x := i) (y := 1) dL_law_885 ?_
  refine l_ld C (e := i + 1) (by omega) dL_law_886 ?_
  refine g_aload_n C.1 1 dL_law_887 rfl rfl ?_
  refine s_callL C.1 C.2.2.1 C.2.2.2.1 C.2.2.2.2.1 (s_L_lose y σ fo (Xv xs (i + 1)) hci (Xv_in xs _)) (fun ht => vx_cwSW 3 ht gL_law_L_lose rfl rfl rfl (by decide +kernel) ⟨Nat.le_of_ble_eq_true rfl, Nat.le_of_ble_eq_true rfl⟩) rfl rfl (Nat.le_of_ble_eq_true rfl) ⟨(show n.1 + 2 ≤ 601024 by omega), (show n.2 + 12 ≤ 7293034 by omega)⟩ dL_law_888 (fun T u' hq => ?_)
  obtain ⟨⟨y', σ'⟩, fo'⟩ := u'
  obtain ⟨⟨hy, he⟩, hci', hTd, hv, hn⟩ := hq
  dsimp only at hy he hci' hv hn
  rw [← hTd] at hv hn
  refine g_istore C.1 (loc' := [(5, .int (iZ T)), (4, .int (iZ i)), (3, .ref qo), (2, .ref (Lf 0)), (1, .ref (y.1 0 0 0)), (0, .ref b)]) C.2.1 dL_law_891 (by decide) rfl ?_
  refine g_aload_n C.1 3 dL_law_893 rfl rfl ?_
  refine g_aload_n C.1 5 dL_law_894 rfl rfl ?_
  refine g_iload C.1 1 dL_law_895 rfl ?_
  refine g_iconst C.1 (z := 1) dL_law_897 ?_
  refine g_iadd C.1 (x := i) (y := 1) dL_law_898 ?_
  refine l_ld C (e := i + 1) (by omega) dL_law_899 ?_
  refine g_swap ?_
  refine s_callM C.1 (s_X5_lose K.l Lf cf τ (Xv xs (i + 1)) ⟨hmi, Xv_in xs _⟩) (ci := 6) (q := (RX5, TX5, 17)) rfl m_recv (fun ht => cwV 1 ht gL_law_X5_lose rfl rfl rfl (by decide +kernel) ⟨Nat.le_of_ble_eq_true rfl, Nat.le_of_ble_eq_true rfl⟩) rfl rfl (Nat.le_of_ble_eq_true rfl) ⟨(show n.1 + 2 + 0 ≤ 601024 by omega), (show n.2 + 12 + 0 ≤ 7293034 by omega)⟩ dL_law_900 (fun r τ' hq => ?_)
  obtain ⟨hmi', h00, hun, hrm⟩ := hq
  refine g_istore C.1 (loc' := [(6, .int (iZ r)), (5, .int (iZ T)), (4, .int (iZ i)), (3, .ref qo), (2, .ref (Lf 0)), (1, .ref (y.1 0 0 0)), (0, .ref b)]) C.2.1 dL_law_903 (by decide) rfl ?_
  refine g_aload_n C.1 4 dL_law_905 rfl rfl ?_
  refine s_callM C.1 (s_X5_thrown K.l Lf cf τ' trivial) (ci := 6) (q := (RX5, TX5, 17)) rfl m_recv (fun ht => cwV 0 ht gL_law_X5_thrown rfl rfl rfl (by decide +kernel) ⟨Nat.le_of_ble_eq_true rfl, Nat.le_of_ble_eq_true rfl⟩) rfl rfl (Nat.le_of_ble_eq_true rfl) ⟨(show n.1 + 2 + 0 + 0 ≤ 601024 by omega), (show n.2 + 12 + 0 + 0 ≤ 7293034 by omega)⟩ dL_law_906 (fun r2 τ2 hq => ?_)
  obtain ⟨e2, e3⟩ := hq
  subst e3
  have hTm : T = (tLose (mV τ) (Xv xs (i + 1))) := hTd.trans (hve.t_Lose (Xv xs (i + 1))).symm
  rw [← hTm] at h00 hun hrm
  obtain rfl : r2 = T := e2.trans h00
  refine g_swap ?_
  refine g_iload C.1 1 dL_law_909 rfl ?_
  refine l_same C.1 (tgt := 916) dL_law_911 (by decide) ?_
  refine g_iload C.1 1 dL_law_916 rfl ?_
  have hT32 : in32 r2 := by rw [hTd]; unfold tLose; first | exact t_r1 | exact t_r1' | exact t_r2 | exact t_r3
  refine g_if_ne C.1 (tgt := 933) dL_law_918 (by decide) hT32 (fun h0 => ?_) (fun h0 => ?_)
  · refine g_goto C.1 (tgt := 1672) dL_law_933 (by decide) ?_
    refine g_sub [2, 3, 4, 5, 6] rfl ?_
    exact next (n.1 + 2 + 0 + 0, n.2 + 12 + 0 + 0) y' σ' fo' τ2 ⟨(show n.1 + 2 + 0 + 0 ≤ n.1 + 16 by omega), (show n.2 + 12 + 0 + 0 ≤ n.2 + 400 by omega)⟩ ⟨hy, he, hci', hmi', by rw [hun h0, hn h0]; exact hve⟩
  · obtain ⟨v, hf, hrc⟩ := hv h0
    have hJ := J_lose hve o9 (hrm h0) hrc
    obtain ⟨rfl, hve2⟩ := hJ
    refine g_aload_n C.1 3 dL_law_921 rfl rfl ?_
    refine g_iconst C.1 (z := 0) dL_law_922 ?_
    refine g_mono (A := Sep (Sep (CL y' σ') (OUT qo co fo')) (MW Lf cf [] [] τ2)) (B := Sep (Sep (CL y' σ') (OUT qo co fo')) (MW Lf cf [] [] τ2)) (fun _ _ h => h) ?_
    refine g_swap ?_
    refine g_assoc' ?_
    refine o_lald C.1 dL_law_923 ?_
    refine g_assoc ?_
    refine g_swap ?_
    refine g_iload C.1 0 dL_law_924 rfl ?_
    refine s_i2l C.1 dL_law_926 ?_
    refine l_lcmp C.1 hf dL_law_927 ?_
    refine g_if_eq C.1 (tgt := 933) dL_law_928 (by decide) (by decide) (fun _ => ?_) (fun h => absurd rfl h)
    show G K (Sep (HW qo co ((y', σ'), fo')) (MW Lf cf [] [] τ2)) _ _ 933 []
    refine g_goto C.1 (tgt := 1672) dL_law_933 (by decide) ?_
    refine g_sub [2, 3, 4, 5, 6] rfl ?_
    exact next (n.1 + 2 + 0 + 0, n.2 + 12 + 0 + 0) y' σ' fo' τ2 ⟨(show n.1 + 2 + 0 + 0 ≤ n.1 + 16 by omega), (show n.2 + 12 + 0 + 0 ≤ n.2 + 400 by omega)⟩ ⟨hy, he, hci', hmi', hve2⟩
set_option maxRecDepth 100000 in
set_option maxHeartbeats 4000000 in
theorem lc_11 {K : KT} {b L emp qo qh : Nat} {xs : Nat → Int32} {co : ClassId} {Lf : Nat → Nat} {cf : Nat → ClassId} {y : LT} {σ : CS} {fo : Nat → Int64} {τ : MS} {n : Nat × Nat} {i : Int} (C : lwK K b L xs emp) (hI : lI qh emp y σ τ) (hr0 : n.1 + 16 ≤ 601024 ∧ n.2 + 400 ≤ 7293034) (hi : 0 ≤ i ∧ i + 6 ≤ (L : Int)) (next : lF K qo co Lf cf qh emp b n i) : G K (LW qo co Lf cf ((y, σ), fo) τ) n [(4, .int (iZ i)), (3, .ref qo), (2, .ref (Lf 0)), (1, .ref qh), (0, .ref b)] 936 [] := by
  obtain ⟨rfl, rfl, hci, hmi, hve⟩ := hI
  have o9 := VO_m hmi.1
  show G K (Sep (HW qo co ((y, σ), fo)) (MW Lf cf [] [] τ)) n _ 936 []
  refine g_aload_n C.1 3 dL_law_936 rfl rfl ?_
  refine g_aload_n C.1 4 dL_law_937 rfl rfl ?_
  refine g_iload C.1 0 dL_law_938 rfl ?_
  refine g_iconst C.1 (z := 1) dL_law_940 ?_
  refine g_iadd C.1 (x := i) (y := 1) dL_law_941 ?_
  refine l_ld C (e := i + 1) (by omega) dL_law_942 ?_
  refine g_aload_n C.1 4 dL_law_943 rfl rfl ?_
  refine g_iload C.1 0 dL_law_944 rfl ?_
  refine g_iconst C.1 (z := 2) dL_law_946 ?_
  refine g_iadd C.1 (x := i) (y := 2) dL_law_947 ?_
  refine l_ld C (e := i + 2) (by omega) dL_law_948 ?_
  refine g_aload_n C.1 1 dL_law_949 rfl rfl ?_
  refine s_callL C.1 C.2.2.1 C.2.2.2.1 C.2.2.2.2.1 (s_L_manuscript y σ fo (Xv xs (i + 1)) (Xv xs (i + 2)) hci ⟨Xv_in xs _, Xv_in xs _⟩) (fun ht => vx_cwSW 4 ht gL_law_L_manuscript rfl rfl rfl (by decide +kernel) ⟨Nat.le_of_ble_eq_true rfl, Nat.le_of_ble_eq_true rfl⟩) rfl rfl (Nat.le_of_ble_eq_true rfl) ⟨(show n.1 + 2 ≤ 601024 by omega), (show n.2 + 12 ≤ 7293034 by omega)⟩ dL_law_950 (fun T u' hq => ?_)
  obtain ⟨⟨y', σ'⟩, fo'⟩ := u'
  obtain ⟨⟨hy, he⟩, hci', hTd, hv, hn⟩ := hq
  dsimp only at hy he hci' hv hn
  rw [← hTd] at hv hn
  refine g_istore C.1 (loc' := [(5, .int (iZ T)), (4, .int (iZ i)), (3, .ref qo), (2, .ref (Lf 0)), (1, .ref (y.1 0 0 0)), (0, .ref b)]) C.2.1 dL_law_953 (by decide) rfl ?_
  refine g_aload_n C.1 3 dL_law_955 rfl rfl ?_
  refine g_aload_n C.1 5 dL_law_956 rfl rfl ?_
  refine g_iload C.1 1 dL_law_957 rfl ?_
  refine g_iconst C.1 (z := 1) dL_law_959 ?_
  refine g_iadd C.1 (x := i) (y := 1) dL_law_960 ?_
  refine l_ld C (e := i + 1) (by omega) dL_law_961 ?_
  refine g_aload_n C.1 5 dL_law_962 rfl rfl ?_
  refine g_iload C.1 1 dL_law_963 rfl ?_
  refine g_iconst C.1 (z := 2) dL_law_965 ?_
  refine g_iadd C.1 (x := i) (y := 2) dL_law_966 ?_
  refine l_ld C (e := i + 2) (by omega) dL_law_967 ?_
  refine g_swap ?_
  refine s_callM C.1 (s_X5_manuscript K.l Lf cf τ (Xv xs (i + 1)) (Xv xs (i + 2)) ⟨hmi, Xv_in xs _, Xv_in xs _⟩) (ci := 6) (q := (RX5, TX5, 17)) rfl m_recv (fun ht => cwV 2 ht gL_law_X5_manuscript rfl rfl rfl (by decide +kernel) ⟨Nat.le_of_ble_eq_true rfl, Nat.le_of_ble_eq_true rfl⟩) rfl rfl (Nat.le_of_ble_eq_true rfl) ⟨(show n.1 + 2 + 0 ≤ 601024 by omega), (show n.2 + 12 + 0 ≤ 7293034 by omega)⟩ dL_law_968 (fun r τ' hq => ?_)
  obtain ⟨hmi', hmV, h00, hres⟩ := hq
  have hun : ¬ T = 0 → mV τ' = mV τ := fun _ => hmV
  have hrm := fun h => (⟨hres h, VE.of_eq hmV⟩ : _ ∧ VE (mV τ') (mV τ))
  refine g_istore C.1 (loc' := [(6, .int (iZ r)), (5, .int (iZ T)), (4, .int (iZ i)), (3, .ref qo), (2, .ref (Lf 0)), (1, .ref (y.1 0 0 0)), (0, .ref b)]) C.2.1 dL_law_971 (by decide) rfl ?_
  refine g_aload_n C.1 4 dL_law_973 rfl rfl ?_
  refine s_callM C.1 (s_X5_thrown K.l Lf cf τ' trivial) (ci := 6) (q := (RX5, TX5, 17)) rfl m_recv (fun ht => cwV 0 ht gL_law_X5_thrown rfl rfl rfl (by decide +kernel) ⟨Nat.le_of_ble_eq_true rfl, Nat.le_of_ble_eq_true rfl⟩) rfl rfl (Nat.le_of_ble_eq_true rfl) ⟨(show n.1 + 2 + 0 + 0 ≤ 601024 by omega), (show n.2 + 12 + 0 + 0 ≤ 7293034 by omega)⟩ dL_law_974 (fun r2 τ2 hq => ?_)
  obtain ⟨e2, e3⟩ := hq
  subst e3
  have hTm : T = (tManu (mV τ) (Xv xs (i + 1)) (Xv xs (i + 2))) := hTd.trans (hve.t_Manu (Xv xs (i + 1)) (Xv xs (i + 2))).symm
  rw [← hTm] at h00 hrm
  obtain rfl : r2 = T := e2.trans h00
  refine g_swap ?_
  refine g_iload C.1 1 dL_law_977 rfl ?_
  refine l_same C.1 (tgt := 984) dL_law_979 (by decide) ?_
  refine g_iload C.1 1 dL_law_984 rfl ?_
  have hT32 : in32 r2 := by rw [hTd]; unfold tManu; first | exact t_r1 | exact t_r1' | exact t_r2 | exact t_r3
  refine g_if_ne C.1 (tgt := 1001) dL_law_986 (by decide) hT32 (fun h0 => ?_) (fun h0 => ?_)
  · refine g_goto C.1 (tgt := 1672) dL_law_1001 (by decide) ?_
    refine g_sub [2, 3, 4, 5, 6] rfl ?_
    exact next (n.1 + 2 + 0 + 0, n.2 + 12 + 0 + 0) y' σ' fo' τ2 ⟨(show n.1 + 2 + 0 + 0 ≤ n.1 + 16 by omega), (show n.2 + 12 + 0 + 0 ≤ n.2 + 400 by omega)⟩ ⟨hy, he, hci', hmi', by rw [hun h0, hn h0]; exact hve⟩
  · obtain ⟨v, hf, hrc⟩ := hv h0
    have hJ := J_manuscript hve o9 (hTm.symm.trans h0) (hrm h0) hrc
    obtain ⟨rfl, hve2⟩ := hJ
    refine g_aload_n C.1 3 dL_law_989 rfl rfl ?_
    refine g_iconst C.1 (z := 0) dL_law_990 ?_
    refine g_mono (A := Sep (Sep (CL y' σ') (OUT qo co fo')) (MW Lf cf [] [] τ2)) (B := Sep (Sep (CL y' σ') (OUT qo co fo')) (MW Lf cf [] [] τ2)) (fun _ _ h => h) ?_
    refine g_swap ?_
    refine g_assoc' ?_
    refine o_lald C.1 dL_law_991 ?_
    refine g_assoc ?_
    refine g_swap ?_
    refine g_iload C.1 0 dL_law_992 rfl ?_
    refine s_i2l C.1 dL_law_994 ?_
    refine l_lcmp C.1 hf dL_law_995 ?_
    refine g_if_eq C.1 (tgt := 1001) dL_law_996 (by decide) (by decide) (fun _ => ?_) (fun h => absurd rfl h)
    show G K (Sep (HW qo co ((y', σ'), fo')) (MW Lf cf [] [] τ2)) _ _ 1001 []
    refine g_goto C.1 (tgt := 1672) dL_law_1001 (by decide) ?_
    refine g_sub [2, 3, 4, 5, 6] rfl ?_
    exact next (n.1 + 2 + 0 + 0, n.2 + 12 + 0 + 0) y' σ' fo' τ2 ⟨(show n.1 + 2 + 0 + 0 ≤ n.1 + 16 by omega), (show n.2 + 12 + 0 + 0 ≤ n.2 + 400 by omega)⟩ ⟨hy, he, hci', hmi', hve2⟩
set_option maxRecDepth 100000 in
set_option maxHeartbeats 4000000 in
theorem lc_12 {K : KT} {b L emp qo qh : Nat} {xs : Nat → Int32} {co : ClassId} {Lf : Nat → Nat} {cf : Nat → ClassId} {y : LT} {σ : CS} {fo : Nat → Int64} {τ : MS} {n : Nat × Nat} {i : Int} (C : lwK K b L xs emp) (hI : lI qh emp y σ τ) (hr0 : n.1 + 16 ≤ 601024 ∧ n.2 + 400 ≤ 7293034) (hi : 0 ≤ i ∧ i + 6 ≤ (L : Int)) (next : lF K qo co Lf cf qh emp b n i) : G K (LW qo co Lf cf ((y, σ), fo) τ) n [(4, .int (iZ i)), (3, .ref qo), (2, .ref (Lf 0)), (1, .ref qh), (0, .ref b)] 1004 [] := by
  obtain ⟨rfl, rfl, hci, hmi, hve⟩ := hI
  have o9 := VO_m hmi.1
  show G K (Sep (HW qo co ((y, σ), fo)) (MW Lf cf [] [] τ)) n _ 1004 []
  refine g_aload_n C.1 3 dL_law_1004 rfl rfl ?_
  refine g_aload_n C.1 4 dL_law_1005 rfl rfl ?_
  refine g_iload C.1 0 dL_law_1006 rfl ?_
  refine g_iconst C.1 (z := 1) dL_law_1008 ?_
  refine g_iadd C.1 (x := i) (y := 1) dL_law_1009 ?_
  refine l_ld C (e := i + 1) (by omega) dL_law_1010 ?_
  refine g_aload_n C.1 1 dL_law_1011 rfl rfl ?_
  refine s_callL C.1 C.2.2.1 C.2.2.2.1 C.2.2.2.2.1 (s_L_count y σ fo (Xv xs (i + 1)) hci (Xv_in xs _)) (fun ht => vx_cwSW 3 ht gL_law_L_count rfl rfl rfl (by decide +kernel) ⟨Nat.le_of_ble_eq_true rfl, Nat.le_of_ble_eq_true rfl⟩) rfl rfl (Nat.le_of_ble_eq_true rfl) ⟨(show n.1 + 1 ≤ 601024 by omega), (show n.2 + 6 ≤ 7293034 by omega)⟩ dL_law_1012 (fun T u' hq => ?_)
  obtain ⟨⟨y', σ'⟩, fo'⟩ := u'
  obtain ⟨⟨hy, he⟩, hci', hTd, hv, hn⟩ := hq
  dsimp only at hy he hci' hv hn
  rw [← hTd] at hv hn
  refine g_istore C.1 (loc' := [(5, .int (iZ T)), (4, .int (iZ i)), (3, .ref qo), (2, .ref (Lf 0)), (1, .ref (y.1 0 0 0)), (0, .ref b)]) C.2.1 dL_law_1015 (by decide) rfl ?_
  refine g_aload_n C.1 3 dL_law_1017 rfl rfl ?_
  refine g_aload_n C.1 5 dL_law_1018 rfl rfl ?_
  refine g_iload C.1 1 dL_law_1019 rfl ?_
  refine g_iconst C.1 (z := 1) dL_law_1021 ?_
  refine g_iadd C.1 (x := i) (y := 1) dL_law_1022 ?_
  refine l_ld C (e := i + 1) (by omega) dL_law_1023 ?_
  refine g_swap ?_
  refine s_callM C.1 (s_X5_count K.l Lf cf τ (Xv xs (i + 1)) ⟨hmi, Xv_in xs _⟩) (ci := 6) (q := (RX5, TX5, 17)) rfl m_recv (fun ht => cwV 1 ht gL_law_X5_count rfl rfl rfl (by decide +kernel) ⟨Nat.le_of_ble_eq_true rfl, Nat.le_of_ble_eq_true rfl⟩) rfl rfl (Nat.le_of_ble_eq_true rfl) ⟨(show n.1 + 1 + 0 ≤ 601024 by omega), (show n.2 + 6 + 0 ≤ 7293034 by omega)⟩ dL_law_1024 (fun r τ' hq => ?_)
  obtain ⟨hmi', hmV, h00, hres⟩ := hq
  have hun : ¬ T = 0 → mV τ' = mV τ := fun _ => hmV
  have hrm := fun h => (⟨hres h, VE.of_eq hmV⟩ : _ ∧ VE (mV τ') (mV τ))
  refine g_istore C.1 (loc' := [(6, .int (iZ r)), (5, .int (iZ T)), (4, .int (iZ i)), (3, .ref qo), (2, .ref (Lf 0)), (1, .ref (y.1 0 0 0)), (0, .ref b)]) C.2.1 dL_law_1027 (by decide) rfl ?_
  refine g_aload_n C.1 4 dL_law_1029 rfl rfl ?_
  refine s_callM C.1 (s_X5_thrown K.l Lf cf τ' trivial) (ci := 6) (q := (RX5, TX5, 17)) rfl m_recv (fun ht => cwV 0 ht gL_law_X5_thrown rfl rfl rfl (by decide +kernel) ⟨Nat.le_of_ble_eq_true rfl, Nat.le_of_ble_eq_true rfl⟩) rfl rfl (Nat.le_of_ble_eq_true rfl) ⟨(show n.1 + 1 + 0 + 0 ≤ 601024 by omega), (show n.2 + 6 + 0 + 0 ≤ 7293034 by omega)⟩ dL_law_1030 (fun r2 τ2 hq => ?_)
  obtain ⟨e2, e3⟩ := hq
  subst e3
  have hTm : T = (tCount (Xv xs (i + 1))) := hTd.trans rfl
  rw [← hTm] at h00 hrm
  obtain rfl : r2 = T := e2.trans h00
  refine g_swap ?_
  refine g_iload C.1 1 dL_law_1033 rfl ?_
  refine l_same C.1 (tgt := 1040) dL_law_1035 (by decide) ?_
  refine g_iload C.1 1 dL_law_1040 rfl ?_
  have hT32 : in32 r2 := by rw [hTd]; unfold tCount; first | exact t_r1 | exact t_r1' | exact t_r2 | exact t_r3
  refine g_if_ne C.1 (tgt := 1057) dL_law_1042 (by decide) hT32 (fun h0 => ?_) (fun h0 => ?_)
  · refine g_goto C.1 (tgt := 1672) dL_law_1057 (by decide) ?_
    refine g_sub [2, 3, 4, 5, 6] rfl ?_
    exact next (n.1 + 1 + 0 + 0, n.2 + 6 + 0 + 0) y' σ' fo' τ2 ⟨(show n.1 + 1 + 0 + 0 ≤ n.1 + 16 by omega), (show n.2 + 6 + 0 + 0 ≤ n.2 + 400 by omega)⟩ ⟨hy, he, hci', hmi', by rw [hun h0, hn h0]; exact hve⟩
  · obtain ⟨v, hf, hrc⟩ := hv h0
    have hJ := J_count hve o9 (hrm h0) hrc
    obtain ⟨rfl, hve2⟩ := hJ
    refine g_aload_n C.1 3 dL_law_1045 rfl rfl ?_
    refine g_iconst C.1 (z := 0) dL_law_1046 ?_
    refine g_mono (A := Sep (Sep (CL y' σ') (OUT qo co fo')) (MW Lf cf [] [] τ2)) (B := Sep (Sep (CL y' σ') (OUT qo co fo')) (MW Lf cf [] [] τ2)) (fun _ _ h => h) ?_
    refine g_swap ?_
    refine g_assoc' ?_
    refine o_lald C.1 dL_law_1047 ?_
    refine g_assoc ?_
    refine g_swap ?_
    refine g_iload C.1 0 dL_law_1048 rfl ?_
    refine s_i2l C.1 dL_law_1050 ?_
    refine l_lcmp C.1 hf dL_law_1051 ?_
    refine g_if_eq C.1 (tgt := 1057) dL_law_1052 (by decide) (by decide) (fun _ => ?_) (fun h => absurd rfl h)
    show G K (Sep (HW qo co ((y', σ'), fo')) (MW Lf cf [] [] τ2)) _ _ 1057 []
    refine g_goto C.1 (tgt := 1672) dL_law_1057 (by decide) ?_
    refine g_sub [2, 3, 4, 5, 6] rfl ?_
    exact next (n.1 + 1 + 0 + 0, n.2 + 6 + 0 + 0) y' σ' fo' τ2 ⟨(show n.1 + 1 + 0 + 0 ≤ n.1 + 16 by omega), (show n.2 + 6 + 0 + 0 ≤ n.2 + 400 by omega)⟩ ⟨hy, he, hci', hmi', hve2⟩
set_option maxRecDepth 100000 in
set_option maxHeartbeats 4000000 in
theorem lc_13 {K : KT} {b L emp qo qh : Nat} {xs : Nat → Int32} {co : ClassId} {Lf : Nat → Nat} {cf : Nat → ClassId} {y : LT} {σ : CS} {fo : Nat → Int64} {τ : MS} {n : Nat × Nat} {i : Int} (C : lwK K b L xs emp) (hI : lI qh emp y σ τ) (hr0 : n.1 + 16 ≤ 601024 ∧ n.2 + 400 ≤ 7293034) (hi : 0 ≤ i ∧ i + 6 ≤ (L : Int)) (next : lF K qo co Lf cf qh emp b n i) : G K (LW qo co Lf cf ((y, σ), fo) τ) n [(4, .int (iZ i)), (3, .ref qo), (2, .ref (Lf 0)), (1, .ref qh), (0, .ref b)] 1060 [] := by
  obtain ⟨rfl, rfl, hci, hmi, hve⟩ := hI
  have o9 := VO_m hmi.1
  show G K (Sep (HW qo co ((y, σ), fo)) (MW Lf cf [] [] τ)) n _ 1060 []
  refine g_aload_n C.1 3 dL_law_1060 rfl rfl ?_
  refine g_aload_n C.1 4 dL_law_1061 rfl rfl ?_
  refine g_iload C.1 0 dL_law_1062 rfl ?_
  refine g_iconst C.1 (z := 1) dL_law_1064 ?_
  refine g_iadd C.1 (x := i) (y := 1) dL_law_1065 ?_
  refine l_ld C (e := i + 1) (by omega) dL_law_1066 ?_
  refine g_aload_n C.1 4 dL_law_1067 rfl rfl ?_
  refine g_iload C.1 0 dL_law_1068 rfl ?_
  refine g_iconst C.1 (z := 2) dL_law_1070 ?_
  refine g_iadd C.1 (x := i) (y := 2) dL_law_1071 ?_
  refine l_ld C (e := i + 2) (by omega) dL_law_1072 ?_
  refine g_aload_n C.1 1 dL_law_1073 rfl rfl ?_
  refine s_callL C.1 C.2.2.1 C.2.2.2.1 C.2.2.2.2.1 (s_L_distance y σ fo (Xv xs (i + 1)) (Xv xs (i + 2)) hci ⟨Xv_in xs _, Xv_in xs _⟩) (fun ht => vx_cwSW 4 ht gL_law_L_distance rfl rfl rfl (by decide +kernel) ⟨Nat.le_of_ble_eq_true rfl, Nat.le_of_ble_eq_true rfl⟩) rfl rfl (Nat.le_of_ble_eq_true rfl) ⟨(show n.1 + 2 ≤ 601024 by omega), (show n.2 + 12 ≤ 7293034 by omega)⟩ dL_law_1074 (fun T u' hq => ?_)
  obtain ⟨⟨y', σ'⟩, fo'⟩ := u'
  obtain ⟨⟨hy, he⟩, hci', hTd, hv, hn⟩ := hq
  dsimp only at hy he hci' hv hn
  rw [← hTd] at hv hn
  refine g_istore C.1 (loc' := [(5, .int (iZ T)), (4, .int (iZ i)), (3, .ref qo), (2, .ref (Lf 0)), (1, .ref (y.1 0 0 0)), (0, .ref b)]) C.2.1 dL_law_1077 (by decide) rfl ?_
  refine g_aload_n C.1 3 dL_law_1079 rfl rfl ?_
  refine g_aload_n C.1 5 dL_law_1080 rfl rfl ?_
  refine g_iload C.1 1 dL_law_1081 rfl ?_
  refine g_iconst C.1 (z := 1) dL_law_1083 ?_
  refine g_iadd C.1 (x := i) (y := 1) dL_law_1084 ?_
  refine l_ld C (e := i + 1) (by omega) dL_law_1085 ?_
  refine g_aload_n C.1 5 dL_law_1086 rfl rfl ?_
  refine g_iload C.1 1 dL_law_1087 rfl ?_
  refine g_iconst C.1 (z := 2) dL_law_1089 ?_
  refine g_iadd C.1 (x := i) (y := 2) dL_law_1090 ?_
  refine l_ld C (e := i + 2) (by omega) dL_law_1091 ?_
  refine g_swap ?_
  refine s_callM C.1 (s_X5_distance K.l Lf cf τ (Xv xs (i + 1)) (Xv xs (i + 2)) ⟨hmi, Xv_in xs _, Xv_in xs _⟩) (ci := 6) (q := (RX5, TX5, 17)) rfl m_recv (fun ht => cwV 2 ht gL_law_X5_distance rfl rfl rfl (by decide +kernel) ⟨Nat.le_of_ble_eq_true rfl, Nat.le_of_ble_eq_true rfl⟩) rfl rfl (Nat.le_of_ble_eq_true rfl) ⟨(show n.1 + 2 + 0 ≤ 601024 by omega), (show n.2 + 12 + 0 ≤ 7293034 by omega)⟩ dL_law_1092 (fun r τ' hq => ?_)
  obtain ⟨hmi', hmV, h00, hres⟩ := hq
  have hun : ¬ T = 0 → mV τ' = mV τ := fun _ => hmV
  have hrm := fun h => (⟨hres h, VE.of_eq hmV⟩ : _ ∧ VE (mV τ') (mV τ))
  refine g_istore C.1 (loc' := [(6, .int (iZ r)), (5, .int (iZ T)), (4, .int (iZ i)), (3, .ref qo), (2, .ref (Lf 0)), (1, .ref (y.1 0 0 0)), (0, .ref b)]) C.2.1 dL_law_1095 (by decide) rfl ?_
  refine g_aload_n C.1 4 dL_law_1097 rfl rfl ?_
  refine s_callM C.1 (s_X5_thrown K.l Lf cf τ' trivial) (ci := 6) (q := (RX5, TX5, 17)) rfl m_recv (fun ht => cwV 0 ht gL_law_X5_thrown rfl rfl rfl (by decide +kernel) ⟨Nat.le_of_ble_eq_true rfl, Nat.le_of_ble_eq_true rfl⟩) rfl rfl (Nat.le_of_ble_eq_true rfl) ⟨(show n.1 + 2 + 0 + 0 ≤ 601024 by omega), (show n.2 + 12 + 0 + 0 ≤ 7293034 by omega)⟩ dL_law_1098 (fun r2 τ2 hq => ?_)
  obtain ⟨e2, e3⟩ := hq
  subst e3
  have hTm : T = (tTwo (mV τ) (Xv xs (i + 1)) (Xv xs (i + 2))) := hTd.trans (hve.t_Two (Xv xs (i + 1)) (Xv xs (i + 2))).symm
  rw [← hTm] at h00 hrm
  obtain rfl : r2 = T := e2.trans h00
  refine g_swap ?_
  refine g_iload C.1 1 dL_law_1101 rfl ?_
  refine l_same C.1 (tgt := 1108) dL_law_1103 (by decide) ?_
  refine g_iload C.1 1 dL_law_1108 rfl ?_
  have hT32 : in32 r2 := by rw [hTd]; unfold tTwo; first | exact t_r1 | exact t_r1' | exact t_r2 | exact t_r3
  refine g_if_ne C.1 (tgt := 1125) dL_law_1110 (by decide) hT32 (fun h0 => ?_) (fun h0 => ?_)
  · refine g_goto C.1 (tgt := 1672) dL_law_1125 (by decide) ?_
    refine g_sub [2, 3, 4, 5, 6] rfl ?_
    exact next (n.1 + 2 + 0 + 0, n.2 + 12 + 0 + 0) y' σ' fo' τ2 ⟨(show n.1 + 2 + 0 + 0 ≤ n.1 + 16 by omega), (show n.2 + 12 + 0 + 0 ≤ n.2 + 400 by omega)⟩ ⟨hy, he, hci', hmi', by rw [hun h0, hn h0]; exact hve⟩
  · obtain ⟨v, hf, hrc⟩ := hv h0
    have hJ := J_distance hve o9 (hTm.symm.trans h0) (hrm h0) hrc
    obtain ⟨rfl, hve2⟩ := hJ
    refine g_aload_n C.1 3 dL_law_1113 rfl rfl ?_
    refine g_iconst C.1 (z := 0) dL_law_1114 ?_
    refine g_mono (A := Sep (Sep (CL y' σ') (OUT qo co fo')) (MW Lf cf [] [] τ2)) (B := Sep (Sep (CL y' σ') (OUT qo co fo')) (MW Lf cf [] [] τ2)) (fun _ _ h => h) ?_
    refine g_swap ?_
    refine g_assoc' ?_
    refine o_lald C.1 dL_law_1115 ?_
    refine g_assoc ?_
    refine g_swap ?_
    refine g_iload C.1 0 dL_law_1116 rfl ?_
    refine s_i2l C.1 dL_law_1118 ?_
    refine l_lcmp C.1 hf dL_law_1119 ?_
    refine g_if_eq C.1 (tgt := 1125) dL_law_1120 (by decide) (by decide) (fun _ => ?_) (fun h => absurd rfl h)
    show G K (Sep (HW qo co ((y', σ'), fo')) (MW Lf cf [] [] τ2)) _ _ 1125 []
    refine g_goto C.1 (tgt := 1672) dL_law_1125 (by decide) ?_
    refine g_sub [2, 3, 4, 5, 6] rfl ?_
    exact next (n.1 + 2 + 0 + 0, n.2 + 12 + 0 + 0) y' σ' fo' τ2 ⟨(show n.1 + 2 + 0 + 0 ≤ n.1 + 16 by omega), (show n.2 + 12 + 0 + 0 ≤ n.2 + 400 by omega)⟩ ⟨hy, he, hci', hmi', hve2⟩
set_option maxRecDepth 100000 in
set_option maxHeartbeats 4000000 in
theorem lc_14 {K : KT} {b L emp qo qh : Nat} {xs : Nat → Int32} {co : ClassId} {Lf : Nat → Nat} {cf : Nat → ClassId} {y : LT} {σ : CS} {fo : Nat → Int64} {τ : MS} {n : Nat × Nat} {i : Int} (C : lwK K b L xs emp) (hI : lI qh emp y σ τ) (hr0 : n.1 + 16 ≤ 601024 ∧ n.2 + 400 ≤ 7293034) (hi : 0 ≤ i ∧ i + 6 ≤ (L : Int)) (next : lF K qo co Lf cf qh emp b n i) : G K (LW qo co Lf cf ((y, σ), fo) τ) n [(4, .int (iZ i)), (3, .ref qo), (2, .ref (Lf 0)), (1, .ref qh), (0, .ref b)] 1128 [] := by
  obtain ⟨rfl, rfl, hci, hmi, hve⟩ := hI
  have o9 := VO_m hmi.1
  show G K (Sep (HW qo co ((y, σ), fo)) (MW Lf cf [] [] τ)) n _ 1128 []
  refine g_aload_n C.1 3 dL_law_1128 rfl rfl ?_
  refine g_aload_n C.1 4 dL_law_1129 rfl rfl ?_
  refine g_iload C.1 0 dL_law_1130 rfl ?_
  refine g_iconst C.1 (z := 1) dL_law_1132 ?_
  refine g_iadd C.1 (x := i) (y := 1) dL_law_1133 ?_
  refine l_ld C (e := i + 1) (by omega) dL_law_1134 ?_
  refine g_aload_n C.1 4 dL_law_1135 rfl rfl ?_
  refine g_iload C.1 0 dL_law_1136 rfl ?_
  refine g_iconst C.1 (z := 2) dL_law_1138 ?_
  refine g_iadd C.1 (x := i) (y := 2) dL_law_1139 ?_
  refine l_ld C (e := i + 2) (by omega) dL_law_1140 ?_
  refine g_aload_n C.1 1 dL_law_1141 rfl rfl ?_
  refine s_callL C.1 C.2.2.1 C.2.2.2.1 C.2.2.2.2.1 (s_L_common y σ fo (Xv xs (i + 1)) (Xv xs (i + 2)) hci ⟨Xv_in xs _, Xv_in xs _⟩) (fun ht => vx_cwSW 4 ht gL_law_L_common rfl rfl rfl (by decide +kernel) ⟨Nat.le_of_ble_eq_true rfl, Nat.le_of_ble_eq_true rfl⟩) rfl rfl (Nat.le_of_ble_eq_true rfl) ⟨(show n.1 + 2 ≤ 601024 by omega), (show n.2 + 12 ≤ 7293034 by omega)⟩ dL_law_1142 (fun T u' hq => ?_)
  obtain ⟨⟨y', σ'⟩, fo'⟩ := u'
  obtain ⟨⟨hy, he⟩, hci', hTd, hv, hn⟩ := hq
  dsimp only at hy he hci' hv hn
  rw [← hTd] at hv hn
  refine g_istore C.1 (loc' := [(5, .int (iZ T)), (4, .int (iZ i)), (3, .ref qo), (2, .ref (Lf 0)), (1, .ref (y.1 0 0 0)), (0, .ref b)]) C.2.1 dL_law_1145 (by decide) rfl ?_
  refine g_aload_n C.1 3 dL_law_1147 rfl rfl ?_
  refine g_aload_n C.1 5 dL_law_1148 rfl rfl ?_
  refine g_iload C.1 1 dL_law_1149 rfl ?_
  refine g_iconst C.1 (z := 1) dL_law_1151 ?_
  refine g_iadd C.1 (x := i) (y := 1) dL_law_1152 ?_
  refine l_ld C (e := i + 1) (by omega) dL_law_1153 ?_
  refine g_aload_n C.1 5 dL_law_1154 rfl rfl ?_
  refine g_iload C.1 1 dL_law_1155 rfl ?_
  refine g_iconst C.1 (z := 2) dL_law_1157 ?_
  refine g_iadd C.1 (x := i) (y := 2) dL_law_1158 ?_
  refine l_ld C (e := i + 2) (by omega) dL_law_1159 ?_
  refine g_swap ?_
  refine s_callM C.1 (s_X5_common K.l Lf cf τ (Xv xs (i + 1)) (Xv xs (i + 2)) ⟨hmi, Xv_in xs _, Xv_in xs _⟩) (ci := 6) (q := (RX5, TX5, 17)) rfl m_recv (fun ht => cwV 2 ht gL_law_X5_common rfl rfl rfl (by decide +kernel) ⟨Nat.le_of_ble_eq_true rfl, Nat.le_of_ble_eq_true rfl⟩) rfl rfl (Nat.le_of_ble_eq_true rfl) ⟨(show n.1 + 2 + 0 ≤ 601024 by omega), (show n.2 + 12 + 0 ≤ 7293034 by omega)⟩ dL_law_1160 (fun r τ' hq => ?_)
  obtain ⟨hmi', hmV, h00, hres⟩ := hq
  have hun : ¬ T = 0 → mV τ' = mV τ := fun _ => hmV
  have hrm := fun h => (⟨hres h, VE.of_eq hmV⟩ : _ ∧ VE (mV τ') (mV τ))
  refine g_istore C.1 (loc' := [(6, .int (iZ r)), (5, .int (iZ T)), (4, .int (iZ i)), (3, .ref qo), (2, .ref (Lf 0)), (1, .ref (y.1 0 0 0)), (0, .ref b)]) C.2.1 dL_law_1163 (by decide) rfl ?_
  refine g_aload_n C.1 4 dL_law_1165 rfl rfl ?_
  refine s_callM C.1 (s_X5_thrown K.l Lf cf τ' trivial) (ci := 6) (q := (RX5, TX5, 17)) rfl m_recv (fun ht => cwV 0 ht gL_law_X5_thrown rfl rfl rfl (by decide +kernel) ⟨Nat.le_of_ble_eq_true rfl, Nat.le_of_ble_eq_true rfl⟩) rfl rfl (Nat.le_of_ble_eq_true rfl) ⟨(show n.1 + 2 + 0 + 0 ≤ 601024 by omega), (show n.2 + 12 + 0 + 0 ≤ 7293034 by omega)⟩ dL_law_1166 (fun r2 τ2 hq => ?_)
  obtain ⟨e2, e3⟩ := hq
  subst e3
  have hTm : T = (tTwo (mV τ) (Xv xs (i + 1)) (Xv xs (i + 2))) := hTd.trans (hve.t_Two (Xv xs (i + 1)) (Xv xs (i + 2))).symm
  rw [← hTm] at h00 hrm
  obtain rfl : r2 = T := e2.trans h00
  refine g_swap ?_
  refine g_iload C.1 1 dL_law_1169 rfl ?_
  refine l_same C.1 (tgt := 1176) dL_law_1171 (by decide) ?_
  refine g_iload C.1 1 dL_law_1176 rfl ?_
  have hT32 : in32 r2 := by rw [hTd]; unfold tTwo; first | exact t_r1 | exact t_r1' | exact t_r2 | exact t_r3
  refine g_if_ne C.1 (tgt := 1193) dL_law_1178 (by decide) hT32 (fun h0 => ?_) (fun h0 => ?_)
  · refine g_goto C.1 (tgt := 1672) dL_law_1193 (by decide) ?_
    refine g_sub [2, 3, 4, 5, 6] rfl ?_
    exact next (n.1 + 2 + 0 + 0, n.2 + 12 + 0 + 0) y' σ' fo' τ2 ⟨(show n.1 + 2 + 0 + 0 ≤ n.1 + 16 by omega), (show n.2 + 12 + 0 + 0 ≤ n.2 + 400 by omega)⟩ ⟨hy, he, hci', hmi', by rw [hun h0, hn h0]; exact hve⟩
  · obtain ⟨v, hf, hrc⟩ := hv h0
    have hJ := J_common hve o9 (hTm.symm.trans h0) (hrm h0) hrc
    obtain ⟨rfl, hve2⟩ := hJ
    refine g_aload_n C.1 3 dL_law_1181 rfl rfl ?_
    refine g_iconst C.1 (z := 0) dL_law_1182 ?_
    refine g_mono (A := Sep (Sep (CL y' σ') (OUT qo co fo')) (MW Lf cf [] [] τ2)) (B := Sep (Sep (CL y' σ') (OUT qo co fo')) (MW Lf cf [] [] τ2)) (fun _ _ h => h) ?_
    refine g_swap ?_
    refine g_assoc' ?_
    refine o_lald C.1 dL_law_1183 ?_
    refine g_assoc ?_
    refine g_swap ?_
    refine g_iload C.1 0 dL_law_1184 rfl ?_
    refine s_i2l C.1 dL_law_1186 ?_
    refine l_lcmp C.1 hf dL_law_1187 ?_
    refine g_if_eq C.1 (tgt := 1193) dL_law_1188 (by decide) (by decide) (fun _ => ?_) (fun h => absurd rfl h)
    show G K (Sep (HW qo co ((y', σ'), fo')) (MW Lf cf [] [] τ2)) _ _ 1193 []
    refine g_goto C.1 (tgt := 1672) dL_law_1193 (by decide) ?_
    refine g_sub [2, 3, 4, 5, 6] rfl ?_
    exact next (n.1 + 2 + 0 + 0, n.2 + 12 + 0 + 0) y' σ' fo' τ2 ⟨(show n.1 + 2 + 0 + 0 ≤ n.1 + 16 by omega), (show n.2 + 12 + 0 + 0 ≤ n.2 + 400 by omega)⟩ ⟨hy, he, hci', hmi', hve2⟩
set_option maxRecDepth 100000 in
set_option maxHeartbeats 4000000 in
theorem lc_15 {K : KT} {b L emp qo qh : Nat} {xs : Nat → Int32} {co : ClassId} {Lf : Nat → Nat} {cf : Nat → ClassId} {y : LT} {σ : CS} {fo : Nat → Int64} {τ : MS} {n : Nat × Nat} {i : Int} (C : lwK K b L xs emp) (hI : lI qh emp y σ τ) (hr0 : n.1 + 16 ≤ 601024 ∧ n.2 + 400 ≤ 7293034) (hi : 0 ≤ i ∧ i + 6 ≤ (L : Int)) (next : lF K qo co Lf cf qh emp b n i) : G K (LW qo co Lf cf ((y, σ), fo) τ) n [(4, .int (iZ i)), (3, .ref qo), (2, .ref (Lf 0)), (1, .ref qh), (0, .ref b)] 1196 [] := by
  obtain ⟨rfl, rfl, hci, hmi, hve⟩ := hI
  have o9 := VO_m hmi.1
  show G K (Sep (HW qo co ((y, σ), fo)) (MW Lf cf [] [] τ)) n _ 1196 []
  refine g_aload_n C.1 3 dL_law_1196 rfl rfl ?_
  refine g_aload_n C.1 4 dL_law_1197 rfl rfl ?_
  refine g_iload C.1 0 dL_law_1198 rfl ?_
  refine g_iconst C.1 (z := 1) dL_law_1200 ?_
  refine g_iadd C.1 (x := i) (y := 1) dL_law_1201 ?_
  refine l_ld C (e := i + 1) (by omega) dL_law_1202 ?_
  refine g_aload_n C.1 1 dL_law_1203 rfl rfl ?_
  refine s_callL C.1 C.2.2.1 C.2.2.2.1 C.2.2.2.2.1 (s_L_guess y σ fo (Xv xs (i + 1)) hci (Xv_in xs _)) (fun ht => vx_cwSW 3 ht gL_law_L_guess rfl rfl rfl (by decide +kernel) ⟨Nat.le_of_ble_eq_true rfl, Nat.le_of_ble_eq_true rfl⟩) rfl rfl (Nat.le_of_ble_eq_true rfl) ⟨(show n.1 + 1 ≤ 601024 by omega), (show n.2 + 6 ≤ 7293034 by omega)⟩ dL_law_1204 (fun T u' hq => ?_)
  obtain ⟨⟨y', σ'⟩, fo'⟩ := u'
  obtain ⟨⟨hy, he⟩, hci', hTd, hv, hn⟩ := hq
  dsimp only at hy he hci' hv hn
  rw [← hTd] at hv hn
  refine g_istore C.1 (loc' := [(5, .int (iZ T)), (4, .int (iZ i)), (3, .ref qo), (2, .ref (Lf 0)), (1, .ref (y.1 0 0 0)), (0, .ref b)]) C.2.1 dL_law_1207 (by decide) rfl ?_
  refine g_aload_n C.1 3 dL_law_1209 rfl rfl ?_
  refine g_aload_n C.1 5 dL_law_1210 rfl rfl ?_
  refine g_iload C.1 1 dL_law_1211 rfl ?_
  refine g_iconst C.1 (z := 1) dL_law_1213 ?_
  refine g_iadd C.1 (x := i) (y := 1) dL_law_1214 ?_
  refine l_ld C (e := i + 1) (by omega) dL_law_1215 ?_
  refine g_swap ?_
  refine s_callM C.1 (s_X5_guess K.l Lf cf τ (Xv xs (i + 1)) ⟨hmi, Xv_in xs _⟩) (ci := 6) (q := (RX5, TX5, 17)) rfl m_recv (fun ht => cwV 1 ht gL_law_X5_guess rfl rfl rfl (by decide +kernel) ⟨Nat.le_of_ble_eq_true rfl, Nat.le_of_ble_eq_true rfl⟩) rfl rfl (Nat.le_of_ble_eq_true rfl) ⟨(show n.1 + 1 + 0 ≤ 601024 by omega), (show n.2 + 6 + 0 ≤ 7293034 by omega)⟩ dL_law_1216 (fun r τ' hq => ?_)
  obtain ⟨hmi', hmV, h00, hres⟩ := hq
  have hun : ¬ T = 0 → mV τ' = mV τ := fun _ => hmV
  have hrm := fun h => (⟨hres h, VE.of_eq hmV⟩ : _ ∧ VE (mV τ') (mV τ))
  refine g_istore C.1 (loc' := [(6, .int (iZ r)), (5, .int (iZ T)), (4, .int (iZ i)), (3, .ref qo), (2, .ref (Lf 0)), (1, .ref (y.1 0 0 0)), (0, .ref b)]) C.2.1 dL_law_1219 (by decide) rfl ?_
  refine g_aload_n C.1 4 dL_law_1221 rfl rfl ?_
  refine s_callM C.1 (s_X5_thrown K.l Lf cf τ' trivial) (ci := 6) (q := (RX5, TX5, 17)) rfl m_recv (fun ht => cwV 0 ht gL_law_X5_thrown rfl rfl rfl (by decide +kernel) ⟨Nat.le_of_ble_eq_true rfl, Nat.le_of_ble_eq_true rfl⟩) rfl rfl (Nat.le_of_ble_eq_true rfl) ⟨(show n.1 + 1 + 0 + 0 ≤ 601024 by omega), (show n.2 + 6 + 0 + 0 ≤ 7293034 by omega)⟩ dL_law_1222 (fun r2 τ2 hq => ?_)
  obtain ⟨e2, e3⟩ := hq
  subst e3
  have hTm : T = (tOne (mV τ) (Xv xs (i + 1))) := hTd.trans (hve.t_One (Xv xs (i + 1))).symm
  rw [← hTm] at h00 hrm
  obtain rfl : r2 = T := e2.trans h00
  refine g_swap ?_
  refine g_iload C.1 1 dL_law_1225 rfl ?_
  refine l_same C.1 (tgt := 1232) dL_law_1227 (by decide) ?_
  refine g_iload C.1 1 dL_law_1232 rfl ?_
  have hT32 : in32 r2 := by rw [hTd]; unfold tOne; first | exact t_r1 | exact t_r1' | exact t_r2 | exact t_r3
  refine g_if_ne C.1 (tgt := 1249) dL_law_1234 (by decide) hT32 (fun h0 => ?_) (fun h0 => ?_)
  · refine g_goto C.1 (tgt := 1672) dL_law_1249 (by decide) ?_
    refine g_sub [2, 3, 4, 5, 6] rfl ?_
    exact next (n.1 + 1 + 0 + 0, n.2 + 6 + 0 + 0) y' σ' fo' τ2 ⟨(show n.1 + 1 + 0 + 0 ≤ n.1 + 16 by omega), (show n.2 + 6 + 0 + 0 ≤ n.2 + 400 by omega)⟩ ⟨hy, he, hci', hmi', by rw [hun h0, hn h0]; exact hve⟩
  · obtain ⟨v, hf, hrc⟩ := hv h0
    have hJ := J_guess hve o9 (hTm.symm.trans h0) (hrm h0) hrc
    obtain ⟨rfl, hve2⟩ := hJ
    refine g_aload_n C.1 3 dL_law_1237 rfl rfl ?_
    refine g_iconst C.1 (z := 0) dL_law_1238 ?_
    refine g_mono (A := Sep (Sep (CL y' σ') (OUT qo co fo')) (MW Lf cf [] [] τ2)) (B := Sep (Sep (CL y' σ') (OUT qo co fo')) (MW Lf cf [] [] τ2)) (fun _ _ h => h) ?_
    refine g_swap ?_
    refine g_assoc' ?_
    refine o_lald C.1 dL_law_1239 ?_
    refine g_assoc ?_
    refine g_swap ?_
    refine g_iload C.1 0 dL_law_1240 rfl ?_
    refine s_i2l C.1 dL_law_1242 ?_
    refine l_lcmp C.1 hf dL_law_1243 ?_
    refine g_if_eq C.1 (tgt := 1249) dL_law_1244 (by decide) (by decide) (fun _ => ?_) (fun h => absurd rfl h)
    show G K (Sep (HW qo co ((y', σ'), fo')) (MW Lf cf [] [] τ2)) _ _ 1249 []
    refine g_goto C.1 (tgt := 1672) dL_law_1249 (by decide) ?_
    refine g_sub [2, 3, 4, 5, 6] rfl ?_
    exact next (n.1 + 1 + 0 + 0, n.2 + 6 + 0 + 0) y' σ' fo' τ2 ⟨(show n.1 + 1 + 0 + 0 ≤ n.1 + 16 by omega), (show n.2 + 6 + 0 + 0 ≤ n.2 + 400 by omega)⟩ ⟨hy, he, hci', hmi', hve2⟩
set_option maxRecDepth 100000 in
set_option maxHeartbeats 4000000 in
theorem lc_16 {K : KT} {b L emp qo qh : Nat} {xs : Nat → Int32} {co : ClassId} {Lf : Nat → Nat} {cf : Nat → ClassId} {y : LT} {σ : CS} {fo : Nat → Int64} {τ : MS} {n : Nat × Nat} {i : Int} (C : lwK K b L xs emp) (hI : lI qh emp y σ τ) (hr0 : n.1 + 16 ≤ 601024 ∧ n.2 + 400 ≤ 7293034) (hi : 0 ≤ i ∧ i + 6 ≤ (L : Int)) (next : lF K qo co Lf cf qh emp b n i) : G K (LW qo co Lf cf ((y, σ), fo) τ) n [(4, .int (iZ i)), (3, .ref qo), (2, .ref (Lf 0)), (1, .ref qh), (0, .ref b)] 1252 [] := by
  obtain ⟨rfl, rfl, hci, hmi, hve⟩ := hI
  have o9 := VO_m hmi.1
  show G K (Sep (HW qo co ((y, σ), fo)) (MW Lf cf [] [] τ)) n _ 1252 []
  refine g_aload_n C.1 3 dL_law_1252 rfl rfl ?_
  refine g_aload_n C.1 4 dL_law_1253 rfl rfl ?_
  refine g_iload C.1 0 dL_law_1254 rfl ?_
  refine g_iconst C.1 (z := 1) dL_law_1256 ?_
  refine g_iadd C.1 (x := i) (y := 1) dL_law_1257 ?_
  refine l_ld C (e := i + 1) (by omega) dL_law_1258 ?_
  refine g_aload_n C.1 4 dL_law_1259 rfl rfl ?_
  refine g_iload C.1 0 dL_law_1260 rfl ?_
  refine g_iconst C.1 (z := 2) dL_law_1262 ?_
  refine g_iadd C.1 (x := i) (y := 2) dL_law_1263 ?_
  refine l_ld C (e := i + 2) (by omega) dL_law_1264 ?_
  refine g_aload_n C.1 4 dL_law_1265 rfl rfl ?_
  refine g_iload C.1 0 dL_law_1266 rfl ?_
  refine g_iconst C.1 (z := 3) dL_law_1268 ?_
  refine g_iadd C.1 (x := i) (y := 3) dL_law_1269 ?_
  refine l_ld C (e := i + 3) (by omega) dL_law_1270 ?_
  refine g_aload_n C.1 4 dL_law_1271 rfl rfl ?_
  refine g_iload C.1 0 dL_law_1272 rfl ?_
  refine g_iconst C.1 (z := 4) dL_law_1274 ?_
  refine g_iadd C.1 (x := i) (y := 4) dL_law_1275 ?_
  refine l_ld C (e := i + 4) (by omega) dL_law_1276 ?_
  refine g_aload_n C.1 1 dL_law_1277 rfl rfl ?_
  refine s_callL C.1 C.2.2.1 C.2.2.2.1 C.2.2.2.2.1 (s_L_find y σ fo (Xv xs (i + 1)) (Xv xs (i + 2)) (Xv xs (i + 3)) (Xv xs (i + 4)) hci ⟨Xv_in xs _, Xv_in xs _, Xv_in xs _, Xv_in xs _⟩) (fun ht => vx_cwSW 6 ht gL_law_L_find rfl rfl rfl (by decide +kernel) ⟨Nat.le_of_ble_eq_true rfl, Nat.le_of_ble_eq_true rfl⟩) rfl rfl (Nat.le_of_ble_eq_true rfl) ⟨(show n.1 + 2 ≤ 601024 by omega), (show n.2 + 12 ≤ 7293034 by omega)⟩ dL_law_1278 (fun T u' hq => ?_)
  obtain ⟨⟨y', σ'⟩, fo'⟩ := u'
  obtain ⟨⟨hy, he⟩, hci', hTd, hv, hn⟩ := hq
  dsimp only at hy he hci' hv hn
  rw [← hTd] at hv hn
  refine g_istore C.1 (loc' := [(5, .int (iZ T)), (4, .int (iZ i)), (3, .ref qo), (2, .ref (Lf 0)), (1, .ref (y.1 0 0 0)), (0, .ref b)]) C.2.1 dL_law_1281 (by decide) rfl ?_
  refine g_aload_n C.1 3 dL_law_1283 rfl rfl ?_
  refine g_aload_n C.1 5 dL_law_1284 rfl rfl ?_
  refine g_iload C.1 1 dL_law_1285 rfl ?_
  refine g_iconst C.1 (z := 1) dL_law_1287 ?_
  refine g_iadd C.1 (x := i) (y := 1) dL_law_1288 ?_
  refine l_ld C (e := i + 1) (by omega) dL_law_1289 ?_
  refine g_aload_n C.1 5 dL_law_1290 rfl rfl ?_
  refine g_iload C.1 1 dL_law_1291 rfl ?_
  refine g_iconst C.1 (z := 2) dL_law_1293 ?_
  refine g_iadd C.1 (x := i) (y := 2) dL_law_1294 ?_
  refine l_ld C (e := i + 2) (by omega) dL_law_1295 ?_
  refine g_aload_n C.1 5 dL_law_1296 rfl rfl ?_
  refine g_iload C.1 1 dL_law_1297 rfl ?_
  refine g_iconst C.1 (z := 3) dL_law_1299 ?_
  refine g_iadd C.1 (x := i) (y := 3) dL_law_1300 ?_
  refine l_ld C (e := i + 3) (by omega) dL_law_1301 ?_
  refine g_aload_n C.1 5 dL_law_1302 rfl rfl ?_
  refine g_iload C.1 1 dL_law_1303 rfl ?_
  refine g_iconst C.1 (z := 4) dL_law_1305 ?_
  refine g_iadd C.1 (x := i) (y := 4) dL_law_1306 ?_
  refine l_ld C (e := i + 4) (by omega) dL_law_1307 ?_
  refine g_swap ?_
  refine s_callM C.1 (s_X5_find K.l Lf cf τ (Xv xs (i + 1)) (Xv xs (i + 2)) (Xv xs (i + 3)) (Xv xs (i + 4)) ⟨hmi, Xv_in xs _, Xv_in xs _, Xv_in xs _, Xv_in xs _⟩) (ci := 6) (q := (RX5, TX5, 17)) rfl m_recv (fun ht => cwV 4 ht gL_law_X5_find rfl rfl rfl (by decide +kernel) ⟨Nat.le_of_ble_eq_true rfl, Nat.le_of_ble_eq_true rfl⟩) rfl rfl (Nat.le_of_ble_eq_true rfl) ⟨(show n.1 + 2 + 0 ≤ 601024 by omega), (show n.2 + 12 + 0 ≤ 7293034 by omega)⟩ dL_law_1308 (fun r τ' hq => ?_)
  obtain ⟨hmi', hmV, h00, hres⟩ := hq
  have hun : ¬ T = 0 → mV τ' = mV τ := fun _ => hmV
  have hrm := fun h => (⟨hres h, VE.of_eq hmV⟩ : _ ∧ VE (mV τ') (mV τ))
  refine g_istore C.1 (loc' := [(6, .int (iZ r)), (5, .int (iZ T)), (4, .int (iZ i)), (3, .ref qo), (2, .ref (Lf 0)), (1, .ref (y.1 0 0 0)), (0, .ref b)]) C.2.1 dL_law_1311 (by decide) rfl ?_
  refine g_aload_n C.1 4 dL_law_1313 rfl rfl ?_
  refine s_callM C.1 (s_X5_thrown K.l Lf cf τ' trivial) (ci := 6) (q := (RX5, TX5, 17)) rfl m_recv (fun ht => cwV 0 ht gL_law_X5_thrown rfl rfl rfl (by decide +kernel) ⟨Nat.le_of_ble_eq_true rfl, Nat.le_of_ble_eq_true rfl⟩) rfl rfl (Nat.le_of_ble_eq_true rfl) ⟨(show n.1 + 2 + 0 + 0 ≤ 601024 by omega), (show n.2 + 12 + 0 + 0 ≤ 7293034 by omega)⟩ dL_law_1314 (fun r2 τ2 hq => ?_)
  obtain ⟨e2, e3⟩ := hq
  subst e3
  have hTm : T = (tFind (mV τ) (Xv xs (i + 1)) (Xv xs (i + 2)) (Xv xs (i + 3)) (Xv xs (i + 4))) := hTd.trans (hve.t_Find (Xv xs (i + 1)) (Xv xs (i + 2)) (Xv xs (i + 3)) (Xv xs (i + 4))).symm
  rw [← hTm] at h00 hrm
  obtain rfl : r2 = T := e2.trans h00
  refine g_swap ?_
  refine g_iload C.1 1 dL_law_1317 rfl ?_
  refine l_same C.1 (tgt := 1324) dL_law_1319 (by decide) ?_
  refine g_iload C.1 1 dL_law_1324 rfl ?_
  have hT32 : in32 r2 := by rw [hTd]; unfold tFind; first | exact t_r1 | exact t_r1' | exact t_r2 | exact t_r3
  refine g_if_ne C.1 (tgt := 1341) dL_law_1326 (by decide) hT32 (fun h0 => ?_) (fun h0 => ?_)
  · refine g_goto C.1 (tgt := 1672) dL_law_1341 (by decide) ?_
    refine g_sub [2, 3, 4, 5, 6] rfl ?_
    exact next (n.1 + 2 + 0 + 0, n.2 + 12 + 0 + 0) y' σ' fo' τ2 ⟨(show n.1 + 2 + 0 + 0 ≤ n.1 + 16 by omega), (show n.2 + 12 + 0 + 0 ≤ n.2 + 400 by omega)⟩ ⟨hy, he, hci', hmi', by rw [hun h0, hn h0]; exact hve⟩
  · obtain ⟨v, hf, hrc⟩ := hv h0
    have hJ := J_find hve o9 (hTm.symm.trans h0) (hrm h0) hrc
    obtain ⟨rfl, hve2⟩ := hJ
    refine g_aload_n C.1 3 dL_law_1329 rfl rfl ?_
    refine g_iconst C.1 (z := 0) dL_law_1330 ?_
    refine g_mono (A := Sep (Sep (CL y' σ') (OUT qo co fo')) (MW Lf cf [] [] τ2)) (B := Sep (Sep (CL y' σ') (OUT qo co fo')) (MW Lf cf [] [] τ2)) (fun _ _ h => h) ?_
    refine g_swap ?_
    refine g_assoc' ?_
    refine o_lald C.1 dL_law_1331 ?_
    refine g_assoc ?_
    refine g_swap ?_
    refine g_iload C.1 0 dL_law_1332 rfl ?_
    refine s_i2l C.1 dL_law_1334 ?_
    refine l_lcmp C.1 hf dL_law_1335 ?_
    refine g_if_eq C.1 (tgt := 1341) dL_law_1336 (by decide) (by decide) (fun _ => ?_) (fun h => absurd rfl h)
    show G K (Sep (HW qo co ((y', σ'), fo')) (MW Lf cf [] [] τ2)) _ _ 1341 []
    refine g_goto C.1 (tgt := 1672) dL_law_1341 (by decide) ?_
    refine g_sub [2, 3, 4, 5, 6] rfl ?_
    exact next (n.1 + 2 + 0 + 0, n.2 + 12 + 0 + 0) y' σ' fo' τ2 ⟨(show n.1 + 2 + 0 + 0 ≤ n.1 + 16 by omega), (show n.2 + 12 + 0 + 0 ≤ n.2 + 400 by omega)⟩ ⟨hy, he, hci', hmi', hve2⟩
set_option maxRecDepth 100000 in
set_option maxHeartbeats 4000000 in
theorem lc_17 {K : KT} {b L emp qo qh : Nat} {xs : Nat → Int32} {co : ClassId} {Lf : Nat → Nat} {cf : Nat → ClassId} {y : LT} {σ : CS} {fo : Nat → Int64} {τ : MS} {n : Nat × Nat} {i : Int} (C : lwK K b L xs emp) (hI : lI qh emp y σ τ) (hr0 : n.1 + 16 ≤ 601024 ∧ n.2 + 400 ≤ 7293034) (hi : 0 ≤ i ∧ i + 6 ≤ (L : Int)) (next : lF K qo co Lf cf qh emp b n i) : G K (LW qo co Lf cf ((y, σ), fo) τ) n [(4, .int (iZ i)), (3, .ref qo), (2, .ref (Lf 0)), (1, .ref qh), (0, .ref b)] 1344 [] := by
  obtain ⟨rfl, rfl, hci, hmi, hve⟩ := hI
  have o9 := VO_m hmi.1
  show G K (Sep (Sep (CL y σ) (OUT qo co fo)) (MW Lf cf [] [] τ)) n _ 1344 []
  refine g_assoc ?_
  refine g_aload_n C.1 3 dL_law_1344 rfl rfl ?_
  refine s_callV C.1 C.2.2.1 C.2.2.2.2.1 (s_X4_voteLength K.l y σ hci) (ci := 5) (q := (RX4, TX4, 10)) rfl (c_recv rfl ⟨rfl, rfl⟩) (fun ht => cwV 0 ht gL_law_X4_voteLength rfl rfl rfl (by decide +kernel) ⟨Nat.le_of_ble_eq_true rfl, Nat.le_of_ble_eq_true rfl⟩) rfl rfl (Nat.le_of_ble_eq_true rfl) ⟨(show n.1 + 0 ≤ 601024 by omega), (show n.2 + 0 ≤ 7293034 by omega)⟩ dL_law_1345 (fun r σ' hq => ?_)
  obtain ⟨-, hr, hci', hcm⟩ := hq
  refine g_aload_n C.1 2 dL_law_1348 rfl rfl ?_
  refine g_assoc' ?_
  refine g_swap ?_
  refine s_callM C.1 (s_X5_voteLength K.l Lf cf τ hmi) (ci := 6) (q := (RX5, TX5, 17)) rfl m_recv (fun ht => cwV 0 ht gL_law_X5_voteLength rfl rfl rfl (by decide +kernel) ⟨Nat.le_of_ble_eq_true rfl, Nat.le_of_ble_eq_true rfl⟩) rfl rfl (Nat.le_of_ble_eq_true rfl) ⟨(show n.1 + 0 + 0 ≤ 601024 by omega), (show n.2 + 0 + 0 ≤ 7293034 by omega)⟩ dL_law_1349 (fun r2 τ2 hq => ?_)
  obtain ⟨hmi', hmV, -, hr2⟩ := hq
  have hr2 := hr2 rfl
  obtain rfl : r = r2 := by rw [hr, hr2, hve.len]
  refine l_same C.1 (tgt := 1672) dL_law_1352 (by decide) ?_
  refine g_swap ?_
  show G K (Sep (HW qo co ((y, σ'), fo)) (MW Lf cf [] [] τ2)) _ _ 1672 []
  refine g_sub [0, 1, 2, 3, 4] rfl ?_
  exact next (n.1 + 0 + 0, n.2 + 0 + 0) y σ' fo τ2 ⟨(show n.1 + 0 + 0 ≤ n.1 + 16 by omega), (show n.2 + 0 + 0 ≤ n.2 + 400 by omega)⟩ ⟨rfl, rfl, hci', hmi', by rw [hmV, cV_cm hcm]; exact hve⟩
set_option maxRecDepth 100000 in
set_option maxHeartbeats 4000000 in
theorem lc_18 {K : KT} {b L emp qo qh : Nat} {xs : Nat → Int32} {co : ClassId} {Lf : Nat → Nat} {cf : Nat → ClassId} {y : LT} {σ : CS} {fo : Nat → Int64} {τ : MS} {n : Nat × Nat} {i : Int} (C : lwK K b L xs emp) (hI : lI qh emp y σ τ) (hr0 : n.1 + 16 ≤ 601024 ∧ n.2 + 400 ≤ 7293034) (hi : 0 ≤ i ∧ i + 6 ≤ (L : Int)) (next : lF K qo co Lf cf qh emp b n i) : G K (LW qo co Lf cf ((y, σ), fo) τ) n [(4, .int (iZ i)), (3, .ref qo), (2, .ref (Lf 0)), (1, .ref qh), (0, .ref b)] 1357 [] := by
  obtain ⟨rfl, rfl, hci, hmi, hve⟩ := hI
  have o9 := VO_m hmi.1
  show G K (Sep (HW qo co ((y, σ), fo)) (MW Lf cf [] [] τ)) n _ 1357 []
  refine g_aload_n C.1 3 dL_law_1357 rfl rfl ?_
  refine g_aload_n C.1 4 dL_law_1358 rfl rfl ?_
  refine g_iload C.1 0 dL_law_1359 rfl ?_
  refine g_iconst C.1 (z := 1) dL_law_1361 ?_
  refine g_iadd C.1 (x := i) (y := 1) dL_law_1362 ?_
  refine l_ld C (e := i + 1) (by omega) dL_law_1363 ?_
  refine g_aload_n C.1 1 dL_law_1364 rfl rfl ?_
  refine s_callL C.1 C.2.2.1 C.2.2.2.1 C.2.2.2.2.1 (s_L_vote y σ fo (Xv xs (i + 1)) hci (Xv_in xs _)) (fun ht => vx_cwSW 3 ht gL_law_L_vote rfl rfl rfl (by decide +kernel) ⟨Nat.le_of_ble_eq_true rfl, Nat.le_of_ble_eq_true rfl⟩) rfl rfl (Nat.le_of_ble_eq_true rfl) ⟨(show n.1 + 1 ≤ 601024 by omega), (show n.2 + 6 ≤ 7293034 by omega)⟩ dL_law_1365 (fun T u' hq => ?_)
  obtain ⟨⟨y', σ'⟩, fo'⟩ := u'
  obtain ⟨⟨hy, he⟩, hci', hTd, hv, hn⟩ := hq
  dsimp only at hy he hci' hv hn
  rw [← hTd] at hv hn
  refine g_istore C.1 (loc' := [(5, .int (iZ T)), (4, .int (iZ i)), (3, .ref qo), (2, .ref (Lf 0)), (1, .ref (y.1 0 0 0)), (0, .ref b)]) C.2.1 dL_law_1368 (by decide) rfl ?_
  refine g_aload_n C.1 3 dL_law_1370 rfl rfl ?_
  refine g_aload_n C.1 5 dL_law_1371 rfl rfl ?_
  refine g_iload C.1 1 dL_law_1372 rfl ?_
  refine g_iconst C.1 (z := 1) dL_law_1374 ?_
  refine g_iadd C.1 (x := i) (y := 1) dL_law_1375 ?_
  refine l_ld C (e := i + 1) (by omega) dL_law_1376 ?_
  refine g_swap ?_
  refine s_callM C.1 (s_X5_vote K.l Lf cf τ (Xv xs (i + 1)) ⟨hmi, Xv_in xs _⟩) (ci := 6) (q := (RX5, TX5, 17)) rfl m_recv (fun ht => cwV 1 ht gL_law_X5_vote rfl rfl rfl (by decide +kernel) ⟨Nat.le_of_ble_eq_true rfl, Nat.le_of_ble_eq_true rfl⟩) rfl rfl (Nat.le_of_ble_eq_true rfl) ⟨(show n.1 + 1 + 0 ≤ 601024 by omega), (show n.2 + 6 + 0 ≤ 7293034 by omega)⟩ dL_law_1377 (fun r τ' hq => ?_)
  obtain ⟨hmi', hmV, h00, hres⟩ := hq
  have hun : ¬ T = 0 → mV τ' = mV τ := fun _ => hmV
  have hrm := fun h => (⟨hres h, VE.of_eq hmV⟩ : _ ∧ VE (mV τ') (mV τ))
  refine g_istore C.1 (loc' := [(6, .int (iZ r)), (5, .int (iZ T)), (4, .int (iZ i)), (3, .ref qo), (2, .ref (Lf 0)), (1, .ref (y.1 0 0 0)), (0, .ref b)]) C.2.1 dL_law_1380 (by decide) rfl ?_
  refine g_aload_n C.1 4 dL_law_1382 rfl rfl ?_
  refine s_callM C.1 (s_X5_thrown K.l Lf cf τ' trivial) (ci := 6) (q := (RX5, TX5, 17)) rfl m_recv (fun ht => cwV 0 ht gL_law_X5_thrown rfl rfl rfl (by decide +kernel) ⟨Nat.le_of_ble_eq_true rfl, Nat.le_of_ble_eq_true rfl⟩) rfl rfl (Nat.le_of_ble_eq_true rfl) ⟨(show n.1 + 1 + 0 + 0 ≤ 601024 by omega), (show n.2 + 6 + 0 + 0 ≤ 7293034 by omega)⟩ dL_law_1383 (fun r2 τ2 hq => ?_)
  obtain ⟨e2, e3⟩ := hq
  subst e3
  have hTm : T = (tVote (mV τ) (Xv xs (i + 1))) := hTd.trans (hve.t_Vote (Xv xs (i + 1))).symm
  rw [← hTm] at h00 hrm
  obtain rfl : r2 = T := e2.trans h00
  refine g_swap ?_
  refine g_iload C.1 1 dL_law_1386 rfl ?_
  refine l_same C.1 (tgt := 1393) dL_law_1388 (by decide) ?_
  refine g_iload C.1 1 dL_law_1393 rfl ?_
  have hT32 : in32 r2 := by rw [hTd]; unfold tVote; first | exact t_r1 | exact t_r1' | exact t_r2 | exact t_r3
  refine g_if_ne C.1 (tgt := 1410) dL_law_1395 (by decide) hT32 (fun h0 => ?_) (fun h0 => ?_)
  · refine g_goto C.1 (tgt := 1672) dL_law_1410 (by decide) ?_
    refine g_sub [2, 3, 4, 5, 6] rfl ?_
    exact next (n.1 + 1 + 0 + 0, n.2 + 6 + 0 + 0) y' σ' fo' τ2 ⟨(show n.1 + 1 + 0 + 0 ≤ n.1 + 16 by omega), (show n.2 + 6 + 0 + 0 ≤ n.2 + 400 by omega)⟩ ⟨hy, he, hci', hmi', by rw [hun h0, hn h0]; exact hve⟩
  · obtain ⟨v, hf, hrc⟩ := hv h0
    have hJ := J_vote hve o9 (hTm.symm.trans h0) (hrm h0) hrc
    obtain ⟨rfl, hve2⟩ := hJ
    refine g_aload_n C.1 3 dL_law_1398 rfl rfl ?_
    refine g_iconst C.1 (z := 0) dL_law_1399 ?_
    refine g_mono (A := Sep (Sep (CL y' σ') (OUT qo co fo')) (MW Lf cf [] [] τ2)) (B := Sep (Sep (CL y' σ') (OUT qo co fo')) (MW Lf cf [] [] τ2)) (fun _ _ h => h) ?_
    refine g_swap ?_
    refine g_assoc' ?_
    refine o_lald C.1 dL_law_1400 ?_
    refine g_assoc ?_
    refine g_swap ?_
    refine g_iload C.1 0 dL_law_1401 rfl ?_
    refine s_i2l C.1 dL_law_1403 ?_
    refine l_lcmp C.1 hf dL_law_1404 ?_
    refine g_if_eq C.1 (tgt := 1410) dL_law_1405 (by decide) (by decide) (fun _ => ?_) (fun h => absurd rfl h)
    show G K (Sep (HW qo co ((y', σ'), fo')) (MW Lf cf [] [] τ2)) _ _ 1410 []
    refine g_goto C.1 (tgt := 1672) dL_law_1410 (by decide) ?_
    refine g_sub [2, 3, 4, 5, 6] rfl ?_
    exact next (n.1 + 1 + 0 + 0, n.2 + 6 + 0 + 0) y' σ' fo' τ2 ⟨(show n.1 + 1 + 0 + 0 ≤ n.1 + 16 by omega), (show n.2 + 6 + 0 + 0 ≤ n.2 + 400 by omega)⟩ ⟨hy, he, hci', hmi', hve2⟩
set_option maxRecDepth 100000 in
set_option maxHeartbeats 4000000 in
theorem lc_19 {K : KT} {b L emp qo qh : Nat} {xs : Nat → Int32} {co : ClassId} {Lf : Nat → Nat} {cf : Nat → ClassId} {y : LT} {σ : CS} {fo : Nat → Int64} {τ : MS} {n : Nat × Nat} {i : Int} (C : lwK K b L xs emp) (hI : lI qh emp y σ τ) (hr0 : n.1 + 16 ≤ 601024 ∧ n.2 + 400 ≤ 7293034) (hi : 0 ≤ i ∧ i + 6 ≤ (L : Int)) (next : lF K qo co Lf cf qh emp b n i) : G K (LW qo co Lf cf ((y, σ), fo) τ) n [(4, .int (iZ i)), (3, .ref qo), (2, .ref (Lf 0)), (1, .ref qh), (0, .ref b)] 1413 [] := by
  obtain ⟨rfl, rfl, hci, hmi, hve⟩ := hI
  have o9 := VO_m hmi.1
  show G K (Sep (HW qo co ((y, σ), fo)) (MW Lf cf [] [] τ)) n _ 1413 []
  refine g_aload_n C.1 3 dL_law_1413 rfl rfl ?_
  refine g_aload_n C.1 4 dL_law_1414 rfl rfl ?_
  refine g_iload C.1 0 dL_law_1415 rfl ?_
  refine g_iconst C.1 (z := 1) dL_law_1417 ?_
  refine g_iadd C.1 (x := i) (y := 1) dL_law_1418 ?_
  refine l_ld C (e := i + 1) (by omega) dL_law_1419 ?_
  refine g_aload_n C.1 1 dL_law_1420 rfl rfl ?_
  refine s_callL C.1 C.2.2.1 C.2.2.2.1 C.2.2.2.2.1 (s_L_voteDistance y σ fo (Xv xs (i + 1)) hci (Xv_in xs _)) (fun ht => vx_cwSW 3 ht gL_law_L_voteDistance rfl rfl rfl (by decide +kernel) ⟨Nat.le_of_ble_eq_true rfl, Nat.le_of_ble_eq_true rfl⟩) rfl rfl (Nat.le_of_ble_eq_true rfl) ⟨(show n.1 + 1 ≤ 601024 by omega), (show n.2 + 6 ≤ 7293034 by omega)⟩ dL_law_1421 (fun T u' hq => ?_)
  obtain ⟨⟨y', σ'⟩, fo'⟩ := u'
  obtain ⟨⟨hy, he⟩, hci', hTd, hv, hn⟩ := hq
  dsimp only at hy he hci' hv hn
  rw [← hTd] at hv hn
  refine g_istore C.1 (loc' := [(5, .int (iZ T)), (4, .int (iZ i)), (3, .ref qo), (2, .ref (Lf 0)), (1, .ref (y.1 0 0 0)), (0, .ref b)]) C.2.1 dL_law_1424 (by decide) rfl ?_
  refine g_aload_n C.1 3 dL_law_1426 rfl rfl ?_
  refine g_aload_n C.1 5 dL_law_1427 rfl rfl ?_
  refine g_iload C.1 1 dL_law_1428 rfl ?_
  refine g_iconst C.1 (z := 1) dL_law_1430 ?_
  refine g_iadd C.1 (x := i) (y := 1) dL_law_1431 ?_
  refine l_ld C (e := i + 1) (by omega) dL_law_1432 ?_
  refine g_swap ?_
  refine s_callM C.1 (s_X5_voteDistance K.l Lf cf τ (Xv xs (i + 1)) ⟨hmi, Xv_in xs _⟩) (ci := 6) (q := (RX5, TX5, 17)) rfl m_recv (fun ht => cwV 1 ht gL_law_X5_voteDistance rfl rfl rfl (by decide +kernel) ⟨Nat.le_of_ble_eq_true rfl, Nat.le_of_ble_eq_true rfl⟩) rfl rfl (Nat.le_of_ble_eq_true rfl) ⟨(show n.1 + 1 + 0 ≤ 601024 by omega), (show n.2 + 6 + 0 ≤ 7293034 by omega)⟩ dL_law_1433 (fun r τ' hq => ?_)
  obtain ⟨hmi', hmV, h00, hres⟩ := hq
  have hun : ¬ T = 0 → mV τ' = mV τ := fun _ => hmV
  have hrm := fun h => (⟨hres h, VE.of_eq hmV⟩ : _ ∧ VE (mV τ') (mV τ))
  refine g_istore C.1 (loc' := [(6, .int (iZ r)), (5, .int (iZ T)), (4, .int (iZ i)), (3, .ref qo), (2, .ref (Lf 0)), (1, .ref (y.1 0 0 0)), (0, .ref b)]) C.2.1 dL_law_1436 (by decide) rfl ?_
  refine g_aload_n C.1 4 dL_law_1438 rfl rfl ?_
  refine s_callM C.1 (s_X5_thrown K.l Lf cf τ' trivial) (ci := 6) (q := (RX5, TX5, 17)) rfl m_recv (fun ht => cwV 0 ht gL_law_X5_thrown rfl rfl rfl (by decide +kernel) ⟨Nat.le_of_ble_eq_true rfl, Nat.le_of_ble_eq_true rfl⟩) rfl rfl (Nat.le_of_ble_eq_true rfl) ⟨(show n.1 + 1 + 0 + 0 ≤ 601024 by omega), (show n.2 + 6 + 0 + 0 ≤ 7293034 by omega)⟩ dL_law_1439 (fun r2 τ2 hq => ?_)
  obtain ⟨e2, e3⟩ := hq
  subst e3
  have hTm : T = (tOne (mV τ) (Xv xs (i + 1))) := hTd.trans (hve.t_One (Xv xs (i + 1))).symm
  rw [← hTm] at h00 hrm
  obtain rfl : r2 = T := e2.trans h00
  refine g_swap ?_
  refine g_iload C.1 1 dL_law_1442 rfl ?_
  refine l_same C.1 (tgt := 1449) dL_law_1444 (by decide) ?_
  refine g_iload C.1 1 dL_law_1449 rfl ?_
  have hT32 : in32 r2 := by rw [hTd]; unfold tOne; first | exact t_r1 | exact t_r1' | exact t_r2 | exact t_r3
  refine g_if_ne C.1 (tgt := 1466) dL_law_1451 (by decide) hT32 (fun h0 => ?_) (fun h0 => ?_)
  · refine g_goto C.1 (tgt := 1672) dL_law_1466 (by decide) ?_
    refine g_sub [2, 3, 4, 5, 6] rfl ?_
    exact next (n.1 + 1 + 0 + 0, n.2 + 6 + 0 + 0) y' σ' fo' τ2 ⟨(show n.1 + 1 + 0 + 0 ≤ n.1 + 16 by omega), (show n.2 + 6 + 0 + 0 ≤ n.2 + 400 by omega)⟩ ⟨hy, he, hci', hmi', by rw [hun h0, hn h0]; exact hve⟩
  · obtain ⟨v, hf, hrc⟩ := hv h0
    have hJ := J_voteDistance hve o9 (hTm.symm.trans h0) (hrm h0) hrc
    obtain ⟨rfl, hve2⟩ := hJ
    refine g_aload_n C.1 3 dL_law_1454 rfl rfl ?_
    refine g_iconst C.1 (z := 0) dL_law_1455 ?_
    refine g_mono (A := Sep (Sep (CL y' σ') (OUT qo co fo')) (MW Lf cf [] [] τ2)) (B := Sep (Sep (CL y' σ') (OUT qo co fo')) (MW Lf cf [] [] τ2)) (fun _ _ h => h) ?_
    refine g_swap ?_
    refine g_assoc' ?_
    refine o_lald C.1 dL_law_1456 ?_
    refine g_assoc ?_
    refine g_swap ?_
    refine g_iload C.1 0 dL_law_1457 rfl ?_
    refine s_i2l C.1 dL_law_1459 ?_
    refine l_lcmp C.1 hf dL_law_1460 ?_
    refine g_if_eq C.1 (tgt := 1466) dL_law_1461 (by decide) (by decide) (fun _ => ?_) (fun h => absurd rfl h)
    show G K (Sep (HW qo co ((y', σ'), fo')) (MW Lf cf [] [] τ2)) _ _ 1466 []
    refine g_goto C.1 (tgt := 1672) dL_law_1466 (by decide) ?_
    refine g_sub [2, 3, 4, 5, 6] rfl ?_
    exact next (n.1 + 1 + 0 + 0, n.2 + 6 + 0 + 0) y' σ' fo' τ2 ⟨(show n.1 + 1 + 0 + 0 ≤ n.1 + 16 by omega), (show n.2 + 6 + 0 + 0 ≤ n.2 + 400 by omega)⟩ ⟨hy, he, hci', hmi', hve2⟩
set_option maxRecDepth 100000 in
set_option maxHeartbeats 4000000 in
theorem lc_20 {K : KT} {b L emp qo qh : Nat} {xs : Nat → Int32} {co : ClassId} {Lf : Nat → Nat} {cf : Nat → ClassId} {y : LT} {σ : CS} {fo : Nat → Int64} {τ : MS} {n : Nat × Nat} {i : Int} (C : lwK K b L xs emp) (hI : lI qh emp y σ τ) (hr0 : n.1 + 16 ≤ 601024 ∧ n.2 + 400 ≤ 7293034) (hi : 0 ≤ i ∧ i + 6 ≤ (L : Int)) (next : lF K qo co Lf cf qh emp b n i) : G K (LW qo co Lf cf ((y, σ), fo) τ) n [(4, .int (iZ i)), (3, .ref qo), (2, .ref (Lf 0)), (1, .ref qh), (0, .ref b)] 1469 [] := by
  obtain ⟨rfl, rfl, hci, hmi, hve⟩ := hI
  have o9 := VO_m hmi.1
  show G K (Sep (HW qo co ((y, σ), fo)) (MW Lf cf [] [] τ)) n _ 1469 []
  refine g_aload_n C.1 3 dL_law_1469 rfl rfl ?_
  refine g_aload_n C.1 4 dL_law_1470 rfl rfl ?_
  refine g_iload C.1 0 dL_law_1471 rfl ?_
  refine g_iconst C.1 (z := 1) dL_law_1473 ?_
  refine g_iadd C.1 (x := i) (y := 1) dL_law_1474 ?_
  refine l_ld C (e := i + 1) (by omega) dL_law_1475 ?_
  refine g_aload_n C.1 4 dL_law_1476 rfl rfl ?_
  refine g_iload C.1 0 dL_law_1477 rfl ?_
  refine g_iconst C.1 (z := 2) dL_law_1479 ?_
  refine g_iadd C.1 (x := i) (y := 2) dL_law_1480 ?_
  refine l_ld C (e := i + 2) (by omega) dL_law_1481 ?_
  refine g_aload_n C.1 4 dL_law_1482 rfl rfl ?_
  refine g_iload C.1 0 dL_law_1483 rfl ?_
  refine g_iconst C.1 (z := 3) dL_law_1485 ?_
  refine g_iadd C.1 (x := i) (y := 3) dL_law_1486 ?_
  refine l_ld C (e := i + 3) (by omega) dL_law_1487 ?_
  refine g_aload_n C.1 4 dL_law_1488 rfl rfl ?_
  refine g_iload C.1 0 dL_law_1489 rfl ?_
  refine g_iconst C.1 (z := 4) dL_law_1491 ?_
  refine g_iadd C.1 (x := i) (y := 4) dL_law_1492 ?_
  refine l_ld C (e := i + 4) (by omega) dL_law_1493 ?_
  refine g_aload_n C.1 1 dL_law_1494 rfl rfl ?_
  refine s_callL C.1 C.2.2.1 C.2.2.2.1 C.2.2.2.2.1 (s_L_trial y σ fo (Xv xs (i + 1)) (Xv xs (i + 2)) (Xv xs (i + 3)) (Xv xs (i + 4)) hci ⟨Xv_in xs _, Xv_in xs _, Xv_in xs _, Xv_in xs _⟩) (fun ht => vx_cwSW 6 ht gL_law_L_trial rfl rfl rfl (by decide +kernel) ⟨Nat.le_of_ble_eq_true rfl, Nat.le_of_ble_eq_true rfl⟩) rfl rfl (Nat.le_of_ble_eq_true rfl) ⟨(show n.1 + 3 ≤ 601024 by omega), (show n.2 + 18 ≤ 7293034 by omega)⟩ dL_law_1495 (fun T u' hq => ?_)
  obtain ⟨⟨y', σ'⟩, fo'⟩ := u'
  obtain ⟨⟨hy, he⟩, hci', hTd, hv, hn⟩ := hq
  dsimp only at hy he hci' hv hn
  rw [← hTd] at hv hn
  refine g_istore C.1 (loc' := [(5, .int (iZ T)), (4, .int (iZ i)), (3, .ref qo), (2, .ref (Lf 0)), (1, .ref (y.1 0 0 0)), (0, .ref b)]) C.2.1 dL_law_1498 (by decide) rfl ?_
  refine g_aload_n C.1 3 dL_law_1500 rfl rfl ?_
  refine g_aload_n C.1 5 dL_law_1501 rfl rfl ?_
  refine g_iload C.1 1 dL_law_1502 rfl ?_
  refine g_iconst C.1 (z := 1) dL_law_1504 ?_
  refine g_iadd C.1 (x := i) (y := 1) dL_law_1505 ?_
  refine l_ld C (e := i + 1) (by omega) dL_law_1506 ?_
  refine g_aload_n C.1 5 dL_law_1507 rfl rfl ?_
  refine g_iload C.1 1 dL_law_1508 rfl ?_
  refine g_iconst C.1 (z := 2) dL_law_1510 ?_
  refine g_iadd C.1 (x := i) (y := 2) dL_law_1511 ?_
  refine l_ld C (e := i + 2) (by omega) dL_law_1512 ?_
  refine g_aload_n C.1 5 dL_law_1513 rfl rfl ?_
  refine g_iload C.1 1 dL_law_1514 rfl ?_
  refine g_iconst C.1 (z := 3) dL_law_1516 ?_
  refine g_iadd C.1 (x := i) (y := 3) dL_law_1517 ?_
  refine l_ld C (e := i + 3) (by omega) dL_law_1518 ?_
  refine g_aload_n C.1 5 dL_law_1519 rfl rfl ?_
  refine g_iload C.1 1 dL_law_1520 rfl ?_
  refine g_iconst C.1 (z := 4) dL_law_1522 ?_
  refine g_iadd C.1 (x := i) (y := 4) dL_law_1523 ?_
  refine l_ld C (e := i + 4) (by omega) dL_law_1524 ?_
  refine g_swap ?_
  refine s_callM C.1 (s_X5_trial K.l Lf cf τ (Xv xs (i + 1)) (Xv xs (i + 2)) (Xv xs (i + 3)) (Xv xs (i + 4)) ⟨hmi, Xv_in xs _, Xv_in xs _, Xv_in xs _, Xv_in xs _⟩) (ci := 6) (q := (RX5, TX5, 17)) rfl m_recv (fun ht => cwV 4 ht gL_law_X5_trial rfl rfl rfl (by decide +kernel) ⟨Nat.le_of_ble_eq_true rfl, Nat.le_of_ble_eq_true rfl⟩) rfl rfl (Nat.le_of_ble_eq_true rfl) ⟨(show n.1 + 3 + 0 ≤ 601024 by omega), (show n.2 + 18 + 0 ≤ 7293034 by omega)⟩ dL_law_1525 (fun r τ' hq => ?_)
  obtain ⟨hmi', hmV, h00, hres⟩ := hq
  have hun : ¬ T = 0 → mV τ' = mV τ := fun _ => hmV
  have hrm := fun h => (⟨hres h, VE.of_eq hmV⟩ : _ ∧ VE (mV τ') (mV τ))
  refine g_istore C.1 (loc' := [(6, .int (iZ r)), (5, .int (iZ T)), (4, .int (iZ i)), (3, .ref qo), (2, .ref (Lf 0)), (1, .ref (y.1 0 0 0)), (0, .ref b)]) C.2.1 dL_law_1528 (by decide) rfl ?_
  refine g_aload_n C.1 4 dL_law_1530 rfl rfl ?_
  refine s_callM C.1 (s_X5_thrown K.l Lf cf τ' trivial) (ci := 6) (q := (RX5, TX5, 17)) rfl m_recv (fun ht => cwV 0 ht gL_law_X5_thrown rfl rfl rfl (by decide +kernel) ⟨Nat.le_of_ble_eq_true rfl, Nat.le_of_ble_eq_true rfl⟩) rfl rfl (Nat.le_of_ble_eq_true rfl) ⟨(show n.1 + 3 + 0 + 0 ≤ 601024 by omega), (show n.2 + 18 + 0 + 0 ≤ 7293034 by omega)⟩ dL_law_1531 (fun r2 τ2 hq => ?_)
  obtain ⟨e2, e3⟩ := hq
  subst e3
  have hTm : T = (tTrial (mV τ) (Xv xs (i + 1)) (Xv xs (i + 2)) (Xv xs (i + 3)) (Xv xs (i + 4))) := hTd.trans (hve.t_Trial (Xv xs (i + 1)) (Xv xs (i + 2)) (Xv xs (i + 3)) (Xv xs (i + 4))).symm
  rw [← hTm] at h00 hrm
  obtain rfl : r2 = T := e2.trans h00
  refine g_swap ?_
  refine g_iload C.1 1 dL_law_1534 rfl ?_
  refine l_same C.1 (tgt := 1541) dL_law_1536 (by decide) ?_
  refine g_iload C.1 1 dL_law_1541 rfl ?_
  have hT32 : in32 r2 := by rw [hTd]; unfold tTrial; first | exact t_r1 | exact t_r1' | exact t_r2 | exact t_r3
  refine g_if_ne C.1 (tgt := 1558) dL_law_1543 (by decide) hT32 (fun h0 => ?_) (fun h0 => ?_)
  · refine g_goto C.1 (tgt := 1672) dL_law_1558 (by decide) ?_
    refine g_sub [2, 3, 4, 5, 6] rfl ?_
    exact next (n.1 + 3 + 0 + 0, n.2 + 18 + 0 + 0) y' σ' fo' τ2 ⟨(show n.1 + 3 + 0 + 0 ≤ n.1 + 16 by omega), (show n.2 + 18 + 0 + 0 ≤ n.2 + 400 by omega)⟩ ⟨hy, he, hci', hmi', by rw [hun h0, hn h0]; exact hve⟩
  · obtain ⟨v, hf, hrc⟩ := hv h0
    have hJ := J_trial hve o9 (hTm.symm.trans h0) (hrm h0) hrc
    obtain ⟨rfl, hve2⟩ := hJ
    refine g_aload_n C.1 3 dL_law_1546 rfl rfl ?_
    refine g_iconst C.1 (z := 0) dL_law_1547 ?_
    refine g_mono (A := Sep (Sep (CL y' σ') (OUT qo co fo')) (MW Lf cf [] [] τ2)) (B := Sep (Sep (CL y' σ') (OUT qo co fo')) (MW Lf cf [] [] τ2)) (fun _ _ h => h) ?_
    refine g_swap ?_
    refine g_assoc' ?_
    refine o_lald C.1 dL_law_1548 ?_
    refine g_assoc ?_
    refine g_swap ?_
    refine g_iload C.1 0 dL_law_1549 rfl ?_
    refine s_i2l C.1 dL_law_1551 ?_
    refine l_lcmp C.1 hf dL_law_1552 ?_
    refine g_if_eq C.1 (tgt := 1558) dL_law_1553 (by decide) (by decide) (fun _ => ?_) (fun h => absurd rfl h)
    show G K (Sep (HW qo co ((y', σ'), fo')) (MW Lf cf [] [] τ2)) _ _ 1558 []
    refine g_goto C.1 (tgt := 1672) dL_law_1558 (by decide) ?_
    refine g_sub [2, 3, 4, 5, 6] rfl ?_
    exact next (n.1 + 3 + 0 + 0, n.2 + 18 + 0 + 0) y' σ' fo' τ2 ⟨(show n.1 + 3 + 0 + 0 ≤ n.1 + 16 by omega), (show n.2 + 18 + 0 + 0 ≤ n.2 + 400 by omega)⟩ ⟨hy, he, hci', hmi', hve2⟩
set_option maxRecDepth 100000 in
set_option maxHeartbeats 4000000 in
theorem lc_21 {K : KT} {b L emp qo qh : Nat} {xs : Nat → Int32} {co : ClassId} {Lf : Nat → Nat} {cf : Nat → ClassId} {y : LT} {σ : CS} {fo : Nat → Int64} {τ : MS} {n : Nat × Nat} {i : Int} (C : lwK K b L xs emp) (hI : lI qh emp y σ τ) (hr0 : n.1 + 16 ≤ 601024 ∧ n.2 + 400 ≤ 7293034) (hi : 0 ≤ i ∧ i + 6 ≤ (L : Int)) (next : lF K qo co Lf cf qh emp b n i) : G K (LW qo co Lf cf ((y, σ), fo) τ) n [(4, .int (iZ i)), (3, .ref qo), (2, .ref (Lf 0)), (1, .ref qh), (0, .ref b)] 1561 [] := by
  obtain ⟨rfl, rfl, hci, hmi, hve⟩ := hI
  have o9 := VO_m hmi.1
  show G K (Sep (HW qo co ((y, σ), fo)) (MW Lf cf [] [] τ)) n _ 1561 []
  refine g_aload_n C.1 3 dL_law_1561 rfl rfl ?_
  refine g_aload_n C.1 4 dL_law_1562 rfl rfl ?_
  refine g_iload C.1 0 dL_law_1563 rfl ?_
  refine g_iconst C.1 (z := 1) dL_law_1565 ?_
  refine g_iadd C.1 (x := i) (y := 1) dL_law_1566 ?_
  refine l_ld C (e := i + 1) (by omega) dL_law_1567 ?_
  refine g_aload_n C.1 1 dL_law_1568 rfl rfl ?_
  refine s_callL C.1 C.2.2.1 C.2.2.2.1 C.2.2.2.2.1 (s_L_advise y σ fo (Xv xs (i + 1)) hci (Xv_in xs _)) (fun ht => vx_cwSW 3 ht gL_law_L_advise rfl rfl rfl (by decide +kernel) ⟨Nat.le_of_ble_eq_true rfl, Nat.le_of_ble_eq_true rfl⟩) rfl rfl (Nat.le_of_ble_eq_true rfl) ⟨(show n.1 + 2 ≤ 601024 by omega), (show n.2 + 12 ≤ 7293034 by omega)⟩ dL_law_1569 (fun T u' hq => ?_)
  obtain ⟨⟨y', σ'⟩, fo'⟩ := u'
  obtain ⟨⟨hy, he⟩, hci', hTd, hv, hn⟩ := hq
  dsimp only at hy he hci' hv hn
  rw [← hTd] at hv hn
  refine g_istore C.1 (loc' := [(5, .int (iZ T)), (4, .int (iZ i)), (3, .ref qo), (2, .ref (Lf 0)), (1, .ref (y.1 0 0 0)), (0, .ref b)]) C.2.1 dL_law_1572 (by decide) rfl ?_
  refine g_aload_n C.1 3 dL_law_1574 rfl rfl ?_
  refine g_aload_n C.1 5 dL_law_1575 rfl rfl ?_
  refine g_iload C.1 1 dL_law_1576 rfl ?_
  refine g_iconst C.1 (z := 1) dL_law_1578 ?_
  refine g_iadd C.1 (x := i) (y := 1) dL_law_1579 ?_
  refine l_ld C (e := i + 1) (by omega) dL_law_1580 ?_
  refine g_swap ?_
  refine s_callM C.1 (s_X5_advise K.l Lf cf τ (Xv xs (i + 1)) ⟨hmi, Xv_in xs _⟩) (ci := 6) (q := (RX5, TX5, 17)) rfl m_recv (fun ht => cwV 1 ht gL_law_X5_advise rfl rfl rfl (by decide +kernel) ⟨Nat.le_of_ble_eq_true rfl, Nat.le_of_ble_eq_true rfl⟩) rfl rfl (Nat.le_of_ble_eq_true rfl) ⟨(show n.1 + 2 + 0 ≤ 601024 by omega), (show n.2 + 12 + 0 ≤ 7293034 by omega)⟩ dL_law_1581 (fun r τ' hq => ?_)
  obtain ⟨hmi', hmV, h00, hres⟩ := hq
  have hun : ¬ T = 0 → mV τ' = mV τ := fun _ => hmV
  have hrm := fun h => (⟨hres h, VE.of_eq hmV⟩ : _ ∧ VE (mV τ') (mV τ))
  refine g_istore C.1 (loc' := [(6, .int (iZ r)), (5, .int (iZ T)), (4, .int (iZ i)), (3, .ref qo), (2, .ref (Lf 0)), (1, .ref (y.1 0 0 0)), (0, .ref b)]) C.2.1 dL_law_1584 (by decide) rfl ?_
  refine g_aload_n C.1 4 dL_law_1586 rfl rfl ?_
  refine s_callM C.1 (s_X5_thrown K.l Lf cf τ' trivial) (ci := 6) (q := (RX5, TX5, 17)) rfl m_recv (fun ht => cwV 0 ht gL_law_X5_thrown rfl rfl rfl (by decide +kernel) ⟨Nat.le_of_ble_eq_true rfl, Nat.le_of_ble_eq_true rfl⟩) rfl rfl (Nat.le_of_ble_eq_true rfl) ⟨(show n.1 + 2 + 0 + 0 ≤ 601024 by omega), (show n.2 + 12 + 0 + 0 ≤ 7293034 by omega)⟩ dL_law_1587 (fun r2 τ2 hq => ?_)
  obtain ⟨e2, e3⟩ := hq
  subst e3
  have hTm : T = (tAdvise (mV τ) (Xv xs (i + 1))) := hTd.trans (hve.t_Advise (Xv xs (i + 1))).symm
  rw [← hTm] at h00 hrm
  obtain rfl : r2 = T := e2.trans h00
  refine g_swap ?_
  refine g_iload C.1 1 dL_law_1590 rfl ?_
  refine l_same C.1 (tgt := 1597) dL_law_1592 (by decide) ?_
  refine g_iload C.1 1 dL_law_1597 rfl ?_
  have hT32 : in32 r2 := by rw [hTd]; unfold tAdvise; first | exact t_r1 | exact t_r1' | exact t_r2 | exact t_r3
  refine g_if_ne C.1 (tgt := 1614) dL_law_1599 (by decide) hT32 (fun h0 => ?_) (fun h0 => ?_)
  · refine g_goto C.1 (tgt := 1672) dL_law_1614 (by decide) ?_
    refine g_sub [2, 3, 4, 5, 6] rfl ?_
    exact next (n.1 + 2 + 0 + 0, n.2 + 12 + 0 + 0) y' σ' fo' τ2 ⟨(show n.1 + 2 + 0 + 0 ≤ n.1 + 16 by omega), (show n.2 + 12 + 0 + 0 ≤ n.2 + 400 by omega)⟩ ⟨hy, he, hci', hmi', by rw [hun h0, hn h0]; exact hve⟩
  · obtain ⟨v, hf, hrc⟩ := hv h0
    have hJ := J_advise hve o9 (hTm.symm.trans h0) (hrm h0) hrc
    obtain ⟨rfl, hve2⟩ := hJ
    refine g_aload_n C.1 3 dL_law_1602 rfl rfl ?_
    refine g_iconst C.1 (z := 0) dL_law_1603 ?_
    refine g_mono (A := Sep (Sep (CL y' σ') (OUT qo co fo')) (MW Lf cf [] [] τ2)) (B := Sep (Sep (CL y' σ') (OUT qo co fo')) (MW Lf cf [] [] τ2)) (fun _ _ h => h) ?_
    refine g_swap ?_
    refine g_assoc' ?_
    refine o_lald C.1 dL_law_1604 ?_
    refine g_assoc ?_
    refine g_swap ?_
    refine g_iload C.1 0 dL_law_1605 rfl ?_
    refine s_i2l C.1 dL_law_1607 ?_
    refine l_lcmp C.1 hf dL_law_1608 ?_
    refine g_if_eq C.1 (tgt := 1614) dL_law_1609 (by decide) (by decide) (fun _ => ?_) (fun h => absurd rfl h)
    show G K (Sep (HW qo co ((y', σ'), fo')) (MW Lf cf [] [] τ2)) _ _ 1614 []
    refine g_goto C.1 (tgt := 1672) dL_law_1614 (by decide) ?_
    refine g_sub [2, 3, 4, 5, 6] rfl ?_
    exact next (n.1 + 2 + 0 + 0, n.2 + 12 + 0 + 0) y' σ' fo' τ2 ⟨(show n.1 + 2 + 0 + 0 ≤ n.1 + 16 by omega), (show n.2 + 12 + 0 + 0 ≤ n.2 + 400 by omega)⟩ ⟨hy, he, hci', hmi', hve2⟩
set_option maxRecDepth 100000 in
set_option maxHeartbeats 4000000 in
theorem lc_22 {K : KT} {b L emp qo qh : Nat} {xs : Nat → Int32} {co : ClassId} {Lf : Nat → Nat} {cf : Nat → ClassId} {y : LT} {σ : CS} {fo : Nat → Int64} {τ : MS} {n : Nat × Nat} {i : Int} (C : lwK K b L xs emp) (hI : lI qh emp y σ τ) (hr0 : n.1 + 16 ≤ 601024 ∧ n.2 + 400 ≤ 7293034) (hi : 0 ≤ i ∧ i + 6 ≤ (L : Int)) (next : lF K qo co Lf cf qh emp b n i) : G K (LW qo co Lf cf ((y, σ), fo) τ) n [(4, .int (iZ i)), (3, .ref qo), (2, .ref (Lf 0)), (1, .ref qh), (0, .ref b)] 1617 [] := by
  obtain ⟨rfl, rfl, hci, hmi, hve⟩ := hI
  have o9 := VO_m hmi.1
  show G K (Sep (Sep (CL y σ) (OUT qo co fo)) (MW Lf cf [] [] τ)) n _ 1617 []
  refine g_assoc ?_
  refine g_aload_n C.1 3 dL_law_1617 rfl rfl ?_
  refine s_callV C.1 C.2.2.1 C.2.2.2.2.1 (s_X4_decay K.l y σ hci) (ci := 5) (q := (RX4, TX4, 10)) rfl (c_recv rfl ⟨rfl, rfl⟩) (fun ht => cwV 0 ht gL_law_X4_decay rfl rfl rfl (by decide +kernel) ⟨Nat.le_of_ble_eq_true rfl, Nat.le_of_ble_eq_true rfl⟩) rfl rfl (Nat.le_of_ble_eq_true rfl) ⟨(show n.1 + 0 ≤ 601024 by omega), (show n.2 + 0 ≤ 7293034 by omega)⟩ dL_law_1618 (fun r σ' hq => ?_)
  obtain ⟨-, hr, hci', hcm⟩ := hq
  obtain ⟨d1, hd1⟩ : ∃ d, d = decD (r % 100000) (r / 100000) := ⟨_, rfl⟩
  show G K _ _ _ 1621 [.double (decD (r % 100000) (r / 100000))]
  rw [← hd1]
  refine l_dstore (loc' := [(5, .double d1), (4, .int (iZ i)), (3, .ref qo), (2, .ref (Lf 0)), (1, .ref (y.1 0 0 0)), (0, .ref b)]) C.1 C.2.1 dL_law_1621 (by decide) rfl ?_
  refine g_aload_n C.1 3 dL_law_1623 rfl rfl ?_
  refine g_assoc' ?_
  refine g_swap ?_
  refine s_callM C.1 (s_X5_decay K.l Lf cf τ hmi) (ci := 6) (q := (RX5, TX5, 17)) rfl m_recv (fun ht => cwV 0 ht gL_law_X5_decay rfl rfl rfl (by decide +kernel) ⟨Nat.le_of_ble_eq_true rfl, Nat.le_of_ble_eq_true rfl⟩) rfl rfl (Nat.le_of_ble_eq_true rfl) ⟨(show n.1 + 0 + 0 ≤ 601024 by omega), (show n.2 + 0 + 0 ≤ 7293034 by omega)⟩ dL_law_1624 (fun r2 τ2 hq => ?_)
  obtain ⟨hmi', hmV, -, hr2⟩ := hq
  have hr2 := hr2 rfl
  obtain rfl : r = r2 := by rw [hr, hr2, hve.there, hve.sum o9]
  show G K _ _ _ 1627 [.double (decD (r % 100000) (r / 100000))]
  rw [← hd1]
  refine l_dstore (loc' := [(7, .double d1), (5, .double d1), (4, .int (iZ i)), (3, .ref qo), (2, .ref (Lf 0)), (1, .ref (y.1 0 0 0)), (0, .ref b)]) C.1 C.2.1 dL_law_1627 (by decide) rfl ?_
  refine l_dload C.1 1 dL_law_1629 rfl ?_
  refine l_dload C.1 0 dL_law_1631 rfl ?_
  refine l_dcmp C.1 dL_law_1633 (fun z hz h32 => ?_)
  refine g_if_eq C.1 (tgt := 1655) dL_law_1634 (by decide) h32 (fun h0 => ?_) (fun h0 => ?_)
  · refine g_goto C.1 (tgt := 1672) dL_law_1655 (by decide) ?_
    refine g_swap ?_
    show G K (Sep (HW qo co ((y, σ'), fo)) (MW Lf cf [] [] τ2)) _ _ 1672 []
    refine g_sub [2, 3, 4, 5, 6] rfl ?_
    exact next (n.1 + 0 + 0, n.2 + 0 + 0) y σ' fo τ2 ⟨(show n.1 + 0 + 0 ≤ n.1 + 16 by omega), (show n.2 + 0 + 0 ≤ n.2 + 400 by omega)⟩ ⟨rfl, rfl, hci', hmi', by rw [hmV, cV_cm hcm]; exact hve⟩
  · refine l_dload C.1 1 dL_law_1637 rfl ?_
    refine l_dload C.1 1 dL_law_1639 rfl ?_
    refine l_dcmp C.1 dL_law_1641 (fun z2 hz2 h322 => ?_)
    refine g_if_eq C.1 (tgt := 1653) dL_law_1642 (by decide) h322 (fun h1 => absurd (hz.trans (hz2.symm.trans h1)) h0) (fun h1 => ?_)
    refine l_dload C.1 0 dL_law_1645 rfl ?_
    refine l_dload C.1 0 dL_law_1647 rfl ?_
    refine l_dcmp C.1 dL_law_1649 (fun z3 hz3 h323 => ?_)
    refine g_if_ne C.1 (tgt := 1655) dL_law_1650 (by decide) h323 (fun h1 => ?_) (fun h2 => absurd (hz.trans (hz3.symm.trans h2)) h0)
    refine g_goto C.1 (tgt := 1672) dL_law_1655 (by decide) ?_
    refine g_swap ?_
    show G K (Sep (HW qo co ((y, σ'), fo)) (MW Lf cf [] [] τ2)) _ _ 1672 []
    refine g_sub [2, 3, 4, 5, 6] rfl ?_
    exact next (n.1 + 0 + 0, n.2 + 0 + 0) y σ' fo τ2 ⟨(show n.1 + 0 + 0 ≤ n.1 + 16 by omega), (show n.2 + 0 + 0 ≤ n.2 + 400 by omega)⟩ ⟨rfl, rfl, hci', hmi', by rw [hmV, cV_cm hcm]; exact hve⟩
set_option maxRecDepth 100000 in
set_option maxHeartbeats 4000000 in
theorem lc_23 {K : KT} {b L emp qo qh : Nat} {xs : Nat → Int32} {co : ClassId} {Lf : Nat → Nat} {cf : Nat → ClassId} {y : LT} {σ : CS} {fo : Nat → Int64} {τ : MS} {n : Nat × Nat} {i : Int} (C : lwK K b L xs emp) (hI : lI qh emp y σ τ) (hr0 : n.1 + 16 ≤ 601024 ∧ n.2 + 400 ≤ 7293034) (hi : 0 ≤ i ∧ i + 6 ≤ (L : Int)) (next : lF K qo co Lf cf qh emp b n i) : G K (LW qo co Lf cf ((y, σ), fo) τ) n [(4, .int (iZ i)), (3, .ref qo), (2, .ref (Lf 0)), (1, .ref qh), (0, .ref b)] 1658 [] := by
  obtain ⟨rfl, rfl, hci, hmi, hve⟩ := hI
  have o9 := VO_m hmi.1
  show G K (Sep (Sep (CL y σ) (OUT qo co fo)) (MW Lf cf [] [] τ)) n _ 1658 []
  refine g_assoc ?_
  refine g_aload_n C.1 3 dL_law_1658 rfl rfl ?_
  refine s_callV C.1 C.2.2.1 C.2.2.2.2.1 (s_X4_digest K.l y σ hci) (ci := 5) (q := (RX4, TX4, 10)) rfl (c_recv rfl ⟨rfl, rfl⟩) (fun ht => cwV 0 ht gL_law_X4_digest rfl rfl rfl (by decide +kernel) ⟨Nat.le_of_ble_eq_true rfl, Nat.le_of_ble_eq_true rfl⟩) rfl rfl (Nat.le_of_ble_eq_true rfl) ⟨(show n.1 + 0 ≤ 601024 by omega), (show n.2 + 0 ≤ 7293034 by omega)⟩ dL_law_1659 (fun r σ' hq => ?_)
  obtain ⟨-, hr, hci', hcm⟩ := hq
  refine g_aload_n C.1 2 dL_law_1662 rfl rfl ?_
  refine g_assoc' ?_
  refine g_swap ?_
  refine s_callM C.1 (s_X5_digest K.l Lf cf τ hmi) (ci := 6) (q := (RX5, TX5, 17)) rfl m_recv (fun ht => cwV 0 ht gL_law_X5_digest rfl rfl rfl (by decide +kernel) ⟨Nat.le_of_ble_eq_true rfl, Nat.le_of_ble_eq_true rfl⟩) rfl rfl (Nat.le_of_ble_eq_true rfl) ⟨(show n.1 + 0 + 0 ≤ 601024 by omega), (show n.2 + 0 + 0 ≤ 7293034 by omega)⟩ dL_law_1663 (fun r2 τ2 hq => ?_)
  obtain ⟨hmi', hmV, -, hr2⟩ := hq
  have hr2 := hr2 rfl
  obtain rfl : r = r2 := by rw [hr, hr2, hve.digest o9]
  refine l_lcmp C.1 rfl dL_law_1666 ?_
  refine g_if_eq C.1 (tgt := 1672) dL_law_1667 (by decide) (by decide) (fun _ => ?_) (fun h => absurd rfl h)
  refine g_swap ?_
  show G K (Sep (HW qo co ((y, σ'), fo)) (MW Lf cf [] [] τ2)) _ _ 1672 []
  refine g_sub [0, 1, 2, 3, 4] rfl ?_
  exact next (n.1 + 0 + 0, n.2 + 0 + 0) y σ' fo τ2 ⟨(show n.1 + 0 + 0 ≤ n.1 + 16 by omega), (show n.2 + 0 + 0 ≤ n.2 + 400 by omega)⟩ ⟨rfl, rfl, hci', hmi', by rw [hmV, cV_cm hcm]; exact hve⟩
