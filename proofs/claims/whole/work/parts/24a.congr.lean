/-! HOUSES THAT SHOW THE SAME ANSWER THE SAME -/
/-- what is asked of a view -/
def VO (V : VT) : Prop := (0 ≤ vN V ∧ vN V ≤ 24) ∧ (0 ≤ V 3 0 0 0 ∧ V 3 0 0 0 ≤ 8) ∧ EXI (vEx V) (vN V) ∧ (∀ m, 0 ≤ m → m < vN V → okW (vTx V m)) ∧ ∀ s, 0 ≤ s → s < V 3 0 0 0 → (0 ≤ V 10 s 0 0 ∧ V 10 s 0 0 ≤ 5) ∧ okHab (vHa V s) (V 10 s 0 0)
theorem VO_m {σ : MS} (h : MO σ) : VO (mV σ) := ⟨h.n, h.ns, h.ex, fun m a b => h.tx a b, fun s a b => by have b' : s < σ 9 0 := b; have := h.ns; exact ⟨(h.nh a (by omega)).1, h.ha a (by omega)⟩⟩
theorem VO_c {σ : CS} (h : CI σ) : VO (cV σ) := ⟨h.1.n, h.1.ns, h.1.ex, fun m a b => by rw [cTx σ a]; exact h.2.1 _ (by omega) (by have b' : m < σ 2 0 0 0 := b; omega), fun s a b => ⟨(h.1.s a b).1, (h.1.s a b).2.2.1⟩⟩
section CONGR
variable {V U : VT}
theorem VE.nn (h : VE V U) : vN U = vN V := h.2.2.1.symm
theorem VE.ns (h : VE V U) : U 3 0 0 0 = V 3 0 0 0 := h.2.2.2.1.symm
theorem VE.tl (h : VE V U) : U 0 0 0 0 = V 0 0 0 0 := h.1.symm
theorem VE.tx (h : VE V U) {m : Int} (h0 : 0 ≤ m) (h1 : m < vN V) : eqW (vTx V m) (vTx U m) := (h.2.2.2.2.1 m h0 h1).1
theorem VE.e4 (h : VE V U) {m : Int} (h0 : 0 ≤ m) (h1 : m < vN V) : V 4 m 0 0 = U 4 m 0 0 := (h.tx h0 h1).1
theorem VE.e6 (h : VE V U) {m : Int} (h0 : 0 ≤ m) (h1 : m < vN V) : V 6 m 0 0 = U 6 m 0 0 := (h.2.2.2.2.1 m h0 h1).2.1
theorem VE.e7 (h : VE V U) {m : Int} (h0 : 0 ≤ m) (h1 : m < vN V) : V 7 m 0 0 = U 7 m 0 0 := (h.2.2.2.2.1 m h0 h1).2.2.1
theorem VE.e8 (h : VE V U) {m : Int} (h0 : 0 ≤ m) (h1 : m < vN V) : V 8 m 0 0 = U 8 m 0 0 := (h.2.2.2.2.1 m h0 h1).2.2.2.1
theorem VE.e9 (h : VE V U) {m : Int} (h0 : 0 ≤ m) (h1 : m < vN V) : V 9 m 0 0 = U 9 m 0 0 := (h.2.2.2.2.1 m h0 h1).2.2.2.2
theorem VE.e10 (h : VE V U) {s : Int} (h0 : 0 ≤ s) (h1 : s < V 3 0 0 0) : V 10 s 0 0 = U 10 s 0 0 := (h.2.2.2.2.2 s h0 h1).1
theorem VE.e11 (h : VE V U) {s k p : Int} (h0 : 0 ≤ s) (h1 : s < V 3 0 0 0) (k0 : 0 ≤ k) (k1 : k < V 10 s 0 0) (p0 : 0 ≤ p) (p1 : p ≤ 3) : V 11 s k p = U 11 s k p := (h.2.2.2.2.2 s h0 h1).2 k k0 k1 p p0 p1
theorem VE.d (h : VE V U) {a b : Int} (a0 : 0 ≤ a) (a1 : a < vN V) (b0 : 0 ≤ b) (b1 : b < vN V) : vD V a b = vD U a b := levW_eq (h.tx a0 a1) (h.tx b0 b1)
theorem VE.exi (h : VE V U) (o : VO V) : EXI (vEx U) (vN V) := fun m a b => by
  show -1 ≤ U 6 m 0 0 ∧ U 6 m 0 0 < m
  rw [← h.e6 a b]; exact o.2.2.1 m a b
theorem VE.wkE (h : VE V U) (o : VO V) {P P' : Int → Bool} (hP : ∀ m, 0 ≤ m → m < vN V → P m = P' m) {m : Int} (m0 : -1 ≤ m) (m1 : m < vN V) : wk (vEx V) P m = wk (vEx U) P' m := wk_cong o.2.2.1 (fun k a b => h.e6 a b) hP m m0 m1
theorem VE.orgE (h : VE V U) (o : VO V) {m : Int} (m0 : 0 ≤ m) (m1 : m < vN V) : org (vEx V) m = org (vEx U) m := h.wkE o (fun k a b => by show decide (V 6 k 0 0 = -1) = decide (U 6 k 0 0 = -1); rw [h.e6 a b]) (by omega) m1
theorem VE.isofE (h : VE V U) (o : VO V) {m k : Int} (m0 : -1 ≤ m) (m1 : m < vN V) : isof (vEx V) m k = isof (vEx U) m k := by
  unfold isof
  rw [h.wkE o (fun _ _ _ => Eq.refl _) m0 m1]
theorem VE.dscE (h : VE V U) (o : VO V) {m k : Int} (m0 : 0 ≤ m) (m1 : m < vN V) : dsc (vEx V) m k = dsc (vEx U) m k := by
  have x := o.2.2.1 m m0 m1
  have e : vEx U m = vEx V m := (h.e6 m0 m1).symm
  unfold dsc
  rw [e]
  exact h.isofE o x.1 (by omega)
theorem VE.commE (h : VE V U) (o : VO V) {a b : Int} (a0 : 0 ≤ a) (a1 : a < vN V) (b0 : 0 ≤ b) (b1 : b < vN V) : comm (vEx V) a b = comm (vEx U) a b := h.wkE o (fun k _ _ => h.isofE o (by omega) b1) (by omega) a1
theorem VE.there (h : VE V U) : vThere V = vThere U := by
  unfold vThere
  rw [h.nn]
  exact sumI_cong _ (fun k a b => by rw [h.e9 a b])
theorem VE.copies (h : VE V U) (m : Int) : vCopies V m = vCopies U m := by
  unfold vCopies
  rw [h.nn]
  exact sumI_cong _ (fun k a b => by rw [h.e6 a b])
theorem VE.desc (h : VE V U) (o : VO V) (m : Int) : vDesc V m = vDesc U m := by
  unfold vDesc
  rw [h.nn]
  exact sumI_cong _ (fun k a b => by rw [h.dscE o a b])
theorem VE.told (h : VE V U) (o : VO V) {m w : Int} (m0 : 0 ≤ m) (m1 : m < vN V) : vTold V m w = vTold U m w := by
  have x := o.2.2.1 m m0 m1
  have og := org_in o.2.2.1 m0 m1
  unfold vTold
  rw [h.e4 m0 m1, h.e6 m0 m1, h.e7 m0 m1, h.e8 m0 m1, h.e9 m0 m1, h.copies, h.desc o, h.d m0 m1 og.1 (by omega), h.orgE o m0 m1]
  by_cases q : U 6 m 0 0 = -1
  · rw [if_pos q, if_pos q]
  · have x' : -1 ≤ V 6 m 0 0 ∧ V 6 m 0 0 < m := x
    rw [h.e6 m0 m1] at x'
    rw [if_neg q, if_neg q, h.d m0 m1 (show 0 ≤ U 6 m 0 0 by omega) (by omega)]
theorem VE.guess (h : VE V U) {m : Int} (m0 : 0 ≤ m) (m1 : m < vN V) : vGuess V m = vGuess U m := by
  unfold vGuess
  rw [h.e9 m0 m1]
  have key : ∀ i, 0 ≤ i → i ≤ m → gsI (fun k => V 9 k 0 0) (fun k => vD V m k) i = gsI (fun k => U 9 k 0 0) (fun k => vD U m k) i := fun i i0 => by
    refine int_up (P := fun i => i ≤ m → gsI (fun k => V 9 k 0 0) (fun k => vD V m k) i = gsI (fun k => U 9 k 0 0) (fun k => vD U m k) i) (fun _ => Eq.refl _) (fun i hi ih hl => ?_) i i0
    have e1 : gsI (fun k => V 9 k 0 0) (fun k => vD V m k) (i + 1) = gsF (fun k => V 9 k 0 0) (fun k => vD V m k) (gsI (fun k => V 9 k 0 0) (fun k => vD V m k) i) i := fdI_s _ _ hi
    have e2 : gsI (fun k => U 9 k 0 0) (fun k => vD U m k) (i + 1) = gsF (fun k => U 9 k 0 0) (fun k => vD U m k) (gsI (fun k => U 9 k 0 0) (fun k => vD U m k) i) i := fdI_s _ _ hi
    have gi := gsI_in (fun k => U 9 k 0 0) (fun k => vD U m k) i hi
    rw [e1, e2, ih (by omega)]
    generalize gsI (fun k => U 9 k 0 0) (fun k => vD U m k) i = b at gi
    show (if ¬ V 9 i 0 0 = 0 ∧ (b = -1 ∨ vD V m i ≤ vD V m b) then i else b) = (if ¬ U 9 i 0 0 = 0 ∧ (b = -1 ∨ vD U m i ≤ vD U m b) then i else b)
    rw [h.e9 hi (by omega), h.d m0 m1 hi (by omega)]
    by_cases q : b = -1
    · by_cases q2 : U 9 i 0 0 = 0
      · rw [if_neg (fun z => z.1 q2), if_neg (fun z => z.1 q2)]
      · rw [if_pos ⟨q2, Or.inl q⟩, if_pos ⟨q2, Or.inl q⟩]
    · rw [h.d m0 m1 (show 0 ≤ b by omega) (by omega)]
  rw [key m m0 (Int.le_refl _)]
theorem VE.counted (h : VE V U) {w : Int} : vCounted V w = vCounted U w := by
  unfold vCounted
  have e3 : sumI (fun m => if V 6 m 0 0 = -1 then 1 else 0) (vN V) = sumI (fun m => if U 6 m 0 0 = -1 then 1 else 0) (vN V) := sumI_cong _ (fun k a b => by rw [h.e6 a b])
  have e6 : sumI (fun m => if ¬ V 9 m 0 0 = 0 then V 4 m 0 0 else 0) (vN V) = sumI (fun m => if ¬ U 9 m 0 0 = 0 then U 4 m 0 0 else 0) (vN V) := sumI_cong _ (fun k a b => by rw [h.e9 a b, h.e4 a b])
  have e7 : sumI (vRight V) (vN V) = sumI (vRight U) (vN V) := sumI_cong _ (fun k a b => by unfold vRight; rw [h.e9 a b, h.e6 a b, h.guess a b])
  have e4 : maxI (fun m => V 8 m 0 0) (vN V) = maxI (fun m => U 8 m 0 0) (vN V) := by
    by_cases q : 0 ≤ vN V
    · exact maxI_cong _ q (fun k a b => h.e8 a b)
    · unfold maxI; rw [show (vN V).toNat = 0 from by omega]; rfl
  rw [h.nn, h.there, h.ns, h.tl, e3, e4, e6, e7]
theorem VE.many (h : VE V U) (s : Int) : vMany V s = vMany U s := by
  unfold vMany
  rw [h.nn]
  exact sumI_cong _ (fun k a b => by rw [h.e9 a b, h.e4 a b])
theorem VE.len (h : VE V U) : vLen V = vLen U := amxI_cong 121 (by decide) (fun k _ _ => h.many k)
theorem VE.let (h : VE V U) {p s : Int} (p0 : 0 ≤ p) (p1 : p < s) : vLet V p s = vLet U p s := by
  unfold vLet
  rw [amxI_cong (f := vManyL V p s) (g := vManyL U p s) 26 (by decide) (fun b _ _ => ?_)]
  unfold vManyL
  rw [h.nn]
  refine sumI_cong _ (fun k a b => ?_)
  rw [h.e9 a b, h.e4 a b]
  by_cases q : U 4 k 0 0 = s
  · have e5 : V 5 k p 0 = U 5 k p 0 := (h.tx a b).2 p p0 (by show p < V 4 k 0 0; rw [h.e4 a b, q]; exact p1)
    rw [e5]
  · rw [if_neg (fun z => q z.2.1), if_neg (fun z => q z.2.1)]
theorem VE.vote (h : VE V U) : eqW (vVote V) (vVote U) := ⟨h.len, fun k a b => by
  show vLet V k (vLen V) = vLet U k (vLen U)
  rw [← h.len]; exact h.let a b⟩
theorem VE.copyW (h : VE V U) (o : VO V) {s : Int} (s0 : 0 ≤ s) (s1 : s < V 3 0 0 0) {w v : WO} (hw : eqW w v) : eqW (vCopyW V s w) (vCopyW U s v) := by
  have c := o.2.2.2.2 s s0 s1
  unfold vCopyW scW
  rw [← h.e10 s0 s1]
  refine (scW_eq hw _ c.1.1).trans ?_
  rw [fdT_cong v (V 10 s 0 0) c.1.1 (fun x k a b => by
    show hb (V 11 s k 0) (V 11 s k 1 + 97) (V 11 s k 2 + 97) (V 11 s k 3) x = hb (U 11 s k 0) (U 11 s k 1 + 97) (U 11 s k 2 + 97) (U 11 s k 3) x
    rw [h.e11 s0 s1 a b (p := 0) (by decide) (by decide), h.e11 s0 s1 a b (p := 1) (by decide) (by decide), h.e11 s0 s1 a b (p := 2) (by decide) (by decide), h.e11 s0 s1 a b (p := 3) (by decide) (by decide)] : ∀ x k, 0 ≤ k → k < V 10 s 0 0 → scF (vHa V s) x k = scF (vHa U s) x k)]
  exact eqW.rfl
theorem VE.trial (h : VE V U) (o : VO V) {m s : Int} (m0 : 0 ≤ m) (m1 : m < vN V) (s0 : 0 ≤ s) (s1 : s < V 3 0 0 0) (t : Int) (t0 : 0 ≤ t) : eqW (vTrial V m s t) (vTrial U m s t) := by
  refine int_up (P := fun t => eqW (vTrial V m s t) (vTrial U m s t)) (by unfold vTrial; rw [fdT_0, fdT_0]; exact h.tx m0 m1) (fun i hi ih => ?_) t t0
  unfold vTrial at ih ⊢
  rw [fdT_s _ _ hi, fdT_s _ _ hi]
  exact h.copyW o s0 s1 ih
theorem VE.trialA (h : VE V U) (o : VO V) {m s t w : Int} (m0 : 0 ≤ m) (m1 : m < vN V) (s0 : 0 ≤ s) (s1 : s < V 3 0 0 0) (t0 : 0 ≤ t) : vTrialA V m s t w = vTrialA U m s t w := by
  have e := h.trial o m0 m1 s0 s1 t t0
  unfold vTrialA
  rw [e.1, levW_eq e (h.tx m0 m1)]
theorem VE.advise (h : VE V U) (o : VO V) {m : Int} (m0 : 0 ≤ m) (m1 : m < vN V) : vAdvise V m = vAdvise U m := by
  have far : ∀ s, 0 ≤ s → s < V 3 0 0 0 → vFar V m s = vFar U m s := fun s a b => levW_eq (h.copyW o a b (h.tx m0 m1)) (h.tx m0 m1)
  unfold vAdvise
  rw [h.ns]
  have key : ∀ i, 0 ≤ i → i ≤ V 3 0 0 0 → fdI (avF (vFar V m)) (-1) i = fdI (avF (vFar U m)) (-1) i := fun i i0 => by
    refine int_up (P := fun i => i ≤ V 3 0 0 0 → fdI (avF (vFar V m)) (-1) i = fdI (avF (vFar U m)) (-1) i) (fun _ => Eq.refl _) (fun i hi ih hl => ?_) i i0
    have ai := av_in (vFar U m) i hi
    rw [fdI_s _ _ hi, fdI_s _ _ hi, ih (by omega)]
    generalize fdI (avF (vFar U m)) (-1) i = b at ai
    unfold avF
    rw [far i hi (by omega)]
    by_cases q : b = -1
    · rw [if_pos (Or.inl q), if_pos (Or.inl q)]
    · rw [far b (by omega) (by omega)]
  exact key _ o.2.1.1 (Int.le_refl _)
theorem fnN_cong {w v : WO} (hw : eqW w v) (a b : Int) : ∀ (d : Nat) (k : Int), 0 ≤ k → fnN w a b d k = fnN v a b d k := by
  intro d
  induction d with
  | zero => intro k _; rfl
  | succ d ih =>
    intro k k0
    show (if k < w.2 then (if w.1 k = 97 + a ∧ (b = -1 ∨ (k + 1 < w.2 ∧ w.1 (k + 1) = 97 + b)) then k else fnN w a b d (k + 1)) else -1) = (if k < v.2 then (if v.1 k = 97 + a ∧ (b = -1 ∨ (k + 1 < v.2 ∧ v.1 (k + 1) = 97 + b)) then k else fnN v a b d (k + 1)) else -1)
    rw [ih (k + 1) (by omega), ← hw.1]
    by_cases q : k < w.2
    · rw [if_pos q, if_pos q, hw.2 k k0 q]
      by_cases q2 : k + 1 < w.2
      · rw [hw.2 (k + 1) (by omega) q2]
      · have e : ∀ u : WO, (v.1 k = 97 + a ∧ (b = -1 ∨ (k + 1 < w.2 ∧ u.1 (k + 1) = 97 + b))) ↔ (v.1 k = 97 + a ∧ b = -1) := fun u => ⟨fun z => ⟨z.1, z.2.elim (fun z => z) (fun z => absurd z.1 q2)⟩, fun z => ⟨z.1, Or.inl z.2⟩⟩
        by_cases q3 : v.1 k = 97 + a ∧ b = -1
        · rw [if_pos ((e w).mpr q3), if_pos ((e v).mpr q3)]
        · rw [if_neg (fun z => q3 ((e w).mp z)), if_neg (fun z => q3 ((e v).mp z))]
    · rw [if_neg q, if_neg q]
theorem VE.find (h : VE V U) {m k a b : Int} (m0 : 0 ≤ m) (m1 : m < vN V) (k0 : 0 ≤ k) : vFind V m k a b = vFind U m k a b := by
  unfold vFind
  rw [← (h.tx m0 m1).1]
  exact fnN_cong (h.tx m0 m1) a b _ k k0
theorem VE.voteD (h : VE V U) {m : Int} (m0 : 0 ≤ m) (m1 : m < vN V) : levW (vVote V) (vTx V m) = levW (vVote U) (vTx U m) := levW_eq h.vote (h.tx m0 m1)
theorem VE.sum (h : VE V U) (o : VO V) : vSum V = vSum U := by
  unfold vSum
  rw [h.nn]
  refine sumI_cong _ (fun m m0 m1 => ?_)
  have og := org_in o.2.2.1 m0 m1
  rw [h.e9 m0 m1, h.d m0 m1 og.1 (by omega), h.orgE o m0 m1]
theorem VE.digest (h : VE V U) (o : VO V) : vDigest V = vDigest U := by
  have e1 : vDg1 V = vDg1 U := dgI_cong 491 8 (by decide) (fun k _ _ => h.counted)
  have vl := vLen_in V
  have eS : ∀ d, fdI (vDgS V) d (V 3 0 0 0) = fdI (vDgS U) d (V 3 0 0 0) := fun d => fdI_cong d _ o.2.1.1 (fun x s s0 s1 => by
    have c := o.2.2.2.2 s s0 s1
    unfold vDgS
    rw [← h.e10 s0 s1]
    exact dgI_cong _ _ (by omega) (fun k a b => h.e11 s0 s1 (by omega) (by omega) (by omega) (by omega)))
  have eM : ∀ d, fdI (vDgM V) d (vN V) = fdI (vDgM U) d (vN V) := fun d => fdI_cong d _ o.1.1 (fun x m m0 m1 => by
    have ln := (o.2.2.2.1 m m0 m1).1
    unfold vDgM
    rw [← h.e4 m0 m1, h.guess m0 m1, dgI_cong (f := vTold V m) (g := vTold U m) x 9 (by decide) (fun w _ _ => h.told o m0 m1)]
    exact dgI_cong _ _ ln.1 (fun k a b => (h.tx m0 m1).2 k a b))
  unfold vDigest
  rw [← h.len, h.ns, h.nn, e1, eS, eM]
  exact dgI_cong _ _ vl.1 (fun k a b => h.let a b)
end CONGR
