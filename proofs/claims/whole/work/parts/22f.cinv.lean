/-! THE HOUSE AS CALLS SHOW IT; WHAT HOLDS OF IT BETWEEN CALLS -/
def cV (σ : CS) : VT := fun c i j k => match c with
  | 0 => σ 0 0 0 0
  | 1 => σ 1 i 0 0
  | 2 => σ 2 0 0 0
  | 3 => σ 3 0 0 0
  | 4 => if 0 ≤ i then σ 5 (i + 3) 0 0 else 0
  | 5 => if 0 ≤ i then σ 6 (i + 3) j 0 else 0
  | 6 => σ 9 i 0 0
  | 7 => σ 10 i 0 0
  | 8 => σ 11 i 0 0
  | 9 => σ 12 i 0 0
  | 10 => σ 13 i 0 0
  | _ => σ 14 i (σ 24 i j 0) k
theorem cV4 (σ : CS) {m : Int} (h : 0 ≤ m) : cV σ 4 m 0 0 = σ 5 (m + 3) 0 0 := if_pos h
theorem cV5 (σ : CS) {m : Int} (p : Int) (h : 0 ≤ m) : cV σ 5 m p 0 = σ 6 (m + 3) p 0 := if_pos h
theorem cTx (σ : CS) {m : Int} (h : 0 ≤ m) : vTx (cV σ) m = tW σ (m + 3) := Prod.ext (funext fun p => cV5 σ p h) (cV4 σ h)
def cHa (σ : CS) (s : Int) : Int → Int → Int := fun k p => σ 14 s (σ 24 s k 0) p
/-- nothing that calls show has changed: the caches and the three texts in hand aside -/
def Cm (σ σ' : CS) : Prop := (∀ c, ¬ c = 4 → ¬ c = 5 → ¬ c = 6 → ¬ c = 7 → ¬ c = 8 → σ' c = σ c) ∧ (∀ k p, 3 ≤ k → σ' 5 k 0 0 = σ 5 k 0 0 ∧ σ' 6 k p 0 = σ 6 k p 0)
theorem Cm.rfl {σ : CS} : Cm σ σ := ⟨fun _ _ _ _ _ _ => Eq.refl _, fun _ _ _ => ⟨Eq.refl _, Eq.refl _⟩⟩
theorem Cm.trans {σ σ' σ'' : CS} (h : Cm σ σ') (g : Cm σ' σ'') : Cm σ σ'' := ⟨fun c a b d e f => (g.1 c a b d e f).trans (h.1 c a b d e f), fun k p a => ⟨(g.2 k p a).1.trans (h.2 k p a).1, (g.2 k p a).2.trans (h.2 k p a).2⟩⟩
theorem Ct.cm {k : Int} {σ σ' : CS} (h : Ct k σ σ') (hk : k < 3) : Cm σ σ' := ⟨fun c _ b d _ _ => h.1 c b d, fun j p a => h.2 j p (by omega)⟩
theorem cV_cm {σ σ' : CS} (h : Cm σ σ') : cV σ' = cV σ := by
  have e4 : ∀ i : Int, (if 0 ≤ i then σ' 5 (i + 3) 0 0 else 0) = (if 0 ≤ i then σ 5 (i + 3) 0 0 else 0) := fun i => by
    by_cases hi : 0 ≤ i
    · rw [if_pos hi, if_pos hi]; exact (h.2 (i + 3) 0 (by omega)).1
    · rw [if_neg hi, if_neg hi]
  have e5 : ∀ i j : Int, (if 0 ≤ i then σ' 6 (i + 3) j 0 else 0) = (if 0 ≤ i then σ 6 (i + 3) j 0 else 0) := fun i j => by
    by_cases hi : 0 ≤ i
    · rw [if_pos hi, if_pos hi]; exact (h.2 (i + 3) j (by omega)).2
    · rw [if_neg hi, if_neg hi]
  funext c i j k
  unfold cV
  rw [h.1 0 (by decide) (by decide) (by decide) (by decide) (by decide), h.1 1 (by decide) (by decide) (by decide) (by decide) (by decide), h.1 2 (by decide) (by decide) (by decide) (by decide) (by decide), h.1 3 (by decide) (by decide) (by decide) (by decide) (by decide), h.1 9 (by decide) (by decide) (by decide) (by decide) (by decide), h.1 10 (by decide) (by decide) (by decide) (by decide) (by decide), h.1 11 (by decide) (by decide) (by decide) (by decide) (by decide), h.1 12 (by decide) (by decide) (by decide) (by decide) (by decide), h.1 13 (by decide) (by decide) (by decide) (by decide) (by decide), h.1 14 (by decide) (by decide) (by decide) (by decide) (by decide), h.1 24 (by decide) (by decide) (by decide) (by decide) (by decide), e4, e5]
def CO (σ : CS) : Prop := ((0 ≤ σ 0 0 0 0 ∧ σ 0 0 0 0 ≤ 60) ∧ (0 ≤ σ 2 0 0 0 ∧ σ 2 0 0 0 ≤ 24) ∧ (0 ≤ σ 3 0 0 0 ∧ σ 3 0 0 0 ≤ 8) ∧ σ 21 0 0 0 = σ 2 0 0 0 ∧ σ 22 0 0 0 = σ 3 0 0 0 ∧ (σ 2 0 0 0 ≤ σ 18 0 0 0 ∧ σ 18 0 0 0 ≤ 1000000) ∧ (σ 3 0 0 0 ≤ σ 19 0 0 0 ∧ σ 19 0 0 0 ≤ 1000000) ∧ σ 26 0 0 0 = σ 2 0 0 0 ∧ σ 27 0 0 0 = σ 3 0 0 0) ∧
  EXI (fun m => σ 9 m 0 0) (σ 2 0 0 0) ∧
  (∀ m, 0 ≤ m → m < σ 2 0 0 0 → (σ 12 m 0 0 = 0 ∨ σ 12 m 0 0 = 1) ∧ (-1 ≤ σ 10 m 0 0 ∧ σ 10 m 0 0 ≤ 7) ∧ σ 11 m 0 0 = gen (fun m => σ 9 m 0 0) m) ∧
  (∀ s, 0 ≤ s → s < σ 3 0 0 0 → (0 ≤ σ 13 s 0 0 ∧ σ 13 s 0 0 ≤ 5) ∧ (σ 13 s 0 0 ≤ σ 20 s 0 0 ∧ σ 20 s 0 0 ≤ 1000000 ∧ σ 25 s 0 0 = σ 13 s 0 0) ∧ okHab (cHa σ s) (σ 13 s 0 0) ∧ ∀ k, 0 ≤ k → k < σ 13 s 0 0 → 0 ≤ σ 24 s k 0 ∧ σ 24 s k 0 < σ 23 s 0 0) ∧
  (∀ i, 0 ≤ i → i < 60 → 0 ≤ σ 1 i 0 0 ∧ σ 1 i 0 0 ≤ 255)
/-- its texts -/
def CTx (σ : CS) : Prop := ∀ k, 0 ≤ k → k < σ 2 0 0 0 + 3 → okW (tW σ k)
/-- its measures -/
def CK (σ : CS) : Prop := ∀ a b, 0 ≤ a → a < σ 2 0 0 0 → 0 ≤ b → b < σ 2 0 0 0 → σ 4 a b 0 = -1 ∨ σ 4 a b 0 = vD (cV σ) a b
def CI (σ : CS) : Prop := CO σ ∧ CTx σ ∧ CK σ
theorem CO.n {σ : CS} (h : CO σ) : 0 ≤ σ 2 0 0 0 ∧ σ 2 0 0 0 ≤ 24 := h.1.2.1
theorem CO.tl {σ : CS} (h : CO σ) : 0 ≤ σ 0 0 0 0 ∧ σ 0 0 0 0 ≤ 60 := h.1.1
theorem CO.ns {σ : CS} (h : CO σ) : 0 ≤ σ 3 0 0 0 ∧ σ 3 0 0 0 ≤ 8 := h.1.2.2.1
theorem CO.e21 {σ : CS} (h : CO σ) : σ 21 0 0 0 = σ 2 0 0 0 := h.1.2.2.2.1
theorem CO.e22 {σ : CS} (h : CO σ) : σ 22 0 0 0 = σ 3 0 0 0 := h.1.2.2.2.2.1
theorem CO.cp {σ : CS} (h : CO σ) : (σ 2 0 0 0 ≤ σ 18 0 0 0 ∧ σ 18 0 0 0 ≤ 1000000) ∧ (σ 3 0 0 0 ≤ σ 19 0 0 0 ∧ σ 19 0 0 0 ≤ 1000000) := ⟨h.1.2.2.2.2.2.1, h.1.2.2.2.2.2.2.1⟩
theorem CO.fl {σ : CS} (h : CO σ) : σ 26 0 0 0 = σ 2 0 0 0 ∧ σ 27 0 0 0 = σ 3 0 0 0 := h.1.2.2.2.2.2.2.2
theorem CO.ex {σ : CS} (h : CO σ) : EXI (fun m => σ 9 m 0 0) (σ 2 0 0 0) := h.2.1
theorem CO.ex1 {σ : CS} (h : CO σ) {m : Int} (h0 : 0 ≤ m) (h1 : m < σ 2 0 0 0) : -1 ≤ σ 9 m 0 0 ∧ σ 9 m 0 0 < m := h.2.1 m h0 h1
theorem CO.m {σ : CS} (h : CO σ) {m : Int} (h0 : 0 ≤ m) (h1 : m < σ 2 0 0 0) : (σ 12 m 0 0 = 0 ∨ σ 12 m 0 0 = 1) ∧ (-1 ≤ σ 10 m 0 0 ∧ σ 10 m 0 0 ≤ 7) ∧ σ 11 m 0 0 = gen (fun m => σ 9 m 0 0) m := h.2.2.1 m h0 h1
theorem CO.s {σ : CS} (h : CO σ) {s : Int} (h0 : 0 ≤ s) (h1 : s < σ 3 0 0 0) : (0 ≤ σ 13 s 0 0 ∧ σ 13 s 0 0 ≤ 5) ∧ (σ 13 s 0 0 ≤ σ 20 s 0 0 ∧ σ 20 s 0 0 ≤ 1000000 ∧ σ 25 s 0 0 = σ 13 s 0 0) ∧ okHab (cHa σ s) (σ 13 s 0 0) ∧ ∀ k, 0 ≤ k → k < σ 13 s 0 0 → 0 ≤ σ 24 s k 0 ∧ σ 24 s k 0 < σ 23 s 0 0 := h.2.2.2.1 s h0 h1
theorem CO.tb {σ : CS} (h : CO σ) {i : Int} (h0 : 0 ≤ i) (h1 : i < 60) : 0 ≤ σ 1 i 0 0 ∧ σ 1 i 0 0 ≤ 255 := h.2.2.2.2 i h0 h1
theorem CO.cm {σ σ' : CS} (h : CO σ) (g : Cm σ σ') : CO σ' := by
  have e : ∀ c, ¬ c = 4 → ¬ c = 5 → ¬ c = 6 → ¬ c = 7 → ¬ c = 8 → σ' c = σ c := g.1
  unfold CO cHa at *
  rw [e 0 (by decide) (by decide) (by decide) (by decide) (by decide), e 1 (by decide) (by decide) (by decide) (by decide) (by decide), e 2 (by decide) (by decide) (by decide) (by decide) (by decide), e 3 (by decide) (by decide) (by decide) (by decide) (by decide), e 9 (by decide) (by decide) (by decide) (by decide) (by decide), e 10 (by decide) (by decide) (by decide) (by decide) (by decide), e 11 (by decide) (by decide) (by decide) (by decide) (by decide), e 12 (by decide) (by decide) (by decide) (by decide) (by decide), e 13 (by decide) (by decide) (by decide) (by decide) (by decide), e 14 (by decide) (by decide) (by decide) (by decide) (by decide), e 18 (by decide) (by decide) (by decide) (by decide) (by decide), e 19 (by decide) (by decide) (by decide) (by decide) (by decide), e 20 (by decide) (by decide) (by decide) (by decide) (by decide), e 21 (by decide) (by decide) (by decide) (by decide) (by decide), e 22 (by decide) (by decide) (by decide) (by decide) (by decide), e 23 (by decide) (by decide) (by decide) (by decide) (by decide), e 24 (by decide) (by decide) (by decide) (by decide) (by decide), e 25 (by decide) (by decide) (by decide) (by decide) (by decide), e 26 (by decide) (by decide) (by decide) (by decide) (by decide), e 27 (by decide) (by decide) (by decide) (by decide) (by decide)]
  exact h
theorem Cm.e2 {σ σ' : CS} (g : Cm σ σ') : σ' 2 0 0 0 = σ 2 0 0 0 := by rw [g.1 2 (by decide) (by decide) (by decide) (by decide) (by decide)]
theorem Cm.e {σ σ' : CS} (g : Cm σ σ') {c : Nat} (h : c < 4 ∨ 8 < c) : σ' c = σ c := g.1 c (by omega) (by omega) (by omega) (by omega) (by omega)
theorem Cm.tw {σ σ' : CS} (g : Cm σ σ') {k : Int} (hk : 3 ≤ k) : tW σ' k = tW σ k := Prod.ext (funext fun p => (g.2 k p hk).2) (g.2 k 0 hk).1
theorem CTx.mk {σ σ' : CS} (h : CTx σ) (g : Cm σ σ') (h0 : okW (tW σ' 0)) (h1 : okW (tW σ' 1)) (h2 : okW (tW σ' 2)) : CTx σ' := fun k a b => by
  rw [g.e2] at b
  by_cases hk : 3 ≤ k
  · rw [g.tw hk]; exact h k a b
  · have : k = 0 ∨ k = 1 ∨ k = 2 := by omega
    rcases this with rfl | rfl | rfl
    · exact h0
    · exact h1
    · exact h2
theorem CTx.ct {σ σ' : CS} {k : Int} (h : CTx σ) (g : Ct k σ σ') (hk : okW (tW σ' k)) : CTx σ' := fun j a b => by
  have e2 : σ' 2 0 0 0 = σ 2 0 0 0 := by rw [g.1 2 (by decide) (by decide)]
  rw [e2] at b
  by_cases hj : j = k
  · rw [hj]; exact hk
  · rw [g.tw hj]; exact h j a b
theorem CK.cm {σ σ' : CS} (h : CK σ) (g : Cm σ σ') (e : σ' 4 = σ 4) : CK σ' := fun a b x y z w => by
  rw [g.e2] at y w
  rw [e, cV_cm g]
  exact h a b x y z w
/-! the lists -/
theorem s_sizeM : H_sizeM (fun _ => True) (fun σ => σ 2 0 0 0) := fun l y σ _ => l_size ⟨_, _, rfl, rfl, rfl⟩
theorem s_sizeS : H_sizeS (fun _ => True) (fun σ => σ 3 0 0 0) := fun l y σ _ => l_size ⟨_, _, rfl, rfl, rfl⟩
theorem s_sizeH : H_sizeH (fun σ s => 0 ≤ s ∧ s < σ 22 0 0 0) (fun σ s => σ 13 s 0 0) := fun l y σ s hp => l_size ⟨_, _, rfl, hp.1, hp.2, rfl⟩
theorem nat_if {e : Int} {α : Type} {n : Int} {a b : α} (h0 : 0 ≤ e) (h1 : e < n) : (if ((e.toNat : Nat) : Int) < n then a else b) = a := if_pos (by omega)
theorem s_getM : H_getM (fun σ e => CO σ ∧ 0 ≤ e ∧ e < σ 2 0 0 0) := fun l y σ e hp => by
  obtain ⟨hp, h0, h1⟩ := hp
  have c := hp.cp
  have n := hp.n
  have fl := hp.fl
  refine l_get (κ := 2) (i := 0) (sz := σ 2 0 0 0) (b := y.1 12 e 0) ⟨iZ (σ 15 0 0 0), _, _, ?_, ⟨rfl, rfl⟩, rfl, ⟨rfl, rfl, by omega⟩, rfl, ?_, ?_, ?_⟩ ⟨h1, by omega⟩ ?_
  · show (Sum.inr (0, [.int (iZ (σ 15 0 0 0)), .ref (if σ 18 0 0 0 = 0 then y.2.2 else y.1 3 0 0), .int (iZ (σ 2 0 0 0))]) : va_E) = _
    rw [if_neg (by omega)]
  · show (σ 18 0 0 0).toNat < 2147483648; omega
  · exact ⟨h0, by show e < ((σ 18 0 0 0).toNat : Int); omega⟩
  · show (if ((e.toNat : Nat) : Int) < σ 26 0 0 0 then some (y.1 12 ((e.toNat : Nat) : Int) 0) else none) = some (y.1 12 e 0)
    rw [nat_if h0 (by omega), toNat_c h0]
  · show some (vM y e) = some (.ref (y.1 12 e 0))
    rw [vM_ref h0]
theorem s_getS : H_getS (fun σ e => CO σ ∧ 0 ≤ e ∧ e < σ 3 0 0 0) := fun l y σ e hp => by
  obtain ⟨hp, h0, h1⟩ := hp
  have c := hp.cp
  have n := hp.ns
  have fl := hp.fl
  refine l_get (κ := 4) (i := 0) (sz := σ 3 0 0 0) (b := y.1 13 e 0) ⟨iZ (σ 16 0 0 0), _, _, ?_, ⟨rfl, rfl⟩, rfl, ⟨rfl, rfl, by omega⟩, rfl, ?_, ?_, ?_⟩ ⟨h1, by omega⟩ rfl
  · show (Sum.inr (0, [.int (iZ (σ 16 0 0 0)), .ref (if σ 19 0 0 0 = 0 then y.2.2 else y.1 5 0 0), .int (iZ (σ 3 0 0 0))]) : va_E) = _
    rw [if_neg (by omega)]
  · show (σ 19 0 0 0).toNat < 2147483648; omega
  · exact ⟨h0, by show e < ((σ 19 0 0 0).toNat : Int); omega⟩
  · show (if ((e.toNat : Nat) : Int) < σ 27 0 0 0 then some (y.1 13 ((e.toNat : Nat) : Int) 0) else none) = some (y.1 13 e 0)
    rw [nat_if h0 (by omega), toNat_c h0]
theorem s_getH : H_getH (fun σ s e => CO σ ∧ (0 ≤ s ∧ s < σ 3 0 0 0) ∧ 0 ≤ e ∧ e < σ 13 s 0 0) (fun σ s e => σ 24 s e 0) := fun l y σ s e hp => by
  obtain ⟨hp, ⟨s0, s1⟩, h0, h1⟩ := hp
  have c := hp.s s0 s1
  have e22 := hp.e22
  refine l_get (κ := 14) (i := s) (sz := σ 13 s 0 0) (b := y.1 16 s (σ 24 s e 0)) ⟨iZ (σ 17 s 0 0), _, _, ?_, ⟨s0, by omega, rfl⟩, rfl, ⟨s0, by omega, rfl, by omega⟩, rfl, ?_, ?_, ?_⟩ ⟨h1, by omega⟩ rfl
  · show (Sum.inr (0, [.int (iZ (σ 17 s 0 0)), .ref (if σ 20 s 0 0 = 0 then y.2.2 else y.1 15 s 0), .int (iZ (σ 13 s 0 0))]) : va_E) = _
    rw [if_neg (by omega)]
  · show (σ 20 s 0 0).toNat < 2147483648; omega
  · exact ⟨h0, by show e < ((σ 20 s 0 0).toNat : Int); omega⟩
  · show (if ((e.toNat : Nat) : Int) < σ 25 s 0 0 then some (y.1 16 s (σ 24 s ((e.toNat : Nat) : Int) 0)) else none) = some (y.1 16 s (σ 24 s e 0))
    rw [nat_if h0 (by omega), toNat_c h0]
