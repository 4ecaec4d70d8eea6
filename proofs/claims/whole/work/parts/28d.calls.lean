/-! addScribe, addHabit, dropHabit, copy, write of the house -/
/-- a call that answers and may make cells: other names, the house itself where it was -/
def qCU (y : LT) (T : Int) (Res : Int → VT → Prop) (r : Int) (u : US) : Prop := ∃ (y' : LT) (σ' : CS), u = Sum.inl (y', σ') ∧ y'.1 0 0 0 = y.1 0 0 0 ∧ y'.2.2 = y.2.2 ∧ qC T Res r σ'
def qXU (y : LT) (σ : CS) (T : Int) (e1 e2 e3 : String) (E : String) (u : US) : Prop := ∃ σ' : CS, u = Sum.inl (y, σ') ∧ qX σ T e1 e2 e3 E σ'
theorem s_X4_addScribe (l : Launch) (y : LT) (σ : CS) (hp : CI σ) : vMet l yX4_addScribe wsX4_addScribe rm_X4_addScribe y.2.2 UW rkI [.ref (y.1 0 0 0)] (Sum.inl (y, σ)) (qCU y (tAddS (cV σ)) (fun r V => r = cV σ 3 0 0 0 ∧ VE V (nScribe (cV σ)))) (qXU y σ (tAddS (cV σ)) eIS "" "") := m_X4_addScribe (fun K _ C => b_X4_addScribe_0 C s_sizeS (by
  have ns := hp.1.ns
  have e3 : cV σ 3 0 0 0 = σ 3 0 0 0 := rfl
  refine ⟨trivial, by show -2147483648 ≤ σ 3 0 0 0 ∧ σ 3 0 0 0 < 2147483648; omega, fun hc => ?_, fun hc => ⟨σ, rfl, Or.inl ⟨if_pos (by omega), rfl⟩, hp, Cm.rfl⟩⟩
  have hc' : σ 3 0 0 0 < 8 := hc
  exact p_X4_addScribe_1 C hp hc' (fun y' σ' h1 h2 h3 h4 => ⟨y', σ', rfl, h1, h2, if_neg (by omega), h3, rfl, h4.symm⟩)))
theorem s_X4_addHabit (l : Launch) (y : LT) (σ : CS) (s kind x z n : Int) (hp : CI σ) (hs : in32 s ∧ in32 kind ∧ in32 x ∧ in32 z ∧ in32 n) : vMet l yX4_addHabit wsX4_addHabit rm_X4_addHabit y.2.2 UW rkI [.ref (y.1 0 0 0), .int (iZ s), .int (iZ kind), .int (iZ x), .int (iZ z), .int (iZ n)] (Sum.inl (y, σ)) (qCU y (tAddH (cV σ) s kind x z n) (fun r V => r = cV σ 10 s 0 0 + 1 ∧ VE V (nHabit (cV σ) s kind x z n))) (qXU y σ (tAddH (cV σ) s kind x z n) eIO eIA eIS) := m_X4_addHabit (fun K _ C => b_X4_addHabit_0 C s_X4_scribeOf s_X4_isLetter s_sizeH (by
  obtain ⟨h1, h2, h3, h4, h5⟩ := hs
  have e3 : cV σ 3 0 0 0 = σ 3 0 0 0 := rfl
  refine ⟨⟨hp.1, h1⟩, fun E u hx => ⟨u, rfl, Or.inl ⟨if_pos (fun q => hx.1 ⟨q.1, by have := q.2; omega⟩), hx.2.1⟩, by rw [hx.2.2]; exact hp, by rw [hx.2.2]; exact Cm.rfl⟩, fun r τ o => ?_⟩
  obtain ⟨rfl, rfl, m0, m1⟩ := o
  have c := hp.1.s m0 m1
  have e22 := hp.1.e22
  have n1 : ¬ ¬ (0 ≤ r ∧ r < cV τ 3 0 0 0) := fun q => q ⟨m0, by omega⟩
  have e10 : cV τ 10 r 0 0 = τ 13 r 0 0 := rfl
  have two : (¬ (0 ≤ kind ∧ kind ≤ 4) ∨ ¬ (0 ≤ x ∧ x ≤ 25) ∨ ¬ (0 ≤ z ∧ z ≤ 25) ∨ ¬ (1 ≤ n ∧ n ≤ 9)) → qXU y τ (tAddH (cV τ) r kind x z n) eIO eIA eIS eIA (Sum.inl (y, τ)) := fun q => ⟨τ, rfl, Or.inr (Or.inl ⟨by unfold tAddH; rw [if_neg n1, if_pos q], rfl⟩), hp, Cm.rfl⟩
  refine ⟨h2, fun hc => two (Or.inl (by omega)), fun hc => ⟨fun hd => ⟨h3, fun q => two (Or.inr (Or.inl (inB_f.mp q))), fun q => ⟨h4, fun q2 => ⟨h5, fun q3 => two (Or.inr (Or.inr (Or.inr (by omega)))), fun q3 => ⟨fun q4 => ?_, fun q4 => two (Or.inr (Or.inr (Or.inr (by omega))))⟩⟩, fun q2 => two (Or.inr (Or.inr (Or.inl (inB_f.mp q2))))⟩⟩, fun hd => two (Or.inl (by omega))⟩⟩
  have hx := inB_t.mp q
  have hz := inB_t.mp q2
  have ok : ¬ (¬ (0 ≤ kind ∧ kind ≤ 4) ∨ ¬ (0 ≤ x ∧ x ≤ 25) ∨ ¬ (0 ≤ z ∧ z ≤ 25) ∨ ¬ (1 ≤ n ∧ n ≤ 9)) := by omega
  refine ⟨⟨m0, by omega⟩, ⟨m0, by omega⟩, by show -2147483648 ≤ τ 13 r 0 0 ∧ τ 13 r 0 0 < 2147483648; omega, fun q5 => ?_, fun q5 => ?_⟩
  · have q5' : τ 13 r 0 0 < 5 := q5
    exact p_X4_addHabit_1 C hp ⟨m0, m1⟩ q5' ⟨by omega, hx, hz, by omega⟩ (fun y' σ' a1 a2 a3 a4 => ⟨y', σ', rfl, a1, a2, by unfold tAddH; rw [if_neg n1, if_neg ok, if_neg (by omega)], a3, rfl, a4.symm⟩)
  · have q5' : ¬ τ 13 r 0 0 < 5 := q5
    exact ⟨τ, rfl, Or.inr (Or.inr ⟨by unfold tAddH; rw [if_neg n1, if_neg ok, if_pos (by omega)], rfl⟩), hp, Cm.rfl⟩))
theorem s_X4_dropHabit (l : Launch) (y : LT) (σ : CS) (s hh : Int) (hp : CI σ) (hs : in32 s ∧ in32 hh) : vMet l yX4_dropHabit wsX4_dropHabit rm_X4_dropHabit y.2.2 UW rkI [.ref (y.1 0 0 0), .int (iZ s), .int (iZ hh)] (Sum.inl (y, σ)) (qCU y (tDrop (cV σ) s hh) (fun r V => r = cV σ 10 s 0 0 - 1 ∧ VE V (nDrop (cV σ) s hh))) (qXU y σ (tDrop (cV σ) s hh) eIO "" "") := m_X4_dropHabit (fun K _ C => b_X4_dropHabit_0 C s_X4_scribeOf s_sizeH (by
  obtain ⟨h1, h2⟩ := hs
  have e3 : cV σ 3 0 0 0 = σ 3 0 0 0 := rfl
  refine ⟨⟨hp.1, h1⟩, fun E u hx => ⟨u, rfl, Or.inl ⟨if_neg (fun q => hx.1 ⟨q.1.1, by have := q.1.2; omega⟩), hx.2.1⟩, by rw [hx.2.2]; exact hp, by rw [hx.2.2]; exact Cm.rfl⟩, fun r τ o => ?_⟩
  obtain ⟨rfl, rfl, m0, m1⟩ := o
  have c := hp.1.s m0 m1
  have e22 := hp.1.e22
  have e10 : cV τ 10 r 0 0 = τ 13 r 0 0 := rfl
  have bad : ¬ ((0 ≤ r ∧ r < cV τ 3 0 0 0) ∧ 0 ≤ hh ∧ hh < cV τ 10 r 0 0) → qXU y τ (tDrop (cV τ) r hh) eIO "" "" eIO (Sum.inl (y, τ)) := fun q => ⟨τ, rfl, Or.inl ⟨if_neg q, rfl⟩, hp, Cm.rfl⟩
  refine ⟨h2, fun hc => bad (fun q => by omega), fun hc => ⟨⟨m0, by omega⟩, ⟨m0, by omega⟩, by show -2147483648 ≤ τ 13 r 0 0 ∧ τ 13 r 0 0 < 2147483648; omega, fun q5 => ?_, fun q5 => bad (fun q => q5 (by have := q.2.2; exact this))⟩⟩
  have q5' : hh < τ 13 r 0 0 := q5
  exact p_X4_dropHabit_1 C hp ⟨m0, m1⟩ ⟨by omega, q5'⟩ (fun σ' a3 a4 => ⟨y, σ', rfl, rfl, rfl, if_pos ⟨⟨m0, by omega⟩, by omega, by omega⟩, a3, rfl, a4.symm⟩)))
theorem cV_0 (σ : CS) (v : Int) : cV (upC σ 0 (fun _ _ _ => v)) = nTrim (cV σ) v := by
  funext c i j k
  rcases c with _ | _ | _ | _ | _ | _ | _ | _ | _ | _ | _ | c <;> rfl
theorem CI_0 {σ : CS} (h : CI σ) {v : Int} (hv : 0 ≤ v ∧ v ≤ 60) : CI (upC σ 0 (fun _ _ _ => v)) := ⟨⟨⟨hv, h.1.1.2⟩, h.1.2⟩, h.2.1, h.2.2⟩
section KEEP
variable {K : KT} {y : LT} {σ : CS} {cc : ByteArray} {Ts : List Cond} {R : Room} {rm : Room} {n : Nat × Nat} {loc : List (Nat × Value)} {pc index : Nat} {ex sc : Int} {post : Int → US → Prop} {px : String → US → Prop}
end KEEP
theorem p_X4_copy_1 {K : KT} {y : LT} {post : Int → US → Prop} {px : String → US → Prop} (C : C_X4_copy K y post px) {σ : CS} {ex sc : Int} (hp : CI σ) (hn24 : σ 2 0 0 0 < 24) (hex : -1 ≤ ex ∧ ex < σ 2 0 0 0) (hsc : -1 ≤ sc ∧ sc ≤ 7) (hpost : ∀ (y' : LT) (σ' : CS), y'.1 0 0 0 = y.1 0 0 0 → y'.2.2 = y.2.2 → CI σ' → VE (nKeep (cV σ) (tW σ 0) ex sc) (cV σ') → post (σ 2 0 0 0) (Sum.inl (y', σ'))) : P_X4_copy_1 K y σ sc ex := by
  refine c_callV (rest := []) C.1 C.2.2.2.1 C.2.2.2.2.1 (s_kD (l := K.l) hp hn24 hex hsc) (ci := 5) (q := (RX4, TX4, 10)) rfl (c_recv (κ := 0) (i := 0) (j := 0) rfl ⟨rfl, rfl⟩) (fun ht => cwV 2 ht gX4_copy_X4_keepDraft rfl rfl rfl (by decide +kernel) ⟨Nat.le_of_ble_eq_true rfl, Nat.le_of_ble_eq_true rfl⟩) rfl rfl (Nat.le_of_ble_eq_true rfl) ⟨Nat.le_of_ble_eq_true rfl, Nat.le_of_ble_eq_true rfl⟩ dX4_copy_63 (fun r u' hq => ?_)
  obtain ⟨y', σ', rfl, h1, h2, h3, rfl, h4⟩ := hq
  exact y_iret (u := (Sum.inl (y', σ') : US)) (r := σ 2 0 0 0) C.1 C.2.2.1 rfl ⟨Nat.le_of_ble_eq_true rfl, Nat.le_of_ble_eq_true rfl⟩ dX4_copy_66 (hpost y' σ' h1 h2 h3 h4)
theorem p_X4_write_2 {K : KT} {y : LT} {post : Int → US → Prop} {px : String → US → Prop} (C : C_X4_write K y post px) {σ : CS} {ex sc : Int} (hp : CI σ) (hn24 : σ 2 0 0 0 < 24) (hex : -1 ≤ ex ∧ ex < σ 2 0 0 0) (hsc : -1 ≤ sc ∧ sc ≤ 7) (hpost : ∀ (y' : LT) (σ' : CS), y'.1 0 0 0 = y.1 0 0 0 → y'.2.2 = y.2.2 → CI σ' → VE (nKeep (cV σ) (tW σ 0) ex sc) (cV σ') → post (σ 2 0 0 0) (Sum.inl (y', σ'))) : P_X4_write_2 K y σ sc ex := by
  refine c_callV (rest := []) C.1 C.2.2.2.1 C.2.2.2.2.1 (s_kD (l := K.l) hp hn24 hex hsc) (ci := 5) (q := (RX4, TX4, 10)) rfl (c_recv (κ := 0) (i := 0) (j := 0) rfl ⟨rfl, rfl⟩) (fun ht => cwV 2 ht gX4_write_X4_keepDraft rfl rfl rfl (by decide +kernel) ⟨Nat.le_of_ble_eq_true rfl, Nat.le_of_ble_eq_true rfl⟩) rfl rfl (Nat.le_of_ble_eq_true rfl) ⟨Nat.le_of_ble_eq_true rfl, Nat.le_of_ble_eq_true rfl⟩ dX4_write_47 (fun r u' hq => ?_)
  obtain ⟨y', σ', rfl, h1, h2, h3, rfl, h4⟩ := hq
  refine g_goto C.1 (tgt := 54) dX4_write_50 (by decide) ?_
  exact y_iret (u := (Sum.inl (y', σ') : US)) (r := σ 2 0 0 0) C.1 C.2.2.1 rfl ⟨Nat.le_of_ble_eq_true rfl, Nat.le_of_ble_eq_true rfl⟩ dX4_write_54 (hpost y' σ' h1 h2 h3 h4)
theorem s_X4_copy (l : Launch) (y : LT) (σ : CS) (m s : Int) (hp : CI σ) (hs : in32 m ∧ in32 s) : vMet l yX4_copy wsX4_copy rm_X4_copy y.2.2 UW rkI [.ref (y.1 0 0 0), .int (iZ m), .int (iZ s)] (Sum.inl (y, σ)) (qCU y (tCopy (cV σ) m s) (fun r V => r = vN (cV σ) ∧ VE V (nKeep (cV σ) (vCopyW (cV σ) s (vTx (cV σ) m)) m s))) (qXU y σ (tCopy (cV σ) m s) eIO eIS "") := m_X4_copy (fun K _ C => b_X4_copy_0 C s_X4_manuscriptOf s_X4_scribeOf s_sizeM s_X4_draftCopy (by
  obtain ⟨h1, h2⟩ := hs
  have vn := vN_c σ
  have e3 : cV σ 3 0 0 0 = σ 3 0 0 0 := rfl
  refine ⟨⟨hp.1, h1⟩, fun E u hx => ⟨u, rfl, Or.inl ⟨if_pos (Or.inl (fun q => hx.1 ⟨q.1, by have := q.2; omega⟩)), hx.2.1⟩, by rw [hx.2.2]; exact hp, by rw [hx.2.2]; exact Cm.rfl⟩, fun r τ o => ?_⟩
  obtain ⟨rfl, rfl, m0, m1⟩ := o
  refine ⟨⟨hp.1, h2⟩, fun E u hx => ⟨u, rfl, Or.inl ⟨if_pos (Or.inr (fun q => hx.1 ⟨q.1, by have := q.2; omega⟩)), hx.2.1⟩, by rw [hx.2.2]; exact hp, by rw [hx.2.2]; exact Cm.rfl⟩, fun r2 τ2 o => ?_⟩
  obtain ⟨rfl, rfl, s0, s1⟩ := o
  have e21 := hp.1.e21
  have n0 := hp.1.n
  have ns := hp.1.ns
  have c := (hp.1.m m0 m1).1
  have n1 : ¬ (¬ (0 ≤ r ∧ r < vN (cV τ2)) ∨ ¬ (0 ≤ r2 ∧ r2 < cV τ2 3 0 0 0)) := by omega
  have e9 : cV τ2 9 r 0 0 = τ2 12 r 0 0 := rfl
  have bad : (cV τ2 9 r 0 0 = 0 ∨ vN (cV τ2) = 24) → qXU y τ2 (tCopy (cV τ2) r r2) eIO eIS "" eIS (Sum.inl (y, τ2)) := fun q => ⟨τ2, rfl, Or.inr (Or.inl ⟨by unfold tCopy; rw [if_neg n1, if_pos q], rfl⟩), hp, Cm.rfl⟩
  refine ⟨⟨m0, by omega⟩, by omega, fun hc => ⟨trivial, by show -2147483648 ≤ τ2 2 0 0 0 ∧ τ2 2 0 0 0 < 2147483648; omega, fun hd => ?_, fun hd => bad (Or.inr (by have hd' : ¬ τ2 2 0 0 0 < 24 := hd; omega))⟩, fun hc => bad (Or.inl hc)⟩
  have hd' : τ2 2 0 0 0 < 24 := hd
  refine ⟨⟨hp, ⟨m0, m1⟩, ⟨s0, s1⟩, by decide, by decide⟩, fun r12 σ13 o => ?_⟩
  obtain ⟨g1, g2, g3⟩ := o
  have e2 := g1.e2
  refine p_X4_copy_1 C g2 (by omega) ⟨by omega, by omega⟩ ⟨by omega, by omega⟩ (fun y' σ' a1 a2 a3 a4 => ?_)
  refine ⟨y', σ', rfl, a1, a2, by unfold tCopy; rw [if_neg n1, if_neg (by omega)], a3, e2, ?_⟩
  rw [cV_cm g1] at a4
  refine a4.symm.trans (VE.keep VE.rfl ?_ ⟨by omega, by omega⟩)
  have e1 : vTrial (cV τ2) r r2 1 = vCopyW (cV τ2) r2 (vTx (cV τ2) r) := by
    unfold vTrial
    rw [show (1 : Int) = 0 + 1 from rfl, fdT_s _ _ (Int.le_refl 0), fdT_0]
  rw [← e1]
  exact g3))
theorem s_X4_write (l : Launch) (y : LT) (σ : CS) (hp : CI σ) : vMet l yX4_write wsX4_write rm_X4_write y.2.2 UW rkI [.ref (y.1 0 0 0)] (Sum.inl (y, σ)) (qCU y (tWrite (cV σ)) (fun r V => (vGood (cV σ) ∧ r = vN (cV σ) ∧ VE V (nKeep (nTrim (cV σ) 0) (vTape (cV σ)) (-1) (-1))) ∨ (¬ vGood (cV σ) ∧ r = -1 ∧ VE V (nTrim (cV σ) 0)))) (qXU y σ (tWrite (cV σ)) eIS "" "") := m_X4_write (fun K _ C => b_X4_write_0 C s_sizeM s_X4_tapeIsText s_X4_draftFromTape (by
  have n0 := hp.1.n
  have vn := vN_c σ
  refine ⟨trivial, by show -2147483648 ≤ σ 2 0 0 0 ∧ σ 2 0 0 0 < 2147483648; omega, fun hc => ?_, fun hc => ⟨σ, rfl, Or.inl ⟨if_pos (by have hc' : ¬ σ 2 0 0 0 < 24 := hc; omega), rfl⟩, hp, Cm.rfl⟩⟩
  have hc' : σ 2 0 0 0 < 24 := hc
  have hT : tWrite (cV σ) = 0 := if_neg (by omega)
  refine ⟨hp.1, fun q => ?_, fun q => ⟨⟨hp, (good_c hp.1).mp q⟩, fun r τ o => ?_⟩⟩
  · have ng : ¬ vGood (cV σ) := fun g => q ((good_c hp.1).mpr g)
    rw [if_neg q]
    exact b_X4_write_1 C ⟨by decide, fun _ => ⟨y, _, rfl, rfl, rfl, hT, CI_0 hp ⟨by decide, by decide⟩, Or.inr ⟨ng, rfl, by rw [cV_0]; exact VE.rfl⟩⟩, fun z => absurd rfl z⟩
  · have g := (good_c hp.1).mp q
    obtain ⟨g1, g2, g3⟩ := o
    have e2 := g1.e2
    rw [if_pos q]
    refine b_X4_write_1 C ⟨by decide, fun z => absurd z (by decide), fun _ => ?_⟩
    refine p_X4_write_2 C (CI_0 g2 ⟨by decide, by decide⟩) (by show τ 2 0 0 0 < 24; omega) ⟨by decide, by show -1 < τ 2 0 0 0; omega⟩ ⟨by decide, by decide⟩ (fun y' σ' a1 a2 a3 a4 => ?_)
    refine ⟨y', σ', rfl, a1, a2, hT, a3, Or.inl ⟨g, by show τ 2 0 0 0 = σ 2 0 0 0; exact e2, ?_⟩⟩
    rw [cV_0, cV_cm g1] at a4
    exact a4.symm.trans (VE.keep VE.rfl g3 ⟨by decide, by show -1 < σ 2 0 0 0; omega⟩)))
