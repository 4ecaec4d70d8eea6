/-! decay on both sides -/
theorem rkD_v {S : Type} {u : S} {s t : Int} (hs : 0 ≤ s ∧ s < 100000) (ht : 0 ≤ t ∧ t < 100) : rkD u (t * 100000 + s) = some (.double (decD s t)) := by
  unfold rkD
  rw [show (t * 100000 + s) % 100000 = s from by omega, show (t * 100000 + s) / 100000 = t from by omega]
theorem decD_0 (s : Int) : decD s 0 = FP.dconst0 := if_pos rfl
theorem decD_n {s t : Int} (h : ¬ t = 0) : decD s t = FP.ddiv (FP.i2d (iZ s)) (FP.i2d (iZ t)) := if_neg h
def sD1 (V : VT) : Int → Int := fun m => if ¬ V 9 m 0 0 = 0 then vD V m (org (vEx V) m) else 0
def sD2 (V : VT) : Int → Int := fun m => if ¬ V 9 m 0 0 = 0 then 1 else 0
theorem sD1_in {V : VT} (o : VO V) {m : Int} (h0 : 0 ≤ m) (h1 : m < vN V) : 0 ≤ sD1 V m ∧ sD1 V m ≤ 120 := by
  have og := org_in o.2.2.1 h0 h1
  have x : 0 ≤ vD V m (org (vEx V) m) ∧ vD V m (org (vEx V) m) ≤ 120 := levW_in (o.2.2.2.1 m h0 h1) (o.2.2.2.1 _ og.1 (by omega))
  unfold sD1
  split <;> omega
theorem sD2_in (V : VT) (m : Int) : 0 ≤ sD2 V m ∧ sD2 V m ≤ 1 := by
  unfold sD2
  split <;> omega
theorem sD_b {V : VT} (o : VO V) : (0 ≤ vSum V ∧ vSum V < 100000) ∧ 0 ≤ vThere V ∧ vThere V < 100 := by
  have n := o.1
  have a := sumI_in (f := sD1 V) 120 (vN V) n.1 (fun k x z => sD1_in o x z)
  have b := sumI_in (f := sD2 V) 1 (vN V) n.1 (fun k x z => sD2_in V k)
  have e1 : vSum V = sumI (sD1 V) (vN V) := rfl
  have e2 : vThere V = sumI (sD2 V) (vN V) := rfl
  omega
theorem p_X4_decay_2 {K : KT} {y : LT} {post : Int → CS → Prop} (C : C_X4_decay K y post) {σ : CS} {s t : Int} (hs : 0 ≤ s ∧ s < 100000) (ht : 0 ≤ t ∧ t < 100) (hp : post (t * 100000 + s) σ) : P_X4_decay_2 K y σ s t := by
  refine g_iload_n C.1 1 dX4_decay_61 rfl rfl ?_
  refine g_if_ne C.1 (tgt := 69) dX4_decay_62 (by decide) (by omega) (fun hc => ?_) (fun hc => ?_)
  · refine g_iload_n C.1 0 dX4_decay_69 rfl rfl ?_
    refine g_i2d C.1 dX4_decay_70 ?_
    refine g_iload_n C.1 1 dX4_decay_71 rfl rfl ?_
    refine g_i2d C.1 dX4_decay_72 ?_
    refine g_ddiv C.1 (dd_num ⟨by omega, hc⟩) dX4_decay_73 ?_
    refine x_dret (u := σ) (r := t * 100000 + s) C.1 C.2.2.1 ?_ ⟨Nat.le_of_ble_eq_true rfl, Nat.le_of_ble_eq_true rfl⟩ dX4_decay_74 hp
    rw [rkD_v hs ht, decD_n hc]
  · refine g_dconst0 C.1 dX4_decay_65 ?_
    refine g_goto C.1 (tgt := 74) dX4_decay_66 (by decide) ?_
    refine x_dret (u := σ) (r := t * 100000 + s) C.1 C.2.2.1 ?_ ⟨Nat.le_of_ble_eq_true rfl, Nat.le_of_ble_eq_true rfl⟩ dX4_decay_74 hp
    rw [rkD_v hs ht, hc, decD_0]
theorem s_X4_decay : H_X4_decay (fun σ => CI σ) (fun σ r σ' => qA σ 0 (vThere (cV σ) * 100000 + vSum (cV σ)) r σ') := fun l y σ hp => m_X4_decay (fun K _ C => b_X4_decay_0 C (by
  have n := hp.1.n
  have o := VO_c hp
  have bb := sD_b o
  refine loop_up (P := fun i => ∀ τ : CS, Cs σ τ → CK τ → P_X4_decay_1 K y τ (sumI (sD1 (cV σ)) i) (sumI (sD2 (cV σ)) i) i) 0 (σ 2 0 0 0) (fun i h0 h1 ih τ cs ck => ?_) 0 (Int.le_refl _) n.1 σ Cs.rfl hp.2.2
  obtain ⟨cI, ev, f2, f21, ff⟩ := hp.csE cs ck
  have e21 := cI.1.e21
  refine b_X4_decay_1 C s_sizeM s_getM s_X1_origin s_X4_measure ⟨trivial, by omega, by show -2147483648 ≤ τ 2 0 0 0 ∧ τ 2 0 0 0 < 2147483648; omega, fun hc => ?_, fun hc => ?_⟩
  · have hc' : τ 2 0 0 0 ≤ i := hc
    rw [show i = σ 2 0 0 0 from by omega]
    exact p_X4_decay_2 C bb.1 bb.2 ⟨rfl, rfl, cI, cs.cm⟩
  · have hc' : ¬ τ 2 0 0 0 ≤ i := hc
    have t12 : τ 12 i 0 0 = σ 12 i 0 0 := ff 12 i 0 0 (by decide) (by decide) (by decide)
    have c12 := (hp.1.m h0 (show i < σ 2 0 0 0 by omega)).1
    have eo : (fun m => τ 9 m 0 0) = vEx (cV σ) := funext fun m => ff 9 m 0 0 (by decide) (by decide) (by decide)
    have og := org_in o.2.2.1 h0 (show i < vN (cV σ) by show i < σ 2 0 0 0; omega)
    refine ⟨⟨cI.1, h0, by omega⟩, ⟨h0, by omega⟩, by rw [t12]; omega, fun q => ?_, fun q => ⟨⟨cI.1, h0, by omega⟩, ⟨cI, ⟨h0, by omega⟩, by show 0 ≤ org (fun m => τ 9 m 0 0) i; rw [eo]; exact og.1, by show org (fun m => τ 9 m 0 0) i < τ 2 0 0 0; rw [eo]; omega⟩, fun r ρ w => ?_⟩⟩
    · have h9 := ih (by omega) τ cs ck
      rw [sumI_s _ h0, sumI_s _ h0] at h9
      have z1 : sD1 (cV σ) i = 0 := if_neg (fun x => x (by show σ 12 i 0 0 = 0; omega))
      have z2 : sD2 (cV σ) i = 0 := if_neg (fun x => x (by show σ 12 i 0 0 = 0; omega))
      rw [z1, z2, Int.add_zero, Int.add_zero] at h9
      exact h9
    · obtain ⟨w1, w2, w3⟩ := w
      have h9 := ih (by omega) ρ (cs.trans w1) w2
      rw [sumI_s _ h0, sumI_s _ h0] at h9
      have z1 : sD1 (cV σ) i = r := by
        rw [w3, ev]
        show (if ¬ σ 12 i 0 0 = 0 then vD (cV σ) i (org (vEx (cV σ)) i) else 0) = vD (cV σ) i (org (fun m => τ 9 m 0 0) i)
        rw [if_pos (by omega), eo]
      have z2 : sD2 (cV σ) i = 1 := if_pos (by show ¬ σ 12 i 0 0 = 0; omega)
      rw [z1, z2] at h9
      exact h9))
theorem p_X5_decay_2 {K : KT} {L : Nat → Nat} {c : Nat → ClassId} {post : Int → MS → Prop} (C : C_X5_decay K L c post) {σ : MS} {s t : Int} (hm : MO σ) (hs : 0 ≤ s ∧ s < 100000) (ht : 0 ≤ t ∧ t < 100) (e : vThere (mV σ) = t) (hp : post (t * 100000 + s) σ) : P_X5_decay_2 K L c σ s := by
  refine g_aload_n C.1 0 dX5_decay_49 rfl rfl ?_
  refine x_callV C.1 (s_X5_there K.l L c σ hm) (ci := 6) (q := (RX5, TX5, 17)) rfl m_recv (fun ht => cwV 0 ht gX5_decay_X5_there rfl rfl rfl (by decide +kernel) ⟨Nat.le_of_ble_eq_true rfl, Nat.le_of_ble_eq_true rfl⟩) rfl rfl (Nat.le_of_ble_eq_true rfl) ⟨Nat.le_of_ble_eq_true rfl, Nat.le_of_ble_eq_true rfl⟩ dX5_decay_50 (fun r σ9 hq => ?_)
  rw [hq.1, hq.2]
  show G K (MW L c [] [] σ) (0, 0) [(0, .ref (L 0)), (1, .int (iZ s))] 53 [.int (iZ (vThere (mV σ)))]
  rw [e]
  refine g_if_ne C.1 (tgt := 60) dX5_decay_53 (by decide) (by omega) (fun hc => ?_) (fun hc => ?_)
  · refine g_iload_n C.1 1 dX5_decay_60 rfl rfl ?_
    refine g_i2d C.1 dX5_decay_61 ?_
    refine g_aload_n C.1 0 dX5_decay_62 rfl rfl ?_
    refine x_callV C.1 (s_X5_there K.l L c σ hm) (ci := 6) (q := (RX5, TX5, 17)) rfl m_recv (fun ht => cwV 0 ht gX5_decay_X5_there rfl rfl rfl (by decide +kernel) ⟨Nat.le_of_ble_eq_true rfl, Nat.le_of_ble_eq_true rfl⟩) rfl rfl (Nat.le_of_ble_eq_true rfl) ⟨Nat.le_of_ble_eq_true rfl, Nat.le_of_ble_eq_true rfl⟩ dX5_decay_63 (fun r σ9 hq => ?_)
    rw [hq.1, hq.2]
    show G K (MW L c [] [] σ) (0, 0) [(0, .ref (L 0)), (1, .int (iZ s))] 66 [.int (iZ (vThere (mV σ))), .double (FP.i2d (iZ s))]
    rw [e]
    refine g_i2d C.1 dX5_decay_66 ?_
    refine g_ddiv C.1 (dd_num ⟨by omega, hc⟩) dX5_decay_67 ?_
    refine x_dret (u := σ) (r := t * 100000 + s) C.1 C.2.2 ?_ ⟨Nat.le_of_ble_eq_true rfl, Nat.le_of_ble_eq_true rfl⟩ dX5_decay_68 hp
    rw [rkD_v hs ht, decD_n hc]
  · refine g_dconst0 C.1 dX5_decay_56 ?_
    refine g_goto C.1 (tgt := 68) dX5_decay_57 (by decide) ?_
    refine x_dret (u := σ) (r := t * 100000 + s) C.1 C.2.2 ?_ ⟨Nat.le_of_ble_eq_true rfl, Nat.le_of_ble_eq_true rfl⟩ dX5_decay_68 hp
    rw [rkD_v hs ht, hc, decD_0]
theorem s_X5_decay : H_X5_decay (fun σ => MI σ) (fun σ r σ' => oQ σ 0 (vThere (mV σ) * 100000 + vSum (mV σ)) r σ') := fun l L c σ hp => m_X5_decay (fun K _ C => b_X5_decay_0 C (by
  have n := hp.1.n
  have o := VO_m hp.1
  have bb := sD_b o
  have fact : ∀ τ : MS, Sm (upM σ 0 (fun _ => 0)) τ → KI τ → MI τ ∧ mV τ = mV σ := fun τ a b => ⟨(hp.u0 _).sm a b, by rw [mV_sm a, mV_s0 (S0.u0 σ _)]⟩
  refine loop_up (P := fun i => ∀ τ : MS, Sm (upM σ 0 (fun _ => 0)) τ → KI τ → P_X5_decay_1 K L c τ (sumI (sD1 (mV σ)) i) i) 0 (σ 3 0) (fun i h0 h1 ih τ sm ki => ?_) 0 (Int.le_refl _) n.1 _ Sm.rfl (hp.u0 _).2
  obtain ⟨mi, ev⟩ := fact τ sm ki
  have t3 : τ 3 0 = σ 3 0 := congrFun (sm 3 (by decide)) 0
  have t8 : τ 8 = σ 8 := sm 8 (by decide)
  have t6 : τ 6 = σ 6 := sm 6 (by decide)
  refine b_X5_decay_1 C s_X5_origin s_X5_apart ⟨by omega, by omega, fun hc => ?_, fun hc => ?_⟩
  · rw [show i = σ 3 0 from by omega]
    exact p_X5_decay_2 C mi.1 bb.1 bb.2 (by rw [ev]) (oQ.a hp sm ki rfl rfl)
  · have c8 := hp.1.th h0 (show i < σ 3 0 by omega)
    have og := org_in o.2.2.1 h0 (show i < vN (mV σ) by show i < σ 3 0; omega)
    have eo : org (τ 6) i = org (vEx (mV σ)) i := by rw [t6]; rfl
    refine ⟨by omega, by rw [t8]; omega, fun q => ?_, fun q => ⟨⟨mi.1, h0, by omega⟩, ⟨mi, ⟨h0, by omega⟩, by show 0 ≤ org (τ 6) i; rw [eo]; exact og.1, by show org (τ 6) i < τ 3 0; rw [eo]; omega⟩, fun r ρ w => ?_⟩⟩
    · have h9 := ih (by omega) τ sm ki
      rw [sumI_s _ h0] at h9
      rw [t8] at q
      have z1 : sD1 (mV σ) i = 0 := if_neg (fun x => x q)
      rw [z1] at h9
      exact h9
    · obtain ⟨w1, w2, w3⟩ := w
      have h9 := ih (by omega) ρ (sm.trans w1) w2
      rw [sumI_s _ h0] at h9
      rw [t8] at q
      have z1 : sD1 (mV σ) i = r := by
        rw [w3, ev]
        show (if ¬ σ 8 i = 0 then vD (mV σ) i (org (vEx (mV σ)) i) else 0) = vD (mV σ) i (org (τ 6) i)
        rw [if_pos q, eo]
      rw [z1] at h9
      exact h9))
