/-! feed in the house -/
theorem sh_bv (b : BitVec 32) (k : Nat) (hk : k ≤ 24) : (b.sshiftRight k) &&& 255#32 = (b >>> k) &&& 255#32 := by
  apply BitVec.eq_of_getLsbD_eq
  intro i hi
  rw [BitVec.getLsbD_and, BitVec.getLsbD_and, BitVec.getLsbD_sshiftRight, BitVec.getLsbD_ushiftRight]
  by_cases h8 : i < 8
  · have h1 : ¬ 32 ≤ i := by omega
    have h2 : k + i < 32 := by omega
    simp [h1, h2]
  · have : (255#32).getLsbD i = false := by
      rw [BitVec.getLsbD_ofNat]
      have : (255 : Nat).testBit i = false := Nat.testBit_lt_two_pow (Nat.lt_of_lt_of_le (by decide : 255 < 2 ^ 8) (Nat.pow_le_pow_right (by decide) (by omega)))
      rw [this, Bool.and_false]
    rw [this, Bool.and_false, Bool.and_false]
theorem byte_eq (x : Int) {s : Int} (hs : s = 0 ∨ s = 8 ∨ s = 16 ∨ s = 24) : zAnd (zUshr x s) 255 = zAnd (zShr x s) 255 := by
  unfold zAnd zUshr zShr
  rw [iZ_self, iZ_self]
  congr 1
  apply Int32.toBitVec_inj.mp
  rcases hs with rfl | rfl | rfl | rfl
  · exact (sh_bv (iZ x).toBitVec 0 (by decide)).symm
  · exact (sh_bv (iZ x).toBitVec 8 (by decide)).symm
  · exact (sh_bv (iZ x).toBitVec 16 (by decide)).symm
  · exact (sh_bv (iZ x).toBitVec 24 (by decide)).symm
theorem s_X4_feedNumber : H_X4_feedNumber (fun σ x => 0 ≤ σ 0 0 0 0 ∧ σ 0 0 0 0 ≤ 56) (fun σ x _ σ' => (∀ c, ¬ c = 0 → ¬ c = 1 → σ' c = σ c) ∧ σ' 0 0 0 0 = σ 0 0 0 0 + 4 ∧ ∀ i, σ' 1 i 0 0 = if σ 0 0 0 0 ≤ i ∧ i < σ 0 0 0 0 + 4 then byt x (3 - (i - σ 0 0 0 0)) else σ 1 i 0 0) := fun l y σ x hp => m_X4_feedNumber (fun K _ C => b_X4_feedNumber_0 C (by
  have key := loop_dn (P := fun k => ∀ τ : CS, (∀ c, ¬ c = 0 → ¬ c = 1 → τ c = σ c) → τ 0 0 0 0 = σ 0 0 0 0 + (3 - k) → (∀ i, τ 1 i 0 0 = if σ 0 0 0 0 ≤ i ∧ i < σ 0 0 0 0 + (3 - k) then byt x (3 - (i - σ 0 0 0 0)) else σ 1 i 0 0) → P_X4_feedNumber_1 K y τ x (8 * k)) 3 (-1) (fun k k0 k1 ih τ e1 e2 e3 => ?_) 3 (by decide) (by decide) σ (fun _ _ _ => rfl) (by omega) (fun i => by rw [if_neg (by omega)])
  · exact key
  refine b_X4_feedNumber_1 C ?_
  rw [e2]
  refine ⟨by omega, fun hc => ⟨e1, by omega, fun i => by rw [e3 i, show k = -1 from by omega]; rfl⟩, fun hc => ⟨by omega, fun hd => by omega, fun hd => ⟨by omega, ?_⟩⟩⟩
  rw [show 8 * k + (-8) = 8 * (k - 1) from by omega]
  refine ih (by omega) _ (fun c a b => by rw [upC_n _ _ a, upC_n _ _ b]; exact e1 c a b) (by show σ 0 0 0 0 + (3 - k) + 1 = _; omega) (fun i => ?_)
  show up1 (τ 1) (σ 0 0 0 0 + (3 - k)) (zAnd (zUshr x (8 * k)) 255) i 0 0 = _
  by_cases hi : i = σ 0 0 0 0 + (3 - k)
  · rw [hi, up1_s, if_pos (by omega), byte_eq x (by omega), show 3 - (σ 0 0 0 0 + (3 - k) - σ 0 0 0 0) = k from by omega]; rfl
  · rw [up1_n _ _ _ _ hi, e3 i]
    by_cases hq : σ 0 0 0 0 ≤ i ∧ i < σ 0 0 0 0 + (3 - k)
    · rw [if_pos hq, if_pos (by omega)]
    · rw [if_neg hq, if_neg (by omega)]))
theorem byt_in (x k : Int) : 0 ≤ byt x k ∧ byt x k ≤ 255 := zAnd255 _
theorem s_X4_feed : H_X4_feed (fun σ a b d e f => CI σ ∧ in32 a ∧ in32 b ∧ in32 d ∧ in32 e ∧ in32 f) (fun σ a b d e f r σ' => qC (tFeed (cV σ)) (fun r V => r = cV σ 0 0 0 0 + 20 ∧ VE V (nFeed (cV σ) a b d e f)) r σ') (fun σ a b d e f E σ' => qX σ (tFeed (cV σ)) eIS "" "" E σ') := fun l y σ a b d e f hp => m_X4_feed (fun K _ C => b_X4_feed_0 C s_X4_feedNumber (by
  have hp := hp.1
  have tl := hp.1.tl
  have e0 : cV σ 0 0 0 0 = σ 0 0 0 0 := rfl
  refine ⟨by omega, fun hc => ⟨by omega, fun r3 σ4 o1 => ⟨by omega, fun r6 σ7 o2 => ⟨by omega, fun r9 σ10 o3 => ⟨by omega, fun r12 σ13 o4 => ⟨by omega, fun r15 ω o5 => ?_⟩⟩⟩⟩⟩, fun hc => ⟨Or.inl ⟨if_neg (by omega), rfl⟩, hp, Cm.rfl⟩⟩
  have hT : tFeed (cV σ) = 0 := if_pos (by omega)
  have vf : ∀ c, ¬ c = 0 → ¬ c = 1 → ω c = σ c := fun c x z => by rw [o5.1 c x z, o4.1 c x z, o3.1 c x z, o2.1 c x z, o1.1 c x z]
  have l1 := o1.2.1
  have l2 := o2.2.1
  have l3 := o3.2.1
  have l4 := o4.2.1
  have l5 := o5.2.1
  have lw : ω 0 0 0 0 = σ 0 0 0 0 + 20 := by omega
  have tv : ∀ i, ω 1 i 0 0 = if σ 0 0 0 0 ≤ i ∧ i < σ 0 0 0 0 + 20 then byt (pk5 a b d e f ((i - σ 0 0 0 0) / 4)) (3 - (i - σ 0 0 0 0) % 4) else σ 1 i 0 0 := fun i => by
    by_cases q : σ 0 0 0 0 ≤ i ∧ i < σ 0 0 0 0 + 20
    · rw [if_pos q]
      have hj : (i - σ 0 0 0 0) / 4 = 0 ∨ (i - σ 0 0 0 0) / 4 = 1 ∨ (i - σ 0 0 0 0) / 4 = 2 ∨ (i - σ 0 0 0 0) / 4 = 3 ∨ (i - σ 0 0 0 0) / 4 = 4 := by omega
      rcases hj with hj | hj | hj | hj | hj
      · rw [o5.2.2 i, if_neg (by omega), o4.2.2 i, if_neg (by omega), o3.2.2 i, if_neg (by omega), o2.2.2 i, if_neg (by omega), o1.2.2 i, if_pos (by omega), hj, show 3 - (i - σ 0 0 0 0) = 3 - (i - σ 0 0 0 0) % 4 from by omega]; rfl
      · rw [o5.2.2 i, if_neg (by omega), o4.2.2 i, if_neg (by omega), o3.2.2 i, if_neg (by omega), o2.2.2 i, if_pos (by omega), hj, show 3 - (i - σ4 0 0 0 0) = 3 - (i - σ 0 0 0 0) % 4 from by omega]; rfl
      · rw [o5.2.2 i, if_neg (by omega), o4.2.2 i, if_neg (by omega), o3.2.2 i, if_pos (by omega), hj, show 3 - (i - σ7 0 0 0 0) = 3 - (i - σ 0 0 0 0) % 4 from by omega]; rfl
      · rw [o5.2.2 i, if_neg (by omega), o4.2.2 i, if_pos (by omega), hj, show 3 - (i - σ10 0 0 0 0) = 3 - (i - σ 0 0 0 0) % 4 from by omega]; rfl
      · rw [o5.2.2 i, if_pos (by omega), hj, show 3 - (i - σ13 0 0 0 0) = 3 - (i - σ 0 0 0 0) % 4 from by omega]; rfl
    · rw [if_neg q, o5.2.2 i, if_neg (by omega), o4.2.2 i, if_neg (by omega), o3.2.2 i, if_neg (by omega), o2.2.2 i, if_neg (by omega), o1.2.2 i, if_neg (by omega)]
  have w2 : ω 2 0 0 0 = σ 2 0 0 0 := by rw [vf 2 (by decide) (by decide)]
  have tw : ∀ k, tW ω k = tW σ k := fun k => by unfold tW; rw [vf 5 (by decide) (by decide), vf 6 (by decide) (by decide)]
  refine ⟨hT, ⟨?_, fun k x z => by rw [tw]; exact hp.2.1 k x (by rw [w2] at z; exact z), fun a b x0 x1 z0 z1 => ?_⟩, lw, lw, fun i x z => ?_, w2, by show ω 3 0 0 0 = σ 3 0 0 0; rw [vf 3 (by decide) (by decide)], fun m x z => ⟨?_, by show ω 9 m 0 0 = σ 9 m 0 0; rw [vf 9 (by decide) (by decide)], by show ω 10 m 0 0 = σ 10 m 0 0; rw [vf 10 (by decide) (by decide)], by show ω 11 m 0 0 = σ 11 m 0 0; rw [vf 11 (by decide) (by decide)], by show ω 12 m 0 0 = σ 12 m 0 0; rw [vf 12 (by decide) (by decide)]⟩, fun s x z => ⟨by show ω 13 s 0 0 = σ 13 s 0 0; rw [vf 13 (by decide) (by decide)], fun k _ _ p _ _ => by show ω 14 s (ω 24 s k 0) p = σ 14 s (σ 24 s k 0) p; rw [vf 14 (by decide) (by decide), vf 24 (by decide) (by decide)]⟩⟩
  · have hC := hp.1
    unfold CO cHa at hC ⊢
    rw [lw, vf 2 (by decide) (by decide), vf 3 (by decide) (by decide), vf 9 (by decide) (by decide), vf 10 (by decide) (by decide), vf 11 (by decide) (by decide), vf 12 (by decide) (by decide), vf 13 (by decide) (by decide), vf 14 (by decide) (by decide), vf 18 (by decide) (by decide), vf 19 (by decide) (by decide), vf 20 (by decide) (by decide), vf 21 (by decide) (by decide), vf 22 (by decide) (by decide), vf 23 (by decide) (by decide), vf 24 (by decide) (by decide), vf 25 (by decide) (by decide), vf 26 (by decide) (by decide), vf 27 (by decide) (by decide)]
    refine ⟨⟨by omega, hC.1.2⟩, hC.2.1, hC.2.2.1, hC.2.2.2.1, fun i x z => ?_⟩
    rw [tv i]
    by_cases q : σ 0 0 0 0 ≤ i ∧ i < σ 0 0 0 0 + 20
    · rw [if_pos q]; exact byt_in _ _
    · rw [if_neg q]; exact hp.1.tb x z
  · rw [w2] at x1 z1
    have ed : vD (cV ω) a b = vD (cV σ) a b := by rw [cD x0 z0, cD x0 z0, tw, tw]
    rw [vf 4 (by decide) (by decide), ed]
    exact hp.2.2 a b x0 x1 z0 z1
  · have z' : i < ω 0 0 0 0 := z
    have e9 : nFeed (cV σ) a b d e f 1 i 0 0 = if i < σ 0 0 0 0 then σ 1 i 0 0 else byt (pk5 a b d e f ((i - σ 0 0 0 0) / 4)) (3 - (i - σ 0 0 0 0) % 4) := rfl
    rw [e9]
    show ω 1 i 0 0 = _
    rw [tv i]
    by_cases q : i < σ 0 0 0 0
    · rw [if_pos q, if_neg (by omega)]
    · rw [if_neg q, if_pos (by omega)]
  · show eqW (vTx (cV ω) m) (vTx (cV σ) m)
    rw [cTx ω x, cTx σ x, tw]
    exact eqW.rfl))
