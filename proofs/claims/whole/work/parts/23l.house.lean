/-! feed in the house -/
theorem sh_bv (b : BitVec 32) (k : Nat) (hk : k ≤ 24) : (b.sshiftRight k) &&& 255#32 = (b >>> k) &&& 255#32 := by
  apply BitVec.eq_of_getLsbD_eq
  intro i hi
  rw [BitVec.getLsbD_and, BitVec.getLsbD_and, BitVec.getLsbD_sshiftRight, BitVec.getLsbD_ushiftRight]
  by_cases h8 : i < 8
  · have h1 : ¬ 32 ≤ i := by omega
    have h2 : k + i < 32 := by omega
    simp [h1, h2]
  · have : (255#32).getLsbD i = false := by
      rw [BitVec.getLsbD_ofNat]
      have : (255 : Nat).testBit i = false := Nat.testBit_lt_two_pow (Nat.lt_of_lt_of_le (by decide : 255 < 2 ^ 8) (Nat.pow_le_pow_right (by decide) (by omega)))
      rw [this, Bool.and_false]
    rw [this, Bool.and_false, Bool.and_false]
theorem byte_eq (x : Int) {s : Int} (hs : s = 0 ∨ s = 8 ∨ s = 16 ∨ s = 24) : zAnd (zUshr x s) 255 = zAnd (zShr x s) 255 := by
  unfold zAnd zUshr zShr
  rw [iZ_self, iZ_self]
  congr 1
  apply Int32.toBitVec_inj.mp
  rcases hs with rfl | rfl | rfl | rfl
  · exact (sh_bv (iZ x).toBitVec 0 (by decide)).symm
  · exact (sh_bv (iZ x).toBitVec 8 (by decide)).symm
  · exact (sh_bv (iZ x).toBitVec 16 (by decide)).symm
  · exact (sh_bv (iZ x).toBitVec 24 (by decide)).symm
