/-! THE MEAN: a quotient of whole numbers is a number -/
theorem rr_num (f : FP.Core.Fmt) (s : Bool) (num den : Nat) (e : Int) : FP.Core.roundRatio f s num den e ≠ .nan := by
  unfold FP.Core.roundRatio
  split
  · intro h; cases h
  · unfold FP.Core.roundAt FP.Core.settle FP.Core.bound
    split <;> split <;> intro h <;> cases h
theorem dd_num {a b : Int} (hb : (-2147483648 ≤ b ∧ b < 2147483648) ∧ ¬ b = 0) : vf_n64 (FP.ddiv (FP.i2d (iZ a)) (FP.i2d (iZ b))) := by
  have h1 : FP.Core.Whole (iZ a).toInt (FP.Core.val64 (FP.Core.i2d (iZ a))) := FP.Core.i2d_int (iZ a)
  have h2 : FP.Core.Whole (iZ b).toInt (FP.Core.val64 (FP.Core.i2d (iZ b))) := FP.Core.i2d_int (iZ b)
  have hv := FP.Core.val64_ddiv (FP.Core.i2d (iZ a)) (FP.Core.i2d (iZ b))
  rw [iZ_toInt hb.1] at h2
  have hn : FP.Core.val64 (FP.Core.ddiv (FP.Core.i2d (iZ a)) (FP.Core.i2d (iZ b))) ≠ .nan := by
    rw [hv]
    cases hx : FP.Core.val64 (FP.Core.i2d (iZ a)) with
    | nan => rw [hx] at h1; exact h1.elim
    | inf s => rw [hx] at h1; exact h1.elim
    | fin s c q =>
      cases hy : FP.Core.val64 (FP.Core.i2d (iZ b)) with
      | nan => rw [hy] at h2; exact h2.elim
      | inf s => rw [hy] at h2; exact h2.elim
      | fin t d r =>
        have hd : ¬ d = 0 := fun z => by
          rw [hy] at h2
          have h3 : FP.Core.signed t (d * 2 ^ r.toNat) = b * ((2 ^ (-r).toNat : Nat) : Int) := h2
          rw [z, Nat.zero_mul] at h3
          have h4 : FP.Core.signed t 0 = 0 := by cases t <;> rfl
          rw [h4] at h3
          rcases Int.mul_eq_zero.mp h3.symm with h5 | h5
          · exact hb.2 h5
          · have h6 : 0 < 2 ^ (-r).toNat := Nat.pow_pos (by decide)
            omega
        show (if d = 0 then (if c = 0 then FP.Core.Datum.nan else .inf (s != t)) else FP.Core.roundRatio FP.Core.b64 (s != t) c d (q - r)) ≠ .nan
        rw [if_neg hd]
        exact rr_num _ _ _ _ _
  show vf_n64 (FP.Core.ddiv (FP.Core.i2d (iZ a)) (FP.Core.i2d (iZ b)))
  generalize FP.Core.ddiv (FP.Core.i2d (iZ a)) (FP.Core.i2d (iZ b)) = x at hn ⊢
  have h3 : ¬ FP.Core.infBits FP.Core.b64 < FP.Core.mag FP.Core.b64 x.toNat := fun z => hn ((FP.Core.decode_nan (f := FP.Core.b64) x.toNat).mpr z)
  have e1 : FP.Core.infBits FP.Core.b64 = 0x7ff0000000000000 := by decide +kernel
  have e2 : FP.Core.half FP.Core.b64 = 2 ^ 63 := by decide +kernel
  have e3 : FP.Core.mag FP.Core.b64 x.toNat = x.toNat % 2 ^ 63 := by
    show x.toNat % FP.Core.half FP.Core.b64 = _
    rw [e2]
  rw [e1, e3] at h3
  show x &&& 0x7fffffffffffffff ≤ 0x7ff0000000000000
  rw [UInt64.le_iff_toNat_le, UInt64.toNat_and]
  have e4 : (0x7fffffffffffffff : UInt64).toNat = 2 ^ 63 - 1 := by decide
  have e5 : (0x7ff0000000000000 : UInt64).toNat = 0x7ff0000000000000 := by decide
  rw [e4, e5, Nat.and_two_pow_sub_one_eq_mod]
  omega
def decD (s t : Int) : UInt64 := if t = 0 then FP.dconst0 else FP.ddiv (FP.i2d (iZ s)) (FP.i2d (iZ t))
/-- a double that a call answers: r is how many are there, and behind it the sum -/
def rkD {S : Type} : S → Int → Option Value := fun _ r => some (.double (decD (r % 100000) (r / 100000)))
section DROWS
variable {K : KT} {cc : ByteArray} {own : String} {Ts : List Cond} {ret : Option FieldType} {R : Room} {Wd : WdT} {n : Nat × Nat} {loc : List (Nat × Value)} {pc : Nat} {st : List Value}
theorem g_i2d (C : kOK K cc own Ts ret R) {x : Int32} (hd : decode cc pc = .ok (.i2d, 1)) (k : G K Wd n loc (pc + 1) (.double (FP.i2d x) :: st)) : G K Wd n loc pc (.int x :: st) :=
  fun ws tys H locs arr a b c d e f => lv_i2d C.1 C.2.1 hd (k ws tys H locs arr a b c d e f)
theorem g_ddiv (C : kOK K cc own Ts ret R) {x y : UInt64} (hne : vf_n64 (FP.ddiv x y)) (hd : decode cc pc = .ok (.ddiv, 1)) (k : G K Wd n loc (pc + 1) (.double (FP.ddiv x y) :: st)) : G K Wd n loc pc (.double y :: .double x :: st) :=
  fun ws tys H locs arr a b c d e f => lv_ddiv C.1 C.2.1 hd hne (k ws tys H locs arr a b c d e f)
theorem g_dconst0 (C : kOK K cc own Ts ret R) (hd : decode cc pc = .ok (.dconst 0, 1)) (k : G K Wd n loc (pc + 1) (.double FP.dconst0 :: st)) : G K Wd n loc pc st :=
  fun ws tys H locs arr a b c d e f => lv_dconst0 C.1 C.2.1 hd (k ws tys H locs arr a b c d e f)
end DROWS
