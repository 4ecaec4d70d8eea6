section
/-! THE CLAIM AS IT IS PRINTED SPEAKS OF NO START: its head word wants the law's own method without a table of exceptions; the law's class file, which the claim wants too, has eight rows there (the law has a try with two catches). So both arms hold of nothing, and the witness can't be. This says nothing about the class. -/
theorem e_eight : (classFile.methodOf? x).any (fun m => m.code.any (fun q => q.2.2 == 8)) = true := by decide +kernel
theorem e_code : classFile.hasCode x code maxLocals ret = false := by decide +kernel
theorem e_lists (l : Launch) : ¬ Lists l classFile x code maxLocals ret tables_1 room_1 := by
  rintro ⟨-, hf, ⟨hc, -⟩, -⟩
  have h := hc (x, code, maxLocals, ret) (List.mem_append_left _ (List.mem_append_left _ List.mem_cons_self))
  have hf' : l.file? ((x, code, maxLocals, ret) : MethodName × ByteArray × Nat × Option FieldType).1.cls = some classFile := hf
  rw [hf', Option.any_some] at h
  exact absurd (e_code.symm.trans h) (by decide)
theorem e_witness : ¬ WitnessClaimed_1 := by
  rintro ⟨p, e, s, m, args, below, h⟩
  exact e_lists launch0 h.1
theorem i_vc : Claimed_1_1 ∧ Claimed_1_2 := ⟨fun l _ hL _ => absurd hL (e_lists l), fun l _ hL _ => absurd hL (e_lists l)⟩
end
