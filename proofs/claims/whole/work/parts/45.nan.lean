/-! ===== a NaN is not equal to itself ===== -/
theorem nan_val {x : UInt64} (h : isNaN64 x = true) : Jvm.FP.Core.val64 x = .nan := by
  have h1 := isNaN64_iff.mp h
  rw [show (0x7fffffffffffffff : Nat) = 2 ^ 63 - 1 from rfl, Nat.and_two_pow_sub_one_eq_mod] at h1
  have h2 : (9218868437227405312 : Nat) < x.toNat % 9223372036854775808 := h1
  have e1 : Jvm.FP.Core.fieldE Jvm.FP.Core.b64 x.toNat = Jvm.FP.Core.b64.exps - 1 := by
    show x.toNat / 4503599627370496 % 2048 = 2047
    omega
  have e2 : ¬ Jvm.FP.Core.fieldT Jvm.FP.Core.b64 x.toNat = 0 := by
    show ¬ x.toNat % 4503599627370496 = 0
    omega
  unfold Jvm.FP.Core.val64 Jvm.FP.Core.decode
  rw [if_pos e1, if_neg e2]
theorem nan_cmp {x : UInt64} (h : isNaN64 x = true) : Op.cmpValue (FP.dcmp x x) .l = -1 := by
  have h1 : FP.dcmp x x = none := (Jvm.FP.Core.dcmp_none x x).mpr (Or.inl (nan_val h))
  rw [h1]; rfl
theorem alike_two {x y v : UInt64} (hx : alike64 x v = true) (hy : alike64 y v = true) : x = y ∨ (isNaN64 x = true ∧ isNaN64 y = true) := by
  simp only [alike64, Bool.or_eq_true, decide_eq_true_eq, Bool.and_eq_true] at hx hy
  rcases hx with rfl | ⟨h1, h2⟩ <;> rcases hy with rfl | ⟨h3, h4⟩
  · exact Or.inl rfl
  · exact Or.inr ⟨h4, h3⟩
  · exact Or.inr ⟨h1, h2⟩
  · exact Or.inr ⟨h1, h3⟩
