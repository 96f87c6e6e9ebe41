-- the law's own body: rows
theorem dc_isn {r : UInt64} (h : isNaN64 r = true) : 9218868437227405312 < r.toNat &&& 9223372036854775807 := by
  have h1 : (9218868437227405312 : UInt64) < r &&& 9223372036854775807 := of_decide_eq_true h
  have h2 := UInt64.lt_iff_toNat_lt.mp h1
  rw [UInt64.toNat_and] at h2
  exact h2
theorem dc_nan {r y : UInt64} (h : isNaN64 r = true) : FP.dcmp r y = none := by
  have h1 := dc_isn h
  have e : r.toNat &&& 9223372036854775807 = r.toNat % 9223372036854775808 := Nat.and_two_pow_sub_one_eq_mod r.toNat 63
  have h2 : 9218868437227405312 < r.toNat % 9223372036854775808 := by rw [← e]; exact h1
  have hE : FP.Core.fieldE FP.Core.b64 r.toNat = FP.Core.Fmt.exps FP.Core.b64 - 1 := by
    show r.toNat / 4503599627370496 % 2048 = 2048 - 1
    omega
  have hT : ¬ FP.Core.fieldT FP.Core.b64 r.toNat = 0 := by
    show ¬ r.toNat % 4503599627370496 = 0
    omega
  have hd : FP.Core.decode FP.Core.b64 r.toNat = .nan := by
    unfold FP.Core.decode
    rw [if_pos hE, if_neg hT]
  show FP.Core.order (FP.Core.decode FP.Core.b64 r.toNat) (FP.Core.decode FP.Core.b64 y.toNat) = none
  rw [hd]
  rfl
theorem dc_nan0 {r y : UInt64} (h : isNaN64 r = true) : ¬ Op.cmpValue (FP.dcmp r y) CmpOp.l = 0 := by
  rw [dc_nan h]
  decide
theorem z_alike {r1 r2 x : UInt64} (h1 : alike64 r1 x = true) (h2 : alike64 r2 x = true) : Op.cmpValue (FP.dcmp r1 r2) CmpOp.l = 0 ∨ (¬ Op.cmpValue (FP.dcmp r1 r1) CmpOp.l = 0 ∧ ¬ Op.cmpValue (FP.dcmp r2 r2) CmpOp.l = 0) := by
  simp only [alike64, Bool.or_eq_true, decide_eq_true_eq, Bool.and_eq_true] at h1 h2
  by_cases e : r1 = r2
  · subst e
    by_cases z : Op.cmpValue (FP.dcmp r1 r1) CmpOp.l = 0
    · exact Or.inl z
    · exact Or.inr ⟨z, z⟩
  · rcases h1 with h1 | h1
    · rcases h2 with h2 | h2
      · exact absurd (h1.trans h2.symm) e
      · exact Or.inr ⟨dc_nan0 (by rw [h1]; exact h2.2), dc_nan0 h2.1⟩
    · rcases h2 with h2 | h2
      · exact Or.inr ⟨dc_nan0 h1.1, dc_nan0 (by rw [h2]; exact h1.2)⟩
      · exact Or.inr ⟨dc_nan0 h1.1, dc_nan0 h2.1⟩
