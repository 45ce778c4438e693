/-- no NaN -/
theorem n64_of {r : UInt64} (h : FP.dIsNaN r = false) : vf_n64 r := by
  have h1 : ¬ (9218868437227405312 < r.toNat % 2 ^ 63) := fun q => by
    have := (FP.Core.isNaN_bits r).mpr q
    rw [show FP.Core.dIsNaN r = false from h] at this
    exact absurd this (by decide)
  show r &&& 0x7fffffffffffffff ≤ 0x7ff0000000000000
  rw [UInt64.le_iff_toNat_le, UInt64.toNat_and]
  have e : r.toNat &&& (0x7fffffffffffffff : UInt64).toNat = r.toNat % 2 ^ 63 := Nat.and_two_pow_sub_one_eq_mod r.toNat 63
  rw [e]
  exact Nat.le_of_not_lt h1
theorem n32_of {r : UInt32} (h : FP.fIsNaN r = false) : vf_n32 r := by
  have h1 : ¬ (2139095040 < r.toNat % 2 ^ 31) := fun q => by
    have := (FP.Core.isNaN_bits32 r).mpr q
    rw [show FP.Core.fIsNaN r = false from h] at this
    exact absurd this (by decide)
  show r &&& 0x7fffffff ≤ 0x7f800000
  rw [UInt32.le_iff_toNat_le, UInt32.toNat_and]
  have e : r.toNat &&& (0x7fffffff : UInt32).toNat = r.toNat % 2 ^ 31 := Nat.and_two_pow_sub_one_eq_mod r.toNat 31
  rw [e]
  exact Nat.le_of_not_lt h1
theorem snl_of {b : Int64} (h : FP.dIsNaN b.toUInt64 = false) : vn_snl2d b = false := by
  have h1 : b.toUInt64 &&& 0x7fffffffffffffff ≤ 0x7ff0000000000000 := n64_of h
  unfold vn_snl2d
  rw [decide_eq_false (by rw [gt_iff_lt, UInt64.not_lt]; exact h1)]
  rfl
theorem sni_of {b : Int32} (h : FP.fIsNaN b.toUInt32 = false) : vn_sni2f b = false := by
  have h1 : b.toUInt32 &&& 0x7fffffff ≤ 0x7f800000 := n32_of h
  unfold vn_sni2f
  rw [decide_eq_false (by rw [gt_iff_lt, UInt32.not_lt]; exact h1)]
  rfl
/-- bits that are a number of a width, in the form in which they are told -/
def okb (w : Bool) (b : Int64) : Prop := if w = true then FP.dIsNaN b.toUInt64 = false else FP.fIsNaN b.toInt32.toUInt32 = false
theorem okb_t {w : Bool} {b : Int64} (h : okb w b) (hw : w = true) : FP.dIsNaN b.toUInt64 = false := by unfold okb at h; rwa [if_pos hw] at h
theorem okb_f {w : Bool} {b : Int64} (h : okb w b) (hw : ¬ w = true) : FP.fIsNaN b.toInt32.toUInt32 = false := by unfold okb at h; rwa [if_neg hw] at h
theorem dself {v : UInt64} (h : FP.dIsNaN v = false) : Op.cmpValue (FP.dcmp v v) CmpOp.l = 0 := by
  have h1 : FP.dcmp v v = some .eq := FP.Core.dcmp_refl h
  rw [h1]; rfl
theorem fself {v : UInt32} (h : FP.fIsNaN v = false) : Op.cmpValue (FP.fcmp v v) CmpOp.l = 0 := by
  have h1 : FP.fcmp v v = some .eq := FP.Core.fcmp_refl h
  rw [h1]; rfl
