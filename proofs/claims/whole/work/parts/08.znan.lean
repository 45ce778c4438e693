theorem cv_l (o : Option Ordering) : (Op.cmpValue o CmpOp.l = 0 ↔ o = some .eq) ∧ (0 < Op.cmpValue o CmpOp.l ↔ o = some .gt) := by
  rcases o with _ | (_ | _ | _) <;> exact ⟨by decide, by decide⟩
theorem cv_g (o : Option Ordering) : (0 ≤ Op.cmpValue o CmpOp.g ↔ o ≠ some .lt) := by
  rcases o with _ | (_ | _ | _) <;> decide
theorem nn_le {v : UInt64} (h : FP.dIsNaN v = false) : v.toNat % 2 ^ 63 ≤ 9218868437227405312 := (FP.Core.ne_nan v).mp ((FP.Core.notNaN_iff v).mp h)
theorem nn_of {v : UInt64} (h : v.toNat % 2 ^ 63 ≤ 9218868437227405312) : FP.dIsNaN v = false := (FP.Core.notNaN_iff v).mpr ((FP.Core.ne_nan v).mpr h)
theorem nn_le32 {v : UInt32} (h : FP.fIsNaN v = false) : v.toNat % 2 ^ 31 ≤ 2139095040 := (FP.Core.ne_nan32 v).mp ((FP.Core.notNaN_iff32 v).mp h)
theorem nn_of32 {v : UInt32} (h : v.toNat % 2 ^ 31 ≤ 2139095040) : FP.fIsNaN v = false := (FP.Core.notNaN_iff32 v).mpr ((FP.Core.ne_nan32 v).mpr h)
theorem endl_iff {v : UInt64} (h : FP.dIsNaN v = false) : fX5_isEndless v = true ↔ v.toNat % 2 ^ 63 = 9218868437227405312 := by
  have hv := (FP.Core.notNaN_iff v).mp h
  have hm := nn_le h
  have h1 := FP.Core.dcmp_gt_key (a := v) (b := 9218868437227405311) hv ((FP.Core.notNaN_iff _).mp (by decide +kernel))
  have h2 := FP.Core.dcmp_lt_key (a := v) (b := 18442240474082181119) hv ((FP.Core.notNaN_iff _).mp (by decide +kernel))
  have k1 : FP.Core.dkey 9218868437227405311 = 9218868437227405311 := by decide +kernel
  have k2 : FP.Core.dkey 18442240474082181119 = -9218868437227405311 := by decide +kernel
  rw [k1] at h1
  rw [k2] at h2
  have hlt := v.toNat_lt
  unfold FP.Core.dkey at h1 h2
  unfold fX5_isEndless
  by_cases a : 0 < Op.cmpValue (FP.dcmp v 9218868437227405311) CmpOp.l
  · rw [if_pos a]
    have := h1.mp ((cv_l _).2.mp a)
    refine ⟨fun _ => ?_, fun _ => rfl⟩
    split at this <;> omega
  · rw [if_neg a]
    have n1 : ¬ _ := fun q => a ((cv_l _).2.mpr (h1.mpr q))
    by_cases b : 0 ≤ Op.cmpValue (FP.dcmp v 18442240474082181119) CmpOp.g
    · rw [if_pos b]
      have n2 : ¬ _ := fun q => (cv_g _).mp b (h2.mpr q)
      refine ⟨fun q => absurd q (by decide), fun q => ?_⟩
      exfalso
      by_cases z : 2 ^ 63 ≤ v.toNat
      · rw [if_pos z] at n1 n2; omega
      · rw [if_neg z] at n1 n2; omega
    · rw [if_neg b]
      have := h2.mp (Classical.byContradiction (fun q => b ((cv_g _).mpr q)))
      refine ⟨fun _ => ?_, fun _ => rfl⟩
      split at this <;> omega
theorem zer_iff {v : UInt64} (h : FP.dIsNaN v = false) : zer v = true ↔ v.toNat % 2 ^ 63 = 0 := by
  have hv := (FP.Core.notNaN_iff v).mp h
  have h1 := FP.Core.dcmp_eq_key (a := v) (b := FP.dconst0) hv ((FP.Core.notNaN_iff _).mp (by decide +kernel))
  have k1 : FP.Core.dkey FP.dconst0 = 0 := by decide +kernel
  rw [k1] at h1
  have hlt := v.toNat_lt
  unfold FP.Core.dkey at h1
  unfold zer
  rw [decide_eq_true_iff, (cv_l _).1]
  refine h1.trans ?_
  split <;> omega
theorem neg0_iff {v : UInt64} (h : FP.dIsNaN v = false) : neg0 v = true ↔ 2 ^ 63 ≤ v.toNat ∧ v.toNat % 2 ^ 63 ≠ 0 := by
  have hv := (FP.Core.notNaN_iff v).mp h
  have h1 := FP.Core.dcmp_lt_key (a := v) (b := FP.dconst0) hv ((FP.Core.notNaN_iff _).mp (by decide +kernel))
  have k1 : FP.Core.dkey FP.dconst0 = 0 := by decide +kernel
  rw [k1] at h1
  have hlt := v.toNat_lt
  unfold FP.Core.dkey at h1
  unfold neg0
  rw [decide_eq_true_iff, cv_g, Classical.not_not]
  refine h1.trans ?_
  split <;> omega
theorem fin_of {v : UInt64} (h : FP.dIsNaN v = false) (h2 : ¬ fX5_isEndless v = true) : FP.Core.DFin v := by
  rw [FP.Core.fin_bits]
  have := nn_le h
  have : ¬ _ := fun q => h2 ((endl_iff h).mpr q)
  omega
theorem nz_of {v : UInt64} (h : FP.dIsNaN v = false) (h2 : ¬ zer v = true) : ¬ FP.Core.DZero v := by
  rw [FP.Core.zero_bits2]
  exact fun q => h2 ((zer_iff h).mpr q)
theorem num_nn {w : Bool} {b : Int64} (h : okb w b) : FP.dIsNaN (fX5_number w b) = false := by
  unfold fX5_number
  by_cases hw : w = true
  · rw [if_pos hw]; exact okb_t h hw
  · rw [if_neg hw, FP.f2d_nan]; exact okb_f h hw
theorem drem_nn {x y : UInt64} (hx : FP.dIsNaN x = false) (hx2 : ¬ fX5_isEndless x = true) (hy : FP.dIsNaN y = false) (hy2 : ¬ zer y = true) : FP.dIsNaN (FP.drem x y) = false := FP.Core.drem_out (fin_of hx hx2) hy (nz_of hy hy2)
theorem ddiv8_fin (g : Int32) : FP.Core.DFin (FP.ddiv (FP.i2d g) 4620693217682128896) := by
  sorry
theorem fdiv8_fin (g : Int32) : FP.Core.FFin (FP.fdiv (FP.i2f g) 1090519040) := by
  sorry
theorem ddiv8_nn (g : Int32) : FP.dIsNaN (FP.ddiv (FP.i2d g) 4620693217682128896) = false := (ddiv8_fin g).notNaN
theorem fdiv8_nn (g : Int32) : FP.fIsNaN (FP.fdiv (FP.i2f g) 1090519040) = false := (fdiv8_fin g).notNaN
theorem dadd8_nn {v : UInt64} (g : Int32) (h : FP.dIsNaN v = false) : FP.dIsNaN (FP.dadd v (FP.ddiv (FP.i2d g) 4620693217682128896)) = false := FP.Core.dadd_out h (ddiv8_fin g)
theorem fadd8_nn {v : UInt32} (g : Int32) (h : FP.fIsNaN v = false) : FP.fIsNaN (FP.fadd v (FP.fdiv (FP.i2f g) 1090519040)) = false := FP.Core.fadd_out h (fdiv8_fin g)
theorem itm_ok {σ : St} {k p a i : Nat} {w : Bool} (hI : Inv σ k) (hp : zPl σ p = some a) (hw : zRw σ a = w) : okb w (itm σ p i) := by
  unfold itm
  rw [hp, Option.getD_some, ← hw]
  exact (hI.2.2.2.2.1 a i).1
theorem inf_endl {v : UInt64} {s : Bool} (h : FP.Core.val64 v = .inf s) : fX5_isEndless v = true := by
  have h1 : FP.dIsNaN v = false := (FP.Core.notNaN_iff v).mpr (by rw [h]; exact nofun)
  refine Classical.byContradiction (fun q => ?_)
  exact (fin_of h1 q).ne_inf s h
theorem inf_cmp {a v : UInt64} {s : Bool} (ha : FP.Core.val64 a = .inf s) (hv : FP.Core.val64 v = .inf (!s)) : ¬ FP.dcmp a v = some .eq := by
  have e : FP.dcmp a v = FP.Core.order (FP.Core.val64 a) (FP.Core.val64 v) := rfl
  rw [e, ha, hv]
  cases s <;> decide
theorem dadd_unl {a v : UInt64} (ha : FP.dIsNaN a = false) (hv : FP.dIsNaN v = false) (hu : ¬ unl a v = true) : FP.dIsNaN (FP.dadd a v) = false := by
  refine Bool.eq_false_iff.mpr (fun q => hu ?_)
  rcases (FP.Core.dadd_nan_iff a v).mp q with h | h | ⟨s, h1, h2⟩
  · exact absurd h ((FP.Core.notNaN_iff a).mp ha)
  · exact absurd h ((FP.Core.notNaN_iff v).mp hv)
  · unfold unl
    rw [inf_endl h1, inf_endl h2, decide_eq_false (fun z => inf_cmp h1 h2 ((cv_l _).1.mp z))]
    rfl
theorem f2d_inf {x : UInt32} {s : Bool} (h : FP.Core.val32 x = .inf s) : FP.Core.val64 (FP.f2d x) = .inf s := by
  have h1 : FP.fIsNaN x = false := (FP.Core.notNaN_iff32 x).mpr (by rw [h]; exact nofun)
  rw [FP.f2d_core h1, FP.Core.val64_f2d, h]
  rfl
theorem fadd_unl {x y : UInt32} (hx : FP.fIsNaN x = false) (hy : FP.fIsNaN y = false) (hu : ¬ unl (FP.f2d x) (FP.f2d y) = true) : FP.fIsNaN (FP.fadd x y) = false := by
  refine Bool.eq_false_iff.mpr (fun q => hu ?_)
  rcases (FP.Core.fadd_nan_iff x y).mp q with h | h | ⟨s, h1, h2⟩
  · exact absurd h ((FP.Core.notNaN_iff32 x).mp hx)
  · exact absurd h ((FP.Core.notNaN_iff32 y).mp hy)
  · unfold unl
    rw [inf_endl (f2d_inf h1), inf_endl (f2d_inf h2), decide_eq_false (fun z => inf_cmp (f2d_inf h1) (f2d_inf h2) ((cv_l _).1.mp z))]
    rfl
theorem d2f_f2d {x : UInt32} (h : FP.fIsNaN x = false) : FP.d2f (FP.f2d x) = x := by
  have h1 : FP.dIsNaN (FP.f2d x) = false := by rw [FP.f2d_nan]; exact h
  rw [FP.d2f_core h1, FP.f2d_core h]
  exact FP.Core.d2f_f2d ((FP.Core.notNaN_iff32 x).mp h)
theorem drem_fin {x y : UInt64} (hx : FP.Core.DFin x) (hy : FP.dIsNaN y = false) (hz : ¬ FP.Core.DZero y) : FP.Core.DFin (FP.drem x y) := by
  obtain ⟨h1, -, h3⟩ := FP.Core.drem_zval hx ((FP.Core.notNaN_iff y).mp hy) hz
  have h0 : FP.Core.zmag FP.Core.b64 (FP.Core.val64 (FP.drem x y)) ≤ FP.Core.zmag FP.Core.b64 (FP.Core.val64 x) := by
    have : FP.Core.zmag FP.Core.b64 (FP.Core.val64 (FP.drem x y)) = FP.Core.zmag FP.Core.b64 (FP.Core.val64 x) % FP.Core.zmag FP.Core.b64 (FP.Core.val64 y) := h3
    rw [this]; exact Nat.mod_le _ _
  obtain ⟨s, c, q, hv⟩ := hx
  have hlt : FP.Core.zmag FP.Core.b64 (FP.Core.val64 x) < FP.Core.b64.tails * 2 ^ (FP.Core.b64.exps - 2) := by
    rw [hv]
    exact FP.Core.zmag_lt_top FP.Core.good_b64 (s := s) (by rw [← hv]; exact FP.Core.val64_fits x)
  have h1' : FP.Core.val64 (FP.drem x y) ≠ .nan := h1
  cases hd : FP.Core.val64 (FP.drem x y) with
  | nan => exact absurd hd h1'
  | inf t => rw [hd] at h0; exact absurd (Nat.lt_of_le_of_lt h0 hlt) (Nat.lt_irrefl _)
  | fin t c' q' => exact ⟨t, c', q', hd⟩
theorem step_nn {x y : UInt64} (hx : FP.Core.DFin x) (hy : FP.dIsNaN y = false) (hz : ¬ FP.Core.DZero y) : FP.dIsNaN (FP.dsub x (FP.drem x y)) = false := FP.Core.dsub_out hx.notNaN (drem_fin hx hy hz)
