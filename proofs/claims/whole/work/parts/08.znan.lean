theorem cv_l (o : Option Ordering) : (Op.cmpValue o CmpOp.l = 0 ↔ o = some .eq) ∧ (0 < Op.cmpValue o CmpOp.l ↔ o = some .gt) := by
  rcases o with _ | (_ | _ | _) <;> exact ⟨by decide, by decide⟩
theorem cv_g (o : Option Ordering) : (0 ≤ Op.cmpValue o CmpOp.g ↔ o ≠ some .lt) := by
  rcases o with _ | (_ | _ | _) <;> decide
theorem nn_le {v : UInt64} (h : FP.dIsNaN v = false) : v.toNat % 2 ^ 63 ≤ 9218868437227405312 := (FP.Core.ne_nan v).mp ((FP.Core.notNaN_iff v).mp h)
theorem nn_of {v : UInt64} (h : v.toNat % 2 ^ 63 ≤ 9218868437227405312) : FP.dIsNaN v = false := (FP.Core.notNaN_iff v).mpr ((FP.Core.ne_nan v).mpr h)
theorem nn_le32 {v : UInt32} (h : FP.fIsNaN v = false) : v.toNat % 2 ^ 31 ≤ 2139095040 := (FP.Core.ne_nan32 v).mp ((FP.Core.notNaN_iff32 v).mp h)
theorem nn_of32 {v : UInt32} (h : v.toNat % 2 ^ 31 ≤ 2139095040) : FP.fIsNaN v = false := (FP.Core.notNaN_iff32 v).mpr ((FP.Core.ne_nan32 v).mpr h)
theorem endl_iff {v : UInt64} (h : FP.dIsNaN v = false) : fX5_isEndless v = true ↔ v.toNat % 2 ^ 63 = 9218868437227405312 := by
  have hv := (FP.Core.notNaN_iff v).mp h
  have hm := nn_le h
  have h1 := FP.Core.dcmp_gt_key (a := v) (b := 9218868437227405311) hv ((FP.Core.notNaN_iff _).mp (by decide +kernel))
  have h2 := FP.Core.dcmp_lt_key (a := v) (b := 18442240474082181119) hv ((FP.Core.notNaN_iff _).mp (by decide +kernel))
  have k1 : FP.Core.dkey 9218868437227405311 = 9218868437227405311 := by decide +kernel
  have k2 : FP.Core.dkey 18442240474082181119 = -9218868437227405311 := by decide +kernel
  rw [k1] at h1
  rw [k2] at h2
  have hlt := v.toNat_lt
  unfold FP.Core.dkey at h1 h2
  unfold fX5_isEndless
  by_cases a : 0 < Op.cmpValue (FP.dcmp v 9218868437227405311) CmpOp.l
  · rw [if_pos a]
    have := h1.mp ((cv_l _).2.mp a)
    refine ⟨fun _ => ?_, fun _ => rfl⟩
    split at this <;> omega
  · rw [if_neg a]
    have n1 : ¬ _ := fun q => a ((cv_l _).2.mpr (h1.mpr q))
    by_cases b : 0 ≤ Op.cmpValue (FP.dcmp v 18442240474082181119) CmpOp.g
    · rw [if_pos b]
      have n2 : ¬ _ := fun q => (cv_g _).mp b (h2.mpr q)
      refine ⟨fun q => absurd q (by decide), fun q => ?_⟩
      exfalso
      by_cases z : 2 ^ 63 ≤ v.toNat
      · rw [if_pos z] at n1 n2; omega
      · rw [if_neg z] at n1 n2; omega
    · rw [if_neg b]
      have := h2.mp (Classical.byContradiction (fun q => b ((cv_g _).mpr q)))
      refine ⟨fun _ => ?_, fun _ => rfl⟩
      split at this <;> omega
theorem zer_iff {v : UInt64} (h : FP.dIsNaN v = false) : zer v = true ↔ v.toNat % 2 ^ 63 = 0 := by
  have hv := (FP.Core.notNaN_iff v).mp h
  have h1 := FP.Core.dcmp_eq_key (a := v) (b := FP.dconst0) hv ((FP.Core.notNaN_iff _).mp (by decide +kernel))
  have k1 : FP.Core.dkey FP.dconst0 = 0 := by decide +kernel
  rw [k1] at h1
  have hlt := v.toNat_lt
  unfold FP.Core.dkey at h1
  unfold zer
  rw [decide_eq_true_iff, (cv_l _).1]
  refine h1.trans ?_
  split <;> omega
theorem neg0_iff {v : UInt64} (h : FP.dIsNaN v = false) : neg0 v = true ↔ 2 ^ 63 ≤ v.toNat ∧ v.toNat % 2 ^ 63 ≠ 0 := by
  have hv := (FP.Core.notNaN_iff v).mp h
  have h1 := FP.Core.dcmp_lt_key (a := v) (b := FP.dconst0) hv ((FP.Core.notNaN_iff _).mp (by decide +kernel))
  have k1 : FP.Core.dkey FP.dconst0 = 0 := by decide +kernel
  rw [k1] at h1
  have hlt := v.toNat_lt
  unfold FP.Core.dkey at h1
  unfold neg0
  rw [decide_eq_true_iff, cv_g, Classical.not_not]
  refine h1.trans ?_
  split <;> omega
theorem fin_of {v : UInt64} (h : FP.dIsNaN v = false) (h2 : ¬ fX5_isEndless v = true) : FP.Core.DFin v := by
  rw [FP.Core.fin_bits]
  have := nn_le h
  have : ¬ _ := fun q => h2 ((endl_iff h).mpr q)
  omega
theorem nz_of {v : UInt64} (h : FP.dIsNaN v = false) (h2 : ¬ zer v = true) : ¬ FP.Core.DZero v := by
  rw [FP.Core.zero_bits2]
  exact fun q => h2 ((zer_iff h).mpr q)
theorem num_nn {w : Bool} {b : Int64} (h : okb w b) : FP.dIsNaN (fX5_number w b) = false := by
  unfold fX5_number
  by_cases hw : w = true
  · rw [if_pos hw]; exact okb_t h hw
  · rw [if_neg hw, FP.f2d_nan]; exact okb_f h hw
theorem drem_nn {x y : UInt64} (hx : FP.dIsNaN x = false) (hx2 : ¬ fX5_isEndless x = true) (hy : FP.dIsNaN y = false) (hy2 : ¬ zer y = true) : FP.dIsNaN (FP.drem x y) = false := FP.Core.drem_out (fin_of hx hx2) hy (nz_of hy hy2)
theorem ddiv8_fin (g : Int32) : FP.Core.DFin (FP.ddiv (FP.i2d g) 4620693217682128896) :=
  FP.Core.fin_of_lt (FP.Core.ddiv_mag (K := 1056) (L := 1026) (FP.Core.i2d_mag g) (by decide +kernel) (by decide +kernel) (by decide) (by decide)) (by decide)
theorem fdiv8_fin (g : Int32) : FP.Core.FFin (FP.fdiv (FP.i2f g) 1090519040) :=
  FP.Core.fin_of_lt32 (FP.Core.fdiv_mag (K := 160) (L := 130) (FP.Core.i2f_mag g) (by decide +kernel) (by decide +kernel) (by decide) (by decide)) (by decide)
theorem ddiv8_nn (g : Int32) : FP.dIsNaN (FP.ddiv (FP.i2d g) 4620693217682128896) = false := (ddiv8_fin g).notNaN
theorem fdiv8_nn (g : Int32) : FP.fIsNaN (FP.fdiv (FP.i2f g) 1090519040) = false := (fdiv8_fin g).notNaN
theorem dadd8_nn {v : UInt64} (g : Int32) (h : FP.dIsNaN v = false) : FP.dIsNaN (FP.dadd v (FP.ddiv (FP.i2d g) 4620693217682128896)) = false := FP.Core.dadd_out h (ddiv8_fin g)
theorem fadd8_nn {v : UInt32} (g : Int32) (h : FP.fIsNaN v = false) : FP.fIsNaN (FP.fadd v (FP.fdiv (FP.i2f g) 1090519040)) = false := FP.Core.fadd_out h (fdiv8_fin g)
theorem itm_ok {σ : St} {k p a i : Nat} {w : Bool} (hI : Inv σ k) (hp : zPl σ p = some a) (hw : zRw σ a = w) : okb w (itm σ p i) := by
  unfold itm
  rw [hp, Option.getD_some, ← hw]
  exact (hI.2.2.2.2.1 a i).1
theorem inf_endl {v : UInt64} {s : Bool} (h : FP.Core.val64 v = .inf s) : fX5_isEndless v = true := by
  have h1 : FP.dIsNaN v = false := (FP.Core.notNaN_iff v).mpr (by rw [h]; exact nofun)
  refine Classical.byContradiction (fun q => ?_)
  exact (fin_of h1 q).ne_inf s h
theorem inf_cmp {a v : UInt64} {s : Bool} (ha : FP.Core.val64 a = .inf s) (hv : FP.Core.val64 v = .inf (!s)) : ¬ FP.dcmp a v = some .eq := by
  have e : FP.dcmp a v = FP.Core.order (FP.Core.val64 a) (FP.Core.val64 v) := rfl
  rw [e, ha, hv]
  cases s <;> decide
theorem dadd_unl {a v : UInt64} (ha : FP.dIsNaN a = false) (hv : FP.dIsNaN v = false) (hu : ¬ unl a v = true) : FP.dIsNaN (FP.dadd a v) = false := by
  refine Bool.eq_false_iff.mpr (fun q => hu ?_)
  rcases (FP.Core.dadd_nan_iff a v).mp q with h | h | ⟨s, h1, h2⟩
  · exact absurd h ((FP.Core.notNaN_iff a).mp ha)
  · exact absurd h ((FP.Core.notNaN_iff v).mp hv)
  · unfold unl
    rw [inf_endl h1, inf_endl h2, decide_eq_false (fun z => inf_cmp h1 h2 ((cv_l _).1.mp z))]
    rfl
theorem f2d_inf {x : UInt32} {s : Bool} (h : FP.Core.val32 x = .inf s) : FP.Core.val64 (FP.f2d x) = .inf s := by
  have h1 : FP.fIsNaN x = false := (FP.Core.notNaN_iff32 x).mpr (by rw [h]; exact nofun)
  rw [FP.f2d_core h1, FP.Core.val64_f2d, h]
  rfl
theorem fadd_unl {x y : UInt32} (hx : FP.fIsNaN x = false) (hy : FP.fIsNaN y = false) (hu : ¬ unl (FP.f2d x) (FP.f2d y) = true) : FP.fIsNaN (FP.fadd x y) = false := by
  refine Bool.eq_false_iff.mpr (fun q => hu ?_)
  rcases (FP.Core.fadd_nan_iff x y).mp q with h | h | ⟨s, h1, h2⟩
  · exact absurd h ((FP.Core.notNaN_iff32 x).mp hx)
  · exact absurd h ((FP.Core.notNaN_iff32 y).mp hy)
  · unfold unl
    rw [inf_endl (f2d_inf h1), inf_endl (f2d_inf h2), decide_eq_false (fun z => inf_cmp (f2d_inf h1) (f2d_inf h2) ((cv_l _).1.mp z))]
    rfl
theorem d2f_f2d {x : UInt32} (h : FP.fIsNaN x = false) : FP.d2f (FP.f2d x) = x := by
  have h1 : FP.dIsNaN (FP.f2d x) = false := by rw [FP.f2d_nan]; exact h
  rw [FP.d2f_core h1, FP.f2d_core h]
  exact FP.Core.d2f_f2d ((FP.Core.notNaN_iff32 x).mp h)
theorem drem_fin {x y : UInt64} (hx : FP.Core.DFin x) (hy : FP.dIsNaN y = false) (hz : ¬ FP.Core.DZero y) : FP.Core.DFin (FP.drem x y) := by
  obtain ⟨h1, -, h3⟩ := FP.Core.drem_zval hx ((FP.Core.notNaN_iff y).mp hy) hz
  have h0 : FP.Core.zmag FP.Core.b64 (FP.Core.val64 (FP.drem x y)) ≤ FP.Core.zmag FP.Core.b64 (FP.Core.val64 x) := by
    have : FP.Core.zmag FP.Core.b64 (FP.Core.val64 (FP.drem x y)) = FP.Core.zmag FP.Core.b64 (FP.Core.val64 x) % FP.Core.zmag FP.Core.b64 (FP.Core.val64 y) := h3
    rw [this]; exact Nat.mod_le _ _
  obtain ⟨s, c, q, hv⟩ := hx
  have hlt : FP.Core.zmag FP.Core.b64 (FP.Core.val64 x) < FP.Core.b64.tails * 2 ^ (FP.Core.b64.exps - 2) := by
    rw [hv]
    exact FP.Core.zmag_lt_top FP.Core.good_b64 (s := s) (by rw [← hv]; exact FP.Core.val64_fits x)
  have h1' : FP.Core.val64 (FP.drem x y) ≠ .nan := h1
  cases hd : FP.Core.val64 (FP.drem x y) with
  | nan => exact absurd hd h1'
  | inf t => rw [hd] at h0; exact absurd (Nat.lt_of_le_of_lt h0 hlt) (Nat.lt_irrefl _)
  | fin t c' q' => exact ⟨t, c', q', hd⟩
theorem step_nn {x y : UInt64} (hx : FP.Core.DFin x) (hy : FP.dIsNaN y = false) (hz : ¬ FP.Core.DZero y) : FP.dIsNaN (FP.dsub x (FP.drem x y)) = false := FP.Core.dsub_out hx.notNaN (drem_fin hx hy hz)
theorem isnum_t {b : Int64} (h : fX5_isNumber true b = true) : FP.dIsNaN b.toUInt64 = false := by
  unfold fX5_isNumber at h
  rw [if_pos rfl] at h
  have h1 : ¬ (9218868437227405312 : Int64) < (b &&& (9223372036854775807 : Int64)) := fun q => by rw [if_pos q] at h; exact absurd h (by decide)
  have e : uN (b &&& 9223372036854775807) = uN b % 2 ^ 63 := by
    show (b.toBitVec &&& (9223372036854775807 : Int64).toBitVec).toNat = b.toBitVec.toNat % 2 ^ 63
    rw [BitVec.toNat_and]
    exact Nat.and_two_pow_sub_one_eq_mod _ 63
  have h2 : (b &&& 9223372036854775807).toInt = ((uN b % 2 ^ 63 : Nat) : Int) := by
    rw [uN_int, e, if_pos (by have := Nat.mod_lt (uN b) (show 0 < 2 ^ 63 by decide); omega)]
  rw [Int64.lt_iff_toInt_lt, h2, show (9218868437227405312 : Int64).toInt = 9218868437227405312 from rfl] at h1
  refine nn_of ?_
  show uN b % 2 ^ 63 ≤ 9218868437227405312
  omega
theorem isnum_f {b : Int64} (h : fX5_isNumber false b = true) : FP.fIsNaN b.toInt32.toUInt32 = false := by
  unfold fX5_isNumber at h
  rw [if_neg (by decide)] at h
  have h1 : ¬ (2139095040 : Int32) < (b.toInt32 &&& (2147483647 : Int32)) := fun q => by rw [if_pos q] at h; exact absurd h (by decide)
  generalize b.toInt32 = x at h1 ⊢
  have e : (x &&& 2147483647).toBitVec.toNat = x.toBitVec.toNat % 2 ^ 31 := by
    show (x.toBitVec &&& (2147483647 : Int32).toBitVec).toNat = x.toBitVec.toNat % 2 ^ 31
    rw [BitVec.toNat_and]
    exact Nat.and_two_pow_sub_one_eq_mod _ 31
  have h2 : (x &&& 2147483647).toInt = ((x.toBitVec.toNat % 2 ^ 31 : Nat) : Int) := by
    show (x &&& 2147483647).toBitVec.toInt = _
    rw [BitVec.toInt_eq_toNat_cond, e, if_pos (by have := Nat.mod_lt x.toBitVec.toNat (show 0 < 2 ^ 31 by decide); omega)]
  rw [Int32.lt_iff_toInt_lt, h2, show (2139095040 : Int32).toInt = 2139095040 from rfl] at h1
  refine nn_of32 ?_
  show x.toBitVec.toNat % 2 ^ 31 ≤ 2139095040
  omega
theorem isnum_ok {w : Bool} {b : Int64} (h : fX5_isNumber w b = true) : okb w b := by
  unfold okb
  cases w with
  | true => rw [if_pos rfl]; exact isnum_t h
  | false => rw [if_neg (by decide)]; exact isnum_f h
theorem dneg_fin {v : UInt64} (h : FP.Core.DFin v) : FP.Core.DFin (FP.dneg v) := by
  obtain ⟨s, c, q, hv⟩ := h
  exact ⟨!s, c, q, by rw [FP.val64_dneg, hv]; rfl⟩
theorem tell_nn {k : Int32} {sp : Int64} {v : UInt64} (hv : FP.Core.DFin v) (hok : okS k sp) : FP.dIsNaN (tellN k sp.toUInt64 v) = false := by
  have h1 := step_nn hv hok.2.1 (nz_of hok.2.1 hok.2.2.1)
  have h2 : FP.dIsNaN (FP.dsub v (stepN sp.toUInt64 v)) = false := FP.Core.dsub_out' hv h1
  have h3 : FP.Core.DFin sp.toUInt64 := fin_of hok.2.1 hok.2.2.2
  unfold tellN
  split
  · exact h1
  · split
    · split
      · exact FP.Core.dadd_out h2 (dneg_fin h3)
      · exact FP.Core.dadd_out h2 h3
    · exact h2
/-- a number of a width, held as a double -/
def FV (w : Bool) (v : UInt64) : Prop := FP.dIsNaN v = false ∧ (w = false → ∃ x : UInt32, FP.fIsNaN x = false ∧ v = FP.f2d x)
theorem num_fv {w : Bool} {b : Int64} (h : okb w b) : FV w (fX5_number w b) := by
  refine ⟨num_nn h, fun hw => ?_⟩
  subst hw
  exact ⟨b.toInt32.toUInt32, okb_f h (by decide), rfl⟩
theorem fv_0 (w : Bool) : FV w FP.dconst0 := by
  refine ⟨by decide +kernel, fun _ => ⟨0, by decide +kernel, by decide +kernel⟩⟩
theorem addf_nn {a v : UInt64} (ha : FV false a) (hv : FV false v) (hu : ¬ unl a v = true) : FP.fIsNaN (FP.fadd (FP.d2f a) (FP.d2f v)) = false := by
  obtain ⟨x, hx, rfl⟩ := ha.2 rfl
  obtain ⟨y, hy, rfl⟩ := hv.2 rfl
  rw [d2f_f2d hx, d2f_f2d hy]
  exact fadd_unl hx hy hu
theorem addd_nn {w : Bool} {a v : UInt64} (ha : FV w a) (hv : FV w v) (hu : ¬ unl a v = true) : FP.dIsNaN (FP.dadd a v) = false := dadd_unl ha.1 hv.1 hu
theorem addN_fv {w : Bool} {a v : UInt64} (ha : FV w a) (hv : FV w v) (hu : ¬ unl a v = true) : FV w (addN w a v) := by
  unfold addN
  cases w with
  | true => rw [if_pos rfl]; exact ⟨addd_nn ha hv hu, fun h => absurd h (by decide)⟩
  | false =>
    rw [if_neg (by decide)]
    have h := addf_nn ha hv hu
    exact ⟨by rw [FP.f2d_nan]; exact h, fun _ => ⟨_, h, rfl⟩⟩
theorem unl_t {a v : UInt64} (h1 : fX5_isEndless a = true) (h2 : fX5_isEndless v = true) (h3 : ¬ Op.cmpValue (FP.dcmp a v) CmpOp.l = 0) : unl a v = true := by
  unfold unl; rw [h1, h2, decide_eq_false h3]; rfl
theorem unl_f1 {a v : UInt64} (h : ¬ fX5_isEndless a = true) : ¬ unl a v = true := by
  unfold unl; rw [Bool.eq_false_iff.mpr h]; simp
theorem unl_f2 {a v : UInt64} (h : ¬ fX5_isEndless v = true) : ¬ unl a v = true := by
  unfold unl; rw [Bool.eq_false_iff.mpr h]; simp
theorem unl_f3 {a v : UInt64} (h : Op.cmpValue (FP.dcmp a v) CmpOp.l = 0) : ¬ unl a v = true := by
  unfold unl; rw [decide_eq_true h]; simp
