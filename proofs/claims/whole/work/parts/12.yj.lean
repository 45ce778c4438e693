/-- a whole number by eight, and its eighth, are rounded alike -/
theorem fin8 {f : FP.Core.Fmt} (h1 : f.qmin + 3 ≤ 1 - (f.p : Int)) (h2 : 33 - (f.p : Int) ≤ f.qmax) {m : Nat} (hm0 : 0 < m) (hm : m ≤ 2 ^ 31) (s : Bool) : ∃ c q, FP.Core.roundRatio f s m 1 0 = .fin s c q ∧ FP.Core.roundRatio f s m 1 (-3) = .fin s c (q - 3) := by
  have hl : m.log2 < 32 := (Nat.log2_lt (by omega)).mpr (by omega)
  unfold FP.Core.roundRatio
  rw [if_neg (by omega), if_neg (by omega), quantum_1 hm0, quantum_1 hm0]
  obtain ⟨Q, hQ⟩ : ∃ Q : Int, Q = (m.log2 : Int) - ((f.p : Int) - 1) := ⟨_, rfl⟩
  rw [show max f.qmin ((m.log2 : Int) + 0 - ((f.p : Int) - 1)) = Q by omega, show max f.qmin ((m.log2 : Int) + -3 - ((f.p : Int) - 1)) = Q - 3 by omega]
  unfold FP.Core.roundAt FP.Core.unitsNum FP.Core.unitsDen
  rw [show (-3 - (Q - 3)).toNat = (0 - Q).toNat by omega, show (Q - 3 - -3).toNat = (Q - 0).toNat by omega]
  generalize FP.Core.nearest (m * 2 ^ (0 - Q).toNat) (1 * 2 ^ (Q - 0).toNat) = c
  unfold FP.Core.settle FP.Core.bound
  by_cases hc : c < 2 ^ f.p
  · rw [if_pos hc, if_pos hc, if_pos (by omega), if_pos (by omega)]
    exact ⟨c, Q, rfl, rfl⟩
  · rw [if_neg hc, if_neg hc, if_pos (by omega), if_pos (by omega)]
    exact ⟨f.tails, Q + 1, rfl, by rw [show Q - 3 + 1 = Q + 1 - 3 by omega]⟩
theorem quot8 {f : FP.Core.Fmt} (hf : FP.Core.Good f) (h1 : f.qmin + 3 ≤ 1 - (f.p : Int)) (h2 : 33 - (f.p : Int) ≤ f.qmax) {x : Int} (hx : x.natAbs ≤ 2 ^ 31) {k : Nat} {r : Int} (hr : r = 3 - (k : Int)) : FP.Core.quotient f (FP.Core.round f (FP.Core.ofInt x)) (.fin false (2 ^ k) r) = FP.Core.roundRatio f (decide (x < 0)) x.natAbs 1 (-3) := by
  have hk : ¬ (2 : Nat) ^ k = 0 := Nat.ne_of_gt (Nat.two_pow_pos k)
  generalize hs : decide (x < 0) = s
  have e : FP.Core.round f (FP.Core.ofInt x) = FP.Core.roundRatio f s x.natAbs 1 0 := by rw [← hs]; rfl
  rw [e]
  generalize x.natAbs = m at *
  by_cases h0 : m = 0
  · subst h0
    have e0 : ∀ y : Int, FP.Core.roundRatio f s 0 1 y = .fin s 0 f.qmin := fun y => by unfold FP.Core.roundRatio; rw [if_pos rfl]
    rw [e0, e0]
    show (if (2 : Nat) ^ k = 0 then _ else FP.Core.roundRatio f (s != false) 0 (2 ^ k) (f.qmin - r)) = _
    rw [if_neg hk]
    unfold FP.Core.roundRatio
    rw [if_pos rfl, Bool.bne_false]
  · obtain ⟨c, q, e1, e2⟩ := fin8 h1 h2 (show 0 < m by omega) hx s
    have hfit : FP.Core.fits f (.fin s c (q - 3)) := by rw [← e2]; exact FP.Core.roundRatio_fits hf s m (by decide) _
    rw [e1, e2]
    show (if (2 : Nat) ^ k = 0 then _ else FP.Core.roundRatio f (s != false) c (2 ^ k) (q - r)) = _
    rw [if_neg hk, Bool.bne_false]
    refine FP.Core.roundRatio_exact hf (Nat.two_pow_pos k) hfit ?_
    rw [show (q - r - (q - 3)).toNat = k by omega, show (q - 3 - (q - r)).toNat = 0 by omega, Nat.pow_zero, Nat.mul_one]
theorem i32_abs (g : Int32) : g.toInt.natAbs ≤ 2 ^ 31 := by
  have := g.toInt_lt
  have := g.le_toInt
  omega
theorem e64_n (g : Int32) : fX3_nearestEighths 1 g = oD 1 (FP.Core.val64 (FP.ddiv (FP.i2d g) 4620693217682128896)) := by
  rw [eighths_n (by decide), show FP.ddiv (FP.i2d g) 4620693217682128896 = FP.Core.ddiv (FP.Core.i2d g) 4620693217682128896 from rfl, FP.Core.val64_ddiv, FP.Core.val64_i2d, show FP.Core.val64 4620693217682128896 = .fin false (2 ^ 52) (-49) by decide +kernel, quot8 FP.Core.good_b64 (by decide) (by decide) (i32_abs g) (by decide)]; rfl
theorem e32_n (g : Int32) : fX3_nearestEighths 0 g = oD 0 (FP.Core.val32 (FP.fdiv (FP.i2f g) 1090519040)) := by
  rw [eighths_n (by decide), show FP.fdiv (FP.i2f g) 1090519040 = FP.Core.fdiv (FP.Core.i2f g) 1090519040 from rfl, FP.Core.val32_fdiv, FP.Core.val32_i2f, show FP.Core.val32 1090519040 = .fin false (2 ^ 23) (-20) by decide +kernel, quot8 FP.Core.good_b32 (by decide) (by decide) (i32_abs g) (by decide)]; rfl
theorem bits_f {y : UInt32} (h : FP.fIsNaN y = false) : fX5_bitsOf false (FP.f2d y) = oD 0 (FP.Core.val32 y) := by
  show (fJxf58ca_floatToIntBits_5c35a (FP.d2f (FP.f2d y))).toInt64 = _
  rw [d2f_f2d h, B32 h]
theorem bits_t {v : UInt64} (h : FP.dIsNaN v = false) : fX5_bitsOf true v = oD 1 (FP.Core.val64 v) := by
  show fJxe99ae_doubleToLongBits_ccdee v = _
  exact B64 h
/-- a double as it is told, and back -/
theorem back_t {v : UInt64} (h : FP.dIsNaN v = false) : (fX5_bitsOf true v).toUInt64 = v := M_back (w := true) ⟨h, fun q => absurd q (by decide)⟩
theorem okt_t {b : Int64} (h : FP.dIsNaN b.toUInt64 = false) : okt true b := ⟨h, fun q => absurd q (by decide)⟩
theorem sum_t {a b : Int64} {x y : UInt64} (ha : Tld 1 a) (hb : Tld 1 b) (ea : vW 1 a = FP.Core.val64 x) (eb : vW 1 b = FP.Core.val64 y) (hn : FP.dIsNaN (FP.dadd x y) = false) : fX3_added 1 a b = fX5_bitsOf true (FP.dadd x y) := by
  have e : FP.Core.val64 (FP.dadd x y) = FP.Core.round FP.Core.b64 (FP.Core.exactSum (FP.Core.val64 x) (FP.Core.val64 y)) := FP.Core.val64_dadd x y
  rw [bits_t hn, e, ← ea, ← eb]
  refine added_n (by decide) ha hb (fun q => (FP.Core.notNaN_iff _).mp hn ?_)
  rw [e, ← ea, ← eb]; exact FP.Core.round_nan.mpr q
theorem sum_f {a b : Int64} {x y : UInt32} (ha : Tld 0 a) (hb : Tld 0 b) (ea : vW 0 a = FP.Core.val32 x) (eb : vW 0 b = FP.Core.val32 y) (hn : FP.fIsNaN (FP.fadd x y) = false) : fX3_added 0 a b = fX5_bitsOf false (FP.f2d (FP.fadd x y)) := by
  have e : FP.Core.val32 (FP.fadd x y) = FP.Core.round FP.Core.b32 (FP.Core.exactSum (FP.Core.val32 x) (FP.Core.val32 y)) := FP.Core.val32_fadd x y
  rw [bits_f hn, e, ← ea, ← eb]
  refine added_n (by decide) ha hb (fun q => (FP.Core.notNaN_iff32 _).mp hn ?_)
  rw [e, ← ea, ← eb]; exact FP.Core.round_nan.mpr q
theorem M_more {w : Bool} {b : Int64} {g : Int32} (h : okt w b) : fX3_added (fX4_widthOf w) b (fX3_nearestEighths (fX4_widthOf w) g) = fX5_bitsOf w (moreE w (fX5_number w b) g) := by
  have tb := tld_of h
  cases w with
  | true =>
    have hd := (FP.Core.notNaN_iff _).mp (ddiv8_nn g)
    obtain ⟨t1, t2⟩ := oD_tld (i := 1) (by decide) (FP.Core.val64_fits (FP.ddiv (FP.i2d g) 4620693217682128896)) hd
    show fX3_added 1 b (fX3_nearestEighths 1 g) = fX5_bitsOf true (FP.dadd b.toUInt64 (FP.ddiv (FP.i2d g) 4620693217682128896))
    rw [e64_n]
    exact sum_t tb t1 (V64 b).symm t2 (dadd8_nn g (okb_t h.1 rfl))
  | false =>
    have hd := (FP.Core.notNaN_iff32 _).mp (fdiv8_nn g)
    have nx := okb_f h.1 (by decide)
    obtain ⟨t1, t2⟩ := oD_tld (i := 0) (by decide) (FP.Core.val32_fits (FP.fdiv (FP.i2f g) 1090519040)) hd
    show fX3_added 0 b (fX3_nearestEighths 0 g) = fX5_bitsOf false (FP.f2d (FP.fadd (FP.d2f (FP.f2d b.toInt32.toUInt32)) (FP.fdiv (FP.i2f g) 1090519040)))
    rw [e32_n, d2f_f2d nx]
    exact sum_f tb t1 (V32 b).symm t2 (fadd8_nn g nx)
theorem negated_n {i : Nat} {b : Int64} (hi : i < 2) (h : Tld i b) : Tld i (fX3_negated i b) ∧ vW i (fX3_negated i b) = FP.Core.negate (vW i b) := by
  obtain ⟨s, z, hz, rfl⟩ := h
  have hlt := tld_lt hi hz
  have hT := tN_lt (s := s) hlt
  have hh : FP.Core.half (fm i) = kS i := fm_S hi
  have e : fX3_negated i (lN (tN i s z)) = lN (tN i (!s) z) := by
    unfold fX3_negated
    rw [neg_n hi hT, tN_sgn s hi hlt, size_n hi hT, tN_mod s hi hlt, signed_n hi _ hlt, signed_n hi _ hlt]
    cases s <;> rfl
  rw [e]
  refine ⟨⟨!s, z, hz, rfl⟩, ?_⟩
  have hd := FP.Core.decode_half (f := fm i) (n := z) (by rw [hh]; exact hlt)
  rw [hh] at hd
  rw [vW_t _ hi hz, vW_t _ hi hz]
  cases s
  · show FP.Core.decode (fm i) (1 * kS i + z) = FP.Core.negate (FP.Core.decode (fm i) (0 * kS i + z))
    rw [Nat.one_mul, Nat.zero_mul, Nat.zero_add, Nat.add_comm, hd]
  · show FP.Core.decode (fm i) (0 * kS i + z) = FP.Core.negate (FP.Core.decode (fm i) (1 * kS i + z))
    rw [Nat.one_mul, Nat.zero_mul, Nat.zero_add, Nat.add_comm, hd, FP.Core.negate_negate]
theorem sub_t {a b : Int64} (ha : FP.dIsNaN a.toUInt64 = false) (hb : FP.dIsNaN b.toUInt64 = false) (hn : FP.dIsNaN (FP.dsub a.toUInt64 b.toUInt64) = false) : fX3_added 1 a (fX3_negated 1 b) = fX5_bitsOf true (FP.dsub a.toUInt64 b.toUInt64) := by
  have ta : Tld 1 a := tld_of (okt_t ha)
  have tb : Tld 1 b := tld_of (okt_t hb)
  obtain ⟨t1, t2⟩ := negated_n (by decide) tb
  have e : FP.Core.val64 (FP.dsub a.toUInt64 b.toUInt64) = FP.Core.round FP.Core.b64 (FP.Core.exactSum (FP.Core.val64 a.toUInt64) (FP.Core.negate (FP.Core.val64 b.toUInt64))) := FP.Core.val64_dsub _ _
  rw [bits_t hn, e, V64, V64, ← t2]
  refine added_n (by decide) ta t1 (fun q => (FP.Core.notNaN_iff _).mp hn ?_)
  rw [e, V64, V64, ← t2]; exact FP.Core.round_nan.mpr q
theorem neg0_n {b : Int64} (h : FP.dIsNaN b.toUInt64 = false) : neg0 b.toUInt64 = (fX3_isNegative 1 b && !fX3_isZero 1 b) := by
  refine bool_iff ?_
  rw [neg0_iff h]
  show 2 ^ 63 ≤ uN b ∧ uN b % 2 ^ 63 ≠ 0 ↔ _
  obtain ⟨n, hn, rfl⟩ := ofN b
  rw [uN_lN hn, neg_n (by decide) hn, zero_n (by decide) hn, kS_1, Bool.and_eq_true, decide_eq_true_iff, Bool.not_eq_true', decide_eq_false_iff_not]
  omega
theorem size_t {b : Int64} (h : FP.dIsNaN b.toUInt64 = false) (hz : ¬ zer b.toUInt64 = true) : (fX3_size 1 b).toUInt64 = (if neg0 b.toUInt64 = true then FP.dneg b.toUInt64 else b.toUInt64) := by
  have hz' : ¬ uN b % 2 ^ 63 = 0 := fun q => hz ((zer_iff h).mpr q)
  have hne := neg0_iff h
  apply UInt64.toNat_inj.mp
  show uN (fX3_size 1 b) = _
  have hl := uN_lt b
  have es : uN (fX3_size 1 b) = uN b % 2 ^ 63 := by
    obtain ⟨n, hn, rfl⟩ := ofN b
    rw [size_n (by decide) hn, uN_lN hn, uN_lN (Nat.lt_trans mod_S (by decide)), kS_1]
  rw [es]
  by_cases c : neg0 b.toUInt64 = true
  · rw [if_pos c]
    have h1 : 2 ^ 63 ≤ uN b := (hne.mp c).1
    rw [FP.dneg_xor]
    show _ = (uN b ^^^ 2 ^ 63)
    rw [nat_xor hl]; omega
  · rw [if_neg c]
    have h1 : ¬ (2 ^ 63 ≤ uN b ∧ uN b % 2 ^ 63 ≠ 0) := fun q => c (hne.mpr q)
    show _ = uN b
    omega
theorem span_fin {k : Int32} {sp : Int64} (hs : okS k sp) : FP.Core.DFin (fX3_size 1 sp).toUInt64 := by
  rw [size_t hs.2.1 hs.2.2.1]
  have h3 : FP.Core.DFin sp.toUInt64 := fin_of hs.2.1 hs.2.2.2
  split
  · exact dneg_fin h3
  · exact h3
/-- what a step tells -/
theorem step_n {k : Int32} {sp v : Int64} (hs : okS k sp) (hv : FP.dIsNaN v.toUInt64 = false) (he : ¬ fX5_isEndless v.toUInt64 = true) : fX3_added 1 v (fX3_negated 1 (fX3_remainder 1 v sp)) = fX5_bitsOf true (stepN sp.toUInt64 v.toUInt64) := by
  have hr := drem_nn hv he hs.2.1 hs.2.2.1
  have e : fX3_remainder 1 v sp = fX5_bitsOf true (FP.drem v.toUInt64 sp.toUInt64) := M_rem (w := true) (okt_t hv) (okt_t hs.2.1) he hs.2.2.1
  have hb := back_t hr
  have hn := step_nn (fin_of hv he) hs.2.1 (nz_of hs.2.1 hs.2.2.1)
  rw [e]
  have := sub_t (b := fX5_bitsOf true (FP.drem v.toUInt64 sp.toUInt64)) hv (by rw [hb]; exact hr) (by rw [hb]; exact hn)
  rw [hb] at this
  exact this
theorem over_n {k : Int32} {sp v : Int64} (hs : okS k sp) (hv : FP.dIsNaN v.toUInt64 = false) (he : ¬ fX5_isEndless v.toUInt64 = true) : fX3_added 1 v (fX3_negated 1 (fX5_bitsOf true (stepN sp.toUInt64 v.toUInt64))) = fX5_bitsOf true (FP.dsub v.toUInt64 (stepN sp.toUInt64 v.toUInt64)) := by
  have h1 : FP.dIsNaN (stepN sp.toUInt64 v.toUInt64) = false := step_nn (fin_of hv he) hs.2.1 (nz_of hs.2.1 hs.2.2.1)
  have h2 : FP.dIsNaN (FP.dsub v.toUInt64 (stepN sp.toUInt64 v.toUInt64)) = false := FP.Core.dsub_out' (fin_of hv he) h1
  have hb := back_t h1
  have := sub_t (b := fX5_bitsOf true (stepN sp.toUInt64 v.toUInt64)) hv (by rw [hb]; exact h1) (by rw [hb]; exact h2)
  rw [hb] at this
  exact this
theorem wrap_n {k : Int32} {sp : Int64} {x : UInt64} (hs : okS k sp) (hx : FP.dIsNaN x = false) : fX3_added 1 (fX5_bitsOf true x) (fX3_size 1 sp) = fX5_bitsOf true (FP.dadd x (if neg0 sp.toUInt64 = true then FP.dneg sp.toUInt64 else sp.toUInt64)) := by
  have hf := span_fin hs
  have hb := back_t hx
  rw [← size_t hs.2.1 hs.2.2.1]
  refine sum_t (tld_of (okt_t (by rw [hb]; exact hx))) (tld_of (okt_t hf.notNaN)) ?_ (V64 _).symm (FP.Core.dadd_out hx hf)
  rw [← V64, hb]
theorem of01_n {x : UInt64} (hx : FP.dIsNaN x = false) : fX3_nearestOf 0 1 (fX5_bitsOf true x) = fX5_bitsOf false x := by
  have hb := back_t hx
  have := M_of0 (w := true) (b := fX5_bitsOf true x) (okt_t (by rw [hb]; exact hx))
  rw [show fX5_number true (fX5_bitsOf true x) = (fX5_bitsOf true x).toUInt64 from rfl, hb] at this
  exact this
/-- whole numbers -/
theorem whole_t (v : Int64) : fX3_nearestWhole 1 v = oD 1 (FP.Core.val64 (FP.l2d v)) := by
  rw [whole_n (by decide)]
  show _ = oD 1 (FP.Core.val64 (FP.Core.l2d v))
  rw [FP.Core.val64_l2d]; rfl
theorem whole_f (v : Int64) : fX3_nearestWhole 0 v = oD 0 (FP.Core.val32 (FP.l2f v)) := by
  rw [whole_n (by decide)]
  show _ = oD 0 (FP.Core.val32 (FP.Core.l2f v))
  rw [FP.Core.val32_l2f]; rfl
theorem long_t {x : UInt64} (h : FP.dIsNaN x = false) : fX3_cutToLong 1 (oD 1 (FP.Core.val64 x)) = FP.d2l x := by
  obtain ⟨t1, t2⟩ := oD_tld (i := 1) (by decide) (FP.Core.val64_fits x) ((FP.Core.notNaN_iff x).mp h)
  rw [long_n (by decide) t1, t2]; rfl
theorem long_f {x : UInt32} (h : FP.fIsNaN x = false) : fX3_cutToLong 0 (oD 0 (FP.Core.val32 x)) = FP.f2l x := by
  obtain ⟨t1, t2⟩ := oD_tld (i := 0) (by decide) (FP.Core.val32_fits x) ((FP.Core.notNaN_iff32 x).mp h)
  rw [long_n (by decide) t1, t2]; rfl
theorem int_f {x : UInt32} (h : FP.fIsNaN x = false) : fX3_cutToInt 0 (oD 0 (FP.Core.val32 x)) = FP.f2i x := by
  obtain ⟨t1, t2⟩ := oD_tld (i := 0) (by decide) (FP.Core.val32_fits x) ((FP.Core.notNaN_iff32 x).mp h)
  rw [int_n (by decide) t1, t2]; rfl
theorem of01_t {x : UInt64} (h : FP.dIsNaN x = false) : fX3_nearestOf 0 1 (oD 1 (FP.Core.val64 x)) = oD 0 (FP.Core.val32 (FP.d2f x)) := by
  obtain ⟨t1, t2⟩ := oD_tld (i := 1) (by decide) (FP.Core.val64_fits x) ((FP.Core.notNaN_iff x).mp h)
  rw [of_n (by decide) (by decide) t1, t2, FP.d2f_core h, FP.Core.val32_d2f]; rfl
theorem self_t {b : Int64} (h : FP.dIsNaN b.toUInt64 = false) : b = oD 1 (FP.Core.val64 b.toUInt64) := by
  have t : Tld 1 b := tld_of (okt_t h)
  rw [V64]; exact (oD_vW (by decide) t).symm
