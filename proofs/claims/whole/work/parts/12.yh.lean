theorem remL_n {dv : Nat} (h0 : 0 < dv) (hd : dv < 2 ^ 53) : ∀ (n : Nat) (sh : Int32) (left : Nat), sh.toInt ≤ (n : Int) → -10 ≤ sh.toInt → left < dv → remL (lN dv) n sh (lN left) = lN (left * 2 ^ sh.toInt.toNat % dv) := by
  intro n
  induction n with
  | zero =>
    intro sh left h1 h2 h3
    rw [show sh.toInt.toNat = 0 by omega, Nat.pow_zero, Nat.mul_one, Nat.mod_eq_of_lt h3]; rfl
  | succ n ih =>
    intro sh left h1 h2 h3
    by_cases h : sh ≤ 0
    · have hs : sh.toInt ≤ 0 := by rw [fa_le] at h; exact h
      rw [remL_0 h, show sh.toInt.toNat = 0 by omega, Nat.pow_zero, Nat.mul_one, Nat.mod_eq_of_lt h3]
    · have hs : 0 < sh.toInt := by rw [fa_le] at h; exact Int.not_le.mp h
      have hlt := sh.toInt_lt
      have e10 : (sh + (-10)).toInt = sh.toInt - 10 := by
        have a10 : (-10 : Int32).toInt = -10 := rfl
        rw [i32_add (by omega) (by omega), a10]; omega
      have ek : (if (10 : Int32) < sh then (10 : Int32) else sh) = nI (min 10 sh.toInt.toNat) := by
        have a10 : (10 : Int32).toInt = 10 := rfl
        by_cases c : (10 : Int32) < sh
        · rw [if_pos c]; rw [fa_lt, a10] at c
          rw [show min 10 sh.toInt.toNat = 10 by omega]; rfl
        · rw [if_neg c]; rw [fa_lt, a10] at c
          rw [fa_eq, nI_toInt (by omega)]; omega
      have hp : 2 ^ (min 10 sh.toInt.toNat) ≤ 2 ^ 10 := Nat.pow_le_pow_right (by decide) (by omega)
      have hb := Nat.mul_le_mul_left left hp
      rw [remL_s h, ek, wb_shl _ (by omega), pk_lRem (by omega) h0 (by omega), ih _ _ (by omega) (by omega) (Nat.mod_lt _ h0), e10, Nat.mul_mod (left * 2 ^ (min 10 sh.toInt.toNat) % dv), Nat.mod_mod, ← Nat.mul_mod, Nat.mul_assoc, ← Nat.pow_add, show min 10 sh.toInt.toNat + (sh.toInt - 10).toNat = sh.toInt.toNat by omega]
theorem cF_pos {i n : Nat} (hi : i < 2) (hn : n < 2 ^ 64) (h : Tld i (lN n)) (hz : ¬ ∃ s q, vW i (lN n) = .fin s 0 q) : 0 < cF i n := by
  refine Nat.pos_of_ne_zero (fun h0 => ?_)
  by_cases e : n % kS i = kE i
  · have h1 : eF i n = (fm i).exps - 1 := by unfold eF; rw [e, exps_i hi]; rfl
    have h2 := FP.Core.emax_exps (fm_good hi)
    have h3 := Nat.two_pow_pos (kF i)
    unfold cF at h0
    rw [if_neg (by omega)] at h0
    omega
  · have h1 := tld_n hi hn h
    rw [fin_W hi hn (by omega), h0] at hz
    exact hz ⟨_, _, rfl⟩
theorem size_le_n {i m n : Nat} (hi : i < 2) (hm : m < 2 ^ 64) (hn : n < 2 ^ 64) : fX3_size i (lN m) ≤ fX3_size i (lN n) ↔ m % kS i ≤ n % kS i := by
  rw [size_n hi hm, size_n hi hn, jN_le mod_S mod_S]
theorem rem_fin {s t : Bool} {c d : Nat} {q r : Int} (hd : d ≠ 0) : FP.Core.exactRemainder (.fin s c q) (.fin t d r) = .fin s (FP.Core.inUnits c q (min q r) % FP.Core.inUnits d r (min q r)) (min q r) := by
  show (if d = 0 then FP.Core.Datum.nan else _) = _
  rw [if_neg hd]
theorem remainder_n {i : Nat} {x y : Int64} (hi : i < 2) (hx : Tld i x) (hy : Tld i y) (hxe : ¬ ∃ s, vW i x = .inf s) (hyz : ¬ ∃ s q, vW i y = .fin s 0 q) : fX3_remainder i x y = oD i (FP.Core.round (fm i) (FP.Core.exactRemainder (vW i x) (vW i y))) := by
  have ox := oD_vW hi hx
  have hf := fm_good hi
  obtain ⟨m, hm, rfl⟩ := ofN x
  obtain ⟨n, hn, rfl⟩ := ofN y
  have la := tld_n hi hm hx
  have lb := tld_n hi hn hy
  have hme : ¬ m % kS i = kE i := fun q => hxe ((endl_W hi hm hx).mp q)
  have fa := fin_W hi hm (show m % kS i < kE i by omega)
  have hc := cF_pos hi hn hy hyz
  have b1 := cF_b hi m
  have b2 := cF_b hi n
  have q1 := qF_b hi m
  have q2 := qF_b hi n
  unfold fX3_remainder
  rw [sig_n hi hm, sig_n hi hn, if_neg (by rw [show (0 : Int64) = lN 0 from rfl, jN_eq (by omega) (by decide)]; omega)]
  by_cases c : n % kS i ≤ m % kS i
  · have fb := fin_W hi hn (show n % kS i < kE i by omega)
    have hq := qF_mono c
    rw [if_pos ((size_le_n hi hn hm).mpr c), expd_n hi hn hm c, pk_lRem (by omega) hc (by omega)]
    have hS : (nI (qF i m - qF i n).toNat).toInt = qF i m - qF i n := by rw [nI_toInt (by omega)]; omega
    have hlt := Nat.mod_lt (cF i m) hc
    rw [remL_n hc b2 _ _ _ (by show _ ≤ ((nI (qF i m - qF i n).toNat).toInt.toNat : Int); omega) (by omega) hlt, hS]
    have hlt2 := Nat.mod_lt (cF i m % cF i n * 2 ^ (qF i m - qF i n).toNat) hc
    have hex := exp_n hi hn
    rw [near_n hi _ (by omega) _ (by omega), hex, fa, fb, rem_fin (by omega), neg_n hi hm]
    unfold FP.Core.inUnits
    rw [show min (qF i m) (qF i n) = qF i n by omega, Int.sub_self, Nat.mul_mod (cF i m % cF i n), Nat.mod_mod, ← Nat.mul_mod]
    show _ = oD i (FP.Core.roundRatio (fm i) (sF i m) _ 1 _)
    rw [show ((0 : Int).toNat) = 0 from rfl, Nat.pow_zero, Nat.mul_one]; rfl
  · rw [if_neg (fun q => c ((size_le_n hi hn hm).mp q))]
    have e : FP.Core.round (fm i) (FP.Core.exactRemainder (vW i (lN m)) (vW i (lN n))) = vW i (lN m) := by
      by_cases e2 : n % kS i = kE i
      · obtain ⟨t, ht⟩ := (endl_W hi hn hy).mp e2
        have e3 : FP.Core.exactRemainder (vW i (lN m)) (vW i (lN n)) = vW i (lN m) := by rw [ht, fa]; rfl
        rw [e3, FP.Core.round_of_fits hf (vW_fits hi _)]
      · have fb := fin_W hi hn (show n % kS i < kE i by omega)
        have f1 := vW_fits hi (lN m)
        have f2 := vW_fits hi (lN n)
        have z1 := zm_W hi hm la
        have z2 := zm_W hi hn lb
        have hz := (FP.Core.unitsOf_lt_iff (f := fm i)).mpr (show m % kS i < n % kS i by omega)
        rw [← z1, ← z2, fa, fb] at hz
        rw [fa] at f1 ⊢
        rw [fb] at f2 ⊢
        have hz : FP.Core.inUnits (cF i m) (qF i m) (fm i).qmin < FP.Core.inUnits (cF i n) (qF i n) (fm i).qmin := hz
        have g1 := f1.2.1
        have g2 := f2.2.1
        rw [FP.Core.inUnits_move (cF i m) (q := qF i m) (r := min (qF i m) (qF i n)) (e := (fm i).qmin) (by omega) (by omega), FP.Core.inUnits_move (cF i n) (q := qF i n) (r := min (qF i m) (qF i n)) (e := (fm i).qmin) (by omega) (by omega)] at hz
        rw [rem_fin (by omega), Nat.mod_eq_of_lt (Nat.lt_of_mul_lt_mul_right hz), FP.Core.round_inUnits _ _ (by omega), FP.Core.round_of_fits hf (d := .fin _ _ _) f1]
    rw [e, ox]
/-- one value, written in two ways -/
theorem sv_units {c c' : Nat} {q q' e : Int} (h1 : e ≤ q) (h2 : e ≤ q') : c * 2 ^ (q - q').toNat = c' * 2 ^ (q' - q).toNat ↔ FP.Core.inUnits c q e = FP.Core.inUnits c' q' e := by
  unfold FP.Core.inUnits
  have ex : (q - e).toNat + (q' - q).toNat = (q' - e).toNat + (q - q').toNat := by omega
  generalize (q - e).toNat = a at *
  generalize (q' - e).toNat = b at *
  generalize (q - q').toNat = x at *
  generalize (q' - q).toNat = y at *
  constructor
  · intro h
    refine Nat.eq_of_mul_eq_mul_right (Nat.two_pow_pos x) ?_
    calc c * 2 ^ a * 2 ^ x = c * 2 ^ x * 2 ^ a := by ac_rfl
      _ = c' * 2 ^ (a + y) := by rw [h, Nat.pow_add]; ac_rfl
      _ = c' * 2 ^ b * 2 ^ x := by rw [ex, Nat.pow_add]; ac_rfl
  · intro h
    refine Nat.eq_of_mul_eq_mul_right (Nat.two_pow_pos b) ?_
    calc c * 2 ^ x * 2 ^ b = c * 2 ^ (b + x) := by rw [Nat.pow_add]; ac_rfl
      _ = c * 2 ^ a * 2 ^ y := by rw [← ex, Nat.pow_add]; ac_rfl
      _ = c' * 2 ^ y * 2 ^ b := by rw [h]; ac_rfl
theorem qmin_le : FP.Core.b64.qmin ≤ FP.Core.b32.qmin := by decide
theorem rem_wide {i : Nat} {dx dy : FP.Core.Datum} (hi : i < 2) (hx : FP.Core.fits (fm i) dx) (hy : FP.Core.fits (fm i) dy) (hxf : ∃ s c q, dx = .fin s c q) (hyn : dy ≠ .nan) (hyz : ¬ ∃ s q, dy = .fin s 0 q) : FP.Core.round (fm i) (FP.Core.round FP.Core.b64 (FP.Core.exactRemainder (FP.Core.round FP.Core.b64 dx) (FP.Core.round FP.Core.b64 dy))) = FP.Core.round (fm i) (FP.Core.exactRemainder dx dy) := by
  rcases two_i hi with rfl | rfl
  · show FP.Core.round FP.Core.b32 (FP.Core.round FP.Core.b64 (FP.Core.exactRemainder (FP.Core.round FP.Core.b64 dx) (FP.Core.round FP.Core.b64 dy))) = FP.Core.round FP.Core.b32 (FP.Core.exactRemainder dx dy)
    obtain ⟨s, c, q, rfl⟩ := hxf
    obtain ⟨c', q', g1, -, v1⟩ := FP.Core.within_fit FP.Core.good_b64 FP.Core.within_32_64 hx
    have r1 : FP.Core.round FP.Core.b64 (.fin s c q) = .fin s c' q' := FP.Core.roundRatio_exact FP.Core.good_b64 (by decide) g1 v1
    cases dy with
    | nan => exact absurd rfl hyn
    | inf t =>
      rw [r1]
      show FP.Core.round FP.Core.b32 (FP.Core.round FP.Core.b64 (.fin s c' q')) = FP.Core.round FP.Core.b32 (.fin s c q)
      rw [FP.Core.round_of_fits FP.Core.good_b64 (d := .fin s c' q') g1, ← r1, FP.Core.round_widen FP.Core.good_b32 FP.Core.good_b64 FP.Core.within_32_64 hx, FP.Core.round_of_fits FP.Core.good_b32 (d := .fin s c q) hx]
    | fin t d r =>
      have hd : d ≠ 0 := fun h => hyz ⟨t, r, by rw [h]⟩
      obtain ⟨d', r', g2, w2, v2⟩ := FP.Core.within_fit FP.Core.good_b64 FP.Core.within_32_64 hy
      have r2 : FP.Core.round FP.Core.b64 (.fin t d r) = .fin t d' r' := FP.Core.roundRatio_exact FP.Core.good_b64 (by decide) g2 v2
      rw [r1, r2]
      obtain ⟨c2, q2, s2, u2⟩ := FP.Core.remainder_exact FP.Core.good_b64 g1 g2 (fun h => hd (w2.mpr h))
      obtain ⟨c1, q1, s1, u1⟩ := FP.Core.remainder_exact FP.Core.good_b32 hx hy hd
      have k1 : FP.Core.fits FP.Core.b32 (.fin s c1 q1) := by rw [← s1]; exact FP.Core.round_fits FP.Core.good_b32 _
      have k2 : FP.Core.fits FP.Core.b64 (.fin s c2 q2) := by rw [← s2]; exact FP.Core.round_fits FP.Core.good_b64 _
      have hq := qmin_le
      have a1 := k1.2.1
      have a2 := k2.2.1
      have a3 := hx.2.1
      have a4 := hy.2.1
      have a5 := g1.2.1
      have a6 := g2.2.1
      have hmin : FP.Core.b32.qmin = (show FP.Core.Fmt from FP.Core.b32).qmin := rfl
      rw [s1, s2]
      refine FP.Core.roundRatio_exact FP.Core.good_b32 (by decide) k1 ?_
      rw [Nat.mul_one] at v1 v2 ⊢
      have a3 : FP.Core.b32.qmin ≤ q := hx.2.1
      have a4 : FP.Core.b32.qmin ≤ r := hy.2.1
      have b3 : FP.Core.b64.qmin ≤ q := by omega
      have b4 : FP.Core.b64.qmin ≤ r := by omega
      rw [sv_units (e := FP.Core.b64.qmin) (by omega) (by omega), u2, ← (sv_units (e := FP.Core.b64.qmin) b3 a5).mp v1, ← (sv_units (e := FP.Core.b64.qmin) b4 a6).mp v2, FP.Core.inUnits_move c (r := FP.Core.b32.qmin) hq a3, FP.Core.inUnits_move d (r := FP.Core.b32.qmin) hq a4, Nat.mul_mod_mul_right, ← show FP.Core.inUnits c1 q1 FP.Core.b32.qmin = _ from u1, ← FP.Core.inUnits_move c1 hq a1]
  · show FP.Core.round FP.Core.b64 (FP.Core.round FP.Core.b64 (FP.Core.exactRemainder (FP.Core.round FP.Core.b64 dx) (FP.Core.round FP.Core.b64 dy))) = FP.Core.round FP.Core.b64 (FP.Core.exactRemainder dx dy)
    rw [FP.Core.round_of_fits FP.Core.good_b64 (d := dx) hx, FP.Core.round_of_fits FP.Core.good_b64 (d := dy) hy, FP.Core.round_round FP.Core.good_b64]
theorem M_rem {w : Bool} {x y : Int64} (hx : okt w x) (hy : okt w y) (he : ¬ fX5_isEndless (fX5_number w x) = true) (hz : ¬ zer (fX5_number w y) = true) : fX3_remainder (fX4_widthOf w) x y = fX5_bitsOf w (FP.drem (fX5_number w x) (fX5_number w y)) := by
  have hi := wi_lt w
  have tx := tld_of hx
  have ty := tld_of hy
  have fx := vW_fits hi x
  have fy := vW_fits hi y
  have hxe : ¬ ∃ s, vW (fX4_widthOf w) x = .inf s := fun ⟨s, q⟩ => he ((endl_D (num_nn hx.1)).mpr ⟨s, by rw [V_num hx, q]; rfl⟩)
  have hyz : ¬ ∃ s q, vW (fX4_widthOf w) y = .fin s 0 q := fun q => hz ((zer_D (num_nn hy.1)).mpr (by rw [V_num hy]; exact (wide_zero hi fy).mpr q))
  have hxf : ∃ s c q, vW (fX4_widthOf w) x = .fin s c q := by
    have hn := vW_nn hi tx
    cases hd : vW (fX4_widthOf w) x with
    | nan => exact absurd hd hn
    | inf s => exact absurd ⟨s, hd⟩ hxe
    | fin s c q => exact ⟨s, c, q, rfl⟩
  rw [B_bits (drem_nn (num_nn hx.1) he (num_nn hy.1) hz), remainder_n hi tx ty hxe hyz, show FP.drem (fX5_number w x) (fX5_number w y) = FP.Core.drem (fX5_number w x) (fX5_number w y) from rfl, FP.Core.val64_drem, V_num hx, V_num hy, rem_wide hi fx fy hxf (vW_nn hi ty) hyz]
theorem M_add {w : Bool} {a v : Int64} (ha : okt w a) (hv : okt w v) (hu : ¬ unl (fX5_number w a) (fX5_number w v) = true) : fX3_added (fX4_widthOf w) a v = fX5_bitsOf w (addN w (fX5_number w a) (fX5_number w v)) := by
  have hi := wi_lt w
  have ta := tld_of ha
  have tv := tld_of hv
  cases w with
  | true =>
    have hn : FP.dIsNaN (FP.dadd (fX5_number true a) (fX5_number true v)) = false := dadd_unl (num_nn ha.1) (num_nn hv.1) hu
    have e : FP.Core.val64 (FP.dadd (fX5_number true a) (fX5_number true v)) = FP.Core.round FP.Core.b64 (FP.Core.exactSum (vW 1 a) (vW 1 v)) := by
      show FP.Core.val64 (FP.Core.dadd a.toUInt64 v.toUInt64) = _
      rw [FP.Core.val64_dadd, V64, V64]
    rw [show addN true (fX5_number true a) (fX5_number true v) = FP.dadd (fX5_number true a) (fX5_number true v) from rfl, B_bits hn, e]
    show fX3_added 1 a v = oD 1 (FP.Core.round FP.Core.b64 (FP.Core.round FP.Core.b64 _))
    rw [FP.Core.round_round FP.Core.good_b64]
    exact added_n hi ta tv (fun q => (FP.Core.notNaN_iff _).mp hn (by rw [e]; exact FP.Core.round_nan.mpr q))
  | false =>
    have nx := okb_f ha.1 (by decide)
    have ny := okb_f hv.1 (by decide)
    have hn : FP.fIsNaN (FP.fadd a.toInt32.toUInt32 v.toInt32.toUInt32) = false := fadd_unl nx ny hu
    have e : FP.Core.val32 (FP.fadd a.toInt32.toUInt32 v.toInt32.toUInt32) = FP.Core.round FP.Core.b32 (FP.Core.exactSum (vW 0 a) (vW 0 v)) := by
      show FP.Core.val32 (FP.Core.fadd _ _) = _
      rw [FP.Core.val32_fadd, V32, V32]
    have en : addN false (fX5_number false a) (fX5_number false v) = FP.f2d (FP.fadd a.toInt32.toUInt32 v.toInt32.toUInt32) := by
      show FP.f2d (FP.fadd (FP.d2f (FP.f2d a.toInt32.toUInt32)) (FP.d2f (FP.f2d v.toInt32.toUInt32))) = _
      rw [d2f_f2d nx, d2f_f2d ny]
    have eb : fX5_bitsOf false (FP.f2d (FP.fadd a.toInt32.toUInt32 v.toInt32.toUInt32)) = oD 0 (FP.Core.val32 (FP.fadd a.toInt32.toUInt32 v.toInt32.toUInt32)) := by
      show (fJxf58ca_floatToIntBits_5c35a (FP.d2f (FP.f2d _))).toInt64 = _
      rw [d2f_f2d hn, B32 hn]
    rw [en, eb, e]
    exact added_n hi ta tv (fun q => (FP.Core.notNaN_iff32 _).mp hn (by rw [e]; exact FP.Core.round_nan.mpr q))
