theorem kS_0 : kS 0 = 2147483648 := rfl
theorem kS_1 : kS 1 = 9223372036854775808 := rfl
theorem kE_0 : kE 0 = 2139095040 := rfl
theorem kE_1 : kE 1 = 9218868437227405312 := rfl
theorem tN_f (i z : Nat) : tN i false z = z := rfl
theorem tN_t (i z : Nat) : tN i true z = z + (2 ^ 64 - kS i) := rfl
theorem tN_mod {i z : Nat} (s : Bool) (hi : i < 2) (hz : z < kS i) : tN i s z % kS i = z := by
  rcases two_i hi with rfl | rfl <;> cases s <;> simp only [tN_f, tN_t, kS_0, kS_1] at hz ⊢ <;> omega
theorem tN_sgn {i z : Nat} (s : Bool) (hi : i < 2) (hz : z < kS i) : decide (tN i s z / kS i % 2 = 1) = s := by
  rcases two_i hi with rfl | rfl <;> cases s <;> simp only [tN_f, tN_t, kS_0, kS_1] at hz ⊢ <;> first | exact decide_eq_false (by omega) | exact decide_eq_true (by omega)
theorem tN_mod2 {i z : Nat} (s : Bool) (hi : i < 2) (hz : z < kS i) : tN i s z % (2 * kS i) = s.toNat * kS i + z := by
  rcases two_i hi with rfl | rfl <;> cases s <;> simp only [tN_f, tN_t, kS_0, kS_1, Bool.toNat_true, Bool.toNat_false] at hz ⊢ <;> omega
theorem tN_1 {n : Nat} (hn : n < 2 ^ 64) : tN 1 (decide (n / kS 1 % 2 = 1)) (n % kS 1) = n := by
  by_cases h : n < 2 ^ 63
  · rw [decide_eq_false (by rw [kS_1]; omega), tN_f, kS_1]; omega
  · rw [decide_eq_true (by rw [kS_1]; omega), tN_t, kS_1]; omega
theorem nI_wide {m : Nat} (hm : m < 2 ^ 32) : (nI m).toInt64 = lN (tN 0 (decide (m / kS 0 % 2 = 1)) (m % kS 0)) := by
  have e : (nI m).toInt = if m < 2 ^ 31 then (m : Int) else (m : Int) - 4294967296 := by
    show (BitVec.ofNat 32 m).toInt = _
    rw [BitVec.toInt_eq_toNat_cond, BitVec.toNat_ofNat, Nat.mod_eq_of_lt hm]
    split <;> split <;> omega
  rw [fa_eq64, Int32.toInt_toInt64, e]
  by_cases h : m < 2 ^ 31
  · rw [if_pos h, decide_eq_false (by rw [kS_0]; omega), tN_f, kS_0, lN_ti (by omega), if_pos (by omega)]; omega
  · rw [if_neg h, decide_eq_true (by rw [kS_0]; omega), tN_t, kS_0, lN_ti (by omega), if_neg (by omega)]; omega
theorem nI_mod (n : Nat) : nI n = nI (n % 2 ^ 32) := Int32.toBitVec_inj.mp (by
  show BitVec.ofNat 32 n = BitVec.ofNat 32 (n % 2 ^ 32)
  apply BitVec.eq_of_toNat_eq; rw [BitVec.toNat_ofNat, BitVec.toNat_ofNat, Nat.mod_mod])
theorem nI_wide' (n : Nat) : (nI n).toInt64 = lN (tN 0 (decide (n / kS 0 % 2 = 1)) (n % kS 0)) := by
  rw [nI_mod, nI_wide (Nat.mod_lt _ (by decide)), kS_0, show n % 2 ^ 32 / 2147483648 % 2 = n / 2147483648 % 2 by omega, show n % 2 ^ 32 % 2147483648 = n % 2147483648 by omega]
/-- a number of a width in the form in which it is told -/
def Tld (i : Nat) (b : Int64) : Prop := ∃ s z, z ≤ kE i ∧ b = lN (tN i s z)
theorem tld_of {w : Bool} {b : Int64} (h : okt w b) : Tld (fX4_widthOf w) b := by
  cases w with
  | true =>
    have h1 : uN b % 2 ^ 63 ≤ 9218868437227405312 := nn_le (okb_t h.1 rfl)
    obtain ⟨n, hn, rfl⟩ := ofN b
    rw [uN_lN hn] at h1
    exact ⟨decide (n / kS 1 % 2 = 1), n % kS 1, h1, by rw [show fX4_widthOf true = 1 from rfl, tN_1 hn]⟩
  | false =>
    have h1 := nn_le32 (okb_f h.1 (by decide))
    have h2 := h.2 rfl
    obtain ⟨m, hm, e⟩ := wb_of32 b.toInt32
    rw [e] at h1 h2
    have e2 : (nI m).toUInt32.toNat = m := by
      show (BitVec.ofNat 32 m).toNat = m
      rw [BitVec.toNat_ofNat, Nat.mod_eq_of_lt hm]
    rw [e2] at h1
    exact ⟨decide (m / kS 0 % 2 = 1), m % kS 0, h1, by rw [← h2]; exact nI_wide hm⟩
theorem fm_size {i : Nat} (hi : i < 2) : 2 * (fm i).exps * (fm i).tails = 2 * kS i := by rw [Nat.mul_assoc, fm_S hi]
theorem tld_lt {i z : Nat} (hi : i < 2) (hz : z ≤ kE i) : z < kS i := Nat.lt_of_le_of_lt hz (kE_lt hi)
theorem vW_t {i z : Nat} (s : Bool) (hi : i < 2) (hz : z ≤ kE i) : vW i (lN (tN i s z)) = FP.Core.decode (fm i) (s.toNat * kS i + z) := by
  unfold vW
  rw [uN_lN (tN_lt (tld_lt hi hz)), tN_mod2 s hi (tld_lt hi hz)]
theorem vW_nn {i : Nat} {b : Int64} (hi : i < 2) (h : Tld i b) : vW i b ≠ .nan := by
  obtain ⟨s, z, hz, rfl⟩ := h
  rw [vW_n hi (tN_lt (tld_lt hi hz)), tN_mod s hi (tld_lt hi hz)]
  split
  · exact nofun
  · exact nofun
theorem vW_fits {i : Nat} (hi : i < 2) (b : Int64) : FP.Core.fits (fm i) (vW i b) := FP.Core.decode_fits (fm_good hi) _
theorem sz_lt {i z : Nat} (s : Bool) (hz : z < kS i) : s.toNat * kS i + z < 2 * kS i := by
  cases s
  · rw [Bool.toNat_false]; omega
  · rw [Bool.toNat_true]; omega
theorem oD_vW {i : Nat} {b : Int64} (hi : i < 2) (h : Tld i b) : oD i (vW i b) = b := by
  have hn := vW_nn hi h
  obtain ⟨s, z, hz, rfl⟩ := h
  have hlt := tld_lt hi hz
  rw [vW_t s hi hz] at hn ⊢
  exact oD_of hlt (FP.Core.encode_decode (fm_good hi) _ (by rw [fm_size hi]; exact sz_lt s hlt) hn)
theorem mag_i {i : Nat} (hi : i < 2) (n : Nat) : FP.Core.mag (fm i) n = n % kS i := by
  unfold FP.Core.mag FP.Core.half; rw [fm_S hi]
theorem inf_i {i : Nat} (hi : i < 2) : FP.Core.infBits (fm i) = kE i := fm_E hi
theorem oD_tld {i : Nat} {d : FP.Core.Datum} (hi : i < 2) (hf : FP.Core.fits (fm i) d) (hd : d ≠ .nan) : Tld i (oD i d) ∧ vW i (oD i d) = d := by
  have hl := FP.Core.encode_lt (fm_good hi) d hf
  have hde := FP.Core.decode_encode (fm_good hi) d hf
  rw [fm_size hi] at hl
  unfold oD
  generalize FP.Core.encode (fm i) d = m at *
  have hp := kS_pos i
  have hz : m % kS i ≤ kE i := Nat.le_of_not_lt (fun q => hd (by
    rw [← hde]; exact (FP.Core.decode_nan m).mpr (by rw [inf_i hi, mag_i hi]; exact q)))
  refine ⟨⟨_, _, hz, rfl⟩, ?_⟩
  rw [vW_t _ hi hz, ← hde]
  congr 1
  have h1 := Nat.div_add_mod m (kS i)
  have h2 : m / kS i < 2 := (Nat.div_lt_iff_lt_mul hp).mpr hl
  generalize m / kS i = u at *
  rcases (show u = 0 ∨ u = 1 by omega) with h3 | h3
  · subst h3; simp at h1 ⊢; omega
  · subst h3; simp at h1 ⊢; omega
theorem V32 (b : Int64) : FP.Core.val32 b.toInt32.toUInt32 = vW 0 b := by
  obtain ⟨n, hn, rfl⟩ := ofN b
  show FP.Core.decode FP.Core.b32 (lN n).toInt32.toUInt32.toNat = FP.Core.decode (fm 0) (uN (lN n) % (2 * kS 0))
  rw [uN_lN hn, lN_i32]
  have e : (nI n).toUInt32.toNat = n % (2 * kS 0) := by
    show (BitVec.ofNat 32 n).toNat = _
    rw [BitVec.toNat_ofNat]; rfl
  rw [e]; rfl
theorem V64 (b : Int64) : FP.Core.val64 b.toUInt64 = vW 1 b := by
  show FP.Core.decode FP.Core.b64 (uN b) = FP.Core.decode (fm 1) (uN b % (2 * kS 1))
  rw [Nat.mod_eq_of_lt (show uN b < 2 * kS 1 from uN_lt b)]; rfl
theorem V_num {w : Bool} {b : Int64} (h : okt w b) : FP.Core.val64 (fX5_number w b) = FP.Core.round FP.Core.b64 (vW (fX4_widthOf w) b) := by
  unfold fX5_number
  cases w with
  | true =>
    rw [if_pos rfl, V64]; exact (FP.Core.round_of_fits FP.Core.good_b64 (vW_fits (i := 1) (by decide) b)).symm
  | false =>
    rw [if_neg (by decide), FP.f2d_core (okb_f h.1 (by decide)), FP.Core.val64_f2d, V32]; rfl
theorem B32 {y : UInt32} (h : FP.fIsNaN y = false) : (fJxf58ca_floatToIntBits_5c35a y).toInt64 = oD 0 (FP.Core.val32 y) := by
  have h1 : fJxf58ca_floatToIntBits_5c35a y = y.toInt32 := by
    unfold fJxf58ca_floatToIntBits_5c35a fJxf58ca_isNaN_12338
    rw [if_pos (fself h), if_neg (by decide)]
  have hn := (FP.Core.notNaN_iff32 y).mp h
  have he : FP.Core.encode (fm 0) (FP.Core.val32 y) = y.toNat := FP.Core.encode_decode FP.Core.good_b32 _ (by rw [FP.Core.size_b32]; exact y.toNat_lt) hn
  have e : y.toInt32 = nI y.toNat := Int32.toBitVec_inj.mp (by
    show y.toBitVec = BitVec.ofNat 32 y.toNat
    apply BitVec.eq_of_toNat_eq; rw [BitVec.toNat_ofNat]; exact (Nat.mod_eq_of_lt y.toNat_lt).symm)
  unfold oD
  rw [h1, he, e]; exact nI_wide y.toNat_lt
theorem B64 {v : UInt64} (h : FP.dIsNaN v = false) : fJxe99ae_doubleToLongBits_ccdee v = oD 1 (FP.Core.val64 v) := by
  have h1 : fJxe99ae_doubleToLongBits_ccdee v = v.toInt64 := by
    unfold fJxe99ae_doubleToLongBits_ccdee fJxe99ae_isNaN_b9ae7
    rw [if_pos (dself h), if_neg (by decide)]
  have hn := (FP.Core.notNaN_iff v).mp h
  have he : FP.Core.encode (fm 1) (FP.Core.val64 v) = v.toNat := FP.Core.encode_decode FP.Core.good_b64 _ (by rw [FP.Core.size_b64]; exact v.toNat_lt) hn
  have e : v.toInt64 = lN v.toNat := Int64.toBitVec_inj.mp (by
    show v.toBitVec = BitVec.ofNat 64 v.toNat
    apply BitVec.eq_of_toNat_eq; rw [BitVec.toNat_ofNat]; exact (Nat.mod_eq_of_lt v.toNat_lt).symm)
  unfold oD
  rw [h1, he, tN_1 v.toNat_lt, e]
theorem B_bits {w : Bool} {v : UInt64} (h : FP.dIsNaN v = false) : fX5_bitsOf w v = oD (fX4_widthOf w) (FP.Core.round (fm (fX4_widthOf w)) (FP.Core.val64 v)) := by
  unfold fX5_bitsOf
  cases w with
  | true =>
    rw [if_pos rfl, B64 h]
    show oD 1 _ = oD 1 (FP.Core.round FP.Core.b64 _)
    rw [FP.Core.round_of_fits FP.Core.good_b64 (FP.Core.val64_fits v)]
  | false =>
    rw [if_neg (by decide), B32 (by rw [FP.d2f_nan]; exact h), FP.d2f_core h, FP.Core.val32_d2f]; rfl
theorem widen {i : Nat} {d : FP.Core.Datum} (hi : i < 2) (h : FP.Core.fits (fm i) d) : FP.Core.round (fm i) (FP.Core.round FP.Core.b64 d) = d := by
  rcases two_i hi with rfl | rfl
  · exact FP.Core.round_widen FP.Core.good_b32 FP.Core.good_b64 FP.Core.within_32_64 h
  · show FP.Core.round FP.Core.b64 (FP.Core.round FP.Core.b64 d) = d
    rw [FP.Core.round_of_fits FP.Core.good_b64 (d := d) h, FP.Core.round_of_fits FP.Core.good_b64 (d := d) h]
theorem M_back {w : Bool} {v : UInt64} (h : FV w v) : fX5_number w (fX5_bitsOf w v) = v := by
  cases w with
  | true =>
    have h1 : fJxe99ae_doubleToLongBits_ccdee v = v.toInt64 := by
      unfold fJxe99ae_doubleToLongBits_ccdee fJxe99ae_isNaN_b9ae7
      rw [if_pos (dself h.1), if_neg (by decide)]
    unfold fX5_number fX5_bitsOf
    rw [if_pos rfl, if_pos rfl, h1]; rfl
  | false =>
    obtain ⟨x, hx, rfl⟩ := h.2 rfl
    have h1 : fJxf58ca_floatToIntBits_5c35a x = x.toInt32 := by
      unfold fJxf58ca_floatToIntBits_5c35a fJxf58ca_isNaN_12338
      rw [if_pos (fself hx), if_neg (by decide)]
    unfold fX5_number fX5_bitsOf
    rw [if_neg (by decide), if_neg (by decide), d2f_f2d hx, h1, Int32.toInt32_toInt64]; rfl
theorem M_okn {w : Bool} {v : UInt64} (h : FP.dIsNaN v = false) : okt w (fX5_bitsOf w v) := by
  cases w with
  | true =>
    have h1 : fJxe99ae_doubleToLongBits_ccdee v = v.toInt64 := by
      unfold fJxe99ae_doubleToLongBits_ccdee fJxe99ae_isNaN_b9ae7
      rw [if_pos (dself h), if_neg (by decide)]
    unfold okt okb fX5_bitsOf
    rw [if_pos rfl, if_pos rfl, h1]
    exact ⟨h, fun q => absurd q (by decide)⟩
  | false =>
    have hx : FP.fIsNaN (FP.d2f v) = false := by rw [FP.d2f_nan]; exact h
    have h1 : fJxf58ca_floatToIntBits_5c35a (FP.d2f v) = (FP.d2f v).toInt32 := by
      unfold fJxf58ca_floatToIntBits_5c35a fJxf58ca_isNaN_12338
      rw [if_pos (fself hx), if_neg (by decide)]
    unfold okt okb fX5_bitsOf
    rw [if_neg (by decide), if_neg (by decide), h1, Int32.toInt32_toInt64]
    exact ⟨hx, fun _ => rfl⟩
theorem M_num (w : Bool) (b : Int64) : fX3_isNumber (fX4_widthOf w) b = fX5_isNumber w b := by
  cases w with
  | true => rfl
  | false =>
    obtain ⟨n, hn, rfl⟩ := ofN b
    show fX3_isNumber 0 (lN n) = _
    rw [num_n (by decide) hn]
    unfold fX5_isNumber
    rw [if_neg (by decide), lN_i32, show (2147483647 : Int32) = nI (2 ^ 31 - 1) from rfl, fa_mask, show (2139095040 : Int32) = nI 2139095040 from rfl, kS_0, kE_0]
    have hm : n % 2 ^ 31 < 2 ^ 31 := Nat.mod_lt _ (by decide)
    by_cases h : n % 2147483648 ≤ 2139095040
    · rw [decide_eq_true h, if_neg (by rw [fa_lt, nI_toInt (by omega), nI_toInt hm]; omega)]
    · rw [decide_eq_false h, if_pos (by rw [fa_lt, nI_toInt (by omega), nI_toInt hm]; omega)]
theorem told_n {i n : Nat} (hi : i < 2) (hn : n < 2 ^ 64) : fX3_asTold i (lN n) = lN (tN i (decide (n / kS i % 2 = 1)) (n % kS i)) := by
  unfold fX3_asTold
  rw [neg_n hi hn, size_n hi hn, signed_n hi _ (Nat.mod_lt _ (kS_pos i))]
theorem M_told (w : Bool) (b : Int64) : fX3_asTold (fX4_widthOf w) b = (if w = true then b else b.toInt32.toInt64) := by
  obtain ⟨n, hn, rfl⟩ := ofN b
  rw [told_n (wi_lt w) hn]
  cases w with
  | true => rw [if_pos rfl, show fX4_widthOf true = 1 from rfl, tN_1 hn]
  | false => rw [if_neg (by decide), show fX4_widthOf false = 0 from rfl, lN_i32, nI_wide']
/-- zero and endless, by what a number is -/
theorem zm_W {i n : Nat} (hi : i < 2) (hn : n < 2 ^ 64) (h : n % kS i ≤ kE i) : FP.Core.zmag (fm i) (vW i (lN n)) = FP.Core.unitsOf (fm i) (n % kS i) := by
  have e : FP.Core.mag (fm i) (uN (lN n) % (2 * kS i)) = n % kS i := by
    rw [mag_i hi, uN_lN hn]; exact Nat.mod_mod_of_dvd _ (Nat.dvd_mul_left _ _)
  unfold vW
  rw [FP.Core.zmag_decode (fm_good hi) (by rw [e, inf_i hi]; exact h), e]
theorem tld_n {i n : Nat} (hi : i < 2) (hn : n < 2 ^ 64) (h : Tld i (lN n)) : n % kS i ≤ kE i := by
  obtain ⟨s, z, hz, e⟩ := h
  rw [(jN_eq hn (tN_lt (tld_lt hi hz))).mp e, tN_mod s hi (tld_lt hi hz)]; exact hz
theorem zero_W {i n : Nat} (hi : i < 2) (hn : n < 2 ^ 64) (h : Tld i (lN n)) : n % kS i = 0 ↔ ∃ s q, vW i (lN n) = .fin s 0 q := by
  have h1 := tld_n hi hn h
  have h2 := zm_W hi hn h1
  constructor
  · intro h0
    have hE : ¬ n % kS i = kE i := by rw [h0]; rcases two_i hi with rfl | rfl <;> decide
    refine ⟨sF i n, qF i n, ?_⟩
    rw [vW_n hi hn, if_neg hE, if_pos h1]
    congr 1
    rw [h0, FP.Core.unitsOf_zero, vW_n hi hn, if_neg hE, if_pos h1] at h2
    have h3 : cF i n * 2 ^ (qF i n - (fm i).qmin).toNat = 0 := h2
    rcases Nat.mul_eq_zero.mp h3 with h | h
    · exact h
    · exact absurd h (Nat.ne_of_gt (Nat.two_pow_pos _))
  · intro ⟨s, q, e⟩
    rw [e] at h2
    have h3 : FP.Core.unitsOf (fm i) (n % kS i) = 0 := by
      rw [← h2]; show 0 * 2 ^ (q - (fm i).qmin).toNat = 0; rw [Nat.zero_mul]
    exact FP.Core.unitsOf_eq_zero.mp h3
theorem endl_W {i n : Nat} (hi : i < 2) (hn : n < 2 ^ 64) (h : Tld i (lN n)) : n % kS i = kE i ↔ ∃ s, vW i (lN n) = .inf s := by
  have h1 := tld_n hi hn h
  rw [vW_n hi hn]
  by_cases h2 : n % kS i = kE i
  · rw [if_pos h2]; exact ⟨fun _ => ⟨_, rfl⟩, fun _ => h2⟩
  · rw [if_neg h2, if_pos h1]; exact ⟨fun q => absurd q h2, fun ⟨s, q⟩ => nomatch q⟩
theorem round_zero {f : FP.Core.Fmt} (s : Bool) (q : Int) : FP.Core.round f (.fin s 0 q) = .fin s 0 f.qmin := by
  show FP.Core.roundRatio f s 0 1 q = _
  unfold FP.Core.roundRatio; rw [if_pos rfl]
theorem wide_zero {i : Nat} {d : FP.Core.Datum} (hi : i < 2) (hd : FP.Core.fits (fm i) d) : (∃ s q, FP.Core.round FP.Core.b64 d = .fin s 0 q) ↔ ∃ s q, d = .fin s 0 q := by
  constructor
  · intro ⟨s, q, e⟩
    have := widen hi hd
    rw [e, round_zero] at this
    exact ⟨s, _, this.symm⟩
  · intro ⟨s, q, e⟩
    rw [e, round_zero]; exact ⟨s, _, rfl⟩
theorem wide_inf {i : Nat} {d : FP.Core.Datum} {s : Bool} (hi : i < 2) (hd : FP.Core.fits (fm i) d) : FP.Core.round FP.Core.b64 d = .inf s ↔ d = .inf s := by
  constructor
  · intro e
    have := widen hi hd
    rw [e] at this
    exact this.symm
  · intro e; rw [e]; rfl
theorem zer_D {v : UInt64} (h : FP.dIsNaN v = false) : zer v = true ↔ ∃ s q, FP.Core.val64 v = .fin s 0 q := (zer_iff h).trans (FP.Core.zero_bits2 v).symm
theorem endl_D {v : UInt64} (h : FP.dIsNaN v = false) : fX5_isEndless v = true ↔ ∃ s, FP.Core.val64 v = .inf s := by
  constructor
  · intro h1
    have h2 := (endl_iff h).mp h1
    have hn := (FP.Core.notNaN_iff v).mp h
    cases hd : FP.Core.val64 v with
    | nan => exact absurd hd hn
    | inf s => exact ⟨s, rfl⟩
    | fin s c q =>
      have := (FP.Core.fin_bits v).mp ⟨s, c, q, hd⟩
      omega
  · intro ⟨s, h1⟩; exact inf_endl h1
theorem bool_iff {a b : Bool} (h : a = true ↔ b = true) : a = b := by
  cases a <;> cases b <;> first | rfl | exact absurd (h.mp rfl) (by decide) | exact absurd (h.mpr rfl) (by decide)
theorem M_zero {w : Bool} {b : Int64} (h : okt w b) : fX3_isZero (fX4_widthOf w) b = zer (fX5_number w b) := by
  have ht := tld_of h
  have hi := wi_lt w
  refine bool_iff ?_
  rw [zer_D (num_nn h.1), V_num h, wide_zero hi (vW_fits hi b)]
  obtain ⟨n, hn, rfl⟩ := ofN b
  rw [zero_n hi hn, decide_eq_true_iff]
  exact zero_W hi hn ht
theorem M_endl {w : Bool} {b : Int64} (h : okt w b) : fX3_isEndless (fX4_widthOf w) b = fX5_isEndless (fX5_number w b) := by
  have ht := tld_of h
  have hi := wi_lt w
  refine bool_iff ?_
  rw [endl_D (num_nn h.1), V_num h]
  have e : (∃ s, FP.Core.round FP.Core.b64 (vW (fX4_widthOf w) b) = .inf s) ↔ ∃ s, vW (fX4_widthOf w) b = .inf s := ⟨fun ⟨s, q⟩ => ⟨s, (wide_inf hi (vW_fits hi b)).mp q⟩, fun ⟨s, q⟩ => ⟨s, (wide_inf hi (vW_fits hi b)).mpr q⟩⟩
  rw [e]
  obtain ⟨n, hn, rfl⟩ := ofN b
  rw [endl_n hi hn, decide_eq_true_iff]
  exact endl_W hi hn ht
theorem neg_inf {i : Nat} {b : Int64} {s : Bool} (hi : i < 2) (h : vW i b = .inf s) : fX3_isNegative i b = s := by
  obtain ⟨n, hn, rfl⟩ := ofN b
  rw [vW_n hi hn] at h
  rw [neg_n hi hn]
  by_cases h1 : n % kS i = kE i
  · rw [if_pos h1] at h; injection h
  · rw [if_neg h1] at h
    split at h
    · exact nomatch h
    · exact nomatch h
theorem neg_fin {i : Nat} {b : Int64} {s : Bool} {c : Nat} {q : Int} (hi : i < 2) (h : vW i b = .fin s c q) : fX3_isNegative i b = s := by
  obtain ⟨n, hn, rfl⟩ := ofN b
  rw [vW_n hi hn] at h
  rw [neg_n hi hn]
  by_cases h1 : n % kS i = kE i
  · rw [if_pos h1] at h; exact nomatch h
  · rw [if_neg h1] at h
    split at h
    · injection h
    · exact nomatch h
theorem M_unl {w : Bool} {a v : Int64} (ha : okt w a) (hv : okt w v) : fX3_areUnlikeEndless (fX4_widthOf w) a v = unl (fX5_number w a) (fX5_number w v) := by
  have hi := wi_lt w
  unfold fX3_areUnlikeEndless unl
  rw [M_endl ha, M_endl hv]
  by_cases h1 : fX5_isEndless (fX5_number w a) = true
  · rw [if_pos h1, h1, Bool.true_and]
    by_cases h2 : fX5_isEndless (fX5_number w v) = true
    · rw [if_pos h2, h2, Bool.true_and]
      obtain ⟨s, e1⟩ := (endl_D (num_nn ha.1)).mp h1
      obtain ⟨t, e2⟩ := (endl_D (num_nn hv.1)).mp h2
      have f1 := neg_inf hi ((wide_inf hi (vW_fits hi a)).mp ((V_num ha).symm.trans e1))
      have f2 := neg_inf hi ((wide_inf hi (vW_fits hi v)).mp ((V_num hv).symm.trans e2))
      have e : FP.dcmp (fX5_number w a) (fX5_number w v) = FP.Core.order (FP.Core.val64 (fX5_number w a)) (FP.Core.val64 (fX5_number w v)) := rfl
      rw [f1, f2, e, e1, e2]
      cases s <;> cases t <;> decide
    · rw [if_neg h2, Bool.eq_false_iff.mpr h2]; rfl
  · rw [if_neg h1, Bool.eq_false_iff.mpr h1]; rfl
theorem M_span (b : Int64) : fX4_isSpan b = (fX5_isNumber true b && (!zer b.toUInt64 && !fX5_isEndless b.toUInt64)) := by
  unfold fX4_isSpan
  rw [show fX3_isNumber 1 b = fX5_isNumber true b from M_num true b]
  by_cases h : fX5_isNumber true b = true
  · have ho : okt true b := ⟨isnum_ok h, fun q => absurd q (by decide)⟩
    have hz := M_zero (w := true) ho
    have he := M_endl (w := true) ho
    rw [show fX4_widthOf true = 1 from rfl, show fX5_number true b = b.toUInt64 from rfl] at hz he
    rw [if_pos h, h, hz, he]
    cases zer b.toUInt64 <;> cases fX5_isEndless b.toUInt64 <;> rfl
  · rw [if_neg h, Bool.eq_false_iff.mpr h]; rfl
