theorem neg_lN {n : Nat} (hn : n ≤ 2 ^ 64) : -(lN n) = lN (2 ^ 64 - n) := by
  rw [← Int64.zero_sub, show (0 : Int64) = lN (2 ^ 64) from rfl, jN_sub hn]
theorem abs_p {v : Int64} (h : (0 : Int64) ≤ v) : v = lN v.toInt.natAbs ∧ ¬ v.toInt < 0 := by
  rw [fa_le64, show (0 : Int64).toInt = 0 from rfl] at h
  have hlt := v.toInt_lt
  refine ⟨?_, by omega⟩
  rw [fa_eq64, pf_lI (by omega)]; omega
theorem abs_m {v : Int64} (h : ¬ (0 : Int64) ≤ v) : -v = lN v.toInt.natAbs ∧ v.toInt < 0 := by
  rw [fa_le64, show (0 : Int64).toInt = 0 from rfl] at h
  refine ⟨?_, by omega⟩
  obtain ⟨n, hn, rfl⟩ := ofN v
  rw [lN_ti hn] at h ⊢
  by_cases c : n < 2 ^ 63
  · rw [if_pos c] at h; omega
  · rw [if_neg c, neg_lN (by omega)]
    congr 1; omega
theorem abs_b (v : Int64) : v.toInt.natAbs ≤ 2 ^ 63 := by
  have := v.toInt_lt
  have := v.le_toInt
  omega
theorem whole_n {i : Nat} (hi : i < 2) (v : Int64) : fX3_nearestWhole i v = oD i (FP.Core.round (fm i) (FP.Core.ofInt v.toInt)) := by
  have hb := abs_b v
  unfold fX3_nearestWhole
  show _ = oD i (FP.Core.roundRatio (fm i) (decide (v.toInt < 0)) v.toInt.natAbs 1 0)
  by_cases h : (0 : Int64) ≤ v
  · obtain ⟨e, hs⟩ := abs_p h
    rw [if_pos h, decide_eq_false hs]
    have := near_n hi false hb 0 (by decide)
    rw [← e] at this
    exact this
  · obtain ⟨e, hs⟩ := abs_m h
    rw [if_neg h, decide_eq_true hs, e]
    exact near_n hi true hb 0 (by decide)
theorem eighths_n {i : Nat} (hi : i < 2) (g : Int32) : fX3_nearestEighths i g = oD i (FP.Core.roundRatio (fm i) (decide (g.toInt < 0)) g.toInt.natAbs 1 (-3)) := by
  have hb := abs_b g.toInt64
  unfold fX3_nearestEighths
  by_cases h : (0 : Int64) ≤ g.toInt64
  · obtain ⟨e, hs⟩ := abs_p h
    have := near_n hi false hb (-3) (by decide)
    rw [← e] at this
    rw [Int32.toInt_toInt64] at hs this
    rw [if_pos h, decide_eq_false hs]
    exact this
  · obtain ⟨e, hs⟩ := abs_m h
    rw [if_neg h, e]
    rw [Int32.toInt_toInt64] at hs hb ⊢
    rw [decide_eq_true hs]
    exact near_n hi true hb (-3) (by decide)
theorem inf_n {i : Nat} (hi : i < 2) (s : Bool) : fX3_signed i s (cEN i) = oD i (.inf s) := by
  rw [cE_n hi, signed_n hi s (kE_lt hi)]
  refine (oD_of (kE_lt hi) ?_).symm
  rw [enc_inf, fm_S hi, fm_E hi]
theorem of_n {i j : Nat} {b : Int64} (hi : i < 2) (hj : j < 2) (h : Tld j b) : fX3_nearestOf i j b = oD i (FP.Core.round (fm i) (vW j b)) := by
  obtain ⟨n, hn, rfl⟩ := ofN b
  have hl := tld_n hj hn h
  unfold fX3_nearestOf
  rw [endl_n hj hn]
  by_cases e : n % kS j = kE j
  · obtain ⟨s, hs⟩ := (endl_W hj hn h).mp e
    rw [decide_eq_true e, if_pos rfl, neg_inf hj hs, hs, inf_n hi]; rfl
  · have hc := cF_b hj n
    have hq := qF_b hj n
    have hx := exp_n hj hn
    rw [decide_eq_false e, if_neg (by decide), neg_n hj hn, sig_n hj hn, near_n hi _ (by omega) _ (by omega), hx, fin_W hj hn (by omega)]; rfl
theorem toInt_sg {s : Bool} {X : Nat} (h : X < 2 ^ 63) : (if s = true then -(lN X) else lN X).toInt = FP.Core.signed s X := by
  cases s with
  | false => rw [if_neg (by decide), pf_lI h]; rfl
  | true =>
    rw [if_pos rfl]
    show (-(lN X)).toInt = -(X : Int)
    by_cases h0 : X = 0
    · subst h0; rfl
    · rw [neg_lN (by omega), lN_ti (by omega), if_neg (by omega)]; omega
theorem cut_in {s : Bool} {X : Nat} {x : Int64} (h : X < 2 ^ 63) (hx : x = if s = true then -(lN X) else lN X) : x = Int64.ofInt (max (-2 ^ 63) (min (2 ^ 63 - 1) (FP.Core.signed s X))) := by
  have e : max (-2 ^ 63) (min (2 ^ 63 - 1) (FP.Core.signed s X)) = FP.Core.signed s X := by
    cases s
    · show max (-2 ^ 63) (min (2 ^ 63 - 1) (X : Int)) = (X : Int); omega
    · show max (-2 ^ 63) (min (2 ^ 63 - 1) (-(X : Int))) = -(X : Int); omega
  rw [e, ← toInt_sg h, ← hx, Int64.ofInt_toInt]
theorem cut_out {s : Bool} {X : Nat} (h : 2 ^ 63 ≤ X) : (if s = true then (-9223372036854775808 : Int64) else (9223372036854775807 : Int64)) = Int64.ofInt (max (-2 ^ 63) (min (2 ^ 63 - 1) (FP.Core.signed s X))) := by
  cases s
  · rw [show max (-2 ^ 63) (min (2 ^ 63 - 1) (FP.Core.signed false X)) = 2 ^ 63 - 1 by show max (-2 ^ 63) (min (2 ^ 63 - 1) (X : Int)) = _; omega]; rfl
  · rw [show max (-2 ^ 63) (min (2 ^ 63 - 1) (FP.Core.signed true X)) = -2 ^ 63 by show max (-2 ^ 63) (min (2 ^ 63 - 1) (-(X : Int))) = _; omega]; rfl
theorem bl_n {c : Nat} (hc : c < 2 ^ 53) : ∃ L : Nat, fX3_bitLength (lN c) = nI L ∧ L ≤ 53 ∧ c < 2 ^ L ∧ (c ≠ 0 → 1 ≤ L ∧ 2 ^ (L - 1) ≤ c) := by
  unfold fX3_bitLength
  rw [uN_lN (by omega)]
  by_cases h : c = 0
  · refine ⟨0, by rw [if_pos h], by omega, by omega, fun q => absurd h q⟩
  · have h1 := (Nat.log2_lt h).mpr hc
    refine ⟨c.log2 + 1, by rw [if_neg h], by omega, Nat.lt_log2_self, fun _ => ⟨by omega, Nat.log2_self_le h⟩⟩
theorem long_n {i : Nat} {b : Int64} (hi : i < 2) (h : Tld i b) : fX3_cutToLong i b = FP.Core.toL (vW i b) := by
  obtain ⟨n, hn, rfl⟩ := ofN b
  have hl := tld_n hi hn h
  have hc := cF_b hi n
  have hq := qF_b hi n
  have hx := exp_n hi hn
  obtain ⟨L, eL, hL, hL1, hL2⟩ := bl_n hc
  have hs : (fX3_bitLength (lN (cF i n)) + fX3_exponent i (lN n)).toInt = (L : Int) + qF i n := by
    have := nI_toInt (n := L) (by omega)
    rw [eL, i32_add (by omega) (by omega), this, hx]
  have h64 : (64 : Int32).toInt = 64 := rfl
  have hm64 : (-64 : Int32).toInt = -64 := rfl
  have h00 : (0 : Int32).toInt = 0 := rfl
  unfold fX3_cutToLong
  rw [neg_n hi hn, sig_n hi hn]
  show (if _ then (if _ then (if _ then (if sF i n = true then _ else _) else (if sF i n = true then _ else _)) else (if sF i n = true then _ else _)) else (if sF i n = true then _ else _)) = _
  by_cases e : n % kS i = kE i
  · have h1 : eF i n = (fm i).exps - 1 := by unfold eF; rw [e, exps_i hi]; rfl
    have h2 : cF i n = 2 ^ kF i + tF i n := by
      unfold cF; rw [if_neg (by have := FP.Core.emax_exps (fm_good hi); omega)]
    have h3 : kF i < L := by
      refine Nat.lt_of_not_le (fun q => ?_)
      have := Nat.pow_le_pow_right (show 0 < 2 by decide) q
      omega
    have h4 : 64 ≤ (L : Int) + qF i n := by
      unfold qF; rw [h1]
      rcases two_i hi with rfl | rfl
      · have a1 : (fm 0).qmin = -149 := by decide
        have a2 : (fm 0).exps = 256 := by decide
        omega
      · have a1 : (fm 1).qmin = -1074 := by decide
        have a2 : (fm 1).exps = 2048 := by decide
        omega
    rw [if_neg (by rw [fa_lt, hs, h64]; omega)]
    rw [vW_n hi hn, if_pos e]
    cases sF i n <;> rfl
  · have hw := fin_W hi hn (show n % kS i < kE i by omega)
    have hfit := vW_fits hi (lN n)
    rw [hw] at hfit
    have ht : FP.Core.toL (vW i (lN n)) = Int64.ofInt (max (-2 ^ 63) (min (2 ^ 63 - 1) (FP.Core.signed (sF i n) (cF i n * 2 ^ (qF i n).toNat / 2 ^ (-(qF i n)).toNat)))) := by rw [hw]; rfl
    rw [ht]
    by_cases c1 : (L : Int) + qF i n < 64
    · rw [if_pos (by rw [fa_lt, hs, h64]; exact c1)]
      by_cases c2 : qF i n < 0
      · rw [if_pos (by rw [fa_lt, hx, h00]; exact c2), show (qF i n).toNat = 0 by omega, Nat.pow_zero, Nat.mul_one]
        by_cases c3 : qF i n ≤ -64
        · have e0 : cF i n / 2 ^ (-(qF i n)).toNat = 0 := Nat.div_eq_of_lt (Nat.lt_of_lt_of_le hc (Nat.pow_le_pow_right (by decide) (by omega)))
          rw [if_pos (by rw [fa_le, hx, hm64]; exact c3), e0]
          exact cut_in (X := 0) (by decide) rfl
        · have en : -(fX3_exponent i (lN n)) = nI (-(qF i n)).toNat := by
            rw [fa_eq, i32_neg (by omega), hx, nI_toInt (by omega)]; omega
          rw [if_neg (by rw [fa_le, hx, hm64]; exact c3), en, wb_shr (by omega) (by omega)]
          exact cut_in (Nat.lt_of_le_of_lt (Nat.div_le_self _ _) (by omega)) rfl
      · have en : fX3_exponent i (lN n) = nI (qF i n).toNat := by
          rw [fa_eq, hx, nI_toInt (by omega)]; omega
        have hlt : cF i n * 2 ^ (qF i n).toNat < 2 ^ 63 := by
          have h1 : cF i n * 2 ^ (qF i n).toNat < 2 ^ L * 2 ^ (qF i n).toNat := Nat.mul_lt_mul_of_pos_right hL1 (Nat.two_pow_pos _)
          rw [← Nat.pow_add] at h1
          exact Nat.lt_of_lt_of_le h1 (Nat.pow_le_pow_right (by decide) (by omega))
        by_cases hz : cF i n = 0
        · exfalso
          rw [hz] at hfit
          have := FP.Core.fits_zero_q (fm_good hi) hfit
          have h5 := cLE_b hi
          have h6 : (fm i).qmin < 0 := by rcases two_i hi with rfl | rfl <;> decide
          omega
        · have hL3 := (hL2 hz).1
          rw [if_neg (by rw [fa_lt, hx, h00]; exact c2), show (-(qF i n)).toNat = 0 by omega, Nat.pow_zero, Nat.div_one, en, wb_shl _ (by omega)]
          exact cut_in hlt rfl
    · rw [if_neg (by rw [fa_lt, hs, h64]; exact c1)]
      have hz : cF i n ≠ 0 := fun hz => by
        rw [hz] at hfit hL2
        have := FP.Core.fits_zero_q (fm_good hi) hfit
        have h6 : (fm i).qmin < 0 := by rcases two_i hi with rfl | rfl <;> decide
        omega
      obtain ⟨g1, g2⟩ := hL2 hz
      refine cut_out ?_
      rw [show (-(qF i n)).toNat = 0 by omega, Nat.pow_zero, Nat.div_one]
      have h1 := Nat.mul_le_mul_right (2 ^ (qF i n).toNat) g2
      rw [← Nat.pow_add] at h1
      exact Nat.le_trans (Nat.pow_le_pow_right (by decide) (by omega)) h1
theorem toInt_cl {lo hi : Int} {d : FP.Core.Datum} (h : lo ≤ hi) (h0 : lo ≤ 0) (h1 : 0 ≤ hi) : lo ≤ FP.Core.toInt lo hi d ∧ FP.Core.toInt lo hi d ≤ hi := by
  cases d with
  | nan => exact ⟨h0, h1⟩
  | inf s => cases s <;> exact ⟨by first | exact h | exact Int.le_refl _, by first | exact h | exact Int.le_refl _⟩
  | fin s c q =>
    show lo ≤ max lo (min hi (FP.Core.truncate s c q)) ∧ max lo (min hi (FP.Core.truncate s c q)) ≤ hi
    omega
theorem toInt_two (d : FP.Core.Datum) : max (-2147483648) (min 2147483647 (FP.Core.toInt (-2 ^ 63) (2 ^ 63 - 1) d)) = FP.Core.toInt (-2 ^ 31) (2 ^ 31 - 1) d := by
  cases d with
  | nan => rfl
  | inf s => cases s <;> decide
  | fin s c q =>
    show max (-2147483648) (min 2147483647 (max (-2 ^ 63) (min (2 ^ 63 - 1) (FP.Core.truncate s c q)))) = max (-2 ^ 31) (min (2 ^ 31 - 1) (FP.Core.truncate s c q))
    omega
theorem int_n {i : Nat} {b : Int64} (hi : i < 2) (h : Tld i b) : fX3_cutToInt i b = FP.Core.toI (vW i b) := by
  have hL := long_n hi h
  have hc := toInt_cl (lo := -2 ^ 63) (hi := 2 ^ 63 - 1) (d := vW i b) (by decide) (by decide) (by decide)
  have hLi : (fX3_cutToLong i b).toInt = FP.Core.toInt (-2 ^ 63) (2 ^ 63 - 1) (vW i b) := by
    rw [hL]
    show (Int64.ofInt _).toInt = _
    exact Int64.toInt_ofInt_of_le hc.1 (by omega)
  have h2 := toInt_two (vW i b)
  have hc2 := toInt_cl (lo := -2 ^ 31) (hi := 2 ^ 31 - 1) (d := vW i b) (by decide) (by decide) (by decide)
  rw [← hLi] at h2
  unfold fX3_cutToInt
  generalize fX3_cutToLong i b = x at *
  have a1 : (2147483647 : Int64).toInt = 2147483647 := rfl
  have a2 : (-2147483648 : Int64).toInt = -2147483648 := rfl
  have e1 : (if x < (2147483647 : Int64) then x else (2147483647 : Int64)).toInt = min 2147483647 x.toInt := by
    by_cases c : x < (2147483647 : Int64)
    · rw [if_pos c]; rw [fa_lt64, a1] at c; omega
    · rw [if_neg c]; rw [fa_lt64, a1] at c; omega
  generalize (if x < (2147483647 : Int64) then x else (2147483647 : Int64)) = y at *
  have e2 : (if y < (-2147483648 : Int64) then (-2147483648 : Int64) else y).toInt = FP.Core.toInt (-2 ^ 31) (2 ^ 31 - 1) (vW i b) := by
    by_cases c : y < (-2147483648 : Int64)
    · rw [if_pos c]; rw [fa_lt64, a2, e1] at c; omega
    · rw [if_neg c]; rw [fa_lt64, a2, e1] at c; omega
  generalize (if y < (-2147483648 : Int64) then (-2147483648 : Int64) else y) = z at *
  show z.toInt32 = Int32.ofInt _
  rw [fa_eq, FP.Core.int64_toInt32 (by omega) (by omega), Int32.toInt_ofInt_of_le (by omega) (by omega), e2]
theorem trunc_sv {s : Bool} {c c' : Nat} {q q' : Int} (h : c * 2 ^ (q - q').toNat = c' * 2 ^ (q' - q).toNat) : FP.Core.truncate s c' q' = FP.Core.truncate s c q := by
  unfold FP.Core.truncate
  congr 1
  have ex : q.toNat + (-q').toNat + (q' - q).toNat = q'.toNat + (-q).toNat + (q - q').toNat := by omega
  generalize q.toNat = a at *
  generalize (-q').toNat = a2 at *
  generalize (q' - q).toNat = y at *
  generalize q'.toNat = b at *
  generalize (-q).toNat = b2 at *
  generalize (q - q').toNat = x at *
  have hx : c * 2 ^ a * 2 ^ a2 = c' * 2 ^ b * 2 ^ b2 := by
    refine Nat.eq_of_mul_eq_mul_right (Nat.two_pow_pos x) ?_
    calc c * 2 ^ a * 2 ^ a2 * 2 ^ x = c * 2 ^ x * (2 ^ a * 2 ^ a2) := by ac_rfl
      _ = c' * 2 ^ (a + a2 + y) := by rw [h, Nat.pow_add, Nat.pow_add]; ac_rfl
      _ = c' * 2 ^ b * 2 ^ b2 * 2 ^ x := by rw [ex, Nat.pow_add, Nat.pow_add]; ac_rfl
  rw [← Nat.mul_div_mul_right (c' * 2 ^ b) (2 ^ a2) (Nat.two_pow_pos b2), ← hx, ← Nat.mul_div_mul_right (c * 2 ^ a) (2 ^ b2) (Nat.two_pow_pos a2), Nat.mul_comm (2 ^ a2)]
theorem wide_toInt {i : Nat} {d : FP.Core.Datum} {lo hi : Int} (h : i < 2) (hd : FP.Core.fits (fm i) d) : FP.Core.toInt lo hi (FP.Core.round FP.Core.b64 d) = FP.Core.toInt lo hi d := by
  rcases two_i h with rfl | rfl
  · cases d with
    | nan => rfl
    | inf s => rfl
    | fin s c q =>
      obtain ⟨c', q', g1, -, v1⟩ := FP.Core.within_fit FP.Core.good_b64 FP.Core.within_32_64 hd
      have r1 : FP.Core.round FP.Core.b64 (.fin s c q) = .fin s c' q' := FP.Core.roundRatio_exact FP.Core.good_b64 (by decide) g1 v1
      rw [Nat.mul_one] at v1
      rw [r1]
      show max lo (min hi (FP.Core.truncate s c' q')) = max lo (min hi (FP.Core.truncate s c q))
      rw [trunc_sv v1]
  · rw [FP.Core.round_of_fits FP.Core.good_b64 (d := d) hd]
theorem wide_32 {i : Nat} {d : FP.Core.Datum} (h : i < 2) (hd : FP.Core.fits (fm i) d) : FP.Core.round FP.Core.b32 (FP.Core.round FP.Core.b64 d) = FP.Core.round FP.Core.b32 d := by
  rcases two_i h with rfl | rfl
  · rw [FP.Core.round_widen FP.Core.good_b32 FP.Core.good_b64 FP.Core.within_32_64 hd, FP.Core.round_of_fits FP.Core.good_b32 (d := d) hd]
  · rw [FP.Core.round_of_fits FP.Core.good_b64 (d := d) hd]
theorem M_int {w : Bool} {b : Int64} (h : okt w b) : fX3_cutToInt (fX4_widthOf w) b = FP.d2i (fX5_number w b) := by
  have hi := wi_lt w
  rw [int_n hi (tld_of h)]
  show Int32.ofInt (FP.Core.toInt _ _ (vW (fX4_widthOf w) b)) = Int32.ofInt (FP.Core.toInt _ _ (FP.Core.val64 (fX5_number w b)))
  rw [V_num h, wide_toInt hi (vW_fits hi b)]
theorem M_long {w : Bool} {b : Int64} (h : okt w b) : fX3_cutToLong (fX4_widthOf w) b = FP.d2l (fX5_number w b) := by
  have hi := wi_lt w
  rw [long_n hi (tld_of h)]
  show Int64.ofInt (FP.Core.toInt _ _ (vW (fX4_widthOf w) b)) = Int64.ofInt (FP.Core.toInt _ _ (FP.Core.val64 (fX5_number w b)))
  rw [V_num h, wide_toInt hi (vW_fits hi b)]
theorem M_of0 {w : Bool} {b : Int64} (h : okt w b) : fX3_nearestOf 0 (fX4_widthOf w) b = fX5_bitsOf false (fX5_number w b) := by
  have hi := wi_lt w
  rw [of_n (by decide) hi (tld_of h), B_bits (num_nn h.1), V_num h]
  show oD 0 (FP.Core.round FP.Core.b32 _) = oD 0 (FP.Core.round FP.Core.b32 _)
  rw [wide_32 hi (vW_fits hi b)]
theorem M_of1 {w : Bool} {b : Int64} (h : okt w b) : fX3_nearestOf 1 (fX4_widthOf w) b = fX5_bitsOf true (fX5_number w b) := by
  have hi := wi_lt w
  rw [of_n (by decide) hi (tld_of h), B_bits (num_nn h.1), V_num h]
  show oD 1 (FP.Core.round FP.Core.b64 _) = oD 1 (FP.Core.round FP.Core.b64 _)
  rw [FP.Core.round_round FP.Core.good_b64]
theorem M_turn {w : Bool} {b : Int64} {to : Int32} (h : okt w b) : fX4_turned (fX4_widthOf w) b to = tnd (fX5_number w b) to := by
  unfold fX4_turned tnd
  rw [M_int h, M_long h, M_of0 h, M_of1 h]
