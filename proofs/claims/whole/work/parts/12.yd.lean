/-- a datum in the form in which it is told -/
def oD (i : Nat) (d : FP.Core.Datum) : Int64 := lN (tN i (decide (FP.Core.encode (fm i) d / kS i % 2 = 1)) (FP.Core.encode (fm i) d % kS i))
theorem oD_of {i : Nat} {d : FP.Core.Datum} {s : Bool} {z : Nat} (hz : z < kS i) (h : FP.Core.encode (fm i) d = s.toNat * kS i + z) : oD i d = lN (tN i s z) := by
  unfold oD
  have hp := kS_pos i
  have e1 : (s.toNat * kS i + z) / kS i = s.toNat := by
    rw [Nat.mul_comm, Nat.mul_add_div hp, Nat.div_eq_of_lt hz]; rfl
  have e2 : (s.toNat * kS i + z) % kS i = z := by
    rw [Nat.mul_comm, Nat.mul_add_mod, Nat.mod_eq_of_lt hz]
  rw [h, e1, e2]
  congr 2
  cases s <;> rfl
theorem jN_add (a b : Nat) : lN a + lN b = lN (a + b) := wb_inj (by
  show (BitVec.ofNat 64 a + BitVec.ofNat 64 b) = BitVec.ofNat 64 (a + b)
  exact (BitVec.ofNat_add _ _).symm)
theorem jN_sub {a b : Nat} (h : b ≤ a) : lN a - lN b = lN (a - b) := by
  have h1 : lN (a - b) + lN b = lN a := by rw [jN_add]; congr 1; omega
  rw [← h1]; exact Int64.add_sub_cancel _ _
theorem i64_of {x : Int64} {z : Int} (h : x.toInt = z) (h0 : 0 ≤ z) (h1 : z < 2 ^ 63) : x = lN z.toNat := by
  rw [fa_eq64, pf_lI (by omega), h]; omega
theorem i32_sub {a b : Int32} (h1 : -2147483648 ≤ a.toInt - b.toInt) (h2 : a.toInt - b.toInt < 2147483648) : (a - b).toInt = a.toInt - b.toInt := by
  rw [Int32.toInt_sub, Int.bmod_eq_of_le (by omega) (by omega)]
theorem i32_add {a b : Int32} (h1 : -2147483648 ≤ a.toInt + b.toInt) (h2 : a.toInt + b.toInt < 2147483648) : (a + b).toInt = a.toInt + b.toInt := by
  rw [Int32.toInt_add, Int.bmod_eq_of_le (by omega) (by omega)]
theorem i32_neg {a : Int32} (h1 : -2147483648 < a.toInt) : (-a).toInt = -a.toInt := by
  have := Int32.toInt_lt a
  rw [Int32.toInt_neg, Int.bmod_eq_of_le (by omega) (by omega)]
theorem i64_sub {a b : Int64} (h1 : -9223372036854775808 ≤ a.toInt - b.toInt) (h2 : a.toInt - b.toInt < 9223372036854775808) : (a - b).toInt = a.toInt - b.toInt := by
  rw [Int64.toInt_sub, Int.bmod_eq_of_le (by omega) (by omega)]
theorem i64_add {a b : Int64} (h1 : -9223372036854775808 ≤ a.toInt + b.toInt) (h2 : a.toInt + b.toInt < 9223372036854775808) : (a + b).toInt = a.toInt + b.toInt := by
  rw [Int64.toInt_add, Int.bmod_eq_of_le (by omega) (by omega)]
theorem near_one (x : Nat) : FP.Core.nearest x 1 = x := by
  unfold FP.Core.nearest; simp [Nat.mod_one]
/-- what the lowest bits are rounded away to -/
theorem wlow_n {m d : Nat} (hm : m ≤ 2 ^ 63) (hd : 0 < d) (hd2 : d < 2 ^ 31) : fX3_withoutLowest (lN m) (nI d) = lN (FP.Core.nearest m (2 ^ d)) := by
  unfold fX3_withoutLowest
  by_cases h63 : d ≤ 63
  · rw [if_pos (by rw [fa_le, nI_toInt hd2, show (63 : Int32).toInt = 63 from rfl]; omega)]
    have hm64 : m < 2 ^ 64 := by omega
    have hp : 0 < 2 ^ d := Nat.two_pow_pos d
    have hp63 : 2 ^ d ≤ 2 ^ 63 := Nat.pow_le_pow_right (by decide) h63
    have hlt : m % 2 ^ d < 2 ^ d := Nat.mod_lt _ hp
    have e2 : 2 ^ d = 2 * 2 ^ (d - 1) := by rw [← Nat.pow_succ']; congr 1; omega
    rw [wb_shr hm64 (by omega), wb_shl _ (by omega)]
    have e1 : nI d - 1 = nI (d - 1) := by
      rw [fa_eq, Int32.toInt_sub, nI_toInt hd2, nI_toInt (by omega), show (1 : Int32).toInt = 1 from rfl, Int.bmod_eq_of_le (by omega) (by omega)]; omega
    rw [e1, show (1 : Int64) = lN 1 from rfl, wb_shl 1 (by omega), Nat.one_mul]
    have hdm := Nat.div_add_mod m (2 ^ d)
    have hle : m / 2 ^ d * 2 ^ d ≤ m := Nat.div_mul_le_self _ _
    have e3 : lN m - lN (m / 2 ^ d * 2 ^ d) = lN (m % 2 ^ d) := by
      rw [jN_sub hle]; congr 1
      rw [Nat.mul_comm] at hdm; omega
    have e4 : lN (m / 2 ^ d) &&& lN 1 = lN (m / 2 ^ d % 2) := wb_a1 (Nat.lt_of_le_of_lt (Nat.div_le_self _ _) hm64)
    have g1 := jN_lt (a := 2 ^ (d - 1)) (b := m % 2 ^ d) (by omega) (by omega)
    have g2 := jN_eq (a := m % 2 ^ d) (b := 2 ^ (d - 1)) (by omega) (by omega)
    have g3 := jN_eq (a := m / 2 ^ d % 2) (b := 1) (by omega) (by decide)
    rw [e3, e4, jN_add]
    simp only [g1, g2, g3]
    unfold FP.Core.nearest
    by_cases c1 : 2 ^ (d - 1) < m % 2 ^ d
    · rw [if_pos c1, if_neg (by omega), if_pos (by omega)]
    · rw [if_neg c1]
      by_cases c2 : m % 2 ^ d = 2 ^ (d - 1)
      · rw [if_pos c2, if_neg (show ¬ 2 * (m % 2 ^ d) < 2 ^ d by omega), if_neg (show ¬ 2 ^ d < 2 * (m % 2 ^ d) by omega)]
        by_cases c3 : m / 2 ^ d % 2 = 1
        · rw [if_pos c3, c3]
        · rw [if_neg c3, show m / 2 ^ d % 2 = 0 by omega]; rfl
      · rw [if_neg c2, if_pos (by omega)]
  · rw [if_neg (by rw [fa_le, nI_toInt hd2, show (63 : Int32).toInt = 63 from rfl]; omega)]
    have hp : 2 ^ 64 ≤ 2 ^ d := Nat.pow_le_pow_right (by decide) (by omega)
    have e1 : m / 2 ^ d = 0 := Nat.div_eq_of_lt (by omega)
    have e2 : m % 2 ^ d = m := Nat.mod_eq_of_lt (by omega)
    unfold FP.Core.nearest
    rw [e1, e2, show (0 : Int64) = lN 0 from rfl]
    congr 1
    by_cases c1 : 2 * m < 2 ^ d
    · rw [if_pos c1]
    · rw [if_neg c1, if_neg (by omega)]
theorem exps_i {i : Nat} (hi : i < 2) : (fm i).exps = kE i / 2 ^ kF i + 1 := by
  rcases two_i hi with rfl | rfl <;> decide
theorem cLE_b {i : Nat} (hi : i < 2) : -1100 ≤ (cLE i).toInt ∧ (cLE i).toInt ≤ 0 := by rcases two_i hi with rfl | rfl <;> decide
theorem kF_b {i : Nat} (hi : i < 2) : kF i ≤ 52 := by rcases two_i hi with rfl | rfl <;> decide
set_option maxHeartbeats 2000000 in
/-- the number FP.Core.nearest to a magnitude times 2 to an exponent -/
theorem near_n {i m : Nat} (hi : i < 2) (s : Bool) (hm : m ≤ 2 ^ 63) (ex : Int32) (hx : -3000 ≤ ex.toInt ∧ ex.toInt ≤ 3000) : fX3_nearest i s (lN m) ex = oD i (FP.Core.roundRatio (fm i) s m 1 ex.toInt) := by
  have hS : kS i = (fm i).exps * (fm i).tails := (fm_S hi).symm
  have hE : kE i = ((fm i).exps - 1) * (fm i).tails := (fm_E hi).symm
  have hlb := cLE_b hi
  have hkf := kF_b hi
  by_cases h0 : m = 0
  · subst h0
    unfold fX3_nearest
    rw [if_pos (show lN 0 = (0 : Int64) from rfl), show (0 : Int64) = lN 0 from rfl, signed_n hi s (kS_pos i)]
    refine (oD_of (kS_pos i) ?_).symm
    have hfit := FP.Core.roundRatio_fits (fm_good hi) s 0 (B := 1) (by decide) ex.toInt
    unfold FP.Core.roundRatio at hfit ⊢
    rw [if_pos rfl] at hfit ⊢
    rw [enc_fin hfit, hS]; simp
  · have hm0 : 0 < m := by omega
    have hl : m.log2 < 64 := (Nat.log2_lt h0).mpr (by omega)
    have hbl : fX3_bitLength (lN m) = nI (m.log2 + 1) := by
      unfold fX3_bitLength
      rw [uN_lN (by omega), if_neg h0]
    have hkF : cFB i = nI (kF i) := by rcases two_i hi with rfl | rfl <;> rfl
    have hq := quantum_1 (f := fm i) hm0 ex.toInt
    have hp := fm_p hi
    have hqm := fm_q hi
    have hqq := FP.Core.qmax_qmin (fm i)
    have hee := FP.Core.emax_exps (fm_good hi)
    have hen := enc_round (fm_good hi) s hm0 ex.toInt
    have hle := FP.Core.nearest_units_le (f := fm i) hm0 (B := 1) (by decide) ex.toInt
    have htw := FP.Core.two_tails (fm_good hi)
    have hex := exps_i hi
    unfold fX3_nearest
    rw [if_neg (by rw [show (0 : Int64) = lN 0 from rfl, jN_eq (by omega) (by decide)]; exact h0), hbl]
    have e1 : (nI (m.log2 + 1) - cFB i - 1).toInt = (m.log2 : Int) - kF i := by
      have a1 : (nI (m.log2 + 1)).toInt = (m.log2 : Int) + 1 := by rw [nI_toInt (by omega)]; omega
      have a2 : (nI (kF i)).toInt = (kF i : Int) := nI_toInt (by omega)
      have a3 : (1 : Int32).toInt = 1 := rfl
      have a4 : (nI (m.log2 + 1) - nI (kF i)).toInt = (m.log2 : Int) + 1 - kF i := by rw [i32_sub (by omega) (by omega), a1, a2]
      rw [hkF, i32_sub (by omega) (by omega), a4, a3]; omega
    have e2 : (cLE i - ex).toInt = (cLE i).toInt - ex.toInt := by
      rw [i32_sub (by omega) (by omega)]
    generalize hD : (if (nI (m.log2 + 1) - cFB i - 1) < (cLE i - ex) then (cLE i - ex) else (nI (m.log2 + 1) - cFB i - 1)) = D
    generalize hqd : FP.Core.quantum (fm i) m 1 ex.toInt = q at *
    have hDi : D.toInt = q - ex.toInt := by
      rw [← hD, hq]
      by_cases c : (nI (m.log2 + 1) - cFB i - 1) < (cLE i - ex)
      · rw [if_pos c, e2]; rw [fa_lt, e1, e2] at c; omega
      · rw [if_neg c, e1]; rw [fa_lt, e1, e2] at c; omega
    have hst : (ex.toInt64 + D.toInt64 - (cLE i).toInt64) = lN (q - (fm i).qmin).toNat := by
      refine i64_of ?_ (by omega) (by omega)
      have a1 : ex.toInt64.toInt = ex.toInt := Int32.toInt_toInt64 _
      have a2 : D.toInt64.toInt = q - ex.toInt := by rw [Int32.toInt_toInt64, hDi]
      have a3 : (cLE i).toInt64.toInt = (cLE i).toInt := Int32.toInt_toInt64 _
      have a4 : (ex.toInt64 + D.toInt64).toInt = q := by rw [i64_add (by omega) (by omega), a1, a2]; omega
      rw [i64_sub (by omega) (by omega), a4, a3]; omega
    have hcE : ((cEN i).toUInt64 >>> ((cFB i).toInt64.toUInt64 &&& Int64.toUInt64 63)).toInt64 = lN ((fm i).exps - 1) := by
      rw [hkF, cE_n hi, wb_shr (Nat.lt_trans (kE_lt63 hi) (by decide)) (kF_lt hi), hex]; rfl
    have hexl := exps_lt hi
    have hcond : ((ex.toInt64 + D.toInt64 - (cLE i).toInt64) + 1 < ((cEN i).toUInt64 >>> ((cFB i).toInt64.toUInt64 &&& Int64.toUInt64 63)).toInt64) ↔ ¬ (fm i).qmax < q := by
      rw [hst, hcE, show (1 : Int64) = lN 1 from rfl, jN_add, jN_lt (by omega) (by omega)]
      omega
    have hshl : (ex.toInt64 + D.toInt64 - (cLE i).toInt64) <<< ((cFB i).toInt64 &&& 63) = lN ((q - (fm i).qmin).toNat * (fm i).tails) := by
      rw [hst, hkF, wb_shl _ (kF_lt hi), fm_tails hi]
    -- what is kept
    have hkept : (if D ≤ 0 then (lN m <<< ((-D).toInt64 &&& 63)) else fX3_withoutLowest (lN m) D) = lN (FP.Core.nearest (FP.Core.unitsNum m ex.toInt q) (FP.Core.unitsDen 1 ex.toInt q)) := by
      by_cases c : D ≤ 0
      · rw [if_pos c]
        rw [fa_le, show (0 : Int32).toInt = 0 from rfl] at c
        have en : (-D) = nI (ex.toInt - q).toNat := by
          rw [fa_eq, i32_neg (by omega), hDi, nI_toInt (by omega)]; omega
        rw [en, wb_shl _ (by omega)]
        unfold FP.Core.unitsNum FP.Core.unitsDen
        rw [show (q - ex.toInt).toNat = 0 by omega, Nat.pow_zero, Nat.mul_one, near_one]
      · rw [if_neg c]
        rw [fa_le, show (0 : Int32).toInt = 0 from rfl] at c
        have en : D = nI (q - ex.toInt).toNat := by
          rw [fa_eq, hDi, nI_toInt (by omega)]; omega
        rw [en, wlow_n hm (by omega) (by omega)]
        unfold FP.Core.unitsNum FP.Core.unitsDen
        rw [show (ex.toInt - q).toNat = 0 by omega, Nat.pow_zero, Nat.mul_one, Nat.one_mul]
    have hfin : ∀ k : Int64, k = lN (FP.Core.nearest (FP.Core.unitsNum m ex.toInt q) (FP.Core.unitsDen 1 ex.toInt q)) → (if ((ex.toInt64 + D.toInt64 - (cLE i).toInt64) + 1 < ((cEN i).toUInt64 >>> ((cFB i).toInt64.toUInt64 &&& Int64.toUInt64 63)).toInt64) then fX3_signed i s ((ex.toInt64 + D.toInt64 - (cLE i).toInt64) <<< ((cFB i).toInt64 &&& 63) + k) else fX3_signed i s (cEN i)) = oD i (FP.Core.roundRatio (fm i) s m 1 ex.toInt) := by
      intro k hk
      rw [hk, hshl, jN_add]
      by_cases c : (fm i).qmax < q
      · rw [if_neg (fun z => hcond.mp z c), cE_n hi, signed_n hi s (kE_lt hi)]
        refine (oD_of (kE_lt hi) ?_).symm
        rw [hen, if_pos c, hS, hE]
      · rw [if_pos (hcond.mpr c)]
        rw [if_neg c] at hen
        have hz : (q - (fm i).qmin).toNat * (fm i).tails + FP.Core.nearest (FP.Core.unitsNum m ex.toInt q) (FP.Core.unitsDen 1 ex.toInt q) < kS i := by
          have h1 : (q - (fm i).qmin).toNat + 2 ≤ (fm i).exps - 1 := by omega
          have h2 : ((q - (fm i).qmin).toNat + 2) * (fm i).tails ≤ kE i := by rw [hE]; exact Nat.mul_le_mul_right _ h1
          have h3 := kE_lt hi
          rw [Nat.add_mul] at h2
          omega
        rw [signed_n hi s hz]
        refine (oD_of hz ?_).symm
        rw [hen, hS]
    by_cases c : D ≤ 0
    · rw [if_pos c]; rw [if_pos c] at hkept; exact hfin _ hkept
    · rw [if_neg c]; rw [if_neg c] at hkept; exact hfin _ hkept
