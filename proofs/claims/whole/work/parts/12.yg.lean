theorem fin_W {i n : Nat} (hi : i < 2) (hn : n < 2 ^ 64) (h : n % kS i < kE i) : vW i (lN n) = .fin (sF i n) (cF i n) (qF i n) := by
  rw [vW_n hi hn, if_neg (by omega), if_pos (by omega)]
theorem qF_b {i : Nat} (hi : i < 2) (n : Nat) : -1100 ≤ qF i n ∧ qF i n ≤ 2100 := by
  have h1 := eF_lt (n := n) hi
  have h2 := exps_lt hi
  have h3 := cLE_b hi
  have h4 := fm_q hi
  unfold qF
  omega
theorem cF_b {i : Nat} (hi : i < 2) (n : Nat) : cF i n < 2 ^ 53 := by
  have hk : 2 ^ kF i ≤ 2 ^ 52 := Nat.pow_le_pow_right (by decide) (kF_b hi)
  have ht : tF i n < 2 ^ kF i := Nat.mod_lt _ (Nat.two_pow_pos _)
  unfold cF
  split <;> omega
theorem p_53 {i : Nat} (hi : i < 2) : (fm i).p ≤ 53 := by rw [fm_p hi]; have := kF_b hi; omega
theorem qF_mono {i m n : Nat} (h : m % kS i ≤ n % kS i) : qF i m ≤ qF i n := by
  have : eF i m ≤ eF i n := Nat.div_le_div_right h
  unfold qF; omega
theorem expd_n {i m n : Nat} (hi : i < 2) (hm : m < 2 ^ 64) (hn : n < 2 ^ 64) (h : m % kS i ≤ n % kS i) : fX3_exponent i (lN n) - fX3_exponent i (lN m) = nI (qF i n - qF i m).toNat := by
  have h1 := qF_b hi n
  have h2 := qF_b hi m
  have h3 := qF_mono h
  have e1 := exp_n hi hn
  have e2 := exp_n hi hm
  rw [fa_eq, i32_sub (by omega) (by omega), nI_toInt (by omega), e1, e2]; omega
theorem exp3_n {i n : Nat} (hi : i < 2) (hn : n < 2 ^ 64) : (fX3_exponent i (lN n) - (3 : Int32)).toInt = qF i n - 3 := by
  have h1 := qF_b hi n
  have e1 := exp_n hi hn
  have e3 : (3 : Int32).toInt = 3 := rfl
  rw [i32_sub (by omega) (by omega), e1, e3]
theorem sum_same {s : Bool} {c1 c2 d : Nat} {q1 q2 : Int} (hd : q1 - q2 = (d : Int)) : FP.Core.exactSum (.fin s c1 q1) (.fin s c2 q2) = .fin s (c1 * 2 ^ d + c2) q2 := by
  have e : FP.Core.sumUnits s c1 q1 s c2 q2 (min q1 q2) = FP.Core.signed s (c1 * 2 ^ d + c2) := by
    unfold FP.Core.sumUnits FP.Core.inUnits
    rw [show (q1 - min q1 q2).toNat = d by omega, show (q2 - min q1 q2).toNat = 0 by omega, Nat.pow_zero, Nat.mul_one]
    generalize c1 * 2 ^ d = X
    cases s
    · show (X : Int) + (c2 : Int) = ((X + c2 : Nat) : Int); omega
    · show -(X : Int) + -(c2 : Int) = -((X + c2 : Nat) : Int); omega
  show FP.Core.Datum.fin (FP.Core.sumSign s s (FP.Core.sumUnits s c1 q1 s c2 q2 (min q1 q2))) (FP.Core.sumUnits s c1 q1 s c2 q2 (min q1 q2)).natAbs (min q1 q2) = _
  rw [e, FP.Core.natAbs_signed, show min q1 q2 = q2 by omega]
  congr 1
  unfold FP.Core.sumSign
  by_cases h : c1 * 2 ^ d + c2 = 0
  · rw [if_pos ((FP.Core.signed_eq_zero s _).mpr h), Bool.and_self]
  · rw [if_neg (fun q => h ((FP.Core.signed_eq_zero s _).mp q)), FP.Core.signed_lt_zero s (by omega)]
theorem sum_diff {s t : Bool} {c1 c2 d : Nat} {q1 q2 : Int} (hst : ¬ s = t) (hd : q1 - q2 = (d : Int)) (hle : c2 ≤ c1 * 2 ^ d) : FP.Core.exactSum (.fin s c1 q1) (.fin t c2 q2) = .fin (if c1 * 2 ^ d - c2 = 0 then false else s) (c1 * 2 ^ d - c2) q2 := by
  have e : FP.Core.sumUnits s c1 q1 t c2 q2 (min q1 q2) = FP.Core.signed s (c1 * 2 ^ d - c2) := by
    unfold FP.Core.sumUnits FP.Core.inUnits
    rw [show (q1 - min q1 q2).toNat = d by omega, show (q2 - min q1 q2).toNat = 0 by omega, Nat.pow_zero, Nat.mul_one]
    generalize c1 * 2 ^ d = X at hle ⊢
    cases s <;> cases t
    · exact absurd rfl hst
    · show (X : Int) + -(c2 : Int) = ((X - c2 : Nat) : Int); omega
    · show -(X : Int) + (c2 : Int) = -((X - c2 : Nat) : Int); omega
    · exact absurd rfl hst
  show FP.Core.Datum.fin (FP.Core.sumSign s t (FP.Core.sumUnits s c1 q1 t c2 q2 (min q1 q2))) (FP.Core.sumUnits s c1 q1 t c2 q2 (min q1 q2)).natAbs (min q1 q2) = _
  rw [e, FP.Core.natAbs_signed, show min q1 q2 = q2 by omega]
  congr 1
  unfold FP.Core.sumSign
  by_cases h : c1 * 2 ^ d - c2 = 0
  · rw [if_pos ((FP.Core.signed_eq_zero s _).mpr h), if_pos h]
    cases s <;> cases t <;> first | rfl | exact absurd rfl hst
  · rw [if_neg (fun q => h ((FP.Core.signed_eq_zero s _).mp q)), if_neg h, FP.Core.signed_lt_zero s (by omega)]
/-- the sum of two that are not endless, the greater one first -/
def addG (i : Nat) (a b : Int64) : Int64 := if (fX3_isNegative i a) = (fX3_isNegative i b) then (fX3_nearest i (fX3_isNegative i a) (((fX3_significand i a) <<< ((3 : Int32).toInt64 &&& 63)) + (fX3_shiftedWithTrace ((fX3_significand i b) <<< ((3 : Int32).toInt64 &&& 63)) ((fX3_exponent i a) - (fX3_exponent i b)))) ((fX3_exponent i a) - (3 : Int32))) else (if (fX3_isNegative i a) = true then (if ((fX3_significand i a) <<< ((3 : Int32).toInt64 &&& 63)) = (fX3_shiftedWithTrace ((fX3_significand i b) <<< ((3 : Int32).toInt64 &&& 63)) ((fX3_exponent i a) - (fX3_exponent i b))) then (fX3_nearest i false (((fX3_significand i a) <<< ((3 : Int32).toInt64 &&& 63)) - (fX3_shiftedWithTrace ((fX3_significand i b) <<< ((3 : Int32).toInt64 &&& 63)) ((fX3_exponent i a) - (fX3_exponent i b)))) ((fX3_exponent i a) - (3 : Int32))) else (fX3_nearest i true (((fX3_significand i a) <<< ((3 : Int32).toInt64 &&& 63)) - (fX3_shiftedWithTrace ((fX3_significand i b) <<< ((3 : Int32).toInt64 &&& 63)) ((fX3_exponent i a) - (fX3_exponent i b)))) ((fX3_exponent i a) - (3 : Int32)))) else (fX3_nearest i false (((fX3_significand i a) <<< ((3 : Int32).toInt64 &&& 63)) - (fX3_shiftedWithTrace ((fX3_significand i b) <<< ((3 : Int32).toInt64 &&& 63)) ((fX3_exponent i a) - (fX3_exponent i b)))) ((fX3_exponent i a) - (3 : Int32))))
theorem added_G (i : Nat) (a b : Int64) : fX3_added i a b = if fX3_isEndless i a = true then a else if fX3_isEndless i b = true then b else if fX3_size i a < fX3_size i b then addG i b a else addG i a b := rfl
theorem addG_n {i m n : Nat} (hi : i < 2) (hm : m < 2 ^ 64) (hn : n < 2 ^ 64) (fm_ : m % kS i < kE i) (fn : n % kS i < kE i) (hle : n % kS i ≤ m % kS i) : addG i (lN m) (lN n) = oD i (FP.Core.round (fm i) (FP.Core.exactSum (vW i (lN m)) (vW i (lN n)))) := by
  have hf := fm_good hi
  have f1 := vW_fits hi (lN m)
  have f2 := vW_fits hi (lN n)
  have z1 := zm_W hi hm (by omega)
  have z2 := zm_W hi hn (by omega)
  have hz := (FP.Core.unitsOf_le_iff (f := fm i)).mpr hle
  rw [← z1, ← z2, fin_W hi hm fm_, fin_W hi hn fn] at hz
  rw [fin_W hi hm fm_] at f1 ⊢
  rw [fin_W hi hn fn] at f2 ⊢
  have hq := qF_mono hle
  have b1 := qF_b hi m
  have b2 := qF_b hi n
  have c1 := cF_b hi m
  have c2 := cF_b hi n
  have hex := exp3_n hi hm
  unfold addG
  rw [neg_n hi hm, neg_n hi hn, sig_n hi hm, sig_n hi hn, expd_n hi hn hm hle]
  show (if sF i m = sF i n then _ else _) = _
  rw [show (3 : Int32) = nI 3 from rfl] at hex ⊢
  rw [wb_shl _ (by decide), wb_shl _ (by decide), Nat.mul_comm (cF i m) (2 ^ 3), Nat.mul_comm (cF i n) (2 ^ 3), show (2 : Nat) ^ 3 = 8 from rfl]
  obtain ⟨d, hd⟩ : ∃ d : Nat, qF i m - qF i n = (d : Int) := ⟨(qF i m - qF i n).toNat, by omega⟩
  rw [show (qF i m - qF i n).toNat = d by omega, trc_n (by omega) (by omega)]
  have hle2 : cF i n ≤ cF i m * 2 ^ d := by
    have hz : cF i n * 2 ^ (qF i n - (fm i).qmin).toNat ≤ cF i m * 2 ^ (qF i m - (fm i).qmin).toNat := hz
    have q2 := f2.2.1
    rw [show (qF i m - (fm i).qmin).toNat = d + (qF i n - (fm i).qmin).toNat by omega, Nat.pow_add, ← Nat.mul_assoc] at hz
    exact Nat.le_of_mul_le_mul_right hz (Nat.two_pow_pos _)
  obtain ⟨t1, t2⟩ := trc_le hf f1 f2 hd hle2
  have hup := fun s : Bool => add_up hf (s := s) (t := sF i n) (c1 := cF i m) (c2 := cF i n) f1 f2 hd (p_53 hi)
  have hdn := fun s : Bool => add_down hf (s := s) (t := sF i n) (c1 := cF i m) (c2 := cF i n) f1 f2 hd (p_53 hi) hle2
  generalize fX3_exponent i (lN m) - nI 3 = ex at hex ⊢
  generalize trc (8 * cF i n) d = T at *
  by_cases hs : sF i m = sF i n
  · rw [if_pos hs, jN_add, near_n hi _ (by omega) ex (by omega), ← hs, sum_same hd, hex, ← hup]; rfl
  · have je := jN_eq (a := 8 * cF i m) (b := T) (by omega) (by omega)
    rw [if_neg hs, sum_diff hs hd hle2, jN_sub t1]
    have key : ∀ s : Bool, fX3_nearest i s (lN (8 * cF i m - T)) ex = oD i (FP.Core.round (fm i) (.fin s (cF i m * 2 ^ d - cF i n) (qF i n))) := by
      intro s
      rw [near_n hi s (by omega) ex (by omega), hex, ← hdn]; rfl
    show (if sF i m = true then _ else _) = _
    by_cases hx : cF i m * 2 ^ d - cF i n = 0
    · rw [if_pos hx, if_pos (je.mpr (t2.mpr hx).symm), key]
      split <;> rfl
    · rw [if_neg hx, if_neg (fun q => hx (t2.mp (je.mp q).symm)), key, key]
      cases sF i m <;> rfl
theorem size_lt_n {i m n : Nat} (hi : i < 2) (hm : m < 2 ^ 64) (hn : n < 2 ^ 64) : fX3_size i (lN m) < fX3_size i (lN n) ↔ m % kS i < n % kS i := by
  rw [size_n hi hm, size_n hi hn, jN_lt mod_S mod_S]
theorem added_n {i : Nat} {a b : Int64} (hi : i < 2) (ha : Tld i a) (hb : Tld i b) (hu : FP.Core.exactSum (vW i a) (vW i b) ≠ .nan) : fX3_added i a b = oD i (FP.Core.round (fm i) (FP.Core.exactSum (vW i a) (vW i b))) := by
  have oa := oD_vW hi ha
  have ob := oD_vW hi hb
  have na := vW_nn hi ha
  have nb := vW_nn hi hb
  obtain ⟨m, hm, rfl⟩ := ofN a
  obtain ⟨n, hn, rfl⟩ := ofN b
  have la := tld_n hi hm ha
  have lb := tld_n hi hn hb
  rw [added_G, endl_n hi hm, endl_n hi hn]
  by_cases e1 : m % kS i = kE i
  · rw [decide_eq_true e1, if_pos rfl]
    obtain ⟨s, hs⟩ := (endl_W hi hm ha).mp e1
    have e : FP.Core.exactSum (vW i (lN m)) (vW i (lN n)) = vW i (lN m) := by
      rw [hs] at hu ⊢
      cases hv : vW i (lN n) with
      | nan => exact absurd hv nb
      | inf t =>
        rw [hv] at hu
        by_cases hst : s = t
        · show (if s = t then FP.Core.Datum.inf s else FP.Core.Datum.nan) = _
          rw [if_pos hst]
        · exact absurd (show (if s = t then FP.Core.Datum.inf s else FP.Core.Datum.nan) = _ from if_neg hst) hu
      | fin t c q => rfl
    rw [e, FP.Core.round_of_fits (fm_good hi) (vW_fits hi _), oa]
  · rw [decide_eq_false e1, if_neg (by decide)]
    have fa := fin_W hi hm (show m % kS i < kE i by omega)
    by_cases e2 : n % kS i = kE i
    · rw [decide_eq_true e2, if_pos rfl]
      obtain ⟨s, hs⟩ := (endl_W hi hn hb).mp e2
      have e : FP.Core.exactSum (vW i (lN m)) (vW i (lN n)) = vW i (lN n) := by
        rw [hs, fa]; rfl
      rw [e, FP.Core.round_of_fits (fm_good hi) (vW_fits hi _), ob]
    · rw [decide_eq_false e2, if_neg (by decide)]
      by_cases c : m % kS i < n % kS i
      · rw [if_pos ((size_lt_n hi hm hn).mpr c), addG_n hi hn hm (by omega) (by omega) (by omega), FP.Core.exactSum_comm]
      · rw [if_neg (fun q => c ((size_lt_n hi hm hn).mp q)), addG_n hi hm hn (by omega) (by omega) (by omega)]
