theorem kF_lt {i : Nat} (hi : i < 2) : kF i < 64 := by rcases two_i hi with rfl | rfl <;> decide
theorem kS_F {i : Nat} (hi : i < 2) : kS i = (fm i).exps * 2 ^ kF i := by rw [← fm_tails hi, fm_S hi]
/-- the fields of a number -/
def eF (i n : Nat) : Nat := n % kS i / 2 ^ kF i
def tF (i n : Nat) : Nat := n % 2 ^ kF i
def sF (i n : Nat) : Bool := decide (n / kS i % 2 = 1)
def cF (i n : Nat) : Nat := if eF i n = 0 then tF i n else 2 ^ kF i + tF i n
def qF (i n : Nat) : Int := (fm i).qmin + ((eF i n - 1 : Nat) : Int)
theorem eF_lt {i n : Nat} (hi : i < 2) : eF i n < (fm i).exps := by
  unfold eF
  rw [Nat.div_lt_iff_lt_mul (Nat.two_pow_pos _), ← kS_F hi]
  exact Nat.mod_lt _ (kS_pos i)
theorem exps_lt {i : Nat} (hi : i < 2) : (fm i).exps ≤ 2048 := by rcases two_i hi with rfl | rfl <;> decide
theorem exp_n {i n : Nat} (hi : i < 2) (hn : n < 2 ^ 64) : (fX3_exponent i (lN n)).toInt = qF i n := by
  unfold fX3_exponent qF
  rw [fieldE_n hi hn]
  have h1 := eF_lt (n := n) hi
  have h2 := exps_lt hi
  show (cLE i + (if (nI (eF i n) - 1) < (0 : Int32) then (0 : Int32) else (nI (eF i n) - 1))).toInt = _
  have e1 : (nI (eF i n) - 1).toInt = (eF i n : Int) - 1 := by
    rw [Int32.toInt_sub, nI_toInt (by omega), show (1 : Int32).toInt = 1 from rfl, Int.bmod_eq_of_le (by omega) (by omega)]
  have e2 : (if (nI (eF i n) - 1) < (0 : Int32) then (0 : Int32) else (nI (eF i n) - 1)).toInt = ((eF i n - 1 : Nat) : Int) := by
    by_cases h : eF i n = 0
    · rw [if_pos (by rw [fa_lt, e1, h]; decide), h]; rfl
    · rw [if_neg (by rw [fa_lt, e1, show (0 : Int32).toInt = 0 from rfl]; omega), e1]; omega
  have e3 : -1100 ≤ (cLE i).toInt ∧ (cLE i).toInt ≤ 0 := by rcases two_i hi with rfl | rfl <;> decide
  rw [Int32.toInt_add, e2, fm_q hi, Int.bmod_eq_of_le (by omega) (by omega)]
theorem sig_n {i n : Nat} (hi : i < 2) (hn : n < 2 ^ 64) : fX3_significand i (lN n) = lN (cF i n) := by
  unfold fX3_significand cF
  rw [fieldE_n hi hn]
  show (if nI (eF i n) = 0 then _ else _) = _
  have h1 := eF_lt (n := n) hi
  have h2 := exps_lt hi
  have ek : cFB i = nI (kF i) := by rcases two_i hi with rfl | rfl <;> rfl
  have e1 : (1 : Int64) <<< ((cFB i).toInt64 &&& 63) = lN (2 ^ kF i) := by
    rw [ek, show (1 : Int64) = lN 1 from rfl, wb_shl 1 (kF_lt hi), Nat.one_mul]
  have e2 : (lN (2 ^ kF i) - (1 : Int64)) = lN (2 ^ kF i - 1) := by rcases two_i hi with rfl | rfl <;> rfl
  have ht : tF i n < 2 ^ kF i := Nat.mod_lt _ (Nat.two_pow_pos _)
  have hk : 2 ^ kF i ≤ 2 ^ 52 := Nat.pow_le_pow_right (by decide) (by rcases two_i hi with rfl | rfl <;> decide)
  have e3 : lN n &&& (lN (2 ^ kF i) - (1 : Int64)) = lN (tF i n) := by rw [e2]; exact g_mask rfl (kF_lt hi) hn
  rw [e1, e3]
  by_cases h : eF i n = 0
  · rw [if_pos (by rw [h]; rfl), if_pos h]
  · rw [if_neg (fun q => h (by
      have := congrArg Int32.toInt q
      rw [nI_toInt (by omega)] at this
      have h0 : (0 : Int32).toInt = 0 := rfl
      omega)), if_neg h]
    have := g_or' (k := kF i) (p := 2 ^ kF i) (a := tF i n) (b := 1) rfl ht (by omega)
    rw [Nat.one_mul] at this
    rw [this, Nat.add_comm]
/-- the number that bits of a width are -/
def vW (i : Nat) (b : Int64) : FP.Core.Datum := FP.Core.decode (fm i) (uN b % (2 * kS i))
theorem uN_lN {n : Nat} (hn : n < 2 ^ 64) : uN (lN n) = n := wb_tn hn
theorem vW_n {i n : Nat} (hi : i < 2) (hn : n < 2 ^ 64) : vW i (lN n) = (if n % kS i = kE i then .inf (sF i n) else if n % kS i ≤ kE i then .fin (sF i n) (cF i n) (qF i n) else .nan) := by
  unfold vW
  rw [uN_lN hn]
  have hS : kS i = (fm i).exps * (fm i).tails := (fm_S hi).symm
  have hE : kE i = ((fm i).exps - 1) * (fm i).tails := (fm_E hi).symm
  have ht := fm_tails hi
  have hp := FP.Core.tails_pos (fm i)
  have hep := FP.Core.exps_pos (fm i)
  have mm : n % (2 * kS i) % kS i = n % kS i := Nat.mod_mod_of_dvd _ (Nat.dvd_mul_left _ _)
  have dT : FP.Core.fieldT (fm i) (n % (2 * kS i)) = tF i n := by
    unfold FP.Core.fieldT tF
    rw [ht]
    exact Nat.mod_mod_of_dvd _ (by rw [hS, ht, ← Nat.mul_assoc]; exact Nat.dvd_mul_left _ _)
  have dE : FP.Core.fieldE (fm i) (n % (2 * kS i)) = eF i n := by
    unfold FP.Core.fieldE eF
    rw [← mm, hS, ← ht, Nat.mod_mul_left_div_self]
  have dS : FP.Core.fieldS (fm i) (n % (2 * kS i)) = sF i n := by
    unfold FP.Core.fieldS sF
    rw [Nat.div_div_eq_div_mul, Nat.mul_comm (fm i).tails, ← hS, Nat.mul_comm 2 (kS i), Nat.mod_mul_right_div_self, Nat.mod_mod]
    rfl
  have el : n % kS i = eF i n * (fm i).tails + tF i n := by
    unfold eF tF
    have e1 : n % kS i % 2 ^ kF i = n % 2 ^ kF i := Nat.mod_mod_of_dvd _ (by rw [hS, ht]; exact Nat.dvd_mul_left _ _)
    rw [ht, ← e1, Nat.mul_comm]
    exact (Nat.div_add_mod _ _).symm
  have tl : tF i n < (fm i).tails := by rw [ht]; exact Nat.mod_lt _ (Nat.two_pow_pos _)
  have hlt := eF_lt (n := n) hi
  unfold FP.Core.decode
  rw [dT, dE, dS]
  by_cases h1 : eF i n = (fm i).exps - 1
  · rw [if_pos h1]
    by_cases h2 : tF i n = 0
    · rw [if_pos h2, if_pos (by rw [el, h1, h2, hE]; rfl)]
    · rw [if_neg h2, if_neg (by rw [el, h1, hE]; omega), if_neg (by rw [el, h1, hE]; omega)]
  · have h3 : n % kS i < kE i := by
      rw [el, hE]
      have : eF i n + 1 ≤ (fm i).exps - 1 := by omega
      calc eF i n * (fm i).tails + tF i n < eF i n * (fm i).tails + (fm i).tails := by omega
        _ = (eF i n + 1) * (fm i).tails := by rw [Nat.add_mul, Nat.one_mul]
        _ ≤ _ := Nat.mul_le_mul_right _ this
    rw [if_neg h1, if_neg (show ¬ n % kS i = kE i by omega), if_pos (show n % kS i ≤ kE i by omega)]
    unfold cF qF
    by_cases h4 : eF i n = 0
    · rw [if_pos h4, if_pos h4, h4]; simp
    · rw [if_neg h4, if_neg h4, ht]
      congr 1
      omega
