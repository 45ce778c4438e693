/-- the two widths in whole numbers: bits of the fraction, the sign's weight, the endless one, the format -/
def kF (i : Nat) : Nat := if i = 0 then 23 else 52
def kS (i : Nat) : Nat := if i = 0 then 2147483648 else 9223372036854775808
def kE (i : Nat) : Nat := if i = 0 then 2139095040 else 9218868437227405312
def fm (i : Nat) : FP.Core.Fmt := if i = 0 then FP.Core.b32 else FP.Core.b64
theorem two_i {i : Nat} (hi : i < 2) : i = 0 ∨ i = 1 := by omega
theorem fm_good {i : Nat} (hi : i < 2) : FP.Core.Good (fm i) := by
  rcases two_i hi with rfl | rfl
  · exact FP.Core.good_b32
  · exact FP.Core.good_b64
theorem fm_tails {i : Nat} (hi : i < 2) : (fm i).tails = 2 ^ kF i := by
  rcases two_i hi with rfl | rfl <;> decide
theorem fm_p {i : Nat} (hi : i < 2) : (fm i).p = kF i + 1 := by
  rcases two_i hi with rfl | rfl <;> decide
theorem fm_S {i : Nat} (hi : i < 2) : (fm i).exps * (fm i).tails = kS i := by
  rcases two_i hi with rfl | rfl <;> decide
theorem fm_E {i : Nat} (hi : i < 2) : ((fm i).exps - 1) * (fm i).tails = kE i := by
  rcases two_i hi with rfl | rfl <;> decide
theorem fm_q {i : Nat} (hi : i < 2) : (fm i).qmin = (cLE i).toInt := by
  rcases two_i hi with rfl | rfl <;> decide
theorem kS_pos (i : Nat) : 0 < kS i := by unfold kS; split <;> decide
theorem kS_le (i : Nat) : kS i ≤ 2 ^ 63 := by unfold kS; split <;> decide
/-- the form in which a number is told: its sign fills all above -/
def tN (i : Nat) (s : Bool) (z : Nat) : Nat := if s = true then z + (2 ^ 64 - kS i) else z
theorem tN_lt {i : Nat} {s : Bool} {z : Nat} (h : z < kS i) : tN i s z < 2 ^ 64 := by
  have := kS_le i
  unfold tN
  split <;> omega
theorem ofN (b : Int64) : ∃ n, n < 2 ^ 64 ∧ b = lN n := wb_of b
theorem size_n {i n : Nat} (hi : i < 2) (hn : n < 2 ^ 64) : fX3_size i (lN n) = lN (n % kS i) := by
  rcases two_i hi with rfl | rfl
  · exact g_mask (s := 31) rfl (by decide) hn
  · exact g_mask (s := 63) rfl (by decide) hn
theorem lN_inj {a b : Nat} (ha : a < 2 ^ 64) (hb : b < 2 ^ 64) (h : lN a = lN b) : a = b := by
  have h2 : (lN a).toBitVec.toNat = (lN b).toBitVec.toNat := by rw [h]
  rwa [wb_tn ha, wb_tn hb] at h2
theorem lN_i32 (n : Nat) : (lN n).toInt32 = nI n := Int32.toBitVec_inj.mp (by
  show (BitVec.ofNat 64 n).signExtend 32 = BitVec.ofNat 32 n
  rw [BitVec.signExtend_eq_setWidth_of_le _ (by decide)]
  apply BitVec.eq_of_toNat_eq
  simp)
theorem jN_eq {a b : Nat} (ha : a < 2 ^ 64) (hb : b < 2 ^ 64) : lN a = lN b ↔ a = b := ⟨lN_inj ha hb, fun h => by rw [h]⟩
theorem jN_le {a b : Nat} (ha : a < 2 ^ 63) (hb : b < 2 ^ 63) : lN a ≤ lN b ↔ a ≤ b := by
  rw [fa_le64, pf_lI ha, pf_lI hb]; omega
theorem jN_lt {a b : Nat} (ha : a < 2 ^ 63) (hb : b < 2 ^ 63) : lN a < lN b ↔ a < b := by
  rw [fa_lt64, pf_lI ha, pf_lI hb]; omega
theorem mod_S {i n : Nat} : n % kS i < 2 ^ 63 := Nat.lt_of_lt_of_le (Nat.mod_lt _ (kS_pos i)) (kS_le i)
theorem cE_n {i : Nat} (hi : i < 2) : cEN i = lN (kE i) := by
  rcases two_i hi with rfl | rfl <;> rfl
theorem kE_lt {i : Nat} (hi : i < 2) : kE i < kS i := by
  rcases two_i hi with rfl | rfl <;> decide
theorem kE_lt63 {i : Nat} (hi : i < 2) : kE i < 2 ^ 63 := Nat.lt_of_lt_of_le (kE_lt hi) (kS_le i)
theorem num_n {i n : Nat} (hi : i < 2) (hn : n < 2 ^ 64) : fX3_isNumber i (lN n) = decide (n % kS i ≤ kE i) := by
  unfold fX3_isNumber
  rw [size_n hi hn, cE_n hi]
  by_cases h : n % kS i ≤ kE i
  · rw [if_neg (by rw [jN_lt (kE_lt63 hi) mod_S]; omega), decide_eq_true h]
  · rw [if_pos (by rw [jN_lt (kE_lt63 hi) mod_S]; omega), decide_eq_false h]
theorem endl_n {i n : Nat} (hi : i < 2) (hn : n < 2 ^ 64) : fX3_isEndless i (lN n) = decide (n % kS i = kE i) := by
  unfold fX3_isEndless
  rw [size_n hi hn, cE_n hi]
  have h1 : n % kS i < 2 ^ 64 := Nat.lt_trans mod_S (by decide)
  have h2 : kE i < 2 ^ 64 := Nat.lt_trans (kE_lt63 hi) (by decide)
  by_cases h : n % kS i = kE i
  · rw [if_pos (by rw [h]), decide_eq_true h]
  · rw [if_neg (fun q => h (lN_inj h1 h2 q)), decide_eq_false h]
theorem zero_n {i n : Nat} (hi : i < 2) (hn : n < 2 ^ 64) : fX3_isZero i (lN n) = decide (n % kS i = 0) := by
  unfold fX3_isZero
  rw [size_n hi hn, show (0 : Int64) = lN 0 from rfl]
  have h1 : n % kS i < 2 ^ 64 := Nat.lt_trans mod_S (by decide)
  by_cases h : n % kS i = 0
  · rw [if_pos (by rw [h]), decide_eq_true h]
  · rw [if_neg (fun q => h (lN_inj h1 (by decide) q)), decide_eq_false h]
theorem and_bit {n k : Nat} : n &&& 2 ^ k = n / 2 ^ k % 2 * 2 ^ k := by
  apply Nat.eq_of_testBit_eq
  intro j
  rw [Nat.testBit_and, Nat.testBit_two_pow, Nat.testBit_mul_two_pow]
  by_cases h : k = j
  · subst h
    simp [Nat.testBit_zero, Nat.testBit, Nat.shiftRight_eq_div_pow, Nat.mod_two_eq_one_iff_testBit_zero]
  · simp [h]
    intro hj
    have h3 : j - k ≠ 0 := by omega
    have h4 : n / 2 ^ k % 2 < 2 := Nat.mod_lt _ (by decide)
    rw [Nat.testBit_lt_two_pow (Nat.lt_of_lt_of_le h4 (by
      have : 2 ^ 1 ≤ 2 ^ (j - k) := Nat.pow_le_pow_right (by decide) (by omega)
      simpa using this))]
theorem neg_n {i n : Nat} (hi : i < 2) (hn : n < 2 ^ 64) : fX3_isNegative i (lN n) = decide (n / kS i % 2 = 1) := by
  have key : ∀ k : Nat, k < 64 → (lN n &&& lN (2 ^ k) = (0 : Int64) ↔ n / 2 ^ k % 2 = 0) := by
    intro k hk
    have hp : 2 ^ k < 2 ^ 64 := Nat.pow_lt_pow_right (by decide) hk
    rw [wb_and hn hp, and_bit, show (0 : Int64) = lN 0 from rfl, jN_eq (by
      have h4 : n / 2 ^ k % 2 ≤ 1 := by omega
      calc n / 2 ^ k % 2 * 2 ^ k ≤ 1 * 2 ^ k := Nat.mul_le_mul_right _ h4
        _ < 2 ^ 64 := by omega) (by decide)]
    constructor
    · intro h
      rcases Nat.mul_eq_zero.mp h with h | h
      · exact h
      · exact absurd h (Nat.ne_of_gt (Nat.two_pow_pos k))
    · intro h; rw [h]; simp
  unfold fX3_isNegative
  have e : (lN n &&& cSB i = (0 : Int64)) ↔ n / kS i % 2 = 0 := by
    rcases two_i hi with rfl | rfl
    · exact key 31 (by decide)
    · exact key 63 (by decide)
  by_cases h : n / kS i % 2 = 0
  · rw [if_pos (e.mpr h), decide_eq_false (by omega)]
  · rw [if_neg (fun q => h (e.mp q)), decide_eq_true (by omega)]
theorem signed_n {i z : Nat} (hi : i < 2) (s : Bool) (hz : z < kS i) : fX3_signed i s (lN z) = lN (tN i s z) := by
  unfold fX3_signed tN
  cases s with
  | false => rfl
  | true =>
    rw [if_pos rfl, if_pos rfl]
    rcases two_i hi with rfl | rfl
    · exact g_or' (k := 31) (p := 2147483648) (a := z) (b := 8589934591) rfl hz (by have : kS 0 = 2147483648 := rfl; omega)
    · exact g_or' (k := 63) (p := 9223372036854775808) (a := z) (b := 1) rfl hz (by have : kS 1 = 9223372036854775808 := rfl; omega)
theorem fieldE_n {i n : Nat} (hi : i < 2) (hn : n < 2 ^ 64) : fX3_exponentField i (lN n) = nI (n % kS i / 2 ^ kF i) := by
  have e : (fX3_exponentField i (lN n)) = (((fX3_size i (lN n)).toUInt64 >>> ((cFB i).toInt64.toUInt64 &&& Int64.toUInt64 63)).toInt64).toInt32 := rfl
  have h1 : n % kS i < 2 ^ 64 := Nat.lt_trans mod_S (by decide)
  rw [e, size_n hi hn, show cFB i = nI (kF i) from by rcases two_i hi with rfl | rfl <;> rfl, wb_shr h1 (by rcases two_i hi with rfl | rfl <;> decide), lN_i32]
