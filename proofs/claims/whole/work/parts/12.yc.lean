section YC
open FP.Core
theorem enc_fin {f : Fmt} {s : Bool} {c : Nat} {q : Int} (h : fits f (.fin s c q)) : encode f (.fin s c q) = s.toNat * (f.exps * f.tails) + ((q - f.qmin).toNat * f.tails + c) := by
  obtain ⟨h1, h2, h3, h4⟩ := h
  unfold encode assemble
  by_cases hc : c < f.tails
  · rw [if_pos hc]
    have : q = f.qmin := by rcases h4 with h | h <;> omega
    rw [this, Int.sub_self]
    show (s.toNat * f.exps + 0) * f.tails + c = _
    rw [Nat.add_zero, Nat.mul_assoc]
    show _ = s.toNat * (f.exps * f.tails) + (0 * f.tails + c)
    rw [Nat.zero_mul, Nat.zero_add]
  · rw [if_neg hc, Nat.add_mul, Nat.add_mul, Nat.mul_assoc]
    omega
theorem enc_inf (f : Fmt) (s : Bool) : encode f (.inf s) = s.toNat * (f.exps * f.tails) + (f.exps - 1) * f.tails := by
  show (s.toNat * f.exps + (f.exps - 1)) * f.tails + 0 = _
  rw [Nat.add_mul, Nat.mul_assoc]; rfl
theorem enc_round {f : Fmt} (hf : Good f) (s : Bool) {m : Nat} (hm : 0 < m) (e : Int) : encode f (roundRatio f s m 1 e) = s.toNat * (f.exps * f.tails) + (if f.qmax < quantum f m 1 e then (f.exps - 1) * f.tails else (quantum f m 1 e - f.qmin).toNat * f.tails + nearest (unitsNum m e (quantum f m 1 e)) (unitsDen 1 e (quantum f m 1 e))) := by
  have hfit := roundRatio_fits hf s m (B := 1) (by decide) e
  have hle := nearest_units_le (f := f) hm (B := 1) (by decide) e
  have hge := quantum_ge f m 1 e
  unfold roundRatio at hfit ⊢
  rw [if_neg (by omega)] at hfit ⊢
  unfold roundAt at hfit ⊢
  generalize quantum f m 1 e = q at *
  generalize nearest (unitsNum m e q) (unitsDen 1 e q) = c at *
  have h2 := two_tails hf
  have hqq := qmax_qmin f
  have hee := emax_exps hf
  have hem := emax_pos hf
  unfold settle bound at hfit ⊢
  by_cases hc : c < 2 ^ f.p
  · rw [if_pos hc] at hfit ⊢
    by_cases hq : q ≤ f.qmax
    · rw [if_pos hq] at hfit ⊢
      rw [if_neg (by omega), enc_fin hfit]
    · rw [if_neg hq, if_pos (by omega), enc_inf]
  · rw [if_neg hc] at hfit ⊢
    have hc2 : c = 2 * f.tails := by omega
    by_cases hq : q + 1 ≤ f.qmax
    · rw [if_pos hq] at hfit ⊢
      rw [if_neg (by omega), enc_fin hfit, show (q + 1 - f.qmin).toNat = (q - f.qmin).toNat + 1 by omega, Nat.add_mul]
      omega
    · rw [if_neg hq, enc_inf]
      by_cases hq2 : f.qmax < q
      · rw [if_pos hq2]
      · rw [if_neg hq2, hc2, ← Nat.add_mul]
        congr 2
        omega
theorem leading_1 {m : Nat} (hm : 0 < m) : leading m 1 = (m.log2 : Int) := by
  unfold leading
  have e : ((m.log2 : Int) - ((1 : Nat).log2 : Int)) = (m.log2 : Int) := by
    rw [show (1 : Nat).log2 = 0 by decide]; omega
  simp only [e]
  rw [if_pos]
  have := Nat.log2_self_le (n := m) (by omega)
  simp only [Int.toNat_natCast, Nat.one_mul, show (-(m.log2 : Int)).toNat = 0 by omega, Nat.pow_zero, Nat.mul_one]
  exact this
theorem quantum_1 {f : Fmt} {m : Nat} (hm : 0 < m) (e : Int) : quantum f m 1 e = max f.qmin ((m.log2 : Int) + e - ((f.p : Int) - 1)) := by
  unfold quantum; rw [leading_1 hm]
end YC
