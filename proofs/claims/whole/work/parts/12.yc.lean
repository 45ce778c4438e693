theorem enc_fin {f : FP.Core.Fmt} {s : Bool} {c : Nat} {q : Int} (h : FP.Core.fits f (.fin s c q)) : FP.Core.encode f (.fin s c q) = s.toNat * (f.exps * f.tails) + ((q - f.qmin).toNat * f.tails + c) := by
  obtain ⟨h1, h2, h3, h4⟩ := h
  show (if c < f.tails then FP.Core.assemble f s 0 c else FP.Core.assemble f s ((q - f.qmin).toNat + 1) (c - f.tails)) = _
  unfold FP.Core.assemble
  by_cases hc : c < f.tails
  · rw [if_pos hc]
    have : q = f.qmin := by rcases h4 with h | h <;> omega
    rw [this, Int.sub_self]
    show (s.toNat * f.exps + 0) * f.tails + c = _
    rw [Nat.add_zero, Nat.mul_assoc]
    show _ = s.toNat * (f.exps * f.tails) + (0 * f.tails + c)
    rw [Nat.zero_mul, Nat.zero_add]
  · rw [if_neg hc, Nat.add_mul, Nat.mul_assoc, Nat.add_mul]
    omega
theorem enc_inf (f : FP.Core.Fmt) (s : Bool) : FP.Core.encode f (.inf s) = s.toNat * (f.exps * f.tails) + (f.exps - 1) * f.tails := by
  show (s.toNat * f.exps + (f.exps - 1)) * f.tails + 0 = _
  rw [Nat.add_mul, Nat.mul_assoc]; rfl
theorem enc_round {f : FP.Core.Fmt} (hf : FP.Core.Good f) (s : Bool) {m : Nat} (hm : 0 < m) (e : Int) : FP.Core.encode f (FP.Core.roundRatio f s m 1 e) = s.toNat * (f.exps * f.tails) + (if f.qmax < FP.Core.quantum f m 1 e then (f.exps - 1) * f.tails else (FP.Core.quantum f m 1 e - f.qmin).toNat * f.tails + FP.Core.nearest (FP.Core.unitsNum m e (FP.Core.quantum f m 1 e)) (FP.Core.unitsDen 1 e (FP.Core.quantum f m 1 e))) := by
  have hfit := FP.Core.roundRatio_fits hf s m (B := 1) (by decide) e
  have hle := FP.Core.nearest_units_le (f := f) hm (B := 1) (by decide) e
  have hge := FP.Core.quantum_ge f m 1 e
  unfold FP.Core.roundRatio at hfit ⊢
  rw [if_neg (by omega)] at hfit ⊢
  unfold FP.Core.roundAt at hfit ⊢
  generalize FP.Core.quantum f m 1 e = q at *
  generalize FP.Core.nearest (FP.Core.unitsNum m e q) (FP.Core.unitsDen 1 e q) = c at *
  have h2 := FP.Core.two_tails hf
  have hqq := FP.Core.qmax_qmin f
  have hee := FP.Core.emax_exps hf
  have hem := FP.Core.emax_pos hf
  unfold FP.Core.settle FP.Core.bound at hfit ⊢
  by_cases hc : c < 2 ^ f.p
  · rw [if_pos hc] at hfit ⊢
    by_cases hq : q ≤ f.qmax
    · rw [if_pos hq] at hfit ⊢
      rw [if_neg (by omega), enc_fin hfit]
    · rw [if_neg hq, if_pos (by omega), enc_inf]
  · rw [if_neg hc] at hfit ⊢
    have hc2 : c = 2 * f.tails := by omega
    by_cases hq : q + 1 ≤ f.qmax
    · rw [if_pos hq] at hfit ⊢
      rw [if_neg (by omega), enc_fin hfit, show (q + 1 - f.qmin).toNat = (q - f.qmin).toNat + 1 by omega, Nat.add_mul]
      omega
    · rw [if_neg hq, enc_inf]
      by_cases hq2 : f.qmax < q
      · rw [if_pos hq2]
      · rw [if_neg hq2, hc2, ← Nat.add_mul]
        congr 2
        omega
theorem leading_1 {m : Nat} (hm : 0 < m) : FP.Core.leading m 1 = (m.log2 : Int) := by
  unfold FP.Core.leading
  have e : ((m.log2 : Int) - ((1 : Nat).log2 : Int)) = (m.log2 : Int) := by
    rw [show (1 : Nat).log2 = 0 by decide]; omega
  simp only [e]
  rw [if_pos]
  have := Nat.log2_self_le (n := m) (by omega)
  simp only [Int.toNat_natCast, Nat.one_mul, show (-(m.log2 : Int)).toNat = 0 by omega, Nat.pow_zero, Nat.mul_one]
  exact this
theorem quantum_1 {f : FP.Core.Fmt} {m : Nat} (hm : 0 < m) (e : Int) : FP.Core.quantum f m 1 e = max f.qmin ((m.log2 : Int) + e - ((f.p : Int) - 1)) := by
  unfold FP.Core.quantum; rw [leading_1 hm]
