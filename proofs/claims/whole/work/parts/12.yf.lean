/-- of a number that lies strictly between two even ones, the rounding is that of the odd one between them, if the last digit kept is worth four at least -/
theorem near_sticky {A B M D : Nat} (hB : 0 < B) (h1 : 2 * M * B < A) (h2 : A < (2 * M + 2) * B) (hD : D % 4 = 0) (hD0 : 0 < D) : FP.Core.nearest A (B * D) = FP.Core.nearest (2 * M + 1) D := by
  obtain ⟨g, rfl⟩ : ∃ g, D = 4 * g := ⟨D / 4, by omega⟩
  have hg : 0 < g := by omega
  have hdm := Nat.div_add_mod (2 * M + 1) (4 * g)
  have hlt : (2 * M + 1) % (4 * g) < 4 * g := Nat.mod_lt _ hD0
  generalize hQ : (2 * M + 1) / (4 * g) = Q at hdm
  generalize hR : (2 * M + 1) % (4 * g) = R at hdm hlt
  have hodd : R % 2 = 1 := by
    have : 4 * g * Q = 2 * (2 * g * Q) := by rw [← Nat.mul_assoc, ← Nat.mul_assoc]
    omega
  obtain ⟨t, rfl⟩ : ∃ t, R = 2 * t + 1 := ⟨R / 2, by omega⟩
  have eM : 2 * M = 4 * g * Q + 2 * t := by omega
  have eM2 : 2 * M + 2 = 4 * g * Q + (2 * t + 2) := by omega
  rw [eM, Nat.add_mul] at h1
  rw [eM2, Nat.add_mul] at h2
  have eX : 2 * t * B = 2 * (t * B) := Nat.mul_assoc _ _ _
  have eX2 : (2 * t + 2) * B = 2 * (t * B) + 2 * B := by rw [Nat.add_mul, eX]
  have eY : B * (4 * g) = 4 * (g * B) := by rw [Nat.mul_comm B, Nat.mul_assoc]
  have hYpos : 0 < g * B := Nat.mul_pos hg hB
  have eP : 4 * g * Q * B = B * (4 * g) * Q := by rw [Nat.mul_comm B (4 * g), Nat.mul_assoc, Nat.mul_comm Q B, ← Nat.mul_assoc]
  rw [eX, eP] at h1
  rw [eX2, eP] at h2
  have hle : t * B + B ≤ 2 * (g * B) := by
    have : t + 1 ≤ 2 * g := by omega
    have := Nat.mul_le_mul_right B this
    rw [Nat.add_mul, Nat.one_mul, Nat.mul_assoc] at this
    exact this
  have hdiv : A / (B * (4 * g)) = Q ∧ A % (B * (4 * g)) = A - B * (4 * g) * Q := by
    have hpos : 0 < B * (4 * g) := Nat.mul_pos hB hD0
    refine (Nat.div_mod_unique hpos).mpr ⟨by omega, by omega⟩
  unfold FP.Core.nearest
  rw [hdiv.1, hdiv.2, hQ, hR]
  by_cases c : t + 1 ≤ g
  · have := Nat.mul_le_mul_right B c
    rw [Nat.add_mul, Nat.one_mul] at this
    rw [if_pos (by omega), if_pos (by omega)]
  · have := Nat.mul_le_mul_right B (show g ≤ t by omega)
    rw [if_neg (by omega), if_pos (by omega), if_neg (by omega), if_pos (by omega)]
theorem below_nat (A B : Nat) (a : Nat) : FP.Core.Below A B (a : Int) ↔ A < B * 2 ^ a := by
  unfold FP.Core.Below
  rw [show (-(a : Int)).toNat = 0 by omega, Int.toNat_natCast, Nat.pow_zero, Nat.mul_one]
theorem even_pow {k : Nat} (h : 1 ≤ k) : ∃ x, 2 ^ k = 2 * x := ⟨2 ^ (k - 1), by rw [← Nat.pow_succ']; congr 1; omega⟩
theorem sticky {f : FP.Core.Fmt} (hf : FP.Core.Good f) {s : Bool} {A B M : Nat} {e : Int} (hB : 0 < B) (h1 : 2 * M * B < A) (h2 : A < (2 * M + 2) * B) (hq : e + 2 ≤ FP.Core.quantum f (2 * M + 1) 1 e) : FP.Core.roundRatio f s A B e = FP.Core.roundRatio f s (2 * M + 1) 1 e := by
  have hA : 0 < A := by omega
  have hM : 0 < 2 * M + 1 := by omega
  have hb := FP.Core.quantum_below (f := f) hM (B := 1) (by decide) e
  have hnb := FP.Core.quantum_not_below (f := f) hM (B := 1) (by decide) e
  have hge := FP.Core.quantum_ge f (2 * M + 1) 1 e
  have hp2 := hf.2
  generalize hQ : FP.Core.quantum f (2 * M + 1) 1 e = q at *
  obtain ⟨k, hk⟩ : ∃ k : Nat, q - e = (k : Int) := ⟨(q - e).toNat, by omega⟩
  have hk2 : 2 ≤ k := by omega
  have e1 : q - e + (f.p : Int) = ((k + f.p : Nat) : Int) := by omega
  have e2 : q - e + ((f.p : Int) - 1) = ((k + (f.p - 1) : Nat) : Int) := by omega
  rw [e1, below_nat, Nat.one_mul] at hb
  rw [e2, below_nat, Nat.one_mul] at hnb
  have hQA : FP.Core.quantum f A B e = q := by
    refine FP.Core.quantum_eq hA hB hge ?_ ?_
    · rw [e1, below_nat]
      obtain ⟨x, hx⟩ := even_pow (k := k + f.p) (by omega)
      rw [hx] at hb ⊢
      have h3 : 2 * M + 2 ≤ 2 * x := by omega
      have h4 := Nat.mul_le_mul_right B h3
      rw [Nat.mul_comm B]; omega
    · rcases hnb with h | h
      · exact .inl h
      · refine .inr ?_
        rw [e2, below_nat]
        obtain ⟨x, hx⟩ := even_pow (k := k + (f.p - 1)) (by omega)
        rw [hx] at h ⊢
        have h3 : 2 * x ≤ 2 * M := by omega
        have h4 := Nat.mul_le_mul_right B h3
        rw [Nat.mul_comm B]; omega
  unfold FP.Core.roundRatio
  rw [if_neg (by omega), if_neg (by omega), hQA, hQ]
  unfold FP.Core.roundAt FP.Core.unitsNum FP.Core.unitsDen
  rw [show (e - q).toNat = 0 by omega, show (q - e).toNat = k by omega, Nat.pow_zero, Nat.mul_one, Nat.mul_one, Nat.one_mul]
  rw [near_sticky hB h1 h2 (by
    rw [show k = 2 + (k - 2) by omega, Nat.pow_add]; exact Nat.mul_mod_right _ _) (Nat.two_pow_pos k)]
/-- what is shifted out leaves a trace -/
def trc (v d : Nat) : Nat := if d ≤ 63 then (if v / 2 ^ d * 2 ^ d = v then v / 2 ^ d else 2 * (v / 2 ^ d / 2) + 1) else 0
theorem or_one (n : Nat) : n ||| 1 = 2 * (n / 2) + 1 := by
  have key : ∀ k : Nat, 2 * k ||| 1 = 2 * k + 1 := fun k => (Nat.two_pow_add_eq_or_of_lt (i := 1) (b := 1) (by decide) k).symm
  rcases (show n = 2 * (n / 2) ∨ n = 2 * (n / 2) + 1 by omega) with h | h
  · generalize n / 2 = k at h
    rw [h, key]
  · generalize n / 2 = k at h
    rw [h, ← key k, Nat.or_assoc, Nat.or_self]
theorem trc_n {v d : Nat} (hv : v < 2 ^ 63) (hd : d < 2 ^ 31) : fX3_shiftedWithTrace (lN v) (nI d) = lN (trc v d) := by
  unfold fX3_shiftedWithTrace trc
  by_cases h : d ≤ 63
  · have hv4 : v < 2 ^ 64 := by omega
    have hle : v / 2 ^ d * 2 ^ d ≤ v := Nat.div_mul_le_self _ _
    have hle2 : v / 2 ^ d ≤ v := Nat.div_le_self _ _
    rw [if_pos (by rw [fa_le, nI_toInt hd, show (63 : Int32).toInt = 63 from rfl]; omega), if_pos h, wb_shr hv4 (by omega), wb_shl _ (by omega)]
    by_cases c : v / 2 ^ d * 2 ^ d = v
    · rw [if_pos c, if_pos (by rw [c])]
    · rw [if_neg c, if_neg (by rw [jN_eq (by omega) hv4]; exact c), show (1 : Int64) = lN 1 from rfl, wb_or (by omega) (by decide), or_one]
  · rw [if_neg (by rw [fa_le, nI_toInt hd, show (63 : Int32).toInt = 63 from rfl]; omega), if_neg h]; rfl
theorem log2_ge {m k : Nat} (h : 2 ^ k ≤ m) : k ≤ m.log2 := (Nat.le_log2 (by have := Nat.two_pow_pos k; omega)).mpr h
theorem log2_is {m k : Nat} (h : 2 ^ k ≤ m) (h2 : m < 2 ^ (k + 1)) : m.log2 = k := by
  have h1 := log2_ge h
  have h3 := (Nat.log2_lt (n := m) (k := k + 1) (by have := Nat.two_pow_pos k; omega)).mpr h2
  omega
/-- a number of the format, and an eighth of its last digit more or less -/
theorem tiny_up {f : FP.Core.Fmt} (hf : FP.Core.Good f) {s : Bool} {c : Nat} {q : Int} (h : FP.Core.fits f (.fin s c q)) (ht : f.tails ≤ c) : FP.Core.roundRatio f s (8 * c + 1) 1 (q - 3) = .fin s c q := by
  obtain ⟨h1, h2, h3, h4⟩ := h
  have htw := FP.Core.two_tails hf
  have hp2 := hf.2
  have e2 : 2 ^ (f.p + 2) = 8 * f.tails := by rw [Nat.pow_add, htw]; omega
  have e3 : 2 ^ (f.p + 2 + 1) = 8 * (2 * f.tails) := by rw [Nat.pow_succ, e2]; omega
  have hl : (8 * c + 1).log2 = f.p + 2 := log2_is (by omega) (by omega)
  unfold FP.Core.roundRatio
  rw [if_neg (by omega), quantum_1 (by omega), hl, show max f.qmin ((f.p + 2 : Nat) + (q - 3) - ((f.p : Int) - 1)) = q by omega]
  unfold FP.Core.roundAt FP.Core.unitsNum FP.Core.unitsDen
  rw [show (q - 3 - q).toNat = 0 by omega, show (q - (q - 3)).toNat = 3 by omega]
  have e : FP.Core.nearest ((8 * c + 1) * 2 ^ 0) (1 * 2 ^ 3) = c := by
    unfold FP.Core.nearest
    rw [if_pos (by omega)]; omega
  rw [e]
  unfold FP.Core.settle FP.Core.bound
  rw [if_pos h1, if_pos h3]
theorem tiny_down {f : FP.Core.Fmt} (hf : FP.Core.Good f) {s : Bool} {c : Nat} {q : Int} (h : FP.Core.fits f (.fin s c q)) (ht : f.tails ≤ c) (hq : f.qmin < q) : FP.Core.roundRatio f s (8 * c - 1) 1 (q - 3) = .fin s c q := by
  obtain ⟨h1, h2, h3, h4⟩ := h
  have htw := FP.Core.two_tails hf
  have hp2 := hf.2
  have htp := FP.Core.tails_pos f
  have e1 : 2 ^ (f.p + 1) = 4 * f.tails := by rw [Nat.pow_add, htw]; omega
  have e2 : 2 ^ (f.p + 2) = 8 * f.tails := by rw [Nat.pow_add, htw]; omega
  have e3 : 2 ^ (f.p + 2 + 1) = 8 * (2 * f.tails) := by rw [Nat.pow_succ, e2]; omega
  unfold FP.Core.roundRatio
  rw [if_neg (by omega), quantum_1 (by omega)]
  by_cases hc : c = f.tails
  · have hl : (8 * c - 1).log2 = f.p + 1 := log2_is (by omega) (by omega)
    rw [hl, show max f.qmin ((f.p + 1 : Nat) + (q - 3) - ((f.p : Int) - 1)) = q - 1 by omega]
    unfold FP.Core.roundAt FP.Core.unitsNum FP.Core.unitsDen
    rw [show (q - 3 - (q - 1)).toNat = 0 by omega, show (q - 1 - (q - 3)).toNat = 2 by omega]
    have e : FP.Core.nearest ((8 * c - 1) * 2 ^ 0) (1 * 2 ^ 2) = 2 * c := by
      unfold FP.Core.nearest
      rw [if_neg (by omega), if_pos (by omega)]; omega
    rw [e]
    unfold FP.Core.settle FP.Core.bound
    rw [if_neg (by omega), show q - 1 + 1 = q by omega, if_pos h3, hc]
  · have hl : (8 * c - 1).log2 = f.p + 2 := log2_is (by omega) (by omega)
    rw [hl, show max f.qmin ((f.p + 2 : Nat) + (q - 3) - ((f.p : Int) - 1)) = q by omega]
    unfold FP.Core.roundAt FP.Core.unitsNum FP.Core.unitsDen
    rw [show (q - 3 - q).toNat = 0 by omega, show (q - (q - 3)).toNat = 3 by omega]
    have e : FP.Core.nearest ((8 * c - 1) * 2 ^ 0) (1 * 2 ^ 3) = c := by
      unfold FP.Core.nearest
      rw [if_neg (by omega), if_pos (by omega)]; omega
    rw [e]
    unfold FP.Core.settle FP.Core.bound
    rw [if_pos h1, if_pos h3]
theorem eight_up {f : FP.Core.Fmt} (hf : FP.Core.Good f) {s : Bool} {c : Nat} {q : Int} (h : FP.Core.fits f (.fin s c q)) : FP.Core.roundRatio f s (8 * c) 1 (q - 3) = .fin s c q := by
  refine FP.Core.roundRatio_exact hf (by decide) h ?_
  rw [show (q - 3 - q).toNat = 0 by omega, show (q - (q - 3)).toNat = 3 by omega]
  omega
/-- moved to a common unit -/
theorem ratio_8 {f : FP.Core.Fmt} {s : Bool} {X Y d : Nat} {q1 q2 : Int} (hd : q1 - q2 = (d : Int)) (h : 8 * X = Y * 2 ^ d) : FP.Core.roundRatio f s X 1 q2 = FP.Core.roundRatio f s Y 1 (q1 - 3) := by
  refine FP.Core.roundRatio_congr (by decide) (by decide) ?_
  rw [Nat.mul_one, Nat.mul_one]
  refine Nat.eq_of_mul_eq_mul_right (Nat.two_pow_pos d) ?_
  have e : (q2 - (q1 - 3)).toNat + d = 3 + (q1 - 3 - q2).toNat := by omega
  calc X * 2 ^ (q2 - (q1 - 3)).toNat * 2 ^ d = X * 2 ^ ((q2 - (q1 - 3)).toNat + d) := by rw [Nat.pow_add, Nat.mul_assoc]
    _ = X * 2 ^ (3 + (q1 - 3 - q2).toNat) := by rw [e]
    _ = 8 * X * 2 ^ (q1 - 3 - q2).toNat := by rw [Nat.pow_add, ← Nat.mul_assoc, Nat.mul_comm X]
    _ = Y * 2 ^ (q1 - 3 - q2).toNat * 2 ^ d := by rw [h, Nat.mul_assoc, Nat.mul_assoc, Nat.mul_comm (2 ^ d)]
theorem ratio_d {f : FP.Core.Fmt} {s : Bool} {X d : Nat} {q1 q2 : Int} (hd : q1 - q2 = (d : Int)) (h3 : 3 ≤ d) : FP.Core.roundRatio f s (8 * X) (2 ^ d) (q1 - 3) = FP.Core.roundRatio f s X 1 q2 := by
  refine FP.Core.roundRatio_congr (Nat.two_pow_pos d) (by decide) ?_
  rw [show (q1 - 3 - q2).toNat = d - 3 by omega, show (q2 - (q1 - 3)).toNat = 0 by omega, Nat.mul_one, Nat.pow_zero, Nat.mul_one, Nat.mul_comm 8 X, Nat.mul_assoc, show (8 : Nat) = 2 ^ 3 from rfl, ← Nat.pow_add, show 3 + (d - 3) = d by omega]
/-- where the trace is no more than the bits that are shifted out -/
theorem trc_in {v d : Nat} (h : d ≤ 63) (hx : ¬ v / 2 ^ d * 2 ^ d = v) : ∃ t, trc v d = 2 * t + 1 ∧ 2 * t * 2 ^ d < v ∧ v < (2 * t + 2) * 2 ^ d := by
  refine ⟨v / 2 ^ d / 2, ?_, ?_, ?_⟩
  · unfold trc; rw [if_pos h, if_neg hx]
  · have h1 : 2 * (v / 2 ^ d / 2) ≤ v / 2 ^ d := by omega
    have h2 := Nat.mul_le_mul_right (2 ^ d) h1
    have h3 : v / 2 ^ d * 2 ^ d ≤ v := Nat.div_mul_le_self _ _
    omega
  · have h1 : v / 2 ^ d + 1 ≤ 2 * (v / 2 ^ d / 2) + 2 := by omega
    have h2 := Nat.mul_le_mul_right (2 ^ d) h1
    have h3 := Nat.div_add_mod v (2 ^ d)
    have h4 := Nat.mod_lt v (Nat.two_pow_pos d)
    rw [Nat.add_mul, Nat.one_mul, Nat.mul_comm (v / 2 ^ d)] at h2
    omega
theorem trc_4 {c d : Nat} (h : d ≤ 63) (hx : ¬ 8 * c / 2 ^ d * 2 ^ d = 8 * c) : 4 ≤ d := by
  refine Nat.le_of_not_lt (fun q => hx ?_)
  rcases (show d = 0 ∨ d = 1 ∨ d = 2 ∨ d = 3 by omega) with rfl | rfl | rfl | rfl <;> omega
theorem add_up {f : FP.Core.Fmt} (hf : FP.Core.Good f) {s t : Bool} {c1 c2 d : Nat} {q1 q2 : Int} (hx : FP.Core.fits f (.fin s c1 q1)) (hy : FP.Core.fits f (.fin t c2 q2)) (hd : q1 - q2 = (d : Int)) (hpp : f.p ≤ 53) : FP.Core.roundRatio f s (c1 * 2 ^ d + c2) 1 q2 = FP.Core.roundRatio f s (8 * c1 + trc (8 * c2) d) 1 (q1 - 3) := by
  obtain ⟨y1, y2, y3, y4⟩ := hy
  have hx0 := hx
  obtain ⟨x1, x2, x3, x4⟩ := hx
  have hpd := Nat.two_pow_pos d
  have htw := FP.Core.two_tails hf
  have hc2 : c2 < 2 ^ 53 := Nat.lt_of_lt_of_le y1 (Nat.pow_le_pow_right (by decide) hpp)
  by_cases h63 : d ≤ 63
  · by_cases hex : 8 * c2 / 2 ^ d * 2 ^ d = 8 * c2
    · refine ratio_8 hd ?_
      unfold trc
      rw [if_pos h63, if_pos hex, Nat.add_mul, hex, Nat.mul_add, Nat.mul_assoc]
    · obtain ⟨u, e, l1, l2⟩ := trc_in h63 hex
      have h4 := trc_4 h63 hex
      have ht : f.tails ≤ c1 := by rcases x4 with h | h <;> omega
      rw [e, ← ratio_d (s := s) (f := f) hd (by omega)]
      have em : 8 * c1 + (2 * u + 1) = 2 * (4 * c1 + u) + 1 := by omega
      have e2 : 2 ^ (f.p + 2) = 8 * f.tails := by rw [Nat.pow_add, htw]; omega
      rw [em]
      refine sticky hf hpd ?_ ?_ ?_
      · rw [show 2 * (4 * c1 + u) = 8 * c1 + 2 * u by omega, Nat.add_mul, Nat.mul_add, ← Nat.mul_assoc]; omega
      · rw [show 2 * (4 * c1 + u) + 2 = 8 * c1 + (2 * u + 2) by omega, Nat.add_mul, Nat.mul_add, ← Nat.mul_assoc]; omega
      · rw [quantum_1 (by omega)]
        have := log2_ge (m := 2 * (4 * c1 + u) + 1) (k := f.p + 2) (by omega)
        omega
  · have e0 : trc (8 * c2) d = 0 := by unfold trc; rw [if_neg h63]
    rw [e0, Nat.add_zero]
    by_cases hz : c2 = 0
    · refine ratio_8 hd ?_
      rw [hz, Nat.add_zero, ← Nat.mul_assoc]
    · have ht : f.tails ≤ c1 := by rcases x4 with h | h <;> omega
      have hbig : 2 ^ 64 ≤ 2 ^ d := Nat.pow_le_pow_right (by decide) (by omega)
      have e2 : 2 ^ (f.p + 2) = 8 * f.tails := by rw [Nat.pow_add, htw]; omega
      rw [eight_up hf hx0, ← tiny_up hf hx0 ht, ← ratio_d (s := s) (f := f) hd (by omega), show 8 * c1 + 1 = 2 * (4 * c1) + 1 by omega]
      refine sticky hf hpd ?_ ?_ ?_
      · rw [show 2 * (4 * c1) = 8 * c1 by omega, Nat.mul_add, ← Nat.mul_assoc]; omega
      · rw [show 2 * (4 * c1) + 2 = 8 * c1 + 2 by omega, Nat.add_mul, Nat.mul_add, ← Nat.mul_assoc]; omega
      · rw [quantum_1 (by omega)]
        have := log2_ge (m := 2 * (4 * c1) + 1) (k := f.p + 2) (by omega)
        omega
theorem trc_le {f : FP.Core.Fmt} (hf : FP.Core.Good f) {s t : Bool} {c1 c2 d : Nat} {q1 q2 : Int} (hx : FP.Core.fits f (.fin s c1 q1)) (hy : FP.Core.fits f (.fin t c2 q2)) (hd : q1 - q2 = (d : Int)) (hle : c2 ≤ c1 * 2 ^ d) : trc (8 * c2) d ≤ 8 * c1 ∧ (trc (8 * c2) d = 8 * c1 ↔ c1 * 2 ^ d - c2 = 0) := by
  obtain ⟨y1, y2, y3, y4⟩ := hy
  obtain ⟨x1, x2, x3, x4⟩ := hx
  have hpd := Nat.two_pow_pos d
  have htw := FP.Core.two_tails hf
  have htp := FP.Core.tails_pos f
  by_cases h63 : d ≤ 63
  · by_cases hex : 8 * c2 / 2 ^ d * 2 ^ d = 8 * c2
    · have e : trc (8 * c2) d = 8 * c2 / 2 ^ d := by unfold trc; rw [if_pos h63, if_pos hex]
      rw [e]
      generalize 8 * c2 / 2 ^ d = n at hex
      have h8 : 8 * (c1 * 2 ^ d) = 8 * c1 * 2 ^ d := (Nat.mul_assoc _ _ _).symm
      refine ⟨Nat.le_of_mul_le_mul_right (c := 2 ^ d) (by omega) hpd, fun h => ?_, fun h => ?_⟩
      · rw [h] at hex; omega
      · exact Nat.eq_of_mul_eq_mul_right hpd (by omega)
    · obtain ⟨u, e, l1, l2⟩ := trc_in h63 hex
      have h4 := trc_4 h63 hex
      have ht : f.tails ≤ c1 := by rcases x4 with h | h <;> omega
      have h16 : 2 ^ 4 ≤ 2 ^ d := Nat.pow_le_pow_right (by decide) h4
      have hm := Nat.mul_le_mul_left (2 * u) h16
      have hm2 := Nat.mul_le_mul_left c1 h16
      rw [e]
      refine ⟨by omega, fun h => by omega, fun h => by omega⟩
  · have e0 : trc (8 * c2) d = 0 := by unfold trc; rw [if_neg h63]
    rw [e0]
    refine ⟨Nat.zero_le _, fun h => ?_, fun h => ?_⟩
    · have h1 : c1 = 0 := by omega
      rw [h1, Nat.zero_mul, Nat.zero_sub]
    · rcases x4 with h4 | h4
      · omega
      · have := Nat.mul_le_mul h4 (show 2 ^ 1 ≤ 2 ^ d from Nat.pow_le_pow_right (by decide) (by omega))
        omega
theorem add_down {f : FP.Core.Fmt} (hf : FP.Core.Good f) {s t : Bool} {c1 c2 d : Nat} {q1 q2 : Int} (hx : FP.Core.fits f (.fin s c1 q1)) (hy : FP.Core.fits f (.fin t c2 q2)) (hd : q1 - q2 = (d : Int)) (hpp : f.p ≤ 53) (hle : c2 ≤ c1 * 2 ^ d) : FP.Core.roundRatio f s (c1 * 2 ^ d - c2) 1 q2 = FP.Core.roundRatio f s (8 * c1 - trc (8 * c2) d) 1 (q1 - 3) := by
  obtain ⟨y1, y2, y3, y4⟩ := hy
  have hx0 := hx
  obtain ⟨x1, x2, x3, x4⟩ := hx
  have hpd := Nat.two_pow_pos d
  have htw := FP.Core.two_tails hf
  have htp := FP.Core.tails_two hf
  have hc2 : c2 < 2 ^ 53 := Nat.lt_of_lt_of_le y1 (Nat.pow_le_pow_right (by decide) hpp)
  have h8 : 8 * (c1 * 2 ^ d) = 8 * c1 * 2 ^ d := (Nat.mul_assoc _ _ _).symm
  by_cases h63 : d ≤ 63
  · by_cases hex : 8 * c2 / 2 ^ d * 2 ^ d = 8 * c2
    · refine ratio_8 hd ?_
      unfold trc
      rw [if_pos h63, if_pos hex, Nat.sub_mul, hex, Nat.mul_sub, h8]
    · obtain ⟨u, e, l1, l2⟩ := trc_in h63 hex
      have h4 := trc_4 h63 hex
      have ht : f.tails ≤ c1 := by rcases x4 with h | h <;> omega
      have h16 : 2 ^ 4 ≤ 2 ^ d := Nat.pow_le_pow_right (by decide) h4
      have hm := Nat.mul_le_mul_left (2 * u) h16
      have e1 : 2 ^ (f.p + 1) = 4 * f.tails := by rw [Nat.pow_add, htw]; omega
      rw [e, ← ratio_d (s := s) (f := f) hd (by omega)]
      have em : 8 * c1 - (2 * u + 1) = 2 * (4 * c1 - u - 1) + 1 := by omega
      have hw : 2 * (4 * c1 - u - 1) * 2 ^ d + (2 * u + 2) * 2 ^ d = 8 * c1 * 2 ^ d := by
        rw [← Nat.add_mul]; congr 1; omega
      have hw2 : (2 * (4 * c1 - u - 1) + 2) * 2 ^ d + 2 * u * 2 ^ d = 8 * c1 * 2 ^ d := by
        rw [← Nat.add_mul]; congr 1; omega
      rw [em]
      refine sticky hf hpd ?_ ?_ ?_
      · omega
      · omega
      · rw [quantum_1 (by omega)]
        have := log2_ge (m := 2 * (4 * c1 - u - 1) + 1) (k := f.p + 1) (by omega)
        omega
  · have e0 : trc (8 * c2) d = 0 := by unfold trc; rw [if_neg h63]
    rw [e0, Nat.sub_zero]
    by_cases hz : c2 = 0
    · refine ratio_8 hd ?_
      rw [hz, Nat.sub_zero, ← Nat.mul_assoc]
    · have ht : f.tails ≤ c1 := by rcases x4 with h | h <;> omega
      have hbig : 2 ^ 64 ≤ 2 ^ d := Nat.pow_le_pow_right (by decide) (by omega)
      have e1 : 2 ^ (f.p + 1) = 4 * f.tails := by rw [Nat.pow_add, htw]; omega
      rw [eight_up hf hx0, ← tiny_down hf hx0 ht (by omega), ← ratio_d (s := s) (f := f) hd (by omega), show 8 * c1 - 1 = 2 * (4 * c1 - 1) + 1 by omega]
      have hw : 2 * (4 * c1 - 1) * 2 ^ d + 2 * 2 ^ d = 8 * c1 * 2 ^ d := by
        rw [← Nat.add_mul]; congr 1; omega
      have hw2 : (2 * (4 * c1 - 1) + 2) * 2 ^ d = 8 * c1 * 2 ^ d := by
        congr 1; omega
      refine sticky hf hpd ?_ ?_ ?_
      · omega
      · omega
      · rw [quantum_1 (by omega)]
        have := log2_ge (m := 2 * (4 * c1 - 1) + 1) (k := f.p + 1) (by omega)
        omega
