/-- what a gauge answers, in the machine's floats -/
theorem A_has (k : Int32) (sp v : Int64) (hv : fX5_isNumber true v = true) : fX0_hasNumberFor k sp v = (decide (k = 2) || !fX5_isEndless v.toUInt64) := by
  sorry
theorem A_long (k : Int32) (sp v : Int64) (hv : fX5_isNumber true v = true) (h : k = 2) (u : Bool) : (if u = true then fX0_tellsAsFloat k sp v else fX0_tells k sp v) = longN v.toUInt64 u := by
  sorry
theorem A_tell (k : Int32) (sp v : Int64) (hs : okS k sp) (hv : fX5_isNumber true v = true) (h : ¬ k = 2) (he : ¬ fX5_isEndless v.toUInt64 = true) (u : Bool) : (if u = true then fX0_tellsAsFloat k sp v else fX0_tells k sp v) = fX5_bitsOf (!u) (tellN k sp.toUInt64 v.toUInt64) := by
  sorry
theorem read_no {σ : St} {k : Int32} {sp v : Int64} {X Y : Int32 × St} (hv : fX5_isNumber true v = true) (h : ¬ fX0_hasNumberFor k sp v = true) : ((-14 : Int32), σ) = (if k = 2 then X else if fX5_isEndless v.toUInt64 = true then (-14, σ) else Y) := by
  rw [A_has k sp v hv, Bool.or_eq_true, decide_eq_true_eq, Bool.not_eq_true'] at h
  rw [if_neg (fun q => h (Or.inl q)), if_pos (by
    cases hq : fX5_isEndless v.toUInt64 with
    | true => rfl
    | false => exact absurd (Or.inr hq) h)]
theorem read_yes {σ : St} {k : Int32} {sp v : Int64} {u : Bool} (hs : okS k sp) (hv : fX5_isNumber true v = true) (h : fX0_hasNumberFor k sp v = true) {x : Int64} (hx : x = if u = true then fX0_tellsAsFloat k sp v else fX0_tells k sp v) : ((1 : Int32), uTo σ x) = (if k = 2 then (1, uTo σ (longN v.toUInt64 u)) else if fX5_isEndless v.toUInt64 = true then (-14, σ) else (1, uTo σ (fX5_bitsOf (!u) (tellN k sp.toUInt64 v.toUInt64)))) := by
  subst hx
  rw [A_has k sp v hv, Bool.or_eq_true, decide_eq_true_eq, Bool.not_eq_true'] at h
  by_cases h2 : k = 2
  · rw [if_pos h2, A_long k sp v hv h2 u]
  · rw [if_neg h2]
    rcases h with h | h
    · exact absurd h h2
    · have he : ¬ fX5_isEndless v.toUInt64 = true := by rw [h]; decide
      rw [A_tell k sp v hs hv h2 he u, if_neg he]
