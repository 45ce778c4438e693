/-- what a gauge answers, in the machine's floats -/
theorem A_has (k : Int32) (sp v : Int64) (hv : fX5_isNumber true v = true) : fX0_hasNumberFor k sp v = (decide (k = 2) || !fX5_isEndless v.toUInt64) := by
  have he := M_endl (w := true) (okt_t (isnum_t hv))
  rw [show fX4_widthOf true = 1 from rfl, show fX5_number true v = v.toUInt64 from rfl] at he
  unfold fX0_hasNumberFor
  rw [he]
  by_cases h : k = 2
  · rw [if_pos h, decide_eq_true h]; rfl
  · rw [if_neg h, decide_eq_false h]
    cases fX5_isEndless v.toUInt64 <;> rfl
theorem A_long (k : Int32) (sp v : Int64) (hv : fX5_isNumber true v = true) (h : k = 2) (u : Bool) : (if u = true then fX0_tellsAsFloat k sp v else fX0_tells k sp v) = longN v.toUInt64 u := by
  have hn := isnum_t hv
  have hf : FP.fIsNaN (FP.d2f v.toUInt64) = false := by rw [FP.d2f_nan]; exact hn
  have es := self_t hn
  cases u with
  | true =>
    rw [if_pos rfl]
    unfold fX0_tellsAsFloat longN
    have eo := of01_t hn
    rw [← es] at eo
    rw [if_pos h, if_pos rfl, eo, long_f hf, whole_f, B32 (FP.Core.l2f_fin _).notNaN]
  | false =>
    rw [if_neg (by decide)]
    unfold fX0_tells longN
    have eo := long_t hn
    rw [← es] at eo
    rw [if_pos h, if_neg (by decide), eo, whole_t, B64 (FP.Core.l2d_fin _).notNaN]
theorem A_tells (k : Int32) (sp v : Int64) (hs : okS k sp) (hv : fX5_isNumber true v = true) (h : ¬ k = 2) (he : ¬ fX5_isEndless v.toUInt64 = true) : fX0_tells k sp v = fX5_bitsOf true (tellN k sp.toUInt64 v.toUInt64) := by
  have hn := isnum_t hv
  have h1 : FP.dIsNaN (stepN sp.toUInt64 v.toUInt64) = false := step_nn (fin_of hn he) hs.2.1 (nz_of hs.2.1 hs.2.2.1)
  have h2 : FP.dIsNaN (FP.dsub v.toUInt64 (stepN sp.toUInt64 v.toUInt64)) = false := FP.Core.dsub_out' (fin_of hn he) h1
  unfold fX0_tells tellN
  rw [if_neg h, step_n hs hn he]
  obtain ⟨j, hj, rfl⟩ := ixb_some hs.1 (by decide)
  rcases (show j = 0 ∨ j = 1 ∨ j = 2 by omega) with rfl | rfl | rfl
  · rw [if_neg (by decide), if_pos (by decide)]
  · rw [if_pos (by decide), if_neg (by decide)]
    unfold fX0_wrapped
    rw [over_n hs hn he]
    have hb := back_t h2
    have hg := neg0_n (b := fX5_bitsOf true (FP.dsub v.toUInt64 (stepN sp.toUInt64 v.toUInt64))) (by rw [hb]; exact h2)
    rw [hb] at hg
    rw [wrap_n hs h2, hg]
    cases fX3_isNegative 1 (fX5_bitsOf true (FP.dsub v.toUInt64 (stepN sp.toUInt64 v.toUInt64))) with
    | false => rfl
    | true => cases fX3_isZero 1 (fX5_bitsOf true (FP.dsub v.toUInt64 (stepN sp.toUInt64 v.toUInt64))) <;> rfl
  · exact absurd rfl h
theorem A_tell (k : Int32) (sp v : Int64) (hs : okS k sp) (hv : fX5_isNumber true v = true) (h : ¬ k = 2) (he : ¬ fX5_isEndless v.toUInt64 = true) (u : Bool) : (if u = true then fX0_tellsAsFloat k sp v else fX0_tells k sp v) = fX5_bitsOf (!u) (tellN k sp.toUInt64 v.toUInt64) := by
  have e := A_tells k sp v hs hv h he
  cases u with
  | true =>
    rw [if_pos rfl]
    unfold fX0_tellsAsFloat
    rw [if_neg h, e, of01_n (tell_nn (fin_of (isnum_t hv) he) hs)]; rfl
  | false =>
    rw [if_neg (by decide), e]; rfl
theorem read_no {σ : St} {k : Int32} {sp v : Int64} {X Y : Int32 × St} (hv : fX5_isNumber true v = true) (h : ¬ fX0_hasNumberFor k sp v = true) : ((-14 : Int32), σ) = (if k = 2 then X else if fX5_isEndless v.toUInt64 = true then (-14, σ) else Y) := by
  rw [A_has k sp v hv, Bool.or_eq_true, decide_eq_true_eq, Bool.not_eq_true'] at h
  rw [if_neg (fun q => h (Or.inl q)), if_pos (by
    cases hq : fX5_isEndless v.toUInt64 with
    | true => rfl
    | false => exact absurd (Or.inr hq) h)]
theorem read_yes {σ : St} {k : Int32} {sp v : Int64} {u : Bool} (hs : okS k sp) (hv : fX5_isNumber true v = true) (h : fX0_hasNumberFor k sp v = true) {x : Int64} (hx : x = if u = true then fX0_tellsAsFloat k sp v else fX0_tells k sp v) : ((1 : Int32), uTo σ x) = (if k = 2 then (1, uTo σ (longN v.toUInt64 u)) else if fX5_isEndless v.toUInt64 = true then (-14, σ) else (1, uTo σ (fX5_bitsOf (!u) (tellN k sp.toUInt64 v.toUInt64)))) := by
  subst hx
  rw [A_has k sp v hv, Bool.or_eq_true, decide_eq_true_eq, Bool.not_eq_true'] at h
  by_cases h2 : k = 2
  · rw [if_pos h2, A_long k sp v hv h2 u]
  · rw [if_neg h2]
    rcases h with h | h
    · exact absurd h h2
    · have he : ¬ fX5_isEndless v.toUInt64 = true := by rw [h]; decide
      rw [A_tell k sp v hs hv h2 he u, if_neg he]
