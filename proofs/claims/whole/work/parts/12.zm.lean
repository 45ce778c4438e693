/-- what the class's own arithmetic on bits answers, in the machine's floats -/
theorem A_num (w : Bool) (b : Int64) : fX3_isNumber (fX4_widthOf w) b = fX5_isNumber w b := M_num w b
theorem A_told (w : Bool) (b : Int64) : fX3_asTold (fX4_widthOf w) b = (if w = true then b else b.toInt32.toInt64) := M_told w b
theorem A_zero {w : Bool} {b : Int64} (h : okt w b) : fX3_isZero (fX4_widthOf w) b = zer (fX5_number w b) := M_zero h
theorem A_endl {w : Bool} {b : Int64} (h : okt w b) : fX3_isEndless (fX4_widthOf w) b = fX5_isEndless (fX5_number w b) := M_endl h
theorem A_rem {w : Bool} {x y : Int64} (hx : okt w x) (hy : okt w y) (he : ¬ fX5_isEndless (fX5_number w x) = true) (hz : ¬ zer (fX5_number w y) = true) : fX3_remainder (fX4_widthOf w) x y = fX5_bitsOf w (FP.drem (fX5_number w x) (fX5_number w y)) := M_rem hx hy he hz
theorem A_turn {w : Bool} {b : Int64} {to : Int32} (h : okt w b) : fX4_turned (fX4_widthOf w) b to = tnd (fX5_number w b) to := M_turn h
theorem A_more {w : Bool} {b : Int64} {g : Int32} (h : okt w b) : fX3_added (fX4_widthOf w) b (fX3_nearestEighths (fX4_widthOf w) g) = fX5_bitsOf w (moreE w (fX5_number w b) g) := M_more h
theorem A_add {w : Bool} {a v : Int64} (ha : okt w a) (hv : okt w v) (hu : ¬ unl (fX5_number w a) (fX5_number w v) = true) : fX3_added (fX4_widthOf w) a v = fX5_bitsOf w (addN w (fX5_number w a) (fX5_number w v)) := M_add ha hv hu
theorem A_unl {w : Bool} {a v : Int64} (ha : okt w a) (hv : okt w v) : fX3_areUnlikeEndless (fX4_widthOf w) a v = unl (fX5_number w a) (fX5_number w v) := M_unl ha hv
theorem A_back {w : Bool} {v : UInt64} (h : FV w v) : fX5_number w (fX5_bitsOf w v) = v := M_back h
theorem A_okn {w : Bool} {v : UInt64} (h : FP.dIsNaN v = false) : okt w (fX5_bitsOf w v) := M_okn h
theorem A_okt {w : Bool} {v : UInt64} (h : FV w v) : okt w (fX5_bitsOf w v) := A_okn h.1
theorem A_span (b : Int64) : fX4_isSpan b = (fX5_isNumber true b && (!zer b.toUInt64 && !fX5_isEndless b.toUInt64)) := M_span b
theorem more_fv {w : Bool} {v : UInt64} {g : Int32} (h : FV w v) : FV w (moreE w v g) := by
  unfold moreE
  cases w with
  | true => rw [if_pos rfl]; exact ⟨dadd8_nn g h.1, fun z => absurd z (by decide)⟩
  | false =>
    rw [if_neg (by decide)]
    have h1 : FP.fIsNaN (FP.d2f v) = false := by rw [FP.d2f_nan]; exact h.1
    have h2 := fadd8_nn g h1
    exact ⟨by rw [FP.f2d_nan]; exact h2, fun _ => ⟨_, h2, rfl⟩⟩
