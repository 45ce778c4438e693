theorem A_round (v : Int64) (how : Int32) : fX4_round v how = fX5_round v how := by
  have hf : FP.fIsNaN (FP.l2f v) = false := (FP.Core.l2f_fin v).notNaN
  have hd : FP.dIsNaN (FP.l2d v) = false := (FP.Core.l2d_fin v).notNaN
  have hdf : FP.fIsNaN (FP.d2f (FP.l2d v)) = false := by rw [FP.d2f_nan]; exact hd
  unfold fX4_round fX5_round
  rw [whole_f, whole_t, long_f hf, long_t hd, of01_t hd, int_f hf, B32 hf, B64 hd, B32 hdf]
