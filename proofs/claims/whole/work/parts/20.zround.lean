theorem A_round (v : Int64) (how : Int32) : fX4_round v how = fX5_round v how := by
  sorry
