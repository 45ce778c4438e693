/-- the loop of remainder: what is left, shifted by ten at most at once -/
def remL (dv : Int64) : Nat → Int32 → Int64 → Int64
  | 0, _, left => left
  | n + 1, sh, left => if 0 < sh then remL dv n (sh + (-10)) ((left <<< ((if (10 : Int32) < sh then (10 : Int32) else sh).toInt64 &&& 63)) - (left <<< ((if (10 : Int32) < sh then (10 : Int32) else sh).toInt64 &&& 63)) / dv * dv) else left
theorem remL_0 {dv : Int64} {n : Nat} {sh : Int32} {left : Int64} (h : sh ≤ 0) : remL dv n sh left = left := by
  cases n with
  | zero => rfl
  | succ n => unfold remL; rw [if_neg (by rw [Int32.lt_iff_toInt_lt]; rw [Int32.le_iff_toInt_le] at h; omega)]
theorem remL_s {dv : Int64} {n : Nat} {sh : Int32} {left : Int64} (h : ¬ sh ≤ 0) : remL dv (n + 1) sh left = remL dv n (sh + (-10)) ((left <<< ((if (10 : Int32) < sh then (10 : Int32) else sh).toInt64 &&& 63)) - (left <<< ((if (10 : Int32) < sh then (10 : Int32) else sh).toInt64 &&& 63)) / dv * dv) := by
  conv => lhs; unfold remL
  rw [if_pos (by rw [Int32.lt_iff_toInt_lt]; rw [Int32.le_iff_toInt_le] at h; omega)]
theorem rem_dec {sh : Int32} {n : Nat} (h : ¬ sh ≤ 0) (hn : sh.toInt ≤ ((n + 1 : Nat) : Int)) : (sh + (-10)).toInt ≤ (n : Int) := by
  have h1 : ¬ sh.toInt ≤ 0 := by rw [Int32.le_iff_toInt_le] at h; exact h
  have h2 : (sh + (-10)).toInt = sh.toInt - 10 := by
    rw [Int32.toInt_add, show (-10 : Int32).toInt = -10 from rfl]
    have h3 := sh.toInt_lt
    have h4 := sh.le_toInt
    rw [Int.bmod_eq_of_le (by omega) (by omega)]
    omega
  omega
def fX3_remainder (i : Nat) (x : Int64) (y : Int64) : Int64 := if (fX3_significand i y) = (0 : Int64) then x else (if (fX3_size i y) ≤ (fX3_size i x) then fX3_nearest i (fX3_isNegative i x) (remL (fX3_significand i y) ((fX3_exponent i x) - (fX3_exponent i y)).toNatClampNeg ((fX3_exponent i x) - (fX3_exponent i y)) ((fX3_significand i x) - (fX3_significand i x) / (fX3_significand i y) * (fX3_significand i y))) (fX3_exponent i y) else x)
set_option maxHeartbeats 4000000 in
set_option maxRecDepth 100000 in
theorem mX3_remainder (l : Launch) (ad : Nat → Nat) (i : Nat) (hi : i < 2) (x : Int64) (y : Int64) : Met l yX3_remainder wsX3_remainder ({ frames := 2, cells := 0, slots := 0, locals := 58 }) (pE ad [.ref (ad i), .long x, .long y]) (pQ (.long (fX3_remainder i x y))) 0 0 (fun _ => False) := by
  refine Met.ofW (cc := cX3_remainder) (maxL := 10) (ret := (some .long)) (by decide) rfl ?_
  intro p e s m args below meth c s₁ B hml hv
  obtain ⟨rfl, hE⟩ := hv
  have hx := B.exec
  have hb := B.bytes
  have hr := B.returns
  have hts := atoms_spec (ws := wsX3_remainder) B.pre
  have hown : s.vm.findClass RX3 = some m.cls := findClass_of_methodNamed B.named
  have hlocks := B.notSynchronized
  have hS : va_S (fun _ => False) s.heap s.heap [] := va_S.rf
  have hl := lv_entry ([.ref (ad i), .long x, .long y]) (n := 10) (Nat.le_of_ble_eq_true rfl)
  rw [lg_entry_eq]
  generalize (lg_sl ([.ref (ad i), .long x, .long y]) ++ List.replicate (10 - (lg_sl ([.ref (ad i), .long x, .long y])).length) Slot.unset).toArray = ls at hl ⊢
  have hl : lv_has ls 10 [(0, .ref (ad i)), (1, .long x), (3, .long y)] := hl
  refine lv_aload_n hx hb dX3_remainder_0 rfl (lv_at hl 0 rfl) ?_
  refine lv_lload_n hx hb dX3_remainder_1 rfl (lv_at hl 2 rfl) ?_
  refine cv_w (As := [.long y]) (rest := []) ⟨hx, hb, hml, hown, hts⟩ (mX3_significand l ad i hi y) (cwV 1 hts gX3_remainder_X3_significand rfl rfl rfl (by decide +kernel) ⟨Nat.le_of_ble_eq_true rfl, Nat.le_of_ble_eq_true rfl⟩) hE hS hi rfl rfl hl.1 (Nat.le_of_ble_eq_true rfl) dX3_remainder_2 (Nat.zero_le _) (Nat.zero_le _) ?_
  refine lv_lstore (lv' := [(5, .long (fX3_significand i y)), (0, .ref (ad i)), (1, .long x), (3, .long y)]) hx hb dX3_remainder_5 hl (by decide) rfl (fun ls hl => ?_)
  refine lv_lload hx hb dX3_remainder_7 (lv_at hl 0 rfl) ?_
  refine lv_lconst (v := 0) hx hb dX3_remainder_9 (by decide) ?_
  refine w_lc_eq (tgt := 28) hx hb dX3_remainder_10 dX3_remainder_11 (by decide) (fun c_1 => ?_) (fun c_1 => ?_)
  · refine lv_lload_n hx hb dX3_remainder_28 rfl (lv_at hl 2 rfl) ?_
    exact W.lret hx hb hr (fun t ht hW => ⟨(by unfold fX3_remainder; rw [if_pos c_1]), ht⟩) (fun q h => absurd h List.not_mem_nil) dX3_remainder_29
  · refine lv_aload_n hx hb dX3_remainder_14 rfl (lv_at hl 1 rfl) ?_
    refine lv_lload_n hx hb dX3_remainder_15 rfl (lv_at hl 2 rfl) ?_
    refine cv_w (As := [.long x]) (rest := []) ⟨hx, hb, hml, hown, hts⟩ (mX3_size l ad i hi x) (cwV 1 hts gX3_remainder_X3_size rfl rfl rfl (by decide +kernel) ⟨Nat.le_of_ble_eq_true rfl, Nat.le_of_ble_eq_true rfl⟩) hE hS hi rfl rfl hl.1 (Nat.le_of_ble_eq_true rfl) dX3_remainder_16 (Nat.zero_le _) (Nat.zero_le _) ?_
    refine lv_aload_n hx hb dX3_remainder_19 rfl (lv_at hl 1 rfl) ?_
    refine lv_lload_n hx hb dX3_remainder_20 rfl (lv_at hl 3 rfl) ?_
    refine cv_w (As := [.long y]) (rest := [.long (fX3_size i x)]) ⟨hx, hb, hml, hown, hts⟩ (mX3_size l ad i hi y) (cwV 1 hts gX3_remainder_X3_size rfl rfl rfl (by decide +kernel) ⟨Nat.le_of_ble_eq_true rfl, Nat.le_of_ble_eq_true rfl⟩) hE hS hi rfl rfl hl.1 (Nat.le_of_ble_eq_true rfl) dX3_remainder_21 (Nat.zero_le _) (Nat.zero_le _) ?_
    refine w_lc_ge (tgt := 30) hx hb dX3_remainder_24 dX3_remainder_25 (by decide) (fun c_2 => ?_) (fun c_2 => ?_)
    · refine lv_aload_n hx hb dX3_remainder_30 rfl (lv_at hl 1 rfl) ?_
      refine lv_lload_n hx hb dX3_remainder_31 rfl (lv_at hl 2 rfl) ?_
      refine cv_w (As := [.long x]) (rest := []) ⟨hx, hb, hml, hown, hts⟩ (mX3_significand l ad i hi x) (cwV 1 hts gX3_remainder_X3_significand rfl rfl rfl (by decide +kernel) ⟨Nat.le_of_ble_eq_true rfl, Nat.le_of_ble_eq_true rfl⟩) hE hS hi rfl rfl hl.1 (Nat.le_of_ble_eq_true rfl) dX3_remainder_32 (Nat.zero_le _) (Nat.zero_le _) ?_
      refine lv_lload hx hb dX3_remainder_35 (lv_at hl 0 rfl) ?_
      refine lv_lrem hx hb dX3_remainder_37 c_1 ?_
      refine lv_lstore (lv' := [(7, .long ((fX3_significand i x) - (fX3_significand i x) / (fX3_significand i y) * (fX3_significand i y))), (5, .long (fX3_significand i y)), (0, .ref (ad i)), (1, .long x), (3, .long y)]) hx hb dX3_remainder_38 hl (by decide) rfl (fun ls hl => ?_)
      refine lv_aload_n hx hb dX3_remainder_40 rfl (lv_at hl 2 rfl) ?_
      refine lv_lload_n hx hb dX3_remainder_41 rfl (lv_at hl 3 rfl) ?_
      refine cv_w (As := [.long x]) (rest := []) ⟨hx, hb, hml, hown, hts⟩ (mX3_exponent l ad i hi x) (cwV 1 hts gX3_remainder_X3_exponent rfl rfl rfl (by decide +kernel) ⟨Nat.le_of_ble_eq_true rfl, Nat.le_of_ble_eq_true rfl⟩) hE hS hi rfl rfl hl.1 (Nat.le_of_ble_eq_true rfl) dX3_remainder_42 (Nat.zero_le _) (Nat.zero_le _) ?_
      refine lv_aload_n hx hb dX3_remainder_45 rfl (lv_at hl 2 rfl) ?_
      refine lv_lload_n hx hb dX3_remainder_46 rfl (lv_at hl 4 rfl) ?_
      refine cv_w (As := [.long y]) (rest := [.int (fX3_exponent i x)]) ⟨hx, hb, hml, hown, hts⟩ (mX3_exponent l ad i hi y) (cwV 1 hts gX3_remainder_X3_exponent rfl rfl rfl (by decide +kernel) ⟨Nat.le_of_ble_eq_true rfl, Nat.le_of_ble_eq_true rfl⟩) hE hS hi rfl rfl hl.1 (Nat.le_of_ble_eq_true rfl) dX3_remainder_47 (Nat.zero_le _) (Nat.zero_le _) ?_
      refine lv_isub hx hb dX3_remainder_50 ?_
      refine lv_istore (lv' := [(9, .int ((fX3_exponent i x) - (fX3_exponent i y))), (7, .long ((fX3_significand i x) - (fX3_significand i x) / (fX3_significand i y) * (fX3_significand i y))), (5, .long (fX3_significand i y)), (0, .ref (ad i)), (1, .long x), (3, .long y)]) hx hb dX3_remainder_51 hl (by decide) rfl (fun ls hl => ?_)
      have key : ∀ (n : Nat) (sh : Int32) (left : Int64), sh.toInt ≤ (n : Int) → fX3_remainder i x y = fX3_nearest i (fX3_isNegative i x) (remL (fX3_significand i y) n sh left) (fX3_exponent i y) → ∀ ls : Array Slot, lv_has ls 10 [(0, .ref (ad i)), (1, .long x), (3, .long y), (5, .long (fX3_significand i y)), (7, .long left), (9, .int sh)] → W p l e (headSpec wsX3_remainder ({ frames := 2, cells := 0, slots := 0, locals := 58 })).room s m ([.ref (ad i), .long x, .long y] : List Value).toArray below meth c s.heap [] 0 0 (MQ below (pQ (.long (fX3_remainder i x y))) ([.ref (ad i), .long x, .long y] : List Value).toArray s 0 0 (fun _ => False)) (F0 m 53 ls []) := by
        intro n
        induction n with
        | zero =>
          intro sh left hn hf ls hl
          refine lv_iload hx hb dX3_remainder_53 (lv_at hl 5 rfl) ?_
          refine lv_if_le (tgt := 79) hx hb dX3_remainder_55 (by decide) (fun c_3 => ?_) (fun c_3 => ?_)
          · refine lv_aload_n hx hb dX3_remainder_79 rfl (lv_at hl 0 rfl) ?_
            refine lv_aload_n hx hb dX3_remainder_80 rfl (lv_at hl 0 rfl) ?_
            refine lv_lload_n hx hb dX3_remainder_81 rfl (lv_at hl 1 rfl) ?_
            refine cv_w (As := [.long x]) (rest := [.ref (ad i)]) ⟨hx, hb, hml, hown, hts⟩ (mX3_isNegative l ad i hi x) (cwV 1 hts gX3_remainder_X3_isNegative rfl rfl rfl (by decide +kernel) ⟨Nat.le_of_ble_eq_true rfl, Nat.le_of_ble_eq_true rfl⟩) hE hS hi rfl rfl hl.1 (Nat.le_of_ble_eq_true rfl) dX3_remainder_82 (Nat.zero_le _) (Nat.zero_le _) ?_
            refine lv_lload hx hb dX3_remainder_85 (lv_at hl 4 rfl) ?_
            refine lv_aload_n hx hb dX3_remainder_87 rfl (lv_at hl 0 rfl) ?_
            refine lv_lload_n hx hb dX3_remainder_88 rfl (lv_at hl 2 rfl) ?_
            refine cv_w (As := [.long y]) (rest := [.long left, .int (b2i (fX3_isNegative i x)), .ref (ad i)]) ⟨hx, hb, hml, hown, hts⟩ (mX3_exponent l ad i hi y) (cwV 1 hts gX3_remainder_X3_exponent rfl rfl rfl (by decide +kernel) ⟨Nat.le_of_ble_eq_true rfl, Nat.le_of_ble_eq_true rfl⟩) hE hS hi rfl rfl hl.1 (Nat.le_of_ble_eq_true rfl) dX3_remainder_89 (Nat.zero_le _) (Nat.zero_le _) ?_
            refine cv_w (As := [.int (b2i (fX3_isNegative i x)), .long left, .int (fX3_exponent i y)]) (rest := []) ⟨hx, hb, hml, hown, hts⟩ (mX3_nearest l ad i hi (fX3_isNegative i x) left (fX3_exponent i y)) (cwV 3 hts gX3_remainder_X3_nearest rfl rfl rfl (by decide +kernel) ⟨Nat.le_of_ble_eq_true rfl, Nat.le_of_ble_eq_true rfl⟩) hE hS hi rfl rfl hl.1 (Nat.le_of_ble_eq_true rfl) dX3_remainder_92 (Nat.zero_le _) (Nat.zero_le _) ?_
            exact W.lret hx hb hr (fun t ht hW => ⟨(congrArg (fun z => Outcome.returned (some (Value.long z))) (by rw [hf, remL_0 c_3])), ht⟩) (fun q h => absurd h List.not_mem_nil) dX3_remainder_95
          · exact absurd (by rw [Int32.le_iff_toInt_le]; exact hn) c_3
        | succ n ih =>
          intro sh left hn hf ls hl
          refine lv_iload hx hb dX3_remainder_53 (lv_at hl 5 rfl) ?_
          refine lv_if_le (tgt := 79) hx hb dX3_remainder_55 (by decide) (fun c_4 => ?_) (fun c_4 => ?_)
          · refine lv_aload_n hx hb dX3_remainder_79 rfl (lv_at hl 0 rfl) ?_
            refine lv_aload_n hx hb dX3_remainder_80 rfl (lv_at hl 0 rfl) ?_
            refine lv_lload_n hx hb dX3_remainder_81 rfl (lv_at hl 1 rfl) ?_
            refine cv_w (As := [.long x]) (rest := [.ref (ad i)]) ⟨hx, hb, hml, hown, hts⟩ (mX3_isNegative l ad i hi x) (cwV 1 hts gX3_remainder_X3_isNegative rfl rfl rfl (by decide +kernel) ⟨Nat.le_of_ble_eq_true rfl, Nat.le_of_ble_eq_true rfl⟩) hE hS hi rfl rfl hl.1 (Nat.le_of_ble_eq_true rfl) dX3_remainder_82 (Nat.zero_le _) (Nat.zero_le _) ?_
            refine lv_lload hx hb dX3_remainder_85 (lv_at hl 4 rfl) ?_
            refine lv_aload_n hx hb dX3_remainder_87 rfl (lv_at hl 0 rfl) ?_
            refine lv_lload_n hx hb dX3_remainder_88 rfl (lv_at hl 2 rfl) ?_
            refine cv_w (As := [.long y]) (rest := [.long left, .int (b2i (fX3_isNegative i x)), .ref (ad i)]) ⟨hx, hb, hml, hown, hts⟩ (mX3_exponent l ad i hi y) (cwV 1 hts gX3_remainder_X3_exponent rfl rfl rfl (by decide +kernel) ⟨Nat.le_of_ble_eq_true rfl, Nat.le_of_ble_eq_true rfl⟩) hE hS hi rfl rfl hl.1 (Nat.le_of_ble_eq_true rfl) dX3_remainder_89 (Nat.zero_le _) (Nat.zero_le _) ?_
            refine cv_w (As := [.int (b2i (fX3_isNegative i x)), .long left, .int (fX3_exponent i y)]) (rest := []) ⟨hx, hb, hml, hown, hts⟩ (mX3_nearest l ad i hi (fX3_isNegative i x) left (fX3_exponent i y)) (cwV 3 hts gX3_remainder_X3_nearest rfl rfl rfl (by decide +kernel) ⟨Nat.le_of_ble_eq_true rfl, Nat.le_of_ble_eq_true rfl⟩) hE hS hi rfl rfl hl.1 (Nat.le_of_ble_eq_true rfl) dX3_remainder_92 (Nat.zero_le _) (Nat.zero_le _) ?_
            exact W.lret hx hb hr (fun t ht hW => ⟨(congrArg (fun z => Outcome.returned (some (Value.long z))) (by rw [hf, remL_0 c_4])), ht⟩) (fun q h => absurd h List.not_mem_nil) dX3_remainder_95
          · refine lv_lload hx hb dX3_remainder_58 (lv_at hl 4 rfl) ?_
            refine lv_iload hx hb dX3_remainder_60 (lv_at hl 5 rfl) ?_
            refine lv_bipush (v := 10) hx hb dX3_remainder_62 (by decide) ?_
            refine va_mmin hx hb (hml.trans hl.1.symm) hown (hts (.methodLink RX3 100 Lib.Math.min.name) (List.mem_of_getElem? (i := 1) rfl)) (hts (.static Lib.Math.min.name) (List.mem_of_getElem? (i := 2) rfl)) (hts (.initialized "java/lang/Math") (List.mem_of_getElem? (i := 3) rfl)) (hts (.code Lib.Math.min.name Lib.Math.min.code 2 (some .int)) (List.mem_of_getElem? (i := 4) rfl)) (Nat.le_of_ble_eq_true rfl) (Nat.le_of_ble_eq_true rfl) (Nat.zero_le _) (Nat.zero_le _) dX3_remainder_64 ?_
            refine lv_lshl hx hb dX3_remainder_67 rfl ?_
            refine lv_lload hx hb dX3_remainder_68 (lv_at hl 3 rfl) ?_
            refine lv_lrem hx hb dX3_remainder_70 c_1 ?_
            refine lv_lstore (lv' := [(7, .long ((left <<< ((if (10 : Int32) < sh then (10 : Int32) else sh).toInt64 &&& 63)) - (left <<< ((if (10 : Int32) < sh then (10 : Int32) else sh).toInt64 &&& 63)) / (fX3_significand i y) * (fX3_significand i y))), (0, .ref (ad i)), (1, .long x), (3, .long y), (5, .long (fX3_significand i y)), (9, .int sh)]) hx hb dX3_remainder_71 hl (by decide) rfl (fun ls hl => ?_)
            refine lv_iinc (lv' := [(9, .int (sh + (-10))), (7, .long ((left <<< ((if (10 : Int32) < sh then (10 : Int32) else sh).toInt64 &&& 63)) - (left <<< ((if (10 : Int32) < sh then (10 : Int32) else sh).toInt64 &&& 63)) / (fX3_significand i y) * (fX3_significand i y))), (0, .ref (ad i)), (1, .long x), (3, .long y), (5, .long (fX3_significand i y))]) hx hb dX3_remainder_73 hl (k := 5) rfl rfl (by decide) rfl (fun ls hl => ?_)
            refine lv_goto (tgt := 53) hx hb dX3_remainder_76 (by decide) ?_
            exact ih _ _ (rem_dec c_4 hn) (by rw [hf, remL_s c_4]) ls (lv_sub hl [2, 3, 4, 5, 1, 0] rfl)
      exact key ((fX3_exponent i x) - (fX3_exponent i y)).toNatClampNeg _ _ (Int.self_le_toNat _) (by unfold fX3_remainder; rw [if_neg c_1, if_pos c_2]) ls (lv_sub hl [3, 4, 5, 2, 1, 0] rfl)
    · refine lv_lload_n hx hb dX3_remainder_28 rfl (lv_at hl 2 rfl) ?_
      exact W.lret hx hb hr (fun t ht hW => ⟨(by unfold fX3_remainder; rw [if_neg c_1, if_neg c_2]), ht⟩) (fun q h => absurd h List.not_mem_nil) dX3_remainder_29
def fX3_added (i : Nat) (a : Int64) (b : Int64) : Int64 := if (fX3_isEndless i a) = true then a else (if (fX3_isEndless i b) = true then b else (if (fX3_size i a) < (fX3_size i b) then (if (fX3_isNegative i b) = (fX3_isNegative i a) then (fX3_nearest i (fX3_isNegative i b) (((fX3_significand i b) <<< ((3 : Int32).toInt64 &&& 63)) + (fX3_shiftedWithTrace ((fX3_significand i a) <<< ((3 : Int32).toInt64 &&& 63)) ((fX3_exponent i b) - (fX3_exponent i a)))) ((fX3_exponent i b) - (3 : Int32))) else (if (fX3_isNegative i b) = true then (if ((fX3_significand i b) <<< ((3 : Int32).toInt64 &&& 63)) = (fX3_shiftedWithTrace ((fX3_significand i a) <<< ((3 : Int32).toInt64 &&& 63)) ((fX3_exponent i b) - (fX3_exponent i a))) then (fX3_nearest i false (((fX3_significand i b) <<< ((3 : Int32).toInt64 &&& 63)) - (fX3_shiftedWithTrace ((fX3_significand i a) <<< ((3 : Int32).toInt64 &&& 63)) ((fX3_exponent i b) - (fX3_exponent i a)))) ((fX3_exponent i b) - (3 : Int32))) else (fX3_nearest i true (((fX3_significand i b) <<< ((3 : Int32).toInt64 &&& 63)) - (fX3_shiftedWithTrace ((fX3_significand i a) <<< ((3 : Int32).toInt64 &&& 63)) ((fX3_exponent i b) - (fX3_exponent i a)))) ((fX3_exponent i b) - (3 : Int32)))) else (fX3_nearest i false (((fX3_significand i b) <<< ((3 : Int32).toInt64 &&& 63)) - (fX3_shiftedWithTrace ((fX3_significand i a) <<< ((3 : Int32).toInt64 &&& 63)) ((fX3_exponent i b) - (fX3_exponent i a)))) ((fX3_exponent i b) - (3 : Int32))))) else (if (fX3_isNegative i a) = (fX3_isNegative i b) then (fX3_nearest i (fX3_isNegative i a) (((fX3_significand i a) <<< ((3 : Int32).toInt64 &&& 63)) + (fX3_shiftedWithTrace ((fX3_significand i b) <<< ((3 : Int32).toInt64 &&& 63)) ((fX3_exponent i a) - (fX3_exponent i b)))) ((fX3_exponent i a) - (3 : Int32))) else (if (fX3_isNegative i a) = true then (if ((fX3_significand i a) <<< ((3 : Int32).toInt64 &&& 63)) = (fX3_shiftedWithTrace ((fX3_significand i b) <<< ((3 : Int32).toInt64 &&& 63)) ((fX3_exponent i a) - (fX3_exponent i b))) then (fX3_nearest i false (((fX3_significand i a) <<< ((3 : Int32).toInt64 &&& 63)) - (fX3_shiftedWithTrace ((fX3_significand i b) <<< ((3 : Int32).toInt64 &&& 63)) ((fX3_exponent i a) - (fX3_exponent i b)))) ((fX3_exponent i a) - (3 : Int32))) else (fX3_nearest i true (((fX3_significand i a) <<< ((3 : Int32).toInt64 &&& 63)) - (fX3_shiftedWithTrace ((fX3_significand i b) <<< ((3 : Int32).toInt64 &&& 63)) ((fX3_exponent i a) - (fX3_exponent i b)))) ((fX3_exponent i a) - (3 : Int32)))) else (fX3_nearest i false (((fX3_significand i a) <<< ((3 : Int32).toInt64 &&& 63)) - (fX3_shiftedWithTrace ((fX3_significand i b) <<< ((3 : Int32).toInt64 &&& 63)) ((fX3_exponent i a) - (fX3_exponent i b)))) ((fX3_exponent i a) - (3 : Int32)))))))
set_option maxHeartbeats 4000000 in
set_option maxRecDepth 100000 in
theorem mX3_added (l : Launch) (ad : Nat → Nat) (i : Nat) (hi : i < 2) (a : Int64) (b : Int64) : Met l yX3_added wsX3_added ({ frames := 2, cells := 0, slots := 0, locals := 58 }) (pE ad [.ref (ad i), .long a, .long b]) (pQ (.long (fX3_added i a b))) 0 0 (fun _ => False) := by
  refine Met.ofW (cc := cX3_added) (maxL := 14) (ret := (some .long)) (by decide) rfl ?_
  intro p e s m args below meth c s₁ B hml hv
  obtain ⟨rfl, hE⟩ := hv
  have hx := B.exec
  have hb := B.bytes
  have hr := B.returns
  have hts := atoms_spec (ws := wsX3_added) B.pre
  have hown : s.vm.findClass RX3 = some m.cls := findClass_of_methodNamed B.named
  have hlocks := B.notSynchronized
  have hS : va_S (fun _ => False) s.heap s.heap [] := va_S.rf
  have hl := lv_entry ([.ref (ad i), .long a, .long b]) (n := 14) (Nat.le_of_ble_eq_true rfl)
  rw [lg_entry_eq]
  generalize (lg_sl ([.ref (ad i), .long a, .long b]) ++ List.replicate (14 - (lg_sl ([.ref (ad i), .long a, .long b])).length) Slot.unset).toArray = ls at hl ⊢
  have hl : lv_has ls 14 [(0, .ref (ad i)), (1, .long a), (3, .long b)] := hl
  refine lv_aload_n hx hb dX3_added_0 rfl (lv_at hl 0 rfl) ?_
  refine lv_lload_n hx hb dX3_added_1 rfl (lv_at hl 1 rfl) ?_
  refine cv_w (As := [.long a]) (rest := []) ⟨hx, hb, hml, hown, hts⟩ (mX3_isEndless l ad i hi a) (cwV 1 hts gX3_added_X3_isEndless rfl rfl rfl (by decide +kernel) ⟨Nat.le_of_ble_eq_true rfl, Nat.le_of_ble_eq_true rfl⟩) hE hS hi rfl rfl hl.1 (Nat.le_of_ble_eq_true rfl) dX3_added_2 (Nat.zero_le _) (Nat.zero_le _) ?_
  refine w_bne (tgt := 16) hx hb dX3_added_5 (by decide) (fun c_1 => ?_) (fun c_1 => ?_)
  · refine lv_aload_n hx hb dX3_added_16 rfl (lv_at hl 0 rfl) ?_
    refine lv_lload_n hx hb dX3_added_17 rfl (lv_at hl 1 rfl) ?_
    refine cv_w (As := [.long a]) (rest := []) ⟨hx, hb, hml, hown, hts⟩ (mX3_isEndless l ad i hi a) (cwV 1 hts gX3_added_X3_isEndless rfl rfl rfl (by decide +kernel) ⟨Nat.le_of_ble_eq_true rfl, Nat.le_of_ble_eq_true rfl⟩) hE hS hi rfl rfl hl.1 (Nat.le_of_ble_eq_true rfl) dX3_added_18 (Nat.zero_le _) (Nat.zero_le _) ?_
    refine w_beq (tgt := 28) hx hb dX3_added_21 (by decide) (fun c_2 => ?_) (fun c_2 => ?_)
    · exact absurd c_1 c_2
    refine lv_lload_n hx hb dX3_added_24 rfl (lv_at hl 1 rfl) ?_
    refine lv_goto (tgt := 29) hx hb dX3_added_25 (by decide) ?_
    exact W.lret hx hb hr (fun t ht hW => ⟨(by unfold fX3_added; rw [if_pos c_1]), ht⟩) (fun q h => absurd h List.not_mem_nil) dX3_added_29
  · refine lv_aload_n hx hb dX3_added_8 rfl (lv_at hl 0 rfl) ?_
    refine lv_lload_n hx hb dX3_added_9 rfl (lv_at hl 2 rfl) ?_
    refine cv_w (As := [.long b]) (rest := []) ⟨hx, hb, hml, hown, hts⟩ (mX3_isEndless l ad i hi b) (cwV 1 hts gX3_added_X3_isEndless rfl rfl rfl (by decide +kernel) ⟨Nat.le_of_ble_eq_true rfl, Nat.le_of_ble_eq_true rfl⟩) hE hS hi rfl rfl hl.1 (Nat.le_of_ble_eq_true rfl) dX3_added_10 (Nat.zero_le _) (Nat.zero_le _) ?_
    refine w_beq (tgt := 30) hx hb dX3_added_13 (by decide) (fun c_3 => ?_) (fun c_3 => ?_)
    · refine lv_aload_n hx hb dX3_added_30 rfl (lv_at hl 0 rfl) ?_
      refine lv_lload_n hx hb dX3_added_31 rfl (lv_at hl 1 rfl) ?_
      refine cv_w (As := [.long a]) (rest := []) ⟨hx, hb, hml, hown, hts⟩ (mX3_size l ad i hi a) (cwV 1 hts gX3_added_X3_size rfl rfl rfl (by decide +kernel) ⟨Nat.le_of_ble_eq_true rfl, Nat.le_of_ble_eq_true rfl⟩) hE hS hi rfl rfl hl.1 (Nat.le_of_ble_eq_true rfl) dX3_added_32 (Nat.zero_le _) (Nat.zero_le _) ?_
      refine lv_aload_n hx hb dX3_added_35 rfl (lv_at hl 0 rfl) ?_
      refine lv_lload_n hx hb dX3_added_36 rfl (lv_at hl 2 rfl) ?_
      refine cv_w (As := [.long b]) (rest := [.long (fX3_size i a)]) ⟨hx, hb, hml, hown, hts⟩ (mX3_size l ad i hi b) (cwV 1 hts gX3_added_X3_size rfl rfl rfl (by decide +kernel) ⟨Nat.le_of_ble_eq_true rfl, Nat.le_of_ble_eq_true rfl⟩) hE hS hi rfl rfl hl.1 (Nat.le_of_ble_eq_true rfl) dX3_added_37 (Nat.zero_le _) (Nat.zero_le _) ?_
      refine w_lc_lt (tgt := 48) hx hb dX3_added_40 dX3_added_41 (by decide) (fun c_4 => ?_) (fun c_4 => ?_)
      · refine lv_lload_n hx hb dX3_added_48 rfl (lv_at hl 2 rfl) ?_
        refine lv_lstore (lv' := [(5, .long b), (0, .ref (ad i)), (1, .long a), (3, .long b)]) hx hb dX3_added_49 hl (by decide) rfl (fun ls hl => ?_)
        refine lv_aload_n hx hb dX3_added_51 rfl (lv_at hl 1 rfl) ?_
        refine lv_lload_n hx hb dX3_added_52 rfl (lv_at hl 2 rfl) ?_
        refine cv_w (As := [.long a]) (rest := []) ⟨hx, hb, hml, hown, hts⟩ (mX3_size l ad i hi a) (cwV 1 hts gX3_added_X3_size rfl rfl rfl (by decide +kernel) ⟨Nat.le_of_ble_eq_true rfl, Nat.le_of_ble_eq_true rfl⟩) hE hS hi rfl rfl hl.1 (Nat.le_of_ble_eq_true rfl) dX3_added_53 (Nat.zero_le _) (Nat.zero_le _) ?_
        refine lv_aload_n hx hb dX3_added_56 rfl (lv_at hl 1 rfl) ?_
        refine lv_lload_n hx hb dX3_added_57 rfl (lv_at hl 3 rfl) ?_
        refine cv_w (As := [.long b]) (rest := [.long (fX3_size i a)]) ⟨hx, hb, hml, hown, hts⟩ (mX3_size l ad i hi b) (cwV 1 hts gX3_added_X3_size rfl rfl rfl (by decide +kernel) ⟨Nat.le_of_ble_eq_true rfl, Nat.le_of_ble_eq_true rfl⟩) hE hS hi rfl rfl hl.1 (Nat.le_of_ble_eq_true rfl) dX3_added_58 (Nat.zero_le _) (Nat.zero_le _) ?_
        refine w_lc_lt (tgt := 69) hx hb dX3_added_61 dX3_added_62 (by decide) (fun c_5 => ?_) (fun c_5 => ?_)
        rotate_left
        · exact absurd c_4 c_5
        refine lv_lload_n hx hb dX3_added_69 rfl (lv_at hl 2 rfl) ?_
        refine lv_lstore (lv' := [(7, .long a), (5, .long b), (0, .ref (ad i)), (1, .long a), (3, .long b)]) hx hb dX3_added_70 hl (by decide) rfl (fun ls hl => ?_)
        refine lv_aload_n hx hb dX3_added_72 rfl (lv_at hl 2 rfl) ?_
        refine lv_lload hx hb dX3_added_73 (lv_at hl 1 rfl) ?_
        refine cv_w (As := [.long b]) (rest := []) ⟨hx, hb, hml, hown, hts⟩ (mX3_exponent l ad i hi b) (cwV 1 hts gX3_added_X3_exponent rfl rfl rfl (by decide +kernel) ⟨Nat.le_of_ble_eq_true rfl, Nat.le_of_ble_eq_true rfl⟩) hE hS hi rfl rfl hl.1 (Nat.le_of_ble_eq_true rfl) dX3_added_75 (Nat.zero_le _) (Nat.zero_le _) ?_
        refine lv_istore (lv' := [(9, .int (fX3_exponent i b)), (7, .long a), (5, .long b), (0, .ref (ad i)), (1, .long a), (3, .long b)]) hx hb dX3_added_78 hl (by decide) rfl (fun ls hl => ?_)
        refine lv_aload_n hx hb dX3_added_80 rfl (lv_at hl 3 rfl) ?_
        refine lv_lload hx hb dX3_added_81 (lv_at hl 2 rfl) ?_
        refine cv_w (As := [.long b]) (rest := []) ⟨hx, hb, hml, hown, hts⟩ (mX3_significand l ad i hi b) (cwV 1 hts gX3_added_X3_significand rfl rfl rfl (by decide +kernel) ⟨Nat.le_of_ble_eq_true rfl, Nat.le_of_ble_eq_true rfl⟩) hE hS hi rfl rfl hl.1 (Nat.le_of_ble_eq_true rfl) dX3_added_83 (Nat.zero_le _) (Nat.zero_le _) ?_
        refine lv_iconst (v := 3) hx hb dX3_added_86 (by decide) ?_
        refine lv_lshl hx hb dX3_added_87 rfl ?_
        refine lv_lstore (lv' := [(10, .long ((fX3_significand i b) <<< ((3 : Int32).toInt64 &&& 63))), (9, .int (fX3_exponent i b)), (7, .long a), (5, .long b), (0, .ref (ad i)), (1, .long a), (3, .long b)]) hx hb dX3_added_88 hl (by decide) rfl (fun ls hl => ?_)
        refine lv_aload_n hx hb dX3_added_90 rfl (lv_at hl 4 rfl) ?_
        refine lv_lload hx hb dX3_added_91 (lv_at hl 2 rfl) ?_
        refine cv_w (As := [.long a]) (rest := []) ⟨hx, hb, hml, hown, hts⟩ (mX3_significand l ad i hi a) (cwV 1 hts gX3_added_X3_significand rfl rfl rfl (by decide +kernel) ⟨Nat.le_of_ble_eq_true rfl, Nat.le_of_ble_eq_true rfl⟩) hE hS hi rfl rfl hl.1 (Nat.le_of_ble_eq_true rfl) dX3_added_93 (Nat.zero_le _) (Nat.zero_le _) ?_
        refine lv_iconst (v := 3) hx hb dX3_added_96 (by decide) ?_
        refine lv_lshl hx hb dX3_added_97 rfl ?_
        refine lv_iload hx hb dX3_added_98 (lv_at hl 1 rfl) ?_
        refine lv_aload_n hx hb dX3_added_100 rfl (lv_at hl 4 rfl) ?_
        refine lv_lload hx hb dX3_added_101 (lv_at hl 2 rfl) ?_
        refine cv_w (As := [.long a]) (rest := [.int (fX3_exponent i b), .long ((fX3_significand i a) <<< ((3 : Int32).toInt64 &&& 63))]) ⟨hx, hb, hml, hown, hts⟩ (mX3_exponent l ad i hi a) (cwV 1 hts gX3_added_X3_exponent rfl rfl rfl (by decide +kernel) ⟨Nat.le_of_ble_eq_true rfl, Nat.le_of_ble_eq_true rfl⟩) hE hS hi rfl rfl hl.1 (Nat.le_of_ble_eq_true rfl) dX3_added_103 (Nat.zero_le _) (Nat.zero_le _) ?_
        refine lv_isub hx hb dX3_added_106 ?_
        refine cs_0 (As := [.long ((fX3_significand i a) <<< ((3 : Int32).toInt64 &&& 63)), .int ((fX3_exponent i b) - (fX3_exponent i a))]) (rest := []) ⟨hx, hb, hml, hown, hts⟩ (mX3_shiftedWithTrace l ((fX3_significand i a) <<< ((3 : Int32).toInt64 &&& 63)) ((fX3_exponent i b) - (fX3_exponent i a))) (va_cwS 2 hts gX3_added_X3_shiftedWithTrace rfl rfl rfl (by decide +kernel) ⟨Nat.le_of_ble_eq_true rfl, Nat.le_of_ble_eq_true rfl⟩) rfl rfl hl.1 (Nat.le_of_ble_eq_true rfl) dX3_added_107 (Nat.zero_le _) (Nat.zero_le _) ?_
        refine lv_lstore (lv' := [(12, .long (fX3_shiftedWithTrace ((fX3_significand i a) <<< ((3 : Int32).toInt64 &&& 63)) ((fX3_exponent i b) - (fX3_exponent i a)))), (10, .long ((fX3_significand i b) <<< ((3 : Int32).toInt64 &&& 63))), (9, .int (fX3_exponent i b)), (7, .long a), (5, .long b), (0, .ref (ad i)), (1, .long a), (3, .long b)]) hx hb dX3_added_110 hl (by decide) rfl (fun ls hl => ?_)
        refine lv_aload_n hx hb dX3_added_112 rfl (lv_at hl 5 rfl) ?_
        refine lv_lload hx hb dX3_added_113 (lv_at hl 4 rfl) ?_
        refine cv_w (As := [.long b]) (rest := []) ⟨hx, hb, hml, hown, hts⟩ (mX3_isNegative l ad i hi b) (cwV 1 hts gX3_added_X3_isNegative rfl rfl rfl (by decide +kernel) ⟨Nat.le_of_ble_eq_true rfl, Nat.le_of_ble_eq_true rfl⟩) hE hS hi rfl rfl hl.1 (Nat.le_of_ble_eq_true rfl) dX3_added_115 (Nat.zero_le _) (Nat.zero_le _) ?_
        refine lv_aload_n hx hb dX3_added_118 rfl (lv_at hl 5 rfl) ?_
        refine lv_lload hx hb dX3_added_119 (lv_at hl 3 rfl) ?_
        refine cv_w (As := [.long a]) (rest := [.int (b2i (fX3_isNegative i b))]) ⟨hx, hb, hml, hown, hts⟩ (mX3_isNegative l ad i hi a) (cwV 1 hts gX3_added_X3_isNegative rfl rfl rfl (by decide +kernel) ⟨Nat.le_of_ble_eq_true rfl, Nat.le_of_ble_eq_true rfl⟩) hE hS hi rfl rfl hl.1 (Nat.le_of_ble_eq_true rfl) dX3_added_121 (Nat.zero_le _) (Nat.zero_le _) ?_
        refine w_zne (tgt := 147) hx hb dX3_added_124 (by decide) (fun c_6 => ?_) (fun c_6 => ?_)
        · refine lv_aload_n hx hb dX3_added_147 rfl (lv_at hl 5 rfl) ?_
          refine lv_aload_n hx hb dX3_added_148 rfl (lv_at hl 5 rfl) ?_
          refine lv_lload hx hb dX3_added_149 (lv_at hl 4 rfl) ?_
          refine cv_w (As := [.long b]) (rest := [.ref (ad i)]) ⟨hx, hb, hml, hown, hts⟩ (mX3_isNegative l ad i hi b) (cwV 1 hts gX3_added_X3_isNegative rfl rfl rfl (by decide +kernel) ⟨Nat.le_of_ble_eq_true rfl, Nat.le_of_ble_eq_true rfl⟩) hE hS hi rfl rfl hl.1 (Nat.le_of_ble_eq_true rfl) dX3_added_151 (Nat.zero_le _) (Nat.zero_le _) ?_
          refine w_beq (tgt := 169) hx hb dX3_added_154 (by decide) (fun c_7 => ?_) (fun c_7 => ?_)
          · refine lv_iconst (v := 0) hx hb dX3_added_169 (by decide) ?_
            refine lv_lload hx hb dX3_added_170 (lv_at hl 1 rfl) ?_
            refine lv_lload hx hb dX3_added_172 (lv_at hl 0 rfl) ?_
            refine lv_lsub hx hb dX3_added_174 ?_
            refine lv_iload hx hb dX3_added_175 (lv_at hl 2 rfl) ?_
            refine lv_iconst (v := 3) hx hb dX3_added_177 (by decide) ?_
            refine lv_isub hx hb dX3_added_178 ?_
            refine cv_w (As := [.int (b2i false), .long (((fX3_significand i b) <<< ((3 : Int32).toInt64 &&& 63)) - (fX3_shiftedWithTrace ((fX3_significand i a) <<< ((3 : Int32).toInt64 &&& 63)) ((fX3_exponent i b) - (fX3_exponent i a)))), .int ((fX3_exponent i b) - (3 : Int32))]) (rest := []) ⟨hx, hb, hml, hown, hts⟩ (mX3_nearest l ad i hi false (((fX3_significand i b) <<< ((3 : Int32).toInt64 &&& 63)) - (fX3_shiftedWithTrace ((fX3_significand i a) <<< ((3 : Int32).toInt64 &&& 63)) ((fX3_exponent i b) - (fX3_exponent i a)))) ((fX3_exponent i b) - (3 : Int32))) (cwV 3 hts gX3_added_X3_nearest rfl rfl rfl (by decide +kernel) ⟨Nat.le_of_ble_eq_true rfl, Nat.le_of_ble_eq_true rfl⟩) hE hS hi rfl rfl hl.1 (Nat.le_of_ble_eq_true rfl) dX3_added_179 (Nat.zero_le _) (Nat.zero_le _) ?_
            exact W.lret hx hb hr (fun t ht hW => ⟨(by unfold fX3_added; rw [if_neg c_1, if_neg c_3, if_pos c_4, if_neg c_6, if_neg c_7]), ht⟩) (fun q h => absurd h List.not_mem_nil) dX3_added_182
          · refine lv_lload hx hb dX3_added_157 (lv_at hl 1 rfl) ?_
            refine lv_lload hx hb dX3_added_159 (lv_at hl 0 rfl) ?_
            refine w_lc_eq (tgt := 169) hx hb dX3_added_161 dX3_added_162 (by decide) (fun c_8 => ?_) (fun c_8 => ?_)
            · refine lv_iconst (v := 0) hx hb dX3_added_169 (by decide) ?_
              refine lv_lload hx hb dX3_added_170 (lv_at hl 1 rfl) ?_
              refine lv_lload hx hb dX3_added_172 (lv_at hl 0 rfl) ?_
              refine lv_lsub hx hb dX3_added_174 ?_
              refine lv_iload hx hb dX3_added_175 (lv_at hl 2 rfl) ?_
              refine lv_iconst (v := 3) hx hb dX3_added_177 (by decide) ?_
              refine lv_isub hx hb dX3_added_178 ?_
              refine cv_w (As := [.int (b2i false), .long (((fX3_significand i b) <<< ((3 : Int32).toInt64 &&& 63)) - (fX3_shiftedWithTrace ((fX3_significand i a) <<< ((3 : Int32).toInt64 &&& 63)) ((fX3_exponent i b) - (fX3_exponent i a)))), .int ((fX3_exponent i b) - (3 : Int32))]) (rest := []) ⟨hx, hb, hml, hown, hts⟩ (mX3_nearest l ad i hi false (((fX3_significand i b) <<< ((3 : Int32).toInt64 &&& 63)) - (fX3_shiftedWithTrace ((fX3_significand i a) <<< ((3 : Int32).toInt64 &&& 63)) ((fX3_exponent i b) - (fX3_exponent i a)))) ((fX3_exponent i b) - (3 : Int32))) (cwV 3 hts gX3_added_X3_nearest rfl rfl rfl (by decide +kernel) ⟨Nat.le_of_ble_eq_true rfl, Nat.le_of_ble_eq_true rfl⟩) hE hS hi rfl rfl hl.1 (Nat.le_of_ble_eq_true rfl) dX3_added_179 (Nat.zero_le _) (Nat.zero_le _) ?_
              exact W.lret hx hb hr (fun t ht hW => ⟨(by unfold fX3_added; rw [if_neg c_1, if_neg c_3, if_pos c_4, if_neg c_6, if_pos c_7, if_pos c_8]), ht⟩) (fun q h => absurd h List.not_mem_nil) dX3_added_182
            · refine lv_iconst (v := 1) hx hb dX3_added_165 (by decide) ?_
              refine lv_goto (tgt := 170) hx hb dX3_added_166 (by decide) ?_
              refine lv_lload hx hb dX3_added_170 (lv_at hl 1 rfl) ?_
              refine lv_lload hx hb dX3_added_172 (lv_at hl 0 rfl) ?_
              refine lv_lsub hx hb dX3_added_174 ?_
              refine lv_iload hx hb dX3_added_175 (lv_at hl 2 rfl) ?_
              refine lv_iconst (v := 3) hx hb dX3_added_177 (by decide) ?_
              refine lv_isub hx hb dX3_added_178 ?_
              refine cv_w (As := [.int (b2i true), .long (((fX3_significand i b) <<< ((3 : Int32).toInt64 &&& 63)) - (fX3_shiftedWithTrace ((fX3_significand i a) <<< ((3 : Int32).toInt64 &&& 63)) ((fX3_exponent i b) - (fX3_exponent i a)))), .int ((fX3_exponent i b) - (3 : Int32))]) (rest := []) ⟨hx, hb, hml, hown, hts⟩ (mX3_nearest l ad i hi true (((fX3_significand i b) <<< ((3 : Int32).toInt64 &&& 63)) - (fX3_shiftedWithTrace ((fX3_significand i a) <<< ((3 : Int32).toInt64 &&& 63)) ((fX3_exponent i b) - (fX3_exponent i a)))) ((fX3_exponent i b) - (3 : Int32))) (cwV 3 hts gX3_added_X3_nearest rfl rfl rfl (by decide +kernel) ⟨Nat.le_of_ble_eq_true rfl, Nat.le_of_ble_eq_true rfl⟩) hE hS hi rfl rfl hl.1 (Nat.le_of_ble_eq_true rfl) dX3_added_179 (Nat.zero_le _) (Nat.zero_le _) ?_
              exact W.lret hx hb hr (fun t ht hW => ⟨(by unfold fX3_added; rw [if_neg c_1, if_neg c_3, if_pos c_4, if_neg c_6, if_pos c_7, if_neg c_8]), ht⟩) (fun q h => absurd h List.not_mem_nil) dX3_added_182
        · refine lv_aload_n hx hb dX3_added_127 rfl (lv_at hl 5 rfl) ?_
          refine lv_aload_n hx hb dX3_added_128 rfl (lv_at hl 5 rfl) ?_
          refine lv_lload hx hb dX3_added_129 (lv_at hl 4 rfl) ?_
          refine cv_w (As := [.long b]) (rest := [.ref (ad i)]) ⟨hx, hb, hml, hown, hts⟩ (mX3_isNegative l ad i hi b) (cwV 1 hts gX3_added_X3_isNegative rfl rfl rfl (by decide +kernel) ⟨Nat.le_of_ble_eq_true rfl, Nat.le_of_ble_eq_true rfl⟩) hE hS hi rfl rfl hl.1 (Nat.le_of_ble_eq_true rfl) dX3_added_131 (Nat.zero_le _) (Nat.zero_le _) ?_
          refine lv_lload hx hb dX3_added_134 (lv_at hl 1 rfl) ?_
          refine lv_lload hx hb dX3_added_136 (lv_at hl 0 rfl) ?_
          refine lv_ladd hx hb dX3_added_138 ?_
          refine lv_iload hx hb dX3_added_139 (lv_at hl 2 rfl) ?_
          refine lv_iconst (v := 3) hx hb dX3_added_141 (by decide) ?_
          refine lv_isub hx hb dX3_added_142 ?_
          refine cv_w (As := [.int (b2i (fX3_isNegative i b)), .long (((fX3_significand i b) <<< ((3 : Int32).toInt64 &&& 63)) + (fX3_shiftedWithTrace ((fX3_significand i a) <<< ((3 : Int32).toInt64 &&& 63)) ((fX3_exponent i b) - (fX3_exponent i a)))), .int ((fX3_exponent i b) - (3 : Int32))]) (rest := []) ⟨hx, hb, hml, hown, hts⟩ (mX3_nearest l ad i hi (fX3_isNegative i b) (((fX3_significand i b) <<< ((3 : Int32).toInt64 &&& 63)) + (fX3_shiftedWithTrace ((fX3_significand i a) <<< ((3 : Int32).toInt64 &&& 63)) ((fX3_exponent i b) - (fX3_exponent i a)))) ((fX3_exponent i b) - (3 : Int32))) (cwV 3 hts gX3_added_X3_nearest rfl rfl rfl (by decide +kernel) ⟨Nat.le_of_ble_eq_true rfl, Nat.le_of_ble_eq_true rfl⟩) hE hS hi rfl rfl hl.1 (Nat.le_of_ble_eq_true rfl) dX3_added_143 (Nat.zero_le _) (Nat.zero_le _) ?_
          exact W.lret hx hb hr (fun t ht hW => ⟨(by unfold fX3_added; rw [if_neg c_1, if_neg c_3, if_pos c_4, if_pos c_6]), ht⟩) (fun q h => absurd h List.not_mem_nil) dX3_added_146
      · refine lv_lload_n hx hb dX3_added_44 rfl (lv_at hl 1 rfl) ?_
        refine lv_goto (tgt := 49) hx hb dX3_added_45 (by decide) ?_
        refine lv_lstore (lv' := [(5, .long a), (0, .ref (ad i)), (1, .long a), (3, .long b)]) hx hb dX3_added_49 hl (by decide) rfl (fun ls hl => ?_)
        refine lv_aload_n hx hb dX3_added_51 rfl (lv_at hl 1 rfl) ?_
        refine lv_lload_n hx hb dX3_added_52 rfl (lv_at hl 2 rfl) ?_
        refine cv_w (As := [.long a]) (rest := []) ⟨hx, hb, hml, hown, hts⟩ (mX3_size l ad i hi a) (cwV 1 hts gX3_added_X3_size rfl rfl rfl (by decide +kernel) ⟨Nat.le_of_ble_eq_true rfl, Nat.le_of_ble_eq_true rfl⟩) hE hS hi rfl rfl hl.1 (Nat.le_of_ble_eq_true rfl) dX3_added_53 (Nat.zero_le _) (Nat.zero_le _) ?_
        refine lv_aload_n hx hb dX3_added_56 rfl (lv_at hl 1 rfl) ?_
        refine lv_lload_n hx hb dX3_added_57 rfl (lv_at hl 3 rfl) ?_
        refine cv_w (As := [.long b]) (rest := [.long (fX3_size i a)]) ⟨hx, hb, hml, hown, hts⟩ (mX3_size l ad i hi b) (cwV 1 hts gX3_added_X3_size rfl rfl rfl (by decide +kernel) ⟨Nat.le_of_ble_eq_true rfl, Nat.le_of_ble_eq_true rfl⟩) hE hS hi rfl rfl hl.1 (Nat.le_of_ble_eq_true rfl) dX3_added_58 (Nat.zero_le _) (Nat.zero_le _) ?_
        refine w_lc_lt (tgt := 69) hx hb dX3_added_61 dX3_added_62 (by decide) (fun c_9 => ?_) (fun c_9 => ?_)
        · exact absurd c_9 c_4
        refine lv_lload_n hx hb dX3_added_65 rfl (lv_at hl 3 rfl) ?_
        refine lv_goto (tgt := 70) hx hb dX3_added_66 (by decide) ?_
        refine lv_lstore (lv' := [(7, .long b), (5, .long a), (0, .ref (ad i)), (1, .long a), (3, .long b)]) hx hb dX3_added_70 hl (by decide) rfl (fun ls hl => ?_)
        refine lv_aload_n hx hb dX3_added_72 rfl (lv_at hl 2 rfl) ?_
        refine lv_lload hx hb dX3_added_73 (lv_at hl 1 rfl) ?_
        refine cv_w (As := [.long a]) (rest := []) ⟨hx, hb, hml, hown, hts⟩ (mX3_exponent l ad i hi a) (cwV 1 hts gX3_added_X3_exponent rfl rfl rfl (by decide +kernel) ⟨Nat.le_of_ble_eq_true rfl, Nat.le_of_ble_eq_true rfl⟩) hE hS hi rfl rfl hl.1 (Nat.le_of_ble_eq_true rfl) dX3_added_75 (Nat.zero_le _) (Nat.zero_le _) ?_
        refine lv_istore (lv' := [(9, .int (fX3_exponent i a)), (7, .long b), (5, .long a), (0, .ref (ad i)), (1, .long a), (3, .long b)]) hx hb dX3_added_78 hl (by decide) rfl (fun ls hl => ?_)
        refine lv_aload_n hx hb dX3_added_80 rfl (lv_at hl 3 rfl) ?_
        refine lv_lload hx hb dX3_added_81 (lv_at hl 2 rfl) ?_
        refine cv_w (As := [.long a]) (rest := []) ⟨hx, hb, hml, hown, hts⟩ (mX3_significand l ad i hi a) (cwV 1 hts gX3_added_X3_significand rfl rfl rfl (by decide +kernel) ⟨Nat.le_of_ble_eq_true rfl, Nat.le_of_ble_eq_true rfl⟩) hE hS hi rfl rfl hl.1 (Nat.le_of_ble_eq_true rfl) dX3_added_83 (Nat.zero_le _) (Nat.zero_le _) ?_
        refine lv_iconst (v := 3) hx hb dX3_added_86 (by decide) ?_
        refine lv_lshl hx hb dX3_added_87 rfl ?_
        refine lv_lstore (lv' := [(10, .long ((fX3_significand i a) <<< ((3 : Int32).toInt64 &&& 63))), (9, .int (fX3_exponent i a)), (7, .long b), (5, .long a), (0, .ref (ad i)), (1, .long a), (3, .long b)]) hx hb dX3_added_88 hl (by decide) rfl (fun ls hl => ?_)
        refine lv_aload_n hx hb dX3_added_90 rfl (lv_at hl 4 rfl) ?_
        refine lv_lload hx hb dX3_added_91 (lv_at hl 2 rfl) ?_
        refine cv_w (As := [.long b]) (rest := []) ⟨hx, hb, hml, hown, hts⟩ (mX3_significand l ad i hi b) (cwV 1 hts gX3_added_X3_significand rfl rfl rfl (by decide +kernel) ⟨Nat.le_of_ble_eq_true rfl, Nat.le_of_ble_eq_true rfl⟩) hE hS hi rfl rfl hl.1 (Nat.le_of_ble_eq_true rfl) dX3_added_93 (Nat.zero_le _) (Nat.zero_le _) ?_
        refine lv_iconst (v := 3) hx hb dX3_added_96 (by decide) ?_
        refine lv_lshl hx hb dX3_added_97 rfl ?_
        refine lv_iload hx hb dX3_added_98 (lv_at hl 1 rfl) ?_
        refine lv_aload_n hx hb dX3_added_100 rfl (lv_at hl 4 rfl) ?_
        refine lv_lload hx hb dX3_added_101 (lv_at hl 2 rfl) ?_
        refine cv_w (As := [.long b]) (rest := [.int (fX3_exponent i a), .long ((fX3_significand i b) <<< ((3 : Int32).toInt64 &&& 63))]) ⟨hx, hb, hml, hown, hts⟩ (mX3_exponent l ad i hi b) (cwV 1 hts gX3_added_X3_exponent rfl rfl rfl (by decide +kernel) ⟨Nat.le_of_ble_eq_true rfl, Nat.le_of_ble_eq_true rfl⟩) hE hS hi rfl rfl hl.1 (Nat.le_of_ble_eq_true rfl) dX3_added_103 (Nat.zero_le _) (Nat.zero_le _) ?_
        refine lv_isub hx hb dX3_added_106 ?_
        refine cs_0 (As := [.long ((fX3_significand i b) <<< ((3 : Int32).toInt64 &&& 63)), .int ((fX3_exponent i a) - (fX3_exponent i b))]) (rest := []) ⟨hx, hb, hml, hown, hts⟩ (mX3_shiftedWithTrace l ((fX3_significand i b) <<< ((3 : Int32).toInt64 &&& 63)) ((fX3_exponent i a) - (fX3_exponent i b))) (va_cwS 2 hts gX3_added_X3_shiftedWithTrace rfl rfl rfl (by decide +kernel) ⟨Nat.le_of_ble_eq_true rfl, Nat.le_of_ble_eq_true rfl⟩) rfl rfl hl.1 (Nat.le_of_ble_eq_true rfl) dX3_added_107 (Nat.zero_le _) (Nat.zero_le _) ?_
        refine lv_lstore (lv' := [(12, .long (fX3_shiftedWithTrace ((fX3_significand i b) <<< ((3 : Int32).toInt64 &&& 63)) ((fX3_exponent i a) - (fX3_exponent i b)))), (10, .long ((fX3_significand i a) <<< ((3 : Int32).toInt64 &&& 63))), (9, .int (fX3_exponent i a)), (7, .long b), (5, .long a), (0, .ref (ad i)), (1, .long a), (3, .long b)]) hx hb dX3_added_110 hl (by decide) rfl (fun ls hl => ?_)
        refine lv_aload_n hx hb dX3_added_112 rfl (lv_at hl 5 rfl) ?_
        refine lv_lload hx hb dX3_added_113 (lv_at hl 4 rfl) ?_
        refine cv_w (As := [.long a]) (rest := []) ⟨hx, hb, hml, hown, hts⟩ (mX3_isNegative l ad i hi a) (cwV 1 hts gX3_added_X3_isNegative rfl rfl rfl (by decide +kernel) ⟨Nat.le_of_ble_eq_true rfl, Nat.le_of_ble_eq_true rfl⟩) hE hS hi rfl rfl hl.1 (Nat.le_of_ble_eq_true rfl) dX3_added_115 (Nat.zero_le _) (Nat.zero_le _) ?_
        refine lv_aload_n hx hb dX3_added_118 rfl (lv_at hl 5 rfl) ?_
        refine lv_lload hx hb dX3_added_119 (lv_at hl 3 rfl) ?_
        refine cv_w (As := [.long b]) (rest := [.int (b2i (fX3_isNegative i a))]) ⟨hx, hb, hml, hown, hts⟩ (mX3_isNegative l ad i hi b) (cwV 1 hts gX3_added_X3_isNegative rfl rfl rfl (by decide +kernel) ⟨Nat.le_of_ble_eq_true rfl, Nat.le_of_ble_eq_true rfl⟩) hE hS hi rfl rfl hl.1 (Nat.le_of_ble_eq_true rfl) dX3_added_121 (Nat.zero_le _) (Nat.zero_le _) ?_
        refine w_zne (tgt := 147) hx hb dX3_added_124 (by decide) (fun c_10 => ?_) (fun c_10 => ?_)
        · refine lv_aload_n hx hb dX3_added_147 rfl (lv_at hl 5 rfl) ?_
          refine lv_aload_n hx hb dX3_added_148 rfl (lv_at hl 5 rfl) ?_
          refine lv_lload hx hb dX3_added_149 (lv_at hl 4 rfl) ?_
          refine cv_w (As := [.long a]) (rest := [.ref (ad i)]) ⟨hx, hb, hml, hown, hts⟩ (mX3_isNegative l ad i hi a) (cwV 1 hts gX3_added_X3_isNegative rfl rfl rfl (by decide +kernel) ⟨Nat.le_of_ble_eq_true rfl, Nat.le_of_ble_eq_true rfl⟩) hE hS hi rfl rfl hl.1 (Nat.le_of_ble_eq_true rfl) dX3_added_151 (Nat.zero_le _) (Nat.zero_le _) ?_
          refine w_beq (tgt := 169) hx hb dX3_added_154 (by decide) (fun c_11 => ?_) (fun c_11 => ?_)
          · refine lv_iconst (v := 0) hx hb dX3_added_169 (by decide) ?_
            refine lv_lload hx hb dX3_added_170 (lv_at hl 1 rfl) ?_
            refine lv_lload hx hb dX3_added_172 (lv_at hl 0 rfl) ?_
            refine lv_lsub hx hb dX3_added_174 ?_
            refine lv_iload hx hb dX3_added_175 (lv_at hl 2 rfl) ?_
            refine lv_iconst (v := 3) hx hb dX3_added_177 (by decide) ?_
            refine lv_isub hx hb dX3_added_178 ?_
            refine cv_w (As := [.int (b2i false), .long (((fX3_significand i a) <<< ((3 : Int32).toInt64 &&& 63)) - (fX3_shiftedWithTrace ((fX3_significand i b) <<< ((3 : Int32).toInt64 &&& 63)) ((fX3_exponent i a) - (fX3_exponent i b)))), .int ((fX3_exponent i a) - (3 : Int32))]) (rest := []) ⟨hx, hb, hml, hown, hts⟩ (mX3_nearest l ad i hi false (((fX3_significand i a) <<< ((3 : Int32).toInt64 &&& 63)) - (fX3_shiftedWithTrace ((fX3_significand i b) <<< ((3 : Int32).toInt64 &&& 63)) ((fX3_exponent i a) - (fX3_exponent i b)))) ((fX3_exponent i a) - (3 : Int32))) (cwV 3 hts gX3_added_X3_nearest rfl rfl rfl (by decide +kernel) ⟨Nat.le_of_ble_eq_true rfl, Nat.le_of_ble_eq_true rfl⟩) hE hS hi rfl rfl hl.1 (Nat.le_of_ble_eq_true rfl) dX3_added_179 (Nat.zero_le _) (Nat.zero_le _) ?_
            exact W.lret hx hb hr (fun t ht hW => ⟨(by unfold fX3_added; rw [if_neg c_1, if_neg c_3, if_neg c_4, if_neg c_10, if_neg c_11]), ht⟩) (fun q h => absurd h List.not_mem_nil) dX3_added_182
          · refine lv_lload hx hb dX3_added_157 (lv_at hl 1 rfl) ?_
            refine lv_lload hx hb dX3_added_159 (lv_at hl 0 rfl) ?_
            refine w_lc_eq (tgt := 169) hx hb dX3_added_161 dX3_added_162 (by decide) (fun c_12 => ?_) (fun c_12 => ?_)
            · refine lv_iconst (v := 0) hx hb dX3_added_169 (by decide) ?_
              refine lv_lload hx hb dX3_added_170 (lv_at hl 1 rfl) ?_
              refine lv_lload hx hb dX3_added_172 (lv_at hl 0 rfl) ?_
              refine lv_lsub hx hb dX3_added_174 ?_
              refine lv_iload hx hb dX3_added_175 (lv_at hl 2 rfl) ?_
              refine lv_iconst (v := 3) hx hb dX3_added_177 (by decide) ?_
              refine lv_isub hx hb dX3_added_178 ?_
              refine cv_w (As := [.int (b2i false), .long (((fX3_significand i a) <<< ((3 : Int32).toInt64 &&& 63)) - (fX3_shiftedWithTrace ((fX3_significand i b) <<< ((3 : Int32).toInt64 &&& 63)) ((fX3_exponent i a) - (fX3_exponent i b)))), .int ((fX3_exponent i a) - (3 : Int32))]) (rest := []) ⟨hx, hb, hml, hown, hts⟩ (mX3_nearest l ad i hi false (((fX3_significand i a) <<< ((3 : Int32).toInt64 &&& 63)) - (fX3_shiftedWithTrace ((fX3_significand i b) <<< ((3 : Int32).toInt64 &&& 63)) ((fX3_exponent i a) - (fX3_exponent i b)))) ((fX3_exponent i a) - (3 : Int32))) (cwV 3 hts gX3_added_X3_nearest rfl rfl rfl (by decide +kernel) ⟨Nat.le_of_ble_eq_true rfl, Nat.le_of_ble_eq_true rfl⟩) hE hS hi rfl rfl hl.1 (Nat.le_of_ble_eq_true rfl) dX3_added_179 (Nat.zero_le _) (Nat.zero_le _) ?_
              exact W.lret hx hb hr (fun t ht hW => ⟨(by unfold fX3_added; rw [if_neg c_1, if_neg c_3, if_neg c_4, if_neg c_10, if_pos c_11, if_pos c_12]), ht⟩) (fun q h => absurd h List.not_mem_nil) dX3_added_182
            · refine lv_iconst (v := 1) hx hb dX3_added_165 (by decide) ?_
              refine lv_goto (tgt := 170) hx hb dX3_added_166 (by decide) ?_
              refine lv_lload hx hb dX3_added_170 (lv_at hl 1 rfl) ?_
              refine lv_lload hx hb dX3_added_172 (lv_at hl 0 rfl) ?_
              refine lv_lsub hx hb dX3_added_174 ?_
              refine lv_iload hx hb dX3_added_175 (lv_at hl 2 rfl) ?_
              refine lv_iconst (v := 3) hx hb dX3_added_177 (by decide) ?_
              refine lv_isub hx hb dX3_added_178 ?_
              refine cv_w (As := [.int (b2i true), .long (((fX3_significand i a) <<< ((3 : Int32).toInt64 &&& 63)) - (fX3_shiftedWithTrace ((fX3_significand i b) <<< ((3 : Int32).toInt64 &&& 63)) ((fX3_exponent i a) - (fX3_exponent i b)))), .int ((fX3_exponent i a) - (3 : Int32))]) (rest := []) ⟨hx, hb, hml, hown, hts⟩ (mX3_nearest l ad i hi true (((fX3_significand i a) <<< ((3 : Int32).toInt64 &&& 63)) - (fX3_shiftedWithTrace ((fX3_significand i b) <<< ((3 : Int32).toInt64 &&& 63)) ((fX3_exponent i a) - (fX3_exponent i b)))) ((fX3_exponent i a) - (3 : Int32))) (cwV 3 hts gX3_added_X3_nearest rfl rfl rfl (by decide +kernel) ⟨Nat.le_of_ble_eq_true rfl, Nat.le_of_ble_eq_true rfl⟩) hE hS hi rfl rfl hl.1 (Nat.le_of_ble_eq_true rfl) dX3_added_179 (Nat.zero_le _) (Nat.zero_le _) ?_
              exact W.lret hx hb hr (fun t ht hW => ⟨(by unfold fX3_added; rw [if_neg c_1, if_neg c_3, if_neg c_4, if_neg c_10, if_pos c_11, if_neg c_12]), ht⟩) (fun q h => absurd h List.not_mem_nil) dX3_added_182
        · refine lv_aload_n hx hb dX3_added_127 rfl (lv_at hl 5 rfl) ?_
          refine lv_aload_n hx hb dX3_added_128 rfl (lv_at hl 5 rfl) ?_
          refine lv_lload hx hb dX3_added_129 (lv_at hl 4 rfl) ?_
          refine cv_w (As := [.long a]) (rest := [.ref (ad i)]) ⟨hx, hb, hml, hown, hts⟩ (mX3_isNegative l ad i hi a) (cwV 1 hts gX3_added_X3_isNegative rfl rfl rfl (by decide +kernel) ⟨Nat.le_of_ble_eq_true rfl, Nat.le_of_ble_eq_true rfl⟩) hE hS hi rfl rfl hl.1 (Nat.le_of_ble_eq_true rfl) dX3_added_131 (Nat.zero_le _) (Nat.zero_le _) ?_
          refine lv_lload hx hb dX3_added_134 (lv_at hl 1 rfl) ?_
          refine lv_lload hx hb dX3_added_136 (lv_at hl 0 rfl) ?_
          refine lv_ladd hx hb dX3_added_138 ?_
          refine lv_iload hx hb dX3_added_139 (lv_at hl 2 rfl) ?_
          refine lv_iconst (v := 3) hx hb dX3_added_141 (by decide) ?_
          refine lv_isub hx hb dX3_added_142 ?_
          refine cv_w (As := [.int (b2i (fX3_isNegative i a)), .long (((fX3_significand i a) <<< ((3 : Int32).toInt64 &&& 63)) + (fX3_shiftedWithTrace ((fX3_significand i b) <<< ((3 : Int32).toInt64 &&& 63)) ((fX3_exponent i a) - (fX3_exponent i b)))), .int ((fX3_exponent i a) - (3 : Int32))]) (rest := []) ⟨hx, hb, hml, hown, hts⟩ (mX3_nearest l ad i hi (fX3_isNegative i a) (((fX3_significand i a) <<< ((3 : Int32).toInt64 &&& 63)) + (fX3_shiftedWithTrace ((fX3_significand i b) <<< ((3 : Int32).toInt64 &&& 63)) ((fX3_exponent i a) - (fX3_exponent i b)))) ((fX3_exponent i a) - (3 : Int32))) (cwV 3 hts gX3_added_X3_nearest rfl rfl rfl (by decide +kernel) ⟨Nat.le_of_ble_eq_true rfl, Nat.le_of_ble_eq_true rfl⟩) hE hS hi rfl rfl hl.1 (Nat.le_of_ble_eq_true rfl) dX3_added_143 (Nat.zero_le _) (Nat.zero_le _) ?_
          exact W.lret hx hb hr (fun t ht hW => ⟨(by unfold fX3_added; rw [if_neg c_1, if_neg c_3, if_neg c_4, if_pos c_10]), ht⟩) (fun q h => absurd h List.not_mem_nil) dX3_added_146
    · refine lv_aload_n hx hb dX3_added_16 rfl (lv_at hl 0 rfl) ?_
      refine lv_lload_n hx hb dX3_added_17 rfl (lv_at hl 1 rfl) ?_
      refine cv_w (As := [.long a]) (rest := []) ⟨hx, hb, hml, hown, hts⟩ (mX3_isEndless l ad i hi a) (cwV 1 hts gX3_added_X3_isEndless rfl rfl rfl (by decide +kernel) ⟨Nat.le_of_ble_eq_true rfl, Nat.le_of_ble_eq_true rfl⟩) hE hS hi rfl rfl hl.1 (Nat.le_of_ble_eq_true rfl) dX3_added_18 (Nat.zero_le _) (Nat.zero_le _) ?_
      refine w_beq (tgt := 28) hx hb dX3_added_21 (by decide) (fun c_13 => ?_) (fun c_13 => ?_)
      rotate_left
      · exact absurd c_13 c_1
      refine lv_lload_n hx hb dX3_added_28 rfl (lv_at hl 2 rfl) ?_
      exact W.lret hx hb hr (fun t ht hW => ⟨(by unfold fX3_added; rw [if_neg c_1, if_pos c_3]), ht⟩) (fun q h => absurd h List.not_mem_nil) dX3_added_29
