/-- the place of a constant: 0 FLOAT, 1 DOUBLE -/
def fX4_isBelow (x : Int32) (n : Int32) : Bool := if x < 0 then false else (if n ≤ x then false else true)
set_option maxHeartbeats 4000000 in
set_option maxRecDepth 100000 in
theorem mX4_isBelow (l : Launch) (x : Int32) (n : Int32) : Met l yX4_isBelow wsX4_isBelow ({ frames := 0, cells := 0, slots := 0, locals := 0 }) (p0 [.int x, .int n]) (pQ (.int (b2i (fX4_isBelow x n)))) 0 0 (fun _ => False) := by
  refine Met.ofW (cc := cX4_isBelow) (maxL := 2) (ret := (some .boolean)) (by decide) rfl ?_
  intro p e s m args below meth c s₁ B hml hv
  obtain ⟨rfl, hE⟩ := hv
  have hx := B.exec
  have hb := B.bytes
  have hr := B.returns
  have hts := atoms_spec (ws := wsX4_isBelow) B.pre
  have hown : s.vm.findClass RX4 = some m.cls := findClass_of_methodNamed B.named
  have hlocks := B.notSynchronized
  have hS : va_S (fun _ => False) s.heap s.heap [] := va_S.rf
  have hl := lv_entry ([.int x, .int n]) (n := 2) (Nat.le_of_ble_eq_true rfl)
  rw [lg_entry_eq]
  generalize (lg_sl ([.int x, .int n]) ++ List.replicate (2 - (lg_sl ([.int x, .int n])).length) Slot.unset).toArray = ls at hl ⊢
  have hl : lv_has ls 2 [(0, .int x), (1, .int n)] := hl
  refine lv_iload_n hx hb dX4_isBelow_0 rfl (lv_at hl 0 rfl) ?_
  refine lv_if_lt (tgt := 13) hx hb dX4_isBelow_1 (by decide) (fun c_1 => ?_) (fun c_1 => ?_)
  · refine lv_iconst (v := 0) hx hb dX4_isBelow_13 (by decide) ?_
    exact W.zret hx hb hr (b2i_nar false) (fun t ht hW => ⟨(by unfold fX4_isBelow; rw [if_pos c_1]), ht⟩) (fun q h => absurd h List.not_mem_nil) dX4_isBelow_14
  · refine lv_iload_n hx hb dX4_isBelow_4 rfl (lv_at hl 0 rfl) ?_
    refine lv_iload_n hx hb dX4_isBelow_5 rfl (lv_at hl 1 rfl) ?_
    refine lv_icmp_ge (tgt := 13) hx hb dX4_isBelow_6 (by decide) (fun c_2 => ?_) (fun c_2 => ?_)
    · refine lv_iconst (v := 0) hx hb dX4_isBelow_13 (by decide) ?_
      exact W.zret hx hb hr (b2i_nar false) (fun t ht hW => ⟨(by unfold fX4_isBelow; rw [if_neg c_1, if_pos c_2]), ht⟩) (fun q h => absurd h List.not_mem_nil) dX4_isBelow_14
    · refine lv_iconst (v := 1) hx hb dX4_isBelow_9 (by decide) ?_
      refine lv_goto (tgt := 14) hx hb dX4_isBelow_10 (by decide) ?_
      exact W.zret hx hb hr (b2i_nar true) (fun t ht hW => ⟨(by unfold fX4_isBelow; rw [if_neg c_1, if_neg c_2]), ht⟩) (fun q h => absurd h List.not_mem_nil) dX4_isBelow_14
def fX4_widthOf (wide : Bool) : Nat := if wide = true then 1 else 0
set_option maxHeartbeats 4000000 in
set_option maxRecDepth 100000 in
theorem mX4_widthOf (l : Launch) (ad : Nat → Nat) (wide : Bool) : Met l yX4_widthOf wsX4_widthOf ({ frames := 0, cells := 0, slots := 0, locals := 0 }) (pE ad [.int (b2i wide)]) (pQ (.ref (ad (fX4_widthOf wide)))) 0 0 (fun _ => False) := by
  refine Met.ofW (cc := cX4_widthOf) (maxL := 1) (ret := (some (.object "TideGauges$Width"))) (by decide) rfl ?_
  intro p e s m args below meth c s₁ B hml hv
  obtain ⟨rfl, hE⟩ := hv
  have hx := B.exec
  have hb := B.bytes
  have hr := B.returns
  have hts := atoms_spec (ws := wsX4_widthOf) B.pre
  have hown : s.vm.findClass RX4 = some m.cls := findClass_of_methodNamed B.named
  have hlocks := B.notSynchronized
  have hS : va_S (fun _ => False) s.heap s.heap [] := va_S.rf
  have hl := lv_entry ([.int (b2i wide)]) (n := 1) (Nat.le_of_ble_eq_true rfl)
  rw [lg_entry_eq]
  generalize (lg_sl ([.int (b2i wide)]) ++ List.replicate (1 - (lg_sl ([.int (b2i wide)])).length) Slot.unset).toArray = ls at hl ⊢
  have hl : lv_has ls 1 [(0, .int (b2i wide))] := hl
  refine lv_iload_n hx hb dX4_widthOf_0 rfl (lv_at hl 0 rfl) ?_
  refine w_beq (tgt := 10) hx hb dX4_widthOf_1 (by decide) (fun c_1 => ?_) (fun c_1 => ?_)
  · refine gs_w (i := 0) hx hb hE hS (by decide) rfl hown (hts (.fieldLink RX4 93 "TideGauges$Width" "FLOAT" "LTideGauges$Width;") (List.mem_of_getElem? (i := 2) rfl)) dX4_widthOf_10 ?_
    exact W.aret hx hb hr (Or.inl ⟨_, rfl⟩) (Or.inr ⟨_, rfl⟩) (fun t ht hW => ⟨(by unfold fX4_widthOf; rw [if_neg c_1]), ht⟩) (fun q h => absurd h List.not_mem_nil) dX4_widthOf_13
  · refine gs_w (i := 1) hx hb hE hS (by decide) rfl hown (hts (.fieldLink RX4 103 "TideGauges$Width" "DOUBLE" "LTideGauges$Width;") (List.mem_of_getElem? (i := 1) rfl)) dX4_widthOf_4 ?_
    refine lv_goto (tgt := 13) hx hb dX4_widthOf_7 (by decide) ?_
    exact W.aret hx hb hr (Or.inl ⟨_, rfl⟩) (Or.inr ⟨_, rfl⟩) (fun t ht hW => ⟨(by unfold fX4_widthOf; rw [if_pos c_1]), ht⟩) (fun q h => absurd h List.not_mem_nil) dX4_widthOf_13
theorem wi_lt (b : Bool) : fX4_widthOf b < 2 := by cases b <;> decide
def fX4_isSpan (b : Int64) : Bool := if (fX3_isNumber 1 b) = true then (if (fX3_isZero 1 b) = true then false else (if (fX3_isEndless 1 b) = true then false else true)) else false
set_option maxHeartbeats 4000000 in
set_option maxRecDepth 100000 in
theorem mX4_isSpan (l : Launch) (ad : Nat → Nat) (b : Int64) : Met l yX4_isSpan wsX4_isSpan ({ frames := 2, cells := 0, slots := 0, locals := 44 }) (pE ad [.long b]) (pQ (.int (b2i (fX4_isSpan b)))) 0 0 (fun _ => False) := by
  refine Met.ofW (cc := cX4_isSpan) (maxL := 2) (ret := (some .boolean)) (by decide) rfl ?_
  intro p e s m args below meth c s₁ B hml hv
  obtain ⟨rfl, hE⟩ := hv
  have hx := B.exec
  have hb := B.bytes
  have hr := B.returns
  have hts := atoms_spec (ws := wsX4_isSpan) B.pre
  have hown : s.vm.findClass RX4 = some m.cls := findClass_of_methodNamed B.named
  have hlocks := B.notSynchronized
  have hS : va_S (fun _ => False) s.heap s.heap [] := va_S.rf
  have hl := lv_entry ([.long b]) (n := 2) (Nat.le_of_ble_eq_true rfl)
  rw [lg_entry_eq]
  generalize (lg_sl ([.long b]) ++ List.replicate (2 - (lg_sl ([.long b])).length) Slot.unset).toArray = ls at hl ⊢
  have hl : lv_has ls 2 [(0, .long b)] := hl
  refine gs_w (i := 1) hx hb hE hS (by decide) rfl hown (hts (.fieldLink RX4 103 "TideGauges$Width" "DOUBLE" "LTideGauges$Width;") (List.mem_of_getElem? (i := 1) rfl)) dX4_isSpan_0 ?_
  refine lv_lload_n hx hb dX4_isSpan_3 rfl (lv_at hl 0 rfl) ?_
  refine cv_w (As := [.long b]) (rest := []) ⟨hx, hb, hml, hown, hts⟩ (mX3_isNumber l ad 1 (by decide) b) (cwV 1 hts gX4_isSpan_X3_isNumber rfl rfl rfl (by decide +kernel) ⟨Nat.le_of_ble_eq_true rfl, Nat.le_of_ble_eq_true rfl⟩) hE hS (by decide) rfl rfl hl.1 (Nat.le_of_ble_eq_true rfl) dX4_isSpan_4 (Nat.zero_le _) (Nat.zero_le _) ?_
  refine w_beq (tgt := 34) hx hb dX4_isSpan_7 (by decide) (fun c_1 => ?_) (fun c_1 => ?_)
  · refine lv_iconst (v := 0) hx hb dX4_isSpan_34 (by decide) ?_
    exact W.zret hx hb hr (b2i_nar false) (fun t ht hW => ⟨(by unfold fX4_isSpan; rw [if_neg c_1]), ht⟩) (fun q h => absurd h List.not_mem_nil) dX4_isSpan_35
  · refine gs_w (i := 1) hx hb hE hS (by decide) rfl hown (hts (.fieldLink RX4 103 "TideGauges$Width" "DOUBLE" "LTideGauges$Width;") (List.mem_of_getElem? (i := 1) rfl)) dX4_isSpan_10 ?_
    refine lv_lload_n hx hb dX4_isSpan_13 rfl (lv_at hl 0 rfl) ?_
    refine cv_w (As := [.long b]) (rest := []) ⟨hx, hb, hml, hown, hts⟩ (mX3_isZero l ad 1 (by decide) b) (cwV 1 hts gX4_isSpan_X3_isZero rfl rfl rfl (by decide +kernel) ⟨Nat.le_of_ble_eq_true rfl, Nat.le_of_ble_eq_true rfl⟩) hE hS (by decide) rfl rfl hl.1 (Nat.le_of_ble_eq_true rfl) dX4_isSpan_14 (Nat.zero_le _) (Nat.zero_le _) ?_
    refine w_bne (tgt := 34) hx hb dX4_isSpan_17 (by decide) (fun c_2 => ?_) (fun c_2 => ?_)
    · refine lv_iconst (v := 0) hx hb dX4_isSpan_34 (by decide) ?_
      exact W.zret hx hb hr (b2i_nar false) (fun t ht hW => ⟨(by unfold fX4_isSpan; rw [if_pos c_1, if_pos c_2]), ht⟩) (fun q h => absurd h List.not_mem_nil) dX4_isSpan_35
    · refine gs_w (i := 1) hx hb hE hS (by decide) rfl hown (hts (.fieldLink RX4 103 "TideGauges$Width" "DOUBLE" "LTideGauges$Width;") (List.mem_of_getElem? (i := 1) rfl)) dX4_isSpan_20 ?_
      refine lv_lload_n hx hb dX4_isSpan_23 rfl (lv_at hl 0 rfl) ?_
      refine cv_w (As := [.long b]) (rest := []) ⟨hx, hb, hml, hown, hts⟩ (mX3_isEndless l ad 1 (by decide) b) (cwV 1 hts gX4_isSpan_X3_isEndless rfl rfl rfl (by decide +kernel) ⟨Nat.le_of_ble_eq_true rfl, Nat.le_of_ble_eq_true rfl⟩) hE hS (by decide) rfl rfl hl.1 (Nat.le_of_ble_eq_true rfl) dX4_isSpan_24 (Nat.zero_le _) (Nat.zero_le _) ?_
      refine w_bne (tgt := 34) hx hb dX4_isSpan_27 (by decide) (fun c_3 => ?_) (fun c_3 => ?_)
      · refine lv_iconst (v := 0) hx hb dX4_isSpan_34 (by decide) ?_
        exact W.zret hx hb hr (b2i_nar false) (fun t ht hW => ⟨(by unfold fX4_isSpan; rw [if_pos c_1, if_neg c_2, if_pos c_3]), ht⟩) (fun q h => absurd h List.not_mem_nil) dX4_isSpan_35
      · refine lv_iconst (v := 1) hx hb dX4_isSpan_30 (by decide) ?_
        refine lv_goto (tgt := 35) hx hb dX4_isSpan_31 (by decide) ?_
        exact W.zret hx hb hr (b2i_nar true) (fun t ht hW => ⟨(by unfold fX4_isSpan; rw [if_pos c_1, if_neg c_2, if_neg c_3]), ht⟩) (fun q h => absurd h List.not_mem_nil) dX4_isSpan_35
def fX4_turned (j : Nat) (b : Int64) (to : Int32) : Int64 := if to = 0 then (((fX3_cutToInt j b).toInt8.toInt32).toInt64) else (if to = 1 then (((fX3_cutToInt j b).toInt16.toInt32).toInt64) else (if to = 2 then ((((fX3_cutToInt j b).toUInt32 % 65536).toInt32).toInt64) else (if to = 3 then ((fX3_cutToInt j b).toInt64) else (if to = 4 then (fX3_cutToLong j b) else (if to = 5 then (fX3_nearestOf 0 j b) else (fX3_nearestOf 1 j b))))))
set_option maxHeartbeats 4000000 in
set_option maxRecDepth 100000 in
theorem mX4_turned (l : Launch) (ad : Nat → Nat) (j : Nat) (hj : j < 2) (b : Int64) (to : Int32) : Met l yX4_turned wsX4_turned ({ frames := 4, cells := 0, slots := 0, locals := 97 }) (pE ad [.ref (ad j), .long b, .int to]) (pQ (.long (fX4_turned j b to))) 0 0 (fun _ => False) := by
  refine Met.ofW (cc := cX4_turned) (maxL := 4) (ret := (some .long)) (by decide) rfl ?_
  intro p e s m args below meth c s₁ B hml hv
  obtain ⟨rfl, hE⟩ := hv
  have hx := B.exec
  have hb := B.bytes
  have hr := B.returns
  have hts := atoms_spec (ws := wsX4_turned) B.pre
  have hown : s.vm.findClass RX4 = some m.cls := findClass_of_methodNamed B.named
  have hlocks := B.notSynchronized
  have hS : va_S (fun _ => False) s.heap s.heap [] := va_S.rf
  have hl := lv_entry ([.ref (ad j), .long b, .int to]) (n := 4) (Nat.le_of_ble_eq_true rfl)
  rw [lg_entry_eq]
  generalize (lg_sl ([.ref (ad j), .long b, .int to]) ++ List.replicate (4 - (lg_sl ([.ref (ad j), .long b, .int to])).length) Slot.unset).toArray = ls at hl ⊢
  have hl : lv_has ls 4 [(0, .ref (ad j)), (1, .long b), (3, .int to)] := hl
  refine lv_iload_n hx hb dX4_turned_0 rfl (lv_at hl 2 rfl) ?_
  by_cases c_1 : to = 0
  · refine lv_tableIn (off := 39) (tgt := 40) hx hb dX4_turned_1 (by rw [c_1]; decide) (by rw [c_1]; decide) (by rw [c_1]; rfl) (by decide) ?_
    refine lv_aload_n hx hb dX4_turned_40 rfl (lv_at hl 0 rfl) ?_
    refine lv_lload_n hx hb dX4_turned_41 rfl (lv_at hl 1 rfl) ?_
    refine cv_w (As := [.long b]) (rest := []) ⟨hx, hb, hml, hown, hts⟩ (mX3_cutToInt l ad j hj b) (cwV 1 hts gX4_turned_X3_cutToInt rfl rfl rfl (by decide +kernel) ⟨Nat.le_of_ble_eq_true rfl, Nat.le_of_ble_eq_true rfl⟩) hE hS hj rfl rfl hl.1 (Nat.le_of_ble_eq_true rfl) dX4_turned_42 (Nat.zero_le _) (Nat.zero_le _) ?_
    refine lv_i2b hx hb dX4_turned_45 rfl ?_
    refine lv_i2l hx hb dX4_turned_46 rfl ?_
    exact W.lret hx hb hr (fun t ht hW => ⟨(by unfold fX4_turned; rw [if_pos c_1]), ht⟩) (fun q h => absurd h List.not_mem_nil) dX4_turned_47
  · by_cases c_2 : to = 1
    · refine lv_tableIn (off := 47) (tgt := 48) hx hb dX4_turned_1 (by rw [c_2]; decide) (by rw [c_2]; decide) (by rw [c_2]; rfl) (by decide) ?_
      refine lv_aload_n hx hb dX4_turned_48 rfl (lv_at hl 0 rfl) ?_
      refine lv_lload_n hx hb dX4_turned_49 rfl (lv_at hl 1 rfl) ?_
      refine cv_w (As := [.long b]) (rest := []) ⟨hx, hb, hml, hown, hts⟩ (mX3_cutToInt l ad j hj b) (cwV 1 hts gX4_turned_X3_cutToInt rfl rfl rfl (by decide +kernel) ⟨Nat.le_of_ble_eq_true rfl, Nat.le_of_ble_eq_true rfl⟩) hE hS hj rfl rfl hl.1 (Nat.le_of_ble_eq_true rfl) dX4_turned_50 (Nat.zero_le _) (Nat.zero_le _) ?_
      refine lv_i2s hx hb dX4_turned_53 rfl ?_
      refine lv_i2l hx hb dX4_turned_54 rfl ?_
      exact W.lret hx hb hr (fun t ht hW => ⟨(by unfold fX4_turned; rw [if_neg c_1, if_pos c_2]), ht⟩) (fun q h => absurd h List.not_mem_nil) dX4_turned_55
    · by_cases c_3 : to = 2
      · refine lv_tableIn (off := 55) (tgt := 56) hx hb dX4_turned_1 (by rw [c_3]; decide) (by rw [c_3]; decide) (by rw [c_3]; rfl) (by decide) ?_
        refine lv_aload_n hx hb dX4_turned_56 rfl (lv_at hl 0 rfl) ?_
        refine lv_lload_n hx hb dX4_turned_57 rfl (lv_at hl 1 rfl) ?_
        refine cv_w (As := [.long b]) (rest := []) ⟨hx, hb, hml, hown, hts⟩ (mX3_cutToInt l ad j hj b) (cwV 1 hts gX4_turned_X3_cutToInt rfl rfl rfl (by decide +kernel) ⟨Nat.le_of_ble_eq_true rfl, Nat.le_of_ble_eq_true rfl⟩) hE hS hj rfl rfl hl.1 (Nat.le_of_ble_eq_true rfl) dX4_turned_58 (Nat.zero_le _) (Nat.zero_le _) ?_
        refine lv_i2c hx hb dX4_turned_61 rfl ?_
        refine lv_i2l hx hb dX4_turned_62 rfl ?_
        exact W.lret hx hb hr (fun t ht hW => ⟨(by unfold fX4_turned; rw [if_neg c_1, if_neg c_2, if_pos c_3]), ht⟩) (fun q h => absurd h List.not_mem_nil) dX4_turned_63
      · by_cases c_4 : to = 3
        · refine lv_tableIn (off := 63) (tgt := 64) hx hb dX4_turned_1 (by rw [c_4]; decide) (by rw [c_4]; decide) (by rw [c_4]; rfl) (by decide) ?_
          refine lv_aload_n hx hb dX4_turned_64 rfl (lv_at hl 0 rfl) ?_
          refine lv_lload_n hx hb dX4_turned_65 rfl (lv_at hl 1 rfl) ?_
          refine cv_w (As := [.long b]) (rest := []) ⟨hx, hb, hml, hown, hts⟩ (mX3_cutToInt l ad j hj b) (cwV 1 hts gX4_turned_X3_cutToInt rfl rfl rfl (by decide +kernel) ⟨Nat.le_of_ble_eq_true rfl, Nat.le_of_ble_eq_true rfl⟩) hE hS hj rfl rfl hl.1 (Nat.le_of_ble_eq_true rfl) dX4_turned_66 (Nat.zero_le _) (Nat.zero_le _) ?_
          refine lv_i2l hx hb dX4_turned_69 rfl ?_
          exact W.lret hx hb hr (fun t ht hW => ⟨(by unfold fX4_turned; rw [if_neg c_1, if_neg c_2, if_neg c_3, if_pos c_4]), ht⟩) (fun q h => absurd h List.not_mem_nil) dX4_turned_70
        · by_cases c_5 : to = 4
          · refine lv_tableIn (off := 70) (tgt := 71) hx hb dX4_turned_1 (by rw [c_5]; decide) (by rw [c_5]; decide) (by rw [c_5]; rfl) (by decide) ?_
            refine lv_aload_n hx hb dX4_turned_71 rfl (lv_at hl 0 rfl) ?_
            refine lv_lload_n hx hb dX4_turned_72 rfl (lv_at hl 1 rfl) ?_
            refine cv_w (As := [.long b]) (rest := []) ⟨hx, hb, hml, hown, hts⟩ (mX3_cutToLong l ad j hj b) (cwV 1 hts gX4_turned_X3_cutToLong rfl rfl rfl (by decide +kernel) ⟨Nat.le_of_ble_eq_true rfl, Nat.le_of_ble_eq_true rfl⟩) hE hS hj rfl rfl hl.1 (Nat.le_of_ble_eq_true rfl) dX4_turned_73 (Nat.zero_le _) (Nat.zero_le _) ?_
            exact W.lret hx hb hr (fun t ht hW => ⟨(by unfold fX4_turned; rw [if_neg c_1, if_neg c_2, if_neg c_3, if_neg c_4, if_pos c_5]), ht⟩) (fun q h => absurd h List.not_mem_nil) dX4_turned_76
          · by_cases c_6 : to = 5
            · refine lv_tableIn (off := 76) (tgt := 77) hx hb dX4_turned_1 (by rw [c_6]; decide) (by rw [c_6]; decide) (by rw [c_6]; rfl) (by decide) ?_
              refine gs_w (i := 0) hx hb hE hS (by decide) rfl hown (hts (.fieldLink RX4 93 "TideGauges$Width" "FLOAT" "LTideGauges$Width;") (List.mem_of_getElem? (i := 1) rfl)) dX4_turned_77 ?_
              refine lv_aload_n hx hb dX4_turned_80 rfl (lv_at hl 0 rfl) ?_
              refine lv_lload_n hx hb dX4_turned_81 rfl (lv_at hl 1 rfl) ?_
              refine cv_w (As := [.ref (ad j), .long b]) (rest := []) ⟨hx, hb, hml, hown, hts⟩ (mX3_nearestOf l ad 0 (by decide) j hj b) (cwV 2 hts gX4_turned_X3_nearestOf rfl rfl rfl (by decide +kernel) ⟨Nat.le_of_ble_eq_true rfl, Nat.le_of_ble_eq_true rfl⟩) hE hS (by decide) rfl rfl hl.1 (Nat.le_of_ble_eq_true rfl) dX4_turned_82 (Nat.zero_le _) (Nat.zero_le _) ?_
              exact W.lret hx hb hr (fun t ht hW => ⟨(by unfold fX4_turned; rw [if_neg c_1, if_neg c_2, if_neg c_3, if_neg c_4, if_neg c_5, if_pos c_6]), ht⟩) (fun q h => absurd h List.not_mem_nil) dX4_turned_85
            · refine lv_tableOut (tgt := 86) hx hb dX4_turned_1 (by have g0 := lv_neT c_1 (a := 0) rfl; have g1 := lv_neT c_2 (a := 1) rfl; have g2 := lv_neT c_3 (a := 2) rfl; have g3 := lv_neT c_4 (a := 3) rfl; have g4 := lv_neT c_5 (a := 4) rfl; have g5 := lv_neT c_6 (a := 5) rfl; omega) (by decide) ?_
              refine gs_w (i := 1) hx hb hE hS (by decide) rfl hown (hts (.fieldLink RX4 103 "TideGauges$Width" "DOUBLE" "LTideGauges$Width;") (List.mem_of_getElem? (i := 2) rfl)) dX4_turned_86 ?_
              refine lv_aload_n hx hb dX4_turned_89 rfl (lv_at hl 0 rfl) ?_
              refine lv_lload_n hx hb dX4_turned_90 rfl (lv_at hl 1 rfl) ?_
              refine cv_w (As := [.ref (ad j), .long b]) (rest := []) ⟨hx, hb, hml, hown, hts⟩ (mX3_nearestOf l ad 1 (by decide) j hj b) (cwV 2 hts gX4_turned_X3_nearestOf rfl rfl rfl (by decide +kernel) ⟨Nat.le_of_ble_eq_true rfl, Nat.le_of_ble_eq_true rfl⟩) hE hS (by decide) rfl rfl hl.1 (Nat.le_of_ble_eq_true rfl) dX4_turned_91 (Nat.zero_le _) (Nat.zero_le _) ?_
              exact W.lret hx hb hr (fun t ht hW => ⟨(by unfold fX4_turned; rw [if_neg c_1, if_neg c_2, if_neg c_3, if_neg c_4, if_neg c_5, if_neg c_6]), ht⟩) (fun q h => absurd h List.not_mem_nil) dX4_turned_94
def fJxe99ae_isNaN_b9ae7 (v : UInt64) : Bool := if (Op.cmpValue (FP.dcmp v v) CmpOp.l) = 0 then false else true
set_option maxHeartbeats 4000000 in
set_option maxRecDepth 100000 in
theorem mJxe99ae_isNaN_b9ae7 (l : Launch) (v : UInt64) : Met l yJxe99ae_isNaN_b9ae7 wsJxe99ae_isNaN_b9ae7 ({ frames := 0, cells := 0, slots := 0, locals := 0 }) (p0 [.double v]) (pQ (.int (b2i (fJxe99ae_isNaN_b9ae7 v)))) 0 0 (fun _ => False) := by
  refine Met.ofW (cc := cJxe99ae_isNaN_b9ae7) (maxL := 2) (ret := (some .boolean)) (by decide) rfl ?_
  intro p e s m args below meth c s₁ B hml hv
  obtain ⟨rfl, hE⟩ := hv
  have hx := B.exec
  have hb := B.bytes
  have hr := B.returns
  have hts := atoms_spec (ws := wsJxe99ae_isNaN_b9ae7) B.pre
  have hown : s.vm.findClass RJxe99ae = some m.cls := findClass_of_methodNamed B.named
  have hlocks := B.notSynchronized
  have hS : va_S (fun _ => False) s.heap s.heap [] := va_S.rf
  have hl := lv_entry ([.double v]) (n := 2) (Nat.le_of_ble_eq_true rfl)
  rw [lg_entry_eq]
  generalize (lg_sl ([.double v]) ++ List.replicate (2 - (lg_sl ([.double v])).length) Slot.unset).toArray = ls at hl ⊢
  have hl : lv_has ls 2 [(0, .double v)] := hl
  refine lv_dload_n hx hb dJxe99ae_isNaN_b9ae7_0 rfl (lv_at hl 0 rfl) ?_
  refine lv_dload_n hx hb dJxe99ae_isNaN_b9ae7_1 rfl (lv_at hl 0 rfl) ?_
  refine lv_dcmp hx hb dJxe99ae_isNaN_b9ae7_2 ?_
  refine lv_if_eq (tgt := 10) hx hb dJxe99ae_isNaN_b9ae7_3 (by decide) (fun c_1 => ?_) (fun c_1 => ?_)
  · refine lv_iconst (v := 0) hx hb dJxe99ae_isNaN_b9ae7_10 (by decide) ?_
    exact W.zret hx hb hr (b2i_nar false) (fun t ht hW => ⟨(by unfold fJxe99ae_isNaN_b9ae7; rw [if_pos c_1]), ht⟩) (fun q h => absurd h List.not_mem_nil) dJxe99ae_isNaN_b9ae7_11
  · refine lv_iconst (v := 1) hx hb dJxe99ae_isNaN_b9ae7_6 (by decide) ?_
    refine lv_goto (tgt := 11) hx hb dJxe99ae_isNaN_b9ae7_7 (by decide) ?_
    exact W.zret hx hb hr (b2i_nar true) (fun t ht hW => ⟨(by unfold fJxe99ae_isNaN_b9ae7; rw [if_neg c_1]), ht⟩) (fun q h => absurd h List.not_mem_nil) dJxe99ae_isNaN_b9ae7_11
def fJxe99ae_doubleToLongBits_ccdee (v : UInt64) : Int64 := if (fJxe99ae_isNaN_b9ae7 v) = true then (9221120237041090560 : Int64) else v.toInt64
set_option maxHeartbeats 4000000 in
set_option maxRecDepth 100000 in
theorem mJxe99ae_doubleToLongBits_ccdee (l : Launch) (v : UInt64) : Met l yJxe99ae_doubleToLongBits_ccdee wsJxe99ae_doubleToLongBits_ccdee ({ frames := 1, cells := 0, slots := 0, locals := 23 }) (p0 [.double v]) (pQ (.long (fJxe99ae_doubleToLongBits_ccdee v))) 0 0 (fun _ => False) := by
  refine Met.ofW (cc := cJxe99ae_doubleToLongBits_ccdee) (maxL := 2) (ret := (some .long)) (by decide) rfl ?_
  intro p e s m args below meth c s₁ B hml hv
  obtain ⟨rfl, hE⟩ := hv
  have hx := B.exec
  have hb := B.bytes
  have hr := B.returns
  have hts := atoms_spec (ws := wsJxe99ae_doubleToLongBits_ccdee) B.pre
  have hown : s.vm.findClass RJxe99ae = some m.cls := findClass_of_methodNamed B.named
  have hlocks := B.notSynchronized
  have hS : va_S (fun _ => False) s.heap s.heap [] := va_S.rf
  have hl := lv_entry ([.double v]) (n := 2) (Nat.le_of_ble_eq_true rfl)
  rw [lg_entry_eq]
  generalize (lg_sl ([.double v]) ++ List.replicate (2 - (lg_sl ([.double v])).length) Slot.unset).toArray = ls at hl ⊢
  have hl : lv_has ls 2 [(0, .double v)] := hl
  refine lv_dload_n hx hb dJxe99ae_doubleToLongBits_ccdee_0 rfl (lv_at hl 0 rfl) ?_
  refine cs_0 (As := [.double v]) (rest := []) ⟨hx, hb, hml, hown, hts⟩ (mJxe99ae_isNaN_b9ae7 l v) (va_cwS 1 hts gJxe99ae_doubleToLongBits_ccdee_Jxe99ae_isNaN_b9ae7 rfl rfl rfl (by decide +kernel) ⟨Nat.le_of_ble_eq_true rfl, Nat.le_of_ble_eq_true rfl⟩) rfl rfl hl.1 (Nat.le_of_ble_eq_true rfl) dJxe99ae_doubleToLongBits_ccdee_1 (Nat.zero_le _) (Nat.zero_le _) ?_
  refine w_bne (tgt := 12) hx hb dJxe99ae_doubleToLongBits_ccdee_4 (by decide) (fun c_1 => ?_) (fun c_1 => ?_)
  · refine lv_ldc2 hx hb hown (hts (.constantLong RJxe99ae 137 (9221120237041090560)) (List.mem_of_getElem? (i := 5) rfl)) dJxe99ae_doubleToLongBits_ccdee_12 ?_
    exact W.lret hx hb hr (fun t ht hW => ⟨(by unfold fJxe99ae_doubleToLongBits_ccdee; rw [if_pos c_1]), ht⟩) (fun q h => absurd h List.not_mem_nil) dJxe99ae_doubleToLongBits_ccdee_15
  · refine lv_dload_n hx hb dJxe99ae_doubleToLongBits_ccdee_7 rfl (lv_at hl 0 rfl) ?_
    refine vn_d2l hx hb (hml.trans hl.1.symm) hown (hts (.methodLink RJxe99ae 134 ⟨"java/lang/Double", "doubleToRawLongBits", "(D)J"⟩) (List.mem_of_getElem? (i := 1) rfl)) (hts (.native ⟨"java/lang/Double", "doubleToRawLongBits", "(D)J"⟩) (List.mem_of_getElem? (i := 2) rfl)) (hts (.static ⟨"java/lang/Double", "doubleToRawLongBits", "(D)J"⟩) (List.mem_of_getElem? (i := 3) rfl)) (hts (.initialized "java/lang/Double") (List.mem_of_getElem? (i := 4) rfl)) (Nat.le_of_ble_eq_true rfl) (Nat.le_of_ble_eq_true rfl) dJxe99ae_doubleToLongBits_ccdee_8 ?_
    exact W.lret hx hb hr (fun t ht hW => ⟨(by unfold fJxe99ae_doubleToLongBits_ccdee; rw [if_neg c_1]), ht⟩) (fun q h => absurd h List.not_mem_nil) dJxe99ae_doubleToLongBits_ccdee_11
def fJxf58ca_isNaN_12338 (v : UInt32) : Bool := if (Op.cmpValue (FP.fcmp v v) CmpOp.l) = 0 then false else true
set_option maxHeartbeats 4000000 in
set_option maxRecDepth 100000 in
theorem mJxf58ca_isNaN_12338 (l : Launch) (v : UInt32) : Met l yJxf58ca_isNaN_12338 wsJxf58ca_isNaN_12338 ({ frames := 0, cells := 0, slots := 0, locals := 0 }) (p0 [.float v]) (pQ (.int (b2i (fJxf58ca_isNaN_12338 v)))) 0 0 (fun _ => False) := by
  refine va_MetF (cc := cJxf58ca_isNaN_12338) (maxL := 1) (ret := (some .boolean)) (by decide +kernel) rfl ?_
  intro p e s m args below meth c s₁ B hml hv
  obtain ⟨rfl, hE⟩ := hv
  have hx := B.exec
  have hb := B.bytes
  have hr := B.returns
  have hts := atoms_spec (ws := wsJxf58ca_isNaN_12338) B.pre
  have hown : s.vm.findClass RJxf58ca = some m.cls := findClass_of_methodNamed B.named
  have hlocks := B.notSynchronized
  have hS : va_S (fun _ => False) s.heap s.heap [] := va_S.rf
  have hl := lv_entry ([.float v]) (n := 1) (Nat.le_of_ble_eq_true rfl)
  rw [lg_entry_eq]
  generalize (lg_sl ([.float v]) ++ List.replicate (1 - (lg_sl ([.float v])).length) Slot.unset).toArray = ls at hl ⊢
  have hl : lv_has ls 1 [(0, .float v)] := hl
  refine lv_fload_n hx hb dJxf58ca_isNaN_12338_0 rfl (lv_at hl 0 rfl) ?_
  refine lv_fload_n hx hb dJxf58ca_isNaN_12338_1 rfl (lv_at hl 0 rfl) ?_
  refine lv_fcmp hx hb dJxf58ca_isNaN_12338_2 ?_
  refine lv_if_eq (tgt := 10) hx hb dJxf58ca_isNaN_12338_3 (by decide) (fun c_1 => ?_) (fun c_1 => ?_)
  · refine lv_iconst (v := 0) hx hb dJxf58ca_isNaN_12338_10 (by decide) ?_
    exact W.zret hx hb hr (b2i_nar false) (fun t ht hW => ⟨(by unfold fJxf58ca_isNaN_12338; rw [if_pos c_1]), ht⟩) (fun q h => absurd h List.not_mem_nil) dJxf58ca_isNaN_12338_11
  · refine lv_iconst (v := 1) hx hb dJxf58ca_isNaN_12338_6 (by decide) ?_
    refine lv_goto (tgt := 11) hx hb dJxf58ca_isNaN_12338_7 (by decide) ?_
    exact W.zret hx hb hr (b2i_nar true) (fun t ht hW => ⟨(by unfold fJxf58ca_isNaN_12338; rw [if_neg c_1]), ht⟩) (fun q h => absurd h List.not_mem_nil) dJxf58ca_isNaN_12338_11
def fJxf58ca_floatToIntBits_5c35a (v : UInt32) : Int32 := if (fJxf58ca_isNaN_12338 v) = true then (2143289344 : Int32) else v.toInt32
set_option maxHeartbeats 4000000 in
set_option maxRecDepth 100000 in
theorem mJxf58ca_floatToIntBits_5c35a (l : Launch) (v : UInt32) : Met l yJxf58ca_floatToIntBits_5c35a wsJxf58ca_floatToIntBits_5c35a ({ frames := 1, cells := 0, slots := 0, locals := 23 }) (p0 [.float v]) (pQ (.int (fJxf58ca_floatToIntBits_5c35a v))) 0 0 (fun _ => False) := by
  refine va_MetF (cc := cJxf58ca_floatToIntBits_5c35a) (maxL := 1) (ret := (some .int)) (by decide +kernel) rfl ?_
  intro p e s m args below meth c s₁ B hml hv
  obtain ⟨rfl, hE⟩ := hv
  have hx := B.exec
  have hb := B.bytes
  have hr := B.returns
  have hts := atoms_spec (ws := wsJxf58ca_floatToIntBits_5c35a) B.pre
  have hown : s.vm.findClass RJxf58ca = some m.cls := findClass_of_methodNamed B.named
  have hlocks := B.notSynchronized
  have hS : va_S (fun _ => False) s.heap s.heap [] := va_S.rf
  have hl := lv_entry ([.float v]) (n := 1) (Nat.le_of_ble_eq_true rfl)
  rw [lg_entry_eq]
  generalize (lg_sl ([.float v]) ++ List.replicate (1 - (lg_sl ([.float v])).length) Slot.unset).toArray = ls at hl ⊢
  have hl : lv_has ls 1 [(0, .float v)] := hl
  refine lv_fload_n hx hb dJxf58ca_floatToIntBits_5c35a_0 rfl (lv_at hl 0 rfl) ?_
  refine cs_0 (As := [.float v]) (rest := []) ⟨hx, hb, hml, hown, hts⟩ (mJxf58ca_isNaN_12338 l v) (va_cwS 1 hts gJxf58ca_floatToIntBits_5c35a_Jxf58ca_isNaN_12338 rfl rfl rfl (by decide +kernel) ⟨Nat.le_of_ble_eq_true rfl, Nat.le_of_ble_eq_true rfl⟩) rfl rfl hl.1 (Nat.le_of_ble_eq_true rfl) dJxf58ca_floatToIntBits_5c35a_1 (Nat.zero_le _) (Nat.zero_le _) ?_
  refine w_bne (tgt := 12) hx hb dJxf58ca_floatToIntBits_5c35a_4 (by decide) (fun c_1 => ?_) (fun c_1 => ?_)
  · refine lv_ldc hx hb hown (hts (.constant RJxf58ca 77 (2143289344)) (List.mem_of_getElem? (i := 5) rfl)) dJxf58ca_floatToIntBits_5c35a_12 ?_
    exact W.iret hx hb hr (fun t ht hW => ⟨(by unfold fJxf58ca_floatToIntBits_5c35a; rw [if_pos c_1]), ht⟩) (fun q h => absurd h List.not_mem_nil) dJxf58ca_floatToIntBits_5c35a_14
  · refine lv_fload_n hx hb dJxf58ca_floatToIntBits_5c35a_7 rfl (lv_at hl 0 rfl) ?_
    refine vn_f2i hx hb (hml.trans hl.1.symm) hown (hts (.methodLink RJxf58ca 74 ⟨"java/lang/Float", "floatToRawIntBits", "(F)I"⟩) (List.mem_of_getElem? (i := 1) rfl)) (hts (.native ⟨"java/lang/Float", "floatToRawIntBits", "(F)I"⟩) (List.mem_of_getElem? (i := 2) rfl)) (hts (.static ⟨"java/lang/Float", "floatToRawIntBits", "(F)I"⟩) (List.mem_of_getElem? (i := 3) rfl)) (hts (.initialized "java/lang/Float") (List.mem_of_getElem? (i := 4) rfl)) (Nat.le_of_ble_eq_true rfl) (Nat.le_of_ble_eq_true rfl) dJxf58ca_floatToIntBits_5c35a_8 ?_
    exact W.iret hx hb hr (fun t ht hW => ⟨(by unfold fJxf58ca_floatToIntBits_5c35a; rw [if_neg c_1]), ht⟩) (fun q h => absurd h List.not_mem_nil) dJxf58ca_floatToIntBits_5c35a_11
def fX5_in (v : Int32) (lo : Int32) (hi : Int32) : Bool := if v < lo then false else (if hi < v then false else true)
set_option maxHeartbeats 4000000 in
set_option maxRecDepth 100000 in
theorem mX5_in (l : Launch) (v : Int32) (lo : Int32) (hi : Int32) : Met l yX5_in wsX5_in ({ frames := 0, cells := 0, slots := 0, locals := 0 }) (p0 [.int v, .int lo, .int hi]) (pQ (.int (b2i (fX5_in v lo hi)))) 0 0 (fun _ => False) := by
  refine Met.ofW (cc := cX5_in) (maxL := 3) (ret := (some .boolean)) (by decide) rfl ?_
  intro p e s m args below meth c s₁ B hml hv
  obtain ⟨rfl, hE⟩ := hv
  have hx := B.exec
  have hb := B.bytes
  have hr := B.returns
  have hts := atoms_spec (ws := wsX5_in) B.pre
  have hown : s.vm.findClass RX5 = some m.cls := findClass_of_methodNamed B.named
  have hlocks := B.notSynchronized
  have hS : va_S (fun _ => False) s.heap s.heap [] := va_S.rf
  have hl := lv_entry ([.int v, .int lo, .int hi]) (n := 3) (Nat.le_of_ble_eq_true rfl)
  rw [lg_entry_eq]
  generalize (lg_sl ([.int v, .int lo, .int hi]) ++ List.replicate (3 - (lg_sl ([.int v, .int lo, .int hi])).length) Slot.unset).toArray = ls at hl ⊢
  have hl : lv_has ls 3 [(0, .int v), (1, .int lo), (2, .int hi)] := hl
  refine lv_iload_n hx hb dX5_in_0 rfl (lv_at hl 0 rfl) ?_
  refine lv_iload_n hx hb dX5_in_1 rfl (lv_at hl 1 rfl) ?_
  refine lv_icmp_lt (tgt := 14) hx hb dX5_in_2 (by decide) (fun c_1 => ?_) (fun c_1 => ?_)
  · refine lv_iconst (v := 0) hx hb dX5_in_14 (by decide) ?_
    exact W.zret hx hb hr (b2i_nar false) (fun t ht hW => ⟨(by unfold fX5_in; rw [if_pos c_1]), ht⟩) (fun q h => absurd h List.not_mem_nil) dX5_in_15
  · refine lv_iload_n hx hb dX5_in_5 rfl (lv_at hl 0 rfl) ?_
    refine lv_iload_n hx hb dX5_in_6 rfl (lv_at hl 2 rfl) ?_
    refine lv_icmp_gt (tgt := 14) hx hb dX5_in_7 (by decide) (fun c_2 => ?_) (fun c_2 => ?_)
    · refine lv_iconst (v := 0) hx hb dX5_in_14 (by decide) ?_
      exact W.zret hx hb hr (b2i_nar false) (fun t ht hW => ⟨(by unfold fX5_in; rw [if_neg c_1, if_pos c_2]), ht⟩) (fun q h => absurd h List.not_mem_nil) dX5_in_15
    · refine lv_iconst (v := 1) hx hb dX5_in_10 (by decide) ?_
      refine lv_goto (tgt := 15) hx hb dX5_in_11 (by decide) ?_
      exact W.zret hx hb hr (b2i_nar true) (fun t ht hW => ⟨(by unfold fX5_in; rw [if_neg c_1, if_neg c_2]), ht⟩) (fun q h => absurd h List.not_mem_nil) dX5_in_15
def fX5_fails (y : Int32) : Int32 := ((-10 : Int32) - y)
set_option maxHeartbeats 4000000 in
set_option maxRecDepth 100000 in
theorem mX5_fails (l : Launch) (y : Int32) : Met l yX5_fails wsX5_fails ({ frames := 0, cells := 0, slots := 0, locals := 0 }) (p0 [.int y]) (pQ (.int (fX5_fails y))) 0 0 (fun _ => False) := by
  refine Met.ofW (cc := cX5_fails) (maxL := 1) (ret := (some .int)) (by decide) rfl ?_
  intro p e s m args below meth c s₁ B hml hv
  obtain ⟨rfl, hE⟩ := hv
  have hx := B.exec
  have hb := B.bytes
  have hr := B.returns
  have hts := atoms_spec (ws := wsX5_fails) B.pre
  have hown : s.vm.findClass RX5 = some m.cls := findClass_of_methodNamed B.named
  have hlocks := B.notSynchronized
  have hS : va_S (fun _ => False) s.heap s.heap [] := va_S.rf
  have hl := lv_entry ([.int y]) (n := 1) (Nat.le_of_ble_eq_true rfl)
  rw [lg_entry_eq]
  generalize (lg_sl ([.int y]) ++ List.replicate (1 - (lg_sl ([.int y])).length) Slot.unset).toArray = ls at hl ⊢
  have hl : lv_has ls 1 [(0, .int y)] := hl
  refine lv_bipush (v := -10) hx hb dX5_fails_0 (by decide) ?_
  refine lv_iload_n hx hb dX5_fails_2 rfl (lv_at hl 0 rfl) ?_
  refine lv_isub hx hb dX5_fails_3 ?_
  exact W.iret hx hb hr (fun t ht hW => ⟨(by unfold fX5_fails; rfl), ht⟩) (fun q h => absurd h List.not_mem_nil) dX5_fails_4
def fX5_isNumber (wide : Bool) (b : Int64) : Bool := if wide = true then (if (9218868437227405312 : Int64) < (b &&& (9223372036854775807 : Int64)) then false else true) else (if (2139095040 : Int32) < (b.toInt32 &&& (2147483647 : Int32)) then false else true)
set_option maxHeartbeats 4000000 in
set_option maxRecDepth 100000 in
theorem mX5_isNumber (l : Launch) (wide : Bool) (b : Int64) : Met l yX5_isNumber wsX5_isNumber ({ frames := 0, cells := 0, slots := 0, locals := 0 }) (p0 [.int (b2i wide), .long b]) (pQ (.int (b2i (fX5_isNumber wide b)))) 0 0 (fun _ => False) := by
  refine Met.ofW (cc := cX5_isNumber) (maxL := 3) (ret := (some .boolean)) (by decide) rfl ?_
  intro p e s m args below meth c s₁ B hml hv
  obtain ⟨rfl, hE⟩ := hv
  have hx := B.exec
  have hb := B.bytes
  have hr := B.returns
  have hts := atoms_spec (ws := wsX5_isNumber) B.pre
  have hown : s.vm.findClass RX5 = some m.cls := findClass_of_methodNamed B.named
  have hlocks := B.notSynchronized
  have hS : va_S (fun _ => False) s.heap s.heap [] := va_S.rf
  have hl := lv_entry ([.int (b2i wide), .long b]) (n := 3) (Nat.le_of_ble_eq_true rfl)
  rw [lg_entry_eq]
  generalize (lg_sl ([.int (b2i wide), .long b]) ++ List.replicate (3 - (lg_sl ([.int (b2i wide), .long b])).length) Slot.unset).toArray = ls at hl ⊢
  have hl : lv_has ls 3 [(0, .int (b2i wide)), (1, .long b)] := hl
  refine lv_iload_n hx hb dX5_isNumber_0 rfl (lv_at hl 0 rfl) ?_
  refine w_beq (tgt := 24) hx hb dX5_isNumber_1 (by decide) (fun c_1 => ?_) (fun c_1 => ?_)
  · refine lv_lload_n hx hb dX5_isNumber_24 rfl (lv_at hl 1 rfl) ?_
    refine lv_l2i hx hb dX5_isNumber_25 rfl ?_
    refine lv_ldc hx hb hown (hts (.constant RX5 45 (2147483647)) (List.mem_of_getElem? (i := 3) rfl)) dX5_isNumber_26 ?_
    refine lv_iand hx hb dX5_isNumber_28 ?_
    refine lv_ldc hx hb hown (hts (.constant RX5 46 (2139095040)) (List.mem_of_getElem? (i := 4) rfl)) dX5_isNumber_29 ?_
    refine lv_icmp_gt (tgt := 38) hx hb dX5_isNumber_31 (by decide) (fun c_2 => ?_) (fun c_2 => ?_)
    · refine lv_iconst (v := 0) hx hb dX5_isNumber_38 (by decide) ?_
      exact W.zret hx hb hr (b2i_nar false) (fun t ht hW => ⟨(by unfold fX5_isNumber; rw [if_neg c_1, if_pos c_2]), ht⟩) (fun q h => absurd h List.not_mem_nil) dX5_isNumber_39
    · refine lv_iconst (v := 1) hx hb dX5_isNumber_34 (by decide) ?_
      refine lv_goto (tgt := 39) hx hb dX5_isNumber_35 (by decide) ?_
      exact W.zret hx hb hr (b2i_nar true) (fun t ht hW => ⟨(by unfold fX5_isNumber; rw [if_neg c_1, if_neg c_2]), ht⟩) (fun q h => absurd h List.not_mem_nil) dX5_isNumber_39
  · refine lv_lload_n hx hb dX5_isNumber_4 rfl (lv_at hl 1 rfl) ?_
    refine lv_ldc2 hx hb hown (hts (.constantLong RX5 41 (9223372036854775807)) (List.mem_of_getElem? (i := 1) rfl)) dX5_isNumber_5 ?_
    refine lv_land hx hb dX5_isNumber_8 ?_
    refine lv_ldc2 hx hb hown (hts (.constantLong RX5 43 (9218868437227405312)) (List.mem_of_getElem? (i := 2) rfl)) dX5_isNumber_9 ?_
    refine w_lc_gt (tgt := 20) hx hb dX5_isNumber_12 dX5_isNumber_13 (by decide) (fun c_3 => ?_) (fun c_3 => ?_)
    · refine lv_iconst (v := 0) hx hb dX5_isNumber_20 (by decide) ?_
      refine lv_goto (tgt := 39) hx hb dX5_isNumber_21 (by decide) ?_
      exact W.zret hx hb hr (b2i_nar false) (fun t ht hW => ⟨(by unfold fX5_isNumber; rw [if_pos c_1, if_pos c_3]), ht⟩) (fun q h => absurd h List.not_mem_nil) dX5_isNumber_39
    · refine lv_iconst (v := 1) hx hb dX5_isNumber_16 (by decide) ?_
      refine lv_goto (tgt := 39) hx hb dX5_isNumber_17 (by decide) ?_
      exact W.zret hx hb hr (b2i_nar true) (fun t ht hW => ⟨(by unfold fX5_isNumber; rw [if_pos c_1, if_neg c_3]), ht⟩) (fun q h => absurd h List.not_mem_nil) dX5_isNumber_39
def fX5_isEndless (v : UInt64) : Bool := if 0 < (Op.cmpValue (FP.dcmp v (9218868437227405311 : UInt64)) CmpOp.l) then true else (if 0 ≤ (Op.cmpValue (FP.dcmp v (18442240474082181119 : UInt64)) CmpOp.g) then false else true)
set_option maxHeartbeats 4000000 in
set_option maxRecDepth 100000 in
theorem mX5_isEndless (l : Launch) (v : UInt64) : Met l yX5_isEndless wsX5_isEndless ({ frames := 0, cells := 0, slots := 0, locals := 0 }) (p0 [.double v]) (pQ (.int (b2i (fX5_isEndless v)))) 0 0 (fun _ => False) := by
  refine Met.ofW (cc := cX5_isEndless) (maxL := 2) (ret := (some .boolean)) (by decide) rfl ?_
  intro p e s m args below meth c s₁ B hml hv
  obtain ⟨rfl, hE⟩ := hv
  have hx := B.exec
  have hb := B.bytes
  have hr := B.returns
  have hts := atoms_spec (ws := wsX5_isEndless) B.pre
  have hown : s.vm.findClass RX5 = some m.cls := findClass_of_methodNamed B.named
  have hlocks := B.notSynchronized
  have hS : va_S (fun _ => False) s.heap s.heap [] := va_S.rf
  have hl := lv_entry ([.double v]) (n := 2) (Nat.le_of_ble_eq_true rfl)
  rw [lg_entry_eq]
  generalize (lg_sl ([.double v]) ++ List.replicate (2 - (lg_sl ([.double v])).length) Slot.unset).toArray = ls at hl ⊢
  have hl : lv_has ls 2 [(0, .double v)] := hl
  refine lv_dload_n hx hb dX5_isEndless_0 rfl (lv_at hl 0 rfl) ?_
  refine lv_ldc2d hx hb hown (hts (.constantDouble RX5 49 (9218868437227405311)) (List.mem_of_getElem? (i := 1) rfl)) dX5_isEndless_1 ?_
  refine lv_dcmp hx hb dX5_isEndless_4 ?_
  refine lv_if_gt (tgt := 16) hx hb dX5_isEndless_5 (by decide) (fun c_1 => ?_) (fun c_1 => ?_)
  · refine lv_iconst (v := 1) hx hb dX5_isEndless_16 (by decide) ?_
    refine lv_goto (tgt := 21) hx hb dX5_isEndless_17 (by decide) ?_
    exact W.zret hx hb hr (b2i_nar true) (fun t ht hW => ⟨(by unfold fX5_isEndless; rw [if_pos c_1]), ht⟩) (fun q h => absurd h List.not_mem_nil) dX5_isEndless_21
  · refine lv_dload_n hx hb dX5_isEndless_8 rfl (lv_at hl 0 rfl) ?_
    refine lv_ldc2d hx hb hown (hts (.constantDouble RX5 51 (18442240474082181119)) (List.mem_of_getElem? (i := 2) rfl)) dX5_isEndless_9 ?_
    refine lv_dcmp hx hb dX5_isEndless_12 ?_
    refine lv_if_ge (tgt := 20) hx hb dX5_isEndless_13 (by decide) (fun c_2 => ?_) (fun c_2 => ?_)
    · refine lv_iconst (v := 0) hx hb dX5_isEndless_20 (by decide) ?_
      exact W.zret hx hb hr (b2i_nar false) (fun t ht hW => ⟨(by unfold fX5_isEndless; rw [if_neg c_1, if_pos c_2]), ht⟩) (fun q h => absurd h List.not_mem_nil) dX5_isEndless_21
    · refine lv_iconst (v := 1) hx hb dX5_isEndless_16 (by decide) ?_
      refine lv_goto (tgt := 21) hx hb dX5_isEndless_17 (by decide) ?_
      exact W.zret hx hb hr (b2i_nar true) (fun t ht hW => ⟨(by unfold fX5_isEndless; rw [if_neg c_1, if_neg c_2]), ht⟩) (fun q h => absurd h List.not_mem_nil) dX5_isEndless_21
def fX5_fits (k : Int32) (of_ : Int32) : Bool := if k = of_ then true else (if k = (1 : Int32) then (if of_ = 0 then true else false) else false)
set_option maxHeartbeats 4000000 in
set_option maxRecDepth 100000 in
theorem mX5_fits (l : Launch) (k : Int32) (of_ : Int32) : Met l yX5_fits wsX5_fits ({ frames := 0, cells := 0, slots := 0, locals := 0 }) (p0 [.int k, .int of_]) (pQ (.int (b2i (fX5_fits k of_)))) 0 0 (fun _ => False) := by
  refine Met.ofW (cc := cX5_fits) (maxL := 2) (ret := (some .boolean)) (by decide) rfl ?_
  intro p e s m args below meth c s₁ B hml hv
  obtain ⟨rfl, hE⟩ := hv
  have hx := B.exec
  have hb := B.bytes
  have hr := B.returns
  have hts := atoms_spec (ws := wsX5_fits) B.pre
  have hown : s.vm.findClass RX5 = some m.cls := findClass_of_methodNamed B.named
  have hlocks := B.notSynchronized
  have hS : va_S (fun _ => False) s.heap s.heap [] := va_S.rf
  have hl := lv_entry ([.int k, .int of_]) (n := 2) (Nat.le_of_ble_eq_true rfl)
  rw [lg_entry_eq]
  generalize (lg_sl ([.int k, .int of_]) ++ List.replicate (2 - (lg_sl ([.int k, .int of_])).length) Slot.unset).toArray = ls at hl ⊢
  have hl : lv_has ls 2 [(0, .int k), (1, .int of_)] := hl
  refine lv_iload_n hx hb dX5_fits_0 rfl (lv_at hl 0 rfl) ?_
  refine lv_iload_n hx hb dX5_fits_1 rfl (lv_at hl 1 rfl) ?_
  refine lv_icmp_eq (tgt := 14) hx hb dX5_fits_2 (by decide) (fun c_1 => ?_) (fun c_1 => ?_)
  · refine lv_iconst (v := 1) hx hb dX5_fits_14 (by decide) ?_
    refine lv_goto (tgt := 19) hx hb dX5_fits_15 (by decide) ?_
    exact W.zret hx hb hr (b2i_nar true) (fun t ht hW => ⟨(by unfold fX5_fits; rw [if_pos c_1]), ht⟩) (fun q h => absurd h List.not_mem_nil) dX5_fits_19
  · refine lv_iload_n hx hb dX5_fits_5 rfl (lv_at hl 0 rfl) ?_
    refine lv_iconst (v := 1) hx hb dX5_fits_6 (by decide) ?_
    refine lv_icmp_ne (tgt := 18) hx hb dX5_fits_7 (by decide) (fun c_2 => ?_) (fun c_2 => ?_)
    · refine lv_iconst (v := 0) hx hb dX5_fits_18 (by decide) ?_
      exact W.zret hx hb hr (b2i_nar false) (fun t ht hW => ⟨(by unfold fX5_fits; rw [if_neg c_1, if_neg c_2]), ht⟩) (fun q h => absurd h List.not_mem_nil) dX5_fits_19
    · refine lv_iload_n hx hb dX5_fits_10 rfl (lv_at hl 1 rfl) ?_
      refine lv_if_ne (tgt := 18) hx hb dX5_fits_11 (by decide) (fun c_3 => ?_) (fun c_3 => ?_)
      · refine lv_iconst (v := 0) hx hb dX5_fits_18 (by decide) ?_
        exact W.zret hx hb hr (b2i_nar false) (fun t ht hW => ⟨(by unfold fX5_fits; rw [if_neg c_1, if_pos c_2, if_neg c_3]), ht⟩) (fun q h => absurd h List.not_mem_nil) dX5_fits_19
      · refine lv_iconst (v := 1) hx hb dX5_fits_14 (by decide) ?_
        refine lv_goto (tgt := 19) hx hb dX5_fits_15 (by decide) ?_
        exact W.zret hx hb hr (b2i_nar true) (fun t ht hW => ⟨(by unfold fX5_fits; rw [if_neg c_1, if_pos c_2, if_pos c_3]), ht⟩) (fun q h => absurd h List.not_mem_nil) dX5_fits_19
def fX5_number (wide : Bool) (b : Int64) : UInt64 := if wide = true then b.toUInt64 else (FP.f2d b.toInt32.toUInt32)
set_option maxHeartbeats 4000000 in
set_option maxRecDepth 100000 in
theorem mX5_number (l : Launch) (wide : Bool) (b : Int64) (hn : okb wide b) : Met l yX5_number wsX5_number ({ frames := 1, cells := 0, slots := 0, locals := 23 }) (p0 [.int (b2i wide), .long b]) (pQ (.double (fX5_number wide b))) 0 0 (fun _ => False) := by
  refine Met.ofW (cc := cX5_number) (maxL := 3) (ret := (some .double)) (by decide) rfl ?_
  intro p e s m args below meth c s₁ B hml hv
  obtain ⟨rfl, hE⟩ := hv
  have hx := B.exec
  have hb := B.bytes
  have hr := B.returns
  have hts := atoms_spec (ws := wsX5_number) B.pre
  have hown : s.vm.findClass RX5 = some m.cls := findClass_of_methodNamed B.named
  have hlocks := B.notSynchronized
  have hS : va_S (fun _ => False) s.heap s.heap [] := va_S.rf
  have hl := lv_entry ([.int (b2i wide), .long b]) (n := 3) (Nat.le_of_ble_eq_true rfl)
  rw [lg_entry_eq]
  generalize (lg_sl ([.int (b2i wide), .long b]) ++ List.replicate (3 - (lg_sl ([.int (b2i wide), .long b])).length) Slot.unset).toArray = ls at hl ⊢
  have hl : lv_has ls 3 [(0, .int (b2i wide)), (1, .long b)] := hl
  refine lv_iload_n hx hb dX5_number_0 rfl (lv_at hl 0 rfl) ?_
  refine w_beq (tgt := 11) hx hb dX5_number_1 (by decide) (fun c_1 => ?_) (fun c_1 => ?_)
  · refine lv_lload_n hx hb dX5_number_11 rfl (lv_at hl 1 rfl) ?_
    refine lv_l2i hx hb dX5_number_12 rfl ?_
    refine vn_i2f hx hb (hml.trans hl.1.symm) hown (hts (.methodLink RX5 57 ⟨"java/lang/Float", "intBitsToFloat", "(I)F"⟩) (List.mem_of_getElem? (i := 5) rfl)) (hts (.native ⟨"java/lang/Float", "intBitsToFloat", "(I)F"⟩) (List.mem_of_getElem? (i := 6) rfl)) (hts (.static ⟨"java/lang/Float", "intBitsToFloat", "(I)F"⟩) (List.mem_of_getElem? (i := 7) rfl)) (hts (.initialized "java/lang/Float") (List.mem_of_getElem? (i := 8) rfl)) (sni_of (okb_f hn c_1)) (Nat.le_of_ble_eq_true rfl) (Nat.le_of_ble_eq_true rfl) dX5_number_13 ?_
    refine lv_f2d hx hb dX5_number_16 (n64_of (by rw [FP.f2d_nan]; exact okb_f hn c_1)) ?_
    exact W.dret hx hb hr (fun t ht hW => ⟨(by unfold fX5_number; rw [if_neg c_1]), ht⟩) (fun q h => absurd h List.not_mem_nil) dX5_number_17
  · refine lv_lload_n hx hb dX5_number_4 rfl (lv_at hl 1 rfl) ?_
    refine vn_l2d hx hb (hml.trans hl.1.symm) hown (hts (.methodLink RX5 53 ⟨"java/lang/Double", "longBitsToDouble", "(J)D"⟩) (List.mem_of_getElem? (i := 1) rfl)) (hts (.native ⟨"java/lang/Double", "longBitsToDouble", "(J)D"⟩) (List.mem_of_getElem? (i := 2) rfl)) (hts (.static ⟨"java/lang/Double", "longBitsToDouble", "(J)D"⟩) (List.mem_of_getElem? (i := 3) rfl)) (hts (.initialized "java/lang/Double") (List.mem_of_getElem? (i := 4) rfl)) (snl_of (okb_t hn c_1)) (Nat.le_of_ble_eq_true rfl) (Nat.le_of_ble_eq_true rfl) dX5_number_5 ?_
    refine lv_goto (tgt := 17) hx hb dX5_number_8 (by decide) ?_
    exact W.dret hx hb hr (fun t ht hW => ⟨(by unfold fX5_number; rw [if_pos c_1]), ht⟩) (fun q h => absurd h List.not_mem_nil) dX5_number_17
def fX5_bitsOf (wide : Bool) (v : UInt64) : Int64 := if wide = true then (fJxe99ae_doubleToLongBits_ccdee v) else ((fJxf58ca_floatToIntBits_5c35a (FP.d2f v)).toInt64)
set_option maxHeartbeats 4000000 in
set_option maxRecDepth 100000 in
theorem mX5_bitsOf (l : Launch) (wide : Bool) (v : UInt64) (hn : FP.dIsNaN v = false) : Met l yX5_bitsOf wsX5_bitsOf ({ frames := 2, cells := 0, slots := 0, locals := 44 }) (p0 [.int (b2i wide), .double v]) (pQ (.long (fX5_bitsOf wide v))) 0 0 (fun _ => False) := by
  refine Met.ofW (cc := cX5_bitsOf) (maxL := 3) (ret := (some .long)) (by decide) rfl ?_
  intro p e s m args below meth c s₁ B hml hv
  obtain ⟨rfl, hE⟩ := hv
  have hx := B.exec
  have hb := B.bytes
  have hr := B.returns
  have hts := atoms_spec (ws := wsX5_bitsOf) B.pre
  have hown : s.vm.findClass RX5 = some m.cls := findClass_of_methodNamed B.named
  have hlocks := B.notSynchronized
  have hS : va_S (fun _ => False) s.heap s.heap [] := va_S.rf
  have hl := lv_entry ([.int (b2i wide), .double v]) (n := 3) (Nat.le_of_ble_eq_true rfl)
  rw [lg_entry_eq]
  generalize (lg_sl ([.int (b2i wide), .double v]) ++ List.replicate (3 - (lg_sl ([.int (b2i wide), .double v])).length) Slot.unset).toArray = ls at hl ⊢
  have hl : lv_has ls 3 [(0, .int (b2i wide)), (1, .double v)] := hl
  refine lv_iload_n hx hb dX5_bitsOf_0 rfl (lv_at hl 0 rfl) ?_
  refine w_beq (tgt := 11) hx hb dX5_bitsOf_1 (by decide) (fun c_1 => ?_) (fun c_1 => ?_)
  · refine lv_dload_n hx hb dX5_bitsOf_11 rfl (lv_at hl 1 rfl) ?_
    refine lv_d2f hx hb dX5_bitsOf_12 (n32_of (by rw [FP.d2f_nan]; exact hn)) ?_
    refine cs_0 (As := [.float (FP.d2f v)]) (rest := []) ⟨hx, hb, hml, hown, hts⟩ (mJxf58ca_floatToIntBits_5c35a l (FP.d2f v)) (va_cwS 1 hts gX5_bitsOf_Jxf58ca_floatToIntBits_5c35a rfl rfl rfl (by decide +kernel) ⟨Nat.le_of_ble_eq_true rfl, Nat.le_of_ble_eq_true rfl⟩) rfl rfl hl.1 (Nat.le_of_ble_eq_true rfl) dX5_bitsOf_13 (Nat.zero_le _) (Nat.zero_le _) ?_
    refine lv_i2l hx hb dX5_bitsOf_16 rfl ?_
    exact W.lret hx hb hr (fun t ht hW => ⟨(by unfold fX5_bitsOf; rw [if_neg c_1]), ht⟩) (fun q h => absurd h List.not_mem_nil) dX5_bitsOf_17
  · refine lv_dload_n hx hb dX5_bitsOf_4 rfl (lv_at hl 1 rfl) ?_
    refine cs_0 (As := [.double v]) (rest := []) ⟨hx, hb, hml, hown, hts⟩ (mJxe99ae_doubleToLongBits_ccdee l v) (va_cwS 1 hts gX5_bitsOf_Jxe99ae_doubleToLongBits_ccdee rfl rfl rfl (by decide +kernel) ⟨Nat.le_of_ble_eq_true rfl, Nat.le_of_ble_eq_true rfl⟩) rfl rfl hl.1 (Nat.le_of_ble_eq_true rfl) dX5_bitsOf_5 (Nat.zero_le _) (Nat.zero_le _) ?_
    refine lv_goto (tgt := 17) hx hb dX5_bitsOf_8 (by decide) ?_
    exact W.lret hx hb hr (fun t ht hW => ⟨(by unfold fX5_bitsOf; rw [if_pos c_1]), ht⟩) (fun q h => absurd h List.not_mem_nil) dX5_bitsOf_17
