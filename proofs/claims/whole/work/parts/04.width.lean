def fX3_size (i : Nat) (b : Int64) : Int64 := (b &&& (cSB i - (1 : Int64)))
set_option maxHeartbeats 4000000 in
set_option maxRecDepth 100000 in
theorem mX3_size (l : Launch) (ad : Nat → Nat) (i : Nat) (hi : i < 2) (b : Int64) : Met l yX3_size wsX3_size ({ frames := 0, cells := 0, slots := 0, locals := 0 }) (pE ad [.ref (ad i), .long b]) (pQ (.long (fX3_size i b))) 0 0 (fun _ => False) := by
  refine Met.ofW (cc := cX3_size) (maxL := 3) (ret := (some .long)) (by decide) rfl ?_
  intro p e s m args below meth c s₁ B hml hv
  obtain ⟨rfl, hE⟩ := hv
  have hx := B.exec
  have hb := B.bytes
  have hr := B.returns
  have hts := atoms_spec (ws := wsX3_size) B.pre
  have hown : s.vm.findClass RX3 = some m.cls := findClass_of_methodNamed B.named
  have hlocks := B.notSynchronized
  have hS : va_S (fun _ => False) s.heap s.heap [] := va_S.rf
  have hl := lv_entry ([.ref (ad i), .long b]) (n := 3) (Nat.le_of_ble_eq_true rfl)
  rw [lg_entry_eq]
  generalize (lg_sl ([.ref (ad i), .long b]) ++ List.replicate (3 - (lg_sl ([.ref (ad i), .long b])).length) Slot.unset).toArray = ls at hl ⊢
  have hl : lv_has ls 3 [(0, .ref (ad i)), (1, .long b)] := hl
  refine lv_lload_n hx hb dX3_size_0 rfl (lv_at hl 1 rfl) ?_
  refine lv_aload_n hx hb dX3_size_1 rfl (lv_at hl 0 rfl) ?_
  refine va_getX hx hb hE.2.2.2.1 hi hS hown (hts (.fieldLink RX3 36 "TideGauges$Width" "signBit" "J") (List.mem_of_getElem? (i := 1) rfl)) (fun _ h9 => h9) dX3_size_2 ?_
  refine lv_lconst (v := 1) hx hb dX3_size_5 (by decide) ?_
  refine lv_lsub hx hb dX3_size_6 ?_
  refine lv_land hx hb dX3_size_7 ?_
  exact W.lret hx hb hr (fun t ht hW => ⟨(by unfold fX3_size; rfl), ht⟩) (fun q h => absurd h List.not_mem_nil) dX3_size_8
def fX3_isNumber (i : Nat) (b : Int64) : Bool := if cEN i < (fX3_size i b) then false else true
set_option maxHeartbeats 4000000 in
set_option maxRecDepth 100000 in
theorem mX3_isNumber (l : Launch) (ad : Nat → Nat) (i : Nat) (hi : i < 2) (b : Int64) : Met l yX3_isNumber wsX3_isNumber ({ frames := 1, cells := 0, slots := 0, locals := 22 }) (pE ad [.ref (ad i), .long b]) (pQ (.int (b2i (fX3_isNumber i b)))) 0 0 (fun _ => False) := by
  refine Met.ofW (cc := cX3_isNumber) (maxL := 3) (ret := (some .boolean)) (by decide) rfl ?_
  intro p e s m args below meth c s₁ B hml hv
  obtain ⟨rfl, hE⟩ := hv
  have hx := B.exec
  have hb := B.bytes
  have hr := B.returns
  have hts := atoms_spec (ws := wsX3_isNumber) B.pre
  have hown : s.vm.findClass RX3 = some m.cls := findClass_of_methodNamed B.named
  have hlocks := B.notSynchronized
  have hS : va_S (fun _ => False) s.heap s.heap [] := va_S.rf
  have hl := lv_entry ([.ref (ad i), .long b]) (n := 3) (Nat.le_of_ble_eq_true rfl)
  rw [lg_entry_eq]
  generalize (lg_sl ([.ref (ad i), .long b]) ++ List.replicate (3 - (lg_sl ([.ref (ad i), .long b])).length) Slot.unset).toArray = ls at hl ⊢
  have hl : lv_has ls 3 [(0, .ref (ad i)), (1, .long b)] := hl
  refine lv_aload_n hx hb dX3_isNumber_0 rfl (lv_at hl 0 rfl) ?_
  refine lv_lload_n hx hb dX3_isNumber_1 rfl (lv_at hl 1 rfl) ?_
  refine cv_w (As := [.long b]) (rest := []) ⟨hx, hb, hml, hown, hts⟩ (mX3_size l ad i hi b) (cwV 1 hts gX3_isNumber_X3_size rfl rfl rfl (by decide +kernel) ⟨Nat.le_of_ble_eq_true rfl, Nat.le_of_ble_eq_true rfl⟩) hE hS hi rfl rfl hl.1 (Nat.le_of_ble_eq_true rfl) dX3_isNumber_2 (Nat.zero_le _) (Nat.zero_le _) ?_
  refine lv_aload_n hx hb dX3_isNumber_5 rfl (lv_at hl 0 rfl) ?_
  refine va_getX hx hb hE.2.2.2.2 hi hS hown (hts (.fieldLink RX3 40 "TideGauges$Width" "endless" "J") (List.mem_of_getElem? (i := 1) rfl)) (fun _ h9 => h9) dX3_isNumber_6 ?_
  refine w_lc_gt (tgt := 17) hx hb dX3_isNumber_9 dX3_isNumber_10 (by decide) (fun c_1 => ?_) (fun c_1 => ?_)
  · refine lv_iconst (v := 0) hx hb dX3_isNumber_17 (by decide) ?_
    exact W.zret hx hb hr (b2i_nar false) (fun t ht hW => ⟨(by unfold fX3_isNumber; rw [if_pos c_1]), ht⟩) (fun q h => absurd h List.not_mem_nil) dX3_isNumber_18
  · refine lv_iconst (v := 1) hx hb dX3_isNumber_13 (by decide) ?_
    refine lv_goto (tgt := 18) hx hb dX3_isNumber_14 (by decide) ?_
    exact W.zret hx hb hr (b2i_nar true) (fun t ht hW => ⟨(by unfold fX3_isNumber; rw [if_neg c_1]), ht⟩) (fun q h => absurd h List.not_mem_nil) dX3_isNumber_18
def fX3_isEndless (i : Nat) (b : Int64) : Bool := if (fX3_size i b) = cEN i then true else false
set_option maxHeartbeats 4000000 in
set_option maxRecDepth 100000 in
theorem mX3_isEndless (l : Launch) (ad : Nat → Nat) (i : Nat) (hi : i < 2) (b : Int64) : Met l yX3_isEndless wsX3_isEndless ({ frames := 1, cells := 0, slots := 0, locals := 22 }) (pE ad [.ref (ad i), .long b]) (pQ (.int (b2i (fX3_isEndless i b)))) 0 0 (fun _ => False) := by
  refine Met.ofW (cc := cX3_isEndless) (maxL := 3) (ret := (some .boolean)) (by decide) rfl ?_
  intro p e s m args below meth c s₁ B hml hv
  obtain ⟨rfl, hE⟩ := hv
  have hx := B.exec
  have hb := B.bytes
  have hr := B.returns
  have hts := atoms_spec (ws := wsX3_isEndless) B.pre
  have hown : s.vm.findClass RX3 = some m.cls := findClass_of_methodNamed B.named
  have hlocks := B.notSynchronized
  have hS : va_S (fun _ => False) s.heap s.heap [] := va_S.rf
  have hl := lv_entry ([.ref (ad i), .long b]) (n := 3) (Nat.le_of_ble_eq_true rfl)
  rw [lg_entry_eq]
  generalize (lg_sl ([.ref (ad i), .long b]) ++ List.replicate (3 - (lg_sl ([.ref (ad i), .long b])).length) Slot.unset).toArray = ls at hl ⊢
  have hl : lv_has ls 3 [(0, .ref (ad i)), (1, .long b)] := hl
  refine lv_aload_n hx hb dX3_isEndless_0 rfl (lv_at hl 0 rfl) ?_
  refine lv_lload_n hx hb dX3_isEndless_1 rfl (lv_at hl 1 rfl) ?_
  refine cv_w (As := [.long b]) (rest := []) ⟨hx, hb, hml, hown, hts⟩ (mX3_size l ad i hi b) (cwV 1 hts gX3_isEndless_X3_size rfl rfl rfl (by decide +kernel) ⟨Nat.le_of_ble_eq_true rfl, Nat.le_of_ble_eq_true rfl⟩) hE hS hi rfl rfl hl.1 (Nat.le_of_ble_eq_true rfl) dX3_isEndless_2 (Nat.zero_le _) (Nat.zero_le _) ?_
  refine lv_aload_n hx hb dX3_isEndless_5 rfl (lv_at hl 0 rfl) ?_
  refine va_getX hx hb hE.2.2.2.2 hi hS hown (hts (.fieldLink RX3 40 "TideGauges$Width" "endless" "J") (List.mem_of_getElem? (i := 1) rfl)) (fun _ h9 => h9) dX3_isEndless_6 ?_
  refine w_lc_ne (tgt := 17) hx hb dX3_isEndless_9 dX3_isEndless_10 (by decide) (fun c_1 => ?_) (fun c_1 => ?_)
  · refine lv_iconst (v := 0) hx hb dX3_isEndless_17 (by decide) ?_
    exact W.zret hx hb hr (b2i_nar false) (fun t ht hW => ⟨(by unfold fX3_isEndless; rw [if_neg c_1]), ht⟩) (fun q h => absurd h List.not_mem_nil) dX3_isEndless_18
  · refine lv_iconst (v := 1) hx hb dX3_isEndless_13 (by decide) ?_
    refine lv_goto (tgt := 18) hx hb dX3_isEndless_14 (by decide) ?_
    exact W.zret hx hb hr (b2i_nar true) (fun t ht hW => ⟨(by unfold fX3_isEndless; rw [if_pos c_1]), ht⟩) (fun q h => absurd h List.not_mem_nil) dX3_isEndless_18
def fX3_isZero (i : Nat) (b : Int64) : Bool := if (fX3_size i b) = (0 : Int64) then true else false
set_option maxHeartbeats 4000000 in
set_option maxRecDepth 100000 in
theorem mX3_isZero (l : Launch) (ad : Nat → Nat) (i : Nat) (hi : i < 2) (b : Int64) : Met l yX3_isZero wsX3_isZero ({ frames := 1, cells := 0, slots := 0, locals := 22 }) (pE ad [.ref (ad i), .long b]) (pQ (.int (b2i (fX3_isZero i b)))) 0 0 (fun _ => False) := by
  refine Met.ofW (cc := cX3_isZero) (maxL := 3) (ret := (some .boolean)) (by decide) rfl ?_
  intro p e s m args below meth c s₁ B hml hv
  obtain ⟨rfl, hE⟩ := hv
  have hx := B.exec
  have hb := B.bytes
  have hr := B.returns
  have hts := atoms_spec (ws := wsX3_isZero) B.pre
  have hown : s.vm.findClass RX3 = some m.cls := findClass_of_methodNamed B.named
  have hlocks := B.notSynchronized
  have hS : va_S (fun _ => False) s.heap s.heap [] := va_S.rf
  have hl := lv_entry ([.ref (ad i), .long b]) (n := 3) (Nat.le_of_ble_eq_true rfl)
  rw [lg_entry_eq]
  generalize (lg_sl ([.ref (ad i), .long b]) ++ List.replicate (3 - (lg_sl ([.ref (ad i), .long b])).length) Slot.unset).toArray = ls at hl ⊢
  have hl : lv_has ls 3 [(0, .ref (ad i)), (1, .long b)] := hl
  refine lv_aload_n hx hb dX3_isZero_0 rfl (lv_at hl 0 rfl) ?_
  refine lv_lload_n hx hb dX3_isZero_1 rfl (lv_at hl 1 rfl) ?_
  refine cv_w (As := [.long b]) (rest := []) ⟨hx, hb, hml, hown, hts⟩ (mX3_size l ad i hi b) (cwV 1 hts gX3_isZero_X3_size rfl rfl rfl (by decide +kernel) ⟨Nat.le_of_ble_eq_true rfl, Nat.le_of_ble_eq_true rfl⟩) hE hS hi rfl rfl hl.1 (Nat.le_of_ble_eq_true rfl) dX3_isZero_2 (Nat.zero_le _) (Nat.zero_le _) ?_
  refine lv_lconst (v := 0) hx hb dX3_isZero_5 (by decide) ?_
  refine w_lc_ne (tgt := 14) hx hb dX3_isZero_6 dX3_isZero_7 (by decide) (fun c_1 => ?_) (fun c_1 => ?_)
  · refine lv_iconst (v := 0) hx hb dX3_isZero_14 (by decide) ?_
    exact W.zret hx hb hr (b2i_nar false) (fun t ht hW => ⟨(by unfold fX3_isZero; rw [if_neg c_1]), ht⟩) (fun q h => absurd h List.not_mem_nil) dX3_isZero_15
  · refine lv_iconst (v := 1) hx hb dX3_isZero_10 (by decide) ?_
    refine lv_goto (tgt := 15) hx hb dX3_isZero_11 (by decide) ?_
    exact W.zret hx hb hr (b2i_nar true) (fun t ht hW => ⟨(by unfold fX3_isZero; rw [if_pos c_1]), ht⟩) (fun q h => absurd h List.not_mem_nil) dX3_isZero_15
def fX3_isNegative (i : Nat) (b : Int64) : Bool := if (b &&& cSB i) = (0 : Int64) then false else true
set_option maxHeartbeats 4000000 in
set_option maxRecDepth 100000 in
theorem mX3_isNegative (l : Launch) (ad : Nat → Nat) (i : Nat) (hi : i < 2) (b : Int64) : Met l yX3_isNegative wsX3_isNegative ({ frames := 0, cells := 0, slots := 0, locals := 0 }) (pE ad [.ref (ad i), .long b]) (pQ (.int (b2i (fX3_isNegative i b)))) 0 0 (fun _ => False) := by
  refine Met.ofW (cc := cX3_isNegative) (maxL := 3) (ret := (some .boolean)) (by decide) rfl ?_
  intro p e s m args below meth c s₁ B hml hv
  obtain ⟨rfl, hE⟩ := hv
  have hx := B.exec
  have hb := B.bytes
  have hr := B.returns
  have hts := atoms_spec (ws := wsX3_isNegative) B.pre
  have hown : s.vm.findClass RX3 = some m.cls := findClass_of_methodNamed B.named
  have hlocks := B.notSynchronized
  have hS : va_S (fun _ => False) s.heap s.heap [] := va_S.rf
  have hl := lv_entry ([.ref (ad i), .long b]) (n := 3) (Nat.le_of_ble_eq_true rfl)
  rw [lg_entry_eq]
  generalize (lg_sl ([.ref (ad i), .long b]) ++ List.replicate (3 - (lg_sl ([.ref (ad i), .long b])).length) Slot.unset).toArray = ls at hl ⊢
  have hl : lv_has ls 3 [(0, .ref (ad i)), (1, .long b)] := hl
  refine lv_lload_n hx hb dX3_isNegative_0 rfl (lv_at hl 1 rfl) ?_
  refine lv_aload_n hx hb dX3_isNegative_1 rfl (lv_at hl 0 rfl) ?_
  refine va_getX hx hb hE.2.2.2.1 hi hS hown (hts (.fieldLink RX3 36 "TideGauges$Width" "signBit" "J") (List.mem_of_getElem? (i := 1) rfl)) (fun _ h9 => h9) dX3_isNegative_2 ?_
  refine lv_land hx hb dX3_isNegative_5 ?_
  refine lv_lconst (v := 0) hx hb dX3_isNegative_6 (by decide) ?_
  refine w_lc_eq (tgt := 15) hx hb dX3_isNegative_7 dX3_isNegative_8 (by decide) (fun c_1 => ?_) (fun c_1 => ?_)
  · refine lv_iconst (v := 0) hx hb dX3_isNegative_15 (by decide) ?_
    exact W.zret hx hb hr (b2i_nar false) (fun t ht hW => ⟨(by unfold fX3_isNegative; rw [if_pos c_1]), ht⟩) (fun q h => absurd h List.not_mem_nil) dX3_isNegative_16
  · refine lv_iconst (v := 1) hx hb dX3_isNegative_11 (by decide) ?_
    refine lv_goto (tgt := 16) hx hb dX3_isNegative_12 (by decide) ?_
    exact W.zret hx hb hr (b2i_nar true) (fun t ht hW => ⟨(by unfold fX3_isNegative; rw [if_neg c_1]), ht⟩) (fun q h => absurd h List.not_mem_nil) dX3_isNegative_16
def fX3_areUnlikeEndless (i : Nat) (a : Int64) (b : Int64) : Bool := if (fX3_isEndless i a) = true then (if (fX3_isEndless i b) = true then (if (fX3_isNegative i a) = (fX3_isNegative i b) then false else true) else false) else false
set_option maxHeartbeats 4000000 in
set_option maxRecDepth 100000 in
theorem mX3_areUnlikeEndless (l : Launch) (ad : Nat → Nat) (i : Nat) (hi : i < 2) (a : Int64) (b : Int64) : Met l yX3_areUnlikeEndless wsX3_areUnlikeEndless ({ frames := 2, cells := 0, slots := 0, locals := 44 }) (pE ad [.ref (ad i), .long a, .long b]) (pQ (.int (b2i (fX3_areUnlikeEndless i a b)))) 0 0 (fun _ => False) := by
  refine Met.ofW (cc := cX3_areUnlikeEndless) (maxL := 5) (ret := (some .boolean)) (by decide) rfl ?_
  intro p e s m args below meth c s₁ B hml hv
  obtain ⟨rfl, hE⟩ := hv
  have hx := B.exec
  have hb := B.bytes
  have hr := B.returns
  have hts := atoms_spec (ws := wsX3_areUnlikeEndless) B.pre
  have hown : s.vm.findClass RX3 = some m.cls := findClass_of_methodNamed B.named
  have hlocks := B.notSynchronized
  have hS : va_S (fun _ => False) s.heap s.heap [] := va_S.rf
  have hl := lv_entry ([.ref (ad i), .long a, .long b]) (n := 5) (Nat.le_of_ble_eq_true rfl)
  rw [lg_entry_eq]
  generalize (lg_sl ([.ref (ad i), .long a, .long b]) ++ List.replicate (5 - (lg_sl ([.ref (ad i), .long a, .long b])).length) Slot.unset).toArray = ls at hl ⊢
  have hl : lv_has ls 5 [(0, .ref (ad i)), (1, .long a), (3, .long b)] := hl
  refine lv_aload_n hx hb dX3_areUnlikeEndless_0 rfl (lv_at hl 0 rfl) ?_
  refine lv_lload_n hx hb dX3_areUnlikeEndless_1 rfl (lv_at hl 1 rfl) ?_
  refine cv_w (As := [.long a]) (rest := []) ⟨hx, hb, hml, hown, hts⟩ (mX3_isEndless l ad i hi a) (cwV 1 hts gX3_areUnlikeEndless_X3_isEndless rfl rfl rfl (by decide +kernel) ⟨Nat.le_of_ble_eq_true rfl, Nat.le_of_ble_eq_true rfl⟩) hE hS hi rfl rfl hl.1 (Nat.le_of_ble_eq_true rfl) dX3_areUnlikeEndless_2 (Nat.zero_le _) (Nat.zero_le _) ?_
  refine w_beq (tgt := 33) hx hb dX3_areUnlikeEndless_5 (by decide) (fun c_1 => ?_) (fun c_1 => ?_)
  · refine lv_iconst (v := 0) hx hb dX3_areUnlikeEndless_33 (by decide) ?_
    exact W.zret hx hb hr (b2i_nar false) (fun t ht hW => ⟨(by unfold fX3_areUnlikeEndless; rw [if_neg c_1]), ht⟩) (fun q h => absurd h List.not_mem_nil) dX3_areUnlikeEndless_34
  · refine lv_aload_n hx hb dX3_areUnlikeEndless_8 rfl (lv_at hl 0 rfl) ?_
    refine lv_lload_n hx hb dX3_areUnlikeEndless_9 rfl (lv_at hl 2 rfl) ?_
    refine cv_w (As := [.long b]) (rest := []) ⟨hx, hb, hml, hown, hts⟩ (mX3_isEndless l ad i hi b) (cwV 1 hts gX3_areUnlikeEndless_X3_isEndless rfl rfl rfl (by decide +kernel) ⟨Nat.le_of_ble_eq_true rfl, Nat.le_of_ble_eq_true rfl⟩) hE hS hi rfl rfl hl.1 (Nat.le_of_ble_eq_true rfl) dX3_areUnlikeEndless_10 (Nat.zero_le _) (Nat.zero_le _) ?_
    refine w_beq (tgt := 33) hx hb dX3_areUnlikeEndless_13 (by decide) (fun c_2 => ?_) (fun c_2 => ?_)
    · refine lv_iconst (v := 0) hx hb dX3_areUnlikeEndless_33 (by decide) ?_
      exact W.zret hx hb hr (b2i_nar false) (fun t ht hW => ⟨(by unfold fX3_areUnlikeEndless; rw [if_pos c_1, if_neg c_2]), ht⟩) (fun q h => absurd h List.not_mem_nil) dX3_areUnlikeEndless_34
    · refine lv_aload_n hx hb dX3_areUnlikeEndless_16 rfl (lv_at hl 0 rfl) ?_
      refine lv_lload_n hx hb dX3_areUnlikeEndless_17 rfl (lv_at hl 1 rfl) ?_
      refine cv_w (As := [.long a]) (rest := []) ⟨hx, hb, hml, hown, hts⟩ (mX3_isNegative l ad i hi a) (cwV 1 hts gX3_areUnlikeEndless_X3_isNegative rfl rfl rfl (by decide +kernel) ⟨Nat.le_of_ble_eq_true rfl, Nat.le_of_ble_eq_true rfl⟩) hE hS hi rfl rfl hl.1 (Nat.le_of_ble_eq_true rfl) dX3_areUnlikeEndless_18 (Nat.zero_le _) (Nat.zero_le _) ?_
      refine lv_aload_n hx hb dX3_areUnlikeEndless_21 rfl (lv_at hl 0 rfl) ?_
      refine lv_lload_n hx hb dX3_areUnlikeEndless_22 rfl (lv_at hl 2 rfl) ?_
      refine cv_w (As := [.long b]) (rest := [.int (b2i (fX3_isNegative i a))]) ⟨hx, hb, hml, hown, hts⟩ (mX3_isNegative l ad i hi b) (cwV 1 hts gX3_areUnlikeEndless_X3_isNegative rfl rfl rfl (by decide +kernel) ⟨Nat.le_of_ble_eq_true rfl, Nat.le_of_ble_eq_true rfl⟩) hE hS hi rfl rfl hl.1 (Nat.le_of_ble_eq_true rfl) dX3_areUnlikeEndless_23 (Nat.zero_le _) (Nat.zero_le _) ?_
      refine w_zeq (tgt := 33) hx hb dX3_areUnlikeEndless_26 (by decide) (fun c_3 => ?_) (fun c_3 => ?_)
      · refine lv_iconst (v := 0) hx hb dX3_areUnlikeEndless_33 (by decide) ?_
        exact W.zret hx hb hr (b2i_nar false) (fun t ht hW => ⟨(by unfold fX3_areUnlikeEndless; rw [if_pos c_1, if_pos c_2, if_pos c_3]), ht⟩) (fun q h => absurd h List.not_mem_nil) dX3_areUnlikeEndless_34
      · refine lv_iconst (v := 1) hx hb dX3_areUnlikeEndless_29 (by decide) ?_
        refine lv_goto (tgt := 34) hx hb dX3_areUnlikeEndless_30 (by decide) ?_
        exact W.zret hx hb hr (b2i_nar true) (fun t ht hW => ⟨(by unfold fX3_areUnlikeEndless; rw [if_pos c_1, if_pos c_2, if_neg c_3]), ht⟩) (fun q h => absurd h List.not_mem_nil) dX3_areUnlikeEndless_34
def fX3_signed (i : Nat) (neg : Bool) (sz : Int64) : Int64 := if neg = true then (sz ||| (-(cSB i))) else sz
set_option maxHeartbeats 4000000 in
set_option maxRecDepth 100000 in
theorem mX3_signed (l : Launch) (ad : Nat → Nat) (i : Nat) (hi : i < 2) (neg : Bool) (sz : Int64) : Met l yX3_signed wsX3_signed ({ frames := 0, cells := 0, slots := 0, locals := 0 }) (pE ad [.ref (ad i), .int (b2i neg), .long sz]) (pQ (.long (fX3_signed i neg sz))) 0 0 (fun _ => False) := by
  refine Met.ofW (cc := cX3_signed) (maxL := 4) (ret := (some .long)) (by decide) rfl ?_
  intro p e s m args below meth c s₁ B hml hv
  obtain ⟨rfl, hE⟩ := hv
  have hx := B.exec
  have hb := B.bytes
  have hr := B.returns
  have hts := atoms_spec (ws := wsX3_signed) B.pre
  have hown : s.vm.findClass RX3 = some m.cls := findClass_of_methodNamed B.named
  have hlocks := B.notSynchronized
  have hS : va_S (fun _ => False) s.heap s.heap [] := va_S.rf
  have hl := lv_entry ([.ref (ad i), .int (b2i neg), .long sz]) (n := 4) (Nat.le_of_ble_eq_true rfl)
  rw [lg_entry_eq]
  generalize (lg_sl ([.ref (ad i), .int (b2i neg), .long sz]) ++ List.replicate (4 - (lg_sl ([.ref (ad i), .int (b2i neg), .long sz])).length) Slot.unset).toArray = ls at hl ⊢
  have hl : lv_has ls 4 [(0, .ref (ad i)), (1, .int (b2i neg)), (2, .long sz)] := hl
  refine lv_iload_n hx hb dX3_signed_0 rfl (lv_at hl 1 rfl) ?_
  refine w_beq (tgt := 14) hx hb dX3_signed_1 (by decide) (fun c_1 => ?_) (fun c_1 => ?_)
  · refine lv_lload_n hx hb dX3_signed_14 rfl (lv_at hl 2 rfl) ?_
    exact W.lret hx hb hr (fun t ht hW => ⟨(by unfold fX3_signed; rw [if_neg c_1]), ht⟩) (fun q h => absurd h List.not_mem_nil) dX3_signed_15
  · refine lv_lload_n hx hb dX3_signed_4 rfl (lv_at hl 2 rfl) ?_
    refine lv_aload_n hx hb dX3_signed_5 rfl (lv_at hl 0 rfl) ?_
    refine va_getX hx hb hE.2.2.2.1 hi hS hown (hts (.fieldLink RX3 36 "TideGauges$Width" "signBit" "J") (List.mem_of_getElem? (i := 1) rfl)) (fun _ h9 => h9) dX3_signed_6 ?_
    refine lv_lneg hx hb dX3_signed_9 ?_
    refine lv_lor hx hb dX3_signed_10 ?_
    refine lv_goto (tgt := 15) hx hb dX3_signed_11 (by decide) ?_
    exact W.lret hx hb hr (fun t ht hW => ⟨(by unfold fX3_signed; rw [if_pos c_1]), ht⟩) (fun q h => absurd h List.not_mem_nil) dX3_signed_15
def fX3_asTold (i : Nat) (b : Int64) : Int64 := (fX3_signed i (fX3_isNegative i b) (fX3_size i b))
set_option maxHeartbeats 4000000 in
set_option maxRecDepth 100000 in
theorem mX3_asTold (l : Launch) (ad : Nat → Nat) (i : Nat) (hi : i < 2) (b : Int64) : Met l yX3_asTold wsX3_asTold ({ frames := 1, cells := 0, slots := 0, locals := 23 }) (pE ad [.ref (ad i), .long b]) (pQ (.long (fX3_asTold i b))) 0 0 (fun _ => False) := by
  refine Met.ofW (cc := cX3_asTold) (maxL := 3) (ret := (some .long)) (by decide) rfl ?_
  intro p e s m args below meth c s₁ B hml hv
  obtain ⟨rfl, hE⟩ := hv
  have hx := B.exec
  have hb := B.bytes
  have hr := B.returns
  have hts := atoms_spec (ws := wsX3_asTold) B.pre
  have hown : s.vm.findClass RX3 = some m.cls := findClass_of_methodNamed B.named
  have hlocks := B.notSynchronized
  have hS : va_S (fun _ => False) s.heap s.heap [] := va_S.rf
  have hl := lv_entry ([.ref (ad i), .long b]) (n := 3) (Nat.le_of_ble_eq_true rfl)
  rw [lg_entry_eq]
  generalize (lg_sl ([.ref (ad i), .long b]) ++ List.replicate (3 - (lg_sl ([.ref (ad i), .long b])).length) Slot.unset).toArray = ls at hl ⊢
  have hl : lv_has ls 3 [(0, .ref (ad i)), (1, .long b)] := hl
  refine lv_aload_n hx hb dX3_asTold_0 rfl (lv_at hl 0 rfl) ?_
  refine lv_aload_n hx hb dX3_asTold_1 rfl (lv_at hl 0 rfl) ?_
  refine lv_lload_n hx hb dX3_asTold_2 rfl (lv_at hl 1 rfl) ?_
  refine cv_w (As := [.long b]) (rest := [.ref (ad i)]) ⟨hx, hb, hml, hown, hts⟩ (mX3_isNegative l ad i hi b) (cwV 1 hts gX3_asTold_X3_isNegative rfl rfl rfl (by decide +kernel) ⟨Nat.le_of_ble_eq_true rfl, Nat.le_of_ble_eq_true rfl⟩) hE hS hi rfl rfl hl.1 (Nat.le_of_ble_eq_true rfl) dX3_asTold_3 (Nat.zero_le _) (Nat.zero_le _) ?_
  refine lv_aload_n hx hb dX3_asTold_6 rfl (lv_at hl 0 rfl) ?_
  refine lv_lload_n hx hb dX3_asTold_7 rfl (lv_at hl 1 rfl) ?_
  refine cv_w (As := [.long b]) (rest := [.int (b2i (fX3_isNegative i b)), .ref (ad i)]) ⟨hx, hb, hml, hown, hts⟩ (mX3_size l ad i hi b) (cwV 1 hts gX3_asTold_X3_size rfl rfl rfl (by decide +kernel) ⟨Nat.le_of_ble_eq_true rfl, Nat.le_of_ble_eq_true rfl⟩) hE hS hi rfl rfl hl.1 (Nat.le_of_ble_eq_true rfl) dX3_asTold_8 (Nat.zero_le _) (Nat.zero_le _) ?_
  refine cv_w (As := [.int (b2i (fX3_isNegative i b)), .long (fX3_size i b)]) (rest := []) ⟨hx, hb, hml, hown, hts⟩ (mX3_signed l ad i hi (fX3_isNegative i b) (fX3_size i b)) (cwV 2 hts gX3_asTold_X3_signed rfl rfl rfl (by decide +kernel) ⟨Nat.le_of_ble_eq_true rfl, Nat.le_of_ble_eq_true rfl⟩) hE hS hi rfl rfl hl.1 (Nat.le_of_ble_eq_true rfl) dX3_asTold_11 (Nat.zero_le _) (Nat.zero_le _) ?_
  exact W.lret hx hb hr (fun t ht hW => ⟨(by unfold fX3_asTold; rfl), ht⟩) (fun q h => absurd h List.not_mem_nil) dX3_asTold_14
def fX3_exponentField (i : Nat) (b : Int64) : Int32 := (((b &&& (cSB i - (1 : Int64))).toUInt64 >>> ((cFB i).toInt64.toUInt64 &&& Int64.toUInt64 63)).toInt64).toInt32
set_option maxHeartbeats 4000000 in
set_option maxRecDepth 100000 in
theorem mX3_exponentField (l : Launch) (ad : Nat → Nat) (i : Nat) (hi : i < 2) (b : Int64) : Met l yX3_exponentField wsX3_exponentField ({ frames := 0, cells := 0, slots := 0, locals := 0 }) (pE ad [.ref (ad i), .long b]) (pQ (.int (fX3_exponentField i b))) 0 0 (fun _ => False) := by
  refine Met.ofW (cc := cX3_exponentField) (maxL := 3) (ret := (some .int)) (by decide) rfl ?_
  intro p e s m args below meth c s₁ B hml hv
  obtain ⟨rfl, hE⟩ := hv
  have hx := B.exec
  have hb := B.bytes
  have hr := B.returns
  have hts := atoms_spec (ws := wsX3_exponentField) B.pre
  have hown : s.vm.findClass RX3 = some m.cls := findClass_of_methodNamed B.named
  have hlocks := B.notSynchronized
  have hS : va_S (fun _ => False) s.heap s.heap [] := va_S.rf
  have hl := lv_entry ([.ref (ad i), .long b]) (n := 3) (Nat.le_of_ble_eq_true rfl)
  rw [lg_entry_eq]
  generalize (lg_sl ([.ref (ad i), .long b]) ++ List.replicate (3 - (lg_sl ([.ref (ad i), .long b])).length) Slot.unset).toArray = ls at hl ⊢
  have hl : lv_has ls 3 [(0, .ref (ad i)), (1, .long b)] := hl
  refine lv_lload_n hx hb dX3_exponentField_0 rfl (lv_at hl 1 rfl) ?_
  refine lv_aload_n hx hb dX3_exponentField_1 rfl (lv_at hl 0 rfl) ?_
  refine va_getX hx hb hE.2.2.2.1 hi hS hown (hts (.fieldLink RX3 36 "TideGauges$Width" "signBit" "J") (List.mem_of_getElem? (i := 1) rfl)) (fun _ h9 => h9) dX3_exponentField_2 ?_
  refine lv_lconst (v := 1) hx hb dX3_exponentField_5 (by decide) ?_
  refine lv_lsub hx hb dX3_exponentField_6 ?_
  refine lv_land hx hb dX3_exponentField_7 ?_
  refine lv_aload_n hx hb dX3_exponentField_8 rfl (lv_at hl 0 rfl) ?_
  refine va_getX hx hb hE.2.1 hi hS hown (hts (.fieldLink RX3 29 "TideGauges$Width" "fractionBits" "I") (List.mem_of_getElem? (i := 2) rfl)) (fun _ h9 => h9) dX3_exponentField_9 ?_
  refine lv_lushr hx hb dX3_exponentField_12 rfl ?_
  refine lv_l2i hx hb dX3_exponentField_13 rfl ?_
  exact W.iret hx hb hr (fun t ht hW => ⟨(by unfold fX3_exponentField; rfl), ht⟩) (fun q h => absurd h List.not_mem_nil) dX3_exponentField_14
def fX3_exponent (i : Nat) (b : Int64) : Int32 := (cLE i + (if ((fX3_exponentField i b) - (1 : Int32)) < (0 : Int32) then (0 : Int32) else ((fX3_exponentField i b) - (1 : Int32))))
set_option maxHeartbeats 4000000 in
set_option maxRecDepth 100000 in
theorem mX3_exponent (l : Launch) (ad : Nat → Nat) (i : Nat) (hi : i < 2) (b : Int64) : Met l yX3_exponent wsX3_exponent ({ frames := 1, cells := 0, slots := 0, locals := 23 }) (pE ad [.ref (ad i), .long b]) (pQ (.int (fX3_exponent i b))) 0 0 (fun _ => False) := by
  refine Met.ofW (cc := cX3_exponent) (maxL := 3) (ret := (some .int)) (by decide) rfl ?_
  intro p e s m args below meth c s₁ B hml hv
  obtain ⟨rfl, hE⟩ := hv
  have hx := B.exec
  have hb := B.bytes
  have hr := B.returns
  have hts := atoms_spec (ws := wsX3_exponent) B.pre
  have hown : s.vm.findClass RX3 = some m.cls := findClass_of_methodNamed B.named
  have hlocks := B.notSynchronized
  have hS : va_S (fun _ => False) s.heap s.heap [] := va_S.rf
  have hl := lv_entry ([.ref (ad i), .long b]) (n := 3) (Nat.le_of_ble_eq_true rfl)
  rw [lg_entry_eq]
  generalize (lg_sl ([.ref (ad i), .long b]) ++ List.replicate (3 - (lg_sl ([.ref (ad i), .long b])).length) Slot.unset).toArray = ls at hl ⊢
  have hl : lv_has ls 3 [(0, .ref (ad i)), (1, .long b)] := hl
  refine lv_aload_n hx hb dX3_exponent_0 rfl (lv_at hl 0 rfl) ?_
  refine va_getX hx hb hE.2.2.1 hi hS hown (hts (.fieldLink RX3 33 "TideGauges$Width" "leastExponent" "I") (List.mem_of_getElem? (i := 1) rfl)) (fun _ h9 => h9) dX3_exponent_1 ?_
  refine lv_aload_n hx hb dX3_exponent_4 rfl (lv_at hl 0 rfl) ?_
  refine lv_lload_n hx hb dX3_exponent_5 rfl (lv_at hl 1 rfl) ?_
  refine cv_w (As := [.long b]) (rest := [.int (cLE i)]) ⟨hx, hb, hml, hown, hts⟩ (mX3_exponentField l ad i hi b) (cwV 1 hts gX3_exponent_X3_exponentField rfl rfl rfl (by decide +kernel) ⟨Nat.le_of_ble_eq_true rfl, Nat.le_of_ble_eq_true rfl⟩) hE hS hi rfl rfl hl.1 (Nat.le_of_ble_eq_true rfl) dX3_exponent_6 (Nat.zero_le _) (Nat.zero_le _) ?_
  refine lv_iconst (v := 1) hx hb dX3_exponent_9 (by decide) ?_
  refine lv_isub hx hb dX3_exponent_10 ?_
  refine lv_iconst (v := 0) hx hb dX3_exponent_11 (by decide) ?_
  refine va_mmax hx hb (hml.trans hl.1.symm) hown (hts (.methodLink RX3 106 Lib.Math.max.name) (List.mem_of_getElem? (i := 2) rfl)) (hts (.static Lib.Math.max.name) (List.mem_of_getElem? (i := 3) rfl)) (hts (.initialized "java/lang/Math") (List.mem_of_getElem? (i := 4) rfl)) (hts (.code Lib.Math.max.name Lib.Math.max.code 2 (some .int)) (List.mem_of_getElem? (i := 5) rfl)) (Nat.le_of_ble_eq_true rfl) (Nat.le_of_ble_eq_true rfl) (Nat.zero_le _) (Nat.zero_le _) dX3_exponent_12 ?_
  refine lv_iadd hx hb dX3_exponent_15 ?_
  exact W.iret hx hb hr (fun t ht hW => ⟨(by unfold fX3_exponent; rfl), ht⟩) (fun q h => absurd h List.not_mem_nil) dX3_exponent_16
def fX3_significand (i : Nat) (b : Int64) : Int64 := if (fX3_exponentField i b) = 0 then (b &&& (((1 : Int64) <<< ((cFB i).toInt64 &&& 63)) - (1 : Int64))) else ((b &&& (((1 : Int64) <<< ((cFB i).toInt64 &&& 63)) - (1 : Int64))) ||| ((1 : Int64) <<< ((cFB i).toInt64 &&& 63)))
set_option maxHeartbeats 4000000 in
set_option maxRecDepth 100000 in
theorem mX3_significand (l : Launch) (ad : Nat → Nat) (i : Nat) (hi : i < 2) (b : Int64) : Met l yX3_significand wsX3_significand ({ frames := 1, cells := 0, slots := 0, locals := 22 }) (pE ad [.ref (ad i), .long b]) (pQ (.long (fX3_significand i b))) 0 0 (fun _ => False) := by
  refine Met.ofW (cc := cX3_significand) (maxL := 7) (ret := (some .long)) (by decide) rfl ?_
  intro p e s m args below meth c s₁ B hml hv
  obtain ⟨rfl, hE⟩ := hv
  have hx := B.exec
  have hb := B.bytes
  have hr := B.returns
  have hts := atoms_spec (ws := wsX3_significand) B.pre
  have hown : s.vm.findClass RX3 = some m.cls := findClass_of_methodNamed B.named
  have hlocks := B.notSynchronized
  have hS : va_S (fun _ => False) s.heap s.heap [] := va_S.rf
  have hl := lv_entry ([.ref (ad i), .long b]) (n := 7) (Nat.le_of_ble_eq_true rfl)
  rw [lg_entry_eq]
  generalize (lg_sl ([.ref (ad i), .long b]) ++ List.replicate (7 - (lg_sl ([.ref (ad i), .long b])).length) Slot.unset).toArray = ls at hl ⊢
  have hl : lv_has ls 7 [(0, .ref (ad i)), (1, .long b)] := hl
  refine lv_lconst (v := 1) hx hb dX3_significand_0 (by decide) ?_
  refine lv_aload_n hx hb dX3_significand_1 rfl (lv_at hl 0 rfl) ?_
  refine va_getX hx hb hE.2.1 hi hS hown (hts (.fieldLink RX3 29 "TideGauges$Width" "fractionBits" "I") (List.mem_of_getElem? (i := 1) rfl)) (fun _ h9 => h9) dX3_significand_2 ?_
  refine lv_lshl hx hb dX3_significand_5 rfl ?_
  refine lv_lstore_n (lv' := [(3, .long ((1 : Int64) <<< ((cFB i).toInt64 &&& 63))), (0, .ref (ad i)), (1, .long b)]) hx hb dX3_significand_6 rfl hl (by decide) rfl (fun ls hl => ?_)
  refine lv_lload_n hx hb dX3_significand_7 rfl (lv_at hl 2 rfl) ?_
  refine lv_lload_n hx hb dX3_significand_8 rfl (lv_at hl 0 rfl) ?_
  refine lv_lconst (v := 1) hx hb dX3_significand_9 (by decide) ?_
  refine lv_lsub hx hb dX3_significand_10 ?_
  refine lv_land hx hb dX3_significand_11 ?_
  refine lv_lstore (lv' := [(5, .long (b &&& (((1 : Int64) <<< ((cFB i).toInt64 &&& 63)) - (1 : Int64)))), (3, .long ((1 : Int64) <<< ((cFB i).toInt64 &&& 63))), (0, .ref (ad i)), (1, .long b)]) hx hb dX3_significand_12 hl (by decide) rfl (fun ls hl => ?_)
  refine lv_aload_n hx hb dX3_significand_14 rfl (lv_at hl 2 rfl) ?_
  refine lv_lload_n hx hb dX3_significand_15 rfl (lv_at hl 3 rfl) ?_
  refine cv_w (As := [.long b]) (rest := []) ⟨hx, hb, hml, hown, hts⟩ (mX3_exponentField l ad i hi b) (cwV 1 hts gX3_significand_X3_exponentField rfl rfl rfl (by decide +kernel) ⟨Nat.le_of_ble_eq_true rfl, Nat.le_of_ble_eq_true rfl⟩) hE hS hi rfl rfl hl.1 (Nat.le_of_ble_eq_true rfl) dX3_significand_16 (Nat.zero_le _) (Nat.zero_le _) ?_
  refine lv_if_ne (tgt := 27) hx hb dX3_significand_19 (by decide) (fun c_1 => ?_) (fun c_1 => ?_)
  · refine lv_lload hx hb dX3_significand_27 (lv_at hl 0 rfl) ?_
    refine lv_lload_n hx hb dX3_significand_29 rfl (lv_at hl 1 rfl) ?_
    refine lv_lor hx hb dX3_significand_30 ?_
    exact W.lret hx hb hr (fun t ht hW => ⟨(by unfold fX3_significand; rw [if_neg c_1]), ht⟩) (fun q h => absurd h List.not_mem_nil) dX3_significand_31
  · refine lv_lload hx hb dX3_significand_22 (lv_at hl 0 rfl) ?_
    refine lv_goto (tgt := 31) hx hb dX3_significand_24 (by decide) ?_
    exact W.lret hx hb hr (fun t ht hW => ⟨(by unfold fX3_significand; rw [if_pos c_1]), ht⟩) (fun q h => absurd h List.not_mem_nil) dX3_significand_31
def fX3_negated (i : Nat) (b : Int64) : Int64 := if (fX3_isNegative i b) = true then (fX3_signed i false (fX3_size i b)) else (fX3_signed i true (fX3_size i b))
set_option maxHeartbeats 4000000 in
set_option maxRecDepth 100000 in
theorem mX3_negated (l : Launch) (ad : Nat → Nat) (i : Nat) (hi : i < 2) (b : Int64) : Met l yX3_negated wsX3_negated ({ frames := 1, cells := 0, slots := 0, locals := 23 }) (pE ad [.ref (ad i), .long b]) (pQ (.long (fX3_negated i b))) 0 0 (fun _ => False) := by
  refine Met.ofW (cc := cX3_negated) (maxL := 3) (ret := (some .long)) (by decide) rfl ?_
  intro p e s m args below meth c s₁ B hml hv
  obtain ⟨rfl, hE⟩ := hv
  have hx := B.exec
  have hb := B.bytes
  have hr := B.returns
  have hts := atoms_spec (ws := wsX3_negated) B.pre
  have hown : s.vm.findClass RX3 = some m.cls := findClass_of_methodNamed B.named
  have hlocks := B.notSynchronized
  have hS : va_S (fun _ => False) s.heap s.heap [] := va_S.rf
  have hl := lv_entry ([.ref (ad i), .long b]) (n := 3) (Nat.le_of_ble_eq_true rfl)
  rw [lg_entry_eq]
  generalize (lg_sl ([.ref (ad i), .long b]) ++ List.replicate (3 - (lg_sl ([.ref (ad i), .long b])).length) Slot.unset).toArray = ls at hl ⊢
  have hl : lv_has ls 3 [(0, .ref (ad i)), (1, .long b)] := hl
  refine lv_aload_n hx hb dX3_negated_0 rfl (lv_at hl 0 rfl) ?_
  refine lv_aload_n hx hb dX3_negated_1 rfl (lv_at hl 0 rfl) ?_
  refine lv_lload_n hx hb dX3_negated_2 rfl (lv_at hl 1 rfl) ?_
  refine cv_w (As := [.long b]) (rest := [.ref (ad i)]) ⟨hx, hb, hml, hown, hts⟩ (mX3_isNegative l ad i hi b) (cwV 1 hts gX3_negated_X3_isNegative rfl rfl rfl (by decide +kernel) ⟨Nat.le_of_ble_eq_true rfl, Nat.le_of_ble_eq_true rfl⟩) hE hS hi rfl rfl hl.1 (Nat.le_of_ble_eq_true rfl) dX3_negated_3 (Nat.zero_le _) (Nat.zero_le _) ?_
  refine w_bne (tgt := 13) hx hb dX3_negated_6 (by decide) (fun c_1 => ?_) (fun c_1 => ?_)
  · refine lv_iconst (v := 0) hx hb dX3_negated_13 (by decide) ?_
    refine lv_aload_n hx hb dX3_negated_14 rfl (lv_at hl 0 rfl) ?_
    refine lv_lload_n hx hb dX3_negated_15 rfl (lv_at hl 1 rfl) ?_
    refine cv_w (As := [.long b]) (rest := [.int (0 : Int32), .ref (ad i)]) ⟨hx, hb, hml, hown, hts⟩ (mX3_size l ad i hi b) (cwV 1 hts gX3_negated_X3_size rfl rfl rfl (by decide +kernel) ⟨Nat.le_of_ble_eq_true rfl, Nat.le_of_ble_eq_true rfl⟩) hE hS hi rfl rfl hl.1 (Nat.le_of_ble_eq_true rfl) dX3_negated_16 (Nat.zero_le _) (Nat.zero_le _) ?_
    refine cv_w (As := [.int (b2i false), .long (fX3_size i b)]) (rest := []) ⟨hx, hb, hml, hown, hts⟩ (mX3_signed l ad i hi false (fX3_size i b)) (cwV 2 hts gX3_negated_X3_signed rfl rfl rfl (by decide +kernel) ⟨Nat.le_of_ble_eq_true rfl, Nat.le_of_ble_eq_true rfl⟩) hE hS hi rfl rfl hl.1 (Nat.le_of_ble_eq_true rfl) dX3_negated_19 (Nat.zero_le _) (Nat.zero_le _) ?_
    exact W.lret hx hb hr (fun t ht hW => ⟨(by unfold fX3_negated; rw [if_pos c_1]), ht⟩) (fun q h => absurd h List.not_mem_nil) dX3_negated_22
  · refine lv_iconst (v := 1) hx hb dX3_negated_9 (by decide) ?_
    refine lv_goto (tgt := 14) hx hb dX3_negated_10 (by decide) ?_
    refine lv_aload_n hx hb dX3_negated_14 rfl (lv_at hl 0 rfl) ?_
    refine lv_lload_n hx hb dX3_negated_15 rfl (lv_at hl 1 rfl) ?_
    refine cv_w (As := [.long b]) (rest := [.int (1 : Int32), .ref (ad i)]) ⟨hx, hb, hml, hown, hts⟩ (mX3_size l ad i hi b) (cwV 1 hts gX3_negated_X3_size rfl rfl rfl (by decide +kernel) ⟨Nat.le_of_ble_eq_true rfl, Nat.le_of_ble_eq_true rfl⟩) hE hS hi rfl rfl hl.1 (Nat.le_of_ble_eq_true rfl) dX3_negated_16 (Nat.zero_le _) (Nat.zero_le _) ?_
    refine cv_w (As := [.int (b2i true), .long (fX3_size i b)]) (rest := []) ⟨hx, hb, hml, hown, hts⟩ (mX3_signed l ad i hi true (fX3_size i b)) (cwV 2 hts gX3_negated_X3_signed rfl rfl rfl (by decide +kernel) ⟨Nat.le_of_ble_eq_true rfl, Nat.le_of_ble_eq_true rfl⟩) hE hS hi rfl rfl hl.1 (Nat.le_of_ble_eq_true rfl) dX3_negated_19 (Nat.zero_le _) (Nat.zero_le _) ?_
    exact W.lret hx hb hr (fun t ht hW => ⟨(by unfold fX3_negated; rw [if_neg c_1]), ht⟩) (fun q h => absurd h List.not_mem_nil) dX3_negated_22
def fX3_withoutLowest (mg : Int64) (dr : Int32) : Int64 := if dr ≤ (63 : Int32) then (if ((1 : Int64) <<< ((dr - (1 : Int32)).toInt64 &&& 63)) < (mg - ((mg.toUInt64 >>> (dr.toInt64.toUInt64 &&& Int64.toUInt64 63)).toInt64 <<< (dr.toInt64 &&& 63))) then ((mg.toUInt64 >>> (dr.toInt64.toUInt64 &&& Int64.toUInt64 63)).toInt64 + (1 : Int64)) else (if (mg - ((mg.toUInt64 >>> (dr.toInt64.toUInt64 &&& Int64.toUInt64 63)).toInt64 <<< (dr.toInt64 &&& 63))) = ((1 : Int64) <<< ((dr - (1 : Int32)).toInt64 &&& 63)) then (if ((mg.toUInt64 >>> (dr.toInt64.toUInt64 &&& Int64.toUInt64 63)).toInt64 &&& (1 : Int64)) = (1 : Int64) then ((mg.toUInt64 >>> (dr.toInt64.toUInt64 &&& Int64.toUInt64 63)).toInt64 + (1 : Int64)) else ((mg.toUInt64 >>> (dr.toInt64.toUInt64 &&& Int64.toUInt64 63)).toInt64)) else ((mg.toUInt64 >>> (dr.toInt64.toUInt64 &&& Int64.toUInt64 63)).toInt64))) else (0 : Int64)
set_option maxHeartbeats 4000000 in
set_option maxRecDepth 100000 in
theorem mX3_withoutLowest (l : Launch) (mg : Int64) (dr : Int32) : Met l yX3_withoutLowest wsX3_withoutLowest ({ frames := 0, cells := 0, slots := 0, locals := 0 }) (p0 [.long mg, .int dr]) (pQ (.long (fX3_withoutLowest mg dr))) 0 0 (fun _ => False) := by
  refine Met.ofW (cc := cX3_withoutLowest) (maxL := 10) (ret := (some .long)) (by decide) rfl ?_
  intro p e s m args below meth c s₁ B hml hv
  obtain ⟨rfl, hE⟩ := hv
  have hx := B.exec
  have hb := B.bytes
  have hr := B.returns
  have hts := atoms_spec (ws := wsX3_withoutLowest) B.pre
  have hown : s.vm.findClass RX3 = some m.cls := findClass_of_methodNamed B.named
  have hlocks := B.notSynchronized
  have hS : va_S (fun _ => False) s.heap s.heap [] := va_S.rf
  have hl := lv_entry ([.long mg, .int dr]) (n := 10) (Nat.le_of_ble_eq_true rfl)
  rw [lg_entry_eq]
  generalize (lg_sl ([.long mg, .int dr]) ++ List.replicate (10 - (lg_sl ([.long mg, .int dr])).length) Slot.unset).toArray = ls at hl ⊢
  have hl : lv_has ls 10 [(0, .long mg), (2, .int dr)] := hl
  refine lv_iload_n hx hb dX3_withoutLowest_0 rfl (lv_at hl 1 rfl) ?_
  refine lv_bipush (v := 63) hx hb dX3_withoutLowest_1 (by decide) ?_
  refine lv_icmp_le (tgt := 8) hx hb dX3_withoutLowest_3 (by decide) (fun c_1 => ?_) (fun c_1 => ?_)
  · refine lv_lload_n hx hb dX3_withoutLowest_8 rfl (lv_at hl 0 rfl) ?_
    refine lv_iload_n hx hb dX3_withoutLowest_9 rfl (lv_at hl 1 rfl) ?_
    refine lv_lushr hx hb dX3_withoutLowest_10 rfl ?_
    refine lv_lstore_n (lv' := [(3, .long ((mg.toUInt64 >>> (dr.toInt64.toUInt64 &&& Int64.toUInt64 63)).toInt64)), (0, .long mg), (2, .int dr)]) hx hb dX3_withoutLowest_11 rfl hl (by decide) rfl (fun ls hl => ?_)
    refine lv_lload_n hx hb dX3_withoutLowest_12 rfl (lv_at hl 1 rfl) ?_
    refine lv_lload_n hx hb dX3_withoutLowest_13 rfl (lv_at hl 0 rfl) ?_
    refine lv_iload_n hx hb dX3_withoutLowest_14 rfl (lv_at hl 2 rfl) ?_
    refine lv_lshl hx hb dX3_withoutLowest_15 rfl ?_
    refine lv_lsub hx hb dX3_withoutLowest_16 ?_
    refine lv_lstore (lv' := [(5, .long (mg - ((mg.toUInt64 >>> (dr.toInt64.toUInt64 &&& Int64.toUInt64 63)).toInt64 <<< (dr.toInt64 &&& 63)))), (3, .long ((mg.toUInt64 >>> (dr.toInt64.toUInt64 &&& Int64.toUInt64 63)).toInt64)), (0, .long mg), (2, .int dr)]) hx hb dX3_withoutLowest_17 hl (by decide) rfl (fun ls hl => ?_)
    refine lv_lconst (v := 1) hx hb dX3_withoutLowest_19 (by decide) ?_
    refine lv_iload_n hx hb dX3_withoutLowest_20 rfl (lv_at hl 3 rfl) ?_
    refine lv_iconst (v := 1) hx hb dX3_withoutLowest_21 (by decide) ?_
    refine lv_isub hx hb dX3_withoutLowest_22 ?_
    refine lv_lshl hx hb dX3_withoutLowest_23 rfl ?_
    refine lv_lstore (lv' := [(7, .long ((1 : Int64) <<< ((dr - (1 : Int32)).toInt64 &&& 63))), (5, .long (mg - ((mg.toUInt64 >>> (dr.toInt64.toUInt64 &&& Int64.toUInt64 63)).toInt64 <<< (dr.toInt64 &&& 63)))), (3, .long ((mg.toUInt64 >>> (dr.toInt64.toUInt64 &&& Int64.toUInt64 63)).toInt64)), (0, .long mg), (2, .int dr)]) hx hb dX3_withoutLowest_24 hl (by decide) rfl (fun ls hl => ?_)
    refine lv_lload hx hb dX3_withoutLowest_26 (lv_at hl 1 rfl) ?_
    refine lv_lload hx hb dX3_withoutLowest_28 (lv_at hl 0 rfl) ?_
    refine w_lc_gt (tgt := 50) hx hb dX3_withoutLowest_30 dX3_withoutLowest_31 (by decide) (fun c_2 => ?_) (fun c_2 => ?_)
    · refine lv_iconst (v := 1) hx hb dX3_withoutLowest_50 (by decide) ?_
      refine lv_goto (tgt := 55) hx hb dX3_withoutLowest_51 (by decide) ?_
      refine lv_istore (lv' := [(9, .int (1 : Int32)), (7, .long ((1 : Int64) <<< ((dr - (1 : Int32)).toInt64 &&& 63))), (5, .long (mg - ((mg.toUInt64 >>> (dr.toInt64.toUInt64 &&& Int64.toUInt64 63)).toInt64 <<< (dr.toInt64 &&& 63)))), (3, .long ((mg.toUInt64 >>> (dr.toInt64.toUInt64 &&& Int64.toUInt64 63)).toInt64)), (0, .long mg), (2, .int dr)]) hx hb dX3_withoutLowest_55 hl (by decide) rfl (fun ls hl => ?_)
      refine lv_iload hx hb dX3_withoutLowest_57 (lv_at hl 0 rfl) ?_
      refine lv_if_eq (tgt := 68) hx hb dX3_withoutLowest_59 (by decide) (fun c_3 => ?_) (fun c_3 => ?_)
      · exact absurd c_3 (by decide)
      refine lv_lload_n hx hb dX3_withoutLowest_62 rfl (lv_at hl 3 rfl) ?_
      refine lv_lconst (v := 1) hx hb dX3_withoutLowest_63 (by decide) ?_
      refine lv_ladd hx hb dX3_withoutLowest_64 ?_
      refine lv_goto (tgt := 69) hx hb dX3_withoutLowest_65 (by decide) ?_
      exact W.lret hx hb hr (fun t ht hW => ⟨(by unfold fX3_withoutLowest; rw [if_pos c_1, if_pos c_2]), ht⟩) (fun q h => absurd h List.not_mem_nil) dX3_withoutLowest_69
    · refine lv_lload hx hb dX3_withoutLowest_34 (lv_at hl 1 rfl) ?_
      refine lv_lload hx hb dX3_withoutLowest_36 (lv_at hl 0 rfl) ?_
      refine w_lc_ne (tgt := 54) hx hb dX3_withoutLowest_38 dX3_withoutLowest_39 (by decide) (fun c_4 => ?_) (fun c_4 => ?_)
      · refine lv_iconst (v := 0) hx hb dX3_withoutLowest_54 (by decide) ?_
        refine lv_istore (lv' := [(9, .int (0 : Int32)), (7, .long ((1 : Int64) <<< ((dr - (1 : Int32)).toInt64 &&& 63))), (5, .long (mg - ((mg.toUInt64 >>> (dr.toInt64.toUInt64 &&& Int64.toUInt64 63)).toInt64 <<< (dr.toInt64 &&& 63)))), (3, .long ((mg.toUInt64 >>> (dr.toInt64.toUInt64 &&& Int64.toUInt64 63)).toInt64)), (0, .long mg), (2, .int dr)]) hx hb dX3_withoutLowest_55 hl (by decide) rfl (fun ls hl => ?_)
        refine lv_iload hx hb dX3_withoutLowest_57 (lv_at hl 0 rfl) ?_
        refine lv_if_eq (tgt := 68) hx hb dX3_withoutLowest_59 (by decide) (fun c_5 => ?_) (fun c_5 => ?_)
        rotate_left
        · exact absurd c_5 (by decide)
        refine lv_lload_n hx hb dX3_withoutLowest_68 rfl (lv_at hl 3 rfl) ?_
        exact W.lret hx hb hr (fun t ht hW => ⟨(by unfold fX3_withoutLowest; rw [if_pos c_1, if_neg c_2, if_neg c_4]), ht⟩) (fun q h => absurd h List.not_mem_nil) dX3_withoutLowest_69
      · refine lv_lload_n hx hb dX3_withoutLowest_42 rfl (lv_at hl 2 rfl) ?_
        refine lv_lconst (v := 1) hx hb dX3_withoutLowest_43 (by decide) ?_
        refine lv_land hx hb dX3_withoutLowest_44 ?_
        refine lv_lconst (v := 1) hx hb dX3_withoutLowest_45 (by decide) ?_
        refine w_lc_ne (tgt := 54) hx hb dX3_withoutLowest_46 dX3_withoutLowest_47 (by decide) (fun c_6 => ?_) (fun c_6 => ?_)
        · refine lv_iconst (v := 0) hx hb dX3_withoutLowest_54 (by decide) ?_
          refine lv_istore (lv' := [(9, .int (0 : Int32)), (7, .long ((1 : Int64) <<< ((dr - (1 : Int32)).toInt64 &&& 63))), (5, .long (mg - ((mg.toUInt64 >>> (dr.toInt64.toUInt64 &&& Int64.toUInt64 63)).toInt64 <<< (dr.toInt64 &&& 63)))), (3, .long ((mg.toUInt64 >>> (dr.toInt64.toUInt64 &&& Int64.toUInt64 63)).toInt64)), (0, .long mg), (2, .int dr)]) hx hb dX3_withoutLowest_55 hl (by decide) rfl (fun ls hl => ?_)
          refine lv_iload hx hb dX3_withoutLowest_57 (lv_at hl 0 rfl) ?_
          refine lv_if_eq (tgt := 68) hx hb dX3_withoutLowest_59 (by decide) (fun c_7 => ?_) (fun c_7 => ?_)
          rotate_left
          · exact absurd c_7 (by decide)
          refine lv_lload_n hx hb dX3_withoutLowest_68 rfl (lv_at hl 3 rfl) ?_
          exact W.lret hx hb hr (fun t ht hW => ⟨(by unfold fX3_withoutLowest; rw [if_pos c_1, if_neg c_2, if_pos c_4, if_neg c_6]), ht⟩) (fun q h => absurd h List.not_mem_nil) dX3_withoutLowest_69
        · refine lv_iconst (v := 1) hx hb dX3_withoutLowest_50 (by decide) ?_
          refine lv_goto (tgt := 55) hx hb dX3_withoutLowest_51 (by decide) ?_
          refine lv_istore (lv' := [(9, .int (1 : Int32)), (7, .long ((1 : Int64) <<< ((dr - (1 : Int32)).toInt64 &&& 63))), (5, .long (mg - ((mg.toUInt64 >>> (dr.toInt64.toUInt64 &&& Int64.toUInt64 63)).toInt64 <<< (dr.toInt64 &&& 63)))), (3, .long ((mg.toUInt64 >>> (dr.toInt64.toUInt64 &&& Int64.toUInt64 63)).toInt64)), (0, .long mg), (2, .int dr)]) hx hb dX3_withoutLowest_55 hl (by decide) rfl (fun ls hl => ?_)
          refine lv_iload hx hb dX3_withoutLowest_57 (lv_at hl 0 rfl) ?_
          refine lv_if_eq (tgt := 68) hx hb dX3_withoutLowest_59 (by decide) (fun c_8 => ?_) (fun c_8 => ?_)
          · exact absurd c_8 (by decide)
          refine lv_lload_n hx hb dX3_withoutLowest_62 rfl (lv_at hl 3 rfl) ?_
          refine lv_lconst (v := 1) hx hb dX3_withoutLowest_63 (by decide) ?_
          refine lv_ladd hx hb dX3_withoutLowest_64 ?_
          refine lv_goto (tgt := 69) hx hb dX3_withoutLowest_65 (by decide) ?_
          exact W.lret hx hb hr (fun t ht hW => ⟨(by unfold fX3_withoutLowest; rw [if_pos c_1, if_neg c_2, if_pos c_4, if_pos c_6]), ht⟩) (fun q h => absurd h List.not_mem_nil) dX3_withoutLowest_69
  · refine lv_lconst (v := 0) hx hb dX3_withoutLowest_6 (by decide) ?_
    exact W.lret hx hb hr (fun t ht hW => ⟨(by unfold fX3_withoutLowest; rw [if_neg c_1]), ht⟩) (fun q h => absurd h List.not_mem_nil) dX3_withoutLowest_7
def fX3_shiftedWithTrace (v : Int64) (by_ : Int32) : Int64 := if by_ ≤ (63 : Int32) then (if ((v.toUInt64 >>> (by_.toInt64.toUInt64 &&& Int64.toUInt64 63)).toInt64 <<< (by_.toInt64 &&& 63)) = v then ((v.toUInt64 >>> (by_.toInt64.toUInt64 &&& Int64.toUInt64 63)).toInt64) else ((v.toUInt64 >>> (by_.toInt64.toUInt64 &&& Int64.toUInt64 63)).toInt64 ||| (1 : Int64))) else (0 : Int64)
set_option maxHeartbeats 4000000 in
set_option maxRecDepth 100000 in
theorem mX3_shiftedWithTrace (l : Launch) (v : Int64) (by_ : Int32) : Met l yX3_shiftedWithTrace wsX3_shiftedWithTrace ({ frames := 0, cells := 0, slots := 0, locals := 0 }) (p0 [.long v, .int by_]) (pQ (.long (fX3_shiftedWithTrace v by_))) 0 0 (fun _ => False) := by
  refine Met.ofW (cc := cX3_shiftedWithTrace) (maxL := 5) (ret := (some .long)) (by decide) rfl ?_
  intro p e s m args below meth c s₁ B hml hv
  obtain ⟨rfl, hE⟩ := hv
  have hx := B.exec
  have hb := B.bytes
  have hr := B.returns
  have hts := atoms_spec (ws := wsX3_shiftedWithTrace) B.pre
  have hown : s.vm.findClass RX3 = some m.cls := findClass_of_methodNamed B.named
  have hlocks := B.notSynchronized
  have hS : va_S (fun _ => False) s.heap s.heap [] := va_S.rf
  have hl := lv_entry ([.long v, .int by_]) (n := 5) (Nat.le_of_ble_eq_true rfl)
  rw [lg_entry_eq]
  generalize (lg_sl ([.long v, .int by_]) ++ List.replicate (5 - (lg_sl ([.long v, .int by_])).length) Slot.unset).toArray = ls at hl ⊢
  have hl : lv_has ls 5 [(0, .long v), (2, .int by_)] := hl
  refine lv_iload_n hx hb dX3_shiftedWithTrace_0 rfl (lv_at hl 1 rfl) ?_
  refine lv_bipush (v := 63) hx hb dX3_shiftedWithTrace_1 (by decide) ?_
  refine lv_icmp_le (tgt := 8) hx hb dX3_shiftedWithTrace_3 (by decide) (fun c_1 => ?_) (fun c_1 => ?_)
  · refine lv_lload_n hx hb dX3_shiftedWithTrace_8 rfl (lv_at hl 0 rfl) ?_
    refine lv_iload_n hx hb dX3_shiftedWithTrace_9 rfl (lv_at hl 1 rfl) ?_
    refine lv_lushr hx hb dX3_shiftedWithTrace_10 rfl ?_
    refine lv_lstore_n (lv' := [(3, .long ((v.toUInt64 >>> (by_.toInt64.toUInt64 &&& Int64.toUInt64 63)).toInt64)), (0, .long v), (2, .int by_)]) hx hb dX3_shiftedWithTrace_11 rfl hl (by decide) rfl (fun ls hl => ?_)
    refine lv_lload_n hx hb dX3_shiftedWithTrace_12 rfl (lv_at hl 0 rfl) ?_
    refine lv_iload_n hx hb dX3_shiftedWithTrace_13 rfl (lv_at hl 2 rfl) ?_
    refine lv_lshl hx hb dX3_shiftedWithTrace_14 rfl ?_
    refine lv_lload_n hx hb dX3_shiftedWithTrace_15 rfl (lv_at hl 1 rfl) ?_
    refine w_lc_ne (tgt := 24) hx hb dX3_shiftedWithTrace_16 dX3_shiftedWithTrace_17 (by decide) (fun c_2 => ?_) (fun c_2 => ?_)
    · refine lv_lload_n hx hb dX3_shiftedWithTrace_24 rfl (lv_at hl 0 rfl) ?_
      refine lv_lconst (v := 1) hx hb dX3_shiftedWithTrace_25 (by decide) ?_
      refine lv_lor hx hb dX3_shiftedWithTrace_26 ?_
      exact W.lret hx hb hr (fun t ht hW => ⟨(by unfold fX3_shiftedWithTrace; rw [if_pos c_1, if_neg c_2]), ht⟩) (fun q h => absurd h List.not_mem_nil) dX3_shiftedWithTrace_27
    · refine lv_lload_n hx hb dX3_shiftedWithTrace_20 rfl (lv_at hl 0 rfl) ?_
      refine lv_goto (tgt := 27) hx hb dX3_shiftedWithTrace_21 (by decide) ?_
      exact W.lret hx hb hr (fun t ht hW => ⟨(by unfold fX3_shiftedWithTrace; rw [if_pos c_1, if_pos c_2]), ht⟩) (fun q h => absurd h List.not_mem_nil) dX3_shiftedWithTrace_27
  · refine lv_lconst (v := 0) hx hb dX3_shiftedWithTrace_6 (by decide) ?_
    exact W.lret hx hb hr (fun t ht hW => ⟨(by unfold fX3_shiftedWithTrace; rw [if_neg c_1]), ht⟩) (fun q h => absurd h List.not_mem_nil) dX3_shiftedWithTrace_7
