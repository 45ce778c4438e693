def fX3_size (i : Nat) (b : Int64) : Int64 := (b &&& (cSB i - (1 : Int64)))
set_option maxHeartbeats 4000000 in
set_option maxRecDepth 100000 in
theorem mX3_size (l : Launch) (ad : Nat → Nat) (i : Nat) (hi : i < 2) (b : Int64) : Met l yX3_size wsX3_size ({ frames := 0, cells := 0, slots := 0, locals := 0 }) (pE ad [.ref (ad i), .long b]) (pQ (.long (fX3_size i b))) 0 0 (fun _ => False) := by
  refine Met.ofW (cc := cX3_size) (maxL := 3) (ret := (some .long)) (by decide) rfl ?_
  intro p e s m args below meth c s₁ B hml hv
  obtain ⟨rfl, hE⟩ := hv
  have hx := B.exec
  have hb := B.bytes
  have hr := B.returns
  have hts := atoms_spec (ws := wsX3_size) B.pre
  have hown : s.vm.findClass RX3 = some m.cls := findClass_of_methodNamed B.named
  have hlocks := B.notSynchronized
  have hS : va_S (fun _ => False) s.heap s.heap [] := va_S.rf
  have hl := lv_entry ([.ref (ad i), .long b]) (n := 3) (Nat.le_of_ble_eq_true rfl)
  rw [lg_entry_eq]
  generalize (lg_sl ([.ref (ad i), .long b]) ++ List.replicate (3 - (lg_sl ([.ref (ad i), .long b])).length) Slot.unset).toArray = ls at hl ⊢
  have hl : lv_has ls 3 [(0, .ref (ad i)), (1, .long b)] := hl
  refine lv_lload_n hx hb dX3_size_0 rfl (lv_at hl 1 rfl) ?_
  refine lv_aload_n hx hb dX3_size_1 rfl (lv_at hl 0 rfl) ?_
  refine va_getX hx hb hE.2.2.2.1 hi hS hown (hts (.fieldLink RX3 36 "TideGauges$Width" "signBit" "J") (List.mem_of_getElem? (i := 1) rfl)) (fun _ h9 => h9) dX3_size_2 ?_
  refine lv_lconst (v := 1) hx hb dX3_size_5 (by decide) ?_
  refine lv_lsub hx hb dX3_size_6 ?_
  refine lv_land hx hb dX3_size_7 ?_
  exact W.lret hx hb hr (fun t ht hW => ⟨(by unfold fX3_size; rfl), ht⟩) (fun q h => absurd h List.not_mem_nil) dX3_size_8
def fX3_isNumber (i : Nat) (b : Int64) : Bool := if cEN i < (fX3_size i b) then false else true
set_option maxHeartbeats 4000000 in
set_option maxRecDepth 100000 in
theorem mX3_isNumber (l : Launch) (ad : Nat → Nat) (i : Nat) (hi : i < 2) (b : Int64) : Met l yX3_isNumber wsX3_isNumber ({ frames := 1, cells := 0, slots := 0, locals := 22 }) (pE ad [.ref (ad i), .long b]) (pQ (.int (b2i (fX3_isNumber i b)))) 0 0 (fun _ => False) := by
  refine Met.ofW (cc := cX3_isNumber) (maxL := 3) (ret := (some .boolean)) (by decide) rfl ?_
  intro p e s m args below meth c s₁ B hml hv
  obtain ⟨rfl, hE⟩ := hv
  have hx := B.exec
  have hb := B.bytes
  have hr := B.returns
  have hts := atoms_spec (ws := wsX3_isNumber) B.pre
  have hown : s.vm.findClass RX3 = some m.cls := findClass_of_methodNamed B.named
  have hlocks := B.notSynchronized
  have hS : va_S (fun _ => False) s.heap s.heap [] := va_S.rf
  have hl := lv_entry ([.ref (ad i), .long b]) (n := 3) (Nat.le_of_ble_eq_true rfl)
  rw [lg_entry_eq]
  generalize (lg_sl ([.ref (ad i), .long b]) ++ List.replicate (3 - (lg_sl ([.ref (ad i), .long b])).length) Slot.unset).toArray = ls at hl ⊢
  have hl : lv_has ls 3 [(0, .ref (ad i)), (1, .long b)] := hl
  refine lv_aload_n hx hb dX3_isNumber_0 rfl (lv_at hl 0 rfl) ?_
  refine lv_lload_n hx hb dX3_isNumber_1 rfl (lv_at hl 1 rfl) ?_
  refine cv_w (As := [.long b]) (rest := []) ⟨hx, hb, hml, hown, hts⟩ (mX3_size l ad i hi b) (cwV 1 hts gX3_isNumber_X3_size rfl rfl rfl (by decide +kernel) ⟨Nat.le_of_ble_eq_true rfl, Nat.le_of_ble_eq_true rfl⟩) hE hS hi rfl rfl hl.1 (Nat.le_of_ble_eq_true rfl) dX3_isNumber_2 (Nat.zero_le _) (Nat.zero_le _) ?_
  refine lv_aload_n hx hb dX3_isNumber_5 rfl (lv_at hl 0 rfl) ?_
  refine va_getX hx hb hE.2.2.2.2 hi hS hown (hts (.fieldLink RX3 40 "TideGauges$Width" "endless" "J") (List.mem_of_getElem? (i := 1) rfl)) (fun _ h9 => h9) dX3_isNumber_6 ?_
  refine w_lc_gt (tgt := 17) hx hb dX3_isNumber_9 dX3_isNumber_10 (by decide) (fun c_1 => ?_) (fun c_1 => ?_)
  · refine lv_iconst (v := 0) hx hb dX3_isNumber_17 (by decide) ?_
    exact W.zret hx hb hr (b2i_nar false) (fun t ht hW => ⟨(by unfold fX3_isNumber; rw [if_pos c_1]), ht⟩) (fun q h => absurd h List.not_mem_nil) dX3_isNumber_18
  · refine lv_iconst (v := 1) hx hb dX3_isNumber_13 (by decide) ?_
    refine lv_goto (tgt := 18) hx hb dX3_isNumber_14 (by decide) ?_
    exact W.zret hx hb hr (b2i_nar true) (fun t ht hW => ⟨(by unfold fX3_isNumber; rw [if_neg c_1]), ht⟩) (fun q h => absurd h List.not_mem_nil) dX3_isNumber_18
def fX3_isEndless (i : Nat) (b : Int64) : Bool := if (fX3_size i b) = cEN i then true else false
set_option maxHeartbeats 4000000 in
set_option maxRecDepth 100000 in
theorem mX3_isEndless (l : Launch) (ad : Nat → Nat) (i : Nat) (hi : i < 2) (b : Int64) : Met l yX3_isEndless wsX3_isEndless ({ frames := 1, cells := 0, slots := 0, locals := 22 }) (pE ad [.ref (ad i), .long b]) (pQ (.int (b2i (fX3_isEndless i b)))) 0 0 (fun _ => False) := by
  refine Met.ofW (cc := cX3_isEndless) (maxL := 3) (ret := (some .boolean)) (by decide) rfl ?_
  intro p e s m args below meth c s₁ B hml hv
  obtain ⟨rfl, hE⟩ := hv
  have hx := B.exec
  have hb := B.bytes
  have hr := B.returns
  have hts := atoms_spec (ws := wsX3_isEndless) B.pre
  have hown : s.vm.findClass RX3 = some m.cls := findClass_of_methodNamed B.named
  have hlocks := B.notSynchronized
  have hS : va_S (fun _ => False) s.heap s.heap [] := va_S.rf
  have hl := lv_entry ([.ref (ad i), .long b]) (n := 3) (Nat.le_of_ble_eq_true rfl)
  rw [lg_entry_eq]
  generalize (lg_sl ([.ref (ad i), .long b]) ++ List.replicate (3 - (lg_sl ([.ref (ad i), .long b])).length) Slot.unset).toArray = ls at hl ⊢
  have hl : lv_has ls 3 [(0, .ref (ad i)), (1, .long b)] := hl
  refine lv_aload_n hx hb dX3_isEndless_0 rfl (lv_at hl 0 rfl) ?_
  refine lv_lload_n hx hb dX3_isEndless_1 rfl (lv_at hl 1 rfl) ?_
  refine cv_w (As := [.long b]) (rest := []) ⟨hx, hb, hml, hown, hts⟩ (mX3_size l ad i hi b) (cwV 1 hts gX3_isEndless_X3_size rfl rfl rfl (by decide +kernel) ⟨Nat.le_of_ble_eq_true rfl, Nat.le_of_ble_eq_true rfl⟩) hE hS hi rfl rfl hl.1 (Nat.le_of_ble_eq_true rfl) dX3_isEndless_2 (Nat.zero_le _) (Nat.zero_le _) ?_
  refine lv_aload_n hx hb dX3_isEndless_5 rfl (lv_at hl 0 rfl) ?_
  refine va_getX hx hb hE.2.2.2.2 hi hS hown (hts (.fieldLink RX3 40 "TideGauges$Width" "endless" "J") (List.mem_of_getElem? (i := 1) rfl)) (fun _ h9 => h9) dX3_isEndless_6 ?_
  refine w_lc_ne (tgt := 17) hx hb dX3_isEndless_9 dX3_isEndless_10 (by decide) (fun c_1 => ?_) (fun c_1 => ?_)
  · refine lv_iconst (v := 0) hx hb dX3_isEndless_17 (by decide) ?_
    exact W.zret hx hb hr (b2i_nar false) (fun t ht hW => ⟨(by unfold fX3_isEndless; rw [if_neg c_1]), ht⟩) (fun q h => absurd h List.not_mem_nil) dX3_isEndless_18
  · refine lv_iconst (v := 1) hx hb dX3_isEndless_13 (by decide) ?_
    refine lv_goto (tgt := 18) hx hb dX3_isEndless_14 (by decide) ?_
    exact W.zret hx hb hr (b2i_nar true) (fun t ht hW => ⟨(by unfold fX3_isEndless; rw [if_pos c_1]), ht⟩) (fun q h => absurd h List.not_mem_nil) dX3_isEndless_18
def fX3_isZero (i : Nat) (b : Int64) : Bool := if (fX3_size i b) = (0 : Int64) then true else false
set_option maxHeartbeats 4000000 in
set_option maxRecDepth 100000 in
theorem mX3_isZero (l : Launch) (ad : Nat → Nat) (i : Nat) (hi : i < 2) (b : Int64) : Met l yX3_isZero wsX3_isZero ({ frames := 1, cells := 0, slots := 0, locals := 22 }) (pE ad [.ref (ad i), .long b]) (pQ (.int (b2i (fX3_isZero i b)))) 0 0 (fun _ => False) := by
  refine Met.ofW (cc := cX3_isZero) (maxL := 3) (ret := (some .boolean)) (by decide) rfl ?_
  intro p e s m args below meth c s₁ B hml hv
  obtain ⟨rfl, hE⟩ := hv
  have hx := B.exec
  have hb := B.bytes
  have hr := B.returns
  have hts := atoms_spec (ws := wsX3_isZero) B.pre
  have hown : s.vm.findClass RX3 = some m.cls := findClass_of_methodNamed B.named
  have hlocks := B.notSynchronized
  have hS : va_S (fun _ => False) s.heap s.heap [] := va_S.rf
  have hl := lv_entry ([.ref (ad i), .long b]) (n := 3) (Nat.le_of_ble_eq_true rfl)
  rw [lg_entry_eq]
  generalize (lg_sl ([.ref (ad i), .long b]) ++ List.replicate (3 - (lg_sl ([.ref (ad i), .long b])).length) Slot.unset).toArray = ls at hl ⊢
  have hl : lv_has ls 3 [(0, .ref (ad i)), (1, .long b)] := hl
  refine lv_aload_n hx hb dX3_isZero_0 rfl (lv_at hl 0 rfl) ?_
  refine lv_lload_n hx hb dX3_isZero_1 rfl (lv_at hl 1 rfl) ?_
  refine cv_w (As := [.long b]) (rest := []) ⟨hx, hb, hml, hown, hts⟩ (mX3_size l ad i hi b) (cwV 1 hts gX3_isZero_X3_size rfl rfl rfl (by decide +kernel) ⟨Nat.le_of_ble_eq_true rfl, Nat.le_of_ble_eq_true rfl⟩) hE hS hi rfl rfl hl.1 (Nat.le_of_ble_eq_true rfl) dX3_isZero_2 (Nat.zero_le _) (Nat.zero_le _) ?_
  refine lv_lconst (v := 0) hx hb dX3_isZero_5 (by decide) ?_
  refine w_lc_ne (tgt := 14) hx hb dX3_isZero_6 dX3_isZero_7 (by decide) (fun c_1 => ?_) (fun c_1 => ?_)
  · refine lv_iconst (v := 0) hx hb dX3_isZero_14 (by decide) ?_
    exact W.zret hx hb hr (b2i_nar false) (fun t ht hW => ⟨(by unfold fX3_isZero; rw [if_neg c_1]), ht⟩) (fun q h => absurd h List.not_mem_nil) dX3_isZero_15
  · refine lv_iconst (v := 1) hx hb dX3_isZero_10 (by decide) ?_
    refine lv_goto (tgt := 15) hx hb dX3_isZero_11 (by decide) ?_
    exact W.zret hx hb hr (b2i_nar true) (fun t ht hW => ⟨(by unfold fX3_isZero; rw [if_pos c_1]), ht⟩) (fun q h => absurd h List.not_mem_nil) dX3_isZero_15
def fX3_isNegative (i : Nat) (b : Int64) : Bool := if (b &&& cSB i) = (0 : Int64) then false else true
set_option maxHeartbeats 4000000 in
set_option maxRecDepth 100000 in
theorem mX3_isNegative (l : Launch) (ad : Nat → Nat) (i : Nat) (hi : i < 2) (b : Int64) : Met l yX3_isNegative wsX3_isNegative ({ frames := 0, cells := 0, slots := 0, locals := 0 }) (pE ad [.ref (ad i), .long b]) (pQ (.int (b2i (fX3_isNegative i b)))) 0 0 (fun _ => False) := by
  refine Met.ofW (cc := cX3_isNegative) (maxL := 3) (ret := (some .boolean)) (by decide) rfl ?_
  intro p e s m args below meth c s₁ B hml hv
  obtain ⟨rfl, hE⟩ := hv
  have hx := B.exec
  have hb := B.bytes
  have hr := B.returns
  have hts := atoms_spec (ws := wsX3_isNegative) B.pre
  have hown : s.vm.findClass RX3 = some m.cls := findClass_of_methodNamed B.named
  have hlocks := B.notSynchronized
  have hS : va_S (fun _ => False) s.heap s.heap [] := va_S.rf
  have hl := lv_entry ([.ref (ad i), .long b]) (n := 3) (Nat.le_of_ble_eq_true rfl)
  rw [lg_entry_eq]
  generalize (lg_sl ([.ref (ad i), .long b]) ++ List.replicate (3 - (lg_sl ([.ref (ad i), .long b])).length) Slot.unset).toArray = ls at hl ⊢
  have hl : lv_has ls 3 [(0, .ref (ad i)), (1, .long b)] := hl
  refine lv_lload_n hx hb dX3_isNegative_0 rfl (lv_at hl 1 rfl) ?_
  refine lv_aload_n hx hb dX3_isNegative_1 rfl (lv_at hl 0 rfl) ?_
  refine va_getX hx hb hE.2.2.2.1 hi hS hown (hts (.fieldLink RX3 36 "TideGauges$Width" "signBit" "J") (List.mem_of_getElem? (i := 1) rfl)) (fun _ h9 => h9) dX3_isNegative_2 ?_
  refine lv_land hx hb dX3_isNegative_5 ?_
  refine lv_lconst (v := 0) hx hb dX3_isNegative_6 (by decide) ?_
  refine w_lc_eq (tgt := 15) hx hb dX3_isNegative_7 dX3_isNegative_8 (by decide) (fun c_1 => ?_) (fun c_1 => ?_)
  · refine lv_iconst (v := 0) hx hb dX3_isNegative_15 (by decide) ?_
    exact W.zret hx hb hr (b2i_nar false) (fun t ht hW => ⟨(by unfold fX3_isNegative; rw [if_pos c_1]), ht⟩) (fun q h => absurd h List.not_mem_nil) dX3_isNegative_16
  · refine lv_iconst (v := 1) hx hb dX3_isNegative_11 (by decide) ?_
    refine lv_goto (tgt := 16) hx hb dX3_isNegative_12 (by decide) ?_
    exact W.zret hx hb hr (b2i_nar true) (fun t ht hW => ⟨(by unfold fX3_isNegative; rw [if_neg c_1]), ht⟩) (fun q h => absurd h List.not_mem_nil) dX3_isNegative_16
def fX3_areUnlikeEndless (i : Nat) (a : Int64) (b : Int64) : Bool := if (fX3_isEndless i a) = true then (if (fX3_isEndless i b) = true then (if (fX3_isNegative i a) = (fX3_isNegative i b) then false else true) else false) else false
set_option maxHeartbeats 4000000 in
set_option maxRecDepth 100000 in
theorem mX3_areUnlikeEndless (l : Launch) (ad : Nat → Nat) (i : Nat) (hi : i < 2) (a : Int64) (b : Int64) : Met l yX3_areUnlikeEndless wsX3_areUnlikeEndless ({ frames := 2, cells := 0, slots := 0, locals := 44 }) (pE ad [.ref (ad i), .long a, .long b]) (pQ (.int (b2i (fX3_areUnlikeEndless i a b)))) 0 0 (fun _ => False) := by
  refine Met.ofW (cc := cX3_areUnlikeEndless) (maxL := 5) (ret := (some .boolean)) (by decide) rfl ?_
  intro p e s m args below meth c s₁ B hml hv
  obtain ⟨rfl, hE⟩ := hv
  have hx := B.exec
  have hb := B.bytes
  have hr := B.returns
  have hts := atoms_spec (ws := wsX3_areUnlikeEndless) B.pre
  have hown : s.vm.findClass RX3 = some m.cls := findClass_of_methodNamed B.named
  have hlocks := B.notSynchronized
  have hS : va_S (fun _ => False) s.heap s.heap [] := va_S.rf
  have hl := lv_entry ([.ref (ad i), .long a, .long b]) (n := 5) (Nat.le_of_ble_eq_true rfl)
  rw [lg_entry_eq]
  generalize (lg_sl ([.ref (ad i), .long a, .long b]) ++ List.replicate (5 - (lg_sl ([.ref (ad i), .long a, .long b])).length) Slot.unset).toArray = ls at hl ⊢
  have hl : lv_has ls 5 [(0, .ref (ad i)), (1, .long a), (3, .long b)] := hl
  refine lv_aload_n hx hb dX3_areUnlikeEndless_0 rfl (lv_at hl 0 rfl) ?_
  refine lv_lload_n hx hb dX3_areUnlikeEndless_1 rfl (lv_at hl 1 rfl) ?_
  refine cv_w (As := [.long a]) (rest := []) ⟨hx, hb, hml, hown, hts⟩ (mX3_isEndless l ad i hi a) (cwV 1 hts gX3_areUnlikeEndless_X3_isEndless rfl rfl rfl (by decide +kernel) ⟨Nat.le_of_ble_eq_true rfl, Nat.le_of_ble_eq_true rfl⟩) hE hS hi rfl rfl hl.1 (Nat.le_of_ble_eq_true rfl) dX3_areUnlikeEndless_2 (Nat.zero_le _) (Nat.zero_le _) ?_
  refine w_beq (tgt := 33) hx hb dX3_areUnlikeEndless_5 (by decide) (fun c_1 => ?_) (fun c_1 => ?_)
  · refine lv_iconst (v := 0) hx hb dX3_areUnlikeEndless_33 (by decide) ?_
    exact W.zret hx hb hr (b2i_nar false) (fun t ht hW => ⟨(by unfold fX3_areUnlikeEndless; rw [if_neg c_1]), ht⟩) (fun q h => absurd h List.not_mem_nil) dX3_areUnlikeEndless_34
  · refine lv_aload_n hx hb dX3_areUnlikeEndless_8 rfl (lv_at hl 0 rfl) ?_
    refine lv_lload_n hx hb dX3_areUnlikeEndless_9 rfl (lv_at hl 2 rfl) ?_
    refine cv_w (As := [.long b]) (rest := []) ⟨hx, hb, hml, hown, hts⟩ (mX3_isEndless l ad i hi b) (cwV 1 hts gX3_areUnlikeEndless_X3_isEndless rfl rfl rfl (by decide +kernel) ⟨Nat.le_of_ble_eq_true rfl, Nat.le_of_ble_eq_true rfl⟩) hE hS hi rfl rfl hl.1 (Nat.le_of_ble_eq_true rfl) dX3_areUnlikeEndless_10 (Nat.zero_le _) (Nat.zero_le _) ?_
    refine w_beq (tgt := 33) hx hb dX3_areUnlikeEndless_13 (by decide) (fun c_2 => ?_) (fun c_2 => ?_)
    · refine lv_iconst (v := 0) hx hb dX3_areUnlikeEndless_33 (by decide) ?_
      exact W.zret hx hb hr (b2i_nar false) (fun t ht hW => ⟨(by unfold fX3_areUnlikeEndless; rw [if_pos c_1, if_neg c_2]), ht⟩) (fun q h => absurd h List.not_mem_nil) dX3_areUnlikeEndless_34
    · refine lv_aload_n hx hb dX3_areUnlikeEndless_16 rfl (lv_at hl 0 rfl) ?_
      refine lv_lload_n hx hb dX3_areUnlikeEndless_17 rfl (lv_at hl 1 rfl) ?_
      refine cv_w (As := [.long a]) (rest := []) ⟨hx, hb, hml, hown, hts⟩ (mX3_isNegative l ad i hi a) (cwV 1 hts gX3_areUnlikeEndless_X3_isNegative rfl rfl rfl (by decide +kernel) ⟨Nat.le_of_ble_eq_true rfl, Nat.le_of_ble_eq_true rfl⟩) hE hS hi rfl rfl hl.1 (Nat.le_of_ble_eq_true rfl) dX3_areUnlikeEndless_18 (Nat.zero_le _) (Nat.zero_le _) ?_
      refine lv_aload_n hx hb dX3_areUnlikeEndless_21 rfl (lv_at hl 0 rfl) ?_
      refine lv_lload_n hx hb dX3_areUnlikeEndless_22 rfl (lv_at hl 2 rfl) ?_
      refine cv_w (As := [.long b]) (rest := [.int (b2i (fX3_isNegative i a))]) ⟨hx, hb, hml, hown, hts⟩ (mX3_isNegative l ad i hi b) (cwV 1 hts gX3_areUnlikeEndless_X3_isNegative rfl rfl rfl (by decide +kernel) ⟨Nat.le_of_ble_eq_true rfl, Nat.le_of_ble_eq_true rfl⟩) hE hS hi rfl rfl hl.1 (Nat.le_of_ble_eq_true rfl) dX3_areUnlikeEndless_23 (Nat.zero_le _) (Nat.zero_le _) ?_
      refine w_zeq (tgt := 33) hx hb dX3_areUnlikeEndless_26 (by decide) (fun c_3 => ?_) (fun c_3 => ?_)
      · refine lv_iconst (v := 0) hx hb dX3_areUnlikeEndless_33 (by decide) ?_
        exact W.zret hx hb hr (b2i_nar false) (fun t ht hW => ⟨(by unfold fX3_areUnlikeEndless; rw [if_pos c_1, if_pos c_2, if_pos c_3]), ht⟩) (fun q h => absurd h List.not_mem_nil) dX3_areUnlikeEndless_34
      · refine lv_iconst (v := 1) hx hb dX3_areUnlikeEndless_29 (by decide) ?_
        refine lv_goto (tgt := 34) hx hb dX3_areUnlikeEndless_30 (by decide) ?_
        exact W.zret hx hb hr (b2i_nar true) (fun t ht hW => ⟨(by unfold fX3_areUnlikeEndless; rw [if_pos c_1, if_pos c_2, if_neg c_3]), ht⟩) (fun q h => absurd h List.not_mem_nil) dX3_areUnlikeEndless_34
def fX3_signed (i : Nat) (neg : Bool) (sz : Int64) : Int64 := if neg = true then (sz ||| (-(cSB i))) else sz
set_option maxHeartbeats 4000000 in
set_option maxRecDepth 100000 in
theorem mX3_signed (l : Launch) (ad : Nat → Nat) (i : Nat) (hi : i < 2) (neg : Bool) (sz : Int64) : Met l yX3_signed wsX3_signed ({ frames := 0, cells := 0, slots := 0, locals := 0 }) (pE ad [.ref (ad i), .int (b2i neg), .long sz]) (pQ (.long (fX3_signed i neg sz))) 0 0 (fun _ => False) := by
  refine Met.ofW (cc := cX3_signed) (maxL := 4) (ret := (some .long)) (by decide) rfl ?_
  intro p e s m args below meth c s₁ B hml hv
  obtain ⟨rfl, hE⟩ := hv
  have hx := B.exec
  have hb := B.bytes
  have hr := B.returns
  have hts := atoms_spec (ws := wsX3_signed) B.pre
  have hown : s.vm.findClass RX3 = some m.cls := findClass_of_methodNamed B.named
  have hlocks := B.notSynchronized
  have hS : va_S (fun _ => False) s.heap s.heap [] := va_S.rf
  have hl := lv_entry ([.ref (ad i), .int (b2i neg), .long sz]) (n := 4) (Nat.le_of_ble_eq_true rfl)
  rw [lg_entry_eq]
  generalize (lg_sl ([.ref (ad i), .int (b2i neg), .long sz]) ++ List.replicate (4 - (lg_sl ([.ref (ad i), .int (b2i neg), .long sz])).length) Slot.unset).toArray = ls at hl ⊢
  have hl : lv_has ls 4 [(0, .ref (ad i)), (1, .int (b2i neg)), (2, .long sz)] := hl
  refine lv_iload_n hx hb dX3_signed_0 rfl (lv_at hl 1 rfl) ?_
  refine w_beq (tgt := 14) hx hb dX3_signed_1 (by decide) (fun c_1 => ?_) (fun c_1 => ?_)
  · refine lv_lload_n hx hb dX3_signed_14 rfl (lv_at hl 2 rfl) ?_
    exact W.lret hx hb hr (fun t ht hW => ⟨(by unfold fX3_signed; rw [if_neg c_1]), ht⟩) (fun q h => absurd h List.not_mem_nil) dX3_signed_15
  · refine lv_lload_n hx hb dX3_signed_4 rfl (lv_at hl 2 rfl) ?_
    refine lv_aload_n hx hb dX3_signed_5 rfl (lv_at hl 0 rfl) ?_
    refine va_getX hx hb hE.2.2.2.1 hi hS hown (hts (.fieldLink RX3 36 "TideGauges$Width" "signBit" "J") (List.mem_of_getElem? (i := 1) rfl)) (fun _ h9 => h9) dX3_signed_6 ?_
    refine lv_lneg hx hb dX3_signed_9 ?_
    refine lv_lor hx hb dX3_signed_10 ?_
    refine lv_goto (tgt := 15) hx hb dX3_signed_11 (by decide) ?_
    exact W.lret hx hb hr (fun t ht hW => ⟨(by unfold fX3_signed; rw [if_pos c_1]), ht⟩) (fun q h => absurd h List.not_mem_nil) dX3_signed_15
def fX3_asTold (i : Nat) (b : Int64) : Int64 := (fX3_signed i (fX3_isNegative i b) (fX3_size i b))
set_option maxHeartbeats 4000000 in
set_option maxRecDepth 100000 in
theorem mX3_asTold (l : Launch) (ad : Nat → Nat) (i : Nat) (hi : i < 2) (b : Int64) : Met l yX3_asTold wsX3_asTold ({ frames := 1, cells := 0, slots := 0, locals := 23 }) (pE ad [.ref (ad i), .long b]) (pQ (.long (fX3_asTold i b))) 0 0 (fun _ => False) := by
  refine Met.ofW (cc := cX3_asTold) (maxL := 3) (ret := (some .long)) (by decide) rfl ?_
  intro p e s m args below meth c s₁ B hml hv
  obtain ⟨rfl, hE⟩ := hv
  have hx := B.exec
  have hb := B.bytes
  have hr := B.returns
  have hts := atoms_spec (ws := wsX3_asTold) B.pre
  have hown : s.vm.findClass RX3 = some m.cls := findClass_of_methodNamed B.named
  have hlocks := B.notSynchronized
  have hS : va_S (fun _ => False) s.heap s.heap [] := va_S.rf
  have hl := lv_entry ([.ref (ad i), .long b]) (n := 3) (Nat.le_of_ble_eq_true rfl)
  rw [lg_entry_eq]
  generalize (lg_sl ([.ref (ad i), .long b]) ++ List.replicate (3 - (lg_sl ([.ref (ad i), .long b])).length) Slot.unset).toArray = ls at hl ⊢
  have hl : lv_has ls 3 [(0, .ref (ad i)), (1, .long b)] := hl
  refine lv_aload_n hx hb dX3_asTold_0 rfl (lv_at hl 0 rfl) ?_
  refine lv_aload_n hx hb dX3_asTold_1 rfl (lv_at hl 0 rfl) ?_
  refine lv_lload_n hx hb dX3_asTold_2 rfl (lv_at hl 1 rfl) ?_
  refine cv_w (As := [.long b]) (rest := [.ref (ad i)]) ⟨hx, hb, hml, hown, hts⟩ (mX3_isNegative l ad i hi b) (cwV 1 hts gX3_asTold_X3_isNegative rfl rfl rfl (by decide +kernel) ⟨Nat.le_of_ble_eq_true rfl, Nat.le_of_ble_eq_true rfl⟩) hE hS hi rfl rfl hl.1 (Nat.le_of_ble_eq_true rfl) dX3_asTold_3 (Nat.zero_le _) (Nat.zero_le _) ?_
  refine lv_aload_n hx hb dX3_asTold_6 rfl (lv_at hl 0 rfl) ?_
  refine lv_lload_n hx hb dX3_asTold_7 rfl (lv_at hl 1 rfl) ?_
  refine cv_w (As := [.long b]) (rest := [.int (b2i (fX3_isNegative i b)), .ref (ad i)]) ⟨hx, hb, hml, hown, hts⟩ (mX3_size l ad i hi b) (cwV 1 hts gX3_asTold_X3_size rfl rfl rfl (by decide +kernel) ⟨Nat.le_of_ble_eq_true rfl, Nat.le_of_ble_eq_true rfl⟩) hE hS hi rfl rfl hl.1 (Nat.le_of_ble_eq_true rfl) dX3_asTold_8 (Nat.zero_le _) (Nat.zero_le _) ?_
  refine cv_w (As := [.int (b2i (fX3_isNegative i b)), .long (fX3_size i b)]) (rest := []) ⟨hx, hb, hml, hown, hts⟩ (mX3_signed l ad i hi (fX3_isNegative i b) (fX3_size i b)) (cwV 2 hts gX3_asTold_X3_signed rfl rfl rfl (by decide +kernel) ⟨Nat.le_of_ble_eq_true rfl, Nat.le_of_ble_eq_true rfl⟩) hE hS hi rfl rfl hl.1 (Nat.le_of_ble_eq_true rfl) dX3_asTold_11 (Nat.zero_le _) (Nat.zero_le _) ?_
  exact W.lret hx hb hr (fun t ht hW => ⟨(by unfold fX3_asTold; rfl), ht⟩) (fun q h => absurd h List.not_mem_nil) dX3_asTold_14
def fX3_exponentField (i : Nat) (b : Int64) : Int32 := (((b &&& (cSB i - (1 : Int64))).toUInt64 >>> ((cFB i).toInt64.toUInt64 &&& Int64.toUInt64 63)).toInt64).toInt32
set_option maxHeartbeats 4000000 in
set_option maxRecDepth 100000 in
theorem mX3_exponentField (l : Launch) (ad : Nat → Nat) (i : Nat) (hi : i < 2) (b : Int64) : Met l yX3_exponentField wsX3_exponentField ({ frames := 0, cells := 0, slots := 0, locals := 0 }) (pE ad [.ref (ad i), .long b]) (pQ (.int (fX3_exponentField i b))) 0 0 (fun _ => False) := by
  refine Met.ofW (cc := cX3_exponentField) (maxL := 3) (ret := (some .int)) (by decide) rfl ?_
  intro p e s m args below meth c s₁ B hml hv
  obtain ⟨rfl, hE⟩ := hv
  have hx := B.exec
  have hb := B.bytes
  have hr := B.returns
  have hts := atoms_spec (ws := wsX3_exponentField) B.pre
  have hown : s.vm.findClass RX3 = some m.cls := findClass_of_methodNamed B.named
  have hlocks := B.notSynchronized
  have hS : va_S (fun _ => False) s.heap s.heap [] := va_S.rf
  have hl := lv_entry ([.ref (ad i), .long b]) (n := 3) (Nat.le_of_ble_eq_true rfl)
  rw [lg_entry_eq]
  generalize (lg_sl ([.ref (ad i), .long b]) ++ List.replicate (3 - (lg_sl ([.ref (ad i), .long b])).length) Slot.unset).toArray = ls at hl ⊢
  have hl : lv_has ls 3 [(0, .ref (ad i)), (1, .long b)] := hl
  refine lv_lload_n hx hb dX3_exponentField_0 rfl (lv_at hl 1 rfl) ?_
  refine lv_aload_n hx hb dX3_exponentField_1 rfl (lv_at hl 0 rfl) ?_
  refine va_getX hx hb hE.2.2.2.1 hi hS hown (hts (.fieldLink RX3 36 "TideGauges$Width" "signBit" "J") (List.mem_of_getElem? (i := 1) rfl)) (fun _ h9 => h9) dX3_exponentField_2 ?_
  refine lv_lconst (v := 1) hx hb dX3_exponentField_5 (by decide) ?_
  refine lv_lsub hx hb dX3_exponentField_6 ?_
  refine lv_land hx hb dX3_exponentField_7 ?_
  refine lv_aload_n hx hb dX3_exponentField_8 rfl (lv_at hl 0 rfl) ?_
  refine va_getX hx hb hE.2.1 hi hS hown (hts (.fieldLink RX3 29 "TideGauges$Width" "fractionBits" "I") (List.mem_of_getElem? (i := 2) rfl)) (fun _ h9 => h9) dX3_exponentField_9 ?_
  refine lv_lushr hx hb dX3_exponentField_12 rfl ?_
  refine lv_l2i hx hb dX3_exponentField_13 rfl ?_
  exact W.iret hx hb hr (fun t ht hW => ⟨(by unfold fX3_exponentField; rfl), ht⟩) (fun q h => absurd h List.not_mem_nil) dX3_exponentField_14
def fX3_exponent (i : Nat) (b : Int64) : Int32 := (cLE i + (if ((fX3_exponentField i b) - (1 : Int32)) < (0 : Int32) then (0 : Int32) else ((fX3_exponentField i b) - (1 : Int32))))
set_option maxHeartbeats 4000000 in
set_option maxRecDepth 100000 in
theorem mX3_exponent (l : Launch) (ad : Nat → Nat) (i : Nat) (hi : i < 2) (b : Int64) : Met l yX3_exponent wsX3_exponent ({ frames := 1, cells := 0, slots := 0, locals := 23 }) (pE ad [.ref (ad i), .long b]) (pQ (.int (fX3_exponent i b))) 0 0 (fun _ => False) := by
  refine Met.ofW (cc := cX3_exponent) (maxL := 3) (ret := (some .int)) (by decide) rfl ?_
  intro p e s m args below meth c s₁ B hml hv
  obtain ⟨rfl, hE⟩ := hv
  have hx := B.exec
  have hb := B.bytes
  have hr := B.returns
  have hts := atoms_spec (ws := wsX3_exponent) B.pre
  have hown : s.vm.findClass RX3 = some m.cls := findClass_of_methodNamed B.named
  have hlocks := B.notSynchronized
  have hS : va_S (fun _ => False) s.heap s.heap [] := va_S.rf
  have hl := lv_entry ([.ref (ad i), .long b]) (n := 3) (Nat.le_of_ble_eq_true rfl)
  rw [lg_entry_eq]
  generalize (lg_sl ([.ref (ad i), .long b]) ++ List.replicate (3 - (lg_sl ([.ref (ad i), .long b])).length) Slot.unset).toArray = ls at hl ⊢
  have hl : lv_has ls 3 [(0, .ref (ad i)), (1, .long b)] := hl
  refine lv_aload_n hx hb dX3_exponent_0 rfl (lv_at hl 0 rfl) ?_
  refine va_getX hx hb hE.2.2.1 hi hS hown (hts (.fieldLink RX3 33 "TideGauges$Width" "leastExponent" "I") (List.mem_of_getElem? (i := 1) rfl)) (fun _ h9 => h9) dX3_exponent_1 ?_
  refine lv_aload_n hx hb dX3_exponent_4 rfl (lv_at hl 0 rfl) ?_
  refine lv_lload_n hx hb dX3_exponent_5 rfl (lv_at hl 1 rfl) ?_
  refine cv_w (As := [.long b]) (rest := [.int (cLE i)]) ⟨hx, hb, hml, hown, hts⟩ (mX3_exponentField l ad i hi b) (cwV 1 hts gX3_exponent_X3_exponentField rfl rfl rfl (by decide +kernel) ⟨Nat.le_of_ble_eq_true rfl, Nat.le_of_ble_eq_true rfl⟩) hE hS hi rfl rfl hl.1 (Nat.le_of_ble_eq_true rfl) dX3_exponent_6 (Nat.zero_le _) (Nat.zero_le _) ?_
  refine lv_iconst (v := 1) hx hb dX3_exponent_9 (by decide) ?_
  refine lv_isub hx hb dX3_exponent_10 ?_
  refine lv_iconst (v := 0) hx hb dX3_exponent_11 (by decide) ?_
  refine va_mmax hx hb (hml.trans hl.1.symm) hown (hts (.methodLink RX3 106 Lib.Math.max.name) (List.mem_of_getElem? (i := 2) rfl)) (hts (.static Lib.Math.max.name) (List.mem_of_getElem? (i := 3) rfl)) (hts (.initialized "java/lang/Math") (List.mem_of_getElem? (i := 4) rfl)) (hts (.code Lib.Math.max.name Lib.Math.max.code 2 (some .int)) (List.mem_of_getElem? (i := 5) rfl)) (Nat.le_of_ble_eq_true rfl) (Nat.le_of_ble_eq_true rfl) (Nat.zero_le _) (Nat.zero_le _) dX3_exponent_12 ?_
  refine lv_iadd hx hb dX3_exponent_15 ?_
  exact W.iret hx hb hr (fun t ht hW => ⟨(by unfold fX3_exponent; rfl), ht⟩) (fun q h => absurd h List.not_mem_nil) dX3_exponent_16
def fX3_significand (i : Nat) (b : Int64) : Int64 := if (fX3_exponentField i b) = 0 then (b &&& (((1 : Int64) <<< ((cFB i).toInt64 &&& 63)) - (1 : Int64))) else ((b &&& (((1 : Int64) <<< ((cFB i).toInt64 &&& 63)) - (1 : Int64))) ||| ((1 : Int64) <<< ((cFB i).toInt64 &&& 63)))
set_option maxHeartbeats 4000000 in
set_option maxRecDepth 100000 in
theorem mX3_significand (l : Launch) (ad : Nat → Nat) (i : Nat) (hi : i < 2) (b : Int64) : Met l yX3_significand wsX3_significand ({ frames := 1, cells := 0, slots := 0, locals := 22 }) (pE ad [.ref (ad i), .long b]) (pQ (.long (fX3_significand i b))) 0 0 (fun _ => False) := by
  refine Met.ofW (cc := cX3_significand) (maxL := 7) (ret := (some .long)) (by decide) rfl ?_
  intro p e s m args below meth c s₁ B hml hv
  obtain ⟨rfl, hE⟩ := hv
  have hx := B.exec
  have hb := B.bytes
  have hr := B.returns
  have hts := atoms_spec (ws := wsX3_significand) B.pre
  have hown : s.vm.findClass RX3 = some m.cls := findClass_of_methodNamed B.named
  have hlocks := B.notSynchronized
  have hS : va_S (fun _ => False) s.heap s.heap [] := va_S.rf
  have hl := lv_entry ([.ref (ad i), .long b]) (n := 7) (Nat.le_of_ble_eq_true rfl)
  rw [lg_entry_eq]
  generalize (lg_sl ([.ref (ad i), .long b]) ++ List.replicate (7 - (lg_sl ([.ref (ad i), .long b])).length) Slot.unset).toArray = ls at hl ⊢
  have hl : lv_has ls 7 [(0, .ref (ad i)), (1, .long b)] := hl
  refine lv_lconst (v := 1) hx hb dX3_significand_0 (by decide) ?_
  refine lv_aload_n hx hb dX3_significand_1 rfl (lv_at hl 0 rfl) ?_
  refine va_getX hx hb hE.2.1 hi hS hown (hts (.fieldLink RX3 29 "TideGauges$Width" "fractionBits" "I") (List.mem_of_getElem? (i := 1) rfl)) (fun _ h9 => h9) dX3_significand_2 ?_
  refine lv_lshl hx hb dX3_significand_5 rfl ?_
  refine lv_lstore_n (lv' := [(3, .long ((1 : Int64) <<< ((cFB i).toInt64 &&& 63))), (0, .ref (ad i)), (1, .long b)]) hx hb dX3_significand_6 rfl hl (by decide) rfl (fun ls hl => ?_)
  refine lv_lload_n hx hb dX3_significand_7 rfl (lv_at hl 2 rfl) ?_
  refine lv_lload_n hx hb dX3_significand_8 rfl (lv_at hl 0 rfl) ?_
  refine lv_lconst (v := 1) hx hb dX3_significand_9 (by decide) ?_
  refine lv_lsub hx hb dX3_significand_10 ?_
  refine lv_land hx hb dX3_significand_11 ?_
  refine lv_lstore (lv' := [(5, .long (b &&& (((1 : Int64) <<< ((cFB i).toInt64 &&& 63)) - (1 : Int64)))), (3, .long ((1 : Int64) <<< ((cFB i).toInt64 &&& 63))), (0, .ref (ad i)), (1, .long b)]) hx hb dX3_significand_12 hl (by decide) rfl (fun ls hl => ?_)
  refine lv_aload_n hx hb dX3_significand_14 rfl (lv_at hl 2 rfl) ?_
  refine lv_lload_n hx hb dX3_significand_15 rfl (lv_at hl 3 rfl) ?_
  refine cv_w (As := [.long b]) (rest := []) ⟨hx, hb, hml, hown, hts⟩ (mX3_exponentField l ad i hi b) (cwV 1 hts gX3_significand_X3_exponentField rfl rfl rfl (by decide +kernel) ⟨Nat.le_of_ble_eq_true rfl, Nat.le_of_ble_eq_true rfl⟩) hE hS hi rfl rfl hl.1 (Nat.le_of_ble_eq_true rfl) dX3_significand_16 (Nat.zero_le _) (Nat.zero_le _) ?_
  refine lv_if_ne (tgt := 27) hx hb dX3_significand_19 (by decide) (fun c_1 => ?_) (fun c_1 => ?_)
  · refine lv_lload hx hb dX3_significand_27 (lv_at hl 0 rfl) ?_
    refine lv_lload_n hx hb dX3_significand_29 rfl (lv_at hl 1 rfl) ?_
    refine lv_lor hx hb dX3_significand_30 ?_
    exact W.lret hx hb hr (fun t ht hW => ⟨(by unfold fX3_significand; rw [if_neg c_1]), ht⟩) (fun q h => absurd h List.not_mem_nil) dX3_significand_31
  · refine lv_lload hx hb dX3_significand_22 (lv_at hl 0 rfl) ?_
    refine lv_goto (tgt := 31) hx hb dX3_significand_24 (by decide) ?_
    exact W.lret hx hb hr (fun t ht hW => ⟨(by unfold fX3_significand; rw [if_pos c_1]), ht⟩) (fun q h => absurd h List.not_mem_nil) dX3_significand_31
def fX3_negated (i : Nat) (b : Int64) : Int64 := if (fX3_isNegative i b) = true then (fX3_signed i false (fX3_size i b)) else (fX3_signed i true (fX3_size i b))
set_option maxHeartbeats 4000000 in
set_option maxRecDepth 100000 in
theorem mX3_negated (l : Launch) (ad : Nat → Nat) (i : Nat) (hi : i < 2) (b : Int64) : Met l yX3_negated wsX3_negated ({ frames := 1, cells := 0, slots := 0, locals := 23 }) (pE ad [.ref (ad i), .long b]) (pQ (.long (fX3_negated i b))) 0 0 (fun _ => False) := by
  refine Met.ofW (cc := cX3_negated) (maxL := 3) (ret := (some .long)) (by decide) rfl ?_
  intro p e s m args below meth c s₁ B hml hv
  obtain ⟨rfl, hE⟩ := hv
  have hx := B.exec
  have hb := B.bytes
  have hr := B.returns
  have hts := atoms_spec (ws := wsX3_negated) B.pre
  have hown : s.vm.findClass RX3 = some m.cls := findClass_of_methodNamed B.named
  have hlocks := B.notSynchronized
  have hS : va_S (fun _ => False) s.heap s.heap [] := va_S.rf
  have hl := lv_entry ([.ref (ad i), .long b]) (n := 3) (Nat.le_of_ble_eq_true rfl)
  rw [lg_entry_eq]
  generalize (lg_sl ([.ref (ad i), .long b]) ++ List.replicate (3 - (lg_sl ([.ref (ad i), .long b])).length) Slot.unset).toArray = ls at hl ⊢
  have hl : lv_has ls 3 [(0, .ref (ad i)), (1, .long b)] := hl
  refine lv_aload_n hx hb dX3_negated_0 rfl (lv_at hl 0 rfl) ?_
  refine lv_aload_n hx hb dX3_negated_1 rfl (lv_at hl 0 rfl) ?_
  refine lv_lload_n hx hb dX3_negated_2 rfl (lv_at hl 1 rfl) ?_
  refine cv_w (As := [.long b]) (rest := [.ref (ad i)]) ⟨hx, hb, hml, hown, hts⟩ (mX3_isNegative l ad i hi b) (cwV 1 hts gX3_negated_X3_isNegative rfl rfl rfl (by decide +kernel) ⟨Nat.le_of_ble_eq_true rfl, Nat.le_of_ble_eq_true rfl⟩) hE hS hi rfl rfl hl.1 (Nat.le_of_ble_eq_true rfl) dX3_negated_3 (Nat.zero_le _) (Nat.zero_le _) ?_
  refine w_bne (tgt := 13) hx hb dX3_negated_6 (by decide) (fun c_1 => ?_) (fun c_1 => ?_)
  · refine lv_iconst (v := 0) hx hb dX3_negated_13 (by decide) ?_
    refine lv_aload_n hx hb dX3_negated_14 rfl (lv_at hl 0 rfl) ?_
    refine lv_lload_n hx hb dX3_negated_15 rfl (lv_at hl 1 rfl) ?_
    refine cv_w (As := [.long b]) (rest := [.int (0 : Int32), .ref (ad i)]) ⟨hx, hb, hml, hown, hts⟩ (mX3_size l ad i hi b) (cwV 1 hts gX3_negated_X3_size rfl rfl rfl (by decide +kernel) ⟨Nat.le_of_ble_eq_true rfl, Nat.le_of_ble_eq_true rfl⟩) hE hS hi rfl rfl hl.1 (Nat.le_of_ble_eq_true rfl) dX3_negated_16 (Nat.zero_le _) (Nat.zero_le _) ?_
    refine cv_w (As := [.int (b2i false), .long (fX3_size i b)]) (rest := []) ⟨hx, hb, hml, hown, hts⟩ (mX3_signed l ad i hi false (fX3_size i b)) (cwV 2 hts gX3_negated_X3_signed rfl rfl rfl (by decide +kernel) ⟨Nat.le_of_ble_eq_true rfl, Nat.le_of_ble_eq_true rfl⟩) hE hS hi rfl rfl hl.1 (Nat.le_of_ble_eq_true rfl) dX3_negated_19 (Nat.zero_le _) (Nat.zero_le _) ?_
    exact W.lret hx hb hr (fun t ht hW => ⟨(by unfold fX3_negated; rw [if_pos c_1]), ht⟩) (fun q h => absurd h List.not_mem_nil) dX3_negated_22
  · refine lv_iconst (v := 1) hx hb dX3_negated_9 (by decide) ?_
    refine lv_goto (tgt := 14) hx hb dX3_negated_10 (by decide) ?_
    refine lv_aload_n hx hb dX3_negated_14 rfl (lv_at hl 0 rfl) ?_
    refine lv_lload_n hx hb dX3_negated_15 rfl (lv_at hl 1 rfl) ?_
    refine cv_w (As := [.long b]) (rest := [.int (1 : Int32), .ref (ad i)]) ⟨hx, hb, hml, hown, hts⟩ (mX3_size l ad i hi b) (cwV 1 hts gX3_negated_X3_size rfl rfl rfl (by decide +kernel) ⟨Nat.le_of_ble_eq_true rfl, Nat.le_of_ble_eq_true rfl⟩) hE hS hi rfl rfl hl.1 (Nat.le_of_ble_eq_true rfl) dX3_negated_16 (Nat.zero_le _) (Nat.zero_le _) ?_
    refine cv_w (As := [.int (b2i true), .long (fX3_size i b)]) (rest := []) ⟨hx, hb, hml, hown, hts⟩ (mX3_signed l ad i hi true (fX3_size i b)) (cwV 2 hts gX3_negated_X3_signed rfl rfl rfl (by decide +kernel) ⟨Nat.le_of_ble_eq_true rfl, Nat.le_of_ble_eq_true rfl⟩) hE hS hi rfl rfl hl.1 (Nat.le_of_ble_eq_true rfl) dX3_negated_19 (Nat.zero_le _) (Nat.zero_le _) ?_
    exact W.lret hx hb hr (fun t ht hW => ⟨(by unfold fX3_negated; rw [if_neg c_1]), ht⟩) (fun q h => absurd h List.not_mem_nil) dX3_negated_22
def fX3_withoutLowest (mg : Int64) (dr : Int32) : Int64 := if dr ≤ (63 : Int32) then (if ((1 : Int64) <<< ((dr - (1 : Int32)).toInt64 &&& 63)) < (mg - ((mg.toUInt64 >>> (dr.toInt64.toUInt64 &&& Int64.toUInt64 63)).toInt64 <<< (dr.toInt64 &&& 63))) then ((mg.toUInt64 >>> (dr.toInt64.toUInt64 &&& Int64.toUInt64 63)).toInt64 + (1 : Int64)) else (if (mg - ((mg.toUInt64 >>> (dr.toInt64.toUInt64 &&& Int64.toUInt64 63)).toInt64 <<< (dr.toInt64 &&& 63))) = ((1 : Int64) <<< ((dr - (1 : Int32)).toInt64 &&& 63)) then (if ((mg.toUInt64 >>> (dr.toInt64.toUInt64 &&& Int64.toUInt64 63)).toInt64 &&& (1 : Int64)) = (1 : Int64) then ((mg.toUInt64 >>> (dr.toInt64.toUInt64 &&& Int64.toUInt64 63)).toInt64 + (1 : Int64)) else ((mg.toUInt64 >>> (dr.toInt64.toUInt64 &&& Int64.toUInt64 63)).toInt64)) else ((mg.toUInt64 >>> (dr.toInt64.toUInt64 &&& Int64.toUInt64 63)).toInt64))) else (0 : Int64)
set_option maxHeartbeats 4000000 in
set_option maxRecDepth 100000 in
theorem mX3_withoutLowest (l : Launch) (mg : Int64) (dr : Int32) : Met l yX3_withoutLowest wsX3_withoutLowest ({ frames := 0, cells := 0, slots := 0, locals := 0 }) (p0 [.long mg, .int dr]) (pQ (.long (fX3_withoutLowest mg dr))) 0 0 (fun _ => False) := by
  refine Met.ofW (cc := cX3_withoutLowest) (maxL := 10) (ret := (some .long)) (by decide) rfl ?_
  intro p e s m args below meth c s₁ B hml hv
  obtain ⟨rfl, hE⟩ := hv
  have hx := B.exec
  have hb := B.bytes
  have hr := B.returns
  have hts := atoms_spec (ws := wsX3_withoutLowest) B.pre
  have hown : s.vm.findClass RX3 = some m.cls := findClass_of_methodNamed B.named
  have hlocks := B.notSynchronized
  have hS : va_S (fun _ => False) s.heap s.heap [] := va_S.rf
  have hl := lv_entry ([.long mg, .int dr]) (n := 10) (Nat.le_of_ble_eq_true rfl)
  rw [lg_entry_eq]
  generalize (lg_sl ([.long mg, .int dr]) ++ List.replicate (10 - (lg_sl ([.long mg, .int dr])).length) Slot.unset).toArray = ls at hl ⊢
  have hl : lv_has ls 10 [(0, .long mg), (2, .int dr)] := hl
  refine lv_iload_n hx hb dX3_withoutLowest_0 rfl (lv_at hl 1 rfl) ?_
  refine lv_bipush (v := 63) hx hb dX3_withoutLowest_1 (by decide) ?_
  refine lv_icmp_le (tgt := 8) hx hb dX3_withoutLowest_3 (by decide) (fun c_1 => ?_) (fun c_1 => ?_)
  · refine lv_lload_n hx hb dX3_withoutLowest_8 rfl (lv_at hl 0 rfl) ?_
    refine lv_iload_n hx hb dX3_withoutLowest_9 rfl (lv_at hl 1 rfl) ?_
    refine lv_lushr hx hb dX3_withoutLowest_10 rfl ?_
    refine lv_lstore_n (lv' := [(3, .long ((mg.toUInt64 >>> (dr.toInt64.toUInt64 &&& Int64.toUInt64 63)).toInt64)), (0, .long mg), (2, .int dr)]) hx hb dX3_withoutLowest_11 rfl hl (by decide) rfl (fun ls hl => ?_)
    refine lv_lload_n hx hb dX3_withoutLowest_12 rfl (lv_at hl 1 rfl) ?_
    refine lv_lload_n hx hb dX3_withoutLowest_13 rfl (lv_at hl 0 rfl) ?_
    refine lv_iload_n hx hb dX3_withoutLowest_14 rfl (lv_at hl 2 rfl) ?_
    refine lv_lshl hx hb dX3_withoutLowest_15 rfl ?_
    refine lv_lsub hx hb dX3_withoutLowest_16 ?_
    refine lv_lstore (lv' := [(5, .long (mg - ((mg.toUInt64 >>> (dr.toInt64.toUInt64 &&& Int64.toUInt64 63)).toInt64 <<< (dr.toInt64 &&& 63)))), (3, .long ((mg.toUInt64 >>> (dr.toInt64.toUInt64 &&& Int64.toUInt64 63)).toInt64)), (0, .long mg), (2, .int dr)]) hx hb dX3_withoutLowest_17 hl (by decide) rfl (fun ls hl => ?_)
    refine lv_lconst (v := 1) hx hb dX3_withoutLowest_19 (by decide) ?_
    refine lv_iload_n hx hb dX3_withoutLowest_20 rfl (lv_at hl 3 rfl) ?_
    refine lv_iconst (v := 1) hx hb dX3_withoutLowest_21 (by decide) ?_
    refine lv_isub hx hb dX3_withoutLowest_22 ?_
    refine lv_lshl hx hb dX3_withoutLowest_23 rfl ?_
    refine lv_lstore (lv' := [(7, .long ((1 : Int64) <<< ((dr - (1 : Int32)).toInt64 &&& 63))), (5, .long (mg - ((mg.toUInt64 >>> (dr.toInt64.toUInt64 &&& Int64.toUInt64 63)).toInt64 <<< (dr.toInt64 &&& 63)))), (3, .long ((mg.toUInt64 >>> (dr.toInt64.toUInt64 &&& Int64.toUInt64 63)).toInt64)), (0, .long mg), (2, .int dr)]) hx hb dX3_withoutLowest_24 hl (by decide) rfl (fun ls hl => ?_)
    refine lv_lload hx hb dX3_withoutLowest_26 (lv_at hl 1 rfl) ?_
    refine lv_lload hx hb dX3_withoutLowest_28 (lv_at hl 0 rfl) ?_
    refine w_lc_gt (tgt := 50) hx hb dX3_withoutLowest_30 dX3_withoutLowest_31 (by decide) (fun c_2 => ?_) (fun c_2 => ?_)
    · refine lv_iconst (v := 1) hx hb dX3_withoutLowest_50 (by decide) ?_
      refine lv_goto (tgt := 55) hx hb dX3_withoutLowest_51 (by decide) ?_
      refine lv_istore (lv' := [(9, .int (1 : Int32)), (7, .long ((1 : Int64) <<< ((dr - (1 : Int32)).toInt64 &&& 63))), (5, .long (mg - ((mg.toUInt64 >>> (dr.toInt64.toUInt64 &&& Int64.toUInt64 63)).toInt64 <<< (dr.toInt64 &&& 63)))), (3, .long ((mg.toUInt64 >>> (dr.toInt64.toUInt64 &&& Int64.toUInt64 63)).toInt64)), (0, .long mg), (2, .int dr)]) hx hb dX3_withoutLowest_55 hl (by decide) rfl (fun ls hl => ?_)
      refine lv_iload hx hb dX3_withoutLowest_57 (lv_at hl 0 rfl) ?_
      refine lv_if_eq (tgt := 68) hx hb dX3_withoutLowest_59 (by decide) (fun c_3 => ?_) (fun c_3 => ?_)
      · exact absurd c_3 (by decide)
      refine lv_lload_n hx hb dX3_withoutLowest_62 rfl (lv_at hl 3 rfl) ?_
      refine lv_lconst (v := 1) hx hb dX3_withoutLowest_63 (by decide) ?_
      refine lv_ladd hx hb dX3_withoutLowest_64 ?_
      refine lv_goto (tgt := 69) hx hb dX3_withoutLowest_65 (by decide) ?_
      exact W.lret hx hb hr (fun t ht hW => ⟨(by unfold fX3_withoutLowest; rw [if_pos c_1, if_pos c_2]), ht⟩) (fun q h => absurd h List.not_mem_nil) dX3_withoutLowest_69
    · refine lv_lload hx hb dX3_withoutLowest_34 (lv_at hl 1 rfl) ?_
      refine lv_lload hx hb dX3_withoutLowest_36 (lv_at hl 0 rfl) ?_
      refine w_lc_ne (tgt := 54) hx hb dX3_withoutLowest_38 dX3_withoutLowest_39 (by decide) (fun c_4 => ?_) (fun c_4 => ?_)
      · refine lv_iconst (v := 0) hx hb dX3_withoutLowest_54 (by decide) ?_
        refine lv_istore (lv' := [(9, .int (0 : Int32)), (7, .long ((1 : Int64) <<< ((dr - (1 : Int32)).toInt64 &&& 63))), (5, .long (mg - ((mg.toUInt64 >>> (dr.toInt64.toUInt64 &&& Int64.toUInt64 63)).toInt64 <<< (dr.toInt64 &&& 63)))), (3, .long ((mg.toUInt64 >>> (dr.toInt64.toUInt64 &&& Int64.toUInt64 63)).toInt64)), (0, .long mg), (2, .int dr)]) hx hb dX3_withoutLowest_55 hl (by decide) rfl (fun ls hl => ?_)
        refine lv_iload hx hb dX3_withoutLowest_57 (lv_at hl 0 rfl) ?_
        refine lv_if_eq (tgt := 68) hx hb dX3_withoutLowest_59 (by decide) (fun c_5 => ?_) (fun c_5 => ?_)
        rotate_left
        · exact absurd c_5 (by decide)
        refine lv_lload_n hx hb dX3_withoutLowest_68 rfl (lv_at hl 3 rfl) ?_
        exact W.lret hx hb hr (fun t ht hW => ⟨(by unfold fX3_withoutLowest; rw [if_pos c_1, if_neg c_2, if_neg c_4]), ht⟩) (fun q h => absurd h List.not_mem_nil) dX3_withoutLowest_69
      · refine lv_lload_n hx hb dX3_withoutLowest_42 rfl (lv_at hl 2 rfl) ?_
        refine lv_lconst (v := 1) hx hb dX3_withoutLowest_43 (by decide) ?_
        refine lv_land hx hb dX3_withoutLowest_44 ?_
        refine lv_lconst (v := 1) hx hb dX3_withoutLowest_45 (by decide) ?_
        refine w_lc_ne (tgt := 54) hx hb dX3_withoutLowest_46 dX3_withoutLowest_47 (by decide) (fun c_6 => ?_) (fun c_6 => ?_)
        · refine lv_iconst (v := 0) hx hb dX3_withoutLowest_54 (by decide) ?_
          refine lv_istore (lv' := [(9, .int (0 : Int32)), (7, .long ((1 : Int64) <<< ((dr - (1 : Int32)).toInt64 &&& 63))), (5, .long (mg - ((mg.toUInt64 >>> (dr.toInt64.toUInt64 &&& Int64.toUInt64 63)).toInt64 <<< (dr.toInt64 &&& 63)))), (3, .long ((mg.toUInt64 >>> (dr.toInt64.toUInt64 &&& Int64.toUInt64 63)).toInt64)), (0, .long mg), (2, .int dr)]) hx hb dX3_withoutLowest_55 hl (by decide) rfl (fun ls hl => ?_)
          refine lv_iload hx hb dX3_withoutLowest_57 (lv_at hl 0 rfl) ?_
          refine lv_if_eq (tgt := 68) hx hb dX3_withoutLowest_59 (by decide) (fun c_7 => ?_) (fun c_7 => ?_)
          rotate_left
          · exact absurd c_7 (by decide)
          refine lv_lload_n hx hb dX3_withoutLowest_68 rfl (lv_at hl 3 rfl) ?_
          exact W.lret hx hb hr (fun t ht hW => ⟨(by unfold fX3_withoutLowest; rw [if_pos c_1, if_neg c_2, if_pos c_4, if_neg c_6]), ht⟩) (fun q h => absurd h List.not_mem_nil) dX3_withoutLowest_69
        · refine lv_iconst (v := 1) hx hb dX3_withoutLowest_50 (by decide) ?_
          refine lv_goto (tgt := 55) hx hb dX3_withoutLowest_51 (by decide) ?_
          refine lv_istore (lv' := [(9, .int (1 : Int32)), (7, .long ((1 : Int64) <<< ((dr - (1 : Int32)).toInt64 &&& 63))), (5, .long (mg - ((mg.toUInt64 >>> (dr.toInt64.toUInt64 &&& Int64.toUInt64 63)).toInt64 <<< (dr.toInt64 &&& 63)))), (3, .long ((mg.toUInt64 >>> (dr.toInt64.toUInt64 &&& Int64.toUInt64 63)).toInt64)), (0, .long mg), (2, .int dr)]) hx hb dX3_withoutLowest_55 hl (by decide) rfl (fun ls hl => ?_)
          refine lv_iload hx hb dX3_withoutLowest_57 (lv_at hl 0 rfl) ?_
          refine lv_if_eq (tgt := 68) hx hb dX3_withoutLowest_59 (by decide) (fun c_8 => ?_) (fun c_8 => ?_)
          · exact absurd c_8 (by decide)
          refine lv_lload_n hx hb dX3_withoutLowest_62 rfl (lv_at hl 3 rfl) ?_
          refine lv_lconst (v := 1) hx hb dX3_withoutLowest_63 (by decide) ?_
          refine lv_ladd hx hb dX3_withoutLowest_64 ?_
          refine lv_goto (tgt := 69) hx hb dX3_withoutLowest_65 (by decide) ?_
          exact W.lret hx hb hr (fun t ht hW => ⟨(by unfold fX3_withoutLowest; rw [if_pos c_1, if_neg c_2, if_pos c_4, if_pos c_6]), ht⟩) (fun q h => absurd h List.not_mem_nil) dX3_withoutLowest_69
  · refine lv_lconst (v := 0) hx hb dX3_withoutLowest_6 (by decide) ?_
    exact W.lret hx hb hr (fun t ht hW => ⟨(by unfold fX3_withoutLowest; rw [if_neg c_1]), ht⟩) (fun q h => absurd h List.not_mem_nil) dX3_withoutLowest_7
def fX3_shiftedWithTrace (v : Int64) (by_ : Int32) : Int64 := if by_ ≤ (63 : Int32) then (if ((v.toUInt64 >>> (by_.toInt64.toUInt64 &&& Int64.toUInt64 63)).toInt64 <<< (by_.toInt64 &&& 63)) = v then ((v.toUInt64 >>> (by_.toInt64.toUInt64 &&& Int64.toUInt64 63)).toInt64) else ((v.toUInt64 >>> (by_.toInt64.toUInt64 &&& Int64.toUInt64 63)).toInt64 ||| (1 : Int64))) else (0 : Int64)
set_option maxHeartbeats 4000000 in
set_option maxRecDepth 100000 in
theorem mX3_shiftedWithTrace (l : Launch) (v : Int64) (by_ : Int32) : Met l yX3_shiftedWithTrace wsX3_shiftedWithTrace ({ frames := 0, cells := 0, slots := 0, locals := 0 }) (p0 [.long v, .int by_]) (pQ (.long (fX3_shiftedWithTrace v by_))) 0 0 (fun _ => False) := by
  refine Met.ofW (cc := cX3_shiftedWithTrace) (maxL := 5) (ret := (some .long)) (by decide) rfl ?_
  intro p e s m args below meth c s₁ B hml hv
  obtain ⟨rfl, hE⟩ := hv
  have hx := B.exec
  have hb := B.bytes
  have hr := B.returns
  have hts := atoms_spec (ws := wsX3_shiftedWithTrace) B.pre
  have hown : s.vm.findClass RX3 = some m.cls := findClass_of_methodNamed B.named
  have hlocks := B.notSynchronized
  have hS : va_S (fun _ => False) s.heap s.heap [] := va_S.rf
  have hl := lv_entry ([.long v, .int by_]) (n := 5) (Nat.le_of_ble_eq_true rfl)
  rw [lg_entry_eq]
  generalize (lg_sl ([.long v, .int by_]) ++ List.replicate (5 - (lg_sl ([.long v, .int by_])).length) Slot.unset).toArray = ls at hl ⊢
  have hl : lv_has ls 5 [(0, .long v), (2, .int by_)] := hl
  refine lv_iload_n hx hb dX3_shiftedWithTrace_0 rfl (lv_at hl 1 rfl) ?_
  refine lv_bipush (v := 63) hx hb dX3_shiftedWithTrace_1 (by decide) ?_
  refine lv_icmp_le (tgt := 8) hx hb dX3_shiftedWithTrace_3 (by decide) (fun c_1 => ?_) (fun c_1 => ?_)
  · refine lv_lload_n hx hb dX3_shiftedWithTrace_8 rfl (lv_at hl 0 rfl) ?_
    refine lv_iload_n hx hb dX3_shiftedWithTrace_9 rfl (lv_at hl 1 rfl) ?_
    refine lv_lushr hx hb dX3_shiftedWithTrace_10 rfl ?_
    refine lv_lstore_n (lv' := [(3, .long ((v.toUInt64 >>> (by_.toInt64.toUInt64 &&& Int64.toUInt64 63)).toInt64)), (0, .long v), (2, .int by_)]) hx hb dX3_shiftedWithTrace_11 rfl hl (by decide) rfl (fun ls hl => ?_)
    refine lv_lload_n hx hb dX3_shiftedWithTrace_12 rfl (lv_at hl 0 rfl) ?_
    refine lv_iload_n hx hb dX3_shiftedWithTrace_13 rfl (lv_at hl 2 rfl) ?_
    refine lv_lshl hx hb dX3_shiftedWithTrace_14 rfl ?_
    refine lv_lload_n hx hb dX3_shiftedWithTrace_15 rfl (lv_at hl 1 rfl) ?_
    refine w_lc_ne (tgt := 24) hx hb dX3_shiftedWithTrace_16 dX3_shiftedWithTrace_17 (by decide) (fun c_2 => ?_) (fun c_2 => ?_)
    · refine lv_lload_n hx hb dX3_shiftedWithTrace_24 rfl (lv_at hl 0 rfl) ?_
      refine lv_lconst (v := 1) hx hb dX3_shiftedWithTrace_25 (by decide) ?_
      refine lv_lor hx hb dX3_shiftedWithTrace_26 ?_
      exact W.lret hx hb hr (fun t ht hW => ⟨(by unfold fX3_shiftedWithTrace; rw [if_pos c_1, if_neg c_2]), ht⟩) (fun q h => absurd h List.not_mem_nil) dX3_shiftedWithTrace_27
    · refine lv_lload_n hx hb dX3_shiftedWithTrace_20 rfl (lv_at hl 0 rfl) ?_
      refine lv_goto (tgt := 27) hx hb dX3_shiftedWithTrace_21 (by decide) ?_
      exact W.lret hx hb hr (fun t ht hW => ⟨(by unfold fX3_shiftedWithTrace; rw [if_pos c_1, if_pos c_2]), ht⟩) (fun q h => absurd h List.not_mem_nil) dX3_shiftedWithTrace_27
  · refine lv_lconst (v := 0) hx hb dX3_shiftedWithTrace_6 (by decide) ?_
    exact W.lret hx hb hr (fun t ht hW => ⟨(by unfold fX3_shiftedWithTrace; rw [if_neg c_1]), ht⟩) (fun q h => absurd h List.not_mem_nil) dX3_shiftedWithTrace_7
def fX3_bitLength (v : Int64) : Int32 := nI (if uN v = 0 then 0 else (uN v).log2 + 1)
theorem bl_of {n k : Nat} (h1 : 0 < k → 2 ^ (k - 1) ≤ n) (h2 : n < 2 ^ k) : (if n = 0 then 0 else n.log2 + 1) = k := by
  by_cases h0 : n = 0
  · subst h0
    rw [if_pos rfl]
    rcases Nat.eq_zero_or_pos k with h | h
    · exact h.symm
    · exact absurd (h1 h) (by have := Nat.two_pow_pos (k - 1); omega)
  · rw [if_neg h0]
    have hk : 0 < k := by
      rcases Nat.eq_zero_or_pos k with h | h
      · subst h; simp at h2; omega
      · exact h
    have e : n.log2 = k - 1 := (Nat.log2_eq_iff h0).mpr ⟨h1 hk, by rw [show k - 1 + 1 = k by omega]; exact h2⟩
    omega
theorem bl_exit {v : Int64} {k : Nat} (hk : k < 64) (hlo : 0 < k → 2 ^ (k - 1) ≤ uN v) (h : (v.toUInt64 >>> ((nI k).toInt64.toUInt64 &&& Int64.toUInt64 63)).toInt64 = 0) : nI k = fX3_bitLength v := by
  have h1 := congrArg uN h
  rw [uN_sk v hk] at h1
  have h2 : uN v / 2 ^ k = 0 := h1
  rw [Nat.div_eq_zero_iff] at h2
  have h3 : uN v < 2 ^ k := by
    have := Nat.two_pow_pos k
    omega
  unfold fX3_bitLength
  rw [bl_of hlo h3]
theorem bl_step {v : Int64} {k : Nat} (hk : k < 64) (h : ¬ (v.toUInt64 >>> ((nI k).toInt64.toUInt64 &&& Int64.toUInt64 63)).toInt64 = 0) : 2 ^ k ≤ uN v := by
  refine Nat.le_of_not_lt (fun h2 => h (uN_inj ?_))
  rw [uN_sk v hk, Nat.div_eq_of_lt h2]
  rfl
theorem bl_full {v : Int64} {k : Nat} (hk : k = 64) (hlo : 0 < k → 2 ^ (k - 1) ≤ uN v) : (64 : Int32) = fX3_bitLength v := by
  subst hk
  unfold fX3_bitLength
  rw [bl_of hlo (by have := uN_lt v; exact this)]
  rfl
set_option maxHeartbeats 4000000 in
set_option maxRecDepth 100000 in
theorem mX3_bitLength (l : Launch) (v : Int64) : Met l yX3_bitLength wsX3_bitLength ({ frames := 0, cells := 0, slots := 0, locals := 0 }) (p0 [.long v]) (pQ (.int (fX3_bitLength v))) 0 0 (fun _ => False) := by
  refine Met.ofW (cc := cX3_bitLength) (maxL := 3) (ret := (some .int)) (by decide) rfl ?_
  intro p e s m args below meth c s₁ B hml hv
  obtain ⟨rfl, hE⟩ := hv
  have hx := B.exec
  have hb := B.bytes
  have hr := B.returns
  have hts := atoms_spec (ws := wsX3_bitLength) B.pre
  have hown : s.vm.findClass RX3 = some m.cls := findClass_of_methodNamed B.named
  have hlocks := B.notSynchronized
  have hS : va_S (fun _ => False) s.heap s.heap [] := va_S.rf
  have hl := lv_entry ([.long v]) (n := 3) (Nat.le_of_ble_eq_true rfl)
  rw [lg_entry_eq]
  generalize (lg_sl ([.long v]) ++ List.replicate (3 - (lg_sl ([.long v])).length) Slot.unset).toArray = ls at hl ⊢
  have hl : lv_has ls 3 [(0, .long v)] := hl
  refine lv_iconst (v := 0) hx hb dX3_bitLength_0 (by decide) ?_
  refine lv_istore_n (lv' := [(2, .int (0 : Int32)), (0, .long v)]) hx hb dX3_bitLength_1 rfl hl (by decide) rfl (fun ls hl => ?_)
  have key : ∀ (n k : Nat), n + k = 64 → (0 < k → 2 ^ (k - 1) ≤ uN v) → ∀ ls : Array Slot, lv_has ls 3 [(0, .long v), (2, .int (nI k))] → W p l e (headSpec wsX3_bitLength ({ frames := 0, cells := 0, slots := 0, locals := 0 })).room s m ([.long v] : List Value).toArray below meth c s.heap [] 0 0 (MQ below (pQ (.int (fX3_bitLength v))) ([.long v] : List Value).toArray s 0 0 (fun _ => False)) (F0 m 2 ls []) := by
    intro n
    induction n with
    | zero =>
      intro k hk hlo ls hl
      refine lv_iload_n hx hb dX3_bitLength_2 rfl (lv_at hl 1 rfl) ?_
      refine lv_bipush (v := 64) hx hb dX3_bitLength_3 (by decide) ?_
      refine lv_icmp_ge (tgt := 24) hx hb dX3_bitLength_5 (by decide) (fun c_1 => ?_) (fun c_1 => ?_)
      rotate_left
      · exact absurd (nI_le (a := 64) (b := k) (by omega) (by omega)) c_1
      refine lv_bipush (v := 64) hx hb dX3_bitLength_24 (by decide) ?_
      exact W.iret hx hb hr (fun t ht hW => ⟨(congrArg (fun z => Outcome.returned (some (Value.int z))) (bl_full (by omega) hlo)), ht⟩) (fun q h => absurd h List.not_mem_nil) dX3_bitLength_26
    | succ n ih =>
      intro k hk hlo ls hl
      refine lv_iload_n hx hb dX3_bitLength_2 rfl (lv_at hl 1 rfl) ?_
      refine lv_bipush (v := 64) hx hb dX3_bitLength_3 (by decide) ?_
      refine lv_icmp_ge (tgt := 24) hx hb dX3_bitLength_5 (by decide) (fun c_2 => ?_) (fun c_2 => ?_)
      · exact absurd c_2 (nI_ge (a := k) (b := 64) (by omega) (by decide))
      refine lv_lload_n hx hb dX3_bitLength_8 rfl (lv_at hl 0 rfl) ?_
      refine lv_iload_n hx hb dX3_bitLength_9 rfl (lv_at hl 1 rfl) ?_
      refine lv_lushr hx hb dX3_bitLength_10 rfl ?_
      refine lv_lconst (v := 0) hx hb dX3_bitLength_11 (by decide) ?_
      refine w_lc_ne (tgt := 18) hx hb dX3_bitLength_12 dX3_bitLength_13 (by decide) (fun hstep => ?_) (fun hstep => ?_)
      · refine lv_iinc (v := nI (k + 1)) (lv' := [(2, .int (nI (k + 1))), (0, .long v)]) hx hb dX3_bitLength_18 hl (k := 1) rfl (nI_1 k) (by decide) rfl (fun ls hl => ?_)
        refine lv_goto (tgt := 2) hx hb dX3_bitLength_21 (by decide) ?_
        exact ih (k + 1) (by omega) (fun _ => bl_step (by omega) hstep) ls (lv_sub hl [1, 0] rfl)
      · refine lv_iload_n hx hb dX3_bitLength_16 rfl (lv_at hl 1 rfl) ?_
        exact W.iret hx hb hr (fun t ht hW => ⟨(congrArg (fun z => Outcome.returned (some (Value.int z))) (bl_exit (by omega) hlo hstep)), ht⟩) (fun q h => absurd h List.not_mem_nil) dX3_bitLength_17
  exact key 64 0 rfl (fun h => absurd h (Nat.lt_irrefl 0)) ls (by rw [nI_0]; exact lv_sub hl [1, 0] rfl)
def fX3_nearest (i : Nat) (neg : Bool) (mg : Int64) (ex : Int32) : Int64 := if mg = (0 : Int64) then (fX3_signed i neg (0 : Int64)) else (if (if (((fX3_bitLength mg) - cFB i) - (1 : Int32)) < (cLE i - ex) then (cLE i - ex) else (((fX3_bitLength mg) - cFB i) - (1 : Int32))) ≤ 0 then (if (((ex.toInt64 + (if (((fX3_bitLength mg) - cFB i) - (1 : Int32)) < (cLE i - ex) then (cLE i - ex) else (((fX3_bitLength mg) - cFB i) - (1 : Int32))).toInt64) - (cLE i).toInt64) + (1 : Int64)) < ((cEN i).toUInt64 >>> ((cFB i).toInt64.toUInt64 &&& Int64.toUInt64 63)).toInt64 then (fX3_signed i neg ((((ex.toInt64 + (if (((fX3_bitLength mg) - cFB i) - (1 : Int32)) < (cLE i - ex) then (cLE i - ex) else (((fX3_bitLength mg) - cFB i) - (1 : Int32))).toInt64) - (cLE i).toInt64) <<< ((cFB i).toInt64 &&& 63)) + (mg <<< ((-(if (((fX3_bitLength mg) - cFB i) - (1 : Int32)) < (cLE i - ex) then (cLE i - ex) else (((fX3_bitLength mg) - cFB i) - (1 : Int32)))).toInt64 &&& 63)))) else (fX3_signed i neg (cEN i))) else (if (((ex.toInt64 + (if (((fX3_bitLength mg) - cFB i) - (1 : Int32)) < (cLE i - ex) then (cLE i - ex) else (((fX3_bitLength mg) - cFB i) - (1 : Int32))).toInt64) - (cLE i).toInt64) + (1 : Int64)) < ((cEN i).toUInt64 >>> ((cFB i).toInt64.toUInt64 &&& Int64.toUInt64 63)).toInt64 then (fX3_signed i neg ((((ex.toInt64 + (if (((fX3_bitLength mg) - cFB i) - (1 : Int32)) < (cLE i - ex) then (cLE i - ex) else (((fX3_bitLength mg) - cFB i) - (1 : Int32))).toInt64) - (cLE i).toInt64) <<< ((cFB i).toInt64 &&& 63)) + (fX3_withoutLowest mg (if (((fX3_bitLength mg) - cFB i) - (1 : Int32)) < (cLE i - ex) then (cLE i - ex) else (((fX3_bitLength mg) - cFB i) - (1 : Int32)))))) else (fX3_signed i neg (cEN i))))
set_option maxHeartbeats 4000000 in
set_option maxRecDepth 100000 in
theorem mX3_nearest (l : Launch) (ad : Nat → Nat) (i : Nat) (hi : i < 2) (neg : Bool) (mg : Int64) (ex : Int32) : Met l yX3_nearest wsX3_nearest ({ frames := 1, cells := 0, slots := 0, locals := 29 }) (pE ad [.ref (ad i), .int (b2i neg), .long mg, .int ex]) (pQ (.long (fX3_nearest i neg mg ex))) 0 0 (fun _ => False) := by
  refine Met.ofW (cc := cX3_nearest) (maxL := 10) (ret := (some .long)) (by decide) rfl ?_
  intro p e s m args below meth c s₁ B hml hv
  obtain ⟨rfl, hE⟩ := hv
  have hx := B.exec
  have hb := B.bytes
  have hr := B.returns
  have hts := atoms_spec (ws := wsX3_nearest) B.pre
  have hown : s.vm.findClass RX3 = some m.cls := findClass_of_methodNamed B.named
  have hlocks := B.notSynchronized
  have hS : va_S (fun _ => False) s.heap s.heap [] := va_S.rf
  have hl := lv_entry ([.ref (ad i), .int (b2i neg), .long mg, .int ex]) (n := 10) (Nat.le_of_ble_eq_true rfl)
  rw [lg_entry_eq]
  generalize (lg_sl ([.ref (ad i), .int (b2i neg), .long mg, .int ex]) ++ List.replicate (10 - (lg_sl ([.ref (ad i), .int (b2i neg), .long mg, .int ex])).length) Slot.unset).toArray = ls at hl ⊢
  have hl : lv_has ls 10 [(0, .ref (ad i)), (1, .int (b2i neg)), (2, .long mg), (4, .int ex)] := hl
  refine lv_lload_n hx hb dX3_nearest_0 rfl (lv_at hl 2 rfl) ?_
  refine lv_lconst (v := 0) hx hb dX3_nearest_1 (by decide) ?_
  refine w_lc_ne (tgt := 13) hx hb dX3_nearest_2 dX3_nearest_3 (by decide) (fun c_1 => ?_) (fun c_1 => ?_)
  · refine lv_lload_n hx hb dX3_nearest_13 rfl (lv_at hl 2 rfl) ?_
    refine cs_0 (As := [.long mg]) (rest := []) ⟨hx, hb, hml, hown, hts⟩ (mX3_bitLength l mg) (va_cwS 1 hts gX3_nearest_X3_bitLength rfl rfl rfl (by decide +kernel) ⟨Nat.le_of_ble_eq_true rfl, Nat.le_of_ble_eq_true rfl⟩) rfl rfl hl.1 (Nat.le_of_ble_eq_true rfl) dX3_nearest_14 (Nat.zero_le _) (Nat.zero_le _) ?_
    refine lv_aload_n hx hb dX3_nearest_17 rfl (lv_at hl 0 rfl) ?_
    refine va_getX hx hb hE.2.1 hi hS hown (hts (.fieldLink RX3 29 "TideGauges$Width" "fractionBits" "I") (List.mem_of_getElem? (i := 1) rfl)) (fun _ h9 => h9) dX3_nearest_18 ?_
    refine lv_isub hx hb dX3_nearest_21 ?_
    refine lv_iconst (v := 1) hx hb dX3_nearest_22 (by decide) ?_
    refine lv_isub hx hb dX3_nearest_23 ?_
    refine lv_aload_n hx hb dX3_nearest_24 rfl (lv_at hl 0 rfl) ?_
    refine va_getX hx hb hE.2.2.1 hi hS hown (hts (.fieldLink RX3 33 "TideGauges$Width" "leastExponent" "I") (List.mem_of_getElem? (i := 2) rfl)) (fun _ h9 => h9) dX3_nearest_25 ?_
    refine lv_iload hx hb dX3_nearest_28 (lv_at hl 3 rfl) ?_
    refine lv_isub hx hb dX3_nearest_30 ?_
    refine va_mmax hx hb (hml.trans hl.1.symm) hown (hts (.methodLink RX3 106 Lib.Math.max.name) (List.mem_of_getElem? (i := 3) rfl)) (hts (.static Lib.Math.max.name) (List.mem_of_getElem? (i := 4) rfl)) (hts (.initialized "java/lang/Math") (List.mem_of_getElem? (i := 5) rfl)) (hts (.code Lib.Math.max.name Lib.Math.max.code 2 (some .int)) (List.mem_of_getElem? (i := 6) rfl)) (Nat.le_of_ble_eq_true rfl) (Nat.le_of_ble_eq_true rfl) (Nat.zero_le _) (Nat.zero_le _) dX3_nearest_31 ?_
    refine lv_istore (lv' := [(5, .int (if (((fX3_bitLength mg) - cFB i) - (1 : Int32)) < (cLE i - ex) then (cLE i - ex) else (((fX3_bitLength mg) - cFB i) - (1 : Int32)))), (0, .ref (ad i)), (1, .int (b2i neg)), (2, .long mg), (4, .int ex)]) hx hb dX3_nearest_34 hl (by decide) rfl (fun ls hl => ?_)
    refine lv_iload hx hb dX3_nearest_36 (lv_at hl 0 rfl) ?_
    refine lv_if_le (tgt := 50) hx hb dX3_nearest_38 (by decide) (fun c_2 => ?_) (fun c_2 => ?_)
    · refine lv_lload_n hx hb dX3_nearest_50 rfl (lv_at hl 3 rfl) ?_
      refine lv_iload hx hb dX3_nearest_51 (lv_at hl 0 rfl) ?_
      refine lv_ineg hx hb dX3_nearest_53 ?_
      refine lv_lshl hx hb dX3_nearest_54 rfl ?_
      refine lv_lstore (lv' := [(6, .long (mg <<< ((-(if (((fX3_bitLength mg) - cFB i) - (1 : Int32)) < (cLE i - ex) then (cLE i - ex) else (((fX3_bitLength mg) - cFB i) - (1 : Int32)))).toInt64 &&& 63))), (5, .int (if (((fX3_bitLength mg) - cFB i) - (1 : Int32)) < (cLE i - ex) then (cLE i - ex) else (((fX3_bitLength mg) - cFB i) - (1 : Int32)))), (0, .ref (ad i)), (1, .int (b2i neg)), (2, .long mg), (4, .int ex)]) hx hb dX3_nearest_55 hl (by decide) rfl (fun ls hl => ?_)
      refine lv_iload hx hb dX3_nearest_57 (lv_at hl 5 rfl) ?_
      refine lv_i2l hx hb dX3_nearest_59 rfl ?_
      refine lv_iload hx hb dX3_nearest_60 (lv_at hl 1 rfl) ?_
      refine lv_i2l hx hb dX3_nearest_62 rfl ?_
      refine lv_ladd hx hb dX3_nearest_63 ?_
      refine lv_aload_n hx hb dX3_nearest_64 rfl (lv_at hl 2 rfl) ?_
      refine va_getX hx hb hE.2.2.1 hi hS hown (hts (.fieldLink RX3 33 "TideGauges$Width" "leastExponent" "I") (List.mem_of_getElem? (i := 2) rfl)) (fun _ h9 => h9) dX3_nearest_65 ?_
      refine lv_i2l hx hb dX3_nearest_68 rfl ?_
      refine lv_lsub hx hb dX3_nearest_69 ?_
      refine lv_lstore (lv' := [(8, .long ((ex.toInt64 + (if (((fX3_bitLength mg) - cFB i) - (1 : Int32)) < (cLE i - ex) then (cLE i - ex) else (((fX3_bitLength mg) - cFB i) - (1 : Int32))).toInt64) - (cLE i).toInt64)), (6, .long (mg <<< ((-(if (((fX3_bitLength mg) - cFB i) - (1 : Int32)) < (cLE i - ex) then (cLE i - ex) else (((fX3_bitLength mg) - cFB i) - (1 : Int32)))).toInt64 &&& 63))), (5, .int (if (((fX3_bitLength mg) - cFB i) - (1 : Int32)) < (cLE i - ex) then (cLE i - ex) else (((fX3_bitLength mg) - cFB i) - (1 : Int32)))), (0, .ref (ad i)), (1, .int (b2i neg)), (2, .long mg), (4, .int ex)]) hx hb dX3_nearest_70 hl (by decide) rfl (fun ls hl => ?_)
      refine lv_lload hx hb dX3_nearest_72 (lv_at hl 0 rfl) ?_
      refine lv_lconst (v := 1) hx hb dX3_nearest_74 (by decide) ?_
      refine lv_ladd hx hb dX3_nearest_75 ?_
      refine lv_aload_n hx hb dX3_nearest_76 rfl (lv_at hl 3 rfl) ?_
      refine va_getX hx hb hE.2.2.2.2 hi hS hown (hts (.fieldLink RX3 40 "TideGauges$Width" "endless" "J") (List.mem_of_getElem? (i := 7) rfl)) (fun _ h9 => h9) dX3_nearest_77 ?_
      refine lv_aload_n hx hb dX3_nearest_80 rfl (lv_at hl 3 rfl) ?_
      refine va_getX hx hb hE.2.1 hi hS hown (hts (.fieldLink RX3 29 "TideGauges$Width" "fractionBits" "I") (List.mem_of_getElem? (i := 1) rfl)) (fun _ h9 => h9) dX3_nearest_81 ?_
      refine lv_lushr hx hb dX3_nearest_84 rfl ?_
      refine w_lc_lt (tgt := 99) hx hb dX3_nearest_85 dX3_nearest_86 (by decide) (fun c_3 => ?_) (fun c_3 => ?_)
      · refine lv_aload_n hx hb dX3_nearest_99 rfl (lv_at hl 3 rfl) ?_
        refine lv_iload_n hx hb dX3_nearest_100 rfl (lv_at hl 4 rfl) ?_
        refine lv_lload hx hb dX3_nearest_101 (lv_at hl 0 rfl) ?_
        refine lv_aload_n hx hb dX3_nearest_103 rfl (lv_at hl 3 rfl) ?_
        refine va_getX hx hb hE.2.1 hi hS hown (hts (.fieldLink RX3 29 "TideGauges$Width" "fractionBits" "I") (List.mem_of_getElem? (i := 1) rfl)) (fun _ h9 => h9) dX3_nearest_104 ?_
        refine lv_lshl hx hb dX3_nearest_107 rfl ?_
        refine lv_lload hx hb dX3_nearest_108 (lv_at hl 1 rfl) ?_
        refine lv_ladd hx hb dX3_nearest_110 ?_
        refine cv_w (As := [.int (b2i neg), .long ((((ex.toInt64 + (if (((fX3_bitLength mg) - cFB i) - (1 : Int32)) < (cLE i - ex) then (cLE i - ex) else (((fX3_bitLength mg) - cFB i) - (1 : Int32))).toInt64) - (cLE i).toInt64) <<< ((cFB i).toInt64 &&& 63)) + (mg <<< ((-(if (((fX3_bitLength mg) - cFB i) - (1 : Int32)) < (cLE i - ex) then (cLE i - ex) else (((fX3_bitLength mg) - cFB i) - (1 : Int32)))).toInt64 &&& 63)))]) (rest := []) ⟨hx, hb, hml, hown, hts⟩ (mX3_signed l ad i hi neg ((((ex.toInt64 + (if (((fX3_bitLength mg) - cFB i) - (1 : Int32)) < (cLE i - ex) then (cLE i - ex) else (((fX3_bitLength mg) - cFB i) - (1 : Int32))).toInt64) - (cLE i).toInt64) <<< ((cFB i).toInt64 &&& 63)) + (mg <<< ((-(if (((fX3_bitLength mg) - cFB i) - (1 : Int32)) < (cLE i - ex) then (cLE i - ex) else (((fX3_bitLength mg) - cFB i) - (1 : Int32)))).toInt64 &&& 63)))) (cwV 2 hts gX3_nearest_X3_signed rfl rfl rfl (by decide +kernel) ⟨Nat.le_of_ble_eq_true rfl, Nat.le_of_ble_eq_true rfl⟩) hE hS hi rfl rfl hl.1 (Nat.le_of_ble_eq_true rfl) dX3_nearest_111 (Nat.zero_le _) (Nat.zero_le _) ?_
        exact W.lret hx hb hr (fun t ht hW => ⟨(by unfold fX3_nearest; rw [if_neg c_1, if_pos c_2, if_pos c_3]), ht⟩) (fun q h => absurd h List.not_mem_nil) dX3_nearest_114
      · refine lv_aload_n hx hb dX3_nearest_89 rfl (lv_at hl 3 rfl) ?_
        refine lv_iload_n hx hb dX3_nearest_90 rfl (lv_at hl 4 rfl) ?_
        refine lv_aload_n hx hb dX3_nearest_91 rfl (lv_at hl 3 rfl) ?_
        refine va_getX hx hb hE.2.2.2.2 hi hS hown (hts (.fieldLink RX3 40 "TideGauges$Width" "endless" "J") (List.mem_of_getElem? (i := 7) rfl)) (fun _ h9 => h9) dX3_nearest_92 ?_
        refine cv_w (As := [.int (b2i neg), .long (cEN i)]) (rest := []) ⟨hx, hb, hml, hown, hts⟩ (mX3_signed l ad i hi neg (cEN i)) (cwV 2 hts gX3_nearest_X3_signed rfl rfl rfl (by decide +kernel) ⟨Nat.le_of_ble_eq_true rfl, Nat.le_of_ble_eq_true rfl⟩) hE hS hi rfl rfl hl.1 (Nat.le_of_ble_eq_true rfl) dX3_nearest_95 (Nat.zero_le _) (Nat.zero_le _) ?_
        exact W.lret hx hb hr (fun t ht hW => ⟨(by unfold fX3_nearest; rw [if_neg c_1, if_pos c_2, if_neg c_3]), ht⟩) (fun q h => absurd h List.not_mem_nil) dX3_nearest_98
    · refine lv_lload_n hx hb dX3_nearest_41 rfl (lv_at hl 3 rfl) ?_
      refine lv_iload hx hb dX3_nearest_42 (lv_at hl 0 rfl) ?_
      refine cs_0 (As := [.long mg, .int (if (((fX3_bitLength mg) - cFB i) - (1 : Int32)) < (cLE i - ex) then (cLE i - ex) else (((fX3_bitLength mg) - cFB i) - (1 : Int32)))]) (rest := []) ⟨hx, hb, hml, hown, hts⟩ (mX3_withoutLowest l mg (if (((fX3_bitLength mg) - cFB i) - (1 : Int32)) < (cLE i - ex) then (cLE i - ex) else (((fX3_bitLength mg) - cFB i) - (1 : Int32)))) (va_cwS 2 hts gX3_nearest_X3_withoutLowest rfl rfl rfl (by decide +kernel) ⟨Nat.le_of_ble_eq_true rfl, Nat.le_of_ble_eq_true rfl⟩) rfl rfl hl.1 (Nat.le_of_ble_eq_true rfl) dX3_nearest_44 (Nat.zero_le _) (Nat.zero_le _) ?_
      refine lv_goto (tgt := 55) hx hb dX3_nearest_47 (by decide) ?_
      refine lv_lstore (lv' := [(6, .long (fX3_withoutLowest mg (if (((fX3_bitLength mg) - cFB i) - (1 : Int32)) < (cLE i - ex) then (cLE i - ex) else (((fX3_bitLength mg) - cFB i) - (1 : Int32))))), (5, .int (if (((fX3_bitLength mg) - cFB i) - (1 : Int32)) < (cLE i - ex) then (cLE i - ex) else (((fX3_bitLength mg) - cFB i) - (1 : Int32)))), (0, .ref (ad i)), (1, .int (b2i neg)), (2, .long mg), (4, .int ex)]) hx hb dX3_nearest_55 hl (by decide) rfl (fun ls hl => ?_)
      refine lv_iload hx hb dX3_nearest_57 (lv_at hl 5 rfl) ?_
      refine lv_i2l hx hb dX3_nearest_59 rfl ?_
      refine lv_iload hx hb dX3_nearest_60 (lv_at hl 1 rfl) ?_
      refine lv_i2l hx hb dX3_nearest_62 rfl ?_
      refine lv_ladd hx hb dX3_nearest_63 ?_
      refine lv_aload_n hx hb dX3_nearest_64 rfl (lv_at hl 2 rfl) ?_
      refine va_getX hx hb hE.2.2.1 hi hS hown (hts (.fieldLink RX3 33 "TideGauges$Width" "leastExponent" "I") (List.mem_of_getElem? (i := 2) rfl)) (fun _ h9 => h9) dX3_nearest_65 ?_
      refine lv_i2l hx hb dX3_nearest_68 rfl ?_
      refine lv_lsub hx hb dX3_nearest_69 ?_
      refine lv_lstore (lv' := [(8, .long ((ex.toInt64 + (if (((fX3_bitLength mg) - cFB i) - (1 : Int32)) < (cLE i - ex) then (cLE i - ex) else (((fX3_bitLength mg) - cFB i) - (1 : Int32))).toInt64) - (cLE i).toInt64)), (6, .long (fX3_withoutLowest mg (if (((fX3_bitLength mg) - cFB i) - (1 : Int32)) < (cLE i - ex) then (cLE i - ex) else (((fX3_bitLength mg) - cFB i) - (1 : Int32))))), (5, .int (if (((fX3_bitLength mg) - cFB i) - (1 : Int32)) < (cLE i - ex) then (cLE i - ex) else (((fX3_bitLength mg) - cFB i) - (1 : Int32)))), (0, .ref (ad i)), (1, .int (b2i neg)), (2, .long mg), (4, .int ex)]) hx hb dX3_nearest_70 hl (by decide) rfl (fun ls hl => ?_)
      refine lv_lload hx hb dX3_nearest_72 (lv_at hl 0 rfl) ?_
      refine lv_lconst (v := 1) hx hb dX3_nearest_74 (by decide) ?_
      refine lv_ladd hx hb dX3_nearest_75 ?_
      refine lv_aload_n hx hb dX3_nearest_76 rfl (lv_at hl 3 rfl) ?_
      refine va_getX hx hb hE.2.2.2.2 hi hS hown (hts (.fieldLink RX3 40 "TideGauges$Width" "endless" "J") (List.mem_of_getElem? (i := 7) rfl)) (fun _ h9 => h9) dX3_nearest_77 ?_
      refine lv_aload_n hx hb dX3_nearest_80 rfl (lv_at hl 3 rfl) ?_
      refine va_getX hx hb hE.2.1 hi hS hown (hts (.fieldLink RX3 29 "TideGauges$Width" "fractionBits" "I") (List.mem_of_getElem? (i := 1) rfl)) (fun _ h9 => h9) dX3_nearest_81 ?_
      refine lv_lushr hx hb dX3_nearest_84 rfl ?_
      refine w_lc_lt (tgt := 99) hx hb dX3_nearest_85 dX3_nearest_86 (by decide) (fun c_4 => ?_) (fun c_4 => ?_)
      · refine lv_aload_n hx hb dX3_nearest_99 rfl (lv_at hl 3 rfl) ?_
        refine lv_iload_n hx hb dX3_nearest_100 rfl (lv_at hl 4 rfl) ?_
        refine lv_lload hx hb dX3_nearest_101 (lv_at hl 0 rfl) ?_
        refine lv_aload_n hx hb dX3_nearest_103 rfl (lv_at hl 3 rfl) ?_
        refine va_getX hx hb hE.2.1 hi hS hown (hts (.fieldLink RX3 29 "TideGauges$Width" "fractionBits" "I") (List.mem_of_getElem? (i := 1) rfl)) (fun _ h9 => h9) dX3_nearest_104 ?_
        refine lv_lshl hx hb dX3_nearest_107 rfl ?_
        refine lv_lload hx hb dX3_nearest_108 (lv_at hl 1 rfl) ?_
        refine lv_ladd hx hb dX3_nearest_110 ?_
        refine cv_w (As := [.int (b2i neg), .long ((((ex.toInt64 + (if (((fX3_bitLength mg) - cFB i) - (1 : Int32)) < (cLE i - ex) then (cLE i - ex) else (((fX3_bitLength mg) - cFB i) - (1 : Int32))).toInt64) - (cLE i).toInt64) <<< ((cFB i).toInt64 &&& 63)) + (fX3_withoutLowest mg (if (((fX3_bitLength mg) - cFB i) - (1 : Int32)) < (cLE i - ex) then (cLE i - ex) else (((fX3_bitLength mg) - cFB i) - (1 : Int32)))))]) (rest := []) ⟨hx, hb, hml, hown, hts⟩ (mX3_signed l ad i hi neg ((((ex.toInt64 + (if (((fX3_bitLength mg) - cFB i) - (1 : Int32)) < (cLE i - ex) then (cLE i - ex) else (((fX3_bitLength mg) - cFB i) - (1 : Int32))).toInt64) - (cLE i).toInt64) <<< ((cFB i).toInt64 &&& 63)) + (fX3_withoutLowest mg (if (((fX3_bitLength mg) - cFB i) - (1 : Int32)) < (cLE i - ex) then (cLE i - ex) else (((fX3_bitLength mg) - cFB i) - (1 : Int32)))))) (cwV 2 hts gX3_nearest_X3_signed rfl rfl rfl (by decide +kernel) ⟨Nat.le_of_ble_eq_true rfl, Nat.le_of_ble_eq_true rfl⟩) hE hS hi rfl rfl hl.1 (Nat.le_of_ble_eq_true rfl) dX3_nearest_111 (Nat.zero_le _) (Nat.zero_le _) ?_
        exact W.lret hx hb hr (fun t ht hW => ⟨(by unfold fX3_nearest; rw [if_neg c_1, if_neg c_2, if_pos c_4]), ht⟩) (fun q h => absurd h List.not_mem_nil) dX3_nearest_114
      · refine lv_aload_n hx hb dX3_nearest_89 rfl (lv_at hl 3 rfl) ?_
        refine lv_iload_n hx hb dX3_nearest_90 rfl (lv_at hl 4 rfl) ?_
        refine lv_aload_n hx hb dX3_nearest_91 rfl (lv_at hl 3 rfl) ?_
        refine va_getX hx hb hE.2.2.2.2 hi hS hown (hts (.fieldLink RX3 40 "TideGauges$Width" "endless" "J") (List.mem_of_getElem? (i := 7) rfl)) (fun _ h9 => h9) dX3_nearest_92 ?_
        refine cv_w (As := [.int (b2i neg), .long (cEN i)]) (rest := []) ⟨hx, hb, hml, hown, hts⟩ (mX3_signed l ad i hi neg (cEN i)) (cwV 2 hts gX3_nearest_X3_signed rfl rfl rfl (by decide +kernel) ⟨Nat.le_of_ble_eq_true rfl, Nat.le_of_ble_eq_true rfl⟩) hE hS hi rfl rfl hl.1 (Nat.le_of_ble_eq_true rfl) dX3_nearest_95 (Nat.zero_le _) (Nat.zero_le _) ?_
        exact W.lret hx hb hr (fun t ht hW => ⟨(by unfold fX3_nearest; rw [if_neg c_1, if_neg c_2, if_neg c_4]), ht⟩) (fun q h => absurd h List.not_mem_nil) dX3_nearest_98
  · refine lv_aload_n hx hb dX3_nearest_6 rfl (lv_at hl 0 rfl) ?_
    refine lv_iload_n hx hb dX3_nearest_7 rfl (lv_at hl 1 rfl) ?_
    refine lv_lconst (v := 0) hx hb dX3_nearest_8 (by decide) ?_
    refine cv_w (As := [.int (b2i neg), .long (0 : Int64)]) (rest := []) ⟨hx, hb, hml, hown, hts⟩ (mX3_signed l ad i hi neg (0 : Int64)) (cwV 2 hts gX3_nearest_X3_signed rfl rfl rfl (by decide +kernel) ⟨Nat.le_of_ble_eq_true rfl, Nat.le_of_ble_eq_true rfl⟩) hE hS hi rfl rfl hl.1 (Nat.le_of_ble_eq_true rfl) dX3_nearest_9 (Nat.zero_le _) (Nat.zero_le _) ?_
    exact W.lret hx hb hr (fun t ht hW => ⟨(by unfold fX3_nearest; rw [if_pos c_1]), ht⟩) (fun q h => absurd h List.not_mem_nil) dX3_nearest_12
def fX3_nearestWhole (i : Nat) (v : Int64) : Int64 := if (0 : Int64) ≤ v then (fX3_nearest i false v (0 : Int32)) else (fX3_nearest i true (-v) (0 : Int32))
set_option maxHeartbeats 4000000 in
set_option maxRecDepth 100000 in
theorem mX3_nearestWhole (l : Launch) (ad : Nat → Nat) (i : Nat) (hi : i < 2) (v : Int64) : Met l yX3_nearestWhole wsX3_nearestWhole ({ frames := 2, cells := 0, slots := 0, locals := 58 }) (pE ad [.ref (ad i), .long v]) (pQ (.long (fX3_nearestWhole i v))) 0 0 (fun _ => False) := by
  refine Met.ofW (cc := cX3_nearestWhole) (maxL := 3) (ret := (some .long)) (by decide) rfl ?_
  intro p e s m args below meth c s₁ B hml hv
  obtain ⟨rfl, hE⟩ := hv
  have hx := B.exec
  have hb := B.bytes
  have hr := B.returns
  have hts := atoms_spec (ws := wsX3_nearestWhole) B.pre
  have hown : s.vm.findClass RX3 = some m.cls := findClass_of_methodNamed B.named
  have hlocks := B.notSynchronized
  have hS : va_S (fun _ => False) s.heap s.heap [] := va_S.rf
  have hl := lv_entry ([.ref (ad i), .long v]) (n := 3) (Nat.le_of_ble_eq_true rfl)
  rw [lg_entry_eq]
  generalize (lg_sl ([.ref (ad i), .long v]) ++ List.replicate (3 - (lg_sl ([.ref (ad i), .long v])).length) Slot.unset).toArray = ls at hl ⊢
  have hl : lv_has ls 3 [(0, .ref (ad i)), (1, .long v)] := hl
  refine lv_aload_n hx hb dX3_nearestWhole_0 rfl (lv_at hl 0 rfl) ?_
  refine lv_lload_n hx hb dX3_nearestWhole_1 rfl (lv_at hl 1 rfl) ?_
  refine lv_lconst (v := 0) hx hb dX3_nearestWhole_2 (by decide) ?_
  refine w_lc_ge (tgt := 11) hx hb dX3_nearestWhole_3 dX3_nearestWhole_4 (by decide) (fun c_1 => ?_) (fun c_1 => ?_)
  · refine lv_iconst (v := 0) hx hb dX3_nearestWhole_11 (by decide) ?_
    refine lv_lload_n hx hb dX3_nearestWhole_12 rfl (lv_at hl 1 rfl) ?_
    refine lv_lconst (v := 0) hx hb dX3_nearestWhole_13 (by decide) ?_
    refine w_lc_ge (tgt := 23) hx hb dX3_nearestWhole_14 dX3_nearestWhole_15 (by decide) (fun c_2 => ?_) (fun c_2 => ?_)
    rotate_left
    · exact absurd c_1 c_2
    refine lv_lload_n hx hb dX3_nearestWhole_23 rfl (lv_at hl 1 rfl) ?_
    refine lv_iconst (v := 0) hx hb dX3_nearestWhole_24 (by decide) ?_
    refine cv_w (As := [.int (b2i false), .long v, .int (0 : Int32)]) (rest := []) ⟨hx, hb, hml, hown, hts⟩ (mX3_nearest l ad i hi false v (0 : Int32)) (cwV 3 hts gX3_nearestWhole_X3_nearest rfl rfl rfl (by decide +kernel) ⟨Nat.le_of_ble_eq_true rfl, Nat.le_of_ble_eq_true rfl⟩) hE hS hi rfl rfl hl.1 (Nat.le_of_ble_eq_true rfl) dX3_nearestWhole_25 (Nat.zero_le _) (Nat.zero_le _) ?_
    exact W.lret hx hb hr (fun t ht hW => ⟨(by unfold fX3_nearestWhole; rw [if_pos c_1]), ht⟩) (fun q h => absurd h List.not_mem_nil) dX3_nearestWhole_28
  · refine lv_iconst (v := 1) hx hb dX3_nearestWhole_7 (by decide) ?_
    refine lv_goto (tgt := 12) hx hb dX3_nearestWhole_8 (by decide) ?_
    refine lv_lload_n hx hb dX3_nearestWhole_12 rfl (lv_at hl 1 rfl) ?_
    refine lv_lconst (v := 0) hx hb dX3_nearestWhole_13 (by decide) ?_
    refine w_lc_ge (tgt := 23) hx hb dX3_nearestWhole_14 dX3_nearestWhole_15 (by decide) (fun c_3 => ?_) (fun c_3 => ?_)
    · exact absurd c_3 c_1
    refine lv_lload_n hx hb dX3_nearestWhole_18 rfl (lv_at hl 1 rfl) ?_
    refine lv_lneg hx hb dX3_nearestWhole_19 ?_
    refine lv_goto (tgt := 24) hx hb dX3_nearestWhole_20 (by decide) ?_
    refine lv_iconst (v := 0) hx hb dX3_nearestWhole_24 (by decide) ?_
    refine cv_w (As := [.int (b2i true), .long (-v), .int (0 : Int32)]) (rest := []) ⟨hx, hb, hml, hown, hts⟩ (mX3_nearest l ad i hi true (-v) (0 : Int32)) (cwV 3 hts gX3_nearestWhole_X3_nearest rfl rfl rfl (by decide +kernel) ⟨Nat.le_of_ble_eq_true rfl, Nat.le_of_ble_eq_true rfl⟩) hE hS hi rfl rfl hl.1 (Nat.le_of_ble_eq_true rfl) dX3_nearestWhole_25 (Nat.zero_le _) (Nat.zero_le _) ?_
    exact W.lret hx hb hr (fun t ht hW => ⟨(by unfold fX3_nearestWhole; rw [if_neg c_1]), ht⟩) (fun q h => absurd h List.not_mem_nil) dX3_nearestWhole_28
def fX3_nearestEighths (i : Nat) (g : Int32) : Int64 := if (0 : Int64) ≤ g.toInt64 then (fX3_nearest i false g.toInt64 (-3 : Int32)) else (fX3_nearest i true (-g.toInt64) (-3 : Int32))
set_option maxHeartbeats 4000000 in
set_option maxRecDepth 100000 in
theorem mX3_nearestEighths (l : Launch) (ad : Nat → Nat) (i : Nat) (hi : i < 2) (g : Int32) : Met l yX3_nearestEighths wsX3_nearestEighths ({ frames := 2, cells := 0, slots := 0, locals := 58 }) (pE ad [.ref (ad i), .int g]) (pQ (.long (fX3_nearestEighths i g))) 0 0 (fun _ => False) := by
  refine Met.ofW (cc := cX3_nearestEighths) (maxL := 4) (ret := (some .long)) (by decide) rfl ?_
  intro p e s m args below meth c s₁ B hml hv
  obtain ⟨rfl, hE⟩ := hv
  have hx := B.exec
  have hb := B.bytes
  have hr := B.returns
  have hts := atoms_spec (ws := wsX3_nearestEighths) B.pre
  have hown : s.vm.findClass RX3 = some m.cls := findClass_of_methodNamed B.named
  have hlocks := B.notSynchronized
  have hS : va_S (fun _ => False) s.heap s.heap [] := va_S.rf
  have hl := lv_entry ([.ref (ad i), .int g]) (n := 4) (Nat.le_of_ble_eq_true rfl)
  rw [lg_entry_eq]
  generalize (lg_sl ([.ref (ad i), .int g]) ++ List.replicate (4 - (lg_sl ([.ref (ad i), .int g])).length) Slot.unset).toArray = ls at hl ⊢
  have hl : lv_has ls 4 [(0, .ref (ad i)), (1, .int g)] := hl
  refine lv_iload_n hx hb dX3_nearestEighths_0 rfl (lv_at hl 1 rfl) ?_
  refine lv_i2l hx hb dX3_nearestEighths_1 rfl ?_
  refine lv_lstore_n (lv' := [(2, .long g.toInt64), (0, .ref (ad i)), (1, .int g)]) hx hb dX3_nearestEighths_2 rfl hl (by decide) rfl (fun ls hl => ?_)
  refine lv_aload_n hx hb dX3_nearestEighths_3 rfl (lv_at hl 1 rfl) ?_
  refine lv_lload_n hx hb dX3_nearestEighths_4 rfl (lv_at hl 0 rfl) ?_
  refine lv_lconst (v := 0) hx hb dX3_nearestEighths_5 (by decide) ?_
  refine w_lc_ge (tgt := 14) hx hb dX3_nearestEighths_6 dX3_nearestEighths_7 (by decide) (fun c_1 => ?_) (fun c_1 => ?_)
  · refine lv_iconst (v := 0) hx hb dX3_nearestEighths_14 (by decide) ?_
    refine lv_lload_n hx hb dX3_nearestEighths_15 rfl (lv_at hl 0 rfl) ?_
    refine lv_lconst (v := 0) hx hb dX3_nearestEighths_16 (by decide) ?_
    refine w_lc_ge (tgt := 26) hx hb dX3_nearestEighths_17 dX3_nearestEighths_18 (by decide) (fun c_2 => ?_) (fun c_2 => ?_)
    rotate_left
    · exact absurd c_1 c_2
    refine lv_lload_n hx hb dX3_nearestEighths_26 rfl (lv_at hl 0 rfl) ?_
    refine lv_bipush (v := -3) hx hb dX3_nearestEighths_27 (by decide) ?_
    refine cv_w (As := [.int (b2i false), .long g.toInt64, .int (-3 : Int32)]) (rest := []) ⟨hx, hb, hml, hown, hts⟩ (mX3_nearest l ad i hi false g.toInt64 (-3 : Int32)) (cwV 3 hts gX3_nearestEighths_X3_nearest rfl rfl rfl (by decide +kernel) ⟨Nat.le_of_ble_eq_true rfl, Nat.le_of_ble_eq_true rfl⟩) hE hS hi rfl rfl hl.1 (Nat.le_of_ble_eq_true rfl) dX3_nearestEighths_29 (Nat.zero_le _) (Nat.zero_le _) ?_
    exact W.lret hx hb hr (fun t ht hW => ⟨(by unfold fX3_nearestEighths; rw [if_pos c_1]), ht⟩) (fun q h => absurd h List.not_mem_nil) dX3_nearestEighths_32
  · refine lv_iconst (v := 1) hx hb dX3_nearestEighths_10 (by decide) ?_
    refine lv_goto (tgt := 15) hx hb dX3_nearestEighths_11 (by decide) ?_
    refine lv_lload_n hx hb dX3_nearestEighths_15 rfl (lv_at hl 0 rfl) ?_
    refine lv_lconst (v := 0) hx hb dX3_nearestEighths_16 (by decide) ?_
    refine w_lc_ge (tgt := 26) hx hb dX3_nearestEighths_17 dX3_nearestEighths_18 (by decide) (fun c_3 => ?_) (fun c_3 => ?_)
    · exact absurd c_3 c_1
    refine lv_lload_n hx hb dX3_nearestEighths_21 rfl (lv_at hl 0 rfl) ?_
    refine lv_lneg hx hb dX3_nearestEighths_22 ?_
    refine lv_goto (tgt := 27) hx hb dX3_nearestEighths_23 (by decide) ?_
    refine lv_bipush (v := -3) hx hb dX3_nearestEighths_27 (by decide) ?_
    refine cv_w (As := [.int (b2i true), .long (-g.toInt64), .int (-3 : Int32)]) (rest := []) ⟨hx, hb, hml, hown, hts⟩ (mX3_nearest l ad i hi true (-g.toInt64) (-3 : Int32)) (cwV 3 hts gX3_nearestEighths_X3_nearest rfl rfl rfl (by decide +kernel) ⟨Nat.le_of_ble_eq_true rfl, Nat.le_of_ble_eq_true rfl⟩) hE hS hi rfl rfl hl.1 (Nat.le_of_ble_eq_true rfl) dX3_nearestEighths_29 (Nat.zero_le _) (Nat.zero_le _) ?_
    exact W.lret hx hb hr (fun t ht hW => ⟨(by unfold fX3_nearestEighths; rw [if_neg c_1]), ht⟩) (fun q h => absurd h List.not_mem_nil) dX3_nearestEighths_32
def fX3_nearestOf (i : Nat) (j : Nat) (b : Int64) : Int64 := if (fX3_isEndless j b) = true then (fX3_signed i (fX3_isNegative j b) (cEN i)) else (fX3_nearest i (fX3_isNegative j b) (fX3_significand j b) (fX3_exponent j b))
set_option maxHeartbeats 4000000 in
set_option maxRecDepth 100000 in
theorem mX3_nearestOf (l : Launch) (ad : Nat → Nat) (i : Nat) (hi : i < 2) (j : Nat) (hj : j < 2) (b : Int64) : Met l yX3_nearestOf wsX3_nearestOf ({ frames := 2, cells := 0, slots := 0, locals := 58 }) (pE ad [.ref (ad i), .ref (ad j), .long b]) (pQ (.long (fX3_nearestOf i j b))) 0 0 (fun _ => False) := by
  refine Met.ofW (cc := cX3_nearestOf) (maxL := 4) (ret := (some .long)) (by decide) rfl ?_
  intro p e s m args below meth c s₁ B hml hv
  obtain ⟨rfl, hE⟩ := hv
  have hx := B.exec
  have hb := B.bytes
  have hr := B.returns
  have hts := atoms_spec (ws := wsX3_nearestOf) B.pre
  have hown : s.vm.findClass RX3 = some m.cls := findClass_of_methodNamed B.named
  have hlocks := B.notSynchronized
  have hS : va_S (fun _ => False) s.heap s.heap [] := va_S.rf
  have hl := lv_entry ([.ref (ad i), .ref (ad j), .long b]) (n := 4) (Nat.le_of_ble_eq_true rfl)
  rw [lg_entry_eq]
  generalize (lg_sl ([.ref (ad i), .ref (ad j), .long b]) ++ List.replicate (4 - (lg_sl ([.ref (ad i), .ref (ad j), .long b])).length) Slot.unset).toArray = ls at hl ⊢
  have hl : lv_has ls 4 [(0, .ref (ad i)), (1, .ref (ad j)), (2, .long b)] := hl
  refine lv_aload_n hx hb dX3_nearestOf_0 rfl (lv_at hl 1 rfl) ?_
  refine lv_lload_n hx hb dX3_nearestOf_1 rfl (lv_at hl 2 rfl) ?_
  refine cv_w (As := [.long b]) (rest := []) ⟨hx, hb, hml, hown, hts⟩ (mX3_isEndless l ad j hj b) (cwV 1 hts gX3_nearestOf_X3_isEndless rfl rfl rfl (by decide +kernel) ⟨Nat.le_of_ble_eq_true rfl, Nat.le_of_ble_eq_true rfl⟩) hE hS hj rfl rfl hl.1 (Nat.le_of_ble_eq_true rfl) dX3_nearestOf_2 (Nat.zero_le _) (Nat.zero_le _) ?_
  refine w_beq (tgt := 22) hx hb dX3_nearestOf_5 (by decide) (fun c_1 => ?_) (fun c_1 => ?_)
  · refine lv_aload_n hx hb dX3_nearestOf_22 rfl (lv_at hl 0 rfl) ?_
    refine lv_aload_n hx hb dX3_nearestOf_23 rfl (lv_at hl 1 rfl) ?_
    refine lv_lload_n hx hb dX3_nearestOf_24 rfl (lv_at hl 2 rfl) ?_
    refine cv_w (As := [.long b]) (rest := [.ref (ad i)]) ⟨hx, hb, hml, hown, hts⟩ (mX3_isNegative l ad j hj b) (cwV 1 hts gX3_nearestOf_X3_isNegative rfl rfl rfl (by decide +kernel) ⟨Nat.le_of_ble_eq_true rfl, Nat.le_of_ble_eq_true rfl⟩) hE hS hj rfl rfl hl.1 (Nat.le_of_ble_eq_true rfl) dX3_nearestOf_25 (Nat.zero_le _) (Nat.zero_le _) ?_
    refine lv_aload_n hx hb dX3_nearestOf_28 rfl (lv_at hl 1 rfl) ?_
    refine lv_lload_n hx hb dX3_nearestOf_29 rfl (lv_at hl 2 rfl) ?_
    refine cv_w (As := [.long b]) (rest := [.int (b2i (fX3_isNegative j b)), .ref (ad i)]) ⟨hx, hb, hml, hown, hts⟩ (mX3_significand l ad j hj b) (cwV 1 hts gX3_nearestOf_X3_significand rfl rfl rfl (by decide +kernel) ⟨Nat.le_of_ble_eq_true rfl, Nat.le_of_ble_eq_true rfl⟩) hE hS hj rfl rfl hl.1 (Nat.le_of_ble_eq_true rfl) dX3_nearestOf_30 (Nat.zero_le _) (Nat.zero_le _) ?_
    refine lv_aload_n hx hb dX3_nearestOf_33 rfl (lv_at hl 1 rfl) ?_
    refine lv_lload_n hx hb dX3_nearestOf_34 rfl (lv_at hl 2 rfl) ?_
    refine cv_w (As := [.long b]) (rest := [.long (fX3_significand j b), .int (b2i (fX3_isNegative j b)), .ref (ad i)]) ⟨hx, hb, hml, hown, hts⟩ (mX3_exponent l ad j hj b) (cwV 1 hts gX3_nearestOf_X3_exponent rfl rfl rfl (by decide +kernel) ⟨Nat.le_of_ble_eq_true rfl, Nat.le_of_ble_eq_true rfl⟩) hE hS hj rfl rfl hl.1 (Nat.le_of_ble_eq_true rfl) dX3_nearestOf_35 (Nat.zero_le _) (Nat.zero_le _) ?_
    refine cv_w (As := [.int (b2i (fX3_isNegative j b)), .long (fX3_significand j b), .int (fX3_exponent j b)]) (rest := []) ⟨hx, hb, hml, hown, hts⟩ (mX3_nearest l ad i hi (fX3_isNegative j b) (fX3_significand j b) (fX3_exponent j b)) (cwV 3 hts gX3_nearestOf_X3_nearest rfl rfl rfl (by decide +kernel) ⟨Nat.le_of_ble_eq_true rfl, Nat.le_of_ble_eq_true rfl⟩) hE hS hi rfl rfl hl.1 (Nat.le_of_ble_eq_true rfl) dX3_nearestOf_38 (Nat.zero_le _) (Nat.zero_le _) ?_
    exact W.lret hx hb hr (fun t ht hW => ⟨(by unfold fX3_nearestOf; rw [if_neg c_1]), ht⟩) (fun q h => absurd h List.not_mem_nil) dX3_nearestOf_41
  · refine lv_aload_n hx hb dX3_nearestOf_8 rfl (lv_at hl 0 rfl) ?_
    refine lv_aload_n hx hb dX3_nearestOf_9 rfl (lv_at hl 1 rfl) ?_
    refine lv_lload_n hx hb dX3_nearestOf_10 rfl (lv_at hl 2 rfl) ?_
    refine cv_w (As := [.long b]) (rest := [.ref (ad i)]) ⟨hx, hb, hml, hown, hts⟩ (mX3_isNegative l ad j hj b) (cwV 1 hts gX3_nearestOf_X3_isNegative rfl rfl rfl (by decide +kernel) ⟨Nat.le_of_ble_eq_true rfl, Nat.le_of_ble_eq_true rfl⟩) hE hS hj rfl rfl hl.1 (Nat.le_of_ble_eq_true rfl) dX3_nearestOf_11 (Nat.zero_le _) (Nat.zero_le _) ?_
    refine lv_aload_n hx hb dX3_nearestOf_14 rfl (lv_at hl 0 rfl) ?_
    refine va_getX hx hb hE.2.2.2.2 hi hS hown (hts (.fieldLink RX3 40 "TideGauges$Width" "endless" "J") (List.mem_of_getElem? (i := 1) rfl)) (fun _ h9 => h9) dX3_nearestOf_15 ?_
    refine cv_w (As := [.int (b2i (fX3_isNegative j b)), .long (cEN i)]) (rest := []) ⟨hx, hb, hml, hown, hts⟩ (mX3_signed l ad i hi (fX3_isNegative j b) (cEN i)) (cwV 2 hts gX3_nearestOf_X3_signed rfl rfl rfl (by decide +kernel) ⟨Nat.le_of_ble_eq_true rfl, Nat.le_of_ble_eq_true rfl⟩) hE hS hi rfl rfl hl.1 (Nat.le_of_ble_eq_true rfl) dX3_nearestOf_18 (Nat.zero_le _) (Nat.zero_le _) ?_
    exact W.lret hx hb hr (fun t ht hW => ⟨(by unfold fX3_nearestOf; rw [if_pos c_1]), ht⟩) (fun q h => absurd h List.not_mem_nil) dX3_nearestOf_21
def fX3_cutToLong (i : Nat) (b : Int64) : Int64 := if ((fX3_bitLength (fX3_significand i b)) + (fX3_exponent i b)) < (64 : Int32) then (if (fX3_exponent i b) < 0 then (if (fX3_exponent i b) ≤ (-64 : Int32) then (if (fX3_isNegative i b) = true then (-(0 : Int64)) else (0 : Int64)) else (if (fX3_isNegative i b) = true then (-(((fX3_significand i b).toUInt64 >>> ((-(fX3_exponent i b)).toInt64.toUInt64 &&& Int64.toUInt64 63)).toInt64)) else (((fX3_significand i b).toUInt64 >>> ((-(fX3_exponent i b)).toInt64.toUInt64 &&& Int64.toUInt64 63)).toInt64))) else (if (fX3_isNegative i b) = true then (-((fX3_significand i b) <<< ((fX3_exponent i b).toInt64 &&& 63))) else ((fX3_significand i b) <<< ((fX3_exponent i b).toInt64 &&& 63)))) else (if (fX3_isNegative i b) = true then (-9223372036854775808 : Int64) else (9223372036854775807 : Int64))
set_option maxHeartbeats 4000000 in
set_option maxRecDepth 100000 in
theorem mX3_cutToLong (l : Launch) (ad : Nat → Nat) (i : Nat) (hi : i < 2) (b : Int64) : Met l yX3_cutToLong wsX3_cutToLong ({ frames := 2, cells := 0, slots := 0, locals := 48 }) (pE ad [.ref (ad i), .long b]) (pQ (.long (fX3_cutToLong i b))) 0 0 (fun _ => False) := by
  refine Met.ofW (cc := cX3_cutToLong) (maxL := 8) (ret := (some .long)) (by decide) rfl ?_
  intro p e s m args below meth c s₁ B hml hv
  obtain ⟨rfl, hE⟩ := hv
  have hx := B.exec
  have hb := B.bytes
  have hr := B.returns
  have hts := atoms_spec (ws := wsX3_cutToLong) B.pre
  have hown : s.vm.findClass RX3 = some m.cls := findClass_of_methodNamed B.named
  have hlocks := B.notSynchronized
  have hS : va_S (fun _ => False) s.heap s.heap [] := va_S.rf
  have hl := lv_entry ([.ref (ad i), .long b]) (n := 8) (Nat.le_of_ble_eq_true rfl)
  rw [lg_entry_eq]
  generalize (lg_sl ([.ref (ad i), .long b]) ++ List.replicate (8 - (lg_sl ([.ref (ad i), .long b])).length) Slot.unset).toArray = ls at hl ⊢
  have hl : lv_has ls 8 [(0, .ref (ad i)), (1, .long b)] := hl
  refine lv_aload_n hx hb dX3_cutToLong_0 rfl (lv_at hl 0 rfl) ?_
  refine lv_lload_n hx hb dX3_cutToLong_1 rfl (lv_at hl 1 rfl) ?_
  refine cv_w (As := [.long b]) (rest := []) ⟨hx, hb, hml, hown, hts⟩ (mX3_significand l ad i hi b) (cwV 1 hts gX3_cutToLong_X3_significand rfl rfl rfl (by decide +kernel) ⟨Nat.le_of_ble_eq_true rfl, Nat.le_of_ble_eq_true rfl⟩) hE hS hi rfl rfl hl.1 (Nat.le_of_ble_eq_true rfl) dX3_cutToLong_2 (Nat.zero_le _) (Nat.zero_le _) ?_
  refine lv_lstore_n (lv' := [(3, .long (fX3_significand i b)), (0, .ref (ad i)), (1, .long b)]) hx hb dX3_cutToLong_5 rfl hl (by decide) rfl (fun ls hl => ?_)
  refine lv_aload_n hx hb dX3_cutToLong_6 rfl (lv_at hl 1 rfl) ?_
  refine lv_lload_n hx hb dX3_cutToLong_7 rfl (lv_at hl 2 rfl) ?_
  refine cv_w (As := [.long b]) (rest := []) ⟨hx, hb, hml, hown, hts⟩ (mX3_exponent l ad i hi b) (cwV 1 hts gX3_cutToLong_X3_exponent rfl rfl rfl (by decide +kernel) ⟨Nat.le_of_ble_eq_true rfl, Nat.le_of_ble_eq_true rfl⟩) hE hS hi rfl rfl hl.1 (Nat.le_of_ble_eq_true rfl) dX3_cutToLong_8 (Nat.zero_le _) (Nat.zero_le _) ?_
  refine lv_istore (lv' := [(5, .int (fX3_exponent i b)), (3, .long (fX3_significand i b)), (0, .ref (ad i)), (1, .long b)]) hx hb dX3_cutToLong_11 hl (by decide) rfl (fun ls hl => ?_)
  refine lv_lload_n hx hb dX3_cutToLong_13 rfl (lv_at hl 1 rfl) ?_
  refine cs_0 (As := [.long (fX3_significand i b)]) (rest := []) ⟨hx, hb, hml, hown, hts⟩ (mX3_bitLength l (fX3_significand i b)) (va_cwS 1 hts gX3_cutToLong_X3_bitLength rfl rfl rfl (by decide +kernel) ⟨Nat.le_of_ble_eq_true rfl, Nat.le_of_ble_eq_true rfl⟩) rfl rfl hl.1 (Nat.le_of_ble_eq_true rfl) dX3_cutToLong_14 (Nat.zero_le _) (Nat.zero_le _) ?_
  refine lv_iload hx hb dX3_cutToLong_17 (lv_at hl 0 rfl) ?_
  refine lv_iadd hx hb dX3_cutToLong_19 ?_
  refine lv_bipush (v := 64) hx hb dX3_cutToLong_20 (by decide) ?_
  refine lv_icmp_lt (tgt := 43) hx hb dX3_cutToLong_22 (by decide) (fun c_1 => ?_) (fun c_1 => ?_)
  · refine lv_lconst (v := 0) hx hb dX3_cutToLong_43 (by decide) ?_
    refine lv_lstore (lv' := [(6, .long (0 : Int64)), (5, .int (fX3_exponent i b)), (3, .long (fX3_significand i b)), (0, .ref (ad i)), (1, .long b)]) hx hb dX3_cutToLong_44 hl (by decide) rfl (fun ls hl => ?_)
    refine lv_iload hx hb dX3_cutToLong_46 (lv_at hl 1 rfl) ?_
    refine lv_if_lt (tgt := 60) hx hb dX3_cutToLong_48 (by decide) (fun c_2 => ?_) (fun c_2 => ?_)
    · refine lv_iload hx hb dX3_cutToLong_60 (lv_at hl 1 rfl) ?_
      refine lv_bipush (v := -64) hx hb dX3_cutToLong_62 (by decide) ?_
      refine lv_icmp_le (tgt := 74) hx hb dX3_cutToLong_64 (by decide) (fun c_3 => ?_) (fun c_3 => ?_)
      · refine lv_aload_n hx hb dX3_cutToLong_74 rfl (lv_at hl 3 rfl) ?_
        refine lv_lload_n hx hb dX3_cutToLong_75 rfl (lv_at hl 4 rfl) ?_
        refine cv_w (As := [.long b]) (rest := []) ⟨hx, hb, hml, hown, hts⟩ (mX3_isNegative l ad i hi b) (cwV 1 hts gX3_cutToLong_X3_isNegative rfl rfl rfl (by decide +kernel) ⟨Nat.le_of_ble_eq_true rfl, Nat.le_of_ble_eq_true rfl⟩) hE hS hi rfl rfl hl.1 (Nat.le_of_ble_eq_true rfl) dX3_cutToLong_76 (Nat.zero_le _) (Nat.zero_le _) ?_
        refine w_beq (tgt := 88) hx hb dX3_cutToLong_79 (by decide) (fun c_4 => ?_) (fun c_4 => ?_)
        · refine lv_lload hx hb dX3_cutToLong_88 (lv_at hl 0 rfl) ?_
          exact W.lret hx hb hr (fun t ht hW => ⟨(by unfold fX3_cutToLong; rw [if_pos c_1, if_pos c_2, if_pos c_3, if_neg c_4]), ht⟩) (fun q h => absurd h List.not_mem_nil) dX3_cutToLong_90
        · refine lv_lload hx hb dX3_cutToLong_82 (lv_at hl 0 rfl) ?_
          refine lv_lneg hx hb dX3_cutToLong_84 ?_
          refine lv_goto (tgt := 90) hx hb dX3_cutToLong_85 (by decide) ?_
          exact W.lret hx hb hr (fun t ht hW => ⟨(by unfold fX3_cutToLong; rw [if_pos c_1, if_pos c_2, if_pos c_3, if_pos c_4]), ht⟩) (fun q h => absurd h List.not_mem_nil) dX3_cutToLong_90
      · refine lv_lload_n hx hb dX3_cutToLong_67 rfl (lv_at hl 2 rfl) ?_
        refine lv_iload hx hb dX3_cutToLong_68 (lv_at hl 1 rfl) ?_
        refine lv_ineg hx hb dX3_cutToLong_70 ?_
        refine lv_lushr hx hb dX3_cutToLong_71 rfl ?_
        refine lv_lstore (lv' := [(6, .long (((fX3_significand i b).toUInt64 >>> ((-(fX3_exponent i b)).toInt64.toUInt64 &&& Int64.toUInt64 63)).toInt64)), (5, .int (fX3_exponent i b)), (3, .long (fX3_significand i b)), (0, .ref (ad i)), (1, .long b)]) hx hb dX3_cutToLong_72 hl (by decide) rfl (fun ls hl => ?_)
        refine lv_aload_n hx hb dX3_cutToLong_74 rfl (lv_at hl 3 rfl) ?_
        refine lv_lload_n hx hb dX3_cutToLong_75 rfl (lv_at hl 4 rfl) ?_
        refine cv_w (As := [.long b]) (rest := []) ⟨hx, hb, hml, hown, hts⟩ (mX3_isNegative l ad i hi b) (cwV 1 hts gX3_cutToLong_X3_isNegative rfl rfl rfl (by decide +kernel) ⟨Nat.le_of_ble_eq_true rfl, Nat.le_of_ble_eq_true rfl⟩) hE hS hi rfl rfl hl.1 (Nat.le_of_ble_eq_true rfl) dX3_cutToLong_76 (Nat.zero_le _) (Nat.zero_le _) ?_
        refine w_beq (tgt := 88) hx hb dX3_cutToLong_79 (by decide) (fun c_5 => ?_) (fun c_5 => ?_)
        · refine lv_lload hx hb dX3_cutToLong_88 (lv_at hl 0 rfl) ?_
          exact W.lret hx hb hr (fun t ht hW => ⟨(by unfold fX3_cutToLong; rw [if_pos c_1, if_pos c_2, if_neg c_3, if_neg c_5]), ht⟩) (fun q h => absurd h List.not_mem_nil) dX3_cutToLong_90
        · refine lv_lload hx hb dX3_cutToLong_82 (lv_at hl 0 rfl) ?_
          refine lv_lneg hx hb dX3_cutToLong_84 ?_
          refine lv_goto (tgt := 90) hx hb dX3_cutToLong_85 (by decide) ?_
          exact W.lret hx hb hr (fun t ht hW => ⟨(by unfold fX3_cutToLong; rw [if_pos c_1, if_pos c_2, if_neg c_3, if_pos c_5]), ht⟩) (fun q h => absurd h List.not_mem_nil) dX3_cutToLong_90
    · refine lv_lload_n hx hb dX3_cutToLong_51 rfl (lv_at hl 2 rfl) ?_
      refine lv_iload hx hb dX3_cutToLong_52 (lv_at hl 1 rfl) ?_
      refine lv_lshl hx hb dX3_cutToLong_54 rfl ?_
      refine lv_lstore (lv' := [(6, .long ((fX3_significand i b) <<< ((fX3_exponent i b).toInt64 &&& 63))), (5, .int (fX3_exponent i b)), (3, .long (fX3_significand i b)), (0, .ref (ad i)), (1, .long b)]) hx hb dX3_cutToLong_55 hl (by decide) rfl (fun ls hl => ?_)
      refine lv_goto (tgt := 74) hx hb dX3_cutToLong_57 (by decide) ?_
      refine lv_aload_n hx hb dX3_cutToLong_74 rfl (lv_at hl 3 rfl) ?_
      refine lv_lload_n hx hb dX3_cutToLong_75 rfl (lv_at hl 4 rfl) ?_
      refine cv_w (As := [.long b]) (rest := []) ⟨hx, hb, hml, hown, hts⟩ (mX3_isNegative l ad i hi b) (cwV 1 hts gX3_cutToLong_X3_isNegative rfl rfl rfl (by decide +kernel) ⟨Nat.le_of_ble_eq_true rfl, Nat.le_of_ble_eq_true rfl⟩) hE hS hi rfl rfl hl.1 (Nat.le_of_ble_eq_true rfl) dX3_cutToLong_76 (Nat.zero_le _) (Nat.zero_le _) ?_
      refine w_beq (tgt := 88) hx hb dX3_cutToLong_79 (by decide) (fun c_6 => ?_) (fun c_6 => ?_)
      · refine lv_lload hx hb dX3_cutToLong_88 (lv_at hl 0 rfl) ?_
        exact W.lret hx hb hr (fun t ht hW => ⟨(by unfold fX3_cutToLong; rw [if_pos c_1, if_neg c_2, if_neg c_6]), ht⟩) (fun q h => absurd h List.not_mem_nil) dX3_cutToLong_90
      · refine lv_lload hx hb dX3_cutToLong_82 (lv_at hl 0 rfl) ?_
        refine lv_lneg hx hb dX3_cutToLong_84 ?_
        refine lv_goto (tgt := 90) hx hb dX3_cutToLong_85 (by decide) ?_
        exact W.lret hx hb hr (fun t ht hW => ⟨(by unfold fX3_cutToLong; rw [if_pos c_1, if_neg c_2, if_pos c_6]), ht⟩) (fun q h => absurd h List.not_mem_nil) dX3_cutToLong_90
  · refine lv_aload_n hx hb dX3_cutToLong_25 rfl (lv_at hl 2 rfl) ?_
    refine lv_lload_n hx hb dX3_cutToLong_26 rfl (lv_at hl 3 rfl) ?_
    refine cv_w (As := [.long b]) (rest := []) ⟨hx, hb, hml, hown, hts⟩ (mX3_isNegative l ad i hi b) (cwV 1 hts gX3_cutToLong_X3_isNegative rfl rfl rfl (by decide +kernel) ⟨Nat.le_of_ble_eq_true rfl, Nat.le_of_ble_eq_true rfl⟩) hE hS hi rfl rfl hl.1 (Nat.le_of_ble_eq_true rfl) dX3_cutToLong_27 (Nat.zero_le _) (Nat.zero_le _) ?_
    refine w_beq (tgt := 39) hx hb dX3_cutToLong_30 (by decide) (fun c_7 => ?_) (fun c_7 => ?_)
    · refine lv_ldc2 hx hb hown (hts (.constantLong RX3 76 (9223372036854775807)) (List.mem_of_getElem? (i := 2) rfl)) dX3_cutToLong_39 ?_
      exact W.lret hx hb hr (fun t ht hW => ⟨(by unfold fX3_cutToLong; rw [if_neg c_1, if_neg c_7]), ht⟩) (fun q h => absurd h List.not_mem_nil) dX3_cutToLong_42
    · refine lv_ldc2 hx hb hown (hts (.constantLong RX3 74 (-9223372036854775808)) (List.mem_of_getElem? (i := 1) rfl)) dX3_cutToLong_33 ?_
      refine lv_goto (tgt := 42) hx hb dX3_cutToLong_36 (by decide) ?_
      exact W.lret hx hb hr (fun t ht hW => ⟨(by unfold fX3_cutToLong; rw [if_neg c_1, if_pos c_7]), ht⟩) (fun q h => absurd h List.not_mem_nil) dX3_cutToLong_42
def fX3_cutToInt (i : Nat) (b : Int64) : Int32 := (if (if (fX3_cutToLong i b) < (2147483647 : Int64) then (fX3_cutToLong i b) else (2147483647 : Int64)) < (-2147483648 : Int64) then (-2147483648 : Int64) else (if (fX3_cutToLong i b) < (2147483647 : Int64) then (fX3_cutToLong i b) else (2147483647 : Int64))).toInt32
set_option maxHeartbeats 4000000 in
set_option maxRecDepth 100000 in
theorem mX3_cutToInt (l : Launch) (ad : Nat → Nat) (i : Nat) (hi : i < 2) (b : Int64) : Met l yX3_cutToInt wsX3_cutToInt ({ frames := 3, cells := 0, slots := 0, locals := 75 }) (pE ad [.ref (ad i), .long b]) (pQ (.int (fX3_cutToInt i b))) 0 0 (fun _ => False) := by
  refine Met.ofW (cc := cX3_cutToInt) (maxL := 3) (ret := (some .int)) (by decide) rfl ?_
  intro p e s m args below meth c s₁ B hml hv
  obtain ⟨rfl, hE⟩ := hv
  have hx := B.exec
  have hb := B.bytes
  have hr := B.returns
  have hts := atoms_spec (ws := wsX3_cutToInt) B.pre
  have hown : s.vm.findClass RX3 = some m.cls := findClass_of_methodNamed B.named
  have hlocks := B.notSynchronized
  have hS : va_S (fun _ => False) s.heap s.heap [] := va_S.rf
  have hl := lv_entry ([.ref (ad i), .long b]) (n := 3) (Nat.le_of_ble_eq_true rfl)
  rw [lg_entry_eq]
  generalize (lg_sl ([.ref (ad i), .long b]) ++ List.replicate (3 - (lg_sl ([.ref (ad i), .long b])).length) Slot.unset).toArray = ls at hl ⊢
  have hl : lv_has ls 3 [(0, .ref (ad i)), (1, .long b)] := hl
  refine lv_ldc2 hx hb hown (hts (.constantLong RX3 80 (-2147483648)) (List.mem_of_getElem? (i := 1) rfl)) dX3_cutToInt_0 ?_
  refine lv_ldc2 hx hb hown (hts (.constantLong RX3 82 (2147483647)) (List.mem_of_getElem? (i := 2) rfl)) dX3_cutToInt_3 ?_
  refine lv_aload_n hx hb dX3_cutToInt_6 rfl (lv_at hl 0 rfl) ?_
  refine lv_lload_n hx hb dX3_cutToInt_7 rfl (lv_at hl 1 rfl) ?_
  refine cv_w (As := [.long b]) (rest := [.long (2147483647 : Int64), .long (-2147483648 : Int64)]) ⟨hx, hb, hml, hown, hts⟩ (mX3_cutToLong l ad i hi b) (cwV 1 hts gX3_cutToInt_X3_cutToLong rfl rfl rfl (by decide +kernel) ⟨Nat.le_of_ble_eq_true rfl, Nat.le_of_ble_eq_true rfl⟩) hE hS hi rfl rfl hl.1 (Nat.le_of_ble_eq_true rfl) dX3_cutToInt_8 (Nat.zero_le _) (Nat.zero_le _) ?_
  refine va_mmin_long hx hb (hml.trans hl.1.symm) hown (hts (.methodLink RX3 87 Lib.MathLoose.min_long.x) (List.mem_of_getElem? (i := 3) rfl)) (hts (.static Lib.MathLoose.min_long.x) (List.mem_of_getElem? (i := 4) rfl)) (hts (.initialized "java/lang/Math") (List.mem_of_getElem? (i := 5) rfl)) (hts (.code Lib.MathLoose.min_long.x Lib.MathLoose.min_long.code 4 (some .long)) (List.mem_of_getElem? (i := 6) rfl)) (Nat.le_of_ble_eq_true rfl) (Nat.le_of_ble_eq_true rfl) (Nat.zero_le _) (Nat.zero_le _) dX3_cutToInt_11 ?_
  refine va_mmax_long hx hb (hml.trans hl.1.symm) hown (hts (.methodLink RX3 93 Lib.MathLoose.max_long.x) (List.mem_of_getElem? (i := 7) rfl)) (hts (.static Lib.MathLoose.max_long.x) (List.mem_of_getElem? (i := 8) rfl)) (hts (.initialized "java/lang/Math") (List.mem_of_getElem? (i := 5) rfl)) (hts (.code Lib.MathLoose.max_long.x Lib.MathLoose.max_long.code 4 (some .long)) (List.mem_of_getElem? (i := 9) rfl)) (Nat.le_of_ble_eq_true rfl) (Nat.le_of_ble_eq_true rfl) (Nat.zero_le _) (Nat.zero_le _) dX3_cutToInt_14 ?_
  refine lv_l2i hx hb dX3_cutToInt_17 rfl ?_
  exact W.iret hx hb hr (fun t ht hW => ⟨(by unfold fX3_cutToInt; rfl), ht⟩) (fun q h => absurd h List.not_mem_nil) dX3_cutToInt_18
