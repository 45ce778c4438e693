def fX0_isOf (k : Int32) (sp : Int64) (x : Int32) : Bool := if k = x then true else (if k = (1 : Int32) then (if x = 0 then true else false) else false)
set_option maxHeartbeats 4000000 in
set_option maxRecDepth 100000 in
theorem mX0_isOf (l : Launch) (dC : Nat → ClassId) (dI : Nat → Nat → Nat) (ad : Nat → Nat) (tys : List (ClassId × FieldType)) (ga : Nat) (k : Int32) (sp : Int64) (x : Int32) : Met l yX0_isOf wsX0_isOf ({ frames := 0, cells := 0, slots := 0, locals := 0 }) (va_Pc [.ref ga, .int x] (fun U => va_P (dC, dI) vwCl [(ga, .inr (0, [.int k, .long sp]))] U.heap ∧ va_K (dC, dI) vwCl tys U ∧ EN ad (fun _ => False) U U.heap)) (pQ (.int (b2i (fX0_isOf k sp x)))) 0 0 (fun _ => False) := by
  refine Met.ofW (cc := cX0_isOf) (maxL := 2) (ret := (some .boolean)) (by decide) rfl ?_
  intro p e s m args below meth c s₁ B hml hv
  obtain ⟨rfl, hP, hK, hE⟩ := hv
  have hx := B.exec
  have hb := B.bytes
  have hr := B.returns
  have hts := atoms_spec (ws := wsX0_isOf) B.pre
  have hown : s.vm.findClass RX0 = some m.cls := findClass_of_methodNamed B.named
  have hlocks := B.notSynchronized
  have hS : va_S (fun _ => False) s.heap s.heap [] := va_S.rf
  have hl := lv_entry ([.ref ga, .int x]) (n := 2) (Nat.le_of_ble_eq_true rfl)
  rw [lg_entry_eq]
  generalize (lg_sl ([.ref ga, .int x]) ++ List.replicate (2 - (lg_sl ([.ref ga, .int x])).length) Slot.unset).toArray = ls at hl ⊢
  have hl : lv_has ls 2 [(0, .ref ga), (1, .int x)] := hl
  refine lv_aload_n hx hb dX0_isOf_0 rfl (lv_at hl 0 rfl) ?_
  refine va_get (D := (dC, dI)) (ci := 0) (v := .int k) (C := RX0) (T := TX0) (N := 2) hx hb hts (fun w h => List.mem_cons_of_mem _ (List.mem_append_right _ h)) hown hK hP 0 rfl rfl 0 (by decide) (hts (.fieldLink RX0 9 "TideGauges$Gauge" "kind" "I") (List.mem_of_getElem? (i := 1) rfl)) (fun _ h9 => h9) rfl dX0_isOf_1 ?_
  refine lv_iload_n hx hb dX0_isOf_4 rfl (lv_at hl 1 rfl) ?_
  refine lv_icmp_eq (tgt := 20) hx hb dX0_isOf_5 (by decide) (fun c_1 => ?_) (fun c_1 => ?_)
  · refine lv_iconst (v := 1) hx hb dX0_isOf_20 (by decide) ?_
    refine lv_goto (tgt := 25) hx hb dX0_isOf_21 (by decide) ?_
    exact W.zret hx hb hr (b2i_nar true) (fun t ht hW => ⟨(by unfold fX0_isOf; rw [if_pos c_1]), ht⟩) (fun q h => absurd h List.not_mem_nil) dX0_isOf_25
  · refine lv_aload_n hx hb dX0_isOf_8 rfl (lv_at hl 0 rfl) ?_
    refine va_get (D := (dC, dI)) (ci := 0) (v := .int k) (C := RX0) (T := TX0) (N := 2) hx hb hts (fun w h => List.mem_cons_of_mem _ (List.mem_append_right _ h)) hown hK hP 0 rfl rfl 0 (by decide) (hts (.fieldLink RX0 9 "TideGauges$Gauge" "kind" "I") (List.mem_of_getElem? (i := 1) rfl)) (fun _ h9 => h9) rfl dX0_isOf_9 ?_
    refine lv_iconst (v := 1) hx hb dX0_isOf_12 (by decide) ?_
    refine lv_icmp_ne (tgt := 24) hx hb dX0_isOf_13 (by decide) (fun c_2 => ?_) (fun c_2 => ?_)
    · refine lv_iconst (v := 0) hx hb dX0_isOf_24 (by decide) ?_
      exact W.zret hx hb hr (b2i_nar false) (fun t ht hW => ⟨(by unfold fX0_isOf; rw [if_neg c_1, if_neg c_2]), ht⟩) (fun q h => absurd h List.not_mem_nil) dX0_isOf_25
    · refine lv_iload_n hx hb dX0_isOf_16 rfl (lv_at hl 1 rfl) ?_
      refine lv_if_ne (tgt := 24) hx hb dX0_isOf_17 (by decide) (fun c_3 => ?_) (fun c_3 => ?_)
      · refine lv_iconst (v := 0) hx hb dX0_isOf_24 (by decide) ?_
        exact W.zret hx hb hr (b2i_nar false) (fun t ht hW => ⟨(by unfold fX0_isOf; rw [if_neg c_1, if_pos c_2, if_neg c_3]), ht⟩) (fun q h => absurd h List.not_mem_nil) dX0_isOf_25
      · refine lv_iconst (v := 1) hx hb dX0_isOf_20 (by decide) ?_
        refine lv_goto (tgt := 25) hx hb dX0_isOf_21 (by decide) ?_
        exact W.zret hx hb hr (b2i_nar true) (fun t ht hW => ⟨(by unfold fX0_isOf; rw [if_neg c_1, if_pos c_2, if_pos c_3]), ht⟩) (fun q h => absurd h List.not_mem_nil) dX0_isOf_25
def fX0_hasNumberFor (k : Int32) (sp : Int64) (v : Int64) : Bool := if k = (2 : Int32) then true else (if (fX3_isEndless 1 v) = true then false else true)
set_option maxHeartbeats 4000000 in
set_option maxRecDepth 100000 in
theorem mX0_hasNumberFor (l : Launch) (dC : Nat → ClassId) (dI : Nat → Nat → Nat) (ad : Nat → Nat) (tys : List (ClassId × FieldType)) (ga : Nat) (k : Int32) (sp : Int64) (v : Int64) : Met l yX0_hasNumberFor wsX0_hasNumberFor ({ frames := 2, cells := 0, slots := 0, locals := 44 }) (va_Pc [.ref ga, .long v] (fun U => va_P (dC, dI) vwCl [(ga, .inr (0, [.int k, .long sp]))] U.heap ∧ va_K (dC, dI) vwCl tys U ∧ EN ad (fun _ => False) U U.heap)) (pQ (.int (b2i (fX0_hasNumberFor k sp v)))) 0 0 (fun _ => False) := by
  refine Met.ofW (cc := cX0_hasNumberFor) (maxL := 3) (ret := (some .boolean)) (by decide) rfl ?_
  intro p e s m args below meth c s₁ B hml hv
  obtain ⟨rfl, hP, hK, hE⟩ := hv
  have hx := B.exec
  have hb := B.bytes
  have hr := B.returns
  have hts := atoms_spec (ws := wsX0_hasNumberFor) B.pre
  have hown : s.vm.findClass RX0 = some m.cls := findClass_of_methodNamed B.named
  have hlocks := B.notSynchronized
  have hS : va_S (fun _ => False) s.heap s.heap [] := va_S.rf
  have hl := lv_entry ([.ref ga, .long v]) (n := 3) (Nat.le_of_ble_eq_true rfl)
  rw [lg_entry_eq]
  generalize (lg_sl ([.ref ga, .long v]) ++ List.replicate (3 - (lg_sl ([.ref ga, .long v])).length) Slot.unset).toArray = ls at hl ⊢
  have hl : lv_has ls 3 [(0, .ref ga), (1, .long v)] := hl
  refine lv_aload_n hx hb dX0_hasNumberFor_0 rfl (lv_at hl 0 rfl) ?_
  refine va_get (D := (dC, dI)) (ci := 0) (v := .int k) (C := RX0) (T := TX0) (N := 2) hx hb hts (fun w h => List.mem_cons_of_mem _ (List.mem_append_right _ h)) hown hK hP 0 rfl rfl 0 (by decide) (hts (.fieldLink RX0 9 "TideGauges$Gauge" "kind" "I") (List.mem_of_getElem? (i := 1) rfl)) (fun _ h9 => h9) rfl dX0_hasNumberFor_1 ?_
  refine lv_iconst (v := 2) hx hb dX0_hasNumberFor_4 (by decide) ?_
  refine lv_icmp_eq (tgt := 18) hx hb dX0_hasNumberFor_5 (by decide) (fun c_1 => ?_) (fun c_1 => ?_)
  · refine lv_iconst (v := 1) hx hb dX0_hasNumberFor_18 (by decide) ?_
    refine lv_goto (tgt := 23) hx hb dX0_hasNumberFor_19 (by decide) ?_
    exact W.zret hx hb hr (b2i_nar true) (fun t ht hW => ⟨(by unfold fX0_hasNumberFor; rw [if_pos c_1]), ht⟩) (fun q h => absurd h List.not_mem_nil) dX0_hasNumberFor_23
  · refine gs_w (i := 1) hx hb hE hS (by decide) rfl hown (hts (.fieldLink RX0 19 "TideGauges$Width" "DOUBLE" "LTideGauges$Width;") (List.mem_of_getElem? (i := 2) rfl)) dX0_hasNumberFor_8 ?_
    refine lv_lload_n hx hb dX0_hasNumberFor_11 rfl (lv_at hl 1 rfl) ?_
    refine cv_w (As := [.long v]) (rest := []) ⟨hx, hb, hml, hown, hts⟩ (mX3_isEndless l ad 1 (by decide) v) (cwV 1 hts gX0_hasNumberFor_X3_isEndless rfl rfl rfl (by decide +kernel) ⟨Nat.le_of_ble_eq_true rfl, Nat.le_of_ble_eq_true rfl⟩) hE hS (by decide) rfl rfl hl.1 (Nat.le_of_ble_eq_true rfl) dX0_hasNumberFor_12 (Nat.zero_le _) (Nat.zero_le _) ?_
    refine w_bne (tgt := 22) hx hb dX0_hasNumberFor_15 (by decide) (fun c_2 => ?_) (fun c_2 => ?_)
    · refine lv_iconst (v := 0) hx hb dX0_hasNumberFor_22 (by decide) ?_
      exact W.zret hx hb hr (b2i_nar false) (fun t ht hW => ⟨(by unfold fX0_hasNumberFor; rw [if_neg c_1, if_pos c_2]), ht⟩) (fun q h => absurd h List.not_mem_nil) dX0_hasNumberFor_23
    · refine lv_iconst (v := 1) hx hb dX0_hasNumberFor_18 (by decide) ?_
      refine lv_goto (tgt := 23) hx hb dX0_hasNumberFor_19 (by decide) ?_
      exact W.zret hx hb hr (b2i_nar true) (fun t ht hW => ⟨(by unfold fX0_hasNumberFor; rw [if_neg c_1, if_neg c_2]), ht⟩) (fun q h => absurd h List.not_mem_nil) dX0_hasNumberFor_23
def fX0_wrapped (k : Int32) (sp : Int64) (v : Int64) (st : Int64) : Int64 := if (fX3_isNegative 1 (fX3_added 1 v (fX3_negated 1 st))) = true then (if (fX3_isZero 1 (fX3_added 1 v (fX3_negated 1 st))) = true then (fX3_added 1 v (fX3_negated 1 st)) else (fX3_added 1 (fX3_added 1 v (fX3_negated 1 st)) (fX3_size 1 sp))) else (fX3_added 1 v (fX3_negated 1 st))
set_option maxHeartbeats 4000000 in
set_option maxRecDepth 100000 in
theorem mX0_wrapped (l : Launch) (dC : Nat → ClassId) (dI : Nat → Nat → Nat) (ad : Nat → Nat) (tys : List (ClassId × FieldType)) (ga : Nat) (k : Int32) (sp : Int64) (v : Int64) (st : Int64) : Met l yX0_wrapped wsX0_wrapped ({ frames := 3, cells := 0, slots := 0, locals := 91 }) (va_Pc [.ref ga, .long v, .long st] (fun U => va_P (dC, dI) vwCl [(ga, .inr (0, [.int k, .long sp]))] U.heap ∧ va_K (dC, dI) vwCl tys U ∧ EN ad (fun _ => False) U U.heap)) (pQ (.long (fX0_wrapped k sp v st))) 0 0 (fun _ => False) := by
  refine Met.ofW (cc := cX0_wrapped) (maxL := 8) (ret := (some .long)) (by decide) rfl ?_
  intro p e s m args below meth c s₁ B hml hv
  obtain ⟨rfl, hP, hK, hE⟩ := hv
  have hx := B.exec
  have hb := B.bytes
  have hr := B.returns
  have hts := atoms_spec (ws := wsX0_wrapped) B.pre
  have hown : s.vm.findClass RX0 = some m.cls := findClass_of_methodNamed B.named
  have hlocks := B.notSynchronized
  have hS : va_S (fun _ => False) s.heap s.heap [] := va_S.rf
  have hl := lv_entry ([.ref ga, .long v, .long st]) (n := 8) (Nat.le_of_ble_eq_true rfl)
  rw [lg_entry_eq]
  generalize (lg_sl ([.ref ga, .long v, .long st]) ++ List.replicate (8 - (lg_sl ([.ref ga, .long v, .long st])).length) Slot.unset).toArray = ls at hl ⊢
  have hl : lv_has ls 8 [(0, .ref ga), (1, .long v), (3, .long st)] := hl
  refine gs_w (i := 1) hx hb hE hS (by decide) rfl hown (hts (.fieldLink RX0 19 "TideGauges$Width" "DOUBLE" "LTideGauges$Width;") (List.mem_of_getElem? (i := 1) rfl)) dX0_wrapped_0 ?_
  refine lv_lload_n hx hb dX0_wrapped_3 rfl (lv_at hl 1 rfl) ?_
  refine gs_w (i := 1) hx hb hE hS (by decide) rfl hown (hts (.fieldLink RX0 19 "TideGauges$Width" "DOUBLE" "LTideGauges$Width;") (List.mem_of_getElem? (i := 1) rfl)) dX0_wrapped_4 ?_
  refine lv_lload_n hx hb dX0_wrapped_7 rfl (lv_at hl 2 rfl) ?_
  refine cv_w (As := [.long st]) (rest := [.long v, .ref (ad 1)]) ⟨hx, hb, hml, hown, hts⟩ (mX3_negated l ad 1 (by decide) st) (cwV 1 hts gX0_wrapped_X3_negated rfl rfl rfl (by decide +kernel) ⟨Nat.le_of_ble_eq_true rfl, Nat.le_of_ble_eq_true rfl⟩) hE hS (by decide) rfl rfl hl.1 (Nat.le_of_ble_eq_true rfl) dX0_wrapped_8 (Nat.zero_le _) (Nat.zero_le _) ?_
  refine cv_w (As := [.long v, .long (fX3_negated 1 st)]) (rest := []) ⟨hx, hb, hml, hown, hts⟩ (mX3_added l ad 1 (by decide) v (fX3_negated 1 st)) (cwV 2 hts gX0_wrapped_X3_added rfl rfl rfl (by decide +kernel) ⟨Nat.le_of_ble_eq_true rfl, Nat.le_of_ble_eq_true rfl⟩) hE hS (by decide) rfl rfl hl.1 (Nat.le_of_ble_eq_true rfl) dX0_wrapped_11 (Nat.zero_le _) (Nat.zero_le _) ?_
  refine lv_lstore (lv' := [(5, .long (fX3_added 1 v (fX3_negated 1 st))), (0, .ref ga), (1, .long v), (3, .long st)]) hx hb dX0_wrapped_14 hl (by decide) rfl (fun ls hl => ?_)
  refine gs_w (i := 1) hx hb hE hS (by decide) rfl hown (hts (.fieldLink RX0 19 "TideGauges$Width" "DOUBLE" "LTideGauges$Width;") (List.mem_of_getElem? (i := 1) rfl)) dX0_wrapped_16 ?_
  refine lv_lload hx hb dX0_wrapped_19 (lv_at hl 0 rfl) ?_
  refine cv_w (As := [.long (fX3_added 1 v (fX3_negated 1 st))]) (rest := []) ⟨hx, hb, hml, hown, hts⟩ (mX3_isNegative l ad 1 (by decide) (fX3_added 1 v (fX3_negated 1 st))) (cwV 1 hts gX0_wrapped_X3_isNegative rfl rfl rfl (by decide +kernel) ⟨Nat.le_of_ble_eq_true rfl, Nat.le_of_ble_eq_true rfl⟩) hE hS (by decide) rfl rfl hl.1 (Nat.le_of_ble_eq_true rfl) dX0_wrapped_21 (Nat.zero_le _) (Nat.zero_le _) ?_
  refine w_beq (tgt := 42) hx hb dX0_wrapped_24 (by decide) (fun c_1 => ?_) (fun c_1 => ?_)
  · refine lv_iconst (v := 0) hx hb dX0_wrapped_42 (by decide) ?_
    refine lv_istore (lv' := [(7, .int (0 : Int32)), (5, .long (fX3_added 1 v (fX3_negated 1 st))), (0, .ref ga), (1, .long v), (3, .long st)]) hx hb dX0_wrapped_43 hl (by decide) rfl (fun ls hl => ?_)
    refine lv_iload hx hb dX0_wrapped_45 (lv_at hl 0 rfl) ?_
    refine lv_if_eq (tgt := 71) hx hb dX0_wrapped_47 (by decide) (fun c_2 => ?_) (fun c_2 => ?_)
    rotate_left
    · exact absurd c_2 (by decide)
    refine lv_lload hx hb dX0_wrapped_71 (lv_at hl 1 rfl) ?_
    exact W.lret hx hb hr (fun t ht hW => ⟨(by unfold fX0_wrapped; rw [if_neg c_1]), ht⟩) (fun q h => absurd h List.not_mem_nil) dX0_wrapped_73
  · refine gs_w (i := 1) hx hb hE hS (by decide) rfl hown (hts (.fieldLink RX0 19 "TideGauges$Width" "DOUBLE" "LTideGauges$Width;") (List.mem_of_getElem? (i := 1) rfl)) dX0_wrapped_27 ?_
    refine lv_lload hx hb dX0_wrapped_30 (lv_at hl 0 rfl) ?_
    refine cv_w (As := [.long (fX3_added 1 v (fX3_negated 1 st))]) (rest := []) ⟨hx, hb, hml, hown, hts⟩ (mX3_isZero l ad 1 (by decide) (fX3_added 1 v (fX3_negated 1 st))) (cwV 1 hts gX0_wrapped_X3_isZero rfl rfl rfl (by decide +kernel) ⟨Nat.le_of_ble_eq_true rfl, Nat.le_of_ble_eq_true rfl⟩) hE hS (by decide) rfl rfl hl.1 (Nat.le_of_ble_eq_true rfl) dX0_wrapped_32 (Nat.zero_le _) (Nat.zero_le _) ?_
    refine w_bne (tgt := 42) hx hb dX0_wrapped_35 (by decide) (fun c_3 => ?_) (fun c_3 => ?_)
    · refine lv_iconst (v := 0) hx hb dX0_wrapped_42 (by decide) ?_
      refine lv_istore (lv' := [(7, .int (0 : Int32)), (5, .long (fX3_added 1 v (fX3_negated 1 st))), (0, .ref ga), (1, .long v), (3, .long st)]) hx hb dX0_wrapped_43 hl (by decide) rfl (fun ls hl => ?_)
      refine lv_iload hx hb dX0_wrapped_45 (lv_at hl 0 rfl) ?_
      refine lv_if_eq (tgt := 71) hx hb dX0_wrapped_47 (by decide) (fun c_4 => ?_) (fun c_4 => ?_)
      rotate_left
      · exact absurd c_4 (by decide)
      refine lv_lload hx hb dX0_wrapped_71 (lv_at hl 1 rfl) ?_
      exact W.lret hx hb hr (fun t ht hW => ⟨(by unfold fX0_wrapped; rw [if_pos c_1, if_pos c_3]), ht⟩) (fun q h => absurd h List.not_mem_nil) dX0_wrapped_73
    · refine lv_iconst (v := 1) hx hb dX0_wrapped_38 (by decide) ?_
      refine lv_goto (tgt := 43) hx hb dX0_wrapped_39 (by decide) ?_
      refine lv_istore (lv' := [(7, .int (1 : Int32)), (5, .long (fX3_added 1 v (fX3_negated 1 st))), (0, .ref ga), (1, .long v), (3, .long st)]) hx hb dX0_wrapped_43 hl (by decide) rfl (fun ls hl => ?_)
      refine lv_iload hx hb dX0_wrapped_45 (lv_at hl 0 rfl) ?_
      refine lv_if_eq (tgt := 71) hx hb dX0_wrapped_47 (by decide) (fun c_5 => ?_) (fun c_5 => ?_)
      · exact absurd c_5 (by decide)
      refine gs_w (i := 1) hx hb hE hS (by decide) rfl hown (hts (.fieldLink RX0 19 "TideGauges$Width" "DOUBLE" "LTideGauges$Width;") (List.mem_of_getElem? (i := 1) rfl)) dX0_wrapped_50 ?_
      refine lv_lload hx hb dX0_wrapped_53 (lv_at hl 1 rfl) ?_
      refine gs_w (i := 1) hx hb hE hS (by decide) rfl hown (hts (.fieldLink RX0 19 "TideGauges$Width" "DOUBLE" "LTideGauges$Width;") (List.mem_of_getElem? (i := 1) rfl)) dX0_wrapped_55 ?_
      refine lv_aload_n hx hb dX0_wrapped_58 rfl (lv_at hl 2 rfl) ?_
      refine va_get (D := (dC, dI)) (ci := 0) (v := .long sp) (C := RX0) (T := TX0) (N := 2) hx hb hts (fun w h => List.mem_cons_of_mem _ (List.mem_append_right _ h)) hown hK hP 0 rfl rfl 1 (by decide) (hts (.fieldLink RX0 15 "TideGauges$Gauge" "span" "J") (List.mem_of_getElem? (i := 2) rfl)) (fun _ h9 => h9) rfl dX0_wrapped_59 ?_
      refine cv_w (As := [.long sp]) (rest := [.long (fX3_added 1 v (fX3_negated 1 st)), .ref (ad 1)]) ⟨hx, hb, hml, hown, hts⟩ (mX3_size l ad 1 (by decide) sp) (cwV 1 hts gX0_wrapped_X3_size rfl rfl rfl (by decide +kernel) ⟨Nat.le_of_ble_eq_true rfl, Nat.le_of_ble_eq_true rfl⟩) hE hS (by decide) rfl rfl hl.1 (Nat.le_of_ble_eq_true rfl) dX0_wrapped_62 (Nat.zero_le _) (Nat.zero_le _) ?_
      refine cv_w (As := [.long (fX3_added 1 v (fX3_negated 1 st)), .long (fX3_size 1 sp)]) (rest := []) ⟨hx, hb, hml, hown, hts⟩ (mX3_added l ad 1 (by decide) (fX3_added 1 v (fX3_negated 1 st)) (fX3_size 1 sp)) (cwV 2 hts gX0_wrapped_X3_added rfl rfl rfl (by decide +kernel) ⟨Nat.le_of_ble_eq_true rfl, Nat.le_of_ble_eq_true rfl⟩) hE hS (by decide) rfl rfl hl.1 (Nat.le_of_ble_eq_true rfl) dX0_wrapped_65 (Nat.zero_le _) (Nat.zero_le _) ?_
      refine lv_goto (tgt := 73) hx hb dX0_wrapped_68 (by decide) ?_
      exact W.lret hx hb hr (fun t ht hW => ⟨(by unfold fX0_wrapped; rw [if_pos c_1, if_neg c_3]), ht⟩) (fun q h => absurd h List.not_mem_nil) dX0_wrapped_73
def fX0_tells (k : Int32) (sp : Int64) (v : Int64) : Int64 := if k = (2 : Int32) then (fX3_nearestWhole 1 (fX3_cutToLong 1 v)) else (if k = (1 : Int32) then (fX0_wrapped k sp v (fX3_added 1 v (fX3_negated 1 (fX3_remainder 1 v sp)))) else (fX3_added 1 v (fX3_negated 1 (fX3_remainder 1 v sp))))
set_option maxHeartbeats 4000000 in
set_option maxRecDepth 100000 in
theorem mX0_tells (l : Launch) (dC : Nat → ClassId) (dI : Nat → Nat → Nat) (ad : Nat → Nat) (tys : List (ClassId × FieldType)) (ga : Nat) (k : Int32) (sp : Int64) (v : Int64) : Met l yX0_tells wsX0_tells ({ frames := 4, cells := 0, slots := 0, locals := 118 }) (va_Pc [.ref ga, .long v] (fun U => va_P (dC, dI) vwCl [(ga, .inr (0, [.int k, .long sp]))] U.heap ∧ va_K (dC, dI) vwCl tys U ∧ EN ad (fun _ => False) U U.heap)) (pQ (.long (fX0_tells k sp v))) 0 0 (fun _ => False) := by
  refine Met.ofW (cc := cX0_tells) (maxL := 5) (ret := (some .long)) (by decide) rfl ?_
  intro p e s m args below meth c s₁ B hml hv
  obtain ⟨rfl, hP, hK, hE⟩ := hv
  have hx := B.exec
  have hb := B.bytes
  have hr := B.returns
  have hts := atoms_spec (ws := wsX0_tells) B.pre
  have hown : s.vm.findClass RX0 = some m.cls := findClass_of_methodNamed B.named
  have hlocks := B.notSynchronized
  have hS : va_S (fun _ => False) s.heap s.heap [] := va_S.rf
  have hl := lv_entry ([.ref ga, .long v]) (n := 5) (Nat.le_of_ble_eq_true rfl)
  rw [lg_entry_eq]
  generalize (lg_sl ([.ref ga, .long v]) ++ List.replicate (5 - (lg_sl ([.ref ga, .long v])).length) Slot.unset).toArray = ls at hl ⊢
  have hl : lv_has ls 5 [(0, .ref ga), (1, .long v)] := hl
  refine lv_aload_n hx hb dX0_tells_0 rfl (lv_at hl 0 rfl) ?_
  refine va_get (D := (dC, dI)) (ci := 0) (v := .int k) (C := RX0) (T := TX0) (N := 2) hx hb hts (fun w h => List.mem_cons_of_mem _ (List.mem_append_right _ h)) hown hK hP 0 rfl rfl 0 (by decide) (hts (.fieldLink RX0 9 "TideGauges$Gauge" "kind" "I") (List.mem_of_getElem? (i := 1) rfl)) (fun _ h9 => h9) rfl dX0_tells_1 ?_
  refine lv_iconst (v := 2) hx hb dX0_tells_4 (by decide) ?_
  refine lv_icmp_ne (tgt := 22) hx hb dX0_tells_5 (by decide) (fun c_1 => ?_) (fun c_1 => ?_)
  · refine gs_w (i := 1) hx hb hE hS (by decide) rfl hown (hts (.fieldLink RX0 19 "TideGauges$Width" "DOUBLE" "LTideGauges$Width;") (List.mem_of_getElem? (i := 2) rfl)) dX0_tells_22 ?_
    refine lv_lload_n hx hb dX0_tells_25 rfl (lv_at hl 1 rfl) ?_
    refine gs_w (i := 1) hx hb hE hS (by decide) rfl hown (hts (.fieldLink RX0 19 "TideGauges$Width" "DOUBLE" "LTideGauges$Width;") (List.mem_of_getElem? (i := 2) rfl)) dX0_tells_26 ?_
    refine gs_w (i := 1) hx hb hE hS (by decide) rfl hown (hts (.fieldLink RX0 19 "TideGauges$Width" "DOUBLE" "LTideGauges$Width;") (List.mem_of_getElem? (i := 2) rfl)) dX0_tells_29 ?_
    refine lv_lload_n hx hb dX0_tells_32 rfl (lv_at hl 1 rfl) ?_
    refine lv_aload_n hx hb dX0_tells_33 rfl (lv_at hl 0 rfl) ?_
    refine va_get (D := (dC, dI)) (ci := 0) (v := .long sp) (C := RX0) (T := TX0) (N := 2) hx hb hts (fun w h => List.mem_cons_of_mem _ (List.mem_append_right _ h)) hown hK hP 0 rfl rfl 1 (by decide) (hts (.fieldLink RX0 15 "TideGauges$Gauge" "span" "J") (List.mem_of_getElem? (i := 3) rfl)) (fun _ h9 => h9) rfl dX0_tells_34 ?_
    refine cv_w (As := [.long v, .long sp]) (rest := [.ref (ad 1), .long v, .ref (ad 1)]) ⟨hx, hb, hml, hown, hts⟩ (mX3_remainder l ad 1 (by decide) v sp) (cwV 2 hts gX0_tells_X3_remainder rfl rfl rfl (by decide +kernel) ⟨Nat.le_of_ble_eq_true rfl, Nat.le_of_ble_eq_true rfl⟩) hE hS (by decide) rfl rfl hl.1 (Nat.le_of_ble_eq_true rfl) dX0_tells_37 (Nat.zero_le _) (Nat.zero_le _) ?_
    refine cv_w (As := [.long (fX3_remainder 1 v sp)]) (rest := [.long v, .ref (ad 1)]) ⟨hx, hb, hml, hown, hts⟩ (mX3_negated l ad 1 (by decide) (fX3_remainder 1 v sp)) (cwV 1 hts gX0_tells_X3_negated rfl rfl rfl (by decide +kernel) ⟨Nat.le_of_ble_eq_true rfl, Nat.le_of_ble_eq_true rfl⟩) hE hS (by decide) rfl rfl hl.1 (Nat.le_of_ble_eq_true rfl) dX0_tells_40 (Nat.zero_le _) (Nat.zero_le _) ?_
    refine cv_w (As := [.long v, .long (fX3_negated 1 (fX3_remainder 1 v sp))]) (rest := []) ⟨hx, hb, hml, hown, hts⟩ (mX3_added l ad 1 (by decide) v (fX3_negated 1 (fX3_remainder 1 v sp))) (cwV 2 hts gX0_tells_X3_added rfl rfl rfl (by decide +kernel) ⟨Nat.le_of_ble_eq_true rfl, Nat.le_of_ble_eq_true rfl⟩) hE hS (by decide) rfl rfl hl.1 (Nat.le_of_ble_eq_true rfl) dX0_tells_43 (Nat.zero_le _) (Nat.zero_le _) ?_
    refine lv_lstore_n (lv' := [(3, .long (fX3_added 1 v (fX3_negated 1 (fX3_remainder 1 v sp)))), (0, .ref ga), (1, .long v)]) hx hb dX0_tells_46 rfl hl (by decide) rfl (fun ls hl => ?_)
    refine lv_aload_n hx hb dX0_tells_47 rfl (lv_at hl 1 rfl) ?_
    refine va_get (D := (dC, dI)) (ci := 0) (v := .int k) (C := RX0) (T := TX0) (N := 2) hx hb hts (fun w h => List.mem_cons_of_mem _ (List.mem_append_right _ h)) hown hK hP 0 rfl rfl 0 (by decide) (hts (.fieldLink RX0 9 "TideGauges$Gauge" "kind" "I") (List.mem_of_getElem? (i := 1) rfl)) (fun _ h9 => h9) rfl dX0_tells_48 ?_
    refine lv_iconst (v := 1) hx hb dX0_tells_51 (by decide) ?_
    refine lv_icmp_ne (tgt := 64) hx hb dX0_tells_52 (by decide) (fun c_2 => ?_) (fun c_2 => ?_)
    · refine lv_lload_n hx hb dX0_tells_64 rfl (lv_at hl 0 rfl) ?_
      exact W.lret hx hb hr (fun t ht hW => ⟨(by unfold fX0_tells; rw [if_neg c_1, if_neg c_2]), ht⟩) (fun q h => absurd h List.not_mem_nil) dX0_tells_65
    · refine lv_aload_n hx hb dX0_tells_55 rfl (lv_at hl 1 rfl) ?_
      refine lv_lload_n hx hb dX0_tells_56 rfl (lv_at hl 2 rfl) ?_
      refine lv_lload_n hx hb dX0_tells_57 rfl (lv_at hl 0 rfl) ?_
      refine ct_w (q0 := 0) (As := [.long v, .long (fX3_added 1 v (fX3_negated 1 (fX3_remainder 1 v sp)))]) (rest := []) ⟨hx, hb, hml, hown, hts⟩ (mX0_wrapped l dC dI ad tys ga k sp v (fX3_added 1 v (fX3_negated 1 (fX3_remainder 1 v sp)))) (cwV 2 hts gX0_tells_X0_wrapped rfl rfl rfl (by decide +kernel) ⟨Nat.le_of_ble_eq_true rfl, Nat.le_of_ble_eq_true rfl⟩) hK hP hE hS rfl rfl rfl rfl hl.1 (Nat.le_of_ble_eq_true rfl) dX0_tells_58 (Nat.zero_le _) (Nat.zero_le _) ?_
      refine lv_goto (tgt := 65) hx hb dX0_tells_61 (by decide) ?_
      exact W.lret hx hb hr (fun t ht hW => ⟨(by unfold fX0_tells; rw [if_neg c_1, if_pos c_2]), ht⟩) (fun q h => absurd h List.not_mem_nil) dX0_tells_65
  · refine gs_w (i := 1) hx hb hE hS (by decide) rfl hown (hts (.fieldLink RX0 19 "TideGauges$Width" "DOUBLE" "LTideGauges$Width;") (List.mem_of_getElem? (i := 2) rfl)) dX0_tells_8 ?_
    refine gs_w (i := 1) hx hb hE hS (by decide) rfl hown (hts (.fieldLink RX0 19 "TideGauges$Width" "DOUBLE" "LTideGauges$Width;") (List.mem_of_getElem? (i := 2) rfl)) dX0_tells_11 ?_
    refine lv_lload_n hx hb dX0_tells_14 rfl (lv_at hl 1 rfl) ?_
    refine cv_w (As := [.long v]) (rest := [.ref (ad 1)]) ⟨hx, hb, hml, hown, hts⟩ (mX3_cutToLong l ad 1 (by decide) v) (cwV 1 hts gX0_tells_X3_cutToLong rfl rfl rfl (by decide +kernel) ⟨Nat.le_of_ble_eq_true rfl, Nat.le_of_ble_eq_true rfl⟩) hE hS (by decide) rfl rfl hl.1 (Nat.le_of_ble_eq_true rfl) dX0_tells_15 (Nat.zero_le _) (Nat.zero_le _) ?_
    refine cv_w (As := [.long (fX3_cutToLong 1 v)]) (rest := []) ⟨hx, hb, hml, hown, hts⟩ (mX3_nearestWhole l ad 1 (by decide) (fX3_cutToLong 1 v)) (cwV 1 hts gX0_tells_X3_nearestWhole rfl rfl rfl (by decide +kernel) ⟨Nat.le_of_ble_eq_true rfl, Nat.le_of_ble_eq_true rfl⟩) hE hS (by decide) rfl rfl hl.1 (Nat.le_of_ble_eq_true rfl) dX0_tells_18 (Nat.zero_le _) (Nat.zero_le _) ?_
    exact W.lret hx hb hr (fun t ht hW => ⟨(by unfold fX0_tells; rw [if_pos c_1]), ht⟩) (fun q h => absurd h List.not_mem_nil) dX0_tells_21
def fX0_tellsAsFloat (k : Int32) (sp : Int64) (v : Int64) : Int64 := if k = (2 : Int32) then (fX3_nearestWhole 0 (fX3_cutToLong 0 (fX3_nearestOf 0 1 v))) else (fX3_nearestOf 0 1 (fX0_tells k sp v))
set_option maxHeartbeats 4000000 in
set_option maxRecDepth 100000 in
theorem mX0_tellsAsFloat (l : Launch) (dC : Nat → ClassId) (dI : Nat → Nat → Nat) (ad : Nat → Nat) (tys : List (ClassId × FieldType)) (ga : Nat) (k : Int32) (sp : Int64) (v : Int64) : Met l yX0_tellsAsFloat wsX0_tellsAsFloat ({ frames := 5, cells := 0, slots := 0, locals := 142 }) (va_Pc [.ref ga, .long v] (fun U => va_P (dC, dI) vwCl [(ga, .inr (0, [.int k, .long sp]))] U.heap ∧ va_K (dC, dI) vwCl tys U ∧ EN ad (fun _ => False) U U.heap)) (pQ (.long (fX0_tellsAsFloat k sp v))) 0 0 (fun _ => False) := by
  refine Met.ofW (cc := cX0_tellsAsFloat) (maxL := 5) (ret := (some .long)) (by decide) rfl ?_
  intro p e s m args below meth c s₁ B hml hv
  obtain ⟨rfl, hP, hK, hE⟩ := hv
  have hx := B.exec
  have hb := B.bytes
  have hr := B.returns
  have hts := atoms_spec (ws := wsX0_tellsAsFloat) B.pre
  have hown : s.vm.findClass RX0 = some m.cls := findClass_of_methodNamed B.named
  have hlocks := B.notSynchronized
  have hS : va_S (fun _ => False) s.heap s.heap [] := va_S.rf
  have hl := lv_entry ([.ref ga, .long v]) (n := 5) (Nat.le_of_ble_eq_true rfl)
  rw [lg_entry_eq]
  generalize (lg_sl ([.ref ga, .long v]) ++ List.replicate (5 - (lg_sl ([.ref ga, .long v])).length) Slot.unset).toArray = ls at hl ⊢
  have hl : lv_has ls 5 [(0, .ref ga), (1, .long v)] := hl
  refine lv_aload_n hx hb dX0_tellsAsFloat_0 rfl (lv_at hl 0 rfl) ?_
  refine va_get (D := (dC, dI)) (ci := 0) (v := .int k) (C := RX0) (T := TX0) (N := 2) hx hb hts (fun w h => List.mem_cons_of_mem _ (List.mem_append_right _ h)) hown hK hP 0 rfl rfl 0 (by decide) (hts (.fieldLink RX0 9 "TideGauges$Gauge" "kind" "I") (List.mem_of_getElem? (i := 1) rfl)) (fun _ h9 => h9) rfl dX0_tellsAsFloat_1 ?_
  refine lv_iconst (v := 2) hx hb dX0_tellsAsFloat_4 (by decide) ?_
  refine lv_icmp_ne (tgt := 33) hx hb dX0_tellsAsFloat_5 (by decide) (fun c_1 => ?_) (fun c_1 => ?_)
  · refine gs_w (i := 0) hx hb hE hS (by decide) rfl hown (hts (.fieldLink RX0 49 "TideGauges$Width" "FLOAT" "LTideGauges$Width;") (List.mem_of_getElem? (i := 2) rfl)) dX0_tellsAsFloat_33 ?_
    refine gs_w (i := 1) hx hb hE hS (by decide) rfl hown (hts (.fieldLink RX0 19 "TideGauges$Width" "DOUBLE" "LTideGauges$Width;") (List.mem_of_getElem? (i := 3) rfl)) dX0_tellsAsFloat_36 ?_
    refine lv_aload_n hx hb dX0_tellsAsFloat_39 rfl (lv_at hl 0 rfl) ?_
    refine lv_lload_n hx hb dX0_tellsAsFloat_40 rfl (lv_at hl 1 rfl) ?_
    refine ct_w (q0 := 0) (As := [.long v]) (rest := [.ref (ad 1), .ref (ad 0)]) ⟨hx, hb, hml, hown, hts⟩ (mX0_tells l dC dI ad tys ga k sp v) (cwV 1 hts gX0_tellsAsFloat_X0_tells rfl rfl rfl (by decide +kernel) ⟨Nat.le_of_ble_eq_true rfl, Nat.le_of_ble_eq_true rfl⟩) hK hP hE hS rfl rfl rfl rfl hl.1 (Nat.le_of_ble_eq_true rfl) dX0_tellsAsFloat_41 (Nat.zero_le _) (Nat.zero_le _) ?_
    refine cv_w (As := [.ref (ad 1), .long (fX0_tells k sp v)]) (rest := []) ⟨hx, hb, hml, hown, hts⟩ (mX3_nearestOf l ad 0 (by decide) 1 (by decide) (fX0_tells k sp v)) (cwV 2 hts gX0_tellsAsFloat_X3_nearestOf rfl rfl rfl (by decide +kernel) ⟨Nat.le_of_ble_eq_true rfl, Nat.le_of_ble_eq_true rfl⟩) hE hS (by decide) rfl rfl hl.1 (Nat.le_of_ble_eq_true rfl) dX0_tellsAsFloat_44 (Nat.zero_le _) (Nat.zero_le _) ?_
    exact W.lret hx hb hr (fun t ht hW => ⟨(by unfold fX0_tellsAsFloat; rw [if_neg c_1]), ht⟩) (fun q h => absurd h List.not_mem_nil) dX0_tellsAsFloat_47
  · refine gs_w (i := 0) hx hb hE hS (by decide) rfl hown (hts (.fieldLink RX0 49 "TideGauges$Width" "FLOAT" "LTideGauges$Width;") (List.mem_of_getElem? (i := 2) rfl)) dX0_tellsAsFloat_8 ?_
    refine gs_w (i := 1) hx hb hE hS (by decide) rfl hown (hts (.fieldLink RX0 19 "TideGauges$Width" "DOUBLE" "LTideGauges$Width;") (List.mem_of_getElem? (i := 3) rfl)) dX0_tellsAsFloat_11 ?_
    refine lv_lload_n hx hb dX0_tellsAsFloat_14 rfl (lv_at hl 1 rfl) ?_
    refine cv_w (As := [.ref (ad 1), .long v]) (rest := []) ⟨hx, hb, hml, hown, hts⟩ (mX3_nearestOf l ad 0 (by decide) 1 (by decide) v) (cwV 2 hts gX0_tellsAsFloat_X3_nearestOf rfl rfl rfl (by decide +kernel) ⟨Nat.le_of_ble_eq_true rfl, Nat.le_of_ble_eq_true rfl⟩) hE hS (by decide) rfl rfl hl.1 (Nat.le_of_ble_eq_true rfl) dX0_tellsAsFloat_15 (Nat.zero_le _) (Nat.zero_le _) ?_
    refine lv_lstore_n (lv' := [(3, .long (fX3_nearestOf 0 1 v)), (0, .ref ga), (1, .long v)]) hx hb dX0_tellsAsFloat_18 rfl hl (by decide) rfl (fun ls hl => ?_)
    refine gs_w (i := 0) hx hb hE hS (by decide) rfl hown (hts (.fieldLink RX0 49 "TideGauges$Width" "FLOAT" "LTideGauges$Width;") (List.mem_of_getElem? (i := 2) rfl)) dX0_tellsAsFloat_19 ?_
    refine gs_w (i := 0) hx hb hE hS (by decide) rfl hown (hts (.fieldLink RX0 49 "TideGauges$Width" "FLOAT" "LTideGauges$Width;") (List.mem_of_getElem? (i := 2) rfl)) dX0_tellsAsFloat_22 ?_
    refine lv_lload_n hx hb dX0_tellsAsFloat_25 rfl (lv_at hl 0 rfl) ?_
    refine cv_w (As := [.long (fX3_nearestOf 0 1 v)]) (rest := [.ref (ad 0)]) ⟨hx, hb, hml, hown, hts⟩ (mX3_cutToLong l ad 0 (by decide) (fX3_nearestOf 0 1 v)) (cwV 1 hts gX0_tellsAsFloat_X3_cutToLong rfl rfl rfl (by decide +kernel) ⟨Nat.le_of_ble_eq_true rfl, Nat.le_of_ble_eq_true rfl⟩) hE hS (by decide) rfl rfl hl.1 (Nat.le_of_ble_eq_true rfl) dX0_tellsAsFloat_26 (Nat.zero_le _) (Nat.zero_le _) ?_
    refine cv_w (As := [.long (fX3_cutToLong 0 (fX3_nearestOf 0 1 v))]) (rest := []) ⟨hx, hb, hml, hown, hts⟩ (mX3_nearestWhole l ad 0 (by decide) (fX3_cutToLong 0 (fX3_nearestOf 0 1 v))) (cwV 1 hts gX0_tellsAsFloat_X3_nearestWhole rfl rfl rfl (by decide +kernel) ⟨Nat.le_of_ble_eq_true rfl, Nat.le_of_ble_eq_true rfl⟩) hE hS (by decide) rfl rfl hl.1 (Nat.le_of_ble_eq_true rfl) dX0_tellsAsFloat_29 (Nat.zero_le _) (Nat.zero_le _) ?_
    exact W.lret hx hb hr (fun t ht hW => ⟨(by unfold fX0_tellsAsFloat; rw [if_pos c_1]), ht⟩) (fun q h => absurd h List.not_mem_nil) dX0_tellsAsFloat_32
theorem isOf_fits (k : Int32) (sp : Int64) (x : Int32) : fX0_isOf k sp x = fX5_fits k x := by
  unfold fX0_isOf fX5_fits
  (repeat' split) <;> first | rfl | simp_all
