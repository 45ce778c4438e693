set_option maxHeartbeats 4000000 in
set_option maxRecDepth 100000 in
theorem mX4_told (l : Launch) (dC : Nat → ClassId) (dI : Nat → Nat → Nat) (ad : Nat → Nat) (q : Aq) (cJ cG cK cR cI cZ cD : ClassId) (fr fg fk : Nat → Option Nat) (L : List Nat) (f : Nat → va_E) (ra rb ka kb : Nat → Nat) (hf : Nat → Nat → Option Nat) (σ : St) (hR : TRel ad cJ cG fr fg fk L f ra rb ka kb hf σ) (N0 : Nat) (hI : Inv σ N0) (hN : N0 ≤ 512)  : Met l yX4_told wsX4_told ({ frames := 0, cells := 0, slots := 0, locals := 0 }) (va_Pc [.ref q.1] (fun U => va_P (dC, dI) vwCl (TWs q cG cK cR fr fg fk (zTo σ) L f) U.heap ∧ va_K (dC, dI) vwCl (tys0 cJ cG cK cR cI cZ cD) U ∧ EN ad (fun _ => False) U U.heap)) (pQ (.long (zTo σ))) 0 0 (fun _ => False) := by
  refine Met.ofW (cc := cX4_told) (maxL := 1) (ret := (some .long)) (by decide) rfl ?_
  intro p e s m args below meth c s₁ B hml hv
  obtain ⟨rfl, hP, hK, hE⟩ := hv
  have hx := B.exec
  have hb := B.bytes
  have hr := B.returns
  have hts := atoms_spec (ws := wsX4_told) B.pre
  have hown : s.vm.findClass RX4 = some m.cls := findClass_of_methodNamed B.named
  have hlocks := B.notSynchronized
  have hN1 := hI.1
  have hN2 := hI.2.1
  have hS : va_S (fun _ => False) s.heap s.heap [] := va_S.rf
  have hl := lv_entry ([.ref q.1]) (n := 1) (Nat.le_of_ble_eq_true rfl)
  rw [lg_entry_eq]
  generalize (lg_sl ([.ref q.1]) ++ List.replicate (1 - (lg_sl ([.ref q.1])).length) Slot.unset).toArray = ls at hl ⊢
  have hl : lv_has ls 1 [(0, .ref q.1)] := hl
  refine lv_aload_n hx hb dX4_told_0 rfl (lv_at hl 0 rfl) ?_
  refine va_get (D := (dC, dI)) (ci := 4) (v := .long (zTo σ)) (C := RX4) (T := TX4) (N := 4) hx hb hts (fun w h => List.mem_cons_of_mem _ (List.mem_append_right _ h)) hown hK hP 0 rfl rfl 3 (by decide) (hts (.fieldLink RX4 27 "TideGauges" "latest" "J") (List.mem_of_getElem? (i := 1) rfl)) (fun _ h9 => h9) rfl dX4_told_1 ?_
  exact W.lret hx hb hr (fun t ht hW => ⟨rfl, ht⟩) (fun q h => absurd h List.not_mem_nil) dX4_told_4
def fX4_round (v : Int64) (how : Int32) : Int64 := if how = 0 then (fX3_nearestWhole 0 v) else (if how = 1 then (fX3_cutToLong 0 (fX3_nearestWhole 0 v)) else (if how = 2 then (fX3_nearestWhole 1 v) else (if how = 3 then (fX3_cutToLong 1 (fX3_nearestWhole 1 v)) else (if how = 4 then (fX3_nearestOf 0 1 (fX3_nearestWhole 1 v)) else (if how = 5 then ((fX3_cutToInt 0 (fX3_nearestWhole 0 v)).toInt64) else v)))))
set_option maxHeartbeats 4000000 in
set_option maxRecDepth 100000 in
theorem mX4_round (l : Launch) (dC : Nat → ClassId) (dI : Nat → Nat → Nat) (ad : Nat → Nat) (q : Aq) (cJ cG cK cR cI cZ cD : ClassId) (fr fg fk : Nat → Option Nat) (L : List Nat) (f : Nat → va_E) (ra rb ka kb : Nat → Nat) (hf : Nat → Nat → Option Nat) (σ : St) (hR : TRel ad cJ cG fr fg fk L f ra rb ka kb hf σ) (N0 : Nat) (hI : Inv σ N0) (hN : N0 ≤ 512) (v : Int64) (how : Int32) : Met l yX4_round wsX4_round ({ frames := 4, cells := 0, slots := 0, locals := 97 }) (va_Pc [.ref q.1, .long v, .int how] (fun U => va_P (dC, dI) vwCl (TWs q cG cK cR fr fg fk (zTo σ) L f) U.heap ∧ va_K (dC, dI) vwCl (tys0 cJ cG cK cR cI cZ cD) U ∧ EN ad (fun _ => False) U U.heap)) (pQ (.long (fX4_round v how))) 0 0 (fun _ => False) := by
  refine Met.ofW (cc := cX4_round) (maxL := 4) (ret := (some .long)) (by decide) rfl ?_
  intro p e s m args below meth c s₁ B hml hv
  obtain ⟨rfl, hP, hK, hE⟩ := hv
  have hx := B.exec
  have hb := B.bytes
  have hr := B.returns
  have hts := atoms_spec (ws := wsX4_round) B.pre
  have hown : s.vm.findClass RX4 = some m.cls := findClass_of_methodNamed B.named
  have hlocks := B.notSynchronized
  have hN1 := hI.1
  have hN2 := hI.2.1
  have hS : va_S (fun _ => False) s.heap s.heap [] := va_S.rf
  have hl := lv_entry ([.ref q.1, .long v, .int how]) (n := 4) (Nat.le_of_ble_eq_true rfl)
  rw [lg_entry_eq]
  generalize (lg_sl ([.ref q.1, .long v, .int how]) ++ List.replicate (4 - (lg_sl ([.ref q.1, .long v, .int how])).length) Slot.unset).toArray = ls at hl ⊢
  have hl : lv_has ls 4 [(0, .ref q.1), (1, .long v), (3, .int how)] := hl
  refine lv_iload_n hx hb dX4_round_0 rfl (lv_at hl 2 rfl) ?_
  by_cases c_1 : how = 0
  · refine lv_tableIn (off := 39) (tgt := 40) hx hb dX4_round_1 (by rw [c_1]; decide) (by rw [c_1]; decide) (by rw [c_1]; rfl) (by decide) ?_
    refine gs_w (i := 0) hx hb hE hS (by decide) rfl hown (hts (.fieldLink RX4 93 "TideGauges$Width" "FLOAT" "LTideGauges$Width;") (List.mem_of_getElem? (i := 1) rfl)) dX4_round_40 ?_
    refine lv_lload_n hx hb dX4_round_43 rfl (lv_at hl 1 rfl) ?_
    refine cv_w (As := [.long v]) (rest := []) ⟨hx, hb, hml, hown, hts⟩ (mX3_nearestWhole l ad 0 (by decide) v) (cwV 1 hts gX4_round_X3_nearestWhole rfl rfl rfl (by decide +kernel) ⟨Nat.le_of_ble_eq_true rfl, Nat.le_of_ble_eq_true rfl⟩) hE hS (by decide) rfl rfl hl.1 (Nat.le_of_ble_eq_true rfl) dX4_round_44 (Nat.zero_le _) (Nat.zero_le _) ?_
    exact W.lret hx hb hr (fun t ht hW => ⟨(by unfold fX4_round; simp only [if_pos c_1]; try rfl), ht⟩) (fun q h => absurd h List.not_mem_nil) dX4_round_47
  · by_cases c_2 : how = 1
    · refine lv_tableIn (off := 47) (tgt := 48) hx hb dX4_round_1 (by rw [c_2]; decide) (by rw [c_2]; decide) (by rw [c_2]; rfl) (by decide) ?_
      refine gs_w (i := 0) hx hb hE hS (by decide) rfl hown (hts (.fieldLink RX4 93 "TideGauges$Width" "FLOAT" "LTideGauges$Width;") (List.mem_of_getElem? (i := 1) rfl)) dX4_round_48 ?_
      refine gs_w (i := 0) hx hb hE hS (by decide) rfl hown (hts (.fieldLink RX4 93 "TideGauges$Width" "FLOAT" "LTideGauges$Width;") (List.mem_of_getElem? (i := 1) rfl)) dX4_round_51 ?_
      refine lv_lload_n hx hb dX4_round_54 rfl (lv_at hl 1 rfl) ?_
      refine cv_w (As := [.long v]) (rest := [.ref (ad 0)]) ⟨hx, hb, hml, hown, hts⟩ (mX3_nearestWhole l ad 0 (by decide) v) (cwV 1 hts gX4_round_X3_nearestWhole rfl rfl rfl (by decide +kernel) ⟨Nat.le_of_ble_eq_true rfl, Nat.le_of_ble_eq_true rfl⟩) hE hS (by decide) rfl rfl hl.1 (Nat.le_of_ble_eq_true rfl) dX4_round_55 (Nat.zero_le _) (Nat.zero_le _) ?_
      refine cv_w (As := [.long (fX3_nearestWhole 0 v)]) (rest := []) ⟨hx, hb, hml, hown, hts⟩ (mX3_cutToLong l ad 0 (by decide) (fX3_nearestWhole 0 v)) (cwV 1 hts gX4_round_X3_cutToLong rfl rfl rfl (by decide +kernel) ⟨Nat.le_of_ble_eq_true rfl, Nat.le_of_ble_eq_true rfl⟩) hE hS (by decide) rfl rfl hl.1 (Nat.le_of_ble_eq_true rfl) dX4_round_58 (Nat.zero_le _) (Nat.zero_le _) ?_
      exact W.lret hx hb hr (fun t ht hW => ⟨(by unfold fX4_round; simp only [if_neg c_1, if_pos c_2]; try rfl), ht⟩) (fun q h => absurd h List.not_mem_nil) dX4_round_61
    · by_cases c_3 : how = 2
      · refine lv_tableIn (off := 61) (tgt := 62) hx hb dX4_round_1 (by rw [c_3]; decide) (by rw [c_3]; decide) (by rw [c_3]; rfl) (by decide) ?_
        refine gs_w (i := 1) hx hb hE hS (by decide) rfl hown (hts (.fieldLink RX4 103 "TideGauges$Width" "DOUBLE" "LTideGauges$Width;") (List.mem_of_getElem? (i := 2) rfl)) dX4_round_62 ?_
        refine lv_lload_n hx hb dX4_round_65 rfl (lv_at hl 1 rfl) ?_
        refine cv_w (As := [.long v]) (rest := []) ⟨hx, hb, hml, hown, hts⟩ (mX3_nearestWhole l ad 1 (by decide) v) (cwV 1 hts gX4_round_X3_nearestWhole rfl rfl rfl (by decide +kernel) ⟨Nat.le_of_ble_eq_true rfl, Nat.le_of_ble_eq_true rfl⟩) hE hS (by decide) rfl rfl hl.1 (Nat.le_of_ble_eq_true rfl) dX4_round_66 (Nat.zero_le _) (Nat.zero_le _) ?_
        exact W.lret hx hb hr (fun t ht hW => ⟨(by unfold fX4_round; simp only [if_neg c_1, if_neg c_2, if_pos c_3]; try rfl), ht⟩) (fun q h => absurd h List.not_mem_nil) dX4_round_69
      · by_cases c_4 : how = 3
        · refine lv_tableIn (off := 69) (tgt := 70) hx hb dX4_round_1 (by rw [c_4]; decide) (by rw [c_4]; decide) (by rw [c_4]; rfl) (by decide) ?_
          refine gs_w (i := 1) hx hb hE hS (by decide) rfl hown (hts (.fieldLink RX4 103 "TideGauges$Width" "DOUBLE" "LTideGauges$Width;") (List.mem_of_getElem? (i := 2) rfl)) dX4_round_70 ?_
          refine gs_w (i := 1) hx hb hE hS (by decide) rfl hown (hts (.fieldLink RX4 103 "TideGauges$Width" "DOUBLE" "LTideGauges$Width;") (List.mem_of_getElem? (i := 2) rfl)) dX4_round_73 ?_
          refine lv_lload_n hx hb dX4_round_76 rfl (lv_at hl 1 rfl) ?_
          refine cv_w (As := [.long v]) (rest := [.ref (ad 1)]) ⟨hx, hb, hml, hown, hts⟩ (mX3_nearestWhole l ad 1 (by decide) v) (cwV 1 hts gX4_round_X3_nearestWhole rfl rfl rfl (by decide +kernel) ⟨Nat.le_of_ble_eq_true rfl, Nat.le_of_ble_eq_true rfl⟩) hE hS (by decide) rfl rfl hl.1 (Nat.le_of_ble_eq_true rfl) dX4_round_77 (Nat.zero_le _) (Nat.zero_le _) ?_
          refine cv_w (As := [.long (fX3_nearestWhole 1 v)]) (rest := []) ⟨hx, hb, hml, hown, hts⟩ (mX3_cutToLong l ad 1 (by decide) (fX3_nearestWhole 1 v)) (cwV 1 hts gX4_round_X3_cutToLong rfl rfl rfl (by decide +kernel) ⟨Nat.le_of_ble_eq_true rfl, Nat.le_of_ble_eq_true rfl⟩) hE hS (by decide) rfl rfl hl.1 (Nat.le_of_ble_eq_true rfl) dX4_round_80 (Nat.zero_le _) (Nat.zero_le _) ?_
          exact W.lret hx hb hr (fun t ht hW => ⟨(by unfold fX4_round; simp only [if_neg c_1, if_neg c_2, if_neg c_3, if_pos c_4]; try rfl), ht⟩) (fun q h => absurd h List.not_mem_nil) dX4_round_83
        · by_cases c_5 : how = 4
          · refine lv_tableIn (off := 83) (tgt := 84) hx hb dX4_round_1 (by rw [c_5]; decide) (by rw [c_5]; decide) (by rw [c_5]; rfl) (by decide) ?_
            refine gs_w (i := 0) hx hb hE hS (by decide) rfl hown (hts (.fieldLink RX4 93 "TideGauges$Width" "FLOAT" "LTideGauges$Width;") (List.mem_of_getElem? (i := 1) rfl)) dX4_round_84 ?_
            refine gs_w (i := 1) hx hb hE hS (by decide) rfl hown (hts (.fieldLink RX4 103 "TideGauges$Width" "DOUBLE" "LTideGauges$Width;") (List.mem_of_getElem? (i := 2) rfl)) dX4_round_87 ?_
            refine gs_w (i := 1) hx hb hE hS (by decide) rfl hown (hts (.fieldLink RX4 103 "TideGauges$Width" "DOUBLE" "LTideGauges$Width;") (List.mem_of_getElem? (i := 2) rfl)) dX4_round_90 ?_
            refine lv_lload_n hx hb dX4_round_93 rfl (lv_at hl 1 rfl) ?_
            refine cv_w (As := [.long v]) (rest := [.ref (ad 1), .ref (ad 0)]) ⟨hx, hb, hml, hown, hts⟩ (mX3_nearestWhole l ad 1 (by decide) v) (cwV 1 hts gX4_round_X3_nearestWhole rfl rfl rfl (by decide +kernel) ⟨Nat.le_of_ble_eq_true rfl, Nat.le_of_ble_eq_true rfl⟩) hE hS (by decide) rfl rfl hl.1 (Nat.le_of_ble_eq_true rfl) dX4_round_94 (Nat.zero_le _) (Nat.zero_le _) ?_
            refine cv_w (As := [.ref (ad 1), .long (fX3_nearestWhole 1 v)]) (rest := []) ⟨hx, hb, hml, hown, hts⟩ (mX3_nearestOf l ad 0 (by decide) 1 (by decide) (fX3_nearestWhole 1 v)) (cwV 2 hts gX4_round_X3_nearestOf rfl rfl rfl (by decide +kernel) ⟨Nat.le_of_ble_eq_true rfl, Nat.le_of_ble_eq_true rfl⟩) hE hS (by decide) rfl rfl hl.1 (Nat.le_of_ble_eq_true rfl) dX4_round_97 (Nat.zero_le _) (Nat.zero_le _) ?_
            exact W.lret hx hb hr (fun t ht hW => ⟨(by unfold fX4_round; simp only [if_neg c_1, if_neg c_2, if_neg c_3, if_neg c_4, if_pos c_5]; try rfl), ht⟩) (fun q h => absurd h List.not_mem_nil) dX4_round_100
          · by_cases c_6 : how = 5
            · refine lv_tableIn (off := 100) (tgt := 101) hx hb dX4_round_1 (by rw [c_6]; decide) (by rw [c_6]; decide) (by rw [c_6]; rfl) (by decide) ?_
              refine gs_w (i := 0) hx hb hE hS (by decide) rfl hown (hts (.fieldLink RX4 93 "TideGauges$Width" "FLOAT" "LTideGauges$Width;") (List.mem_of_getElem? (i := 1) rfl)) dX4_round_101 ?_
              refine gs_w (i := 0) hx hb hE hS (by decide) rfl hown (hts (.fieldLink RX4 93 "TideGauges$Width" "FLOAT" "LTideGauges$Width;") (List.mem_of_getElem? (i := 1) rfl)) dX4_round_104 ?_
              refine lv_lload_n hx hb dX4_round_107 rfl (lv_at hl 1 rfl) ?_
              refine cv_w (As := [.long v]) (rest := [.ref (ad 0)]) ⟨hx, hb, hml, hown, hts⟩ (mX3_nearestWhole l ad 0 (by decide) v) (cwV 1 hts gX4_round_X3_nearestWhole rfl rfl rfl (by decide +kernel) ⟨Nat.le_of_ble_eq_true rfl, Nat.le_of_ble_eq_true rfl⟩) hE hS (by decide) rfl rfl hl.1 (Nat.le_of_ble_eq_true rfl) dX4_round_108 (Nat.zero_le _) (Nat.zero_le _) ?_
              refine cv_w (As := [.long (fX3_nearestWhole 0 v)]) (rest := []) ⟨hx, hb, hml, hown, hts⟩ (mX3_cutToInt l ad 0 (by decide) (fX3_nearestWhole 0 v)) (cwV 1 hts gX4_round_X3_cutToInt rfl rfl rfl (by decide +kernel) ⟨Nat.le_of_ble_eq_true rfl, Nat.le_of_ble_eq_true rfl⟩) hE hS (by decide) rfl rfl hl.1 (Nat.le_of_ble_eq_true rfl) dX4_round_111 (Nat.zero_le _) (Nat.zero_le _) ?_
              refine lv_i2l hx hb dX4_round_114 rfl ?_
              exact W.lret hx hb hr (fun t ht hW => ⟨(by unfold fX4_round; simp only [if_neg c_1, if_neg c_2, if_neg c_3, if_neg c_4, if_neg c_5, if_pos c_6]; try rfl), ht⟩) (fun q h => absurd h List.not_mem_nil) dX4_round_115
            · refine lv_tableOut (tgt := 116) hx hb dX4_round_1 (by have g0 := lv_neT c_1 (a := 0) rfl; have g1 := lv_neT c_2 (a := 1) rfl; have g2 := lv_neT c_3 (a := 2) rfl; have g3 := lv_neT c_4 (a := 3) rfl; have g4 := lv_neT c_5 (a := 4) rfl; have g5 := lv_neT c_6 (a := 5) rfl; omega) (by decide) ?_
              refine lv_lload_n hx hb dX4_round_116 rfl (lv_at hl 1 rfl) ?_
              exact W.lret hx hb hr (fun t ht hW => ⟨(by unfold fX4_round; simp only [if_neg c_1, if_neg c_2, if_neg c_3, if_neg c_4, if_neg c_5, if_neg c_6]; try rfl), ht⟩) (fun q h => absurd h List.not_mem_nil) dX4_round_117
set_option maxHeartbeats 4000000 in
set_option maxRecDepth 100000 in
theorem mX4_rowsThere (l : Launch) (dC : Nat → ClassId) (dI : Nat → Nat → Nat) (ad : Nat → Nat) (q : Aq) (cJ cG cK cR cI cZ cD : ClassId) (fr fg fk : Nat → Option Nat) (L : List Nat) (f : Nat → va_E) (ra rb ka kb : Nat → Nat) (hf : Nat → Nat → Option Nat) (σ : St) (hR : TRel ad cJ cG fr fg fk L f ra rb ka kb hf σ) (N0 : Nat) (hI : Inv σ N0) (hN : N0 ≤ 512)  : Met l yX4_rowsThere wsX4_rowsThere ({ frames := 0, cells := 0, slots := 0, locals := 0 }) (va_Pc [.ref q.1] (fun U => va_P (dC, dI) vwCl (TWs q cG cK cR fr fg fk (zTo σ) L f) U.heap ∧ va_K (dC, dI) vwCl (tys0 cJ cG cK cR cI cZ cD) U ∧ EN ad (fun _ => False) U U.heap)) (pQ (.int (nI (cntO (fun k => (zPl σ k).isSome) 8)))) 0 0 (fun _ => False) := by
  refine Met.ofW (cc := cX4_rowsThere) (maxL := 6) (ret := (some .int)) (by decide) rfl ?_
  intro p e s m args below meth c s₁ B hml hv
  obtain ⟨rfl, hP, hK, hE⟩ := hv
  have hx := B.exec
  have hb := B.bytes
  have hr := B.returns
  have hts := atoms_spec (ws := wsX4_rowsThere) B.pre
  have hown : s.vm.findClass RX4 = some m.cls := findClass_of_methodNamed B.named
  have hlocks := B.notSynchronized
  have hN1 := hI.1
  have hN2 := hI.2.1
  have hS : va_S (fun _ => False) s.heap s.heap [] := va_S.rf
  have hl := lv_entry ([.ref q.1]) (n := 6) (Nat.le_of_ble_eq_true rfl)
  rw [lg_entry_eq]
  generalize (lg_sl ([.ref q.1]) ++ List.replicate (6 - (lg_sl ([.ref q.1])).length) Slot.unset).toArray = ls at hl ⊢
  have hl : lv_has ls 6 [(0, .ref q.1)] := hl
  refine lv_iconst (v := 0) hx hb dX4_rowsThere_0 (by decide) ?_
  refine lv_istore_n (lv' := [(1, .int (0 : Int32)), (0, .ref q.1)]) hx hb dX4_rowsThere_1 rfl hl (by decide) rfl (fun ls hl => ?_)
  refine lv_aload_n hx hb dX4_rowsThere_2 rfl (lv_at hl 1 rfl) ?_
  refine va_get (D := (dC, dI)) (ci := 4) (v := .ref q.2.1) (C := RX4) (T := TX4) (N := 4) hx hb hts (fun w h => List.mem_cons_of_mem _ (List.mem_append_right _ h)) hown hK hP 0 rfl rfl 0 (by decide) (hts (.fieldLink RX4 11 "TideGauges" "rows" "[LTideGauges$Row;") (List.mem_of_getElem? (i := 1) rfl)) (fun _ h9 => h9) rfl dX4_rowsThere_3 ?_
  refine lv_astore_n (lv' := [(2, .ref q.2.1), (1, .int (0 : Int32)), (0, .ref q.1)]) hx hb dX4_rowsThere_6 rfl hl (by decide) rfl (fun ls hl => ?_)
  refine lv_aload_n hx hb dX4_rowsThere_7 rfl (lv_at hl 0 rfl) ?_
  refine va_alen hx hb hK hP 1 3 rfl rfl (v := (8 : Int32)) rfl dX4_rowsThere_8 ?_
  refine lv_istore_n (lv' := [(3, .int (8 : Int32)), (2, .ref q.2.1), (1, .int (0 : Int32)), (0, .ref q.1)]) hx hb dX4_rowsThere_9 rfl hl (by decide) rfl (fun ls hl => ?_)
  refine lv_iconst (v := 0) hx hb dX4_rowsThere_10 (by decide) ?_
  refine lv_istore (lv' := [(4, .int (0 : Int32)), (3, .int (8 : Int32)), (2, .ref q.2.1), (1, .int (0 : Int32)), (0, .ref q.1)]) hx hb dX4_rowsThere_11 hl (by decide) rfl (fun ls hl => ?_)
  have key : ∀ (r k : Nat), r + k = 8 → ∀ ls : Array Slot, lv_has ls 6 [(0, .ref q.1), (1, .int (nI (cntO (fun k => (zPl σ k).isSome) k))), (2, .ref q.2.1), (3, .int (8 : Int32)), (4, .int (nI k))] → W p l e (headSpec wsX4_rowsThere ({ frames := 0, cells := 0, slots := 0, locals := 0 })).room s m ([.ref q.1] : List Value).toArray below meth c s.heap [] 0 0 (MQ below (pQ (.int (nI (cntO (fun k => (zPl σ k).isSome) 8)))) ([.ref q.1] : List Value).toArray s 0 0 (fun _ => False)) (F0 m 13 ls []) := by
    intro r
    induction r with
    | zero =>
      intro k hk ls hl
      obtain rfl : k = 8 := by omega
      refine lv_iload hx hb dX4_rowsThere_13 (lv_at hl 4 rfl) ?_
      refine lv_iload_n hx hb dX4_rowsThere_15 rfl (lv_at hl 3 rfl) ?_
      refine lv_icmp_ge (tgt := 44) hx hb dX4_rowsThere_16 (by decide) (fun c_1 => ?_) (fun c_1 => ?_)
      rotate_left
      · exact absurd (by decide) c_1
      refine lv_iload_n hx hb dX4_rowsThere_44 rfl (lv_at hl 1 rfl) ?_
      exact W.iret hx hb hr (fun t ht hW => ⟨rfl, ht⟩) (fun q h => absurd h List.not_mem_nil) dX4_rowsThere_45
    | succ r ih =>
      intro k hk ls hl
      refine lv_iload hx hb dX4_rowsThere_13 (lv_at hl 4 rfl) ?_
      refine lv_iload_n hx hb dX4_rowsThere_15 rfl (lv_at hl 3 rfl) ?_
      refine lv_icmp_ge (tgt := 44) hx hb dX4_rowsThere_16 (by decide) (fun c_2 => ?_) (fun c_2 => ?_)
      · exact absurd c_2 (nI_ge (a := k) (b := 8) (by omega) (by decide))
      refine lv_aload_n hx hb dX4_rowsThere_19 rfl (lv_at hl 2 rfl) ?_
      refine lv_iload hx hb dX4_rowsThere_20 (lv_at hl 4 rfl) ?_
      rcases hp_3 : zPl σ k with _ | a_4
      · refine x_aldq (C := "TideGauges$Row") hx hb hK hP 1 3 rfl rfl (k := k) rfl (by omega) (by decide) (v := .null) (by rw [tr_none hR (by omega) hp_3]; rfl) dX4_rowsThere_22 ?_
        refine lv_astoreN (lv' := [(5, .null), (0, .ref q.1), (1, .int (nI (cntO (fun k => (zPl σ k).isSome) k))), (2, .ref q.2.1), (3, .int (8 : Int32)), (4, .int (nI k))]) hx hb dX4_rowsThere_23 hl (by decide) rfl (fun ls hl => ?_)
        refine lv_iload_n hx hb dX4_rowsThere_25 rfl (lv_at hl 2 rfl) ?_
        refine lv_aloadN hx hb dX4_rowsThere_26 (lv_at hl 0 rfl) ?_
        refine lv_ifnonnullN hx hb dX4_rowsThere_28 ?_
        refine lv_iconst (v := 0) hx hb dX4_rowsThere_31 (by decide) ?_
        refine lv_goto (tgt := 36) hx hb dX4_rowsThere_32 (by decide) ?_
        refine lv_iadd hx hb dX4_rowsThere_36 ?_
        refine lv_istore_n (lv' := [(1, .int (nI (cntO (fun k => (zPl σ k).isSome) k) + (0 : Int32))), (5, .null), (0, .ref q.1), (2, .ref q.2.1), (3, .int (8 : Int32)), (4, .int (nI k))]) hx hb dX4_rowsThere_37 rfl hl (by decide) rfl (fun ls hl => ?_)
        refine lv_iinc (v := nI (k + 1)) (lv' := [(4, .int (nI (k + 1))), (1, .int (nI (cntO (fun k => (zPl σ k).isSome) k) + (0 : Int32))), (5, .null), (0, .ref q.1), (2, .ref q.2.1), (3, .int (8 : Int32))]) hx hb dX4_rowsThere_38 hl (k := 5) rfl (nI_1 k) (by decide) rfl (fun ls hl => ?_)
        refine lv_goto (tgt := 13) hx hb dX4_rowsThere_41 (by decide) ?_
        rw [Int32.add_zero] at hl
        exact ih (k + 1) (by omega) ls (by rw [show cntO (fun k => (zPl σ k).isSome) (k + 1) = cntO (fun k => (zPl σ k).isSome) k from by rw [cntO, hp_3]; rfl]; exact lv_sub hl [3, 1, 4, 5, 0] rfl)
      · have hba_4 := hI.2.2.1 _ _ hp_3
        have hsa_4 := hI.2.2.2.1 a_4
        obtain ⟨rea_4, rma_4, rfa_4, ima_4, jfa_4⟩ := tr_some hR (by omega) hp_3 (hI.2.2.1 _ _ hp_3)
        refine x_aldq (C := "TideGauges$Row") hx hb hK hP 1 3 rfl rfl (k := k) rfl (by omega) (by decide) (v := .ref (ra a_4)) (by rw [rea_4]; rfl) dX4_rowsThere_22 ?_
        refine lv_astore (lv' := [(5, .ref (ra a_4)), (0, .ref q.1), (1, .int (nI (cntO (fun k => (zPl σ k).isSome) k))), (2, .ref q.2.1), (3, .int (8 : Int32)), (4, .int (nI k))]) hx hb dX4_rowsThere_23 hl (by decide) rfl (fun ls hl => ?_)
        refine lv_iload_n hx hb dX4_rowsThere_25 rfl (lv_at hl 2 rfl) ?_
        refine lv_aload hx hb dX4_rowsThere_26 (lv_at hl 0 rfl) ?_
        refine lv_ifnonnull (tgt := 35) hx hb dX4_rowsThere_28 (by decide) ?_
        refine lv_iconst (v := 1) hx hb dX4_rowsThere_35 (by decide) ?_
        refine lv_iadd hx hb dX4_rowsThere_36 ?_
        refine lv_istore_n (lv' := [(1, .int (nI (cntO (fun k => (zPl σ k).isSome) k) + (1 : Int32))), (5, .ref (ra a_4)), (0, .ref q.1), (2, .ref q.2.1), (3, .int (8 : Int32)), (4, .int (nI k))]) hx hb dX4_rowsThere_37 rfl hl (by decide) rfl (fun ls hl => ?_)
        refine lv_iinc (v := nI (k + 1)) (lv' := [(4, .int (nI (k + 1))), (1, .int (nI (cntO (fun k => (zPl σ k).isSome) k) + (1 : Int32))), (5, .ref (ra a_4)), (0, .ref q.1), (2, .ref q.2.1), (3, .int (8 : Int32))]) hx hb dX4_rowsThere_38 hl (k := 5) rfl (nI_1 k) (by decide) rfl (fun ls hl => ?_)
        refine lv_goto (tgt := 13) hx hb dX4_rowsThere_41 (by decide) ?_
        rw [nI_1] at hl
        exact ih (k + 1) (by omega) ls (by rw [show cntO (fun k => (zPl σ k).isSome) (k + 1) = cntO (fun k => (zPl σ k).isSome) k + 1 from by rw [cntO, hp_3]; rfl]; exact lv_sub hl [3, 1, 4, 5, 0] rfl)
  exact key 8 0 rfl ls (lv_sub hl [4, 3, 2, 1, 0] rfl)
set_option maxHeartbeats 4000000 in
set_option maxRecDepth 100000 in
theorem mX4_gaugesThere (l : Launch) (dC : Nat → ClassId) (dI : Nat → Nat → Nat) (ad : Nat → Nat) (q : Aq) (cJ cG cK cR cI cZ cD : ClassId) (fr fg fk : Nat → Option Nat) (L : List Nat) (f : Nat → va_E) (ra rb ka kb : Nat → Nat) (hf : Nat → Nat → Option Nat) (σ : St) (hR : TRel ad cJ cG fr fg fk L f ra rb ka kb hf σ) (N0 : Nat) (hI : Inv σ N0) (hN : N0 ≤ 512)  : Met l yX4_gaugesThere wsX4_gaugesThere ({ frames := 0, cells := 0, slots := 0, locals := 0 }) (va_Pc [.ref q.1] (fun U => va_P (dC, dI) vwCl (TWs q cG cK cR fr fg fk (zTo σ) L f) U.heap ∧ va_K (dC, dI) vwCl (tys0 cJ cG cK cR cI cZ cD) U ∧ EN ad (fun _ => False) U U.heap)) (pQ (.int (nI (cntO (fun k => (zGa σ k).isSome) 6)))) 0 0 (fun _ => False) := by
  refine Met.ofW (cc := cX4_gaugesThere) (maxL := 6) (ret := (some .int)) (by decide) rfl ?_
  intro p e s m args below meth c s₁ B hml hv
  obtain ⟨rfl, hP, hK, hE⟩ := hv
  have hx := B.exec
  have hb := B.bytes
  have hr := B.returns
  have hts := atoms_spec (ws := wsX4_gaugesThere) B.pre
  have hown : s.vm.findClass RX4 = some m.cls := findClass_of_methodNamed B.named
  have hlocks := B.notSynchronized
  have hN1 := hI.1
  have hN2 := hI.2.1
  have hS : va_S (fun _ => False) s.heap s.heap [] := va_S.rf
  have hl := lv_entry ([.ref q.1]) (n := 6) (Nat.le_of_ble_eq_true rfl)
  rw [lg_entry_eq]
  generalize (lg_sl ([.ref q.1]) ++ List.replicate (6 - (lg_sl ([.ref q.1])).length) Slot.unset).toArray = ls at hl ⊢
  have hl : lv_has ls 6 [(0, .ref q.1)] := hl
  refine lv_iconst (v := 0) hx hb dX4_gaugesThere_0 (by decide) ?_
  refine lv_istore_n (lv' := [(1, .int (0 : Int32)), (0, .ref q.1)]) hx hb dX4_gaugesThere_1 rfl hl (by decide) rfl (fun ls hl => ?_)
  refine lv_aload_n hx hb dX4_gaugesThere_2 rfl (lv_at hl 1 rfl) ?_
  refine va_get (D := (dC, dI)) (ci := 4) (v := .ref q.2.2.1) (C := RX4) (T := TX4) (N := 4) hx hb hts (fun w h => List.mem_cons_of_mem _ (List.mem_append_right _ h)) hown hK hP 0 rfl rfl 1 (by decide) (hts (.fieldLink RX4 17 "TideGauges" "gauges" "[LTideGauges$Gauge;") (List.mem_of_getElem? (i := 1) rfl)) (fun _ h9 => h9) rfl dX4_gaugesThere_3 ?_
  refine lv_astore_n (lv' := [(2, .ref q.2.2.1), (1, .int (0 : Int32)), (0, .ref q.1)]) hx hb dX4_gaugesThere_6 rfl hl (by decide) rfl (fun ls hl => ?_)
  refine lv_aload_n hx hb dX4_gaugesThere_7 rfl (lv_at hl 0 rfl) ?_
  refine va_alen hx hb hK hP 2 1 rfl rfl (v := (6 : Int32)) rfl dX4_gaugesThere_8 ?_
  refine lv_istore_n (lv' := [(3, .int (6 : Int32)), (2, .ref q.2.2.1), (1, .int (0 : Int32)), (0, .ref q.1)]) hx hb dX4_gaugesThere_9 rfl hl (by decide) rfl (fun ls hl => ?_)
  refine lv_iconst (v := 0) hx hb dX4_gaugesThere_10 (by decide) ?_
  refine lv_istore (lv' := [(4, .int (0 : Int32)), (3, .int (6 : Int32)), (2, .ref q.2.2.1), (1, .int (0 : Int32)), (0, .ref q.1)]) hx hb dX4_gaugesThere_11 hl (by decide) rfl (fun ls hl => ?_)
  have key : ∀ (r k : Nat), r + k = 6 → ∀ ls : Array Slot, lv_has ls 6 [(0, .ref q.1), (1, .int (nI (cntO (fun k => (zGa σ k).isSome) k))), (2, .ref q.2.2.1), (3, .int (6 : Int32)), (4, .int (nI k))] → W p l e (headSpec wsX4_gaugesThere ({ frames := 0, cells := 0, slots := 0, locals := 0 })).room s m ([.ref q.1] : List Value).toArray below meth c s.heap [] 0 0 (MQ below (pQ (.int (nI (cntO (fun k => (zGa σ k).isSome) 6)))) ([.ref q.1] : List Value).toArray s 0 0 (fun _ => False)) (F0 m 13 ls []) := by
    intro r
    induction r with
    | zero =>
      intro k hk ls hl
      obtain rfl : k = 6 := by omega
      refine lv_iload hx hb dX4_gaugesThere_13 (lv_at hl 4 rfl) ?_
      refine lv_iload_n hx hb dX4_gaugesThere_15 rfl (lv_at hl 3 rfl) ?_
      refine lv_icmp_ge (tgt := 44) hx hb dX4_gaugesThere_16 (by decide) (fun c_1 => ?_) (fun c_1 => ?_)
      rotate_left
      · exact absurd (by decide) c_1
      refine lv_iload_n hx hb dX4_gaugesThere_44 rfl (lv_at hl 1 rfl) ?_
      exact W.iret hx hb hr (fun t ht hW => ⟨rfl, ht⟩) (fun q h => absurd h List.not_mem_nil) dX4_gaugesThere_45
    | succ r ih =>
      intro k hk ls hl
      refine lv_iload hx hb dX4_gaugesThere_13 (lv_at hl 4 rfl) ?_
      refine lv_iload_n hx hb dX4_gaugesThere_15 rfl (lv_at hl 3 rfl) ?_
      refine lv_icmp_ge (tgt := 44) hx hb dX4_gaugesThere_16 (by decide) (fun c_2 => ?_) (fun c_2 => ?_)
      · exact absurd c_2 (nI_ge (a := k) (b := 6) (by omega) (by decide))
      refine lv_aload_n hx hb dX4_gaugesThere_19 rfl (lv_at hl 2 rfl) ?_
      refine lv_iload hx hb dX4_gaugesThere_20 (lv_at hl 4 rfl) ?_
      rcases hp_3 : zGa σ k with _ | a_4
      · refine x_aldq (C := "TideGauges$Gauge") hx hb hK hP 2 1 rfl rfl (k := k) rfl (by omega) (by decide) (v := .null) (by rw [tr_gnone hR (by omega) hp_3]; rfl) dX4_gaugesThere_22 ?_
        refine lv_astoreN (lv' := [(5, .null), (0, .ref q.1), (1, .int (nI (cntO (fun k => (zGa σ k).isSome) k))), (2, .ref q.2.2.1), (3, .int (6 : Int32)), (4, .int (nI k))]) hx hb dX4_gaugesThere_23 hl (by decide) rfl (fun ls hl => ?_)
        refine lv_iload_n hx hb dX4_gaugesThere_25 rfl (lv_at hl 2 rfl) ?_
        refine lv_aloadN hx hb dX4_gaugesThere_26 (lv_at hl 0 rfl) ?_
        refine lv_ifnonnullN hx hb dX4_gaugesThere_28 ?_
        refine lv_iconst (v := 0) hx hb dX4_gaugesThere_31 (by decide) ?_
        refine lv_goto (tgt := 36) hx hb dX4_gaugesThere_32 (by decide) ?_
        refine lv_iadd hx hb dX4_gaugesThere_36 ?_
        refine lv_istore_n (lv' := [(1, .int (nI (cntO (fun k => (zGa σ k).isSome) k) + (0 : Int32))), (5, .null), (0, .ref q.1), (2, .ref q.2.2.1), (3, .int (6 : Int32)), (4, .int (nI k))]) hx hb dX4_gaugesThere_37 rfl hl (by decide) rfl (fun ls hl => ?_)
        refine lv_iinc (v := nI (k + 1)) (lv' := [(4, .int (nI (k + 1))), (1, .int (nI (cntO (fun k => (zGa σ k).isSome) k) + (0 : Int32))), (5, .null), (0, .ref q.1), (2, .ref q.2.2.1), (3, .int (6 : Int32))]) hx hb dX4_gaugesThere_38 hl (k := 5) rfl (nI_1 k) (by decide) rfl (fun ls hl => ?_)
        refine lv_goto (tgt := 13) hx hb dX4_gaugesThere_41 (by decide) ?_
        rw [Int32.add_zero] at hl
        exact ih (k + 1) (by omega) ls (by rw [show cntO (fun k => (zGa σ k).isSome) (k + 1) = cntO (fun k => (zGa σ k).isSome) k from by rw [cntO, hp_3]; rfl]; exact lv_sub hl [3, 1, 4, 5, 0] rfl)
      · obtain ⟨gaa_4, gea_4, gma_4, gfa_4⟩ := tr_gsome hR (show k < 6 by omega) hp_3
        have gba_4 := hI.2.2.2.2.2.2.1 _ _ hp_3
        refine x_aldq (C := "TideGauges$Gauge") hx hb hK hP 2 1 rfl rfl (k := k) rfl (by omega) (by decide) (v := .ref gaa_4) (by rw [gea_4]; rfl) dX4_gaugesThere_22 ?_
        refine lv_astore (lv' := [(5, .ref gaa_4), (0, .ref q.1), (1, .int (nI (cntO (fun k => (zGa σ k).isSome) k))), (2, .ref q.2.2.1), (3, .int (6 : Int32)), (4, .int (nI k))]) hx hb dX4_gaugesThere_23 hl (by decide) rfl (fun ls hl => ?_)
        refine lv_iload_n hx hb dX4_gaugesThere_25 rfl (lv_at hl 2 rfl) ?_
        refine lv_aload hx hb dX4_gaugesThere_26 (lv_at hl 0 rfl) ?_
        refine lv_ifnonnull (tgt := 35) hx hb dX4_gaugesThere_28 (by decide) ?_
        refine lv_iconst (v := 1) hx hb dX4_gaugesThere_35 (by decide) ?_
        refine lv_iadd hx hb dX4_gaugesThere_36 ?_
        refine lv_istore_n (lv' := [(1, .int (nI (cntO (fun k => (zGa σ k).isSome) k) + (1 : Int32))), (5, .ref gaa_4), (0, .ref q.1), (2, .ref q.2.2.1), (3, .int (6 : Int32)), (4, .int (nI k))]) hx hb dX4_gaugesThere_37 rfl hl (by decide) rfl (fun ls hl => ?_)
        refine lv_iinc (v := nI (k + 1)) (lv' := [(4, .int (nI (k + 1))), (1, .int (nI (cntO (fun k => (zGa σ k).isSome) k) + (1 : Int32))), (5, .ref gaa_4), (0, .ref q.1), (2, .ref q.2.2.1), (3, .int (6 : Int32))]) hx hb dX4_gaugesThere_38 hl (k := 5) rfl (nI_1 k) (by decide) rfl (fun ls hl => ?_)
        refine lv_goto (tgt := 13) hx hb dX4_gaugesThere_41 (by decide) ?_
        rw [nI_1] at hl
        exact ih (k + 1) (by omega) ls (by rw [show cntO (fun k => (zGa σ k).isSome) (k + 1) = cntO (fun k => (zGa σ k).isSome) k + 1 from by rw [cntO, hp_3]; rfl]; exact lv_sub hl [3, 1, 4, 5, 0] rfl)
  exact key 6 0 rfl ls (lv_sub hl [4, 3, 2, 1, 0] rfl)
set_option maxHeartbeats 4000000 in
set_option maxRecDepth 100000 in
theorem mX4_racksThere (l : Launch) (dC : Nat → ClassId) (dI : Nat → Nat → Nat) (ad : Nat → Nat) (q : Aq) (cJ cG cK cR cI cZ cD : ClassId) (fr fg fk : Nat → Option Nat) (L : List Nat) (f : Nat → va_E) (ra rb ka kb : Nat → Nat) (hf : Nat → Nat → Option Nat) (σ : St) (hR : TRel ad cJ cG fr fg fk L f ra rb ka kb hf σ) (N0 : Nat) (hI : Inv σ N0) (hN : N0 ≤ 512)  : Met l yX4_racksThere wsX4_racksThere ({ frames := 0, cells := 0, slots := 0, locals := 0 }) (va_Pc [.ref q.1] (fun U => va_P (dC, dI) vwCl (TWs q cG cK cR fr fg fk (zTo σ) L f) U.heap ∧ va_K (dC, dI) vwCl (tys0 cJ cG cK cR cI cZ cD) U ∧ EN ad (fun _ => False) U U.heap)) (pQ (.int (nI (cntO (fun k => (zRk σ k).isSome) 3)))) 0 0 (fun _ => False) := by
  refine Met.ofW (cc := cX4_racksThere) (maxL := 6) (ret := (some .int)) (by decide) rfl ?_
  intro p e s m args below meth c s₁ B hml hv
  obtain ⟨rfl, hP, hK, hE⟩ := hv
  have hx := B.exec
  have hb := B.bytes
  have hr := B.returns
  have hts := atoms_spec (ws := wsX4_racksThere) B.pre
  have hown : s.vm.findClass RX4 = some m.cls := findClass_of_methodNamed B.named
  have hlocks := B.notSynchronized
  have hN1 := hI.1
  have hN2 := hI.2.1
  have hS : va_S (fun _ => False) s.heap s.heap [] := va_S.rf
  have hl := lv_entry ([.ref q.1]) (n := 6) (Nat.le_of_ble_eq_true rfl)
  rw [lg_entry_eq]
  generalize (lg_sl ([.ref q.1]) ++ List.replicate (6 - (lg_sl ([.ref q.1])).length) Slot.unset).toArray = ls at hl ⊢
  have hl : lv_has ls 6 [(0, .ref q.1)] := hl
  refine lv_iconst (v := 0) hx hb dX4_racksThere_0 (by decide) ?_
  refine lv_istore_n (lv' := [(1, .int (0 : Int32)), (0, .ref q.1)]) hx hb dX4_racksThere_1 rfl hl (by decide) rfl (fun ls hl => ?_)
  refine lv_aload_n hx hb dX4_racksThere_2 rfl (lv_at hl 1 rfl) ?_
  refine va_get (D := (dC, dI)) (ci := 4) (v := .ref q.2.2.2) (C := RX4) (T := TX4) (N := 4) hx hb hts (fun w h => List.mem_cons_of_mem _ (List.mem_append_right _ h)) hown hK hP 0 rfl rfl 2 (by decide) (hts (.fieldLink RX4 23 "TideGauges" "racks" "[LTideGauges$Rack;") (List.mem_of_getElem? (i := 1) rfl)) (fun _ h9 => h9) rfl dX4_racksThere_3 ?_
  refine lv_astore_n (lv' := [(2, .ref q.2.2.2), (1, .int (0 : Int32)), (0, .ref q.1)]) hx hb dX4_racksThere_6 rfl hl (by decide) rfl (fun ls hl => ?_)
  refine lv_aload_n hx hb dX4_racksThere_7 rfl (lv_at hl 0 rfl) ?_
  refine va_alen hx hb hK hP 3 2 rfl rfl (v := (3 : Int32)) rfl dX4_racksThere_8 ?_
  refine lv_istore_n (lv' := [(3, .int (3 : Int32)), (2, .ref q.2.2.2), (1, .int (0 : Int32)), (0, .ref q.1)]) hx hb dX4_racksThere_9 rfl hl (by decide) rfl (fun ls hl => ?_)
  refine lv_iconst (v := 0) hx hb dX4_racksThere_10 (by decide) ?_
  refine lv_istore (lv' := [(4, .int (0 : Int32)), (3, .int (3 : Int32)), (2, .ref q.2.2.2), (1, .int (0 : Int32)), (0, .ref q.1)]) hx hb dX4_racksThere_11 hl (by decide) rfl (fun ls hl => ?_)
  have key : ∀ (r k : Nat), r + k = 3 → ∀ ls : Array Slot, lv_has ls 6 [(0, .ref q.1), (1, .int (nI (cntO (fun k => (zRk σ k).isSome) k))), (2, .ref q.2.2.2), (3, .int (3 : Int32)), (4, .int (nI k))] → W p l e (headSpec wsX4_racksThere ({ frames := 0, cells := 0, slots := 0, locals := 0 })).room s m ([.ref q.1] : List Value).toArray below meth c s.heap [] 0 0 (MQ below (pQ (.int (nI (cntO (fun k => (zRk σ k).isSome) 3)))) ([.ref q.1] : List Value).toArray s 0 0 (fun _ => False)) (F0 m 13 ls []) := by
    intro r
    induction r with
    | zero =>
      intro k hk ls hl
      obtain rfl : k = 3 := by omega
      refine lv_iload hx hb dX4_racksThere_13 (lv_at hl 4 rfl) ?_
      refine lv_iload_n hx hb dX4_racksThere_15 rfl (lv_at hl 3 rfl) ?_
      refine lv_icmp_ge (tgt := 44) hx hb dX4_racksThere_16 (by decide) (fun c_1 => ?_) (fun c_1 => ?_)
      rotate_left
      · exact absurd (by decide) c_1
      refine lv_iload_n hx hb dX4_racksThere_44 rfl (lv_at hl 1 rfl) ?_
      exact W.iret hx hb hr (fun t ht hW => ⟨rfl, ht⟩) (fun q h => absurd h List.not_mem_nil) dX4_racksThere_45
    | succ r ih =>
      intro k hk ls hl
      refine lv_iload hx hb dX4_racksThere_13 (lv_at hl 4 rfl) ?_
      refine lv_iload_n hx hb dX4_racksThere_15 rfl (lv_at hl 3 rfl) ?_
      refine lv_icmp_ge (tgt := 44) hx hb dX4_racksThere_16 (by decide) (fun c_2 => ?_) (fun c_2 => ?_)
      · exact absurd c_2 (nI_ge (a := k) (b := 3) (by omega) (by decide))
      refine lv_aload_n hx hb dX4_racksThere_19 rfl (lv_at hl 2 rfl) ?_
      refine lv_iload hx hb dX4_racksThere_20 (lv_at hl 4 rfl) ?_
      rcases hp_3 : zRk σ k with _ | a_4
      · refine x_aldq (C := "TideGauges$Rack") hx hb hK hP 3 2 rfl rfl (k := k) rfl (by omega) (by decide) (v := .null) (by rw [tr_knone hR (by omega) hp_3]; rfl) dX4_racksThere_22 ?_
        refine lv_astoreN (lv' := [(5, .null), (0, .ref q.1), (1, .int (nI (cntO (fun k => (zRk σ k).isSome) k))), (2, .ref q.2.2.2), (3, .int (3 : Int32)), (4, .int (nI k))]) hx hb dX4_racksThere_23 hl (by decide) rfl (fun ls hl => ?_)
        refine lv_iload_n hx hb dX4_racksThere_25 rfl (lv_at hl 2 rfl) ?_
        refine lv_aloadN hx hb dX4_racksThere_26 (lv_at hl 0 rfl) ?_
        refine lv_ifnonnullN hx hb dX4_racksThere_28 ?_
        refine lv_iconst (v := 0) hx hb dX4_racksThere_31 (by decide) ?_
        refine lv_goto (tgt := 36) hx hb dX4_racksThere_32 (by decide) ?_
        refine lv_iadd hx hb dX4_racksThere_36 ?_
        refine lv_istore_n (lv' := [(1, .int (nI (cntO (fun k => (zRk σ k).isSome) k) + (0 : Int32))), (5, .null), (0, .ref q.1), (2, .ref q.2.2.2), (3, .int (3 : Int32)), (4, .int (nI k))]) hx hb dX4_racksThere_37 rfl hl (by decide) rfl (fun ls hl => ?_)
        refine lv_iinc (v := nI (k + 1)) (lv' := [(4, .int (nI (k + 1))), (1, .int (nI (cntO (fun k => (zRk σ k).isSome) k) + (0 : Int32))), (5, .null), (0, .ref q.1), (2, .ref q.2.2.2), (3, .int (3 : Int32))]) hx hb dX4_racksThere_38 hl (k := 5) rfl (nI_1 k) (by decide) rfl (fun ls hl => ?_)
        refine lv_goto (tgt := 13) hx hb dX4_racksThere_41 (by decide) ?_
        rw [Int32.add_zero] at hl
        exact ih (k + 1) (by omega) ls (by rw [show cntO (fun k => (zRk σ k).isSome) (k + 1) = cntO (fun k => (zRk σ k).isSome) k from by rw [cntO, hp_3]; rfl]; exact lv_sub hl [3, 1, 4, 5, 0] rfl)
      · obtain ⟨kek, kmk, kfk, lmk, lfk⟩ := tr_ksome hR (by omega) hp_3
        refine x_aldq (C := "TideGauges$Rack") hx hb hK hP 3 2 rfl rfl (k := k) rfl (by omega) (by decide) (v := .ref (ka k)) (by rw [kek]; rfl) dX4_racksThere_22 ?_
        refine lv_astore (lv' := [(5, .ref (ka k)), (0, .ref q.1), (1, .int (nI (cntO (fun k => (zRk σ k).isSome) k))), (2, .ref q.2.2.2), (3, .int (3 : Int32)), (4, .int (nI k))]) hx hb dX4_racksThere_23 hl (by decide) rfl (fun ls hl => ?_)
        refine lv_iload_n hx hb dX4_racksThere_25 rfl (lv_at hl 2 rfl) ?_
        refine lv_aload hx hb dX4_racksThere_26 (lv_at hl 0 rfl) ?_
        refine lv_ifnonnull (tgt := 35) hx hb dX4_racksThere_28 (by decide) ?_
        refine lv_iconst (v := 1) hx hb dX4_racksThere_35 (by decide) ?_
        refine lv_iadd hx hb dX4_racksThere_36 ?_
        refine lv_istore_n (lv' := [(1, .int (nI (cntO (fun k => (zRk σ k).isSome) k) + (1 : Int32))), (5, .ref (ka k)), (0, .ref q.1), (2, .ref q.2.2.2), (3, .int (3 : Int32)), (4, .int (nI k))]) hx hb dX4_racksThere_37 rfl hl (by decide) rfl (fun ls hl => ?_)
        refine lv_iinc (v := nI (k + 1)) (lv' := [(4, .int (nI (k + 1))), (1, .int (nI (cntO (fun k => (zRk σ k).isSome) k) + (1 : Int32))), (5, .ref (ka k)), (0, .ref q.1), (2, .ref q.2.2.2), (3, .int (3 : Int32))]) hx hb dX4_racksThere_38 hl (k := 5) rfl (nI_1 k) (by decide) rfl (fun ls hl => ?_)
        refine lv_goto (tgt := 13) hx hb dX4_racksThere_41 (by decide) ?_
        rw [nI_1] at hl
        exact ih (k + 1) (by omega) ls (by rw [show cntO (fun k => (zRk σ k).isSome) (k + 1) = cntO (fun k => (zRk σ k).isSome) k + 1 from by rw [cntO, hp_3]; rfl]; exact lv_sub hl [3, 1, 4, 5, 0] rfl)
  exact key 3 0 rfl ls (lv_sub hl [4, 3, 2, 1, 0] rfl)
theorem cnt_lt {σ : St} {x : Int32} (h0 : ¬ x = 0) (h1 : ¬ x = 1) (h2 : ¬ x = 2) (h : ¬ (11 : Int32) ≤ x) : itA σ (x - 3) = oCount σ x := by
  unfold itA oCount
  rw [if_neg h0, if_neg h1, if_neg h2]
  by_cases c : ixb (x - 3) 8 = true
  · rw [if_pos c, if_pos c]
  · rw [if_neg c, if_neg c, if_neg]
    unfold ixb
    rw [Int32.le_iff_toInt_le, show (11 : Int32).toInt = 11 from rfl] at h
    rw [Int32.toInt_sub, show (11 : Int32).toInt = 11 from rfl]
    have b1 := Int32.le_toInt x
    have b2 := Int32.toInt_lt x
    simp only [Bool.and_eq_true, decide_eq_true_eq]
    rw [Int.bmod_def]
    split <;> omega
theorem cnt_ge {σ : St} {x : Int32} (h0 : ¬ x = 0) (h1 : ¬ x = 1) (h2 : ¬ x = 2) (h : (11 : Int32) ≤ x) : kdA σ (x - 11) = oCount σ x := by
  unfold kdA oCount
  rw [if_neg h0, if_neg h1, if_neg h2, if_neg (show ¬ ixb (x - 3) 8 = true from by
    unfold ixb
    rw [Int32.le_iff_toInt_le, show (11 : Int32).toInt = 11 from rfl] at h
    rw [Int32.toInt_sub, show (3 : Int32).toInt = 3 from rfl]
    have b2 := Int32.toInt_lt x
    simp only [Bool.and_eq_true, decide_eq_true_eq]
    rw [Int.bmod_def]
    split <;> omega)]
set_option maxHeartbeats 4000000 in
set_option maxRecDepth 100000 in
theorem mX4_count (l : Launch) (dC : Nat → ClassId) (dI : Nat → Nat → Nat) (ad : Nat → Nat) (q : Aq) (cJ cG cK cR cI cZ cD : ClassId) (fr fg fk : Nat → Option Nat) (L : List Nat) (f : Nat → va_E) (ra rb ka kb : Nat → Nat) (hf : Nat → Nat → Option Nat) (σ : St) (hR : TRel ad cJ cG fr fg fk L f ra rb ka kb hf σ) (N0 : Nat) (hI : Inv σ N0) (hN : N0 ≤ 512) (x : Int32) : Met l yX4_count wsX4_count ({ frames := 2, cells := 0, slots := 0, locals := 42 }) (va_Pc [.ref q.1, .int x] (fun U => va_P (dC, dI) vwCl (TWs q cG cK cR fr fg fk (zTo σ) L f) U.heap ∧ va_K (dC, dI) vwCl (tys0 cJ cG cK cR cI cZ cD) U ∧ EN ad (fun _ => False) U U.heap)) (pQ (.int (oCount σ x))) 0 0 (fun _ => False) := by
  refine Met.ofW (cc := cX4_count) (maxL := 2) (ret := (some .int)) (by decide) rfl ?_
  intro p e s m args below meth c s₁ B hml hv
  obtain ⟨rfl, hP, hK, hE⟩ := hv
  have hx := B.exec
  have hb := B.bytes
  have hr := B.returns
  have hts := atoms_spec (ws := wsX4_count) B.pre
  have hown : s.vm.findClass RX4 = some m.cls := findClass_of_methodNamed B.named
  have hlocks := B.notSynchronized
  have hN1 := hI.1
  have hN2 := hI.2.1
  have hS : va_S (fun _ => False) s.heap s.heap [] := va_S.rf
  have hl := lv_entry ([.ref q.1, .int x]) (n := 2) (Nat.le_of_ble_eq_true rfl)
  rw [lg_entry_eq]
  generalize (lg_sl ([.ref q.1, .int x]) ++ List.replicate (2 - (lg_sl ([.ref q.1, .int x])).length) Slot.unset).toArray = ls at hl ⊢
  have hl : lv_has ls 2 [(0, .ref q.1), (1, .int x)] := hl
  refine lv_iload_n hx hb dX4_count_0 rfl (lv_at hl 1 rfl) ?_
  by_cases c_1 : x = 0
  · refine lv_tableIn (off := 27) (tgt := 28) hx hb dX4_count_1 (by rw [c_1]; decide) (by rw [c_1]; decide) (by rw [c_1]; rfl) (by decide) ?_
    refine lv_aload_n hx hb dX4_count_28 rfl (lv_at hl 0 rfl) ?_
    refine ct_w (q0 := 0) (As := []) (rest := []) ⟨hx, hb, hml, hown, hts⟩ (mX4_rowsThere l dC dI ad q cJ cG cK cR cI cZ cD fr fg fk L f ra rb ka kb hf σ hR N0 hI hN ) (cwV 0 hts gX4_count_X4_rowsThere rfl rfl rfl (by decide +kernel) ⟨Nat.le_of_ble_eq_true rfl, Nat.le_of_ble_eq_true rfl⟩) hK hP hE hS rfl rfl rfl rfl hl.1 (Nat.le_of_ble_eq_true rfl) dX4_count_29 (Nat.zero_le _) (Nat.zero_le _) ?_
    exact W.iret hx hb hr (fun t ht hW => ⟨(by unfold oCount; simp only [if_pos c_1]; try rfl), ht⟩) (fun q h => absurd h List.not_mem_nil) dX4_count_32
  · by_cases c_2 : x = 1
    · refine lv_tableIn (off := 32) (tgt := 33) hx hb dX4_count_1 (by rw [c_2]; decide) (by rw [c_2]; decide) (by rw [c_2]; rfl) (by decide) ?_
      refine lv_aload_n hx hb dX4_count_33 rfl (lv_at hl 0 rfl) ?_
      refine ct_w (q0 := 0) (As := []) (rest := []) ⟨hx, hb, hml, hown, hts⟩ (mX4_gaugesThere l dC dI ad q cJ cG cK cR cI cZ cD fr fg fk L f ra rb ka kb hf σ hR N0 hI hN ) (cwV 0 hts gX4_count_X4_gaugesThere rfl rfl rfl (by decide +kernel) ⟨Nat.le_of_ble_eq_true rfl, Nat.le_of_ble_eq_true rfl⟩) hK hP hE hS rfl rfl rfl rfl hl.1 (Nat.le_of_ble_eq_true rfl) dX4_count_34 (Nat.zero_le _) (Nat.zero_le _) ?_
      exact W.iret hx hb hr (fun t ht hW => ⟨(by unfold oCount; simp only [if_neg c_1, if_pos c_2]; try rfl), ht⟩) (fun q h => absurd h List.not_mem_nil) dX4_count_37
    · by_cases c_3 : x = 2
      · refine lv_tableIn (off := 37) (tgt := 38) hx hb dX4_count_1 (by rw [c_3]; decide) (by rw [c_3]; decide) (by rw [c_3]; rfl) (by decide) ?_
        refine lv_aload_n hx hb dX4_count_38 rfl (lv_at hl 0 rfl) ?_
        refine ct_w (q0 := 0) (As := []) (rest := []) ⟨hx, hb, hml, hown, hts⟩ (mX4_racksThere l dC dI ad q cJ cG cK cR cI cZ cD fr fg fk L f ra rb ka kb hf σ hR N0 hI hN ) (cwV 0 hts gX4_count_X4_racksThere rfl rfl rfl (by decide +kernel) ⟨Nat.le_of_ble_eq_true rfl, Nat.le_of_ble_eq_true rfl⟩) hK hP hE hS rfl rfl rfl rfl hl.1 (Nat.le_of_ble_eq_true rfl) dX4_count_39 (Nat.zero_le _) (Nat.zero_le _) ?_
        exact W.iret hx hb hr (fun t ht hW => ⟨(by unfold oCount; simp only [if_neg c_1, if_neg c_2, if_pos c_3]; try rfl), ht⟩) (fun q h => absurd h List.not_mem_nil) dX4_count_42
      · refine lv_tableOut (tgt := 43) hx hb dX4_count_1 (by have g0 := lv_neT c_1 (a := 0) rfl; have g1 := lv_neT c_2 (a := 1) rfl; have g2 := lv_neT c_3 (a := 2) rfl; omega) (by decide) ?_
        refine lv_iload_n hx hb dX4_count_43 rfl (lv_at hl 1 rfl) ?_
        refine lv_bipush (v := 11) hx hb dX4_count_44 (by decide) ?_
        refine lv_icmp_ge (tgt := 59) hx hb dX4_count_46 (by decide) (fun c_4 => ?_) (fun c_4 => ?_)
        · refine lv_aload_n hx hb dX4_count_59 rfl (lv_at hl 0 rfl) ?_
          refine lv_iload_n hx hb dX4_count_60 rfl (lv_at hl 1 rfl) ?_
          refine lv_bipush (v := 11) hx hb dX4_count_61 (by decide) ?_
          refine lv_isub hx hb dX4_count_63 ?_
          refine ct_w (q0 := 0) (As := [.int (x - (11 : Int32))]) (rest := []) ⟨hx, hb, hml, hown, hts⟩ (mX4_kindAt l dC dI ad q cJ cG cK cR cI cZ cD fr fg fk L f ra rb ka kb hf σ hR N0 hI hN (x - (11 : Int32))) (cwV 1 hts gX4_count_X4_kindAt rfl rfl rfl (by decide +kernel) ⟨Nat.le_of_ble_eq_true rfl, Nat.le_of_ble_eq_true rfl⟩) hK hP hE hS rfl rfl rfl rfl hl.1 (Nat.le_of_ble_eq_true rfl) dX4_count_64 (Nat.zero_le _) (Nat.zero_le _) ?_
          exact W.iret hx hb hr (fun t ht hW => ⟨(by rw [cnt_ge c_1 c_2 c_3 c_4]), ht⟩) (fun q h => absurd h List.not_mem_nil) dX4_count_67
        · refine lv_aload_n hx hb dX4_count_49 rfl (lv_at hl 0 rfl) ?_
          refine lv_iload_n hx hb dX4_count_50 rfl (lv_at hl 1 rfl) ?_
          refine lv_iconst (v := 3) hx hb dX4_count_51 (by decide) ?_
          refine lv_isub hx hb dX4_count_52 ?_
          refine ct_w (q0 := 0) (As := [.int (x - (3 : Int32))]) (rest := []) ⟨hx, hb, hml, hown, hts⟩ (mX4_itemsAt l dC dI ad q cJ cG cK cR cI cZ cD fr fg fk L f ra rb ka kb hf σ hR N0 hI hN (x - (3 : Int32))) (cwV 1 hts gX4_count_X4_itemsAt rfl rfl rfl (by decide +kernel) ⟨Nat.le_of_ble_eq_true rfl, Nat.le_of_ble_eq_true rfl⟩) hK hP hE hS rfl rfl rfl rfl hl.1 (Nat.le_of_ble_eq_true rfl) dX4_count_53 (Nat.zero_le _) (Nat.zero_le _) ?_
          refine lv_goto (tgt := 67) hx hb dX4_count_56 (by decide) ?_
          exact W.iret hx hb hr (fun t ht hW => ⟨(by rw [cnt_lt c_1 c_2 c_3 c_4]), ht⟩) (fun q h => absurd h List.not_mem_nil) dX4_count_67
theorem bits_0 (w : Bool) : fX5_bitsOf w FP.dconst0 = 0 := by cases w <;> decide +kernel
set_option maxHeartbeats 8000000 in
set_option maxRecDepth 100000 in
theorem mX4_sum (l : Launch) (dC : Nat → ClassId) (dI : Nat → Nat → Nat) (ad : Nat → Nat) (q : Aq) (cJ cG cK cR cI cZ cD : ClassId) (fr fg fk : Nat → Option Nat) (L : List Nat) (f : Nat → va_E) (ra rb ka kb : Nat → Nat) (hf : Nat → Nat → Option Nat) (σ : St) (hR : TRel ad cJ cG fr fg fk L f ra rb ka kb hf σ) (N0 : Nat) (hI : Inv σ N0) (hN : N0 ≤ 512) (sz : Nat) (x : Int32) (w : Bool) (fm : Int32) (n : Int32) : Met l yX4_sum wsX4_sum ({ frames := 3, cells := 0, slots := 0, locals := 91 }) (va_Pc [.ref q.1, .int x, .int (b2i w), .int fm, .int n] (fun U => U.heap.size = sz ∧ va_P (dC, dI) vwCl (TWs q cG cK cR fr fg fk (zTo σ) L f) U.heap ∧ va_K (dC, dI) vwCl (tys0 cJ cG cK cR cI cZ cD) U ∧ va_D (fun _ => True) (TWs q cG cK cR fr fg fk (zTo σ) L f) ∧ EN ad (va_A (TWs q cG cK cR fr fg fk (zTo σ) L f) sz) U U.heap)) (va_Qi (fun (r : Int32) (τ : St) => (r, τ) = oSum σ x w fm n) (fun τ t => TP dC dI ad cJ cG cK cR (va_A (TWs q cG cK cR fr fg fk (zTo σ) L f) sz) q.1 τ t) (va_A (TWs q cG cK cR fr fg fk (zTo σ) L f) sz)) 0 0 (va_A (TWs q cG cK cR fr fg fk (zTo σ) L f) sz) := by
  refine Met.ofW (cc := cX4_sum) (maxL := 12) (ret := (some .int)) (by decide) rfl ?_
  intro p e s m args below meth c s₁ B hml hv
  obtain ⟨rfl, hsz, hP, hK, hD0, hE⟩ := hv
  have hx := B.exec
  have hb := B.bytes
  have hr := B.returns
  have hts := atoms_spec (ws := wsX4_sum) B.pre
  have hown : s.vm.findClass RX4 = some m.cls := findClass_of_methodNamed B.named
  have hlocks := B.notSynchronized
  have hN1 := hI.1
  have hN2 := hI.2.1
  subst hsz
  have hD := hD0.self (sz := s.heap.size)
  generalize hAe : va_A (TWs q cG cK cR fr fg fk (zTo σ) L f) s.heap.size = A at hD hE ⊢
  have hA : ∀ z : Nat, s.heap.size ≤ z → A z := fun z h => by rw [← hAe]; exact Or.inr h
  have hS : va_S A s.heap s.heap [] := va_S.rf
  have hl := lv_entry ([.ref q.1, .int x, .int (b2i w), .int fm, .int n]) (n := 12) (Nat.le_of_ble_eq_true rfl)
  rw [lg_entry_eq]
  generalize (lg_sl ([.ref q.1, .int x, .int (b2i w), .int fm, .int n]) ++ List.replicate (12 - (lg_sl ([.ref q.1, .int x, .int (b2i w), .int fm, .int n])).length) Slot.unset).toArray = ls at hl ⊢
  have hl : lv_has ls 12 [(0, .ref q.1), (1, .int x), (2, .int (b2i w)), (3, .int fm), (4, .int n)] := hl
  refine lv_iload_n hx hb dX4_sum_0 rfl (lv_at hl 1 rfl) ?_
  refine lv_bipush (v := 8) hx hb dX4_sum_1 (by decide) ?_
  refine cs_0 (As := [.int x, .int (8 : Int32)]) (rest := []) ⟨hx, hb, hml, hown, hts⟩ (mX4_isBelowN l x (8 : Int32) 8 rfl (by decide)) (va_cwS 2 hts gX4_sum_X4_isBelow rfl rfl rfl (by decide +kernel) ⟨Nat.le_of_ble_eq_true rfl, Nat.le_of_ble_eq_true rfl⟩) rfl rfl hl.1 (Nat.le_of_ble_eq_true rfl) dX4_sum_3 (Nat.zero_le _) (Nat.zero_le _) ?_
  refine w_beq (tgt := 14) hx hb dX4_sum_6 (by decide) (fun c_1 => ?_) (fun c_1 => ?_)
  · refine lv_iconst (v := -1) hx hb dX4_sum_14 (by decide) ?_
    exact W.iret hx hb hr (fun t ht hW => ⟨⟨_, σ, rfl, (by unfold oSum; (try simp only [if_neg c_1, Option.getD_some, reduceCtorEq, if_true, if_false, Option.isNone_some, Option.isNone_none, Bool.false_or, Bool.true_or, Bool.not_true, Bool.not_false]); try rfl), ⟨_, _, _, _, _, _, _, _, _, _, _, rfl, by rw [ht]; exact hP, hD, hR⟩⟩, hS.F ht⟩) hS.2.2 dX4_sum_15
  · obtain ⟨kx, hkx, rfl⟩ := ixb_some c_1 (by decide)
    refine lv_iload hx hb dX4_sum_9 (lv_at hl 4 rfl) ?_
    refine lv_if_ge (tgt := 16) hx hb dX4_sum_11 (by decide) (fun c_2 => ?_) (fun c_2 => ?_)
    · obtain ⟨kn, hkn, rfl⟩ := nI_of (x := n) (fun z => by rw [Int32.lt_iff_toInt_lt] at z; rw [Int32.le_iff_toInt_le] at c_2; exact absurd c_2 (Int.not_le.mpr z))
      have hnn : ¬ (nI kn) < 0 := nI_pos (by omega)
      refine lv_aload_n hx hb dX4_sum_16 rfl (lv_at hl 0 rfl) ?_
      refine lv_iload_n hx hb dX4_sum_17 rfl (lv_at hl 1 rfl) ?_
      refine lv_iload_n hx hb dX4_sum_18 rfl (lv_at hl 2 rfl) ?_
      refine ct_w (q0 := 0) (As := [.int (nI kx), .int (b2i w)]) (rest := []) ⟨hx, hb, hml, hown, hts⟩ (mX4_failureOfRow l dC dI ad q cJ cG cK cR cI cZ cD fr fg fk L f ra rb ka kb hf σ hR N0 hI hN kx (by omega) w) (cwV 2 hts gX4_sum_X4_failureOfRow rfl rfl rfl (by decide +kernel) ⟨Nat.le_of_ble_eq_true rfl, Nat.le_of_ble_eq_true rfl⟩) hK hP hE hS rfl rfl rfl rfl hl.1 (Nat.le_of_ble_eq_true rfl) dX4_sum_19 (Nat.zero_le _) (Nat.zero_le _) ?_
      refine lv_istore (lv' := [(5, .int (fl (askR σ kx w))), (0, .ref q.1), (1, .int (nI kx)), (2, .int (b2i w)), (3, .int fm), (4, .int (nI kn))]) hx hb dX4_sum_22 hl (by decide) rfl (fun ls hl => ?_)
      refine lv_iload hx hb dX4_sum_24 (lv_at hl 0 rfl) ?_
      refine lv_if_eq (tgt := 32) hx hb dX4_sum_26 (by decide) (fun c_3 => ?_) (fun c_3 => ?_)
      · have gc_3 := fl_R c_3
        obtain ⟨akx, hpakx, hwakx⟩ := askR_0 gc_3
        have hbakx := hI.2.2.1 _ _ hpakx
        have hsakx := hI.2.2.2.1 akx
        obtain ⟨reakx, rmakx, rfakx, imakx, jfakx⟩ := tr_some hR (by omega) hpakx hbakx
        refine lv_iload_n hx hb dX4_sum_32 rfl (lv_at hl 3 rfl) ?_
        refine cs_w (As := [.int (b2i w)]) (rest := []) ⟨hx, hb, hml, hown, hts⟩ (mX4_widthOf l ad w) (va_cwS 1 hts gX4_sum_X4_widthOf rfl rfl rfl (by decide +kernel) ⟨Nat.le_of_ble_eq_true rfl, Nat.le_of_ble_eq_true rfl⟩) hE hS rfl rfl hl.1 (Nat.le_of_ble_eq_true rfl) dX4_sum_33 (Nat.zero_le _) (Nat.zero_le _) ?_
        refine lv_astore (lv' := [(6, .ref (ad (fX4_widthOf w))), (5, .int (fl (askR σ kx w))), (0, .ref q.1), (1, .int (nI kx)), (2, .int (b2i w)), (3, .int fm), (4, .int (nI kn))]) hx hb dX4_sum_36 hl (by decide) rfl (fun ls hl => ?_)
        refine lv_aload_n hx hb dX4_sum_38 rfl (lv_at hl 2 rfl) ?_
        refine va_get (D := (dC, dI)) (ci := 4) (v := .ref q.2.1) (C := RX4) (T := TX4) (N := 4) hx hb hts (fun w h => List.mem_cons_of_mem _ (List.mem_append_left _ (List.mem_append_right _ h))) hown hK hP 0 rfl rfl 0 (by decide) (hts (.fieldLink RX4 11 "TideGauges" "rows" "[LTideGauges$Row;") (List.mem_of_getElem? (i := 1) rfl)) (fun _ h9 => h9) rfl dX4_sum_39 ?_
        refine lv_iload_n hx hb dX4_sum_42 rfl (lv_at hl 3 rfl) ?_
        refine x_aldq (C := "TideGauges$Row") hx hb hK hP 1 3 rfl rfl (k := kx) rfl (by omega) (by decide) (v := .ref (ra akx)) (by rw [reakx]; rfl) dX4_sum_43 ?_
        refine pl_get (ci := 2) (v := .ref (rb akx)) (C := RX2) (T := TX2) (N := 2) hx hb hts (fun w h => List.mem_cons_of_mem _ (List.mem_append_right _ h)) hown hK hP rmakx rfakx rfl 1 (by decide) (hts (.fieldLink RX4 52 "TideGauges$Row" "items" "[J") (List.mem_of_getElem? (i := 2) rfl)) (fun _ h9 => h9) rfl dX4_sum_44 ?_
        refine lv_astore (lv' := [(7, .ref (rb akx)), (6, .ref (ad (fX4_widthOf w))), (5, .int (fl (askR σ kx w))), (0, .ref q.1), (1, .int (nI kx)), (2, .int (b2i w)), (3, .int fm), (4, .int (nI kn))]) hx hb dX4_sum_47 hl (by decide) rfl (fun ls hl => ?_)
        refine lv_lconst (v := 0) hx hb dX4_sum_49 (by decide) ?_
        refine lv_lstore (lv' := [(8, .long (0 : Int64)), (7, .ref (rb akx)), (6, .ref (ad (fX4_widthOf w))), (5, .int (fl (askR σ kx w))), (0, .ref q.1), (1, .int (nI kx)), (2, .int (b2i w)), (3, .int fm), (4, .int (nI kn))]) hx hb dX4_sum_50 hl (by decide) rfl (fun ls hl => ?_)
        refine lv_iconst (v := 0) hx hb dX4_sum_52 (by decide) ?_
        refine lv_istore (lv' := [(10, .int (0 : Int32)), (8, .long (0 : Int64)), (7, .ref (rb akx)), (6, .ref (ad (fX4_widthOf w))), (5, .int (fl (askR σ kx w))), (0, .ref q.1), (1, .int (nI kx)), (2, .int (b2i w)), (3, .int fm), (4, .int (nI kn))]) hx hb dX4_sum_53 hl (by decide) rfl (fun ls hl => ?_)
        have hitm : itm σ kx = zRi σ akx := by unfold itm; rw [hpakx]; rfl
        have key : ∀ (r k : Nat) (all : UInt64), r + k = kn → FV w all → sumL w (zRi σ akx) (zRn σ akx) fm kn 0 FP.dconst0 = sumL w (zRi σ akx) (zRn σ akx) fm r k all → ∀ ls : Array Slot, lv_has ls 12 [(0, .ref q.1), (3, .int fm), (4, .int (nI kn)), (6, .ref (ad (fX4_widthOf w))), (7, .ref (rb akx)), (8, .long (fX5_bitsOf w all)), (10, .int (nI k))] → W p l e (headSpec wsX4_sum ({ frames := 3, cells := 0, slots := 0, locals := 91 })).room s m ([.ref q.1, .int (nI kx), .int (b2i w), .int fm, .int (nI kn)] : List Value).toArray below meth c s.heap [] 0 0 (MQ below (va_Qi (fun (r : Int32) (τ : St) => (r, τ) = oSum σ (nI kx) w fm (nI kn)) (fun τ t => TP dC dI ad cJ cG cK cR A q.1 τ t) A) ([.ref q.1, .int (nI kx), .int (b2i w), .int fm, .int (nI kn)] : List Value).toArray s 0 0 A) (F0 m 55 ls []) := by
          intro r
          induction r with
          | zero =>
            intro k all hk hfa hsf ls hl
            refine lv_iload hx hb dX4_sum_55 (lv_at hl 6 rfl) ?_
            refine lv_iload hx hb dX4_sum_57 (lv_at hl 2 rfl) ?_
            refine lv_icmp_ge (tgt := 120) hx hb dX4_sum_59 (by decide) (fun c_4 => ?_) (fun c_4 => ?_)
            rotate_left
            · exact absurd (nI_le (a := kn) (b := k) (by omega) (by omega)) c_4
            refine lv_aload_n hx hb dX4_sum_120 rfl (lv_at hl 0 rfl) ?_
            refine lv_lload hx hb dX4_sum_121 (lv_at hl 5 rfl) ?_
            refine lv_topl (fun z_5 hz_5 => ?_)
            refine ct_s (mc := 0) (ms := 0) (q0 := 0) (As := [.long z_5]) (rest := []) ⟨hx, hb, hml, hown, hts⟩ (mX4_tell l dC dI (tys0 cJ cG cK cR cI cZ cD) (TWs q cG cK cR fr fg fk (zTo σ) L f) q.1 (.ref q.2.1) (.ref q.2.2.1) (.ref q.2.2.2) (zTo σ) _ z_5 rfl) (cwV 1 hts gX4_sum_X4_tell rfl rfl rfl (by decide +kernel) ⟨Nat.le_of_ble_eq_true rfl, Nat.le_of_ble_eq_true rfl⟩) hK hP hD hS hA rfl rfl rfl rfl hl.1 (Nat.le_of_ble_eq_true rfl) dX4_sum_123 ⟨Nat.le_of_ble_eq_true rfl, Nat.le_of_ble_eq_true rfl⟩ (fun r1 u1 t1 H1 locs1 ht1 hr1 hB1 hS1 => ?_)
            obtain rfl := hr1
            rw [ht1] at hB1
            have hD2 := hB1.2.weaken (fun _ _ _ h9 => fr_all hD hS hA _ h9)
            have hP := hB1.1
            have hD := hD2
            have hS := hS1
            have hP : va_P (dC, dI) vwCl (TWs q cG cK cR fr fg fk z_5 L f) _ := hP
            have hD : va_D A (TWs q cG cK cR fr fg fk z_5 L f) := hD
            have hR : TRel ad cJ cG fr fg fk L f ra rb ka kb hf (uTo σ z_5) := TRel_to hR z_5
            exact W.iret hx hb hr (fun t ht hW => ⟨⟨_, (uTo σ z_5), rfl, (by unfold oSum; simp only [if_pos c_1, if_neg hnn, if_pos c_3, if_pos gc_3, nI_clamp (show kx < 2 ^ 31 by omega), nI_clamp (show kn < 2 ^ 31 by omega), hpakx, hz_5, Option.getD_some, reduceCtorEq, if_true, if_false, Option.isNone_some, Option.isNone_none, Bool.false_or, Bool.true_or, Bool.not_true, Bool.not_false, hitm, hsf]; unfold sumL; (try simp only [hz_5]); rfl), ⟨_, _, _, _, _, _, _, _, _, _, _, rfl, by rw [ht]; exact hP, hD, hR⟩⟩, hS.F ht⟩) hS.2.2 dX4_sum_126
          | succ r ih =>
            intro k all hk hfa hsf ls hl
            refine lv_iload hx hb dX4_sum_55 (lv_at hl 6 rfl) ?_
            refine lv_iload hx hb dX4_sum_57 (lv_at hl 2 rfl) ?_
            refine lv_icmp_ge (tgt := 120) hx hb dX4_sum_59 (by decide) (fun c_6 => ?_) (fun c_6 => ?_)
            · exact absurd c_6 (nI_ge (a := k) (b := kn) (by omega) (by omega))
            refine lv_iload_n hx hb dX4_sum_62 rfl (lv_at hl 1 rfl) ?_
            refine lv_iload hx hb dX4_sum_63 (lv_at hl 6 rfl) ?_
            refine lv_iadd hx hb dX4_sum_65 ?_
            refine lv_istore (lv' := [(11, .int (fm + nI k)), (0, .ref q.1), (3, .int fm), (4, .int (nI kn)), (6, .ref (ad (fX4_widthOf w))), (7, .ref (rb akx)), (8, .long (fX5_bitsOf w all)), (10, .int (nI k))]) hx hb dX4_sum_66 hl (by decide) rfl (fun ls hl => ?_)
            refine lv_iload hx hb dX4_sum_68 (lv_at hl 0 rfl) ?_
            refine lv_aload hx hb dX4_sum_70 (lv_at hl 5 rfl) ?_
            refine pl_alen hx hb hK hP 0 imakx jfakx rfl (v := nI (zRn σ akx)) rfl dX4_sum_72 ?_
            refine cs_0 (As := [.int (fm + nI k), .int (nI (zRn σ akx))]) (rest := []) ⟨hx, hb, hml, hown, hts⟩ (mX4_isBelowN l (fm + nI k) (nI (zRn σ akx)) (zRn σ akx) rfl (by omega)) (va_cwS 2 hts gX4_sum_X4_isBelow rfl rfl rfl (by decide +kernel) ⟨Nat.le_of_ble_eq_true rfl, Nat.le_of_ble_eq_true rfl⟩) rfl rfl hl.1 (Nat.le_of_ble_eq_true rfl) dX4_sum_73 (Nat.zero_le _) (Nat.zero_le _) ?_
            refine w_bne (tgt := 82) hx hb dX4_sum_76 (by decide) (fun c_7 => ?_) (fun c_7 => ?_)
            · obtain ⟨ki, hki, eki⟩ := ixb_some c_7 (by omega)
              rw [eki] at hl
              refine lv_aload hx hb dX4_sum_82 (lv_at hl 4 rfl) ?_
              refine lv_lload hx hb dX4_sum_84 (lv_at hl 6 rfl) ?_
              refine lv_aload hx hb dX4_sum_86 (lv_at hl 5 rfl) ?_
              refine lv_iload hx hb dX4_sum_88 (lv_at hl 0 rfl) ?_
              refine pl_lald hx hb hK hP 0 imakx jfakx rfl (k := ki) rfl (by omega) (by omega) (v := (zRi σ akx ki)) rfl dX4_sum_90 ?_
              refine cv_w (As := [.long (fX5_bitsOf w all), .long (zRi σ akx ki)]) (rest := []) ⟨hx, hb, hml, hown, hts⟩ (mX3_areUnlikeEndless l ad (fX4_widthOf w) (wi_lt _) (fX5_bitsOf w all) (zRi σ akx ki)) (cwV 2 hts gX4_sum_X3_areUnlikeEndless rfl rfl rfl (by decide +kernel) ⟨Nat.le_of_ble_eq_true rfl, Nat.le_of_ble_eq_true rfl⟩) hE hS (wi_lt _) rfl rfl hl.1 (Nat.le_of_ble_eq_true rfl) dX4_sum_91 (Nat.zero_le _) (Nat.zero_le _) ?_
              refine w_beq (tgt := 100) hx hb dX4_sum_94 (by decide) (fun c_8 => ?_) (fun c_8 => ?_)
              · have hu := c_8; rw [A_unl (A_okt hfa) (okt_of hI hwakx), A_back hfa] at hu
                refine lv_aload hx hb dX4_sum_100 (lv_at hl 4 rfl) ?_
                refine lv_lload hx hb dX4_sum_102 (lv_at hl 6 rfl) ?_
                refine lv_aload hx hb dX4_sum_104 (lv_at hl 5 rfl) ?_
                refine lv_iload hx hb dX4_sum_106 (lv_at hl 0 rfl) ?_
                refine pl_lald hx hb hK hP 0 imakx jfakx rfl (k := ki) rfl (by omega) (by omega) (v := (zRi σ akx ki)) rfl dX4_sum_108 ?_
                refine cv_w (As := [.long (fX5_bitsOf w all), .long (zRi σ akx ki)]) (rest := []) ⟨hx, hb, hml, hown, hts⟩ (mX3_added l ad (fX4_widthOf w) (wi_lt _) (fX5_bitsOf w all) (zRi σ akx ki)) (cwV 2 hts gX4_sum_X3_added rfl rfl rfl (by decide +kernel) ⟨Nat.le_of_ble_eq_true rfl, Nat.le_of_ble_eq_true rfl⟩) hE hS (wi_lt _) rfl rfl hl.1 (Nat.le_of_ble_eq_true rfl) dX4_sum_109 (Nat.zero_le _) (Nat.zero_le _) ?_
                rw [A_add (A_okt hfa) (okt_of hI hwakx) (by rw [A_back hfa]; exact hu), A_back hfa]
                refine lv_lstore (lv' := [(8, .long (fX5_bitsOf w (addN w all (fX5_number w (zRi σ akx ki))))), (11, .int (nI ki)), (0, .ref q.1), (3, .int fm), (4, .int (nI kn)), (6, .ref (ad (fX4_widthOf w))), (7, .ref (rb akx)), (10, .int (nI k))]) hx hb dX4_sum_112 hl (by decide) rfl (fun ls hl => ?_)
                refine lv_iinc (v := nI (k + 1)) (lv' := [(10, .int (nI (k + 1))), (8, .long (fX5_bitsOf w (addN w all (fX5_number w (zRi σ akx ki))))), (11, .int (nI ki)), (0, .ref q.1), (3, .int fm), (4, .int (nI kn)), (6, .ref (ad (fX4_widthOf w))), (7, .ref (rb akx))]) hx hb dX4_sum_114 hl (k := 7) rfl (nI_1 k) (by decide) rfl (fun ls hl => ?_)
                refine lv_goto (tgt := 55) hx hb dX4_sum_117 (by decide) ?_
                exact ih (k + 1) _ (by omega) (addN_fv hfa (num_fv (okt_of hI hwakx).1) hu) (by rw [hsf]; conv => lhs; unfold sumL; (rw [if_pos c_7, eki, nI_clamp (show ki < 2 ^ 31 by omega), if_neg hu])) ls (lv_sub hl [3, 4, 5, 6, 7, 1, 0] rfl)
              · have hu := c_8; rw [A_unl (A_okt hfa) (okt_of hI hwakx), A_back hfa] at hu
                refine lv_bipush (v := -14) hx hb dX4_sum_97 (by decide) ?_
                exact W.iret hx hb hr (fun t ht hW => ⟨⟨_, σ, rfl, (by unfold oSum; simp only [if_pos c_1, if_neg hnn, if_pos c_3, if_pos gc_3, nI_clamp (show kx < 2 ^ 31 by omega), nI_clamp (show kn < 2 ^ 31 by omega), hpakx, Option.getD_some, reduceCtorEq, if_true, if_false, Option.isNone_some, Option.isNone_none, Bool.false_or, Bool.true_or, Bool.not_true, Bool.not_false, hitm, hsf]; unfold sumL; rw [if_pos c_7, eki, nI_clamp (show ki < 2 ^ 31 by omega), if_pos hu]; dsimp only; rw [if_neg (by decide : ¬ (4 : Int32) = 0), show (-10 - 4 : Int32) = -14 from by decide]), ⟨_, _, _, _, _, _, _, _, _, _, _, rfl, by rw [ht]; exact hP, hD, hR⟩⟩, hS.F ht⟩) hS.2.2 dX4_sum_99
            · refine lv_bipush (v := -12) hx hb dX4_sum_79 (by decide) ?_
              exact W.iret hx hb hr (fun t ht hW => ⟨⟨_, σ, rfl, (by unfold oSum; simp only [if_pos c_1, if_neg hnn, if_pos c_3, if_pos gc_3, nI_clamp (show kx < 2 ^ 31 by omega), nI_clamp (show kn < 2 ^ 31 by omega), hpakx, Option.getD_some, reduceCtorEq, if_true, if_false, Option.isNone_some, Option.isNone_none, Bool.false_or, Bool.true_or, Bool.not_true, Bool.not_false, hitm, hsf]; unfold sumL; rw [if_neg c_7]; dsimp only; rw [if_neg (by decide : ¬ (2 : Int32) = 0), show (-10 - 2 : Int32) = -12 from by decide]), ⟨_, _, _, _, _, _, _, _, _, _, _, rfl, by rw [ht]; exact hP, hD, hR⟩⟩, hS.F ht⟩) hS.2.2 dX4_sum_81
        exact key kn 0 FP.dconst0 rfl (fv_0 w) rfl ls (by rw [bits_0]; exact lv_sub hl [5, 8, 9, 3, 2, 1, 0] rfl)
      · have gc_3 := fl_n c_3
        refine lv_iload hx hb dX4_sum_29 (lv_at hl 0 rfl) ?_
        exact W.iret hx hb hr (fun t ht hW => ⟨⟨_, σ, rfl, (by unfold oSum; (try simp only [if_pos c_1, if_neg hnn, if_neg c_3, if_neg gc_3.1, nI_clamp (show kx < 2 ^ 31 by omega), nI_clamp (show kn < 2 ^ 31 by omega), gc_3.2, Option.getD_some, reduceCtorEq, if_true, if_false, Option.isNone_some, Option.isNone_none, Bool.false_or, Bool.true_or, Bool.not_true, Bool.not_false]); try rfl), ⟨_, _, _, _, _, _, _, _, _, _, _, rfl, by rw [ht]; exact hP, hD, hR⟩⟩, hS.F ht⟩) hS.2.2 dX4_sum_31
    · have hnn : n < 0 := by rw [Int32.lt_iff_toInt_lt]; rw [Int32.le_iff_toInt_le] at c_2; exact Int.not_le.mp c_2
      refine lv_iconst (v := -1) hx hb dX4_sum_14 (by decide) ?_
      exact W.iret hx hb hr (fun t ht hW => ⟨⟨_, σ, rfl, (by unfold oSum; (try simp only [if_pos c_1, if_pos hnn, nI_clamp (show kx < 2 ^ 31 by omega), Option.getD_some, reduceCtorEq, if_true, if_false, Option.isNone_some, Option.isNone_none, Bool.false_or, Bool.true_or, Bool.not_true, Bool.not_false]); try rfl), ⟨_, _, _, _, _, _, _, _, _, _, _, rfl, by rw [ht]; exact hP, hD, hR⟩⟩, hS.F ht⟩) hS.2.2 dX4_sum_15
