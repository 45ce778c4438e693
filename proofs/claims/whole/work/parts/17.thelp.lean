theorem fl_n {x : Int32} (h : ¬ fl x = 0) : ¬ x = 0 ∧ fl x = -10 - x := by
  unfold fl at h ⊢
  by_cases q : x = 0
  · rw [if_pos q] at h; exact absurd rfl h
  · exact ⟨q, if_neg q⟩
theorem fl_Hn {σ : St} {r : Nat} {i : Int32} {X : Int32 × St} (h : ¬ fl (askH σ r i) = 0) : (fl (askH σ r i), σ) = (if zRk σ r = none then (-11, σ) else if ixb i 4 = true then X else (-12, σ)) := by
  unfold askH at h ⊢
  by_cases q : zRk σ r = none
  · rw [if_pos q, if_pos q]; rfl
  · rw [if_neg q] at h ⊢
    rw [if_neg q]
    by_cases q2 : ixb i 4 = true
    · rw [if_pos q2] at h; exact absurd rfl h
    · rw [if_neg q2, if_neg q2]; rfl
theorem okt_of {σ : St} {n a j : Nat} {w : Bool} (hI : Inv σ n) (h : zRw σ a = w) : okt w (zRi σ a j) := by subst h; exact hI.2.2.2.2.1 a j
set_option maxHeartbeats 4000000 in
set_option maxRecDepth 100000 in
theorem mX4_failureOfRow (l : Launch) (dC : Nat → ClassId) (dI : Nat → Nat → Nat) (ad : Nat → Nat) (q : Aq) (cJ cG cK cR cI cZ cD : ClassId) (fr fg fk : Nat → Option Nat) (L : List Nat) (f : Nat → va_E) (ra rb ka kb : Nat → Nat) (hf : Nat → Nat → Option Nat) (σ : St) (hR : TRel ad cJ cG fr fg fk L f ra rb ka kb hf σ) (N0 : Nat) (hI : Inv σ N0) (hN : N0 ≤ 512) (k : Nat) (hk : k < 8) (w : Bool) : Met l yX4_failureOfRow wsX4_failureOfRow ({ frames := 1, cells := 0, slots := 0, locals := 20 }) (va_Pc [.ref q.1, .int (nI k), .int (b2i w)] (fun U => va_P (dC, dI) vwCl (TWs q cG cK cR fr fg fk (zTo σ) L f) U.heap ∧ va_K (dC, dI) vwCl (tys0 cJ cG cK cR cI cZ cD) U ∧ EN ad (fun _ => False) U U.heap)) (pQ (.int (fl (askR σ k w)))) 0 0 (fun _ => False) := by
  refine Met.ofW (cc := cX4_failureOfRow) (maxL := 4) (ret := (some .int)) (by decide) rfl ?_
  intro p e s m args below meth c s₁ B hml hv
  obtain ⟨rfl, hP, hK, hE⟩ := hv
  have hx := B.exec
  have hb := B.bytes
  have hr := B.returns
  have hts := atoms_spec (ws := wsX4_failureOfRow) B.pre
  have hown : s.vm.findClass RX4 = some m.cls := findClass_of_methodNamed B.named
  have hlocks := B.notSynchronized
  have hN1 := hI.1
  have hN2 := hI.2.1
  have hS : va_S (fun _ => False) s.heap s.heap [] := va_S.rf
  have hl := lv_entry ([.ref q.1, .int (nI k), .int (b2i w)]) (n := 4) (Nat.le_of_ble_eq_true rfl)
  rw [lg_entry_eq]
  generalize (lg_sl ([.ref q.1, .int (nI k), .int (b2i w)]) ++ List.replicate (4 - (lg_sl ([.ref q.1, .int (nI k), .int (b2i w)])).length) Slot.unset).toArray = ls at hl ⊢
  have hl : lv_has ls 4 [(0, .ref q.1), (1, .int (nI k)), (2, .int (b2i w))] := hl
  refine lv_aload_n hx hb dX4_failureOfRow_0 rfl (lv_at hl 0 rfl) ?_
  refine va_get (D := (dC, dI)) (ci := 4) (v := .ref q.2.1) (C := RX4) (T := TX4) (N := 4) hx hb hts (fun w h => List.mem_cons_of_mem _ (List.mem_append_left _ (List.mem_append_right _ h))) hown hK hP 0 rfl rfl 0 (by decide) (hts (.fieldLink RX4 11 "TideGauges" "rows" "[LTideGauges$Row;") (List.mem_of_getElem? (i := 1) rfl)) (fun _ h9 => h9) rfl dX4_failureOfRow_1 ?_
  refine lv_iload_n hx hb dX4_failureOfRow_4 rfl (lv_at hl 1 rfl) ?_
  rcases hp_1 : zPl σ k with _ | a_2
  · refine x_aldq (C := "TideGauges$Row") hx hb hK hP 1 3 rfl rfl (k := k) rfl (by omega) (by decide) (v := .null) (by rw [tr_none hR (by omega) hp_1]; rfl) dX4_failureOfRow_5 ?_
    refine lv_astore_nN (lv' := [(3, .null), (0, .ref q.1), (1, .int (nI k)), (2, .int (b2i w))]) hx hb dX4_failureOfRow_6 rfl hl (by decide) rfl (fun ls hl => ?_)
    refine lv_aload_nN hx hb dX4_failureOfRow_7 rfl (lv_at hl 0 rfl) ?_
    refine lv_ifnonnullN hx hb dX4_failureOfRow_8 ?_
    refine lv_bipush (v := -11) hx hb dX4_failureOfRow_11 (by decide) ?_
    exact W.iret hx hb hr (fun t ht hW => ⟨(by unfold askR; simp only [hp_1, reduceCtorEq, if_true, if_false, Option.getD_some]; try rfl), ht⟩) (fun q h => absurd h List.not_mem_nil) dX4_failureOfRow_13
  · have hba_2 := hI.2.2.1 _ _ hp_1
    have hsa_2 := hI.2.2.2.1 a_2
    obtain ⟨rea_2, rma_2, rfa_2, ima_2, jfa_2⟩ := tr_some hR (by omega) hp_1 (hI.2.2.1 _ _ hp_1)
    refine x_aldq (C := "TideGauges$Row") hx hb hK hP 1 3 rfl rfl (k := k) rfl (by omega) (by decide) (v := .ref (ra a_2)) (by rw [rea_2]; rfl) dX4_failureOfRow_5 ?_
    refine lv_astore_n (lv' := [(3, .ref (ra a_2)), (0, .ref q.1), (1, .int (nI k)), (2, .int (b2i w))]) hx hb dX4_failureOfRow_6 rfl hl (by decide) rfl (fun ls hl => ?_)
    refine lv_aload_n hx hb dX4_failureOfRow_7 rfl (lv_at hl 0 rfl) ?_
    refine lv_ifnonnull (tgt := 14) hx hb dX4_failureOfRow_8 (by decide) ?_
    refine lv_aload_n hx hb dX4_failureOfRow_14 rfl (lv_at hl 0 rfl) ?_
    refine pl_get (ci := 2) (v := .ref (ad (fX4_widthOf (zRw σ a_2)))) (C := RX2) (T := TX2) (N := 2) hx hb hts (fun w h => List.mem_cons_of_mem _ (List.mem_append_right _ h)) hown hK hP rma_2 rfa_2 rfl 0 (by decide) (hts (.fieldLink RX4 163 "TideGauges$Row" "width" "LTideGauges$Width;") (List.mem_of_getElem? (i := 2) rfl)) (fun _ h9 => h9) rfl dX4_failureOfRow_15 ?_
    refine lv_iload_n hx hb dX4_failureOfRow_18 rfl (lv_at hl 3 rfl) ?_
    refine cs_w (As := [.int (b2i w)]) (rest := [.ref (ad (fX4_widthOf (zRw σ a_2)))]) ⟨hx, hb, hml, hown, hts⟩ (mX4_widthOf l ad w) (va_cwS 1 hts gX4_failureOfRow_X4_widthOf rfl rfl rfl (by decide +kernel) ⟨Nat.le_of_ble_eq_true rfl, Nat.le_of_ble_eq_true rfl⟩) hE hS rfl rfl hl.1 (Nat.le_of_ble_eq_true rfl) dX4_failureOfRow_19 (Nat.zero_le _) (Nat.zero_le _) ?_
    refine w_acne (tgt := 29) hx hb hE dX4_failureOfRow_22 (by decide) (fun c_3 => ?_) (fun c_3 => ?_)
    · refine lv_bipush (v := -13) hx hb dX4_failureOfRow_29 (by decide) ?_
      exact W.iret hx hb hr (fun t ht hW => ⟨(by unfold askR; simp only [hp_1, if_neg c_3, reduceCtorEq, if_true, if_false, Option.getD_some]; try rfl), ht⟩) (fun q h => absurd h List.not_mem_nil) dX4_failureOfRow_31
    · refine lv_iconst (v := 0) hx hb dX4_failureOfRow_25 (by decide) ?_
      refine lv_goto (tgt := 31) hx hb dX4_failureOfRow_26 (by decide) ?_
      exact W.iret hx hb hr (fun t ht hW => ⟨(by unfold askR; simp only [hp_1, if_pos c_3, reduceCtorEq, if_true, if_false, Option.getD_some]; try rfl), ht⟩) (fun q h => absurd h List.not_mem_nil) dX4_failureOfRow_31
set_option maxHeartbeats 4000000 in
set_option maxRecDepth 100000 in
theorem mX4_failureOfItem (l : Launch) (dC : Nat → ClassId) (dI : Nat → Nat → Nat) (ad : Nat → Nat) (q : Aq) (cJ cG cK cR cI cZ cD : ClassId) (fr fg fk : Nat → Option Nat) (L : List Nat) (f : Nat → va_E) (ra rb ka kb : Nat → Nat) (hf : Nat → Nat → Option Nat) (σ : St) (hR : TRel ad cJ cG fr fg fk L f ra rb ka kb hf σ) (N0 : Nat) (hI : Inv σ N0) (hN : N0 ≤ 512) (k : Nat) (hk : k < 8) (w : Bool) (i : Int32) : Met l yX4_failureOfItem wsX4_failureOfItem ({ frames := 2, cells := 0, slots := 0, locals := 43 }) (va_Pc [.ref q.1, .int (nI k), .int (b2i w), .int i] (fun U => va_P (dC, dI) vwCl (TWs q cG cK cR fr fg fk (zTo σ) L f) U.heap ∧ va_K (dC, dI) vwCl (tys0 cJ cG cK cR cI cZ cD) U ∧ EN ad (fun _ => False) U U.heap)) (pQ (.int (fl (askI σ k w i)))) 0 0 (fun _ => False) := by
  refine Met.ofW (cc := cX4_failureOfItem) (maxL := 5) (ret := (some .int)) (by decide) rfl ?_
  intro p e s m args below meth c s₁ B hml hv
  obtain ⟨rfl, hP, hK, hE⟩ := hv
  have hx := B.exec
  have hb := B.bytes
  have hr := B.returns
  have hts := atoms_spec (ws := wsX4_failureOfItem) B.pre
  have hown : s.vm.findClass RX4 = some m.cls := findClass_of_methodNamed B.named
  have hlocks := B.notSynchronized
  have hN1 := hI.1
  have hN2 := hI.2.1
  have hS : va_S (fun _ => False) s.heap s.heap [] := va_S.rf
  have hl := lv_entry ([.ref q.1, .int (nI k), .int (b2i w), .int i]) (n := 5) (Nat.le_of_ble_eq_true rfl)
  rw [lg_entry_eq]
  generalize (lg_sl ([.ref q.1, .int (nI k), .int (b2i w), .int i]) ++ List.replicate (5 - (lg_sl ([.ref q.1, .int (nI k), .int (b2i w), .int i])).length) Slot.unset).toArray = ls at hl ⊢
  have hl : lv_has ls 5 [(0, .ref q.1), (1, .int (nI k)), (2, .int (b2i w)), (3, .int i)] := hl
  refine lv_aload_n hx hb dX4_failureOfItem_0 rfl (lv_at hl 0 rfl) ?_
  refine lv_iload_n hx hb dX4_failureOfItem_1 rfl (lv_at hl 1 rfl) ?_
  refine lv_iload_n hx hb dX4_failureOfItem_2 rfl (lv_at hl 2 rfl) ?_
  refine ct_w (q0 := 0) (As := [.int (nI k), .int (b2i w)]) (rest := []) ⟨hx, hb, hml, hown, hts⟩ (mX4_failureOfRow l dC dI ad q cJ cG cK cR cI cZ cD fr fg fk L f ra rb ka kb hf σ hR N0 hI hN k (by omega) w) (cwV 2 hts gX4_failureOfItem_X4_failureOfRow rfl rfl rfl (by decide +kernel) ⟨Nat.le_of_ble_eq_true rfl, Nat.le_of_ble_eq_true rfl⟩) hK hP hE hS rfl rfl rfl rfl hl.1 (Nat.le_of_ble_eq_true rfl) dX4_failureOfItem_3 (Nat.zero_le _) (Nat.zero_le _) ?_
  refine lv_istore (lv' := [(4, .int (fl (askR σ k w))), (0, .ref q.1), (1, .int (nI k)), (2, .int (b2i w)), (3, .int i)]) hx hb dX4_failureOfItem_6 hl (by decide) rfl (fun ls hl => ?_)
  refine lv_iload hx hb dX4_failureOfItem_8 (lv_at hl 0 rfl) ?_
  refine lv_if_eq (tgt := 16) hx hb dX4_failureOfItem_10 (by decide) (fun c_1 => ?_) (fun c_1 => ?_)
  · have gc_1 := fl_R c_1
    obtain ⟨ak, hpak, hwak⟩ := askR_0 gc_1
    have hbak := hI.2.2.1 _ _ hpak
    have hsak := hI.2.2.2.1 ak
    obtain ⟨reak, rmak, rfak, imak, jfak⟩ := tr_some hR (by omega) hpak hbak
    refine lv_iload_n hx hb dX4_failureOfItem_16 rfl (lv_at hl 4 rfl) ?_
    refine lv_aload_n hx hb dX4_failureOfItem_17 rfl (lv_at hl 1 rfl) ?_
    refine va_get (D := (dC, dI)) (ci := 4) (v := .ref q.2.1) (C := RX4) (T := TX4) (N := 4) hx hb hts (fun w h => List.mem_cons_of_mem _ (List.mem_append_left _ (List.mem_append_right _ h))) hown hK hP 0 rfl rfl 0 (by decide) (hts (.fieldLink RX4 11 "TideGauges" "rows" "[LTideGauges$Row;") (List.mem_of_getElem? (i := 1) rfl)) (fun _ h9 => h9) rfl dX4_failureOfItem_18 ?_
    refine lv_iload_n hx hb dX4_failureOfItem_21 rfl (lv_at hl 2 rfl) ?_
    refine x_aldq (C := "TideGauges$Row") hx hb hK hP 1 3 rfl rfl (k := k) rfl (by omega) (by decide) (v := .ref (ra ak)) (by rw [reak]; rfl) dX4_failureOfItem_22 ?_
    refine pl_get (ci := 2) (v := .ref (rb ak)) (C := RX2) (T := TX2) (N := 2) hx hb hts (fun w h => List.mem_cons_of_mem _ (List.mem_append_right _ h)) hown hK hP rmak rfak rfl 1 (by decide) (hts (.fieldLink RX4 52 "TideGauges$Row" "items" "[J") (List.mem_of_getElem? (i := 2) rfl)) (fun _ h9 => h9) rfl dX4_failureOfItem_23 ?_
    refine pl_alen hx hb hK hP 0 imak jfak rfl (v := nI (zRn σ ak)) rfl dX4_failureOfItem_26 ?_
    refine cs_0 (As := [.int i, .int (nI (zRn σ ak))]) (rest := []) ⟨hx, hb, hml, hown, hts⟩ (mX4_isBelowN l i (nI (zRn σ ak)) (zRn σ ak) rfl (by omega)) (va_cwS 2 hts gX4_failureOfItem_X4_isBelow rfl rfl rfl (by decide +kernel) ⟨Nat.le_of_ble_eq_true rfl, Nat.le_of_ble_eq_true rfl⟩) rfl rfl hl.1 (Nat.le_of_ble_eq_true rfl) dX4_failureOfItem_27 (Nat.zero_le _) (Nat.zero_le _) ?_
    refine w_beq (tgt := 37) hx hb dX4_failureOfItem_30 (by decide) (fun c_2 => ?_) (fun c_2 => ?_)
    · refine lv_bipush (v := -12) hx hb dX4_failureOfItem_37 (by decide) ?_
      exact W.iret hx hb hr (fun t ht hW => ⟨(by unfold askI; simp only [hpak, if_pos gc_1, if_neg c_2, reduceCtorEq, if_true, if_false, Option.getD_some]; try rfl), ht⟩) (fun q h => absurd h List.not_mem_nil) dX4_failureOfItem_39
    · refine lv_iconst (v := 0) hx hb dX4_failureOfItem_33 (by decide) ?_
      refine lv_goto (tgt := 39) hx hb dX4_failureOfItem_34 (by decide) ?_
      exact W.iret hx hb hr (fun t ht hW => ⟨(by unfold askI; simp only [hpak, if_pos gc_1, if_pos c_2, reduceCtorEq, if_true, if_false, Option.getD_some]; try rfl), ht⟩) (fun q h => absurd h List.not_mem_nil) dX4_failureOfItem_39
  · have gc_1 := fl_n c_1
    refine lv_iload hx hb dX4_failureOfItem_13 (lv_at hl 0 rfl) ?_
    exact W.iret hx hb hr (fun t ht hW => ⟨(by unfold askI; simp only [if_neg gc_1.1, reduceCtorEq, if_true, if_false, Option.getD_some]; try rfl), ht⟩) (fun q h => absurd h List.not_mem_nil) dX4_failureOfItem_15
set_option maxHeartbeats 4000000 in
set_option maxRecDepth 100000 in
theorem mX4_failureOfHook (l : Launch) (dC : Nat → ClassId) (dI : Nat → Nat → Nat) (ad : Nat → Nat) (q : Aq) (cJ cG cK cR cI cZ cD : ClassId) (fr fg fk : Nat → Option Nat) (L : List Nat) (f : Nat → va_E) (ra rb ka kb : Nat → Nat) (hf : Nat → Nat → Option Nat) (σ : St) (hR : TRel ad cJ cG fr fg fk L f ra rb ka kb hf σ) (N0 : Nat) (hI : Inv σ N0) (hN : N0 ≤ 512) (k : Nat) (hk : k < 3) (i : Int32) : Met l yX4_failureOfHook wsX4_failureOfHook ({ frames := 1, cells := 0, slots := 0, locals := 21 }) (va_Pc [.ref q.1, .int (nI k), .int i] (fun U => va_P (dC, dI) vwCl (TWs q cG cK cR fr fg fk (zTo σ) L f) U.heap ∧ va_K (dC, dI) vwCl (tys0 cJ cG cK cR cI cZ cD) U ∧ EN ad (fun _ => False) U U.heap)) (pQ (.int (fl (askH σ k i)))) 0 0 (fun _ => False) := by
  refine Met.ofW (cc := cX4_failureOfHook) (maxL := 3) (ret := (some .int)) (by decide) rfl ?_
  intro p e s m args below meth c s₁ B hml hv
  obtain ⟨rfl, hP, hK, hE⟩ := hv
  have hx := B.exec
  have hb := B.bytes
  have hr := B.returns
  have hts := atoms_spec (ws := wsX4_failureOfHook) B.pre
  have hown : s.vm.findClass RX4 = some m.cls := findClass_of_methodNamed B.named
  have hlocks := B.notSynchronized
  have hN1 := hI.1
  have hN2 := hI.2.1
  have hS : va_S (fun _ => False) s.heap s.heap [] := va_S.rf
  have hl := lv_entry ([.ref q.1, .int (nI k), .int i]) (n := 3) (Nat.le_of_ble_eq_true rfl)
  rw [lg_entry_eq]
  generalize (lg_sl ([.ref q.1, .int (nI k), .int i]) ++ List.replicate (3 - (lg_sl ([.ref q.1, .int (nI k), .int i])).length) Slot.unset).toArray = ls at hl ⊢
  have hl : lv_has ls 3 [(0, .ref q.1), (1, .int (nI k)), (2, .int i)] := hl
  refine lv_aload_n hx hb dX4_failureOfHook_0 rfl (lv_at hl 0 rfl) ?_
  refine va_get (D := (dC, dI)) (ci := 4) (v := .ref q.2.2.2) (C := RX4) (T := TX4) (N := 4) hx hb hts (fun w h => List.mem_cons_of_mem _ (List.mem_append_right _ h)) hown hK hP 0 rfl rfl 2 (by decide) (hts (.fieldLink RX4 23 "TideGauges" "racks" "[LTideGauges$Rack;") (List.mem_of_getElem? (i := 1) rfl)) (fun _ h9 => h9) rfl dX4_failureOfHook_1 ?_
  refine lv_iload_n hx hb dX4_failureOfHook_4 rfl (lv_at hl 1 rfl) ?_
  rcases hp_1 : zRk σ k with _ | a_2
  · refine x_aldq (C := "TideGauges$Rack") hx hb hK hP 3 2 rfl rfl (k := k) rfl (by omega) (by decide) (v := .null) (by rw [tr_knone hR (by omega) hp_1]; rfl) dX4_failureOfHook_5 ?_
    refine lv_ifnonnullN hx hb dX4_failureOfHook_6 ?_
    refine lv_bipush (v := -11) hx hb dX4_failureOfHook_9 (by decide) ?_
    exact W.iret hx hb hr (fun t ht hW => ⟨(by unfold askH; simp only [hp_1, reduceCtorEq, if_true, if_false]; try rfl), ht⟩) (fun q h => absurd h List.not_mem_nil) dX4_failureOfHook_11
  · obtain ⟨kek, kmk, kfk, lmk, lfk⟩ := tr_ksome hR (by omega) hp_1
    refine x_aldq (C := "TideGauges$Rack") hx hb hK hP 3 2 rfl rfl (k := k) rfl (by omega) (by decide) (v := .ref (ka k)) (by rw [kek]; rfl) dX4_failureOfHook_5 ?_
    refine lv_ifnonnull (tgt := 12) hx hb dX4_failureOfHook_6 (by decide) ?_
    refine lv_iload_n hx hb dX4_failureOfHook_12 rfl (lv_at hl 2 rfl) ?_
    refine lv_iconst (v := 4) hx hb dX4_failureOfHook_13 (by decide) ?_
    refine cs_0 (As := [.int i, .int (4 : Int32)]) (rest := []) ⟨hx, hb, hml, hown, hts⟩ (mX4_isBelowN l i (4 : Int32) 4 rfl (by decide)) (va_cwS 2 hts gX4_failureOfHook_X4_isBelow rfl rfl rfl (by decide +kernel) ⟨Nat.le_of_ble_eq_true rfl, Nat.le_of_ble_eq_true rfl⟩) rfl rfl hl.1 (Nat.le_of_ble_eq_true rfl) dX4_failureOfHook_14 (Nat.zero_le _) (Nat.zero_le _) ?_
    refine w_beq (tgt := 24) hx hb dX4_failureOfHook_17 (by decide) (fun c_3 => ?_) (fun c_3 => ?_)
    · refine lv_bipush (v := -12) hx hb dX4_failureOfHook_24 (by decide) ?_
      exact W.iret hx hb hr (fun t ht hW => ⟨(by unfold askH; simp only [hp_1, if_neg c_3, reduceCtorEq, if_true, if_false]; try rfl), ht⟩) (fun q h => absurd h List.not_mem_nil) dX4_failureOfHook_26
    · refine lv_iconst (v := 0) hx hb dX4_failureOfHook_20 (by decide) ?_
      refine lv_goto (tgt := 26) hx hb dX4_failureOfHook_21 (by decide) ?_
      exact W.iret hx hb hr (fun t ht hW => ⟨(by unfold askH; simp only [hp_1, if_pos c_3, reduceCtorEq, if_true, if_false]; try rfl), ht⟩) (fun q h => absurd h List.not_mem_nil) dX4_failureOfHook_26
set_option maxHeartbeats 4000000 in
set_option maxRecDepth 100000 in
theorem mX4_tell (l : Launch) (dC : Nat → ClassId) (dI : Nat → Nat → Nat) (tys : List (ClassId × FieldType)) (ws : va_W) (h : Nat) (v1 v2 v3 : Value) (t0 : Int64) (sz : Nat) (x : Int64) (hk0 : ws[0]? = some (h, .inr (4, [v1, v2, v3, .long t0]))) : Met l yX4_tell wsX4_tell ({ frames := 0, cells := 0, slots := 0, locals := 0 }) (va_Pc [.ref h, .long x] (fun U => U.heap.size = sz ∧ va_P (dC, dI) vwCl ws U.heap ∧ va_K (dC, dI) vwCl tys U ∧ va_D (fun _ => True) ws)) (va_Qi (fun (r : Int32) (_ : Unit) => r = 1) (fun _ t => va_P (dC, dI) vwCl (ws.set 0 (h, .inr (4, [v1, v2, v3, .long x]))) t.heap ∧ va_D (va_A ws sz) (ws.set 0 (h, .inr (4, [v1, v2, v3, .long x])))) (va_A ws sz)) 0 0 (va_A ws sz) := by
  refine Met.ofW (cc := cX4_tell) (maxL := 3) (ret := (some .int)) (by decide) rfl ?_
  intro p e s m args below meth c s₁ B hml hv
  obtain ⟨rfl, hsz, hP, hK, hD0⟩ := hv
  have hx := B.exec
  have hb := B.bytes
  have hr := B.returns
  have hts := atoms_spec (ws := wsX4_tell) B.pre
  have hown : s.vm.findClass RX4 = some m.cls := findClass_of_methodNamed B.named
  have hlocks := B.notSynchronized
  subst hsz
  have hD := hD0.self (sz := s.heap.size)
  generalize hAe : va_A ws s.heap.size = A at hD ⊢
  have hS : va_S A s.heap s.heap [] := va_S.rf
  have hl := lv_entry ([.ref h, .long x]) (n := 3) (Nat.le_of_ble_eq_true rfl)
  rw [lg_entry_eq]
  generalize (lg_sl ([.ref h, .long x]) ++ List.replicate (3 - (lg_sl ([.ref h, .long x])).length) Slot.unset).toArray = ls at hl ⊢
  have hl : lv_has ls 3 [(0, .ref h), (1, .long x)] := hl
  refine lv_aload_n hx hb dX4_tell_0 rfl (lv_at hl 0 rfl) ?_
  refine lv_lload_n hx hb dX4_tell_1 rfl (lv_at hl 1 rfl) ?_
  refine va_put (D := (dC, dI)) (ci := 4) (v := .long x) (ty := .long) (C := RX4) (T := TX4) (N := 4) hx hb hts (by decide +kernel) tyX4 tyX4_ok nmX4 hown hK hP hD hS 0 hk0 rfl 3 (by decide) (hts (.fieldLink RX4 27 "TideGauges" "latest" "J") (by decide +kernel)) (fun _ h9 => h9) rfl (by decide +kernel) rfl rfl (Nat.le_of_ble_eq_true rfl) dX4_tell_2 (fun H locs hP hD hS => ?_)
  refine lv_iconst (v := 1) hx hb dX4_tell_5 (by decide) ?_
  exact W.iret hx hb hr (fun t ht hW => ⟨⟨_, (), rfl, rfl, by rw [ht]; exact hP, hD⟩, hS.F ht⟩) hS.2.2 dX4_tell_6
def itA (σ : St) (x : Int32) : Int32 := if ixb x 8 = true then (if zPl σ x.toNatClampNeg = none then -1 else nI (zRn σ ((zPl σ x.toNatClampNeg).getD 0))) else -1
def kdA (σ : St) (x : Int32) : Int32 := if ixb x 6 = true then (if zGa σ x.toNatClampNeg = none then -1 else zGk σ ((zGa σ x.toNatClampNeg).getD 0)) else -1
set_option maxHeartbeats 4000000 in
set_option maxRecDepth 100000 in
theorem mX4_itemsAt (l : Launch) (dC : Nat → ClassId) (dI : Nat → Nat → Nat) (ad : Nat → Nat) (q : Aq) (cJ cG cK cR cI cZ cD : ClassId) (fr fg fk : Nat → Option Nat) (L : List Nat) (f : Nat → va_E) (ra rb ka kb : Nat → Nat) (hf : Nat → Nat → Option Nat) (σ : St) (hR : TRel ad cJ cG fr fg fk L f ra rb ka kb hf σ) (N0 : Nat) (hI : Inv σ N0) (hN : N0 ≤ 512) (x : Int32) : Met l yX4_itemsAt wsX4_itemsAt ({ frames := 1, cells := 0, slots := 0, locals := 21 }) (va_Pc [.ref q.1, .int x] (fun U => va_P (dC, dI) vwCl (TWs q cG cK cR fr fg fk (zTo σ) L f) U.heap ∧ va_K (dC, dI) vwCl (tys0 cJ cG cK cR cI cZ cD) U ∧ EN ad (fun _ => False) U U.heap)) (pQ (.int (itA σ x))) 0 0 (fun _ => False) := by
  refine Met.ofW (cc := cX4_itemsAt) (maxL := 2) (ret := (some .int)) (by decide) rfl ?_
  intro p e s m args below meth c s₁ B hml hv
  obtain ⟨rfl, hP, hK, hE⟩ := hv
  have hx := B.exec
  have hb := B.bytes
  have hr := B.returns
  have hts := atoms_spec (ws := wsX4_itemsAt) B.pre
  have hown : s.vm.findClass RX4 = some m.cls := findClass_of_methodNamed B.named
  have hlocks := B.notSynchronized
  have hN1 := hI.1
  have hN2 := hI.2.1
  have hS : va_S (fun _ => False) s.heap s.heap [] := va_S.rf
  have hl := lv_entry ([.ref q.1, .int x]) (n := 2) (Nat.le_of_ble_eq_true rfl)
  rw [lg_entry_eq]
  generalize (lg_sl ([.ref q.1, .int x]) ++ List.replicate (2 - (lg_sl ([.ref q.1, .int x])).length) Slot.unset).toArray = ls at hl ⊢
  have hl : lv_has ls 2 [(0, .ref q.1), (1, .int x)] := hl
  refine lv_iload_n hx hb dX4_itemsAt_0 rfl (lv_at hl 1 rfl) ?_
  refine lv_bipush (v := 8) hx hb dX4_itemsAt_1 (by decide) ?_
  refine cs_0 (As := [.int x, .int (8 : Int32)]) (rest := []) ⟨hx, hb, hml, hown, hts⟩ (mX4_isBelowN l x (8 : Int32) 8 rfl (by decide)) (va_cwS 2 hts gX4_itemsAt_X4_isBelow rfl rfl rfl (by decide +kernel) ⟨Nat.le_of_ble_eq_true rfl, Nat.le_of_ble_eq_true rfl⟩) rfl rfl hl.1 (Nat.le_of_ble_eq_true rfl) dX4_itemsAt_3 (Nat.zero_le _) (Nat.zero_le _) ?_
  refine w_beq (tgt := 31) hx hb dX4_itemsAt_6 (by decide) (fun c_1 => ?_) (fun c_1 => ?_)
  · refine lv_iconst (v := -1) hx hb dX4_itemsAt_31 (by decide) ?_
    exact W.iret hx hb hr (fun t ht hW => ⟨(by unfold itA; simp only [if_neg c_1, reduceCtorEq, if_true, if_false, Option.getD_some]; try rfl), ht⟩) (fun q h => absurd h List.not_mem_nil) dX4_itemsAt_32
  · obtain ⟨kx, hkx, rfl⟩ := ixb_some c_1 (by decide)
    refine lv_aload_n hx hb dX4_itemsAt_9 rfl (lv_at hl 0 rfl) ?_
    refine va_get (D := (dC, dI)) (ci := 4) (v := .ref q.2.1) (C := RX4) (T := TX4) (N := 4) hx hb hts (fun w h => List.mem_cons_of_mem _ (List.mem_append_left _ (List.mem_append_right _ h))) hown hK hP 0 rfl rfl 0 (by decide) (hts (.fieldLink RX4 11 "TideGauges" "rows" "[LTideGauges$Row;") (List.mem_of_getElem? (i := 1) rfl)) (fun _ h9 => h9) rfl dX4_itemsAt_10 ?_
    refine lv_iload_n hx hb dX4_itemsAt_13 rfl (lv_at hl 1 rfl) ?_
    rcases hp_2 : zPl σ kx with _ | a_3
    · refine x_aldq (C := "TideGauges$Row") hx hb hK hP 1 3 rfl rfl (k := kx) rfl (by omega) (by decide) (v := .null) (by rw [tr_none hR (by omega) hp_2]; rfl) dX4_itemsAt_14 ?_
      refine lv_ifnullN (tgt := 31) hx hb dX4_itemsAt_15 (by decide) ?_
      refine lv_iconst (v := -1) hx hb dX4_itemsAt_31 (by decide) ?_
      exact W.iret hx hb hr (fun t ht hW => ⟨(by unfold itA; simp only [hp_2, if_pos c_1, nI_clamp (show kx < 2 ^ 31 by omega), reduceCtorEq, if_true, if_false, Option.getD_some]; try rfl), ht⟩) (fun q h => absurd h List.not_mem_nil) dX4_itemsAt_32
    · have hba_3 := hI.2.2.1 _ _ hp_2
      have hsa_3 := hI.2.2.2.1 a_3
      obtain ⟨rea_3, rma_3, rfa_3, ima_3, jfa_3⟩ := tr_some hR (by omega) hp_2 (hI.2.2.1 _ _ hp_2)
      refine x_aldq (C := "TideGauges$Row") hx hb hK hP 1 3 rfl rfl (k := kx) rfl (by omega) (by decide) (v := .ref (ra a_3)) (by rw [rea_3]; rfl) dX4_itemsAt_14 ?_
      refine lv_ifnull hx hb dX4_itemsAt_15 ?_
      refine lv_aload_n hx hb dX4_itemsAt_18 rfl (lv_at hl 0 rfl) ?_
      refine va_get (D := (dC, dI)) (ci := 4) (v := .ref q.2.1) (C := RX4) (T := TX4) (N := 4) hx hb hts (fun w h => List.mem_cons_of_mem _ (List.mem_append_left _ (List.mem_append_right _ h))) hown hK hP 0 rfl rfl 0 (by decide) (hts (.fieldLink RX4 11 "TideGauges" "rows" "[LTideGauges$Row;") (List.mem_of_getElem? (i := 1) rfl)) (fun _ h9 => h9) rfl dX4_itemsAt_19 ?_
      refine lv_iload_n hx hb dX4_itemsAt_22 rfl (lv_at hl 1 rfl) ?_
      refine x_aldq (C := "TideGauges$Row") hx hb hK hP 1 3 rfl rfl (k := kx) rfl (by omega) (by decide) (v := .ref (ra a_3)) (by rw [rea_3]; rfl) dX4_itemsAt_23 ?_
      refine pl_get (ci := 2) (v := .ref (rb a_3)) (C := RX2) (T := TX2) (N := 2) hx hb hts (fun w h => List.mem_cons_of_mem _ (List.mem_append_right _ h)) hown hK hP rma_3 rfa_3 rfl 1 (by decide) (hts (.fieldLink RX4 52 "TideGauges$Row" "items" "[J") (List.mem_of_getElem? (i := 2) rfl)) (fun _ h9 => h9) rfl dX4_itemsAt_24 ?_
      refine pl_alen hx hb hK hP 0 ima_3 jfa_3 rfl (v := nI (zRn σ a_3)) rfl dX4_itemsAt_27 ?_
      refine lv_goto (tgt := 32) hx hb dX4_itemsAt_28 (by decide) ?_
      exact W.iret hx hb hr (fun t ht hW => ⟨(by unfold itA; simp only [hp_2, if_pos c_1, nI_clamp (show kx < 2 ^ 31 by omega), reduceCtorEq, if_true, if_false, Option.getD_some]; try rfl), ht⟩) (fun q h => absurd h List.not_mem_nil) dX4_itemsAt_32
set_option maxHeartbeats 4000000 in
set_option maxRecDepth 100000 in
theorem mX4_kindAt (l : Launch) (dC : Nat → ClassId) (dI : Nat → Nat → Nat) (ad : Nat → Nat) (q : Aq) (cJ cG cK cR cI cZ cD : ClassId) (fr fg fk : Nat → Option Nat) (L : List Nat) (f : Nat → va_E) (ra rb ka kb : Nat → Nat) (hf : Nat → Nat → Option Nat) (σ : St) (hR : TRel ad cJ cG fr fg fk L f ra rb ka kb hf σ) (N0 : Nat) (hI : Inv σ N0) (hN : N0 ≤ 512) (x : Int32) : Met l yX4_kindAt wsX4_kindAt ({ frames := 1, cells := 0, slots := 0, locals := 21 }) (va_Pc [.ref q.1, .int x] (fun U => va_P (dC, dI) vwCl (TWs q cG cK cR fr fg fk (zTo σ) L f) U.heap ∧ va_K (dC, dI) vwCl (tys0 cJ cG cK cR cI cZ cD) U ∧ EN ad (fun _ => False) U U.heap)) (pQ (.int (kdA σ x))) 0 0 (fun _ => False) := by
  refine Met.ofW (cc := cX4_kindAt) (maxL := 2) (ret := (some .int)) (by decide) rfl ?_
  intro p e s m args below meth c s₁ B hml hv
  obtain ⟨rfl, hP, hK, hE⟩ := hv
  have hx := B.exec
  have hb := B.bytes
  have hr := B.returns
  have hts := atoms_spec (ws := wsX4_kindAt) B.pre
  have hown : s.vm.findClass RX4 = some m.cls := findClass_of_methodNamed B.named
  have hlocks := B.notSynchronized
  have hN1 := hI.1
  have hN2 := hI.2.1
  have hS : va_S (fun _ => False) s.heap s.heap [] := va_S.rf
  have hl := lv_entry ([.ref q.1, .int x]) (n := 2) (Nat.le_of_ble_eq_true rfl)
  rw [lg_entry_eq]
  generalize (lg_sl ([.ref q.1, .int x]) ++ List.replicate (2 - (lg_sl ([.ref q.1, .int x])).length) Slot.unset).toArray = ls at hl ⊢
  have hl : lv_has ls 2 [(0, .ref q.1), (1, .int x)] := hl
  refine lv_iload_n hx hb dX4_kindAt_0 rfl (lv_at hl 1 rfl) ?_
  refine lv_bipush (v := 6) hx hb dX4_kindAt_1 (by decide) ?_
  refine cs_0 (As := [.int x, .int (6 : Int32)]) (rest := []) ⟨hx, hb, hml, hown, hts⟩ (mX4_isBelowN l x (6 : Int32) 6 rfl (by decide)) (va_cwS 2 hts gX4_kindAt_X4_isBelow rfl rfl rfl (by decide +kernel) ⟨Nat.le_of_ble_eq_true rfl, Nat.le_of_ble_eq_true rfl⟩) rfl rfl hl.1 (Nat.le_of_ble_eq_true rfl) dX4_kindAt_3 (Nat.zero_le _) (Nat.zero_le _) ?_
  refine w_beq (tgt := 30) hx hb dX4_kindAt_6 (by decide) (fun c_1 => ?_) (fun c_1 => ?_)
  · refine lv_iconst (v := -1) hx hb dX4_kindAt_30 (by decide) ?_
    exact W.iret hx hb hr (fun t ht hW => ⟨(by unfold kdA; simp only [if_neg c_1, reduceCtorEq, if_true, if_false, Option.getD_some]; try rfl), ht⟩) (fun q h => absurd h List.not_mem_nil) dX4_kindAt_31
  · obtain ⟨kx, hkx, rfl⟩ := ixb_some c_1 (by decide)
    refine lv_aload_n hx hb dX4_kindAt_9 rfl (lv_at hl 0 rfl) ?_
    refine va_get (D := (dC, dI)) (ci := 4) (v := .ref q.2.2.1) (C := RX4) (T := TX4) (N := 4) hx hb hts (fun w h => List.mem_cons_of_mem _ (List.mem_append_left _ (List.mem_append_right _ h))) hown hK hP 0 rfl rfl 1 (by decide) (hts (.fieldLink RX4 17 "TideGauges" "gauges" "[LTideGauges$Gauge;") (List.mem_of_getElem? (i := 1) rfl)) (fun _ h9 => h9) rfl dX4_kindAt_10 ?_
    refine lv_iload_n hx hb dX4_kindAt_13 rfl (lv_at hl 1 rfl) ?_
    rcases hp_2 : zGa σ kx with _ | a_3
    · refine x_aldq (C := "TideGauges$Gauge") hx hb hK hP 2 1 rfl rfl (k := kx) rfl (by omega) (by decide) (v := .null) (by rw [tr_gnone hR (by omega) hp_2]; rfl) dX4_kindAt_14 ?_
      refine lv_ifnullN (tgt := 30) hx hb dX4_kindAt_15 (by decide) ?_
      refine lv_iconst (v := -1) hx hb dX4_kindAt_30 (by decide) ?_
      exact W.iret hx hb hr (fun t ht hW => ⟨(by unfold kdA; simp only [hp_2, if_pos c_1, nI_clamp (show kx < 2 ^ 31 by omega), reduceCtorEq, if_true, if_false, Option.getD_some]; try rfl), ht⟩) (fun q h => absurd h List.not_mem_nil) dX4_kindAt_31
    · obtain ⟨gaa_3, gea_3, gma_3, gfa_3⟩ := tr_gsome hR (show kx < 6 by omega) hp_2
      have gba_3 := hI.2.2.2.2.2.2.1 _ _ hp_2
      refine x_aldq (C := "TideGauges$Gauge") hx hb hK hP 2 1 rfl rfl (k := kx) rfl (by omega) (by decide) (v := .ref gaa_3) (by rw [gea_3]; rfl) dX4_kindAt_14 ?_
      refine lv_ifnull hx hb dX4_kindAt_15 ?_
      refine lv_aload_n hx hb dX4_kindAt_18 rfl (lv_at hl 0 rfl) ?_
      refine va_get (D := (dC, dI)) (ci := 4) (v := .ref q.2.2.1) (C := RX4) (T := TX4) (N := 4) hx hb hts (fun w h => List.mem_cons_of_mem _ (List.mem_append_left _ (List.mem_append_right _ h))) hown hK hP 0 rfl rfl 1 (by decide) (hts (.fieldLink RX4 17 "TideGauges" "gauges" "[LTideGauges$Gauge;") (List.mem_of_getElem? (i := 1) rfl)) (fun _ h9 => h9) rfl dX4_kindAt_19 ?_
      refine lv_iload_n hx hb dX4_kindAt_22 rfl (lv_at hl 1 rfl) ?_
      refine x_aldq (C := "TideGauges$Gauge") hx hb hK hP 2 1 rfl rfl (k := kx) rfl (by omega) (by decide) (v := .ref gaa_3) (by rw [gea_3]; rfl) dX4_kindAt_23 ?_
      refine pl_get (ci := 0) (v := .int (zGk σ a_3)) (C := RX0) (T := TX0) (N := 2) hx hb hts (fun w h => List.mem_cons_of_mem _ (List.mem_append_right _ h)) hown hK hP gma_3 gfa_3 rfl 0 (by decide) (hts (.fieldLink RX4 166 "TideGauges$Gauge" "kind" "I") (List.mem_of_getElem? (i := 2) rfl)) (fun _ h9 => h9) rfl dX4_kindAt_24 ?_
      refine lv_goto (tgt := 31) hx hb dX4_kindAt_27 (by decide) ?_
      exact W.iret hx hb hr (fun t ht hW => ⟨(by unfold kdA; simp only [hp_2, if_pos c_1, nI_clamp (show kx < 2 ^ 31 by omega), reduceCtorEq, if_true, if_false, Option.getD_some]; try rfl), ht⟩) (fun q h => absurd h List.not_mem_nil) dX4_kindAt_31
