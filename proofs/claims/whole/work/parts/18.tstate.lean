set_option maxHeartbeats 8000000 in
set_option maxRecDepth 100000 in
theorem mX4_share (l : Launch) (dC : Nat → ClassId) (dI : Nat → Nat → Nat) (ad : Nat → Nat) (q : Aq) (cJ cG cK cR cI cZ cD : ClassId) (fr fg fk : Nat → Option Nat) (L : List Nat) (f : Nat → va_E) (ra rb ka kb : Nat → Nat) (hf : Nat → Nat → Option Nat) (σ : St) (hR : TRel ad cJ cG fr fg fk L f ra rb ka kb hf σ) (N0 : Nat) (hI : Inv σ N0) (hN : N0 ≤ 512) (sz : Nat) (x : Int32) (y : Int32) : Met l yX4_share wsX4_share ({ frames := 1, cells := 0, slots := 0, locals := 21 }) (va_Pc [.ref q.1, .int x, .int y] (fun U => U.heap.size = sz ∧ va_P (dC, dI) vwCl (TWs q cG cK cR fr fg fk (zTo σ) L f) U.heap ∧ va_K (dC, dI) vwCl (tys0 cJ cG cK cR cI cZ cD) U ∧ va_D (fun _ => True) (TWs q cG cK cR fr fg fk (zTo σ) L f) ∧ EN ad (va_A (TWs q cG cK cR fr fg fk (zTo σ) L f) sz) U U.heap)) (va_Qi (fun (r : Int32) (τ : St) => (r, τ) = oShare σ x y) (fun τ t => TP dC dI ad cJ cG cK cR (va_A (TWs q cG cK cR fr fg fk (zTo σ) L f) sz) q.1 τ t) (va_A (TWs q cG cK cR fr fg fk (zTo σ) L f) sz)) 0 0 (va_A (TWs q cG cK cR fr fg fk (zTo σ) L f) sz) := by
  refine Met.ofW (cc := cX4_share) (maxL := 3) (ret := (some .int)) (by decide) rfl ?_
  intro p e s m args below meth c s₁ B hml hv
  obtain ⟨rfl, hsz, hP, hK, hD0, hE⟩ := hv
  have hx := B.exec
  have hb := B.bytes
  have hr := B.returns
  have hts := atoms_spec (ws := wsX4_share) B.pre
  have hown : s.vm.findClass RX4 = some m.cls := findClass_of_methodNamed B.named
  have hlocks := B.notSynchronized
  have hN1 := hI.1
  have hN2 := hI.2.1
  subst hsz
  have hD := hD0.self (sz := s.heap.size)
  generalize hAe : va_A (TWs q cG cK cR fr fg fk (zTo σ) L f) s.heap.size = A at hD hE ⊢
  have hA : ∀ z : Nat, s.heap.size ≤ z → A z := fun z h => by rw [← hAe]; exact Or.inr h
  have hS : va_S A s.heap s.heap [] := va_S.rf
  have hl := lv_entry ([.ref q.1, .int x, .int y]) (n := 3) (Nat.le_of_ble_eq_true rfl)
  rw [lg_entry_eq]
  generalize (lg_sl ([.ref q.1, .int x, .int y]) ++ List.replicate (3 - (lg_sl ([.ref q.1, .int x, .int y])).length) Slot.unset).toArray = ls at hl ⊢
  have hl : lv_has ls 3 [(0, .ref q.1), (1, .int x), (2, .int y)] := hl
  refine lv_iload_n hx hb dX4_share_0 rfl (lv_at hl 1 rfl) ?_
  refine lv_bipush (v := 8) hx hb dX4_share_1 (by decide) ?_
  refine cs_0 (As := [.int x, .int (8 : Int32)]) (rest := []) ⟨hx, hb, hml, hown, hts⟩ (mX4_isBelowN l x (8 : Int32) 8 rfl (by decide)) (va_cwS 2 hts gX4_share_X4_isBelow rfl rfl rfl (by decide +kernel) ⟨Nat.le_of_ble_eq_true rfl, Nat.le_of_ble_eq_true rfl⟩) rfl rfl hl.1 (Nat.le_of_ble_eq_true rfl) dX4_share_3 (Nat.zero_le _) (Nat.zero_le _) ?_
  refine w_beq (tgt := 18) hx hb dX4_share_6 (by decide) (fun c_1 => ?_) (fun c_1 => ?_)
  · refine lv_iconst (v := -1) hx hb dX4_share_18 (by decide) ?_
    exact W.iret hx hb hr (fun t ht hW => ⟨⟨_, σ, rfl, (by unfold oShare; (try simp only [if_neg c_1, Option.getD_some, reduceCtorEq, if_true, if_false, Option.isNone_some, Option.isNone_none, Bool.false_or, Bool.true_or, Bool.not_true, Bool.not_false]); try rfl), ⟨_, _, _, _, _, _, _, _, _, _, _, rfl, by rw [ht]; exact hP, hD, hR⟩⟩, hS.F ht⟩) hS.2.2 dX4_share_19
  · obtain ⟨kx, hkx, rfl⟩ := ixb_some c_1 (by decide)
    refine lv_iload_n hx hb dX4_share_9 rfl (lv_at hl 2 rfl) ?_
    refine lv_bipush (v := 8) hx hb dX4_share_10 (by decide) ?_
    refine cs_0 (As := [.int y, .int (8 : Int32)]) (rest := []) ⟨hx, hb, hml, hown, hts⟩ (mX4_isBelowN l y (8 : Int32) 8 rfl (by decide)) (va_cwS 2 hts gX4_share_X4_isBelow rfl rfl rfl (by decide +kernel) ⟨Nat.le_of_ble_eq_true rfl, Nat.le_of_ble_eq_true rfl⟩) rfl rfl hl.1 (Nat.le_of_ble_eq_true rfl) dX4_share_12 (Nat.zero_le _) (Nat.zero_le _) ?_
    refine w_bne (tgt := 20) hx hb dX4_share_15 (by decide) (fun c_2 => ?_) (fun c_2 => ?_)
    · obtain ⟨ky, hky, rfl⟩ := ixb_some c_2 (by decide)
      refine lv_aload_n hx hb dX4_share_20 rfl (lv_at hl 0 rfl) ?_
      refine va_get (D := (dC, dI)) (ci := 4) (v := .ref q.2.1) (C := RX4) (T := TX4) (N := 4) hx hb hts (fun w h => List.mem_cons_of_mem _ (List.mem_append_right _ h)) hown hK hP 0 rfl rfl 0 (by decide) (hts (.fieldLink RX4 11 "TideGauges" "rows" "[LTideGauges$Row;") (List.mem_of_getElem? (i := 1) rfl)) (fun _ h9 => h9) rfl dX4_share_21 ?_
      refine lv_iload_n hx hb dX4_share_24 rfl (lv_at hl 2 rfl) ?_
      refine lv_aload_n hx hb dX4_share_25 rfl (lv_at hl 0 rfl) ?_
      refine va_get (D := (dC, dI)) (ci := 4) (v := .ref q.2.1) (C := RX4) (T := TX4) (N := 4) hx hb hts (fun w h => List.mem_cons_of_mem _ (List.mem_append_right _ h)) hown hK hP 0 rfl rfl 0 (by decide) (hts (.fieldLink RX4 11 "TideGauges" "rows" "[LTideGauges$Row;") (List.mem_of_getElem? (i := 1) rfl)) (fun _ h9 => h9) rfl dX4_share_26 ?_
      refine lv_iload_n hx hb dX4_share_29 rfl (lv_at hl 1 rfl) ?_
      rcases hp_3 : zPl σ kx with _ | a_4
      · refine x_aldq (C := "TideGauges$Row") hx hb hK hP 1 3 rfl rfl (k := kx) rfl (by omega) (by decide) (v := .null) (by rw [tr_none hR (by omega) hp_3]; rfl) dX4_share_30 ?_
        refine x_astqN (C := "TideGauges$Row") hx hb hK hP hD hS 1 3 rfl rfl (k := ky) rfl (by omega) (by decide) dX4_share_31 (fun H locs hP hD hS => ?_)
        have hP : va_P (dC, dI) vwCl (TWs q cG cK cR (va_up fr ky none) fg fk (zTo σ) L f) _ := hP
        have hD : va_D A (TWs q cG cK cR (va_up fr ky none) fg fk (zTo σ) L f) := hD
        have hR : TRel ad cJ cG (va_up fr ky none) fg fk L f ra rb ka kb hf (uPl σ ky none) := TRel_pl hR ky none rfl
        refine lv_aload_n hx hb dX4_share_32 rfl (lv_at hl 0 rfl) ?_
        refine va_get (D := (dC, dI)) (ci := 4) (v := .ref q.2.1) (C := RX4) (T := TX4) (N := 4) hx hb hts (fun w h => List.mem_cons_of_mem _ (List.mem_append_right _ h)) hown hK hP 0 rfl rfl 0 (by decide) (hts (.fieldLink RX4 11 "TideGauges" "rows" "[LTideGauges$Row;") (List.mem_of_getElem? (i := 1) rfl)) (fun _ h9 => h9) rfl dX4_share_33 ?_
        refine lv_iload_n hx hb dX4_share_36 rfl (lv_at hl 2 rfl) ?_
        refine x_aldq (C := "TideGauges$Row") hx hb hK hP 1 3 rfl rfl (k := ky) rfl (by omega) (by decide) (v := .null) (by rw [va_up_self]; rfl) dX4_share_37 ?_
        refine lv_ifnonnullN hx hb dX4_share_38 ?_
        refine lv_iconst (v := 0) hx hb dX4_share_41 (by decide) ?_
        refine lv_goto (tgt := 46) hx hb dX4_share_42 (by decide) ?_
        exact W.iret hx hb hr (fun t ht hW => ⟨⟨_, (uPl σ ky none), rfl, (by unfold oShare; (try simp only [if_pos c_1, if_pos c_2, nI_clamp (show kx < 2 ^ 31 by omega), nI_clamp (show ky < 2 ^ 31 by omega), hp_3, Option.getD_some, reduceCtorEq, if_true, if_false, Option.isNone_some, Option.isNone_none, Bool.false_or, Bool.true_or, Bool.not_true, Bool.not_false]); try rfl), ⟨_, _, _, _, _, _, _, _, _, _, _, rfl, by rw [ht]; exact hP, hD, hR⟩⟩, hS.F ht⟩) hS.2.2 dX4_share_46
      · have hba_4 := hI.2.2.1 _ _ hp_3
        have hsa_4 := hI.2.2.2.1 a_4
        obtain ⟨rea_4, rma_4, rfa_4, ima_4, jfa_4⟩ := tr_some hR (by omega) hp_3 (hI.2.2.1 _ _ hp_3)
        refine x_aldq (C := "TideGauges$Row") hx hb hK hP 1 3 rfl rfl (k := kx) rfl (by omega) (by decide) (v := .ref (ra a_4)) (by rw [rea_4]; rfl) dX4_share_30 ?_
        refine px_astq (ci := 2) hx hb hK hP hD hS 1 3 rfl rfl rma_4 rfa_4 rfl (k := ky) rfl (by omega) (by decide) dX4_share_31 (fun H locs hP hD hS => ?_)
        have hP : va_P (dC, dI) vwCl (TWs q cG cK cR (va_up fr ky (some (ra a_4))) fg fk (zTo σ) L f) _ := hP
        have hD : va_D A (TWs q cG cK cR (va_up fr ky (some (ra a_4))) fg fk (zTo σ) L f) := hD
        have hR : TRel ad cJ cG (va_up fr ky (some (ra a_4))) fg fk L f ra rb ka kb hf (uPl σ ky (some a_4)) := TRel_pl hR ky (some a_4) rfl
        refine lv_aload_n hx hb dX4_share_32 rfl (lv_at hl 0 rfl) ?_
        refine va_get (D := (dC, dI)) (ci := 4) (v := .ref q.2.1) (C := RX4) (T := TX4) (N := 4) hx hb hts (fun w h => List.mem_cons_of_mem _ (List.mem_append_right _ h)) hown hK hP 0 rfl rfl 0 (by decide) (hts (.fieldLink RX4 11 "TideGauges" "rows" "[LTideGauges$Row;") (List.mem_of_getElem? (i := 1) rfl)) (fun _ h9 => h9) rfl dX4_share_33 ?_
        refine lv_iload_n hx hb dX4_share_36 rfl (lv_at hl 2 rfl) ?_
        refine x_aldq (C := "TideGauges$Row") hx hb hK hP 1 3 rfl rfl (k := ky) rfl (by omega) (by decide) (v := .ref (ra a_4)) (by rw [va_up_self]; rfl) dX4_share_37 ?_
        refine lv_ifnonnull (tgt := 45) hx hb dX4_share_38 (by decide) ?_
        refine lv_iconst (v := 1) hx hb dX4_share_45 (by decide) ?_
        exact W.iret hx hb hr (fun t ht hW => ⟨⟨_, (uPl σ ky (some a_4)), rfl, (by unfold oShare; (try simp only [if_pos c_1, if_pos c_2, nI_clamp (show kx < 2 ^ 31 by omega), nI_clamp (show ky < 2 ^ 31 by omega), hp_3, Option.getD_some, reduceCtorEq, if_true, if_false, Option.isNone_some, Option.isNone_none, Bool.false_or, Bool.true_or, Bool.not_true, Bool.not_false]); try rfl), ⟨_, _, _, _, _, _, _, _, _, _, _, rfl, by rw [ht]; exact hP, hD, hR⟩⟩, hS.F ht⟩) hS.2.2 dX4_share_46
    · refine lv_iconst (v := -1) hx hb dX4_share_18 (by decide) ?_
      exact W.iret hx hb hr (fun t ht hW => ⟨⟨_, σ, rfl, (by unfold oShare; (try simp only [if_pos c_1, if_neg c_2, nI_clamp (show kx < 2 ^ 31 by omega), Option.getD_some, reduceCtorEq, if_true, if_false, Option.isNone_some, Option.isNone_none, Bool.false_or, Bool.true_or, Bool.not_true, Bool.not_false]); try rfl), ⟨_, _, _, _, _, _, _, _, _, _, _, rfl, by rw [ht]; exact hP, hD, hR⟩⟩, hS.F ht⟩) hS.2.2 dX4_share_19
set_option maxHeartbeats 8000000 in
set_option maxRecDepth 100000 in
theorem mX4_clear (l : Launch) (dC : Nat → ClassId) (dI : Nat → Nat → Nat) (ad : Nat → Nat) (q : Aq) (cJ cG cK cR cI cZ cD : ClassId) (fr fg fk : Nat → Option Nat) (L : List Nat) (f : Nat → va_E) (ra rb ka kb : Nat → Nat) (hf : Nat → Nat → Option Nat) (σ : St) (hR : TRel ad cJ cG fr fg fk L f ra rb ka kb hf σ) (N0 : Nat) (hI : Inv σ N0) (hN : N0 ≤ 512) (sz : Nat) (x : Int32) : Met l yX4_clear wsX4_clear ({ frames := 1, cells := 0, slots := 0, locals := 21 }) (va_Pc [.ref q.1, .int x] (fun U => U.heap.size = sz ∧ va_P (dC, dI) vwCl (TWs q cG cK cR fr fg fk (zTo σ) L f) U.heap ∧ va_K (dC, dI) vwCl (tys0 cJ cG cK cR cI cZ cD) U ∧ va_D (fun _ => True) (TWs q cG cK cR fr fg fk (zTo σ) L f) ∧ EN ad (va_A (TWs q cG cK cR fr fg fk (zTo σ) L f) sz) U U.heap)) (va_Qi (fun (r : Int32) (τ : St) => (r, τ) = oClear σ x) (fun τ t => TP dC dI ad cJ cG cK cR (va_A (TWs q cG cK cR fr fg fk (zTo σ) L f) sz) q.1 τ t) (va_A (TWs q cG cK cR fr fg fk (zTo σ) L f) sz)) 0 0 (va_A (TWs q cG cK cR fr fg fk (zTo σ) L f) sz) := by
  refine Met.ofW (cc := cX4_clear) (maxL := 3) (ret := (some .int)) (by decide) rfl ?_
  intro p e s m args below meth c s₁ B hml hv
  obtain ⟨rfl, hsz, hP, hK, hD0, hE⟩ := hv
  have hx := B.exec
  have hb := B.bytes
  have hr := B.returns
  have hts := atoms_spec (ws := wsX4_clear) B.pre
  have hown : s.vm.findClass RX4 = some m.cls := findClass_of_methodNamed B.named
  have hlocks := B.notSynchronized
  have hN1 := hI.1
  have hN2 := hI.2.1
  subst hsz
  have hD := hD0.self (sz := s.heap.size)
  generalize hAe : va_A (TWs q cG cK cR fr fg fk (zTo σ) L f) s.heap.size = A at hD hE ⊢
  have hA : ∀ z : Nat, s.heap.size ≤ z → A z := fun z h => by rw [← hAe]; exact Or.inr h
  have hS : va_S A s.heap s.heap [] := va_S.rf
  have hl := lv_entry ([.ref q.1, .int x]) (n := 3) (Nat.le_of_ble_eq_true rfl)
  rw [lg_entry_eq]
  generalize (lg_sl ([.ref q.1, .int x]) ++ List.replicate (3 - (lg_sl ([.ref q.1, .int x])).length) Slot.unset).toArray = ls at hl ⊢
  have hl : lv_has ls 3 [(0, .ref q.1), (1, .int x)] := hl
  refine lv_iload_n hx hb dX4_clear_0 rfl (lv_at hl 1 rfl) ?_
  refine lv_bipush (v := 8) hx hb dX4_clear_1 (by decide) ?_
  refine cs_0 (As := [.int x, .int (8 : Int32)]) (rest := []) ⟨hx, hb, hml, hown, hts⟩ (mX4_isBelowN l x (8 : Int32) 8 rfl (by decide)) (va_cwS 2 hts gX4_clear_X4_isBelow rfl rfl rfl (by decide +kernel) ⟨Nat.le_of_ble_eq_true rfl, Nat.le_of_ble_eq_true rfl⟩) rfl rfl hl.1 (Nat.le_of_ble_eq_true rfl) dX4_clear_3 (Nat.zero_le _) (Nat.zero_le _) ?_
  refine w_bne (tgt := 11) hx hb dX4_clear_6 (by decide) (fun c_1 => ?_) (fun c_1 => ?_)
  · obtain ⟨kx, hkx, rfl⟩ := ixb_some c_1 (by decide)
    refine lv_aload_n hx hb dX4_clear_11 rfl (lv_at hl 0 rfl) ?_
    refine va_get (D := (dC, dI)) (ci := 4) (v := .ref q.2.1) (C := RX4) (T := TX4) (N := 4) hx hb hts (fun w h => List.mem_cons_of_mem _ (List.mem_append_right _ h)) hown hK hP 0 rfl rfl 0 (by decide) (hts (.fieldLink RX4 11 "TideGauges" "rows" "[LTideGauges$Row;") (List.mem_of_getElem? (i := 1) rfl)) (fun _ h9 => h9) rfl dX4_clear_12 ?_
    refine lv_iload_n hx hb dX4_clear_15 rfl (lv_at hl 1 rfl) ?_
    rcases hp_2 : zPl σ kx with _ | a_3
    · refine x_aldq (C := "TideGauges$Row") hx hb hK hP 1 3 rfl rfl (k := kx) rfl (by omega) (by decide) (v := .null) (by rw [tr_none hR (by omega) hp_2]; rfl) dX4_clear_16 ?_
      refine lv_ifnonnullN hx hb dX4_clear_17 ?_
      refine lv_iconst (v := 0) hx hb dX4_clear_20 (by decide) ?_
      refine lv_goto (tgt := 25) hx hb dX4_clear_21 (by decide) ?_
      refine lv_istore_n (lv' := [(2, .int (0 : Int32)), (0, .ref q.1), (1, .int (nI kx))]) hx hb dX4_clear_25 rfl hl (by decide) rfl (fun ls hl => ?_)
      refine lv_aload_n hx hb dX4_clear_26 rfl (lv_at hl 1 rfl) ?_
      refine va_get (D := (dC, dI)) (ci := 4) (v := .ref q.2.1) (C := RX4) (T := TX4) (N := 4) hx hb hts (fun w h => List.mem_cons_of_mem _ (List.mem_append_right _ h)) hown hK hP 0 rfl rfl 0 (by decide) (hts (.fieldLink RX4 11 "TideGauges" "rows" "[LTideGauges$Row;") (List.mem_of_getElem? (i := 1) rfl)) (fun _ h9 => h9) rfl dX4_clear_27 ?_
      refine lv_iload_n hx hb dX4_clear_30 rfl (lv_at hl 2 rfl) ?_
      refine lv_null hx hb dX4_clear_31 ?_
      refine x_astqN (C := "TideGauges$Row") hx hb hK hP hD hS 1 3 rfl rfl (k := kx) rfl (by omega) (by decide) dX4_clear_32 (fun H locs hP hD hS => ?_)
      have hP : va_P (dC, dI) vwCl (TWs q cG cK cR (va_up fr kx none) fg fk (zTo σ) L f) _ := hP
      have hD : va_D A (TWs q cG cK cR (va_up fr kx none) fg fk (zTo σ) L f) := hD
      have hR : TRel ad cJ cG (va_up fr kx none) fg fk L f ra rb ka kb hf (uPl σ kx none) := TRel_pl hR kx none rfl
      refine lv_iload_n hx hb dX4_clear_33 rfl (lv_at hl 0 rfl) ?_
      exact W.iret hx hb hr (fun t ht hW => ⟨⟨_, (uPl σ kx none), rfl, (by unfold oClear; (try simp only [if_pos c_1, nI_clamp (show kx < 2 ^ 31 by omega), hp_2, Option.getD_some, reduceCtorEq, if_true, if_false, Option.isNone_some, Option.isNone_none, Bool.false_or, Bool.true_or, Bool.not_true, Bool.not_false]); try rfl), ⟨_, _, _, _, _, _, _, _, _, _, _, rfl, by rw [ht]; exact hP, hD, hR⟩⟩, hS.F ht⟩) hS.2.2 dX4_clear_34
    · have hba_3 := hI.2.2.1 _ _ hp_2
      have hsa_3 := hI.2.2.2.1 a_3
      obtain ⟨rea_3, rma_3, rfa_3, ima_3, jfa_3⟩ := tr_some hR (by omega) hp_2 (hI.2.2.1 _ _ hp_2)
      refine x_aldq (C := "TideGauges$Row") hx hb hK hP 1 3 rfl rfl (k := kx) rfl (by omega) (by decide) (v := .ref (ra a_3)) (by rw [rea_3]; rfl) dX4_clear_16 ?_
      refine lv_ifnonnull (tgt := 24) hx hb dX4_clear_17 (by decide) ?_
      refine lv_iconst (v := 1) hx hb dX4_clear_24 (by decide) ?_
      refine lv_istore_n (lv' := [(2, .int (1 : Int32)), (0, .ref q.1), (1, .int (nI kx))]) hx hb dX4_clear_25 rfl hl (by decide) rfl (fun ls hl => ?_)
      refine lv_aload_n hx hb dX4_clear_26 rfl (lv_at hl 1 rfl) ?_
      refine va_get (D := (dC, dI)) (ci := 4) (v := .ref q.2.1) (C := RX4) (T := TX4) (N := 4) hx hb hts (fun w h => List.mem_cons_of_mem _ (List.mem_append_right _ h)) hown hK hP 0 rfl rfl 0 (by decide) (hts (.fieldLink RX4 11 "TideGauges" "rows" "[LTideGauges$Row;") (List.mem_of_getElem? (i := 1) rfl)) (fun _ h9 => h9) rfl dX4_clear_27 ?_
      refine lv_iload_n hx hb dX4_clear_30 rfl (lv_at hl 2 rfl) ?_
      refine lv_null hx hb dX4_clear_31 ?_
      refine x_astqN (C := "TideGauges$Row") hx hb hK hP hD hS 1 3 rfl rfl (k := kx) rfl (by omega) (by decide) dX4_clear_32 (fun H locs hP hD hS => ?_)
      have hP : va_P (dC, dI) vwCl (TWs q cG cK cR (va_up fr kx none) fg fk (zTo σ) L f) _ := hP
      have hD : va_D A (TWs q cG cK cR (va_up fr kx none) fg fk (zTo σ) L f) := hD
      have hR : TRel ad cJ cG (va_up fr kx none) fg fk L f ra rb ka kb hf (uPl σ kx none) := TRel_pl hR kx none rfl
      refine lv_iload_n hx hb dX4_clear_33 rfl (lv_at hl 0 rfl) ?_
      exact W.iret hx hb hr (fun t ht hW => ⟨⟨_, (uPl σ kx none), rfl, (by unfold oClear; (try simp only [if_pos c_1, nI_clamp (show kx < 2 ^ 31 by omega), hp_2, Option.getD_some, reduceCtorEq, if_true, if_false, Option.isNone_some, Option.isNone_none, Bool.false_or, Bool.true_or, Bool.not_true, Bool.not_false]); try rfl), ⟨_, _, _, _, _, _, _, _, _, _, _, rfl, by rw [ht]; exact hP, hD, hR⟩⟩, hS.F ht⟩) hS.2.2 dX4_clear_34
  · refine lv_iconst (v := -1) hx hb dX4_clear_9 (by decide) ?_
    exact W.iret hx hb hr (fun t ht hW => ⟨⟨_, σ, rfl, (by unfold oClear; (try simp only [if_neg c_1, Option.getD_some, reduceCtorEq, if_true, if_false, Option.isNone_some, Option.isNone_none, Bool.false_or, Bool.true_or, Bool.not_true, Bool.not_false]); try rfl), ⟨_, _, _, _, _, _, _, _, _, _, _, rfl, by rw [ht]; exact hP, hD, hR⟩⟩, hS.F ht⟩) hS.2.2 dX4_clear_10
set_option maxHeartbeats 8000000 in
set_option maxRecDepth 100000 in
theorem mX4_put (l : Launch) (dC : Nat → ClassId) (dI : Nat → Nat → Nat) (ad : Nat → Nat) (q : Aq) (cJ cG cK cR cI cZ cD : ClassId) (fr fg fk : Nat → Option Nat) (L : List Nat) (f : Nat → va_E) (ra rb ka kb : Nat → Nat) (hf : Nat → Nat → Option Nat) (σ : St) (hR : TRel ad cJ cG fr fg fk L f ra rb ka kb hf σ) (N0 : Nat) (hI : Inv σ N0) (hN : N0 ≤ 512) (sz : Nat) (x : Int32) (w : Bool) (i : Int32) (b : Int64) : Met l yX4_put wsX4_put ({ frames := 3, cells := 0, slots := 0, locals := 67 }) (va_Pc [.ref q.1, .int x, .int (b2i w), .int i, .long b] (fun U => U.heap.size = sz ∧ va_P (dC, dI) vwCl (TWs q cG cK cR fr fg fk (zTo σ) L f) U.heap ∧ va_K (dC, dI) vwCl (tys0 cJ cG cK cR cI cZ cD) U ∧ va_D (fun _ => True) (TWs q cG cK cR fr fg fk (zTo σ) L f) ∧ EN ad (va_A (TWs q cG cK cR fr fg fk (zTo σ) L f) sz) U U.heap)) (va_Qi (fun (r : Int32) (τ : St) => (r, τ) = oPut σ x w i b) (fun τ t => TP dC dI ad cJ cG cK cR (va_A (TWs q cG cK cR fr fg fk (zTo σ) L f) sz) q.1 τ t) (va_A (TWs q cG cK cR fr fg fk (zTo σ) L f) sz)) 0 0 (va_A (TWs q cG cK cR fr fg fk (zTo σ) L f) sz) := by
  refine Met.ofW (cc := cX4_put) (maxL := 7) (ret := (some .int)) (by decide) rfl ?_
  intro p e s m args below meth c s₁ B hml hv
  obtain ⟨rfl, hsz, hP, hK, hD0, hE⟩ := hv
  have hx := B.exec
  have hb := B.bytes
  have hr := B.returns
  have hts := atoms_spec (ws := wsX4_put) B.pre
  have hown : s.vm.findClass RX4 = some m.cls := findClass_of_methodNamed B.named
  have hlocks := B.notSynchronized
  have hN1 := hI.1
  have hN2 := hI.2.1
  subst hsz
  have hD := hD0.self (sz := s.heap.size)
  generalize hAe : va_A (TWs q cG cK cR fr fg fk (zTo σ) L f) s.heap.size = A at hD hE ⊢
  have hA : ∀ z : Nat, s.heap.size ≤ z → A z := fun z h => by rw [← hAe]; exact Or.inr h
  have hS : va_S A s.heap s.heap [] := va_S.rf
  have hl := lv_entry ([.ref q.1, .int x, .int (b2i w), .int i, .long b]) (n := 7) (Nat.le_of_ble_eq_true rfl)
  rw [lg_entry_eq]
  generalize (lg_sl ([.ref q.1, .int x, .int (b2i w), .int i, .long b]) ++ List.replicate (7 - (lg_sl ([.ref q.1, .int x, .int (b2i w), .int i, .long b])).length) Slot.unset).toArray = ls at hl ⊢
  have hl : lv_has ls 7 [(0, .ref q.1), (1, .int x), (2, .int (b2i w)), (3, .int i), (4, .long b)] := hl
  refine lv_iload_n hx hb dX4_put_0 rfl (lv_at hl 1 rfl) ?_
  refine lv_bipush (v := 8) hx hb dX4_put_1 (by decide) ?_
  refine cs_0 (As := [.int x, .int (8 : Int32)]) (rest := []) ⟨hx, hb, hml, hown, hts⟩ (mX4_isBelowN l x (8 : Int32) 8 rfl (by decide)) (va_cwS 2 hts gX4_put_X4_isBelow rfl rfl rfl (by decide +kernel) ⟨Nat.le_of_ble_eq_true rfl, Nat.le_of_ble_eq_true rfl⟩) rfl rfl hl.1 (Nat.le_of_ble_eq_true rfl) dX4_put_3 (Nat.zero_le _) (Nat.zero_le _) ?_
  refine w_beq (tgt := 21) hx hb dX4_put_6 (by decide) (fun c_1 => ?_) (fun c_1 => ?_)
  · refine lv_iconst (v := -1) hx hb dX4_put_21 (by decide) ?_
    exact W.iret hx hb hr (fun t ht hW => ⟨⟨_, σ, rfl, (by unfold oPut; (try unfold itm); (try simp only [if_neg c_1, Option.getD_some, reduceCtorEq, if_true, if_false, Option.isNone_some, Option.isNone_none, Bool.false_or, Bool.true_or, Bool.not_true, Bool.not_false]); try rfl), ⟨_, _, _, _, _, _, _, _, _, _, _, rfl, by rw [ht]; exact hP, hD, hR⟩⟩, hS.F ht⟩) hS.2.2 dX4_put_22
  · obtain ⟨kx, hkx, rfl⟩ := ixb_some c_1 (by decide)
    refine lv_iload_n hx hb dX4_put_9 rfl (lv_at hl 2 rfl) ?_
    refine cs_w (As := [.int (b2i w)]) (rest := []) ⟨hx, hb, hml, hown, hts⟩ (mX4_widthOf l ad w) (va_cwS 1 hts gX4_put_X4_widthOf rfl rfl rfl (by decide +kernel) ⟨Nat.le_of_ble_eq_true rfl, Nat.le_of_ble_eq_true rfl⟩) hE hS rfl rfl hl.1 (Nat.le_of_ble_eq_true rfl) dX4_put_10 (Nat.zero_le _) (Nat.zero_le _) ?_
    refine lv_lload hx hb dX4_put_13 (lv_at hl 4 rfl) ?_
    refine cv_w (As := [.long b]) (rest := []) ⟨hx, hb, hml, hown, hts⟩ (mX3_isNumber l ad (fX4_widthOf w) (wi_lt w) b) (cwV 1 hts gX4_put_X3_isNumber rfl rfl rfl (by decide +kernel) ⟨Nat.le_of_ble_eq_true rfl, Nat.le_of_ble_eq_true rfl⟩) hE hS (wi_lt w) rfl rfl hl.1 (Nat.le_of_ble_eq_true rfl) dX4_put_15 (Nat.zero_le _) (Nat.zero_le _) ?_
    refine w_bne (tgt := 23) hx hb dX4_put_18 (by decide) (fun c_2 => ?_) (fun c_2 => ?_)
    · have gc_2 := c_2; rw [A_num] at gc_2
      refine lv_aload_n hx hb dX4_put_23 rfl (lv_at hl 0 rfl) ?_
      refine lv_iload_n hx hb dX4_put_24 rfl (lv_at hl 1 rfl) ?_
      refine lv_iload_n hx hb dX4_put_25 rfl (lv_at hl 2 rfl) ?_
      refine lv_iload_n hx hb dX4_put_26 rfl (lv_at hl 3 rfl) ?_
      refine ct_w (q0 := 0) (As := [.int (nI kx), .int (b2i w), .int i]) (rest := []) ⟨hx, hb, hml, hown, hts⟩ (mX4_failureOfItem l dC dI ad q cJ cG cK cR cI cZ cD fr fg fk L f ra rb ka kb hf σ hR N0 hI hN kx (by omega) w i) (cwV 3 hts gX4_put_X4_failureOfItem rfl rfl rfl (by decide +kernel) ⟨Nat.le_of_ble_eq_true rfl, Nat.le_of_ble_eq_true rfl⟩) hK hP hE hS rfl rfl rfl rfl hl.1 (Nat.le_of_ble_eq_true rfl) dX4_put_27 (Nat.zero_le _) (Nat.zero_le _) ?_
      refine lv_istore (lv' := [(6, .int (fl (askI σ kx w i))), (0, .ref q.1), (1, .int (nI kx)), (2, .int (b2i w)), (3, .int i), (4, .long b)]) hx hb dX4_put_30 hl (by decide) rfl (fun ls hl => ?_)
      refine lv_iload hx hb dX4_put_32 (lv_at hl 0 rfl) ?_
      refine lv_if_eq (tgt := 40) hx hb dX4_put_34 (by decide) (fun c_3 => ?_) (fun c_3 => ?_)
      · have gc_3 := fl_I c_3
        obtain ⟨akx, ki, hpakx, hwakx, hki, rfl⟩ := askI_0 hI gc_3
        have hbakx := hI.2.2.1 _ _ hpakx
        have hsakx := hI.2.2.2.1 akx
        obtain ⟨reakx, rmakx, rfakx, imakx, jfakx⟩ := tr_some hR (by omega) hpakx hbakx
        refine lv_aload_n hx hb dX4_put_40 rfl (lv_at hl 1 rfl) ?_
        refine va_get (D := (dC, dI)) (ci := 4) (v := .ref q.2.1) (C := RX4) (T := TX4) (N := 4) hx hb hts (fun w h => List.mem_cons_of_mem _ (List.mem_append_left _ (List.mem_append_right _ h))) hown hK hP 0 rfl rfl 0 (by decide) (hts (.fieldLink RX4 11 "TideGauges" "rows" "[LTideGauges$Row;") (List.mem_of_getElem? (i := 1) rfl)) (fun _ h9 => h9) rfl dX4_put_41 ?_
        refine lv_iload_n hx hb dX4_put_44 rfl (lv_at hl 2 rfl) ?_
        refine x_aldq (C := "TideGauges$Row") hx hb hK hP 1 3 rfl rfl (k := kx) rfl (by omega) (by decide) (v := .ref (ra akx)) (by rw [reakx]; rfl) dX4_put_45 ?_
        refine pl_get (ci := 2) (v := .ref (rb akx)) (C := RX2) (T := TX2) (N := 2) hx hb hts (fun w h => List.mem_cons_of_mem _ (List.mem_append_right _ h)) hown hK hP rmakx rfakx rfl 1 (by decide) (hts (.fieldLink RX4 52 "TideGauges$Row" "items" "[J") (List.mem_of_getElem? (i := 2) rfl)) (fun _ h9 => h9) rfl dX4_put_46 ?_
        refine lv_iload_n hx hb dX4_put_49 rfl (lv_at hl 4 rfl) ?_
        refine lv_iload_n hx hb dX4_put_50 rfl (lv_at hl 3 rfl) ?_
        refine cs_w (As := [.int (b2i w)]) (rest := [.int (nI ki), .ref (rb akx)]) ⟨hx, hb, hml, hown, hts⟩ (mX4_widthOf l ad w) (va_cwS 1 hts gX4_put_X4_widthOf rfl rfl rfl (by decide +kernel) ⟨Nat.le_of_ble_eq_true rfl, Nat.le_of_ble_eq_true rfl⟩) hE hS rfl rfl hl.1 (Nat.le_of_ble_eq_true rfl) dX4_put_51 (Nat.zero_le _) (Nat.zero_le _) ?_
        refine lv_lload hx hb dX4_put_54 (lv_at hl 5 rfl) ?_
        refine cv_w (As := [.long b]) (rest := [.int (nI ki), .ref (rb akx)]) ⟨hx, hb, hml, hown, hts⟩ (mX3_asTold l ad (fX4_widthOf w) (wi_lt w) b) (cwV 1 hts gX4_put_X3_asTold rfl rfl rfl (by decide +kernel) ⟨Nat.le_of_ble_eq_true rfl, Nat.le_of_ble_eq_true rfl⟩) hE hS (wi_lt w) rfl rfl hl.1 (Nat.le_of_ble_eq_true rfl) dX4_put_56 (Nat.zero_le _) (Nat.zero_le _) ?_
        refine lv_topl (fun z_4 hz_4 => ?_)
        refine pl_last hx hb hK hP hD hS 0 imakx jfakx rfl (k := ki) rfl (by omega) (by omega) dX4_put_59 (fun H locs hP hD hS => ?_)
        have hP : va_P (dC, dI) vwCl (TWs q cG cK cR fr fg fk (zTo σ) L (va_up f (rb akx) (.inl (cJ, zRn σ akx, .inr (.inl (vp_updL (zRi σ akx) ki z_4)))))) _ := hP
        have hD : va_D A (TWs q cG cK cR fr fg fk (zTo σ) L (va_up f (rb akx) (.inl (cJ, zRn σ akx, .inr (.inl (vp_updL (zRi σ akx) ki z_4)))))) := hD
        have hR : TRel ad cJ cG fr fg fk L (va_up f (rb akx) (.inl (cJ, zRn σ akx, .inr (.inl (vp_updL (zRi σ akx) ki z_4))))) ra rb ka kb hf (uIt σ akx ki z_4) := TRel_it hR hbakx ki z_4
        refine lv_iconst (v := 1) hx hb dX4_put_60 (by decide) ?_
        exact W.iret hx hb hr (fun t ht hW => ⟨⟨_, (uIt σ akx ki z_4), rfl, (by unfold oPut; (try unfold itm); (try simp only [if_pos c_1, if_pos gc_2, if_pos c_3, if_pos gc_3, nI_clamp (show kx < 2 ^ 31 by omega), nI_clamp (show ki < 2 ^ 31 by omega), hpakx, A_told, hz_4, Option.getD_some, reduceCtorEq, if_true, if_false, Option.isNone_some, Option.isNone_none, Bool.false_or, Bool.true_or, Bool.not_true, Bool.not_false]); try rfl), ⟨_, _, _, _, _, _, _, _, _, _, _, rfl, by rw [ht]; exact hP, hD, hR⟩⟩, hS.F ht⟩) hS.2.2 dX4_put_61
      · have gc_3 := fl_n c_3
        refine lv_iload hx hb dX4_put_37 (lv_at hl 0 rfl) ?_
        exact W.iret hx hb hr (fun t ht hW => ⟨⟨_, σ, rfl, (by unfold oPut; (try unfold itm); (try simp only [if_pos c_1, if_pos gc_2, if_neg c_3, if_neg gc_3.1, nI_clamp (show kx < 2 ^ 31 by omega), gc_3.2, Option.getD_some, reduceCtorEq, if_true, if_false, Option.isNone_some, Option.isNone_none, Bool.false_or, Bool.true_or, Bool.not_true, Bool.not_false]); try rfl), ⟨_, _, _, _, _, _, _, _, _, _, _, rfl, by rw [ht]; exact hP, hD, hR⟩⟩, hS.F ht⟩) hS.2.2 dX4_put_39
    · have gc_2 := c_2; rw [A_num] at gc_2
      refine lv_iconst (v := -1) hx hb dX4_put_21 (by decide) ?_
      exact W.iret hx hb hr (fun t ht hW => ⟨⟨_, σ, rfl, (by unfold oPut; (try unfold itm); (try simp only [if_pos c_1, if_neg gc_2, nI_clamp (show kx < 2 ^ 31 by omega), Option.getD_some, reduceCtorEq, if_true, if_false, Option.isNone_some, Option.isNone_none, Bool.false_or, Bool.true_or, Bool.not_true, Bool.not_false]); try rfl), ⟨_, _, _, _, _, _, _, _, _, _, _, rfl, by rw [ht]; exact hP, hD, hR⟩⟩, hS.F ht⟩) hS.2.2 dX4_put_22
set_option maxHeartbeats 8000000 in
set_option maxRecDepth 100000 in
theorem mX4_get (l : Launch) (dC : Nat → ClassId) (dI : Nat → Nat → Nat) (ad : Nat → Nat) (q : Aq) (cJ cG cK cR cI cZ cD : ClassId) (fr fg fk : Nat → Option Nat) (L : List Nat) (f : Nat → va_E) (ra rb ka kb : Nat → Nat) (hf : Nat → Nat → Option Nat) (σ : St) (hR : TRel ad cJ cG fr fg fk L f ra rb ka kb hf σ) (N0 : Nat) (hI : Inv σ N0) (hN : N0 ≤ 512) (sz : Nat) (x : Int32) (w : Bool) (i : Int32) : Met l yX4_get wsX4_get ({ frames := 3, cells := 0, slots := 0, locals := 67 }) (va_Pc [.ref q.1, .int x, .int (b2i w), .int i] (fun U => U.heap.size = sz ∧ va_P (dC, dI) vwCl (TWs q cG cK cR fr fg fk (zTo σ) L f) U.heap ∧ va_K (dC, dI) vwCl (tys0 cJ cG cK cR cI cZ cD) U ∧ va_D (fun _ => True) (TWs q cG cK cR fr fg fk (zTo σ) L f) ∧ EN ad (va_A (TWs q cG cK cR fr fg fk (zTo σ) L f) sz) U U.heap)) (va_Qi (fun (r : Int32) (τ : St) => (r, τ) = oGet σ x w i) (fun τ t => TP dC dI ad cJ cG cK cR (va_A (TWs q cG cK cR fr fg fk (zTo σ) L f) sz) q.1 τ t) (va_A (TWs q cG cK cR fr fg fk (zTo σ) L f) sz)) 0 0 (va_A (TWs q cG cK cR fr fg fk (zTo σ) L f) sz) := by
  refine Met.ofW (cc := cX4_get) (maxL := 5) (ret := (some .int)) (by decide) rfl ?_
  intro p e s m args below meth c s₁ B hml hv
  obtain ⟨rfl, hsz, hP, hK, hD0, hE⟩ := hv
  have hx := B.exec
  have hb := B.bytes
  have hr := B.returns
  have hts := atoms_spec (ws := wsX4_get) B.pre
  have hown : s.vm.findClass RX4 = some m.cls := findClass_of_methodNamed B.named
  have hlocks := B.notSynchronized
  have hN1 := hI.1
  have hN2 := hI.2.1
  subst hsz
  have hD := hD0.self (sz := s.heap.size)
  generalize hAe : va_A (TWs q cG cK cR fr fg fk (zTo σ) L f) s.heap.size = A at hD hE ⊢
  have hA : ∀ z : Nat, s.heap.size ≤ z → A z := fun z h => by rw [← hAe]; exact Or.inr h
  have hS : va_S A s.heap s.heap [] := va_S.rf
  have hl := lv_entry ([.ref q.1, .int x, .int (b2i w), .int i]) (n := 5) (Nat.le_of_ble_eq_true rfl)
  rw [lg_entry_eq]
  generalize (lg_sl ([.ref q.1, .int x, .int (b2i w), .int i]) ++ List.replicate (5 - (lg_sl ([.ref q.1, .int x, .int (b2i w), .int i])).length) Slot.unset).toArray = ls at hl ⊢
  have hl : lv_has ls 5 [(0, .ref q.1), (1, .int x), (2, .int (b2i w)), (3, .int i)] := hl
  refine lv_iload_n hx hb dX4_get_0 rfl (lv_at hl 1 rfl) ?_
  refine lv_bipush (v := 8) hx hb dX4_get_1 (by decide) ?_
  refine cs_0 (As := [.int x, .int (8 : Int32)]) (rest := []) ⟨hx, hb, hml, hown, hts⟩ (mX4_isBelowN l x (8 : Int32) 8 rfl (by decide)) (va_cwS 2 hts gX4_get_X4_isBelow rfl rfl rfl (by decide +kernel) ⟨Nat.le_of_ble_eq_true rfl, Nat.le_of_ble_eq_true rfl⟩) rfl rfl hl.1 (Nat.le_of_ble_eq_true rfl) dX4_get_3 (Nat.zero_le _) (Nat.zero_le _) ?_
  refine w_bne (tgt := 11) hx hb dX4_get_6 (by decide) (fun c_1 => ?_) (fun c_1 => ?_)
  · obtain ⟨kx, hkx, rfl⟩ := ixb_some c_1 (by decide)
    refine lv_aload_n hx hb dX4_get_11 rfl (lv_at hl 0 rfl) ?_
    refine lv_iload_n hx hb dX4_get_12 rfl (lv_at hl 1 rfl) ?_
    refine lv_iload_n hx hb dX4_get_13 rfl (lv_at hl 2 rfl) ?_
    refine lv_iload_n hx hb dX4_get_14 rfl (lv_at hl 3 rfl) ?_
    refine ct_w (q0 := 0) (As := [.int (nI kx), .int (b2i w), .int i]) (rest := []) ⟨hx, hb, hml, hown, hts⟩ (mX4_failureOfItem l dC dI ad q cJ cG cK cR cI cZ cD fr fg fk L f ra rb ka kb hf σ hR N0 hI hN kx (by omega) w i) (cwV 3 hts gX4_get_X4_failureOfItem rfl rfl rfl (by decide +kernel) ⟨Nat.le_of_ble_eq_true rfl, Nat.le_of_ble_eq_true rfl⟩) hK hP hE hS rfl rfl rfl rfl hl.1 (Nat.le_of_ble_eq_true rfl) dX4_get_15 (Nat.zero_le _) (Nat.zero_le _) ?_
    refine lv_istore (lv' := [(4, .int (fl (askI σ kx w i))), (0, .ref q.1), (1, .int (nI kx)), (2, .int (b2i w)), (3, .int i)]) hx hb dX4_get_18 hl (by decide) rfl (fun ls hl => ?_)
    refine lv_iload hx hb dX4_get_20 (lv_at hl 0 rfl) ?_
    refine lv_if_eq (tgt := 28) hx hb dX4_get_22 (by decide) (fun c_2 => ?_) (fun c_2 => ?_)
    · have gc_2 := fl_I c_2
      obtain ⟨akx, ki, hpakx, hwakx, hki, rfl⟩ := askI_0 hI gc_2
      have hbakx := hI.2.2.1 _ _ hpakx
      have hsakx := hI.2.2.2.1 akx
      obtain ⟨reakx, rmakx, rfakx, imakx, jfakx⟩ := tr_some hR (by omega) hpakx hbakx
      refine lv_aload_n hx hb dX4_get_28 rfl (lv_at hl 1 rfl) ?_
      refine lv_aload_n hx hb dX4_get_29 rfl (lv_at hl 1 rfl) ?_
      refine va_get (D := (dC, dI)) (ci := 4) (v := .ref q.2.1) (C := RX4) (T := TX4) (N := 4) hx hb hts (fun w h => List.mem_cons_of_mem _ (List.mem_append_left _ (List.mem_append_right _ h))) hown hK hP 0 rfl rfl 0 (by decide) (hts (.fieldLink RX4 11 "TideGauges" "rows" "[LTideGauges$Row;") (List.mem_of_getElem? (i := 1) rfl)) (fun _ h9 => h9) rfl dX4_get_30 ?_
      refine lv_iload_n hx hb dX4_get_33 rfl (lv_at hl 2 rfl) ?_
      refine x_aldq (C := "TideGauges$Row") hx hb hK hP 1 3 rfl rfl (k := kx) rfl (by omega) (by decide) (v := .ref (ra akx)) (by rw [reakx]; rfl) dX4_get_34 ?_
      refine pl_get (ci := 2) (v := .ref (rb akx)) (C := RX2) (T := TX2) (N := 2) hx hb hts (fun w h => List.mem_cons_of_mem _ (List.mem_append_right _ h)) hown hK hP rmakx rfakx rfl 1 (by decide) (hts (.fieldLink RX4 52 "TideGauges$Row" "items" "[J") (List.mem_of_getElem? (i := 2) rfl)) (fun _ h9 => h9) rfl dX4_get_35 ?_
      refine lv_iload_n hx hb dX4_get_38 rfl (lv_at hl 4 rfl) ?_
      refine pl_lald hx hb hK hP 0 imakx jfakx rfl (k := ki) rfl (by omega) (by omega) (v := (zRi σ akx ki)) rfl dX4_get_39 ?_
      refine lv_topl (fun z_3 hz_3 => ?_)
      refine ct_s (mc := 0) (ms := 0) (q0 := 0) (As := [.long z_3]) (rest := []) ⟨hx, hb, hml, hown, hts⟩ (mX4_tell l dC dI (tys0 cJ cG cK cR cI cZ cD) (TWs q cG cK cR fr fg fk (zTo σ) L f) q.1 (.ref q.2.1) (.ref q.2.2.1) (.ref q.2.2.2) (zTo σ) _ z_3 rfl) (cwV 1 hts gX4_get_X4_tell rfl rfl rfl (by decide +kernel) ⟨Nat.le_of_ble_eq_true rfl, Nat.le_of_ble_eq_true rfl⟩) hK hP hD hS hA rfl rfl rfl rfl hl.1 (Nat.le_of_ble_eq_true rfl) dX4_get_40 ⟨Nat.le_of_ble_eq_true rfl, Nat.le_of_ble_eq_true rfl⟩ (fun r1 u1 t1 H1 locs1 ht1 hr1 hB1 hS1 => ?_)
      obtain rfl := hr1
      rw [ht1] at hB1
      have hD2 := hB1.2.weaken (fun _ _ _ h9 => fr_all hD hS hA _ h9)
      have hP := hB1.1
      have hD := hD2
      have hS := hS1
      have hP : va_P (dC, dI) vwCl (TWs q cG cK cR fr fg fk z_3 L f) _ := hP
      have hD : va_D A (TWs q cG cK cR fr fg fk z_3 L f) := hD
      have hR : TRel ad cJ cG fr fg fk L f ra rb ka kb hf (uTo σ z_3) := TRel_to hR z_3
      exact W.iret hx hb hr (fun t ht hW => ⟨⟨_, (uTo σ z_3), rfl, (by unfold oGet; (try unfold itm); (try simp only [if_pos c_1, if_pos c_2, if_pos gc_2, nI_clamp (show kx < 2 ^ 31 by omega), nI_clamp (show ki < 2 ^ 31 by omega), hpakx, hz_3, Option.getD_some, reduceCtorEq, if_true, if_false, Option.isNone_some, Option.isNone_none, Bool.false_or, Bool.true_or, Bool.not_true, Bool.not_false]); try rfl), ⟨_, _, _, _, _, _, _, _, _, _, _, rfl, by rw [ht]; exact hP, hD, hR⟩⟩, hS.F ht⟩) hS.2.2 dX4_get_43
    · have gc_2 := fl_n c_2
      refine lv_iload hx hb dX4_get_25 (lv_at hl 0 rfl) ?_
      exact W.iret hx hb hr (fun t ht hW => ⟨⟨_, σ, rfl, (by unfold oGet; (try unfold itm); (try simp only [if_pos c_1, if_neg c_2, if_neg gc_2.1, nI_clamp (show kx < 2 ^ 31 by omega), gc_2.2, Option.getD_some, reduceCtorEq, if_true, if_false, Option.isNone_some, Option.isNone_none, Bool.false_or, Bool.true_or, Bool.not_true, Bool.not_false]); try rfl), ⟨_, _, _, _, _, _, _, _, _, _, _, rfl, by rw [ht]; exact hP, hD, hR⟩⟩, hS.F ht⟩) hS.2.2 dX4_get_27
  · refine lv_iconst (v := -1) hx hb dX4_get_9 (by decide) ?_
    exact W.iret hx hb hr (fun t ht hW => ⟨⟨_, σ, rfl, (by unfold oGet; (try unfold itm); (try simp only [if_neg c_1, Option.getD_some, reduceCtorEq, if_true, if_false, Option.isNone_some, Option.isNone_none, Bool.false_or, Bool.true_or, Bool.not_true, Bool.not_false]); try rfl), ⟨_, _, _, _, _, _, _, _, _, _, _, rfl, by rw [ht]; exact hP, hD, hR⟩⟩, hS.F ht⟩) hS.2.2 dX4_get_10
set_option maxHeartbeats 8000000 in
set_option maxRecDepth 100000 in
theorem mX4_rest (l : Launch) (dC : Nat → ClassId) (dI : Nat → Nat → Nat) (ad : Nat → Nat) (q : Aq) (cJ cG cK cR cI cZ cD : ClassId) (fr fg fk : Nat → Option Nat) (L : List Nat) (f : Nat → va_E) (ra rb ka kb : Nat → Nat) (hf : Nat → Nat → Option Nat) (σ : St) (hR : TRel ad cJ cG fr fg fk L f ra rb ka kb hf σ) (N0 : Nat) (hI : Inv σ N0) (hN : N0 ≤ 512) (sz : Nat) (x : Int32) (w : Bool) (i : Int32) (j : Int32) : Met l yX4_rest wsX4_rest ({ frames := 3, cells := 0, slots := 0, locals := 87 }) (va_Pc [.ref q.1, .int x, .int (b2i w), .int i, .int j] (fun U => U.heap.size = sz ∧ va_P (dC, dI) vwCl (TWs q cG cK cR fr fg fk (zTo σ) L f) U.heap ∧ va_K (dC, dI) vwCl (tys0 cJ cG cK cR cI cZ cD) U ∧ va_D (fun _ => True) (TWs q cG cK cR fr fg fk (zTo σ) L f) ∧ EN ad (va_A (TWs q cG cK cR fr fg fk (zTo σ) L f) sz) U U.heap)) (va_Qi (fun (r : Int32) (τ : St) => (r, τ) = oRest σ x w i j) (fun τ t => TP dC dI ad cJ cG cK cR (va_A (TWs q cG cK cR fr fg fk (zTo σ) L f) sz) q.1 τ t) (va_A (TWs q cG cK cR fr fg fk (zTo σ) L f) sz)) 0 0 (va_A (TWs q cG cK cR fr fg fk (zTo σ) L f) sz) := by
  refine Met.ofW (cc := cX4_rest) (maxL := 11) (ret := (some .int)) (by decide) rfl ?_
  intro p e s m args below meth c s₁ B hml hv
  obtain ⟨rfl, hsz, hP, hK, hD0, hE⟩ := hv
  have hx := B.exec
  have hb := B.bytes
  have hr := B.returns
  have hts := atoms_spec (ws := wsX4_rest) B.pre
  have hown : s.vm.findClass RX4 = some m.cls := findClass_of_methodNamed B.named
  have hlocks := B.notSynchronized
  have hN1 := hI.1
  have hN2 := hI.2.1
  subst hsz
  have hD := hD0.self (sz := s.heap.size)
  generalize hAe : va_A (TWs q cG cK cR fr fg fk (zTo σ) L f) s.heap.size = A at hD hE ⊢
  have hA : ∀ z : Nat, s.heap.size ≤ z → A z := fun z h => by rw [← hAe]; exact Or.inr h
  have hS : va_S A s.heap s.heap [] := va_S.rf
  have hl := lv_entry ([.ref q.1, .int x, .int (b2i w), .int i, .int j]) (n := 11) (Nat.le_of_ble_eq_true rfl)
  rw [lg_entry_eq]
  generalize (lg_sl ([.ref q.1, .int x, .int (b2i w), .int i, .int j]) ++ List.replicate (11 - (lg_sl ([.ref q.1, .int x, .int (b2i w), .int i, .int j])).length) Slot.unset).toArray = ls at hl ⊢
  have hl : lv_has ls 11 [(0, .ref q.1), (1, .int x), (2, .int (b2i w)), (3, .int i), (4, .int j)] := hl
  refine lv_iload_n hx hb dX4_rest_0 rfl (lv_at hl 1 rfl) ?_
  refine lv_bipush (v := 8) hx hb dX4_rest_1 (by decide) ?_
  refine cs_0 (As := [.int x, .int (8 : Int32)]) (rest := []) ⟨hx, hb, hml, hown, hts⟩ (mX4_isBelowN l x (8 : Int32) 8 rfl (by decide)) (va_cwS 2 hts gX4_rest_X4_isBelow rfl rfl rfl (by decide +kernel) ⟨Nat.le_of_ble_eq_true rfl, Nat.le_of_ble_eq_true rfl⟩) rfl rfl hl.1 (Nat.le_of_ble_eq_true rfl) dX4_rest_3 (Nat.zero_le _) (Nat.zero_le _) ?_
  refine w_bne (tgt := 11) hx hb dX4_rest_6 (by decide) (fun c_1 => ?_) (fun c_1 => ?_)
  · obtain ⟨kx, hkx, rfl⟩ := ixb_some c_1 (by decide)
    refine lv_aload_n hx hb dX4_rest_11 rfl (lv_at hl 0 rfl) ?_
    refine lv_iload_n hx hb dX4_rest_12 rfl (lv_at hl 1 rfl) ?_
    refine lv_iload_n hx hb dX4_rest_13 rfl (lv_at hl 2 rfl) ?_
    refine lv_iload_n hx hb dX4_rest_14 rfl (lv_at hl 3 rfl) ?_
    refine ct_w (q0 := 0) (As := [.int (nI kx), .int (b2i w), .int i]) (rest := []) ⟨hx, hb, hml, hown, hts⟩ (mX4_failureOfItem l dC dI ad q cJ cG cK cR cI cZ cD fr fg fk L f ra rb ka kb hf σ hR N0 hI hN kx (by omega) w i) (cwV 3 hts gX4_rest_X4_failureOfItem rfl rfl rfl (by decide +kernel) ⟨Nat.le_of_ble_eq_true rfl, Nat.le_of_ble_eq_true rfl⟩) hK hP hE hS rfl rfl rfl rfl hl.1 (Nat.le_of_ble_eq_true rfl) dX4_rest_15 (Nat.zero_le _) (Nat.zero_le _) ?_
    refine lv_istore (lv' := [(5, .int (fl (askI σ kx w i))), (0, .ref q.1), (1, .int (nI kx)), (2, .int (b2i w)), (3, .int i), (4, .int j)]) hx hb dX4_rest_18 hl (by decide) rfl (fun ls hl => ?_)
    refine lv_iload hx hb dX4_rest_20 (lv_at hl 0 rfl) ?_
    refine lv_if_ne (tgt := 35) hx hb dX4_rest_22 (by decide) (fun c_2 => ?_) (fun c_2 => ?_)
    · have gc_2 := fl_n c_2
      refine lv_iload hx hb dX4_rest_35 (lv_at hl 0 rfl) ?_
      refine lv_if_eq (tgt := 43) hx hb dX4_rest_37 (by decide) (fun c_3 => ?_) (fun c_3 => ?_)
      · exact absurd c_3 c_2
      refine lv_iload hx hb dX4_rest_40 (lv_at hl 0 rfl) ?_
      exact W.iret hx hb hr (fun t ht hW => ⟨⟨_, σ, rfl, (by unfold oRest; (try unfold itm); (try simp only [if_pos c_1, if_neg c_2, if_neg gc_2.1, nI_clamp (show kx < 2 ^ 31 by omega), gc_2.2, Option.getD_some, reduceCtorEq, if_true, if_false, Option.isNone_some, Option.isNone_none, Bool.false_or, Bool.true_or, Bool.not_true, Bool.not_false]); try rfl), ⟨_, _, _, _, _, _, _, _, _, _, _, rfl, by rw [ht]; exact hP, hD, hR⟩⟩, hS.F ht⟩) hS.2.2 dX4_rest_42
    · have gc_2 := fl_I c_2
      obtain ⟨akx, ki, hpakx, hwakx, hki, rfl⟩ := askI_0 hI gc_2
      have hbakx := hI.2.2.1 _ _ hpakx
      have hsakx := hI.2.2.2.1 akx
      obtain ⟨reakx, rmakx, rfakx, imakx, jfakx⟩ := tr_some hR (by omega) hpakx hbakx
      refine lv_aload_n hx hb dX4_rest_25 rfl (lv_at hl 1 rfl) ?_
      refine lv_iload_n hx hb dX4_rest_26 rfl (lv_at hl 2 rfl) ?_
      refine lv_iload_n hx hb dX4_rest_27 rfl (lv_at hl 3 rfl) ?_
      refine lv_iload hx hb dX4_rest_28 (lv_at hl 5 rfl) ?_
      refine ct_w (q0 := 0) (As := [.int (nI kx), .int (b2i w), .int j]) (rest := []) ⟨hx, hb, hml, hown, hts⟩ (mX4_failureOfItem l dC dI ad q cJ cG cK cR cI cZ cD fr fg fk L f ra rb ka kb hf σ hR N0 hI hN kx (by omega) w j) (cwV 3 hts gX4_rest_X4_failureOfItem rfl rfl rfl (by decide +kernel) ⟨Nat.le_of_ble_eq_true rfl, Nat.le_of_ble_eq_true rfl⟩) hK hP hE hS rfl rfl rfl rfl hl.1 (Nat.le_of_ble_eq_true rfl) dX4_rest_30 (Nat.zero_le _) (Nat.zero_le _) ?_
      refine lv_istore (lv' := [(5, .int (fl (askI σ kx w j))), (0, .ref q.1), (1, .int (nI kx)), (2, .int (b2i w)), (3, .int (nI ki)), (4, .int j)]) hx hb dX4_rest_33 hl (by decide) rfl (fun ls hl => ?_)
      refine lv_iload hx hb dX4_rest_35 (lv_at hl 0 rfl) ?_
      refine lv_if_eq (tgt := 43) hx hb dX4_rest_37 (by decide) (fun c_4 => ?_) (fun c_4 => ?_)
      · have gc_4 := fl_I c_4
        obtain ⟨bkj, kj, hqkj, -, hkj, rfl⟩ := askI_0 hI gc_4
        obtain rfl : akx = bkj := Option.some.inj (hpakx.symm.trans hqkj)
        refine lv_iload_n hx hb dX4_rest_43 rfl (lv_at hl 3 rfl) ?_
        refine cs_w (As := [.int (b2i w)]) (rest := []) ⟨hx, hb, hml, hown, hts⟩ (mX4_widthOf l ad w) (va_cwS 1 hts gX4_rest_X4_widthOf rfl rfl rfl (by decide +kernel) ⟨Nat.le_of_ble_eq_true rfl, Nat.le_of_ble_eq_true rfl⟩) hE hS rfl rfl hl.1 (Nat.le_of_ble_eq_true rfl) dX4_rest_44 (Nat.zero_le _) (Nat.zero_le _) ?_
        refine lv_astore (lv' := [(6, .ref (ad (fX4_widthOf w))), (5, .int (fl (askI σ kx w (nI kj)))), (0, .ref q.1), (1, .int (nI kx)), (2, .int (b2i w)), (3, .int (nI ki)), (4, .int (nI kj))]) hx hb dX4_rest_47 hl (by decide) rfl (fun ls hl => ?_)
        refine lv_aload_n hx hb dX4_rest_49 rfl (lv_at hl 2 rfl) ?_
        refine va_get (D := (dC, dI)) (ci := 4) (v := .ref q.2.1) (C := RX4) (T := TX4) (N := 4) hx hb hts (fun w h => List.mem_cons_of_mem _ (List.mem_append_left _ (List.mem_append_right _ h))) hown hK hP 0 rfl rfl 0 (by decide) (hts (.fieldLink RX4 11 "TideGauges" "rows" "[LTideGauges$Row;") (List.mem_of_getElem? (i := 1) rfl)) (fun _ h9 => h9) rfl dX4_rest_50 ?_
        refine lv_iload_n hx hb dX4_rest_53 rfl (lv_at hl 3 rfl) ?_
        refine x_aldq (C := "TideGauges$Row") hx hb hK hP 1 3 rfl rfl (k := kx) rfl (by omega) (by decide) (v := .ref (ra akx)) (by rw [reakx]; rfl) dX4_rest_54 ?_
        refine pl_get (ci := 2) (v := .ref (rb akx)) (C := RX2) (T := TX2) (N := 2) hx hb hts (fun w h => List.mem_cons_of_mem _ (List.mem_append_right _ h)) hown hK hP rmakx rfakx rfl 1 (by decide) (hts (.fieldLink RX4 52 "TideGauges$Row" "items" "[J") (List.mem_of_getElem? (i := 2) rfl)) (fun _ h9 => h9) rfl dX4_rest_55 ?_
        refine lv_iload_n hx hb dX4_rest_58 rfl (lv_at hl 5 rfl) ?_
        refine pl_lald hx hb hK hP 0 imakx jfakx rfl (k := ki) rfl (by omega) (by omega) (v := (zRi σ akx ki)) rfl dX4_rest_59 ?_
        refine lv_lstore (lv' := [(7, .long (zRi σ akx ki)), (6, .ref (ad (fX4_widthOf w))), (5, .int (fl (askI σ kx w (nI kj)))), (0, .ref q.1), (1, .int (nI kx)), (2, .int (b2i w)), (3, .int (nI ki)), (4, .int (nI kj))]) hx hb dX4_rest_60 hl (by decide) rfl (fun ls hl => ?_)
        refine lv_aload_n hx hb dX4_rest_62 rfl (lv_at hl 3 rfl) ?_
        refine va_get (D := (dC, dI)) (ci := 4) (v := .ref q.2.1) (C := RX4) (T := TX4) (N := 4) hx hb hts (fun w h => List.mem_cons_of_mem _ (List.mem_append_left _ (List.mem_append_right _ h))) hown hK hP 0 rfl rfl 0 (by decide) (hts (.fieldLink RX4 11 "TideGauges" "rows" "[LTideGauges$Row;") (List.mem_of_getElem? (i := 1) rfl)) (fun _ h9 => h9) rfl dX4_rest_63 ?_
        refine lv_iload_n hx hb dX4_rest_66 rfl (lv_at hl 4 rfl) ?_
        refine x_aldq (C := "TideGauges$Row") hx hb hK hP 1 3 rfl rfl (k := kx) rfl (by omega) (by decide) (v := .ref (ra akx)) (by rw [reakx]; rfl) dX4_rest_67 ?_
        refine pl_get (ci := 2) (v := .ref (rb akx)) (C := RX2) (T := TX2) (N := 2) hx hb hts (fun w h => List.mem_cons_of_mem _ (List.mem_append_right _ h)) hown hK hP rmakx rfakx rfl 1 (by decide) (hts (.fieldLink RX4 52 "TideGauges$Row" "items" "[J") (List.mem_of_getElem? (i := 2) rfl)) (fun _ h9 => h9) rfl dX4_rest_68 ?_
        refine lv_iload hx hb dX4_rest_71 (lv_at hl 7 rfl) ?_
        refine pl_lald hx hb hK hP 0 imakx jfakx rfl (k := kj) rfl (by omega) (by omega) (v := (zRi σ akx kj)) rfl dX4_rest_73 ?_
        refine lv_lstore (lv' := [(9, .long (zRi σ akx kj)), (7, .long (zRi σ akx ki)), (6, .ref (ad (fX4_widthOf w))), (5, .int (fl (askI σ kx w (nI kj)))), (0, .ref q.1), (1, .int (nI kx)), (2, .int (b2i w)), (3, .int (nI ki)), (4, .int (nI kj))]) hx hb dX4_rest_74 hl (by decide) rfl (fun ls hl => ?_)
        refine lv_aload hx hb dX4_rest_76 (lv_at hl 2 rfl) ?_
        refine lv_lload hx hb dX4_rest_78 (lv_at hl 0 rfl) ?_
        refine cv_w (As := [.long (zRi σ akx kj)]) (rest := []) ⟨hx, hb, hml, hown, hts⟩ (mX3_isZero l ad (fX4_widthOf w) (wi_lt w) (zRi σ akx kj)) (cwV 1 hts gX4_rest_X3_isZero rfl rfl rfl (by decide +kernel) ⟨Nat.le_of_ble_eq_true rfl, Nat.le_of_ble_eq_true rfl⟩) hE hS (wi_lt w) rfl rfl hl.1 (Nat.le_of_ble_eq_true rfl) dX4_rest_80 (Nat.zero_le _) (Nat.zero_le _) ?_
        refine w_bne (tgt := 96) hx hb dX4_rest_83 (by decide) (fun c_5 => ?_) (fun c_5 => ?_)
        · rw [A_zero (okt_of hI hwakx)] at c_5
          refine lv_bipush (v := -14) hx hb dX4_rest_96 (by decide) ?_
          exact W.iret hx hb hr (fun t ht hW => ⟨⟨_, σ, rfl, (by unfold oRest; (try unfold itm); (try simp only [if_pos c_1, if_pos c_2, if_pos gc_2, if_pos c_4, if_pos gc_4, if_pos c_5, nI_clamp (show kx < 2 ^ 31 by omega), nI_clamp (show ki < 2 ^ 31 by omega), nI_clamp (show kj < 2 ^ 31 by omega), hpakx, Option.getD_some, reduceCtorEq, if_true, if_false, Option.isNone_some, Option.isNone_none, Bool.false_or, Bool.true_or, Bool.not_true, Bool.not_false]); try ((repeat' split) <;> first | rfl | contradiction)), ⟨_, _, _, _, _, _, _, _, _, _, _, rfl, by rw [ht]; exact hP, hD, hR⟩⟩, hS.F ht⟩) hS.2.2 dX4_rest_98
        · rw [A_zero (okt_of hI hwakx)] at c_5
          refine lv_aload hx hb dX4_rest_86 (lv_at hl 2 rfl) ?_
          refine lv_lload hx hb dX4_rest_88 (lv_at hl 1 rfl) ?_
          refine cv_w (As := [.long (zRi σ akx ki)]) (rest := []) ⟨hx, hb, hml, hown, hts⟩ (mX3_isEndless l ad (fX4_widthOf w) (wi_lt w) (zRi σ akx ki)) (cwV 1 hts gX4_rest_X3_isEndless rfl rfl rfl (by decide +kernel) ⟨Nat.le_of_ble_eq_true rfl, Nat.le_of_ble_eq_true rfl⟩) hE hS (wi_lt w) rfl rfl hl.1 (Nat.le_of_ble_eq_true rfl) dX4_rest_90 (Nat.zero_le _) (Nat.zero_le _) ?_
          refine w_beq (tgt := 99) hx hb dX4_rest_93 (by decide) (fun c_6 => ?_) (fun c_6 => ?_)
          · rw [A_endl (okt_of hI hwakx)] at c_6
            refine lv_aload_n hx hb dX4_rest_99 rfl (lv_at hl 4 rfl) ?_
            refine lv_aload hx hb dX4_rest_100 (lv_at hl 2 rfl) ?_
            refine lv_lload hx hb dX4_rest_102 (lv_at hl 1 rfl) ?_
            refine lv_lload hx hb dX4_rest_104 (lv_at hl 0 rfl) ?_
            refine cv_w (As := [.long (zRi σ akx ki), .long (zRi σ akx kj)]) (rest := [.ref q.1]) ⟨hx, hb, hml, hown, hts⟩ (mX3_remainder l ad (fX4_widthOf w) (wi_lt w) (zRi σ akx ki) (zRi σ akx kj)) (cwV 2 hts gX4_rest_X3_remainder rfl rfl rfl (by decide +kernel) ⟨Nat.le_of_ble_eq_true rfl, Nat.le_of_ble_eq_true rfl⟩) hE hS (wi_lt w) rfl rfl hl.1 (Nat.le_of_ble_eq_true rfl) dX4_rest_106 (Nat.zero_le _) (Nat.zero_le _) ?_
            rw [A_rem (okt_of hI hwakx) (okt_of hI hwakx) c_6 c_5]
            refine lv_topl (fun z_7 hz_7 => ?_)
            refine ct_s (mc := 0) (ms := 0) (q0 := 0) (As := [.long z_7]) (rest := []) ⟨hx, hb, hml, hown, hts⟩ (mX4_tell l dC dI (tys0 cJ cG cK cR cI cZ cD) (TWs q cG cK cR fr fg fk (zTo σ) L f) q.1 (.ref q.2.1) (.ref q.2.2.1) (.ref q.2.2.2) (zTo σ) _ z_7 rfl) (cwV 1 hts gX4_rest_X4_tell rfl rfl rfl (by decide +kernel) ⟨Nat.le_of_ble_eq_true rfl, Nat.le_of_ble_eq_true rfl⟩) hK hP hD hS hA rfl rfl rfl rfl hl.1 (Nat.le_of_ble_eq_true rfl) dX4_rest_109 ⟨Nat.le_of_ble_eq_true rfl, Nat.le_of_ble_eq_true rfl⟩ (fun r1 u1 t1 H1 locs1 ht1 hr1 hB1 hS1 => ?_)
            obtain rfl := hr1
            rw [ht1] at hB1
            have hD2 := hB1.2.weaken (fun _ _ _ h9 => fr_all hD hS hA _ h9)
            have hP := hB1.1
            have hD := hD2
            have hS := hS1
            have hP : va_P (dC, dI) vwCl (TWs q cG cK cR fr fg fk z_7 L f) _ := hP
            have hD : va_D A (TWs q cG cK cR fr fg fk z_7 L f) := hD
            have hR : TRel ad cJ cG fr fg fk L f ra rb ka kb hf (uTo σ z_7) := TRel_to hR z_7
            exact W.iret hx hb hr (fun t ht hW => ⟨⟨_, (uTo σ z_7), rfl, (by unfold oRest; (try unfold itm); (try simp only [if_pos c_1, if_pos c_2, if_pos gc_2, if_pos c_4, if_pos gc_4, if_neg c_5, if_neg c_6, nI_clamp (show kx < 2 ^ 31 by omega), nI_clamp (show ki < 2 ^ 31 by omega), nI_clamp (show kj < 2 ^ 31 by omega), hpakx, hz_7, Option.getD_some, reduceCtorEq, if_true, if_false, Option.isNone_some, Option.isNone_none, Bool.false_or, Bool.true_or, Bool.not_true, Bool.not_false]); try rfl), ⟨_, _, _, _, _, _, _, _, _, _, _, rfl, by rw [ht]; exact hP, hD, hR⟩⟩, hS.F ht⟩) hS.2.2 dX4_rest_112
          · rw [A_endl (okt_of hI hwakx)] at c_6
            refine lv_bipush (v := -14) hx hb dX4_rest_96 (by decide) ?_
            exact W.iret hx hb hr (fun t ht hW => ⟨⟨_, σ, rfl, (by unfold oRest; (try unfold itm); (try simp only [if_pos c_1, if_pos c_2, if_pos gc_2, if_pos c_4, if_pos gc_4, if_neg c_5, if_pos c_6, nI_clamp (show kx < 2 ^ 31 by omega), nI_clamp (show ki < 2 ^ 31 by omega), nI_clamp (show kj < 2 ^ 31 by omega), hpakx, Option.getD_some, reduceCtorEq, if_true, if_false, Option.isNone_some, Option.isNone_none, Bool.false_or, Bool.true_or, Bool.not_true, Bool.not_false]); try ((repeat' split) <;> first | rfl | contradiction)), ⟨_, _, _, _, _, _, _, _, _, _, _, rfl, by rw [ht]; exact hP, hD, hR⟩⟩, hS.F ht⟩) hS.2.2 dX4_rest_98
      · have gc_4 := fl_n c_4
        refine lv_iload hx hb dX4_rest_40 (lv_at hl 0 rfl) ?_
        exact W.iret hx hb hr (fun t ht hW => ⟨⟨_, σ, rfl, (by unfold oRest; (try unfold itm); (try simp only [if_pos c_1, if_pos c_2, if_pos gc_2, if_neg c_4, if_neg gc_4.1, nI_clamp (show kx < 2 ^ 31 by omega), nI_clamp (show ki < 2 ^ 31 by omega), hpakx, gc_4.2, Option.getD_some, reduceCtorEq, if_true, if_false, Option.isNone_some, Option.isNone_none, Bool.false_or, Bool.true_or, Bool.not_true, Bool.not_false]); try rfl), ⟨_, _, _, _, _, _, _, _, _, _, _, rfl, by rw [ht]; exact hP, hD, hR⟩⟩, hS.F ht⟩) hS.2.2 dX4_rest_42
  · refine lv_iconst (v := -1) hx hb dX4_rest_9 (by decide) ?_
    exact W.iret hx hb hr (fun t ht hW => ⟨⟨_, σ, rfl, (by unfold oRest; (try unfold itm); (try simp only [if_neg c_1, Option.getD_some, reduceCtorEq, if_true, if_false, Option.isNone_some, Option.isNone_none, Bool.false_or, Bool.true_or, Bool.not_true, Bool.not_false]); try rfl), ⟨_, _, _, _, _, _, _, _, _, _, _, rfl, by rw [ht]; exact hP, hD, hR⟩⟩, hS.F ht⟩) hS.2.2 dX4_rest_10
set_option maxHeartbeats 8000000 in
set_option maxRecDepth 100000 in
theorem mX4_turn (l : Launch) (dC : Nat → ClassId) (dI : Nat → Nat → Nat) (ad : Nat → Nat) (q : Aq) (cJ cG cK cR cI cZ cD : ClassId) (fr fg fk : Nat → Option Nat) (L : List Nat) (f : Nat → va_E) (ra rb ka kb : Nat → Nat) (hf : Nat → Nat → Option Nat) (σ : St) (hR : TRel ad cJ cG fr fg fk L f ra rb ka kb hf σ) (N0 : Nat) (hI : Inv σ N0) (hN : N0 ≤ 512) (sz : Nat) (x : Int32) (w : Bool) (i : Int32) (to : Int32) : Met l yX4_turn wsX4_turn ({ frames := 5, cells := 0, slots := 0, locals := 120 }) (va_Pc [.ref q.1, .int x, .int (b2i w), .int i, .int to] (fun U => U.heap.size = sz ∧ va_P (dC, dI) vwCl (TWs q cG cK cR fr fg fk (zTo σ) L f) U.heap ∧ va_K (dC, dI) vwCl (tys0 cJ cG cK cR cI cZ cD) U ∧ va_D (fun _ => True) (TWs q cG cK cR fr fg fk (zTo σ) L f) ∧ EN ad (va_A (TWs q cG cK cR fr fg fk (zTo σ) L f) sz) U U.heap)) (va_Qi (fun (r : Int32) (τ : St) => (r, τ) = oTurn σ x w i to) (fun τ t => TP dC dI ad cJ cG cK cR (va_A (TWs q cG cK cR fr fg fk (zTo σ) L f) sz) q.1 τ t) (va_A (TWs q cG cK cR fr fg fk (zTo σ) L f) sz)) 0 0 (va_A (TWs q cG cK cR fr fg fk (zTo σ) L f) sz) := by
  refine Met.ofW (cc := cX4_turn) (maxL := 6) (ret := (some .int)) (by decide) rfl ?_
  intro p e s m args below meth c s₁ B hml hv
  obtain ⟨rfl, hsz, hP, hK, hD0, hE⟩ := hv
  have hx := B.exec
  have hb := B.bytes
  have hr := B.returns
  have hts := atoms_spec (ws := wsX4_turn) B.pre
  have hown : s.vm.findClass RX4 = some m.cls := findClass_of_methodNamed B.named
  have hlocks := B.notSynchronized
  have hN1 := hI.1
  have hN2 := hI.2.1
  subst hsz
  have hD := hD0.self (sz := s.heap.size)
  generalize hAe : va_A (TWs q cG cK cR fr fg fk (zTo σ) L f) s.heap.size = A at hD hE ⊢
  have hA : ∀ z : Nat, s.heap.size ≤ z → A z := fun z h => by rw [← hAe]; exact Or.inr h
  have hS : va_S A s.heap s.heap [] := va_S.rf
  have hl := lv_entry ([.ref q.1, .int x, .int (b2i w), .int i, .int to]) (n := 6) (Nat.le_of_ble_eq_true rfl)
  rw [lg_entry_eq]
  generalize (lg_sl ([.ref q.1, .int x, .int (b2i w), .int i, .int to]) ++ List.replicate (6 - (lg_sl ([.ref q.1, .int x, .int (b2i w), .int i, .int to])).length) Slot.unset).toArray = ls at hl ⊢
  have hl : lv_has ls 6 [(0, .ref q.1), (1, .int x), (2, .int (b2i w)), (3, .int i), (4, .int to)] := hl
  refine lv_iload_n hx hb dX4_turn_0 rfl (lv_at hl 1 rfl) ?_
  refine lv_bipush (v := 8) hx hb dX4_turn_1 (by decide) ?_
  refine cs_0 (As := [.int x, .int (8 : Int32)]) (rest := []) ⟨hx, hb, hml, hown, hts⟩ (mX4_isBelowN l x (8 : Int32) 8 rfl (by decide)) (va_cwS 2 hts gX4_turn_X4_isBelow rfl rfl rfl (by decide +kernel) ⟨Nat.le_of_ble_eq_true rfl, Nat.le_of_ble_eq_true rfl⟩) rfl rfl hl.1 (Nat.le_of_ble_eq_true rfl) dX4_turn_3 (Nat.zero_le _) (Nat.zero_le _) ?_
  refine w_beq (tgt := 19) hx hb dX4_turn_6 (by decide) (fun c_1 => ?_) (fun c_1 => ?_)
  · refine lv_iconst (v := -1) hx hb dX4_turn_19 (by decide) ?_
    exact W.iret hx hb hr (fun t ht hW => ⟨⟨_, σ, rfl, (by unfold oTurn; (try unfold itm); (try simp only [if_neg c_1, Option.getD_some, reduceCtorEq, if_true, if_false, Option.isNone_some, Option.isNone_none, Bool.false_or, Bool.true_or, Bool.not_true, Bool.not_false]); try rfl), ⟨_, _, _, _, _, _, _, _, _, _, _, rfl, by rw [ht]; exact hP, hD, hR⟩⟩, hS.F ht⟩) hS.2.2 dX4_turn_20
  · obtain ⟨kx, hkx, rfl⟩ := ixb_some c_1 (by decide)
    refine lv_iload hx hb dX4_turn_9 (lv_at hl 4 rfl) ?_
    refine lv_bipush (v := 7) hx hb dX4_turn_11 (by decide) ?_
    refine cs_0 (As := [.int to, .int (7 : Int32)]) (rest := []) ⟨hx, hb, hml, hown, hts⟩ (mX4_isBelowN l to (7 : Int32) 7 rfl (by decide)) (va_cwS 2 hts gX4_turn_X4_isBelow rfl rfl rfl (by decide +kernel) ⟨Nat.le_of_ble_eq_true rfl, Nat.le_of_ble_eq_true rfl⟩) rfl rfl hl.1 (Nat.le_of_ble_eq_true rfl) dX4_turn_13 (Nat.zero_le _) (Nat.zero_le _) ?_
    refine w_bne (tgt := 21) hx hb dX4_turn_16 (by decide) (fun c_2 => ?_) (fun c_2 => ?_)
    · obtain ⟨kto, hkto, rfl⟩ := ixb_some c_2 (by decide)
      refine lv_aload_n hx hb dX4_turn_21 rfl (lv_at hl 0 rfl) ?_
      refine lv_iload_n hx hb dX4_turn_22 rfl (lv_at hl 1 rfl) ?_
      refine lv_iload_n hx hb dX4_turn_23 rfl (lv_at hl 2 rfl) ?_
      refine lv_iload_n hx hb dX4_turn_24 rfl (lv_at hl 3 rfl) ?_
      refine ct_w (q0 := 0) (As := [.int (nI kx), .int (b2i w), .int i]) (rest := []) ⟨hx, hb, hml, hown, hts⟩ (mX4_failureOfItem l dC dI ad q cJ cG cK cR cI cZ cD fr fg fk L f ra rb ka kb hf σ hR N0 hI hN kx (by omega) w i) (cwV 3 hts gX4_turn_X4_failureOfItem rfl rfl rfl (by decide +kernel) ⟨Nat.le_of_ble_eq_true rfl, Nat.le_of_ble_eq_true rfl⟩) hK hP hE hS rfl rfl rfl rfl hl.1 (Nat.le_of_ble_eq_true rfl) dX4_turn_25 (Nat.zero_le _) (Nat.zero_le _) ?_
      refine lv_istore (lv' := [(5, .int (fl (askI σ kx w i))), (0, .ref q.1), (1, .int (nI kx)), (2, .int (b2i w)), (3, .int i), (4, .int (nI kto))]) hx hb dX4_turn_28 hl (by decide) rfl (fun ls hl => ?_)
      refine lv_iload hx hb dX4_turn_30 (lv_at hl 0 rfl) ?_
      refine lv_if_eq (tgt := 38) hx hb dX4_turn_32 (by decide) (fun c_3 => ?_) (fun c_3 => ?_)
      · have gc_3 := fl_I c_3
        obtain ⟨akx, ki, hpakx, hwakx, hki, rfl⟩ := askI_0 hI gc_3
        have hbakx := hI.2.2.1 _ _ hpakx
        have hsakx := hI.2.2.2.1 akx
        obtain ⟨reakx, rmakx, rfakx, imakx, jfakx⟩ := tr_some hR (by omega) hpakx hbakx
        refine lv_aload_n hx hb dX4_turn_38 rfl (lv_at hl 1 rfl) ?_
        refine lv_iload_n hx hb dX4_turn_39 rfl (lv_at hl 3 rfl) ?_
        refine cs_w (As := [.int (b2i w)]) (rest := [.ref q.1]) ⟨hx, hb, hml, hown, hts⟩ (mX4_widthOf l ad w) (va_cwS 1 hts gX4_turn_X4_widthOf rfl rfl rfl (by decide +kernel) ⟨Nat.le_of_ble_eq_true rfl, Nat.le_of_ble_eq_true rfl⟩) hE hS rfl rfl hl.1 (Nat.le_of_ble_eq_true rfl) dX4_turn_40 (Nat.zero_le _) (Nat.zero_le _) ?_
        refine lv_aload_n hx hb dX4_turn_43 rfl (lv_at hl 1 rfl) ?_
        refine va_get (D := (dC, dI)) (ci := 4) (v := .ref q.2.1) (C := RX4) (T := TX4) (N := 4) hx hb hts (fun w h => List.mem_cons_of_mem _ (List.mem_append_left _ (List.mem_append_right _ h))) hown hK hP 0 rfl rfl 0 (by decide) (hts (.fieldLink RX4 11 "TideGauges" "rows" "[LTideGauges$Row;") (List.mem_of_getElem? (i := 1) rfl)) (fun _ h9 => h9) rfl dX4_turn_44 ?_
        refine lv_iload_n hx hb dX4_turn_47 rfl (lv_at hl 2 rfl) ?_
        refine x_aldq (C := "TideGauges$Row") hx hb hK hP 1 3 rfl rfl (k := kx) rfl (by omega) (by decide) (v := .ref (ra akx)) (by rw [reakx]; rfl) dX4_turn_48 ?_
        refine pl_get (ci := 2) (v := .ref (rb akx)) (C := RX2) (T := TX2) (N := 2) hx hb hts (fun w h => List.mem_cons_of_mem _ (List.mem_append_right _ h)) hown hK hP rmakx rfakx rfl 1 (by decide) (hts (.fieldLink RX4 52 "TideGauges$Row" "items" "[J") (List.mem_of_getElem? (i := 2) rfl)) (fun _ h9 => h9) rfl dX4_turn_49 ?_
        refine lv_iload_n hx hb dX4_turn_52 rfl (lv_at hl 4 rfl) ?_
        refine pl_lald hx hb hK hP 0 imakx jfakx rfl (k := ki) rfl (by omega) (by omega) (v := (zRi σ akx ki)) rfl dX4_turn_53 ?_
        refine lv_iload hx hb dX4_turn_54 (lv_at hl 5 rfl) ?_
        refine cs_w (As := [.ref (ad (fX4_widthOf w)), .long (zRi σ akx ki), .int (nI kto)]) (rest := [.ref q.1]) ⟨hx, hb, hml, hown, hts⟩ (mX4_turned l ad (fX4_widthOf w) (wi_lt w) (zRi σ akx ki) (nI kto)) (va_cwS 3 hts gX4_turn_X4_turned rfl rfl rfl (by decide +kernel) ⟨Nat.le_of_ble_eq_true rfl, Nat.le_of_ble_eq_true rfl⟩) hE hS rfl rfl hl.1 (Nat.le_of_ble_eq_true rfl) dX4_turn_56 (Nat.zero_le _) (Nat.zero_le _) ?_
        rw [A_turn (okt_of hI hwakx)]
        refine lv_topl (fun z_4 hz_4 => ?_)
        refine ct_s (mc := 0) (ms := 0) (q0 := 0) (As := [.long z_4]) (rest := []) ⟨hx, hb, hml, hown, hts⟩ (mX4_tell l dC dI (tys0 cJ cG cK cR cI cZ cD) (TWs q cG cK cR fr fg fk (zTo σ) L f) q.1 (.ref q.2.1) (.ref q.2.2.1) (.ref q.2.2.2) (zTo σ) _ z_4 rfl) (cwV 1 hts gX4_turn_X4_tell rfl rfl rfl (by decide +kernel) ⟨Nat.le_of_ble_eq_true rfl, Nat.le_of_ble_eq_true rfl⟩) hK hP hD hS hA rfl rfl rfl rfl hl.1 (Nat.le_of_ble_eq_true rfl) dX4_turn_59 ⟨Nat.le_of_ble_eq_true rfl, Nat.le_of_ble_eq_true rfl⟩ (fun r1 u1 t1 H1 locs1 ht1 hr1 hB1 hS1 => ?_)
        obtain rfl := hr1
        rw [ht1] at hB1
        have hD2 := hB1.2.weaken (fun _ _ _ h9 => fr_all hD hS hA _ h9)
        have hP := hB1.1
        have hD := hD2
        have hS := hS1
        have hP : va_P (dC, dI) vwCl (TWs q cG cK cR fr fg fk z_4 L f) _ := hP
        have hD : va_D A (TWs q cG cK cR fr fg fk z_4 L f) := hD
        have hR : TRel ad cJ cG fr fg fk L f ra rb ka kb hf (uTo σ z_4) := TRel_to hR z_4
        exact W.iret hx hb hr (fun t ht hW => ⟨⟨_, (uTo σ z_4), rfl, (by unfold oTurn; (try unfold itm); (try simp only [if_pos c_1, if_pos c_2, if_pos c_3, if_pos gc_3, nI_clamp (show kx < 2 ^ 31 by omega), nI_clamp (show kto < 2 ^ 31 by omega), nI_clamp (show ki < 2 ^ 31 by omega), hpakx, hz_4, Option.getD_some, reduceCtorEq, if_true, if_false, Option.isNone_some, Option.isNone_none, Bool.false_or, Bool.true_or, Bool.not_true, Bool.not_false]); try rfl), ⟨_, _, _, _, _, _, _, _, _, _, _, rfl, by rw [ht]; exact hP, hD, hR⟩⟩, hS.F ht⟩) hS.2.2 dX4_turn_62
      · have gc_3 := fl_n c_3
        refine lv_iload hx hb dX4_turn_35 (lv_at hl 0 rfl) ?_
        exact W.iret hx hb hr (fun t ht hW => ⟨⟨_, σ, rfl, (by unfold oTurn; (try unfold itm); (try simp only [if_pos c_1, if_pos c_2, if_neg c_3, if_neg gc_3.1, nI_clamp (show kx < 2 ^ 31 by omega), nI_clamp (show kto < 2 ^ 31 by omega), gc_3.2, Option.getD_some, reduceCtorEq, if_true, if_false, Option.isNone_some, Option.isNone_none, Bool.false_or, Bool.true_or, Bool.not_true, Bool.not_false]); try rfl), ⟨_, _, _, _, _, _, _, _, _, _, _, rfl, by rw [ht]; exact hP, hD, hR⟩⟩, hS.F ht⟩) hS.2.2 dX4_turn_37
    · refine lv_iconst (v := -1) hx hb dX4_turn_19 (by decide) ?_
      exact W.iret hx hb hr (fun t ht hW => ⟨⟨_, σ, rfl, (by unfold oTurn; (try unfold itm); (try simp only [if_pos c_1, if_neg c_2, nI_clamp (show kx < 2 ^ 31 by omega), Option.getD_some, reduceCtorEq, if_true, if_false, Option.isNone_some, Option.isNone_none, Bool.false_or, Bool.true_or, Bool.not_true, Bool.not_false]); try rfl), ⟨_, _, _, _, _, _, _, _, _, _, _, rfl, by rw [ht]; exact hP, hD, hR⟩⟩, hS.F ht⟩) hS.2.2 dX4_turn_20
set_option maxHeartbeats 8000000 in
set_option maxRecDepth 100000 in
theorem mX4_tide (l : Launch) (dC : Nat → ClassId) (dI : Nat → Nat → Nat) (ad : Nat → Nat) (q : Aq) (cJ cG cK cR cI cZ cD : ClassId) (fr fg fk : Nat → Option Nat) (L : List Nat) (f : Nat → va_E) (ra rb ka kb : Nat → Nat) (hf : Nat → Nat → Option Nat) (σ : St) (hR : TRel ad cJ cG fr fg fk L f ra rb ka kb hf σ) (N0 : Nat) (hI : Inv σ N0) (hN : N0 ≤ 512) (sz : Nat) (x : Int32) (w : Bool) (i : Int32) (g : Int32) : Met l yX4_tide wsX4_tide ({ frames := 3, cells := 0, slots := 0, locals := 91 }) (va_Pc [.ref q.1, .int x, .int (b2i w), .int i, .int g] (fun U => U.heap.size = sz ∧ va_P (dC, dI) vwCl (TWs q cG cK cR fr fg fk (zTo σ) L f) U.heap ∧ va_K (dC, dI) vwCl (tys0 cJ cG cK cR cI cZ cD) U ∧ va_D (fun _ => True) (TWs q cG cK cR fr fg fk (zTo σ) L f) ∧ EN ad (va_A (TWs q cG cK cR fr fg fk (zTo σ) L f) sz) U U.heap)) (va_Qi (fun (r : Int32) (τ : St) => (r, τ) = oTide σ x w i g) (fun τ t => TP dC dI ad cJ cG cK cR (va_A (TWs q cG cK cR fr fg fk (zTo σ) L f) sz) q.1 τ t) (va_A (TWs q cG cK cR fr fg fk (zTo σ) L f) sz)) 0 0 (va_A (TWs q cG cK cR fr fg fk (zTo σ) L f) sz) := by
  refine Met.ofW (cc := cX4_tide) (maxL := 12) (ret := (some .int)) (by decide) rfl ?_
  intro p e s m args below meth c s₁ B hml hv
  obtain ⟨rfl, hsz, hP, hK, hD0, hE⟩ := hv
  have hx := B.exec
  have hb := B.bytes
  have hr := B.returns
  have hts := atoms_spec (ws := wsX4_tide) B.pre
  have hown : s.vm.findClass RX4 = some m.cls := findClass_of_methodNamed B.named
  have hlocks := B.notSynchronized
  have hN1 := hI.1
  have hN2 := hI.2.1
  subst hsz
  have hD := hD0.self (sz := s.heap.size)
  generalize hAe : va_A (TWs q cG cK cR fr fg fk (zTo σ) L f) s.heap.size = A at hD hE ⊢
  have hA : ∀ z : Nat, s.heap.size ≤ z → A z := fun z h => by rw [← hAe]; exact Or.inr h
  have hS : va_S A s.heap s.heap [] := va_S.rf
  have hl := lv_entry ([.ref q.1, .int x, .int (b2i w), .int i, .int g]) (n := 12) (Nat.le_of_ble_eq_true rfl)
  rw [lg_entry_eq]
  generalize (lg_sl ([.ref q.1, .int x, .int (b2i w), .int i, .int g]) ++ List.replicate (12 - (lg_sl ([.ref q.1, .int x, .int (b2i w), .int i, .int g])).length) Slot.unset).toArray = ls at hl ⊢
  have hl : lv_has ls 12 [(0, .ref q.1), (1, .int x), (2, .int (b2i w)), (3, .int i), (4, .int g)] := hl
  refine lv_iload_n hx hb dX4_tide_0 rfl (lv_at hl 1 rfl) ?_
  refine lv_bipush (v := 8) hx hb dX4_tide_1 (by decide) ?_
  refine cs_0 (As := [.int x, .int (8 : Int32)]) (rest := []) ⟨hx, hb, hml, hown, hts⟩ (mX4_isBelowN l x (8 : Int32) 8 rfl (by decide)) (va_cwS 2 hts gX4_tide_X4_isBelow rfl rfl rfl (by decide +kernel) ⟨Nat.le_of_ble_eq_true rfl, Nat.le_of_ble_eq_true rfl⟩) rfl rfl hl.1 (Nat.le_of_ble_eq_true rfl) dX4_tide_3 (Nat.zero_le _) (Nat.zero_le _) ?_
  refine w_bne (tgt := 11) hx hb dX4_tide_6 (by decide) (fun c_1 => ?_) (fun c_1 => ?_)
  · obtain ⟨kx, hkx, rfl⟩ := ixb_some c_1 (by decide)
    refine lv_aload_n hx hb dX4_tide_11 rfl (lv_at hl 0 rfl) ?_
    refine lv_iload_n hx hb dX4_tide_12 rfl (lv_at hl 1 rfl) ?_
    refine lv_iload_n hx hb dX4_tide_13 rfl (lv_at hl 2 rfl) ?_
    refine lv_iload_n hx hb dX4_tide_14 rfl (lv_at hl 3 rfl) ?_
    refine ct_w (q0 := 0) (As := [.int (nI kx), .int (b2i w), .int i]) (rest := []) ⟨hx, hb, hml, hown, hts⟩ (mX4_failureOfItem l dC dI ad q cJ cG cK cR cI cZ cD fr fg fk L f ra rb ka kb hf σ hR N0 hI hN kx (by omega) w i) (cwV 3 hts gX4_tide_X4_failureOfItem rfl rfl rfl (by decide +kernel) ⟨Nat.le_of_ble_eq_true rfl, Nat.le_of_ble_eq_true rfl⟩) hK hP hE hS rfl rfl rfl rfl hl.1 (Nat.le_of_ble_eq_true rfl) dX4_tide_15 (Nat.zero_le _) (Nat.zero_le _) ?_
    refine lv_istore (lv' := [(5, .int (fl (askI σ kx w i))), (0, .ref q.1), (1, .int (nI kx)), (2, .int (b2i w)), (3, .int i), (4, .int g)]) hx hb dX4_tide_18 hl (by decide) rfl (fun ls hl => ?_)
    refine lv_iload hx hb dX4_tide_20 (lv_at hl 0 rfl) ?_
    refine lv_if_eq (tgt := 28) hx hb dX4_tide_22 (by decide) (fun c_2 => ?_) (fun c_2 => ?_)
    · have gc_2 := fl_I c_2
      obtain ⟨akx, ki, hpakx, hwakx, hki, rfl⟩ := askI_0 hI gc_2
      have hbakx := hI.2.2.1 _ _ hpakx
      have hsakx := hI.2.2.2.1 akx
      obtain ⟨reakx, rmakx, rfakx, imakx, jfakx⟩ := tr_some hR (by omega) hpakx hbakx
      refine lv_iload_n hx hb dX4_tide_28 rfl (lv_at hl 3 rfl) ?_
      refine cs_w (As := [.int (b2i w)]) (rest := []) ⟨hx, hb, hml, hown, hts⟩ (mX4_widthOf l ad w) (va_cwS 1 hts gX4_tide_X4_widthOf rfl rfl rfl (by decide +kernel) ⟨Nat.le_of_ble_eq_true rfl, Nat.le_of_ble_eq_true rfl⟩) hE hS rfl rfl hl.1 (Nat.le_of_ble_eq_true rfl) dX4_tide_29 (Nat.zero_le _) (Nat.zero_le _) ?_
      refine lv_astore (lv' := [(6, .ref (ad (fX4_widthOf w))), (5, .int (fl (askI σ kx w (nI ki)))), (0, .ref q.1), (1, .int (nI kx)), (2, .int (b2i w)), (3, .int (nI ki)), (4, .int g)]) hx hb dX4_tide_32 hl (by decide) rfl (fun ls hl => ?_)
      refine lv_aload_n hx hb dX4_tide_34 rfl (lv_at hl 2 rfl) ?_
      refine va_get (D := (dC, dI)) (ci := 4) (v := .ref q.2.1) (C := RX4) (T := TX4) (N := 4) hx hb hts (fun w h => List.mem_cons_of_mem _ (List.mem_append_left _ (List.mem_append_right _ h))) hown hK hP 0 rfl rfl 0 (by decide) (hts (.fieldLink RX4 11 "TideGauges" "rows" "[LTideGauges$Row;") (List.mem_of_getElem? (i := 1) rfl)) (fun _ h9 => h9) rfl dX4_tide_35 ?_
      refine lv_iload_n hx hb dX4_tide_38 rfl (lv_at hl 3 rfl) ?_
      refine x_aldq (C := "TideGauges$Row") hx hb hK hP 1 3 rfl rfl (k := kx) rfl (by omega) (by decide) (v := .ref (ra akx)) (by rw [reakx]; rfl) dX4_tide_39 ?_
      refine pl_get (ci := 2) (v := .ref (rb akx)) (C := RX2) (T := TX2) (N := 2) hx hb hts (fun w h => List.mem_cons_of_mem _ (List.mem_append_right _ h)) hown hK hP rmakx rfakx rfl 1 (by decide) (hts (.fieldLink RX4 52 "TideGauges$Row" "items" "[J") (List.mem_of_getElem? (i := 2) rfl)) (fun _ h9 => h9) rfl dX4_tide_40 ?_
      refine lv_astore (lv' := [(7, .ref (rb akx)), (6, .ref (ad (fX4_widthOf w))), (5, .int (fl (askI σ kx w (nI ki)))), (0, .ref q.1), (1, .int (nI kx)), (2, .int (b2i w)), (3, .int (nI ki)), (4, .int g)]) hx hb dX4_tide_43 hl (by decide) rfl (fun ls hl => ?_)
      refine lv_aload hx hb dX4_tide_45 (lv_at hl 0 rfl) ?_
      refine lv_iconst (v := 0) hx hb dX4_tide_47 (by decide) ?_
      refine pl_lald hx hb hK hP 0 imakx jfakx rfl (k := 0) rfl (by omega) (by omega) (v := (zRi σ akx 0)) rfl dX4_tide_48 ?_
      refine lv_lstore (lv' := [(8, .long (zRi σ akx 0)), (7, .ref (rb akx)), (6, .ref (ad (fX4_widthOf w))), (5, .int (fl (askI σ kx w (nI ki)))), (0, .ref q.1), (1, .int (nI kx)), (2, .int (b2i w)), (3, .int (nI ki)), (4, .int g)]) hx hb dX4_tide_49 hl (by decide) rfl (fun ls hl => ?_)
      refine lv_aload hx hb dX4_tide_51 (lv_at hl 2 rfl) ?_
      refine lv_aload hx hb dX4_tide_53 (lv_at hl 1 rfl) ?_
      refine lv_iload_n hx hb dX4_tide_55 rfl (lv_at hl 7 rfl) ?_
      refine pl_lald hx hb hK hP 0 imakx jfakx rfl (k := ki) rfl (by omega) (by omega) (v := (zRi σ akx ki)) rfl dX4_tide_56 ?_
      refine lv_aload hx hb dX4_tide_57 (lv_at hl 2 rfl) ?_
      refine lv_iload hx hb dX4_tide_59 (lv_at hl 8 rfl) ?_
      refine cv_w (As := [.int g]) (rest := [.long (zRi σ akx ki), .ref (ad (fX4_widthOf w))]) ⟨hx, hb, hml, hown, hts⟩ (mX3_nearestEighths l ad (fX4_widthOf w) (wi_lt w) g) (cwV 1 hts gX4_tide_X3_nearestEighths rfl rfl rfl (by decide +kernel) ⟨Nat.le_of_ble_eq_true rfl, Nat.le_of_ble_eq_true rfl⟩) hE hS (wi_lt w) rfl rfl hl.1 (Nat.le_of_ble_eq_true rfl) dX4_tide_61 (Nat.zero_le _) (Nat.zero_le _) ?_
      refine cv_w (As := [.long (zRi σ akx ki), .long (fX3_nearestEighths (fX4_widthOf w) g)]) (rest := []) ⟨hx, hb, hml, hown, hts⟩ (mX3_added l ad (fX4_widthOf w) (wi_lt w) (zRi σ akx ki) (fX3_nearestEighths (fX4_widthOf w) g)) (cwV 2 hts gX4_tide_X3_added rfl rfl rfl (by decide +kernel) ⟨Nat.le_of_ble_eq_true rfl, Nat.le_of_ble_eq_true rfl⟩) hE hS (wi_lt w) rfl rfl hl.1 (Nat.le_of_ble_eq_true rfl) dX4_tide_64 (Nat.zero_le _) (Nat.zero_le _) ?_
      rw [A_more (okt_of hI hwakx)]
      have hfv : FV w (moreE w (fX5_number w (zRi σ akx ki)) g) := more_fv (num_fv (okt_of hI hwakx).1)
      refine lv_lstore (lv' := [(10, .long (fX5_bitsOf w (moreE w (fX5_number w (zRi σ akx ki)) g))), (8, .long (zRi σ akx 0)), (7, .ref (rb akx)), (6, .ref (ad (fX4_widthOf w))), (5, .int (fl (askI σ kx w (nI ki)))), (0, .ref q.1), (1, .int (nI kx)), (2, .int (b2i w)), (3, .int (nI ki)), (4, .int g)]) hx hb dX4_tide_67 hl (by decide) rfl (fun ls hl => ?_)
      refine lv_aload hx hb dX4_tide_69 (lv_at hl 3 rfl) ?_
      refine lv_lload hx hb dX4_tide_71 (lv_at hl 1 rfl) ?_
      refine cv_w (As := [.long (zRi σ akx 0)]) (rest := []) ⟨hx, hb, hml, hown, hts⟩ (mX3_isZero l ad (fX4_widthOf w) (wi_lt w) (zRi σ akx 0)) (cwV 1 hts gX4_tide_X3_isZero rfl rfl rfl (by decide +kernel) ⟨Nat.le_of_ble_eq_true rfl, Nat.le_of_ble_eq_true rfl⟩) hE hS (wi_lt w) rfl rfl hl.1 (Nat.le_of_ble_eq_true rfl) dX4_tide_73 (Nat.zero_le _) (Nat.zero_le _) ?_
      refine w_bne (tgt := 100) hx hb dX4_tide_76 (by decide) (fun c_3 => ?_) (fun c_3 => ?_)
      · rw [A_zero (okt_of hI hwakx)] at c_3
        refine lv_aload hx hb dX4_tide_100 (lv_at hl 2 rfl) ?_
        refine lv_iload_n hx hb dX4_tide_102 rfl (lv_at hl 8 rfl) ?_
        refine lv_lload hx hb dX4_tide_103 (lv_at hl 0 rfl) ?_
        refine lv_topl (fun z_4 hz_4 => ?_)
        refine pl_last hx hb hK hP hD hS 0 imakx jfakx rfl (k := ki) rfl (by omega) (by omega) dX4_tide_105 (fun H locs hP hD hS => ?_)
        have hP : va_P (dC, dI) vwCl (TWs q cG cK cR fr fg fk (zTo σ) L (va_up f (rb akx) (.inl (cJ, zRn σ akx, .inr (.inl (vp_updL (zRi σ akx) ki z_4)))))) _ := hP
        have hD : va_D A (TWs q cG cK cR fr fg fk (zTo σ) L (va_up f (rb akx) (.inl (cJ, zRn σ akx, .inr (.inl (vp_updL (zRi σ akx) ki z_4)))))) := hD
        have hR : TRel ad cJ cG fr fg fk L (va_up f (rb akx) (.inl (cJ, zRn σ akx, .inr (.inl (vp_updL (zRi σ akx) ki z_4))))) ra rb ka kb hf (uIt σ akx ki z_4) := TRel_it hR hbakx ki z_4
        refine lv_aload_n hx hb dX4_tide_106 rfl (lv_at hl 5 rfl) ?_
        refine lv_lload hx hb dX4_tide_107 (lv_at hl 0 rfl) ?_
        refine lv_topl (fun z_5 hz_5 => ?_)
        refine ct_s (mc := 0) (ms := 0) (q0 := 0) (As := [.long z_5]) (rest := []) ⟨hx, hb, hml, hown, hts⟩ (mX4_tell l dC dI (tys0 cJ cG cK cR cI cZ cD) (TWs q cG cK cR fr fg fk (zTo σ) L (va_up f (rb akx) (.inl (cJ, zRn σ akx, .inr (.inl (vp_updL (zRi σ akx) ki z_4)))))) q.1 (.ref q.2.1) (.ref q.2.2.1) (.ref q.2.2.2) (zTo σ) _ z_5 rfl) (cwV 1 hts gX4_tide_X4_tell rfl rfl rfl (by decide +kernel) ⟨Nat.le_of_ble_eq_true rfl, Nat.le_of_ble_eq_true rfl⟩) hK hP hD hS hA rfl rfl rfl rfl hl.1 (Nat.le_of_ble_eq_true rfl) dX4_tide_109 ⟨Nat.le_of_ble_eq_true rfl, Nat.le_of_ble_eq_true rfl⟩ (fun r1 u1 t1 H1 locs1 ht1 hr1 hB1 hS1 => ?_)
        obtain rfl := hr1
        rw [ht1] at hB1
        have hD2 := hB1.2.weaken (fun _ _ _ h9 => fr_all hD hS hA _ h9)
        have hP := hB1.1
        have hD := hD2
        have hS := hS1
        have hP : va_P (dC, dI) vwCl (TWs q cG cK cR fr fg fk z_5 L (va_up f (rb akx) (.inl (cJ, zRn σ akx, .inr (.inl (vp_updL (zRi σ akx) ki z_4)))))) _ := hP
        have hD : va_D A (TWs q cG cK cR fr fg fk z_5 L (va_up f (rb akx) (.inl (cJ, zRn σ akx, .inr (.inl (vp_updL (zRi σ akx) ki z_4)))))) := hD
        have hR : TRel ad cJ cG fr fg fk L (va_up f (rb akx) (.inl (cJ, zRn σ akx, .inr (.inl (vp_updL (zRi σ akx) ki z_4))))) ra rb ka kb hf (uTo (uIt σ akx ki z_4) z_5) := TRel_to hR z_5
        exact W.iret hx hb hr (fun t ht hW => ⟨⟨_, (uTo (uIt σ akx ki z_4) z_5), rfl, (by unfold oTide; (try unfold itm); (try unfold tideN); (try simp only [if_pos c_1, if_pos c_2, if_pos gc_2, if_pos c_3, nI_clamp (show kx < 2 ^ 31 by omega), nI_clamp (show ki < 2 ^ 31 by omega), hpakx, hz_4, hz_5, Option.getD_some, reduceCtorEq, if_true, if_false, Option.isNone_some, Option.isNone_none, Bool.false_or, Bool.true_or, Bool.not_true, Bool.not_false]); try rfl), ⟨_, _, _, _, _, _, _, _, _, _, _, rfl, by rw [ht]; exact hP, hD, hR⟩⟩, hS.F ht⟩) hS.2.2 dX4_tide_112
      · rw [A_zero (okt_of hI hwakx)] at c_3
        refine lv_aload hx hb dX4_tide_79 (lv_at hl 3 rfl) ?_
        refine lv_lload hx hb dX4_tide_81 (lv_at hl 0 rfl) ?_
        refine cv_w (As := [.long (fX5_bitsOf w (moreE w (fX5_number w (zRi σ akx ki)) g))]) (rest := []) ⟨hx, hb, hml, hown, hts⟩ (mX3_isEndless l ad (fX4_widthOf w) (wi_lt w) (fX5_bitsOf w (moreE w (fX5_number w (zRi σ akx ki)) g))) (cwV 1 hts gX4_tide_X3_isEndless rfl rfl rfl (by decide +kernel) ⟨Nat.le_of_ble_eq_true rfl, Nat.le_of_ble_eq_true rfl⟩) hE hS (wi_lt w) rfl rfl hl.1 (Nat.le_of_ble_eq_true rfl) dX4_tide_83 (Nat.zero_le _) (Nat.zero_le _) ?_
        refine w_bne (tgt := 100) hx hb dX4_tide_86 (by decide) (fun c_6 => ?_) (fun c_6 => ?_)
        · rw [A_endl (A_okt hfv), A_back hfv] at c_6
          refine lv_aload hx hb dX4_tide_100 (lv_at hl 2 rfl) ?_
          refine lv_iload_n hx hb dX4_tide_102 rfl (lv_at hl 8 rfl) ?_
          refine lv_lload hx hb dX4_tide_103 (lv_at hl 0 rfl) ?_
          refine lv_topl (fun z_7 hz_7 => ?_)
          refine pl_last hx hb hK hP hD hS 0 imakx jfakx rfl (k := ki) rfl (by omega) (by omega) dX4_tide_105 (fun H locs hP hD hS => ?_)
          have hP : va_P (dC, dI) vwCl (TWs q cG cK cR fr fg fk (zTo σ) L (va_up f (rb akx) (.inl (cJ, zRn σ akx, .inr (.inl (vp_updL (zRi σ akx) ki z_7)))))) _ := hP
          have hD : va_D A (TWs q cG cK cR fr fg fk (zTo σ) L (va_up f (rb akx) (.inl (cJ, zRn σ akx, .inr (.inl (vp_updL (zRi σ akx) ki z_7)))))) := hD
          have hR : TRel ad cJ cG fr fg fk L (va_up f (rb akx) (.inl (cJ, zRn σ akx, .inr (.inl (vp_updL (zRi σ akx) ki z_7))))) ra rb ka kb hf (uIt σ akx ki z_7) := TRel_it hR hbakx ki z_7
          refine lv_aload_n hx hb dX4_tide_106 rfl (lv_at hl 5 rfl) ?_
          refine lv_lload hx hb dX4_tide_107 (lv_at hl 0 rfl) ?_
          refine lv_topl (fun z_8 hz_8 => ?_)
          refine ct_s (mc := 0) (ms := 0) (q0 := 0) (As := [.long z_8]) (rest := []) ⟨hx, hb, hml, hown, hts⟩ (mX4_tell l dC dI (tys0 cJ cG cK cR cI cZ cD) (TWs q cG cK cR fr fg fk (zTo σ) L (va_up f (rb akx) (.inl (cJ, zRn σ akx, .inr (.inl (vp_updL (zRi σ akx) ki z_7)))))) q.1 (.ref q.2.1) (.ref q.2.2.1) (.ref q.2.2.2) (zTo σ) _ z_8 rfl) (cwV 1 hts gX4_tide_X4_tell rfl rfl rfl (by decide +kernel) ⟨Nat.le_of_ble_eq_true rfl, Nat.le_of_ble_eq_true rfl⟩) hK hP hD hS hA rfl rfl rfl rfl hl.1 (Nat.le_of_ble_eq_true rfl) dX4_tide_109 ⟨Nat.le_of_ble_eq_true rfl, Nat.le_of_ble_eq_true rfl⟩ (fun r1 u1 t1 H1 locs1 ht1 hr1 hB1 hS1 => ?_)
          obtain rfl := hr1
          rw [ht1] at hB1
          have hD2 := hB1.2.weaken (fun _ _ _ h9 => fr_all hD hS hA _ h9)
          have hP := hB1.1
          have hD := hD2
          have hS := hS1
          have hP : va_P (dC, dI) vwCl (TWs q cG cK cR fr fg fk z_8 L (va_up f (rb akx) (.inl (cJ, zRn σ akx, .inr (.inl (vp_updL (zRi σ akx) ki z_7)))))) _ := hP
          have hD : va_D A (TWs q cG cK cR fr fg fk z_8 L (va_up f (rb akx) (.inl (cJ, zRn σ akx, .inr (.inl (vp_updL (zRi σ akx) ki z_7)))))) := hD
          have hR : TRel ad cJ cG fr fg fk L (va_up f (rb akx) (.inl (cJ, zRn σ akx, .inr (.inl (vp_updL (zRi σ akx) ki z_7))))) ra rb ka kb hf (uTo (uIt σ akx ki z_7) z_8) := TRel_to hR z_8
          exact W.iret hx hb hr (fun t ht hW => ⟨⟨_, (uTo (uIt σ akx ki z_7) z_8), rfl, (by unfold oTide; (try unfold itm); (try unfold tideN); (try simp only [if_pos c_1, if_pos c_2, if_pos gc_2, if_neg c_3, if_pos c_6, nI_clamp (show kx < 2 ^ 31 by omega), nI_clamp (show ki < 2 ^ 31 by omega), hpakx, hz_7, hz_8, Option.getD_some, reduceCtorEq, if_true, if_false, Option.isNone_some, Option.isNone_none, Bool.false_or, Bool.true_or, Bool.not_true, Bool.not_false]); try rfl), ⟨_, _, _, _, _, _, _, _, _, _, _, rfl, by rw [ht]; exact hP, hD, hR⟩⟩, hS.F ht⟩) hS.2.2 dX4_tide_112
        · rw [A_endl (A_okt hfv), A_back hfv] at c_6
          refine lv_aload hx hb dX4_tide_89 (lv_at hl 3 rfl) ?_
          refine lv_lload hx hb dX4_tide_91 (lv_at hl 0 rfl) ?_
          refine lv_lload hx hb dX4_tide_93 (lv_at hl 1 rfl) ?_
          refine cv_w (As := [.long (fX5_bitsOf w (moreE w (fX5_number w (zRi σ akx ki)) g)), .long (zRi σ akx 0)]) (rest := []) ⟨hx, hb, hml, hown, hts⟩ (mX3_remainder l ad (fX4_widthOf w) (wi_lt w) (fX5_bitsOf w (moreE w (fX5_number w (zRi σ akx ki)) g)) (zRi σ akx 0)) (cwV 2 hts gX4_tide_X3_remainder rfl rfl rfl (by decide +kernel) ⟨Nat.le_of_ble_eq_true rfl, Nat.le_of_ble_eq_true rfl⟩) hE hS (wi_lt w) rfl rfl hl.1 (Nat.le_of_ble_eq_true rfl) dX4_tide_95 (Nat.zero_le _) (Nat.zero_le _) ?_
          rw [A_rem (A_okt hfv) (okt_of hI hwakx) (by rw [A_back hfv]; exact c_6) c_3, A_back hfv]
          refine lv_lstore (lv' := [(10, .long (fX5_bitsOf w (FP.drem (moreE w (fX5_number w (zRi σ akx ki)) g) (fX5_number w (zRi σ akx 0))))), (8, .long (zRi σ akx 0)), (7, .ref (rb akx)), (6, .ref (ad (fX4_widthOf w))), (5, .int (fl (askI σ kx w (nI ki)))), (0, .ref q.1), (1, .int (nI kx)), (2, .int (b2i w)), (3, .int (nI ki)), (4, .int g)]) hx hb dX4_tide_98 hl (by decide) rfl (fun ls hl => ?_)
          refine lv_aload hx hb dX4_tide_100 (lv_at hl 2 rfl) ?_
          refine lv_iload_n hx hb dX4_tide_102 rfl (lv_at hl 8 rfl) ?_
          refine lv_lload hx hb dX4_tide_103 (lv_at hl 0 rfl) ?_
          refine lv_topl (fun z_9 hz_9 => ?_)
          refine pl_last hx hb hK hP hD hS 0 imakx jfakx rfl (k := ki) rfl (by omega) (by omega) dX4_tide_105 (fun H locs hP hD hS => ?_)
          have hP : va_P (dC, dI) vwCl (TWs q cG cK cR fr fg fk (zTo σ) L (va_up f (rb akx) (.inl (cJ, zRn σ akx, .inr (.inl (vp_updL (zRi σ akx) ki z_9)))))) _ := hP
          have hD : va_D A (TWs q cG cK cR fr fg fk (zTo σ) L (va_up f (rb akx) (.inl (cJ, zRn σ akx, .inr (.inl (vp_updL (zRi σ akx) ki z_9)))))) := hD
          have hR : TRel ad cJ cG fr fg fk L (va_up f (rb akx) (.inl (cJ, zRn σ akx, .inr (.inl (vp_updL (zRi σ akx) ki z_9))))) ra rb ka kb hf (uIt σ akx ki z_9) := TRel_it hR hbakx ki z_9
          refine lv_aload_n hx hb dX4_tide_106 rfl (lv_at hl 5 rfl) ?_
          refine lv_lload hx hb dX4_tide_107 (lv_at hl 0 rfl) ?_
          refine lv_topl (fun z_10 hz_10 => ?_)
          refine ct_s (mc := 0) (ms := 0) (q0 := 0) (As := [.long z_10]) (rest := []) ⟨hx, hb, hml, hown, hts⟩ (mX4_tell l dC dI (tys0 cJ cG cK cR cI cZ cD) (TWs q cG cK cR fr fg fk (zTo σ) L (va_up f (rb akx) (.inl (cJ, zRn σ akx, .inr (.inl (vp_updL (zRi σ akx) ki z_9)))))) q.1 (.ref q.2.1) (.ref q.2.2.1) (.ref q.2.2.2) (zTo σ) _ z_10 rfl) (cwV 1 hts gX4_tide_X4_tell rfl rfl rfl (by decide +kernel) ⟨Nat.le_of_ble_eq_true rfl, Nat.le_of_ble_eq_true rfl⟩) hK hP hD hS hA rfl rfl rfl rfl hl.1 (Nat.le_of_ble_eq_true rfl) dX4_tide_109 ⟨Nat.le_of_ble_eq_true rfl, Nat.le_of_ble_eq_true rfl⟩ (fun r1 u1 t1 H1 locs1 ht1 hr1 hB1 hS1 => ?_)
          obtain rfl := hr1
          rw [ht1] at hB1
          have hD2 := hB1.2.weaken (fun _ _ _ h9 => fr_all hD hS hA _ h9)
          have hP := hB1.1
          have hD := hD2
          have hS := hS1
          have hP : va_P (dC, dI) vwCl (TWs q cG cK cR fr fg fk z_10 L (va_up f (rb akx) (.inl (cJ, zRn σ akx, .inr (.inl (vp_updL (zRi σ akx) ki z_9)))))) _ := hP
          have hD : va_D A (TWs q cG cK cR fr fg fk z_10 L (va_up f (rb akx) (.inl (cJ, zRn σ akx, .inr (.inl (vp_updL (zRi σ akx) ki z_9)))))) := hD
          have hR : TRel ad cJ cG fr fg fk L (va_up f (rb akx) (.inl (cJ, zRn σ akx, .inr (.inl (vp_updL (zRi σ akx) ki z_9))))) ra rb ka kb hf (uTo (uIt σ akx ki z_9) z_10) := TRel_to hR z_10
          exact W.iret hx hb hr (fun t ht hW => ⟨⟨_, (uTo (uIt σ akx ki z_9) z_10), rfl, (by unfold oTide; (try unfold itm); (try unfold tideN); (try simp only [if_pos c_1, if_pos c_2, if_pos gc_2, if_neg c_3, if_neg c_6, nI_clamp (show kx < 2 ^ 31 by omega), nI_clamp (show ki < 2 ^ 31 by omega), hpakx, hz_9, hz_10, Option.getD_some, reduceCtorEq, if_true, if_false, Option.isNone_some, Option.isNone_none, Bool.false_or, Bool.true_or, Bool.not_true, Bool.not_false]); try rfl), ⟨_, _, _, _, _, _, _, _, _, _, _, rfl, by rw [ht]; exact hP, hD, hR⟩⟩, hS.F ht⟩) hS.2.2 dX4_tide_112
    · have gc_2 := fl_n c_2
      refine lv_iload hx hb dX4_tide_25 (lv_at hl 0 rfl) ?_
      exact W.iret hx hb hr (fun t ht hW => ⟨⟨_, σ, rfl, (by unfold oTide; (try unfold itm); (try unfold tideN); (try simp only [if_pos c_1, if_neg c_2, if_neg gc_2.1, nI_clamp (show kx < 2 ^ 31 by omega), gc_2.2, Option.getD_some, reduceCtorEq, if_true, if_false, Option.isNone_some, Option.isNone_none, Bool.false_or, Bool.true_or, Bool.not_true, Bool.not_false]); try rfl), ⟨_, _, _, _, _, _, _, _, _, _, _, rfl, by rw [ht]; exact hP, hD, hR⟩⟩, hS.F ht⟩) hS.2.2 dX4_tide_27
  · refine lv_iconst (v := -1) hx hb dX4_tide_9 (by decide) ?_
    exact W.iret hx hb hr (fun t ht hW => ⟨⟨_, σ, rfl, (by unfold oTide; (try unfold itm); (try unfold tideN); (try simp only [if_neg c_1, Option.getD_some, reduceCtorEq, if_true, if_false, Option.isNone_some, Option.isNone_none, Bool.false_or, Bool.true_or, Bool.not_true, Bool.not_false]); try rfl), ⟨_, _, _, _, _, _, _, _, _, _, _, rfl, by rw [ht]; exact hP, hD, hR⟩⟩, hS.F ht⟩) hS.2.2 dX4_tide_10
set_option maxHeartbeats 8000000 in
set_option maxRecDepth 100000 in
theorem mX4_hang (l : Launch) (dC : Nat → ClassId) (dI : Nat → Nat → Nat) (ad : Nat → Nat) (q : Aq) (cJ cG cK cR cI cZ cD : ClassId) (fr fg fk : Nat → Option Nat) (L : List Nat) (f : Nat → va_E) (ra rb ka kb : Nat → Nat) (hf : Nat → Nat → Option Nat) (σ : St) (hR : TRel ad cJ cG fr fg fk L f ra rb ka kb hf σ) (N0 : Nat) (hI : Inv σ N0) (hN : N0 ≤ 512) (sz : Nat) (rr : Int32) (i : Int32) (x : Int32) : Met l yX4_hang wsX4_hang ({ frames := 2, cells := 0, slots := 0, locals := 43 }) (va_Pc [.ref q.1, .int rr, .int i, .int x] (fun U => U.heap.size = sz ∧ va_P (dC, dI) vwCl (TWs q cG cK cR fr fg fk (zTo σ) L f) U.heap ∧ va_K (dC, dI) vwCl (tys0 cJ cG cK cR cI cZ cD) U ∧ va_D (fun _ => True) (TWs q cG cK cR fr fg fk (zTo σ) L f) ∧ EN ad (va_A (TWs q cG cK cR fr fg fk (zTo σ) L f) sz) U U.heap)) (va_Qi (fun (r : Int32) (τ : St) => (r, τ) = oHang σ rr i x) (fun τ t => TP dC dI ad cJ cG cK cR (va_A (TWs q cG cK cR fr fg fk (zTo σ) L f) sz) q.1 τ t) (va_A (TWs q cG cK cR fr fg fk (zTo σ) L f) sz)) 0 0 (va_A (TWs q cG cK cR fr fg fk (zTo σ) L f) sz) := by
  refine Met.ofW (cc := cX4_hang) (maxL := 6) (ret := (some .int)) (by decide) rfl ?_
  intro p e s m args below meth c s₁ B hml hv
  obtain ⟨rfl, hsz, hP, hK, hD0, hE⟩ := hv
  have hx := B.exec
  have hb := B.bytes
  have hr := B.returns
  have hts := atoms_spec (ws := wsX4_hang) B.pre
  have hown : s.vm.findClass RX4 = some m.cls := findClass_of_methodNamed B.named
  have hlocks := B.notSynchronized
  have hN1 := hI.1
  have hN2 := hI.2.1
  subst hsz
  have hD := hD0.self (sz := s.heap.size)
  generalize hAe : va_A (TWs q cG cK cR fr fg fk (zTo σ) L f) s.heap.size = A at hD hE ⊢
  have hA : ∀ z : Nat, s.heap.size ≤ z → A z := fun z h => by rw [← hAe]; exact Or.inr h
  have hS : va_S A s.heap s.heap [] := va_S.rf
  have hl := lv_entry ([.ref q.1, .int rr, .int i, .int x]) (n := 6) (Nat.le_of_ble_eq_true rfl)
  rw [lg_entry_eq]
  generalize (lg_sl ([.ref q.1, .int rr, .int i, .int x]) ++ List.replicate (6 - (lg_sl ([.ref q.1, .int rr, .int i, .int x])).length) Slot.unset).toArray = ls at hl ⊢
  have hl : lv_has ls 6 [(0, .ref q.1), (1, .int rr), (2, .int i), (3, .int x)] := hl
  refine lv_iload_n hx hb dX4_hang_0 rfl (lv_at hl 1 rfl) ?_
  refine lv_iconst (v := 3) hx hb dX4_hang_1 (by decide) ?_
  refine cs_0 (As := [.int rr, .int (3 : Int32)]) (rest := []) ⟨hx, hb, hml, hown, hts⟩ (mX4_isBelowN l rr (3 : Int32) 3 rfl (by decide)) (va_cwS 2 hts gX4_hang_X4_isBelow rfl rfl rfl (by decide +kernel) ⟨Nat.le_of_ble_eq_true rfl, Nat.le_of_ble_eq_true rfl⟩) rfl rfl hl.1 (Nat.le_of_ble_eq_true rfl) dX4_hang_2 (Nat.zero_le _) (Nat.zero_le _) ?_
  refine w_beq (tgt := 17) hx hb dX4_hang_5 (by decide) (fun c_1 => ?_) (fun c_1 => ?_)
  · refine lv_iconst (v := -1) hx hb dX4_hang_17 (by decide) ?_
    exact W.iret hx hb hr (fun t ht hW => ⟨⟨_, σ, rfl, (by unfold oHang; (try unfold ofK); (try simp only [if_neg c_1, Option.getD_some, reduceCtorEq, if_true, if_false, Option.isNone_some, Option.isNone_none, Bool.false_or, Bool.true_or, Bool.not_true, Bool.not_false]); try rfl), ⟨_, _, _, _, _, _, _, _, _, _, _, rfl, by rw [ht]; exact hP, hD, hR⟩⟩, hS.F ht⟩) hS.2.2 dX4_hang_18
  · obtain ⟨krr, hkrr, rfl⟩ := ixb_some c_1 (by decide)
    refine lv_iload_n hx hb dX4_hang_8 rfl (lv_at hl 3 rfl) ?_
    refine lv_bipush (v := 6) hx hb dX4_hang_9 (by decide) ?_
    refine cs_0 (As := [.int x, .int (6 : Int32)]) (rest := []) ⟨hx, hb, hml, hown, hts⟩ (mX4_isBelowN l x (6 : Int32) 6 rfl (by decide)) (va_cwS 2 hts gX4_hang_X4_isBelow rfl rfl rfl (by decide +kernel) ⟨Nat.le_of_ble_eq_true rfl, Nat.le_of_ble_eq_true rfl⟩) rfl rfl hl.1 (Nat.le_of_ble_eq_true rfl) dX4_hang_11 (Nat.zero_le _) (Nat.zero_le _) ?_
    refine w_bne (tgt := 19) hx hb dX4_hang_14 (by decide) (fun c_2 => ?_) (fun c_2 => ?_)
    · obtain ⟨kx, hkx, rfl⟩ := ixb_some c_2 (by decide)
      refine lv_aload_n hx hb dX4_hang_19 rfl (lv_at hl 0 rfl) ?_
      refine lv_iload_n hx hb dX4_hang_20 rfl (lv_at hl 1 rfl) ?_
      refine lv_iload_n hx hb dX4_hang_21 rfl (lv_at hl 2 rfl) ?_
      refine ct_w (q0 := 0) (As := [.int (nI krr), .int i]) (rest := []) ⟨hx, hb, hml, hown, hts⟩ (mX4_failureOfHook l dC dI ad q cJ cG cK cR cI cZ cD fr fg fk L f ra rb ka kb hf σ hR N0 hI hN krr (by omega) i) (cwV 2 hts gX4_hang_X4_failureOfHook rfl rfl rfl (by decide +kernel) ⟨Nat.le_of_ble_eq_true rfl, Nat.le_of_ble_eq_true rfl⟩) hK hP hE hS rfl rfl rfl rfl hl.1 (Nat.le_of_ble_eq_true rfl) dX4_hang_22 (Nat.zero_le _) (Nat.zero_le _) ?_
      refine lv_istore (lv' := [(4, .int (fl (askH σ krr i))), (0, .ref q.1), (1, .int (nI krr)), (2, .int i), (3, .int (nI kx))]) hx hb dX4_hang_25 hl (by decide) rfl (fun ls hl => ?_)
      refine lv_iload hx hb dX4_hang_27 (lv_at hl 0 rfl) ?_
      refine lv_if_eq (tgt := 35) hx hb dX4_hang_29 (by decide) (fun c_3 => ?_) (fun c_3 => ?_)
      · obtain ⟨knkrr, hknkrr⟩ := Option.ne_none_iff_exists'.mp (fl_H c_3).1
        obtain ⟨ki, hki, rfl⟩ := ixb_some (fl_H c_3).2 (by decide)
        have gbc_3 : ixb (nI ki) 4 = true := ixb_nI hki (by decide)
        obtain ⟨kekrr, kmkrr, kfkrr, lmkrr, lfkrr⟩ := tr_ksome hR (by omega) hknkrr
        refine lv_aload_n hx hb dX4_hang_35 rfl (lv_at hl 1 rfl) ?_
        refine va_get (D := (dC, dI)) (ci := 4) (v := .ref q.2.2.1) (C := RX4) (T := TX4) (N := 4) hx hb hts (fun w h => List.mem_cons_of_mem _ (List.mem_append_left _ (List.mem_append_left _ (List.mem_append_right _ h)))) hown hK hP 0 rfl rfl 1 (by decide) (hts (.fieldLink RX4 17 "TideGauges" "gauges" "[LTideGauges$Gauge;") (List.mem_of_getElem? (i := 1) rfl)) (fun _ h9 => h9) rfl dX4_hang_36 ?_
        refine lv_iload_n hx hb dX4_hang_39 rfl (lv_at hl 4 rfl) ?_
        rcases hp_4 : zGa σ kx with _ | a_5
        · refine x_aldq (C := "TideGauges$Gauge") hx hb hK hP 2 1 rfl rfl (k := kx) rfl (by omega) (by decide) (v := .null) (by rw [tr_gnone hR (by omega) hp_4]; rfl) dX4_hang_40 ?_
          refine lv_astoreN (lv' := [(5, .null), (4, .int (fl (askH σ krr (nI ki)))), (0, .ref q.1), (1, .int (nI krr)), (2, .int (nI ki)), (3, .int (nI kx))]) hx hb dX4_hang_41 hl (by decide) rfl (fun ls hl => ?_)
          refine lv_aloadN hx hb dX4_hang_43 (lv_at hl 0 rfl) ?_
          refine lv_ifnullN (tgt := 68) hx hb dX4_hang_45 (by decide) ?_
          refine lv_aload_n hx hb dX4_hang_68 rfl (lv_at hl 2 rfl) ?_
          refine va_get (D := (dC, dI)) (ci := 4) (v := .ref q.2.2.2) (C := RX4) (T := TX4) (N := 4) hx hb hts (fun w h => List.mem_cons_of_mem _ (List.mem_append_left _ (List.mem_append_left _ (List.mem_append_right _ h)))) hown hK hP 0 rfl rfl 2 (by decide) (hts (.fieldLink RX4 23 "TideGauges" "racks" "[LTideGauges$Rack;") (List.mem_of_getElem? (i := 2) rfl)) (fun _ h9 => h9) rfl dX4_hang_69 ?_
          refine lv_iload_n hx hb dX4_hang_72 rfl (lv_at hl 3 rfl) ?_
          refine x_aldq (C := "TideGauges$Rack") hx hb hK hP 3 2 rfl rfl (k := krr) rfl (by omega) (by decide) (v := .ref (ka krr)) (by rw [kekrr]; rfl) dX4_hang_73 ?_
          refine pl_get (ci := 1) (v := .ref (kb krr)) (C := RX1) (T := TX1) (N := 2) hx hb hts (fun w h => List.mem_cons_of_mem _ (List.mem_append_left _ (List.mem_append_right _ h))) hown hK hP kmkrr kfkrr rfl 1 (by decide) (hts (.fieldLink RX4 143 "TideGauges$Rack" "hooks" "[LTideGauges$Gauge;") (List.mem_of_getElem? (i := 4) rfl)) (fun _ h9 => h9) rfl dX4_hang_74 ?_
          refine lv_iload_n hx hb dX4_hang_77 rfl (lv_at hl 4 rfl) ?_
          refine lv_aloadN hx hb dX4_hang_78 (lv_at hl 0 rfl) ?_
          refine pl_astqN (C := "TideGauges$Gauge") hx hb hK hP hD hS 1 lmkrr lfkrr rfl (k := ki) rfl (by omega) (by decide) dX4_hang_80 (fun H locs hP hD hS => ?_)
          have hP : va_P (dC, dI) vwCl (TWs q cG cK cR fr fg fk (zTo σ) L (va_up f (kb krr) (.inl (cG, 4, .inr (.inr (.inr (.inr (va_up (hf krr) ki none)))))))) _ := hP
          have hD : va_D A (TWs q cG cK cR fr fg fk (zTo σ) L (va_up f (kb krr) (.inl (cG, 4, .inr (.inr (.inr (.inr (va_up (hf krr) ki none)))))))) := hD
          have hR : TRel ad cJ cG fr fg fk L (va_up f (kb krr) (.inl (cG, 4, .inr (.inr (.inr (.inr (va_up (hf krr) ki none))))))) ra rb ka kb (va_up hf krr (va_up (hf krr) ki none)) (uHk σ krr ki none) := TRel_hk hR (by omega) hknkrr ki none ⟨fun _ => rfl, nofun⟩
          refine lv_iconst (v := 1) hx hb dX4_hang_81 (by decide) ?_
          exact W.iret hx hb hr (fun t ht hW => ⟨⟨_, (uHk σ krr ki none), rfl, (by unfold oHang; (try unfold ofK); (try simp only [if_pos c_1, if_pos c_2, if_pos gbc_3, nI_clamp (show krr < 2 ^ 31 by omega), nI_clamp (show kx < 2 ^ 31 by omega), nI_clamp (show ki < 2 ^ 31 by omega), hknkrr, hp_4, Option.getD_some, reduceCtorEq, if_true, if_false, Option.isNone_some, Option.isNone_none, Bool.false_or, Bool.true_or, Bool.not_true, Bool.not_false]); try rfl), ⟨_, _, _, _, _, _, _, _, _, _, _, rfl, by rw [ht]; exact hP, hD, hR⟩⟩, hS.F ht⟩) hS.2.2 dX4_hang_82
        · obtain ⟨gaa_5, gea_5, gma_5, gfa_5⟩ := tr_gsome hR (show kx < 6 by omega) hp_4
          have gba_5 := hI.2.2.2.2.2.2.1 _ _ hp_4
          refine x_aldq (C := "TideGauges$Gauge") hx hb hK hP 2 1 rfl rfl (k := kx) rfl (by omega) (by decide) (v := .ref gaa_5) (by rw [gea_5]; rfl) dX4_hang_40 ?_
          refine lv_astore (lv' := [(5, .ref gaa_5), (4, .int (fl (askH σ krr (nI ki)))), (0, .ref q.1), (1, .int (nI krr)), (2, .int (nI ki)), (3, .int (nI kx))]) hx hb dX4_hang_41 hl (by decide) rfl (fun ls hl => ?_)
          refine lv_aload hx hb dX4_hang_43 (lv_at hl 0 rfl) ?_
          refine lv_ifnull hx hb dX4_hang_45 ?_
          refine lv_aload hx hb dX4_hang_48 (lv_at hl 0 rfl) ?_
          refine lv_aload_n hx hb dX4_hang_50 rfl (lv_at hl 2 rfl) ?_
          refine va_get (D := (dC, dI)) (ci := 4) (v := .ref q.2.2.2) (C := RX4) (T := TX4) (N := 4) hx hb hts (fun w h => List.mem_cons_of_mem _ (List.mem_append_left _ (List.mem_append_left _ (List.mem_append_right _ h)))) hown hK hP 0 rfl rfl 2 (by decide) (hts (.fieldLink RX4 23 "TideGauges" "racks" "[LTideGauges$Rack;") (List.mem_of_getElem? (i := 2) rfl)) (fun _ h9 => h9) rfl dX4_hang_51 ?_
          refine lv_iload_n hx hb dX4_hang_54 rfl (lv_at hl 3 rfl) ?_
          refine x_aldq (C := "TideGauges$Rack") hx hb hK hP 3 2 rfl rfl (k := krr) rfl (by omega) (by decide) (v := .ref (ka krr)) (by rw [kekrr]; rfl) dX4_hang_55 ?_
          refine pl_get (ci := 1) (v := .int knkrr) (C := RX1) (T := TX1) (N := 2) hx hb hts (fun w h => List.mem_cons_of_mem _ (List.mem_append_left _ (List.mem_append_right _ h))) hown hK hP kmkrr kfkrr rfl 0 (by decide) (hts (.fieldLink RX4 135 "TideGauges$Rack" "kind" "I") (List.mem_of_getElem? (i := 3) rfl)) (fun _ h9 => h9) rfl dX4_hang_56 ?_
          refine ct_w (q0 := 0) (As := [.int knkrr]) (rest := []) ⟨hx, hb, hml, hown, hts⟩ (mX0_isOf l dC dI ad (tys0 cJ cG cK cR cI cZ cD) gaa_5 (zGk σ a_5) (zGs σ a_5) knkrr) (cwV 1 hts gX4_hang_X0_isOf rfl rfl rfl (by decide +kernel) ⟨Nat.le_of_ble_eq_true rfl, Nat.le_of_ble_eq_true rfl⟩) hK (pl_one hP gma_5 gfa_5) hE hS rfl rfl rfl rfl hl.1 (Nat.le_of_ble_eq_true rfl) dX4_hang_59 (Nat.zero_le _) (Nat.zero_le _) ?_
          rw [isOf_fits]
          refine w_bne (tgt := 68) hx hb dX4_hang_62 (by decide) (fun c_6 => ?_) (fun c_6 => ?_)
          · refine lv_aload_n hx hb dX4_hang_68 rfl (lv_at hl 2 rfl) ?_
            refine va_get (D := (dC, dI)) (ci := 4) (v := .ref q.2.2.2) (C := RX4) (T := TX4) (N := 4) hx hb hts (fun w h => List.mem_cons_of_mem _ (List.mem_append_left _ (List.mem_append_left _ (List.mem_append_right _ h)))) hown hK hP 0 rfl rfl 2 (by decide) (hts (.fieldLink RX4 23 "TideGauges" "racks" "[LTideGauges$Rack;") (List.mem_of_getElem? (i := 2) rfl)) (fun _ h9 => h9) rfl dX4_hang_69 ?_
            refine lv_iload_n hx hb dX4_hang_72 rfl (lv_at hl 3 rfl) ?_
            refine x_aldq (C := "TideGauges$Rack") hx hb hK hP 3 2 rfl rfl (k := krr) rfl (by omega) (by decide) (v := .ref (ka krr)) (by rw [kekrr]; rfl) dX4_hang_73 ?_
            refine pl_get (ci := 1) (v := .ref (kb krr)) (C := RX1) (T := TX1) (N := 2) hx hb hts (fun w h => List.mem_cons_of_mem _ (List.mem_append_left _ (List.mem_append_right _ h))) hown hK hP kmkrr kfkrr rfl 1 (by decide) (hts (.fieldLink RX4 143 "TideGauges$Rack" "hooks" "[LTideGauges$Gauge;") (List.mem_of_getElem? (i := 4) rfl)) (fun _ h9 => h9) rfl dX4_hang_74 ?_
            refine lv_iload_n hx hb dX4_hang_77 rfl (lv_at hl 4 rfl) ?_
            refine lv_aload hx hb dX4_hang_78 (lv_at hl 0 rfl) ?_
            refine pl_astq (ci := 0) hx hb hK hP hD hS 1 lmkrr lfkrr rfl gma_5 gfa_5 rfl (k := ki) rfl (by omega) (by decide) dX4_hang_80 (fun H locs hP hD hS => ?_)
            have hP : va_P (dC, dI) vwCl (TWs q cG cK cR fr fg fk (zTo σ) L (va_up f (kb krr) (.inl (cG, 4, .inr (.inr (.inr (.inr (va_up (hf krr) ki (some gaa_5))))))))) _ := hP
            have hD : va_D A (TWs q cG cK cR fr fg fk (zTo σ) L (va_up f (kb krr) (.inl (cG, 4, .inr (.inr (.inr (.inr (va_up (hf krr) ki (some gaa_5))))))))) := hD
            have hR : TRel ad cJ cG fr fg fk L (va_up f (kb krr) (.inl (cG, 4, .inr (.inr (.inr (.inr (va_up (hf krr) ki (some gaa_5)))))))) ra rb ka kb (va_up hf krr (va_up (hf krr) ki (some gaa_5))) (uHk σ krr ki (some a_5)) := TRel_hk hR (by omega) hknkrr ki (some a_5) ⟨nofun, fun b9 h9 => ⟨gaa_5, rfl, gma_5, by obtain rfl := Option.some.inj h9; exact gfa_5⟩⟩
            refine lv_iconst (v := 1) hx hb dX4_hang_81 (by decide) ?_
            exact W.iret hx hb hr (fun t ht hW => ⟨⟨_, (uHk σ krr ki (some a_5)), rfl, (by unfold oHang; (try unfold ofK); (try simp only [if_pos c_1, if_pos c_2, if_pos gbc_3, if_pos c_6, nI_clamp (show krr < 2 ^ 31 by omega), nI_clamp (show kx < 2 ^ 31 by omega), nI_clamp (show ki < 2 ^ 31 by omega), hknkrr, hp_4, Option.getD_some, reduceCtorEq, if_true, if_false, Option.isNone_some, Option.isNone_none, Bool.false_or, Bool.true_or, Bool.not_true, Bool.not_false]); try rfl), ⟨_, _, _, _, _, _, _, _, _, _, _, rfl, by rw [ht]; exact hP, hD, hR⟩⟩, hS.F ht⟩) hS.2.2 dX4_hang_82
          · refine lv_bipush (v := -15) hx hb dX4_hang_65 (by decide) ?_
            exact W.iret hx hb hr (fun t ht hW => ⟨⟨_, σ, rfl, (by unfold oHang; (try unfold ofK); (try simp only [if_pos c_1, if_pos c_2, if_pos gbc_3, if_neg c_6, nI_clamp (show krr < 2 ^ 31 by omega), nI_clamp (show kx < 2 ^ 31 by omega), nI_clamp (show ki < 2 ^ 31 by omega), hknkrr, hp_4, Option.getD_some, reduceCtorEq, if_true, if_false, Option.isNone_some, Option.isNone_none, Bool.false_or, Bool.true_or, Bool.not_true, Bool.not_false]); try rfl), ⟨_, _, _, _, _, _, _, _, _, _, _, rfl, by rw [ht]; exact hP, hD, hR⟩⟩, hS.F ht⟩) hS.2.2 dX4_hang_67
      · refine lv_iload hx hb dX4_hang_32 (lv_at hl 0 rfl) ?_
        exact W.iret hx hb hr (fun t ht hW => ⟨⟨_, σ, rfl, (by unfold oHang; (try unfold ofK); (try simp only [if_pos c_1, if_pos c_2, nI_clamp (show krr < 2 ^ 31 by omega), nI_clamp (show kx < 2 ^ 31 by omega), Option.getD_some, reduceCtorEq, if_true, if_false, Option.isNone_some, Option.isNone_none, Bool.false_or, Bool.true_or, Bool.not_true, Bool.not_false]); exact fl_Hn c_3), ⟨_, _, _, _, _, _, _, _, _, _, _, rfl, by rw [ht]; exact hP, hD, hR⟩⟩, hS.F ht⟩) hS.2.2 dX4_hang_34
    · refine lv_iconst (v := -1) hx hb dX4_hang_17 (by decide) ?_
      exact W.iret hx hb hr (fun t ht hW => ⟨⟨_, σ, rfl, (by unfold oHang; (try unfold ofK); (try simp only [if_pos c_1, if_neg c_2, nI_clamp (show krr < 2 ^ 31 by omega), Option.getD_some, reduceCtorEq, if_true, if_false, Option.isNone_some, Option.isNone_none, Bool.false_or, Bool.true_or, Bool.not_true, Bool.not_false]); try rfl), ⟨_, _, _, _, _, _, _, _, _, _, _, rfl, by rw [ht]; exact hP, hD, hR⟩⟩, hS.F ht⟩) hS.2.2 dX4_hang_18
set_option maxHeartbeats 8000000 in
set_option maxRecDepth 100000 in
theorem mX4_take (l : Launch) (dC : Nat → ClassId) (dI : Nat → Nat → Nat) (ad : Nat → Nat) (q : Aq) (cJ cG cK cR cI cZ cD : ClassId) (fr fg fk : Nat → Option Nat) (L : List Nat) (f : Nat → va_E) (ra rb ka kb : Nat → Nat) (hf : Nat → Nat → Option Nat) (σ : St) (hR : TRel ad cJ cG fr fg fk L f ra rb ka kb hf σ) (N0 : Nat) (hI : Inv σ N0) (hN : N0 ≤ 512) (sz : Nat) (rr : Int32) (i : Int32) (k : Int32) (x : Int32) : Met l yX4_take wsX4_take ({ frames := 2, cells := 0, slots := 0, locals := 43 }) (va_Pc [.ref q.1, .int rr, .int i, .int k, .int x] (fun U => U.heap.size = sz ∧ va_P (dC, dI) vwCl (TWs q cG cK cR fr fg fk (zTo σ) L f) U.heap ∧ va_K (dC, dI) vwCl (tys0 cJ cG cK cR cI cZ cD) U ∧ va_D (fun _ => True) (TWs q cG cK cR fr fg fk (zTo σ) L f) ∧ EN ad (va_A (TWs q cG cK cR fr fg fk (zTo σ) L f) sz) U U.heap)) (va_Qi (fun (r : Int32) (τ : St) => (r, τ) = oTake σ rr i k x) (fun τ t => TP dC dI ad cJ cG cK cR (va_A (TWs q cG cK cR fr fg fk (zTo σ) L f) sz) q.1 τ t) (va_A (TWs q cG cK cR fr fg fk (zTo σ) L f) sz)) 0 0 (va_A (TWs q cG cK cR fr fg fk (zTo σ) L f) sz) := by
  refine Met.ofW (cc := cX4_take) (maxL := 7) (ret := (some .int)) (by decide) rfl ?_
  intro p e s m args below meth c s₁ B hml hv
  obtain ⟨rfl, hsz, hP, hK, hD0, hE⟩ := hv
  have hx := B.exec
  have hb := B.bytes
  have hr := B.returns
  have hts := atoms_spec (ws := wsX4_take) B.pre
  have hown : s.vm.findClass RX4 = some m.cls := findClass_of_methodNamed B.named
  have hlocks := B.notSynchronized
  have hN1 := hI.1
  have hN2 := hI.2.1
  subst hsz
  have hD := hD0.self (sz := s.heap.size)
  generalize hAe : va_A (TWs q cG cK cR fr fg fk (zTo σ) L f) s.heap.size = A at hD hE ⊢
  have hA : ∀ z : Nat, s.heap.size ≤ z → A z := fun z h => by rw [← hAe]; exact Or.inr h
  have hS : va_S A s.heap s.heap [] := va_S.rf
  have hl := lv_entry ([.ref q.1, .int rr, .int i, .int k, .int x]) (n := 7) (Nat.le_of_ble_eq_true rfl)
  rw [lg_entry_eq]
  generalize (lg_sl ([.ref q.1, .int rr, .int i, .int k, .int x]) ++ List.replicate (7 - (lg_sl ([.ref q.1, .int rr, .int i, .int k, .int x])).length) Slot.unset).toArray = ls at hl ⊢
  have hl : lv_has ls 7 [(0, .ref q.1), (1, .int rr), (2, .int i), (3, .int k), (4, .int x)] := hl
  refine lv_iload_n hx hb dX4_take_0 rfl (lv_at hl 1 rfl) ?_
  refine lv_iconst (v := 3) hx hb dX4_take_1 (by decide) ?_
  refine cs_0 (As := [.int rr, .int (3 : Int32)]) (rest := []) ⟨hx, hb, hml, hown, hts⟩ (mX4_isBelowN l rr (3 : Int32) 3 rfl (by decide)) (va_cwS 2 hts gX4_take_X4_isBelow rfl rfl rfl (by decide +kernel) ⟨Nat.le_of_ble_eq_true rfl, Nat.le_of_ble_eq_true rfl⟩) rfl rfl hl.1 (Nat.le_of_ble_eq_true rfl) dX4_take_2 (Nat.zero_le _) (Nat.zero_le _) ?_
  refine w_beq (tgt := 26) hx hb dX4_take_5 (by decide) (fun c_1 => ?_) (fun c_1 => ?_)
  · refine lv_iconst (v := -1) hx hb dX4_take_26 (by decide) ?_
    exact W.iret hx hb hr (fun t ht hW => ⟨⟨_, σ, rfl, (by unfold oTake; (try unfold ofK); (try simp only [if_neg c_1, Option.getD_some, reduceCtorEq, if_true, if_false, Option.isNone_some, Option.isNone_none, Bool.false_or, Bool.true_or, Bool.not_true, Bool.not_false]); try rfl), ⟨_, _, _, _, _, _, _, _, _, _, _, rfl, by rw [ht]; exact hP, hD, hR⟩⟩, hS.F ht⟩) hS.2.2 dX4_take_27
  · obtain ⟨krr, hkrr, rfl⟩ := ixb_some c_1 (by decide)
    refine lv_iload_n hx hb dX4_take_8 rfl (lv_at hl 3 rfl) ?_
    refine lv_iconst (v := 3) hx hb dX4_take_9 (by decide) ?_
    refine cs_0 (As := [.int k, .int (3 : Int32)]) (rest := []) ⟨hx, hb, hml, hown, hts⟩ (mX4_isBelowN l k (3 : Int32) 3 rfl (by decide)) (va_cwS 2 hts gX4_take_X4_isBelow rfl rfl rfl (by decide +kernel) ⟨Nat.le_of_ble_eq_true rfl, Nat.le_of_ble_eq_true rfl⟩) rfl rfl hl.1 (Nat.le_of_ble_eq_true rfl) dX4_take_10 (Nat.zero_le _) (Nat.zero_le _) ?_
    refine w_beq (tgt := 26) hx hb dX4_take_13 (by decide) (fun c_2 => ?_) (fun c_2 => ?_)
    · refine lv_iconst (v := -1) hx hb dX4_take_26 (by decide) ?_
      exact W.iret hx hb hr (fun t ht hW => ⟨⟨_, σ, rfl, (by unfold oTake; (try unfold ofK); (try simp only [if_pos c_1, if_neg c_2, nI_clamp (show krr < 2 ^ 31 by omega), Option.getD_some, reduceCtorEq, if_true, if_false, Option.isNone_some, Option.isNone_none, Bool.false_or, Bool.true_or, Bool.not_true, Bool.not_false]); try rfl), ⟨_, _, _, _, _, _, _, _, _, _, _, rfl, by rw [ht]; exact hP, hD, hR⟩⟩, hS.F ht⟩) hS.2.2 dX4_take_27
    · obtain ⟨kk, hkk, rfl⟩ := ixb_some c_2 (by decide)
      refine lv_iload hx hb dX4_take_16 (lv_at hl 4 rfl) ?_
      refine lv_bipush (v := 6) hx hb dX4_take_18 (by decide) ?_
      refine cs_0 (As := [.int x, .int (6 : Int32)]) (rest := []) ⟨hx, hb, hml, hown, hts⟩ (mX4_isBelowN l x (6 : Int32) 6 rfl (by decide)) (va_cwS 2 hts gX4_take_X4_isBelow rfl rfl rfl (by decide +kernel) ⟨Nat.le_of_ble_eq_true rfl, Nat.le_of_ble_eq_true rfl⟩) rfl rfl hl.1 (Nat.le_of_ble_eq_true rfl) dX4_take_20 (Nat.zero_le _) (Nat.zero_le _) ?_
      refine w_bne (tgt := 28) hx hb dX4_take_23 (by decide) (fun c_3 => ?_) (fun c_3 => ?_)
      · obtain ⟨kx, hkx, rfl⟩ := ixb_some c_3 (by decide)
        refine lv_aload_n hx hb dX4_take_28 rfl (lv_at hl 0 rfl) ?_
        refine lv_iload_n hx hb dX4_take_29 rfl (lv_at hl 1 rfl) ?_
        refine lv_iload_n hx hb dX4_take_30 rfl (lv_at hl 2 rfl) ?_
        refine ct_w (q0 := 0) (As := [.int (nI krr), .int i]) (rest := []) ⟨hx, hb, hml, hown, hts⟩ (mX4_failureOfHook l dC dI ad q cJ cG cK cR cI cZ cD fr fg fk L f ra rb ka kb hf σ hR N0 hI hN krr (by omega) i) (cwV 2 hts gX4_take_X4_failureOfHook rfl rfl rfl (by decide +kernel) ⟨Nat.le_of_ble_eq_true rfl, Nat.le_of_ble_eq_true rfl⟩) hK hP hE hS rfl rfl rfl rfl hl.1 (Nat.le_of_ble_eq_true rfl) dX4_take_31 (Nat.zero_le _) (Nat.zero_le _) ?_
        refine lv_istore (lv' := [(5, .int (fl (askH σ krr i))), (0, .ref q.1), (1, .int (nI krr)), (2, .int i), (3, .int (nI kk)), (4, .int (nI kx))]) hx hb dX4_take_34 hl (by decide) rfl (fun ls hl => ?_)
        refine lv_iload hx hb dX4_take_36 (lv_at hl 0 rfl) ?_
        refine lv_if_eq (tgt := 44) hx hb dX4_take_38 (by decide) (fun c_4 => ?_) (fun c_4 => ?_)
        · obtain ⟨knkrr, hknkrr⟩ := Option.ne_none_iff_exists'.mp (fl_H c_4).1
          obtain ⟨ki, hki, rfl⟩ := ixb_some (fl_H c_4).2 (by decide)
          have gbc_4 : ixb (nI ki) 4 = true := ixb_nI hki (by decide)
          obtain ⟨kekrr, kmkrr, kfkrr, lmkrr, lfkrr⟩ := tr_ksome hR (by omega) hknkrr
          refine lv_aload_n hx hb dX4_take_44 rfl (lv_at hl 1 rfl) ?_
          refine va_get (D := (dC, dI)) (ci := 4) (v := .ref q.2.2.2) (C := RX4) (T := TX4) (N := 4) hx hb hts (fun w h => List.mem_cons_of_mem _ (List.mem_append_left _ (List.mem_append_left _ (List.mem_append_right _ h)))) hown hK hP 0 rfl rfl 2 (by decide) (hts (.fieldLink RX4 23 "TideGauges" "racks" "[LTideGauges$Rack;") (List.mem_of_getElem? (i := 1) rfl)) (fun _ h9 => h9) rfl dX4_take_45 ?_
          refine lv_iload_n hx hb dX4_take_48 rfl (lv_at hl 2 rfl) ?_
          refine x_aldq (C := "TideGauges$Rack") hx hb hK hP 3 2 rfl rfl (k := krr) rfl (by omega) (by decide) (v := .ref (ka krr)) (by rw [kekrr]; rfl) dX4_take_49 ?_
          refine pl_get (ci := 1) (v := .ref (kb krr)) (C := RX1) (T := TX1) (N := 2) hx hb hts (fun w h => List.mem_cons_of_mem _ (List.mem_append_left _ (List.mem_append_right _ h))) hown hK hP kmkrr kfkrr rfl 1 (by decide) (hts (.fieldLink RX4 143 "TideGauges$Rack" "hooks" "[LTideGauges$Gauge;") (List.mem_of_getElem? (i := 2) rfl)) (fun _ h9 => h9) rfl dX4_take_50 ?_
          refine lv_iload_n hx hb dX4_take_53 rfl (lv_at hl 3 rfl) ?_
          rcases hp_5 : zHk σ krr ki with _ | a_6
          · refine pl_aldq (C := "TideGauges$Gauge") hx hb hK hP 1 lmkrr lfkrr rfl (k := ki) rfl (by omega) (by decide) (v := .null) (by rw [(tr_hook hR (show krr < 3 by omega) hknkrr (show ki < 4 by omega)).1 hp_5]; rfl) dX4_take_54 ?_
            refine lv_astoreN (lv' := [(6, .null), (5, .int (fl (askH σ krr (nI ki)))), (0, .ref q.1), (1, .int (nI krr)), (2, .int (nI ki)), (3, .int (nI kk)), (4, .int (nI kx))]) hx hb dX4_take_55 hl (by decide) rfl (fun ls hl => ?_)
            refine lv_aloadN hx hb dX4_take_57 (lv_at hl 0 rfl) ?_
            refine lv_ifnullN (tgt := 74) hx hb dX4_take_59 (by decide) ?_
            refine lv_aload_n hx hb dX4_take_74 rfl (lv_at hl 2 rfl) ?_
            refine va_get (D := (dC, dI)) (ci := 4) (v := .ref q.2.2.1) (C := RX4) (T := TX4) (N := 4) hx hb hts (fun w h => List.mem_cons_of_mem _ (List.mem_append_left _ (List.mem_append_left _ (List.mem_append_right _ h)))) hown hK hP 0 rfl rfl 1 (by decide) (hts (.fieldLink RX4 17 "TideGauges" "gauges" "[LTideGauges$Gauge;") (List.mem_of_getElem? (i := 3) rfl)) (fun _ h9 => h9) rfl dX4_take_75 ?_
            refine lv_iload hx hb dX4_take_78 (lv_at hl 6 rfl) ?_
            refine lv_aloadN hx hb dX4_take_80 (lv_at hl 0 rfl) ?_
            refine x_astqN (C := "TideGauges$Gauge") hx hb hK hP hD hS 2 1 rfl rfl (k := kx) rfl (by omega) (by decide) dX4_take_82 (fun H locs hP hD hS => ?_)
            have hP : va_P (dC, dI) vwCl (TWs q cG cK cR fr (va_up fg kx none) fk (zTo σ) L f) _ := hP
            have hD : va_D A (TWs q cG cK cR fr (va_up fg kx none) fk (zTo σ) L f) := hD
            have hR : TRel ad cJ cG fr (va_up fg kx none) fk L f ra rb ka kb hf (uGa σ kx none) := TRel_ga hR kx none ⟨fun _ => rfl, nofun⟩
            refine lv_aloadN hx hb dX4_take_83 (lv_at hl 0 rfl) ?_
            refine lv_ifnonnullN hx hb dX4_take_85 ?_
            refine lv_iconst (v := 0) hx hb dX4_take_88 (by decide) ?_
            refine lv_goto (tgt := 93) hx hb dX4_take_89 (by decide) ?_
            exact W.iret hx hb hr (fun t ht hW => ⟨⟨_, (uGa σ kx none), rfl, (by unfold oTake; (try unfold ofK); (try simp only [if_pos c_1, if_pos c_2, if_pos c_3, if_pos gbc_4, nI_clamp (show krr < 2 ^ 31 by omega), nI_clamp (show kk < 2 ^ 31 by omega), nI_clamp (show kx < 2 ^ 31 by omega), nI_clamp (show ki < 2 ^ 31 by omega), hknkrr, hp_5, Option.getD_some, reduceCtorEq, if_true, if_false, Option.isNone_some, Option.isNone_none, Bool.false_or, Bool.true_or, Bool.not_true, Bool.not_false]); try rfl), ⟨_, _, _, _, _, _, _, _, _, _, _, rfl, by rw [ht]; exact hP, hD, hR⟩⟩, hS.F ht⟩) hS.2.2 dX4_take_93
          · obtain ⟨gaa_6, gea_6, gma_6, gfa_6⟩ := (tr_hook hR (show krr < 3 by omega) hknkrr (show ki < 4 by omega)).2 _ hp_5
            refine pl_aldq (C := "TideGauges$Gauge") hx hb hK hP 1 lmkrr lfkrr rfl (k := ki) rfl (by omega) (by decide) (v := .ref gaa_6) (by rw [gea_6]; rfl) dX4_take_54 ?_
            refine lv_astore (lv' := [(6, .ref gaa_6), (5, .int (fl (askH σ krr (nI ki)))), (0, .ref q.1), (1, .int (nI krr)), (2, .int (nI ki)), (3, .int (nI kk)), (4, .int (nI kx))]) hx hb dX4_take_55 hl (by decide) rfl (fun ls hl => ?_)
            refine lv_aload hx hb dX4_take_57 (lv_at hl 0 rfl) ?_
            refine lv_ifnull hx hb dX4_take_59 ?_
            refine lv_aload hx hb dX4_take_62 (lv_at hl 0 rfl) ?_
            refine lv_iload_n hx hb dX4_take_64 rfl (lv_at hl 5 rfl) ?_
            refine ct_w (q0 := 0) (As := [.int (nI kk)]) (rest := []) ⟨hx, hb, hml, hown, hts⟩ (mX0_isOf l dC dI ad (tys0 cJ cG cK cR cI cZ cD) gaa_6 (zGk σ a_6) (zGs σ a_6) (nI kk)) (cwV 1 hts gX4_take_X0_isOf rfl rfl rfl (by decide +kernel) ⟨Nat.le_of_ble_eq_true rfl, Nat.le_of_ble_eq_true rfl⟩) hK (pl_one hP gma_6 gfa_6) hE hS rfl rfl rfl rfl hl.1 (Nat.le_of_ble_eq_true rfl) dX4_take_65 (Nat.zero_le _) (Nat.zero_le _) ?_
            rw [isOf_fits]
            refine w_bne (tgt := 74) hx hb dX4_take_68 (by decide) (fun c_7 => ?_) (fun c_7 => ?_)
            · refine lv_aload_n hx hb dX4_take_74 rfl (lv_at hl 2 rfl) ?_
              refine va_get (D := (dC, dI)) (ci := 4) (v := .ref q.2.2.1) (C := RX4) (T := TX4) (N := 4) hx hb hts (fun w h => List.mem_cons_of_mem _ (List.mem_append_left _ (List.mem_append_left _ (List.mem_append_right _ h)))) hown hK hP 0 rfl rfl 1 (by decide) (hts (.fieldLink RX4 17 "TideGauges" "gauges" "[LTideGauges$Gauge;") (List.mem_of_getElem? (i := 3) rfl)) (fun _ h9 => h9) rfl dX4_take_75 ?_
              refine lv_iload hx hb dX4_take_78 (lv_at hl 6 rfl) ?_
              refine lv_aload hx hb dX4_take_80 (lv_at hl 0 rfl) ?_
              refine px_astq (ci := 0) hx hb hK hP hD hS 2 1 rfl rfl gma_6 gfa_6 rfl (k := kx) rfl (by omega) (by decide) dX4_take_82 (fun H locs hP hD hS => ?_)
              have hP : va_P (dC, dI) vwCl (TWs q cG cK cR fr (va_up fg kx (some gaa_6)) fk (zTo σ) L f) _ := hP
              have hD : va_D A (TWs q cG cK cR fr (va_up fg kx (some gaa_6)) fk (zTo σ) L f) := hD
              have hR : TRel ad cJ cG fr (va_up fg kx (some gaa_6)) fk L f ra rb ka kb hf (uGa σ kx (some a_6)) := TRel_ga hR kx (some a_6) ⟨nofun, fun b9 h9 => ⟨gaa_6, rfl, gma_6, by obtain rfl := Option.some.inj h9; exact gfa_6⟩⟩
              refine lv_aload hx hb dX4_take_83 (lv_at hl 0 rfl) ?_
              refine lv_ifnonnull (tgt := 92) hx hb dX4_take_85 (by decide) ?_
              refine lv_iconst (v := 1) hx hb dX4_take_92 (by decide) ?_
              exact W.iret hx hb hr (fun t ht hW => ⟨⟨_, (uGa σ kx (some a_6)), rfl, (by unfold oTake; (try unfold ofK); (try simp only [if_pos c_1, if_pos c_2, if_pos c_3, if_pos gbc_4, if_pos c_7, nI_clamp (show krr < 2 ^ 31 by omega), nI_clamp (show kk < 2 ^ 31 by omega), nI_clamp (show kx < 2 ^ 31 by omega), nI_clamp (show ki < 2 ^ 31 by omega), hknkrr, hp_5, Option.getD_some, reduceCtorEq, if_true, if_false, Option.isNone_some, Option.isNone_none, Bool.false_or, Bool.true_or, Bool.not_true, Bool.not_false]); try rfl), ⟨_, _, _, _, _, _, _, _, _, _, _, rfl, by rw [ht]; exact hP, hD, hR⟩⟩, hS.F ht⟩) hS.2.2 dX4_take_93
            · refine lv_bipush (v := -13) hx hb dX4_take_71 (by decide) ?_
              exact W.iret hx hb hr (fun t ht hW => ⟨⟨_, σ, rfl, (by unfold oTake; (try unfold ofK); (try simp only [if_pos c_1, if_pos c_2, if_pos c_3, if_pos gbc_4, if_neg c_7, nI_clamp (show krr < 2 ^ 31 by omega), nI_clamp (show kk < 2 ^ 31 by omega), nI_clamp (show kx < 2 ^ 31 by omega), nI_clamp (show ki < 2 ^ 31 by omega), hknkrr, hp_5, Option.getD_some, reduceCtorEq, if_true, if_false, Option.isNone_some, Option.isNone_none, Bool.false_or, Bool.true_or, Bool.not_true, Bool.not_false]); try rfl), ⟨_, _, _, _, _, _, _, _, _, _, _, rfl, by rw [ht]; exact hP, hD, hR⟩⟩, hS.F ht⟩) hS.2.2 dX4_take_73
        · refine lv_iload hx hb dX4_take_41 (lv_at hl 0 rfl) ?_
          exact W.iret hx hb hr (fun t ht hW => ⟨⟨_, σ, rfl, (by unfold oTake; (try unfold ofK); (try simp only [if_pos c_1, if_pos c_2, if_pos c_3, nI_clamp (show krr < 2 ^ 31 by omega), nI_clamp (show kk < 2 ^ 31 by omega), nI_clamp (show kx < 2 ^ 31 by omega), Option.getD_some, reduceCtorEq, if_true, if_false, Option.isNone_some, Option.isNone_none, Bool.false_or, Bool.true_or, Bool.not_true, Bool.not_false]); exact fl_Hn c_4), ⟨_, _, _, _, _, _, _, _, _, _, _, rfl, by rw [ht]; exact hP, hD, hR⟩⟩, hS.F ht⟩) hS.2.2 dX4_take_43
      · refine lv_iconst (v := -1) hx hb dX4_take_26 (by decide) ?_
        exact W.iret hx hb hr (fun t ht hW => ⟨⟨_, σ, rfl, (by unfold oTake; (try unfold ofK); (try simp only [if_pos c_1, if_pos c_2, if_neg c_3, nI_clamp (show krr < 2 ^ 31 by omega), nI_clamp (show kk < 2 ^ 31 by omega), Option.getD_some, reduceCtorEq, if_true, if_false, Option.isNone_some, Option.isNone_none, Bool.false_or, Bool.true_or, Bool.not_true, Bool.not_false]); try rfl), ⟨_, _, _, _, _, _, _, _, _, _, _, rfl, by rw [ht]; exact hP, hD, hR⟩⟩, hS.F ht⟩) hS.2.2 dX4_take_27
