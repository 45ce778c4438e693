set_option maxHeartbeats 8000000 in
set_option maxRecDepth 100000 in
theorem mX5_share (l : Launch) (dC : Nat → ClassId) (dI : Nat → Nat → Nat) (q : Ad) (cJ cG cK cR cI cZ cD : ClassId) (sz : Nat) (σ : St) (N0 : Nat) (hI : Inv σ N0) (hN : N0 ≤ 512) (x : Int32) (y : Int32) : Met l yX5_share wsX5_share ({ frames := 1, cells := 0, slots := 0, locals := 22 }) (va_Pc [.ref q.1, .int x, .int y] (fun U => U.heap.size = sz ∧ va_P (dC, dI) vwCl (MWs q cJ cI cZ cD σ) U.heap ∧ va_K (dC, dI) vwCl (tys0 cJ cG cK cR cI cZ cD) U ∧ va_D (fun _ => True) (MWs q cJ cI cZ cD σ))) (va_Qi (fun (r : Int32) (τ : St) => (r, τ) = oShare σ x y) (fun τ t => va_P (dC, dI) vwCl (MWs q cJ cI cZ cD τ) t.heap ∧ va_D (va_A (MWs q cJ cI cZ cD σ) sz) (MWs q cJ cI cZ cD τ)) (va_A (MWs q cJ cI cZ cD σ) sz)) 0 0 (va_A (MWs q cJ cI cZ cD σ) sz) := by
  refine Met.ofW (cc := cX5_share) (maxL := 3) (ret := (some .int)) (by decide) rfl ?_
  intro p e s m args below meth c s₁ B hml hv
  obtain ⟨rfl, hsz, hP, hK, hD0⟩ := hv
  have hx := B.exec
  have hb := B.bytes
  have hr := B.returns
  have hts := atoms_spec (ws := wsX5_share) B.pre
  have hown : s.vm.findClass RX5 = some m.cls := findClass_of_methodNamed B.named
  have hlocks := B.notSynchronized
  have hN1 := hI.1
  have hN2 := hI.2.1
  subst hsz
  have hD := hD0.self (sz := s.heap.size)
  generalize hAe : va_A (MWs q cJ cI cZ cD σ) s.heap.size = A at hD ⊢
  have hA : ∀ z : Nat, s.heap.size ≤ z → A z := fun z h => by rw [← hAe]; exact Or.inr h
  have hS : va_S A s.heap s.heap [] := va_S.rf
  have hl := lv_entry ([.ref q.1, .int x, .int y]) (n := 3) (Nat.le_of_ble_eq_true rfl)
  rw [lg_entry_eq]
  generalize (lg_sl ([.ref q.1, .int x, .int y]) ++ List.replicate (3 - (lg_sl ([.ref q.1, .int x, .int y])).length) Slot.unset).toArray = ls at hl ⊢
  have hl : lv_has ls 3 [(0, .ref q.1), (1, .int x), (2, .int y)] := hl
  refine lv_iload_n hx hb dX5_share_0 rfl (lv_at hl 1 rfl) ?_
  refine lv_iconst (v := 0) hx hb dX5_share_1 (by decide) ?_
  refine lv_bipush (v := 7) hx hb dX5_share_2 (by decide) ?_
  refine cs_0 (As := [.int x, .int 0, .int (7 : Int32)]) (rest := []) ⟨hx, hb, hml, hown, hts⟩ (mX5_inN l x (7 : Int32) 8 rfl (by decide)) (va_cwS 3 hts gX5_share_X5_in rfl rfl rfl (by decide +kernel) ⟨Nat.le_of_ble_eq_true rfl, Nat.le_of_ble_eq_true rfl⟩) rfl rfl hl.1 (Nat.le_of_ble_eq_true rfl) dX5_share_4 (Nat.zero_le _) (Nat.zero_le _) ?_
  refine w_beq (tgt := 20) hx hb dX5_share_7 (by decide) (fun c_1 => ?_) (fun c_1 => ?_)
  · refine lv_iconst (v := -1) hx hb dX5_share_20 (by decide) ?_
    exact W.iret hx hb hr (fun t ht hW => ⟨⟨_, σ, rfl, (by unfold oShare; (try simp only [if_neg c_1, Option.getD_some, reduceCtorEq, if_true, if_false, Option.isNone_some, Option.isNone_none, Bool.false_or, Bool.true_or, Bool.not_true, Bool.not_false]); try rfl), by rw [ht]; exact hP, hD⟩, hS.F ht⟩) hS.2.2 dX5_share_21
  · obtain ⟨kx, hkx, rfl⟩ := ixb_some c_1 (by decide)
    refine lv_iload_n hx hb dX5_share_10 rfl (lv_at hl 2 rfl) ?_
    refine lv_iconst (v := 0) hx hb dX5_share_11 (by decide) ?_
    refine lv_bipush (v := 7) hx hb dX5_share_12 (by decide) ?_
    refine cs_0 (As := [.int y, .int 0, .int (7 : Int32)]) (rest := []) ⟨hx, hb, hml, hown, hts⟩ (mX5_inN l y (7 : Int32) 8 rfl (by decide)) (va_cwS 3 hts gX5_share_X5_in rfl rfl rfl (by decide +kernel) ⟨Nat.le_of_ble_eq_true rfl, Nat.le_of_ble_eq_true rfl⟩) rfl rfl hl.1 (Nat.le_of_ble_eq_true rfl) dX5_share_14 (Nat.zero_le _) (Nat.zero_le _) ?_
    refine w_bne (tgt := 22) hx hb dX5_share_17 (by decide) (fun c_2 => ?_) (fun c_2 => ?_)
    · obtain ⟨ky, hky, rfl⟩ := ixb_some c_2 (by decide)
      refine lv_aload_n hx hb dX5_share_22 rfl (lv_at hl 0 rfl) ?_
      refine va_get (D := (dC, dI)) (ci := 5) (v := .ref q.2.2.2.2.1) (C := RX5) (T := TX5) (N := 12) hx hb hts (fun w h => List.mem_cons_of_mem _ (List.mem_append_right _ h)) hown hK hP 0 rfl rfl 4 (by decide) (hts (.fieldLink RX5 22 "TideGaugesModel" "places" "[I") (List.mem_of_getElem? (i := 1) rfl)) (fun _ h9 => h9) rfl dX5_share_23 ?_
      refine lv_iload_n hx hb dX5_share_26 rfl (lv_at hl 2 rfl) ?_
      refine lv_aload_n hx hb dX5_share_27 rfl (lv_at hl 0 rfl) ?_
      refine va_get (D := (dC, dI)) (ci := 5) (v := .ref q.2.2.2.2.1) (C := RX5) (T := TX5) (N := 12) hx hb hts (fun w h => List.mem_cons_of_mem _ (List.mem_append_right _ h)) hown hK hP 0 rfl rfl 4 (by decide) (hts (.fieldLink RX5 22 "TideGaugesModel" "places" "[I") (List.mem_of_getElem? (i := 1) rfl)) (fun _ h9 => h9) rfl dX5_share_28 ?_
      refine lv_iload_n hx hb dX5_share_31 rfl (lv_at hl 1 rfl) ?_
      rcases hp_3 : zPl σ kx with _ | a_4
      · refine x_iald hx hb hK hP 4 4 rfl rfl (k := kx) rfl (by have := hI.1; have := hI.2.1; omega) (by decide) (by show eo (zPl σ kx) = (-1 : Int32); rw [hp_3]; rfl) dX5_share_32 ?_
        refine x_iast hx hb hK hP hD hS 4 4 rfl rfl (k := ky) rfl (by have := hI.1; have := hI.2.1; omega) (by decide) dX5_share_33 (fun H locs hP hD hS => ?_)
        have hu_5 : zPl (uPl σ ky none) ky = none := va_up_self _ _ _
        have hP : va_P (dC, dI) vwCl (MWs q cJ cI cZ cD (uPl σ ky none)) H := mset4 (fz_pl σ ky none) hP
        have hD : va_D A (MWs q cJ cI cZ cD (uPl σ ky none)) := msetD4 (fz_pl σ ky none) hD
        refine lv_aload_n hx hb dX5_share_34 rfl (lv_at hl 0 rfl) ?_
        refine va_get (D := (dC, dI)) (ci := 5) (v := .ref q.2.2.2.2.1) (C := RX5) (T := TX5) (N := 12) hx hb hts (fun w h => List.mem_cons_of_mem _ (List.mem_append_right _ h)) hown hK hP 0 rfl rfl 4 (by decide) (hts (.fieldLink RX5 22 "TideGaugesModel" "places" "[I") (List.mem_of_getElem? (i := 1) rfl)) (fun _ h9 => h9) rfl dX5_share_35 ?_
        refine lv_iload_n hx hb dX5_share_38 rfl (lv_at hl 2 rfl) ?_
        refine x_iald hx hb hK hP 4 4 rfl rfl (k := ky) rfl (by have := hI.1; have := hI.2.1; omega) (by decide) (by show eo (zPl (uPl σ ky none) ky) = (-1 : Int32); rw [hu_5]; rfl) dX5_share_39 ?_
        refine lv_if_ge (tgt := 47) hx hb dX5_share_40 (by decide) (fun c_6 => ?_) (fun c_6 => ?_)
        · exact absurd c_6 (by decide)
        refine lv_iconst (v := 0) hx hb dX5_share_43 (by decide) ?_
        refine lv_goto (tgt := 48) hx hb dX5_share_44 (by decide) ?_
        exact W.iret hx hb hr (fun t ht hW => ⟨⟨_, (uPl σ ky none), rfl, (by unfold oShare; (try simp only [if_pos c_1, if_pos c_2, nI_clamp (show kx < 2 ^ 31 by omega), nI_clamp (show ky < 2 ^ 31 by omega), hp_3, hu_5, Option.getD_some, reduceCtorEq, if_true, if_false, Option.isNone_some, Option.isNone_none, Bool.false_or, Bool.true_or, Bool.not_true, Bool.not_false]); try rfl), by rw [ht]; exact hP, hD⟩, hS.F ht⟩) hS.2.2 dX5_share_48
      · have hb_7 := hI.2.2.1 _ _ hp_3
        refine x_iald hx hb hK hP 4 4 rfl rfl (k := kx) rfl (by have := hI.1; have := hI.2.1; omega) (by decide) (by show eo (zPl σ kx) = nI a_4; rw [hp_3]; rfl) dX5_share_32 ?_
        refine x_iast hx hb hK hP hD hS 4 4 rfl rfl (k := ky) rfl (by have := hI.1; have := hI.2.1; omega) (by decide) dX5_share_33 (fun H locs hP hD hS => ?_)
        have hu_8 : zPl (uPl σ ky (some a_4)) ky = (some a_4) := va_up_self _ _ _
        have hP : va_P (dC, dI) vwCl (MWs q cJ cI cZ cD (uPl σ ky (some a_4))) H := mset4 (fz_pl σ ky (some a_4)) hP
        have hD : va_D A (MWs q cJ cI cZ cD (uPl σ ky (some a_4))) := msetD4 (fz_pl σ ky (some a_4)) hD
        refine lv_aload_n hx hb dX5_share_34 rfl (lv_at hl 0 rfl) ?_
        refine va_get (D := (dC, dI)) (ci := 5) (v := .ref q.2.2.2.2.1) (C := RX5) (T := TX5) (N := 12) hx hb hts (fun w h => List.mem_cons_of_mem _ (List.mem_append_right _ h)) hown hK hP 0 rfl rfl 4 (by decide) (hts (.fieldLink RX5 22 "TideGaugesModel" "places" "[I") (List.mem_of_getElem? (i := 1) rfl)) (fun _ h9 => h9) rfl dX5_share_35 ?_
        refine lv_iload_n hx hb dX5_share_38 rfl (lv_at hl 2 rfl) ?_
        refine x_iald hx hb hK hP 4 4 rfl rfl (k := ky) rfl (by have := hI.1; have := hI.2.1; omega) (by decide) (by show eo (zPl (uPl σ ky (some a_4)) ky) = nI a_4; rw [hu_8]; rfl) dX5_share_39 ?_
        refine lv_if_ge (tgt := 47) hx hb dX5_share_40 (by decide) (fun c_9 => ?_) (fun c_9 => ?_)
        rotate_left
        · exact absurd (nI_pos' (by omega)) c_9
        refine lv_iconst (v := 1) hx hb dX5_share_47 (by decide) ?_
        exact W.iret hx hb hr (fun t ht hW => ⟨⟨_, (uPl σ ky (some a_4)), rfl, (by unfold oShare; (try simp only [if_pos c_1, if_pos c_2, nI_clamp (show kx < 2 ^ 31 by omega), nI_clamp (show ky < 2 ^ 31 by omega), hp_3, hu_8, Option.getD_some, reduceCtorEq, if_true, if_false, Option.isNone_some, Option.isNone_none, Bool.false_or, Bool.true_or, Bool.not_true, Bool.not_false]); try rfl), by rw [ht]; exact hP, hD⟩, hS.F ht⟩) hS.2.2 dX5_share_48
    · refine lv_iconst (v := -1) hx hb dX5_share_20 (by decide) ?_
      exact W.iret hx hb hr (fun t ht hW => ⟨⟨_, σ, rfl, (by unfold oShare; (try simp only [if_pos c_1, if_neg c_2, nI_clamp (show kx < 2 ^ 31 by omega), Option.getD_some, reduceCtorEq, if_true, if_false, Option.isNone_some, Option.isNone_none, Bool.false_or, Bool.true_or, Bool.not_true, Bool.not_false]); try rfl), by rw [ht]; exact hP, hD⟩, hS.F ht⟩) hS.2.2 dX5_share_21
set_option maxHeartbeats 8000000 in
set_option maxRecDepth 100000 in
theorem mX5_clear (l : Launch) (dC : Nat → ClassId) (dI : Nat → Nat → Nat) (q : Ad) (cJ cG cK cR cI cZ cD : ClassId) (sz : Nat) (σ : St) (N0 : Nat) (hI : Inv σ N0) (hN : N0 ≤ 512) (x : Int32) : Met l yX5_clear wsX5_clear ({ frames := 1, cells := 0, slots := 0, locals := 22 }) (va_Pc [.ref q.1, .int x] (fun U => U.heap.size = sz ∧ va_P (dC, dI) vwCl (MWs q cJ cI cZ cD σ) U.heap ∧ va_K (dC, dI) vwCl (tys0 cJ cG cK cR cI cZ cD) U ∧ va_D (fun _ => True) (MWs q cJ cI cZ cD σ))) (va_Qi (fun (r : Int32) (τ : St) => (r, τ) = oClear σ x) (fun τ t => va_P (dC, dI) vwCl (MWs q cJ cI cZ cD τ) t.heap ∧ va_D (va_A (MWs q cJ cI cZ cD σ) sz) (MWs q cJ cI cZ cD τ)) (va_A (MWs q cJ cI cZ cD σ) sz)) 0 0 (va_A (MWs q cJ cI cZ cD σ) sz) := by
  refine Met.ofW (cc := cX5_clear) (maxL := 3) (ret := (some .int)) (by decide) rfl ?_
  intro p e s m args below meth c s₁ B hml hv
  obtain ⟨rfl, hsz, hP, hK, hD0⟩ := hv
  have hx := B.exec
  have hb := B.bytes
  have hr := B.returns
  have hts := atoms_spec (ws := wsX5_clear) B.pre
  have hown : s.vm.findClass RX5 = some m.cls := findClass_of_methodNamed B.named
  have hlocks := B.notSynchronized
  have hN1 := hI.1
  have hN2 := hI.2.1
  subst hsz
  have hD := hD0.self (sz := s.heap.size)
  generalize hAe : va_A (MWs q cJ cI cZ cD σ) s.heap.size = A at hD ⊢
  have hA : ∀ z : Nat, s.heap.size ≤ z → A z := fun z h => by rw [← hAe]; exact Or.inr h
  have hS : va_S A s.heap s.heap [] := va_S.rf
  have hl := lv_entry ([.ref q.1, .int x]) (n := 3) (Nat.le_of_ble_eq_true rfl)
  rw [lg_entry_eq]
  generalize (lg_sl ([.ref q.1, .int x]) ++ List.replicate (3 - (lg_sl ([.ref q.1, .int x])).length) Slot.unset).toArray = ls at hl ⊢
  have hl : lv_has ls 3 [(0, .ref q.1), (1, .int x)] := hl
  refine lv_iload_n hx hb dX5_clear_0 rfl (lv_at hl 1 rfl) ?_
  refine lv_iconst (v := 0) hx hb dX5_clear_1 (by decide) ?_
  refine lv_bipush (v := 7) hx hb dX5_clear_2 (by decide) ?_
  refine cs_0 (As := [.int x, .int 0, .int (7 : Int32)]) (rest := []) ⟨hx, hb, hml, hown, hts⟩ (mX5_inN l x (7 : Int32) 8 rfl (by decide)) (va_cwS 3 hts gX5_clear_X5_in rfl rfl rfl (by decide +kernel) ⟨Nat.le_of_ble_eq_true rfl, Nat.le_of_ble_eq_true rfl⟩) rfl rfl hl.1 (Nat.le_of_ble_eq_true rfl) dX5_clear_4 (Nat.zero_le _) (Nat.zero_le _) ?_
  refine w_bne (tgt := 12) hx hb dX5_clear_7 (by decide) (fun c_1 => ?_) (fun c_1 => ?_)
  · obtain ⟨kx, hkx, rfl⟩ := ixb_some c_1 (by decide)
    refine lv_aload_n hx hb dX5_clear_12 rfl (lv_at hl 0 rfl) ?_
    refine va_get (D := (dC, dI)) (ci := 5) (v := .ref q.2.2.2.2.1) (C := RX5) (T := TX5) (N := 12) hx hb hts (fun w h => List.mem_cons_of_mem _ (List.mem_append_right _ h)) hown hK hP 0 rfl rfl 4 (by decide) (hts (.fieldLink RX5 22 "TideGaugesModel" "places" "[I") (List.mem_of_getElem? (i := 1) rfl)) (fun _ h9 => h9) rfl dX5_clear_13 ?_
    refine lv_iload_n hx hb dX5_clear_16 rfl (lv_at hl 1 rfl) ?_
    rcases hp_2 : zPl σ kx with _ | a_3
    · refine x_iald hx hb hK hP 4 4 rfl rfl (k := kx) rfl (by have := hI.1; have := hI.2.1; omega) (by decide) (by show eo (zPl σ kx) = (-1 : Int32); rw [hp_2]; rfl) dX5_clear_17 ?_
      refine lv_if_ge (tgt := 25) hx hb dX5_clear_18 (by decide) (fun c_4 => ?_) (fun c_4 => ?_)
      · exact absurd c_4 (by decide)
      refine lv_iconst (v := 0) hx hb dX5_clear_21 (by decide) ?_
      refine lv_goto (tgt := 26) hx hb dX5_clear_22 (by decide) ?_
      refine lv_istore_n (lv' := [(2, .int (0 : Int32)), (0, .ref q.1), (1, .int (nI kx))]) hx hb dX5_clear_26 rfl hl (by decide) rfl (fun ls hl => ?_)
      refine lv_aload_n hx hb dX5_clear_27 rfl (lv_at hl 1 rfl) ?_
      refine va_get (D := (dC, dI)) (ci := 5) (v := .ref q.2.2.2.2.1) (C := RX5) (T := TX5) (N := 12) hx hb hts (fun w h => List.mem_cons_of_mem _ (List.mem_append_right _ h)) hown hK hP 0 rfl rfl 4 (by decide) (hts (.fieldLink RX5 22 "TideGaugesModel" "places" "[I") (List.mem_of_getElem? (i := 1) rfl)) (fun _ h9 => h9) rfl dX5_clear_28 ?_
      refine lv_iload_n hx hb dX5_clear_31 rfl (lv_at hl 2 rfl) ?_
      refine lv_iconst (v := -1) hx hb dX5_clear_32 (by decide) ?_
      refine x_iast hx hb hK hP hD hS 4 4 rfl rfl (k := kx) rfl (by have := hI.1; have := hI.2.1; omega) (by decide) dX5_clear_33 (fun H locs hP hD hS => ?_)
      have hu_5 : zPl (uPl σ kx none) kx = none := va_up_self _ _ _
      have hP : va_P (dC, dI) vwCl (MWs q cJ cI cZ cD (uPl σ kx none)) H := mset4 (fz_pl σ kx none) hP
      have hD : va_D A (MWs q cJ cI cZ cD (uPl σ kx none)) := msetD4 (fz_pl σ kx none) hD
      refine lv_iload_n hx hb dX5_clear_34 rfl (lv_at hl 0 rfl) ?_
      exact W.iret hx hb hr (fun t ht hW => ⟨⟨_, (uPl σ kx none), rfl, (by unfold oClear; (try simp only [if_pos c_1, nI_clamp (show kx < 2 ^ 31 by omega), hp_2, hu_5, Option.getD_some, reduceCtorEq, if_true, if_false, Option.isNone_some, Option.isNone_none, Bool.false_or, Bool.true_or, Bool.not_true, Bool.not_false]); try rfl), by rw [ht]; exact hP, hD⟩, hS.F ht⟩) hS.2.2 dX5_clear_35
    · have hb_6 := hI.2.2.1 _ _ hp_2
      refine x_iald hx hb hK hP 4 4 rfl rfl (k := kx) rfl (by have := hI.1; have := hI.2.1; omega) (by decide) (by show eo (zPl σ kx) = nI a_3; rw [hp_2]; rfl) dX5_clear_17 ?_
      refine lv_if_ge (tgt := 25) hx hb dX5_clear_18 (by decide) (fun c_7 => ?_) (fun c_7 => ?_)
      rotate_left
      · exact absurd (nI_pos' (by omega)) c_7
      refine lv_iconst (v := 1) hx hb dX5_clear_25 (by decide) ?_
      refine lv_istore_n (lv' := [(2, .int (1 : Int32)), (0, .ref q.1), (1, .int (nI kx))]) hx hb dX5_clear_26 rfl hl (by decide) rfl (fun ls hl => ?_)
      refine lv_aload_n hx hb dX5_clear_27 rfl (lv_at hl 1 rfl) ?_
      refine va_get (D := (dC, dI)) (ci := 5) (v := .ref q.2.2.2.2.1) (C := RX5) (T := TX5) (N := 12) hx hb hts (fun w h => List.mem_cons_of_mem _ (List.mem_append_right _ h)) hown hK hP 0 rfl rfl 4 (by decide) (hts (.fieldLink RX5 22 "TideGaugesModel" "places" "[I") (List.mem_of_getElem? (i := 1) rfl)) (fun _ h9 => h9) rfl dX5_clear_28 ?_
      refine lv_iload_n hx hb dX5_clear_31 rfl (lv_at hl 2 rfl) ?_
      refine lv_iconst (v := -1) hx hb dX5_clear_32 (by decide) ?_
      refine x_iast hx hb hK hP hD hS 4 4 rfl rfl (k := kx) rfl (by have := hI.1; have := hI.2.1; omega) (by decide) dX5_clear_33 (fun H locs hP hD hS => ?_)
      have hu_8 : zPl (uPl σ kx none) kx = none := va_up_self _ _ _
      have hP : va_P (dC, dI) vwCl (MWs q cJ cI cZ cD (uPl σ kx none)) H := mset4 (fz_pl σ kx none) hP
      have hD : va_D A (MWs q cJ cI cZ cD (uPl σ kx none)) := msetD4 (fz_pl σ kx none) hD
      refine lv_iload_n hx hb dX5_clear_34 rfl (lv_at hl 0 rfl) ?_
      exact W.iret hx hb hr (fun t ht hW => ⟨⟨_, (uPl σ kx none), rfl, (by unfold oClear; (try simp only [if_pos c_1, nI_clamp (show kx < 2 ^ 31 by omega), hp_2, hu_8, Option.getD_some, reduceCtorEq, if_true, if_false, Option.isNone_some, Option.isNone_none, Bool.false_or, Bool.true_or, Bool.not_true, Bool.not_false]); try rfl), by rw [ht]; exact hP, hD⟩, hS.F ht⟩) hS.2.2 dX5_clear_35
  · refine lv_iconst (v := -1) hx hb dX5_clear_10 (by decide) ?_
    exact W.iret hx hb hr (fun t ht hW => ⟨⟨_, σ, rfl, (by unfold oClear; (try simp only [if_neg c_1, Option.getD_some, reduceCtorEq, if_true, if_false, Option.isNone_some, Option.isNone_none, Bool.false_or, Bool.true_or, Bool.not_true, Bool.not_false]); try rfl), by rw [ht]; exact hP, hD⟩, hS.F ht⟩) hS.2.2 dX5_clear_11
set_option maxHeartbeats 8000000 in
set_option maxRecDepth 100000 in
theorem mX5_put (l : Launch) (dC : Nat → ClassId) (dI : Nat → Nat → Nat) (q : Ad) (cJ cG cK cR cI cZ cD : ClassId) (sz : Nat) (σ : St) (N0 : Nat) (hI : Inv σ N0) (hN : N0 ≤ 512) (x : Int32) (w : Bool) (i : Int32) (b : Int64) : Met l yX5_put wsX5_put ({ frames := 2, cells := 0, slots := 0, locals := 47 }) (va_Pc [.ref q.1, .int x, .int (b2i w), .int i, .long b] (fun U => U.heap.size = sz ∧ va_P (dC, dI) vwCl (MWs q cJ cI cZ cD σ) U.heap ∧ va_K (dC, dI) vwCl (tys0 cJ cG cK cR cI cZ cD) U ∧ va_D (fun _ => True) (MWs q cJ cI cZ cD σ))) (va_Qi (fun (r : Int32) (τ : St) => (r, τ) = oPut σ x w i b) (fun τ t => va_P (dC, dI) vwCl (MWs q cJ cI cZ cD τ) t.heap ∧ va_D (va_A (MWs q cJ cI cZ cD σ) sz) (MWs q cJ cI cZ cD τ)) (va_A (MWs q cJ cI cZ cD σ) sz)) 0 0 (va_A (MWs q cJ cI cZ cD σ) sz) := by
  refine Met.ofW (cc := cX5_put) (maxL := 7) (ret := (some .int)) (by decide) rfl ?_
  intro p e s m args below meth c s₁ B hml hv
  obtain ⟨rfl, hsz, hP, hK, hD0⟩ := hv
  have hx := B.exec
  have hb := B.bytes
  have hr := B.returns
  have hts := atoms_spec (ws := wsX5_put) B.pre
  have hown : s.vm.findClass RX5 = some m.cls := findClass_of_methodNamed B.named
  have hlocks := B.notSynchronized
  have hN1 := hI.1
  have hN2 := hI.2.1
  subst hsz
  have hD := hD0.self (sz := s.heap.size)
  generalize hAe : va_A (MWs q cJ cI cZ cD σ) s.heap.size = A at hD ⊢
  have hA : ∀ z : Nat, s.heap.size ≤ z → A z := fun z h => by rw [← hAe]; exact Or.inr h
  have hS : va_S A s.heap s.heap [] := va_S.rf
  have hl := lv_entry ([.ref q.1, .int x, .int (b2i w), .int i, .long b]) (n := 7) (Nat.le_of_ble_eq_true rfl)
  rw [lg_entry_eq]
  generalize (lg_sl ([.ref q.1, .int x, .int (b2i w), .int i, .long b]) ++ List.replicate (7 - (lg_sl ([.ref q.1, .int x, .int (b2i w), .int i, .long b])).length) Slot.unset).toArray = ls at hl ⊢
  have hl : lv_has ls 7 [(0, .ref q.1), (1, .int x), (2, .int (b2i w)), (3, .int i), (4, .long b)] := hl
  refine lv_iload_n hx hb dX5_put_0 rfl (lv_at hl 1 rfl) ?_
  refine lv_iconst (v := 0) hx hb dX5_put_1 (by decide) ?_
  refine lv_bipush (v := 7) hx hb dX5_put_2 (by decide) ?_
  refine cs_0 (As := [.int x, .int 0, .int (7 : Int32)]) (rest := []) ⟨hx, hb, hml, hown, hts⟩ (mX5_inN l x (7 : Int32) 8 rfl (by decide)) (va_cwS 3 hts gX5_put_X5_in rfl rfl rfl (by decide +kernel) ⟨Nat.le_of_ble_eq_true rfl, Nat.le_of_ble_eq_true rfl⟩) rfl rfl hl.1 (Nat.le_of_ble_eq_true rfl) dX5_put_4 (Nat.zero_le _) (Nat.zero_le _) ?_
  refine w_beq (tgt := 19) hx hb dX5_put_7 (by decide) (fun c_1 => ?_) (fun c_1 => ?_)
  · refine lv_iconst (v := -1) hx hb dX5_put_19 (by decide) ?_
    exact W.iret hx hb hr (fun t ht hW => ⟨⟨_, σ, rfl, (by unfold oPut; (try simp only [if_neg c_1, Option.getD_some, reduceCtorEq, if_true, if_false, Option.isNone_some, Option.isNone_none, Bool.false_or, Bool.true_or, Bool.not_true, Bool.not_false]); try rfl), by rw [ht]; exact hP, hD⟩, hS.F ht⟩) hS.2.2 dX5_put_20
  · obtain ⟨kx, hkx, rfl⟩ := ixb_some c_1 (by decide)
    refine lv_iload_n hx hb dX5_put_10 rfl (lv_at hl 2 rfl) ?_
    refine lv_lload hx hb dX5_put_11 (lv_at hl 4 rfl) ?_
    refine cs_0 (As := [.int (b2i w), .long b]) (rest := []) ⟨hx, hb, hml, hown, hts⟩ (mX5_isNumber l w b) (va_cwS 2 hts gX5_put_X5_isNumber rfl rfl rfl (by decide +kernel) ⟨Nat.le_of_ble_eq_true rfl, Nat.le_of_ble_eq_true rfl⟩) rfl rfl hl.1 (Nat.le_of_ble_eq_true rfl) dX5_put_13 (Nat.zero_le _) (Nat.zero_le _) ?_
    refine w_bne (tgt := 21) hx hb dX5_put_16 (by decide) (fun c_2 => ?_) (fun c_2 => ?_)
    · refine lv_aload_n hx hb dX5_put_21 rfl (lv_at hl 0 rfl) ?_
      refine lv_iload_n hx hb dX5_put_22 rfl (lv_at hl 1 rfl) ?_
      refine lv_iload_n hx hb dX5_put_23 rfl (lv_at hl 2 rfl) ?_
      refine lv_iload_n hx hb dX5_put_24 rfl (lv_at hl 3 rfl) ?_
      refine cm_w (q0 := 0) (As := [.int (nI kx), .int (b2i w), .int i]) (rest := []) ⟨hx, hb, hml, hown, hts⟩ (mX5_askedItem l dC dI q cJ cG cK cR cI cZ cD σ N0 hI hN kx (by omega) w i) (cwV 3 hts gX5_put_X5_askedItem rfl rfl rfl (by decide +kernel) ⟨Nat.le_of_ble_eq_true rfl, Nat.le_of_ble_eq_true rfl⟩) hK hP rfl rfl rfl rfl hl.1 (Nat.le_of_ble_eq_true rfl) dX5_put_25 (Nat.zero_le _) (Nat.zero_le _) ?_
      refine lv_istore (lv' := [(6, .int (askI σ kx w i)), (0, .ref q.1), (1, .int (nI kx)), (2, .int (b2i w)), (3, .int i), (4, .long b)]) hx hb dX5_put_28 hl (by decide) rfl (fun ls hl => ?_)
      refine lv_iload hx hb dX5_put_30 (lv_at hl 0 rfl) ?_
      refine lv_if_eq (tgt := 41) hx hb dX5_put_32 (by decide) (fun c_3 => ?_) (fun c_3 => ?_)
      · obtain ⟨akx, ki, hpakx, hwakx, hki, rfl⟩ := askI_0 hI c_3
        have hbakx := hI.2.2.1 _ _ hpakx
        have hsakx := hI.2.2.2.1 akx
        refine lv_aload_n hx hb dX5_put_41 rfl (lv_at hl 1 rfl) ?_
        refine va_get (D := (dC, dI)) (ci := 5) (v := .ref q.2.2.2.1) (C := RX5) (T := TX5) (N := 12) hx hb hts (fun w h => List.mem_cons_of_mem _ (List.mem_append_right _ h)) hown hK hP 0 rfl rfl 3 (by decide) (hts (.fieldLink RX5 18 "TideGaugesModel" "items" "[J") (List.mem_of_getElem? (i := 1) rfl)) (fun _ h9 => h9) rfl dX5_put_42 ?_
        refine lv_bipush (v := 12) hx hb dX5_put_45 (by decide) ?_
        refine lv_aload_n hx hb dX5_put_47 rfl (lv_at hl 1 rfl) ?_
        refine va_get (D := (dC, dI)) (ci := 5) (v := .ref q.2.2.2.2.1) (C := RX5) (T := TX5) (N := 12) hx hb hts (fun w h => List.mem_cons_of_mem _ (List.mem_append_right _ h)) hown hK hP 0 rfl rfl 4 (by decide) (hts (.fieldLink RX5 22 "TideGaugesModel" "places" "[I") (List.mem_of_getElem? (i := 2) rfl)) (fun _ h9 => h9) rfl dX5_put_48 ?_
        refine lv_iload_n hx hb dX5_put_51 rfl (lv_at hl 2 rfl) ?_
        refine x_iald hx hb hK hP 4 4 rfl rfl (k := kx) rfl (by have := hI.1; have := hI.2.1; omega) (by decide) (by show eo (zPl σ kx) = nI akx; rw [hpakx]; rfl) dX5_put_52 ?_
        refine lv_imul hx hb dX5_put_53 ?_
        refine lv_iload_n hx hb dX5_put_54 rfl (lv_at hl 4 rfl) ?_
        refine lv_iadd hx hb dX5_put_55 ?_
        refine lv_iload_n hx hb dX5_put_56 rfl (lv_at hl 3 rfl) ?_
        refine w_beq (tgt := 65) hx hb dX5_put_57 (by decide) (fun c_4 => ?_) (fun c_4 => ?_)
        · refine lv_lload hx hb dX5_put_65 (lv_at hl 5 rfl) ?_
          refine lv_l2i hx hb dX5_put_67 rfl ?_
          refine lv_i2l hx hb dX5_put_68 rfl ?_
          refine x_last hx hb hK hP hD hS 3 0 rfl rfl (k := (12 * akx + ki)) ix_mul (by have := hI.1; have := hI.2.1; omega) (by decide) dX5_put_69 (fun H locs hP hD hS => ?_)
          have hP : va_P (dC, dI) vwCl (MWs q cJ cI cZ cD (uIt σ akx ki b.toInt32.toInt64)) H := mset3 (fz_ri σ akx ki b.toInt32.toInt64 (by have := hI.2.2.2.1 akx; omega)) hP
          have hD : va_D A (MWs q cJ cI cZ cD (uIt σ akx ki b.toInt32.toInt64)) := msetD3 (fz_ri σ akx ki b.toInt32.toInt64 (by have := hI.2.2.2.1 akx; omega)) hD
          refine lv_iconst (v := 1) hx hb dX5_put_70 (by decide) ?_
          exact W.iret hx hb hr (fun t ht hW => ⟨⟨_, (uIt σ akx ki b.toInt32.toInt64), rfl, (by unfold oPut; (try simp only [if_pos c_1, if_pos c_2, if_pos c_3, if_neg c_4, nI_clamp (show kx < 2 ^ 31 by omega), nI_clamp (show ki < 2 ^ 31 by omega), hpakx, Option.getD_some, reduceCtorEq, if_true, if_false, Option.isNone_some, Option.isNone_none, Bool.false_or, Bool.true_or, Bool.not_true, Bool.not_false]); try rfl), by rw [ht]; exact hP, hD⟩, hS.F ht⟩) hS.2.2 dX5_put_71
        · refine lv_lload hx hb dX5_put_60 (lv_at hl 5 rfl) ?_
          refine lv_goto (tgt := 69) hx hb dX5_put_62 (by decide) ?_
          refine x_last hx hb hK hP hD hS 3 0 rfl rfl (k := (12 * akx + ki)) ix_mul (by have := hI.1; have := hI.2.1; omega) (by decide) dX5_put_69 (fun H locs hP hD hS => ?_)
          have hP : va_P (dC, dI) vwCl (MWs q cJ cI cZ cD (uIt σ akx ki b)) H := mset3 (fz_ri σ akx ki b (by have := hI.2.2.2.1 akx; omega)) hP
          have hD : va_D A (MWs q cJ cI cZ cD (uIt σ akx ki b)) := msetD3 (fz_ri σ akx ki b (by have := hI.2.2.2.1 akx; omega)) hD
          refine lv_iconst (v := 1) hx hb dX5_put_70 (by decide) ?_
          exact W.iret hx hb hr (fun t ht hW => ⟨⟨_, (uIt σ akx ki b), rfl, (by unfold oPut; (try simp only [if_pos c_1, if_pos c_2, if_pos c_3, if_pos c_4, nI_clamp (show kx < 2 ^ 31 by omega), nI_clamp (show ki < 2 ^ 31 by omega), hpakx, Option.getD_some, reduceCtorEq, if_true, if_false, Option.isNone_some, Option.isNone_none, Bool.false_or, Bool.true_or, Bool.not_true, Bool.not_false]); try rfl), by rw [ht]; exact hP, hD⟩, hS.F ht⟩) hS.2.2 dX5_put_71
      · refine lv_iload hx hb dX5_put_35 (lv_at hl 0 rfl) ?_
        refine cs_0 (As := [.int (askI σ kx w i)]) (rest := []) ⟨hx, hb, hml, hown, hts⟩ (mX5_fails l (askI σ kx w i)) (va_cwS 1 hts gX5_put_X5_fails rfl rfl rfl (by decide +kernel) ⟨Nat.le_of_ble_eq_true rfl, Nat.le_of_ble_eq_true rfl⟩) rfl rfl hl.1 (Nat.le_of_ble_eq_true rfl) dX5_put_37 (Nat.zero_le _) (Nat.zero_le _) ?_
        exact W.iret hx hb hr (fun t ht hW => ⟨⟨_, σ, rfl, (by unfold oPut; (try simp only [if_pos c_1, if_pos c_2, if_neg c_3, nI_clamp (show kx < 2 ^ 31 by omega), Option.getD_some, reduceCtorEq, if_true, if_false, Option.isNone_some, Option.isNone_none, Bool.false_or, Bool.true_or, Bool.not_true, Bool.not_false]); try rfl), by rw [ht]; exact hP, hD⟩, hS.F ht⟩) hS.2.2 dX5_put_40
    · refine lv_iconst (v := -1) hx hb dX5_put_19 (by decide) ?_
      exact W.iret hx hb hr (fun t ht hW => ⟨⟨_, σ, rfl, (by unfold oPut; (try simp only [if_pos c_1, if_neg c_2, nI_clamp (show kx < 2 ^ 31 by omega), Option.getD_some, reduceCtorEq, if_true, if_false, Option.isNone_some, Option.isNone_none, Bool.false_or, Bool.true_or, Bool.not_true, Bool.not_false]); try rfl), by rw [ht]; exact hP, hD⟩, hS.F ht⟩) hS.2.2 dX5_put_20
set_option maxHeartbeats 8000000 in
set_option maxRecDepth 100000 in
theorem mX5_get (l : Launch) (dC : Nat → ClassId) (dI : Nat → Nat → Nat) (q : Ad) (cJ cG cK cR cI cZ cD : ClassId) (sz : Nat) (σ : St) (N0 : Nat) (hI : Inv σ N0) (hN : N0 ≤ 512) (x : Int32) (w : Bool) (i : Int32) : Met l yX5_get wsX5_get ({ frames := 2, cells := 0, slots := 0, locals := 47 }) (va_Pc [.ref q.1, .int x, .int (b2i w), .int i] (fun U => U.heap.size = sz ∧ va_P (dC, dI) vwCl (MWs q cJ cI cZ cD σ) U.heap ∧ va_K (dC, dI) vwCl (tys0 cJ cG cK cR cI cZ cD) U ∧ va_D (fun _ => True) (MWs q cJ cI cZ cD σ))) (va_Qi (fun (r : Int32) (τ : St) => (r, τ) = oGet σ x w i) (fun τ t => va_P (dC, dI) vwCl (MWs q cJ cI cZ cD τ) t.heap ∧ va_D (va_A (MWs q cJ cI cZ cD σ) sz) (MWs q cJ cI cZ cD τ)) (va_A (MWs q cJ cI cZ cD σ) sz)) 0 0 (va_A (MWs q cJ cI cZ cD σ) sz) := by
  refine Met.ofW (cc := cX5_get) (maxL := 5) (ret := (some .int)) (by decide) rfl ?_
  intro p e s m args below meth c s₁ B hml hv
  obtain ⟨rfl, hsz, hP, hK, hD0⟩ := hv
  have hx := B.exec
  have hb := B.bytes
  have hr := B.returns
  have hts := atoms_spec (ws := wsX5_get) B.pre
  have hown : s.vm.findClass RX5 = some m.cls := findClass_of_methodNamed B.named
  have hlocks := B.notSynchronized
  have hN1 := hI.1
  have hN2 := hI.2.1
  subst hsz
  have hD := hD0.self (sz := s.heap.size)
  generalize hAe : va_A (MWs q cJ cI cZ cD σ) s.heap.size = A at hD ⊢
  have hA : ∀ z : Nat, s.heap.size ≤ z → A z := fun z h => by rw [← hAe]; exact Or.inr h
  have hS : va_S A s.heap s.heap [] := va_S.rf
  have hl := lv_entry ([.ref q.1, .int x, .int (b2i w), .int i]) (n := 5) (Nat.le_of_ble_eq_true rfl)
  rw [lg_entry_eq]
  generalize (lg_sl ([.ref q.1, .int x, .int (b2i w), .int i]) ++ List.replicate (5 - (lg_sl ([.ref q.1, .int x, .int (b2i w), .int i])).length) Slot.unset).toArray = ls at hl ⊢
  have hl : lv_has ls 5 [(0, .ref q.1), (1, .int x), (2, .int (b2i w)), (3, .int i)] := hl
  refine lv_iload_n hx hb dX5_get_0 rfl (lv_at hl 1 rfl) ?_
  refine lv_iconst (v := 0) hx hb dX5_get_1 (by decide) ?_
  refine lv_bipush (v := 7) hx hb dX5_get_2 (by decide) ?_
  refine cs_0 (As := [.int x, .int 0, .int (7 : Int32)]) (rest := []) ⟨hx, hb, hml, hown, hts⟩ (mX5_inN l x (7 : Int32) 8 rfl (by decide)) (va_cwS 3 hts gX5_get_X5_in rfl rfl rfl (by decide +kernel) ⟨Nat.le_of_ble_eq_true rfl, Nat.le_of_ble_eq_true rfl⟩) rfl rfl hl.1 (Nat.le_of_ble_eq_true rfl) dX5_get_4 (Nat.zero_le _) (Nat.zero_le _) ?_
  refine w_bne (tgt := 12) hx hb dX5_get_7 (by decide) (fun c_1 => ?_) (fun c_1 => ?_)
  · obtain ⟨kx, hkx, rfl⟩ := ixb_some c_1 (by decide)
    refine lv_aload_n hx hb dX5_get_12 rfl (lv_at hl 0 rfl) ?_
    refine lv_iload_n hx hb dX5_get_13 rfl (lv_at hl 1 rfl) ?_
    refine lv_iload_n hx hb dX5_get_14 rfl (lv_at hl 2 rfl) ?_
    refine lv_iload_n hx hb dX5_get_15 rfl (lv_at hl 3 rfl) ?_
    refine cm_w (q0 := 0) (As := [.int (nI kx), .int (b2i w), .int i]) (rest := []) ⟨hx, hb, hml, hown, hts⟩ (mX5_askedItem l dC dI q cJ cG cK cR cI cZ cD σ N0 hI hN kx (by omega) w i) (cwV 3 hts gX5_get_X5_askedItem rfl rfl rfl (by decide +kernel) ⟨Nat.le_of_ble_eq_true rfl, Nat.le_of_ble_eq_true rfl⟩) hK hP rfl rfl rfl rfl hl.1 (Nat.le_of_ble_eq_true rfl) dX5_get_16 (Nat.zero_le _) (Nat.zero_le _) ?_
    refine lv_istore (lv' := [(4, .int (askI σ kx w i)), (0, .ref q.1), (1, .int (nI kx)), (2, .int (b2i w)), (3, .int i)]) hx hb dX5_get_19 hl (by decide) rfl (fun ls hl => ?_)
    refine lv_iload hx hb dX5_get_21 (lv_at hl 0 rfl) ?_
    refine lv_if_eq (tgt := 32) hx hb dX5_get_23 (by decide) (fun c_2 => ?_) (fun c_2 => ?_)
    · obtain ⟨akx, ki, hpakx, hwakx, hki, rfl⟩ := askI_0 hI c_2
      have hbakx := hI.2.2.1 _ _ hpakx
      have hsakx := hI.2.2.2.1 akx
      refine lv_aload_n hx hb dX5_get_32 rfl (lv_at hl 1 rfl) ?_
      refine lv_aload_n hx hb dX5_get_33 rfl (lv_at hl 1 rfl) ?_
      refine lv_iload_n hx hb dX5_get_34 rfl (lv_at hl 2 rfl) ?_
      refine lv_iload_n hx hb dX5_get_35 rfl (lv_at hl 4 rfl) ?_
      refine cm_w (q0 := 0) (As := [.int (nI kx), .int (nI ki)]) (rest := [.ref q.1]) ⟨hx, hb, hml, hown, hts⟩ (mX5_item l dC dI q cJ cG cK cR cI cZ cD σ N0 hI hN kx (by omega) ki akx hpakx (by omega)) (cwV 2 hts gX5_get_X5_item rfl rfl rfl (by decide +kernel) ⟨Nat.le_of_ble_eq_true rfl, Nat.le_of_ble_eq_true rfl⟩) hK hP rfl rfl rfl rfl hl.1 (Nat.le_of_ble_eq_true rfl) dX5_get_36 (Nat.zero_le _) (Nat.zero_le _) ?_
      refine lv_topl (fun z_3 hz_3 => ?_)
      refine va_put (D := (dC, dI)) (ci := 5) (v := .long z_3) (ty := .long) (C := RX5) (T := TX5) (N := 12) hx hb hts (fun w h => List.mem_cons_of_mem _ (List.mem_append_right _ h)) tyX5 tyX5_ok nmX5 hown hK hP hD hS 0 rfl rfl 11 (by decide) (hts (.fieldLink RX5 99 "TideGaugesModel" "told" "J") (List.mem_of_getElem? (i := 1) rfl)) (fun _ h9 => h9) rfl (by decide +kernel) rfl rfl (Nat.le_of_ble_eq_true rfl) dX5_get_39 (fun H locs hP hD hS => ?_)
      have hP : va_P (dC, dI) vwCl (MWs q cJ cI cZ cD (uTo σ z_3)) H := hP
      have hD : va_D A (MWs q cJ cI cZ cD (uTo σ z_3)) := hD
      refine lv_iconst (v := 1) hx hb dX5_get_42 (by decide) ?_
      exact W.iret hx hb hr (fun t ht hW => ⟨⟨_, (uTo σ z_3), rfl, (by unfold oGet; (try simp only [if_pos c_1, if_pos c_2, nI_clamp (show kx < 2 ^ 31 by omega), nI_clamp (show ki < 2 ^ 31 by omega), hpakx, hz_3, Option.getD_some, reduceCtorEq, if_true, if_false, Option.isNone_some, Option.isNone_none, Bool.false_or, Bool.true_or, Bool.not_true, Bool.not_false]); try rfl), by rw [ht]; exact hP, hD⟩, hS.F ht⟩) hS.2.2 dX5_get_43
    · refine lv_iload hx hb dX5_get_26 (lv_at hl 0 rfl) ?_
      refine cs_0 (As := [.int (askI σ kx w i)]) (rest := []) ⟨hx, hb, hml, hown, hts⟩ (mX5_fails l (askI σ kx w i)) (va_cwS 1 hts gX5_get_X5_fails rfl rfl rfl (by decide +kernel) ⟨Nat.le_of_ble_eq_true rfl, Nat.le_of_ble_eq_true rfl⟩) rfl rfl hl.1 (Nat.le_of_ble_eq_true rfl) dX5_get_28 (Nat.zero_le _) (Nat.zero_le _) ?_
      exact W.iret hx hb hr (fun t ht hW => ⟨⟨_, σ, rfl, (by unfold oGet; (try simp only [if_pos c_1, if_neg c_2, nI_clamp (show kx < 2 ^ 31 by omega), Option.getD_some, reduceCtorEq, if_true, if_false, Option.isNone_some, Option.isNone_none, Bool.false_or, Bool.true_or, Bool.not_true, Bool.not_false]); try rfl), by rw [ht]; exact hP, hD⟩, hS.F ht⟩) hS.2.2 dX5_get_31
  · refine lv_iconst (v := -1) hx hb dX5_get_10 (by decide) ?_
    exact W.iret hx hb hr (fun t ht hW => ⟨⟨_, σ, rfl, (by unfold oGet; (try simp only [if_neg c_1, Option.getD_some, reduceCtorEq, if_true, if_false, Option.isNone_some, Option.isNone_none, Bool.false_or, Bool.true_or, Bool.not_true, Bool.not_false]); try rfl), by rw [ht]; exact hP, hD⟩, hS.F ht⟩) hS.2.2 dX5_get_11
set_option maxHeartbeats 8000000 in
set_option maxRecDepth 100000 in
theorem mX5_rest (l : Launch) (dC : Nat → ClassId) (dI : Nat → Nat → Nat) (q : Ad) (cJ cG cK cR cI cZ cD : ClassId) (sz : Nat) (σ : St) (N0 : Nat) (hI : Inv σ N0) (hN : N0 ≤ 512) (x : Int32) (w : Bool) (i : Int32) (j : Int32) : Met l yX5_rest wsX5_rest ({ frames := 3, cells := 0, slots := 0, locals := 66 }) (va_Pc [.ref q.1, .int x, .int (b2i w), .int i, .int j] (fun U => U.heap.size = sz ∧ va_P (dC, dI) vwCl (MWs q cJ cI cZ cD σ) U.heap ∧ va_K (dC, dI) vwCl (tys0 cJ cG cK cR cI cZ cD) U ∧ va_D (fun _ => True) (MWs q cJ cI cZ cD σ))) (va_Qi (fun (r : Int32) (τ : St) => (r, τ) = oRest σ x w i j) (fun τ t => va_P (dC, dI) vwCl (MWs q cJ cI cZ cD τ) t.heap ∧ va_D (va_A (MWs q cJ cI cZ cD σ) sz) (MWs q cJ cI cZ cD τ)) (va_A (MWs q cJ cI cZ cD σ) sz)) 0 0 (va_A (MWs q cJ cI cZ cD σ) sz) := by
  refine Met.ofW (cc := cX5_rest) (maxL := 10) (ret := (some .int)) (by decide) rfl ?_
  intro p e s m args below meth c s₁ B hml hv
  obtain ⟨rfl, hsz, hP, hK, hD0⟩ := hv
  have hx := B.exec
  have hb := B.bytes
  have hr := B.returns
  have hts := atoms_spec (ws := wsX5_rest) B.pre
  have hown : s.vm.findClass RX5 = some m.cls := findClass_of_methodNamed B.named
  have hlocks := B.notSynchronized
  have hN1 := hI.1
  have hN2 := hI.2.1
  subst hsz
  have hD := hD0.self (sz := s.heap.size)
  generalize hAe : va_A (MWs q cJ cI cZ cD σ) s.heap.size = A at hD ⊢
  have hA : ∀ z : Nat, s.heap.size ≤ z → A z := fun z h => by rw [← hAe]; exact Or.inr h
  have hS : va_S A s.heap s.heap [] := va_S.rf
  have hl := lv_entry ([.ref q.1, .int x, .int (b2i w), .int i, .int j]) (n := 10) (Nat.le_of_ble_eq_true rfl)
  rw [lg_entry_eq]
  generalize (lg_sl ([.ref q.1, .int x, .int (b2i w), .int i, .int j]) ++ List.replicate (10 - (lg_sl ([.ref q.1, .int x, .int (b2i w), .int i, .int j])).length) Slot.unset).toArray = ls at hl ⊢
  have hl : lv_has ls 10 [(0, .ref q.1), (1, .int x), (2, .int (b2i w)), (3, .int i), (4, .int j)] := hl
  refine lv_iload_n hx hb dX5_rest_0 rfl (lv_at hl 1 rfl) ?_
  refine lv_iconst (v := 0) hx hb dX5_rest_1 (by decide) ?_
  refine lv_bipush (v := 7) hx hb dX5_rest_2 (by decide) ?_
  refine cs_0 (As := [.int x, .int 0, .int (7 : Int32)]) (rest := []) ⟨hx, hb, hml, hown, hts⟩ (mX5_inN l x (7 : Int32) 8 rfl (by decide)) (va_cwS 3 hts gX5_rest_X5_in rfl rfl rfl (by decide +kernel) ⟨Nat.le_of_ble_eq_true rfl, Nat.le_of_ble_eq_true rfl⟩) rfl rfl hl.1 (Nat.le_of_ble_eq_true rfl) dX5_rest_4 (Nat.zero_le _) (Nat.zero_le _) ?_
  refine w_bne (tgt := 12) hx hb dX5_rest_7 (by decide) (fun c_1 => ?_) (fun c_1 => ?_)
  · obtain ⟨kx, hkx, rfl⟩ := ixb_some c_1 (by decide)
    refine lv_aload_n hx hb dX5_rest_12 rfl (lv_at hl 0 rfl) ?_
    refine lv_iload_n hx hb dX5_rest_13 rfl (lv_at hl 1 rfl) ?_
    refine lv_iload_n hx hb dX5_rest_14 rfl (lv_at hl 2 rfl) ?_
    refine lv_iload_n hx hb dX5_rest_15 rfl (lv_at hl 3 rfl) ?_
    refine cm_w (q0 := 0) (As := [.int (nI kx), .int (b2i w), .int i]) (rest := []) ⟨hx, hb, hml, hown, hts⟩ (mX5_askedItem l dC dI q cJ cG cK cR cI cZ cD σ N0 hI hN kx (by omega) w i) (cwV 3 hts gX5_rest_X5_askedItem rfl rfl rfl (by decide +kernel) ⟨Nat.le_of_ble_eq_true rfl, Nat.le_of_ble_eq_true rfl⟩) hK hP rfl rfl rfl rfl hl.1 (Nat.le_of_ble_eq_true rfl) dX5_rest_16 (Nat.zero_le _) (Nat.zero_le _) ?_
    refine lv_istore (lv' := [(5, .int (askI σ kx w i)), (0, .ref q.1), (1, .int (nI kx)), (2, .int (b2i w)), (3, .int i), (4, .int j)]) hx hb dX5_rest_19 hl (by decide) rfl (fun ls hl => ?_)
    refine lv_iload hx hb dX5_rest_21 (lv_at hl 0 rfl) ?_
    refine lv_if_eq (tgt := 31) hx hb dX5_rest_23 (by decide) (fun c_2 => ?_) (fun c_2 => ?_)
    · obtain ⟨akx, ki, hpakx, hwakx, hki, rfl⟩ := askI_0 hI c_2
      have hbakx := hI.2.2.1 _ _ hpakx
      have hsakx := hI.2.2.2.1 akx
      refine lv_aload_n hx hb dX5_rest_31 rfl (lv_at hl 1 rfl) ?_
      refine lv_iload_n hx hb dX5_rest_32 rfl (lv_at hl 2 rfl) ?_
      refine lv_iload_n hx hb dX5_rest_33 rfl (lv_at hl 3 rfl) ?_
      refine lv_iload hx hb dX5_rest_34 (lv_at hl 5 rfl) ?_
      refine cm_w (q0 := 0) (As := [.int (nI kx), .int (b2i w), .int j]) (rest := []) ⟨hx, hb, hml, hown, hts⟩ (mX5_askedItem l dC dI q cJ cG cK cR cI cZ cD σ N0 hI hN kx (by omega) w j) (cwV 3 hts gX5_rest_X5_askedItem rfl rfl rfl (by decide +kernel) ⟨Nat.le_of_ble_eq_true rfl, Nat.le_of_ble_eq_true rfl⟩) hK hP rfl rfl rfl rfl hl.1 (Nat.le_of_ble_eq_true rfl) dX5_rest_36 (Nat.zero_le _) (Nat.zero_le _) ?_
      refine lv_istore (lv' := [(5, .int (askI σ kx w j)), (0, .ref q.1), (1, .int (nI kx)), (2, .int (b2i w)), (3, .int (nI ki)), (4, .int j)]) hx hb dX5_rest_39 hl (by decide) rfl (fun ls hl => ?_)
      refine lv_iload hx hb dX5_rest_41 (lv_at hl 0 rfl) ?_
      refine lv_if_eq (tgt := 52) hx hb dX5_rest_43 (by decide) (fun c_3 => ?_) (fun c_3 => ?_)
      · obtain ⟨bkj, kj, hqkj, -, hkj, rfl⟩ := askI_0 hI c_3
        obtain rfl : akx = bkj := Option.some.inj (hpakx.symm.trans hqkj)
        refine lv_iload_n hx hb dX5_rest_52 rfl (lv_at hl 3 rfl) ?_
        refine lv_aload_n hx hb dX5_rest_53 rfl (lv_at hl 1 rfl) ?_
        refine lv_iload_n hx hb dX5_rest_54 rfl (lv_at hl 2 rfl) ?_
        refine lv_iload_n hx hb dX5_rest_55 rfl (lv_at hl 4 rfl) ?_
        refine cm_w (q0 := 0) (As := [.int (nI kx), .int (nI ki)]) (rest := [.int (b2i w)]) ⟨hx, hb, hml, hown, hts⟩ (mX5_item l dC dI q cJ cG cK cR cI cZ cD σ N0 hI hN kx (by omega) ki akx hpakx (by omega)) (cwV 2 hts gX5_rest_X5_item rfl rfl rfl (by decide +kernel) ⟨Nat.le_of_ble_eq_true rfl, Nat.le_of_ble_eq_true rfl⟩) hK hP rfl rfl rfl rfl hl.1 (Nat.le_of_ble_eq_true rfl) dX5_rest_56 (Nat.zero_le _) (Nat.zero_le _) ?_
        refine cs_0 (As := [.int (b2i w), .long (itm σ kx ki)]) (rest := []) ⟨hx, hb, hml, hown, hts⟩ (mX5_number l w (itm σ kx ki) (itm_ok hI hpakx hwakx)) (va_cwS 2 hts gX5_rest_X5_number rfl rfl rfl (by decide +kernel) ⟨Nat.le_of_ble_eq_true rfl, Nat.le_of_ble_eq_true rfl⟩) rfl rfl hl.1 (Nat.le_of_ble_eq_true rfl) dX5_rest_59 (Nat.zero_le _) (Nat.zero_le _) ?_
        refine lv_dstore (lv' := [(6, .double (fX5_number w (itm σ kx ki))), (5, .int (askI σ kx w (nI kj))), (0, .ref q.1), (1, .int (nI kx)), (2, .int (b2i w)), (3, .int (nI ki)), (4, .int (nI kj))]) hx hb dX5_rest_62 hl (by decide) rfl (fun ls hl => ?_)
        refine lv_iload_n hx hb dX5_rest_64 rfl (lv_at hl 4 rfl) ?_
        refine lv_aload_n hx hb dX5_rest_65 rfl (lv_at hl 2 rfl) ?_
        refine lv_iload_n hx hb dX5_rest_66 rfl (lv_at hl 3 rfl) ?_
        refine lv_iload hx hb dX5_rest_67 (lv_at hl 6 rfl) ?_
        refine cm_w (q0 := 0) (As := [.int (nI kx), .int (nI kj)]) (rest := [.int (b2i w)]) ⟨hx, hb, hml, hown, hts⟩ (mX5_item l dC dI q cJ cG cK cR cI cZ cD σ N0 hI hN kx (by omega) kj akx hpakx (by omega)) (cwV 2 hts gX5_rest_X5_item rfl rfl rfl (by decide +kernel) ⟨Nat.le_of_ble_eq_true rfl, Nat.le_of_ble_eq_true rfl⟩) hK hP rfl rfl rfl rfl hl.1 (Nat.le_of_ble_eq_true rfl) dX5_rest_69 (Nat.zero_le _) (Nat.zero_le _) ?_
        refine cs_0 (As := [.int (b2i w), .long (itm σ kx kj)]) (rest := []) ⟨hx, hb, hml, hown, hts⟩ (mX5_number l w (itm σ kx kj) (itm_ok hI hpakx hwakx)) (va_cwS 2 hts gX5_rest_X5_number rfl rfl rfl (by decide +kernel) ⟨Nat.le_of_ble_eq_true rfl, Nat.le_of_ble_eq_true rfl⟩) rfl rfl hl.1 (Nat.le_of_ble_eq_true rfl) dX5_rest_72 (Nat.zero_le _) (Nat.zero_le _) ?_
        refine lv_dstore (lv' := [(8, .double (fX5_number w (itm σ kx kj))), (6, .double (fX5_number w (itm σ kx ki))), (5, .int (askI σ kx w (nI kj))), (0, .ref q.1), (1, .int (nI kx)), (2, .int (b2i w)), (3, .int (nI ki)), (4, .int (nI kj))]) hx hb dX5_rest_75 hl (by decide) rfl (fun ls hl => ?_)
        refine lv_dload hx hb dX5_rest_77 (lv_at hl 1 rfl) ?_
        refine cs_0 (As := [.double (fX5_number w (itm σ kx ki))]) (rest := []) ⟨hx, hb, hml, hown, hts⟩ (mX5_isEndless l (fX5_number w (itm σ kx ki))) (va_cwS 1 hts gX5_rest_X5_isEndless rfl rfl rfl (by decide +kernel) ⟨Nat.le_of_ble_eq_true rfl, Nat.le_of_ble_eq_true rfl⟩) rfl rfl hl.1 (Nat.le_of_ble_eq_true rfl) dX5_rest_79 (Nat.zero_le _) (Nat.zero_le _) ?_
        refine w_bne (tgt := 92) hx hb dX5_rest_82 (by decide) (fun c_4 => ?_) (fun c_4 => ?_)
        · refine lv_iconst (v := 4) hx hb dX5_rest_92 (by decide) ?_
          refine cs_0 (As := [.int (4 : Int32)]) (rest := []) ⟨hx, hb, hml, hown, hts⟩ (mX5_fails l (4 : Int32)) (va_cwS 1 hts gX5_rest_X5_fails rfl rfl rfl (by decide +kernel) ⟨Nat.le_of_ble_eq_true rfl, Nat.le_of_ble_eq_true rfl⟩) rfl rfl hl.1 (Nat.le_of_ble_eq_true rfl) dX5_rest_93 (Nat.zero_le _) (Nat.zero_le _) ?_
          exact W.iret hx hb hr (fun t ht hW => ⟨⟨_, σ, rfl, (by unfold oRest; (try simp only [if_pos c_1, if_pos c_2, if_pos c_3, if_pos c_4, nI_clamp (show kx < 2 ^ 31 by omega), nI_clamp (show ki < 2 ^ 31 by omega), nI_clamp (show kj < 2 ^ 31 by omega), hpakx, Option.getD_some, reduceCtorEq, if_true, if_false, Option.isNone_some, Option.isNone_none, Bool.false_or, Bool.true_or, Bool.not_true, Bool.not_false]); try rfl), by rw [ht]; exact hP, hD⟩, hS.F ht⟩) hS.2.2 dX5_rest_96
        · refine lv_dload hx hb dX5_rest_85 (lv_at hl 0 rfl) ?_
          refine lv_dconst0 hx hb dX5_rest_87 ?_
          refine w_dz_ne (tgt := 97) hx hb dX5_rest_88 dX5_rest_89 (by decide) (fun c_5 => ?_) (fun c_5 => ?_)
          · refine lv_aload_n hx hb dX5_rest_97 rfl (lv_at hl 3 rfl) ?_
            refine lv_iload_n hx hb dX5_rest_98 rfl (lv_at hl 5 rfl) ?_
            refine lv_dload hx hb dX5_rest_99 (lv_at hl 1 rfl) ?_
            refine lv_dload hx hb dX5_rest_101 (lv_at hl 0 rfl) ?_
            refine lv_drem hx hb dX5_rest_103 (n64_of (drem_nn (num_nn (itm_ok hI hpakx hwakx)) c_4 (num_nn (itm_ok hI hpakx hwakx)) c_5)) ?_
            refine cs_0 (As := [.int (b2i w), .double (FP.drem (fX5_number w (itm σ kx ki)) (fX5_number w (itm σ kx kj)))]) (rest := [.ref q.1]) ⟨hx, hb, hml, hown, hts⟩ (mX5_bitsOf l w (FP.drem (fX5_number w (itm σ kx ki)) (fX5_number w (itm σ kx kj))) ((drem_nn (num_nn (itm_ok hI hpakx hwakx)) c_4 (num_nn (itm_ok hI hpakx hwakx)) c_5))) (va_cwS 2 hts gX5_rest_X5_bitsOf rfl rfl rfl (by decide +kernel) ⟨Nat.le_of_ble_eq_true rfl, Nat.le_of_ble_eq_true rfl⟩) rfl rfl hl.1 (Nat.le_of_ble_eq_true rfl) dX5_rest_104 (Nat.zero_le _) (Nat.zero_le _) ?_
            refine lv_topl (fun z_6 hz_6 => ?_)
            refine va_put (D := (dC, dI)) (ci := 5) (v := .long z_6) (ty := .long) (C := RX5) (T := TX5) (N := 12) hx hb hts (fun w h => List.mem_cons_of_mem _ (List.mem_append_right _ h)) tyX5 tyX5_ok nmX5 hown hK hP hD hS 0 rfl rfl 11 (by decide) (hts (.fieldLink RX5 99 "TideGaugesModel" "told" "J") (List.mem_of_getElem? (i := 1) rfl)) (fun _ h9 => h9) rfl (by decide +kernel) rfl rfl (Nat.le_of_ble_eq_true rfl) dX5_rest_107 (fun H locs hP hD hS => ?_)
            have hP : va_P (dC, dI) vwCl (MWs q cJ cI cZ cD (uTo σ z_6)) H := hP
            have hD : va_D A (MWs q cJ cI cZ cD (uTo σ z_6)) := hD
            refine lv_iconst (v := 1) hx hb dX5_rest_110 (by decide) ?_
            exact W.iret hx hb hr (fun t ht hW => ⟨⟨_, (uTo σ z_6), rfl, (by unfold oRest; (try simp only [if_pos c_1, if_pos c_2, if_pos c_3, if_neg c_4, if_neg c_5, nI_clamp (show kx < 2 ^ 31 by omega), nI_clamp (show ki < 2 ^ 31 by omega), nI_clamp (show kj < 2 ^ 31 by omega), hpakx, hz_6, Option.getD_some, reduceCtorEq, if_true, if_false, Option.isNone_some, Option.isNone_none, Bool.false_or, Bool.true_or, Bool.not_true, Bool.not_false]); try rfl), by rw [ht]; exact hP, hD⟩, hS.F ht⟩) hS.2.2 dX5_rest_111
          · refine lv_iconst (v := 4) hx hb dX5_rest_92 (by decide) ?_
            refine cs_0 (As := [.int (4 : Int32)]) (rest := []) ⟨hx, hb, hml, hown, hts⟩ (mX5_fails l (4 : Int32)) (va_cwS 1 hts gX5_rest_X5_fails rfl rfl rfl (by decide +kernel) ⟨Nat.le_of_ble_eq_true rfl, Nat.le_of_ble_eq_true rfl⟩) rfl rfl hl.1 (Nat.le_of_ble_eq_true rfl) dX5_rest_93 (Nat.zero_le _) (Nat.zero_le _) ?_
            exact W.iret hx hb hr (fun t ht hW => ⟨⟨_, σ, rfl, (by unfold oRest; (try simp only [if_pos c_1, if_pos c_2, if_pos c_3, if_neg c_4, if_pos c_5, nI_clamp (show kx < 2 ^ 31 by omega), nI_clamp (show ki < 2 ^ 31 by omega), nI_clamp (show kj < 2 ^ 31 by omega), hpakx, Option.getD_some, reduceCtorEq, if_true, if_false, Option.isNone_some, Option.isNone_none, Bool.false_or, Bool.true_or, Bool.not_true, Bool.not_false]); try rfl), by rw [ht]; exact hP, hD⟩, hS.F ht⟩) hS.2.2 dX5_rest_96
      · refine lv_iload hx hb dX5_rest_46 (lv_at hl 0 rfl) ?_
        refine cs_0 (As := [.int (askI σ kx w j)]) (rest := []) ⟨hx, hb, hml, hown, hts⟩ (mX5_fails l (askI σ kx w j)) (va_cwS 1 hts gX5_rest_X5_fails rfl rfl rfl (by decide +kernel) ⟨Nat.le_of_ble_eq_true rfl, Nat.le_of_ble_eq_true rfl⟩) rfl rfl hl.1 (Nat.le_of_ble_eq_true rfl) dX5_rest_48 (Nat.zero_le _) (Nat.zero_le _) ?_
        exact W.iret hx hb hr (fun t ht hW => ⟨⟨_, σ, rfl, (by unfold oRest; (try simp only [if_pos c_1, if_pos c_2, if_neg c_3, nI_clamp (show kx < 2 ^ 31 by omega), nI_clamp (show ki < 2 ^ 31 by omega), hpakx, Option.getD_some, reduceCtorEq, if_true, if_false, Option.isNone_some, Option.isNone_none, Bool.false_or, Bool.true_or, Bool.not_true, Bool.not_false]); try rfl), by rw [ht]; exact hP, hD⟩, hS.F ht⟩) hS.2.2 dX5_rest_51
    · refine lv_iload hx hb dX5_rest_26 (lv_at hl 0 rfl) ?_
      refine lv_goto (tgt := 39) hx hb dX5_rest_28 (by decide) ?_
      refine lv_istore (lv' := [(5, .int (askI σ kx w i)), (0, .ref q.1), (1, .int (nI kx)), (2, .int (b2i w)), (3, .int i), (4, .int j)]) hx hb dX5_rest_39 hl (by decide) rfl (fun ls hl => ?_)
      refine lv_iload hx hb dX5_rest_41 (lv_at hl 0 rfl) ?_
      refine lv_if_eq (tgt := 52) hx hb dX5_rest_43 (by decide) (fun c_7 => ?_) (fun c_7 => ?_)
      · exact absurd c_7 c_2
      refine lv_iload hx hb dX5_rest_46 (lv_at hl 0 rfl) ?_
      refine cs_0 (As := [.int (askI σ kx w i)]) (rest := []) ⟨hx, hb, hml, hown, hts⟩ (mX5_fails l (askI σ kx w i)) (va_cwS 1 hts gX5_rest_X5_fails rfl rfl rfl (by decide +kernel) ⟨Nat.le_of_ble_eq_true rfl, Nat.le_of_ble_eq_true rfl⟩) rfl rfl hl.1 (Nat.le_of_ble_eq_true rfl) dX5_rest_48 (Nat.zero_le _) (Nat.zero_le _) ?_
      exact W.iret hx hb hr (fun t ht hW => ⟨⟨_, σ, rfl, (by unfold oRest; (try simp only [if_pos c_1, if_neg c_2, nI_clamp (show kx < 2 ^ 31 by omega), Option.getD_some, reduceCtorEq, if_true, if_false, Option.isNone_some, Option.isNone_none, Bool.false_or, Bool.true_or, Bool.not_true, Bool.not_false]); try rfl), by rw [ht]; exact hP, hD⟩, hS.F ht⟩) hS.2.2 dX5_rest_51
  · refine lv_iconst (v := -1) hx hb dX5_rest_10 (by decide) ?_
    exact W.iret hx hb hr (fun t ht hW => ⟨⟨_, σ, rfl, (by unfold oRest; (try simp only [if_neg c_1, Option.getD_some, reduceCtorEq, if_true, if_false, Option.isNone_some, Option.isNone_none, Bool.false_or, Bool.true_or, Bool.not_true, Bool.not_false]); try rfl), by rw [ht]; exact hP, hD⟩, hS.F ht⟩) hS.2.2 dX5_rest_11
set_option maxHeartbeats 8000000 in
set_option maxRecDepth 100000 in
theorem mX5_turn (l : Launch) (dC : Nat → ClassId) (dI : Nat → Nat → Nat) (q : Ad) (cJ cG cK cR cI cZ cD : ClassId) (sz : Nat) (σ : St) (N0 : Nat) (hI : Inv σ N0) (hN : N0 ≤ 512) (x : Int32) (w : Bool) (i : Int32) (to : Int32) : Met l yX5_turn wsX5_turn ({ frames := 3, cells := 0, slots := 0, locals := 66 }) (va_Pc [.ref q.1, .int x, .int (b2i w), .int i, .int to] (fun U => U.heap.size = sz ∧ va_P (dC, dI) vwCl (MWs q cJ cI cZ cD σ) U.heap ∧ va_K (dC, dI) vwCl (tys0 cJ cG cK cR cI cZ cD) U ∧ va_D (fun _ => True) (MWs q cJ cI cZ cD σ))) (va_Qi (fun (r : Int32) (τ : St) => (r, τ) = oTurn σ x w i to) (fun τ t => va_P (dC, dI) vwCl (MWs q cJ cI cZ cD τ) t.heap ∧ va_D (va_A (MWs q cJ cI cZ cD σ) sz) (MWs q cJ cI cZ cD τ)) (va_A (MWs q cJ cI cZ cD σ) sz)) 0 0 (va_A (MWs q cJ cI cZ cD σ) sz) := by
  refine Met.ofW (cc := cX5_turn) (maxL := 9) (ret := (some .int)) (by decide) rfl ?_
  intro p e s m args below meth c s₁ B hml hv
  obtain ⟨rfl, hsz, hP, hK, hD0⟩ := hv
  have hx := B.exec
  have hb := B.bytes
  have hr := B.returns
  have hts := atoms_spec (ws := wsX5_turn) B.pre
  have hown : s.vm.findClass RX5 = some m.cls := findClass_of_methodNamed B.named
  have hlocks := B.notSynchronized
  have hN1 := hI.1
  have hN2 := hI.2.1
  subst hsz
  have hD := hD0.self (sz := s.heap.size)
  generalize hAe : va_A (MWs q cJ cI cZ cD σ) s.heap.size = A at hD ⊢
  have hA : ∀ z : Nat, s.heap.size ≤ z → A z := fun z h => by rw [← hAe]; exact Or.inr h
  have hS : va_S A s.heap s.heap [] := va_S.rf
  have hl := lv_entry ([.ref q.1, .int x, .int (b2i w), .int i, .int to]) (n := 9) (Nat.le_of_ble_eq_true rfl)
  rw [lg_entry_eq]
  generalize (lg_sl ([.ref q.1, .int x, .int (b2i w), .int i, .int to]) ++ List.replicate (9 - (lg_sl ([.ref q.1, .int x, .int (b2i w), .int i, .int to])).length) Slot.unset).toArray = ls at hl ⊢
  have hl : lv_has ls 9 [(0, .ref q.1), (1, .int x), (2, .int (b2i w)), (3, .int i), (4, .int to)] := hl
  refine lv_iload_n hx hb dX5_turn_0 rfl (lv_at hl 1 rfl) ?_
  refine lv_iconst (v := 0) hx hb dX5_turn_1 (by decide) ?_
  refine lv_bipush (v := 7) hx hb dX5_turn_2 (by decide) ?_
  refine cs_0 (As := [.int x, .int 0, .int (7 : Int32)]) (rest := []) ⟨hx, hb, hml, hown, hts⟩ (mX5_inN l x (7 : Int32) 8 rfl (by decide)) (va_cwS 3 hts gX5_turn_X5_in rfl rfl rfl (by decide +kernel) ⟨Nat.le_of_ble_eq_true rfl, Nat.le_of_ble_eq_true rfl⟩) rfl rfl hl.1 (Nat.le_of_ble_eq_true rfl) dX5_turn_4 (Nat.zero_le _) (Nat.zero_le _) ?_
  refine w_beq (tgt := 21) hx hb dX5_turn_7 (by decide) (fun c_1 => ?_) (fun c_1 => ?_)
  · refine lv_iconst (v := -1) hx hb dX5_turn_21 (by decide) ?_
    exact W.iret hx hb hr (fun t ht hW => ⟨⟨_, σ, rfl, (by unfold oTurn tnd; (try simp only [if_neg c_1, Option.getD_some, reduceCtorEq, if_true, if_false, Option.isNone_some, Option.isNone_none, Bool.false_or, Bool.true_or, Bool.not_true, Bool.not_false]); try rfl), by rw [ht]; exact hP, hD⟩, hS.F ht⟩) hS.2.2 dX5_turn_22
  · obtain ⟨kx, hkx, rfl⟩ := ixb_some c_1 (by decide)
    refine lv_iload hx hb dX5_turn_10 (lv_at hl 4 rfl) ?_
    refine lv_iconst (v := 0) hx hb dX5_turn_12 (by decide) ?_
    refine lv_bipush (v := 6) hx hb dX5_turn_13 (by decide) ?_
    refine cs_0 (As := [.int to, .int 0, .int (6 : Int32)]) (rest := []) ⟨hx, hb, hml, hown, hts⟩ (mX5_inN l to (6 : Int32) 7 rfl (by decide)) (va_cwS 3 hts gX5_turn_X5_in rfl rfl rfl (by decide +kernel) ⟨Nat.le_of_ble_eq_true rfl, Nat.le_of_ble_eq_true rfl⟩) rfl rfl hl.1 (Nat.le_of_ble_eq_true rfl) dX5_turn_15 (Nat.zero_le _) (Nat.zero_le _) ?_
    refine w_bne (tgt := 23) hx hb dX5_turn_18 (by decide) (fun c_2 => ?_) (fun c_2 => ?_)
    · obtain ⟨kto, hkto, rfl⟩ := ixb_some c_2 (by decide)
      refine lv_aload_n hx hb dX5_turn_23 rfl (lv_at hl 0 rfl) ?_
      refine lv_iload_n hx hb dX5_turn_24 rfl (lv_at hl 1 rfl) ?_
      refine lv_iload_n hx hb dX5_turn_25 rfl (lv_at hl 2 rfl) ?_
      refine lv_iload_n hx hb dX5_turn_26 rfl (lv_at hl 3 rfl) ?_
      refine cm_w (q0 := 0) (As := [.int (nI kx), .int (b2i w), .int i]) (rest := []) ⟨hx, hb, hml, hown, hts⟩ (mX5_askedItem l dC dI q cJ cG cK cR cI cZ cD σ N0 hI hN kx (by omega) w i) (cwV 3 hts gX5_turn_X5_askedItem rfl rfl rfl (by decide +kernel) ⟨Nat.le_of_ble_eq_true rfl, Nat.le_of_ble_eq_true rfl⟩) hK hP rfl rfl rfl rfl hl.1 (Nat.le_of_ble_eq_true rfl) dX5_turn_27 (Nat.zero_le _) (Nat.zero_le _) ?_
      refine lv_istore (lv' := [(5, .int (askI σ kx w i)), (0, .ref q.1), (1, .int (nI kx)), (2, .int (b2i w)), (3, .int i), (4, .int (nI kto))]) hx hb dX5_turn_30 hl (by decide) rfl (fun ls hl => ?_)
      refine lv_iload hx hb dX5_turn_32 (lv_at hl 0 rfl) ?_
      refine lv_if_eq (tgt := 43) hx hb dX5_turn_34 (by decide) (fun c_3 => ?_) (fun c_3 => ?_)
      · obtain ⟨akx, ki, hpakx, hwakx, hki, rfl⟩ := askI_0 hI c_3
        have hbakx := hI.2.2.1 _ _ hpakx
        have hsakx := hI.2.2.2.1 akx
        refine lv_iload_n hx hb dX5_turn_43 rfl (lv_at hl 3 rfl) ?_
        refine lv_aload_n hx hb dX5_turn_44 rfl (lv_at hl 1 rfl) ?_
        refine lv_iload_n hx hb dX5_turn_45 rfl (lv_at hl 2 rfl) ?_
        refine lv_iload_n hx hb dX5_turn_46 rfl (lv_at hl 4 rfl) ?_
        refine cm_w (q0 := 0) (As := [.int (nI kx), .int (nI ki)]) (rest := [.int (b2i w)]) ⟨hx, hb, hml, hown, hts⟩ (mX5_item l dC dI q cJ cG cK cR cI cZ cD σ N0 hI hN kx (by omega) ki akx hpakx (by omega)) (cwV 2 hts gX5_turn_X5_item rfl rfl rfl (by decide +kernel) ⟨Nat.le_of_ble_eq_true rfl, Nat.le_of_ble_eq_true rfl⟩) hK hP rfl rfl rfl rfl hl.1 (Nat.le_of_ble_eq_true rfl) dX5_turn_47 (Nat.zero_le _) (Nat.zero_le _) ?_
        refine cs_0 (As := [.int (b2i w), .long (itm σ kx ki)]) (rest := []) ⟨hx, hb, hml, hown, hts⟩ (mX5_number l w (itm σ kx ki) (itm_ok hI hpakx hwakx)) (va_cwS 2 hts gX5_turn_X5_number rfl rfl rfl (by decide +kernel) ⟨Nat.le_of_ble_eq_true rfl, Nat.le_of_ble_eq_true rfl⟩) rfl rfl hl.1 (Nat.le_of_ble_eq_true rfl) dX5_turn_50 (Nat.zero_le _) (Nat.zero_le _) ?_
        refine lv_dstore (lv' := [(6, .double (fX5_number w (itm σ kx ki))), (5, .int (askI σ kx w (nI ki))), (0, .ref q.1), (1, .int (nI kx)), (2, .int (b2i w)), (3, .int (nI ki)), (4, .int (nI kto))]) hx hb dX5_turn_53 hl (by decide) rfl (fun ls hl => ?_)
        refine lv_dload hx hb dX5_turn_55 (lv_at hl 0 rfl) ?_
        refine lv_d2i hx hb dX5_turn_57 ?_
        refine lv_istore (lv' := [(8, .int (FP.d2i (fX5_number w (itm σ kx ki)))), (6, .double (fX5_number w (itm σ kx ki))), (5, .int (askI σ kx w (nI ki))), (0, .ref q.1), (1, .int (nI kx)), (2, .int (b2i w)), (3, .int (nI ki)), (4, .int (nI kto))]) hx hb dX5_turn_58 hl (by decide) rfl (fun ls hl => ?_)
        refine lv_iload hx hb dX5_turn_60 (lv_at hl 7 rfl) ?_
        by_cases c_4 : (nI kto) = 0
        · refine lv_tableIn (off := 38) (tgt := 100) hx hb dX5_turn_62 (by rw [c_4]; decide) (by rw [c_4]; decide) (by rw [c_4]; rfl) (by decide) ?_
          refine lv_aload_n hx hb dX5_turn_100 rfl (lv_at hl 3 rfl) ?_
          refine lv_iload hx hb dX5_turn_101 (lv_at hl 0 rfl) ?_
          refine lv_i2b hx hb dX5_turn_103 rfl ?_
          refine lv_i2l hx hb dX5_turn_104 rfl ?_
          refine lv_topl (fun z_5 hz_5 => ?_)
          refine va_put (D := (dC, dI)) (ci := 5) (v := .long z_5) (ty := .long) (C := RX5) (T := TX5) (N := 12) hx hb hts (fun w h => List.mem_cons_of_mem _ (List.mem_append_right _ h)) tyX5 tyX5_ok nmX5 hown hK hP hD hS 0 rfl rfl 11 (by decide) (hts (.fieldLink RX5 99 "TideGaugesModel" "told" "J") (List.mem_of_getElem? (i := 1) rfl)) (fun _ h9 => h9) rfl (by decide +kernel) rfl rfl (Nat.le_of_ble_eq_true rfl) dX5_turn_105 (fun H locs hP hD hS => ?_)
          have hP : va_P (dC, dI) vwCl (MWs q cJ cI cZ cD (uTo σ z_5)) H := hP
          have hD : va_D A (MWs q cJ cI cZ cD (uTo σ z_5)) := hD
          refine lv_goto (tgt := 176) hx hb dX5_turn_108 (by decide) ?_
          refine lv_iconst (v := 1) hx hb dX5_turn_176 (by decide) ?_
          exact W.iret hx hb hr (fun t ht hW => ⟨⟨_, (uTo σ z_5), rfl, (by unfold oTurn tnd; (try simp only [if_pos c_1, if_pos c_2, if_pos c_3, if_pos c_4, nI_clamp (show kx < 2 ^ 31 by omega), nI_clamp (show kto < 2 ^ 31 by omega), nI_clamp (show ki < 2 ^ 31 by omega), hpakx, hz_5, Option.getD_some, reduceCtorEq, if_true, if_false, Option.isNone_some, Option.isNone_none, Bool.false_or, Bool.true_or, Bool.not_true, Bool.not_false]); try rfl), by rw [ht]; exact hP, hD⟩, hS.F ht⟩) hS.2.2 dX5_turn_177
        · by_cases c_6 : (nI kto) = 1
          · refine lv_tableIn (off := 49) (tgt := 111) hx hb dX5_turn_62 (by rw [c_6]; decide) (by rw [c_6]; decide) (by rw [c_6]; rfl) (by decide) ?_
            refine lv_aload_n hx hb dX5_turn_111 rfl (lv_at hl 3 rfl) ?_
            refine lv_iload hx hb dX5_turn_112 (lv_at hl 0 rfl) ?_
            refine lv_i2s hx hb dX5_turn_114 rfl ?_
            refine lv_i2l hx hb dX5_turn_115 rfl ?_
            refine lv_topl (fun z_7 hz_7 => ?_)
            refine va_put (D := (dC, dI)) (ci := 5) (v := .long z_7) (ty := .long) (C := RX5) (T := TX5) (N := 12) hx hb hts (fun w h => List.mem_cons_of_mem _ (List.mem_append_right _ h)) tyX5 tyX5_ok nmX5 hown hK hP hD hS 0 rfl rfl 11 (by decide) (hts (.fieldLink RX5 99 "TideGaugesModel" "told" "J") (List.mem_of_getElem? (i := 1) rfl)) (fun _ h9 => h9) rfl (by decide +kernel) rfl rfl (Nat.le_of_ble_eq_true rfl) dX5_turn_116 (fun H locs hP hD hS => ?_)
            have hP : va_P (dC, dI) vwCl (MWs q cJ cI cZ cD (uTo σ z_7)) H := hP
            have hD : va_D A (MWs q cJ cI cZ cD (uTo σ z_7)) := hD
            refine lv_goto (tgt := 176) hx hb dX5_turn_119 (by decide) ?_
            refine lv_iconst (v := 1) hx hb dX5_turn_176 (by decide) ?_
            exact W.iret hx hb hr (fun t ht hW => ⟨⟨_, (uTo σ z_7), rfl, (by unfold oTurn tnd; (try simp only [if_pos c_1, if_pos c_2, if_pos c_3, if_neg c_4, if_pos c_6, nI_clamp (show kx < 2 ^ 31 by omega), nI_clamp (show kto < 2 ^ 31 by omega), nI_clamp (show ki < 2 ^ 31 by omega), hpakx, hz_7, Option.getD_some, reduceCtorEq, if_true, if_false, Option.isNone_some, Option.isNone_none, Bool.false_or, Bool.true_or, Bool.not_true, Bool.not_false]); try rfl), by rw [ht]; exact hP, hD⟩, hS.F ht⟩) hS.2.2 dX5_turn_177
          · by_cases c_8 : (nI kto) = 2
            · refine lv_tableIn (off := 60) (tgt := 122) hx hb dX5_turn_62 (by rw [c_8]; decide) (by rw [c_8]; decide) (by rw [c_8]; rfl) (by decide) ?_
              refine lv_aload_n hx hb dX5_turn_122 rfl (lv_at hl 3 rfl) ?_
              refine lv_iload hx hb dX5_turn_123 (lv_at hl 0 rfl) ?_
              refine lv_i2c hx hb dX5_turn_125 rfl ?_
              refine lv_i2l hx hb dX5_turn_126 rfl ?_
              refine lv_topl (fun z_9 hz_9 => ?_)
              refine va_put (D := (dC, dI)) (ci := 5) (v := .long z_9) (ty := .long) (C := RX5) (T := TX5) (N := 12) hx hb hts (fun w h => List.mem_cons_of_mem _ (List.mem_append_right _ h)) tyX5 tyX5_ok nmX5 hown hK hP hD hS 0 rfl rfl 11 (by decide) (hts (.fieldLink RX5 99 "TideGaugesModel" "told" "J") (List.mem_of_getElem? (i := 1) rfl)) (fun _ h9 => h9) rfl (by decide +kernel) rfl rfl (Nat.le_of_ble_eq_true rfl) dX5_turn_127 (fun H locs hP hD hS => ?_)
              have hP : va_P (dC, dI) vwCl (MWs q cJ cI cZ cD (uTo σ z_9)) H := hP
              have hD : va_D A (MWs q cJ cI cZ cD (uTo σ z_9)) := hD
              refine lv_goto (tgt := 176) hx hb dX5_turn_130 (by decide) ?_
              refine lv_iconst (v := 1) hx hb dX5_turn_176 (by decide) ?_
              exact W.iret hx hb hr (fun t ht hW => ⟨⟨_, (uTo σ z_9), rfl, (by unfold oTurn tnd; (try simp only [if_pos c_1, if_pos c_2, if_pos c_3, if_neg c_4, if_neg c_6, if_pos c_8, nI_clamp (show kx < 2 ^ 31 by omega), nI_clamp (show kto < 2 ^ 31 by omega), nI_clamp (show ki < 2 ^ 31 by omega), hpakx, hz_9, Option.getD_some, reduceCtorEq, if_true, if_false, Option.isNone_some, Option.isNone_none, Bool.false_or, Bool.true_or, Bool.not_true, Bool.not_false]); try rfl), by rw [ht]; exact hP, hD⟩, hS.F ht⟩) hS.2.2 dX5_turn_177
            · by_cases c_10 : (nI kto) = 3
              · refine lv_tableIn (off := 71) (tgt := 133) hx hb dX5_turn_62 (by rw [c_10]; decide) (by rw [c_10]; decide) (by rw [c_10]; rfl) (by decide) ?_
                refine lv_aload_n hx hb dX5_turn_133 rfl (lv_at hl 3 rfl) ?_
                refine lv_iload hx hb dX5_turn_134 (lv_at hl 0 rfl) ?_
                refine lv_i2l hx hb dX5_turn_136 rfl ?_
                refine lv_topl (fun z_11 hz_11 => ?_)
                refine va_put (D := (dC, dI)) (ci := 5) (v := .long z_11) (ty := .long) (C := RX5) (T := TX5) (N := 12) hx hb hts (fun w h => List.mem_cons_of_mem _ (List.mem_append_right _ h)) tyX5 tyX5_ok nmX5 hown hK hP hD hS 0 rfl rfl 11 (by decide) (hts (.fieldLink RX5 99 "TideGaugesModel" "told" "J") (List.mem_of_getElem? (i := 1) rfl)) (fun _ h9 => h9) rfl (by decide +kernel) rfl rfl (Nat.le_of_ble_eq_true rfl) dX5_turn_137 (fun H locs hP hD hS => ?_)
                have hP : va_P (dC, dI) vwCl (MWs q cJ cI cZ cD (uTo σ z_11)) H := hP
                have hD : va_D A (MWs q cJ cI cZ cD (uTo σ z_11)) := hD
                refine lv_goto (tgt := 176) hx hb dX5_turn_140 (by decide) ?_
                refine lv_iconst (v := 1) hx hb dX5_turn_176 (by decide) ?_
                exact W.iret hx hb hr (fun t ht hW => ⟨⟨_, (uTo σ z_11), rfl, (by unfold oTurn tnd; (try simp only [if_pos c_1, if_pos c_2, if_pos c_3, if_neg c_4, if_neg c_6, if_neg c_8, if_pos c_10, nI_clamp (show kx < 2 ^ 31 by omega), nI_clamp (show kto < 2 ^ 31 by omega), nI_clamp (show ki < 2 ^ 31 by omega), hpakx, hz_11, Option.getD_some, reduceCtorEq, if_true, if_false, Option.isNone_some, Option.isNone_none, Bool.false_or, Bool.true_or, Bool.not_true, Bool.not_false]); try rfl), by rw [ht]; exact hP, hD⟩, hS.F ht⟩) hS.2.2 dX5_turn_177
              · by_cases c_12 : (nI kto) = 4
                · refine lv_tableIn (off := 81) (tgt := 143) hx hb dX5_turn_62 (by rw [c_12]; decide) (by rw [c_12]; decide) (by rw [c_12]; rfl) (by decide) ?_
                  refine lv_aload_n hx hb dX5_turn_143 rfl (lv_at hl 3 rfl) ?_
                  refine lv_dload hx hb dX5_turn_144 (lv_at hl 1 rfl) ?_
                  refine lv_d2l hx hb dX5_turn_146 ?_
                  refine lv_topl (fun z_13 hz_13 => ?_)
                  refine va_put (D := (dC, dI)) (ci := 5) (v := .long z_13) (ty := .long) (C := RX5) (T := TX5) (N := 12) hx hb hts (fun w h => List.mem_cons_of_mem _ (List.mem_append_right _ h)) tyX5 tyX5_ok nmX5 hown hK hP hD hS 0 rfl rfl 11 (by decide) (hts (.fieldLink RX5 99 "TideGaugesModel" "told" "J") (List.mem_of_getElem? (i := 1) rfl)) (fun _ h9 => h9) rfl (by decide +kernel) rfl rfl (Nat.le_of_ble_eq_true rfl) dX5_turn_147 (fun H locs hP hD hS => ?_)
                  have hP : va_P (dC, dI) vwCl (MWs q cJ cI cZ cD (uTo σ z_13)) H := hP
                  have hD : va_D A (MWs q cJ cI cZ cD (uTo σ z_13)) := hD
                  refine lv_goto (tgt := 176) hx hb dX5_turn_150 (by decide) ?_
                  refine lv_iconst (v := 1) hx hb dX5_turn_176 (by decide) ?_
                  exact W.iret hx hb hr (fun t ht hW => ⟨⟨_, (uTo σ z_13), rfl, (by unfold oTurn tnd; (try simp only [if_pos c_1, if_pos c_2, if_pos c_3, if_neg c_4, if_neg c_6, if_neg c_8, if_neg c_10, if_pos c_12, nI_clamp (show kx < 2 ^ 31 by omega), nI_clamp (show kto < 2 ^ 31 by omega), nI_clamp (show ki < 2 ^ 31 by omega), hpakx, hz_13, Option.getD_some, reduceCtorEq, if_true, if_false, Option.isNone_some, Option.isNone_none, Bool.false_or, Bool.true_or, Bool.not_true, Bool.not_false]); try rfl), by rw [ht]; exact hP, hD⟩, hS.F ht⟩) hS.2.2 dX5_turn_177
                · by_cases c_14 : (nI kto) = 5
                  · refine lv_tableIn (off := 91) (tgt := 153) hx hb dX5_turn_62 (by rw [c_14]; decide) (by rw [c_14]; decide) (by rw [c_14]; rfl) (by decide) ?_
                    refine lv_aload_n hx hb dX5_turn_153 rfl (lv_at hl 3 rfl) ?_
                    refine lv_iconst (v := 0) hx hb dX5_turn_154 (by decide) ?_
                    refine lv_dload hx hb dX5_turn_155 (lv_at hl 1 rfl) ?_
                    refine cs_0 (As := [.int (b2i false), .double (fX5_number w (itm σ kx ki))]) (rest := [.ref q.1]) ⟨hx, hb, hml, hown, hts⟩ (mX5_bitsOf l false (fX5_number w (itm σ kx ki)) ((num_nn (itm_ok hI hpakx hwakx)))) (va_cwS 2 hts gX5_turn_X5_bitsOf rfl rfl rfl (by decide +kernel) ⟨Nat.le_of_ble_eq_true rfl, Nat.le_of_ble_eq_true rfl⟩) rfl rfl hl.1 (Nat.le_of_ble_eq_true rfl) dX5_turn_157 (Nat.zero_le _) (Nat.zero_le _) ?_
                    refine lv_topl (fun z_15 hz_15 => ?_)
                    refine va_put (D := (dC, dI)) (ci := 5) (v := .long z_15) (ty := .long) (C := RX5) (T := TX5) (N := 12) hx hb hts (fun w h => List.mem_cons_of_mem _ (List.mem_append_right _ h)) tyX5 tyX5_ok nmX5 hown hK hP hD hS 0 rfl rfl 11 (by decide) (hts (.fieldLink RX5 99 "TideGaugesModel" "told" "J") (List.mem_of_getElem? (i := 1) rfl)) (fun _ h9 => h9) rfl (by decide +kernel) rfl rfl (Nat.le_of_ble_eq_true rfl) dX5_turn_160 (fun H locs hP hD hS => ?_)
                    have hP : va_P (dC, dI) vwCl (MWs q cJ cI cZ cD (uTo σ z_15)) H := hP
                    have hD : va_D A (MWs q cJ cI cZ cD (uTo σ z_15)) := hD
                    refine lv_goto (tgt := 176) hx hb dX5_turn_163 (by decide) ?_
                    refine lv_iconst (v := 1) hx hb dX5_turn_176 (by decide) ?_
                    exact W.iret hx hb hr (fun t ht hW => ⟨⟨_, (uTo σ z_15), rfl, (by unfold oTurn tnd; (try simp only [if_pos c_1, if_pos c_2, if_pos c_3, if_neg c_4, if_neg c_6, if_neg c_8, if_neg c_10, if_neg c_12, if_pos c_14, nI_clamp (show kx < 2 ^ 31 by omega), nI_clamp (show kto < 2 ^ 31 by omega), nI_clamp (show ki < 2 ^ 31 by omega), hpakx, hz_15, Option.getD_some, reduceCtorEq, if_true, if_false, Option.isNone_some, Option.isNone_none, Bool.false_or, Bool.true_or, Bool.not_true, Bool.not_false]); try rfl), by rw [ht]; exact hP, hD⟩, hS.F ht⟩) hS.2.2 dX5_turn_177
                  · refine lv_tableOut (tgt := 166) hx hb dX5_turn_62 (by have g0 := lv_neT c_4 (a := 0) rfl; have g1 := lv_neT c_6 (a := 1) rfl; have g2 := lv_neT c_8 (a := 2) rfl; have g3 := lv_neT c_10 (a := 3) rfl; have g4 := lv_neT c_12 (a := 4) rfl; have g5 := lv_neT c_14 (a := 5) rfl; omega) (by decide) ?_
                    refine lv_aload_n hx hb dX5_turn_166 rfl (lv_at hl 3 rfl) ?_
                    refine lv_iconst (v := 1) hx hb dX5_turn_167 (by decide) ?_
                    refine lv_dload hx hb dX5_turn_168 (lv_at hl 1 rfl) ?_
                    refine cs_0 (As := [.int (b2i true), .double (fX5_number w (itm σ kx ki))]) (rest := [.ref q.1]) ⟨hx, hb, hml, hown, hts⟩ (mX5_bitsOf l true (fX5_number w (itm σ kx ki)) ((num_nn (itm_ok hI hpakx hwakx)))) (va_cwS 2 hts gX5_turn_X5_bitsOf rfl rfl rfl (by decide +kernel) ⟨Nat.le_of_ble_eq_true rfl, Nat.le_of_ble_eq_true rfl⟩) rfl rfl hl.1 (Nat.le_of_ble_eq_true rfl) dX5_turn_170 (Nat.zero_le _) (Nat.zero_le _) ?_
                    refine lv_topl (fun z_16 hz_16 => ?_)
                    refine va_put (D := (dC, dI)) (ci := 5) (v := .long z_16) (ty := .long) (C := RX5) (T := TX5) (N := 12) hx hb hts (fun w h => List.mem_cons_of_mem _ (List.mem_append_right _ h)) tyX5 tyX5_ok nmX5 hown hK hP hD hS 0 rfl rfl 11 (by decide) (hts (.fieldLink RX5 99 "TideGaugesModel" "told" "J") (List.mem_of_getElem? (i := 1) rfl)) (fun _ h9 => h9) rfl (by decide +kernel) rfl rfl (Nat.le_of_ble_eq_true rfl) dX5_turn_173 (fun H locs hP hD hS => ?_)
                    have hP : va_P (dC, dI) vwCl (MWs q cJ cI cZ cD (uTo σ z_16)) H := hP
                    have hD : va_D A (MWs q cJ cI cZ cD (uTo σ z_16)) := hD
                    refine lv_iconst (v := 1) hx hb dX5_turn_176 (by decide) ?_
                    exact W.iret hx hb hr (fun t ht hW => ⟨⟨_, (uTo σ z_16), rfl, (by unfold oTurn tnd; (try simp only [if_pos c_1, if_pos c_2, if_pos c_3, if_neg c_4, if_neg c_6, if_neg c_8, if_neg c_10, if_neg c_12, if_neg c_14, nI_clamp (show kx < 2 ^ 31 by omega), nI_clamp (show kto < 2 ^ 31 by omega), nI_clamp (show ki < 2 ^ 31 by omega), hpakx, hz_16, Option.getD_some, reduceCtorEq, if_true, if_false, Option.isNone_some, Option.isNone_none, Bool.false_or, Bool.true_or, Bool.not_true, Bool.not_false]); try rfl), by rw [ht]; exact hP, hD⟩, hS.F ht⟩) hS.2.2 dX5_turn_177
      · refine lv_iload hx hb dX5_turn_37 (lv_at hl 0 rfl) ?_
        refine cs_0 (As := [.int (askI σ kx w i)]) (rest := []) ⟨hx, hb, hml, hown, hts⟩ (mX5_fails l (askI σ kx w i)) (va_cwS 1 hts gX5_turn_X5_fails rfl rfl rfl (by decide +kernel) ⟨Nat.le_of_ble_eq_true rfl, Nat.le_of_ble_eq_true rfl⟩) rfl rfl hl.1 (Nat.le_of_ble_eq_true rfl) dX5_turn_39 (Nat.zero_le _) (Nat.zero_le _) ?_
        exact W.iret hx hb hr (fun t ht hW => ⟨⟨_, σ, rfl, (by unfold oTurn tnd; (try simp only [if_pos c_1, if_pos c_2, if_neg c_3, nI_clamp (show kx < 2 ^ 31 by omega), nI_clamp (show kto < 2 ^ 31 by omega), Option.getD_some, reduceCtorEq, if_true, if_false, Option.isNone_some, Option.isNone_none, Bool.false_or, Bool.true_or, Bool.not_true, Bool.not_false]); try rfl), by rw [ht]; exact hP, hD⟩, hS.F ht⟩) hS.2.2 dX5_turn_42
    · refine lv_iconst (v := -1) hx hb dX5_turn_21 (by decide) ?_
      exact W.iret hx hb hr (fun t ht hW => ⟨⟨_, σ, rfl, (by unfold oTurn tnd; (try simp only [if_pos c_1, if_neg c_2, nI_clamp (show kx < 2 ^ 31 by omega), Option.getD_some, reduceCtorEq, if_true, if_false, Option.isNone_some, Option.isNone_none, Bool.false_or, Bool.true_or, Bool.not_true, Bool.not_false]); try rfl), by rw [ht]; exact hP, hD⟩, hS.F ht⟩) hS.2.2 dX5_turn_22
set_option maxHeartbeats 8000000 in
set_option maxRecDepth 100000 in
theorem mX5_tide (l : Launch) (dC : Nat → ClassId) (dI : Nat → Nat → Nat) (q : Ad) (cJ cG cK cR cI cZ cD : ClassId) (sz : Nat) (σ : St) (N0 : Nat) (hI : Inv σ N0) (hN : N0 ≤ 512) (x : Int32) (w : Bool) (i : Int32) (g : Int32) : Met l yX5_tide wsX5_tide ({ frames := 3, cells := 0, slots := 0, locals := 66 }) (va_Pc [.ref q.1, .int x, .int (b2i w), .int i, .int g] (fun U => U.heap.size = sz ∧ va_P (dC, dI) vwCl (MWs q cJ cI cZ cD σ) U.heap ∧ va_K (dC, dI) vwCl (tys0 cJ cG cK cR cI cZ cD) U ∧ va_D (fun _ => True) (MWs q cJ cI cZ cD σ))) (va_Qi (fun (r : Int32) (τ : St) => (r, τ) = oTide σ x w i g) (fun τ t => va_P (dC, dI) vwCl (MWs q cJ cI cZ cD τ) t.heap ∧ va_D (va_A (MWs q cJ cI cZ cD σ) sz) (MWs q cJ cI cZ cD τ)) (va_A (MWs q cJ cI cZ cD σ) sz)) 0 0 (va_A (MWs q cJ cI cZ cD σ) sz) := by
  refine Met.ofW (cc := cX5_tide) (maxL := 12) (ret := (some .int)) (by decide) rfl ?_
  intro p e s m args below meth c s₁ B hml hv
  obtain ⟨rfl, hsz, hP, hK, hD0⟩ := hv
  have hx := B.exec
  have hb := B.bytes
  have hr := B.returns
  have hts := atoms_spec (ws := wsX5_tide) B.pre
  have hown : s.vm.findClass RX5 = some m.cls := findClass_of_methodNamed B.named
  have hlocks := B.notSynchronized
  have hN1 := hI.1
  have hN2 := hI.2.1
  subst hsz
  have hD := hD0.self (sz := s.heap.size)
  generalize hAe : va_A (MWs q cJ cI cZ cD σ) s.heap.size = A at hD ⊢
  have hA : ∀ z : Nat, s.heap.size ≤ z → A z := fun z h => by rw [← hAe]; exact Or.inr h
  have hS : va_S A s.heap s.heap [] := va_S.rf
  have hl := lv_entry ([.ref q.1, .int x, .int (b2i w), .int i, .int g]) (n := 12) (Nat.le_of_ble_eq_true rfl)
  rw [lg_entry_eq]
  generalize (lg_sl ([.ref q.1, .int x, .int (b2i w), .int i, .int g]) ++ List.replicate (12 - (lg_sl ([.ref q.1, .int x, .int (b2i w), .int i, .int g])).length) Slot.unset).toArray = ls at hl ⊢
  have hl : lv_has ls 12 [(0, .ref q.1), (1, .int x), (2, .int (b2i w)), (3, .int i), (4, .int g)] := hl
  refine lv_iload_n hx hb dX5_tide_0 rfl (lv_at hl 1 rfl) ?_
  refine lv_iconst (v := 0) hx hb dX5_tide_1 (by decide) ?_
  refine lv_bipush (v := 7) hx hb dX5_tide_2 (by decide) ?_
  refine cs_0 (As := [.int x, .int 0, .int (7 : Int32)]) (rest := []) ⟨hx, hb, hml, hown, hts⟩ (mX5_inN l x (7 : Int32) 8 rfl (by decide)) (va_cwS 3 hts gX5_tide_X5_in rfl rfl rfl (by decide +kernel) ⟨Nat.le_of_ble_eq_true rfl, Nat.le_of_ble_eq_true rfl⟩) rfl rfl hl.1 (Nat.le_of_ble_eq_true rfl) dX5_tide_4 (Nat.zero_le _) (Nat.zero_le _) ?_
  refine w_bne (tgt := 12) hx hb dX5_tide_7 (by decide) (fun c_1 => ?_) (fun c_1 => ?_)
  · obtain ⟨kx, hkx, rfl⟩ := ixb_some c_1 (by decide)
    refine lv_aload_n hx hb dX5_tide_12 rfl (lv_at hl 0 rfl) ?_
    refine lv_iload_n hx hb dX5_tide_13 rfl (lv_at hl 1 rfl) ?_
    refine lv_iload_n hx hb dX5_tide_14 rfl (lv_at hl 2 rfl) ?_
    refine lv_iload_n hx hb dX5_tide_15 rfl (lv_at hl 3 rfl) ?_
    refine cm_w (q0 := 0) (As := [.int (nI kx), .int (b2i w), .int i]) (rest := []) ⟨hx, hb, hml, hown, hts⟩ (mX5_askedItem l dC dI q cJ cG cK cR cI cZ cD σ N0 hI hN kx (by omega) w i) (cwV 3 hts gX5_tide_X5_askedItem rfl rfl rfl (by decide +kernel) ⟨Nat.le_of_ble_eq_true rfl, Nat.le_of_ble_eq_true rfl⟩) hK hP rfl rfl rfl rfl hl.1 (Nat.le_of_ble_eq_true rfl) dX5_tide_16 (Nat.zero_le _) (Nat.zero_le _) ?_
    refine lv_istore (lv' := [(5, .int (askI σ kx w i)), (0, .ref q.1), (1, .int (nI kx)), (2, .int (b2i w)), (3, .int i), (4, .int g)]) hx hb dX5_tide_19 hl (by decide) rfl (fun ls hl => ?_)
    refine lv_iload hx hb dX5_tide_21 (lv_at hl 0 rfl) ?_
    refine lv_if_eq (tgt := 32) hx hb dX5_tide_23 (by decide) (fun c_2 => ?_) (fun c_2 => ?_)
    · obtain ⟨akx, ki, hpakx, hwakx, hki, rfl⟩ := askI_0 hI c_2
      have hbakx := hI.2.2.1 _ _ hpakx
      have hsakx := hI.2.2.2.1 akx
      refine lv_iload_n hx hb dX5_tide_32 rfl (lv_at hl 3 rfl) ?_
      refine lv_aload_n hx hb dX5_tide_33 rfl (lv_at hl 1 rfl) ?_
      refine lv_iload_n hx hb dX5_tide_34 rfl (lv_at hl 2 rfl) ?_
      refine lv_iconst (v := 0) hx hb dX5_tide_35 (by decide) ?_
      refine cm_w (q0 := 0) (As := [.int (nI kx), .int (0 : Int32)]) (rest := [.int (b2i w)]) ⟨hx, hb, hml, hown, hts⟩ (mX5_item l dC dI q cJ cG cK cR cI cZ cD σ N0 hI hN kx (by omega) 0 akx hpakx (by omega)) (cwV 2 hts gX5_tide_X5_item rfl rfl rfl (by decide +kernel) ⟨Nat.le_of_ble_eq_true rfl, Nat.le_of_ble_eq_true rfl⟩) hK hP rfl rfl rfl rfl hl.1 (Nat.le_of_ble_eq_true rfl) dX5_tide_36 (Nat.zero_le _) (Nat.zero_le _) ?_
      refine cs_0 (As := [.int (b2i w), .long (itm σ kx 0)]) (rest := []) ⟨hx, hb, hml, hown, hts⟩ (mX5_number l w (itm σ kx 0) (itm_ok hI hpakx hwakx)) (va_cwS 2 hts gX5_tide_X5_number rfl rfl rfl (by decide +kernel) ⟨Nat.le_of_ble_eq_true rfl, Nat.le_of_ble_eq_true rfl⟩) rfl rfl hl.1 (Nat.le_of_ble_eq_true rfl) dX5_tide_39 (Nat.zero_le _) (Nat.zero_le _) ?_
      refine lv_dstore (lv' := [(6, .double (fX5_number w (itm σ kx 0))), (5, .int (askI σ kx w (nI ki))), (0, .ref q.1), (1, .int (nI kx)), (2, .int (b2i w)), (3, .int (nI ki)), (4, .int g)]) hx hb dX5_tide_42 hl (by decide) rfl (fun ls hl => ?_)
      refine lv_iload_n hx hb dX5_tide_44 rfl (lv_at hl 4 rfl) ?_
      refine lv_aload_n hx hb dX5_tide_45 rfl (lv_at hl 2 rfl) ?_
      refine lv_iload_n hx hb dX5_tide_46 rfl (lv_at hl 3 rfl) ?_
      refine lv_iload_n hx hb dX5_tide_47 rfl (lv_at hl 5 rfl) ?_
      refine cm_w (q0 := 0) (As := [.int (nI kx), .int (nI ki)]) (rest := [.int (b2i w)]) ⟨hx, hb, hml, hown, hts⟩ (mX5_item l dC dI q cJ cG cK cR cI cZ cD σ N0 hI hN kx (by omega) ki akx hpakx (by omega)) (cwV 2 hts gX5_tide_X5_item rfl rfl rfl (by decide +kernel) ⟨Nat.le_of_ble_eq_true rfl, Nat.le_of_ble_eq_true rfl⟩) hK hP rfl rfl rfl rfl hl.1 (Nat.le_of_ble_eq_true rfl) dX5_tide_48 (Nat.zero_le _) (Nat.zero_le _) ?_
      refine cs_0 (As := [.int (b2i w), .long (itm σ kx ki)]) (rest := []) ⟨hx, hb, hml, hown, hts⟩ (mX5_number l w (itm σ kx ki) (itm_ok hI hpakx hwakx)) (va_cwS 2 hts gX5_tide_X5_number rfl rfl rfl (by decide +kernel) ⟨Nat.le_of_ble_eq_true rfl, Nat.le_of_ble_eq_true rfl⟩) rfl rfl hl.1 (Nat.le_of_ble_eq_true rfl) dX5_tide_51 (Nat.zero_le _) (Nat.zero_le _) ?_
      refine lv_dstore (lv' := [(8, .double (fX5_number w (itm σ kx ki))), (6, .double (fX5_number w (itm σ kx 0))), (5, .int (askI σ kx w (nI ki))), (0, .ref q.1), (1, .int (nI kx)), (2, .int (b2i w)), (3, .int (nI ki)), (4, .int g)]) hx hb dX5_tide_54 hl (by decide) rfl (fun ls hl => ?_)
      refine lv_iload_n hx hb dX5_tide_56 rfl (lv_at hl 5 rfl) ?_
      refine w_beq (tgt := 73) hx hb dX5_tide_57 (by decide) (fun c_3 => ?_) (fun c_3 => ?_)
      · refine lv_dload hx hb dX5_tide_73 (lv_at hl 0 rfl) ?_
        refine lv_d2f hx hb dX5_tide_75 (n32_of (by rw [FP.d2f_nan]; exact (num_nn (itm_ok hI hpakx hwakx)))) ?_
        refine lv_iload hx hb dX5_tide_76 (lv_at hl 7 rfl) ?_
        refine lv_i2f hx hb dX5_tide_78 ?_
        refine lv_ldcf hx hb hown (hts (.constantFloat RX5 117 (1090519040)) (List.mem_of_getElem? (i := 2) rfl)) dX5_tide_79 ?_
        refine lv_fdiv hx hb dX5_tide_81 (n32_of (fdiv8_nn g)) ?_
        refine lv_fadd hx hb dX5_tide_82 (n32_of (fadd8_nn g (by rw [FP.d2f_nan]; exact (num_nn (itm_ok hI hpakx hwakx))))) ?_
        refine lv_f2d hx hb dX5_tide_83 (n64_of (by rw [FP.f2d_nan]; exact (fadd8_nn g (by rw [FP.d2f_nan]; exact (num_nn (itm_ok hI hpakx hwakx)))))) ?_
        refine lv_dstore (lv' := [(10, .double (FP.f2d (FP.fadd (FP.d2f (fX5_number w (itm σ kx ki))) (FP.fdiv (FP.i2f g) (1090519040 : UInt32))))), (8, .double (fX5_number w (itm σ kx ki))), (6, .double (fX5_number w (itm σ kx 0))), (5, .int (askI σ kx w (nI ki))), (0, .ref q.1), (1, .int (nI kx)), (2, .int (b2i w)), (3, .int (nI ki)), (4, .int g)]) hx hb dX5_tide_84 hl (by decide) rfl (fun ls hl => ?_)
        refine lv_dload hx hb dX5_tide_86 (lv_at hl 2 rfl) ?_
        refine lv_dconst0 hx hb dX5_tide_88 ?_
        refine w_dz_eq (tgt := 108) hx hb dX5_tide_89 dX5_tide_90 (by decide) (fun c_4 => ?_) (fun c_4 => ?_)
        · refine lv_aload_n hx hb dX5_tide_108 rfl (lv_at hl 4 rfl) ?_
          refine lv_iload_n hx hb dX5_tide_109 rfl (lv_at hl 6 rfl) ?_
          refine lv_dload hx hb dX5_tide_110 (lv_at hl 0 rfl) ?_
          refine cs_0 (As := [.int (b2i w), .double (FP.f2d (FP.fadd (FP.d2f (fX5_number w (itm σ kx ki))) (FP.fdiv (FP.i2f g) (1090519040 : UInt32))))]) (rest := [.ref q.1]) ⟨hx, hb, hml, hown, hts⟩ (mX5_bitsOf l w (FP.f2d (FP.fadd (FP.d2f (fX5_number w (itm σ kx ki))) (FP.fdiv (FP.i2f g) (1090519040 : UInt32)))) ((by rw [FP.f2d_nan]; exact (fadd8_nn g (by rw [FP.d2f_nan]; exact (num_nn (itm_ok hI hpakx hwakx))))))) (va_cwS 2 hts gX5_tide_X5_bitsOf rfl rfl rfl (by decide +kernel) ⟨Nat.le_of_ble_eq_true rfl, Nat.le_of_ble_eq_true rfl⟩) rfl rfl hl.1 (Nat.le_of_ble_eq_true rfl) dX5_tide_112 (Nat.zero_le _) (Nat.zero_le _) ?_
          refine lv_topl (fun z_5 hz_5 => ?_)
          refine va_put (D := (dC, dI)) (ci := 5) (v := .long z_5) (ty := .long) (C := RX5) (T := TX5) (N := 12) hx hb hts (fun w h => List.mem_cons_of_mem _ (List.mem_append_right _ h)) tyX5 tyX5_ok nmX5 hown hK hP hD hS 0 rfl rfl 11 (by decide) (hts (.fieldLink RX5 99 "TideGaugesModel" "told" "J") (List.mem_of_getElem? (i := 3) rfl)) (fun _ h9 => h9) rfl (by decide +kernel) rfl rfl (Nat.le_of_ble_eq_true rfl) dX5_tide_115 (fun H locs hP hD hS => ?_)
          have hP : va_P (dC, dI) vwCl (MWs q cJ cI cZ cD (uTo σ z_5)) H := hP
          have hD : va_D A (MWs q cJ cI cZ cD (uTo σ z_5)) := hD
          refine lv_aload_n hx hb dX5_tide_118 rfl (lv_at hl 4 rfl) ?_
          refine va_get (D := (dC, dI)) (ci := 5) (v := .ref q.2.2.2.1) (C := RX5) (T := TX5) (N := 12) hx hb hts (fun w h => List.mem_cons_of_mem _ (List.mem_append_right _ h)) hown hK hP 0 rfl rfl 3 (by decide) (hts (.fieldLink RX5 18 "TideGaugesModel" "items" "[J") (List.mem_of_getElem? (i := 4) rfl)) (fun _ h9 => h9) rfl dX5_tide_119 ?_
          refine lv_bipush (v := 12) hx hb dX5_tide_122 (by decide) ?_
          refine lv_aload_n hx hb dX5_tide_124 rfl (lv_at hl 4 rfl) ?_
          refine va_get (D := (dC, dI)) (ci := 5) (v := .ref q.2.2.2.2.1) (C := RX5) (T := TX5) (N := 12) hx hb hts (fun w h => List.mem_cons_of_mem _ (List.mem_append_right _ h)) hown hK hP 0 rfl rfl 4 (by decide) (hts (.fieldLink RX5 22 "TideGaugesModel" "places" "[I") (List.mem_of_getElem? (i := 5) rfl)) (fun _ h9 => h9) rfl dX5_tide_125 ?_
          refine lv_iload_n hx hb dX5_tide_128 rfl (lv_at hl 5 rfl) ?_
          refine x_iald hx hb hK hP 4 4 rfl rfl (k := kx) rfl (by have := hI.1; have := hI.2.1; omega) (by decide) (by show eo (zPl σ kx) = nI akx; rw [hpakx]; rfl) dX5_tide_129 ?_
          refine lv_imul hx hb dX5_tide_130 ?_
          refine lv_iload_n hx hb dX5_tide_131 rfl (lv_at hl 7 rfl) ?_
          refine lv_iadd hx hb dX5_tide_132 ?_
          refine lv_aload_n hx hb dX5_tide_133 rfl (lv_at hl 4 rfl) ?_
          refine va_get (D := (dC, dI)) (ci := 5) (v := .long (zTo (uTo σ z_5))) (C := RX5) (T := TX5) (N := 12) hx hb hts (fun w h => List.mem_cons_of_mem _ (List.mem_append_right _ h)) hown hK hP 0 rfl rfl 11 (by decide) (hts (.fieldLink RX5 99 "TideGaugesModel" "told" "J") (List.mem_of_getElem? (i := 3) rfl)) (fun _ h9 => h9) rfl dX5_tide_134 ?_
          refine lv_topl (fun z_6 hz_6 => ?_)
          refine x_last hx hb hK hP hD hS 3 0 rfl rfl (k := (12 * akx + ki)) ix_mul (by have := hI.1; have := hI.2.1; omega) (by decide) dX5_tide_137 (fun H locs hP hD hS => ?_)
          have hP : va_P (dC, dI) vwCl (MWs q cJ cI cZ cD (uIt (uTo σ z_5) akx ki z_6)) H := mset3 (fz_ri (uTo σ z_5) akx ki z_6 (by have := hI.2.2.2.1 akx; omega)) hP
          have hD : va_D A (MWs q cJ cI cZ cD (uIt (uTo σ z_5) akx ki z_6)) := msetD3 (fz_ri (uTo σ z_5) akx ki z_6 (by have := hI.2.2.2.1 akx; omega)) hD
          refine lv_iconst (v := 1) hx hb dX5_tide_138 (by decide) ?_
          exact W.iret hx hb hr (fun t ht hW => ⟨⟨_, (uIt (uTo σ z_5) akx ki z_6), rfl, (by unfold oTide tideN moreE; (try simp only [if_pos c_1, if_pos c_2, if_neg c_3, if_pos c_4, nI_clamp (show kx < 2 ^ 31 by omega), nI_clamp (show ki < 2 ^ 31 by omega), hpakx, hz_5, hz_6, Option.getD_some, reduceCtorEq, if_true, if_false, Option.isNone_some, Option.isNone_none, Bool.false_or, Bool.true_or, Bool.not_true, Bool.not_false]); try rfl), by rw [ht]; exact hP, hD⟩, hS.F ht⟩) hS.2.2 dX5_tide_139
        · refine lv_dload hx hb dX5_tide_93 (lv_at hl 0 rfl) ?_
          refine cs_0 (As := [.double (FP.f2d (FP.fadd (FP.d2f (fX5_number w (itm σ kx ki))) (FP.fdiv (FP.i2f g) (1090519040 : UInt32))))]) (rest := []) ⟨hx, hb, hml, hown, hts⟩ (mX5_isEndless l (FP.f2d (FP.fadd (FP.d2f (fX5_number w (itm σ kx ki))) (FP.fdiv (FP.i2f g) (1090519040 : UInt32))))) (va_cwS 1 hts gX5_tide_X5_isEndless rfl rfl rfl (by decide +kernel) ⟨Nat.le_of_ble_eq_true rfl, Nat.le_of_ble_eq_true rfl⟩) rfl rfl hl.1 (Nat.le_of_ble_eq_true rfl) dX5_tide_95 (Nat.zero_le _) (Nat.zero_le _) ?_
          refine w_bne (tgt := 108) hx hb dX5_tide_98 (by decide) (fun c_7 => ?_) (fun c_7 => ?_)
          · refine lv_aload_n hx hb dX5_tide_108 rfl (lv_at hl 4 rfl) ?_
            refine lv_iload_n hx hb dX5_tide_109 rfl (lv_at hl 6 rfl) ?_
            refine lv_dload hx hb dX5_tide_110 (lv_at hl 0 rfl) ?_
            refine cs_0 (As := [.int (b2i w), .double (FP.f2d (FP.fadd (FP.d2f (fX5_number w (itm σ kx ki))) (FP.fdiv (FP.i2f g) (1090519040 : UInt32))))]) (rest := [.ref q.1]) ⟨hx, hb, hml, hown, hts⟩ (mX5_bitsOf l w (FP.f2d (FP.fadd (FP.d2f (fX5_number w (itm σ kx ki))) (FP.fdiv (FP.i2f g) (1090519040 : UInt32)))) ((by rw [FP.f2d_nan]; exact (fadd8_nn g (by rw [FP.d2f_nan]; exact (num_nn (itm_ok hI hpakx hwakx))))))) (va_cwS 2 hts gX5_tide_X5_bitsOf rfl rfl rfl (by decide +kernel) ⟨Nat.le_of_ble_eq_true rfl, Nat.le_of_ble_eq_true rfl⟩) rfl rfl hl.1 (Nat.le_of_ble_eq_true rfl) dX5_tide_112 (Nat.zero_le _) (Nat.zero_le _) ?_
            refine lv_topl (fun z_8 hz_8 => ?_)
            refine va_put (D := (dC, dI)) (ci := 5) (v := .long z_8) (ty := .long) (C := RX5) (T := TX5) (N := 12) hx hb hts (fun w h => List.mem_cons_of_mem _ (List.mem_append_right _ h)) tyX5 tyX5_ok nmX5 hown hK hP hD hS 0 rfl rfl 11 (by decide) (hts (.fieldLink RX5 99 "TideGaugesModel" "told" "J") (List.mem_of_getElem? (i := 3) rfl)) (fun _ h9 => h9) rfl (by decide +kernel) rfl rfl (Nat.le_of_ble_eq_true rfl) dX5_tide_115 (fun H locs hP hD hS => ?_)
            have hP : va_P (dC, dI) vwCl (MWs q cJ cI cZ cD (uTo σ z_8)) H := hP
            have hD : va_D A (MWs q cJ cI cZ cD (uTo σ z_8)) := hD
            refine lv_aload_n hx hb dX5_tide_118 rfl (lv_at hl 4 rfl) ?_
            refine va_get (D := (dC, dI)) (ci := 5) (v := .ref q.2.2.2.1) (C := RX5) (T := TX5) (N := 12) hx hb hts (fun w h => List.mem_cons_of_mem _ (List.mem_append_right _ h)) hown hK hP 0 rfl rfl 3 (by decide) (hts (.fieldLink RX5 18 "TideGaugesModel" "items" "[J") (List.mem_of_getElem? (i := 4) rfl)) (fun _ h9 => h9) rfl dX5_tide_119 ?_
            refine lv_bipush (v := 12) hx hb dX5_tide_122 (by decide) ?_
            refine lv_aload_n hx hb dX5_tide_124 rfl (lv_at hl 4 rfl) ?_
            refine va_get (D := (dC, dI)) (ci := 5) (v := .ref q.2.2.2.2.1) (C := RX5) (T := TX5) (N := 12) hx hb hts (fun w h => List.mem_cons_of_mem _ (List.mem_append_right _ h)) hown hK hP 0 rfl rfl 4 (by decide) (hts (.fieldLink RX5 22 "TideGaugesModel" "places" "[I") (List.mem_of_getElem? (i := 5) rfl)) (fun _ h9 => h9) rfl dX5_tide_125 ?_
            refine lv_iload_n hx hb dX5_tide_128 rfl (lv_at hl 5 rfl) ?_
            refine x_iald hx hb hK hP 4 4 rfl rfl (k := kx) rfl (by have := hI.1; have := hI.2.1; omega) (by decide) (by show eo (zPl σ kx) = nI akx; rw [hpakx]; rfl) dX5_tide_129 ?_
            refine lv_imul hx hb dX5_tide_130 ?_
            refine lv_iload_n hx hb dX5_tide_131 rfl (lv_at hl 7 rfl) ?_
            refine lv_iadd hx hb dX5_tide_132 ?_
            refine lv_aload_n hx hb dX5_tide_133 rfl (lv_at hl 4 rfl) ?_
            refine va_get (D := (dC, dI)) (ci := 5) (v := .long (zTo (uTo σ z_8))) (C := RX5) (T := TX5) (N := 12) hx hb hts (fun w h => List.mem_cons_of_mem _ (List.mem_append_right _ h)) hown hK hP 0 rfl rfl 11 (by decide) (hts (.fieldLink RX5 99 "TideGaugesModel" "told" "J") (List.mem_of_getElem? (i := 3) rfl)) (fun _ h9 => h9) rfl dX5_tide_134 ?_
            refine lv_topl (fun z_9 hz_9 => ?_)
            refine x_last hx hb hK hP hD hS 3 0 rfl rfl (k := (12 * akx + ki)) ix_mul (by have := hI.1; have := hI.2.1; omega) (by decide) dX5_tide_137 (fun H locs hP hD hS => ?_)
            have hP : va_P (dC, dI) vwCl (MWs q cJ cI cZ cD (uIt (uTo σ z_8) akx ki z_9)) H := mset3 (fz_ri (uTo σ z_8) akx ki z_9 (by have := hI.2.2.2.1 akx; omega)) hP
            have hD : va_D A (MWs q cJ cI cZ cD (uIt (uTo σ z_8) akx ki z_9)) := msetD3 (fz_ri (uTo σ z_8) akx ki z_9 (by have := hI.2.2.2.1 akx; omega)) hD
            refine lv_iconst (v := 1) hx hb dX5_tide_138 (by decide) ?_
            exact W.iret hx hb hr (fun t ht hW => ⟨⟨_, (uIt (uTo σ z_8) akx ki z_9), rfl, (by unfold oTide tideN moreE; (try simp only [if_pos c_1, if_pos c_2, if_neg c_3, if_neg c_4, if_pos c_7, nI_clamp (show kx < 2 ^ 31 by omega), nI_clamp (show ki < 2 ^ 31 by omega), hpakx, hz_8, hz_9, Option.getD_some, reduceCtorEq, if_true, if_false, Option.isNone_some, Option.isNone_none, Bool.false_or, Bool.true_or, Bool.not_true, Bool.not_false]); try rfl), by rw [ht]; exact hP, hD⟩, hS.F ht⟩) hS.2.2 dX5_tide_139
          · refine lv_dload hx hb dX5_tide_101 (lv_at hl 0 rfl) ?_
            refine lv_dload hx hb dX5_tide_103 (lv_at hl 2 rfl) ?_
            refine lv_drem hx hb dX5_tide_105 (n64_of (drem_nn (by rw [FP.f2d_nan]; exact (fadd8_nn g (by rw [FP.d2f_nan]; exact (num_nn (itm_ok hI hpakx hwakx))))) c_7 (num_nn (itm_ok hI hpakx hwakx)) c_4)) ?_
            refine lv_dstore (lv' := [(10, .double (FP.drem (FP.f2d (FP.fadd (FP.d2f (fX5_number w (itm σ kx ki))) (FP.fdiv (FP.i2f g) (1090519040 : UInt32)))) (fX5_number w (itm σ kx 0)))), (8, .double (fX5_number w (itm σ kx ki))), (6, .double (fX5_number w (itm σ kx 0))), (5, .int (askI σ kx w (nI ki))), (0, .ref q.1), (1, .int (nI kx)), (2, .int (b2i w)), (3, .int (nI ki)), (4, .int g)]) hx hb dX5_tide_106 hl (by decide) rfl (fun ls hl => ?_)
            refine lv_aload_n hx hb dX5_tide_108 rfl (lv_at hl 4 rfl) ?_
            refine lv_iload_n hx hb dX5_tide_109 rfl (lv_at hl 6 rfl) ?_
            refine lv_dload hx hb dX5_tide_110 (lv_at hl 0 rfl) ?_
            refine cs_0 (As := [.int (b2i w), .double (FP.drem (FP.f2d (FP.fadd (FP.d2f (fX5_number w (itm σ kx ki))) (FP.fdiv (FP.i2f g) (1090519040 : UInt32)))) (fX5_number w (itm σ kx 0)))]) (rest := [.ref q.1]) ⟨hx, hb, hml, hown, hts⟩ (mX5_bitsOf l w (FP.drem (FP.f2d (FP.fadd (FP.d2f (fX5_number w (itm σ kx ki))) (FP.fdiv (FP.i2f g) (1090519040 : UInt32)))) (fX5_number w (itm σ kx 0))) ((drem_nn (by rw [FP.f2d_nan]; exact (fadd8_nn g (by rw [FP.d2f_nan]; exact (num_nn (itm_ok hI hpakx hwakx))))) c_7 (num_nn (itm_ok hI hpakx hwakx)) c_4))) (va_cwS 2 hts gX5_tide_X5_bitsOf rfl rfl rfl (by decide +kernel) ⟨Nat.le_of_ble_eq_true rfl, Nat.le_of_ble_eq_true rfl⟩) rfl rfl hl.1 (Nat.le_of_ble_eq_true rfl) dX5_tide_112 (Nat.zero_le _) (Nat.zero_le _) ?_
            refine lv_topl (fun z_10 hz_10 => ?_)
            refine va_put (D := (dC, dI)) (ci := 5) (v := .long z_10) (ty := .long) (C := RX5) (T := TX5) (N := 12) hx hb hts (fun w h => List.mem_cons_of_mem _ (List.mem_append_right _ h)) tyX5 tyX5_ok nmX5 hown hK hP hD hS 0 rfl rfl 11 (by decide) (hts (.fieldLink RX5 99 "TideGaugesModel" "told" "J") (List.mem_of_getElem? (i := 3) rfl)) (fun _ h9 => h9) rfl (by decide +kernel) rfl rfl (Nat.le_of_ble_eq_true rfl) dX5_tide_115 (fun H locs hP hD hS => ?_)
            have hP : va_P (dC, dI) vwCl (MWs q cJ cI cZ cD (uTo σ z_10)) H := hP
            have hD : va_D A (MWs q cJ cI cZ cD (uTo σ z_10)) := hD
            refine lv_aload_n hx hb dX5_tide_118 rfl (lv_at hl 4 rfl) ?_
            refine va_get (D := (dC, dI)) (ci := 5) (v := .ref q.2.2.2.1) (C := RX5) (T := TX5) (N := 12) hx hb hts (fun w h => List.mem_cons_of_mem _ (List.mem_append_right _ h)) hown hK hP 0 rfl rfl 3 (by decide) (hts (.fieldLink RX5 18 "TideGaugesModel" "items" "[J") (List.mem_of_getElem? (i := 4) rfl)) (fun _ h9 => h9) rfl dX5_tide_119 ?_
            refine lv_bipush (v := 12) hx hb dX5_tide_122 (by decide) ?_
            refine lv_aload_n hx hb dX5_tide_124 rfl (lv_at hl 4 rfl) ?_
            refine va_get (D := (dC, dI)) (ci := 5) (v := .ref q.2.2.2.2.1) (C := RX5) (T := TX5) (N := 12) hx hb hts (fun w h => List.mem_cons_of_mem _ (List.mem_append_right _ h)) hown hK hP 0 rfl rfl 4 (by decide) (hts (.fieldLink RX5 22 "TideGaugesModel" "places" "[I") (List.mem_of_getElem? (i := 5) rfl)) (fun _ h9 => h9) rfl dX5_tide_125 ?_
            refine lv_iload_n hx hb dX5_tide_128 rfl (lv_at hl 5 rfl) ?_
            refine x_iald hx hb hK hP 4 4 rfl rfl (k := kx) rfl (by have := hI.1; have := hI.2.1; omega) (by decide) (by show eo (zPl σ kx) = nI akx; rw [hpakx]; rfl) dX5_tide_129 ?_
            refine lv_imul hx hb dX5_tide_130 ?_
            refine lv_iload_n hx hb dX5_tide_131 rfl (lv_at hl 7 rfl) ?_
            refine lv_iadd hx hb dX5_tide_132 ?_
            refine lv_aload_n hx hb dX5_tide_133 rfl (lv_at hl 4 rfl) ?_
            refine va_get (D := (dC, dI)) (ci := 5) (v := .long (zTo (uTo σ z_10))) (C := RX5) (T := TX5) (N := 12) hx hb hts (fun w h => List.mem_cons_of_mem _ (List.mem_append_right _ h)) hown hK hP 0 rfl rfl 11 (by decide) (hts (.fieldLink RX5 99 "TideGaugesModel" "told" "J") (List.mem_of_getElem? (i := 3) rfl)) (fun _ h9 => h9) rfl dX5_tide_134 ?_
            refine lv_topl (fun z_11 hz_11 => ?_)
            refine x_last hx hb hK hP hD hS 3 0 rfl rfl (k := (12 * akx + ki)) ix_mul (by have := hI.1; have := hI.2.1; omega) (by decide) dX5_tide_137 (fun H locs hP hD hS => ?_)
            have hP : va_P (dC, dI) vwCl (MWs q cJ cI cZ cD (uIt (uTo σ z_10) akx ki z_11)) H := mset3 (fz_ri (uTo σ z_10) akx ki z_11 (by have := hI.2.2.2.1 akx; omega)) hP
            have hD : va_D A (MWs q cJ cI cZ cD (uIt (uTo σ z_10) akx ki z_11)) := msetD3 (fz_ri (uTo σ z_10) akx ki z_11 (by have := hI.2.2.2.1 akx; omega)) hD
            refine lv_iconst (v := 1) hx hb dX5_tide_138 (by decide) ?_
            exact W.iret hx hb hr (fun t ht hW => ⟨⟨_, (uIt (uTo σ z_10) akx ki z_11), rfl, (by unfold oTide tideN moreE; (try simp only [if_pos c_1, if_pos c_2, if_neg c_3, if_neg c_4, if_neg c_7, nI_clamp (show kx < 2 ^ 31 by omega), nI_clamp (show ki < 2 ^ 31 by omega), hpakx, hz_10, hz_11, Option.getD_some, reduceCtorEq, if_true, if_false, Option.isNone_some, Option.isNone_none, Bool.false_or, Bool.true_or, Bool.not_true, Bool.not_false]); try rfl), by rw [ht]; exact hP, hD⟩, hS.F ht⟩) hS.2.2 dX5_tide_139
      · refine lv_dload hx hb dX5_tide_60 (lv_at hl 0 rfl) ?_
        refine lv_iload hx hb dX5_tide_62 (lv_at hl 7 rfl) ?_
        refine lv_i2d hx hb dX5_tide_64 ?_
        refine lv_ldc2d hx hb hown (hts (.constantDouble RX5 115 (4620693217682128896)) (List.mem_of_getElem? (i := 1) rfl)) dX5_tide_65 ?_
        refine lv_ddiv hx hb dX5_tide_68 (n64_of (ddiv8_nn g)) ?_
        refine lv_dadd hx hb dX5_tide_69 (n64_of (dadd8_nn g (num_nn (itm_ok hI hpakx hwakx)))) ?_
        refine lv_goto (tgt := 84) hx hb dX5_tide_70 (by decide) ?_
        refine lv_dstore (lv' := [(10, .double (FP.dadd (fX5_number w (itm σ kx ki)) (FP.ddiv (FP.i2d g) (4620693217682128896 : UInt64)))), (8, .double (fX5_number w (itm σ kx ki))), (6, .double (fX5_number w (itm σ kx 0))), (5, .int (askI σ kx w (nI ki))), (0, .ref q.1), (1, .int (nI kx)), (2, .int (b2i w)), (3, .int (nI ki)), (4, .int g)]) hx hb dX5_tide_84 hl (by decide) rfl (fun ls hl => ?_)
        refine lv_dload hx hb dX5_tide_86 (lv_at hl 2 rfl) ?_
        refine lv_dconst0 hx hb dX5_tide_88 ?_
        refine w_dz_eq (tgt := 108) hx hb dX5_tide_89 dX5_tide_90 (by decide) (fun c_12 => ?_) (fun c_12 => ?_)
        · refine lv_aload_n hx hb dX5_tide_108 rfl (lv_at hl 4 rfl) ?_
          refine lv_iload_n hx hb dX5_tide_109 rfl (lv_at hl 6 rfl) ?_
          refine lv_dload hx hb dX5_tide_110 (lv_at hl 0 rfl) ?_
          refine cs_0 (As := [.int (b2i w), .double (FP.dadd (fX5_number w (itm σ kx ki)) (FP.ddiv (FP.i2d g) (4620693217682128896 : UInt64)))]) (rest := [.ref q.1]) ⟨hx, hb, hml, hown, hts⟩ (mX5_bitsOf l w (FP.dadd (fX5_number w (itm σ kx ki)) (FP.ddiv (FP.i2d g) (4620693217682128896 : UInt64))) ((dadd8_nn g (num_nn (itm_ok hI hpakx hwakx))))) (va_cwS 2 hts gX5_tide_X5_bitsOf rfl rfl rfl (by decide +kernel) ⟨Nat.le_of_ble_eq_true rfl, Nat.le_of_ble_eq_true rfl⟩) rfl rfl hl.1 (Nat.le_of_ble_eq_true rfl) dX5_tide_112 (Nat.zero_le _) (Nat.zero_le _) ?_
          refine lv_topl (fun z_13 hz_13 => ?_)
          refine va_put (D := (dC, dI)) (ci := 5) (v := .long z_13) (ty := .long) (C := RX5) (T := TX5) (N := 12) hx hb hts (fun w h => List.mem_cons_of_mem _ (List.mem_append_right _ h)) tyX5 tyX5_ok nmX5 hown hK hP hD hS 0 rfl rfl 11 (by decide) (hts (.fieldLink RX5 99 "TideGaugesModel" "told" "J") (List.mem_of_getElem? (i := 3) rfl)) (fun _ h9 => h9) rfl (by decide +kernel) rfl rfl (Nat.le_of_ble_eq_true rfl) dX5_tide_115 (fun H locs hP hD hS => ?_)
          have hP : va_P (dC, dI) vwCl (MWs q cJ cI cZ cD (uTo σ z_13)) H := hP
          have hD : va_D A (MWs q cJ cI cZ cD (uTo σ z_13)) := hD
          refine lv_aload_n hx hb dX5_tide_118 rfl (lv_at hl 4 rfl) ?_
          refine va_get (D := (dC, dI)) (ci := 5) (v := .ref q.2.2.2.1) (C := RX5) (T := TX5) (N := 12) hx hb hts (fun w h => List.mem_cons_of_mem _ (List.mem_append_right _ h)) hown hK hP 0 rfl rfl 3 (by decide) (hts (.fieldLink RX5 18 "TideGaugesModel" "items" "[J") (List.mem_of_getElem? (i := 4) rfl)) (fun _ h9 => h9) rfl dX5_tide_119 ?_
          refine lv_bipush (v := 12) hx hb dX5_tide_122 (by decide) ?_
          refine lv_aload_n hx hb dX5_tide_124 rfl (lv_at hl 4 rfl) ?_
          refine va_get (D := (dC, dI)) (ci := 5) (v := .ref q.2.2.2.2.1) (C := RX5) (T := TX5) (N := 12) hx hb hts (fun w h => List.mem_cons_of_mem _ (List.mem_append_right _ h)) hown hK hP 0 rfl rfl 4 (by decide) (hts (.fieldLink RX5 22 "TideGaugesModel" "places" "[I") (List.mem_of_getElem? (i := 5) rfl)) (fun _ h9 => h9) rfl dX5_tide_125 ?_
          refine lv_iload_n hx hb dX5_tide_128 rfl (lv_at hl 5 rfl) ?_
          refine x_iald hx hb hK hP 4 4 rfl rfl (k := kx) rfl (by have := hI.1; have := hI.2.1; omega) (by decide) (by show eo (zPl σ kx) = nI akx; rw [hpakx]; rfl) dX5_tide_129 ?_
          refine lv_imul hx hb dX5_tide_130 ?_
          refine lv_iload_n hx hb dX5_tide_131 rfl (lv_at hl 7 rfl) ?_
          refine lv_iadd hx hb dX5_tide_132 ?_
          refine lv_aload_n hx hb dX5_tide_133 rfl (lv_at hl 4 rfl) ?_
          refine va_get (D := (dC, dI)) (ci := 5) (v := .long (zTo (uTo σ z_13))) (C := RX5) (T := TX5) (N := 12) hx hb hts (fun w h => List.mem_cons_of_mem _ (List.mem_append_right _ h)) hown hK hP 0 rfl rfl 11 (by decide) (hts (.fieldLink RX5 99 "TideGaugesModel" "told" "J") (List.mem_of_getElem? (i := 3) rfl)) (fun _ h9 => h9) rfl dX5_tide_134 ?_
          refine lv_topl (fun z_14 hz_14 => ?_)
          refine x_last hx hb hK hP hD hS 3 0 rfl rfl (k := (12 * akx + ki)) ix_mul (by have := hI.1; have := hI.2.1; omega) (by decide) dX5_tide_137 (fun H locs hP hD hS => ?_)
          have hP : va_P (dC, dI) vwCl (MWs q cJ cI cZ cD (uIt (uTo σ z_13) akx ki z_14)) H := mset3 (fz_ri (uTo σ z_13) akx ki z_14 (by have := hI.2.2.2.1 akx; omega)) hP
          have hD : va_D A (MWs q cJ cI cZ cD (uIt (uTo σ z_13) akx ki z_14)) := msetD3 (fz_ri (uTo σ z_13) akx ki z_14 (by have := hI.2.2.2.1 akx; omega)) hD
          refine lv_iconst (v := 1) hx hb dX5_tide_138 (by decide) ?_
          exact W.iret hx hb hr (fun t ht hW => ⟨⟨_, (uIt (uTo σ z_13) akx ki z_14), rfl, (by unfold oTide tideN moreE; (try simp only [if_pos c_1, if_pos c_2, if_pos c_3, if_pos c_12, nI_clamp (show kx < 2 ^ 31 by omega), nI_clamp (show ki < 2 ^ 31 by omega), hpakx, hz_13, hz_14, Option.getD_some, reduceCtorEq, if_true, if_false, Option.isNone_some, Option.isNone_none, Bool.false_or, Bool.true_or, Bool.not_true, Bool.not_false]); try rfl), by rw [ht]; exact hP, hD⟩, hS.F ht⟩) hS.2.2 dX5_tide_139
        · refine lv_dload hx hb dX5_tide_93 (lv_at hl 0 rfl) ?_
          refine cs_0 (As := [.double (FP.dadd (fX5_number w (itm σ kx ki)) (FP.ddiv (FP.i2d g) (4620693217682128896 : UInt64)))]) (rest := []) ⟨hx, hb, hml, hown, hts⟩ (mX5_isEndless l (FP.dadd (fX5_number w (itm σ kx ki)) (FP.ddiv (FP.i2d g) (4620693217682128896 : UInt64)))) (va_cwS 1 hts gX5_tide_X5_isEndless rfl rfl rfl (by decide +kernel) ⟨Nat.le_of_ble_eq_true rfl, Nat.le_of_ble_eq_true rfl⟩) rfl rfl hl.1 (Nat.le_of_ble_eq_true rfl) dX5_tide_95 (Nat.zero_le _) (Nat.zero_le _) ?_
          refine w_bne (tgt := 108) hx hb dX5_tide_98 (by decide) (fun c_15 => ?_) (fun c_15 => ?_)
          · refine lv_aload_n hx hb dX5_tide_108 rfl (lv_at hl 4 rfl) ?_
            refine lv_iload_n hx hb dX5_tide_109 rfl (lv_at hl 6 rfl) ?_
            refine lv_dload hx hb dX5_tide_110 (lv_at hl 0 rfl) ?_
            refine cs_0 (As := [.int (b2i w), .double (FP.dadd (fX5_number w (itm σ kx ki)) (FP.ddiv (FP.i2d g) (4620693217682128896 : UInt64)))]) (rest := [.ref q.1]) ⟨hx, hb, hml, hown, hts⟩ (mX5_bitsOf l w (FP.dadd (fX5_number w (itm σ kx ki)) (FP.ddiv (FP.i2d g) (4620693217682128896 : UInt64))) ((dadd8_nn g (num_nn (itm_ok hI hpakx hwakx))))) (va_cwS 2 hts gX5_tide_X5_bitsOf rfl rfl rfl (by decide +kernel) ⟨Nat.le_of_ble_eq_true rfl, Nat.le_of_ble_eq_true rfl⟩) rfl rfl hl.1 (Nat.le_of_ble_eq_true rfl) dX5_tide_112 (Nat.zero_le _) (Nat.zero_le _) ?_
            refine lv_topl (fun z_16 hz_16 => ?_)
            refine va_put (D := (dC, dI)) (ci := 5) (v := .long z_16) (ty := .long) (C := RX5) (T := TX5) (N := 12) hx hb hts (fun w h => List.mem_cons_of_mem _ (List.mem_append_right _ h)) tyX5 tyX5_ok nmX5 hown hK hP hD hS 0 rfl rfl 11 (by decide) (hts (.fieldLink RX5 99 "TideGaugesModel" "told" "J") (List.mem_of_getElem? (i := 3) rfl)) (fun _ h9 => h9) rfl (by decide +kernel) rfl rfl (Nat.le_of_ble_eq_true rfl) dX5_tide_115 (fun H locs hP hD hS => ?_)
            have hP : va_P (dC, dI) vwCl (MWs q cJ cI cZ cD (uTo σ z_16)) H := hP
            have hD : va_D A (MWs q cJ cI cZ cD (uTo σ z_16)) := hD
            refine lv_aload_n hx hb dX5_tide_118 rfl (lv_at hl 4 rfl) ?_
            refine va_get (D := (dC, dI)) (ci := 5) (v := .ref q.2.2.2.1) (C := RX5) (T := TX5) (N := 12) hx hb hts (fun w h => List.mem_cons_of_mem _ (List.mem_append_right _ h)) hown hK hP 0 rfl rfl 3 (by decide) (hts (.fieldLink RX5 18 "TideGaugesModel" "items" "[J") (List.mem_of_getElem? (i := 4) rfl)) (fun _ h9 => h9) rfl dX5_tide_119 ?_
            refine lv_bipush (v := 12) hx hb dX5_tide_122 (by decide) ?_
            refine lv_aload_n hx hb dX5_tide_124 rfl (lv_at hl 4 rfl) ?_
            refine va_get (D := (dC, dI)) (ci := 5) (v := .ref q.2.2.2.2.1) (C := RX5) (T := TX5) (N := 12) hx hb hts (fun w h => List.mem_cons_of_mem _ (List.mem_append_right _ h)) hown hK hP 0 rfl rfl 4 (by decide) (hts (.fieldLink RX5 22 "TideGaugesModel" "places" "[I") (List.mem_of_getElem? (i := 5) rfl)) (fun _ h9 => h9) rfl dX5_tide_125 ?_
            refine lv_iload_n hx hb dX5_tide_128 rfl (lv_at hl 5 rfl) ?_
            refine x_iald hx hb hK hP 4 4 rfl rfl (k := kx) rfl (by have := hI.1; have := hI.2.1; omega) (by decide) (by show eo (zPl σ kx) = nI akx; rw [hpakx]; rfl) dX5_tide_129 ?_
            refine lv_imul hx hb dX5_tide_130 ?_
            refine lv_iload_n hx hb dX5_tide_131 rfl (lv_at hl 7 rfl) ?_
            refine lv_iadd hx hb dX5_tide_132 ?_
            refine lv_aload_n hx hb dX5_tide_133 rfl (lv_at hl 4 rfl) ?_
            refine va_get (D := (dC, dI)) (ci := 5) (v := .long (zTo (uTo σ z_16))) (C := RX5) (T := TX5) (N := 12) hx hb hts (fun w h => List.mem_cons_of_mem _ (List.mem_append_right _ h)) hown hK hP 0 rfl rfl 11 (by decide) (hts (.fieldLink RX5 99 "TideGaugesModel" "told" "J") (List.mem_of_getElem? (i := 3) rfl)) (fun _ h9 => h9) rfl dX5_tide_134 ?_
            refine lv_topl (fun z_17 hz_17 => ?_)
            refine x_last hx hb hK hP hD hS 3 0 rfl rfl (k := (12 * akx + ki)) ix_mul (by have := hI.1; have := hI.2.1; omega) (by decide) dX5_tide_137 (fun H locs hP hD hS => ?_)
            have hP : va_P (dC, dI) vwCl (MWs q cJ cI cZ cD (uIt (uTo σ z_16) akx ki z_17)) H := mset3 (fz_ri (uTo σ z_16) akx ki z_17 (by have := hI.2.2.2.1 akx; omega)) hP
            have hD : va_D A (MWs q cJ cI cZ cD (uIt (uTo σ z_16) akx ki z_17)) := msetD3 (fz_ri (uTo σ z_16) akx ki z_17 (by have := hI.2.2.2.1 akx; omega)) hD
            refine lv_iconst (v := 1) hx hb dX5_tide_138 (by decide) ?_
            exact W.iret hx hb hr (fun t ht hW => ⟨⟨_, (uIt (uTo σ z_16) akx ki z_17), rfl, (by unfold oTide tideN moreE; (try simp only [if_pos c_1, if_pos c_2, if_pos c_3, if_neg c_12, if_pos c_15, nI_clamp (show kx < 2 ^ 31 by omega), nI_clamp (show ki < 2 ^ 31 by omega), hpakx, hz_16, hz_17, Option.getD_some, reduceCtorEq, if_true, if_false, Option.isNone_some, Option.isNone_none, Bool.false_or, Bool.true_or, Bool.not_true, Bool.not_false]); try rfl), by rw [ht]; exact hP, hD⟩, hS.F ht⟩) hS.2.2 dX5_tide_139
          · refine lv_dload hx hb dX5_tide_101 (lv_at hl 0 rfl) ?_
            refine lv_dload hx hb dX5_tide_103 (lv_at hl 2 rfl) ?_
            refine lv_drem hx hb dX5_tide_105 (n64_of (drem_nn (dadd8_nn g (num_nn (itm_ok hI hpakx hwakx))) c_15 (num_nn (itm_ok hI hpakx hwakx)) c_12)) ?_
            refine lv_dstore (lv' := [(10, .double (FP.drem (FP.dadd (fX5_number w (itm σ kx ki)) (FP.ddiv (FP.i2d g) (4620693217682128896 : UInt64))) (fX5_number w (itm σ kx 0)))), (8, .double (fX5_number w (itm σ kx ki))), (6, .double (fX5_number w (itm σ kx 0))), (5, .int (askI σ kx w (nI ki))), (0, .ref q.1), (1, .int (nI kx)), (2, .int (b2i w)), (3, .int (nI ki)), (4, .int g)]) hx hb dX5_tide_106 hl (by decide) rfl (fun ls hl => ?_)
            refine lv_aload_n hx hb dX5_tide_108 rfl (lv_at hl 4 rfl) ?_
            refine lv_iload_n hx hb dX5_tide_109 rfl (lv_at hl 6 rfl) ?_
            refine lv_dload hx hb dX5_tide_110 (lv_at hl 0 rfl) ?_
            refine cs_0 (As := [.int (b2i w), .double (FP.drem (FP.dadd (fX5_number w (itm σ kx ki)) (FP.ddiv (FP.i2d g) (4620693217682128896 : UInt64))) (fX5_number w (itm σ kx 0)))]) (rest := [.ref q.1]) ⟨hx, hb, hml, hown, hts⟩ (mX5_bitsOf l w (FP.drem (FP.dadd (fX5_number w (itm σ kx ki)) (FP.ddiv (FP.i2d g) (4620693217682128896 : UInt64))) (fX5_number w (itm σ kx 0))) ((drem_nn (dadd8_nn g (num_nn (itm_ok hI hpakx hwakx))) c_15 (num_nn (itm_ok hI hpakx hwakx)) c_12))) (va_cwS 2 hts gX5_tide_X5_bitsOf rfl rfl rfl (by decide +kernel) ⟨Nat.le_of_ble_eq_true rfl, Nat.le_of_ble_eq_true rfl⟩) rfl rfl hl.1 (Nat.le_of_ble_eq_true rfl) dX5_tide_112 (Nat.zero_le _) (Nat.zero_le _) ?_
            refine lv_topl (fun z_18 hz_18 => ?_)
            refine va_put (D := (dC, dI)) (ci := 5) (v := .long z_18) (ty := .long) (C := RX5) (T := TX5) (N := 12) hx hb hts (fun w h => List.mem_cons_of_mem _ (List.mem_append_right _ h)) tyX5 tyX5_ok nmX5 hown hK hP hD hS 0 rfl rfl 11 (by decide) (hts (.fieldLink RX5 99 "TideGaugesModel" "told" "J") (List.mem_of_getElem? (i := 3) rfl)) (fun _ h9 => h9) rfl (by decide +kernel) rfl rfl (Nat.le_of_ble_eq_true rfl) dX5_tide_115 (fun H locs hP hD hS => ?_)
            have hP : va_P (dC, dI) vwCl (MWs q cJ cI cZ cD (uTo σ z_18)) H := hP
            have hD : va_D A (MWs q cJ cI cZ cD (uTo σ z_18)) := hD
            refine lv_aload_n hx hb dX5_tide_118 rfl (lv_at hl 4 rfl) ?_
            refine va_get (D := (dC, dI)) (ci := 5) (v := .ref q.2.2.2.1) (C := RX5) (T := TX5) (N := 12) hx hb hts (fun w h => List.mem_cons_of_mem _ (List.mem_append_right _ h)) hown hK hP 0 rfl rfl 3 (by decide) (hts (.fieldLink RX5 18 "TideGaugesModel" "items" "[J") (List.mem_of_getElem? (i := 4) rfl)) (fun _ h9 => h9) rfl dX5_tide_119 ?_
            refine lv_bipush (v := 12) hx hb dX5_tide_122 (by decide) ?_
            refine lv_aload_n hx hb dX5_tide_124 rfl (lv_at hl 4 rfl) ?_
            refine va_get (D := (dC, dI)) (ci := 5) (v := .ref q.2.2.2.2.1) (C := RX5) (T := TX5) (N := 12) hx hb hts (fun w h => List.mem_cons_of_mem _ (List.mem_append_right _ h)) hown hK hP 0 rfl rfl 4 (by decide) (hts (.fieldLink RX5 22 "TideGaugesModel" "places" "[I") (List.mem_of_getElem? (i := 5) rfl)) (fun _ h9 => h9) rfl dX5_tide_125 ?_
            refine lv_iload_n hx hb dX5_tide_128 rfl (lv_at hl 5 rfl) ?_
            refine x_iald hx hb hK hP 4 4 rfl rfl (k := kx) rfl (by have := hI.1; have := hI.2.1; omega) (by decide) (by show eo (zPl σ kx) = nI akx; rw [hpakx]; rfl) dX5_tide_129 ?_
            refine lv_imul hx hb dX5_tide_130 ?_
            refine lv_iload_n hx hb dX5_tide_131 rfl (lv_at hl 7 rfl) ?_
            refine lv_iadd hx hb dX5_tide_132 ?_
            refine lv_aload_n hx hb dX5_tide_133 rfl (lv_at hl 4 rfl) ?_
            refine va_get (D := (dC, dI)) (ci := 5) (v := .long (zTo (uTo σ z_18))) (C := RX5) (T := TX5) (N := 12) hx hb hts (fun w h => List.mem_cons_of_mem _ (List.mem_append_right _ h)) hown hK hP 0 rfl rfl 11 (by decide) (hts (.fieldLink RX5 99 "TideGaugesModel" "told" "J") (List.mem_of_getElem? (i := 3) rfl)) (fun _ h9 => h9) rfl dX5_tide_134 ?_
            refine lv_topl (fun z_19 hz_19 => ?_)
            refine x_last hx hb hK hP hD hS 3 0 rfl rfl (k := (12 * akx + ki)) ix_mul (by have := hI.1; have := hI.2.1; omega) (by decide) dX5_tide_137 (fun H locs hP hD hS => ?_)
            have hP : va_P (dC, dI) vwCl (MWs q cJ cI cZ cD (uIt (uTo σ z_18) akx ki z_19)) H := mset3 (fz_ri (uTo σ z_18) akx ki z_19 (by have := hI.2.2.2.1 akx; omega)) hP
            have hD : va_D A (MWs q cJ cI cZ cD (uIt (uTo σ z_18) akx ki z_19)) := msetD3 (fz_ri (uTo σ z_18) akx ki z_19 (by have := hI.2.2.2.1 akx; omega)) hD
            refine lv_iconst (v := 1) hx hb dX5_tide_138 (by decide) ?_
            exact W.iret hx hb hr (fun t ht hW => ⟨⟨_, (uIt (uTo σ z_18) akx ki z_19), rfl, (by unfold oTide tideN moreE; (try simp only [if_pos c_1, if_pos c_2, if_pos c_3, if_neg c_12, if_neg c_15, nI_clamp (show kx < 2 ^ 31 by omega), nI_clamp (show ki < 2 ^ 31 by omega), hpakx, hz_18, hz_19, Option.getD_some, reduceCtorEq, if_true, if_false, Option.isNone_some, Option.isNone_none, Bool.false_or, Bool.true_or, Bool.not_true, Bool.not_false]); try rfl), by rw [ht]; exact hP, hD⟩, hS.F ht⟩) hS.2.2 dX5_tide_139
    · refine lv_iload hx hb dX5_tide_26 (lv_at hl 0 rfl) ?_
      refine cs_0 (As := [.int (askI σ kx w i)]) (rest := []) ⟨hx, hb, hml, hown, hts⟩ (mX5_fails l (askI σ kx w i)) (va_cwS 1 hts gX5_tide_X5_fails rfl rfl rfl (by decide +kernel) ⟨Nat.le_of_ble_eq_true rfl, Nat.le_of_ble_eq_true rfl⟩) rfl rfl hl.1 (Nat.le_of_ble_eq_true rfl) dX5_tide_28 (Nat.zero_le _) (Nat.zero_le _) ?_
      exact W.iret hx hb hr (fun t ht hW => ⟨⟨_, σ, rfl, (by unfold oTide tideN moreE; (try simp only [if_pos c_1, if_neg c_2, nI_clamp (show kx < 2 ^ 31 by omega), Option.getD_some, reduceCtorEq, if_true, if_false, Option.isNone_some, Option.isNone_none, Bool.false_or, Bool.true_or, Bool.not_true, Bool.not_false]); try rfl), by rw [ht]; exact hP, hD⟩, hS.F ht⟩) hS.2.2 dX5_tide_31
  · refine lv_iconst (v := -1) hx hb dX5_tide_10 (by decide) ?_
    exact W.iret hx hb hr (fun t ht hW => ⟨⟨_, σ, rfl, (by unfold oTide tideN moreE; (try simp only [if_neg c_1, Option.getD_some, reduceCtorEq, if_true, if_false, Option.isNone_some, Option.isNone_none, Bool.false_or, Bool.true_or, Bool.not_true, Bool.not_false]); try rfl), by rw [ht]; exact hP, hD⟩, hS.F ht⟩) hS.2.2 dX5_tide_11
set_option maxHeartbeats 8000000 in
set_option maxRecDepth 100000 in
theorem mX5_gauge (l : Launch) (dC : Nat → ClassId) (dI : Nat → Nat → Nat) (q : Ad) (cJ cG cK cR cI cZ cD : ClassId) (sz : Nat) (σ : St) (N0 : Nat) (hI : Inv σ N0) (hN : N0 ≤ 512) (x : Int32) (k : Int32) (b : Int64) : Met l yX5_gauge wsX5_gauge ({ frames := 1, cells := 0, slots := 0, locals := 23 }) (va_Pc [.ref q.1, .int x, .int k, .long b] (fun U => U.heap.size = sz ∧ va_P (dC, dI) vwCl (MWs q cJ cI cZ cD σ) U.heap ∧ va_K (dC, dI) vwCl (tys0 cJ cG cK cR cI cZ cD) U ∧ va_D (fun _ => True) (MWs q cJ cI cZ cD σ))) (va_Qi (fun (r : Int32) (τ : St) => (r, τ) = oGauge σ x k b) (fun τ t => va_P (dC, dI) vwCl (MWs q cJ cI cZ cD τ) t.heap ∧ va_D (va_A (MWs q cJ cI cZ cD σ) sz) (MWs q cJ cI cZ cD τ)) (va_A (MWs q cJ cI cZ cD σ) sz)) 0 0 (va_A (MWs q cJ cI cZ cD σ) sz) := by
  refine Met.ofW (cc := cX5_gauge) (maxL := 7) (ret := (some .int)) (by decide) rfl ?_
  intro p e s m args below meth c s₁ B hml hv
  obtain ⟨rfl, hsz, hP, hK, hD0⟩ := hv
  have hx := B.exec
  have hb := B.bytes
  have hr := B.returns
  have hts := atoms_spec (ws := wsX5_gauge) B.pre
  have hown : s.vm.findClass RX5 = some m.cls := findClass_of_methodNamed B.named
  have hlocks := B.notSynchronized
  have hN1 := hI.1
  have hN2 := hI.2.1
  subst hsz
  have hD := hD0.self (sz := s.heap.size)
  generalize hAe : va_A (MWs q cJ cI cZ cD σ) s.heap.size = A at hD ⊢
  have hA : ∀ z : Nat, s.heap.size ≤ z → A z := fun z h => by rw [← hAe]; exact Or.inr h
  have hS : va_S A s.heap s.heap [] := va_S.rf
  have hl := lv_entry ([.ref q.1, .int x, .int k, .long b]) (n := 7) (Nat.le_of_ble_eq_true rfl)
  rw [lg_entry_eq]
  generalize (lg_sl ([.ref q.1, .int x, .int k, .long b]) ++ List.replicate (7 - (lg_sl ([.ref q.1, .int x, .int k, .long b])).length) Slot.unset).toArray = ls at hl ⊢
  have hl : lv_has ls 7 [(0, .ref q.1), (1, .int x), (2, .int k), (3, .long b)] := hl
  refine lv_iload_n hx hb dX5_gauge_0 rfl (lv_at hl 1 rfl) ?_
  refine lv_iconst (v := 0) hx hb dX5_gauge_1 (by decide) ?_
  refine lv_iconst (v := 5) hx hb dX5_gauge_2 (by decide) ?_
  refine cs_0 (As := [.int x, .int 0, .int (5 : Int32)]) (rest := []) ⟨hx, hb, hml, hown, hts⟩ (mX5_inN l x (5 : Int32) 6 rfl (by decide)) (va_cwS 3 hts gX5_gauge_X5_in rfl rfl rfl (by decide +kernel) ⟨Nat.le_of_ble_eq_true rfl, Nat.le_of_ble_eq_true rfl⟩) rfl rfl hl.1 (Nat.le_of_ble_eq_true rfl) dX5_gauge_3 (Nat.zero_le _) (Nat.zero_le _) ?_
  refine w_beq (tgt := 26) hx hb dX5_gauge_6 (by decide) (fun c_1 => ?_) (fun c_1 => ?_)
  · refine lv_iconst (v := -1) hx hb dX5_gauge_26 (by decide) ?_
    exact W.iret hx hb hr (fun t ht hW => ⟨⟨_, σ, rfl, (by unfold oGauge; (try simp only [if_neg c_1, Option.getD_some, reduceCtorEq, if_true, if_false, Option.isNone_some, Option.isNone_none, Bool.false_or, Bool.true_or, Bool.not_true, Bool.not_false]); try rfl), by rw [ht]; exact hP, hD⟩, hS.F ht⟩) hS.2.2 dX5_gauge_27
  · obtain ⟨kx, hkx, rfl⟩ := ixb_some c_1 (by decide)
    refine lv_iload_n hx hb dX5_gauge_9 rfl (lv_at hl 2 rfl) ?_
    refine lv_iconst (v := 0) hx hb dX5_gauge_10 (by decide) ?_
    refine lv_iconst (v := 2) hx hb dX5_gauge_11 (by decide) ?_
    refine cs_0 (As := [.int k, .int 0, .int (2 : Int32)]) (rest := []) ⟨hx, hb, hml, hown, hts⟩ (mX5_inN l k (2 : Int32) 3 rfl (by decide)) (va_cwS 3 hts gX5_gauge_X5_in rfl rfl rfl (by decide +kernel) ⟨Nat.le_of_ble_eq_true rfl, Nat.le_of_ble_eq_true rfl⟩) rfl rfl hl.1 (Nat.le_of_ble_eq_true rfl) dX5_gauge_12 (Nat.zero_le _) (Nat.zero_le _) ?_
    refine w_beq (tgt := 26) hx hb dX5_gauge_15 (by decide) (fun c_2 => ?_) (fun c_2 => ?_)
    · refine lv_iconst (v := -1) hx hb dX5_gauge_26 (by decide) ?_
      exact W.iret hx hb hr (fun t ht hW => ⟨⟨_, σ, rfl, (by unfold oGauge; (try simp only [if_pos c_1, if_neg c_2, nI_clamp (show kx < 2 ^ 31 by omega), Option.getD_some, reduceCtorEq, if_true, if_false, Option.isNone_some, Option.isNone_none, Bool.false_or, Bool.true_or, Bool.not_true, Bool.not_false]); try rfl), by rw [ht]; exact hP, hD⟩, hS.F ht⟩) hS.2.2 dX5_gauge_27
    · obtain ⟨kk, hkk, rfl⟩ := ixb_some c_2 (by decide)
      refine lv_iconst (v := 1) hx hb dX5_gauge_18 (by decide) ?_
      refine lv_lload_n hx hb dX5_gauge_19 rfl (lv_at hl 3 rfl) ?_
      refine cs_0 (As := [.int (b2i true), .long b]) (rest := []) ⟨hx, hb, hml, hown, hts⟩ (mX5_isNumber l true b) (va_cwS 2 hts gX5_gauge_X5_isNumber rfl rfl rfl (by decide +kernel) ⟨Nat.le_of_ble_eq_true rfl, Nat.le_of_ble_eq_true rfl⟩) rfl rfl hl.1 (Nat.le_of_ble_eq_true rfl) dX5_gauge_20 (Nat.zero_le _) (Nat.zero_le _) ?_
      refine w_bne (tgt := 28) hx hb dX5_gauge_23 (by decide) (fun c_3 => ?_) (fun c_3 => ?_)
      · refine lv_lload_n hx hb dX5_gauge_28 rfl (lv_at hl 3 rfl) ?_
        refine vn_l2d hx hb (hml.trans hl.1.symm) hown (hts (.methodLink RX5 53 ⟨"java/lang/Double", "longBitsToDouble", "(J)D"⟩) (List.mem_of_getElem? (i := 1) rfl)) (hts (.native ⟨"java/lang/Double", "longBitsToDouble", "(J)D"⟩) (List.mem_of_getElem? (i := 2) rfl)) (hts (.static ⟨"java/lang/Double", "longBitsToDouble", "(J)D"⟩) (List.mem_of_getElem? (i := 3) rfl)) (hts (.initialized "java/lang/Double") (List.mem_of_getElem? (i := 4) rfl)) (snl_of (isnum_t c_3)) (Nat.le_of_ble_eq_true rfl) (Nat.le_of_ble_eq_true rfl) dX5_gauge_29 ?_
        refine lv_dstore (lv' := [(5, .double b.toUInt64), (0, .ref q.1), (1, .int (nI kx)), (2, .int (nI kk)), (3, .long b)]) hx hb dX5_gauge_32 hl (by decide) rfl (fun ls hl => ?_)
        refine lv_dload hx hb dX5_gauge_34 (lv_at hl 0 rfl) ?_
        refine lv_dconst0 hx hb dX5_gauge_36 ?_
        refine w_dz_eq (tgt := 49) hx hb dX5_gauge_37 dX5_gauge_38 (by decide) (fun c_4 => ?_) (fun c_4 => ?_)
        · refine lv_iconst (v := -1) hx hb dX5_gauge_49 (by decide) ?_
          exact W.iret hx hb hr (fun t ht hW => ⟨⟨_, σ, rfl, (by unfold oGauge; (try simp only [if_pos c_1, if_pos c_2, if_pos c_3, if_pos c_4, nI_clamp (show kx < 2 ^ 31 by omega), nI_clamp (show kk < 2 ^ 31 by omega), Option.getD_some, reduceCtorEq, if_true, if_false, Option.isNone_some, Option.isNone_none, Bool.false_or, Bool.true_or, Bool.not_true, Bool.not_false]); try rfl), by rw [ht]; exact hP, hD⟩, hS.F ht⟩) hS.2.2 dX5_gauge_50
        · refine lv_dload hx hb dX5_gauge_41 (lv_at hl 0 rfl) ?_
          refine cs_0 (As := [.double b.toUInt64]) (rest := []) ⟨hx, hb, hml, hown, hts⟩ (mX5_isEndless l b.toUInt64) (va_cwS 1 hts gX5_gauge_X5_isEndless rfl rfl rfl (by decide +kernel) ⟨Nat.le_of_ble_eq_true rfl, Nat.le_of_ble_eq_true rfl⟩) rfl rfl hl.1 (Nat.le_of_ble_eq_true rfl) dX5_gauge_43 (Nat.zero_le _) (Nat.zero_le _) ?_
          refine w_beq (tgt := 51) hx hb dX5_gauge_46 (by decide) (fun c_5 => ?_) (fun c_5 => ?_)
          · refine lv_aload_n hx hb dX5_gauge_51 rfl (lv_at hl 1 rfl) ?_
            refine va_get (D := (dC, dI)) (ci := 5) (v := .ref q.2.2.2.2.2.1) (C := RX5) (T := TX5) (N := 12) hx hb hts (fun w h => List.mem_cons_of_mem _ (List.mem_append_right _ h)) hown hK hP 0 rfl rfl 6 (by decide) (hts (.fieldLink RX5 25 "TideGaugesModel" "kinds" "[I") (List.mem_of_getElem? (i := 5) rfl)) (fun _ h9 => h9) rfl dX5_gauge_52 ?_
            refine lv_aload_n hx hb dX5_gauge_55 rfl (lv_at hl 1 rfl) ?_
            refine va_get (D := (dC, dI)) (ci := 5) (v := .int (nI (zNg σ))) (C := RX5) (T := TX5) (N := 12) hx hb hts (fun w h => List.mem_cons_of_mem _ (List.mem_append_right _ h)) hown hK hP 0 rfl rfl 5 (by decide) (hts (.fieldLink RX5 118 "TideGaugesModel" "gauges" "I") (List.mem_of_getElem? (i := 6) rfl)) (fun _ h9 => h9) rfl dX5_gauge_56 ?_
            refine lv_iload_n hx hb dX5_gauge_59 rfl (lv_at hl 3 rfl) ?_
            refine x_iast hx hb hK hP hD hS 5 4 rfl rfl (k := (zNg σ)) rfl (by have := hI.1; have := hI.2.1; omega) (by decide) dX5_gauge_60 (fun H locs hP hD hS => ?_)
            have hP : va_P (dC, dI) vwCl (MWs q cJ cI cZ cD (uGk σ (zNg σ) (nI kk))) H := mset5 (fz_gk σ (zNg σ) (nI kk)) hP
            have hD : va_D A (MWs q cJ cI cZ cD (uGk σ (zNg σ) (nI kk))) := msetD5 (fz_gk σ (zNg σ) (nI kk)) hD
            refine lv_aload_n hx hb dX5_gauge_61 rfl (lv_at hl 1 rfl) ?_
            refine va_get (D := (dC, dI)) (ci := 5) (v := .ref q.2.2.2.2.2.2.1) (C := RX5) (T := TX5) (N := 12) hx hb hts (fun w h => List.mem_cons_of_mem _ (List.mem_append_right _ h)) hown hK hP 0 rfl rfl 7 (by decide) (hts (.fieldLink RX5 28 "TideGaugesModel" "spans" "[D") (List.mem_of_getElem? (i := 7) rfl)) (fun _ h9 => h9) rfl dX5_gauge_62 ?_
            refine lv_aload_n hx hb dX5_gauge_65 rfl (lv_at hl 1 rfl) ?_
            refine va_get (D := (dC, dI)) (ci := 5) (v := .int (nI (zNg σ))) (C := RX5) (T := TX5) (N := 12) hx hb hts (fun w h => List.mem_cons_of_mem _ (List.mem_append_right _ h)) hown hK hP 0 rfl rfl 5 (by decide) (hts (.fieldLink RX5 118 "TideGaugesModel" "gauges" "I") (List.mem_of_getElem? (i := 6) rfl)) (fun _ h9 => h9) rfl dX5_gauge_66 ?_
            refine lv_dload hx hb dX5_gauge_69 (lv_at hl 0 rfl) ?_
            refine x_dast hx hb hK hP hD hS 6 6 rfl rfl (k := (zNg σ)) rfl (by have := hI.1; have := hI.2.1; omega) (by decide) dX5_gauge_71 (fun H locs hP hD hS => ?_)
            have hP : va_P (dC, dI) vwCl (MWs q cJ cI cZ cD (uGs (uGk σ (zNg σ) (nI kk)) (zNg σ) b)) H := mset6 (fz_gs (uGk σ (zNg σ) (nI kk)) (zNg σ) b) hP
            have hD : va_D A (MWs q cJ cI cZ cD (uGs (uGk σ (zNg σ) (nI kk)) (zNg σ) b)) := msetD6 (fz_gs (uGk σ (zNg σ) (nI kk)) (zNg σ) b) hD
            refine lv_aload_n hx hb dX5_gauge_72 rfl (lv_at hl 1 rfl) ?_
            refine va_get (D := (dC, dI)) (ci := 5) (v := .ref q.2.2.2.2.2.2.2.1) (C := RX5) (T := TX5) (N := 12) hx hb hts (fun w h => List.mem_cons_of_mem _ (List.mem_append_right _ h)) hown hK hP 0 rfl rfl 8 (by decide) (hts (.fieldLink RX5 32 "TideGaugesModel" "gaugeAt" "[I") (List.mem_of_getElem? (i := 8) rfl)) (fun _ h9 => h9) rfl dX5_gauge_73 ?_
            refine lv_iload_n hx hb dX5_gauge_76 rfl (lv_at hl 2 rfl) ?_
            refine lv_aload_n hx hb dX5_gauge_77 rfl (lv_at hl 1 rfl) ?_
            refine va_get (D := (dC, dI)) (ci := 5) (v := .int (nI (zNg σ))) (C := RX5) (T := TX5) (N := 12) hx hb hts (fun w h => List.mem_cons_of_mem _ (List.mem_append_right _ h)) hown hK hP 0 rfl rfl 5 (by decide) (hts (.fieldLink RX5 118 "TideGaugesModel" "gauges" "I") (List.mem_of_getElem? (i := 6) rfl)) (fun _ h9 => h9) rfl dX5_gauge_78 ?_
            refine x_iast hx hb hK hP hD hS 7 4 rfl rfl (k := kx) rfl (by have := hI.1; have := hI.2.1; omega) (by decide) dX5_gauge_81 (fun H locs hP hD hS => ?_)
            have hu_6 : zGa (uGa (uGs (uGk σ (zNg σ) (nI kk)) (zNg σ) b) kx (some (zNg σ))) kx = (some (zNg σ)) := va_up_self _ _ _
            have hP : va_P (dC, dI) vwCl (MWs q cJ cI cZ cD (uGa (uGs (uGk σ (zNg σ) (nI kk)) (zNg σ) b) kx (some (zNg σ)))) H := mset7 (fz_ga (uGs (uGk σ (zNg σ) (nI kk)) (zNg σ) b) kx (some (zNg σ))) hP
            have hD : va_D A (MWs q cJ cI cZ cD (uGa (uGs (uGk σ (zNg σ) (nI kk)) (zNg σ) b) kx (some (zNg σ)))) := msetD7 (fz_ga (uGs (uGk σ (zNg σ) (nI kk)) (zNg σ) b) kx (some (zNg σ))) hD
            refine lv_aload_n hx hb dX5_gauge_82 rfl (lv_at hl 1 rfl) ?_
            refine lv_dup hx hb dX5_gauge_83 rfl ?_
            refine va_get (D := (dC, dI)) (ci := 5) (v := .int (nI (zNg σ))) (C := RX5) (T := TX5) (N := 12) hx hb hts (fun w h => List.mem_cons_of_mem _ (List.mem_append_right _ h)) hown hK hP 0 rfl rfl 5 (by decide) (hts (.fieldLink RX5 118 "TideGaugesModel" "gauges" "I") (List.mem_of_getElem? (i := 6) rfl)) (fun _ h9 => h9) rfl dX5_gauge_84 ?_
            refine lv_iconst (v := 1) hx hb dX5_gauge_87 (by decide) ?_
            refine lv_iadd hx hb dX5_gauge_88 ?_
            rw [nI_1]
            refine va_put (D := (dC, dI)) (ci := 5) (v := .int (nI ((zNg σ) + 1))) (ty := .int) (C := RX5) (T := TX5) (N := 12) hx hb hts (fun w h => List.mem_cons_of_mem _ (List.mem_append_right _ h)) tyX5 tyX5_ok nmX5 hown hK hP hD hS 0 rfl rfl 5 (by decide) (hts (.fieldLink RX5 118 "TideGaugesModel" "gauges" "I") (List.mem_of_getElem? (i := 6) rfl)) (fun _ h9 => h9) rfl (by decide +kernel) rfl rfl (Nat.le_of_ble_eq_true rfl) dX5_gauge_89 (fun H locs hP hD hS => ?_)
            have hP : va_P (dC, dI) vwCl (MWs q cJ cI cZ cD (uNg (uGa (uGs (uGk σ (zNg σ) (nI kk)) (zNg σ) b) kx (some (zNg σ))) ((zNg σ) + 1))) H := hP
            have hD : va_D A (MWs q cJ cI cZ cD (uNg (uGa (uGs (uGk σ (zNg σ) (nI kk)) (zNg σ) b) kx (some (zNg σ))) ((zNg σ) + 1))) := hD
            refine lv_iconst (v := 1) hx hb dX5_gauge_92 (by decide) ?_
            exact W.iret hx hb hr (fun t ht hW => ⟨⟨_, (uNg (uGa (uGs (uGk σ (zNg σ) (nI kk)) (zNg σ) b) kx (some (zNg σ))) ((zNg σ) + 1)), rfl, (by unfold oGauge; (try simp only [if_pos c_1, if_pos c_2, if_pos c_3, if_neg c_4, if_neg c_5, nI_clamp (show kx < 2 ^ 31 by omega), nI_clamp (show kk < 2 ^ 31 by omega), hu_6, Option.getD_some, reduceCtorEq, if_true, if_false, Option.isNone_some, Option.isNone_none, Bool.false_or, Bool.true_or, Bool.not_true, Bool.not_false]); try rfl), by rw [ht]; exact hP, hD⟩, hS.F ht⟩) hS.2.2 dX5_gauge_93
          · refine lv_iconst (v := -1) hx hb dX5_gauge_49 (by decide) ?_
            exact W.iret hx hb hr (fun t ht hW => ⟨⟨_, σ, rfl, (by unfold oGauge; (try simp only [if_pos c_1, if_pos c_2, if_pos c_3, if_neg c_4, if_pos c_5, nI_clamp (show kx < 2 ^ 31 by omega), nI_clamp (show kk < 2 ^ 31 by omega), Option.getD_some, reduceCtorEq, if_true, if_false, Option.isNone_some, Option.isNone_none, Bool.false_or, Bool.true_or, Bool.not_true, Bool.not_false]); try rfl), by rw [ht]; exact hP, hD⟩, hS.F ht⟩) hS.2.2 dX5_gauge_50
      · refine lv_iconst (v := -1) hx hb dX5_gauge_26 (by decide) ?_
        exact W.iret hx hb hr (fun t ht hW => ⟨⟨_, σ, rfl, (by unfold oGauge; (try simp only [if_pos c_1, if_pos c_2, if_neg c_3, nI_clamp (show kx < 2 ^ 31 by omega), nI_clamp (show kk < 2 ^ 31 by omega), Option.getD_some, reduceCtorEq, if_true, if_false, Option.isNone_some, Option.isNone_none, Bool.false_or, Bool.true_or, Bool.not_true, Bool.not_false]); try rfl), by rw [ht]; exact hP, hD⟩, hS.F ht⟩) hS.2.2 dX5_gauge_27
set_option maxHeartbeats 8000000 in
set_option maxRecDepth 100000 in
theorem mX5_hang (l : Launch) (dC : Nat → ClassId) (dI : Nat → Nat → Nat) (q : Ad) (cJ cG cK cR cI cZ cD : ClassId) (sz : Nat) (σ : St) (N0 : Nat) (hI : Inv σ N0) (hN : N0 ≤ 512) (rr : Int32) (i : Int32) (x : Int32) : Met l yX5_hang wsX5_hang ({ frames := 1, cells := 0, slots := 0, locals := 22 }) (va_Pc [.ref q.1, .int rr, .int i, .int x] (fun U => U.heap.size = sz ∧ va_P (dC, dI) vwCl (MWs q cJ cI cZ cD σ) U.heap ∧ va_K (dC, dI) vwCl (tys0 cJ cG cK cR cI cZ cD) U ∧ va_D (fun _ => True) (MWs q cJ cI cZ cD σ))) (va_Qi (fun (r : Int32) (τ : St) => (r, τ) = oHang σ rr i x) (fun τ t => va_P (dC, dI) vwCl (MWs q cJ cI cZ cD τ) t.heap ∧ va_D (va_A (MWs q cJ cI cZ cD σ) sz) (MWs q cJ cI cZ cD τ)) (va_A (MWs q cJ cI cZ cD σ) sz)) 0 0 (va_A (MWs q cJ cI cZ cD σ) sz) := by
  refine Met.ofW (cc := cX5_hang) (maxL := 5) (ret := (some .int)) (by decide) rfl ?_
  intro p e s m args below meth c s₁ B hml hv
  obtain ⟨rfl, hsz, hP, hK, hD0⟩ := hv
  have hx := B.exec
  have hb := B.bytes
  have hr := B.returns
  have hts := atoms_spec (ws := wsX5_hang) B.pre
  have hown : s.vm.findClass RX5 = some m.cls := findClass_of_methodNamed B.named
  have hlocks := B.notSynchronized
  have hN1 := hI.1
  have hN2 := hI.2.1
  subst hsz
  have hD := hD0.self (sz := s.heap.size)
  generalize hAe : va_A (MWs q cJ cI cZ cD σ) s.heap.size = A at hD ⊢
  have hA : ∀ z : Nat, s.heap.size ≤ z → A z := fun z h => by rw [← hAe]; exact Or.inr h
  have hS : va_S A s.heap s.heap [] := va_S.rf
  have hl := lv_entry ([.ref q.1, .int rr, .int i, .int x]) (n := 5) (Nat.le_of_ble_eq_true rfl)
  rw [lg_entry_eq]
  generalize (lg_sl ([.ref q.1, .int rr, .int i, .int x]) ++ List.replicate (5 - (lg_sl ([.ref q.1, .int rr, .int i, .int x])).length) Slot.unset).toArray = ls at hl ⊢
  have hl : lv_has ls 5 [(0, .ref q.1), (1, .int rr), (2, .int i), (3, .int x)] := hl
  refine lv_iload_n hx hb dX5_hang_0 rfl (lv_at hl 1 rfl) ?_
  refine lv_iconst (v := 0) hx hb dX5_hang_1 (by decide) ?_
  refine lv_iconst (v := 2) hx hb dX5_hang_2 (by decide) ?_
  refine cs_0 (As := [.int rr, .int 0, .int (2 : Int32)]) (rest := []) ⟨hx, hb, hml, hown, hts⟩ (mX5_inN l rr (2 : Int32) 3 rfl (by decide)) (va_cwS 3 hts gX5_hang_X5_in rfl rfl rfl (by decide +kernel) ⟨Nat.le_of_ble_eq_true rfl, Nat.le_of_ble_eq_true rfl⟩) rfl rfl hl.1 (Nat.le_of_ble_eq_true rfl) dX5_hang_3 (Nat.zero_le _) (Nat.zero_le _) ?_
  refine w_beq (tgt := 18) hx hb dX5_hang_6 (by decide) (fun c_1 => ?_) (fun c_1 => ?_)
  · refine lv_iconst (v := -1) hx hb dX5_hang_18 (by decide) ?_
    exact W.iret hx hb hr (fun t ht hW => ⟨⟨_, σ, rfl, (by unfold oHang ofK; (try simp only [if_neg c_1, Option.getD_some, reduceCtorEq, if_true, if_false, Option.isNone_some, Option.isNone_none, Bool.false_or, Bool.true_or, Bool.not_true, Bool.not_false]); try rfl), by rw [ht]; exact hP, hD⟩, hS.F ht⟩) hS.2.2 dX5_hang_19
  · obtain ⟨krr, hkrr, rfl⟩ := ixb_some c_1 (by decide)
    refine lv_iload_n hx hb dX5_hang_9 rfl (lv_at hl 3 rfl) ?_
    refine lv_iconst (v := 0) hx hb dX5_hang_10 (by decide) ?_
    refine lv_iconst (v := 5) hx hb dX5_hang_11 (by decide) ?_
    refine cs_0 (As := [.int x, .int 0, .int (5 : Int32)]) (rest := []) ⟨hx, hb, hml, hown, hts⟩ (mX5_inN l x (5 : Int32) 6 rfl (by decide)) (va_cwS 3 hts gX5_hang_X5_in rfl rfl rfl (by decide +kernel) ⟨Nat.le_of_ble_eq_true rfl, Nat.le_of_ble_eq_true rfl⟩) rfl rfl hl.1 (Nat.le_of_ble_eq_true rfl) dX5_hang_12 (Nat.zero_le _) (Nat.zero_le _) ?_
    refine w_bne (tgt := 20) hx hb dX5_hang_15 (by decide) (fun c_2 => ?_) (fun c_2 => ?_)
    · obtain ⟨kx, hkx, rfl⟩ := ixb_some c_2 (by decide)
      refine lv_aload_n hx hb dX5_hang_20 rfl (lv_at hl 0 rfl) ?_
      refine va_get (D := (dC, dI)) (ci := 5) (v := .ref q.2.2.2.2.2.2.2.2.1) (C := RX5) (T := TX5) (N := 12) hx hb hts (fun w h => List.mem_cons_of_mem _ (List.mem_append_right _ h)) hown hK hP 0 rfl rfl 9 (by decide) (hts (.fieldLink RX5 35 "TideGaugesModel" "rackOf" "[I") (List.mem_of_getElem? (i := 1) rfl)) (fun _ h9 => h9) rfl dX5_hang_21 ?_
      refine lv_iload_n hx hb dX5_hang_24 rfl (lv_at hl 1 rfl) ?_
      rcases hp_3 : zRk σ krr with _ | a_4
      · refine x_iald hx hb hK hP 8 4 rfl rfl (k := krr) rfl (by have := hI.1; have := hI.2.1; omega) (by decide) (by show ek (zRk σ krr) = (-1 : Int32); rw [hp_3]; rfl) dX5_hang_25 ?_
        refine lv_if_ge (tgt := 34) hx hb dX5_hang_26 (by decide) (fun c_5 => ?_) (fun c_5 => ?_)
        · exact absurd c_5 (by decide)
        refine lv_iconst (v := 1) hx hb dX5_hang_29 (by decide) ?_
        refine cs_0 (As := [.int (1 : Int32)]) (rest := []) ⟨hx, hb, hml, hown, hts⟩ (mX5_fails l (1 : Int32)) (va_cwS 1 hts gX5_hang_X5_fails rfl rfl rfl (by decide +kernel) ⟨Nat.le_of_ble_eq_true rfl, Nat.le_of_ble_eq_true rfl⟩) rfl rfl hl.1 (Nat.le_of_ble_eq_true rfl) dX5_hang_30 (Nat.zero_le _) (Nat.zero_le _) ?_
        exact W.iret hx hb hr (fun t ht hW => ⟨⟨_, σ, rfl, (by unfold oHang ofK; (try simp only [if_pos c_1, if_pos c_2, nI_clamp (show krr < 2 ^ 31 by omega), nI_clamp (show kx < 2 ^ 31 by omega), hp_3, Option.getD_some, reduceCtorEq, if_true, if_false, Option.isNone_some, Option.isNone_none, Bool.false_or, Bool.true_or, Bool.not_true, Bool.not_false]); try rfl), by rw [ht]; exact hP, hD⟩, hS.F ht⟩) hS.2.2 dX5_hang_33
      · obtain ⟨na_4, hna_4, rfl⟩ := ixb_some (hI.2.2.2.2.2.2.2.1 _ _ hp_3) (by decide)
        refine x_iald hx hb hK hP 8 4 rfl rfl (k := krr) rfl (by have := hI.1; have := hI.2.1; omega) (by decide) (by show ek (zRk σ krr) = (nI na_4); rw [hp_3]; rfl) dX5_hang_25 ?_
        refine lv_if_ge (tgt := 34) hx hb dX5_hang_26 (by decide) (fun c_7 => ?_) (fun c_7 => ?_)
        rotate_left
        · exact absurd (nI_pos' (by omega)) c_7
        refine lv_iload_n hx hb dX5_hang_34 rfl (lv_at hl 2 rfl) ?_
        refine lv_iconst (v := 0) hx hb dX5_hang_35 (by decide) ?_
        refine lv_iconst (v := 3) hx hb dX5_hang_36 (by decide) ?_
        refine cs_0 (As := [.int i, .int 0, .int (3 : Int32)]) (rest := []) ⟨hx, hb, hml, hown, hts⟩ (mX5_inN l i (3 : Int32) 4 rfl (by decide)) (va_cwS 3 hts gX5_hang_X5_in rfl rfl rfl (by decide +kernel) ⟨Nat.le_of_ble_eq_true rfl, Nat.le_of_ble_eq_true rfl⟩) rfl rfl hl.1 (Nat.le_of_ble_eq_true rfl) dX5_hang_37 (Nat.zero_le _) (Nat.zero_le _) ?_
        refine w_bne (tgt := 48) hx hb dX5_hang_40 (by decide) (fun c_8 => ?_) (fun c_8 => ?_)
        · obtain ⟨ki, hki, rfl⟩ := ixb_some c_8 (by decide)
          refine lv_aload_n hx hb dX5_hang_48 rfl (lv_at hl 0 rfl) ?_
          refine va_get (D := (dC, dI)) (ci := 5) (v := .ref q.2.2.2.2.2.2.2.1) (C := RX5) (T := TX5) (N := 12) hx hb hts (fun w h => List.mem_cons_of_mem _ (List.mem_append_right _ h)) hown hK hP 0 rfl rfl 8 (by decide) (hts (.fieldLink RX5 32 "TideGaugesModel" "gaugeAt" "[I") (List.mem_of_getElem? (i := 2) rfl)) (fun _ h9 => h9) rfl dX5_hang_49 ?_
          refine lv_iload_n hx hb dX5_hang_52 rfl (lv_at hl 3 rfl) ?_
          rcases hp_9 : zGa σ kx with _ | a_10
          · refine x_iald hx hb hK hP 7 4 rfl rfl (k := kx) rfl (by have := hI.1; have := hI.2.1; omega) (by decide) (by show eo (zGa σ kx) = (-1 : Int32); rw [hp_9]; rfl) dX5_hang_53 ?_
            refine lv_istore (lv' := [(4, .int (-1 : Int32)), (0, .ref q.1), (1, .int (nI krr)), (2, .int (nI ki)), (3, .int (nI kx))]) hx hb dX5_hang_54 hl (by decide) rfl (fun ls hl => ?_)
            refine lv_iload hx hb dX5_hang_56 (lv_at hl 0 rfl) ?_
            refine lv_if_lt (tgt := 85) hx hb dX5_hang_58 (by decide) (fun c_11 => ?_) (fun c_11 => ?_)
            rotate_left
            · exact absurd c_11 (by decide)
            refine lv_aload_n hx hb dX5_hang_85 rfl (lv_at hl 1 rfl) ?_
            refine va_get (D := (dC, dI)) (ci := 5) (v := .ref q.2.2.2.2.2.2.2.2.2) (C := RX5) (T := TX5) (N := 12) hx hb hts (fun w h => List.mem_cons_of_mem _ (List.mem_append_right _ h)) hown hK hP 0 rfl rfl 10 (by decide) (hts (.fieldLink RX5 38 "TideGaugesModel" "hooks" "[I") (List.mem_of_getElem? (i := 4) rfl)) (fun _ h9 => h9) rfl dX5_hang_86 ?_
            refine lv_iconst (v := 4) hx hb dX5_hang_89 (by decide) ?_
            refine lv_iload_n hx hb dX5_hang_90 rfl (lv_at hl 2 rfl) ?_
            refine lv_imul hx hb dX5_hang_91 ?_
            refine lv_iload_n hx hb dX5_hang_92 rfl (lv_at hl 3 rfl) ?_
            refine lv_iadd hx hb dX5_hang_93 ?_
            refine lv_iload hx hb dX5_hang_94 (lv_at hl 0 rfl) ?_
            refine x_iast hx hb hK hP hD hS 9 4 rfl rfl (k := (4 * krr + ki)) ix_mul4 (by have := hI.1; have := hI.2.1; omega) (by decide) dX5_hang_96 (fun H locs hP hD hS => ?_)
            have hP : va_P (dC, dI) vwCl (MWs q cJ cI cZ cD (uHk σ krr ki none)) H := mset9 (fz_hk σ krr ki none (by omega)) hP
            have hD : va_D A (MWs q cJ cI cZ cD (uHk σ krr ki none)) := msetD9 (fz_hk σ krr ki none (by omega)) hD
            refine lv_iconst (v := 1) hx hb dX5_hang_97 (by decide) ?_
            exact W.iret hx hb hr (fun t ht hW => ⟨⟨_, (uHk σ krr ki none), rfl, (by unfold oHang ofK; (try simp only [if_pos c_1, if_pos c_2, if_pos c_8, nI_clamp (show krr < 2 ^ 31 by omega), nI_clamp (show kx < 2 ^ 31 by omega), nI_clamp (show ki < 2 ^ 31 by omega), hp_3, hp_9, Option.getD_some, reduceCtorEq, if_true, if_false, Option.isNone_some, Option.isNone_none, Bool.false_or, Bool.true_or, Bool.not_true, Bool.not_false]); try rfl), by rw [ht]; exact hP, hD⟩, hS.F ht⟩) hS.2.2 dX5_hang_98
          · have hb_12 := hI.2.2.2.2.2.2.1 _ _ hp_9
            refine x_iald hx hb hK hP 7 4 rfl rfl (k := kx) rfl (by have := hI.1; have := hI.2.1; omega) (by decide) (by show eo (zGa σ kx) = nI a_10; rw [hp_9]; rfl) dX5_hang_53 ?_
            refine lv_istore (lv' := [(4, .int (nI a_10)), (0, .ref q.1), (1, .int (nI krr)), (2, .int (nI ki)), (3, .int (nI kx))]) hx hb dX5_hang_54 hl (by decide) rfl (fun ls hl => ?_)
            refine lv_iload hx hb dX5_hang_56 (lv_at hl 0 rfl) ?_
            refine lv_if_lt (tgt := 85) hx hb dX5_hang_58 (by decide) (fun c_13 => ?_) (fun c_13 => ?_)
            · exact absurd c_13 (nI_pos (by omega))
            refine lv_aload_n hx hb dX5_hang_61 rfl (lv_at hl 1 rfl) ?_
            refine va_get (D := (dC, dI)) (ci := 5) (v := .ref q.2.2.2.2.2.1) (C := RX5) (T := TX5) (N := 12) hx hb hts (fun w h => List.mem_cons_of_mem _ (List.mem_append_right _ h)) hown hK hP 0 rfl rfl 6 (by decide) (hts (.fieldLink RX5 25 "TideGaugesModel" "kinds" "[I") (List.mem_of_getElem? (i := 3) rfl)) (fun _ h9 => h9) rfl dX5_hang_62 ?_
            refine lv_iload hx hb dX5_hang_65 (lv_at hl 0 rfl) ?_
            refine x_iald hx hb hK hP 5 4 rfl rfl (k := a_10) rfl (by have := hI.1; have := hI.2.1; omega) (by decide) rfl dX5_hang_67 ?_
            refine lv_aload_n hx hb dX5_hang_68 rfl (lv_at hl 1 rfl) ?_
            refine va_get (D := (dC, dI)) (ci := 5) (v := .ref q.2.2.2.2.2.2.2.2.1) (C := RX5) (T := TX5) (N := 12) hx hb hts (fun w h => List.mem_cons_of_mem _ (List.mem_append_right _ h)) hown hK hP 0 rfl rfl 9 (by decide) (hts (.fieldLink RX5 35 "TideGaugesModel" "rackOf" "[I") (List.mem_of_getElem? (i := 1) rfl)) (fun _ h9 => h9) rfl dX5_hang_69 ?_
            refine lv_iload_n hx hb dX5_hang_72 rfl (lv_at hl 2 rfl) ?_
            refine x_iald hx hb hK hP 8 4 rfl rfl (k := krr) rfl (by have := hI.1; have := hI.2.1; omega) (by decide) (by show ek (zRk σ krr) = (nI na_4); rw [hp_3]; rfl) dX5_hang_73 ?_
            refine cs_0 (As := [.int (zGk σ a_10), .int (nI na_4)]) (rest := []) ⟨hx, hb, hml, hown, hts⟩ (mX5_fits l (zGk σ a_10) (nI na_4)) (va_cwS 2 hts gX5_hang_X5_fits rfl rfl rfl (by decide +kernel) ⟨Nat.le_of_ble_eq_true rfl, Nat.le_of_ble_eq_true rfl⟩) rfl rfl hl.1 (Nat.le_of_ble_eq_true rfl) dX5_hang_74 (Nat.zero_le _) (Nat.zero_le _) ?_
            refine w_bne (tgt := 85) hx hb dX5_hang_77 (by decide) (fun c_14 => ?_) (fun c_14 => ?_)
            · refine lv_aload_n hx hb dX5_hang_85 rfl (lv_at hl 1 rfl) ?_
              refine va_get (D := (dC, dI)) (ci := 5) (v := .ref q.2.2.2.2.2.2.2.2.2) (C := RX5) (T := TX5) (N := 12) hx hb hts (fun w h => List.mem_cons_of_mem _ (List.mem_append_right _ h)) hown hK hP 0 rfl rfl 10 (by decide) (hts (.fieldLink RX5 38 "TideGaugesModel" "hooks" "[I") (List.mem_of_getElem? (i := 4) rfl)) (fun _ h9 => h9) rfl dX5_hang_86 ?_
              refine lv_iconst (v := 4) hx hb dX5_hang_89 (by decide) ?_
              refine lv_iload_n hx hb dX5_hang_90 rfl (lv_at hl 2 rfl) ?_
              refine lv_imul hx hb dX5_hang_91 ?_
              refine lv_iload_n hx hb dX5_hang_92 rfl (lv_at hl 3 rfl) ?_
              refine lv_iadd hx hb dX5_hang_93 ?_
              refine lv_iload hx hb dX5_hang_94 (lv_at hl 0 rfl) ?_
              refine x_iast hx hb hK hP hD hS 9 4 rfl rfl (k := (4 * krr + ki)) ix_mul4 (by have := hI.1; have := hI.2.1; omega) (by decide) dX5_hang_96 (fun H locs hP hD hS => ?_)
              have hP : va_P (dC, dI) vwCl (MWs q cJ cI cZ cD (uHk σ krr ki (some a_10))) H := mset9 (fz_hk σ krr ki (some a_10) (by omega)) hP
              have hD : va_D A (MWs q cJ cI cZ cD (uHk σ krr ki (some a_10))) := msetD9 (fz_hk σ krr ki (some a_10) (by omega)) hD
              refine lv_iconst (v := 1) hx hb dX5_hang_97 (by decide) ?_
              exact W.iret hx hb hr (fun t ht hW => ⟨⟨_, (uHk σ krr ki (some a_10)), rfl, (by unfold oHang ofK; (try simp only [if_pos c_1, if_pos c_2, if_pos c_8, if_pos c_14, nI_clamp (show krr < 2 ^ 31 by omega), nI_clamp (show kx < 2 ^ 31 by omega), nI_clamp (show ki < 2 ^ 31 by omega), hp_3, hp_9, Option.getD_some, reduceCtorEq, if_true, if_false, Option.isNone_some, Option.isNone_none, Bool.false_or, Bool.true_or, Bool.not_true, Bool.not_false]); try rfl), by rw [ht]; exact hP, hD⟩, hS.F ht⟩) hS.2.2 dX5_hang_98
            · refine lv_iconst (v := 5) hx hb dX5_hang_80 (by decide) ?_
              refine cs_0 (As := [.int (5 : Int32)]) (rest := []) ⟨hx, hb, hml, hown, hts⟩ (mX5_fails l (5 : Int32)) (va_cwS 1 hts gX5_hang_X5_fails rfl rfl rfl (by decide +kernel) ⟨Nat.le_of_ble_eq_true rfl, Nat.le_of_ble_eq_true rfl⟩) rfl rfl hl.1 (Nat.le_of_ble_eq_true rfl) dX5_hang_81 (Nat.zero_le _) (Nat.zero_le _) ?_
              exact W.iret hx hb hr (fun t ht hW => ⟨⟨_, σ, rfl, (by unfold oHang ofK; (try simp only [if_pos c_1, if_pos c_2, if_pos c_8, if_neg c_14, nI_clamp (show krr < 2 ^ 31 by omega), nI_clamp (show kx < 2 ^ 31 by omega), nI_clamp (show ki < 2 ^ 31 by omega), hp_3, hp_9, Option.getD_some, reduceCtorEq, if_true, if_false, Option.isNone_some, Option.isNone_none, Bool.false_or, Bool.true_or, Bool.not_true, Bool.not_false]); try rfl), by rw [ht]; exact hP, hD⟩, hS.F ht⟩) hS.2.2 dX5_hang_84
        · refine lv_iconst (v := 2) hx hb dX5_hang_43 (by decide) ?_
          refine cs_0 (As := [.int (2 : Int32)]) (rest := []) ⟨hx, hb, hml, hown, hts⟩ (mX5_fails l (2 : Int32)) (va_cwS 1 hts gX5_hang_X5_fails rfl rfl rfl (by decide +kernel) ⟨Nat.le_of_ble_eq_true rfl, Nat.le_of_ble_eq_true rfl⟩) rfl rfl hl.1 (Nat.le_of_ble_eq_true rfl) dX5_hang_44 (Nat.zero_le _) (Nat.zero_le _) ?_
          exact W.iret hx hb hr (fun t ht hW => ⟨⟨_, σ, rfl, (by unfold oHang ofK; (try simp only [if_pos c_1, if_pos c_2, if_neg c_8, nI_clamp (show krr < 2 ^ 31 by omega), nI_clamp (show kx < 2 ^ 31 by omega), hp_3, Option.getD_some, reduceCtorEq, if_true, if_false, Option.isNone_some, Option.isNone_none, Bool.false_or, Bool.true_or, Bool.not_true, Bool.not_false]); try rfl), by rw [ht]; exact hP, hD⟩, hS.F ht⟩) hS.2.2 dX5_hang_47
    · refine lv_iconst (v := -1) hx hb dX5_hang_18 (by decide) ?_
      exact W.iret hx hb hr (fun t ht hW => ⟨⟨_, σ, rfl, (by unfold oHang ofK; (try simp only [if_pos c_1, if_neg c_2, nI_clamp (show krr < 2 ^ 31 by omega), Option.getD_some, reduceCtorEq, if_true, if_false, Option.isNone_some, Option.isNone_none, Bool.false_or, Bool.true_or, Bool.not_true, Bool.not_false]); try rfl), by rw [ht]; exact hP, hD⟩, hS.F ht⟩) hS.2.2 dX5_hang_19
set_option maxHeartbeats 8000000 in
set_option maxRecDepth 100000 in
theorem mX5_take (l : Launch) (dC : Nat → ClassId) (dI : Nat → Nat → Nat) (q : Ad) (cJ cG cK cR cI cZ cD : ClassId) (sz : Nat) (σ : St) (N0 : Nat) (hI : Inv σ N0) (hN : N0 ≤ 512) (rr : Int32) (i : Int32) (k : Int32) (x : Int32) : Met l yX5_take wsX5_take ({ frames := 1, cells := 0, slots := 0, locals := 22 }) (va_Pc [.ref q.1, .int rr, .int i, .int k, .int x] (fun U => U.heap.size = sz ∧ va_P (dC, dI) vwCl (MWs q cJ cI cZ cD σ) U.heap ∧ va_K (dC, dI) vwCl (tys0 cJ cG cK cR cI cZ cD) U ∧ va_D (fun _ => True) (MWs q cJ cI cZ cD σ))) (va_Qi (fun (r : Int32) (τ : St) => (r, τ) = oTake σ rr i k x) (fun τ t => va_P (dC, dI) vwCl (MWs q cJ cI cZ cD τ) t.heap ∧ va_D (va_A (MWs q cJ cI cZ cD σ) sz) (MWs q cJ cI cZ cD τ)) (va_A (MWs q cJ cI cZ cD σ) sz)) 0 0 (va_A (MWs q cJ cI cZ cD σ) sz) := by
  refine Met.ofW (cc := cX5_take) (maxL := 6) (ret := (some .int)) (by decide) rfl ?_
  intro p e s m args below meth c s₁ B hml hv
  obtain ⟨rfl, hsz, hP, hK, hD0⟩ := hv
  have hx := B.exec
  have hb := B.bytes
  have hr := B.returns
  have hts := atoms_spec (ws := wsX5_take) B.pre
  have hown : s.vm.findClass RX5 = some m.cls := findClass_of_methodNamed B.named
  have hlocks := B.notSynchronized
  have hN1 := hI.1
  have hN2 := hI.2.1
  subst hsz
  have hD := hD0.self (sz := s.heap.size)
  generalize hAe : va_A (MWs q cJ cI cZ cD σ) s.heap.size = A at hD ⊢
  have hA : ∀ z : Nat, s.heap.size ≤ z → A z := fun z h => by rw [← hAe]; exact Or.inr h
  have hS : va_S A s.heap s.heap [] := va_S.rf
  have hl := lv_entry ([.ref q.1, .int rr, .int i, .int k, .int x]) (n := 6) (Nat.le_of_ble_eq_true rfl)
  rw [lg_entry_eq]
  generalize (lg_sl ([.ref q.1, .int rr, .int i, .int k, .int x]) ++ List.replicate (6 - (lg_sl ([.ref q.1, .int rr, .int i, .int k, .int x])).length) Slot.unset).toArray = ls at hl ⊢
  have hl : lv_has ls 6 [(0, .ref q.1), (1, .int rr), (2, .int i), (3, .int k), (4, .int x)] := hl
  refine lv_iload_n hx hb dX5_take_0 rfl (lv_at hl 1 rfl) ?_
  refine lv_iconst (v := 0) hx hb dX5_take_1 (by decide) ?_
  refine lv_iconst (v := 2) hx hb dX5_take_2 (by decide) ?_
  refine cs_0 (As := [.int rr, .int 0, .int (2 : Int32)]) (rest := []) ⟨hx, hb, hml, hown, hts⟩ (mX5_inN l rr (2 : Int32) 3 rfl (by decide)) (va_cwS 3 hts gX5_take_X5_in rfl rfl rfl (by decide +kernel) ⟨Nat.le_of_ble_eq_true rfl, Nat.le_of_ble_eq_true rfl⟩) rfl rfl hl.1 (Nat.le_of_ble_eq_true rfl) dX5_take_3 (Nat.zero_le _) (Nat.zero_le _) ?_
  refine w_beq (tgt := 28) hx hb dX5_take_6 (by decide) (fun c_1 => ?_) (fun c_1 => ?_)
  · refine lv_iconst (v := -1) hx hb dX5_take_28 (by decide) ?_
    exact W.iret hx hb hr (fun t ht hW => ⟨⟨_, σ, rfl, (by unfold oTake ofK; (try simp only [if_neg c_1, Option.getD_some, reduceCtorEq, if_true, if_false, Option.isNone_some, Option.isNone_none, Bool.false_or, Bool.true_or, Bool.not_true, Bool.not_false]); try rfl), by rw [ht]; exact hP, hD⟩, hS.F ht⟩) hS.2.2 dX5_take_29
  · obtain ⟨krr, hkrr, rfl⟩ := ixb_some c_1 (by decide)
    refine lv_iload_n hx hb dX5_take_9 rfl (lv_at hl 3 rfl) ?_
    refine lv_iconst (v := 0) hx hb dX5_take_10 (by decide) ?_
    refine lv_iconst (v := 2) hx hb dX5_take_11 (by decide) ?_
    refine cs_0 (As := [.int k, .int 0, .int (2 : Int32)]) (rest := []) ⟨hx, hb, hml, hown, hts⟩ (mX5_inN l k (2 : Int32) 3 rfl (by decide)) (va_cwS 3 hts gX5_take_X5_in rfl rfl rfl (by decide +kernel) ⟨Nat.le_of_ble_eq_true rfl, Nat.le_of_ble_eq_true rfl⟩) rfl rfl hl.1 (Nat.le_of_ble_eq_true rfl) dX5_take_12 (Nat.zero_le _) (Nat.zero_le _) ?_
    refine w_beq (tgt := 28) hx hb dX5_take_15 (by decide) (fun c_2 => ?_) (fun c_2 => ?_)
    · refine lv_iconst (v := -1) hx hb dX5_take_28 (by decide) ?_
      exact W.iret hx hb hr (fun t ht hW => ⟨⟨_, σ, rfl, (by unfold oTake ofK; (try simp only [if_pos c_1, if_neg c_2, nI_clamp (show krr < 2 ^ 31 by omega), Option.getD_some, reduceCtorEq, if_true, if_false, Option.isNone_some, Option.isNone_none, Bool.false_or, Bool.true_or, Bool.not_true, Bool.not_false]); try rfl), by rw [ht]; exact hP, hD⟩, hS.F ht⟩) hS.2.2 dX5_take_29
    · obtain ⟨kk, hkk, rfl⟩ := ixb_some c_2 (by decide)
      refine lv_iload hx hb dX5_take_18 (lv_at hl 4 rfl) ?_
      refine lv_iconst (v := 0) hx hb dX5_take_20 (by decide) ?_
      refine lv_iconst (v := 5) hx hb dX5_take_21 (by decide) ?_
      refine cs_0 (As := [.int x, .int 0, .int (5 : Int32)]) (rest := []) ⟨hx, hb, hml, hown, hts⟩ (mX5_inN l x (5 : Int32) 6 rfl (by decide)) (va_cwS 3 hts gX5_take_X5_in rfl rfl rfl (by decide +kernel) ⟨Nat.le_of_ble_eq_true rfl, Nat.le_of_ble_eq_true rfl⟩) rfl rfl hl.1 (Nat.le_of_ble_eq_true rfl) dX5_take_22 (Nat.zero_le _) (Nat.zero_le _) ?_
      refine w_bne (tgt := 30) hx hb dX5_take_25 (by decide) (fun c_3 => ?_) (fun c_3 => ?_)
      · obtain ⟨kx, hkx, rfl⟩ := ixb_some c_3 (by decide)
        refine lv_aload_n hx hb dX5_take_30 rfl (lv_at hl 0 rfl) ?_
        refine va_get (D := (dC, dI)) (ci := 5) (v := .ref q.2.2.2.2.2.2.2.2.1) (C := RX5) (T := TX5) (N := 12) hx hb hts (fun w h => List.mem_cons_of_mem _ (List.mem_append_right _ h)) hown hK hP 0 rfl rfl 9 (by decide) (hts (.fieldLink RX5 35 "TideGaugesModel" "rackOf" "[I") (List.mem_of_getElem? (i := 1) rfl)) (fun _ h9 => h9) rfl dX5_take_31 ?_
        refine lv_iload_n hx hb dX5_take_34 rfl (lv_at hl 1 rfl) ?_
        rcases hp_4 : zRk σ krr with _ | a_5
        · refine x_iald hx hb hK hP 8 4 rfl rfl (k := krr) rfl (by have := hI.1; have := hI.2.1; omega) (by decide) (by show ek (zRk σ krr) = (-1 : Int32); rw [hp_4]; rfl) dX5_take_35 ?_
          refine lv_if_ge (tgt := 44) hx hb dX5_take_36 (by decide) (fun c_6 => ?_) (fun c_6 => ?_)
          · exact absurd c_6 (by decide)
          refine lv_iconst (v := 1) hx hb dX5_take_39 (by decide) ?_
          refine cs_0 (As := [.int (1 : Int32)]) (rest := []) ⟨hx, hb, hml, hown, hts⟩ (mX5_fails l (1 : Int32)) (va_cwS 1 hts gX5_take_X5_fails rfl rfl rfl (by decide +kernel) ⟨Nat.le_of_ble_eq_true rfl, Nat.le_of_ble_eq_true rfl⟩) rfl rfl hl.1 (Nat.le_of_ble_eq_true rfl) dX5_take_40 (Nat.zero_le _) (Nat.zero_le _) ?_
          exact W.iret hx hb hr (fun t ht hW => ⟨⟨_, σ, rfl, (by unfold oTake ofK; (try simp only [if_pos c_1, if_pos c_2, if_pos c_3, nI_clamp (show krr < 2 ^ 31 by omega), nI_clamp (show kk < 2 ^ 31 by omega), nI_clamp (show kx < 2 ^ 31 by omega), hp_4, Option.getD_some, reduceCtorEq, if_true, if_false, Option.isNone_some, Option.isNone_none, Bool.false_or, Bool.true_or, Bool.not_true, Bool.not_false]); try rfl), by rw [ht]; exact hP, hD⟩, hS.F ht⟩) hS.2.2 dX5_take_43
        · obtain ⟨na_5, hna_5, rfl⟩ := ixb_some (hI.2.2.2.2.2.2.2.1 _ _ hp_4) (by decide)
          refine x_iald hx hb hK hP 8 4 rfl rfl (k := krr) rfl (by have := hI.1; have := hI.2.1; omega) (by decide) (by show ek (zRk σ krr) = (nI na_5); rw [hp_4]; rfl) dX5_take_35 ?_
          refine lv_if_ge (tgt := 44) hx hb dX5_take_36 (by decide) (fun c_8 => ?_) (fun c_8 => ?_)
          rotate_left
          · exact absurd (nI_pos' (by omega)) c_8
          refine lv_iload_n hx hb dX5_take_44 rfl (lv_at hl 2 rfl) ?_
          refine lv_iconst (v := 0) hx hb dX5_take_45 (by decide) ?_
          refine lv_iconst (v := 3) hx hb dX5_take_46 (by decide) ?_
          refine cs_0 (As := [.int i, .int 0, .int (3 : Int32)]) (rest := []) ⟨hx, hb, hml, hown, hts⟩ (mX5_inN l i (3 : Int32) 4 rfl (by decide)) (va_cwS 3 hts gX5_take_X5_in rfl rfl rfl (by decide +kernel) ⟨Nat.le_of_ble_eq_true rfl, Nat.le_of_ble_eq_true rfl⟩) rfl rfl hl.1 (Nat.le_of_ble_eq_true rfl) dX5_take_47 (Nat.zero_le _) (Nat.zero_le _) ?_
          refine w_bne (tgt := 58) hx hb dX5_take_50 (by decide) (fun c_9 => ?_) (fun c_9 => ?_)
          · obtain ⟨ki, hki, rfl⟩ := ixb_some c_9 (by decide)
            refine lv_aload_n hx hb dX5_take_58 rfl (lv_at hl 0 rfl) ?_
            refine va_get (D := (dC, dI)) (ci := 5) (v := .ref q.2.2.2.2.2.2.2.2.2) (C := RX5) (T := TX5) (N := 12) hx hb hts (fun w h => List.mem_cons_of_mem _ (List.mem_append_right _ h)) hown hK hP 0 rfl rfl 10 (by decide) (hts (.fieldLink RX5 38 "TideGaugesModel" "hooks" "[I") (List.mem_of_getElem? (i := 2) rfl)) (fun _ h9 => h9) rfl dX5_take_59 ?_
            refine lv_iconst (v := 4) hx hb dX5_take_62 (by decide) ?_
            refine lv_iload_n hx hb dX5_take_63 rfl (lv_at hl 1 rfl) ?_
            refine lv_imul hx hb dX5_take_64 ?_
            refine lv_iload_n hx hb dX5_take_65 rfl (lv_at hl 2 rfl) ?_
            refine lv_iadd hx hb dX5_take_66 ?_
            rcases hp_10 : zHk σ krr ki with _ | a_11
            · refine x_iald hx hb hK hP 9 4 rfl rfl (k := (4 * krr + ki)) ix_mul4 (by have := hI.1; have := hI.2.1; omega) (by decide) (by show eo (zHk σ ((4 * krr + ki) / 4) ((4 * krr + ki) % 4)) = (-1 : Int32); rw [hk_at σ (by omega), hp_10]; rfl) dX5_take_67 ?_
              refine lv_istore (lv' := [(5, .int (-1 : Int32)), (0, .ref q.1), (1, .int (nI krr)), (2, .int (nI ki)), (3, .int (nI kk)), (4, .int (nI kx))]) hx hb dX5_take_68 hl (by decide) rfl (fun ls hl => ?_)
              refine lv_iload hx hb dX5_take_70 (lv_at hl 0 rfl) ?_
              refine lv_if_lt (tgt := 94) hx hb dX5_take_72 (by decide) (fun c_12 => ?_) (fun c_12 => ?_)
              rotate_left
              · exact absurd c_12 (by decide)
              refine lv_aload_n hx hb dX5_take_94 rfl (lv_at hl 1 rfl) ?_
              refine va_get (D := (dC, dI)) (ci := 5) (v := .ref q.2.2.2.2.2.2.2.1) (C := RX5) (T := TX5) (N := 12) hx hb hts (fun w h => List.mem_cons_of_mem _ (List.mem_append_right _ h)) hown hK hP 0 rfl rfl 8 (by decide) (hts (.fieldLink RX5 32 "TideGaugesModel" "gaugeAt" "[I") (List.mem_of_getElem? (i := 4) rfl)) (fun _ h9 => h9) rfl dX5_take_95 ?_
              refine lv_iload hx hb dX5_take_98 (lv_at hl 5 rfl) ?_
              refine lv_iload hx hb dX5_take_100 (lv_at hl 0 rfl) ?_
              refine x_iast hx hb hK hP hD hS 7 4 rfl rfl (k := kx) rfl (by have := hI.1; have := hI.2.1; omega) (by decide) dX5_take_102 (fun H locs hP hD hS => ?_)
              have hu_13 : zGa (uGa σ kx none) kx = none := va_up_self _ _ _
              have hP : va_P (dC, dI) vwCl (MWs q cJ cI cZ cD (uGa σ kx none)) H := mset7 (fz_ga σ kx none) hP
              have hD : va_D A (MWs q cJ cI cZ cD (uGa σ kx none)) := msetD7 (fz_ga σ kx none) hD
              refine lv_iload hx hb dX5_take_103 (lv_at hl 0 rfl) ?_
              refine lv_if_ge (tgt := 112) hx hb dX5_take_105 (by decide) (fun c_14 => ?_) (fun c_14 => ?_)
              · exact absurd c_14 (by decide)
              refine lv_iconst (v := 0) hx hb dX5_take_108 (by decide) ?_
              refine lv_goto (tgt := 113) hx hb dX5_take_109 (by decide) ?_
              exact W.iret hx hb hr (fun t ht hW => ⟨⟨_, (uGa σ kx none), rfl, (by unfold oTake ofK; (try simp only [if_pos c_1, if_pos c_2, if_pos c_3, if_pos c_9, nI_clamp (show krr < 2 ^ 31 by omega), nI_clamp (show kk < 2 ^ 31 by omega), nI_clamp (show kx < 2 ^ 31 by omega), nI_clamp (show ki < 2 ^ 31 by omega), hp_4, hp_10, hu_13, Option.getD_some, reduceCtorEq, if_true, if_false, Option.isNone_some, Option.isNone_none, Bool.false_or, Bool.true_or, Bool.not_true, Bool.not_false]); try rfl), by rw [ht]; exact hP, hD⟩, hS.F ht⟩) hS.2.2 dX5_take_113
            · have hb_15 := hI.2.2.2.2.2.2.2.2 _ _ _ hp_10
              refine x_iald hx hb hK hP 9 4 rfl rfl (k := (4 * krr + ki)) ix_mul4 (by have := hI.1; have := hI.2.1; omega) (by decide) (by show eo (zHk σ ((4 * krr + ki) / 4) ((4 * krr + ki) % 4)) = nI a_11; rw [hk_at σ (by omega), hp_10]; rfl) dX5_take_67 ?_
              refine lv_istore (lv' := [(5, .int (nI a_11)), (0, .ref q.1), (1, .int (nI krr)), (2, .int (nI ki)), (3, .int (nI kk)), (4, .int (nI kx))]) hx hb dX5_take_68 hl (by decide) rfl (fun ls hl => ?_)
              refine lv_iload hx hb dX5_take_70 (lv_at hl 0 rfl) ?_
              refine lv_if_lt (tgt := 94) hx hb dX5_take_72 (by decide) (fun c_16 => ?_) (fun c_16 => ?_)
              · exact absurd c_16 (nI_pos (by omega))
              refine lv_aload_n hx hb dX5_take_75 rfl (lv_at hl 1 rfl) ?_
              refine va_get (D := (dC, dI)) (ci := 5) (v := .ref q.2.2.2.2.2.1) (C := RX5) (T := TX5) (N := 12) hx hb hts (fun w h => List.mem_cons_of_mem _ (List.mem_append_right _ h)) hown hK hP 0 rfl rfl 6 (by decide) (hts (.fieldLink RX5 25 "TideGaugesModel" "kinds" "[I") (List.mem_of_getElem? (i := 3) rfl)) (fun _ h9 => h9) rfl dX5_take_76 ?_
              refine lv_iload hx hb dX5_take_79 (lv_at hl 0 rfl) ?_
              refine x_iald hx hb hK hP 5 4 rfl rfl (k := a_11) rfl (by have := hI.1; have := hI.2.1; omega) (by decide) rfl dX5_take_81 ?_
              refine lv_iload_n hx hb dX5_take_82 rfl (lv_at hl 4 rfl) ?_
              refine cs_0 (As := [.int (zGk σ a_11), .int (nI kk)]) (rest := []) ⟨hx, hb, hml, hown, hts⟩ (mX5_fits l (zGk σ a_11) (nI kk)) (va_cwS 2 hts gX5_take_X5_fits rfl rfl rfl (by decide +kernel) ⟨Nat.le_of_ble_eq_true rfl, Nat.le_of_ble_eq_true rfl⟩) rfl rfl hl.1 (Nat.le_of_ble_eq_true rfl) dX5_take_83 (Nat.zero_le _) (Nat.zero_le _) ?_
              refine w_bne (tgt := 94) hx hb dX5_take_86 (by decide) (fun c_17 => ?_) (fun c_17 => ?_)
              · refine lv_aload_n hx hb dX5_take_94 rfl (lv_at hl 1 rfl) ?_
                refine va_get (D := (dC, dI)) (ci := 5) (v := .ref q.2.2.2.2.2.2.2.1) (C := RX5) (T := TX5) (N := 12) hx hb hts (fun w h => List.mem_cons_of_mem _ (List.mem_append_right _ h)) hown hK hP 0 rfl rfl 8 (by decide) (hts (.fieldLink RX5 32 "TideGaugesModel" "gaugeAt" "[I") (List.mem_of_getElem? (i := 4) rfl)) (fun _ h9 => h9) rfl dX5_take_95 ?_
                refine lv_iload hx hb dX5_take_98 (lv_at hl 5 rfl) ?_
                refine lv_iload hx hb dX5_take_100 (lv_at hl 0 rfl) ?_
                refine x_iast hx hb hK hP hD hS 7 4 rfl rfl (k := kx) rfl (by have := hI.1; have := hI.2.1; omega) (by decide) dX5_take_102 (fun H locs hP hD hS => ?_)
                have hu_18 : zGa (uGa σ kx (some a_11)) kx = (some a_11) := va_up_self _ _ _
                have hP : va_P (dC, dI) vwCl (MWs q cJ cI cZ cD (uGa σ kx (some a_11))) H := mset7 (fz_ga σ kx (some a_11)) hP
                have hD : va_D A (MWs q cJ cI cZ cD (uGa σ kx (some a_11))) := msetD7 (fz_ga σ kx (some a_11)) hD
                refine lv_iload hx hb dX5_take_103 (lv_at hl 0 rfl) ?_
                refine lv_if_ge (tgt := 112) hx hb dX5_take_105 (by decide) (fun c_19 => ?_) (fun c_19 => ?_)
                rotate_left
                · exact absurd (nI_pos' (by omega)) c_19
                refine lv_iconst (v := 1) hx hb dX5_take_112 (by decide) ?_
                exact W.iret hx hb hr (fun t ht hW => ⟨⟨_, (uGa σ kx (some a_11)), rfl, (by unfold oTake ofK; (try simp only [if_pos c_1, if_pos c_2, if_pos c_3, if_pos c_9, if_pos c_17, nI_clamp (show krr < 2 ^ 31 by omega), nI_clamp (show kk < 2 ^ 31 by omega), nI_clamp (show kx < 2 ^ 31 by omega), nI_clamp (show ki < 2 ^ 31 by omega), hp_4, hp_10, hu_18, Option.getD_some, reduceCtorEq, if_true, if_false, Option.isNone_some, Option.isNone_none, Bool.false_or, Bool.true_or, Bool.not_true, Bool.not_false]); try rfl), by rw [ht]; exact hP, hD⟩, hS.F ht⟩) hS.2.2 dX5_take_113
              · refine lv_iconst (v := 3) hx hb dX5_take_89 (by decide) ?_
                refine cs_0 (As := [.int (3 : Int32)]) (rest := []) ⟨hx, hb, hml, hown, hts⟩ (mX5_fails l (3 : Int32)) (va_cwS 1 hts gX5_take_X5_fails rfl rfl rfl (by decide +kernel) ⟨Nat.le_of_ble_eq_true rfl, Nat.le_of_ble_eq_true rfl⟩) rfl rfl hl.1 (Nat.le_of_ble_eq_true rfl) dX5_take_90 (Nat.zero_le _) (Nat.zero_le _) ?_
                exact W.iret hx hb hr (fun t ht hW => ⟨⟨_, σ, rfl, (by unfold oTake ofK; (try simp only [if_pos c_1, if_pos c_2, if_pos c_3, if_pos c_9, if_neg c_17, nI_clamp (show krr < 2 ^ 31 by omega), nI_clamp (show kk < 2 ^ 31 by omega), nI_clamp (show kx < 2 ^ 31 by omega), nI_clamp (show ki < 2 ^ 31 by omega), hp_4, hp_10, Option.getD_some, reduceCtorEq, if_true, if_false, Option.isNone_some, Option.isNone_none, Bool.false_or, Bool.true_or, Bool.not_true, Bool.not_false]); try rfl), by rw [ht]; exact hP, hD⟩, hS.F ht⟩) hS.2.2 dX5_take_93
          · refine lv_iconst (v := 2) hx hb dX5_take_53 (by decide) ?_
            refine cs_0 (As := [.int (2 : Int32)]) (rest := []) ⟨hx, hb, hml, hown, hts⟩ (mX5_fails l (2 : Int32)) (va_cwS 1 hts gX5_take_X5_fails rfl rfl rfl (by decide +kernel) ⟨Nat.le_of_ble_eq_true rfl, Nat.le_of_ble_eq_true rfl⟩) rfl rfl hl.1 (Nat.le_of_ble_eq_true rfl) dX5_take_54 (Nat.zero_le _) (Nat.zero_le _) ?_
            exact W.iret hx hb hr (fun t ht hW => ⟨⟨_, σ, rfl, (by unfold oTake ofK; (try simp only [if_pos c_1, if_pos c_2, if_pos c_3, if_neg c_9, nI_clamp (show krr < 2 ^ 31 by omega), nI_clamp (show kk < 2 ^ 31 by omega), nI_clamp (show kx < 2 ^ 31 by omega), hp_4, Option.getD_some, reduceCtorEq, if_true, if_false, Option.isNone_some, Option.isNone_none, Bool.false_or, Bool.true_or, Bool.not_true, Bool.not_false]); try rfl), by rw [ht]; exact hP, hD⟩, hS.F ht⟩) hS.2.2 dX5_take_57
      · refine lv_iconst (v := -1) hx hb dX5_take_28 (by decide) ?_
        exact W.iret hx hb hr (fun t ht hW => ⟨⟨_, σ, rfl, (by unfold oTake ofK; (try simp only [if_pos c_1, if_pos c_2, if_neg c_3, nI_clamp (show krr < 2 ^ 31 by omega), nI_clamp (show kk < 2 ^ 31 by omega), Option.getD_some, reduceCtorEq, if_true, if_false, Option.isNone_some, Option.isNone_none, Bool.false_or, Bool.true_or, Bool.not_true, Bool.not_false]); try rfl), by rw [ht]; exact hP, hD⟩, hS.F ht⟩) hS.2.2 dX5_take_29
set_option maxHeartbeats 4000000 in
set_option maxRecDepth 100000 in
theorem mX5_tells (l : Launch) (dC : Nat → ClassId) (dI : Nat → Nat → Nat) (q : Ad) (cJ cG cK cR cI cZ cD : ClassId) (σ : St) (N0 : Nat) (hI : Inv σ N0) (hN : N0 ≤ 512) (g : Nat) (v : UInt64) (hv : FP.Core.DFin v) (hg : g < zNg σ) : Met l yX5_tells wsX5_tells ({ frames := 0, cells := 0, slots := 0, locals := 0 }) (va_Pc [.ref q.1, .int (nI g), .double v] (fun U => va_P (dC, dI) vwCl (MWs q cJ cI cZ cD σ) U.heap ∧ va_K (dC, dI) vwCl (tys0 cJ cG cK cR cI cZ cD) U)) (pQ (.double (tellN (zGk σ g) (zGs σ g).toUInt64 v))) 0 0 (fun _ => False) := by
  refine Met.ofW (cc := cX5_tells) (maxL := 10) (ret := (some .double)) (by decide) rfl ?_
  intro p e s m args below meth c s₁ B hml hv
  obtain ⟨rfl, hP, hK⟩ := hv
  have hx := B.exec
  have hb := B.bytes
  have hr := B.returns
  have hts := atoms_spec (ws := wsX5_tells) B.pre
  have hown : s.vm.findClass RX5 = some m.cls := findClass_of_methodNamed B.named
  have hlocks := B.notSynchronized
  have hN1 := hI.1
  have hN2 := hI.2.1
  have hl := lv_entry ([.ref q.1, .int (nI g), .double v]) (n := 10) (Nat.le_of_ble_eq_true rfl)
  rw [lg_entry_eq]
  generalize (lg_sl ([.ref q.1, .int (nI g), .double v]) ++ List.replicate (10 - (lg_sl ([.ref q.1, .int (nI g), .double v])).length) Slot.unset).toArray = ls at hl ⊢
  have hl : lv_has ls 10 [(0, .ref q.1), (1, .int (nI g)), (2, .double v)] := hl
  have hok := hI.2.2.2.2.2.1 g hg
  have hnz := nz_of hok.2.1 hok.2.2.1
  have hsf : FP.Core.DFin (zGs σ g).toUInt64 := fin_of hok.2.1 hok.2.2.2
  refine lv_aload_n hx hb dX5_tells_0 rfl (lv_at hl 0 rfl) ?_
  refine va_get (D := (dC, dI)) (ci := 5) (v := .ref q.2.2.2.2.2.2.1) (C := RX5) (T := TX5) (N := 12) hx hb hts (fun w h => List.mem_cons_of_mem _ (List.mem_append_right _ h)) hown hK hP 0 rfl rfl 7 (by decide) (hts (.fieldLink RX5 28 "TideGaugesModel" "spans" "[D") (List.mem_of_getElem? (i := 1) rfl)) (fun _ h9 => h9) rfl dX5_tells_1 ?_
  refine lv_iload_n hx hb dX5_tells_4 rfl (lv_at hl 1 rfl) ?_
  refine x_dald hx hb hK hP 6 6 rfl rfl (k := g) rfl (by have := hI.1; have := hI.2.1; omega) (by decide) rfl dX5_tells_5 ?_
  refine lv_dstore (lv' := [(4, .double ((zGs σ g).toUInt64)), (0, .ref q.1), (1, .int (nI g)), (2, .double v)]) hx hb dX5_tells_6 hl (by decide) rfl (fun ls hl => ?_)
  refine lv_dload_n hx hb dX5_tells_8 rfl (lv_at hl 3 rfl) ?_
  refine lv_dload_n hx hb dX5_tells_9 rfl (lv_at hl 3 rfl) ?_
  refine lv_dload hx hb dX5_tells_10 (lv_at hl 0 rfl) ?_
  refine lv_drem hx hb dX5_tells_12 (n64_of (FP.Core.drem_out hv hok.2.1 hnz)) ?_
  refine lv_dsub hx hb dX5_tells_13 (n64_of (step_nn hv hok.2.1 hnz)) ?_
  refine lv_dstore (lv' := [(6, .double (FP.dsub v (FP.drem v ((zGs σ g).toUInt64)))), (4, .double ((zGs σ g).toUInt64)), (0, .ref q.1), (1, .int (nI g)), (2, .double v)]) hx hb dX5_tells_14 hl (by decide) rfl (fun ls hl => ?_)
  refine lv_aload_n hx hb dX5_tells_16 rfl (lv_at hl 2 rfl) ?_
  refine va_get (D := (dC, dI)) (ci := 5) (v := .ref q.2.2.2.2.2.1) (C := RX5) (T := TX5) (N := 12) hx hb hts (fun w h => List.mem_cons_of_mem _ (List.mem_append_right _ h)) hown hK hP 0 rfl rfl 6 (by decide) (hts (.fieldLink RX5 25 "TideGaugesModel" "kinds" "[I") (List.mem_of_getElem? (i := 2) rfl)) (fun _ h9 => h9) rfl dX5_tells_17 ?_
  refine lv_iload_n hx hb dX5_tells_20 rfl (lv_at hl 3 rfl) ?_
  refine x_iald hx hb hK hP 5 4 rfl rfl (k := g) rfl (by have := hI.1; have := hI.2.1; omega) (by decide) rfl dX5_tells_21 ?_
  refine lv_if_ne (tgt := 28) hx hb dX5_tells_22 (by decide) (fun c_1 => ?_) (fun c_1 => ?_)
  · refine lv_dload_n hx hb dX5_tells_28 rfl (lv_at hl 4 rfl) ?_
    refine lv_dload hx hb dX5_tells_29 (lv_at hl 0 rfl) ?_
    refine lv_dsub hx hb dX5_tells_31 (n64_of (FP.Core.dsub_out' hv (step_nn hv hok.2.1 hnz))) ?_
    refine lv_dstore (lv' := [(8, .double (FP.dsub v (FP.dsub v (FP.drem v ((zGs σ g).toUInt64))))), (6, .double (FP.dsub v (FP.drem v ((zGs σ g).toUInt64)))), (4, .double ((zGs σ g).toUInt64)), (0, .ref q.1), (1, .int (nI g)), (2, .double v)]) hx hb dX5_tells_32 hl (by decide) rfl (fun ls hl => ?_)
    refine lv_dload hx hb dX5_tells_34 (lv_at hl 0 rfl) ?_
    refine lv_dconst0 hx hb dX5_tells_36 ?_
    refine w_dn_ge (tgt := 62) hx hb dX5_tells_37 dX5_tells_38 (by decide) (fun c_2 => ?_) (fun c_2 => ?_)
    · refine lv_dload hx hb dX5_tells_62 (lv_at hl 0 rfl) ?_
      exact W.dret hx hb hr (fun t ht hW => ⟨(by unfold tellN stepN; (try simp only [if_neg c_1, if_neg c_2, Option.getD_some, reduceCtorEq, if_true, if_false, Option.isNone_some, Option.isNone_none, Bool.false_or, Bool.true_or, Bool.not_true, Bool.not_false]); try rfl), ht⟩) (fun q h => absurd h List.not_mem_nil) dX5_tells_64
    · refine lv_dload hx hb dX5_tells_41 (lv_at hl 0 rfl) ?_
      refine lv_dload hx hb dX5_tells_43 (lv_at hl 2 rfl) ?_
      refine lv_dconst0 hx hb dX5_tells_45 ?_
      refine w_dn_ge (tgt := 56) hx hb dX5_tells_46 dX5_tells_47 (by decide) (fun c_3 => ?_) (fun c_3 => ?_)
      · refine lv_dload hx hb dX5_tells_56 (lv_at hl 2 rfl) ?_
        refine lv_dadd hx hb dX5_tells_58 (n64_of (FP.Core.dadd_out (FP.Core.dsub_out' hv (step_nn hv hok.2.1 hnz)) hsf)) ?_
        refine lv_goto (tgt := 64) hx hb dX5_tells_59 (by decide) ?_
        exact W.dret hx hb hr (fun t ht hW => ⟨(by unfold tellN stepN; (try simp only [if_neg c_1, if_pos c_2, if_neg c_3, Option.getD_some, reduceCtorEq, if_true, if_false, Option.isNone_some, Option.isNone_none, Bool.false_or, Bool.true_or, Bool.not_true, Bool.not_false]); try rfl), ht⟩) (fun q h => absurd h List.not_mem_nil) dX5_tells_64
      · refine lv_dload hx hb dX5_tells_50 (lv_at hl 2 rfl) ?_
        refine lv_dneg hx hb dX5_tells_52 ?_
        refine lv_goto (tgt := 58) hx hb dX5_tells_53 (by decide) ?_
        refine lv_dadd hx hb dX5_tells_58 (n64_of (FP.Core.dadd_out (FP.Core.dsub_out' hv (step_nn hv hok.2.1 hnz)) (dneg_fin hsf))) ?_
        refine lv_goto (tgt := 64) hx hb dX5_tells_59 (by decide) ?_
        exact W.dret hx hb hr (fun t ht hW => ⟨(by unfold tellN stepN; (try simp only [if_neg c_1, if_pos c_2, if_pos c_3, Option.getD_some, reduceCtorEq, if_true, if_false, Option.isNone_some, Option.isNone_none, Bool.false_or, Bool.true_or, Bool.not_true, Bool.not_false]); try rfl), ht⟩) (fun q h => absurd h List.not_mem_nil) dX5_tells_64
  · refine lv_dload hx hb dX5_tells_25 (lv_at hl 0 rfl) ?_
    exact W.dret hx hb hr (fun t ht hW => ⟨(by unfold tellN stepN; (try simp only [if_pos c_1, Option.getD_some, reduceCtorEq, if_true, if_false, Option.isNone_some, Option.isNone_none, Bool.false_or, Bool.true_or, Bool.not_true, Bool.not_false]); try rfl), ht⟩) (fun q h => absurd h List.not_mem_nil) dX5_tells_27
set_option maxHeartbeats 8000000 in
set_option maxRecDepth 100000 in
theorem mX5_read (l : Launch) (dC : Nat → ClassId) (dI : Nat → Nat → Nat) (q : Ad) (cJ cG cK cR cI cZ cD : ClassId) (sz : Nat) (σ : St) (N0 : Nat) (hI : Inv σ N0) (hN : N0 ≤ 512) (x : Int32) (b : Int64) (u : Bool) : Met l yX5_read wsX5_read ({ frames := 3, cells := 0, slots := 0, locals := 66 }) (va_Pc [.ref q.1, .int x, .long b, .int (b2i u)] (fun U => U.heap.size = sz ∧ va_P (dC, dI) vwCl (MWs q cJ cI cZ cD σ) U.heap ∧ va_K (dC, dI) vwCl (tys0 cJ cG cK cR cI cZ cD) U ∧ va_D (fun _ => True) (MWs q cJ cI cZ cD σ))) (va_Qi (fun (r : Int32) (τ : St) => (r, τ) = oRead σ x b u) (fun τ t => va_P (dC, dI) vwCl (MWs q cJ cI cZ cD τ) t.heap ∧ va_D (va_A (MWs q cJ cI cZ cD σ) sz) (MWs q cJ cI cZ cD τ)) (va_A (MWs q cJ cI cZ cD σ) sz)) 0 0 (va_A (MWs q cJ cI cZ cD σ) sz) := by
  refine Met.ofW (cc := cX5_read) (maxL := 8) (ret := (some .int)) (by decide) rfl ?_
  intro p e s m args below meth c s₁ B hml hv
  obtain ⟨rfl, hsz, hP, hK, hD0⟩ := hv
  have hx := B.exec
  have hb := B.bytes
  have hr := B.returns
  have hts := atoms_spec (ws := wsX5_read) B.pre
  have hown : s.vm.findClass RX5 = some m.cls := findClass_of_methodNamed B.named
  have hlocks := B.notSynchronized
  have hN1 := hI.1
  have hN2 := hI.2.1
  subst hsz
  have hD := hD0.self (sz := s.heap.size)
  generalize hAe : va_A (MWs q cJ cI cZ cD σ) s.heap.size = A at hD ⊢
  have hA : ∀ z : Nat, s.heap.size ≤ z → A z := fun z h => by rw [← hAe]; exact Or.inr h
  have hS : va_S A s.heap s.heap [] := va_S.rf
  have hl := lv_entry ([.ref q.1, .int x, .long b, .int (b2i u)]) (n := 8) (Nat.le_of_ble_eq_true rfl)
  rw [lg_entry_eq]
  generalize (lg_sl ([.ref q.1, .int x, .long b, .int (b2i u)]) ++ List.replicate (8 - (lg_sl ([.ref q.1, .int x, .long b, .int (b2i u)])).length) Slot.unset).toArray = ls at hl ⊢
  have hl : lv_has ls 8 [(0, .ref q.1), (1, .int x), (2, .long b), (4, .int (b2i u))] := hl
  refine lv_iload_n hx hb dX5_read_0 rfl (lv_at hl 1 rfl) ?_
  refine lv_iconst (v := 0) hx hb dX5_read_1 (by decide) ?_
  refine lv_iconst (v := 5) hx hb dX5_read_2 (by decide) ?_
  refine cs_0 (As := [.int x, .int 0, .int (5 : Int32)]) (rest := []) ⟨hx, hb, hml, hown, hts⟩ (mX5_inN l x (5 : Int32) 6 rfl (by decide)) (va_cwS 3 hts gX5_read_X5_in rfl rfl rfl (by decide +kernel) ⟨Nat.le_of_ble_eq_true rfl, Nat.le_of_ble_eq_true rfl⟩) rfl rfl hl.1 (Nat.le_of_ble_eq_true rfl) dX5_read_3 (Nat.zero_le _) (Nat.zero_le _) ?_
  refine w_beq (tgt := 17) hx hb dX5_read_6 (by decide) (fun c_1 => ?_) (fun c_1 => ?_)
  · refine lv_iconst (v := -1) hx hb dX5_read_17 (by decide) ?_
    exact W.iret hx hb hr (fun t ht hW => ⟨⟨_, σ, rfl, (by unfold oRead longN; (try simp only [if_neg c_1, Option.getD_some, reduceCtorEq, if_true, if_false, Option.isNone_some, Option.isNone_none, Bool.false_or, Bool.true_or, Bool.not_true, Bool.not_false]); try rfl), by rw [ht]; exact hP, hD⟩, hS.F ht⟩) hS.2.2 dX5_read_18
  · obtain ⟨kx, hkx, rfl⟩ := ixb_some c_1 (by decide)
    refine lv_iconst (v := 1) hx hb dX5_read_9 (by decide) ?_
    refine lv_lload_n hx hb dX5_read_10 rfl (lv_at hl 2 rfl) ?_
    refine cs_0 (As := [.int (b2i true), .long b]) (rest := []) ⟨hx, hb, hml, hown, hts⟩ (mX5_isNumber l true b) (va_cwS 2 hts gX5_read_X5_isNumber rfl rfl rfl (by decide +kernel) ⟨Nat.le_of_ble_eq_true rfl, Nat.le_of_ble_eq_true rfl⟩) rfl rfl hl.1 (Nat.le_of_ble_eq_true rfl) dX5_read_11 (Nat.zero_le _) (Nat.zero_le _) ?_
    refine w_bne (tgt := 19) hx hb dX5_read_14 (by decide) (fun c_2 => ?_) (fun c_2 => ?_)
    · refine lv_aload_n hx hb dX5_read_19 rfl (lv_at hl 0 rfl) ?_
      refine va_get (D := (dC, dI)) (ci := 5) (v := .ref q.2.2.2.2.2.2.2.1) (C := RX5) (T := TX5) (N := 12) hx hb hts (fun w h => List.mem_cons_of_mem _ (List.mem_append_right _ h)) hown hK hP 0 rfl rfl 8 (by decide) (hts (.fieldLink RX5 32 "TideGaugesModel" "gaugeAt" "[I") (List.mem_of_getElem? (i := 1) rfl)) (fun _ h9 => h9) rfl dX5_read_20 ?_
      refine lv_iload_n hx hb dX5_read_23 rfl (lv_at hl 1 rfl) ?_
      rcases hp_3 : zGa σ kx with _ | a_4
      · refine x_iald hx hb hK hP 7 4 rfl rfl (k := kx) rfl (by have := hI.1; have := hI.2.1; omega) (by decide) (by show eo (zGa σ kx) = (-1 : Int32); rw [hp_3]; rfl) dX5_read_24 ?_
        refine lv_istore (lv' := [(5, .int (-1 : Int32)), (0, .ref q.1), (1, .int (nI kx)), (2, .long b), (4, .int (b2i u))]) hx hb dX5_read_25 hl (by decide) rfl (fun ls hl => ?_)
        refine lv_iload hx hb dX5_read_27 (lv_at hl 0 rfl) ?_
        refine lv_if_ge (tgt := 37) hx hb dX5_read_29 (by decide) (fun c_5 => ?_) (fun c_5 => ?_)
        · exact absurd c_5 (by decide)
        refine lv_iconst (v := 1) hx hb dX5_read_32 (by decide) ?_
        refine cs_0 (As := [.int (1 : Int32)]) (rest := []) ⟨hx, hb, hml, hown, hts⟩ (mX5_fails l (1 : Int32)) (va_cwS 1 hts gX5_read_X5_fails rfl rfl rfl (by decide +kernel) ⟨Nat.le_of_ble_eq_true rfl, Nat.le_of_ble_eq_true rfl⟩) rfl rfl hl.1 (Nat.le_of_ble_eq_true rfl) dX5_read_33 (Nat.zero_le _) (Nat.zero_le _) ?_
        exact W.iret hx hb hr (fun t ht hW => ⟨⟨_, σ, rfl, (by unfold oRead longN; (try simp only [if_pos c_1, if_pos c_2, nI_clamp (show kx < 2 ^ 31 by omega), hp_3, Option.getD_some, reduceCtorEq, if_true, if_false, Option.isNone_some, Option.isNone_none, Bool.false_or, Bool.true_or, Bool.not_true, Bool.not_false]); try rfl), by rw [ht]; exact hP, hD⟩, hS.F ht⟩) hS.2.2 dX5_read_36
      · have hb_6 := hI.2.2.2.2.2.2.1 _ _ hp_3
        refine x_iald hx hb hK hP 7 4 rfl rfl (k := kx) rfl (by have := hI.1; have := hI.2.1; omega) (by decide) (by show eo (zGa σ kx) = nI a_4; rw [hp_3]; rfl) dX5_read_24 ?_
        refine lv_istore (lv' := [(5, .int (nI a_4)), (0, .ref q.1), (1, .int (nI kx)), (2, .long b), (4, .int (b2i u))]) hx hb dX5_read_25 hl (by decide) rfl (fun ls hl => ?_)
        refine lv_iload hx hb dX5_read_27 (lv_at hl 0 rfl) ?_
        refine lv_if_ge (tgt := 37) hx hb dX5_read_29 (by decide) (fun c_7 => ?_) (fun c_7 => ?_)
        rotate_left
        · exact absurd (nI_pos' (by omega)) c_7
        refine lv_lload_n hx hb dX5_read_37 rfl (lv_at hl 3 rfl) ?_
        refine vn_l2d hx hb (hml.trans hl.1.symm) hown (hts (.methodLink RX5 53 ⟨"java/lang/Double", "longBitsToDouble", "(J)D"⟩) (List.mem_of_getElem? (i := 2) rfl)) (hts (.native ⟨"java/lang/Double", "longBitsToDouble", "(J)D"⟩) (List.mem_of_getElem? (i := 3) rfl)) (hts (.static ⟨"java/lang/Double", "longBitsToDouble", "(J)D"⟩) (List.mem_of_getElem? (i := 4) rfl)) (hts (.initialized "java/lang/Double") (List.mem_of_getElem? (i := 5) rfl)) (snl_of (isnum_t c_2)) (Nat.le_of_ble_eq_true rfl) (Nat.le_of_ble_eq_true rfl) dX5_read_38 ?_
        refine lv_dstore (lv' := [(6, .double b.toUInt64), (5, .int (nI a_4)), (0, .ref q.1), (1, .int (nI kx)), (2, .long b), (4, .int (b2i u))]) hx hb dX5_read_41 hl (by decide) rfl (fun ls hl => ?_)
        refine lv_aload_n hx hb dX5_read_43 rfl (lv_at hl 2 rfl) ?_
        refine va_get (D := (dC, dI)) (ci := 5) (v := .ref q.2.2.2.2.2.1) (C := RX5) (T := TX5) (N := 12) hx hb hts (fun w h => List.mem_cons_of_mem _ (List.mem_append_right _ h)) hown hK hP 0 rfl rfl 6 (by decide) (hts (.fieldLink RX5 25 "TideGaugesModel" "kinds" "[I") (List.mem_of_getElem? (i := 6) rfl)) (fun _ h9 => h9) rfl dX5_read_44 ?_
        refine lv_iload hx hb dX5_read_47 (lv_at hl 1 rfl) ?_
        refine x_iald hx hb hK hP 5 4 rfl rfl (k := a_4) rfl (by have := hI.1; have := hI.2.1; omega) (by decide) rfl dX5_read_49 ?_
        refine lv_iconst (v := 2) hx hb dX5_read_50 (by decide) ?_
        refine lv_icmp_ne (tgt := 84) hx hb dX5_read_51 (by decide) (fun c_8 => ?_) (fun c_8 => ?_)
        · refine lv_dload hx hb dX5_read_84 (lv_at hl 0 rfl) ?_
          refine cs_0 (As := [.double b.toUInt64]) (rest := []) ⟨hx, hb, hml, hown, hts⟩ (mX5_isEndless l b.toUInt64) (va_cwS 1 hts gX5_read_X5_isEndless rfl rfl rfl (by decide +kernel) ⟨Nat.le_of_ble_eq_true rfl, Nat.le_of_ble_eq_true rfl⟩) rfl rfl hl.1 (Nat.le_of_ble_eq_true rfl) dX5_read_86 (Nat.zero_le _) (Nat.zero_le _) ?_
          refine w_beq (tgt := 97) hx hb dX5_read_89 (by decide) (fun c_9 => ?_) (fun c_9 => ?_)
          · refine lv_aload_n hx hb dX5_read_97 rfl (lv_at hl 2 rfl) ?_
            refine lv_iload hx hb dX5_read_98 (lv_at hl 5 rfl) ?_
            refine w_bne (tgt := 107) hx hb dX5_read_100 (by decide) (fun c_10 => ?_) (fun c_10 => ?_)
            · subst c_10
              refine lv_iconst (v := 0) hx hb dX5_read_107 (by decide) ?_
              refine lv_aload_n hx hb dX5_read_108 rfl (lv_at hl 2 rfl) ?_
              refine lv_iload hx hb dX5_read_109 (lv_at hl 1 rfl) ?_
              refine lv_dload hx hb dX5_read_111 (lv_at hl 0 rfl) ?_
              refine cm_w (q0 := 0) (As := [.int (nI a_4), .double b.toUInt64]) (rest := [.int (0 : Int32), .ref q.1]) ⟨hx, hb, hml, hown, hts⟩ (mX5_tells l dC dI q cJ cG cK cR cI cZ cD σ N0 hI hN a_4 b.toUInt64 (fin_of (isnum_t c_2) c_9) (by omega)) (cwV 2 hts gX5_read_X5_tells rfl rfl rfl (by decide +kernel) ⟨Nat.le_of_ble_eq_true rfl, Nat.le_of_ble_eq_true rfl⟩) hK hP rfl rfl rfl rfl hl.1 (Nat.le_of_ble_eq_true rfl) dX5_read_113 (Nat.zero_le _) (Nat.zero_le _) ?_
              refine cs_0 (As := [.int (b2i false), .double (tellN (zGk σ a_4) (zGs σ a_4).toUInt64 b.toUInt64)]) (rest := [.ref q.1]) ⟨hx, hb, hml, hown, hts⟩ (mX5_bitsOf l false (tellN (zGk σ a_4) (zGs σ a_4).toUInt64 b.toUInt64) (tell_nn (fin_of (isnum_t c_2) c_9) (hI.2.2.2.2.2.1 a_4 (by omega)))) (va_cwS 2 hts gX5_read_X5_bitsOf rfl rfl rfl (by decide +kernel) ⟨Nat.le_of_ble_eq_true rfl, Nat.le_of_ble_eq_true rfl⟩) rfl rfl hl.1 (Nat.le_of_ble_eq_true rfl) dX5_read_116 (Nat.zero_le _) (Nat.zero_le _) ?_
              refine lv_topl (fun z_11 hz_11 => ?_)
              refine va_put (D := (dC, dI)) (ci := 5) (v := .long z_11) (ty := .long) (C := RX5) (T := TX5) (N := 12) hx hb hts (fun w h => List.mem_cons_of_mem _ (List.mem_append_right _ h)) tyX5 tyX5_ok nmX5 hown hK hP hD hS 0 rfl rfl 11 (by decide) (hts (.fieldLink RX5 99 "TideGaugesModel" "told" "J") (List.mem_of_getElem? (i := 7) rfl)) (fun _ h9 => h9) rfl (by decide +kernel) rfl rfl (Nat.le_of_ble_eq_true rfl) dX5_read_119 (fun H locs hP hD hS => ?_)
              have hP : va_P (dC, dI) vwCl (MWs q cJ cI cZ cD (uTo σ z_11)) H := hP
              have hD : va_D A (MWs q cJ cI cZ cD (uTo σ z_11)) := hD
              refine lv_iconst (v := 1) hx hb dX5_read_122 (by decide) ?_
              exact W.iret hx hb hr (fun t ht hW => ⟨⟨_, (uTo σ z_11), rfl, (by unfold oRead longN; (try simp only [if_pos c_1, if_pos c_2, if_neg c_8, if_neg c_9, nI_clamp (show kx < 2 ^ 31 by omega), hp_3, hz_11, Option.getD_some, reduceCtorEq, if_true, if_false, Option.isNone_some, Option.isNone_none, Bool.false_or, Bool.true_or, Bool.not_true, Bool.not_false]); try rfl), by rw [ht]; exact hP, hD⟩, hS.F ht⟩) hS.2.2 dX5_read_123
            · obtain rfl : u = false := Bool.eq_false_iff.mpr c_10
              refine lv_iconst (v := 1) hx hb dX5_read_103 (by decide) ?_
              refine lv_goto (tgt := 108) hx hb dX5_read_104 (by decide) ?_
              refine lv_aload_n hx hb dX5_read_108 rfl (lv_at hl 2 rfl) ?_
              refine lv_iload hx hb dX5_read_109 (lv_at hl 1 rfl) ?_
              refine lv_dload hx hb dX5_read_111 (lv_at hl 0 rfl) ?_
              refine cm_w (q0 := 0) (As := [.int (nI a_4), .double b.toUInt64]) (rest := [.int (1 : Int32), .ref q.1]) ⟨hx, hb, hml, hown, hts⟩ (mX5_tells l dC dI q cJ cG cK cR cI cZ cD σ N0 hI hN a_4 b.toUInt64 (fin_of (isnum_t c_2) c_9) (by omega)) (cwV 2 hts gX5_read_X5_tells rfl rfl rfl (by decide +kernel) ⟨Nat.le_of_ble_eq_true rfl, Nat.le_of_ble_eq_true rfl⟩) hK hP rfl rfl rfl rfl hl.1 (Nat.le_of_ble_eq_true rfl) dX5_read_113 (Nat.zero_le _) (Nat.zero_le _) ?_
              refine cs_0 (As := [.int (b2i true), .double (tellN (zGk σ a_4) (zGs σ a_4).toUInt64 b.toUInt64)]) (rest := [.ref q.1]) ⟨hx, hb, hml, hown, hts⟩ (mX5_bitsOf l true (tellN (zGk σ a_4) (zGs σ a_4).toUInt64 b.toUInt64) (tell_nn (fin_of (isnum_t c_2) c_9) (hI.2.2.2.2.2.1 a_4 (by omega)))) (va_cwS 2 hts gX5_read_X5_bitsOf rfl rfl rfl (by decide +kernel) ⟨Nat.le_of_ble_eq_true rfl, Nat.le_of_ble_eq_true rfl⟩) rfl rfl hl.1 (Nat.le_of_ble_eq_true rfl) dX5_read_116 (Nat.zero_le _) (Nat.zero_le _) ?_
              refine lv_topl (fun z_12 hz_12 => ?_)
              refine va_put (D := (dC, dI)) (ci := 5) (v := .long z_12) (ty := .long) (C := RX5) (T := TX5) (N := 12) hx hb hts (fun w h => List.mem_cons_of_mem _ (List.mem_append_right _ h)) tyX5 tyX5_ok nmX5 hown hK hP hD hS 0 rfl rfl 11 (by decide) (hts (.fieldLink RX5 99 "TideGaugesModel" "told" "J") (List.mem_of_getElem? (i := 7) rfl)) (fun _ h9 => h9) rfl (by decide +kernel) rfl rfl (Nat.le_of_ble_eq_true rfl) dX5_read_119 (fun H locs hP hD hS => ?_)
              have hP : va_P (dC, dI) vwCl (MWs q cJ cI cZ cD (uTo σ z_12)) H := hP
              have hD : va_D A (MWs q cJ cI cZ cD (uTo σ z_12)) := hD
              refine lv_iconst (v := 1) hx hb dX5_read_122 (by decide) ?_
              exact W.iret hx hb hr (fun t ht hW => ⟨⟨_, (uTo σ z_12), rfl, (by unfold oRead longN; (try simp only [if_pos c_1, if_pos c_2, if_neg c_8, if_neg c_9, nI_clamp (show kx < 2 ^ 31 by omega), hp_3, hz_12, Option.getD_some, reduceCtorEq, if_true, if_false, Option.isNone_some, Option.isNone_none, Bool.false_or, Bool.true_or, Bool.not_true, Bool.not_false]); try rfl), by rw [ht]; exact hP, hD⟩, hS.F ht⟩) hS.2.2 dX5_read_123
          · refine lv_iconst (v := 4) hx hb dX5_read_92 (by decide) ?_
            refine cs_0 (As := [.int (4 : Int32)]) (rest := []) ⟨hx, hb, hml, hown, hts⟩ (mX5_fails l (4 : Int32)) (va_cwS 1 hts gX5_read_X5_fails rfl rfl rfl (by decide +kernel) ⟨Nat.le_of_ble_eq_true rfl, Nat.le_of_ble_eq_true rfl⟩) rfl rfl hl.1 (Nat.le_of_ble_eq_true rfl) dX5_read_93 (Nat.zero_le _) (Nat.zero_le _) ?_
            exact W.iret hx hb hr (fun t ht hW => ⟨⟨_, σ, rfl, (by unfold oRead longN; (try simp only [if_pos c_1, if_pos c_2, if_neg c_8, if_pos c_9, nI_clamp (show kx < 2 ^ 31 by omega), hp_3, Option.getD_some, reduceCtorEq, if_true, if_false, Option.isNone_some, Option.isNone_none, Bool.false_or, Bool.true_or, Bool.not_true, Bool.not_false]); try rfl), by rw [ht]; exact hP, hD⟩, hS.F ht⟩) hS.2.2 dX5_read_96
        · refine lv_aload_n hx hb dX5_read_54 rfl (lv_at hl 2 rfl) ?_
          refine lv_iload hx hb dX5_read_55 (lv_at hl 5 rfl) ?_
          refine w_beq (tgt := 72) hx hb dX5_read_57 (by decide) (fun c_13 => ?_) (fun c_13 => ?_)
          · obtain rfl : u = false := Bool.eq_false_iff.mpr c_13
            refine lv_dload hx hb dX5_read_72 (lv_at hl 0 rfl) ?_
            refine lv_d2l hx hb dX5_read_74 ?_
            refine lv_l2d hx hb dX5_read_75 ?_
            refine cs_0 (As := [.double (FP.l2d (FP.d2l b.toUInt64))]) (rest := [.ref q.1]) ⟨hx, hb, hml, hown, hts⟩ (mJxe99ae_doubleToLongBits_ccdee l (FP.l2d (FP.d2l b.toUInt64))) (va_cwS 1 hts gX5_read_Jxe99ae_doubleToLongBits_ccdee rfl rfl rfl (by decide +kernel) ⟨Nat.le_of_ble_eq_true rfl, Nat.le_of_ble_eq_true rfl⟩) rfl rfl hl.1 (Nat.le_of_ble_eq_true rfl) dX5_read_76 (Nat.zero_le _) (Nat.zero_le _) ?_
            refine lv_topl (fun z_14 hz_14 => ?_)
            refine va_put (D := (dC, dI)) (ci := 5) (v := .long z_14) (ty := .long) (C := RX5) (T := TX5) (N := 12) hx hb hts (fun w h => List.mem_cons_of_mem _ (List.mem_append_right _ h)) tyX5 tyX5_ok nmX5 hown hK hP hD hS 0 rfl rfl 11 (by decide) (hts (.fieldLink RX5 99 "TideGaugesModel" "told" "J") (List.mem_of_getElem? (i := 7) rfl)) (fun _ h9 => h9) rfl (by decide +kernel) rfl rfl (Nat.le_of_ble_eq_true rfl) dX5_read_79 (fun H locs hP hD hS => ?_)
            have hP : va_P (dC, dI) vwCl (MWs q cJ cI cZ cD (uTo σ z_14)) H := hP
            have hD : va_D A (MWs q cJ cI cZ cD (uTo σ z_14)) := hD
            refine lv_iconst (v := 1) hx hb dX5_read_82 (by decide) ?_
            exact W.iret hx hb hr (fun t ht hW => ⟨⟨_, (uTo σ z_14), rfl, (by unfold oRead longN; (try simp only [if_pos c_1, if_pos c_2, if_pos c_8, nI_clamp (show kx < 2 ^ 31 by omega), hp_3, hz_14, Option.getD_some, reduceCtorEq, if_true, if_false, Option.isNone_some, Option.isNone_none, Bool.false_or, Bool.true_or, Bool.not_true, Bool.not_false]); try rfl), by rw [ht]; exact hP, hD⟩, hS.F ht⟩) hS.2.2 dX5_read_83
          · subst c_13
            refine lv_dload hx hb dX5_read_60 (lv_at hl 0 rfl) ?_
            refine lv_d2f hx hb dX5_read_62 (n32_of (by rw [FP.d2f_nan]; exact isnum_t c_2)) ?_
            refine lv_f2l hx hb dX5_read_63 ?_
            refine lv_l2f hx hb dX5_read_64 ?_
            refine cs_0 (As := [.float (FP.l2f (FP.f2l (FP.d2f b.toUInt64)))]) (rest := [.ref q.1]) ⟨hx, hb, hml, hown, hts⟩ (mJxf58ca_floatToIntBits_5c35a l (FP.l2f (FP.f2l (FP.d2f b.toUInt64)))) (va_cwS 1 hts gX5_read_Jxf58ca_floatToIntBits_5c35a rfl rfl rfl (by decide +kernel) ⟨Nat.le_of_ble_eq_true rfl, Nat.le_of_ble_eq_true rfl⟩) rfl rfl hl.1 (Nat.le_of_ble_eq_true rfl) dX5_read_65 (Nat.zero_le _) (Nat.zero_le _) ?_
            refine lv_i2l hx hb dX5_read_68 rfl ?_
            refine lv_goto (tgt := 79) hx hb dX5_read_69 (by decide) ?_
            refine lv_topl (fun z_15 hz_15 => ?_)
            refine va_put (D := (dC, dI)) (ci := 5) (v := .long z_15) (ty := .long) (C := RX5) (T := TX5) (N := 12) hx hb hts (fun w h => List.mem_cons_of_mem _ (List.mem_append_right _ h)) tyX5 tyX5_ok nmX5 hown hK hP hD hS 0 rfl rfl 11 (by decide) (hts (.fieldLink RX5 99 "TideGaugesModel" "told" "J") (List.mem_of_getElem? (i := 7) rfl)) (fun _ h9 => h9) rfl (by decide +kernel) rfl rfl (Nat.le_of_ble_eq_true rfl) dX5_read_79 (fun H locs hP hD hS => ?_)
            have hP : va_P (dC, dI) vwCl (MWs q cJ cI cZ cD (uTo σ z_15)) H := hP
            have hD : va_D A (MWs q cJ cI cZ cD (uTo σ z_15)) := hD
            refine lv_iconst (v := 1) hx hb dX5_read_82 (by decide) ?_
            exact W.iret hx hb hr (fun t ht hW => ⟨⟨_, (uTo σ z_15), rfl, (by unfold oRead longN; (try simp only [if_pos c_1, if_pos c_2, if_pos c_8, nI_clamp (show kx < 2 ^ 31 by omega), hp_3, hz_15, Option.getD_some, reduceCtorEq, if_true, if_false, Option.isNone_some, Option.isNone_none, Bool.false_or, Bool.true_or, Bool.not_true, Bool.not_false]); try rfl), by rw [ht]; exact hP, hD⟩, hS.F ht⟩) hS.2.2 dX5_read_83
    · refine lv_iconst (v := -1) hx hb dX5_read_17 (by decide) ?_
      exact W.iret hx hb hr (fun t ht hW => ⟨⟨_, σ, rfl, (by unfold oRead longN; (try simp only [if_pos c_1, if_neg c_2, nI_clamp (show kx < 2 ^ 31 by omega), Option.getD_some, reduceCtorEq, if_true, if_false, Option.isNone_some, Option.isNone_none, Bool.false_or, Bool.true_or, Bool.not_true, Bool.not_false]); try rfl), by rw [ht]; exact hP, hD⟩, hS.F ht⟩) hS.2.2 dX5_read_18
