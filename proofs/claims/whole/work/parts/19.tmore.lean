set_option maxHeartbeats 8000000 in
set_option maxRecDepth 100000 in
theorem mX4_row (l : Launch) (dC : Nat → ClassId) (dI : Nat → Nat → Nat) (ad : Nat → Nat) (q : Aq) (cJ cG cK cR cI cZ cD : ClassId) (fr fg fk : Nat → Option Nat) (L : List Nat) (f : Nat → va_E) (ra rb ka kb : Nat → Nat) (hf : Nat → Nat → Option Nat) (σ : St) (hR : TRel ad cJ cG fr fg fk L f ra rb ka kb hf σ) (N0 : Nat) (hI : Inv σ N0) (hN : N0 ≤ 512) (sz : Nat) (x : Int32) (w : Bool) (n : Int32) : Met l yX4_row wsX4_row ({ frames := 2, cells := 2, slots := 14, locals := 34 }) (va_Pc [.ref q.1, .int x, .int (b2i w), .int n] (fun U => U.heap.size = sz ∧ va_P (dC, dI) vwCl (TWs q cG cK cR fr fg fk (zTo σ) L f) U.heap ∧ va_K (dC, dI) vwCl (tys0 cJ cG cK cR cI cZ cD) U ∧ va_D (fun _ => True) (TWs q cG cK cR fr fg fk (zTo σ) L f) ∧ EN ad (va_A (TWs q cG cK cR fr fg fk (zTo σ) L f) sz) U U.heap)) (va_Qi (fun (r : Int32) (τ : St) => (r, τ) = oRow σ x w n) (fun τ t => TP dC dI ad cJ cG cK cR (va_A (TWs q cG cK cR fr fg fk (zTo σ) L f) sz) q.1 τ t) (va_A (TWs q cG cK cR fr fg fk (zTo σ) L f) sz)) 2 14 (va_A (TWs q cG cK cR fr fg fk (zTo σ) L f) sz) := by
  refine Met.ofW (cc := cX4_row) (maxL := 4) (ret := (some .int)) (by decide) rfl ?_
  intro p e s m args below meth c s₁ B hml hv
  obtain ⟨rfl, hsz, hP, hK, hD0, hE⟩ := hv
  have hx := B.exec
  have hb := B.bytes
  have hr := B.returns
  have hts := atoms_spec (ws := wsX4_row) B.pre
  have hown : s.vm.findClass RX4 = some m.cls := findClass_of_methodNamed B.named
  have hlocks := B.notSynchronized
  have hN1 := hI.1
  have hN2 := hI.2.1
  subst hsz
  have hD := hD0.self (sz := s.heap.size)
  generalize hAe : va_A (TWs q cG cK cR fr fg fk (zTo σ) L f) s.heap.size = A at hD hE ⊢
  have hA : ∀ z : Nat, s.heap.size ≤ z → A z := fun z h => by rw [← hAe]; exact Or.inr h
  have hS : va_S A s.heap s.heap [] := va_S.rf
  have hl := lv_entry ([.ref q.1, .int x, .int (b2i w), .int n]) (n := 4) (Nat.le_of_ble_eq_true rfl)
  rw [lg_entry_eq]
  generalize (lg_sl ([.ref q.1, .int x, .int (b2i w), .int n]) ++ List.replicate (4 - (lg_sl ([.ref q.1, .int x, .int (b2i w), .int n])).length) Slot.unset).toArray = ls at hl ⊢
  have hl : lv_has ls 4 [(0, .ref q.1), (1, .int x), (2, .int (b2i w)), (3, .int n)] := hl
  refine lv_iload_n hx hb dX4_row_0 rfl (lv_at hl 1 rfl) ?_
  refine lv_bipush (v := 8) hx hb dX4_row_1 (by decide) ?_
  refine cs_0 (As := [.int x, .int (8 : Int32)]) (rest := []) ⟨hx, hb, hml, hown, hts⟩ (mX4_isBelowN l x (8 : Int32) 8 rfl (by decide)) (va_cwS 2 hts gX4_row_X4_isBelow rfl rfl rfl (by decide +kernel) ⟨Nat.le_of_ble_eq_true rfl, Nat.le_of_ble_eq_true rfl⟩) rfl rfl hl.1 (Nat.le_of_ble_eq_true rfl) dX4_row_3 (Nat.le_of_ble_eq_true rfl) (Nat.le_of_ble_eq_true rfl) ?_
  refine w_beq (tgt := 18) hx hb dX4_row_6 (by decide) (fun c_1 => ?_) (fun c_1 => ?_)
  · refine lv_iconst (v := -1) hx hb dX4_row_18 (by decide) ?_
    refine W.widen (k := 2) (n := 14) (by omega) (by omega) ?_
    exact W.iret hx hb hr (fun t ht hW => ⟨⟨_, σ, rfl, (by unfold oRow; (try simp only [if_neg c_1, Option.getD_some, reduceCtorEq, if_true, if_false, Option.isNone_some, Option.isNone_none, Bool.false_or, Bool.true_or, Bool.not_true, Bool.not_false]); try rfl), ⟨_, _, _, _, _, _, _, _, _, _, _, rfl, by rw [ht]; exact hP, hD, hR⟩⟩, hS.F ht⟩) hS.2.2 dX4_row_19
  · obtain ⟨kx, hkx, rfl⟩ := ixb_some c_1 (by decide)
    refine lv_iload_n hx hb dX4_row_9 rfl (lv_at hl 3 rfl) ?_
    refine lv_bipush (v := 13) hx hb dX4_row_10 (by decide) ?_
    refine cs_0 (As := [.int n, .int (13 : Int32)]) (rest := []) ⟨hx, hb, hml, hown, hts⟩ (mX4_isBelowN l n (13 : Int32) 13 rfl (by decide)) (va_cwS 2 hts gX4_row_X4_isBelow rfl rfl rfl (by decide +kernel) ⟨Nat.le_of_ble_eq_true rfl, Nat.le_of_ble_eq_true rfl⟩) rfl rfl hl.1 (Nat.le_of_ble_eq_true rfl) dX4_row_12 (Nat.le_of_ble_eq_true rfl) (Nat.le_of_ble_eq_true rfl) ?_
    refine w_bne (tgt := 20) hx hb dX4_row_15 (by decide) (fun c_2 => ?_) (fun c_2 => ?_)
    · obtain ⟨kn, hkn, rfl⟩ := ixb_some c_2 (by decide)
      refine lv_aload_n hx hb dX4_row_20 rfl (lv_at hl 0 rfl) ?_
      refine va_get (D := (dC, dI)) (ci := 4) (v := .ref q.2.1) (C := RX4) (T := TX4) (N := 4) hx hb hts (fun w h => List.mem_cons_of_mem _ (List.mem_append_left _ (List.mem_append_right _ h))) hown hK hP 0 rfl rfl 0 (by decide) (hts (.fieldLink RX4 11 "TideGauges" "rows" "[LTideGauges$Row;") (List.mem_of_getElem? (i := 1) rfl)) (fun _ h9 => h9) rfl dX4_row_21 ?_
      refine lv_iload_n hx hb dX4_row_24 rfl (lv_at hl 1 rfl) ?_
      refine va_new (D := (dC, dI)) (ci := 2) (C := RX2) (T := TX2) (N := 2) (fs := [.null, .null]) hx hb hts (fun w h => List.mem_cons_of_mem _ (List.mem_append_right _ h)) tyX2 tyX2_ok hown (hts (.classLink RX4 9 RX2) (List.mem_of_getElem? (i := 2) rfl)) (hts (.instantiable RX2 2) (List.mem_of_getElem? (i := 3) rfl)) (hts (.initialized RX2) (List.mem_of_getElem? (i := 4) rfl)) hK hP hD hS hA rfl (by decide) (Nat.le_of_ble_eq_true rfl) (Nat.le_of_ble_eq_true rfl) dX4_row_25 (fun h0 H0 hP hD hS => ?_)
      obtain ⟨n0, hP, hD⟩ := tw_push hP hD
      refine lv_dup hx hb dX4_row_28 rfl ?_
      refine lv_iload_n hx hb dX4_row_29 rfl (lv_at hl 2 rfl) ?_
      refine cs_w (As := [.int (b2i w)]) (rest := [.ref h0, .ref h0, .int (nI kx), .ref q.2.1]) ⟨hx, hb, hml, hown, hts⟩ (mX4_widthOf l ad w) (va_cwS 1 hts gX4_row_X4_widthOf rfl rfl rfl (by decide +kernel) ⟨Nat.le_of_ble_eq_true rfl, Nat.le_of_ble_eq_true rfl⟩) hE hS rfl rfl hl.1 (Nat.le_of_ble_eq_true rfl) dX4_row_30 (Nat.le_of_ble_eq_true rfl) (Nat.le_of_ble_eq_true rfl) ?_
      refine lv_iload_n hx hb dX4_row_33 rfl (lv_at hl 3 rfl) ?_
      refine va_newa (atype := .long) (ty := .long) (N' := kn) (a0 := (kn, .inr (.inl (fun _ => 0)))) hx hb (hts (.arrayClass .long) (List.mem_of_getElem? (i := 5) rfl)) rfl hK hP hD hS hA (fun _ => rfl) (nI_pos (by omega)) (nI_clamp (by omega)) (by show kn * 8 ≤ 536870912; omega) (Nat.le_of_ble_eq_true rfl) (by show 0 + 2 + kn ≤ 14; omega) dX4_row_34 (fun b0 cB H1 hK1 hP hD hS => ?_)
      obtain rfl : cJ = cB := same_cL hK1 (t0 := 0) rfl
      obtain ⟨n1, hP, hD⟩ := tw_push hP hD
      obtain ⟨k0, hk0⟩ := va_pl_get (X := TX q cG cK cR fr fg fk (zTo σ)) (L := L ++ [h0] ++ [b0]) (f := va_up (va_up f h0 (.inr (2, [.null, .null]))) b0 (.inl (cJ, kn, .inr (.inl (fun _ => 0))))) (a := h0) (by simp)
      have e0 : (va_up (va_up f h0 (.inr (2, [.null, .null]))) b0 (.inl (cJ, kn, .inr (.inl (fun _ => 0))))) h0 = .inr (2, [.null, .null]) := by rw [va_up_ne _ _ (fun z => n1 (by rw [← z]; simp)), va_up_self]
      have hk1 := hk0
      rw [e0] at hk1
      refine ct_i (mc := 0) (ms := 0) (As := [.ref (ad (fX4_widthOf w)), .ref b0]) (rest := [.ref h0, .int (nI kx), .ref q.2.1]) ⟨hx, hb, hml, hown, hts⟩ (mX2_init l dC dI (tys0 cJ cG cK cR cI cZ cD) (TWs q cG cK cR fr fg fk (zTo σ) (L ++ [h0] ++ [b0]) (va_up (va_up f h0 (.inr (2, [.null, .null]))) b0 (.inl (cJ, kn, .inr (.inl (fun _ => 0)))))) k0 h0 _ (ad (fX4_widthOf w)) b0 hk1) (cwI 2 hts gX4_row_X2_init rfl rfl rfl (hts (.initialized RX2) (List.mem_of_getElem? (i := 4) rfl)) (hts (.methodLink RX4 39 yX2_init) (List.mem_of_getElem? (i := 15) rfl)) (hts (.instanceMethod yX2_init) (List.mem_of_getElem? (i := 16) rfl)) rfl (by decide +kernel) ⟨Nat.le_of_ble_eq_true rfl, Nat.le_of_ble_eq_true rfl⟩) hK hP hD hS hA rfl rfl hl.1 (Nat.le_of_ble_eq_true rfl) dX4_row_36 ⟨(Nat.le_of_ble_eq_true rfl), by show 0 + 2 + kn + 0 ≤ 14; omega⟩ (fun t1 H1 locs1 ht1 hB1 hS1 => ?_)
      rw [ht1] at hB1
      have hD2 := hB1.2.weaken (fun _ _ _ h9 => fr_all hD hS hA _ h9)
      have hP2 := hB1.1
      rw [va_pl_set hD (by simp) hk0] at hP2 hD2
      have hP := hP2
      have hD := hD2
      have hS := hS1
      refine px_astq (ci := 2) hx hb hK hP hD hS 1 3 rfl rfl (v := h0) (by simp) (va_up_self _ _ _) rfl (k := kx) rfl (by omega) (by decide) dX4_row_39 (fun H locs hP hD hS => ?_)
      have hP : va_P (dC, dI) vwCl (TWs q cG cK cR (va_up fr kx (some h0)) fg fk (zTo σ) (L ++ [h0] ++ [b0]) (va_up (va_up (va_up f h0 (.inr (2, [.null, .null]))) b0 (.inl (cJ, kn, .inr (.inl (fun _ => 0))))) h0 (.inr (2, [.ref (ad (fX4_widthOf w)), .ref b0])))) _ := hP
      have hD : va_D A (TWs q cG cK cR (va_up fr kx (some h0)) fg fk (zTo σ) (L ++ [h0] ++ [b0]) (va_up (va_up (va_up f h0 (.inr (2, [.null, .null]))) b0 (.inl (cJ, kn, .inr (.inl (fun _ => 0))))) h0 (.inr (2, [.ref (ad (fX4_widthOf w)), .ref b0])))) := hD
      have hR1 : TRel ad cJ cG fr fg fk (L ++ [h0] ++ [b0]) (va_up (va_up (va_up f h0 (.inr (2, [.null, .null]))) b0 (.inl (cJ, kn, .inr (.inl (fun _ => 0))))) h0 (.inr (2, [.ref (ad (fX4_widthOf w)), .ref b0]))) ra rb ka kb hf σ := TRel_grow hR (fun a h => by simp [h]) (fun a h => by rw [va_up_ne _ _ (fun z => n0 (by rw [← z]; exact h)), va_up_ne _ _ (fun z => n1 (by rw [← z]; simp [h])), va_up_ne _ _ (fun z => n0 (by rw [← z]; exact h))])
      have hR : TRel ad cJ cG (va_up fr kx (some h0)) fg fk (L ++ [h0] ++ [b0]) (va_up (va_up (va_up f h0 (.inr (2, [.null, .null]))) b0 (.inl (cJ, kn, .inr (.inl (fun _ => 0))))) h0 (.inr (2, [.ref (ad (fX4_widthOf w)), .ref b0]))) (va_up ra (zNr σ) h0) (va_up rb (zNr σ) b0) ka kb hf (uRow σ kx w kn) := TRel_row hR1 hI.2.2.1 kx (by simp) (by simp) (fun a h z => n1 (by rw [← z]; simp [(hR.1 a h).2.2.1])) (va_up_self _ _ _) (by rw [va_up_ne _ _ (fun z => n1 (by rw [z]; simp)), va_up_self])
      refine lv_iconst (v := 1) hx hb dX4_row_40 (by decide) ?_
      refine W.widen (k := 2) (n := 14) (by omega) (by omega) ?_
      exact W.iret hx hb hr (fun t ht hW => ⟨⟨_, (uRow σ kx w kn), rfl, (by unfold oRow; (try simp only [if_pos c_1, if_pos c_2, nI_clamp (show kx < 2 ^ 31 by omega), nI_clamp (show kn < 2 ^ 31 by omega), Option.getD_some, reduceCtorEq, if_true, if_false, Option.isNone_some, Option.isNone_none, Bool.false_or, Bool.true_or, Bool.not_true, Bool.not_false]); try rfl), ⟨_, _, _, _, _, _, _, _, _, _, _, rfl, by rw [ht]; exact hP, hD, hR⟩⟩, hS.F ht⟩) hS.2.2 dX4_row_41
    · refine lv_iconst (v := -1) hx hb dX4_row_18 (by decide) ?_
      refine W.widen (k := 2) (n := 14) (by omega) (by omega) ?_
      exact W.iret hx hb hr (fun t ht hW => ⟨⟨_, σ, rfl, (by unfold oRow; (try simp only [if_pos c_1, if_neg c_2, nI_clamp (show kx < 2 ^ 31 by omega), Option.getD_some, reduceCtorEq, if_true, if_false, Option.isNone_some, Option.isNone_none, Bool.false_or, Bool.true_or, Bool.not_true, Bool.not_false]); try rfl), ⟨_, _, _, _, _, _, _, _, _, _, _, rfl, by rw [ht]; exact hP, hD, hR⟩⟩, hS.F ht⟩) hS.2.2 dX4_row_19
set_option maxHeartbeats 8000000 in
set_option maxRecDepth 100000 in
theorem mX4_gauge (l : Launch) (dC : Nat → ClassId) (dI : Nat → Nat → Nat) (ad : Nat → Nat) (q : Aq) (cJ cG cK cR cI cZ cD : ClassId) (fr fg fk : Nat → Option Nat) (L : List Nat) (f : Nat → va_E) (ra rb ka kb : Nat → Nat) (hf : Nat → Nat → Option Nat) (σ : St) (hR : TRel ad cJ cG fr fg fk L f ra rb ka kb hf σ) (N0 : Nat) (hI : Inv σ N0) (hN : N0 ≤ 512) (sz : Nat) (x : Int32) (k : Int32) (b : Int64) : Met l yX4_gauge wsX4_gauge ({ frames := 3, cells := 1, slots := 2, locals := 65 }) (va_Pc [.ref q.1, .int x, .int k, .long b] (fun U => U.heap.size = sz ∧ va_P (dC, dI) vwCl (TWs q cG cK cR fr fg fk (zTo σ) L f) U.heap ∧ va_K (dC, dI) vwCl (tys0 cJ cG cK cR cI cZ cD) U ∧ va_D (fun _ => True) (TWs q cG cK cR fr fg fk (zTo σ) L f) ∧ EN ad (va_A (TWs q cG cK cR fr fg fk (zTo σ) L f) sz) U U.heap)) (va_Qi (fun (r : Int32) (τ : St) => (r, τ) = oGauge σ x k b) (fun τ t => TP dC dI ad cJ cG cK cR (va_A (TWs q cG cK cR fr fg fk (zTo σ) L f) sz) q.1 τ t) (va_A (TWs q cG cK cR fr fg fk (zTo σ) L f) sz)) 1 2 (va_A (TWs q cG cK cR fr fg fk (zTo σ) L f) sz) := by
  refine Met.ofW (cc := cX4_gauge) (maxL := 5) (ret := (some .int)) (by decide) rfl ?_
  intro p e s m args below meth c s₁ B hml hv
  obtain ⟨rfl, hsz, hP, hK, hD0, hE⟩ := hv
  have hx := B.exec
  have hb := B.bytes
  have hr := B.returns
  have hts := atoms_spec (ws := wsX4_gauge) B.pre
  have hown : s.vm.findClass RX4 = some m.cls := findClass_of_methodNamed B.named
  have hlocks := B.notSynchronized
  have hN1 := hI.1
  have hN2 := hI.2.1
  subst hsz
  have hD := hD0.self (sz := s.heap.size)
  generalize hAe : va_A (TWs q cG cK cR fr fg fk (zTo σ) L f) s.heap.size = A at hD hE ⊢
  have hA : ∀ z : Nat, s.heap.size ≤ z → A z := fun z h => by rw [← hAe]; exact Or.inr h
  have hS : va_S A s.heap s.heap [] := va_S.rf
  have hl := lv_entry ([.ref q.1, .int x, .int k, .long b]) (n := 5) (Nat.le_of_ble_eq_true rfl)
  rw [lg_entry_eq]
  generalize (lg_sl ([.ref q.1, .int x, .int k, .long b]) ++ List.replicate (5 - (lg_sl ([.ref q.1, .int x, .int k, .long b])).length) Slot.unset).toArray = ls at hl ⊢
  have hl : lv_has ls 5 [(0, .ref q.1), (1, .int x), (2, .int k), (3, .long b)] := hl
  refine lv_iload_n hx hb dX4_gauge_0 rfl (lv_at hl 1 rfl) ?_
  refine lv_bipush (v := 6) hx hb dX4_gauge_1 (by decide) ?_
  refine cs_0 (As := [.int x, .int (6 : Int32)]) (rest := []) ⟨hx, hb, hml, hown, hts⟩ (mX4_isBelowN l x (6 : Int32) 6 rfl (by decide)) (va_cwS 2 hts gX4_gauge_X4_isBelow rfl rfl rfl (by decide +kernel) ⟨Nat.le_of_ble_eq_true rfl, Nat.le_of_ble_eq_true rfl⟩) rfl rfl hl.1 (Nat.le_of_ble_eq_true rfl) dX4_gauge_3 (Nat.le_of_ble_eq_true rfl) (Nat.le_of_ble_eq_true rfl) ?_
  refine w_beq (tgt := 24) hx hb dX4_gauge_6 (by decide) (fun c_1 => ?_) (fun c_1 => ?_)
  · refine lv_iconst (v := -1) hx hb dX4_gauge_24 (by decide) ?_
    refine W.widen (k := 1) (n := 2) (by omega) (by omega) ?_
    exact W.iret hx hb hr (fun t ht hW => ⟨⟨_, σ, rfl, (by unfold oGauge; (try simp only [if_neg c_1, Option.getD_some, reduceCtorEq, if_true, if_false, Option.isNone_some, Option.isNone_none, Bool.false_or, Bool.true_or, Bool.not_true, Bool.not_false]); try rfl), ⟨_, _, _, _, _, _, _, _, _, _, _, rfl, by rw [ht]; exact hP, hD, hR⟩⟩, hS.F ht⟩) hS.2.2 dX4_gauge_25
  · obtain ⟨kx, hkx, rfl⟩ := ixb_some c_1 (by decide)
    refine lv_iload_n hx hb dX4_gauge_9 rfl (lv_at hl 2 rfl) ?_
    refine lv_iconst (v := 3) hx hb dX4_gauge_10 (by decide) ?_
    refine cs_0 (As := [.int k, .int (3 : Int32)]) (rest := []) ⟨hx, hb, hml, hown, hts⟩ (mX4_isBelowN l k (3 : Int32) 3 rfl (by decide)) (va_cwS 2 hts gX4_gauge_X4_isBelow rfl rfl rfl (by decide +kernel) ⟨Nat.le_of_ble_eq_true rfl, Nat.le_of_ble_eq_true rfl⟩) rfl rfl hl.1 (Nat.le_of_ble_eq_true rfl) dX4_gauge_11 (Nat.le_of_ble_eq_true rfl) (Nat.le_of_ble_eq_true rfl) ?_
    refine w_beq (tgt := 24) hx hb dX4_gauge_14 (by decide) (fun c_2 => ?_) (fun c_2 => ?_)
    · refine lv_iconst (v := -1) hx hb dX4_gauge_24 (by decide) ?_
      refine W.widen (k := 1) (n := 2) (by omega) (by omega) ?_
      exact W.iret hx hb hr (fun t ht hW => ⟨⟨_, σ, rfl, (by unfold oGauge; (try simp only [if_pos c_1, if_neg c_2, nI_clamp (show kx < 2 ^ 31 by omega), Option.getD_some, reduceCtorEq, if_true, if_false, Option.isNone_some, Option.isNone_none, Bool.false_or, Bool.true_or, Bool.not_true, Bool.not_false]); try rfl), ⟨_, _, _, _, _, _, _, _, _, _, _, rfl, by rw [ht]; exact hP, hD, hR⟩⟩, hS.F ht⟩) hS.2.2 dX4_gauge_25
    · obtain ⟨kk, hkk, rfl⟩ := ixb_some c_2 (by decide)
      refine lv_lload_n hx hb dX4_gauge_17 rfl (lv_at hl 3 rfl) ?_
      refine cs_w (As := [.long b]) (rest := []) ⟨hx, hb, hml, hown, hts⟩ (mX4_isSpan l ad b) (va_cwS 1 hts gX4_gauge_X4_isSpan rfl rfl rfl (by decide +kernel) ⟨Nat.le_of_ble_eq_true rfl, Nat.le_of_ble_eq_true rfl⟩) hE hS rfl rfl hl.1 (Nat.le_of_ble_eq_true rfl) dX4_gauge_18 (Nat.le_of_ble_eq_true rfl) (Nat.le_of_ble_eq_true rfl) ?_
      refine w_bne (tgt := 26) hx hb dX4_gauge_21 (by decide) (fun c_3 => ?_) (fun c_3 => ?_)
      · have gc_3 := c_3; rw [A_span, Bool.and_eq_true, Bool.and_eq_true, Bool.not_eq_true', Bool.not_eq_true'] at gc_3
        refine lv_aload_n hx hb dX4_gauge_26 rfl (lv_at hl 0 rfl) ?_
        refine va_get (D := (dC, dI)) (ci := 4) (v := .ref q.2.2.1) (C := RX4) (T := TX4) (N := 4) hx hb hts (fun w h => List.mem_cons_of_mem _ (List.mem_append_left _ (List.mem_append_right _ h))) hown hK hP 0 rfl rfl 1 (by decide) (hts (.fieldLink RX4 17 "TideGauges" "gauges" "[LTideGauges$Gauge;") (List.mem_of_getElem? (i := 1) rfl)) (fun _ h9 => h9) rfl dX4_gauge_27 ?_
        refine lv_iload_n hx hb dX4_gauge_30 rfl (lv_at hl 1 rfl) ?_
        refine va_new (D := (dC, dI)) (ci := 0) (C := RX0) (T := TX0) (N := 2) (fs := [.int 0, .long 0]) hx hb hts (fun w h => List.mem_cons_of_mem _ (List.mem_append_right _ h)) tyX0 tyX0_ok hown (hts (.classLink RX4 15 RX0) (List.mem_of_getElem? (i := 2) rfl)) (hts (.instantiable RX0 2) (List.mem_of_getElem? (i := 3) rfl)) (hts (.initialized RX0) (List.mem_of_getElem? (i := 4) rfl)) hK hP hD hS hA rfl (by decide) (Nat.le_of_ble_eq_true rfl) (Nat.le_of_ble_eq_true rfl) dX4_gauge_31 (fun h0 H0 hP hD hS => ?_)
        obtain ⟨n0, hP, hD⟩ := tw_push hP hD
        refine lv_dup hx hb dX4_gauge_34 rfl ?_
        refine lv_iload_n hx hb dX4_gauge_35 rfl (lv_at hl 2 rfl) ?_
        refine lv_lload_n hx hb dX4_gauge_36 rfl (lv_at hl 3 rfl) ?_
        obtain ⟨k0, hk0⟩ := va_pl_get (X := TX q cG cK cR fr fg fk (zTo σ)) (L := L ++ [h0]) (f := va_up f h0 (.inr (0, [.int 0, .long 0]))) (a := h0) (by simp)
        have e0 : (va_up f h0 (.inr (0, [.int 0, .long 0]))) h0 = .inr (0, [.int 0, .long 0]) := by rw [va_up_self]
        have hk1 := hk0
        rw [e0] at hk1
        refine ct_i (mc := 0) (ms := 0) (As := [.int (nI kk), .long b]) (rest := [.ref h0, .int (nI kx), .ref q.2.2.1]) ⟨hx, hb, hml, hown, hts⟩ (mX0_init l dC dI (tys0 cJ cG cK cR cI cZ cD) (TWs q cG cK cR fr fg fk (zTo σ) (L ++ [h0]) (va_up f h0 (.inr (0, [.int 0, .long 0])))) k0 h0 _ (nI kk) b hk1) (cwI 2 hts gX4_gauge_X0_init rfl rfl rfl (hts (.initialized RX0) (List.mem_of_getElem? (i := 4) rfl)) (hts (.methodLink RX4 116 yX0_init) (List.mem_of_getElem? (i := 32) rfl)) (hts (.instanceMethod yX0_init) (List.mem_of_getElem? (i := 33) rfl)) rfl (by decide +kernel) ⟨Nat.le_of_ble_eq_true rfl, Nat.le_of_ble_eq_true rfl⟩) hK hP hD hS hA rfl rfl hl.1 (Nat.le_of_ble_eq_true rfl) dX4_gauge_37 ⟨(Nat.le_of_ble_eq_true rfl), (Nat.le_of_ble_eq_true rfl)⟩ (fun t1 H1 locs1 ht1 hB1 hS1 => ?_)
        rw [ht1] at hB1
        have hD2 := hB1.2.weaken (fun _ _ _ h9 => fr_all hD hS hA _ h9)
        have hP2 := hB1.1
        rw [va_pl_set hD (by simp) hk0] at hP2 hD2
        have hP := hP2
        have hD := hD2
        have hS := hS1
        refine px_astq (ci := 0) hx hb hK hP hD hS 2 1 rfl rfl (v := h0) (by simp) (va_up_self _ _ _) rfl (k := kx) rfl (by omega) (by decide) dX4_gauge_40 (fun H locs hP hD hS => ?_)
        have hP : va_P (dC, dI) vwCl (TWs q cG cK cR fr (va_up fg kx (some h0)) fk (zTo σ) (L ++ [h0]) (va_up (va_up f h0 (.inr (0, [.int 0, .long 0]))) h0 (.inr (0, [.int (nI kk), .long b])))) _ := hP
        have hD : va_D A (TWs q cG cK cR fr (va_up fg kx (some h0)) fk (zTo σ) (L ++ [h0]) (va_up (va_up f h0 (.inr (0, [.int 0, .long 0]))) h0 (.inr (0, [.int (nI kk), .long b])))) := hD
        have hR1 : TRel ad cJ cG fr fg fk (L ++ [h0]) (va_up (va_up f h0 (.inr (0, [.int 0, .long 0]))) h0 (.inr (0, [.int (nI kk), .long b]))) ra rb ka kb hf σ := TRel_grow hR (fun a h => by simp [h]) (fun a h => by rw [va_up_ne _ _ (fun z => n0 (by rw [← z]; exact h)), va_up_ne _ _ (fun z => n0 (by rw [← z]; exact h))])
        have hR : TRel ad cJ cG fr (va_up fg kx (some h0)) fk (L ++ [h0]) (va_up (va_up f h0 (.inr (0, [.int 0, .long 0]))) h0 (.inr (0, [.int (nI kk), .long b]))) ra rb ka kb hf (uGauge σ kx (nI kk) b) := TRel_gauge hR1 hI.2.2.2.2.2.2.1 hI.2.2.2.2.2.2.2.2 kx (by simp) (va_up_self _ _ _)
        refine lv_iconst (v := 1) hx hb dX4_gauge_41 (by decide) ?_
        refine W.widen (k := 1) (n := 2) (by omega) (by omega) ?_
        exact W.iret hx hb hr (fun t ht hW => ⟨⟨_, (uGauge σ kx (nI kk) b), rfl, (by unfold oGauge; (try simp only [if_pos c_1, if_pos c_2, if_pos gc_3.1, if_neg (by rw [gc_3.2.1]; decide : ¬ zer b.toUInt64 = true), if_neg (by rw [gc_3.2.2]; decide : ¬ fX5_isEndless b.toUInt64 = true), nI_clamp (show kx < 2 ^ 31 by omega), nI_clamp (show kk < 2 ^ 31 by omega), Option.getD_some, reduceCtorEq, if_true, if_false, Option.isNone_some, Option.isNone_none, Bool.false_or, Bool.true_or, Bool.not_true, Bool.not_false]); try rfl), ⟨_, _, _, _, _, _, _, _, _, _, _, rfl, by rw [ht]; exact hP, hD, hR⟩⟩, hS.F ht⟩) hS.2.2 dX4_gauge_42
      · refine lv_iconst (v := -1) hx hb dX4_gauge_24 (by decide) ?_
        refine W.widen (k := 1) (n := 2) (by omega) (by omega) ?_
        exact W.iret hx hb hr (fun t ht hW => ⟨⟨_, σ, rfl, (by unfold oGauge; (try simp only [if_pos c_1, if_pos c_2, nI_clamp (show kx < 2 ^ 31 by omega), nI_clamp (show kk < 2 ^ 31 by omega), Option.getD_some, reduceCtorEq, if_true, if_false, Option.isNone_some, Option.isNone_none, Bool.false_or, Bool.true_or, Bool.not_true, Bool.not_false]); (repeat' split) <;> first | rfl | (exfalso; apply c_3; rw [A_span]; simp_all)), ⟨_, _, _, _, _, _, _, _, _, _, _, rfl, by rw [ht]; exact hP, hD, hR⟩⟩, hS.F ht⟩) hS.2.2 dX4_gauge_25
set_option maxHeartbeats 8000000 in
set_option maxRecDepth 100000 in
theorem mX4_rack (l : Launch) (dC : Nat → ClassId) (dI : Nat → Nat → Nat) (ad : Nat → Nat) (q : Aq) (cJ cG cK cR cI cZ cD : ClassId) (fr fg fk : Nat → Option Nat) (L : List Nat) (f : Nat → va_E) (ra rb ka kb : Nat → Nat) (hf : Nat → Nat → Option Nat) (σ : St) (hR : TRel ad cJ cG fr fg fk L f ra rb ka kb hf σ) (N0 : Nat) (hI : Inv σ N0) (hN : N0 ≤ 512) (sz : Nat) (rr : Int32) (k : Int32) : Met l yX4_rack wsX4_rack ({ frames := 2, cells := 2, slots := 6, locals := 33 }) (va_Pc [.ref q.1, .int rr, .int k] (fun U => U.heap.size = sz ∧ va_P (dC, dI) vwCl (TWs q cG cK cR fr fg fk (zTo σ) L f) U.heap ∧ va_K (dC, dI) vwCl (tys0 cJ cG cK cR cI cZ cD) U ∧ va_D (fun _ => True) (TWs q cG cK cR fr fg fk (zTo σ) L f) ∧ EN ad (va_A (TWs q cG cK cR fr fg fk (zTo σ) L f) sz) U U.heap ∧ va_AO "TideGauges$Gauge" U)) (va_Qi (fun (r : Int32) (τ : St) => (r, τ) = oRack σ rr k) (fun τ t => TP dC dI ad cJ cG cK cR (va_A (TWs q cG cK cR fr fg fk (zTo σ) L f) sz) q.1 τ t) (va_A (TWs q cG cK cR fr fg fk (zTo σ) L f) sz)) 2 6 (va_A (TWs q cG cK cR fr fg fk (zTo σ) L f) sz) := by
  refine Met.ofW (cc := cX4_rack) (maxL := 3) (ret := (some .int)) (by decide) rfl ?_
  intro p e s m args below meth c s₁ B hml hv
  obtain ⟨rfl, hsz, hP, hK, hD0, hE, hAO⟩ := hv
  have hx := B.exec
  have hb := B.bytes
  have hr := B.returns
  have hts := atoms_spec (ws := wsX4_rack) B.pre
  have hown : s.vm.findClass RX4 = some m.cls := findClass_of_methodNamed B.named
  have hlocks := B.notSynchronized
  have hN1 := hI.1
  have hN2 := hI.2.1
  subst hsz
  have hD := hD0.self (sz := s.heap.size)
  generalize hAe : va_A (TWs q cG cK cR fr fg fk (zTo σ) L f) s.heap.size = A at hD hE ⊢
  have hA : ∀ z : Nat, s.heap.size ≤ z → A z := fun z h => by rw [← hAe]; exact Or.inr h
  have hS : va_S A s.heap s.heap [] := va_S.rf
  have hl := lv_entry ([.ref q.1, .int rr, .int k]) (n := 3) (Nat.le_of_ble_eq_true rfl)
  rw [lg_entry_eq]
  generalize (lg_sl ([.ref q.1, .int rr, .int k]) ++ List.replicate (3 - (lg_sl ([.ref q.1, .int rr, .int k])).length) Slot.unset).toArray = ls at hl ⊢
  have hl : lv_has ls 3 [(0, .ref q.1), (1, .int rr), (2, .int k)] := hl
  refine lv_iload_n hx hb dX4_rack_0 rfl (lv_at hl 1 rfl) ?_
  refine lv_iconst (v := 3) hx hb dX4_rack_1 (by decide) ?_
  refine cs_0 (As := [.int rr, .int (3 : Int32)]) (rest := []) ⟨hx, hb, hml, hown, hts⟩ (mX4_isBelowN l rr (3 : Int32) 3 rfl (by decide)) (va_cwS 2 hts gX4_rack_X4_isBelow rfl rfl rfl (by decide +kernel) ⟨Nat.le_of_ble_eq_true rfl, Nat.le_of_ble_eq_true rfl⟩) rfl rfl hl.1 (Nat.le_of_ble_eq_true rfl) dX4_rack_2 (Nat.le_of_ble_eq_true rfl) (Nat.le_of_ble_eq_true rfl) ?_
  refine w_beq (tgt := 16) hx hb dX4_rack_5 (by decide) (fun c_1 => ?_) (fun c_1 => ?_)
  · refine lv_iconst (v := -1) hx hb dX4_rack_16 (by decide) ?_
    refine W.widen (k := 2) (n := 6) (by omega) (by omega) ?_
    exact W.iret hx hb hr (fun t ht hW => ⟨⟨_, σ, rfl, (by unfold oRack; (try simp only [if_neg c_1, Option.getD_some, reduceCtorEq, if_true, if_false, Option.isNone_some, Option.isNone_none, Bool.false_or, Bool.true_or, Bool.not_true, Bool.not_false]); try rfl), ⟨_, _, _, _, _, _, _, _, _, _, _, rfl, by rw [ht]; exact hP, hD, hR⟩⟩, hS.F ht⟩) hS.2.2 dX4_rack_17
  · obtain ⟨krr, hkrr, rfl⟩ := ixb_some c_1 (by decide)
    refine lv_iload_n hx hb dX4_rack_8 rfl (lv_at hl 2 rfl) ?_
    refine lv_iconst (v := 3) hx hb dX4_rack_9 (by decide) ?_
    refine cs_0 (As := [.int k, .int (3 : Int32)]) (rest := []) ⟨hx, hb, hml, hown, hts⟩ (mX4_isBelowN l k (3 : Int32) 3 rfl (by decide)) (va_cwS 2 hts gX4_rack_X4_isBelow rfl rfl rfl (by decide +kernel) ⟨Nat.le_of_ble_eq_true rfl, Nat.le_of_ble_eq_true rfl⟩) rfl rfl hl.1 (Nat.le_of_ble_eq_true rfl) dX4_rack_10 (Nat.le_of_ble_eq_true rfl) (Nat.le_of_ble_eq_true rfl) ?_
    refine w_bne (tgt := 18) hx hb dX4_rack_13 (by decide) (fun c_2 => ?_) (fun c_2 => ?_)
    · obtain ⟨kk, hkk, rfl⟩ := ixb_some c_2 (by decide)
      refine lv_aload_n hx hb dX4_rack_18 rfl (lv_at hl 0 rfl) ?_
      refine va_get (D := (dC, dI)) (ci := 4) (v := .ref q.2.2.2) (C := RX4) (T := TX4) (N := 4) hx hb hts (fun w h => List.mem_cons_of_mem _ (List.mem_append_left _ (List.mem_append_right _ h))) hown hK hP 0 rfl rfl 2 (by decide) (hts (.fieldLink RX4 23 "TideGauges" "racks" "[LTideGauges$Rack;") (List.mem_of_getElem? (i := 1) rfl)) (fun _ h9 => h9) rfl dX4_rack_19 ?_
      refine lv_iload_n hx hb dX4_rack_22 rfl (lv_at hl 1 rfl) ?_
      refine va_new (D := (dC, dI)) (ci := 1) (C := RX1) (T := TX1) (N := 2) (fs := [.int 0, .null]) hx hb hts (fun w h => List.mem_cons_of_mem _ (List.mem_append_right _ h)) tyX1 tyX1_ok hown (hts (.classLink RX4 21 RX1) (List.mem_of_getElem? (i := 2) rfl)) (hts (.instantiable RX1 2) (List.mem_of_getElem? (i := 3) rfl)) (hts (.initialized RX1) (List.mem_of_getElem? (i := 4) rfl)) hK hP hD hS hA rfl (by decide) (Nat.le_of_ble_eq_true rfl) (Nat.le_of_ble_eq_true rfl) dX4_rack_23 (fun h0 H0 hP hD hS => ?_)
      obtain ⟨n0, hP, hD⟩ := tw_push hP hD
      refine lv_dup hx hb dX4_rack_26 rfl ?_
      refine lv_iload_n hx hb dX4_rack_27 rfl (lv_at hl 2 rfl) ?_
      obtain ⟨k0, hk0⟩ := va_pl_get (X := TX q cG cK cR fr fg fk (zTo σ)) (L := L ++ [h0]) (f := va_up f h0 (.inr (1, [.int 0, .null]))) (a := h0) (by simp)
      have e0 : (va_up f h0 (.inr (1, [.int 0, .null]))) h0 = .inr (1, [.int 0, .null]) := by rw [va_up_self]
      have hk1 := hk0
      rw [e0] at hk1
      refine ct_ia (mc := 1) (ms := 4) (As := [.int (nI kk)]) (rest := [.ref h0, .int (nI krr), .ref q.2.2.2]) ⟨hx, hb, hml, hown, hts⟩ (mX1_init l dC dI cJ cG cK cR cI cZ cD (TWs q cG cK cR fr fg fk (zTo σ) (L ++ [h0]) (va_up f h0 (.inr (1, [.int 0, .null])))) k0 h0 _ (nI kk) hk1) (cwI 1 hts gX4_rack_X1_init rfl rfl rfl (hts (.initialized RX1) (List.mem_of_getElem? (i := 4) rfl)) (hts (.methodLink RX4 128 yX1_init) (List.mem_of_getElem? (i := 9) rfl)) (hts (.instanceMethod yX1_init) (List.mem_of_getElem? (i := 10) rfl)) rfl (by decide +kernel) ⟨Nat.le_of_ble_eq_true rfl, Nat.le_of_ble_eq_true rfl⟩) hAO hK hP hD hS hA rfl rfl hl.1 (Nat.le_of_ble_eq_true rfl) dX4_rack_28 ⟨(Nat.le_of_ble_eq_true rfl), (Nat.le_of_ble_eq_true rfl)⟩ (fun t1 H1 locs1 ht1 hB1 hS1 => ?_)
      rw [ht1] at hB1
      obtain ⟨b0, hP2, hD2⟩ := hB1
      have hD2 := hD2.weaken (fun _ _ _ h9 => fr_all hD hS hA _ h9)
      obtain ⟨n1, hP, hD⟩ := tw_push2 hk0 (by simp) hP2 hD2
      have hS := hS1
      refine px_astq (ci := 1) hx hb hK hP hD hS 3 2 rfl rfl (v := h0) (by simp) (va_up_self _ _ _) rfl (k := krr) rfl (by omega) (by decide) dX4_rack_31 (fun H locs hP hD hS => ?_)
      have hP : va_P (dC, dI) vwCl (TWs q cG cK cR fr fg (va_up fk krr (some h0)) (zTo σ) (L ++ [h0] ++ [b0]) (va_up (va_up (va_up f h0 (.inr (1, [.int 0, .null]))) b0 (.inl (cG, 4, .inr (.inr (.inr (.inr (fun _ => none))))))) h0 (.inr (1, [.int (nI kk), .ref b0])))) _ := hP
      have hD : va_D A (TWs q cG cK cR fr fg (va_up fk krr (some h0)) (zTo σ) (L ++ [h0] ++ [b0]) (va_up (va_up (va_up f h0 (.inr (1, [.int 0, .null]))) b0 (.inl (cG, 4, .inr (.inr (.inr (.inr (fun _ => none))))))) h0 (.inr (1, [.int (nI kk), .ref b0])))) := hD
      have hR1 : TRel ad cJ cG fr fg fk (L ++ [h0] ++ [b0]) (va_up (va_up (va_up f h0 (.inr (1, [.int 0, .null]))) b0 (.inl (cG, 4, .inr (.inr (.inr (.inr (fun _ => none))))))) h0 (.inr (1, [.int (nI kk), .ref b0]))) ra rb ka kb hf σ := TRel_grow hR (fun a h => by simp [h]) (fun a h => by rw [va_up_ne _ _ (fun z => n0 (by rw [← z]; exact h)), va_up_ne _ _ (fun z => n1 (by rw [← z]; simp [h])), va_up_ne _ _ (fun z => n0 (by rw [← z]; exact h))])
      have hR : TRel ad cJ cG fr fg (va_up fk krr (some h0)) (L ++ [h0] ++ [b0]) (va_up (va_up (va_up f h0 (.inr (1, [.int 0, .null]))) b0 (.inl (cG, 4, .inr (.inr (.inr (.inr (fun _ => none))))))) h0 (.inr (1, [.int (nI kk), .ref b0]))) ra rb (va_up ka krr h0) (va_up kb krr b0) (va_up hf krr (fun _ => none)) (uRack σ krr (nI kk)) := TRel_rack hR1 (by omega) (by simp) (by simp) (fun t h z y => n1 (by obtain ⟨k9, h9⟩ := Option.ne_none_iff_exists'.mp z; rw [← y]; simp [(tr_ksome hR h h9).2.2.2.1])) (va_up_self _ _ _) (by rw [va_up_ne _ _ (fun z => n1 (by rw [z]; simp)), va_up_self])
      refine lv_iconst (v := 1) hx hb dX4_rack_32 (by decide) ?_
      refine W.widen (k := 2) (n := 6) (by omega) (by omega) ?_
      exact W.iret hx hb hr (fun t ht hW => ⟨⟨_, (uRack σ krr (nI kk)), rfl, (by unfold oRack; (try simp only [if_pos c_1, if_pos c_2, nI_clamp (show krr < 2 ^ 31 by omega), nI_clamp (show kk < 2 ^ 31 by omega), Option.getD_some, reduceCtorEq, if_true, if_false, Option.isNone_some, Option.isNone_none, Bool.false_or, Bool.true_or, Bool.not_true, Bool.not_false]); try rfl), ⟨_, _, _, _, _, _, _, _, _, _, _, rfl, by rw [ht]; exact hP, hD, hR⟩⟩, hS.F ht⟩) hS.2.2 dX4_rack_33
    · refine lv_iconst (v := -1) hx hb dX4_rack_16 (by decide) ?_
      refine W.widen (k := 2) (n := 6) (by omega) (by omega) ?_
      exact W.iret hx hb hr (fun t ht hW => ⟨⟨_, σ, rfl, (by unfold oRack; (try simp only [if_pos c_1, if_neg c_2, nI_clamp (show krr < 2 ^ 31 by omega), Option.getD_some, reduceCtorEq, if_true, if_false, Option.isNone_some, Option.isNone_none, Bool.false_or, Bool.true_or, Bool.not_true, Bool.not_false]); try rfl), ⟨_, _, _, _, _, _, _, _, _, _, _, rfl, by rw [ht]; exact hP, hD, hR⟩⟩, hS.F ht⟩) hS.2.2 dX4_rack_17
set_option maxHeartbeats 8000000 in
set_option maxRecDepth 100000 in
theorem mX4_read (l : Launch) (dC : Nat → ClassId) (dI : Nat → Nat → Nat) (ad : Nat → Nat) (q : Aq) (cJ cG cK cR cI cZ cD : ClassId) (fr fg fk : Nat → Option Nat) (L : List Nat) (f : Nat → va_E) (ra rb ka kb : Nat → Nat) (hf : Nat → Nat → Option Nat) (σ : St) (hR : TRel ad cJ cG fr fg fk L f ra rb ka kb hf σ) (N0 : Nat) (hI : Inv σ N0) (hN : N0 ≤ 512) (sz : Nat) (x : Int32) (b : Int64) (u : Bool) : Met l yX4_read wsX4_read ({ frames := 6, cells := 0, slots := 0, locals := 166 }) (va_Pc [.ref q.1, .int x, .long b, .int (b2i u)] (fun U => U.heap.size = sz ∧ va_P (dC, dI) vwCl (TWs q cG cK cR fr fg fk (zTo σ) L f) U.heap ∧ va_K (dC, dI) vwCl (tys0 cJ cG cK cR cI cZ cD) U ∧ va_D (fun _ => True) (TWs q cG cK cR fr fg fk (zTo σ) L f) ∧ EN ad (va_A (TWs q cG cK cR fr fg fk (zTo σ) L f) sz) U U.heap)) (va_Qi (fun (r : Int32) (τ : St) => (r, τ) = oRead σ x b u) (fun τ t => TP dC dI ad cJ cG cK cR (va_A (TWs q cG cK cR fr fg fk (zTo σ) L f) sz) q.1 τ t) (va_A (TWs q cG cK cR fr fg fk (zTo σ) L f) sz)) 0 0 (va_A (TWs q cG cK cR fr fg fk (zTo σ) L f) sz) := by
  refine Met.ofW (cc := cX4_read) (maxL := 6) (ret := (some .int)) (by decide) rfl ?_
  intro p e s m args below meth c s₁ B hml hv
  obtain ⟨rfl, hsz, hP, hK, hD0, hE⟩ := hv
  have hx := B.exec
  have hb := B.bytes
  have hr := B.returns
  have hts := atoms_spec (ws := wsX4_read) B.pre
  have hown : s.vm.findClass RX4 = some m.cls := findClass_of_methodNamed B.named
  have hlocks := B.notSynchronized
  have hN1 := hI.1
  have hN2 := hI.2.1
  subst hsz
  have hD := hD0.self (sz := s.heap.size)
  generalize hAe : va_A (TWs q cG cK cR fr fg fk (zTo σ) L f) s.heap.size = A at hD hE ⊢
  have hA : ∀ z : Nat, s.heap.size ≤ z → A z := fun z h => by rw [← hAe]; exact Or.inr h
  have hS : va_S A s.heap s.heap [] := va_S.rf
  have hl := lv_entry ([.ref q.1, .int x, .long b, .int (b2i u)]) (n := 6) (Nat.le_of_ble_eq_true rfl)
  rw [lg_entry_eq]
  generalize (lg_sl ([.ref q.1, .int x, .long b, .int (b2i u)]) ++ List.replicate (6 - (lg_sl ([.ref q.1, .int x, .long b, .int (b2i u)])).length) Slot.unset).toArray = ls at hl ⊢
  have hl : lv_has ls 6 [(0, .ref q.1), (1, .int x), (2, .long b), (4, .int (b2i u))] := hl
  refine lv_iload_n hx hb dX4_read_0 rfl (lv_at hl 1 rfl) ?_
  refine lv_bipush (v := 6) hx hb dX4_read_1 (by decide) ?_
  refine cs_0 (As := [.int x, .int (6 : Int32)]) (rest := []) ⟨hx, hb, hml, hown, hts⟩ (mX4_isBelowN l x (6 : Int32) 6 rfl (by decide)) (va_cwS 2 hts gX4_read_X4_isBelow rfl rfl rfl (by decide +kernel) ⟨Nat.le_of_ble_eq_true rfl, Nat.le_of_ble_eq_true rfl⟩) rfl rfl hl.1 (Nat.le_of_ble_eq_true rfl) dX4_read_3 (Nat.zero_le _) (Nat.zero_le _) ?_
  refine w_beq (tgt := 19) hx hb dX4_read_6 (by decide) (fun c_1 => ?_) (fun c_1 => ?_)
  · refine lv_iconst (v := -1) hx hb dX4_read_19 (by decide) ?_
    exact W.iret hx hb hr (fun t ht hW => ⟨⟨_, σ, rfl, (by unfold oRead; (try simp only [if_neg c_1, Option.getD_some, reduceCtorEq, if_true, if_false, Option.isNone_some, Option.isNone_none, Bool.false_or, Bool.true_or, Bool.not_true, Bool.not_false]); try rfl), ⟨_, _, _, _, _, _, _, _, _, _, _, rfl, by rw [ht]; exact hP, hD, hR⟩⟩, hS.F ht⟩) hS.2.2 dX4_read_20
  · obtain ⟨kx, hkx, rfl⟩ := ixb_some c_1 (by decide)
    refine gs_w (i := 1) hx hb hE hS (by decide) rfl hown (hts (.fieldLink RX4 103 "TideGauges$Width" "DOUBLE" "LTideGauges$Width;") (List.mem_of_getElem? (i := 1) rfl)) dX4_read_9 ?_
    refine lv_lload_n hx hb dX4_read_12 rfl (lv_at hl 2 rfl) ?_
    refine cv_w (As := [.long b]) (rest := []) ⟨hx, hb, hml, hown, hts⟩ (mX3_isNumber l ad 1 (by decide) b) (cwV 1 hts gX4_read_X3_isNumber rfl rfl rfl (by decide +kernel) ⟨Nat.le_of_ble_eq_true rfl, Nat.le_of_ble_eq_true rfl⟩) hE hS (by decide) rfl rfl hl.1 (Nat.le_of_ble_eq_true rfl) dX4_read_13 (Nat.zero_le _) (Nat.zero_le _) ?_
    refine w_bne (tgt := 21) hx hb dX4_read_16 (by decide) (fun c_2 => ?_) (fun c_2 => ?_)
    · have gc_2 := c_2; rw [show (1 : Nat) = fX4_widthOf true from rfl, A_num] at gc_2
      refine lv_aload_n hx hb dX4_read_21 rfl (lv_at hl 0 rfl) ?_
      refine va_get (D := (dC, dI)) (ci := 4) (v := .ref q.2.2.1) (C := RX4) (T := TX4) (N := 4) hx hb hts (fun w h => List.mem_cons_of_mem _ (List.mem_append_left _ (List.mem_append_right _ h))) hown hK hP 0 rfl rfl 1 (by decide) (hts (.fieldLink RX4 17 "TideGauges" "gauges" "[LTideGauges$Gauge;") (List.mem_of_getElem? (i := 2) rfl)) (fun _ h9 => h9) rfl dX4_read_22 ?_
      refine lv_iload_n hx hb dX4_read_25 rfl (lv_at hl 1 rfl) ?_
      rcases hp_3 : zGa σ kx with _ | a_4
      · refine x_aldq (C := "TideGauges$Gauge") hx hb hK hP 2 1 rfl rfl (k := kx) rfl (by omega) (by decide) (v := .null) (by rw [tr_gnone hR (by omega) hp_3]; rfl) dX4_read_26 ?_
        refine lv_astoreN (lv' := [(5, .null), (0, .ref q.1), (1, .int (nI kx)), (2, .long b), (4, .int (b2i u))]) hx hb dX4_read_27 hl (by decide) rfl (fun ls hl => ?_)
        refine lv_aloadN hx hb dX4_read_29 (lv_at hl 0 rfl) ?_
        refine lv_ifnonnullN hx hb dX4_read_31 ?_
        refine lv_bipush (v := -11) hx hb dX4_read_34 (by decide) ?_
        exact W.iret hx hb hr (fun t ht hW => ⟨⟨_, σ, rfl, (by unfold oRead; (try simp only [if_pos c_1, if_pos gc_2, nI_clamp (show kx < 2 ^ 31 by omega), hp_3, Option.getD_some, reduceCtorEq, if_true, if_false, Option.isNone_some, Option.isNone_none, Bool.false_or, Bool.true_or, Bool.not_true, Bool.not_false]); try rfl), ⟨_, _, _, _, _, _, _, _, _, _, _, rfl, by rw [ht]; exact hP, hD, hR⟩⟩, hS.F ht⟩) hS.2.2 dX4_read_36
      · obtain ⟨gaa_4, gea_4, gma_4, gfa_4⟩ := tr_gsome hR (show kx < 6 by omega) hp_3
        have gba_4 := hI.2.2.2.2.2.2.1 _ _ hp_3
        refine x_aldq (C := "TideGauges$Gauge") hx hb hK hP 2 1 rfl rfl (k := kx) rfl (by omega) (by decide) (v := .ref gaa_4) (by rw [gea_4]; rfl) dX4_read_26 ?_
        refine lv_astore (lv' := [(5, .ref gaa_4), (0, .ref q.1), (1, .int (nI kx)), (2, .long b), (4, .int (b2i u))]) hx hb dX4_read_27 hl (by decide) rfl (fun ls hl => ?_)
        refine lv_aload hx hb dX4_read_29 (lv_at hl 0 rfl) ?_
        refine lv_ifnonnull (tgt := 37) hx hb dX4_read_31 (by decide) ?_
        refine lv_aload hx hb dX4_read_37 (lv_at hl 0 rfl) ?_
        refine lv_lload_n hx hb dX4_read_39 rfl (lv_at hl 3 rfl) ?_
        refine ct_w (q0 := 0) (As := [.long b]) (rest := []) ⟨hx, hb, hml, hown, hts⟩ (mX0_hasNumberFor l dC dI ad (tys0 cJ cG cK cR cI cZ cD) gaa_4 (zGk σ a_4) (zGs σ a_4) b) (cwV 1 hts gX4_read_X0_hasNumberFor rfl rfl rfl (by decide +kernel) ⟨Nat.le_of_ble_eq_true rfl, Nat.le_of_ble_eq_true rfl⟩) hK (pl_one hP gma_4 gfa_4) hE hS rfl rfl rfl rfl hl.1 (Nat.le_of_ble_eq_true rfl) dX4_read_40 (Nat.zero_le _) (Nat.zero_le _) ?_
        refine w_bne (tgt := 49) hx hb dX4_read_43 (by decide) (fun c_5 => ?_) (fun c_5 => ?_)
        · refine lv_aload_n hx hb dX4_read_49 rfl (lv_at hl 1 rfl) ?_
          refine lv_iload hx hb dX4_read_50 (lv_at hl 4 rfl) ?_
          refine w_beq (tgt := 64) hx hb dX4_read_52 (by decide) (fun c_6 => ?_) (fun c_6 => ?_)
          · refine lv_aload hx hb dX4_read_64 (lv_at hl 0 rfl) ?_
            refine lv_lload_n hx hb dX4_read_66 rfl (lv_at hl 3 rfl) ?_
            refine ct_w (q0 := 0) (As := [.long b]) (rest := [.ref q.1]) ⟨hx, hb, hml, hown, hts⟩ (mX0_tells l dC dI ad (tys0 cJ cG cK cR cI cZ cD) gaa_4 (zGk σ a_4) (zGs σ a_4) b) (cwV 1 hts gX4_read_X0_tells rfl rfl rfl (by decide +kernel) ⟨Nat.le_of_ble_eq_true rfl, Nat.le_of_ble_eq_true rfl⟩) hK (pl_one hP gma_4 gfa_4) hE hS rfl rfl rfl rfl hl.1 (Nat.le_of_ble_eq_true rfl) dX4_read_67 (Nat.zero_le _) (Nat.zero_le _) ?_
            refine lv_topl (fun z_7 hz_7 => ?_)
            refine ct_s (mc := 0) (ms := 0) (q0 := 0) (As := [.long z_7]) (rest := []) ⟨hx, hb, hml, hown, hts⟩ (mX4_tell l dC dI (tys0 cJ cG cK cR cI cZ cD) (TWs q cG cK cR fr fg fk (zTo σ) L f) q.1 (.ref q.2.1) (.ref q.2.2.1) (.ref q.2.2.2) (zTo σ) _ z_7 rfl) (cwV 1 hts gX4_read_X4_tell rfl rfl rfl (by decide +kernel) ⟨Nat.le_of_ble_eq_true rfl, Nat.le_of_ble_eq_true rfl⟩) hK hP hD hS hA rfl rfl rfl rfl hl.1 (Nat.le_of_ble_eq_true rfl) dX4_read_70 ⟨Nat.le_of_ble_eq_true rfl, Nat.le_of_ble_eq_true rfl⟩ (fun r1 u1 t1 H1 locs1 ht1 hr1 hB1 hS1 => ?_)
            obtain rfl := hr1
            rw [ht1] at hB1
            have hD2 := hB1.2.weaken (fun _ _ _ h9 => fr_all hD hS hA _ h9)
            have hP := hB1.1
            have hD := hD2
            have hS := hS1
            have hP : va_P (dC, dI) vwCl (TWs q cG cK cR fr fg fk z_7 L f) _ := hP
            have hD : va_D A (TWs q cG cK cR fr fg fk z_7 L f) := hD
            have hR : TRel ad cJ cG fr fg fk L f ra rb ka kb hf (uTo σ z_7) := TRel_to hR z_7
            exact W.iret hx hb hr (fun t ht hW => ⟨⟨_, (uTo σ z_7), rfl, (by unfold oRead; simp only [if_pos c_1, if_pos gc_2, nI_clamp (show kx < 2 ^ 31 by omega), hp_3, Option.getD_some, reduceCtorEq, if_true, if_false, Option.isNone_some, Option.isNone_none, Bool.false_or, Bool.true_or, Bool.not_true, Bool.not_false]; exact read_yes (hI.2.2.2.2.2.1 a_4 gba_4) gc_2 c_5 (by rw [if_neg c_6]; first | rfl | exact hz_7)), ⟨_, _, _, _, _, _, _, _, _, _, _, rfl, by rw [ht]; exact hP, hD, hR⟩⟩, hS.F ht⟩) hS.2.2 dX4_read_73
          · refine lv_aload hx hb dX4_read_55 (lv_at hl 0 rfl) ?_
            refine lv_lload_n hx hb dX4_read_57 rfl (lv_at hl 3 rfl) ?_
            refine ct_w (q0 := 0) (As := [.long b]) (rest := [.ref q.1]) ⟨hx, hb, hml, hown, hts⟩ (mX0_tellsAsFloat l dC dI ad (tys0 cJ cG cK cR cI cZ cD) gaa_4 (zGk σ a_4) (zGs σ a_4) b) (cwV 1 hts gX4_read_X0_tellsAsFloat rfl rfl rfl (by decide +kernel) ⟨Nat.le_of_ble_eq_true rfl, Nat.le_of_ble_eq_true rfl⟩) hK (pl_one hP gma_4 gfa_4) hE hS rfl rfl rfl rfl hl.1 (Nat.le_of_ble_eq_true rfl) dX4_read_58 (Nat.zero_le _) (Nat.zero_le _) ?_
            refine lv_goto (tgt := 70) hx hb dX4_read_61 (by decide) ?_
            refine lv_topl (fun z_8 hz_8 => ?_)
            refine ct_s (mc := 0) (ms := 0) (q0 := 0) (As := [.long z_8]) (rest := []) ⟨hx, hb, hml, hown, hts⟩ (mX4_tell l dC dI (tys0 cJ cG cK cR cI cZ cD) (TWs q cG cK cR fr fg fk (zTo σ) L f) q.1 (.ref q.2.1) (.ref q.2.2.1) (.ref q.2.2.2) (zTo σ) _ z_8 rfl) (cwV 1 hts gX4_read_X4_tell rfl rfl rfl (by decide +kernel) ⟨Nat.le_of_ble_eq_true rfl, Nat.le_of_ble_eq_true rfl⟩) hK hP hD hS hA rfl rfl rfl rfl hl.1 (Nat.le_of_ble_eq_true rfl) dX4_read_70 ⟨Nat.le_of_ble_eq_true rfl, Nat.le_of_ble_eq_true rfl⟩ (fun r1 u1 t1 H1 locs1 ht1 hr1 hB1 hS1 => ?_)
            obtain rfl := hr1
            rw [ht1] at hB1
            have hD2 := hB1.2.weaken (fun _ _ _ h9 => fr_all hD hS hA _ h9)
            have hP := hB1.1
            have hD := hD2
            have hS := hS1
            have hP : va_P (dC, dI) vwCl (TWs q cG cK cR fr fg fk z_8 L f) _ := hP
            have hD : va_D A (TWs q cG cK cR fr fg fk z_8 L f) := hD
            have hR : TRel ad cJ cG fr fg fk L f ra rb ka kb hf (uTo σ z_8) := TRel_to hR z_8
            exact W.iret hx hb hr (fun t ht hW => ⟨⟨_, (uTo σ z_8), rfl, (by unfold oRead; simp only [if_pos c_1, if_pos gc_2, nI_clamp (show kx < 2 ^ 31 by omega), hp_3, Option.getD_some, reduceCtorEq, if_true, if_false, Option.isNone_some, Option.isNone_none, Bool.false_or, Bool.true_or, Bool.not_true, Bool.not_false]; exact read_yes (hI.2.2.2.2.2.1 a_4 gba_4) gc_2 c_5 (by rw [if_pos c_6]; first | rfl | exact hz_8)), ⟨_, _, _, _, _, _, _, _, _, _, _, rfl, by rw [ht]; exact hP, hD, hR⟩⟩, hS.F ht⟩) hS.2.2 dX4_read_73
        · refine lv_bipush (v := -14) hx hb dX4_read_46 (by decide) ?_
          exact W.iret hx hb hr (fun t ht hW => ⟨⟨_, σ, rfl, (by unfold oRead; simp only [if_pos c_1, if_pos gc_2, nI_clamp (show kx < 2 ^ 31 by omega), hp_3, Option.getD_some, reduceCtorEq, if_true, if_false, Option.isNone_some, Option.isNone_none, Bool.false_or, Bool.true_or, Bool.not_true, Bool.not_false]; exact read_no gc_2 c_5), ⟨_, _, _, _, _, _, _, _, _, _, _, rfl, by rw [ht]; exact hP, hD, hR⟩⟩, hS.F ht⟩) hS.2.2 dX4_read_48
    · have gc_2 := c_2; rw [show (1 : Nat) = fX4_widthOf true from rfl, A_num] at gc_2
      refine lv_iconst (v := -1) hx hb dX4_read_19 (by decide) ?_
      exact W.iret hx hb hr (fun t ht hW => ⟨⟨_, σ, rfl, (by unfold oRead; (try simp only [if_pos c_1, if_neg gc_2, nI_clamp (show kx < 2 ^ 31 by omega), Option.getD_some, reduceCtorEq, if_true, if_false, Option.isNone_some, Option.isNone_none, Bool.false_or, Bool.true_or, Bool.not_true, Bool.not_false]); try rfl), ⟨_, _, _, _, _, _, _, _, _, _, _, rfl, by rw [ht]; exact hP, hD, hR⟩⟩, hS.F ht⟩) hS.2.2 dX4_read_20
