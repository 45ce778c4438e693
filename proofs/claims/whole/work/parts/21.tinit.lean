theorem TRel_0 {ad : Nat → Nat} {cJ cG : ClassId} {L : List Nat} {f : Nat → va_E} {ra rb ka kb : Nat → Nat} {hf : Nat → Nat → Option Nat} : TRel ad cJ cG (fun _ => none) (fun _ => none) (fun _ => none) L f ra rb ka kb hf z0 :=
  ⟨fun a h => absurd h (Nat.not_lt_zero _), fun a b h _ _ => absurd h (Nat.not_lt_zero _), fun p _ => rfl, fun p _ => ⟨fun _ => rfl, nofun⟩, fun r _ => ⟨fun _ => rfl, nofun⟩, fun r t _ _ h _ _ => absurd rfl h⟩
set_option maxHeartbeats 8000000 in
set_option maxRecDepth 100000 in
theorem mX4_init (l : Launch) (dC : Nat → ClassId) (dI : Nat → Nat → Nat) (ad : Nat → Nat) (cJ cG cK cR cI cZ cD : ClassId) (h sz : Nat) : Met l yX4_init wsX4_init ({ frames := 1, cells := 3, slots := 17, locals := 14 }) (va_Pc [.ref h] (fun U => U.heap.size = sz ∧ va_P (dC, dI) vwCl [(h, .inr (4, [.null, .null, .null, .long 0]))] U.heap ∧ va_K (dC, dI) vwCl (tys0 cJ cG cK cR cI cZ cD) U ∧ va_D (fun _ => True) [(h, .inr (4, [.null, .null, .null, .long 0]))] ∧ va_AO "TideGauges$Row" U ∧ va_AO "TideGauges$Gauge" U ∧ va_AO "TideGauges$Rack" U)) (va_Qv (fun (_ : Unit) => True) (fun _ t => TP dC dI ad cJ cG cK cR (va_A [(h, .inr (4, [.null, .null, .null, .long 0]))] sz) h z0 t) (va_A [(h, .inr (4, [.null, .null, .null, .long 0]))] sz)) 3 17 (va_A [(h, .inr (4, [.null, .null, .null, .long 0]))] sz) := by
  refine Met.ofW (cc := cX4_init) (maxL := 1) (ret := none) (by decide) rfl ?_
  intro p e s m args below meth c s₁ B hml hv
  obtain ⟨rfl, hsz, hP, hK, hD0, hAOR, hAOG, hAOK⟩ := hv
  have hx := B.exec
  have hb := B.bytes
  have hr := B.returns
  have hts := atoms_spec (ws := wsX4_init) B.pre
  have hown : s.vm.findClass RX4 = some m.cls := findClass_of_methodNamed B.named
  have hlocks := B.notSynchronized
  have hin : meth.name = "<init>" := (name_of_methodNamed B.named B.method).1
  subst hsz
  have hD := hD0.self (sz := s.heap.size)
  generalize hAe : va_A [(h, .inr (4, [.null, .null, .null, .long 0]))] s.heap.size = A at hD ⊢
  have hA : ∀ z : Nat, s.heap.size ≤ z → A z := fun z h => by rw [← hAe]; exact Or.inr h
  have hS : va_S A s.heap s.heap [] := va_S.rf
  have hl := lv_entry ([.ref h]) (n := 1) (Nat.le_of_ble_eq_true rfl)
  rw [lg_entry_eq]
  generalize (lg_sl ([.ref h]) ++ List.replicate (1 - (lg_sl ([.ref h])).length) Slot.unset).toArray = ls at hl ⊢
  have hl : lv_has ls 1 [(0, .ref h)] := hl
  refine lv_aload_n hx hb dX4_init_0 rfl (lv_at hl 0 rfl) ?_
  refine W.objInit hx hb hown (hts (.methodLink RX4 1 objectInit) (List.mem_of_getElem? (i := 1) rfl)) (hts (.instanceMethod objectInit) (List.mem_of_getElem? (i := 2) rfl)) (hts (.code objectInit ⟨#[0xb1]⟩ 1 none) (List.mem_of_getElem? (i := 3) rfl)) rfl (by rw [hml]; exact hl.1) rfl dX4_init_1 (Nat.le_of_ble_eq_true rfl) (Nat.le_of_ble_eq_true rfl) ?_
  refine W.eq (g2 := F0 m 4 ls []) rfl ?_
  refine lv_aload_n hx hb dX4_init_4 rfl (lv_at hl 0 rfl) ?_
  refine lv_bipush (v := 8) hx hb dX4_init_5 (by decide) ?_
  refine va_newq (N' := 8) hx hb hown (hts (.classLink RX4 9 RX2) (List.mem_of_getElem? (i := 4) rfl)) hAOR hK hP hD hS hA (by decide) (by decide) (by decide) (Nat.le_of_ble_eq_true rfl) (Nat.le_of_ble_eq_true rfl) dX4_init_7 (fun b1 cB H1 hK1 hP hD hS => ?_)
  obtain rfl : cR = cB := same_cA hK1 (t0 := 3) rfl
  have hP : va_P (dC, dI) vwCl [(h, .inr (4, [.null, .null, .null, .long 0])), (b1, .inl (cR, 8, .inr (.inr (.inr (.inr (fun _ => none))))))] _ := hP
  have hD : va_D A [(h, .inr (4, [.null, .null, .null, .long 0])), (b1, .inl (cR, 8, .inr (.inr (.inr (.inr (fun _ => none))))))] := hD
  refine va_putF (D := (dC, dI)) (ci := 4) (v := .ref b1) (ty := .array (.object "TideGauges$Row")) (C := RX4) (T := TX4) (N := 4) hx hb hts (fun w h => List.mem_cons_of_mem _ (List.mem_append_right _ h)) tyX4 tyX4_ok nmX4 hown hK hP hD hS 0 rfl rfl 0 (by decide) (hts (.fieldLink RX4 11 "TideGauges" "rows" "[LTideGauges$Row;") (List.mem_of_getElem? (i := 5) rfl)) (fun _ h9 => h9) rfl hin rfl (by decide +kernel) rfl rfl (Nat.le_of_ble_eq_true rfl) dX4_init_10 (fun H locs hP hD hS => ?_)
  have hP : va_P (dC, dI) vwCl [(h, .inr (4, [.ref b1, .null, .null, .long 0])), (b1, .inl (cR, 8, .inr (.inr (.inr (.inr (fun _ => none))))))] _ := hP
  have hD : va_D A [(h, .inr (4, [.ref b1, .null, .null, .long 0])), (b1, .inl (cR, 8, .inr (.inr (.inr (.inr (fun _ => none))))))] := hD
  refine lv_aload_n hx hb dX4_init_13 rfl (lv_at hl 0 rfl) ?_
  refine lv_bipush (v := 6) hx hb dX4_init_14 (by decide) ?_
  refine va_newq (N' := 6) hx hb hown (hts (.classLink RX4 15 RX0) (List.mem_of_getElem? (i := 6) rfl)) hAOG hK hP hD hS hA (by decide) (by decide) (by decide) (Nat.le_of_ble_eq_true rfl) (Nat.le_of_ble_eq_true rfl) dX4_init_16 (fun b2 cB H1 hK1 hP hD hS => ?_)
  obtain rfl : cG = cB := same_cA hK1 (t0 := 1) rfl
  have hP : va_P (dC, dI) vwCl [(h, .inr (4, [.ref b1, .null, .null, .long 0])), (b1, .inl (cR, 8, .inr (.inr (.inr (.inr (fun _ => none)))))), (b2, .inl (cG, 6, .inr (.inr (.inr (.inr (fun _ => none))))))] _ := hP
  have hD : va_D A [(h, .inr (4, [.ref b1, .null, .null, .long 0])), (b1, .inl (cR, 8, .inr (.inr (.inr (.inr (fun _ => none)))))), (b2, .inl (cG, 6, .inr (.inr (.inr (.inr (fun _ => none))))))] := hD
  refine va_putF (D := (dC, dI)) (ci := 4) (v := .ref b2) (ty := .array (.object "TideGauges$Gauge")) (C := RX4) (T := TX4) (N := 4) hx hb hts (fun w h => List.mem_cons_of_mem _ (List.mem_append_right _ h)) tyX4 tyX4_ok nmX4 hown hK hP hD hS 0 rfl rfl 1 (by decide) (hts (.fieldLink RX4 17 "TideGauges" "gauges" "[LTideGauges$Gauge;") (List.mem_of_getElem? (i := 7) rfl)) (fun _ h9 => h9) rfl hin rfl (by decide +kernel) rfl rfl (Nat.le_of_ble_eq_true rfl) dX4_init_19 (fun H locs hP hD hS => ?_)
  have hP : va_P (dC, dI) vwCl [(h, .inr (4, [.ref b1, .ref b2, .null, .long 0])), (b1, .inl (cR, 8, .inr (.inr (.inr (.inr (fun _ => none)))))), (b2, .inl (cG, 6, .inr (.inr (.inr (.inr (fun _ => none))))))] _ := hP
  have hD : va_D A [(h, .inr (4, [.ref b1, .ref b2, .null, .long 0])), (b1, .inl (cR, 8, .inr (.inr (.inr (.inr (fun _ => none)))))), (b2, .inl (cG, 6, .inr (.inr (.inr (.inr (fun _ => none))))))] := hD
  refine lv_aload_n hx hb dX4_init_22 rfl (lv_at hl 0 rfl) ?_
  refine lv_iconst (v := 3) hx hb dX4_init_23 (by decide) ?_
  refine va_newq (N' := 3) hx hb hown (hts (.classLink RX4 21 RX1) (List.mem_of_getElem? (i := 8) rfl)) hAOK hK hP hD hS hA (by decide) (by decide) (by decide) (Nat.le_of_ble_eq_true rfl) (Nat.le_of_ble_eq_true rfl) dX4_init_24 (fun b3 cB H1 hK1 hP hD hS => ?_)
  obtain rfl : cK = cB := same_cA hK1 (t0 := 2) rfl
  have hP : va_P (dC, dI) vwCl [(h, .inr (4, [.ref b1, .ref b2, .null, .long 0])), (b1, .inl (cR, 8, .inr (.inr (.inr (.inr (fun _ => none)))))), (b2, .inl (cG, 6, .inr (.inr (.inr (.inr (fun _ => none)))))), (b3, .inl (cK, 3, .inr (.inr (.inr (.inr (fun _ => none))))))] _ := hP
  have hD : va_D A [(h, .inr (4, [.ref b1, .ref b2, .null, .long 0])), (b1, .inl (cR, 8, .inr (.inr (.inr (.inr (fun _ => none)))))), (b2, .inl (cG, 6, .inr (.inr (.inr (.inr (fun _ => none)))))), (b3, .inl (cK, 3, .inr (.inr (.inr (.inr (fun _ => none))))))] := hD
  refine va_putF (D := (dC, dI)) (ci := 4) (v := .ref b3) (ty := .array (.object "TideGauges$Rack")) (C := RX4) (T := TX4) (N := 4) hx hb hts (fun w h => List.mem_cons_of_mem _ (List.mem_append_right _ h)) tyX4 tyX4_ok nmX4 hown hK hP hD hS 0 rfl rfl 2 (by decide) (hts (.fieldLink RX4 23 "TideGauges" "racks" "[LTideGauges$Rack;") (List.mem_of_getElem? (i := 9) rfl)) (fun _ h9 => h9) rfl hin rfl (by decide +kernel) rfl rfl (Nat.le_of_ble_eq_true rfl) dX4_init_27 (fun H locs hP hD hS => ?_)
  have hP : va_P (dC, dI) vwCl [(h, .inr (4, [.ref b1, .ref b2, .ref b3, .long 0])), (b1, .inl (cR, 8, .inr (.inr (.inr (.inr (fun _ => none)))))), (b2, .inl (cG, 6, .inr (.inr (.inr (.inr (fun _ => none)))))), (b3, .inl (cK, 3, .inr (.inr (.inr (.inr (fun _ => none))))))] _ := hP
  have hD : va_D A [(h, .inr (4, [.ref b1, .ref b2, .ref b3, .long 0])), (b1, .inl (cR, 8, .inr (.inr (.inr (.inr (fun _ => none)))))), (b2, .inl (cG, 6, .inr (.inr (.inr (.inr (fun _ => none)))))), (b3, .inl (cK, 3, .inr (.inr (.inr (.inr (fun _ => none))))))] := hD
  refine lv_aload_n hx hb dX4_init_30 rfl (lv_at hl 0 rfl) ?_
  refine lv_lconst (v := 0) hx hb dX4_init_31 (by decide) ?_
  refine va_put (D := (dC, dI)) (ci := 4) (v := .long (0 : Int64)) (ty := .long) (C := RX4) (T := TX4) (N := 4) hx hb hts (fun w h => List.mem_cons_of_mem _ (List.mem_append_right _ h)) tyX4 tyX4_ok nmX4 hown hK hP hD hS 0 rfl rfl 3 (by decide) (hts (.fieldLink RX4 27 "TideGauges" "latest" "J") (List.mem_of_getElem? (i := 10) rfl)) (fun _ h9 => h9) rfl (by decide +kernel) rfl rfl (Nat.le_of_ble_eq_true rfl) dX4_init_32 (fun H locs hP hD hS => ?_)
  have hP : va_P (dC, dI) vwCl [(h, .inr (4, [.ref b1, .ref b2, .ref b3, .long (0 : Int64)])), (b1, .inl (cR, 8, .inr (.inr (.inr (.inr (fun _ => none)))))), (b2, .inl (cG, 6, .inr (.inr (.inr (.inr (fun _ => none)))))), (b3, .inl (cK, 3, .inr (.inr (.inr (.inr (fun _ => none))))))] _ := hP
  have hD : va_D A [(h, .inr (4, [.ref b1, .ref b2, .ref b3, .long (0 : Int64)])), (b1, .inl (cR, 8, .inr (.inr (.inr (.inr (fun _ => none)))))), (b2, .inl (cG, 6, .inr (.inr (.inr (.inr (fun _ => none)))))), (b3, .inl (cK, 3, .inr (.inr (.inr (.inr (fun _ => none))))))] := hD
  have hP : va_P (dC, dI) vwCl (TWs (h, b1, b2, b3) cG cK cR (fun _ => none) (fun _ => none) (fun _ => none) (zTo z0) [] (fun _ => .inr (0, []))) _ := hP
  have hD : va_D A (TWs (h, b1, b2, b3) cG cK cR (fun _ => none) (fun _ => none) (fun _ => none) (zTo z0) [] (fun _ => .inr (0, []))) := hD
  refine W.widen (k := 3) (n := 17) (by decide) (by decide) ?_
  exact W.vret hx hb hr (fun t ht hW => ⟨⟨(), rfl, trivial, ⟨(h, b1, b2, b3), _, _, _, _, _, (fun _ => 0), (fun _ => 0), (fun _ => 0), (fun _ => 0), (fun _ _ => none), rfl, by rw [ht]; exact hP, hD, TRel_0⟩⟩, hS.F ht⟩) hS.2.2 dX4_init_35
