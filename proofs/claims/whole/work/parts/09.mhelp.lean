theorem mset1 {D : va_G} {cl : List vw_C} {q : Ad} {cJ cI cZ cD : ClassId} {σ : St} {a : Nat} {w : Bool} {F : Nat → Int32} {H : Heap} (e : F = fun k => b2i (zRw (uRw σ a w) k)) (h : va_P D cl ((MWs q cJ cI cZ cD σ).set 1 (q.2.1, .inl (cZ, 4200, .inl F))) H) : va_P D cl (MWs q cJ cI cZ cD (uRw σ a w)) H := by subst e; exact h
theorem msetD1 {A : Nat → Prop} {q : Ad} {cJ cI cZ cD : ClassId} {σ : St} {a : Nat} {w : Bool} {F : Nat → Int32} (e : F = fun k => b2i (zRw (uRw σ a w) k)) (h : va_D A ((MWs q cJ cI cZ cD σ).set 1 (q.2.1, .inl (cZ, 4200, .inl F)))) : va_D A (MWs q cJ cI cZ cD (uRw σ a w)) := by subst e; exact h
theorem mset2 {D : va_G} {cl : List vw_C} {q : Ad} {cJ cI cZ cD : ClassId} {σ : St} {a n : Nat} {F : Nat → Int32} {H : Heap} (e : F = fun k => nI (zRn (uRn σ a n) k)) (h : va_P D cl ((MWs q cJ cI cZ cD σ).set 2 (q.2.2.1, .inl (cI, 4200, .inl F))) H) : va_P D cl (MWs q cJ cI cZ cD (uRn σ a n)) H := by subst e; exact h
theorem msetD2 {A : Nat → Prop} {q : Ad} {cJ cI cZ cD : ClassId} {σ : St} {a n : Nat} {F : Nat → Int32} (e : F = fun k => nI (zRn (uRn σ a n) k)) (h : va_D A ((MWs q cJ cI cZ cD σ).set 2 (q.2.2.1, .inl (cI, 4200, .inl F)))) : va_D A (MWs q cJ cI cZ cD (uRn σ a n)) := by subst e; exact h
theorem mset3 {D : va_G} {cl : List vw_C} {q : Ad} {cJ cI cZ cD : ClassId} {σ : St} {a i : Nat} {x : Int64} {F : Nat → Int64} {H : Heap} (e : F = fun j => zRi (uIt σ a i x) (j / 12) (j % 12)) (h : va_P D cl ((MWs q cJ cI cZ cD σ).set 3 (q.2.2.2.1, .inl (cJ, 50400, .inr (.inl F)))) H) : va_P D cl (MWs q cJ cI cZ cD (uIt σ a i x)) H := by subst e; exact h
theorem msetD3 {A : Nat → Prop} {q : Ad} {cJ cI cZ cD : ClassId} {σ : St} {a i : Nat} {x : Int64} {F : Nat → Int64} (e : F = fun j => zRi (uIt σ a i x) (j / 12) (j % 12)) (h : va_D A ((MWs q cJ cI cZ cD σ).set 3 (q.2.2.2.1, .inl (cJ, 50400, .inr (.inl F))))) : va_D A (MWs q cJ cI cZ cD (uIt σ a i x)) := by subst e; exact h
theorem mset4 {D : va_G} {cl : List vw_C} {q : Ad} {cJ cI cZ cD : ClassId} {σ : St} {a : Nat} {v : Option Nat} {F : Nat → Int32} {H : Heap} (e : F = fun k => eo (zPl (uPl σ a v) k)) (h : va_P D cl ((MWs q cJ cI cZ cD σ).set 4 (q.2.2.2.2.1, .inl (cI, 8, .inl F))) H) : va_P D cl (MWs q cJ cI cZ cD (uPl σ a v)) H := by subst e; exact h
theorem msetD4 {A : Nat → Prop} {q : Ad} {cJ cI cZ cD : ClassId} {σ : St} {a : Nat} {v : Option Nat} {F : Nat → Int32} (e : F = fun k => eo (zPl (uPl σ a v) k)) (h : va_D A ((MWs q cJ cI cZ cD σ).set 4 (q.2.2.2.2.1, .inl (cI, 8, .inl F)))) : va_D A (MWs q cJ cI cZ cD (uPl σ a v)) := by subst e; exact h
theorem mset5 {D : va_G} {cl : List vw_C} {q : Ad} {cJ cI cZ cD : ClassId} {σ : St} {a : Nat} {v : Int32} {F : Nat → Int32} {H : Heap} (e : F = zGk (uGk σ a v)) (h : va_P D cl ((MWs q cJ cI cZ cD σ).set 5 (q.2.2.2.2.2.1, .inl (cI, 4200, .inl F))) H) : va_P D cl (MWs q cJ cI cZ cD (uGk σ a v)) H := by subst e; exact h
theorem msetD5 {A : Nat → Prop} {q : Ad} {cJ cI cZ cD : ClassId} {σ : St} {a : Nat} {v : Int32} {F : Nat → Int32} (e : F = zGk (uGk σ a v)) (h : va_D A ((MWs q cJ cI cZ cD σ).set 5 (q.2.2.2.2.2.1, .inl (cI, 4200, .inl F)))) : va_D A (MWs q cJ cI cZ cD (uGk σ a v)) := by subst e; exact h
theorem mset6 {D : va_G} {cl : List vw_C} {q : Ad} {cJ cI cZ cD : ClassId} {σ : St} {a : Nat} {x : Int64} {F : Nat → UInt64} {H : Heap} (e : F = fun k => (zGs (uGs σ a x) k).toUInt64) (h : va_P D cl ((MWs q cJ cI cZ cD σ).set 6 (q.2.2.2.2.2.2.1, .inl (cD, 4200, .inr (.inr (.inr (.inl F)))))) H) : va_P D cl (MWs q cJ cI cZ cD (uGs σ a x)) H := by subst e; exact h
theorem msetD6 {A : Nat → Prop} {q : Ad} {cJ cI cZ cD : ClassId} {σ : St} {a : Nat} {x : Int64} {F : Nat → UInt64} (e : F = fun k => (zGs (uGs σ a x) k).toUInt64) (h : va_D A ((MWs q cJ cI cZ cD σ).set 6 (q.2.2.2.2.2.2.1, .inl (cD, 4200, .inr (.inr (.inr (.inl F))))))) : va_D A (MWs q cJ cI cZ cD (uGs σ a x)) := by subst e; exact h
theorem mset7 {D : va_G} {cl : List vw_C} {q : Ad} {cJ cI cZ cD : ClassId} {σ : St} {a : Nat} {v : Option Nat} {F : Nat → Int32} {H : Heap} (e : F = fun k => eo (zGa (uGa σ a v) k)) (h : va_P D cl ((MWs q cJ cI cZ cD σ).set 7 (q.2.2.2.2.2.2.2.1, .inl (cI, 6, .inl F))) H) : va_P D cl (MWs q cJ cI cZ cD (uGa σ a v)) H := by subst e; exact h
theorem msetD7 {A : Nat → Prop} {q : Ad} {cJ cI cZ cD : ClassId} {σ : St} {a : Nat} {v : Option Nat} {F : Nat → Int32} (e : F = fun k => eo (zGa (uGa σ a v) k)) (h : va_D A ((MWs q cJ cI cZ cD σ).set 7 (q.2.2.2.2.2.2.2.1, .inl (cI, 6, .inl F)))) : va_D A (MWs q cJ cI cZ cD (uGa σ a v)) := by subst e; exact h
theorem mset8 {D : va_G} {cl : List vw_C} {q : Ad} {cJ cI cZ cD : ClassId} {σ : St} {a : Nat} {v : Option Int32} {F : Nat → Int32} {H : Heap} (e : F = fun k => ek (zRk (uRk σ a v) k)) (h : va_P D cl ((MWs q cJ cI cZ cD σ).set 8 (q.2.2.2.2.2.2.2.2.1, .inl (cI, 3, .inl F))) H) : va_P D cl (MWs q cJ cI cZ cD (uRk σ a v)) H := by subst e; exact h
theorem msetD8 {A : Nat → Prop} {q : Ad} {cJ cI cZ cD : ClassId} {σ : St} {a : Nat} {v : Option Int32} {F : Nat → Int32} (e : F = fun k => ek (zRk (uRk σ a v) k)) (h : va_D A ((MWs q cJ cI cZ cD σ).set 8 (q.2.2.2.2.2.2.2.2.1, .inl (cI, 3, .inl F)))) : va_D A (MWs q cJ cI cZ cD (uRk σ a v)) := by subst e; exact h
theorem mset9 {D : va_G} {cl : List vw_C} {q : Ad} {cJ cI cZ cD : ClassId} {σ : St} {a i : Nat} {v : Option Nat} {F : Nat → Int32} {H : Heap} (e : F = fun j => eo (zHk (uHk σ a i v) (j / 4) (j % 4))) (h : va_P D cl ((MWs q cJ cI cZ cD σ).set 9 (q.2.2.2.2.2.2.2.2.2, .inl (cI, 12, .inl F))) H) : va_P D cl (MWs q cJ cI cZ cD (uHk σ a i v)) H := by subst e; exact h
theorem msetD9 {A : Nat → Prop} {q : Ad} {cJ cI cZ cD : ClassId} {σ : St} {a i : Nat} {v : Option Nat} {F : Nat → Int32} (e : F = fun j => eo (zHk (uHk σ a i v) (j / 4) (j % 4))) (h : va_D A ((MWs q cJ cI cZ cD σ).set 9 (q.2.2.2.2.2.2.2.2.2, .inl (cI, 12, .inl F)))) : va_D A (MWs q cJ cI cZ cD (uHk σ a i v)) := by subst e; exact h
set_option maxHeartbeats 4000000 in
set_option maxRecDepth 100000 in
theorem mX5_asked (l : Launch) (dC : Nat → ClassId) (dI : Nat → Nat → Nat) (q : Ad) (cJ cG cK cR cI cZ cD : ClassId) (σ : St) (N0 : Nat) (hI : Inv σ N0) (hN : N0 ≤ 512) (k : Nat) (hk : k < 8) (w : Bool) : Met l yX5_asked wsX5_asked ({ frames := 0, cells := 0, slots := 0, locals := 0 }) (va_Pc [.ref q.1, .int (nI k), .int (b2i w)] (fun U => va_P (dC, dI) vwCl (MWs q cJ cI cZ cD σ) U.heap ∧ va_K (dC, dI) vwCl (tys0 cJ cG cK cR cI cZ cD) U)) (pQ (.int (askR σ k w))) 0 0 (fun _ => False) := by
  refine Met.ofW (cc := cX5_asked) (maxL := 4) (ret := (some .int)) (by decide) rfl ?_
  intro p e s m args below meth c s₁ B hml hv
  obtain ⟨rfl, hP, hK⟩ := hv
  have hx := B.exec
  have hb := B.bytes
  have hr := B.returns
  have hts := atoms_spec (ws := wsX5_asked) B.pre
  have hown : s.vm.findClass RX5 = some m.cls := findClass_of_methodNamed B.named
  have hlocks := B.notSynchronized
  have hN1 := hI.1
  have hN2 := hI.2.1
  have hl := lv_entry ([.ref q.1, .int (nI k), .int (b2i w)]) (n := 4) (Nat.le_of_ble_eq_true rfl)
  rw [lg_entry_eq]
  generalize (lg_sl ([.ref q.1, .int (nI k), .int (b2i w)]) ++ List.replicate (4 - (lg_sl ([.ref q.1, .int (nI k), .int (b2i w)])).length) Slot.unset).toArray = ls at hl ⊢
  have hl : lv_has ls 4 [(0, .ref q.1), (1, .int (nI k)), (2, .int (b2i w))] := hl
  refine lv_aload_n hx hb dX5_asked_0 rfl (lv_at hl 0 rfl) ?_
  refine va_get (D := (dC, dI)) (ci := 5) (v := .ref q.2.2.2.2.1) (C := RX5) (T := TX5) (N := 12) hx hb hts (fun w h => List.mem_cons_of_mem _ (List.mem_append_right _ h)) hown hK hP 0 rfl rfl 4 (by decide) (hts (.fieldLink RX5 22 "TideGaugesModel" "places" "[I") (List.mem_of_getElem? (i := 1) rfl)) (fun _ h9 => h9) rfl dX5_asked_1 ?_
  refine lv_iload_n hx hb dX5_asked_4 rfl (lv_at hl 1 rfl) ?_
  rcases hp_1 : zPl σ k with _ | a_2
  · refine x_iald hx hb hK hP 4 4 rfl rfl (k := k) rfl (by have := hI.1; have := hI.2.1; omega) (by decide) (by show eo (zPl σ k) = (-1 : Int32); rw [hp_1]; rfl) dX5_asked_5 ?_
    refine lv_istore_n (lv' := [(3, .int (-1 : Int32)), (0, .ref q.1), (1, .int (nI k)), (2, .int (b2i w))]) hx hb dX5_asked_6 rfl hl (by decide) rfl (fun ls hl => ?_)
    refine lv_iload_n hx hb dX5_asked_7 rfl (lv_at hl 0 rfl) ?_
    refine lv_if_ge (tgt := 15) hx hb dX5_asked_8 (by decide) (fun c_3 => ?_) (fun c_3 => ?_)
    · exact absurd c_3 (by decide)
    refine lv_iconst (v := 1) hx hb dX5_asked_11 (by decide) ?_
    refine lv_goto (tgt := 30) hx hb dX5_asked_12 (by decide) ?_
    exact W.iret hx hb hr (fun t ht hW => ⟨(by unfold askR; (try simp only [hp_1, Option.getD_some, reduceCtorEq, if_true, if_false]); (try rw []); try rfl), ht⟩) (fun q h => absurd h List.not_mem_nil) dX5_asked_30
  · have hb_4 := hI.2.2.1 _ _ hp_1
    refine x_iald hx hb hK hP 4 4 rfl rfl (k := k) rfl (by have := hI.1; have := hI.2.1; omega) (by decide) (by show eo (zPl σ k) = nI a_2; rw [hp_1]; rfl) dX5_asked_5 ?_
    refine lv_istore_n (lv' := [(3, .int (nI a_2)), (0, .ref q.1), (1, .int (nI k)), (2, .int (b2i w))]) hx hb dX5_asked_6 rfl hl (by decide) rfl (fun ls hl => ?_)
    refine lv_iload_n hx hb dX5_asked_7 rfl (lv_at hl 0 rfl) ?_
    refine lv_if_ge (tgt := 15) hx hb dX5_asked_8 (by decide) (fun c_5 => ?_) (fun c_5 => ?_)
    rotate_left
    · exact absurd (nI_pos' (by omega)) c_5
    refine lv_aload_n hx hb dX5_asked_15 rfl (lv_at hl 1 rfl) ?_
    refine va_get (D := (dC, dI)) (ci := 5) (v := .ref q.2.1) (C := RX5) (T := TX5) (N := 12) hx hb hts (fun w h => List.mem_cons_of_mem _ (List.mem_append_right _ h)) hown hK hP 0 rfl rfl 1 (by decide) (hts (.fieldLink RX5 7 "TideGaugesModel" "isWide" "[Z") (List.mem_of_getElem? (i := 2) rfl)) (fun _ h9 => h9) rfl dX5_asked_16 ?_
    refine lv_iload_n hx hb dX5_asked_19 rfl (lv_at hl 0 rfl) ?_
    refine x_zald hx hb hK hP 1 5 rfl rfl (k := a_2) rfl (by have := hI.1; have := hI.2.1; omega) (by decide) rfl dX5_asked_20 ?_
    refine lv_iload_n hx hb dX5_asked_21 rfl (lv_at hl 3 rfl) ?_
    refine w_zeq (tgt := 29) hx hb dX5_asked_22 (by decide) (fun c_6 => ?_) (fun c_6 => ?_)
    · refine lv_iconst (v := 0) hx hb dX5_asked_29 (by decide) ?_
      exact W.iret hx hb hr (fun t ht hW => ⟨(by unfold askR; (try simp only [hp_1, Option.getD_some, reduceCtorEq, if_true, if_false]); (try rw [if_pos c_6]); try rfl), ht⟩) (fun q h => absurd h List.not_mem_nil) dX5_asked_30
    · refine lv_iconst (v := 3) hx hb dX5_asked_25 (by decide) ?_
      refine lv_goto (tgt := 30) hx hb dX5_asked_26 (by decide) ?_
      exact W.iret hx hb hr (fun t ht hW => ⟨(by unfold askR; (try simp only [hp_1, Option.getD_some, reduceCtorEq, if_true, if_false]); (try rw [if_neg c_6]); try rfl), ht⟩) (fun q h => absurd h List.not_mem_nil) dX5_asked_30
set_option maxHeartbeats 4000000 in
set_option maxRecDepth 100000 in
theorem mX5_askedItem (l : Launch) (dC : Nat → ClassId) (dI : Nat → Nat → Nat) (q : Ad) (cJ cG cK cR cI cZ cD : ClassId) (σ : St) (N0 : Nat) (hI : Inv σ N0) (hN : N0 ≤ 512) (k : Nat) (hk : k < 8) (w : Bool) (i : Int32) : Met l yX5_askedItem wsX5_askedItem ({ frames := 1, cells := 0, slots := 0, locals := 23 }) (va_Pc [.ref q.1, .int (nI k), .int (b2i w), .int i] (fun U => va_P (dC, dI) vwCl (MWs q cJ cI cZ cD σ) U.heap ∧ va_K (dC, dI) vwCl (tys0 cJ cG cK cR cI cZ cD) U)) (pQ (.int (askI σ k w i))) 0 0 (fun _ => False) := by
  refine Met.ofW (cc := cX5_askedItem) (maxL := 5) (ret := (some .int)) (by decide) rfl ?_
  intro p e s m args below meth c s₁ B hml hv
  obtain ⟨rfl, hP, hK⟩ := hv
  have hx := B.exec
  have hb := B.bytes
  have hr := B.returns
  have hts := atoms_spec (ws := wsX5_askedItem) B.pre
  have hown : s.vm.findClass RX5 = some m.cls := findClass_of_methodNamed B.named
  have hlocks := B.notSynchronized
  have hN1 := hI.1
  have hN2 := hI.2.1
  have hl := lv_entry ([.ref q.1, .int (nI k), .int (b2i w), .int i]) (n := 5) (Nat.le_of_ble_eq_true rfl)
  rw [lg_entry_eq]
  generalize (lg_sl ([.ref q.1, .int (nI k), .int (b2i w), .int i]) ++ List.replicate (5 - (lg_sl ([.ref q.1, .int (nI k), .int (b2i w), .int i])).length) Slot.unset).toArray = ls at hl ⊢
  have hl : lv_has ls 5 [(0, .ref q.1), (1, .int (nI k)), (2, .int (b2i w)), (3, .int i)] := hl
  refine lv_aload_n hx hb dX5_askedItem_0 rfl (lv_at hl 0 rfl) ?_
  refine lv_iload_n hx hb dX5_askedItem_1 rfl (lv_at hl 1 rfl) ?_
  refine lv_iload_n hx hb dX5_askedItem_2 rfl (lv_at hl 2 rfl) ?_
  refine cm_w (q0 := 0) (As := [.int (nI k), .int (b2i w)]) (rest := []) ⟨hx, hb, hml, hown, hts⟩ (mX5_asked l dC dI q cJ cG cK cR cI cZ cD σ N0 hI hN k (by omega) w) (cwV 2 hts gX5_askedItem_X5_asked rfl rfl rfl (by decide +kernel) ⟨Nat.le_of_ble_eq_true rfl, Nat.le_of_ble_eq_true rfl⟩) hK hP rfl rfl rfl rfl hl.1 (Nat.le_of_ble_eq_true rfl) dX5_askedItem_3 (Nat.zero_le _) (Nat.zero_le _) ?_
  refine lv_istore (lv' := [(4, .int (askR σ k w)), (0, .ref q.1), (1, .int (nI k)), (2, .int (b2i w)), (3, .int i)]) hx hb dX5_askedItem_6 hl (by decide) rfl (fun ls hl => ?_)
  refine lv_iload hx hb dX5_askedItem_8 (lv_at hl 0 rfl) ?_
  refine lv_if_eq (tgt := 18) hx hb dX5_askedItem_10 (by decide) (fun c_1 => ?_) (fun c_1 => ?_)
  · obtain ⟨a0, hp0, hw0⟩ := askR_0 c_1
    have hb0 := hI.2.2.1 _ _ hp0
    refine lv_iload_n hx hb dX5_askedItem_18 rfl (lv_at hl 4 rfl) ?_
    refine lv_iconst (v := 0) hx hb dX5_askedItem_19 (by decide) ?_
    refine lv_aload_n hx hb dX5_askedItem_20 rfl (lv_at hl 1 rfl) ?_
    refine va_get (D := (dC, dI)) (ci := 5) (v := .ref q.2.2.1) (C := RX5) (T := TX5) (N := 12) hx hb hts (fun w h => List.mem_cons_of_mem _ (List.mem_append_right _ h)) hown hK hP 0 rfl rfl 2 (by decide) (hts (.fieldLink RX5 13 "TideGaugesModel" "sizes" "[I") (List.mem_of_getElem? (i := 1) rfl)) (fun _ h9 => h9) rfl dX5_askedItem_21 ?_
    refine lv_aload_n hx hb dX5_askedItem_24 rfl (lv_at hl 1 rfl) ?_
    refine va_get (D := (dC, dI)) (ci := 5) (v := .ref q.2.2.2.2.1) (C := RX5) (T := TX5) (N := 12) hx hb hts (fun w h => List.mem_cons_of_mem _ (List.mem_append_right _ h)) hown hK hP 0 rfl rfl 4 (by decide) (hts (.fieldLink RX5 22 "TideGaugesModel" "places" "[I") (List.mem_of_getElem? (i := 2) rfl)) (fun _ h9 => h9) rfl dX5_askedItem_25 ?_
    refine lv_iload_n hx hb dX5_askedItem_28 rfl (lv_at hl 2 rfl) ?_
    refine x_iald hx hb hK hP 4 4 rfl rfl (k := k) rfl (by have := hI.1; have := hI.2.1; omega) (by decide) (by show eo (zPl σ k) = nI a0; rw [hp0]; rfl) dX5_askedItem_29 ?_
    refine x_iald hx hb hK hP 2 4 rfl rfl (k := a0) rfl (by have := hI.1; have := hI.2.1; omega) (by decide) rfl dX5_askedItem_30 ?_
    refine lv_iconst (v := 1) hx hb dX5_askedItem_31 (by decide) ?_
    refine lv_isub hx hb dX5_askedItem_32 ?_
    refine cs_0 (As := [.int i, .int 0, .int (nI (zRn σ a0) - (1 : Int32))]) (rest := []) ⟨hx, hb, hml, hown, hts⟩ (mX5_inN l i (nI (zRn σ a0) - (1 : Int32)) (zRn σ a0) rfl (by have := hI.2.2.2.1; have := this a0; omega)) (va_cwS 3 hts gX5_askedItem_X5_in rfl rfl rfl (by decide +kernel) ⟨Nat.le_of_ble_eq_true rfl, Nat.le_of_ble_eq_true rfl⟩) rfl rfl hl.1 (Nat.le_of_ble_eq_true rfl) dX5_askedItem_33 (Nat.zero_le _) (Nat.zero_le _) ?_
    refine w_beq (tgt := 43) hx hb dX5_askedItem_36 (by decide) (fun c_2 => ?_) (fun c_2 => ?_)
    · refine lv_iconst (v := 2) hx hb dX5_askedItem_43 (by decide) ?_
      exact W.iret hx hb hr (fun t ht hW => ⟨(by unfold askI; rw [if_pos c_1, hp0, Option.getD_some, if_neg c_2]), ht⟩) (fun q h => absurd h List.not_mem_nil) dX5_askedItem_44
    · refine lv_iconst (v := 0) hx hb dX5_askedItem_39 (by decide) ?_
      refine lv_goto (tgt := 44) hx hb dX5_askedItem_40 (by decide) ?_
      exact W.iret hx hb hr (fun t ht hW => ⟨(by unfold askI; rw [if_pos c_1, hp0, Option.getD_some, if_pos c_2]), ht⟩) (fun q h => absurd h List.not_mem_nil) dX5_askedItem_44
  · refine lv_iload hx hb dX5_askedItem_13 (lv_at hl 0 rfl) ?_
    refine lv_goto (tgt := 44) hx hb dX5_askedItem_15 (by decide) ?_
    exact W.iret hx hb hr (fun t ht hW => ⟨(by unfold askI; rw [if_neg c_1]), ht⟩) (fun q h => absurd h List.not_mem_nil) dX5_askedItem_44
set_option maxHeartbeats 4000000 in
set_option maxRecDepth 100000 in
theorem mX5_item (l : Launch) (dC : Nat → ClassId) (dI : Nat → Nat → Nat) (q : Ad) (cJ cG cK cR cI cZ cD : ClassId) (σ : St) (N0 : Nat) (hI : Inv σ N0) (hN : N0 ≤ 512) (k : Nat) (hk : k < 8) (i : Nat) (a : Nat) (hp : zPl σ k = some a) (hi : i < 12) : Met l yX5_item wsX5_item ({ frames := 0, cells := 0, slots := 0, locals := 0 }) (va_Pc [.ref q.1, .int (nI k), .int (nI i)] (fun U => va_P (dC, dI) vwCl (MWs q cJ cI cZ cD σ) U.heap ∧ va_K (dC, dI) vwCl (tys0 cJ cG cK cR cI cZ cD) U)) (pQ (.long (itm σ k i))) 0 0 (fun _ => False) := by
  refine Met.ofW (cc := cX5_item) (maxL := 3) (ret := (some .long)) (by decide) rfl ?_
  intro p e s m args below meth c s₁ B hml hv
  obtain ⟨rfl, hP, hK⟩ := hv
  have hx := B.exec
  have hb := B.bytes
  have hr := B.returns
  have hts := atoms_spec (ws := wsX5_item) B.pre
  have hown : s.vm.findClass RX5 = some m.cls := findClass_of_methodNamed B.named
  have hlocks := B.notSynchronized
  have hN1 := hI.1
  have hN2 := hI.2.1
  have hl := lv_entry ([.ref q.1, .int (nI k), .int (nI i)]) (n := 3) (Nat.le_of_ble_eq_true rfl)
  rw [lg_entry_eq]
  generalize (lg_sl ([.ref q.1, .int (nI k), .int (nI i)]) ++ List.replicate (3 - (lg_sl ([.ref q.1, .int (nI k), .int (nI i)])).length) Slot.unset).toArray = ls at hl ⊢
  have hl : lv_has ls 3 [(0, .ref q.1), (1, .int (nI k)), (2, .int (nI i))] := hl
  have hb0 := hI.2.2.1 _ _ hp
  refine lv_aload_n hx hb dX5_item_0 rfl (lv_at hl 0 rfl) ?_
  refine va_get (D := (dC, dI)) (ci := 5) (v := .ref q.2.2.2.1) (C := RX5) (T := TX5) (N := 12) hx hb hts (fun w h => List.mem_cons_of_mem _ (List.mem_append_right _ h)) hown hK hP 0 rfl rfl 3 (by decide) (hts (.fieldLink RX5 18 "TideGaugesModel" "items" "[J") (List.mem_of_getElem? (i := 1) rfl)) (fun _ h9 => h9) rfl dX5_item_1 ?_
  refine lv_bipush (v := 12) hx hb dX5_item_4 (by decide) ?_
  refine lv_aload_n hx hb dX5_item_6 rfl (lv_at hl 0 rfl) ?_
  refine va_get (D := (dC, dI)) (ci := 5) (v := .ref q.2.2.2.2.1) (C := RX5) (T := TX5) (N := 12) hx hb hts (fun w h => List.mem_cons_of_mem _ (List.mem_append_right _ h)) hown hK hP 0 rfl rfl 4 (by decide) (hts (.fieldLink RX5 22 "TideGaugesModel" "places" "[I") (List.mem_of_getElem? (i := 2) rfl)) (fun _ h9 => h9) rfl dX5_item_7 ?_
  refine lv_iload_n hx hb dX5_item_10 rfl (lv_at hl 1 rfl) ?_
  refine x_iald hx hb hK hP 4 4 rfl rfl (k := k) rfl (by have := hI.1; have := hI.2.1; omega) (by decide) (by show eo (zPl σ k) = nI a; rw [hp]; rfl) dX5_item_11 ?_
  refine lv_imul hx hb dX5_item_12 ?_
  refine lv_iload_n hx hb dX5_item_13 rfl (lv_at hl 2 rfl) ?_
  refine lv_iadd hx hb dX5_item_14 ?_
  refine x_lald hx hb hK hP 3 0 rfl rfl (k := (12 * a + i)) ix_mul (by have := hI.1; have := hI.2.1; omega) (by decide) (it_at σ (by have := hI.2.2.2.1 a; omega)) dX5_item_15 ?_
  exact W.lret hx hb hr (fun t ht hW => ⟨(by unfold itm; rw [hp]; rfl), ht⟩) (fun q h => absurd h List.not_mem_nil) dX5_item_16
