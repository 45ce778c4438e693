theorem in_3 (x : Int32) : fX5_in x 3 10 = ixb (x - 3) 8 := by
  unfold fX5_in ixb
  have h1 := x.toInt_lt
  have h2 := x.le_toInt
  have e : (x - 3).toInt = (x.toInt - 3).bmod (2 ^ 32) := by rw [Int32.toInt_sub, show (3 : Int32).toInt = 3 from rfl]
  rw [e]
  by_cases a : x < 3
  · rw [if_pos a]
    rw [Int32.lt_iff_toInt_lt, show (3 : Int32).toInt = 3 from rfl] at a
    by_cases z : -2147483648 ≤ x.toInt - 3
    · rw [Int.bmod_eq_of_le (by omega) (by omega), decide_eq_false (by omega)]; rfl
    · have : (x.toInt - 3).bmod (2 ^ 32) = x.toInt - 3 + 4294967296 := by
        rw [Int.bmod_def, if_pos (by omega)]; omega
      rw [this, decide_eq_false (p := x.toInt - 3 + 4294967296 < _) (by omega), Bool.and_false]
  · rw [if_neg a]
    rw [Int32.lt_iff_toInt_lt, show (3 : Int32).toInt = 3 from rfl] at a
    rw [Int.bmod_eq_of_le (by omega) (by omega), decide_eq_true (by omega), Bool.true_and]
    by_cases b : (10 : Int32) < x
    · rw [if_pos b, decide_eq_false (by rw [Int32.lt_iff_toInt_lt, show (10 : Int32).toInt = 10 from rfl] at b; omega)]
    · rw [if_neg b, decide_eq_true (by rw [Int32.lt_iff_toInt_lt, show (10 : Int32).toInt = 10 from rfl] at b; omega)]
theorem in_11 (x : Int32) : fX5_in x 11 16 = ixb (x - 11) 6 := by
  unfold fX5_in ixb
  have h1 := x.toInt_lt
  have h2 := x.le_toInt
  have e : (x - 11).toInt = (x.toInt - 11).bmod (2 ^ 32) := by rw [Int32.toInt_sub, show (11 : Int32).toInt = 11 from rfl]
  rw [e]
  by_cases a : x < 11
  · rw [if_pos a]
    rw [Int32.lt_iff_toInt_lt, show (11 : Int32).toInt = 11 from rfl] at a
    by_cases z : -2147483648 ≤ x.toInt - 11
    · rw [Int.bmod_eq_of_le (by omega) (by omega), decide_eq_false (by omega)]; rfl
    · have : (x.toInt - 11).bmod (2 ^ 32) = x.toInt - 11 + 4294967296 := by
        rw [Int.bmod_def, if_pos (by omega)]; omega
      rw [this, decide_eq_false (p := x.toInt - 11 + 4294967296 < _) (by omega), Bool.and_false]
  · rw [if_neg a]
    rw [Int32.lt_iff_toInt_lt, show (11 : Int32).toInt = 11 from rfl] at a
    rw [Int.bmod_eq_of_le (by omega) (by omega), decide_eq_true (by omega), Bool.true_and]
    by_cases b : (16 : Int32) < x
    · rw [if_pos b, decide_eq_false (by rw [Int32.lt_iff_toInt_lt, show (16 : Int32).toInt = 16 from rfl] at b; omega)]
    · rw [if_neg b, decide_eq_true (by rw [Int32.lt_iff_toInt_lt, show (16 : Int32).toInt = 16 from rfl] at b; omega)]
theorem mX5_in3 (l : Launch) (x : Int32) : Met l yX5_in wsX5_in ({ frames := 0, cells := 0, slots := 0, locals := 0 }) (p0 [.int x, .int 3, .int 10]) (pQ (.int (b2i (ixb (x - 3) 8)))) 0 0 (fun _ => False) := by
  rw [← in_3]; exact mX5_in l x 3 10
theorem mX5_in11 (l : Launch) (x : Int32) : Met l yX5_in wsX5_in ({ frames := 0, cells := 0, slots := 0, locals := 0 }) (p0 [.int x, .int 11, .int 16]) (pQ (.int (b2i (ixb (x - 11) 6)))) 0 0 (fun _ => False) := by
  rw [← in_11]; exact mX5_in l x 11 16
theorem mw_congr {q : Ad} {cJ cI cZ cD : ClassId} {σ τ : St} (h1 : zNr σ = zNr τ) (h2 : zNg σ = zNg τ) (h3 : zTo σ = zTo τ) (h4 : zRw σ = zRw τ) (h5 : zRn σ = zRn τ) (h6 : (fun j => zRi σ (j / 12) (j % 12)) = fun j => zRi τ (j / 12) (j % 12)) (h7 : zPl σ = zPl τ) (h8 : zGk σ = zGk τ) (h9 : zGs σ = zGs τ) (h10 : zGa σ = zGa τ) (h11 : zRk σ = zRk τ) (h12 : (fun j => eo (zHk σ (j / 4) (j % 4))) = fun j => eo (zHk τ (j / 4) (j % 4))) : MWs q cJ cI cZ cD σ = MWs q cJ cI cZ cD τ := by
  unfold MWs
  rw [h1, h2, h3, h4, h5, h6, h7, h8, h9, h10, h11, h12]
/-- twelve items written, four hooks bared -/
theorem mw_z12 (q : Ad) (cJ cI cZ cD : ClassId) (τ : St) (a : Nat) : MWs q cJ cI cZ cD (uIt (uIt (uIt (uIt (uIt (uIt (uIt (uIt (uIt (uIt (uIt (uIt τ a 0 0) a 1 0) a 2 0) a 3 0) a 4 0) a 5 0) a 6 0) a 7 0) a 8 0) a 9 0) a 10 0) a 11 0) = MWs q cJ cI cZ cD (uZ τ a) := by
  have h : (fun j => zRi (uIt (uIt (uIt (uIt (uIt (uIt (uIt (uIt (uIt (uIt (uIt (uIt τ a 0 0) a 1 0) a 2 0) a 3 0) a 4 0) a 5 0) a 6 0) a 7 0) a 8 0) a 9 0) a 10 0) a 11 0) (j / 12) (j % 12)) = fun j => zRi (uZ τ a) (j / 12) (j % 12) := by
    funext j
    have hj : j % 12 < 12 := Nat.mod_lt _ (by decide)
    generalize j % 12 = i at hj
    generalize j / 12 = b
    by_cases hb : b = a
    · subst hb
      simp only [zRi, uIt, uZ, va_up_self, vp_updL]
      repeat' split
      all_goals first | rfl | omega
    · simp only [zRi, uIt, uZ, va_up_ne _ _ hb]
  refine mw_congr ?_ ?_ ?_ ?_ ?_ h ?_ ?_ ?_ ?_ ?_ ?_ <;> simp only [zNr_uIt, zRw_uIt, zRn_uIt, zRi_uIt, zPl_uIt, zNg_uIt, zGk_uIt, zGs_uIt, zGa_uIt, zRk_uIt, zHk_uIt, zTo_uIt, zNr_uZ, zRw_uZ, zRn_uZ, zRi_uZ, zPl_uZ, zNg_uZ, zGk_uZ, zGs_uZ, zGa_uZ, zRk_uZ, zHk_uZ, zTo_uZ]
theorem mw_b4 (q : Ad) (cJ cI cZ cD : ClassId) (τ : St) (a : Nat) : MWs q cJ cI cZ cD (uHk (uHk (uHk (uHk τ a 0 none) a 1 none) a 2 none) a 3 none) = MWs q cJ cI cZ cD (uBare τ a) := by
  have h : (fun j => eo (zHk (uHk (uHk (uHk (uHk τ a 0 none) a 1 none) a 2 none) a 3 none) (j / 4) (j % 4))) = fun j => eo (zHk (uBare τ a) (j / 4) (j % 4)) := by
    funext j
    have hj : j % 4 < 4 := Nat.mod_lt _ (by decide)
    generalize j % 4 = i at hj
    generalize j / 4 = b
    by_cases hb : b = a
    · subst hb
      simp only [zHk, uHk, uBare, va_up_self]
      unfold va_up
      repeat' split
      all_goals first | rfl | omega
    · simp only [zHk, uHk, uBare, va_up_ne _ _ hb]
  exact mw_congr rfl rfl rfl rfl rfl rfl rfl rfl rfl rfl rfl h
set_option maxHeartbeats 8000000 in
set_option maxRecDepth 100000 in
theorem mX5_row (l : Launch) (dC : Nat → ClassId) (dI : Nat → Nat → Nat) (q : Ad) (cJ cG cK cR cI cZ cD : ClassId) (sz : Nat) (σ : St) (N0 : Nat) (hI : Inv σ N0) (hN : N0 ≤ 512) (x : Int32) (w : Bool) (n : Int32) : Met l yX5_row wsX5_row ({ frames := 1, cells := 0, slots := 0, locals := 22 }) (va_Pc [.ref q.1, .int x, .int (b2i w), .int n] (fun U => U.heap.size = sz ∧ va_P (dC, dI) vwCl (MWs q cJ cI cZ cD σ) U.heap ∧ va_K (dC, dI) vwCl (tys0 cJ cG cK cR cI cZ cD) U ∧ va_D (fun _ => True) (MWs q cJ cI cZ cD σ))) (va_Qi (fun (r : Int32) (τ : St) => (r, τ) = oRow σ x w n) (fun τ t => va_P (dC, dI) vwCl (MWs q cJ cI cZ cD τ) t.heap ∧ va_D (va_A (MWs q cJ cI cZ cD σ) sz) (MWs q cJ cI cZ cD τ)) (va_A (MWs q cJ cI cZ cD σ) sz)) 0 0 (va_A (MWs q cJ cI cZ cD σ) sz) := by
  refine Met.ofW (cc := cX5_row) (maxL := 5) (ret := (some .int)) (by decide) rfl ?_
  intro p e s m args below meth c s₁ B hml hv
  obtain ⟨rfl, hsz, hP, hK, hD0⟩ := hv
  have hx := B.exec
  have hb := B.bytes
  have hr := B.returns
  have hts := atoms_spec (ws := wsX5_row) B.pre
  have hown : s.vm.findClass RX5 = some m.cls := findClass_of_methodNamed B.named
  have hlocks := B.notSynchronized
  have hN1 := hI.1
  have hN2 := hI.2.1
  subst hsz
  have hD := hD0.self (sz := s.heap.size)
  generalize hAe : va_A (MWs q cJ cI cZ cD σ) s.heap.size = A at hD ⊢
  have hA : ∀ z : Nat, s.heap.size ≤ z → A z := fun z h => by rw [← hAe]; exact Or.inr h
  have hS : va_S A s.heap s.heap [] := va_S.rf
  have hl := lv_entry ([.ref q.1, .int x, .int (b2i w), .int n]) (n := 5) (Nat.le_of_ble_eq_true rfl)
  rw [lg_entry_eq]
  generalize (lg_sl ([.ref q.1, .int x, .int (b2i w), .int n]) ++ List.replicate (5 - (lg_sl ([.ref q.1, .int x, .int (b2i w), .int n])).length) Slot.unset).toArray = ls at hl ⊢
  have hl : lv_has ls 5 [(0, .ref q.1), (1, .int x), (2, .int (b2i w)), (3, .int n)] := hl
  refine lv_iload_n hx hb dX5_row_0 rfl (lv_at hl 1 rfl) ?_
  refine lv_iconst (v := 0) hx hb dX5_row_1 (by decide) ?_
  refine lv_bipush (v := 7) hx hb dX5_row_2 (by decide) ?_
  refine cs_0 (As := [.int x, .int 0, .int (7 : Int32)]) (rest := []) ⟨hx, hb, hml, hown, hts⟩ (mX5_inN l x (7 : Int32) 8 rfl (by decide)) (va_cwS 3 hts gX5_row_X5_in rfl rfl rfl (by decide +kernel) ⟨Nat.le_of_ble_eq_true rfl, Nat.le_of_ble_eq_true rfl⟩) rfl rfl hl.1 (Nat.le_of_ble_eq_true rfl) dX5_row_4 (Nat.zero_le _) (Nat.zero_le _) ?_
  refine w_beq (tgt := 20) hx hb dX5_row_7 (by decide) (fun c_1 => ?_) (fun c_1 => ?_)
  · refine lv_iconst (v := -1) hx hb dX5_row_20 (by decide) ?_
    exact W.iret hx hb hr (fun t ht hW => ⟨⟨_, σ, rfl, (by unfold oRow; (try simp only [if_neg c_1, Option.getD_some, reduceCtorEq, if_true, if_false, Option.isNone_some, Option.isNone_none, Bool.false_or, Bool.true_or, Bool.not_true, Bool.not_false]); try rfl), by rw [ht]; exact hP, hD⟩, hS.F ht⟩) hS.2.2 dX5_row_21
  · obtain ⟨kx, hkx, rfl⟩ := ixb_some c_1 (by decide)
    refine lv_iload_n hx hb dX5_row_10 rfl (lv_at hl 3 rfl) ?_
    refine lv_iconst (v := 0) hx hb dX5_row_11 (by decide) ?_
    refine lv_bipush (v := 12) hx hb dX5_row_12 (by decide) ?_
    refine cs_0 (As := [.int n, .int 0, .int (12 : Int32)]) (rest := []) ⟨hx, hb, hml, hown, hts⟩ (mX5_inN l n (12 : Int32) 13 rfl (by decide)) (va_cwS 3 hts gX5_row_X5_in rfl rfl rfl (by decide +kernel) ⟨Nat.le_of_ble_eq_true rfl, Nat.le_of_ble_eq_true rfl⟩) rfl rfl hl.1 (Nat.le_of_ble_eq_true rfl) dX5_row_14 (Nat.zero_le _) (Nat.zero_le _) ?_
    refine w_bne (tgt := 22) hx hb dX5_row_17 (by decide) (fun c_2 => ?_) (fun c_2 => ?_)
    · obtain ⟨kn, hkn, rfl⟩ := ixb_some c_2 (by decide)
      refine lv_aload_n hx hb dX5_row_22 rfl (lv_at hl 0 rfl) ?_
      refine va_get (D := (dC, dI)) (ci := 5) (v := .ref q.2.1) (C := RX5) (T := TX5) (N := 12) hx hb hts (fun w h => List.mem_cons_of_mem _ (List.mem_append_right _ h)) hown hK hP 0 rfl rfl 1 (by decide) (hts (.fieldLink RX5 7 "TideGaugesModel" "isWide" "[Z") (List.mem_of_getElem? (i := 1) rfl)) (fun _ h9 => h9) rfl dX5_row_23 ?_
      refine lv_aload_n hx hb dX5_row_26 rfl (lv_at hl 0 rfl) ?_
      refine va_get (D := (dC, dI)) (ci := 5) (v := .int (nI (zNr σ))) (C := RX5) (T := TX5) (N := 12) hx hb hts (fun w h => List.mem_cons_of_mem _ (List.mem_append_right _ h)) hown hK hP 0 rfl rfl 0 (by decide) (hts (.fieldLink RX5 75 "TideGaugesModel" "rows" "I") (List.mem_of_getElem? (i := 2) rfl)) (fun _ h9 => h9) rfl dX5_row_27 ?_
      refine lv_iload_n hx hb dX5_row_30 rfl (lv_at hl 2 rfl) ?_
      refine x_zast hx hb hK hP hD hS 1 5 rfl rfl (k := (zNr σ)) rfl (by have := hI.1; have := hI.2.1; omega) (by decide) dX5_row_31 (fun H locs hP hD hS => ?_)
      have hP : va_P (dC, dI) vwCl (MWs q cJ cI cZ cD (uRw σ (zNr σ) w)) H := mset1 (fz_rw σ (zNr σ) w) hP
      have hD : va_D A (MWs q cJ cI cZ cD (uRw σ (zNr σ) w)) := msetD1 (fz_rw σ (zNr σ) w) hD
      refine lv_aload_n hx hb dX5_row_32 rfl (lv_at hl 0 rfl) ?_
      refine va_get (D := (dC, dI)) (ci := 5) (v := .ref q.2.2.1) (C := RX5) (T := TX5) (N := 12) hx hb hts (fun w h => List.mem_cons_of_mem _ (List.mem_append_right _ h)) hown hK hP 0 rfl rfl 2 (by decide) (hts (.fieldLink RX5 13 "TideGaugesModel" "sizes" "[I") (List.mem_of_getElem? (i := 3) rfl)) (fun _ h9 => h9) rfl dX5_row_33 ?_
      refine lv_aload_n hx hb dX5_row_36 rfl (lv_at hl 0 rfl) ?_
      refine va_get (D := (dC, dI)) (ci := 5) (v := .int (nI (zNr σ))) (C := RX5) (T := TX5) (N := 12) hx hb hts (fun w h => List.mem_cons_of_mem _ (List.mem_append_right _ h)) hown hK hP 0 rfl rfl 0 (by decide) (hts (.fieldLink RX5 75 "TideGaugesModel" "rows" "I") (List.mem_of_getElem? (i := 2) rfl)) (fun _ h9 => h9) rfl dX5_row_37 ?_
      refine lv_iload_n hx hb dX5_row_40 rfl (lv_at hl 3 rfl) ?_
      refine x_iast hx hb hK hP hD hS 2 4 rfl rfl (k := (zNr σ)) rfl (by have := hI.1; have := hI.2.1; omega) (by decide) dX5_row_41 (fun H locs hP hD hS => ?_)
      have hP : va_P (dC, dI) vwCl (MWs q cJ cI cZ cD (uRn (uRw σ (zNr σ) w) (zNr σ) kn)) H := mset2 (fz_rn (uRw σ (zNr σ) w) (zNr σ) kn) hP
      have hD : va_D A (MWs q cJ cI cZ cD (uRn (uRw σ (zNr σ) w) (zNr σ) kn)) := msetD2 (fz_rn (uRw σ (zNr σ) w) (zNr σ) kn) hD
      refine lv_iconst (v := 0) hx hb dX5_row_42 (by decide) ?_
      refine lv_istore (lv' := [(4, .int (0 : Int32)), (0, .ref q.1), (1, .int (nI kx)), (2, .int (b2i w)), (3, .int (nI kn))]) hx hb dX5_row_43 hl (by decide) rfl (fun ls hl => ?_)
      refine lv_iload hx hb dX5_row_45 (lv_at hl 0 rfl) ?_
      refine lv_bipush (v := 12) hx hb dX5_row_47 (by decide) ?_
      refine lv_icmp_ge (tgt := 74) hx hb dX5_row_49 (by decide) (fun c_3 => ?_) (fun c_3 => ?_)
      · exact absurd c_3 (by decide)
      refine lv_aload_n hx hb dX5_row_52 rfl (lv_at hl 1 rfl) ?_
      refine va_get (D := (dC, dI)) (ci := 5) (v := .ref q.2.2.2.1) (C := RX5) (T := TX5) (N := 12) hx hb hts (fun w h => List.mem_cons_of_mem _ (List.mem_append_right _ h)) hown hK hP 0 rfl rfl 3 (by decide) (hts (.fieldLink RX5 18 "TideGaugesModel" "items" "[J") (List.mem_of_getElem? (i := 4) rfl)) (fun _ h9 => h9) rfl dX5_row_53 ?_
      refine lv_bipush (v := 12) hx hb dX5_row_56 (by decide) ?_
      refine lv_aload_n hx hb dX5_row_58 rfl (lv_at hl 1 rfl) ?_
      refine va_get (D := (dC, dI)) (ci := 5) (v := .int (nI (zNr σ))) (C := RX5) (T := TX5) (N := 12) hx hb hts (fun w h => List.mem_cons_of_mem _ (List.mem_append_right _ h)) hown hK hP 0 rfl rfl 0 (by decide) (hts (.fieldLink RX5 75 "TideGaugesModel" "rows" "I") (List.mem_of_getElem? (i := 2) rfl)) (fun _ h9 => h9) rfl dX5_row_59 ?_
      refine lv_imul hx hb dX5_row_62 ?_
      refine lv_iload hx hb dX5_row_63 (lv_at hl 0 rfl) ?_
      refine lv_iadd hx hb dX5_row_65 ?_
      refine lv_lconst (v := 0) hx hb dX5_row_66 (by decide) ?_
      refine x_last hx hb hK hP hD hS 3 0 rfl rfl (k := (12 * (zNr σ) + 0)) ix_mul (by have := hI.1; have := hI.2.1; omega) (by decide) dX5_row_67 (fun H locs hP hD hS => ?_)
      have hP : va_P (dC, dI) vwCl (MWs q cJ cI cZ cD (uIt (uRn (uRw σ (zNr σ) w) (zNr σ) kn) (zNr σ) 0 (0 : Int64))) H := mset3 (fz_ri (uRn (uRw σ (zNr σ) w) (zNr σ) kn) (zNr σ) 0 (0 : Int64) (by have := hI.2.2.2.1 (zNr σ); omega)) hP
      have hD : va_D A (MWs q cJ cI cZ cD (uIt (uRn (uRw σ (zNr σ) w) (zNr σ) kn) (zNr σ) 0 (0 : Int64))) := msetD3 (fz_ri (uRn (uRw σ (zNr σ) w) (zNr σ) kn) (zNr σ) 0 (0 : Int64) (by have := hI.2.2.2.1 (zNr σ); omega)) hD
      refine lv_iinc (v := (1 : Int32)) (lv' := [(4, .int (1 : Int32)), (0, .ref q.1), (1, .int (nI kx)), (2, .int (b2i w)), (3, .int (nI kn))]) hx hb dX5_row_68 hl (k := 0) rfl (by decide) (by decide) rfl (fun ls hl => ?_)
      refine lv_goto (tgt := 45) hx hb dX5_row_71 (by decide) ?_
      refine lv_iload hx hb dX5_row_45 (lv_at hl 0 rfl) ?_
      refine lv_bipush (v := 12) hx hb dX5_row_47 (by decide) ?_
      refine lv_icmp_ge (tgt := 74) hx hb dX5_row_49 (by decide) (fun c_4 => ?_) (fun c_4 => ?_)
      · exact absurd c_4 (by decide)
      refine lv_aload_n hx hb dX5_row_52 rfl (lv_at hl 1 rfl) ?_
      refine va_get (D := (dC, dI)) (ci := 5) (v := .ref q.2.2.2.1) (C := RX5) (T := TX5) (N := 12) hx hb hts (fun w h => List.mem_cons_of_mem _ (List.mem_append_right _ h)) hown hK hP 0 rfl rfl 3 (by decide) (hts (.fieldLink RX5 18 "TideGaugesModel" "items" "[J") (List.mem_of_getElem? (i := 4) rfl)) (fun _ h9 => h9) rfl dX5_row_53 ?_
      refine lv_bipush (v := 12) hx hb dX5_row_56 (by decide) ?_
      refine lv_aload_n hx hb dX5_row_58 rfl (lv_at hl 1 rfl) ?_
      refine va_get (D := (dC, dI)) (ci := 5) (v := .int (nI (zNr σ))) (C := RX5) (T := TX5) (N := 12) hx hb hts (fun w h => List.mem_cons_of_mem _ (List.mem_append_right _ h)) hown hK hP 0 rfl rfl 0 (by decide) (hts (.fieldLink RX5 75 "TideGaugesModel" "rows" "I") (List.mem_of_getElem? (i := 2) rfl)) (fun _ h9 => h9) rfl dX5_row_59 ?_
      refine lv_imul hx hb dX5_row_62 ?_
      refine lv_iload hx hb dX5_row_63 (lv_at hl 0 rfl) ?_
      refine lv_iadd hx hb dX5_row_65 ?_
      refine lv_lconst (v := 0) hx hb dX5_row_66 (by decide) ?_
      refine x_last hx hb hK hP hD hS 3 0 rfl rfl (k := (12 * (zNr σ) + 1)) ix_mul (by have := hI.1; have := hI.2.1; omega) (by decide) dX5_row_67 (fun H locs hP hD hS => ?_)
      have hP : va_P (dC, dI) vwCl (MWs q cJ cI cZ cD (uIt (uIt (uRn (uRw σ (zNr σ) w) (zNr σ) kn) (zNr σ) 0 (0 : Int64)) (zNr σ) 1 (0 : Int64))) H := mset3 (fz_ri (uIt (uRn (uRw σ (zNr σ) w) (zNr σ) kn) (zNr σ) 0 (0 : Int64)) (zNr σ) 1 (0 : Int64) (by have := hI.2.2.2.1 (zNr σ); omega)) hP
      have hD : va_D A (MWs q cJ cI cZ cD (uIt (uIt (uRn (uRw σ (zNr σ) w) (zNr σ) kn) (zNr σ) 0 (0 : Int64)) (zNr σ) 1 (0 : Int64))) := msetD3 (fz_ri (uIt (uRn (uRw σ (zNr σ) w) (zNr σ) kn) (zNr σ) 0 (0 : Int64)) (zNr σ) 1 (0 : Int64) (by have := hI.2.2.2.1 (zNr σ); omega)) hD
      refine lv_iinc (v := (2 : Int32)) (lv' := [(4, .int (2 : Int32)), (0, .ref q.1), (1, .int (nI kx)), (2, .int (b2i w)), (3, .int (nI kn))]) hx hb dX5_row_68 hl (k := 0) rfl (by decide) (by decide) rfl (fun ls hl => ?_)
      refine lv_goto (tgt := 45) hx hb dX5_row_71 (by decide) ?_
      refine lv_iload hx hb dX5_row_45 (lv_at hl 0 rfl) ?_
      refine lv_bipush (v := 12) hx hb dX5_row_47 (by decide) ?_
      refine lv_icmp_ge (tgt := 74) hx hb dX5_row_49 (by decide) (fun c_5 => ?_) (fun c_5 => ?_)
      · exact absurd c_5 (by decide)
      refine lv_aload_n hx hb dX5_row_52 rfl (lv_at hl 1 rfl) ?_
      refine va_get (D := (dC, dI)) (ci := 5) (v := .ref q.2.2.2.1) (C := RX5) (T := TX5) (N := 12) hx hb hts (fun w h => List.mem_cons_of_mem _ (List.mem_append_right _ h)) hown hK hP 0 rfl rfl 3 (by decide) (hts (.fieldLink RX5 18 "TideGaugesModel" "items" "[J") (List.mem_of_getElem? (i := 4) rfl)) (fun _ h9 => h9) rfl dX5_row_53 ?_
      refine lv_bipush (v := 12) hx hb dX5_row_56 (by decide) ?_
      refine lv_aload_n hx hb dX5_row_58 rfl (lv_at hl 1 rfl) ?_
      refine va_get (D := (dC, dI)) (ci := 5) (v := .int (nI (zNr σ))) (C := RX5) (T := TX5) (N := 12) hx hb hts (fun w h => List.mem_cons_of_mem _ (List.mem_append_right _ h)) hown hK hP 0 rfl rfl 0 (by decide) (hts (.fieldLink RX5 75 "TideGaugesModel" "rows" "I") (List.mem_of_getElem? (i := 2) rfl)) (fun _ h9 => h9) rfl dX5_row_59 ?_
      refine lv_imul hx hb dX5_row_62 ?_
      refine lv_iload hx hb dX5_row_63 (lv_at hl 0 rfl) ?_
      refine lv_iadd hx hb dX5_row_65 ?_
      refine lv_lconst (v := 0) hx hb dX5_row_66 (by decide) ?_
      refine x_last hx hb hK hP hD hS 3 0 rfl rfl (k := (12 * (zNr σ) + 2)) ix_mul (by have := hI.1; have := hI.2.1; omega) (by decide) dX5_row_67 (fun H locs hP hD hS => ?_)
      have hP : va_P (dC, dI) vwCl (MWs q cJ cI cZ cD (uIt (uIt (uIt (uRn (uRw σ (zNr σ) w) (zNr σ) kn) (zNr σ) 0 (0 : Int64)) (zNr σ) 1 (0 : Int64)) (zNr σ) 2 (0 : Int64))) H := mset3 (fz_ri (uIt (uIt (uRn (uRw σ (zNr σ) w) (zNr σ) kn) (zNr σ) 0 (0 : Int64)) (zNr σ) 1 (0 : Int64)) (zNr σ) 2 (0 : Int64) (by have := hI.2.2.2.1 (zNr σ); omega)) hP
      have hD : va_D A (MWs q cJ cI cZ cD (uIt (uIt (uIt (uRn (uRw σ (zNr σ) w) (zNr σ) kn) (zNr σ) 0 (0 : Int64)) (zNr σ) 1 (0 : Int64)) (zNr σ) 2 (0 : Int64))) := msetD3 (fz_ri (uIt (uIt (uRn (uRw σ (zNr σ) w) (zNr σ) kn) (zNr σ) 0 (0 : Int64)) (zNr σ) 1 (0 : Int64)) (zNr σ) 2 (0 : Int64) (by have := hI.2.2.2.1 (zNr σ); omega)) hD
      refine lv_iinc (v := (3 : Int32)) (lv' := [(4, .int (3 : Int32)), (0, .ref q.1), (1, .int (nI kx)), (2, .int (b2i w)), (3, .int (nI kn))]) hx hb dX5_row_68 hl (k := 0) rfl (by decide) (by decide) rfl (fun ls hl => ?_)
      refine lv_goto (tgt := 45) hx hb dX5_row_71 (by decide) ?_
      refine lv_iload hx hb dX5_row_45 (lv_at hl 0 rfl) ?_
      refine lv_bipush (v := 12) hx hb dX5_row_47 (by decide) ?_
      refine lv_icmp_ge (tgt := 74) hx hb dX5_row_49 (by decide) (fun c_6 => ?_) (fun c_6 => ?_)
      · exact absurd c_6 (by decide)
      refine lv_aload_n hx hb dX5_row_52 rfl (lv_at hl 1 rfl) ?_
      refine va_get (D := (dC, dI)) (ci := 5) (v := .ref q.2.2.2.1) (C := RX5) (T := TX5) (N := 12) hx hb hts (fun w h => List.mem_cons_of_mem _ (List.mem_append_right _ h)) hown hK hP 0 rfl rfl 3 (by decide) (hts (.fieldLink RX5 18 "TideGaugesModel" "items" "[J") (List.mem_of_getElem? (i := 4) rfl)) (fun _ h9 => h9) rfl dX5_row_53 ?_
      refine lv_bipush (v := 12) hx hb dX5_row_56 (by decide) ?_
      refine lv_aload_n hx hb dX5_row_58 rfl (lv_at hl 1 rfl) ?_
      refine va_get (D := (dC, dI)) (ci := 5) (v := .int (nI (zNr σ))) (C := RX5) (T := TX5) (N := 12) hx hb hts (fun w h => List.mem_cons_of_mem _ (List.mem_append_right _ h)) hown hK hP 0 rfl rfl 0 (by decide) (hts (.fieldLink RX5 75 "TideGaugesModel" "rows" "I") (List.mem_of_getElem? (i := 2) rfl)) (fun _ h9 => h9) rfl dX5_row_59 ?_
      refine lv_imul hx hb dX5_row_62 ?_
      refine lv_iload hx hb dX5_row_63 (lv_at hl 0 rfl) ?_
      refine lv_iadd hx hb dX5_row_65 ?_
      refine lv_lconst (v := 0) hx hb dX5_row_66 (by decide) ?_
      refine x_last hx hb hK hP hD hS 3 0 rfl rfl (k := (12 * (zNr σ) + 3)) ix_mul (by have := hI.1; have := hI.2.1; omega) (by decide) dX5_row_67 (fun H locs hP hD hS => ?_)
      have hP : va_P (dC, dI) vwCl (MWs q cJ cI cZ cD (uIt (uIt (uIt (uIt (uRn (uRw σ (zNr σ) w) (zNr σ) kn) (zNr σ) 0 (0 : Int64)) (zNr σ) 1 (0 : Int64)) (zNr σ) 2 (0 : Int64)) (zNr σ) 3 (0 : Int64))) H := mset3 (fz_ri (uIt (uIt (uIt (uRn (uRw σ (zNr σ) w) (zNr σ) kn) (zNr σ) 0 (0 : Int64)) (zNr σ) 1 (0 : Int64)) (zNr σ) 2 (0 : Int64)) (zNr σ) 3 (0 : Int64) (by have := hI.2.2.2.1 (zNr σ); omega)) hP
      have hD : va_D A (MWs q cJ cI cZ cD (uIt (uIt (uIt (uIt (uRn (uRw σ (zNr σ) w) (zNr σ) kn) (zNr σ) 0 (0 : Int64)) (zNr σ) 1 (0 : Int64)) (zNr σ) 2 (0 : Int64)) (zNr σ) 3 (0 : Int64))) := msetD3 (fz_ri (uIt (uIt (uIt (uRn (uRw σ (zNr σ) w) (zNr σ) kn) (zNr σ) 0 (0 : Int64)) (zNr σ) 1 (0 : Int64)) (zNr σ) 2 (0 : Int64)) (zNr σ) 3 (0 : Int64) (by have := hI.2.2.2.1 (zNr σ); omega)) hD
      refine lv_iinc (v := (4 : Int32)) (lv' := [(4, .int (4 : Int32)), (0, .ref q.1), (1, .int (nI kx)), (2, .int (b2i w)), (3, .int (nI kn))]) hx hb dX5_row_68 hl (k := 0) rfl (by decide) (by decide) rfl (fun ls hl => ?_)
      refine lv_goto (tgt := 45) hx hb dX5_row_71 (by decide) ?_
      refine lv_iload hx hb dX5_row_45 (lv_at hl 0 rfl) ?_
      refine lv_bipush (v := 12) hx hb dX5_row_47 (by decide) ?_
      refine lv_icmp_ge (tgt := 74) hx hb dX5_row_49 (by decide) (fun c_7 => ?_) (fun c_7 => ?_)
      · exact absurd c_7 (by decide)
      refine lv_aload_n hx hb dX5_row_52 rfl (lv_at hl 1 rfl) ?_
      refine va_get (D := (dC, dI)) (ci := 5) (v := .ref q.2.2.2.1) (C := RX5) (T := TX5) (N := 12) hx hb hts (fun w h => List.mem_cons_of_mem _ (List.mem_append_right _ h)) hown hK hP 0 rfl rfl 3 (by decide) (hts (.fieldLink RX5 18 "TideGaugesModel" "items" "[J") (List.mem_of_getElem? (i := 4) rfl)) (fun _ h9 => h9) rfl dX5_row_53 ?_
      refine lv_bipush (v := 12) hx hb dX5_row_56 (by decide) ?_
      refine lv_aload_n hx hb dX5_row_58 rfl (lv_at hl 1 rfl) ?_
      refine va_get (D := (dC, dI)) (ci := 5) (v := .int (nI (zNr σ))) (C := RX5) (T := TX5) (N := 12) hx hb hts (fun w h => List.mem_cons_of_mem _ (List.mem_append_right _ h)) hown hK hP 0 rfl rfl 0 (by decide) (hts (.fieldLink RX5 75 "TideGaugesModel" "rows" "I") (List.mem_of_getElem? (i := 2) rfl)) (fun _ h9 => h9) rfl dX5_row_59 ?_
      refine lv_imul hx hb dX5_row_62 ?_
      refine lv_iload hx hb dX5_row_63 (lv_at hl 0 rfl) ?_
      refine lv_iadd hx hb dX5_row_65 ?_
      refine lv_lconst (v := 0) hx hb dX5_row_66 (by decide) ?_
      refine x_last hx hb hK hP hD hS 3 0 rfl rfl (k := (12 * (zNr σ) + 4)) ix_mul (by have := hI.1; have := hI.2.1; omega) (by decide) dX5_row_67 (fun H locs hP hD hS => ?_)
      have hP : va_P (dC, dI) vwCl (MWs q cJ cI cZ cD (uIt (uIt (uIt (uIt (uIt (uRn (uRw σ (zNr σ) w) (zNr σ) kn) (zNr σ) 0 (0 : Int64)) (zNr σ) 1 (0 : Int64)) (zNr σ) 2 (0 : Int64)) (zNr σ) 3 (0 : Int64)) (zNr σ) 4 (0 : Int64))) H := mset3 (fz_ri (uIt (uIt (uIt (uIt (uRn (uRw σ (zNr σ) w) (zNr σ) kn) (zNr σ) 0 (0 : Int64)) (zNr σ) 1 (0 : Int64)) (zNr σ) 2 (0 : Int64)) (zNr σ) 3 (0 : Int64)) (zNr σ) 4 (0 : Int64) (by have := hI.2.2.2.1 (zNr σ); omega)) hP
      have hD : va_D A (MWs q cJ cI cZ cD (uIt (uIt (uIt (uIt (uIt (uRn (uRw σ (zNr σ) w) (zNr σ) kn) (zNr σ) 0 (0 : Int64)) (zNr σ) 1 (0 : Int64)) (zNr σ) 2 (0 : Int64)) (zNr σ) 3 (0 : Int64)) (zNr σ) 4 (0 : Int64))) := msetD3 (fz_ri (uIt (uIt (uIt (uIt (uRn (uRw σ (zNr σ) w) (zNr σ) kn) (zNr σ) 0 (0 : Int64)) (zNr σ) 1 (0 : Int64)) (zNr σ) 2 (0 : Int64)) (zNr σ) 3 (0 : Int64)) (zNr σ) 4 (0 : Int64) (by have := hI.2.2.2.1 (zNr σ); omega)) hD
      refine lv_iinc (v := (5 : Int32)) (lv' := [(4, .int (5 : Int32)), (0, .ref q.1), (1, .int (nI kx)), (2, .int (b2i w)), (3, .int (nI kn))]) hx hb dX5_row_68 hl (k := 0) rfl (by decide) (by decide) rfl (fun ls hl => ?_)
      refine lv_goto (tgt := 45) hx hb dX5_row_71 (by decide) ?_
      refine lv_iload hx hb dX5_row_45 (lv_at hl 0 rfl) ?_
      refine lv_bipush (v := 12) hx hb dX5_row_47 (by decide) ?_
      refine lv_icmp_ge (tgt := 74) hx hb dX5_row_49 (by decide) (fun c_8 => ?_) (fun c_8 => ?_)
      · exact absurd c_8 (by decide)
      refine lv_aload_n hx hb dX5_row_52 rfl (lv_at hl 1 rfl) ?_
      refine va_get (D := (dC, dI)) (ci := 5) (v := .ref q.2.2.2.1) (C := RX5) (T := TX5) (N := 12) hx hb hts (fun w h => List.mem_cons_of_mem _ (List.mem_append_right _ h)) hown hK hP 0 rfl rfl 3 (by decide) (hts (.fieldLink RX5 18 "TideGaugesModel" "items" "[J") (List.mem_of_getElem? (i := 4) rfl)) (fun _ h9 => h9) rfl dX5_row_53 ?_
      refine lv_bipush (v := 12) hx hb dX5_row_56 (by decide) ?_
      refine lv_aload_n hx hb dX5_row_58 rfl (lv_at hl 1 rfl) ?_
      refine va_get (D := (dC, dI)) (ci := 5) (v := .int (nI (zNr σ))) (C := RX5) (T := TX5) (N := 12) hx hb hts (fun w h => List.mem_cons_of_mem _ (List.mem_append_right _ h)) hown hK hP 0 rfl rfl 0 (by decide) (hts (.fieldLink RX5 75 "TideGaugesModel" "rows" "I") (List.mem_of_getElem? (i := 2) rfl)) (fun _ h9 => h9) rfl dX5_row_59 ?_
      refine lv_imul hx hb dX5_row_62 ?_
      refine lv_iload hx hb dX5_row_63 (lv_at hl 0 rfl) ?_
      refine lv_iadd hx hb dX5_row_65 ?_
      refine lv_lconst (v := 0) hx hb dX5_row_66 (by decide) ?_
      refine x_last hx hb hK hP hD hS 3 0 rfl rfl (k := (12 * (zNr σ) + 5)) ix_mul (by have := hI.1; have := hI.2.1; omega) (by decide) dX5_row_67 (fun H locs hP hD hS => ?_)
      have hP : va_P (dC, dI) vwCl (MWs q cJ cI cZ cD (uIt (uIt (uIt (uIt (uIt (uIt (uRn (uRw σ (zNr σ) w) (zNr σ) kn) (zNr σ) 0 (0 : Int64)) (zNr σ) 1 (0 : Int64)) (zNr σ) 2 (0 : Int64)) (zNr σ) 3 (0 : Int64)) (zNr σ) 4 (0 : Int64)) (zNr σ) 5 (0 : Int64))) H := mset3 (fz_ri (uIt (uIt (uIt (uIt (uIt (uRn (uRw σ (zNr σ) w) (zNr σ) kn) (zNr σ) 0 (0 : Int64)) (zNr σ) 1 (0 : Int64)) (zNr σ) 2 (0 : Int64)) (zNr σ) 3 (0 : Int64)) (zNr σ) 4 (0 : Int64)) (zNr σ) 5 (0 : Int64) (by have := hI.2.2.2.1 (zNr σ); omega)) hP
      have hD : va_D A (MWs q cJ cI cZ cD (uIt (uIt (uIt (uIt (uIt (uIt (uRn (uRw σ (zNr σ) w) (zNr σ) kn) (zNr σ) 0 (0 : Int64)) (zNr σ) 1 (0 : Int64)) (zNr σ) 2 (0 : Int64)) (zNr σ) 3 (0 : Int64)) (zNr σ) 4 (0 : Int64)) (zNr σ) 5 (0 : Int64))) := msetD3 (fz_ri (uIt (uIt (uIt (uIt (uIt (uRn (uRw σ (zNr σ) w) (zNr σ) kn) (zNr σ) 0 (0 : Int64)) (zNr σ) 1 (0 : Int64)) (zNr σ) 2 (0 : Int64)) (zNr σ) 3 (0 : Int64)) (zNr σ) 4 (0 : Int64)) (zNr σ) 5 (0 : Int64) (by have := hI.2.2.2.1 (zNr σ); omega)) hD
      refine lv_iinc (v := (6 : Int32)) (lv' := [(4, .int (6 : Int32)), (0, .ref q.1), (1, .int (nI kx)), (2, .int (b2i w)), (3, .int (nI kn))]) hx hb dX5_row_68 hl (k := 0) rfl (by decide) (by decide) rfl (fun ls hl => ?_)
      refine lv_goto (tgt := 45) hx hb dX5_row_71 (by decide) ?_
      refine lv_iload hx hb dX5_row_45 (lv_at hl 0 rfl) ?_
      refine lv_bipush (v := 12) hx hb dX5_row_47 (by decide) ?_
      refine lv_icmp_ge (tgt := 74) hx hb dX5_row_49 (by decide) (fun c_9 => ?_) (fun c_9 => ?_)
      · exact absurd c_9 (by decide)
      refine lv_aload_n hx hb dX5_row_52 rfl (lv_at hl 1 rfl) ?_
      refine va_get (D := (dC, dI)) (ci := 5) (v := .ref q.2.2.2.1) (C := RX5) (T := TX5) (N := 12) hx hb hts (fun w h => List.mem_cons_of_mem _ (List.mem_append_right _ h)) hown hK hP 0 rfl rfl 3 (by decide) (hts (.fieldLink RX5 18 "TideGaugesModel" "items" "[J") (List.mem_of_getElem? (i := 4) rfl)) (fun _ h9 => h9) rfl dX5_row_53 ?_
      refine lv_bipush (v := 12) hx hb dX5_row_56 (by decide) ?_
      refine lv_aload_n hx hb dX5_row_58 rfl (lv_at hl 1 rfl) ?_
      refine va_get (D := (dC, dI)) (ci := 5) (v := .int (nI (zNr σ))) (C := RX5) (T := TX5) (N := 12) hx hb hts (fun w h => List.mem_cons_of_mem _ (List.mem_append_right _ h)) hown hK hP 0 rfl rfl 0 (by decide) (hts (.fieldLink RX5 75 "TideGaugesModel" "rows" "I") (List.mem_of_getElem? (i := 2) rfl)) (fun _ h9 => h9) rfl dX5_row_59 ?_
      refine lv_imul hx hb dX5_row_62 ?_
      refine lv_iload hx hb dX5_row_63 (lv_at hl 0 rfl) ?_
      refine lv_iadd hx hb dX5_row_65 ?_
      refine lv_lconst (v := 0) hx hb dX5_row_66 (by decide) ?_
      refine x_last hx hb hK hP hD hS 3 0 rfl rfl (k := (12 * (zNr σ) + 6)) ix_mul (by have := hI.1; have := hI.2.1; omega) (by decide) dX5_row_67 (fun H locs hP hD hS => ?_)
      have hP : va_P (dC, dI) vwCl (MWs q cJ cI cZ cD (uIt (uIt (uIt (uIt (uIt (uIt (uIt (uRn (uRw σ (zNr σ) w) (zNr σ) kn) (zNr σ) 0 (0 : Int64)) (zNr σ) 1 (0 : Int64)) (zNr σ) 2 (0 : Int64)) (zNr σ) 3 (0 : Int64)) (zNr σ) 4 (0 : Int64)) (zNr σ) 5 (0 : Int64)) (zNr σ) 6 (0 : Int64))) H := mset3 (fz_ri (uIt (uIt (uIt (uIt (uIt (uIt (uRn (uRw σ (zNr σ) w) (zNr σ) kn) (zNr σ) 0 (0 : Int64)) (zNr σ) 1 (0 : Int64)) (zNr σ) 2 (0 : Int64)) (zNr σ) 3 (0 : Int64)) (zNr σ) 4 (0 : Int64)) (zNr σ) 5 (0 : Int64)) (zNr σ) 6 (0 : Int64) (by have := hI.2.2.2.1 (zNr σ); omega)) hP
      have hD : va_D A (MWs q cJ cI cZ cD (uIt (uIt (uIt (uIt (uIt (uIt (uIt (uRn (uRw σ (zNr σ) w) (zNr σ) kn) (zNr σ) 0 (0 : Int64)) (zNr σ) 1 (0 : Int64)) (zNr σ) 2 (0 : Int64)) (zNr σ) 3 (0 : Int64)) (zNr σ) 4 (0 : Int64)) (zNr σ) 5 (0 : Int64)) (zNr σ) 6 (0 : Int64))) := msetD3 (fz_ri (uIt (uIt (uIt (uIt (uIt (uIt (uRn (uRw σ (zNr σ) w) (zNr σ) kn) (zNr σ) 0 (0 : Int64)) (zNr σ) 1 (0 : Int64)) (zNr σ) 2 (0 : Int64)) (zNr σ) 3 (0 : Int64)) (zNr σ) 4 (0 : Int64)) (zNr σ) 5 (0 : Int64)) (zNr σ) 6 (0 : Int64) (by have := hI.2.2.2.1 (zNr σ); omega)) hD
      refine lv_iinc (v := (7 : Int32)) (lv' := [(4, .int (7 : Int32)), (0, .ref q.1), (1, .int (nI kx)), (2, .int (b2i w)), (3, .int (nI kn))]) hx hb dX5_row_68 hl (k := 0) rfl (by decide) (by decide) rfl (fun ls hl => ?_)
      refine lv_goto (tgt := 45) hx hb dX5_row_71 (by decide) ?_
      refine lv_iload hx hb dX5_row_45 (lv_at hl 0 rfl) ?_
      refine lv_bipush (v := 12) hx hb dX5_row_47 (by decide) ?_
      refine lv_icmp_ge (tgt := 74) hx hb dX5_row_49 (by decide) (fun c_10 => ?_) (fun c_10 => ?_)
      · exact absurd c_10 (by decide)
      refine lv_aload_n hx hb dX5_row_52 rfl (lv_at hl 1 rfl) ?_
      refine va_get (D := (dC, dI)) (ci := 5) (v := .ref q.2.2.2.1) (C := RX5) (T := TX5) (N := 12) hx hb hts (fun w h => List.mem_cons_of_mem _ (List.mem_append_right _ h)) hown hK hP 0 rfl rfl 3 (by decide) (hts (.fieldLink RX5 18 "TideGaugesModel" "items" "[J") (List.mem_of_getElem? (i := 4) rfl)) (fun _ h9 => h9) rfl dX5_row_53 ?_
      refine lv_bipush (v := 12) hx hb dX5_row_56 (by decide) ?_
      refine lv_aload_n hx hb dX5_row_58 rfl (lv_at hl 1 rfl) ?_
      refine va_get (D := (dC, dI)) (ci := 5) (v := .int (nI (zNr σ))) (C := RX5) (T := TX5) (N := 12) hx hb hts (fun w h => List.mem_cons_of_mem _ (List.mem_append_right _ h)) hown hK hP 0 rfl rfl 0 (by decide) (hts (.fieldLink RX5 75 "TideGaugesModel" "rows" "I") (List.mem_of_getElem? (i := 2) rfl)) (fun _ h9 => h9) rfl dX5_row_59 ?_
      refine lv_imul hx hb dX5_row_62 ?_
      refine lv_iload hx hb dX5_row_63 (lv_at hl 0 rfl) ?_
      refine lv_iadd hx hb dX5_row_65 ?_
      refine lv_lconst (v := 0) hx hb dX5_row_66 (by decide) ?_
      refine x_last hx hb hK hP hD hS 3 0 rfl rfl (k := (12 * (zNr σ) + 7)) ix_mul (by have := hI.1; have := hI.2.1; omega) (by decide) dX5_row_67 (fun H locs hP hD hS => ?_)
      have hP : va_P (dC, dI) vwCl (MWs q cJ cI cZ cD (uIt (uIt (uIt (uIt (uIt (uIt (uIt (uIt (uRn (uRw σ (zNr σ) w) (zNr σ) kn) (zNr σ) 0 (0 : Int64)) (zNr σ) 1 (0 : Int64)) (zNr σ) 2 (0 : Int64)) (zNr σ) 3 (0 : Int64)) (zNr σ) 4 (0 : Int64)) (zNr σ) 5 (0 : Int64)) (zNr σ) 6 (0 : Int64)) (zNr σ) 7 (0 : Int64))) H := mset3 (fz_ri (uIt (uIt (uIt (uIt (uIt (uIt (uIt (uRn (uRw σ (zNr σ) w) (zNr σ) kn) (zNr σ) 0 (0 : Int64)) (zNr σ) 1 (0 : Int64)) (zNr σ) 2 (0 : Int64)) (zNr σ) 3 (0 : Int64)) (zNr σ) 4 (0 : Int64)) (zNr σ) 5 (0 : Int64)) (zNr σ) 6 (0 : Int64)) (zNr σ) 7 (0 : Int64) (by have := hI.2.2.2.1 (zNr σ); omega)) hP
      have hD : va_D A (MWs q cJ cI cZ cD (uIt (uIt (uIt (uIt (uIt (uIt (uIt (uIt (uRn (uRw σ (zNr σ) w) (zNr σ) kn) (zNr σ) 0 (0 : Int64)) (zNr σ) 1 (0 : Int64)) (zNr σ) 2 (0 : Int64)) (zNr σ) 3 (0 : Int64)) (zNr σ) 4 (0 : Int64)) (zNr σ) 5 (0 : Int64)) (zNr σ) 6 (0 : Int64)) (zNr σ) 7 (0 : Int64))) := msetD3 (fz_ri (uIt (uIt (uIt (uIt (uIt (uIt (uIt (uRn (uRw σ (zNr σ) w) (zNr σ) kn) (zNr σ) 0 (0 : Int64)) (zNr σ) 1 (0 : Int64)) (zNr σ) 2 (0 : Int64)) (zNr σ) 3 (0 : Int64)) (zNr σ) 4 (0 : Int64)) (zNr σ) 5 (0 : Int64)) (zNr σ) 6 (0 : Int64)) (zNr σ) 7 (0 : Int64) (by have := hI.2.2.2.1 (zNr σ); omega)) hD
      refine lv_iinc (v := (8 : Int32)) (lv' := [(4, .int (8 : Int32)), (0, .ref q.1), (1, .int (nI kx)), (2, .int (b2i w)), (3, .int (nI kn))]) hx hb dX5_row_68 hl (k := 0) rfl (by decide) (by decide) rfl (fun ls hl => ?_)
      refine lv_goto (tgt := 45) hx hb dX5_row_71 (by decide) ?_
      refine lv_iload hx hb dX5_row_45 (lv_at hl 0 rfl) ?_
      refine lv_bipush (v := 12) hx hb dX5_row_47 (by decide) ?_
      refine lv_icmp_ge (tgt := 74) hx hb dX5_row_49 (by decide) (fun c_11 => ?_) (fun c_11 => ?_)
      · exact absurd c_11 (by decide)
      refine lv_aload_n hx hb dX5_row_52 rfl (lv_at hl 1 rfl) ?_
      refine va_get (D := (dC, dI)) (ci := 5) (v := .ref q.2.2.2.1) (C := RX5) (T := TX5) (N := 12) hx hb hts (fun w h => List.mem_cons_of_mem _ (List.mem_append_right _ h)) hown hK hP 0 rfl rfl 3 (by decide) (hts (.fieldLink RX5 18 "TideGaugesModel" "items" "[J") (List.mem_of_getElem? (i := 4) rfl)) (fun _ h9 => h9) rfl dX5_row_53 ?_
      refine lv_bipush (v := 12) hx hb dX5_row_56 (by decide) ?_
      refine lv_aload_n hx hb dX5_row_58 rfl (lv_at hl 1 rfl) ?_
      refine va_get (D := (dC, dI)) (ci := 5) (v := .int (nI (zNr σ))) (C := RX5) (T := TX5) (N := 12) hx hb hts (fun w h => List.mem_cons_of_mem _ (List.mem_append_right _ h)) hown hK hP 0 rfl rfl 0 (by decide) (hts (.fieldLink RX5 75 "TideGaugesModel" "rows" "I") (List.mem_of_getElem? (i := 2) rfl)) (fun _ h9 => h9) rfl dX5_row_59 ?_
      refine lv_imul hx hb dX5_row_62 ?_
      refine lv_iload hx hb dX5_row_63 (lv_at hl 0 rfl) ?_
      refine lv_iadd hx hb dX5_row_65 ?_
      refine lv_lconst (v := 0) hx hb dX5_row_66 (by decide) ?_
      refine x_last hx hb hK hP hD hS 3 0 rfl rfl (k := (12 * (zNr σ) + 8)) ix_mul (by have := hI.1; have := hI.2.1; omega) (by decide) dX5_row_67 (fun H locs hP hD hS => ?_)
      have hP : va_P (dC, dI) vwCl (MWs q cJ cI cZ cD (uIt (uIt (uIt (uIt (uIt (uIt (uIt (uIt (uIt (uRn (uRw σ (zNr σ) w) (zNr σ) kn) (zNr σ) 0 (0 : Int64)) (zNr σ) 1 (0 : Int64)) (zNr σ) 2 (0 : Int64)) (zNr σ) 3 (0 : Int64)) (zNr σ) 4 (0 : Int64)) (zNr σ) 5 (0 : Int64)) (zNr σ) 6 (0 : Int64)) (zNr σ) 7 (0 : Int64)) (zNr σ) 8 (0 : Int64))) H := mset3 (fz_ri (uIt (uIt (uIt (uIt (uIt (uIt (uIt (uIt (uRn (uRw σ (zNr σ) w) (zNr σ) kn) (zNr σ) 0 (0 : Int64)) (zNr σ) 1 (0 : Int64)) (zNr σ) 2 (0 : Int64)) (zNr σ) 3 (0 : Int64)) (zNr σ) 4 (0 : Int64)) (zNr σ) 5 (0 : Int64)) (zNr σ) 6 (0 : Int64)) (zNr σ) 7 (0 : Int64)) (zNr σ) 8 (0 : Int64) (by have := hI.2.2.2.1 (zNr σ); omega)) hP
      have hD : va_D A (MWs q cJ cI cZ cD (uIt (uIt (uIt (uIt (uIt (uIt (uIt (uIt (uIt (uRn (uRw σ (zNr σ) w) (zNr σ) kn) (zNr σ) 0 (0 : Int64)) (zNr σ) 1 (0 : Int64)) (zNr σ) 2 (0 : Int64)) (zNr σ) 3 (0 : Int64)) (zNr σ) 4 (0 : Int64)) (zNr σ) 5 (0 : Int64)) (zNr σ) 6 (0 : Int64)) (zNr σ) 7 (0 : Int64)) (zNr σ) 8 (0 : Int64))) := msetD3 (fz_ri (uIt (uIt (uIt (uIt (uIt (uIt (uIt (uIt (uRn (uRw σ (zNr σ) w) (zNr σ) kn) (zNr σ) 0 (0 : Int64)) (zNr σ) 1 (0 : Int64)) (zNr σ) 2 (0 : Int64)) (zNr σ) 3 (0 : Int64)) (zNr σ) 4 (0 : Int64)) (zNr σ) 5 (0 : Int64)) (zNr σ) 6 (0 : Int64)) (zNr σ) 7 (0 : Int64)) (zNr σ) 8 (0 : Int64) (by have := hI.2.2.2.1 (zNr σ); omega)) hD
      refine lv_iinc (v := (9 : Int32)) (lv' := [(4, .int (9 : Int32)), (0, .ref q.1), (1, .int (nI kx)), (2, .int (b2i w)), (3, .int (nI kn))]) hx hb dX5_row_68 hl (k := 0) rfl (by decide) (by decide) rfl (fun ls hl => ?_)
      refine lv_goto (tgt := 45) hx hb dX5_row_71 (by decide) ?_
      refine lv_iload hx hb dX5_row_45 (lv_at hl 0 rfl) ?_
      refine lv_bipush (v := 12) hx hb dX5_row_47 (by decide) ?_
      refine lv_icmp_ge (tgt := 74) hx hb dX5_row_49 (by decide) (fun c_12 => ?_) (fun c_12 => ?_)
      · exact absurd c_12 (by decide)
      refine lv_aload_n hx hb dX5_row_52 rfl (lv_at hl 1 rfl) ?_
      refine va_get (D := (dC, dI)) (ci := 5) (v := .ref q.2.2.2.1) (C := RX5) (T := TX5) (N := 12) hx hb hts (fun w h => List.mem_cons_of_mem _ (List.mem_append_right _ h)) hown hK hP 0 rfl rfl 3 (by decide) (hts (.fieldLink RX5 18 "TideGaugesModel" "items" "[J") (List.mem_of_getElem? (i := 4) rfl)) (fun _ h9 => h9) rfl dX5_row_53 ?_
      refine lv_bipush (v := 12) hx hb dX5_row_56 (by decide) ?_
      refine lv_aload_n hx hb dX5_row_58 rfl (lv_at hl 1 rfl) ?_
      refine va_get (D := (dC, dI)) (ci := 5) (v := .int (nI (zNr σ))) (C := RX5) (T := TX5) (N := 12) hx hb hts (fun w h => List.mem_cons_of_mem _ (List.mem_append_right _ h)) hown hK hP 0 rfl rfl 0 (by decide) (hts (.fieldLink RX5 75 "TideGaugesModel" "rows" "I") (List.mem_of_getElem? (i := 2) rfl)) (fun _ h9 => h9) rfl dX5_row_59 ?_
      refine lv_imul hx hb dX5_row_62 ?_
      refine lv_iload hx hb dX5_row_63 (lv_at hl 0 rfl) ?_
      refine lv_iadd hx hb dX5_row_65 ?_
      refine lv_lconst (v := 0) hx hb dX5_row_66 (by decide) ?_
      refine x_last hx hb hK hP hD hS 3 0 rfl rfl (k := (12 * (zNr σ) + 9)) ix_mul (by have := hI.1; have := hI.2.1; omega) (by decide) dX5_row_67 (fun H locs hP hD hS => ?_)
      have hP : va_P (dC, dI) vwCl (MWs q cJ cI cZ cD (uIt (uIt (uIt (uIt (uIt (uIt (uIt (uIt (uIt (uIt (uRn (uRw σ (zNr σ) w) (zNr σ) kn) (zNr σ) 0 (0 : Int64)) (zNr σ) 1 (0 : Int64)) (zNr σ) 2 (0 : Int64)) (zNr σ) 3 (0 : Int64)) (zNr σ) 4 (0 : Int64)) (zNr σ) 5 (0 : Int64)) (zNr σ) 6 (0 : Int64)) (zNr σ) 7 (0 : Int64)) (zNr σ) 8 (0 : Int64)) (zNr σ) 9 (0 : Int64))) H := mset3 (fz_ri (uIt (uIt (uIt (uIt (uIt (uIt (uIt (uIt (uIt (uRn (uRw σ (zNr σ) w) (zNr σ) kn) (zNr σ) 0 (0 : Int64)) (zNr σ) 1 (0 : Int64)) (zNr σ) 2 (0 : Int64)) (zNr σ) 3 (0 : Int64)) (zNr σ) 4 (0 : Int64)) (zNr σ) 5 (0 : Int64)) (zNr σ) 6 (0 : Int64)) (zNr σ) 7 (0 : Int64)) (zNr σ) 8 (0 : Int64)) (zNr σ) 9 (0 : Int64) (by have := hI.2.2.2.1 (zNr σ); omega)) hP
      have hD : va_D A (MWs q cJ cI cZ cD (uIt (uIt (uIt (uIt (uIt (uIt (uIt (uIt (uIt (uIt (uRn (uRw σ (zNr σ) w) (zNr σ) kn) (zNr σ) 0 (0 : Int64)) (zNr σ) 1 (0 : Int64)) (zNr σ) 2 (0 : Int64)) (zNr σ) 3 (0 : Int64)) (zNr σ) 4 (0 : Int64)) (zNr σ) 5 (0 : Int64)) (zNr σ) 6 (0 : Int64)) (zNr σ) 7 (0 : Int64)) (zNr σ) 8 (0 : Int64)) (zNr σ) 9 (0 : Int64))) := msetD3 (fz_ri (uIt (uIt (uIt (uIt (uIt (uIt (uIt (uIt (uIt (uRn (uRw σ (zNr σ) w) (zNr σ) kn) (zNr σ) 0 (0 : Int64)) (zNr σ) 1 (0 : Int64)) (zNr σ) 2 (0 : Int64)) (zNr σ) 3 (0 : Int64)) (zNr σ) 4 (0 : Int64)) (zNr σ) 5 (0 : Int64)) (zNr σ) 6 (0 : Int64)) (zNr σ) 7 (0 : Int64)) (zNr σ) 8 (0 : Int64)) (zNr σ) 9 (0 : Int64) (by have := hI.2.2.2.1 (zNr σ); omega)) hD
      refine lv_iinc (v := (10 : Int32)) (lv' := [(4, .int (10 : Int32)), (0, .ref q.1), (1, .int (nI kx)), (2, .int (b2i w)), (3, .int (nI kn))]) hx hb dX5_row_68 hl (k := 0) rfl (by decide) (by decide) rfl (fun ls hl => ?_)
      refine lv_goto (tgt := 45) hx hb dX5_row_71 (by decide) ?_
      refine lv_iload hx hb dX5_row_45 (lv_at hl 0 rfl) ?_
      refine lv_bipush (v := 12) hx hb dX5_row_47 (by decide) ?_
      refine lv_icmp_ge (tgt := 74) hx hb dX5_row_49 (by decide) (fun c_13 => ?_) (fun c_13 => ?_)
      · exact absurd c_13 (by decide)
      refine lv_aload_n hx hb dX5_row_52 rfl (lv_at hl 1 rfl) ?_
      refine va_get (D := (dC, dI)) (ci := 5) (v := .ref q.2.2.2.1) (C := RX5) (T := TX5) (N := 12) hx hb hts (fun w h => List.mem_cons_of_mem _ (List.mem_append_right _ h)) hown hK hP 0 rfl rfl 3 (by decide) (hts (.fieldLink RX5 18 "TideGaugesModel" "items" "[J") (List.mem_of_getElem? (i := 4) rfl)) (fun _ h9 => h9) rfl dX5_row_53 ?_
      refine lv_bipush (v := 12) hx hb dX5_row_56 (by decide) ?_
      refine lv_aload_n hx hb dX5_row_58 rfl (lv_at hl 1 rfl) ?_
      refine va_get (D := (dC, dI)) (ci := 5) (v := .int (nI (zNr σ))) (C := RX5) (T := TX5) (N := 12) hx hb hts (fun w h => List.mem_cons_of_mem _ (List.mem_append_right _ h)) hown hK hP 0 rfl rfl 0 (by decide) (hts (.fieldLink RX5 75 "TideGaugesModel" "rows" "I") (List.mem_of_getElem? (i := 2) rfl)) (fun _ h9 => h9) rfl dX5_row_59 ?_
      refine lv_imul hx hb dX5_row_62 ?_
      refine lv_iload hx hb dX5_row_63 (lv_at hl 0 rfl) ?_
      refine lv_iadd hx hb dX5_row_65 ?_
      refine lv_lconst (v := 0) hx hb dX5_row_66 (by decide) ?_
      refine x_last hx hb hK hP hD hS 3 0 rfl rfl (k := (12 * (zNr σ) + 10)) ix_mul (by have := hI.1; have := hI.2.1; omega) (by decide) dX5_row_67 (fun H locs hP hD hS => ?_)
      have hP : va_P (dC, dI) vwCl (MWs q cJ cI cZ cD (uIt (uIt (uIt (uIt (uIt (uIt (uIt (uIt (uIt (uIt (uIt (uRn (uRw σ (zNr σ) w) (zNr σ) kn) (zNr σ) 0 (0 : Int64)) (zNr σ) 1 (0 : Int64)) (zNr σ) 2 (0 : Int64)) (zNr σ) 3 (0 : Int64)) (zNr σ) 4 (0 : Int64)) (zNr σ) 5 (0 : Int64)) (zNr σ) 6 (0 : Int64)) (zNr σ) 7 (0 : Int64)) (zNr σ) 8 (0 : Int64)) (zNr σ) 9 (0 : Int64)) (zNr σ) 10 (0 : Int64))) H := mset3 (fz_ri (uIt (uIt (uIt (uIt (uIt (uIt (uIt (uIt (uIt (uIt (uRn (uRw σ (zNr σ) w) (zNr σ) kn) (zNr σ) 0 (0 : Int64)) (zNr σ) 1 (0 : Int64)) (zNr σ) 2 (0 : Int64)) (zNr σ) 3 (0 : Int64)) (zNr σ) 4 (0 : Int64)) (zNr σ) 5 (0 : Int64)) (zNr σ) 6 (0 : Int64)) (zNr σ) 7 (0 : Int64)) (zNr σ) 8 (0 : Int64)) (zNr σ) 9 (0 : Int64)) (zNr σ) 10 (0 : Int64) (by have := hI.2.2.2.1 (zNr σ); omega)) hP
      have hD : va_D A (MWs q cJ cI cZ cD (uIt (uIt (uIt (uIt (uIt (uIt (uIt (uIt (uIt (uIt (uIt (uRn (uRw σ (zNr σ) w) (zNr σ) kn) (zNr σ) 0 (0 : Int64)) (zNr σ) 1 (0 : Int64)) (zNr σ) 2 (0 : Int64)) (zNr σ) 3 (0 : Int64)) (zNr σ) 4 (0 : Int64)) (zNr σ) 5 (0 : Int64)) (zNr σ) 6 (0 : Int64)) (zNr σ) 7 (0 : Int64)) (zNr σ) 8 (0 : Int64)) (zNr σ) 9 (0 : Int64)) (zNr σ) 10 (0 : Int64))) := msetD3 (fz_ri (uIt (uIt (uIt (uIt (uIt (uIt (uIt (uIt (uIt (uIt (uRn (uRw σ (zNr σ) w) (zNr σ) kn) (zNr σ) 0 (0 : Int64)) (zNr σ) 1 (0 : Int64)) (zNr σ) 2 (0 : Int64)) (zNr σ) 3 (0 : Int64)) (zNr σ) 4 (0 : Int64)) (zNr σ) 5 (0 : Int64)) (zNr σ) 6 (0 : Int64)) (zNr σ) 7 (0 : Int64)) (zNr σ) 8 (0 : Int64)) (zNr σ) 9 (0 : Int64)) (zNr σ) 10 (0 : Int64) (by have := hI.2.2.2.1 (zNr σ); omega)) hD
      refine lv_iinc (v := (11 : Int32)) (lv' := [(4, .int (11 : Int32)), (0, .ref q.1), (1, .int (nI kx)), (2, .int (b2i w)), (3, .int (nI kn))]) hx hb dX5_row_68 hl (k := 0) rfl (by decide) (by decide) rfl (fun ls hl => ?_)
      refine lv_goto (tgt := 45) hx hb dX5_row_71 (by decide) ?_
      refine lv_iload hx hb dX5_row_45 (lv_at hl 0 rfl) ?_
      refine lv_bipush (v := 12) hx hb dX5_row_47 (by decide) ?_
      refine lv_icmp_ge (tgt := 74) hx hb dX5_row_49 (by decide) (fun c_14 => ?_) (fun c_14 => ?_)
      · exact absurd c_14 (by decide)
      refine lv_aload_n hx hb dX5_row_52 rfl (lv_at hl 1 rfl) ?_
      refine va_get (D := (dC, dI)) (ci := 5) (v := .ref q.2.2.2.1) (C := RX5) (T := TX5) (N := 12) hx hb hts (fun w h => List.mem_cons_of_mem _ (List.mem_append_right _ h)) hown hK hP 0 rfl rfl 3 (by decide) (hts (.fieldLink RX5 18 "TideGaugesModel" "items" "[J") (List.mem_of_getElem? (i := 4) rfl)) (fun _ h9 => h9) rfl dX5_row_53 ?_
      refine lv_bipush (v := 12) hx hb dX5_row_56 (by decide) ?_
      refine lv_aload_n hx hb dX5_row_58 rfl (lv_at hl 1 rfl) ?_
      refine va_get (D := (dC, dI)) (ci := 5) (v := .int (nI (zNr σ))) (C := RX5) (T := TX5) (N := 12) hx hb hts (fun w h => List.mem_cons_of_mem _ (List.mem_append_right _ h)) hown hK hP 0 rfl rfl 0 (by decide) (hts (.fieldLink RX5 75 "TideGaugesModel" "rows" "I") (List.mem_of_getElem? (i := 2) rfl)) (fun _ h9 => h9) rfl dX5_row_59 ?_
      refine lv_imul hx hb dX5_row_62 ?_
      refine lv_iload hx hb dX5_row_63 (lv_at hl 0 rfl) ?_
      refine lv_iadd hx hb dX5_row_65 ?_
      refine lv_lconst (v := 0) hx hb dX5_row_66 (by decide) ?_
      refine x_last hx hb hK hP hD hS 3 0 rfl rfl (k := (12 * (zNr σ) + 11)) ix_mul (by have := hI.1; have := hI.2.1; omega) (by decide) dX5_row_67 (fun H locs hP hD hS => ?_)
      have hP : va_P (dC, dI) vwCl (MWs q cJ cI cZ cD (uIt (uIt (uIt (uIt (uIt (uIt (uIt (uIt (uIt (uIt (uIt (uIt (uRn (uRw σ (zNr σ) w) (zNr σ) kn) (zNr σ) 0 (0 : Int64)) (zNr σ) 1 (0 : Int64)) (zNr σ) 2 (0 : Int64)) (zNr σ) 3 (0 : Int64)) (zNr σ) 4 (0 : Int64)) (zNr σ) 5 (0 : Int64)) (zNr σ) 6 (0 : Int64)) (zNr σ) 7 (0 : Int64)) (zNr σ) 8 (0 : Int64)) (zNr σ) 9 (0 : Int64)) (zNr σ) 10 (0 : Int64)) (zNr σ) 11 (0 : Int64))) H := mset3 (fz_ri (uIt (uIt (uIt (uIt (uIt (uIt (uIt (uIt (uIt (uIt (uIt (uRn (uRw σ (zNr σ) w) (zNr σ) kn) (zNr σ) 0 (0 : Int64)) (zNr σ) 1 (0 : Int64)) (zNr σ) 2 (0 : Int64)) (zNr σ) 3 (0 : Int64)) (zNr σ) 4 (0 : Int64)) (zNr σ) 5 (0 : Int64)) (zNr σ) 6 (0 : Int64)) (zNr σ) 7 (0 : Int64)) (zNr σ) 8 (0 : Int64)) (zNr σ) 9 (0 : Int64)) (zNr σ) 10 (0 : Int64)) (zNr σ) 11 (0 : Int64) (by have := hI.2.2.2.1 (zNr σ); omega)) hP
      have hD : va_D A (MWs q cJ cI cZ cD (uIt (uIt (uIt (uIt (uIt (uIt (uIt (uIt (uIt (uIt (uIt (uIt (uRn (uRw σ (zNr σ) w) (zNr σ) kn) (zNr σ) 0 (0 : Int64)) (zNr σ) 1 (0 : Int64)) (zNr σ) 2 (0 : Int64)) (zNr σ) 3 (0 : Int64)) (zNr σ) 4 (0 : Int64)) (zNr σ) 5 (0 : Int64)) (zNr σ) 6 (0 : Int64)) (zNr σ) 7 (0 : Int64)) (zNr σ) 8 (0 : Int64)) (zNr σ) 9 (0 : Int64)) (zNr σ) 10 (0 : Int64)) (zNr σ) 11 (0 : Int64))) := msetD3 (fz_ri (uIt (uIt (uIt (uIt (uIt (uIt (uIt (uIt (uIt (uIt (uIt (uRn (uRw σ (zNr σ) w) (zNr σ) kn) (zNr σ) 0 (0 : Int64)) (zNr σ) 1 (0 : Int64)) (zNr σ) 2 (0 : Int64)) (zNr σ) 3 (0 : Int64)) (zNr σ) 4 (0 : Int64)) (zNr σ) 5 (0 : Int64)) (zNr σ) 6 (0 : Int64)) (zNr σ) 7 (0 : Int64)) (zNr σ) 8 (0 : Int64)) (zNr σ) 9 (0 : Int64)) (zNr σ) 10 (0 : Int64)) (zNr σ) 11 (0 : Int64) (by have := hI.2.2.2.1 (zNr σ); omega)) hD
      refine lv_iinc (v := (12 : Int32)) (lv' := [(4, .int (12 : Int32)), (0, .ref q.1), (1, .int (nI kx)), (2, .int (b2i w)), (3, .int (nI kn))]) hx hb dX5_row_68 hl (k := 0) rfl (by decide) (by decide) rfl (fun ls hl => ?_)
      refine lv_goto (tgt := 45) hx hb dX5_row_71 (by decide) ?_
      refine lv_iload hx hb dX5_row_45 (lv_at hl 0 rfl) ?_
      refine lv_bipush (v := 12) hx hb dX5_row_47 (by decide) ?_
      refine lv_icmp_ge (tgt := 74) hx hb dX5_row_49 (by decide) (fun c_15 => ?_) (fun c_15 => ?_)
      rotate_left
      · exact absurd c_15 (by decide)
      rw [mw_z12] at hP hD
      refine lv_aload_n hx hb dX5_row_74 rfl (lv_at hl 1 rfl) ?_
      refine va_get (D := (dC, dI)) (ci := 5) (v := .ref q.2.2.2.2.1) (C := RX5) (T := TX5) (N := 12) hx hb hts (fun w h => List.mem_cons_of_mem _ (List.mem_append_right _ h)) hown hK hP 0 rfl rfl 4 (by decide) (hts (.fieldLink RX5 22 "TideGaugesModel" "places" "[I") (List.mem_of_getElem? (i := 5) rfl)) (fun _ h9 => h9) rfl dX5_row_75 ?_
      refine lv_iload_n hx hb dX5_row_78 rfl (lv_at hl 2 rfl) ?_
      refine lv_aload_n hx hb dX5_row_79 rfl (lv_at hl 1 rfl) ?_
      refine va_get (D := (dC, dI)) (ci := 5) (v := .int (nI (zNr σ))) (C := RX5) (T := TX5) (N := 12) hx hb hts (fun w h => List.mem_cons_of_mem _ (List.mem_append_right _ h)) hown hK hP 0 rfl rfl 0 (by decide) (hts (.fieldLink RX5 75 "TideGaugesModel" "rows" "I") (List.mem_of_getElem? (i := 2) rfl)) (fun _ h9 => h9) rfl dX5_row_80 ?_
      refine x_iast hx hb hK hP hD hS 4 4 rfl rfl (k := kx) rfl (by have := hI.1; have := hI.2.1; omega) (by decide) dX5_row_83 (fun H locs hP hD hS => ?_)
      have hu_16 : zPl (uPl (uZ (uRn (uRw σ (zNr σ) w) (zNr σ) kn) (zNr σ)) kx (some (zNr σ))) kx = (some (zNr σ)) := va_up_self _ _ _
      have hP : va_P (dC, dI) vwCl (MWs q cJ cI cZ cD (uPl (uZ (uRn (uRw σ (zNr σ) w) (zNr σ) kn) (zNr σ)) kx (some (zNr σ)))) H := mset4 (fz_pl (uZ (uRn (uRw σ (zNr σ) w) (zNr σ) kn) (zNr σ)) kx (some (zNr σ))) hP
      have hD : va_D A (MWs q cJ cI cZ cD (uPl (uZ (uRn (uRw σ (zNr σ) w) (zNr σ) kn) (zNr σ)) kx (some (zNr σ)))) := msetD4 (fz_pl (uZ (uRn (uRw σ (zNr σ) w) (zNr σ) kn) (zNr σ)) kx (some (zNr σ))) hD
      refine lv_aload_n hx hb dX5_row_84 rfl (lv_at hl 1 rfl) ?_
      refine lv_dup hx hb dX5_row_85 rfl ?_
      refine va_get (D := (dC, dI)) (ci := 5) (v := .int (nI (zNr σ))) (C := RX5) (T := TX5) (N := 12) hx hb hts (fun w h => List.mem_cons_of_mem _ (List.mem_append_right _ h)) hown hK hP 0 rfl rfl 0 (by decide) (hts (.fieldLink RX5 75 "TideGaugesModel" "rows" "I") (List.mem_of_getElem? (i := 2) rfl)) (fun _ h9 => h9) rfl dX5_row_86 ?_
      refine lv_iconst (v := 1) hx hb dX5_row_89 (by decide) ?_
      refine lv_iadd hx hb dX5_row_90 ?_
      rw [nI_1]
      refine va_put (D := (dC, dI)) (ci := 5) (v := .int (nI ((zNr σ) + 1))) (ty := .int) (C := RX5) (T := TX5) (N := 12) hx hb hts (fun w h => List.mem_cons_of_mem _ (List.mem_append_right _ h)) tyX5 tyX5_ok nmX5 hown hK hP hD hS 0 rfl rfl 0 (by decide) (hts (.fieldLink RX5 75 "TideGaugesModel" "rows" "I") (List.mem_of_getElem? (i := 2) rfl)) (fun _ h9 => h9) rfl (by decide +kernel) rfl rfl (Nat.le_of_ble_eq_true rfl) dX5_row_91 (fun H locs hP hD hS => ?_)
      have hP : va_P (dC, dI) vwCl (MWs q cJ cI cZ cD (uNr (uPl (uZ (uRn (uRw σ (zNr σ) w) (zNr σ) kn) (zNr σ)) kx (some (zNr σ))) ((zNr σ) + 1))) H := hP
      have hD : va_D A (MWs q cJ cI cZ cD (uNr (uPl (uZ (uRn (uRw σ (zNr σ) w) (zNr σ) kn) (zNr σ)) kx (some (zNr σ))) ((zNr σ) + 1))) := hD
      refine lv_iconst (v := 1) hx hb dX5_row_94 (by decide) ?_
      exact W.iret hx hb hr (fun t ht hW => ⟨⟨_, (uNr (uPl (uZ (uRn (uRw σ (zNr σ) w) (zNr σ) kn) (zNr σ)) kx (some (zNr σ))) ((zNr σ) + 1)), rfl, (by unfold oRow; (try simp only [if_pos c_1, if_pos c_2, nI_clamp (show kx < 2 ^ 31 by omega), nI_clamp (show kn < 2 ^ 31 by omega), hu_16, Option.getD_some, reduceCtorEq, if_true, if_false, Option.isNone_some, Option.isNone_none, Bool.false_or, Bool.true_or, Bool.not_true, Bool.not_false]); try rfl), by rw [ht]; exact hP, hD⟩, hS.F ht⟩) hS.2.2 dX5_row_95
    · refine lv_iconst (v := -1) hx hb dX5_row_20 (by decide) ?_
      exact W.iret hx hb hr (fun t ht hW => ⟨⟨_, σ, rfl, (by unfold oRow; (try simp only [if_pos c_1, if_neg c_2, nI_clamp (show kx < 2 ^ 31 by omega), Option.getD_some, reduceCtorEq, if_true, if_false, Option.isNone_some, Option.isNone_none, Bool.false_or, Bool.true_or, Bool.not_true, Bool.not_false]); try rfl), by rw [ht]; exact hP, hD⟩, hS.F ht⟩) hS.2.2 dX5_row_21
set_option maxHeartbeats 8000000 in
set_option maxRecDepth 100000 in
theorem mX5_rack (l : Launch) (dC : Nat → ClassId) (dI : Nat → Nat → Nat) (q : Ad) (cJ cG cK cR cI cZ cD : ClassId) (sz : Nat) (σ : St) (N0 : Nat) (hI : Inv σ N0) (hN : N0 ≤ 512) (rr : Int32) (k : Int32) : Met l yX5_rack wsX5_rack ({ frames := 1, cells := 0, slots := 0, locals := 22 }) (va_Pc [.ref q.1, .int rr, .int k] (fun U => U.heap.size = sz ∧ va_P (dC, dI) vwCl (MWs q cJ cI cZ cD σ) U.heap ∧ va_K (dC, dI) vwCl (tys0 cJ cG cK cR cI cZ cD) U ∧ va_D (fun _ => True) (MWs q cJ cI cZ cD σ))) (va_Qi (fun (r : Int32) (τ : St) => (r, τ) = oRack σ rr k) (fun τ t => va_P (dC, dI) vwCl (MWs q cJ cI cZ cD τ) t.heap ∧ va_D (va_A (MWs q cJ cI cZ cD σ) sz) (MWs q cJ cI cZ cD τ)) (va_A (MWs q cJ cI cZ cD σ) sz)) 0 0 (va_A (MWs q cJ cI cZ cD σ) sz) := by
  refine Met.ofW (cc := cX5_rack) (maxL := 4) (ret := (some .int)) (by decide) rfl ?_
  intro p e s m args below meth c s₁ B hml hv
  obtain ⟨rfl, hsz, hP, hK, hD0⟩ := hv
  have hx := B.exec
  have hb := B.bytes
  have hr := B.returns
  have hts := atoms_spec (ws := wsX5_rack) B.pre
  have hown : s.vm.findClass RX5 = some m.cls := findClass_of_methodNamed B.named
  have hlocks := B.notSynchronized
  have hN1 := hI.1
  have hN2 := hI.2.1
  subst hsz
  have hD := hD0.self (sz := s.heap.size)
  generalize hAe : va_A (MWs q cJ cI cZ cD σ) s.heap.size = A at hD ⊢
  have hA : ∀ z : Nat, s.heap.size ≤ z → A z := fun z h => by rw [← hAe]; exact Or.inr h
  have hS : va_S A s.heap s.heap [] := va_S.rf
  have hl := lv_entry ([.ref q.1, .int rr, .int k]) (n := 4) (Nat.le_of_ble_eq_true rfl)
  rw [lg_entry_eq]
  generalize (lg_sl ([.ref q.1, .int rr, .int k]) ++ List.replicate (4 - (lg_sl ([.ref q.1, .int rr, .int k])).length) Slot.unset).toArray = ls at hl ⊢
  have hl : lv_has ls 4 [(0, .ref q.1), (1, .int rr), (2, .int k)] := hl
  refine lv_iload_n hx hb dX5_rack_0 rfl (lv_at hl 1 rfl) ?_
  refine lv_iconst (v := 0) hx hb dX5_rack_1 (by decide) ?_
  refine lv_iconst (v := 2) hx hb dX5_rack_2 (by decide) ?_
  refine cs_0 (As := [.int rr, .int 0, .int (2 : Int32)]) (rest := []) ⟨hx, hb, hml, hown, hts⟩ (mX5_inN l rr (2 : Int32) 3 rfl (by decide)) (va_cwS 3 hts gX5_rack_X5_in rfl rfl rfl (by decide +kernel) ⟨Nat.le_of_ble_eq_true rfl, Nat.le_of_ble_eq_true rfl⟩) rfl rfl hl.1 (Nat.le_of_ble_eq_true rfl) dX5_rack_3 (Nat.zero_le _) (Nat.zero_le _) ?_
  refine w_beq (tgt := 18) hx hb dX5_rack_6 (by decide) (fun c_1 => ?_) (fun c_1 => ?_)
  · refine lv_iconst (v := -1) hx hb dX5_rack_18 (by decide) ?_
    exact W.iret hx hb hr (fun t ht hW => ⟨⟨_, σ, rfl, (by unfold oRack; (try simp only [if_neg c_1, Option.getD_some, reduceCtorEq, if_true, if_false, Option.isNone_some, Option.isNone_none, Bool.false_or, Bool.true_or, Bool.not_true, Bool.not_false]); try rfl), by rw [ht]; exact hP, hD⟩, hS.F ht⟩) hS.2.2 dX5_rack_19
  · obtain ⟨krr, hkrr, rfl⟩ := ixb_some c_1 (by decide)
    refine lv_iload_n hx hb dX5_rack_9 rfl (lv_at hl 2 rfl) ?_
    refine lv_iconst (v := 0) hx hb dX5_rack_10 (by decide) ?_
    refine lv_iconst (v := 2) hx hb dX5_rack_11 (by decide) ?_
    refine cs_0 (As := [.int k, .int 0, .int (2 : Int32)]) (rest := []) ⟨hx, hb, hml, hown, hts⟩ (mX5_inN l k (2 : Int32) 3 rfl (by decide)) (va_cwS 3 hts gX5_rack_X5_in rfl rfl rfl (by decide +kernel) ⟨Nat.le_of_ble_eq_true rfl, Nat.le_of_ble_eq_true rfl⟩) rfl rfl hl.1 (Nat.le_of_ble_eq_true rfl) dX5_rack_12 (Nat.zero_le _) (Nat.zero_le _) ?_
    refine w_bne (tgt := 20) hx hb dX5_rack_15 (by decide) (fun c_2 => ?_) (fun c_2 => ?_)
    · obtain ⟨kk, hkk, rfl⟩ := ixb_some c_2 (by decide)
      refine lv_aload_n hx hb dX5_rack_20 rfl (lv_at hl 0 rfl) ?_
      refine va_get (D := (dC, dI)) (ci := 5) (v := .ref q.2.2.2.2.2.2.2.2.1) (C := RX5) (T := TX5) (N := 12) hx hb hts (fun w h => List.mem_cons_of_mem _ (List.mem_append_right _ h)) hown hK hP 0 rfl rfl 9 (by decide) (hts (.fieldLink RX5 35 "TideGaugesModel" "rackOf" "[I") (List.mem_of_getElem? (i := 1) rfl)) (fun _ h9 => h9) rfl dX5_rack_21 ?_
      refine lv_iload_n hx hb dX5_rack_24 rfl (lv_at hl 1 rfl) ?_
      refine lv_iload_n hx hb dX5_rack_25 rfl (lv_at hl 2 rfl) ?_
      refine x_iast hx hb hK hP hD hS 8 4 rfl rfl (k := krr) rfl (by have := hI.1; have := hI.2.1; omega) (by decide) dX5_rack_26 (fun H locs hP hD hS => ?_)
      have hP : va_P (dC, dI) vwCl (MWs q cJ cI cZ cD (uRk σ krr (some (nI kk)))) H := mset8 (fz_rk σ krr (nI kk)) hP
      have hD : va_D A (MWs q cJ cI cZ cD (uRk σ krr (some (nI kk)))) := msetD8 (fz_rk σ krr (nI kk)) hD
      refine lv_iconst (v := 0) hx hb dX5_rack_27 (by decide) ?_
      refine lv_istore_n (lv' := [(3, .int (0 : Int32)), (0, .ref q.1), (1, .int (nI krr)), (2, .int (nI kk))]) hx hb dX5_rack_28 rfl hl (by decide) rfl (fun ls hl => ?_)
      refine lv_iload_n hx hb dX5_rack_29 rfl (lv_at hl 0 rfl) ?_
      refine lv_iconst (v := 4) hx hb dX5_rack_30 (by decide) ?_
      refine lv_icmp_ge (tgt := 51) hx hb dX5_rack_31 (by decide) (fun c_3 => ?_) (fun c_3 => ?_)
      · exact absurd c_3 (by decide)
      refine lv_aload_n hx hb dX5_rack_34 rfl (lv_at hl 1 rfl) ?_
      refine va_get (D := (dC, dI)) (ci := 5) (v := .ref q.2.2.2.2.2.2.2.2.2) (C := RX5) (T := TX5) (N := 12) hx hb hts (fun w h => List.mem_cons_of_mem _ (List.mem_append_right _ h)) hown hK hP 0 rfl rfl 10 (by decide) (hts (.fieldLink RX5 38 "TideGaugesModel" "hooks" "[I") (List.mem_of_getElem? (i := 2) rfl)) (fun _ h9 => h9) rfl dX5_rack_35 ?_
      refine lv_iconst (v := 4) hx hb dX5_rack_38 (by decide) ?_
      refine lv_iload_n hx hb dX5_rack_39 rfl (lv_at hl 2 rfl) ?_
      refine lv_imul hx hb dX5_rack_40 ?_
      refine lv_iload_n hx hb dX5_rack_41 rfl (lv_at hl 0 rfl) ?_
      refine lv_iadd hx hb dX5_rack_42 ?_
      refine lv_iconst (v := -1) hx hb dX5_rack_43 (by decide) ?_
      refine x_iast hx hb hK hP hD hS 9 4 rfl rfl (k := (4 * krr + 0)) ix_mul4 (by have := hI.1; have := hI.2.1; omega) (by decide) dX5_rack_44 (fun H locs hP hD hS => ?_)
      have hP : va_P (dC, dI) vwCl (MWs q cJ cI cZ cD (uHk (uRk σ krr (some (nI kk))) krr 0 none)) H := mset9 (fz_hk (uRk σ krr (some (nI kk))) krr 0 none (by omega)) hP
      have hD : va_D A (MWs q cJ cI cZ cD (uHk (uRk σ krr (some (nI kk))) krr 0 none)) := msetD9 (fz_hk (uRk σ krr (some (nI kk))) krr 0 none (by omega)) hD
      refine lv_iinc (v := (1 : Int32)) (lv' := [(3, .int (1 : Int32)), (0, .ref q.1), (1, .int (nI krr)), (2, .int (nI kk))]) hx hb dX5_rack_45 hl (k := 0) rfl (by decide) (by decide) rfl (fun ls hl => ?_)
      refine lv_goto (tgt := 29) hx hb dX5_rack_48 (by decide) ?_
      refine lv_iload_n hx hb dX5_rack_29 rfl (lv_at hl 0 rfl) ?_
      refine lv_iconst (v := 4) hx hb dX5_rack_30 (by decide) ?_
      refine lv_icmp_ge (tgt := 51) hx hb dX5_rack_31 (by decide) (fun c_4 => ?_) (fun c_4 => ?_)
      · exact absurd c_4 (by decide)
      refine lv_aload_n hx hb dX5_rack_34 rfl (lv_at hl 1 rfl) ?_
      refine va_get (D := (dC, dI)) (ci := 5) (v := .ref q.2.2.2.2.2.2.2.2.2) (C := RX5) (T := TX5) (N := 12) hx hb hts (fun w h => List.mem_cons_of_mem _ (List.mem_append_right _ h)) hown hK hP 0 rfl rfl 10 (by decide) (hts (.fieldLink RX5 38 "TideGaugesModel" "hooks" "[I") (List.mem_of_getElem? (i := 2) rfl)) (fun _ h9 => h9) rfl dX5_rack_35 ?_
      refine lv_iconst (v := 4) hx hb dX5_rack_38 (by decide) ?_
      refine lv_iload_n hx hb dX5_rack_39 rfl (lv_at hl 2 rfl) ?_
      refine lv_imul hx hb dX5_rack_40 ?_
      refine lv_iload_n hx hb dX5_rack_41 rfl (lv_at hl 0 rfl) ?_
      refine lv_iadd hx hb dX5_rack_42 ?_
      refine lv_iconst (v := -1) hx hb dX5_rack_43 (by decide) ?_
      refine x_iast hx hb hK hP hD hS 9 4 rfl rfl (k := (4 * krr + 1)) ix_mul4 (by have := hI.1; have := hI.2.1; omega) (by decide) dX5_rack_44 (fun H locs hP hD hS => ?_)
      have hP : va_P (dC, dI) vwCl (MWs q cJ cI cZ cD (uHk (uHk (uRk σ krr (some (nI kk))) krr 0 none) krr 1 none)) H := mset9 (fz_hk (uHk (uRk σ krr (some (nI kk))) krr 0 none) krr 1 none (by omega)) hP
      have hD : va_D A (MWs q cJ cI cZ cD (uHk (uHk (uRk σ krr (some (nI kk))) krr 0 none) krr 1 none)) := msetD9 (fz_hk (uHk (uRk σ krr (some (nI kk))) krr 0 none) krr 1 none (by omega)) hD
      refine lv_iinc (v := (2 : Int32)) (lv' := [(3, .int (2 : Int32)), (0, .ref q.1), (1, .int (nI krr)), (2, .int (nI kk))]) hx hb dX5_rack_45 hl (k := 0) rfl (by decide) (by decide) rfl (fun ls hl => ?_)
      refine lv_goto (tgt := 29) hx hb dX5_rack_48 (by decide) ?_
      refine lv_iload_n hx hb dX5_rack_29 rfl (lv_at hl 0 rfl) ?_
      refine lv_iconst (v := 4) hx hb dX5_rack_30 (by decide) ?_
      refine lv_icmp_ge (tgt := 51) hx hb dX5_rack_31 (by decide) (fun c_5 => ?_) (fun c_5 => ?_)
      · exact absurd c_5 (by decide)
      refine lv_aload_n hx hb dX5_rack_34 rfl (lv_at hl 1 rfl) ?_
      refine va_get (D := (dC, dI)) (ci := 5) (v := .ref q.2.2.2.2.2.2.2.2.2) (C := RX5) (T := TX5) (N := 12) hx hb hts (fun w h => List.mem_cons_of_mem _ (List.mem_append_right _ h)) hown hK hP 0 rfl rfl 10 (by decide) (hts (.fieldLink RX5 38 "TideGaugesModel" "hooks" "[I") (List.mem_of_getElem? (i := 2) rfl)) (fun _ h9 => h9) rfl dX5_rack_35 ?_
      refine lv_iconst (v := 4) hx hb dX5_rack_38 (by decide) ?_
      refine lv_iload_n hx hb dX5_rack_39 rfl (lv_at hl 2 rfl) ?_
      refine lv_imul hx hb dX5_rack_40 ?_
      refine lv_iload_n hx hb dX5_rack_41 rfl (lv_at hl 0 rfl) ?_
      refine lv_iadd hx hb dX5_rack_42 ?_
      refine lv_iconst (v := -1) hx hb dX5_rack_43 (by decide) ?_
      refine x_iast hx hb hK hP hD hS 9 4 rfl rfl (k := (4 * krr + 2)) ix_mul4 (by have := hI.1; have := hI.2.1; omega) (by decide) dX5_rack_44 (fun H locs hP hD hS => ?_)
      have hP : va_P (dC, dI) vwCl (MWs q cJ cI cZ cD (uHk (uHk (uHk (uRk σ krr (some (nI kk))) krr 0 none) krr 1 none) krr 2 none)) H := mset9 (fz_hk (uHk (uHk (uRk σ krr (some (nI kk))) krr 0 none) krr 1 none) krr 2 none (by omega)) hP
      have hD : va_D A (MWs q cJ cI cZ cD (uHk (uHk (uHk (uRk σ krr (some (nI kk))) krr 0 none) krr 1 none) krr 2 none)) := msetD9 (fz_hk (uHk (uHk (uRk σ krr (some (nI kk))) krr 0 none) krr 1 none) krr 2 none (by omega)) hD
      refine lv_iinc (v := (3 : Int32)) (lv' := [(3, .int (3 : Int32)), (0, .ref q.1), (1, .int (nI krr)), (2, .int (nI kk))]) hx hb dX5_rack_45 hl (k := 0) rfl (by decide) (by decide) rfl (fun ls hl => ?_)
      refine lv_goto (tgt := 29) hx hb dX5_rack_48 (by decide) ?_
      refine lv_iload_n hx hb dX5_rack_29 rfl (lv_at hl 0 rfl) ?_
      refine lv_iconst (v := 4) hx hb dX5_rack_30 (by decide) ?_
      refine lv_icmp_ge (tgt := 51) hx hb dX5_rack_31 (by decide) (fun c_6 => ?_) (fun c_6 => ?_)
      · exact absurd c_6 (by decide)
      refine lv_aload_n hx hb dX5_rack_34 rfl (lv_at hl 1 rfl) ?_
      refine va_get (D := (dC, dI)) (ci := 5) (v := .ref q.2.2.2.2.2.2.2.2.2) (C := RX5) (T := TX5) (N := 12) hx hb hts (fun w h => List.mem_cons_of_mem _ (List.mem_append_right _ h)) hown hK hP 0 rfl rfl 10 (by decide) (hts (.fieldLink RX5 38 "TideGaugesModel" "hooks" "[I") (List.mem_of_getElem? (i := 2) rfl)) (fun _ h9 => h9) rfl dX5_rack_35 ?_
      refine lv_iconst (v := 4) hx hb dX5_rack_38 (by decide) ?_
      refine lv_iload_n hx hb dX5_rack_39 rfl (lv_at hl 2 rfl) ?_
      refine lv_imul hx hb dX5_rack_40 ?_
      refine lv_iload_n hx hb dX5_rack_41 rfl (lv_at hl 0 rfl) ?_
      refine lv_iadd hx hb dX5_rack_42 ?_
      refine lv_iconst (v := -1) hx hb dX5_rack_43 (by decide) ?_
      refine x_iast hx hb hK hP hD hS 9 4 rfl rfl (k := (4 * krr + 3)) ix_mul4 (by have := hI.1; have := hI.2.1; omega) (by decide) dX5_rack_44 (fun H locs hP hD hS => ?_)
      have hP : va_P (dC, dI) vwCl (MWs q cJ cI cZ cD (uHk (uHk (uHk (uHk (uRk σ krr (some (nI kk))) krr 0 none) krr 1 none) krr 2 none) krr 3 none)) H := mset9 (fz_hk (uHk (uHk (uHk (uRk σ krr (some (nI kk))) krr 0 none) krr 1 none) krr 2 none) krr 3 none (by omega)) hP
      have hD : va_D A (MWs q cJ cI cZ cD (uHk (uHk (uHk (uHk (uRk σ krr (some (nI kk))) krr 0 none) krr 1 none) krr 2 none) krr 3 none)) := msetD9 (fz_hk (uHk (uHk (uHk (uRk σ krr (some (nI kk))) krr 0 none) krr 1 none) krr 2 none) krr 3 none (by omega)) hD
      refine lv_iinc (v := (4 : Int32)) (lv' := [(3, .int (4 : Int32)), (0, .ref q.1), (1, .int (nI krr)), (2, .int (nI kk))]) hx hb dX5_rack_45 hl (k := 0) rfl (by decide) (by decide) rfl (fun ls hl => ?_)
      refine lv_goto (tgt := 29) hx hb dX5_rack_48 (by decide) ?_
      refine lv_iload_n hx hb dX5_rack_29 rfl (lv_at hl 0 rfl) ?_
      refine lv_iconst (v := 4) hx hb dX5_rack_30 (by decide) ?_
      refine lv_icmp_ge (tgt := 51) hx hb dX5_rack_31 (by decide) (fun c_7 => ?_) (fun c_7 => ?_)
      rotate_left
      · exact absurd c_7 (by decide)
      rw [mw_b4] at hP hD
      refine lv_iconst (v := 1) hx hb dX5_rack_51 (by decide) ?_
      exact W.iret hx hb hr (fun t ht hW => ⟨⟨_, (uBare (uRk σ krr (some (nI kk))) krr), rfl, (by unfold oRack; (try simp only [if_pos c_1, if_pos c_2, nI_clamp (show krr < 2 ^ 31 by omega), nI_clamp (show kk < 2 ^ 31 by omega), Option.getD_some, reduceCtorEq, if_true, if_false, Option.isNone_some, Option.isNone_none, Bool.false_or, Bool.true_or, Bool.not_true, Bool.not_false]); try rfl), by rw [ht]; exact hP, hD⟩, hS.F ht⟩) hS.2.2 dX5_rack_52
    · refine lv_iconst (v := -1) hx hb dX5_rack_18 (by decide) ?_
      exact W.iret hx hb hr (fun t ht hW => ⟨⟨_, σ, rfl, (by unfold oRack; (try simp only [if_pos c_1, if_neg c_2, nI_clamp (show krr < 2 ^ 31 by omega), Option.getD_some, reduceCtorEq, if_true, if_false, Option.isNone_some, Option.isNone_none, Bool.false_or, Bool.true_or, Bool.not_true, Bool.not_false]); try rfl), by rw [ht]; exact hP, hD⟩, hS.F ht⟩) hS.2.2 dX5_rack_19
set_option maxHeartbeats 4000000 in
set_option maxRecDepth 100000 in
theorem mX5_told (l : Launch) (dC : Nat → ClassId) (dI : Nat → Nat → Nat) (q : Ad) (cJ cG cK cR cI cZ cD : ClassId) (σ : St) (N0 : Nat) (hI : Inv σ N0) (hN : N0 ≤ 512)  : Met l yX5_told wsX5_told ({ frames := 0, cells := 0, slots := 0, locals := 0 }) (va_Pc [.ref q.1] (fun U => va_P (dC, dI) vwCl (MWs q cJ cI cZ cD σ) U.heap ∧ va_K (dC, dI) vwCl (tys0 cJ cG cK cR cI cZ cD) U)) (pQ (.long (zTo σ))) 0 0 (fun _ => False) := by
  refine Met.ofW (cc := cX5_told) (maxL := 1) (ret := (some .long)) (by decide) rfl ?_
  intro p e s m args below meth c s₁ B hml hv
  obtain ⟨rfl, hP, hK⟩ := hv
  have hx := B.exec
  have hb := B.bytes
  have hr := B.returns
  have hts := atoms_spec (ws := wsX5_told) B.pre
  have hown : s.vm.findClass RX5 = some m.cls := findClass_of_methodNamed B.named
  have hlocks := B.notSynchronized
  have hN1 := hI.1
  have hN2 := hI.2.1
  have hl := lv_entry ([.ref q.1]) (n := 1) (Nat.le_of_ble_eq_true rfl)
  rw [lg_entry_eq]
  generalize (lg_sl ([.ref q.1]) ++ List.replicate (1 - (lg_sl ([.ref q.1])).length) Slot.unset).toArray = ls at hl ⊢
  have hl : lv_has ls 1 [(0, .ref q.1)] := hl
  refine lv_aload_n hx hb dX5_told_0 rfl (lv_at hl 0 rfl) ?_
  refine va_get (D := (dC, dI)) (ci := 5) (v := .long (zTo σ)) (C := RX5) (T := TX5) (N := 12) hx hb hts (fun w h => List.mem_cons_of_mem _ (List.mem_append_right _ h)) hown hK hP 0 rfl rfl 11 (by decide) (hts (.fieldLink RX5 99 "TideGaugesModel" "told" "J") (List.mem_of_getElem? (i := 1) rfl)) (fun _ h9 => h9) rfl dX5_told_1 ?_
  exact W.lret hx hb hr (fun t ht hW => ⟨rfl, ht⟩) (fun q h => absurd h List.not_mem_nil) dX5_told_4
def fX5_round (v : Int64) (how : Int32) : Int64 := if how = 0 then (fJxf58ca_floatToIntBits_5c35a (FP.l2f v)).toInt64 else if how = 1 then FP.f2l (FP.l2f v) else if how = 2 then fJxe99ae_doubleToLongBits_ccdee (FP.l2d v) else if how = 3 then FP.d2l (FP.l2d v) else if how = 4 then (fJxf58ca_floatToIntBits_5c35a (FP.d2f (FP.l2d v))).toInt64 else if how = 5 then (FP.f2i (FP.l2f v)).toInt64 else v
set_option maxHeartbeats 4000000 in
set_option maxRecDepth 100000 in
theorem mX5_round (l : Launch) (dC : Nat → ClassId) (dI : Nat → Nat → Nat) (q : Ad) (cJ cG cK cR cI cZ cD : ClassId) (σ : St) (N0 : Nat) (hI : Inv σ N0) (hN : N0 ≤ 512) (v : Int64) (how : Int32) : Met l yX5_round wsX5_round ({ frames := 2, cells := 0, slots := 0, locals := 44 }) (va_Pc [.ref q.1, .long v, .int how] (fun U => va_P (dC, dI) vwCl (MWs q cJ cI cZ cD σ) U.heap ∧ va_K (dC, dI) vwCl (tys0 cJ cG cK cR cI cZ cD) U)) (pQ (.long (fX5_round v how))) 0 0 (fun _ => False) := by
  refine Met.ofW (cc := cX5_round) (maxL := 4) (ret := (some .long)) (by decide) rfl ?_
  intro p e s m args below meth c s₁ B hml hv
  obtain ⟨rfl, hP, hK⟩ := hv
  have hx := B.exec
  have hb := B.bytes
  have hr := B.returns
  have hts := atoms_spec (ws := wsX5_round) B.pre
  have hown : s.vm.findClass RX5 = some m.cls := findClass_of_methodNamed B.named
  have hlocks := B.notSynchronized
  have hN1 := hI.1
  have hN2 := hI.2.1
  have hl := lv_entry ([.ref q.1, .long v, .int how]) (n := 4) (Nat.le_of_ble_eq_true rfl)
  rw [lg_entry_eq]
  generalize (lg_sl ([.ref q.1, .long v, .int how]) ++ List.replicate (4 - (lg_sl ([.ref q.1, .long v, .int how])).length) Slot.unset).toArray = ls at hl ⊢
  have hl : lv_has ls 4 [(0, .ref q.1), (1, .long v), (3, .int how)] := hl
  refine lv_iload_n hx hb dX5_round_0 rfl (lv_at hl 2 rfl) ?_
  by_cases c_1 : how = 0
  · refine lv_tableIn (off := 39) (tgt := 40) hx hb dX5_round_1 (by rw [c_1]; decide) (by rw [c_1]; decide) (by rw [c_1]; rfl) (by decide) ?_
    refine lv_lload_n hx hb dX5_round_40 rfl (lv_at hl 1 rfl) ?_
    refine lv_l2f hx hb dX5_round_41 ?_
    refine cs_0 (As := [.float (FP.l2f v)]) (rest := []) ⟨hx, hb, hml, hown, hts⟩ (mJxf58ca_floatToIntBits_5c35a l (FP.l2f v)) (va_cwS 1 hts gX5_round_Jxf58ca_floatToIntBits_5c35a rfl rfl rfl (by decide +kernel) ⟨Nat.le_of_ble_eq_true rfl, Nat.le_of_ble_eq_true rfl⟩) rfl rfl hl.1 (Nat.le_of_ble_eq_true rfl) dX5_round_42 (Nat.zero_le _) (Nat.zero_le _) ?_
    refine lv_i2l hx hb dX5_round_45 rfl ?_
    exact W.lret hx hb hr (fun t ht hW => ⟨(by unfold fX5_round; simp only [if_pos c_1, Option.getD_some, reduceCtorEq, if_true, if_false, Option.isNone_some, Option.isNone_none, Bool.false_or, Bool.true_or, Bool.not_true, Bool.not_false]), ht⟩) (fun q h => absurd h List.not_mem_nil) dX5_round_46
  · by_cases c_2 : how = 1
    · refine lv_tableIn (off := 46) (tgt := 47) hx hb dX5_round_1 (by rw [c_2]; decide) (by rw [c_2]; decide) (by rw [c_2]; rfl) (by decide) ?_
      refine lv_lload_n hx hb dX5_round_47 rfl (lv_at hl 1 rfl) ?_
      refine lv_l2f hx hb dX5_round_48 ?_
      refine lv_f2l hx hb dX5_round_49 ?_
      exact W.lret hx hb hr (fun t ht hW => ⟨(by unfold fX5_round; simp only [if_neg c_1, if_pos c_2, Option.getD_some, reduceCtorEq, if_true, if_false, Option.isNone_some, Option.isNone_none, Bool.false_or, Bool.true_or, Bool.not_true, Bool.not_false]), ht⟩) (fun q h => absurd h List.not_mem_nil) dX5_round_50
    · by_cases c_3 : how = 2
      · refine lv_tableIn (off := 50) (tgt := 51) hx hb dX5_round_1 (by rw [c_3]; decide) (by rw [c_3]; decide) (by rw [c_3]; rfl) (by decide) ?_
        refine lv_lload_n hx hb dX5_round_51 rfl (lv_at hl 1 rfl) ?_
        refine lv_l2d hx hb dX5_round_52 ?_
        refine cs_0 (As := [.double (FP.l2d v)]) (rest := []) ⟨hx, hb, hml, hown, hts⟩ (mJxe99ae_doubleToLongBits_ccdee l (FP.l2d v)) (va_cwS 1 hts gX5_round_Jxe99ae_doubleToLongBits_ccdee rfl rfl rfl (by decide +kernel) ⟨Nat.le_of_ble_eq_true rfl, Nat.le_of_ble_eq_true rfl⟩) rfl rfl hl.1 (Nat.le_of_ble_eq_true rfl) dX5_round_53 (Nat.zero_le _) (Nat.zero_le _) ?_
        exact W.lret hx hb hr (fun t ht hW => ⟨(by unfold fX5_round; simp only [if_neg c_1, if_neg c_2, if_pos c_3, Option.getD_some, reduceCtorEq, if_true, if_false, Option.isNone_some, Option.isNone_none, Bool.false_or, Bool.true_or, Bool.not_true, Bool.not_false]), ht⟩) (fun q h => absurd h List.not_mem_nil) dX5_round_56
      · by_cases c_4 : how = 3
        · refine lv_tableIn (off := 56) (tgt := 57) hx hb dX5_round_1 (by rw [c_4]; decide) (by rw [c_4]; decide) (by rw [c_4]; rfl) (by decide) ?_
          refine lv_lload_n hx hb dX5_round_57 rfl (lv_at hl 1 rfl) ?_
          refine lv_l2d hx hb dX5_round_58 ?_
          refine lv_d2l hx hb dX5_round_59 ?_
          exact W.lret hx hb hr (fun t ht hW => ⟨(by unfold fX5_round; simp only [if_neg c_1, if_neg c_2, if_neg c_3, if_pos c_4, Option.getD_some, reduceCtorEq, if_true, if_false, Option.isNone_some, Option.isNone_none, Bool.false_or, Bool.true_or, Bool.not_true, Bool.not_false]), ht⟩) (fun q h => absurd h List.not_mem_nil) dX5_round_60
        · by_cases c_5 : how = 4
          · refine lv_tableIn (off := 60) (tgt := 61) hx hb dX5_round_1 (by rw [c_5]; decide) (by rw [c_5]; decide) (by rw [c_5]; rfl) (by decide) ?_
            refine lv_lload_n hx hb dX5_round_61 rfl (lv_at hl 1 rfl) ?_
            refine lv_l2d hx hb dX5_round_62 ?_
            refine lv_d2f hx hb dX5_round_63 (n32_of (by rw [FP.d2f_nan]; exact FP.Core.l2d_notNaN v)) ?_
            refine cs_0 (As := [.float (FP.d2f (FP.l2d v))]) (rest := []) ⟨hx, hb, hml, hown, hts⟩ (mJxf58ca_floatToIntBits_5c35a l (FP.d2f (FP.l2d v))) (va_cwS 1 hts gX5_round_Jxf58ca_floatToIntBits_5c35a rfl rfl rfl (by decide +kernel) ⟨Nat.le_of_ble_eq_true rfl, Nat.le_of_ble_eq_true rfl⟩) rfl rfl hl.1 (Nat.le_of_ble_eq_true rfl) dX5_round_64 (Nat.zero_le _) (Nat.zero_le _) ?_
            refine lv_i2l hx hb dX5_round_67 rfl ?_
            exact W.lret hx hb hr (fun t ht hW => ⟨(by unfold fX5_round; simp only [if_neg c_1, if_neg c_2, if_neg c_3, if_neg c_4, if_pos c_5, Option.getD_some, reduceCtorEq, if_true, if_false, Option.isNone_some, Option.isNone_none, Bool.false_or, Bool.true_or, Bool.not_true, Bool.not_false]), ht⟩) (fun q h => absurd h List.not_mem_nil) dX5_round_68
          · by_cases c_6 : how = 5
            · refine lv_tableIn (off := 68) (tgt := 69) hx hb dX5_round_1 (by rw [c_6]; decide) (by rw [c_6]; decide) (by rw [c_6]; rfl) (by decide) ?_
              refine lv_lload_n hx hb dX5_round_69 rfl (lv_at hl 1 rfl) ?_
              refine lv_l2f hx hb dX5_round_70 ?_
              refine lv_f2i hx hb dX5_round_71 ?_
              refine lv_i2l hx hb dX5_round_72 rfl ?_
              exact W.lret hx hb hr (fun t ht hW => ⟨(by unfold fX5_round; simp only [if_neg c_1, if_neg c_2, if_neg c_3, if_neg c_4, if_neg c_5, if_pos c_6, Option.getD_some, reduceCtorEq, if_true, if_false, Option.isNone_some, Option.isNone_none, Bool.false_or, Bool.true_or, Bool.not_true, Bool.not_false]), ht⟩) (fun q h => absurd h List.not_mem_nil) dX5_round_73
            · refine lv_tableOut (tgt := 74) hx hb dX5_round_1 (by have g0 := lv_neT c_1 (a := 0) rfl; have g1 := lv_neT c_2 (a := 1) rfl; have g2 := lv_neT c_3 (a := 2) rfl; have g3 := lv_neT c_4 (a := 3) rfl; have g4 := lv_neT c_5 (a := 4) rfl; have g5 := lv_neT c_6 (a := 5) rfl; omega) (by decide) ?_
              refine lv_lload_n hx hb dX5_round_74 rfl (lv_at hl 1 rfl) ?_
              exact W.lret hx hb hr (fun t ht hW => ⟨(by unfold fX5_round; simp only [if_neg c_1, if_neg c_2, if_neg c_3, if_neg c_4, if_neg c_5, if_neg c_6, Option.getD_some, reduceCtorEq, if_true, if_false, Option.isNone_some, Option.isNone_none, Bool.false_or, Bool.true_or, Bool.not_true, Bool.not_false]), ht⟩) (fun q h => absurd h List.not_mem_nil) dX5_round_75
set_option maxHeartbeats 4000000 in
set_option maxRecDepth 100000 in
theorem mX5_count (l : Launch) (dC : Nat → ClassId) (dI : Nat → Nat → Nat) (q : Ad) (cJ cG cK cR cI cZ cD : ClassId) (σ : St) (N0 : Nat) (hI : Inv σ N0) (hN : N0 ≤ 512) (x : Int32) : Met l yX5_count wsX5_count ({ frames := 1, cells := 0, slots := 0, locals := 22 }) (va_Pc [.ref q.1, .int x] (fun U => va_P (dC, dI) vwCl (MWs q cJ cI cZ cD σ) U.heap ∧ va_K (dC, dI) vwCl (tys0 cJ cG cK cR cI cZ cD) U)) (pQ (.int (oCount σ x))) 0 0 (fun _ => False) := by
  refine Met.ofW (cc := cX5_count) (maxL := 4) (ret := (some .int)) (by decide) rfl ?_
  intro p e s m args below meth c s₁ B hml hv
  obtain ⟨rfl, hP, hK⟩ := hv
  have hx := B.exec
  have hb := B.bytes
  have hr := B.returns
  have hts := atoms_spec (ws := wsX5_count) B.pre
  have hown : s.vm.findClass RX5 = some m.cls := findClass_of_methodNamed B.named
  have hlocks := B.notSynchronized
  have hN1 := hI.1
  have hN2 := hI.2.1
  have hl := lv_entry ([.ref q.1, .int x]) (n := 4) (Nat.le_of_ble_eq_true rfl)
  rw [lg_entry_eq]
  generalize (lg_sl ([.ref q.1, .int x]) ++ List.replicate (4 - (lg_sl ([.ref q.1, .int x])).length) Slot.unset).toArray = ls at hl ⊢
  have hl : lv_has ls 4 [(0, .ref q.1), (1, .int x)] := hl
  refine lv_iconst (v := 0) hx hb dX5_count_0 (by decide) ?_
  refine lv_istore_n (lv' := [(2, .int (0 : Int32)), (0, .ref q.1), (1, .int x)]) hx hb dX5_count_1 rfl hl (by decide) rfl (fun ls hl => ?_)
  refine lv_iload_n hx hb dX5_count_2 rfl (lv_at hl 2 rfl) ?_
  refine lv_if_ne (tgt := 39) hx hb dX5_count_3 (by decide) (fun c_1 => ?_) (fun c_1 => ?_)
  · refine lv_iload_n hx hb dX5_count_39 rfl (lv_at hl 2 rfl) ?_
    refine lv_iconst (v := 1) hx hb dX5_count_40 (by decide) ?_
    refine lv_icmp_ne (tgt := 77) hx hb dX5_count_41 (by decide) (fun c_2 => ?_) (fun c_2 => ?_)
    · refine lv_iload_n hx hb dX5_count_77 rfl (lv_at hl 2 rfl) ?_
      refine lv_iconst (v := 2) hx hb dX5_count_78 (by decide) ?_
      refine lv_icmp_ne (tgt := 114) hx hb dX5_count_79 (by decide) (fun c_3 => ?_) (fun c_3 => ?_)
      · refine lv_iload_n hx hb dX5_count_114 rfl (lv_at hl 2 rfl) ?_
        refine lv_iconst (v := 3) hx hb dX5_count_115 (by decide) ?_
        refine lv_bipush (v := 10) hx hb dX5_count_116 (by decide) ?_
        refine cs_0 (As := [.int x, .int (3 : Int32), .int (10 : Int32)]) (rest := []) ⟨hx, hb, hml, hown, hts⟩ (mX5_in3 l x) (va_cwS 3 hts gX5_count_X5_in rfl rfl rfl (by decide +kernel) ⟨Nat.le_of_ble_eq_true rfl, Nat.le_of_ble_eq_true rfl⟩) rfl rfl hl.1 (Nat.le_of_ble_eq_true rfl) dX5_count_118 (Nat.zero_le _) (Nat.zero_le _) ?_
        refine w_beq (tgt := 153) hx hb dX5_count_121 (by decide) (fun c_4 => ?_) (fun c_4 => ?_)
        · refine lv_iload_n hx hb dX5_count_153 rfl (lv_at hl 2 rfl) ?_
          refine lv_bipush (v := 11) hx hb dX5_count_154 (by decide) ?_
          refine lv_bipush (v := 16) hx hb dX5_count_156 (by decide) ?_
          refine cs_0 (As := [.int x, .int (11 : Int32), .int (16 : Int32)]) (rest := []) ⟨hx, hb, hml, hown, hts⟩ (mX5_in11 l x) (va_cwS 3 hts gX5_count_X5_in rfl rfl rfl (by decide +kernel) ⟨Nat.le_of_ble_eq_true rfl, Nat.le_of_ble_eq_true rfl⟩) rfl rfl hl.1 (Nat.le_of_ble_eq_true rfl) dX5_count_158 (Nat.zero_le _) (Nat.zero_le _) ?_
          refine w_beq (tgt := 193) hx hb dX5_count_161 (by decide) (fun c_5 => ?_) (fun c_5 => ?_)
          · refine lv_iconst (v := -1) hx hb dX5_count_193 (by decide) ?_
            exact W.iret hx hb hr (fun t ht hW => ⟨(by unfold oCount; (try simp only [if_neg c_1, if_neg c_2, if_neg c_3, if_neg c_4, if_neg c_5, Option.getD_some, reduceCtorEq, if_true, if_false, Option.isNone_some, Option.isNone_none, Bool.false_or, Bool.true_or, Bool.not_true, Bool.not_false]); try rfl), ht⟩) (fun q h => absurd h List.not_mem_nil) dX5_count_194
          · obtain ⟨kx11, hkx11, ekx11⟩ := ixb_some c_5 (by decide)
            rw [ekx11] at c_5
            refine lv_aload_n hx hb dX5_count_164 rfl (lv_at hl 1 rfl) ?_
            refine va_get (D := (dC, dI)) (ci := 5) (v := .ref q.2.2.2.2.2.2.2.1) (C := RX5) (T := TX5) (N := 12) hx hb hts (fun w h => List.mem_cons_of_mem _ (List.mem_append_right _ h)) hown hK hP 0 rfl rfl 8 (by decide) (hts (.fieldLink RX5 32 "TideGaugesModel" "gaugeAt" "[I") (List.mem_of_getElem? (i := 2) rfl)) (fun _ h9 => h9) rfl dX5_count_165 ?_
            refine lv_iload_n hx hb dX5_count_168 rfl (lv_at hl 2 rfl) ?_
            refine lv_bipush (v := 11) hx hb dX5_count_169 (by decide) ?_
            refine lv_isub hx hb dX5_count_171 ?_
            rcases hp_6 : zGa σ kx11 with _ | a_7
            · refine x_iald hx hb hK hP 7 4 rfl rfl (k := kx11) ekx11 (by have := hI.1; have := hI.2.1; omega) (by decide) (by show eo (zGa σ kx11) = (-1 : Int32); rw [hp_6]; rfl) dX5_count_172 ?_
              refine lv_if_lt (tgt := 193) hx hb dX5_count_173 (by decide) (fun c_8 => ?_) (fun c_8 => ?_)
              rotate_left
              · exact absurd c_8 (by decide)
              refine lv_iconst (v := -1) hx hb dX5_count_193 (by decide) ?_
              exact W.iret hx hb hr (fun t ht hW => ⟨(by unfold oCount; (try simp only [if_neg c_1, if_neg c_2, if_neg c_3, if_neg c_4, if_pos c_5, nI_clamp (show kx11 < 2 ^ 31 by omega), hp_6, ekx11, Option.getD_some, reduceCtorEq, if_true, if_false, Option.isNone_some, Option.isNone_none, Bool.false_or, Bool.true_or, Bool.not_true, Bool.not_false]); try rfl), ht⟩) (fun q h => absurd h List.not_mem_nil) dX5_count_194
            · have hb_9 := hI.2.2.2.2.2.2.1 _ _ hp_6
              refine x_iald hx hb hK hP 7 4 rfl rfl (k := kx11) ekx11 (by have := hI.1; have := hI.2.1; omega) (by decide) (by show eo (zGa σ kx11) = nI a_7; rw [hp_6]; rfl) dX5_count_172 ?_
              refine lv_if_lt (tgt := 193) hx hb dX5_count_173 (by decide) (fun c_10 => ?_) (fun c_10 => ?_)
              · exact absurd c_10 (nI_pos (by omega))
              refine lv_aload_n hx hb dX5_count_176 rfl (lv_at hl 1 rfl) ?_
              refine va_get (D := (dC, dI)) (ci := 5) (v := .ref q.2.2.2.2.2.1) (C := RX5) (T := TX5) (N := 12) hx hb hts (fun w h => List.mem_cons_of_mem _ (List.mem_append_right _ h)) hown hK hP 0 rfl rfl 6 (by decide) (hts (.fieldLink RX5 25 "TideGaugesModel" "kinds" "[I") (List.mem_of_getElem? (i := 5) rfl)) (fun _ h9 => h9) rfl dX5_count_177 ?_
              refine lv_aload_n hx hb dX5_count_180 rfl (lv_at hl 1 rfl) ?_
              refine va_get (D := (dC, dI)) (ci := 5) (v := .ref q.2.2.2.2.2.2.2.1) (C := RX5) (T := TX5) (N := 12) hx hb hts (fun w h => List.mem_cons_of_mem _ (List.mem_append_right _ h)) hown hK hP 0 rfl rfl 8 (by decide) (hts (.fieldLink RX5 32 "TideGaugesModel" "gaugeAt" "[I") (List.mem_of_getElem? (i := 2) rfl)) (fun _ h9 => h9) rfl dX5_count_181 ?_
              refine lv_iload_n hx hb dX5_count_184 rfl (lv_at hl 2 rfl) ?_
              refine lv_bipush (v := 11) hx hb dX5_count_185 (by decide) ?_
              refine lv_isub hx hb dX5_count_187 ?_
              refine x_iald hx hb hK hP 7 4 rfl rfl (k := kx11) ekx11 (by have := hI.1; have := hI.2.1; omega) (by decide) (by show eo (zGa σ kx11) = nI a_7; rw [hp_6]; rfl) dX5_count_188 ?_
              refine x_iald hx hb hK hP 5 4 rfl rfl (k := a_7) rfl (by have := hI.1; have := hI.2.1; omega) (by decide) rfl dX5_count_189 ?_
              refine lv_goto (tgt := 194) hx hb dX5_count_190 (by decide) ?_
              exact W.iret hx hb hr (fun t ht hW => ⟨(by unfold oCount; (try simp only [if_neg c_1, if_neg c_2, if_neg c_3, if_neg c_4, if_pos c_5, nI_clamp (show kx11 < 2 ^ 31 by omega), hp_6, ekx11, Option.getD_some, reduceCtorEq, if_true, if_false, Option.isNone_some, Option.isNone_none, Bool.false_or, Bool.true_or, Bool.not_true, Bool.not_false]); try rfl), ht⟩) (fun q h => absurd h List.not_mem_nil) dX5_count_194
        · obtain ⟨kx3, hkx3, ekx3⟩ := ixb_some c_4 (by decide)
          rw [ekx3] at c_4
          refine lv_aload_n hx hb dX5_count_124 rfl (lv_at hl 1 rfl) ?_
          refine va_get (D := (dC, dI)) (ci := 5) (v := .ref q.2.2.2.2.1) (C := RX5) (T := TX5) (N := 12) hx hb hts (fun w h => List.mem_cons_of_mem _ (List.mem_append_right _ h)) hown hK hP 0 rfl rfl 4 (by decide) (hts (.fieldLink RX5 22 "TideGaugesModel" "places" "[I") (List.mem_of_getElem? (i := 1) rfl)) (fun _ h9 => h9) rfl dX5_count_125 ?_
          refine lv_iload_n hx hb dX5_count_128 rfl (lv_at hl 2 rfl) ?_
          refine lv_iconst (v := 3) hx hb dX5_count_129 (by decide) ?_
          refine lv_isub hx hb dX5_count_130 ?_
          rcases hp_11 : zPl σ kx3 with _ | a_12
          · refine x_iald hx hb hK hP 4 4 rfl rfl (k := kx3) ekx3 (by have := hI.1; have := hI.2.1; omega) (by decide) (by show eo (zPl σ kx3) = (-1 : Int32); rw [hp_11]; rfl) dX5_count_131 ?_
            refine lv_if_ge (tgt := 139) hx hb dX5_count_132 (by decide) (fun c_13 => ?_) (fun c_13 => ?_)
            · exact absurd c_13 (by decide)
            refine lv_iconst (v := -1) hx hb dX5_count_135 (by decide) ?_
            refine lv_goto (tgt := 152) hx hb dX5_count_136 (by decide) ?_
            exact W.iret hx hb hr (fun t ht hW => ⟨(by unfold oCount; (try simp only [if_neg c_1, if_neg c_2, if_neg c_3, if_pos c_4, nI_clamp (show kx3 < 2 ^ 31 by omega), hp_11, ekx3, Option.getD_some, reduceCtorEq, if_true, if_false, Option.isNone_some, Option.isNone_none, Bool.false_or, Bool.true_or, Bool.not_true, Bool.not_false]); try rfl), ht⟩) (fun q h => absurd h List.not_mem_nil) dX5_count_152
          · have hb_14 := hI.2.2.1 _ _ hp_11
            refine x_iald hx hb hK hP 4 4 rfl rfl (k := kx3) ekx3 (by have := hI.1; have := hI.2.1; omega) (by decide) (by show eo (zPl σ kx3) = nI a_12; rw [hp_11]; rfl) dX5_count_131 ?_
            refine lv_if_ge (tgt := 139) hx hb dX5_count_132 (by decide) (fun c_15 => ?_) (fun c_15 => ?_)
            rotate_left
            · exact absurd (nI_pos' (by omega)) c_15
            refine lv_aload_n hx hb dX5_count_139 rfl (lv_at hl 1 rfl) ?_
            refine va_get (D := (dC, dI)) (ci := 5) (v := .ref q.2.2.1) (C := RX5) (T := TX5) (N := 12) hx hb hts (fun w h => List.mem_cons_of_mem _ (List.mem_append_right _ h)) hown hK hP 0 rfl rfl 2 (by decide) (hts (.fieldLink RX5 13 "TideGaugesModel" "sizes" "[I") (List.mem_of_getElem? (i := 4) rfl)) (fun _ h9 => h9) rfl dX5_count_140 ?_
            refine lv_aload_n hx hb dX5_count_143 rfl (lv_at hl 1 rfl) ?_
            refine va_get (D := (dC, dI)) (ci := 5) (v := .ref q.2.2.2.2.1) (C := RX5) (T := TX5) (N := 12) hx hb hts (fun w h => List.mem_cons_of_mem _ (List.mem_append_right _ h)) hown hK hP 0 rfl rfl 4 (by decide) (hts (.fieldLink RX5 22 "TideGaugesModel" "places" "[I") (List.mem_of_getElem? (i := 1) rfl)) (fun _ h9 => h9) rfl dX5_count_144 ?_
            refine lv_iload_n hx hb dX5_count_147 rfl (lv_at hl 2 rfl) ?_
            refine lv_iconst (v := 3) hx hb dX5_count_148 (by decide) ?_
            refine lv_isub hx hb dX5_count_149 ?_
            refine x_iald hx hb hK hP 4 4 rfl rfl (k := kx3) ekx3 (by have := hI.1; have := hI.2.1; omega) (by decide) (by show eo (zPl σ kx3) = nI a_12; rw [hp_11]; rfl) dX5_count_150 ?_
            refine x_iald hx hb hK hP 2 4 rfl rfl (k := a_12) rfl (by have := hI.1; have := hI.2.1; omega) (by decide) rfl dX5_count_151 ?_
            exact W.iret hx hb hr (fun t ht hW => ⟨(by unfold oCount; (try simp only [if_neg c_1, if_neg c_2, if_neg c_3, if_pos c_4, nI_clamp (show kx3 < 2 ^ 31 by omega), hp_11, ekx3, Option.getD_some, reduceCtorEq, if_true, if_false, Option.isNone_some, Option.isNone_none, Bool.false_or, Bool.true_or, Bool.not_true, Bool.not_false]); try rfl), ht⟩) (fun q h => absurd h List.not_mem_nil) dX5_count_152
      · refine lv_iconst (v := 0) hx hb dX5_count_82 (by decide) ?_
        refine lv_istore_n (lv' := [(3, .int (0 : Int32)), (2, .int (0 : Int32)), (0, .ref q.1), (1, .int x)]) hx hb dX5_count_83 rfl hl (by decide) rfl (fun ls hl => ?_)
        have key : ∀ (r k : Nat), r + k = 3 → ∀ ls : Array Slot, lv_has ls 4 [(0, .ref q.1), (1, .int x), (2, .int (nI (cntO (fun k => (zRk σ k).isSome) k))), (3, .int (nI k))] → W p l e (headSpec wsX5_count ({ frames := 1, cells := 0, slots := 0, locals := 22 })).room s m ([.ref q.1, .int x] : List Value).toArray below meth c s.heap [] 0 0 (MQ below (pQ (.int (oCount σ x))) ([.ref q.1, .int x] : List Value).toArray s 0 0 (fun _ => False)) (F0 m 84 ls []) := by
          intro r
          induction r with
          | zero =>
            intro k hk ls hl
            obtain rfl : k = 3 := by omega
            refine lv_iload_n hx hb dX5_count_84 rfl (lv_at hl 3 rfl) ?_
            refine lv_iconst (v := 3) hx hb dX5_count_85 (by decide) ?_
            refine lv_icmp_ge (tgt := 112) hx hb dX5_count_86 (by decide) (fun c_16 => ?_) (fun c_16 => ?_)
            rotate_left
            · exact absurd (by decide) c_16
            refine lv_iload_n hx hb dX5_count_112 rfl (lv_at hl 2 rfl) ?_
            exact W.iret hx hb hr (fun t ht hW => ⟨(by unfold oCount; (try simp only [if_neg c_1, if_neg c_2, if_pos c_3, Option.getD_some, reduceCtorEq, if_true, if_false, Option.isNone_some, Option.isNone_none, Bool.false_or, Bool.true_or, Bool.not_true, Bool.not_false]); try rfl), ht⟩) (fun q h => absurd h List.not_mem_nil) dX5_count_113
          | succ r ih =>
            intro k hk ls hl
            refine lv_iload_n hx hb dX5_count_84 rfl (lv_at hl 3 rfl) ?_
            refine lv_iconst (v := 3) hx hb dX5_count_85 (by decide) ?_
            refine lv_icmp_ge (tgt := 112) hx hb dX5_count_86 (by decide) (fun c_17 => ?_) (fun c_17 => ?_)
            · exact absurd c_17 (nI_ge (a := k) (b := 3) (by omega) (by decide))
            refine lv_aload_n hx hb dX5_count_89 rfl (lv_at hl 0 rfl) ?_
            refine va_get (D := (dC, dI)) (ci := 5) (v := .ref q.2.2.2.2.2.2.2.2.1) (C := RX5) (T := TX5) (N := 12) hx hb hts (fun w h => List.mem_cons_of_mem _ (List.mem_append_right _ h)) hown hK hP 0 rfl rfl 9 (by decide) (hts (.fieldLink RX5 35 "TideGaugesModel" "rackOf" "[I") (List.mem_of_getElem? (i := 3) rfl)) (fun _ h9 => h9) rfl dX5_count_90 ?_
            refine lv_iload_n hx hb dX5_count_93 rfl (lv_at hl 3 rfl) ?_
            rcases hp_18 : zRk σ k with _ | a_19
            · refine x_iald hx hb hK hP 8 4 rfl rfl (k := k) rfl (by have := hI.1; have := hI.2.1; omega) (by decide) (by show ek (zRk σ k) = (-1 : Int32); rw [hp_18]; rfl) dX5_count_94 ?_
              refine lv_if_ge (tgt := 102) hx hb dX5_count_95 (by decide) (fun c_20 => ?_) (fun c_20 => ?_)
              · exact absurd c_20 (by decide)
              refine lv_iload_n hx hb dX5_count_98 rfl (lv_at hl 2 rfl) ?_
              refine lv_goto (tgt := 105) hx hb dX5_count_99 (by decide) ?_
              refine lv_istore_n (lv' := [(2, .int (nI (cntO (fun k => (zRk σ k).isSome) k))), (0, .ref q.1), (1, .int x), (3, .int (nI k))]) hx hb dX5_count_105 rfl hl (by decide) rfl (fun ls hl => ?_)
              refine lv_iinc (v := nI (k + 1)) (lv' := [(3, .int (nI (k + 1))), (2, .int (nI (cntO (fun k => (zRk σ k).isSome) k))), (0, .ref q.1), (1, .int x)]) hx hb dX5_count_106 hl (k := 3) rfl (nI_1 k) (by decide) rfl (fun ls hl => ?_)
              refine lv_goto (tgt := 84) hx hb dX5_count_109 (by decide) ?_
              exact ih (k + 1) (by omega) ls (by rw [show cntO (fun k => (zRk σ k).isSome) (k + 1) = cntO (fun k => (zRk σ k).isSome) k from by rw [cntO, hp_18]; rfl]; exact lv_sub hl [2, 3, 1, 0] rfl)
            · obtain ⟨na_19, hna_19, rfl⟩ := ixb_some (hI.2.2.2.2.2.2.2.1 _ _ hp_18) (by decide)
              refine x_iald hx hb hK hP 8 4 rfl rfl (k := k) rfl (by have := hI.1; have := hI.2.1; omega) (by decide) (by show ek (zRk σ k) = (nI na_19); rw [hp_18]; rfl) dX5_count_94 ?_
              refine lv_if_ge (tgt := 102) hx hb dX5_count_95 (by decide) (fun c_22 => ?_) (fun c_22 => ?_)
              rotate_left
              · exact absurd (nI_pos' (by omega)) c_22
              refine lv_iload_n hx hb dX5_count_102 rfl (lv_at hl 2 rfl) ?_
              refine lv_iconst (v := 1) hx hb dX5_count_103 (by decide) ?_
              refine lv_iadd hx hb dX5_count_104 ?_
              refine lv_istore_n (lv' := [(2, .int (nI (cntO (fun k => (zRk σ k).isSome) k) + (1 : Int32))), (0, .ref q.1), (1, .int x), (3, .int (nI k))]) hx hb dX5_count_105 rfl hl (by decide) rfl (fun ls hl => ?_)
              refine lv_iinc (v := nI (k + 1)) (lv' := [(3, .int (nI (k + 1))), (2, .int (nI (cntO (fun k => (zRk σ k).isSome) k) + (1 : Int32))), (0, .ref q.1), (1, .int x)]) hx hb dX5_count_106 hl (k := 3) rfl (nI_1 k) (by decide) rfl (fun ls hl => ?_)
              refine lv_goto (tgt := 84) hx hb dX5_count_109 (by decide) ?_
              rw [nI_1] at hl
              exact ih (k + 1) (by omega) ls (by rw [show cntO (fun k => (zRk σ k).isSome) (k + 1) = cntO (fun k => (zRk σ k).isSome) k + 1 from by rw [cntO, hp_18]; rfl]; exact lv_sub hl [2, 3, 1, 0] rfl)
        exact key 3 0 rfl ls (lv_sub hl [2, 3, 1, 0] rfl)
    · refine lv_iconst (v := 0) hx hb dX5_count_44 (by decide) ?_
      refine lv_istore_n (lv' := [(3, .int (0 : Int32)), (2, .int (0 : Int32)), (0, .ref q.1), (1, .int x)]) hx hb dX5_count_45 rfl hl (by decide) rfl (fun ls hl => ?_)
      have key : ∀ (r k : Nat), r + k = 6 → ∀ ls : Array Slot, lv_has ls 4 [(0, .ref q.1), (1, .int x), (2, .int (nI (cntO (fun k => (zGa σ k).isSome) k))), (3, .int (nI k))] → W p l e (headSpec wsX5_count ({ frames := 1, cells := 0, slots := 0, locals := 22 })).room s m ([.ref q.1, .int x] : List Value).toArray below meth c s.heap [] 0 0 (MQ below (pQ (.int (oCount σ x))) ([.ref q.1, .int x] : List Value).toArray s 0 0 (fun _ => False)) (F0 m 46 ls []) := by
        intro r
        induction r with
        | zero =>
          intro k hk ls hl
          obtain rfl : k = 6 := by omega
          refine lv_iload_n hx hb dX5_count_46 rfl (lv_at hl 3 rfl) ?_
          refine lv_bipush (v := 6) hx hb dX5_count_47 (by decide) ?_
          refine lv_icmp_ge (tgt := 75) hx hb dX5_count_49 (by decide) (fun c_23 => ?_) (fun c_23 => ?_)
          rotate_left
          · exact absurd (by decide) c_23
          refine lv_iload_n hx hb dX5_count_75 rfl (lv_at hl 2 rfl) ?_
          exact W.iret hx hb hr (fun t ht hW => ⟨(by unfold oCount; (try simp only [if_neg c_1, if_pos c_2, Option.getD_some, reduceCtorEq, if_true, if_false, Option.isNone_some, Option.isNone_none, Bool.false_or, Bool.true_or, Bool.not_true, Bool.not_false]); try rfl), ht⟩) (fun q h => absurd h List.not_mem_nil) dX5_count_76
        | succ r ih =>
          intro k hk ls hl
          refine lv_iload_n hx hb dX5_count_46 rfl (lv_at hl 3 rfl) ?_
          refine lv_bipush (v := 6) hx hb dX5_count_47 (by decide) ?_
          refine lv_icmp_ge (tgt := 75) hx hb dX5_count_49 (by decide) (fun c_24 => ?_) (fun c_24 => ?_)
          · exact absurd c_24 (nI_ge (a := k) (b := 6) (by omega) (by decide))
          refine lv_aload_n hx hb dX5_count_52 rfl (lv_at hl 0 rfl) ?_
          refine va_get (D := (dC, dI)) (ci := 5) (v := .ref q.2.2.2.2.2.2.2.1) (C := RX5) (T := TX5) (N := 12) hx hb hts (fun w h => List.mem_cons_of_mem _ (List.mem_append_right _ h)) hown hK hP 0 rfl rfl 8 (by decide) (hts (.fieldLink RX5 32 "TideGaugesModel" "gaugeAt" "[I") (List.mem_of_getElem? (i := 2) rfl)) (fun _ h9 => h9) rfl dX5_count_53 ?_
          refine lv_iload_n hx hb dX5_count_56 rfl (lv_at hl 3 rfl) ?_
          rcases hp_25 : zGa σ k with _ | a_26
          · refine x_iald hx hb hK hP 7 4 rfl rfl (k := k) rfl (by have := hI.1; have := hI.2.1; omega) (by decide) (by show eo (zGa σ k) = (-1 : Int32); rw [hp_25]; rfl) dX5_count_57 ?_
            refine lv_if_ge (tgt := 65) hx hb dX5_count_58 (by decide) (fun c_27 => ?_) (fun c_27 => ?_)
            · exact absurd c_27 (by decide)
            refine lv_iload_n hx hb dX5_count_61 rfl (lv_at hl 2 rfl) ?_
            refine lv_goto (tgt := 68) hx hb dX5_count_62 (by decide) ?_
            refine lv_istore_n (lv' := [(2, .int (nI (cntO (fun k => (zGa σ k).isSome) k))), (0, .ref q.1), (1, .int x), (3, .int (nI k))]) hx hb dX5_count_68 rfl hl (by decide) rfl (fun ls hl => ?_)
            refine lv_iinc (v := nI (k + 1)) (lv' := [(3, .int (nI (k + 1))), (2, .int (nI (cntO (fun k => (zGa σ k).isSome) k))), (0, .ref q.1), (1, .int x)]) hx hb dX5_count_69 hl (k := 3) rfl (nI_1 k) (by decide) rfl (fun ls hl => ?_)
            refine lv_goto (tgt := 46) hx hb dX5_count_72 (by decide) ?_
            exact ih (k + 1) (by omega) ls (by rw [show cntO (fun k => (zGa σ k).isSome) (k + 1) = cntO (fun k => (zGa σ k).isSome) k from by rw [cntO, hp_25]; rfl]; exact lv_sub hl [2, 3, 1, 0] rfl)
          · have hb_28 := hI.2.2.2.2.2.2.1 _ _ hp_25
            refine x_iald hx hb hK hP 7 4 rfl rfl (k := k) rfl (by have := hI.1; have := hI.2.1; omega) (by decide) (by show eo (zGa σ k) = nI a_26; rw [hp_25]; rfl) dX5_count_57 ?_
            refine lv_if_ge (tgt := 65) hx hb dX5_count_58 (by decide) (fun c_29 => ?_) (fun c_29 => ?_)
            rotate_left
            · exact absurd (nI_pos' (by omega)) c_29
            refine lv_iload_n hx hb dX5_count_65 rfl (lv_at hl 2 rfl) ?_
            refine lv_iconst (v := 1) hx hb dX5_count_66 (by decide) ?_
            refine lv_iadd hx hb dX5_count_67 ?_
            refine lv_istore_n (lv' := [(2, .int (nI (cntO (fun k => (zGa σ k).isSome) k) + (1 : Int32))), (0, .ref q.1), (1, .int x), (3, .int (nI k))]) hx hb dX5_count_68 rfl hl (by decide) rfl (fun ls hl => ?_)
            refine lv_iinc (v := nI (k + 1)) (lv' := [(3, .int (nI (k + 1))), (2, .int (nI (cntO (fun k => (zGa σ k).isSome) k) + (1 : Int32))), (0, .ref q.1), (1, .int x)]) hx hb dX5_count_69 hl (k := 3) rfl (nI_1 k) (by decide) rfl (fun ls hl => ?_)
            refine lv_goto (tgt := 46) hx hb dX5_count_72 (by decide) ?_
            rw [nI_1] at hl
            exact ih (k + 1) (by omega) ls (by rw [show cntO (fun k => (zGa σ k).isSome) (k + 1) = cntO (fun k => (zGa σ k).isSome) k + 1 from by rw [cntO, hp_25]; rfl]; exact lv_sub hl [2, 3, 1, 0] rfl)
      exact key 6 0 rfl ls (lv_sub hl [2, 3, 1, 0] rfl)
  · refine lv_iconst (v := 0) hx hb dX5_count_6 (by decide) ?_
    refine lv_istore_n (lv' := [(3, .int (0 : Int32)), (2, .int (0 : Int32)), (0, .ref q.1), (1, .int x)]) hx hb dX5_count_7 rfl hl (by decide) rfl (fun ls hl => ?_)
    have key : ∀ (r k : Nat), r + k = 8 → ∀ ls : Array Slot, lv_has ls 4 [(0, .ref q.1), (1, .int x), (2, .int (nI (cntO (fun k => (zPl σ k).isSome) k))), (3, .int (nI k))] → W p l e (headSpec wsX5_count ({ frames := 1, cells := 0, slots := 0, locals := 22 })).room s m ([.ref q.1, .int x] : List Value).toArray below meth c s.heap [] 0 0 (MQ below (pQ (.int (oCount σ x))) ([.ref q.1, .int x] : List Value).toArray s 0 0 (fun _ => False)) (F0 m 8 ls []) := by
      intro r
      induction r with
      | zero =>
        intro k hk ls hl
        obtain rfl : k = 8 := by omega
        refine lv_iload_n hx hb dX5_count_8 rfl (lv_at hl 3 rfl) ?_
        refine lv_bipush (v := 8) hx hb dX5_count_9 (by decide) ?_
        refine lv_icmp_ge (tgt := 37) hx hb dX5_count_11 (by decide) (fun c_30 => ?_) (fun c_30 => ?_)
        rotate_left
        · exact absurd (by decide) c_30
        refine lv_iload_n hx hb dX5_count_37 rfl (lv_at hl 2 rfl) ?_
        exact W.iret hx hb hr (fun t ht hW => ⟨(by unfold oCount; (try simp only [if_pos c_1, Option.getD_some, reduceCtorEq, if_true, if_false, Option.isNone_some, Option.isNone_none, Bool.false_or, Bool.true_or, Bool.not_true, Bool.not_false]); try rfl), ht⟩) (fun q h => absurd h List.not_mem_nil) dX5_count_38
      | succ r ih =>
        intro k hk ls hl
        refine lv_iload_n hx hb dX5_count_8 rfl (lv_at hl 3 rfl) ?_
        refine lv_bipush (v := 8) hx hb dX5_count_9 (by decide) ?_
        refine lv_icmp_ge (tgt := 37) hx hb dX5_count_11 (by decide) (fun c_31 => ?_) (fun c_31 => ?_)
        · exact absurd c_31 (nI_ge (a := k) (b := 8) (by omega) (by decide))
        refine lv_aload_n hx hb dX5_count_14 rfl (lv_at hl 0 rfl) ?_
        refine va_get (D := (dC, dI)) (ci := 5) (v := .ref q.2.2.2.2.1) (C := RX5) (T := TX5) (N := 12) hx hb hts (fun w h => List.mem_cons_of_mem _ (List.mem_append_right _ h)) hown hK hP 0 rfl rfl 4 (by decide) (hts (.fieldLink RX5 22 "TideGaugesModel" "places" "[I") (List.mem_of_getElem? (i := 1) rfl)) (fun _ h9 => h9) rfl dX5_count_15 ?_
        refine lv_iload_n hx hb dX5_count_18 rfl (lv_at hl 3 rfl) ?_
        rcases hp_32 : zPl σ k with _ | a_33
        · refine x_iald hx hb hK hP 4 4 rfl rfl (k := k) rfl (by have := hI.1; have := hI.2.1; omega) (by decide) (by show eo (zPl σ k) = (-1 : Int32); rw [hp_32]; rfl) dX5_count_19 ?_
          refine lv_if_ge (tgt := 27) hx hb dX5_count_20 (by decide) (fun c_34 => ?_) (fun c_34 => ?_)
          · exact absurd c_34 (by decide)
          refine lv_iload_n hx hb dX5_count_23 rfl (lv_at hl 2 rfl) ?_
          refine lv_goto (tgt := 30) hx hb dX5_count_24 (by decide) ?_
          refine lv_istore_n (lv' := [(2, .int (nI (cntO (fun k => (zPl σ k).isSome) k))), (0, .ref q.1), (1, .int x), (3, .int (nI k))]) hx hb dX5_count_30 rfl hl (by decide) rfl (fun ls hl => ?_)
          refine lv_iinc (v := nI (k + 1)) (lv' := [(3, .int (nI (k + 1))), (2, .int (nI (cntO (fun k => (zPl σ k).isSome) k))), (0, .ref q.1), (1, .int x)]) hx hb dX5_count_31 hl (k := 3) rfl (nI_1 k) (by decide) rfl (fun ls hl => ?_)
          refine lv_goto (tgt := 8) hx hb dX5_count_34 (by decide) ?_
          exact ih (k + 1) (by omega) ls (by rw [show cntO (fun k => (zPl σ k).isSome) (k + 1) = cntO (fun k => (zPl σ k).isSome) k from by rw [cntO, hp_32]; rfl]; exact lv_sub hl [2, 3, 1, 0] rfl)
        · have hb_35 := hI.2.2.1 _ _ hp_32
          refine x_iald hx hb hK hP 4 4 rfl rfl (k := k) rfl (by have := hI.1; have := hI.2.1; omega) (by decide) (by show eo (zPl σ k) = nI a_33; rw [hp_32]; rfl) dX5_count_19 ?_
          refine lv_if_ge (tgt := 27) hx hb dX5_count_20 (by decide) (fun c_36 => ?_) (fun c_36 => ?_)
          rotate_left
          · exact absurd (nI_pos' (by omega)) c_36
          refine lv_iload_n hx hb dX5_count_27 rfl (lv_at hl 2 rfl) ?_
          refine lv_iconst (v := 1) hx hb dX5_count_28 (by decide) ?_
          refine lv_iadd hx hb dX5_count_29 ?_
          refine lv_istore_n (lv' := [(2, .int (nI (cntO (fun k => (zPl σ k).isSome) k) + (1 : Int32))), (0, .ref q.1), (1, .int x), (3, .int (nI k))]) hx hb dX5_count_30 rfl hl (by decide) rfl (fun ls hl => ?_)
          refine lv_iinc (v := nI (k + 1)) (lv' := [(3, .int (nI (k + 1))), (2, .int (nI (cntO (fun k => (zPl σ k).isSome) k) + (1 : Int32))), (0, .ref q.1), (1, .int x)]) hx hb dX5_count_31 hl (k := 3) rfl (nI_1 k) (by decide) rfl (fun ls hl => ?_)
          refine lv_goto (tgt := 8) hx hb dX5_count_34 (by decide) ?_
          rw [nI_1] at hl
          exact ih (k + 1) (by omega) ls (by rw [show cntO (fun k => (zPl σ k).isSome) (k + 1) = cntO (fun k => (zPl σ k).isSome) k + 1 from by rw [cntO, hp_32]; rfl]; exact lv_sub hl [2, 3, 1, 0] rfl)
    exact key 8 0 rfl ls (lv_sub hl [2, 3, 1, 0] rfl)
