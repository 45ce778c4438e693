set_option maxHeartbeats 8000000 in
set_option maxRecDepth 100000 in
theorem mX5_sum (l : Launch) (dC : Nat → ClassId) (dI : Nat → Nat → Nat) (q : Ad) (cJ cG cK cR cI cZ cD : ClassId) (sz : Nat) (σ : St) (N0 : Nat) (hI : Inv σ N0) (hN : N0 ≤ 512) (x : Int32) (w : Bool) (fr : Int32) (n : Int32) : Met l yX5_sum wsX5_sum ({ frames := 3, cells := 0, slots := 0, locals := 66 }) (va_Pc [.ref q.1, .int x, .int (b2i w), .int fr, .int n] (fun U => U.heap.size = sz ∧ va_P (dC, dI) vwCl (MWs q cJ cI cZ cD σ) U.heap ∧ va_K (dC, dI) vwCl (tys0 cJ cG cK cR cI cZ cD) U ∧ va_D (fun _ => True) (MWs q cJ cI cZ cD σ))) (va_Qi (fun (r : Int32) (τ : St) => (r, τ) = oSum σ x w fr n) (fun τ t => va_P (dC, dI) vwCl (MWs q cJ cI cZ cD τ) t.heap ∧ va_D (va_A (MWs q cJ cI cZ cD σ) sz) (MWs q cJ cI cZ cD τ)) (va_A (MWs q cJ cI cZ cD σ) sz)) 0 0 (va_A (MWs q cJ cI cZ cD σ) sz) := by
  refine Met.ofW (cc := cX5_sum) (maxL := 12) (ret := (some .int)) (by decide) rfl ?_
  intro p e s m args below meth c s₁ B hml hv
  obtain ⟨rfl, hsz, hP, hK, hD0⟩ := hv
  have hx := B.exec
  have hb := B.bytes
  have hr := B.returns
  have hts := atoms_spec (ws := wsX5_sum) B.pre
  have hown : s.vm.findClass RX5 = some m.cls := findClass_of_methodNamed B.named
  have hlocks := B.notSynchronized
  have hN1 := hI.1
  have hN2 := hI.2.1
  subst hsz
  have hD := hD0.self (sz := s.heap.size)
  generalize hAe : va_A (MWs q cJ cI cZ cD σ) s.heap.size = A at hD ⊢
  have hA : ∀ z : Nat, s.heap.size ≤ z → A z := fun z h => by rw [← hAe]; exact Or.inr h
  have hS : va_S A s.heap s.heap [] := va_S.rf
  have hl := lv_entry ([.ref q.1, .int x, .int (b2i w), .int fr, .int n]) (n := 12) (Nat.le_of_ble_eq_true rfl)
  rw [lg_entry_eq]
  generalize (lg_sl ([.ref q.1, .int x, .int (b2i w), .int fr, .int n]) ++ List.replicate (12 - (lg_sl ([.ref q.1, .int x, .int (b2i w), .int fr, .int n])).length) Slot.unset).toArray = ls at hl ⊢
  have hl : lv_has ls 12 [(0, .ref q.1), (1, .int x), (2, .int (b2i w)), (3, .int fr), (4, .int n)] := hl
  refine lv_iload_n hx hb dX5_sum_0 rfl (lv_at hl 1 rfl) ?_
  refine lv_iconst (v := 0) hx hb dX5_sum_1 (by decide) ?_
  refine lv_bipush (v := 7) hx hb dX5_sum_2 (by decide) ?_
  refine cs_0 (As := [.int x, .int 0, .int (7 : Int32)]) (rest := []) ⟨hx, hb, hml, hown, hts⟩ (mX5_inN l x (7 : Int32) 8 rfl (by decide)) (va_cwS 3 hts gX5_sum_X5_in rfl rfl rfl (by decide +kernel) ⟨Nat.le_of_ble_eq_true rfl, Nat.le_of_ble_eq_true rfl⟩) rfl rfl hl.1 (Nat.le_of_ble_eq_true rfl) dX5_sum_4 (Nat.zero_le _) (Nat.zero_le _) ?_
  refine w_beq (tgt := 15) hx hb dX5_sum_7 (by decide) (fun c_1 => ?_) (fun c_1 => ?_)
  · refine lv_iconst (v := -1) hx hb dX5_sum_15 (by decide) ?_
    exact W.iret hx hb hr (fun t ht hW => ⟨⟨_, σ, rfl, (by unfold oSum; (try simp only [if_neg c_1, Option.getD_some, reduceCtorEq, if_true, if_false, Option.isNone_some, Option.isNone_none, Bool.false_or, Bool.true_or, Bool.not_true, Bool.not_false]); try rfl), by rw [ht]; exact hP, hD⟩, hS.F ht⟩) hS.2.2 dX5_sum_16
  · obtain ⟨kx, hkx, rfl⟩ := ixb_some c_1 (by decide)
    refine lv_iload hx hb dX5_sum_10 (lv_at hl 4 rfl) ?_
    refine lv_if_ge (tgt := 17) hx hb dX5_sum_12 (by decide) (fun c_2 => ?_) (fun c_2 => ?_)
    · obtain ⟨kn, hkn, rfl⟩ := nI_of (x := n) (fun z => by rw [Int32.lt_iff_toInt_lt] at z; rw [Int32.le_iff_toInt_le] at c_2; exact absurd c_2 (Int.not_le.mpr z))
      have hnn : ¬ (nI kn) < 0 := nI_pos (by omega)
      refine lv_aload_n hx hb dX5_sum_17 rfl (lv_at hl 0 rfl) ?_
      refine lv_iload_n hx hb dX5_sum_18 rfl (lv_at hl 1 rfl) ?_
      refine lv_iload_n hx hb dX5_sum_19 rfl (lv_at hl 2 rfl) ?_
      refine cm_w (q0 := 0) (As := [.int (nI kx), .int (b2i w)]) (rest := []) ⟨hx, hb, hml, hown, hts⟩ (mX5_asked l dC dI q cJ cG cK cR cI cZ cD σ N0 hI hN kx (by omega) w) (cwV 2 hts gX5_sum_X5_asked rfl rfl rfl (by decide +kernel) ⟨Nat.le_of_ble_eq_true rfl, Nat.le_of_ble_eq_true rfl⟩) hK hP rfl rfl rfl rfl hl.1 (Nat.le_of_ble_eq_true rfl) dX5_sum_20 (Nat.zero_le _) (Nat.zero_le _) ?_
      refine lv_istore (lv' := [(5, .int (askR σ kx w)), (0, .ref q.1), (1, .int (nI kx)), (2, .int (b2i w)), (3, .int fr), (4, .int (nI kn))]) hx hb dX5_sum_23 hl (by decide) rfl (fun ls hl => ?_)
      refine lv_iload hx hb dX5_sum_25 (lv_at hl 0 rfl) ?_
      refine lv_if_eq (tgt := 36) hx hb dX5_sum_27 (by decide) (fun c_3 => ?_) (fun c_3 => ?_)
      · obtain ⟨a0, hpa0, hwa0⟩ := askR_0 c_3
        have hb0 := hI.2.2.1 _ _ hpa0
        have hs0 := hI.2.2.2.1 a0
        refine lv_dconst0 hx hb dX5_sum_36 ?_
        refine lv_dstore (lv' := [(6, .double FP.dconst0), (5, .int (askR σ kx w)), (0, .ref q.1), (1, .int (nI kx)), (2, .int (b2i w)), (3, .int fr), (4, .int (nI kn))]) hx hb dX5_sum_37 hl (by decide) rfl (fun ls hl => ?_)
        refine lv_iconst (v := 0) hx hb dX5_sum_39 (by decide) ?_
        refine lv_istore (lv' := [(8, .int (0 : Int32)), (6, .double FP.dconst0), (5, .int (askR σ kx w)), (0, .ref q.1), (1, .int (nI kx)), (2, .int (b2i w)), (3, .int fr), (4, .int (nI kn))]) hx hb dX5_sum_40 hl (by decide) rfl (fun ls hl => ?_)
        have key : ∀ (r k : Nat) (all : UInt64), r + k = kn → FV w all → sumL w (itm σ kx) (zRn σ a0) fr kn 0 FP.dconst0 = sumL w (itm σ kx) (zRn σ a0) fr r k all → ∀ ls : Array Slot, lv_has ls 12 [(0, .ref q.1), (1, .int (nI kx)), (2, .int (b2i w)), (3, .int fr), (4, .int (nI kn)), (6, .double all), (8, .int (nI k))] → W p l e (headSpec wsX5_sum ({ frames := 3, cells := 0, slots := 0, locals := 66 })).room s m ([.ref q.1, .int (nI kx), .int (b2i w), .int fr, .int (nI kn)] : List Value).toArray below meth c s.heap [] 0 0 (MQ below (va_Qi (fun (r : Int32) (τ : St) => (r, τ) = oSum σ (nI kx) w fr (nI kn)) (fun τ t => va_P (dC, dI) vwCl (MWs q cJ cI cZ cD τ) t.heap ∧ va_D A (MWs q cJ cI cZ cD τ)) A) ([.ref q.1, .int (nI kx), .int (b2i w), .int fr, .int (nI kn)] : List Value).toArray s 0 0 A) (F0 m 42 ls []) := by
          intro r
          induction r with
          | zero =>
            intro k all hk hfa hf ls hl
            refine lv_iload hx hb dX5_sum_42 (lv_at hl 6 rfl) ?_
            refine lv_iload hx hb dX5_sum_44 (lv_at hl 4 rfl) ?_
            refine lv_icmp_ge (tgt := 152) hx hb dX5_sum_46 (by decide) (fun c_4 => ?_) (fun c_4 => ?_)
            rotate_left
            · exact absurd (nI_le (a := kn) (b := k) (by omega) (by omega)) c_4
            refine lv_aload_n hx hb dX5_sum_152 rfl (lv_at hl 0 rfl) ?_
            refine lv_iload_n hx hb dX5_sum_153 rfl (lv_at hl 2 rfl) ?_
            refine lv_dload hx hb dX5_sum_154 (lv_at hl 5 rfl) ?_
            refine cs_0 (As := [.int (b2i w), .double all]) (rest := [.ref q.1]) ⟨hx, hb, hml, hown, hts⟩ (mX5_bitsOf l w all hfa.1) (va_cwS 2 hts gX5_sum_X5_bitsOf rfl rfl rfl (by decide +kernel) ⟨Nat.le_of_ble_eq_true rfl, Nat.le_of_ble_eq_true rfl⟩) rfl rfl hl.1 (Nat.le_of_ble_eq_true rfl) dX5_sum_156 (Nat.zero_le _) (Nat.zero_le _) ?_
            refine lv_topl (fun z_5 hz_5 => ?_)
            refine va_put (D := (dC, dI)) (ci := 5) (v := .long z_5) (ty := .long) (C := RX5) (T := TX5) (N := 12) hx hb hts (fun w h => List.mem_cons_of_mem _ (List.mem_append_right _ h)) tyX5 tyX5_ok nmX5 hown hK hP hD hS 0 rfl rfl 11 (by decide) (hts (.fieldLink RX5 99 "TideGaugesModel" "told" "J") (List.mem_of_getElem? (i := 3) rfl)) (fun _ h9 => h9) rfl (by decide +kernel) rfl rfl (Nat.le_of_ble_eq_true rfl) dX5_sum_159 (fun H locs hP hD hS => ?_)
            have hP : va_P (dC, dI) vwCl (MWs q cJ cI cZ cD (uTo σ z_5)) H := hP
            have hD : va_D A (MWs q cJ cI cZ cD (uTo σ z_5)) := hD
            refine lv_iconst (v := 1) hx hb dX5_sum_162 (by decide) ?_
            exact W.iret hx hb hr (fun t ht hW => ⟨⟨_, (uTo σ z_5), rfl, (by unfold oSum; simp only [if_pos c_1, if_neg hnn, if_pos c_3, nI_clamp (show kx < 2 ^ 31 by omega), nI_clamp (show kn < 2 ^ 31 by omega), hpa0, hz_5, Option.getD_some, reduceCtorEq, if_true, if_false, Option.isNone_some, Option.isNone_none, Bool.false_or, Bool.true_or, Bool.not_true, Bool.not_false, hf]; unfold sumL; (try simp only [hz_5]); rfl), by rw [ht]; exact hP, hD⟩, hS.F ht⟩) hS.2.2 dX5_sum_163
          | succ r ih =>
            intro k all hk hfa hf ls hl
            refine lv_iload hx hb dX5_sum_42 (lv_at hl 6 rfl) ?_
            refine lv_iload hx hb dX5_sum_44 (lv_at hl 4 rfl) ?_
            refine lv_icmp_ge (tgt := 152) hx hb dX5_sum_46 (by decide) (fun c_6 => ?_) (fun c_6 => ?_)
            · exact absurd c_6 (nI_ge (a := k) (b := kn) (by omega) (by omega))
            refine lv_iload_n hx hb dX5_sum_49 rfl (lv_at hl 3 rfl) ?_
            refine lv_iload hx hb dX5_sum_50 (lv_at hl 6 rfl) ?_
            refine lv_iadd hx hb dX5_sum_52 ?_
            refine lv_istore (lv' := [(9, .int (fr + nI k)), (0, .ref q.1), (1, .int (nI kx)), (2, .int (b2i w)), (3, .int fr), (4, .int (nI kn)), (6, .double all), (8, .int (nI k))]) hx hb dX5_sum_53 hl (by decide) rfl (fun ls hl => ?_)
            refine lv_iload hx hb dX5_sum_55 (lv_at hl 0 rfl) ?_
            refine lv_iconst (v := 0) hx hb dX5_sum_57 (by decide) ?_
            refine lv_aload_n hx hb dX5_sum_58 rfl (lv_at hl 1 rfl) ?_
            refine va_get (D := (dC, dI)) (ci := 5) (v := .ref q.2.2.1) (C := RX5) (T := TX5) (N := 12) hx hb hts (fun w h => List.mem_cons_of_mem _ (List.mem_append_right _ h)) hown hK hP 0 rfl rfl 2 (by decide) (hts (.fieldLink RX5 13 "TideGaugesModel" "sizes" "[I") (List.mem_of_getElem? (i := 1) rfl)) (fun _ h9 => h9) rfl dX5_sum_59 ?_
            refine lv_aload_n hx hb dX5_sum_62 rfl (lv_at hl 1 rfl) ?_
            refine va_get (D := (dC, dI)) (ci := 5) (v := .ref q.2.2.2.2.1) (C := RX5) (T := TX5) (N := 12) hx hb hts (fun w h => List.mem_cons_of_mem _ (List.mem_append_right _ h)) hown hK hP 0 rfl rfl 4 (by decide) (hts (.fieldLink RX5 22 "TideGaugesModel" "places" "[I") (List.mem_of_getElem? (i := 2) rfl)) (fun _ h9 => h9) rfl dX5_sum_63 ?_
            refine lv_iload_n hx hb dX5_sum_66 rfl (lv_at hl 2 rfl) ?_
            refine x_iald hx hb hK hP 4 4 rfl rfl (k := kx) rfl (by have := hI.1; have := hI.2.1; omega) (by decide) (by show eo (zPl σ kx) = nI a0; rw [hpa0]; rfl) dX5_sum_67 ?_
            refine x_iald hx hb hK hP 2 4 rfl rfl (k := a0) rfl (by have := hI.1; have := hI.2.1; omega) (by decide) rfl dX5_sum_68 ?_
            refine lv_iconst (v := 1) hx hb dX5_sum_69 (by decide) ?_
            refine lv_isub hx hb dX5_sum_70 ?_
            refine cs_0 (As := [.int (fr + nI k), .int 0, .int (nI (zRn σ a0) - (1 : Int32))]) (rest := []) ⟨hx, hb, hml, hown, hts⟩ (mX5_inN l (fr + nI k) (nI (zRn σ a0) - (1 : Int32)) (zRn σ a0) rfl (by have := hI.2.2.2.1; have := this a0; omega)) (va_cwS 3 hts gX5_sum_X5_in rfl rfl rfl (by decide +kernel) ⟨Nat.le_of_ble_eq_true rfl, Nat.le_of_ble_eq_true rfl⟩) rfl rfl hl.1 (Nat.le_of_ble_eq_true rfl) dX5_sum_71 (Nat.zero_le _) (Nat.zero_le _) ?_
            refine w_bne (tgt := 82) hx hb dX5_sum_74 (by decide) (fun c_7 => ?_) (fun c_7 => ?_)
            · obtain ⟨ki, hki, eki⟩ := ixb_some c_7 (by omega)
              rw [eki] at hl
              refine lv_iload_n hx hb dX5_sum_82 rfl (lv_at hl 3 rfl) ?_
              refine lv_aload_n hx hb dX5_sum_83 rfl (lv_at hl 1 rfl) ?_
              refine lv_iload_n hx hb dX5_sum_84 rfl (lv_at hl 2 rfl) ?_
              refine lv_iload hx hb dX5_sum_85 (lv_at hl 0 rfl) ?_
              refine cm_w (q0 := 0) (As := [.int (nI kx), .int (nI ki)]) (rest := [.int (b2i w)]) ⟨hx, hb, hml, hown, hts⟩ (mX5_item l dC dI q cJ cG cK cR cI cZ cD σ N0 hI hN kx (by omega) ki a0 hpa0 (by omega)) (cwV 2 hts gX5_sum_X5_item rfl rfl rfl (by decide +kernel) ⟨Nat.le_of_ble_eq_true rfl, Nat.le_of_ble_eq_true rfl⟩) hK hP rfl rfl rfl rfl hl.1 (Nat.le_of_ble_eq_true rfl) dX5_sum_87 (Nat.zero_le _) (Nat.zero_le _) ?_
              refine cs_0 (As := [.int (b2i w), .long (itm σ kx ki)]) (rest := []) ⟨hx, hb, hml, hown, hts⟩ (mX5_number l w (itm σ kx ki) (itm_ok hI hpa0 hwa0)) (va_cwS 2 hts gX5_sum_X5_number rfl rfl rfl (by decide +kernel) ⟨Nat.le_of_ble_eq_true rfl, Nat.le_of_ble_eq_true rfl⟩) rfl rfl hl.1 (Nat.le_of_ble_eq_true rfl) dX5_sum_90 (Nat.zero_le _) (Nat.zero_le _) ?_
              refine lv_dstore (lv' := [(10, .double (fX5_number w (itm σ kx ki))), (9, .int (nI ki)), (0, .ref q.1), (1, .int (nI kx)), (2, .int (b2i w)), (3, .int fr), (4, .int (nI kn)), (6, .double all), (8, .int (nI k))]) hx hb dX5_sum_93 hl (by decide) rfl (fun ls hl => ?_)
              refine lv_dload hx hb dX5_sum_95 (lv_at hl 7 rfl) ?_
              refine cs_0 (As := [.double all]) (rest := []) ⟨hx, hb, hml, hown, hts⟩ (mX5_isEndless l all) (va_cwS 1 hts gX5_sum_X5_isEndless rfl rfl rfl (by decide +kernel) ⟨Nat.le_of_ble_eq_true rfl, Nat.le_of_ble_eq_true rfl⟩) rfl rfl hl.1 (Nat.le_of_ble_eq_true rfl) dX5_sum_97 (Nat.zero_le _) (Nat.zero_le _) ?_
              refine w_beq (tgt := 124) hx hb dX5_sum_100 (by decide) (fun c_8 => ?_) (fun c_8 => ?_)
              · have hu : ¬ unl all (fX5_number w (itm σ kx ki)) = true := unl_f1 c_8
                refine lv_iload_n hx hb dX5_sum_124 rfl (lv_at hl 4 rfl) ?_
                refine w_beq (tgt := 136) hx hb dX5_sum_125 (by decide) (fun hcw => ?_) (fun hcw => ?_)
                · refine lv_dload hx hb dX5_sum_136 (lv_at hl 7 rfl) ?_
                  refine lv_d2f hx hb dX5_sum_138 (n32_of (by rw [FP.d2f_nan]; exact hfa.1)) ?_
                  refine lv_dload hx hb dX5_sum_139 (lv_at hl 0 rfl) ?_
                  refine lv_d2f hx hb dX5_sum_141 (n32_of (by rw [FP.d2f_nan]; exact (num_fv (itm_ok hI hpa0 hwa0)).1)) ?_
                  refine lv_fadd hx hb dX5_sum_142 (n32_of (addf_nn (by rw [← Bool.eq_false_iff.mpr hcw]; exact hfa) (by rw [← Bool.eq_false_iff.mpr hcw]; exact (num_fv (itm_ok hI hpa0 hwa0))) hu)) ?_
                  refine lv_f2d hx hb dX5_sum_143 (n64_of (by rw [FP.f2d_nan]; exact addf_nn (by rw [← Bool.eq_false_iff.mpr hcw]; exact hfa) (by rw [← Bool.eq_false_iff.mpr hcw]; exact (num_fv (itm_ok hI hpa0 hwa0))) hu)) ?_
                  refine lv_dstore (lv' := [(6, .double (FP.f2d (FP.fadd (FP.d2f all) (FP.d2f (fX5_number w (itm σ kx ki)))))), (10, .double (fX5_number w (itm σ kx ki))), (9, .int (nI ki)), (0, .ref q.1), (1, .int (nI kx)), (2, .int (b2i w)), (3, .int fr), (4, .int (nI kn)), (8, .int (nI k))]) hx hb dX5_sum_144 hl (by decide) rfl (fun ls hl => ?_)
                  refine lv_iinc (v := nI (k + 1)) (lv' := [(8, .int (nI (k + 1))), (6, .double (FP.f2d (FP.fadd (FP.d2f all) (FP.d2f (fX5_number w (itm σ kx ki)))))), (10, .double (fX5_number w (itm σ kx ki))), (9, .int (nI ki)), (0, .ref q.1), (1, .int (nI kx)), (2, .int (b2i w)), (3, .int fr), (4, .int (nI kn))]) hx hb dX5_sum_146 hl (k := 8) rfl (nI_1 k) (by decide) rfl (fun ls hl => ?_)
                  refine lv_goto (tgt := 42) hx hb dX5_sum_149 (by decide) ?_
                  exact ih (k + 1) _ (by omega) (by have z := addN_fv hfa (num_fv (itm_ok hI hpa0 hwa0)) hu; unfold addN at z; rw [if_neg hcw] at z; exact z) (by rw [hf]; conv => lhs; unfold sumL; (rw [if_pos c_7, eki, nI_clamp (show ki < 2 ^ 31 by omega), if_neg hu]; unfold addN; rw [if_neg hcw])) ls (lv_sub hl [4, 5, 6, 7, 8, 1, 0] rfl)
                · refine lv_dload hx hb dX5_sum_128 (lv_at hl 7 rfl) ?_
                  refine lv_dload hx hb dX5_sum_130 (lv_at hl 0 rfl) ?_
                  refine lv_dadd hx hb dX5_sum_132 (n64_of (addd_nn hfa (num_fv (itm_ok hI hpa0 hwa0)) hu)) ?_
                  refine lv_goto (tgt := 144) hx hb dX5_sum_133 (by decide) ?_
                  refine lv_dstore (lv' := [(6, .double (FP.dadd all (fX5_number w (itm σ kx ki)))), (10, .double (fX5_number w (itm σ kx ki))), (9, .int (nI ki)), (0, .ref q.1), (1, .int (nI kx)), (2, .int (b2i w)), (3, .int fr), (4, .int (nI kn)), (8, .int (nI k))]) hx hb dX5_sum_144 hl (by decide) rfl (fun ls hl => ?_)
                  refine lv_iinc (v := nI (k + 1)) (lv' := [(8, .int (nI (k + 1))), (6, .double (FP.dadd all (fX5_number w (itm σ kx ki)))), (10, .double (fX5_number w (itm σ kx ki))), (9, .int (nI ki)), (0, .ref q.1), (1, .int (nI kx)), (2, .int (b2i w)), (3, .int fr), (4, .int (nI kn))]) hx hb dX5_sum_146 hl (k := 8) rfl (nI_1 k) (by decide) rfl (fun ls hl => ?_)
                  refine lv_goto (tgt := 42) hx hb dX5_sum_149 (by decide) ?_
                  exact ih (k + 1) _ (by omega) (by have z := addN_fv hfa (num_fv (itm_ok hI hpa0 hwa0)) hu; unfold addN at z; rw [if_pos hcw] at z; exact z) (by rw [hf]; conv => lhs; unfold sumL; (rw [if_pos c_7, eki, nI_clamp (show ki < 2 ^ 31 by omega), if_neg hu]; unfold addN; rw [if_pos hcw])) ls (lv_sub hl [4, 5, 6, 7, 8, 1, 0] rfl)
              · refine lv_dload hx hb dX5_sum_103 (lv_at hl 0 rfl) ?_
                refine cs_0 (As := [.double (fX5_number w (itm σ kx ki))]) (rest := []) ⟨hx, hb, hml, hown, hts⟩ (mX5_isEndless l (fX5_number w (itm σ kx ki))) (va_cwS 1 hts gX5_sum_X5_isEndless rfl rfl rfl (by decide +kernel) ⟨Nat.le_of_ble_eq_true rfl, Nat.le_of_ble_eq_true rfl⟩) rfl rfl hl.1 (Nat.le_of_ble_eq_true rfl) dX5_sum_105 (Nat.zero_le _) (Nat.zero_le _) ?_
                refine w_beq (tgt := 124) hx hb dX5_sum_108 (by decide) (fun c_9 => ?_) (fun c_9 => ?_)
                · have hu : ¬ unl all (fX5_number w (itm σ kx ki)) = true := unl_f2 c_9
                  refine lv_iload_n hx hb dX5_sum_124 rfl (lv_at hl 4 rfl) ?_
                  refine w_beq (tgt := 136) hx hb dX5_sum_125 (by decide) (fun hcw => ?_) (fun hcw => ?_)
                  · refine lv_dload hx hb dX5_sum_136 (lv_at hl 7 rfl) ?_
                    refine lv_d2f hx hb dX5_sum_138 (n32_of (by rw [FP.d2f_nan]; exact hfa.1)) ?_
                    refine lv_dload hx hb dX5_sum_139 (lv_at hl 0 rfl) ?_
                    refine lv_d2f hx hb dX5_sum_141 (n32_of (by rw [FP.d2f_nan]; exact (num_fv (itm_ok hI hpa0 hwa0)).1)) ?_
                    refine lv_fadd hx hb dX5_sum_142 (n32_of (addf_nn (by rw [← Bool.eq_false_iff.mpr hcw]; exact hfa) (by rw [← Bool.eq_false_iff.mpr hcw]; exact (num_fv (itm_ok hI hpa0 hwa0))) hu)) ?_
                    refine lv_f2d hx hb dX5_sum_143 (n64_of (by rw [FP.f2d_nan]; exact addf_nn (by rw [← Bool.eq_false_iff.mpr hcw]; exact hfa) (by rw [← Bool.eq_false_iff.mpr hcw]; exact (num_fv (itm_ok hI hpa0 hwa0))) hu)) ?_
                    refine lv_dstore (lv' := [(6, .double (FP.f2d (FP.fadd (FP.d2f all) (FP.d2f (fX5_number w (itm σ kx ki)))))), (10, .double (fX5_number w (itm σ kx ki))), (9, .int (nI ki)), (0, .ref q.1), (1, .int (nI kx)), (2, .int (b2i w)), (3, .int fr), (4, .int (nI kn)), (8, .int (nI k))]) hx hb dX5_sum_144 hl (by decide) rfl (fun ls hl => ?_)
                    refine lv_iinc (v := nI (k + 1)) (lv' := [(8, .int (nI (k + 1))), (6, .double (FP.f2d (FP.fadd (FP.d2f all) (FP.d2f (fX5_number w (itm σ kx ki)))))), (10, .double (fX5_number w (itm σ kx ki))), (9, .int (nI ki)), (0, .ref q.1), (1, .int (nI kx)), (2, .int (b2i w)), (3, .int fr), (4, .int (nI kn))]) hx hb dX5_sum_146 hl (k := 8) rfl (nI_1 k) (by decide) rfl (fun ls hl => ?_)
                    refine lv_goto (tgt := 42) hx hb dX5_sum_149 (by decide) ?_
                    exact ih (k + 1) _ (by omega) (by have z := addN_fv hfa (num_fv (itm_ok hI hpa0 hwa0)) hu; unfold addN at z; rw [if_neg hcw] at z; exact z) (by rw [hf]; conv => lhs; unfold sumL; (rw [if_pos c_7, eki, nI_clamp (show ki < 2 ^ 31 by omega), if_neg hu]; unfold addN; rw [if_neg hcw])) ls (lv_sub hl [4, 5, 6, 7, 8, 1, 0] rfl)
                  · refine lv_dload hx hb dX5_sum_128 (lv_at hl 7 rfl) ?_
                    refine lv_dload hx hb dX5_sum_130 (lv_at hl 0 rfl) ?_
                    refine lv_dadd hx hb dX5_sum_132 (n64_of (addd_nn hfa (num_fv (itm_ok hI hpa0 hwa0)) hu)) ?_
                    refine lv_goto (tgt := 144) hx hb dX5_sum_133 (by decide) ?_
                    refine lv_dstore (lv' := [(6, .double (FP.dadd all (fX5_number w (itm σ kx ki)))), (10, .double (fX5_number w (itm σ kx ki))), (9, .int (nI ki)), (0, .ref q.1), (1, .int (nI kx)), (2, .int (b2i w)), (3, .int fr), (4, .int (nI kn)), (8, .int (nI k))]) hx hb dX5_sum_144 hl (by decide) rfl (fun ls hl => ?_)
                    refine lv_iinc (v := nI (k + 1)) (lv' := [(8, .int (nI (k + 1))), (6, .double (FP.dadd all (fX5_number w (itm σ kx ki)))), (10, .double (fX5_number w (itm σ kx ki))), (9, .int (nI ki)), (0, .ref q.1), (1, .int (nI kx)), (2, .int (b2i w)), (3, .int fr), (4, .int (nI kn))]) hx hb dX5_sum_146 hl (k := 8) rfl (nI_1 k) (by decide) rfl (fun ls hl => ?_)
                    refine lv_goto (tgt := 42) hx hb dX5_sum_149 (by decide) ?_
                    exact ih (k + 1) _ (by omega) (by have z := addN_fv hfa (num_fv (itm_ok hI hpa0 hwa0)) hu; unfold addN at z; rw [if_pos hcw] at z; exact z) (by rw [hf]; conv => lhs; unfold sumL; (rw [if_pos c_7, eki, nI_clamp (show ki < 2 ^ 31 by omega), if_neg hu]; unfold addN; rw [if_pos hcw])) ls (lv_sub hl [4, 5, 6, 7, 8, 1, 0] rfl)
                · refine lv_dload hx hb dX5_sum_111 (lv_at hl 7 rfl) ?_
                  refine lv_dload hx hb dX5_sum_113 (lv_at hl 0 rfl) ?_
                  refine lv_dcmp hx hb dX5_sum_115 ?_
                  refine lv_if_eq (tgt := 124) hx hb dX5_sum_116 (by decide) (fun c_10 => ?_) (fun c_10 => ?_)
                  · have hu : ¬ unl all (fX5_number w (itm σ kx ki)) = true := unl_f3 c_10
                    refine lv_iload_n hx hb dX5_sum_124 rfl (lv_at hl 4 rfl) ?_
                    refine w_beq (tgt := 136) hx hb dX5_sum_125 (by decide) (fun hcw => ?_) (fun hcw => ?_)
                    · refine lv_dload hx hb dX5_sum_136 (lv_at hl 7 rfl) ?_
                      refine lv_d2f hx hb dX5_sum_138 (n32_of (by rw [FP.d2f_nan]; exact hfa.1)) ?_
                      refine lv_dload hx hb dX5_sum_139 (lv_at hl 0 rfl) ?_
                      refine lv_d2f hx hb dX5_sum_141 (n32_of (by rw [FP.d2f_nan]; exact (num_fv (itm_ok hI hpa0 hwa0)).1)) ?_
                      refine lv_fadd hx hb dX5_sum_142 (n32_of (addf_nn (by rw [← Bool.eq_false_iff.mpr hcw]; exact hfa) (by rw [← Bool.eq_false_iff.mpr hcw]; exact (num_fv (itm_ok hI hpa0 hwa0))) hu)) ?_
                      refine lv_f2d hx hb dX5_sum_143 (n64_of (by rw [FP.f2d_nan]; exact addf_nn (by rw [← Bool.eq_false_iff.mpr hcw]; exact hfa) (by rw [← Bool.eq_false_iff.mpr hcw]; exact (num_fv (itm_ok hI hpa0 hwa0))) hu)) ?_
                      refine lv_dstore (lv' := [(6, .double (FP.f2d (FP.fadd (FP.d2f all) (FP.d2f (fX5_number w (itm σ kx ki)))))), (10, .double (fX5_number w (itm σ kx ki))), (9, .int (nI ki)), (0, .ref q.1), (1, .int (nI kx)), (2, .int (b2i w)), (3, .int fr), (4, .int (nI kn)), (8, .int (nI k))]) hx hb dX5_sum_144 hl (by decide) rfl (fun ls hl => ?_)
                      refine lv_iinc (v := nI (k + 1)) (lv' := [(8, .int (nI (k + 1))), (6, .double (FP.f2d (FP.fadd (FP.d2f all) (FP.d2f (fX5_number w (itm σ kx ki)))))), (10, .double (fX5_number w (itm σ kx ki))), (9, .int (nI ki)), (0, .ref q.1), (1, .int (nI kx)), (2, .int (b2i w)), (3, .int fr), (4, .int (nI kn))]) hx hb dX5_sum_146 hl (k := 8) rfl (nI_1 k) (by decide) rfl (fun ls hl => ?_)
                      refine lv_goto (tgt := 42) hx hb dX5_sum_149 (by decide) ?_
                      exact ih (k + 1) _ (by omega) (by have z := addN_fv hfa (num_fv (itm_ok hI hpa0 hwa0)) hu; unfold addN at z; rw [if_neg hcw] at z; exact z) (by rw [hf]; conv => lhs; unfold sumL; (rw [if_pos c_7, eki, nI_clamp (show ki < 2 ^ 31 by omega), if_neg hu]; unfold addN; rw [if_neg hcw])) ls (lv_sub hl [4, 5, 6, 7, 8, 1, 0] rfl)
                    · refine lv_dload hx hb dX5_sum_128 (lv_at hl 7 rfl) ?_
                      refine lv_dload hx hb dX5_sum_130 (lv_at hl 0 rfl) ?_
                      refine lv_dadd hx hb dX5_sum_132 (n64_of (addd_nn hfa (num_fv (itm_ok hI hpa0 hwa0)) hu)) ?_
                      refine lv_goto (tgt := 144) hx hb dX5_sum_133 (by decide) ?_
                      refine lv_dstore (lv' := [(6, .double (FP.dadd all (fX5_number w (itm σ kx ki)))), (10, .double (fX5_number w (itm σ kx ki))), (9, .int (nI ki)), (0, .ref q.1), (1, .int (nI kx)), (2, .int (b2i w)), (3, .int fr), (4, .int (nI kn)), (8, .int (nI k))]) hx hb dX5_sum_144 hl (by decide) rfl (fun ls hl => ?_)
                      refine lv_iinc (v := nI (k + 1)) (lv' := [(8, .int (nI (k + 1))), (6, .double (FP.dadd all (fX5_number w (itm σ kx ki)))), (10, .double (fX5_number w (itm σ kx ki))), (9, .int (nI ki)), (0, .ref q.1), (1, .int (nI kx)), (2, .int (b2i w)), (3, .int fr), (4, .int (nI kn))]) hx hb dX5_sum_146 hl (k := 8) rfl (nI_1 k) (by decide) rfl (fun ls hl => ?_)
                      refine lv_goto (tgt := 42) hx hb dX5_sum_149 (by decide) ?_
                      exact ih (k + 1) _ (by omega) (by have z := addN_fv hfa (num_fv (itm_ok hI hpa0 hwa0)) hu; unfold addN at z; rw [if_pos hcw] at z; exact z) (by rw [hf]; conv => lhs; unfold sumL; (rw [if_pos c_7, eki, nI_clamp (show ki < 2 ^ 31 by omega), if_neg hu]; unfold addN; rw [if_pos hcw])) ls (lv_sub hl [4, 5, 6, 7, 8, 1, 0] rfl)
                  · have hu : unl all (fX5_number w (itm σ kx ki)) = true := unl_t c_8 c_9 c_10
                    refine lv_iconst (v := 4) hx hb dX5_sum_119 (by decide) ?_
                    refine cs_0 (As := [.int (4 : Int32)]) (rest := []) ⟨hx, hb, hml, hown, hts⟩ (mX5_fails l (4 : Int32)) (va_cwS 1 hts gX5_sum_X5_fails rfl rfl rfl (by decide +kernel) ⟨Nat.le_of_ble_eq_true rfl, Nat.le_of_ble_eq_true rfl⟩) rfl rfl hl.1 (Nat.le_of_ble_eq_true rfl) dX5_sum_120 (Nat.zero_le _) (Nat.zero_le _) ?_
                    exact W.iret hx hb hr (fun t ht hW => ⟨⟨_, σ, rfl, (by unfold oSum; simp only [if_pos c_1, if_neg hnn, if_pos c_3, nI_clamp (show kx < 2 ^ 31 by omega), nI_clamp (show kn < 2 ^ 31 by omega), hpa0, Option.getD_some, reduceCtorEq, if_true, if_false, Option.isNone_some, Option.isNone_none, Bool.false_or, Bool.true_or, Bool.not_true, Bool.not_false, hf]; unfold sumL; rw [if_pos c_7, eki, nI_clamp (show ki < 2 ^ 31 by omega), if_pos hu]; rfl), by rw [ht]; exact hP, hD⟩, hS.F ht⟩) hS.2.2 dX5_sum_123
            · refine lv_iconst (v := 2) hx hb dX5_sum_77 (by decide) ?_
              refine cs_0 (As := [.int (2 : Int32)]) (rest := []) ⟨hx, hb, hml, hown, hts⟩ (mX5_fails l (2 : Int32)) (va_cwS 1 hts gX5_sum_X5_fails rfl rfl rfl (by decide +kernel) ⟨Nat.le_of_ble_eq_true rfl, Nat.le_of_ble_eq_true rfl⟩) rfl rfl hl.1 (Nat.le_of_ble_eq_true rfl) dX5_sum_78 (Nat.zero_le _) (Nat.zero_le _) ?_
              exact W.iret hx hb hr (fun t ht hW => ⟨⟨_, σ, rfl, (by unfold oSum; simp only [if_pos c_1, if_neg hnn, if_pos c_3, nI_clamp (show kx < 2 ^ 31 by omega), nI_clamp (show kn < 2 ^ 31 by omega), hpa0, Option.getD_some, reduceCtorEq, if_true, if_false, Option.isNone_some, Option.isNone_none, Bool.false_or, Bool.true_or, Bool.not_true, Bool.not_false, hf]; unfold sumL; rw [if_neg c_7]; rfl), by rw [ht]; exact hP, hD⟩, hS.F ht⟩) hS.2.2 dX5_sum_81
        exact key kn 0 FP.dconst0 rfl (fv_0 w) rfl ls (lv_sub hl [3, 4, 5, 6, 7, 1, 0] rfl)
      · refine lv_iload hx hb dX5_sum_30 (lv_at hl 0 rfl) ?_
        refine cs_0 (As := [.int (askR σ kx w)]) (rest := []) ⟨hx, hb, hml, hown, hts⟩ (mX5_fails l (askR σ kx w)) (va_cwS 1 hts gX5_sum_X5_fails rfl rfl rfl (by decide +kernel) ⟨Nat.le_of_ble_eq_true rfl, Nat.le_of_ble_eq_true rfl⟩) rfl rfl hl.1 (Nat.le_of_ble_eq_true rfl) dX5_sum_32 (Nat.zero_le _) (Nat.zero_le _) ?_
        exact W.iret hx hb hr (fun t ht hW => ⟨⟨_, σ, rfl, (by unfold oSum; (try simp only [if_pos c_1, if_neg hnn, if_neg c_3, nI_clamp (show kx < 2 ^ 31 by omega), nI_clamp (show kn < 2 ^ 31 by omega), Option.getD_some, reduceCtorEq, if_true, if_false, Option.isNone_some, Option.isNone_none, Bool.false_or, Bool.true_or, Bool.not_true, Bool.not_false]); try rfl), by rw [ht]; exact hP, hD⟩, hS.F ht⟩) hS.2.2 dX5_sum_35
    · have hnn : n < 0 := by rw [Int32.lt_iff_toInt_lt]; rw [Int32.le_iff_toInt_le] at c_2; exact Int.not_le.mp c_2
      refine lv_iconst (v := -1) hx hb dX5_sum_15 (by decide) ?_
      exact W.iret hx hb hr (fun t ht hW => ⟨⟨_, σ, rfl, (by unfold oSum; (try simp only [if_pos c_1, if_pos hnn, nI_clamp (show kx < 2 ^ 31 by omega), Option.getD_some, reduceCtorEq, if_true, if_false, Option.isNone_some, Option.isNone_none, Bool.false_or, Bool.true_or, Bool.not_true, Bool.not_false]); try rfl), by rw [ht]; exact hP, hD⟩, hS.F ht⟩) hS.2.2 dX5_sum_16
