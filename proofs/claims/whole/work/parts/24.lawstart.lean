set_option maxRecDepth 20000 in
theorem law_K {s : State} {args : Array Value} (htb : ∀ w ∈ lw_tbl, w.before args s = true) : ∃ (dC : Nat → ClassId) (dI : Nat → Nat → Nat) (cJ cG cK cR cI cZ cD : ClassId), va_K (dC, dI) vwCl (tys0 cJ cG cK cR cI cZ cD) s := by
  obtain ⟨c0, i0, k0⟩ := u_known (C := RX0) (T := TX0) (N := 2) htb inX0 (htb (.instantiable "TideGauges$Gauge" 2) (List.mem_append_right _ (List.mem_append_left _ (List.mem_of_getElem? (i := 229) rfl))))
  obtain ⟨c1, i1, k1⟩ := u_known (C := RX1) (T := TX1) (N := 2) htb inX1 (htb (.instantiable "TideGauges$Rack" 2) (List.mem_append_right _ (List.mem_append_right _ (List.mem_append_left _ (List.mem_of_getElem? (i := 42) rfl)))))
  obtain ⟨c2, i2, k2⟩ := u_known (C := RX2) (T := TX2) (N := 2) htb inX2 (htb (.instantiable "TideGauges$Row" 2) (List.mem_append_right _ (List.mem_append_left _ (List.mem_of_getElem? (i := 45) rfl))))
  obtain ⟨c3, i3, k3⟩ := u_known (C := RX3) (T := TX3) (N := 0) htb inX3 (htb (.instantiable "TideGauges$Width" 7) (List.mem_append_right _ (List.mem_append_left _ (List.mem_of_getElem? (i := 106) rfl))))
  obtain ⟨c4, i4, k4⟩ := u_known (C := RX4) (T := TX4) (N := 4) htb inX4 (htb (.instantiable "TideGauges" 4) (List.mem_append_right _ (List.mem_append_left _ (List.mem_of_getElem? (i := 12) rfl))))
  obtain ⟨c5, i5, k5⟩ := u_known (C := RX5) (T := TX5) (N := 12) htb inX5 (htb (.instantiable "TideGaugesModel" 12) (List.mem_append_right _ (List.mem_append_right _ (List.mem_append_left _ (List.mem_of_getElem? (i := 102) rfl)))))
  obtain ⟨cJ, hcJ⟩ := ac_long (htb (.arrayClass .long) (List.mem_append_right _ (List.mem_append_left _ (List.mem_of_getElem? (i := 66) rfl))))
  obtain ⟨cI, hcI⟩ := ac_int (htb (.arrayClass .int) (List.mem_append_right _ (List.mem_append_right _ (List.mem_append_left _ (List.mem_of_getElem? (i := 146) rfl)))))
  obtain ⟨cZ, hcZ⟩ := ac_boolean (htb (.arrayClass .boolean) (List.mem_append_right _ (List.mem_append_right _ (List.mem_append_left _ (List.mem_of_getElem? (i := 145) rfl)))))
  obtain ⟨cD, hcD⟩ := ac_double (htb (.arrayClass .double) (List.mem_append_right _ (List.mem_append_right _ (List.mem_append_left _ (List.mem_of_getElem? (i := 147) rfl)))))
  obtain ⟨cG, hcG⟩ := ao_obj (va_AO.of (htb (.arrayOver (.object "TideGauges$Gauge")) (List.mem_append_right _ (List.mem_append_left _ (List.mem_of_getElem? (i := 22) rfl)))))
  obtain ⟨cK, hcK⟩ := ao_obj (va_AO.of (htb (.arrayOver (.object "TideGauges$Rack")) (List.mem_append_right _ (List.mem_append_left _ (List.mem_of_getElem? (i := 24) rfl)))))
  obtain ⟨cR, hcR⟩ := ao_obj (va_AO.of (htb (.arrayOver (.object "TideGauges$Row")) (List.mem_append_right _ (List.mem_append_left _ (List.mem_of_getElem? (i := 20) rfl)))))
  refine ⟨fun k => match k with | 0 => c0 | 1 => c1 | 2 => c2 | 3 => c3 | 4 => c4 | _ => c5, fun k => match k with | 0 => i0 | 1 => i1 | 2 => i2 | 3 => i3 | 4 => i4 | _ => i5, cJ, cG, cK, cR, cI, cZ, cD, ?_, ?_⟩
  · intro c q hq
    match c, hq with
    | 0, hq => cases hq; exact k0
    | 1, hq => cases hq; exact k1
    | 2, hq => cases hq; exact k2
    | 3, hq => cases hq; exact k3
    | 4, hq => cases hq; exact k4
    | 5, hq => cases hq; exact k5
    | n + 6, hq => simp at hq
  · intro k q hq
    match k, hq with
    | 0, hq => cases hq; exact hcJ
    | 1, hq => cases hq; exact hcG
    | 2, hq => cases hq; exact hcK
    | 3, hq => cases hq; exact hcR
    | 4, hq => cases hq; exact hcI
    | 5, hq => cases hq; exact hcZ
    | 6, hq => cases hq; exact hcD
    | n + 7, hq => simp at hq
theorem law_AOR {s : State} {args : Array Value} (htb : ∀ w ∈ lw_tbl, w.before args s = true) : va_AO "TideGauges$Row" s := va_AO.of (htb (.arrayOver (.object "TideGauges$Row")) (List.mem_append_right _ (List.mem_append_left _ (List.mem_of_getElem? (i := 20) rfl))))
theorem law_AOG {s : State} {args : Array Value} (htb : ∀ w ∈ lw_tbl, w.before args s = true) : va_AO "TideGauges$Gauge" s := va_AO.of (htb (.arrayOver (.object "TideGauges$Gauge")) (List.mem_append_right _ (List.mem_append_left _ (List.mem_of_getElem? (i := 22) rfl))))
theorem law_AOK {s : State} {args : Array Value} (htb : ∀ w ∈ lw_tbl, w.before args s = true) : va_AO "TideGauges$Rack" s := va_AO.of (htb (.arrayOver (.object "TideGauges$Rack")) (List.mem_append_right _ (List.mem_append_left _ (List.mem_of_getElem? (i := 24) rfl))))
set_option maxRecDepth 20000 in
theorem law_E {s : State} {args : Array Value} (htb : ∀ w ∈ lw_tbl, w.before args s = true) (hgv : (Jvm.Cond.and given_1 narrow_1).before args s = true) : ∃ ad : Nat → Nat, EN ad (fun q => s.heap.size ≤ q) s s.heap := by
  have hs := flat_of_before _ hgv
  have hA : ∀ a : Nat, a < s.heap.size → ¬ s.heap.size ≤ a := fun a h1 h2 => absurd h1 (Nat.not_lt.mpr h2)
  obtain ⟨ad, h1, h2⟩ := va_Enof2 (E := "TideGauges$Width") (d := "LTideGauges$Width;") (nm := ["FLOAT", "DOUBLE"]) (F := []) (A := fun q => s.heap.size ≤ q) (args := args) (s := s) (fun i hi => by
      match i, hi with
      | 0, _ => exact (htb (.laysStatic "TideGauges$Width" "FLOAT" "LTideGauges$Width;") (List.mem_append_right _ (List.mem_append_left _ (List.mem_of_getElem? (i := 52) rfl))))
      | 1, _ => exact (htb (.laysStatic "TideGauges$Width" "DOUBLE" "LTideGauges$Width;") (List.mem_append_right _ (List.mem_append_left _ (List.mem_of_getElem? (i := 50) rfl))))
      | n + 2, h => exact absurd h (by simp)) (htb (.initialized "TideGauges$Width") (List.mem_append_right _ (List.mem_append_left _ (List.mem_of_getElem? (i := 5) rfl)))) (fun i hi => by
      match i, hi with
      | 0, _ => exact hs (.exactly (.static "TideGauges$Width" "FLOAT" "LTideGauges$Width;") "TideGauges$Width") (by decide +kernel)
      | 1, _ => exact hs (.exactly (.static "TideGauges$Width" "DOUBLE" "LTideGauges$Width;") "TideGauges$Width") (by decide +kernel)
      | n + 2, h => exact absurd h (by simp)) (fun q hq => absurd hq List.not_mem_nil) (fun i j hi hj hij => by
      match i, j, hi, hj, hij with
      | 0, 0, _, _, h => exact absurd rfl h
      | 1, 1, _, _, h => exact absurd rfl h
      | 0, 1, _, _, _ => exact Or.inr (hs (.not (.eq (.static "TideGauges$Width" "DOUBLE" "LTideGauges$Width;") (.static "TideGauges$Width" "FLOAT" "LTideGauges$Width;"))) (by decide +kernel))
      | 1, 0, _, _, _ => exact Or.inl (hs (.not (.eq (.static "TideGauges$Width" "DOUBLE" "LTideGauges$Width;") (.static "TideGauges$Width" "FLOAT" "LTideGauges$Width;"))) (by decide +kernel))
      | n + 2, _, h, _, _ => exact absurd h (by simp)
      | _, n + 2, _, h, _ => exact absurd h (by simp)) hA
  have h_fractionBits : va_Ef 2 "TideGauges$Width" "fractionBits" "I" (fun i => .int (cFB i)) ad (fun q => s.heap.size ≤ q) s s.heap := va_Efof (tm := fun i => .int (cFB i)) (nm := ["FLOAT", "DOUBLE"]) h2 (fun i hi => by
      match i, hi with
      | 0, _ => exact hs (.eq (.field (.static "TideGauges$Width" "FLOAT" "LTideGauges$Width;") "TideGauges$Width" "fractionBits" "I") (.int 23)) (by decide +kernel)
      | 1, _ => exact hs (.eq (.field (.static "TideGauges$Width" "DOUBLE" "LTideGauges$Width;") "TideGauges$Width" "fractionBits" "I") (.int 52)) (by decide +kernel)
      | n + 2, h => exact absurd h (by omega)) (fun i hi => rfl) hA
  have h_leastExponent : va_Ef 2 "TideGauges$Width" "leastExponent" "I" (fun i => .int (cLE i)) ad (fun q => s.heap.size ≤ q) s s.heap := va_Efof (tm := fun i => .int (cLE i)) (nm := ["FLOAT", "DOUBLE"]) h2 (fun i hi => by
      match i, hi with
      | 0, _ => exact hs (.eq (.field (.static "TideGauges$Width" "FLOAT" "LTideGauges$Width;") "TideGauges$Width" "leastExponent" "I") (.int (-149))) (by decide +kernel)
      | 1, _ => exact hs (.eq (.field (.static "TideGauges$Width" "DOUBLE" "LTideGauges$Width;") "TideGauges$Width" "leastExponent" "I") (.int (-1074))) (by decide +kernel)
      | n + 2, h => exact absurd h (by omega)) (fun i hi => rfl) hA
  have h_signBit : va_Ef 2 "TideGauges$Width" "signBit" "J" (fun i => .long (cSB i)) ad (fun q => s.heap.size ≤ q) s s.heap := va_Efof (tm := fun i => .long (cSB i)) (nm := ["FLOAT", "DOUBLE"]) h2 (fun i hi => by
      match i, hi with
      | 0, _ => exact hs (.eq (.field (.static "TideGauges$Width" "FLOAT" "LTideGauges$Width;") "TideGauges$Width" "signBit" "J") (.long 2147483648)) (by decide +kernel)
      | 1, _ => exact hs (.eq (.field (.static "TideGauges$Width" "DOUBLE" "LTideGauges$Width;") "TideGauges$Width" "signBit" "J") (.long (-9223372036854775808))) (by decide +kernel)
      | n + 2, h => exact absurd h (by omega)) (fun i hi => rfl) hA
  have h_endless : va_Ef 2 "TideGauges$Width" "endless" "J" (fun i => .long (cEN i)) ad (fun q => s.heap.size ≤ q) s s.heap := va_Efof (tm := fun i => .long (cEN i)) (nm := ["FLOAT", "DOUBLE"]) h2 (fun i hi => by
      match i, hi with
      | 0, _ => exact hs (.eq (.field (.static "TideGauges$Width" "FLOAT" "LTideGauges$Width;") "TideGauges$Width" "endless" "J") (.long 2139095040)) (by decide +kernel)
      | 1, _ => exact hs (.eq (.field (.static "TideGauges$Width" "DOUBLE" "LTideGauges$Width;") "TideGauges$Width" "endless" "J") (.long 9218868437227405312)) (by decide +kernel)
      | n + 2, h => exact absurd h (by omega)) (fun i hi => rfl) hA
  exact ⟨ad, h1, h_fractionBits, h_leastExponent, h_signBit, h_endless⟩
