section TC
variable {p : Program} {l : Launch} {e : Env} {R : Room} {s : State} {m : MethodId} {args : Array Value} {below : List Frame} {meth : Method} {c : Code} {H : Heap} {locs : List Loc} {cells slots : Nat} {Q : State → Prop}
variable {cc : ByteArray} {pc : Nat} {ls : Array Slot} {rest : List Value} {D : va_G} {cl : List vw_C} {A : Nat → Prop} {a : Nat} {tys : List (ClassId × FieldType)} {ws ws' : va_W} {own C : String} {T : u_T} {N ci index : Nat} {Ts : List Cond} {fs : List Value} {n maxL nL q0 mc ms : Nat} {y : MethodName} {bytes : ByteArray} {ret : Option FieldType} {wsy : List Cond} {rm : Room} {As st0 : List Value}
theorem fr_all {H0 : Heap} (hD : va_D A ws) (hS : va_S A H0 H locs) (hA : ∀ z, H0.size ≤ z → A z) : ∀ z, va_A ws H.size z → A z := by
  intro z h
  rcases h with ⟨k, e, hk⟩ | h
  · exact hD.2 k _ hk
  · exact hA z (Nat.le_trans hS.1 h)
/-- a constructor that is handed the whole world -/
theorem ct_i {B : State → Prop} (S : CallFix p m c cc nL s args Ts own) (hM : Met l y wsy rm (va_Pc (.ref a :: As) (fun U => U.heap.size = H.size ∧ va_P D cl ws U.heap ∧ va_K D cl tys U ∧ va_D (fun _ => True) ws)) (va_Qv (fun (_ : Unit) => True) (fun _ t => B t) (va_A ws H.size)) mc ms (va_A ws H.size)) (cw : CallB R s args own index y bytes maxL none wsy rm mc ms n ∧ y.name = "<init>" ∧ (Cond.instanceMethod y).before args s = true) (hK : va_K D cl tys s) (hP : va_P D cl ws H) (hD : va_D A ws) (hS : va_S A s.heap H locs) (hA : ∀ z, s.heap.size ≤ z → A z) (hst : st0 = As.reverse ++ .ref a :: rest) (hn : As.length = n) (hsz : ls.size = nL) (hW : (rest.map fun v => v.category).sum ≤ 8) (hdg : decode cc pc = .ok (.invokespecial index, 3)) (hf : cells + mc ≤ R.cells ∧ slots + ms ≤ R.slots) (kk : ∀ (t1 : State) (H1 : Heap) (locs1 : List Loc), t1.heap = H1 → B t1 → va_S A s.heap H1 locs1 → W p l e R s m args below meth c H1 locs1 (cells + mc) (slots + ms) Q (F0 m (pc + 3) ls rest)) : W p l e R s m args below meth c H locs cells slots Q (F0 m pc ls st0) := by
  subst hst
  have hFc := fr_all hD hS hA
  refine va_callv (va_runI (As := As) (rest := rest) S hM cw ⟨fun a U g mk q => by obtain ⟨q0, q1, qP, qK, qD⟩ := q; exact ⟨q0, q1, qP, va_K.moved (u := U) (U := U.calling g mk a) (Vm.Alike.refl U.vm) qK, qD⟩, fun U hU hW => ⟨rfl, by rw [hU], by rw [hU]; exact hP, va_K.moved hW.alike hK, hD.weaken (fun _ _ _ _ => trivial)⟩⟩ rfl hn hsz rfl (lv_room hW) hdg hf) hS (fun z _ h => hFc z h) hFc (fun u t H1 locs ht hvm hw hB hz1 hk1 hS => ?_)
  exact kk t H1 locs ht hB hS
/-- the same where the constructor makes an array of an own class -/
theorem ct_ia {B : State → Prop} {CA : String} (S : CallFix p m c cc nL s args Ts own) (hM : Met l y wsy rm (va_Pc (.ref a :: As) (fun U => U.heap.size = H.size ∧ va_P D cl ws U.heap ∧ va_K D cl tys U ∧ va_D (fun _ => True) ws ∧ va_AO CA U)) (va_Qv (fun (_ : Unit) => True) (fun _ t => B t) (va_A ws H.size)) mc ms (va_A ws H.size)) (cw : CallB R s args own index y bytes maxL none wsy rm mc ms n ∧ y.name = "<init>" ∧ (Cond.instanceMethod y).before args s = true) (hAO : va_AO CA s) (hK : va_K D cl tys s) (hP : va_P D cl ws H) (hD : va_D A ws) (hS : va_S A s.heap H locs) (hA : ∀ z, s.heap.size ≤ z → A z) (hst : st0 = As.reverse ++ .ref a :: rest) (hn : As.length = n) (hsz : ls.size = nL) (hW : (rest.map fun v => v.category).sum ≤ 8) (hdg : decode cc pc = .ok (.invokespecial index, 3)) (hf : cells + mc ≤ R.cells ∧ slots + ms ≤ R.slots) (kk : ∀ (t1 : State) (H1 : Heap) (locs1 : List Loc), t1.heap = H1 → B t1 → va_S A s.heap H1 locs1 → W p l e R s m args below meth c H1 locs1 (cells + mc) (slots + ms) Q (F0 m (pc + 3) ls rest)) : W p l e R s m args below meth c H locs cells slots Q (F0 m pc ls st0) := by
  subst hst
  have hFc := fr_all hD hS hA
  refine va_callv (va_runI (As := As) (rest := rest) S hM cw ⟨fun a U g mk q => by obtain ⟨q0, q1, qP, qK, qD, qA⟩ := q; exact ⟨q0, q1, qP, va_K.moved (u := U) (U := U.calling g mk a) (Vm.Alike.refl U.vm) qK, qD, va_AO.moved (u := U) (U := U.calling g mk a) (Vm.Alike.refl U.vm) qA⟩, fun U hU hW => ⟨rfl, by rw [hU], by rw [hU]; exact hP, va_K.moved hW.alike hK, hD.weaken (fun _ _ _ _ => trivial), va_AO.moved hW.alike hAO⟩⟩ rfl hn hsz rfl (lv_room hW) hdg hf) hS (fun z _ h => hFc z h) hFc (fun u t H1 locs ht hvm hw hB hz1 hk1 hS => ?_)
  exact kk t H1 locs ht hB hS
/-- a call of an own method with an int for answer that is handed the whole world -/
theorem ct_s {S0 : Type} {post : Int32 → S0 → Prop} {B : S0 → State → Prop} (S : CallFix p m c cc nL s args Ts own) (hM : Met l y wsy rm (va_Pc (.ref a :: As) (fun U => U.heap.size = H.size ∧ va_P D cl ws U.heap ∧ va_K D cl tys U ∧ va_D (fun _ => True) ws)) (va_Qi post (fun u t => B u t) (va_A ws H.size)) mc ms (va_A ws H.size)) (cw : CallW R s args own C index y bytes maxL ret wsy rm mc ms n) (hK : va_K D cl tys s) (hP : va_P D cl ws H) (hD : va_D A ws) (hS : va_S A s.heap H locs) (hA : ∀ z, s.heap.size ≤ z → A z) (hc : cl[ci]? = some (C, T, N)) (he : ws[q0]? = some (a, .inr (ci, fs))) (hst : st0 = As.reverse ++ .ref a :: rest) (hn : As.length = n) (hsz : ls.size = nL) (hW : (rest.map fun v => v.category).sum ≤ 8) (hdg : decode cc pc = .ok (.invokevirtual index, 3)) (hf : cells + mc ≤ R.cells ∧ slots + ms ≤ R.slots) (kk : ∀ (r : Int32) (u : S0) (t1 : State) (H1 : Heap) (locs1 : List Loc), t1.heap = H1 → post r u → B u t1 → va_S A s.heap H1 locs1 → W p l e R s m args below meth c H1 locs1 (cells + mc) (slots + ms) Q (F0 m (pc + 3) ls (.int r :: rest))) : W p l e R s m args below meth c H locs cells slots Q (F0 m pc ls st0) := by
  subst hst
  have hFc := fr_all hD hS hA
  refine va_calli (va_runV (As := As) (rest := rest) S hM cw ⟨fun a U g mk q => by obtain ⟨q0, q1, qP, qK, qD⟩ := q; exact ⟨q0, q1, qP, va_K.moved (u := U) (U := U.calling g mk a) (Vm.Alike.refl U.vm) qK, qD⟩, va_recv hK hP hc he, fun U hU hW => ⟨rfl, by rw [hU], by rw [hU]; exact hP, va_K.moved hW.alike hK, hD.weaken (fun _ _ _ _ => trivial)⟩⟩ rfl hn hsz rfl (lv_room hW) hdg hf) hS (fun z _ h => hFc z h) hFc (fun r u t H1 locs ht hvm hw hB hz1 hk1 hS => ?_)
  exact kk r u t H1 locs ht hw hB hS
end TC
set_option maxHeartbeats 4000000 in
set_option maxRecDepth 100000 in
/-- Row(width, items) -/
theorem mX2_init (l : Launch) (dC : Nat → ClassId) (dI : Nat → Nat → Nat) (tys : List (ClassId × FieldType)) (ws : va_W) (k0 h : Nat) (sz : Nat) (wa b : Nat) (hk0 : ws[k0]? = some (h, .inr (2, [.null, .null]))) : Met l yX2_init wsX2_init ({ frames := 1, cells := 0, slots := 0, locals := 12 }) (va_Pc [.ref h, .ref wa, .ref b] (fun U => U.heap.size = sz ∧ va_P (dC, dI) vwCl ws U.heap ∧ va_K (dC, dI) vwCl tys U ∧ va_D (fun _ => True) ws)) (va_Qv (fun (_ : Unit) => True) (fun _ t => va_P (dC, dI) vwCl (ws.set k0 (h, .inr (2, [.ref wa, .ref b]))) t.heap ∧ va_D (va_A ws sz) (ws.set k0 (h, .inr (2, [.ref wa, .ref b])))) (va_A ws sz)) 0 0 (va_A ws sz) := by
  refine Met.ofW (cc := cX2_init) (maxL := 3) (ret := none) (by decide) rfl ?_
  intro p e s m args below meth c s₁ B hml hv
  obtain ⟨rfl, hsz, hP, hK, hD0⟩ := hv
  have hx := B.exec
  have hb := B.bytes
  have hr := B.returns
  have hts := atoms_spec (ws := wsX2_init) B.pre
  have hown : s.vm.findClass RX2 = some m.cls := findClass_of_methodNamed B.named
  have hlocks := B.notSynchronized
  have hin : meth.name = "<init>" := (name_of_methodNamed B.named B.method).1
  subst hsz
  have hD := hD0.self (sz := s.heap.size)
  generalize hAe : va_A ws s.heap.size = A at hD ⊢
  have hS : va_S A s.heap s.heap [] := va_S.rf
  have hl := lv_entry ([.ref h, .ref wa, .ref b]) (n := 3) (Nat.le_of_ble_eq_true rfl)
  rw [lg_entry_eq]
  generalize (lg_sl ([.ref h, .ref wa, .ref b]) ++ List.replicate (3 - (lg_sl ([.ref h, .ref wa, .ref b])).length) Slot.unset).toArray = ls at hl ⊢
  have hl : lv_has ls 3 [(0, .ref h), (1, .ref wa), (2, .ref b)] := hl
  refine lv_aload_n hx hb dX2_init_0 rfl (lv_at hl 0 rfl) ?_
  refine W.objInit hx hb hown (hts (.methodLink RX2 1 objectInit) (by decide +kernel)) (hts (.instanceMethod objectInit) (by decide +kernel)) (hts _ (List.mem_cons_of_mem _ (List.mem_append_left _ (List.mem_of_getElem? (i := 2) rfl)))) rfl (by rw [hml]; exact hl.1) rfl dX2_init_1 (Nat.le_of_ble_eq_true rfl) (Nat.le_of_ble_eq_true rfl) ?_
  refine W.eq (g2 := F0 m 4 ls []) rfl ?_
  refine lv_aload_n hx hb dX2_init_4 rfl (lv_at hl 0 rfl) ?_
  refine lv_aload_n hx hb dX2_init_5 rfl (lv_at hl 1 rfl) ?_
  refine va_putF (D := (dC, dI)) (ci := 2) (v := .ref wa) (ty := .object "TideGauges$Width") (C := RX2) (T := TX2) (N := 2) hx hb hts (by decide +kernel) tyX2 tyX2_ok nmX2 hown hK hP hD hS k0 hk0 rfl 0 (by decide) (hts (.fieldLink RX2 7 "TideGauges$Row" "width" "LTideGauges$Width;") (by decide +kernel)) (fun _ h9 => h9) rfl hin rfl (by decide +kernel) rfl rfl (by decide) dX2_init_6 (fun H locs hP hD hS => ?_)
  refine lv_aload_n hx hb dX2_init_9 rfl (lv_at hl 0 rfl) ?_
  refine lv_aload_n hx hb dX2_init_10 rfl (lv_at hl 2 rfl) ?_
  refine va_putF (D := (dC, dI)) (ci := 2) (v := .ref b) (ty := .array .long) (C := RX2) (T := TX2) (N := 2) hx hb hts (by decide +kernel) tyX2 tyX2_ok nmX2 hown hK hP hD hS k0 (set_at hk0) rfl 1 (by decide) (hts (.fieldLink RX2 13 "TideGauges$Row" "items" "[J") (by decide +kernel)) (fun _ h9 => h9) rfl hin rfl (by decide +kernel) rfl rfl (Nat.le_of_ble_eq_true rfl) dX2_init_11 (fun H locs hP hD hS => ?_)
  rw [List.set_set] at hP hD
  exact W.vret hx hb hr (fun t ht hW => ⟨⟨(), rfl, trivial, by rw [ht]; exact hP, hD⟩, hS.F ht⟩) hS.2.2 dX2_init_14
set_option maxHeartbeats 4000000 in
set_option maxRecDepth 100000 in
/-- Gauge(kind, span) -/
theorem mX0_init (l : Launch) (dC : Nat → ClassId) (dI : Nat → Nat → Nat) (tys : List (ClassId × FieldType)) (ws : va_W) (k0 h : Nat) (sz : Nat) (k : Int32) (x : Int64) (hk0 : ws[k0]? = some (h, .inr (0, [.int 0, .long 0]))) : Met l yX0_init wsX0_init ({ frames := 1, cells := 0, slots := 0, locals := 12 }) (va_Pc [.ref h, .int k, .long x] (fun U => U.heap.size = sz ∧ va_P (dC, dI) vwCl ws U.heap ∧ va_K (dC, dI) vwCl tys U ∧ va_D (fun _ => True) ws)) (va_Qv (fun (_ : Unit) => True) (fun _ t => va_P (dC, dI) vwCl (ws.set k0 (h, .inr (0, [.int k, .long x]))) t.heap ∧ va_D (va_A ws sz) (ws.set k0 (h, .inr (0, [.int k, .long x])))) (va_A ws sz)) 0 0 (va_A ws sz) := by
  refine Met.ofW (cc := cX0_init) (maxL := 4) (ret := none) (by decide) rfl ?_
  intro p e s m args below meth c s₁ B hml hv
  obtain ⟨rfl, hsz, hP, hK, hD0⟩ := hv
  have hx := B.exec
  have hb := B.bytes
  have hr := B.returns
  have hts := atoms_spec (ws := wsX0_init) B.pre
  have hown : s.vm.findClass RX0 = some m.cls := findClass_of_methodNamed B.named
  have hlocks := B.notSynchronized
  have hin : meth.name = "<init>" := (name_of_methodNamed B.named B.method).1
  subst hsz
  have hD := hD0.self (sz := s.heap.size)
  generalize hAe : va_A ws s.heap.size = A at hD ⊢
  have hS : va_S A s.heap s.heap [] := va_S.rf
  have hl := lv_entry ([.ref h, .int k, .long x]) (n := 4) (Nat.le_of_ble_eq_true rfl)
  rw [lg_entry_eq]
  generalize (lg_sl ([.ref h, .int k, .long x]) ++ List.replicate (4 - (lg_sl ([.ref h, .int k, .long x])).length) Slot.unset).toArray = ls at hl ⊢
  have hl : lv_has ls 4 [(0, .ref h), (1, .int k), (2, .long x)] := hl
  refine lv_aload_n hx hb dX0_init_0 rfl (lv_at hl 0 rfl) ?_
  refine W.objInit hx hb hown (hts (.methodLink RX0 3 objectInit) (by decide +kernel)) (hts (.instanceMethod objectInit) (by decide +kernel)) (hts _ (List.mem_cons_of_mem _ (List.mem_append_left _ (List.mem_of_getElem? (i := 2) rfl)))) rfl (by rw [hml]; exact hl.1) rfl dX0_init_1 (Nat.le_of_ble_eq_true rfl) (Nat.le_of_ble_eq_true rfl) ?_
  refine W.eq (g2 := F0 m 4 ls []) rfl ?_
  refine lv_aload_n hx hb dX0_init_4 rfl (lv_at hl 0 rfl) ?_
  refine lv_iload_n hx hb dX0_init_5 rfl (lv_at hl 1 rfl) ?_
  refine va_putF (D := (dC, dI)) (ci := 0) (v := .int k) (ty := .int) (C := RX0) (T := TX0) (N := 2) hx hb hts (by decide +kernel) tyX0 tyX0_ok nmX0 hown hK hP hD hS k0 hk0 rfl 0 (by decide) (hts (.fieldLink RX0 9 "TideGauges$Gauge" "kind" "I") (by decide +kernel)) (fun _ h9 => h9) rfl hin rfl (by decide +kernel) rfl rfl (by decide) dX0_init_6 (fun H locs hP hD hS => ?_)
  refine lv_aload_n hx hb dX0_init_9 rfl (lv_at hl 0 rfl) ?_
  refine lv_lload_n hx hb dX0_init_10 rfl (lv_at hl 2 rfl) ?_
  refine va_putF (D := (dC, dI)) (ci := 0) (v := .long x) (ty := .long) (C := RX0) (T := TX0) (N := 2) hx hb hts (by decide +kernel) tyX0 tyX0_ok nmX0 hown hK hP hD hS k0 (set_at hk0) rfl 1 (by decide) (hts (.fieldLink RX0 15 "TideGauges$Gauge" "span" "J") (by decide +kernel)) (fun _ h9 => h9) rfl hin rfl (by decide +kernel) rfl rfl (Nat.le_of_ble_eq_true rfl) dX0_init_11 (fun H locs hP hD hS => ?_)
  rw [List.set_set] at hP hD
  exact W.vret hx hb hr (fun t ht hW => ⟨⟨(), rfl, trivial, by rw [ht]; exact hP, hD⟩, hS.F ht⟩) hS.2.2 dX0_init_14
set_option maxHeartbeats 4000000 in
set_option maxRecDepth 100000 in
/-- Rack(kind): its hooks are made here -/
theorem mX1_init (l : Launch) (dC : Nat → ClassId) (dI : Nat → Nat → Nat) (cJ cG cK cR cI cZ cD : ClassId) (ws : va_W) (k0 h : Nat) (sz : Nat) (k : Int32) (hk0 : ws[k0]? = some (h, .inr (1, [.int 0, .null]))) : Met l yX1_init wsX1_init ({ frames := 1, cells := 1, slots := 4, locals := 12 }) (va_Pc [.ref h, .int k] (fun U => U.heap.size = sz ∧ va_P (dC, dI) vwCl ws U.heap ∧ va_K (dC, dI) vwCl (tys0 cJ cG cK cR cI cZ cD) U ∧ va_D (fun _ => True) ws ∧ va_AO "TideGauges$Gauge" U)) (va_Qv (fun (_ : Unit) => True) (fun _ t => ∃ b, va_P (dC, dI) vwCl ((ws ++ ([(b, Sum.inl (cG, 4, .inr (.inr (.inr (.inr (fun _ => none))))))] : va_W)).set k0 (h, .inr (1, [.int k, .ref b]))) t.heap ∧ va_D (va_A ws sz) ((ws ++ ([(b, Sum.inl (cG, 4, .inr (.inr (.inr (.inr (fun _ => none))))))] : va_W)).set k0 (h, .inr (1, [.int k, .ref b])))) (va_A ws sz)) 1 4 (va_A ws sz) := by
  refine Met.ofW (cc := cX1_init) (maxL := 2) (ret := none) (by decide) rfl ?_
  intro p e s m args below meth c s₁ B hml hv
  obtain ⟨rfl, hsz, hP, hK, hD0, hAO⟩ := hv
  have hx := B.exec
  have hb := B.bytes
  have hr := B.returns
  have hts := atoms_spec (ws := wsX1_init) B.pre
  have hown : s.vm.findClass RX1 = some m.cls := findClass_of_methodNamed B.named
  have hlocks := B.notSynchronized
  have hin : meth.name = "<init>" := (name_of_methodNamed B.named B.method).1
  subst hsz
  have hD := hD0.self (sz := s.heap.size)
  generalize hAe : va_A ws s.heap.size = A at hD ⊢
  have hA : ∀ z : Nat, s.heap.size ≤ z → A z := fun z h => by rw [← hAe]; exact Or.inr h
  have hS : va_S A s.heap s.heap [] := va_S.rf
  have hl := lv_entry ([.ref h, .int k]) (n := 2) (Nat.le_of_ble_eq_true rfl)
  rw [lg_entry_eq]
  generalize (lg_sl ([.ref h, .int k]) ++ List.replicate (2 - (lg_sl ([.ref h, .int k])).length) Slot.unset).toArray = ls at hl ⊢
  have hl : lv_has ls 2 [(0, .ref h), (1, .int k)] := hl
  refine lv_aload_n hx hb dX1_init_0 rfl (lv_at hl 0 rfl) ?_
  refine W.objInit hx hb hown (hts (.methodLink RX1 3 objectInit) (by decide +kernel)) (hts (.instanceMethod objectInit) (by decide +kernel)) (hts _ (by decide +kernel)) rfl (by rw [hml]; exact hl.1) rfl dX1_init_1 (Nat.le_of_ble_eq_true rfl) (Nat.le_of_ble_eq_true rfl) ?_
  refine W.eq (g2 := F0 m 4 ls []) rfl ?_
  refine lv_aload_n hx hb dX1_init_4 rfl (lv_at hl 0 rfl) ?_
  refine lv_iconst (v := 4) hx hb dX1_init_5 (by decide) ?_
  refine va_newq (N' := 4) hx hb hown (hts (.classLink RX1 9 RX0) (by decide +kernel)) hAO hK hP hD hS hA (by decide) (by decide) (by decide) (Nat.le_of_ble_eq_true rfl) (Nat.le_of_ble_eq_true rfl) dX1_init_6 (fun b cB H hK1 hP hD hS => ?_)
  obtain rfl : cG = cB := same_cA hK1 (t0 := 1) rfl
  have hk1 : (ws ++ ([(b, Sum.inl (cG, 4, .inr (.inr (.inr (.inr (fun _ => none))))))] : va_W))[k0]? = some (h, .inr (1, [.int 0, .null])) := by rw [List.getElem?_append_left (List.getElem?_eq_some_iff.mp hk0).1]; exact hk0
  refine va_putF (D := (dC, dI)) (ci := 1) (v := .ref b) (ty := .array (.object "TideGauges$Gauge")) (C := RX1) (T := TX1) (N := 2) hx hb hts (by decide +kernel) tyX1 tyX1_ok nmX1 hown hK hP hD hS k0 hk1 rfl 1 (by decide) (hts (.fieldLink RX1 11 "TideGauges$Rack" "hooks" "[LTideGauges$Gauge;") (by decide +kernel)) (fun _ h9 => h9) rfl hin rfl (by decide +kernel) rfl rfl (by decide) dX1_init_9 (fun H locs hP hD hS => ?_)
  refine lv_aload_n hx hb dX1_init_12 rfl (lv_at hl 0 rfl) ?_
  refine lv_iload_n hx hb dX1_init_13 rfl (lv_at hl 1 rfl) ?_
  refine va_putF (D := (dC, dI)) (ci := 1) (v := .int k) (ty := .int) (C := RX1) (T := TX1) (N := 2) hx hb hts (by decide +kernel) tyX1 tyX1_ok nmX1 hown hK hP hD hS k0 (set_at hk1) rfl 0 (by decide) (hts (.fieldLink RX1 17 "TideGauges$Rack" "kind" "I") (by decide +kernel)) (fun _ h9 => h9) rfl hin rfl (by decide +kernel) rfl rfl (Nat.le_of_ble_eq_true rfl) dX1_init_14 (fun H locs hP hD hS => ?_)
  rw [List.set_set] at hP hD
  refine W.widen (k := 1) (n := 4) (by omega) (by omega) ?_
  exact W.vret hx hb hr (fun t ht hW => ⟨⟨(), rfl, trivial, b, by rw [ht]; exact hP, hD⟩, hS.F ht⟩) hS.2.2 dX1_init_17
