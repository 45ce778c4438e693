/-- two worlds share no cell -/
def dis (u v : va_W) : Prop := ∀ (i j : Nat) (p q : Nat × va_E), u[i]? = some p → v[j]? = some q → p.1 ≠ q.1
/-- the class's object at h1 holds σ, the reference's at h2 holds τ -/
def LW (dC : Nat → ClassId) (dI : Nat → Nat → Nat) (ad : Nat → Nat) (cJ cG cK cR cI cZ cD : ClassId) (A : Nat → Prop) (h1 h2 : Nat) (σ τ : St) (H : Heap) : Prop :=
  ∃ (q : Aq) (fr fg fk : Nat → Option Nat) (L : List Nat) (f : Nat → va_E) (ra rb ka kb : Nat → Nat) (hf : Nat → Nat → Option Nat) (qm : Ad), q.1 = h1 ∧ qm.1 = h2 ∧ va_P (dC, dI) vwCl (TWs q cG cK cR fr fg fk (zTo σ) L f) H ∧ va_D A (TWs q cG cK cR fr fg fk (zTo σ) L f) ∧ TRel ad cJ cG fr fg fk L f ra rb ka kb hf σ ∧ va_P (dC, dI) vwCl (MWs qm cJ cI cZ cD τ) H ∧ va_D A (MWs qm cJ cI cZ cD τ) ∧ dis (TWs q cG cK cR fr fg fk (zTo σ) L f) (MWs qm cJ cI cZ cD τ)
theorem va_P_lt {D : va_G} {cl : List vw_C} {ws : va_W} {H : Heap} (hP : va_P D cl ws H) {k : Nat} {q : Nat × va_E} (hk : ws[k]? = some q) : q.1 < H.size := (hP k q hk).lt
/-- what a call of one writes is not of the other -/
theorem dis_kept {D : va_G} {cl : List vw_C} {u v : va_W} {H H1 : Heap} (hv : va_P D cl v H) (hd : dis u v) (hk : ∀ q : Nat, q < H.size → ¬ va_A u H.size q → H1[q]? = H[q]?) : va_P D cl v H1 := by
  refine hv.kept (fun k x hx => ?_)
  refine hk x.1 (va_P_lt hv hx) (fun h => ?_)
  rcases h with ⟨i, e, hi⟩ | h
  · exact hd i k _ x hi hx rfl
  · exact absurd (va_P_lt hv hx) (Nat.not_lt.mpr h)
theorem dis_next {D : va_G} {cl : List vw_C} {u u' v : va_W} {H : Heap} (hv : va_P D cl v H) (hd : dis u v) (hu : va_D (va_A u H.size) u') : dis u' v := by
  intro i j p q hp hq e
  rcases hu.2 i p hp with ⟨k, e2, hk⟩ | h
  · exact hd k j _ q hk hq e
  · rw [e] at h; exact absurd (va_P_lt hv hq) (Nat.not_lt.mpr h)
theorem dis_symm {u v : va_W} (h : dis u v) : dis v u := fun i j p q hp hq e => h j i q p hq hp e.symm
section LC
variable {p : Program} {l : Launch} {e : Env} {R : Room} {s : State} {m : MethodId} {args : Array Value} {below : List Frame} {meth : Method} {c : Code} {H : Heap} {locs : List Loc} {cells slots : Nat} {Q : State → Prop}
variable {cc : ByteArray} {pc : Nat} {ls : Array Slot} {rest : List Value} {A : Nat → Prop} {own : String} {index : Nat} {Ts : List Cond} {n maxL nL mc ms : Nat} {y : MethodName} {bytes : ByteArray} {ret : Option FieldType} {wsy : List Cond} {rm : Room} {As st0 : List Value}
variable {dC : Nat → ClassId} {dI : Nat → Nat → Nat} {ad : Nat → Nat} {cJ cG cK cR cI cZ cD : ClassId} {h1 h2 : Nat} {σ τ : St} {oo : Int32 × St} {v : Value}
/-- a call of the class's own that changes its state -/
theorem lc_T (S : CallFix p m c cc nL s args Ts own) (hM : ∀ (q : Aq) (fr fg fk : Nat → Option Nat) (L : List Nat) (f : Nat → va_E) (ra rb ka kb : Nat → Nat) (hf : Nat → Nat → Option Nat) (_ : TRel ad cJ cG fr fg fk L f ra rb ka kb hf σ) (sz : Nat), Met l y wsy rm (va_Pc (.ref q.1 :: As) (fun U => U.heap.size = sz ∧ va_P (dC, dI) vwCl (TWs q cG cK cR fr fg fk (zTo σ) L f) U.heap ∧ va_K (dC, dI) vwCl (tys0 cJ cG cK cR cI cZ cD) U ∧ va_D (fun _ => True) (TWs q cG cK cR fr fg fk (zTo σ) L f) ∧ EN ad (va_A (TWs q cG cK cR fr fg fk (zTo σ) L f) sz) U U.heap)) (va_Qi (fun (r : Int32) (τ : St) => (r, τ) = oo) (fun τ t => TP dC dI ad cJ cG cK cR (va_A (TWs q cG cK cR fr fg fk (zTo σ) L f) sz) q.1 τ t) (va_A (TWs q cG cK cR fr fg fk (zTo σ) L f) sz)) mc ms (va_A (TWs q cG cK cR fr fg fk (zTo σ) L f) sz)) (cw : CallW R s args own "TideGauges" index y bytes maxL ret wsy rm mc ms n) (hK : va_K (dC, dI) vwCl (tys0 cJ cG cK cR cI cZ cD) s) (hE : EN ad A s s.heap) (hL : LW dC dI ad cJ cG cK cR cI cZ cD A h1 h2 σ τ H) (hS : va_S A s.heap H locs) (hA : ∀ z, s.heap.size ≤ z → A z) (hst : st0 = As.reverse ++ .ref h1 :: rest) (hn : As.length = n) (hsz : ls.size = nL) (hW : (rest.map fun v => v.category).sum ≤ 8) (hdg : decode cc pc = .ok (.invokevirtual index, 3)) (hf : cells + mc ≤ R.cells ∧ slots + ms ≤ R.slots) (kk : ∀ (H1 : Heap) (locs1 : List Loc), LW dC dI ad cJ cG cK cR cI cZ cD A h1 h2 oo.2 τ H1 → va_S A s.heap H1 locs1 → W p l e R s m args below meth c H1 locs1 (cells + mc) (slots + ms) Q (F0 m (pc + 3) ls (.int oo.1 :: rest))) : W p l e R s m args below meth c H locs cells slots Q (F0 m pc ls st0) := by
  subst hst
  obtain ⟨q, fr, fg, fk, L, f, ra, rb, ka, kb, hff, qm, rfl, rfl, hP, hD, hR, hPm, hDm, hd⟩ := hL
  have hFc := fr_all hD hS hA
  refine va_calli (va_runV (As := As) (rest := rest) S (hM q fr fg fk L f ra rb ka kb hff hR H.size) cw ⟨fun a U g mk q => by obtain ⟨q0, q1, qP, qK, qD, qE⟩ := q; exact ⟨q0, q1, qP, va_K.moved (u := U) (U := U.calling g mk a) (Vm.Alike.refl U.vm) qK, qD, qE.moved (Vm.Alike.refl U.vm)⟩, va_recv (ci := 4) (q0 := 0) hK hP rfl rfl, fun U hU hW => ⟨rfl, by rw [hU], by rw [hU]; exact hP, va_K.moved hW.alike hK, hD.weaken (fun _ _ _ _ => trivial), by
    rw [hU]
    exact ((hE.kept (fun a h1 h2 => hS.2.1 a h1 h2)).narrow hFc).moved hW.alike⟩⟩ rfl hn hsz rfl (lv_room hW) hdg hf) hS (fun z _ h => hFc z h) hFc (fun r u t H1 locs ht hvm hw hB hz1 hk1 hS1 => ?_)
  subst hw
  obtain ⟨q', fr', fg', fk', L', f', ra', rb', ka', kb', hf', e1, hP', hD', hR'⟩ := hB
  rw [ht] at hP'
  exact kk H1 locs ⟨q', fr', fg', fk', L', f', ra', rb', ka', kb', hf', qm, e1, rfl, hP', hD'.weaken (fun _ _ _ h => hFc _ h), hR', dis_kept hPm hd hk1, hDm, dis_next hPm hd hD'⟩ hS1
/-- the same, of a method that makes an array of an own class -/
theorem lc_TA {CA : String} (S : CallFix p m c cc nL s args Ts own) (hM : ∀ (q : Aq) (fr fg fk : Nat → Option Nat) (L : List Nat) (f : Nat → va_E) (ra rb ka kb : Nat → Nat) (hf : Nat → Nat → Option Nat) (_ : TRel ad cJ cG fr fg fk L f ra rb ka kb hf σ) (sz : Nat), Met l y wsy rm (va_Pc (.ref q.1 :: As) (fun U => U.heap.size = sz ∧ va_P (dC, dI) vwCl (TWs q cG cK cR fr fg fk (zTo σ) L f) U.heap ∧ va_K (dC, dI) vwCl (tys0 cJ cG cK cR cI cZ cD) U ∧ va_D (fun _ => True) (TWs q cG cK cR fr fg fk (zTo σ) L f) ∧ EN ad (va_A (TWs q cG cK cR fr fg fk (zTo σ) L f) sz) U U.heap ∧ va_AO CA U)) (va_Qi (fun (r : Int32) (τ : St) => (r, τ) = oo) (fun τ t => TP dC dI ad cJ cG cK cR (va_A (TWs q cG cK cR fr fg fk (zTo σ) L f) sz) q.1 τ t) (va_A (TWs q cG cK cR fr fg fk (zTo σ) L f) sz)) mc ms (va_A (TWs q cG cK cR fr fg fk (zTo σ) L f) sz)) (cw : CallW R s args own "TideGauges" index y bytes maxL ret wsy rm mc ms n) (hAO : va_AO CA s) (hK : va_K (dC, dI) vwCl (tys0 cJ cG cK cR cI cZ cD) s) (hE : EN ad A s s.heap) (hL : LW dC dI ad cJ cG cK cR cI cZ cD A h1 h2 σ τ H) (hS : va_S A s.heap H locs) (hA : ∀ z, s.heap.size ≤ z → A z) (hst : st0 = As.reverse ++ .ref h1 :: rest) (hn : As.length = n) (hsz : ls.size = nL) (hW : (rest.map fun v => v.category).sum ≤ 8) (hdg : decode cc pc = .ok (.invokevirtual index, 3)) (hf : cells + mc ≤ R.cells ∧ slots + ms ≤ R.slots) (kk : ∀ (H1 : Heap) (locs1 : List Loc), LW dC dI ad cJ cG cK cR cI cZ cD A h1 h2 oo.2 τ H1 → va_S A s.heap H1 locs1 → W p l e R s m args below meth c H1 locs1 (cells + mc) (slots + ms) Q (F0 m (pc + 3) ls (.int oo.1 :: rest))) : W p l e R s m args below meth c H locs cells slots Q (F0 m pc ls st0) := by
  subst hst
  obtain ⟨q, fr, fg, fk, L, f, ra, rb, ka, kb, hff, qm, rfl, rfl, hP, hD, hR, hPm, hDm, hd⟩ := hL
  have hFc := fr_all hD hS hA
  refine va_calli (va_runV (As := As) (rest := rest) S (hM q fr fg fk L f ra rb ka kb hff hR H.size) cw ⟨fun a U g mk q => by obtain ⟨q0, q1, qP, qK, qD, qE, qA⟩ := q; exact ⟨q0, q1, qP, va_K.moved (u := U) (U := U.calling g mk a) (Vm.Alike.refl U.vm) qK, qD, qE.moved (Vm.Alike.refl U.vm), va_AO.moved (u := U) (U := U.calling g mk a) (Vm.Alike.refl U.vm) qA⟩, va_recv (ci := 4) (q0 := 0) hK hP rfl rfl, fun U hU hW => ⟨rfl, by rw [hU], by rw [hU]; exact hP, va_K.moved hW.alike hK, hD.weaken (fun _ _ _ _ => trivial), by
    rw [hU]
    exact ((hE.kept (fun a h1 h2 => hS.2.1 a h1 h2)).narrow hFc).moved hW.alike, va_AO.moved hW.alike hAO⟩⟩ rfl hn hsz rfl (lv_room hW) hdg hf) hS (fun z _ h => hFc z h) hFc (fun r u t H1 locs ht hvm hw hB hz1 hk1 hS1 => ?_)
  subst hw
  obtain ⟨q', fr', fg', fk', L', f', ra', rb', ka', kb', hf', e1, hP', hD', hR'⟩ := hB
  rw [ht] at hP'
  exact kk H1 locs ⟨q', fr', fg', fk', L', f', ra', rb', ka', kb', hf', qm, e1, rfl, hP', hD'.weaken (fun _ _ _ h => hFc _ h), hR', dis_kept hPm hd hk1, hDm, dis_next hPm hd hD'⟩ hS1
/-- a call of the reference's own that changes its state -/
theorem lc_M (S : CallFix p m c cc nL s args Ts own) (hM : ∀ (q : Ad) (sz : Nat), Met l y wsy rm (va_Pc (.ref q.1 :: As) (fun U => U.heap.size = sz ∧ va_P (dC, dI) vwCl (MWs q cJ cI cZ cD τ) U.heap ∧ va_K (dC, dI) vwCl (tys0 cJ cG cK cR cI cZ cD) U ∧ va_D (fun _ => True) (MWs q cJ cI cZ cD τ))) (va_Qi (fun (r : Int32) (υ : St) => (r, υ) = oo) (fun υ t => va_P (dC, dI) vwCl (MWs q cJ cI cZ cD υ) t.heap ∧ va_D (va_A (MWs q cJ cI cZ cD τ) sz) (MWs q cJ cI cZ cD υ)) (va_A (MWs q cJ cI cZ cD τ) sz)) 0 0 (va_A (MWs q cJ cI cZ cD τ) sz)) (cw : CallW R s args own "TideGaugesModel" index y bytes maxL ret wsy rm 0 0 n) (hK : va_K (dC, dI) vwCl (tys0 cJ cG cK cR cI cZ cD) s) (hL : LW dC dI ad cJ cG cK cR cI cZ cD A h1 h2 σ τ H) (hS : va_S A s.heap H locs) (hA : ∀ z, s.heap.size ≤ z → A z) (hst : st0 = As.reverse ++ .ref h2 :: rest) (hn : As.length = n) (hsz : ls.size = nL) (hW : (rest.map fun v => v.category).sum ≤ 8) (hdg : decode cc pc = .ok (.invokevirtual index, 3)) (hf : cells ≤ R.cells ∧ slots ≤ R.slots) (kk : ∀ (H1 : Heap) (locs1 : List Loc), LW dC dI ad cJ cG cK cR cI cZ cD A h1 h2 σ oo.2 H1 → va_S A s.heap H1 locs1 → W p l e R s m args below meth c H1 locs1 cells slots Q (F0 m (pc + 3) ls (.int oo.1 :: rest))) : W p l e R s m args below meth c H locs cells slots Q (F0 m pc ls st0) := by
  subst hst
  obtain ⟨q, fr, fg, fk, L, f, ra, rb, ka, kb, hff, qm, rfl, rfl, hP, hD, hR, hPm, hDm, hd⟩ := hL
  have hFc := fr_all hDm hS hA
  refine va_calli (va_runV (As := As) (rest := rest) S (hM qm H.size) cw ⟨fun a U g mk q => by obtain ⟨q0, q1, qP, qK, qD⟩ := q; exact ⟨q0, q1, qP, va_K.moved (u := U) (U := U.calling g mk a) (Vm.Alike.refl U.vm) qK, qD⟩, va_recv (ci := 5) (q0 := 0) hK hPm rfl rfl, fun U hU hW => ⟨rfl, by rw [hU], by rw [hU]; exact hPm, va_K.moved hW.alike hK, hDm.weaken (fun _ _ _ _ => trivial)⟩⟩ rfl hn hsz rfl (lv_room hW) hdg hf) hS (fun z _ h => hFc z h) hFc (fun r u t H1 locs ht hvm hw hB hz1 hk1 hS1 => ?_)
  subst hw
  rw [ht] at hB
  exact kk H1 locs ⟨q, fr, fg, fk, L, f, ra, rb, ka, kb, hff, qm, rfl, rfl, dis_kept hP (dis_symm hd) hk1, hD, hR, hB.1, hB.2.weaken (fun _ _ _ h => hFc _ h), dis_symm (dis_next hP (dis_symm hd) hB.2)⟩ hS1
/-- a call of the class's own that only answers -/
theorem lc_Tp (S : CallFix p m c cc nL s args Ts own) (hM : ∀ (q : Aq) (fr fg fk : Nat → Option Nat) (L : List Nat) (f : Nat → va_E) (ra rb ka kb : Nat → Nat) (hf : Nat → Nat → Option Nat) (_ : TRel ad cJ cG fr fg fk L f ra rb ka kb hf σ), Met l y wsy rm (va_Pc (.ref q.1 :: As) (fun U => va_P (dC, dI) vwCl (TWs q cG cK cR fr fg fk (zTo σ) L f) U.heap ∧ va_K (dC, dI) vwCl (tys0 cJ cG cK cR cI cZ cD) U ∧ EN ad (fun _ => False) U U.heap)) (pQ v) 0 0 (fun _ => False)) (cw : CallW R s args own "TideGauges" index y bytes maxL ret wsy rm 0 0 n) (hK : va_K (dC, dI) vwCl (tys0 cJ cG cK cR cI cZ cD) s) (hE : EN ad A s s.heap) (hL : LW dC dI ad cJ cG cK cR cI cZ cD A h1 h2 σ τ H) (hS : va_S A s.heap H locs) (hst : st0 = As.reverse ++ .ref h1 :: rest) (hn : As.length = n) (hsz : ls.size = nL) (hW : (rest.map fun v => v.category).sum ≤ 8) (hdg : decode cc pc = .ok (.invokevirtual index, 3)) (hf : cells ≤ R.cells ∧ slots ≤ R.slots) (kk : W p l e R s m args below meth c H locs cells slots Q (F0 m (pc + 3) ls (v :: rest))) : W p l e R s m args below meth c H locs cells slots Q (F0 m pc ls st0) := by
  obtain ⟨q, fr, fg, fk, L, f, ra, rb, ka, kb, hff, qm, rfl, rfl, hP, hD, hR, hPm, hDm, hd⟩ := hL
  exact ct_w (ci := 4) (q0 := 0) S (hM q fr fg fk L f ra rb ka kb hff hR) cw hK hP hE hS rfl rfl hst hn hsz hW hdg hf.1 hf.2 kk
/-- a call of the reference's own that only answers -/
theorem lc_Mp (S : CallFix p m c cc nL s args Ts own) (hM : ∀ q : Ad, Met l y wsy rm (va_Pc (.ref q.1 :: As) (fun U => va_P (dC, dI) vwCl (MWs q cJ cI cZ cD τ) U.heap ∧ va_K (dC, dI) vwCl (tys0 cJ cG cK cR cI cZ cD) U)) (pQ v) 0 0 (fun _ => False)) (cw : CallW R s args own "TideGaugesModel" index y bytes maxL ret wsy rm 0 0 n) (hK : va_K (dC, dI) vwCl (tys0 cJ cG cK cR cI cZ cD) s) (hL : LW dC dI ad cJ cG cK cR cI cZ cD A h1 h2 σ τ H) (hst : st0 = As.reverse ++ .ref h2 :: rest) (hn : As.length = n) (hsz : ls.size = nL) (hW : (rest.map fun v => v.category).sum ≤ 8) (hdg : decode cc pc = .ok (.invokevirtual index, 3)) (hf : cells ≤ R.cells ∧ slots ≤ R.slots) (kk : W p l e R s m args below meth c H locs cells slots Q (F0 m (pc + 3) ls (v :: rest))) : W p l e R s m args below meth c H locs cells slots Q (F0 m pc ls st0) := by
  obtain ⟨q, fr, fg, fk, L, f, ra, rb, ka, kb, hff, qm, rfl, rfl, hP, hD, hR, hPm, hDm, hd⟩ := hL
  exact cm_w (ci := 5) (q0 := 0) S (hM qm) cw hK hPm rfl rfl hst hn hsz hW hdg hf.1 hf.2 kk
end LC
section LK
variable {s : State} {args : Array Value}
theorem ac_long (h : (Cond.arrayClass .long).before args s = true) : ∃ cA, ArrOfT s cA .long ∧ va_RA s cA .long := by
  obtain ⟨cA, kA, comp, h1, h2, h3⟩ := Cond.arrayClass_spec h
  exact ⟨cA, fun n z => ⟨fun k h => (by cases h), kA, h2, comp, h3⟩, h1⟩
theorem ac_int (h : (Cond.arrayClass .int).before args s = true) : ∃ cA, ArrOfT s cA .int ∧ va_RA s cA .int := by
  obtain ⟨cA, kA, comp, h1, h2, h3⟩ := Cond.arrayClass_spec h
  exact ⟨cA, fun n z => ⟨fun k h => (by cases h), kA, h2, comp, h3⟩, h1⟩
theorem ac_boolean (h : (Cond.arrayClass .boolean).before args s = true) : ∃ cA, ArrOfT s cA .boolean ∧ va_RA s cA .boolean := by
  obtain ⟨cA, kA, comp, h1, h2, h3⟩ := Cond.arrayClass_spec h
  exact ⟨cA, fun n z => ⟨fun k h => (by cases h), kA, h2, comp, h3⟩, h1⟩
theorem ac_double (h : (Cond.arrayClass .double).before args s = true) : ∃ cA, ArrOfT s cA .double ∧ va_RA s cA .double := by
  obtain ⟨cA, kA, comp, h1, h2, h3⟩ := Cond.arrayClass_spec h
  exact ⟨cA, fun n z => ⟨fun k h => (by cases h), kA, h2, comp, h3⟩, h1⟩
theorem ao_obj {C : String} (h : va_AO C s) : ∃ cA, ArrOfT s cA (.object C) ∧ va_RA s cA (.object C) := by
  obtain ⟨comp, cA, kA, h1, -, h2, h3, h4⟩ := Cond.arrayOver_spec h
  exact ⟨cA, fun n z => ⟨fun k h => (by cases h), kA, h2, comp, h3⟩, kA, comp, h2, h3, h1, h4⟩
end LK
