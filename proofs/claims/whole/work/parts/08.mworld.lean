section XW
variable {p : Program} {l : Launch} {e : Env} {R : Room} {s : State} {m : MethodId} {args : Array Value} {below : List Frame} {meth : Method} {c : Code} {H : Heap} {locs : List Loc} {cells slots : Nat} {Q : State → Prop}
variable {cc : ByteArray} {pc : Nat} {ls : Array Slot} {rest : List Value} {D : va_G} {cl : List vw_C} {A : Nat → Prop} {a : Nat} {tys : List (ClassId × FieldType)} {ws : va_W} {H0 : Heap}
theorem x_iald (hx : p.tables.exec = Jvm.exec) (hb : c.code = cc) (hK : va_K D cl tys s) (hP : va_P D cl ws H) (q0 t0 : Nat) {cA : ClassId} {n : Nat} {f : Nat → Int32} (ha : ws[q0]? = some (a, .inl (cA, n, .inl f))) (ht : tys[t0]? = some (cA, .int)) {i : Int32} {k : Nat} {v : Int32} (hi : i = nI k) (hk : k < n) (hn : n < 2 ^ 31) (hv : f k = v) (hdg : decode cc pc = .ok (.iaload, 1)) (kk : W p l e R s m args below meth c H locs cells slots Q (F0 m (pc + 1) ls (.int v :: rest))) : W p l e R s m args below meth c H locs cells slots Q (F0 m pc ls (.int i :: .ref a :: rest)) := by
  subst hi; subst hv
  refine va_iald hx hb hK hP q0 t0 ha ht (vp_in_nI hk hn) hdg ?_
  rw [nI_clamp (by omega)]; exact kk
theorem x_zald (hx : p.tables.exec = Jvm.exec) (hb : c.code = cc) (hK : va_K D cl tys s) (hP : va_P D cl ws H) (q0 t0 : Nat) {cA : ClassId} {n : Nat} {f : Nat → Int32} (ha : ws[q0]? = some (a, .inl (cA, n, .inl f))) (ht : tys[t0]? = some (cA, .boolean)) {i : Int32} {k : Nat} {v : Int32} (hi : i = nI k) (hk : k < n) (hn : n < 2 ^ 31) (hv : f k = v) (hdg : decode cc pc = .ok (.baload, 1)) (kk : W p l e R s m args below meth c H locs cells slots Q (F0 m (pc + 1) ls (.int v :: rest))) : W p l e R s m args below meth c H locs cells slots Q (F0 m pc ls (.int i :: .ref a :: rest)) := by
  subst hi; subst hv
  refine va_zald hx hb hK hP q0 t0 ha ht (vp_in_nI hk hn) hdg ?_
  rw [nI_clamp (by omega)]; exact kk
theorem x_lald (hx : p.tables.exec = Jvm.exec) (hb : c.code = cc) (hK : va_K D cl tys s) (hP : va_P D cl ws H) (q0 t0 : Nat) {cA : ClassId} {n : Nat} {f : Nat → Int64} (ha : ws[q0]? = some (a, .inl (cA, n, .inr (.inl f)))) (ht : tys[t0]? = some (cA, .long)) {i : Int32} {k : Nat} {v : Int64} (hi : i = nI k) (hk : k < n) (hn : n < 2 ^ 31) (hv : f k = v) (hdg : decode cc pc = .ok (.laload, 1)) (kk : W p l e R s m args below meth c H locs cells slots Q (F0 m (pc + 1) ls (.long v :: rest))) : W p l e R s m args below meth c H locs cells slots Q (F0 m pc ls (.int i :: .ref a :: rest)) := by
  subst hi; subst hv
  refine va_lald hx hb hK hP q0 t0 ha ht (vp_in_nI hk hn) hdg ?_
  rw [nI_clamp (by omega)]; exact kk
theorem x_dald (hx : p.tables.exec = Jvm.exec) (hb : c.code = cc) (hK : va_K D cl tys s) (hP : va_P D cl ws H) (q0 t0 : Nat) {cA : ClassId} {n : Nat} {f : Nat → UInt64} (ha : ws[q0]? = some (a, .inl (cA, n, .inr (.inr (.inr (.inl f)))))) (ht : tys[t0]? = some (cA, .double)) {i : Int32} {k : Nat} {v : UInt64} (hi : i = nI k) (hk : k < n) (hn : n < 2 ^ 31) (hv : f k = v) (hdg : decode cc pc = .ok (.daload, 1)) (kk : W p l e R s m args below meth c H locs cells slots Q (F0 m (pc + 1) ls (.double v :: rest))) : W p l e R s m args below meth c H locs cells slots Q (F0 m pc ls (.int i :: .ref a :: rest)) := by
  subst hi; subst hv
  refine va_dald hx hb hK hP q0 t0 ha ht (vp_in_nI hk hn) hdg ?_
  rw [nI_clamp (by omega)]; exact kk
theorem x_aldq (hx : p.tables.exec = Jvm.exec) (hb : c.code = cc) (hK : va_K D cl tys s) (hP : va_P D cl ws H) (q0 t0 : Nat) {cA : ClassId} {C : String} {n : Nat} {f : Nat → Option Nat} (ha : ws[q0]? = some (a, .inl (cA, n, .inr (.inr (.inr (.inr f)))))) (ht : tys[t0]? = some (cA, .object C)) {i : Int32} {k : Nat} {v : Value} (hi : i = nI k) (hk : k < n) (hn : n < 2 ^ 31) (hv : va_rf (f k) = v) (hdg : decode cc pc = .ok (.aaload, 1)) (kk : W p l e R s m args below meth c H locs cells slots Q (F0 m (pc + 1) ls (v :: rest))) : W p l e R s m args below meth c H locs cells slots Q (F0 m pc ls (.int i :: .ref a :: rest)) := by
  subst hi; subst hv
  refine va_aldq hx hb hK hP q0 t0 ha ht (vp_in_nI hk hn) hdg ?_
  rw [nI_clamp (by omega)]; exact kk
theorem x_iast (hx : p.tables.exec = Jvm.exec) (hb : c.code = cc) (hK : va_K D cl tys s) (hP : va_P D cl ws H) (hD : va_D A ws) (hS : va_S A H0 H locs) (q0 t0 : Nat) {cA : ClassId} {n : Nat} {f : Nat → Int32} (ha : ws[q0]? = some (a, .inl (cA, n, .inl f))) (ht : tys[t0]? = some (cA, .int)) {i : Int32} {x : Int32} {k : Nat} (hi : i = nI k) (hk : k < n) (hn : n < 2 ^ 31) (hdg : decode cc pc = .ok (.iastore, 1)) (kk : ∀ (H1 : Heap) (locs1 : List Loc), va_P D cl (ws.set q0 (a, .inl (cA, n, .inl (upd f k x)))) H1 → va_D A (ws.set q0 (a, .inl (cA, n, .inl (upd f k x)))) → va_S A H0 H1 locs1 → W p l e R s m args below meth c H1 locs1 cells slots Q (F0 m (pc + 1) ls rest)) : W p l e R s m args below meth c H locs cells slots Q (F0 m pc ls (.int x :: .int i :: .ref a :: rest)) := by
  subst hi
  refine va_iast hx hb hK hP hD hS q0 t0 ha ht (vp_in_nI hk hn) hdg (fun H1 l1 h1 h2 h3 => ?_)
  rw [nI_clamp (by omega)] at h1 h2; exact kk H1 l1 h1 h2 h3
theorem x_zast (hx : p.tables.exec = Jvm.exec) (hb : c.code = cc) (hK : va_K D cl tys s) (hP : va_P D cl ws H) (hD : va_D A ws) (hS : va_S A H0 H locs) (q0 t0 : Nat) {cA : ClassId} {n : Nat} {f : Nat → Int32} (ha : ws[q0]? = some (a, .inl (cA, n, .inl f))) (ht : tys[t0]? = some (cA, .boolean)) {i : Int32} {b : Bool} {k : Nat} (hi : i = nI k) (hk : k < n) (hn : n < 2 ^ 31) (hdg : decode cc pc = .ok (.bastore, 1)) (kk : ∀ (H1 : Heap) (locs1 : List Loc), va_P D cl (ws.set q0 (a, .inl (cA, n, .inl (upd f k (b2i b))))) H1 → va_D A (ws.set q0 (a, .inl (cA, n, .inl (upd f k (b2i b))))) → va_S A H0 H1 locs1 → W p l e R s m args below meth c H1 locs1 cells slots Q (F0 m (pc + 1) ls rest)) : W p l e R s m args below meth c H locs cells slots Q (F0 m pc ls (.int (b2i b) :: .int i :: .ref a :: rest)) := by
  subst hi
  refine va_zast hx hb hK hP hD hS q0 t0 ha ht (vp_in_nI hk hn) hdg (fun H1 l1 h1 h2 h3 => ?_)
  have e : vp_nar .boolean (b2i b) = b2i b := by cases b <;> rfl
  rw [nI_clamp (by omega), e] at h1 h2; exact kk H1 l1 h1 h2 h3
theorem x_last (hx : p.tables.exec = Jvm.exec) (hb : c.code = cc) (hK : va_K D cl tys s) (hP : va_P D cl ws H) (hD : va_D A ws) (hS : va_S A H0 H locs) (q0 t0 : Nat) {cA : ClassId} {n : Nat} {f : Nat → Int64} (ha : ws[q0]? = some (a, .inl (cA, n, .inr (.inl f)))) (ht : tys[t0]? = some (cA, .long)) {i : Int32} {x : Int64} {k : Nat} (hi : i = nI k) (hk : k < n) (hn : n < 2 ^ 31) (hdg : decode cc pc = .ok (.lastore, 1)) (kk : ∀ (H1 : Heap) (locs1 : List Loc), va_P D cl (ws.set q0 (a, .inl (cA, n, .inr (.inl (vp_updL f k x))))) H1 → va_D A (ws.set q0 (a, .inl (cA, n, .inr (.inl (vp_updL f k x))))) → va_S A H0 H1 locs1 → W p l e R s m args below meth c H1 locs1 cells slots Q (F0 m (pc + 1) ls rest)) : W p l e R s m args below meth c H locs cells slots Q (F0 m pc ls (.long x :: .int i :: .ref a :: rest)) := by
  subst hi
  refine va_last hx hb hK hP hD hS q0 t0 ha ht (vp_in_nI hk hn) hdg (fun H1 l1 h1 h2 h3 => ?_)
  rw [nI_clamp (by omega)] at h1 h2; exact kk H1 l1 h1 h2 h3
theorem x_dast (hx : p.tables.exec = Jvm.exec) (hb : c.code = cc) (hK : va_K D cl tys s) (hP : va_P D cl ws H) (hD : va_D A ws) (hS : va_S A H0 H locs) (q0 t0 : Nat) {cA : ClassId} {n : Nat} {f : Nat → UInt64} (ha : ws[q0]? = some (a, .inl (cA, n, .inr (.inr (.inr (.inl f)))))) (ht : tys[t0]? = some (cA, .double)) {i : Int32} {x : UInt64} {k : Nat} (hi : i = nI k) (hk : k < n) (hn : n < 2 ^ 31) (hdg : decode cc pc = .ok (.dastore, 1)) (kk : ∀ (H1 : Heap) (locs1 : List Loc), va_P D cl (ws.set q0 (a, .inl (cA, n, .inr (.inr (.inr (.inl (vf_upd f k x))))))) H1 → va_D A (ws.set q0 (a, .inl (cA, n, .inr (.inr (.inr (.inl (vf_upd f k x))))))) → va_S A H0 H1 locs1 → W p l e R s m args below meth c H1 locs1 cells slots Q (F0 m (pc + 1) ls rest)) : W p l e R s m args below meth c H locs cells slots Q (F0 m pc ls (.double x :: .int i :: .ref a :: rest)) := by
  subst hi
  refine va_dast hx hb hK hP hD hS q0 t0 ha ht (vp_in_nI hk hn) hdg (fun H1 l1 h1 h2 h3 => ?_)
  rw [nI_clamp (by omega)] at h1 h2; exact kk H1 l1 h1 h2 h3
theorem x_astq (hx : p.tables.exec = Jvm.exec) (hb : c.code = cc) (hK : va_K D cl tys s) (hP : va_P D cl ws H) (hD : va_D A ws) (hS : va_S A H0 H locs) (q0 t0 qk ci : Nat) {cA : ClassId} {r : vw_C} {n v : Nat} {vs : List Value} {f : Nat → Option Nat} (ha : ws[q0]? = some (a, .inl (cA, n, .inr (.inr (.inr (.inr f)))))) (ht : tys[t0]? = some (cA, .object r.1)) (hv : ws[qk]? = some (v, .inr (ci, vs))) (hc : cl[ci]? = some r) {i : Int32} {k : Nat} (hi : i = nI k) (hk : k < n) (hn : n < 2 ^ 31) (hdg : decode cc pc = .ok (.aastore, 1)) (kk : ∀ (H1 : Heap) (locs1 : List Loc), va_P D cl (ws.set q0 (a, .inl (cA, n, .inr (.inr (.inr (.inr (va_up f k (some v)))))))) H1 → va_D A (ws.set q0 (a, .inl (cA, n, .inr (.inr (.inr (.inr (va_up f k (some v)))))))) → va_S A H0 H1 locs1 → W p l e R s m args below meth c H1 locs1 cells slots Q (F0 m (pc + 1) ls rest)) : W p l e R s m args below meth c H locs cells slots Q (F0 m pc ls (.ref v :: .int i :: .ref a :: rest)) := by
  subst hi
  refine va_astq hx hb hK hP hD hS q0 t0 qk ci ha ht hv hc (vp_in_nI hk hn) hdg (fun H1 l1 h1 h2 h3 => ?_)
  rw [nI_clamp (by omega)] at h1 h2; exact kk H1 l1 h1 h2 h3
theorem x_astqN (hx : p.tables.exec = Jvm.exec) (hb : c.code = cc) (hK : va_K D cl tys s) (hP : va_P D cl ws H) (hD : va_D A ws) (hS : va_S A H0 H locs) (q0 t0 : Nat) {cA : ClassId} {C : String} {n : Nat} {f : Nat → Option Nat} (ha : ws[q0]? = some (a, .inl (cA, n, .inr (.inr (.inr (.inr f)))))) (ht : tys[t0]? = some (cA, .object C)) {i : Int32} {k : Nat} (hi : i = nI k) (hk : k < n) (hn : n < 2 ^ 31) (hdg : decode cc pc = .ok (.aastore, 1)) (kk : ∀ (H1 : Heap) (locs1 : List Loc), va_P D cl (ws.set q0 (a, .inl (cA, n, .inr (.inr (.inr (.inr (va_up f k none))))))) H1 → va_D A (ws.set q0 (a, .inl (cA, n, .inr (.inr (.inr (.inr (va_up f k none))))))) → va_S A H0 H1 locs1 → W p l e R s m args below meth c H1 locs1 cells slots Q (F0 m (pc + 1) ls rest)) : W p l e R s m args below meth c H locs cells slots Q (F0 m pc ls (.null :: .int i :: .ref a :: rest)) := by
  subst hi
  refine va_astqN hx hb hK hP hD hS q0 t0 ha ht (vp_in_nI hk hn) hdg (fun H1 l1 h1 h2 h3 => ?_)
  rw [nI_clamp (by omega)] at h1 h2; exact kk H1 l1 h1 h2 h3
theorem w_dz_ne (hx : p.tables.exec = Jvm.exec) (hb : c.code = cc) {y : UInt64} {off : Int} {tgt : Nat} (h1 : decode cc pc = .ok (.dcmp .l, 1)) (h2 : decode cc (pc + 1) = .ok (.ifCond .ne off, 3)) (ht : ((pc + 1 : Nat) : Int) + off = (tgt : Int)) (kt : ¬ zer y = true → W p l e R s m args below meth c H locs cells slots Q (F0 m tgt ls rest)) (kf : zer y = true → W p l e R s m args below meth c H locs cells slots Q (F0 m (pc + 4) ls rest)) : W p l e R s m args below meth c H locs cells slots Q (F0 m pc ls (.double FP.dconst0 :: .double y :: rest)) :=
  lv_dcmp hx hb h1 (lv_if_ne hx hb h2 ht (fun h => kt (fun q => h (of_decide_eq_true q))) (fun h => kf (decide_eq_true h)))
theorem w_dz_eq (hx : p.tables.exec = Jvm.exec) (hb : c.code = cc) {y : UInt64} {off : Int} {tgt : Nat} (h1 : decode cc pc = .ok (.dcmp .l, 1)) (h2 : decode cc (pc + 1) = .ok (.ifCond .eq off, 3)) (ht : ((pc + 1 : Nat) : Int) + off = (tgt : Int)) (kt : zer y = true → W p l e R s m args below meth c H locs cells slots Q (F0 m tgt ls rest)) (kf : ¬ zer y = true → W p l e R s m args below meth c H locs cells slots Q (F0 m (pc + 4) ls rest)) : W p l e R s m args below meth c H locs cells slots Q (F0 m pc ls (.double FP.dconst0 :: .double y :: rest)) :=
  lv_dcmp hx hb h1 (lv_if_eq hx hb h2 ht (fun h => kt (decide_eq_true h)) (fun h => kf (fun q => h (of_decide_eq_true q))))
theorem w_dn_ge (hx : p.tables.exec = Jvm.exec) (hb : c.code = cc) {y : UInt64} {off : Int} {tgt : Nat} (h1 : decode cc pc = .ok (.dcmp .g, 1)) (h2 : decode cc (pc + 1) = .ok (.ifCond .ge off, 3)) (ht : ((pc + 1 : Nat) : Int) + off = (tgt : Int)) (kt : ¬ neg0 y = true → W p l e R s m args below meth c H locs cells slots Q (F0 m tgt ls rest)) (kf : neg0 y = true → W p l e R s m args below meth c H locs cells slots Q (F0 m (pc + 4) ls rest)) : W p l e R s m args below meth c H locs cells slots Q (F0 m pc ls (.double FP.dconst0 :: .double y :: rest)) :=
  lv_dcmp hx hb h1 (lv_if_ge hx hb h2 ht (fun h => kt (fun q => (of_decide_eq_true q) h)) (fun h => kf (decide_eq_true h)))
variable {n index maxL nL ci q0 : Nat} {y : MethodName} {bytes : ByteArray} {ret : Option FieldType} {wsy Ts : List Cond} {rm : Room} {own C : String} {As st0 : List Value} {v : Value} {T : u_T} {N : Nat} {fs : List Value}
/-- a call of an own method that only answers, and reads the world -/
theorem cm_w (S : CallFix p m c cc nL s args Ts own) (hM : Met l y wsy rm (va_Pc (.ref a :: As) (fun U => va_P D cl ws U.heap ∧ va_K D cl tys U)) (pQ v) 0 0 (fun _ => False)) (cw : CallW R s args own C index y bytes maxL ret wsy rm 0 0 n) (hK : va_K D cl tys s) (hP : va_P D cl ws H) (hc : cl[ci]? = some (C, T, N)) (he : ws[q0]? = some (a, .inr (ci, fs))) (hst : st0 = As.reverse ++ .ref a :: rest) (hn : As.length = n) (hsz : ls.size = nL) (hW : (rest.map fun v => v.category).sum ≤ 8) (hdg : decode cc pc = .ok (.invokevirtual index, 3)) (hcs : cells ≤ R.cells) (hs : slots ≤ R.slots) (kk : W p l e R s m args below meth c H locs cells slots Q (F0 m (pc + 3) ls (v :: rest))) : W p l e R s m args below meth c H locs cells slots Q (F0 m pc ls st0) := by
  subst hst
  exact pQ_call (W.runV (As := As) (rest := rest) S hM cw ⟨fun a U g mk q => ⟨q.1, q.2.1, va_K.moved (u := U) (U := U.calling g mk a) (Vm.Alike.refl U.vm) q.2.2⟩, va_recv hK hP hc he, fun U hU hW => ⟨rfl, by rw [hU]; exact hP, va_K.moved hW.alike hK⟩⟩ rfl hn hsz rfl (lv_room hW) hdg ⟨hcs, hs⟩) kk
end XW
/-- the class ids of the arrays that are made -/
abbrev tys0 (cJ cG cK cR cI cZ cD : ClassId) : List (ClassId × FieldType) := [(cJ, .long), (cG, .object "TideGauges$Gauge"), (cK, .object "TideGauges$Rack"), (cR, .object "TideGauges$Row"), (cI, .int), (cZ, .boolean), (cD, .double)]
/-- the reference's cells: the object at 0, its nine arrays -/
abbrev Ad : Type := Nat × Nat × Nat × Nat × Nat × Nat × Nat × Nat × Nat × Nat
def MWs (q : Ad) (cJ cI cZ cD : ClassId) (σ : St) : va_W :=
  [(q.1, .inr (5, [.int (nI (zNr σ)), .ref q.2.1, .ref q.2.2.1, .ref q.2.2.2.1, .ref q.2.2.2.2.1, .int (nI (zNg σ)), .ref q.2.2.2.2.2.1, .ref q.2.2.2.2.2.2.1, .ref q.2.2.2.2.2.2.2.1, .ref q.2.2.2.2.2.2.2.2.1, .ref q.2.2.2.2.2.2.2.2.2, .long (zTo σ)])),
   (q.2.1, .inl (cZ, 4200, .inl (fun k => b2i (zRw σ k)))),
   (q.2.2.1, .inl (cI, 4200, .inl (fun k => nI (zRn σ k)))),
   (q.2.2.2.1, .inl (cJ, 50400, .inr (.inl (fun j => zRi σ (j / 12) (j % 12))))),
   (q.2.2.2.2.1, .inl (cI, 8, .inl (fun k => eo (zPl σ k)))),
   (q.2.2.2.2.2.1, .inl (cI, 4200, .inl (zGk σ))),
   (q.2.2.2.2.2.2.1, .inl (cD, 4200, .inr (.inr (.inr (.inl (fun k => (zGs σ k).toUInt64)))))),
   (q.2.2.2.2.2.2.2.1, .inl (cI, 6, .inl (fun k => eo (zGa σ k)))),
   (q.2.2.2.2.2.2.2.2.1, .inl (cI, 3, .inl (fun k => ek (zRk σ k)))),
   (q.2.2.2.2.2.2.2.2.2, .inl (cI, 12, .inl (fun j => eo (zHk σ (j / 4) (j % 4)))))]
theorem fz_rw (σ : St) (a : Nat) (w : Bool) : upd (fun k => b2i (zRw σ k)) a (b2i w) = fun k => b2i (zRw (uRw σ a w) k) := by
  funext k
  by_cases h : k = a
  · subst h; simp [upd, zRw, uRw, va_up]
  · simp [upd, zRw, uRw, va_up, h]
theorem fz_rn (σ : St) (a n : Nat) : upd (fun k => nI (zRn σ k)) a (nI n) = fun k => nI (zRn (uRn σ a n) k) := by
  funext k
  by_cases h : k = a
  · subst h; simp [upd, zRn, uRn, va_up]
  · simp [upd, zRn, uRn, va_up, h]
theorem fz_ri (σ : St) (a i : Nat) (x : Int64) (hi : i < 12) : vp_updL (fun j => zRi σ (j / 12) (j % 12)) (12 * a + i) x = fun j => zRi (uIt σ a i x) (j / 12) (j % 12) := by
  funext j
  show (if j = 12 * a + i then x else zRi σ (j / 12) (j % 12)) = va_up (zRi σ) a (vp_updL (zRi σ a) i x) (j / 12) (j % 12)
  by_cases h : j = 12 * a + i
  · rw [if_pos h, show j / 12 = a by omega, show j % 12 = i by omega, va_up_self]
    unfold vp_updL; rw [if_pos rfl]
  · rw [if_neg h]
    by_cases h2 : j / 12 = a
    · rw [h2, va_up_self]; unfold vp_updL; rw [if_neg (by omega)]
    · rw [va_up_ne _ _ h2]
theorem fz_pl (σ : St) (a : Nat) (v : Option Nat) : upd (fun k => eo (zPl σ k)) a (eo v) = fun k => eo (zPl (uPl σ a v) k) := by
  funext k
  by_cases h : k = a
  · subst h; simp [upd, zPl, uPl, va_up]
  · simp [upd, zPl, uPl, va_up, h]
theorem fz_gk (σ : St) (a : Nat) (v : Int32) : upd (zGk σ) a v = zGk (uGk σ a v) := by
  funext k
  by_cases h : k = a
  · subst h; simp [upd, zGk, uGk, va_up]
  · simp [upd, zGk, uGk, va_up, h]
theorem fz_gs (σ : St) (a : Nat) (x : Int64) : vf_upd (fun k => (zGs σ k).toUInt64) a x.toUInt64 = fun k => (zGs (uGs σ a x) k).toUInt64 := by
  funext k
  by_cases h : k = a
  · subst h; simp [vf_upd, zGs, uGs, va_up]
  · simp [vf_upd, zGs, uGs, va_up, h]
theorem fz_ga (σ : St) (a : Nat) (v : Option Nat) : upd (fun k => eo (zGa σ k)) a (eo v) = fun k => eo (zGa (uGa σ a v) k) := by
  funext k
  by_cases h : k = a
  · subst h; simp [upd, zGa, uGa, va_up]
  · simp [upd, zGa, uGa, va_up, h]
theorem fz_rk (σ : St) (a : Nat) (v : Int32) : upd (fun k => ek (zRk σ k)) a v = fun k => ek (zRk (uRk σ a (some v)) k) := by
  funext k
  by_cases h : k = a
  · subst h; simp [upd, zRk, uRk, va_up, ek]
  · simp [upd, zRk, uRk, va_up, h]
theorem fz_hk (σ : St) (a i : Nat) (v : Option Nat) (hi : i < 4) : upd (fun j => eo (zHk σ (j / 4) (j % 4))) (4 * a + i) (eo v) = fun j => eo (zHk (uHk σ a i v) (j / 4) (j % 4)) := by
  funext j
  show (if j = 4 * a + i then eo v else eo (zHk σ (j / 4) (j % 4))) = eo (va_up (zHk σ) a (va_up (zHk σ a) i v) (j / 4) (j % 4))
  by_cases h : j = 4 * a + i
  · rw [if_pos h, show j / 4 = a by omega, show j % 4 = i by omega, va_up_self, va_up_self]
  · rw [if_neg h]
    by_cases h2 : j / 4 = a
    · rw [h2, va_up_self, va_up_ne _ _ (by omega)]
    · rw [va_up_ne _ _ h2]
