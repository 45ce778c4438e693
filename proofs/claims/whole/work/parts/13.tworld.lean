/-- the class's cells: the object, its rows, gauges and racks; then a pool of what was made -/
abbrev Aq : Type := Nat × Nat × Nat × Nat
def TX (q : Aq) (cG cK cR : ClassId) (fr fg fk : Nat → Option Nat) (to : Int64) : va_W := [(q.1, .inr (4, [.ref q.2.1, .ref q.2.2.1, .ref q.2.2.2, .long to])), (q.2.1, .inl (cR, 8, .inr (.inr (.inr (.inr fr))))), (q.2.2.1, .inl (cG, 6, .inr (.inr (.inr (.inr fg))))), (q.2.2.2, .inl (cK, 3, .inr (.inr (.inr (.inr fk)))))]
abbrev TWs (q : Aq) (cG cK cR : ClassId) (fr fg fk : Nat → Option Nat) (to : Int64) (L : List Nat) (f : Nat → va_E) : va_W := TX q cG cK cR fr fg fk to ++ va_pl L f
/-- a gauge, or none, at an address, or at none -/
def gRel (L : List Nat) (f : Nat → va_E) (σ : St) (x g : Option Nat) : Prop := (g = none → x = none) ∧ ∀ b, g = some b → ∃ a, x = some a ∧ a ∈ L ∧ f a = .inr (0, [.int (zGk σ b), .long (zGs σ b)])
/-- the pool holds the state: rows at ra with items at rb, racks at ka with hooks at kb -/
def TRel (ad : Nat → Nat) (cJ cG : ClassId) (fr fg fk : Nat → Option Nat) (L : List Nat) (f : Nat → va_E) (ra rb ka kb : Nat → Nat) (hf : Nat → Nat → Option Nat) (σ : St) : Prop :=
  (∀ a, a < zNr σ → ra a ∈ L ∧ f (ra a) = .inr (2, [.ref (ad (fX4_widthOf (zRw σ a))), .ref (rb a)]) ∧ rb a ∈ L ∧ f (rb a) = .inl (cJ, zRn σ a, .inr (.inl (zRi σ a)))) ∧
  (∀ a b, a < zNr σ → b < zNr σ → rb a = rb b → a = b) ∧
  (∀ p, p < 8 → fr p = (zPl σ p).map ra) ∧
  (∀ p, p < 6 → gRel L f σ (fg p) (zGa σ p)) ∧
  (∀ r, r < 3 → (zRk σ r = none → fk r = none) ∧ ∀ k, zRk σ r = some k → fk r = some (ka r) ∧ ka r ∈ L ∧ f (ka r) = .inr (1, [.int k, .ref (kb r)]) ∧ kb r ∈ L ∧ f (kb r) = .inl (cG, 4, .inr (.inr (.inr (.inr (hf r))))) ∧ ∀ i, i < 4 → gRel L f σ (hf r i) (zHk σ r i)) ∧
  (∀ r t, r < 3 → t < 3 → zRk σ r ≠ none → zRk σ t ≠ none → kb r = kb t → r = t)
/-- the world behind a call -/
def TP (dC : Nat → ClassId) (dI : Nat → Nat → Nat) (ad : Nat → Nat) (cJ cG cK cR : ClassId) (A : Nat → Prop) (h0 : Nat) (τ : St) (t : State) : Prop := ∃ (q : Aq) (fr fg fk : Nat → Option Nat) (L : List Nat) (f : Nat → va_E) (ra rb ka kb : Nat → Nat) (hf : Nat → Nat → Option Nat), q.1 = h0 ∧ va_P (dC, dI) vwCl (TWs q cG cK cR fr fg fk (zTo τ) L f) t.heap ∧ va_D A (TWs q cG cK cR fr fg fk (zTo τ) L f) ∧ TRel ad cJ cG fr fg fk L f ra rb ka kb hf τ
/-- a failure as the class tells it -/
def fl (x : Int32) : Int32 := if x = 0 then 0 else -10 - x
def askH (σ : St) (r : Nat) (i : Int32) : Int32 := if zRk σ r = none then 1 else if ixb i 4 = true then 0 else 2
theorem askR_in (σ : St) (p : Nat) (w : Bool) : askR σ p w = 0 ∨ askR σ p w = 1 ∨ askR σ p w = 3 := by
  unfold askR; split
  · exact Or.inr (Or.inl rfl)
  · split
    · exact Or.inl rfl
    · exact Or.inr (Or.inr rfl)
theorem fl_R {σ : St} {p : Nat} {w : Bool} (h : fl (askR σ p w) = 0) : askR σ p w = 0 := by
  rcases askR_in σ p w with e | e | e <;> rw [e] at h ⊢ <;> exact absurd h (by decide)
theorem fl_I {σ : St} {p : Nat} {w : Bool} {i : Int32} (h : fl (askI σ p w i) = 0) : askI σ p w i = 0 := by
  unfold askI at h ⊢
  split at h
  · split at h
    · rename_i a b; rw [if_pos a, if_pos b]
    · exact absurd h (by decide)
  · rename_i a; exact absurd (fl_R h) a
theorem fl_H {σ : St} {r : Nat} {i : Int32} (h : fl (askH σ r i) = 0) : zRk σ r ≠ none ∧ ixb i 4 = true := by
  unfold askH at h
  split at h
  · exact absurd h (by decide)
  · split at h
    · exact ⟨by assumption, by assumption⟩
    · exact absurd h (by decide)
section TWR
variable {p : Program} {l : Launch} {e : Env} {R : Room} {s : State} {m : MethodId} {args : Array Value} {below : List Frame} {meth : Method} {c : Code} {H : Heap} {locs : List Loc} {cells slots : Nat} {Q : State → Prop}
variable {cc : ByteArray} {pc : Nat} {ls : Array Slot} {rest : List Value} {D : va_G} {cl : List vw_C} {A : Nat → Prop} {a : Nat} {tys : List (ClassId × FieldType)} {X : va_W} {L : List Nat} {f : Nat → va_E} {H0 : Heap} {own C : String} {T : u_T} {N ci index : Nat} {Ts : List Cond} {fs : List Value}
theorem pl_one (hP : va_P D cl (X ++ va_pl L f) H) (ha : a ∈ L) {e0 : va_E} (he : f a = e0) : va_P D cl [(a, e0)] H := by
  obtain ⟨k, hk⟩ := va_pl_get (X := X) (f := f) ha
  rw [he] at hk
  intro j q hq
  match j, hq with
  | 0, hq => cases hq; exact hP k _ hk
  | j + 1, hq => simp at hq
theorem pl_get (hx : p.tables.exec = Jvm.exec) (hb : c.code = cc) (hts : ∀ w ∈ Ts, w.before args s = true) (hin : ∀ w ∈ u_ws C T N, w ∈ Ts) (hown : s.vm.findClass own = some m.cls) (hK : va_K D cl tys s) (hP : va_P D cl (X ++ va_pl L f) H) (ha : a ∈ L) (he : f a = .inr (ci, fs)) (hc : cl[ci]? = some (C, T, N)) (k : Nat) (hk : k < N) {ref : String} (hlink : (Cond.fieldLink own index ref (T k).2.1 (T k).2.2.1).before args s = true) (hsame : ∀ x, s.fieldFound? (T k).1 (T k).2.1 (T k).2.2.1 = some x → s.fieldFound? ref (T k).2.1 (T k).2.2.1 = some x) {v : Value} (hv : fs[k]? = some v) (hdg : decode cc pc = .ok (.getfield index, 3)) (kk : W p l e R s m args below meth c H locs cells slots Q (F0 m (pc + 3) ls (v :: rest))) : W p l e R s m args below meth c H locs cells slots Q (F0 m pc ls (.ref a :: rest)) :=
  va_get hx hb hts hin hown hK (pl_one hP ha he) 0 rfl hc k hk hlink hsame hv hdg kk
theorem pl_alen (hx : p.tables.exec = Jvm.exec) (hb : c.code = cc) (hK : va_K D cl tys s) (hP : va_P D cl (X ++ va_pl L f) H) (t0 : Nat) {cA : ClassId} {x : vp_A} (ha : a ∈ L) (he : f a = .inl (cA, x)) {ty : FieldType} (ht : tys[t0]? = some (cA, ty)) {v : Int32} (hv : Int32.ofNat x.1 = v) (hdg : decode cc pc = .ok (.arraylength, 1)) (kk : W p l e R s m args below meth c H locs cells slots Q (F0 m (pc + 1) ls (.int v :: rest))) : W p l e R s m args below meth c H locs cells slots Q (F0 m pc ls (.ref a :: rest)) :=
  va_alen hx hb hK (pl_one hP ha he) 0 t0 rfl ht hv hdg kk
theorem pl_lald (hx : p.tables.exec = Jvm.exec) (hb : c.code = cc) (hK : va_K D cl tys s) (hP : va_P D cl (X ++ va_pl L f) H) (t0 : Nat) {cA : ClassId} {n : Nat} {g : Nat → Int64} (ha : a ∈ L) (he : f a = .inl (cA, n, .inr (.inl g))) (ht : tys[t0]? = some (cA, .long)) {i : Int32} {k : Nat} {v : Int64} (hi : i = nI k) (hk : k < n) (hn : n < 2 ^ 31) (hv : g k = v) (hdg : decode cc pc = .ok (.laload, 1)) (kk : W p l e R s m args below meth c H locs cells slots Q (F0 m (pc + 1) ls (.long v :: rest))) : W p l e R s m args below meth c H locs cells slots Q (F0 m pc ls (.int i :: .ref a :: rest)) :=
  x_lald hx hb hK (pl_one hP ha he) 0 t0 rfl ht hi hk hn hv hdg kk
theorem pl_aldq (hx : p.tables.exec = Jvm.exec) (hb : c.code = cc) (hK : va_K D cl tys s) (hP : va_P D cl (X ++ va_pl L f) H) (t0 : Nat) {cA : ClassId} {n : Nat} {g : Nat → Option Nat} (ha : a ∈ L) (he : f a = .inl (cA, n, .inr (.inr (.inr (.inr g))))) (ht : tys[t0]? = some (cA, .object C)) {i : Int32} {k : Nat} {v : Value} (hi : i = nI k) (hk : k < n) (hn : n < 2 ^ 31) (hv : va_rf (g k) = v) (hdg : decode cc pc = .ok (.aaload, 1)) (kk : W p l e R s m args below meth c H locs cells slots Q (F0 m (pc + 1) ls (v :: rest))) : W p l e R s m args below meth c H locs cells slots Q (F0 m pc ls (.int i :: .ref a :: rest)) :=
  x_aldq hx hb hK (pl_one hP ha he) 0 t0 rfl ht hi hk hn hv hdg kk
theorem pl_last (hx : p.tables.exec = Jvm.exec) (hb : c.code = cc) (hK : va_K D cl tys s) (hP : va_P D cl (X ++ va_pl L f) H) (hD : va_D A (X ++ va_pl L f)) (hS : va_S A H0 H locs) (t0 : Nat) {cA : ClassId} {n : Nat} {g : Nat → Int64} (ha : a ∈ L) (he : f a = .inl (cA, n, .inr (.inl g))) (ht : tys[t0]? = some (cA, .long)) {i : Int32} {x : Int64} {k : Nat} (hi : i = nI k) (hk : k < n) (hn : n < 2 ^ 31) (hdg : decode cc pc = .ok (.lastore, 1)) (kk : ∀ (H1 : Heap) (locs1 : List Loc), va_P D cl (X ++ va_pl L (va_up f a (.inl (cA, n, .inr (.inl (vp_updL g k x)))))) H1 → va_D A (X ++ va_pl L (va_up f a (.inl (cA, n, .inr (.inl (vp_updL g k x)))))) → va_S A H0 H1 locs1 → W p l e R s m args below meth c H1 locs1 cells slots Q (F0 m (pc + 1) ls rest)) : W p l e R s m args below meth c H locs cells slots Q (F0 m pc ls (.long x :: .int i :: .ref a :: rest)) := by
  obtain ⟨k0, hk0⟩ := va_pl_get (X := X) (f := f) ha
  have hk1 := hk0
  rw [he] at hk1
  refine x_last hx hb hK hP hD hS k0 t0 hk1 ht hi hk hn hdg (fun H1 l1 h1 h2 h3 => ?_)
  rw [va_pl_set hD ha hk0] at h1 h2
  exact kk H1 l1 h1 h2 h3
theorem pl_astq (hx : p.tables.exec = Jvm.exec) (hb : c.code = cc) (hK : va_K D cl tys s) (hP : va_P D cl (X ++ va_pl L f) H) (hD : va_D A (X ++ va_pl L f)) (hS : va_S A H0 H locs) (t0 : Nat) {cA : ClassId} {r : vw_C} {n v : Nat} {vs : List Value} {g : Nat → Option Nat} (ha : a ∈ L) (he : f a = .inl (cA, n, .inr (.inr (.inr (.inr g))))) (ht : tys[t0]? = some (cA, .object r.1)) (hv : v ∈ L) (hve : f v = .inr (ci, vs)) (hc : cl[ci]? = some r) {i : Int32} {k : Nat} (hi : i = nI k) (hk : k < n) (hn : n < 2 ^ 31) (hdg : decode cc pc = .ok (.aastore, 1)) (kk : ∀ (H1 : Heap) (locs1 : List Loc), va_P D cl (X ++ va_pl L (va_up f a (.inl (cA, n, .inr (.inr (.inr (.inr (va_up g k (some v))))))))) H1 → va_D A (X ++ va_pl L (va_up f a (.inl (cA, n, .inr (.inr (.inr (.inr (va_up g k (some v))))))))) → va_S A H0 H1 locs1 → W p l e R s m args below meth c H1 locs1 cells slots Q (F0 m (pc + 1) ls rest)) : W p l e R s m args below meth c H locs cells slots Q (F0 m pc ls (.ref v :: .int i :: .ref a :: rest)) := by
  obtain ⟨k0, hk0⟩ := va_pl_get (X := X) (f := f) ha
  have hk1 := hk0
  rw [he] at hk1
  obtain ⟨k2, hk2⟩ := va_pl_get (X := X) (f := f) hv
  rw [hve] at hk2
  refine x_astq hx hb hK hP hD hS k0 t0 k2 ci hk1 ht hk2 hc hi hk hn hdg (fun H1 l1 h1 h2 h3 => ?_)
  rw [va_pl_set hD ha hk0] at h1 h2
  exact kk H1 l1 h1 h2 h3
theorem pl_astqN (hx : p.tables.exec = Jvm.exec) (hb : c.code = cc) (hK : va_K D cl tys s) (hP : va_P D cl (X ++ va_pl L f) H) (hD : va_D A (X ++ va_pl L f)) (hS : va_S A H0 H locs) (t0 : Nat) {cA : ClassId} {n : Nat} {g : Nat → Option Nat} (ha : a ∈ L) (he : f a = .inl (cA, n, .inr (.inr (.inr (.inr g))))) (ht : tys[t0]? = some (cA, .object C)) {i : Int32} {k : Nat} (hi : i = nI k) (hk : k < n) (hn : n < 2 ^ 31) (hdg : decode cc pc = .ok (.aastore, 1)) (kk : ∀ (H1 : Heap) (locs1 : List Loc), va_P D cl (X ++ va_pl L (va_up f a (.inl (cA, n, .inr (.inr (.inr (.inr (va_up g k none)))))))) H1 → va_D A (X ++ va_pl L (va_up f a (.inl (cA, n, .inr (.inr (.inr (.inr (va_up g k none)))))))) → va_S A H0 H1 locs1 → W p l e R s m args below meth c H1 locs1 cells slots Q (F0 m (pc + 1) ls rest)) : W p l e R s m args below meth c H locs cells slots Q (F0 m pc ls (.null :: .int i :: .ref a :: rest)) := by
  obtain ⟨k0, hk0⟩ := va_pl_get (X := X) (f := f) ha
  have hk1 := hk0
  rw [he] at hk1
  refine x_astqN hx hb hK hP hD hS k0 t0 hk1 ht hi hk hn hdg (fun H1 l1 h1 h2 h3 => ?_)
  rw [va_pl_set hD ha hk0] at h1 h2
  exact kk H1 l1 h1 h2 h3
/-- a fixed array gets an object of the pool -/
theorem px_astq (hx : p.tables.exec = Jvm.exec) (hb : c.code = cc) (hK : va_K D cl tys s) (hP : va_P D cl (X ++ va_pl L f) H) (hD : va_D A (X ++ va_pl L f)) (hS : va_S A H0 H locs) (q0 t0 : Nat) {cA : ClassId} {r : vw_C} {n v : Nat} {vs : List Value} {g : Nat → Option Nat} (ha : (X ++ va_pl L f)[q0]? = some (a, .inl (cA, n, .inr (.inr (.inr (.inr g)))))) (ht : tys[t0]? = some (cA, .object r.1)) (hv : v ∈ L) (hve : f v = .inr (ci, vs)) (hc : cl[ci]? = some r) {i : Int32} {k : Nat} (hi : i = nI k) (hk : k < n) (hn : n < 2 ^ 31) (hdg : decode cc pc = .ok (.aastore, 1)) (kk : ∀ (H1 : Heap) (locs1 : List Loc), va_P D cl ((X ++ va_pl L f).set q0 (a, .inl (cA, n, .inr (.inr (.inr (.inr (va_up g k (some v)))))))) H1 → va_D A ((X ++ va_pl L f).set q0 (a, .inl (cA, n, .inr (.inr (.inr (.inr (va_up g k (some v)))))))) → va_S A H0 H1 locs1 → W p l e R s m args below meth c H1 locs1 cells slots Q (F0 m (pc + 1) ls rest)) : W p l e R s m args below meth c H locs cells slots Q (F0 m pc ls (.ref v :: .int i :: .ref a :: rest)) := by
  obtain ⟨k2, hk2⟩ := va_pl_get (X := X) (f := f) hv
  rw [hve] at hk2
  exact x_astq hx hb hK hP hD hS q0 t0 k2 ci ha ht hk2 hc hi hk hn hdg kk
variable {ad : Nat → Nat} {ws : va_W} {n maxL nL q0 : Nat} {y : MethodName} {bytes : ByteArray} {ret : Option FieldType} {wsy : List Cond} {rm : Room} {As st0 : List Value} {v : Value}
theorem w_acne (hx : p.tables.exec = Jvm.exec) (hb : c.code = cc) (hE : EN ad A s s.heap) {u v : Bool} {off : Int} {tgt : Nat} (hdg : decode cc pc = .ok (.if_acmp .ne off, 3)) (ht : (pc : Int) + off = (tgt : Int)) (kt : ¬ u = v → W p l e R s m args below meth c H locs cells slots Q (F0 m tgt ls rest)) (kf : u = v → W p l e R s m args below meth c H locs cells slots Q (F0 m (pc + 3) ls rest)) : W p l e R s m args below meth c H locs cells slots Q (F0 m pc ls (.ref (ad (fX4_widthOf v)) :: .ref (ad (fX4_widthOf u)) :: rest)) :=
  lv_acmp_ne (rx := some (ad (fX4_widthOf u))) (ry := some (ad (fX4_widthOf v))) hx hb hdg ht (fun h => kt (fun q => h (by rw [q]))) (fun h => kf (by
    have := hE.inj (wi_lt u) (wi_lt v) (Option.some.inj h)
    cases u <;> cases v <;> first | rfl | exact absurd this (by decide)))
/-- a call of an own method that only answers, and reads the world and the constants -/
theorem ct_w (S : CallFix p m c cc nL s args Ts own) (hM : Met l y wsy rm (va_Pc (.ref a :: As) (fun U => va_P D cl ws U.heap ∧ va_K D cl tys U ∧ EN ad (fun _ => False) U U.heap)) (pQ v) 0 0 (fun _ => False)) (cw : CallW R s args own C index y bytes maxL ret wsy rm 0 0 n) (hK : va_K D cl tys s) (hP : va_P D cl ws H) (hE : EN ad A s s.heap) (hS : va_S A s.heap H locs) (hc : cl[ci]? = some (C, T, N)) (he : ws[q0]? = some (a, .inr (ci, fs))) (hst : st0 = As.reverse ++ .ref a :: rest) (hn : As.length = n) (hsz : ls.size = nL) (hW : (rest.map fun v => v.category).sum ≤ 8) (hdg : decode cc pc = .ok (.invokevirtual index, 3)) (hcs : cells ≤ R.cells) (hs : slots ≤ R.slots) (kk : W p l e R s m args below meth c H locs cells slots Q (F0 m (pc + 3) ls (v :: rest))) : W p l e R s m args below meth c H locs cells slots Q (F0 m pc ls st0) := by
  subst hst
  exact pQ_call (W.runV (As := As) (rest := rest) S hM cw ⟨fun a U g mk q => ⟨q.1, q.2.1, va_K.moved (u := U) (U := U.calling g mk a) (Vm.Alike.refl U.vm) q.2.2.1, q.2.2.2.moved (Vm.Alike.refl U.vm)⟩, va_recv hK hP hc he, fun U hU hW => ⟨rfl, by rw [hU]; exact hP, va_K.moved hW.alike hK, hE.now hS hU hW⟩⟩ rfl hn hsz rfl (lv_room hW) hdg ⟨hcs, hs⟩) kk
end TWR
