/-- a boolean as the int that the machine has for it -/
def b2i (b : Bool) : Int32 := if b = true then 1 else 0
theorem b2i_eq (b : Bool) : b2i b = 0 ↔ ¬ b = true := by cases b <;> decide
theorem b2i_nar (b : Bool) : narrow .boolean (.int (b2i b)) = .int (b2i b) := by cases b <;> rfl
theorem b2i_inj {a b : Bool} (h : b2i a = b2i b) : a = b := by cases a <;> cases b <;> first | rfl | exact absurd h (by decide)
/-- the fields of the two constants of Width: 0 FLOAT, 1 DOUBLE -/
def cFB (i : Nat) : Int32 := if i = 0 then 23 else 52
def cLE (i : Nat) : Int32 := if i = 0 then -149 else -1074
def cSB (i : Nat) : Int64 := if i = 0 then 2147483648 else -9223372036854775808
def cEN (i : Nat) : Int64 := if i = 0 then 2139095040 else 9218868437227405312
/-- the constants stand in the heap, outside of what may be written -/
def EN (ad : Nat → Nat) (A : Nat → Prop) (U : State) (H : Heap) : Prop :=
  va_En "TideGauges$Width" "LTideGauges$Width;" ["FLOAT", "DOUBLE"] [] ad A U H ∧ va_Ef 2 "TideGauges$Width" "fractionBits" "I" (fun i => .int (cFB i)) ad A U H ∧ va_Ef 2 "TideGauges$Width" "leastExponent" "I" (fun i => .int (cLE i)) ad A U H ∧ va_Ef 2 "TideGauges$Width" "signBit" "J" (fun i => .long (cSB i)) ad A U H ∧ va_Ef 2 "TideGauges$Width" "endless" "J" (fun i => .long (cEN i)) ad A U H
theorem EN.moved {ad : Nat → Nat} {A : Nat → Prop} {u U : State} {H : Heap} (hvm : u.vm.Alike U.vm) (h : EN ad A u H) : EN ad A U H := ⟨va_En.moved hvm h.1, va_Ef.moved hvm h.2.1, va_Ef.moved hvm h.2.2.1, va_Ef.moved hvm h.2.2.2.1, va_Ef.moved hvm h.2.2.2.2⟩
theorem EN.kept {ad : Nat → Nat} {A : Nat → Prop} {U : State} {H H1 : Heap} (h : EN ad A U H) (hq : ∀ a : Nat, a < H.size → ¬ A a → H1[a]? = H[a]?) : EN ad A U H1 := ⟨h.1.kept hq, h.2.1.kept hq, h.2.2.1.kept hq, h.2.2.2.1.kept hq, h.2.2.2.2.kept hq⟩
theorem EN.narrow {ad : Nat → Nat} {A B : Nat → Prop} {U : State} {H : Heap} (h : EN ad A U H) (hAB : ∀ q, B q → A q) : EN ad B U H := ⟨h.1.narrow hAB, h.2.1.narrow hAB, h.2.2.1.narrow hAB, h.2.2.2.1.narrow hAB, h.2.2.2.2.narrow hAB⟩
theorem EN.inj {ad : Nat → Nat} {A : Nat → Prop} {U : State} {H : Heap} (h : EN ad A U H) {i j : Nat} (hi : i < 2) (hj : j < 2) (e : ad i = ad j) : i = j := h.1.2 i j hi hj e
/-- a contract of a method that only answers: this value, the heap as it was -/
def pQ (v : Value) : Array Value → State → Outcome → State → Prop := fun _ st o t => o = .returned (some v) ∧ t.heap = st.heap
/-- what a method that only answers may ask for: the constants -/
abbrev pE (ad : Nat → Nat) (av : List Value) : Array Value → State → Prop := va_Pc av (fun U => EN ad (fun _ => False) U U.heap)
abbrev p0 (av : List Value) : Array Value → State → Prop := va_Pc av (fun _ => True)
section TG
variable {p : Program} {l : Launch} {e : Env} {R : Room} {s : State} {m : MethodId} {args : Array Value} {below : List Frame} {meth : Method} {c : Code} {H : Heap} {locs : List Loc} {cells slots : Nat} {Q : State → Prop}
variable {cc : ByteArray} {pc : Nat} {ls : Array Slot} {rest : List Value}
theorem w_lc_eq (hx : p.tables.exec = Jvm.exec) (hb : c.code = cc) {x y : Int64} {off : Int} {tgt : Nat} (h1 : decode cc pc = .ok (.lcmp, 1)) (h2 : decode cc (pc + 1) = .ok (.ifCond .eq off, 3)) (ht : ((pc + 1 : Nat) : Int) + off = (tgt : Int)) (kt : x = y → W p l e R s m args below meth c H locs cells slots Q (F0 m tgt ls rest)) (kf : ¬ x = y → W p l e R s m args below meth c H locs cells slots Q (F0 m (pc + 4) ls rest)) : W p l e R s m args below meth c H locs cells slots Q (F0 m pc ls (.long y :: .long x :: rest)) :=
  W.lcmp hx hb h1 (lv_if_eq hx hb h2 ht (fun h => kt ((lg_cmp_eq x y).mp h)) (fun h => kf (fun q => h ((lg_cmp_eq x y).mpr q))))
theorem w_lc_ne (hx : p.tables.exec = Jvm.exec) (hb : c.code = cc) {x y : Int64} {off : Int} {tgt : Nat} (h1 : decode cc pc = .ok (.lcmp, 1)) (h2 : decode cc (pc + 1) = .ok (.ifCond .ne off, 3)) (ht : ((pc + 1 : Nat) : Int) + off = (tgt : Int)) (kt : ¬ x = y → W p l e R s m args below meth c H locs cells slots Q (F0 m tgt ls rest)) (kf : x = y → W p l e R s m args below meth c H locs cells slots Q (F0 m (pc + 4) ls rest)) : W p l e R s m args below meth c H locs cells slots Q (F0 m pc ls (.long y :: .long x :: rest)) :=
  W.lcmp hx hb h1 (lv_if_ne hx hb h2 ht (fun h => kt (fun q => h ((lg_cmp_eq x y).mpr q))) (fun h => kf ((lg_cmp_eq x y).mp h)))
theorem w_lc_lt (hx : p.tables.exec = Jvm.exec) (hb : c.code = cc) {x y : Int64} {off : Int} {tgt : Nat} (h1 : decode cc pc = .ok (.lcmp, 1)) (h2 : decode cc (pc + 1) = .ok (.ifCond .lt off, 3)) (ht : ((pc + 1 : Nat) : Int) + off = (tgt : Int)) (kt : x < y → W p l e R s m args below meth c H locs cells slots Q (F0 m tgt ls rest)) (kf : ¬ x < y → W p l e R s m args below meth c H locs cells slots Q (F0 m (pc + 4) ls rest)) : W p l e R s m args below meth c H locs cells slots Q (F0 m pc ls (.long y :: .long x :: rest)) :=
  W.lcmp hx hb h1 (lv_if_lt hx hb h2 ht (fun h => kt ((lg_cmp_lt x y).mp h)) (fun h => kf (fun q => h ((lg_cmp_lt x y).mpr q))))
theorem w_lc_ge (hx : p.tables.exec = Jvm.exec) (hb : c.code = cc) {x y : Int64} {off : Int} {tgt : Nat} (h1 : decode cc pc = .ok (.lcmp, 1)) (h2 : decode cc (pc + 1) = .ok (.ifCond .ge off, 3)) (ht : ((pc + 1 : Nat) : Int) + off = (tgt : Int)) (kt : y ≤ x → W p l e R s m args below meth c H locs cells slots Q (F0 m tgt ls rest)) (kf : ¬ y ≤ x → W p l e R s m args below meth c H locs cells slots Q (F0 m (pc + 4) ls rest)) : W p l e R s m args below meth c H locs cells slots Q (F0 m pc ls (.long y :: .long x :: rest)) :=
  W.lcmp hx hb h1 (lv_if_ge hx hb h2 ht (fun h => kt ((lg_cmp_ge x y).mp h)) (fun h => kf (fun q => h ((lg_cmp_ge x y).mpr q))))
theorem w_lc_gt (hx : p.tables.exec = Jvm.exec) (hb : c.code = cc) {x y : Int64} {off : Int} {tgt : Nat} (h1 : decode cc pc = .ok (.lcmp, 1)) (h2 : decode cc (pc + 1) = .ok (.ifCond .gt off, 3)) (ht : ((pc + 1 : Nat) : Int) + off = (tgt : Int)) (kt : y < x → W p l e R s m args below meth c H locs cells slots Q (F0 m tgt ls rest)) (kf : ¬ y < x → W p l e R s m args below meth c H locs cells slots Q (F0 m (pc + 4) ls rest)) : W p l e R s m args below meth c H locs cells slots Q (F0 m pc ls (.long y :: .long x :: rest)) :=
  W.lcmp hx hb h1 (lv_if_gt hx hb h2 ht (fun h => kt ((lg_cmp_gt x y).mp h)) (fun h => kf (fun q => h ((lg_cmp_gt x y).mpr q))))
theorem w_lc_le (hx : p.tables.exec = Jvm.exec) (hb : c.code = cc) {x y : Int64} {off : Int} {tgt : Nat} (h1 : decode cc pc = .ok (.lcmp, 1)) (h2 : decode cc (pc + 1) = .ok (.ifCond .le off, 3)) (ht : ((pc + 1 : Nat) : Int) + off = (tgt : Int)) (kt : x ≤ y → W p l e R s m args below meth c H locs cells slots Q (F0 m tgt ls rest)) (kf : ¬ x ≤ y → W p l e R s m args below meth c H locs cells slots Q (F0 m (pc + 4) ls rest)) : W p l e R s m args below meth c H locs cells slots Q (F0 m pc ls (.long y :: .long x :: rest)) :=
  W.lcmp hx hb h1 (lv_if_le hx hb h2 ht (fun h => kt ((lg_cmp_le x y).mp h)) (fun h => kf (fun q => h ((lg_cmp_le x y).mpr q))))
theorem w_bne (hx : p.tables.exec = Jvm.exec) (hb : c.code = cc) {b : Bool} {off : Int} {tgt : Nat} (hdg : decode cc pc = .ok (.ifCond .ne off, 3)) (ht : (pc : Int) + off = (tgt : Int)) (kt : b = true → W p l e R s m args below meth c H locs cells slots Q (F0 m tgt ls rest)) (kf : ¬ b = true → W p l e R s m args below meth c H locs cells slots Q (F0 m (pc + 3) ls rest)) : W p l e R s m args below meth c H locs cells slots Q (F0 m pc ls (.int (b2i b) :: rest)) :=
  lv_if_ne hx hb hdg ht (fun h => kt (Classical.byContradiction (fun q => h ((b2i_eq b).mpr q)))) (fun h => kf ((b2i_eq b).mp h))
theorem w_beq (hx : p.tables.exec = Jvm.exec) (hb : c.code = cc) {b : Bool} {off : Int} {tgt : Nat} (hdg : decode cc pc = .ok (.ifCond .eq off, 3)) (ht : (pc : Int) + off = (tgt : Int)) (kt : ¬ b = true → W p l e R s m args below meth c H locs cells slots Q (F0 m tgt ls rest)) (kf : b = true → W p l e R s m args below meth c H locs cells slots Q (F0 m (pc + 3) ls rest)) : W p l e R s m args below meth c H locs cells slots Q (F0 m pc ls (.int (b2i b) :: rest)) :=
  lv_if_eq hx hb hdg ht (fun h => kt ((b2i_eq b).mp h)) (fun h => kf (Classical.byContradiction (fun q => h ((b2i_eq b).mpr q))))
theorem w_zne (hx : p.tables.exec = Jvm.exec) (hb : c.code = cc) {x y : Bool} {off : Int} {tgt : Nat} (hdg : decode cc pc = .ok (.if_icmp .ne off, 3)) (ht : (pc : Int) + off = (tgt : Int)) (kt : ¬ x = y → W p l e R s m args below meth c H locs cells slots Q (F0 m tgt ls rest)) (kf : x = y → W p l e R s m args below meth c H locs cells slots Q (F0 m (pc + 3) ls rest)) : W p l e R s m args below meth c H locs cells slots Q (F0 m pc ls (.int (b2i y) :: .int (b2i x) :: rest)) :=
  lv_icmp_ne hx hb hdg ht (fun h => kt (fun q => h (congrArg b2i q))) (fun h => kf (b2i_inj h))
theorem w_zeq (hx : p.tables.exec = Jvm.exec) (hb : c.code = cc) {x y : Bool} {off : Int} {tgt : Nat} (hdg : decode cc pc = .ok (.if_icmp .eq off, 3)) (ht : (pc : Int) + off = (tgt : Int)) (kt : x = y → W p l e R s m args below meth c H locs cells slots Q (F0 m tgt ls rest)) (kf : ¬ x = y → W p l e R s m args below meth c H locs cells slots Q (F0 m (pc + 3) ls rest)) : W p l e R s m args below meth c H locs cells slots Q (F0 m pc ls (.int (b2i y) :: .int (b2i x) :: rest)) :=
  lv_icmp_eq hx hb hdg ht (fun h => kt (b2i_inj h)) (fun h => kf (fun q => h (congrArg b2i q)))
theorem pQ_call {v : Value} {a : Array Value} {st0 : List Value} (hr : CallRun p l e R s m args below meth c H locs cells slots 0 0 (F0 m pc ls st0) rest (pQ v a) (fun _ => False)) (kk : W p l e R s m args below meth c H locs cells slots Q (F0 m (pc + 3) ls (v :: rest))) : W p l e R s m args below meth c H locs cells slots Q (F0 m pc ls st0) := by
  intro T hT X
  obtain ⟨v', st₀, t, T', L, h0, X', hL, e1, ⟨hv, hh⟩, st⟩ := hr T hT X
  cases hv
  obtain ⟨t2, a1, b1⟩ := kk T' (by rw [e1, hh, h0]) (Stand.forget X' (fun q h => (hL q h).elim))
  exact ⟨t2, st t2 a1, b1⟩
variable {A : Nat → Prop} {ad : Nat → Nat} {i n index maxL nL : Nat} {y : MethodName} {bytes : ByteArray} {ret : Option FieldType} {ws Ts : List Cond} {rm : Room} {own : String} {As st0 : List Value} {v : Value}
theorem EN.now {U : State} (hE : EN ad A s s.heap) (hS : va_S A s.heap H locs) (hU : U.heap = H) (hW : s.WarmedH U.vm) : EN ad (fun _ => False) U U.heap := by
  rw [hU]
  exact ((hE.kept (fun a h1 h2 => hS.2.1 a h1 h2)).narrow (fun _ h => h.elim)).moved hW.alike
/-- a call of a constant's own method that only answers -/
theorem cv_w (S : CallFix p m c cc nL s args Ts own) (hM : Met l y ws rm (pE ad (.ref (ad i) :: As)) (pQ v) 0 0 (fun _ => False)) (cw : CallW R s args own "TideGauges$Width" index y bytes maxL ret ws rm 0 0 n) (hE : EN ad A s s.heap) (hS : va_S A s.heap H locs) (hi : i < 2) (hst : st0 = As.reverse ++ .ref (ad i) :: rest) (hn : As.length = n) (hsz : ls.size = nL) (hW : (rest.map fun v => v.category).sum ≤ 8) (hdg : decode cc pc = .ok (.invokevirtual index, 3)) (hc : cells ≤ R.cells) (hs : slots ≤ R.slots) (kk : W p l e R s m args below meth c H locs cells slots Q (F0 m (pc + 3) ls (v :: rest))) : W p l e R s m args below meth c H locs cells slots Q (F0 m pc ls st0) := by
  subst hst
  obtain ⟨cell, h1, h2, h3⟩ := va_recvE hE.1 hi hS
  exact pQ_call (W.runV (As := As) (rest := rest) S hM cw ⟨fun a U g mk q => ⟨q.1, q.2.moved (Vm.Alike.refl U.vm)⟩, ⟨cell, h1, h2, h3⟩, fun U hU hW => ⟨rfl, hE.now hS hU hW⟩⟩ rfl hn hsz rfl (lv_room hW) hdg ⟨hc, hs⟩) kk
/-- a call of a static method that only answers, and asks for the constants -/
theorem cs_w (S : CallFix p m c cc nL s args Ts own) (hM : Met l y ws rm (pE ad As) (pQ v) 0 0 (fun _ => False)) (cw : CallB R s args own index y bytes maxL ret ws rm 0 0 n ∧ (Cond.static y).before args s = true) (hE : EN ad A s s.heap) (hS : va_S A s.heap H locs) (hst : st0 = As.reverse ++ rest) (hn : As.length = n) (hsz : ls.size = nL) (hW : (rest.map fun v => v.category).sum ≤ 8) (hdg : decode cc pc = .ok (.invokestatic index, 3)) (hc : cells ≤ R.cells) (hs : slots ≤ R.slots) (kk : W p l e R s m args below meth c H locs cells slots Q (F0 m (pc + 3) ls (v :: rest))) : W p l e R s m args below meth c H locs cells slots Q (F0 m pc ls st0) := by
  subst hst
  exact pQ_call (W.runS (As := As) (rest := rest) S hM cw ⟨fun a U g mk q => ⟨q.1, q.2.moved (Vm.Alike.refl U.vm)⟩, fun U hU hW => ⟨rfl, hE.now hS hU hW⟩⟩ rfl hn hsz rfl (lv_room hW) hdg ⟨hc, hs⟩) kk
/-- a call of a static method that only answers, and asks for nothing -/
theorem cs_0 (S : CallFix p m c cc nL s args Ts own) (hM : Met l y ws rm (p0 As) (pQ v) 0 0 (fun _ => False)) (cw : CallB R s args own index y bytes maxL ret ws rm 0 0 n ∧ (Cond.static y).before args s = true) (hst : st0 = As.reverse ++ rest) (hn : As.length = n) (hsz : ls.size = nL) (hW : (rest.map fun v => v.category).sum ≤ 8) (hdg : decode cc pc = .ok (.invokestatic index, 3)) (hc : cells ≤ R.cells) (hs : slots ≤ R.slots) (kk : W p l e R s m args below meth c H locs cells slots Q (F0 m (pc + 3) ls (v :: rest))) : W p l e R s m args below meth c H locs cells slots Q (F0 m pc ls st0) := by
  subst hst
  exact pQ_call (W.runS (As := As) (rest := rest) S hM cw ⟨fun a U g mk q => ⟨q.1, trivial⟩, fun U hU hW => ⟨rfl, trivial⟩⟩ rfl hn hsz rfl (lv_room hW) hdg ⟨hc, hs⟩) kk
/-- a constant out of its static -/
theorem gs_w (hx : p.tables.exec = Jvm.exec) (hb : c.code = cc) (hE : EN ad A s s.heap) (hS : va_S A s.heap H locs) {nm : String} (hi : i < 2) (hnm : (["FLOAT", "DOUBLE"] : List String).getD i "" = nm) (hown : s.vm.findClass own = some m.cls) (hlink : (Cond.fieldLink own index "TideGauges$Width" nm "LTideGauges$Width;").before args s = true) (hdg : decode cc pc = .ok (.getstatic index, 3)) (kk : W p l e R s m args below meth c H locs cells slots Q (F0 m (pc + 3) ls (.ref (ad i) :: rest))) : W p l e R s m args below meth c H locs cells slots Q (F0 m pc ls rest) := by
  subst hnm
  exact va_gets hx hb (hE.1.1 i hi).1 hS hown hlink (fun _ h => h) hdg kk
end TG
