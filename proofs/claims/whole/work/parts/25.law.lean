theorem split_P {D : va_G} {cl : List vw_C} {u v : va_W} {H : Heap} (h : va_P D cl (u ++ v) H) : va_P D cl u H ∧ va_P D cl v H := by
  refine ⟨fun k q hk => h k q (by rw [List.getElem?_append_left (List.getElem?_eq_some_iff.mp hk).1]; exact hk), fun k q hk => h (u.length + k) q (by rw [List.getElem?_append_right (by omega)]; rw [show u.length + k - u.length = k by omega]; exact hk)⟩
theorem split_D {A : Nat → Prop} {u v : va_W} (h : va_D A (u ++ v)) : va_D A u ∧ va_D A v ∧ dis u v := by
  have h1 : ∀ (k : Nat) (q : Nat × va_E), u[k]? = some q → (u ++ v)[k]? = some q := fun k q hk => by rw [List.getElem?_append_left (List.getElem?_eq_some_iff.mp hk).1]; exact hk
  have h2 : ∀ (k : Nat) (q : Nat × va_E), v[k]? = some q → (u ++ v)[u.length + k]? = some q := fun k q hk => by rw [List.getElem?_append_right (by omega), show u.length + k - u.length = k by omega]; exact hk
  refine ⟨⟨fun i j p q hp hq e => h.1 i j p q (h1 i p hp) (h1 j q hq) e, fun k q hk => h.2 k q (h1 k q hk)⟩, ⟨fun i j p q hp hq e => by have := h.1 _ _ p q (h2 i p hp) (h2 j q hq) e; omega, fun k q hk => h.2 _ q (h2 k q hk)⟩, fun i j p q hp hq e => ?_⟩
  have h3 := h.1 _ _ p q (h1 i p hp) (h2 j q hq) e
  have h4 := (List.getElem?_eq_some_iff.mp hp).1
  omega
section LI
variable {p : Program} {l : Launch} {e : Env} {R : Room} {s : State} {m : MethodId} {args : Array Value} {below : List Frame} {meth : Method} {c : Code} {H : Heap} {locs : List Loc} {cells slots : Nat} {Q : State → Prop}
variable {cc : ByteArray} {pc : Nat} {ls : Array Slot} {rest : List Value} {D : va_G} {cl : List vw_C} {A : Nat → Prop} {a : Nat} {tys : List (ClassId × FieldType)} {ws : va_W} {own : String} {index : Nat} {Ts : List Cond} {n maxL nL mc ms : Nat} {y : MethodName} {bytes : ByteArray} {wsy : List Cond} {rm : Room} {As st0 : List Value}
/-- a constructor, and what it keeps -/
theorem ct_iy {B : State → Prop} {X : State → Prop} (hXm : ∀ u U : State, u.vm.Alike U.vm → X u → X U) (hXs : X s) (S : CallFix p m c cc nL s args Ts own) (hM : Met l y wsy rm (va_Pc (.ref a :: As) (fun U => U.heap.size = H.size ∧ va_P D cl ws U.heap ∧ va_K D cl tys U ∧ va_D (fun _ => True) ws ∧ X U)) (va_Qv (fun (_ : Unit) => True) (fun _ t => B t) (va_A ws H.size)) mc ms (va_A ws H.size)) (cw : CallB R s args own index y bytes maxL none wsy rm mc ms n ∧ y.name = "<init>" ∧ (Cond.instanceMethod y).before args s = true) (hK : va_K D cl tys s) (hP : va_P D cl ws H) (hD : va_D A ws) (hS : va_S A s.heap H locs) (hA : ∀ z, s.heap.size ≤ z → A z) (hst : st0 = As.reverse ++ .ref a :: rest) (hn : As.length = n) (hsz : ls.size = nL) (hW : (rest.map fun v => v.category).sum ≤ 8) (hdg : decode cc pc = .ok (.invokespecial index, 3)) (hf : cells + mc ≤ R.cells ∧ slots + ms ≤ R.slots) (kk : ∀ (t1 : State) (H1 : Heap) (locs1 : List Loc), t1.heap = H1 → B t1 → (∀ q : Nat, q < H.size → ¬ va_A ws H.size q → H1[q]? = H[q]?) → va_S A s.heap H1 locs1 → W p l e R s m args below meth c H1 locs1 (cells + mc) (slots + ms) Q (F0 m (pc + 3) ls rest)) : W p l e R s m args below meth c H locs cells slots Q (F0 m pc ls st0) := by
  subst hst
  have hFc := fr_all hD hS hA
  refine va_callv (va_runI (As := As) (rest := rest) S hM cw ⟨fun a U g mk q => by obtain ⟨q0, q1, qP, qK, qD, qX⟩ := q; exact ⟨q0, q1, qP, va_K.moved (u := U) (U := U.calling g mk a) (Vm.Alike.refl U.vm) qK, qD, hXm U (U.calling g mk a) (Vm.Alike.refl U.vm) qX⟩, fun U hU hW => ⟨rfl, by rw [hU], by rw [hU]; exact hP, va_K.moved hW.alike hK, hD.weaken (fun _ _ _ _ => trivial), hXm s U hW.alike hXs⟩⟩ rfl hn hsz rfl (lv_room hW) hdg hf) hS (fun z _ h => hFc z h) hFc (fun u t H1 locs ht hvm hw hB hz1 hk1 hS => ?_)
  exact kk t H1 locs ht hB hk1 hS
theorem ct_iz {B : State → Prop} (S : CallFix p m c cc nL s args Ts own) (hM : Met l y wsy rm (va_Pc (.ref a :: As) (fun U => U.heap.size = H.size ∧ va_P D cl ws U.heap ∧ va_K D cl tys U ∧ va_D (fun _ => True) ws)) (va_Qv (fun (_ : Unit) => True) (fun _ t => B t) (va_A ws H.size)) mc ms (va_A ws H.size)) (cw : CallB R s args own index y bytes maxL none wsy rm mc ms n ∧ y.name = "<init>" ∧ (Cond.instanceMethod y).before args s = true) (hK : va_K D cl tys s) (hP : va_P D cl ws H) (hD : va_D A ws) (hS : va_S A s.heap H locs) (hA : ∀ z, s.heap.size ≤ z → A z) (hst : st0 = As.reverse ++ .ref a :: rest) (hn : As.length = n) (hsz : ls.size = nL) (hW : (rest.map fun v => v.category).sum ≤ 8) (hdg : decode cc pc = .ok (.invokespecial index, 3)) (hf : cells + mc ≤ R.cells ∧ slots + ms ≤ R.slots) (kk : ∀ (t1 : State) (H1 : Heap) (locs1 : List Loc), t1.heap = H1 → B t1 → (∀ q : Nat, q < H.size → ¬ va_A ws H.size q → H1[q]? = H[q]?) → va_S A s.heap H1 locs1 → W p l e R s m args below meth c H1 locs1 (cells + mc) (slots + ms) Q (F0 m (pc + 3) ls rest)) : W p l e R s m args below meth c H locs cells slots Q (F0 m pc ls st0) := by
  subst hst
  have hFc := fr_all hD hS hA
  refine va_callv (va_runI (As := As) (rest := rest) S hM cw ⟨fun a U g mk q => by obtain ⟨q0, q1, qP, qK, qD⟩ := q; exact ⟨q0, q1, qP, va_K.moved (u := U) (U := U.calling g mk a) (Vm.Alike.refl U.vm) qK, qD⟩, fun U hU hW => ⟨rfl, by rw [hU], by rw [hU]; exact hP, va_K.moved hW.alike hK, hD.weaken (fun _ _ _ _ => trivial)⟩⟩ rfl hn hsz rfl (lv_room hW) hdg hf) hS (fun z _ h => hFc z h) hFc (fun u t H1 locs ht hvm hw hB hz1 hk1 hS => ?_)
  exact kk t H1 locs ht hB hk1 hS
theorem s_ld (hx : p.tables.exec = Jvm.exec) (hb : c.code = cc) {b L : Nat} {xs : Nat → Int32} (hX : va_X b L xs s s.heap) (hbl : b < s.heap.size) (hbA : ¬ A b) (hS : va_S A s.heap H locs) {i v : Int32} {j : Nat} (hi : i = nI j) (hj : j < L) (hL : L ≤ 3072) (hv : xs j = v) (hdg : decode cc pc = .ok (.iaload, 1)) (kk : W p l e R s m args below meth c H locs cells slots Q (F0 m (pc + 1) ls (.int v :: rest))) : W p l e R s m args below meth c H locs cells slots Q (F0 m pc ls (.int i :: .ref b :: rest)) := by
  subst hi hv
  refine va_sld hx hb hX hbl hbA hS (vp_in_nI hj (by omega)) hdg ?_
  rw [nI_clamp (by omega)]
  exact kk
end LI
theorem scr_gt {L k : Nat} (hL : L ≤ 3072) (hk : k ≤ 513) : (Int32.ofNat L - 6) < nI (6 * k) ↔ L < 6 * k + 6 := by
  have e1 : (Int32.ofNat L).toInt = (L : Int) := nI_toInt (n := L) (by omega)
  rw [Int32.lt_iff_toInt_lt, Int32.toInt_sub, e1, nI_toInt (by omega), show (6 : Int32).toInt = 6 from rfl, Int.bmod_eq_of_le (by omega) (by omega)]
  omega

set_option maxHeartbeats 40000000 in
set_option maxRecDepth 100000 in
theorem law_loop {p : Program} {e : Env} {s : State} {m : MethodId} {below : List Frame} {meth : Method} {c : Code} (l : Launch) {b L : Nat} {xs : Nat → Int32} (hLL : L ≤ 3072) (hx : p.tables.exec = Jvm.exec) (hb : c.code = cL_law) (hr : meth.sig.returnType = ret) (hml : c.maxLocals = 4) (hown : s.vm.findClass RL = some m.cls) (hts : ∀ w ∈ wsL_law, w.before #[Value.ref b] s = true) (hX : va_X b L xs s s.heap) (hbl : b < s.heap.size) (hlocks : meth.locks = false) {dC : Nat → ClassId} {dI : Nat → Nat → Nat} {ad : Nat → Nat} {cJ cG cK cR cI cZ cD : ClassId} (hK : va_K (dC, dI) vwCl (tys0 cJ cG cK cR cI cZ cD) s) (hAOG : va_AO "TideGauges$Gauge" s) {A : Nat → Prop} (hE : EN ad A s s.heap) (hA : ∀ z, s.heap.size ≤ z → A z) (hA2 : ∀ z, A z → s.heap.size ≤ z) (hbA : ¬ A b) {t0 m0 : Nat} : ∀ (r k : Nat), r + k = 513 → ∀ (σ : St) (H : Heap) (locs : List Loc) (ls : Array Slot), Inv σ k → LW dC dI ad cJ cG cK cR cI cZ cD A t0 m0 σ σ H → va_S A s.heap H locs → lv_has ls 4 [(0, .ref b), (1, .ref t0), (2, .ref m0), (3, .int (nI (6 * k)))] → W p l e room_1 s m #[Value.ref b] below meth c H locs (14 + 2 * k) (67262 + 14 * k) (lw_Z below #[Value.ref b] s) (F0 m 18 ls []) := by
  intro r
  induction r with
  | zero =>
    intro k hk σ H locs ls hI hL hS hl
    refine lv_iload_n hx hb dL_law_18 rfl (lv_at hl 3 rfl) ?_
    refine lv_aload_n hx hb dL_law_19 rfl (lv_at hl 0 rfl) ?_
    refine va_slen hx hb hX hbl hbA hS dL_law_20 ?_
    refine lv_bipush (v := 6) hx hb dL_law_21 (by decide) ?_
    refine lv_isub hx hb dL_law_23 ?_
    refine lv_icmp_gt (tgt := 1063) hx hb dL_law_24 (by decide) (fun h9 => ?_) (fun h9 => ?_)
    rotate_left
    · exact absurd ((scr_gt hLL (by omega)).mpr (by omega)) h9
    refine W.widen (k := 600000) (n := 7302250) (by omega) (by omega) ?_
    refine va_forget (fun z hz => hA2 _ (hS.2.2 z hz)) ?_
    refine lv_iconst (v := 1) hx hb dL_law_1063 (by decide) ?_
    exact lw_ret (d0 := s.drawn) (Drawn.sameBut.refl s.drawn lw_cs) hx hb hr hlocks dL_law_1064
  | succ r ih =>
    intro k hk σ H locs ls hI hL hS hl
    refine lv_iload_n hx hb dL_law_18 rfl (lv_at hl 3 rfl) ?_
    refine lv_aload_n hx hb dL_law_19 rfl (lv_at hl 0 rfl) ?_
    refine va_slen hx hb hX hbl hbA hS dL_law_20 ?_
    refine lv_bipush (v := 6) hx hb dL_law_21 (by decide) ?_
    refine lv_isub hx hb dL_law_23 ?_
    refine lv_icmp_gt (tgt := 1063) hx hb dL_law_24 (by decide) (fun h9 => ?_) (fun h9 => ?_)
    · refine W.widen (k := 600000) (n := 7302250) (by omega) (by omega) ?_
      refine va_forget (fun z hz => hA2 _ (hS.2.2 z hz)) ?_
      refine lv_iconst (v := 1) hx hb dL_law_1063 (by decide) ?_
      exact lw_ret (d0 := s.drawn) (Drawn.sameBut.refl s.drawn lw_cs) hx hb hr hlocks dL_law_1064
    rw [scr_gt hLL (by omega)] at h9
    obtain ⟨x0, hx0⟩ : ∃ x, xs (6 * k) = x := ⟨_, rfl⟩
    obtain ⟨x1, hx1⟩ : ∃ x, xs (6 * k + 1) = x := ⟨_, rfl⟩
    obtain ⟨x2, hx2⟩ : ∃ x, xs (6 * k + 2) = x := ⟨_, rfl⟩
    obtain ⟨x3, hx3⟩ : ∃ x, xs (6 * k + 3) = x := ⟨_, rfl⟩
    obtain ⟨x4, hx4⟩ : ∃ x, xs (6 * k + 4) = x := ⟨_, rfl⟩
    obtain ⟨x5, hx5⟩ : ∃ x, xs (6 * k + 5) = x := ⟨_, rfl⟩
    have fin : ∀ (τ : St) (H : Heap) (locs : List Loc) (cells slots : Nat) (ls : Array Slot), Inv τ (k + 1) → LW dC dI ad cJ cG cK cR cI cZ cD A t0 m0 τ τ H → va_S A s.heap H locs → lv_has ls 4 [(0, .ref b), (1, .ref t0), (2, .ref m0), (3, .int (nI (6 * k)))] → cells ≤ 14 + 2 * (k + 1) → slots ≤ 67262 + 14 * (k + 1) → W p l e room_1 s m #[Value.ref b] below meth c H locs cells slots (lw_Z below #[Value.ref b] s) (F0 m 1057 ls []) := by
      intro τ H locs cells slots ls hI hL hS hl g1 g2
      refine lv_iinc (v := nI (6 * (k + 1))) (lv' := [(3, .int (nI (6 * (k + 1)))), (0, .ref b), (1, .ref t0), (2, .ref m0)]) hx hb dL_law_1057 hl (k := 3) rfl (by rw [show Int32.ofInt 6 = nI 6 from rfl, nI_add, show 6 * (k + 1) = 6 * k + 6 by omega]) (by decide) rfl (fun ls hl => ?_)
      refine lv_goto (tgt := 18) hx hb dL_law_1060 (by decide) ?_
      refine W.widen g1 g2 ?_
      exact ih (k + 1) (by omega) τ H locs ls hI hL hS (lv_sub hl [1, 2, 3, 0] rfl)
    refine lv_aload_n hx hb dL_law_27 rfl (lv_at hl 0 rfl) ?_
    refine lv_iload_n hx hb dL_law_28 rfl (lv_at hl 3 rfl) ?_
    refine s_ld hx hb hX hbl hbA hS (j := 6 * k) rfl (by omega) hLL (v := x0) hx0 dL_law_29 ?_
    refine lv_bipush (v := 31) hx hb dL_law_30 (by decide) ?_
    refine lv_iand hx hb dL_law_32 ?_
    by_cases c_1 : (x0 &&& (31 : Int32)) = 0
    · refine lv_tableIn (off := 83) (tgt := 116) hx hb dL_law_33 (by rw [c_1]; decide) (by rw [c_1]; decide) (by rw [c_1]; rfl) (by decide) ?_
      refine lv_aload_n hx hb dL_law_116 rfl (lv_at hl 1 rfl) ?_
      refine lv_aload_n hx hb dL_law_117 rfl (lv_at hl 0 rfl) ?_
      refine lv_iload_n hx hb dL_law_118 rfl (lv_at hl 3 rfl) ?_
      refine lv_iconst (v := 1) hx hb dL_law_119 (by decide) ?_
      refine lv_iadd hx hb dL_law_120 ?_
      refine s_ld hx hb hX hbl hbA hS (j := 6 * k + 1) (by rw [show (1 : Int32) = nI 1 from rfl, nI_add]) (by omega) hLL (v := x1) hx1 dL_law_121 ?_
      refine lv_aload_n hx hb dL_law_122 rfl (lv_at hl 0 rfl) ?_
      refine lv_iload_n hx hb dL_law_123 rfl (lv_at hl 3 rfl) ?_
      refine lv_iconst (v := 2) hx hb dL_law_124 (by decide) ?_
      refine lv_iadd hx hb dL_law_125 ?_
      refine s_ld hx hb hX hbl hbA hS (j := 6 * k + 2) (by rw [show (2 : Int32) = nI 2 from rfl, nI_add]) (by omega) hLL (v := x2) hx2 dL_law_126 ?_
      refine lv_if_eq (tgt := 134) hx hb dL_law_127 (by decide) (fun c_2 => ?_) (fun c_2 => ?_)
      · refine lv_iconst (v := 0) hx hb dL_law_134 (by decide) ?_
        refine lv_aload_n hx hb dL_law_135 rfl (lv_at hl 0 rfl) ?_
        refine lv_iload_n hx hb dL_law_136 rfl (lv_at hl 3 rfl) ?_
        refine lv_iconst (v := 3) hx hb dL_law_137 (by decide) ?_
        refine lv_iadd hx hb dL_law_138 ?_
        refine s_ld hx hb hX hbl hbA hS (j := 6 * k + 3) (by rw [show (3 : Int32) = nI 3 from rfl, nI_add]) (by omega) hLL (v := x3) hx3 dL_law_139 ?_
        refine lc_T (mc := 2) (ms := 14) (oo := (oRow σ x1 false x3)) (As := [.int x1, .int (b2i false), .int x3]) (rest := []) ⟨hx, hb, hml, hown, hts⟩ (fun q fr fg fk L9 f ra rb ka kb hf hR sz => mX4_row l dC dI ad q cJ cG cK cR cI cZ cD fr fg fk L9 f ra rb ka kb hf σ hR k hI (by omega) sz x1 false x3) (cwV 3 hts gL_law_X4_row rfl rfl rfl (by decide +kernel) ⟨Nat.le_of_ble_eq_true rfl, Nat.le_of_ble_eq_true rfl⟩) hK hE hL hS hA rfl rfl hl.1 (Nat.le_of_ble_eq_true rfl) dL_law_140 ⟨by show _ ≤ 600000; omega, by show _ ≤ 7302250; omega⟩ (fun H locs hL hS => ?_)
        refine lv_aload_n hx hb dL_law_143 rfl (lv_at hl 2 rfl) ?_
        refine lv_aload_n hx hb dL_law_144 rfl (lv_at hl 0 rfl) ?_
        refine lv_iload_n hx hb dL_law_145 rfl (lv_at hl 3 rfl) ?_
        refine lv_iconst (v := 1) hx hb dL_law_146 (by decide) ?_
        refine lv_iadd hx hb dL_law_147 ?_
        refine s_ld hx hb hX hbl hbA hS (j := 6 * k + 1) (by rw [show (1 : Int32) = nI 1 from rfl, nI_add]) (by omega) hLL (v := x1) hx1 dL_law_148 ?_
        refine lv_aload_n hx hb dL_law_149 rfl (lv_at hl 0 rfl) ?_
        refine lv_iload_n hx hb dL_law_150 rfl (lv_at hl 3 rfl) ?_
        refine lv_iconst (v := 2) hx hb dL_law_151 (by decide) ?_
        refine lv_iadd hx hb dL_law_152 ?_
        refine s_ld hx hb hX hbl hbA hS (j := 6 * k + 2) (by rw [show (2 : Int32) = nI 2 from rfl, nI_add]) (by omega) hLL (v := x2) hx2 dL_law_153 ?_
        refine lv_if_eq (tgt := 161) hx hb dL_law_154 (by decide) (fun c_3 => ?_) (fun c_3 => ?_)
        rotate_left
        · exact absurd c_2 c_3
        refine lv_iconst (v := 0) hx hb dL_law_161 (by decide) ?_
        refine lv_aload_n hx hb dL_law_162 rfl (lv_at hl 0 rfl) ?_
        refine lv_iload_n hx hb dL_law_163 rfl (lv_at hl 3 rfl) ?_
        refine lv_iconst (v := 3) hx hb dL_law_164 (by decide) ?_
        refine lv_iadd hx hb dL_law_165 ?_
        refine s_ld hx hb hX hbl hbA hS (j := 6 * k + 3) (by rw [show (3 : Int32) = nI 3 from rfl, nI_add]) (by omega) hLL (v := x3) hx3 dL_law_166 ?_
        refine lc_M (oo := (oRow σ x1 false x3)) (As := [.int x1, .int (b2i false), .int x3]) (rest := [.int ((oRow σ x1 false x3).1)]) ⟨hx, hb, hml, hown, hts⟩ (fun q sz => mX5_row l dC dI q cJ cG cK cR cI cZ cD sz σ k hI (by omega) x1 false x3) (cwV 3 hts gL_law_X5_row rfl rfl rfl (by decide +kernel) ⟨Nat.le_of_ble_eq_true rfl, Nat.le_of_ble_eq_true rfl⟩) hK hL hS hA rfl rfl hl.1 (Nat.le_of_ble_eq_true rfl) dL_law_167 ⟨by show _ ≤ 600000; omega, by show _ ≤ 7302250; omega⟩ (fun H locs hL hS => ?_)
        refine lv_icmp_eq (tgt := 1057) hx hb dL_law_170 (by decide) (fun h9 => ?_) (fun h9 => absurd rfl h9)
        exact fin ((oRow σ x1 false x3).2) _ _ _ _ ls (I_oRow hI _ _ _) hL hS hl (by omega) (by omega)
      · refine lv_iconst (v := 1) hx hb dL_law_130 (by decide) ?_
        refine lv_goto (tgt := 135) hx hb dL_law_131 (by decide) ?_
        refine lv_aload_n hx hb dL_law_135 rfl (lv_at hl 0 rfl) ?_
        refine lv_iload_n hx hb dL_law_136 rfl (lv_at hl 3 rfl) ?_
        refine lv_iconst (v := 3) hx hb dL_law_137 (by decide) ?_
        refine lv_iadd hx hb dL_law_138 ?_
        refine s_ld hx hb hX hbl hbA hS (j := 6 * k + 3) (by rw [show (3 : Int32) = nI 3 from rfl, nI_add]) (by omega) hLL (v := x3) hx3 dL_law_139 ?_
        refine lc_T (mc := 2) (ms := 14) (oo := (oRow σ x1 true x3)) (As := [.int x1, .int (b2i true), .int x3]) (rest := []) ⟨hx, hb, hml, hown, hts⟩ (fun q fr fg fk L9 f ra rb ka kb hf hR sz => mX4_row l dC dI ad q cJ cG cK cR cI cZ cD fr fg fk L9 f ra rb ka kb hf σ hR k hI (by omega) sz x1 true x3) (cwV 3 hts gL_law_X4_row rfl rfl rfl (by decide +kernel) ⟨Nat.le_of_ble_eq_true rfl, Nat.le_of_ble_eq_true rfl⟩) hK hE hL hS hA rfl rfl hl.1 (Nat.le_of_ble_eq_true rfl) dL_law_140 ⟨by show _ ≤ 600000; omega, by show _ ≤ 7302250; omega⟩ (fun H locs hL hS => ?_)
        refine lv_aload_n hx hb dL_law_143 rfl (lv_at hl 2 rfl) ?_
        refine lv_aload_n hx hb dL_law_144 rfl (lv_at hl 0 rfl) ?_
        refine lv_iload_n hx hb dL_law_145 rfl (lv_at hl 3 rfl) ?_
        refine lv_iconst (v := 1) hx hb dL_law_146 (by decide) ?_
        refine lv_iadd hx hb dL_law_147 ?_
        refine s_ld hx hb hX hbl hbA hS (j := 6 * k + 1) (by rw [show (1 : Int32) = nI 1 from rfl, nI_add]) (by omega) hLL (v := x1) hx1 dL_law_148 ?_
        refine lv_aload_n hx hb dL_law_149 rfl (lv_at hl 0 rfl) ?_
        refine lv_iload_n hx hb dL_law_150 rfl (lv_at hl 3 rfl) ?_
        refine lv_iconst (v := 2) hx hb dL_law_151 (by decide) ?_
        refine lv_iadd hx hb dL_law_152 ?_
        refine s_ld hx hb hX hbl hbA hS (j := 6 * k + 2) (by rw [show (2 : Int32) = nI 2 from rfl, nI_add]) (by omega) hLL (v := x2) hx2 dL_law_153 ?_
        refine lv_if_eq (tgt := 161) hx hb dL_law_154 (by decide) (fun c_4 => ?_) (fun c_4 => ?_)
        · exact absurd c_4 c_2
        refine lv_iconst (v := 1) hx hb dL_law_157 (by decide) ?_
        refine lv_goto (tgt := 162) hx hb dL_law_158 (by decide) ?_
        refine lv_aload_n hx hb dL_law_162 rfl (lv_at hl 0 rfl) ?_
        refine lv_iload_n hx hb dL_law_163 rfl (lv_at hl 3 rfl) ?_
        refine lv_iconst (v := 3) hx hb dL_law_164 (by decide) ?_
        refine lv_iadd hx hb dL_law_165 ?_
        refine s_ld hx hb hX hbl hbA hS (j := 6 * k + 3) (by rw [show (3 : Int32) = nI 3 from rfl, nI_add]) (by omega) hLL (v := x3) hx3 dL_law_166 ?_
        refine lc_M (oo := (oRow σ x1 true x3)) (As := [.int x1, .int (b2i true), .int x3]) (rest := [.int ((oRow σ x1 true x3).1)]) ⟨hx, hb, hml, hown, hts⟩ (fun q sz => mX5_row l dC dI q cJ cG cK cR cI cZ cD sz σ k hI (by omega) x1 true x3) (cwV 3 hts gL_law_X5_row rfl rfl rfl (by decide +kernel) ⟨Nat.le_of_ble_eq_true rfl, Nat.le_of_ble_eq_true rfl⟩) hK hL hS hA rfl rfl hl.1 (Nat.le_of_ble_eq_true rfl) dL_law_167 ⟨by show _ ≤ 600000; omega, by show _ ≤ 7302250; omega⟩ (fun H locs hL hS => ?_)
        refine lv_icmp_eq (tgt := 1057) hx hb dL_law_170 (by decide) (fun h9 => ?_) (fun h9 => absurd rfl h9)
        exact fin ((oRow σ x1 true x3).2) _ _ _ _ ls (I_oRow hI _ _ _) hL hS hl (by omega) (by omega)
    · by_cases c_5 : (x0 &&& (31 : Int32)) = 1
      · refine lv_tableIn (off := 142) (tgt := 175) hx hb dL_law_33 (by rw [c_5]; decide) (by rw [c_5]; decide) (by rw [c_5]; rfl) (by decide) ?_
        refine lv_aload_n hx hb dL_law_175 rfl (lv_at hl 1 rfl) ?_
        refine lv_aload_n hx hb dL_law_176 rfl (lv_at hl 0 rfl) ?_
        refine lv_iload_n hx hb dL_law_177 rfl (lv_at hl 3 rfl) ?_
        refine lv_iconst (v := 1) hx hb dL_law_178 (by decide) ?_
        refine lv_iadd hx hb dL_law_179 ?_
        refine s_ld hx hb hX hbl hbA hS (j := 6 * k + 1) (by rw [show (1 : Int32) = nI 1 from rfl, nI_add]) (by omega) hLL (v := x1) hx1 dL_law_180 ?_
        refine lv_aload_n hx hb dL_law_181 rfl (lv_at hl 0 rfl) ?_
        refine lv_iload_n hx hb dL_law_182 rfl (lv_at hl 3 rfl) ?_
        refine lv_iconst (v := 2) hx hb dL_law_183 (by decide) ?_
        refine lv_iadd hx hb dL_law_184 ?_
        refine s_ld hx hb hX hbl hbA hS (j := 6 * k + 2) (by rw [show (2 : Int32) = nI 2 from rfl, nI_add]) (by omega) hLL (v := x2) hx2 dL_law_185 ?_
        refine lc_T (mc := 0) (ms := 0) (oo := (oShare σ x1 x2)) (As := [.int x1, .int x2]) (rest := []) ⟨hx, hb, hml, hown, hts⟩ (fun q fr fg fk L9 f ra rb ka kb hf hR sz => mX4_share l dC dI ad q cJ cG cK cR cI cZ cD fr fg fk L9 f ra rb ka kb hf σ hR k hI (by omega) sz x1 x2) (cwV 2 hts gL_law_X4_share rfl rfl rfl (by decide +kernel) ⟨Nat.le_of_ble_eq_true rfl, Nat.le_of_ble_eq_true rfl⟩) hK hE hL hS hA rfl rfl hl.1 (Nat.le_of_ble_eq_true rfl) dL_law_186 ⟨by show _ ≤ 600000; omega, by show _ ≤ 7302250; omega⟩ (fun H locs hL hS => ?_)
        refine lv_aload_n hx hb dL_law_189 rfl (lv_at hl 2 rfl) ?_
        refine lv_aload_n hx hb dL_law_190 rfl (lv_at hl 0 rfl) ?_
        refine lv_iload_n hx hb dL_law_191 rfl (lv_at hl 3 rfl) ?_
        refine lv_iconst (v := 1) hx hb dL_law_192 (by decide) ?_
        refine lv_iadd hx hb dL_law_193 ?_
        refine s_ld hx hb hX hbl hbA hS (j := 6 * k + 1) (by rw [show (1 : Int32) = nI 1 from rfl, nI_add]) (by omega) hLL (v := x1) hx1 dL_law_194 ?_
        refine lv_aload_n hx hb dL_law_195 rfl (lv_at hl 0 rfl) ?_
        refine lv_iload_n hx hb dL_law_196 rfl (lv_at hl 3 rfl) ?_
        refine lv_iconst (v := 2) hx hb dL_law_197 (by decide) ?_
        refine lv_iadd hx hb dL_law_198 ?_
        refine s_ld hx hb hX hbl hbA hS (j := 6 * k + 2) (by rw [show (2 : Int32) = nI 2 from rfl, nI_add]) (by omega) hLL (v := x2) hx2 dL_law_199 ?_
        refine lc_M (oo := (oShare σ x1 x2)) (As := [.int x1, .int x2]) (rest := [.int ((oShare σ x1 x2).1)]) ⟨hx, hb, hml, hown, hts⟩ (fun q sz => mX5_share l dC dI q cJ cG cK cR cI cZ cD sz σ k hI (by omega) x1 x2) (cwV 2 hts gL_law_X5_share rfl rfl rfl (by decide +kernel) ⟨Nat.le_of_ble_eq_true rfl, Nat.le_of_ble_eq_true rfl⟩) hK hL hS hA rfl rfl hl.1 (Nat.le_of_ble_eq_true rfl) dL_law_200 ⟨by show _ ≤ 600000; omega, by show _ ≤ 7302250; omega⟩ (fun H locs hL hS => ?_)
        refine lv_icmp_eq (tgt := 1057) hx hb dL_law_203 (by decide) (fun h9 => ?_) (fun h9 => absurd rfl h9)
        exact fin ((oShare σ x1 x2).2) _ _ _ _ ls (I_oShare hI _ _) hL hS hl (by omega) (by omega)
      · by_cases c_6 : (x0 &&& (31 : Int32)) = 2
        · refine lv_tableIn (off := 175) (tgt := 208) hx hb dL_law_33 (by rw [c_6]; decide) (by rw [c_6]; decide) (by rw [c_6]; rfl) (by decide) ?_
          refine lv_aload_n hx hb dL_law_208 rfl (lv_at hl 1 rfl) ?_
          refine lv_aload_n hx hb dL_law_209 rfl (lv_at hl 0 rfl) ?_
          refine lv_iload_n hx hb dL_law_210 rfl (lv_at hl 3 rfl) ?_
          refine lv_iconst (v := 1) hx hb dL_law_211 (by decide) ?_
          refine lv_iadd hx hb dL_law_212 ?_
          refine s_ld hx hb hX hbl hbA hS (j := 6 * k + 1) (by rw [show (1 : Int32) = nI 1 from rfl, nI_add]) (by omega) hLL (v := x1) hx1 dL_law_213 ?_
          refine lc_T (mc := 0) (ms := 0) (oo := (oClear σ x1)) (As := [.int x1]) (rest := []) ⟨hx, hb, hml, hown, hts⟩ (fun q fr fg fk L9 f ra rb ka kb hf hR sz => mX4_clear l dC dI ad q cJ cG cK cR cI cZ cD fr fg fk L9 f ra rb ka kb hf σ hR k hI (by omega) sz x1) (cwV 1 hts gL_law_X4_clear rfl rfl rfl (by decide +kernel) ⟨Nat.le_of_ble_eq_true rfl, Nat.le_of_ble_eq_true rfl⟩) hK hE hL hS hA rfl rfl hl.1 (Nat.le_of_ble_eq_true rfl) dL_law_214 ⟨by show _ ≤ 600000; omega, by show _ ≤ 7302250; omega⟩ (fun H locs hL hS => ?_)
          refine lv_aload_n hx hb dL_law_217 rfl (lv_at hl 2 rfl) ?_
          refine lv_aload_n hx hb dL_law_218 rfl (lv_at hl 0 rfl) ?_
          refine lv_iload_n hx hb dL_law_219 rfl (lv_at hl 3 rfl) ?_
          refine lv_iconst (v := 1) hx hb dL_law_220 (by decide) ?_
          refine lv_iadd hx hb dL_law_221 ?_
          refine s_ld hx hb hX hbl hbA hS (j := 6 * k + 1) (by rw [show (1 : Int32) = nI 1 from rfl, nI_add]) (by omega) hLL (v := x1) hx1 dL_law_222 ?_
          refine lc_M (oo := (oClear σ x1)) (As := [.int x1]) (rest := [.int ((oClear σ x1).1)]) ⟨hx, hb, hml, hown, hts⟩ (fun q sz => mX5_clear l dC dI q cJ cG cK cR cI cZ cD sz σ k hI (by omega) x1) (cwV 1 hts gL_law_X5_clear rfl rfl rfl (by decide +kernel) ⟨Nat.le_of_ble_eq_true rfl, Nat.le_of_ble_eq_true rfl⟩) hK hL hS hA rfl rfl hl.1 (Nat.le_of_ble_eq_true rfl) dL_law_223 ⟨by show _ ≤ 600000; omega, by show _ ≤ 7302250; omega⟩ (fun H locs hL hS => ?_)
          refine lv_icmp_eq (tgt := 1057) hx hb dL_law_226 (by decide) (fun h9 => ?_) (fun h9 => absurd rfl h9)
          exact fin ((oClear σ x1).2) _ _ _ _ ls (I_oClear hI _) hL hS hl (by omega) (by omega)
        · by_cases c_7 : (x0 &&& (31 : Int32)) = 3
          · refine lv_tableIn (off := 198) (tgt := 231) hx hb dL_law_33 (by rw [c_7]; decide) (by rw [c_7]; decide) (by rw [c_7]; rfl) (by decide) ?_
            refine lv_aload_n hx hb dL_law_231 rfl (lv_at hl 1 rfl) ?_
            refine lv_aload_n hx hb dL_law_232 rfl (lv_at hl 0 rfl) ?_
            refine lv_iload_n hx hb dL_law_233 rfl (lv_at hl 3 rfl) ?_
            refine lv_iconst (v := 1) hx hb dL_law_234 (by decide) ?_
            refine lv_iadd hx hb dL_law_235 ?_
            refine s_ld hx hb hX hbl hbA hS (j := 6 * k + 1) (by rw [show (1 : Int32) = nI 1 from rfl, nI_add]) (by omega) hLL (v := x1) hx1 dL_law_236 ?_
            refine lv_aload_n hx hb dL_law_237 rfl (lv_at hl 0 rfl) ?_
            refine lv_iload_n hx hb dL_law_238 rfl (lv_at hl 3 rfl) ?_
            refine lv_iconst (v := 2) hx hb dL_law_239 (by decide) ?_
            refine lv_iadd hx hb dL_law_240 ?_
            refine s_ld hx hb hX hbl hbA hS (j := 6 * k + 2) (by rw [show (2 : Int32) = nI 2 from rfl, nI_add]) (by omega) hLL (v := x2) hx2 dL_law_241 ?_
            refine lv_if_eq (tgt := 249) hx hb dL_law_242 (by decide) (fun c_8 => ?_) (fun c_8 => ?_)
            · refine lv_iconst (v := 0) hx hb dL_law_249 (by decide) ?_
              refine lv_aload_n hx hb dL_law_250 rfl (lv_at hl 0 rfl) ?_
              refine lv_iload_n hx hb dL_law_251 rfl (lv_at hl 3 rfl) ?_
              refine lv_iconst (v := 3) hx hb dL_law_252 (by decide) ?_
              refine lv_iadd hx hb dL_law_253 ?_
              refine s_ld hx hb hX hbl hbA hS (j := 6 * k + 3) (by rw [show (3 : Int32) = nI 3 from rfl, nI_add]) (by omega) hLL (v := x3) hx3 dL_law_254 ?_
              refine lv_aload_n hx hb dL_law_255 rfl (lv_at hl 0 rfl) ?_
              refine lv_iload_n hx hb dL_law_256 rfl (lv_at hl 3 rfl) ?_
              refine lv_iconst (v := 4) hx hb dL_law_257 (by decide) ?_
              refine lv_iadd hx hb dL_law_258 ?_
              refine s_ld hx hb hX hbl hbA hS (j := 6 * k + 4) (by rw [show (4 : Int32) = nI 4 from rfl, nI_add]) (by omega) hLL (v := x4) hx4 dL_law_259 ?_
              refine lv_i2l hx hb dL_law_260 rfl ?_
              refine lv_bipush (v := 32) hx hb dL_law_261 (by decide) ?_
              refine lv_lshl hx hb dL_law_263 rfl ?_
              refine lv_aload_n hx hb dL_law_264 rfl (lv_at hl 0 rfl) ?_
              refine lv_iload_n hx hb dL_law_265 rfl (lv_at hl 3 rfl) ?_
              refine lv_iconst (v := 5) hx hb dL_law_266 (by decide) ?_
              refine lv_iadd hx hb dL_law_267 ?_
              refine s_ld hx hb hX hbl hbA hS (j := 6 * k + 5) (by rw [show (5 : Int32) = nI 5 from rfl, nI_add]) (by omega) hLL (v := x5) hx5 dL_law_268 ?_
              refine lv_i2l hx hb dL_law_269 rfl ?_
              refine lv_ldc2 hx hb hown (hts (.constantLong RL 28 (4294967295)) (List.mem_of_getElem? (i := 6) rfl)) dL_law_270 ?_
              refine lv_land hx hb dL_law_273 ?_
              refine lv_lor hx hb dL_law_274 ?_
              refine lc_T (mc := 0) (ms := 0) (oo := (oPut σ x1 false x3 ((x4.toInt64 <<< ((32 : Int32).toInt64 &&& 63)) ||| (x5.toInt64 &&& (4294967295 : Int64))))) (As := [.int x1, .int (b2i false), .int x3, .long ((x4.toInt64 <<< ((32 : Int32).toInt64 &&& 63)) ||| (x5.toInt64 &&& (4294967295 : Int64)))]) (rest := []) ⟨hx, hb, hml, hown, hts⟩ (fun q fr fg fk L9 f ra rb ka kb hf hR sz => mX4_put l dC dI ad q cJ cG cK cR cI cZ cD fr fg fk L9 f ra rb ka kb hf σ hR k hI (by omega) sz x1 false x3 ((x4.toInt64 <<< ((32 : Int32).toInt64 &&& 63)) ||| (x5.toInt64 &&& (4294967295 : Int64)))) (cwV 4 hts gL_law_X4_put rfl rfl rfl (by decide +kernel) ⟨Nat.le_of_ble_eq_true rfl, Nat.le_of_ble_eq_true rfl⟩) hK hE hL hS hA rfl rfl hl.1 (Nat.le_of_ble_eq_true rfl) dL_law_275 ⟨by show _ ≤ 600000; omega, by show _ ≤ 7302250; omega⟩ (fun H locs hL hS => ?_)
              refine lv_aload_n hx hb dL_law_278 rfl (lv_at hl 2 rfl) ?_
              refine lv_aload_n hx hb dL_law_279 rfl (lv_at hl 0 rfl) ?_
              refine lv_iload_n hx hb dL_law_280 rfl (lv_at hl 3 rfl) ?_
              refine lv_iconst (v := 1) hx hb dL_law_281 (by decide) ?_
              refine lv_iadd hx hb dL_law_282 ?_
              refine s_ld hx hb hX hbl hbA hS (j := 6 * k + 1) (by rw [show (1 : Int32) = nI 1 from rfl, nI_add]) (by omega) hLL (v := x1) hx1 dL_law_283 ?_
              refine lv_aload_n hx hb dL_law_284 rfl (lv_at hl 0 rfl) ?_
              refine lv_iload_n hx hb dL_law_285 rfl (lv_at hl 3 rfl) ?_
              refine lv_iconst (v := 2) hx hb dL_law_286 (by decide) ?_
              refine lv_iadd hx hb dL_law_287 ?_
              refine s_ld hx hb hX hbl hbA hS (j := 6 * k + 2) (by rw [show (2 : Int32) = nI 2 from rfl, nI_add]) (by omega) hLL (v := x2) hx2 dL_law_288 ?_
              refine lv_if_eq (tgt := 296) hx hb dL_law_289 (by decide) (fun c_9 => ?_) (fun c_9 => ?_)
              rotate_left
              · exact absurd c_8 c_9
              refine lv_iconst (v := 0) hx hb dL_law_296 (by decide) ?_
              refine lv_aload_n hx hb dL_law_297 rfl (lv_at hl 0 rfl) ?_
              refine lv_iload_n hx hb dL_law_298 rfl (lv_at hl 3 rfl) ?_
              refine lv_iconst (v := 3) hx hb dL_law_299 (by decide) ?_
              refine lv_iadd hx hb dL_law_300 ?_
              refine s_ld hx hb hX hbl hbA hS (j := 6 * k + 3) (by rw [show (3 : Int32) = nI 3 from rfl, nI_add]) (by omega) hLL (v := x3) hx3 dL_law_301 ?_
              refine lv_aload_n hx hb dL_law_302 rfl (lv_at hl 0 rfl) ?_
              refine lv_iload_n hx hb dL_law_303 rfl (lv_at hl 3 rfl) ?_
              refine lv_iconst (v := 4) hx hb dL_law_304 (by decide) ?_
              refine lv_iadd hx hb dL_law_305 ?_
              refine s_ld hx hb hX hbl hbA hS (j := 6 * k + 4) (by rw [show (4 : Int32) = nI 4 from rfl, nI_add]) (by omega) hLL (v := x4) hx4 dL_law_306 ?_
              refine lv_i2l hx hb dL_law_307 rfl ?_
              refine lv_bipush (v := 32) hx hb dL_law_308 (by decide) ?_
              refine lv_lshl hx hb dL_law_310 rfl ?_
              refine lv_aload_n hx hb dL_law_311 rfl (lv_at hl 0 rfl) ?_
              refine lv_iload_n hx hb dL_law_312 rfl (lv_at hl 3 rfl) ?_
              refine lv_iconst (v := 5) hx hb dL_law_313 (by decide) ?_
              refine lv_iadd hx hb dL_law_314 ?_
              refine s_ld hx hb hX hbl hbA hS (j := 6 * k + 5) (by rw [show (5 : Int32) = nI 5 from rfl, nI_add]) (by omega) hLL (v := x5) hx5 dL_law_315 ?_
              refine lv_i2l hx hb dL_law_316 rfl ?_
              refine lv_ldc2 hx hb hown (hts (.constantLong RL 28 (4294967295)) (List.mem_of_getElem? (i := 6) rfl)) dL_law_317 ?_
              refine lv_land hx hb dL_law_320 ?_
              refine lv_lor hx hb dL_law_321 ?_
              refine lc_M (oo := (oPut σ x1 false x3 ((x4.toInt64 <<< ((32 : Int32).toInt64 &&& 63)) ||| (x5.toInt64 &&& (4294967295 : Int64))))) (As := [.int x1, .int (b2i false), .int x3, .long ((x4.toInt64 <<< ((32 : Int32).toInt64 &&& 63)) ||| (x5.toInt64 &&& (4294967295 : Int64)))]) (rest := [.int ((oPut σ x1 false x3 ((x4.toInt64 <<< ((32 : Int32).toInt64 &&& 63)) ||| (x5.toInt64 &&& (4294967295 : Int64)))).1)]) ⟨hx, hb, hml, hown, hts⟩ (fun q sz => mX5_put l dC dI q cJ cG cK cR cI cZ cD sz σ k hI (by omega) x1 false x3 ((x4.toInt64 <<< ((32 : Int32).toInt64 &&& 63)) ||| (x5.toInt64 &&& (4294967295 : Int64)))) (cwV 4 hts gL_law_X5_put rfl rfl rfl (by decide +kernel) ⟨Nat.le_of_ble_eq_true rfl, Nat.le_of_ble_eq_true rfl⟩) hK hL hS hA rfl rfl hl.1 (Nat.le_of_ble_eq_true rfl) dL_law_322 ⟨by show _ ≤ 600000; omega, by show _ ≤ 7302250; omega⟩ (fun H locs hL hS => ?_)
              refine lv_icmp_eq (tgt := 1057) hx hb dL_law_325 (by decide) (fun h9 => ?_) (fun h9 => absurd rfl h9)
              exact fin ((oPut σ x1 false x3 ((x4.toInt64 <<< ((32 : Int32).toInt64 &&& 63)) ||| (x5.toInt64 &&& (4294967295 : Int64)))).2) _ _ _ _ ls (I_oPut hI _ _ _ _) hL hS hl (by omega) (by omega)
            · refine lv_iconst (v := 1) hx hb dL_law_245 (by decide) ?_
              refine lv_goto (tgt := 250) hx hb dL_law_246 (by decide) ?_
              refine lv_aload_n hx hb dL_law_250 rfl (lv_at hl 0 rfl) ?_
              refine lv_iload_n hx hb dL_law_251 rfl (lv_at hl 3 rfl) ?_
              refine lv_iconst (v := 3) hx hb dL_law_252 (by decide) ?_
              refine lv_iadd hx hb dL_law_253 ?_
              refine s_ld hx hb hX hbl hbA hS (j := 6 * k + 3) (by rw [show (3 : Int32) = nI 3 from rfl, nI_add]) (by omega) hLL (v := x3) hx3 dL_law_254 ?_
              refine lv_aload_n hx hb dL_law_255 rfl (lv_at hl 0 rfl) ?_
              refine lv_iload_n hx hb dL_law_256 rfl (lv_at hl 3 rfl) ?_
              refine lv_iconst (v := 4) hx hb dL_law_257 (by decide) ?_
              refine lv_iadd hx hb dL_law_258 ?_
              refine s_ld hx hb hX hbl hbA hS (j := 6 * k + 4) (by rw [show (4 : Int32) = nI 4 from rfl, nI_add]) (by omega) hLL (v := x4) hx4 dL_law_259 ?_
              refine lv_i2l hx hb dL_law_260 rfl ?_
              refine lv_bipush (v := 32) hx hb dL_law_261 (by decide) ?_
              refine lv_lshl hx hb dL_law_263 rfl ?_
              refine lv_aload_n hx hb dL_law_264 rfl (lv_at hl 0 rfl) ?_
              refine lv_iload_n hx hb dL_law_265 rfl (lv_at hl 3 rfl) ?_
              refine lv_iconst (v := 5) hx hb dL_law_266 (by decide) ?_
              refine lv_iadd hx hb dL_law_267 ?_
              refine s_ld hx hb hX hbl hbA hS (j := 6 * k + 5) (by rw [show (5 : Int32) = nI 5 from rfl, nI_add]) (by omega) hLL (v := x5) hx5 dL_law_268 ?_
              refine lv_i2l hx hb dL_law_269 rfl ?_
              refine lv_ldc2 hx hb hown (hts (.constantLong RL 28 (4294967295)) (List.mem_of_getElem? (i := 6) rfl)) dL_law_270 ?_
              refine lv_land hx hb dL_law_273 ?_
              refine lv_lor hx hb dL_law_274 ?_
              refine lc_T (mc := 0) (ms := 0) (oo := (oPut σ x1 true x3 ((x4.toInt64 <<< ((32 : Int32).toInt64 &&& 63)) ||| (x5.toInt64 &&& (4294967295 : Int64))))) (As := [.int x1, .int (b2i true), .int x3, .long ((x4.toInt64 <<< ((32 : Int32).toInt64 &&& 63)) ||| (x5.toInt64 &&& (4294967295 : Int64)))]) (rest := []) ⟨hx, hb, hml, hown, hts⟩ (fun q fr fg fk L9 f ra rb ka kb hf hR sz => mX4_put l dC dI ad q cJ cG cK cR cI cZ cD fr fg fk L9 f ra rb ka kb hf σ hR k hI (by omega) sz x1 true x3 ((x4.toInt64 <<< ((32 : Int32).toInt64 &&& 63)) ||| (x5.toInt64 &&& (4294967295 : Int64)))) (cwV 4 hts gL_law_X4_put rfl rfl rfl (by decide +kernel) ⟨Nat.le_of_ble_eq_true rfl, Nat.le_of_ble_eq_true rfl⟩) hK hE hL hS hA rfl rfl hl.1 (Nat.le_of_ble_eq_true rfl) dL_law_275 ⟨by show _ ≤ 600000; omega, by show _ ≤ 7302250; omega⟩ (fun H locs hL hS => ?_)
              refine lv_aload_n hx hb dL_law_278 rfl (lv_at hl 2 rfl) ?_
              refine lv_aload_n hx hb dL_law_279 rfl (lv_at hl 0 rfl) ?_
              refine lv_iload_n hx hb dL_law_280 rfl (lv_at hl 3 rfl) ?_
              refine lv_iconst (v := 1) hx hb dL_law_281 (by decide) ?_
              refine lv_iadd hx hb dL_law_282 ?_
              refine s_ld hx hb hX hbl hbA hS (j := 6 * k + 1) (by rw [show (1 : Int32) = nI 1 from rfl, nI_add]) (by omega) hLL (v := x1) hx1 dL_law_283 ?_
              refine lv_aload_n hx hb dL_law_284 rfl (lv_at hl 0 rfl) ?_
              refine lv_iload_n hx hb dL_law_285 rfl (lv_at hl 3 rfl) ?_
              refine lv_iconst (v := 2) hx hb dL_law_286 (by decide) ?_
              refine lv_iadd hx hb dL_law_287 ?_
              refine s_ld hx hb hX hbl hbA hS (j := 6 * k + 2) (by rw [show (2 : Int32) = nI 2 from rfl, nI_add]) (by omega) hLL (v := x2) hx2 dL_law_288 ?_
              refine lv_if_eq (tgt := 296) hx hb dL_law_289 (by decide) (fun c_10 => ?_) (fun c_10 => ?_)
              · exact absurd c_10 c_8
              refine lv_iconst (v := 1) hx hb dL_law_292 (by decide) ?_
              refine lv_goto (tgt := 297) hx hb dL_law_293 (by decide) ?_
              refine lv_aload_n hx hb dL_law_297 rfl (lv_at hl 0 rfl) ?_
              refine lv_iload_n hx hb dL_law_298 rfl (lv_at hl 3 rfl) ?_
              refine lv_iconst (v := 3) hx hb dL_law_299 (by decide) ?_
              refine lv_iadd hx hb dL_law_300 ?_
              refine s_ld hx hb hX hbl hbA hS (j := 6 * k + 3) (by rw [show (3 : Int32) = nI 3 from rfl, nI_add]) (by omega) hLL (v := x3) hx3 dL_law_301 ?_
              refine lv_aload_n hx hb dL_law_302 rfl (lv_at hl 0 rfl) ?_
              refine lv_iload_n hx hb dL_law_303 rfl (lv_at hl 3 rfl) ?_
              refine lv_iconst (v := 4) hx hb dL_law_304 (by decide) ?_
              refine lv_iadd hx hb dL_law_305 ?_
              refine s_ld hx hb hX hbl hbA hS (j := 6 * k + 4) (by rw [show (4 : Int32) = nI 4 from rfl, nI_add]) (by omega) hLL (v := x4) hx4 dL_law_306 ?_
              refine lv_i2l hx hb dL_law_307 rfl ?_
              refine lv_bipush (v := 32) hx hb dL_law_308 (by decide) ?_
              refine lv_lshl hx hb dL_law_310 rfl ?_
              refine lv_aload_n hx hb dL_law_311 rfl (lv_at hl 0 rfl) ?_
              refine lv_iload_n hx hb dL_law_312 rfl (lv_at hl 3 rfl) ?_
              refine lv_iconst (v := 5) hx hb dL_law_313 (by decide) ?_
              refine lv_iadd hx hb dL_law_314 ?_
              refine s_ld hx hb hX hbl hbA hS (j := 6 * k + 5) (by rw [show (5 : Int32) = nI 5 from rfl, nI_add]) (by omega) hLL (v := x5) hx5 dL_law_315 ?_
              refine lv_i2l hx hb dL_law_316 rfl ?_
              refine lv_ldc2 hx hb hown (hts (.constantLong RL 28 (4294967295)) (List.mem_of_getElem? (i := 6) rfl)) dL_law_317 ?_
              refine lv_land hx hb dL_law_320 ?_
              refine lv_lor hx hb dL_law_321 ?_
              refine lc_M (oo := (oPut σ x1 true x3 ((x4.toInt64 <<< ((32 : Int32).toInt64 &&& 63)) ||| (x5.toInt64 &&& (4294967295 : Int64))))) (As := [.int x1, .int (b2i true), .int x3, .long ((x4.toInt64 <<< ((32 : Int32).toInt64 &&& 63)) ||| (x5.toInt64 &&& (4294967295 : Int64)))]) (rest := [.int ((oPut σ x1 true x3 ((x4.toInt64 <<< ((32 : Int32).toInt64 &&& 63)) ||| (x5.toInt64 &&& (4294967295 : Int64)))).1)]) ⟨hx, hb, hml, hown, hts⟩ (fun q sz => mX5_put l dC dI q cJ cG cK cR cI cZ cD sz σ k hI (by omega) x1 true x3 ((x4.toInt64 <<< ((32 : Int32).toInt64 &&& 63)) ||| (x5.toInt64 &&& (4294967295 : Int64)))) (cwV 4 hts gL_law_X5_put rfl rfl rfl (by decide +kernel) ⟨Nat.le_of_ble_eq_true rfl, Nat.le_of_ble_eq_true rfl⟩) hK hL hS hA rfl rfl hl.1 (Nat.le_of_ble_eq_true rfl) dL_law_322 ⟨by show _ ≤ 600000; omega, by show _ ≤ 7302250; omega⟩ (fun H locs hL hS => ?_)
              refine lv_icmp_eq (tgt := 1057) hx hb dL_law_325 (by decide) (fun h9 => ?_) (fun h9 => absurd rfl h9)
              exact fin ((oPut σ x1 true x3 ((x4.toInt64 <<< ((32 : Int32).toInt64 &&& 63)) ||| (x5.toInt64 &&& (4294967295 : Int64)))).2) _ _ _ _ ls (I_oPut hI _ _ _ _) hL hS hl (by omega) (by omega)
          · by_cases c_11 : (x0 &&& (31 : Int32)) = 4
            · refine lv_tableIn (off := 297) (tgt := 330) hx hb dL_law_33 (by rw [c_11]; decide) (by rw [c_11]; decide) (by rw [c_11]; rfl) (by decide) ?_
              refine lv_aload_n hx hb dL_law_330 rfl (lv_at hl 1 rfl) ?_
              refine lv_aload_n hx hb dL_law_331 rfl (lv_at hl 0 rfl) ?_
              refine lv_iload_n hx hb dL_law_332 rfl (lv_at hl 3 rfl) ?_
              refine lv_iconst (v := 1) hx hb dL_law_333 (by decide) ?_
              refine lv_iadd hx hb dL_law_334 ?_
              refine s_ld hx hb hX hbl hbA hS (j := 6 * k + 1) (by rw [show (1 : Int32) = nI 1 from rfl, nI_add]) (by omega) hLL (v := x1) hx1 dL_law_335 ?_
              refine lv_aload_n hx hb dL_law_336 rfl (lv_at hl 0 rfl) ?_
              refine lv_iload_n hx hb dL_law_337 rfl (lv_at hl 3 rfl) ?_
              refine lv_iconst (v := 2) hx hb dL_law_338 (by decide) ?_
              refine lv_iadd hx hb dL_law_339 ?_
              refine s_ld hx hb hX hbl hbA hS (j := 6 * k + 2) (by rw [show (2 : Int32) = nI 2 from rfl, nI_add]) (by omega) hLL (v := x2) hx2 dL_law_340 ?_
              refine lv_if_eq (tgt := 348) hx hb dL_law_341 (by decide) (fun c_12 => ?_) (fun c_12 => ?_)
              · refine lv_iconst (v := 0) hx hb dL_law_348 (by decide) ?_
                refine lv_aload_n hx hb dL_law_349 rfl (lv_at hl 0 rfl) ?_
                refine lv_iload_n hx hb dL_law_350 rfl (lv_at hl 3 rfl) ?_
                refine lv_iconst (v := 3) hx hb dL_law_351 (by decide) ?_
                refine lv_iadd hx hb dL_law_352 ?_
                refine s_ld hx hb hX hbl hbA hS (j := 6 * k + 3) (by rw [show (3 : Int32) = nI 3 from rfl, nI_add]) (by omega) hLL (v := x3) hx3 dL_law_353 ?_
                refine lc_T (mc := 0) (ms := 0) (oo := (oGet σ x1 false x3)) (As := [.int x1, .int (b2i false), .int x3]) (rest := []) ⟨hx, hb, hml, hown, hts⟩ (fun q fr fg fk L9 f ra rb ka kb hf hR sz => mX4_get l dC dI ad q cJ cG cK cR cI cZ cD fr fg fk L9 f ra rb ka kb hf σ hR k hI (by omega) sz x1 false x3) (cwV 3 hts gL_law_X4_get rfl rfl rfl (by decide +kernel) ⟨Nat.le_of_ble_eq_true rfl, Nat.le_of_ble_eq_true rfl⟩) hK hE hL hS hA rfl rfl hl.1 (Nat.le_of_ble_eq_true rfl) dL_law_354 ⟨by show _ ≤ 600000; omega, by show _ ≤ 7302250; omega⟩ (fun H locs hL hS => ?_)
                refine lv_aload_n hx hb dL_law_357 rfl (lv_at hl 2 rfl) ?_
                refine lv_aload_n hx hb dL_law_358 rfl (lv_at hl 0 rfl) ?_
                refine lv_iload_n hx hb dL_law_359 rfl (lv_at hl 3 rfl) ?_
                refine lv_iconst (v := 1) hx hb dL_law_360 (by decide) ?_
                refine lv_iadd hx hb dL_law_361 ?_
                refine s_ld hx hb hX hbl hbA hS (j := 6 * k + 1) (by rw [show (1 : Int32) = nI 1 from rfl, nI_add]) (by omega) hLL (v := x1) hx1 dL_law_362 ?_
                refine lv_aload_n hx hb dL_law_363 rfl (lv_at hl 0 rfl) ?_
                refine lv_iload_n hx hb dL_law_364 rfl (lv_at hl 3 rfl) ?_
                refine lv_iconst (v := 2) hx hb dL_law_365 (by decide) ?_
                refine lv_iadd hx hb dL_law_366 ?_
                refine s_ld hx hb hX hbl hbA hS (j := 6 * k + 2) (by rw [show (2 : Int32) = nI 2 from rfl, nI_add]) (by omega) hLL (v := x2) hx2 dL_law_367 ?_
                refine lv_if_eq (tgt := 375) hx hb dL_law_368 (by decide) (fun c_13 => ?_) (fun c_13 => ?_)
                rotate_left
                · exact absurd c_12 c_13
                refine lv_iconst (v := 0) hx hb dL_law_375 (by decide) ?_
                refine lv_aload_n hx hb dL_law_376 rfl (lv_at hl 0 rfl) ?_
                refine lv_iload_n hx hb dL_law_377 rfl (lv_at hl 3 rfl) ?_
                refine lv_iconst (v := 3) hx hb dL_law_378 (by decide) ?_
                refine lv_iadd hx hb dL_law_379 ?_
                refine s_ld hx hb hX hbl hbA hS (j := 6 * k + 3) (by rw [show (3 : Int32) = nI 3 from rfl, nI_add]) (by omega) hLL (v := x3) hx3 dL_law_380 ?_
                refine lc_M (oo := (oGet σ x1 false x3)) (As := [.int x1, .int (b2i false), .int x3]) (rest := [.int ((oGet σ x1 false x3).1)]) ⟨hx, hb, hml, hown, hts⟩ (fun q sz => mX5_get l dC dI q cJ cG cK cR cI cZ cD sz σ k hI (by omega) x1 false x3) (cwV 3 hts gL_law_X5_get rfl rfl rfl (by decide +kernel) ⟨Nat.le_of_ble_eq_true rfl, Nat.le_of_ble_eq_true rfl⟩) hK hL hS hA rfl rfl hl.1 (Nat.le_of_ble_eq_true rfl) dL_law_381 ⟨by show _ ≤ 600000; omega, by show _ ≤ 7302250; omega⟩ (fun H locs hL hS => ?_)
                refine lv_icmp_eq (tgt := 1057) hx hb dL_law_384 (by decide) (fun h9 => ?_) (fun h9 => absurd rfl h9)
                exact fin ((oGet σ x1 false x3).2) _ _ _ _ ls (I_oGet hI _ _ _) hL hS hl (by omega) (by omega)
              · refine lv_iconst (v := 1) hx hb dL_law_344 (by decide) ?_
                refine lv_goto (tgt := 349) hx hb dL_law_345 (by decide) ?_
                refine lv_aload_n hx hb dL_law_349 rfl (lv_at hl 0 rfl) ?_
                refine lv_iload_n hx hb dL_law_350 rfl (lv_at hl 3 rfl) ?_
                refine lv_iconst (v := 3) hx hb dL_law_351 (by decide) ?_
                refine lv_iadd hx hb dL_law_352 ?_
                refine s_ld hx hb hX hbl hbA hS (j := 6 * k + 3) (by rw [show (3 : Int32) = nI 3 from rfl, nI_add]) (by omega) hLL (v := x3) hx3 dL_law_353 ?_
                refine lc_T (mc := 0) (ms := 0) (oo := (oGet σ x1 true x3)) (As := [.int x1, .int (b2i true), .int x3]) (rest := []) ⟨hx, hb, hml, hown, hts⟩ (fun q fr fg fk L9 f ra rb ka kb hf hR sz => mX4_get l dC dI ad q cJ cG cK cR cI cZ cD fr fg fk L9 f ra rb ka kb hf σ hR k hI (by omega) sz x1 true x3) (cwV 3 hts gL_law_X4_get rfl rfl rfl (by decide +kernel) ⟨Nat.le_of_ble_eq_true rfl, Nat.le_of_ble_eq_true rfl⟩) hK hE hL hS hA rfl rfl hl.1 (Nat.le_of_ble_eq_true rfl) dL_law_354 ⟨by show _ ≤ 600000; omega, by show _ ≤ 7302250; omega⟩ (fun H locs hL hS => ?_)
                refine lv_aload_n hx hb dL_law_357 rfl (lv_at hl 2 rfl) ?_
                refine lv_aload_n hx hb dL_law_358 rfl (lv_at hl 0 rfl) ?_
                refine lv_iload_n hx hb dL_law_359 rfl (lv_at hl 3 rfl) ?_
                refine lv_iconst (v := 1) hx hb dL_law_360 (by decide) ?_
                refine lv_iadd hx hb dL_law_361 ?_
                refine s_ld hx hb hX hbl hbA hS (j := 6 * k + 1) (by rw [show (1 : Int32) = nI 1 from rfl, nI_add]) (by omega) hLL (v := x1) hx1 dL_law_362 ?_
                refine lv_aload_n hx hb dL_law_363 rfl (lv_at hl 0 rfl) ?_
                refine lv_iload_n hx hb dL_law_364 rfl (lv_at hl 3 rfl) ?_
                refine lv_iconst (v := 2) hx hb dL_law_365 (by decide) ?_
                refine lv_iadd hx hb dL_law_366 ?_
                refine s_ld hx hb hX hbl hbA hS (j := 6 * k + 2) (by rw [show (2 : Int32) = nI 2 from rfl, nI_add]) (by omega) hLL (v := x2) hx2 dL_law_367 ?_
                refine lv_if_eq (tgt := 375) hx hb dL_law_368 (by decide) (fun c_14 => ?_) (fun c_14 => ?_)
                · exact absurd c_14 c_12
                refine lv_iconst (v := 1) hx hb dL_law_371 (by decide) ?_
                refine lv_goto (tgt := 376) hx hb dL_law_372 (by decide) ?_
                refine lv_aload_n hx hb dL_law_376 rfl (lv_at hl 0 rfl) ?_
                refine lv_iload_n hx hb dL_law_377 rfl (lv_at hl 3 rfl) ?_
                refine lv_iconst (v := 3) hx hb dL_law_378 (by decide) ?_
                refine lv_iadd hx hb dL_law_379 ?_
                refine s_ld hx hb hX hbl hbA hS (j := 6 * k + 3) (by rw [show (3 : Int32) = nI 3 from rfl, nI_add]) (by omega) hLL (v := x3) hx3 dL_law_380 ?_
                refine lc_M (oo := (oGet σ x1 true x3)) (As := [.int x1, .int (b2i true), .int x3]) (rest := [.int ((oGet σ x1 true x3).1)]) ⟨hx, hb, hml, hown, hts⟩ (fun q sz => mX5_get l dC dI q cJ cG cK cR cI cZ cD sz σ k hI (by omega) x1 true x3) (cwV 3 hts gL_law_X5_get rfl rfl rfl (by decide +kernel) ⟨Nat.le_of_ble_eq_true rfl, Nat.le_of_ble_eq_true rfl⟩) hK hL hS hA rfl rfl hl.1 (Nat.le_of_ble_eq_true rfl) dL_law_381 ⟨by show _ ≤ 600000; omega, by show _ ≤ 7302250; omega⟩ (fun H locs hL hS => ?_)
                refine lv_icmp_eq (tgt := 1057) hx hb dL_law_384 (by decide) (fun h9 => ?_) (fun h9 => absurd rfl h9)
                exact fin ((oGet σ x1 true x3).2) _ _ _ _ ls (I_oGet hI _ _ _) hL hS hl (by omega) (by omega)
            · by_cases c_15 : (x0 &&& (31 : Int32)) = 5
              · refine lv_tableIn (off := 356) (tgt := 389) hx hb dL_law_33 (by rw [c_15]; decide) (by rw [c_15]; decide) (by rw [c_15]; rfl) (by decide) ?_
                refine lv_aload_n hx hb dL_law_389 rfl (lv_at hl 1 rfl) ?_
                refine lv_aload_n hx hb dL_law_390 rfl (lv_at hl 0 rfl) ?_
                refine lv_iload_n hx hb dL_law_391 rfl (lv_at hl 3 rfl) ?_
                refine lv_iconst (v := 1) hx hb dL_law_392 (by decide) ?_
                refine lv_iadd hx hb dL_law_393 ?_
                refine s_ld hx hb hX hbl hbA hS (j := 6 * k + 1) (by rw [show (1 : Int32) = nI 1 from rfl, nI_add]) (by omega) hLL (v := x1) hx1 dL_law_394 ?_
                refine lv_aload_n hx hb dL_law_395 rfl (lv_at hl 0 rfl) ?_
                refine lv_iload_n hx hb dL_law_396 rfl (lv_at hl 3 rfl) ?_
                refine lv_iconst (v := 2) hx hb dL_law_397 (by decide) ?_
                refine lv_iadd hx hb dL_law_398 ?_
                refine s_ld hx hb hX hbl hbA hS (j := 6 * k + 2) (by rw [show (2 : Int32) = nI 2 from rfl, nI_add]) (by omega) hLL (v := x2) hx2 dL_law_399 ?_
                refine lv_if_eq (tgt := 407) hx hb dL_law_400 (by decide) (fun c_16 => ?_) (fun c_16 => ?_)
                · refine lv_iconst (v := 0) hx hb dL_law_407 (by decide) ?_
                  refine lv_aload_n hx hb dL_law_408 rfl (lv_at hl 0 rfl) ?_
                  refine lv_iload_n hx hb dL_law_409 rfl (lv_at hl 3 rfl) ?_
                  refine lv_iconst (v := 3) hx hb dL_law_410 (by decide) ?_
                  refine lv_iadd hx hb dL_law_411 ?_
                  refine s_ld hx hb hX hbl hbA hS (j := 6 * k + 3) (by rw [show (3 : Int32) = nI 3 from rfl, nI_add]) (by omega) hLL (v := x3) hx3 dL_law_412 ?_
                  refine lv_aload_n hx hb dL_law_413 rfl (lv_at hl 0 rfl) ?_
                  refine lv_iload_n hx hb dL_law_414 rfl (lv_at hl 3 rfl) ?_
                  refine lv_iconst (v := 4) hx hb dL_law_415 (by decide) ?_
                  refine lv_iadd hx hb dL_law_416 ?_
                  refine s_ld hx hb hX hbl hbA hS (j := 6 * k + 4) (by rw [show (4 : Int32) = nI 4 from rfl, nI_add]) (by omega) hLL (v := x4) hx4 dL_law_417 ?_
                  refine lc_T (mc := 0) (ms := 0) (oo := (oRest σ x1 false x3 x4)) (As := [.int x1, .int (b2i false), .int x3, .int x4]) (rest := []) ⟨hx, hb, hml, hown, hts⟩ (fun q fr fg fk L9 f ra rb ka kb hf hR sz => mX4_rest l dC dI ad q cJ cG cK cR cI cZ cD fr fg fk L9 f ra rb ka kb hf σ hR k hI (by omega) sz x1 false x3 x4) (cwV 4 hts gL_law_X4_rest rfl rfl rfl (by decide +kernel) ⟨Nat.le_of_ble_eq_true rfl, Nat.le_of_ble_eq_true rfl⟩) hK hE hL hS hA rfl rfl hl.1 (Nat.le_of_ble_eq_true rfl) dL_law_418 ⟨by show _ ≤ 600000; omega, by show _ ≤ 7302250; omega⟩ (fun H locs hL hS => ?_)
                  refine lv_aload_n hx hb dL_law_421 rfl (lv_at hl 2 rfl) ?_
                  refine lv_aload_n hx hb dL_law_422 rfl (lv_at hl 0 rfl) ?_
                  refine lv_iload_n hx hb dL_law_423 rfl (lv_at hl 3 rfl) ?_
                  refine lv_iconst (v := 1) hx hb dL_law_424 (by decide) ?_
                  refine lv_iadd hx hb dL_law_425 ?_
                  refine s_ld hx hb hX hbl hbA hS (j := 6 * k + 1) (by rw [show (1 : Int32) = nI 1 from rfl, nI_add]) (by omega) hLL (v := x1) hx1 dL_law_426 ?_
                  refine lv_aload_n hx hb dL_law_427 rfl (lv_at hl 0 rfl) ?_
                  refine lv_iload_n hx hb dL_law_428 rfl (lv_at hl 3 rfl) ?_
                  refine lv_iconst (v := 2) hx hb dL_law_429 (by decide) ?_
                  refine lv_iadd hx hb dL_law_430 ?_
                  refine s_ld hx hb hX hbl hbA hS (j := 6 * k + 2) (by rw [show (2 : Int32) = nI 2 from rfl, nI_add]) (by omega) hLL (v := x2) hx2 dL_law_431 ?_
                  refine lv_if_eq (tgt := 439) hx hb dL_law_432 (by decide) (fun c_17 => ?_) (fun c_17 => ?_)
                  rotate_left
                  · exact absurd c_16 c_17
                  refine lv_iconst (v := 0) hx hb dL_law_439 (by decide) ?_
                  refine lv_aload_n hx hb dL_law_440 rfl (lv_at hl 0 rfl) ?_
                  refine lv_iload_n hx hb dL_law_441 rfl (lv_at hl 3 rfl) ?_
                  refine lv_iconst (v := 3) hx hb dL_law_442 (by decide) ?_
                  refine lv_iadd hx hb dL_law_443 ?_
                  refine s_ld hx hb hX hbl hbA hS (j := 6 * k + 3) (by rw [show (3 : Int32) = nI 3 from rfl, nI_add]) (by omega) hLL (v := x3) hx3 dL_law_444 ?_
                  refine lv_aload_n hx hb dL_law_445 rfl (lv_at hl 0 rfl) ?_
                  refine lv_iload_n hx hb dL_law_446 rfl (lv_at hl 3 rfl) ?_
                  refine lv_iconst (v := 4) hx hb dL_law_447 (by decide) ?_
                  refine lv_iadd hx hb dL_law_448 ?_
                  refine s_ld hx hb hX hbl hbA hS (j := 6 * k + 4) (by rw [show (4 : Int32) = nI 4 from rfl, nI_add]) (by omega) hLL (v := x4) hx4 dL_law_449 ?_
                  refine lc_M (oo := (oRest σ x1 false x3 x4)) (As := [.int x1, .int (b2i false), .int x3, .int x4]) (rest := [.int ((oRest σ x1 false x3 x4).1)]) ⟨hx, hb, hml, hown, hts⟩ (fun q sz => mX5_rest l dC dI q cJ cG cK cR cI cZ cD sz σ k hI (by omega) x1 false x3 x4) (cwV 4 hts gL_law_X5_rest rfl rfl rfl (by decide +kernel) ⟨Nat.le_of_ble_eq_true rfl, Nat.le_of_ble_eq_true rfl⟩) hK hL hS hA rfl rfl hl.1 (Nat.le_of_ble_eq_true rfl) dL_law_450 ⟨by show _ ≤ 600000; omega, by show _ ≤ 7302250; omega⟩ (fun H locs hL hS => ?_)
                  refine lv_icmp_eq (tgt := 1057) hx hb dL_law_453 (by decide) (fun h9 => ?_) (fun h9 => absurd rfl h9)
                  exact fin ((oRest σ x1 false x3 x4).2) _ _ _ _ ls (I_oRest hI _ _ _ _) hL hS hl (by omega) (by omega)
                · refine lv_iconst (v := 1) hx hb dL_law_403 (by decide) ?_
                  refine lv_goto (tgt := 408) hx hb dL_law_404 (by decide) ?_
                  refine lv_aload_n hx hb dL_law_408 rfl (lv_at hl 0 rfl) ?_
                  refine lv_iload_n hx hb dL_law_409 rfl (lv_at hl 3 rfl) ?_
                  refine lv_iconst (v := 3) hx hb dL_law_410 (by decide) ?_
                  refine lv_iadd hx hb dL_law_411 ?_
                  refine s_ld hx hb hX hbl hbA hS (j := 6 * k + 3) (by rw [show (3 : Int32) = nI 3 from rfl, nI_add]) (by omega) hLL (v := x3) hx3 dL_law_412 ?_
                  refine lv_aload_n hx hb dL_law_413 rfl (lv_at hl 0 rfl) ?_
                  refine lv_iload_n hx hb dL_law_414 rfl (lv_at hl 3 rfl) ?_
                  refine lv_iconst (v := 4) hx hb dL_law_415 (by decide) ?_
                  refine lv_iadd hx hb dL_law_416 ?_
                  refine s_ld hx hb hX hbl hbA hS (j := 6 * k + 4) (by rw [show (4 : Int32) = nI 4 from rfl, nI_add]) (by omega) hLL (v := x4) hx4 dL_law_417 ?_
                  refine lc_T (mc := 0) (ms := 0) (oo := (oRest σ x1 true x3 x4)) (As := [.int x1, .int (b2i true), .int x3, .int x4]) (rest := []) ⟨hx, hb, hml, hown, hts⟩ (fun q fr fg fk L9 f ra rb ka kb hf hR sz => mX4_rest l dC dI ad q cJ cG cK cR cI cZ cD fr fg fk L9 f ra rb ka kb hf σ hR k hI (by omega) sz x1 true x3 x4) (cwV 4 hts gL_law_X4_rest rfl rfl rfl (by decide +kernel) ⟨Nat.le_of_ble_eq_true rfl, Nat.le_of_ble_eq_true rfl⟩) hK hE hL hS hA rfl rfl hl.1 (Nat.le_of_ble_eq_true rfl) dL_law_418 ⟨by show _ ≤ 600000; omega, by show _ ≤ 7302250; omega⟩ (fun H locs hL hS => ?_)
                  refine lv_aload_n hx hb dL_law_421 rfl (lv_at hl 2 rfl) ?_
                  refine lv_aload_n hx hb dL_law_422 rfl (lv_at hl 0 rfl) ?_
                  refine lv_iload_n hx hb dL_law_423 rfl (lv_at hl 3 rfl) ?_
                  refine lv_iconst (v := 1) hx hb dL_law_424 (by decide) ?_
                  refine lv_iadd hx hb dL_law_425 ?_
                  refine s_ld hx hb hX hbl hbA hS (j := 6 * k + 1) (by rw [show (1 : Int32) = nI 1 from rfl, nI_add]) (by omega) hLL (v := x1) hx1 dL_law_426 ?_
                  refine lv_aload_n hx hb dL_law_427 rfl (lv_at hl 0 rfl) ?_
                  refine lv_iload_n hx hb dL_law_428 rfl (lv_at hl 3 rfl) ?_
                  refine lv_iconst (v := 2) hx hb dL_law_429 (by decide) ?_
                  refine lv_iadd hx hb dL_law_430 ?_
                  refine s_ld hx hb hX hbl hbA hS (j := 6 * k + 2) (by rw [show (2 : Int32) = nI 2 from rfl, nI_add]) (by omega) hLL (v := x2) hx2 dL_law_431 ?_
                  refine lv_if_eq (tgt := 439) hx hb dL_law_432 (by decide) (fun c_18 => ?_) (fun c_18 => ?_)
                  · exact absurd c_18 c_16
                  refine lv_iconst (v := 1) hx hb dL_law_435 (by decide) ?_
                  refine lv_goto (tgt := 440) hx hb dL_law_436 (by decide) ?_
                  refine lv_aload_n hx hb dL_law_440 rfl (lv_at hl 0 rfl) ?_
                  refine lv_iload_n hx hb dL_law_441 rfl (lv_at hl 3 rfl) ?_
                  refine lv_iconst (v := 3) hx hb dL_law_442 (by decide) ?_
                  refine lv_iadd hx hb dL_law_443 ?_
                  refine s_ld hx hb hX hbl hbA hS (j := 6 * k + 3) (by rw [show (3 : Int32) = nI 3 from rfl, nI_add]) (by omega) hLL (v := x3) hx3 dL_law_444 ?_
                  refine lv_aload_n hx hb dL_law_445 rfl (lv_at hl 0 rfl) ?_
                  refine lv_iload_n hx hb dL_law_446 rfl (lv_at hl 3 rfl) ?_
                  refine lv_iconst (v := 4) hx hb dL_law_447 (by decide) ?_
                  refine lv_iadd hx hb dL_law_448 ?_
                  refine s_ld hx hb hX hbl hbA hS (j := 6 * k + 4) (by rw [show (4 : Int32) = nI 4 from rfl, nI_add]) (by omega) hLL (v := x4) hx4 dL_law_449 ?_
                  refine lc_M (oo := (oRest σ x1 true x3 x4)) (As := [.int x1, .int (b2i true), .int x3, .int x4]) (rest := [.int ((oRest σ x1 true x3 x4).1)]) ⟨hx, hb, hml, hown, hts⟩ (fun q sz => mX5_rest l dC dI q cJ cG cK cR cI cZ cD sz σ k hI (by omega) x1 true x3 x4) (cwV 4 hts gL_law_X5_rest rfl rfl rfl (by decide +kernel) ⟨Nat.le_of_ble_eq_true rfl, Nat.le_of_ble_eq_true rfl⟩) hK hL hS hA rfl rfl hl.1 (Nat.le_of_ble_eq_true rfl) dL_law_450 ⟨by show _ ≤ 600000; omega, by show _ ≤ 7302250; omega⟩ (fun H locs hL hS => ?_)
                  refine lv_icmp_eq (tgt := 1057) hx hb dL_law_453 (by decide) (fun h9 => ?_) (fun h9 => absurd rfl h9)
                  exact fin ((oRest σ x1 true x3 x4).2) _ _ _ _ ls (I_oRest hI _ _ _ _) hL hS hl (by omega) (by omega)
              · by_cases c_19 : (x0 &&& (31 : Int32)) = 6
                · refine lv_tableIn (off := 425) (tgt := 458) hx hb dL_law_33 (by rw [c_19]; decide) (by rw [c_19]; decide) (by rw [c_19]; rfl) (by decide) ?_
                  refine lv_aload_n hx hb dL_law_458 rfl (lv_at hl 1 rfl) ?_
                  refine lv_aload_n hx hb dL_law_459 rfl (lv_at hl 0 rfl) ?_
                  refine lv_iload_n hx hb dL_law_460 rfl (lv_at hl 3 rfl) ?_
                  refine lv_iconst (v := 1) hx hb dL_law_461 (by decide) ?_
                  refine lv_iadd hx hb dL_law_462 ?_
                  refine s_ld hx hb hX hbl hbA hS (j := 6 * k + 1) (by rw [show (1 : Int32) = nI 1 from rfl, nI_add]) (by omega) hLL (v := x1) hx1 dL_law_463 ?_
                  refine lv_aload_n hx hb dL_law_464 rfl (lv_at hl 0 rfl) ?_
                  refine lv_iload_n hx hb dL_law_465 rfl (lv_at hl 3 rfl) ?_
                  refine lv_iconst (v := 2) hx hb dL_law_466 (by decide) ?_
                  refine lv_iadd hx hb dL_law_467 ?_
                  refine s_ld hx hb hX hbl hbA hS (j := 6 * k + 2) (by rw [show (2 : Int32) = nI 2 from rfl, nI_add]) (by omega) hLL (v := x2) hx2 dL_law_468 ?_
                  refine lv_if_eq (tgt := 476) hx hb dL_law_469 (by decide) (fun c_20 => ?_) (fun c_20 => ?_)
                  · refine lv_iconst (v := 0) hx hb dL_law_476 (by decide) ?_
                    refine lv_aload_n hx hb dL_law_477 rfl (lv_at hl 0 rfl) ?_
                    refine lv_iload_n hx hb dL_law_478 rfl (lv_at hl 3 rfl) ?_
                    refine lv_iconst (v := 3) hx hb dL_law_479 (by decide) ?_
                    refine lv_iadd hx hb dL_law_480 ?_
                    refine s_ld hx hb hX hbl hbA hS (j := 6 * k + 3) (by rw [show (3 : Int32) = nI 3 from rfl, nI_add]) (by omega) hLL (v := x3) hx3 dL_law_481 ?_
                    refine lv_aload_n hx hb dL_law_482 rfl (lv_at hl 0 rfl) ?_
                    refine lv_iload_n hx hb dL_law_483 rfl (lv_at hl 3 rfl) ?_
                    refine lv_iconst (v := 4) hx hb dL_law_484 (by decide) ?_
                    refine lv_iadd hx hb dL_law_485 ?_
                    refine s_ld hx hb hX hbl hbA hS (j := 6 * k + 4) (by rw [show (4 : Int32) = nI 4 from rfl, nI_add]) (by omega) hLL (v := x4) hx4 dL_law_486 ?_
                    refine lc_T (mc := 0) (ms := 0) (oo := (oTurn σ x1 false x3 x4)) (As := [.int x1, .int (b2i false), .int x3, .int x4]) (rest := []) ⟨hx, hb, hml, hown, hts⟩ (fun q fr fg fk L9 f ra rb ka kb hf hR sz => mX4_turn l dC dI ad q cJ cG cK cR cI cZ cD fr fg fk L9 f ra rb ka kb hf σ hR k hI (by omega) sz x1 false x3 x4) (cwV 4 hts gL_law_X4_turn rfl rfl rfl (by decide +kernel) ⟨Nat.le_of_ble_eq_true rfl, Nat.le_of_ble_eq_true rfl⟩) hK hE hL hS hA rfl rfl hl.1 (Nat.le_of_ble_eq_true rfl) dL_law_487 ⟨by show _ ≤ 600000; omega, by show _ ≤ 7302250; omega⟩ (fun H locs hL hS => ?_)
                    refine lv_aload_n hx hb dL_law_490 rfl (lv_at hl 2 rfl) ?_
                    refine lv_aload_n hx hb dL_law_491 rfl (lv_at hl 0 rfl) ?_
                    refine lv_iload_n hx hb dL_law_492 rfl (lv_at hl 3 rfl) ?_
                    refine lv_iconst (v := 1) hx hb dL_law_493 (by decide) ?_
                    refine lv_iadd hx hb dL_law_494 ?_
                    refine s_ld hx hb hX hbl hbA hS (j := 6 * k + 1) (by rw [show (1 : Int32) = nI 1 from rfl, nI_add]) (by omega) hLL (v := x1) hx1 dL_law_495 ?_
                    refine lv_aload_n hx hb dL_law_496 rfl (lv_at hl 0 rfl) ?_
                    refine lv_iload_n hx hb dL_law_497 rfl (lv_at hl 3 rfl) ?_
                    refine lv_iconst (v := 2) hx hb dL_law_498 (by decide) ?_
                    refine lv_iadd hx hb dL_law_499 ?_
                    refine s_ld hx hb hX hbl hbA hS (j := 6 * k + 2) (by rw [show (2 : Int32) = nI 2 from rfl, nI_add]) (by omega) hLL (v := x2) hx2 dL_law_500 ?_
                    refine lv_if_eq (tgt := 508) hx hb dL_law_501 (by decide) (fun c_21 => ?_) (fun c_21 => ?_)
                    rotate_left
                    · exact absurd c_20 c_21
                    refine lv_iconst (v := 0) hx hb dL_law_508 (by decide) ?_
                    refine lv_aload_n hx hb dL_law_509 rfl (lv_at hl 0 rfl) ?_
                    refine lv_iload_n hx hb dL_law_510 rfl (lv_at hl 3 rfl) ?_
                    refine lv_iconst (v := 3) hx hb dL_law_511 (by decide) ?_
                    refine lv_iadd hx hb dL_law_512 ?_
                    refine s_ld hx hb hX hbl hbA hS (j := 6 * k + 3) (by rw [show (3 : Int32) = nI 3 from rfl, nI_add]) (by omega) hLL (v := x3) hx3 dL_law_513 ?_
                    refine lv_aload_n hx hb dL_law_514 rfl (lv_at hl 0 rfl) ?_
                    refine lv_iload_n hx hb dL_law_515 rfl (lv_at hl 3 rfl) ?_
                    refine lv_iconst (v := 4) hx hb dL_law_516 (by decide) ?_
                    refine lv_iadd hx hb dL_law_517 ?_
                    refine s_ld hx hb hX hbl hbA hS (j := 6 * k + 4) (by rw [show (4 : Int32) = nI 4 from rfl, nI_add]) (by omega) hLL (v := x4) hx4 dL_law_518 ?_
                    refine lc_M (oo := (oTurn σ x1 false x3 x4)) (As := [.int x1, .int (b2i false), .int x3, .int x4]) (rest := [.int ((oTurn σ x1 false x3 x4).1)]) ⟨hx, hb, hml, hown, hts⟩ (fun q sz => mX5_turn l dC dI q cJ cG cK cR cI cZ cD sz σ k hI (by omega) x1 false x3 x4) (cwV 4 hts gL_law_X5_turn rfl rfl rfl (by decide +kernel) ⟨Nat.le_of_ble_eq_true rfl, Nat.le_of_ble_eq_true rfl⟩) hK hL hS hA rfl rfl hl.1 (Nat.le_of_ble_eq_true rfl) dL_law_519 ⟨by show _ ≤ 600000; omega, by show _ ≤ 7302250; omega⟩ (fun H locs hL hS => ?_)
                    refine lv_icmp_eq (tgt := 1057) hx hb dL_law_522 (by decide) (fun h9 => ?_) (fun h9 => absurd rfl h9)
                    exact fin ((oTurn σ x1 false x3 x4).2) _ _ _ _ ls (I_oTurn hI _ _ _ _) hL hS hl (by omega) (by omega)
                  · refine lv_iconst (v := 1) hx hb dL_law_472 (by decide) ?_
                    refine lv_goto (tgt := 477) hx hb dL_law_473 (by decide) ?_
                    refine lv_aload_n hx hb dL_law_477 rfl (lv_at hl 0 rfl) ?_
                    refine lv_iload_n hx hb dL_law_478 rfl (lv_at hl 3 rfl) ?_
                    refine lv_iconst (v := 3) hx hb dL_law_479 (by decide) ?_
                    refine lv_iadd hx hb dL_law_480 ?_
                    refine s_ld hx hb hX hbl hbA hS (j := 6 * k + 3) (by rw [show (3 : Int32) = nI 3 from rfl, nI_add]) (by omega) hLL (v := x3) hx3 dL_law_481 ?_
                    refine lv_aload_n hx hb dL_law_482 rfl (lv_at hl 0 rfl) ?_
                    refine lv_iload_n hx hb dL_law_483 rfl (lv_at hl 3 rfl) ?_
                    refine lv_iconst (v := 4) hx hb dL_law_484 (by decide) ?_
                    refine lv_iadd hx hb dL_law_485 ?_
                    refine s_ld hx hb hX hbl hbA hS (j := 6 * k + 4) (by rw [show (4 : Int32) = nI 4 from rfl, nI_add]) (by omega) hLL (v := x4) hx4 dL_law_486 ?_
                    refine lc_T (mc := 0) (ms := 0) (oo := (oTurn σ x1 true x3 x4)) (As := [.int x1, .int (b2i true), .int x3, .int x4]) (rest := []) ⟨hx, hb, hml, hown, hts⟩ (fun q fr fg fk L9 f ra rb ka kb hf hR sz => mX4_turn l dC dI ad q cJ cG cK cR cI cZ cD fr fg fk L9 f ra rb ka kb hf σ hR k hI (by omega) sz x1 true x3 x4) (cwV 4 hts gL_law_X4_turn rfl rfl rfl (by decide +kernel) ⟨Nat.le_of_ble_eq_true rfl, Nat.le_of_ble_eq_true rfl⟩) hK hE hL hS hA rfl rfl hl.1 (Nat.le_of_ble_eq_true rfl) dL_law_487 ⟨by show _ ≤ 600000; omega, by show _ ≤ 7302250; omega⟩ (fun H locs hL hS => ?_)
                    refine lv_aload_n hx hb dL_law_490 rfl (lv_at hl 2 rfl) ?_
                    refine lv_aload_n hx hb dL_law_491 rfl (lv_at hl 0 rfl) ?_
                    refine lv_iload_n hx hb dL_law_492 rfl (lv_at hl 3 rfl) ?_
                    refine lv_iconst (v := 1) hx hb dL_law_493 (by decide) ?_
                    refine lv_iadd hx hb dL_law_494 ?_
                    refine s_ld hx hb hX hbl hbA hS (j := 6 * k + 1) (by rw [show (1 : Int32) = nI 1 from rfl, nI_add]) (by omega) hLL (v := x1) hx1 dL_law_495 ?_
                    refine lv_aload_n hx hb dL_law_496 rfl (lv_at hl 0 rfl) ?_
                    refine lv_iload_n hx hb dL_law_497 rfl (lv_at hl 3 rfl) ?_
                    refine lv_iconst (v := 2) hx hb dL_law_498 (by decide) ?_
                    refine lv_iadd hx hb dL_law_499 ?_
                    refine s_ld hx hb hX hbl hbA hS (j := 6 * k + 2) (by rw [show (2 : Int32) = nI 2 from rfl, nI_add]) (by omega) hLL (v := x2) hx2 dL_law_500 ?_
                    refine lv_if_eq (tgt := 508) hx hb dL_law_501 (by decide) (fun c_22 => ?_) (fun c_22 => ?_)
                    · exact absurd c_22 c_20
                    refine lv_iconst (v := 1) hx hb dL_law_504 (by decide) ?_
                    refine lv_goto (tgt := 509) hx hb dL_law_505 (by decide) ?_
                    refine lv_aload_n hx hb dL_law_509 rfl (lv_at hl 0 rfl) ?_
                    refine lv_iload_n hx hb dL_law_510 rfl (lv_at hl 3 rfl) ?_
                    refine lv_iconst (v := 3) hx hb dL_law_511 (by decide) ?_
                    refine lv_iadd hx hb dL_law_512 ?_
                    refine s_ld hx hb hX hbl hbA hS (j := 6 * k + 3) (by rw [show (3 : Int32) = nI 3 from rfl, nI_add]) (by omega) hLL (v := x3) hx3 dL_law_513 ?_
                    refine lv_aload_n hx hb dL_law_514 rfl (lv_at hl 0 rfl) ?_
                    refine lv_iload_n hx hb dL_law_515 rfl (lv_at hl 3 rfl) ?_
                    refine lv_iconst (v := 4) hx hb dL_law_516 (by decide) ?_
                    refine lv_iadd hx hb dL_law_517 ?_
                    refine s_ld hx hb hX hbl hbA hS (j := 6 * k + 4) (by rw [show (4 : Int32) = nI 4 from rfl, nI_add]) (by omega) hLL (v := x4) hx4 dL_law_518 ?_
                    refine lc_M (oo := (oTurn σ x1 true x3 x4)) (As := [.int x1, .int (b2i true), .int x3, .int x4]) (rest := [.int ((oTurn σ x1 true x3 x4).1)]) ⟨hx, hb, hml, hown, hts⟩ (fun q sz => mX5_turn l dC dI q cJ cG cK cR cI cZ cD sz σ k hI (by omega) x1 true x3 x4) (cwV 4 hts gL_law_X5_turn rfl rfl rfl (by decide +kernel) ⟨Nat.le_of_ble_eq_true rfl, Nat.le_of_ble_eq_true rfl⟩) hK hL hS hA rfl rfl hl.1 (Nat.le_of_ble_eq_true rfl) dL_law_519 ⟨by show _ ≤ 600000; omega, by show _ ≤ 7302250; omega⟩ (fun H locs hL hS => ?_)
                    refine lv_icmp_eq (tgt := 1057) hx hb dL_law_522 (by decide) (fun h9 => ?_) (fun h9 => absurd rfl h9)
                    exact fin ((oTurn σ x1 true x3 x4).2) _ _ _ _ ls (I_oTurn hI _ _ _ _) hL hS hl (by omega) (by omega)
                · by_cases c_23 : (x0 &&& (31 : Int32)) = 7
                  · refine lv_tableIn (off := 494) (tgt := 527) hx hb dL_law_33 (by rw [c_23]; decide) (by rw [c_23]; decide) (by rw [c_23]; rfl) (by decide) ?_
                    refine lv_aload_n hx hb dL_law_527 rfl (lv_at hl 1 rfl) ?_
                    refine lv_aload_n hx hb dL_law_528 rfl (lv_at hl 0 rfl) ?_
                    refine lv_iload_n hx hb dL_law_529 rfl (lv_at hl 3 rfl) ?_
                    refine lv_iconst (v := 1) hx hb dL_law_530 (by decide) ?_
                    refine lv_iadd hx hb dL_law_531 ?_
                    refine s_ld hx hb hX hbl hbA hS (j := 6 * k + 1) (by rw [show (1 : Int32) = nI 1 from rfl, nI_add]) (by omega) hLL (v := x1) hx1 dL_law_532 ?_
                    refine lv_aload_n hx hb dL_law_533 rfl (lv_at hl 0 rfl) ?_
                    refine lv_iload_n hx hb dL_law_534 rfl (lv_at hl 3 rfl) ?_
                    refine lv_iconst (v := 2) hx hb dL_law_535 (by decide) ?_
                    refine lv_iadd hx hb dL_law_536 ?_
                    refine s_ld hx hb hX hbl hbA hS (j := 6 * k + 2) (by rw [show (2 : Int32) = nI 2 from rfl, nI_add]) (by omega) hLL (v := x2) hx2 dL_law_537 ?_
                    refine lv_if_eq (tgt := 545) hx hb dL_law_538 (by decide) (fun c_24 => ?_) (fun c_24 => ?_)
                    · refine lv_iconst (v := 0) hx hb dL_law_545 (by decide) ?_
                      refine lv_aload_n hx hb dL_law_546 rfl (lv_at hl 0 rfl) ?_
                      refine lv_iload_n hx hb dL_law_547 rfl (lv_at hl 3 rfl) ?_
                      refine lv_iconst (v := 3) hx hb dL_law_548 (by decide) ?_
                      refine lv_iadd hx hb dL_law_549 ?_
                      refine s_ld hx hb hX hbl hbA hS (j := 6 * k + 3) (by rw [show (3 : Int32) = nI 3 from rfl, nI_add]) (by omega) hLL (v := x3) hx3 dL_law_550 ?_
                      refine lv_aload_n hx hb dL_law_551 rfl (lv_at hl 0 rfl) ?_
                      refine lv_iload_n hx hb dL_law_552 rfl (lv_at hl 3 rfl) ?_
                      refine lv_iconst (v := 4) hx hb dL_law_553 (by decide) ?_
                      refine lv_iadd hx hb dL_law_554 ?_
                      refine s_ld hx hb hX hbl hbA hS (j := 6 * k + 4) (by rw [show (4 : Int32) = nI 4 from rfl, nI_add]) (by omega) hLL (v := x4) hx4 dL_law_555 ?_
                      refine lc_T (mc := 0) (ms := 0) (oo := (oTide σ x1 false x3 x4)) (As := [.int x1, .int (b2i false), .int x3, .int x4]) (rest := []) ⟨hx, hb, hml, hown, hts⟩ (fun q fr fg fk L9 f ra rb ka kb hf hR sz => mX4_tide l dC dI ad q cJ cG cK cR cI cZ cD fr fg fk L9 f ra rb ka kb hf σ hR k hI (by omega) sz x1 false x3 x4) (cwV 4 hts gL_law_X4_tide rfl rfl rfl (by decide +kernel) ⟨Nat.le_of_ble_eq_true rfl, Nat.le_of_ble_eq_true rfl⟩) hK hE hL hS hA rfl rfl hl.1 (Nat.le_of_ble_eq_true rfl) dL_law_556 ⟨by show _ ≤ 600000; omega, by show _ ≤ 7302250; omega⟩ (fun H locs hL hS => ?_)
                      refine lv_aload_n hx hb dL_law_559 rfl (lv_at hl 2 rfl) ?_
                      refine lv_aload_n hx hb dL_law_560 rfl (lv_at hl 0 rfl) ?_
                      refine lv_iload_n hx hb dL_law_561 rfl (lv_at hl 3 rfl) ?_
                      refine lv_iconst (v := 1) hx hb dL_law_562 (by decide) ?_
                      refine lv_iadd hx hb dL_law_563 ?_
                      refine s_ld hx hb hX hbl hbA hS (j := 6 * k + 1) (by rw [show (1 : Int32) = nI 1 from rfl, nI_add]) (by omega) hLL (v := x1) hx1 dL_law_564 ?_
                      refine lv_aload_n hx hb dL_law_565 rfl (lv_at hl 0 rfl) ?_
                      refine lv_iload_n hx hb dL_law_566 rfl (lv_at hl 3 rfl) ?_
                      refine lv_iconst (v := 2) hx hb dL_law_567 (by decide) ?_
                      refine lv_iadd hx hb dL_law_568 ?_
                      refine s_ld hx hb hX hbl hbA hS (j := 6 * k + 2) (by rw [show (2 : Int32) = nI 2 from rfl, nI_add]) (by omega) hLL (v := x2) hx2 dL_law_569 ?_
                      refine lv_if_eq (tgt := 577) hx hb dL_law_570 (by decide) (fun c_25 => ?_) (fun c_25 => ?_)
                      rotate_left
                      · exact absurd c_24 c_25
                      refine lv_iconst (v := 0) hx hb dL_law_577 (by decide) ?_
                      refine lv_aload_n hx hb dL_law_578 rfl (lv_at hl 0 rfl) ?_
                      refine lv_iload_n hx hb dL_law_579 rfl (lv_at hl 3 rfl) ?_
                      refine lv_iconst (v := 3) hx hb dL_law_580 (by decide) ?_
                      refine lv_iadd hx hb dL_law_581 ?_
                      refine s_ld hx hb hX hbl hbA hS (j := 6 * k + 3) (by rw [show (3 : Int32) = nI 3 from rfl, nI_add]) (by omega) hLL (v := x3) hx3 dL_law_582 ?_
                      refine lv_aload_n hx hb dL_law_583 rfl (lv_at hl 0 rfl) ?_
                      refine lv_iload_n hx hb dL_law_584 rfl (lv_at hl 3 rfl) ?_
                      refine lv_iconst (v := 4) hx hb dL_law_585 (by decide) ?_
                      refine lv_iadd hx hb dL_law_586 ?_
                      refine s_ld hx hb hX hbl hbA hS (j := 6 * k + 4) (by rw [show (4 : Int32) = nI 4 from rfl, nI_add]) (by omega) hLL (v := x4) hx4 dL_law_587 ?_
                      refine lc_M (oo := (oTide σ x1 false x3 x4)) (As := [.int x1, .int (b2i false), .int x3, .int x4]) (rest := [.int ((oTide σ x1 false x3 x4).1)]) ⟨hx, hb, hml, hown, hts⟩ (fun q sz => mX5_tide l dC dI q cJ cG cK cR cI cZ cD sz σ k hI (by omega) x1 false x3 x4) (cwV 4 hts gL_law_X5_tide rfl rfl rfl (by decide +kernel) ⟨Nat.le_of_ble_eq_true rfl, Nat.le_of_ble_eq_true rfl⟩) hK hL hS hA rfl rfl hl.1 (Nat.le_of_ble_eq_true rfl) dL_law_588 ⟨by show _ ≤ 600000; omega, by show _ ≤ 7302250; omega⟩ (fun H locs hL hS => ?_)
                      refine lv_icmp_eq (tgt := 1057) hx hb dL_law_591 (by decide) (fun h9 => ?_) (fun h9 => absurd rfl h9)
                      exact fin ((oTide σ x1 false x3 x4).2) _ _ _ _ ls (I_oTide hI _ _ _ _) hL hS hl (by omega) (by omega)
                    · refine lv_iconst (v := 1) hx hb dL_law_541 (by decide) ?_
                      refine lv_goto (tgt := 546) hx hb dL_law_542 (by decide) ?_
                      refine lv_aload_n hx hb dL_law_546 rfl (lv_at hl 0 rfl) ?_
                      refine lv_iload_n hx hb dL_law_547 rfl (lv_at hl 3 rfl) ?_
                      refine lv_iconst (v := 3) hx hb dL_law_548 (by decide) ?_
                      refine lv_iadd hx hb dL_law_549 ?_
                      refine s_ld hx hb hX hbl hbA hS (j := 6 * k + 3) (by rw [show (3 : Int32) = nI 3 from rfl, nI_add]) (by omega) hLL (v := x3) hx3 dL_law_550 ?_
                      refine lv_aload_n hx hb dL_law_551 rfl (lv_at hl 0 rfl) ?_
                      refine lv_iload_n hx hb dL_law_552 rfl (lv_at hl 3 rfl) ?_
                      refine lv_iconst (v := 4) hx hb dL_law_553 (by decide) ?_
                      refine lv_iadd hx hb dL_law_554 ?_
                      refine s_ld hx hb hX hbl hbA hS (j := 6 * k + 4) (by rw [show (4 : Int32) = nI 4 from rfl, nI_add]) (by omega) hLL (v := x4) hx4 dL_law_555 ?_
                      refine lc_T (mc := 0) (ms := 0) (oo := (oTide σ x1 true x3 x4)) (As := [.int x1, .int (b2i true), .int x3, .int x4]) (rest := []) ⟨hx, hb, hml, hown, hts⟩ (fun q fr fg fk L9 f ra rb ka kb hf hR sz => mX4_tide l dC dI ad q cJ cG cK cR cI cZ cD fr fg fk L9 f ra rb ka kb hf σ hR k hI (by omega) sz x1 true x3 x4) (cwV 4 hts gL_law_X4_tide rfl rfl rfl (by decide +kernel) ⟨Nat.le_of_ble_eq_true rfl, Nat.le_of_ble_eq_true rfl⟩) hK hE hL hS hA rfl rfl hl.1 (Nat.le_of_ble_eq_true rfl) dL_law_556 ⟨by show _ ≤ 600000; omega, by show _ ≤ 7302250; omega⟩ (fun H locs hL hS => ?_)
                      refine lv_aload_n hx hb dL_law_559 rfl (lv_at hl 2 rfl) ?_
                      refine lv_aload_n hx hb dL_law_560 rfl (lv_at hl 0 rfl) ?_
                      refine lv_iload_n hx hb dL_law_561 rfl (lv_at hl 3 rfl) ?_
                      refine lv_iconst (v := 1) hx hb dL_law_562 (by decide) ?_
                      refine lv_iadd hx hb dL_law_563 ?_
                      refine s_ld hx hb hX hbl hbA hS (j := 6 * k + 1) (by rw [show (1 : Int32) = nI 1 from rfl, nI_add]) (by omega) hLL (v := x1) hx1 dL_law_564 ?_
                      refine lv_aload_n hx hb dL_law_565 rfl (lv_at hl 0 rfl) ?_
                      refine lv_iload_n hx hb dL_law_566 rfl (lv_at hl 3 rfl) ?_
                      refine lv_iconst (v := 2) hx hb dL_law_567 (by decide) ?_
                      refine lv_iadd hx hb dL_law_568 ?_
                      refine s_ld hx hb hX hbl hbA hS (j := 6 * k + 2) (by rw [show (2 : Int32) = nI 2 from rfl, nI_add]) (by omega) hLL (v := x2) hx2 dL_law_569 ?_
                      refine lv_if_eq (tgt := 577) hx hb dL_law_570 (by decide) (fun c_26 => ?_) (fun c_26 => ?_)
                      · exact absurd c_26 c_24
                      refine lv_iconst (v := 1) hx hb dL_law_573 (by decide) ?_
                      refine lv_goto (tgt := 578) hx hb dL_law_574 (by decide) ?_
                      refine lv_aload_n hx hb dL_law_578 rfl (lv_at hl 0 rfl) ?_
                      refine lv_iload_n hx hb dL_law_579 rfl (lv_at hl 3 rfl) ?_
                      refine lv_iconst (v := 3) hx hb dL_law_580 (by decide) ?_
                      refine lv_iadd hx hb dL_law_581 ?_
                      refine s_ld hx hb hX hbl hbA hS (j := 6 * k + 3) (by rw [show (3 : Int32) = nI 3 from rfl, nI_add]) (by omega) hLL (v := x3) hx3 dL_law_582 ?_
                      refine lv_aload_n hx hb dL_law_583 rfl (lv_at hl 0 rfl) ?_
                      refine lv_iload_n hx hb dL_law_584 rfl (lv_at hl 3 rfl) ?_
                      refine lv_iconst (v := 4) hx hb dL_law_585 (by decide) ?_
                      refine lv_iadd hx hb dL_law_586 ?_
                      refine s_ld hx hb hX hbl hbA hS (j := 6 * k + 4) (by rw [show (4 : Int32) = nI 4 from rfl, nI_add]) (by omega) hLL (v := x4) hx4 dL_law_587 ?_
                      refine lc_M (oo := (oTide σ x1 true x3 x4)) (As := [.int x1, .int (b2i true), .int x3, .int x4]) (rest := [.int ((oTide σ x1 true x3 x4).1)]) ⟨hx, hb, hml, hown, hts⟩ (fun q sz => mX5_tide l dC dI q cJ cG cK cR cI cZ cD sz σ k hI (by omega) x1 true x3 x4) (cwV 4 hts gL_law_X5_tide rfl rfl rfl (by decide +kernel) ⟨Nat.le_of_ble_eq_true rfl, Nat.le_of_ble_eq_true rfl⟩) hK hL hS hA rfl rfl hl.1 (Nat.le_of_ble_eq_true rfl) dL_law_588 ⟨by show _ ≤ 600000; omega, by show _ ≤ 7302250; omega⟩ (fun H locs hL hS => ?_)
                      refine lv_icmp_eq (tgt := 1057) hx hb dL_law_591 (by decide) (fun h9 => ?_) (fun h9 => absurd rfl h9)
                      exact fin ((oTide σ x1 true x3 x4).2) _ _ _ _ ls (I_oTide hI _ _ _ _) hL hS hl (by omega) (by omega)
                  · by_cases c_27 : (x0 &&& (31 : Int32)) = 8
                    · refine lv_tableIn (off := 563) (tgt := 596) hx hb dL_law_33 (by rw [c_27]; decide) (by rw [c_27]; decide) (by rw [c_27]; rfl) (by decide) ?_
                      refine lv_aload_n hx hb dL_law_596 rfl (lv_at hl 1 rfl) ?_
                      refine lv_aload_n hx hb dL_law_597 rfl (lv_at hl 0 rfl) ?_
                      refine lv_iload_n hx hb dL_law_598 rfl (lv_at hl 3 rfl) ?_
                      refine lv_iconst (v := 1) hx hb dL_law_599 (by decide) ?_
                      refine lv_iadd hx hb dL_law_600 ?_
                      refine s_ld hx hb hX hbl hbA hS (j := 6 * k + 1) (by rw [show (1 : Int32) = nI 1 from rfl, nI_add]) (by omega) hLL (v := x1) hx1 dL_law_601 ?_
                      refine lv_aload_n hx hb dL_law_602 rfl (lv_at hl 0 rfl) ?_
                      refine lv_iload_n hx hb dL_law_603 rfl (lv_at hl 3 rfl) ?_
                      refine lv_iconst (v := 2) hx hb dL_law_604 (by decide) ?_
                      refine lv_iadd hx hb dL_law_605 ?_
                      refine s_ld hx hb hX hbl hbA hS (j := 6 * k + 2) (by rw [show (2 : Int32) = nI 2 from rfl, nI_add]) (by omega) hLL (v := x2) hx2 dL_law_606 ?_
                      refine lv_if_eq (tgt := 614) hx hb dL_law_607 (by decide) (fun c_28 => ?_) (fun c_28 => ?_)
                      · refine lv_iconst (v := 0) hx hb dL_law_614 (by decide) ?_
                        refine lv_aload_n hx hb dL_law_615 rfl (lv_at hl 0 rfl) ?_
                        refine lv_iload_n hx hb dL_law_616 rfl (lv_at hl 3 rfl) ?_
                        refine lv_iconst (v := 3) hx hb dL_law_617 (by decide) ?_
                        refine lv_iadd hx hb dL_law_618 ?_
                        refine s_ld hx hb hX hbl hbA hS (j := 6 * k + 3) (by rw [show (3 : Int32) = nI 3 from rfl, nI_add]) (by omega) hLL (v := x3) hx3 dL_law_619 ?_
                        refine lv_aload_n hx hb dL_law_620 rfl (lv_at hl 0 rfl) ?_
                        refine lv_iload_n hx hb dL_law_621 rfl (lv_at hl 3 rfl) ?_
                        refine lv_iconst (v := 4) hx hb dL_law_622 (by decide) ?_
                        refine lv_iadd hx hb dL_law_623 ?_
                        refine s_ld hx hb hX hbl hbA hS (j := 6 * k + 4) (by rw [show (4 : Int32) = nI 4 from rfl, nI_add]) (by omega) hLL (v := x4) hx4 dL_law_624 ?_
                        refine lc_T (mc := 0) (ms := 0) (oo := (oSum σ x1 false x3 x4)) (As := [.int x1, .int (b2i false), .int x3, .int x4]) (rest := []) ⟨hx, hb, hml, hown, hts⟩ (fun q fr fg fk L9 f ra rb ka kb hf hR sz => mX4_sum l dC dI ad q cJ cG cK cR cI cZ cD fr fg fk L9 f ra rb ka kb hf σ hR k hI (by omega) sz x1 false x3 x4) (cwV 4 hts gL_law_X4_sum rfl rfl rfl (by decide +kernel) ⟨Nat.le_of_ble_eq_true rfl, Nat.le_of_ble_eq_true rfl⟩) hK hE hL hS hA rfl rfl hl.1 (Nat.le_of_ble_eq_true rfl) dL_law_625 ⟨by show _ ≤ 600000; omega, by show _ ≤ 7302250; omega⟩ (fun H locs hL hS => ?_)
                        refine lv_aload_n hx hb dL_law_628 rfl (lv_at hl 2 rfl) ?_
                        refine lv_aload_n hx hb dL_law_629 rfl (lv_at hl 0 rfl) ?_
                        refine lv_iload_n hx hb dL_law_630 rfl (lv_at hl 3 rfl) ?_
                        refine lv_iconst (v := 1) hx hb dL_law_631 (by decide) ?_
                        refine lv_iadd hx hb dL_law_632 ?_
                        refine s_ld hx hb hX hbl hbA hS (j := 6 * k + 1) (by rw [show (1 : Int32) = nI 1 from rfl, nI_add]) (by omega) hLL (v := x1) hx1 dL_law_633 ?_
                        refine lv_aload_n hx hb dL_law_634 rfl (lv_at hl 0 rfl) ?_
                        refine lv_iload_n hx hb dL_law_635 rfl (lv_at hl 3 rfl) ?_
                        refine lv_iconst (v := 2) hx hb dL_law_636 (by decide) ?_
                        refine lv_iadd hx hb dL_law_637 ?_
                        refine s_ld hx hb hX hbl hbA hS (j := 6 * k + 2) (by rw [show (2 : Int32) = nI 2 from rfl, nI_add]) (by omega) hLL (v := x2) hx2 dL_law_638 ?_
                        refine lv_if_eq (tgt := 646) hx hb dL_law_639 (by decide) (fun c_29 => ?_) (fun c_29 => ?_)
                        rotate_left
                        · exact absurd c_28 c_29
                        refine lv_iconst (v := 0) hx hb dL_law_646 (by decide) ?_
                        refine lv_aload_n hx hb dL_law_647 rfl (lv_at hl 0 rfl) ?_
                        refine lv_iload_n hx hb dL_law_648 rfl (lv_at hl 3 rfl) ?_
                        refine lv_iconst (v := 3) hx hb dL_law_649 (by decide) ?_
                        refine lv_iadd hx hb dL_law_650 ?_
                        refine s_ld hx hb hX hbl hbA hS (j := 6 * k + 3) (by rw [show (3 : Int32) = nI 3 from rfl, nI_add]) (by omega) hLL (v := x3) hx3 dL_law_651 ?_
                        refine lv_aload_n hx hb dL_law_652 rfl (lv_at hl 0 rfl) ?_
                        refine lv_iload_n hx hb dL_law_653 rfl (lv_at hl 3 rfl) ?_
                        refine lv_iconst (v := 4) hx hb dL_law_654 (by decide) ?_
                        refine lv_iadd hx hb dL_law_655 ?_
                        refine s_ld hx hb hX hbl hbA hS (j := 6 * k + 4) (by rw [show (4 : Int32) = nI 4 from rfl, nI_add]) (by omega) hLL (v := x4) hx4 dL_law_656 ?_
                        refine lc_M (oo := (oSum σ x1 false x3 x4)) (As := [.int x1, .int (b2i false), .int x3, .int x4]) (rest := [.int ((oSum σ x1 false x3 x4).1)]) ⟨hx, hb, hml, hown, hts⟩ (fun q sz => mX5_sum l dC dI q cJ cG cK cR cI cZ cD sz σ k hI (by omega) x1 false x3 x4) (cwV 4 hts gL_law_X5_sum rfl rfl rfl (by decide +kernel) ⟨Nat.le_of_ble_eq_true rfl, Nat.le_of_ble_eq_true rfl⟩) hK hL hS hA rfl rfl hl.1 (Nat.le_of_ble_eq_true rfl) dL_law_657 ⟨by show _ ≤ 600000; omega, by show _ ≤ 7302250; omega⟩ (fun H locs hL hS => ?_)
                        refine lv_icmp_eq (tgt := 1057) hx hb dL_law_660 (by decide) (fun h9 => ?_) (fun h9 => absurd rfl h9)
                        exact fin ((oSum σ x1 false x3 x4).2) _ _ _ _ ls (I_oSum hI _ _ _ _) hL hS hl (by omega) (by omega)
                      · refine lv_iconst (v := 1) hx hb dL_law_610 (by decide) ?_
                        refine lv_goto (tgt := 615) hx hb dL_law_611 (by decide) ?_
                        refine lv_aload_n hx hb dL_law_615 rfl (lv_at hl 0 rfl) ?_
                        refine lv_iload_n hx hb dL_law_616 rfl (lv_at hl 3 rfl) ?_
                        refine lv_iconst (v := 3) hx hb dL_law_617 (by decide) ?_
                        refine lv_iadd hx hb dL_law_618 ?_
                        refine s_ld hx hb hX hbl hbA hS (j := 6 * k + 3) (by rw [show (3 : Int32) = nI 3 from rfl, nI_add]) (by omega) hLL (v := x3) hx3 dL_law_619 ?_
                        refine lv_aload_n hx hb dL_law_620 rfl (lv_at hl 0 rfl) ?_
                        refine lv_iload_n hx hb dL_law_621 rfl (lv_at hl 3 rfl) ?_
                        refine lv_iconst (v := 4) hx hb dL_law_622 (by decide) ?_
                        refine lv_iadd hx hb dL_law_623 ?_
                        refine s_ld hx hb hX hbl hbA hS (j := 6 * k + 4) (by rw [show (4 : Int32) = nI 4 from rfl, nI_add]) (by omega) hLL (v := x4) hx4 dL_law_624 ?_
                        refine lc_T (mc := 0) (ms := 0) (oo := (oSum σ x1 true x3 x4)) (As := [.int x1, .int (b2i true), .int x3, .int x4]) (rest := []) ⟨hx, hb, hml, hown, hts⟩ (fun q fr fg fk L9 f ra rb ka kb hf hR sz => mX4_sum l dC dI ad q cJ cG cK cR cI cZ cD fr fg fk L9 f ra rb ka kb hf σ hR k hI (by omega) sz x1 true x3 x4) (cwV 4 hts gL_law_X4_sum rfl rfl rfl (by decide +kernel) ⟨Nat.le_of_ble_eq_true rfl, Nat.le_of_ble_eq_true rfl⟩) hK hE hL hS hA rfl rfl hl.1 (Nat.le_of_ble_eq_true rfl) dL_law_625 ⟨by show _ ≤ 600000; omega, by show _ ≤ 7302250; omega⟩ (fun H locs hL hS => ?_)
                        refine lv_aload_n hx hb dL_law_628 rfl (lv_at hl 2 rfl) ?_
                        refine lv_aload_n hx hb dL_law_629 rfl (lv_at hl 0 rfl) ?_
                        refine lv_iload_n hx hb dL_law_630 rfl (lv_at hl 3 rfl) ?_
                        refine lv_iconst (v := 1) hx hb dL_law_631 (by decide) ?_
                        refine lv_iadd hx hb dL_law_632 ?_
                        refine s_ld hx hb hX hbl hbA hS (j := 6 * k + 1) (by rw [show (1 : Int32) = nI 1 from rfl, nI_add]) (by omega) hLL (v := x1) hx1 dL_law_633 ?_
                        refine lv_aload_n hx hb dL_law_634 rfl (lv_at hl 0 rfl) ?_
                        refine lv_iload_n hx hb dL_law_635 rfl (lv_at hl 3 rfl) ?_
                        refine lv_iconst (v := 2) hx hb dL_law_636 (by decide) ?_
                        refine lv_iadd hx hb dL_law_637 ?_
                        refine s_ld hx hb hX hbl hbA hS (j := 6 * k + 2) (by rw [show (2 : Int32) = nI 2 from rfl, nI_add]) (by omega) hLL (v := x2) hx2 dL_law_638 ?_
                        refine lv_if_eq (tgt := 646) hx hb dL_law_639 (by decide) (fun c_30 => ?_) (fun c_30 => ?_)
                        · exact absurd c_30 c_28
                        refine lv_iconst (v := 1) hx hb dL_law_642 (by decide) ?_
                        refine lv_goto (tgt := 647) hx hb dL_law_643 (by decide) ?_
                        refine lv_aload_n hx hb dL_law_647 rfl (lv_at hl 0 rfl) ?_
                        refine lv_iload_n hx hb dL_law_648 rfl (lv_at hl 3 rfl) ?_
                        refine lv_iconst (v := 3) hx hb dL_law_649 (by decide) ?_
                        refine lv_iadd hx hb dL_law_650 ?_
                        refine s_ld hx hb hX hbl hbA hS (j := 6 * k + 3) (by rw [show (3 : Int32) = nI 3 from rfl, nI_add]) (by omega) hLL (v := x3) hx3 dL_law_651 ?_
                        refine lv_aload_n hx hb dL_law_652 rfl (lv_at hl 0 rfl) ?_
                        refine lv_iload_n hx hb dL_law_653 rfl (lv_at hl 3 rfl) ?_
                        refine lv_iconst (v := 4) hx hb dL_law_654 (by decide) ?_
                        refine lv_iadd hx hb dL_law_655 ?_
                        refine s_ld hx hb hX hbl hbA hS (j := 6 * k + 4) (by rw [show (4 : Int32) = nI 4 from rfl, nI_add]) (by omega) hLL (v := x4) hx4 dL_law_656 ?_
                        refine lc_M (oo := (oSum σ x1 true x3 x4)) (As := [.int x1, .int (b2i true), .int x3, .int x4]) (rest := [.int ((oSum σ x1 true x3 x4).1)]) ⟨hx, hb, hml, hown, hts⟩ (fun q sz => mX5_sum l dC dI q cJ cG cK cR cI cZ cD sz σ k hI (by omega) x1 true x3 x4) (cwV 4 hts gL_law_X5_sum rfl rfl rfl (by decide +kernel) ⟨Nat.le_of_ble_eq_true rfl, Nat.le_of_ble_eq_true rfl⟩) hK hL hS hA rfl rfl hl.1 (Nat.le_of_ble_eq_true rfl) dL_law_657 ⟨by show _ ≤ 600000; omega, by show _ ≤ 7302250; omega⟩ (fun H locs hL hS => ?_)
                        refine lv_icmp_eq (tgt := 1057) hx hb dL_law_660 (by decide) (fun h9 => ?_) (fun h9 => absurd rfl h9)
                        exact fin ((oSum σ x1 true x3 x4).2) _ _ _ _ ls (I_oSum hI _ _ _ _) hL hS hl (by omega) (by omega)
                    · by_cases c_31 : (x0 &&& (31 : Int32)) = 9
                      · refine lv_tableIn (off := 632) (tgt := 665) hx hb dL_law_33 (by rw [c_31]; decide) (by rw [c_31]; decide) (by rw [c_31]; rfl) (by decide) ?_
                        refine lv_aload_n hx hb dL_law_665 rfl (lv_at hl 1 rfl) ?_
                        refine lv_aload_n hx hb dL_law_666 rfl (lv_at hl 0 rfl) ?_
                        refine lv_iload_n hx hb dL_law_667 rfl (lv_at hl 3 rfl) ?_
                        refine lv_iconst (v := 1) hx hb dL_law_668 (by decide) ?_
                        refine lv_iadd hx hb dL_law_669 ?_
                        refine s_ld hx hb hX hbl hbA hS (j := 6 * k + 1) (by rw [show (1 : Int32) = nI 1 from rfl, nI_add]) (by omega) hLL (v := x1) hx1 dL_law_670 ?_
                        refine lv_i2l hx hb dL_law_671 rfl ?_
                        refine lv_bipush (v := 32) hx hb dL_law_672 (by decide) ?_
                        refine lv_lshl hx hb dL_law_674 rfl ?_
                        refine lv_aload_n hx hb dL_law_675 rfl (lv_at hl 0 rfl) ?_
                        refine lv_iload_n hx hb dL_law_676 rfl (lv_at hl 3 rfl) ?_
                        refine lv_iconst (v := 2) hx hb dL_law_677 (by decide) ?_
                        refine lv_iadd hx hb dL_law_678 ?_
                        refine s_ld hx hb hX hbl hbA hS (j := 6 * k + 2) (by rw [show (2 : Int32) = nI 2 from rfl, nI_add]) (by omega) hLL (v := x2) hx2 dL_law_679 ?_
                        refine lv_i2l hx hb dL_law_680 rfl ?_
                        refine lv_ldc2 hx hb hown (hts (.constantLong RL 28 (4294967295)) (List.mem_of_getElem? (i := 6) rfl)) dL_law_681 ?_
                        refine lv_land hx hb dL_law_684 ?_
                        refine lv_lor hx hb dL_law_685 ?_
                        refine lv_aload_n hx hb dL_law_686 rfl (lv_at hl 0 rfl) ?_
                        refine lv_iload_n hx hb dL_law_687 rfl (lv_at hl 3 rfl) ?_
                        refine lv_iconst (v := 3) hx hb dL_law_688 (by decide) ?_
                        refine lv_iadd hx hb dL_law_689 ?_
                        refine s_ld hx hb hX hbl hbA hS (j := 6 * k + 3) (by rw [show (3 : Int32) = nI 3 from rfl, nI_add]) (by omega) hLL (v := x3) hx3 dL_law_690 ?_
                        refine lc_Tp (As := [.long ((x1.toInt64 <<< ((32 : Int32).toInt64 &&& 63)) ||| (x2.toInt64 &&& (4294967295 : Int64))), .int x3]) (rest := []) ⟨hx, hb, hml, hown, hts⟩ (fun q fr fg fk L9 f ra rb ka kb hf hR => mX4_round l dC dI ad q cJ cG cK cR cI cZ cD fr fg fk L9 f ra rb ka kb hf σ hR k hI (by omega) ((x1.toInt64 <<< ((32 : Int32).toInt64 &&& 63)) ||| (x2.toInt64 &&& (4294967295 : Int64))) x3) (cwV 2 hts gL_law_X4_round rfl rfl rfl (by decide +kernel) ⟨Nat.le_of_ble_eq_true rfl, Nat.le_of_ble_eq_true rfl⟩) hK hE hL hS rfl rfl hl.1 (Nat.le_of_ble_eq_true rfl) dL_law_691 ⟨by show _ ≤ 600000; omega, by show _ ≤ 7302250; omega⟩ ?_
                        refine lv_aload_n hx hb dL_law_694 rfl (lv_at hl 2 rfl) ?_
                        refine lv_aload_n hx hb dL_law_695 rfl (lv_at hl 0 rfl) ?_
                        refine lv_iload_n hx hb dL_law_696 rfl (lv_at hl 3 rfl) ?_
                        refine lv_iconst (v := 1) hx hb dL_law_697 (by decide) ?_
                        refine lv_iadd hx hb dL_law_698 ?_
                        refine s_ld hx hb hX hbl hbA hS (j := 6 * k + 1) (by rw [show (1 : Int32) = nI 1 from rfl, nI_add]) (by omega) hLL (v := x1) hx1 dL_law_699 ?_
                        refine lv_i2l hx hb dL_law_700 rfl ?_
                        refine lv_bipush (v := 32) hx hb dL_law_701 (by decide) ?_
                        refine lv_lshl hx hb dL_law_703 rfl ?_
                        refine lv_aload_n hx hb dL_law_704 rfl (lv_at hl 0 rfl) ?_
                        refine lv_iload_n hx hb dL_law_705 rfl (lv_at hl 3 rfl) ?_
                        refine lv_iconst (v := 2) hx hb dL_law_706 (by decide) ?_
                        refine lv_iadd hx hb dL_law_707 ?_
                        refine s_ld hx hb hX hbl hbA hS (j := 6 * k + 2) (by rw [show (2 : Int32) = nI 2 from rfl, nI_add]) (by omega) hLL (v := x2) hx2 dL_law_708 ?_
                        refine lv_i2l hx hb dL_law_709 rfl ?_
                        refine lv_ldc2 hx hb hown (hts (.constantLong RL 28 (4294967295)) (List.mem_of_getElem? (i := 6) rfl)) dL_law_710 ?_
                        refine lv_land hx hb dL_law_713 ?_
                        refine lv_lor hx hb dL_law_714 ?_
                        refine lv_aload_n hx hb dL_law_715 rfl (lv_at hl 0 rfl) ?_
                        refine lv_iload_n hx hb dL_law_716 rfl (lv_at hl 3 rfl) ?_
                        refine lv_iconst (v := 3) hx hb dL_law_717 (by decide) ?_
                        refine lv_iadd hx hb dL_law_718 ?_
                        refine s_ld hx hb hX hbl hbA hS (j := 6 * k + 3) (by rw [show (3 : Int32) = nI 3 from rfl, nI_add]) (by omega) hLL (v := x3) hx3 dL_law_719 ?_
                        refine lc_Mp (As := [.long ((x1.toInt64 <<< ((32 : Int32).toInt64 &&& 63)) ||| (x2.toInt64 &&& (4294967295 : Int64))), .int x3]) (rest := [.long (fX4_round ((x1.toInt64 <<< ((32 : Int32).toInt64 &&& 63)) ||| (x2.toInt64 &&& (4294967295 : Int64))) x3)]) ⟨hx, hb, hml, hown, hts⟩ (fun q => mX5_round l dC dI q cJ cG cK cR cI cZ cD σ k hI (by omega) ((x1.toInt64 <<< ((32 : Int32).toInt64 &&& 63)) ||| (x2.toInt64 &&& (4294967295 : Int64))) x3) (cwV 2 hts gL_law_X5_round rfl rfl rfl (by decide +kernel) ⟨Nat.le_of_ble_eq_true rfl, Nat.le_of_ble_eq_true rfl⟩) hK hL rfl rfl hl.1 (Nat.le_of_ble_eq_true rfl) dL_law_720 ⟨by show _ ≤ 600000; omega, by show _ ≤ 7302250; omega⟩ ?_
                        refine w_lc_eq (tgt := 1057) hx hb dL_law_723 dL_law_724 (by decide) (fun h9 => ?_) (fun h9 => absurd (A_round _ _) h9)
                        exact fin σ _ _ _ _ ls (I_mono hI) hL hS hl (by omega) (by omega)
                      · by_cases c_32 : (x0 &&& (31 : Int32)) = 10
                        · refine lv_tableIn (off := 696) (tgt := 729) hx hb dL_law_33 (by rw [c_32]; decide) (by rw [c_32]; decide) (by rw [c_32]; rfl) (by decide) ?_
                          refine lv_aload_n hx hb dL_law_729 rfl (lv_at hl 1 rfl) ?_
                          refine lv_aload_n hx hb dL_law_730 rfl (lv_at hl 0 rfl) ?_
                          refine lv_iload_n hx hb dL_law_731 rfl (lv_at hl 3 rfl) ?_
                          refine lv_iconst (v := 1) hx hb dL_law_732 (by decide) ?_
                          refine lv_iadd hx hb dL_law_733 ?_
                          refine s_ld hx hb hX hbl hbA hS (j := 6 * k + 1) (by rw [show (1 : Int32) = nI 1 from rfl, nI_add]) (by omega) hLL (v := x1) hx1 dL_law_734 ?_
                          refine lv_aload_n hx hb dL_law_735 rfl (lv_at hl 0 rfl) ?_
                          refine lv_iload_n hx hb dL_law_736 rfl (lv_at hl 3 rfl) ?_
                          refine lv_iconst (v := 2) hx hb dL_law_737 (by decide) ?_
                          refine lv_iadd hx hb dL_law_738 ?_
                          refine s_ld hx hb hX hbl hbA hS (j := 6 * k + 2) (by rw [show (2 : Int32) = nI 2 from rfl, nI_add]) (by omega) hLL (v := x2) hx2 dL_law_739 ?_
                          refine lv_aload_n hx hb dL_law_740 rfl (lv_at hl 0 rfl) ?_
                          refine lv_iload_n hx hb dL_law_741 rfl (lv_at hl 3 rfl) ?_
                          refine lv_iconst (v := 3) hx hb dL_law_742 (by decide) ?_
                          refine lv_iadd hx hb dL_law_743 ?_
                          refine s_ld hx hb hX hbl hbA hS (j := 6 * k + 3) (by rw [show (3 : Int32) = nI 3 from rfl, nI_add]) (by omega) hLL (v := x3) hx3 dL_law_744 ?_
                          refine lv_i2l hx hb dL_law_745 rfl ?_
                          refine lv_bipush (v := 32) hx hb dL_law_746 (by decide) ?_
                          refine lv_lshl hx hb dL_law_748 rfl ?_
                          refine lv_aload_n hx hb dL_law_749 rfl (lv_at hl 0 rfl) ?_
                          refine lv_iload_n hx hb dL_law_750 rfl (lv_at hl 3 rfl) ?_
                          refine lv_iconst (v := 4) hx hb dL_law_751 (by decide) ?_
                          refine lv_iadd hx hb dL_law_752 ?_
                          refine s_ld hx hb hX hbl hbA hS (j := 6 * k + 4) (by rw [show (4 : Int32) = nI 4 from rfl, nI_add]) (by omega) hLL (v := x4) hx4 dL_law_753 ?_
                          refine lv_i2l hx hb dL_law_754 rfl ?_
                          refine lv_ldc2 hx hb hown (hts (.constantLong RL 28 (4294967295)) (List.mem_of_getElem? (i := 6) rfl)) dL_law_755 ?_
                          refine lv_land hx hb dL_law_758 ?_
                          refine lv_lor hx hb dL_law_759 ?_
                          refine lc_T (mc := 1) (ms := 2) (oo := (oGauge σ x1 x2 ((x3.toInt64 <<< ((32 : Int32).toInt64 &&& 63)) ||| (x4.toInt64 &&& (4294967295 : Int64))))) (As := [.int x1, .int x2, .long ((x3.toInt64 <<< ((32 : Int32).toInt64 &&& 63)) ||| (x4.toInt64 &&& (4294967295 : Int64)))]) (rest := []) ⟨hx, hb, hml, hown, hts⟩ (fun q fr fg fk L9 f ra rb ka kb hf hR sz => mX4_gauge l dC dI ad q cJ cG cK cR cI cZ cD fr fg fk L9 f ra rb ka kb hf σ hR k hI (by omega) sz x1 x2 ((x3.toInt64 <<< ((32 : Int32).toInt64 &&& 63)) ||| (x4.toInt64 &&& (4294967295 : Int64)))) (cwV 3 hts gL_law_X4_gauge rfl rfl rfl (by decide +kernel) ⟨Nat.le_of_ble_eq_true rfl, Nat.le_of_ble_eq_true rfl⟩) hK hE hL hS hA rfl rfl hl.1 (Nat.le_of_ble_eq_true rfl) dL_law_760 ⟨by show _ ≤ 600000; omega, by show _ ≤ 7302250; omega⟩ (fun H locs hL hS => ?_)
                          refine lv_aload_n hx hb dL_law_763 rfl (lv_at hl 2 rfl) ?_
                          refine lv_aload_n hx hb dL_law_764 rfl (lv_at hl 0 rfl) ?_
                          refine lv_iload_n hx hb dL_law_765 rfl (lv_at hl 3 rfl) ?_
                          refine lv_iconst (v := 1) hx hb dL_law_766 (by decide) ?_
                          refine lv_iadd hx hb dL_law_767 ?_
                          refine s_ld hx hb hX hbl hbA hS (j := 6 * k + 1) (by rw [show (1 : Int32) = nI 1 from rfl, nI_add]) (by omega) hLL (v := x1) hx1 dL_law_768 ?_
                          refine lv_aload_n hx hb dL_law_769 rfl (lv_at hl 0 rfl) ?_
                          refine lv_iload_n hx hb dL_law_770 rfl (lv_at hl 3 rfl) ?_
                          refine lv_iconst (v := 2) hx hb dL_law_771 (by decide) ?_
                          refine lv_iadd hx hb dL_law_772 ?_
                          refine s_ld hx hb hX hbl hbA hS (j := 6 * k + 2) (by rw [show (2 : Int32) = nI 2 from rfl, nI_add]) (by omega) hLL (v := x2) hx2 dL_law_773 ?_
                          refine lv_aload_n hx hb dL_law_774 rfl (lv_at hl 0 rfl) ?_
                          refine lv_iload_n hx hb dL_law_775 rfl (lv_at hl 3 rfl) ?_
                          refine lv_iconst (v := 3) hx hb dL_law_776 (by decide) ?_
                          refine lv_iadd hx hb dL_law_777 ?_
                          refine s_ld hx hb hX hbl hbA hS (j := 6 * k + 3) (by rw [show (3 : Int32) = nI 3 from rfl, nI_add]) (by omega) hLL (v := x3) hx3 dL_law_778 ?_
                          refine lv_i2l hx hb dL_law_779 rfl ?_
                          refine lv_bipush (v := 32) hx hb dL_law_780 (by decide) ?_
                          refine lv_lshl hx hb dL_law_782 rfl ?_
                          refine lv_aload_n hx hb dL_law_783 rfl (lv_at hl 0 rfl) ?_
                          refine lv_iload_n hx hb dL_law_784 rfl (lv_at hl 3 rfl) ?_
                          refine lv_iconst (v := 4) hx hb dL_law_785 (by decide) ?_
                          refine lv_iadd hx hb dL_law_786 ?_
                          refine s_ld hx hb hX hbl hbA hS (j := 6 * k + 4) (by rw [show (4 : Int32) = nI 4 from rfl, nI_add]) (by omega) hLL (v := x4) hx4 dL_law_787 ?_
                          refine lv_i2l hx hb dL_law_788 rfl ?_
                          refine lv_ldc2 hx hb hown (hts (.constantLong RL 28 (4294967295)) (List.mem_of_getElem? (i := 6) rfl)) dL_law_789 ?_
                          refine lv_land hx hb dL_law_792 ?_
                          refine lv_lor hx hb dL_law_793 ?_
                          refine lc_M (oo := (oGauge σ x1 x2 ((x3.toInt64 <<< ((32 : Int32).toInt64 &&& 63)) ||| (x4.toInt64 &&& (4294967295 : Int64))))) (As := [.int x1, .int x2, .long ((x3.toInt64 <<< ((32 : Int32).toInt64 &&& 63)) ||| (x4.toInt64 &&& (4294967295 : Int64)))]) (rest := [.int ((oGauge σ x1 x2 ((x3.toInt64 <<< ((32 : Int32).toInt64 &&& 63)) ||| (x4.toInt64 &&& (4294967295 : Int64)))).1)]) ⟨hx, hb, hml, hown, hts⟩ (fun q sz => mX5_gauge l dC dI q cJ cG cK cR cI cZ cD sz σ k hI (by omega) x1 x2 ((x3.toInt64 <<< ((32 : Int32).toInt64 &&& 63)) ||| (x4.toInt64 &&& (4294967295 : Int64)))) (cwV 3 hts gL_law_X5_gauge rfl rfl rfl (by decide +kernel) ⟨Nat.le_of_ble_eq_true rfl, Nat.le_of_ble_eq_true rfl⟩) hK hL hS hA rfl rfl hl.1 (Nat.le_of_ble_eq_true rfl) dL_law_794 ⟨by show _ ≤ 600000; omega, by show _ ≤ 7302250; omega⟩ (fun H locs hL hS => ?_)
                          refine lv_icmp_eq (tgt := 1057) hx hb dL_law_797 (by decide) (fun h9 => ?_) (fun h9 => absurd rfl h9)
                          exact fin ((oGauge σ x1 x2 ((x3.toInt64 <<< ((32 : Int32).toInt64 &&& 63)) ||| (x4.toInt64 &&& (4294967295 : Int64)))).2) _ _ _ _ ls (I_oGauge hI _ _ _) hL hS hl (by omega) (by omega)
                        · by_cases c_33 : (x0 &&& (31 : Int32)) = 11
                          · refine lv_tableIn (off := 769) (tgt := 802) hx hb dL_law_33 (by rw [c_33]; decide) (by rw [c_33]; decide) (by rw [c_33]; rfl) (by decide) ?_
                            refine lv_aload_n hx hb dL_law_802 rfl (lv_at hl 1 rfl) ?_
                            refine lv_aload_n hx hb dL_law_803 rfl (lv_at hl 0 rfl) ?_
                            refine lv_iload_n hx hb dL_law_804 rfl (lv_at hl 3 rfl) ?_
                            refine lv_iconst (v := 1) hx hb dL_law_805 (by decide) ?_
                            refine lv_iadd hx hb dL_law_806 ?_
                            refine s_ld hx hb hX hbl hbA hS (j := 6 * k + 1) (by rw [show (1 : Int32) = nI 1 from rfl, nI_add]) (by omega) hLL (v := x1) hx1 dL_law_807 ?_
                            refine lv_aload_n hx hb dL_law_808 rfl (lv_at hl 0 rfl) ?_
                            refine lv_iload_n hx hb dL_law_809 rfl (lv_at hl 3 rfl) ?_
                            refine lv_iconst (v := 2) hx hb dL_law_810 (by decide) ?_
                            refine lv_iadd hx hb dL_law_811 ?_
                            refine s_ld hx hb hX hbl hbA hS (j := 6 * k + 2) (by rw [show (2 : Int32) = nI 2 from rfl, nI_add]) (by omega) hLL (v := x2) hx2 dL_law_812 ?_
                            refine lv_i2l hx hb dL_law_813 rfl ?_
                            refine lv_bipush (v := 32) hx hb dL_law_814 (by decide) ?_
                            refine lv_lshl hx hb dL_law_816 rfl ?_
                            refine lv_aload_n hx hb dL_law_817 rfl (lv_at hl 0 rfl) ?_
                            refine lv_iload_n hx hb dL_law_818 rfl (lv_at hl 3 rfl) ?_
                            refine lv_iconst (v := 3) hx hb dL_law_819 (by decide) ?_
                            refine lv_iadd hx hb dL_law_820 ?_
                            refine s_ld hx hb hX hbl hbA hS (j := 6 * k + 3) (by rw [show (3 : Int32) = nI 3 from rfl, nI_add]) (by omega) hLL (v := x3) hx3 dL_law_821 ?_
                            refine lv_i2l hx hb dL_law_822 rfl ?_
                            refine lv_ldc2 hx hb hown (hts (.constantLong RL 28 (4294967295)) (List.mem_of_getElem? (i := 6) rfl)) dL_law_823 ?_
                            refine lv_land hx hb dL_law_826 ?_
                            refine lv_lor hx hb dL_law_827 ?_
                            refine lv_aload_n hx hb dL_law_828 rfl (lv_at hl 0 rfl) ?_
                            refine lv_iload_n hx hb dL_law_829 rfl (lv_at hl 3 rfl) ?_
                            refine lv_iconst (v := 4) hx hb dL_law_830 (by decide) ?_
                            refine lv_iadd hx hb dL_law_831 ?_
                            refine s_ld hx hb hX hbl hbA hS (j := 6 * k + 4) (by rw [show (4 : Int32) = nI 4 from rfl, nI_add]) (by omega) hLL (v := x4) hx4 dL_law_832 ?_
                            refine lv_if_eq (tgt := 840) hx hb dL_law_833 (by decide) (fun c_34 => ?_) (fun c_34 => ?_)
                            · refine lv_iconst (v := 0) hx hb dL_law_840 (by decide) ?_
                              refine lc_T (mc := 0) (ms := 0) (oo := (oRead σ x1 ((x2.toInt64 <<< ((32 : Int32).toInt64 &&& 63)) ||| (x3.toInt64 &&& (4294967295 : Int64))) false)) (As := [.int x1, .long ((x2.toInt64 <<< ((32 : Int32).toInt64 &&& 63)) ||| (x3.toInt64 &&& (4294967295 : Int64))), .int (b2i false)]) (rest := []) ⟨hx, hb, hml, hown, hts⟩ (fun q fr fg fk L9 f ra rb ka kb hf hR sz => mX4_read l dC dI ad q cJ cG cK cR cI cZ cD fr fg fk L9 f ra rb ka kb hf σ hR k hI (by omega) sz x1 ((x2.toInt64 <<< ((32 : Int32).toInt64 &&& 63)) ||| (x3.toInt64 &&& (4294967295 : Int64))) false) (cwV 3 hts gL_law_X4_read rfl rfl rfl (by decide +kernel) ⟨Nat.le_of_ble_eq_true rfl, Nat.le_of_ble_eq_true rfl⟩) hK hE hL hS hA rfl rfl hl.1 (Nat.le_of_ble_eq_true rfl) dL_law_841 ⟨by show _ ≤ 600000; omega, by show _ ≤ 7302250; omega⟩ (fun H locs hL hS => ?_)
                              refine lv_aload_n hx hb dL_law_844 rfl (lv_at hl 2 rfl) ?_
                              refine lv_aload_n hx hb dL_law_845 rfl (lv_at hl 0 rfl) ?_
                              refine lv_iload_n hx hb dL_law_846 rfl (lv_at hl 3 rfl) ?_
                              refine lv_iconst (v := 1) hx hb dL_law_847 (by decide) ?_
                              refine lv_iadd hx hb dL_law_848 ?_
                              refine s_ld hx hb hX hbl hbA hS (j := 6 * k + 1) (by rw [show (1 : Int32) = nI 1 from rfl, nI_add]) (by omega) hLL (v := x1) hx1 dL_law_849 ?_
                              refine lv_aload_n hx hb dL_law_850 rfl (lv_at hl 0 rfl) ?_
                              refine lv_iload_n hx hb dL_law_851 rfl (lv_at hl 3 rfl) ?_
                              refine lv_iconst (v := 2) hx hb dL_law_852 (by decide) ?_
                              refine lv_iadd hx hb dL_law_853 ?_
                              refine s_ld hx hb hX hbl hbA hS (j := 6 * k + 2) (by rw [show (2 : Int32) = nI 2 from rfl, nI_add]) (by omega) hLL (v := x2) hx2 dL_law_854 ?_
                              refine lv_i2l hx hb dL_law_855 rfl ?_
                              refine lv_bipush (v := 32) hx hb dL_law_856 (by decide) ?_
                              refine lv_lshl hx hb dL_law_858 rfl ?_
                              refine lv_aload_n hx hb dL_law_859 rfl (lv_at hl 0 rfl) ?_
                              refine lv_iload_n hx hb dL_law_860 rfl (lv_at hl 3 rfl) ?_
                              refine lv_iconst (v := 3) hx hb dL_law_861 (by decide) ?_
                              refine lv_iadd hx hb dL_law_862 ?_
                              refine s_ld hx hb hX hbl hbA hS (j := 6 * k + 3) (by rw [show (3 : Int32) = nI 3 from rfl, nI_add]) (by omega) hLL (v := x3) hx3 dL_law_863 ?_
                              refine lv_i2l hx hb dL_law_864 rfl ?_
                              refine lv_ldc2 hx hb hown (hts (.constantLong RL 28 (4294967295)) (List.mem_of_getElem? (i := 6) rfl)) dL_law_865 ?_
                              refine lv_land hx hb dL_law_868 ?_
                              refine lv_lor hx hb dL_law_869 ?_
                              refine lv_aload_n hx hb dL_law_870 rfl (lv_at hl 0 rfl) ?_
                              refine lv_iload_n hx hb dL_law_871 rfl (lv_at hl 3 rfl) ?_
                              refine lv_iconst (v := 4) hx hb dL_law_872 (by decide) ?_
                              refine lv_iadd hx hb dL_law_873 ?_
                              refine s_ld hx hb hX hbl hbA hS (j := 6 * k + 4) (by rw [show (4 : Int32) = nI 4 from rfl, nI_add]) (by omega) hLL (v := x4) hx4 dL_law_874 ?_
                              refine lv_if_eq (tgt := 882) hx hb dL_law_875 (by decide) (fun c_35 => ?_) (fun c_35 => ?_)
                              rotate_left
                              · exact absurd c_34 c_35
                              refine lv_iconst (v := 0) hx hb dL_law_882 (by decide) ?_
                              refine lc_M (oo := (oRead σ x1 ((x2.toInt64 <<< ((32 : Int32).toInt64 &&& 63)) ||| (x3.toInt64 &&& (4294967295 : Int64))) false)) (As := [.int x1, .long ((x2.toInt64 <<< ((32 : Int32).toInt64 &&& 63)) ||| (x3.toInt64 &&& (4294967295 : Int64))), .int (b2i false)]) (rest := [.int ((oRead σ x1 ((x2.toInt64 <<< ((32 : Int32).toInt64 &&& 63)) ||| (x3.toInt64 &&& (4294967295 : Int64))) false).1)]) ⟨hx, hb, hml, hown, hts⟩ (fun q sz => mX5_read l dC dI q cJ cG cK cR cI cZ cD sz σ k hI (by omega) x1 ((x2.toInt64 <<< ((32 : Int32).toInt64 &&& 63)) ||| (x3.toInt64 &&& (4294967295 : Int64))) false) (cwV 3 hts gL_law_X5_read rfl rfl rfl (by decide +kernel) ⟨Nat.le_of_ble_eq_true rfl, Nat.le_of_ble_eq_true rfl⟩) hK hL hS hA rfl rfl hl.1 (Nat.le_of_ble_eq_true rfl) dL_law_883 ⟨by show _ ≤ 600000; omega, by show _ ≤ 7302250; omega⟩ (fun H locs hL hS => ?_)
                              refine lv_icmp_eq (tgt := 1057) hx hb dL_law_886 (by decide) (fun h9 => ?_) (fun h9 => absurd rfl h9)
                              exact fin ((oRead σ x1 ((x2.toInt64 <<< ((32 : Int32).toInt64 &&& 63)) ||| (x3.toInt64 &&& (4294967295 : Int64))) false).2) _ _ _ _ ls (I_oRead hI _ _ _) hL hS hl (by omega) (by omega)
                            · refine lv_iconst (v := 1) hx hb dL_law_836 (by decide) ?_
                              refine lv_goto (tgt := 841) hx hb dL_law_837 (by decide) ?_
                              refine lc_T (mc := 0) (ms := 0) (oo := (oRead σ x1 ((x2.toInt64 <<< ((32 : Int32).toInt64 &&& 63)) ||| (x3.toInt64 &&& (4294967295 : Int64))) true)) (As := [.int x1, .long ((x2.toInt64 <<< ((32 : Int32).toInt64 &&& 63)) ||| (x3.toInt64 &&& (4294967295 : Int64))), .int (b2i true)]) (rest := []) ⟨hx, hb, hml, hown, hts⟩ (fun q fr fg fk L9 f ra rb ka kb hf hR sz => mX4_read l dC dI ad q cJ cG cK cR cI cZ cD fr fg fk L9 f ra rb ka kb hf σ hR k hI (by omega) sz x1 ((x2.toInt64 <<< ((32 : Int32).toInt64 &&& 63)) ||| (x3.toInt64 &&& (4294967295 : Int64))) true) (cwV 3 hts gL_law_X4_read rfl rfl rfl (by decide +kernel) ⟨Nat.le_of_ble_eq_true rfl, Nat.le_of_ble_eq_true rfl⟩) hK hE hL hS hA rfl rfl hl.1 (Nat.le_of_ble_eq_true rfl) dL_law_841 ⟨by show _ ≤ 600000; omega, by show _ ≤ 7302250; omega⟩ (fun H locs hL hS => ?_)
                              refine lv_aload_n hx hb dL_law_844 rfl (lv_at hl 2 rfl) ?_
                              refine lv_aload_n hx hb dL_law_845 rfl (lv_at hl 0 rfl) ?_
                              refine lv_iload_n hx hb dL_law_846 rfl (lv_at hl 3 rfl) ?_
                              refine lv_iconst (v := 1) hx hb dL_law_847 (by decide) ?_
                              refine lv_iadd hx hb dL_law_848 ?_
                              refine s_ld hx hb hX hbl hbA hS (j := 6 * k + 1) (by rw [show (1 : Int32) = nI 1 from rfl, nI_add]) (by omega) hLL (v := x1) hx1 dL_law_849 ?_
                              refine lv_aload_n hx hb dL_law_850 rfl (lv_at hl 0 rfl) ?_
                              refine lv_iload_n hx hb dL_law_851 rfl (lv_at hl 3 rfl) ?_
                              refine lv_iconst (v := 2) hx hb dL_law_852 (by decide) ?_
                              refine lv_iadd hx hb dL_law_853 ?_
                              refine s_ld hx hb hX hbl hbA hS (j := 6 * k + 2) (by rw [show (2 : Int32) = nI 2 from rfl, nI_add]) (by omega) hLL (v := x2) hx2 dL_law_854 ?_
                              refine lv_i2l hx hb dL_law_855 rfl ?_
                              refine lv_bipush (v := 32) hx hb dL_law_856 (by decide) ?_
                              refine lv_lshl hx hb dL_law_858 rfl ?_
                              refine lv_aload_n hx hb dL_law_859 rfl (lv_at hl 0 rfl) ?_
                              refine lv_iload_n hx hb dL_law_860 rfl (lv_at hl 3 rfl) ?_
                              refine lv_iconst (v := 3) hx hb dL_law_861 (by decide) ?_
                              refine lv_iadd hx hb dL_law_862 ?_
                              refine s_ld hx hb hX hbl hbA hS (j := 6 * k + 3) (by rw [show (3 : Int32) = nI 3 from rfl, nI_add]) (by omega) hLL (v := x3) hx3 dL_law_863 ?_
                              refine lv_i2l hx hb dL_law_864 rfl ?_
                              refine lv_ldc2 hx hb hown (hts (.constantLong RL 28 (4294967295)) (List.mem_of_getElem? (i := 6) rfl)) dL_law_865 ?_
                              refine lv_land hx hb dL_law_868 ?_
                              refine lv_lor hx hb dL_law_869 ?_
                              refine lv_aload_n hx hb dL_law_870 rfl (lv_at hl 0 rfl) ?_
                              refine lv_iload_n hx hb dL_law_871 rfl (lv_at hl 3 rfl) ?_
                              refine lv_iconst (v := 4) hx hb dL_law_872 (by decide) ?_
                              refine lv_iadd hx hb dL_law_873 ?_
                              refine s_ld hx hb hX hbl hbA hS (j := 6 * k + 4) (by rw [show (4 : Int32) = nI 4 from rfl, nI_add]) (by omega) hLL (v := x4) hx4 dL_law_874 ?_
                              refine lv_if_eq (tgt := 882) hx hb dL_law_875 (by decide) (fun c_36 => ?_) (fun c_36 => ?_)
                              · exact absurd c_36 c_34
                              refine lv_iconst (v := 1) hx hb dL_law_878 (by decide) ?_
                              refine lv_goto (tgt := 883) hx hb dL_law_879 (by decide) ?_
                              refine lc_M (oo := (oRead σ x1 ((x2.toInt64 <<< ((32 : Int32).toInt64 &&& 63)) ||| (x3.toInt64 &&& (4294967295 : Int64))) true)) (As := [.int x1, .long ((x2.toInt64 <<< ((32 : Int32).toInt64 &&& 63)) ||| (x3.toInt64 &&& (4294967295 : Int64))), .int (b2i true)]) (rest := [.int ((oRead σ x1 ((x2.toInt64 <<< ((32 : Int32).toInt64 &&& 63)) ||| (x3.toInt64 &&& (4294967295 : Int64))) true).1)]) ⟨hx, hb, hml, hown, hts⟩ (fun q sz => mX5_read l dC dI q cJ cG cK cR cI cZ cD sz σ k hI (by omega) x1 ((x2.toInt64 <<< ((32 : Int32).toInt64 &&& 63)) ||| (x3.toInt64 &&& (4294967295 : Int64))) true) (cwV 3 hts gL_law_X5_read rfl rfl rfl (by decide +kernel) ⟨Nat.le_of_ble_eq_true rfl, Nat.le_of_ble_eq_true rfl⟩) hK hL hS hA rfl rfl hl.1 (Nat.le_of_ble_eq_true rfl) dL_law_883 ⟨by show _ ≤ 600000; omega, by show _ ≤ 7302250; omega⟩ (fun H locs hL hS => ?_)
                              refine lv_icmp_eq (tgt := 1057) hx hb dL_law_886 (by decide) (fun h9 => ?_) (fun h9 => absurd rfl h9)
                              exact fin ((oRead σ x1 ((x2.toInt64 <<< ((32 : Int32).toInt64 &&& 63)) ||| (x3.toInt64 &&& (4294967295 : Int64))) true).2) _ _ _ _ ls (I_oRead hI _ _ _) hL hS hl (by omega) (by omega)
                          · by_cases c_37 : (x0 &&& (31 : Int32)) = 12
                            · refine lv_tableIn (off := 858) (tgt := 891) hx hb dL_law_33 (by rw [c_37]; decide) (by rw [c_37]; decide) (by rw [c_37]; rfl) (by decide) ?_
                              refine lv_aload_n hx hb dL_law_891 rfl (lv_at hl 1 rfl) ?_
                              refine lv_aload_n hx hb dL_law_892 rfl (lv_at hl 0 rfl) ?_
                              refine lv_iload_n hx hb dL_law_893 rfl (lv_at hl 3 rfl) ?_
                              refine lv_iconst (v := 1) hx hb dL_law_894 (by decide) ?_
                              refine lv_iadd hx hb dL_law_895 ?_
                              refine s_ld hx hb hX hbl hbA hS (j := 6 * k + 1) (by rw [show (1 : Int32) = nI 1 from rfl, nI_add]) (by omega) hLL (v := x1) hx1 dL_law_896 ?_
                              refine lv_aload_n hx hb dL_law_897 rfl (lv_at hl 0 rfl) ?_
                              refine lv_iload_n hx hb dL_law_898 rfl (lv_at hl 3 rfl) ?_
                              refine lv_iconst (v := 2) hx hb dL_law_899 (by decide) ?_
                              refine lv_iadd hx hb dL_law_900 ?_
                              refine s_ld hx hb hX hbl hbA hS (j := 6 * k + 2) (by rw [show (2 : Int32) = nI 2 from rfl, nI_add]) (by omega) hLL (v := x2) hx2 dL_law_901 ?_
                              refine lc_TA (mc := 2) (ms := 6) (oo := (oRack σ x1 x2)) (As := [.int x1, .int x2]) (rest := []) ⟨hx, hb, hml, hown, hts⟩ (fun q fr fg fk L9 f ra rb ka kb hf hR sz => mX4_rack l dC dI ad q cJ cG cK cR cI cZ cD fr fg fk L9 f ra rb ka kb hf σ hR k hI (by omega) sz x1 x2) (cwV 2 hts gL_law_X4_rack rfl rfl rfl (by decide +kernel) ⟨Nat.le_of_ble_eq_true rfl, Nat.le_of_ble_eq_true rfl⟩) hAOG hK hE hL hS hA rfl rfl hl.1 (Nat.le_of_ble_eq_true rfl) dL_law_902 ⟨by show _ ≤ 600000; omega, by show _ ≤ 7302250; omega⟩ (fun H locs hL hS => ?_)
                              refine lv_aload_n hx hb dL_law_905 rfl (lv_at hl 2 rfl) ?_
                              refine lv_aload_n hx hb dL_law_906 rfl (lv_at hl 0 rfl) ?_
                              refine lv_iload_n hx hb dL_law_907 rfl (lv_at hl 3 rfl) ?_
                              refine lv_iconst (v := 1) hx hb dL_law_908 (by decide) ?_
                              refine lv_iadd hx hb dL_law_909 ?_
                              refine s_ld hx hb hX hbl hbA hS (j := 6 * k + 1) (by rw [show (1 : Int32) = nI 1 from rfl, nI_add]) (by omega) hLL (v := x1) hx1 dL_law_910 ?_
                              refine lv_aload_n hx hb dL_law_911 rfl (lv_at hl 0 rfl) ?_
                              refine lv_iload_n hx hb dL_law_912 rfl (lv_at hl 3 rfl) ?_
                              refine lv_iconst (v := 2) hx hb dL_law_913 (by decide) ?_
                              refine lv_iadd hx hb dL_law_914 ?_
                              refine s_ld hx hb hX hbl hbA hS (j := 6 * k + 2) (by rw [show (2 : Int32) = nI 2 from rfl, nI_add]) (by omega) hLL (v := x2) hx2 dL_law_915 ?_
                              refine lc_M (oo := (oRack σ x1 x2)) (As := [.int x1, .int x2]) (rest := [.int ((oRack σ x1 x2).1)]) ⟨hx, hb, hml, hown, hts⟩ (fun q sz => mX5_rack l dC dI q cJ cG cK cR cI cZ cD sz σ k hI (by omega) x1 x2) (cwV 2 hts gL_law_X5_rack rfl rfl rfl (by decide +kernel) ⟨Nat.le_of_ble_eq_true rfl, Nat.le_of_ble_eq_true rfl⟩) hK hL hS hA rfl rfl hl.1 (Nat.le_of_ble_eq_true rfl) dL_law_916 ⟨by show _ ≤ 600000; omega, by show _ ≤ 7302250; omega⟩ (fun H locs hL hS => ?_)
                              refine lv_icmp_eq (tgt := 1057) hx hb dL_law_919 (by decide) (fun h9 => ?_) (fun h9 => absurd rfl h9)
                              exact fin ((oRack σ x1 x2).2) _ _ _ _ ls (I_oRack hI _ _) hL hS hl (by omega) (by omega)
                            · by_cases c_38 : (x0 &&& (31 : Int32)) = 13
                              · refine lv_tableIn (off := 891) (tgt := 924) hx hb dL_law_33 (by rw [c_38]; decide) (by rw [c_38]; decide) (by rw [c_38]; rfl) (by decide) ?_
                                refine lv_aload_n hx hb dL_law_924 rfl (lv_at hl 1 rfl) ?_
                                refine lv_aload_n hx hb dL_law_925 rfl (lv_at hl 0 rfl) ?_
                                refine lv_iload_n hx hb dL_law_926 rfl (lv_at hl 3 rfl) ?_
                                refine lv_iconst (v := 1) hx hb dL_law_927 (by decide) ?_
                                refine lv_iadd hx hb dL_law_928 ?_
                                refine s_ld hx hb hX hbl hbA hS (j := 6 * k + 1) (by rw [show (1 : Int32) = nI 1 from rfl, nI_add]) (by omega) hLL (v := x1) hx1 dL_law_929 ?_
                                refine lv_aload_n hx hb dL_law_930 rfl (lv_at hl 0 rfl) ?_
                                refine lv_iload_n hx hb dL_law_931 rfl (lv_at hl 3 rfl) ?_
                                refine lv_iconst (v := 2) hx hb dL_law_932 (by decide) ?_
                                refine lv_iadd hx hb dL_law_933 ?_
                                refine s_ld hx hb hX hbl hbA hS (j := 6 * k + 2) (by rw [show (2 : Int32) = nI 2 from rfl, nI_add]) (by omega) hLL (v := x2) hx2 dL_law_934 ?_
                                refine lv_aload_n hx hb dL_law_935 rfl (lv_at hl 0 rfl) ?_
                                refine lv_iload_n hx hb dL_law_936 rfl (lv_at hl 3 rfl) ?_
                                refine lv_iconst (v := 3) hx hb dL_law_937 (by decide) ?_
                                refine lv_iadd hx hb dL_law_938 ?_
                                refine s_ld hx hb hX hbl hbA hS (j := 6 * k + 3) (by rw [show (3 : Int32) = nI 3 from rfl, nI_add]) (by omega) hLL (v := x3) hx3 dL_law_939 ?_
                                refine lc_T (mc := 0) (ms := 0) (oo := (oHang σ x1 x2 x3)) (As := [.int x1, .int x2, .int x3]) (rest := []) ⟨hx, hb, hml, hown, hts⟩ (fun q fr fg fk L9 f ra rb ka kb hf hR sz => mX4_hang l dC dI ad q cJ cG cK cR cI cZ cD fr fg fk L9 f ra rb ka kb hf σ hR k hI (by omega) sz x1 x2 x3) (cwV 3 hts gL_law_X4_hang rfl rfl rfl (by decide +kernel) ⟨Nat.le_of_ble_eq_true rfl, Nat.le_of_ble_eq_true rfl⟩) hK hE hL hS hA rfl rfl hl.1 (Nat.le_of_ble_eq_true rfl) dL_law_940 ⟨by show _ ≤ 600000; omega, by show _ ≤ 7302250; omega⟩ (fun H locs hL hS => ?_)
                                refine lv_aload_n hx hb dL_law_943 rfl (lv_at hl 2 rfl) ?_
                                refine lv_aload_n hx hb dL_law_944 rfl (lv_at hl 0 rfl) ?_
                                refine lv_iload_n hx hb dL_law_945 rfl (lv_at hl 3 rfl) ?_
                                refine lv_iconst (v := 1) hx hb dL_law_946 (by decide) ?_
                                refine lv_iadd hx hb dL_law_947 ?_
                                refine s_ld hx hb hX hbl hbA hS (j := 6 * k + 1) (by rw [show (1 : Int32) = nI 1 from rfl, nI_add]) (by omega) hLL (v := x1) hx1 dL_law_948 ?_
                                refine lv_aload_n hx hb dL_law_949 rfl (lv_at hl 0 rfl) ?_
                                refine lv_iload_n hx hb dL_law_950 rfl (lv_at hl 3 rfl) ?_
                                refine lv_iconst (v := 2) hx hb dL_law_951 (by decide) ?_
                                refine lv_iadd hx hb dL_law_952 ?_
                                refine s_ld hx hb hX hbl hbA hS (j := 6 * k + 2) (by rw [show (2 : Int32) = nI 2 from rfl, nI_add]) (by omega) hLL (v := x2) hx2 dL_law_953 ?_
                                refine lv_aload_n hx hb dL_law_954 rfl (lv_at hl 0 rfl) ?_
                                refine lv_iload_n hx hb dL_law_955 rfl (lv_at hl 3 rfl) ?_
                                refine lv_iconst (v := 3) hx hb dL_law_956 (by decide) ?_
                                refine lv_iadd hx hb dL_law_957 ?_
                                refine s_ld hx hb hX hbl hbA hS (j := 6 * k + 3) (by rw [show (3 : Int32) = nI 3 from rfl, nI_add]) (by omega) hLL (v := x3) hx3 dL_law_958 ?_
                                refine lc_M (oo := (oHang σ x1 x2 x3)) (As := [.int x1, .int x2, .int x3]) (rest := [.int ((oHang σ x1 x2 x3).1)]) ⟨hx, hb, hml, hown, hts⟩ (fun q sz => mX5_hang l dC dI q cJ cG cK cR cI cZ cD sz σ k hI (by omega) x1 x2 x3) (cwV 3 hts gL_law_X5_hang rfl rfl rfl (by decide +kernel) ⟨Nat.le_of_ble_eq_true rfl, Nat.le_of_ble_eq_true rfl⟩) hK hL hS hA rfl rfl hl.1 (Nat.le_of_ble_eq_true rfl) dL_law_959 ⟨by show _ ≤ 600000; omega, by show _ ≤ 7302250; omega⟩ (fun H locs hL hS => ?_)
                                refine lv_icmp_eq (tgt := 1057) hx hb dL_law_962 (by decide) (fun h9 => ?_) (fun h9 => absurd rfl h9)
                                exact fin ((oHang σ x1 x2 x3).2) _ _ _ _ ls (I_oHang hI _ _ _) hL hS hl (by omega) (by omega)
                              · by_cases c_39 : (x0 &&& (31 : Int32)) = 14
                                · refine lv_tableIn (off := 934) (tgt := 967) hx hb dL_law_33 (by rw [c_39]; decide) (by rw [c_39]; decide) (by rw [c_39]; rfl) (by decide) ?_
                                  refine lv_aload_n hx hb dL_law_967 rfl (lv_at hl 1 rfl) ?_
                                  refine lv_aload_n hx hb dL_law_968 rfl (lv_at hl 0 rfl) ?_
                                  refine lv_iload_n hx hb dL_law_969 rfl (lv_at hl 3 rfl) ?_
                                  refine lv_iconst (v := 1) hx hb dL_law_970 (by decide) ?_
                                  refine lv_iadd hx hb dL_law_971 ?_
                                  refine s_ld hx hb hX hbl hbA hS (j := 6 * k + 1) (by rw [show (1 : Int32) = nI 1 from rfl, nI_add]) (by omega) hLL (v := x1) hx1 dL_law_972 ?_
                                  refine lv_aload_n hx hb dL_law_973 rfl (lv_at hl 0 rfl) ?_
                                  refine lv_iload_n hx hb dL_law_974 rfl (lv_at hl 3 rfl) ?_
                                  refine lv_iconst (v := 2) hx hb dL_law_975 (by decide) ?_
                                  refine lv_iadd hx hb dL_law_976 ?_
                                  refine s_ld hx hb hX hbl hbA hS (j := 6 * k + 2) (by rw [show (2 : Int32) = nI 2 from rfl, nI_add]) (by omega) hLL (v := x2) hx2 dL_law_977 ?_
                                  refine lv_aload_n hx hb dL_law_978 rfl (lv_at hl 0 rfl) ?_
                                  refine lv_iload_n hx hb dL_law_979 rfl (lv_at hl 3 rfl) ?_
                                  refine lv_iconst (v := 3) hx hb dL_law_980 (by decide) ?_
                                  refine lv_iadd hx hb dL_law_981 ?_
                                  refine s_ld hx hb hX hbl hbA hS (j := 6 * k + 3) (by rw [show (3 : Int32) = nI 3 from rfl, nI_add]) (by omega) hLL (v := x3) hx3 dL_law_982 ?_
                                  refine lv_aload_n hx hb dL_law_983 rfl (lv_at hl 0 rfl) ?_
                                  refine lv_iload_n hx hb dL_law_984 rfl (lv_at hl 3 rfl) ?_
                                  refine lv_iconst (v := 4) hx hb dL_law_985 (by decide) ?_
                                  refine lv_iadd hx hb dL_law_986 ?_
                                  refine s_ld hx hb hX hbl hbA hS (j := 6 * k + 4) (by rw [show (4 : Int32) = nI 4 from rfl, nI_add]) (by omega) hLL (v := x4) hx4 dL_law_987 ?_
                                  refine lc_T (mc := 0) (ms := 0) (oo := (oTake σ x1 x2 x3 x4)) (As := [.int x1, .int x2, .int x3, .int x4]) (rest := []) ⟨hx, hb, hml, hown, hts⟩ (fun q fr fg fk L9 f ra rb ka kb hf hR sz => mX4_take l dC dI ad q cJ cG cK cR cI cZ cD fr fg fk L9 f ra rb ka kb hf σ hR k hI (by omega) sz x1 x2 x3 x4) (cwV 4 hts gL_law_X4_take rfl rfl rfl (by decide +kernel) ⟨Nat.le_of_ble_eq_true rfl, Nat.le_of_ble_eq_true rfl⟩) hK hE hL hS hA rfl rfl hl.1 (Nat.le_of_ble_eq_true rfl) dL_law_988 ⟨by show _ ≤ 600000; omega, by show _ ≤ 7302250; omega⟩ (fun H locs hL hS => ?_)
                                  refine lv_aload_n hx hb dL_law_991 rfl (lv_at hl 2 rfl) ?_
                                  refine lv_aload_n hx hb dL_law_992 rfl (lv_at hl 0 rfl) ?_
                                  refine lv_iload_n hx hb dL_law_993 rfl (lv_at hl 3 rfl) ?_
                                  refine lv_iconst (v := 1) hx hb dL_law_994 (by decide) ?_
                                  refine lv_iadd hx hb dL_law_995 ?_
                                  refine s_ld hx hb hX hbl hbA hS (j := 6 * k + 1) (by rw [show (1 : Int32) = nI 1 from rfl, nI_add]) (by omega) hLL (v := x1) hx1 dL_law_996 ?_
                                  refine lv_aload_n hx hb dL_law_997 rfl (lv_at hl 0 rfl) ?_
                                  refine lv_iload_n hx hb dL_law_998 rfl (lv_at hl 3 rfl) ?_
                                  refine lv_iconst (v := 2) hx hb dL_law_999 (by decide) ?_
                                  refine lv_iadd hx hb dL_law_1000 ?_
                                  refine s_ld hx hb hX hbl hbA hS (j := 6 * k + 2) (by rw [show (2 : Int32) = nI 2 from rfl, nI_add]) (by omega) hLL (v := x2) hx2 dL_law_1001 ?_
                                  refine lv_aload_n hx hb dL_law_1002 rfl (lv_at hl 0 rfl) ?_
                                  refine lv_iload_n hx hb dL_law_1003 rfl (lv_at hl 3 rfl) ?_
                                  refine lv_iconst (v := 3) hx hb dL_law_1004 (by decide) ?_
                                  refine lv_iadd hx hb dL_law_1005 ?_
                                  refine s_ld hx hb hX hbl hbA hS (j := 6 * k + 3) (by rw [show (3 : Int32) = nI 3 from rfl, nI_add]) (by omega) hLL (v := x3) hx3 dL_law_1006 ?_
                                  refine lv_aload_n hx hb dL_law_1007 rfl (lv_at hl 0 rfl) ?_
                                  refine lv_iload_n hx hb dL_law_1008 rfl (lv_at hl 3 rfl) ?_
                                  refine lv_iconst (v := 4) hx hb dL_law_1009 (by decide) ?_
                                  refine lv_iadd hx hb dL_law_1010 ?_
                                  refine s_ld hx hb hX hbl hbA hS (j := 6 * k + 4) (by rw [show (4 : Int32) = nI 4 from rfl, nI_add]) (by omega) hLL (v := x4) hx4 dL_law_1011 ?_
                                  refine lc_M (oo := (oTake σ x1 x2 x3 x4)) (As := [.int x1, .int x2, .int x3, .int x4]) (rest := [.int ((oTake σ x1 x2 x3 x4).1)]) ⟨hx, hb, hml, hown, hts⟩ (fun q sz => mX5_take l dC dI q cJ cG cK cR cI cZ cD sz σ k hI (by omega) x1 x2 x3 x4) (cwV 4 hts gL_law_X5_take rfl rfl rfl (by decide +kernel) ⟨Nat.le_of_ble_eq_true rfl, Nat.le_of_ble_eq_true rfl⟩) hK hL hS hA rfl rfl hl.1 (Nat.le_of_ble_eq_true rfl) dL_law_1012 ⟨by show _ ≤ 600000; omega, by show _ ≤ 7302250; omega⟩ (fun H locs hL hS => ?_)
                                  refine lv_icmp_eq (tgt := 1057) hx hb dL_law_1015 (by decide) (fun h9 => ?_) (fun h9 => absurd rfl h9)
                                  exact fin ((oTake σ x1 x2 x3 x4).2) _ _ _ _ ls (I_oTake hI _ _ _ _) hL hS hl (by omega) (by omega)
                                · by_cases c_40 : (x0 &&& (31 : Int32)) = 15
                                  · refine lv_tableIn (off := 987) (tgt := 1020) hx hb dL_law_33 (by rw [c_40]; decide) (by rw [c_40]; decide) (by rw [c_40]; rfl) (by decide) ?_
                                    refine lv_aload_n hx hb dL_law_1020 rfl (lv_at hl 1 rfl) ?_
                                    refine lc_Tp (As := []) (rest := []) ⟨hx, hb, hml, hown, hts⟩ (fun q fr fg fk L9 f ra rb ka kb hf hR => mX4_told l dC dI ad q cJ cG cK cR cI cZ cD fr fg fk L9 f ra rb ka kb hf σ hR k hI (by omega) ) (cwV 0 hts gL_law_X4_told rfl rfl rfl (by decide +kernel) ⟨Nat.le_of_ble_eq_true rfl, Nat.le_of_ble_eq_true rfl⟩) hK hE hL hS rfl rfl hl.1 (Nat.le_of_ble_eq_true rfl) dL_law_1021 ⟨by show _ ≤ 600000; omega, by show _ ≤ 7302250; omega⟩ ?_
                                    refine lv_aload_n hx hb dL_law_1024 rfl (lv_at hl 2 rfl) ?_
                                    refine lc_Mp (As := []) (rest := [.long (zTo σ)]) ⟨hx, hb, hml, hown, hts⟩ (fun q => mX5_told l dC dI q cJ cG cK cR cI cZ cD σ k hI (by omega) ) (cwV 0 hts gL_law_X5_told rfl rfl rfl (by decide +kernel) ⟨Nat.le_of_ble_eq_true rfl, Nat.le_of_ble_eq_true rfl⟩) hK hL rfl rfl hl.1 (Nat.le_of_ble_eq_true rfl) dL_law_1025 ⟨by show _ ≤ 600000; omega, by show _ ≤ 7302250; omega⟩ ?_
                                    refine w_lc_eq (tgt := 1057) hx hb dL_law_1028 dL_law_1029 (by decide) (fun h9 => ?_) (fun h9 => absurd rfl h9)
                                    exact fin σ _ _ _ _ ls (I_mono hI) hL hS hl (by omega) (by omega)
                                  · by_cases c_41 : (x0 &&& (31 : Int32)) = 16
                                    · refine lv_tableIn (off := 1001) (tgt := 1034) hx hb dL_law_33 (by rw [c_41]; decide) (by rw [c_41]; decide) (by rw [c_41]; rfl) (by decide) ?_
                                      refine lv_aload_n hx hb dL_law_1034 rfl (lv_at hl 1 rfl) ?_
                                      refine lv_aload_n hx hb dL_law_1035 rfl (lv_at hl 0 rfl) ?_
                                      refine lv_iload_n hx hb dL_law_1036 rfl (lv_at hl 3 rfl) ?_
                                      refine lv_iconst (v := 1) hx hb dL_law_1037 (by decide) ?_
                                      refine lv_iadd hx hb dL_law_1038 ?_
                                      refine s_ld hx hb hX hbl hbA hS (j := 6 * k + 1) (by rw [show (1 : Int32) = nI 1 from rfl, nI_add]) (by omega) hLL (v := x1) hx1 dL_law_1039 ?_
                                      refine lc_Tp (As := [.int x1]) (rest := []) ⟨hx, hb, hml, hown, hts⟩ (fun q fr fg fk L9 f ra rb ka kb hf hR => mX4_count l dC dI ad q cJ cG cK cR cI cZ cD fr fg fk L9 f ra rb ka kb hf σ hR k hI (by omega) x1) (cwV 1 hts gL_law_X4_count rfl rfl rfl (by decide +kernel) ⟨Nat.le_of_ble_eq_true rfl, Nat.le_of_ble_eq_true rfl⟩) hK hE hL hS rfl rfl hl.1 (Nat.le_of_ble_eq_true rfl) dL_law_1040 ⟨by show _ ≤ 600000; omega, by show _ ≤ 7302250; omega⟩ ?_
                                      refine lv_aload_n hx hb dL_law_1043 rfl (lv_at hl 2 rfl) ?_
                                      refine lv_aload_n hx hb dL_law_1044 rfl (lv_at hl 0 rfl) ?_
                                      refine lv_iload_n hx hb dL_law_1045 rfl (lv_at hl 3 rfl) ?_
                                      refine lv_iconst (v := 1) hx hb dL_law_1046 (by decide) ?_
                                      refine lv_iadd hx hb dL_law_1047 ?_
                                      refine s_ld hx hb hX hbl hbA hS (j := 6 * k + 1) (by rw [show (1 : Int32) = nI 1 from rfl, nI_add]) (by omega) hLL (v := x1) hx1 dL_law_1048 ?_
                                      refine lc_Mp (As := [.int x1]) (rest := [.int (oCount σ x1)]) ⟨hx, hb, hml, hown, hts⟩ (fun q => mX5_count l dC dI q cJ cG cK cR cI cZ cD σ k hI (by omega) x1) (cwV 1 hts gL_law_X5_count rfl rfl rfl (by decide +kernel) ⟨Nat.le_of_ble_eq_true rfl, Nat.le_of_ble_eq_true rfl⟩) hK hL rfl rfl hl.1 (Nat.le_of_ble_eq_true rfl) dL_law_1049 ⟨by show _ ≤ 600000; omega, by show _ ≤ 7302250; omega⟩ ?_
                                      refine lv_icmp_eq (tgt := 1057) hx hb dL_law_1052 (by decide) (fun h9 => ?_) (fun h9 => absurd rfl h9)
                                      exact fin σ _ _ _ _ ls (I_mono hI) hL hS hl (by omega) (by omega)
                                    · refine lv_tableOut (tgt := 1057) hx hb dL_law_33 (by have g0 := lv_neT c_1 (a := 0) rfl; have g1 := lv_neT c_5 (a := 1) rfl; have g2 := lv_neT c_6 (a := 2) rfl; have g3 := lv_neT c_7 (a := 3) rfl; have g4 := lv_neT c_11 (a := 4) rfl; have g5 := lv_neT c_15 (a := 5) rfl; have g6 := lv_neT c_19 (a := 6) rfl; have g7 := lv_neT c_23 (a := 7) rfl; have g8 := lv_neT c_27 (a := 8) rfl; have g9 := lv_neT c_31 (a := 9) rfl; have g10 := lv_neT c_32 (a := 10) rfl; have g11 := lv_neT c_33 (a := 11) rfl; have g12 := lv_neT c_37 (a := 12) rfl; have g13 := lv_neT c_38 (a := 13) rfl; have g14 := lv_neT c_39 (a := 14) rfl; have g15 := lv_neT c_40 (a := 15) rfl; have g16 := lv_neT c_41 (a := 16) rfl; omega) (by decide) ?_
                                      exact fin σ _ _ _ _ ls (I_mono hI) hL hS hl (by omega) (by omega)
set_option maxHeartbeats 8000000 in
set_option maxRecDepth 100000 in
theorem whole_start {p : Program} {e : Env} {s : State} {m : MethodId} {below : List Frame} {meth : Method} {c : Code} (l : Launch) {b L : Nat} {xs : Nat → Int32} (hL : L ≤ 3072) (C0 : lw_At p s m meth c b L xs) : W p l e room_1 s m #[Value.ref b] below meth c s.heap [] 0 0 (lw_Z below #[Value.ref b] s) (entryFrame m ([Value.ref b] : List Value).toArray 4) := by
  obtain ⟨hx, hb, hr, hml, hown, htb, hX, hbl, hlocks, hgv⟩ := C0
  have hLs := hL
  have hts : ∀ w ∈ wsL_law, w.before #[Value.ref b] s = true := fun w h => htb w (wsL_law_in w h)
  obtain ⟨dC, dI, cJ, cG, cK, cR, cI, cZ, cD, hK⟩ := law_K htb
  obtain ⟨ad, hE⟩ := law_E htb hgv
  obtain ⟨A, hAe⟩ : ∃ A : Nat → Prop, A = fun q => s.heap.size ≤ q := ⟨_, rfl⟩
  rw [← hAe] at hE
  have hA : ∀ z, s.heap.size ≤ z → A z := fun z h => by rw [hAe]; exact h
  have hA2 : ∀ z, A z → s.heap.size ≤ z := fun z h => by rw [hAe] at h; exact h
  have hbA : ¬ A b := fun h => absurd (hA2 b h) (Nat.not_le.mpr hbl)
  have hS : va_S A s.heap s.heap [] := va_S.rf
  have hl := lv_entry ([Value.ref b]) (n := 4) (Nat.le_of_ble_eq_true rfl)
  rw [lg_entry_eq]
  generalize (lg_sl ([Value.ref b]) ++ List.replicate (4 - (lg_sl ([Value.ref b])).length) Slot.unset).toArray = ls at hl ⊢
  have hl : lv_has ls 4 [(0, .ref b)] := hl
  have hP : va_P (dC, dI) vwCl [] s.heap := fun k q h => by simp at h
  have hD : va_D A [] := ⟨fun i j p q h => by simp at h, fun k q h => by simp at h⟩
  refine va_new (D := (dC, dI)) (ci := 4) (C := RX4) (T := TX4) (N := 4) (fs := [.null, .null, .null, .long 0]) hx hb hts inlX4 tyX4 tyX4_ok hown (hts (.classLink RL 7 RX4) (List.mem_of_getElem? (i := 0) rfl)) (hts (.instantiable RX4 4) (List.mem_of_getElem? (i := 1) rfl)) (hts (.initialized RX4) (List.mem_of_getElem? (i := 2) rfl)) hK hP hD hS hA rfl (by decide) (Nat.le_of_ble_eq_true rfl) (Nat.le_of_ble_eq_true rfl) dL_law_0 (fun t0 H hP hD hS => ?_)
  have hP : va_P (dC, dI) vwCl [(t0, .inr (4, [.null, .null, .null, .long 0]))] H := hP
  have hD : va_D A [(t0, .inr (4, [.null, .null, .null, .long 0]))] := hD
  refine lv_dup hx hb dL_law_3 rfl ?_
  refine ct_iy (mc := 3) (ms := 17) (X := fun U => va_AO "TideGauges$Row" U ∧ va_AO "TideGauges$Gauge" U ∧ va_AO "TideGauges$Rack" U) (fun u U h z => ⟨va_AO.moved h z.1, va_AO.moved h z.2.1, va_AO.moved h z.2.2⟩) ⟨law_AOR htb, law_AOG htb, law_AOK htb⟩ (As := []) (rest := [.ref t0]) ⟨hx, hb, hml, hown, hts⟩ (mX4_init l dC dI ad cJ cG cK cR cI cZ cD t0 _) (cwI 0 hts gL_law_X4_init rfl rfl rfl (hts (.initialized RX4) (List.mem_of_getElem? (i := 2) rfl)) (hts (.methodLink RL 9 yX4_init) (List.mem_of_getElem? (i := 7) rfl)) (hts (.instanceMethod yX4_init) (List.mem_of_getElem? (i := 8) rfl)) rfl (by decide +kernel) ⟨Nat.le_of_ble_eq_true rfl, Nat.le_of_ble_eq_true rfl⟩) hK hP hD hS hA rfl rfl hl.1 (Nat.le_of_ble_eq_true rfl) dL_law_4 ⟨(Nat.le_of_ble_eq_true rfl), (Nat.le_of_ble_eq_true rfl)⟩ (fun t1 H1 locs1 ht1 hB1 hk1 hS1 => ?_)
  obtain ⟨q, fr, fg, fk, L9, f, ra, rb, ka, kb, hf, rfl, hPt, hDt, hR⟩ := hB1
  rw [ht1] at hPt
  have hDt := hDt.weaken (fun _ _ _ h9 => fr_all hD hS hA _ h9)
  refine lv_astore_n (lv' := [(1, .ref q.1), (0, .ref b)]) hx hb dL_law_7 rfl hl (by decide) rfl (fun ls hl => ?_)
  refine va_new (D := (dC, dI)) (ci := 5) (C := RX5) (T := TX5) (N := 12) (fs := [.int 0, .null, .null, .null, .null, .int 0, .null, .null, .null, .null, .null, .long 0]) hx hb hts inlX5 tyX5 tyX5_ok hown (hts (.classLink RL 10 RX5) (List.mem_of_getElem? (i := 3) rfl)) (hts (.instantiable RX5 12) (List.mem_of_getElem? (i := 4) rfl)) (hts (.initialized RX5) (List.mem_of_getElem? (i := 5) rfl)) hK hPt hDt hS1 hA rfl (by decide) (Nat.le_of_ble_eq_true rfl) (Nat.le_of_ble_eq_true rfl) dL_law_8 (fun m0 H2 hP2 hD2 hS2 => ?_)
  obtain ⟨hPt, hPm⟩ := split_P hP2
  obtain ⟨hDt, hDm, hd⟩ := split_D hD2
  refine lv_dup hx hb dL_law_11 rfl ?_
  refine ct_iz (mc := 9) (ms := 67229) (As := []) (rest := [.ref m0]) ⟨hx, hb, hml, hown, hts⟩ (mX5_init l dC dI ad cJ cG cK cR cI cZ cD m0 _) (cwI 0 hts gL_law_X5_init rfl rfl rfl (hts (.initialized RX5) (List.mem_of_getElem? (i := 5) rfl)) (hts (.methodLink RL 12 yX5_init) (List.mem_of_getElem? (i := 20) rfl)) (hts (.instanceMethod yX5_init) (List.mem_of_getElem? (i := 21) rfl)) rfl (by decide +kernel) ⟨Nat.le_of_ble_eq_true rfl, Nat.le_of_ble_eq_true rfl⟩) hK hPm hDm hS2 hA rfl rfl hl.1 (Nat.le_of_ble_eq_true rfl) dL_law_12 ⟨(Nat.le_of_ble_eq_true rfl), (Nat.le_of_ble_eq_true rfl)⟩ (fun t3 H3 locs3 ht3 hB3 hk3 hS3 => ?_)
  obtain ⟨qm, rfl, hPm3, hDm3⟩ := hB3
  rw [ht3] at hPm3
  refine lv_astore_n (lv' := [(2, .ref qm.1), (1, .ref q.1), (0, .ref b)]) hx hb dL_law_15 rfl hl (by decide) rfl (fun ls hl => ?_)
  refine lv_iconst (v := 0) hx hb dL_law_16 (by decide) ?_
  refine lv_istore_n (lv' := [(3, .int (0 : Int32)), (2, .ref qm.1), (1, .ref q.1), (0, .ref b)]) hx hb dL_law_17 rfl hl (by decide) rfl (fun ls hl => ?_)
  have hL : LW dC dI ad cJ cG cK cR cI cZ cD A q.1 qm.1 z0 z0 H3 := ⟨q, fr, fg, fk, L9, f, ra, rb, ka, kb, hf, qm, rfl, rfl, dis_kept hPt (dis_symm hd) hk3, hDt, hR, hPm3, hDm3.weaken (fun _ _ _ h9 => fr_all hDm hS2 hA _ h9), dis_symm (dis_next hPt (dis_symm hd) hDm3)⟩
  refine W.widen (k := 14 + 2 * 0) (n := 67262 + 14 * 0) (by omega) (by omega) ?_
  exact law_loop l hLs hx hb hr hml hown hts hX hbl hlocks hK (law_AOG htb) hE hA hA2 hbA 513 0 rfl z0 H3 locs3 ls I_z0 hL hS3 (lv_sub hl [3, 2, 1, 0] rfl)
