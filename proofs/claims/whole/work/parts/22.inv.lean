section INV
variable {σ : St} {k : Nat}
theorem I_mono (h : Inv σ k) : Inv σ (k + 1) := ⟨Nat.le_succ_of_le h.1, Nat.le_succ_of_le h.2.1, h.2.2⟩
theorem I_to (h : Inv σ k) (t : Int64) : Inv (uTo σ t) k := h
theorem I_pl (h : Inv σ k) (p : Nat) {v : Option Nat} (hv : ∀ a, v = some a → a < zNr σ) : Inv (uPl σ p v) k := by
  refine ⟨h.1, h.2.1, fun q a hq => ?_, h.2.2.2⟩
  rw [zPl_uPl] at hq
  by_cases e : q = p
  · subst e; rw [va_up_self] at hq; exact hv a hq
  · rw [va_up_ne _ _ e] at hq; exact h.2.2.1 q a hq
theorem I_it (h : Inv σ k) (a i : Nat) {x : Int64} (hx : okt (zRw σ a) x) : Inv (uIt σ a i x) k := by
  refine ⟨h.1, h.2.1, h.2.2.1, h.2.2.2.1, fun b j => ?_, h.2.2.2.2.2⟩
  rw [zRi_uIt]
  show okt (zRw σ b) _
  by_cases e : b = a
  · subst e
    rw [va_up_self]
    unfold vp_updL
    split
    · exact hx
    · exact h.2.2.2.2.1 b j
  · rw [va_up_ne _ _ e]; exact h.2.2.2.2.1 b j
theorem I_ga (h : Inv σ k) (p : Nat) {v : Option Nat} (hv : ∀ a, v = some a → a < zNg σ) : Inv (uGa σ p v) k := by
  refine ⟨h.1, h.2.1, h.2.2.1, h.2.2.2.1, h.2.2.2.2.1, h.2.2.2.2.2.1, fun q a hq => ?_, h.2.2.2.2.2.2.2⟩
  rw [zGa_uGa] at hq
  by_cases e : q = p
  · subst e; rw [va_up_self] at hq; exact hv a hq
  · rw [va_up_ne _ _ e] at hq; exact h.2.2.2.2.2.2.1 q a hq
theorem I_hk (h : Inv σ k) (r i : Nat) {v : Option Nat} (hv : ∀ a, v = some a → a < zNg σ) : Inv (uHk σ r i v) k := by
  refine ⟨h.1, h.2.1, h.2.2.1, h.2.2.2.1, h.2.2.2.2.1, h.2.2.2.2.2.1, h.2.2.2.2.2.2.1, h.2.2.2.2.2.2.2.1, fun t j g hg => ?_⟩
  rw [zHk_uHk] at hg
  by_cases e : t = r
  · subst e
    rw [va_up_self] at hg
    by_cases e2 : j = i
    · subst e2; rw [va_up_self] at hg; exact hv g hg
    · rw [va_up_ne _ _ e2] at hg; exact h.2.2.2.2.2.2.2.2 t j g hg
  · rw [va_up_ne _ _ e] at hg; exact h.2.2.2.2.2.2.2.2 t j g hg
theorem okt_0 (w : Bool) : okt w 0 := by
  refine ⟨?_, fun _ => by decide⟩
  unfold okb
  cases w
  · rw [if_neg (by decide)]; decide +kernel
  · rw [if_pos rfl]; decide +kernel
theorem I_row (h : Inv σ k) (p : Nat) (w : Bool) {n : Nat} (hn : n ≤ 12) : Inv (uRow σ p w n) (k + 1) := by
  have eRw : zRw (uRow σ p w n) = va_up (zRw σ) (zNr σ) w := rfl
  have eRn : zRn (uRow σ p w n) = va_up (zRn σ) (zNr σ) n := rfl
  have eRi : zRi (uRow σ p w n) = va_up (zRi σ) (zNr σ) (fun _ => 0) := rfl
  have ePl : zPl (uRow σ p w n) = va_up (zPl σ) p (some (zNr σ)) := rfl
  have eNr : zNr (uRow σ p w n) = zNr σ + 1 := rfl
  refine ⟨Nat.succ_le_succ h.1, Nat.le_succ_of_le h.2.1, fun q a hq => ?_, fun a => ?_, fun a j => ?_, h.2.2.2.2.2⟩
  · rw [ePl] at hq
    rw [eNr]
    by_cases e : q = p
    · subst e; rw [va_up_self] at hq; have := Option.some.inj hq; omega
    · rw [va_up_ne _ _ e] at hq; have := h.2.2.1 q a hq; omega
  · rw [eRn]
    by_cases e : a = zNr σ
    · subst e; rw [va_up_self]; exact hn
    · rw [va_up_ne _ _ e]; exact h.2.2.2.1 a
  · rw [eRw, eRi]
    by_cases e : a = zNr σ
    · subst e; rw [va_up_self, va_up_self]; exact okt_0 w
    · rw [va_up_ne _ _ e, va_up_ne _ _ e]; exact h.2.2.2.2.1 a j
theorem I_gauge (h : Inv σ k) (p : Nat) {x : Int32} {y : Int64} (hs : okS x y) : Inv (uGauge σ p x y) (k + 1) := by
  have eGk : zGk (uGauge σ p x y) = va_up (zGk σ) (zNg σ) x := rfl
  have eGs : zGs (uGauge σ p x y) = va_up (zGs σ) (zNg σ) y := rfl
  have eGa : zGa (uGauge σ p x y) = va_up (zGa σ) p (some (zNg σ)) := rfl
  have eNg : zNg (uGauge σ p x y) = zNg σ + 1 := rfl
  refine ⟨Nat.le_succ_of_le h.1, Nat.succ_le_succ h.2.1, h.2.2.1, h.2.2.2.1, h.2.2.2.2.1, fun g hg => ?_, fun q a hq => ?_, h.2.2.2.2.2.2.2.1, fun t j g hg => ?_⟩
  · rw [eGk, eGs]
    by_cases e : g = zNg σ
    · subst e; rw [va_up_self, va_up_self]; exact hs
    · rw [va_up_ne _ _ e, va_up_ne _ _ e]; exact h.2.2.2.2.2.1 g (by rw [eNg] at hg; omega)
  · rw [eGa] at hq
    rw [eNg]
    by_cases e : q = p
    · subst e; rw [va_up_self] at hq; have := Option.some.inj hq; omega
    · rw [va_up_ne _ _ e] at hq; have := h.2.2.2.2.2.2.1 q a hq; omega
  · have := h.2.2.2.2.2.2.2.2 t j g hg
    rw [eNg]; omega
theorem I_rack (h : Inv σ k) (r : Nat) {x : Int32} (hx : ixb x 3 = true) : Inv (uRack σ r x) k := by
  have eRk : zRk (uRack σ r x) = va_up (zRk σ) r (some x) := rfl
  have eHk : zHk (uRack σ r x) = va_up (zHk σ) r (fun _ => none) := rfl
  refine ⟨h.1, h.2.1, h.2.2.1, h.2.2.2.1, h.2.2.2.2.1, h.2.2.2.2.2.1, h.2.2.2.2.2.2.1, fun t y hy => ?_, fun t j g hg => ?_⟩
  · rw [eRk] at hy
    by_cases e : t = r
    · subst e; rw [va_up_self] at hy; rw [← Option.some.inj hy]; exact hx
    · rw [va_up_ne _ _ e] at hy; exact h.2.2.2.2.2.2.2.1 t y hy
  · rw [eHk] at hg
    by_cases e : t = r
    · subst e; rw [va_up_self] at hg; exact nomatch hg
    · rw [va_up_ne _ _ e] at hg; exact h.2.2.2.2.2.2.2.2 t j g hg
theorem I_z0 : Inv z0 0 := ⟨Nat.le_refl _, Nat.le_refl _, nofun, fun _ => Nat.zero_le _, fun _ _ => okt_0 _, fun _ h => absurd h (Nat.not_lt_zero _), nofun, nofun, nofun⟩
/-- what is put is held in the form in which it is told -/
theorem A_put {w : Bool} {x : Int64} (h : fX5_isNumber w x = true) : okt w (if w = true then x else x.toInt32.toInt64) := by
  have h1 := isnum_ok h
  cases w with
  | true => exact ⟨h1, fun z => absurd z (by decide)⟩
  | false =>
    have e : x.toInt32.toInt64.toInt32 = x.toInt32 := Int32.toInt32_toInt64 _
    refine ⟨?_, fun _ => ?_⟩
    · unfold okb at h1 ⊢
      rw [if_neg (by decide)] at h1 ⊢
      rw [if_neg (by decide), e]; exact h1
    · rw [if_neg (by decide), e]
theorem I_oRow (h : Inv σ k) (p : Int32) (w : Bool) (n : Int32) : Inv (oRow σ p w n).2 (k + 1) := by
  unfold oRow
  split
  · split
    · rename_i h1
      obtain ⟨j, hj, rfl⟩ := ixb_some h1 (by decide)
      rw [nI_clamp (by omega)]
      exact I_row h _ w (by omega)
    · exact I_mono h
  · exact I_mono h
theorem I_oShare (h : Inv σ k) (a b : Int32) : Inv (oShare σ a b).2 (k + 1) := by
  unfold oShare
  split
  · split
    · exact I_mono (I_pl h _ (fun c hc => h.2.2.1 _ c hc))
    · exact I_mono h
  · exact I_mono h
theorem I_oClear (h : Inv σ k) (p : Int32) : Inv (oClear σ p).2 (k + 1) := by
  unfold oClear
  split
  · exact I_mono (I_pl h _ nofun)
  · exact I_mono h
theorem I_oPut (h : Inv σ k) (p : Int32) (w : Bool) (i : Int32) (x : Int64) : Inv (oPut σ p w i x).2 (k + 1) := by
  unfold oPut
  split
  · split
    · rename_i hn
      split
      · rename_i h1
        obtain ⟨a, j, ha, hw, -, -⟩ := askI_0 h h1
        rw [ha]
        exact I_mono (I_it h _ _ (by show okt (zRw σ a) _; rw [hw]; exact A_put hn))
      · exact I_mono h
    · exact I_mono h
  · exact I_mono h
theorem I_oGet (h : Inv σ k) (p : Int32) (w : Bool) (i : Int32) : Inv (oGet σ p w i).2 (k + 1) := by
  unfold oGet
  repeat' split
  all_goals exact I_mono h
theorem I_oRest (h : Inv σ k) (p : Int32) (w : Bool) (i j : Int32) : Inv (oRest σ p w i j).2 (k + 1) := by
  unfold oRest
  repeat' split
  all_goals exact I_mono h
theorem I_oTurn (h : Inv σ k) (p : Int32) (w : Bool) (i j : Int32) : Inv (oTurn σ p w i j).2 (k + 1) := by
  unfold oTurn
  repeat' split
  all_goals exact I_mono h
theorem tide_nn {w : Bool} {a b : Int64} {g : Int32} (ha : okt w a) (hb : okt w b) : FP.dIsNaN (tideN w (fX5_number w a) (fX5_number w b) g) = false := by
  have h1 := (more_fv (g := g) (num_fv hb.1)).1
  unfold tideN
  split
  · exact h1
  · split
    · exact h1
    · exact drem_nn h1 (by assumption) (num_nn ha.1) (by assumption)
theorem I_oTide (h : Inv σ k) (p : Int32) (w : Bool) (i g : Int32) : Inv (oTide σ p w i g).2 (k + 1) := by
  unfold oTide
  split
  · split
    · rename_i h1
      obtain ⟨a, j, ha, hw, -, -⟩ := askI_0 h h1
      unfold itm
      rw [ha]
      refine I_mono (I_it (σ := uTo σ _) (I_to h _) _ _ ?_)
      show okt (zRw σ a) _
      rw [hw]
      exact A_okn (tide_nn (by rw [← hw]; exact h.2.2.2.2.1 a 0) (by rw [← hw]; exact h.2.2.2.2.1 a _))
    · exact I_mono h
  · exact I_mono h
theorem I_oSum (h : Inv σ k) (p : Int32) (w : Bool) (i j : Int32) : Inv (oSum σ p w i j).2 (k + 1) := by
  unfold oSum
  repeat' split
  all_goals exact I_mono h
theorem I_oGauge (h : Inv σ k) (p x : Int32) (y : Int64) : Inv (oGauge σ p x y).2 (k + 1) := by
  unfold oGauge
  split
  · split
    · split
      · split
        · exact I_mono h
        · split
          · exact I_mono h
          · exact I_gauge h _ ⟨by assumption, isnum_t (by assumption), by assumption, by assumption⟩
      · exact I_mono h
    · exact I_mono h
  · exact I_mono h
theorem I_oRead (h : Inv σ k) (p : Int32) (x : Int64) (u : Bool) : Inv (oRead σ p x u).2 (k + 1) := by
  unfold oRead
  repeat' split
  all_goals exact I_mono h
theorem I_oRack (h : Inv σ k) (r x : Int32) : Inv (oRack σ r x).2 (k + 1) := by
  unfold oRack
  split
  · split
    · exact I_mono (I_rack h _ (by assumption))
    · exact I_mono h
  · exact I_mono h
theorem I_oHang (h : Inv σ k) (r i p : Int32) : Inv (oHang σ r i p).2 (k + 1) := by
  unfold oHang
  split
  · split
    · split
      · exact I_mono h
      · split
        · split
          · exact I_mono (I_hk h _ _ (fun a ha => h.2.2.2.2.2.2.1 _ a ha))
          · exact I_mono h
        · exact I_mono h
    · exact I_mono h
  · exact I_mono h
theorem I_oTake (h : Inv σ k) (r i x p : Int32) : Inv (oTake σ r i x p).2 (k + 1) := by
  unfold oTake
  split
  · split
    · split
      · split
        · exact I_mono h
        · split
          · split
            · exact I_mono (I_ga h _ (fun a ha => h.2.2.2.2.2.2.2.2 _ _ a ha))
            · exact I_mono h
          · exact I_mono h
      · exact I_mono h
    · exact I_mono h
  · exact I_mono h
end INV
