section TN
variable {D : va_G} {cl : List vw_C} {A : Nat → Prop} {q : Aq} {cG cK cR : ClassId} {fr fg fk : Nat → Option Nat} {to : Int64} {L : List Nat} {f : Nat → va_E} {H : Heap} {h : Nat} {e : va_E}
/-- what is made new goes to the pool -/
theorem tw_push (hP : va_P D cl (TWs q cG cK cR fr fg fk to L f ++ [(h, e)]) H) (hD : va_D A (TWs q cG cK cR fr fg fk to L f ++ [(h, e)])) : h ∉ L ∧ va_P D cl (TWs q cG cK cR fr fg fk to (L ++ [h]) (va_up f h e)) H ∧ va_D A (TWs q cG cK cR fr fg fk to (L ++ [h]) (va_up f h e)) := by
  have hn : h ∉ L := va_pl_fresh2 (X := TX q cG cK cR fr fg fk to) hD
  have e1 : TWs q cG cK cR fr fg fk to L f ++ [(h, e)] = TWs q cG cK cR fr fg fk to (L ++ [h]) (va_up f h e) := by
    show (TX q cG cK cR fr fg fk to ++ va_pl L f) ++ [(h, e)] = TX q cG cK cR fr fg fk to ++ va_pl (L ++ [h]) (va_up f h e)
    rw [List.append_assoc, va_pl_push hn]
  rw [e1] at hP hD
  exact ⟨hn, hP, hD⟩
theorem va_D_unset {ws : va_W} {k a : Nat} {e1 e2 : va_E} (hk : ws[k]? = some (a, e1)) (hD : va_D A (ws.set k (a, e2))) : va_D A ws := by
  have key : ∀ (i : Nat) (p : Nat × va_E), ws[i]? = some p → ∃ p', (ws.set k (a, e2))[i]? = some p' ∧ p'.1 = p.1 := by
    intro i p hp
    by_cases h : i = k
    · subst h
      refine ⟨_, set_at hk, ?_⟩
      rw [hk] at hp; cases hp; rfl
    · exact ⟨p, by rw [List.getElem?_set_ne (fun z => h z.symm)]; exact hp, rfl⟩
  refine ⟨fun i j p q hp hq hpq => ?_, fun i p hp => ?_⟩
  · obtain ⟨p', h1, h2⟩ := key i p hp
    obtain ⟨q', h3, h4⟩ := key j q hq
    exact hD.1 i j p' q' h1 h3 (by rw [h2, h4, hpq])
  · obtain ⟨p', h1, h2⟩ := key i p hp
    rw [← h2]; exact hD.2 i p' h1
/-- a rack is made: its hooks go to the pool too -/
theorem tw_push2 {b k : Nat} {e1 e2 : va_E} (hk : (TWs q cG cK cR fr fg fk to L f)[k]? = some (h, f h)) (hh : h ∈ L) (hP : va_P D cl ((TWs q cG cK cR fr fg fk to L f ++ [(b, e1)]).set k (h, e2)) H) (hD : va_D A ((TWs q cG cK cR fr fg fk to L f ++ [(b, e1)]).set k (h, e2))) : b ∉ L ∧ va_P D cl (TWs q cG cK cR fr fg fk to (L ++ [b]) (va_up (va_up f b e1) h e2)) H ∧ va_D A (TWs q cG cK cR fr fg fk to (L ++ [b]) (va_up (va_up f b e1) h e2)) := by
  have hk1 : (TWs q cG cK cR fr fg fk to L f ++ [(b, e1)])[k]? = some (h, f h) := by rw [List.getElem?_append_left (List.getElem?_eq_some_iff.mp hk).1]; exact hk
  have hD1 := va_D_unset hk1 hD
  have hn : b ∉ L := va_pl_fresh2 (X := TX q cG cK cR fr fg fk to) hD1
  have e0 : TWs q cG cK cR fr fg fk to L f ++ [(b, e1)] = TX q cG cK cR fr fg fk to ++ va_pl (L ++ [b]) (va_up f b e1) := by
    show (TX q cG cK cR fr fg fk to ++ va_pl L f) ++ [(b, e1)] = _
    rw [List.append_assoc, va_pl_push hn]
  rw [e0] at hP hD hk1 hD1
  rw [va_pl_set hD1 (List.mem_append_left _ hh) (by rw [hk1, va_up_ne _ _ (fun z => hn (by rw [← z]; exact hh))])] at hP hD
  exact ⟨hn, hP, hD⟩
end TN
