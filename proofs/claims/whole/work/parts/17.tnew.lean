section TN
variable {D : va_G} {cl : List vw_C} {A : Nat → Prop} {q : Aq} {cG cK cR : ClassId} {fr fg fk : Nat → Option Nat} {to : Int64} {L : List Nat} {f : Nat → va_E} {H : Heap} {h : Nat} {e : va_E}
/-- what is made new goes to the pool -/
theorem tw_push (hP : va_P D cl (TWs q cG cK cR fr fg fk to L f ++ [(h, e)]) H) (hD : va_D A (TWs q cG cK cR fr fg fk to L f ++ [(h, e)])) : h ∉ L ∧ va_P D cl (TWs q cG cK cR fr fg fk to (L ++ [h]) (va_up f h e)) H ∧ va_D A (TWs q cG cK cR fr fg fk to (L ++ [h]) (va_up f h e)) := by
  have hn : h ∉ L := va_pl_fresh2 (X := TX q cG cK cR fr fg fk to) hD
  have e1 : TWs q cG cK cR fr fg fk to L f ++ [(h, e)] = TWs q cG cK cR fr fg fk to (L ++ [h]) (va_up f h e) := by
    show (TX q cG cK cR fr fg fk to ++ va_pl L f) ++ [(h, e)] = TX q cG cK cR fr fg fk to ++ va_pl (L ++ [h]) (va_up f h e)
    rw [List.append_assoc, va_pl_push hn]
  rw [e1] at hP hD
  exact ⟨hn, hP, hD⟩
/-- a rack is made: its hooks go to the pool too -/
theorem tw_push2 {b k : Nat} {e1 e2 : va_E} (hk : (TWs q cG cK cR fr fg fk to L f)[k]? = some (h, f h)) (hh : h ∈ L) (hP : va_P D cl ((TWs q cG cK cR fr fg fk to L f ++ [(b, e1)]).set k (h, e2)) H) (hD : va_D A ((TWs q cG cK cR fr fg fk to L f ++ [(b, e1)]).set k (h, e2))) : b ∉ L ∧ va_P D cl (TWs q cG cK cR fr fg fk to (L ++ [b]) (va_up (va_up f b e1) h e2)) H ∧ va_D A (TWs q cG cK cR fr fg fk to (L ++ [b]) (va_up (va_up f b e1) h e2)) := by
  have hk1 : (TWs q cG cK cR fr fg fk to L f ++ [(b, e1)])[k]? = some (h, f h) := by rw [List.getElem?_append_left (List.getElem?_eq_some_iff.mp hk).1]; exact hk
  have hD1 := va_D_unset hk1 hD
  have hn : b ∉ L := va_pl_fresh2 (X := TX q cG cK cR fr fg fk to) hD1
  have e0 : TWs q cG cK cR fr fg fk to L f ++ [(b, e1)] = TX q cG cK cR fr fg fk to ++ va_pl (L ++ [b]) (va_up f b e1) := by
    show (TX q cG cK cR fr fg fk to ++ va_pl L f) ++ [(b, e1)] = _
    rw [List.append_assoc, va_pl_push hn]
  rw [e0] at hP hD hk1 hD1
  rw [va_pl_set hD1 (List.mem_append_left _ hh) (by rw [hk1, va_up_ne _ _ (fun z => hn (by rw [← z]; exact hh))])] at hP hD
  exact ⟨hn, hP, hD⟩
end TN
