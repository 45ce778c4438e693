section TR
variable {ad : Nat → Nat} {cJ cG : ClassId} {fr fg fk : Nat → Option Nat} {L : List Nat} {f : Nat → va_E} {ra rb ka kb : Nat → Nat} {hf : Nat → Nat → Option Nat} {σ : St}
theorem tr_none (hR : TRel ad cJ cG fr fg fk L f ra rb ka kb hf σ) {p : Nat} (hp : p < 8) (h : zPl σ p = none) : fr p = none := by rw [hR.2.2.1 p hp, h]; rfl
theorem tr_some (hR : TRel ad cJ cG fr fg fk L f ra rb ka kb hf σ) {p a : Nat} (hp : p < 8) (h : zPl σ p = some a) (ha : a < zNr σ) : fr p = some (ra a) ∧ ra a ∈ L ∧ f (ra a) = .inr (2, [.ref (ad (fX4_widthOf (zRw σ a))), .ref (rb a)]) ∧ rb a ∈ L ∧ f (rb a) = .inl (cJ, zRn σ a, .inr (.inl (zRi σ a))) := ⟨by rw [hR.2.2.1 p hp, h]; rfl, hR.1 a ha⟩
theorem tr_gnone (hR : TRel ad cJ cG fr fg fk L f ra rb ka kb hf σ) {p : Nat} (hp : p < 6) (h : zGa σ p = none) : fg p = none := (hR.2.2.2.1 p hp).1 h
theorem tr_gsome (hR : TRel ad cJ cG fr fg fk L f ra rb ka kb hf σ) {p b : Nat} (hp : p < 6) (h : zGa σ p = some b) : ∃ a, fg p = some a ∧ a ∈ L ∧ f a = .inr (0, [.int (zGk σ b), .long (zGs σ b)]) := (hR.2.2.2.1 p hp).2 b h
theorem tr_knone (hR : TRel ad cJ cG fr fg fk L f ra rb ka kb hf σ) {r : Nat} (hr : r < 3) (h : zRk σ r = none) : fk r = none := (hR.2.2.2.2.1 r hr).1 h
theorem tr_ksome (hR : TRel ad cJ cG fr fg fk L f ra rb ka kb hf σ) {r : Nat} {k : Int32} (hr : r < 3) (h : zRk σ r = some k) : fk r = some (ka r) ∧ ka r ∈ L ∧ f (ka r) = .inr (1, [.int k, .ref (kb r)]) ∧ kb r ∈ L ∧ f (kb r) = .inl (cG, 4, .inr (.inr (.inr (.inr (hf r))))) := by
  obtain ⟨h1, h2, h3, h4, h5, -⟩ := (hR.2.2.2.2.1 r hr).2 k h
  exact ⟨h1, h2, h3, h4, h5⟩
theorem tr_hook (hR : TRel ad cJ cG fr fg fk L f ra rb ka kb hf σ) {r i : Nat} {k : Int32} (hr : r < 3) (h : zRk σ r = some k) (hi : i < 4) : gRel L f σ (hf r i) (zHk σ r i) := ((hR.2.2.2.2.1 r hr).2 k h).2.2.2.2.2 i hi
theorem gRel.mono {L' : List Nat} {f' : Nat → va_E} {τ : St} {x g : Option Nat} (h : gRel L f σ x g) (hL : ∀ a, a ∈ L → a ∈ L') (hf : ∀ (a : Nat) (k : Int32) (z : Int64), a ∈ L → f a = .inr (0, [.int k, .long z]) → f' a = f a) (hk : ∀ b, g = some b → zGk τ b = zGk σ b ∧ zGs τ b = zGs σ b) : gRel L' f' τ x g := by
  refine ⟨h.1, fun b hb => ?_⟩
  obtain ⟨a, h1, h2, h3⟩ := h.2 b hb
  obtain ⟨e1, e2⟩ := hk b hb
  exact ⟨a, h1, hL a h2, by rw [hf a _ _ h2 h3, h3, e1, e2]⟩
theorem TRel_to (hR : TRel ad cJ cG fr fg fk L f ra rb ka kb hf σ) (t : Int64) : TRel ad cJ cG fr fg fk L f ra rb ka kb hf (uTo σ t) := by
  have h : ∀ x g, gRel L f σ x g → gRel L f (uTo σ t) x g := fun x g h => h.mono (fun _ z => z) (fun _ _ _ _ _ => rfl) (fun _ _ => ⟨rfl, rfl⟩)
  exact ⟨hR.1, hR.2.1, hR.2.2.1, fun p hp => h _ _ (hR.2.2.2.1 p hp), fun r hr => ⟨(hR.2.2.2.2.1 r hr).1, fun k hk => by
    obtain ⟨h1, h2, h3, h4, h5, h6⟩ := (hR.2.2.2.2.1 r hr).2 k hk
    exact ⟨h1, h2, h3, h4, h5, fun i hi => h _ _ (h6 i hi)⟩⟩, hR.2.2.2.2.2⟩
theorem TRel_pl (hR : TRel ad cJ cG fr fg fk L f ra rb ka kb hf σ) (b : Nat) (v : Option Nat) {x : Option Nat} (hx : x = v.map ra) : TRel ad cJ cG (va_up fr b x) fg fk L f ra rb ka kb hf (uPl σ b v) := by
  subst hx
  refine ⟨hR.1, hR.2.1, fun p hp => ?_, hR.2.2.2.1, hR.2.2.2.2.1, hR.2.2.2.2.2⟩
  rw [zPl_uPl]
  by_cases h : p = b
  · subst h; rw [va_up_self, va_up_self]
  · rw [va_up_ne _ _ h, va_up_ne _ _ h]; exact hR.2.2.1 p hp
theorem TRel_ga (hR : TRel ad cJ cG fr fg fk L f ra rb ka kb hf σ) (b : Nat) (v : Option Nat) {x : Option Nat} (hx : gRel L f σ x v) : TRel ad cJ cG fr (va_up fg b x) fk L f ra rb ka kb hf (uGa σ b v) := by
  refine ⟨hR.1, hR.2.1, hR.2.2.1, fun p hp => ?_, hR.2.2.2.2.1, hR.2.2.2.2.2⟩
  show gRel L f σ (va_up fg b x p) (zGa (uGa σ b v) p)
  rw [zGa_uGa]
  by_cases h : p = b
  · subst h; rw [va_up_self, va_up_self]; exact hx
  · rw [va_up_ne _ _ h, va_up_ne _ _ h]; exact hR.2.2.2.1 p hp
/-- a cell of the pool is written that is no gauge -/
theorem TRel_it (hR : TRel ad cJ cG fr fg fk L f ra rb ka kb hf σ) {a : Nat} (ha : a < zNr σ) (i : Nat) (x : Int64) : TRel ad cJ cG fr fg fk L (va_up f (rb a) (.inl (cJ, zRn σ a, .inr (.inl (vp_updL (zRi σ a) i x))))) ra rb ka kb hf (uIt σ a i x) := by
  obtain ⟨-, -, m2, e2⟩ := hR.1 a ha
  have hg : ∀ x' g, gRel L f σ x' g → gRel L (va_up f (rb a) (.inl (cJ, zRn σ a, .inr (.inl (vp_updL (zRi σ a) i x))))) (uIt σ a i x) x' g := fun x' g h => h.mono (fun _ z => z) (fun b k z hb hfb => va_up_ne _ _ (fun q => by rw [q, e2] at hfb; cases hfb)) (fun _ _ => ⟨rfl, rfl⟩)
  refine ⟨fun b hb => ?_, hR.2.1, hR.2.2.1, fun p hp => hg _ _ (hR.2.2.2.1 p hp), fun r hr => ⟨(hR.2.2.2.2.1 r hr).1, fun k hk => ?_⟩, hR.2.2.2.2.2⟩
  · obtain ⟨n1, g1, n2, g2⟩ := hR.1 b hb
    refine ⟨n1, ?_, n2, ?_⟩
    · rw [va_up_ne _ _ (fun q => by rw [q, e2] at g1; cases g1)]; exact g1
    · by_cases h : b = a
      · subst h; rw [va_up_self, zRi_uIt, va_up_self]; rfl
      · rw [va_up_ne _ _ (fun q => h (hR.2.1 b a hb ha q)), zRi_uIt, va_up_ne _ _ h]; exact g2
  · obtain ⟨h1, h2, h3, h4, h5, h6⟩ := (hR.2.2.2.2.1 r hr).2 k hk
    refine ⟨h1, h2, ?_, h4, ?_, fun j hj => hg _ _ (h6 j hj)⟩
    · rw [va_up_ne _ _ (fun q => by rw [q, e2] at h3; cases h3)]; exact h3
    · rw [va_up_ne _ _ (fun q => by rw [q, e2] at h5; simp at h5)]; exact h5
theorem TRel_hk (hR : TRel ad cJ cG fr fg fk L f ra rb ka kb hf σ) {r : Nat} {k : Int32} (hr : r < 3) (hk : zRk σ r = some k) (i : Nat) (v : Option Nat) {x : Option Nat} (hx : gRel L f σ x v) : TRel ad cJ cG fr fg fk L (va_up f (kb r) (.inl (cG, 4, .inr (.inr (.inr (.inr (va_up (hf r) i x))))))) ra rb ka kb (va_up hf r (va_up (hf r) i x)) (uHk σ r i v) := by
  obtain ⟨-, -, -, m4, e5, -⟩ := (hR.2.2.2.2.1 r hr).2 k hk
  have hg : ∀ x' g, gRel L f σ x' g → gRel L (va_up f (kb r) (.inl (cG, 4, .inr (.inr (.inr (.inr (va_up (hf r) i x))))))) (uHk σ r i v) x' g := fun x' g h => h.mono (fun _ z => z) (fun b k z hb hfb => va_up_ne _ _ (fun q => by rw [q, e5] at hfb; cases hfb)) (fun _ _ => ⟨rfl, rfl⟩)
  refine ⟨fun b hb => ?_, hR.2.1, hR.2.2.1, fun p hp => hg _ _ (hR.2.2.2.1 p hp), fun t ht => ⟨(hR.2.2.2.2.1 t ht).1, fun k' hk' => ?_⟩, hR.2.2.2.2.2⟩
  · obtain ⟨n1, g1, n2, g2⟩ := hR.1 b hb
    refine ⟨n1, ?_, n2, ?_⟩
    · rw [va_up_ne _ _ (fun q => by rw [q, e5] at g1; cases g1)]; exact g1
    · rw [va_up_ne _ _ (fun q => by rw [q, e5] at g2; simp at g2)]; exact g2
  · obtain ⟨h1, h2, h3, h4, h5, h6⟩ := (hR.2.2.2.2.1 t ht).2 k' hk'
    refine ⟨h1, h2, ?_, h4, ?_, fun j hj => ?_⟩
    · rw [va_up_ne _ _ (fun q => by rw [q, e5] at h3; cases h3)]; exact h3
    · by_cases h : t = r
      · subst h; rw [va_up_self, va_up_self]
      · rw [va_up_ne _ _ (fun q => h (hR.2.2.2.2.2 t r ht hr (by rw [show zRk σ t = some k' from hk']; exact nofun) (by rw [hk]; exact nofun) q)), va_up_ne _ _ h]; exact h5
    · rw [zHk_uHk]
      by_cases h : t = r
      · subst h
        rw [va_up_self, va_up_self]
        by_cases h' : j = i
        · subst h'; rw [va_up_self, va_up_self]; exact hg _ _ hx
        · rw [va_up_ne _ _ h', va_up_ne _ _ h']; exact hg _ _ (h6 j hj)
      · rw [va_up_ne _ _ h, va_up_ne _ _ h]; exact hg _ _ (h6 j hj)
/-- cells of the pool that stay -/
theorem TRel_grow (hR : TRel ad cJ cG fr fg fk L f ra rb ka kb hf σ) {L' : List Nat} {f' : Nat → va_E} (hL : ∀ a, a ∈ L → a ∈ L') (hf' : ∀ a, a ∈ L → f' a = f a) : TRel ad cJ cG fr fg fk L' f' ra rb ka kb hf σ := by
  have hg : ∀ x' g, gRel L f σ x' g → gRel L' f' σ x' g := fun x' g h => h.mono hL (fun b k z hb _ => hf' b hb) (fun _ _ => ⟨rfl, rfl⟩)
  refine ⟨fun b hb => ?_, hR.2.1, hR.2.2.1, fun p hp => hg _ _ (hR.2.2.2.1 p hp), fun t ht => ⟨(hR.2.2.2.2.1 t ht).1, fun k' hk' => ?_⟩, hR.2.2.2.2.2⟩
  · obtain ⟨n1, g1, n2, g2⟩ := hR.1 b hb
    exact ⟨hL _ n1, by rw [hf' _ n1]; exact g1, hL _ n2, by rw [hf' _ n2]; exact g2⟩
  · obtain ⟨h1, h2, h3, h4, h5, h6⟩ := (hR.2.2.2.2.1 t ht).2 k' hk'
    exact ⟨h1, hL _ h2, by rw [hf' _ h2]; exact h3, hL _ h4, by rw [hf' _ h4]; exact h5, fun j hj => hg _ _ (h6 j hj)⟩
/-- a new row: h its object, b its items -/
theorem TRel_row (hR : TRel ad cJ cG fr fg fk L f ra rb ka kb hf σ) (hI : ∀ p a, zPl σ p = some a → a < zNr σ) {h b n : Nat} {w : Bool} (p : Nat) (hL : h ∈ L) (hb : b ∈ L) (hnew : ∀ a, a < zNr σ → rb a ≠ b) (h1 : f h = .inr (2, [.ref (ad (fX4_widthOf w)), .ref b])) (h2 : f b = .inl (cJ, n, .inr (.inl (fun _ => 0)))) : TRel ad cJ cG (va_up fr p (some h)) fg fk L f (va_up ra (zNr σ) h) (va_up rb (zNr σ) b) ka kb hf (uRow σ p w n) := by
  have eNr : zNr (uRow σ p w n) = zNr σ + 1 := rfl
  have eRw : zRw (uRow σ p w n) = va_up (zRw σ) (zNr σ) w := rfl
  have eRn : zRn (uRow σ p w n) = va_up (zRn σ) (zNr σ) n := rfl
  have eRi : zRi (uRow σ p w n) = va_up (zRi σ) (zNr σ) (fun _ => 0) := rfl
  have ePl : zPl (uRow σ p w n) = va_up (zPl σ) p (some (zNr σ)) := rfl
  refine ⟨fun a ha => ?_, fun a c ha hc e => ?_, fun t ht => ?_, hR.2.2.2.1, hR.2.2.2.2.1, hR.2.2.2.2.2⟩
  · rw [eRw, eRn, eRi]
    by_cases e : a = zNr σ
    · subst e; simp only [va_up_self]; exact ⟨hL, h1, hb, h2⟩
    · simp only [va_up_ne _ _ e]; exact hR.1 a (by rw [eNr] at ha; omega)
  · rw [eNr] at ha hc
    by_cases e1 : a = zNr σ
    · by_cases e2 : c = zNr σ
      · rw [e1, e2]
      · rw [e1, va_up_self, va_up_ne _ _ e2] at e; exact absurd e.symm (hnew c (by omega))
    · by_cases e2 : c = zNr σ
      · rw [e2, va_up_self, va_up_ne _ _ e1] at e; exact absurd e (hnew a (by omega))
      · rw [va_up_ne _ _ e1, va_up_ne _ _ e2] at e; exact hR.2.1 a c (by omega) (by omega) e
  · rw [ePl]
    by_cases e : t = p
    · subst e; rw [va_up_self, va_up_self, Option.map_some, va_up_self]
    · rw [va_up_ne _ _ e, va_up_ne _ _ e, hR.2.2.1 t ht]
      cases hq : zPl σ t with
      | none => rfl
      | some a => rw [Option.map_some, Option.map_some, va_up_ne _ _ (by have := hI t a hq; omega)]
/-- a new gauge at h -/
theorem TRel_gauge (hR : TRel ad cJ cG fr fg fk L f ra rb ka kb hf σ) (hI : ∀ p g, zGa σ p = some g → g < zNg σ) (hI2 : ∀ r i g, zHk σ r i = some g → g < zNg σ) {h : Nat} {k : Int32} {x : Int64} (p : Nat) (hL : h ∈ L) (h1 : f h = .inr (0, [.int k, .long x])) : TRel ad cJ cG fr (va_up fg p (some h)) fk L f ra rb ka kb hf (uGauge σ p k x) := by
  have eGk : zGk (uGauge σ p k x) = va_up (zGk σ) (zNg σ) k := rfl
  have eGs : zGs (uGauge σ p k x) = va_up (zGs σ) (zNg σ) x := rfl
  have eGa : zGa (uGauge σ p k x) = va_up (zGa σ) p (some (zNg σ)) := rfl
  have hg : ∀ x' g, (∀ b, g = some b → b < zNg σ) → gRel L f σ x' g → gRel L f (uGauge σ p k x) x' g := fun x' g hb h => h.mono (fun _ z => z) (fun _ _ _ _ _ => rfl) (fun b e => by
    have := hb b e
    rw [eGk, eGs, va_up_ne _ _ (by omega), va_up_ne _ _ (by omega)]
    exact ⟨rfl, rfl⟩)
  refine ⟨hR.1, hR.2.1, hR.2.2.1, fun t ht => ?_, fun t ht => ⟨(hR.2.2.2.2.1 t ht).1, fun k' hk' => ?_⟩, hR.2.2.2.2.2⟩
  · rw [eGa]
    by_cases e : t = p
    · subst e
      rw [va_up_self, va_up_self]
      refine ⟨nofun, fun b hb => ⟨h, rfl, hL, ?_⟩⟩
      obtain rfl := Option.some.inj hb
      rw [eGk, eGs, va_up_self, va_up_self]; exact h1
    · rw [va_up_ne _ _ e, va_up_ne _ _ e]; exact hg _ _ (fun b e => hI t b e) (hR.2.2.2.1 t ht)
  · obtain ⟨a1, a2, a3, a4, a5, a6⟩ := (hR.2.2.2.2.1 t ht).2 k' hk'
    exact ⟨a1, a2, a3, a4, a5, fun j hj => hg _ _ (fun b e => hI2 t j b e) (a6 j hj)⟩
/-- a new rack at h, its hooks at b -/
theorem TRel_rack (hR : TRel ad cJ cG fr fg fk L f ra rb ka kb hf σ) {h b r : Nat} {k : Int32} (hr : r < 3) (hL : h ∈ L) (hb : b ∈ L) (hnew : ∀ t, t < 3 → zRk σ t ≠ none → kb t ≠ b) (h1 : f h = .inr (1, [.int k, .ref b])) (h2 : f b = .inl (cG, 4, .inr (.inr (.inr (.inr (fun _ => none)))))) : TRel ad cJ cG fr fg (va_up fk r (some h)) L f ra rb (va_up ka r h) (va_up kb r b) (va_up hf r (fun _ => none)) (uRack σ r k) := by
  have eRk : zRk (uRack σ r k) = va_up (zRk σ) r (some k) := rfl
  have eHk : zHk (uRack σ r k) = va_up (zHk σ) r (fun _ => none) := rfl
  have hg : ∀ x' g, gRel L f σ x' g → gRel L f (uRack σ r k) x' g := fun x' g h => h.mono (fun _ z => z) (fun _ _ _ _ _ => rfl) (fun _ _ => ⟨rfl, rfl⟩)
  refine ⟨hR.1, hR.2.1, hR.2.2.1, fun t ht => hg _ _ (hR.2.2.2.1 t ht), fun t ht => ?_, fun t u ht hu n1 n2 e => ?_⟩
  · rw [eRk]
    by_cases e : t = r
    · subst e
      simp only [va_up_self]
      refine ⟨nofun, fun k' hk' => ?_⟩
      obtain rfl := Option.some.inj hk'
      refine ⟨trivial, hL, h1, hb, h2, fun i hi => ?_⟩
      rw [eHk, va_up_self]
      exact ⟨fun _ => rfl, nofun⟩
    · simp only [va_up_ne _ _ e]
      refine ⟨(hR.2.2.2.2.1 t ht).1, fun k' hk' => ?_⟩
      obtain ⟨a1, a2, a3, a4, a5, a6⟩ := (hR.2.2.2.2.1 t ht).2 k' hk'
      refine ⟨a1, a2, a3, a4, a5, fun j hj => ?_⟩
      rw [eHk, va_up_ne _ _ e]; exact hg _ _ (a6 j hj)
  · rw [eRk] at n1 n2
    by_cases e1 : t = r
    · by_cases e2 : u = r
      · rw [e1, e2]
      · rw [va_up_ne _ _ e2] at n2; rw [e1, va_up_self, va_up_ne _ _ e2] at e; exact absurd e.symm (hnew u hu n2)
    · rw [va_up_ne _ _ e1] at n1
      by_cases e2 : u = r
      · rw [e2, va_up_self, va_up_ne _ _ e1] at e; exact absurd e (hnew t ht n1)
      · rw [va_up_ne _ _ e2] at n2; rw [va_up_ne _ _ e1, va_up_ne _ _ e2] at e; exact hR.2.2.2.2.2 t u ht hu n1 n2 e
end TR
