/-- a number of a width, in the form in which it is told -/
def okt (w : Bool) (b : Int64) : Prop := okb w b ∧ (w = false → b.toInt32.toInt64 = b)
/-- a gauge's kind and span -/
def okS (k : Int32) (x : Int64) : Prop := ixb k 3 = true ∧ FP.dIsNaN x.toUInt64 = false ∧ ¬ zer x.toUInt64 = true ∧ ¬ fX5_isEndless x.toUInt64 = true
/-- what every run of k calls keeps -/
def Inv (σ : St) (k : Nat) : Prop := zNr σ ≤ k ∧ zNg σ ≤ k ∧ (∀ p a, zPl σ p = some a → a < zNr σ) ∧ (∀ a, zRn σ a ≤ 12) ∧ (∀ a j, okt (zRw σ a) (zRi σ a j)) ∧ (∀ g, g < zNg σ → okS (zGk σ g) (zGs σ g)) ∧ (∀ p g, zGa σ p = some g → g < zNg σ) ∧ (∀ r k, zRk σ r = some k → ixb k 3 = true) ∧ (∀ r i g, zHk σ r i = some g → g < zNg σ)
theorem askR_0 {σ : St} {p : Nat} {w : Bool} (h : askR σ p w = 0) : ∃ a, zPl σ p = some a ∧ zRw σ a = w := by
  unfold askR at h
  by_cases h1 : zPl σ p = none
  · rw [if_pos h1] at h; exact absurd h (by decide)
  · rw [if_neg h1] at h
    obtain ⟨a, ha⟩ := Option.ne_none_iff_exists'.mp h1
    refine ⟨a, ha, ?_⟩
    rw [ha] at h
    by_cases h2 : zRw σ a = w
    · exact h2
    · rw [show (some a).getD 0 = a from rfl, if_neg h2] at h; exact absurd h (by decide)
theorem askI_0 {σ : St} {p : Nat} {w : Bool} {i : Int32} {k : Nat} (hI : Inv σ k) (h : askI σ p w i = 0) : ∃ a j : Nat, zPl σ p = some a ∧ zRw σ a = w ∧ j < zRn σ a ∧ i = nI j := by
  unfold askI at h
  by_cases h1 : askR σ p w = 0
  · rw [if_pos h1] at h
    obtain ⟨a, ha, hw⟩ := askR_0 h1
    rw [ha, show (some a).getD 0 = a from rfl] at h
    by_cases h2 : ixb i (zRn σ a) = true
    · obtain ⟨j, hj, e⟩ := ixb_some h2 (by have := hI.2.2.2.1 a; omega)
      exact ⟨a, j, ha, hw, hj, e⟩
    · rw [if_neg h2] at h; exact absurd h (by decide)
  · rw [if_neg h1] at h; exact absurd h h1
theorem ix_mul {a i : Nat} : ((12 : Int32) * nI a + nI i) = nI (12 * a + i) := by
  rw [show (12 : Int32) = nI 12 from rfl, pk_mul, nI_add]
theorem ix_mul4 {a i : Nat} : ((4 : Int32) * nI a + nI i) = nI (4 * a + i) := by
  rw [show (4 : Int32) = nI 4 from rfl, pk_mul, nI_add]
theorem it_at (σ : St) {a i : Nat} (hi : i < 12) : zRi σ ((12 * a + i) / 12) ((12 * a + i) % 12) = zRi σ a i := by
  rw [show (12 * a + i) / 12 = a by omega, show (12 * a + i) % 12 = i by omega]
theorem hk_at (σ : St) {a i : Nat} (hi : i < 4) : zHk σ ((4 * a + i) / 4) ((4 * a + i) % 4) = zHk σ a i := by
  rw [show (4 * a + i) / 4 = a by omega, show (4 * a + i) % 4 = i by omega]
