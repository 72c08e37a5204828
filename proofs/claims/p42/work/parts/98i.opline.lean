/-! ===== calls of both: the line ===== -/
theorem sh_ok {g u : Nat → Int} (hrow : rowOk g) (hnow : g 0 ≤ 99999) (hub : ∀ a, a < 8 → 0 ≤ u a ∧ u a ≤ 16 * g 0) : shrOk g u := fun a b ha hb => by
  have h1 := hub a ha
  have h2 := hrow.2.2.2.2.2.2.2.2.2.1 b hb
  have h3 : u a ≤ 1599984 := by omega
  have h4 : 0 ≤ u a * g (8 + b) := Int.mul_nonneg h1.1 (by omega)
  have h5 : u a * g (8 + b) ≤ 1599984 * 100 := Int.mul_le_mul h3 h2.2 (by omega) (by omega)
  unfold rgJ
  omega