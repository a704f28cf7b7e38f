theorem lg_lt (x y : Int64) : (lg_cmp x y < nI 0) ↔ x < y := by
  unfold lg_cmp
  split <;> rename_i h
  · constructor
    · intro h2; exact absurd h2 (by decide)
    · intro h2; exact absurd h2 (Int64.not_lt.mpr (Int64.le_of_lt h))
  · split <;> rename_i h3
    · constructor
      · intro h2; exact absurd h2 (by decide)
      · intro h2; subst h3; exact absurd h2 (Int64.lt_irrefl)
    · constructor
      · intro _; exact (Int64.lt_or_eq_of_le (Int64.not_lt.mp h)).resolve_right h3
      · intro _; decide
theorem t_in (v a b : Int64) (σ : xS) : FX9_in [.long v, .long a, .long b] σ = some (some (.int (if a ≤ v ∧ v ≤ b then nI 1 else nI 0)), σ) := by
  rw [fX9_in]
  simp only [eX9_in, xRl, Nat.reduceAdd]
  sorry
