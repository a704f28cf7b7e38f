theorem xG2 : (∀ (v : Int32) (σ : xS), xretf (some .int) (some (some (.int v), σ)) = some (some (.int v), σ)) ∧ (∀ (v : Int64) (σ : xS), xretf (some .long) (some (some (.long v), σ)) = some (some (.long v), σ)) ∧ (∀ (σ : xS), xretf none (some (none, σ)) = some (none, σ)) ∧ (∀ (c : String) (a : Nat) (σ : xS), xretf (some (.object c)) (some (some (.ref a), σ)) = some (some (.ref a), σ)) ∧ (∀ (σ : xS), xretf (some .boolean) (some (some (.int (nI 0)), σ)) = some (some (.int (nI 0)), σ)) ∧ (∀ (σ : xS), xretf (some .boolean) (some (some (.int (nI 1)), σ)) = some (some (.int (nI 1)), σ)) ∧ (∀ (ret : Option FieldType), xretf ret none = none) := by
  refine ⟨?_, ?_, ?_, ?_, ?_, ?_, ?_⟩ <;> intros <;> rfl
/-! numbers -/
theorem lg_lt (x y : Int64) : (lg_cmp x y < nI 0) ↔ x < y := by
  unfold lg_cmp
  split <;> rename_i h
  · constructor
    · intro h2; exact absurd h2 (by decide)
    · intro h2; exact absurd h2 (Int64.not_lt.mpr (Int64.le_of_lt h))
  · split <;> rename_i h3
    · constructor
      · intro h2; exact absurd h2 (by decide)
      · intro h2; subst h3; exact absurd h2 (Int64.lt_irrefl)
    · constructor
      · intro _; exact (Int64.lt_or_eq_of_le (Int64.not_lt.mp h)).resolve_right h3
      · intro _; decide
theorem lg_gt (x y : Int64) : (nI 0 < lg_cmp x y) ↔ y < x := by
  unfold lg_cmp
  split <;> rename_i h
  · constructor
    · intro _; exact h
    · intro _; decide
  · split <;> rename_i h3
    · constructor
      · intro h2; exact absurd h2 (by decide)
      · intro h2; exact absurd h2 h
    · constructor
      · intro h2; exact absurd h2 (by decide)
      · intro h2; exact absurd h2 h
theorem i64_lt (x y : Int32) : x.toInt64 < y.toInt64 ↔ x < y := by
  rw [Int64.lt_iff_toInt_lt, Int32.lt_iff_toInt_lt, Int32.toInt_toInt64, Int32.toInt_toInt64]
theorem i64_lit {n : Nat} (h : n < 2 ^ 31) : Int64.ofNat n = (nI n).toInt64 := by
  rw [nI_l h]; rfl
/-- within 0 .. n - 1 -/
abbrev Am (x : Int32) (n : Nat) : Prop := nI 0 ≤ x ∧ x < nI n
theorem Am_iff {x : Int32} {n : Nat} (hn : n < 2 ^ 31) : Am x n ↔ ∃ j, j < n ∧ x = nI j := by
  unfold Am
  constructor
  · rintro ⟨h1, h2⟩
    obtain ⟨j, hj, rfl⟩ := nI_of (x := x) (Int32.not_lt.mpr h1)
    exact ⟨j, (nI_ltI hj hn).mp h2, rfl⟩
  · rintro ⟨j, hj, rfl⟩
    exact ⟨nI_pos' (by omega), nI_lt hj hn⟩
theorem Am_nI {j n : Nat} (hj : j < 2 ^ 31) (hn : n < 2 ^ 31) : Am (nI j) n ↔ j < n := by
  unfold Am
  constructor
  · rintro ⟨-, h⟩; exact (nI_ltI hj hn).mp h
  · intro h; exact ⟨nI_pos' hj, nI_lt h hn⟩
theorem xB : (∀ (c : Prop) [Decidable c], ((if c then nI 1 else nI 0) = nI 0) ↔ ¬ c) ∧ (∀ (c : Prop) [Decidable c], ((if c then nI 1 else nI 0) = nI 1) ↔ c) ∧ (nI 1 = nI 0 ↔ False) ∧ (nI 0 = nI 0 ↔ True) := by
  refine ⟨fun c _ => ?_, fun c _ => ?_, by decide, by simp⟩ <;> split <;> simp_all <;> decide
