theorem xG2 : (∀ (v : Int32) (σ : xS), xretf (some .int) (some (some (.int v), σ)) = some (some (.int v), σ)) ∧ (∀ (v : Int64) (σ : xS), xretf (some .long) (some (some (.long v), σ)) = some (some (.long v), σ)) ∧ (∀ (σ : xS), xretf none (some (none, σ)) = some (none, σ)) ∧ (∀ (c : String) (a : Nat) (σ : xS), xretf (some (.object c)) (some (some (.ref a), σ)) = some (some (.ref a), σ)) ∧ (∀ (σ : xS), xretf (some .boolean) (some (some (.int (nI 0)), σ)) = some (some (.int (nI 0)), σ)) ∧ (∀ (σ : xS), xretf (some .boolean) (some (some (.int (nI 1)), σ)) = some (some (.int (nI 1)), σ)) ∧ (∀ (ret : Option FieldType), xretf ret none = none) := by
  refine ⟨?_, ?_, ?_, ?_, ?_, ?_, ?_⟩ <;> intros <;> rfl
/-! numbers -/
theorem lg_lt (x y : Int64) : (lg_cmp x y < nI 0) ↔ x < y := by
  unfold lg_cmp
  split <;> rename_i h
  · constructor
    · intro h2; exact absurd h2 (by decide)
    · intro h2; exact absurd h2 (Int64.not_lt.mpr (Int64.le_of_lt h))
  · split <;> rename_i h3
    · constructor
      · intro h2; exact absurd h2 (by decide)
      · intro h2; subst h3; exact absurd h2 (Int64.lt_irrefl)
    · constructor
      · intro _; exact (Int64.lt_or_eq_of_le (Int64.not_lt.mp h)).resolve_right h3
      · intro _; decide
theorem lg_gt (x y : Int64) : (nI 0 < lg_cmp x y) ↔ y < x := by
  unfold lg_cmp
  split <;> rename_i h
  · constructor
    · intro _; exact h
    · intro _; decide
  · split <;> rename_i h3
    · constructor
      · intro h2; exact absurd h2 (by decide)
      · intro h2; exact absurd h2 h
    · constructor
      · intro h2; exact absurd h2 (by decide)
      · intro h2; exact absurd h2 h
theorem i64_lt (x y : Int32) : x.toInt64 < y.toInt64 ↔ x < y := by
  rw [Int64.lt_iff_toInt_lt, Int32.lt_iff_toInt_lt, Int32.toInt_toInt64, Int32.toInt_toInt64]
theorem i64_lit {n : Nat} (h : n < 2 ^ 31) : Int64.ofNat n = (nI n).toInt64 := by
  rw [nI_l h]; rfl
/-- within 0 .. n - 1 -/
abbrev Am (x : Int32) (n : Nat) : Prop := nI 0 ≤ x ∧ x < nI n
theorem Am_iff {x : Int32} {n : Nat} (hn : n < 2 ^ 31) : Am x n ↔ ∃ j, j < n ∧ x = nI j := by
  unfold Am
  constructor
  · rintro ⟨h1, h2⟩
    obtain ⟨j, hj, rfl⟩ := nI_of (x := x) (Int32.not_lt.mpr h1)
    exact ⟨j, (nI_ltI hj hn).mp h2, rfl⟩
  · rintro ⟨j, hj, rfl⟩
    exact ⟨nI_pos' (by omega), nI_lt hj hn⟩
theorem Am_nI {j n : Nat} (hj : j < 2 ^ 31) (hn : n < 2 ^ 31) : Am (nI j) n ↔ j < n := by
  unfold Am
  constructor
  · rintro ⟨-, h⟩; exact (nI_ltI hj hn).mp h
  · intro h; exact ⟨nI_pos' hj, nI_lt h hn⟩
theorem xB : (∀ (c : Prop) [Decidable c], ((if c then nI 1 else nI 0) = nI 0) ↔ ¬ c) ∧ (∀ (c : Prop) [Decidable c], ((if c then nI 1 else nI 0) = nI 1) ↔ c) ∧ (nI 1 = nI 0 ↔ False) ∧ (nI 0 = nI 0 ↔ True) := by
  refine ⟨fun c _ => ?_, fun c _ => ?_, by decide, by simp⟩ <;> split <;> simp_all <;> decide
theorem xbd {n k : Nat} {x : Option xR} (h : k < n) : (if n ≤ k then none else x) = x := if_neg (Nat.not_le.mpr h)
theorem sub_le {a y : Nat} (ha : a < 2 ^ 30) (hy : y < 2 ^ 30) : (nI 0 ≤ nI a - nI y) ↔ y ≤ a := by
  rcases Nat.lt_or_ge a y with h | h
  · exact ⟨fun q => absurd (pk_sneg hy h) (Int32.not_lt.mpr q), fun q => absurd h (by omega)⟩
  · rw [pk_sub h]
    exact ⟨fun _ => h, fun _ => nI_pos' (by omega)⟩
/-- n times g -/
def itr {α : Type} (g : Nat → α → α) : Nat → α → α
  | 0, a => a
  | n + 1, a => g n (itr g n a)
/-- a loop that goes up: st i a is its head at i -/
theorem xloop {α : Type} {t : List (Nat × xO)} {st : Nat → α → xF} {g : Nat → α → α} {N : Nat} {Inv : Nat → α → Prop} {a0 : α} (h0 : Inv 0 a0) (hs : ∀ i a, i < N → Inv i a → xD t (st i a) = xD t (st (i + 1) (g i a)) ∧ Inv (i + 1) (g i a)) : ∀ n, n ≤ N → xD t (st 0 a0) = xD t (st n (itr g n a0)) ∧ Inv n (itr g n a0)
  | 0, _ => ⟨rfl, h0⟩
  | n + 1, hn => by
    obtain ⟨h1, h2⟩ := xloop h0 hs n (by omega)
    obtain ⟨h3, h4⟩ := hs n _ (by omega) h2
    exact ⟨h1.trans h3, h4⟩
/-- sets as numbers -/
def msk (f : Nat → Bool) : Nat → Nat
  | 0 => 0
  | k + 1 => msk f k + (if f k = true then 2 ^ k else 0)
theorem msk_lt (f : Nat → Bool) : ∀ k, msk f k < 2 ^ k
  | 0 => Nat.one_pos
  | k + 1 => by have := msk_lt f k; unfold msk; rw [Nat.pow_succ]; split <;> omega
theorem msk_bit (f : Nat → Bool) : ∀ (n k : Nat), (msk f n).testBit k = (decide (k < n) && f k)
  | 0, k => by simp [msk]
  | n + 1, k => by
    have h1 := msk_lt f n
    have ih := msk_bit f n
    have e : msk f (n + 1) = 2 ^ n * (if f n = true then 1 else 0) + msk f n := by
      show msk f n + _ = _
      split <;> omega
    rw [e, Nat.testBit_two_pow_mul_add _ h1]
    by_cases hk : k < n
    · rw [if_pos hk, ih]
      simp [hk, Nat.lt_succ_of_lt hk]
    · rw [if_neg hk]
      by_cases hk2 : k = n
      · subst hk2
        rw [Nat.sub_self]
        cases f k <;> simp
      · have : ¬ k < n + 1 := by omega
        have h3 : k - n ≠ 0 := by omega
        simp [this]
        split
        · obtain ⟨j, hj⟩ : ∃ j, k - n = j + 1 := ⟨k - n - 1, by omega⟩
          rw [hj, Nat.testBit_succ]
          simp
        · simp
theorem msk_congr {f g : Nat → Bool} : ∀ {n : Nat}, (∀ k, k < n → f k = g k) → msk f n = msk g n
  | 0, _ => rfl
  | n + 1, h => by unfold msk; rw [h n (by omega), msk_congr (fun k hk => h k (by omega))]
theorem nI_or (a b : Nat) : nI a ||| nI b = nI (a ||| b) := by
  apply Int32.toBitVec_inj.mp
  simp [nI, BitVec.ofNat_or]
theorem or_pow {a k : Nat} (h : a < 2 ^ k) : nI a ||| nI (2 ^ k) = nI (a + 2 ^ k) := by
  rw [nI_or]
  congr 1
  have := Nat.two_pow_add_eq_or_of_lt h 1
  rw [Nat.mul_one] at this
  rw [Nat.or_comm, ← this, Nat.add_comm]
theorem or_0 (a : Nat) : nI a ||| nI 0 = nI a := by rw [nI_or, Nat.or_zero]
theorem shl1 : ∀ k, k < 30 → nI 1 <<< (nI k &&& 31) = nI (2 ^ k) := by decide +kernel
theorem sl31 : ∀ n, n < 32 → ((nI n &&& 31).toBitVec.smod 32).toNat = n := by decide +kernel
theorem bit_at {m k : Nat} (hm : m < 2 ^ 31) (hk : k < 31) : (nI m >>> (nI k &&& 31)) &&& nI 1 = nI (if m.testBit k = true then 1 else 0) := by
  rw [pk_shrN hm _ k (sl31 k (by omega)), pk_andN (by have := Nat.div_le_self m (2 ^ k); omega) 1 rfl]
  congr 1
  rw [Nat.testBit_eq_decide_div_mod_eq, Nat.pow_one]
  have := Nat.mod_two_eq_zero_or_one (m / 2 ^ k)
  rcases this with h | h <;> simp [h]
