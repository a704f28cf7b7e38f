/-! ranges, rows, texts -/
theorem i64_le (x y : Int32) : x.toInt64 ≤ y.toInt64 ↔ x ≤ y := by
  rw [Int64.le_iff_toInt_le, Int32.le_iff_toInt_le, Int32.toInt_toInt64, Int32.toInt_toInt64]
theorem le_lt {x : Int32} {m : Nat} (h : m + 1 < 2 ^ 31) : x ≤ nI m ↔ x < nI (m + 1) := by
  rw [Int32.le_iff_toInt_le, Int32.lt_iff_toInt_lt, nI_toInt (by omega), nI_toInt h]
  omega
theorem p9_inG (v a b : Int64) (σ : xS) : FX9_in [.long v, .long a, .long b] σ = some (some (.int (if a ≤ v ∧ v ≤ b then nI 1 else nI 0)), σ) := by
  rw [fX9_in]
  simp (disch := omega) only [eX9_in, xRl, xG1, xG2, kAll, rAll, nAll, List.map_nil, List.map_cons, List.sum_nil, List.sum_cons, Nat.reduceAdd, Nat.reduceSub, Nat.reduceMul, Nat.reduceLeDiff, Nat.reduceEqDiff, Nat.reduceLT, and_true, true_and, and_self, if_true, if_false, ne_eq, not_false_eq_true, not_true_eq_false, or_false, false_or, or_true, true_or, false_and, and_false, reduceIte, reduceCtorEq, xB, ite_not, xretf_zc, xretf_c, xcont_c, xbd, lg_lt, lg_gt]
  by_cases h1 : v < a
  · rw [if_pos h1, if_neg (fun h => absurd h1 (Int64.not_lt.mpr h.1))]
  · rw [if_neg h1]
    by_cases h2 : b < v
    · rw [if_pos h2, if_neg (fun h => absurd h2 (Int64.not_lt.mpr h.2))]
    · rw [if_neg h2, if_pos ⟨Int64.not_lt.mp h1, Int64.not_lt.mp h2⟩]
theorem p9_inV (x y : Int32) (σ : xS) : FX9_in [.long x.toInt64, .long 0, .long y.toInt64] σ = some (some (.int (if nI 0 ≤ x ∧ x ≤ y then nI 1 else nI 0)), σ) := by
  rw [p9_inG, show (0 : Int64) = (nI 0).toInt64 by decide]
  simp only [i64_le]
theorem p9_inK (x : Int32) (a b : Nat) (hb : b + 1 < 2 ^ 31) (σ : xS) : FX9_in [.long x.toInt64, .long (nI a).toInt64, .long (nI b).toInt64] σ = some (some (.int (if nI a ≤ x ∧ x < nI (b + 1) then nI 1 else nI 0)), σ) := by
  rw [p9_inG]
  simp only [i64_le, le_lt hb]
theorem p9_inL : (∀ (x : Int32) (σ : xS), FX9_in [.long x.toInt64, .long 0, .long 5] σ = some (some (.int (if nI 0 ≤ x ∧ x < nI 6 then nI 1 else nI 0)), σ)) ∧ (∀ (x : Int32) (σ : xS), FX9_in [.long x.toInt64, .long 0, .long 3] σ = some (some (.int (if nI 0 ≤ x ∧ x < nI 4 then nI 1 else nI 0)), σ)) ∧ (∀ (x : Int32) (σ : xS), FX9_in [.long x.toInt64, .long 0, .long 215] σ = some (some (.int (if nI 0 ≤ x ∧ x < nI 216 then nI 1 else nI 0)), σ)) ∧ (∀ (x : Int32) (σ : xS), FX9_in [.long x.toInt64, .long 0, .long 6] σ = some (some (.int (if nI 0 ≤ x ∧ x < nI 7 then nI 1 else nI 0)), σ)) ∧ (∀ (x : Int32) (σ : xS), FX9_in [.long x.toInt64, .long 1, .long 5] σ = some (some (.int (if nI 1 ≤ x ∧ x < nI 6 then nI 1 else nI 0)), σ)) ∧ (∀ (x : Int32) (σ : xS), FX9_in [.long x.toInt64, .long 0, .long 9] σ = some (some (.int (if nI 0 ≤ x ∧ x < nI 10 then nI 1 else nI 0)), σ)) ∧ (∀ (x : Int32) (σ : xS), FX9_in [.long x.toInt64, .long 0, .long 2] σ = some (some (.int (if nI 0 ≤ x ∧ x < nI 3 then nI 1 else nI 0)), σ)) ∧ (∀ (x : Int32) (σ : xS), FX9_in [.long x.toInt64, .long 0, .long 1] σ = some (some (.int (if nI 0 ≤ x ∧ x < nI 2 then nI 1 else nI 0)), σ)) ∧ (∀ (x : Int32) (σ : xS), FX9_in [.long x.toInt64, .long 0, .long 15] σ = some (some (.int (if nI 0 ≤ x ∧ x < nI 16 then nI 1 else nI 0)), σ)) ∧ (∀ (x : Int32) (σ : xS), FX9_in [.long x.toInt64, .long 0, .long 216] σ = some (some (.int (if nI 0 ≤ x ∧ x < nI 217 then nI 1 else nI 0)), σ)) ∧ (∀ (x : Int32) (σ : xS), FX9_in [.long x.toInt64, .long 1, .long 40] σ = some (some (.int (if nI 1 ≤ x ∧ x < nI 41 then nI 1 else nI 0)), σ)) ∧ (∀ (x : Int32) (σ : xS), FX9_in [.long x.toInt64, .long 1, .long 2147483646] σ = some (some (.int (if nI 1 ≤ x ∧ x < nI 2147483647 then nI 1 else nI 0)), σ)) ∧ (∀ (x : Int32) (σ : xS), FX9_in [.long x.toInt64, .long 0, .long 8] σ = some (some (.int (if nI 0 ≤ x ∧ x < nI 9 then nI 1 else nI 0)), σ)) := ⟨fun x σ => p9_inK x 0 5 (by decide) σ, fun x σ => p9_inK x 0 3 (by decide) σ, fun x σ => p9_inK x 0 215 (by decide) σ, fun x σ => p9_inK x 0 6 (by decide) σ, fun x σ => p9_inK x 1 5 (by decide) σ, fun x σ => p9_inK x 0 9 (by decide) σ, fun x σ => p9_inK x 0 2 (by decide) σ, fun x σ => p9_inK x 0 1 (by decide) σ, fun x σ => p9_inK x 0 15 (by decide) σ, fun x σ => p9_inK x 0 216 (by decide) σ, fun x σ => p9_inK x 1 40 (by decide) σ, fun x σ => p9_inK x 1 2147483646 (by decide) σ, fun x σ => p9_inK x 0 8 (by decide) σ⟩
theorem lt_m1 {x : Int32} {m : Nat} (h : m < 2 ^ 30) : (nI 0 ≤ x ∧ x ≤ nI m - nI 1) ↔ (nI 0 ≤ x ∧ x < nI m) := by
  rcases Nat.eq_zero_or_pos m with h0 | h0
  · subst h0
    constructor
    · rintro ⟨h1, h2⟩; exact absurd (Int32.le_trans h1 h2) (by decide)
    · rintro ⟨h1, h2⟩; exact absurd h2 (Int32.not_lt.mpr h1)
  · rw [pk_sub (by omega), le_lt (by omega), show m - 1 + 1 = m by omega]
theorem p9_isRow (x : Int32) (σ : xS) : FX9_isRow [.int x] σ = some (some (.int (if nI 0 ≤ x ∧ x < nI 6 then nI 1 else nI 0)), σ) := by
  rw [fX9_isRow]
  simp (disch := omega) only [eX9_isRow, xRl, xG1, xG2, kAll, rAll, nAll, List.map_nil, List.map_cons, List.sum_nil, List.sum_cons, Nat.reduceAdd, Nat.reduceSub, Nat.reduceMul, Nat.reduceLeDiff, Nat.reduceEqDiff, Nat.reduceLT, and_true, true_and, and_self, if_true, if_false, ne_eq, not_false_eq_true, not_true_eq_false, or_false, false_or, or_true, true_or, false_and, and_false, reduceIte, reduceCtorEq, xB, ite_not, xretf_zc, xretf_c, xcont_c, xbd, p9_inL]
theorem p9_isText (x : Int32) (σ : xS) : FX9_isText [.int x] σ = some (some (.int (if nI 0 ≤ x ∧ x < nI 4 then nI 1 else nI 0)), σ) := by
  rw [fX9_isText]
  simp (disch := omega) only [eX9_isText, xRl, xG1, xG2, kAll, rAll, nAll, List.map_nil, List.map_cons, List.sum_nil, List.sum_cons, Nat.reduceAdd, Nat.reduceSub, Nat.reduceMul, Nat.reduceLeDiff, Nat.reduceEqDiff, Nat.reduceLT, and_true, true_and, and_self, if_true, if_false, ne_eq, not_false_eq_true, not_true_eq_false, or_false, false_or, or_true, true_or, false_and, and_false, reduceIte, reduceCtorEq, xB, ite_not, xretf_zc, xretf_c, xcont_c, xbd, p9_inL]
theorem p9_isKind (x : Int32) (σ : xS) : FX9_isKind [.int x] σ = some (some (.int (if nI 0 ≤ x ∧ x < nI 6 then nI 1 else nI 0)), σ) := by
  rw [fX9_isKind]
  simp (disch := omega) only [eX9_isKind, xRl, xG1, xG2, kAll, rAll, nAll, List.map_nil, List.map_cons, List.sum_nil, List.sum_cons, Nat.reduceAdd, Nat.reduceSub, Nat.reduceMul, Nat.reduceLeDiff, Nat.reduceEqDiff, Nat.reduceLT, and_true, true_and, and_self, if_true, if_false, ne_eq, not_false_eq_true, not_true_eq_false, or_false, false_or, or_true, true_or, false_and, and_false, reduceIte, reduceCtorEq, xB, ite_not, xretf_zc, xretf_c, xcont_c, xbd, p9_inL]
theorem p9_isSh (x : Int32) (σ : xS) : FX9_isShade [.int x] σ = some (some (.int (if nI 0 ≤ x ∧ x < nI 216 then nI 1 else nI 0)), σ) := by
  rw [fX9_isShade]
  simp (disch := omega) only [eX9_isShade, xRl, xG1, xG2, kAll, rAll, nAll, List.map_nil, List.map_cons, List.sum_nil, List.sum_cons, Nat.reduceAdd, Nat.reduceSub, Nat.reduceMul, Nat.reduceLeDiff, Nat.reduceEqDiff, Nat.reduceLT, and_true, true_and, and_self, if_true, if_false, ne_eq, not_false_eq_true, not_true_eq_false, or_false, false_or, or_true, true_or, false_and, and_false, reduceIte, reduceCtorEq, xB, ite_not, xretf_zc, xretf_c, xcont_c, xbd, p9_inL]
theorem p9_isPe (x : Int32) (σ : xS) : FX9_isPerson [.int x] σ = some (some (.int (if nI 0 ≤ x ∧ x < nI 4 then nI 1 else nI 0)), σ) := by
  rw [fX9_isPerson]
  simp (disch := omega) only [eX9_isPerson, xRl, xG1, xG2, kAll, rAll, nAll, List.map_nil, List.map_cons, List.sum_nil, List.sum_cons, Nat.reduceAdd, Nat.reduceSub, Nat.reduceMul, Nat.reduceLeDiff, Nat.reduceEqDiff, Nat.reduceLT, and_true, true_and, and_self, if_true, if_false, ne_eq, not_false_eq_true, not_true_eq_false, or_false, false_or, or_true, true_or, false_and, and_false, reduceIte, reduceCtorEq, xB, ite_not, xretf_zc, xretf_c, xcont_c, xbd, p9_inL]
theorem p9_isName (L : Nat) (I : Nat → Nat → Int32) (J : Nat → Nat → Int64) (n : Nat) (hn : n < 2 ^ 30) (h1 : I 78 1 = nI n) (x : Int32) : FX9_isName [.ref 77, .int x] (S0 L I J) = some (some (.int (if nI 0 ≤ x ∧ x < nI n then nI 1 else nI 0)), S0 L I J) := by
  rw [fX9_isName]
  simp (disch := omega) only [eX9_isName, xRl, xG1, xG2, kAll, rAll, nAll, List.map_nil, List.map_cons, List.sum_nil, List.sum_cons, Nat.reduceAdd, Nat.reduceSub, Nat.reduceMul, Nat.reduceLeDiff, Nat.reduceEqDiff, Nat.reduceLT, and_true, true_and, and_self, if_true, if_false, ne_eq, not_false_eq_true, not_true_eq_false, or_false, false_or, or_true, true_or, false_and, and_false, reduceIte, reduceCtorEq, xB, ite_not, xretf_zc, xretf_c, xcont_c, xbd, h1, nI_neg0, cl_nI, p9_inV]
  simp only [lt_m1 hn]
/-! findings: class (cell 1: latest 9; cell 76), reference (cell 77: 8; cell 83) -/
abbrev fnC (I : Nat → Nat → Int32) (f : Nat) : Nat → Nat → Int32 := xup (xup I 1 9 (nI f)) 76 f (I 76 f + nI 1)
abbrev fnM (I : Nat → Nat → Int32) (f : Nat) : Nat → Nat → Int32 := xup (xup I 77 8 (nI f)) 83 f (I 83 f + nI 1)
theorem xup_o {α : Type} (f : Nat → Nat → α) {c a : Nat} (k b : Nat) (v : α) (h : a ≠ c) : xup f c k v a b = f a b := by rw [xup_ne f k v h]
theorem p8_findingOf (L : Nat) (I : Nat → Nat → Int32) (J : Nat → Nat → Int64) (f : Nat) (hf : f < 6) : FX8_findingOf [.ref 1, .int (nI f)] (S0 L I J) = some (some (.int (-3)), S0 L (fnC I f) J) := by
  rw [fX8_findingOf]
  simp (disch := omega) only [eX8_findingOf, xRl, xG1, xG2, kAll, rAll, nAll, List.map_nil, List.map_cons, List.sum_nil, List.sum_cons, Nat.reduceAdd, Nat.reduceSub, Nat.reduceMul, Nat.reduceLeDiff, Nat.reduceEqDiff, Nat.reduceLT, and_true, true_and, and_self, if_true, if_false, ne_eq, not_false_eq_true, not_true_eq_false, or_false, false_or, or_true, true_or, false_and, and_false, reduceIte, reduceCtorEq, xB, ite_not, xretf_zc, xretf_c, xcont_c, xbd, nI_neg0, cl_nI]
  rw [xup_o _ _ _ _ (by decide)]
theorem p9_find (L : Nat) (I : Nat → Nat → Int32) (J : Nat → Nat → Int64) (f : Nat) (hf : f < 6) : FX9_find [.ref 77, .int (nI f)] (S0 L I J) = some (some (.int (-3)), S0 L (fnM I f) J) := by
  rw [fX9_find]
  simp (disch := omega) only [eX9_find, xRl, xG1, xG2, kAll, rAll, nAll, List.map_nil, List.map_cons, List.sum_nil, List.sum_cons, Nat.reduceAdd, Nat.reduceSub, Nat.reduceMul, Nat.reduceLeDiff, Nat.reduceEqDiff, Nat.reduceLT, and_true, true_and, and_self, if_true, if_false, ne_eq, not_false_eq_true, not_true_eq_false, or_false, false_or, or_true, true_or, false_and, and_false, reduceIte, reduceCtorEq, xB, ite_not, xretf_zc, xretf_c, xcont_c, xbd, nI_neg0, cl_nI]
  rw [xup_o _ _ _ _ (by decide)]
theorem p9_tell (L : Nat) (I : Nat → Nat → Int32) (J : Nat → Nat → Int64) (v : Int32) : FX9_tell [.ref 77, .int v] (S0 L I J) = some (some (.int (nI 1)), S0 L (xup I 77 5 v) J) := by
  rw [fX9_tell]
  simp (disch := omega) only [eX9_tell, xRl, xG1, xG2, kAll, rAll, nAll, List.map_nil, List.map_cons, List.sum_nil, List.sum_cons, Nat.reduceAdd, Nat.reduceSub, Nat.reduceMul, Nat.reduceLeDiff, Nat.reduceEqDiff, Nat.reduceLT, and_true, true_and, and_self, if_true, if_false, ne_eq, not_false_eq_true, not_true_eq_false, or_false, false_or, or_true, true_or, false_and, and_false, reduceIte, reduceCtorEq, xB, ite_not, xretf_zc, xretf_c, xcont_c, xbd]
theorem p5_isThere (L : Nat) (I : Nat → Nat → Int32) (J : Nat → Nat → Int64) (j : Nat) (hj : j < 6) : FX5_isThere [.ref (3 + 2 * j)] (S0 L I J) = some (some (.int (if nI 0 ≤ I (3 + 2 * j) 1 then nI 1 else nI 0)), S0 L I J) := by
  rw [fX5_isThere]
  have k1 := kRow j hj
  simp (disch := omega) only [eX5_isThere, xRl, xG1, xG2, kAll, rAll, nAll, List.map_nil, List.map_cons, List.sum_nil, List.sum_cons, Nat.reduceAdd, Nat.reduceSub, Nat.reduceMul, Nat.reduceLeDiff, Nat.reduceEqDiff, Nat.reduceLT, and_true, true_and, and_self, if_true, if_false, ne_eq, not_false_eq_true, not_true_eq_false, or_false, false_or, or_true, true_or, false_and, and_false, reduceIte, reduceCtorEq, xB, ite_not, xretf_zc, xretf_c, xcont_c, xbd, k1.1]
  by_cases h : I (3 + 2 * j) 1 < nI 0
  · rw [if_pos h, if_neg (Int32.not_le.mpr h)]
  · rw [if_neg h, if_pos (Int32.not_lt.mp h)]
