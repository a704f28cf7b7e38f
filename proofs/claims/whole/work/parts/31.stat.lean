/-! static methods of both -/
theorem p9_in (x : Int32) (a b : Nat) (ha : a < 2 ^ 31) (hb : b < 2 ^ 31) (σ : xS) : FX9_in [.long x.toInt64, .long (lN a), .long (lN b)] σ = some (some (.int (if nI a ≤ x ∧ x ≤ nI b then nI 1 else nI 0)), σ) := by
  rw [fX9_in, ← nI_l ha, ← nI_l hb]
  simp (disch := omega) only [eX9_in, xRl, xG1, xG2, kAll, rAll, nAll, List.map_nil, List.map_cons, List.sum_nil, List.sum_cons, Nat.reduceAdd, Nat.reduceSub, Nat.reduceMul, Nat.reduceLeDiff, Nat.reduceEqDiff, Nat.reduceLT, and_true, true_and, and_self, if_true, if_false, ne_eq, not_false_eq_true, not_true_eq_false, or_false, false_or, or_true, true_or, false_and, and_false, reduceIte, reduceCtorEq, xB, ite_not, xretf_zc, xretf_c, xcont_c, xbd, lg_lt, lg_gt, i64_lt]
  by_cases h1 : x < nI a
  · rw [if_pos h1, if_neg (fun h => absurd h1 (Int32.not_lt.mpr h.1))]
  · rw [if_neg h1]
    by_cases h2 : nI b < x
    · rw [if_pos h2, if_neg (fun h => absurd h2 (Int32.not_lt.mpr h.2))]
    · rw [if_neg h2, if_pos ⟨Int32.not_lt.mp h1, Int32.not_lt.mp h2⟩]
theorem p8_among (x y : Int32) (σ : xS) : FX8_among [.int x, .int y] σ = some (some (.int (if nI 0 ≤ x ∧ x < y then nI 1 else nI 0)), σ) := by
  rw [fX8_among]
  simp (disch := omega) only [eX8_among, xRl, xG1, xG2, kAll, rAll, nAll, List.map_nil, List.map_cons, List.sum_nil, List.sum_cons, Nat.reduceAdd, Nat.reduceSub, Nat.reduceMul, Nat.reduceLeDiff, Nat.reduceEqDiff, Nat.reduceLT, and_true, true_and, and_self, if_true, if_false, ne_eq, not_false_eq_true, not_true_eq_false, or_false, false_or, or_true, true_or, false_and, and_false, reduceIte, reduceCtorEq, xB, ite_not, xretf_zc, xretf_c, xcont_c, xbd]
  by_cases h1 : x < nI 0
  · rw [if_pos h1, if_neg (fun h => absurd h1 (Int32.not_lt.mpr h.1))]
  · rw [if_neg h1]
    by_cases h2 : y ≤ x
    · rw [if_pos h2, if_neg (fun h => absurd h.2 (Int32.not_lt.mpr h2))]
    · rw [if_neg h2, if_pos ⟨Int32.not_lt.mp h1, Int32.not_le.mp h2⟩]
/-- distance of numbers -/
def dN (a b : Nat) : Nat := (a - b) + (b - a)
theorem p9_off (a b : Nat) (ha : a < 2 ^ 30) (hb : b < 2 ^ 30) (σ : xS) : FX9_off [.int (nI a), .int (nI b)] σ = some (some (.int (nI (dN a b))), σ) := by
  rw [fX9_off]
  simp (disch := omega) only [eX9_off, xRl, xG1, xG2, kAll, rAll, nAll, List.map_nil, List.map_cons, List.sum_nil, List.sum_cons, Nat.reduceAdd, Nat.reduceSub, Nat.reduceMul, Nat.reduceLeDiff, Nat.reduceEqDiff, Nat.reduceLT, and_true, true_and, and_self, if_true, if_false, ne_eq, not_false_eq_true, not_true_eq_false, or_false, false_or, or_true, true_or, false_and, and_false, reduceIte, reduceCtorEq, xB, ite_not, xretf_zc, xretf_c, xcont_c, xbd, nI_ltI, nI_leI]
  unfold dN
  split
  · rw [pk_sub (by omega), show a - b + (b - a) = a - b by omega]
  · rw [pk_sub (by omega), show a - b + (b - a) = b - a by omega]
theorem p9_more (a b : Nat) (ha : a < 2 ^ 31) (hb : b < 2 ^ 31) (σ : xS) : FX9_more [.int (nI a), .int (nI b)] σ = some (some (.int (nI (max a b))), σ) := by
  rw [fX9_more]
  simp (disch := omega) only [eX9_more, xRl, xG1, xG2, kAll, rAll, nAll, List.map_nil, List.map_cons, List.sum_nil, List.sum_cons, Nat.reduceAdd, Nat.reduceSub, Nat.reduceMul, Nat.reduceLeDiff, Nat.reduceEqDiff, Nat.reduceLT, and_true, true_and, and_self, if_true, if_false, ne_eq, not_false_eq_true, not_true_eq_false, or_false, false_or, or_true, true_or, false_and, and_false, reduceIte, reduceCtorEq, xB, ite_not, xretf_zc, xretf_c, xcont_c, xbd, nI_ltI, nI_leI]
  split
  · rw [Nat.max_eq_right (by omega)]
  · rw [Nat.max_eq_left (by omega)]
def farN (k s t : Nat) : Nat := if k = 1 then max (dN (s / 36) (t / 36)) (max (dN (s / 6 % 6) (t / 6 % 6)) (dN (s % 6) (t % 6))) else if k = 4 then max (dN (s / 36) (t / 36)) (dN (s / 6 % 6) (t / 6 % 6)) else if k = 3 then 2 * dN (s / 36) (t / 36) + dN (s / 6 % 6) (t / 6 % 6) + dN (s % 6) (t % 6) else dN (s / 36) (t / 36) + dN (s / 6 % 6) (t / 6 % 6) + dN (s % 6) (t % 6)
theorem nI_z {d : Nat} (h0 : 0 < d) (hd : d < 2 ^ 31) : (nI d = 0) ↔ False := ⟨fun h => nI_ne0 h0 hd h, fun h => h.elim⟩
theorem rem1 {a d : Nat} (h0 : 0 < d) : nI a - nI (a / d) * nI d = nI (a % d) := by
  rw [pk_mul, pk_sub (Nat.div_mul_le_self a d)]
  congr 1
  have := Nat.div_add_mod a d
  rw [Nat.mul_comm] at this
  omega
theorem rem2 {a d : Nat} (h0 : 0 < d) : nI a - nI (a / d * d) = nI (a % d) := by rw [← pk_mul]; exact rem1 h0
theorem dN_lt {a b n : Nat} (ha : a < n) (hb : b < n) : dN a b < n := by unfold dN; omega
theorem p9_far (k s t : Nat) (hk : k < 6) (hs : s < 216) (ht : t < 216) (σ : xS) : FX9_far [.int (nI k), .int (nI s), .int (nI t)] σ = some (some (.int (nI (farN k s t))), σ) := by
  rw [fX9_far]
  have a1 : dN (s / 36) (t / 36) < 6 := dN_lt (by omega) (by omega)
  have a2 : dN (s / 6 % 6) (t / 6 % 6) < 6 := dN_lt (by omega) (by omega)
  have a3 : dN (s % 6) (t % 6) < 6 := dN_lt (by omega) (by omega)
  simp (disch := omega) only [eX9_far, xRl, xG1, xG2, kAll, rAll, nAll, List.map_nil, List.map_cons, List.sum_nil, List.sum_cons, Nat.reduceAdd, Nat.reduceSub, Nat.reduceMul, Nat.reduceLeDiff, Nat.reduceEqDiff, Nat.reduceLT, and_true, true_and, and_self, if_true, if_false, ne_eq, not_false_eq_true, not_true_eq_false, or_false, false_or, or_true, true_or, false_and, and_false, reduceIte, reduceCtorEq, xB, ite_not, xretf_zc, xretf_c, xcont_c, xbd, nI_z, pk_div, rem1, rem2, p9_off, p9_more, nI_eq, nI_add, pk_mul]
  unfold farN
  repeat' split
  all_goals first | rfl | omega
theorem abs_nI {a b : Nat} (ha : a < 2 ^ 30) (hb : b < 2 ^ 30) : (if 0 ≤ nI a - nI b then nI a - nI b else 0 - (nI a - nI b)) = nI (dN a b) := by
  unfold dN
  rcases Nat.lt_or_ge a b with h | h
  · have h1 := pk_sneg hb h
    rw [if_neg (Int32.not_le.mpr h1), show a - b + (b - a) = b - a by omega, ← pk_sub (Nat.le_of_lt h)]
    simp
  · rw [pk_sub h, if_pos (nI_pos' (by omega)), show a - b + (b - a) = a - b by omega]
theorem max_nI {a b : Nat} (ha : a < 2 ^ 31) (hb : b < 2 ^ 31) : (if nI a < nI b then nI b else nI a) = nI (max a b) := by
  split <;> rename_i h <;> rw [nI_ltI ha hb] at h
  · rw [Nat.max_eq_right (by omega)]
  · rw [Nat.max_eq_left (by omega)]
theorem p6_partA (s : Nat) (hs : s < 2 ^ 31) (σ : xS) : FX6_partA [.int (nI s)] σ = some (some (.int (nI (s / 36))), σ) := by
  rw [fX6_partA]
  simp (disch := omega) only [eX6_partA, xRl, xG1, xG2, kAll, rAll, nAll, List.map_nil, List.map_cons, List.sum_nil, List.sum_cons, Nat.reduceAdd, Nat.reduceSub, Nat.reduceMul, Nat.reduceLeDiff, Nat.reduceEqDiff, Nat.reduceLT, and_true, true_and, and_self, if_true, if_false, ne_eq, not_false_eq_true, not_true_eq_false, or_false, false_or, or_true, true_or, false_and, and_false, reduceIte, reduceCtorEq, xB, ite_not, xretf_zc, xretf_c, xcont_c, xbd, nI_z, pk_div, rem1, rem2]
theorem p6_partB (s : Nat) (hs : s < 2 ^ 31) (σ : xS) : FX6_partB [.int (nI s)] σ = some (some (.int (nI (s / 6 % 6))), σ) := by
  rw [fX6_partB]
  simp (disch := omega) only [eX6_partB, xRl, xG1, xG2, kAll, rAll, nAll, List.map_nil, List.map_cons, List.sum_nil, List.sum_cons, Nat.reduceAdd, Nat.reduceSub, Nat.reduceMul, Nat.reduceLeDiff, Nat.reduceEqDiff, Nat.reduceLT, and_true, true_and, and_self, if_true, if_false, ne_eq, not_false_eq_true, not_true_eq_false, or_false, false_or, or_true, true_or, false_and, and_false, reduceIte, reduceCtorEq, xB, ite_not, xretf_zc, xretf_c, xcont_c, xbd, nI_z, pk_div, rem1, rem2]
theorem p6_partC (s : Nat) (hs : s < 2 ^ 31) (σ : xS) : FX6_partC [.int (nI s)] σ = some (some (.int (nI (s % 6))), σ) := by
  rw [fX6_partC]
  simp (disch := omega) only [eX6_partC, xRl, xG1, xG2, kAll, rAll, nAll, List.map_nil, List.map_cons, List.sum_nil, List.sum_cons, Nat.reduceAdd, Nat.reduceSub, Nat.reduceMul, Nat.reduceLeDiff, Nat.reduceEqDiff, Nat.reduceLT, and_true, true_and, and_self, if_true, if_false, ne_eq, not_false_eq_true, not_true_eq_false, or_false, false_or, or_true, true_or, false_and, and_false, reduceIte, reduceCtorEq, xB, ite_not, xretf_zc, xretf_c, xcont_c, xbd, nI_z, pk_div, rem1, rem2]
theorem p6_of (a b c : Nat) (σ : xS) : FX6_of [.int (nI a), .int (nI b), .int (nI c)] σ = some (some (.int (nI (36 * a + 6 * b + c))), σ) := by
  rw [fX6_of]
  simp (disch := omega) only [eX6_of, xRl, xG1, xG2, kAll, rAll, nAll, List.map_nil, List.map_cons, List.sum_nil, List.sum_cons, Nat.reduceAdd, Nat.reduceSub, Nat.reduceMul, Nat.reduceLeDiff, Nat.reduceEqDiff, Nat.reduceLT, and_true, true_and, and_self, if_true, if_false, ne_eq, not_false_eq_true, not_true_eq_false, or_false, false_or, or_true, true_or, false_and, and_false, reduceIte, reduceCtorEq, xB, ite_not, xretf_zc, xretf_c, xcont_c, xbd, nI_add, pk_mul]
theorem p1_farFrom (k s t : Nat) (hk : k < 6) (hs : s < 216) (ht : t < 216) (σ : xS) : FX1_farFrom [.int (nI k), .int (nI s), .int (nI t)] σ = some (some (.int (nI (farN k s t))), σ) := by
  rw [fX1_farFrom]
  have a1 : dN (s / 36) (t / 36) < 6 := dN_lt (by omega) (by omega)
  have a2 : dN (s / 6 % 6) (t / 6 % 6) < 6 := dN_lt (by omega) (by omega)
  have a3 : dN (s % 6) (t % 6) < 6 := dN_lt (by omega) (by omega)
  simp (disch := omega) only [eX1_farFrom, xRl, xG1, xG2, kAll, rAll, nAll, List.map_nil, List.map_cons, List.sum_nil, List.sum_cons, Nat.reduceAdd, Nat.reduceSub, Nat.reduceMul, Nat.reduceLeDiff, Nat.reduceEqDiff, Nat.reduceLT, and_true, true_and, and_self, if_true, if_false, ne_eq, not_false_eq_true, not_true_eq_false, or_false, false_or, or_true, true_or, false_and, and_false, reduceIte, reduceCtorEq, xB, ite_not, xretf_zc, xretf_c, xcont_c, xbd, p6_partA, p6_partB, p6_partC, abs_nI, max_nI, nI_eq, nI_add, pk_mul]
  unfold farN
  repeat' split
  all_goals first | rfl | omega
