/-! copy -/
theorem xq_copy (tab : List (Nat × xO)) (pc al a b sp dp n : Nat) (lv : List Value) (σ : xS) (h1 : xKd σ a = 10) (h2 : xKd σ b = 10) (h3 : sp < 2 ^ 31) (h4 : dp < 2 ^ 31) (h5 : n < 2 ^ 31) (h6 : sp + n ≤ xNn σ a) (h7 : dp + n ≤ xNn σ b) : xnx tab (x_copy (pc, lv, [.int (nI n), .int (nI dp), .ref b, .int (nI sp), .ref a], al, σ)) = xD tab (pc + 3, lv, [], al, (σ.1, va_up σ.2.1 b (va_cpy (σ.2.1 a) (σ.2.1 b) sp dp n), σ.2.2)) := by
  show xnx tab (if (xKd σ a = 10 ∧ xKd σ b = 10) ∧ (¬ nI sp < 0 ∧ ¬ nI dp < 0 ∧ ¬ nI n < 0) ∧ ((nI sp).toNatClampNeg + (nI n).toNatClampNeg ≤ xNn σ a ∧ (nI dp).toNatClampNeg + (nI n).toNatClampNeg ≤ xNn σ b) ∧ (([] : List Value).map Value.category).sum ≤ 8 then some (.inl (pc + 3, lv, [], al, (σ.1, va_up σ.2.1 b (va_cpy (σ.2.1 a) (σ.2.1 b) (nI sp).toNatClampNeg (nI dp).toNatClampNeg (nI n).toNatClampNeg), σ.2.2))) else none) = _
  rw [cl_nI h3, cl_nI h4, cl_nI h5, if_pos ⟨⟨h1, h2⟩, ⟨nI_pos h3, nI_pos h4, nI_pos h5⟩, ⟨h6, h7⟩, by simp⟩]
  rfl
theorem sub_i {m n : Nat} (hm : m ≤ 40) (hn : n < 2 ^ 31) : (nI m - nI n).toInt = (m : Int) - n := by
  rw [Int32.toInt_sub, nI_toInt (by omega), nI_toInt hn]
  unfold Int.bmod
  have e : (2 : Nat) ^ 32 = 4294967296 := by decide
  have e2 : (2 : Nat) ^ 31 = 2147483648 := by decide
  simp only [e] at *
  split <;> omega
theorem add_l {m x n : Nat} (hm : m ≤ 40) (hx : x < 2 ^ 31) (hn : n < 2 ^ 31) : ((nI m).toInt64 < (nI x).toInt64 + (nI n).toInt64) ↔ m < x + n := by
  rw [Int64.lt_iff_toInt_lt, Int64.toInt_add, Int32.toInt_toInt64, Int32.toInt_toInt64, Int32.toInt_toInt64, nI_toInt (by omega), nI_toInt hx, nI_toInt hn]
  unfold Int.bmod
  have e : (2 : Nat) ^ 64 = 18446744073709551616 := by decide
  have e2 : (2 : Nat) ^ 31 = 2147483648 := by decide
  simp only [e] at *
  split <;> omega
section C1
variable (L : Nat) (I : Nat → Nat → Int32) (J : Nat → Nat → Int64)
theorem p5_holds {j m n : Nat} (hj : j < 6) (hm : m ≤ 40) (hz : I (3 + 2 * j) 1 = nI m) (hn : n < 2 ^ 31) (x : Int32) : FX5_holds [.ref (3 + 2 * j), .int x, .int (nI n)] (S0 L I J) = some (some (.int (if nI 0 ≤ x ∧ tn x + n ≤ m then nI 1 else nI 0)), S0 L I J) := by
  rw [fX5_holds]
  obtain ⟨k1, k2, k3, k4⟩ := kRow j hj
  simp (disch := omega) only [eX5_holds, xRl, xG1, xG2, kAll, rAll, nAll, List.map_nil, List.map_cons, List.sum_nil, List.sum_cons, Nat.reduceAdd, Nat.reduceSub, Nat.reduceMul, Nat.reduceLeDiff, Nat.reduceEqDiff, Nat.reduceLT, and_true, true_and, and_self, if_true, if_false, ne_eq, not_false_eq_true, not_true_eq_false, or_false, false_or, or_true, true_or, false_and, and_false, reduceIte, reduceCtorEq, xB, ite_not, xretf_zc, xretf_c, xcont_c, xbd, k1, hz]
  by_cases h1 : x < nI 0
  · rw [if_pos h1, if_neg (fun q => absurd h1 (Int32.not_lt.mpr q.1))]
  · obtain ⟨y, hy, rfl⟩ := nI_of (x := x) h1
    rw [if_neg h1]
    have e : (nI y ≤ nI m - nI n) ↔ y + n ≤ m := by
      rw [Int32.le_iff_toInt_le, sub_i hm hn, nI_toInt hy]; omega
    unfold tn
    rw [cl_nI hy]
    by_cases h2 : y + n ≤ m
    · rw [if_neg (Int32.not_lt.mpr (e.mpr h2)), if_pos ⟨nI_pos' hy, h2⟩]
    · rw [if_pos (Int32.not_le.mp (fun q => h2 (e.mp q))), if_neg (fun q => h2 q.2)]
theorem p9_isSpan {j m n : Nat} (hj : j < 6) (hm : m ≤ 40) (hz : I 79 j = nI m) (hn : n < 2 ^ 31) (x : Int32) : FX9_isSpan [.ref 77, .int (nI j), .int x, .int (nI n)] (S0 L I J) = some (some (.int (if nI 0 ≤ x ∧ tn x + n ≤ m then nI 1 else nI 0)), S0 L I J) := by
  rw [fX9_isSpan]
  simp (disch := omega) only [eX9_isSpan, xRl, xG1, xG2, kAll, rAll, nAll, List.map_nil, List.map_cons, List.sum_nil, List.sum_cons, Nat.reduceAdd, Nat.reduceSub, Nat.reduceMul, Nat.reduceLeDiff, Nat.reduceEqDiff, Nat.reduceLT, and_true, true_and, and_self, if_true, if_false, ne_eq, not_false_eq_true, not_true_eq_false, or_false, false_or, or_true, true_or, false_and, and_false, reduceIte, reduceCtorEq, xB, ite_not, xretf_zc, xretf_c, xcont_c, xbd, nI_neg0, cl_nI, hz, lg_gt]
  by_cases h1 : x < nI 0
  · rw [if_pos h1, if_neg (fun q => absurd h1 (Int32.not_lt.mpr q.1))]
  · obtain ⟨y, hy, rfl⟩ := nI_of (x := x) h1
    rw [if_neg h1]
    unfold tn
    rw [cl_nI hy]
    have e := add_l hm hy hn
    by_cases h2 : y + n ≤ m
    · rw [if_neg (fun q => absurd (e.mp q) (by omega)), if_pos ⟨nI_pos' hy, h2⟩]
    · rw [if_pos (e.mpr (by omega)), if_neg (fun q => h2 q.2)]
/-- places lo + a .. lo + b - 1 taken from s + .. -/
def mvd (I : Nat → Nat → Int32) (s lo a b : Nat) : Nat → Nat → Int32 := fun c q => if c = 80 ∧ lo + a ≤ q ∧ q < lo + b then I 80 (s + (q - lo)) else I c q
theorem mvd_0 (s lo a : Nat) : mvd I s lo a a = I := by
  funext c q; unfold mvd; rw [if_neg (by omega)]
theorem mvd_ne (s lo a b : Nat) {c : Nat} (h : c ≠ 80) : mvd I s lo a b c = I c := by
  funext q; unfold mvd; rw [if_neg (fun z => h z.1)]
theorem mvd_up (s lo a b : Nat) (h : a ≤ b) : xup (mvd I s lo a b) 80 (lo + b) (I 80 (s + b)) = mvd I s lo a (b + 1) := by
  funext c q
  unfold xup mvd
  by_cases h1 : c = 80
  · subst h1
    by_cases h2 : q = lo + b
    · subst h2
      simp only [true_and, if_true]
      rw [if_pos (by omega), show lo + b - lo = b by omega]
    · simp only [true_and, if_true, h2, if_false]
      by_cases h3 : lo + a ≤ q ∧ q < lo + b
      · rw [if_pos h3, if_pos ⟨h3.1, by omega⟩]
      · rw [if_neg h3, if_neg (by omega)]
  · simp [h1]
theorem mvd_dn (s lo a b : Nat) (h : a < b) : xup (mvd I s lo (a + 1) b) 80 (lo + a) (I 80 (s + a)) = mvd I s lo a b := by
  funext c q
  unfold xup mvd
  by_cases h1 : c = 80
  · subst h1
    by_cases h2 : q = lo + a
    · subst h2
      simp only [true_and, if_true]
      rw [if_pos (by omega), show lo + a - lo = a by omega]
    · simp only [true_and, if_true, h2, if_false]
      by_cases h3 : lo + (a + 1) ≤ q ∧ q < lo + b
      · rw [if_pos h3, if_pos (by omega)]
      · rw [if_neg h3, if_neg (by omega)]
  · simp [h1]
theorem mvd_at (s lo a b q : Nat) (h : ¬ (lo + a ≤ q ∧ q < lo + b)) : mvd I s lo a b 80 q = I 80 q := by
  unfold mvd; rw [if_neg (fun z => h z.2)]
theorem pr_copy (h : Cp I J) (r i t j n : Int32) : Pair L FX8_copy FX9_copy [.int r, .int i, .int t, .int j, .int n] I J := by
  rcases row_cases h.1 r with hr | ⟨a, ha, rfl, za⟩
  · refine ⟨.int (-1), I, J, I, J, ?_, ?_, h⟩
    · rw [fX8_copy]
      simp (disch := omega) only [eX8_copy, xRl, xG1, xG2, kAll, rAll, nAll, List.map_nil, List.map_cons, List.sum_nil, List.sum_cons, Nat.reduceAdd, Nat.reduceSub, Nat.reduceMul, Nat.reduceLeDiff, Nat.reduceEqDiff, Nat.reduceLT, and_true, true_and, and_self, if_true, if_false, ne_eq, not_false_eq_true, not_true_eq_false, or_false, false_or, or_true, true_or, false_and, and_false, reduceIte, reduceCtorEq, xB, ite_not, xretf_zc, xretf_c, xcont_c, xbd, p8_among, hr]
    · rw [fX9_copy]
      simp (disch := omega) only [eX9_copy, xRl, xG1, xG2, kAll, rAll, nAll, List.map_nil, List.map_cons, List.sum_nil, List.sum_cons, Nat.reduceAdd, Nat.reduceSub, Nat.reduceMul, Nat.reduceLeDiff, Nat.reduceEqDiff, Nat.reduceLT, and_true, true_and, and_self, if_true, if_false, ne_eq, not_false_eq_true, not_true_eq_false, or_false, false_or, or_true, true_or, false_and, and_false, reduceIte, reduceCtorEq, xB, ite_not, xretf_zc, xretf_c, xcont_c, xbd, p9_isRow, hr]
  rcases row_cases h.1 t with hr | ⟨b, hb, rfl, zb⟩
  · refine ⟨.int (-1), I, J, I, J, ?_, ?_, h⟩
    · rw [fX8_copy]
      simp (disch := omega) only [eX8_copy, xRl, xG1, xG2, kAll, rAll, nAll, List.map_nil, List.map_cons, List.sum_nil, List.sum_cons, Nat.reduceAdd, Nat.reduceSub, Nat.reduceMul, Nat.reduceLeDiff, Nat.reduceEqDiff, Nat.reduceLT, and_true, true_and, and_self, if_true, if_false, ne_eq, not_false_eq_true, not_true_eq_false, or_false, false_or, or_true, true_or, false_and, and_false, reduceIte, reduceCtorEq, xB, ite_not, xretf_zc, xretf_c, xcont_c, xbd, p8_among, hr, z_le, lt_t]
    · rw [fX9_copy]
      simp (disch := omega) only [eX9_copy, xRl, xG1, xG2, kAll, rAll, nAll, List.map_nil, List.map_cons, List.sum_nil, List.sum_cons, Nat.reduceAdd, Nat.reduceSub, Nat.reduceMul, Nat.reduceLeDiff, Nat.reduceEqDiff, Nat.reduceLT, and_true, true_and, and_self, if_true, if_false, ne_eq, not_false_eq_true, not_true_eq_false, or_false, false_or, or_true, true_or, false_and, and_false, reduceIte, reduceCtorEq, xB, ite_not, xretf_zc, xretf_c, xcont_c, xbd, p9_isRow, hr, z_le, lt_t]
  obtain ⟨a1, a2, a3, a4⟩ := kRow a ha
  obtain ⟨b1, b2, b3, b4⟩ := kRow b hb
  have a5 := nRow L a ha
  have b5 := nRow L b hb
  have ea : ¬ 3 + 2 * a = 0 := by omega
  have eb : ¬ 3 + 2 * b = 0 := by omega
  have ea2 : ¬ 4 + 2 * a = 0 := by omega
  have eb2 : ¬ 4 + 2 * b = 0 := by omega
  by_cases hn : n < nI 0
  · refine ⟨.int (-3), fnC I 5, J, fnM (fnC I 5) 5, J, ?_, ?_, Cp_find h (by decide)⟩
    · rw [fX8_copy]
      simp (disch := omega) only [eX8_copy, xRl, xG1, xG2, kAll, rAll, nAll, List.map_nil, List.map_cons, List.sum_nil, List.sum_cons, Nat.reduceAdd, Nat.reduceSub, Nat.reduceMul, Nat.reduceLeDiff, Nat.reduceEqDiff, Nat.reduceLT, and_true, true_and, and_self, if_true, if_false, ne_eq, not_false_eq_true, not_true_eq_false, or_false, false_or, or_true, true_or, false_and, and_false, reduceIte, reduceCtorEq, xB, ite_not, xretf_zc, xretf_c, xcont_c, xbd, p8_among, z_le, lt_t, hn, Int32.not_le.mpr hn, p8_findingOf]
    · rw [fX9_copy]
      simp (disch := omega) only [eX9_copy, xRl, xG1, xG2, kAll, rAll, nAll, List.map_nil, List.map_cons, List.sum_nil, List.sum_cons, Nat.reduceAdd, Nat.reduceSub, Nat.reduceMul, Nat.reduceLeDiff, Nat.reduceEqDiff, Nat.reduceLT, and_true, true_and, and_self, if_true, if_false, ne_eq, not_false_eq_true, not_true_eq_false, or_false, false_or, or_true, true_or, false_and, and_false, reduceIte, reduceCtorEq, xB, ite_not, xretf_zc, xretf_c, xcont_c, xbd, p9_isRow, z_le, lt_t, hn, Int32.not_le.mpr hn, p9_find]
  obtain ⟨m, hm, rfl⟩ := nI_of (x := n) hn
  rcases za with ⟨z1, z2⟩ | ⟨ma, hma, z1, z2⟩
  · refine ⟨.int (-3), fnC I 1, J, fnM (fnC I 1) 1, J, ?_, ?_, Cp_find h (by decide)⟩
    · rw [fX8_copy]
      simp (disch := omega) only [eX8_copy, xRl, xG1, xG2, kAll, rAll, nAll, List.map_nil, List.map_cons, List.sum_nil, List.sum_cons, Nat.reduceAdd, Nat.reduceSub, Nat.reduceMul, Nat.reduceLeDiff, Nat.reduceEqDiff, Nat.reduceLT, and_true, true_and, and_self, if_true, if_false, ne_eq, not_false_eq_true, not_true_eq_false, or_false, false_or, or_true, true_or, false_and, and_false, reduceIte, reduceCtorEq, xB, ite_not, xretf_zc, xretf_c, xcont_c, xbd, p8_among, z_le, lt_t, nI_neg0, cl_nI, a1, a3, ea, p5_isThere, z1, m1_ge, p8_findingOf]
    · have e1 : fnC I 1 79 a = -1 := by simp [fnC, xup]; exact z2
      rw [fX9_copy]
      simp (disch := omega) only [eX9_copy, xRl, xG1, xG2, kAll, rAll, nAll, List.map_nil, List.map_cons, List.sum_nil, List.sum_cons, Nat.reduceAdd, Nat.reduceSub, Nat.reduceMul, Nat.reduceLeDiff, Nat.reduceEqDiff, Nat.reduceLT, and_true, true_and, and_self, if_true, if_false, ne_eq, not_false_eq_true, not_true_eq_false, or_false, false_or, or_true, true_or, false_and, and_false, reduceIte, reduceCtorEq, xB, ite_not, xretf_zc, xretf_c, xcont_c, xbd, p9_isRow, z_le, lt_t, nI_neg0, cl_nI, e1, m1_lt, m1_ge, p9_find]
  rcases zb with ⟨y1, y2⟩ | ⟨mb, hmb, y1, y2⟩
  · refine ⟨.int (-3), fnC I 1, J, fnM (fnC I 1) 1, J, ?_, ?_, Cp_find h (by decide)⟩
    · rw [fX8_copy]
      simp (disch := omega) only [eX8_copy, xRl, xG1, xG2, kAll, rAll, nAll, List.map_nil, List.map_cons, List.sum_nil, List.sum_cons, Nat.reduceAdd, Nat.reduceSub, Nat.reduceMul, Nat.reduceLeDiff, Nat.reduceEqDiff, Nat.reduceLT, and_true, true_and, and_self, if_true, if_false, ne_eq, not_false_eq_true, not_true_eq_false, or_false, false_or, or_true, true_or, false_and, and_false, reduceIte, reduceCtorEq, xB, ite_not, xretf_zc, xretf_c, xcont_c, xbd, p8_among, z_le, lt_t, nI_neg0, cl_nI, a1, a3, ea, b1, b3, eb, p5_isThere, z1, y1, m1_ge, p8_findingOf]
    · have e1 : fnC I 1 79 a = nI ma := by simp [fnC, xup]; exact z2
      have e2 : fnC I 1 79 b = -1 := by simp [fnC, xup]; exact y2
      rw [fX9_copy]
      simp (disch := omega) only [eX9_copy, xRl, xG1, xG2, kAll, rAll, nAll, List.map_nil, List.map_cons, List.sum_nil, List.sum_cons, Nat.reduceAdd, Nat.reduceSub, Nat.reduceMul, Nat.reduceLeDiff, Nat.reduceEqDiff, Nat.reduceLT, and_true, true_and, and_self, if_true, if_false, ne_eq, not_false_eq_true, not_true_eq_false, or_false, false_or, or_true, true_or, false_and, and_false, reduceIte, reduceCtorEq, xB, ite_not, xretf_zc, xretf_c, xcont_c, xbd, p9_isRow, z_le, lt_t, nI_neg0, cl_nI, e1, e2, m1_lt, m1_ge, nI_ltI, Nat.not_lt_zero, p9_find]
  have ha' := fun I J h => p5_holds L I J ha hma h hm
  have hb' := fun I J h => p5_holds L I J hb hmb h hm
  have ga' := fun I J h => p9_isSpan L I J ha hma h hm
  have gb' := fun I J h => p9_isSpan L I J hb hmb h hm
  have hbey : ¬ ((nI 0 ≤ i ∧ tn i + m ≤ ma) ∧ (nI 0 ≤ j ∧ tn j + m ≤ mb)) → Pair L FX8_copy FX9_copy [.int (nI a), .int i, .int (nI b), .int j, .int (nI m)] I J := by
    intro hx
    refine ⟨.int (-3), fnC I 2, J, fnM (fnC I 2) 2, J, ?_, ?_, Cp_find h (by decide)⟩
    · rw [fX8_copy]
      by_cases h1 : nI 0 ≤ i ∧ tn i + m ≤ ma
      · have h2 : ¬ (nI 0 ≤ j ∧ tn j + m ≤ mb) := fun q => hx ⟨h1, q⟩
        simp (disch := omega) only [eX8_copy, xRl, xG1, xG2, kAll, rAll, nAll, List.map_nil, List.map_cons, List.sum_nil, List.sum_cons, Nat.reduceAdd, Nat.reduceSub, Nat.reduceMul, Nat.reduceLeDiff, Nat.reduceEqDiff, Nat.reduceLT, and_true, true_and, and_self, if_true, if_false, ne_eq, not_false_eq_true, not_true_eq_false, or_false, false_or, or_true, true_or, false_and, and_false, reduceIte, reduceCtorEq, xB, ite_not, xretf_zc, xretf_c, xcont_c, xbd, p8_among, z_le, lt_t, nI_neg0, cl_nI, a1, a3, ea, b1, b3, eb, p5_isThere, z1, y1, ha' I J z1, hb' I J y1, h1, h2, p8_findingOf]
      · simp (disch := omega) only [eX8_copy, xRl, xG1, xG2, kAll, rAll, nAll, List.map_nil, List.map_cons, List.sum_nil, List.sum_cons, Nat.reduceAdd, Nat.reduceSub, Nat.reduceMul, Nat.reduceLeDiff, Nat.reduceEqDiff, Nat.reduceLT, and_true, true_and, and_self, if_true, if_false, ne_eq, not_false_eq_true, not_true_eq_false, or_false, false_or, or_true, true_or, false_and, and_false, reduceIte, reduceCtorEq, xB, ite_not, xretf_zc, xretf_c, xcont_c, xbd, p8_among, z_le, lt_t, nI_neg0, cl_nI, a1, a3, ea, b1, b3, eb, p5_isThere, z1, y1, ha' I J z1, hb' I J y1, h1, p8_findingOf]
    · have e1 : fnC I 2 79 a = nI ma := by simp [fnC, xup]; exact z2
      have e2 : fnC I 2 79 b = nI mb := by simp [fnC, xup]; exact y2
      rw [fX9_copy]
      by_cases h1 : nI 0 ≤ i ∧ tn i + m ≤ ma
      · have h2 : ¬ (nI 0 ≤ j ∧ tn j + m ≤ mb) := fun q => hx ⟨h1, q⟩
        simp (disch := omega) only [eX9_copy, xRl, xG1, xG2, kAll, rAll, nAll, List.map_nil, List.map_cons, List.sum_nil, List.sum_cons, Nat.reduceAdd, Nat.reduceSub, Nat.reduceMul, Nat.reduceLeDiff, Nat.reduceEqDiff, Nat.reduceLT, and_true, true_and, and_self, if_true, if_false, ne_eq, not_false_eq_true, not_true_eq_false, or_false, false_or, or_true, true_or, false_and, and_false, reduceIte, reduceCtorEq, xB, ite_not, xretf_zc, xretf_c, xcont_c, xbd, p9_isRow, z_le, lt_t, nI_neg0, cl_nI, e1, e2, nI_ltI, Nat.not_lt_zero, ga' _ J e1, gb' _ J e2, h1, h2, p9_find]
      · simp (disch := omega) only [eX9_copy, xRl, xG1, xG2, kAll, rAll, nAll, List.map_nil, List.map_cons, List.sum_nil, List.sum_cons, Nat.reduceAdd, Nat.reduceSub, Nat.reduceMul, Nat.reduceLeDiff, Nat.reduceEqDiff, Nat.reduceLT, and_true, true_and, and_self, if_true, if_false, ne_eq, not_false_eq_true, not_true_eq_false, or_false, false_or, or_true, true_or, false_and, and_false, reduceIte, reduceCtorEq, xB, ite_not, xretf_zc, xretf_c, xcont_c, xbd, p9_isRow, z_le, lt_t, nI_neg0, cl_nI, e1, e2, nI_ltI, Nat.not_lt_zero, ga' _ J e1, gb' _ J e2, h1, p9_find]
  by_cases h1 : nI 0 ≤ i ∧ tn i + m ≤ ma
  · by_cases h2 : nI 0 ≤ j ∧ tn j + m ≤ mb
    · obtain ⟨p, hp, rfl⟩ := nI_of (x := i) (Int32.not_lt.mpr h1.1)
      obtain ⟨q, hq, rfl⟩ := nI_of (x := j) (Int32.not_lt.mpr h2.1)
      have hp2 : p + m ≤ ma := by have := h1.2; unfold tn at this; rwa [cl_nI hp] at this
      have hq2 : q + m ≤ mb := by have := h2.2; unfold tn at this; rwa [cl_nI hq] at this
      generalize hI1 : va_up I (4 + 2 * b) (va_cpy (I (4 + 2 * a)) (I (4 + 2 * b)) p q m) = I1
      have g0 : ∀ c, c ≠ 4 + 2 * b → I1 c = I c := fun c hc => by rw [← hI1]; exact va_up_ne _ _ hc
      have g1 : I1 79 a = nI ma := by rw [g0 79 (by omega)]; exact z2
      have g2 : I1 79 b = nI mb := by rw [g0 79 (by omega)]; exact y2
      have f1 := ga' I1 J g1 (nI p)
      have f2 := gb' I1 J g2 (nI q)
      rw [if_pos h1] at f1
      rw [if_pos h2] at f2
      refine ⟨.int (nI 1), I1, J, mvd I1 (40 * a + p) (40 * b + q) 0 m, J, ?_, ?_, ?_⟩
      · rw [fX8_copy]
        simp (disch := omega) only [eX8_copy, xRl, xG1, xG2, kAll, rAll, nAll, List.map_nil, List.map_cons, List.sum_nil, List.sum_cons, Nat.reduceAdd, Nat.reduceSub, Nat.reduceMul, Nat.reduceLeDiff, Nat.reduceEqDiff, Nat.reduceLT, and_true, true_and, and_self, if_true, if_false, ne_eq, not_false_eq_true, not_true_eq_false, or_false, false_or, or_true, true_or, false_and, and_false, reduceIte, reduceCtorEq, xB, ite_not, xretf_zc, xretf_c, xcont_c, xbd, p8_among, z_le, lt_t, nI_neg0, cl_nI, a1, a3, a4, ea, ea2, b1, b3, b4, eb, eb2, p5_isThere, z1, y1, ha' I J z1, hb' I J y1, hp2, hq2]
        rw [xq_copy _ _ _ _ _ _ _ _ _ _ a2 b2 hp hq hm (by show p + m ≤ N0 L (4 + 2 * a); rw [a5]; omega) (by show q + m ≤ N0 L (4 + 2 * b); rw [b5]; omega)]
        show xretf _ (xD tX8_copy (124, _, [], 0, (K0, N0 L, R0, 89), va_up I (4 + 2 * b) (va_cpy (I (4 + 2 * a)) (I (4 + 2 * b)) p q m), J)) = _
        rw [hI1]
        simp (disch := omega) only [eX8_copy, xRl, xG1, xG2, kAll, rAll, nAll, List.map_nil, List.map_cons, List.sum_nil, List.sum_cons, Nat.reduceAdd, Nat.reduceSub, Nat.reduceMul, Nat.reduceLeDiff, Nat.reduceEqDiff, Nat.reduceLT, and_true, true_and, and_self, if_true, if_false, ne_eq, not_false_eq_true, not_true_eq_false, or_false, false_or, or_true, true_or, false_and, and_false, reduceIte, reduceCtorEq, xB, ite_not, xretf_zc, xretf_c, xcont_c, xbd]
      · rw [fX9_copy]
        by_cases hpq : p < q
        · simp (disch := omega) only [eX9_copy, xRl, xG1, xG2, kAll, rAll, nAll, List.map_nil, List.map_cons, List.sum_nil, List.sum_cons, Nat.reduceAdd, Nat.reduceSub, Nat.reduceMul, Nat.reduceLeDiff, Nat.reduceEqDiff, Nat.reduceLT, and_true, true_and, and_self, if_true, if_false, ne_eq, not_false_eq_true, not_true_eq_false, or_false, false_or, or_true, true_or, false_and, and_false, reduceIte, reduceCtorEq, xB, ite_not, xretf_zc, xretf_c, xcont_c, xbd, p9_isRow, z_le, lt_t, nI_neg0, cl_nI, g1, g2, nI_ltI, nI_leI, Nat.not_lt_zero, Nat.zero_le, f1, f2]
          first | rw [if_neg (show ¬ q ≤ p by omega)] | rw [if_pos hpq]
          have key := xloop (t := tX9_copy) (st := fun k (_ : Unit) => (96, [.ref 77, .int (nI a), .int (nI p), .int (nI b), .int (nI q), .int (nI m), .int (nI 1), .int (nI k), (if k = 0 then .null else .int (nI (m - k)))], [], 0, S0 L (mvd I1 (40 * a + p) (40 * b + q) (m - k) m) J)) (g := fun _ _ => ()) (N := m) (Inv := fun _ _ => True) (a0 := ()) trivial (by
            intro k u hk _
            refine ⟨?_, trivial⟩
            have e9 : mvd I1 (40 * a + p) (40 * b + q) (m - k) m 80 (40 * a + p + (m - 1 - k)) = I1 80 (40 * a + p + (m - 1 - k)) := mvd_at I1 _ _ _ _ _ (by omega)
            obtain ⟨w, hw, hw2⟩ : ∃ w : Value, (if k = 0 then .null else .int (nI (m - k))) = w ∧ (w = .null ∨ ∃ z, w = .int z) := ⟨_, rfl, by split <;> simp⟩
            show xD tX9_copy (96, [_, _, _, _, _, _, _, _, (if k = 0 then .null else .int (nI (m - k)))], _) = _
            have e10 := mvd_dn I1 (40 * a + p) (40 * b + q) (m - 1 - k) m (by omega)
            rw [show m - 1 - k + 1 = m - k by omega] at e10
            rw [hw, if_neg (show ¬ k + 1 = 0 by omega), show m - (k + 1) = m - 1 - k by omega, ← e10]
            rcases hw2 with rfl | ⟨z, rfl⟩
            · rw [hX9_copy_96]
              simp (disch := omega) only [eX9_copy, xRl, xG1, xG2, kAll, rAll, nAll, List.map_nil, List.map_cons, List.sum_nil, List.sum_cons, Nat.reduceAdd, Nat.reduceSub, Nat.reduceMul, Nat.reduceLeDiff, Nat.reduceEqDiff, Nat.reduceLT, and_true, true_and, and_self, if_true, if_false, ne_eq, not_false_eq_true, not_true_eq_false, or_false, false_or, or_true, true_or, false_and, and_false, reduceIte, reduceCtorEq, xB, ite_not, xretf_zc, xretf_c, xcont_c, xbd, nI_leI, nI_neg0, cl_nI, pk_sub, nI_add, pk_mul, e9]
              rw [if_neg (by omega)]
            · rw [hX9_copy_96]
              simp (disch := omega) only [eX9_copy, xRl, xG1, xG2, kAll, rAll, nAll, List.map_nil, List.map_cons, List.sum_nil, List.sum_cons, Nat.reduceAdd, Nat.reduceSub, Nat.reduceMul, Nat.reduceLeDiff, Nat.reduceEqDiff, Nat.reduceLT, and_true, true_and, and_self, if_true, if_false, ne_eq, not_false_eq_true, not_true_eq_false, or_false, false_or, or_true, true_or, false_and, and_false, reduceIte, reduceCtorEq, xB, ite_not, xretf_zc, xretf_c, xcont_c, xbd, nI_leI, nI_neg0, cl_nI, pk_sub, nI_add, pk_mul, e9]
              rw [if_neg (by omega)]) m (Nat.le_refl m)
          have k0 := key.1
          simp only [Nat.sub_zero, mvd_0, if_true, Nat.sub_self] at k0
          rw [k0, hX9_copy_96]
          simp (disch := omega) only [eX9_copy, xRl, xG1, xG2, kAll, rAll, nAll, List.map_nil, List.map_cons, List.sum_nil, List.sum_cons, Nat.reduceAdd, Nat.reduceSub, Nat.reduceMul, Nat.reduceLeDiff, Nat.reduceEqDiff, Nat.reduceLT, and_true, true_and, and_self, if_true, if_false, ne_eq, not_false_eq_true, not_true_eq_false, or_false, false_or, or_true, true_or, false_and, and_false, reduceIte, reduceCtorEq, xB, ite_not, xretf_zc, xretf_c, xcont_c, xbd, nI_leI]
          rw [if_pos (Nat.le_refl m)]
        · simp (disch := omega) only [eX9_copy, xRl, xG1, xG2, kAll, rAll, nAll, List.map_nil, List.map_cons, List.sum_nil, List.sum_cons, Nat.reduceAdd, Nat.reduceSub, Nat.reduceMul, Nat.reduceLeDiff, Nat.reduceEqDiff, Nat.reduceLT, and_true, true_and, and_self, if_true, if_false, ne_eq, not_false_eq_true, not_true_eq_false, or_false, false_or, or_true, true_or, false_and, and_false, reduceIte, reduceCtorEq, xB, ite_not, xretf_zc, xretf_c, xcont_c, xbd, p9_isRow, z_le, lt_t, nI_neg0, cl_nI, g1, g2, nI_ltI, nI_leI, Nat.not_lt_zero, Nat.zero_le, f1, f2]
          first | rw [if_pos (show q ≤ p by omega)] | rw [if_neg hpq]
          have key := xloop (t := tX9_copy) (st := fun k (_ : Unit) => (96, [.ref 77, .int (nI a), .int (nI p), .int (nI b), .int (nI q), .int (nI m), .int (nI 0), .int (nI k), (if k = 0 then .null else .int (nI (k - 1)))], [], 0, S0 L (mvd I1 (40 * a + p) (40 * b + q) 0 k) J)) (g := fun _ _ => ()) (N := m) (Inv := fun _ _ => True) (a0 := ()) trivial (by
            intro k u hk _
            refine ⟨?_, trivial⟩
            have e9 : mvd I1 (40 * a + p) (40 * b + q) 0 k 80 (40 * a + p + k) = I1 80 (40 * a + p + k) := mvd_at I1 _ _ _ _ _ (by omega)
            obtain ⟨w, hw, hw2⟩ : ∃ w : Value, (if k = 0 then .null else .int (nI (k - 1))) = w ∧ (w = .null ∨ ∃ z, w = .int z) := ⟨_, rfl, by split <;> simp⟩
            show xD tX9_copy (96, [_, _, _, _, _, _, _, _, (if k = 0 then .null else .int (nI (k - 1)))], _) = _
            have e10 := mvd_up I1 (40 * a + p) (40 * b + q) 0 k (by omega)
            rw [hw, if_neg (show ¬ k + 1 = 0 by omega), Nat.add_sub_cancel, ← e10]
            rcases hw2 with rfl | ⟨z, rfl⟩
            · rw [hX9_copy_96]
              simp (disch := omega) only [eX9_copy, xRl, xG1, xG2, kAll, rAll, nAll, List.map_nil, List.map_cons, List.sum_nil, List.sum_cons, Nat.reduceAdd, Nat.reduceSub, Nat.reduceMul, Nat.reduceLeDiff, Nat.reduceEqDiff, Nat.reduceLT, and_true, true_and, and_self, if_true, if_false, ne_eq, not_false_eq_true, not_true_eq_false, or_false, false_or, or_true, true_or, false_and, and_false, reduceIte, reduceCtorEq, xB, ite_not, xretf_zc, xretf_c, xcont_c, xbd, nI_leI, nI_neg0, cl_nI, pk_sub, nI_add, pk_mul, e9]
              rw [if_neg (by omega)]
            · rw [hX9_copy_96]
              simp (disch := omega) only [eX9_copy, xRl, xG1, xG2, kAll, rAll, nAll, List.map_nil, List.map_cons, List.sum_nil, List.sum_cons, Nat.reduceAdd, Nat.reduceSub, Nat.reduceMul, Nat.reduceLeDiff, Nat.reduceEqDiff, Nat.reduceLT, and_true, true_and, and_self, if_true, if_false, ne_eq, not_false_eq_true, not_true_eq_false, or_false, false_or, or_true, true_or, false_and, and_false, reduceIte, reduceCtorEq, xB, ite_not, xretf_zc, xretf_c, xcont_c, xbd, nI_leI, nI_neg0, cl_nI, pk_sub, nI_add, pk_mul, e9]
              rw [if_neg (by omega)]) m (Nat.le_refl m)
          have k0 := key.1
          simp only [mvd_0, if_true] at k0
          rw [k0, hX9_copy_96]
          simp (disch := omega) only [eX9_copy, xRl, xG1, xG2, kAll, rAll, nAll, List.map_nil, List.map_cons, List.sum_nil, List.sum_cons, Nat.reduceAdd, Nat.reduceSub, Nat.reduceMul, Nat.reduceLeDiff, Nat.reduceEqDiff, Nat.reduceLT, and_true, true_and, and_self, if_true, if_false, ne_eq, not_false_eq_true, not_true_eq_false, or_false, false_or, or_true, true_or, false_and, and_false, reduceIte, reduceCtorEq, xB, ite_not, xretf_zc, xretf_c, xcont_c, xbd, nI_leI]
          rw [if_pos (Nat.le_refl m)]
      · refine Cp_rows h (fun c c1 c2 c3 => by rw [mvd_ne _ _ _ _ _ c3, g0 c (by omega)]) (fun w hw => ?_)
        obtain ⟨h1, h2, h3⟩ := h.1 w hw
        rw [mvd_ne _ _ _ _ _ (show 3 + 2 * w ≠ 80 by omega), mvd_ne _ _ _ _ _ (show 79 ≠ 80 by omega), mvd_ne _ _ _ _ _ (show 4 + 2 * w ≠ 80 by omega), g0 (3 + 2 * w) (by omega), g0 79 (by omega)]
        refine ⟨h1, h2, fun x hx => ?_⟩
        by_cases hwb : w = b
        · subst hwb
          have e1 : I1 (4 + 2 * w) x = va_cpy (I (4 + 2 * a)) (I (4 + 2 * w)) p q m x := by rw [← hI1, va_up_self]
          rw [e1]
          unfold va_cpy mvd
          by_cases hx2 : q ≤ x ∧ x < q + m
          · rw [if_pos hx2, if_pos (by omega), g0 80 (by omega), (h.1 a ha).2.2 (p + (x - q)) (by omega)]
            congr 1
            omega
          · rw [if_neg hx2, if_neg (by omega), g0 80 (by omega)]
            exact h3 x hx
        · rw [g0 (4 + 2 * w) (by omega), mvd_at _ _ _ _ _ _ (by omega), g0 80 (by omega)]
          exact h3 x hx
    · exact hbey (fun q => h2 q.2)
  · exact hbey (fun q => h1 q.1)
end C1
