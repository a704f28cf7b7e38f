theorem row_cases {I : Nat → Nat → Int32} (h : CpR I) (r : Int32) : ¬ (nI 0 ≤ r ∧ r < nI 6) ∨ ∃ j, j < 6 ∧ r = nI j ∧ ((I (3 + 2 * j) 1 = -1 ∧ I 79 j = -1) ∨ ∃ m, m ≤ 40 ∧ I (3 + 2 * j) 1 = nI m ∧ I 79 j = nI m) := by
  by_cases hr : nI 0 ≤ r ∧ r < nI 6
  · obtain ⟨j, hj, rfl⟩ := (Am_iff (by decide)).mp hr
    obtain ⟨h1, h2, -⟩ := h j hj
    refine Or.inr ⟨j, hj, rfl, ?_⟩
    rcases h2 with h2 | ⟨m, hm, h2⟩
    · exact Or.inl ⟨h1.trans h2, h2⟩
    · exact Or.inr ⟨m, hm, h1.trans h2, h2⟩
  · exact Or.inl hr
theorem m1_ge : (nI 0 ≤ (-1 : Int32)) ↔ False := by decide
theorem m1_lt : ((-1 : Int32) < nI 0) ↔ True := by decide
theorem m1_0 : ((-1 : Int32) = nI 0) ↔ False := by decide
theorem m3_0 : ((-3 : Int32) = nI 0) ↔ False := by decide
theorem nI_r {j n : Nat} (hj : j < n) (hn : n < 2 ^ 31) : (nI 0 ≤ nI j ∧ nI j < nI n) ↔ True := ⟨fun _ => trivial, fun _ => ⟨nI_pos' (by omega), nI_lt hj hn⟩⟩
theorem z_le {j : Nat} (hj : j < 2 ^ 31) : (nI 0 ≤ nI j) ↔ True := ⟨fun _ => trivial, fun _ => nI_pos' hj⟩
theorem lt_t {j n : Nat} (hj : j < n) (hn : n < 2 ^ 31) : (nI j < nI n) ↔ True := ⟨fun _ => trivial, fun _ => nI_lt hj hn⟩
theorem le_m1 {i m : Nat} (h : i < m) (hm : m < 2 ^ 30) : (nI i ≤ nI m - nI 1) ↔ True := ⟨fun _ => trivial, fun _ => by rw [pk_sub (by omega)]; exact nI_le (by omega) (by omega)⟩
theorem xup_comm {α : Type} (f : Nat → Nat → α) {c c' : Nat} (k k' : Nat) (v v' : α) (h : c ≠ c') : xup (xup f c k v) c' k' v' = xup (xup f c' k' v') c k v := by
  funext a b
  simp only [xup]
  by_cases h1 : a = c
  · subst h1; simp [h]
  · by_cases h2 : a = c'
    · subst h2; simp [h1, Ne.symm h]
    · simp [h1, h2]
section RQ
variable (L : Nat) (I : Nat → Nat → Int32) (J : Nat → Nat → Int64)
theorem rr_bad {r : Int32} (hr : ¬ (nI 0 ≤ r ∧ r < nI 6)) : FX8_refusalOfRow [.ref 1, .int r] (S0 L I J) = some (some (.int (-1)), S0 L I J) := by
  rw [fX8_refusalOfRow]
  simp (disch := omega) only [eX8_refusalOfRow, xRl, xG1, xG2, kAll, rAll, nAll, List.map_nil, List.map_cons, List.sum_nil, List.sum_cons, Nat.reduceAdd, Nat.reduceSub, Nat.reduceMul, Nat.reduceLeDiff, Nat.reduceEqDiff, Nat.reduceLT, and_true, true_and, and_self, if_true, if_false, ne_eq, not_false_eq_true, not_true_eq_false, or_false, false_or, or_true, true_or, false_and, and_false, reduceIte, reduceCtorEq, xB, ite_not, xretf_zc, xretf_c, xcont_c, xbd, p8_among, hr]
theorem rr_none {j : Nat} (hj : j < 6) (hz : I (3 + 2 * j) 1 = -1) : FX8_refusalOfRow [.ref 1, .int (nI j)] (S0 L I J) = some (some (.int (-3)), S0 L (fnC I 1) J) := by
  rw [fX8_refusalOfRow]
  obtain ⟨k1, k2, k3, k4⟩ := kRow j hj
  have e : ¬ 3 + 2 * j = 0 := by omega
  simp (disch := omega) only [eX8_refusalOfRow, xRl, xG1, xG2, kAll, rAll, nAll, List.map_nil, List.map_cons, List.sum_nil, List.sum_cons, Nat.reduceAdd, Nat.reduceSub, Nat.reduceMul, Nat.reduceLeDiff, Nat.reduceEqDiff, Nat.reduceLT, and_true, true_and, and_self, if_true, if_false, ne_eq, not_false_eq_true, not_true_eq_false, or_false, false_or, or_true, true_or, false_and, and_false, reduceIte, reduceCtorEq, xB, ite_not, xretf_zc, xretf_c, xcont_c, xbd, p8_among, z_le, lt_t, k1, k3, e, nI_neg0, cl_nI, p5_isThere, hz, m1_ge, p8_findingOf]
theorem rr_ok {j m : Nat} (hj : j < 6) (hm : m ≤ 40) (hz : I (3 + 2 * j) 1 = nI m) : FX8_refusalOfRow [.ref 1, .int (nI j)] (S0 L I J) = some (some (.int (nI 0)), S0 L I J) := by
  rw [fX8_refusalOfRow]
  obtain ⟨k1, k2, k3, k4⟩ := kRow j hj
  have e : ¬ 3 + 2 * j = 0 := by omega
  simp (disch := omega) only [eX8_refusalOfRow, xRl, xG1, xG2, kAll, rAll, nAll, List.map_nil, List.map_cons, List.sum_nil, List.sum_cons, Nat.reduceAdd, Nat.reduceSub, Nat.reduceMul, Nat.reduceLeDiff, Nat.reduceEqDiff, Nat.reduceLT, and_true, true_and, and_self, if_true, if_false, ne_eq, not_false_eq_true, not_true_eq_false, or_false, false_or, or_true, true_or, false_and, and_false, reduceIte, reduceCtorEq, xB, ite_not, xretf_zc, xretf_c, xcont_c, xbd, p8_among, z_le, lt_t, k1, k3, e, nI_neg0, cl_nI, p5_isThere, hz, z_le]
theorem rp_bad {r i : Int32} (hr : ¬ (nI 0 ≤ r ∧ r < nI 6)) : FX8_refusalOfPlace [.ref 1, .int r, .int i] (S0 L I J) = some (some (.int (-1)), S0 L I J) := by
  rw [fX8_refusalOfPlace]
  simp (disch := omega) only [eX8_refusalOfPlace, xRl, xG1, xG2, kAll, rAll, nAll, List.map_nil, List.map_cons, List.sum_nil, List.sum_cons, Nat.reduceAdd, Nat.reduceSub, Nat.reduceMul, Nat.reduceLeDiff, Nat.reduceEqDiff, Nat.reduceLT, and_true, true_and, and_self, if_true, if_false, ne_eq, not_false_eq_true, not_true_eq_false, or_false, false_or, or_true, true_or, false_and, and_false, reduceIte, reduceCtorEq, xB, ite_not, xretf_zc, xretf_c, xcont_c, xbd, rr_bad L I J hr, m1_0]
theorem rp_none {j : Nat} {i : Int32} (hj : j < 6) (hz : I (3 + 2 * j) 1 = -1) : FX8_refusalOfPlace [.ref 1, .int (nI j), .int i] (S0 L I J) = some (some (.int (-3)), S0 L (fnC I 1) J) := by
  rw [fX8_refusalOfPlace]
  simp (disch := omega) only [eX8_refusalOfPlace, xRl, xG1, xG2, kAll, rAll, nAll, List.map_nil, List.map_cons, List.sum_nil, List.sum_cons, Nat.reduceAdd, Nat.reduceSub, Nat.reduceMul, Nat.reduceLeDiff, Nat.reduceEqDiff, Nat.reduceLT, and_true, true_and, and_self, if_true, if_false, ne_eq, not_false_eq_true, not_true_eq_false, or_false, false_or, or_true, true_or, false_and, and_false, reduceIte, reduceCtorEq, xB, ite_not, xretf_zc, xretf_c, xcont_c, xbd, rr_none L I J hj hz, m3_0]
theorem rp_out {j m : Nat} {i : Int32} (hj : j < 6) (hm : m ≤ 40) (hz : I (3 + 2 * j) 1 = nI m) (hi : ¬ (nI 0 ≤ i ∧ i < nI m)) : FX8_refusalOfPlace [.ref 1, .int (nI j), .int i] (S0 L I J) = some (some (.int (-3)), S0 L (fnC I 2) J) := by
  rw [fX8_refusalOfPlace]
  obtain ⟨k1, k2, k3, k4⟩ := kRow j hj
  have e : ¬ 3 + 2 * j = 0 := by omega
  simp (disch := omega) only [eX8_refusalOfPlace, xRl, xG1, xG2, kAll, rAll, nAll, List.map_nil, List.map_cons, List.sum_nil, List.sum_cons, Nat.reduceAdd, Nat.reduceSub, Nat.reduceMul, Nat.reduceLeDiff, Nat.reduceEqDiff, Nat.reduceLT, and_true, true_and, and_self, if_true, if_false, ne_eq, not_false_eq_true, not_true_eq_false, or_false, false_or, or_true, true_or, false_and, and_false, reduceIte, reduceCtorEq, xB, ite_not, xretf_zc, xretf_c, xcont_c, xbd, rr_ok L I J hj hm hz, p8_among, k1, k3, e, nI_neg0, cl_nI, hz, hi, p8_findingOf]
theorem rp_ok {j m i : Nat} (hj : j < 6) (hm : m ≤ 40) (hz : I (3 + 2 * j) 1 = nI m) (hi : i < m) : FX8_refusalOfPlace [.ref 1, .int (nI j), .int (nI i)] (S0 L I J) = some (some (.int (nI 0)), S0 L I J) := by
  rw [fX8_refusalOfPlace]
  obtain ⟨k1, k2, k3, k4⟩ := kRow j hj
  have e : ¬ 3 + 2 * j = 0 := by omega
  simp (disch := omega) only [eX8_refusalOfPlace, xRl, xG1, xG2, kAll, rAll, nAll, List.map_nil, List.map_cons, List.sum_nil, List.sum_cons, Nat.reduceAdd, Nat.reduceSub, Nat.reduceMul, Nat.reduceLeDiff, Nat.reduceEqDiff, Nat.reduceLT, and_true, true_and, and_self, if_true, if_false, ne_eq, not_false_eq_true, not_true_eq_false, or_false, false_or, or_true, true_or, false_and, and_false, reduceIte, reduceCtorEq, xB, ite_not, xretf_zc, xretf_c, xcont_c, xbd, rr_ok L I J hj hm hz, p8_among, k1, k3, e, nI_neg0, cl_nI, hz, z_le, lt_t]
theorem rf_bad {r i : Int32} (hr : ¬ (nI 0 ≤ r ∧ r < nI 6)) : FX9_refused [.ref 77, .int r, .int i] (S0 L I J) = some (some (.int (-1)), S0 L I J) := by
  rw [fX9_refused]
  simp (disch := omega) only [eX9_refused, xRl, xG1, xG2, kAll, rAll, nAll, List.map_nil, List.map_cons, List.sum_nil, List.sum_cons, Nat.reduceAdd, Nat.reduceSub, Nat.reduceMul, Nat.reduceLeDiff, Nat.reduceEqDiff, Nat.reduceLT, and_true, true_and, and_self, if_true, if_false, ne_eq, not_false_eq_true, not_true_eq_false, or_false, false_or, or_true, true_or, false_and, and_false, reduceIte, reduceCtorEq, xB, ite_not, xretf_zc, xretf_c, xcont_c, xbd, p9_isRow, hr]
theorem rf_none {j : Nat} {i : Int32} (hj : j < 6) (hz : I 79 j = -1) : FX9_refused [.ref 77, .int (nI j), .int i] (S0 L I J) = some (some (.int (-3)), S0 L (fnM I 1) J) := by
  rw [fX9_refused]
  simp (disch := omega) only [eX9_refused, xRl, xG1, xG2, kAll, rAll, nAll, List.map_nil, List.map_cons, List.sum_nil, List.sum_cons, Nat.reduceAdd, Nat.reduceSub, Nat.reduceMul, Nat.reduceLeDiff, Nat.reduceEqDiff, Nat.reduceLT, and_true, true_and, and_self, if_true, if_false, ne_eq, not_false_eq_true, not_true_eq_false, or_false, false_or, or_true, true_or, false_and, and_false, reduceIte, reduceCtorEq, xB, ite_not, xretf_zc, xretf_c, xcont_c, xbd, p9_isRow, z_le, lt_t, nI_neg0, cl_nI, hz, m1_ge, m1_lt, p9_find]
theorem rf_out {j m : Nat} {i : Int32} (hj : j < 6) (hm : m ≤ 40) (hz : I 79 j = nI m) (hi : ¬ (nI 0 ≤ i ∧ i < nI m)) : FX9_refused [.ref 77, .int (nI j), .int i] (S0 L I J) = some (some (.int (-3)), S0 L (fnM I 2) J) := by
  rw [fX9_refused]
  simp (disch := omega) only [eX9_refused, xRl, xG1, xG2, kAll, rAll, nAll, List.map_nil, List.map_cons, List.sum_nil, List.sum_cons, Nat.reduceAdd, Nat.reduceSub, Nat.reduceMul, Nat.reduceLeDiff, Nat.reduceEqDiff, Nat.reduceLT, and_true, true_and, and_self, if_true, if_false, ne_eq, not_false_eq_true, not_true_eq_false, or_false, false_or, or_true, true_or, false_and, and_false, reduceIte, reduceCtorEq, xB, ite_not, xretf_zc, xretf_c, xcont_c, xbd, p9_isRow, z_le, lt_t, nI_neg0, cl_nI, hz, z_le, p9_inV, lt_m1, hi, p9_find]
theorem rf_ok {j m i : Nat} (hj : j < 6) (hm : m ≤ 40) (hz : I 79 j = nI m) (hi : i < m) : FX9_refused [.ref 77, .int (nI j), .int (nI i)] (S0 L I J) = some (some (.int (nI 0)), S0 L I J) := by
  rw [fX9_refused]
  simp (disch := omega) only [eX9_refused, xRl, xG1, xG2, kAll, rAll, nAll, List.map_nil, List.map_cons, List.sum_nil, List.sum_cons, Nat.reduceAdd, Nat.reduceSub, Nat.reduceMul, Nat.reduceLeDiff, Nat.reduceEqDiff, Nat.reduceLT, and_true, true_and, and_self, if_true, if_false, ne_eq, not_false_eq_true, not_true_eq_false, or_false, false_or, or_true, true_or, false_and, and_false, reduceIte, reduceCtorEq, xB, ite_not, xretf_zc, xretf_c, xcont_c, xbd, p9_isRow, z_le, lt_t, nI_neg0, cl_nI, hz, z_le, lt_t, p9_inV, le_m1]
/-- telling v on both sides -/
theorem Cp_told {I : Nat → Nat → Int32} {J : Nat → Nat → Int64} (h : Cp I J) (v : Int32) : Cp (xup (xup I 1 10 v) 77 5 v) J := by
  refine Cp_gen h (fun c hc => ?_) ?_ ?_ ?_ ?_
  · rw [xup_ne _ _ _ (by omega), xup_ne _ _ _ (by omega)]
  all_goals simp [xup]
theorem pr_at (h : Cp I J) (r i : Int32) : Pair L FX8_at FX9_at [.int r, .int i] I J := by
  rcases row_cases h.1 r with hr | ⟨j, hj, rfl, ⟨z1, z2⟩ | ⟨m, hm, z1, z2⟩⟩
  · refine ⟨.int (-1), I, J, I, J, ?_, ?_, h⟩
    · rw [fX8_at]
      simp (disch := omega) only [eX8_at, xRl, xG1, xG2, kAll, rAll, nAll, List.map_nil, List.map_cons, List.sum_nil, List.sum_cons, Nat.reduceAdd, Nat.reduceSub, Nat.reduceMul, Nat.reduceLeDiff, Nat.reduceEqDiff, Nat.reduceLT, and_true, true_and, and_self, if_true, if_false, ne_eq, not_false_eq_true, not_true_eq_false, or_false, false_or, or_true, true_or, false_and, and_false, reduceIte, reduceCtorEq, xB, ite_not, xretf_zc, xretf_c, xcont_c, xbd, rp_bad L I J hr, m1_0]
    · rw [fX9_at]
      simp (disch := omega) only [eX9_at, xRl, xG1, xG2, kAll, rAll, nAll, List.map_nil, List.map_cons, List.sum_nil, List.sum_cons, Nat.reduceAdd, Nat.reduceSub, Nat.reduceMul, Nat.reduceLeDiff, Nat.reduceEqDiff, Nat.reduceLT, and_true, true_and, and_self, if_true, if_false, ne_eq, not_false_eq_true, not_true_eq_false, or_false, false_or, or_true, true_or, false_and, and_false, reduceIte, reduceCtorEq, xB, ite_not, xretf_zc, xretf_c, xcont_c, xbd, rf_bad L I J hr, m1_0]
  · refine ⟨.int (-3), fnC I 1, J, fnM (fnC I 1) 1, J, ?_, ?_, Cp_find h (by decide)⟩
    · rw [fX8_at]
      simp (disch := omega) only [eX8_at, xRl, xG1, xG2, kAll, rAll, nAll, List.map_nil, List.map_cons, List.sum_nil, List.sum_cons, Nat.reduceAdd, Nat.reduceSub, Nat.reduceMul, Nat.reduceLeDiff, Nat.reduceEqDiff, Nat.reduceLT, and_true, true_and, and_self, if_true, if_false, ne_eq, not_false_eq_true, not_true_eq_false, or_false, false_or, or_true, true_or, false_and, and_false, reduceIte, reduceCtorEq, xB, ite_not, xretf_zc, xretf_c, xcont_c, xbd, rp_none L I J hj z1, m3_0]
    · rw [fX9_at]
      simp (disch := omega) only [eX9_at, xRl, xG1, xG2, kAll, rAll, nAll, List.map_nil, List.map_cons, List.sum_nil, List.sum_cons, Nat.reduceAdd, Nat.reduceSub, Nat.reduceMul, Nat.reduceLeDiff, Nat.reduceEqDiff, Nat.reduceLT, and_true, true_and, and_self, if_true, if_false, ne_eq, not_false_eq_true, not_true_eq_false, or_false, false_or, or_true, true_or, false_and, and_false, reduceIte, reduceCtorEq, xB, ite_not, xretf_zc, xretf_c, xcont_c, xbd, rf_none L (fnC I 1) J hj (show fnC I 1 79 j = -1 by simp [fnC, xup]; exact z2), m3_0]
  · by_cases hi : nI 0 ≤ i ∧ i < nI m
    · obtain ⟨q, hq, rfl⟩ := (Am_iff (by omega)).mp hi
      obtain ⟨k1, k2, k3, k4⟩ := kRow j hj
      have k5 := nRow L j hj
      have e : ¬ 3 + 2 * j = 0 := by omega
      have e2 : ¬ 4 + 2 * j = 0 := by omega
      have hv := (h.1 j hj).2.2 q (by omega)
      refine ⟨.int (nI 1), xup I 1 10 (I (4 + 2 * j) q), J, xup (xup I 1 10 (I (4 + 2 * j) q)) 77 5 (I (4 + 2 * j) q), J, ?_, ?_, Cp_told h _⟩
      · rw [fX8_at]
        simp (disch := omega) only [eX8_at, xRl, xG1, xG2, kAll, rAll, nAll, List.map_nil, List.map_cons, List.sum_nil, List.sum_cons, Nat.reduceAdd, Nat.reduceSub, Nat.reduceMul, Nat.reduceLeDiff, Nat.reduceEqDiff, Nat.reduceLT, and_true, true_and, and_self, if_true, if_false, ne_eq, not_false_eq_true, not_true_eq_false, or_false, false_or, or_true, true_or, false_and, and_false, reduceIte, reduceCtorEq, xB, ite_not, xretf_zc, xretf_c, xcont_c, xbd, rp_ok L I J hj hm z1 hq, k1, k2, k3, k4, k5, e, e2, nI_neg0, cl_nI]
      · rw [fX9_at]
        have e3 : xup I 1 10 (I (4 + 2 * j) q) 80 (40 * j + q) = I (4 + 2 * j) q := by rw [xup_o _ _ _ _ (by decide), hv]
        simp (disch := omega) only [eX9_at, xRl, xG1, xG2, kAll, rAll, nAll, List.map_nil, List.map_cons, List.sum_nil, List.sum_cons, Nat.reduceAdd, Nat.reduceSub, Nat.reduceMul, Nat.reduceLeDiff, Nat.reduceEqDiff, Nat.reduceLT, and_true, true_and, and_self, if_true, if_false, ne_eq, not_false_eq_true, not_true_eq_false, or_false, false_or, or_true, true_or, false_and, and_false, reduceIte, reduceCtorEq, xB, ite_not, xretf_zc, xretf_c, xcont_c, xbd, rf_ok L (xup I 1 10 (I (4 + 2 * j) q)) J hj hm (show xup I 1 10 (I (4 + 2 * j) q) 79 j = nI m by rw [xup_o _ _ _ _ (by decide)]; exact z2) hq, nI_neg0, cl_nI, nI_add, pk_mul, e3, p9_tell]
    · refine ⟨.int (-3), fnC I 2, J, fnM (fnC I 2) 2, J, ?_, ?_, Cp_find h (by decide)⟩
      · rw [fX8_at]
        simp (disch := omega) only [eX8_at, xRl, xG1, xG2, kAll, rAll, nAll, List.map_nil, List.map_cons, List.sum_nil, List.sum_cons, Nat.reduceAdd, Nat.reduceSub, Nat.reduceMul, Nat.reduceLeDiff, Nat.reduceEqDiff, Nat.reduceLT, and_true, true_and, and_self, if_true, if_false, ne_eq, not_false_eq_true, not_true_eq_false, or_false, false_or, or_true, true_or, false_and, and_false, reduceIte, reduceCtorEq, xB, ite_not, xretf_zc, xretf_c, xcont_c, xbd, rp_out L I J hj hm z1 hi, m3_0]
      · rw [fX9_at]
        simp (disch := omega) only [eX9_at, xRl, xG1, xG2, kAll, rAll, nAll, List.map_nil, List.map_cons, List.sum_nil, List.sum_cons, Nat.reduceAdd, Nat.reduceSub, Nat.reduceMul, Nat.reduceLeDiff, Nat.reduceEqDiff, Nat.reduceLT, and_true, true_and, and_self, if_true, if_false, ne_eq, not_false_eq_true, not_true_eq_false, or_false, false_or, or_true, true_or, false_and, and_false, reduceIte, reduceCtorEq, xB, ite_not, xretf_zc, xretf_c, xcont_c, xbd, rf_out L (fnC I 2) J hj hm (show fnC I 2 79 j = nI m by simp [fnC, xup]; exact z2) hi, m3_0]
/-- one place of a row, on both sides -/
theorem CpR_lay {I : Nat → Nat → Int32} (h : CpR I) {j q : Nat} (hj : j < 6) (hq : q < 40) (v : Int32) : CpR (xup (xup I (4 + 2 * j) q v) 80 (40 * j + q) v) := by
  intro a ha
  obtain ⟨h1, h2, h3⟩ := h a ha
  rw [xup_ne (a := 3 + 2 * a) _ _ _ (by omega), xup_ne (a := 3 + 2 * a) _ _ _ (by omega), xup_ne (a := 79) _ _ _ (by omega), xup_ne (a := 79) _ _ _ (by omega)]
  refine ⟨h1, h2, fun i hi => ?_⟩
  rw [xup_ne (a := 4 + 2 * a) _ _ _ (by omega), xup_self]
  by_cases haj : a = j
  · subst haj
    rw [xup_self]
    by_cases hqi : i = q
    · subst hqi; simp
    · rw [if_neg hqi, if_neg (by omega), xup_ne _ _ _ (by omega)]
      exact h3 i hi
  · rw [xup_ne _ _ _ (by omega), if_neg (by omega), xup_ne _ _ _ (by omega)]
    exact h3 i hi
theorem pr_lay (h : Cp I J) (r i v : Int32) : Pair L FX8_lay FX9_lay [.int r, .int i, .int v] I J := by
  rcases row_cases h.1 r with hr | ⟨j, hj, rfl, ⟨z1, z2⟩ | ⟨m, hm, z1, z2⟩⟩
  · refine ⟨.int (-1), I, J, I, J, ?_, ?_, h⟩
    · rw [fX8_lay]
      simp (disch := omega) only [eX8_lay, xRl, xG1, xG2, kAll, rAll, nAll, List.map_nil, List.map_cons, List.sum_nil, List.sum_cons, Nat.reduceAdd, Nat.reduceSub, Nat.reduceMul, Nat.reduceLeDiff, Nat.reduceEqDiff, Nat.reduceLT, and_true, true_and, and_self, if_true, if_false, ne_eq, not_false_eq_true, not_true_eq_false, or_false, false_or, or_true, true_or, false_and, and_false, reduceIte, reduceCtorEq, xB, ite_not, xretf_zc, xretf_c, xcont_c, xbd, rp_bad L I J hr, m1_0]
    · rw [fX9_lay]
      simp (disch := omega) only [eX9_lay, xRl, xG1, xG2, kAll, rAll, nAll, List.map_nil, List.map_cons, List.sum_nil, List.sum_cons, Nat.reduceAdd, Nat.reduceSub, Nat.reduceMul, Nat.reduceLeDiff, Nat.reduceEqDiff, Nat.reduceLT, and_true, true_and, and_self, if_true, if_false, ne_eq, not_false_eq_true, not_true_eq_false, or_false, false_or, or_true, true_or, false_and, and_false, reduceIte, reduceCtorEq, xB, ite_not, xretf_zc, xretf_c, xcont_c, xbd, rf_bad L I J hr, m1_0]
  · refine ⟨.int (-3), fnC I 1, J, fnM (fnC I 1) 1, J, ?_, ?_, Cp_find h (by decide)⟩
    · rw [fX8_lay]
      simp (disch := omega) only [eX8_lay, xRl, xG1, xG2, kAll, rAll, nAll, List.map_nil, List.map_cons, List.sum_nil, List.sum_cons, Nat.reduceAdd, Nat.reduceSub, Nat.reduceMul, Nat.reduceLeDiff, Nat.reduceEqDiff, Nat.reduceLT, and_true, true_and, and_self, if_true, if_false, ne_eq, not_false_eq_true, not_true_eq_false, or_false, false_or, or_true, true_or, false_and, and_false, reduceIte, reduceCtorEq, xB, ite_not, xretf_zc, xretf_c, xcont_c, xbd, rp_none L I J hj z1, m3_0]
    · rw [fX9_lay]
      simp (disch := omega) only [eX9_lay, xRl, xG1, xG2, kAll, rAll, nAll, List.map_nil, List.map_cons, List.sum_nil, List.sum_cons, Nat.reduceAdd, Nat.reduceSub, Nat.reduceMul, Nat.reduceLeDiff, Nat.reduceEqDiff, Nat.reduceLT, and_true, true_and, and_self, if_true, if_false, ne_eq, not_false_eq_true, not_true_eq_false, or_false, false_or, or_true, true_or, false_and, and_false, reduceIte, reduceCtorEq, xB, ite_not, xretf_zc, xretf_c, xcont_c, xbd, rf_none L (fnC I 1) J hj (show fnC I 1 79 j = -1 by simp [fnC, xup]; exact z2), m3_0]
  · by_cases hi : nI 0 ≤ i ∧ i < nI m
    · obtain ⟨q, hq, rfl⟩ := (Am_iff (by omega)).mp hi
      obtain ⟨k1, k2, k3, k4⟩ := kRow j hj
      have k5 := nRow L j hj
      have e : ¬ 3 + 2 * j = 0 := by omega
      have e2 : ¬ 4 + 2 * j = 0 := by omega
      have hv := (h.1 j hj).2.2 q (by omega)
      generalize hI1 : xup (xup I 1 10 (I (4 + 2 * j) q)) (4 + 2 * j) q v = I1
      have e4 : I1 79 j = nI m := by rw [← hI1, xup_o _ _ _ _ (by omega), xup_o _ _ _ _ (by omega)]; exact z2
      have e3 : I1 80 (40 * j + q) = I (4 + 2 * j) q := by rw [← hI1, xup_o _ _ _ _ (by omega), xup_o _ _ _ _ (by omega), hv]
      refine ⟨.int (nI 1), I1, J, xup (xup I1 80 (40 * j + q) v) 77 5 (I (4 + 2 * j) q), J, ?_, ?_, ?_⟩
      · rw [fX8_lay]
        simp (disch := omega) only [eX8_lay, xRl, xG1, xG2, kAll, rAll, nAll, List.map_nil, List.map_cons, List.sum_nil, List.sum_cons, Nat.reduceAdd, Nat.reduceSub, Nat.reduceMul, Nat.reduceLeDiff, Nat.reduceEqDiff, Nat.reduceLT, and_true, true_and, and_self, if_true, if_false, ne_eq, not_false_eq_true, not_true_eq_false, or_false, false_or, or_true, true_or, false_and, and_false, reduceIte, reduceCtorEq, xB, ite_not, xretf_zc, xretf_c, xcont_c, xbd, rp_ok L I J hj hm z1 hq, k1, k2, k3, k4, k5, e, e2, nI_neg0, cl_nI]
        rw [hI1]
      · rw [fX9_lay]
        simp (disch := omega) only [eX9_lay, xRl, xG1, xG2, kAll, rAll, nAll, List.map_nil, List.map_cons, List.sum_nil, List.sum_cons, Nat.reduceAdd, Nat.reduceSub, Nat.reduceMul, Nat.reduceLeDiff, Nat.reduceEqDiff, Nat.reduceLT, and_true, true_and, and_self, if_true, if_false, ne_eq, not_false_eq_true, not_true_eq_false, or_false, false_or, or_true, true_or, false_and, and_false, reduceIte, reduceCtorEq, xB, ite_not, xretf_zc, xretf_c, xcont_c, xbd, rf_ok L I1 J hj hm e4 hq, nI_neg0, cl_nI, nI_add, pk_mul, e3, p9_tell]
      · have c1 : Cp (xup (xup I (4 + 2 * j) q v) 80 (40 * j + q) v) J := Cp_rows h (fun c g1 g2 g3 => by rw [xup_ne _ _ _ (by omega), xup_ne _ _ _ (by omega)]) (CpR_lay h.1 hj (by omega) v)
        have c2 := Cp_told c1 (I (4 + 2 * j) q)
        have e5 : xup (xup I1 80 (40 * j + q) v) 77 5 (I (4 + 2 * j) q) = xup (xup (xup (xup I (4 + 2 * j) q v) 80 (40 * j + q) v) 1 10 (I (4 + 2 * j) q)) 77 5 (I (4 + 2 * j) q) := by
          rw [← hI1, xup_comm (xup (xup I (4 + 2 * j) q v) 80 (40 * j + q) v) 10 5 _ _ (by decide)]
          rw [xup_comm I 10 q _ v (show (1 : Nat) ≠ 4 + 2 * j by omega), xup_comm _ 10 (40 * j + q) _ v (show (1 : Nat) ≠ 80 by decide), xup_comm _ 10 5 _ _ (show (1 : Nat) ≠ 77 by decide)]
        rw [e5]
        exact c2
    · refine ⟨.int (-3), fnC I 2, J, fnM (fnC I 2) 2, J, ?_, ?_, Cp_find h (by decide)⟩
      · rw [fX8_lay]
        simp (disch := omega) only [eX8_lay, xRl, xG1, xG2, kAll, rAll, nAll, List.map_nil, List.map_cons, List.sum_nil, List.sum_cons, Nat.reduceAdd, Nat.reduceSub, Nat.reduceMul, Nat.reduceLeDiff, Nat.reduceEqDiff, Nat.reduceLT, and_true, true_and, and_self, if_true, if_false, ne_eq, not_false_eq_true, not_true_eq_false, or_false, false_or, or_true, true_or, false_and, and_false, reduceIte, reduceCtorEq, xB, ite_not, xretf_zc, xretf_c, xcont_c, xbd, rp_out L I J hj hm z1 hi, m3_0]
      · rw [fX9_lay]
        simp (disch := omega) only [eX9_lay, xRl, xG1, xG2, kAll, rAll, nAll, List.map_nil, List.map_cons, List.sum_nil, List.sum_cons, Nat.reduceAdd, Nat.reduceSub, Nat.reduceMul, Nat.reduceLeDiff, Nat.reduceEqDiff, Nat.reduceLT, and_true, true_and, and_self, if_true, if_false, ne_eq, not_false_eq_true, not_true_eq_false, or_false, false_or, or_true, true_or, false_and, and_false, reduceIte, reduceCtorEq, xB, ite_not, xretf_zc, xretf_c, xcont_c, xbd, rf_out L (fnC I 2) J hj hm (show fnC I 2 79 j = nI m by simp [fnC, xup]; exact z2) hi, m3_0]
end RQ
