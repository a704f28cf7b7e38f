/-! judged -/
section JD
variable (L : Nat) (I : Nat → Nat → Int32) (J : Nat → Nat → Int64)
theorem p8_saysAlike {e f : Nat} (he : e < 2 ^ 31) (hf : f < 2 ^ 31) (σ : xS) : FX8_saysAlike [.int (nI e), .int (nI f)] σ = some (some (.int (if f ≤ e then nI 1 else nI 0)), σ) := by
  rw [fX8_saysAlike]
  simp (disch := omega) only [eX8_saysAlike, xRl, xG1, xG2, kAll, rAll, nAll, List.map_nil, List.map_cons, List.sum_nil, List.sum_cons, Nat.reduceAdd, Nat.reduceSub, Nat.reduceMul, Nat.reduceLeDiff, Nat.reduceEqDiff, Nat.reduceLT, and_true, true_and, and_self, if_true, if_false, ne_eq, not_false_eq_true, not_true_eq_false, or_false, false_or, or_true, true_or, false_and, and_false, reduceIte, reduceCtorEq, xB, ite_not, xretf_zc, xretf_c, xcont_c, xbd, nI_leI, nI_ltI]
  by_cases h : f ≤ e
  · rw [if_pos h, if_neg (by omega)]
  · rw [if_neg h, if_pos (by omega)]
theorem p9_areEyes {j : Nat} (hj : j < 6) : FX9_areEyes [.ref 77, .int (nI j)] (S0 L I J) = some (some (.int (if okR (fun i => I 80 (40 * j + i)) 16 3 = true then nI 1 else nI 0)), S0 L I J) := by
  rw [fX9_areEyes]
  simp (disch := omega) only [eX9_areEyes, xRl, xG1, xG2, kAll, rAll, nAll, List.map_nil, List.map_cons, List.sum_nil, List.sum_cons, Nat.reduceAdd, Nat.reduceSub, Nat.reduceMul, Nat.reduceLeDiff, Nat.reduceEqDiff, Nat.reduceLT, and_true, true_and, and_self, if_true, if_false, ne_eq, not_false_eq_true, not_true_eq_false, or_false, false_or, or_true, true_or, false_and, and_false, reduceIte, reduceCtorEq, xB, ite_not, xretf_zc, xretf_c, xcont_c, xbd]
  have key := xloop (t := tX9_areEyes) (st := fun i (_ : Unit) => (4, [.ref 77, .int (nI j), .int (if okR (fun i => I 80 (40 * j + i)) 16 i = true then nI 1 else nI 0), .int (nI i)], [], 0, S0 L I J)) (g := fun _ _ => ()) (N := 3) (Inv := fun _ _ => True) (a0 := ()) trivial (by
    intro i u hi _
    refine ⟨?_, trivial⟩
    have e1 : okR (fun i => I 80 (40 * j + i)) 16 (i + 1) = (okR (fun i => I 80 (40 * j + i)) 16 i && decide (nI 0 ≤ I 80 (40 * j + i) ∧ I 80 (40 * j + i) < nI 16)) := by
      unfold okR
      rw [cnt_snoc, Nat.zero_add]
      by_cases hv : nI 0 ≤ I 80 (40 * j + i) ∧ I 80 (40 * j + i) < nI 16
      · simp [hv]
      · simp [hv]
    show xD tX9_areEyes (4, [_, _, .int (if okR (fun i => I 80 (40 * j + i)) 16 i = true then nI 1 else nI 0), _], _) = xD tX9_areEyes (_, [_, _, .int (if okR (fun i => I 80 (40 * j + i)) 16 (i + 1) = true then nI 1 else nI 0), _], _)
    rw [hX9_areEyes_4, e1]
    by_cases ho : okR (fun i => I 80 (40 * j + i)) 16 i = true
    · by_cases hv : nI 0 ≤ I 80 (40 * j + i) ∧ I 80 (40 * j + i) < nI 16
      · simp (disch := omega) only [eX9_areEyes, xRl, xG1, xG2, kAll, rAll, nAll, List.map_nil, List.map_cons, List.sum_nil, List.sum_cons, Nat.reduceAdd, Nat.reduceSub, Nat.reduceMul, Nat.reduceLeDiff, Nat.reduceEqDiff, Nat.reduceLT, and_true, true_and, and_self, if_true, if_false, ne_eq, not_false_eq_true, not_true_eq_false, or_false, false_or, or_true, true_or, false_and, and_false, reduceIte, reduceCtorEq, xB, ite_not, xretf_zc, xretf_c, xcont_c, xbd, nI_leI, nI_neg0, cl_nI, pk_mul, nI_add, p9_inL, hv, ho]
        rw [if_neg (by omega)]
        simp
      · simp (disch := omega) only [eX9_areEyes, xRl, xG1, xG2, kAll, rAll, nAll, List.map_nil, List.map_cons, List.sum_nil, List.sum_cons, Nat.reduceAdd, Nat.reduceSub, Nat.reduceMul, Nat.reduceLeDiff, Nat.reduceEqDiff, Nat.reduceLT, and_true, true_and, and_self, if_true, if_false, ne_eq, not_false_eq_true, not_true_eq_false, or_false, false_or, or_true, true_or, false_and, and_false, reduceIte, reduceCtorEq, xB, ite_not, xretf_zc, xretf_c, xcont_c, xbd, nI_leI, nI_neg0, cl_nI, pk_mul, nI_add, p9_inL, hv, ho]
        rw [if_neg (by omega)]
        simp
    · simp (disch := omega) only [eX9_areEyes, xRl, xG1, xG2, kAll, rAll, nAll, List.map_nil, List.map_cons, List.sum_nil, List.sum_cons, Nat.reduceAdd, Nat.reduceSub, Nat.reduceMul, Nat.reduceLeDiff, Nat.reduceEqDiff, Nat.reduceLT, and_true, true_and, and_self, if_true, if_false, ne_eq, not_false_eq_true, not_true_eq_false, or_false, false_or, or_true, true_or, false_and, and_false, reduceIte, reduceCtorEq, xB, ite_not, xretf_zc, xretf_c, xcont_c, xbd, nI_leI, nI_neg0, cl_nI, pk_mul, nI_add, ho]
      rw [if_neg (by omega)]
      simp) 3 (Nat.le_refl 3)
  rw [show xD tX9_areEyes (4, [.ref 77, .int (nI j), .int (nI 1), .int (nI 0)], [], 0, S0 L I J) = _ from key.1, hX9_areEyes_4]
  simp (disch := omega) only [eX9_areEyes, xRl, xG1, xG2, kAll, rAll, nAll, List.map_nil, List.map_cons, List.sum_nil, List.sum_cons, Nat.reduceAdd, Nat.reduceSub, Nat.reduceMul, Nat.reduceLeDiff, Nat.reduceEqDiff, Nat.reduceLT, and_true, true_and, and_self, if_true, if_false, ne_eq, not_false_eq_true, not_true_eq_false, or_false, false_or, or_true, true_or, false_and, and_false, reduceIte, reduceCtorEq, xB, ite_not, xretf_zc, xretf_c, xcont_c, xbd, nI_leI, nI_neg0, cl_nI]
def tdN (s : Nat → Bool) (vb : Bool) : Nat → Int32
  | 0 => -9
  | i + 1 => if s i = vb then tdN s vb i else nI i
theorem b7x : ∀ m, m < 8 → nI 7 &&& (nI m ^^^ (-1)) = nI (7 - m) := by decide +kernel
theorem jd (s : Nat → Bool) : (cnt (fun k => (msk s 3).testBit k) 0 16 = cnt s 0 3) ∧ (if cnt s 0 3 = 1 then fst9 (fun k => (msk s 3).testBit k) 0 8 else if cnt s 0 3 = 2 then fst9 (fun k => (7 - msk s 3).testBit k) 0 8 else -9) = tdN s (decide (2 ≤ cnt s 0 3)) 3 := by
  have e1 : msk s 3 = 0 + (if s 0 = true then 2 ^ 0 else 0) + (if s 1 = true then 2 ^ 1 else 0) + (if s 2 = true then 2 ^ 2 else 0) := rfl
  have e2 : cnt s 0 3 = (if s 0 = true then 1 else 0) + ((if s 1 = true then 1 else 0) + ((if s 2 = true then 1 else 0) + 0)) := rfl
  have e3 : ∀ vb, tdN s vb 3 = if s 2 = vb then (if s 1 = vb then (if s 0 = vb then -9 else nI 0) else nI 1) else nI 2 := fun vb => rfl
  rw [e1, e2, e3]
  cases s 0 <;> cases s 1 <;> cases s 2 <;> decide
theorem pr_judged (h : Cp I J) (r x y : Int32) : Pair L FX8_judged FX9_judged [.int r, .int x, .int y] I J := by
  by_cases hx : nI 0 ≤ x ∧ x < nI 216
  rotate_left
  · refine ⟨.int (-1), I, J, I, J, ?_, ?_, h⟩
    · rw [fX8_judged]
      simp (disch := omega) only [eX8_judged, xRl, xG1, xG2, kAll, rAll, nAll, List.map_nil, List.map_cons, List.sum_nil, List.sum_cons, Nat.reduceAdd, Nat.reduceSub, Nat.reduceMul, Nat.reduceLeDiff, Nat.reduceEqDiff, Nat.reduceLT, and_true, true_and, and_self, if_true, if_false, ne_eq, not_false_eq_true, not_true_eq_false, or_false, false_or, or_true, true_or, false_and, and_false, reduceIte, reduceCtorEq, xB, ite_not, xretf_zc, xretf_c, xcont_c, xbd, p8_among, hx]
    · rw [fX9_judged]
      by_cases hr : nI 0 ≤ r ∧ r < nI 6
      · simp (disch := omega) only [eX9_judged, xRl, xG1, xG2, kAll, rAll, nAll, List.map_nil, List.map_cons, List.sum_nil, List.sum_cons, Nat.reduceAdd, Nat.reduceSub, Nat.reduceMul, Nat.reduceLeDiff, Nat.reduceEqDiff, Nat.reduceLT, and_true, true_and, and_self, if_true, if_false, ne_eq, not_false_eq_true, not_true_eq_false, or_false, false_or, or_true, true_or, false_and, and_false, reduceIte, reduceCtorEq, xB, ite_not, xretf_zc, xretf_c, xcont_c, xbd, p9_isRow, p9_isSh, hx, hr]
      · simp (disch := omega) only [eX9_judged, xRl, xG1, xG2, kAll, rAll, nAll, List.map_nil, List.map_cons, List.sum_nil, List.sum_cons, Nat.reduceAdd, Nat.reduceSub, Nat.reduceMul, Nat.reduceLeDiff, Nat.reduceEqDiff, Nat.reduceLT, and_true, true_and, and_self, if_true, if_false, ne_eq, not_false_eq_true, not_true_eq_false, or_false, false_or, or_true, true_or, false_and, and_false, reduceIte, reduceCtorEq, xB, ite_not, xretf_zc, xretf_c, xcont_c, xbd, p9_isRow, p9_isSh, hx, hr]
  by_cases hy : nI 0 ≤ y ∧ y < nI 216
  rotate_left
  · refine ⟨.int (-1), I, J, I, J, ?_, ?_, h⟩
    · rw [fX8_judged]
      simp (disch := omega) only [eX8_judged, xRl, xG1, xG2, kAll, rAll, nAll, List.map_nil, List.map_cons, List.sum_nil, List.sum_cons, Nat.reduceAdd, Nat.reduceSub, Nat.reduceMul, Nat.reduceLeDiff, Nat.reduceEqDiff, Nat.reduceLT, and_true, true_and, and_self, if_true, if_false, ne_eq, not_false_eq_true, not_true_eq_false, or_false, false_or, or_true, true_or, false_and, and_false, reduceIte, reduceCtorEq, xB, ite_not, xretf_zc, xretf_c, xcont_c, xbd, p8_among, hx, hy]
    · rw [fX9_judged]
      by_cases hr : nI 0 ≤ r ∧ r < nI 6
      · simp (disch := omega) only [eX9_judged, xRl, xG1, xG2, kAll, rAll, nAll, List.map_nil, List.map_cons, List.sum_nil, List.sum_cons, Nat.reduceAdd, Nat.reduceSub, Nat.reduceMul, Nat.reduceLeDiff, Nat.reduceEqDiff, Nat.reduceLT, and_true, true_and, and_self, if_true, if_false, ne_eq, not_false_eq_true, not_true_eq_false, or_false, false_or, or_true, true_or, false_and, and_false, reduceIte, reduceCtorEq, xB, ite_not, xretf_zc, xretf_c, xcont_c, xbd, p9_isRow, p9_isSh, hx, hy, hr]
      · simp (disch := omega) only [eX9_judged, xRl, xG1, xG2, kAll, rAll, nAll, List.map_nil, List.map_cons, List.sum_nil, List.sum_cons, Nat.reduceAdd, Nat.reduceSub, Nat.reduceMul, Nat.reduceLeDiff, Nat.reduceEqDiff, Nat.reduceLT, and_true, true_and, and_self, if_true, if_false, ne_eq, not_false_eq_true, not_true_eq_false, or_false, false_or, or_true, true_or, false_and, and_false, reduceIte, reduceCtorEq, xB, ite_not, xretf_zc, xretf_c, xcont_c, xbd, p9_isRow, p9_isSh, hx, hy, hr]
  rcases row_cases h.1 r with hr | ⟨j, hj, rfl, z⟩
  · have c1 : FX8_refusalOfJudges [.ref 1, .int r] (S0 L I J) = some (some (.int (-1)), S0 L I J) := by
      rw [fX8_refusalOfJudges]
      simp (disch := omega) only [eX8_refusalOfJudges, xRl, xG1, xG2, kAll, rAll, nAll, List.map_nil, List.map_cons, List.sum_nil, List.sum_cons, Nat.reduceAdd, Nat.reduceSub, Nat.reduceMul, Nat.reduceLeDiff, Nat.reduceEqDiff, Nat.reduceLT, and_true, true_and, and_self, if_true, if_false, ne_eq, not_false_eq_true, not_true_eq_false, or_false, false_or, or_true, true_or, false_and, and_false, reduceIte, reduceCtorEq, xB, ite_not, xretf_zc, xretf_c, xcont_c, xbd, rr_bad L I J hr, m1_0]
    refine ⟨.int (-1), I, J, I, J, ?_, ?_, h⟩
    · rw [fX8_judged]
      simp (disch := omega) only [eX8_judged, xRl, xG1, xG2, kAll, rAll, nAll, List.map_nil, List.map_cons, List.sum_nil, List.sum_cons, Nat.reduceAdd, Nat.reduceSub, Nat.reduceMul, Nat.reduceLeDiff, Nat.reduceEqDiff, Nat.reduceLT, and_true, true_and, and_self, if_true, if_false, ne_eq, not_false_eq_true, not_true_eq_false, or_false, false_or, or_true, true_or, false_and, and_false, reduceIte, reduceCtorEq, xB, ite_not, xretf_zc, xretf_c, xcont_c, xbd, p8_among, hx, hy, c1, m1_0]
    · rw [fX9_judged]
      simp (disch := omega) only [eX9_judged, xRl, xG1, xG2, kAll, rAll, nAll, List.map_nil, List.map_cons, List.sum_nil, List.sum_cons, Nat.reduceAdd, Nat.reduceSub, Nat.reduceMul, Nat.reduceLeDiff, Nat.reduceEqDiff, Nat.reduceLT, and_true, true_and, and_self, if_true, if_false, ne_eq, not_false_eq_true, not_true_eq_false, or_false, false_or, or_true, true_or, false_and, and_false, reduceIte, reduceCtorEq, xB, ite_not, xretf_zc, xretf_c, xcont_c, xbd, p9_isRow, p9_isSh, hx, hy, hr]
  obtain ⟨k1, k2, k3, k4⟩ := kRow j hj
  have k5 := nRow L j hj
  have e : ¬ 3 + 2 * j = 0 := by omega
  have e' : ¬ 4 + 2 * j = 0 := by omega
  have f79 : ∀ f, fnC I f 79 = I 79 := fun f => by unfold fnC; rw [xup_ne _ _ _ (by decide), xup_ne _ _ _ (by decide)]
  have f80 : ∀ f, fnC I f 80 = I 80 := fun f => by unfold fnC; rw [xup_ne _ _ _ (by decide), xup_ne _ _ _ (by decide)]
  rcases z with ⟨z1, z2⟩ | ⟨m, hm, z1, z2⟩
  · have c1 : FX8_refusalOfJudges [.ref 1, .int (nI j)] (S0 L I J) = some (some (.int (-3)), S0 L (fnC I 1) J) := by
      rw [fX8_refusalOfJudges]
      simp (disch := omega) only [eX8_refusalOfJudges, xRl, xG1, xG2, kAll, rAll, nAll, List.map_nil, List.map_cons, List.sum_nil, List.sum_cons, Nat.reduceAdd, Nat.reduceSub, Nat.reduceMul, Nat.reduceLeDiff, Nat.reduceEqDiff, Nat.reduceLT, and_true, true_and, and_self, if_true, if_false, ne_eq, not_false_eq_true, not_true_eq_false, or_false, false_or, or_true, true_or, false_and, and_false, reduceIte, reduceCtorEq, xB, ite_not, xretf_zc, xretf_c, xcont_c, xbd, rr_none L I J hj z1, m3_0]
    have e1 : fnC I 1 79 j = -1 := by rw [f79]; exact z2
    refine ⟨.int (-3), fnC I 1, J, fnM (fnC I 1) 1, J, ?_, ?_, Cp_find h (by decide)⟩
    · rw [fX8_judged]
      simp (disch := omega) only [eX8_judged, xRl, xG1, xG2, kAll, rAll, nAll, List.map_nil, List.map_cons, List.sum_nil, List.sum_cons, Nat.reduceAdd, Nat.reduceSub, Nat.reduceMul, Nat.reduceLeDiff, Nat.reduceEqDiff, Nat.reduceLT, and_true, true_and, and_self, if_true, if_false, ne_eq, not_false_eq_true, not_true_eq_false, or_false, false_or, or_true, true_or, false_and, and_false, reduceIte, reduceCtorEq, xB, ite_not, xretf_zc, xretf_c, xcont_c, xbd, p8_among, hx, hy, c1, m3_0]
    · rw [fX9_judged]
      simp (disch := omega) only [eX9_judged, xRl, xG1, xG2, kAll, rAll, nAll, List.map_nil, List.map_cons, List.sum_nil, List.sum_cons, Nat.reduceAdd, Nat.reduceSub, Nat.reduceMul, Nat.reduceLeDiff, Nat.reduceEqDiff, Nat.reduceLT, and_true, true_and, and_self, if_true, if_false, ne_eq, not_false_eq_true, not_true_eq_false, or_false, false_or, or_true, true_or, false_and, and_false, reduceIte, reduceCtorEq, xB, ite_not, xretf_zc, xretf_c, xcont_c, xbd, p9_isRow, p9_isSh, hx, hy, z_le, lt_t, nI_neg0, cl_nI, e1, m1_ge, m1_lt, p9_find]
  by_cases hm3 : m = 3
  rotate_left
  · have c1 : FX8_refusalOfJudges [.ref 1, .int (nI j)] (S0 L I J) = some (some (.int (-3)), S0 L (fnC I 5) J) := by
      rw [fX8_refusalOfJudges]
      simp (disch := omega) only [eX8_refusalOfJudges, xRl, xG1, xG2, kAll, rAll, nAll, List.map_nil, List.map_cons, List.sum_nil, List.sum_cons, Nat.reduceAdd, Nat.reduceSub, Nat.reduceMul, Nat.reduceLeDiff, Nat.reduceEqDiff, Nat.reduceLT, and_true, true_and, and_self, if_true, if_false, ne_eq, not_false_eq_true, not_true_eq_false, or_false, false_or, or_true, true_or, false_and, and_false, reduceIte, reduceCtorEq, xB, ite_not, xretf_zc, xretf_c, xcont_c, xbd, rr_ok L I J hj hm z1, k1, k3, e, nI_neg0, cl_nI, z1, nI_eq, hm3, p8_findingOf]
    have e1 : fnC I 5 79 j = nI m := by rw [f79]; exact z2
    refine ⟨.int (-3), fnC I 5, J, fnM (fnC I 5) 5, J, ?_, ?_, Cp_find h (by decide)⟩
    · rw [fX8_judged]
      simp (disch := omega) only [eX8_judged, xRl, xG1, xG2, kAll, rAll, nAll, List.map_nil, List.map_cons, List.sum_nil, List.sum_cons, Nat.reduceAdd, Nat.reduceSub, Nat.reduceMul, Nat.reduceLeDiff, Nat.reduceEqDiff, Nat.reduceLT, and_true, true_and, and_self, if_true, if_false, ne_eq, not_false_eq_true, not_true_eq_false, or_false, false_or, or_true, true_or, false_and, and_false, reduceIte, reduceCtorEq, xB, ite_not, xretf_zc, xretf_c, xcont_c, xbd, p8_among, hx, hy, c1, m3_0]
    · rw [fX9_judged]
      simp (disch := omega) only [eX9_judged, xRl, xG1, xG2, kAll, rAll, nAll, List.map_nil, List.map_cons, List.sum_nil, List.sum_cons, Nat.reduceAdd, Nat.reduceSub, Nat.reduceMul, Nat.reduceLeDiff, Nat.reduceEqDiff, Nat.reduceLT, and_true, true_and, and_self, if_true, if_false, ne_eq, not_false_eq_true, not_true_eq_false, or_false, false_or, or_true, true_or, false_and, and_false, reduceIte, reduceCtorEq, xB, ite_not, xretf_zc, xretf_c, xcont_c, xbd, p9_isRow, p9_isSh, hx, hy, z_le, lt_t, nI_neg0, cl_nI, e1, nI_leI, nI_ltI, Nat.not_lt_zero, Nat.zero_le, nI_eq, hm3, p9_find]
  subst hm3
  have heq : okR (fun i => I 80 (40 * j + i)) 16 3 = okR (I (4 + 2 * j)) 16 3 := okR_congr (fun i hi => ((h.1 j hj).2.2 i (by omega)).symm)
  by_cases hok : okR (I (4 + 2 * j)) 16 3 = true
  rotate_left
  · have c1 : FX8_refusalOfJudges [.ref 1, .int (nI j)] (S0 L I J) = some (some (.int (-3)), S0 L (fnC I 3) J) := by
      rw [fX8_refusalOfJudges]
      simp (disch := omega) only [eX8_refusalOfJudges, xRl, xG1, xG2, kAll, rAll, nAll, List.map_nil, List.map_cons, List.sum_nil, List.sum_cons, Nat.reduceAdd, Nat.reduceSub, Nat.reduceMul, Nat.reduceLeDiff, Nat.reduceEqDiff, Nat.reduceLT, and_true, true_and, and_self, if_true, if_false, ne_eq, not_false_eq_true, not_true_eq_false, or_false, false_or, or_true, true_or, false_and, and_false, reduceIte, reduceCtorEq, xB, ite_not, xretf_zc, xretf_c, xcont_c, xbd, rr_ok L I J hj hm z1, k1, k3, e, nI_neg0, cl_nI, z1, nI_eq, p5_only L I J hj hm z1, hok, p8_findingOf]
    have e1 : fnC I 3 79 j = nI 3 := by rw [f79]; exact z2
    have e2 := p9_areEyes L (fnC I 3) J hj
    rw [f80, heq, if_neg hok] at e2
    refine ⟨.int (-3), fnC I 3, J, fnM (fnC I 3) 3, J, ?_, ?_, Cp_find h (by decide)⟩
    · rw [fX8_judged]
      simp (disch := omega) only [eX8_judged, xRl, xG1, xG2, kAll, rAll, nAll, List.map_nil, List.map_cons, List.sum_nil, List.sum_cons, Nat.reduceAdd, Nat.reduceSub, Nat.reduceMul, Nat.reduceLeDiff, Nat.reduceEqDiff, Nat.reduceLT, and_true, true_and, and_self, if_true, if_false, ne_eq, not_false_eq_true, not_true_eq_false, or_false, false_or, or_true, true_or, false_and, and_false, reduceIte, reduceCtorEq, xB, ite_not, xretf_zc, xretf_c, xcont_c, xbd, p8_among, hx, hy, c1, m3_0]
    · rw [fX9_judged]
      simp (disch := omega) only [eX9_judged, xRl, xG1, xG2, kAll, rAll, nAll, List.map_nil, List.map_cons, List.sum_nil, List.sum_cons, Nat.reduceAdd, Nat.reduceSub, Nat.reduceMul, Nat.reduceLeDiff, Nat.reduceEqDiff, Nat.reduceLT, and_true, true_and, and_self, if_true, if_false, ne_eq, not_false_eq_true, not_true_eq_false, or_false, false_or, or_true, true_or, false_and, and_false, reduceIte, reduceCtorEq, xB, ite_not, xretf_zc, xretf_c, xcont_c, xbd, p9_isRow, p9_isSh, hx, hy, z_le, lt_t, nI_neg0, cl_nI, e1, nI_leI, nI_ltI, Nat.not_lt_zero, Nat.zero_le, nI_eq, e2, p9_find]
  have c1 : FX8_refusalOfJudges [.ref 1, .int (nI j)] (S0 L I J) = some (some (.int (nI 0)), S0 L I J) := by
    rw [fX8_refusalOfJudges]
    simp (disch := omega) only [eX8_refusalOfJudges, xRl, xG1, xG2, kAll, rAll, nAll, List.map_nil, List.map_cons, List.sum_nil, List.sum_cons, Nat.reduceAdd, Nat.reduceSub, Nat.reduceMul, Nat.reduceLeDiff, Nat.reduceEqDiff, Nat.reduceLT, and_true, true_and, and_self, if_true, if_false, ne_eq, not_false_eq_true, not_true_eq_false, or_false, false_or, or_true, true_or, false_and, and_false, reduceIte, reduceCtorEq, xB, ite_not, xretf_zc, xretf_c, xcont_c, xbd, rr_ok L I J hj hm z1, k1, k3, e, nI_neg0, cl_nI, z1, nI_eq, p5_only L I J hj hm z1, hok]
  obtain ⟨a, ha, rfl⟩ := (Am_iff (by decide)).mp hx
  obtain ⟨b, hb, rfl⟩ := (Am_iff (by decide)).mp hy
  have hv := okR_t (by decide) hok
  have hfl := farN_lt 0 ha hb
  generalize hF : farN 0 a b = F at hfl
  have hfa := fun σ => p8_farApart ha hb σ
  have hf9 := fun σ => p9_far 0 a b (by omega) ha hb σ
  rw [hF] at hfa hf9
  have e2 := fun t : Int32 => p9_areEyes L (xup I 1 10 t) J hj
  have g80 : ∀ t : Int32, xup I 1 10 t 80 = I 80 := fun t => xup_ne _ _ _ (by decide)
  simp only [g80, heq, hok, if_true] at e2
  generalize hs : (fun i => decide (F ≤ tn (I (4 + 2 * j) i))) = s
  have hsd : ∀ i, (F ≤ tn (I (4 + 2 * j) i)) ↔ s i = true := fun i => by rw [← hs]; simp
  obtain ⟨j1, j2⟩ := jd s
  have hcn := cnt_le s 3 0
  generalize hvb : decide (2 ≤ cnt s 0 3) = vb at j2
  have hvd : (2 ≤ cnt s 0 3) ↔ vb = true := by rw [← hvb]; simp
  have oR : ∀ (t : Int32) q, xup I 1 10 t (3 + 2 * j) q = I (3 + 2 * j) q := fun t q => xup_o _ _ _ _ (by omega)
  have oZ : ∀ (t : Int32) q, xup I 1 10 t (4 + 2 * j) q = I (4 + 2 * j) q := fun t q => xup_o _ _ _ _ (by omega)
  have oM : ∀ (t : Int32), xup I 1 10 t 79 j = nI 3 := fun t => by rw [xup_o _ _ _ _ (by decide)]; exact z2
  have oN : ∀ (t : Int32) q, xup I 1 10 t 80 q = I 80 q := fun t q => xup_o _ _ _ _ (by decide)
  refine ⟨.int (if vb = true then nI 1 else nI 0), xup I 1 10 (tdN s vb 3), J, xup (xup I 1 10 (tdN s vb 3)) 77 5 (tdN s vb 3), J, ?_, ?_, Cp_told h _⟩
  · rw [fX8_judged]
    simp (disch := omega) only [eX8_judged, xRl, xG1, xG2, kAll, rAll, nAll, List.map_nil, List.map_cons, List.sum_nil, List.sum_cons, Nat.reduceAdd, Nat.reduceSub, Nat.reduceMul, Nat.reduceLeDiff, Nat.reduceEqDiff, Nat.reduceLT, and_true, true_and, and_self, if_true, if_false, ne_eq, not_false_eq_true, not_true_eq_false, or_false, false_or, or_true, true_or, false_and, and_false, reduceIte, reduceCtorEq, xB, ite_not, xretf_zc, xretf_c, xcont_c, xbd, p8_among, hx, hy, c1, hfa]
    have key := xloop (t := tX8_judged) (st := fun i (_ : Unit) => (50, [.ref 1, .int (nI j), .int (nI a), .int (nI b), .int (nI 0), .int (nI F), .int (nI (cnt s 0 i)), .int (nI i), .null], [], 0, S0 L I J)) (g := fun _ _ => ()) (N := 3) (Inv := fun _ _ => True) (a0 := ()) trivial (by
      intro i u hi _
      refine ⟨?_, trivial⟩
      obtain ⟨v1, v2⟩ := hv i hi
      have e3 := p8_saysAlike (e := tn (I (4 + 2 * j) i)) (f := F) (by omega) (by omega)
      rw [← v1] at e3
      show xD tX8_judged (50, _) = xD tX8_judged (_, [_, _, _, _, _, _, .int (nI (cnt s 0 (i + 1))), _, _], _)
      rw [hX8_judged_50, cnt_snoc, Nat.zero_add]
      simp (disch := omega) only [eX8_judged, xRl, xG1, xG2, kAll, rAll, nAll, List.map_nil, List.map_cons, List.sum_nil, List.sum_cons, Nat.reduceAdd, Nat.reduceSub, Nat.reduceMul, Nat.reduceLeDiff, Nat.reduceEqDiff, Nat.reduceLT, and_true, true_and, and_self, if_true, if_false, ne_eq, not_false_eq_true, not_true_eq_false, or_false, false_or, or_true, true_or, false_and, and_false, reduceIte, reduceCtorEq, xB, ite_not, xretf_zc, xretf_c, xcont_c, xbd, k1, k2, k3, k4, k5, e, e', z1, nI_neg0, cl_nI, nI_leI, e3, hsd, nI_add]
      rw [if_neg (by omega)]
      by_cases hsi : s i = true <;> simp [hsi, nI_add]) 3 (Nat.le_refl 3)
    rw [show xD tX8_judged (50, [.ref 1, .int (nI j), .int (nI a), .int (nI b), .int (nI 0), .int (nI F), .int (nI 0), .int (nI 0), .null], [], 0, S0 L I J) = _ from key.1, hX8_judged_50]
    simp (disch := omega) only [eX8_judged, xRl, xG1, xG2, kAll, rAll, nAll, List.map_nil, List.map_cons, List.sum_nil, List.sum_cons, Nat.reduceAdd, Nat.reduceSub, Nat.reduceMul, Nat.reduceLeDiff, Nat.reduceEqDiff, Nat.reduceLT, and_true, true_and, and_self, if_true, if_false, ne_eq, not_false_eq_true, not_true_eq_false, or_false, false_or, or_true, true_or, false_and, and_false, reduceIte, reduceCtorEq, xB, ite_not, xretf_zc, xretf_c, xcont_c, xbd, k1, k3, e, z1, nI_neg0, cl_nI, nI_leI, nI_ltI]
    have key2 := xloop (t := tX8_judged) (st := fun i (_ : Unit) => (114, [.ref 1, .int (nI j), .int (nI a), .int (nI b), .int (nI 0), .int (nI F), .int (nI (cnt s 0 3)), .int (if vb = true then nI 1 else nI 0), .int (nI i)], [], 0, S0 L (xup I 1 10 (tdN s vb i)) J)) (g := fun _ _ => ()) (N := 3) (Inv := fun _ _ => True) (a0 := ()) trivial (by
      intro i u hi _
      refine ⟨?_, trivial⟩
      obtain ⟨v1, v2⟩ := hv i hi
      have e3 := p8_saysAlike (e := tn (I (4 + 2 * j) i)) (f := F) (by omega) (by omega)
      rw [← v1] at e3
      have e4 : tdN s vb (i + 1) = if s i = vb then tdN s vb i else nI i := rfl
      show xD tX8_judged (114, _) = xD tX8_judged (_, _, _, _, S0 L (xup I 1 10 (tdN s vb (i + 1))) J)
      rw [hX8_judged_114, e4]
      simp (disch := omega) only [eX8_judged, xRl, xG1, xG2, kAll, rAll, nAll, List.map_nil, List.map_cons, List.sum_nil, List.sum_cons, Nat.reduceAdd, Nat.reduceSub, Nat.reduceMul, Nat.reduceLeDiff, Nat.reduceEqDiff, Nat.reduceLT, and_true, true_and, and_self, if_true, if_false, ne_eq, not_false_eq_true, not_true_eq_false, or_false, false_or, or_true, true_or, false_and, and_false, reduceIte, reduceCtorEq, xB, ite_not, xretf_zc, xretf_c, xcont_c, xbd, k1, k2, k3, k4, k5, e, e', oR, oZ, z1, nI_neg0, cl_nI, nI_leI, e3, hsd, nI_add]
      rw [if_neg (by omega)]
      cases hsi : s i <;> cases hvi : vb <;> simp [xup_xup] <;> (intro q; exact absurd q (by decide))) 3 (Nat.le_refl 3)
    have k2' := key2.1
    rw [show tdN s vb 0 = -9 from rfl] at k2'
    cases hvi : vb
    · have h2 : cnt s 0 3 < 2 := by
        have : ¬ 2 ≤ cnt s 0 3 := fun q => by rw [hvd.mp q] at hvi; exact absurd hvi (by decide)
        omega
      rw [hvi] at k2'
      simp only [Bool.false_eq_true, if_false] at k2' ⊢
      rw [if_pos h2, k2', hX8_judged_114]
      simp (disch := omega) only [eX8_judged, xRl, xG1, xG2, kAll, rAll, nAll, List.map_nil, List.map_cons, List.sum_nil, List.sum_cons, Nat.reduceAdd, Nat.reduceSub, Nat.reduceMul, Nat.reduceLeDiff, Nat.reduceEqDiff, Nat.reduceLT, and_true, true_and, and_self, if_true, if_false, ne_eq, not_false_eq_true, not_true_eq_false, or_false, false_or, or_true, true_or, false_and, and_false, reduceIte, reduceCtorEq, xB, ite_not, xretf_zc, xretf_c, xcont_c, xbd, k1, k3, e, oR, z1, nI_neg0, cl_nI, nI_leI]
    · have h2 : ¬ cnt s 0 3 < 2 := by have := hvd.mpr hvi; omega
      rw [hvi] at k2'
      simp only [if_true] at k2' ⊢
      rw [if_neg h2, k2', hX8_judged_114]
      simp (disch := omega) only [eX8_judged, xRl, xG1, xG2, kAll, rAll, nAll, List.map_nil, List.map_cons, List.sum_nil, List.sum_cons, Nat.reduceAdd, Nat.reduceSub, Nat.reduceMul, Nat.reduceLeDiff, Nat.reduceEqDiff, Nat.reduceLT, and_true, true_and, and_self, if_true, if_false, ne_eq, not_false_eq_true, not_true_eq_false, or_false, false_or, or_true, true_or, false_and, and_false, reduceIte, reduceCtorEq, xB, ite_not, xretf_zc, xretf_c, xcont_c, xbd, k1, k3, e, oR, z1, nI_neg0, cl_nI, nI_leI]
  · have hml := msk_lt s 3
    rw [fX9_judged]
    simp (disch := omega) only [eX9_judged, xRl, xG1, xG2, kAll, rAll, nAll, List.map_nil, List.map_cons, List.sum_nil, List.sum_cons, Nat.reduceAdd, Nat.reduceSub, Nat.reduceMul, Nat.reduceLeDiff, Nat.reduceEqDiff, Nat.reduceLT, and_true, true_and, and_self, if_true, if_false, ne_eq, not_false_eq_true, not_true_eq_false, or_false, false_or, or_true, true_or, false_and, and_false, reduceIte, reduceCtorEq, xB, ite_not, xretf_zc, xretf_c, xcont_c, xbd, p9_isRow, p9_isSh, hx, hy, z_le, lt_t, nI_neg0, cl_nI, oM, nI_leI, nI_ltI, Nat.not_lt_zero, Nat.zero_le, nI_eq, e2]
    have key := xloop (t := tX9_judged) (st := fun i (_ : Unit) => (74, [.ref 77, .int (nI j), .int (nI a), .int (nI b), .int (nI (msk s i)), .int (nI i)], [], 0, S0 L (xup I 1 10 (tdN s vb 3)) J)) (g := fun _ _ => ()) (N := 3) (Inv := fun _ _ => True) (a0 := ()) trivial (by
      intro i u hi _
      refine ⟨?_, trivial⟩
      obtain ⟨v1, v2⟩ := hv i hi
      have u1 : I 80 (40 * j + i) = nI (tn (I (4 + 2 * j) i)) := by rw [← (h.1 j hj).2.2 i (by omega)]; exact v1
      have hm2 := msk_lt s i
      show xD tX9_judged (74, _) = xD tX9_judged (_, [_, _, _, _, .int (nI (msk s i + (if s i = true then 2 ^ i else 0))), _], _)
      rw [hX9_judged_74]
      simp (disch := omega) only [eX9_judged, xRl, xG1, xG2, kAll, rAll, nAll, List.map_nil, List.map_cons, List.sum_nil, List.sum_cons, Nat.reduceAdd, Nat.reduceSub, Nat.reduceMul, Nat.reduceLeDiff, Nat.reduceEqDiff, Nat.reduceLT, and_true, true_and, and_self, if_true, if_false, ne_eq, not_false_eq_true, not_true_eq_false, or_false, false_or, or_true, true_or, false_and, and_false, reduceIte, reduceCtorEq, xB, ite_not, xretf_zc, xretf_c, xcont_c, xbd, oN, u1, hf9, nI_neg0, cl_nI, nI_leI, nI_ltI, pk_mul, nI_add, shl1]
      rw [if_neg (by omega)]
      by_cases hsi : s i = true
      · have := (hsd i).mpr hsi
        rw [if_pos hsi, ← or_pow hm2]
        first | rw [if_neg (by omega)] | rw [if_pos this]
      · have : ¬ F ≤ tn (I (4 + 2 * j) i) := fun q => hsi ((hsd i).mp q)
        rw [if_neg hsi]
        first | rw [if_pos (by omega)] | rw [if_neg this]
        rw [or_0]
        rfl) 3 (Nat.le_refl 3)
    rw [show xD tX9_judged (74, [.ref 77, .int (nI j), .int (nI a), .int (nI b), .int (nI 0), .int (nI 0)], [], 0, S0 L (xup I 1 10 (tdN s vb 3)) J) = _ from key.1, hX9_judged_74]
    simp (disch := omega) only [eX9_judged, xRl, xG1, xG2, kAll, rAll, nAll, List.map_nil, List.map_cons, List.sum_nil, List.sum_cons, Nat.reduceAdd, Nat.reduceSub, Nat.reduceMul, Nat.reduceLeDiff, Nat.reduceEqDiff, Nat.reduceLT, and_true, true_and, and_self, if_true, if_false, ne_eq, not_false_eq_true, not_true_eq_false, or_false, false_or, or_true, true_or, false_and, and_false, reduceIte, reduceCtorEq, xB, ite_not, xretf_zc, xretf_c, xcont_c, xbd, nI_leI, p9_bits, j1]
    have hb7 := b7x (msk s 3) hml
    have hc3 : cnt s 0 3 = 0 ∨ cnt s 0 3 = 1 ∨ cnt s 0 3 = 2 ∨ cnt s 0 3 = 3 := by omega
    rcases hc3 with hc | hc | hc | hc
    all_goals
      have hvi : vb = decide (2 ≤ cnt s 0 3) := hvb.symm
      rw [hc] at hvi j2
      simp only [Nat.reduceLeDiff, decide_true, decide_false, Nat.reduceEqDiff, if_true, if_false, reduceIte] at hvi j2
      rw [hc]
      simp (disch := omega) only [eX9_judged, xRl, xG1, xG2, kAll, rAll, nAll, List.map_nil, List.map_cons, List.sum_nil, List.sum_cons, Nat.reduceAdd, Nat.reduceSub, Nat.reduceMul, Nat.reduceLeDiff, Nat.reduceEqDiff, Nat.reduceLT, and_true, true_and, and_self, if_true, if_false, ne_eq, not_false_eq_true, not_true_eq_false, or_false, false_or, or_true, true_or, false_and, and_false, reduceIte, reduceCtorEq, xB, ite_not, xretf_zc, xretf_c, xcont_c, xbd, nI_eq, nI_leI, nI_ltI, hb7, p9_firstOf, j2, hvi]
      first | done | rfl | simp [hvi, j2]
end JD
