/-! the law's cases -/
theorem iv_int {tab : List (Nat × xO)} {maxL mc : Nat} {as : List Value} {σ σ' : xS} {v : Value} (h : xden tab maxL (some .int) mc as σ = some (some v, σ')) : ∃ z, v = .int z := by
  unfold xden at h
  split at h
  · split at h
    · split at h
      · rename_i r _ hb
        injection h with h
        rw [h] at hb
        cases v with
        | int z => exact ⟨z, rfl⟩
        | _ => cases hb
      · cases h
    · cases h
  · cases h
theorem iv_long {tab : List (Nat × xO)} {maxL mc : Nat} {as : List Value} {σ σ' : xS} {v : Value} (h : xden tab maxL (some .long) mc as σ = some (some v, σ')) : ∃ z, v = .long z := by
  unfold xden at h
  split at h
  · split at h
    · split at h
      · rename_i r _ hb
        injection h with h
        rw [h] at hb
        cases v with
        | long z => exact ⟨z, rfl⟩
        | _ => cases hb
      · cases h
    · cases h
  · cases h
def Cs (L : Nat) (I : Nat → Nat → Int32) (J : Nat → Nat → Int64) (i pc : Nat) : Prop := ∃ I2 J2, xD tL_law (pc, [.ref 1000, .ref 1, .ref 77, .int (nI i)], [], 0, S0 L I J) = xD tL_law (18, [.ref 1000, .ref 1, .ref 77, .int (nI (i + 6))], [], 0, S0 L I2 J2) ∧ Cp I2 J2
theorem lg_zz (z : Int64) : (lg_cmp z z = nI 0) = True := by
  unfold lg_cmp
  simp
  rfl
section LC
variable {L : Nat} {I : Nat → Nat → Int32} {J : Nat → Nat → Int64} {i : Nat}
theorem cs_232 (h : Cp I J) (hi : i + 6 ≤ L) (hL : L ≤ 384) : Cs L I J i 232 := by
  obtain ⟨v, I1, J1, I2, J2, e1, e2, hc⟩ := pr_row L I J h (I 1000 (i + 1)) (I 1000 (i + 2))
  have k : I1 1000 = I 1000 := (pvX8_row _ _ _ e1).2 1000 rfl
  obtain ⟨z, rfl⟩ := iv_int e1
  refine ⟨I2, J2, ?_, hc⟩
  simp (disch := omega) only [eL_0, eL_1, eL_21, xRl, xG1, xG2, kAll, rAll, nAll, List.map_nil, List.map_cons, List.sum_nil, List.sum_cons, Nat.reduceAdd, Nat.reduceSub, Nat.reduceMul, Nat.reduceLeDiff, Nat.reduceEqDiff, Nat.reduceLT, and_true, true_and, and_self, if_true, if_false, ne_eq, not_false_eq_true, not_true_eq_false, or_false, false_or, or_true, true_or, false_and, and_false, reduceIte, reduceCtorEq, xB, ite_not, xretf_zc, xretf_c, xcont_c, xbd, nI_add, nI_neg0, cl_nI, e1, k, e2]
theorem cs_265 (h : Cp I J) (hi : i + 6 ≤ L) (hL : L ≤ 384) : Cs L I J i 265 := by
  obtain ⟨v, I1, J1, I2, J2, e1, e2, hc⟩ := pr_lay L I J h (I 1000 (i + 1)) (I 1000 (i + 2)) (I 1000 (i + 3))
  have k : I1 1000 = I 1000 := (pvX8_lay _ _ _ e1).2 1000 rfl
  obtain ⟨z, rfl⟩ := iv_int e1
  refine ⟨I2, J2, ?_, hc⟩
  simp (disch := omega) only [eL_1, eL_21, xRl, xG1, xG2, kAll, rAll, nAll, List.map_nil, List.map_cons, List.sum_nil, List.sum_cons, Nat.reduceAdd, Nat.reduceSub, Nat.reduceMul, Nat.reduceLeDiff, Nat.reduceEqDiff, Nat.reduceLT, and_true, true_and, and_self, if_true, if_false, ne_eq, not_false_eq_true, not_true_eq_false, or_false, false_or, or_true, true_or, false_and, and_false, reduceIte, reduceCtorEq, xB, ite_not, xretf_zc, xretf_c, xcont_c, xbd, nI_add, nI_neg0, cl_nI, e1, k, e2]
theorem cs_308 (h : Cp I J) (hi : i + 6 ≤ L) (hL : L ≤ 384) : Cs L I J i 308 := by
  obtain ⟨v, I1, J1, I2, J2, e1, e2, hc⟩ := pr_at L I J h (I 1000 (i + 1)) (I 1000 (i + 2))
  have k : I1 1000 = I 1000 := (pvX8_at _ _ _ e1).2 1000 rfl
  obtain ⟨z, rfl⟩ := iv_int e1
  refine ⟨I2, J2, ?_, hc⟩
  simp (disch := omega) only [eL_1, eL_2, eL_21, xRl, xG1, xG2, kAll, rAll, nAll, List.map_nil, List.map_cons, List.sum_nil, List.sum_cons, Nat.reduceAdd, Nat.reduceSub, Nat.reduceMul, Nat.reduceLeDiff, Nat.reduceEqDiff, Nat.reduceLT, and_true, true_and, and_self, if_true, if_false, ne_eq, not_false_eq_true, not_true_eq_false, or_false, false_or, or_true, true_or, false_and, and_false, reduceIte, reduceCtorEq, xB, ite_not, xretf_zc, xretf_c, xcont_c, xbd, nI_add, nI_neg0, cl_nI, e1, k, e2]
theorem cs_341 (h : Cp I J) (hi : i + 6 ≤ L) (hL : L ≤ 384) : Cs L I J i 341 := by
  obtain ⟨v, I1, J1, I2, J2, e1, e2, hc⟩ := pr_tear L I J h (I 1000 (i + 1))
  have k : I1 1000 = I 1000 := (pvX8_tear _ _ _ e1).2 1000 rfl
  obtain ⟨z, rfl⟩ := iv_int e1
  refine ⟨I2, J2, ?_, hc⟩
  simp (disch := omega) only [eL_2, eL_21, xRl, xG1, xG2, kAll, rAll, nAll, List.map_nil, List.map_cons, List.sum_nil, List.sum_cons, Nat.reduceAdd, Nat.reduceSub, Nat.reduceMul, Nat.reduceLeDiff, Nat.reduceEqDiff, Nat.reduceLT, and_true, true_and, and_self, if_true, if_false, ne_eq, not_false_eq_true, not_true_eq_false, or_false, false_or, or_true, true_or, false_and, and_false, reduceIte, reduceCtorEq, xB, ite_not, xretf_zc, xretf_c, xcont_c, xbd, nI_add, nI_neg0, cl_nI, e1, k, e2]
theorem cs_364 (h : Cp I J) (hi : i + 6 ≤ L) (hL : L ≤ 384) : Cs L I J i 364 := by
  obtain ⟨v, I1, J1, I2, J2, e1, e2, hc⟩ := pr_copy L I J h (I 1000 (i + 1)) (I 1000 (i + 2)) (I 1000 (i + 3)) (I 1000 (i + 4)) (I 1000 (i + 5))
  have k : I1 1000 = I 1000 := (pvX8_copy _ _ _ e1).2 1000 rfl
  obtain ⟨z, rfl⟩ := iv_int e1
  refine ⟨I2, J2, ?_, hc⟩
  simp (disch := omega) only [eL_2, eL_3, eL_21, xRl, xG1, xG2, kAll, rAll, nAll, List.map_nil, List.map_cons, List.sum_nil, List.sum_cons, Nat.reduceAdd, Nat.reduceSub, Nat.reduceMul, Nat.reduceLeDiff, Nat.reduceEqDiff, Nat.reduceLT, and_true, true_and, and_self, if_true, if_false, ne_eq, not_false_eq_true, not_true_eq_false, or_false, false_or, or_true, true_or, false_and, and_false, reduceIte, reduceCtorEq, xB, ite_not, xretf_zc, xretf_c, xcont_c, xbd, nI_add, nI_neg0, cl_nI, e1, k, e2]
theorem cs_427 (h : Cp I J) (hi : i + 6 ≤ L) (hL : L ≤ 384) : Cs L I J i 427 := by
  obtain ⟨v, I1, J1, I2, J2, e1, e2, hc⟩ := pr_mean L I J h (I 1000 (i + 1))
  have k : I1 1000 = I 1000 := (pvX8_mean _ _ _ e1).2 1000 rfl
  obtain ⟨z, rfl⟩ := iv_int e1
  refine ⟨I2, J2, ?_, hc⟩
  simp (disch := omega) only [eL_3, eL_4, eL_21, xRl, xG1, xG2, kAll, rAll, nAll, List.map_nil, List.map_cons, List.sum_nil, List.sum_cons, Nat.reduceAdd, Nat.reduceSub, Nat.reduceMul, Nat.reduceLeDiff, Nat.reduceEqDiff, Nat.reduceLT, and_true, true_and, and_self, if_true, if_false, ne_eq, not_false_eq_true, not_true_eq_false, or_false, false_or, or_true, true_or, false_and, and_false, reduceIte, reduceCtorEq, xB, ite_not, xretf_zc, xretf_c, xcont_c, xbd, nI_add, nI_neg0, cl_nI, e1, k, e2]
theorem cs_450 (h : Cp I J) (hi : i + 6 ≤ L) (hL : L ≤ 384) : Cs L I J i 450 := by
  obtain ⟨v, I1, J1, I2, J2, e1, e2, hc⟩ := pr_text L I J h (I 1000 (i + 1)) (I 1000 (i + 2))
  have k : I1 1000 = I 1000 := (pvX8_text _ _ _ e1).2 1000 rfl
  obtain ⟨z, rfl⟩ := iv_int e1
  refine ⟨I2, J2, ?_, hc⟩
  simp (disch := omega) only [eL_4, eL_21, xRl, xG1, xG2, kAll, rAll, nAll, List.map_nil, List.map_cons, List.sum_nil, List.sum_cons, Nat.reduceAdd, Nat.reduceSub, Nat.reduceMul, Nat.reduceLeDiff, Nat.reduceEqDiff, Nat.reduceLT, and_true, true_and, and_self, if_true, if_false, ne_eq, not_false_eq_true, not_true_eq_false, or_false, false_or, or_true, true_or, false_and, and_false, reduceIte, reduceCtorEq, xB, ite_not, xretf_zc, xretf_c, xcont_c, xbd, nI_add, nI_neg0, cl_nI, e1, k, e2]
theorem cs_483 (h : Cp I J) (hi : i + 6 ≤ L) (hL : L ≤ 384) : Cs L I J i 483 := by
  obtain ⟨v, I1, J1, I2, J2, e1, e2, hc⟩ := pr_put L I J h (I 1000 (i + 1)) (I 1000 (i + 2)) (I 1000 (i + 3))
  have k : I1 1000 = I 1000 := (pvX8_put _ _ _ e1).2 1000 rfl
  obtain ⟨z, rfl⟩ := iv_int e1
  refine ⟨I2, J2, ?_, hc⟩
  simp (disch := omega) only [eL_4, eL_5, eL_21, xRl, xG1, xG2, kAll, rAll, nAll, List.map_nil, List.map_cons, List.sum_nil, List.sum_cons, Nat.reduceAdd, Nat.reduceSub, Nat.reduceMul, Nat.reduceLeDiff, Nat.reduceEqDiff, Nat.reduceLT, and_true, true_and, and_self, if_true, if_false, ne_eq, not_false_eq_true, not_true_eq_false, or_false, false_or, or_true, true_or, false_and, and_false, reduceIte, reduceCtorEq, xB, ite_not, xretf_zc, xretf_c, xcont_c, xbd, nI_add, nI_neg0, cl_nI, e1, k, e2]
theorem cs_526 (h : Cp I J) (hi : i + 6 ≤ L) (hL : L ≤ 384) : Cs L I J i 526 := by
  obtain ⟨v, I1, J1, I2, J2, e1, e2, hc⟩ := pr_fault L I J h (I 1000 (i + 1))
  have k : I1 1000 = I 1000 := (pvX8_fault _ _ _ e1).2 1000 rfl
  obtain ⟨z, rfl⟩ := iv_int e1
  refine ⟨I2, J2, ?_, hc⟩
  simp (disch := omega) only [eL_5, eL_21, xRl, xG1, xG2, kAll, rAll, nAll, List.map_nil, List.map_cons, List.sum_nil, List.sum_cons, Nat.reduceAdd, Nat.reduceSub, Nat.reduceMul, Nat.reduceLeDiff, Nat.reduceEqDiff, Nat.reduceLT, and_true, true_and, and_self, if_true, if_false, ne_eq, not_false_eq_true, not_true_eq_false, or_false, false_or, or_true, true_or, false_and, and_false, reduceIte, reduceCtorEq, xB, ite_not, xretf_zc, xretf_c, xcont_c, xbd, nI_add, nI_neg0, cl_nI, e1, k, e2]
theorem cs_549 (h : Cp I J) (hi : i + 6 ≤ L) (hL : L ≤ 384) : Cs L I J i 549 := by
  obtain ⟨v, I1, J1, I2, J2, e1, e2, hc⟩ := pr_registry L I J h (I 1000 (i + 1))
  have k : I1 1000 = I 1000 := (pvX8_registry _ _ _ e1).2 1000 rfl
  obtain ⟨z, rfl⟩ := iv_int e1
  refine ⟨I2, J2, ?_, hc⟩
  simp (disch := omega) only [eL_5, eL_6, eL_21, xRl, xG1, xG2, kAll, rAll, nAll, List.map_nil, List.map_cons, List.sum_nil, List.sum_cons, Nat.reduceAdd, Nat.reduceSub, Nat.reduceMul, Nat.reduceLeDiff, Nat.reduceEqDiff, Nat.reduceLT, and_true, true_and, and_self, if_true, if_false, ne_eq, not_false_eq_true, not_true_eq_false, or_false, false_or, or_true, true_or, false_and, and_false, reduceIte, reduceCtorEq, xB, ite_not, xretf_zc, xretf_c, xcont_c, xbd, nI_add, nI_neg0, cl_nI, e1, k, e2]
theorem cs_572 (h : Cp I J) (hi : i + 6 ≤ L) (hL : L ≤ 384) : Cs L I J i 572 := by
  obtain ⟨v, I1, J1, I2, J2, e1, e2, hc⟩ := pr_name L I J h (I 1000 (i + 1)) (I 1000 (i + 2))
  have k : I1 1000 = I 1000 := (pvX8_name _ _ _ e1).2 1000 rfl
  obtain ⟨z, rfl⟩ := iv_int e1
  refine ⟨I2, J2, ?_, hc⟩
  simp (disch := omega) only [eL_6, eL_21, xRl, xG1, xG2, kAll, rAll, nAll, List.map_nil, List.map_cons, List.sum_nil, List.sum_cons, Nat.reduceAdd, Nat.reduceSub, Nat.reduceMul, Nat.reduceLeDiff, Nat.reduceEqDiff, Nat.reduceLT, and_true, true_and, and_self, if_true, if_false, ne_eq, not_false_eq_true, not_true_eq_false, or_false, false_or, or_true, true_or, false_and, and_false, reduceIte, reduceCtorEq, xB, ite_not, xretf_zc, xretf_c, xcont_c, xbd, nI_add, nI_neg0, cl_nI, e1, k, e2]
theorem cs_605 (h : Cp I J) (hi : i + 6 ≤ L) (hL : L ≤ 384) : Cs L I J i 605 := by
  obtain ⟨v, I1, J1, I2, J2, e1, e2, hc⟩ := pr_mark L I J h (I 1000 (i + 1)) (I 1000 (i + 2))
  have k : I1 1000 = I 1000 := (pvX8_mark _ _ _ e1).2 1000 rfl
  obtain ⟨z, rfl⟩ := iv_int e1
  refine ⟨I2, J2, ?_, hc⟩
  simp (disch := omega) only [eL_6, eL_7, eL_21, xRl, xG1, xG2, kAll, rAll, nAll, List.map_nil, List.map_cons, List.sum_nil, List.sum_cons, Nat.reduceAdd, Nat.reduceSub, Nat.reduceMul, Nat.reduceLeDiff, Nat.reduceEqDiff, Nat.reduceLT, and_true, true_and, and_self, if_true, if_false, ne_eq, not_false_eq_true, not_true_eq_false, or_false, false_or, or_true, true_or, false_and, and_false, reduceIte, reduceCtorEq, xB, ite_not, xretf_zc, xretf_c, xcont_c, xbd, nI_add, nI_neg0, cl_nI, e1, k, e2]
theorem cs_638 (h : Cp I J) (hi : i + 6 ≤ L) (hL : L ≤ 384) : Cs L I J i 638 := by
  obtain ⟨v, I1, J1, I2, J2, e1, e2, hc⟩ := pr_due L I J h (I 1000 (i + 1)) (I 1000 (i + 2))
  have k : I1 1000 = I 1000 := (pvX8_due _ _ _ e1).2 1000 rfl
  obtain ⟨z, rfl⟩ := iv_int e1
  refine ⟨I2, J2, ?_, hc⟩
  simp (disch := omega) only [eL_7, eL_21, xRl, xG1, xG2, kAll, rAll, nAll, List.map_nil, List.map_cons, List.sum_nil, List.sum_cons, Nat.reduceAdd, Nat.reduceSub, Nat.reduceMul, Nat.reduceLeDiff, Nat.reduceEqDiff, Nat.reduceLT, and_true, true_and, and_self, if_true, if_false, ne_eq, not_false_eq_true, not_true_eq_false, or_false, false_or, or_true, true_or, false_and, and_false, reduceIte, reduceCtorEq, xB, ite_not, xretf_zc, xretf_c, xcont_c, xbd, nI_add, nI_neg0, cl_nI, e1, k, e2]
theorem cs_671 (h : Cp I J) (hi : i + 6 ≤ L) (hL : L ≤ 384) : Cs L I J i 671 := by
  obtain ⟨v, I1, J1, I2, J2, e1, e2, hc⟩ := pr_say L I J h (I 1000 (i + 1)) (I 1000 (i + 2)) (I 1000 (i + 3)) (I 1000 (i + 4))
  have k : I1 1000 = I 1000 := (pvX8_say _ _ _ e1).2 1000 rfl
  obtain ⟨z, rfl⟩ := iv_int e1
  refine ⟨I2, J2, ?_, hc⟩
  simp (disch := omega) only [eL_7, eL_8, eL_21, xRl, xG1, xG2, kAll, rAll, nAll, List.map_nil, List.map_cons, List.sum_nil, List.sum_cons, Nat.reduceAdd, Nat.reduceSub, Nat.reduceMul, Nat.reduceLeDiff, Nat.reduceEqDiff, Nat.reduceLT, and_true, true_and, and_self, if_true, if_false, ne_eq, not_false_eq_true, not_true_eq_false, or_false, false_or, or_true, true_or, false_and, and_false, reduceIte, reduceCtorEq, xB, ite_not, xretf_zc, xretf_c, xcont_c, xbd, nI_add, nI_neg0, cl_nI, e1, k, e2]
theorem cs_724 (h : Cp I J) (hi : i + 6 ≤ L) (hL : L ≤ 384) : Cs L I J i 724 := by
  obtain ⟨v, I1, J1, I2, J2, e1, e2, hc⟩ := pr_year L I J h
  have k : I1 1000 = I 1000 := (pvX8_year _ _ _ e1).2 1000 rfl
  obtain ⟨z, rfl⟩ := iv_int e1
  refine ⟨I2, J2, ?_, hc⟩
  simp (disch := omega) only [eL_8, eL_9, eL_21, xRl, xG1, xG2, kAll, rAll, nAll, List.map_nil, List.map_cons, List.sum_nil, List.sum_cons, Nat.reduceAdd, Nat.reduceSub, Nat.reduceMul, Nat.reduceLeDiff, Nat.reduceEqDiff, Nat.reduceLT, and_true, true_and, and_self, if_true, if_false, ne_eq, not_false_eq_true, not_true_eq_false, or_false, false_or, or_true, true_or, false_and, and_false, reduceIte, reduceCtorEq, xB, ite_not, xretf_zc, xretf_c, xcont_c, xbd, nI_add, nI_neg0, cl_nI, e1, k, e2]
theorem cs_737 (h : Cp I J) (hi : i + 6 ≤ L) (hL : L ≤ 384) : Cs L I J i 737 := by
  obtain ⟨v, I1, J1, I2, J2, e1, e2, hc⟩ := pr_undo L I J h (I 1000 (i + 1))
  have k : I1 1000 = I 1000 := (pvX8_undo _ _ _ e1).2 1000 rfl
  obtain ⟨z, rfl⟩ := iv_int e1
  refine ⟨I2, J2, ?_, hc⟩
  simp (disch := omega) only [eL_9, eL_21, xRl, xG1, xG2, kAll, rAll, nAll, List.map_nil, List.map_cons, List.sum_nil, List.sum_cons, Nat.reduceAdd, Nat.reduceSub, Nat.reduceMul, Nat.reduceLeDiff, Nat.reduceEqDiff, Nat.reduceLT, and_true, true_and, and_self, if_true, if_false, ne_eq, not_false_eq_true, not_true_eq_false, or_false, false_or, or_true, true_or, false_and, and_false, reduceIte, reduceCtorEq, xB, ite_not, xretf_zc, xretf_c, xcont_c, xbd, nI_add, nI_neg0, cl_nI, e1, k, e2]
theorem cs_760 (h : Cp I J) (hi : i + 6 ≤ L) (hL : L ≤ 384) : Cs L I J i 760 := by
  obtain ⟨v, I1, J1, I2, J2, e1, e2, hc⟩ := pr_keep L I J h (I 1000 (i + 1))
  have k : I1 1000 = I 1000 := (pvX8_keep _ _ _ e1).2 1000 rfl
  obtain ⟨z, rfl⟩ := iv_int e1
  refine ⟨I2, J2, ?_, hc⟩
  simp (disch := omega) only [eL_9, eL_21, xRl, xG1, xG2, kAll, rAll, nAll, List.map_nil, List.map_cons, List.sum_nil, List.sum_cons, Nat.reduceAdd, Nat.reduceSub, Nat.reduceMul, Nat.reduceLeDiff, Nat.reduceEqDiff, Nat.reduceLT, and_true, true_and, and_self, if_true, if_false, ne_eq, not_false_eq_true, not_true_eq_false, or_false, false_or, or_true, true_or, false_and, and_false, reduceIte, reduceCtorEq, xB, ite_not, xretf_zc, xretf_c, xcont_c, xbd, nI_add, nI_neg0, cl_nI, e1, k, e2]
theorem cs_783 (h : Cp I J) (hi : i + 6 ≤ L) (hL : L ≤ 384) : Cs L I J i 783 := by
  obtain ⟨v, I1, J1, I2, J2, e1, e2, hc⟩ := pr_on L I J h (I 1000 (i + 1))
  have k : I1 1000 = I 1000 := (pvX8_on _ _ _ e1).2 1000 rfl
  obtain ⟨z, rfl⟩ := iv_int e1
  refine ⟨I2, J2, ?_, hc⟩
  simp (disch := omega) only [eL_9, eL_10, eL_21, xRl, xG1, xG2, kAll, rAll, nAll, List.map_nil, List.map_cons, List.sum_nil, List.sum_cons, Nat.reduceAdd, Nat.reduceSub, Nat.reduceMul, Nat.reduceLeDiff, Nat.reduceEqDiff, Nat.reduceLT, and_true, true_and, and_self, if_true, if_false, ne_eq, not_false_eq_true, not_true_eq_false, or_false, false_or, or_true, true_or, false_and, and_false, reduceIte, reduceCtorEq, xB, ite_not, xretf_zc, xretf_c, xcont_c, xbd, nI_add, nI_neg0, cl_nI, e1, k, e2]
theorem cs_806 (h : Cp I J) (hi : i + 6 ≤ L) (hL : L ≤ 384) : Cs L I J i 806 := by
  obtain ⟨v, I1, J1, I2, J2, e1, e2, hc⟩ := pr_apart L I J h (I 1000 (i + 1)) (I 1000 (i + 2))
  have k : I1 1000 = I 1000 := (pvX8_apart _ _ _ e1).2 1000 rfl
  obtain ⟨z, rfl⟩ := iv_int e1
  refine ⟨I2, J2, ?_, hc⟩
  simp (disch := omega) only [eL_10, eL_21, xRl, xG1, xG2, kAll, rAll, nAll, List.map_nil, List.map_cons, List.sum_nil, List.sum_cons, Nat.reduceAdd, Nat.reduceSub, Nat.reduceMul, Nat.reduceLeDiff, Nat.reduceEqDiff, Nat.reduceLT, and_true, true_and, and_self, if_true, if_false, ne_eq, not_false_eq_true, not_true_eq_false, or_false, false_or, or_true, true_or, false_and, and_false, reduceIte, reduceCtorEq, xB, ite_not, xretf_zc, xretf_c, xcont_c, xbd, nI_add, nI_neg0, cl_nI, e1, k, e2]
theorem cs_839 (h : Cp I J) (hi : i + 6 ≤ L) (hL : L ≤ 384) : Cs L I J i 839 := by
  obtain ⟨v, I1, J1, I2, J2, e1, e2, hc⟩ := pr_called L I J h (I 1000 (i + 1))
  have k : I1 1000 = I 1000 := (pvX8_called _ _ _ e1).2 1000 rfl
  obtain ⟨z, rfl⟩ := iv_int e1
  refine ⟨I2, J2, ?_, hc⟩
  simp (disch := omega) only [eL_10, eL_11, eL_21, xRl, xG1, xG2, kAll, rAll, nAll, List.map_nil, List.map_cons, List.sum_nil, List.sum_cons, Nat.reduceAdd, Nat.reduceSub, Nat.reduceMul, Nat.reduceLeDiff, Nat.reduceEqDiff, Nat.reduceLT, and_true, true_and, and_self, if_true, if_false, ne_eq, not_false_eq_true, not_true_eq_false, or_false, false_or, or_true, true_or, false_and, and_false, reduceIte, reduceCtorEq, xB, ite_not, xretf_zc, xretf_c, xcont_c, xbd, nI_add, nI_neg0, cl_nI, e1, k, e2]
theorem cs_862 (h : Cp I J) (hi : i + 6 ≤ L) (hL : L ≤ 384) : Cs L I J i 862 := by
  obtain ⟨v, I1, J1, I2, J2, e1, e2, hc⟩ := pr_owes L I J h (I 1000 (i + 1)) (I 1000 (i + 2))
  have k : I1 1000 = I 1000 := (pvX8_owes _ _ _ e1).2 1000 rfl
  obtain ⟨z, rfl⟩ := iv_int e1
  refine ⟨I2, J2, ?_, hc⟩
  simp (disch := omega) only [eL_11, eL_21, xRl, xG1, xG2, kAll, rAll, nAll, List.map_nil, List.map_cons, List.sum_nil, List.sum_cons, Nat.reduceAdd, Nat.reduceSub, Nat.reduceMul, Nat.reduceLeDiff, Nat.reduceEqDiff, Nat.reduceLT, and_true, true_and, and_self, if_true, if_false, ne_eq, not_false_eq_true, not_true_eq_false, or_false, false_or, or_true, true_or, false_and, and_false, reduceIte, reduceCtorEq, xB, ite_not, xretf_zc, xretf_c, xcont_c, xbd, nI_add, nI_neg0, cl_nI, e1, k, e2]
theorem cs_895 (h : Cp I J) (hi : i + 6 ≤ L) (hL : L ≤ 384) : Cs L I J i 895 := by
  obtain ⟨v, I1, J1, I2, J2, e1, e2, hc⟩ := pr_disputed L I J h
  have k : I1 1000 = I 1000 := (pvX8_disputed _ _ _ e1).2 1000 rfl
  obtain ⟨z, rfl⟩ := iv_int e1
  refine ⟨I2, J2, ?_, hc⟩
  simp (disch := omega) only [eL_11, eL_21, xRl, xG1, xG2, kAll, rAll, nAll, List.map_nil, List.map_cons, List.sum_nil, List.sum_cons, Nat.reduceAdd, Nat.reduceSub, Nat.reduceMul, Nat.reduceLeDiff, Nat.reduceEqDiff, Nat.reduceLT, and_true, true_and, and_self, if_true, if_false, ne_eq, not_false_eq_true, not_true_eq_false, or_false, false_or, or_true, true_or, false_and, and_false, reduceIte, reduceCtorEq, xB, ite_not, xretf_zc, xretf_c, xcont_c, xbd, nI_add, nI_neg0, cl_nI, e1, k, e2]
theorem cs_908 (h : Cp I J) (hi : i + 6 ≤ L) (hL : L ≤ 384) : Cs L I J i 908 := by
  obtain ⟨v, I1, J1, I2, J2, e1, e2, hc⟩ := pr_free L I J h
  have k : I1 1000 = I 1000 := (pvX8_free _ _ _ e1).2 1000 rfl
  obtain ⟨z, rfl⟩ := iv_int e1
  refine ⟨I2, J2, ?_, hc⟩
  simp (disch := omega) only [eL_11, eL_21, xRl, xG1, xG2, kAll, rAll, nAll, List.map_nil, List.map_cons, List.sum_nil, List.sum_cons, Nat.reduceAdd, Nat.reduceSub, Nat.reduceMul, Nat.reduceLeDiff, Nat.reduceEqDiff, Nat.reduceLT, and_true, true_and, and_self, if_true, if_false, ne_eq, not_false_eq_true, not_true_eq_false, or_false, false_or, or_true, true_or, false_and, and_false, reduceIte, reduceCtorEq, xB, ite_not, xretf_zc, xretf_c, xcont_c, xbd, nI_add, nI_neg0, cl_nI, e1, k, e2]
theorem cs_921 (h : Cp I J) (hi : i + 6 ≤ L) (hL : L ≤ 384) : Cs L I J i 921 := by
  obtain ⟨v, I1, J1, I2, J2, e1, e2, hc⟩ := pr_gap L I J h (I 1000 (i + 1)) (I 1000 (i + 2))
  have k : I1 1000 = I 1000 := (pvX8_gap _ _ _ e1).2 1000 rfl
  obtain ⟨z, rfl⟩ := iv_int e1
  refine ⟨I2, J2, ?_, hc⟩
  simp (disch := omega) only [eL_11, eL_12, eL_21, xRl, xG1, xG2, kAll, rAll, nAll, List.map_nil, List.map_cons, List.sum_nil, List.sum_cons, Nat.reduceAdd, Nat.reduceSub, Nat.reduceMul, Nat.reduceLeDiff, Nat.reduceEqDiff, Nat.reduceLT, and_true, true_and, and_self, if_true, if_false, ne_eq, not_false_eq_true, not_true_eq_false, or_false, false_or, or_true, true_or, false_and, and_false, reduceIte, reduceCtorEq, xB, ite_not, xretf_zc, xretf_c, xcont_c, xbd, nI_add, nI_neg0, cl_nI, e1, k, e2]
theorem cs_954 (h : Cp I J) (hi : i + 6 ≤ L) (hL : L ≤ 384) : Cs L I J i 954 := by
  obtain ⟨v, I1, J1, I2, J2, e1, e2, hc⟩ := pr_lives L I J h (I 1000 (i + 1)) (I 1000 (i + 2))
  have k : I1 1000 = I 1000 := (pvX8_lives _ _ _ e1).2 1000 rfl
  obtain ⟨z, rfl⟩ := iv_int e1
  refine ⟨I2, J2, ?_, hc⟩
  simp (disch := omega) only [eL_12, eL_13, eL_21, xRl, xG1, xG2, kAll, rAll, nAll, List.map_nil, List.map_cons, List.sum_nil, List.sum_cons, Nat.reduceAdd, Nat.reduceSub, Nat.reduceMul, Nat.reduceLeDiff, Nat.reduceEqDiff, Nat.reduceLT, and_true, true_and, and_self, if_true, if_false, ne_eq, not_false_eq_true, not_true_eq_false, or_false, false_or, or_true, true_or, false_and, and_false, reduceIte, reduceCtorEq, xB, ite_not, xretf_zc, xretf_c, xcont_c, xbd, nI_add, nI_neg0, cl_nI, e1, k, e2]
theorem cs_987 (h : Cp I J) (hi : i + 6 ≤ L) (hL : L ≤ 384) : Cs L I J i 987 := by
  obtain ⟨v, I1, J1, I2, J2, e1, e2, hc⟩ := pr_cover L I J h (I 1000 (i + 1)) (I 1000 (i + 2))
  have k : I1 1000 = I 1000 := (pvX8_cover _ _ _ e1).2 1000 rfl
  obtain ⟨z, rfl⟩ := iv_int e1
  refine ⟨I2, J2, ?_, hc⟩
  simp (disch := omega) only [eL_13, eL_21, xRl, xG1, xG2, kAll, rAll, nAll, List.map_nil, List.map_cons, List.sum_nil, List.sum_cons, Nat.reduceAdd, Nat.reduceSub, Nat.reduceMul, Nat.reduceLeDiff, Nat.reduceEqDiff, Nat.reduceLT, and_true, true_and, and_self, if_true, if_false, ne_eq, not_false_eq_true, not_true_eq_false, or_false, false_or, or_true, true_or, false_and, and_false, reduceIte, reduceCtorEq, xB, ite_not, xretf_zc, xretf_c, xcont_c, xbd, nI_add, nI_neg0, cl_nI, e1, k, e2]
theorem cs_1020 (h : Cp I J) (hi : i + 6 ≤ L) (hL : L ≤ 384) : Cs L I J i 1020 := by
  obtain ⟨v, I1, J1, I2, J2, e1, e2, hc⟩ := pr_best L I J h (I 1000 (i + 1)) (I 1000 (i + 2))
  have k : I1 1000 = I 1000 := (pvX8_best _ _ _ e1).2 1000 rfl
  obtain ⟨z, rfl⟩ := iv_int e1
  refine ⟨I2, J2, ?_, hc⟩
  simp (disch := omega) only [eL_13, eL_14, eL_21, xRl, xG1, xG2, kAll, rAll, nAll, List.map_nil, List.map_cons, List.sum_nil, List.sum_cons, Nat.reduceAdd, Nat.reduceSub, Nat.reduceMul, Nat.reduceLeDiff, Nat.reduceEqDiff, Nat.reduceLT, and_true, true_and, and_self, if_true, if_false, ne_eq, not_false_eq_true, not_true_eq_false, or_false, false_or, or_true, true_or, false_and, and_false, reduceIte, reduceCtorEq, xB, ite_not, xretf_zc, xretf_c, xcont_c, xbd, nI_add, nI_neg0, cl_nI, e1, k, e2]
theorem cs_1053 (h : Cp I J) (hi : i + 6 ≤ L) (hL : L ≤ 384) : Cs L I J i 1053 := by
  obtain ⟨v, I1, J1, I2, J2, e1, e2, hc⟩ := pr_mix L I J h (I 1000 (i + 1)) (I 1000 (i + 2))
  have k : I1 1000 = I 1000 := (pvX8_mix _ _ _ e1).2 1000 rfl
  obtain ⟨z, rfl⟩ := iv_int e1
  refine ⟨I2, J2, ?_, hc⟩
  simp (disch := omega) only [eL_14, eL_21, xRl, xG1, xG2, kAll, rAll, nAll, List.map_nil, List.map_cons, List.sum_nil, List.sum_cons, Nat.reduceAdd, Nat.reduceSub, Nat.reduceMul, Nat.reduceLeDiff, Nat.reduceEqDiff, Nat.reduceLT, and_true, true_and, and_self, if_true, if_false, ne_eq, not_false_eq_true, not_true_eq_false, or_false, false_or, or_true, true_or, false_and, and_false, reduceIte, reduceCtorEq, xB, ite_not, xretf_zc, xretf_c, xcont_c, xbd, nI_add, nI_neg0, cl_nI, e1, k, e2]
theorem cs_1086 (h : Cp I J) (hi : i + 6 ≤ L) (hL : L ≤ 384) : Cs L I J i 1086 := by
  obtain ⟨v, I1, J1, I2, J2, e1, e2, hc⟩ := pr_cheap L I J h (I 1000 (i + 1)) (I 1000 (i + 2))
  have k : I1 1000 = I 1000 := (pvX8_cheap _ _ _ e1).2 1000 rfl
  obtain ⟨z, rfl⟩ := iv_int e1
  refine ⟨I2, J2, ?_, hc⟩
  simp (disch := omega) only [eL_14, eL_15, eL_21, xRl, xG1, xG2, kAll, rAll, nAll, List.map_nil, List.map_cons, List.sum_nil, List.sum_cons, Nat.reduceAdd, Nat.reduceSub, Nat.reduceMul, Nat.reduceLeDiff, Nat.reduceEqDiff, Nat.reduceLT, and_true, true_and, and_self, if_true, if_false, ne_eq, not_false_eq_true, not_true_eq_false, or_false, false_or, or_true, true_or, false_and, and_false, reduceIte, reduceCtorEq, xB, ite_not, xretf_zc, xretf_c, xcont_c, xbd, nI_add, nI_neg0, cl_nI, e1, k, e2]
theorem cs_1119 (h : Cp I J) (hi : i + 6 ≤ L) (hL : L ≤ 384) : Cs L I J i 1119 := by
  obtain ⟨v, I1, J1, I2, J2, e1, e2, hc⟩ := pr_eyes L I J h (I 1000 (i + 1))
  have k : I1 1000 = I 1000 := (pvX8_eyes _ _ _ e1).2 1000 rfl
  obtain ⟨z, rfl⟩ := iv_int e1
  refine ⟨I2, J2, ?_, hc⟩
  simp (disch := omega) only [eL_15, eL_21, xRl, xG1, xG2, kAll, rAll, nAll, List.map_nil, List.map_cons, List.sum_nil, List.sum_cons, Nat.reduceAdd, Nat.reduceSub, Nat.reduceMul, Nat.reduceLeDiff, Nat.reduceEqDiff, Nat.reduceLT, and_true, true_and, and_self, if_true, if_false, ne_eq, not_false_eq_true, not_true_eq_false, or_false, false_or, or_true, true_or, false_and, and_false, reduceIte, reduceCtorEq, xB, ite_not, xretf_zc, xretf_c, xcont_c, xbd, nI_add, nI_neg0, cl_nI, e1, k, e2]
theorem cs_1142 (h : Cp I J) (hi : i + 6 ≤ L) (hL : L ≤ 384) : Cs L I J i 1142 := by
  obtain ⟨v, I1, J1, I2, J2, e1, e2, hc⟩ := pr_show L I J h (I 1000 (i + 1))
  have k : I1 1000 = I 1000 := (pvX8_show _ _ _ e1).2 1000 rfl
  obtain ⟨z, rfl⟩ := iv_int e1
  refine ⟨I2, J2, ?_, hc⟩
  simp (disch := omega) only [eL_15, eL_16, eL_21, xRl, xG1, xG2, kAll, rAll, nAll, List.map_nil, List.map_cons, List.sum_nil, List.sum_cons, Nat.reduceAdd, Nat.reduceSub, Nat.reduceMul, Nat.reduceLeDiff, Nat.reduceEqDiff, Nat.reduceLT, and_true, true_and, and_self, if_true, if_false, ne_eq, not_false_eq_true, not_true_eq_false, or_false, false_or, or_true, true_or, false_and, and_false, reduceIte, reduceCtorEq, xB, ite_not, xretf_zc, xretf_c, xcont_c, xbd, nI_add, nI_neg0, cl_nI, e1, k, e2]
theorem cs_1165 (h : Cp I J) (hi : i + 6 ≤ L) (hL : L ≤ 384) : Cs L I J i 1165 := by
  obtain ⟨v, I1, J1, I2, J2, e1, e2, hc⟩ := pr_judged L I J h (I 1000 (i + 1)) (I 1000 (i + 2)) (I 1000 (i + 3))
  have k : I1 1000 = I 1000 := (pvX8_judged _ _ _ e1).2 1000 rfl
  obtain ⟨z, rfl⟩ := iv_int e1
  refine ⟨I2, J2, ?_, hc⟩
  simp (disch := omega) only [eL_16, eL_21, xRl, xG1, xG2, kAll, rAll, nAll, List.map_nil, List.map_cons, List.sum_nil, List.sum_cons, Nat.reduceAdd, Nat.reduceSub, Nat.reduceMul, Nat.reduceLeDiff, Nat.reduceEqDiff, Nat.reduceLT, and_true, true_and, and_self, if_true, if_false, ne_eq, not_false_eq_true, not_true_eq_false, or_false, false_or, or_true, true_or, false_and, and_false, reduceIte, reduceCtorEq, xB, ite_not, xretf_zc, xretf_c, xcont_c, xbd, nI_add, nI_neg0, cl_nI, e1, k, e2]
theorem cs_1208 (h : Cp I J) (hi : i + 6 ≤ L) (hL : L ≤ 384) : Cs L I J i 1208 := by
  obtain ⟨v, I1, J1, I2, J2, e1, e2, hc⟩ := pr_lost L I J h (I 1000 (i + 1))
  have k : I1 1000 = I 1000 := (pvX8_lost _ _ _ e1).2 1000 rfl
  obtain ⟨z, rfl⟩ := iv_int e1
  refine ⟨I2, J2, ?_, hc⟩
  simp (disch := omega) only [eL_16, eL_17, eL_21, xRl, xG1, xG2, kAll, rAll, nAll, List.map_nil, List.map_cons, List.sum_nil, List.sum_cons, Nat.reduceAdd, Nat.reduceSub, Nat.reduceMul, Nat.reduceLeDiff, Nat.reduceEqDiff, Nat.reduceLT, and_true, true_and, and_self, if_true, if_false, ne_eq, not_false_eq_true, not_true_eq_false, or_false, false_or, or_true, true_or, false_and, and_false, reduceIte, reduceCtorEq, xB, ite_not, xretf_zc, xretf_c, xcont_c, xbd, nI_add, nI_neg0, cl_nI, e1, k, e2]
theorem cs_1231 (h : Cp I J) (hi : i + 6 ≤ L) (hL : L ≤ 384) : Cs L I J i 1231 := by
  obtain ⟨v, I1, J1, I2, J2, e1, e2, hc⟩ := pr_moves L I J h (I 1000 (i + 1))
  have k : I1 1000 = I 1000 := (pvX8_moves _ _ _ e1).2 1000 rfl
  obtain ⟨z, rfl⟩ := iv_int e1
  refine ⟨I2, J2, ?_, hc⟩
  simp (disch := omega) only [eL_17, eL_21, xRl, xG1, xG2, kAll, rAll, nAll, List.map_nil, List.map_cons, List.sum_nil, List.sum_cons, Nat.reduceAdd, Nat.reduceSub, Nat.reduceMul, Nat.reduceLeDiff, Nat.reduceEqDiff, Nat.reduceLT, and_true, true_and, and_self, if_true, if_false, ne_eq, not_false_eq_true, not_true_eq_false, or_false, false_or, or_true, true_or, false_and, and_false, reduceIte, reduceCtorEq, xB, ite_not, xretf_zc, xretf_c, xcont_c, xbd, nI_add, nI_neg0, cl_nI, e1, k, e2]
theorem cs_1254 (h : Cp I J) (hi : i + 6 ≤ L) (hL : L ≤ 384) : Cs L I J i 1254 := by
  obtain ⟨v, I1, J1, I2, J2, e1, e2, hc⟩ := pr_was L I J h (I 1000 (i + 1)) (I 1000 (i + 2))
  have k : I1 1000 = I 1000 := (pvX8_was _ _ _ e1).2 1000 rfl
  obtain ⟨z, rfl⟩ := iv_int e1
  refine ⟨I2, J2, ?_, hc⟩
  simp (disch := omega) only [eL_17, eL_18, eL_21, xRl, xG1, xG2, kAll, rAll, nAll, List.map_nil, List.map_cons, List.sum_nil, List.sum_cons, Nat.reduceAdd, Nat.reduceSub, Nat.reduceMul, Nat.reduceLeDiff, Nat.reduceEqDiff, Nat.reduceLT, and_true, true_and, and_self, if_true, if_false, ne_eq, not_false_eq_true, not_true_eq_false, or_false, false_or, or_true, true_or, false_and, and_false, reduceIte, reduceCtorEq, xB, ite_not, xretf_zc, xretf_c, xcont_c, xbd, nI_add, nI_neg0, cl_nI, e1, k, e2]
theorem cs_1287 (h : Cp I J) (hi : i + 6 ≤ L) (hL : L ≤ 384) : Cs L I J i 1287 := by
  obtain ⟨v, I1, J1, I2, J2, e1, e2, hc⟩ := pr_kinds L I J h (I 1000 (i + 1)) (I 1000 (i + 2))
  have k : I1 1000 = I 1000 := (pvX8_kinds _ _ _ e1).2 1000 rfl
  obtain ⟨z, rfl⟩ := iv_int e1
  refine ⟨I2, J2, ?_, hc⟩
  simp (disch := omega) only [eL_18, eL_21, xRl, xG1, xG2, kAll, rAll, nAll, List.map_nil, List.map_cons, List.sum_nil, List.sum_cons, Nat.reduceAdd, Nat.reduceSub, Nat.reduceMul, Nat.reduceLeDiff, Nat.reduceEqDiff, Nat.reduceLT, and_true, true_and, and_self, if_true, if_false, ne_eq, not_false_eq_true, not_true_eq_false, or_false, false_or, or_true, true_or, false_and, and_false, reduceIte, reduceCtorEq, xB, ite_not, xretf_zc, xretf_c, xcont_c, xbd, nI_add, nI_neg0, cl_nI, e1, k, e2]
theorem cs_1320 (h : Cp I J) (hi : i + 6 ≤ L) (hL : L ≤ 384) : Cs L I J i 1320 := by
  obtain ⟨v, I1, J1, I2, J2, e1, e2, hc⟩ := pr_odds L I J h (I 1000 (i + 1))
  have k : I1 1000 = I 1000 := (pvX8_odds _ _ _ e1).2 1000 rfl
  obtain ⟨z, rfl⟩ := iv_int e1
  refine ⟨I2, J2, ?_, hc⟩
  simp (disch := omega) only [eL_18, eL_21, xRl, xG1, xG2, kAll, rAll, nAll, List.map_nil, List.map_cons, List.sum_nil, List.sum_cons, Nat.reduceAdd, Nat.reduceSub, Nat.reduceMul, Nat.reduceLeDiff, Nat.reduceEqDiff, Nat.reduceLT, and_true, true_and, and_self, if_true, if_false, ne_eq, not_false_eq_true, not_true_eq_false, or_false, false_or, or_true, true_or, false_and, and_false, reduceIte, reduceCtorEq, xB, ite_not, xretf_zc, xretf_c, xcont_c, xbd, nI_add, nI_neg0, cl_nI, e1, k, e2]
theorem cs_1343 (h : Cp I J) (hi : i + 6 ≤ L) (hL : L ≤ 384) : Cs L I J i 1343 := by
  obtain ⟨v, I1, J1, I2, J2, e1, e2, hc⟩ := pr_mid L I J h (I 1000 (i + 1))
  have k : I1 1000 = I 1000 := (pvX8_mid _ _ _ e1).2 1000 rfl
  obtain ⟨z, rfl⟩ := iv_int e1
  refine ⟨I2, J2, ?_, hc⟩
  simp (disch := omega) only [eL_18, eL_19, eL_21, xRl, xG1, xG2, kAll, rAll, nAll, List.map_nil, List.map_cons, List.sum_nil, List.sum_cons, Nat.reduceAdd, Nat.reduceSub, Nat.reduceMul, Nat.reduceLeDiff, Nat.reduceEqDiff, Nat.reduceLT, and_true, true_and, and_self, if_true, if_false, ne_eq, not_false_eq_true, not_true_eq_false, or_false, false_or, or_true, true_or, false_and, and_false, reduceIte, reduceCtorEq, xB, ite_not, xretf_zc, xretf_c, xcont_c, xbd, nI_add, nI_neg0, cl_nI, e1, k, e2]
theorem cs_1366 (h : Cp I J) (hi : i + 6 ≤ L) (hL : L ≤ 384) : Cs L I J i 1366 := by
  obtain ⟨v, I1, J1, I2, J2, e1, e2, hc⟩ := pr_lots L I J h (I 1000 (i + 1)) (I 1000 (i + 2)) (I 1000 (i + 3))
  have k : I1 1000 = I 1000 := (pvX8_lots _ _ _ e1).2 1000 rfl
  obtain ⟨z, rfl⟩ := iv_int e1
  refine ⟨I2, J2, ?_, hc⟩
  simp (disch := omega) only [eL_19, eL_20, eL_21, xRl, xG1, xG2, kAll, rAll, nAll, List.map_nil, List.map_cons, List.sum_nil, List.sum_cons, Nat.reduceAdd, Nat.reduceSub, Nat.reduceMul, Nat.reduceLeDiff, Nat.reduceEqDiff, Nat.reduceLT, and_true, true_and, and_self, if_true, if_false, ne_eq, not_false_eq_true, not_true_eq_false, or_false, false_or, or_true, true_or, false_and, and_false, reduceIte, reduceCtorEq, xB, ite_not, xretf_zc, xretf_c, xcont_c, xbd, nI_add, nI_neg0, cl_nI, e1, k, e2]
theorem cs_1409 (h : Cp I J) (hi : i + 6 ≤ L) (hL : L ≤ 384) : Cs L I J i 1409 := by
  obtain ⟨v, I1, J1, I2, J2, e1, e2, hc⟩ := pr_asked L I J h
  have k : I1 1000 = I 1000 := (pvX8_asked _ _ _ e1).2 1000 rfl
  obtain ⟨z, rfl⟩ := iv_int e1
  refine ⟨I2, J2, ?_, hc⟩
  simp (disch := omega) only [eL_20, eL_21, xRl, xG1, xG2, kAll, rAll, nAll, List.map_nil, List.map_cons, List.sum_nil, List.sum_cons, Nat.reduceAdd, Nat.reduceSub, Nat.reduceMul, Nat.reduceLeDiff, Nat.reduceEqDiff, Nat.reduceLT, and_true, true_and, and_self, if_true, if_false, ne_eq, not_false_eq_true, not_true_eq_false, or_false, false_or, or_true, true_or, false_and, and_false, reduceIte, reduceCtorEq, xB, ite_not, xretf_zc, xretf_c, xcont_c, xbd, nI_add, nI_neg0, cl_nI, e1, k, e2]
theorem cs_1422 (h : Cp I J) (hi : i + 6 ≤ L) (hL : L ≤ 384) : Cs L I J i 1422 := by
  obtain ⟨v, I1, J1, I2, J2, e1, e2, hc⟩ := pr_upper L I J h
  have k : I1 1000 = I 1000 := (pvX8_upper _ _ _ e1).2 1000 rfl
  obtain ⟨z, rfl⟩ := iv_long e1
  refine ⟨I2, J2, ?_, hc⟩
  simp (disch := omega) only [eL_20, eL_21, xRl, xG1, xG2, kAll, rAll, nAll, List.map_nil, List.map_cons, List.sum_nil, List.sum_cons, Nat.reduceAdd, Nat.reduceSub, Nat.reduceMul, Nat.reduceLeDiff, Nat.reduceEqDiff, Nat.reduceLT, and_true, true_and, and_self, if_true, if_false, ne_eq, not_false_eq_true, not_true_eq_false, or_false, false_or, or_true, true_or, false_and, and_false, reduceIte, reduceCtorEq, xB, ite_not, xretf_zc, xretf_c, xcont_c, xbd, nI_add, nI_neg0, cl_nI, e1, k, e2, lg_zz]
theorem cs_1436 (h : Cp I J) (hi : i + 6 ≤ L) (hL : L ≤ 384) : Cs L I J i 1436 := by
  obtain ⟨v, I1, J1, I2, J2, e1, e2, hc⟩ := pr_lower L I J h
  have k : I1 1000 = I 1000 := (pvX8_lower _ _ _ e1).2 1000 rfl
  obtain ⟨z, rfl⟩ := iv_long e1
  refine ⟨I2, J2, ?_, hc⟩
  simp (disch := omega) only [eL_20, eL_21, xRl, xG1, xG2, kAll, rAll, nAll, List.map_nil, List.map_cons, List.sum_nil, List.sum_cons, Nat.reduceAdd, Nat.reduceSub, Nat.reduceMul, Nat.reduceLeDiff, Nat.reduceEqDiff, Nat.reduceLT, and_true, true_and, and_self, if_true, if_false, ne_eq, not_false_eq_true, not_true_eq_false, or_false, false_or, or_true, true_or, false_and, and_false, reduceIte, reduceCtorEq, xB, ite_not, xretf_zc, xretf_c, xcont_c, xbd, nI_add, nI_neg0, cl_nI, e1, k, e2, lg_zz]
theorem cs_1450 (h : Cp I J) (hi : i + 6 ≤ L) (hL : L ≤ 384) : Cs L I J i 1450 := by
  obtain ⟨v, I1, J1, I2, J2, e1, e2, hc⟩ := pr_count L I J h (I 1000 (i + 1))
  have k : I1 1000 = I 1000 := (pvX8_count _ _ _ e1).2 1000 rfl
  obtain ⟨z, rfl⟩ := iv_int e1
  refine ⟨I2, J2, ?_, hc⟩
  simp (disch := omega) only [eL_20, eL_21, xRl, xG1, xG2, kAll, rAll, nAll, List.map_nil, List.map_cons, List.sum_nil, List.sum_cons, Nat.reduceAdd, Nat.reduceSub, Nat.reduceMul, Nat.reduceLeDiff, Nat.reduceEqDiff, Nat.reduceLT, and_true, true_and, and_self, if_true, if_false, ne_eq, not_false_eq_true, not_true_eq_false, or_false, false_or, or_true, true_or, false_and, and_false, reduceIte, reduceCtorEq, xB, ite_not, xretf_zc, xretf_c, xcont_c, xbd, nI_add, nI_neg0, cl_nI, e1, k, e2]
theorem cs_1473 (h : Cp I J) (hi : i + 6 ≤ L) (hL : L ≤ 384) : Cs L I J i 1473 := by
  obtain ⟨v, I1, J1, I2, J2, e1, e2, hc⟩ := pr_finding L I J h
  have k : I1 1000 = I 1000 := (pvX8_finding _ _ _ e1).2 1000 rfl
  obtain ⟨z, rfl⟩ := iv_int e1
  refine ⟨I2, J2, ?_, hc⟩
  simp (disch := omega) only [eL_20, eL_21, xRl, xG1, xG2, kAll, rAll, nAll, List.map_nil, List.map_cons, List.sum_nil, List.sum_cons, Nat.reduceAdd, Nat.reduceSub, Nat.reduceMul, Nat.reduceLeDiff, Nat.reduceEqDiff, Nat.reduceLT, and_true, true_and, and_self, if_true, if_false, ne_eq, not_false_eq_true, not_true_eq_false, or_false, false_or, or_true, true_or, false_and, and_false, reduceIte, reduceCtorEq, xB, ite_not, xretf_zc, xretf_c, xcont_c, xbd, nI_add, nI_neg0, cl_nI, e1, k, e2]
theorem cs_1486 (h : Cp I J) (hi : i + 6 ≤ L) (hL : L ≤ 384) : Cs L I J i 1486 := by
  obtain ⟨v, I1, J1, I2, J2, e1, e2, hc⟩ := pr_findings L I J h (I 1000 (i + 1))
  have k : I1 1000 = I 1000 := (pvX8_findings _ _ _ e1).2 1000 rfl
  obtain ⟨z, rfl⟩ := iv_int e1
  refine ⟨I2, J2, ?_, hc⟩
  simp (disch := omega) only [eL_21, xRl, xG1, xG2, kAll, rAll, nAll, List.map_nil, List.map_cons, List.sum_nil, List.sum_cons, Nat.reduceAdd, Nat.reduceSub, Nat.reduceMul, Nat.reduceLeDiff, Nat.reduceEqDiff, Nat.reduceLT, and_true, true_and, and_self, if_true, if_false, ne_eq, not_false_eq_true, not_true_eq_false, or_false, false_or, or_true, true_or, false_and, and_false, reduceIte, reduceCtorEq, xB, ite_not, xretf_zc, xretf_c, xcont_c, xbd, nI_add, nI_neg0, cl_nI, e1, k, e2]
theorem cs_1509 (h : Cp I J) (hi : i + 6 ≤ L) (hL : L ≤ 384) : Cs L I J i 1509 := by
  obtain ⟨v, I1, J1, I2, J2, e1, e2, hc⟩ := pr_digest L I J h
  have k : I1 1000 = I 1000 := (pvX8_digest _ _ _ e1).2 1000 rfl
  obtain ⟨z, rfl⟩ := iv_long e1
  refine ⟨I2, J2, ?_, hc⟩
  simp (disch := omega) only [eL_21, xRl, xG1, xG2, kAll, rAll, nAll, List.map_nil, List.map_cons, List.sum_nil, List.sum_cons, Nat.reduceAdd, Nat.reduceSub, Nat.reduceMul, Nat.reduceLeDiff, Nat.reduceEqDiff, Nat.reduceLT, and_true, true_and, and_self, if_true, if_false, ne_eq, not_false_eq_true, not_true_eq_false, or_false, false_or, or_true, true_or, false_and, and_false, reduceIte, reduceCtorEq, xB, ite_not, xretf_zc, xretf_c, xcont_c, xbd, nI_add, nI_neg0, cl_nI, e1, k, e2, lg_zz]
theorem cs_1523 (h : Cp I J) : Cs L I J i 1523 := by
  refine ⟨I, J, ?_, h⟩
  simp (disch := omega) only [eL_21, xRl, xG1, xG2, kAll, rAll, nAll, List.map_nil, List.map_cons, List.sum_nil, List.sum_cons, Nat.reduceAdd, Nat.reduceSub, Nat.reduceMul, Nat.reduceLeDiff, Nat.reduceEqDiff, Nat.reduceLT, and_true, true_and, and_self, if_true, if_false, ne_eq, not_false_eq_true, not_true_eq_false, or_false, false_or, or_true, true_or, false_and, and_false, reduceIte, reduceCtorEq, xB, ite_not, xretf_zc, xretf_c, xcont_c, xbd, nI_add]
theorem sw_all {Pr : Nat → Prop} {d : Nat} (x : Int32) (hd : Pr d) : ∀ (cs : List (Int32 × Nat)), (∀ q ∈ cs, Pr q.2) → Pr (x_sw cs d x)
  | [], _ => hd
  | (k, t) :: cs, h => by
    simp only [x_sw]
    split
    · exact h (k, t) List.mem_cons_self
    · exact sw_all x hd cs (fun q hq => h q (List.mem_cons_of_mem _ hq))
theorem xq_sw (tab : List (Nat × xO)) (cs : List (Int32 × Nat)) (d pc al : Nat) (lv st : List Value) (σ : xS) (x : Int32) : xnx tab (x_switch cs d (pc, lv, .int x :: st, al, σ)) = xD tab (x_sw cs d x, lv, st, al, σ) := by
  simp only [x_switch, x_swf_eq]
  rfl
theorem cs_all (h : Cp I J) (hi : i + 6 ≤ L) (hL : L ≤ 384) (x : Int32) : Cs L I J i (x_sw [((nI 0), 232), ((nI 1), 265), ((nI 2), 308), ((nI 3), 341), ((nI 4), 364), ((nI 5), 427), ((nI 6), 450), ((nI 7), 483), ((nI 8), 526), ((nI 9), 549), ((nI 10), 572), ((nI 11), 605), ((nI 12), 638), ((nI 13), 671), ((nI 14), 724), ((nI 15), 737), ((nI 16), 760), ((nI 17), 783), ((nI 18), 806), ((nI 19), 839), ((nI 20), 862), ((nI 21), 895), ((nI 22), 908), ((nI 23), 921), ((nI 24), 954), ((nI 25), 987), ((nI 26), 1020), ((nI 27), 1053), ((nI 28), 1086), ((nI 29), 1119), ((nI 30), 1142), ((nI 31), 1165), ((nI 32), 1208), ((nI 33), 1231), ((nI 34), 1254), ((nI 35), 1287), ((nI 36), 1320), ((nI 37), 1343), ((nI 38), 1366), ((nI 39), 1409), ((nI 40), 1422), ((nI 41), 1436), ((nI 42), 1450), ((nI 43), 1473), ((nI 44), 1486), ((nI 45), 1509)] 1523 x) :=
  sw_all x (cs_1523 h) _ (List.forall_mem_cons.mpr ⟨cs_232 h hi hL, List.forall_mem_cons.mpr ⟨cs_265 h hi hL, List.forall_mem_cons.mpr ⟨cs_308 h hi hL, List.forall_mem_cons.mpr ⟨cs_341 h hi hL, List.forall_mem_cons.mpr ⟨cs_364 h hi hL, List.forall_mem_cons.mpr ⟨cs_427 h hi hL, List.forall_mem_cons.mpr ⟨cs_450 h hi hL, List.forall_mem_cons.mpr ⟨cs_483 h hi hL, List.forall_mem_cons.mpr ⟨cs_526 h hi hL, List.forall_mem_cons.mpr ⟨cs_549 h hi hL, List.forall_mem_cons.mpr ⟨cs_572 h hi hL, List.forall_mem_cons.mpr ⟨cs_605 h hi hL, List.forall_mem_cons.mpr ⟨cs_638 h hi hL, List.forall_mem_cons.mpr ⟨cs_671 h hi hL, List.forall_mem_cons.mpr ⟨cs_724 h hi hL, List.forall_mem_cons.mpr ⟨cs_737 h hi hL, List.forall_mem_cons.mpr ⟨cs_760 h hi hL, List.forall_mem_cons.mpr ⟨cs_783 h hi hL, List.forall_mem_cons.mpr ⟨cs_806 h hi hL, List.forall_mem_cons.mpr ⟨cs_839 h hi hL, List.forall_mem_cons.mpr ⟨cs_862 h hi hL, List.forall_mem_cons.mpr ⟨cs_895 h hi hL, List.forall_mem_cons.mpr ⟨cs_908 h hi hL, List.forall_mem_cons.mpr ⟨cs_921 h hi hL, List.forall_mem_cons.mpr ⟨cs_954 h hi hL, List.forall_mem_cons.mpr ⟨cs_987 h hi hL, List.forall_mem_cons.mpr ⟨cs_1020 h hi hL, List.forall_mem_cons.mpr ⟨cs_1053 h hi hL, List.forall_mem_cons.mpr ⟨cs_1086 h hi hL, List.forall_mem_cons.mpr ⟨cs_1119 h hi hL, List.forall_mem_cons.mpr ⟨cs_1142 h hi hL, List.forall_mem_cons.mpr ⟨cs_1165 h hi hL, List.forall_mem_cons.mpr ⟨cs_1208 h hi hL, List.forall_mem_cons.mpr ⟨cs_1231 h hi hL, List.forall_mem_cons.mpr ⟨cs_1254 h hi hL, List.forall_mem_cons.mpr ⟨cs_1287 h hi hL, List.forall_mem_cons.mpr ⟨cs_1320 h hi hL, List.forall_mem_cons.mpr ⟨cs_1343 h hi hL, List.forall_mem_cons.mpr ⟨cs_1366 h hi hL, List.forall_mem_cons.mpr ⟨cs_1409 h hi hL, List.forall_mem_cons.mpr ⟨cs_1422 h hi hL, List.forall_mem_cons.mpr ⟨cs_1436 h hi hL, List.forall_mem_cons.mpr ⟨cs_1450 h hi hL, List.forall_mem_cons.mpr ⟨cs_1473 h hi hL, List.forall_mem_cons.mpr ⟨cs_1486 h hi hL, List.forall_mem_cons.mpr ⟨cs_1509 h hi hL, fun _ hq => by cases hq⟩⟩⟩⟩⟩⟩⟩⟩⟩⟩⟩⟩⟩⟩⟩⟩⟩⟩⟩⟩⟩⟩⟩⟩⟩⟩⟩⟩⟩⟩⟩⟩⟩⟩⟩⟩⟩⟩⟩⟩⟩⟩⟩⟩⟩⟩)
end LC
