/-! put, what is told, apart, called, owes, name -/
theorem b8 (z : Int32) : z.toInt8.toInt32.toInt8.toInt32 = z.toInt8.toInt32 := by
  have := pk_vb z
  rw [vp_nar_byte] at this
  exact this
theorem txt_cases {I : Nat → Nat → Int32} (h : CpT I) (r : Int32) : ¬ (nI 0 ≤ r ∧ r < nI 4) ∨ ∃ j, j < 4 ∧ r = nI j ∧ ((I (16 + 2 * j) 1 = -1 ∧ I 81 j = -1) ∨ ∃ m, m ≤ 80 ∧ I (16 + 2 * j) 1 = nI m ∧ I 81 j = nI m) := by
  by_cases hr : nI 0 ≤ r ∧ r < nI 4
  · obtain ⟨j, hj, rfl⟩ := (Am_iff (by decide)).mp hr
    obtain ⟨h1, h2, -⟩ := h j hj
    refine Or.inr ⟨j, hj, rfl, ?_⟩
    rcases h2 with h2 | ⟨m, hm, h2⟩
    · exact Or.inl ⟨h1.trans h2, h2⟩
    · exact Or.inr ⟨m, hm, h1.trans h2, h2⟩
  · exact Or.inl hr
theorem Mok_of {I I2 : Nat → Nat → Int32} {n : Nat} (h : Mok I n) (e : I2 78 = I 78) : Mok I2 n := by
  simp only [Mok, mA, mKd, mB, mC, mRg, mOw, mDu, mFa, mv] at h ⊢
  rw [e]
  exact h
theorem shM_of {I I2 : Nat → Nat → Int32} (e : I2 78 = I 78) : shM I2 = shM I := by
  funext y k
  unfold shM
  rw [show mA I2 k = mA I k by unfold mA mv; rw [e], show mFa I2 k = mFa I k by unfold mFa mv; rw [e], show mB I2 k = mB I k by unfold mB mv; rw [e], show mC I2 k = mC I k by unfold mC mv; rw [e]]
theorem rcM_of {I I2 : Nat → Nat → Int32} (e : I2 78 = I 78) : rcM I2 = rcM I := by
  funext y s k
  unfold rcM
  rw [shM_of e, show mKd I2 k = mKd I k by unfold mKd mv; rw [e], show mRg I2 k = mRg I k by unfold mRg mv; rw [e]]
section A1
variable (L : Nat) (I : Nat → Nat → Int32) (J : Nat → Nat → Int64)
theorem rt_bad {r : Int32} (hr : ¬ (nI 0 ≤ r ∧ r < nI 4)) : FX8_refusalOfText [.ref 1, .int r] (S0 L I J) = some (some (.int (-1)), S0 L I J) := by
  rw [fX8_refusalOfText]
  simp (disch := omega) only [eX8_refusalOfText, xRl, xG1, xG2, kAll, rAll, nAll, List.map_nil, List.map_cons, List.sum_nil, List.sum_cons, Nat.reduceAdd, Nat.reduceSub, Nat.reduceMul, Nat.reduceLeDiff, Nat.reduceEqDiff, Nat.reduceLT, and_true, true_and, and_self, if_true, if_false, ne_eq, not_false_eq_true, not_true_eq_false, or_false, false_or, or_true, true_or, false_and, and_false, reduceIte, reduceCtorEq, xB, ite_not, xretf_zc, xretf_c, xcont_c, xbd, p8_among, hr]
theorem rt_none {j : Nat} (hj : j < 4) (hz : I (16 + 2 * j) 1 = -1) : FX8_refusalOfText [.ref 1, .int (nI j)] (S0 L I J) = some (some (.int (-3)), S0 L (fnC I 1) J) := by
  rw [fX8_refusalOfText]
  obtain ⟨k1, k2, k3, k4⟩ := kTxt j hj
  have e : ¬ 16 + 2 * j = 0 := by omega
  simp (disch := omega) only [eX8_refusalOfText, xRl, xG1, xG2, kAll, rAll, nAll, List.map_nil, List.map_cons, List.sum_nil, List.sum_cons, Nat.reduceAdd, Nat.reduceSub, Nat.reduceMul, Nat.reduceLeDiff, Nat.reduceEqDiff, Nat.reduceLT, and_true, true_and, and_self, if_true, if_false, ne_eq, not_false_eq_true, not_true_eq_false, or_false, false_or, or_true, true_or, false_and, and_false, reduceIte, reduceCtorEq, xB, ite_not, xretf_zc, xretf_c, xcont_c, xbd, p8_among, z_le, lt_t, k1, k3, e, nI_neg0, cl_nI, p7_isThere, hz, m1_ge, p8_findingOf]
theorem rt_ok {j m : Nat} (hj : j < 4) (hm : m ≤ 80) (hz : I (16 + 2 * j) 1 = nI m) : FX8_refusalOfText [.ref 1, .int (nI j)] (S0 L I J) = some (some (.int (nI 0)), S0 L I J) := by
  rw [fX8_refusalOfText]
  obtain ⟨k1, k2, k3, k4⟩ := kTxt j hj
  have e : ¬ 16 + 2 * j = 0 := by omega
  simp (disch := omega) only [eX8_refusalOfText, xRl, xG1, xG2, kAll, rAll, nAll, List.map_nil, List.map_cons, List.sum_nil, List.sum_cons, Nat.reduceAdd, Nat.reduceSub, Nat.reduceMul, Nat.reduceLeDiff, Nat.reduceEqDiff, Nat.reduceLT, and_true, true_and, and_self, if_true, if_false, ne_eq, not_false_eq_true, not_true_eq_false, or_false, false_or, or_true, true_or, false_and, and_false, reduceIte, reduceCtorEq, xB, ite_not, xretf_zc, xretf_c, xcont_c, xbd, p8_among, z_le, lt_t, k1, k3, e, nI_neg0, cl_nI, p7_isThere, hz]
theorem pr_put (h : Cp I J) (t i v : Int32) : Pair L FX8_put FX9_put [.int t, .int i, .int v] I J := by
  rcases txt_cases h.2.1 t with hr | ⟨j, hj, rfl, ⟨z1, z2⟩ | ⟨m, hm, z1, z2⟩⟩
  · refine ⟨.int (-1), I, J, I, J, ?_, ?_, h⟩
    · rw [fX8_put]
      simp (disch := omega) only [eX8_put, xRl, xG1, xG2, kAll, rAll, nAll, List.map_nil, List.map_cons, List.sum_nil, List.sum_cons, Nat.reduceAdd, Nat.reduceSub, Nat.reduceMul, Nat.reduceLeDiff, Nat.reduceEqDiff, Nat.reduceLT, and_true, true_and, and_self, if_true, if_false, ne_eq, not_false_eq_true, not_true_eq_false, or_false, false_or, or_true, true_or, false_and, and_false, reduceIte, reduceCtorEq, xB, ite_not, xretf_zc, xretf_c, xcont_c, xbd, rt_bad L I J hr, m1_0]
    · rw [fX9_put]
      simp (disch := omega) only [eX9_put, xRl, xG1, xG2, kAll, rAll, nAll, List.map_nil, List.map_cons, List.sum_nil, List.sum_cons, Nat.reduceAdd, Nat.reduceSub, Nat.reduceMul, Nat.reduceLeDiff, Nat.reduceEqDiff, Nat.reduceLT, and_true, true_and, and_self, if_true, if_false, ne_eq, not_false_eq_true, not_true_eq_false, or_false, false_or, or_true, true_or, false_and, and_false, reduceIte, reduceCtorEq, xB, ite_not, xretf_zc, xretf_c, xcont_c, xbd, p9_isText, hr]
  · refine ⟨.int (-3), fnC I 1, J, fnM (fnC I 1) 1, J, ?_, ?_, Cp_find h (by decide)⟩
    · rw [fX8_put]
      simp (disch := omega) only [eX8_put, xRl, xG1, xG2, kAll, rAll, nAll, List.map_nil, List.map_cons, List.sum_nil, List.sum_cons, Nat.reduceAdd, Nat.reduceSub, Nat.reduceMul, Nat.reduceLeDiff, Nat.reduceEqDiff, Nat.reduceLT, and_true, true_and, and_self, if_true, if_false, ne_eq, not_false_eq_true, not_true_eq_false, or_false, false_or, or_true, true_or, false_and, and_false, reduceIte, reduceCtorEq, xB, ite_not, xretf_zc, xretf_c, xcont_c, xbd, rt_none L I J hj z1, m3_0]
    · rw [fX9_put]
      have e : fnC I 1 81 j = -1 := by simp [fnC, xup]; exact z2
      simp (disch := omega) only [eX9_put, xRl, xG1, xG2, kAll, rAll, nAll, List.map_nil, List.map_cons, List.sum_nil, List.sum_cons, Nat.reduceAdd, Nat.reduceSub, Nat.reduceMul, Nat.reduceLeDiff, Nat.reduceEqDiff, Nat.reduceLT, and_true, true_and, and_self, if_true, if_false, ne_eq, not_false_eq_true, not_true_eq_false, or_false, false_or, or_true, true_or, false_and, and_false, reduceIte, reduceCtorEq, xB, ite_not, xretf_zc, xretf_c, xcont_c, xbd, p9_isText, z_le, lt_t, nI_neg0, cl_nI, e, m1_ge, m1_lt, p9_find]
  · obtain ⟨k1, k2, k3, k4⟩ := kTxt j hj
    have k5 := nTxt L j hj
    have e : ¬ 16 + 2 * j = 0 := by omega
    have e2 : ¬ 17 + 2 * j = 0 := by omega
    by_cases hi : nI 0 ≤ i ∧ i < nI m
    · obtain ⟨q, hq, rfl⟩ := (Am_iff (by omega)).mp hi
      have hv := (h.2.1 j hj).2.2 q (by omega)
      generalize hI1 : xup I (17 + 2 * j) q v.toInt8.toInt32 = I1
      have e4 : I1 81 j = nI m := by rw [← hI1, xup_o _ _ _ _ (by omega)]; exact z2
      have e3 : I1 82 (80 * j + q) = I (17 + 2 * j) q := by rw [← hI1, xup_o _ _ _ _ (by omega), hv]
      refine ⟨.int (I (17 + 2 * j) q + nI 1000), I1, J, xup I1 82 (80 * j + q) v.toInt8.toInt32, J, ?_, ?_, ?_⟩
      · rw [fX8_put]
        simp (disch := omega) only [eX8_put, xRl, xG1, xG2, kAll, rAll, nAll, List.map_nil, List.map_cons, List.sum_nil, List.sum_cons, Nat.reduceAdd, Nat.reduceSub, Nat.reduceMul, Nat.reduceLeDiff, Nat.reduceEqDiff, Nat.reduceLT, and_true, true_and, and_self, if_true, if_false, ne_eq, not_false_eq_true, not_true_eq_false, or_false, false_or, or_true, true_or, false_and, and_false, reduceIte, reduceCtorEq, xB, ite_not, xretf_zc, xretf_c, xcont_c, xbd, rt_ok L I J hj hm z1, p8_among, z_le, lt_t, z1, k1, k2, k3, k4, k5, e, e2, nI_neg0, cl_nI, b8, hI1]
      · rw [fX9_put]
        simp (disch := omega) only [eX9_put, xRl, xG1, xG2, kAll, rAll, nAll, List.map_nil, List.map_cons, List.sum_nil, List.sum_cons, Nat.reduceAdd, Nat.reduceSub, Nat.reduceMul, Nat.reduceLeDiff, Nat.reduceEqDiff, Nat.reduceLT, and_true, true_and, and_self, if_true, if_false, ne_eq, not_false_eq_true, not_true_eq_false, or_false, false_or, or_true, true_or, false_and, and_false, reduceIte, reduceCtorEq, xB, ite_not, xretf_zc, xretf_c, xcont_c, xbd, p9_isText, z_le, lt_t, nI_neg0, cl_nI, e4, p9_inV, le_m1, nI_add, pk_mul, e3]
      · refine Cp_txts h (fun c g1 g2 g3 => by rw [xup_ne _ _ _ (by omega), ← hI1, xup_ne _ _ _ (by omega)]) (fun a ha => ?_)
        obtain ⟨h1, h2, h3⟩ := h.2.1 a ha
        rw [← hI1, xup_ne (a := 16 + 2 * a) _ _ _ (by omega), xup_ne (a := 16 + 2 * a) _ _ _ (by omega), xup_ne (a := 81) _ _ _ (by omega), xup_ne (a := 81) _ _ _ (by omega)]
        refine ⟨h1, h2, fun b hb => ?_⟩
        rw [xup_ne (a := 17 + 2 * a) _ _ _ (by omega), xup_self]
        by_cases haj : a = j
        · subst haj
          rw [xup_self]
          by_cases hqi : b = q
          · subst hqi; simp
          · rw [if_neg hqi, if_neg (by omega), xup_ne _ _ _ (by omega)]
            exact h3 b hb
        · rw [xup_ne _ _ _ (by omega), if_neg (by omega), xup_ne _ _ _ (by omega)]
          exact h3 b hb
    · refine ⟨.int (-3), fnC I 2, J, fnM (fnC I 2) 2, J, ?_, ?_, Cp_find h (by decide)⟩
      · rw [fX8_put]
        simp (disch := omega) only [eX8_put, xRl, xG1, xG2, kAll, rAll, nAll, List.map_nil, List.map_cons, List.sum_nil, List.sum_cons, Nat.reduceAdd, Nat.reduceSub, Nat.reduceMul, Nat.reduceLeDiff, Nat.reduceEqDiff, Nat.reduceLT, and_true, true_and, and_self, if_true, if_false, ne_eq, not_false_eq_true, not_true_eq_false, or_false, false_or, or_true, true_or, false_and, and_false, reduceIte, reduceCtorEq, xB, ite_not, xretf_zc, xretf_c, xcont_c, xbd, rt_ok L I J hj hm z1, p8_among, hi, z1, k1, k3, e, nI_neg0, cl_nI, p8_findingOf]
      · have e4 : fnC I 2 81 j = nI m := by simp [fnC, xup]; exact z2
        rw [fX9_put]
        simp (disch := omega) only [eX9_put, xRl, xG1, xG2, kAll, rAll, nAll, List.map_nil, List.map_cons, List.sum_nil, List.sum_cons, Nat.reduceAdd, Nat.reduceSub, Nat.reduceMul, Nat.reduceLeDiff, Nat.reduceEqDiff, Nat.reduceLT, and_true, true_and, and_self, if_true, if_false, ne_eq, not_false_eq_true, not_true_eq_false, or_false, false_or, or_true, true_or, false_and, and_false, reduceIte, reduceCtorEq, xB, ite_not, xretf_zc, xretf_c, xcont_c, xbd, p9_isText, z_le, lt_t, nI_neg0, cl_nI, e4, p9_inV, lt_m1, hi, p9_find]
theorem pr_asked (h : Cp I J) : Pair L FX8_asked FX9_asked [] I J := by
  refine ⟨.int (I 1 10), I, J, I, J, ?_, ?_, h⟩
  · rw [fX8_asked]
    simp (disch := omega) only [eX8_asked, xRl, xG1, xG2, kAll, rAll, nAll, List.map_nil, List.map_cons, List.sum_nil, List.sum_cons, Nat.reduceAdd, Nat.reduceSub, Nat.reduceMul, Nat.reduceLeDiff, Nat.reduceEqDiff, Nat.reduceLT, and_true, true_and, and_self, if_true, if_false, ne_eq, not_false_eq_true, not_true_eq_false, or_false, false_or, or_true, true_or, false_and, and_false, reduceIte, reduceCtorEq, xB, ite_not, xretf_zc, xretf_c, xcont_c, xbd]
  · rw [fX9_asked]
    simp (disch := omega) only [eX9_asked, xRl, xG1, xG2, kAll, rAll, nAll, List.map_nil, List.map_cons, List.sum_nil, List.sum_cons, Nat.reduceAdd, Nat.reduceSub, Nat.reduceMul, Nat.reduceLeDiff, Nat.reduceEqDiff, Nat.reduceLT, and_true, true_and, and_self, if_true, if_false, ne_eq, not_false_eq_true, not_true_eq_false, or_false, false_or, or_true, true_or, false_and, and_false, reduceIte, reduceCtorEq, xB, ite_not, xretf_zc, xretf_c, xcont_c, xbd]
    rw [show I 1 10 = I 77 5 from h.2.2.2.1]
theorem pr_upper (h : Cp I J) : Pair L FX8_upper FX9_upper [] I J := by
  refine ⟨.long (J 1 11), I, J, I, J, ?_, ?_, h⟩
  · rw [fX8_upper]
    simp (disch := omega) only [eX8_upper, xRl, xG1, xG2, kAll, rAll, nAll, List.map_nil, List.map_cons, List.sum_nil, List.sum_cons, Nat.reduceAdd, Nat.reduceSub, Nat.reduceMul, Nat.reduceLeDiff, Nat.reduceEqDiff, Nat.reduceLT, and_true, true_and, and_self, if_true, if_false, ne_eq, not_false_eq_true, not_true_eq_false, or_false, false_or, or_true, true_or, false_and, and_false, reduceIte, reduceCtorEq, xB, ite_not, xretf_zc, xretf_c, xcont_c, xbd]
  · rw [fX9_upper]
    simp (disch := omega) only [eX9_upper, xRl, xG1, xG2, kAll, rAll, nAll, List.map_nil, List.map_cons, List.sum_nil, List.sum_cons, Nat.reduceAdd, Nat.reduceSub, Nat.reduceMul, Nat.reduceLeDiff, Nat.reduceEqDiff, Nat.reduceLT, and_true, true_and, and_self, if_true, if_false, ne_eq, not_false_eq_true, not_true_eq_false, or_false, false_or, or_true, true_or, false_and, and_false, reduceIte, reduceCtorEq, xB, ite_not, xretf_zc, xretf_c, xcont_c, xbd]
    rw [h.2.2.2.2.1.1]
theorem pr_lower (h : Cp I J) : Pair L FX8_lower FX9_lower [] I J := by
  refine ⟨.long (J 1 12), I, J, I, J, ?_, ?_, h⟩
  · rw [fX8_lower]
    simp (disch := omega) only [eX8_lower, xRl, xG1, xG2, kAll, rAll, nAll, List.map_nil, List.map_cons, List.sum_nil, List.sum_cons, Nat.reduceAdd, Nat.reduceSub, Nat.reduceMul, Nat.reduceLeDiff, Nat.reduceEqDiff, Nat.reduceLT, and_true, true_and, and_self, if_true, if_false, ne_eq, not_false_eq_true, not_true_eq_false, or_false, false_or, or_true, true_or, false_and, and_false, reduceIte, reduceCtorEq, xB, ite_not, xretf_zc, xretf_c, xcont_c, xbd]
  · rw [fX9_lower]
    simp (disch := omega) only [eX9_lower, xRl, xG1, xG2, kAll, rAll, nAll, List.map_nil, List.map_cons, List.sum_nil, List.sum_cons, Nat.reduceAdd, Nat.reduceSub, Nat.reduceMul, Nat.reduceLeDiff, Nat.reduceEqDiff, Nat.reduceLT, and_true, true_and, and_self, if_true, if_false, ne_eq, not_false_eq_true, not_true_eq_false, or_false, false_or, or_true, true_or, false_and, and_false, reduceIte, reduceCtorEq, xB, ite_not, xretf_zc, xretf_c, xcont_c, xbd]
    rw [h.2.2.2.2.1.2]
theorem pr_finding (h : Cp I J) : Pair L FX8_finding FX9_finding [] I J := by
  refine ⟨.int (I 1 9), I, J, I, J, ?_, ?_, h⟩
  · rw [fX8_finding]
    simp (disch := omega) only [eX8_finding, xRl, xG1, xG2, kAll, rAll, nAll, List.map_nil, List.map_cons, List.sum_nil, List.sum_cons, Nat.reduceAdd, Nat.reduceSub, Nat.reduceMul, Nat.reduceLeDiff, Nat.reduceEqDiff, Nat.reduceLT, and_true, true_and, and_self, if_true, if_false, ne_eq, not_false_eq_true, not_true_eq_false, or_false, false_or, or_true, true_or, false_and, and_false, reduceIte, reduceCtorEq, xB, ite_not, xretf_zc, xretf_c, xcont_c, xbd]
  · rw [fX9_finding]
    simp (disch := omega) only [eX9_finding, xRl, xG1, xG2, kAll, rAll, nAll, List.map_nil, List.map_cons, List.sum_nil, List.sum_cons, Nat.reduceAdd, Nat.reduceSub, Nat.reduceMul, Nat.reduceLeDiff, Nat.reduceEqDiff, Nat.reduceLT, and_true, true_and, and_self, if_true, if_false, ne_eq, not_false_eq_true, not_true_eq_false, or_false, false_or, or_true, true_or, false_and, and_false, reduceIte, reduceCtorEq, xB, ite_not, xretf_zc, xretf_c, xcont_c, xbd]
    rw [h.2.2.1.1]
theorem pr_findings (h : Cp I J) (f : Int32) : Pair L FX8_findings FX9_findings [.int f] I J := by
  by_cases hf : nI 1 ≤ f ∧ f < nI 6
  · obtain ⟨q, hq, rfl⟩ := nI_of (x := f) (Int32.not_lt.mpr (Int32.le_trans (by decide) hf.1))
    have h1 := (nI_leI (by decide) hq).mp hf.1
    have h2 := (nI_ltI hq (by decide)).mp hf.2
    refine ⟨.int (I 76 q), I, J, I, J, ?_, ?_, h⟩
    · rw [fX8_findings]
      simp (disch := omega) only [eX8_findings, xRl, xG1, xG2, kAll, rAll, nAll, List.map_nil, List.map_cons, List.sum_nil, List.sum_cons, Nat.reduceAdd, Nat.reduceSub, Nat.reduceMul, Nat.reduceLeDiff, Nat.reduceEqDiff, Nat.reduceLT, and_true, true_and, and_self, if_true, if_false, ne_eq, not_false_eq_true, not_true_eq_false, or_false, false_or, or_true, true_or, false_and, and_false, reduceIte, reduceCtorEq, xB, ite_not, xretf_zc, xretf_c, xcont_c, xbd, nI_ltI, nI_leI, nI_neg0, cl_nI]
      rw [if_neg (by omega), if_pos (by omega)]
    · rw [fX9_findings]
      simp (disch := omega) only [eX9_findings, xRl, xG1, xG2, kAll, rAll, nAll, List.map_nil, List.map_cons, List.sum_nil, List.sum_cons, Nat.reduceAdd, Nat.reduceSub, Nat.reduceMul, Nat.reduceLeDiff, Nat.reduceEqDiff, Nat.reduceLT, and_true, true_and, and_self, if_true, if_false, ne_eq, not_false_eq_true, not_true_eq_false, or_false, false_or, or_true, true_or, false_and, and_false, reduceIte, reduceCtorEq, xB, ite_not, xretf_zc, xretf_c, xcont_c, xbd, p9_inL, hf, nI_neg0, cl_nI]
      rw [h.2.2.1.2 q h2]
  · refine ⟨.int (-1), I, J, I, J, ?_, ?_, h⟩
    · rw [fX8_findings]
      simp (disch := omega) only [eX8_findings, xRl, xG1, xG2, kAll, rAll, nAll, List.map_nil, List.map_cons, List.sum_nil, List.sum_cons, Nat.reduceAdd, Nat.reduceSub, Nat.reduceMul, Nat.reduceLeDiff, Nat.reduceEqDiff, Nat.reduceLT, and_true, true_and, and_self, if_true, if_false, ne_eq, not_false_eq_true, not_true_eq_false, or_false, false_or, or_true, true_or, false_and, and_false, reduceIte, reduceCtorEq, xB, ite_not, xretf_zc, xretf_c, xcont_c, xbd]
      by_cases h1 : f < nI 1
      · rw [if_pos h1]
      · rw [if_neg h1, if_neg (fun q => hf ⟨Int32.not_lt.mp h1, (le_lt (by decide)).mp q⟩)]
    · rw [fX9_findings]
      simp (disch := omega) only [eX9_findings, xRl, xG1, xG2, kAll, rAll, nAll, List.map_nil, List.map_cons, List.sum_nil, List.sum_cons, Nat.reduceAdd, Nat.reduceSub, Nat.reduceMul, Nat.reduceLeDiff, Nat.reduceEqDiff, Nat.reduceLT, and_true, true_and, and_self, if_true, if_false, ne_eq, not_false_eq_true, not_true_eq_false, or_false, false_or, or_true, true_or, false_and, and_false, reduceIte, reduceCtorEq, xB, ite_not, xretf_zc, xretf_c, xcont_c, xbd, p9_inL, hf]
theorem p8_farApart {s t : Nat} (hs : s < 216) (ht : t < 216) (σ : xS) : FX8_farApart [.int (nI s), .int (nI t)] σ = some (some (.int (nI (farN 0 s t))), σ) := by
  rw [fX8_farApart]
  simp (disch := omega) only [eX8_farApart, xRl, xG1, xG2, kAll, rAll, nAll, List.map_nil, List.map_cons, List.sum_nil, List.sum_cons, Nat.reduceAdd, Nat.reduceSub, Nat.reduceMul, Nat.reduceLeDiff, Nat.reduceEqDiff, Nat.reduceLT, and_true, true_and, and_self, if_true, if_false, ne_eq, not_false_eq_true, not_true_eq_false, or_false, false_or, or_true, true_or, false_and, and_false, reduceIte, reduceCtorEq, xB, ite_not, xretf_zc, xretf_c, xcont_c, xbd, p1_farFrom]
theorem pr_apart (h : Cp I J) (s t : Int32) : Pair L FX8_apart FX9_apart [.int s, .int t] I J := by
  by_cases hs : nI 0 ≤ s ∧ s < nI 216
  · by_cases ht : nI 0 ≤ t ∧ t < nI 216
    · obtain ⟨a, ha, rfl⟩ := (Am_iff (by decide)).mp hs
      obtain ⟨b, hb, rfl⟩ := (Am_iff (by decide)).mp ht
      refine ⟨.int (nI (farN 0 a b)), I, J, I, J, ?_, ?_, h⟩
      · rw [fX8_apart]
        simp (disch := omega) only [eX8_apart, xRl, xG1, xG2, kAll, rAll, nAll, List.map_nil, List.map_cons, List.sum_nil, List.sum_cons, Nat.reduceAdd, Nat.reduceSub, Nat.reduceMul, Nat.reduceLeDiff, Nat.reduceEqDiff, Nat.reduceLT, and_true, true_and, and_self, if_true, if_false, ne_eq, not_false_eq_true, not_true_eq_false, or_false, false_or, or_true, true_or, false_and, and_false, reduceIte, reduceCtorEq, xB, ite_not, xretf_zc, xretf_c, xcont_c, xbd, p8_among, hs, ht, p8_farApart]
      · rw [fX9_apart]
        simp (disch := omega) only [eX9_apart, xRl, xG1, xG2, kAll, rAll, nAll, List.map_nil, List.map_cons, List.sum_nil, List.sum_cons, Nat.reduceAdd, Nat.reduceSub, Nat.reduceMul, Nat.reduceLeDiff, Nat.reduceEqDiff, Nat.reduceLT, and_true, true_and, and_self, if_true, if_false, ne_eq, not_false_eq_true, not_true_eq_false, or_false, false_or, or_true, true_or, false_and, and_false, reduceIte, reduceCtorEq, xB, ite_not, xretf_zc, xretf_c, xcont_c, xbd, p9_isSh, hs, ht, p9_far]
    · refine ⟨.int (-1), I, J, I, J, ?_, ?_, h⟩
      · rw [fX8_apart]
        simp (disch := omega) only [eX8_apart, xRl, xG1, xG2, kAll, rAll, nAll, List.map_nil, List.map_cons, List.sum_nil, List.sum_cons, Nat.reduceAdd, Nat.reduceSub, Nat.reduceMul, Nat.reduceLeDiff, Nat.reduceEqDiff, Nat.reduceLT, and_true, true_and, and_self, if_true, if_false, ne_eq, not_false_eq_true, not_true_eq_false, or_false, false_or, or_true, true_or, false_and, and_false, reduceIte, reduceCtorEq, xB, ite_not, xretf_zc, xretf_c, xcont_c, xbd, p8_among, hs, ht]
      · rw [fX9_apart]
        simp (disch := omega) only [eX9_apart, xRl, xG1, xG2, kAll, rAll, nAll, List.map_nil, List.map_cons, List.sum_nil, List.sum_cons, Nat.reduceAdd, Nat.reduceSub, Nat.reduceMul, Nat.reduceLeDiff, Nat.reduceEqDiff, Nat.reduceLT, and_true, true_and, and_self, if_true, if_false, ne_eq, not_false_eq_true, not_true_eq_false, or_false, false_or, or_true, true_or, false_and, and_false, reduceIte, reduceCtorEq, xB, ite_not, xretf_zc, xretf_c, xcont_c, xbd, p9_isSh, hs, ht]
  · refine ⟨.int (-1), I, J, I, J, ?_, ?_, h⟩
    · rw [fX8_apart]
      simp (disch := omega) only [eX8_apart, xRl, xG1, xG2, kAll, rAll, nAll, List.map_nil, List.map_cons, List.sum_nil, List.sum_cons, Nat.reduceAdd, Nat.reduceSub, Nat.reduceMul, Nat.reduceLeDiff, Nat.reduceEqDiff, Nat.reduceLT, and_true, true_and, and_self, if_true, if_false, ne_eq, not_false_eq_true, not_true_eq_false, or_false, false_or, or_true, true_or, false_and, and_false, reduceIte, reduceCtorEq, xB, ite_not, xretf_zc, xretf_c, xcont_c, xbd, p8_among, hs]
    · rw [fX9_apart]
      simp (disch := omega) only [eX9_apart, xRl, xG1, xG2, kAll, rAll, nAll, List.map_nil, List.map_cons, List.sum_nil, List.sum_cons, Nat.reduceAdd, Nat.reduceSub, Nat.reduceMul, Nat.reduceLeDiff, Nat.reduceEqDiff, Nat.reduceLT, and_true, true_and, and_self, if_true, if_false, ne_eq, not_false_eq_true, not_true_eq_false, or_false, false_or, or_true, true_or, false_and, and_false, reduceIte, reduceCtorEq, xB, ite_not, xretf_zc, xretf_c, xcont_c, xbd, p9_isSh, hs]
theorem p4_reachersOf (n yr s : Nat) (hC : Cok I n yr) (hs : s < 216) : FX4_reachersOf [.ref 24, .int (nI s)] (S0 L I J) = some (some (.int (nI (msk (rcC I yr 0 s) n))), S0 L I J) := by
  rw [fX4_reachersOf]
  have hn := hC.1
  have h1 := hC.2.1
  simp (disch := omega) only [eX4_reachersOf, xRl, xG1, xG2, kAll, rAll, nAll, List.map_nil, List.map_cons, List.sum_nil, List.sum_cons, Nat.reduceAdd, Nat.reduceSub, Nat.reduceMul, Nat.reduceLeDiff, Nat.reduceEqDiff, Nat.reduceLT, and_true, true_and, and_self, if_true, if_false, ne_eq, not_false_eq_true, not_true_eq_false, or_false, false_or, or_true, true_or, false_and, and_false, reduceIte, reduceCtorEq, xB, ite_not, xretf_zc, xretf_c, xcont_c, xbd]
  have key := xloop (t := tX4_reachersOf) (st := fun i (_ : Unit) => (4, [.ref 24, .int (nI s), .int (nI (msk (rcC I yr 0 s) i)), .int (nI i)], [], 0, S0 L I J)) (g := fun _ _ => ()) (N := n) (Inv := fun _ _ => True) (a0 := ()) trivial (by
    intro i a hi _
    refine ⟨?_, trivial⟩
    have hm := msk_lt (rcC I yr 0 s) i
    show xD tX4_reachersOf (4, _) = _
    rw [hX4_reachersOf_4]
    simp (disch := omega) only [eX4_reachersOf, xRl, xG1, xG2, kAll, rAll, nAll, List.map_nil, List.map_cons, List.sum_nil, List.sum_cons, Nat.reduceAdd, Nat.reduceSub, Nat.reduceMul, Nat.reduceLeDiff, Nat.reduceEqDiff, Nat.reduceLT, and_true, true_and, and_self, if_true, if_false, ne_eq, not_false_eq_true, not_true_eq_false, or_false, false_or, or_true, true_or, false_and, and_false, reduceIte, reduceCtorEq, xB, ite_not, xretf_zc, xretf_c, xcont_c, xbd, h1, nI_leI, p4_nameReaches L I J n yr 0 i s hC hi (by omega) hs, shl1, nI_add]
    rw [if_neg (by omega)]
    show _ = xD tX4_reachersOf (4, [_, _, .int (nI (msk (rcC I yr 0 s) i + _)), _], _)
    split
    · rw [or_pow hm]
    · rfl) n (Nat.le_refl n)
  rw [show xD tX4_reachersOf (4, [.ref 24, .int (nI s), .int (nI 0), .int (nI 0)], [], 0, S0 L I J) = _ from key.1, hX4_reachersOf_4]
  simp (disch := omega) only [eX4_reachersOf, xRl, xG1, xG2, kAll, rAll, nAll, List.map_nil, List.map_cons, List.sum_nil, List.sum_cons, Nat.reduceAdd, Nat.reduceSub, Nat.reduceMul, Nat.reduceLeDiff, Nat.reduceEqDiff, Nat.reduceLT, and_true, true_and, and_self, if_true, if_false, ne_eq, not_false_eq_true, not_true_eq_false, or_false, false_or, or_true, true_or, false_and, and_false, reduceIte, reduceCtorEq, xB, ite_not, xretf_zc, xretf_c, xcont_c, xbd, h1, nI_leI]
  rw [if_pos (Nat.le_refl n)]
theorem pr_called (h : Cp I J) (s : Int32) : Pair L FX8_called FX9_called [.int s] I J := by
  by_cases hs : nI 0 ≤ s ∧ s < nI 216
  · obtain ⟨a, ha, rfl⟩ := (Am_iff (by decide)).mp hs
    obtain ⟨n, d, yr, hR⟩ := h.2.2.2.2.2.2.1
    obtain ⟨hM, hC, hE⟩ := RC_M hR
    have hn := hM.1
    have e1 : msk (rcM I 0 a) n = msk (rcC I yr 0 a) n := msk_congr (fun k hk => RC_rc hR 0 a k hk)
    have e2 : fstv (rcM I 0 a) nI (-9) 0 n = fstv (rcC I yr 0 a) nI (-9) 0 n := fstv_congr (fun k _ hk => ⟨RC_rc hR 0 a k (by omega), rfl⟩)
    have h1 := msk_lt (rcM I 0 a) n
    have h2 : 2 ^ n ≤ 2 ^ 8 := Nat.pow_le_pow_right (by omega) hn
    generalize hv : nI (msk (rcC I yr 0 a) n) = v
    have e3 : xup I 1 10 v 78 = I 78 := xup_ne _ _ _ (by decide)
    have hC2 : Cok (xup I 1 10 v) n yr := by
      unfold Cok
      have e : ∀ k, k < 40 → xup I 1 10 v (24 + k) = I (24 + k) := fun k _ => xup_ne _ _ _ (by omega)
      refine ⟨hC.1, by rw [e 0 (by omega)]; exact hC.2.1, by rw [e 0 (by omega)]; exact hC.2.2.1, hC.2.2.2.1, fun k hk => ?_⟩
      have e9 : xup I 1 10 v (26 + k) = I (26 + k) := xup_ne _ _ _ (by omega)
      unfold cv
      rw [e9]
      exact hC.2.2.2.2 k hk
    have e4 : rcC (xup I 1 10 v) yr 0 a = rcC I yr 0 a := by
      funext k
      have e9 : xup I 1 10 v (26 + k) = I (26 + k) := xup_ne _ _ _ (by omega)
      unfold rcC shC cv
      rw [e9]
    refine ⟨.int (fstv (rcC I yr 0 a) nI (-9) 0 n), xup I 1 10 v, J, xup (xup I 1 10 v) 77 5 v, J, ?_, ?_, Cp_told h v⟩
    · rw [fX8_called]
      simp (disch := omega) only [eX8_called, xRl, xG1, xG2, kAll, rAll, nAll, List.map_nil, List.map_cons, List.sum_nil, List.sum_cons, Nat.reduceAdd, Nat.reduceSub, Nat.reduceMul, Nat.reduceLeDiff, Nat.reduceEqDiff, Nat.reduceLT, and_true, true_and, and_self, if_true, if_false, ne_eq, not_false_eq_true, not_true_eq_false, or_false, false_or, or_true, true_or, false_and, and_false, reduceIte, reduceCtorEq, xB, ite_not, xretf_zc, xretf_c, xcont_c, xbd, p8_among, hs, p4_reachersOf L I J n yr a hC ha, hv, p4_callerOf L (xup I 1 10 v) J n yr 0 a hC2 (by omega) ha, e4]
    · rw [fX9_called]
      have e5 : xup I 1 10 v 77 15 = nI 0 := by rw [xup_o _ _ _ _ (by decide)]; exact h.2.2.2.2.2.1
      have e6 : nI (msk (rcM I 0 a) n) = v := by rw [e1, hv]
      simp (disch := omega) only [eX9_called, xRl, xG1, xG2, kAll, rAll, nAll, List.map_nil, List.map_cons, List.sum_nil, List.sum_cons, Nat.reduceAdd, Nat.reduceSub, Nat.reduceMul, Nat.reduceLeDiff, Nat.reduceEqDiff, Nat.reduceLT, and_true, true_and, and_self, if_true, if_false, ne_eq, not_false_eq_true, not_true_eq_false, or_false, false_or, or_true, true_or, false_and, and_false, reduceIte, reduceCtorEq, xB, ite_not, xretf_zc, xretf_c, xcont_c, xbd, p9_isSh, hs, p9_reaching L (xup I 1 10 v) J n 0 a (Mok_of hM e3) e5 (by omega) ha, rcM_of e3, e6]
      have e7 : xup (xup I 1 10 v) 77 5 v 77 5 = v := by simp [xup]
      rw [e7, ← e6]
      simp (disch := omega) only [eX9_called, xRl, xG1, xG2, kAll, rAll, nAll, List.map_nil, List.map_cons, List.sum_nil, List.sum_cons, Nat.reduceAdd, Nat.reduceSub, Nat.reduceMul, Nat.reduceLeDiff, Nat.reduceEqDiff, Nat.reduceLT, and_true, true_and, and_self, if_true, if_false, ne_eq, not_false_eq_true, not_true_eq_false, or_false, false_or, or_true, true_or, false_and, and_false, reduceIte, reduceCtorEq, xB, ite_not, xretf_zc, xretf_c, xcont_c, xbd, p9_firstOf]
      rw [tb_eq hn, e2]
  · refine ⟨.int (-1), I, J, I, J, ?_, ?_, h⟩
    · rw [fX8_called]
      simp (disch := omega) only [eX8_called, xRl, xG1, xG2, kAll, rAll, nAll, List.map_nil, List.map_cons, List.sum_nil, List.sum_cons, Nat.reduceAdd, Nat.reduceSub, Nat.reduceMul, Nat.reduceLeDiff, Nat.reduceEqDiff, Nat.reduceLT, and_true, true_and, and_self, if_true, if_false, ne_eq, not_false_eq_true, not_true_eq_false, or_false, false_or, or_true, true_or, false_and, and_false, reduceIte, reduceCtorEq, xB, ite_not, xretf_zc, xretf_c, xcont_c, xbd, p8_among, hs]
    · rw [fX9_called]
      simp (disch := omega) only [eX9_called, xRl, xG1, xG2, kAll, rAll, nAll, List.map_nil, List.map_cons, List.sum_nil, List.sum_cons, Nat.reduceAdd, Nat.reduceSub, Nat.reduceMul, Nat.reduceLeDiff, Nat.reduceEqDiff, Nat.reduceLT, and_true, true_and, and_self, if_true, if_false, ne_eq, not_false_eq_true, not_true_eq_false, or_false, false_or, or_true, true_or, false_and, and_false, reduceIte, reduceCtorEq, xB, ite_not, xretf_zc, xretf_c, xcont_c, xbd, p9_isSh, hs]
theorem owe_eq {n d yr : Nat} (hR : RC I 24 0 n d yr) (p s : Nat) : fstv (rcM I 0 s) (owe (mOw I) (mKd I) (mDu I) p) (nI 0) 0 n = fstv (rcC I yr 0 s) (owe (fun k => cv I k 3) (fun k => cv I k 0) (fun k => cv I k 4) p) (nI 0) 0 n :=
  fstv_congr (fun k _ hk => by
    obtain ⟨⟨e1, e2, e3, e4, e5⟩, -⟩ := (RC_M hR).2.2 k (by omega)
    refine ⟨RC_rc hR 0 s k (by omega), ?_⟩
    unfold owe
    rw [e1, e3, e4])
theorem pr_owes (h : Cp I J) (p s : Int32) : Pair L FX8_owes FX9_owes [.int p, .int s] I J := by
  by_cases hp : nI 0 ≤ p ∧ p < nI 4
  · by_cases hs : nI 0 ≤ s ∧ s < nI 216
    · obtain ⟨a, ha, rfl⟩ := (Am_iff (by decide)).mp hs
      obtain ⟨b, hb, rfl⟩ := (Am_iff (by decide)).mp hp
      obtain ⟨n, d, yr, hR⟩ := h.2.2.2.2.2.2.1
      obtain ⟨hM, hC, hE⟩ := RC_M hR
      refine ⟨.int (fstv (rcC I yr 0 a) (owe (fun k => cv I k 3) (fun k => cv I k 0) (fun k => cv I k 4) b) (nI 0) 0 n), I, J, I, J, ?_, ?_, h⟩
      · rw [fX8_owes]
        simp (disch := omega) only [eX8_owes, xRl, xG1, xG2, kAll, rAll, nAll, List.map_nil, List.map_cons, List.sum_nil, List.sum_cons, Nat.reduceAdd, Nat.reduceSub, Nat.reduceMul, Nat.reduceLeDiff, Nat.reduceEqDiff, Nat.reduceLT, and_true, true_and, and_self, if_true, if_false, ne_eq, not_false_eq_true, not_true_eq_false, or_false, false_or, or_true, true_or, false_and, and_false, reduceIte, reduceCtorEq, xB, ite_not, xretf_zc, xretf_c, xcont_c, xbd, p8_among, hs, hp, p4_owedBy L I J n yr b a hC hb ha]
      · rw [fX9_owes]
        simp (disch := omega) only [eX9_owes, xRl, xG1, xG2, kAll, rAll, nAll, List.map_nil, List.map_cons, List.sum_nil, List.sum_cons, Nat.reduceAdd, Nat.reduceSub, Nat.reduceMul, Nat.reduceLeDiff, Nat.reduceEqDiff, Nat.reduceLT, and_true, true_and, and_self, if_true, if_false, ne_eq, not_false_eq_true, not_true_eq_false, or_false, false_or, or_true, true_or, false_and, and_false, reduceIte, reduceCtorEq, xB, ite_not, xretf_zc, xretf_c, xcont_c, xbd, p9_isSh, p9_isPe, hs, hp, p9_dueFor L I J n b a hM h.2.2.2.2.2.1 hb ha]
        rw [owe_eq I hR]
    · refine ⟨.int (-1), I, J, I, J, ?_, ?_, h⟩
      · rw [fX8_owes]
        simp (disch := omega) only [eX8_owes, xRl, xG1, xG2, kAll, rAll, nAll, List.map_nil, List.map_cons, List.sum_nil, List.sum_cons, Nat.reduceAdd, Nat.reduceSub, Nat.reduceMul, Nat.reduceLeDiff, Nat.reduceEqDiff, Nat.reduceLT, and_true, true_and, and_self, if_true, if_false, ne_eq, not_false_eq_true, not_true_eq_false, or_false, false_or, or_true, true_or, false_and, and_false, reduceIte, reduceCtorEq, xB, ite_not, xretf_zc, xretf_c, xcont_c, xbd, p8_among, hs, hp]
      · rw [fX9_owes]
        simp (disch := omega) only [eX9_owes, xRl, xG1, xG2, kAll, rAll, nAll, List.map_nil, List.map_cons, List.sum_nil, List.sum_cons, Nat.reduceAdd, Nat.reduceSub, Nat.reduceMul, Nat.reduceLeDiff, Nat.reduceEqDiff, Nat.reduceLT, and_true, true_and, and_self, if_true, if_false, ne_eq, not_false_eq_true, not_true_eq_false, or_false, false_or, or_true, true_or, false_and, and_false, reduceIte, reduceCtorEq, xB, ite_not, xretf_zc, xretf_c, xcont_c, xbd, p9_isSh, p9_isPe, hs, hp]
  · refine ⟨.int (-1), I, J, I, J, ?_, ?_, h⟩
    · rw [fX8_owes]
      simp (disch := omega) only [eX8_owes, xRl, xG1, xG2, kAll, rAll, nAll, List.map_nil, List.map_cons, List.sum_nil, List.sum_cons, Nat.reduceAdd, Nat.reduceSub, Nat.reduceMul, Nat.reduceLeDiff, Nat.reduceEqDiff, Nat.reduceLT, and_true, true_and, and_self, if_true, if_false, ne_eq, not_false_eq_true, not_true_eq_false, or_false, false_or, or_true, true_or, false_and, and_false, reduceIte, reduceCtorEq, xB, ite_not, xretf_zc, xretf_c, xcont_c, xbd, p8_among, hp]
    · rw [fX9_owes]
      simp (disch := omega) only [eX9_owes, xRl, xG1, xG2, kAll, rAll, nAll, List.map_nil, List.map_cons, List.sum_nil, List.sum_cons, Nat.reduceAdd, Nat.reduceSub, Nat.reduceMul, Nat.reduceLeDiff, Nat.reduceEqDiff, Nat.reduceLT, and_true, true_and, and_self, if_true, if_false, ne_eq, not_false_eq_true, not_true_eq_false, or_false, false_or, or_true, true_or, false_and, and_false, reduceIte, reduceCtorEq, xB, ite_not, xretf_zc, xretf_c, xcont_c, xbd, p9_isPe, hp]
end A1
