/-! tear, mean, text, put, what is told -/
def sumL (f : Nat → Int32) : Nat → Int64
  | 0 => 0
  | k + 1 => sumL f k + (f k).toInt64
theorem sumL_congr {f g : Nat → Int32} : ∀ {k : Nat}, (∀ i, i < k → f i = g i) → sumL f k = sumL g k
  | 0, _ => rfl
  | k + 1, h => by unfold sumL; rw [h k (by omega), sumL_congr (fun i hi => h i (by omega))]
theorem nI64_0 {m : Nat} (h0 : 0 < m) (h : m < 2 ^ 31) : ((nI m).toInt64 = 0) ↔ False := by
  rw [nI_l h]
  constructor
  · intro q
    have := (lN_eq (b := 0) h (by decide)).mp q
    omega
  · intro q; exact q.elim
section T1
variable (L : Nat) (I : Nat → Nat → Int32) (J : Nat → Nat → Int64)
theorem p5_remove {j : Nat} (hj : j < 6) : FX5_remove [.ref (3 + 2 * j)] (S0 L I J) = some (none, S0 L (xup I (3 + 2 * j) 1 (-1)) J) := by
  rw [fX5_remove]
  obtain ⟨k1, k2, k3, k4⟩ := kRow j hj
  simp (disch := omega) only [eX5_remove, xRl, xG1, xG2, kAll, rAll, nAll, List.map_nil, List.map_cons, List.sum_nil, List.sum_cons, Nat.reduceAdd, Nat.reduceSub, Nat.reduceMul, Nat.reduceLeDiff, Nat.reduceEqDiff, Nat.reduceLT, and_true, true_and, and_self, if_true, if_false, ne_eq, not_false_eq_true, not_true_eq_false, or_false, false_or, or_true, true_or, false_and, and_false, reduceIte, reduceCtorEq, xB, ite_not, xretf_zc, xretf_c, xcont_c, xbd, k1]
theorem pr_tear (h : Cp I J) (r : Int32) : Pair L FX8_tear FX9_tear [.int r] I J := by
  rcases row_cases h.1 r with hr | ⟨j, hj, rfl, ⟨z1, z2⟩ | ⟨m, hm, z1, z2⟩⟩
  · refine ⟨.int (-1), I, J, I, J, ?_, ?_, h⟩
    · rw [fX8_tear]
      simp (disch := omega) only [eX8_tear, xRl, xG1, xG2, kAll, rAll, nAll, List.map_nil, List.map_cons, List.sum_nil, List.sum_cons, Nat.reduceAdd, Nat.reduceSub, Nat.reduceMul, Nat.reduceLeDiff, Nat.reduceEqDiff, Nat.reduceLT, and_true, true_and, and_self, if_true, if_false, ne_eq, not_false_eq_true, not_true_eq_false, or_false, false_or, or_true, true_or, false_and, and_false, reduceIte, reduceCtorEq, xB, ite_not, xretf_zc, xretf_c, xcont_c, xbd, rr_bad L I J hr, m1_0]
    · rw [fX9_tear]
      simp (disch := omega) only [eX9_tear, xRl, xG1, xG2, kAll, rAll, nAll, List.map_nil, List.map_cons, List.sum_nil, List.sum_cons, Nat.reduceAdd, Nat.reduceSub, Nat.reduceMul, Nat.reduceLeDiff, Nat.reduceEqDiff, Nat.reduceLT, and_true, true_and, and_self, if_true, if_false, ne_eq, not_false_eq_true, not_true_eq_false, or_false, false_or, or_true, true_or, false_and, and_false, reduceIte, reduceCtorEq, xB, ite_not, xretf_zc, xretf_c, xcont_c, xbd, p9_isRow, hr]
  · refine ⟨.int (-3), fnC I 1, J, fnM (fnC I 1) 1, J, ?_, ?_, Cp_find h (by decide)⟩
    · rw [fX8_tear]
      simp (disch := omega) only [eX8_tear, xRl, xG1, xG2, kAll, rAll, nAll, List.map_nil, List.map_cons, List.sum_nil, List.sum_cons, Nat.reduceAdd, Nat.reduceSub, Nat.reduceMul, Nat.reduceLeDiff, Nat.reduceEqDiff, Nat.reduceLT, and_true, true_and, and_self, if_true, if_false, ne_eq, not_false_eq_true, not_true_eq_false, or_false, false_or, or_true, true_or, false_and, and_false, reduceIte, reduceCtorEq, xB, ite_not, xretf_zc, xretf_c, xcont_c, xbd, rr_none L I J hj z1, m3_0]
    · rw [fX9_tear]
      have e : fnC I 1 79 j = -1 := by simp [fnC, xup]; exact z2
      simp (disch := omega) only [eX9_tear, xRl, xG1, xG2, kAll, rAll, nAll, List.map_nil, List.map_cons, List.sum_nil, List.sum_cons, Nat.reduceAdd, Nat.reduceSub, Nat.reduceMul, Nat.reduceLeDiff, Nat.reduceEqDiff, Nat.reduceLT, and_true, true_and, and_self, if_true, if_false, ne_eq, not_false_eq_true, not_true_eq_false, or_false, false_or, or_true, true_or, false_and, and_false, reduceIte, reduceCtorEq, xB, ite_not, xretf_zc, xretf_c, xcont_c, xbd, p9_isRow, z_le, lt_t, nI_neg0, cl_nI, e, m1_ge, m1_lt, p9_find]
  · obtain ⟨k1, k2, k3, k4⟩ := kRow j hj
    have e : ¬ 3 + 2 * j = 0 := by omega
    have e2 : xup I (3 + 2 * j) 1 (-1) 79 j = nI m := by rw [xup_o _ _ _ _ (by omega)]; exact z2
    refine ⟨.int (nI 1), xup I (3 + 2 * j) 1 (-1), J, xup (xup I (3 + 2 * j) 1 (-1)) 79 j (-1), J, ?_, ?_, ?_⟩
    · rw [fX8_tear]
      simp (disch := omega) only [eX8_tear, xRl, xG1, xG2, kAll, rAll, nAll, List.map_nil, List.map_cons, List.sum_nil, List.sum_cons, Nat.reduceAdd, Nat.reduceSub, Nat.reduceMul, Nat.reduceLeDiff, Nat.reduceEqDiff, Nat.reduceLT, and_true, true_and, and_self, if_true, if_false, ne_eq, not_false_eq_true, not_true_eq_false, or_false, false_or, or_true, true_or, false_and, and_false, reduceIte, reduceCtorEq, xB, ite_not, xretf_zc, xretf_c, xcont_c, xbd, rr_ok L I J hj hm z1, k1, k3, e, nI_neg0, cl_nI, p5_remove]
    · rw [fX9_tear]
      simp (disch := omega) only [eX9_tear, xRl, xG1, xG2, kAll, rAll, nAll, List.map_nil, List.map_cons, List.sum_nil, List.sum_cons, Nat.reduceAdd, Nat.reduceSub, Nat.reduceMul, Nat.reduceLeDiff, Nat.reduceEqDiff, Nat.reduceLT, and_true, true_and, and_self, if_true, if_false, ne_eq, not_false_eq_true, not_true_eq_false, or_false, false_or, or_true, true_or, false_and, and_false, reduceIte, reduceCtorEq, xB, ite_not, xretf_zc, xretf_c, xcont_c, xbd, p9_isRow, z_le, lt_t, nI_neg0, cl_nI, e2]
    · refine Cp_rows h (fun c g1 g2 g3 => by rw [xup_ne _ _ _ (by omega), xup_ne _ _ _ (by omega)]) (fun a ha => ?_)
      obtain ⟨h1, h2, h3⟩ := h.1 a ha
      rw [xup_ne (a := 3 + 2 * a) _ _ _ (by omega), xup_ne (a := 4 + 2 * a) _ _ _ (by omega), xup_ne (a := 4 + 2 * a) _ _ _ (by omega), xup_ne (a := 80) _ _ _ (by omega), xup_ne (a := 80) _ _ _ (by omega), xup_self, xup_ne (a := 79) _ _ _ (by omega)]
      by_cases haj : a = j
      · subst haj
        rw [xup_self]
        exact ⟨by simp, Or.inl (by simp), h3⟩
      · rw [xup_ne _ _ _ (by omega), if_neg haj]
        exact ⟨h1, h2, h3⟩
theorem p5_sum {j m : Nat} (hj : j < 6) (hm : m ≤ 40) (hz : I (3 + 2 * j) 1 = nI m) : FX5_sum [.ref (3 + 2 * j)] (S0 L I J) = some (some (.long (sumL (I (4 + 2 * j)) m)), S0 L I J) := by
  rw [fX5_sum]
  obtain ⟨k1, k2, k3, k4⟩ := kRow j hj
  have k5 := nRow L j hj
  have e2 : ¬ 4 + 2 * j = 0 := by omega
  simp (disch := omega) only [eX5_sum, xRl, xG1, xG2, kAll, rAll, nAll, List.map_nil, List.map_cons, List.sum_nil, List.sum_cons, Nat.reduceAdd, Nat.reduceSub, Nat.reduceMul, Nat.reduceLeDiff, Nat.reduceEqDiff, Nat.reduceLT, and_true, true_and, and_self, if_true, if_false, ne_eq, not_false_eq_true, not_true_eq_false, or_false, false_or, or_true, true_or, false_and, and_false, reduceIte, reduceCtorEq, xB, ite_not, xretf_zc, xretf_c, xcont_c, xbd]
  have key := xloop (t := tX5_sum) (st := fun i (_ : Unit) => (4, [.ref (3 + 2 * j), .long (sumL (I (4 + 2 * j)) i), .null, .int (nI i)], [], 0, S0 L I J)) (g := fun _ _ => ()) (N := m) (Inv := fun _ _ => True) (a0 := ()) trivial (by
    intro i a hi _
    refine ⟨?_, trivial⟩
    show xD tX5_sum (4, _) = _
    rw [hX5_sum_4]
    simp (disch := omega) only [eX5_sum, xRl, xG1, xG2, kAll, rAll, nAll, List.map_nil, List.map_cons, List.sum_nil, List.sum_cons, Nat.reduceAdd, Nat.reduceSub, Nat.reduceMul, Nat.reduceLeDiff, Nat.reduceEqDiff, Nat.reduceLT, and_true, true_and, and_self, if_true, if_false, ne_eq, not_false_eq_true, not_true_eq_false, or_false, false_or, or_true, true_or, false_and, and_false, reduceIte, reduceCtorEq, xB, ite_not, xretf_zc, xretf_c, xcont_c, xbd, k1, k2, k4, k5, e2, hz, nI_neg0, cl_nI, nI_leI, nI_add]
    rw [if_neg (by omega)]
    rfl) m (Nat.le_refl m)
  rw [show xD tX5_sum (4, [.ref (3 + 2 * j), .long 0, .null, .int (nI 0)], [], 0, S0 L I J) = _ from key.1, hX5_sum_4]
  simp (disch := omega) only [eX5_sum, xRl, xG1, xG2, kAll, rAll, nAll, List.map_nil, List.map_cons, List.sum_nil, List.sum_cons, Nat.reduceAdd, Nat.reduceSub, Nat.reduceMul, Nat.reduceLeDiff, Nat.reduceEqDiff, Nat.reduceLT, and_true, true_and, and_self, if_true, if_false, ne_eq, not_false_eq_true, not_true_eq_false, or_false, false_or, or_true, true_or, false_and, and_false, reduceIte, reduceCtorEq, xB, ite_not, xretf_zc, xretf_c, xcont_c, xbd, k1, hz, nI_leI]
  rw [if_pos (Nat.le_refl m)]
theorem pr_mean (h : Cp I J) (r : Int32) : Pair L FX8_mean FX9_mean [.int r] I J := by
  rcases row_cases h.1 r with hr | ⟨j, hj, rfl, ⟨z1, z2⟩ | ⟨m, hm, z1, z2⟩⟩
  · refine ⟨.int (-1), I, J, I, J, ?_, ?_, h⟩
    · rw [fX8_mean]
      simp (disch := omega) only [eX8_mean, xRl, xG1, xG2, kAll, rAll, nAll, List.map_nil, List.map_cons, List.sum_nil, List.sum_cons, Nat.reduceAdd, Nat.reduceSub, Nat.reduceMul, Nat.reduceLeDiff, Nat.reduceEqDiff, Nat.reduceLT, and_true, true_and, and_self, if_true, if_false, ne_eq, not_false_eq_true, not_true_eq_false, or_false, false_or, or_true, true_or, false_and, and_false, reduceIte, reduceCtorEq, xB, ite_not, xretf_zc, xretf_c, xcont_c, xbd, rr_bad L I J hr, m1_0]
    · rw [fX9_mean]
      simp (disch := omega) only [eX9_mean, xRl, xG1, xG2, kAll, rAll, nAll, List.map_nil, List.map_cons, List.sum_nil, List.sum_cons, Nat.reduceAdd, Nat.reduceSub, Nat.reduceMul, Nat.reduceLeDiff, Nat.reduceEqDiff, Nat.reduceLT, and_true, true_and, and_self, if_true, if_false, ne_eq, not_false_eq_true, not_true_eq_false, or_false, false_or, or_true, true_or, false_and, and_false, reduceIte, reduceCtorEq, xB, ite_not, xretf_zc, xretf_c, xcont_c, xbd, p9_isRow, hr]
  · refine ⟨.int (-3), fnC I 1, J, fnM (fnC I 1) 1, J, ?_, ?_, Cp_find h (by decide)⟩
    · rw [fX8_mean]
      simp (disch := omega) only [eX8_mean, xRl, xG1, xG2, kAll, rAll, nAll, List.map_nil, List.map_cons, List.sum_nil, List.sum_cons, Nat.reduceAdd, Nat.reduceSub, Nat.reduceMul, Nat.reduceLeDiff, Nat.reduceEqDiff, Nat.reduceLT, and_true, true_and, and_self, if_true, if_false, ne_eq, not_false_eq_true, not_true_eq_false, or_false, false_or, or_true, true_or, false_and, and_false, reduceIte, reduceCtorEq, xB, ite_not, xretf_zc, xretf_c, xcont_c, xbd, rr_none L I J hj z1, m3_0]
    · rw [fX9_mean]
      have e : fnC I 1 79 j = -1 := by simp [fnC, xup]; exact z2
      simp (disch := omega) only [eX9_mean, xRl, xG1, xG2, kAll, rAll, nAll, List.map_nil, List.map_cons, List.sum_nil, List.sum_cons, Nat.reduceAdd, Nat.reduceSub, Nat.reduceMul, Nat.reduceLeDiff, Nat.reduceEqDiff, Nat.reduceLT, and_true, true_and, and_self, if_true, if_false, ne_eq, not_false_eq_true, not_true_eq_false, or_false, false_or, or_true, true_or, false_and, and_false, reduceIte, reduceCtorEq, xB, ite_not, xretf_zc, xretf_c, xcont_c, xbd, p9_isRow, z_le, lt_t, nI_neg0, cl_nI, e, m1_ge, m1_lt, p9_find]
  · obtain ⟨k1, k2, k3, k4⟩ := kRow j hj
    have e : ¬ 3 + 2 * j = 0 := by omega
    rcases Nat.eq_zero_or_pos m with hm0 | hm0
    · subst hm0
      refine ⟨.int (-3), fnC I 4, J, fnM (fnC I 4) 4, J, ?_, ?_, Cp_find h (by decide)⟩
      · rw [fX8_mean]
        simp (disch := omega) only [eX8_mean, xRl, xG1, xG2, kAll, rAll, nAll, List.map_nil, List.map_cons, List.sum_nil, List.sum_cons, Nat.reduceAdd, Nat.reduceSub, Nat.reduceMul, Nat.reduceLeDiff, Nat.reduceEqDiff, Nat.reduceLT, and_true, true_and, and_self, if_true, if_false, ne_eq, not_false_eq_true, not_true_eq_false, or_false, false_or, or_true, true_or, false_and, and_false, reduceIte, reduceCtorEq, xB, ite_not, xretf_zc, xretf_c, xcont_c, xbd, rr_ok L I J hj hm z1, k1, k3, e, z1, nI_neg0, cl_nI, p8_findingOf]
      · rw [fX9_mean]
        have e3 : fnC I 4 79 j = nI 0 := by simp [fnC, xup]; exact z2
        simp (disch := omega) only [eX9_mean, xRl, xG1, xG2, kAll, rAll, nAll, List.map_nil, List.map_cons, List.sum_nil, List.sum_cons, Nat.reduceAdd, Nat.reduceSub, Nat.reduceMul, Nat.reduceLeDiff, Nat.reduceEqDiff, Nat.reduceLT, and_true, true_and, and_self, if_true, if_false, ne_eq, not_false_eq_true, not_true_eq_false, or_false, false_or, or_true, true_or, false_and, and_false, reduceIte, reduceCtorEq, xB, ite_not, xretf_zc, xretf_c, xcont_c, xbd, p9_isRow, z_le, lt_t, nI_neg0, cl_nI, e3, p9_find]
    · generalize hv : (sumL (I (4 + 2 * j)) m / (nI m).toInt64).toInt32 = v
      refine ⟨.int (nI 1), xup I 1 10 v, J, xup (xup I 1 10 v) 77 5 v, J, ?_, ?_, Cp_told h v⟩
      · rw [fX8_mean]
        simp (disch := omega) only [eX8_mean, xRl, xG1, xG2, kAll, rAll, nAll, List.map_nil, List.map_cons, List.sum_nil, List.sum_cons, Nat.reduceAdd, Nat.reduceSub, Nat.reduceMul, Nat.reduceLeDiff, Nat.reduceEqDiff, Nat.reduceLT, and_true, true_and, and_self, if_true, if_false, ne_eq, not_false_eq_true, not_true_eq_false, or_false, false_or, or_true, true_or, false_and, and_false, reduceIte, reduceCtorEq, xB, ite_not, xretf_zc, xretf_c, xcont_c, xbd, rr_ok L I J hj hm z1, k1, k3, e, z1, nI_neg0, cl_nI, nI_eq, p5_sum L I J hj hm z1, nI64_0]
        rw [if_neg (by omega), hv]
      · have e3 : xup I 1 10 v 79 j = nI m := by rw [xup_o _ _ _ _ (by decide)]; exact z2
        have e4 : xup I 1 10 v 80 = I 80 := xup_ne _ _ _ (by decide)
        rw [fX9_mean]
        simp (disch := omega) only [eX9_mean, xRl, xG1, xG2, kAll, rAll, nAll, List.map_nil, List.map_cons, List.sum_nil, List.sum_cons, Nat.reduceAdd, Nat.reduceSub, Nat.reduceMul, Nat.reduceLeDiff, Nat.reduceEqDiff, Nat.reduceLT, and_true, true_and, and_self, if_true, if_false, ne_eq, not_false_eq_true, not_true_eq_false, or_false, false_or, or_true, true_or, false_and, and_false, reduceIte, reduceCtorEq, xB, ite_not, xretf_zc, xretf_c, xcont_c, xbd, p9_isRow, z_le, lt_t, nI_neg0, cl_nI, e3, nI_eq]
        rw [if_neg (by omega)]
        have key := xloop (t := tX9_mean) (st := fun i (_ : Unit) => (44, [.ref 77, .int (nI j), .long (sumL (fun i => I 80 (40 * j + i)) i), .null, .int (nI i)], [], 0, S0 L (xup I 1 10 v) J)) (g := fun _ _ => ()) (N := m) (Inv := fun _ _ => True) (a0 := ()) trivial (by
          intro i a hi _
          refine ⟨?_, trivial⟩
          show xD tX9_mean (44, _) = _
          rw [hX9_mean_44]
          simp (disch := omega) only [eX9_mean, xRl, xG1, xG2, kAll, rAll, nAll, List.map_nil, List.map_cons, List.sum_nil, List.sum_cons, Nat.reduceAdd, Nat.reduceSub, Nat.reduceMul, Nat.reduceLeDiff, Nat.reduceEqDiff, Nat.reduceLT, and_true, true_and, and_self, if_true, if_false, ne_eq, not_false_eq_true, not_true_eq_false, or_false, false_or, or_true, true_or, false_and, and_false, reduceIte, reduceCtorEq, xB, ite_not, xretf_zc, xretf_c, xcont_c, xbd, e3, e4, nI_neg0, cl_nI, nI_leI, nI_add, pk_mul]
          rw [if_neg (by omega)]
          rfl) m (Nat.le_refl m)
        rw [show xD tX9_mean (44, [.ref 77, .int (nI j), .long 0, .null, .int (nI 0)], [], 0, S0 L (xup I 1 10 v) J) = _ from key.1, hX9_mean_44]
        have e5 : sumL (fun i => I 80 (40 * j + i)) m = sumL (I (4 + 2 * j)) m := sumL_congr (fun i hi => ((h.1 j hj).2.2 i (by omega)).symm)
        simp (disch := omega) only [eX9_mean, xRl, xG1, xG2, kAll, rAll, nAll, List.map_nil, List.map_cons, List.sum_nil, List.sum_cons, Nat.reduceAdd, Nat.reduceSub, Nat.reduceMul, Nat.reduceLeDiff, Nat.reduceEqDiff, Nat.reduceLT, and_true, true_and, and_self, if_true, if_false, ne_eq, not_false_eq_true, not_true_eq_false, or_false, false_or, or_true, true_or, false_and, and_false, reduceIte, reduceCtorEq, xB, ite_not, xretf_zc, xretf_c, xcont_c, xbd, e3, nI_neg0, cl_nI, nI_leI, nI64_0, p9_tell, e5, hv]
        rw [if_pos (Nat.le_refl m)]
theorem p7_isThere {t : Nat} (ht : t < 4) : FX7_isThere [.ref (16 + 2 * t)] (S0 L I J) = some (some (.int (if nI 0 ≤ I (16 + 2 * t) 1 then nI 1 else nI 0)), S0 L I J) := by
  rw [fX7_isThere]
  obtain ⟨k1, k2, k3, k4⟩ := kTxt t ht
  simp (disch := omega) only [eX7_isThere, xRl, xG1, xG2, kAll, rAll, nAll, List.map_nil, List.map_cons, List.sum_nil, List.sum_cons, Nat.reduceAdd, Nat.reduceSub, Nat.reduceMul, Nat.reduceLeDiff, Nat.reduceEqDiff, Nat.reduceLT, and_true, true_and, and_self, if_true, if_false, ne_eq, not_false_eq_true, not_true_eq_false, or_false, false_or, or_true, true_or, false_and, and_false, reduceIte, reduceCtorEq, xB, ite_not, xretf_zc, xretf_c, xcont_c, xbd, k1]
  by_cases h : I (16 + 2 * t) 1 < nI 0
  · rw [if_pos h, if_neg (Int32.not_le.mpr h)]
  · rw [if_neg h, if_pos (Int32.not_lt.mp h)]
theorem p7_begin {t : Nat} (ht : t < 4) (n : Int32) : FX7_begin [.ref (16 + 2 * t), .int n] (S0 L I J) = some (none, S0 L (fl (xup I (16 + 2 * t) 1 n) (17 + 2 * t) 0 80 (nI 32)) J) := by
  rw [fX7_begin]
  obtain ⟨k1, k2, k3, k4⟩ := kTxt t ht
  have k5 := nTxt L t ht
  have e : ¬ 17 + 2 * t = 0 := by omega
  have e8 : (nI 32).toInt8.toInt32 = nI 32 := by decide
  simp (disch := omega) only [eX7_begin, xRl, xG1, xG2, kAll, rAll, nAll, List.map_nil, List.map_cons, List.sum_nil, List.sum_cons, Nat.reduceAdd, Nat.reduceSub, Nat.reduceMul, Nat.reduceLeDiff, Nat.reduceEqDiff, Nat.reduceLT, and_true, true_and, and_self, if_true, if_false, ne_eq, not_false_eq_true, not_true_eq_false, or_false, false_or, or_true, true_or, false_and, and_false, reduceIte, reduceCtorEq, xB, ite_not, xretf_zc, xretf_c, xcont_c, xbd, k1]
  have key := xloop (t := tX7_begin) (st := fun i (_ : Unit) => (7, [.ref (16 + 2 * t), .int n, .int (nI i)], [], 0, S0 L (fl (xup I (16 + 2 * t) 1 n) (17 + 2 * t) 0 i (nI 32)) J)) (g := fun _ _ => ()) (N := 80) (Inv := fun _ _ => True) (a0 := ()) trivial (by
    intro i a hi _
    refine ⟨?_, trivial⟩
    show xD tX7_begin (7, _) = _
    rw [hX7_begin_7]
    simp (disch := omega) only [eX7_begin, xRl, xG1, xG2, kAll, rAll, nAll, List.map_nil, List.map_cons, List.sum_nil, List.sum_cons, Nat.reduceAdd, Nat.reduceSub, Nat.reduceMul, Nat.reduceLeDiff, Nat.reduceEqDiff, Nat.reduceLT, and_true, true_and, and_self, if_true, if_false, ne_eq, not_false_eq_true, not_true_eq_false, or_false, false_or, or_true, true_or, false_and, and_false, reduceIte, reduceCtorEq, xB, ite_not, xretf_zc, xretf_c, xcont_c, xbd, k1, k2, k4, k5, e, e8, nI_neg0, cl_nI, nI_leI, nI_add]
    rw [if_neg (by omega)]
    show _ = xD tX7_begin (7, [.ref (16 + 2 * t), .int n, .int (nI (i + 1))], [], 0, S0 L (fl (xup I (16 + 2 * t) 1 n) (17 + 2 * t) 0 (i + 1) (nI 32)) J)
    rw [← fl_s, Nat.zero_add]) 80 (Nat.le_refl 80)
  have k0 := key.1
  simp only [fl_0] at k0
  rw [k0, hX7_begin_7]
  simp (disch := omega) only [eX7_begin, xRl, xG1, xG2, kAll, rAll, nAll, List.map_nil, List.map_cons, List.sum_nil, List.sum_cons, Nat.reduceAdd, Nat.reduceSub, Nat.reduceMul, Nat.reduceLeDiff, Nat.reduceEqDiff, Nat.reduceLT, and_true, true_and, and_self, if_true, if_false, ne_eq, not_false_eq_true, not_true_eq_false, or_false, false_or, or_true, true_or, false_and, and_false, reduceIte, reduceCtorEq, xB, ite_not, xretf_zc, xretf_c, xcont_c, xbd, nI_leI]
theorem pr_text (h : Cp I J) (t n : Int32) : Pair L FX8_text FX9_text [.int t, .int n] I J := by
  by_cases ht : nI 0 ≤ t ∧ t < nI 4
  · obtain ⟨j, hj, rfl⟩ := (Am_iff (by decide)).mp ht
    obtain ⟨k1, k2, k3, k4⟩ := kTxt j hj
    have e : ¬ 16 + 2 * j = 0 := by omega
    rcases n_split n 80 (by decide) with hn | hn | ⟨m, hm, rfl⟩
    · refine ⟨.int (-1), I, J, I, J, ?_, ?_, h⟩
      · rw [fX8_text]
        simp (disch := omega) only [eX8_text, xRl, xG1, xG2, kAll, rAll, nAll, List.map_nil, List.map_cons, List.sum_nil, List.sum_cons, Nat.reduceAdd, Nat.reduceSub, Nat.reduceMul, Nat.reduceLeDiff, Nat.reduceEqDiff, Nat.reduceLT, and_true, true_and, and_self, if_true, if_false, ne_eq, not_false_eq_true, not_true_eq_false, or_false, false_or, or_true, true_or, false_and, and_false, reduceIte, reduceCtorEq, xB, ite_not, xretf_zc, xretf_c, xcont_c, xbd, p8_among, ht, hn, Int32.not_le.mpr hn]
      · rw [fX9_text]
        simp (disch := omega) only [eX9_text, xRl, xG1, xG2, kAll, rAll, nAll, List.map_nil, List.map_cons, List.sum_nil, List.sum_cons, Nat.reduceAdd, Nat.reduceSub, Nat.reduceMul, Nat.reduceLeDiff, Nat.reduceEqDiff, Nat.reduceLT, and_true, true_and, and_self, if_true, if_false, ne_eq, not_false_eq_true, not_true_eq_false, or_false, false_or, or_true, true_or, false_and, and_false, reduceIte, reduceCtorEq, xB, ite_not, xretf_zc, xretf_c, xcont_c, xbd, p9_isText, ht, hn, Int32.not_le.mpr hn]
    · refine ⟨.int (-3), fnC I 5, J, fnM (fnC I 5) 5, J, ?_, ?_, Cp_find h (by decide)⟩
      · rw [fX8_text]
        simp (disch := omega) only [eX8_text, xRl, xG1, xG2, kAll, rAll, nAll, List.map_nil, List.map_cons, List.sum_nil, List.sum_cons, Nat.reduceAdd, Nat.reduceSub, Nat.reduceMul, Nat.reduceLeDiff, Nat.reduceEqDiff, Nat.reduceLT, and_true, true_and, and_self, if_true, if_false, ne_eq, not_false_eq_true, not_true_eq_false, or_false, false_or, or_true, true_or, false_and, and_false, reduceIte, reduceCtorEq, xB, ite_not, xretf_zc, xretf_c, xcont_c, xbd, p8_among, ht, neg_nle (M := 80) (by decide) hn, hn, Int32.not_le.mpr hn, Int32.not_lt.mp (neg_nle (M := 80) (by decide) hn), p8_findingOf]
      · rw [fX9_text]
        simp (disch := omega) only [eX9_text, xRl, xG1, xG2, kAll, rAll, nAll, List.map_nil, List.map_cons, List.sum_nil, List.sum_cons, Nat.reduceAdd, Nat.reduceSub, Nat.reduceMul, Nat.reduceLeDiff, Nat.reduceEqDiff, Nat.reduceLT, and_true, true_and, and_self, if_true, if_false, ne_eq, not_false_eq_true, not_true_eq_false, or_false, false_or, or_true, true_or, false_and, and_false, reduceIte, reduceCtorEq, xB, ite_not, xretf_zc, xretf_c, xcont_c, xbd, p9_isText, ht, neg_nle (M := 80) (by decide) hn, hn, Int32.not_le.mpr hn, Int32.not_lt.mp (neg_nle (M := 80) (by decide) hn), p9_find]
    · generalize hI1 : fl (xup I (16 + 2 * j) 1 (nI m)) (17 + 2 * j) 0 80 (nI 32) = I1
      refine ⟨.int (nI m), I1, J, fl (xup I1 81 j (nI m)) 82 (80 * j) 80 (nI 32), J, ?_, ?_, ?_⟩
      · rw [fX8_text]
        simp (disch := omega) only [eX8_text, xRl, xG1, xG2, kAll, rAll, nAll, List.map_nil, List.map_cons, List.sum_nil, List.sum_cons, Nat.reduceAdd, Nat.reduceSub, Nat.reduceMul, Nat.reduceLeDiff, Nat.reduceEqDiff, Nat.reduceLT, and_true, true_and, and_self, if_true, if_false, ne_eq, not_false_eq_true, not_true_eq_false, or_false, false_or, or_true, true_or, false_and, and_false, reduceIte, reduceCtorEq, xB, ite_not, xretf_zc, xretf_c, xcont_c, xbd, p8_among, ht, nI_ltI, nI_leI, Nat.zero_le, k1, k3, e, nI_neg0, cl_nI, p7_begin]
        simp [hm, hI1]
      · rw [fX9_text]
        simp (disch := omega) only [eX9_text, xRl, xG1, xG2, kAll, rAll, nAll, List.map_nil, List.map_cons, List.sum_nil, List.sum_cons, Nat.reduceAdd, Nat.reduceSub, Nat.reduceMul, Nat.reduceLeDiff, Nat.reduceEqDiff, Nat.reduceLT, and_true, true_and, and_self, if_true, if_false, ne_eq, not_false_eq_true, not_true_eq_false, or_false, false_or, or_true, true_or, false_and, and_false, reduceIte, reduceCtorEq, xB, ite_not, xretf_zc, xretf_c, xcont_c, xbd, p9_isText, ht, nI_ltI, nI_leI, Nat.zero_le, nI_neg0, cl_nI]
        rw [if_pos hm]
        have key := xloop (t := tX9_text) (st := fun i (_ : Unit) => (34, [.ref 77, .int (nI j), .int (nI m), .int (nI i)], [], 0, S0 L (fl (xup I1 81 j (nI m)) 82 (80 * j) i (nI 32)) J)) (g := fun _ _ => ()) (N := 80) (Inv := fun _ _ => True) (a0 := ()) trivial (by
          intro i a hi _
          refine ⟨?_, trivial⟩
          show xD tX9_text (34, _) = _
          rw [hX9_text_34]
          simp (disch := omega) only [eX9_text, xRl, xG1, xG2, kAll, rAll, nAll, List.map_nil, List.map_cons, List.sum_nil, List.sum_cons, Nat.reduceAdd, Nat.reduceSub, Nat.reduceMul, Nat.reduceLeDiff, Nat.reduceEqDiff, Nat.reduceLT, and_true, true_and, and_self, if_true, if_false, ne_eq, not_false_eq_true, not_true_eq_false, or_false, false_or, or_true, true_or, false_and, and_false, reduceIte, reduceCtorEq, xB, ite_not, xretf_zc, xretf_c, xcont_c, xbd, nI_neg0, cl_nI, nI_leI, nI_add, pk_mul]
          rw [if_neg (by omega)]
          show _ = xD tX9_text (34, [.ref 77, .int (nI j), .int (nI m), .int (nI (i + 1))], [], 0, S0 L (fl (xup I1 81 j (nI m)) 82 (80 * j) (i + 1) (nI 32)) J)
          rw [← fl_s]) 80 (Nat.le_refl 80)
        have k0 := key.1
        simp only [fl_0] at k0
        rw [k0, hX9_text_34]
        simp (disch := omega) only [eX9_text, xRl, xG1, xG2, kAll, rAll, nAll, List.map_nil, List.map_cons, List.sum_nil, List.sum_cons, Nat.reduceAdd, Nat.reduceSub, Nat.reduceMul, Nat.reduceLeDiff, Nat.reduceEqDiff, Nat.reduceLT, and_true, true_and, and_self, if_true, if_false, ne_eq, not_false_eq_true, not_true_eq_false, or_false, false_or, or_true, true_or, false_and, and_false, reduceIte, reduceCtorEq, xB, ite_not, xretf_zc, xretf_c, xcont_c, xbd, nI_leI]
      · refine Cp_txts h (fun c g1 g2 g3 => by rw [fl_ne _ _ _ _ (by omega), xup_ne _ _ _ (by omega), ← hI1, fl_ne _ _ _ _ (by omega), xup_ne _ _ _ (by omega)]) (fun q hq => ?_)
        obtain ⟨h1, h2, h3⟩ := h.2.1 q hq
        rw [fl_ne (a := 16 + 2 * q) _ _ _ _ (by omega), xup_ne (a := 16 + 2 * q) _ _ _ (by omega), fl_ne (a := 81) _ _ _ _ (by omega), xup_self, fl_ne (a := 17 + 2 * q) _ _ _ _ (by omega), xup_ne (a := 17 + 2 * q) _ _ _ (by omega)]
        by_cases hqj : q = j
        · subst hqj
          refine ⟨?_, Or.inr ⟨m, hm, by simp⟩, fun i hi => ?_⟩
          · rw [← hI1, fl_ne _ _ _ _ (by omega), xup_self]; simp
          · rw [← hI1, fl_in _ _ (by omega), fl_in _ _ (by omega)]
        · rw [if_neg hqj]
          have e1 : I1 (16 + 2 * q) = I (16 + 2 * q) := by rw [← hI1, fl_ne _ _ _ _ (by omega), xup_ne _ _ _ (by omega)]
          have e2 : I1 (17 + 2 * q) = I (17 + 2 * q) := by rw [← hI1, fl_ne _ _ _ _ (by omega), xup_ne _ _ _ (by omega)]
          have e3 : I1 81 = I 81 := by rw [← hI1, fl_ne _ _ _ _ (by omega), xup_ne _ _ _ (by omega)]
          have e4 : I1 82 = I 82 := by rw [← hI1, fl_ne _ _ _ _ (by omega), xup_ne _ _ _ (by omega)]
          rw [e1, e2, e3]
          refine ⟨h1, h2, fun i hi => ?_⟩
          rw [fl_out _ _ (by omega), xup_ne _ _ _ (by omega), e4]
          exact h3 i hi
  · refine ⟨.int (-1), I, J, I, J, ?_, ?_, h⟩
    · rw [fX8_text]
      simp (disch := omega) only [eX8_text, xRl, xG1, xG2, kAll, rAll, nAll, List.map_nil, List.map_cons, List.sum_nil, List.sum_cons, Nat.reduceAdd, Nat.reduceSub, Nat.reduceMul, Nat.reduceLeDiff, Nat.reduceEqDiff, Nat.reduceLT, and_true, true_and, and_self, if_true, if_false, ne_eq, not_false_eq_true, not_true_eq_false, or_false, false_or, or_true, true_or, false_and, and_false, reduceIte, reduceCtorEq, xB, ite_not, xretf_zc, xretf_c, xcont_c, xbd, p8_among, ht]
    · rw [fX9_text]
      simp (disch := omega) only [eX9_text, xRl, xG1, xG2, kAll, rAll, nAll, List.map_nil, List.map_cons, List.sum_nil, List.sum_cons, Nat.reduceAdd, Nat.reduceSub, Nat.reduceMul, Nat.reduceLeDiff, Nat.reduceEqDiff, Nat.reduceLT, and_true, true_and, and_self, if_true, if_false, ne_eq, not_false_eq_true, not_true_eq_false, or_false, false_or, or_true, true_or, false_and, and_false, reduceIte, reduceCtorEq, xB, ite_not, xretf_zc, xretf_c, xcont_c, xbd, p9_isText, ht]
end T1
