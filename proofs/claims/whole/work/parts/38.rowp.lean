/-! rows -/
/-- class and reference answer alike, and are coupled again -/
def Pair (L : Nat) (F G : List Value → xS → Option xR) (as : List Value) (I : Nat → Nat → Int32) (J : Nat → Nat → Int64) : Prop := ∃ (v : Value) (I1 : Nat → Nat → Int32) (J1 : Nat → Nat → Int64) (I2 : Nat → Nat → Int32) (J2 : Nat → Nat → Int64), F (.ref 1 :: as) (S0 L I J) = some (some v, S0 L I1 J1) ∧ G (.ref 77 :: as) (S0 L I1 J1) = some (some v, S0 L I2 J2) ∧ Cp I2 J2
theorem Cp_find {I : Nat → Nat → Int32} {J : Nat → Nat → Int64} (h : Cp I J) {f : Nat} (hf : f < 6) : Cp (fnM (fnC I f) f) J := by
  obtain ⟨h1, h2, ⟨h3, h3b⟩, h4, h5, h6, h7⟩ := h
  refine ⟨CpR_of h1 (fun c hc => ?_), CpT_of h2 (fun c hc => ?_), ⟨?_, fun q hq => ?_⟩, ?_, h5, ?_, CpG_of h7 (fun c hc => ?_)⟩
  · unfold fnM fnC; repeat rw [xup_ne _ _ _ (by omega)]
  · unfold fnM fnC; repeat rw [xup_ne _ _ _ (by omega)]
  · show fnM (fnC I f) f 1 9 = fnM (fnC I f) f 77 8
    simp [fnM, fnC, xup]
  · have e : I 76 f = I 83 f := h3b f hf
    have e2 := h3b q hq
    simp only [fnM, fnC, xup]
    by_cases hqf : q = f <;> simp [hqf, e, e2]
  · show fnM (fnC I f) f 1 10 = fnM (fnC I f) f 77 5
    simp only [fnM, fnC, xup]
    simp
    exact h4
  · simp only [fnM, fnC, xup]
    simp
    exact h6
  · unfold fnM fnC; repeat rw [xup_ne _ _ _ (by omega)]
theorem p5_begin (L : Nat) (I : Nat → Nat → Int32) (J : Nat → Nat → Int64) (j : Nat) (hj : j < 6) (n : Int32) : FX5_begin [.ref (3 + 2 * j), .int n] (S0 L I J) = some (none, S0 L (fl (xup I (3 + 2 * j) 1 n) (4 + 2 * j) 0 40 (nI 0)) J) := by
  rw [fX5_begin]
  obtain ⟨k1, k2, k3, k4⟩ := kRow j hj
  have k5 := nRow L j hj
  have e : ¬ 4 + 2 * j = 0 := by omega
  simp (disch := omega) only [eX5_begin, xRl, xG1, xG2, kAll, rAll, nAll, List.map_nil, List.map_cons, List.sum_nil, List.sum_cons, Nat.reduceAdd, Nat.reduceSub, Nat.reduceMul, Nat.reduceLeDiff, Nat.reduceEqDiff, Nat.reduceLT, and_true, true_and, and_self, if_true, if_false, ne_eq, not_false_eq_true, not_true_eq_false, or_false, false_or, or_true, true_or, false_and, and_false, reduceIte, reduceCtorEq, xB, ite_not, xretf_zc, xretf_c, xcont_c, xbd, k1]
  have key := xloop (t := tX5_begin) (st := fun i (_ : Unit) => (7, [.ref (3 + 2 * j), .int n, .int (nI i)], [], 0, S0 L (fl (xup I (3 + 2 * j) 1 n) (4 + 2 * j) 0 i (nI 0)) J)) (g := fun _ _ => ()) (N := 40) (Inv := fun _ _ => True) (a0 := ()) trivial (by
    intro i a hi _
    refine ⟨?_, trivial⟩
    show xD tX5_begin (7, _) = _
    rw [hX5_begin_7]
    simp (disch := omega) only [eX5_begin, xRl, xG1, xG2, kAll, rAll, nAll, List.map_nil, List.map_cons, List.sum_nil, List.sum_cons, Nat.reduceAdd, Nat.reduceSub, Nat.reduceMul, Nat.reduceLeDiff, Nat.reduceEqDiff, Nat.reduceLT, and_true, true_and, and_self, if_true, if_false, ne_eq, not_false_eq_true, not_true_eq_false, or_false, false_or, or_true, true_or, false_and, and_false, reduceIte, reduceCtorEq, xB, ite_not, xretf_zc, xretf_c, xcont_c, xbd, k1, k2, k4, k5, e, nI_neg0, cl_nI, nI_leI, nI_add]
    rw [if_neg (by omega)]
    show _ = xD tX5_begin (7, [.ref (3 + 2 * j), .int n, .int (nI (i + 1))], [], 0, S0 L (fl (xup I (3 + 2 * j) 1 n) (4 + 2 * j) 0 (i + 1) (nI 0)) J)
    rw [← fl_s, Nat.zero_add]) 40 (Nat.le_refl 40)
  have k0 := key.1
  simp only [fl_0] at k0
  rw [k0, hX5_begin_7]
  simp (disch := omega) only [eX5_begin, xRl, xG1, xG2, kAll, rAll, nAll, List.map_nil, List.map_cons, List.sum_nil, List.sum_cons, Nat.reduceAdd, Nat.reduceSub, Nat.reduceMul, Nat.reduceLeDiff, Nat.reduceEqDiff, Nat.reduceLT, and_true, true_and, and_self, if_true, if_false, ne_eq, not_false_eq_true, not_true_eq_false, or_false, false_or, or_true, true_or, false_and, and_false, reduceIte, reduceCtorEq, xB, ite_not, xretf_zc, xretf_c, xcont_c, xbd, nI_leI]
theorem p9_makeRow (L : Nat) (I : Nat → Nat → Int32) (J : Nat → Nat → Int64) (j : Nat) (hj : j < 6) (n : Int32) : FX9_makeRow [.ref 77, .int (nI j), .int n] (S0 L I J) = some (none, S0 L (fl (xup I 79 j n) 80 (40 * j) 40 (nI 0)) J) := by
  rw [fX9_makeRow]
  simp (disch := omega) only [eX9_makeRow, xRl, xG1, xG2, kAll, rAll, nAll, List.map_nil, List.map_cons, List.sum_nil, List.sum_cons, Nat.reduceAdd, Nat.reduceSub, Nat.reduceMul, Nat.reduceLeDiff, Nat.reduceEqDiff, Nat.reduceLT, and_true, true_and, and_self, if_true, if_false, ne_eq, not_false_eq_true, not_true_eq_false, or_false, false_or, or_true, true_or, false_and, and_false, reduceIte, reduceCtorEq, xB, ite_not, xretf_zc, xretf_c, xcont_c, xbd, nI_neg0, cl_nI]
  have key := xloop (t := tX9_makeRow) (st := fun i (_ : Unit) => (9, [.ref 77, .int (nI j), .int n, .int (nI i)], [], 0, S0 L (fl (xup I 79 j n) 80 (40 * j) i (nI 0)) J)) (g := fun _ _ => ()) (N := 40) (Inv := fun _ _ => True) (a0 := ()) trivial (by
    intro i a hi _
    refine ⟨?_, trivial⟩
    show xD tX9_makeRow (9, _) = _
    rw [hX9_makeRow_9]
    simp (disch := omega) only [eX9_makeRow, xRl, xG1, xG2, kAll, rAll, nAll, List.map_nil, List.map_cons, List.sum_nil, List.sum_cons, Nat.reduceAdd, Nat.reduceSub, Nat.reduceMul, Nat.reduceLeDiff, Nat.reduceEqDiff, Nat.reduceLT, and_true, true_and, and_self, if_true, if_false, ne_eq, not_false_eq_true, not_true_eq_false, or_false, false_or, or_true, true_or, false_and, and_false, reduceIte, reduceCtorEq, xB, ite_not, xretf_zc, xretf_c, xcont_c, xbd, nI_neg0, cl_nI, nI_leI, nI_add, pk_mul]
    rw [if_neg (by omega)]
    show _ = xD tX9_makeRow (9, [.ref 77, .int (nI j), .int n, .int (nI (i + 1))], [], 0, S0 L (fl (xup I 79 j n) 80 (40 * j) (i + 1) (nI 0)) J)
    rw [← fl_s]) 40 (Nat.le_refl 40)
  have k0 := key.1
  simp only [fl_0] at k0
  rw [k0, hX9_makeRow_9]
  simp (disch := omega) only [eX9_makeRow, xRl, xG1, xG2, kAll, rAll, nAll, List.map_nil, List.map_cons, List.sum_nil, List.sum_cons, Nat.reduceAdd, Nat.reduceSub, Nat.reduceMul, Nat.reduceLeDiff, Nat.reduceEqDiff, Nat.reduceLT, and_true, true_and, and_self, if_true, if_false, ne_eq, not_false_eq_true, not_true_eq_false, or_false, false_or, or_true, true_or, false_and, and_false, reduceIte, reduceCtorEq, xB, ite_not, xretf_zc, xretf_c, xcont_c, xbd, nI_leI]
theorem n_split (n : Int32) (M : Nat) (hM : M + 1 < 2 ^ 31) : nI M < n ∨ n < nI 0 ∨ ∃ m, m ≤ M ∧ n = nI m := by
  by_cases h1 : n < nI 0
  · exact Or.inr (Or.inl h1)
  · obtain ⟨m, h2, rfl⟩ := nI_of (x := n) h1
    by_cases h3 : m ≤ M
    · exact Or.inr (Or.inr ⟨m, h3, rfl⟩)
    · exact Or.inl (nI_lt (by omega) (by omega))
theorem neg_nle {n : Int32} {M : Nat} (hM : M < 2 ^ 31) (h : n < nI 0) : ¬ nI M < n := fun q => absurd (Int32.lt_trans q h) (by rw [nI_ltI hM (by decide)]; omega)
theorem pr_row (L : Nat) (I : Nat → Nat → Int32) (J : Nat → Nat → Int64) (h : Cp I J) (r n : Int32) : Pair L FX8_row FX9_row [.int r, .int n] I J := by
  by_cases hr : nI 0 ≤ r ∧ r < nI 6
  · obtain ⟨j, hj, rfl⟩ := (Am_iff (by decide)).mp hr
    obtain ⟨k1, k2, k3, k4⟩ := kRow j hj
    have e : ¬ 3 + 2 * j = 0 := by omega
    rcases n_split n 40 (by decide) with hn | hn | ⟨m, hm, rfl⟩
    · refine ⟨.int (-1), I, J, I, J, ?_, ?_, h⟩
      · rw [fX8_row]
        simp (disch := omega) only [eX8_row, xRl, xG1, xG2, kAll, rAll, nAll, List.map_nil, List.map_cons, List.sum_nil, List.sum_cons, Nat.reduceAdd, Nat.reduceSub, Nat.reduceMul, Nat.reduceLeDiff, Nat.reduceEqDiff, Nat.reduceLT, and_true, true_and, and_self, if_true, if_false, ne_eq, not_false_eq_true, not_true_eq_false, or_false, false_or, or_true, true_or, false_and, and_false, reduceIte, reduceCtorEq, xB, ite_not, xretf_zc, xretf_c, xcont_c, xbd, p8_among, hr, hn, Int32.not_le.mpr hn]
      · rw [fX9_row]
        simp (disch := omega) only [eX9_row, xRl, xG1, xG2, kAll, rAll, nAll, List.map_nil, List.map_cons, List.sum_nil, List.sum_cons, Nat.reduceAdd, Nat.reduceSub, Nat.reduceMul, Nat.reduceLeDiff, Nat.reduceEqDiff, Nat.reduceLT, and_true, true_and, and_self, if_true, if_false, ne_eq, not_false_eq_true, not_true_eq_false, or_false, false_or, or_true, true_or, false_and, and_false, reduceIte, reduceCtorEq, xB, ite_not, xretf_zc, xretf_c, xcont_c, xbd, p9_isRow, hr, hn, Int32.not_le.mpr hn]
    · refine ⟨.int (-3), fnC I 5, J, fnM (fnC I 5) 5, J, ?_, ?_, Cp_find h (by decide)⟩
      · rw [fX8_row]
        simp (disch := omega) only [eX8_row, xRl, xG1, xG2, kAll, rAll, nAll, List.map_nil, List.map_cons, List.sum_nil, List.sum_cons, Nat.reduceAdd, Nat.reduceSub, Nat.reduceMul, Nat.reduceLeDiff, Nat.reduceEqDiff, Nat.reduceLT, and_true, true_and, and_self, if_true, if_false, ne_eq, not_false_eq_true, not_true_eq_false, or_false, false_or, or_true, true_or, false_and, and_false, reduceIte, reduceCtorEq, xB, ite_not, xretf_zc, xretf_c, xcont_c, xbd, p8_among, hr, neg_nle (M := 40) (by decide) hn, hn, Int32.not_le.mpr hn, Int32.not_lt.mp (neg_nle (M := 40) (by decide) hn), p8_findingOf]
      · rw [fX9_row]
        simp (disch := omega) only [eX9_row, xRl, xG1, xG2, kAll, rAll, nAll, List.map_nil, List.map_cons, List.sum_nil, List.sum_cons, Nat.reduceAdd, Nat.reduceSub, Nat.reduceMul, Nat.reduceLeDiff, Nat.reduceEqDiff, Nat.reduceLT, and_true, true_and, and_self, if_true, if_false, ne_eq, not_false_eq_true, not_true_eq_false, or_false, false_or, or_true, true_or, false_and, and_false, reduceIte, reduceCtorEq, xB, ite_not, xretf_zc, xretf_c, xcont_c, xbd, p9_isRow, hr, neg_nle (M := 40) (by decide) hn, hn, Int32.not_le.mpr hn, Int32.not_lt.mp (neg_nle (M := 40) (by decide) hn), p9_find]
    · refine ⟨.int (nI m), fl (xup I (3 + 2 * j) 1 (nI m)) (4 + 2 * j) 0 40 (nI 0), J, fl (xup (fl (xup I (3 + 2 * j) 1 (nI m)) (4 + 2 * j) 0 40 (nI 0)) 79 j (nI m)) 80 (40 * j) 40 (nI 0), J, ?_, ?_, ?_⟩
      · rw [fX8_row]
        simp (disch := omega) only [eX8_row, xRl, xG1, xG2, kAll, rAll, nAll, List.map_nil, List.map_cons, List.sum_nil, List.sum_cons, Nat.reduceAdd, Nat.reduceSub, Nat.reduceMul, Nat.reduceLeDiff, Nat.reduceEqDiff, Nat.reduceLT, and_true, true_and, and_self, if_true, if_false, ne_eq, not_false_eq_true, not_true_eq_false, or_false, false_or, or_true, true_or, false_and, and_false, reduceIte, reduceCtorEq, xB, ite_not, xretf_zc, xretf_c, xcont_c, xbd, p8_among, hr, nI_ltI, nI_leI, Nat.zero_le, k1, k3, e, nI_neg0, cl_nI, p5_begin]
        simp [hm]
      · rw [fX9_row]
        simp (disch := omega) only [eX9_row, xRl, xG1, xG2, kAll, rAll, nAll, List.map_nil, List.map_cons, List.sum_nil, List.sum_cons, Nat.reduceAdd, Nat.reduceSub, Nat.reduceMul, Nat.reduceLeDiff, Nat.reduceEqDiff, Nat.reduceLT, and_true, true_and, and_self, if_true, if_false, ne_eq, not_false_eq_true, not_true_eq_false, or_false, false_or, or_true, true_or, false_and, and_false, reduceIte, reduceCtorEq, xB, ite_not, xretf_zc, xretf_c, xcont_c, xbd, p9_isRow, hr, nI_ltI, nI_leI, Nat.zero_le, p9_makeRow]
        simp [hm]
      · obtain ⟨h1, h2, h3, h4, h5, h6, h7⟩ := h
        refine ⟨fun q hq => ?_, CpT_of h2 (fun c hc => ?_), ?_, ?_, h5, ?_, CpG_of h7 (fun c hc => ?_)⟩
        · by_cases hqj : q = j
          · subst hqj
            refine ⟨?_, Or.inr ⟨m, hm, ?_⟩, fun i hi => ?_⟩
            · rw [fl_ne _ _ _ _ (by omega), xup_ne _ _ _ (by omega), fl_ne _ _ _ _ (by omega), xup_self, fl_ne _ _ _ _ (by omega), xup_self]
              simp
            · rw [fl_ne _ _ _ _ (by omega), xup_self]
              simp
            · rw [fl_ne _ _ _ _ (by omega), xup_ne _ _ _ (by omega), fl_in _ _ (by omega), fl_in _ _ (by omega)]
          · rw [fl_ne _ _ _ _ (by omega), xup_ne _ _ _ (by omega), fl_ne _ _ _ _ (by omega), xup_ne _ _ _ (by omega), fl_ne (a := 79) _ _ _ _ (by omega), xup_self, fl_ne _ _ _ _ (by omega), xup_ne (a := 79) _ _ _ (by omega), if_neg hqj]
            obtain ⟨g1, g2, g3⟩ := h1 q hq
            refine ⟨g1, g2, fun i hi => ?_⟩
            rw [fl_ne _ _ _ _ (by omega), xup_ne _ _ _ (by omega), fl_ne _ _ _ _ (by omega), xup_ne _ _ _ (by omega), fl_out _ _ (by omega), xup_ne _ _ _ (by omega), fl_ne _ _ _ _ (by omega), xup_ne _ _ _ (by omega)]
            exact g3 i hi
        · rw [fl_ne _ _ _ _ (by omega), xup_ne _ _ _ (by omega), fl_ne _ _ _ _ (by omega), xup_ne _ _ _ (by omega)]
        · unfold CpF
          rw [fl_ne (a := 1) _ _ _ _ (by omega), xup_ne (a := 1) _ _ _ (by omega), fl_ne (a := 1) _ _ _ _ (by omega), xup_ne (a := 1) _ _ _ (by omega), fl_ne (a := 77) _ _ _ _ (by omega), xup_ne (a := 77) _ _ _ (by omega), fl_ne (a := 77) _ _ _ _ (by omega), xup_ne (a := 77) _ _ _ (by omega), fl_ne (a := 76) _ _ _ _ (by omega), xup_ne (a := 76) _ _ _ (by omega), fl_ne (a := 76) _ _ _ _ (by omega), xup_ne (a := 76) _ _ _ (by omega), fl_ne (a := 83) _ _ _ _ (by omega), xup_ne (a := 83) _ _ _ (by omega), fl_ne (a := 83) _ _ _ _ (by omega), xup_ne (a := 83) _ _ _ (by omega)]
          exact h3
        · unfold CpA
          rw [fl_ne (a := 1) _ _ _ _ (by omega), xup_ne (a := 1) _ _ _ (by omega), fl_ne (a := 1) _ _ _ _ (by omega), xup_ne (a := 1) _ _ _ (by omega), fl_ne (a := 77) _ _ _ _ (by omega), xup_ne (a := 77) _ _ _ (by omega), fl_ne (a := 77) _ _ _ _ (by omega), xup_ne (a := 77) _ _ _ (by omega)]
          exact h4
        · rw [fl_ne (a := 77) _ _ _ _ (by omega), xup_ne (a := 77) _ _ _ (by omega), fl_ne (a := 77) _ _ _ _ (by omega), xup_ne (a := 77) _ _ _ (by omega)]
          exact h6
        · rw [fl_ne _ _ _ _ (by omega), xup_ne _ _ _ (by omega), fl_ne _ _ _ _ (by omega), xup_ne _ _ _ (by omega)]
  · refine ⟨.int (-1), I, J, I, J, ?_, ?_, h⟩
    · rw [fX8_row]
      simp (disch := omega) only [eX8_row, xRl, xG1, xG2, kAll, rAll, nAll, List.map_nil, List.map_cons, List.sum_nil, List.sum_cons, Nat.reduceAdd, Nat.reduceSub, Nat.reduceMul, Nat.reduceLeDiff, Nat.reduceEqDiff, Nat.reduceLT, and_true, true_and, and_self, if_true, if_false, ne_eq, not_false_eq_true, not_true_eq_false, or_false, false_or, or_true, true_or, false_and, and_false, reduceIte, reduceCtorEq, xB, ite_not, xretf_zc, xretf_c, xcont_c, xbd, p8_among, hr]
    · rw [fX9_row]
      simp (disch := omega) only [eX9_row, xRl, xG1, xG2, kAll, rAll, nAll, List.map_nil, List.map_cons, List.sum_nil, List.sum_cons, Nat.reduceAdd, Nat.reduceSub, Nat.reduceMul, Nat.reduceLeDiff, Nat.reduceEqDiff, Nat.reduceLT, and_true, true_and, and_self, if_true, if_false, ne_eq, not_false_eq_true, not_true_eq_false, or_false, false_or, or_true, true_or, false_and, and_false, reduceIte, reduceCtorEq, xB, ite_not, xretf_zc, xretf_c, xcont_c, xbd, p9_isRow, hr]

theorem Cp_gen {I I2 : Nat → Nat → Int32} {J : Nat → Nat → Int64} (h : Cp I J) (e : ∀ c, (3 ≤ c ∧ c ≤ 68) ∨ (78 ≤ c ∧ c ≤ 83) ∨ c = 76 → I2 c = I c) (e1 : I2 1 9 = I 1 9) (e2 : I2 77 8 = I 77 8) (e3 : I2 77 15 = I 77 15) (e4 : I2 1 10 = I2 77 5) : Cp I2 J := by
  obtain ⟨h1, h2, ⟨h3, h3b⟩, h4, h5, h6, h7⟩ := h
  refine ⟨CpR_of h1 (fun c hc => e c (by omega)), CpT_of h2 (fun c hc => e c (by omega)), ⟨by rw [e1, e2]; exact h3, fun f hf => by rw [e 76 (by omega), e 83 (by omega)]; exact h3b f hf⟩, e4, h5, by rw [e3]; exact h6, CpG_of h7 (fun c hc => e c (by omega))⟩
theorem Cp_rows {I I2 : Nat → Nat → Int32} {J : Nat → Nat → Int64} (h : Cp I J) (e : ∀ c, ¬ (3 ≤ c ∧ c ≤ 14) → c ≠ 79 → c ≠ 80 → I2 c = I c) (hr : CpR I2) : Cp I2 J := by
  obtain ⟨h1, h2, h3, h4, h5, h6, h7⟩ := h
  refine ⟨hr, CpT_of h2 (fun c hc => e c (by omega) (by omega) (by omega)), ?_, ?_, h5, ?_, CpG_of h7 (fun c hc => e c (by omega) (by omega) (by omega))⟩
  · unfold CpF; rw [e 1 (by omega) (by omega) (by omega), e 77 (by omega) (by omega) (by omega), e 76 (by omega) (by omega) (by omega), e 83 (by omega) (by omega) (by omega)]; exact h3
  · unfold CpA; rw [e 1 (by omega) (by omega) (by omega), e 77 (by omega) (by omega) (by omega)]; exact h4
  · rw [e 77 (by omega) (by omega) (by omega)]; exact h6
theorem Cp_txts {I I2 : Nat → Nat → Int32} {J : Nat → Nat → Int64} (h : Cp I J) (e : ∀ c, ¬ (16 ≤ c ∧ c ≤ 23) → c ≠ 81 → c ≠ 82 → I2 c = I c) (hr : CpT I2) : Cp I2 J := by
  obtain ⟨h1, h2, h3, h4, h5, h6, h7⟩ := h
  refine ⟨CpR_of h1 (fun c hc => e c (by omega) (by omega) (by omega)), hr, ?_, ?_, h5, ?_, CpG_of h7 (fun c hc => e c (by omega) (by omega) (by omega))⟩
  · unfold CpF; rw [e 1 (by omega) (by omega) (by omega), e 77 (by omega) (by omega) (by omega), e 76 (by omega) (by omega) (by omega), e 83 (by omega) (by omega) (by omega)]; exact h3
  · unfold CpA; rw [e 1 (by omega) (by omega) (by omega), e 77 (by omega) (by omega) (by omega)]; exact h4
  · rw [e 77 (by omega) (by omega) (by omega)]; exact h6
