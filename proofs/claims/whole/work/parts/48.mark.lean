/-! mark -/
section MK
variable (L : Nat) (I : Nat → Nat → Int32) (J : Nat → Nat → Int64)
theorem p4_countCalledBy (n yr k : Nat) (hC : Cok I n yr) (hk : k < n) : FX4_countCalledBy [.ref 24, .int (nI k)] (S0 L I J) = some (some (.int (nI (cnt (fun s => decide (fstv (rcC I yr 0 s) nI (-9) 0 n = nI k)) 0 216))), S0 L I J) := by
  have hn := hC.1
  have h1 := hC.2.1
  have hsh := shC_lt hC hk 0
  have hS := p4_shadeOf L I J n yr 0 k hC hk (by omega)
  rw [fX4_countCalledBy]
  simp (disch := omega) only [eX4_countCalledBy, xRl, xG1, xG2, kAll, rAll, nAll, List.map_nil, List.map_cons, List.sum_nil, List.sum_cons, Nat.reduceAdd, Nat.reduceSub, Nat.reduceMul, Nat.reduceLeDiff, Nat.reduceEqDiff, Nat.reduceLT, and_true, true_and, and_self, if_true, if_false, ne_eq, not_false_eq_true, not_true_eq_false, or_false, false_or, or_true, true_or, false_and, and_false, reduceIte, reduceCtorEq, xB, ite_not, xretf_zc, xretf_c, xcont_c, xbd]
  have key := xloop (t := tX4_countCalledBy) (st := fun i (_ : Unit) => (4, [.ref 24, .int (nI k), .int (nI (cnt (fun s => decide (fstv (rcC I yr 0 s) nI (-9) 0 n = nI k)) 0 i)), .int (nI i)], [], 0, S0 L I J)) (g := fun _ _ => ()) (N := 216) (Inv := fun _ _ => True) (a0 := ()) trivial (by
    intro i u hi _
    refine ⟨?_, trivial⟩
    show xD tX4_countCalledBy (4, _) = _
    rw [hX4_countCalledBy_4]
    simp (disch := omega) only [eX4_countCalledBy, xRl, xG1, xG2, kAll, rAll, nAll, List.map_nil, List.map_cons, List.sum_nil, List.sum_cons, Nat.reduceAdd, Nat.reduceSub, Nat.reduceMul, Nat.reduceLeDiff, Nat.reduceEqDiff, Nat.reduceLT, and_true, true_and, and_self, if_true, if_false, ne_eq, not_false_eq_true, not_true_eq_false, or_false, false_or, or_true, true_or, false_and, and_false, reduceIte, reduceCtorEq, xB, ite_not, xretf_zc, xretf_c, xcont_c, xbd, nI_leI, p4_callerOf L I J n yr 0 i hC (by omega) hi, nI_add]
    rw [if_neg (by omega)]
    show _ = xD tX4_countCalledBy (4, [_, _, .int (nI (cnt (fun s => decide (fstv (rcC I yr 0 s) nI (-9) 0 n = nI k)) 0 (i + 1))), _], _)
    rw [cnt_snoc, Nat.zero_add]
    by_cases g1 : fstv (rcC I yr 0 i) nI (-9) 0 n = nI k
    · simp [g1]
    · simp [g1]) 216 (Nat.le_refl 216)
  rw [show xD tX4_countCalledBy (4, [.ref 24, .int (nI k), .int (nI 0), .int (nI 0)], [], 0, S0 L I J) = _ from key.1, hX4_countCalledBy_4]
  simp (disch := omega) only [eX4_countCalledBy, xRl, xG1, xG2, kAll, rAll, nAll, List.map_nil, List.map_cons, List.sum_nil, List.sum_cons, Nat.reduceAdd, Nat.reduceSub, Nat.reduceMul, Nat.reduceLeDiff, Nat.reduceEqDiff, Nat.reduceLT, and_true, true_and, and_self, if_true, if_false, ne_eq, not_false_eq_true, not_true_eq_false, or_false, false_or, or_true, true_or, false_and, and_false, reduceIte, reduceCtorEq, xB, ite_not, xretf_zc, xretf_c, xcont_c, xbd, nI_leI]
theorem p9_calledBy (n k : Nat) (hM : Mok I n) (hy : I 77 15 = nI 0) (hk : k < n) : FX9_calledBy [.ref 77, .int (nI k)] (S0 L I J) = some (some (.int (nI (cnt (fun s => decide (fstv (rcM I 0 s) nI (-9) 0 n = nI k)) 0 216))), S0 L I J) := by
  have hn := hM.1
  have h1 := hM.2.1
  have hsh := shM_lt hM hk 0
  have hS := p9_shadeOf L I J n k 0 hM hk hy (by omega)
  rw [fX9_calledBy]
  simp (disch := omega) only [eX9_calledBy, xRl, xG1, xG2, kAll, rAll, nAll, List.map_nil, List.map_cons, List.sum_nil, List.sum_cons, Nat.reduceAdd, Nat.reduceSub, Nat.reduceMul, Nat.reduceLeDiff, Nat.reduceEqDiff, Nat.reduceLT, and_true, true_and, and_self, if_true, if_false, ne_eq, not_false_eq_true, not_true_eq_false, or_false, false_or, or_true, true_or, false_and, and_false, reduceIte, reduceCtorEq, xB, ite_not, xretf_zc, xretf_c, xcont_c, xbd]
  have key := xloop (t := tX9_calledBy) (st := fun i (_ : Unit) => (4, [.ref 77, .int (nI k), .int (nI (cnt (fun s => decide (fstv (rcM I 0 s) nI (-9) 0 n = nI k)) 0 i)), .int (nI i)], [], 0, S0 L I J)) (g := fun _ _ => ()) (N := 216) (Inv := fun _ _ => True) (a0 := ()) trivial (by
    intro i u hi _
    refine ⟨?_, trivial⟩
    show xD tX9_calledBy (4, _) = _
    rw [hX9_calledBy_4]
    simp (disch := omega) only [eX9_calledBy, xRl, xG1, xG2, kAll, rAll, nAll, List.map_nil, List.map_cons, List.sum_nil, List.sum_cons, Nat.reduceAdd, Nat.reduceSub, Nat.reduceMul, Nat.reduceLeDiff, Nat.reduceEqDiff, Nat.reduceLT, and_true, true_and, and_self, if_true, if_false, ne_eq, not_false_eq_true, not_true_eq_false, or_false, false_or, or_true, true_or, false_and, and_false, reduceIte, reduceCtorEq, xB, ite_not, xretf_zc, xretf_c, xcont_c, xbd, nI_leI, p9_caller L I J n 0 i hM hy (by omega) hi, nI_add]
    rw [if_neg (by omega)]
    show _ = xD tX9_calledBy (4, [_, _, .int (nI (cnt (fun s => decide (fstv (rcM I 0 s) nI (-9) 0 n = nI k)) 0 (i + 1))), _], _)
    rw [cnt_snoc, Nat.zero_add]
    by_cases g1 : fstv (rcM I 0 i) nI (-9) 0 n = nI k
    · simp [g1]
    · simp [g1]) 216 (Nat.le_refl 216)
  rw [show xD tX9_calledBy (4, [.ref 77, .int (nI k), .int (nI 0), .int (nI 0)], [], 0, S0 L I J) = _ from key.1, hX9_calledBy_4]
  simp (disch := omega) only [eX9_calledBy, xRl, xG1, xG2, kAll, rAll, nAll, List.map_nil, List.map_cons, List.sum_nil, List.sum_cons, Nat.reduceAdd, Nat.reduceSub, Nat.reduceMul, Nat.reduceLeDiff, Nat.reduceEqDiff, Nat.reduceLT, and_true, true_and, and_self, if_true, if_false, ne_eq, not_false_eq_true, not_true_eq_false, or_false, false_or, or_true, true_or, false_and, and_false, reduceIte, reduceCtorEq, xB, ite_not, xretf_zc, xretf_c, xcont_c, xbd, nI_leI]
theorem p4_countReachedOfOwnLight (n yr k : Nat) (hC : Cok I n yr) (hk : k < n) : FX4_countReachedOfOwnLight [.ref 24, .int (nI k)] (S0 L I J) = some (some (.int (nI (cnt (fun s => decide (s / 36 = shC I yr 0 k / 36) && rcC I yr 0 s k) 0 216))), S0 L I J) := by
  have hn := hC.1
  have h1 := hC.2.1
  have hsh := shC_lt hC hk 0
  have hS := p4_shadeOf L I J n yr 0 k hC hk (by omega)
  rw [fX4_countReachedOfOwnLight]
  simp (disch := omega) only [eX4_countReachedOfOwnLight, xRl, xG1, xG2, kAll, rAll, nAll, List.map_nil, List.map_cons, List.sum_nil, List.sum_cons, Nat.reduceAdd, Nat.reduceSub, Nat.reduceMul, Nat.reduceLeDiff, Nat.reduceEqDiff, Nat.reduceLT, and_true, true_and, and_self, if_true, if_false, ne_eq, not_false_eq_true, not_true_eq_false, or_false, false_or, or_true, true_or, false_and, and_false, reduceIte, reduceCtorEq, xB, ite_not, xretf_zc, xretf_c, xcont_c, xbd, hS, p6_partA]
  have key := xloop (t := tX4_countReachedOfOwnLight) (st := fun i (_ : Unit) => (15, [.ref 24, .int (nI k), .int (nI (shC I yr 0 k / 36)), .int (nI (cnt (fun s => decide (s / 36 = shC I yr 0 k / 36) && rcC I yr 0 s k) 0 i)), .int (nI i)], [], 0, S0 L I J)) (g := fun _ _ => ()) (N := 216) (Inv := fun _ _ => True) (a0 := ()) trivial (by
    intro i u hi _
    refine ⟨?_, trivial⟩
    show xD tX4_countReachedOfOwnLight (15, _) = _
    rw [hX4_countReachedOfOwnLight_15]
    simp (disch := omega) only [eX4_countReachedOfOwnLight, xRl, xG1, xG2, kAll, rAll, nAll, List.map_nil, List.map_cons, List.sum_nil, List.sum_cons, Nat.reduceAdd, Nat.reduceSub, Nat.reduceMul, Nat.reduceLeDiff, Nat.reduceEqDiff, Nat.reduceLT, and_true, true_and, and_self, if_true, if_false, ne_eq, not_false_eq_true, not_true_eq_false, or_false, false_or, or_true, true_or, false_and, and_false, reduceIte, reduceCtorEq, xB, ite_not, xretf_zc, xretf_c, xcont_c, xbd, nI_leI, p6_partA, nI_eq, p4_nameReaches L I J n yr 0 k i hC hk (by omega) hi, nI_add]
    rw [if_neg (by omega)]
    show _ = xD tX4_countReachedOfOwnLight (15, [_, _, _, .int (nI (cnt (fun s => decide (s / 36 = shC I yr 0 k / 36) && rcC I yr 0 s k) 0 (i + 1))), _], _)
    rw [cnt_snoc, Nat.zero_add]
    by_cases g1 : i / 36 = shC I yr 0 k / 36
    · by_cases g2 : rcC I yr 0 i k = true
      · simp [g1, g2]
      · simp [g1, g2]
    · simp [g1]) 216 (Nat.le_refl 216)
  rw [show xD tX4_countReachedOfOwnLight (15, [.ref 24, .int (nI k), .int (nI (shC I yr 0 k / 36)), .int (nI 0), .int (nI 0)], [], 0, S0 L I J) = _ from key.1, hX4_countReachedOfOwnLight_15]
  simp (disch := omega) only [eX4_countReachedOfOwnLight, xRl, xG1, xG2, kAll, rAll, nAll, List.map_nil, List.map_cons, List.sum_nil, List.sum_cons, Nat.reduceAdd, Nat.reduceSub, Nat.reduceMul, Nat.reduceLeDiff, Nat.reduceEqDiff, Nat.reduceLT, and_true, true_and, and_self, if_true, if_false, ne_eq, not_false_eq_true, not_true_eq_false, or_false, false_or, or_true, true_or, false_and, and_false, reduceIte, reduceCtorEq, xB, ite_not, xretf_zc, xretf_c, xcont_c, xbd, nI_leI]
theorem p9_likeFirst (n k : Nat) (hM : Mok I n) (hy : I 77 15 = nI 0) (hk : k < n) : FX9_likeFirst [.ref 77, .int (nI k)] (S0 L I J) = some (some (.int (nI (cnt (fun s => decide (s / 36 = shM I 0 k / 36) && rcM I 0 s k) 0 216))), S0 L I J) := by
  have hn := hM.1
  have h1 := hM.2.1
  have hsh := shM_lt hM hk 0
  have hS := p9_shadeOf L I J n k 0 hM hk hy (by omega)
  rw [fX9_likeFirst]
  simp (disch := omega) only [eX9_likeFirst, xRl, xG1, xG2, kAll, rAll, nAll, List.map_nil, List.map_cons, List.sum_nil, List.sum_cons, Nat.reduceAdd, Nat.reduceSub, Nat.reduceMul, Nat.reduceLeDiff, Nat.reduceEqDiff, Nat.reduceLT, and_true, true_and, and_self, if_true, if_false, ne_eq, not_false_eq_true, not_true_eq_false, or_false, false_or, or_true, true_or, false_and, and_false, reduceIte, reduceCtorEq, xB, ite_not, xretf_zc, xretf_c, xcont_c, xbd]
  have key := xloop (t := tX9_likeFirst) (st := fun i (_ : Unit) => (4, [.ref 77, .int (nI k), .int (nI (cnt (fun s => decide (s / 36 = shM I 0 k / 36) && rcM I 0 s k) 0 i)), .int (nI i)], [], 0, S0 L I J)) (g := fun _ _ => ()) (N := 216) (Inv := fun _ _ => True) (a0 := ()) trivial (by
    intro i u hi _
    refine ⟨?_, trivial⟩
    show xD tX9_likeFirst (4, _) = _
    rw [hX9_likeFirst_4]
    simp (disch := omega) only [eX9_likeFirst, xRl, xG1, xG2, kAll, rAll, nAll, List.map_nil, List.map_cons, List.sum_nil, List.sum_cons, Nat.reduceAdd, Nat.reduceSub, Nat.reduceMul, Nat.reduceLeDiff, Nat.reduceEqDiff, Nat.reduceLT, and_true, true_and, and_self, if_true, if_false, ne_eq, not_false_eq_true, not_true_eq_false, or_false, false_or, or_true, true_or, false_and, and_false, reduceIte, reduceCtorEq, xB, ite_not, xretf_zc, xretf_c, xcont_c, xbd, nI_leI, hS, nI_z, pk_div, nI_eq, p9_reaches L I J n k 0 i hM hk hy (by omega) hi, nI_add]
    rw [if_neg (by omega)]
    show _ = xD tX9_likeFirst (4, [_, _, .int (nI (cnt (fun s => decide (s / 36 = shM I 0 k / 36) && rcM I 0 s k) 0 (i + 1))), _], _)
    rw [cnt_snoc, Nat.zero_add]
    by_cases g1 : i / 36 = shM I 0 k / 36
    · by_cases g2 : rcM I 0 i k = true
      · simp [g1, g2]
      · simp [g1, g2]
    · simp [g1]) 216 (Nat.le_refl 216)
  rw [show xD tX9_likeFirst (4, [.ref 77, .int (nI k), .int (nI 0), .int (nI 0)], [], 0, S0 L I J) = _ from key.1, hX9_likeFirst_4]
  simp (disch := omega) only [eX9_likeFirst, xRl, xG1, xG2, kAll, rAll, nAll, List.map_nil, List.map_cons, List.sum_nil, List.sum_cons, Nat.reduceAdd, Nat.reduceSub, Nat.reduceMul, Nat.reduceLeDiff, Nat.reduceEqDiff, Nat.reduceLT, and_true, true_and, and_self, if_true, if_false, ne_eq, not_false_eq_true, not_true_eq_false, or_false, false_or, or_true, true_or, false_and, and_false, reduceIte, reduceCtorEq, xB, ite_not, xretf_zc, xretf_c, xcont_c, xbd, nI_leI]
theorem p4_countOthersReached (n yr k : Nat) (hC : Cok I n yr) (hk : k < n) : FX4_countOthersReached [.ref 24, .int (nI k)] (S0 L I J) = some (some (.int (nI (cnt (fun i => decide (i ≠ k) && rcC I yr 0 (shC I yr 0 i) k) 0 n))), S0 L I J) := by
  have hn := hC.1
  have h1 := hC.2.1
  have hsh := shC_lt hC hk 0
  have hS := p4_shadeOf L I J n yr 0 k hC hk (by omega)
  rw [fX4_countOthersReached]
  simp (disch := omega) only [eX4_countOthersReached, xRl, xG1, xG2, kAll, rAll, nAll, List.map_nil, List.map_cons, List.sum_nil, List.sum_cons, Nat.reduceAdd, Nat.reduceSub, Nat.reduceMul, Nat.reduceLeDiff, Nat.reduceEqDiff, Nat.reduceLT, and_true, true_and, and_self, if_true, if_false, ne_eq, not_false_eq_true, not_true_eq_false, or_false, false_or, or_true, true_or, false_and, and_false, reduceIte, reduceCtorEq, xB, ite_not, xretf_zc, xretf_c, xcont_c, xbd]
  have key := xloop (t := tX4_countOthersReached) (st := fun i (_ : Unit) => (4, [.ref 24, .int (nI k), .int (nI (cnt (fun i => decide (i ≠ k) && rcC I yr 0 (shC I yr 0 i) k) 0 i)), .int (nI i)], [], 0, S0 L I J)) (g := fun _ _ => ()) (N := n) (Inv := fun _ _ => True) (a0 := ()) trivial (by
    intro i u hi _
    refine ⟨?_, trivial⟩
    show xD tX4_countOthersReached (4, _) = _
    rw [hX4_countOthersReached_4]
    simp (disch := omega) only [eX4_countOthersReached, xRl, xG1, xG2, kAll, rAll, nAll, List.map_nil, List.map_cons, List.sum_nil, List.sum_cons, Nat.reduceAdd, Nat.reduceSub, Nat.reduceMul, Nat.reduceLeDiff, Nat.reduceEqDiff, Nat.reduceLT, and_true, true_and, and_self, if_true, if_false, ne_eq, not_false_eq_true, not_true_eq_false, or_false, false_or, or_true, true_or, false_and, and_false, reduceIte, reduceCtorEq, xB, ite_not, xretf_zc, xretf_c, xcont_c, xbd, h1, nI_leI, nI_eq, p4_shadeOf L I J n yr 0 i hC hi (by omega), p4_nameReaches L I J n yr 0 k (shC I yr 0 i) hC hk (by omega) (shC_lt hC hi 0), nI_add]
    rw [if_neg (by omega)]
    show _ = xD tX4_countOthersReached (4, [_, _, .int (nI (cnt (fun i => decide (i ≠ k) && rcC I yr 0 (shC I yr 0 i) k) 0 (i + 1))), _], _)
    rw [cnt_snoc, Nat.zero_add]
    by_cases g1 : i = k
    · by_cases g2 : rcC I yr 0 (shC I yr 0 i) k = true
      · simp [g1, g2]
      · simp [g1, g2]
    · by_cases g2 : rcC I yr 0 (shC I yr 0 i) k = true
      · simp [g1, g2]
      · simp [g1, g2]) n (Nat.le_refl n)
  rw [show xD tX4_countOthersReached (4, [.ref 24, .int (nI k), .int (nI 0), .int (nI 0)], [], 0, S0 L I J) = _ from key.1, hX4_countOthersReached_4]
  simp (disch := omega) only [eX4_countOthersReached, xRl, xG1, xG2, kAll, rAll, nAll, List.map_nil, List.map_cons, List.sum_nil, List.sum_cons, Nat.reduceAdd, Nat.reduceSub, Nat.reduceMul, Nat.reduceLeDiff, Nat.reduceEqDiff, Nat.reduceLT, and_true, true_and, and_self, if_true, if_false, ne_eq, not_false_eq_true, not_true_eq_false, or_false, false_or, or_true, true_or, false_and, and_false, reduceIte, reduceCtorEq, xB, ite_not, xretf_zc, xretf_c, xcont_c, xbd, h1, nI_leI]
  rw [if_pos (Nat.le_refl n)]
theorem p9_othersReached (n k : Nat) (hM : Mok I n) (hy : I 77 15 = nI 0) (hk : k < n) : FX9_othersReached [.ref 77, .int (nI k)] (S0 L I J) = some (some (.int (nI (cnt (fun i => decide (i ≠ k) && rcM I 0 (shM I 0 i) k) 0 n))), S0 L I J) := by
  have hn := hM.1
  have h1 := hM.2.1
  have hsh := shM_lt hM hk 0
  have hS := p9_shadeOf L I J n k 0 hM hk hy (by omega)
  rw [fX9_othersReached]
  simp (disch := omega) only [eX9_othersReached, xRl, xG1, xG2, kAll, rAll, nAll, List.map_nil, List.map_cons, List.sum_nil, List.sum_cons, Nat.reduceAdd, Nat.reduceSub, Nat.reduceMul, Nat.reduceLeDiff, Nat.reduceEqDiff, Nat.reduceLT, and_true, true_and, and_self, if_true, if_false, ne_eq, not_false_eq_true, not_true_eq_false, or_false, false_or, or_true, true_or, false_and, and_false, reduceIte, reduceCtorEq, xB, ite_not, xretf_zc, xretf_c, xcont_c, xbd]
  have key := xloop (t := tX9_othersReached) (st := fun i (_ : Unit) => (4, [.ref 77, .int (nI k), .int (nI (cnt (fun i => decide (i ≠ k) && rcM I 0 (shM I 0 i) k) 0 i)), .int (nI i)], [], 0, S0 L I J)) (g := fun _ _ => ()) (N := n) (Inv := fun _ _ => True) (a0 := ()) trivial (by
    intro i u hi _
    refine ⟨?_, trivial⟩
    show xD tX9_othersReached (4, _) = _
    rw [hX9_othersReached_4]
    simp (disch := omega) only [eX9_othersReached, xRl, xG1, xG2, kAll, rAll, nAll, List.map_nil, List.map_cons, List.sum_nil, List.sum_cons, Nat.reduceAdd, Nat.reduceSub, Nat.reduceMul, Nat.reduceLeDiff, Nat.reduceEqDiff, Nat.reduceLT, and_true, true_and, and_self, if_true, if_false, ne_eq, not_false_eq_true, not_true_eq_false, or_false, false_or, or_true, true_or, false_and, and_false, reduceIte, reduceCtorEq, xB, ite_not, xretf_zc, xretf_c, xcont_c, xbd, h1, nI_neg0, cl_nI, nI_leI, nI_eq, p9_shadeOf L I J n i 0 hM hi hy (by omega), p9_reaches L I J n k 0 (shM I 0 i) hM hk hy (by omega) (shM_lt hM hi 0), nI_add]
    rw [if_neg (by omega)]
    show _ = xD tX9_othersReached (4, [_, _, .int (nI (cnt (fun i => decide (i ≠ k) && rcM I 0 (shM I 0 i) k) 0 (i + 1))), _], _)
    rw [cnt_snoc, Nat.zero_add]
    by_cases g1 : i = k
    · by_cases g2 : rcM I 0 (shM I 0 i) k = true
      · simp [g1, g2]
      · simp [g1, g2]
    · by_cases g2 : rcM I 0 (shM I 0 i) k = true
      · simp [g1, g2]
      · simp [g1, g2]) n (Nat.le_refl n)
  rw [show xD tX9_othersReached (4, [.ref 77, .int (nI k), .int (nI 0), .int (nI 0)], [], 0, S0 L I J) = _ from key.1, hX9_othersReached_4]
  simp (disch := omega) only [eX9_othersReached, xRl, xG1, xG2, kAll, rAll, nAll, List.map_nil, List.map_cons, List.sum_nil, List.sum_cons, Nat.reduceAdd, Nat.reduceSub, Nat.reduceMul, Nat.reduceLeDiff, Nat.reduceEqDiff, Nat.reduceLT, and_true, true_and, and_self, if_true, if_false, ne_eq, not_false_eq_true, not_true_eq_false, or_false, false_or, or_true, true_or, false_and, and_false, reduceIte, reduceCtorEq, xB, ite_not, xretf_zc, xretf_c, xcont_c, xbd, h1, nI_neg0, cl_nI, nI_leI]
  rw [if_pos (Nat.le_refl n)]
theorem p4_countReachedBehindOthers (n yr k : Nat) (hC : Cok I n yr) (hk : k < n) : FX4_countReachedBehindOthers [.ref 24, .int (nI k)] (S0 L I J) = some (some (.int (nI (cnt (fun s => rcC I yr 0 s k && !decide (nI k ≤ fstv (rcC I yr 0 s) nI (-9) 0 n)) 0 216))), S0 L I J) := by
  have hn := hC.1
  have h1 := hC.2.1
  have hsh := shC_lt hC hk 0
  have hS := p4_shadeOf L I J n yr 0 k hC hk (by omega)
  rw [fX4_countReachedBehindOthers]
  simp (disch := omega) only [eX4_countReachedBehindOthers, xRl, xG1, xG2, kAll, rAll, nAll, List.map_nil, List.map_cons, List.sum_nil, List.sum_cons, Nat.reduceAdd, Nat.reduceSub, Nat.reduceMul, Nat.reduceLeDiff, Nat.reduceEqDiff, Nat.reduceLT, and_true, true_and, and_self, if_true, if_false, ne_eq, not_false_eq_true, not_true_eq_false, or_false, false_or, or_true, true_or, false_and, and_false, reduceIte, reduceCtorEq, xB, ite_not, xretf_zc, xretf_c, xcont_c, xbd]
  have key := xloop (t := tX4_countReachedBehindOthers) (st := fun i (_ : Unit) => (4, [.ref 24, .int (nI k), .int (nI (cnt (fun s => rcC I yr 0 s k && !decide (nI k ≤ fstv (rcC I yr 0 s) nI (-9) 0 n)) 0 i)), .int (nI i)], [], 0, S0 L I J)) (g := fun _ _ => ()) (N := 216) (Inv := fun _ _ => True) (a0 := ()) trivial (by
    intro i u hi _
    refine ⟨?_, trivial⟩
    show xD tX4_countReachedBehindOthers (4, _) = _
    rw [hX4_countReachedBehindOthers_4]
    simp (disch := omega) only [eX4_countReachedBehindOthers, xRl, xG1, xG2, kAll, rAll, nAll, List.map_nil, List.map_cons, List.sum_nil, List.sum_cons, Nat.reduceAdd, Nat.reduceSub, Nat.reduceMul, Nat.reduceLeDiff, Nat.reduceEqDiff, Nat.reduceLT, and_true, true_and, and_self, if_true, if_false, ne_eq, not_false_eq_true, not_true_eq_false, or_false, false_or, or_true, true_or, false_and, and_false, reduceIte, reduceCtorEq, xB, ite_not, xretf_zc, xretf_c, xcont_c, xbd, nI_leI, p4_callerOf L I J n yr 0 i hC (by omega) hi, p4_nameReaches L I J n yr 0 k i hC hk (by omega) hi, nI_add]
    rw [if_neg (by omega)]
    show _ = xD tX4_countReachedBehindOthers (4, [_, _, .int (nI (cnt (fun s => rcC I yr 0 s k && !decide (nI k ≤ fstv (rcC I yr 0 s) nI (-9) 0 n)) 0 (i + 1))), _], _)
    rw [cnt_snoc, Nat.zero_add]
    by_cases g1 : rcC I yr 0 i k = true
    · by_cases g2 : nI k ≤ fstv (rcC I yr 0 i) nI (-9) 0 n
      · simp [g1, g2]
      · simp [g1, g2]
    · simp [g1]) 216 (Nat.le_refl 216)
  rw [show xD tX4_countReachedBehindOthers (4, [.ref 24, .int (nI k), .int (nI 0), .int (nI 0)], [], 0, S0 L I J) = _ from key.1, hX4_countReachedBehindOthers_4]
  simp (disch := omega) only [eX4_countReachedBehindOthers, xRl, xG1, xG2, kAll, rAll, nAll, List.map_nil, List.map_cons, List.sum_nil, List.sum_cons, Nat.reduceAdd, Nat.reduceSub, Nat.reduceMul, Nat.reduceLeDiff, Nat.reduceEqDiff, Nat.reduceLT, and_true, true_and, and_self, if_true, if_false, ne_eq, not_false_eq_true, not_true_eq_false, or_false, false_or, or_true, true_or, false_and, and_false, reduceIte, reduceCtorEq, xB, ite_not, xretf_zc, xretf_c, xcont_c, xbd, nI_leI]
theorem p9_reachedAhead (n k : Nat) (hM : Mok I n) (hy : I 77 15 = nI 0) (hk : k < n) : FX9_reachedAhead [.ref 77, .int (nI k)] (S0 L I J) = some (some (.int (nI (cnt (fun s => rcM I 0 s k && !decide (nI k ≤ fstv (rcM I 0 s) nI (-9) 0 n)) 0 216))), S0 L I J) := by
  have hn := hM.1
  have h1 := hM.2.1
  have hsh := shM_lt hM hk 0
  have hS := p9_shadeOf L I J n k 0 hM hk hy (by omega)
  rw [fX9_reachedAhead]
  simp (disch := omega) only [eX9_reachedAhead, xRl, xG1, xG2, kAll, rAll, nAll, List.map_nil, List.map_cons, List.sum_nil, List.sum_cons, Nat.reduceAdd, Nat.reduceSub, Nat.reduceMul, Nat.reduceLeDiff, Nat.reduceEqDiff, Nat.reduceLT, and_true, true_and, and_self, if_true, if_false, ne_eq, not_false_eq_true, not_true_eq_false, or_false, false_or, or_true, true_or, false_and, and_false, reduceIte, reduceCtorEq, xB, ite_not, xretf_zc, xretf_c, xcont_c, xbd]
  have key := xloop (t := tX9_reachedAhead) (st := fun i (_ : Unit) => (4, [.ref 77, .int (nI k), .int (nI (cnt (fun s => rcM I 0 s k && !decide (nI k ≤ fstv (rcM I 0 s) nI (-9) 0 n)) 0 i)), .int (nI i)], [], 0, S0 L I J)) (g := fun _ _ => ()) (N := 216) (Inv := fun _ _ => True) (a0 := ()) trivial (by
    intro i u hi _
    refine ⟨?_, trivial⟩
    show xD tX9_reachedAhead (4, _) = _
    rw [hX9_reachedAhead_4]
    simp (disch := omega) only [eX9_reachedAhead, xRl, xG1, xG2, kAll, rAll, nAll, List.map_nil, List.map_cons, List.sum_nil, List.sum_cons, Nat.reduceAdd, Nat.reduceSub, Nat.reduceMul, Nat.reduceLeDiff, Nat.reduceEqDiff, Nat.reduceLT, and_true, true_and, and_self, if_true, if_false, ne_eq, not_false_eq_true, not_true_eq_false, or_false, false_or, or_true, true_or, false_and, and_false, reduceIte, reduceCtorEq, xB, ite_not, xretf_zc, xretf_c, xcont_c, xbd, nI_leI, p9_caller L I J n 0 i hM hy (by omega) hi, p9_reaches L I J n k 0 i hM hk hy (by omega) hi, nI_add]
    rw [if_neg (by omega)]
    show _ = xD tX9_reachedAhead (4, [_, _, .int (nI (cnt (fun s => rcM I 0 s k && !decide (nI k ≤ fstv (rcM I 0 s) nI (-9) 0 n)) 0 (i + 1))), _], _)
    rw [cnt_snoc, Nat.zero_add]
    by_cases g1 : rcM I 0 i k = true
    · by_cases g2 : nI k ≤ fstv (rcM I 0 i) nI (-9) 0 n
      · simp [g1, g2]
      · simp [g1, g2]
    · simp [g1]) 216 (Nat.le_refl 216)
  rw [show xD tX9_reachedAhead (4, [.ref 77, .int (nI k), .int (nI 0), .int (nI 0)], [], 0, S0 L I J) = _ from key.1, hX9_reachedAhead_4]
  simp (disch := omega) only [eX9_reachedAhead, xRl, xG1, xG2, kAll, rAll, nAll, List.map_nil, List.map_cons, List.sum_nil, List.sum_cons, Nat.reduceAdd, Nat.reduceSub, Nat.reduceMul, Nat.reduceLeDiff, Nat.reduceEqDiff, Nat.reduceLT, and_true, true_and, and_self, if_true, if_false, ne_eq, not_false_eq_true, not_true_eq_false, or_false, false_or, or_true, true_or, false_and, and_false, reduceIte, reduceCtorEq, xB, ite_not, xretf_zc, xretf_c, xcont_c, xbd, nI_leI]
theorem p4_missed (n yr k : Nat) (hC : Cok I n yr) (hk : k < n) : FX4_countMissedBySharpness [.ref 24, .int (nI k)] (S0 L I J) = some (some (.int (nI (cnt (fun t => rchN 0 (cv I k 2) (shC I yr 0 k) t) 0 216) - nI (cnt (fun t => rchN (cv I k 0) (cv I k 2) (shC I yr 0 k) t) 0 216))), S0 L I J) := by
  have hsh := shC_lt hC hk 0
  have hS := p4_shadeOf L I J n yr 0 k hC hk (by omega)
  obtain ⟨hn, h1, h2, h3, hall⟩ := hC
  obtain ⟨⟨a1, a2⟩, -, ⟨b1, b2⟩, -⟩ := hall k hk
  have k1 := kNam k (by omega)
  have e : ¬ 26 + k = 0 := by omega
  rw [fX4_countMissedBySharpness]
  simp (disch := omega) only [eX4_countMissedBySharpness, xRl, xG1, xG2, kAll, rAll, nAll, List.map_nil, List.map_cons, List.sum_nil, List.sum_cons, Nat.reduceAdd, Nat.reduceSub, Nat.reduceMul, Nat.reduceLeDiff, Nat.reduceEqDiff, Nat.reduceLT, and_true, true_and, and_self, if_true, if_false, ne_eq, not_false_eq_true, not_true_eq_false, or_false, false_or, or_true, true_or, false_and, and_false, reduceIte, reduceCtorEq, xB, ite_not, xretf_zc, xretf_c, xcont_c, xbd, hS, nI_neg0, cl_nI, k1.1, k1.2, e, a1, b1, p1_countReached]
theorem p9_isOf (n k w : Nat) (hM : Mok I n) (hk : k < n) (hw : w < 6) (hw0 : 0 < w) : FX9_isOf [.ref 77, .int (nI k), .int (nI w)] (S0 L I J) = some (some (.int (if isOfN (mKd I k) w = true then nI 1 else nI 0)), S0 L I J) := by
  have hn := hM.1
  obtain ⟨-, ⟨a1, a2⟩, -⟩ := hM.2.2 k hk
  have g0 : I 78 (10 + 7 * k + 0) = nI (mKd I k) := a1
  rw [fX9_isOf]
  simp (disch := omega) only [eX9_isOf, xRl, xG1, xG2, kAll, rAll, nAll, List.map_nil, List.map_cons, List.sum_nil, List.sum_cons, Nat.reduceAdd, Nat.reduceSub, Nat.reduceMul, Nat.reduceLeDiff, Nat.reduceEqDiff, Nat.reduceLT, and_true, true_and, and_self, if_true, if_false, ne_eq, not_false_eq_true, not_true_eq_false, or_false, false_or, or_true, true_or, false_and, and_false, reduceIte, reduceCtorEq, xB, ite_not, xretf_zc, xretf_c, xcont_c, xbd, p9_of, g0, nI_eq]
  unfold isOfN
  repeat' split
  all_goals first | rfl | (simp_all; done) | (exfalso; simp_all; omega)
theorem pr_mark (h : Cp I J) (k w : Int32) : Pair L FX8_mark FX9_mark [.int k, .int w] I J := by
  obtain ⟨n, d, yr, hR⟩ := h.2.2.2.2.2.2.1
  obtain ⟨hM, hC, hE⟩ := RC_M hR
  have hn := hM.1
  have h1 := hC.2.1
  have hy0 := h.2.2.2.2.2.1
  by_cases hk : nI 0 ≤ k ∧ k < nI n
  · by_cases hw : nI 1 ≤ w ∧ w < nI 6
    · obtain ⟨a, ha, rfl⟩ := (Am_iff (by omega)).mp hk
      obtain ⟨b, hb, rfl⟩ := nI_of (x := w) (Int32.not_lt.mpr (Int32.le_trans (by decide) hw.1))
      have hb1 := (nI_leI (by decide) hb).mp hw.1
      have hb2 := (nI_ltI hb (by decide)).mp hw.2
      obtain ⟨⟨q1, q2, q3, q4, q5⟩, q6⟩ := hE a ha
      obtain ⟨⟨a1, a2⟩, -, ⟨c1, c2⟩, -⟩ := hC.2.2.2.2 a ha
      have k1 := kNam a (by omega)
      have e : ¬ 26 + a = 0 := by omega
      by_cases ho : isOfN (cv I a 0) b = true
      · have hrc := fun s => RC_rc hR 0 s a ha
        have hfs : ∀ s, fstv (rcM I 0 s) nI (-9) 0 n = fstv (rcC I yr 0 s) nI (-9) 0 n := fun s => fstv_congr (fun k _ hk => ⟨RC_rc hR 0 s k (by omega), rfl⟩)
        have hsM := shM_lt hM ha 0
        have hsC := shC_lt hC ha 0
        have m1 := p4_countCalledBy L I J n yr a hC ha
        have n1 := p9_calledBy L I J n a hM hy0 ha
        have m2 := p4_missed L I J n yr a hC ha
        have m3 := p4_countReachedOfOwnLight L I J n yr a hC ha
        have n3 := p9_likeFirst L I J n a hM hy0 ha
        have m4 := p4_countOthersReached L I J n yr a hC ha
        have n4 := p9_othersReached L I J n a hM hy0 ha
        have m5 := p4_countReachedBehindOthers L I J n yr a hC ha
        have n5 := p9_reachedAhead L I J n a hM hy0 ha
        simp only [hfs, hrc, q6] at n1 n3 n5
        have e4 : cnt (fun i => decide (i ≠ a) && rcM I 0 (shM I 0 i) a) 0 n = cnt (fun i => decide (i ≠ a) && rcC I yr 0 (shC I yr 0 i) a) 0 n := cnt_congr (fun i _ hi => by rw [hrc, (hE i (by omega)).2 0])
        rw [e4] at n4
        have hS9 := p9_shadeOf L I J n a 0 hM ha hy0 (by omega)
        rw [q6 0] at hS9
        have g0 : I 78 (10 + 7 * a + 0) = nI (cv I a 0) := by rw [Nat.add_zero, (hM.2.2 a ha).2.1.1, q1]
        have g3 : I 78 (10 + 7 * a + 3) = nI (cv I a 2) := by rw [show 10 + 7 * a + 3 = 13 + 7 * a by omega, (hM.2.2 a ha).2.2.2.2.1.1, q2]
        have hof := p9_isOf L I J n a b hM ha hb2 hb1
        rw [q1, if_pos ho] at hof
        refine ⟨.int (if b = 1 then nI (cnt (fun s => decide (fstv (rcC I yr 0 s) nI (-9) 0 n = nI a)) 0 216) else if b = 2 then (nI (cnt (fun t => rchN 0 (cv I a 2) (shC I yr 0 a) t) 0 216) - nI (cnt (fun t => rchN (cv I a 0) (cv I a 2) (shC I yr 0 a) t) 0 216)) else if b = 3 then nI (cnt (fun s => decide (s / 36 = shC I yr 0 a / 36) && rcC I yr 0 s a) 0 216) else if b = 4 then nI (cnt (fun i => decide (i ≠ a) && rcC I yr 0 (shC I yr 0 i) a) 0 n) else nI (cnt (fun s => rcC I yr 0 s a && !decide (nI a ≤ fstv (rcC I yr 0 s) nI (-9) 0 n)) 0 216)), I, J, I, J, ?_, ?_, h⟩
        · rw [fX8_mark]
          simp (disch := omega) only [eX8_mark, xRl, xG1, xG2, kAll, rAll, nAll, List.map_nil, List.map_cons, List.sum_nil, List.sum_cons, Nat.reduceAdd, Nat.reduceSub, Nat.reduceMul, Nat.reduceLeDiff, Nat.reduceEqDiff, Nat.reduceLT, and_true, true_and, and_self, if_true, if_false, ne_eq, not_false_eq_true, not_true_eq_false, or_false, false_or, or_true, true_or, false_and, and_false, reduceIte, reduceCtorEq, xB, ite_not, xretf_zc, xretf_c, xcont_c, xbd, p8_among, h1, hk, z_le, lt_t, nI_eq, k1.1, k1.2, e, nI_neg0, cl_nI, a1, p1_isOf, ho, m1, m2, m3, m4, m5]
          rw [if_neg (by omega)]
          have hb5 : b = 1 ∨ b = 2 ∨ b = 3 ∨ b = 4 ∨ b = 5 := by omega
          rcases hb5 with rfl | rfl | rfl | rfl | rfl <;> simp
        · rw [fX9_mark]
          simp (disch := omega) only [eX9_mark, xRl, xG1, xG2, kAll, rAll, nAll, List.map_nil, List.map_cons, List.sum_nil, List.sum_cons, Nat.reduceAdd, Nat.reduceSub, Nat.reduceMul, Nat.reduceLeDiff, Nat.reduceEqDiff, Nat.reduceLT, and_true, true_and, and_self, if_true, if_false, ne_eq, not_false_eq_true, not_true_eq_false, or_false, false_or, or_true, true_or, false_and, and_false, reduceIte, reduceCtorEq, xB, ite_not, xretf_zc, xretf_c, xcont_c, xbd, p9_isName L I J n (by omega) hM.2.1, hk, p9_inL, hw, hof, nI_eq, n1, p9_of, g0, g3, hS9, p9_reachedBy, n3, n4, n5]
          have hb5 : b = 1 ∨ b = 2 ∨ b = 3 ∨ b = 4 ∨ b = 5 := by omega
          rcases hb5 with rfl | rfl | rfl | rfl | rfl <;> simp
      · refine ⟨.int (-3), fnC I 3, J, fnM (fnC I 3) 3, J, ?_, ?_, Cp_find h (by decide)⟩
        · rw [fX8_mark]
          simp (disch := omega) only [eX8_mark, xRl, xG1, xG2, kAll, rAll, nAll, List.map_nil, List.map_cons, List.sum_nil, List.sum_cons, Nat.reduceAdd, Nat.reduceSub, Nat.reduceMul, Nat.reduceLeDiff, Nat.reduceEqDiff, Nat.reduceLT, and_true, true_and, and_self, if_true, if_false, ne_eq, not_false_eq_true, not_true_eq_false, or_false, false_or, or_true, true_or, false_and, and_false, reduceIte, reduceCtorEq, xB, ite_not, xretf_zc, xretf_c, xcont_c, xbd, p8_among, h1, hk, z_le, lt_t, nI_eq, k1.1, k1.2, e, nI_neg0, cl_nI, a1, p1_isOf, ho, p8_findingOf]
          rw [if_neg (by omega)]
        · have e1 : fnC I 3 78 = I 78 := by unfold fnC; rw [xup_ne _ _ _ (by decide), xup_ne _ _ _ (by decide)]
          have hof := p9_isOf L (fnC I 3) J n a b (Mok_of hM e1) ha hb2 hb1
          have e2 : mKd (fnC I 3) a = cv I a 0 := by rw [← q1]; unfold mKd mv; rw [e1]
          rw [e2, if_neg ho] at hof
          rw [fX9_mark]
          simp (disch := omega) only [eX9_mark, xRl, xG1, xG2, kAll, rAll, nAll, List.map_nil, List.map_cons, List.sum_nil, List.sum_cons, Nat.reduceAdd, Nat.reduceSub, Nat.reduceMul, Nat.reduceLeDiff, Nat.reduceEqDiff, Nat.reduceLT, and_true, true_and, and_self, if_true, if_false, ne_eq, not_false_eq_true, not_true_eq_false, or_false, false_or, or_true, true_or, false_and, and_false, reduceIte, reduceCtorEq, xB, ite_not, xretf_zc, xretf_c, xcont_c, xbd, p9_isName L (fnC I 3) J n (by omega) (show fnC I 3 78 1 = nI n by rw [e1]; exact hM.2.1), hk, p9_inL, hw, hof, p9_find]
    · refine ⟨.int (-1), I, J, I, J, ?_, ?_, h⟩
      · rw [fX8_mark]
        by_cases hw2 : nI 0 ≤ w ∧ w < nI 6
        · obtain ⟨b, hb, rfl⟩ := (Am_iff (by decide)).mp hw2
          have hb0 : b = 0 := by
            rcases Nat.eq_zero_or_pos b with h0 | h0
            · exact h0
            · exact absurd ⟨(nI_leI (by decide) (by omega)).mpr h0, hw2.2⟩ hw
          subst hb0
          simp (disch := omega) only [eX8_mark, xRl, xG1, xG2, kAll, rAll, nAll, List.map_nil, List.map_cons, List.sum_nil, List.sum_cons, Nat.reduceAdd, Nat.reduceSub, Nat.reduceMul, Nat.reduceLeDiff, Nat.reduceEqDiff, Nat.reduceLT, and_true, true_and, and_self, if_true, if_false, ne_eq, not_false_eq_true, not_true_eq_false, or_false, false_or, or_true, true_or, false_and, and_false, reduceIte, reduceCtorEq, xB, ite_not, xretf_zc, xretf_c, xcont_c, xbd, p8_among, h1, hk, hw2]
        · simp (disch := omega) only [eX8_mark, xRl, xG1, xG2, kAll, rAll, nAll, List.map_nil, List.map_cons, List.sum_nil, List.sum_cons, Nat.reduceAdd, Nat.reduceSub, Nat.reduceMul, Nat.reduceLeDiff, Nat.reduceEqDiff, Nat.reduceLT, and_true, true_and, and_self, if_true, if_false, ne_eq, not_false_eq_true, not_true_eq_false, or_false, false_or, or_true, true_or, false_and, and_false, reduceIte, reduceCtorEq, xB, ite_not, xretf_zc, xretf_c, xcont_c, xbd, p8_among, h1, hk, hw2]
      · rw [fX9_mark]
        simp (disch := omega) only [eX9_mark, xRl, xG1, xG2, kAll, rAll, nAll, List.map_nil, List.map_cons, List.sum_nil, List.sum_cons, Nat.reduceAdd, Nat.reduceSub, Nat.reduceMul, Nat.reduceLeDiff, Nat.reduceEqDiff, Nat.reduceLT, and_true, true_and, and_self, if_true, if_false, ne_eq, not_false_eq_true, not_true_eq_false, or_false, false_or, or_true, true_or, false_and, and_false, reduceIte, reduceCtorEq, xB, ite_not, xretf_zc, xretf_c, xcont_c, xbd, p9_isName L I J n (by omega) hM.2.1, hk, p9_inL, hw]
  · refine ⟨.int (-1), I, J, I, J, ?_, ?_, h⟩
    · rw [fX8_mark]
      simp (disch := omega) only [eX8_mark, xRl, xG1, xG2, kAll, rAll, nAll, List.map_nil, List.map_cons, List.sum_nil, List.sum_cons, Nat.reduceAdd, Nat.reduceSub, Nat.reduceMul, Nat.reduceLeDiff, Nat.reduceEqDiff, Nat.reduceLT, and_true, true_and, and_self, if_true, if_false, ne_eq, not_false_eq_true, not_true_eq_false, or_false, false_or, or_true, true_or, false_and, and_false, reduceIte, reduceCtorEq, xB, ite_not, xretf_zc, xretf_c, xcont_c, xbd, p8_among, h1, hk]
    · rw [fX9_mark]
      simp (disch := omega) only [eX9_mark, xRl, xG1, xG2, kAll, rAll, nAll, List.map_nil, List.map_cons, List.sum_nil, List.sum_cons, Nat.reduceAdd, Nat.reduceSub, Nat.reduceMul, Nat.reduceLeDiff, Nat.reduceEqDiff, Nat.reduceLT, and_true, true_and, and_self, if_true, if_false, ne_eq, not_false_eq_true, not_true_eq_false, or_false, false_or, or_true, true_or, false_and, and_false, reduceIte, reduceCtorEq, xB, ite_not, xretf_zc, xretf_c, xcont_c, xbd, p9_isName L I J n (by omega) hM.2.1, hk]
end MK
