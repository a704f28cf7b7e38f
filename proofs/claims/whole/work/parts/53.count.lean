/-! count, was -/
theorem cnt_zero {f : Nat → Bool} {a d : Nat} (h : ∀ i, a ≤ i → i < a + d → f i = false) : cnt f a d = 0 := cnt0.mpr h
def cntV (I : Nat → Nat → Int32) (n d w : Nat) : Nat := if w = 0 then n else if w = 1 then d else if w = 2 then cnt (fun k => decide (cv I k 5 = 1)) 0 n else if w = 3 then sumN (fun k => cv I k 4) n else if w = 4 then cnt (fun k => isOfN (cv I k 0) 1) 0 n else if w = 5 then cnt (fun k => isOfN (cv I k 0) 2) 0 n else if w = 6 then cnt (fun k => decide (nI 0 ≤ I 79 k)) 0 6 else if w = 7 then cnt (fun k => decide (nI 0 ≤ I 81 k)) 0 4 else cnt (fun k => decide (nI 0 ≤ I 78 (426 * (1 + k)))) 0 3
theorem sumN_congr {f g : Nat → Nat} : ∀ {k : Nat}, (∀ i, i < k → f i = g i) → sumN f k = sumN g k
  | 0, _ => rfl
  | k + 1, h => by unfold sumN; rw [h k (by omega), sumN_congr (fun i hi => h i (by omega))]
theorem sumN_cnt {f : Nat → Nat} {g : Nat → Bool} : ∀ {k : Nat}, (∀ i, i < k → f i = if g i = true then 1 else 0) → sumN f k = cnt g 0 k
  | 0, _ => rfl
  | k + 1, h => by
    unfold sumN
    rw [cnt_snoc, sumN_cnt (fun i hi => h i (by omega)), h k (by omega), Nat.zero_add]
section CT
variable (L : Nat) (I : Nat → Nat → Int32) (J : Nat → Nat → Int64)
theorem p4_countFading {n yr : Nat} (hC : Cok I n yr) : FX4_countFading [.ref 24] (S0 L I J) = some (some (.int (nI (cnt (fun k => decide (cv I k 5 = 1)) 0 n))), S0 L I J) := by
  have hn := hC.1
  have h1 := hC.2.1
  rw [fX4_countFading]
  simp (disch := omega) only [eX4_countFading, xRl, xG1, xG2, kAll, rAll, nAll, List.map_nil, List.map_cons, List.sum_nil, List.sum_cons, Nat.reduceAdd, Nat.reduceSub, Nat.reduceMul, Nat.reduceLeDiff, Nat.reduceEqDiff, Nat.reduceLT, and_true, true_and, and_self, if_true, if_false, ne_eq, not_false_eq_true, not_true_eq_false, or_false, false_or, or_true, true_or, false_and, and_false, reduceIte, reduceCtorEq, xB, ite_not, xretf_zc, xretf_c, xcont_c, xbd]
  have key := xloop (t := tX4_countFading) (st := fun i (_ : Unit) => (4, [.ref 24, .int (nI (cnt (fun k => decide (cv I k 5 = 1)) 0 i)), .int (nI i)], [], 0, S0 L I J)) (g := fun _ _ => ()) (N := n) (Inv := fun _ _ => True) (a0 := ()) trivial (by
    intro i u hi _
    refine ⟨?_, trivial⟩
    obtain ⟨f1, f2⟩ := (hC.2.2.2.2 i hi).2.2.2.2.2
    have k1 := kNam i (by omega)
    have e : ¬ 26 + i = 0 := by omega
    show xD tX4_countFading (4, _) = _
    rw [hX4_countFading_4]
    simp (disch := omega) only [eX4_countFading, xRl, xG1, xG2, kAll, rAll, nAll, List.map_nil, List.map_cons, List.sum_nil, List.sum_cons, Nat.reduceAdd, Nat.reduceSub, Nat.reduceMul, Nat.reduceLeDiff, Nat.reduceEqDiff, Nat.reduceLT, and_true, true_and, and_self, if_true, if_false, ne_eq, not_false_eq_true, not_true_eq_false, or_false, false_or, or_true, true_or, false_and, and_false, reduceIte, reduceCtorEq, xB, ite_not, xretf_zc, xretf_c, xcont_c, xbd, h1, nI_leI, nI_neg0, cl_nI, k1.1, k1.2, e, f1, nI_eq, nI_add]
    rw [if_neg (by omega)]
    show _ = xD tX4_countFading (4, [_, .int (nI (cnt (fun k => decide (cv I k 5 = 1)) 0 (i + 1))), _], _)
    rw [cnt_snoc, Nat.zero_add]
    have hf : cv I i 5 = 0 ∨ cv I i 5 = 1 := by omega
    rcases hf with hf | hf <;> simp [hf]) n (Nat.le_refl n)
  rw [show xD tX4_countFading (4, [.ref 24, .int (nI 0), .int (nI 0)], [], 0, S0 L I J) = _ from key.1, hX4_countFading_4]
  simp (disch := omega) only [eX4_countFading, xRl, xG1, xG2, kAll, rAll, nAll, List.map_nil, List.map_cons, List.sum_nil, List.sum_cons, Nat.reduceAdd, Nat.reduceSub, Nat.reduceMul, Nat.reduceLeDiff, Nat.reduceEqDiff, Nat.reduceLT, and_true, true_and, and_self, if_true, if_false, ne_eq, not_false_eq_true, not_true_eq_false, or_false, false_or, or_true, true_or, false_and, and_false, reduceIte, reduceCtorEq, xB, ite_not, xretf_zc, xretf_c, xcont_c, xbd, h1, nI_leI]
  rw [if_pos (Nat.le_refl n)]
theorem p4_sumOfDues {n yr : Nat} (hC : Cok I n yr) : FX4_sumOfDues [.ref 24] (S0 L I J) = some (some (.int (nI (sumN (fun k => cv I k 4) n))), S0 L I J) := by
  have hn := hC.1
  have h1 := hC.2.1
  rw [fX4_sumOfDues]
  simp (disch := omega) only [eX4_sumOfDues, xRl, xG1, xG2, kAll, rAll, nAll, List.map_nil, List.map_cons, List.sum_nil, List.sum_cons, Nat.reduceAdd, Nat.reduceSub, Nat.reduceMul, Nat.reduceLeDiff, Nat.reduceEqDiff, Nat.reduceLT, and_true, true_and, and_self, if_true, if_false, ne_eq, not_false_eq_true, not_true_eq_false, or_false, false_or, or_true, true_or, false_and, and_false, reduceIte, reduceCtorEq, xB, ite_not, xretf_zc, xretf_c, xcont_c, xbd]
  have key := xloop (t := tX4_sumOfDues) (st := fun i (_ : Unit) => (4, [.ref 24, .int (nI (sumN (fun k => cv I k 4) i)), .int (nI i)], [], 0, S0 L I J)) (g := fun _ _ => ()) (N := n) (Inv := fun _ _ => True) (a0 := ()) trivial (by
    intro i u hi _
    refine ⟨?_, trivial⟩
    obtain ⟨f1, f2⟩ := (hC.2.2.2.2 i hi).2.2.2.2.1
    have k1 := kNam i (by omega)
    have e : ¬ 26 + i = 0 := by omega
    show xD tX4_sumOfDues (4, _) = _
    rw [hX4_sumOfDues_4]
    simp (disch := omega) only [eX4_sumOfDues, xRl, xG1, xG2, kAll, rAll, nAll, List.map_nil, List.map_cons, List.sum_nil, List.sum_cons, Nat.reduceAdd, Nat.reduceSub, Nat.reduceMul, Nat.reduceLeDiff, Nat.reduceEqDiff, Nat.reduceLT, and_true, true_and, and_self, if_true, if_false, ne_eq, not_false_eq_true, not_true_eq_false, or_false, false_or, or_true, true_or, false_and, and_false, reduceIte, reduceCtorEq, xB, ite_not, xretf_zc, xretf_c, xcont_c, xbd, h1, nI_leI, nI_neg0, cl_nI, k1.1, k1.2, e, f1, nI_add]
    rw [if_neg (by omega)]
    rfl) n (Nat.le_refl n)
  rw [show xD tX4_sumOfDues (4, [.ref 24, .int (nI 0), .int (nI 0)], [], 0, S0 L I J) = _ from key.1, hX4_sumOfDues_4]
  simp (disch := omega) only [eX4_sumOfDues, xRl, xG1, xG2, kAll, rAll, nAll, List.map_nil, List.map_cons, List.sum_nil, List.sum_cons, Nat.reduceAdd, Nat.reduceSub, Nat.reduceMul, Nat.reduceLeDiff, Nat.reduceEqDiff, Nat.reduceLT, and_true, true_and, and_self, if_true, if_false, ne_eq, not_false_eq_true, not_true_eq_false, or_false, false_or, or_true, true_or, false_and, and_false, reduceIte, reduceCtorEq, xB, ite_not, xretf_zc, xretf_c, xcont_c, xbd, h1, nI_leI]
  rw [if_pos (Nat.le_refl n)]
theorem p4_countOfKind {n yr w : Nat} (hC : Cok I n yr) (hw : w < 6) : FX4_countOfKind [.ref 24, .int (nI w)] (S0 L I J) = some (some (.int (nI (cnt (fun k => isOfN (cv I k 0) w) 0 n))), S0 L I J) := by
  have hn := hC.1
  have h1 := hC.2.1
  rw [fX4_countOfKind]
  simp (disch := omega) only [eX4_countOfKind, xRl, xG1, xG2, kAll, rAll, nAll, List.map_nil, List.map_cons, List.sum_nil, List.sum_cons, Nat.reduceAdd, Nat.reduceSub, Nat.reduceMul, Nat.reduceLeDiff, Nat.reduceEqDiff, Nat.reduceLT, and_true, true_and, and_self, if_true, if_false, ne_eq, not_false_eq_true, not_true_eq_false, or_false, false_or, or_true, true_or, false_and, and_false, reduceIte, reduceCtorEq, xB, ite_not, xretf_zc, xretf_c, xcont_c, xbd]
  have key := xloop (t := tX4_countOfKind) (st := fun i (_ : Unit) => (4, [.ref 24, .int (nI w), .int (nI (cnt (fun k => isOfN (cv I k 0) w) 0 i)), .int (nI i)], [], 0, S0 L I J)) (g := fun _ _ => ()) (N := n) (Inv := fun _ _ => True) (a0 := ()) trivial (by
    intro i u hi _
    refine ⟨?_, trivial⟩
    obtain ⟨f1, f2⟩ := (hC.2.2.2.2 i hi).1
    have k1 := kNam i (by omega)
    have e : ¬ 26 + i = 0 := by omega
    show xD tX4_countOfKind (4, _) = _
    rw [hX4_countOfKind_4]
    simp (disch := omega) only [eX4_countOfKind, xRl, xG1, xG2, kAll, rAll, nAll, List.map_nil, List.map_cons, List.sum_nil, List.sum_cons, Nat.reduceAdd, Nat.reduceSub, Nat.reduceMul, Nat.reduceLeDiff, Nat.reduceEqDiff, Nat.reduceLT, and_true, true_and, and_self, if_true, if_false, ne_eq, not_false_eq_true, not_true_eq_false, or_false, false_or, or_true, true_or, false_and, and_false, reduceIte, reduceCtorEq, xB, ite_not, xretf_zc, xretf_c, xcont_c, xbd, h1, nI_leI, nI_neg0, cl_nI, k1.1, k1.2, e, f1, p1_isOf, nI_add]
    rw [if_neg (by omega)]
    show _ = xD tX4_countOfKind (4, [_, _, .int (nI (cnt (fun k => isOfN (cv I k 0) w) 0 (i + 1))), _], _)
    rw [cnt_snoc, Nat.zero_add]
    by_cases hf : isOfN (cv I i 0) w = true <;> simp [hf]) n (Nat.le_refl n)
  rw [show xD tX4_countOfKind (4, [.ref 24, .int (nI w), .int (nI 0), .int (nI 0)], [], 0, S0 L I J) = _ from key.1, hX4_countOfKind_4]
  simp (disch := omega) only [eX4_countOfKind, xRl, xG1, xG2, kAll, rAll, nAll, List.map_nil, List.map_cons, List.sum_nil, List.sum_cons, Nat.reduceAdd, Nat.reduceSub, Nat.reduceMul, Nat.reduceLeDiff, Nat.reduceEqDiff, Nat.reduceLT, and_true, true_and, and_self, if_true, if_false, ne_eq, not_false_eq_true, not_true_eq_false, or_false, false_or, or_true, true_or, false_and, and_false, reduceIte, reduceCtorEq, xB, ite_not, xretf_zc, xretf_c, xcont_c, xbd, h1, nI_leI]
  rw [if_pos (Nat.le_refl n)]
theorem p9_sumOf {n w : Nat} (hM : Mok I n) (hw : w < 7) (f : Nat → Nat) (hf : ∀ k, k < n → I 78 (10 + 7 * k + w) = nI (f k)) : FX9_sumOf [.ref 77, .int (nI w)] (S0 L I J) = some (some (.int (nI (sumN f n))), S0 L I J) := by
  have hn := hM.1
  have h1 := hM.2.1
  rw [fX9_sumOf]
  simp (disch := omega) only [eX9_sumOf, xRl, xG1, xG2, kAll, rAll, nAll, List.map_nil, List.map_cons, List.sum_nil, List.sum_cons, Nat.reduceAdd, Nat.reduceSub, Nat.reduceMul, Nat.reduceLeDiff, Nat.reduceEqDiff, Nat.reduceLT, and_true, true_and, and_self, if_true, if_false, ne_eq, not_false_eq_true, not_true_eq_false, or_false, false_or, or_true, true_or, false_and, and_false, reduceIte, reduceCtorEq, xB, ite_not, xretf_zc, xretf_c, xcont_c, xbd]
  have key := xloop (t := tX9_sumOf) (st := fun i (_ : Unit) => (4, [.ref 77, .int (nI w), .int (nI (sumN f i)), .int (nI i)], [], 0, S0 L I J)) (g := fun _ _ => ()) (N := n) (Inv := fun _ _ => True) (a0 := ()) trivial (by
    intro i u hi _
    refine ⟨?_, trivial⟩
    show xD tX9_sumOf (4, _) = _
    rw [hX9_sumOf_4]
    simp (disch := omega) only [eX9_sumOf, xRl, xG1, xG2, kAll, rAll, nAll, List.map_nil, List.map_cons, List.sum_nil, List.sum_cons, Nat.reduceAdd, Nat.reduceSub, Nat.reduceMul, Nat.reduceLeDiff, Nat.reduceEqDiff, Nat.reduceLT, and_true, true_and, and_self, if_true, if_false, ne_eq, not_false_eq_true, not_true_eq_false, or_false, false_or, or_true, true_or, false_and, and_false, reduceIte, reduceCtorEq, xB, ite_not, xretf_zc, xretf_c, xcont_c, xbd, h1, nI_leI, nI_neg0, cl_nI, p9_of, hf i hi, nI_add]
    rw [if_neg (by omega)]
    rfl) n (Nat.le_refl n)
  rw [show xD tX9_sumOf (4, [.ref 77, .int (nI w), .int (nI 0), .int (nI 0)], [], 0, S0 L I J) = _ from key.1, hX9_sumOf_4]
  simp (disch := omega) only [eX9_sumOf, xRl, xG1, xG2, kAll, rAll, nAll, List.map_nil, List.map_cons, List.sum_nil, List.sum_cons, Nat.reduceAdd, Nat.reduceSub, Nat.reduceMul, Nat.reduceLeDiff, Nat.reduceEqDiff, Nat.reduceLT, and_true, true_and, and_self, if_true, if_false, ne_eq, not_false_eq_true, not_true_eq_false, or_false, false_or, or_true, true_or, false_and, and_false, reduceIte, reduceCtorEq, xB, ite_not, xretf_zc, xretf_c, xcont_c, xbd, h1, nI_leI, nI_neg0, cl_nI]
  rw [if_pos (Nat.le_refl n)]
theorem p9_kindMany {n w : Nat} (hM : Mok I n) (hw : w < 6) (hw0 : 0 < w) : FX9_kindMany [.ref 77, .int (nI w)] (S0 L I J) = some (some (.int (nI (cnt (fun k => isOfN (mKd I k) w) 0 n))), S0 L I J) := by
  have hn := hM.1
  have h1 := hM.2.1
  rw [fX9_kindMany]
  simp (disch := omega) only [eX9_kindMany, xRl, xG1, xG2, kAll, rAll, nAll, List.map_nil, List.map_cons, List.sum_nil, List.sum_cons, Nat.reduceAdd, Nat.reduceSub, Nat.reduceMul, Nat.reduceLeDiff, Nat.reduceEqDiff, Nat.reduceLT, and_true, true_and, and_self, if_true, if_false, ne_eq, not_false_eq_true, not_true_eq_false, or_false, false_or, or_true, true_or, false_and, and_false, reduceIte, reduceCtorEq, xB, ite_not, xretf_zc, xretf_c, xcont_c, xbd]
  have key := xloop (t := tX9_kindMany) (st := fun i (_ : Unit) => (4, [.ref 77, .int (nI w), .int (nI (cnt (fun k => isOfN (mKd I k) w) 0 i)), .int (nI i)], [], 0, S0 L I J)) (g := fun _ _ => ()) (N := n) (Inv := fun _ _ => True) (a0 := ()) trivial (by
    intro i u hi _
    refine ⟨?_, trivial⟩
    show xD tX9_kindMany (4, _) = _
    rw [hX9_kindMany_4]
    simp (disch := omega) only [eX9_kindMany, xRl, xG1, xG2, kAll, rAll, nAll, List.map_nil, List.map_cons, List.sum_nil, List.sum_cons, Nat.reduceAdd, Nat.reduceSub, Nat.reduceMul, Nat.reduceLeDiff, Nat.reduceEqDiff, Nat.reduceLT, and_true, true_and, and_self, if_true, if_false, ne_eq, not_false_eq_true, not_true_eq_false, or_false, false_or, or_true, true_or, false_and, and_false, reduceIte, reduceCtorEq, xB, ite_not, xretf_zc, xretf_c, xcont_c, xbd, h1, nI_leI, nI_neg0, cl_nI, p9_isOf L I J n i w hM hi hw hw0, nI_add]
    rw [if_neg (by omega)]
    show _ = xD tX9_kindMany (4, [_, _, .int (nI (cnt (fun k => isOfN (mKd I k) w) 0 (i + 1))), _], _)
    rw [cnt_snoc, Nat.zero_add]
    by_cases hf : isOfN (mKd I i) w = true <;> simp [hf]) n (Nat.le_refl n)
  rw [show xD tX9_kindMany (4, [.ref 77, .int (nI w), .int (nI 0), .int (nI 0)], [], 0, S0 L I J) = _ from key.1, hX9_kindMany_4]
  simp (disch := omega) only [eX9_kindMany, xRl, xG1, xG2, kAll, rAll, nAll, List.map_nil, List.map_cons, List.sum_nil, List.sum_cons, Nat.reduceAdd, Nat.reduceSub, Nat.reduceMul, Nat.reduceLeDiff, Nat.reduceEqDiff, Nat.reduceLT, and_true, true_and, and_self, if_true, if_false, ne_eq, not_false_eq_true, not_true_eq_false, or_false, false_or, or_true, true_or, false_and, and_false, reduceIte, reduceCtorEq, xB, ite_not, xretf_zc, xretf_c, xcont_c, xbd, h1, nI_leI, nI_neg0, cl_nI]
  rw [if_pos (Nat.le_refl n)]
theorem p8_countRows (h : CpR I) : FX8_countRows [.ref 1] (S0 L I J) = some (some (.int (nI (cnt (fun k => decide (nI 0 ≤ I 79 k)) 0 6))), S0 L I J) := by
  rw [fX8_countRows]
  simp (disch := omega) only [eX8_countRows, xRl, xG1, xG2, kAll, rAll, nAll, List.map_nil, List.map_cons, List.sum_nil, List.sum_cons, Nat.reduceAdd, Nat.reduceSub, Nat.reduceMul, Nat.reduceLeDiff, Nat.reduceEqDiff, Nat.reduceLT, and_true, true_and, and_self, if_true, if_false, ne_eq, not_false_eq_true, not_true_eq_false, or_false, false_or, or_true, true_or, false_and, and_false, reduceIte, reduceCtorEq, xB, ite_not, xretf_zc, xretf_c, xcont_c, xbd]
  have key := xloop (t := tX8_countRows) (st := fun i (_ : Unit) => (4, [.ref 1, .int (nI (cnt (fun k => decide (nI 0 ≤ I 79 k)) 0 i)), .int (nI i)], [], 0, S0 L I J)) (g := fun _ _ => ()) (N := 6) (Inv := fun _ _ => True) (a0 := ()) trivial (by
    intro i u hi _
    refine ⟨?_, trivial⟩
    obtain ⟨k1, k2, k3, k4⟩ := kRow i hi
    have e : ¬ 3 + 2 * i = 0 := by omega
    have e1 := (h i hi).1
    show xD tX8_countRows (4, _) = _
    rw [hX8_countRows_4]
    simp (disch := omega) only [eX8_countRows, xRl, xG1, xG2, kAll, rAll, nAll, List.map_nil, List.map_cons, List.sum_nil, List.sum_cons, Nat.reduceAdd, Nat.reduceSub, Nat.reduceMul, Nat.reduceLeDiff, Nat.reduceEqDiff, Nat.reduceLT, and_true, true_and, and_self, if_true, if_false, ne_eq, not_false_eq_true, not_true_eq_false, or_false, false_or, or_true, true_or, false_and, and_false, reduceIte, reduceCtorEq, xB, ite_not, xretf_zc, xretf_c, xcont_c, xbd, nI_leI, nI_neg0, cl_nI, k1, k3, e, p5_isThere, e1, nI_add]
    rw [if_neg (by omega)]
    show _ = xD tX8_countRows (4, [_, .int (nI (cnt (fun k => decide (nI 0 ≤ I 79 k)) 0 (i + 1))), _], _)
    rw [cnt_snoc, Nat.zero_add]
    by_cases hf : nI 0 ≤ I 79 i <;> simp [hf]) 6 (Nat.le_refl 6)
  rw [show xD tX8_countRows (4, [.ref 1, .int (nI 0), .int (nI 0)], [], 0, S0 L I J) = _ from key.1, hX8_countRows_4]
  simp (disch := omega) only [eX8_countRows, xRl, xG1, xG2, kAll, rAll, nAll, List.map_nil, List.map_cons, List.sum_nil, List.sum_cons, Nat.reduceAdd, Nat.reduceSub, Nat.reduceMul, Nat.reduceLeDiff, Nat.reduceEqDiff, Nat.reduceLT, and_true, true_and, and_self, if_true, if_false, ne_eq, not_false_eq_true, not_true_eq_false, or_false, false_or, or_true, true_or, false_and, and_false, reduceIte, reduceCtorEq, xB, ite_not, xretf_zc, xretf_c, xcont_c, xbd, nI_leI]
theorem p8_countTexts (h : CpT I) : FX8_countTexts [.ref 1] (S0 L I J) = some (some (.int (nI (cnt (fun k => decide (nI 0 ≤ I 81 k)) 0 4))), S0 L I J) := by
  rw [fX8_countTexts]
  simp (disch := omega) only [eX8_countTexts, xRl, xG1, xG2, kAll, rAll, nAll, List.map_nil, List.map_cons, List.sum_nil, List.sum_cons, Nat.reduceAdd, Nat.reduceSub, Nat.reduceMul, Nat.reduceLeDiff, Nat.reduceEqDiff, Nat.reduceLT, and_true, true_and, and_self, if_true, if_false, ne_eq, not_false_eq_true, not_true_eq_false, or_false, false_or, or_true, true_or, false_and, and_false, reduceIte, reduceCtorEq, xB, ite_not, xretf_zc, xretf_c, xcont_c, xbd]
  have key := xloop (t := tX8_countTexts) (st := fun i (_ : Unit) => (4, [.ref 1, .int (nI (cnt (fun k => decide (nI 0 ≤ I 81 k)) 0 i)), .int (nI i)], [], 0, S0 L I J)) (g := fun _ _ => ()) (N := 4) (Inv := fun _ _ => True) (a0 := ()) trivial (by
    intro i u hi _
    refine ⟨?_, trivial⟩
    obtain ⟨k1, k2, k3, k4⟩ := kTxt i hi
    have e : ¬ 16 + 2 * i = 0 := by omega
    have e1 := (h i hi).1
    show xD tX8_countTexts (4, _) = _
    rw [hX8_countTexts_4]
    simp (disch := omega) only [eX8_countTexts, xRl, xG1, xG2, kAll, rAll, nAll, List.map_nil, List.map_cons, List.sum_nil, List.sum_cons, Nat.reduceAdd, Nat.reduceSub, Nat.reduceMul, Nat.reduceLeDiff, Nat.reduceEqDiff, Nat.reduceLT, and_true, true_and, and_self, if_true, if_false, ne_eq, not_false_eq_true, not_true_eq_false, or_false, false_or, or_true, true_or, false_and, and_false, reduceIte, reduceCtorEq, xB, ite_not, xretf_zc, xretf_c, xcont_c, xbd, nI_leI, nI_neg0, cl_nI, k1, k3, e, p7_isThere, e1, nI_add]
    rw [if_neg (by omega)]
    show _ = xD tX8_countTexts (4, [_, .int (nI (cnt (fun k => decide (nI 0 ≤ I 81 k)) 0 (i + 1))), _], _)
    rw [cnt_snoc, Nat.zero_add]
    by_cases hf : nI 0 ≤ I 81 i <;> simp [hf]) 4 (Nat.le_refl 4)
  rw [show xD tX8_countTexts (4, [.ref 1, .int (nI 0), .int (nI 0)], [], 0, S0 L I J) = _ from key.1, hX8_countTexts_4]
  simp (disch := omega) only [eX8_countTexts, xRl, xG1, xG2, kAll, rAll, nAll, List.map_nil, List.map_cons, List.sum_nil, List.sum_cons, Nat.reduceAdd, Nat.reduceSub, Nat.reduceMul, Nat.reduceLeDiff, Nat.reduceEqDiff, Nat.reduceLT, and_true, true_and, and_self, if_true, if_false, ne_eq, not_false_eq_true, not_true_eq_false, or_false, false_or, or_true, true_or, false_and, and_false, reduceIte, reduceCtorEq, xB, ite_not, xretf_zc, xretf_c, xcont_c, xbd, nI_leI]
theorem kep_c (h : CpK I) {k : Nat} (hk : k < 3) : (I (36 + 11 * k) 1 = nI 0 ∧ I 78 (426 * (1 + k)) = -1) ∨ ∃ n d, 0 < n ∧ n ≤ 8 ∧ d ≤ 40 ∧ I (36 + 11 * k) 1 = nI n ∧ I (36 + 11 * k) 3 = nI d ∧ I 78 (426 * (1 + k)) = nI d := by
  rcases h k hk with ⟨v1, v2, v3⟩ | ⟨n, d, yr, hn0, hR⟩
  · exact Or.inl ⟨v1, v2⟩
  · exact Or.inr ⟨n, d, hn0, hR.1.1, hR.1.2.1, hR.1.2.2.1, hR.1.2.2.2.1, hR.1.2.2.2.2.2.1⟩
theorem p8_countKept (h : CpK I) : FX8_countKept [.ref 1] (S0 L I J) = some (some (.int (nI (cnt (fun k => decide (nI 0 ≤ I 78 (426 * (1 + k)))) 0 3))), S0 L I J) := by
  rw [fX8_countKept]
  simp (disch := omega) only [eX8_countKept, xRl, xG1, xG2, kAll, rAll, nAll, List.map_nil, List.map_cons, List.sum_nil, List.sum_cons, Nat.reduceAdd, Nat.reduceSub, Nat.reduceMul, Nat.reduceLeDiff, Nat.reduceEqDiff, Nat.reduceLT, and_true, true_and, and_self, if_true, if_false, ne_eq, not_false_eq_true, not_true_eq_false, or_false, false_or, or_true, true_or, false_and, and_false, reduceIte, reduceCtorEq, xB, ite_not, xretf_zc, xretf_c, xcont_c, xbd]
  have key := xloop (t := tX8_countKept) (st := fun i (_ : Unit) => (4, [.ref 1, .int (nI (cnt (fun k => decide (nI 0 ≤ I 78 (426 * (1 + k)))) 0 i)), .int (nI i)], [], 0, S0 L I J)) (g := fun _ _ => ()) (N := 3) (Inv := fun _ _ => True) (a0 := ()) trivial (by
    intro i u hi _
    refine ⟨?_, trivial⟩
    obtain ⟨⟨k1, k2, -⟩, -⟩ := kKep i hi
    have e : ¬ 36 + 11 * i = 0 := by omega
    show xD tX8_countKept (4, _) = xD tX8_countKept (4, [_, .int (nI (cnt (fun k => decide (nI 0 ≤ I 78 (426 * (1 + k)))) 0 (i + 1))), _], _)
    rw [hX8_countKept_4, cnt_snoc, Nat.zero_add]
    rcases kep_c I h hi with ⟨v1, v2⟩ | ⟨n, d, n0, n8, d40, v1, -, v2⟩
    · simp (disch := omega) only [eX8_countKept, xRl, xG1, xG2, kAll, rAll, nAll, List.map_nil, List.map_cons, List.sum_nil, List.sum_cons, Nat.reduceAdd, Nat.reduceSub, Nat.reduceMul, Nat.reduceLeDiff, Nat.reduceEqDiff, Nat.reduceLT, and_true, true_and, and_self, if_true, if_false, ne_eq, not_false_eq_true, not_true_eq_false, or_false, false_or, or_true, true_or, false_and, and_false, reduceIte, reduceCtorEq, xB, ite_not, xretf_zc, xretf_c, xcont_c, xbd, nI_leI, nI_ltI, nI_neg0, cl_nI, k1, k2, e, v1, v2, m1_ge, nI_add]
      rw [if_neg (by omega)]
      simp
    · simp (disch := omega) only [eX8_countKept, xRl, xG1, xG2, kAll, rAll, nAll, List.map_nil, List.map_cons, List.sum_nil, List.sum_cons, Nat.reduceAdd, Nat.reduceSub, Nat.reduceMul, Nat.reduceLeDiff, Nat.reduceEqDiff, Nat.reduceLT, and_true, true_and, and_self, if_true, if_false, ne_eq, not_false_eq_true, not_true_eq_false, or_false, false_or, or_true, true_or, false_and, and_false, reduceIte, reduceCtorEq, xB, ite_not, xretf_zc, xretf_c, xcont_c, xbd, nI_leI, nI_ltI, nI_neg0, cl_nI, k1, k2, e, v1, v2, Nat.zero_le, nI_add]
      rw [if_neg (by omega)]
      first | rw [if_pos n0] | rw [if_neg (by omega)]
      simp) 3 (Nat.le_refl 3)
  rw [show xD tX8_countKept (4, [.ref 1, .int (nI 0), .int (nI 0)], [], 0, S0 L I J) = _ from key.1, hX8_countKept_4]
  simp (disch := omega) only [eX8_countKept, xRl, xG1, xG2, kAll, rAll, nAll, List.map_nil, List.map_cons, List.sum_nil, List.sum_cons, Nat.reduceAdd, Nat.reduceSub, Nat.reduceMul, Nat.reduceLeDiff, Nat.reduceEqDiff, Nat.reduceLT, and_true, true_and, and_self, if_true, if_false, ne_eq, not_false_eq_true, not_true_eq_false, or_false, false_or, or_true, true_or, false_and, and_false, reduceIte, reduceCtorEq, xB, ite_not, xretf_zc, xretf_c, xcont_c, xbd, nI_leI]
theorem sgn (x : Int32) : (x < nI 0) ↔ ¬ nI 0 ≤ x := Int32.not_le.symm
theorem p9_there {w : Nat} (hw : w = 6 ∨ w = 7 ∨ w = 8) (f : Nat → Bool) (h6 : w = 6 → ∀ k, k < 6 → f k = decide (nI 0 ≤ I 79 k)) (h7 : w = 7 → ∀ k, k < 6 → f k = (decide (k < 4) && decide (nI 0 ≤ I 81 k))) (h8 : w = 8 → ∀ k, k < 6 → f k = (decide (k < 3) && decide (nI 0 ≤ I 78 (426 * (1 + k))))) : FX9_thereOf [.ref 77, .int (nI w)] (S0 L I J) = some (some (.int (nI (cnt f 0 6))), S0 L I J) := by
  rw [fX9_thereOf]
  simp (disch := omega) only [eX9_thereOf, xRl, xG1, xG2, kAll, rAll, nAll, List.map_nil, List.map_cons, List.sum_nil, List.sum_cons, Nat.reduceAdd, Nat.reduceSub, Nat.reduceMul, Nat.reduceLeDiff, Nat.reduceEqDiff, Nat.reduceLT, and_true, true_and, and_self, if_true, if_false, ne_eq, not_false_eq_true, not_true_eq_false, or_false, false_or, or_true, true_or, false_and, and_false, reduceIte, reduceCtorEq, xB, ite_not, xretf_zc, xretf_c, xcont_c, xbd]
  have key := xloop (t := tX9_thereOf) (st := fun i (_ : Unit) => (4, [.ref 77, .int (nI w), .int (nI (cnt f 0 i)), .int (nI i)], [], 0, S0 L I J)) (g := fun _ _ => ()) (N := 6) (Inv := fun _ _ => True) (a0 := ()) trivial (by
    intro i u hi _
    refine ⟨?_, trivial⟩
    show xD tX9_thereOf (4, _) = xD tX9_thereOf (4, [_, _, .int (nI (cnt f 0 (i + 1))), _], _)
    rw [hX9_thereOf_4, cnt_snoc, Nat.zero_add]
    rcases hw with rfl | rfl | rfl
    · rw [h6 rfl i hi]
      simp (disch := omega) only [eX9_thereOf, xRl, xG1, xG2, kAll, rAll, nAll, List.map_nil, List.map_cons, List.sum_nil, List.sum_cons, Nat.reduceAdd, Nat.reduceSub, Nat.reduceMul, Nat.reduceLeDiff, Nat.reduceEqDiff, Nat.reduceLT, and_true, true_and, and_self, if_true, if_false, ne_eq, not_false_eq_true, not_true_eq_false, or_false, false_or, or_true, true_or, false_and, and_false, reduceIte, reduceCtorEq, xB, ite_not, xretf_zc, xretf_c, xcont_c, xbd, nI_leI, nI_eq, nI_neg0, cl_nI, nI_add, sgn]
      rw [if_neg (by omega)]
      by_cases hf : nI 0 ≤ I 79 i <;> simp [hf]
    · rw [h7 rfl i hi]
      by_cases h4 : i < 4
      · simp (disch := omega) only [eX9_thereOf, xRl, xG1, xG2, kAll, rAll, nAll, List.map_nil, List.map_cons, List.sum_nil, List.sum_cons, Nat.reduceAdd, Nat.reduceSub, Nat.reduceMul, Nat.reduceLeDiff, Nat.reduceEqDiff, Nat.reduceLT, and_true, true_and, and_self, if_true, if_false, ne_eq, not_false_eq_true, not_true_eq_false, or_false, false_or, or_true, true_or, false_and, and_false, reduceIte, reduceCtorEq, xB, ite_not, xretf_zc, xretf_c, xcont_c, xbd, nI_leI, nI_eq, nI_neg0, cl_nI, nI_add, sgn]
        rw [if_neg (by omega), if_neg (by omega)]
        by_cases hf : nI 0 ≤ I 81 i <;> simp [hf, h4]
      · have h4' : 4 ≤ i := by omega
        simp (disch := omega) only [eX9_thereOf, xRl, xG1, xG2, kAll, rAll, nAll, List.map_nil, List.map_cons, List.sum_nil, List.sum_cons, Nat.reduceAdd, Nat.reduceSub, Nat.reduceMul, Nat.reduceLeDiff, Nat.reduceEqDiff, Nat.reduceLT, and_true, true_and, and_self, if_true, if_false, ne_eq, not_false_eq_true, not_true_eq_false, or_false, false_or, or_true, true_or, false_and, and_false, reduceIte, reduceCtorEq, xB, ite_not, xretf_zc, xretf_c, xcont_c, xbd, nI_leI, nI_eq, nI_neg0, cl_nI, nI_add, sgn, h4']
        rw [if_neg (by omega)]
        simp [h4]
    · rw [h8 rfl i hi]
      by_cases h4 : i < 3
      · simp (disch := omega) only [eX9_thereOf, xRl, xG1, xG2, kAll, rAll, nAll, List.map_nil, List.map_cons, List.sum_nil, List.sum_cons, Nat.reduceAdd, Nat.reduceSub, Nat.reduceMul, Nat.reduceLeDiff, Nat.reduceEqDiff, Nat.reduceLT, and_true, true_and, and_self, if_true, if_false, ne_eq, not_false_eq_true, not_true_eq_false, or_false, false_or, or_true, true_or, false_and, and_false, reduceIte, reduceCtorEq, xB, ite_not, xretf_zc, xretf_c, xcont_c, xbd, nI_leI, nI_eq, nI_neg0, cl_nI, nI_add, pk_mul, Nat.add_zero, sgn]
        rw [if_neg (by omega), if_neg (by omega)]
        by_cases hf : nI 0 ≤ I 78 (426 * (1 + i)) <;> simp [hf, h4]
      · have h4' : 3 ≤ i := by omega
        simp (disch := omega) only [eX9_thereOf, xRl, xG1, xG2, kAll, rAll, nAll, List.map_nil, List.map_cons, List.sum_nil, List.sum_cons, Nat.reduceAdd, Nat.reduceSub, Nat.reduceMul, Nat.reduceLeDiff, Nat.reduceEqDiff, Nat.reduceLT, and_true, true_and, and_self, if_true, if_false, ne_eq, not_false_eq_true, not_true_eq_false, or_false, false_or, or_true, true_or, false_and, and_false, reduceIte, reduceCtorEq, xB, ite_not, xretf_zc, xretf_c, xcont_c, xbd, nI_leI, nI_eq, nI_neg0, cl_nI, nI_add, sgn, h4']
        rw [if_neg (by omega)]
        simp [h4]) 6 (Nat.le_refl 6)
  rw [show xD tX9_thereOf (4, [.ref 77, .int (nI w), .int (nI 0), .int (nI 0)], [], 0, S0 L I J) = _ from key.1, hX9_thereOf_4]
  simp (disch := omega) only [eX9_thereOf, xRl, xG1, xG2, kAll, rAll, nAll, List.map_nil, List.map_cons, List.sum_nil, List.sum_cons, Nat.reduceAdd, Nat.reduceSub, Nat.reduceMul, Nat.reduceLeDiff, Nat.reduceEqDiff, Nat.reduceLT, and_true, true_and, and_self, if_true, if_false, ne_eq, not_false_eq_true, not_true_eq_false, or_false, false_or, or_true, true_or, false_and, and_false, reduceIte, reduceCtorEq, xB, ite_not, xretf_zc, xretf_c, xcont_c, xbd, nI_leI]
theorem p8_count (h : Cp I J) {n d yr : Nat} (hR : RC I 24 0 n d yr) {w : Nat} (hw : w < 9) : FX8_count [.ref 1, .int (nI w)] (S0 L I J) = some (some (.int (nI (cntV I n d w))), S0 L I J) := by
  obtain ⟨hM, hC, hE⟩ := RC_M hR
  have h1 := hC.2.1
  have h3 := hR.1.2.2.2.1
  have q4 := p4_countOfKind L I J (w := 1) hC (by omega)
  have q5 := p4_countOfKind L I J (w := 2) hC (by omega)
  rw [fX8_count]
  have hw9 : w = 0 ∨ w = 1 ∨ w = 2 ∨ w = 3 ∨ w = 4 ∨ w = 5 ∨ w = 6 ∨ w = 7 ∨ w = 8 := by omega
  rcases hw9 with rfl | rfl | rfl | rfl | rfl | rfl | rfl | rfl | rfl
  all_goals
    simp (disch := omega) only [eX8_count, xRl, xG1, xG2, kAll, rAll, nAll, List.map_nil, List.map_cons, List.sum_nil, List.sum_cons, Nat.reduceAdd, Nat.reduceSub, Nat.reduceMul, Nat.reduceLeDiff, Nat.reduceEqDiff, Nat.reduceLT, and_true, true_and, and_self, if_true, if_false, ne_eq, not_false_eq_true, not_true_eq_false, or_false, false_or, or_true, true_or, false_and, and_false, reduceIte, reduceCtorEq, xB, ite_not, xretf_zc, xretf_c, xcont_c, xbd, nI_eq, h1, h3, p4_countFading L I J hC, p4_sumOfDues L I J hC, q4, q5, p8_countRows L I J h.1, p8_countTexts L I J h.2.1, p8_countKept L I J h.2.2.2.2.2.2.2]
    first | rfl | (unfold cntV; simp only [if_true, if_false, Nat.reduceEqDiff, reduceIte])
theorem p9_countOf (h : Cp I J) {n d yr : Nat} (hR : RC I 24 0 n d yr) {w : Nat} (hw : w < 9) : FX9_countOf [.ref 77, .int (nI w)] (S0 L I J) = some (some (.int (nI (cntV I n d w))), S0 L I J) := by
  obtain ⟨hM, hC, hE⟩ := RC_M hR
  have m1 := hM.2.1
  have m0 : I 78 0 = nI d := hR.1.2.2.2.2.2.1
  have g2 := p9_sumOf L I J (w := 6) hM (by omega) (mFa I) (fun k hk => by rw [show 10 + 7 * k + 6 = 16 + 7 * k by omega]; exact (hM.2.2 k hk).2.2.2.2.2.2.2.1)
  rw [sumN_cnt (g := fun k => decide (cv I k 5 = 1)) (fun k hk => by
    have a := (hE k hk).1.2.2.2.2
    have b := (hC.2.2.2.2 k hk).2.2.2.2.2.2
    rw [a]
    by_cases q : cv I k 5 = 1
    · rw [if_pos (by simp [q]), q]
    · rw [if_neg (by simp [q])]; omega)] at g2
  have g3 := p9_sumOf L I J (w := 5) hM (by omega) (mDu I) (fun k hk => by rw [show 10 + 7 * k + 5 = 15 + 7 * k by omega]; exact (hM.2.2 k hk).2.2.2.2.2.2.1.1)
  rw [sumN_congr (g := fun k => cv I k 4) (fun k hk => (hE k hk).1.2.2.2.1)] at g3
  have hk : ∀ w, cnt (fun k => isOfN (mKd I k) w) 0 n = cnt (fun k => isOfN (cv I k 0) w) 0 n := fun w => cnt_congr (fun k _ hk => by rw [(hE k (by omega)).1.1])
  have g4 := p9_kindMany L I J (w := 1) hM (by omega) (by omega)
  have g5 := p9_kindMany L I J (w := 2) hM (by omega) (by omega)
  rw [hk] at g4 g5
  have g6 := p9_there L I J (w := 6) (Or.inl rfl) (fun k => decide (nI 0 ≤ I 79 k)) (fun _ _ _ => rfl) (fun q => absurd q (by decide)) (fun q => absurd q (by decide))
  have g7 := p9_there L I J (w := 7) (Or.inr (Or.inl rfl)) (fun k => decide (k < 4) && decide (nI 0 ≤ I 81 k)) (fun q => absurd q (by decide)) (fun _ _ _ => rfl) (fun q => absurd q (by decide))
  have g8 := p9_there L I J (w := 8) (Or.inr (Or.inr rfl)) (fun k => decide (k < 3) && decide (nI 0 ≤ I 78 (426 * (1 + k)))) (fun q => absurd q (by decide)) (fun q => absurd q (by decide)) (fun _ _ _ => rfl)
  rw [show 6 = 4 + 2 from rfl, cnt_app, cnt_zero (a := 0 + 4) (fun i h1 h2 => by simp; omega), cnt_congr (g := fun k => decide (nI 0 ≤ I 81 k)) (fun i h1 h2 => by simp; omega)] at g7
  rw [show 6 = 3 + 3 from rfl, cnt_app, cnt_zero (a := 0 + 3) (fun i h1 h2 => by simp; omega), cnt_congr (g := fun k => decide (nI 0 ≤ I 78 (426 * (1 + k)))) (fun i h1 h2 => by simp; omega)] at g8
  rw [fX9_countOf]
  have hw9 : w = 0 ∨ w = 1 ∨ w = 2 ∨ w = 3 ∨ w = 4 ∨ w = 5 ∨ w = 6 ∨ w = 7 ∨ w = 8 := by omega
  rcases hw9 with rfl | rfl | rfl | rfl | rfl | rfl | rfl | rfl | rfl
  all_goals
    simp (disch := omega) only [eX9_countOf, xRl, xG1, xG2, kAll, rAll, nAll, List.map_nil, List.map_cons, List.sum_nil, List.sum_cons, Nat.reduceAdd, Nat.reduceSub, Nat.reduceMul, Nat.reduceLeDiff, Nat.reduceEqDiff, Nat.reduceLT, and_true, true_and, and_self, if_true, if_false, ne_eq, not_false_eq_true, not_true_eq_false, or_false, false_or, or_true, true_or, false_and, and_false, reduceIte, reduceCtorEq, xB, ite_not, xretf_zc, xretf_c, xcont_c, xbd, nI_eq, m1, m0, nI_neg0, cl_nI, g2, g3, g4, g5, g6, g7, g8]
    first | rfl | (unfold cntV; simp only [if_true, if_false, Nat.reduceEqDiff, reduceIte, Nat.add_zero])
theorem pr_count (h : Cp I J) (x : Int32) : Pair L FX8_count FX9_count [.int x] I J := by
  obtain ⟨n, d, yr, hR⟩ := h.2.2.2.2.2.2.1
  by_cases hx : nI 0 ≤ x ∧ x < nI 9
  · obtain ⟨w, hw, rfl⟩ := (Am_iff (by decide)).mp hx
    refine ⟨.int (nI (cntV I n d w)), I, J, I, J, p8_count L I J h hR hw, ?_, h⟩
    rw [fX9_count]
    simp (disch := omega) only [eX9_count, xRl, xG1, xG2, kAll, rAll, nAll, List.map_nil, List.map_cons, List.sum_nil, List.sum_cons, Nat.reduceAdd, Nat.reduceSub, Nat.reduceMul, Nat.reduceLeDiff, Nat.reduceEqDiff, Nat.reduceLT, and_true, true_and, and_self, if_true, if_false, ne_eq, not_false_eq_true, not_true_eq_false, or_false, false_or, or_true, true_or, false_and, and_false, reduceIte, reduceCtorEq, xB, ite_not, xretf_zc, xretf_c, xcont_c, xbd, p9_inL, hx, p9_countOf L I J h hR hw]
  · refine ⟨.int (-1), I, J, I, J, ?_, ?_, h⟩
    · have hne : ∀ w, w < 9 → ¬ x = nI w := fun w hw q => hx (by rw [q]; exact ⟨nI_pos' (by omega), nI_lt hw (by decide)⟩)
      rw [fX8_count]
      simp (disch := omega) only [eX8_count, xRl, xG1, xG2, kAll, rAll, nAll, List.map_nil, List.map_cons, List.sum_nil, List.sum_cons, Nat.reduceAdd, Nat.reduceSub, Nat.reduceMul, Nat.reduceLeDiff, Nat.reduceEqDiff, Nat.reduceLT, and_true, true_and, and_self, if_true, if_false, ne_eq, not_false_eq_true, not_true_eq_false, or_false, false_or, or_true, true_or, false_and, and_false, reduceIte, reduceCtorEq, xB, ite_not, xretf_zc, xretf_c, xcont_c, xbd, hne 0 (by decide), hne 1 (by decide), hne 2 (by decide), hne 3 (by decide), hne 4 (by decide), hne 5 (by decide), hne 6 (by decide), hne 7 (by decide), hne 8 (by decide)]
    · rw [fX9_count]
      simp (disch := omega) only [eX9_count, xRl, xG1, xG2, kAll, rAll, nAll, List.map_nil, List.map_cons, List.sum_nil, List.sum_cons, Nat.reduceAdd, Nat.reduceSub, Nat.reduceMul, Nat.reduceLeDiff, Nat.reduceEqDiff, Nat.reduceLT, and_true, true_and, and_self, if_true, if_false, ne_eq, not_false_eq_true, not_true_eq_false, or_false, false_or, or_true, true_or, false_and, and_false, reduceIte, reduceCtorEq, xB, ite_not, xretf_zc, xretf_c, xcont_c, xbd, p9_inL, hx]
end CT
