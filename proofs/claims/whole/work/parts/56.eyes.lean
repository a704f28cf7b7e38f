/-! eyes, show -/
/-- the places of sayings: shade, shade, 0 or 1 -/
def okS (f : Nat → Int32) (m : Nat) : Bool := decide (cnt (fun i => !decide (nI 0 ≤ f i ∧ f i < nI (if i % 3 = 2 then 2 else 216))) 0 m = 0)
theorem okS_t {f : Nat → Int32} {m : Nat} (h : okS f m = true) : ∀ i, i < m → f i = nI (tn (f i)) ∧ tn (f i) < (if i % 3 = 2 then 2 else 216) := by
  intro i hi
  unfold okS at h
  have h2 := cnt0.mp (of_decide_eq_true h) i (by omega) (by omega)
  simp only [Bool.not_eq_false', decide_eq_true_eq] at h2
  obtain ⟨v, hv, e⟩ := (Am_iff (by split <;> decide)).mp h2
  rw [e]
  unfold tn
  have : v < 216 := by split at hv <;> omega
  rw [cl_nI (by omega)]
  exact ⟨rfl, hv⟩
theorem okS_congr {f g : Nat → Int32} {m : Nat} (h : ∀ i, i < m → f i = g i) : okS f m = okS g m := by
  unfold okS
  rw [cnt_congr (fun i _ hi => by rw [h i (by omega)])]
theorem okS_3 (f : Nat → Int32) (q : Nat) : okS f (3 * (q + 1)) = (okS f (3 * q) && decide (nI 0 ≤ f (3 * q) ∧ f (3 * q) < nI 216) && decide (nI 0 ≤ f (3 * q + 1) ∧ f (3 * q + 1) < nI 216) && decide (nI 0 ≤ f (3 * q + 2) ∧ f (3 * q + 2) < nI 2)) := by
  unfold okS
  rw [show 3 * (q + 1) = 3 * q + 1 + 1 + 1 by omega, cnt_snoc, cnt_snoc, cnt_snoc, Nat.zero_add, Nat.zero_add, Nat.zero_add, show (3 * q) % 3 = 0 by omega, show (3 * q + 1) % 3 = 1 by omega, show (3 * q + 1 + 1) % 3 = 2 by omega, show 3 * q + 1 + 1 = 3 * q + 2 by omega]
  simp only [Nat.reduceEqDiff, if_false, if_true, reduceIte]
  by_cases h1 : nI 0 ≤ f (3 * q) ∧ f (3 * q) < nI 216 <;> by_cases h2 : nI 0 ≤ f (3 * q + 1) ∧ f (3 * q + 1) < nI 216 <;> by_cases h3 : nI 0 ≤ f (3 * q + 2) ∧ f (3 * q + 2) < nI 2 <;> simp [h1, h2, h3]
section EY
variable (L : Nat) (I : Nat → Nat → Int32) (J : Nat → Nat → Int64)
theorem rS_ok {j m : Nat} (hj : j < 6) (hm : m ≤ 40) (hz : I (3 + 2 * j) 1 = nI m) (h3 : m % 3 = 0) : FX8_refusalOfSayings [.ref 1, .int (nI j)] (S0 L I J) = if okS (I (4 + 2 * j)) m = true then some (some (.int (nI 0)), S0 L I J) else some (some (.int (-3)), S0 L (fnC I 3) J) := by
  obtain ⟨k1, k2, k3, k4⟩ := kRow j hj
  have k5 := nRow L j hj
  have e : ¬ 3 + 2 * j = 0 := by omega
  have e' : ¬ 4 + 2 * j = 0 := by omega
  have rN : m - m / 3 * 3 = 0 := by omega
  rw [fX8_refusalOfSayings]
  simp (disch := omega) only [eX8_refusalOfSayings, xRl, xG1, xG2, kAll, rAll, nAll, List.map_nil, List.map_cons, List.sum_nil, List.sum_cons, Nat.reduceAdd, Nat.reduceSub, Nat.reduceMul, Nat.reduceLeDiff, Nat.reduceEqDiff, Nat.reduceLT, and_true, true_and, and_self, if_true, if_false, ne_eq, not_false_eq_true, not_true_eq_false, or_false, false_or, or_true, true_or, false_and, and_false, reduceIte, reduceCtorEq, xB, ite_not, xretf_zc, xretf_c, xcont_c, xbd, rr_ok L I J hj hm hz, k1, k3, e, nI_neg0, cl_nI, hz, nI_z, pk_div, rem1, rem2, h3, nI_eq]
  have key : ∀ (d i : Nat), i + d = m → xretf (some .int) (xD tX8_refusalOfSayings (34, [.ref 1, .int (nI j), .int (nI 0), .int (nI i)], [], 0, S0 L I J)) = if decide (cnt (fun i => !decide (nI 0 ≤ I (4 + 2 * j) i ∧ I (4 + 2 * j) i < nI (if i % 3 = 2 then 2 else 216))) i d = 0) = true then some (some (.int (nI 0)), S0 L I J) else some (some (.int (-3)), S0 L (fnC I 3) J) := by
    intro d
    induction d with
    | zero =>
      intro i hi
      rw [hX8_refusalOfSayings_34]
      simp (disch := omega) only [eX8_refusalOfSayings, xRl, xG1, xG2, kAll, rAll, nAll, List.map_nil, List.map_cons, List.sum_nil, List.sum_cons, Nat.reduceAdd, Nat.reduceSub, Nat.reduceMul, Nat.reduceLeDiff, Nat.reduceEqDiff, Nat.reduceLT, and_true, true_and, and_self, if_true, if_false, ne_eq, not_false_eq_true, not_true_eq_false, or_false, false_or, or_true, true_or, false_and, and_false, reduceIte, reduceCtorEq, xB, ite_not, xretf_zc, xretf_c, xcont_c, xbd, k1, k3, e, nI_neg0, cl_nI, hz, nI_leI]
      rw [if_pos (by omega)]
      rfl
    | succ d ih =>
      intro i hi
      have e3 : cnt (fun i => !decide (nI 0 ≤ I (4 + 2 * j) i ∧ I (4 + 2 * j) i < nI (if i % 3 = 2 then 2 else 216))) i (d + 1) = (if (!decide (nI 0 ≤ I (4 + 2 * j) i ∧ I (4 + 2 * j) i < nI (if i % 3 = 2 then 2 else 216))) = true then 1 else 0) + cnt (fun i => !decide (nI 0 ≤ I (4 + 2 * j) i ∧ I (4 + 2 * j) i < nI (if i % 3 = 2 then 2 else 216))) (i + 1) d := rfl
      rw [hX8_refusalOfSayings_34, e3]
      by_cases h2 : i % 3 = 2
      · rw [if_pos h2]
        by_cases hv : nI 0 ≤ I (4 + 2 * j) i ∧ I (4 + 2 * j) i < nI 2
        · simp (disch := omega) only [eX8_refusalOfSayings, xRl, xG1, xG2, kAll, rAll, nAll, List.map_nil, List.map_cons, List.sum_nil, List.sum_cons, Nat.reduceAdd, Nat.reduceSub, Nat.reduceMul, Nat.reduceLeDiff, Nat.reduceEqDiff, Nat.reduceLT, and_true, true_and, and_self, if_true, if_false, ne_eq, not_false_eq_true, not_true_eq_false, or_false, false_or, or_true, true_or, false_and, and_false, reduceIte, reduceCtorEq, xB, ite_not, xretf_zc, xretf_c, xcont_c, xbd, k1, k2, k3, k4, k5, e, e', hz, nI_leI, nI_neg0, cl_nI, nI_z, pk_div, rem1, rem2, nI_eq, h2, p8_among, hv, nI_add]
          rw [if_neg (by omega), ih (i + 1) (by omega)]
          simp
        · simp (disch := omega) only [eX8_refusalOfSayings, xRl, xG1, xG2, kAll, rAll, nAll, List.map_nil, List.map_cons, List.sum_nil, List.sum_cons, Nat.reduceAdd, Nat.reduceSub, Nat.reduceMul, Nat.reduceLeDiff, Nat.reduceEqDiff, Nat.reduceLT, and_true, true_and, and_self, if_true, if_false, ne_eq, not_false_eq_true, not_true_eq_false, or_false, false_or, or_true, true_or, false_and, and_false, reduceIte, reduceCtorEq, xB, ite_not, xretf_zc, xretf_c, xcont_c, xbd, k1, k2, k3, k4, k5, e, e', hz, nI_leI, nI_neg0, cl_nI, nI_z, pk_div, rem1, rem2, nI_eq, h2, p8_among, hv, nI_add, p8_findingOf]
          rw [if_neg (by omega)]
          simp
      · rw [if_neg h2]
        by_cases hv : nI 0 ≤ I (4 + 2 * j) i ∧ I (4 + 2 * j) i < nI 216
        · simp (disch := omega) only [eX8_refusalOfSayings, xRl, xG1, xG2, kAll, rAll, nAll, List.map_nil, List.map_cons, List.sum_nil, List.sum_cons, Nat.reduceAdd, Nat.reduceSub, Nat.reduceMul, Nat.reduceLeDiff, Nat.reduceEqDiff, Nat.reduceLT, and_true, true_and, and_self, if_true, if_false, ne_eq, not_false_eq_true, not_true_eq_false, or_false, false_or, or_true, true_or, false_and, and_false, reduceIte, reduceCtorEq, xB, ite_not, xretf_zc, xretf_c, xcont_c, xbd, k1, k2, k3, k4, k5, e, e', hz, nI_leI, nI_neg0, cl_nI, nI_z, pk_div, rem1, rem2, nI_eq, h2, p8_among, hv, nI_add]
          rw [if_neg (by omega), ih (i + 1) (by omega)]
          simp
        · simp (disch := omega) only [eX8_refusalOfSayings, xRl, xG1, xG2, kAll, rAll, nAll, List.map_nil, List.map_cons, List.sum_nil, List.sum_cons, Nat.reduceAdd, Nat.reduceSub, Nat.reduceMul, Nat.reduceLeDiff, Nat.reduceEqDiff, Nat.reduceLT, and_true, true_and, and_self, if_true, if_false, ne_eq, not_false_eq_true, not_true_eq_false, or_false, false_or, or_true, true_or, false_and, and_false, reduceIte, reduceCtorEq, xB, ite_not, xretf_zc, xretf_c, xcont_c, xbd, k1, k2, k3, k4, k5, e, e', hz, nI_leI, nI_neg0, cl_nI, nI_z, pk_div, rem1, rem2, nI_eq, h2, p8_among, hv, nI_add, p8_findingOf]
          rw [if_neg (by omega)]
          simp
  exact key m 0 (by omega)
theorem n3_ok {j q : Nat} (hj : j < 6) (hm : 3 * q ≤ 40) (hz : I 79 j = nI (3 * q)) : FX9_noThrees [.ref 77, .int (nI j)] (S0 L I J) = if okS (fun i => I 80 (40 * j + i)) (3 * q) = true then some (some (.int (nI 0)), S0 L I J) else some (some (.int (-3)), S0 L (fnM I 3) J) := by
  have h3 : 3 * q % 3 = 0 := by omega
  rw [fX9_noThrees]
  simp (disch := omega) only [eX9_noThrees, xRl, xG1, xG2, kAll, rAll, nAll, List.map_nil, List.map_cons, List.sum_nil, List.sum_cons, Nat.reduceAdd, Nat.reduceSub, Nat.reduceMul, Nat.reduceLeDiff, Nat.reduceEqDiff, Nat.reduceLT, and_true, true_and, and_self, if_true, if_false, ne_eq, not_false_eq_true, not_true_eq_false, or_false, false_or, or_true, true_or, false_and, and_false, reduceIte, reduceCtorEq, xB, ite_not, xretf_zc, xretf_c, xcont_c, xbd, nI_neg0, cl_nI, hz, nI_leI, nI_ltI, Nat.not_lt_zero, Nat.zero_le, nI_z, pk_div, rem1, rem2, h3, nI_eq, pk_mul]
  have key := xloop (t := tX9_noThrees) (st := fun i (_ : Unit) => (39, [.ref 77, .int (nI j), .int (if okS (fun i => I 80 (40 * j + i)) (3 * i) = true then nI 1 else nI 0), .int (nI (40 * j + 3 * i))], [], 0, S0 L I J)) (g := fun _ _ => ()) (N := q) (Inv := fun _ _ => True) (a0 := ()) trivial (by
    intro i u hi _
    refine ⟨?_, trivial⟩
    show xD tX9_noThrees (39, [_, _, .int (if okS (fun i => I 80 (40 * j + i)) (3 * i) = true then nI 1 else nI 0), .int (nI (40 * j + 3 * i))], _) = xD tX9_noThrees (_, [_, _, .int (if okS (fun i => I 80 (40 * j + i)) (3 * (i + 1)) = true then nI 1 else nI 0), .int (nI (40 * j + 3 * (i + 1)))], _)
    rw [hX9_noThrees_39, okS_3, show 40 * j + 3 * (i + 1) = 40 * j + 3 * i + 3 by omega]
    have a1 : 40 * j + (3 * i + 1) = 40 * j + 3 * i + 1 := by omega
    have a2 : 40 * j + (3 * i + 2) = 40 * j + 3 * i + 2 := by omega
    rw [a1, a2]
    have hlt : ¬ 40 * j + 3 * q ≤ 40 * j + 3 * i := by omega
    by_cases ho : okS (fun i => I 80 (40 * j + i)) (3 * i) = true
    · by_cases b1 : nI 0 ≤ I 80 (40 * j + 3 * i) ∧ I 80 (40 * j + 3 * i) < nI 216
      · by_cases b2 : nI 0 ≤ I 80 (40 * j + 3 * i + 1) ∧ I 80 (40 * j + 3 * i + 1) < nI 216
        · by_cases b3 : nI 0 ≤ I 80 (40 * j + 3 * i + 2) ∧ I 80 (40 * j + 3 * i + 2) < nI 2
          · simp (disch := omega) only [eX9_noThrees, xRl, xG1, xG2, kAll, rAll, nAll, List.map_nil, List.map_cons, List.sum_nil, List.sum_cons, Nat.reduceAdd, Nat.reduceSub, Nat.reduceMul, Nat.reduceLeDiff, Nat.reduceEqDiff, Nat.reduceLT, and_true, true_and, and_self, if_true, if_false, ne_eq, not_false_eq_true, not_true_eq_false, or_false, false_or, or_true, true_or, false_and, and_false, reduceIte, reduceCtorEq, xB, ite_not, xretf_zc, xretf_c, xcont_c, xbd, hz, nI_leI, nI_neg0, cl_nI, pk_mul, nI_add, p9_isSh, p9_inL, ho, b1, b2, b3, hlt]
            simp
          · simp (disch := omega) only [eX9_noThrees, xRl, xG1, xG2, kAll, rAll, nAll, List.map_nil, List.map_cons, List.sum_nil, List.sum_cons, Nat.reduceAdd, Nat.reduceSub, Nat.reduceMul, Nat.reduceLeDiff, Nat.reduceEqDiff, Nat.reduceLT, and_true, true_and, and_self, if_true, if_false, ne_eq, not_false_eq_true, not_true_eq_false, or_false, false_or, or_true, true_or, false_and, and_false, reduceIte, reduceCtorEq, xB, ite_not, xretf_zc, xretf_c, xcont_c, xbd, hz, nI_leI, nI_neg0, cl_nI, pk_mul, nI_add, p9_isSh, p9_inL, ho, b1, b2, b3, hlt]
            simp
        · simp (disch := omega) only [eX9_noThrees, xRl, xG1, xG2, kAll, rAll, nAll, List.map_nil, List.map_cons, List.sum_nil, List.sum_cons, Nat.reduceAdd, Nat.reduceSub, Nat.reduceMul, Nat.reduceLeDiff, Nat.reduceEqDiff, Nat.reduceLT, and_true, true_and, and_self, if_true, if_false, ne_eq, not_false_eq_true, not_true_eq_false, or_false, false_or, or_true, true_or, false_and, and_false, reduceIte, reduceCtorEq, xB, ite_not, xretf_zc, xretf_c, xcont_c, xbd, hz, nI_leI, nI_neg0, cl_nI, pk_mul, nI_add, p9_isSh, p9_inL, ho, b1, b2, hlt]
          simp
      · simp (disch := omega) only [eX9_noThrees, xRl, xG1, xG2, kAll, rAll, nAll, List.map_nil, List.map_cons, List.sum_nil, List.sum_cons, Nat.reduceAdd, Nat.reduceSub, Nat.reduceMul, Nat.reduceLeDiff, Nat.reduceEqDiff, Nat.reduceLT, and_true, true_and, and_self, if_true, if_false, ne_eq, not_false_eq_true, not_true_eq_false, or_false, false_or, or_true, true_or, false_and, and_false, reduceIte, reduceCtorEq, xB, ite_not, xretf_zc, xretf_c, xcont_c, xbd, hz, nI_leI, nI_neg0, cl_nI, pk_mul, nI_add, p9_isSh, p9_inL, ho, b1, hlt]
        simp
    · simp (disch := omega) only [eX9_noThrees, xRl, xG1, xG2, kAll, rAll, nAll, List.map_nil, List.map_cons, List.sum_nil, List.sum_cons, Nat.reduceAdd, Nat.reduceSub, Nat.reduceMul, Nat.reduceLeDiff, Nat.reduceEqDiff, Nat.reduceLT, and_true, true_and, and_self, if_true, if_false, ne_eq, not_false_eq_true, not_true_eq_false, or_false, false_or, or_true, true_or, false_and, and_false, reduceIte, reduceCtorEq, xB, ite_not, xretf_zc, xretf_c, xcont_c, xbd, hz, nI_leI, nI_neg0, cl_nI, pk_mul, nI_add, ho, hlt]
      simp) q (Nat.le_refl q)
  have k0 := key.1
  rw [show 40 * j + 3 * 0 = 40 * j by omega] at k0
  rw [show xD tX9_noThrees (39, [.ref 77, .int (nI j), .int (nI 1), .int (nI (40 * j))], [], 0, S0 L I J) = _ from k0, hX9_noThrees_39]
  by_cases ho : okS (fun i => I 80 (40 * j + i)) (3 * q) = true
  · simp (disch := omega) only [eX9_noThrees, xRl, xG1, xG2, kAll, rAll, nAll, List.map_nil, List.map_cons, List.sum_nil, List.sum_cons, Nat.reduceAdd, Nat.reduceSub, Nat.reduceMul, Nat.reduceLeDiff, Nat.reduceEqDiff, Nat.reduceLT, and_true, true_and, and_self, if_true, if_false, ne_eq, not_false_eq_true, not_true_eq_false, or_false, false_or, or_true, true_or, false_and, and_false, reduceIte, reduceCtorEq, xB, ite_not, xretf_zc, xretf_c, xcont_c, xbd, hz, nI_leI, nI_neg0, cl_nI, pk_mul, nI_add, ho]
    simp
  · simp (disch := omega) only [eX9_noThrees, xRl, xG1, xG2, kAll, rAll, nAll, List.map_nil, List.map_cons, List.sum_nil, List.sum_cons, Nat.reduceAdd, Nat.reduceSub, Nat.reduceMul, Nat.reduceLeDiff, Nat.reduceEqDiff, Nat.reduceLT, and_true, true_and, and_self, if_true, if_false, ne_eq, not_false_eq_true, not_true_eq_false, or_false, false_or, or_true, true_or, false_and, and_false, reduceIte, reduceCtorEq, xB, ite_not, xretf_zc, xretf_c, xcont_c, xbd, hz, nI_leI, nI_neg0, cl_nI, pk_mul, nI_add, ho, p9_find]
    simp
/-- the refusals of sayings, on both sides -/
theorem sy_cases (h : Cp I J) (r : Int32) : (¬ (nI 0 ≤ r ∧ r < nI 6) ∧ FX8_refusalOfSayings [.ref 1, .int r] (S0 L I J) = some (some (.int (-1)), S0 L I J)) ∨ ∃ j, j < 6 ∧ r = nI j ∧ ((∃ f, f < 6 ∧ FX8_refusalOfSayings [.ref 1, .int r] (S0 L I J) = some (some (.int (-3)), S0 L (fnC I f) J) ∧ FX9_noThrees [.ref 77, .int r] (S0 L (fnC I f) J) = some (some (.int (-3)), S0 L (fnM (fnC I f) f) J)) ∨ ∃ q, 3 * q ≤ 40 ∧ I (3 + 2 * j) 1 = nI (3 * q) ∧ I 79 j = nI (3 * q) ∧ okS (I (4 + 2 * j)) (3 * q) = true ∧ FX8_refusalOfSayings [.ref 1, .int r] (S0 L I J) = some (some (.int (nI 0)), S0 L I J) ∧ FX9_noThrees [.ref 77, .int r] (S0 L I J) = some (some (.int (nI 0)), S0 L I J)) := by
  rcases row_cases h.1 r with hr | ⟨j, hj, rfl, z⟩
  · refine Or.inl ⟨hr, ?_⟩
    rw [fX8_refusalOfSayings]
    simp (disch := omega) only [eX8_refusalOfSayings, xRl, xG1, xG2, kAll, rAll, nAll, List.map_nil, List.map_cons, List.sum_nil, List.sum_cons, Nat.reduceAdd, Nat.reduceSub, Nat.reduceMul, Nat.reduceLeDiff, Nat.reduceEqDiff, Nat.reduceLT, and_true, true_and, and_self, if_true, if_false, ne_eq, not_false_eq_true, not_true_eq_false, or_false, false_or, or_true, true_or, false_and, and_false, reduceIte, reduceCtorEq, xB, ite_not, xretf_zc, xretf_c, xcont_c, xbd, rr_bad L I J hr, m1_0]
  refine Or.inr ⟨j, hj, rfl, ?_⟩
  obtain ⟨k1, k2, k3, k4⟩ := kRow j hj
  have e : ¬ 3 + 2 * j = 0 := by omega
  have f79 : ∀ f, fnC I f 79 = I 79 := fun f => by unfold fnC; rw [xup_ne _ _ _ (by decide), xup_ne _ _ _ (by decide)]
  have f80 : ∀ f, fnC I f 80 = I 80 := fun f => by unfold fnC; rw [xup_ne _ _ _ (by decide), xup_ne _ _ _ (by decide)]
  rcases z with ⟨z1, z2⟩ | ⟨m, hm, z1, z2⟩
  · refine Or.inl ⟨1, by decide, ?_, ?_⟩
    · rw [fX8_refusalOfSayings]
      simp (disch := omega) only [eX8_refusalOfSayings, xRl, xG1, xG2, kAll, rAll, nAll, List.map_nil, List.map_cons, List.sum_nil, List.sum_cons, Nat.reduceAdd, Nat.reduceSub, Nat.reduceMul, Nat.reduceLeDiff, Nat.reduceEqDiff, Nat.reduceLT, and_true, true_and, and_self, if_true, if_false, ne_eq, not_false_eq_true, not_true_eq_false, or_false, false_or, or_true, true_or, false_and, and_false, reduceIte, reduceCtorEq, xB, ite_not, xretf_zc, xretf_c, xcont_c, xbd, rr_none L I J hj z1, m3_0]
    · have e1 : fnC I 1 79 j = -1 := by rw [f79]; exact z2
      rw [fX9_noThrees]
      simp (disch := omega) only [eX9_noThrees, xRl, xG1, xG2, kAll, rAll, nAll, List.map_nil, List.map_cons, List.sum_nil, List.sum_cons, Nat.reduceAdd, Nat.reduceSub, Nat.reduceMul, Nat.reduceLeDiff, Nat.reduceEqDiff, Nat.reduceLT, and_true, true_and, and_self, if_true, if_false, ne_eq, not_false_eq_true, not_true_eq_false, or_false, false_or, or_true, true_or, false_and, and_false, reduceIte, reduceCtorEq, xB, ite_not, xretf_zc, xretf_c, xcont_c, xbd, nI_neg0, cl_nI, e1, m1_ge, m1_lt, p9_find]
  · by_cases h3 : m % 3 = 0
    · obtain ⟨q, rfl⟩ : ∃ q, m = 3 * q := ⟨m / 3, by omega⟩
      have heq : okS (fun i => I 80 (40 * j + i)) (3 * q) = okS (I (4 + 2 * j)) (3 * q) := okS_congr (fun i hi => ((h.1 j hj).2.2 i (by omega)).symm)
      have c1 := rS_ok L I J hj hm z1 h3
      by_cases hok : okS (I (4 + 2 * j)) (3 * q) = true
      · have c2 := n3_ok L I J hj hm z2
        rw [heq, if_pos hok] at c2
        rw [if_pos hok] at c1
        exact Or.inr ⟨q, hm, z1, z2, hok, c1, c2⟩
      · have c2 := n3_ok L (fnC I 3) J hj hm (by rw [f79]; exact z2)
        rw [f80, heq, if_neg hok] at c2
        rw [if_neg hok] at c1
        exact Or.inl ⟨3, by decide, c1, c2⟩
    · refine Or.inl ⟨5, by decide, ?_, ?_⟩
      · rw [fX8_refusalOfSayings]
        simp (disch := omega) only [eX8_refusalOfSayings, xRl, xG1, xG2, kAll, rAll, nAll, List.map_nil, List.map_cons, List.sum_nil, List.sum_cons, Nat.reduceAdd, Nat.reduceSub, Nat.reduceMul, Nat.reduceLeDiff, Nat.reduceEqDiff, Nat.reduceLT, and_true, true_and, and_self, if_true, if_false, ne_eq, not_false_eq_true, not_true_eq_false, or_false, false_or, or_true, true_or, false_and, and_false, reduceIte, reduceCtorEq, xB, ite_not, xretf_zc, xretf_c, xcont_c, xbd, rr_ok L I J hj hm z1, k1, k3, e, nI_neg0, cl_nI, z1, nI_z, pk_div, rem1, rem2, h3, nI_eq, p8_findingOf]
      · have e1 : fnC I 5 79 j = nI m := by rw [f79]; exact z2
        rw [fX9_noThrees]
        simp (disch := omega) only [eX9_noThrees, xRl, xG1, xG2, kAll, rAll, nAll, List.map_nil, List.map_cons, List.sum_nil, List.sum_cons, Nat.reduceAdd, Nat.reduceSub, Nat.reduceMul, Nat.reduceLeDiff, Nat.reduceEqDiff, Nat.reduceLT, and_true, true_and, and_self, if_true, if_false, ne_eq, not_false_eq_true, not_true_eq_false, or_false, false_or, or_true, true_or, false_and, and_false, reduceIte, reduceCtorEq, xB, ite_not, xretf_zc, xretf_c, xcont_c, xbd, nI_neg0, cl_nI, e1, nI_leI, nI_ltI, Nat.not_lt_zero, Nat.zero_le, nI_z, pk_div, rem1, rem2, h3, nI_eq, p9_find]
/-- an eye that says as the first q sayings say -/
def eyS (v : Nat → Nat) (q e : Nat) : Bool := decide (cnt (fun i => !decide (farN 0 (v (3 * i)) (v (3 * i + 1)) ≤ e ↔ v (3 * i + 2) = 1)) 0 q = 0)
theorem eyS_s (v : Nat → Nat) (q e : Nat) : eyS v (q + 1) e = (eyS v q e && decide (farN 0 (v (3 * q)) (v (3 * q + 1)) ≤ e ↔ v (3 * q + 2) = 1)) := by
  unfold eyS
  rw [cnt_snoc, Nat.zero_add]
  by_cases h : farN 0 (v (3 * q)) (v (3 * q + 1)) ≤ e ↔ v (3 * q + 2) = 1 <;> simp [h]
theorem msk_and {f g : Nat → Bool} {n : Nat} : msk f n &&& msk g n = msk (fun k => f k && g k) n := by
  apply Nat.eq_of_testBit_eq
  intro i
  rw [Nat.testBit_and, msk_bit, msk_bit, msk_bit]
  cases decide (i < n) <;> simp
theorem farN15 {s t : Nat} (hs : s < 216) (ht : t < 216) : farN 0 s t < 16 := by
  have a1 : dN (s / 36) (t / 36) < 6 := dN_lt (by omega) (by omega)
  have a2 : dN (s / 6 % 6) (t / 6 % 6) < 6 := dN_lt (by omega) (by omega)
  have a3 : dN (s % 6) (t % 6) < 6 := dN_lt (by omega) (by omega)
  unfold farN
  simp
  omega
theorem ey_t : ∀ f, f < 16 → ((65535 : Int32) <<< (nI f &&& 31)) &&& 65535 = nI (msk (fun e => decide (f ≤ e)) 16) := by decide +kernel
theorem ey_n : ∀ f, f < 16 → nI (msk (fun e => decide (f ≤ e)) 16) ^^^ (-1) = (-1) ^^^ nI (msk (fun e => decide (f ≤ e)) 16) := by decide +kernel
theorem nI_andn {f g : Nat → Bool} : nI (msk f 16) &&& (nI (msk g 16) ^^^ (-1)) = nI (msk (fun k => f k && !g k) 16) := by
  apply Int32.toBitVec_inj.mp
  show (BitVec.ofNat 32 (msk f 16)) &&& ((BitVec.ofNat 32 (msk g 16)) ^^^ (-1 : Int32).toBitVec) = BitVec.ofNat 32 (msk (fun k => f k && !g k) 16)
  rw [show (-1 : Int32).toBitVec = BitVec.allOnes 32 by decide]
  apply BitVec.eq_of_getLsbD_eq
  intro i hi
  simp only [BitVec.getLsbD_and, BitVec.getLsbD_xor, BitVec.getLsbD_allOnes, BitVec.getLsbD_ofNat, msk_bit, hi, decide_true, Bool.true_and]
  cases decide (i < 16) <;> cases f i <;> cases g i <;> rfl
theorem p8_alike {f : Nat} (hf : f < 16) (σ : xS) : FX8_eyesSayingAlike [.int (nI f)] σ = some (some (.int (nI (msk (fun e => decide (f ≤ e)) 16))), σ) := by
  rw [fX8_eyesSayingAlike]
  simp (disch := omega) only [eX8_eyesSayingAlike, xRl, xG1, xG2, kAll, rAll, nAll, List.map_nil, List.map_cons, List.sum_nil, List.sum_cons, Nat.reduceAdd, Nat.reduceSub, Nat.reduceMul, Nat.reduceLeDiff, Nat.reduceEqDiff, Nat.reduceLT, and_true, true_and, and_self, if_true, if_false, ne_eq, not_false_eq_true, not_true_eq_false, or_false, false_or, or_true, true_or, false_and, and_false, reduceIte, reduceCtorEq, xB, ite_not, xretf_zc, xretf_c, xcont_c, xbd, ey_t]
theorem msk_t : (65535 : Int32) = nI (msk (fun _ => true) 16) := by decide
theorem p8_eyesLeft {j q : Nat} (hj : j < 6) (hm : 3 * q ≤ 40) (hz : I (3 + 2 * j) 1 = nI (3 * q)) (v : Nat → Nat) (hv : ∀ i, i < 3 * q → I (4 + 2 * j) i = nI (v i) ∧ v i < (if i % 3 = 2 then 2 else 216)) : FX8_eyesLeftBy [.ref (3 + 2 * j)] (S0 L I J) = some (some (.int (nI (msk (eyS v q) 16))), S0 L I J) := by
  obtain ⟨k1, k2, k3, k4⟩ := kRow j hj
  have k5 := nRow L j hj
  have e' : ¬ 4 + 2 * j = 0 := by omega
  rw [fX8_eyesLeftBy]
  simp (disch := omega) only [eX8_eyesLeftBy, xRl, xG1, xG2, kAll, rAll, nAll, List.map_nil, List.map_cons, List.sum_nil, List.sum_cons, Nat.reduceAdd, Nat.reduceSub, Nat.reduceMul, Nat.reduceLeDiff, Nat.reduceEqDiff, Nat.reduceLT, and_true, true_and, and_self, if_true, if_false, ne_eq, not_false_eq_true, not_true_eq_false, or_false, false_or, or_true, true_or, false_and, and_false, reduceIte, reduceCtorEq, xB, ite_not, xretf_zc, xretf_c, xcont_c, xbd]
  have key : ∀ (d i : Nat), i + d = q → ∀ (w : Value), (w = .null ∨ ∃ z, w = .int z) → xretf (some .int) (xD tX8_eyesLeftBy (6, [.ref (3 + 2 * j), .int (nI (msk (eyS v i) 16)), .int (nI (3 * i)), w], [], 0, S0 L I J)) = some (some (.int (nI (msk (eyS v q) 16))), S0 L I J) := by
    intro d
    induction d with
    | zero =>
      intro i hi w hw
      have : i = q := by omega
      subst this
      rw [hX8_eyesLeftBy_6]
      simp (disch := omega) only [eX8_eyesLeftBy, xRl, xG1, xG2, kAll, rAll, nAll, List.map_nil, List.map_cons, List.sum_nil, List.sum_cons, Nat.reduceAdd, Nat.reduceSub, Nat.reduceMul, Nat.reduceLeDiff, Nat.reduceEqDiff, Nat.reduceLT, and_true, true_and, and_self, if_true, if_false, ne_eq, not_false_eq_true, not_true_eq_false, or_false, false_or, or_true, true_or, false_and, and_false, reduceIte, reduceCtorEq, xB, ite_not, xretf_zc, xretf_c, xcont_c, xbd, k1, hz, nI_add, nI_leI]
      rw [if_pos (by omega)]
    | succ d ih =>
      intro i hi w hw
      obtain ⟨a0, c0⟩ := hv (3 * i) (by omega)
      obtain ⟨a1, c1⟩ := hv (3 * i + 1) (by omega)
      obtain ⟨a2, c2⟩ := hv (3 * i + 2) (by omega)
      rw [if_neg (by omega)] at c0 c1
      rw [if_pos (by omega)] at c2
      have hf := farN15 c0 c1
      generalize hF : farN 0 (v (3 * i)) (v (3 * i + 1)) = F at hf
      have hfa := fun σ => p8_farApart c0 c1 σ
      rw [hF] at hfa
      have ih2 := ih (i + 1) (by omega) (.int (nI (msk (fun e => decide (F ≤ e)) 16))) (Or.inr ⟨_, rfl⟩)
      have hst : (v (3 * i + 2) = 1 ∧ msk (eyS v (i + 1)) 16 = msk (fun k => eyS v i k && decide (F ≤ k)) 16) ∨ (¬ v (3 * i + 2) = 1 ∧ msk (eyS v (i + 1)) 16 = msk (fun k => eyS v i k && !decide (F ≤ k)) 16) := by
        by_cases h1 : v (3 * i + 2) = 1
        · refine Or.inl ⟨h1, msk_congr (fun k _ => ?_)⟩
          rw [eyS_s, hF]
          simp [h1]
        · refine Or.inr ⟨h1, msk_congr (fun k _ => ?_)⟩
          rw [eyS_s, hF]
          by_cases h2 : F ≤ k <;> simp [h1, h2]
      rw [hX8_eyesLeftBy_6]
      rw [show 3 * (i + 1) = 3 * i + 3 by omega] at ih2
      rcases hst with ⟨h1, h2⟩ | ⟨h1, h2⟩
      · rw [h2, ← msk_and, ← nI_and] at ih2
        rcases hw with rfl | ⟨z, rfl⟩
        all_goals
          simp (disch := omega) only [eX8_eyesLeftBy, xRl, xG1, xG2, kAll, rAll, nAll, List.map_nil, List.map_cons, List.sum_nil, List.sum_cons, Nat.reduceAdd, Nat.reduceSub, Nat.reduceMul, Nat.reduceLeDiff, Nat.reduceEqDiff, Nat.reduceLT, and_true, true_and, and_self, if_true, if_false, ne_eq, not_false_eq_true, not_true_eq_false, or_false, false_or, or_true, true_or, false_and, and_false, reduceIte, reduceCtorEq, xB, ite_not, xretf_zc, xretf_c, xcont_c, xbd, k1, k2, k4, k5, e', hz, nI_add, nI_leI, nI_neg0, cl_nI, a0, a1, a2, hfa, p8_alike, nI_eq, h1]
          rw [if_neg (by omega)]
          exact ih2
      · rw [h2, ← nI_andn] at ih2
        rcases hw with rfl | ⟨z, rfl⟩
        all_goals
          simp (disch := omega) only [eX8_eyesLeftBy, xRl, xG1, xG2, kAll, rAll, nAll, List.map_nil, List.map_cons, List.sum_nil, List.sum_cons, Nat.reduceAdd, Nat.reduceSub, Nat.reduceMul, Nat.reduceLeDiff, Nat.reduceEqDiff, Nat.reduceLT, and_true, true_and, and_self, if_true, if_false, ne_eq, not_false_eq_true, not_true_eq_false, or_false, false_or, or_true, true_or, false_and, and_false, reduceIte, reduceCtorEq, xB, ite_not, xretf_zc, xretf_c, xcont_c, xbd, k1, k2, k4, k5, e', hz, nI_add, nI_leI, nI_neg0, cl_nI, a0, a1, a2, hfa, p8_alike, nI_eq, h1]
          rw [if_neg (by omega)]
          exact ih2
  have k0 := key q 0 (by omega) .null (Or.inl rfl)
  rw [msk_t]
  exact k0
theorem p9_eyesOf {j q : Nat} (hj : j < 6) (hm : 3 * q ≤ 40) (hz : I 79 j = nI (3 * q)) (v : Nat → Nat) (hv : ∀ i, i < 3 * q → I 80 (40 * j + i) = nI (v i) ∧ v i < (if i % 3 = 2 then 2 else 216)) : FX9_eyesOf [.ref 77, .int (nI j)] (S0 L I J) = some (some (.int (nI (msk (eyS v q) 16))), S0 L I J) := by
  rw [fX9_eyesOf]
  simp (disch := omega) only [eX9_eyesOf, xRl, xG1, xG2, kAll, rAll, nAll, List.map_nil, List.map_cons, List.sum_nil, List.sum_cons, Nat.reduceAdd, Nat.reduceSub, Nat.reduceMul, Nat.reduceLeDiff, Nat.reduceEqDiff, Nat.reduceLT, and_true, true_and, and_self, if_true, if_false, ne_eq, not_false_eq_true, not_true_eq_false, or_false, false_or, or_true, true_or, false_and, and_false, reduceIte, reduceCtorEq, xB, ite_not, xretf_zc, xretf_c, xcont_c, xbd]
  have key : ∀ (d e : Nat), e + d = 16 → ∀ (w w2 : Value), (w = .null ∨ ∃ z, w = .int z) → (w2 = .null ∨ ∃ z, w2 = .int z) → xretf (some .int) (xD tX9_eyesOf (4, [.ref 77, .int (nI j), .int (nI (msk (eyS v q) e)), .int (nI e), w, w2], [], 0, S0 L I J)) = some (some (.int (nI (msk (eyS v q) 16))), S0 L I J) := by
    intro d
    induction d with
    | zero =>
      intro e he w w2 hw hw2
      have : e = 16 := by omega
      subst this
      rw [hX9_eyesOf_4]
      simp (disch := omega) only [eX9_eyesOf, xRl, xG1, xG2, kAll, rAll, nAll, List.map_nil, List.map_cons, List.sum_nil, List.sum_cons, Nat.reduceAdd, Nat.reduceSub, Nat.reduceMul, Nat.reduceLeDiff, Nat.reduceEqDiff, Nat.reduceLT, and_true, true_and, and_self, if_true, if_false, ne_eq, not_false_eq_true, not_true_eq_false, or_false, false_or, or_true, true_or, false_and, and_false, reduceIte, reduceCtorEq, xB, ite_not, xretf_zc, xretf_c, xcont_c, xbd, nI_leI]
    | succ d ih =>
      intro e he w w2 hw hw2
      have hm2 := msk_lt (eyS v q) e
      have inner := xloop (t := tX9_eyesOf) (st := fun i (_ : Unit) => (19, [.ref 77, .int (nI j), .int (nI (msk (eyS v q) e)), .int (nI e), .int (if eyS v i e = true then nI 1 else nI 0), .int (nI (40 * j + 3 * i))], [], 0, S0 L I J)) (g := fun _ _ => ()) (N := q) (Inv := fun _ _ => True) (a0 := ()) trivial (by
        intro i u hi _
        refine ⟨?_, trivial⟩
        obtain ⟨a0, c0⟩ := hv (3 * i) (by omega)
        obtain ⟨a1, c1⟩ := hv (3 * i + 1) (by omega)
        obtain ⟨a2, c2⟩ := hv (3 * i + 2) (by omega)
        rw [if_neg (by omega)] at c0 c1
        rw [if_pos (by omega)] at c2
        rw [← Nat.add_assoc] at a1 a2
        have hf := farN15 c0 c1
        have hf9 := fun σ => p9_far 0 _ _ (by omega) c0 c1 σ
        show xD tX9_eyesOf (19, [_, _, _, _, .int (if eyS v i e = true then nI 1 else nI 0), .int (nI (40 * j + 3 * i))], _) = xD tX9_eyesOf (_, [_, _, _, _, .int (if eyS v (i + 1) e = true then nI 1 else nI 0), .int (nI (40 * j + 3 * (i + 1)))], _)
        rw [hX9_eyesOf_19, eyS_s, show 40 * j + 3 * (i + 1) = 40 * j + 3 * i + 3 by omega]
        have hlt : ¬ 40 * j + 3 * q ≤ 40 * j + 3 * i := by omega
        generalize hF : farN 0 (v (3 * i)) (v (3 * i + 1)) = F at hf hf9
        by_cases ho : eyS v i e = true
        · by_cases b1 : F ≤ e
          · have b1n : ¬ e < F := by omega
            by_cases b2 : v (3 * i + 2) = 1
            · simp (disch := omega) only [eX9_eyesOf, xRl, xG1, xG2, kAll, rAll, nAll, List.map_nil, List.map_cons, List.sum_nil, List.sum_cons, Nat.reduceAdd, Nat.reduceSub, Nat.reduceMul, Nat.reduceLeDiff, Nat.reduceEqDiff, Nat.reduceLT, and_true, true_and, and_self, if_true, if_false, ne_eq, not_false_eq_true, not_true_eq_false, or_false, false_or, or_true, true_or, false_and, and_false, reduceIte, reduceCtorEq, xB, ite_not, xretf_zc, xretf_c, xcont_c, xbd, hz, nI_leI, nI_ltI, nI_neg0, cl_nI, pk_mul, nI_add, a0, a1, a2, hf9, nI_eq, ho, b1, b1n, b2, hlt]
              simp
            · simp (disch := omega) only [eX9_eyesOf, xRl, xG1, xG2, kAll, rAll, nAll, List.map_nil, List.map_cons, List.sum_nil, List.sum_cons, Nat.reduceAdd, Nat.reduceSub, Nat.reduceMul, Nat.reduceLeDiff, Nat.reduceEqDiff, Nat.reduceLT, and_true, true_and, and_self, if_true, if_false, ne_eq, not_false_eq_true, not_true_eq_false, or_false, false_or, or_true, true_or, false_and, and_false, reduceIte, reduceCtorEq, xB, ite_not, xretf_zc, xretf_c, xcont_c, xbd, hz, nI_leI, nI_ltI, nI_neg0, cl_nI, pk_mul, nI_add, a0, a1, a2, hf9, nI_eq, ho, b1, b1n, b2, hlt]
              simp
          · have b1n : e < F := by omega
            by_cases b2 : v (3 * i + 2) = 1
            · simp (disch := omega) only [eX9_eyesOf, xRl, xG1, xG2, kAll, rAll, nAll, List.map_nil, List.map_cons, List.sum_nil, List.sum_cons, Nat.reduceAdd, Nat.reduceSub, Nat.reduceMul, Nat.reduceLeDiff, Nat.reduceEqDiff, Nat.reduceLT, and_true, true_and, and_self, if_true, if_false, ne_eq, not_false_eq_true, not_true_eq_false, or_false, false_or, or_true, true_or, false_and, and_false, reduceIte, reduceCtorEq, xB, ite_not, xretf_zc, xretf_c, xcont_c, xbd, hz, nI_leI, nI_ltI, nI_neg0, cl_nI, pk_mul, nI_add, a0, a1, a2, hf9, nI_eq, ho, b1, b1n, b2, hlt]
              simp
            · simp (disch := omega) only [eX9_eyesOf, xRl, xG1, xG2, kAll, rAll, nAll, List.map_nil, List.map_cons, List.sum_nil, List.sum_cons, Nat.reduceAdd, Nat.reduceSub, Nat.reduceMul, Nat.reduceLeDiff, Nat.reduceEqDiff, Nat.reduceLT, and_true, true_and, and_self, if_true, if_false, ne_eq, not_false_eq_true, not_true_eq_false, or_false, false_or, or_true, true_or, false_and, and_false, reduceIte, reduceCtorEq, xB, ite_not, xretf_zc, xretf_c, xcont_c, xbd, hz, nI_leI, nI_ltI, nI_neg0, cl_nI, pk_mul, nI_add, a0, a1, a2, hf9, nI_eq, ho, b1, b1n, b2, hlt]
              simp
        · simp (disch := omega) only [eX9_eyesOf, xRl, xG1, xG2, kAll, rAll, nAll, List.map_nil, List.map_cons, List.sum_nil, List.sum_cons, Nat.reduceAdd, Nat.reduceSub, Nat.reduceMul, Nat.reduceLeDiff, Nat.reduceEqDiff, Nat.reduceLT, and_true, true_and, and_self, if_true, if_false, ne_eq, not_false_eq_true, not_true_eq_false, or_false, false_or, or_true, true_or, false_and, and_false, reduceIte, reduceCtorEq, xB, ite_not, xretf_zc, xretf_c, xcont_c, xbd, hz, nI_leI, nI_neg0, cl_nI, pk_mul, nI_add, ho, hlt]
          simp) q (Nat.le_refl q)
      have in1 := inner.1
      rw [show 40 * j + 3 * 0 = 40 * j by omega, show (if eyS v 0 e = true then nI 1 else nI 0) = nI 1 from rfl] at in1
      have ih2 := ih (e + 1) (by omega) (.int (if eyS v q e = true then nI 1 else nI 0)) (.int (nI (40 * j + 3 * q))) (Or.inr ⟨_, rfl⟩) (Or.inr ⟨_, rfl⟩)
      rw [show msk (eyS v q) (e + 1) = msk (eyS v q) e + (if eyS v q e = true then 2 ^ e else 0) from rfl] at ih2
      rw [hX9_eyesOf_4]
      rcases hw with rfl | ⟨z, rfl⟩ <;> rcases hw2 with rfl | ⟨z', rfl⟩
      all_goals
        simp (disch := omega) only [eX9_eyesOf, xRl, xG1, xG2, kAll, rAll, nAll, List.map_nil, List.map_cons, List.sum_nil, List.sum_cons, Nat.reduceAdd, Nat.reduceSub, Nat.reduceMul, Nat.reduceLeDiff, Nat.reduceEqDiff, Nat.reduceLT, and_true, true_and, and_self, if_true, if_false, ne_eq, not_false_eq_true, not_true_eq_false, or_false, false_or, or_true, true_or, false_and, and_false, reduceIte, reduceCtorEq, xB, ite_not, xretf_zc, xretf_c, xcont_c, xbd, nI_leI, pk_mul]
        rw [if_neg (by omega), in1, hX9_eyesOf_19]
        by_cases ho : eyS v q e = true
        · simp only [ho, if_true] at ih2 ⊢
          simp (disch := omega) only [eX9_eyesOf, xRl, xG1, xG2, kAll, rAll, nAll, List.map_nil, List.map_cons, List.sum_nil, List.sum_cons, Nat.reduceAdd, Nat.reduceSub, Nat.reduceMul, Nat.reduceLeDiff, Nat.reduceEqDiff, Nat.reduceLT, and_true, true_and, and_self, if_true, if_false, ne_eq, not_false_eq_true, not_true_eq_false, or_false, false_or, or_true, true_or, false_and, and_false, reduceIte, reduceCtorEq, xB, ite_not, xretf_zc, xretf_c, xcont_c, xbd, hz, nI_leI, nI_neg0, cl_nI, pk_mul, nI_add, shl1]
          rw [if_pos (Nat.le_refl _), or_pow hm2]
          exact ih2
        · simp only [ho, if_false, Bool.false_eq_true, Nat.add_zero] at ih2 ⊢
          simp (disch := omega) only [eX9_eyesOf, xRl, xG1, xG2, kAll, rAll, nAll, List.map_nil, List.map_cons, List.sum_nil, List.sum_cons, Nat.reduceAdd, Nat.reduceSub, Nat.reduceMul, Nat.reduceLeDiff, Nat.reduceEqDiff, Nat.reduceLT, and_true, true_and, and_self, if_true, if_false, ne_eq, not_false_eq_true, not_true_eq_false, or_false, false_or, or_true, true_or, false_and, and_false, reduceIte, reduceCtorEq, xB, ite_not, xretf_zc, xretf_c, xcont_c, xbd, hz, nI_leI, nI_neg0, cl_nI, pk_mul, nI_add, shl1, or_0]
          rw [if_pos (Nat.le_refl _)]
          exact ih2
  exact key 16 0 (by omega) .null .null (Or.inl rfl) (Or.inl rfl)
theorem pr_eyes (h : Cp I J) (r : Int32) : Pair L FX8_eyes FX9_eyes [.int r] I J := by
  rcases sy_cases L I J h r with ⟨hr, c1⟩ | ⟨j, hj, rfl, ⟨f, hf, c1, c2⟩ | ⟨q, hm, z1, z2, hok, c1, c2⟩⟩
  · refine ⟨.int (-1), I, J, I, J, ?_, ?_, h⟩
    · rw [fX8_eyes]
      simp (disch := omega) only [eX8_eyes, xRl, xG1, xG2, kAll, rAll, nAll, List.map_nil, List.map_cons, List.sum_nil, List.sum_cons, Nat.reduceAdd, Nat.reduceSub, Nat.reduceMul, Nat.reduceLeDiff, Nat.reduceEqDiff, Nat.reduceLT, and_true, true_and, and_self, if_true, if_false, ne_eq, not_false_eq_true, not_true_eq_false, or_false, false_or, or_true, true_or, false_and, and_false, reduceIte, reduceCtorEq, xB, ite_not, xretf_zc, xretf_c, xcont_c, xbd, c1, m1_0]
    · rw [fX9_eyes]
      simp (disch := omega) only [eX9_eyes, xRl, xG1, xG2, kAll, rAll, nAll, List.map_nil, List.map_cons, List.sum_nil, List.sum_cons, Nat.reduceAdd, Nat.reduceSub, Nat.reduceMul, Nat.reduceLeDiff, Nat.reduceEqDiff, Nat.reduceLT, and_true, true_and, and_self, if_true, if_false, ne_eq, not_false_eq_true, not_true_eq_false, or_false, false_or, or_true, true_or, false_and, and_false, reduceIte, reduceCtorEq, xB, ite_not, xretf_zc, xretf_c, xcont_c, xbd, p9_isRow, hr]
  · refine ⟨.int (-3), fnC I f, J, fnM (fnC I f) f, J, ?_, ?_, Cp_find h hf⟩
    · rw [fX8_eyes]
      simp (disch := omega) only [eX8_eyes, xRl, xG1, xG2, kAll, rAll, nAll, List.map_nil, List.map_cons, List.sum_nil, List.sum_cons, Nat.reduceAdd, Nat.reduceSub, Nat.reduceMul, Nat.reduceLeDiff, Nat.reduceEqDiff, Nat.reduceLT, and_true, true_and, and_self, if_true, if_false, ne_eq, not_false_eq_true, not_true_eq_false, or_false, false_or, or_true, true_or, false_and, and_false, reduceIte, reduceCtorEq, xB, ite_not, xretf_zc, xretf_c, xcont_c, xbd, c1, m3_0]
    · rw [fX9_eyes]
      simp (disch := omega) only [eX9_eyes, xRl, xG1, xG2, kAll, rAll, nAll, List.map_nil, List.map_cons, List.sum_nil, List.sum_cons, Nat.reduceAdd, Nat.reduceSub, Nat.reduceMul, Nat.reduceLeDiff, Nat.reduceEqDiff, Nat.reduceLT, and_true, true_and, and_self, if_true, if_false, ne_eq, not_false_eq_true, not_true_eq_false, or_false, false_or, or_true, true_or, false_and, and_false, reduceIte, reduceCtorEq, xB, ite_not, xretf_zc, xretf_c, xcont_c, xbd, p9_isRow, z_le, lt_t, c2, m3_0]
  · obtain ⟨k1, k2, k3, k4⟩ := kRow j hj
    have e : ¬ 3 + 2 * j = 0 := by omega
    have hv := okS_t hok
    have d1 := p8_eyesLeft L I J hj hm z1 (fun i => tn (I (4 + 2 * j) i)) hv
    have d2 := p9_eyesOf L I J hj hm z2 (fun i => tn (I (4 + 2 * j) i)) (fun i hi => by rw [← (h.1 j hj).2.2 i (by omega)]; exact hv i hi)
    refine ⟨.int (nI (msk (eyS (fun i => tn (I (4 + 2 * j) i)) q) 16)), I, J, I, J, ?_, ?_, h⟩
    · rw [fX8_eyes]
      simp (disch := omega) only [eX8_eyes, xRl, xG1, xG2, kAll, rAll, nAll, List.map_nil, List.map_cons, List.sum_nil, List.sum_cons, Nat.reduceAdd, Nat.reduceSub, Nat.reduceMul, Nat.reduceLeDiff, Nat.reduceEqDiff, Nat.reduceLT, and_true, true_and, and_self, if_true, if_false, ne_eq, not_false_eq_true, not_true_eq_false, or_false, false_or, or_true, true_or, false_and, and_false, reduceIte, reduceCtorEq, xB, ite_not, xretf_zc, xretf_c, xcont_c, xbd, c1, k1, k3, e, nI_neg0, cl_nI, d1]
    · rw [fX9_eyes]
      simp (disch := omega) only [eX9_eyes, xRl, xG1, xG2, kAll, rAll, nAll, List.map_nil, List.map_cons, List.sum_nil, List.sum_cons, Nat.reduceAdd, Nat.reduceSub, Nat.reduceMul, Nat.reduceLeDiff, Nat.reduceEqDiff, Nat.reduceLT, and_true, true_and, and_self, if_true, if_false, ne_eq, not_false_eq_true, not_true_eq_false, or_false, false_or, or_true, true_or, false_and, and_false, reduceIte, reduceCtorEq, xB, ite_not, xretf_zc, xretf_c, xcont_c, xbd, p9_isRow, z_le, lt_t, c2, d2]
def bsN (gr : Nat → Nat) (sm0 : Nat) : Nat → Nat × Nat
  | 0 => (0, sm0)
  | i + 1 => if gr i < (bsN gr sm0 i).2 then (i, gr i) else bsN gr sm0 i
theorem bsN_eq {gr : Nat → Nat} {a b : Nat} (ha : gr 0 < a) (hb : gr 0 < b) : ∀ i, bsN gr a (i + 1) = bsN gr b (i + 1)
  | 0 => by
    show (if gr 0 < a then (0, gr 0) else (0, a)) = (if gr 0 < b then (0, gr 0) else (0, b))
    rw [if_pos ha, if_pos hb]
  | i + 1 => by
    show (if gr (i + 1) < (bsN gr a (i + 1)).2 then (i + 1, gr (i + 1)) else bsN gr a (i + 1)) = (if gr (i + 1) < (bsN gr b (i + 1)).2 then (i + 1, gr (i + 1)) else bsN gr b (i + 1))
    rw [bsN_eq ha hb i]
theorem bsN_lt {gr : Nat → Nat} {a : Nat} (hg : ∀ i, gr i < 100) (ha : a < 100) : ∀ i, (bsN gr a i).2 < 100 ∧ (bsN gr a i).1 ≤ i
  | 0 => ⟨ha, Nat.le_refl 0⟩
  | i + 1 => by
    have := bsN_lt hg ha i
    show (if gr i < (bsN gr a i).2 then (i, gr i) else bsN gr a i).2 < 100 ∧ (if gr i < (bsN gr a i).2 then (i, gr i) else bsN gr a i).1 ≤ i + 1
    split
    · exact ⟨hg i, by show i ≤ i + 1; omega⟩
    · exact ⟨this.1, by omega⟩
theorem cnt_msk (f : Nat → Bool) : cnt (fun k => (msk f 16).testBit k) 0 16 = cnt f 0 16 :=
  cnt_congr (fun i _ hi => by rw [msk_bit]; simp; omega)
theorem cnt_mono {f g : Nat → Bool} (h : ∀ k, f k = true → g k = true) : ∀ d a, cnt f a d ≤ cnt g a d
  | 0, a => Nat.le_refl _
  | d + 1, a => by
    have := cnt_mono h d (a + 1)
    unfold cnt
    by_cases hf : f a = true
    · rw [if_pos hf, if_pos (h a hf)]; omega
    · rw [if_neg hf]; split <;> omega
theorem shsh {f : Nat → Bool} {b : Nat} (hb : b < 16) : (nI (msk f 16) >>> (nI b &&& 31)) <<< (nI b &&& 31) = nI (msk (fun k => f k && decide (b ≤ k)) 16) := by
  have h1 := msk_lt f 16
  have h2 : msk f 16 / 2 ^ b * 2 ^ b ≤ msk f 16 := Nat.div_mul_le_self _ _
  rw [pk_shrN (by omega) _ b (sl31 b (by omega)), pk_shlN _ b (sl31 b (by omega)) (by omega)]
  congr 1
  apply Nat.eq_of_testBit_eq
  intro i
  rw [← Nat.shiftRight_eq_div_pow, ← Nat.shiftLeft_eq, Nat.testBit_shiftLeft, Nat.testBit_shiftRight, msk_bit, msk_bit]
  by_cases hi : b ≤ i
  · rw [show b + (i - b) = i by omega]
    simp [hi]
  · simp [hi]
theorem pr_show (h : Cp I J) (r : Int32) : Pair L FX8_show FX9_show [.int r] I J := by
  rcases sy_cases L I J h r with ⟨hr, c1⟩ | ⟨j, hj, rfl, ⟨f, hf, c1, c2⟩ | ⟨q, hm, z1, z2, hok, c1, c2⟩⟩
  · refine ⟨.int (-1), I, J, I, J, ?_, ?_, h⟩
    · rw [fX8_show]
      simp (disch := omega) only [eX8_show, xRl, xG1, xG2, kAll, rAll, nAll, List.map_nil, List.map_cons, List.sum_nil, List.sum_cons, Nat.reduceAdd, Nat.reduceSub, Nat.reduceMul, Nat.reduceLeDiff, Nat.reduceEqDiff, Nat.reduceLT, and_true, true_and, and_self, if_true, if_false, ne_eq, not_false_eq_true, not_true_eq_false, or_false, false_or, or_true, true_or, false_and, and_false, reduceIte, reduceCtorEq, xB, ite_not, xretf_zc, xretf_c, xcont_c, xbd, c1, m1_0]
    · rw [fX9_show]
      simp (disch := omega) only [eX9_show, xRl, xG1, xG2, kAll, rAll, nAll, List.map_nil, List.map_cons, List.sum_nil, List.sum_cons, Nat.reduceAdd, Nat.reduceSub, Nat.reduceMul, Nat.reduceLeDiff, Nat.reduceEqDiff, Nat.reduceLT, and_true, true_and, and_self, if_true, if_false, ne_eq, not_false_eq_true, not_true_eq_false, or_false, false_or, or_true, true_or, false_and, and_false, reduceIte, reduceCtorEq, xB, ite_not, xretf_zc, xretf_c, xcont_c, xbd, p9_isRow, hr]
  · refine ⟨.int (-3), fnC I f, J, fnM (fnC I f) f, J, ?_, ?_, Cp_find h hf⟩
    · rw [fX8_show]
      simp (disch := omega) only [eX8_show, xRl, xG1, xG2, kAll, rAll, nAll, List.map_nil, List.map_cons, List.sum_nil, List.sum_cons, Nat.reduceAdd, Nat.reduceSub, Nat.reduceMul, Nat.reduceLeDiff, Nat.reduceEqDiff, Nat.reduceLT, and_true, true_and, and_self, if_true, if_false, ne_eq, not_false_eq_true, not_true_eq_false, or_false, false_or, or_true, true_or, false_and, and_false, reduceIte, reduceCtorEq, xB, ite_not, xretf_zc, xretf_c, xcont_c, xbd, c1, m3_0]
    · rw [fX9_show]
      simp (disch := omega) only [eX9_show, xRl, xG1, xG2, kAll, rAll, nAll, List.map_nil, List.map_cons, List.sum_nil, List.sum_cons, Nat.reduceAdd, Nat.reduceSub, Nat.reduceMul, Nat.reduceLeDiff, Nat.reduceEqDiff, Nat.reduceLT, and_true, true_and, and_self, if_true, if_false, ne_eq, not_false_eq_true, not_true_eq_false, or_false, false_or, or_true, true_or, false_and, and_false, reduceIte, reduceCtorEq, xB, ite_not, xretf_zc, xretf_c, xcont_c, xbd, p9_isRow, z_le, lt_t, c2, m3_0]
  · obtain ⟨k1, k2, k3, k4⟩ := kRow j hj
    have e : ¬ 3 + 2 * j = 0 := by omega
    have hv := okS_t hok
    have d1 := p8_eyesLeft L I J hj hm z1 (fun i => tn (I (4 + 2 * j) i)) hv
    have d2 := p9_eyesOf L I J hj hm z2 (fun i => tn (I (4 + 2 * j) i)) (fun i hi => by rw [← (h.1 j hj).2.2 i (by omega)]; exact hv i hi)
    generalize eyS (fun i => tn (I (4 + 2 * j) i)) q = f at d1 d2
    have hml := msk_lt f 16
    have bc := fun (g : Nat → Bool) σ => p6_bitCount (msk g 16) (by have := msk_lt g 16; omega) σ
    have bm := fun (g : Nat → Bool) σ => p9_bits (msk g 16) (by have := msk_lt g 16; omega) σ
    simp only [cnt_msk] at bc bm
    have hmn := cnt_le f 16 0
    generalize hmany : cnt f 0 16 = many at hmn
    by_cases h2 : many < 2
    · refine ⟨.int (-9), I, J, I, J, ?_, ?_, h⟩
      · rw [fX8_show]
        simp (disch := omega) only [eX8_show, xRl, xG1, xG2, kAll, rAll, nAll, List.map_nil, List.map_cons, List.sum_nil, List.sum_cons, Nat.reduceAdd, Nat.reduceSub, Nat.reduceMul, Nat.reduceLeDiff, Nat.reduceEqDiff, Nat.reduceLT, and_true, true_and, and_self, if_true, if_false, ne_eq, not_false_eq_true, not_true_eq_false, or_false, false_or, or_true, true_or, false_and, and_false, reduceIte, reduceCtorEq, xB, ite_not, xretf_zc, xretf_c, xcont_c, xbd, c1, k1, k3, e, nI_neg0, cl_nI, d1, bc, hmany, nI_leI]
        rw [if_neg (by omega)]
      · rw [fX9_show]
        simp (disch := omega) only [eX9_show, xRl, xG1, xG2, kAll, rAll, nAll, List.map_nil, List.map_cons, List.sum_nil, List.sum_cons, Nat.reduceAdd, Nat.reduceSub, Nat.reduceMul, Nat.reduceLeDiff, Nat.reduceEqDiff, Nat.reduceLT, and_true, true_and, and_self, if_true, if_false, ne_eq, not_false_eq_true, not_true_eq_false, or_false, false_or, or_true, true_or, false_and, and_false, reduceIte, reduceCtorEq, xB, ite_not, xretf_zc, xretf_c, xcont_c, xbd, p9_isRow, z_le, lt_t, c2, d2, bm, hmany, nI_leI, Nat.zero_le]
        rw [if_neg (by omega)]
    · generalize hal : (fun i => cnt (fun k => f k && decide (i ≤ k)) 0 16) = al
      have hald : ∀ i, cnt (fun k => f k && decide (i ≤ k)) 0 16 = al i := fun i => by rw [← hal]
      have halm : ∀ i, al i ≤ many := fun i => by
        rw [← hald, ← hmany]
        exact cnt_mono (fun k hk => by rw [Bool.and_eq_true] at hk; exact hk.1) 16 0
      have hal0 : al 0 = many := by
        rw [← hald, ← hmany]
        exact cnt_congr (fun i _ _ => by simp)
      have hgr : ∀ i, max (al i) (many - al i) < 100 := fun i => by have := halm i; omega
      have hb1 := bsN_lt hgr (show many + 1 < 100 by omega)
      have hb2 := bsN_lt hgr (show 99 < 100 by omega)
      have hbe := bsN_eq (gr := fun i => max (al i) (many - al i)) (a := many + 1) (b := 99) (by show max (al 0) (many - al 0) < many + 1; rw [hal0]; omega) (by show max (al 0) (many - al 0) < 99; rw [hal0]; omega) 15
      refine ⟨.int (nI (bsN (fun i => max (al i) (many - al i)) (many + 1) 16).1), I, J, I, J, ?_, ?_, h⟩
      · rw [fX8_show]
        simp (disch := omega) only [eX8_show, xRl, xG1, xG2, kAll, rAll, nAll, List.map_nil, List.map_cons, List.sum_nil, List.sum_cons, Nat.reduceAdd, Nat.reduceSub, Nat.reduceMul, Nat.reduceLeDiff, Nat.reduceEqDiff, Nat.reduceLT, and_true, true_and, and_self, if_true, if_false, ne_eq, not_false_eq_true, not_true_eq_false, or_false, false_or, or_true, true_or, false_and, and_false, reduceIte, reduceCtorEq, xB, ite_not, xretf_zc, xretf_c, xcont_c, xbd, c1, k1, k3, e, nI_neg0, cl_nI, d1, bc, hmany, nI_leI, nI_add]
        rw [if_pos (by omega)]
        have key : ∀ (d i : Nat), i + d = 16 → ∀ (w w2 : Value), (w = .null ∨ ∃ z, w = .int z) → (w2 = .null ∨ ∃ z, w2 = .int z) → xretf (some .int) (xD tX8_show (49, [.ref 1, .int (nI j), .int (nI 0), .int (nI (msk f 16)), .int (nI many), .int (nI (bsN (fun i => max (al i) (many - al i)) (many + 1) i).1), .int (nI (bsN (fun i => max (al i) (many - al i)) (many + 1) i).2), .int (nI i), w, w2], [], 0, S0 L I J)) = some (some (.int (nI (bsN (fun i => max (al i) (many - al i)) (many + 1) 16).1)), S0 L I J) := by
          intro d
          induction d with
          | zero =>
            intro i hi w w2 hw hw2
            have : i = 16 := by omega
            subst this
            rw [hX8_show_49]
            simp (disch := omega) only [eX8_show, xRl, xG1, xG2, kAll, rAll, nAll, List.map_nil, List.map_cons, List.sum_nil, List.sum_cons, Nat.reduceAdd, Nat.reduceSub, Nat.reduceMul, Nat.reduceLeDiff, Nat.reduceEqDiff, Nat.reduceLT, and_true, true_and, and_self, if_true, if_false, ne_eq, not_false_eq_true, not_true_eq_false, or_false, false_or, or_true, true_or, false_and, and_false, reduceIte, reduceCtorEq, xB, ite_not, xretf_zc, xretf_c, xcont_c, xbd, nI_leI]
          | succ d ih =>
            intro i hi w w2 hw hw2
            have hla := halm i
            have hgi := hgr i
            have hbi := (hb1 i).1
            have e9 := ih (i + 1) (by omega) (.int (nI (al i))) (.int (nI (max (al i) (many - al i)))) (Or.inr ⟨_, rfl⟩) (Or.inr ⟨_, rfl⟩)
            rw [show bsN (fun i => max (al i) (many - al i)) (many + 1) (i + 1) = if max (al i) (many - al i) < (bsN (fun i => max (al i) (many - al i)) (many + 1) i).2 then (i, max (al i) (many - al i)) else bsN (fun i => max (al i) (many - al i)) (many + 1) i from rfl] at e9
            generalize bsN (fun i => max (al i) (many - al i)) (many + 1) i = pr at e9 hbi ⊢
            obtain ⟨nx, sm⟩ := pr
            simp only at e9 hbi ⊢
            have hmx : (if nI (al i) < nI many - nI (al i) then nI many - nI (al i) else nI (al i)) = nI (max (al i) (many - al i)) := by rw [pk_sub hla]; exact max_nI (by omega) (by omega)
            rw [hX8_show_49]
            rcases hw with rfl | ⟨z, rfl⟩ <;> rcases hw2 with rfl | ⟨z', rfl⟩
            all_goals
              simp (disch := omega) only [eX8_show, xRl, xG1, xG2, kAll, rAll, nAll, List.map_nil, List.map_cons, List.sum_nil, List.sum_cons, Nat.reduceAdd, Nat.reduceSub, Nat.reduceMul, Nat.reduceLeDiff, Nat.reduceEqDiff, Nat.reduceLT, and_true, true_and, and_self, if_true, if_false, ne_eq, not_false_eq_true, not_true_eq_false, or_false, false_or, or_true, true_or, false_and, and_false, reduceIte, reduceCtorEq, xB, ite_not, xretf_zc, xretf_c, xcont_c, xbd, nI_leI, p8_alike, nI_and, msk_and, bc, hald, hmx, nI_add]
              rw [if_neg (by omega)]
              by_cases hc : max (al i) (many - al i) < sm
              · rw [if_pos hc] at e9
                rw [if_neg (by omega)]
                exact e9
              · rw [if_neg hc] at e9
                rw [if_pos (by omega)]
                exact e9
        exact key 16 0 (by omega) .null .null (Or.inl rfl) (Or.inl rfl)
      · rw [hbe, fX9_show]
        simp (disch := omega) only [eX9_show, xRl, xG1, xG2, kAll, rAll, nAll, List.map_nil, List.map_cons, List.sum_nil, List.sum_cons, Nat.reduceAdd, Nat.reduceSub, Nat.reduceMul, Nat.reduceLeDiff, Nat.reduceEqDiff, Nat.reduceLT, and_true, true_and, and_self, if_true, if_false, ne_eq, not_false_eq_true, not_true_eq_false, or_false, false_or, or_true, true_or, false_and, and_false, reduceIte, reduceCtorEq, xB, ite_not, xretf_zc, xretf_c, xcont_c, xbd, p9_isRow, z_le, lt_t, c2, d2, bm, hmany, nI_leI, Nat.zero_le]
        rw [if_pos (by omega)]
        have key : ∀ (d i : Nat), i + d = 16 → ∀ (w w2 : Value), (w = .null ∨ ∃ z, w = .int z) → (w2 = .null ∨ ∃ z, w2 = .int z) → xretf (some .int) (xD tX9_show (48, [.ref 77, .int (nI j), .int (nI 0), .int (nI (msk f 16)), .int (nI (bsN (fun i => max (al i) (many - al i)) 99 i).1), .int (nI (bsN (fun i => max (al i) (many - al i)) 99 i).2), .int (nI i), w, w2], [], 0, S0 L I J)) = some (some (.int (nI (bsN (fun i => max (al i) (many - al i)) 99 16).1)), S0 L I J) := by
          intro d
          induction d with
          | zero =>
            intro i hi w w2 hw hw2
            have : i = 16 := by omega
            subst this
            rw [hX9_show_48]
            simp (disch := omega) only [eX9_show, xRl, xG1, xG2, kAll, rAll, nAll, List.map_nil, List.map_cons, List.sum_nil, List.sum_cons, Nat.reduceAdd, Nat.reduceSub, Nat.reduceMul, Nat.reduceLeDiff, Nat.reduceEqDiff, Nat.reduceLT, and_true, true_and, and_self, if_true, if_false, ne_eq, not_false_eq_true, not_true_eq_false, or_false, false_or, or_true, true_or, false_and, and_false, reduceIte, reduceCtorEq, xB, ite_not, xretf_zc, xretf_c, xcont_c, xbd, nI_leI]
          | succ d ih =>
            intro i hi w w2 hw hw2
            have hla := halm i
            have hgi := hgr i
            have hbi := (hb2 i).1
            have e9 := ih (i + 1) (by omega) (.int (nI (al i))) (.int (nI (max (al i) (many - al i)))) (Or.inr ⟨_, rfl⟩) (Or.inr ⟨_, rfl⟩)
            rw [show bsN (fun i => max (al i) (many - al i)) 99 (i + 1) = if max (al i) (many - al i) < (bsN (fun i => max (al i) (many - al i)) 99 i).2 then (i, max (al i) (many - al i)) else bsN (fun i => max (al i) (many - al i)) 99 i from rfl] at e9
            generalize bsN (fun i => max (al i) (many - al i)) 99 i = pr at e9 hbi ⊢
            obtain ⟨nx, sm⟩ := pr
            simp only at e9 hbi ⊢
            have hps : nI many - nI (al i) = nI (many - al i) := pk_sub hla
            rw [hX9_show_48]
            rcases hw with rfl | ⟨z, rfl⟩ <;> rcases hw2 with rfl | ⟨z', rfl⟩
            all_goals
              simp (disch := omega) only [eX9_show, xRl, xG1, xG2, kAll, rAll, nAll, List.map_nil, List.map_cons, List.sum_nil, List.sum_cons, Nat.reduceAdd, Nat.reduceSub, Nat.reduceMul, Nat.reduceLeDiff, Nat.reduceEqDiff, Nat.reduceLT, and_true, true_and, and_self, if_true, if_false, ne_eq, not_false_eq_true, not_true_eq_false, or_false, false_or, or_true, true_or, false_and, and_false, reduceIte, reduceCtorEq, xB, ite_not, xretf_zc, xretf_c, xcont_c, xbd, nI_leI, shsh, bm, hald, hmany, hps, p9_more, nI_add]
              rw [if_neg (by omega)]
              by_cases hc : max (al i) (many - al i) < sm
              · rw [if_pos hc] at e9
                have hc2 : ¬ sm ≤ max (al i) (many - al i) := by omega
                simp only [hc2, if_false]
                exact e9
              · rw [if_neg hc] at e9
                have hc2 : sm ≤ max (al i) (many - al i) := by omega
                simp only [hc2, if_true]
                exact e9
        exact key 16 0 (by omega) .null .null (Or.inl rfl) (Or.inl rfl)
end EY
