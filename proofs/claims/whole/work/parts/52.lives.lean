/-! rows of shades; lives -/
theorem cnt0 {f : Nat → Bool} : ∀ {d a : Nat}, cnt f a d = 0 ↔ ∀ i, a ≤ i → i < a + d → f i = false
  | 0, a => ⟨fun _ i h1 h2 => absurd h2 (by omega), fun _ => rfl⟩
  | d + 1, a => by
    have ih := cnt0 (f := f) (d := d) (a := a + 1)
    unfold cnt
    constructor
    · intro h i h1 h2
      by_cases hf : f a = true
      · rw [if_pos hf] at h; omega
      · by_cases hi : i = a
        · rw [hi]; simpa using hf
        · exact ih.mp (by rw [if_neg hf] at h; omega) i (by omega) (by omega)
    · intro h
      rw [h a (Nat.le_refl a) (by omega), ih.mpr (fun i h1 h2 => h i (by omega) (by omega))]
      rfl
/-- all of the first m within 0 .. b - 1 -/
def okR (f : Nat → Int32) (b m : Nat) : Bool := decide (cnt (fun i => !decide (nI 0 ≤ f i ∧ f i < nI b)) 0 m = 0)
theorem okR_t {f : Nat → Int32} {b m : Nat} (hb : b < 2 ^ 31) (h : okR f b m = true) : ∀ i, i < m → f i = nI (tn (f i)) ∧ tn (f i) < b := by
  intro i hi
  unfold okR at h
  have h2 := cnt0.mp (of_decide_eq_true h) i (by omega) (by omega)
  simp only [Bool.not_eq_false', decide_eq_true_eq] at h2
  obtain ⟨v, hv, e⟩ := (Am_iff hb).mp h2
  rw [e]
  unfold tn
  rw [cl_nI (by omega)]
  exact ⟨rfl, hv⟩
theorem okR_congr {f g : Nat → Int32} {b m : Nat} (h : ∀ i, i < m → f i = g i) : okR f b m = okR g b m := by
  unfold okR
  rw [cnt_congr (fun i _ hi => by rw [h i (by omega)])]
section LV
variable (L : Nat) (I : Nat → Nat → Int32) (J : Nat → Nat → Int64)
theorem p5_only {j m b : Nat} (hj : j < 6) (hm : m ≤ 40) (hz : I (3 + 2 * j) 1 = nI m) : FX5_holdsOnlyBelow [.ref (3 + 2 * j), .int (nI b)] (S0 L I J) = some (some (.int (if okR (I (4 + 2 * j)) b m = true then nI 1 else nI 0)), S0 L I J) := by
  rw [fX5_holdsOnlyBelow]
  obtain ⟨k1, k2, k3, k4⟩ := kRow j hj
  have k5 := nRow L j hj
  have e2 : ¬ 4 + 2 * j = 0 := by omega
  simp (disch := omega) only [eX5_holdsOnlyBelow, xRl, xG1, xG2, kAll, rAll, nAll, List.map_nil, List.map_cons, List.sum_nil, List.sum_cons, Nat.reduceAdd, Nat.reduceSub, Nat.reduceMul, Nat.reduceLeDiff, Nat.reduceEqDiff, Nat.reduceLT, and_true, true_and, and_self, if_true, if_false, ne_eq, not_false_eq_true, not_true_eq_false, or_false, false_or, or_true, true_or, false_and, and_false, reduceIte, reduceCtorEq, xB, ite_not, xretf_zc, xretf_c, xcont_c, xbd]
  have key : ∀ (d i : Nat), i + d = m → xretf (some .boolean) (xD tX5_holdsOnlyBelow (2, [.ref (3 + 2 * j), .int (nI b), .int (nI i)], [], 0, S0 L I J)) = some (some (.int (if decide (cnt (fun i => !decide (nI 0 ≤ I (4 + 2 * j) i ∧ I (4 + 2 * j) i < nI b)) i d = 0) = true then nI 1 else nI 0)), S0 L I J) := by
    intro d
    induction d with
    | zero =>
      intro i hi
      rw [hX5_holdsOnlyBelow_2]
      simp (disch := omega) only [eX5_holdsOnlyBelow, xRl, xG1, xG2, kAll, rAll, nAll, List.map_nil, List.map_cons, List.sum_nil, List.sum_cons, Nat.reduceAdd, Nat.reduceSub, Nat.reduceMul, Nat.reduceLeDiff, Nat.reduceEqDiff, Nat.reduceLT, and_true, true_and, and_self, if_true, if_false, ne_eq, not_false_eq_true, not_true_eq_false, or_false, false_or, or_true, true_or, false_and, and_false, reduceIte, reduceCtorEq, xB, ite_not, xretf_zc, xretf_c, xcont_c, xbd, k1, hz, nI_leI]
      rw [if_pos (by omega)]
      rfl
    | succ d ih =>
      intro i hi
      have e3 : cnt (fun i => !decide (nI 0 ≤ I (4 + 2 * j) i ∧ I (4 + 2 * j) i < nI b)) i (d + 1) = (if (!decide (nI 0 ≤ I (4 + 2 * j) i ∧ I (4 + 2 * j) i < nI b)) = true then 1 else 0) + cnt (fun i => !decide (nI 0 ≤ I (4 + 2 * j) i ∧ I (4 + 2 * j) i < nI b)) (i + 1) d := rfl
      rw [hX5_holdsOnlyBelow_2, e3]
      by_cases hv : nI 0 ≤ I (4 + 2 * j) i ∧ I (4 + 2 * j) i < nI b
      · simp (disch := omega) only [eX5_holdsOnlyBelow, xRl, xG1, xG2, kAll, rAll, nAll, List.map_nil, List.map_cons, List.sum_nil, List.sum_cons, Nat.reduceAdd, Nat.reduceSub, Nat.reduceMul, Nat.reduceLeDiff, Nat.reduceEqDiff, Nat.reduceLT, and_true, true_and, and_self, if_true, if_false, ne_eq, not_false_eq_true, not_true_eq_false, or_false, false_or, or_true, true_or, false_and, and_false, reduceIte, reduceCtorEq, xB, ite_not, xretf_zc, xretf_c, xcont_c, xbd, k1, k2, k4, k5, e2, hz, nI_leI, nI_neg0, cl_nI, p8_among, hv, nI_add]
        rw [if_neg (by omega), ih (i + 1) (by omega)]
        simp
      · simp (disch := omega) only [eX5_holdsOnlyBelow, xRl, xG1, xG2, kAll, rAll, nAll, List.map_nil, List.map_cons, List.sum_nil, List.sum_cons, Nat.reduceAdd, Nat.reduceSub, Nat.reduceMul, Nat.reduceLeDiff, Nat.reduceEqDiff, Nat.reduceLT, and_true, true_and, and_self, if_true, if_false, ne_eq, not_false_eq_true, not_true_eq_false, or_false, false_or, or_true, true_or, false_and, and_false, reduceIte, reduceCtorEq, xB, ite_not, xretf_zc, xretf_c, xcont_c, xbd, k1, k2, k4, k5, e2, hz, nI_leI, nI_neg0, cl_nI, p8_among, hv, nI_add]
        rw [if_neg (by omega)]
        simp
  exact key m 0 (by omega)
theorem p9_areShades {j m : Nat} (hj : j < 6) (hm : m ≤ 40) (hz : I 79 j = nI m) : FX9_areShades [.ref 77, .int (nI j)] (S0 L I J) = some (some (.int (if okR (fun i => I 80 (40 * j + i)) 216 m = true then nI 1 else nI 0)), S0 L I J) := by
  rw [fX9_areShades]
  simp (disch := omega) only [eX9_areShades, xRl, xG1, xG2, kAll, rAll, nAll, List.map_nil, List.map_cons, List.sum_nil, List.sum_cons, Nat.reduceAdd, Nat.reduceSub, Nat.reduceMul, Nat.reduceLeDiff, Nat.reduceEqDiff, Nat.reduceLT, and_true, true_and, and_self, if_true, if_false, ne_eq, not_false_eq_true, not_true_eq_false, or_false, false_or, or_true, true_or, false_and, and_false, reduceIte, reduceCtorEq, xB, ite_not, xretf_zc, xretf_c, xcont_c, xbd]
  have key := xloop (t := tX9_areShades) (st := fun i (_ : Unit) => (4, [.ref 77, .int (nI j), .int (if okR (fun i => I 80 (40 * j + i)) 216 i = true then nI 1 else nI 0), .int (nI i)], [], 0, S0 L I J)) (g := fun _ _ => ()) (N := m) (Inv := fun _ _ => True) (a0 := ()) trivial (by
    intro i u hi _
    refine ⟨?_, trivial⟩
    have e1 : okR (fun i => I 80 (40 * j + i)) 216 (i + 1) = (okR (fun i => I 80 (40 * j + i)) 216 i && decide (nI 0 ≤ I 80 (40 * j + i) ∧ I 80 (40 * j + i) < nI 216)) := by
      unfold okR
      rw [cnt_snoc, Nat.zero_add]
      by_cases hv : nI 0 ≤ I 80 (40 * j + i) ∧ I 80 (40 * j + i) < nI 216
      · simp [hv]
      · simp [hv]
    show xD tX9_areShades (4, [_, _, .int (if okR (fun i => I 80 (40 * j + i)) 216 i = true then nI 1 else nI 0), _], _) = xD tX9_areShades (_, [_, _, .int (if okR (fun i => I 80 (40 * j + i)) 216 (i + 1) = true then nI 1 else nI 0), _], _)
    rw [hX9_areShades_4, e1]
    by_cases ho : okR (fun i => I 80 (40 * j + i)) 216 i = true
    · by_cases hv : nI 0 ≤ I 80 (40 * j + i) ∧ I 80 (40 * j + i) < nI 216
      · simp (disch := omega) only [eX9_areShades, xRl, xG1, xG2, kAll, rAll, nAll, List.map_nil, List.map_cons, List.sum_nil, List.sum_cons, Nat.reduceAdd, Nat.reduceSub, Nat.reduceMul, Nat.reduceLeDiff, Nat.reduceEqDiff, Nat.reduceLT, and_true, true_and, and_self, if_true, if_false, ne_eq, not_false_eq_true, not_true_eq_false, or_false, false_or, or_true, true_or, false_and, and_false, reduceIte, reduceCtorEq, xB, ite_not, xretf_zc, xretf_c, xcont_c, xbd, hz, nI_leI, nI_neg0, cl_nI, pk_mul, nI_add, p9_isSh, hv, ho]
        rw [if_neg (by omega)]
        simp
      · simp (disch := omega) only [eX9_areShades, xRl, xG1, xG2, kAll, rAll, nAll, List.map_nil, List.map_cons, List.sum_nil, List.sum_cons, Nat.reduceAdd, Nat.reduceSub, Nat.reduceMul, Nat.reduceLeDiff, Nat.reduceEqDiff, Nat.reduceLT, and_true, true_and, and_self, if_true, if_false, ne_eq, not_false_eq_true, not_true_eq_false, or_false, false_or, or_true, true_or, false_and, and_false, reduceIte, reduceCtorEq, xB, ite_not, xretf_zc, xretf_c, xcont_c, xbd, hz, nI_leI, nI_neg0, cl_nI, pk_mul, nI_add, p9_isSh, hv, ho]
        rw [if_neg (by omega)]
        simp
    · simp (disch := omega) only [eX9_areShades, xRl, xG1, xG2, kAll, rAll, nAll, List.map_nil, List.map_cons, List.sum_nil, List.sum_cons, Nat.reduceAdd, Nat.reduceSub, Nat.reduceMul, Nat.reduceLeDiff, Nat.reduceEqDiff, Nat.reduceLT, and_true, true_and, and_self, if_true, if_false, ne_eq, not_false_eq_true, not_true_eq_false, or_false, false_or, or_true, true_or, false_and, and_false, reduceIte, reduceCtorEq, xB, ite_not, xretf_zc, xretf_c, xcont_c, xbd, hz, nI_leI, nI_neg0, cl_nI, pk_mul, nI_add, ho]
      rw [if_neg (by omega)]
      simp) m (Nat.le_refl m)
  rw [show xD tX9_areShades (4, [.ref 77, .int (nI j), .int (nI 1), .int (nI 0)], [], 0, S0 L I J) = _ from key.1, hX9_areShades_4]
  simp (disch := omega) only [eX9_areShades, xRl, xG1, xG2, kAll, rAll, nAll, List.map_nil, List.map_cons, List.sum_nil, List.sum_cons, Nat.reduceAdd, Nat.reduceSub, Nat.reduceMul, Nat.reduceLeDiff, Nat.reduceEqDiff, Nat.reduceLT, and_true, true_and, and_self, if_true, if_false, ne_eq, not_false_eq_true, not_true_eq_false, or_false, false_or, or_true, true_or, false_and, and_false, reduceIte, reduceCtorEq, xB, ite_not, xretf_zc, xretf_c, xcont_c, xbd, hz, nI_leI, nI_neg0, cl_nI]
  rw [if_pos (Nat.le_refl m)]
/-- what the refusals of a row of shades come to, on both sides -/
theorem sh_cases (h : Cp I J) (r : Int32) (lo hi : Nat) (hhi : hi ≤ 40) (hlo : lo ≤ hi) : (¬ (nI 0 ≤ r ∧ r < nI 6) ∧ FX8_refusalOfShades [.ref 1, .int r, .int (nI lo), .int (nI hi)] (S0 L I J) = some (some (.int (-1)), S0 L I J)) ∨ ∃ j, j < 6 ∧ r = nI j ∧ ((∃ f, f < 6 ∧ FX8_refusalOfShades [.ref 1, .int r, .int (nI lo), .int (nI hi)] (S0 L I J) = some (some (.int (-3)), S0 L (fnC I f) J) ∧ FX9_noShades [.ref 77, .int r, .int (nI lo), .int (nI hi)] (S0 L (fnC I f) J) = some (some (.int (-3)), S0 L (fnM (fnC I f) f) J) ∧ ((f = 1 ∧ I 79 j = -1) ∨ ∃ m, m ≤ 40 ∧ I 79 j = nI m ∧ ((f = 5 ∧ ¬ (lo ≤ m ∧ m ≤ hi)) ∨ (f = 3 ∧ lo ≤ m ∧ m ≤ hi ∧ okR (fun i => I 80 (40 * j + i)) 216 m = false)))) ∨ ∃ m, m ≤ 40 ∧ lo ≤ m ∧ m ≤ hi ∧ I (3 + 2 * j) 1 = nI m ∧ I 79 j = nI m ∧ okR (I (4 + 2 * j)) 216 m = true ∧ FX8_refusalOfShades [.ref 1, .int r, .int (nI lo), .int (nI hi)] (S0 L I J) = some (some (.int (nI 0)), S0 L I J) ∧ ∀ I2, I2 79 = I 79 → I2 80 = I 80 → FX9_noShades [.ref 77, .int r, .int (nI lo), .int (nI hi)] (S0 L I2 J) = some (some (.int (nI 0)), S0 L I2 J)) := by
  rcases row_cases h.1 r with hr | ⟨j, hj, rfl, z⟩
  · refine Or.inl ⟨hr, ?_⟩
    rw [fX8_refusalOfShades]
    simp (disch := omega) only [eX8_refusalOfShades, xRl, xG1, xG2, kAll, rAll, nAll, List.map_nil, List.map_cons, List.sum_nil, List.sum_cons, Nat.reduceAdd, Nat.reduceSub, Nat.reduceMul, Nat.reduceLeDiff, Nat.reduceEqDiff, Nat.reduceLT, and_true, true_and, and_self, if_true, if_false, ne_eq, not_false_eq_true, not_true_eq_false, or_false, false_or, or_true, true_or, false_and, and_false, reduceIte, reduceCtorEq, xB, ite_not, xretf_zc, xretf_c, xcont_c, xbd, rr_bad L I J hr, m1_0]
  refine Or.inr ⟨j, hj, rfl, ?_⟩
  obtain ⟨k1, k2, k3, k4⟩ := kRow j hj
  have e : ¬ 3 + 2 * j = 0 := by omega
  have f79 : ∀ f, fnC I f 79 = I 79 := fun f => by unfold fnC; rw [xup_ne _ _ _ (by decide), xup_ne _ _ _ (by decide)]
  have f80 : ∀ f, fnC I f 80 = I 80 := fun f => by unfold fnC; rw [xup_ne _ _ _ (by decide), xup_ne _ _ _ (by decide)]
  rcases z with ⟨z1, z2⟩ | ⟨m, hm, z1, z2⟩
  · refine Or.inl ⟨1, by decide, ?_, ?_, Or.inl ⟨rfl, z2⟩⟩
    · rw [fX8_refusalOfShades]
      simp (disch := omega) only [eX8_refusalOfShades, xRl, xG1, xG2, kAll, rAll, nAll, List.map_nil, List.map_cons, List.sum_nil, List.sum_cons, Nat.reduceAdd, Nat.reduceSub, Nat.reduceMul, Nat.reduceLeDiff, Nat.reduceEqDiff, Nat.reduceLT, and_true, true_and, and_self, if_true, if_false, ne_eq, not_false_eq_true, not_true_eq_false, or_false, false_or, or_true, true_or, false_and, and_false, reduceIte, reduceCtorEq, xB, ite_not, xretf_zc, xretf_c, xcont_c, xbd, rr_none L I J hj z1, m3_0]
    · have e1 : fnC I 1 79 j = -1 := by rw [f79]; exact z2
      rw [fX9_noShades]
      simp (disch := omega) only [eX9_noShades, xRl, xG1, xG2, kAll, rAll, nAll, List.map_nil, List.map_cons, List.sum_nil, List.sum_cons, Nat.reduceAdd, Nat.reduceSub, Nat.reduceMul, Nat.reduceLeDiff, Nat.reduceEqDiff, Nat.reduceLT, and_true, true_and, and_self, if_true, if_false, ne_eq, not_false_eq_true, not_true_eq_false, or_false, false_or, or_true, true_or, false_and, and_false, reduceIte, reduceCtorEq, xB, ite_not, xretf_zc, xretf_c, xcont_c, xbd, nI_neg0, cl_nI, e1, m1_ge, m1_lt, p9_find]
  · by_cases hsz : lo ≤ m ∧ m ≤ hi
    · have heq : okR (fun i => I 80 (40 * j + i)) 216 m = okR (I (4 + 2 * j)) 216 m := okR_congr (fun i hi => ((h.1 j hj).2.2 i (by omega)).symm)
      have hin : ∀ (x : xS), FX9_in [.long (nI m).toInt64, .long (nI lo).toInt64, .long (nI hi).toInt64] x = some (some (.int (nI 1)), x) := fun x => by
        rw [p9_inG]
        simp only [i64_le]
        rw [if_pos ⟨nI_le hsz.1 (by omega), nI_le hsz.2 (by omega)⟩]
      by_cases hok : okR (I (4 + 2 * j)) 216 m = true
      · refine Or.inr ⟨m, hm, hsz.1, hsz.2, z1, z2, hok, ?_, fun I2 q1 q2 => ?_⟩
        · rw [fX8_refusalOfShades]
          simp (disch := omega) only [eX8_refusalOfShades, xRl, xG1, xG2, kAll, rAll, nAll, List.map_nil, List.map_cons, List.sum_nil, List.sum_cons, Nat.reduceAdd, Nat.reduceSub, Nat.reduceMul, Nat.reduceLeDiff, Nat.reduceEqDiff, Nat.reduceLT, and_true, true_and, and_self, if_true, if_false, ne_eq, not_false_eq_true, not_true_eq_false, or_false, false_or, or_true, true_or, false_and, and_false, reduceIte, reduceCtorEq, xB, ite_not, xretf_zc, xretf_c, xcont_c, xbd, rr_ok L I J hj hm z1, k1, k3, e, nI_neg0, cl_nI, z1, nI_leI, nI_ltI, p5_only L I J hj hm z1, hok]
          first | (rw [if_neg (by omega), if_pos (by omega)]; done) | (rw [if_pos (by omega), if_pos (by omega)]; done) | (rw [if_neg (by omega), if_neg (by omega)]; done)
        · have e1 : I2 79 j = nI m := by rw [q1]; exact z2
          have e2 := p9_areShades L I2 J hj hm e1
          rw [q2, heq, if_pos hok] at e2
          rw [fX9_noShades]
          simp (disch := omega) only [eX9_noShades, xRl, xG1, xG2, kAll, rAll, nAll, List.map_nil, List.map_cons, List.sum_nil, List.sum_cons, Nat.reduceAdd, Nat.reduceSub, Nat.reduceMul, Nat.reduceLeDiff, Nat.reduceEqDiff, Nat.reduceLT, and_true, true_and, and_self, if_true, if_false, ne_eq, not_false_eq_true, not_true_eq_false, or_false, false_or, or_true, true_or, false_and, and_false, reduceIte, reduceCtorEq, xB, ite_not, xretf_zc, xretf_c, xcont_c, xbd, nI_neg0, cl_nI, e1, nI_leI, nI_ltI, Nat.not_lt_zero, Nat.zero_le, hin, e2]
      · refine Or.inl ⟨3, by decide, ?_, ?_, Or.inr ⟨m, hm, z2, Or.inr ⟨rfl, hsz.1, hsz.2, by rw [heq]; simpa using hok⟩⟩⟩
        · rw [fX8_refusalOfShades]
          simp (disch := omega) only [eX8_refusalOfShades, xRl, xG1, xG2, kAll, rAll, nAll, List.map_nil, List.map_cons, List.sum_nil, List.sum_cons, Nat.reduceAdd, Nat.reduceSub, Nat.reduceMul, Nat.reduceLeDiff, Nat.reduceEqDiff, Nat.reduceLT, and_true, true_and, and_self, if_true, if_false, ne_eq, not_false_eq_true, not_true_eq_false, or_false, false_or, or_true, true_or, false_and, and_false, reduceIte, reduceCtorEq, xB, ite_not, xretf_zc, xretf_c, xcont_c, xbd, rr_ok L I J hj hm z1, k1, k3, e, nI_neg0, cl_nI, z1, nI_leI, nI_ltI, p5_only L I J hj hm z1, hok, p8_findingOf]
          first | (rw [if_neg (by omega), if_pos (by omega)]; done) | (rw [if_pos (by omega), if_pos (by omega)]; done) | (rw [if_neg (by omega), if_neg (by omega)]; done)
        · have e1 : fnC I 3 79 j = nI m := by rw [f79]; exact z2
          have e2 := p9_areShades L (fnC I 3) J hj hm e1
          rw [f80, heq, if_neg hok] at e2
          rw [fX9_noShades]
          simp (disch := omega) only [eX9_noShades, xRl, xG1, xG2, kAll, rAll, nAll, List.map_nil, List.map_cons, List.sum_nil, List.sum_cons, Nat.reduceAdd, Nat.reduceSub, Nat.reduceMul, Nat.reduceLeDiff, Nat.reduceEqDiff, Nat.reduceLT, and_true, true_and, and_self, if_true, if_false, ne_eq, not_false_eq_true, not_true_eq_false, or_false, false_or, or_true, true_or, false_and, and_false, reduceIte, reduceCtorEq, xB, ite_not, xretf_zc, xretf_c, xcont_c, xbd, nI_neg0, cl_nI, e1, nI_leI, nI_ltI, Nat.not_lt_zero, Nat.zero_le, hin, e2, p9_find]
    · refine Or.inl ⟨5, by decide, ?_, ?_, Or.inr ⟨m, hm, z2, Or.inl ⟨rfl, hsz⟩⟩⟩
      · rw [fX8_refusalOfShades]
        simp (disch := omega) only [eX8_refusalOfShades, xRl, xG1, xG2, kAll, rAll, nAll, List.map_nil, List.map_cons, List.sum_nil, List.sum_cons, Nat.reduceAdd, Nat.reduceSub, Nat.reduceMul, Nat.reduceLeDiff, Nat.reduceEqDiff, Nat.reduceLT, and_true, true_and, and_self, if_true, if_false, ne_eq, not_false_eq_true, not_true_eq_false, or_false, false_or, or_true, true_or, false_and, and_false, reduceIte, reduceCtorEq, xB, ite_not, xretf_zc, xretf_c, xcont_c, xbd, rr_ok L I J hj hm z1, k1, k3, e, nI_neg0, cl_nI, z1, nI_leI, nI_ltI, p8_findingOf]
        by_cases hl : m < lo
        · first | (rw [if_pos hl]; done) | (rw [if_neg (by omega)]; done)
        · have hh : hi < m := by omega
          first | (rw [if_neg hl, if_neg (by omega)]; done) | (rw [if_pos (by omega), if_neg (by omega)]; done) | (rw [if_neg hl, if_pos (by omega)]; done)
      · have e1 : fnC I 5 79 j = nI m := by rw [f79]; exact z2
        have hin : ∀ (x : xS), FX9_in [.long (nI m).toInt64, .long (nI lo).toInt64, .long (nI hi).toInt64] x = some (some (.int (nI 0)), x) := fun x => by
          rw [p9_inG]
          simp only [i64_le]
          rw [if_neg (fun q => hsz ⟨(nI_leI (by omega) (by omega)).mp q.1, (nI_leI (by omega) (by omega)).mp q.2⟩)]
        rw [fX9_noShades]
        simp (disch := omega) only [eX9_noShades, xRl, xG1, xG2, kAll, rAll, nAll, List.map_nil, List.map_cons, List.sum_nil, List.sum_cons, Nat.reduceAdd, Nat.reduceSub, Nat.reduceMul, Nat.reduceLeDiff, Nat.reduceEqDiff, Nat.reduceLT, and_true, true_and, and_self, if_true, if_false, ne_eq, not_false_eq_true, not_true_eq_false, or_false, false_or, or_true, true_or, false_and, and_false, reduceIte, reduceCtorEq, xB, ite_not, xretf_zc, xretf_c, xcont_c, xbd, nI_neg0, cl_nI, e1, nI_leI, nI_ltI, Nat.not_lt_zero, Nat.zero_le, hin, p9_find]
def livN (ow kd du : Nat → Nat) (p k : Nat) : Nat := if ow k = p then (if kd k = 5 then 0 else du k) else 0
theorem pr_lives (h : Cp I J) (p r : Int32) : Pair L FX8_lives FX9_lives [.int p, .int r] I J := by
  by_cases hp : nI 0 ≤ p ∧ p < nI 4
  · rcases sh_cases L I J h r 0 40 (by omega) (by omega) with ⟨hr, c1⟩ | ⟨j, hj, rfl, ⟨f, hf, c1, c2, c3⟩ | ⟨m, hm, -, -, z1, z2, hok, c1, c2⟩⟩
    · refine ⟨.int (-1), I, J, I, J, ?_, ?_, h⟩
      · rw [fX8_lives]
        simp (disch := omega) only [eX8_lives, xRl, xG1, xG2, kAll, rAll, nAll, List.map_nil, List.map_cons, List.sum_nil, List.sum_cons, Nat.reduceAdd, Nat.reduceSub, Nat.reduceMul, Nat.reduceLeDiff, Nat.reduceEqDiff, Nat.reduceLT, and_true, true_and, and_self, if_true, if_false, ne_eq, not_false_eq_true, not_true_eq_false, or_false, false_or, or_true, true_or, false_and, and_false, reduceIte, reduceCtorEq, xB, ite_not, xretf_zc, xretf_c, xcont_c, xbd, p8_among, hp, c1, m1_0]
      · rw [fX9_lives]
        simp (disch := omega) only [eX9_lives, xRl, xG1, xG2, kAll, rAll, nAll, List.map_nil, List.map_cons, List.sum_nil, List.sum_cons, Nat.reduceAdd, Nat.reduceSub, Nat.reduceMul, Nat.reduceLeDiff, Nat.reduceEqDiff, Nat.reduceLT, and_true, true_and, and_self, if_true, if_false, ne_eq, not_false_eq_true, not_true_eq_false, or_false, false_or, or_true, true_or, false_and, and_false, reduceIte, reduceCtorEq, xB, ite_not, xretf_zc, xretf_c, xcont_c, xbd, p9_isPe, p9_isRow, hp, hr]
    · refine ⟨.int (-3), fnC I f, J, fnM (fnC I f) f, J, ?_, ?_, Cp_find h hf⟩
      · rw [fX8_lives]
        simp (disch := omega) only [eX8_lives, xRl, xG1, xG2, kAll, rAll, nAll, List.map_nil, List.map_cons, List.sum_nil, List.sum_cons, Nat.reduceAdd, Nat.reduceSub, Nat.reduceMul, Nat.reduceLeDiff, Nat.reduceEqDiff, Nat.reduceLT, and_true, true_and, and_self, if_true, if_false, ne_eq, not_false_eq_true, not_true_eq_false, or_false, false_or, or_true, true_or, false_and, and_false, reduceIte, reduceCtorEq, xB, ite_not, xretf_zc, xretf_c, xcont_c, xbd, p8_among, hp, c1, m3_0]
      · have f79 : fnC I f 79 = I 79 := by unfold fnC; rw [xup_ne _ _ _ (by decide), xup_ne _ _ _ (by decide)]
        have f80 : fnC I f 80 = I 80 := by unfold fnC; rw [xup_ne _ _ _ (by decide), xup_ne _ _ _ (by decide)]
        rw [fX9_lives]
        rcases c3 with ⟨rfl, c3⟩ | ⟨m, hm, z2, ⟨rfl, c3⟩ | ⟨rfl, -, -, c3⟩⟩
        · have e1 : fnC I 1 79 j = -1 := by rw [f79]; exact c3
          simp (disch := omega) only [eX9_lives, xRl, xG1, xG2, kAll, rAll, nAll, List.map_nil, List.map_cons, List.sum_nil, List.sum_cons, Nat.reduceAdd, Nat.reduceSub, Nat.reduceMul, Nat.reduceLeDiff, Nat.reduceEqDiff, Nat.reduceLT, and_true, true_and, and_self, if_true, if_false, ne_eq, not_false_eq_true, not_true_eq_false, or_false, false_or, or_true, true_or, false_and, and_false, reduceIte, reduceCtorEq, xB, ite_not, xretf_zc, xretf_c, xcont_c, xbd, p9_isPe, p9_isRow, hp, z_le, lt_t, nI_neg0, cl_nI, e1, m1_ge, m1_lt, p9_find]
        · omega
        · have e1 : fnC I 3 79 j = nI m := by rw [f79]; exact z2
          have e2 := p9_areShades L (fnC I 3) J hj hm e1
          rw [f80, if_neg (by rw [c3]; decide)] at e2
          simp (disch := omega) only [eX9_lives, xRl, xG1, xG2, kAll, rAll, nAll, List.map_nil, List.map_cons, List.sum_nil, List.sum_cons, Nat.reduceAdd, Nat.reduceSub, Nat.reduceMul, Nat.reduceLeDiff, Nat.reduceEqDiff, Nat.reduceLT, and_true, true_and, and_self, if_true, if_false, ne_eq, not_false_eq_true, not_true_eq_false, or_false, false_or, or_true, true_or, false_and, and_false, reduceIte, reduceCtorEq, xB, ite_not, xretf_zc, xretf_c, xcont_c, xbd, p9_isPe, p9_isRow, hp, z_le, lt_t, nI_neg0, cl_nI, e1, nI_leI, nI_ltI, Nat.not_lt_zero, Nat.zero_le, e2, p9_find]
    · obtain ⟨a, ha, rfl⟩ := (Am_iff (by omega)).mp hp
      obtain ⟨n, d, yr, hR⟩ := h.2.2.2.2.2.2.1
      obtain ⟨hM, hC, hE⟩ := RC_M hR
      have hn := hM.1
      have hy0 := h.2.2.2.2.2.1
      have hv := okR_t (by decide) hok
      obtain ⟨k1, k2, k3, k4⟩ := kRow j hj
      have k5 := nRow L j hj
      have e : ¬ 3 + 2 * j = 0 := by omega
      have e' : ¬ 4 + 2 * j = 0 := by omega
      generalize hg : (fun s => fstv (rcC I yr 0 s) (livN (fun k => cv I k 3) (fun k => cv I k 0) (fun k => cv I k 4) a) 0 0 n) = g
      have hgC : ∀ s, fstv (rcC I yr 0 s) (fun k => if cv I k 3 = a then (if cv I k 0 = 5 then nI 0 else nI (cv I k 4)) else nI 0) (nI 0) 0 n = nI (g s) := fun s => by
        rw [← hg, ← fstv_nI]
        exact fstv_congr (fun k _ _ => ⟨rfl, by unfold livN; repeat' split
                                                all_goals rfl⟩)
      refine ⟨.int (nI (sumN (fun i => 3 * g (tn (I (4 + 2 * j) i))) m)), I, J, I, J, ?_, ?_, h⟩
      · rw [fX8_lives]
        simp (disch := omega) only [eX8_lives, xRl, xG1, xG2, kAll, rAll, nAll, List.map_nil, List.map_cons, List.sum_nil, List.sum_cons, Nat.reduceAdd, Nat.reduceSub, Nat.reduceMul, Nat.reduceLeDiff, Nat.reduceEqDiff, Nat.reduceLT, and_true, true_and, and_self, if_true, if_false, ne_eq, not_false_eq_true, not_true_eq_false, or_false, false_or, or_true, true_or, false_and, and_false, reduceIte, reduceCtorEq, xB, ite_not, xretf_zc, xretf_c, xcont_c, xbd, p8_among, hp, c1]
        have key := xloop (t := tX8_lives) (st := fun i (_ : Unit) => (31, [.ref 1, .int (nI a), .int (nI j), .int (nI 0), .int (nI (sumN (fun i => 3 * g (tn (I (4 + 2 * j) i))) i)), .int (nI i)], [], 0, S0 L I J)) (g := fun _ _ => ()) (N := m) (Inv := fun _ _ => True) (a0 := ()) trivial (by
          intro i u hi _
          refine ⟨?_, trivial⟩
          obtain ⟨v1, v2⟩ := hv i hi
          have e1 := p4_owedTo L I J n yr a (tn (I (4 + 2 * j) i)) hC ha v2
          rw [hgC, ← v1] at e1
          show xD tX8_lives (31, _) = _
          rw [hX8_lives_31]
          simp (disch := omega) only [eX8_lives, xRl, xG1, xG2, kAll, rAll, nAll, List.map_nil, List.map_cons, List.sum_nil, List.sum_cons, Nat.reduceAdd, Nat.reduceSub, Nat.reduceMul, Nat.reduceLeDiff, Nat.reduceEqDiff, Nat.reduceLT, and_true, true_and, and_self, if_true, if_false, ne_eq, not_false_eq_true, not_true_eq_false, or_false, false_or, or_true, true_or, false_and, and_false, reduceIte, reduceCtorEq, xB, ite_not, xretf_zc, xretf_c, xcont_c, xbd, z1, nI_leI, nI_neg0, cl_nI, k1, k2, k3, k4, k5, e, e', e1, pk_mul, nI_add]
          rw [if_neg (by omega)]
          rfl) m (Nat.le_refl m)
        rw [show xD tX8_lives (31, [.ref 1, .int (nI a), .int (nI j), .int (nI 0), .int (nI 0), .int (nI 0)], [], 0, S0 L I J) = _ from key.1, hX8_lives_31]
        simp (disch := omega) only [eX8_lives, xRl, xG1, xG2, kAll, rAll, nAll, List.map_nil, List.map_cons, List.sum_nil, List.sum_cons, Nat.reduceAdd, Nat.reduceSub, Nat.reduceMul, Nat.reduceLeDiff, Nat.reduceEqDiff, Nat.reduceLT, and_true, true_and, and_self, if_true, if_false, ne_eq, not_false_eq_true, not_true_eq_false, or_false, false_or, or_true, true_or, false_and, and_false, reduceIte, reduceCtorEq, xB, ite_not, xretf_zc, xretf_c, xcont_c, xbd, z1, nI_leI, nI_neg0, cl_nI, k1, k3, e]
        rw [if_pos (Nat.le_refl m)]
      · have heq : okR (fun i => I 80 (40 * j + i)) 216 m = okR (I (4 + 2 * j)) 216 m := okR_congr (fun i hi => ((h.1 j hj).2.2 i (by omega)).symm)
        have e2 := p9_areShades L I J hj hm z2
        rw [heq, if_pos hok] at e2
        rw [fX9_lives]
        simp (disch := omega) only [eX9_lives, xRl, xG1, xG2, kAll, rAll, nAll, List.map_nil, List.map_cons, List.sum_nil, List.sum_cons, Nat.reduceAdd, Nat.reduceSub, Nat.reduceMul, Nat.reduceLeDiff, Nat.reduceEqDiff, Nat.reduceLT, and_true, true_and, and_self, if_true, if_false, ne_eq, not_false_eq_true, not_true_eq_false, or_false, false_or, or_true, true_or, false_and, and_false, reduceIte, reduceCtorEq, xB, ite_not, xretf_zc, xretf_c, xcont_c, xbd, p9_isPe, p9_isRow, hp, z_le, lt_t, nI_neg0, cl_nI, z2, nI_leI, nI_ltI, Nat.not_lt_zero, Nat.zero_le, e2]
        have key : ∀ (d i : Nat), i + d = m → ∀ (w w2 : Value), (w = .null ∨ ∃ z, w = .int z) → (w2 = .null ∨ ∃ z, w2 = .int z) → xretf (some .int) (xD tX9_lives (50, [.ref 77, .int (nI a), .int (nI j), .int (nI (sumN (fun i => 3 * g (tn (I (4 + 2 * j) i))) i)), .int (nI i), w, w2], [], 0, S0 L I J)) = some (some (.int (nI (sumN (fun i => 3 * g (tn (I (4 + 2 * j) i))) m))), S0 L I J) := by
          intro d
          induction d with
          | zero =>
            intro i hi w w2 _ _
            have : i = m := by omega
            subst this
            rw [hX9_lives_50]
            simp (disch := omega) only [eX9_lives, xRl, xG1, xG2, kAll, rAll, nAll, List.map_nil, List.map_cons, List.sum_nil, List.sum_cons, Nat.reduceAdd, Nat.reduceSub, Nat.reduceMul, Nat.reduceLeDiff, Nat.reduceEqDiff, Nat.reduceLT, and_true, true_and, and_self, if_true, if_false, ne_eq, not_false_eq_true, not_true_eq_false, or_false, false_or, or_true, true_or, false_and, and_false, reduceIte, reduceCtorEq, xB, ite_not, xretf_zc, xretf_c, xcont_c, xbd, nI_neg0, cl_nI, z2, nI_leI]
            rw [if_pos (Nat.le_refl _)]
          | succ d ih =>
            intro i hi w w2 hw hw2
            obtain ⟨v1, v2⟩ := hv i (by omega)
            have e5 : I 80 (40 * j + i) = nI (tn (I (4 + 2 * j) i)) := by rw [← (h.1 j hj).2.2 _ (by omega)]; exact v1
            generalize hs : tn (I (4 + 2 * j) i) = s at e5 v2
            have e3 := p9_ownerOf L I J n 0 s hM hy0 (by omega) v2
            rw [own_eq I hR] at e3
            obtain ⟨o, ho⟩ : ∃ o : Nat, (a = 0 ∧ o = 1) ∨ (¬ a = 0 ∧ o = 0) := by
              by_cases ha0 : a = 0
              · exact ⟨1, Or.inl ⟨ha0, rfl⟩⟩
              · exact ⟨0, Or.inr ⟨ha0, rfl⟩⟩
            have e4 := p9_dueFor L I J n o s hM hy0 (by omega) v2
            rw [owe_eq I hR, owe_nI, fstv_nI] at e4
            have h9 := ih (i + 1) (by omega) (.int (nI s)) (.int (nI o)) (Or.inr ⟨_, rfl⟩) (Or.inr ⟨_, rfl⟩)
            rw [show sumN (fun i => 3 * g (tn (I (4 + 2 * j) i))) (i + 1) = sumN (fun i => 3 * g (tn (I (4 + 2 * j) i))) i + 3 * g (tn (I (4 + 2 * j) i)) from rfl, hs] at h9
            have hfin : (fstv (rcC I yr 0 s) (fun k => nI (cv I k 3)) (-9) 0 n = nI a ∧ fstv (rcC I yr 0 s) (oweN (fun k => cv I k 3) (fun k => cv I k 0) (fun k => cv I k 4) o) 0 0 n = g s) ∨ (¬ fstv (rcC I yr 0 s) (fun k => nI (cv I k 3)) (-9) 0 n = nI a ∧ g s = 0) := by
              rcases fstv_cases (rcC I yr 0 s) n 0 with ⟨-, q2⟩ | ⟨k, -, q3, -, -, q2⟩
              · refine Or.inr ⟨by rw [q2]; exact fun q => nI_n9 (by omega) q.symm, by rw [← hg]; exact q2 _ _⟩
              · have hkk : k < n := by omega
                have ho := (hC.2.2.2.2 k hkk).2.2.2.1.2
                by_cases hka : cv I k 3 = a
                · refine Or.inl ⟨by rw [q2]; rw [hka], ?_⟩
                  rw [← hg]
                  show _ = fstv _ _ _ _ _
                  rw [q2, q2]
                  show (if cv I k 3 = o then 0 else if cv I k 0 = 5 then 0 else cv I k 4) = (if cv I k 3 = a then (if cv I k 0 = 5 then 0 else cv I k 4) else 0)
                  rw [if_pos hka, if_neg (by omega)]
                · refine Or.inr ⟨by rw [q2]; exact fun q => hka ((nI_eq (by omega) (by omega)).mp q), ?_⟩
                  rw [← hg]
                  show fstv _ _ _ _ _ = _
                  rw [q2]
                  show (if cv I k 3 = a then (if cv I k 0 = 5 then 0 else cv I k 4) else 0) = 0
                  rw [if_neg hka]
            rw [hX9_lives_50]
            rcases hw with rfl | ⟨z, rfl⟩ <;> rcases hw2 with rfl | ⟨z', rfl⟩ <;> rcases hfin with ⟨q1, q2⟩ | ⟨q1, q2⟩ <;> rcases ho with ⟨ha0, rfl⟩ | ⟨ha0, rfl⟩
            all_goals
              try rw [ha0] at q1
              simp (disch := omega) only [eX9_lives, xRl, xG1, xG2, kAll, rAll, nAll, List.map_nil, List.map_cons, List.sum_nil, List.sum_cons, Nat.reduceAdd, Nat.reduceSub, Nat.reduceMul, Nat.reduceLeDiff, Nat.reduceEqDiff, Nat.reduceLT, and_true, true_and, and_self, if_true, if_false, ne_eq, not_false_eq_true, not_true_eq_false, or_false, false_or, or_true, true_or, false_and, and_false, reduceIte, reduceCtorEq, xB, ite_not, xretf_zc, xretf_c, xcont_c, xbd, nI_neg0, cl_nI, z2, nI_leI, pk_mul, nI_add, e5, nI_eq, ha0, e3, q1, e4, q2]
              rw [if_neg (by omega)]
              try simp only [q2, ha0, Nat.mul_zero, Nat.add_zero, Nat.reduceMul] at h9
              exact h9
        exact key m 0 (by omega) .null .null (Or.inl rfl) (Or.inl rfl)
  · refine ⟨.int (-1), I, J, I, J, ?_, ?_, h⟩
    · rw [fX8_lives]
      simp (disch := omega) only [eX8_lives, xRl, xG1, xG2, kAll, rAll, nAll, List.map_nil, List.map_cons, List.sum_nil, List.sum_cons, Nat.reduceAdd, Nat.reduceSub, Nat.reduceMul, Nat.reduceLeDiff, Nat.reduceEqDiff, Nat.reduceLT, and_true, true_and, and_self, if_true, if_false, ne_eq, not_false_eq_true, not_true_eq_false, or_false, false_or, or_true, true_or, false_and, and_false, reduceIte, reduceCtorEq, xB, ite_not, xretf_zc, xretf_c, xcont_c, xbd, p8_among, hp]
    · rw [fX9_lives]
      simp (disch := omega) only [eX9_lives, xRl, xG1, xG2, kAll, rAll, nAll, List.map_nil, List.map_cons, List.sum_nil, List.sum_cons, Nat.reduceAdd, Nat.reduceSub, Nat.reduceMul, Nat.reduceLeDiff, Nat.reduceEqDiff, Nat.reduceLT, and_true, true_and, and_self, if_true, if_false, ne_eq, not_false_eq_true, not_true_eq_false, or_false, false_or, or_true, true_or, false_and, and_false, reduceIte, reduceCtorEq, xB, ite_not, xretf_zc, xretf_c, xcont_c, xbd, p9_isPe, hp]
end LV
