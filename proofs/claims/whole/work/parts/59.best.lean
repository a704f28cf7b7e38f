/-! best -/
def plN (v : Nat → Nat) (m rg s : Nat) : Nat := msk (fun i => rchN 0 rg s (v i)) m
theorem plN_lt (v : Nat → Nat) {m : Nat} (rg s : Nat) (hm : m ≤ 6) : plN v m rg s < 64 := by
  have h := msk_lt (fun i => rchN 0 rg s (v i)) m
  have h2 : 2 ^ m ≤ 2 ^ 6 := Nat.pow_le_pow_right (by omega) hm
  unfold plN
  omega
def bpN (gr : Nat → Nat) : Nat → Int32 × Int32
  | 0 => (nI 0, -1)
  | i + 1 => if (bpN gr i).2 < nI (gr i) then (nI i, nI (gr i)) else bpN gr i
section BS
variable (L : Nat) (I : Nat → Nat → Int32) (J : Nat → Nat → Int64)
theorem p0_placesReached {j m rg s : Nat} (hj : j < 6) (hm : m ≤ 6) (hz : I (3 + 2 * j) 1 = nI m) (v : Nat → Nat) (hv : ∀ i, i < m → I (4 + 2 * j) i = nI (v i) ∧ v i < 216) (hr : rg < 10) (hs : s < 216) : FX0_placesReached [.ref (3 + 2 * j), .int (nI s), .int (nI rg)] (S0 L I J) = some (some (.int (nI (plN v m rg s))), S0 L I J) := by
  obtain ⟨k1, k2, k3, k4⟩ := kRow j hj
  have k5 := nRow L j hj
  have e' : ¬ 4 + 2 * j = 0 := by omega
  rw [fX0_placesReached]
  simp (disch := omega) only [eX0_placesReached, xRl, xG1, xG2, kAll, rAll, nAll, List.map_nil, List.map_cons, List.sum_nil, List.sum_cons, Nat.reduceAdd, Nat.reduceSub, Nat.reduceMul, Nat.reduceLeDiff, Nat.reduceEqDiff, Nat.reduceLT, and_true, true_and, and_self, if_true, if_false, ne_eq, not_false_eq_true, not_true_eq_false, or_false, false_or, or_true, true_or, false_and, and_false, reduceIte, reduceCtorEq, xB, ite_not, xretf_zc, xretf_c, xcont_c, xbd]
  have key := xloop (t := tX0_placesReached) (st := fun i (_ : Unit) => (5, [.ref (3 + 2 * j), .int (nI s), .int (nI rg), .int (nI (plN v i rg s)), .int (nI i)], [], 0, S0 L I J)) (g := fun _ _ => ()) (N := m) (Inv := fun _ _ => True) (a0 := ()) trivial (by
    intro i u hi _
    refine ⟨?_, trivial⟩
    obtain ⟨a0, c0⟩ := hv i hi
    have hm2 := msk_lt (fun i => rchN 0 rg s (v i)) i
    show xD tX0_placesReached (5, _) = xD tX0_placesReached (_, [_, _, _, .int (nI (msk (fun i => rchN 0 rg s (v i)) i + (if rchN 0 rg s (v i) = true then 2 ^ i else 0))), _], _)
    rw [hX0_placesReached_5]
    simp (disch := omega) only [eX0_placesReached, xRl, xG1, xG2, kAll, rAll, nAll, List.map_nil, List.map_cons, List.sum_nil, List.sum_cons, Nat.reduceAdd, Nat.reduceSub, Nat.reduceMul, Nat.reduceLeDiff, Nat.reduceEqDiff, Nat.reduceLT, and_true, true_and, and_self, if_true, if_false, ne_eq, not_false_eq_true, not_true_eq_false, or_false, false_or, or_true, true_or, false_and, and_false, reduceIte, reduceCtorEq, xB, ite_not, xretf_zc, xretf_c, xcont_c, xbd, k1, k2, k4, k5, e', hz, nI_leI, nI_neg0, cl_nI, a0, p1_reaches, shl1, nI_add]
    rw [if_neg (by omega)]
    by_cases hf : rchN 0 rg s (v i) = true
    · simp only [hf, if_true]
      rw [← or_pow hm2]
      rfl
    · simp only [hf, if_false, Bool.false_eq_true]
      rfl) m (Nat.le_refl m)
  rw [show xD tX0_placesReached (5, [.ref (3 + 2 * j), .int (nI s), .int (nI rg), .int (nI 0), .int (nI 0)], [], 0, S0 L I J) = _ from key.1, hX0_placesReached_5]
  simp (disch := omega) only [eX0_placesReached, xRl, xG1, xG2, kAll, rAll, nAll, List.map_nil, List.map_cons, List.sum_nil, List.sum_cons, Nat.reduceAdd, Nat.reduceSub, Nat.reduceMul, Nat.reduceLeDiff, Nat.reduceEqDiff, Nat.reduceLT, and_true, true_and, and_self, if_true, if_false, ne_eq, not_false_eq_true, not_true_eq_false, or_false, false_or, or_true, true_or, false_and, and_false, reduceIte, reduceCtorEq, xB, ite_not, xretf_zc, xretf_c, xcont_c, xbd, k1, hz, nI_leI]
  rw [if_pos (Nat.le_refl m)]
theorem p9_placesFrom {j m rg s : Nat} (hj : j < 6) (hm : m ≤ 6) (hz : I 79 j = nI m) (v : Nat → Nat) (hv : ∀ i, i < m → I 80 (40 * j + i) = nI (v i) ∧ v i < 216) (hr : rg < 10) (hs : s < 216) : FX9_placesFrom [.ref 77, .int (nI j), .int (nI rg), .int (nI s)] (S0 L I J) = some (some (.int (nI (plN v m rg s))), S0 L I J) := by
  rw [fX9_placesFrom]
  simp (disch := omega) only [eX9_placesFrom, xRl, xG1, xG2, kAll, rAll, nAll, List.map_nil, List.map_cons, List.sum_nil, List.sum_cons, Nat.reduceAdd, Nat.reduceSub, Nat.reduceMul, Nat.reduceLeDiff, Nat.reduceEqDiff, Nat.reduceLT, and_true, true_and, and_self, if_true, if_false, ne_eq, not_false_eq_true, not_true_eq_false, or_false, false_or, or_true, true_or, false_and, and_false, reduceIte, reduceCtorEq, xB, ite_not, xretf_zc, xretf_c, xcont_c, xbd]
  have key := xloop (t := tX9_placesFrom) (st := fun i (_ : Unit) => (6, [.ref 77, .int (nI j), .int (nI rg), .int (nI s), .int (nI (plN v i rg s)), .int (nI i)], [], 0, S0 L I J)) (g := fun _ _ => ()) (N := m) (Inv := fun _ _ => True) (a0 := ()) trivial (by
    intro i u hi _
    refine ⟨?_, trivial⟩
    obtain ⟨a0, c0⟩ := hv i hi
    have hm2 := msk_lt (fun i => rchN 0 rg s (v i)) i
    show xD tX9_placesFrom (6, _) = xD tX9_placesFrom (_, [_, _, _, _, .int (nI (msk (fun i => rchN 0 rg s (v i)) i + (if rchN 0 rg s (v i) = true then 2 ^ i else 0))), _], _)
    rw [hX9_placesFrom_6]
    simp (disch := omega) only [eX9_placesFrom, xRl, xG1, xG2, kAll, rAll, nAll, List.map_nil, List.map_cons, List.sum_nil, List.sum_cons, Nat.reduceAdd, Nat.reduceSub, Nat.reduceMul, Nat.reduceLeDiff, Nat.reduceEqDiff, Nat.reduceLT, and_true, true_and, and_self, if_true, if_false, ne_eq, not_false_eq_true, not_true_eq_false, or_false, false_or, or_true, true_or, false_and, and_false, reduceIte, reduceCtorEq, xB, ite_not, xretf_zc, xretf_c, xcont_c, xbd, hz, nI_leI, nI_neg0, cl_nI, pk_mul, a0, p9_reachesOf, shl1, nI_add]
    rw [if_neg (by omega)]
    by_cases hf : rchN 0 rg s (v i) = true
    · simp only [hf, if_true]
      rw [← or_pow hm2]
      rfl
    · simp only [hf, if_false, Bool.false_eq_true, or_0]
      rfl) m (Nat.le_refl m)
  rw [show xD tX9_placesFrom (6, [.ref 77, .int (nI j), .int (nI rg), .int (nI s), .int (nI 0), .int (nI 0)], [], 0, S0 L I J) = _ from key.1, hX9_placesFrom_6]
  simp (disch := omega) only [eX9_placesFrom, xRl, xG1, xG2, kAll, rAll, nAll, List.map_nil, List.map_cons, List.sum_nil, List.sum_cons, Nat.reduceAdd, Nat.reduceSub, Nat.reduceMul, Nat.reduceLeDiff, Nat.reduceEqDiff, Nat.reduceLT, and_true, true_and, and_self, if_true, if_false, ne_eq, not_false_eq_true, not_true_eq_false, or_false, false_or, or_true, true_or, false_and, and_false, reduceIte, reduceCtorEq, xB, ite_not, xretf_zc, xretf_c, xcont_c, xbd, hz, nI_leI, nI_neg0, cl_nI]
  rw [if_pos (Nat.le_refl m)]
theorem pr_best (h : Cp I J) (r x : Int32) : Pair L FX8_best FX9_best [.int r, .int x] I J := by
  by_cases hx : nI 0 ≤ x ∧ x < nI 10
  · rcases sh_cases L I J h r 0 6 (by omega) (by omega) with ⟨hr, c1⟩ | ⟨j, hj, rfl, ⟨f, hf, c1, c2, -⟩ | ⟨m, hm, -, hm6, z1, z2, hok, c1, c2⟩⟩
    · refine ⟨.int (-1), I, J, I, J, ?_, ?_, h⟩
      · rw [fX8_best]
        simp (disch := omega) only [eX8_best, xRl, xG1, xG2, kAll, rAll, nAll, List.map_nil, List.map_cons, List.sum_nil, List.sum_cons, Nat.reduceAdd, Nat.reduceSub, Nat.reduceMul, Nat.reduceLeDiff, Nat.reduceEqDiff, Nat.reduceLT, and_true, true_and, and_self, if_true, if_false, ne_eq, not_false_eq_true, not_true_eq_false, or_false, false_or, or_true, true_or, false_and, and_false, reduceIte, reduceCtorEq, xB, ite_not, xretf_zc, xretf_c, xcont_c, xbd, p8_among, hx, c1, m1_0]
      · rw [fX9_best]
        simp (disch := omega) only [eX9_best, xRl, xG1, xG2, kAll, rAll, nAll, List.map_nil, List.map_cons, List.sum_nil, List.sum_cons, Nat.reduceAdd, Nat.reduceSub, Nat.reduceMul, Nat.reduceLeDiff, Nat.reduceEqDiff, Nat.reduceLT, and_true, true_and, and_self, if_true, if_false, ne_eq, not_false_eq_true, not_true_eq_false, or_false, false_or, or_true, true_or, false_and, and_false, reduceIte, reduceCtorEq, xB, ite_not, xretf_zc, xretf_c, xcont_c, xbd, p9_isRow, hr]
    · refine ⟨.int (-3), fnC I f, J, fnM (fnC I f) f, J, ?_, ?_, Cp_find h hf⟩
      · rw [fX8_best]
        simp (disch := omega) only [eX8_best, xRl, xG1, xG2, kAll, rAll, nAll, List.map_nil, List.map_cons, List.sum_nil, List.sum_cons, Nat.reduceAdd, Nat.reduceSub, Nat.reduceMul, Nat.reduceLeDiff, Nat.reduceEqDiff, Nat.reduceLT, and_true, true_and, and_self, if_true, if_false, ne_eq, not_false_eq_true, not_true_eq_false, or_false, false_or, or_true, true_or, false_and, and_false, reduceIte, reduceCtorEq, xB, ite_not, xretf_zc, xretf_c, xcont_c, xbd, p8_among, hx, c1, m3_0]
      · rw [fX9_best]
        simp (disch := omega) only [eX9_best, xRl, xG1, xG2, kAll, rAll, nAll, List.map_nil, List.map_cons, List.sum_nil, List.sum_cons, Nat.reduceAdd, Nat.reduceSub, Nat.reduceMul, Nat.reduceLeDiff, Nat.reduceEqDiff, Nat.reduceLT, and_true, true_and, and_self, if_true, if_false, ne_eq, not_false_eq_true, not_true_eq_false, or_false, false_or, or_true, true_or, false_and, and_false, reduceIte, reduceCtorEq, xB, ite_not, xretf_zc, xretf_c, xcont_c, xbd, p9_isRow, z_le, lt_t, p9_inL, hx, c2, m3_0]
    · obtain ⟨rg, hrg, rfl⟩ := (Am_iff (by decide)).mp hx
      have hv := okR_t (by decide) hok
      obtain ⟨k1, k2, k3, k4⟩ := kRow j hj
      have e : ¬ 3 + 2 * j = 0 := by omega
      generalize hgr : (fun s => cnt (fun k => (plN (fun i => tn (I (4 + 2 * j) i)) m rg s).testBit k) 0 16) = gr
      have hgd : ∀ s, cnt (fun k => (plN (fun i => tn (I (4 + 2 * j) i)) m rg s).testBit k) 0 16 = gr s := fun s => by rw [← hgr]
      have hpl := fun s => plN_lt (fun i => tn (I (4 + 2 * j) i)) rg s hm6
      generalize hb : bpN gr 216 = b
      have hI1 : ∀ t : Int32, Cp (xup (xup I 1 10 t) 77 5 t) J := fun t => Cp_told h t
      refine ⟨.int b.1, xup I 1 10 b.2, J, xup (xup I 1 10 b.2) 77 5 b.2, J, ?_, ?_, hI1 _⟩
      · rw [fX8_best]
        simp (disch := omega) only [eX8_best, xRl, xG1, xG2, kAll, rAll, nAll, List.map_nil, List.map_cons, List.sum_nil, List.sum_cons, Nat.reduceAdd, Nat.reduceSub, Nat.reduceMul, Nat.reduceLeDiff, Nat.reduceEqDiff, Nat.reduceLT, and_true, true_and, and_self, if_true, if_false, ne_eq, not_false_eq_true, not_true_eq_false, or_false, false_or, or_true, true_or, false_and, and_false, reduceIte, reduceCtorEq, xB, ite_not, xretf_zc, xretf_c, xcont_c, xbd, p8_among, hx, c1]
        have key : ∀ (d i : Nat), i + d = 216 → ∀ (w : Value), okV w → xretf (some .int) (xD tX8_best (35, [.ref 1, .int (nI j), .int (nI rg), .int (nI 0), .int (bpN gr i).1, .int (bpN gr i).2, .int (nI i), w], [], 0, S0 L I J)) = some (some (.int b.1), S0 L (xup I 1 10 b.2) J) := by
          intro d
          induction d with
          | zero =>
            intro i hi w hw
            have : i = 216 := by omega
            subst this
            rw [hX8_best_35, hb]
            simp (disch := omega) only [eX8_best, xRl, xG1, xG2, kAll, rAll, nAll, List.map_nil, List.map_cons, List.sum_nil, List.sum_cons, Nat.reduceAdd, Nat.reduceSub, Nat.reduceMul, Nat.reduceLeDiff, Nat.reduceEqDiff, Nat.reduceLT, and_true, true_and, and_self, if_true, if_false, ne_eq, not_false_eq_true, not_true_eq_false, or_false, false_or, or_true, true_or, false_and, and_false, reduceIte, reduceCtorEq, xB, ite_not, xretf_zc, xretf_c, xcont_c, xbd, nI_leI]
          | succ d ih =>
            intro i hi w hw
            have pl := p0_placesReached L I J hj hm6 z1 (fun i => tn (I (4 + 2 * j) i)) hv hrg (show i < 216 by omega)
            have bc := fun σ => p6_bitCount (plN (fun i => tn (I (4 + 2 * j) i)) m rg i) (by have := hpl i; omega) σ
            rw [hgd] at bc
            have e9 := ih (i + 1) (by omega) (.int (nI (gr i))) (Or.inr ⟨_, rfl⟩)
            rw [show bpN gr (i + 1) = if (bpN gr i).2 < nI (gr i) then (nI i, nI (gr i)) else bpN gr i from rfl] at e9
            generalize bpN gr i = pr at e9 ⊢
            obtain ⟨nx, sm⟩ := pr
            simp only at e9 ⊢
            rw [hX8_best_35]
            rcases hw with rfl | ⟨z, rfl⟩
            all_goals
              simp (disch := omega) only [eX8_best, xRl, xG1, xG2, kAll, rAll, nAll, List.map_nil, List.map_cons, List.sum_nil, List.sum_cons, Nat.reduceAdd, Nat.reduceSub, Nat.reduceMul, Nat.reduceLeDiff, Nat.reduceEqDiff, Nat.reduceLT, and_true, true_and, and_self, if_true, if_false, ne_eq, not_false_eq_true, not_true_eq_false, or_false, false_or, or_true, true_or, false_and, and_false, reduceIte, reduceCtorEq, xB, ite_not, xretf_zc, xretf_c, xcont_c, xbd, nI_leI, nI_neg0, cl_nI, k1, k3, e, pl, bc, nI_add]
              rw [if_neg (by omega)]
              by_cases hc : sm < nI (gr i)
              · rw [if_pos hc] at e9
                first | rw [if_neg (Int32.not_le.mpr hc)] | rw [if_pos hc]
                exact e9
              · rw [if_neg hc] at e9
                first | rw [if_pos (Int32.not_lt.mp hc)] | rw [if_neg hc]
                exact e9
        exact key 216 0 (by omega) .null (Or.inl rfl)
      · have c3 := c2 (xup I 1 10 b.2) (xup_ne _ _ _ (by decide)) (xup_ne _ _ _ (by decide))
        rw [fX9_best]
        simp (disch := omega) only [eX9_best, xRl, xG1, xG2, kAll, rAll, nAll, List.map_nil, List.map_cons, List.sum_nil, List.sum_cons, Nat.reduceAdd, Nat.reduceSub, Nat.reduceMul, Nat.reduceLeDiff, Nat.reduceEqDiff, Nat.reduceLT, and_true, true_and, and_self, if_true, if_false, ne_eq, not_false_eq_true, not_true_eq_false, or_false, false_or, or_true, true_or, false_and, and_false, reduceIte, reduceCtorEq, xB, ite_not, xretf_zc, xretf_c, xcont_c, xbd, p9_isRow, z_le, lt_t, p9_inL, hx, c3]
        generalize hI2 : xup I 1 10 b.2 = I2
        have q79 : I2 79 = I 79 := by rw [← hI2]; exact xup_ne _ _ _ (by decide)
        have q80 : I2 80 = I 80 := by rw [← hI2]; exact xup_ne _ _ _ (by decide)
        have key : ∀ (d i : Nat), i + d = 216 → ∀ (w : Value), okV w → xretf (some .int) (xD tX9_best (47, [.ref 77, .int (nI j), .int (nI rg), .int (nI 0), .int (bpN gr i).1, .int (nI i), w], [], 0, S0 L (xup I2 77 5 (bpN gr i).2) J)) = some (some (.int b.1), S0 L (xup I2 77 5 b.2) J) := by
          intro d
          induction d with
          | zero =>
            intro i hi w hw
            have : i = 216 := by omega
            subst this
            rw [hX9_best_47, hb]
            simp (disch := omega) only [eX9_best, xRl, xG1, xG2, kAll, rAll, nAll, List.map_nil, List.map_cons, List.sum_nil, List.sum_cons, Nat.reduceAdd, Nat.reduceSub, Nat.reduceMul, Nat.reduceLeDiff, Nat.reduceEqDiff, Nat.reduceLT, and_true, true_and, and_self, if_true, if_false, ne_eq, not_false_eq_true, not_true_eq_false, or_false, false_or, or_true, true_or, false_and, and_false, reduceIte, reduceCtorEq, xB, ite_not, xretf_zc, xretf_c, xcont_c, xbd, nI_leI]
          | succ d ih =>
            intro i hi w hw
            have t79 : ∀ t : Int32, xup I2 77 5 t 79 j = nI m := fun t => by rw [xup_ne _ _ _ (by decide), q79]; exact z2
            have t80 : ∀ t : Int32, xup I2 77 5 t 80 = I 80 := fun t => by rw [xup_ne _ _ _ (by decide), q80]
            have t5 : ∀ t : Int32, xup I2 77 5 t 77 5 = t := fun t => by rw [xup_self]; simp
            have pl := fun t => p9_placesFrom L (xup I2 77 5 t) J hj hm6 (t79 t) (fun i => tn (I (4 + 2 * j) i)) (fun q hq => by rw [t80, ← (h.1 j hj).2.2 q (by omega)]; exact hv q hq) hrg (show i < 216 by omega)
            have bc := fun σ => p9_bits (plN (fun i => tn (I (4 + 2 * j) i)) m rg i) (by have := hpl i; omega) σ
            rw [hgd] at bc
            have e9 := ih (i + 1) (by omega) (.int (nI (gr i))) (Or.inr ⟨_, rfl⟩)
            rw [show bpN gr (i + 1) = if (bpN gr i).2 < nI (gr i) then (nI i, nI (gr i)) else bpN gr i from rfl] at e9
            generalize bpN gr i = pr at e9 ⊢
            obtain ⟨nx, sm⟩ := pr
            simp only at e9 ⊢
            rw [hX9_best_47]
            by_cases hc : sm < nI (gr i)
            · rw [if_pos hc] at e9
              have hc2 : ¬ nI (gr i) ≤ sm := Int32.not_le.mpr hc
              rcases hw with rfl | ⟨z, rfl⟩
              all_goals
                simp (disch := omega) only [eX9_best, xRl, xG1, xG2, kAll, rAll, nAll, List.map_nil, List.map_cons, List.sum_nil, List.sum_cons, Nat.reduceAdd, Nat.reduceSub, Nat.reduceMul, Nat.reduceLeDiff, Nat.reduceEqDiff, Nat.reduceLT, and_true, true_and, and_self, if_true, if_false, ne_eq, not_false_eq_true, not_true_eq_false, or_false, false_or, or_true, true_or, false_and, and_false, reduceIte, reduceCtorEq, xB, ite_not, xretf_zc, xretf_c, xcont_c, xbd, nI_leI, pl, bc, t5, xup_xup, hc, hc2, nI_add]
                rw [if_neg (by omega)]
                exact e9
            · rw [if_neg hc] at e9
              have hc2 : nI (gr i) ≤ sm := Int32.not_lt.mp hc
              rcases hw with rfl | ⟨z, rfl⟩
              all_goals
                simp (disch := omega) only [eX9_best, xRl, xG1, xG2, kAll, rAll, nAll, List.map_nil, List.map_cons, List.sum_nil, List.sum_cons, Nat.reduceAdd, Nat.reduceSub, Nat.reduceMul, Nat.reduceLeDiff, Nat.reduceEqDiff, Nat.reduceLT, and_true, true_and, and_self, if_true, if_false, ne_eq, not_false_eq_true, not_true_eq_false, or_false, false_or, or_true, true_or, false_and, and_false, reduceIte, reduceCtorEq, xB, ite_not, xretf_zc, xretf_c, xcont_c, xbd, nI_leI, pl, bc, t5, xup_xup, hc, hc2, nI_add]
                rw [if_neg (by omega)]
                exact e9
        exact key 216 0 (by omega) .null (Or.inl rfl)
  · refine ⟨.int (-1), I, J, I, J, ?_, ?_, h⟩
    · rw [fX8_best]
      simp (disch := omega) only [eX8_best, xRl, xG1, xG2, kAll, rAll, nAll, List.map_nil, List.map_cons, List.sum_nil, List.sum_cons, Nat.reduceAdd, Nat.reduceSub, Nat.reduceMul, Nat.reduceLeDiff, Nat.reduceEqDiff, Nat.reduceLT, and_true, true_and, and_self, if_true, if_false, ne_eq, not_false_eq_true, not_true_eq_false, or_false, false_or, or_true, true_or, false_and, and_false, reduceIte, reduceCtorEq, xB, ite_not, xretf_zc, xretf_c, xcont_c, xbd, p8_among, hx]
    · rw [fX9_best]
      by_cases hr : nI 0 ≤ r ∧ r < nI 6
      · simp (disch := omega) only [eX9_best, xRl, xG1, xG2, kAll, rAll, nAll, List.map_nil, List.map_cons, List.sum_nil, List.sum_cons, Nat.reduceAdd, Nat.reduceSub, Nat.reduceMul, Nat.reduceLeDiff, Nat.reduceEqDiff, Nat.reduceLT, and_true, true_and, and_self, if_true, if_false, ne_eq, not_false_eq_true, not_true_eq_false, or_false, false_or, or_true, true_or, false_and, and_false, reduceIte, reduceCtorEq, xB, ite_not, xretf_zc, xretf_c, xcont_c, xbd, p9_isRow, hr, p9_inL, hx]
      · simp (disch := omega) only [eX9_best, xRl, xG1, xG2, kAll, rAll, nAll, List.map_nil, List.map_cons, List.sum_nil, List.sum_cons, Nat.reduceAdd, Nat.reduceSub, Nat.reduceMul, Nat.reduceLeDiff, Nat.reduceEqDiff, Nat.reduceLT, and_true, true_and, and_self, if_true, if_false, ne_eq, not_false_eq_true, not_true_eq_false, or_false, false_or, or_true, true_or, false_and, and_false, reduceIte, reduceCtorEq, xB, ite_not, xretf_zc, xretf_c, xcont_c, xbd, p9_isRow, hr]
end BS
