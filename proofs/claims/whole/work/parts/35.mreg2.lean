/-! the reference's registry, on -/
theorem tb_eq {rc : Nat → Bool} {n : Nat} (hn : n ≤ 8) : fst9 (fun k => (msk rc n).testBit k) 0 8 = fstv rc nI (-9) 0 n := by
  have go : ∀ (d a : Nat), a + d = 8 → a ≤ n → fst9 (fun k => (msk rc n).testBit k) a d = fstv rc nI (-9) a (n - a) := by
    intro d
    induction d with
    | zero => intro a h1 h2; rw [show n - a = 0 by omega]; rfl
    | succ d ih =>
      intro a h1 h2
      unfold fst9
      rw [msk_bit]
      by_cases h3 : a < n
      · rw [show n - a = (n - (a + 1)) + 1 by omega]
        unfold fstv
        simp only [h3, decide_true, Bool.true_and]
        split
        · rfl
        · exact ih (a + 1) (by omega) (by omega)
      · have hz : ∀ (d a : Nat), n ≤ a → fst9 (fun k => (msk rc n).testBit k) a d = -9 := by
          intro d
          induction d with
          | zero => intro a _; rfl
          | succ d ih =>
            intro a ha
            unfold fst9
            rw [msk_bit, if_neg (by simp; omega)]
            exact ih (a + 1) (by omega)
        rw [if_neg (by simp; omega), hz d (a + 1) (by omega), show n - a = 0 by omega]
        rfl
  have := go 8 0 rfl (Nat.zero_le n)
  rw [Nat.sub_zero] at this
  exact this
theorem p9_caller (L : Nat) (I : Nat → Nat → Int32) (J : Nat → Nat → Int64) (n y s : Nat) (hM : Mok I n) (hy : I 77 15 = nI y) (hyl : y < 1000) (hs : s < 216) : FX9_caller [.ref 77, .int (nI s)] (S0 L I J) = some (some (.int (fstv (rcM I y s) nI (-9) 0 n)), S0 L I J) := by
  rw [fX9_caller]
  have hn := hM.1
  have h1 := msk_lt (rcM I y s) n
  have h2 : 2 ^ n ≤ 2 ^ 8 := Nat.pow_le_pow_right (by omega) hn
  simp (disch := omega) only [eX9_caller, xRl, xG1, xG2, kAll, rAll, nAll, List.map_nil, List.map_cons, List.sum_nil, List.sum_cons, Nat.reduceAdd, Nat.reduceSub, Nat.reduceMul, Nat.reduceLeDiff, Nat.reduceEqDiff, Nat.reduceLT, and_true, true_and, and_self, if_true, if_false, ne_eq, not_false_eq_true, not_true_eq_false, or_false, false_or, or_true, true_or, false_and, and_false, reduceIte, reduceCtorEq, xB, ite_not, xretf_zc, xretf_c, xcont_c, xbd, p9_reaching L I J n y s hM hy hyl hs, p9_firstOf]
  rw [tb_eq hn]
theorem p9_ownerOf (L : Nat) (I : Nat → Nat → Int32) (J : Nat → Nat → Int64) (n y s : Nat) (hM : Mok I n) (hy : I 77 15 = nI y) (hyl : y < 1000) (hs : s < 216) : FX9_ownerOf [.ref 77, .int (nI s)] (S0 L I J) = some (some (.int (fstv (rcM I y s) (fun k => nI (mOw I k)) (-9) 0 n)), S0 L I J) := by
  rw [fX9_ownerOf]
  have hc := p9_caller L I J n y s hM hy hyl hs
  have hn := hM.1
  simp (disch := omega) only [eX9_ownerOf, xRl, xG1, xG2, kAll, rAll, nAll, List.map_nil, List.map_cons, List.sum_nil, List.sum_cons, Nat.reduceAdd, Nat.reduceSub, Nat.reduceMul, Nat.reduceLeDiff, Nat.reduceEqDiff, Nat.reduceLT, and_true, true_and, and_self, if_true, if_false, ne_eq, not_false_eq_true, not_true_eq_false, or_false, false_or, or_true, true_or, false_and, and_false, reduceIte, reduceCtorEq, xB, ite_not, xretf_zc, xretf_c, xcont_c, xbd, hc]
  rcases fstv_cases (rcM I y s) n 0 with ⟨-, h2⟩ | ⟨k, -, h3, -, -, h2⟩
  · rw [h2, h2, if_pos rfl]
  · have hkn : k < n := by omega
    obtain ⟨-, -, -, -, -, ⟨a1, a2⟩, -⟩ := hM.2.2 k hkn
    have e4 : I 78 (10 + 7 * k + 4) = nI (mOw I k) := by rw [show 10 + 7 * k + 4 = 14 + 7 * k by omega]; exact a1
    rw [h2, h2]
    simp (disch := omega) only [eX9_ownerOf, xRl, xG1, xG2, kAll, rAll, nAll, List.map_nil, List.map_cons, List.sum_nil, List.sum_cons, Nat.reduceAdd, Nat.reduceSub, Nat.reduceMul, Nat.reduceLeDiff, Nat.reduceEqDiff, Nat.reduceLT, and_true, true_and, and_self, if_true, if_false, ne_eq, not_false_eq_true, not_true_eq_false, or_false, false_or, or_true, true_or, false_and, and_false, reduceIte, reduceCtorEq, xB, ite_not, xretf_zc, xretf_c, xcont_c, xbd, n9, p9_of, e4]
theorem p9_dueFor (L : Nat) (I : Nat → Nat → Int32) (J : Nat → Nat → Int64) (n p s : Nat) (hM : Mok I n) (hy : I 77 15 = nI 0) (hp : p < 4) (hs : s < 216) : FX9_dueFor [.ref 77, .int (nI p), .int (nI s)] (S0 L I J) = some (some (.int (fstv (rcM I 0 s) (owe (mOw I) (mKd I) (mDu I) p) (nI 0) 0 n)), S0 L I J) := by
  rw [fX9_dueFor]
  have hc := p9_caller L I J n 0 s hM hy (by omega) hs
  have hn := hM.1
  simp (disch := omega) only [eX9_dueFor, xRl, xG1, xG2, kAll, rAll, nAll, List.map_nil, List.map_cons, List.sum_nil, List.sum_cons, Nat.reduceAdd, Nat.reduceSub, Nat.reduceMul, Nat.reduceLeDiff, Nat.reduceEqDiff, Nat.reduceLT, and_true, true_and, and_self, if_true, if_false, ne_eq, not_false_eq_true, not_true_eq_false, or_false, false_or, or_true, true_or, false_and, and_false, reduceIte, reduceCtorEq, xB, ite_not, xretf_zc, xretf_c, xcont_c, xbd, hc]
  rcases fstv_cases (rcM I 0 s) n 0 with ⟨-, h2⟩ | ⟨k, -, h3, -, -, h2⟩
  · rw [h2, h2, if_pos rfl]
  · have hkn : k < n := by omega
    obtain ⟨-, ⟨k1, k2⟩, -, -, -, ⟨a1, a2⟩, ⟨d1, d2⟩, -⟩ := hM.2.2 k hkn
    have e0 : I 78 (10 + 7 * k + 0) = nI (mKd I k) := k1
    have e4 : I 78 (10 + 7 * k + 4) = nI (mOw I k) := by rw [show 10 + 7 * k + 4 = 14 + 7 * k by omega]; exact a1
    have e5 : I 78 (10 + 7 * k + 5) = nI (mDu I k) := by rw [show 10 + 7 * k + 5 = 15 + 7 * k by omega]; exact d1
    rw [h2, h2]
    simp (disch := omega) only [eX9_dueFor, xRl, xG1, xG2, kAll, rAll, nAll, List.map_nil, List.map_cons, List.sum_nil, List.sum_cons, Nat.reduceAdd, Nat.reduceSub, Nat.reduceMul, Nat.reduceLeDiff, Nat.reduceEqDiff, Nat.reduceLT, and_true, true_and, and_self, if_true, if_false, ne_eq, not_false_eq_true, not_true_eq_false, or_false, false_or, or_true, true_or, false_and, and_false, reduceIte, reduceCtorEq, xB, ite_not, xretf_zc, xretf_c, xcont_c, xbd, n9, p9_of, e0, e4, e5, nI_eq]
    unfold owe
    repeat' split
    all_goals first | rfl | (simp_all; done)
theorem p9_isShade (x : Int32) (σ : xS) : FX9_isShade [.int x] σ = some (some (.int (if nI 0 ≤ x ∧ x ≤ nI 215 then nI 1 else nI 0)), σ) := by
  rw [fX9_isShade]
  have h := p9_in x 0 215 (by decide) (by decide) σ
  simp (disch := omega) only [eX9_isShade, xRl, xG1, xG2, kAll, rAll, nAll, List.map_nil, List.map_cons, List.sum_nil, List.sum_cons, Nat.reduceAdd, Nat.reduceSub, Nat.reduceMul, Nat.reduceLeDiff, Nat.reduceEqDiff, Nat.reduceLT, and_true, true_and, and_self, if_true, if_false, ne_eq, not_false_eq_true, not_true_eq_false, or_false, false_or, or_true, true_or, false_and, and_false, reduceIte, reduceCtorEq, xB, ite_not, xretf_zc, xretf_c, xcont_c, xbd]
  rw [show ((0 : Int64)) = lN 0 from rfl, show ((215 : Int64)) = lN 215 from rfl]
  simp (disch := omega) only [eX9_isShade, xRl, xG1, xG2, kAll, rAll, nAll, List.map_nil, List.map_cons, List.sum_nil, List.sum_cons, Nat.reduceAdd, Nat.reduceSub, Nat.reduceMul, Nat.reduceLeDiff, Nat.reduceEqDiff, Nat.reduceLT, and_true, true_and, and_self, if_true, if_false, ne_eq, not_false_eq_true, not_true_eq_false, or_false, false_or, or_true, true_or, false_and, and_false, reduceIte, reduceCtorEq, xB, ite_not, xretf_zc, xretf_c, xcont_c, xbd, h]
theorem p9_isPerson (x : Int32) (σ : xS) : FX9_isPerson [.int x] σ = some (some (.int (if nI 0 ≤ x ∧ x ≤ nI 3 then nI 1 else nI 0)), σ) := by
  rw [fX9_isPerson]
  have h := p9_in x 0 3 (by decide) (by decide) σ
  simp (disch := omega) only [eX9_isPerson, xRl, xG1, xG2, kAll, rAll, nAll, List.map_nil, List.map_cons, List.sum_nil, List.sum_cons, Nat.reduceAdd, Nat.reduceSub, Nat.reduceMul, Nat.reduceLeDiff, Nat.reduceEqDiff, Nat.reduceLT, and_true, true_and, and_self, if_true, if_false, ne_eq, not_false_eq_true, not_true_eq_false, or_false, false_or, or_true, true_or, false_and, and_false, reduceIte, reduceCtorEq, xB, ite_not, xretf_zc, xretf_c, xcont_c, xbd]
  rw [show ((0 : Int64)) = lN 0 from rfl, show ((3 : Int64)) = lN 3 from rfl]
  simp (disch := omega) only [eX9_isPerson, xRl, xG1, xG2, kAll, rAll, nAll, List.map_nil, List.map_cons, List.sum_nil, List.sum_cons, Nat.reduceAdd, Nat.reduceSub, Nat.reduceMul, Nat.reduceLeDiff, Nat.reduceEqDiff, Nat.reduceLT, and_true, true_and, and_self, if_true, if_false, ne_eq, not_false_eq_true, not_true_eq_false, or_false, false_or, or_true, true_or, false_and, and_false, reduceIte, reduceCtorEq, xB, ite_not, xretf_zc, xretf_c, xcont_c, xbd, h]
