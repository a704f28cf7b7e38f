/-! the reference's registry: what stands in its row (cell 78), years in the field 15 of cell 77 -/
abbrev mv (I : Nat → Nat → Int32) (i : Nat) : Nat := (I 78 i).toNatClampNeg
abbrev mA (I : Nat → Nat → Int32) (k : Nat) : Nat := mv I (2 + k)
abbrev mKd (I : Nat → Nat → Int32) (k : Nat) : Nat := mv I (10 + 7 * k)
abbrev mB (I : Nat → Nat → Int32) (k : Nat) : Nat := mv I (11 + 7 * k)
abbrev mC (I : Nat → Nat → Int32) (k : Nat) : Nat := mv I (12 + 7 * k)
abbrev mRg (I : Nat → Nat → Int32) (k : Nat) : Nat := mv I (13 + 7 * k)
abbrev mOw (I : Nat → Nat → Int32) (k : Nat) : Nat := mv I (14 + 7 * k)
abbrev mDu (I : Nat → Nat → Int32) (k : Nat) : Nat := mv I (15 + 7 * k)
abbrev mFa (I : Nat → Nat → Int32) (k : Nat) : Nat := mv I (16 + 7 * k)
def Mok (I : Nat → Nat → Int32) (n : Nat) : Prop := n ≤ 8 ∧ I 78 1 = nI n ∧ ∀ k, k < n → (I 78 (2 + k) = nI (mA I k) ∧ mA I k < 6) ∧ (I 78 (10 + 7 * k) = nI (mKd I k) ∧ mKd I k < 6) ∧ (I 78 (11 + 7 * k) = nI (mB I k) ∧ mB I k < 6) ∧ (I 78 (12 + 7 * k) = nI (mC I k) ∧ mC I k < 6) ∧ (I 78 (13 + 7 * k) = nI (mRg I k) ∧ mRg I k < 10) ∧ (I 78 (14 + 7 * k) = nI (mOw I k) ∧ mOw I k < 4) ∧ (I 78 (15 + 7 * k) = nI (mDu I k) ∧ mDu I k < 10) ∧ (I 78 (16 + 7 * k) = nI (mFa I k) ∧ mFa I k < 2)
/-- a name's shade, y years on -/
def shM (I : Nat → Nat → Int32) (y k : Nat) : Nat := 36 * (mA I k - (if mFa I k = 1 then y else 0)) + 6 * mB I k + mC I k
theorem shM_lt {I : Nat → Nat → Int32} {n : Nat} (h : Mok I n) {k : Nat} (hk : k < n) (y : Nat) : shM I y k < 216 := by
  obtain ⟨⟨-, h1⟩, -, ⟨-, h2⟩, ⟨-, h3⟩, -⟩ := h.2.2 k hk
  unfold shM
  omega
theorem nI_neg0 {n : Nat} (h : n < 2 ^ 31) : (nI n < 0) ↔ False := ⟨fun q => nI_pos h q, fun q => q.elim⟩
theorem cl_nI {n : Nat} (h : n < 2 ^ 31) : (nI n).toNatClampNeg = n := nI_clamp h
theorem p9_of (L : Nat) (I : Nat → Nat → Int32) (J : Nat → Nat → Int64) (k w : Nat) (hk : k < 8) (hw : w < 7) : FX9_of [.ref 77, .int (nI k), .int (nI w)] (S0 L I J) = some (some (.int (I 78 (10 + 7 * k + w))), S0 L I J) := by
  rw [fX9_of]
  simp (disch := omega) only [eX9_of, xRl, xG1, xG2, kAll, rAll, nAll, List.map_nil, List.map_cons, List.sum_nil, List.sum_cons, Nat.reduceAdd, Nat.reduceSub, Nat.reduceMul, Nat.reduceLeDiff, Nat.reduceEqDiff, Nat.reduceLT, and_true, true_and, and_self, if_true, if_false, ne_eq, not_false_eq_true, not_true_eq_false, or_false, false_or, or_true, true_or, false_and, and_false, reduceIte, reduceCtorEq, xB, ite_not, xretf_zc, xretf_c, xcont_c, xbd, nI_add, pk_mul, nI_neg0, cl_nI]
theorem p9_shadeOf (L : Nat) (I : Nat → Nat → Int32) (J : Nat → Nat → Int64) (n k y : Nat) (hM : Mok I n) (hk : k < n) (hy : I 77 15 = nI y) (hyl : y < 1000) : FX9_shadeOf [.ref 77, .int (nI k)] (S0 L I J) = some (some (.int (nI (shM I y k))), S0 L I J) := by
  rw [fX9_shadeOf]
  have hn := hM.1
  obtain ⟨⟨a1, a2⟩, -, ⟨b1, b2⟩, ⟨c1, c2⟩, -, -, -, ⟨f1, f2⟩⟩ := hM.2.2 k hk
  have e6 : I 78 (10 + 7 * k + 6) = nI (mFa I k) := by rw [show 10 + 7 * k + 6 = 16 + 7 * k by omega]; exact f1
  have e1 : I 78 (10 + 7 * k + 1) = nI (mB I k) := by rw [show 10 + 7 * k + 1 = 11 + 7 * k by omega]; exact b1
  have e2 : I 78 (10 + 7 * k + 2) = nI (mC I k) := by rw [show 10 + 7 * k + 2 = 12 + 7 * k by omega]; exact c1
  simp (disch := omega) only [eX9_shadeOf, xRl, xG1, xG2, kAll, rAll, nAll, List.map_nil, List.map_cons, List.sum_nil, List.sum_cons, Nat.reduceAdd, Nat.reduceSub, Nat.reduceMul, Nat.reduceLeDiff, Nat.reduceEqDiff, Nat.reduceLT, and_true, true_and, and_self, if_true, if_false, ne_eq, not_false_eq_true, not_true_eq_false, or_false, false_or, or_true, true_or, false_and, and_false, reduceIte, reduceCtorEq, xB, ite_not, xretf_zc, xretf_c, xcont_c, xbd, p9_of, e6, e1, e2, a1, hy, nI_add, nI_neg0, cl_nI, nI_eq, sub_le]
  unfold shM
  repeat' split
  all_goals (first | rw [pk_sub (by omega)] | skip)
  all_goals simp only [pk_mul, nI_add]
  all_goals exact congrArg (fun z => some (some (Value.int (nI z)), S0 L I J)) (by omega)
/-- which names reach a shade -/
def rcM (I : Nat → Nat → Int32) (y s k : Nat) : Bool := rchN (mKd I k) (mRg I k) (shM I y k) s
theorem p9_reaches (L : Nat) (I : Nat → Nat → Int32) (J : Nat → Nat → Int64) (n k y s : Nat) (hM : Mok I n) (hk : k < n) (hy : I 77 15 = nI y) (hyl : y < 1000) (hs : s < 216) : FX9_reaches [.ref 77, .int (nI k), .int (nI s)] (S0 L I J) = some (some (.int (if rcM I y s k = true then nI 1 else nI 0)), S0 L I J) := by
  rw [fX9_reaches]
  unfold rcM
  have hn := hM.1
  have hsh := shM_lt hM hk y
  obtain ⟨-, ⟨a1, a2⟩, -, -, ⟨b1, b2⟩, -⟩ := hM.2.2 k hk
  have e0 : I 78 (10 + 7 * k + 0) = nI (mKd I k) := a1
  have e3 : I 78 (10 + 7 * k + 3) = nI (mRg I k) := by rw [show 10 + 7 * k + 3 = 13 + 7 * k by omega]; exact b1
  simp (disch := omega) only [eX9_reaches, xRl, xG1, xG2, kAll, rAll, nAll, List.map_nil, List.map_cons, List.sum_nil, List.sum_cons, Nat.reduceAdd, Nat.reduceSub, Nat.reduceMul, Nat.reduceLeDiff, Nat.reduceEqDiff, Nat.reduceLT, and_true, true_and, and_self, if_true, if_false, ne_eq, not_false_eq_true, not_true_eq_false, or_false, false_or, or_true, true_or, false_and, and_false, reduceIte, reduceCtorEq, xB, ite_not, xretf_zc, xretf_c, xcont_c, xbd, p9_of, e0, e3, p9_shadeOf L I J n k y hM hk hy hyl, p9_reachesOf]
theorem p9_reaching (L : Nat) (I : Nat → Nat → Int32) (J : Nat → Nat → Int64) (n y s : Nat) (hM : Mok I n) (hy : I 77 15 = nI y) (hyl : y < 1000) (hs : s < 216) : FX9_reaching [.ref 77, .int (nI s)] (S0 L I J) = some (some (.int (nI (msk (rcM I y s) n))), S0 L I J) := by
  rw [fX9_reaching]
  have hn := hM.1
  have h1 := hM.2.1
  simp (disch := omega) only [eX9_reaching, xRl, xG1, xG2, kAll, rAll, nAll, List.map_nil, List.map_cons, List.sum_nil, List.sum_cons, Nat.reduceAdd, Nat.reduceSub, Nat.reduceMul, Nat.reduceLeDiff, Nat.reduceEqDiff, Nat.reduceLT, and_true, true_and, and_self, if_true, if_false, ne_eq, not_false_eq_true, not_true_eq_false, or_false, false_or, or_true, true_or, false_and, and_false, reduceIte, reduceCtorEq, xB, ite_not, xretf_zc, xretf_c, xcont_c, xbd]
  have key := xloop (t := tX9_reaching) (st := fun i (_ : Unit) => (4, [.ref 77, .int (nI s), .int (nI (msk (rcM I y s) i)), .int (nI i)], [], 0, S0 L I J)) (g := fun _ _ => ()) (N := n) (Inv := fun _ _ => True) (a0 := ()) trivial (by
    intro i a hi _
    refine ⟨?_, trivial⟩
    have hm := msk_lt (rcM I y s) i
    have hp : 2 ^ i ≤ 2 ^ 7 := Nat.pow_le_pow_right (by omega) (by omega)
    show xD tX9_reaching (4, _) = _
    rw [hX9_reaching_4]
    simp (disch := omega) only [eX9_reaching, xRl, xG1, xG2, kAll, rAll, nAll, List.map_nil, List.map_cons, List.sum_nil, List.sum_cons, Nat.reduceAdd, Nat.reduceSub, Nat.reduceMul, Nat.reduceLeDiff, Nat.reduceEqDiff, Nat.reduceLT, and_true, true_and, and_self, if_true, if_false, ne_eq, not_false_eq_true, not_true_eq_false, or_false, false_or, or_true, true_or, false_and, and_false, reduceIte, reduceCtorEq, xB, ite_not, xretf_zc, xretf_c, xcont_c, xbd, h1, nI_neg0, cl_nI, nI_leI, p9_reaches L I J n i y s hM hi hy hyl hs, shl1, nI_add]
    rw [if_neg (by omega)]
    show _ = xD tX9_reaching (4, [_, _, .int (nI (msk (rcM I y s) i + _)), _], _)
    split
    · rw [or_pow hm]
    · rw [or_0]; rfl) n (Nat.le_refl n)
  rw [show xD tX9_reaching (4, [.ref 77, .int (nI s), .int (nI 0), .int (nI 0)], [], 0, S0 L I J) = _ from key.1, hX9_reaching_4]
  simp (disch := omega) only [eX9_reaching, xRl, xG1, xG2, kAll, rAll, nAll, List.map_nil, List.map_cons, List.sum_nil, List.sum_cons, Nat.reduceAdd, Nat.reduceSub, Nat.reduceMul, Nat.reduceLeDiff, Nat.reduceEqDiff, Nat.reduceLT, and_true, true_and, and_self, if_true, if_false, ne_eq, not_false_eq_true, not_true_eq_false, or_false, false_or, or_true, true_or, false_and, and_false, reduceIte, reduceCtorEq, xB, ite_not, xretf_zc, xretf_c, xcont_c, xbd, h1, nI_neg0, cl_nI, nI_leI]
  rw [if_pos (Nat.le_refl n)]
theorem p9_has (m k : Nat) (hm : m < 2 ^ 31) (hk : k < 31) (σ : xS) : FX9_has [.int (nI m), .int (nI k)] σ = some (some (.int (if m.testBit k = true then nI 1 else nI 0)), σ) := by
  rw [fX9_has]
  simp (disch := omega) only [eX9_has, xRl, xG1, xG2, kAll, rAll, nAll, List.map_nil, List.map_cons, List.sum_nil, List.sum_cons, Nat.reduceAdd, Nat.reduceSub, Nat.reduceMul, Nat.reduceLeDiff, Nat.reduceEqDiff, Nat.reduceLT, and_true, true_and, and_self, if_true, if_false, ne_eq, not_false_eq_true, not_true_eq_false, or_false, false_or, or_true, true_or, false_and, and_false, reduceIte, reduceCtorEq, xB, ite_not, xretf_zc, xretf_c, xcont_c, xbd, bit_at]
  cases m.testBit k <;> rfl
/-- the first of a .. a + d - 1 that has f, else n9 -/
def fst9 (f : Nat → Bool) (a : Nat) : Nat → Int32
  | 0 => -9
  | d + 1 => if f a = true then nI a else fst9 f (a + 1) d
theorem p9_firstOf (m : Nat) (hm : m < 2 ^ 31) (σ : xS) : FX9_firstOf [.int (nI m)] σ = some (some (.int (fst9 (fun k => m.testBit k) 0 8)), σ) := by
  rw [fX9_firstOf]
  simp (disch := omega) only [eX9_firstOf, xRl, xG1, xG2, kAll, rAll, nAll, List.map_nil, List.map_cons, List.sum_nil, List.sum_cons, Nat.reduceAdd, Nat.reduceSub, Nat.reduceMul, Nat.reduceLeDiff, Nat.reduceEqDiff, Nat.reduceLT, and_true, true_and, and_self, if_true, if_false, ne_eq, not_false_eq_true, not_true_eq_false, or_false, false_or, or_true, true_or, false_and, and_false, reduceIte, reduceCtorEq, xB, ite_not, xretf_zc, xretf_c, xcont_c, xbd]
  have key : ∀ (d i : Nat), i + d = 8 → xD tX9_firstOf (2, [.int (nI m), .int (nI i)], [], 0, σ) = some (some (.int (fst9 (fun k => m.testBit k) i d)), σ) := by
    intro d
    induction d with
    | zero =>
      intro i hi
      rw [hX9_firstOf_2]
      simp (disch := omega) only [eX9_firstOf, xRl, xG1, xG2, kAll, rAll, nAll, List.map_nil, List.map_cons, List.sum_nil, List.sum_cons, Nat.reduceAdd, Nat.reduceSub, Nat.reduceMul, Nat.reduceLeDiff, Nat.reduceEqDiff, Nat.reduceLT, and_true, true_and, and_self, if_true, if_false, ne_eq, not_false_eq_true, not_true_eq_false, or_false, false_or, or_true, true_or, false_and, and_false, reduceIte, reduceCtorEq, xB, ite_not, xretf_zc, xretf_c, xcont_c, xbd, nI_leI]
      rw [if_pos (by omega)]
      rfl
    | succ d ih =>
      intro i hi
      rw [hX9_firstOf_2]
      simp (disch := omega) only [eX9_firstOf, xRl, xG1, xG2, kAll, rAll, nAll, List.map_nil, List.map_cons, List.sum_nil, List.sum_cons, Nat.reduceAdd, Nat.reduceSub, Nat.reduceMul, Nat.reduceLeDiff, Nat.reduceEqDiff, Nat.reduceLT, and_true, true_and, and_self, if_true, if_false, ne_eq, not_false_eq_true, not_true_eq_false, or_false, false_or, or_true, true_or, false_and, and_false, reduceIte, reduceCtorEq, xB, ite_not, xretf_zc, xretf_c, xcont_c, xbd, nI_leI, p9_has, nI_add]
      rw [if_neg (by omega)]
      unfold fst9
      split
      · rfl
      · exact ih (i + 1) (by omega)
  rw [key 8 0 rfl]
  simp (disch := omega) only [xRl, xG1, xG2, kAll, rAll, nAll, List.map_nil, List.map_cons, List.sum_nil, List.sum_cons, Nat.reduceAdd, Nat.reduceSub, Nat.reduceMul, Nat.reduceLeDiff, Nat.reduceEqDiff, Nat.reduceLT, and_true, true_and, and_self, if_true, if_false, ne_eq, not_false_eq_true, not_true_eq_false, or_false, false_or, or_true, true_or, false_and, and_false, reduceIte, reduceCtorEq, xB, ite_not, xretf_zc, xretf_c, xcont_c, xbd]
