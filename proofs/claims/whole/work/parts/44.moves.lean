/-! fading: moves, lost; lots -/
def fw (I : Nat → Nat → Int32) (c m : Nat) (v : Nat → Int32) : Nat → Nat → Int32 := fun a b => if a = c ∧ b < m then v b else I a b
theorem fw_0 (I : Nat → Nat → Int32) (c : Nat) (v : Nat → Int32) : fw I c 0 v = I := by
  funext a b
  unfold fw
  rw [if_neg (by omega)]
theorem fw_s (I : Nat → Nat → Int32) (c m : Nat) (v : Nat → Int32) : xup (fw I c m v) c m (v m) = fw I c (m + 1) v := by
  funext a b
  unfold xup fw
  by_cases h1 : a = c
  · subst h1
    by_cases h2 : b = m
    · subst h2; simp
    · simp only [true_and, if_true, h2, if_false]
      by_cases h3 : b < m
      · rw [if_pos h3, if_pos (by omega)]
      · rw [if_neg h3, if_neg (by omega)]
  · simp [h1]
theorem fw_ne (I : Nat → Nat → Int32) {c a : Nat} (m : Nat) (v : Nat → Int32) (h : a ≠ c) : fw I c m v a = I a := by
  funext b
  unfold fw
  rw [if_neg (fun q => h q.1)]
theorem fw_in (I : Nat → Nat → Int32) {c m b : Nat} (v : Nat → Int32) (h : b < m) : fw I c m v c b = v b := by
  unfold fw; rw [if_pos ⟨rfl, h⟩]
theorem xup_xup {α : Type} (f : Nat → Nat → α) (c k : Nat) (v w : α) : xup (xup f c k v) c k w = xup f c k w := by
  funext a b
  simp only [xup]
  by_cases h1 : a = c
  · by_cases h2 : b = k <;> simp [h1, h2]
  · simp [h1]
theorem xup_same {α : Type} (f : Nat → Nat → α) (c k : Nat) : xup f c k (f c k) = f := by
  funext a b
  simp only [xup]
  by_cases h1 : a = c
  · by_cases h2 : b = k <;> simp [h1, h2]
  · simp [h1]
section M1
variable (L : Nat) (I : Nat → Nat → Int32) (J : Nat → Nat → Int64)
theorem pr_moves (h : Cp I J) (p : Int32) : Pair L FX8_moves FX9_moves [.int p] I J := by
  by_cases hp : nI 0 ≤ p ∧ p < nI 7
  · obtain ⟨b, hb, rfl⟩ := (Am_iff (by decide)).mp hp
    obtain ⟨n, d, yr, hR⟩ := h.2.2.2.2.2.2.1
    obtain ⟨hM, hC, hE⟩ := RC_M hR
    generalize hv : (fun y s => fstv (rcC I yr y s) (fun k => nI (cv I k 3)) (-9) 0 n) = v
    have hvd : ∀ y s, fstv (rcC I yr y s) (fun k => nI (cv I k 3)) (-9) 0 n = v y s := fun y s => by rw [← hv]
    generalize hf : (fun s => !decide (v b s = v 0 s)) = f
    have hfd : ∀ s, (v b s = v 0 s) ↔ ¬ f s = true := fun s => by rw [← hf]; simp
    have hy0 := h.2.2.2.2.2.1
    refine ⟨.int (nI (cnt f 0 216)), I, J, xup (xup (fw I 89 216 (v 0)) 77 15 (nI b)) 77 15 (nI 0), J, ?_, ?_, ?_⟩
    · rw [fX8_moves]
      simp (disch := omega) only [eX8_moves, xRl, xG1, xG2, kAll, rAll, nAll, List.map_nil, List.map_cons, List.sum_nil, List.sum_cons, Nat.reduceAdd, Nat.reduceSub, Nat.reduceMul, Nat.reduceLeDiff, Nat.reduceEqDiff, Nat.reduceLT, and_true, true_and, and_self, if_true, if_false, ne_eq, not_false_eq_true, not_true_eq_false, or_false, false_or, or_true, true_or, false_and, and_false, reduceIte, reduceCtorEq, xB, ite_not, xretf_zc, xretf_c, xcont_c, xbd, p8_among, hp]
      have key := xloop (t := tX8_moves) (st := fun i (_ : Unit) => (15, [.ref 1, .int (nI b), .int (nI (cnt f 0 i)), .int (nI i)], [], 0, S0 L I J)) (g := fun _ _ => ()) (N := 216) (Inv := fun _ _ => True) (a0 := ()) trivial (by
        intro i x hi _
        refine ⟨?_, trivial⟩
        show xD tX8_moves (15, _) = _
        rw [hX8_moves_15]
        simp (disch := omega) only [eX8_moves, xRl, xG1, xG2, kAll, rAll, nAll, List.map_nil, List.map_cons, List.sum_nil, List.sum_cons, Nat.reduceAdd, Nat.reduceSub, Nat.reduceMul, Nat.reduceLeDiff, Nat.reduceEqDiff, Nat.reduceLT, and_true, true_and, and_self, if_true, if_false, ne_eq, not_false_eq_true, not_true_eq_false, or_false, false_or, or_true, true_or, false_and, and_false, reduceIte, reduceCtorEq, xB, ite_not, xretf_zc, xretf_c, xcont_c, xbd, nI_leI, p4_ownerOf L I J n yr 0 i hC (by omega) hi, p4_ownerOf L I J n yr b i hC (by omega) hi, hvd, hfd, nI_add]
        rw [if_neg (by omega)]
        show _ = xD tX8_moves (15, [_, _, .int (nI (cnt f 0 (i + 1))), _], _)
        rw [cnt_snoc, Nat.zero_add]
        split <;> rfl) 216 (Nat.le_refl 216)
      rw [show xD tX8_moves (15, [.ref 1, .int (nI b), .int (nI 0), .int (nI 0)], [], 0, S0 L I J) = _ from key.1, hX8_moves_15]
      simp (disch := omega) only [eX8_moves, xRl, xG1, xG2, kAll, rAll, nAll, List.map_nil, List.map_cons, List.sum_nil, List.sum_cons, Nat.reduceAdd, Nat.reduceSub, Nat.reduceMul, Nat.reduceLeDiff, Nat.reduceEqDiff, Nat.reduceLT, and_true, true_and, and_self, if_true, if_false, ne_eq, not_false_eq_true, not_true_eq_false, or_false, false_or, or_true, true_or, false_and, and_false, reduceIte, reduceCtorEq, xB, ite_not, xretf_zc, xretf_c, xcont_c, xbd, nI_leI]
    · rw [fX9_moves]
      simp (disch := omega) only [eX9_moves, xRl, xG1, xG2, kAll, rAll, nAll, List.map_nil, List.map_cons, List.sum_nil, List.sum_cons, Nat.reduceAdd, Nat.reduceSub, Nat.reduceMul, Nat.reduceLeDiff, Nat.reduceEqDiff, Nat.reduceLT, and_true, true_and, and_self, if_true, if_false, ne_eq, not_false_eq_true, not_true_eq_false, or_false, false_or, or_true, true_or, false_and, and_false, reduceIte, reduceCtorEq, xB, ite_not, xretf_zc, xretf_c, xcont_c, xbd, p9_inL, hp]
      have key := xloop (t := tX9_moves) (st := fun i (_ : Unit) => (16, [.ref 77, .int (nI b), .int (nI i), .null], [], 0, S0 L (fw I 89 i (v 0)) J)) (g := fun _ _ => ()) (N := 216) (Inv := fun _ _ => True) (a0 := ()) trivial (by
        intro i x hi _
        refine ⟨?_, trivial⟩
        have e1 : fw I 89 i (v 0) 78 = I 78 := fw_ne _ _ _ (by decide)
        have e2 : fw I 89 i (v 0) 77 15 = nI 0 := by rw [fw_ne _ _ _ (by decide)]; exact hy0
        have e3 := p9_ownerOf L (fw I 89 i (v 0)) J n 0 i (Mok_of hM e1) e2 (by omega) hi
        simp only [rcM_of e1, mOw, mv, e1] at e3
        have e4 := own_eq I hR 0 i
        simp only [mOw, mv] at e4
        rw [e4, hvd] at e3
        show xD tX9_moves (16, _) = _
        rw [hX9_moves_16]
        simp (disch := omega) only [eX9_moves, xRl, xG1, xG2, kAll, rAll, nAll, List.map_nil, List.map_cons, List.sum_nil, List.sum_cons, Nat.reduceAdd, Nat.reduceSub, Nat.reduceMul, Nat.reduceLeDiff, Nat.reduceEqDiff, Nat.reduceLT, and_true, true_and, and_self, if_true, if_false, ne_eq, not_false_eq_true, not_true_eq_false, or_false, false_or, or_true, true_or, false_and, and_false, reduceIte, reduceCtorEq, xB, ite_not, xretf_zc, xretf_c, xcont_c, xbd, nI_leI, nI_neg0, cl_nI, e3, nI_add]
        rw [if_neg (by omega), fw_s]) 216 (Nat.le_refl 216)
      have k0 := key.1
      simp only [fw_0] at k0
      rw [k0, hX9_moves_16]
      simp (disch := omega) only [eX9_moves, xRl, xG1, xG2, kAll, rAll, nAll, List.map_nil, List.map_cons, List.sum_nil, List.sum_cons, Nat.reduceAdd, Nat.reduceSub, Nat.reduceMul, Nat.reduceLeDiff, Nat.reduceEqDiff, Nat.reduceLT, and_true, true_and, and_self, if_true, if_false, ne_eq, not_false_eq_true, not_true_eq_false, or_false, false_or, or_true, true_or, false_and, and_false, reduceIte, reduceCtorEq, xB, ite_not, xretf_zc, xretf_c, xcont_c, xbd, nI_leI]
      generalize hI2 : xup (fw I 89 216 (v 0)) 77 15 (nI b) = I2
      have e1 : I2 78 = I 78 := by rw [← hI2, xup_ne _ _ _ (by decide), fw_ne _ _ _ (by decide)]
      have e2 : I2 77 15 = nI b := by rw [← hI2, xup_self]; simp
      have key2 := xloop (t := tX9_moves) (st := fun i (_ : Unit) => (49, [.ref 77, .int (nI b), .int (nI (cnt f 0 i)), .int (nI i)], [], 0, S0 L I2 J)) (g := fun _ _ => ()) (N := 216) (Inv := fun _ _ => True) (a0 := ()) trivial (by
        intro i x hi _
        refine ⟨?_, trivial⟩
        have e3 := p9_ownerOf L I2 J n b i (Mok_of hM e1) e2 (by omega) hi
        simp only [rcM_of e1, mOw, mv, e1] at e3
        have e4 := own_eq I hR b i
        simp only [mOw, mv] at e4
        rw [e4, hvd] at e3
        have e5 : I2 89 i = v 0 i := by rw [← hI2, xup_ne _ _ _ (by decide), fw_in _ _ hi]
        show xD tX9_moves (49, _) = _
        rw [hX9_moves_49]
        simp (disch := omega) only [eX9_moves, xRl, xG1, xG2, kAll, rAll, nAll, List.map_nil, List.map_cons, List.sum_nil, List.sum_cons, Nat.reduceAdd, Nat.reduceSub, Nat.reduceMul, Nat.reduceLeDiff, Nat.reduceEqDiff, Nat.reduceLT, and_true, true_and, and_self, if_true, if_false, ne_eq, not_false_eq_true, not_true_eq_false, or_false, false_or, or_true, true_or, false_and, and_false, reduceIte, reduceCtorEq, xB, ite_not, xretf_zc, xretf_c, xcont_c, xbd, nI_leI, nI_neg0, cl_nI, e3, e5, hfd, nI_add]
        rw [if_neg (by omega)]
        show _ = xD tX9_moves (49, [_, _, .int (nI (cnt f 0 (i + 1))), _], _)
        rw [cnt_snoc, Nat.zero_add]
        split <;> rfl) 216 (Nat.le_refl 216)
      rw [show xD tX9_moves (49, [.ref 77, .int (nI b), .int (nI 0), .int (nI 0)], [], 0, S0 L I2 J) = _ from key2.1, hX9_moves_49]
      simp (disch := omega) only [eX9_moves, xRl, xG1, xG2, kAll, rAll, nAll, List.map_nil, List.map_cons, List.sum_nil, List.sum_cons, Nat.reduceAdd, Nat.reduceSub, Nat.reduceMul, Nat.reduceLeDiff, Nat.reduceEqDiff, Nat.reduceLT, and_true, true_and, and_self, if_true, if_false, ne_eq, not_false_eq_true, not_true_eq_false, or_false, false_or, or_true, true_or, false_and, and_false, reduceIte, reduceCtorEq, xB, ite_not, xretf_zc, xretf_c, xcont_c, xbd, nI_leI]
    · rw [xup_xup]
      refine Cp_gen h (fun c hc => by rw [xup_ne _ _ _ (by omega), fw_ne _ _ _ (by omega)]) ?_ ?_ ?_ ?_
      · rw [xup_ne _ _ _ (by omega), fw_ne _ _ _ (by omega)]
      · rw [xup_self, if_neg (by decide), fw_ne _ _ _ (by omega)]
      · rw [xup_self, if_pos rfl, hy0]
      · rw [xup_ne _ _ _ (by omega), fw_ne _ _ _ (by omega), xup_self, if_neg (by decide), fw_ne _ _ _ (by omega)]; exact h.2.2.2.1
  · refine ⟨.int (-1), I, J, I, J, ?_, ?_, h⟩
    · rw [fX8_moves]
      simp (disch := omega) only [eX8_moves, xRl, xG1, xG2, kAll, rAll, nAll, List.map_nil, List.map_cons, List.sum_nil, List.sum_cons, Nat.reduceAdd, Nat.reduceSub, Nat.reduceMul, Nat.reduceLeDiff, Nat.reduceEqDiff, Nat.reduceLT, and_true, true_and, and_self, if_true, if_false, ne_eq, not_false_eq_true, not_true_eq_false, or_false, false_or, or_true, true_or, false_and, and_false, reduceIte, reduceCtorEq, xB, ite_not, xretf_zc, xretf_c, xcont_c, xbd, p8_among, hp]
    · rw [fX9_moves]
      simp (disch := omega) only [eX9_moves, xRl, xG1, xG2, kAll, rAll, nAll, List.map_nil, List.map_cons, List.sum_nil, List.sum_cons, Nat.reduceAdd, Nat.reduceSub, Nat.reduceMul, Nat.reduceLeDiff, Nat.reduceEqDiff, Nat.reduceLT, and_true, true_and, and_self, if_true, if_false, ne_eq, not_false_eq_true, not_true_eq_false, or_false, false_or, or_true, true_or, false_and, and_false, reduceIte, reduceCtorEq, xB, ite_not, xretf_zc, xretf_c, xcont_c, xbd, p9_inL, hp]
theorem pr_lost (h : Cp I J) (k : Int32) : Pair L FX8_lost FX9_lost [.int k] I J := by
  obtain ⟨n, d, yr, hR⟩ := h.2.2.2.2.2.2.1
  obtain ⟨hM, hC, hE⟩ := RC_M hR
  have hn := hM.1
  have h1 := hC.2.1
  have hy0 := h.2.2.2.2.2.1
  by_cases hk : nI 0 ≤ k ∧ k < nI n
  · obtain ⟨a, ha, rfl⟩ := (Am_iff (by omega)).mp hk
    obtain ⟨⟨q1, q2, q3, q4, q5⟩, q6⟩ := hE a ha
    have hsh := fun y => shC_lt hC ha y
    have how := (hC.2.2.2.2 a ha).2.2.2.1
    have k1 := kNam a (by omega)
    have e : ¬ 26 + a = 0 := by omega
    have g4 : I 78 (10 + 7 * a + 4) = nI (cv I a 3) := by rw [show 10 + 7 * a + 4 = 14 + 7 * a by omega, (hM.2.2 a ha).2.2.2.2.2.1.1, q3]
    generalize hf : (fun y => !decide (fstv (rcC I yr y (shC I yr y a)) (fun k => nI (cv I k 3)) (-9) 0 n = nI (cv I a 3))) = f
    have hfd : ∀ y, (fstv (rcC I yr y (shC I yr y a)) (fun k => nI (cv I k 3)) (-9) 0 n = nI (cv I a 3)) ↔ ¬ f y = true := fun y => by rw [← hf]; simp
    refine ⟨.int (fstv f nI (-9) 0 7), I, J, xup I 77 15 (nI 0), J, ?_, ?_, ?_⟩
    · rw [fX8_lost]
      simp (disch := omega) only [eX8_lost, xRl, xG1, xG2, kAll, rAll, nAll, List.map_nil, List.map_cons, List.sum_nil, List.sum_cons, Nat.reduceAdd, Nat.reduceSub, Nat.reduceMul, Nat.reduceLeDiff, Nat.reduceEqDiff, Nat.reduceLT, and_true, true_and, and_self, if_true, if_false, ne_eq, not_false_eq_true, not_true_eq_false, or_false, false_or, or_true, true_or, false_and, and_false, reduceIte, reduceCtorEq, xB, ite_not, xretf_zc, xretf_c, xcont_c, xbd, p8_among, h1, hk]
      have key : ∀ (d y : Nat), y + d = 7 → xD tX8_lost (18, [.ref 1, .int (nI a), .int (nI y)], [], 0, S0 L I J) = some (some (.int (fstv f nI (-9) y d)), S0 L I J) := by
        intro d
        induction d with
        | zero =>
          intro y hy
          rw [hX8_lost_18]
          simp (disch := omega) only [eX8_lost, xRl, xG1, xG2, kAll, rAll, nAll, List.map_nil, List.map_cons, List.sum_nil, List.sum_cons, Nat.reduceAdd, Nat.reduceSub, Nat.reduceMul, Nat.reduceLeDiff, Nat.reduceEqDiff, Nat.reduceLT, and_true, true_and, and_self, if_true, if_false, ne_eq, not_false_eq_true, not_true_eq_false, or_false, false_or, or_true, true_or, false_and, and_false, reduceIte, reduceCtorEq, xB, ite_not, xretf_zc, xretf_c, xcont_c, xbd, nI_leI, nI_ltI]
          first | rw [if_neg (by omega)] | rw [if_pos (by omega)]
          rfl
        | succ d ih =>
          intro y hy
          rw [hX8_lost_18]
          simp (disch := omega) only [eX8_lost, xRl, xG1, xG2, kAll, rAll, nAll, List.map_nil, List.map_cons, List.sum_nil, List.sum_cons, Nat.reduceAdd, Nat.reduceSub, Nat.reduceMul, Nat.reduceLeDiff, Nat.reduceEqDiff, Nat.reduceLT, and_true, true_and, and_self, if_true, if_false, ne_eq, not_false_eq_true, not_true_eq_false, or_false, false_or, or_true, true_or, false_and, and_false, reduceIte, reduceCtorEq, xB, ite_not, xretf_zc, xretf_c, xcont_c, xbd, nI_leI, nI_ltI, p4_shadeOf L I J n yr y a hC ha (by omega), p4_ownerOf L I J n yr y (shC I yr y a) hC (by omega) (hsh y), k1.1, k1.2, e, nI_neg0, cl_nI, how.1, hfd, nI_add]
          first | rw [if_neg (by omega)] | rw [if_pos (by omega)]
          unfold fstv
          split
          · rfl
          · exact ih (y + 1) (by omega)
      rw [key 7 0 rfl]
      simp (disch := omega) only [xRl, xG1, xG2, kAll, rAll, nAll, List.map_nil, List.map_cons, List.sum_nil, List.sum_cons, Nat.reduceAdd, Nat.reduceSub, Nat.reduceMul, Nat.reduceLeDiff, Nat.reduceEqDiff, Nat.reduceLT, and_true, true_and, and_self, if_true, if_false, ne_eq, not_false_eq_true, not_true_eq_false, or_false, false_or, or_true, true_or, false_and, and_false, reduceIte, reduceCtorEq, xB, ite_not, xretf_zc, xretf_c, xcont_c, xbd]
    · rw [fX9_lost]
      simp (disch := omega) only [eX9_lost, xRl, xG1, xG2, kAll, rAll, nAll, List.map_nil, List.map_cons, List.sum_nil, List.sum_cons, Nat.reduceAdd, Nat.reduceSub, Nat.reduceMul, Nat.reduceLeDiff, Nat.reduceEqDiff, Nat.reduceLT, and_true, true_and, and_self, if_true, if_false, ne_eq, not_false_eq_true, not_true_eq_false, or_false, false_or, or_true, true_or, false_and, and_false, reduceIte, reduceCtorEq, xB, ite_not, xretf_zc, xretf_c, xcont_c, xbd, p9_isName L I J n (by omega) hM.2.1, hk]
      have key : ∀ (d y : Nat), y + d = 7 → xD tX9_lost (18, [.ref 77, .int (nI a), .int (-9)], [], 0, S0 L (xup I 77 15 (nI y)) J) = some (some (.int (fstv f nI (-9) y d)), S0 L (xup I 77 15 (nI 0)) J) := by
        intro d
        induction d with
        | zero =>
          intro y hy
          have e2 : xup I 77 15 (nI y) 77 15 = nI y := by rw [xup_self]; simp
          rw [hX9_lost_18]
          simp (disch := omega) only [eX9_lost, xRl, xG1, xG2, kAll, rAll, nAll, List.map_nil, List.map_cons, List.sum_nil, List.sum_cons, Nat.reduceAdd, Nat.reduceSub, Nat.reduceMul, Nat.reduceLeDiff, Nat.reduceEqDiff, Nat.reduceLT, and_true, true_and, and_self, if_true, if_false, ne_eq, not_false_eq_true, not_true_eq_false, or_false, false_or, or_true, true_or, false_and, and_false, reduceIte, reduceCtorEq, xB, ite_not, xretf_zc, xretf_c, xcont_c, xbd, e2, nI_leI, nI_ltI, xup_xup]
          first | rw [if_pos (by omega)] | rw [if_neg (by omega)]
          rfl
        | succ d ih =>
          intro y hy
          have e1 : xup I 77 15 (nI y) 78 = I 78 := xup_ne _ _ _ (by decide)
          have e2 : xup I 77 15 (nI y) 77 15 = nI y := by rw [xup_self]; simp
          have e3 := p9_shadeOf L (xup I 77 15 (nI y)) J n a y (Mok_of hM e1) ha e2 (by omega)
          rw [shM_of e1, q6 y] at e3
          have e4 := p9_ownerOf L (xup I 77 15 (nI y)) J n y (shC I yr y a) (Mok_of hM e1) e2 (by omega) (hsh y)
          simp only [rcM_of e1, mOw, mv, e1] at e4
          have e5 := own_eq I hR y (shC I yr y a)
          simp only [mOw, mv] at e5
          rw [e5] at e4
          have e6 : xup I 77 15 (nI y) 78 (10 + 7 * a + 4) = nI (cv I a 3) := by rw [e1]; exact g4
          rw [hX9_lost_18]
          simp (disch := omega) only [eX9_lost, xRl, xG1, xG2, kAll, rAll, nAll, List.map_nil, List.map_cons, List.sum_nil, List.sum_cons, Nat.reduceAdd, Nat.reduceSub, Nat.reduceMul, Nat.reduceLeDiff, Nat.reduceEqDiff, Nat.reduceLT, and_true, true_and, and_self, if_true, if_false, ne_eq, not_false_eq_true, not_true_eq_false, or_false, false_or, or_true, true_or, false_and, and_false, reduceIte, reduceCtorEq, xB, ite_not, xretf_zc, xretf_c, xcont_c, xbd, e2, nI_leI, nI_ltI, xup_xup, e3, e4, p9_of, e6, hfd, nI_add]
          first | rw [if_neg (by omega)] | rw [if_pos (by omega)]
          unfold fstv
          split
          · have e7 : xup I 77 15 (nI (y + 1)) 77 15 = nI (y + 1) := by rw [xup_self]; simp
            rw [hX9_lost_18]
            simp (disch := omega) only [eX9_lost, xRl, xG1, xG2, kAll, rAll, nAll, List.map_nil, List.map_cons, List.sum_nil, List.sum_cons, Nat.reduceAdd, Nat.reduceSub, Nat.reduceMul, Nat.reduceLeDiff, Nat.reduceEqDiff, Nat.reduceLT, and_true, true_and, and_self, if_true, if_false, ne_eq, not_false_eq_true, not_true_eq_false, or_false, false_or, or_true, true_or, false_and, and_false, reduceIte, reduceCtorEq, xB, ite_not, xretf_zc, xretf_c, xcont_c, xbd, e7, nI_leI, nI_ltI, xup_xup, n9]
            split <;> rfl
          · exact ih (y + 1) (by omega)
      have e0 : S0 L I J = S0 L (xup I 77 15 (nI 0)) J := by rw [← hy0, xup_same]
      first
        | (rw [key 7 0 rfl]; done)
        | (rw [key 7 0 rfl]
           simp (disch := omega) only [xRl, xG1, xG2, kAll, rAll, nAll, List.map_nil, List.map_cons, List.sum_nil, List.sum_cons, Nat.reduceAdd, Nat.reduceSub, Nat.reduceMul, Nat.reduceLeDiff, Nat.reduceEqDiff, Nat.reduceLT, and_true, true_and, and_self, if_true, if_false, ne_eq, not_false_eq_true, not_true_eq_false, or_false, false_or, or_true, true_or, false_and, and_false, reduceIte, reduceCtorEq, xB, ite_not, xretf_zc, xretf_c, xcont_c, xbd])
    · rw [← hy0, xup_same]; exact h
  · refine ⟨.int (-1), I, J, I, J, ?_, ?_, h⟩
    · rw [fX8_lost]
      simp (disch := omega) only [eX8_lost, xRl, xG1, xG2, kAll, rAll, nAll, List.map_nil, List.map_cons, List.sum_nil, List.sum_cons, Nat.reduceAdd, Nat.reduceSub, Nat.reduceMul, Nat.reduceLeDiff, Nat.reduceEqDiff, Nat.reduceLT, and_true, true_and, and_self, if_true, if_false, ne_eq, not_false_eq_true, not_true_eq_false, or_false, false_or, or_true, true_or, false_and, and_false, reduceIte, reduceCtorEq, xB, ite_not, xretf_zc, xretf_c, xcont_c, xbd, p8_among, h1, hk]
    · rw [fX9_lost]
      simp (disch := omega) only [eX9_lost, xRl, xG1, xG2, kAll, rAll, nAll, List.map_nil, List.map_cons, List.sum_nil, List.sum_cons, Nat.reduceAdd, Nat.reduceSub, Nat.reduceMul, Nat.reduceLeDiff, Nat.reduceEqDiff, Nat.reduceLT, and_true, true_and, and_self, if_true, if_false, ne_eq, not_false_eq_true, not_true_eq_false, or_false, false_or, or_true, true_or, false_and, and_false, reduceIte, reduceCtorEq, xB, ite_not, xretf_zc, xretf_c, xcont_c, xbd, p9_isName L I J n (by omega) hM.2.1, hk]
/-- lots -/
def lotN (x : Nat) : Nat → Nat
  | 0 => x
  | k + 1 => lotN x k * 48271 % 2147483647
theorem lotN_lt {x : Nat} (hx : x < 2147483647) : ∀ k, lotN x k < 2147483647
  | 0 => hx
  | k + 1 => Nat.mod_lt _ (by decide)
theorem lc1 : (48271 : Int64) = lN 48271 := rfl
theorem lc2 : (2147483647 : Int64) = lN 2147483647 := rfl
theorem lc3 : (8 : Int64) = lN 8 := rfl
theorem lc4 : (216 : Int64) = lN 216 := rfl
theorem lremB {a b : Nat} : lN a - lN (a / b * b) = lN (a % b) := by
  rw [lN_sub (Nat.div_mul_le_self a b)]
  congr 1
  have := Nat.div_add_mod a b
  rw [Nat.mul_comm] at this
  omega
theorem lremA {a b : Nat} : lN a - lN (a / b) * lN b = lN (a % b) := by rw [lN_mul]; exact lremB
theorem lN_mod216 (y : Nat) : y / 8 % 216 < 216 := Nat.mod_lt _ (by decide)
theorem pr_lots (h : Cp I J) (p m s : Int32) : Pair L FX8_lots FX9_lots [.int p, .int m, .int s] I J := by
  by_cases hp : nI 0 ≤ p ∧ p < nI 4
  · by_cases hm : nI 1 ≤ m ∧ m < nI 41
    · by_cases hs : nI 1 ≤ s ∧ s < nI 2147483647
      · obtain ⟨b, hb, rfl⟩ := (Am_iff (by decide)).mp hp
        obtain ⟨q, hq, rfl⟩ := nI_of (x := m) (Int32.not_lt.mpr (Int32.le_trans (by decide) hm.1))
        obtain ⟨x, hx, rfl⟩ := nI_of (x := s) (Int32.not_lt.mpr (Int32.le_trans (by decide) hs.1))
        have hq1 := (nI_leI (by decide) hq).mp hm.1
        have hq2 := (nI_ltI hq (by decide)).mp hm.2
        have hx1 := (nI_leI (by decide) hx).mp hs.1
        have hx2 := (nI_ltI hx (by decide)).mp hs.2
        obtain ⟨n, d, yr, hR⟩ := h.2.2.2.2.2.2.1
        obtain ⟨hM, hC, hE⟩ := RC_M hR
        generalize hg : (fun s => fstv (rcC I yr 0 s) (oweN (fun k => cv I k 3) (fun k => cv I k 0) (fun k => cv I k 4) b) 0 0 n) = g
        have hgd : ∀ s, fstv (rcC I yr 0 s) (owe (fun k => cv I k 3) (fun k => cv I k 0) (fun k => cv I k 4) b) (nI 0) 0 n = nI (g s) := fun s => by rw [owe_nI, fstv_nI, ← hg]
        have hll := lotN_lt hx2
        refine ⟨.int (nI (sumN (fun i => g (lotN x (i + 1) / 8 % 216)) q)), I, J, I, J, ?_, ?_, h⟩
        · rw [fX8_lots]
          have e1 : lg_cmp (lN x) 2147483647 < nI 0 := (lg_lt _ _).mpr ((lN_lt (b := 2147483647) (by omega) (by decide)).mpr hx2)
          simp (disch := omega) only [eX8_lots, xRl, xG1, xG2, kAll, rAll, nAll, List.map_nil, List.map_cons, List.sum_nil, List.sum_cons, Nat.reduceAdd, Nat.reduceSub, Nat.reduceMul, Nat.reduceLeDiff, Nat.reduceEqDiff, Nat.reduceLT, and_true, true_and, and_self, if_true, if_false, ne_eq, not_false_eq_true, not_true_eq_false, or_false, false_or, or_true, true_or, false_and, and_false, reduceIte, reduceCtorEq, xB, ite_not, xretf_zc, xretf_c, xcont_c, xbd, p8_among, hp, nI_ltI, nI_leI, nI_l]
          rw [if_neg (by omega), if_neg (by omega), if_neg (by omega), if_pos e1]
          have key := xloop (t := tX8_lots) (st := fun i (_ : Unit) => (45, [.ref 1, .int (nI b), .int (nI q), .int (nI x), .long (lN (lotN x i)), .null, .int (nI (sumN (fun i => g (lotN x (i + 1) / 8 % 216)) i)), .int (nI i)], [], 0, S0 L I J)) (g := fun _ _ => ()) (N := q) (Inv := fun _ _ => True) (a0 := ()) trivial (by
            intro i u hi _
            refine ⟨?_, trivial⟩
            have hl1 := hll i
            have hl2 := hll (i + 1)
            have e3 := lN_mod216 (lotN x (i + 1))
            have e4 := p4_owedBy L I J n yr b (lotN x (i + 1) / 8 % 216) hC hb e3
            rw [hgd] at e4
            have e5 : lotN x i * 48271 % 2147483647 = lotN x (i + 1) := rfl
            have e6 : lotN x i * 48271 < 2 ^ 63 := by omega
            show xD tX8_lots (45, _) = _
            rw [hX8_lots_45]
            simp (disch := omega) only [eX8_lots, xRl, xG1, xG2, kAll, rAll, nAll, List.map_nil, List.map_cons, List.sum_nil, List.sum_cons, Nat.reduceAdd, Nat.reduceSub, Nat.reduceMul, Nat.reduceLeDiff, Nat.reduceEqDiff, Nat.reduceLT, and_true, true_and, and_self, if_true, if_false, ne_eq, not_false_eq_true, not_true_eq_false, or_false, false_or, or_true, true_or, false_and, and_false, reduceIte, reduceCtorEq, xB, ite_not, xretf_zc, xretf_c, xcont_c, xbd, nI_leI, lc1, lc2, lc3, lc4, lN_mul, lN_z, pk_lDiv, lremA, lremB, e5, lN_i, e4, nI_add]
            rw [if_neg (by omega)]
            rfl) q (Nat.le_refl q)
          rw [show xD tX8_lots (45, [.ref 1, .int (nI b), .int (nI q), .int (nI x), .long (lN x), .null, .int (nI 0), .int (nI 0)], [], 0, S0 L I J) = _ from key.1, hX8_lots_45]
          simp (disch := omega) only [eX8_lots, xRl, xG1, xG2, kAll, rAll, nAll, List.map_nil, List.map_cons, List.sum_nil, List.sum_cons, Nat.reduceAdd, Nat.reduceSub, Nat.reduceMul, Nat.reduceLeDiff, Nat.reduceEqDiff, Nat.reduceLT, and_true, true_and, and_self, if_true, if_false, ne_eq, not_false_eq_true, not_true_eq_false, or_false, false_or, or_true, true_or, false_and, and_false, reduceIte, reduceCtorEq, xB, ite_not, xretf_zc, xretf_c, xcont_c, xbd, nI_leI]
          rw [if_pos (Nat.le_refl q)]
        · rw [fX9_lots]
          simp (disch := omega) only [eX9_lots, xRl, xG1, xG2, kAll, rAll, nAll, List.map_nil, List.map_cons, List.sum_nil, List.sum_cons, Nat.reduceAdd, Nat.reduceSub, Nat.reduceMul, Nat.reduceLeDiff, Nat.reduceEqDiff, Nat.reduceLT, and_true, true_and, and_self, if_true, if_false, ne_eq, not_false_eq_true, not_true_eq_false, or_false, false_or, or_true, true_or, false_and, and_false, reduceIte, reduceCtorEq, xB, ite_not, xretf_zc, xretf_c, xcont_c, xbd, p9_isPe, hp, p9_inL, hm, hs]
          rw [nI_l hx]
          have key := xloop (t := tX9_lots) (st := fun i (_ : Unit) => (43, [.ref 77, .int (nI b), .int (nI q), .int (nI x), .long (lN (lotN x i)), .null, .int (nI (sumN (fun i => g (lotN x (i + 1) / 8 % 216)) i)), .int (nI i)], [], 0, S0 L I J)) (g := fun _ _ => ()) (N := q) (Inv := fun _ _ => True) (a0 := ()) trivial (by
            intro i u hi _
            refine ⟨?_, trivial⟩
            have hl1 := hll i
            have hl2 := hll (i + 1)
            have e3 := lN_mod216 (lotN x (i + 1))
            have e4 := p9_dueFor L I J n b (lotN x (i + 1) / 8 % 216) hM h.2.2.2.2.2.1 hb e3
            rw [owe_eq I hR, hgd] at e4
            have e5 : lotN x i * 48271 % 2147483647 = lotN x (i + 1) := rfl
            have e6 : lotN x i * 48271 < 2 ^ 63 := by omega
            show xD tX9_lots (43, _) = _
            rw [hX9_lots_43]
            simp (disch := omega) only [eX9_lots, xRl, xG1, xG2, kAll, rAll, nAll, List.map_nil, List.map_cons, List.sum_nil, List.sum_cons, Nat.reduceAdd, Nat.reduceSub, Nat.reduceMul, Nat.reduceLeDiff, Nat.reduceEqDiff, Nat.reduceLT, and_true, true_and, and_self, if_true, if_false, ne_eq, not_false_eq_true, not_true_eq_false, or_false, false_or, or_true, true_or, false_and, and_false, reduceIte, reduceCtorEq, xB, ite_not, xretf_zc, xretf_c, xcont_c, xbd, nI_leI, lc1, lc2, lc3, lc4, lN_mul, lN_z, pk_lDiv, lremA, lremB, e5, lN_i, e4, nI_add]
            rw [if_neg (by omega)]
            rfl) q (Nat.le_refl q)
          rw [show xD tX9_lots (43, [.ref 77, .int (nI b), .int (nI q), .int (nI x), .long (lN x), .null, .int (nI 0), .int (nI 0)], [], 0, S0 L I J) = _ from key.1, hX9_lots_43]
          simp (disch := omega) only [eX9_lots, xRl, xG1, xG2, kAll, rAll, nAll, List.map_nil, List.map_cons, List.sum_nil, List.sum_cons, Nat.reduceAdd, Nat.reduceSub, Nat.reduceMul, Nat.reduceLeDiff, Nat.reduceEqDiff, Nat.reduceLT, and_true, true_and, and_self, if_true, if_false, ne_eq, not_false_eq_true, not_true_eq_false, or_false, false_or, or_true, true_or, false_and, and_false, reduceIte, reduceCtorEq, xB, ite_not, xretf_zc, xretf_c, xcont_c, xbd, nI_leI]
          rw [if_pos (Nat.le_refl q)]
      · refine ⟨.int (-1), I, J, I, J, ?_, ?_, h⟩
        · rw [fX8_lots]
          simp (disch := omega) only [eX8_lots, xRl, xG1, xG2, kAll, rAll, nAll, List.map_nil, List.map_cons, List.sum_nil, List.sum_cons, Nat.reduceAdd, Nat.reduceSub, Nat.reduceMul, Nat.reduceLeDiff, Nat.reduceEqDiff, Nat.reduceLT, and_true, true_and, and_self, if_true, if_false, ne_eq, not_false_eq_true, not_true_eq_false, or_false, false_or, or_true, true_or, false_and, and_false, reduceIte, reduceCtorEq, xB, ite_not, xretf_zc, xretf_c, xcont_c, xbd, p8_among, hp]
          repeat' split
          all_goals first | rfl | skip
          rename_i g1 g2 g3 g4
          exfalso
          refine hs ⟨Int32.not_lt.mp g3, ?_⟩
          have g5 := (lg_lt _ _).mp g4
          rw [show (2147483647 : Int64) = (nI 2147483647).toInt64 by decide] at g5
          exact (i64_lt _ _).mp g5
        · rw [fX9_lots]
          simp (disch := omega) only [eX9_lots, xRl, xG1, xG2, kAll, rAll, nAll, List.map_nil, List.map_cons, List.sum_nil, List.sum_cons, Nat.reduceAdd, Nat.reduceSub, Nat.reduceMul, Nat.reduceLeDiff, Nat.reduceEqDiff, Nat.reduceLT, and_true, true_and, and_self, if_true, if_false, ne_eq, not_false_eq_true, not_true_eq_false, or_false, false_or, or_true, true_or, false_and, and_false, reduceIte, reduceCtorEq, xB, ite_not, xretf_zc, xretf_c, xcont_c, xbd, p9_isPe, hp, p9_inL, hm, hs]
    · refine ⟨.int (-1), I, J, I, J, ?_, ?_, h⟩
      · rw [fX8_lots]
        simp (disch := omega) only [eX8_lots, xRl, xG1, xG2, kAll, rAll, nAll, List.map_nil, List.map_cons, List.sum_nil, List.sum_cons, Nat.reduceAdd, Nat.reduceSub, Nat.reduceMul, Nat.reduceLeDiff, Nat.reduceEqDiff, Nat.reduceLT, and_true, true_and, and_self, if_true, if_false, ne_eq, not_false_eq_true, not_true_eq_false, or_false, false_or, or_true, true_or, false_and, and_false, reduceIte, reduceCtorEq, xB, ite_not, xretf_zc, xretf_c, xcont_c, xbd, p8_among, hp]
        by_cases g1 : m < nI 1
        · rw [if_pos g1]
        · have g2 : nI 40 < m := Int32.not_le.mp (fun g => hm ⟨Int32.not_lt.mp g1, (le_lt (by decide)).mp g⟩)
          rw [if_neg g1]
          first | rw [if_pos g2] | rw [if_neg (Int32.not_le.mpr g2)]
      · rw [fX9_lots]
        simp (disch := omega) only [eX9_lots, xRl, xG1, xG2, kAll, rAll, nAll, List.map_nil, List.map_cons, List.sum_nil, List.sum_cons, Nat.reduceAdd, Nat.reduceSub, Nat.reduceMul, Nat.reduceLeDiff, Nat.reduceEqDiff, Nat.reduceLT, and_true, true_and, and_self, if_true, if_false, ne_eq, not_false_eq_true, not_true_eq_false, or_false, false_or, or_true, true_or, false_and, and_false, reduceIte, reduceCtorEq, xB, ite_not, xretf_zc, xretf_c, xcont_c, xbd, p9_isPe, hp, p9_inL, hm]
  · refine ⟨.int (-1), I, J, I, J, ?_, ?_, h⟩
    · rw [fX8_lots]
      simp (disch := omega) only [eX8_lots, xRl, xG1, xG2, kAll, rAll, nAll, List.map_nil, List.map_cons, List.sum_nil, List.sum_cons, Nat.reduceAdd, Nat.reduceSub, Nat.reduceMul, Nat.reduceLeDiff, Nat.reduceEqDiff, Nat.reduceLT, and_true, true_and, and_self, if_true, if_false, ne_eq, not_false_eq_true, not_true_eq_false, or_false, false_or, or_true, true_or, false_and, and_false, reduceIte, reduceCtorEq, xB, ite_not, xretf_zc, xretf_c, xcont_c, xbd, p8_among, hp]
    · rw [fX9_lots]
      simp (disch := omega) only [eX9_lots, xRl, xG1, xG2, kAll, rAll, nAll, List.map_nil, List.map_cons, List.sum_nil, List.sum_cons, Nat.reduceAdd, Nat.reduceSub, Nat.reduceMul, Nat.reduceLeDiff, Nat.reduceEqDiff, Nat.reduceLT, and_true, true_and, and_self, if_true, if_false, ne_eq, not_false_eq_true, not_true_eq_false, or_false, false_or, or_true, true_or, false_and, and_false, reduceIte, reduceCtorEq, xB, ite_not, xretf_zc, xretf_c, xcont_c, xbd, p9_isPe, hp]
end M1
