/-! mix, cheap: coupled -/
def owf (I : Nat → Nat → Int32) (n yr p s : Nat) : Int32 := fstv (rcC I yr 0 s) (owe (fun k => cv I k 3) (fun k => cv I k 0) (fun k => cv I k 4) p) (nI 0) 0 n
theorem owf_of {I I2 : Nat → Nat → Int32} {n yr : Nat} (hn : n ≤ 8) (e : ∀ c, 24 ≤ c ∧ c ≤ 33 → I2 c = I c) (p s : Nat) : owf I2 n yr p s = owf I n yr p s := by
  unfold owf
  refine fstv_congr (fun k _ hk => ⟨rcC_of hn (fun c hc => e c (by omega)) k (by omega), ?_⟩)
  have h1 : I2 (26 + k) = I (26 + k) := e _ (by omega)
  simp only [owe, cv, h1]
section MX
variable (L : Nat) (I : Nat → Nat → Int32) (J : Nat → Nat → Int64)
theorem pr_mix (h : Cp I J) (r x : Int32) : Pair L FX8_mix FX9_mix [.int r, .int x] I J := by
  by_cases hx : nI 0 ≤ x ∧ x < nI 216
  · rcases sh_cases L I J h r 1 4 (by omega) (by omega) with ⟨hr, c1⟩ | ⟨j, hj, rfl, ⟨f, hf, c1, c2, -⟩ | ⟨n, hn40, hn0, hn, z1, z2, hok, c1, c2⟩⟩
    · refine ⟨.int (-1), I, J, I, J, ?_, ?_, h⟩
      · rw [fX8_mix]
        simp (disch := omega) only [eX8_mix, xRl, xG1, xG2, kAll, rAll, nAll, List.map_nil, List.map_cons, List.sum_nil, List.sum_cons, Nat.reduceAdd, Nat.reduceSub, Nat.reduceMul, Nat.reduceLeDiff, Nat.reduceEqDiff, Nat.reduceLT, and_true, true_and, and_self, if_true, if_false, ne_eq, not_false_eq_true, not_true_eq_false, or_false, false_or, or_true, true_or, false_and, and_false, reduceIte, reduceCtorEq, xB, ite_not, xretf_zc, xretf_c, xcont_c, xbd, p8_among, hx, c1, m1_0]
      · rw [fX9_mix]
        simp (disch := omega) only [eX9_mix, xRl, xG1, xG2, kAll, rAll, nAll, List.map_nil, List.map_cons, List.sum_nil, List.sum_cons, Nat.reduceAdd, Nat.reduceSub, Nat.reduceMul, Nat.reduceLeDiff, Nat.reduceEqDiff, Nat.reduceLT, and_true, true_and, and_self, if_true, if_false, ne_eq, not_false_eq_true, not_true_eq_false, or_false, false_or, or_true, true_or, false_and, and_false, reduceIte, reduceCtorEq, xB, ite_not, xretf_zc, xretf_c, xcont_c, xbd, p9_isRow, hr]
    · refine ⟨.int (-3), fnC I f, J, fnM (fnC I f) f, J, ?_, ?_, Cp_find h hf⟩
      · rw [fX8_mix]
        simp (disch := omega) only [eX8_mix, xRl, xG1, xG2, kAll, rAll, nAll, List.map_nil, List.map_cons, List.sum_nil, List.sum_cons, Nat.reduceAdd, Nat.reduceSub, Nat.reduceMul, Nat.reduceLeDiff, Nat.reduceEqDiff, Nat.reduceLT, and_true, true_and, and_self, if_true, if_false, ne_eq, not_false_eq_true, not_true_eq_false, or_false, false_or, or_true, true_or, false_and, and_false, reduceIte, reduceCtorEq, xB, ite_not, xretf_zc, xretf_c, xcont_c, xbd, p8_among, hx, c1, m3_0]
      · rw [fX9_mix]
        simp (disch := omega) only [eX9_mix, xRl, xG1, xG2, kAll, rAll, nAll, List.map_nil, List.map_cons, List.sum_nil, List.sum_cons, Nat.reduceAdd, Nat.reduceSub, Nat.reduceMul, Nat.reduceLeDiff, Nat.reduceEqDiff, Nat.reduceLT, and_true, true_and, and_self, if_true, if_false, ne_eq, not_false_eq_true, not_true_eq_false, or_false, false_or, or_true, true_or, false_and, and_false, reduceIte, reduceCtorEq, xB, ite_not, xretf_zc, xretf_c, xcont_c, xbd, p9_isRow, z_le, lt_t, p9_isSh, hx, c2, m3_0]
    · obtain ⟨sh, hsh, rfl⟩ := (Am_iff (by decide)).mp hx
      have hv := okR_t (by decide) hok
      generalize hvv : (fun i => tn (I (4 + 2 * j) i)) = v
      have hv2 : ∀ i, i < n → I (4 + 2 * j) i = nI (v i) ∧ v i < 216 := fun i hi => by rw [← hvv]; exact hv i hi
      obtain ⟨k1, k2, k3, k4⟩ := kRow j hj
      have e : ¬ 3 + 2 * j = 0 := by omega
      have key := xloop (t := tX8_mix) (st := fun i (_ : Unit) => (29, [.ref 1, .int (nI j), .int (nI sh), .int (nI 0), .int (nI i)], [], 0, S0 L (fw I 75 i (fun s => if decide (s = sh) = true then nI 1 else nI 0)) J)) (g := fun _ _ => ()) (N := 216) (Inv := fun _ _ => True) (a0 := ()) trivial (by
        intro i u hi _
        refine ⟨?_, trivial⟩
        have hnle : ¬ 216 ≤ i := by omega
        show xD tX8_mix (29, _) = _
        rw [hX8_mix_29, ← fw_s]
        by_cases his : i = sh
        · have hd : (decide (i = sh) = true) = True := eq_true (by simpa using his)
          have hie : (i = sh) = True := eq_true his
          simp only [hd, if_true]
          simp (disch := omega) only [eX8_mix, xRl, xG1, xG2, kAll, rAll, nAll, List.map_nil, List.map_cons, List.sum_nil, List.sum_cons, Nat.reduceAdd, Nat.reduceSub, Nat.reduceMul, Nat.reduceLeDiff, Nat.reduceEqDiff, Nat.reduceLT, and_true, true_and, and_self, if_true, if_false, ne_eq, not_false_eq_true, not_true_eq_false, or_false, false_or, or_true, true_or, false_and, and_false, reduceIte, reduceCtorEq, xB, ite_not, xretf_zc, xretf_c, xcont_c, xbd, nI_leI, hnle, nI_neg0, cl_nI, nI_eq, hie, b01, nI_add]
        · have hd : (decide (i = sh) = true) = False := eq_false (by simpa using his)
          simp only [hd, if_false]
          simp (disch := omega) only [eX8_mix, xRl, xG1, xG2, kAll, rAll, nAll, List.map_nil, List.map_cons, List.sum_nil, List.sum_cons, Nat.reduceAdd, Nat.reduceSub, Nat.reduceMul, Nat.reduceLeDiff, Nat.reduceEqDiff, Nat.reduceLT, and_true, true_and, and_self, if_true, if_false, ne_eq, not_false_eq_true, not_true_eq_false, or_false, false_or, or_true, true_or, false_and, and_false, reduceIte, reduceCtorEq, xB, ite_not, xretf_zc, xretf_c, xcont_c, xbd, nI_leI, hnle, nI_neg0, cl_nI, nI_eq, his, b00, nI_add]) 216 (Nat.le_refl 216)
      have k0 := key.1
      simp only [fw_0] at k0
      generalize hIa : fw I 75 216 (fun s => if decide (s = sh) = true then nI 1 else nI 0) = Ia at k0
      have oa : ∀ c, c ≠ 75 → Ia c = I c := fun c hc => by rw [← hIa, fw_ne _ _ _ hc]
      obtain ⟨y, I1, f1, f2, f3⟩ := p3_fewest L J Ia (v := v) (W := fun s => decide (s = sh)) hj hn (by rw [oa _ (by omega)]; exact z1) (fun s hs => by rw [← hIa, fw_in _ _ hs]) (fun k hk => by rw [oa _ (by omega)]; exact hv2 k hk)
      have o1 : ∀ c, c ≠ 72 → c ≠ 73 → c ≠ 75 → I1 c = I c := fun c g1 g2 g3 => by rw [f2 c g1 g2, oa c g3]
      have q79 : I1 79 = I 79 := o1 79 (by decide) (by decide) (by decide)
      have q80 : I1 80 = I 80 := o1 80 (by decide) (by decide) (by decide)
      obtain ⟨I2, A, g1, g2, g3, g4, g5⟩ := p9_layMixed L J I1 (v := v) hj (by omega) hn (by rw [q79]; exact z2) (fun k hk => by rw [q80, ← (h.1 j hj).2.2 k (by omega)]; exact hv2 k hk)
      have c3 := c2 I1 q79 q80
      have hA := g4 sh hsh
      have hA9 := hA.1
      have ey : y = if A sh = 9 then -9 else nI (A sh) := by
        rcases f3 with ⟨rfl, f3⟩ | ⟨t, s, t1, t2, rfl, -, t4, t5, -, t7⟩
        · rw [if_pos]
          rcases Nat.lt_or_ge (A sh) 9 with h9 | h9
          · exact absurd (hA.2 h9).2 (f3 _ (by have := (hA.2 h9).1; omega) sh (by simp))
          · omega
        · have hss : s = sh := by simpa using t4
          subst hss
          have h1 := g5 t t1 s t5
          have h2 := hA.2 (by omega)
          have h3 : ¬ A s < t := fun q => t7 _ q s (by simp) h2.2
          have h4 : A s = t := by omega
          rw [if_neg (by omega), h4]
      refine ⟨.int y, I1, J, I2, J, ?_, ?_, ?_⟩
      · rw [fX8_mix]
        simp (disch := omega) only [eX8_mix, xRl, xG1, xG2, kAll, rAll, nAll, List.map_nil, List.map_cons, List.sum_nil, List.sum_cons, Nat.reduceAdd, Nat.reduceSub, Nat.reduceMul, Nat.reduceLeDiff, Nat.reduceEqDiff, Nat.reduceLT, and_true, true_and, and_self, if_true, if_false, ne_eq, not_false_eq_true, not_true_eq_false, or_false, false_or, or_true, true_or, false_and, and_false, reduceIte, reduceCtorEq, xB, ite_not, xretf_zc, xretf_c, xcont_c, xbd, p8_among, hx, c1]
        rw [k0, hX8_mix_29]
        simp (disch := omega) only [eX8_mix, xRl, xG1, xG2, kAll, rAll, nAll, List.map_nil, List.map_cons, List.sum_nil, List.sum_cons, Nat.reduceAdd, Nat.reduceSub, Nat.reduceMul, Nat.reduceLeDiff, Nat.reduceEqDiff, Nat.reduceLT, and_true, true_and, and_self, if_true, if_false, ne_eq, not_false_eq_true, not_true_eq_false, or_false, false_or, or_true, true_or, false_and, and_false, reduceIte, reduceCtorEq, xB, ite_not, xretf_zc, xretf_c, xcont_c, xbd, nI_leI, k1, k3, e, nI_neg0, cl_nI, f1]
      · have r1 := g3 sh hsh
        rw [fX9_mix, ey]
        by_cases h9 : A sh = 9
        · simp (disch := omega) only [eX9_mix, xRl, xG1, xG2, kAll, rAll, nAll, List.map_nil, List.map_cons, List.sum_nil, List.sum_cons, Nat.reduceAdd, Nat.reduceSub, Nat.reduceMul, Nat.reduceLeDiff, Nat.reduceEqDiff, Nat.reduceLT, and_true, true_and, and_self, if_true, if_false, ne_eq, not_false_eq_true, not_true_eq_false, or_false, false_or, or_true, true_or, false_and, and_false, reduceIte, reduceCtorEq, xB, ite_not, xretf_zc, xretf_c, xcont_c, xbd, p9_isRow, z_le, lt_t, p9_isSh, hx, c3, g1, nI_neg0, cl_nI, r1, h9]
        · simp (disch := omega) only [eX9_mix, xRl, xG1, xG2, kAll, rAll, nAll, List.map_nil, List.map_cons, List.sum_nil, List.sum_cons, Nat.reduceAdd, Nat.reduceSub, Nat.reduceMul, Nat.reduceLeDiff, Nat.reduceEqDiff, Nat.reduceLT, and_true, true_and, and_self, if_true, if_false, ne_eq, not_false_eq_true, not_true_eq_false, or_false, false_or, or_true, true_or, false_and, and_false, reduceIte, reduceCtorEq, xB, ite_not, xretf_zc, xretf_c, xcont_c, xbd, p9_isRow, z_le, lt_t, p9_isSh, hx, c3, g1, nI_neg0, cl_nI, r1, nI_eq, h9]
      · have o2 : ∀ c, c ≠ 72 → c ≠ 73 → c ≠ 75 → c ≠ 87 → c ≠ 88 → I2 c = I c := fun c g1 g2' g3 g4 g5 => by rw [g2 c g4 g5, o1 c g1 g2' g3]
        have o3 : I2 1 = I 1 := o2 1 (by decide) (by decide) (by decide) (by decide) (by decide)
        have o4 : I2 77 = I 77 := o2 77 (by decide) (by decide) (by decide) (by decide) (by decide)
        exact Cp_gen h (fun c hc => o2 c (by omega) (by omega) (by omega) (by omega) (by omega)) (by rw [o3]) (by rw [o4]) (by rw [o4]) (by rw [o3, o4]; exact h.2.2.2.1)
  · refine ⟨.int (-1), I, J, I, J, ?_, ?_, h⟩
    · rw [fX8_mix]
      simp (disch := omega) only [eX8_mix, xRl, xG1, xG2, kAll, rAll, nAll, List.map_nil, List.map_cons, List.sum_nil, List.sum_cons, Nat.reduceAdd, Nat.reduceSub, Nat.reduceMul, Nat.reduceLeDiff, Nat.reduceEqDiff, Nat.reduceLT, and_true, true_and, and_self, if_true, if_false, ne_eq, not_false_eq_true, not_true_eq_false, or_false, false_or, or_true, true_or, false_and, and_false, reduceIte, reduceCtorEq, xB, ite_not, xretf_zc, xretf_c, xcont_c, xbd, p8_among, hx]
    · rw [fX9_mix]
      by_cases hr : nI 0 ≤ r ∧ r < nI 6
      · simp (disch := omega) only [eX9_mix, xRl, xG1, xG2, kAll, rAll, nAll, List.map_nil, List.map_cons, List.sum_nil, List.sum_cons, Nat.reduceAdd, Nat.reduceSub, Nat.reduceMul, Nat.reduceLeDiff, Nat.reduceEqDiff, Nat.reduceLT, and_true, true_and, and_self, if_true, if_false, ne_eq, not_false_eq_true, not_true_eq_false, or_false, false_or, or_true, true_or, false_and, and_false, reduceIte, reduceCtorEq, xB, ite_not, xretf_zc, xretf_c, xcont_c, xbd, p9_isRow, hr, p9_isSh, hx]
      · simp (disch := omega) only [eX9_mix, xRl, xG1, xG2, kAll, rAll, nAll, List.map_nil, List.map_cons, List.sum_nil, List.sum_cons, Nat.reduceAdd, Nat.reduceSub, Nat.reduceMul, Nat.reduceLeDiff, Nat.reduceEqDiff, Nat.reduceLT, and_true, true_and, and_self, if_true, if_false, ne_eq, not_false_eq_true, not_true_eq_false, or_false, false_or, or_true, true_or, false_and, and_false, reduceIte, reduceCtorEq, xB, ite_not, xretf_zc, xretf_c, xcont_c, xbd, p9_isRow, hr]
theorem pr_cheap (h : Cp I J) (r x : Int32) : Pair L FX8_cheap FX9_cheap [.int r, .int x] I J := by
  by_cases hx : nI 0 ≤ x ∧ x < nI 4
  · rcases sh_cases L I J h r 1 4 (by omega) (by omega) with ⟨hr, c1⟩ | ⟨j, hj, rfl, ⟨f, hf, c1, c2, -⟩ | ⟨n, hn40, hn0, hn, z1, z2, hok, c1, c2⟩⟩
    · refine ⟨.int (-1), I, J, I, J, ?_, ?_, h⟩
      · rw [fX8_cheap]
        simp (disch := omega) only [eX8_cheap, xRl, xG1, xG2, kAll, rAll, nAll, List.map_nil, List.map_cons, List.sum_nil, List.sum_cons, Nat.reduceAdd, Nat.reduceSub, Nat.reduceMul, Nat.reduceLeDiff, Nat.reduceEqDiff, Nat.reduceLT, and_true, true_and, and_self, if_true, if_false, ne_eq, not_false_eq_true, not_true_eq_false, or_false, false_or, or_true, true_or, false_and, and_false, reduceIte, reduceCtorEq, xB, ite_not, xretf_zc, xretf_c, xcont_c, xbd, p8_among, hx, c1, m1_0]
      · rw [fX9_cheap]
        simp (disch := omega) only [eX9_cheap, xRl, xG1, xG2, kAll, rAll, nAll, List.map_nil, List.map_cons, List.sum_nil, List.sum_cons, Nat.reduceAdd, Nat.reduceSub, Nat.reduceMul, Nat.reduceLeDiff, Nat.reduceEqDiff, Nat.reduceLT, and_true, true_and, and_self, if_true, if_false, ne_eq, not_false_eq_true, not_true_eq_false, or_false, false_or, or_true, true_or, false_and, and_false, reduceIte, reduceCtorEq, xB, ite_not, xretf_zc, xretf_c, xcont_c, xbd, p9_isRow, hr]
    · refine ⟨.int (-3), fnC I f, J, fnM (fnC I f) f, J, ?_, ?_, Cp_find h hf⟩
      · rw [fX8_cheap]
        simp (disch := omega) only [eX8_cheap, xRl, xG1, xG2, kAll, rAll, nAll, List.map_nil, List.map_cons, List.sum_nil, List.sum_cons, Nat.reduceAdd, Nat.reduceSub, Nat.reduceMul, Nat.reduceLeDiff, Nat.reduceEqDiff, Nat.reduceLT, and_true, true_and, and_self, if_true, if_false, ne_eq, not_false_eq_true, not_true_eq_false, or_false, false_or, or_true, true_or, false_and, and_false, reduceIte, reduceCtorEq, xB, ite_not, xretf_zc, xretf_c, xcont_c, xbd, p8_among, hx, c1, m3_0]
      · rw [fX9_cheap]
        simp (disch := omega) only [eX9_cheap, xRl, xG1, xG2, kAll, rAll, nAll, List.map_nil, List.map_cons, List.sum_nil, List.sum_cons, Nat.reduceAdd, Nat.reduceSub, Nat.reduceMul, Nat.reduceLeDiff, Nat.reduceEqDiff, Nat.reduceLT, and_true, true_and, and_self, if_true, if_false, ne_eq, not_false_eq_true, not_true_eq_false, or_false, false_or, or_true, true_or, false_and, and_false, reduceIte, reduceCtorEq, xB, ite_not, xretf_zc, xretf_c, xcont_c, xbd, p9_isRow, z_le, lt_t, p9_isPe, hx, c2, m3_0]
    · obtain ⟨p, hp, rfl⟩ := (Am_iff (by decide)).mp hx
      obtain ⟨nn, d, yr, hR⟩ := h.2.2.2.2.2.2.1
      obtain ⟨hM, hC, hE⟩ := RC_M hR
      have hnn := hM.1
      have hy0 := h.2.2.2.2.2.1
      have hv := okR_t (by decide) hok
      generalize hvv : (fun i => tn (I (4 + 2 * j) i)) = v
      have hv2 : ∀ i, i < n → I (4 + 2 * j) i = nI (v i) ∧ v i < 216 := fun i hi => by rw [← hvv]; exact hv i hi
      obtain ⟨k1, k2, k3, k4⟩ := kRow j hj
      have e : ¬ 3 + 2 * j = 0 := by omega
      generalize hW : (fun s => decide (owf I nn yr p s = nI 0)) = W
      have hWt : ∀ s, (W s = true) = (owf I nn yr p s = nI 0) := fun s => by rw [← hW]; simp
      have key := xloop (t := tX8_cheap) (st := fun i (_ : Unit) => (27, [.ref 1, .int (nI j), .int (nI p), .int (nI 0), .int (nI i)], [], 0, S0 L (fw I 75 i (fun s => if W s = true then nI 1 else nI 0)) J)) (g := fun _ _ => ()) (N := 216) (Inv := fun _ _ => True) (a0 := ()) trivial (by
        intro i u hi _
        refine ⟨?_, trivial⟩
        have hnle : ¬ 216 ≤ i := by omega
        have oc : ∀ c, 24 ≤ c ∧ c ≤ 33 → fw I 75 i (fun s => if W s = true then nI 1 else nI 0) c = I c := fun c hc => fw_ne _ _ _ (by omega)
        have e1 : FX4_owedBy [.ref 24, .int (nI p), .int (nI i)] (S0 L (fw I 75 i (fun s => if W s = true then nI 1 else nI 0)) J) = some (some (.int (owf (fw I 75 i (fun s => if W s = true then nI 1 else nI 0)) nn yr p i)), S0 L (fw I 75 i (fun s => if W s = true then nI 1 else nI 0)) J) := p4_owedBy L _ J nn yr p i (Cok_of hC oc) hp hi
        rw [owf_of hnn oc] at e1
        show xD tX8_cheap (27, _) = _
        rw [hX8_cheap_27, ← fw_s]
        by_cases his : owf I nn yr p i = nI 0
        · have hd : (W i = true) = True := by rw [hWt]; exact eq_true his
          simp only [hd, if_true]
          simp (disch := omega) only [eX8_cheap, xRl, xG1, xG2, kAll, rAll, nAll, List.map_nil, List.map_cons, List.sum_nil, List.sum_cons, Nat.reduceAdd, Nat.reduceSub, Nat.reduceMul, Nat.reduceLeDiff, Nat.reduceEqDiff, Nat.reduceLT, and_true, true_and, and_self, if_true, if_false, ne_eq, not_false_eq_true, not_true_eq_false, or_false, false_or, or_true, true_or, false_and, and_false, reduceIte, reduceCtorEq, xB, ite_not, xretf_zc, xretf_c, xcont_c, xbd, nI_leI, hnle, nI_neg0, cl_nI, e1, his, b01, nI_add]
        · have hd : (W i = true) = False := by rw [hWt]; exact eq_false his
          simp only [hd, if_false]
          simp (disch := omega) only [eX8_cheap, xRl, xG1, xG2, kAll, rAll, nAll, List.map_nil, List.map_cons, List.sum_nil, List.sum_cons, Nat.reduceAdd, Nat.reduceSub, Nat.reduceMul, Nat.reduceLeDiff, Nat.reduceEqDiff, Nat.reduceLT, and_true, true_and, and_self, if_true, if_false, ne_eq, not_false_eq_true, not_true_eq_false, or_false, false_or, or_true, true_or, false_and, and_false, reduceIte, reduceCtorEq, xB, ite_not, xretf_zc, xretf_c, xcont_c, xbd, nI_leI, hnle, nI_neg0, cl_nI, e1, his, b00, nI_add]) 216 (Nat.le_refl 216)
      have k0 := key.1
      simp only [fw_0] at k0
      generalize hIa : fw I 75 216 (fun s => if W s = true then nI 1 else nI 0) = Ia at k0
      have oa : ∀ c, c ≠ 75 → Ia c = I c := fun c hc => by rw [← hIa, fw_ne _ _ _ hc]
      obtain ⟨y, I1, f1, f2, f3⟩ := p3_fewest L J Ia (v := v) (W := W) hj hn (by rw [oa _ (by omega)]; exact z1) (fun s hs => by rw [← hIa, fw_in _ _ hs]) (fun k hk => by rw [oa _ (by omega)]; exact hv2 k hk)
      have o1 : ∀ c, c ≠ 72 → c ≠ 73 → c ≠ 75 → I1 c = I c := fun c g1 g2 g3 => by rw [f2 c g1 g2, oa c g3]
      -- what the reference does, from wherever the class left off
      have ref : ∀ I3 : Nat → Nat → Int32, (∀ c, c ≠ 1 → c ≠ 72 → c ≠ 73 → c ≠ 75 → I3 c = I c) → ∃ I2 : Nat → Nat → Int32, ∃ u : Int32, FX9_cheap [.ref 77, .int (nI j), .int (nI p)] (S0 L I3 J) = some (some (.int y), S0 L (xup I2 77 5 u) J) ∧ (∀ c, c ≠ 87 → c ≠ 88 → I2 c = I3 c) ∧ ((y = -9 ∧ u = I 77 5) ∨ (y ≠ -9 ∧ u = I1 72 1)) := by
        intro I3 o3
        have q79 : I3 79 = I 79 := o3 79 (by decide) (by decide) (by decide) (by decide)
        have q80 : I3 80 = I 80 := o3 80 (by decide) (by decide) (by decide) (by decide)
        obtain ⟨I2, A, g1, g2, g3, g4, g5⟩ := p9_layMixed L J I3 (v := v) hj (by omega) hn (by rw [q79]; exact z2) (fun k hk => by rw [q80, ← (h.1 j hj).2.2 k (by omega)]; exact hv2 k hk)
        have c3 := c2 I3 q79 q80
        have o2 : ∀ c, c ≠ 1 → c ≠ 72 → c ≠ 73 → c ≠ 75 → c ≠ 87 → c ≠ 88 → I2 c = I c := fun c a1 a2 a3 a4 a5 a6 => by rw [g2 c a5 a6, o3 c a1 a2 a3 a4]
        have o77 : I2 77 = I 77 := o2 77 (by decide) (by decide) (by decide) (by decide) (by decide) (by decide)
        obtain ⟨⟨u, t, w⟩, ⟨hT, hw⟩, lp⟩ := xloopE (α := Int32 × Nat × Value) (t := tX9_cheap) (st := fun s a => (42, [.ref 77, .int (nI j), .int (nI p), .int (nI 0), .int (nI a.2.1), .int (nI s), a.2.2], [], 0, S0 L (xup I2 77 5 a.1) J)) (N := 216) (Inv := fun s a => ((a.2.1 = 9 ∧ a.1 = I 77 5 ∧ ∀ s', s' < s → W s' = true → A s' = 9) ∨ ∃ s0, s0 < s ∧ a.1 = nI s0 ∧ W s0 = true ∧ A s0 = a.2.1 ∧ a.2.1 < 9 ∧ ∀ s', s' < s → W s' = true → a.2.1 ≤ A s' ∧ (A s' = a.2.1 → s0 ≤ s')) ∧ okV a.2.2) (a0 := (I 77 5, 9, .null)) ⟨Or.inl ⟨rfl, rfl, fun s' q => absurd q (by omega)⟩, Or.inl rfl⟩ (by
          rintro s ⟨u, t, w⟩ hs ⟨hT, hw⟩
          simp only at hT hw
          have hA9 := (g4 s hs).1
          have ht9 : t ≤ 9 := by
            rcases hT with ⟨a1, -⟩ | ⟨s0, -, -, -, -, a1, -⟩ <;> omega
          have hnle : ¬ 216 ≤ s := by omega
          have hRx : RC (xup I2 77 5 u) 24 0 nn d yr := RC_of hR (fun c hc => by rw [xup_ne _ _ _ (by omega)]; exact o2 c (by omega) (by omega) (by omega) (by omega) (by omega) (by omega)) (by rw [xup_ne _ _ _ (by decide)]; exact o2 78 (by decide) (by decide) (by decide) (by decide) (by decide) (by decide))
          obtain ⟨hMx, hCx, hEx⟩ := RC_M hRx
          have e1 := p9_dueFor L (xup I2 77 5 u) J nn p s hMx (by rw [xup_self, if_neg (by decide), o77]; exact hy0) hp hs
          rw [owe_eq _ hRx] at e1
          have e1 : FX9_dueFor [.ref 77, .int (nI p), .int (nI s)] (S0 L (xup I2 77 5 u) J) = some (some (.int (owf (xup I2 77 5 u) nn yr p s)), S0 L (xup I2 77 5 u) J) := e1
          rw [owf_of (I := I) hnn (fun c hc => by rw [xup_ne _ _ _ (by omega)]; exact o2 c (by omega) (by omega) (by omega) (by omega) (by omega) (by omega))] at e1
          have e2 : xup I2 77 5 u 88 s = nI (A s) := by rw [xup_o _ _ _ _ (by decide)]; exact g3 s hs
          have e2' : ∀ u, xup I2 77 5 u 88 s = nI (A s) := fun u => by rw [xup_o _ _ _ _ (by decide)]; exact g3 s hs
          have e3 : xup I2 77 5 u 77 5 = u := by rw [xup_self, if_pos rfl]
          by_cases hlt : A s < t
          · have hlt' : (t ≤ A s) = False := eq_false (by omega)
            by_cases his : owf I nn yr p s = nI 0
            · have hWs : W s = true := by rw [hWt]; exact his
              refine ⟨(nI s, A s, .int (nI 1)), ⟨Or.inr ⟨s, by omega, rfl, hWs, rfl, by show A s < 9; omega, fun s' q1 q2 => ?_⟩, Or.inr ⟨_, rfl⟩⟩, ?_⟩
              · show A s ≤ A s' ∧ (A s' = A s → s ≤ s')
                by_cases hq : s' = s
                · subst hq; exact ⟨Nat.le_refl _, fun _ => Nat.le_refl _⟩
                · rcases hT with ⟨a1, a2, a3⟩ | ⟨s0, a1, a2, a3, a4, a5, a6⟩
                  · have := a3 s' (by omega) q2
                    omega
                  · have := (a6 s' (by omega) q2).1
                    omega
              · show xD tX9_cheap (42, [_, _, _, _, _, _, w], _) = _
                rw [hX9_cheap_42]
                rcases hw with rfl | ⟨z, rfl⟩
                all_goals
                  simp (disch := omega) only [eX9_cheap, xRl, xG1, xG2, kAll, rAll, nAll, List.map_nil, List.map_cons, List.sum_nil, List.sum_cons, Nat.reduceAdd, Nat.reduceSub, Nat.reduceMul, Nat.reduceLeDiff, Nat.reduceEqDiff, Nat.reduceLT, and_true, true_and, and_self, if_true, if_false, ne_eq, not_false_eq_true, not_true_eq_false, or_false, false_or, or_true, true_or, false_and, and_false, reduceIte, reduceCtorEq, xB, ite_not, xretf_zc, xretf_c, xcont_c, xbd, nI_leI, hnle, nI_neg0, cl_nI, e2, e2', hlt', e1, his, xup_xup, nI_add]
            · have hWs : ¬ W s = true := by rw [hWt]; exact his
              refine ⟨(u, t, .int (nI 0)), ⟨?_, Or.inr ⟨_, rfl⟩⟩, ?_⟩
              · rcases hT with ⟨a1, a2, a3⟩ | ⟨s0, a1, a2, a3, a4, a5, a6⟩
                · exact Or.inl ⟨a1, a2, fun s' q1 q2 => a3 s' (by have : s' ≠ s := fun q => hWs (q ▸ q2)
                                                                  omega) q2⟩
                · exact Or.inr ⟨s0, by omega, a2, a3, a4, a5, fun s' q1 q2 => a6 s' (by have : s' ≠ s := fun q => hWs (q ▸ q2)
                                                                                        omega) q2⟩
              · show xD tX9_cheap (42, [_, _, _, _, _, _, w], _) = _
                rw [hX9_cheap_42]
                rcases hw with rfl | ⟨z, rfl⟩
                all_goals
                  simp (disch := omega) only [eX9_cheap, xRl, xG1, xG2, kAll, rAll, nAll, List.map_nil, List.map_cons, List.sum_nil, List.sum_cons, Nat.reduceAdd, Nat.reduceSub, Nat.reduceMul, Nat.reduceLeDiff, Nat.reduceEqDiff, Nat.reduceLT, and_true, true_and, and_self, if_true, if_false, ne_eq, not_false_eq_true, not_true_eq_false, or_false, false_or, or_true, true_or, false_and, and_false, reduceIte, reduceCtorEq, xB, ite_not, xretf_zc, xretf_c, xcont_c, xbd, nI_leI, hnle, nI_neg0, cl_nI, e2, e2', e3, hlt', e1, his, xup_xup, nI_add]
          · have hlt' : (t ≤ A s) = True := eq_true (by omega)
            refine ⟨(u, t, .int (nI 0)), ⟨?_, Or.inr ⟨_, rfl⟩⟩, ?_⟩
            · rcases hT with ⟨a1, a2, a3⟩ | ⟨s0, a1, a2, a3, a4, a5, a6⟩
              · refine Or.inl ⟨a1, a2, fun s' q1 q2 => ?_⟩
                by_cases hq : s' = s
                · subst hq; omega
                · exact a3 s' (by omega) q2
              · refine Or.inr ⟨s0, by omega, a2, a3, a4, a5, fun s' q1 q2 => ?_⟩
                by_cases hq : s' = s
                · subst hq
                  show t ≤ A s' ∧ (A s' = t → s0 ≤ s')
                  exact ⟨by omega, fun _ => by omega⟩
                · exact a6 s' (by omega) q2
            · show xD tX9_cheap (42, [_, _, _, _, _, _, w], _) = _
              rw [hX9_cheap_42]
              rcases hw with rfl | ⟨z, rfl⟩
              all_goals
                simp (disch := omega) only [eX9_cheap, xRl, xG1, xG2, kAll, rAll, nAll, List.map_nil, List.map_cons, List.sum_nil, List.sum_cons, Nat.reduceAdd, Nat.reduceSub, Nat.reduceMul, Nat.reduceLeDiff, Nat.reduceEqDiff, Nat.reduceLT, and_true, true_and, and_self, if_true, if_false, ne_eq, not_false_eq_true, not_true_eq_false, or_false, false_or, or_true, true_or, false_and, and_false, reduceIte, reduceCtorEq, xB, ite_not, xretf_zc, xretf_c, xcont_c, xbd, nI_leI, hnle, nI_neg0, cl_nI, e2, e2', e3, hlt', xup_xup, nI_add]) 216 (Nat.le_refl 216)
        simp only at hT hw
        have ti : xup I2 77 5 (I 77 5) = I2 := by
          funext a b
          by_cases ha : a = 77
          · subst ha
            rw [xup_self]
            split
            · rename_i hb; rw [hb, o77]
            · rfl
          · rw [xup_o _ _ _ _ ha]
        have ht9 : t ≤ 9 := by
          rcases hT with ⟨a1, -⟩ | ⟨s0, -, -, -, -, a1, -⟩ <;> omega
        have res : y = (if t = 9 then -9 else nI t) ∧ ((y = -9 ∧ u = I 77 5) ∨ (y ≠ -9 ∧ u = I1 72 1)) := by
          rcases f3 with ⟨rfl, f3⟩ | ⟨t1, s, b1, b2, rfl, b3, b4, b5, b6, b7⟩
          · rcases hT with ⟨a1, a2, a3⟩ | ⟨s0, a1, a2, a3, a4, a5, a6⟩
            · exact ⟨by rw [if_pos a1], Or.inl ⟨rfl, a2⟩⟩
            · have q := (g4 s0 a1).2 (by omega)
              exact absurd q.2 (f3 _ (by omega) s0 a3)
          · have q1 := g5 t1 b1 s b5
            have q2 := (g4 s b2).2 (by omega)
            have q3 : ¬ A s < t1 := fun q => b7 _ q s b4 q2.2
            have hy : nI t1 ≠ -9 := fun q => (n9 (k := t1) (by omega)).mp q
            rcases hT with ⟨a1, a2, a3⟩ | ⟨s0, a1, a2, a3, a4, a5, a6⟩
            · have := a3 s b2 b4
              omega
            · have q4 := a6 s b2 b4
              have q5 := (g4 s0 a1).2 (by omega)
              have q6 : ¬ A s0 < t1 := fun q => b7 _ q s0 a3 q5.2
              have q7 : t = t1 := by omega
              have q8 := b6 s0 a3 (by rw [← q7, ← a4]; exact q5.2)
              have q9 := q4.2 (by omega)
              have q10 : s0 = s := by omega
              exact ⟨by rw [if_neg (by omega), q7], Or.inr ⟨hy, by rw [a2, b3, q10]⟩⟩
        refine ⟨I2, u, ?_, g2, res.2⟩
        rw [fX9_cheap, res.1]
        simp (disch := omega) only [eX9_cheap, xRl, xG1, xG2, kAll, rAll, nAll, List.map_nil, List.map_cons, List.sum_nil, List.sum_cons, Nat.reduceAdd, Nat.reduceSub, Nat.reduceMul, Nat.reduceLeDiff, Nat.reduceEqDiff, Nat.reduceLT, and_true, true_and, and_self, if_true, if_false, ne_eq, not_false_eq_true, not_true_eq_false, or_false, false_or, or_true, true_or, false_and, and_false, reduceIte, reduceCtorEq, xB, ite_not, xretf_zc, xretf_c, xcont_c, xbd, p9_isRow, z_le, lt_t, p9_isPe, hx, c3, g1]
        have lp : xD tX9_cheap (42, [.ref 77, .int (nI j), .int (nI p), .int (nI 0), .int (nI 9), .int (nI 0), .null], [], 0, S0 L (xup I2 77 5 (I 77 5)) J) = _ := lp
        rw [ti] at lp
        rw [lp, hX9_cheap_42]
        by_cases h9 : t = 9
        · rcases hw with rfl | ⟨z, rfl⟩
          all_goals
            simp (disch := omega) only [eX9_cheap, xRl, xG1, xG2, kAll, rAll, nAll, List.map_nil, List.map_cons, List.sum_nil, List.sum_cons, Nat.reduceAdd, Nat.reduceSub, Nat.reduceMul, Nat.reduceLeDiff, Nat.reduceEqDiff, Nat.reduceLT, and_true, true_and, and_self, if_true, if_false, ne_eq, not_false_eq_true, not_true_eq_false, or_false, false_or, or_true, true_or, false_and, and_false, reduceIte, reduceCtorEq, xB, ite_not, xretf_zc, xretf_c, xcont_c, xbd, nI_leI, h9]
        · rcases hw with rfl | ⟨z, rfl⟩
          all_goals
            simp (disch := omega) only [eX9_cheap, xRl, xG1, xG2, kAll, rAll, nAll, List.map_nil, List.map_cons, List.sum_nil, List.sum_cons, Nat.reduceAdd, Nat.reduceSub, Nat.reduceMul, Nat.reduceLeDiff, Nat.reduceEqDiff, Nat.reduceLT, and_true, true_and, and_self, if_true, if_false, ne_eq, not_false_eq_true, not_true_eq_false, or_false, false_or, or_true, true_or, false_and, and_false, reduceIte, reduceCtorEq, xB, ite_not, xretf_zc, xretf_c, xcont_c, xbd, nI_leI, nI_eq, h9]
      have o77 : ∀ (I3 : Nat → Nat → Int32), (∀ c, c ≠ 1 → c ≠ 72 → c ≠ 73 → c ≠ 75 → I3 c = I c) → I3 77 = I 77 := fun I3 o3 => o3 77 (by decide) (by decide) (by decide) (by decide)
      by_cases hy : y = -9
      · obtain ⟨I2, u, m1, m2, m3⟩ := ref I1 (fun c _ a2 a3 a4 => o1 c a2 a3 a4)
        have hu : u = I 77 5 := by
          rcases m3 with ⟨-, a⟩ | ⟨a, -⟩
          · exact a
          · exact absurd hy a
        refine ⟨.int y, I1, J, xup I2 77 5 u, J, ?_, m1, ?_⟩
        · rw [fX8_cheap]
          simp (disch := omega) only [eX8_cheap, xRl, xG1, xG2, kAll, rAll, nAll, List.map_nil, List.map_cons, List.sum_nil, List.sum_cons, Nat.reduceAdd, Nat.reduceSub, Nat.reduceMul, Nat.reduceLeDiff, Nat.reduceEqDiff, Nat.reduceLT, and_true, true_and, and_self, if_true, if_false, ne_eq, not_false_eq_true, not_true_eq_false, or_false, false_or, or_true, true_or, false_and, and_false, reduceIte, reduceCtorEq, xB, ite_not, xretf_zc, xretf_c, xcont_c, xbd, p8_among, hx, c1]
          rw [k0, hX8_cheap_27]
          simp (disch := omega) only [eX8_cheap, xRl, xG1, xG2, kAll, rAll, nAll, List.map_nil, List.map_cons, List.sum_nil, List.sum_cons, Nat.reduceAdd, Nat.reduceSub, Nat.reduceMul, Nat.reduceLeDiff, Nat.reduceEqDiff, Nat.reduceLT, and_true, true_and, and_self, if_true, if_false, ne_eq, not_false_eq_true, not_true_eq_false, or_false, false_or, or_true, true_or, false_and, and_false, reduceIte, reduceCtorEq, xB, ite_not, xretf_zc, xretf_c, xcont_c, xbd, nI_leI, k1, k3, e, nI_neg0, cl_nI, f1, hy]
        · have oo : ∀ c, c ≠ 72 → c ≠ 73 → c ≠ 75 → c ≠ 87 → c ≠ 88 → I2 c = I c := fun c a1 a2 a3 a4 a5 => by rw [m2 c a4 a5, o1 c a1 a2 a3]
          have o4 : I2 77 = I 77 := oo 77 (by decide) (by decide) (by decide) (by decide) (by decide)
          have o5 : I2 1 = I 1 := oo 1 (by decide) (by decide) (by decide) (by decide) (by decide)
          refine Cp_gen h (fun c hc => by rw [xup_ne _ _ _ (by omega)]; exact oo c (by omega) (by omega) (by omega) (by omega) (by omega)) ?_ ?_ ?_ ?_
          · rw [xup_o _ _ _ _ (by decide), o5]
          · rw [xup_self, if_neg (by decide), o4]
          · rw [xup_self, if_neg (by decide), o4]
          · rw [xup_o _ _ _ _ (by decide), xup_self, if_pos rfl, o5, hu]; exact h.2.2.2.1
      · obtain ⟨I2, u, m1, m2, m3⟩ := ref (xup I1 1 10 (I1 72 1)) (fun c a1 a2 a3 a4 => by rw [xup_ne _ _ _ a1]; exact o1 c a2 a3 a4)
        have hu : u = I1 72 1 := by
          rcases m3 with ⟨a, -⟩ | ⟨-, a⟩
          · exact absurd a hy
          · exact a
        refine ⟨.int y, xup I1 1 10 (I1 72 1), J, xup I2 77 5 u, J, ?_, m1, ?_⟩
        · rw [fX8_cheap]
          simp (disch := omega) only [eX8_cheap, xRl, xG1, xG2, kAll, rAll, nAll, List.map_nil, List.map_cons, List.sum_nil, List.sum_cons, Nat.reduceAdd, Nat.reduceSub, Nat.reduceMul, Nat.reduceLeDiff, Nat.reduceEqDiff, Nat.reduceLT, and_true, true_and, and_self, if_true, if_false, ne_eq, not_false_eq_true, not_true_eq_false, or_false, false_or, or_true, true_or, false_and, and_false, reduceIte, reduceCtorEq, xB, ite_not, xretf_zc, xretf_c, xcont_c, xbd, p8_among, hx, c1]
          rw [k0, hX8_cheap_27]
          simp (disch := omega) only [eX8_cheap, xRl, xG1, xG2, kAll, rAll, nAll, List.map_nil, List.map_cons, List.sum_nil, List.sum_cons, Nat.reduceAdd, Nat.reduceSub, Nat.reduceMul, Nat.reduceLeDiff, Nat.reduceEqDiff, Nat.reduceLT, and_true, true_and, and_self, if_true, if_false, ne_eq, not_false_eq_true, not_true_eq_false, or_false, false_or, or_true, true_or, false_and, and_false, reduceIte, reduceCtorEq, xB, ite_not, xretf_zc, xretf_c, xcont_c, xbd, nI_leI, k1, k3, e, nI_neg0, cl_nI, f1, hy]
        · have oo : ∀ c, c ≠ 1 → c ≠ 72 → c ≠ 73 → c ≠ 75 → c ≠ 87 → c ≠ 88 → I2 c = I c := fun c a0 a1 a2 a3 a4 a5 => by rw [m2 c a4 a5, xup_ne _ _ _ a0, o1 c a1 a2 a3]
          have o4 : I2 77 = I 77 := oo 77 (by decide) (by decide) (by decide) (by decide) (by decide) (by decide)
          have o5 : I2 1 = xup I1 1 10 (I1 72 1) 1 := m2 1 (by decide) (by decide)
          have o6 : I1 1 = I 1 := o1 1 (by decide) (by decide) (by decide)
          refine Cp_gen h (fun c hc => by rw [xup_ne _ _ _ (by omega)]; exact oo c (by omega) (by omega) (by omega) (by omega) (by omega) (by omega)) ?_ ?_ ?_ ?_
          · rw [xup_o _ _ _ _ (by decide), o5, xup_self, if_neg (by decide), o6]
          · rw [xup_self, if_neg (by decide), o4]
          · rw [xup_self, if_neg (by decide), o4]
          · rw [xup_o _ _ _ _ (by decide), xup_self, if_pos rfl, o5, xup_self, if_pos rfl, hu]
  · refine ⟨.int (-1), I, J, I, J, ?_, ?_, h⟩
    · rw [fX8_cheap]
      simp (disch := omega) only [eX8_cheap, xRl, xG1, xG2, kAll, rAll, nAll, List.map_nil, List.map_cons, List.sum_nil, List.sum_cons, Nat.reduceAdd, Nat.reduceSub, Nat.reduceMul, Nat.reduceLeDiff, Nat.reduceEqDiff, Nat.reduceLT, and_true, true_and, and_self, if_true, if_false, ne_eq, not_false_eq_true, not_true_eq_false, or_false, false_or, or_true, true_or, false_and, and_false, reduceIte, reduceCtorEq, xB, ite_not, xretf_zc, xretf_c, xcont_c, xbd, p8_among, hx]
    · rw [fX9_cheap]
      by_cases hr : nI 0 ≤ r ∧ r < nI 6
      · simp (disch := omega) only [eX9_cheap, xRl, xG1, xG2, kAll, rAll, nAll, List.map_nil, List.map_cons, List.sum_nil, List.sum_cons, Nat.reduceAdd, Nat.reduceSub, Nat.reduceMul, Nat.reduceLeDiff, Nat.reduceEqDiff, Nat.reduceLT, and_true, true_and, and_self, if_true, if_false, ne_eq, not_false_eq_true, not_true_eq_false, or_false, false_or, or_true, true_or, false_and, and_false, reduceIte, reduceCtorEq, xB, ite_not, xretf_zc, xretf_c, xcont_c, xbd, p9_isRow, hr, p9_isPe, hx]
      · simp (disch := omega) only [eX9_cheap, xRl, xG1, xG2, kAll, rAll, nAll, List.map_nil, List.map_cons, List.sum_nil, List.sum_cons, Nat.reduceAdd, Nat.reduceSub, Nat.reduceMul, Nat.reduceLeDiff, Nat.reduceEqDiff, Nat.reduceLT, and_true, true_and, and_self, if_true, if_false, ne_eq, not_false_eq_true, not_true_eq_false, or_false, false_or, or_true, true_or, false_and, and_false, reduceIte, reduceCtorEq, xB, ite_not, xretf_zc, xretf_c, xcont_c, xbd, p9_isRow, hr]
end MX
