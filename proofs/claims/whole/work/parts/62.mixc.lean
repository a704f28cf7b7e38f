/-! the class's palette -/
theorem p6_mixed {s t : Nat} (hs : s < 216) (ht : t < 216) (σ : xS) : FX6_mixed [.int (nI s), .int (nI t)] σ = some (some (.int (nI (mx s t))), σ) := by
  rw [fX6_mixed]
  simp (disch := omega) only [eX6_mixed, xRl, xG1, xG2, kAll, rAll, nAll, List.map_nil, List.map_cons, List.sum_nil, List.sum_cons, Nat.reduceAdd, Nat.reduceSub, Nat.reduceMul, Nat.reduceLeDiff, Nat.reduceEqDiff, Nat.reduceLT, and_true, true_and, and_self, if_true, if_false, ne_eq, not_false_eq_true, not_true_eq_false, or_false, false_or, or_true, true_or, false_and, and_false, reduceIte, reduceCtorEq, xB, ite_not, xretf_zc, xretf_c, xcont_c, xbd, p6_partA, p6_partB, p6_partC, nI_add, nI_z, pk_div, p6_of]
  rfl
theorem p3_lesser (x y : Int32) (σ : xS) : FX3_lesser [.int x, .int y] σ = some (some (.int (lsr x y)), σ) := by
  rw [fX3_lesser]
  unfold lsr
  by_cases h1 : x = -9
  · simp (disch := omega) only [eX3_lesser, xRl, xG1, xG2, kAll, rAll, nAll, List.map_nil, List.map_cons, List.sum_nil, List.sum_cons, Nat.reduceAdd, Nat.reduceSub, Nat.reduceMul, Nat.reduceLeDiff, Nat.reduceEqDiff, Nat.reduceLT, and_true, true_and, and_self, if_true, if_false, ne_eq, not_false_eq_true, not_true_eq_false, or_false, false_or, or_true, true_or, false_and, and_false, reduceIte, reduceCtorEq, xB, ite_not, xretf_zc, xretf_c, xcont_c, xbd, h1]
  · by_cases h2 : y = -9
    · simp (disch := omega) only [eX3_lesser, xRl, xG1, xG2, kAll, rAll, nAll, List.map_nil, List.map_cons, List.sum_nil, List.sum_cons, Nat.reduceAdd, Nat.reduceSub, Nat.reduceMul, Nat.reduceLeDiff, Nat.reduceEqDiff, Nat.reduceLT, and_true, true_and, and_self, if_true, if_false, ne_eq, not_false_eq_true, not_true_eq_false, or_false, false_or, or_true, true_or, false_and, and_false, reduceIte, reduceCtorEq, xB, ite_not, xretf_zc, xretf_c, xcont_c, xbd, h1, h2]
    · simp (disch := omega) only [eX3_lesser, xRl, xG1, xG2, kAll, rAll, nAll, List.map_nil, List.map_cons, List.sum_nil, List.sum_cons, Nat.reduceAdd, Nat.reduceSub, Nat.reduceMul, Nat.reduceLeDiff, Nat.reduceEqDiff, Nat.reduceLT, and_true, true_and, and_self, if_true, if_false, ne_eq, not_false_eq_true, not_true_eq_false, or_false, false_or, or_true, true_or, false_and, and_false, reduceIte, reduceCtorEq, xB, ite_not, xretf_zc, xretf_c, xcont_c, xbd, h1, h2]
section PL
variable (L : Nat) (J : Nat → Nat → Int64)
theorem p3_leastOf (I : Nat → Nat → Int32) {n : Nat} {v : Nat → Nat} {W : Nat → Bool} (hn : n ≤ 7) (hW : ∀ s, s < 216 → I 75 s = if W s = true then nI 1 else nI 0) (hv : ∀ k, k < n → I 73 k = nI (v k) ∧ v k < 216) : ∃ x, FX3_leastOf [.int (nI n), .ref 73, .ref 75] (S0 L I J) = some (some (.int x), S0 L I J) ∧ Lst (fun s => W s = true ∧ Cr 0 n v s) x := by
  obtain ⟨x, hx, key⟩ := xloopE (α := Int32) (t := tX3_leastOf) (st := fun i x => (6, [.int (nI n), .ref 73, .ref 75, .int x, .int (nI i)], [], 0, S0 L I J)) (N := n) (Inv := fun i x => Lst (fun s => W s = true ∧ Cr 0 i v s) x) (a0 := -9) (Or.inl ⟨rfl, fun s q => by obtain ⟨_, k, hk, _⟩ := q; omega⟩) (by
    intro i x hi hx
    obtain ⟨e1, e2⟩ := hv i hi
    have e3 := hW (v i) e2
    have hnle : ¬ n ≤ i := by omega
    by_cases hw : W (v i) = true
    · refine ⟨lsr x (nI (v i)), Lst_congr (lsr_ok hx (Or.inr ⟨v i, e2, rfl, rfl, fun s' q => Nat.le_of_eq q.symm⟩ : Lst (fun s => s = v i) (nI (v i)))) (fun s => ⟨?_, ?_⟩), ?_⟩
      · rintro (⟨q1, k, q2, q3⟩ | rfl)
        · exact ⟨q1, k, by omega, q3⟩
        · exact ⟨hw, i, by omega, rfl⟩
      · rintro ⟨q1, k, q2, q3⟩
        by_cases hk : k = i
        · subst hk; exact Or.inr q3.symm
        · exact Or.inl ⟨q1, k, by omega, q3⟩
      · show xD tX3_leastOf (6, _) = _
        rw [hX3_leastOf_6]
        simp (disch := omega) only [eX3_leastOf, xRl, xG1, xG2, kAll, rAll, nAll, List.map_nil, List.map_cons, List.sum_nil, List.sum_cons, Nat.reduceAdd, Nat.reduceSub, Nat.reduceMul, Nat.reduceLeDiff, Nat.reduceEqDiff, Nat.reduceLT, and_true, true_and, and_self, if_true, if_false, ne_eq, not_false_eq_true, not_true_eq_false, or_false, false_or, or_true, true_or, false_and, and_false, reduceIte, reduceCtorEq, xB, ite_not, xretf_zc, xretf_c, xcont_c, xbd, nI_leI, hnle, nI_neg0, cl_nI, e1, e3, hw, p3_lesser, nI_add]
    · refine ⟨x, Lst_congr hx (fun s => ⟨?_, ?_⟩), ?_⟩
      · rintro ⟨q1, k, q2, q3⟩
        exact ⟨q1, k, by omega, q3⟩
      · rintro ⟨q1, k, q2, q3⟩
        by_cases hk : k = i
        · subst hk; rw [q3] at hw; exact absurd q1 hw
        · exact ⟨q1, k, by omega, q3⟩
      · show xD tX3_leastOf (6, _) = _
        rw [hX3_leastOf_6]
        simp (disch := omega) only [eX3_leastOf, xRl, xG1, xG2, kAll, rAll, nAll, List.map_nil, List.map_cons, List.sum_nil, List.sum_cons, Nat.reduceAdd, Nat.reduceSub, Nat.reduceMul, Nat.reduceLeDiff, Nat.reduceEqDiff, Nat.reduceLT, and_true, true_and, and_self, if_true, if_false, ne_eq, not_false_eq_true, not_true_eq_false, or_false, false_or, or_true, true_or, false_and, and_false, reduceIte, reduceCtorEq, xB, ite_not, xretf_zc, xretf_c, xcont_c, xbd, nI_leI, hnle, nI_neg0, cl_nI, e1, e3, hw, nI_add]) n (Nat.le_refl n)
  refine ⟨x, ?_, hx⟩
  rw [fX3_leastOf]
  simp (disch := omega) only [eX3_leastOf, xRl, xG1, xG2, kAll, rAll, nAll, List.map_nil, List.map_cons, List.sum_nil, List.sum_cons, Nat.reduceAdd, Nat.reduceSub, Nat.reduceMul, Nat.reduceLeDiff, Nat.reduceEqDiff, Nat.reduceLT, and_true, true_and, and_self, if_true, if_false, ne_eq, not_false_eq_true, not_true_eq_false, or_false, false_or, or_true, true_or, false_and, and_false, reduceIte, reduceCtorEq, xB, ite_not, xretf_zc, xretf_c, xcont_c, xbd]
  rw [key, hX3_leastOf_6]
  have hnn : (n ≤ n) = True := eq_true (Nat.le_refl n)
  simp (disch := omega) only [eX3_leastOf, xRl, xG1, xG2, kAll, rAll, nAll, List.map_nil, List.map_cons, List.sum_nil, List.sum_cons, Nat.reduceAdd, Nat.reduceSub, Nat.reduceMul, Nat.reduceLeDiff, Nat.reduceEqDiff, Nat.reduceLT, and_true, true_and, and_self, if_true, if_false, ne_eq, not_false_eq_true, not_true_eq_false, or_false, false_or, or_true, true_or, false_and, and_false, reduceIte, reduceCtorEq, xB, ite_not, xretf_zc, xretf_c, xcont_c, xbd, nI_leI, hnn]
def lbA (I I1 : Nat → Nat → Int32) (n : Nat) : Prop := (∀ c, c ≠ 73 → I1 c = I c) ∧ ∀ k, k < n → I1 73 k = I 73 k
theorem p3_leastBy {W : Nat → Bool} : ∀ (t d : Nat), t < d → ∀ (n : Nat) (v : Nat → Nat) (I : Nat → Nat → Int32), n + t ≤ 7 → (∀ s, s < 216 → I 75 s = if W s = true then nI 1 else nI 0) → (∀ k, k < n → I 73 k = nI (v k) ∧ v k < 216) → ∃ x I1, GX3_leastBy d [.int (nI t), .int (nI n), .ref 73, .ref 75] (S0 L I J) = some (some (.int x), S0 L I1 J) ∧ lbA I I1 n ∧ Lst (fun s => W s = true ∧ Cr t n v s) x
  | t, 0, ht, _, _, _, _, _, _ => absurd ht (by omega)
  | 0, d + 1, _, n, v, I, hn, hW, hv => by
    obtain ⟨x, h1, h2⟩ := p3_leastOf L J I (by omega) hW hv
    refine ⟨x, I, ?_, ⟨fun _ _ => rfl, fun _ _ => rfl⟩, h2⟩
    show xden (tX3_leastBy (GX3_leastBy d)) 7 (some .int) 0 _ _ = _
    rw [fX3_leastBy]
    simp (disch := omega) only [eX3_leastBy, xRl, xG1, xG2, kAll, rAll, nAll, List.map_nil, List.map_cons, List.sum_nil, List.sum_cons, Nat.reduceAdd, Nat.reduceSub, Nat.reduceMul, Nat.reduceLeDiff, Nat.reduceEqDiff, Nat.reduceLT, and_true, true_and, and_self, if_true, if_false, ne_eq, not_false_eq_true, not_true_eq_false, or_false, false_or, or_true, true_or, false_and, and_false, reduceIte, reduceCtorEq, xB, ite_not, xretf_zc, xretf_c, xcont_c, xbd, nI_leI, h1]
  | t + 1, d + 1, ht, n, v, I, hn, hW, hv => by
    have hv2 : ∀ k, k < n → v k < 216 := fun k hk => (hv k hk).2
    obtain ⟨⟨I9, x9, w9⟩, ⟨q1, q2, q3⟩, key⟩ := xloopE (α := (Nat → Nat → Int32) × Int32 × Value) (t := tX3_leastBy (GX3_leastBy d)) (st := fun i a => (24, [.int (nI (t + 1)), .int (nI n), .ref 73, .ref 75, .int a.2.1, .int (nI (1 + i)), a.2.2], [], 0, S0 L a.1 J)) (N := n - 1) (Inv := fun i a => lbA I a.1 n ∧ Lst (fun s => W s = true ∧ ∃ i' j', j' < i' ∧ i' < 1 + i ∧ Cr t (n + 1) (upN v n (mx (v i') (v j'))) s) a.2.1 ∧ okV a.2.2) (a0 := (I, -9, .null)) ⟨⟨fun _ _ => rfl, fun _ _ => rfl⟩, Or.inl ⟨rfl, fun s q => by obtain ⟨_, i, j, h1, h2, _⟩ := q; omega⟩, Or.inl rfl⟩ (by
      rintro i ⟨I1, x1, w1⟩ hi ⟨⟨a1, a2⟩, a3, a4⟩
      simp only at a1 a2 a3 a4
      obtain ⟨⟨I8, x8⟩, ⟨b1, b2⟩, key2⟩ := xloopE (α := (Nat → Nat → Int32) × Int32) (t := tX3_leastBy (GX3_leastBy d)) (st := fun j a => (33, [.int (nI (t + 1)), .int (nI n), .ref 73, .ref 75, .int a.2, .int (nI (1 + i)), .int (nI j)], [], 0, S0 L a.1 J)) (N := 1 + i) (Inv := fun j a => lbA I a.1 n ∧ Lst (fun s => W s = true ∧ ∃ i' j', j' < i' ∧ (i' < 1 + i ∨ i' = 1 + i ∧ j' < j) ∧ Cr t (n + 1) (upN v n (mx (v i') (v j'))) s) a.2) (a0 := (I1, x1)) ⟨⟨a1, a2⟩, Lst_congr a3 (fun s => ⟨fun ⟨g1, i', j', g2, g3, g4⟩ => ⟨g1, i', j', g2, Or.inl g3, g4⟩, fun ⟨g1, i', j', g2, g3, g4⟩ => ⟨g1, i', j', g2, by omega, g4⟩⟩)⟩ (by
        rintro j ⟨I2, x2⟩ hj ⟨⟨c1, c2⟩, c3⟩
        simp only at c1 c2 c3
        obtain ⟨e1, e2⟩ := hv (1 + i) (by omega)
        obtain ⟨e3, e4⟩ := hv j (by omega)
        have f1 : I2 73 (1 + i) = nI (v (1 + i)) := by rw [c2 _ (by omega)]; exact e1
        have f2 : I2 73 j = nI (v j) := by rw [c2 _ (by omega)]; exact e3
        have hx := mx_lt e2 e4
        generalize hw : mx (v (1 + i)) (v j) = w at hx
        obtain ⟨x3, I3, g1, ⟨g2, g3⟩, g4⟩ := p3_leastBy t d (by omega) (n + 1) (upN v n w) (xup I2 73 n (nI w)) (by omega) (fun s hs => by rw [xup_o _ _ _ _ (by decide), c1 75 (by decide)]; exact hW s hs) (fun k hk => by
          by_cases hkn : k = n
          · subst hkn
            rw [xup_self, if_pos rfl, upN_s]
            exact ⟨rfl, hx⟩
          · rw [xup_self, if_neg hkn, upN_o _ _ hkn, c2 k (by omega)]
            exact hv k (by omega))
        refine ⟨(I3, lsr x2 x3), ⟨⟨fun c hc => by show I3 c = I c; rw [g2 c hc, xup_ne _ _ _ hc, c1 c hc], fun k hk => by show I3 73 k = I 73 k; rw [g3 k (by omega), xup_self, if_neg (by omega), c2 k hk]⟩, Lst_congr (lsr_ok c3 g4) (fun s => ⟨?_, ?_⟩)⟩, ?_⟩
        · rintro (⟨p1, i', j', p2, p3, p4⟩ | ⟨p1, p2⟩)
          · exact ⟨p1, i', j', p2, by omega, p4⟩
          · exact ⟨p1, 1 + i, j, hj, Or.inr ⟨rfl, by omega⟩, by rw [hw]; exact p2⟩
        · rintro ⟨p1, i', j', p2, p3, p4⟩
          by_cases hq : i' = 1 + i ∧ j' = j
          · obtain ⟨rfl, rfl⟩ := hq
            rw [hw] at p4
            exact Or.inr ⟨p1, p4⟩
          · exact Or.inl ⟨p1, i', j', p2, by omega, p4⟩
        · show xD (tX3_leastBy (GX3_leastBy d)) (33, _) = _
          rw [hX3_leastBy_33]
          have hnle : ¬ 1 + i ≤ j := by omega
          have ht1 : t + 1 - 1 = t := by omega
          simp (disch := omega) only [eX3_leastBy, xRl, xG1, xG2, kAll, rAll, nAll, List.map_nil, List.map_cons, List.sum_nil, List.sum_cons, Nat.reduceAdd, Nat.reduceSub, Nat.reduceMul, Nat.reduceLeDiff, Nat.reduceEqDiff, Nat.reduceLT, and_true, true_and, and_self, if_true, if_false, ne_eq, not_false_eq_true, not_true_eq_false, or_false, false_or, or_true, true_or, false_and, and_false, reduceIte, reduceCtorEq, xB, ite_not, xretf_zc, xretf_c, xcont_c, xbd, nI_leI, hnle, nI_neg0, cl_nI, f1, f2, p6_mixed e2 e4, hw, pk_sub, ht1, nI_add, g1, p3_lesser]) (1 + i) (Nat.le_refl _)
      refine ⟨(I8, x8, .int (nI (1 + i))), ⟨b1, Lst_congr b2 (fun s => ⟨fun ⟨g1, i', j', g2, g3, g4⟩ => ⟨g1, i', j', g2, by omega, g4⟩, fun ⟨g1, i', j', g2, g3, g4⟩ => ⟨g1, i', j', g2, by omega, g4⟩⟩), Or.inr ⟨_, rfl⟩⟩, ?_⟩
      show xD (tX3_leastBy (GX3_leastBy d)) (24, _) = _
      rw [hX3_leastBy_24]
      have hnle : ¬ n ≤ 1 + i := by omega
      have hii : (1 + i ≤ 1 + i) = True := eq_true (Nat.le_refl _)
      have ha : 1 + i + 1 = 1 + (i + 1) := by omega
      rcases a4 with rfl | ⟨z, rfl⟩
      all_goals
        simp (disch := omega) only [eX3_leastBy, xRl, xG1, xG2, kAll, rAll, nAll, List.map_nil, List.map_cons, List.sum_nil, List.sum_cons, Nat.reduceAdd, Nat.reduceSub, Nat.reduceMul, Nat.reduceLeDiff, Nat.reduceEqDiff, Nat.reduceLT, and_true, true_and, and_self, if_true, if_false, ne_eq, not_false_eq_true, not_true_eq_false, or_false, false_or, or_true, true_or, false_and, and_false, reduceIte, reduceCtorEq, xB, ite_not, xretf_zc, xretf_c, xcont_c, xbd, nI_leI, hnle]
        rw [show xD (tX3_leastBy (GX3_leastBy d)) (33, [.int (nI (t + 1)), .int (nI n), .ref 73, .ref 75, .int x1, .int (nI (1 + i)), .int (nI 0)], [], 0, S0 L I1 J) = _ from key2, hX3_leastBy_33]
        simp (disch := omega) only [eX3_leastBy, xRl, xG1, xG2, kAll, rAll, nAll, List.map_nil, List.map_cons, List.sum_nil, List.sum_cons, Nat.reduceAdd, Nat.reduceSub, Nat.reduceMul, Nat.reduceLeDiff, Nat.reduceEqDiff, Nat.reduceLT, and_true, true_and, and_self, if_true, if_false, ne_eq, not_false_eq_true, not_true_eq_false, or_false, false_or, or_true, true_or, false_and, and_false, reduceIte, reduceCtorEq, xB, ite_not, xretf_zc, xretf_c, xcont_c, xbd, nI_leI, hii, nI_add, ha]) (n - 1) (Nat.le_refl _)
    refine ⟨x9, I9, ?_, q1, Lst_congr q2 (fun s => ⟨fun ⟨g1, i', j', g2, g3, g4⟩ => ⟨g1, i', j', g2, by omega, g4⟩, fun ⟨g1, i', j', g2, g3, g4⟩ => ⟨g1, i', j', g2, by omega, g4⟩⟩)⟩
    show xden (tX3_leastBy (GX3_leastBy d)) 7 (some .int) 0 _ _ = _
    rw [fX3_leastBy]
    have hn7 : ¬ 7 ≤ n := by omega
    have h10 : (t + 1 ≤ 0) = False := eq_false (by omega)
    have hn7' : (n < 7) = True := eq_true (by omega)
    simp (disch := omega) only [eX3_leastBy, xRl, xG1, xG2, kAll, rAll, nAll, List.map_nil, List.map_cons, List.sum_nil, List.sum_cons, Nat.reduceAdd, Nat.reduceSub, Nat.reduceMul, Nat.reduceLeDiff, Nat.reduceEqDiff, Nat.reduceLT, and_true, true_and, and_self, if_true, if_false, ne_eq, not_false_eq_true, not_true_eq_false, or_false, false_or, or_true, true_or, false_and, and_false, reduceIte, reduceCtorEq, xB, ite_not, xretf_zc, xretf_c, xcont_c, xbd, nI_leI, nI_ltI, h10, hn7, hn7']
    rw [show xD (tX3_leastBy (GX3_leastBy d)) (24, [.int (nI (t + 1)), .int (nI n), .ref 73, .ref 75, .int (-9), .int (nI 1), .null], [], 0, S0 L I J) = _ from key, hX3_leastBy_24]
    have hnn : (n ≤ 1 + (n - 1)) = True := eq_true (by omega)
    simp only at q3
    rcases q3 with rfl | ⟨z, rfl⟩
    all_goals
      simp (disch := omega) only [eX3_leastBy, xRl, xG1, xG2, kAll, rAll, nAll, List.map_nil, List.map_cons, List.sum_nil, List.sum_cons, Nat.reduceAdd, Nat.reduceSub, Nat.reduceMul, Nat.reduceLeDiff, Nat.reduceEqDiff, Nat.reduceLT, and_true, true_and, and_self, if_true, if_false, ne_eq, not_false_eq_true, not_true_eq_false, or_false, false_or, or_true, true_or, false_and, and_false, reduceIte, reduceCtorEq, xB, ite_not, xretf_zc, xretf_c, xcont_c, xbd, nI_leI, hnn]
theorem p3_fewest (I : Nat → Nat → Int32) {j n : Nat} {v : Nat → Nat} {W : Nat → Bool} (hj : j < 6) (hn : n ≤ 4) (hz : I (3 + 2 * j) 1 = nI n) (hW : ∀ s, s < 216 → I 75 s = if W s = true then nI 1 else nI 0) (hv : ∀ k, k < n → I (4 + 2 * j) k = nI (v k) ∧ v k < 216) : ∃ x I1, FX3_fewestMixings [.ref 72, .ref (3 + 2 * j), .ref 75] (S0 L I J) = some (some (.int x), S0 L I1 J) ∧ (∀ c, c ≠ 72 → c ≠ 73 → I1 c = I c) ∧ ((x = -9 ∧ ∀ t, t < 4 → ∀ s, W s = true → ¬ Mr t n v s) ∨ ∃ t s, t < 4 ∧ s < 216 ∧ x = nI t ∧ I1 72 1 = nI s ∧ W s = true ∧ Mr t n v s ∧ (∀ s', W s' = true → Mr t n v s' → s ≤ s') ∧ ∀ t', t' < t → ∀ s, W s = true → ¬ Mr t' n v s) := by
  obtain ⟨k1, k2, k3, k4⟩ := kRow j hj
  have hv2 : ∀ k, k < n → v k < 216 := fun k hk => (hv k hk).2
  have key0 := xloop (t := tX3_fewestMixings) (st := fun i (_ : Unit) => (2, [.ref 72, .ref (3 + 2 * j), .ref 75, .int (nI i)], [], 0, S0 L (fw I 73 i (fun k => nI (v k))) J)) (g := fun _ _ => ()) (N := n) (Inv := fun _ _ => True) (a0 := ()) trivial (by
    intro i u hi _
    refine ⟨?_, trivial⟩
    have e1 : fw I 73 i (fun k => nI (v k)) (3 + 2 * j) 1 = nI n := by rw [fw_ne _ _ _ (by omega)]; exact hz
    have e2 : fw I 73 i (fun k => nI (v k)) (4 + 2 * j) i = nI (v i) := by rw [fw_ne _ _ _ (by omega)]; exact (hv i hi).1
    have hnle : ¬ n ≤ i := by omega
    have ea : ¬ 3 + 2 * j = 0 := by omega
    show xD tX3_fewestMixings (2, _) = _
    rw [hX3_fewestMixings_2, ← fw_s]
    have k5 := nRow L j hj
    have eb : ¬ 4 + 2 * j = 0 := by omega
    simp (disch := omega) only [eX3_fewestMixings, xRl, xG1, xG2, kAll, rAll, nAll, List.map_nil, List.map_cons, List.sum_nil, List.sum_cons, Nat.reduceAdd, Nat.reduceSub, Nat.reduceMul, Nat.reduceLeDiff, Nat.reduceEqDiff, Nat.reduceLT, and_true, true_and, and_self, if_true, if_false, ne_eq, not_false_eq_true, not_true_eq_false, or_false, false_or, or_true, true_or, false_and, and_false, reduceIte, reduceCtorEq, xB, ite_not, xretf_zc, xretf_c, xcont_c, xbd, nI_leI, hnle, e1, e2, k1, k2, k3, k4, k5, ea, eb, nI_neg0, cl_nI, nI_add]) n (Nat.le_refl n)
  have k0 := key0.1
  simp only [fw_0] at k0
  have key : ∀ d t, t + d = 4 → ∀ I1 : Nat → Nat → Int32, (∀ c, c ≠ 72 → c ≠ 73 → I1 c = I c) → (∀ k, k < n → I1 73 k = nI (v k)) → (∀ t', t' < t → ∀ s, W s = true → ¬ Cr t' n v s) → ∃ x I2, xretf (some .int) (xD tX3_fewestMixings (30, [.ref 72, .ref (3 + 2 * j), .ref 75, .int (nI t)], [], 0, S0 L I1 J)) = some (some (.int x), S0 L I2 J) ∧ (∀ c, c ≠ 72 → c ≠ 73 → I2 c = I c) ∧ ((x = -9 ∧ ∀ t, t < 4 → ∀ s, W s = true → ¬ Mr t n v s) ∨ ∃ t s, t < 4 ∧ s < 216 ∧ x = nI t ∧ I2 72 1 = nI s ∧ W s = true ∧ Mr t n v s ∧ (∀ s', W s' = true → Mr t n v s' → s ≤ s') ∧ ∀ t', t' < t → ∀ s, W s = true → ¬ Mr t' n v s) := by
    intro d
    induction d with
    | zero =>
      intro t ht I1 h1 h2 h3
      have ht4 : t = 4 := by omega
      subst ht4
      refine ⟨-9, I1, ?_, h1, Or.inl ⟨rfl, noC_noM hv2 4 h3⟩⟩
      rw [hX3_fewestMixings_30]
      simp (disch := omega) only [eX3_fewestMixings, xRl, xG1, xG2, kAll, rAll, nAll, List.map_nil, List.map_cons, List.sum_nil, List.sum_cons, Nat.reduceAdd, Nat.reduceSub, Nat.reduceMul, Nat.reduceLeDiff, Nat.reduceEqDiff, Nat.reduceLT, and_true, true_and, and_self, if_true, if_false, ne_eq, not_false_eq_true, not_true_eq_false, or_false, false_or, or_true, true_or, false_and, and_false, reduceIte, reduceCtorEq, xB, ite_not, xretf_zc, xretf_c, xcont_c, xbd, nI_leI, nI_ltI]
    | succ d ih =>
      intro t ht I1 h1 h2 h3
      obtain ⟨x, I2, g1, ⟨g2, g3⟩, g4⟩ := p3_leastBy L J t 5 (by omega) n v I1 (by omega) (fun s hs => by rw [h1 75 (by decide) (by decide)]; exact hW s hs) (fun k hk => ⟨h2 k hk, hv2 k hk⟩)
      have g1' : FX3_leastBy [.int (nI t), .int (nI n), .ref 73, .ref 75] (S0 L I1 J) = some (some (.int x), S0 L I2 J) := g1
      have e1 : I1 (3 + 2 * j) 1 = nI n := by rw [h1 _ (by omega) (by omega)]; exact hz
      have h3t : (3 < t) = False := eq_false (by omega)
      have ea : ¬ 3 + 2 * j = 0 := by omega
      have q1 : ∀ c, c ≠ 72 → c ≠ 73 → xup I2 72 1 x c = I c := fun c p1 p2 => by rw [xup_ne _ _ _ p1, g2 c p2, h1 c p1 p2]
      have q2 : xup I2 72 1 x 72 1 = x := by rw [xup_self, if_pos rfl]
      rcases g4 with ⟨rfl, g5⟩ | ⟨s, s1, rfl, ⟨s2, s3⟩, s4⟩
      · obtain ⟨x3, I3, p1, p2⟩ := ih (t + 1) (by omega) (xup I2 72 1 (-9)) q1 (fun k hk => by rw [xup_o _ _ _ _ (by decide), g3 k hk, h2 k hk]) (fun t' ht' s hs q => by
          by_cases htt : t' = t
          · subst htt; exact g5 s ⟨hs, q⟩
          · exact h3 t' (by omega) s hs q)
        refine ⟨x3, I3, ?_, p2⟩
        rw [← p1, hX3_fewestMixings_30]
        simp (disch := omega) only [eX3_fewestMixings, xRl, xG1, xG2, kAll, rAll, nAll, List.map_nil, List.map_cons, List.sum_nil, List.sum_cons, Nat.reduceAdd, Nat.reduceSub, Nat.reduceMul, Nat.reduceLeDiff, Nat.reduceEqDiff, Nat.reduceLT, and_true, true_and, and_self, if_true, if_false, ne_eq, not_false_eq_true, not_true_eq_false, or_false, false_or, or_true, true_or, false_and, and_false, reduceIte, reduceCtorEq, xB, ite_not, xretf_zc, xretf_c, xcont_c, xbd, nI_leI, nI_ltI, h3t, ea, e1, k1, nI_neg0, cl_nI, g1', q2, nI_add]
      · have hno := noC_noM hv2 t h3
        refine ⟨nI t, xup I2 72 1 (nI s), ?_, q1, Or.inr ⟨t, s, by omega, s1, rfl, q2, s2, Cr_Mr t s3, fun s' w1 w2 => s4 s' ⟨w1, Cr_of t hv2 hno s' w1 w2⟩, hno⟩⟩
        have hs9 := n9 (k := s) (by omega)
        rw [hX3_fewestMixings_30]
        simp (disch := omega) only [eX3_fewestMixings, xRl, xG1, xG2, kAll, rAll, nAll, List.map_nil, List.map_cons, List.sum_nil, List.sum_cons, Nat.reduceAdd, Nat.reduceSub, Nat.reduceMul, Nat.reduceLeDiff, Nat.reduceEqDiff, Nat.reduceLT, and_true, true_and, and_self, if_true, if_false, ne_eq, not_false_eq_true, not_true_eq_false, or_false, false_or, or_true, true_or, false_and, and_false, reduceIte, reduceCtorEq, xB, ite_not, xretf_zc, xretf_c, xcont_c, xbd, nI_leI, nI_ltI, h3t, ea, e1, k1, nI_neg0, cl_nI, g1', q2, hs9]
  obtain ⟨x, I1, p1, p2, p3⟩ := key 4 0 rfl (fw I 73 n (fun k => nI (v k))) (fun c _ hc => fw_ne _ _ _ hc) (fun k hk => fw_in _ _ hk) (fun t' h => absurd h (by omega))
  refine ⟨x, I1, ?_, p2, p3⟩
  have e1 : fw I 73 n (fun k => nI (v k)) (3 + 2 * j) 1 = nI n := by rw [fw_ne _ _ _ (by omega)]; exact hz
  have ea : ¬ 3 + 2 * j = 0 := by omega
  have hnn : (n ≤ n) = True := eq_true (Nat.le_refl n)
  rw [← p1, fX3_fewestMixings]
  simp (disch := omega) only [eX3_fewestMixings, xRl, xG1, xG2, kAll, rAll, nAll, List.map_nil, List.map_cons, List.sum_nil, List.sum_cons, Nat.reduceAdd, Nat.reduceSub, Nat.reduceMul, Nat.reduceLeDiff, Nat.reduceEqDiff, Nat.reduceLT, and_true, true_and, and_self, if_true, if_false, ne_eq, not_false_eq_true, not_true_eq_false, or_false, false_or, or_true, true_or, false_and, and_false, reduceIte, reduceCtorEq, xB, ite_not, xretf_zc, xretf_c, xcont_c, xbd]
  rw [k0, hX3_fewestMixings_2]
  simp (disch := omega) only [eX3_fewestMixings, xRl, xG1, xG2, kAll, rAll, nAll, List.map_nil, List.map_cons, List.sum_nil, List.sum_cons, Nat.reduceAdd, Nat.reduceSub, Nat.reduceMul, Nat.reduceLeDiff, Nat.reduceEqDiff, Nat.reduceLT, and_true, true_and, and_self, if_true, if_false, ne_eq, not_false_eq_true, not_true_eq_false, or_false, false_or, or_true, true_or, false_and, and_false, reduceIte, reduceCtorEq, xB, ite_not, xretf_zc, xretf_c, xcont_c, xbd, nI_leI, e1, k1, ea, hnn, nI_neg0, cl_nI]
end PL
