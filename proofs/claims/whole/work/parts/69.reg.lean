/-! fault, registry: coupled -/
section RG
variable (L : Nat) (I : Nat → Nat → Int32) (J : Nat → Nat → Int64)
theorem pr_fault (h : Cp I J) (t : Int32) : Pair L FX8_fault FX9_fault [.int t] I J := by
  rcases txt_cases h.2.1 t with hr | ⟨j, hj, rfl, ⟨z1, z2⟩ | ⟨m, hm, z1, z2⟩⟩
  · refine ⟨.int (-1), I, J, I, J, ?_, ?_, h⟩
    · rw [fX8_fault]
      simp (disch := omega) only [eX8_fault, xRl, xG1, xG2, kAll, rAll, nAll, List.map_nil, List.map_cons, List.sum_nil, List.sum_cons, Nat.reduceAdd, Nat.reduceSub, Nat.reduceMul, Nat.reduceLeDiff, Nat.reduceEqDiff, Nat.reduceLT, and_true, true_and, and_self, if_true, if_false, ne_eq, not_false_eq_true, not_true_eq_false, or_false, false_or, or_true, true_or, false_and, and_false, reduceIte, reduceCtorEq, xB, ite_not, xretf_zc, xretf_c, xcont_c, xbd, rt_bad L I J hr, m1_0]
    · rw [fX9_fault]
      simp (disch := omega) only [eX9_fault, xRl, xG1, xG2, kAll, rAll, nAll, List.map_nil, List.map_cons, List.sum_nil, List.sum_cons, Nat.reduceAdd, Nat.reduceSub, Nat.reduceMul, Nat.reduceLeDiff, Nat.reduceEqDiff, Nat.reduceLT, and_true, true_and, and_self, if_true, if_false, ne_eq, not_false_eq_true, not_true_eq_false, or_false, false_or, or_true, true_or, false_and, and_false, reduceIte, reduceCtorEq, xB, ite_not, xretf_zc, xretf_c, xcont_c, xbd, p9_isText, hr]
  · refine ⟨.int (-3), fnC I 1, J, fnM (fnC I 1) 1, J, ?_, ?_, Cp_find h (by decide)⟩
    · rw [fX8_fault]
      simp (disch := omega) only [eX8_fault, xRl, xG1, xG2, kAll, rAll, nAll, List.map_nil, List.map_cons, List.sum_nil, List.sum_cons, Nat.reduceAdd, Nat.reduceSub, Nat.reduceMul, Nat.reduceLeDiff, Nat.reduceEqDiff, Nat.reduceLT, and_true, true_and, and_self, if_true, if_false, ne_eq, not_false_eq_true, not_true_eq_false, or_false, false_or, or_true, true_or, false_and, and_false, reduceIte, reduceCtorEq, xB, ite_not, xretf_zc, xretf_c, xcont_c, xbd, rt_none L I J hj z1, m3_0]
    · rw [fX9_fault]
      have e : fnC I 1 81 j = -1 := by simp [fnC, xup]; exact z2
      simp (disch := omega) only [eX9_fault, xRl, xG1, xG2, kAll, rAll, nAll, List.map_nil, List.map_cons, List.sum_nil, List.sum_cons, Nat.reduceAdd, Nat.reduceSub, Nat.reduceMul, Nat.reduceLeDiff, Nat.reduceEqDiff, Nat.reduceLT, and_true, true_and, and_self, if_true, if_false, ne_eq, not_false_eq_true, not_true_eq_false, or_false, false_or, or_true, true_or, false_and, and_false, reduceIte, reduceCtorEq, xB, ite_not, xretf_zc, xretf_c, xcont_c, xbd, p9_isText, z_le, lt_t, nI_neg0, cl_nI, e, m1_ge, m1_lt, p9_find]
  · obtain ⟨k1, k2, k3, k4⟩ := kTxt j hj
    have e : ¬ 16 + 2 * j = 0 := by omega
    have ff := p7_firstFault L I J hj hm z1
    obtain ⟨I2, g1, g2, -⟩ := p9_faultOf L J I (f := I (17 + 2 * j)) hj hm (fun i hi => ((h.2.1 j hj).2.2 i hi).symm) z2
    refine ⟨.int (oI (pf (I (17 + 2 * j)) m (m + 1) 0 0)), I, J, I2, J, ?_, ?_, ?_⟩
    · rw [fX8_fault]
      simp (disch := omega) only [eX8_fault, xRl, xG1, xG2, kAll, rAll, nAll, List.map_nil, List.map_cons, List.sum_nil, List.sum_cons, Nat.reduceAdd, Nat.reduceSub, Nat.reduceMul, Nat.reduceLeDiff, Nat.reduceEqDiff, Nat.reduceLT, and_true, true_and, and_self, if_true, if_false, ne_eq, not_false_eq_true, not_true_eq_false, or_false, false_or, or_true, true_or, false_and, and_false, reduceIte, reduceCtorEq, xB, ite_not, xretf_zc, xretf_c, xcont_c, xbd, rt_ok L I J hj hm z1, k1, k3, e, nI_neg0, cl_nI, ff]
    · rw [fX9_fault]
      simp (disch := omega) only [eX9_fault, xRl, xG1, xG2, kAll, rAll, nAll, List.map_nil, List.map_cons, List.sum_nil, List.sum_cons, Nat.reduceAdd, Nat.reduceSub, Nat.reduceMul, Nat.reduceLeDiff, Nat.reduceEqDiff, Nat.reduceLT, and_true, true_and, and_self, if_true, if_false, ne_eq, not_false_eq_true, not_true_eq_false, or_false, false_or, or_true, true_or, false_and, and_false, reduceIte, reduceCtorEq, xB, ite_not, xretf_zc, xretf_c, xcont_c, xbd, p9_isText, z_le, lt_t, nI_neg0, cl_nI, z2, nI_leI, Nat.zero_le, g1]
    · have o1 : I2 1 = I 1 := g2.1 1 (by decide) (by decide)
      exact Cp_gen h (fun c hc => g2.1 c (by omega) (by omega)) (by rw [o1]) (g2.2 8 (by decide) (by decide) (by decide) (by decide)) (g2.2 15 (by decide) (by decide) (by decide) (by decide)) (by rw [o1, g2.2 5 (by decide) (by decide) (by decide) (by decide)]; exact h.2.2.2.1)
/-- the reference's row, behind a registry -/
def RW (I I1 : Nat → Nat → Int32) (n k : Nat) : Prop := (∀ a, a ≠ 78 → I1 a = I a) ∧ I1 78 0 = nI 0 ∧ I1 78 1 = nI n ∧ ∀ q, q < k → I1 78 (2 + q) = I 84 (8 * q + 1) ∧ I1 78 (10 + 7 * q) = I 84 (8 * q) ∧ ∀ i, 2 ≤ i → i < 8 → I1 78 (9 + 7 * q + i) = I 84 (8 * q + i)
theorem p9_regRow {n j : Nat} (hn : n ≤ 8) (h14 : I 77 14 = nI n) : ∃ I2, xretf (some .int) (xD tX9_registry (39, [.ref 77, .int (nI j), .int (nI 0), .null], [], 0, S0 L I J)) = some (some (.int (nI n)), S0 L I2 J) ∧ RW I I2 n n ∧ ∀ k, 1 ≤ k → k < 4 → I2 78 (426 * k) = -1 := by
  have s0 := xloop (t := tX9_registry) (st := fun i (_ : Unit) => (39, [.ref 77, .int (nI j), .int (nI i), .null], [], 0, S0 L (fl I 78 0 i (nI 0)) J)) (g := fun _ _ => ()) (N := 426) (Inv := fun _ _ => True) (a0 := ()) trivial (by
    intro i u hi _
    refine ⟨?_, trivial⟩
    have hnle : ¬ 426 ≤ i := by omega
    have e0 := fl_s I 78 0 i (nI 0)
    rw [Nat.zero_add] at e0
    show xD tX9_registry (39, _) = _
    rw [hX9_registry_39, ← e0]
    simp (disch := omega) only [eX9_registry, xRl, xG1, xG2, kAll, rAll, nAll, List.map_nil, List.map_cons, List.sum_nil, List.sum_cons, Nat.reduceAdd, Nat.reduceSub, Nat.reduceMul, Nat.reduceLeDiff, Nat.reduceEqDiff, Nat.reduceLT, and_true, true_and, and_self, if_true, if_false, ne_eq, not_false_eq_true, not_true_eq_false, or_false, false_or, or_true, true_or, false_and, and_false, reduceIte, reduceCtorEq, xB, ite_not, xretf_zc, xretf_c, xcont_c, xbd, nI_leI, hnle, nI_neg0, cl_nI, nI_add]) 426 (Nat.le_refl _)
  have s0 := s0.1
  simp only [fl_0] at s0
  generalize hI0 : fl I 78 0 426 (nI 0) = I0 at s0
  have o0 : ∀ a, a ≠ 78 → I0 a = I a := fun a ha => by rw [← hI0, fl_ne _ _ _ _ ha]
  have w0 : RW I (xup I0 78 1 (nI n)) n 0 := ⟨fun a ha => by rw [xup_ne _ _ _ ha, o0 a ha], by rw [xup_self, if_neg (by decide), ← hI0, fl_in _ _ (by omega)], by rw [xup_self, if_pos rfl], fun q hq => absurd hq (by omega)⟩
  obtain ⟨⟨I1, w⟩, ⟨a1, a2⟩, s1⟩ := xloopE (α := (Nat → Nat → Int32) × Value) (t := tX9_registry) (st := fun k a => (71, [.ref 77, .int (nI j), .int (nI k), a.2], [], 0, S0 L a.1 J)) (N := n) (Inv := fun k a => RW I a.1 n k ∧ okV a.2) (a0 := (xup I0 78 1 (nI n), .null)) ⟨w0, Or.inl rfl⟩ (by
    rintro k ⟨I1, w⟩ hk ⟨a1, a2⟩
    simp only at a1 a2
    have b84 : ∀ q, I1 84 q = I 84 q := fun q => by rw [a1.1 84 (by decide)]
    have b14 : I1 77 14 = nI n := by rw [a1.1 77 (by decide)]; exact h14
    have hnle : ¬ n ≤ k := by omega
    generalize hI2 : xup (xup I1 78 (2 + k) (I 84 (8 * k + 1))) 78 (10 + 7 * k) (I 84 (8 * k)) = I2
    have c1 : RW I I2 n k ∧ I2 78 (2 + k) = I 84 (8 * k + 1) ∧ I2 78 (10 + 7 * k) = I 84 (8 * k) := by
      rw [← hI2]
      refine ⟨⟨fun a ha => by rw [xup_ne _ _ _ ha, xup_ne _ _ _ ha, a1.1 a ha], ?_, ?_, fun q hq => ⟨?_, ?_, fun i h1 h2 => ?_⟩⟩, ?_, ?_⟩
      · rw [xup_self, if_neg (by omega), xup_self, if_neg (by omega)]; exact a1.2.1
      · rw [xup_self, if_neg (by omega), xup_self, if_neg (by omega)]; exact a1.2.2.1
      · rw [xup_self, if_neg (by omega), xup_self, if_neg (by omega)]; exact (a1.2.2.2 q hq).1
      · rw [xup_self, if_neg (by omega), xup_self, if_neg (by omega)]; exact (a1.2.2.2 q hq).2.1
      · rw [xup_self, if_neg (by omega), xup_self, if_neg (by omega)]; exact (a1.2.2.2 q hq).2.2 i h1 h2
      · rw [xup_self, if_neg (by omega), xup_self, if_pos rfl]
      · rw [xup_self, if_pos rfl]
    obtain ⟨I3, ⟨d1, d2, d3, d4⟩, s2⟩ := xloopE (α := Nat → Nat → Int32) (t := tX9_registry) (st := fun i a => (123, [.ref 77, .int (nI j), .int (nI k), .int (nI (2 + i))], [], 0, S0 L a J)) (N := 6) (Inv := fun i a => RW I a n k ∧ a 78 (2 + k) = I 84 (8 * k + 1) ∧ a 78 (10 + 7 * k) = I 84 (8 * k) ∧ ∀ u, 2 ≤ u → u < 2 + i → a 78 (9 + 7 * k + u) = I 84 (8 * k + u)) (a0 := I2) ⟨c1.1, c1.2.1, c1.2.2, fun u h1 h2 => absurd h2 (by omega)⟩ (by
      rintro i I3 hi ⟨d1, d2, d3, d4⟩
      have b84 : ∀ q, I3 84 q = I 84 q := fun q => by rw [d1.1 84 (by decide)]
      have hnle : ¬ 8 ≤ 2 + i := by omega
      refine ⟨xup I3 78 (9 + 7 * k + (2 + i)) (I 84 (8 * k + (2 + i))), ⟨⟨fun a ha => by rw [xup_ne _ _ _ ha, d1.1 a ha], ?_, ?_, fun q hq => ⟨?_, ?_, fun u h1 h2 => ?_⟩⟩, ?_, ?_, fun u h1 h2 => ?_⟩, ?_⟩
      · rw [xup_self, if_neg (by omega)]; exact d1.2.1
      · rw [xup_self, if_neg (by omega)]; exact d1.2.2.1
      · rw [xup_self, if_neg (by omega)]; exact (d1.2.2.2 q hq).1
      · rw [xup_self, if_neg (by omega)]; exact (d1.2.2.2 q hq).2.1
      · rw [xup_self, if_neg (by omega)]; exact (d1.2.2.2 q hq).2.2 u h1 h2
      · rw [xup_self, if_neg (by omega)]; exact d2
      · rw [xup_self, if_neg (by omega)]; exact d3
      · by_cases hu : u = 2 + i
        · subst hu; rw [xup_self, if_pos rfl]
        · rw [xup_self, if_neg (by omega)]; exact d4 u h1 (by omega)
      · show xD tX9_registry (123, _) = _
        rw [hX9_registry_123]
        have e1 : 10 + 7 * k + (2 + i) - 1 = 9 + 7 * k + (2 + i) := by omega
        have e2 : 2 + i + 1 = 2 + (i + 1) := by omega
        simp (disch := omega) only [eX9_registry, xRl, xG1, xG2, kAll, rAll, nAll, List.map_nil, List.map_cons, List.sum_nil, List.sum_cons, Nat.reduceAdd, Nat.reduceSub, Nat.reduceMul, Nat.reduceLeDiff, Nat.reduceEqDiff, Nat.reduceLT, and_true, true_and, and_self, if_true, if_false, ne_eq, not_false_eq_true, not_true_eq_false, or_false, false_or, or_true, true_or, false_and, and_false, reduceIte, reduceCtorEq, xB, ite_not, xretf_zc, xretf_c, xcont_c, xbd, nI_leI, hnle, pk_mul, nI_add, pk_sub, e1, e2, nI_neg0, cl_nI, b84]) 6 (Nat.le_refl _)
    refine ⟨(I3, .int (nI 8)), ⟨⟨d1.1, d1.2.1, d1.2.2.1, fun q hq => ?_⟩, Or.inr ⟨_, rfl⟩⟩, ?_⟩
    · by_cases hqk : q = k
      · subst hqk; exact ⟨d2, d3, fun i h1 h2 => d4 i h1 (by omega)⟩
      · exact d1.2.2.2 q (by omega)
    · show xD tX9_registry (71, [_, _, _, w], _) = _
      rw [hX9_registry_71]
      have b84' : ∀ q, xup I1 78 (2 + k) (I 84 (8 * k + 1)) 84 q = I 84 q := fun q => by rw [xup_o _ _ _ _ (by decide)]; exact b84 q
      have e0 : 10 + 7 * k + 0 = 10 + 7 * k := by omega
      rcases a2 with rfl | ⟨z, rfl⟩
      all_goals
        simp (disch := omega) only [eX9_registry, xRl, xG1, xG2, kAll, rAll, nAll, List.map_nil, List.map_cons, List.sum_nil, List.sum_cons, Nat.reduceAdd, Nat.reduceSub, Nat.reduceMul, Nat.reduceLeDiff, Nat.reduceEqDiff, Nat.reduceLT, and_true, true_and, and_self, if_true, if_false, ne_eq, not_false_eq_true, not_true_eq_false, or_false, false_or, or_true, true_or, false_and, and_false, reduceIte, reduceCtorEq, xB, ite_not, xretf_zc, xretf_c, xcont_c, xbd, nI_leI, b14, hnle, pk_mul, nI_add, nI_neg0, cl_nI, b84, b84', Nat.add_zero, hI2]
        rw [show xD tX9_registry (123, [.ref 77, .int (nI j), .int (nI k), .int (nI 2)], [], 0, S0 L I2 J) = _ from s2, hX9_registry_123]
        simp (disch := omega) only [eX9_registry, xRl, xG1, xG2, kAll, rAll, nAll, List.map_nil, List.map_cons, List.sum_nil, List.sum_cons, Nat.reduceAdd, Nat.reduceSub, Nat.reduceMul, Nat.reduceLeDiff, Nat.reduceEqDiff, Nat.reduceLT, and_true, true_and, and_self, if_true, if_false, ne_eq, not_false_eq_true, not_true_eq_false, or_false, false_or, or_true, true_or, false_and, and_false, reduceIte, reduceCtorEq, xB, ite_not, xretf_zc, xretf_c, xcont_c, xbd, nI_leI, nI_add]) n (Nat.le_refl _)
  simp only at a1 a2
  obtain ⟨I5, ⟨f1, f2⟩, s3⟩ := xloopE (α := Nat → Nat → Int32) (t := tX9_registry) (st := fun k a => (170, [.ref 77, .int (nI j), .int (nI (1 + k)), w], [], 0, S0 L a J)) (N := 3) (Inv := fun k a => RW I a n n ∧ ∀ q, 1 ≤ q → q < 1 + k → a 78 (426 * q) = -1) (a0 := I1) ⟨a1, fun q h1 h2 => absurd h2 (by omega)⟩ (by
    rintro k I5 hk ⟨f1, f2⟩
    have hnle : ¬ 4 ≤ 1 + k := by omega
    refine ⟨xup I5 78 (426 * (1 + k)) (-1), ⟨⟨fun a ha => by rw [xup_ne _ _ _ ha, f1.1 a ha], ?_, ?_, fun q hq => ⟨?_, ?_, fun u h1 h2 => ?_⟩⟩, fun q h1 h2 => ?_⟩, ?_⟩
    · rw [xup_self, if_neg (by omega)]; exact f1.2.1
    · rw [xup_self, if_neg (by omega)]; exact f1.2.2.1
    · rw [xup_self, if_neg (by omega)]; exact (f1.2.2.2 q hq).1
    · rw [xup_self, if_neg (by omega)]; exact (f1.2.2.2 q hq).2.1
    · rw [xup_self, if_neg (by omega)]; exact (f1.2.2.2 q hq).2.2 u h1 h2
    · by_cases hu : q = 1 + k
      · subst hu; rw [xup_self, if_pos rfl]
      · rw [xup_self, if_neg (by omega)]; exact f2 q h1 (by omega)
    · show xD tX9_registry (170, [_, _, _, w], _) = _
      rw [hX9_registry_170]
      have e2 : 1 + k + 1 = 1 + (k + 1) := by omega
      rcases a2 with rfl | ⟨z, rfl⟩
      all_goals
        simp (disch := omega) only [eX9_registry, xRl, xG1, xG2, kAll, rAll, nAll, List.map_nil, List.map_cons, List.sum_nil, List.sum_cons, Nat.reduceAdd, Nat.reduceSub, Nat.reduceMul, Nat.reduceLeDiff, Nat.reduceEqDiff, Nat.reduceLT, and_true, true_and, and_self, if_true, if_false, ne_eq, not_false_eq_true, not_true_eq_false, or_false, false_or, or_true, true_or, false_and, and_false, reduceIte, reduceCtorEq, xB, ite_not, xretf_zc, xretf_c, xcont_c, xbd, nI_leI, hnle, pk_mul, nI_add, Nat.add_zero, nI_neg0, cl_nI, e2]) 3 (Nat.le_refl _)
  refine ⟨I5, ?_, f1, fun k h1 h2 => f2 k h1 (by omega)⟩
  have z14 : I0 77 14 = nI n := by rw [o0 77 (by decide)]; exact h14
  have z14' : I1 77 14 = nI n := by rw [a1.1 77 (by decide)]; exact h14
  have z14'' : I5 77 14 = nI n := by rw [f1.1 77 (by decide)]; exact h14
  have hnn : (n ≤ n) = True := eq_true (Nat.le_refl _)
  rw [s0, hX9_registry_39]
  simp (disch := omega) only [eX9_registry, xRl, xG1, xG2, kAll, rAll, nAll, List.map_nil, List.map_cons, List.sum_nil, List.sum_cons, Nat.reduceAdd, Nat.reduceSub, Nat.reduceMul, Nat.reduceLeDiff, Nat.reduceEqDiff, Nat.reduceLT, and_true, true_and, and_self, if_true, if_false, ne_eq, not_false_eq_true, not_true_eq_false, or_false, false_or, or_true, true_or, false_and, and_false, reduceIte, reduceCtorEq, xB, ite_not, xretf_zc, xretf_c, xcont_c, xbd, nI_leI, z14, nI_neg0, cl_nI]
  rw [show xD tX9_registry (71, [.ref 77, .int (nI j), .int (nI 0), .null], [], 0, S0 L (xup I0 78 1 (nI n)) J) = _ from s1, hX9_registry_71]
  rcases a2 with rfl | ⟨z, rfl⟩
  all_goals
    simp (disch := omega) only [eX9_registry, xRl, xG1, xG2, kAll, rAll, nAll, List.map_nil, List.map_cons, List.sum_nil, List.sum_cons, Nat.reduceAdd, Nat.reduceSub, Nat.reduceMul, Nat.reduceLeDiff, Nat.reduceEqDiff, Nat.reduceLT, and_true, true_and, and_self, if_true, if_false, ne_eq, not_false_eq_true, not_true_eq_false, or_false, false_or, or_true, true_or, false_and, and_false, reduceIte, reduceCtorEq, xB, ite_not, xretf_zc, xretf_c, xcont_c, xbd, nI_leI, z14', hnn]
    rw [show xD tX9_registry (170, _) = _ from s3, hX9_registry_170]
    simp (disch := omega) only [eX9_registry, xRl, xG1, xG2, kAll, rAll, nAll, List.map_nil, List.map_cons, List.sum_nil, List.sum_cons, Nat.reduceAdd, Nat.reduceSub, Nat.reduceMul, Nat.reduceLeDiff, Nat.reduceEqDiff, Nat.reduceLT, and_true, true_and, and_self, if_true, if_false, ne_eq, not_false_eq_true, not_true_eq_false, or_false, false_or, or_true, true_or, false_and, and_false, reduceIte, reduceCtorEq, xB, ite_not, xretf_zc, xretf_c, xcont_c, xbd, nI_leI, z14'']
theorem pr_registry (h : Cp I J) (t : Int32) : Pair L FX8_registry FX9_registry [.int t] I J := by
  rcases txt_cases h.2.1 t with hr | ⟨j, hj, rfl, ⟨z1, z2⟩ | ⟨m, hm, z1, z2⟩⟩
  · refine ⟨.int (-1), I, J, I, J, ?_, ?_, h⟩
    · rw [fX8_registry]
      simp (disch := omega) only [eX8_registry, xRl, xG1, xG2, kAll, rAll, nAll, List.map_nil, List.map_cons, List.sum_nil, List.sum_cons, Nat.reduceAdd, Nat.reduceSub, Nat.reduceMul, Nat.reduceLeDiff, Nat.reduceEqDiff, Nat.reduceLT, and_true, true_and, and_self, if_true, if_false, ne_eq, not_false_eq_true, not_true_eq_false, or_false, false_or, or_true, true_or, false_and, and_false, reduceIte, reduceCtorEq, xB, ite_not, xretf_zc, xretf_c, xcont_c, xbd, rt_bad L I J hr, m1_0]
    · rw [fX9_registry]
      simp (disch := omega) only [eX9_registry, xRl, xG1, xG2, kAll, rAll, nAll, List.map_nil, List.map_cons, List.sum_nil, List.sum_cons, Nat.reduceAdd, Nat.reduceSub, Nat.reduceMul, Nat.reduceLeDiff, Nat.reduceEqDiff, Nat.reduceLT, and_true, true_and, and_self, if_true, if_false, ne_eq, not_false_eq_true, not_true_eq_false, or_false, false_or, or_true, true_or, false_and, and_false, reduceIte, reduceCtorEq, xB, ite_not, xretf_zc, xretf_c, xcont_c, xbd, p9_isText, hr]
  · refine ⟨.int (-3), fnC I 1, J, fnM (fnC I 1) 1, J, ?_, ?_, Cp_find h (by decide)⟩
    · rw [fX8_registry]
      simp (disch := omega) only [eX8_registry, xRl, xG1, xG2, kAll, rAll, nAll, List.map_nil, List.map_cons, List.sum_nil, List.sum_cons, Nat.reduceAdd, Nat.reduceSub, Nat.reduceMul, Nat.reduceLeDiff, Nat.reduceEqDiff, Nat.reduceLT, and_true, true_and, and_self, if_true, if_false, ne_eq, not_false_eq_true, not_true_eq_false, or_false, false_or, or_true, true_or, false_and, and_false, reduceIte, reduceCtorEq, xB, ite_not, xretf_zc, xretf_c, xcont_c, xbd, rt_none L I J hj z1, m3_0]
    · rw [fX9_registry]
      have e : fnC I 1 81 j = -1 := by simp [fnC, xup]; exact z2
      simp (disch := omega) only [eX9_registry, xRl, xG1, xG2, kAll, rAll, nAll, List.map_nil, List.map_cons, List.sum_nil, List.sum_cons, Nat.reduceAdd, Nat.reduceSub, Nat.reduceMul, Nat.reduceLeDiff, Nat.reduceEqDiff, Nat.reduceLT, and_true, true_and, and_self, if_true, if_false, ne_eq, not_false_eq_true, not_true_eq_false, or_false, false_or, or_true, true_or, false_and, and_false, reduceIte, reduceCtorEq, xB, ite_not, xretf_zc, xretf_c, xcont_c, xbd, p9_isText, z_le, lt_t, nI_neg0, cl_nI, e, m1_ge, m1_lt, p9_find]
  · obtain ⟨k1, k2, k3, k4⟩ := kTxt j hj
    have e : ¬ 16 + 2 * j = 0 := by omega
    have ff := p7_firstFault L I J hj hm z1
    generalize hf : I (17 + 2 * j) = f at ff
    have hf82 : ∀ i, i < 80 → I 82 (80 * j + i) = f i := fun i hi => by rw [← hf]; exact ((h.2.1 j hj).2.2 i hi).symm
    cases hp : pf f m (m + 1) 0 0 with
    | some q =>
      have hq := pf_le (by omega) hp
      have h9 := oI_9 (q := q) (by omega)
      rw [hp] at ff
      obtain ⟨I2, g1, g2, -⟩ := p9_faultOf L J I (f := f) hj hm hf82 z2
      rw [hp] at g1
      refine ⟨.int (-4), I, J, I2, J, ?_, ?_, ?_⟩
      · rw [fX8_registry]
        simp (disch := omega) only [eX8_registry, xRl, xG1, xG2, kAll, rAll, nAll, List.map_nil, List.map_cons, List.sum_nil, List.sum_cons, Nat.reduceAdd, Nat.reduceSub, Nat.reduceMul, Nat.reduceLeDiff, Nat.reduceEqDiff, Nat.reduceLT, and_true, true_and, and_self, if_true, if_false, ne_eq, not_false_eq_true, not_true_eq_false, or_false, false_or, or_true, true_or, false_and, and_false, reduceIte, reduceCtorEq, xB, ite_not, xretf_zc, xretf_c, xcont_c, xbd, rt_ok L I J hj hm z1, k1, k3, e, nI_neg0, cl_nI, ff, h9]
      · rw [fX9_registry]
        simp (disch := omega) only [eX9_registry, xRl, xG1, xG2, kAll, rAll, nAll, List.map_nil, List.map_cons, List.sum_nil, List.sum_cons, Nat.reduceAdd, Nat.reduceSub, Nat.reduceMul, Nat.reduceLeDiff, Nat.reduceEqDiff, Nat.reduceLT, and_true, true_and, and_self, if_true, if_false, ne_eq, not_false_eq_true, not_true_eq_false, or_false, false_or, or_true, true_or, false_and, and_false, reduceIte, reduceCtorEq, xB, ite_not, xretf_zc, xretf_c, xcont_c, xbd, p9_isText, z_le, lt_t, nI_neg0, cl_nI, z2, nI_leI, Nat.zero_le, g1, h9]
      · have o1 : I2 1 = I 1 := g2.1 1 (by decide) (by decide)
        exact Cp_gen h (fun c hc => g2.1 c (by omega) (by omega)) (by rw [o1]) (g2.2 8 (by decide) (by decide) (by decide) (by decide)) (g2.2 15 (by decide) (by decide) (by decide) (by decide)) (by rw [o1, g2.2 5 (by decide) (by decide) (by decide) (by decide)]; exact h.2.2.2.1)
    | none =>
      have h9 : oI none = -9 := rfl
      rw [hp] at ff
      obtain ⟨n0, d0, yr0, hR⟩ := h.2.2.2.2.2.2.1
      have hbw : BW I 24 := hR.2.1
      obtain ⟨⟨L8, L0⟩, hit⟩ := pf_ok (show m < 0 + (m + 1) by omega) (Nat.zero_le m) (Nat.zero_le 8) hp
      rw [Nat.zero_add] at L8 L0
      obtain ⟨I1, wi, hW, hNW⟩ := p7_writeInto L J I (f := f) hj hm z1 (fun q _ => by rw [hf]) (fun k hk => hbw.2 k hk) hp
      generalize hn : (ps f m (m + 1) 0).length = n at L8 L0 hW
      -- the kept ones begin anew
      obtain ⟨I2, ⟨b1, b2, b3⟩, lp⟩ := xloopE (α := Nat → Nat → Int32) (t := tX8_registry) (st := fun k a => (44, [.ref 1, .int (nI j), .int (nI 0), .int (nI k)], [], 0, S0 L a J)) (N := 3) (Inv := fun k a => (∀ c, ¬ (c = 36 ∨ c = 47 ∨ c = 58) → a c = I1 c) ∧ (∀ c q, c = 36 ∨ c = 47 ∨ c = 58 → q ≠ 1 → q ≠ 3 → q ≠ 4 → a c q = I1 c q) ∧ ∀ q, q < k → a (36 + 11 * q) 1 = nI 0) (a0 := I1) ⟨fun _ _ => rfl, fun _ _ _ _ _ _ => rfl, fun q hq => absurd hq (by omega)⟩ (by
        rintro k I2 hk ⟨b1, b2, b3⟩
        obtain ⟨⟨kk1, kk2, kk3, kk4, kk5, kk6⟩, -⟩ := kKep k hk
        have ek : ¬ 36 + 11 * k = 0 := by omega
        have hg : isG (36 + 11 * k) := by unfold isG; omega
        have hb0 := p4_begin L J I2 hg
        have hnle : ¬ 3 ≤ k := by omega
        refine ⟨xup (xup (xup I2 (36 + 11 * k) 1 (nI 0)) (36 + 11 * k) 3 (nI 0)) (36 + 11 * k) 4 (nI 0), ⟨fun c hc => by rw [xup_ne _ _ _ (by omega), xup_ne _ _ _ (by omega), xup_ne _ _ _ (by omega), b1 c hc], fun c q hc h1 h3 h4 => ?_, fun q hq => ?_⟩, ?_⟩
        · by_cases hck : c = 36 + 11 * k
          · subst hck; rw [xup_self, if_neg h4, xup_self, if_neg h3, xup_self, if_neg h1, b2 _ q hc h1 h3 h4]
          · rw [xup_ne _ _ _ hck, xup_ne _ _ _ hck, xup_ne _ _ _ hck, b2 c q hc h1 h3 h4]
        · by_cases hqk : q = k
          · subst hqk; rw [xup_self, if_neg (by decide), xup_self, if_neg (by decide), xup_self, if_pos rfl]
          · rw [xup_ne _ _ _ (by omega), xup_ne _ _ _ (by omega), xup_ne _ _ _ (by omega)]; exact b3 q (by omega)
        · show xD tX8_registry (44, _) = _
          rw [hX8_registry_44]
          simp (disch := omega) only [eX8_registry, xRl, xG1, xG2, kAll, rAll, nAll, List.map_nil, List.map_cons, List.sum_nil, List.sum_cons, Nat.reduceAdd, Nat.reduceSub, Nat.reduceMul, Nat.reduceLeDiff, Nat.reduceEqDiff, Nat.reduceLT, and_true, true_and, and_self, if_true, if_false, ne_eq, not_false_eq_true, not_true_eq_false, or_false, false_or, or_true, true_or, false_and, and_false, reduceIte, reduceCtorEq, xB, ite_not, xretf_zc, xretf_c, xcont_c, xbd, nI_leI, hnle, nI_neg0, cl_nI, kk1, kk2, ek, hb0, nI_add]) 3 (Nat.le_refl _)
      have o1 : ∀ c, ¬ (c = 36 ∨ c = 47 ∨ c = 58) → (c < 24 ∨ 33 < c) → I2 c = I c := fun c h1 h2 => by rw [b1 c h1, hW.1 c h2]
      obtain ⟨I3, g1, g2, g3⟩ := p9_faultOf L J I2 (f := f) (t := j) (m := m) hj hm (fun i hi => by rw [o1 82 (by omega) (by omega)]; exact hf82 i hi) (by rw [o1 81 (by omega) (by omega)]; exact z2)
      obtain ⟨r14, r84⟩ := g3 hp
      rw [hp] at g1
      simp only [hn] at r14 r84 hNW hit
      obtain ⟨I4, x1, x2, x3⟩ := p9_regRow L I3 J (j := j) L8 r14
      have n24 : I2 24 1 = nI n := by rw [b1 24 (by omega)]; exact hW.2.1
      have zz : I2 81 j = nI m := by rw [o1 81 (by omega) (by omega)]; exact z2
      refine ⟨.int (nI n), I2, J, I4, J, ?_, ?_, ?_⟩
      · rw [fX8_registry]
        simp (disch := omega) only [eX8_registry, xRl, xG1, xG2, kAll, rAll, nAll, List.map_nil, List.map_cons, List.sum_nil, List.sum_cons, Nat.reduceAdd, Nat.reduceSub, Nat.reduceMul, Nat.reduceLeDiff, Nat.reduceEqDiff, Nat.reduceLT, and_true, true_and, and_self, if_true, if_false, ne_eq, not_false_eq_true, not_true_eq_false, or_false, false_or, or_true, true_or, false_and, and_false, reduceIte, reduceCtorEq, xB, ite_not, xretf_zc, xretf_c, xcont_c, xbd, rt_ok L I J hj hm z1, k1, k3, e, nI_neg0, cl_nI, ff, h9, wi]
        rw [show xD tX8_registry (44, [.ref 1, .int (nI j), .int (nI 0), .int (nI 0)], [], 0, S0 L I1 J) = _ from lp, hX8_registry_44]
        simp (disch := omega) only [eX8_registry, xRl, xG1, xG2, kAll, rAll, nAll, List.map_nil, List.map_cons, List.sum_nil, List.sum_cons, Nat.reduceAdd, Nat.reduceSub, Nat.reduceMul, Nat.reduceLeDiff, Nat.reduceEqDiff, Nat.reduceLT, and_true, true_and, and_self, if_true, if_false, ne_eq, not_false_eq_true, not_true_eq_false, or_false, false_or, or_true, true_or, false_and, and_false, reduceIte, reduceCtorEq, xB, ite_not, xretf_zc, xretf_c, xcont_c, xbd, nI_leI, n24]
      · rw [← x1, fX9_registry]
        simp (disch := omega) only [eX9_registry, xRl, xG1, xG2, kAll, rAll, nAll, List.map_nil, List.map_cons, List.sum_nil, List.sum_cons, Nat.reduceAdd, Nat.reduceSub, Nat.reduceMul, Nat.reduceLeDiff, Nat.reduceEqDiff, Nat.reduceLT, and_true, true_and, and_self, if_true, if_false, ne_eq, not_false_eq_true, not_true_eq_false, or_false, false_or, or_true, true_or, false_and, and_false, reduceIte, reduceCtorEq, xB, ite_not, xretf_zc, xretf_c, xcont_c, xbd, p9_isText, z_le, lt_t, nI_neg0, cl_nI, zz, nI_leI, Nat.zero_le, g1, h9]
      · -- coupled
        have q1 : ∀ c, c ≠ 77 → c ≠ 78 → c ≠ 84 → I4 c = I2 c := fun c h1 h2 h3 => by rw [x2.1 c h2, g2.1 c h1 h3]
        have q2 : ∀ c, ¬ (c = 36 ∨ c = 47 ∨ c = 58) → (c < 24 ∨ 33 < c) → c ≠ 77 → c ≠ 78 → c ≠ 84 → I4 c = I c := fun c h1 h2 h3 h4 h5 => by rw [q1 c h3 h4 h5, o1 c h1 h2]
        have q77 : ∀ q, q ≠ 10 → q ≠ 11 → q ≠ 12 → q ≠ 14 → I4 77 q = I 77 q := fun q h1 h2 h3 h4 => by rw [x2.1 77 (by decide), g2.2 q h1 h2 h3 h4, o1 77 (by omega) (by omega)]
        obtain ⟨w1, w2, w3, w4, w5, w6, -, w7⟩ := h
        have hnm : ∀ c, 24 ≤ c → c ≤ 33 → I4 c = I1 c := fun c h1 h2 => by rw [q1 c (by omega) (by omega) (by omega), b1 c (by omega)]
        refine ⟨CpR_of w1 (fun c hc => q2 c (by omega) (by omega) (by omega) (by omega) (by omega)), CpT_of w2 (fun c hc => q2 c (by omega) (by omega) (by omega) (by omega) (by omega)), ?_, ?_, w5, ?_, ⟨n, 0, 0, ?_⟩, ?_⟩
        · refine ⟨?_, fun f hf => ?_⟩
          · rw [q2 1 (by omega) (by omega) (by omega) (by omega) (by omega), q77 8 (by decide) (by decide) (by decide) (by decide)]; exact w3.1
          · rw [q2 76 (by omega) (by omega) (by omega) (by omega) (by omega), q2 83 (by omega) (by omega) (by omega) (by omega) (by omega)]; exact w3.2 f hf
        · show I4 1 10 = I4 77 5
          rw [q2 1 (by omega) (by omega) (by omega) (by omega) (by omega), q77 5 (by decide) (by decide) (by decide) (by decide)]; exact w4
        · rw [q77 15 (by decide) (by decide) (by decide) (by decide)]; exact w6
        · have hs0 : sayN I4 24 0 0 = 0 := rfl
          refine ⟨⟨L8, by omega, ?_, ?_, ?_, ?_, ?_⟩, ⟨fun i hi => ?_, fun k hk => ?_⟩, ⟨?_, Or.inr rfl⟩, fun k hk => ?_, fun i hi => absurd hi (by omega)⟩
          · rw [hnm 24 (by omega) (by omega)]; exact hW.2.1
          · rw [hnm 24 (by omega) (by omega)]; exact hW.2.2.1
          · rw [hnm 24 (by omega) (by omega)]; exact hW.2.2.2.1
          · exact x2.2.1
          · exact x2.2.2.1
          · show I4 34 i = nI 0 ∨ I4 34 i = nI 1
            rw [q2 34 (by omega) (by omega) (by omega) (by omega) (by omega)]; exact hbw.1 i hi
          · show I4 (26 + k) 5 = nI 0 ∨ I4 (26 + k) 5 = nI 1
            rw [hnm _ (by omega) (by omega)]; exact hW.2.2.2.2 k hk
          · rw [hs0]
          · obtain ⟨p1, p2, p3⟩ := hit k (by omega)
            have hN := hNW k hk
            have hR84 := r84 k hk
            obtain ⟨y1, y2, y3⟩ := x2.2.2.2 k hk
            generalize (ps f m (m + 1) 0)[k] = p at p1 p2 p3 hN hR84
            obtain ⟨N0, N1, N2, N3, N4, N5⟩ := hN
            have v0 : I3 84 (8 * k) = nI (kl (f p)) := hR84 0 (by omega)
            have hkl : kl (f p) < 6 := by
              have := p3 0 (by omega)
              unfold fit at this
              rw [if_pos rfl, decide_eq_true_eq] at this
              exact this
            have v : ∀ w, 0 < w → w < 8 → I3 84 (8 * k + w) = nI (fg f p w) ∧ fg f p w ≤ gr w := fun w hw0 hw => by
              obtain ⟨a1, a2⟩ := fg_of (p3 w hw) hw0
              have := hR84 w hw
              unfold vl at this
              rw [if_neg (by omega), a1] at this
              exact ⟨this, a2⟩
            obtain ⟨v1, e1⟩ := v 1 (by omega) (by omega)
            obtain ⟨v2, e2⟩ := v 2 (by omega) (by omega)
            obtain ⟨v3, e3⟩ := v 3 (by omega) (by omega)
            obtain ⟨v4, e4⟩ := v 4 (by omega) (by omega)
            obtain ⟨v5, e5⟩ := v 5 (by omega) (by omega)
            obtain ⟨v6, e6⟩ := v 6 (by omega) (by omega)
            obtain ⟨v7, e7⟩ := v 7 (by omega) (by omega)
            have e1 : fg f p 1 ≤ 5 := e1
            have e2 : fg f p 2 ≤ 5 := e2
            have e3 : fg f p 3 ≤ 5 := e3
            have e4 : fg f p 4 ≤ 9 := e4
            have e5 : fg f p 5 ≤ 3 := e5
            have e6 : fg f p 6 ≤ 9 := e6
            have e7 : fg f p 7 ≤ 1 := e7
            have M2 := y3 2 (by omega) (by omega)
            have M3 := y3 3 (by omega) (by omega)
            have M4 := y3 4 (by omega) (by omega)
            have M5 := y3 5 (by omega) (by omega)
            have M6 := y3 6 (by omega) (by omega)
            have M7 := y3 7 (by omega) (by omega)
            generalize fg f p 1 = u1 at *
            generalize fg f p 2 = u2 at *
            generalize fg f p 3 = u3 at *
            generalize fg f p 4 = u4 at *
            generalize fg f p 5 = u5 at *
            generalize fg f p 6 = u6 at *
            generalize fg f p 7 = u7 at *
            generalize kl (f p) = u0 at *
            show NC I4 (26 + k) 0 k 0
            unfold NC tn
            rw [hnm (26 + k) (by omega) (by omega), N0, N1, N2, N3, N4, N5]
            simp only [Nat.zero_add]
            rw [cl_nI (show u0 < 2 ^ 31 by omega), cl_nI (show 36 * u1 + 6 * u2 + u3 < 2 ^ 31 by omega), cl_nI (show u4 < 2 ^ 31 by omega), cl_nI (show u5 < 2 ^ 31 by omega), cl_nI (show u6 < 2 ^ 31 by omega), cl_nI (show u7 < 2 ^ 31 by omega)]
            have aNe : aN (36 * u1 + 6 * u2 + u3) u7 0 = u1 := by
              unfold aN
              split <;> omega
            refine ⟨⟨rfl, hkl, ?_⟩, ⟨rfl, by omega, ?_, ?_⟩, ⟨rfl, by omega, ?_⟩, ⟨rfl, by omega, ?_⟩, ⟨rfl, by omega, ?_⟩, ⟨rfl, by omega, ?_⟩, ?_⟩
            · rw [y2, v0]
            · rw [show 11 + 7 * k = 9 + 7 * k + 2 by omega, M2, v2]; congr 1; omega
            · rw [show 12 + 7 * k = 9 + 7 * k + 3 by omega, M3, v3]; congr 1; omega
            · rw [show 13 + 7 * k = 9 + 7 * k + 4 by omega, M4, v4]
            · rw [show 14 + 7 * k = 9 + 7 * k + 5 by omega, M5, v5]
            · rw [show 15 + 7 * k = 9 + 7 * k + 6 by omega, M6, v6]
            · rw [show 16 + 7 * k = 9 + 7 * k + 7 by omega, M7, v7]
            · rw [y1, v1, aNe]
        · intro k hk
          refine Or.inl ⟨?_, x3 (1 + k) (by omega) (by omega), ?_⟩
          · rw [q1 _ (by omega) (by omega) (by omega)]; exact b3 k hk
          · have hb0 : BW I (36 + 11 * k) := by
              rcases w7 k hk with ⟨-, -, hb⟩ | ⟨_, _, _, -, hb⟩
              · exact hb
              · exact hb.2.1
            refine BW_up hb0 (fun i hi => ?_) (fun q hq => ?_)
            · rw [q2 _ (by omega) (by omega) (by omega) (by omega) (by omega)]
            · rw [q2 _ (by omega) (by omega) (by omega) (by omega) (by omega)]
end RG
