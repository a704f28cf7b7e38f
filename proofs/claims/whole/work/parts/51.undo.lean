/-! undo, keep, on -/
def u2 (I : Nat → Nat → Int32) (a b : Int32) : Nat → Nat → Int32 := fun c q => if c = 24 then (if q = 1 then a else if q = 4 then b else I 24 q) else I c q
theorem u2_1 (I : Nat → Nat → Int32) (a b a' : Int32) : xup (u2 I a b) 24 1 a' = u2 I a' b := by
  funext c q; simp only [xup, u2]; by_cases h : c = 24 <;> simp [h]
  by_cases h2 : q = 1 <;> simp [h2]
theorem u2_4 (I : Nat → Nat → Int32) (a b b' : Int32) : xup (u2 I a b) 24 4 b' = u2 I a b' := by
  funext c q; simp only [xup, u2]; by_cases h : c = 24 <;> simp [h]
  by_cases h2 : q = 4 <;> simp [h2]
theorem u2_i (I : Nat → Nat → Int32) : u2 I (I 24 1) (I 24 4) = I := by
  funext c q; simp only [u2]; by_cases h : c = 24
  · subst h; simp only [if_true]; by_cases h1 : q = 1
    · simp [h1]
    · by_cases h2 : q = 4 <;> simp [h1, h2]
  · simp [h]
theorem u2_ne (I : Nat → Nat → Int32) (a b : Int32) {c : Nat} (h : c ≠ 24) : u2 I a b c = I c := by
  funext q; simp [u2, h]
theorem u2_at (I : Nat → Nat → Int32) (a b : Int32) (q : Nat) : u2 I a b 24 q = if q = 1 then a else if q = 4 then b else I 24 q := by simp [u2]
section UU
variable (L : Nat) (I : Nat → Nat → Int32) (J : Nat → Nat → Int64)
theorem p4_undoFrom {n d yr m : Nat} (hR : RC I 24 0 n d yr) (hm : m ≤ d) : FX4_undoFrom [.ref 24, .int (nI m)] (S0 L I J) = some (some (.int (nI (d - m))), S0 L (xup (u2 I (nI (n - sayN I 24 m d)) (nI (yr - (d - m - sayN I 24 m d)))) 24 3 (nI m)) J) := by
  obtain ⟨⟨a1, a2, a3, a4, a5, a6, a7⟩, b, ⟨c1, c2⟩, hN, hP⟩ := hR
  rw [fX4_undoFrom]
  simp (disch := omega) only [eX4_undoFrom, xRl, xG1, xG2, kAll, rAll, nAll, List.map_nil, List.map_cons, List.sum_nil, List.sum_cons, Nat.reduceAdd, Nat.reduceSub, Nat.reduceMul, Nat.reduceLeDiff, Nat.reduceEqDiff, Nat.reduceLT, and_true, true_and, and_self, if_true, if_false, ne_eq, not_false_eq_true, not_true_eq_false, or_false, false_or, or_true, true_or, false_and, and_false, reduceIte, reduceCtorEq, xB, ite_not, xretf_zc, xretf_c, xcont_c, xbd, a4, pk_sub]
  have key := xloop (t := tX4_undoFrom) (st := fun i (_ : Unit) => (9, [.ref 24, .int (nI m), .int (nI (d - m)), .int (nI (m + i))], [], 0, S0 L (u2 I (nI (n - sayN I 24 m (m + i))) (nI (yr - (i - sayN I 24 m (m + i))))) J)) (g := fun _ _ => ()) (N := d - m) (Inv := fun _ _ => True) (a0 := ()) trivial (by
    intro i u hi _
    refine ⟨?_, trivial⟩
    have e1 : u2 I (nI (n - sayN I 24 m (m + i))) (nI (yr - (i - sayN I 24 m (m + i)))) 24 3 = nI d := by rw [u2_at]; exact a4
    have e2 : u2 I (nI (n - sayN I 24 m (m + i))) (nI (yr - (i - sayN I 24 m (m + i)))) 34 (m + i) = I 34 (m + i) := by rw [u2_ne _ _ _ (by decide)]
    have e3 : u2 I (nI (n - sayN I 24 m (m + i))) (nI (yr - (i - sayN I 24 m (m + i)))) 24 1 = nI (n - sayN I 24 m (m + i)) := by rw [u2_at]; rfl
    have e4 : u2 I (nI (n - sayN I 24 m (m + i))) (nI (yr - (i - sayN I 24 m (m + i)))) 24 4 = nI (yr - (i - sayN I 24 m (m + i))) := by rw [u2_at]; rfl
    have s1 := sayN_split I 24 (show m ≤ m + i by omega) (show m + i ≤ m + i + 1 by omega)
    have s2 := sayN_1 I 24 (m + i)
    have s3 := sayN_split I 24 (show 0 ≤ m by omega) hm
    have s4 := sayN_split I 24 (show m ≤ m + i + 1 by omega) (show m + i + 1 ≤ d by omega)
    have l1 := sayN_le I 24 0 m
    have l2 := sayN_le I 24 m (m + i)
    have l3 := sayN_le I 24 (m + i + 1) d
    show xD tX4_undoFrom (9, _) = _
    rw [hX4_undoFrom_9]
    simp (disch := omega) only [eX4_undoFrom, xRl, xG1, xG2, kAll, rAll, nAll, List.map_nil, List.map_cons, List.sum_nil, List.sum_cons, Nat.reduceAdd, Nat.reduceSub, Nat.reduceMul, Nat.reduceLeDiff, Nat.reduceEqDiff, Nat.reduceLT, and_true, true_and, and_self, if_true, if_false, ne_eq, not_false_eq_true, not_true_eq_false, or_false, false_or, or_true, true_or, false_and, and_false, reduceIte, reduceCtorEq, xB, ite_not, xretf_zc, xretf_c, xcont_c, xbd, e1, e2, e3, e4, nI_leI, nI_neg0, cl_nI, u2_1, u2_4, nI_add]
    rw [if_neg (by omega)]
    rcases b.1 (m + i) (by omega) with hb | hb
    · have hb' : I 34 (m + i) = nI 0 := hb
      rw [show (24 + 10 : Nat) = 34 from rfl, hb', if_neg (by decide)] at s2
      rw [hb', if_pos rfl, pk_sub (by omega), show m + i + 1 = m + (i + 1) by omega, show sayN I 24 m (m + (i + 1)) = sayN I 24 m (m + i) by rw [← Nat.add_assoc]; omega, show yr - (i - sayN I 24 m (m + i)) - 1 = yr - (i + 1 - sayN I 24 m (m + i)) by omega]
    · have hb' : I 34 (m + i) = nI 1 := hb
      rw [show (24 + 10 : Nat) = 34 from rfl, hb', if_pos rfl] at s2
      rw [hb', if_neg (by decide), pk_sub (by omega), show m + i + 1 = m + (i + 1) by omega, show sayN I 24 m (m + (i + 1)) = sayN I 24 m (m + i) + 1 by rw [← Nat.add_assoc]; omega, show n - sayN I 24 m (m + i) - 1 = n - (sayN I 24 m (m + i) + 1) by omega, show i + 1 - (sayN I 24 m (m + i) + 1) = i - sayN I 24 m (m + i) by omega]) (d - m) (Nat.le_refl (d - m))
  have k0 := key.1
  have z0 : sayN I 24 m m = 0 := by unfold sayN; rw [Nat.sub_self]; rfl
  simp only [Nat.add_zero, z0, Nat.sub_zero] at k0
  rw [← a3, ← a5, u2_i, show m + (d - m) = d by omega] at k0
  rw [k0, hX4_undoFrom_9]
  have e1 : u2 I (nI (n - sayN I 24 m d)) (nI (yr - (d - m - sayN I 24 m d))) 24 3 = nI d := by rw [u2_at]; exact a4
  simp (disch := omega) only [eX4_undoFrom, xRl, xG1, xG2, kAll, rAll, nAll, List.map_nil, List.map_cons, List.sum_nil, List.sum_cons, Nat.reduceAdd, Nat.reduceSub, Nat.reduceMul, Nat.reduceLeDiff, Nat.reduceEqDiff, Nat.reduceLT, and_true, true_and, and_self, if_true, if_false, ne_eq, not_false_eq_true, not_true_eq_false, or_false, false_or, or_true, true_or, false_and, and_false, reduceIte, reduceCtorEq, xB, ite_not, xretf_zc, xretf_c, xcont_c, xbd, e1, nI_leI]
  rw [if_pos (Nat.le_refl d)]
theorem RC_undo {n d yr m : Nat} (hR : RC I 24 0 n d yr) (hm : m < d) {I2 : Nat → Nat → Int32} (p1 : ∀ c, c ≠ 24 → c ≠ 78 → I2 c = I c) (p2 : I2 24 1 = nI (n - sayN I 24 m d) ∧ I2 24 3 = nI m ∧ I2 24 4 = nI (yr - (d - m - sayN I 24 m d))) (p3 : I2 78 0 = nI m) (p4 : ∀ k, k < 9 → I2 78 (1 + k) = I 78 (66 + 9 * m + k)) (p5 : ∀ q, 10 ≤ q → I2 78 q = I 78 q) : RC I2 24 0 (n - sayN I 24 m d) m (yr - (d - m - sayN I 24 m d)) := by
  obtain ⟨⟨a1, a2, a3, a4, a5, a6, a7⟩, b, ⟨c1, c2⟩, hN, hP⟩ := hR
  have es : ∀ i, sayN I2 24 i m = sayN I 24 i m := fun i => sayN_cong (fun j _ _ => by rw [p1 34 (by decide) (by decide)])
  have s3 := sayN_split I 24 (show 0 ≤ m by omega) (show m ≤ d by omega)
  have l1 := sayN_le I 24 0 m
  have l2 := sayN_le I 24 m d
  obtain ⟨g1, g2⟩ := hP m hm
  simp only [Nat.zero_add] at g1 g2
  refine ⟨⟨by omega, by omega, p2.1, p2.2.1, p2.2.2, p3, ?_⟩, BW_up b (fun i _ => by rw [p1 _ (by decide) (by decide)]) (fun k hk => by rw [p1 _ (by omega) (by omega)]), ⟨by rw [es]; omega, by rw [es]; omega⟩, fun k hk => ?_, fun i hi => ?_⟩
  · have := p4 0 (by omega)
    rw [show 0 + 1 = 1 + 0 by omega, this, Nat.add_zero, g1]
  · have hN1 := hN k (by omega)
    unfold NC at hN1 ⊢
    rw [p5 (0 + 10 + 7 * k) (by omega), p5 (0 + 11 + 7 * k) (by omega), p5 (0 + 12 + 7 * k) (by omega), p5 (0 + 13 + 7 * k) (by omega), p5 (0 + 14 + 7 * k) (by omega), p5 (0 + 15 + 7 * k) (by omega), p5 (0 + 16 + 7 * k) (by omega), p1 _ (by omega) (by omega)]
    obtain ⟨t1, t2, t3, t4, t5, t6, t7⟩ := hN1
    refine ⟨t1, t2, t3, t4, t5, t6, ?_⟩
    rw [show 0 + 2 + k = 1 + (1 + k) by omega, p4 (1 + k) (by omega), ← Nat.add_assoc, show 66 + 9 * m + 1 + k = 67 + 9 * m + k by omega, g2 k hk]
  · obtain ⟨q1, q2⟩ := hP i (by omega)
    have s4 := sayN_split I 24 (show i ≤ m by omega) (show m ≤ d by omega)
    have l3 := sayN_le I 24 i m
    have s5 := sayN_split I 24 (show 0 ≤ i by omega) (show i ≤ m by omega)
    have l4 := sayN_le I 24 0 i
    rw [es, p5 _ (by omega), q1]
    refine ⟨by congr 1; omega, fun k hk => ?_⟩
    rw [p5 _ (by omega), p1 _ (by omega) (by omega), q2 k (by omega)]
    congr 2
    omega
theorem pr_undo (h : Cp I J) (x : Int32) : Pair L FX8_undo FX9_undo [.int x] I J := by
  obtain ⟨n, d, yr, hR⟩ := h.2.2.2.2.2.2.1
  have hd := hR.1.2.1
  have h3 := hR.1.2.2.2.1
  have m0 : I 78 0 = nI d := hR.1.2.2.2.2.2.1
  by_cases hx : nI 0 ≤ x ∧ x < nI (d + 1)
  · obtain ⟨m, hm, rfl⟩ := (Am_iff (by omega)).mp hx
    have ha := p4_undoFrom L I J hR (show m ≤ d by omega)
    generalize hI1 : xup (u2 I (nI (n - sayN I 24 m d)) (nI (yr - (d - m - sayN I 24 m d)))) 24 3 (nI m) = I1 at ha
    have o1 : ∀ c, c ≠ 24 → I1 c = I c := fun c hc => by rw [← hI1, xup_ne _ _ _ hc, u2_ne _ _ _ hc]
    have o2 : ∀ q, I1 24 q = if q = 3 then nI m else if q = 1 then nI (n - sayN I 24 m d) else if q = 4 then nI (yr - (d - m - sayN I 24 m d)) else I 24 q := fun q => by rw [← hI1, xup_self, u2_at]
    have r0 : I1 78 0 = nI d := by rw [o1 78 (by decide)]; exact m0
    have hx2 : nI 0 ≤ nI m ∧ nI m ≤ nI d := ⟨hx.1, nI_le (by omega) (by omega)⟩
    refine ⟨.int (nI (d - m)), I1, J, xup (mv1 I1 78 (66 + 9 * m) 1 (if m = d then 0 else 9)) 78 0 (nI m), J, ?_, ?_, ?_⟩
    · rw [fX8_undo]
      simp (disch := omega) only [eX8_undo, xRl, xG1, xG2, kAll, rAll, nAll, List.map_nil, List.map_cons, List.sum_nil, List.sum_cons, Nat.reduceAdd, Nat.reduceSub, Nat.reduceMul, Nat.reduceLeDiff, Nat.reduceEqDiff, Nat.reduceLT, and_true, true_and, and_self, if_true, if_false, ne_eq, not_false_eq_true, not_true_eq_false, or_false, false_or, or_true, true_or, false_and, and_false, reduceIte, reduceCtorEq, xB, ite_not, xretf_zc, xretf_c, xcont_c, xbd, h3, p8_among, nI_add, hx, ha]
    · rw [fX9_undo]
      simp (disch := omega) only [eX9_undo, xRl, xG1, xG2, kAll, rAll, nAll, List.map_nil, List.map_cons, List.sum_nil, List.sum_cons, Nat.reduceAdd, Nat.reduceSub, Nat.reduceMul, Nat.reduceLeDiff, Nat.reduceEqDiff, Nat.reduceLT, and_true, true_and, and_self, if_true, if_false, ne_eq, not_false_eq_true, not_true_eq_false, or_false, false_or, or_true, true_or, false_and, and_false, reduceIte, reduceCtorEq, xB, ite_not, xretf_zc, xretf_c, xcont_c, xbd, r0, nI_neg0, cl_nI, p9_inV, hx2, pk_sub]
      by_cases hmd : m = d
      · rw [hX9_undo_29, if_pos hmd]
        subst hmd
        have e0 : nI (m - m) = nI 0 := by rw [Nat.sub_self]
        rw [e0]
        simp (disch := omega) only [eX9_undo, xRl, xG1, xG2, kAll, rAll, nAll, List.map_nil, List.map_cons, List.sum_nil, List.sum_cons, Nat.reduceAdd, Nat.reduceSub, Nat.reduceMul, Nat.reduceLeDiff, Nat.reduceEqDiff, Nat.reduceLT, and_true, true_and, and_self, if_true, if_false, ne_eq, not_false_eq_true, not_true_eq_false, or_false, false_or, or_true, true_or, false_and, and_false, reduceIte, reduceCtorEq, xB, ite_not, xretf_zc, xretf_c, xcont_c, xbd, nI_leI, nI_ltI, nI_neg0, cl_nI, mv1_0]
      · have key := xloop (t := tX9_undo) (st := fun i (_ : Unit) => (29, [.ref 77, .int (nI m), .int (nI (d - m)), .int (nI i)], [], 0, S0 L (mv1 I1 78 (66 + 9 * m) 1 i) J)) (g := fun _ _ => ()) (N := 9) (Inv := fun _ _ => True) (a0 := ()) trivial (by
          intro i u hi _
          refine ⟨?_, trivial⟩
          have e2 : mv1 I1 78 (66 + 9 * m) 1 i 78 (66 + 9 * m + i) = I1 78 (66 + 9 * m + i) := mv1_out _ (by omega)
          show xD tX9_undo (29, _) = _
          rw [hX9_undo_29]
          simp (disch := omega) only [eX9_undo, xRl, xG1, xG2, kAll, rAll, nAll, List.map_nil, List.map_cons, List.sum_nil, List.sum_cons, Nat.reduceAdd, Nat.reduceSub, Nat.reduceMul, Nat.reduceLeDiff, Nat.reduceEqDiff, Nat.reduceLT, and_true, true_and, and_self, if_true, if_false, ne_eq, not_false_eq_true, not_true_eq_false, or_false, false_or, or_true, true_or, false_and, and_false, reduceIte, reduceCtorEq, xB, ite_not, xretf_zc, xretf_c, xcont_c, xbd, nI_leI, nI_ltI, nI_neg0, cl_nI, e2, nI_add, pk_mul]
          rw [if_neg (by omega)]
          first | rw [if_neg (by omega)] | rw [if_pos (by omega)]
          rw [mv1_s]) 9 (Nat.le_refl 9)
        have k0 := key.1
        simp only [mv1_0] at k0
        rw [k0, hX9_undo_29, if_neg hmd]
        simp (disch := omega) only [eX9_undo, xRl, xG1, xG2, kAll, rAll, nAll, List.map_nil, List.map_cons, List.sum_nil, List.sum_cons, Nat.reduceAdd, Nat.reduceSub, Nat.reduceMul, Nat.reduceLeDiff, Nat.reduceEqDiff, Nat.reduceLT, and_true, true_and, and_self, if_true, if_false, ne_eq, not_false_eq_true, not_true_eq_false, or_false, false_or, or_true, true_or, false_and, and_false, reduceIte, reduceCtorEq, xB, ite_not, xretf_zc, xretf_c, xcont_c, xbd, nI_leI, nI_ltI, nI_neg0, cl_nI]
    · by_cases hmd : m = d
      · subst hmd
        have z0 : sayN I 24 m m = 0 := by unfold sayN; rw [Nat.sub_self]; rfl
        have e1 : I1 = I := by
          rw [← hI1, z0, Nat.sub_self, Nat.sub_zero, Nat.zero_sub, Nat.sub_zero, ← hR.1.2.2.1, ← hR.1.2.2.2.2.1, u2_i, ← h3, xup_same]
        rw [if_pos rfl, mv1_0, e1, ← m0, xup_same]
        exact h
      · rw [if_neg hmd]
        refine Cp_reg h (fun c g1 g2 => ?_) (fun i hi => ?_) ⟨_, _, _, RC_undo I hR (show m < d by omega) (fun c g1 g2 => ?_) ⟨?_, ?_, ?_⟩ ?_ (fun k hk => ?_) (fun q hq => ?_)⟩
        · rw [xup_ne _ _ _ g2, mv1_ne _ _ _ _ g2, o1 _ (by omega)]
        · rw [xup_self, if_neg (by omega), mv1_out _ (by omega), o1 _ (by omega)]
        · rw [xup_ne _ _ _ g2, mv1_ne _ _ _ _ g2, o1 _ g1]
        · rw [xup_ne _ _ _ (by decide), mv1_ne _ _ _ _ (by decide), o2]; rfl
        · rw [xup_ne _ _ _ (by decide), mv1_ne _ _ _ _ (by decide), o2]; rfl
        · rw [xup_ne _ _ _ (by decide), mv1_ne _ _ _ _ (by decide), o2]; rfl
        · rw [xup_self, if_pos rfl]
        · rw [xup_self, if_neg (by omega), mv1_in _ hk, o1 _ (by decide)]
        · rw [xup_self, if_neg (by omega), mv1_out _ (by omega), o1 _ (by decide)]
  · refine ⟨.int (-1), I, J, I, J, ?_, ?_, h⟩
    · rw [fX8_undo]
      simp (disch := omega) only [eX8_undo, xRl, xG1, xG2, kAll, rAll, nAll, List.map_nil, List.map_cons, List.sum_nil, List.sum_cons, Nat.reduceAdd, Nat.reduceSub, Nat.reduceMul, Nat.reduceLeDiff, Nat.reduceEqDiff, Nat.reduceLT, and_true, true_and, and_self, if_true, if_false, ne_eq, not_false_eq_true, not_true_eq_false, or_false, false_or, or_true, true_or, false_and, and_false, reduceIte, reduceCtorEq, xB, ite_not, xretf_zc, xretf_c, xcont_c, xbd, h3, p8_among, nI_add, hx]
    · have hx2 : ¬ (nI 0 ≤ x ∧ x ≤ nI d) := fun q => hx ⟨q.1, (le_lt (by omega)).mp q.2⟩
      rw [fX9_undo]
      simp (disch := omega) only [eX9_undo, xRl, xG1, xG2, kAll, rAll, nAll, List.map_nil, List.map_cons, List.sum_nil, List.sum_cons, Nat.reduceAdd, Nat.reduceSub, Nat.reduceMul, Nat.reduceLeDiff, Nat.reduceEqDiff, Nat.reduceLT, and_true, true_and, and_self, if_true, if_false, ne_eq, not_false_eq_true, not_true_eq_false, or_false, false_or, or_true, true_or, false_and, and_false, reduceIte, reduceCtorEq, xB, ite_not, xretf_zc, xretf_c, xcont_c, xbd, m0, nI_neg0, cl_nI, p9_inV, hx2]
/-! keep, on -/
def isG (g : Nat) : Prop := g = 24 ∨ g = 36 ∨ g = 47 ∨ g = 58
theorem kG {g : Nat} (h : isG g) : (K0 g = 4 ∧ R0 g 0 = g + 1 ∧ R0 g 2 = g + 10 ∧ K0 (g + 1) = 12 ∧ N0 L (g + 1) = 8 ∧ K0 (g + 10) = 11 ∧ N0 L (g + 10) = 40) ∧ ∀ j, j < 8 → K0 (g + 2 + j) = 2 ∧ R0 (g + 1) j = g + 2 + j := by
  rcases h with rfl | rfl | rfl | rfl
  all_goals exact ⟨⟨rfl, rfl, rfl, rfl, rfl, rfl, rfl⟩, by decide⟩
def tk (I : Nat → Nat → Int32) (a b : Nat) : Nat → Nat → Int32 := fun c q => if c = a ∧ q < 6 then I b q else I c q
theorem b_01 {x : Int32} (h : x = nI 0 ∨ x = nI 1) : (x = 0 ∨ x = 1) ↔ True := ⟨fun _ => trivial, fun _ => h⟩
theorem p2_takeFrom {a b : Nat} (ha : K0 a = 2) (hb : K0 b = 2) (hab : b ≠ a) (h5 : I b 5 = nI 0 ∨ I b 5 = nI 1) : FX2_takeFrom [.ref a, .ref b] (S0 L I J) = some (none, S0 L (tk I a b) J) := by
  have e : ∀ (f : Nat → Nat → Int32) k q v, xup f a k v b q = f b q := fun f k q v => xup_o _ _ _ _ hab
  rw [fX2_takeFrom]
  simp (disch := omega) only [eX2_takeFrom, xRl, xG1, xG2, kAll, rAll, nAll, List.map_nil, List.map_cons, List.sum_nil, List.sum_cons, Nat.reduceAdd, Nat.reduceSub, Nat.reduceMul, Nat.reduceLeDiff, Nat.reduceEqDiff, Nat.reduceLT, and_true, true_and, and_self, if_true, if_false, ne_eq, not_false_eq_true, not_true_eq_false, or_false, false_or, or_true, true_or, false_and, and_false, reduceIte, reduceCtorEq, xB, ite_not, xretf_zc, xretf_c, xcont_c, xbd, ha, hb, e, b_01 h5]
  have e2 : xup (xup (xup (xup (xup (xup I a 0 (I b 0)) a 1 (I b 1)) a 2 (I b 2)) a 3 (I b 3)) a 4 (I b 4)) a 5 (I b 5) = tk I a b := by
    funext c q
    unfold tk
    by_cases hc : c = a
    · subst hc
      simp only [xup_self, true_and]
      by_cases h6 : q < 6
      · have : q = 0 ∨ q = 1 ∨ q = 2 ∨ q = 3 ∨ q = 4 ∨ q = 5 := by omega
        rcases this with rfl | rfl | rfl | rfl | rfl | rfl <;> simp
      · rw [if_neg h6, if_neg (by omega), if_neg (by omega), if_neg (by omega), if_neg (by omega), if_neg (by omega), if_neg (by omega)]
    · repeat rw [xup_o _ _ _ _ hc]
      rw [if_neg (fun z => hc z.1)]
  rw [e2]
/-- registry g taken from registry h: the first m names, the first w deeds -/
def bc (I : Nat → Nat → Int32) (g h m w : Nat) : Nat → Nat → Int32 := fun c q => if c = g ∧ (q = 1 ∨ q = 3 ∨ q = 4) then I h q else if (g + 2 ≤ c ∧ c < g + 2 + m) ∧ q < 6 then I (h + 2 + (c - (g + 2))) q else if c = g + 10 ∧ q < w then I (h + 10) q else I c q
theorem bc_out (g h m w : Nat) (hm : m ≤ 8) {c : Nat} (hc : ¬ (g ≤ c ∧ c ≤ g + 10)) : bc I g h m w c = I c := by
  funext q; unfold bc; rw [if_neg (by omega), if_neg (by omega), if_neg (by omega)]
theorem bc_n (g h m : Nat) (hm : m < 8) (hgh : ¬ (g ≤ h + 2 + m ∧ h + 2 + m ≤ g + 10)) : tk (bc I g h m 0) (g + 2 + m) (h + 2 + m) = bc I g h (m + 1) 0 := by
  funext c q
  unfold tk
  by_cases h1 : c = g + 2 + m ∧ q < 6
  · rw [if_pos h1, bc_out I g h m 0 (by omega) hgh]
    unfold bc
    rw [if_neg (by omega), if_pos (by omega), show h + 2 + (c - (g + 2)) = h + 2 + m by omega]
  · rw [if_neg h1]
    unfold bc
    by_cases h2 : c = g ∧ (q = 1 ∨ q = 3 ∨ q = 4)
    · rw [if_pos h2, if_pos h2]
    · rw [if_neg h2, if_neg h2]
      by_cases h3 : (g + 2 ≤ c ∧ c < g + 2 + m) ∧ q < 6
      · rw [if_pos h3, if_pos (by omega)]
      · rw [if_neg h3, if_neg (show ¬ ((g + 2 ≤ c ∧ c < g + 2 + (m + 1)) ∧ q < 6) by omega)]
theorem bc_10 (g h w q : Nat) : bc I g h 8 w (g + 10) q = if q < w then I (h + 10) q else I (g + 10) q := by
  unfold bc
  rw [if_neg (by omega), if_neg (by omega)]
  simp
theorem bc_d (g h w : Nat) : xup (bc I g h 8 w) (g + 10) w (I (h + 10) w) = bc I g h 8 (w + 1) := by
  funext c q
  by_cases h1 : c = g + 10
  · subst h1
    rw [xup_self, bc_10, bc_10]
    by_cases h2 : q = w
    · subst h2; rw [if_pos rfl, if_pos (by omega)]
    · rw [if_neg h2]
      by_cases h3 : q < w
      · rw [if_pos h3, if_pos (by omega)]
      · rw [if_neg h3, if_neg (by omega)]
  · rw [xup_o _ _ _ _ h1]
    unfold bc
    by_cases h2 : c = g ∧ (q = 1 ∨ q = 3 ∨ q = 4)
    · rw [if_pos h2, if_pos h2]
    · rw [if_neg h2, if_neg h2]
      by_cases h3 : (g + 2 ≤ c ∧ c < g + 2 + 8) ∧ q < 6
      · rw [if_pos h3, if_pos h3]
      · rw [if_neg h3, if_neg h3, if_neg (fun z => h1 z.1), if_neg (fun z => h1 z.1)]
theorem p4_become {g h : Nat} (hg : isG g) (hh : isG h) (hgh : g ≠ h) (hb : BW I h) : FX4_become [.ref g, .ref h] (S0 L I J) = some (none, S0 L (bc I g h 8 40) J) := by
  obtain ⟨⟨g1, g2, g3, g4, g5, g6, g7⟩, g8⟩ := kG L hg
  obtain ⟨⟨h1, h2, h3, h4, h5, h6, h7⟩, h8⟩ := kG L hh
  have hsep : ∀ x, x ≤ 10 → ¬ (g ≤ h + x ∧ h + x ≤ g + 10) := by
    intro x hx
    unfold isG at hg hh
    omega
  have g0 : ¬ g + 1 = 0 := by omega
  have h0 : ¬ h + 1 = 0 := by omega
  have g10 : ¬ g + 10 = 0 := by omega
  have h10 : ¬ h + 10 = 0 := by omega
  have e : ∀ (f : Nat → Nat → Int32) k q v, xup f g k v h q = f h q := fun f k q v => xup_o _ _ _ _ (Ne.symm hgh)
  have e0 : xup (xup (xup I g 1 (I h 1)) g 3 (I h 3)) g 4 (I h 4) = bc I g h 0 0 := by
    funext c q
    unfold bc
    rw [if_neg (show ¬ ((g + 2 ≤ c ∧ c < g + 2 + 0) ∧ q < 6) by omega), if_neg (show ¬ (c = g + 10 ∧ q < 0) by omega)]
    by_cases hc : c = g
    · subst hc
      simp only [xup_self, true_and]
      by_cases q1 : q = 1
      · subst q1; rfl
      · by_cases q3 : q = 3
        · subst q3; rfl
        · by_cases q4 : q = 4
          · subst q4; rfl
          · simp [q1, q3, q4]
    · rw [xup_o _ _ _ _ hc, xup_o _ _ _ _ hc, xup_o _ _ _ _ hc, if_neg (fun z => hc z.1)]
  rw [fX4_become]
  simp (disch := omega) only [eX4_become, xRl, xG1, xG2, kAll, rAll, nAll, List.map_nil, List.map_cons, List.sum_nil, List.sum_cons, Nat.reduceAdd, Nat.reduceSub, Nat.reduceMul, Nat.reduceLeDiff, Nat.reduceEqDiff, Nat.reduceLT, and_true, true_and, and_self, if_true, if_false, ne_eq, not_false_eq_true, not_true_eq_false, or_false, false_or, or_true, true_or, false_and, and_false, reduceIte, reduceCtorEq, xB, ite_not, xretf_zc, xretf_c, xcont_c, xbd, g1, h1, e, e0]
  have key := xloop (t := tX4_become) (st := fun i (_ : Unit) => (26, [.ref g, .ref h, .int (nI i)], [], 0, S0 L (bc I g h i 0) J)) (g := fun _ _ => ()) (N := 8) (Inv := fun _ _ => True) (a0 := ()) trivial (by
    intro i u hi _
    refine ⟨?_, trivial⟩
    obtain ⟨ga, gb⟩ := g8 i hi
    obtain ⟨hc, hd⟩ := h8 i hi
    have z1 : ¬ g + 2 + i = 0 := by omega
    have z2 : ¬ h + 2 + i = 0 := by omega
    have hsp : ¬ (g ≤ h + 2 + i ∧ h + 2 + i ≤ g + 10) := by have := hsep (2 + i) (by omega); omega
    have e5 : bc I g h i 0 (h + 2 + i) 5 = nI 0 ∨ bc I g h i 0 (h + 2 + i) 5 = nI 1 := by
      rw [bc_out I g h i 0 (by omega) hsp]
      exact hb.2 i hi
    have e6 := p2_takeFrom L (bc I g h i 0) J ga hc (by have := hsep (2 + i) (by omega); omega) e5
    rw [bc_n I g h i hi hsp] at e6
    show xD tX4_become (26, _) = _
    rw [hX4_become_26]
    simp (disch := omega) only [eX4_become, xRl, xG1, xG2, kAll, rAll, nAll, List.map_nil, List.map_cons, List.sum_nil, List.sum_cons, Nat.reduceAdd, Nat.reduceSub, Nat.reduceMul, Nat.reduceLeDiff, Nat.reduceEqDiff, Nat.reduceLT, and_true, true_and, and_self, if_true, if_false, ne_eq, not_false_eq_true, not_true_eq_false, or_false, false_or, or_true, true_or, false_and, and_false, reduceIte, reduceCtorEq, xB, ite_not, xretf_zc, xretf_c, xcont_c, xbd, nI_leI, nI_neg0, cl_nI, g1, g2, g4, g5, h1, h2, h4, h5, g0, h0, ga, gb, hc, hd, z1, z2, e6, nI_add]
    rw [if_neg (by omega)]) 8 (Nat.le_refl 8)
  rw [key.1, hX4_become_26]
  simp (disch := omega) only [eX4_become, xRl, xG1, xG2, kAll, rAll, nAll, List.map_nil, List.map_cons, List.sum_nil, List.sum_cons, Nat.reduceAdd, Nat.reduceSub, Nat.reduceMul, Nat.reduceLeDiff, Nat.reduceEqDiff, Nat.reduceLT, and_true, true_and, and_self, if_true, if_false, ne_eq, not_false_eq_true, not_true_eq_false, or_false, false_or, or_true, true_or, false_and, and_false, reduceIte, reduceCtorEq, xB, ite_not, xretf_zc, xretf_c, xcont_c, xbd, nI_leI]
  have key2 := xloop (t := tX4_become) (st := fun i (_ : Unit) => (55, [.ref g, .ref h, .int (nI i)], [], 0, S0 L (bc I g h 8 i) J)) (g := fun _ _ => ()) (N := 40) (Inv := fun _ _ => True) (a0 := ()) trivial (by
    intro i u hi _
    refine ⟨?_, trivial⟩
    have e5 : bc I g h 8 i (h + 10) i = I (h + 10) i := by rw [bc_out I g h 8 i (by omega) (hsep 10 (by omega))]
    have e6 := bc_d I g h i
    show xD tX4_become (55, _) = _
    rw [hX4_become_55]
    simp (disch := omega) only [eX4_become, xRl, xG1, xG2, kAll, rAll, nAll, List.map_nil, List.map_cons, List.sum_nil, List.sum_cons, Nat.reduceAdd, Nat.reduceSub, Nat.reduceMul, Nat.reduceLeDiff, Nat.reduceEqDiff, Nat.reduceLT, and_true, true_and, and_self, if_true, if_false, ne_eq, not_false_eq_true, not_true_eq_false, or_false, false_or, or_true, true_or, false_and, and_false, reduceIte, reduceCtorEq, xB, ite_not, xretf_zc, xretf_c, xcont_c, xbd, nI_leI, nI_neg0, cl_nI, g1, g3, g6, g7, h1, h3, h6, h7, g10, h10, e5, b_01 (hb.1 i hi), e6, nI_add]
    rw [if_neg (by omega)]) 40 (Nat.le_refl 40)
  rw [key2.1, hX4_become_55]
  simp (disch := omega) only [eX4_become, xRl, xG1, xG2, kAll, rAll, nAll, List.map_nil, List.map_cons, List.sum_nil, List.sum_cons, Nat.reduceAdd, Nat.reduceSub, Nat.reduceMul, Nat.reduceLeDiff, Nat.reduceEqDiff, Nat.reduceLT, and_true, true_and, and_self, if_true, if_false, ne_eq, not_false_eq_true, not_true_eq_false, or_false, false_or, or_true, true_or, false_and, and_false, reduceIte, reduceCtorEq, xB, ite_not, xretf_zc, xretf_c, xcont_c, xbd, nI_leI]
theorem p9_copyRegistry {a b : Nat} (ha : a + 426 ≤ 1704) (hb : b + 426 ≤ 1704) (hab : a + 426 ≤ b ∨ b + 426 ≤ a) : FX9_copyRegistry [.ref 77, .int (nI a), .int (nI b)] (S0 L I J) = some (none, S0 L (mv1 I 78 a b 426) J) := by
  rw [fX9_copyRegistry]
  simp (disch := omega) only [eX9_copyRegistry, xRl, xG1, xG2, kAll, rAll, nAll, List.map_nil, List.map_cons, List.sum_nil, List.sum_cons, Nat.reduceAdd, Nat.reduceSub, Nat.reduceMul, Nat.reduceLeDiff, Nat.reduceEqDiff, Nat.reduceLT, and_true, true_and, and_self, if_true, if_false, ne_eq, not_false_eq_true, not_true_eq_false, or_false, false_or, or_true, true_or, false_and, and_false, reduceIte, reduceCtorEq, xB, ite_not, xretf_zc, xretf_c, xcont_c, xbd]
  have key := xloop (t := tX9_copyRegistry) (st := fun i (_ : Unit) => (2, [.ref 77, .int (nI a), .int (nI b), .int (nI i)], [], 0, S0 L (mv1 I 78 a b i) J)) (g := fun _ _ => ()) (N := 426) (Inv := fun _ _ => True) (a0 := ()) trivial (by
    intro i u hi _
    refine ⟨?_, trivial⟩
    have e2 : mv1 I 78 a b i 78 (a + i) = I 78 (a + i) := mv1_out _ (by omega)
    show xD tX9_copyRegistry (2, _) = _
    rw [hX9_copyRegistry_2]
    simp (disch := omega) only [eX9_copyRegistry, xRl, xG1, xG2, kAll, rAll, nAll, List.map_nil, List.map_cons, List.sum_nil, List.sum_cons, Nat.reduceAdd, Nat.reduceSub, Nat.reduceMul, Nat.reduceLeDiff, Nat.reduceEqDiff, Nat.reduceLT, and_true, true_and, and_self, if_true, if_false, ne_eq, not_false_eq_true, not_true_eq_false, or_false, false_or, or_true, true_or, false_and, and_false, reduceIte, reduceCtorEq, xB, ite_not, xretf_zc, xretf_c, xcont_c, xbd, nI_leI, nI_neg0, cl_nI, e2, nI_add]
    rw [if_neg (by omega), mv1_s]) 426 (Nat.le_refl 426)
  have k0 := key.1
  simp only [mv1_0] at k0
  rw [k0, hX9_copyRegistry_2]
  simp (disch := omega) only [eX9_copyRegistry, xRl, xG1, xG2, kAll, rAll, nAll, List.map_nil, List.map_cons, List.sum_nil, List.sum_cons, Nat.reduceAdd, Nat.reduceSub, Nat.reduceMul, Nat.reduceLeDiff, Nat.reduceEqDiff, Nat.reduceLT, and_true, true_and, and_self, if_true, if_false, ne_eq, not_false_eq_true, not_true_eq_false, or_false, false_or, or_true, true_or, false_and, and_false, reduceIte, reduceCtorEq, xB, ite_not, xretf_zc, xretf_c, xcont_c, xbd, nI_leI]
/-- a registry that equals another is coupled as that is -/
theorem RC_copy {I2 : Nat → Nat → Int32} {g h o p n d yr : Nat} (hR : RC I h p n d yr) (e1 : I2 g 1 = I h 1 ∧ I2 g 3 = I h 3 ∧ I2 g 4 = I h 4) (e2 : ∀ k q, k < 8 → q < 6 → I2 (g + 2 + k) q = I (h + 2 + k) q) (e3 : ∀ i, i < 40 → I2 (g + 10) i = I (h + 10) i) (e4 : ∀ i, i < 426 → I2 78 (o + i) = I 78 (p + i)) : RC I2 g o n d yr := by
  obtain ⟨⟨a1, a2, a3, a4, a5, a6, a7⟩, b, ⟨c1, c2⟩, hN, hP⟩ := hR
  have es : ∀ i, sayN I2 g i d = sayN I h i d := fun i => sayN_cong (fun j _ hj => e3 j (by omega))
  have e4' : ∀ x, x < 426 → I2 78 (o + x) = I 78 (p + x) := e4
  refine ⟨⟨a1, a2, by rw [e1.1]; exact a3, by rw [e1.2.1]; exact a4, by rw [e1.2.2]; exact a5, by have := e4 0 (by omega); rw [Nat.add_zero, Nat.add_zero] at this; rw [this]; exact a6, by rw [e4 1 (by omega)]; exact a7⟩, ⟨fun i hi => by rw [e3 i hi]; exact b.1 i hi, fun k hk => by rw [e2 k 5 hk (by omega)]; exact b.2 k hk⟩, ⟨by rw [es]; exact c1, by rw [es]; exact c2⟩, fun k hk => ?_, fun i hi => ?_⟩
  · have hN1 := hN k hk
    unfold NC at hN1 ⊢
    rw [e2 k 0 (by omega) (by omega), e2 k 1 (by omega) (by omega), e2 k 2 (by omega) (by omega), e2 k 3 (by omega) (by omega), e2 k 4 (by omega) (by omega), e2 k 5 (by omega) (by omega)]
    rw [Nat.add_assoc o 10, e4 (10 + 7 * k) (by omega), Nat.add_assoc o 11, e4 (11 + 7 * k) (by omega), Nat.add_assoc o 12, e4 (12 + 7 * k) (by omega), Nat.add_assoc o 13, e4 (13 + 7 * k) (by omega), Nat.add_assoc o 14, e4 (14 + 7 * k) (by omega), Nat.add_assoc o 15, e4 (15 + 7 * k) (by omega), Nat.add_assoc o 16, e4 (16 + 7 * k) (by omega), Nat.add_assoc o 2, e4 (2 + k) (by omega)]
    simp only [← Nat.add_assoc]
    exact hN1
  · obtain ⟨q1, q2⟩ := hP i hi
    rw [es, Nat.add_assoc o 66, e4 (66 + 9 * i) (by omega), ← Nat.add_assoc]
    refine ⟨q1, fun k hk => ?_⟩
    rw [show o + 67 + 9 * i + k = o + (67 + 9 * i + k) by omega, e4 _ (by omega), e2 k 1 (by omega) (by omega), e2 k 5 (by omega) (by omega), show p + (67 + 9 * i + k) = p + 67 + 9 * i + k by omega]
    exact q2 k hk
theorem bc_RC {g h o p n d yr : Nat} (hR : RC I h p n d yr) (hg : isG g) : RC (mv1 (bc I g h 8 40) 78 p o 426) g o n d yr := by
  have hg78 : g + 10 < 78 := by unfold isG at hg; omega
  refine RC_copy I hR ⟨?_, ?_, ?_⟩ (fun k q hk hq => ?_) (fun i hi => ?_) (fun i hi => ?_)
  · rw [mv1_ne _ _ _ _ (by omega)]; unfold bc; rw [if_pos (by omega)]
  · rw [mv1_ne _ _ _ _ (by omega)]; unfold bc; rw [if_pos (by omega)]
  · rw [mv1_ne _ _ _ _ (by omega)]; unfold bc; rw [if_pos (by omega)]
  · rw [mv1_ne _ _ _ _ (by omega)]; unfold bc; rw [if_neg (by omega), if_pos (by omega), show h + 2 + (g + 2 + k - (g + 2)) = h + 2 + k by omega]
  · rw [mv1_ne _ _ _ _ (by omega)]; unfold bc; rw [if_neg (by omega), if_neg (by omega), if_pos (by omega)]
  · rw [mv1_in _ hi, bc_out I g h 8 40 (by omega) (by omega)]
theorem pr_keep (h : Cp I J) (x : Int32) : Pair L FX8_keep FX9_keep [.int x] I J := by
  obtain ⟨n, d, yr, hR⟩ := h.2.2.2.2.2.2.1
  have hn := hR.1.1
  have hd := hR.1.2.1
  have h1 : I 24 1 = nI n := hR.1.2.2.1
  have h3 := hR.1.2.2.2.1
  have m0 : I 78 0 = nI d := hR.1.2.2.2.2.2.1
  have m1 : I 78 1 = nI n := hR.1.2.2.2.2.2.2
  by_cases hx : nI 0 ≤ x ∧ x < nI 3
  · obtain ⟨k, hk, rfl⟩ := (Am_iff (by omega)).mp hx
    by_cases hn0 : n = 0
    · refine ⟨.int (-4), I, J, I, J, ?_, ?_, h⟩
      · rw [fX8_keep]
        simp (disch := omega) only [eX8_keep, xRl, xG1, xG2, kAll, rAll, nAll, List.map_nil, List.map_cons, List.sum_nil, List.sum_cons, Nat.reduceAdd, Nat.reduceSub, Nat.reduceMul, Nat.reduceLeDiff, Nat.reduceEqDiff, Nat.reduceLT, and_true, true_and, and_self, if_true, if_false, ne_eq, not_false_eq_true, not_true_eq_false, or_false, false_or, or_true, true_or, false_and, and_false, reduceIte, reduceCtorEq, xB, ite_not, xretf_zc, xretf_c, xcont_c, xbd, h1, p8_among, hx, nI_eq, hn0]
      · rw [fX9_keep]
        simp (disch := omega) only [eX9_keep, xRl, xG1, xG2, kAll, rAll, nAll, List.map_nil, List.map_cons, List.sum_nil, List.sum_cons, Nat.reduceAdd, Nat.reduceSub, Nat.reduceMul, Nat.reduceLeDiff, Nat.reduceEqDiff, Nat.reduceLT, and_true, true_and, and_self, if_true, if_false, ne_eq, not_false_eq_true, not_true_eq_false, or_false, false_or, or_true, true_or, false_and, and_false, reduceIte, reduceCtorEq, xB, ite_not, xretf_zc, xretf_c, xcont_c, xbd, m1, p9_inL, hx, nI_eq, hn0, nI_neg0, cl_nI]
    · have hg : isG (36 + 11 * k) := by unfold isG; omega
      have ha := p4_become L I J hg (Or.inl rfl) (by omega) hR.2.1
      obtain ⟨⟨kk1, kk2, kk3, kk4, kk5, kk6⟩, -⟩ := kKep k hk
      have e : ¬ 36 + 11 * k = 0 := by omega
      generalize hI1 : bc I (36 + 11 * k) 24 8 40 = I1 at ha
      have o1 : ∀ c, ¬ (36 + 11 * k ≤ c ∧ c ≤ 46 + 11 * k) → I1 c = I c := fun c hc => by rw [← hI1]; exact bc_out I _ _ _ _ (by omega) (by omega)
      have f3 : I1 24 3 = nI d := by rw [o1 24 (by omega)]; exact h3
      have r1 : I1 78 1 = nI n := by rw [o1 78 (by omega)]; exact m1
      have r0 : I1 78 0 = nI d := by rw [o1 78 (by omega)]; exact m0
      have hc := p9_copyRegistry L I1 J (a := 0) (b := 426 * (1 + k)) (by omega) (by omega) (by omega)
      have r2 : mv1 I1 78 0 (426 * (1 + k)) 426 78 0 = nI d := by rw [mv1_out _ (by omega)]; exact r0
      refine ⟨.int (nI d), I1, J, mv1 I1 78 0 (426 * (1 + k)) 426, J, ?_, ?_, ?_⟩
      · rw [fX8_keep]
        simp (disch := omega) only [eX8_keep, xRl, xG1, xG2, kAll, rAll, nAll, List.map_nil, List.map_cons, List.sum_nil, List.sum_cons, Nat.reduceAdd, Nat.reduceSub, Nat.reduceMul, Nat.reduceLeDiff, Nat.reduceEqDiff, Nat.reduceLT, and_true, true_and, and_self, if_true, if_false, ne_eq, not_false_eq_true, not_true_eq_false, or_false, false_or, or_true, true_or, false_and, and_false, reduceIte, reduceCtorEq, xB, ite_not, xretf_zc, xretf_c, xcont_c, xbd, h1, p8_among, hx, nI_eq, hn0, nI_neg0, cl_nI, kk1, kk2, e, ha, f3]
      · rw [fX9_keep]
        simp (disch := omega) only [eX9_keep, xRl, xG1, xG2, kAll, rAll, nAll, List.map_nil, List.map_cons, List.sum_nil, List.sum_cons, Nat.reduceAdd, Nat.reduceSub, Nat.reduceMul, Nat.reduceLeDiff, Nat.reduceEqDiff, Nat.reduceLT, and_true, true_and, and_self, if_true, if_false, ne_eq, not_false_eq_true, not_true_eq_false, or_false, false_or, or_true, true_or, false_and, and_false, reduceIte, reduceCtorEq, xB, ite_not, xretf_zc, xretf_c, xcont_c, xbd, r1, p9_inL, hx, nI_eq, hn0, nI_neg0, cl_nI, nI_add, pk_mul, hc, r2]
      · obtain ⟨w1, w2, w3, w4, w5, w6, -, w7⟩ := h
        have o2 : ∀ c, ¬ (36 + 11 * k ≤ c ∧ c ≤ 46 + 11 * k) → c ≠ 78 → mv1 I1 78 0 (426 * (1 + k)) 426 c = I c := fun c g1 g2 => by rw [mv1_ne _ _ _ _ g2, o1 c g1]
        have o3 : ∀ i, ¬ (426 * (1 + k) ≤ i ∧ i < 426 * (1 + k) + 426) → mv1 I1 78 0 (426 * (1 + k)) 426 78 i = I 78 i := fun i hi => by rw [mv1_out _ hi, o1 78 (by omega)]
        have hRk := bc_RC I (o := 426 * (1 + k)) hR hg
        rw [hI1] at hRk
        refine ⟨CpR_of w1 (fun c hc => o2 c (by omega) (by omega)), CpT_of w2 (fun c hc => o2 c (by omega) (by omega)), ?_, ?_, w5, ?_, ⟨n, d, yr, RC_up hR (fun c hc => o2 c (by omega) (by omega)) (fun i hi => o3 i (by omega))⟩, fun q hq => ?_⟩
        · unfold CpF; rw [o2 1 (by omega) (by omega), o2 77 (by omega) (by omega), o2 76 (by omega) (by omega), o2 83 (by omega) (by omega)]; exact w3
        · unfold CpA; rw [o2 1 (by omega) (by omega), o2 77 (by omega) (by omega)]; exact w4
        · rw [o2 77 (by omega) (by omega)]; exact w6
        · by_cases hqk : q = k
          · subst hqk
            exact Or.inr ⟨n, d, yr, by omega, hRk⟩
          · rcases w7 q hq with ⟨v1, v2, v3⟩ | ⟨n', d', yr', v1, v2⟩
            · exact Or.inl ⟨by rw [o2 _ (by omega) (by omega)]; exact v1, by rw [o3 _ (by omega)]; exact v2, BW_of v3 (fun c hc => o2 c (by omega) (by omega))⟩
            · exact Or.inr ⟨n', d', yr', v1, RC_up v2 (fun c hc => o2 c (by omega) (by omega)) (fun i hi => o3 i (by omega))⟩
  · refine ⟨.int (-1), I, J, I, J, ?_, ?_, h⟩
    · rw [fX8_keep]
      simp (disch := omega) only [eX8_keep, xRl, xG1, xG2, kAll, rAll, nAll, List.map_nil, List.map_cons, List.sum_nil, List.sum_cons, Nat.reduceAdd, Nat.reduceSub, Nat.reduceMul, Nat.reduceLeDiff, Nat.reduceEqDiff, Nat.reduceLT, and_true, true_and, and_self, if_true, if_false, ne_eq, not_false_eq_true, not_true_eq_false, or_false, false_or, or_true, true_or, false_and, and_false, reduceIte, reduceCtorEq, xB, ite_not, xretf_zc, xretf_c, xcont_c, xbd, p8_among, hx]
    · rw [fX9_keep]
      simp (disch := omega) only [eX9_keep, xRl, xG1, xG2, kAll, rAll, nAll, List.map_nil, List.map_cons, List.sum_nil, List.sum_cons, Nat.reduceAdd, Nat.reduceSub, Nat.reduceMul, Nat.reduceLeDiff, Nat.reduceEqDiff, Nat.reduceLT, and_true, true_and, and_self, if_true, if_false, ne_eq, not_false_eq_true, not_true_eq_false, or_false, false_or, or_true, true_or, false_and, and_false, reduceIte, reduceCtorEq, xB, ite_not, xretf_zc, xretf_c, xcont_c, xbd, p9_inL, hx]
theorem pr_on (h : Cp I J) (x : Int32) : Pair L FX8_on FX9_on [.int x] I J := by
  by_cases hx : nI 0 ≤ x ∧ x < nI 3
  · obtain ⟨k, hk, rfl⟩ := (Am_iff (by omega)).mp hx
    obtain ⟨⟨kk1, kk2, kk3, kk4, kk5, kk6⟩, -⟩ := kKep k hk
    have e : ¬ 36 + 11 * k = 0 := by omega
    rcases h.2.2.2.2.2.2.2 k hk with ⟨v1, v2, v3⟩ | ⟨n, d, yr, hn0, hR⟩
    · refine ⟨.int (-3), fnC I 1, J, fnM (fnC I 1) 1, J, ?_, ?_, Cp_find h (by decide)⟩
      · rw [fX8_on]
        simp (disch := omega) only [eX8_on, xRl, xG1, xG2, kAll, rAll, nAll, List.map_nil, List.map_cons, List.sum_nil, List.sum_cons, Nat.reduceAdd, Nat.reduceSub, Nat.reduceMul, Nat.reduceLeDiff, Nat.reduceEqDiff, Nat.reduceLT, and_true, true_and, and_self, if_true, if_false, ne_eq, not_false_eq_true, not_true_eq_false, or_false, false_or, or_true, true_or, false_and, and_false, reduceIte, reduceCtorEq, xB, ite_not, xretf_zc, xretf_c, xcont_c, xbd, p8_among, hx, nI_neg0, cl_nI, kk1, kk2, e, v1, p8_findingOf]
      · have e1 : fnC I 1 78 (426 * (1 + k)) = -1 := by simp [fnC, xup]; exact v2
        rw [fX9_on]
        simp (disch := omega) only [eX9_on, xRl, xG1, xG2, kAll, rAll, nAll, List.map_nil, List.map_cons, List.sum_nil, List.sum_cons, Nat.reduceAdd, Nat.reduceSub, Nat.reduceMul, Nat.reduceLeDiff, Nat.reduceEqDiff, Nat.reduceLT, and_true, true_and, and_self, if_true, if_false, ne_eq, not_false_eq_true, not_true_eq_false, or_false, false_or, or_true, true_or, false_and, and_false, reduceIte, reduceCtorEq, xB, ite_not, xretf_zc, xretf_c, xcont_c, xbd, p9_inL, hx, nI_neg0, cl_nI, nI_add, pk_mul, Nat.add_zero, e1, m1_lt, m1_ge, p9_find]
    · have hg : isG (36 + 11 * k) := by unfold isG; omega
      have hn := hR.1.1
      have hd := hR.1.2.1
      have h1 := hR.1.2.2.1
      have m0 := hR.1.2.2.2.2.2.1
      have ha := p4_become L I J (Or.inl rfl : isG 24) hg (by omega) hR.2.1
      generalize hI1 : bc I 24 (36 + 11 * k) 8 40 = I1 at ha
      have o1 : ∀ c, ¬ (24 ≤ c ∧ c ≤ 34) → I1 c = I c := fun c hc => by rw [← hI1]; exact bc_out I _ _ _ _ (by omega) (by omega)
      have f3 : I1 24 3 = nI d := by rw [← hI1]; unfold bc; rw [if_pos (by omega)]; exact hR.1.2.2.2.1
      have r0 : I1 78 (426 * (1 + k)) = nI d := by rw [o1 78 (by omega)]; exact m0
      have hc := p9_copyRegistry L I1 J (a := 426 * (1 + k)) (b := 0) (by omega) (by omega) (by omega)
      have r2 : mv1 I1 78 (426 * (1 + k)) 0 426 78 0 = nI d := by
        have := mv1_in I1 (c := 78) (s := 426 * (1 + k)) (lo := 0) (b := 426) (q := 0) (by omega)
        rw [Nat.add_zero, Nat.add_zero] at this
        rw [this]; exact r0
      have hn0' : ¬ n = 0 := by omega
      refine ⟨.int (nI d), I1, J, mv1 I1 78 (426 * (1 + k)) 0 426, J, ?_, ?_, ?_⟩
      · rw [fX8_on]
        simp (disch := omega) only [eX8_on, xRl, xG1, xG2, kAll, rAll, nAll, List.map_nil, List.map_cons, List.sum_nil, List.sum_cons, Nat.reduceAdd, Nat.reduceSub, Nat.reduceMul, Nat.reduceLeDiff, Nat.reduceEqDiff, Nat.reduceLT, and_true, true_and, and_self, if_true, if_false, ne_eq, not_false_eq_true, not_true_eq_false, or_false, false_or, or_true, true_or, false_and, and_false, reduceIte, reduceCtorEq, xB, ite_not, xretf_zc, xretf_c, xcont_c, xbd, p8_among, hx, nI_neg0, cl_nI, kk1, kk2, e, h1, nI_eq, hn0', ha, f3]
      · rw [fX9_on]
        simp (disch := omega) only [eX9_on, xRl, xG1, xG2, kAll, rAll, nAll, List.map_nil, List.map_cons, List.sum_nil, List.sum_cons, Nat.reduceAdd, Nat.reduceSub, Nat.reduceMul, Nat.reduceLeDiff, Nat.reduceEqDiff, Nat.reduceLT, and_true, true_and, and_self, if_true, if_false, ne_eq, not_false_eq_true, not_true_eq_false, or_false, false_or, or_true, true_or, false_and, and_false, reduceIte, reduceCtorEq, xB, ite_not, xretf_zc, xretf_c, xcont_c, xbd, p9_inL, hx, nI_neg0, cl_nI, nI_add, pk_mul, Nat.add_zero, r0, nI_ltI, nI_leI, Nat.not_lt_zero, hc, r2]
        first | done | rfl | simp
      · refine Cp_reg h (fun c g1 g2 => by rw [mv1_ne _ _ _ _ g2, o1 c g1]) (fun i hi => by rw [mv1_out _ (by omega), o1 78 (by omega)]) ⟨n, d, yr, ?_⟩
        have hRk := bc_RC I (g := 24) (o := 0) hR (Or.inl rfl)
        rw [hI1] at hRk
        exact hRk
  · refine ⟨.int (-1), I, J, I, J, ?_, ?_, h⟩
    · rw [fX8_on]
      simp (disch := omega) only [eX8_on, xRl, xG1, xG2, kAll, rAll, nAll, List.map_nil, List.map_cons, List.sum_nil, List.sum_cons, Nat.reduceAdd, Nat.reduceSub, Nat.reduceMul, Nat.reduceLeDiff, Nat.reduceEqDiff, Nat.reduceLT, and_true, true_and, and_self, if_true, if_false, ne_eq, not_false_eq_true, not_true_eq_false, or_false, false_or, or_true, true_or, false_and, and_false, reduceIte, reduceCtorEq, xB, ite_not, xretf_zc, xretf_c, xcont_c, xbd, p8_among, hx]
    · rw [fX9_on]
      simp (disch := omega) only [eX9_on, xRl, xG1, xG2, kAll, rAll, nAll, List.map_nil, List.map_cons, List.sum_nil, List.sum_cons, Nat.reduceAdd, Nat.reduceSub, Nat.reduceMul, Nat.reduceLeDiff, Nat.reduceEqDiff, Nat.reduceLT, and_true, true_and, and_self, if_true, if_false, ne_eq, not_false_eq_true, not_true_eq_false, or_false, false_or, or_true, true_or, false_and, and_false, reduceIte, reduceCtorEq, xB, ite_not, xretf_zc, xretf_c, xcont_c, xbd, p9_inL, hx]
end UU
