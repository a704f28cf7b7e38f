/-! year, undo -/
section YY
variable (L : Nat) (I : Nat → Nat → Int32) (J : Nat → Nat → Int64)
abbrev yrC (I : Nat → Nat → Int32) (d yr : Nat) : Nat → Nat → Int32 := xup (xup (xup I 34 d (nI 0)) 24 3 (nI (d + 1))) 24 4 (nI (yr + 1))
/-- whether a year changes a name -/
def chg (og fa yr : Nat) : Bool := decide (fa = 1) && decide (yr < og / 36)
theorem p4_passYear {n d yr : Nat} (hC : Cok I n yr) (hd : d < 40) (h3 : I 24 3 = nI d) : FX4_passYear [.ref 24] (S0 L I J) = some (some (.int (nI (cnt (fun k => chg (cv I k 1) (cv I k 5) yr) 0 n))), S0 L (yrC I d yr) J) := by
  have hn := hC.1
  have h1 := hC.2.1
  have h4 := hC.2.2.1
  rw [fX4_passYear]
  simp (disch := omega) only [eX4_passYear, xRl, xG1, xG2, kAll, rAll, nAll, List.map_nil, List.map_cons, List.sum_nil, List.sum_cons, Nat.reduceAdd, Nat.reduceSub, Nat.reduceMul, Nat.reduceLeDiff, Nat.reduceEqDiff, Nat.reduceLT, and_true, true_and, and_self, if_true, if_false, ne_eq, not_false_eq_true, not_true_eq_false, or_false, false_or, or_true, true_or, false_and, and_false, reduceIte, reduceCtorEq, xB, ite_not, xretf_zc, xretf_c, xcont_c, xbd]
  have key := xloop (t := tX4_passYear) (st := fun i (_ : Unit) => (4, [.ref 24, .int (nI (cnt (fun k => chg (cv I k 1) (cv I k 5) yr) 0 i)), .int (nI i)], [], 0, S0 L I J)) (g := fun _ _ => ()) (N := n) (Inv := fun _ _ => True) (a0 := ()) trivial (by
    intro i u hi _
    refine ⟨?_, trivial⟩
    have s0 := shC_lt hC hi 0
    have s1 := shC_lt hC hi 1
    have e1 : (shC I yr 1 i = shC I yr 0 i) ↔ ¬ chg (cv I i 1) (cv I i 5) yr = true := by
      unfold shC chg
      by_cases hf : cv I i 5 = 1
      · simp only [hf, if_true, decide_true, Bool.true_and, decide_eq_true_eq]
        omega
      · simp [hf]
    show xD tX4_passYear (4, _) = _
    rw [hX4_passYear_4]
    simp (disch := omega) only [eX4_passYear, xRl, xG1, xG2, kAll, rAll, nAll, List.map_nil, List.map_cons, List.sum_nil, List.sum_cons, Nat.reduceAdd, Nat.reduceSub, Nat.reduceMul, Nat.reduceLeDiff, Nat.reduceEqDiff, Nat.reduceLT, and_true, true_and, and_self, if_true, if_false, ne_eq, not_false_eq_true, not_true_eq_false, or_false, false_or, or_true, true_or, false_and, and_false, reduceIte, reduceCtorEq, xB, ite_not, xretf_zc, xretf_c, xcont_c, xbd, h1, nI_leI, nI_eq, p4_shadeOf L I J n yr 0 i hC hi (by omega), p4_shadeOf L I J n yr 1 i hC hi (by omega), e1, nI_add]
    rw [if_neg (by omega)]
    show _ = xD tX4_passYear (4, [_, .int (nI (cnt (fun k => chg (cv I k 1) (cv I k 5) yr) 0 (i + 1))), _], _)
    rw [cnt_snoc, Nat.zero_add]
    split <;> rfl) n (Nat.le_refl n)
  have e3 : xup I 34 d (nI 0) 24 3 = nI d := by rw [xup_o _ _ _ _ (by decide)]; exact h3
  have e4 : xup (xup I 34 d (nI 0)) 24 3 (nI (d + 1)) 24 4 = nI yr := by rw [xup_self, if_neg (by decide), xup_o _ _ _ _ (by decide)]; exact h4
  rw [show xD tX4_passYear (4, [.ref 24, .int (nI 0), .int (nI 0)], [], 0, S0 L I J) = _ from key.1, hX4_passYear_4]
  simp (disch := omega) only [eX4_passYear, xRl, xG1, xG2, kAll, rAll, nAll, List.map_nil, List.map_cons, List.sum_nil, List.sum_cons, Nat.reduceAdd, Nat.reduceSub, Nat.reduceMul, Nat.reduceLeDiff, Nat.reduceEqDiff, Nat.reduceLT, and_true, true_and, and_self, if_true, if_false, ne_eq, not_false_eq_true, not_true_eq_false, or_false, false_or, or_true, true_or, false_and, and_false, reduceIte, reduceCtorEq, xB, ite_not, xretf_zc, xretf_c, xcont_c, xbd, h1, h3, nI_leI, nI_neg0, cl_nI, b00, e3, e4, nI_add]
  rw [if_pos (Nat.le_refl n)]
/-- the reference's a's, the first m a year on -/
def yrM (I : Nat → Nat → Int32) (f : Nat → Bool) (m : Nat) : Nat → Nat → Int32 := fun c q => if c = 78 ∧ 2 ≤ q ∧ q < 2 + m ∧ f (q - 2) = true then I 78 q - nI 1 else I c q
theorem yrM_0 (f : Nat → Bool) : yrM I f 0 = I := by
  funext c q; unfold yrM; rw [if_neg (by omega)]
theorem yrM_ne (f : Nat → Bool) (m : Nat) {c : Nat} (h : c ≠ 78) : yrM I f m c = I c := by
  funext q; unfold yrM; rw [if_neg (fun z => h z.1)]
theorem yrM_out (f : Nat → Bool) (m : Nat) {q : Nat} (h : ¬ (2 ≤ q ∧ q < 2 + m)) : yrM I f m 78 q = I 78 q := by
  unfold yrM; rw [if_neg (fun z => h ⟨z.2.1, z.2.2.1⟩)]
theorem yrM_s (f : Nat → Bool) (m : Nat) (h : f m = true) : xup (yrM I f m) 78 (2 + m) (I 78 (2 + m) - nI 1) = yrM I f (m + 1) := by
  funext c q
  unfold xup yrM
  by_cases h1 : c = 78
  · subst h1
    by_cases h2 : q = 2 + m
    · subst h2
      simp only [true_and, if_true]
      rw [if_pos ⟨by omega, by omega, by rw [show 2 + m - 2 = m by omega]; exact h⟩]
    · simp only [true_and, if_true, h2, if_false]
      by_cases h3 : 2 ≤ q ∧ q < 2 + m ∧ f (q - 2) = true
      · rw [if_pos h3, if_pos ⟨h3.1, by omega, h3.2.2⟩]
      · rw [if_neg h3, if_neg (fun z => h3 ⟨z.1, by omega, z.2.2⟩)]
  · simp [h1]
theorem yrM_n (f : Nat → Bool) (m : Nat) (h : ¬ f m = true) : yrM I f m = yrM I f (m + 1) := by
  funext c q
  unfold yrM
  by_cases h3 : c = 78 ∧ 2 ≤ q ∧ q < 2 + m ∧ f (q - 2) = true
  · rw [if_pos h3, if_pos ⟨h3.1, h3.2.1, by omega, h3.2.2.2⟩]
  · rw [if_neg h3, if_neg (fun z => h3 ⟨z.1, z.2.1, by
      have : q ≠ 2 + m := fun hq => h (by have := z.2.2.2; rw [hq, show 2 + m - 2 = m by omega] at this; exact this)
      omega, z.2.2.2⟩)]
theorem yrM_at (f : Nat → Bool) (m k : Nat) (hk : k < m) : yrM I f m 78 (2 + k) = if f k = true then I 78 (2 + k) - nI 1 else I 78 (2 + k) := by
  unfold yrM
  rw [show 2 + k - 2 = k by omega]
  by_cases hf : f k = true
  · rw [if_pos hf, if_pos ⟨rfl, by omega, by omega, hf⟩]
  · rw [if_neg hf, if_neg (fun z => hf z.2.2.2)]
theorem lt0_nI {a : Nat} (ha : a < 2 ^ 31) : (nI 0 < nI a) ↔ 0 < a := nI_ltI (by decide) ha
theorem RC_year {n d yr : Nat} (hR : RC I 24 0 n d yr) (hn0 : 0 < n) (hd : d < 40) : RC (yrM (kp (yrC I d yr) d) (fun k => chg (cv I k 1) (cv I k 5) yr) n) 24 0 n (d + 1) (yr + 1) := by
  obtain ⟨⟨a1, a2, a3, a4, a5, a6, a7⟩, b, ⟨c1, c2⟩, hN, hP⟩ := hR
  generalize hI1 : yrC I d yr = I1
  have o1 : ∀ c, c ≠ 24 → c ≠ 34 → I1 c = I c := fun c g1 g2 => by rw [← hI1]; unfold yrC; rw [xup_ne _ _ _ g1, xup_ne _ _ _ g1, xup_ne _ _ _ g2]
  have o2 : ∀ w, I1 24 w = if w = 4 then nI (yr + 1) else if w = 3 then nI (d + 1) else I 24 w := by
    intro w
    rw [← hI1]
    unfold yrC
    rw [xup_self, xup_self, xup_o _ _ _ _ (show 24 ≠ 34 by decide)]
  have o3 : ∀ w, I1 34 w = if w = d then nI 0 else I 34 w := by
    intro w
    rw [← hI1]
    unfold yrC
    rw [xup_o _ _ _ _ (show 34 ≠ 24 by decide), xup_o _ _ _ _ (show 34 ≠ 24 by decide), xup_self]
  generalize hI2 : yrM (kp I1 d) (fun k => chg (cv I k 1) (cv I k 5) yr) n = I2
  have p1 : ∀ c, c ≠ 78 → I2 c = I1 c := fun c hc => by
    rw [← hI2, yrM_ne _ _ _ hc]
    unfold kp
    rw [xup_ne _ _ _ hc, mv1_ne _ _ _ _ hc]
  have kpq : ∀ q, kp I1 d 78 q = if q = 0 then nI (d + 1) else if 66 + 9 * d ≤ q ∧ q < 66 + 9 * d + 9 then I 78 (1 + (q - (66 + 9 * d))) else I 78 q := by
    intro q
    unfold kp
    rw [xup_self]
    unfold mv1
    simp only [true_and, o1 78 (by decide) (by decide)]
  have p2 : ∀ q, ¬ (2 ≤ q ∧ q < 2 + n) → I2 78 q = if q = 0 then nI (d + 1) else if 66 + 9 * d ≤ q ∧ q < 66 + 9 * d + 9 then I 78 (1 + (q - (66 + 9 * d))) else I 78 q := by
    intro q hq
    rw [← hI2, yrM_out _ _ _ hq, kpq]
  have p3 : ∀ k, k < n → I2 78 (2 + k) = if chg (cv I k 1) (cv I k 5) yr = true then I 78 (2 + k) - nI 1 else I 78 (2 + k) := by
    intro k hk
    have e : kp I1 d 78 (2 + k) = I 78 (2 + k) := by rw [kpq, if_neg (by omega), if_neg (by omega)]
    rw [← hI2, yrM_at _ _ _ _ hk, e]
  clear hI1 hI2
  have es : ∀ i, i ≤ d → sayN I2 24 i (d + 1) = sayN I 24 i d := by
    intro i hi
    rw [sayN_split I2 24 hi (show d ≤ d + 1 by omega), sayN_1, p1 34 (by decide), o3, if_pos rfl, if_neg (by decide), Nat.add_zero]
    exact sayN_cong (fun j _ hj => by rw [p1 34 (by decide), o3, if_neg (by omega)])
  have hle := sayN_le I 24 0 d
  refine ⟨⟨a1, by omega, by rw [p1 24 (by decide), o2]; exact a3, by rw [p1 24 (by decide), o2]; rfl, by rw [p1 24 (by decide), o2]; rfl, by rw [p2 0 (by omega)]; rfl, by rw [p2 _ (by omega), if_neg (by omega), if_neg (by omega)]; exact a7⟩, ⟨fun i hi => ?_, fun k hk => ?_⟩, ⟨by rw [es 0 (by omega)]; omega, Or.inl (by rw [es 0 (by omega)]; rcases c2 with c2 | c2; omega; subst c2; omega)⟩, fun k hk => ?_, fun i hi => ?_⟩
  · rw [p1 _ (by decide), o3]
    split
    · exact Or.inl rfl
    · exact b.1 i hi
  · rw [p1 _ (by omega), o1 _ (by omega) (by omega)]
    exact b.2 k hk
  · have hq : ∀ q, (10 ≤ q ∧ q < 66) → I2 78 q = I 78 q := by
      intro q hq
      rw [p2 q (by omega), if_neg (by omega), if_neg (by omega)]
    have hN1 := hN k hk
    unfold NC at hN1 ⊢
    rw [hq (0 + 10 + 7 * k) (by omega), hq (0 + 11 + 7 * k) (by omega), hq (0 + 12 + 7 * k) (by omega), hq (0 + 13 + 7 * k) (by omega), hq (0 + 14 + 7 * k) (by omega), hq (0 + 15 + 7 * k) (by omega), hq (0 + 16 + 7 * k) (by omega), p1 _ (by omega), o1 _ (by omega) (by omega)]
    obtain ⟨t1, t2, t3, t4, t5, t6, t7⟩ := hN1
    refine ⟨t1, t2, t3, t4, t5, t6, ?_⟩
    rw [Nat.zero_add] at t7 ⊢
    rw [p3 k hk, t7, show 24 + 2 + k = 26 + k by omega]
    unfold chg aN cv tn
    by_cases hf : (I (26 + k) 5).toNatClampNeg = 1
    · simp only [hf, if_true, decide_true, Bool.true_and, decide_eq_true_eq]
      split
      · rw [pk_sub (by omega)]; congr 1
      · congr 1; omega
    · simp [hf]
  · by_cases hid : i = d
    · subst hid
      rw [es i (Nat.le_refl i), show sayN I 24 i i = 0 by unfold sayN; rw [Nat.sub_self]; rfl]
      refine ⟨?_, fun k hk => ?_⟩
      · rw [p2 _ (by omega), if_neg (by omega), if_pos (by omega), show 1 + (0 + 66 + 9 * i - (66 + 9 * i)) = 0 + 1 by omega, a7, Nat.sub_zero]
      · have hN1 := (hN k hk).2.2.2.2.2.2
        rw [p1 (24 + 2 + k) (by omega), o1 (24 + 2 + k) (by omega) (by omega), p2 _ (by omega), show yr + 1 - (i + 1 - i - 0) = yr by omega, ← hN1, if_neg (by omega), if_pos (by omega)]
        congr 1
        omega
    · obtain ⟨g1, g2⟩ := hP i (by omega)
      have hsl := sayN_le I 24 i d
      rw [es i (by omega)]
      have hq : ∀ k, k < 9 → I2 78 (0 + 66 + 9 * i + k) = I 78 (0 + 66 + 9 * i + k) := by
        intro k hk
        rw [p2 _ (by omega), if_neg (by omega), if_neg (by omega)]
      refine ⟨by rw [← g1]; exact hq 0 (by omega), fun k hk => ?_⟩
      rw [p1 (24 + 2 + k) (by omega), o1 (24 + 2 + k) (by omega) (by omega), show yr + 1 - (d + 1 - i - sayN I 24 i d) = yr - (d - i - sayN I 24 i d) by omega, ← g2 k hk]
      have := hq (1 + k) (by omega)
      rw [show 0 + 66 + 9 * i + (1 + k) = 0 + 67 + 9 * i + k by omega] at this
      exact this
theorem pr_year (h : Cp I J) : Pair L FX8_year FX9_year [] I J := by
  obtain ⟨n, d, yr, hR⟩ := h.2.2.2.2.2.2.1
  obtain ⟨hM, hC, hE⟩ := RC_M hR
  have hn := hM.1
  have hd := hR.1.2.1
  have h1 := hC.2.1
  have h3 := hR.1.2.2.2.1
  have m0 : I 78 0 = nI d := hR.1.2.2.2.2.2.1
  have m1 := hM.2.1
  by_cases hn0 : n = 0
  · refine ⟨.int (-4), I, J, I, J, ?_, ?_, h⟩
    · rw [fX8_year]
      simp (disch := omega) only [eX8_year, xRl, xG1, xG2, kAll, rAll, nAll, List.map_nil, List.map_cons, List.sum_nil, List.sum_cons, Nat.reduceAdd, Nat.reduceSub, Nat.reduceMul, Nat.reduceLeDiff, Nat.reduceEqDiff, Nat.reduceLT, and_true, true_and, and_self, if_true, if_false, ne_eq, not_false_eq_true, not_true_eq_false, or_false, false_or, or_true, true_or, false_and, and_false, reduceIte, reduceCtorEq, xB, ite_not, xretf_zc, xretf_c, xcont_c, xbd, h1, nI_eq, hn0]
    · rw [fX9_year]
      simp (disch := omega) only [eX9_year, xRl, xG1, xG2, kAll, rAll, nAll, List.map_nil, List.map_cons, List.sum_nil, List.sum_cons, Nat.reduceAdd, Nat.reduceSub, Nat.reduceMul, Nat.reduceLeDiff, Nat.reduceEqDiff, Nat.reduceLT, and_true, true_and, and_self, if_true, if_false, ne_eq, not_false_eq_true, not_true_eq_false, or_false, false_or, or_true, true_or, false_and, and_false, reduceIte, reduceCtorEq, xB, ite_not, xretf_zc, xretf_c, xcont_c, xbd, m1, nI_eq, nI_neg0, cl_nI, hn0]
  by_cases hd40 : d = 40
  · refine ⟨.int (-2), I, J, I, J, ?_, ?_, h⟩
    · rw [fX8_year]
      simp (disch := omega) only [eX8_year, xRl, xG1, xG2, kAll, rAll, nAll, List.map_nil, List.map_cons, List.sum_nil, List.sum_cons, Nat.reduceAdd, Nat.reduceSub, Nat.reduceMul, Nat.reduceLeDiff, Nat.reduceEqDiff, Nat.reduceLT, and_true, true_and, and_self, if_true, if_false, ne_eq, not_false_eq_true, not_true_eq_false, or_false, false_or, or_true, true_or, false_and, and_false, reduceIte, reduceCtorEq, xB, ite_not, xretf_zc, xretf_c, xcont_c, xbd, h1, h3, nI_eq, hn0, nI_leI, nI_ltI]
      first | rw [if_neg (by omega)] | rw [if_pos (by omega)]
    · rw [fX9_year]
      simp (disch := omega) only [eX9_year, xRl, xG1, xG2, kAll, rAll, nAll, List.map_nil, List.map_cons, List.sum_nil, List.sum_cons, Nat.reduceAdd, Nat.reduceSub, Nat.reduceMul, Nat.reduceLeDiff, Nat.reduceEqDiff, Nat.reduceLT, and_true, true_and, and_self, if_true, if_false, ne_eq, not_false_eq_true, not_true_eq_false, or_false, false_or, or_true, true_or, false_and, and_false, reduceIte, reduceCtorEq, xB, ite_not, xretf_zc, xretf_c, xcont_c, xbd, m1, m0, nI_eq, nI_neg0, cl_nI, hn0, hd40]
  have hd4 : d < 40 := by omega
  have ha := p4_passYear L I J hC hd4 h3
  generalize hf : (fun k => chg (cv I k 1) (cv I k 5) yr) = f at ha
  have hfd : ∀ k, chg (cv I k 1) (cv I k 5) yr = f k := fun k => by rw [← hf]
  generalize hI1 : yrC I d yr = I1 at ha
  have o1 : ∀ c, c ≠ 24 → c ≠ 34 → I1 c = I c := fun c g1 g2 => by rw [← hI1]; unfold yrC; rw [xup_ne _ _ _ g1, xup_ne _ _ _ g1, xup_ne _ _ _ g2]
  have r0 : I1 78 0 = nI d := by rw [o1 78 (by decide) (by decide)]; exact m0
  have r1 : I1 78 1 = nI n := by rw [o1 78 (by decide) (by decide)]; exact m1
  have hkp := p9_keepPast L I1 J hd4 r0
  have s1 : ∀ q, 1 ≤ q → q < 66 → kp I1 d 78 q = I 78 q := by
    intro q hq hq2
    unfold kp
    rw [xup_self, if_neg (by omega), mv1_out _ (by omega), o1 78 (by decide) (by decide)]
  refine ⟨.int (nI (cnt f 0 n)), I1, J, yrM (kp I1 d) f n, J, ?_, ?_, ?_⟩
  · rw [fX8_year]
    simp (disch := omega) only [eX8_year, xRl, xG1, xG2, kAll, rAll, nAll, List.map_nil, List.map_cons, List.sum_nil, List.sum_cons, Nat.reduceAdd, Nat.reduceSub, Nat.reduceMul, Nat.reduceLeDiff, Nat.reduceEqDiff, Nat.reduceLT, and_true, true_and, and_self, if_true, if_false, ne_eq, not_false_eq_true, not_true_eq_false, or_false, false_or, or_true, true_or, false_and, and_false, reduceIte, reduceCtorEq, xB, ite_not, xretf_zc, xretf_c, xcont_c, xbd, h1, h3, nI_eq, hn0, nI_leI, nI_ltI, ha]
    first | rw [if_pos hd4] | rw [if_neg (by omega)]
  · rw [fX9_year]
    simp (disch := omega) only [eX9_year, xRl, xG1, xG2, kAll, rAll, nAll, List.map_nil, List.map_cons, List.sum_nil, List.sum_cons, Nat.reduceAdd, Nat.reduceSub, Nat.reduceMul, Nat.reduceLeDiff, Nat.reduceEqDiff, Nat.reduceLT, and_true, true_and, and_self, if_true, if_false, ne_eq, not_false_eq_true, not_true_eq_false, or_false, false_or, or_true, true_or, false_and, and_false, reduceIte, reduceCtorEq, xB, ite_not, xretf_zc, xretf_c, xcont_c, xbd, r1, r0, nI_eq, nI_neg0, cl_nI, hn0, hd40, hkp]
    have key := xloop (t := tX9_year) (st := fun i (_ : Unit) => (34, [.ref 77, .int (nI (cnt f 0 i)), .int (nI i)], [], 0, S0 L (yrM (kp I1 d) f i) J)) (g := fun _ _ => ()) (N := n) (Inv := fun _ _ => True) (a0 := ()) trivial (by
      intro i u hi _
      refine ⟨?_, trivial⟩
      have e1 : yrM (kp I1 d) f i 78 1 = nI n := by rw [yrM_out _ _ _ (by omega), s1 1 (by omega) (by omega)]; exact m1
      obtain ⟨f1, f2⟩ := (hM.2.2 i hi).2.2.2.2.2.2.2
      obtain ⟨a1, a2⟩ := (hM.2.2 i hi).1
      have e6 : yrM (kp I1 d) f i 78 (10 + 7 * i + 6) = nI (mFa I i) := by rw [yrM_out _ _ _ (by omega), s1 _ (by omega) (by omega), show 10 + 7 * i + 6 = 16 + 7 * i by omega]; exact f1
      have e2 : yrM (kp I1 d) f i 78 (2 + i) = nI (mA I i) := by rw [yrM_out _ _ _ (by omega), s1 _ (by omega) (by omega)]; exact a1
      have e3 : kp I1 d 78 (2 + i) = nI (mA I i) := by rw [s1 _ (by omega) (by omega)]; exact a1
      have hNi := hR.2.2.2.1 i hi
      have e4 : (mFa I i = 1 ∧ 0 < mA I i) ↔ f i = true := by
        rw [← hfd]
        have g5 := (hE i hi).1.2.2.2.2
        have t7 := hNi.2.2.2.2.2.2
        have og := hNi.2.1.2.1
        rw [Nat.zero_add, show 24 + 2 + i = 26 + i by omega] at t7
        rw [show 24 + 2 + i = 26 + i by omega] at og
        have og2 : cv I i 1 < 216 := og
        have g6 : mA I i = aN (cv I i 1) (cv I i 5) yr := by
          have : nI (mA I i) = nI (aN (cv I i 1) (cv I i 5) yr) := by rw [← a1, t7]
          exact (nI_eq (by omega) (by unfold aN; split <;> omega)).mp this
        rw [g6, g5]
        unfold chg aN
        by_cases hf5 : cv I i 5 = 1
        · simp only [hf5, if_true, decide_true, Bool.true_and, decide_eq_true_eq, true_and]
          omega
        · simp [hf5]
      show xD tX9_year (34, _) = _
      rw [hX9_year_34]
      simp (disch := omega) only [eX9_year, xRl, xG1, xG2, kAll, rAll, nAll, List.map_nil, List.map_cons, List.sum_nil, List.sum_cons, Nat.reduceAdd, Nat.reduceSub, Nat.reduceMul, Nat.reduceLeDiff, Nat.reduceEqDiff, Nat.reduceLT, and_true, true_and, and_self, if_true, if_false, ne_eq, not_false_eq_true, not_true_eq_false, or_false, false_or, or_true, true_or, false_and, and_false, reduceIte, reduceCtorEq, xB, ite_not, xretf_zc, xretf_c, xcont_c, xbd, e1, nI_neg0, cl_nI, nI_leI, p9_of, e6, e2, nI_eq, nI_ltI, nI_add]
      rw [if_neg (by omega)]
      show _ = xD tX9_year (34, [_, .int (nI (cnt f 0 (i + 1))), _], _)
      rw [cnt_snoc, Nat.zero_add]
      by_cases hfi : f i = true
      · obtain ⟨g1, g2⟩ := e4.mpr hfi
        have e9 := yrM_s (kp I1 d) f i hfi
        rw [e3] at e9
        rw [← e9]
        simp only [g1, hfi, if_true]
        first | rw [if_neg (by omega)] | rw [if_pos g2]
      · rw [← yrM_n _ _ _ hfi]
        simp only [hfi, if_false, Bool.false_eq_true, Nat.add_zero]
        by_cases g1 : mFa I i = 1
        · have g2 : ¬ 0 < mA I i := fun q => hfi (e4.mp ⟨g1, q⟩)
          rw [if_pos g1]
          first | rw [if_pos (by omega)] | rw [if_neg g2]
        · rw [if_neg g1]) n (Nat.le_refl n)
    have k0 := key.1
    simp only [yrM_0] at k0
    have e1 : yrM (kp I1 d) f n 78 1 = nI n := by rw [yrM_out _ _ _ (by omega), s1 1 (by omega) (by omega)]; exact m1
    rw [show xD tX9_year (34, [.ref 77, .int (nI 0), .int (nI 0)], [], 0, S0 L (kp I1 d) J) = _ from k0, hX9_year_34]
    simp (disch := omega) only [eX9_year, xRl, xG1, xG2, kAll, rAll, nAll, List.map_nil, List.map_cons, List.sum_nil, List.sum_cons, Nat.reduceAdd, Nat.reduceSub, Nat.reduceMul, Nat.reduceLeDiff, Nat.reduceEqDiff, Nat.reduceLT, and_true, true_and, and_self, if_true, if_false, ne_eq, not_false_eq_true, not_true_eq_false, or_false, false_or, or_true, true_or, false_and, and_false, reduceIte, reduceCtorEq, xB, ite_not, xretf_zc, xretf_c, xcont_c, xbd, e1, nI_neg0, cl_nI, nI_leI]
    rw [if_pos (Nat.le_refl n)]
  · rw [← hI1, ← hf]
    refine Cp_reg h (fun c g1 g2 => ?_) (fun i hi => ?_) ⟨n, d + 1, yr + 1, RC_year I hR (by omega) hd4⟩
    · rw [yrM_ne _ _ _ g2]
      unfold kp
      rw [xup_ne _ _ _ g2, mv1_ne _ _ _ _ g2]
      unfold yrC
      rw [xup_ne _ _ _ (by omega), xup_ne _ _ _ (by omega), xup_ne _ _ _ (by omega)]
    · rw [yrM_out _ _ _ (by omega)]
      unfold kp
      rw [xup_self, if_neg (by omega), mv1_out _ (by omega)]
      unfold yrC
      rw [xup_ne _ _ _ (by omega), xup_ne _ _ _ (by omega), xup_ne _ _ _ (by omega)]
end YY
