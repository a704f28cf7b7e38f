/-! deeds: say, year, undo -/
theorem Cp_reg {I I2 : Nat → Nat → Int32} {J : Nat → Nat → Int64} (h : Cp I J) (e : ∀ c, ¬ (24 ≤ c ∧ c ≤ 34) → c ≠ 78 → I2 c = I c) (e78 : ∀ i, 426 ≤ i → I2 78 i = I 78 i) (hR : ∃ n d yr, RC I2 24 0 n d yr) : Cp I2 J := by
  obtain ⟨h1, h2, h3, h4, h5, h6, -, h7⟩ := h
  refine ⟨CpR_of h1 (fun c hc => e c (by omega) (by omega)), CpT_of h2 (fun c hc => e c (by omega) (by omega)), ?_, ?_, h5, ?_, hR, fun q hq => ?_⟩
  · unfold CpF; rw [e 1 (by omega) (by omega), e 77 (by omega) (by omega), e 76 (by omega) (by omega), e 83 (by omega) (by omega)]; exact h3
  · unfold CpA; rw [e 1 (by omega) (by omega), e 77 (by omega) (by omega)]; exact h4
  · rw [e 77 (by omega) (by omega)]; exact h6
  · rcases h7 q hq with ⟨w1, w2, w3⟩ | ⟨n', d', yr', w1, w2⟩
    · exact Or.inl ⟨by rw [e _ (by omega) (by omega)]; exact w1, by rw [e78 _ (by omega)]; exact w2, BW_of w3 (fun c hc => e c (by omega) (by omega))⟩
    · exact Or.inr ⟨n', d', yr', w1, RC_up w2 (fun c hc => e c (by omega) (by omega)) (fun i hi => e78 i (by omega))⟩
/-- places lo .. lo + b - 1 of cell c taken from s on -/
def mv1 (I : Nat → Nat → Int32) (c s lo b : Nat) : Nat → Nat → Int32 := fun c' q => if c' = c ∧ lo ≤ q ∧ q < lo + b then I c (s + (q - lo)) else I c' q
theorem mv1_0 (I : Nat → Nat → Int32) (c s lo : Nat) : mv1 I c s lo 0 = I := by
  funext c' q; unfold mv1; rw [if_neg (by omega)]
theorem mv1_ne (I : Nat → Nat → Int32) {c c' : Nat} (s lo b : Nat) (h : c' ≠ c) : mv1 I c s lo b c' = I c' := by
  funext q; unfold mv1; rw [if_neg (fun z => h z.1)]
theorem mv1_out (I : Nat → Nat → Int32) {c s lo b q : Nat} (h : ¬ (lo ≤ q ∧ q < lo + b)) : mv1 I c s lo b c q = I c q := by
  unfold mv1; rw [if_neg (fun z => h z.2)]
theorem mv1_in (I : Nat → Nat → Int32) {c s lo b q : Nat} (h : q < b) : mv1 I c s lo b c (lo + q) = I c (s + q) := by
  unfold mv1; rw [if_pos (by omega), show lo + q - lo = q by omega]
theorem mv1_s (I : Nat → Nat → Int32) (c s lo b : Nat) : xup (mv1 I c s lo b) c (lo + b) (I c (s + b)) = mv1 I c s lo (b + 1) := by
  funext c' q
  unfold xup mv1
  by_cases h1 : c' = c
  · subst h1
    by_cases h2 : q = lo + b
    · subst h2
      simp only [true_and, if_true]
      rw [if_pos (by omega), show lo + b - lo = b by omega]
    · simp only [true_and, if_true, h2, if_false]
      by_cases h3 : lo ≤ q ∧ q < lo + b
      · rw [if_pos h3, if_pos ⟨h3.1, by omega⟩]
      · rw [if_neg h3, if_neg (by omega)]
  · simp [h1]
theorem cnt_app (f : Nat → Bool) : ∀ (x a y : Nat), cnt f a (x + y) = cnt f a x + cnt f (a + x) y
  | 0, a, y => by simp [cnt]
  | x + 1, a, y => by
    have ih := cnt_app f x (a + 1) y
    rw [show x + 1 + y = (x + y) + 1 by omega]
    show (if f a = true then 1 else 0) + cnt f (a + 1) (x + y) = ((if f a = true then 1 else 0) + cnt f (a + 1) x) + _
    rw [ih, show a + 1 + x = a + (x + 1) by omega]
    omega
theorem sayN_split (I : Nat → Nat → Int32) (g : Nat) {i m d : Nat} (h1 : i ≤ m) (h2 : m ≤ d) : sayN I g i d = sayN I g i m + sayN I g m d := by
  unfold sayN
  have := cnt_app (fun j => decide (I (g + 10) j = nI 1)) (m - i) i (d - m)
  rw [show m - i + (d - m) = d - i by omega, show i + (m - i) = m by omega] at this
  exact this
theorem sayN_le (I : Nat → Nat → Int32) (g i d : Nat) : sayN I g i d ≤ d - i := cnt_le _ _ _
theorem sayN_1 (I : Nat → Nat → Int32) (g d : Nat) : sayN I g d (d + 1) = if I (g + 10) d = nI 1 then 1 else 0 := by
  unfold sayN
  rw [show d + 1 - d = 1 by omega]
  simp [cnt]
theorem sayN_cong {I I2 : Nat → Nat → Int32} {g g' i d : Nat} (h : ∀ j, i ≤ j → j < d → I2 (g' + 10) j = I (g + 10) j) : sayN I2 g' i d = sayN I g i d := by
  unfold sayN
  exact cnt_congr (fun j h1 h2 => by rw [h j h1 (by omega)])
section DD
variable (L : Nat) (I : Nat → Nat → Int32) (J : Nat → Nat → Int64)
abbrev kp (I : Nat → Nat → Int32) (d : Nat) : Nat → Nat → Int32 := xup (mv1 I 78 1 (66 + 9 * d) 9) 78 0 (nI (d + 1))
theorem p9_keepPast {d : Nat} (hd : d < 40) (h0 : I 78 0 = nI d) : FX9_keepPast [.ref 77] (S0 L I J) = some (none, S0 L (kp I d) J) := by
  rw [fX9_keepPast]
  simp (disch := omega) only [eX9_keepPast, xRl, xG1, xG2, kAll, rAll, nAll, List.map_nil, List.map_cons, List.sum_nil, List.sum_cons, Nat.reduceAdd, Nat.reduceSub, Nat.reduceMul, Nat.reduceLeDiff, Nat.reduceEqDiff, Nat.reduceLT, and_true, true_and, and_self, if_true, if_false, ne_eq, not_false_eq_true, not_true_eq_false, or_false, false_or, or_true, true_or, false_and, and_false, reduceIte, reduceCtorEq, xB, ite_not, xretf_zc, xretf_c, xcont_c, xbd]
  have key := xloop (t := tX9_keepPast) (st := fun i (_ : Unit) => (2, [.ref 77, .int (nI i)], [], 0, S0 L (mv1 I 78 1 (66 + 9 * d) i) J)) (g := fun _ _ => ()) (N := 9) (Inv := fun _ _ => True) (a0 := ()) trivial (by
    intro i u hi _
    refine ⟨?_, trivial⟩
    have e1 : mv1 I 78 1 (66 + 9 * d) i 78 0 = nI d := by rw [mv1_out _ (by omega)]; exact h0
    have e2 : mv1 I 78 1 (66 + 9 * d) i 78 (1 + i) = I 78 (1 + i) := mv1_out _ (by omega)
    show xD tX9_keepPast (2, _) = _
    rw [hX9_keepPast_2]
    simp (disch := omega) only [eX9_keepPast, xRl, xG1, xG2, kAll, rAll, nAll, List.map_nil, List.map_cons, List.sum_nil, List.sum_cons, Nat.reduceAdd, Nat.reduceSub, Nat.reduceMul, Nat.reduceLeDiff, Nat.reduceEqDiff, Nat.reduceLT, and_true, true_and, and_self, if_true, if_false, ne_eq, not_false_eq_true, not_true_eq_false, or_false, false_or, or_true, true_or, false_and, and_false, reduceIte, reduceCtorEq, xB, ite_not, xretf_zc, xretf_c, xcont_c, xbd, nI_leI, nI_neg0, cl_nI, e1, e2, nI_add, pk_mul]
    rw [if_neg (by omega), mv1_s]) 9 (Nat.le_refl 9)
  have k0 := key.1
  simp only [mv1_0] at k0
  have e1 : mv1 I 78 1 (66 + 9 * d) 9 78 0 = nI d := by rw [mv1_out _ (by omega)]; exact h0
  rw [k0, hX9_keepPast_2]
  simp (disch := omega) only [eX9_keepPast, xRl, xG1, xG2, kAll, rAll, nAll, List.map_nil, List.map_cons, List.sum_nil, List.sum_cons, Nat.reduceAdd, Nat.reduceSub, Nat.reduceMul, Nat.reduceLeDiff, Nat.reduceEqDiff, Nat.reduceLT, and_true, true_and, and_self, if_true, if_false, ne_eq, not_false_eq_true, not_true_eq_false, or_false, false_or, or_true, true_or, false_and, and_false, reduceIte, reduceCtorEq, xB, ite_not, xretf_zc, xretf_c, xcont_c, xbd, nI_leI, nI_neg0, cl_nI, e1, nI_add]
/-- the class's cells behind a saying -/
abbrev sdC (I : Nat → Nat → Int32) (n d : Nat) (kd s rg ow : Int32) : Nat → Nat → Int32 := xup (xup (xup (xup (xup (xup (xup (xup (xup I 24 1 (nI (n + 1))) (26 + n) 0 kd) (26 + n) 1 s) (26 + n) 2 rg) (26 + n) 3 ow) (26 + n) 4 (nI 1)) (26 + n) 5 (nI 0)) 34 d (nI 1)) 24 3 (nI (d + 1))
theorem p4_addSaid {n d : Nat} (hn : n < 8) (hd : d < 40) (h1 : I 24 1 = nI n) (h3 : I 24 3 = nI d) (kd s rg ow : Int32) : FX4_addSaid [.ref 24, .int kd, .int s, .int rg, .int ow] (S0 L I J) = some (some (.int (nI n)), S0 L (sdC I n d kd s rg ow) J) := by
  have k1 := kNam n hn
  have e : ¬ 26 + n = 0 := by omega
  have hg : FX4_grow [.ref 24] (S0 L I J) = some (some (.ref (26 + n)), S0 L (xup I 24 1 (nI (n + 1))) J) := by
    rw [fX4_grow]
    simp (disch := omega) only [eX4_grow, xRl, xG1, xG2, kAll, rAll, nAll, List.map_nil, List.map_cons, List.sum_nil, List.sum_cons, Nat.reduceAdd, Nat.reduceSub, Nat.reduceMul, Nat.reduceLeDiff, Nat.reduceEqDiff, Nat.reduceLT, and_true, true_and, and_self, if_true, if_false, ne_eq, not_false_eq_true, not_true_eq_false, or_false, false_or, or_true, true_or, false_and, and_false, reduceIte, reduceCtorEq, xB, ite_not, xretf_zc, xretf_c, xcont_c, xbd, h1, nI_neg0, cl_nI, k1.1, k1.2, e, nI_add]
  have e3 : ∀ w, xup (xup (xup (xup (xup (xup (xup I 24 1 (nI (n + 1))) (26 + n) 0 kd) (26 + n) 1 s) (26 + n) 2 rg) (26 + n) 3 ow) (26 + n) 4 (nI 1)) (26 + n) 5 (nI 0) 24 w = xup I 24 1 (nI (n + 1)) 24 w := fun w => by
    repeat rw [xup_o _ _ _ _ (show 24 ≠ 26 + n by omega)]
  have e4 : ∀ (f : Nat → Nat → Int32) k b v, xup f 34 k v 24 b = f 24 b := fun f k b v => xup_o _ _ _ _ (by decide)
  have e5 : xup I 24 1 (nI (n + 1)) 24 3 = nI d := by rw [xup_self, if_neg (by decide)]; exact h3
  have e6 : xup I 24 1 (nI (n + 1)) 24 1 = nI (n + 1) := by rw [xup_self, if_pos rfl]
  have e7 : ∀ (f : Nat → Nat → Int32) v, xup f 24 3 v 24 1 = f 24 1 := fun f v => by rw [xup_self, if_neg (by decide)]
  have e8 : nI (n + 1) - nI 1 = nI n := by rw [pk_sub (by omega)]; rfl
  rw [fX4_addSaid]
  simp (disch := omega) only [eX4_addSaid, xRl, xG1, xG2, kAll, rAll, nAll, List.map_nil, List.map_cons, List.sum_nil, List.sum_cons, Nat.reduceAdd, Nat.reduceSub, Nat.reduceMul, Nat.reduceLeDiff, Nat.reduceEqDiff, Nat.reduceLT, and_true, true_and, and_self, if_true, if_false, ne_eq, not_false_eq_true, not_true_eq_false, or_false, false_or, or_true, true_or, false_and, and_false, reduceIte, reduceCtorEq, xB, ite_not, xretf_zc, xretf_c, xcont_c, xbd, hg, k1.1, e, e3, e4, e5, e6, e7, e8, nI_neg0, cl_nI, b01, b00, nI_add]
/-- the reference's row behind a saying -/
abbrev sdM (I : Nat → Nat → Int32) (n : Nat) (kd s rg ow : Nat) : Nat → Nat → Int32 := xup (xup (xup (xup (xup (xup (xup (xup (xup I 78 (2 + n) (nI (s / 36))) 78 (10 + 7 * n) (nI kd)) 78 (10 + 7 * n + 1) (nI (s / 6 % 6))) 78 (10 + 7 * n + 2) (nI (s % 6))) 78 (10 + 7 * n + 3) (nI rg)) 78 (10 + 7 * n + 4) (nI ow)) 78 (10 + 7 * n + 5) (nI 1)) 78 (10 + 7 * n + 6) (nI 0)) 78 1 (nI (n + 1))
theorem sdM_ne {n kd s rg ow c : Nat} (h : c ≠ 78) : sdM I n kd s rg ow c = I c := by
  unfold sdM
  repeat rw [xup_ne _ _ _ h]
theorem sdM_at {n kd s rg ow : Nat} (q : Nat) : sdM I n kd s rg ow 78 q = if q = 1 then nI (n + 1) else if q = 10 + 7 * n + 6 then nI 0 else if q = 10 + 7 * n + 5 then nI 1 else if q = 10 + 7 * n + 4 then nI ow else if q = 10 + 7 * n + 3 then nI rg else if q = 10 + 7 * n + 2 then nI (s % 6) else if q = 10 + 7 * n + 1 then nI (s / 6 % 6) else if q = 10 + 7 * n then nI kd else if q = 2 + n then nI (s / 36) else I 78 q := by
  unfold sdM
  simp only [xup_self]
theorem sdC_ne {n d : Nat} {kd s rg ow : Int32} {c : Nat} (h1 : c ≠ 24) (h2 : c ≠ 34) (h3 : c ≠ 26 + n) : sdC I n d kd s rg ow c = I c := by
  unfold sdC
  rw [xup_ne _ _ _ h1, xup_ne _ _ _ h2]
  repeat rw [xup_ne _ _ _ h3]
  rw [xup_ne _ _ _ h1]
theorem RC_said {n d yr : Nat} (hR : RC I 24 0 n d yr) (hn0 : 0 < n) (hn : n < 8) (hd : d < 40) {kd s rg ow : Nat} (hkd : kd < 6) (hs : s < 216) (hr : rg < 10) (ho : ow < 4) : RC (sdM (kp (sdC I n d (nI kd) (nI s) (nI rg) (nI ow)) d) n kd s rg ow) 24 0 (n + 1) (d + 1) yr := by
  obtain ⟨⟨a1, a2, a3, a4, a5, a6, a7⟩, b, ⟨c1, c2⟩, hN, hP⟩ := hR
  generalize hI1 : sdC I n d (nI kd) (nI s) (nI rg) (nI ow) = I1
  have o1 : ∀ c, c ≠ 24 → c ≠ 34 → c ≠ 26 + n → I1 c = I c := fun c g1 g2 g3 => by rw [← hI1]; exact sdC_ne I g1 g2 g3
  have o2 : ∀ w, I1 24 w = if w = 3 then nI (d + 1) else if w = 1 then nI (n + 1) else I 24 w := by
    intro w
    rw [← hI1]
    unfold sdC
    rw [xup_self, xup_o _ _ _ _ (show 24 ≠ 34 by decide)]
    repeat rw [xup_o _ _ _ _ (show 24 ≠ 26 + n by omega)]
    rw [xup_self]
  have o3 : ∀ w, I1 34 w = if w = d then nI 1 else I 34 w := by
    intro w
    rw [← hI1]
    unfold sdC
    rw [xup_o _ _ _ _ (show 34 ≠ 24 by decide), xup_self]
    repeat rw [xup_o _ _ _ _ (show 34 ≠ 26 + n by omega)]
    rw [xup_o _ _ _ _ (show 34 ≠ 24 by decide)]
  have o4 : ∀ w, I1 (26 + n) w = if w = 5 then nI 0 else if w = 4 then nI 1 else if w = 3 then nI ow else if w = 2 then nI rg else if w = 1 then nI s else if w = 0 then nI kd else I (26 + n) w := by
    intro w
    rw [← hI1]
    unfold sdC
    rw [xup_o _ _ _ _ (show 26 + n ≠ 24 by omega), xup_o _ _ _ _ (show 26 + n ≠ 34 by omega)]
    simp only [xup_self]
    rw [xup_o _ _ _ _ (show 26 + n ≠ 24 by omega)]
  generalize hI2 : sdM (kp I1 d) n kd s rg ow = I2
  have p1 : ∀ c, c ≠ 78 → I2 c = I1 c := fun c hc => by
    rw [← hI2, sdM_ne _ hc]
    show kp I1 d c = I1 c
    unfold kp
    rw [xup_ne _ _ _ hc, mv1_ne _ _ _ _ hc]
  have p2 : ∀ q, I2 78 q = if q = 1 then nI (n + 1) else if q = 10 + 7 * n + 6 then nI 0 else if q = 10 + 7 * n + 5 then nI 1 else if q = 10 + 7 * n + 4 then nI ow else if q = 10 + 7 * n + 3 then nI rg else if q = 10 + 7 * n + 2 then nI (s % 6) else if q = 10 + 7 * n + 1 then nI (s / 6 % 6) else if q = 10 + 7 * n then nI kd else if q = 2 + n then nI (s / 36) else if q = 0 then nI (d + 1) else if 66 + 9 * d ≤ q ∧ q < 66 + 9 * d + 9 then I 78 (1 + (q - (66 + 9 * d))) else I 78 q := by
    intro q
    rw [← hI2, sdM_at]
    have e1 : kp I1 d 78 q = if q = 0 then nI (d + 1) else if 66 + 9 * d ≤ q ∧ q < 66 + 9 * d + 9 then I 78 (1 + (q - (66 + 9 * d))) else I 78 q := by
      unfold kp
      rw [xup_self]
      unfold mv1
      simp only [true_and, o1 78 (by decide) (by decide) (by omega)]
    rw [e1]
  clear hI1 hI2
  have es : ∀ i, i ≤ d → sayN I2 24 i (d + 1) = sayN I 24 i d + 1 := by
    intro i hi
    rw [sayN_split I2 24 hi (show d ≤ d + 1 by omega), sayN_1, p1 34 (by decide), o3, if_pos rfl, if_pos rfl]
    congr 1
    exact sayN_cong (fun j _ hj => by rw [p1 34 (by decide), o3, if_neg (by omega)])
  have hle := sayN_le I 24 0 d
  refine ⟨⟨by omega, by omega, by rw [p1 24 (by decide), o2]; rfl, by rw [p1 24 (by decide), o2]; rfl, by rw [p1 24 (by decide), o2]; exact a5, ?_, by rw [p2]; rfl⟩, ⟨fun i hi => ?_, fun k hk => ?_⟩, ⟨by rw [es 0 (by omega)]; omega, Or.inl (by rw [es 0 (by omega)]; rcases c2 with c2 | c2; omega; subst c2; omega)⟩, fun k hk => ?_, fun i hi => ?_⟩
  · rw [p2]
    simp only [if_neg (show ¬ 0 = 1 by omega), if_neg (show ¬ 0 = 10 + 7 * n + 6 by omega), if_neg (show ¬ 0 = 10 + 7 * n + 5 by omega), if_neg (show ¬ 0 = 10 + 7 * n + 4 by omega), if_neg (show ¬ 0 = 10 + 7 * n + 3 by omega), if_neg (show ¬ 0 = 10 + 7 * n + 2 by omega), if_neg (show ¬ 0 = 10 + 7 * n + 1 by omega), if_neg (show ¬ 0 = 10 + 7 * n by omega), if_neg (show ¬ 0 = 2 + n by omega), if_true]
  · rw [p1 _ (by decide), o3]
    split
    · exact Or.inr rfl
    · exact b.1 i hi
  · rw [p1 _ (by omega)]
    by_cases hkn : k = n
    · subst hkn
      rw [show 24 + 2 + k = 26 + k by omega, o4, if_pos rfl]
      exact Or.inl rfl
    · rw [o1 _ (by omega) (by omega) (by omega)]
      exact b.2 k hk
  · by_cases hkn : k = n
    · subst hkn
      unfold NC
      rw [show 24 + 2 + k = 26 + k by omega, p1 (26 + k) (by omega)]
      have w0 : I1 (26 + k) 0 = nI kd := by rw [o4]; rfl
      have w1 : I1 (26 + k) 1 = nI s := by rw [o4]; rfl
      have w2 : I1 (26 + k) 2 = nI rg := by rw [o4]; rfl
      have w3 : I1 (26 + k) 3 = nI ow := by rw [o4]; rfl
      have w4 : I1 (26 + k) 4 = nI 1 := by rw [o4]; rfl
      have w5 : I1 (26 + k) 5 = nI 0 := by rw [o4]; rfl
      rw [w0, w1, w2, w3, w4, w5]
      unfold tn
      rw [cl_nI (show kd < 2 ^ 31 by omega), cl_nI (show s < 2 ^ 31 by omega), cl_nI (show rg < 2 ^ 31 by omega), cl_nI (show ow < 2 ^ 31 by omega), cl_nI (show 1 < 2 ^ 31 by omega), cl_nI (show 0 < 2 ^ 31 by omega)]
      have v : ∀ x, I2 78 (0 + 10 + x + 7 * k) = I2 78 (10 + 7 * k + x) := fun x => by congr 1; omega
      refine ⟨⟨rfl, hkd, ?_⟩, ⟨rfl, hs, ?_, ?_⟩, ⟨rfl, hr, ?_⟩, ⟨rfl, ho, ?_⟩, ⟨rfl, by omega, ?_⟩, ⟨rfl, by omega, ?_⟩, ?_⟩
      · rw [show 0 + 10 + 7 * k = 10 + 7 * k by omega, p2]; repeat (first | rw [if_pos rfl] | rw [if_neg (by omega)])
      · rw [show 0 + 11 + 7 * k = 10 + 7 * k + 1 by omega, p2]; repeat (first | rw [if_pos rfl] | rw [if_neg (by omega)])
      · rw [show 0 + 12 + 7 * k = 10 + 7 * k + 2 by omega, p2]; repeat (first | rw [if_pos rfl] | rw [if_neg (by omega)])
      · rw [show 0 + 13 + 7 * k = 10 + 7 * k + 3 by omega, p2]; repeat (first | rw [if_pos rfl] | rw [if_neg (by omega)])
      · rw [show 0 + 14 + 7 * k = 10 + 7 * k + 4 by omega, p2]; repeat (first | rw [if_pos rfl] | rw [if_neg (by omega)])
      · rw [show 0 + 15 + 7 * k = 10 + 7 * k + 5 by omega, p2]; repeat (first | rw [if_pos rfl] | rw [if_neg (by omega)])
      · rw [show 0 + 16 + 7 * k = 10 + 7 * k + 6 by omega, p2]; repeat (first | rw [if_pos rfl] | rw [if_neg (by omega)])
      · rw [show 0 + 2 + k = 2 + k by omega, p2]
        repeat (first | rw [if_pos rfl] | rw [if_neg (by omega)])
        rfl
    · have hq : ∀ q, (2 ≤ q ∧ q < 2 + n) ∨ (10 ≤ q ∧ q < 10 + 7 * n) → I2 78 q = I 78 q := by
        intro q hq
        rw [p2]
        repeat rw [if_neg (by omega)]
      have hN1 := hN k (by omega)
      unfold NC at hN1 ⊢
      rw [hq (0 + 10 + 7 * k) (by omega), hq (0 + 11 + 7 * k) (by omega), hq (0 + 12 + 7 * k) (by omega), hq (0 + 13 + 7 * k) (by omega), hq (0 + 14 + 7 * k) (by omega), hq (0 + 15 + 7 * k) (by omega), hq (0 + 16 + 7 * k) (by omega), hq (0 + 2 + k) (by omega), p1 _ (by omega), o1 _ (by omega) (by omega) (by omega)]
      exact hN1
  · by_cases hid : i = d
    · subst hid
      rw [es i (Nat.le_refl i), show sayN I 24 i i = 0 by unfold sayN; rw [Nat.sub_self]; rfl]
      refine ⟨?_, fun k hk => ?_⟩
      · rw [p2, show n + 1 - (0 + 1) = n by omega]
        repeat (first | rw [if_neg (by omega)])
        rw [if_pos (by omega), show 1 + (0 + 66 + 9 * i - (66 + 9 * i)) = 0 + 1 by omega, a7]
      · have hk2 : k < n := by omega
        have hN1 := (hN k hk2).2.2.2.2.2.2
        rw [p1 (24 + 2 + k) (by omega), o1 (24 + 2 + k) (by omega) (by omega) (by omega), p2, show yr - (i + 1 - i - (0 + 1)) = yr by omega, ← hN1]
        repeat (first | rw [if_neg (by omega)])
        rw [if_pos (by omega)]
        congr 1
        omega
    · obtain ⟨g1, g2⟩ := hP i (by omega)
      have hsl := sayN_le I 24 i d
      rw [es i (by omega)]
      have hq : ∀ k, k < 9 → I2 78 (0 + 66 + 9 * i + k) = I 78 (0 + 66 + 9 * i + k) := by
        intro k hk
        rw [p2]
        repeat rw [if_neg (by omega)]
      refine ⟨by rw [show n + 1 - (sayN I 24 i d + 1) = n - sayN I 24 i d by omega, ← g1]; exact hq 0 (by omega), fun k hk => ?_⟩
      have hk2 : k < n - sayN I 24 i d := by omega
      rw [p1 (24 + 2 + k) (by omega), o1 (24 + 2 + k) (by omega) (by omega) (by omega), show yr - (d + 1 - i - (sayN I 24 i d + 1)) = yr - (d - i - sayN I 24 i d) by omega, ← g2 k hk2]
      have := hq (1 + k) (by omega)
      rw [show 0 + 66 + 9 * i + (1 + k) = 0 + 67 + 9 * i + k by omega] at this
      exact this
theorem sdM_kp {n d : Nat} {kd s rg ow : Nat} {kd' s' rg' ow' : Int32} (hn : n < 8) (hd : d < 40) : (∀ c, ¬ (24 ≤ c ∧ c ≤ 34) → c ≠ 78 → sdM (kp (sdC I n d kd' s' rg' ow') d) n kd s rg ow c = I c) ∧ ∀ i, 426 ≤ i → sdM (kp (sdC I n d kd' s' rg' ow') d) n kd s rg ow 78 i = I 78 i := by
  constructor
  · intro c h1 h2
    rw [sdM_ne _ h2]
    unfold kp
    rw [xup_ne _ _ _ h2, mv1_ne _ _ _ _ h2, sdC_ne _ (by omega) (by omega) (by omega)]
  · intro i hi
    rw [sdM_at]
    repeat rw [if_neg (by omega)]
    unfold kp
    rw [xup_self, if_neg (by omega), mv1_out _ (by omega), sdC_ne _ (by decide) (by decide) (by omega)]
theorem m4_0 : ((-4 : Int32) = nI 0) ↔ False := by decide
theorem pr_say (h : Cp I J) (k s r o : Int32) : Pair L FX8_say FX9_say [.int k, .int s, .int r, .int o] I J := by
  by_cases hk : nI 0 ≤ k ∧ k < nI 6
  · by_cases hs : nI 0 ≤ s ∧ s < nI 216
    · by_cases hr : nI 0 ≤ r ∧ r < nI 10
      · by_cases ho : nI 0 ≤ o ∧ o < nI 4
        · obtain ⟨kd, hkd, rfl⟩ := (Am_iff (by decide)).mp hk
          obtain ⟨sh, hsh, rfl⟩ := (Am_iff (by decide)).mp hs
          obtain ⟨rg, hrg, rfl⟩ := (Am_iff (by decide)).mp hr
          obtain ⟨ow, how, rfl⟩ := (Am_iff (by decide)).mp ho
          obtain ⟨n, d, yr, hR⟩ := h.2.2.2.2.2.2.1
          obtain ⟨hM, hC, hE⟩ := RC_M hR
          have hn := hM.1
          have hd := hR.1.2.1
          have h1 := hC.2.1
          have h3 := hR.1.2.2.2.1
          have m0 : I 78 0 = nI d := hR.1.2.2.2.2.2.1
          have m1 := hM.2.1
          have hy0 := h.2.2.2.2.2.1
          have pc := p4_callerOf L I J n yr 0 sh hC (by omega) hsh
          have pr := fun I2 (e : I2 78 = I 78) (e2 : I2 77 15 = nI 0) => p9_reaching L I2 J n 0 sh (Mok_of hM e) e2 (by omega) hsh
          have hml := msk_lt (rcM I 0 sh) n
          have h2p : 2 ^ n ≤ 2 ^ 8 := Nat.pow_le_pow_right (by omega) hn
          have hfm : msk (rcM I 0 sh) n = 0 ↔ fstv (rcC I yr 0 sh) nI (-9) 0 n = -9 := by
            rw [fst_none (by omega), msk0]
            exact ⟨fun q k hk => by rw [← RC_rc hR 0 sh k hk]; exact q k hk, fun q k hk => by rw [RC_rc hR 0 sh k hk]; exact q k hk⟩
          have pr0 := pr I rfl hy0
          by_cases hst : n = 0 ∨ ¬ fstv (rcC I yr 0 sh) nI (-9) 0 n = -9
          · refine ⟨.int (-4), I, J, I, J, ?_, ?_, h⟩
            · rw [fX8_say]
              rcases hst with hst | hst
              · simp (disch := omega) only [eX8_say, xRl, xG1, xG2, kAll, rAll, nAll, List.map_nil, List.map_cons, List.sum_nil, List.sum_cons, Nat.reduceAdd, Nat.reduceSub, Nat.reduceMul, Nat.reduceLeDiff, Nat.reduceEqDiff, Nat.reduceLT, and_true, true_and, and_self, if_true, if_false, ne_eq, not_false_eq_true, not_true_eq_false, or_false, false_or, or_true, true_or, false_and, and_false, reduceIte, reduceCtorEq, xB, ite_not, xretf_zc, xretf_c, xcont_c, xbd, p8_among, hk, hs, hr, ho, h1, nI_eq, hst]
              · simp (disch := omega) only [eX8_say, xRl, xG1, xG2, kAll, rAll, nAll, List.map_nil, List.map_cons, List.sum_nil, List.sum_cons, Nat.reduceAdd, Nat.reduceSub, Nat.reduceMul, Nat.reduceLeDiff, Nat.reduceEqDiff, Nat.reduceLT, and_true, true_and, and_self, if_true, if_false, ne_eq, not_false_eq_true, not_true_eq_false, or_false, false_or, or_true, true_or, false_and, and_false, reduceIte, reduceCtorEq, xB, ite_not, xretf_zc, xretf_c, xcont_c, xbd, p8_among, hk, hs, hr, ho, h1, nI_eq, pc, hst]
                split <;> rfl
            · rw [fX9_say]
              rcases hst with hst | hst
              · simp (disch := omega) only [eX9_say, xRl, xG1, xG2, kAll, rAll, nAll, List.map_nil, List.map_cons, List.sum_nil, List.sum_cons, Nat.reduceAdd, Nat.reduceSub, Nat.reduceMul, Nat.reduceLeDiff, Nat.reduceEqDiff, Nat.reduceLT, and_true, true_and, and_self, if_true, if_false, ne_eq, not_false_eq_true, not_true_eq_false, or_false, false_or, or_true, true_or, false_and, and_false, reduceIte, reduceCtorEq, xB, ite_not, xretf_zc, xretf_c, xcont_c, xbd, p9_isKind, p9_isSh, p9_inL, p9_isPe, hk, hs, hr, ho, nI_neg0, cl_nI, m1, nI_eq, hst]
              · have hst2 : ¬ msk (rcM I 0 sh) n = 0 := fun q => hst (hfm.mp q)
                simp (disch := omega) only [eX9_say, xRl, xG1, xG2, kAll, rAll, nAll, List.map_nil, List.map_cons, List.sum_nil, List.sum_cons, Nat.reduceAdd, Nat.reduceSub, Nat.reduceMul, Nat.reduceLeDiff, Nat.reduceEqDiff, Nat.reduceLT, and_true, true_and, and_self, if_true, if_false, ne_eq, not_false_eq_true, not_true_eq_false, or_false, false_or, or_true, true_or, false_and, and_false, reduceIte, reduceCtorEq, xB, ite_not, xretf_zc, xretf_c, xcont_c, xbd, p9_isKind, p9_isSh, p9_inL, p9_isPe, hk, hs, hr, ho, nI_neg0, cl_nI, m1, nI_eq, pr0, hst2]
                split <;> rfl
          · have hn0 : ¬ n = 0 := fun q => hst (Or.inl q)
            have hf9 : fstv (rcC I yr 0 sh) nI (-9) 0 n = -9 := Classical.byContradiction (fun q => hst (Or.inr q))
            have hm0 := hfm.mpr hf9
            by_cases hfu : n = 8 ∨ d = 40
            · refine ⟨.int (-2), I, J, I, J, ?_, ?_, h⟩
              · rw [fX8_say]
                simp (disch := omega) only [eX8_say, xRl, xG1, xG2, kAll, rAll, nAll, List.map_nil, List.map_cons, List.sum_nil, List.sum_cons, Nat.reduceAdd, Nat.reduceSub, Nat.reduceMul, Nat.reduceLeDiff, Nat.reduceEqDiff, Nat.reduceLT, and_true, true_and, and_self, if_true, if_false, ne_eq, not_false_eq_true, not_true_eq_false, or_false, false_or, or_true, true_or, false_and, and_false, reduceIte, reduceCtorEq, xB, ite_not, xretf_zc, xretf_c, xcont_c, xbd, p8_among, hk, hs, hr, ho, h1, h3, nI_eq, pc, hf9, hn0, nI_leI, nI_ltI]
                rcases hfu with rfl | rfl
                · simp
                · split <;> simp
              · rw [fX9_say]
                simp (disch := omega) only [eX9_say, xRl, xG1, xG2, kAll, rAll, nAll, List.map_nil, List.map_cons, List.sum_nil, List.sum_cons, Nat.reduceAdd, Nat.reduceSub, Nat.reduceMul, Nat.reduceLeDiff, Nat.reduceEqDiff, Nat.reduceLT, and_true, true_and, and_self, if_true, if_false, ne_eq, not_false_eq_true, not_true_eq_false, or_false, false_or, or_true, true_or, false_and, and_false, reduceIte, reduceCtorEq, xB, ite_not, xretf_zc, xretf_c, xcont_c, xbd, p9_isKind, p9_isSh, p9_inL, p9_isPe, hk, hs, hr, ho, nI_neg0, cl_nI, m1, m0, nI_eq, pr0, hm0, hn0]
                rcases hfu with rfl | rfl
                · simp
                · split <;> simp
            · have hn8 : n < 8 := by omega
              have hd40 : d < 40 := by omega
              have hn8' : ¬ n = 8 := by omega
              have hd40' : ¬ d = 40 := by omega
              have ha := p4_addSaid L I J hn8 hd40 h1 h3 (nI kd) (nI sh) (nI rg) (nI ow)
              generalize hI1 : sdC I n d (nI kd) (nI sh) (nI rg) (nI ow) = I1 at ha
              have q78 : I1 78 = I 78 := by rw [← hI1]; exact sdC_ne _ (by decide) (by decide) (by omega)
              have q77 : I1 77 = I 77 := by rw [← hI1]; exact sdC_ne _ (by decide) (by decide) (by omega)
              have pr1 := pr I1 q78 (by rw [q77]; exact hy0)
              rw [rcM_of q78, hm0] at pr1
              have r0 : I1 78 0 = nI d := by rw [q78]; exact m0
              have r1 : I1 78 1 = nI n := by rw [q78]; exact m1
              have hkp := p9_keepPast L I1 J hd40 r0
              have s1 : kp I1 d 78 1 = nI n := by
                unfold kp
                rw [xup_self, if_neg (by decide), mv1_out _ (by omega)]; exact r1
              have s2 : ∀ (f : Nat → Nat → Int32) q v, q ≠ 1 → xup f 78 q v 78 1 = f 78 1 := fun f q v hq => by rw [xup_self, if_neg (fun z => hq z.symm)]
              refine ⟨.int (nI n), I1, J, sdM (kp I1 d) n kd sh rg ow, J, ?_, ?_, ?_⟩
              · rw [fX8_say]
                simp (disch := omega) only [eX8_say, xRl, xG1, xG2, kAll, rAll, nAll, List.map_nil, List.map_cons, List.sum_nil, List.sum_cons, Nat.reduceAdd, Nat.reduceSub, Nat.reduceMul, Nat.reduceLeDiff, Nat.reduceEqDiff, Nat.reduceLT, and_true, true_and, and_self, if_true, if_false, ne_eq, not_false_eq_true, not_true_eq_false, or_false, false_or, or_true, true_or, false_and, and_false, reduceIte, reduceCtorEq, xB, ite_not, xretf_zc, xretf_c, xcont_c, xbd, p8_among, hk, hs, hr, ho, h1, h3, nI_eq, pc, hf9, hn0, nI_leI, nI_ltI, ha]
                rw [if_neg (by omega), if_pos hd40]
              · rw [fX9_say]
                simp (disch := omega) only [eX9_say, xRl, xG1, xG2, kAll, rAll, nAll, List.map_nil, List.map_cons, List.sum_nil, List.sum_cons, Nat.reduceAdd, Nat.reduceSub, Nat.reduceMul, Nat.reduceLeDiff, Nat.reduceEqDiff, Nat.reduceLT, and_true, true_and, and_self, if_true, if_false, ne_eq, not_false_eq_true, not_true_eq_false, or_false, false_or, or_true, true_or, false_and, and_false, reduceIte, reduceCtorEq, xB, ite_not, xretf_zc, xretf_c, xcont_c, xbd, p9_isKind, p9_isSh, p9_inL, p9_isPe, hk, hs, hr, ho, nI_neg0, cl_nI, r1, r0, nI_eq, pr1, hm0, hn0, hn8', hd40', hkp, s1, s2, nI_add, pk_mul, nI_z, pk_div, rem1, rem2]
                first | done | rfl | skip
              · rw [← hI1]
                exact Cp_reg h (sdM_kp I hn8 hd40).1 (sdM_kp I hn8 hd40).2 ⟨n + 1, d + 1, yr, RC_said I hR (by omega) hn8 hd40 hkd hsh hrg how⟩
        · refine ⟨.int (-1), I, J, I, J, ?_, ?_, h⟩
          · rw [fX8_say]
            simp (disch := omega) only [eX8_say, xRl, xG1, xG2, kAll, rAll, nAll, List.map_nil, List.map_cons, List.sum_nil, List.sum_cons, Nat.reduceAdd, Nat.reduceSub, Nat.reduceMul, Nat.reduceLeDiff, Nat.reduceEqDiff, Nat.reduceLT, and_true, true_and, and_self, if_true, if_false, ne_eq, not_false_eq_true, not_true_eq_false, or_false, false_or, or_true, true_or, false_and, and_false, reduceIte, reduceCtorEq, xB, ite_not, xretf_zc, xretf_c, xcont_c, xbd, p8_among, hk, hs, hr, ho]
          · rw [fX9_say]
            simp (disch := omega) only [eX9_say, xRl, xG1, xG2, kAll, rAll, nAll, List.map_nil, List.map_cons, List.sum_nil, List.sum_cons, Nat.reduceAdd, Nat.reduceSub, Nat.reduceMul, Nat.reduceLeDiff, Nat.reduceEqDiff, Nat.reduceLT, and_true, true_and, and_self, if_true, if_false, ne_eq, not_false_eq_true, not_true_eq_false, or_false, false_or, or_true, true_or, false_and, and_false, reduceIte, reduceCtorEq, xB, ite_not, xretf_zc, xretf_c, xcont_c, xbd, p9_isKind, p9_isSh, p9_inL, p9_isPe, hk, hs, hr, ho]
      · refine ⟨.int (-1), I, J, I, J, ?_, ?_, h⟩
        · rw [fX8_say]
          simp (disch := omega) only [eX8_say, xRl, xG1, xG2, kAll, rAll, nAll, List.map_nil, List.map_cons, List.sum_nil, List.sum_cons, Nat.reduceAdd, Nat.reduceSub, Nat.reduceMul, Nat.reduceLeDiff, Nat.reduceEqDiff, Nat.reduceLT, and_true, true_and, and_self, if_true, if_false, ne_eq, not_false_eq_true, not_true_eq_false, or_false, false_or, or_true, true_or, false_and, and_false, reduceIte, reduceCtorEq, xB, ite_not, xretf_zc, xretf_c, xcont_c, xbd, p8_among, hk, hs, hr]
        · rw [fX9_say]
          simp (disch := omega) only [eX9_say, xRl, xG1, xG2, kAll, rAll, nAll, List.map_nil, List.map_cons, List.sum_nil, List.sum_cons, Nat.reduceAdd, Nat.reduceSub, Nat.reduceMul, Nat.reduceLeDiff, Nat.reduceEqDiff, Nat.reduceLT, and_true, true_and, and_self, if_true, if_false, ne_eq, not_false_eq_true, not_true_eq_false, or_false, false_or, or_true, true_or, false_and, and_false, reduceIte, reduceCtorEq, xB, ite_not, xretf_zc, xretf_c, xcont_c, xbd, p9_isKind, p9_isSh, p9_inL, p9_isPe, hk, hs, hr]
    · refine ⟨.int (-1), I, J, I, J, ?_, ?_, h⟩
      · rw [fX8_say]
        simp (disch := omega) only [eX8_say, xRl, xG1, xG2, kAll, rAll, nAll, List.map_nil, List.map_cons, List.sum_nil, List.sum_cons, Nat.reduceAdd, Nat.reduceSub, Nat.reduceMul, Nat.reduceLeDiff, Nat.reduceEqDiff, Nat.reduceLT, and_true, true_and, and_self, if_true, if_false, ne_eq, not_false_eq_true, not_true_eq_false, or_false, false_or, or_true, true_or, false_and, and_false, reduceIte, reduceCtorEq, xB, ite_not, xretf_zc, xretf_c, xcont_c, xbd, p8_among, hk, hs]
      · rw [fX9_say]
        simp (disch := omega) only [eX9_say, xRl, xG1, xG2, kAll, rAll, nAll, List.map_nil, List.map_cons, List.sum_nil, List.sum_cons, Nat.reduceAdd, Nat.reduceSub, Nat.reduceMul, Nat.reduceLeDiff, Nat.reduceEqDiff, Nat.reduceLT, and_true, true_and, and_self, if_true, if_false, ne_eq, not_false_eq_true, not_true_eq_false, or_false, false_or, or_true, true_or, false_and, and_false, reduceIte, reduceCtorEq, xB, ite_not, xretf_zc, xretf_c, xcont_c, xbd, p9_isKind, p9_isSh, hk, hs]
  · refine ⟨.int (-1), I, J, I, J, ?_, ?_, h⟩
    · rw [fX8_say]
      simp (disch := omega) only [eX8_say, xRl, xG1, xG2, kAll, rAll, nAll, List.map_nil, List.map_cons, List.sum_nil, List.sum_cons, Nat.reduceAdd, Nat.reduceSub, Nat.reduceMul, Nat.reduceLeDiff, Nat.reduceEqDiff, Nat.reduceLT, and_true, true_and, and_self, if_true, if_false, ne_eq, not_false_eq_true, not_true_eq_false, or_false, false_or, or_true, true_or, false_and, and_false, reduceIte, reduceCtorEq, xB, ite_not, xretf_zc, xretf_c, xcont_c, xbd, p8_among, hk]
    · rw [fX9_say]
      simp (disch := omega) only [eX9_say, xRl, xG1, xG2, kAll, rAll, nAll, List.map_nil, List.map_cons, List.sum_nil, List.sum_cons, Nat.reduceAdd, Nat.reduceSub, Nat.reduceMul, Nat.reduceLeDiff, Nat.reduceEqDiff, Nat.reduceLT, and_true, true_and, and_self, if_true, if_false, ne_eq, not_false_eq_true, not_true_eq_false, or_false, false_or, or_true, true_or, false_and, and_false, reduceIte, reduceCtorEq, xB, ite_not, xretf_zc, xretf_c, xcont_c, xbd, p9_isKind, hk]
end DD
