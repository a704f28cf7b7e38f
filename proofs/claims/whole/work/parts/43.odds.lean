/-! chances -/
theorem cnt_snoc (f : Nat → Bool) : ∀ (d a : Nat), cnt f a (d + 1) = cnt f a d + (if f (a + d) = true then 1 else 0)
  | 0, a => by simp [cnt]
  | d + 1, a => by
    have ih := cnt_snoc f d (a + 1)
    show (if f a = true then 1 else 0) + cnt f (a + 1) (d + 1) = ((if f a = true then 1 else 0) + cnt f (a + 1) d) + _
    rw [ih, show a + 1 + d = a + (d + 1) by omega]
    omega
theorem gcd_steps : ∀ (k : Nat) (t : List (Nat × xO)) (P : Nat → Nat → Nat → Option xR), (∀ s v o, 0 < o → P s v o = P (s + 1) o (v % o)) → ∀ s v o, o < 2 ^ k → ∃ s', s' ≤ s + 2 * k ∧ P s v o = P s' (Nat.gcd v o) 0
  | 0, t, P, hP, s, v, o, ho => by
    have : o = 0 := by simp at ho; exact ho
    subst this
    exact ⟨s, by omega, by rw [Nat.gcd_zero_right]⟩
  | k + 1, t, P, hP, s, v, o, ho => by
    rcases Nat.eq_zero_or_pos o with h0 | h0
    · subst h0; exact ⟨s, by omega, by rw [Nat.gcd_zero_right]⟩
    · have hpow : 2 ^ (k + 1) = 2 * 2 ^ k := by rw [Nat.pow_succ]; omega
      have g1 : Nat.gcd v o = Nat.gcd o (v % o) := by rw [Nat.gcd_comm v o, Nat.gcd_rec o v, Nat.gcd_comm]
      have hm := Nat.mod_lt v h0
      by_cases h1 : v % o < 2 ^ k
      · obtain ⟨s', h2, h3⟩ := gcd_steps k t P hP (s + 1) o (v % o) h1
        exact ⟨s', by omega, by rw [hP s v o h0, h3, g1]⟩
      · have h4 : 0 < v % o := by have := Nat.one_le_two_pow (n := k); omega
        have g2 : Nat.gcd o (v % o) = Nat.gcd (v % o) (o % (v % o)) := by rw [Nat.gcd_comm o, Nat.gcd_rec (v % o) o, Nat.gcd_comm]
        have h5 : o % (v % o) < 2 ^ k := by
          have e : o % (v % o) = o - v % o := by
            rw [Nat.mod_eq_sub_mod (by omega), Nat.mod_eq_of_lt (by omega)]
          omega
        obtain ⟨s', h2, h3⟩ := gcd_steps k t P hP (s + 2) (v % o) (o % (v % o)) h5
        exact ⟨s', by omega, by rw [hP s v o h0, hP (s + 1) o (v % o) h4, h3, g1, g2]⟩
theorem lN_z {m : Nat} (h : m < 2 ^ 31) : (lN m = 0) ↔ m = 0 := ⟨fun q => (lN_eq (b := 0) h (by decide)).mp q, fun q => by rw [q]; rfl⟩
theorem lrem1 {a b : Nat} (ha : a < 2 ^ 63) (h0 : 0 < b) (hb : b < 2 ^ 63) : lN a - lN a / lN b * lN b = lN (a % b) := pk_lRem ha h0 hb
section O1
variable (L : Nat) (I : Nat → Nat → Int32) (J : Nat → Nat → Int64)
theorem lg_z {m : Nat} (h : m < 2 ^ 31) : (lg_cmp (lN m) 0 = nI 0) ↔ m = 0 := by
  unfold lg_cmp
  by_cases h0 : m = 0
  · subst h0; decide
  · have h1 : (0 : Int64) < lN m := (lN_lt (a := 0) (by decide) h).mpr (by omega)
    rw [if_pos h1]
    constructor
    · intro q; exact absurd q (by decide)
    · intro q; exact absurd q h0
theorem p8_gd (a b : Nat) (ha : a < 2 ^ 31) (hb : b < 2 ^ 8) (σ : xS) : FX8_greatestDivisor [.long (lN a), .long (lN b)] σ = some (some (.long (lN (Nat.gcd a b))), σ) := by
  rw [fX8_greatestDivisor]
  simp (disch := omega) only [eX8_greatestDivisor, xRl, xG1, xG2, kAll, rAll, nAll, List.map_nil, List.map_cons, List.sum_nil, List.sum_cons, Nat.reduceAdd, Nat.reduceSub, Nat.reduceMul, Nat.reduceLeDiff, Nat.reduceEqDiff, Nat.reduceLT, and_true, true_and, and_self, if_true, if_false, ne_eq, not_false_eq_true, not_true_eq_false, or_false, false_or, or_true, true_or, false_and, and_false, reduceIte, reduceCtorEq, xB, ite_not, xretf_zc, xretf_c, xcont_c, xbd]
  -- steps, with numbers that stay small
  have key : ∀ (k s v o : Nat) (r : Value) , v < 2 ^ 31 → o < 2 ^ k → k ≤ 8 → s + 2 * k ≤ 100 → (r = .null ∨ ∃ x, r = .long x) → ∃ r2 s', (s' ≤ 100) ∧ xD tX8_greatestDivisor (3, [.long (lN v), .null, .long (lN o), .null, .int (nI s), r, .null], [], 0, σ) = xD tX8_greatestDivisor (3, [.long (lN (Nat.gcd v o)), .null, .long (lN 0), .null, .int (nI s'), r2, .null], [], 0, σ) := by
    intro k
    have step : ∀ (s v o : Nat) (r : Value), v < 2 ^ 31 → 0 < o → o < 2 ^ 31 → s < 150 → xD tX8_greatestDivisor (3, [.long (lN v), .null, .long (lN o), .null, .int (nI s), r, .null], [], 0, σ) = xD tX8_greatestDivisor (3, [.long (lN o), .null, .long (lN (v % o)), .null, .int (nI (s + 1)), .long (lN (v % o)), .null], [], 0, σ) := by
      intro s v o r hv h0 ho hs
      rw [hX8_greatestDivisor_3]
      simp (disch := omega) only [eX8_greatestDivisor, xRl, xG1, xG2, kAll, rAll, nAll, List.map_nil, List.map_cons, List.sum_nil, List.sum_cons, Nat.reduceAdd, Nat.reduceSub, Nat.reduceMul, Nat.reduceLeDiff, Nat.reduceEqDiff, Nat.reduceLT, and_true, true_and, and_self, if_true, if_false, ne_eq, not_false_eq_true, not_true_eq_false, or_false, false_or, or_true, true_or, false_and, and_false, reduceIte, reduceCtorEq, xB, ite_not, xretf_zc, xretf_c, xcont_c, xbd, nI_leI, lg_z, lN_z, lrem1, nI_add]
      rw [if_neg (by omega), if_neg (by omega), if_neg (by omega)]
    induction k with
    | zero =>
      intro s v o r hv ho hk hs hr
      have : o = 0 := by simp at ho; exact ho
      subst this
      exact ⟨r, s, by omega, by rw [Nat.gcd_zero_right]⟩
    | succ k ih =>
      intro s v o r hv ho hk hs hr
      rcases Nat.eq_zero_or_pos o with h0 | h0
      · subst h0; exact ⟨r, s, by omega, by rw [Nat.gcd_zero_right]⟩
      · have hpow : 2 ^ (k + 1) = 2 * 2 ^ k := by rw [Nat.pow_succ]; omega
        have hp8 : 2 ^ (k + 1) ≤ 2 ^ 8 := Nat.pow_le_pow_right (by omega) hk
        have g1 : Nat.gcd v o = Nat.gcd o (v % o) := by rw [Nat.gcd_comm v o, Nat.gcd_rec o v, Nat.gcd_comm]
        have hm := Nat.mod_lt v h0
        by_cases h1 : v % o < 2 ^ k
        · obtain ⟨r2, s', h2, h3⟩ := ih (s + 1) o (v % o) (.long (lN (v % o))) (by omega) h1 (by omega) (by omega) (Or.inr ⟨_, rfl⟩)
          exact ⟨r2, s', h2, by rw [step s v o r hv h0 (by omega) (by omega), h3, g1]⟩
        · have h4 : 0 < v % o := by have := Nat.one_le_two_pow (n := k); omega
          have g2 : Nat.gcd o (v % o) = Nat.gcd (v % o) (o % (v % o)) := by rw [Nat.gcd_comm o, Nat.gcd_rec (v % o) o, Nat.gcd_comm]
          have h5 : o % (v % o) < 2 ^ k := by
            have e : o % (v % o) = o - v % o := by
              rw [Nat.mod_eq_sub_mod (by omega), Nat.mod_eq_of_lt (by omega)]
            omega
          obtain ⟨r2, s', h2, h3⟩ := ih (s + 2) (v % o) (o % (v % o)) (.long (lN (o % (v % o)))) (by omega) h5 (by omega) (by omega) (Or.inr ⟨_, rfl⟩)
          exact ⟨r2, s', h2, by rw [step s v o r hv h0 (by omega) (by omega), step (s + 1) o (v % o) _ (by omega) h4 (by omega) (by omega), h3, g1, g2]⟩
  obtain ⟨r2, s', h2, h3⟩ := key 8 0 a b .null ha hb (Nat.le_refl 8) (by omega) (Or.inl rfl)
  rw [h3, hX8_greatestDivisor_3]
  simp (disch := omega) only [eX8_greatestDivisor, xRl, xG1, xG2, kAll, rAll, nAll, List.map_nil, List.map_cons, List.sum_nil, List.sum_cons, Nat.reduceAdd, Nat.reduceSub, Nat.reduceMul, Nat.reduceLeDiff, Nat.reduceEqDiff, Nat.reduceLT, and_true, true_and, and_self, if_true, if_false, ne_eq, not_false_eq_true, not_true_eq_false, or_false, false_or, or_true, true_or, false_and, and_false, reduceIte, reduceCtorEq, xB, ite_not, xretf_zc, xretf_c, xcont_c, xbd, nI_leI, lg_z, lN_z]
  rw [if_neg (by omega)]
theorem gcd_le216 (a : Nat) : Nat.gcd a 216 ≤ 216 ∧ 0 < Nat.gcd a 216 := ⟨Nat.gcd_le_right _ (by decide), Nat.gcd_pos_of_pos_right _ (by decide)⟩
theorem p8_tellChance (a : Nat) (ha : a < 2 ^ 31) : FX8_tellChance [.ref 1, .long (lN a), .long (lN 216)] (S0 L I J) = some (none, S0 L I (xup (xup J 1 11 (lN (a / Nat.gcd a 216))) 1 12 (lN (216 / Nat.gcd a 216)))) := by
  rw [fX8_tellChance]
  obtain ⟨g1, g2⟩ := gcd_le216 a
  simp (disch := omega) only [eX8_tellChance, xRl, xG1, xG2, kAll, rAll, nAll, List.map_nil, List.map_cons, List.sum_nil, List.sum_cons, Nat.reduceAdd, Nat.reduceSub, Nat.reduceMul, Nat.reduceLeDiff, Nat.reduceEqDiff, Nat.reduceLT, and_true, true_and, and_self, if_true, if_false, ne_eq, not_false_eq_true, not_true_eq_false, or_false, false_or, or_true, true_or, false_and, and_false, reduceIte, reduceCtorEq, xB, ite_not, xretf_zc, xretf_c, xcont_c, xbd, p8_gd, lg_z, lN_z, pk_lDiv]
  rw [if_neg (by omega), if_neg (by omega), if_neg (by omega)]
theorem p9_tellParts (a : Nat) (ha : a < 2 ^ 30) : FX9_tellParts [.ref 77, .int (nI a)] (S0 L I J) = some (some (.int (nI 1)), S0 L I (xup (xup J 77 6 (lN (a / Nat.gcd a 216))) 77 7 (lN (216 / Nat.gcd a 216)))) := by
  rw [fX9_tellParts]
  simp (disch := omega) only [eX9_tellParts, xRl, xG1, xG2, kAll, rAll, nAll, List.map_nil, List.map_cons, List.sum_nil, List.sum_cons, Nat.reduceAdd, Nat.reduceSub, Nat.reduceMul, Nat.reduceLeDiff, Nat.reduceEqDiff, Nat.reduceLT, and_true, true_and, and_self, if_true, if_false, ne_eq, not_false_eq_true, not_true_eq_false, or_false, false_or, or_true, true_or, false_and, and_false, reduceIte, reduceCtorEq, xB, ite_not, xretf_zc, xretf_c, xcont_c, xbd]
  have key : ∀ (o v : Nat) (r : Value), v < 2 ^ 30 → o < 2 ^ 30 → ∃ r2, xD tX9_tellParts (6, [.ref 77, .int (nI a), .int (nI v), .int (nI o), r], [], 0, S0 L I J) = xD tX9_tellParts (6, [.ref 77, .int (nI a), .int (nI (Nat.gcd v o)), .int (nI 0), r2], [], 0, S0 L I J) := by
    intro o
    induction o using Nat.strongRecOn with
    | ind o ih =>
      intro v r hv ho
      rcases Nat.eq_zero_or_pos o with h0 | h0
      · subst h0; exact ⟨r, by rw [Nat.gcd_zero_right]⟩
      · have hm := Nat.mod_lt v h0
        have g1 : Nat.gcd v o = Nat.gcd o (v % o) := by rw [Nat.gcd_comm v o, Nat.gcd_rec o v, Nat.gcd_comm]
        obtain ⟨r2, h2⟩ := ih (v % o) hm o (.int (nI (v % o))) (by omega) (by omega)
        refine ⟨r2, ?_⟩
        rw [hX9_tellParts_6]
        simp (disch := omega) only [eX9_tellParts, xRl, xG1, xG2, kAll, rAll, nAll, List.map_nil, List.map_cons, List.sum_nil, List.sum_cons, Nat.reduceAdd, Nat.reduceSub, Nat.reduceMul, Nat.reduceLeDiff, Nat.reduceEqDiff, Nat.reduceLT, and_true, true_and, and_self, if_true, if_false, ne_eq, not_false_eq_true, not_true_eq_false, or_false, false_or, or_true, true_or, false_and, and_false, reduceIte, reduceCtorEq, xB, ite_not, xretf_zc, xretf_c, xcont_c, xbd, nI_eq, nI_z, pk_div, rem1, rem2]
        rw [if_neg (by omega), h2, g1]
  obtain ⟨r2, h2⟩ := key 216 a .null ha (by decide)
  obtain ⟨g1, g2⟩ := gcd_le216 a
  have hq : a / Nat.gcd a 216 ≤ a := Nat.div_le_self _ _
  have hq2 : 216 / Nat.gcd a 216 ≤ 216 := Nat.div_le_self _ _
  rw [h2, hX9_tellParts_6]
  simp (disch := omega) only [eX9_tellParts, xRl, xG1, xG2, kAll, rAll, nAll, List.map_nil, List.map_cons, List.sum_nil, List.sum_cons, Nat.reduceAdd, Nat.reduceSub, Nat.reduceMul, Nat.reduceLeDiff, Nat.reduceEqDiff, Nat.reduceLT, and_true, true_and, and_self, if_true, if_false, ne_eq, not_false_eq_true, not_true_eq_false, or_false, false_or, or_true, true_or, false_and, and_false, reduceIte, reduceCtorEq, xB, ite_not, xretf_zc, xretf_c, xcont_c, xbd, nI_eq, nI_z, pk_div, nI_l]
theorem Cp_J {I : Nat → Nat → Int32} {J : Nat → Nat → Int64} (h : Cp I J) (u v : Int64) : Cp I (xup (xup (xup (xup J 1 11 u) 1 12 v) 77 6 u) 77 7 v) := by
  obtain ⟨h1, h2, h3, h4, h5, h6, h7⟩ := h
  exact ⟨h1, h2, h3, h4, ⟨by simp [xup], by simp [xup]⟩, h6, h7⟩
theorem own_eq {n d yr : Nat} (hR : RC I 24 0 n d yr) (y s : Nat) : fstv (rcM I y s) (fun k => nI (mOw I k)) (-9) 0 n = fstv (rcC I yr y s) (fun k => nI (cv I k 3)) (-9) 0 n :=
  fstv_congr (fun k _ hk => by
    obtain ⟨⟨e1, e2, e3, e4, e5⟩, -⟩ := (RC_M hR).2.2 k (by omega)
    exact ⟨RC_rc hR y s k (by omega), by rw [e3]⟩)
theorem pr_odds (h : Cp I J) (p : Int32) : Pair L FX8_odds FX9_odds [.int p] I J := by
  by_cases hp : nI 0 ≤ p ∧ p < nI 4
  · obtain ⟨b, hb, rfl⟩ := (Am_iff (by decide)).mp hp
    obtain ⟨n, d, yr, hR⟩ := h.2.2.2.2.2.2.1
    obtain ⟨hM, hC, hE⟩ := RC_M hR
    generalize hf : (fun s => decide (fstv (rcC I yr 0 s) (fun k => nI (cv I k 3)) (-9) 0 n = nI b)) = f
    have hfd : ∀ s, (fstv (rcC I yr 0 s) (fun k => nI (cv I k 3)) (-9) 0 n = nI b) ↔ f s = true := fun s => by rw [← hf]; simp
    have hc := cnt_le f 216 0
    generalize hu : lN (cnt f 0 216 / Nat.gcd (cnt f 0 216) 216) = u
    generalize hw : lN (216 / Nat.gcd (cnt f 0 216) 216) = w
    refine ⟨.int (nI 1), I, xup (xup J 1 11 u) 1 12 w, I, xup (xup (xup (xup J 1 11 u) 1 12 w) 77 6 u) 77 7 w, ?_, ?_, Cp_J h u w⟩
    · rw [fX8_odds]
      simp (disch := omega) only [eX8_odds, xRl, xG1, xG2, kAll, rAll, nAll, List.map_nil, List.map_cons, List.sum_nil, List.sum_cons, Nat.reduceAdd, Nat.reduceSub, Nat.reduceMul, Nat.reduceLeDiff, Nat.reduceEqDiff, Nat.reduceLT, and_true, true_and, and_self, if_true, if_false, ne_eq, not_false_eq_true, not_true_eq_false, or_false, false_or, or_true, true_or, false_and, and_false, reduceIte, reduceCtorEq, xB, ite_not, xretf_zc, xretf_c, xcont_c, xbd, p8_among, hp]
      have key := xloop (t := tX8_odds) (st := fun i (_ : Unit) => (14, [.ref 1, .int (nI b), .int (nI (cnt f 0 i)), .int (nI i)], [], 0, S0 L I J)) (g := fun _ _ => ()) (N := 216) (Inv := fun _ _ => True) (a0 := ()) trivial (by
        intro i x hi _
        refine ⟨?_, trivial⟩
        show xD tX8_odds (14, _) = _
        rw [hX8_odds_14]
        simp (disch := omega) only [eX8_odds, xRl, xG1, xG2, kAll, rAll, nAll, List.map_nil, List.map_cons, List.sum_nil, List.sum_cons, Nat.reduceAdd, Nat.reduceSub, Nat.reduceMul, Nat.reduceLeDiff, Nat.reduceEqDiff, Nat.reduceLT, and_true, true_and, and_self, if_true, if_false, ne_eq, not_false_eq_true, not_true_eq_false, or_false, false_or, or_true, true_or, false_and, and_false, reduceIte, reduceCtorEq, xB, ite_not, xretf_zc, xretf_c, xcont_c, xbd, nI_leI, p4_ownerOf L I J n yr 0 i hC (by omega) hi, hfd, nI_add]
        rw [if_neg (by omega)]
        show _ = xD tX8_odds (14, [_, _, .int (nI (cnt f 0 (i + 1))), _], _)
        rw [cnt_snoc, Nat.zero_add]
        split <;> rfl) 216 (Nat.le_refl 216)
      rw [show xD tX8_odds (14, [.ref 1, .int (nI b), .int (nI 0), .int (nI 0)], [], 0, S0 L I J) = _ from key.1, hX8_odds_14]
      simp (disch := omega) only [eX8_odds, xRl, xG1, xG2, kAll, rAll, nAll, List.map_nil, List.map_cons, List.sum_nil, List.sum_cons, Nat.reduceAdd, Nat.reduceSub, Nat.reduceMul, Nat.reduceLeDiff, Nat.reduceEqDiff, Nat.reduceLT, and_true, true_and, and_self, if_true, if_false, ne_eq, not_false_eq_true, not_true_eq_false, or_false, false_or, or_true, true_or, false_and, and_false, reduceIte, reduceCtorEq, xB, ite_not, xretf_zc, xretf_c, xcont_c, xbd, nI_leI, nI_l]
      rw [show ((216 : Int64)) = lN 216 from rfl]
      simp (disch := omega) only [eX8_odds, xRl, xG1, xG2, kAll, rAll, nAll, List.map_nil, List.map_cons, List.sum_nil, List.sum_cons, Nat.reduceAdd, Nat.reduceSub, Nat.reduceMul, Nat.reduceLeDiff, Nat.reduceEqDiff, Nat.reduceLT, and_true, true_and, and_self, if_true, if_false, ne_eq, not_false_eq_true, not_true_eq_false, or_false, false_or, or_true, true_or, false_and, and_false, reduceIte, reduceCtorEq, xB, ite_not, xretf_zc, xretf_c, xcont_c, xbd, p8_tellChance, hu, hw]
    · rw [fX9_odds]
      simp (disch := omega) only [eX9_odds, xRl, xG1, xG2, kAll, rAll, nAll, List.map_nil, List.map_cons, List.sum_nil, List.sum_cons, Nat.reduceAdd, Nat.reduceSub, Nat.reduceMul, Nat.reduceLeDiff, Nat.reduceEqDiff, Nat.reduceLT, and_true, true_and, and_self, if_true, if_false, ne_eq, not_false_eq_true, not_true_eq_false, or_false, false_or, or_true, true_or, false_and, and_false, reduceIte, reduceCtorEq, xB, ite_not, xretf_zc, xretf_c, xcont_c, xbd, p9_isPe, hp]
      have key := xloop (t := tX9_odds) (st := fun i (_ : Unit) => (13, [.ref 77, .int (nI b), .int (nI (cnt f 0 i)), .int (nI i)], [], 0, S0 L I (xup (xup J 1 11 u) 1 12 w))) (g := fun _ _ => ()) (N := 216) (Inv := fun _ _ => True) (a0 := ()) trivial (by
        intro i x hi _
        refine ⟨?_, trivial⟩
        show xD tX9_odds (13, _) = _
        rw [hX9_odds_13]
        simp (disch := omega) only [eX9_odds, xRl, xG1, xG2, kAll, rAll, nAll, List.map_nil, List.map_cons, List.sum_nil, List.sum_cons, Nat.reduceAdd, Nat.reduceSub, Nat.reduceMul, Nat.reduceLeDiff, Nat.reduceEqDiff, Nat.reduceLT, and_true, true_and, and_self, if_true, if_false, ne_eq, not_false_eq_true, not_true_eq_false, or_false, false_or, or_true, true_or, false_and, and_false, reduceIte, reduceCtorEq, xB, ite_not, xretf_zc, xretf_c, xcont_c, xbd, nI_leI, p9_ownerOf L I (xup (xup J 1 11 u) 1 12 w) n 0 i hM h.2.2.2.2.2.1 (by omega) hi, own_eq I hR, hfd, nI_add]
        rw [if_neg (by omega)]
        show _ = xD tX9_odds (13, [_, _, .int (nI (cnt f 0 (i + 1))), _], _)
        rw [cnt_snoc, Nat.zero_add]
        split <;> rfl) 216 (Nat.le_refl 216)
      rw [show xD tX9_odds (13, [.ref 77, .int (nI b), .int (nI 0), .int (nI 0)], [], 0, S0 L I (xup (xup J 1 11 u) 1 12 w)) = _ from key.1, hX9_odds_13]
      simp (disch := omega) only [eX9_odds, xRl, xG1, xG2, kAll, rAll, nAll, List.map_nil, List.map_cons, List.sum_nil, List.sum_cons, Nat.reduceAdd, Nat.reduceSub, Nat.reduceMul, Nat.reduceLeDiff, Nat.reduceEqDiff, Nat.reduceLT, and_true, true_and, and_self, if_true, if_false, ne_eq, not_false_eq_true, not_true_eq_false, or_false, false_or, or_true, true_or, false_and, and_false, reduceIte, reduceCtorEq, xB, ite_not, xretf_zc, xretf_c, xcont_c, xbd, nI_leI, p9_tellParts, hu, hw]
  · refine ⟨.int (-1), I, J, I, J, ?_, ?_, h⟩
    · rw [fX8_odds]
      simp (disch := omega) only [eX8_odds, xRl, xG1, xG2, kAll, rAll, nAll, List.map_nil, List.map_cons, List.sum_nil, List.sum_cons, Nat.reduceAdd, Nat.reduceSub, Nat.reduceMul, Nat.reduceLeDiff, Nat.reduceEqDiff, Nat.reduceLT, and_true, true_and, and_self, if_true, if_false, ne_eq, not_false_eq_true, not_true_eq_false, or_false, false_or, or_true, true_or, false_and, and_false, reduceIte, reduceCtorEq, xB, ite_not, xretf_zc, xretf_c, xcont_c, xbd, p8_among, hp]
    · rw [fX9_odds]
      simp (disch := omega) only [eX9_odds, xRl, xG1, xG2, kAll, rAll, nAll, List.map_nil, List.map_cons, List.sum_nil, List.sum_cons, Nat.reduceAdd, Nat.reduceSub, Nat.reduceMul, Nat.reduceLeDiff, Nat.reduceEqDiff, Nat.reduceLT, and_true, true_and, and_self, if_true, if_false, ne_eq, not_false_eq_true, not_true_eq_false, or_false, false_or, or_true, true_or, false_and, and_false, reduceIte, reduceCtorEq, xB, ite_not, xretf_zc, xretf_c, xcont_c, xbd, p9_isPe, hp]
/-- sums of small numbers -/
def sumN (f : Nat → Nat) : Nat → Nat
  | 0 => 0
  | k + 1 => sumN f k + f k
theorem sumN_le {f : Nat → Nat} {m : Nat} (h : ∀ i, f i ≤ m) : ∀ k, sumN f k ≤ m * k
  | 0 => Nat.zero_le _
  | k + 1 => by have := sumN_le h k; have := h k; unfold sumN; rw [Nat.mul_succ]; omega
def oweN (ow kd du : Nat → Nat) (p k : Nat) : Nat := if ow k = p then 0 else if kd k = 5 then 0 else du k
theorem fstv_nI (f : Nat → Bool) (g : Nat → Nat) (z : Nat) : ∀ (d a : Nat), fstv f (fun k => nI (g k)) (nI z) a d = nI (fstv f g z a d)
  | 0, a => rfl
  | d + 1, a => by unfold fstv; split <;> first | rfl | exact fstv_nI f g z d (a + 1)
theorem owe_nI (ow kd du : Nat → Nat) (p : Nat) : owe ow kd du p = fun k => nI (oweN ow kd du p k) := by
  funext k
  unfold owe oweN
  repeat' split
  all_goals rfl
theorem fstv_le {f : Nat → Bool} {g : Nat → Nat} {m : Nat} : ∀ (d a : Nat), (∀ k, a ≤ k → k < a + d → g k ≤ m) → fstv f g 0 a d ≤ m
  | 0, a, _ => Nat.zero_le _
  | d + 1, a, h => by
    unfold fstv
    split
    · exact h a (Nat.le_refl a) (by omega)
    · exact fstv_le d (a + 1) (fun k h1 h2 => h k (by omega) (by omega))
theorem pr_mid (h : Cp I J) (p : Int32) : Pair L FX8_mid FX9_mid [.int p] I J := by
  by_cases hp : nI 0 ≤ p ∧ p < nI 4
  · obtain ⟨b, hb, rfl⟩ := (Am_iff (by decide)).mp hp
    obtain ⟨n, d, yr, hR⟩ := h.2.2.2.2.2.2.1
    obtain ⟨hM, hC, hE⟩ := RC_M hR
    generalize hg : (fun s => fstv (rcC I yr 0 s) (oweN (fun k => cv I k 3) (fun k => cv I k 0) (fun k => cv I k 4) b) 0 0 n) = g
    have hgd : ∀ s, fstv (rcC I yr 0 s) (owe (fun k => cv I k 3) (fun k => cv I k 0) (fun k => cv I k 4) b) (nI 0) 0 n = nI (g s) := fun s => by rw [owe_nI, fstv_nI, ← hg]
    have hle : ∀ s, g s ≤ 9 := fun s => by
      rw [← hg]
      refine fstv_le n 0 (fun k _ hk => ?_)
      have := (hC.2.2.2.2 k (by omega)).2.2.2.2.1.2
      unfold oweN
      repeat' split
      all_goals first | exact Nat.zero_le _ | exact Nat.le_of_lt_succ this
    have hc := sumN_le hle 216
    generalize hu : lN (sumN g 216 / Nat.gcd (sumN g 216) 216) = u
    generalize hw : lN (216 / Nat.gcd (sumN g 216) 216) = w
    refine ⟨.int (nI 1), I, xup (xup J 1 11 u) 1 12 w, I, xup (xup (xup (xup J 1 11 u) 1 12 w) 77 6 u) 77 7 w, ?_, ?_, Cp_J h u w⟩
    · rw [fX8_mid]
      simp (disch := omega) only [eX8_mid, xRl, xG1, xG2, kAll, rAll, nAll, List.map_nil, List.map_cons, List.sum_nil, List.sum_cons, Nat.reduceAdd, Nat.reduceSub, Nat.reduceMul, Nat.reduceLeDiff, Nat.reduceEqDiff, Nat.reduceLT, and_true, true_and, and_self, if_true, if_false, ne_eq, not_false_eq_true, not_true_eq_false, or_false, false_or, or_true, true_or, false_and, and_false, reduceIte, reduceCtorEq, xB, ite_not, xretf_zc, xretf_c, xcont_c, xbd, p8_among, hp]
      have key := xloop (t := tX8_mid) (st := fun i (_ : Unit) => (14, [.ref 1, .int (nI b), .int (nI (sumN g i)), .int (nI i)], [], 0, S0 L I J)) (g := fun _ _ => ()) (N := 216) (Inv := fun _ _ => True) (a0 := ()) trivial (by
        intro i x hi _
        refine ⟨?_, trivial⟩
        show xD tX8_mid (14, _) = _
        rw [hX8_mid_14]
        simp (disch := omega) only [eX8_mid, xRl, xG1, xG2, kAll, rAll, nAll, List.map_nil, List.map_cons, List.sum_nil, List.sum_cons, Nat.reduceAdd, Nat.reduceSub, Nat.reduceMul, Nat.reduceLeDiff, Nat.reduceEqDiff, Nat.reduceLT, and_true, true_and, and_self, if_true, if_false, ne_eq, not_false_eq_true, not_true_eq_false, or_false, false_or, or_true, true_or, false_and, and_false, reduceIte, reduceCtorEq, xB, ite_not, xretf_zc, xretf_c, xcont_c, xbd, nI_leI, p4_owedBy L I J n yr b i hC hb hi, hgd, nI_add]
        rw [if_neg (by omega)]
        rfl) 216 (Nat.le_refl 216)
      rw [show xD tX8_mid (14, [.ref 1, .int (nI b), .int (nI 0), .int (nI 0)], [], 0, S0 L I J) = _ from key.1, hX8_mid_14]
      simp (disch := omega) only [eX8_mid, xRl, xG1, xG2, kAll, rAll, nAll, List.map_nil, List.map_cons, List.sum_nil, List.sum_cons, Nat.reduceAdd, Nat.reduceSub, Nat.reduceMul, Nat.reduceLeDiff, Nat.reduceEqDiff, Nat.reduceLT, and_true, true_and, and_self, if_true, if_false, ne_eq, not_false_eq_true, not_true_eq_false, or_false, false_or, or_true, true_or, false_and, and_false, reduceIte, reduceCtorEq, xB, ite_not, xretf_zc, xretf_c, xcont_c, xbd, nI_leI, nI_l]
      rw [show ((216 : Int64)) = lN 216 from rfl]
      simp (disch := omega) only [eX8_mid, xRl, xG1, xG2, kAll, rAll, nAll, List.map_nil, List.map_cons, List.sum_nil, List.sum_cons, Nat.reduceAdd, Nat.reduceSub, Nat.reduceMul, Nat.reduceLeDiff, Nat.reduceEqDiff, Nat.reduceLT, and_true, true_and, and_self, if_true, if_false, ne_eq, not_false_eq_true, not_true_eq_false, or_false, false_or, or_true, true_or, false_and, and_false, reduceIte, reduceCtorEq, xB, ite_not, xretf_zc, xretf_c, xcont_c, xbd, p8_tellChance, hu, hw]
    · rw [fX9_mid]
      simp (disch := omega) only [eX9_mid, xRl, xG1, xG2, kAll, rAll, nAll, List.map_nil, List.map_cons, List.sum_nil, List.sum_cons, Nat.reduceAdd, Nat.reduceSub, Nat.reduceMul, Nat.reduceLeDiff, Nat.reduceEqDiff, Nat.reduceLT, and_true, true_and, and_self, if_true, if_false, ne_eq, not_false_eq_true, not_true_eq_false, or_false, false_or, or_true, true_or, false_and, and_false, reduceIte, reduceCtorEq, xB, ite_not, xretf_zc, xretf_c, xcont_c, xbd, p9_isPe, hp]
      have key := xloop (t := tX9_mid) (st := fun i (_ : Unit) => (13, [.ref 77, .int (nI b), .int (nI (sumN g i)), .int (nI i)], [], 0, S0 L I (xup (xup J 1 11 u) 1 12 w))) (g := fun _ _ => ()) (N := 216) (Inv := fun _ _ => True) (a0 := ()) trivial (by
        intro i x hi _
        refine ⟨?_, trivial⟩
        show xD tX9_mid (13, _) = _
        rw [hX9_mid_13]
        simp (disch := omega) only [eX9_mid, xRl, xG1, xG2, kAll, rAll, nAll, List.map_nil, List.map_cons, List.sum_nil, List.sum_cons, Nat.reduceAdd, Nat.reduceSub, Nat.reduceMul, Nat.reduceLeDiff, Nat.reduceEqDiff, Nat.reduceLT, and_true, true_and, and_self, if_true, if_false, ne_eq, not_false_eq_true, not_true_eq_false, or_false, false_or, or_true, true_or, false_and, and_false, reduceIte, reduceCtorEq, xB, ite_not, xretf_zc, xretf_c, xcont_c, xbd, nI_leI, p9_dueFor L I (xup (xup J 1 11 u) 1 12 w) n b i hM h.2.2.2.2.2.1 hb hi, owe_eq I hR, hgd, nI_add]
        rw [if_neg (by omega)]
        rfl) 216 (Nat.le_refl 216)
      rw [show xD tX9_mid (13, [.ref 77, .int (nI b), .int (nI 0), .int (nI 0)], [], 0, S0 L I (xup (xup J 1 11 u) 1 12 w)) = _ from key.1, hX9_mid_13]
      simp (disch := omega) only [eX9_mid, xRl, xG1, xG2, kAll, rAll, nAll, List.map_nil, List.map_cons, List.sum_nil, List.sum_cons, Nat.reduceAdd, Nat.reduceSub, Nat.reduceMul, Nat.reduceLeDiff, Nat.reduceEqDiff, Nat.reduceLT, and_true, true_and, and_self, if_true, if_false, ne_eq, not_false_eq_true, not_true_eq_false, or_false, false_or, or_true, true_or, false_and, and_false, reduceIte, reduceCtorEq, xB, ite_not, xretf_zc, xretf_c, xcont_c, xbd, nI_leI, p9_tellParts, hu, hw]
  · refine ⟨.int (-1), I, J, I, J, ?_, ?_, h⟩
    · rw [fX8_mid]
      simp (disch := omega) only [eX8_mid, xRl, xG1, xG2, kAll, rAll, nAll, List.map_nil, List.map_cons, List.sum_nil, List.sum_cons, Nat.reduceAdd, Nat.reduceSub, Nat.reduceMul, Nat.reduceLeDiff, Nat.reduceEqDiff, Nat.reduceLT, and_true, true_and, and_self, if_true, if_false, ne_eq, not_false_eq_true, not_true_eq_false, or_false, false_or, or_true, true_or, false_and, and_false, reduceIte, reduceCtorEq, xB, ite_not, xretf_zc, xretf_c, xcont_c, xbd, p8_among, hp]
    · rw [fX9_mid]
      simp (disch := omega) only [eX9_mid, xRl, xG1, xG2, kAll, rAll, nAll, List.map_nil, List.map_cons, List.sum_nil, List.sum_cons, Nat.reduceAdd, Nat.reduceSub, Nat.reduceMul, Nat.reduceLeDiff, Nat.reduceEqDiff, Nat.reduceLT, and_true, true_and, and_self, if_true, if_false, ne_eq, not_false_eq_true, not_true_eq_false, or_false, false_or, or_true, true_or, false_and, and_false, reduceIte, reduceCtorEq, xB, ite_not, xretf_zc, xretf_c, xcont_c, xbd, p9_isPe, hp]
end O1
