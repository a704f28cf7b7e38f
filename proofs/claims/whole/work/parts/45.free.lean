/-! disputed, free, gap -/
theorem fstv_snoc (f : Nat → Bool) (hb : ∀ k, k < 2 ^ 30 → nI k ≠ -9) : ∀ (d a : Nat), a + d < 2 ^ 30 → fstv f nI (-9) a (d + 1) = if fstv f nI (-9) a d = -9 then (if f (a + d) = true then nI (a + d) else -9) else fstv f nI (-9) a d
  | 0, a, _ => by simp [fstv]
  | d + 1, a, h => by
    have ih := fstv_snoc f hb d (a + 1) (by omega)
    show (if f a = true then nI a else fstv f nI (-9) (a + 1) (d + 1)) = _
    rw [ih]
    show _ = if (if f a = true then nI a else fstv f nI (-9) (a + 1) d) = -9 then _ else (if f a = true then nI a else fstv f nI (-9) (a + 1) d)
    rw [show a + 1 + d = a + (d + 1) by omega]
    by_cases hf : f a = true
    · simp only [hf, if_true]
      rw [if_neg (hb a (by omega))]
    · simp only [hf]
      rfl
theorem nI_n9 {k : Nat} (h : k < 2 ^ 30) : nI k ≠ -9 := fun q => (n9 (by omega)).mp q
theorem nb1 (c : Prop) [Decidable c] : ((if c then nI 1 else nI 0) = 0 ∨ (if c then nI 1 else nI 0) = 1) ↔ True := by split <;> simp <;> decide
theorem Cok_of {I I2 : Nat → Nat → Int32} {n yr : Nat} (h : Cok I n yr) (e : ∀ c, 24 ≤ c ∧ c ≤ 33 → I2 c = I c) : Cok I2 n yr := by
  unfold Cok
  refine ⟨h.1, by rw [e 24 (by omega)]; exact h.2.1, by rw [e 24 (by omega)]; exact h.2.2.1, h.2.2.2.1, fun k hk => ?_⟩
  have hn := h.1
  unfold cv
  rw [e (26 + k) (by omega)]
  exact h.2.2.2.2 k hk
theorem rcC_of {I I2 : Nat → Nat → Int32} {yr y s n : Nat} (hn : n ≤ 8) (e : ∀ c, 26 ≤ c ∧ c ≤ 33 → I2 c = I c) : ∀ k, k < n → rcC I2 yr y s k = rcC I yr y s k := by
  intro k hk
  unfold rcC shC cv
  rw [e (26 + k) (by omega)]
theorem cv_of {I I2 : Nat → Nat → Int32} {n : Nat} (hn : n ≤ 8) (e : ∀ c, 26 ≤ c ∧ c ≤ 33 → I2 c = I c) : ∀ k w, k < n → cv I2 k w = cv I k w := by
  intro k w hk
  unfold cv
  rw [e (26 + k) (by omega)]
theorem dn1 (k : Nat) : nI (k + 1) + (-1) = nI k := by
  rw [← nI_add, show nI 1 = 1 from rfl, Int32.add_assoc, show (1 : Int32) + -1 = 0 by decide, Int32.add_zero]
theorem dn0 : (nI 0 + (-1) < nI 0) ↔ True := by decide
section F1
variable (L : Nat) (I : Nat → Nat → Int32) (J : Nat → Nat → Int64)
theorem p8_tellChosen (f : Nat → Bool) (hf : ∀ s, s < 216 → I 75 s = if f s = true then nI 1 else nI 0) : FX8_tellChosen [.ref 1] (S0 L I J) = some (some (.int (fstv f nI (-9) 0 216)), S0 L (xup I 1 10 (nI (cnt f 0 216))) J) := by
  rw [fX8_tellChosen]
  simp (disch := omega) only [eX8_tellChosen, xRl, xG1, xG2, kAll, rAll, nAll, List.map_nil, List.map_cons, List.sum_nil, List.sum_cons, Nat.reduceAdd, Nat.reduceSub, Nat.reduceMul, Nat.reduceLeDiff, Nat.reduceEqDiff, Nat.reduceLT, and_true, true_and, and_self, if_true, if_false, ne_eq, not_false_eq_true, not_true_eq_false, or_false, false_or, or_true, true_or, false_and, and_false, reduceIte, reduceCtorEq, xB, ite_not, xretf_zc, xretf_c, xcont_c, xbd]
  have key := xloop (t := tX8_tellChosen) (st := fun i (_ : Unit) => (10, [.ref 1, .int (fstv f nI (-9) 0 i), .int (nI i)], [], 0, S0 L (xup I 1 10 (nI (cnt f 0 i))) J)) (g := fun _ _ => ()) (N := 216) (Inv := fun _ _ => True) (a0 := ()) trivial (by
    intro i u hi _
    refine ⟨?_, trivial⟩
    have e1 : xup I 1 10 (nI (cnt f 0 i)) 75 i = if f i = true then nI 1 else nI 0 := by rw [xup_o _ _ _ _ (by decide)]; exact hf i hi
    have e2 : xup I 1 10 (nI (cnt f 0 i)) 1 10 = nI (cnt f 0 i) := by rw [xup_self]; simp
    show xD tX8_tellChosen (10, _) = _
    rw [hX8_tellChosen_10]
    simp (disch := omega) only [eX8_tellChosen, xRl, xG1, xG2, kAll, rAll, nAll, List.map_nil, List.map_cons, List.sum_nil, List.sum_cons, Nat.reduceAdd, Nat.reduceSub, Nat.reduceMul, Nat.reduceLeDiff, Nat.reduceEqDiff, Nat.reduceLT, and_true, true_and, and_self, if_true, if_false, ne_eq, not_false_eq_true, not_true_eq_false, or_false, false_or, or_true, true_or, false_and, and_false, reduceIte, reduceCtorEq, xB, ite_not, xretf_zc, xretf_c, xcont_c, xbd, nI_leI, nI_neg0, cl_nI, e1, e2, xup_xup, nI_add]
    rw [if_neg (by omega)]
    show _ = xD tX8_tellChosen (10, [_, .int (fstv f nI (-9) 0 (i + 1)), _], _, _, S0 L (xup I 1 10 (nI (cnt f 0 (i + 1)))) J)
    rw [fstv_snoc f (fun k hk => nI_n9 hk) i 0 (by omega), cnt_snoc, Nat.zero_add]
    by_cases hfi : f i = true
    · simp only [hfi, if_true]
      split <;> rfl
    · simp only [hfi, if_false, Bool.false_eq_true, Nat.add_zero]
      congr 8
      split
      · assumption
      · rfl) 216 (Nat.le_refl 216)
  have k0 := key.1
  rw [show xD tX8_tellChosen (10, [.ref 1, .int (-9), .int (nI 0)], [], 0, S0 L (xup I 1 10 (nI 0)) J) = _ from k0, hX8_tellChosen_10]
  simp (disch := omega) only [eX8_tellChosen, xRl, xG1, xG2, kAll, rAll, nAll, List.map_nil, List.map_cons, List.sum_nil, List.sum_cons, Nat.reduceAdd, Nat.reduceSub, Nat.reduceMul, Nat.reduceLeDiff, Nat.reduceEqDiff, Nat.reduceLT, and_true, true_and, and_self, if_true, if_false, ne_eq, not_false_eq_true, not_true_eq_false, or_false, false_or, or_true, true_or, false_and, and_false, reduceIte, reduceCtorEq, xB, ite_not, xretf_zc, xretf_c, xcont_c, xbd, nI_leI]
/-- the reference's way: from the last on -/
theorem p9_bits (m : Nat) (hm : m < 2 ^ 31) (σ : xS) : FX9_bits [.int (nI m)] σ = some (some (.int (nI (cnt (fun k => m.testBit k) 0 16))), σ) := by
  rw [fX9_bits]
  simp (disch := omega) only [eX9_bits, xRl, xG1, xG2, kAll, rAll, nAll, List.map_nil, List.map_cons, List.sum_nil, List.sum_cons, Nat.reduceAdd, Nat.reduceSub, Nat.reduceMul, Nat.reduceLeDiff, Nat.reduceEqDiff, Nat.reduceLT, and_true, true_and, and_self, if_true, if_false, ne_eq, not_false_eq_true, not_true_eq_false, or_false, false_or, or_true, true_or, false_and, and_false, reduceIte, reduceCtorEq, xB, ite_not, xretf_zc, xretf_c, xcont_c, xbd]
  have key := xloop (t := tX9_bits) (st := fun i (_ : Unit) => (4, [.int (nI m), .int (nI (cnt (fun k => m.testBit k) 0 i)), .int (nI i)], [], 0, σ)) (g := fun _ _ => ()) (N := 16) (Inv := fun _ _ => True) (a0 := ()) trivial (by
    intro i u hi _
    refine ⟨?_, trivial⟩
    show xD tX9_bits (4, _) = _
    rw [hX9_bits_4]
    simp (disch := omega) only [eX9_bits, xRl, xG1, xG2, kAll, rAll, nAll, List.map_nil, List.map_cons, List.sum_nil, List.sum_cons, Nat.reduceAdd, Nat.reduceSub, Nat.reduceMul, Nat.reduceLeDiff, Nat.reduceEqDiff, Nat.reduceLT, and_true, true_and, and_self, if_true, if_false, ne_eq, not_false_eq_true, not_true_eq_false, or_false, false_or, or_true, true_or, false_and, and_false, reduceIte, reduceCtorEq, xB, ite_not, xretf_zc, xretf_c, xcont_c, xbd, nI_leI, bit_at, nI_add]
    rw [if_neg (by omega)]
    show _ = xD tX9_bits (4, [_, .int (nI (cnt (fun k => m.testBit k) 0 (i + 1))), _], _)
    rw [cnt_snoc, Nat.zero_add]) 16 (Nat.le_refl 16)
  rw [show xD tX9_bits (4, [.int (nI m), .int (nI 0), .int (nI 0)], [], 0, σ) = _ from key.1, hX9_bits_4]
  simp (disch := omega) only [eX9_bits, xRl, xG1, xG2, kAll, rAll, nAll, List.map_nil, List.map_cons, List.sum_nil, List.sum_cons, Nat.reduceAdd, Nat.reduceSub, Nat.reduceMul, Nat.reduceLeDiff, Nat.reduceEqDiff, Nat.reduceLT, and_true, true_and, and_self, if_true, if_false, ne_eq, not_false_eq_true, not_true_eq_false, or_false, false_or, or_true, true_or, false_and, and_false, reduceIte, reduceCtorEq, xB, ite_not, xretf_zc, xretf_c, xcont_c, xbd, nI_leI]
/-- owners of those that reach -/
def omN (rc : Nat → Bool) (ow : Nat → Nat) : Nat → Nat
  | 0 => 0
  | k + 1 => omN rc ow k ||| (if rc k = true then 2 ^ ow k else 0)
theorem omN_lt {rc : Nat → Bool} {ow : Nat → Nat} : ∀ {n : Nat}, (∀ k, k < n → ow k < 4) → omN rc ow n < 16
  | 0, _ => by show 0 < 16; decide
  | n + 1, h => by
    have h1 := omN_lt (rc := rc) (n := n) (fun k hk => h k (by omega))
    have h2 := h n (by omega)
    have h3 : (if rc n = true then 2 ^ ow n else 0) < 2 ^ 4 := by
      split
      · exact Nat.pow_lt_pow_right (by decide) h2
      · decide
    exact Nat.or_lt_two_pow (n := 4) h1 h3
theorem omN_congr {rc rc' : Nat → Bool} {ow ow' : Nat → Nat} : ∀ {n : Nat}, (∀ k, k < n → rc k = rc' k ∧ ow k = ow' k) → omN rc ow n = omN rc' ow' n
  | 0, _ => rfl
  | n + 1, h => by
    show omN rc ow n ||| _ = omN rc' ow' n ||| _
    rw [omN_congr (fun k hk => h k (by omega)), (h n (by omega)).1, (h n (by omega)).2]
theorem p9_ownersOf (n s : Nat) (hM : Mok I n) (hy : I 77 15 = nI 0) (hs : s < 216) : FX9_ownersOf [.ref 77, .int (nI s)] (S0 L I J) = some (some (.int (nI (omN (rcM I 0 s) (mOw I) n))), S0 L I J) := by
  rw [fX9_ownersOf]
  have hn := hM.1
  have h1 := hM.2.1
  have hml := msk_lt (rcM I 0 s) n
  have hp : 2 ^ n ≤ 2 ^ 8 := Nat.pow_le_pow_right (by omega) hn
  simp (disch := omega) only [eX9_ownersOf, xRl, xG1, xG2, kAll, rAll, nAll, List.map_nil, List.map_cons, List.sum_nil, List.sum_cons, Nat.reduceAdd, Nat.reduceSub, Nat.reduceMul, Nat.reduceLeDiff, Nat.reduceEqDiff, Nat.reduceLT, and_true, true_and, and_self, if_true, if_false, ne_eq, not_false_eq_true, not_true_eq_false, or_false, false_or, or_true, true_or, false_and, and_false, reduceIte, reduceCtorEq, xB, ite_not, xretf_zc, xretf_c, xcont_c, xbd, p9_reaching L I J n 0 s hM hy (by omega) hs]
  have key := xloop (t := tX9_ownersOf) (st := fun i (_ : Unit) => (11, [.ref 77, .int (nI s), .int (nI (msk (rcM I 0 s) n)), .int (nI (omN (rcM I 0 s) (mOw I) i)), .int (nI i)], [], 0, S0 L I J)) (g := fun _ _ => ()) (N := n) (Inv := fun _ _ => True) (a0 := ()) trivial (by
    intro i u hi _
    refine ⟨?_, trivial⟩
    obtain ⟨o1, o2⟩ := (hM.2.2 i hi).2.2.2.2.2.1
    have e4 : I 78 (10 + 7 * i + 4) = nI (mOw I i) := by rw [show 10 + 7 * i + 4 = 14 + 7 * i by omega]; exact o1
    have e5 : (msk (rcM I 0 s) n).testBit i = rcM I 0 s i := by rw [msk_bit]; simp [hi]
    show xD tX9_ownersOf (11, _) = _
    rw [hX9_ownersOf_11]
    simp (disch := omega) only [eX9_ownersOf, xRl, xG1, xG2, kAll, rAll, nAll, List.map_nil, List.map_cons, List.sum_nil, List.sum_cons, Nat.reduceAdd, Nat.reduceSub, Nat.reduceMul, Nat.reduceLeDiff, Nat.reduceEqDiff, Nat.reduceLT, and_true, true_and, and_self, if_true, if_false, ne_eq, not_false_eq_true, not_true_eq_false, or_false, false_or, or_true, true_or, false_and, and_false, reduceIte, reduceCtorEq, xB, ite_not, xretf_zc, xretf_c, xcont_c, xbd, h1, nI_neg0, cl_nI, nI_leI, p9_has, e5, p9_of, e4, shl1, nI_add, nI_or]
    rw [if_neg (by omega)]
    show _ = xD tX9_ownersOf (11, [_, _, _, .int (nI (omN (rcM I 0 s) (mOw I) i ||| _)), _], _)
    split <;> rfl) n (Nat.le_refl n)
  rw [show xD tX9_ownersOf (11, [.ref 77, .int (nI s), .int (nI (msk (rcM I 0 s) n)), .int (nI 0), .int (nI 0)], [], 0, S0 L I J) = _ from key.1, hX9_ownersOf_11]
  simp (disch := omega) only [eX9_ownersOf, xRl, xG1, xG2, kAll, rAll, nAll, List.map_nil, List.map_cons, List.sum_nil, List.sum_cons, Nat.reduceAdd, Nat.reduceSub, Nat.reduceMul, Nat.reduceLeDiff, Nat.reduceEqDiff, Nat.reduceLT, and_true, true_and, and_self, if_true, if_false, ne_eq, not_false_eq_true, not_true_eq_false, or_false, false_or, or_true, true_or, false_and, and_false, reduceIte, reduceCtorEq, xB, ite_not, xretf_zc, xretf_c, xcont_c, xbd, h1, nI_neg0, cl_nI, nI_leI]
  rw [if_pos (Nat.le_refl n)]
/-- two owners -/
def two (m : Nat) : Bool := decide (1 < cnt (fun k => m.testBit k) 0 16)
theorem two_t : (∀ m, m < 16 → (two m = false ↔ m = 0 ∨ ∃ w, w < 4 ∧ m = 2 ^ w)) ∧ (∀ m, m < 16 → ∀ w, w < 4 → two m = true → two (m ||| 2 ^ w) = true) ∧ (∀ v, v < 4 → ∀ w, w < 4 → v ≠ w → two (2 ^ v ||| 2 ^ w) = true) ∧ ∀ w, w < 4 → two (2 ^ w) = false := by decide +kernel
theorem two_up {rc : Nat → Bool} {ow : Nat → Nat} {a : Nat} (h : two (omN rc ow a) = true) (d : Nat) (hw : ∀ k, k < a + d → ow k < 4) : two (omN rc ow (a + d)) = true := by
  induction d with
  | zero => exact h
  | succ d ih =>
    have h1 := ih (fun k hk => hw k (by omega))
    have e : omN rc ow (a + (d + 1)) = omN rc ow (a + d) ||| (if rc (a + d) = true then 2 ^ ow (a + d) else 0) := rfl
    rw [e]
    have h2 := two_t.2.1 _ (omN_lt (rc := rc) (fun k hk => hw k (by omega) : ∀ k, k < a + d → ow k < 4)) _ (hw (a + d) (by omega)) h1
    by_cases hr : rc (a + d) = true
    · rw [if_pos hr]; exact h2
    · rw [if_neg hr, Nat.or_zero]; exact h1
theorem p4_isDisputed (n yr s : Nat) (hC : Cok I n yr) (hs : s < 216) : FX4_isDisputed [.ref 24, .int (nI s)] (S0 L I J) = some (some (.int (if two (omN (rcC I yr 0 s) (fun k => cv I k 3) n) = true then nI 1 else nI 0)), S0 L I J) := by
  rw [fX4_isDisputed]
  have hn := hC.1
  have h1 := hC.2.1
  have how : ∀ k, k < n → cv I k 3 < 4 := fun k hk => (hC.2.2.2.2 k hk).2.2.2.1.2
  simp (disch := omega) only [eX4_isDisputed, xRl, xG1, xG2, kAll, rAll, nAll, List.map_nil, List.map_cons, List.sum_nil, List.sum_cons, Nat.reduceAdd, Nat.reduceSub, Nat.reduceMul, Nat.reduceLeDiff, Nat.reduceEqDiff, Nat.reduceLT, and_true, true_and, and_self, if_true, if_false, ne_eq, not_false_eq_true, not_true_eq_false, or_false, false_or, or_true, true_or, false_and, and_false, reduceIte, reduceCtorEq, xB, ite_not, xretf_zc, xretf_c, xcont_c, xbd]
  have key : ∀ (d i : Nat) (o : Int32), i + d = n → ((o = -9 ∧ omN (rcC I yr 0 s) (fun k => cv I k 3) i = 0) ∨ ∃ w, w < 4 ∧ o = nI w ∧ omN (rcC I yr 0 s) (fun k => cv I k 3) i = 2 ^ w) → xretf (some .boolean) (xD tX4_isDisputed (5, [.ref 24, .int (nI s), .int o, .int (nI i)], [], 0, S0 L I J)) = some (some (.int (if two (omN (rcC I yr 0 s) (fun k => cv I k 3) n) = true then nI 1 else nI 0)), S0 L I J) := by
    intro d
    induction d with
    | zero =>
      intro i o hi ho
      have : i = n := by omega
      subst this
      rw [hX4_isDisputed_5]
      simp (disch := omega) only [eX4_isDisputed, xRl, xG1, xG2, kAll, rAll, nAll, List.map_nil, List.map_cons, List.sum_nil, List.sum_cons, Nat.reduceAdd, Nat.reduceSub, Nat.reduceMul, Nat.reduceLeDiff, Nat.reduceEqDiff, Nat.reduceLT, and_true, true_and, and_self, if_true, if_false, ne_eq, not_false_eq_true, not_true_eq_false, or_false, false_or, or_true, true_or, false_and, and_false, reduceIte, reduceCtorEq, xB, ite_not, xretf_zc, xretf_c, xcont_c, xbd, h1, nI_leI]
      rw [if_pos (Nat.le_refl _)]
      have ht : two (omN (rcC I yr 0 s) (fun k => cv I k 3) i) = false := by
        rcases ho with ⟨-, h0⟩ | ⟨w, hw, -, h0⟩
        · rw [h0]; decide
        · rw [h0]; exact two_t.2.2.2 w hw
      rw [ht]
      rfl
    | succ d ih =>
      intro i o hi ho
      have hin : i < n := by omega
      obtain ⟨-, -, -, ⟨a1, a2⟩, -⟩ := hC.2.2.2.2 i hin
      have k1 := kNam i (by omega)
      have e : ¬ 26 + i = 0 := by omega
      have hsn : omN (rcC I yr 0 s) (fun k => cv I k 3) (i + 1) = omN (rcC I yr 0 s) (fun k => cv I k 3) i ||| (if rcC I yr 0 s i = true then 2 ^ cv I i 3 else 0) := rfl
      rw [hX4_isDisputed_5]
      simp (disch := omega) only [eX4_isDisputed, xRl, xG1, xG2, kAll, rAll, nAll, List.map_nil, List.map_cons, List.sum_nil, List.sum_cons, Nat.reduceAdd, Nat.reduceSub, Nat.reduceMul, Nat.reduceLeDiff, Nat.reduceEqDiff, Nat.reduceLT, and_true, true_and, and_self, if_true, if_false, ne_eq, not_false_eq_true, not_true_eq_false, or_false, false_or, or_true, true_or, false_and, and_false, reduceIte, reduceCtorEq, xB, ite_not, xretf_zc, xretf_c, xcont_c, xbd, h1, nI_leI, p4_nameReaches L I J n yr 0 i s hC hin (by omega) hs, k1.1, k1.2, e, nI_neg0, cl_nI, a1, nI_add]
      rw [if_neg (by omega)]
      by_cases hr : rcC I yr 0 s i = true
      · rw [if_pos hr] at hsn
        simp only [hr, if_true]
        rcases ho with ⟨rfl, h0⟩ | ⟨w, hw, rfl, h0⟩
        · rw [if_pos rfl]
          exact ih (i + 1) (nI (cv I i 3)) (by omega) (Or.inr ⟨cv I i 3, a2, rfl, by rw [hsn, h0, Nat.zero_or]⟩)
        · simp (disch := omega) only [xRl, xG1, xG2, kAll, rAll, nAll, List.map_nil, List.map_cons, List.sum_nil, List.sum_cons, Nat.reduceAdd, Nat.reduceSub, Nat.reduceMul, Nat.reduceLeDiff, Nat.reduceEqDiff, Nat.reduceLT, and_true, true_and, and_self, if_true, if_false, ne_eq, not_false_eq_true, not_true_eq_false, or_false, false_or, or_true, true_or, false_and, and_false, reduceIte, reduceCtorEq, xB, ite_not, xretf_zc, xretf_c, xcont_c, xbd, n9]
          by_cases hww : w = cv I i 3
          · subst hww
            rw [if_pos rfl]
            exact ih (i + 1) (nI (cv I i 3)) (by omega) (Or.inr ⟨cv I i 3, a2, rfl, by rw [hsn, h0, Nat.or_self]⟩)
          · rw [if_neg (fun q => hww ((nI_eq (by omega) (by omega)).mp q))]
            have ht : two (omN (rcC I yr 0 s) (fun k => cv I k 3) n) = true := by
              have h4 := two_up (rc := rcC I yr 0 s) (ow := fun k => cv I k 3) (a := i + 1) (by rw [hsn, h0]; exact two_t.2.2.1 w hw _ a2 hww) d (fun k hk => how k (by omega))
              rwa [show i + 1 + d = n by omega] at h4
            rw [ht]
            rfl
      · rw [if_neg hr, Nat.or_zero] at hsn
        simp only [hr]
        refine ih (i + 1) o (by omega) ?_
        rw [hsn]
        exact ho
  exact key n 0 (-9) (by omega) (Or.inl ⟨rfl, rfl⟩)
end F1
