/-! disputed, free, gap: the calls -/
theorem msk0 {f : Nat → Bool} : ∀ {n : Nat}, msk f n = 0 ↔ ∀ k, k < n → f k = false
  | 0 => ⟨fun _ k hk => absurd hk (by omega), fun _ => rfl⟩
  | n + 1 => by
    have ih := msk0 (f := f) (n := n)
    have hp := Nat.one_le_two_pow (n := n)
    unfold msk
    constructor
    · intro h k hk
      by_cases hn : f n = true
      · rw [if_pos hn] at h; omega
      · by_cases hkn : k = n
        · rw [hkn]; simpa using hn
        · exact ih.mp (by rw [if_neg hn] at h; exact h) k (by omega)
    · intro h
      rw [ih.mpr (fun k hk => h k (by omega)), h n (by omega)]
      rfl
theorem fst_none {f : Nat → Bool} {n : Nat} (hn : n < 2 ^ 30) : fstv f nI (-9) 0 n = -9 ↔ ∀ k, k < n → f k = false := by
  rcases fstv_cases f n 0 with ⟨h1, h2⟩ | ⟨k, h1, h2, h3, h4, h5⟩
  · rw [h2]
    exact ⟨fun _ k hk => h1 k (by omega) (by omega), fun _ => rfl⟩
  · rw [h5]
    constructor
    · intro q; exact absurd q (nI_n9 (by omega))
    · intro q; rw [q k (by omega)] at h3; exact absurd h3 (by decide)
theorem b0_iff {m : Nat} (h : m < 2 ^ 31) : (nI m = nI 0) ↔ m = 0 := nI_eq h (by decide)
theorem b01 : (nI 1 = 0 ∨ nI 1 = 1) ↔ True := by decide
theorem b00 : (nI 0 = 0 ∨ nI 0 = 1) ↔ True := by decide
section F2
variable (L : Nat) (I : Nat → Nat → Int32) (J : Nat → Nat → Int64)
theorem pr_disputed (h : Cp I J) : Pair L FX8_disputed FX9_disputed [] I J := by
  obtain ⟨n, d, yr, hR⟩ := h.2.2.2.2.2.2.1
  obtain ⟨hM, hC, hE⟩ := RC_M hR
  have hn := hM.1
  have hy0 := h.2.2.2.2.2.1
  generalize hf : (fun s => two (omN (rcC I yr 0 s) (fun k => cv I k 3) n)) = f
  have hfd : ∀ s, two (omN (rcC I yr 0 s) (fun k => cv I k 3) n) = f s := fun s => by rw [← hf]
  generalize hI1 : fw I 75 216 (fun s => if f s = true then nI 1 else nI 0) = I1
  have hcn := cnt_le f 216 0
  refine ⟨.int (fstv f nI (-9) 0 216), xup I1 1 10 (nI (cnt f 0 216)), J, xup (xup I1 1 10 (nI (cnt f 0 216))) 77 5 (nI (cnt f 0 216)), J, ?_, ?_, ?_⟩
  · rw [fX8_disputed]
    simp (disch := omega) only [eX8_disputed, xRl, xG1, xG2, kAll, rAll, nAll, List.map_nil, List.map_cons, List.sum_nil, List.sum_cons, Nat.reduceAdd, Nat.reduceSub, Nat.reduceMul, Nat.reduceLeDiff, Nat.reduceEqDiff, Nat.reduceLT, and_true, true_and, and_self, if_true, if_false, ne_eq, not_false_eq_true, not_true_eq_false, or_false, false_or, or_true, true_or, false_and, and_false, reduceIte, reduceCtorEq, xB, ite_not, xretf_zc, xretf_c, xcont_c, xbd]
    have key := xloop (t := tX8_disputed) (st := fun i (_ : Unit) => (2, [.ref 1, .int (nI i)], [], 0, S0 L (fw I 75 i (fun s => if f s = true then nI 1 else nI 0)) J)) (g := fun _ _ => ()) (N := 216) (Inv := fun _ _ => True) (a0 := ()) trivial (by
      intro i u hi _
      refine ⟨?_, trivial⟩
      have hC2 : Cok (fw I 75 i (fun s => if f s = true then nI 1 else nI 0)) n yr := Cok_of hC (fun c hc => fw_ne _ _ _ (by omega))
      have e1 := p4_isDisputed L (fw I 75 i (fun s => if f s = true then nI 1 else nI 0)) J n yr i hC2 hi
      have e4 : omN (rcC (fw I 75 i (fun s => if f s = true then nI 1 else nI 0)) yr 0 i) (fun k => cv (fw I 75 i (fun s => if f s = true then nI 1 else nI 0)) k 3) n = omN (rcC I yr 0 i) (fun k => cv I k 3) n := omN_congr (fun k hk => ⟨rcC_of hn (fun c hc => fw_ne _ _ _ (by omega)) k hk, cv_of hn (fun c hc => fw_ne _ _ _ (by omega)) k 3 hk⟩)
      rw [e4, hfd] at e1
      show xD tX8_disputed (2, _) = _
      rw [hX8_disputed_2]
      simp (disch := omega) only [eX8_disputed, xRl, xG1, xG2, kAll, rAll, nAll, List.map_nil, List.map_cons, List.sum_nil, List.sum_cons, Nat.reduceAdd, Nat.reduceSub, Nat.reduceMul, Nat.reduceLeDiff, Nat.reduceEqDiff, Nat.reduceLT, and_true, true_and, and_self, if_true, if_false, ne_eq, not_false_eq_true, not_true_eq_false, or_false, false_or, or_true, true_or, false_and, and_false, reduceIte, reduceCtorEq, xB, ite_not, xretf_zc, xretf_c, xcont_c, xbd, nI_leI, nI_neg0, cl_nI, e1, nb1, nI_add]
      rw [if_neg (by omega), fw_s (v := fun s => if f s = true then nI 1 else nI 0)]) 216 (Nat.le_refl 216)
    have k0 := key.1
    simp only [fw_0] at k0
    rw [k0, hI1, hX8_disputed_2]
    simp (disch := omega) only [eX8_disputed, xRl, xG1, xG2, kAll, rAll, nAll, List.map_nil, List.map_cons, List.sum_nil, List.sum_cons, Nat.reduceAdd, Nat.reduceSub, Nat.reduceMul, Nat.reduceLeDiff, Nat.reduceEqDiff, Nat.reduceLT, and_true, true_and, and_self, if_true, if_false, ne_eq, not_false_eq_true, not_true_eq_false, or_false, false_or, or_true, true_or, false_and, and_false, reduceIte, reduceCtorEq, xB, ite_not, xretf_zc, xretf_c, xcont_c, xbd, nI_leI, p8_tellChosen L I1 J f (fun s hs => by rw [← hI1, fw_in _ _ hs])]
  · generalize hI2 : xup I1 1 10 (nI (cnt f 0 216)) = I2
    have e1 : ∀ z, xup I2 77 5 z 78 = I 78 := fun z => by rw [xup_ne _ _ _ (by decide), ← hI2, xup_ne _ _ _ (by decide), ← hI1, fw_ne _ _ _ (by decide)]
    have e2 : ∀ z, xup I2 77 5 z 77 15 = nI 0 := fun z => by rw [xup_self, if_neg (by decide), ← hI2, xup_o _ _ _ _ (by decide), ← hI1, fw_ne _ _ _ (by decide)]; exact hy0
    rw [fX9_disputed]
    simp (disch := omega) only [eX9_disputed, xRl, xG1, xG2, kAll, rAll, nAll, List.map_nil, List.map_cons, List.sum_nil, List.sum_cons, Nat.reduceAdd, Nat.reduceSub, Nat.reduceMul, Nat.reduceLeDiff, Nat.reduceEqDiff, Nat.reduceLT, and_true, true_and, and_self, if_true, if_false, ne_eq, not_false_eq_true, not_true_eq_false, or_false, false_or, or_true, true_or, false_and, and_false, reduceIte, reduceCtorEq, xB, ite_not, xretf_zc, xretf_c, xcont_c, xbd]
    have key : ∀ (s : Nat), s ≤ 216 → ∀ r, xD tX9_disputed (12, [.ref 77, .int (fstv f nI (-9) s (216 - s)), .int (nI s + (-1)), r], [], 0, S0 L (xup I2 77 5 (nI (cnt f s (216 - s)))) J) = some (some (.int (fstv f nI (-9) 0 216)), S0 L (xup I2 77 5 (nI (cnt f 0 216))) J) := by
      intro s
      induction s with
      | zero =>
        intro hs r
        rw [hX9_disputed_12]
        simp (disch := omega) only [eX9_disputed, xRl, xG1, xG2, kAll, rAll, nAll, List.map_nil, List.map_cons, List.sum_nil, List.sum_cons, Nat.reduceAdd, Nat.reduceSub, Nat.reduceMul, Nat.reduceLeDiff, Nat.reduceEqDiff, Nat.reduceLT, and_true, true_and, and_self, if_true, if_false, ne_eq, not_false_eq_true, not_true_eq_false, or_false, false_or, or_true, true_or, false_and, and_false, reduceIte, reduceCtorEq, xB, ite_not, xretf_zc, xretf_c, xcont_c, xbd, dn0, Nat.sub_zero]
      | succ s ih =>
        intro hs r
        have e3 : xup I2 77 5 (nI (cnt f (s + 1) (216 - (s + 1)))) 77 5 = nI (cnt f (s + 1) (216 - (s + 1))) := by rw [xup_self]; simp
        have e4 := p9_ownersOf L (xup I2 77 5 (nI (cnt f (s + 1) (216 - (s + 1))))) J n s (Mok_of hM (e1 _)) (e2 _) (by omega)
        have e5 : omN (rcM (xup I2 77 5 (nI (cnt f (s + 1) (216 - (s + 1))))) 0 s) (mOw (xup I2 77 5 (nI (cnt f (s + 1) (216 - (s + 1)))))) n = omN (rcC I yr 0 s) (fun k => cv I k 3) n := omN_congr (fun k hk => ⟨by rw [rcM_of (e1 _)]; exact RC_rc hR 0 s k hk, by unfold mOw mv; rw [e1]; exact ((RC_M hR).2.2 k hk).1.2.2.1⟩)
        rw [e5] at e4
        have e6 : omN (rcC I yr 0 s) (fun k => cv I k 3) n < 16 := omN_lt (fun k hk => (hC.2.2.2.2 k hk).2.2.2.1.2)
        have e7 := cnt_le (fun k => (omN (rcC I yr 0 s) (fun k => cv I k 3) n).testBit k) 16 0
        have e8 : (1 < cnt (fun k => (omN (rcC I yr 0 s) (fun k => cv I k 3) n).testBit k) 0 16) ↔ f s = true := by rw [← hfd]; unfold two; simp
        rw [hX9_disputed_12]
        simp (disch := omega) only [eX9_disputed, xRl, xG1, xG2, kAll, rAll, nAll, List.map_nil, List.map_cons, List.sum_nil, List.sum_cons, Nat.reduceAdd, Nat.reduceSub, Nat.reduceMul, Nat.reduceLeDiff, Nat.reduceEqDiff, Nat.reduceLT, and_true, true_and, and_self, if_true, if_false, ne_eq, not_false_eq_true, not_true_eq_false, or_false, false_or, or_true, true_or, false_and, and_false, reduceIte, reduceCtorEq, xB, ite_not, xretf_zc, xretf_c, xcont_c, xbd, dn1, nI_neg0, e4, p9_bits, nI_leI, nI_ltI, Nat.not_lt_zero, e3, xup_xup, nI_add]
        have e9 := ih (by omega)
        have e10 : 216 - s = (216 - (s + 1)) + 1 := by omega
        have e12 : fstv f nI (-9) s (216 - s) = if f s = true then nI s else fstv f nI (-9) (s + 1) (216 - (s + 1)) := by rw [e10]; rfl
        have e13 : cnt f s (216 - s) = (if f s = true then 1 else 0) + cnt f (s + 1) (216 - (s + 1)) := by rw [e10]; rfl
        rw [e12, e13] at e9
        by_cases hfs : f s = true
        · have e11 := e8.mpr hfs
          rw [if_neg (by omega)]
          simp only [hfs, if_true] at e9
          rw [Nat.add_comm _ 1]
          exact e9 _
        · have e11 : ¬ _ := fun q => hfs (e8.mp q)
          rw [if_pos (by omega)]
          simp only [hfs, if_false, Bool.false_eq_true, Nat.zero_add] at e9
          exact e9 _
    have k0 := key 216 (Nat.le_refl 216) .null
    rw [show nI 216 + (-1) = nI 215 from dn1 215] at k0
    rw [show xD tX9_disputed (12, [.ref 77, .int (-9), .int (nI 215), .null], [], 0, S0 L (xup I2 77 5 (nI 0)) J) = _ from k0]
    simp (disch := omega) only [xRl, xG1, xG2, kAll, rAll, nAll, List.map_nil, List.map_cons, List.sum_nil, List.sum_cons, Nat.reduceAdd, Nat.reduceSub, Nat.reduceMul, Nat.reduceLeDiff, Nat.reduceEqDiff, Nat.reduceLT, and_true, true_and, and_self, if_true, if_false, ne_eq, not_false_eq_true, not_true_eq_false, or_false, false_or, or_true, true_or, false_and, and_false, reduceIte, reduceCtorEq, xB, ite_not, xretf_zc, xretf_c, xcont_c, xbd]
  · have c1 : Cp I1 J := Cp_gen h (fun c hc => by rw [← hI1, fw_ne _ _ _ (by omega)]) (by rw [← hI1, fw_ne _ _ _ (by omega)]) (by rw [← hI1, fw_ne _ _ _ (by omega)]) (by rw [← hI1, fw_ne _ _ _ (by omega)]) (by rw [← hI1, fw_ne _ _ _ (by omega), fw_ne _ _ _ (by omega)]; exact h.2.2.2.1)
    exact Cp_told c1 _
/-- free[s] for all s -/
theorem p9_layFree (n : Nat) (hM : Mok I n) (hy0 : I 77 15 = nI 0) (f : Nat → Bool) (hf : ∀ s, s < 216 → (f s = true ↔ ∀ k, k < n → rcM I 0 s k = false)) : FX9_layFree [.ref 77] (S0 L I J) = some (none, S0 L (fw I 85 216 (fun s => if f s = true then nI 1 else nI 0)) J) := by
  have hn := hM.1
  rw [fX9_layFree]
  simp (disch := omega) only [eX9_layFree, xRl, xG1, xG2, kAll, rAll, nAll, List.map_nil, List.map_cons, List.sum_nil, List.sum_cons, Nat.reduceAdd, Nat.reduceSub, Nat.reduceMul, Nat.reduceLeDiff, Nat.reduceEqDiff, Nat.reduceLT, and_true, true_and, and_self, if_true, if_false, ne_eq, not_false_eq_true, not_true_eq_false, or_false, false_or, or_true, true_or, false_and, and_false, reduceIte, reduceCtorEq, xB, ite_not, xretf_zc, xretf_c, xcont_c, xbd]
  have key := xloop (t := tX9_layFree) (st := fun i (_ : Unit) => (2, [.ref 77, .int (nI i)], [], 0, S0 L (fw I 85 i (fun s => if f s = true then nI 1 else nI 0)) J)) (g := fun _ _ => ()) (N := 216) (Inv := fun _ _ => True) (a0 := ()) trivial (by
    intro i u hi _
    refine ⟨?_, trivial⟩
    have e1 : fw I 85 i (fun s => if f s = true then nI 1 else nI 0) 78 = I 78 := fw_ne _ _ _ (by decide)
    have e2 : fw I 85 i (fun s => if f s = true then nI 1 else nI 0) 77 15 = nI 0 := by rw [fw_ne _ _ _ (by decide)]; exact hy0
    have e3 := p9_reaching L _ J n 0 i (Mok_of hM e1) e2 (by omega) hi
    rw [rcM_of e1] at e3
    have h1 := msk_lt (rcM I 0 i) n
    have h2 : 2 ^ n ≤ 2 ^ 8 := Nat.pow_le_pow_right (by omega) hn
    have e4 : msk (rcM I 0 i) n = 0 ↔ f i = true := msk0.trans (hf i hi).symm
    show xD tX9_layFree (2, _) = _
    rw [hX9_layFree_2]
    simp (disch := omega) only [eX9_layFree, xRl, xG1, xG2, kAll, rAll, nAll, List.map_nil, List.map_cons, List.sum_nil, List.sum_cons, Nat.reduceAdd, Nat.reduceSub, Nat.reduceMul, Nat.reduceLeDiff, Nat.reduceEqDiff, Nat.reduceLT, and_true, true_and, and_self, if_true, if_false, ne_eq, not_false_eq_true, not_true_eq_false, or_false, false_or, or_true, true_or, false_and, and_false, reduceIte, reduceCtorEq, xB, ite_not, xretf_zc, xretf_c, xcont_c, xbd, nI_leI, nI_neg0, cl_nI, e3, b0_iff, e4, nb1, nI_add]
    rw [← fw_s (v := fun s => if f s = true then nI 1 else nI 0)]
    have hi2 : ¬ 216 ≤ i := by omega
    by_cases hfi : f i = true
    · simp only [hfi, hi2, if_true, b01, if_false, not_false_eq_true, and_self]
    · simp only [hfi, hi2, if_true, b00, if_false, Bool.false_eq_true, not_false_eq_true, and_self]) 216 (Nat.le_refl 216)
  have k0 := key.1
  simp only [fw_0] at k0
  rw [k0, hX9_layFree_2]
  simp (disch := omega) only [eX9_layFree, xRl, xG1, xG2, kAll, rAll, nAll, List.map_nil, List.map_cons, List.sum_nil, List.sum_cons, Nat.reduceAdd, Nat.reduceSub, Nat.reduceMul, Nat.reduceLeDiff, Nat.reduceEqDiff, Nat.reduceLT, and_true, true_and, and_self, if_true, if_false, ne_eq, not_false_eq_true, not_true_eq_false, or_false, false_or, or_true, true_or, false_and, and_false, reduceIte, reduceCtorEq, xB, ite_not, xretf_zc, xretf_c, xcont_c, xbd, nI_leI]
/-- which shades nobody's name reaches -/
def frN (I : Nat → Nat → Int32) (n yr s : Nat) : Bool := decide (∀ k, k < n → rcC I yr 0 s k = false)
theorem frN_c {I : Nat → Nat → Int32} {n yr s : Nat} (hn : n ≤ 8) : (fstv (rcC I yr 0 s) nI (-9) 0 n = -9) ↔ frN I n yr s = true := by
  rw [fst_none (by omega)]
  unfold frN
  simp
theorem fr_call {I I2 : Nat → Nat → Int32} {n yr : Nat} (hC : Cok I n yr) (e : ∀ c, 24 ≤ c ∧ c ≤ 33 → I2 c = I c) {s : Nat} (hs : s < 216) : ∃ v, FX4_callerOf [.ref 24, .int (nI s), .int (nI 0)] (S0 L I2 J) = some (some (.int v), S0 L I2 J) ∧ (v = -9 ↔ frN I n yr s = true) := by
  have hn := hC.1
  refine ⟨_, p4_callerOf L I2 J n yr 0 s (Cok_of hC e) (by omega) hs, ?_⟩
  rw [← frN_c hn, fstv_congr (fun k _ hk => ⟨rcC_of hn (fun c hc => e c (by omega)) k (by omega), rfl⟩)]
theorem pr_free (h : Cp I J) : Pair L FX8_free FX9_free [] I J := by
  obtain ⟨n, d, yr, hR⟩ := h.2.2.2.2.2.2.1
  obtain ⟨hM, hC, hE⟩ := RC_M hR
  have hn := hM.1
  have hy0 := h.2.2.2.2.2.1
  generalize hf : frN I n yr = f
  generalize hI1 : fw I 75 216 (fun s => if f s = true then nI 1 else nI 0) = I1
  have hcn := cnt_le f 216 0
  have hfM : ∀ s, s < 216 → (f s = true ↔ ∀ k, k < n → rcM I 0 s k = false) := fun s _ => by
    rw [← hf]
    unfold frN
    simp only [decide_eq_true_eq]
    exact ⟨fun q k hk => by rw [RC_rc hR 0 s k hk]; exact q k hk, fun q k hk => by rw [← RC_rc hR 0 s k hk]; exact q k hk⟩
  generalize hI2 : xup I1 1 10 (nI (cnt f 0 216)) = I2
  generalize hI3 : fw I2 85 216 (fun s => if f s = true then nI 1 else nI 0) = I3
  refine ⟨.int (fstv f nI (-9) 0 216), I2, J, xup I3 77 5 (nI (cnt f 0 216)), J, ?_, ?_, ?_⟩
  · rw [fX8_free]
    simp (disch := omega) only [eX8_free, xRl, xG1, xG2, kAll, rAll, nAll, List.map_nil, List.map_cons, List.sum_nil, List.sum_cons, Nat.reduceAdd, Nat.reduceSub, Nat.reduceMul, Nat.reduceLeDiff, Nat.reduceEqDiff, Nat.reduceLT, and_true, true_and, and_self, if_true, if_false, ne_eq, not_false_eq_true, not_true_eq_false, or_false, false_or, or_true, true_or, false_and, and_false, reduceIte, reduceCtorEq, xB, ite_not, xretf_zc, xretf_c, xcont_c, xbd]
    have key := xloop (t := tX8_free) (st := fun i (_ : Unit) => (2, [.ref 1, .int (nI i)], [], 0, S0 L (fw I 75 i (fun s => if f s = true then nI 1 else nI 0)) J)) (g := fun _ _ => ()) (N := 216) (Inv := fun _ _ => True) (a0 := ()) trivial (by
      intro i u hi _
      refine ⟨?_, trivial⟩
      obtain ⟨v, e1, e2⟩ := fr_call L J hC (fun c hc => fw_ne I i (fun s => if f s = true then nI 1 else nI 0) (show c ≠ 75 by omega)) hi
      rw [hf] at e2
      show xD tX8_free (2, _) = _
      rw [hX8_free_2]
      simp (disch := omega) only [eX8_free, xRl, xG1, xG2, kAll, rAll, nAll, List.map_nil, List.map_cons, List.sum_nil, List.sum_cons, Nat.reduceAdd, Nat.reduceSub, Nat.reduceMul, Nat.reduceLeDiff, Nat.reduceEqDiff, Nat.reduceLT, and_true, true_and, and_self, if_true, if_false, ne_eq, not_false_eq_true, not_true_eq_false, or_false, false_or, or_true, true_or, false_and, and_false, reduceIte, reduceCtorEq, xB, ite_not, xretf_zc, xretf_c, xcont_c, xbd, nI_leI, nI_neg0, cl_nI, e1, e2, nb1, nI_add]
      rw [← fw_s (v := (fun s => if f s = true then nI 1 else nI 0))]
      have hi2 : ¬ 216 ≤ i := by omega
      by_cases hfi : f i = true
      · simp only [hfi, hi2, if_true, b01, if_false, not_false_eq_true, and_self]
      · simp only [hfi, hi2, if_true, b00, if_false, Bool.false_eq_true, not_false_eq_true, and_self]) 216 (Nat.le_refl 216)
    have k0 := key.1
    simp only [fw_0] at k0
    rw [k0, hI1, hX8_free_2]
    simp (disch := omega) only [eX8_free, xRl, xG1, xG2, kAll, rAll, nAll, List.map_nil, List.map_cons, List.sum_nil, List.sum_cons, Nat.reduceAdd, Nat.reduceSub, Nat.reduceMul, Nat.reduceLeDiff, Nat.reduceEqDiff, Nat.reduceLT, and_true, true_and, and_self, if_true, if_false, ne_eq, not_false_eq_true, not_true_eq_false, or_false, false_or, or_true, true_or, false_and, and_false, reduceIte, reduceCtorEq, xB, ite_not, xretf_zc, xretf_c, xcont_c, xbd, nI_leI, p8_tellChosen L I1 J f (fun s hs => by rw [← hI1, fw_in _ _ hs]), hI2]
  · have e1 : I2 78 = I 78 := by rw [← hI2, xup_ne _ _ _ (by decide), ← hI1, fw_ne _ _ _ (by decide)]
    have e2 : I2 77 15 = nI 0 := by rw [← hI2, xup_o _ _ _ _ (by decide), ← hI1, fw_ne _ _ _ (by decide)]; exact hy0
    have e0 := p9_layFree L I2 J n (Mok_of hM e1) e2 f (fun s hs => by rw [rcM_of e1]; exact hfM s hs)
    rw [hI3] at e0
    rw [fX9_free]
    simp (disch := omega) only [eX9_free, xRl, xG1, xG2, kAll, rAll, nAll, List.map_nil, List.map_cons, List.sum_nil, List.sum_cons, Nat.reduceAdd, Nat.reduceSub, Nat.reduceMul, Nat.reduceLeDiff, Nat.reduceEqDiff, Nat.reduceLT, and_true, true_and, and_self, if_true, if_false, ne_eq, not_false_eq_true, not_true_eq_false, or_false, false_or, or_true, true_or, false_and, and_false, reduceIte, reduceCtorEq, xB, ite_not, xretf_zc, xretf_c, xcont_c, xbd, e0]
    have key : ∀ (s : Nat), s ≤ 216 → xD tX9_free (16, [.ref 77, .int (fstv f nI (-9) s (216 - s)), .int (nI s + (-1))], [], 0, S0 L (xup I3 77 5 (nI (cnt f s (216 - s)))) J) = some (some (.int (fstv f nI (-9) 0 216)), S0 L (xup I3 77 5 (nI (cnt f 0 216))) J) := by
      intro s
      induction s with
      | zero =>
        intro hs
        rw [hX9_free_16]
        simp (disch := omega) only [eX9_free, xRl, xG1, xG2, kAll, rAll, nAll, List.map_nil, List.map_cons, List.sum_nil, List.sum_cons, Nat.reduceAdd, Nat.reduceSub, Nat.reduceMul, Nat.reduceLeDiff, Nat.reduceEqDiff, Nat.reduceLT, and_true, true_and, and_self, if_true, if_false, ne_eq, not_false_eq_true, not_true_eq_false, or_false, false_or, or_true, true_or, false_and, and_false, reduceIte, reduceCtorEq, xB, ite_not, xretf_zc, xretf_c, xcont_c, xbd, dn0, Nat.sub_zero]
      | succ s ih =>
        intro hs
        have e3 : xup I3 77 5 (nI (cnt f (s + 1) (216 - (s + 1)))) 77 5 = nI (cnt f (s + 1) (216 - (s + 1))) := by rw [xup_self]; simp
        have e4 : xup I3 77 5 (nI (cnt f (s + 1) (216 - (s + 1)))) 85 s = if f s = true then nI 1 else nI 0 := by rw [xup_o _ _ _ _ (by decide), ← hI3, fw_in _ _ (by omega)]
        rw [hX9_free_16]
        simp (disch := omega) only [eX9_free, xRl, xG1, xG2, kAll, rAll, nAll, List.map_nil, List.map_cons, List.sum_nil, List.sum_cons, Nat.reduceAdd, Nat.reduceSub, Nat.reduceMul, Nat.reduceLeDiff, Nat.reduceEqDiff, Nat.reduceLT, and_true, true_and, and_self, if_true, if_false, ne_eq, not_false_eq_true, not_true_eq_false, or_false, false_or, or_true, true_or, false_and, and_false, reduceIte, reduceCtorEq, xB, ite_not, xretf_zc, xretf_c, xcont_c, xbd, dn1, nI_neg0, cl_nI, e4, nI_leI, nI_ltI, Nat.not_lt_zero, e3, xup_xup, nI_add]
        have e9 := ih (by omega)
        have e10 : 216 - s = (216 - (s + 1)) + 1 := by omega
        have e12 : fstv f nI (-9) s (216 - s) = if f s = true then nI s else fstv f nI (-9) (s + 1) (216 - (s + 1)) := by rw [e10]; rfl
        have e13 : cnt f s (216 - s) = (if f s = true then 1 else 0) + cnt f (s + 1) (216 - (s + 1)) := by rw [e10]; rfl
        rw [e12, e13] at e9
        by_cases hfs : f s = true
        · simp only [hfs, if_true] at e9 ⊢
          rw [Nat.add_comm _ 1]
          exact e9
        · simp only [hfs, if_false, Bool.false_eq_true, Nat.zero_add] at e9 ⊢
          exact e9
    have k0 := key 216 (Nat.le_refl 216)
    rw [show nI 216 + (-1) = nI 215 from dn1 215] at k0
    rw [show xD tX9_free (16, [.ref 77, .int (-9), .int (nI 215)], [], 0, S0 L (xup I3 77 5 (nI 0)) J) = _ from k0]
    simp (disch := omega) only [xRl, xG1, xG2, kAll, rAll, nAll, List.map_nil, List.map_cons, List.sum_nil, List.sum_cons, Nat.reduceAdd, Nat.reduceSub, Nat.reduceMul, Nat.reduceLeDiff, Nat.reduceEqDiff, Nat.reduceLT, and_true, true_and, and_self, if_true, if_false, ne_eq, not_false_eq_true, not_true_eq_false, or_false, false_or, or_true, true_or, false_and, and_false, reduceIte, reduceCtorEq, xB, ite_not, xretf_zc, xretf_c, xcont_c, xbd]
  · have q1 : ∀ c, c ≠ 1 → c ≠ 75 → c ≠ 85 → I3 c = I c := fun c h1 h2 h3 => by rw [← hI3, fw_ne _ _ _ h3, ← hI2, xup_ne _ _ _ h1, ← hI1, fw_ne _ _ _ h2]
    refine Cp_gen h (fun c hc => by rw [xup_ne _ _ _ (by omega)]; exact q1 c (by omega) (by omega) (by omega)) ?_ ?_ ?_ ?_
    · rw [xup_ne _ _ _ (by decide), ← hI3, fw_ne _ _ _ (by decide), ← hI2, xup_self, if_neg (by decide), ← hI1, fw_ne _ _ _ (by decide)]
    · rw [xup_self, if_neg (by decide), q1 77 (by decide) (by decide) (by decide)]
    · rw [xup_self, if_neg (by decide), q1 77 (by decide) (by decide) (by decide)]
    · rw [xup_ne _ _ _ (by decide), ← hI3, fw_ne _ _ _ (by decide), ← hI2, xup_self, if_pos rfl, xup_self, if_pos rfl]
theorem p8_alone (kd rg a : Nat) (hk : kd < 6) (hr : rg < 10) (ha : a < 216) (f : Nat → Bool) (hf : ∀ s, s < 216 → I 74 s = if f s = true then nI 1 else nI 0) : FX8_reachesOpenAlone [.ref 1, .int (nI kd), .int (nI a), .int (nI rg)] (S0 L I J) = some (some (.int (if (decide (cnt (fun s => !f s && rchN kd rg a s) 0 216 = 0)) = true then nI 1 else nI 0)), S0 L I J) := by
  rw [fX8_reachesOpenAlone]
  simp (disch := omega) only [eX8_reachesOpenAlone, xRl, xG1, xG2, kAll, rAll, nAll, List.map_nil, List.map_cons, List.sum_nil, List.sum_cons, Nat.reduceAdd, Nat.reduceSub, Nat.reduceMul, Nat.reduceLeDiff, Nat.reduceEqDiff, Nat.reduceLT, and_true, true_and, and_self, if_true, if_false, ne_eq, not_false_eq_true, not_true_eq_false, or_false, false_or, or_true, true_or, false_and, and_false, reduceIte, reduceCtorEq, xB, ite_not, xretf_zc, xretf_c, xcont_c, xbd]
  have key : ∀ (d i : Nat), i + d = 216 → xretf (some .boolean) (xD tX8_reachesOpenAlone (3, [.ref 1, .int (nI kd), .int (nI a), .int (nI rg), .int (nI i)], [], 0, S0 L I J)) = some (some (.int (if (decide (cnt (fun s => !f s && rchN kd rg a s) i d = 0)) = true then nI 1 else nI 0)), S0 L I J) := by
    intro d
    induction d with
    | zero =>
      intro i hi
      rw [hX8_reachesOpenAlone_3]
      simp (disch := omega) only [eX8_reachesOpenAlone, xRl, xG1, xG2, kAll, rAll, nAll, List.map_nil, List.map_cons, List.sum_nil, List.sum_cons, Nat.reduceAdd, Nat.reduceSub, Nat.reduceMul, Nat.reduceLeDiff, Nat.reduceEqDiff, Nat.reduceLT, and_true, true_and, and_self, if_true, if_false, ne_eq, not_false_eq_true, not_true_eq_false, or_false, false_or, or_true, true_or, false_and, and_false, reduceIte, reduceCtorEq, xB, ite_not, xretf_zc, xretf_c, xcont_c, xbd, nI_leI]
      rw [if_pos (by omega)]
      rfl
    | succ d ih =>
      intro i hi
      have e1 := hf i (by omega)
      have e2 : cnt (fun s => !f s && rchN kd rg a s) i (d + 1) = (if (!f i && rchN kd rg a i) = true then 1 else 0) + cnt (fun s => !f s && rchN kd rg a s) (i + 1) d := rfl
      rw [hX8_reachesOpenAlone_3, e2]
      simp (disch := omega) only [eX8_reachesOpenAlone, xRl, xG1, xG2, kAll, rAll, nAll, List.map_nil, List.map_cons, List.sum_nil, List.sum_cons, Nat.reduceAdd, Nat.reduceSub, Nat.reduceMul, Nat.reduceLeDiff, Nat.reduceEqDiff, Nat.reduceLT, and_true, true_and, and_self, if_true, if_false, ne_eq, not_false_eq_true, not_true_eq_false, or_false, false_or, or_true, true_or, false_and, and_false, reduceIte, reduceCtorEq, xB, ite_not, xretf_zc, xretf_c, xcont_c, xbd, nI_leI, nI_neg0, cl_nI, e1, p1_reaches, nI_add]
      rw [if_neg (by omega)]
      by_cases h1 : f i = true
      · simp only [h1, if_true, Bool.not_true, Bool.false_and, Bool.false_eq_true, if_false, Nat.zero_add]
        exact ih (i + 1) (by omega)
      · simp only [h1, if_false, Bool.not_false, Bool.true_and, Bool.false_eq_true]
        by_cases h2 : rchN kd rg a i = true
        · simp only [h2, if_true]
          rw [if_neg (by simp)]
        · simp only [h2, if_false, Bool.false_eq_true, Nat.zero_add]
          exact ih (i + 1) (by omega)
  exact key 216 0 rfl
theorem p9_isGap (kd rg a : Nat) (hk : kd < 6) (hr : rg < 10) (ha : a < 216) (f : Nat → Bool) (hf : ∀ s, s < 216 → I 85 s = if f s = true then nI 1 else nI 0) : FX9_isGap [.ref 77, .int (nI kd), .int (nI rg), .int (nI a)] (S0 L I J) = some (some (.int (if (decide (cnt (fun s => !f s && rchN kd rg a s) 0 216 = 0)) = true then nI 1 else nI 0)), S0 L I J) := by
  rw [fX9_isGap]
  simp (disch := omega) only [eX9_isGap, xRl, xG1, xG2, kAll, rAll, nAll, List.map_nil, List.map_cons, List.sum_nil, List.sum_cons, Nat.reduceAdd, Nat.reduceSub, Nat.reduceMul, Nat.reduceLeDiff, Nat.reduceEqDiff, Nat.reduceLT, and_true, true_and, and_self, if_true, if_false, ne_eq, not_false_eq_true, not_true_eq_false, or_false, false_or, or_true, true_or, false_and, and_false, reduceIte, reduceCtorEq, xB, ite_not, xretf_zc, xretf_c, xcont_c, xbd]
  have key : ∀ (d i : Nat), i + d = 216 → xretf (some .boolean) (xD tX9_isGap (3, [.ref 77, .int (nI kd), .int (nI rg), .int (nI a), .int (nI i)], [], 0, S0 L I J)) = some (some (.int (if (decide (cnt (fun s => !f s && rchN kd rg a s) i d = 0)) = true then nI 1 else nI 0)), S0 L I J) := by
    intro d
    induction d with
    | zero =>
      intro i hi
      rw [hX9_isGap_3]
      simp (disch := omega) only [eX9_isGap, xRl, xG1, xG2, kAll, rAll, nAll, List.map_nil, List.map_cons, List.sum_nil, List.sum_cons, Nat.reduceAdd, Nat.reduceSub, Nat.reduceMul, Nat.reduceLeDiff, Nat.reduceEqDiff, Nat.reduceLT, and_true, true_and, and_self, if_true, if_false, ne_eq, not_false_eq_true, not_true_eq_false, or_false, false_or, or_true, true_or, false_and, and_false, reduceIte, reduceCtorEq, xB, ite_not, xretf_zc, xretf_c, xcont_c, xbd, nI_leI]
      rw [if_pos (by omega)]
      rfl
    | succ d ih =>
      intro i hi
      have e1 := hf i (by omega)
      have e2 : cnt (fun s => !f s && rchN kd rg a s) i (d + 1) = (if (!f i && rchN kd rg a i) = true then 1 else 0) + cnt (fun s => !f s && rchN kd rg a s) (i + 1) d := rfl
      rw [hX9_isGap_3, e2]
      simp (disch := omega) only [eX9_isGap, xRl, xG1, xG2, kAll, rAll, nAll, List.map_nil, List.map_cons, List.sum_nil, List.sum_cons, Nat.reduceAdd, Nat.reduceSub, Nat.reduceMul, Nat.reduceLeDiff, Nat.reduceEqDiff, Nat.reduceLT, and_true, true_and, and_self, if_true, if_false, ne_eq, not_false_eq_true, not_true_eq_false, or_false, false_or, or_true, true_or, false_and, and_false, reduceIte, reduceCtorEq, xB, ite_not, xretf_zc, xretf_c, xcont_c, xbd, nI_leI, nI_neg0, cl_nI, e1, p9_reachesOf, nI_add]
      rw [if_neg (by omega)]
      by_cases h1 : f i = true
      · simp only [h1, if_true, Bool.not_true, Bool.false_and, Bool.false_eq_true, if_false, Nat.zero_add]
        exact ih (i + 1) (by omega)
      · simp only [h1, if_false, Bool.not_false, Bool.true_and, Bool.false_eq_true]
        by_cases h2 : rchN kd rg a i = true
        · simp only [h2, if_true]
          rw [if_neg (by simp)]
        · simp only [h2, if_false, Bool.false_eq_true, Nat.zero_add]
          exact ih (i + 1) (by omega)
  exact key 216 0 rfl
theorem rch_self (k rg s : Nat) : rchN k rg s s = true := by
  have e : farN k s s = 0 := by unfold farN dN; repeat' split
                                all_goals omega
  unfold rchN
  rw [e]
  split <;> simp
theorem cnt_pos {f : Nat → Bool} : ∀ {d a i : Nat}, a ≤ i → i < a + d → f i = true → 0 < cnt f a d
  | 0, a, i, h1, h2, _ => absurd h2 (by omega)
  | d + 1, a, i, h1, h2, h3 => by
    unfold cnt
    by_cases hi : i = a
    · subst hi; rw [if_pos h3]; omega
    · have := cnt_pos (f := f) (d := d) (a := a + 1) (i := i) (by omega) (by omega) h3
      omega
theorem pr_gap (h : Cp I J) (k r : Int32) : Pair L FX8_gap FX9_gap [.int k, .int r] I J := by
  by_cases hk : nI 0 ≤ k ∧ k < nI 6
  · by_cases hr : nI 0 ≤ r ∧ r < nI 10
    · obtain ⟨kd, hkd, rfl⟩ := (Am_iff (by decide)).mp hk
      obtain ⟨rg, hrg, rfl⟩ := (Am_iff (by decide)).mp hr
      obtain ⟨n, d, yr, hR⟩ := h.2.2.2.2.2.2.1
      obtain ⟨hM, hC, hE⟩ := RC_M hR
      have hn := hM.1
      have hy0 := h.2.2.2.2.2.1
      generalize hfr : frN I n yr = q
      generalize hf : (fun a => decide (cnt (fun s => !q s && rchN kd rg a s) 0 216 = 0)) = f
      have hfd : ∀ a, decide (cnt (fun s => !q s && rchN kd rg a s) 0 216 = 0) = f a := fun a => by rw [← hf]
      have hqf : ∀ a, a < 216 → q a = false → f a = false := by
        intro a ha hq
        rw [← hfd]
        have := cnt_pos (f := fun s => !q s && rchN kd rg a s) (d := 216) (a := 0) (i := a) (by omega) (by omega) (by simp [hq, rch_self])
        simp; omega
      have hcn := cnt_le f 216 0
      have hfM : ∀ s, s < 216 → (q s = true ↔ ∀ k, k < n → rcM I 0 s k = false) := fun s _ => by
        rw [← hfr]
        unfold frN
        simp only [decide_eq_true_eq]
        exact ⟨fun q k hk => by rw [RC_rc hR 0 s k hk]; exact q k hk, fun q k hk => by rw [← RC_rc hR 0 s k hk]; exact q k hk⟩
      generalize hI0 : fw I 74 216 (fun s => if q s = true then nI 1 else nI 0) = I0
      generalize hI1 : fw I0 75 216 (fun s => if f s = true then nI 1 else nI 0) = I1
      generalize hI2 : xup I1 1 10 (nI (cnt f 0 216)) = I2
      generalize hI3 : fw I2 85 216 (fun s => if q s = true then nI 1 else nI 0) = I3
      refine ⟨.int (fstv f nI (-9) 0 216), I2, J, xup I3 77 5 (nI (cnt f 0 216)), J, ?_, ?_, ?_⟩
      · rw [fX8_gap]
        simp (disch := omega) only [eX8_gap, xRl, xG1, xG2, kAll, rAll, nAll, List.map_nil, List.map_cons, List.sum_nil, List.sum_cons, Nat.reduceAdd, Nat.reduceSub, Nat.reduceMul, Nat.reduceLeDiff, Nat.reduceEqDiff, Nat.reduceLT, and_true, true_and, and_self, if_true, if_false, ne_eq, not_false_eq_true, not_true_eq_false, or_false, false_or, or_true, true_or, false_and, and_false, reduceIte, reduceCtorEq, xB, ite_not, xretf_zc, xretf_c, xcont_c, xbd, p8_among, hk, hr]
        have key := xloop (t := tX8_gap) (st := fun i (_ : Unit) => (22, [.ref 1, .int (nI kd), .int (nI rg), .int (nI i)], [], 0, S0 L (fw I 74 i (fun s => if q s = true then nI 1 else nI 0)) J)) (g := fun _ _ => ()) (N := 216) (Inv := fun _ _ => True) (a0 := ()) trivial (by
          intro i u hi _
          refine ⟨?_, trivial⟩
          obtain ⟨v, e1, e2⟩ := fr_call L J hC (fun c hc => fw_ne I i (fun s => if q s = true then nI 1 else nI 0) (show c ≠ 74 by omega)) hi
          rw [hfr] at e2
          show xD tX8_gap (22, _) = _
          rw [hX8_gap_22]
          simp (disch := omega) only [eX8_gap, xRl, xG1, xG2, kAll, rAll, nAll, List.map_nil, List.map_cons, List.sum_nil, List.sum_cons, Nat.reduceAdd, Nat.reduceSub, Nat.reduceMul, Nat.reduceLeDiff, Nat.reduceEqDiff, Nat.reduceLT, and_true, true_and, and_self, if_true, if_false, ne_eq, not_false_eq_true, not_true_eq_false, or_false, false_or, or_true, true_or, false_and, and_false, reduceIte, reduceCtorEq, xB, ite_not, xretf_zc, xretf_c, xcont_c, xbd, nI_leI, nI_neg0, cl_nI, e1, e2, nb1, nI_add]
          rw [← fw_s (v := (fun s => if q s = true then nI 1 else nI 0))]
          have hi2 : ¬ 216 ≤ i := by omega
          by_cases hfi : q i = true
          · simp only [hfi, hi2, if_true, b01, if_false, not_false_eq_true, and_self]
          · simp only [hfi, hi2, if_true, b00, if_false, Bool.false_eq_true, not_false_eq_true, and_self]) 216 (Nat.le_refl 216)
        have k0 := key.1
        simp only [fw_0] at k0
        rw [k0, hI0, hX8_gap_22]
        simp (disch := omega) only [eX8_gap, xRl, xG1, xG2, kAll, rAll, nAll, List.map_nil, List.map_cons, List.sum_nil, List.sum_cons, Nat.reduceAdd, Nat.reduceSub, Nat.reduceMul, Nat.reduceLeDiff, Nat.reduceEqDiff, Nat.reduceLT, and_true, true_and, and_self, if_true, if_false, ne_eq, not_false_eq_true, not_true_eq_false, or_false, false_or, or_true, true_or, false_and, and_false, reduceIte, reduceCtorEq, xB, ite_not, xretf_zc, xretf_c, xcont_c, xbd, nI_leI]
        have key2 := xloop (t := tX8_gap) (st := fun i (_ : Unit) => (62, [.ref 1, .int (nI kd), .int (nI rg), .int (nI i)], [], 0, S0 L (fw I0 75 i (fun s => if f s = true then nI 1 else nI 0)) J)) (g := fun _ _ => ()) (N := 216) (Inv := fun _ _ => True) (a0 := ()) trivial (by
          intro i u hi _
          refine ⟨?_, trivial⟩
          have e1 : ∀ s, s < 216 → fw I0 75 i (fun s => if f s = true then nI 1 else nI 0) 74 s = if q s = true then nI 1 else nI 0 := fun s hs => by rw [fw_ne _ _ _ (by decide), ← hI0, fw_in _ _ hs]
          have e2 := p8_alone L (fw I0 75 i (fun s => if f s = true then nI 1 else nI 0)) J kd rg i hkd hrg hi q e1
          rw [hfd] at e2
          have e3 := e1 i hi
          show xD tX8_gap (62, _) = _
          rw [hX8_gap_62]
          simp (disch := omega) only [eX8_gap, xRl, xG1, xG2, kAll, rAll, nAll, List.map_nil, List.map_cons, List.sum_nil, List.sum_cons, Nat.reduceAdd, Nat.reduceSub, Nat.reduceMul, Nat.reduceLeDiff, Nat.reduceEqDiff, Nat.reduceLT, and_true, true_and, and_self, if_true, if_false, ne_eq, not_false_eq_true, not_true_eq_false, or_false, false_or, or_true, true_or, false_and, and_false, reduceIte, reduceCtorEq, xB, ite_not, xretf_zc, xretf_c, xcont_c, xbd, nI_leI, nI_neg0, cl_nI, e2, e3, nb1, nI_add]
          rw [← fw_s (v := (fun s => if f s = true then nI 1 else nI 0))]
          have hi2 : ¬ 216 ≤ i := by omega
          by_cases hqi : q i = true
          · by_cases hfi : f i = true
            · simp only [hqi, hfi, hi2, if_true, b01, if_false, not_false_eq_true, and_self, true_and]
            · simp only [hqi, hfi, hi2, if_true, b00, if_false, Bool.false_eq_true, not_false_eq_true, and_self, true_and, and_false]
          · have hfi : ¬ f i = true := by rw [hqf i hi (by simpa using hqi)]; decide
            simp only [hqi, hfi, hi2, if_true, b00, if_false, Bool.false_eq_true, not_false_eq_true, and_self, false_and]) 216 (Nat.le_refl 216)
        have k2 := key2.1
        simp only [fw_0] at k2
        rw [k2, hI1, hX8_gap_62]
        simp (disch := omega) only [eX8_gap, xRl, xG1, xG2, kAll, rAll, nAll, List.map_nil, List.map_cons, List.sum_nil, List.sum_cons, Nat.reduceAdd, Nat.reduceSub, Nat.reduceMul, Nat.reduceLeDiff, Nat.reduceEqDiff, Nat.reduceLT, and_true, true_and, and_self, if_true, if_false, ne_eq, not_false_eq_true, not_true_eq_false, or_false, false_or, or_true, true_or, false_and, and_false, reduceIte, reduceCtorEq, xB, ite_not, xretf_zc, xretf_c, xcont_c, xbd, nI_leI, p8_tellChosen L I1 J f (fun s hs => by rw [← hI1, fw_in _ _ hs]), hI2]
      · have e1 : I2 78 = I 78 := by rw [← hI2, xup_ne _ _ _ (by decide), ← hI1, fw_ne _ _ _ (by decide), ← hI0, fw_ne _ _ _ (by decide)]
        have e2 : I2 77 15 = nI 0 := by rw [← hI2, xup_o _ _ _ _ (by decide), ← hI1, fw_ne _ _ _ (by decide), ← hI0, fw_ne _ _ _ (by decide)]; exact hy0
        have e0 := p9_layFree L I2 J n (Mok_of hM e1) e2 q (fun s hs => by rw [rcM_of e1]; exact hfM s hs)
        rw [hI3] at e0
        rw [fX9_gap]
        simp (disch := omega) only [eX9_gap, xRl, xG1, xG2, kAll, rAll, nAll, List.map_nil, List.map_cons, List.sum_nil, List.sum_cons, Nat.reduceAdd, Nat.reduceSub, Nat.reduceMul, Nat.reduceLeDiff, Nat.reduceEqDiff, Nat.reduceLT, and_true, true_and, and_self, if_true, if_false, ne_eq, not_false_eq_true, not_true_eq_false, or_false, false_or, or_true, true_or, false_and, and_false, reduceIte, reduceCtorEq, xB, ite_not, xretf_zc, xretf_c, xcont_c, xbd, p9_isKind, p9_inL, hk, hr, e0]
        have key : ∀ (s : Nat), s ≤ 216 → ∀ z, xD tX9_gap (38, [.ref 77, .int (nI kd), .int (nI rg), .int (fstv f nI (-9) s (216 - s)), .int (nI s + (-1)), z], [], 0, S0 L (xup I3 77 5 (nI (cnt f s (216 - s)))) J) = some (some (.int (fstv f nI (-9) 0 216)), S0 L (xup I3 77 5 (nI (cnt f 0 216))) J) := by
          intro s
          induction s with
          | zero =>
            intro hs z
            rw [hX9_gap_38]
            simp (disch := omega) only [eX9_gap, xRl, xG1, xG2, kAll, rAll, nAll, List.map_nil, List.map_cons, List.sum_nil, List.sum_cons, Nat.reduceAdd, Nat.reduceSub, Nat.reduceMul, Nat.reduceLeDiff, Nat.reduceEqDiff, Nat.reduceLT, and_true, true_and, and_self, if_true, if_false, ne_eq, not_false_eq_true, not_true_eq_false, or_false, false_or, or_true, true_or, false_and, and_false, reduceIte, reduceCtorEq, xB, ite_not, xretf_zc, xretf_c, xcont_c, xbd, dn0, Nat.sub_zero]
          | succ s ih =>
            intro hs z
            have e3 : xup I3 77 5 (nI (cnt f (s + 1) (216 - (s + 1)))) 77 5 = nI (cnt f (s + 1) (216 - (s + 1))) := by rw [xup_self]; simp
            have e4 := p9_isGap L (xup I3 77 5 (nI (cnt f (s + 1) (216 - (s + 1))))) J kd rg s hkd hrg (by omega) q (fun s hs => by rw [xup_o _ _ _ _ (by decide), ← hI3, fw_in _ _ hs])
            rw [hfd] at e4
            rw [hX9_gap_38]
            simp (disch := omega) only [eX9_gap, xRl, xG1, xG2, kAll, rAll, nAll, List.map_nil, List.map_cons, List.sum_nil, List.sum_cons, Nat.reduceAdd, Nat.reduceSub, Nat.reduceMul, Nat.reduceLeDiff, Nat.reduceEqDiff, Nat.reduceLT, and_true, true_and, and_self, if_true, if_false, ne_eq, not_false_eq_true, not_true_eq_false, or_false, false_or, or_true, true_or, false_and, and_false, reduceIte, reduceCtorEq, xB, ite_not, xretf_zc, xretf_c, xcont_c, xbd, dn1, nI_neg0, cl_nI, e4, nI_leI, nI_ltI, Nat.not_lt_zero, e3, xup_xup, nI_add]
            have e9 := ih (by omega)
            have e10 : 216 - s = (216 - (s + 1)) + 1 := by omega
            have e12 : fstv f nI (-9) s (216 - s) = if f s = true then nI s else fstv f nI (-9) (s + 1) (216 - (s + 1)) := by rw [e10]; rfl
            have e13 : cnt f s (216 - s) = (if f s = true then 1 else 0) + cnt f (s + 1) (216 - (s + 1)) := by rw [e10]; rfl
            rw [e12, e13] at e9
            by_cases hfs : f s = true
            · simp only [hfs, if_true] at e9 ⊢
              rw [Nat.add_comm _ 1]
              exact e9 _
            · simp only [hfs, if_false, Bool.false_eq_true, Nat.zero_add] at e9 ⊢
              exact e9 _
        have k0 := key 216 (Nat.le_refl 216) .null
        rw [show nI 216 + (-1) = nI 215 from dn1 215] at k0
        rw [show xD tX9_gap (38, [.ref 77, .int (nI kd), .int (nI rg), .int (-9), .int (nI 215), .null], [], 0, S0 L (xup I3 77 5 (nI 0)) J) = _ from k0]
        simp (disch := omega) only [xRl, xG1, xG2, kAll, rAll, nAll, List.map_nil, List.map_cons, List.sum_nil, List.sum_cons, Nat.reduceAdd, Nat.reduceSub, Nat.reduceMul, Nat.reduceLeDiff, Nat.reduceEqDiff, Nat.reduceLT, and_true, true_and, and_self, if_true, if_false, ne_eq, not_false_eq_true, not_true_eq_false, or_false, false_or, or_true, true_or, false_and, and_false, reduceIte, reduceCtorEq, xB, ite_not, xretf_zc, xretf_c, xcont_c, xbd]
      · have q1 : ∀ c, c ≠ 1 → c ≠ 74 → c ≠ 75 → c ≠ 85 → I3 c = I c := fun c h1 h0 h2 h3 => by rw [← hI3, fw_ne _ _ _ h3, ← hI2, xup_ne _ _ _ h1, ← hI1, fw_ne _ _ _ h2, ← hI0, fw_ne _ _ _ h0]
        refine Cp_gen h (fun c hc => by rw [xup_ne _ _ _ (by omega)]; exact q1 c (by omega) (by omega) (by omega) (by omega)) ?_ ?_ ?_ ?_
        · rw [xup_ne _ _ _ (by decide), ← hI3, fw_ne _ _ _ (by decide), ← hI2, xup_self, if_neg (by decide), ← hI1, fw_ne _ _ _ (by decide), ← hI0, fw_ne _ _ _ (by decide)]
        · rw [xup_self, if_neg (by decide), q1 77 (by decide) (by decide) (by decide) (by decide)]
        · rw [xup_self, if_neg (by decide), q1 77 (by decide) (by decide) (by decide) (by decide)]
        · rw [xup_ne _ _ _ (by decide), ← hI3, fw_ne _ _ _ (by decide), ← hI2, xup_self, if_pos rfl, xup_self, if_pos rfl]
    · refine ⟨.int (-1), I, J, I, J, ?_, ?_, h⟩
      · rw [fX8_gap]
        simp (disch := omega) only [eX8_gap, xRl, xG1, xG2, kAll, rAll, nAll, List.map_nil, List.map_cons, List.sum_nil, List.sum_cons, Nat.reduceAdd, Nat.reduceSub, Nat.reduceMul, Nat.reduceLeDiff, Nat.reduceEqDiff, Nat.reduceLT, and_true, true_and, and_self, if_true, if_false, ne_eq, not_false_eq_true, not_true_eq_false, or_false, false_or, or_true, true_or, false_and, and_false, reduceIte, reduceCtorEq, xB, ite_not, xretf_zc, xretf_c, xcont_c, xbd, p8_among, hk, hr]
      · rw [fX9_gap]
        simp (disch := omega) only [eX9_gap, xRl, xG1, xG2, kAll, rAll, nAll, List.map_nil, List.map_cons, List.sum_nil, List.sum_cons, Nat.reduceAdd, Nat.reduceSub, Nat.reduceMul, Nat.reduceLeDiff, Nat.reduceEqDiff, Nat.reduceLT, and_true, true_and, and_self, if_true, if_false, ne_eq, not_false_eq_true, not_true_eq_false, or_false, false_or, or_true, true_or, false_and, and_false, reduceIte, reduceCtorEq, xB, ite_not, xretf_zc, xretf_c, xcont_c, xbd, p9_isKind, p9_inL, hk, hr]
  · refine ⟨.int (-1), I, J, I, J, ?_, ?_, h⟩
    · rw [fX8_gap]
      simp (disch := omega) only [eX8_gap, xRl, xG1, xG2, kAll, rAll, nAll, List.map_nil, List.map_cons, List.sum_nil, List.sum_cons, Nat.reduceAdd, Nat.reduceSub, Nat.reduceMul, Nat.reduceLeDiff, Nat.reduceEqDiff, Nat.reduceLT, and_true, true_and, and_self, if_true, if_false, ne_eq, not_false_eq_true, not_true_eq_false, or_false, false_or, or_true, true_or, false_and, and_false, reduceIte, reduceCtorEq, xB, ite_not, xretf_zc, xretf_c, xcont_c, xbd, p8_among, hk]
    · rw [fX9_gap]
      simp (disch := omega) only [eX9_gap, xRl, xG1, xG2, kAll, rAll, nAll, List.map_nil, List.map_cons, List.sum_nil, List.sum_cons, Nat.reduceAdd, Nat.reduceSub, Nat.reduceMul, Nat.reduceLeDiff, Nat.reduceEqDiff, Nat.reduceLT, and_true, true_and, and_self, if_true, if_false, ne_eq, not_false_eq_true, not_true_eq_false, or_false, false_or, or_true, true_or, false_and, and_false, reduceIte, reduceCtorEq, xB, ite_not, xretf_zc, xretf_c, xcont_c, xbd, p9_isKind, hk]
end F2
