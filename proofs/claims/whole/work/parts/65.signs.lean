/-! letters and figures -/
def kl (c : Int32) : Nat := if c = nI 110 then 0 else if c = nI 119 then 1 else if c = nI 115 then 2 else if c = nI 108 then 3 else if c = nI 100 then 4 else if c = nI 112 then 5 else 6
theorem kl_le (c : Int32) : kl c ≤ 6 := by
  unfold kl
  repeat' split
  all_goals omega
def gr (k : Nat) : Nat := if k < 4 then 5 else if k = 5 then 3 else if k = 7 then 1 else 9
def fit (k : Nat) (c : Int32) : Bool := if k = 0 then decide (kl c < 6) else decide (nI 48 ≤ c ∧ c < nI (49 + gr k))
theorem pj_coder (σ : xS) : FJ0_coder_7d493 [.ref 1002] σ = some (some (.int (nI 0)), σ) := by
  rw [fJ0_coder_7d493]
  simp (disch := omega) only [eJ0_coder_7d493, xRl, xG1, xG2, kAll, rAll, nAll, List.map_nil, List.map_cons, List.sum_nil, List.sum_cons, Nat.reduceAdd, Nat.reduceSub, Nat.reduceMul, Nat.reduceLeDiff, Nat.reduceEqDiff, Nat.reduceLT, and_true, true_and, and_self, if_true, if_false, ne_eq, not_false_eq_true, not_true_eq_false, or_false, false_or, or_true, true_or, false_and, and_false, reduceIte, reduceCtorEq, xB, ite_not, xretf_zc, xretf_c, xcont_c, xbd]
  rfl
theorem pj_length (σ : xS) : FJ0_length_8abf5 [.ref 1002] σ = some (some (.int (nI 6)), σ) := by
  rw [fJ0_length_8abf5]
  simp (disch := omega) only [eJ0_length_8abf5, xRl, xG1, xG2, kAll, rAll, nAll, List.map_nil, List.map_cons, List.sum_nil, List.sum_cons, Nat.reduceAdd, Nat.reduceSub, Nat.reduceMul, Nat.reduceLeDiff, Nat.reduceEqDiff, Nat.reduceLT, and_true, true_and, and_self, if_true, if_false, ne_eq, not_false_eq_true, not_true_eq_false, or_false, false_or, or_true, true_or, false_and, and_false, reduceIte, reduceCtorEq, xB, ite_not, xretf_zc, xretf_c, xcont_c, xbd, pj_coder]
  rfl
theorem pj_isLatin1 (σ : xS) : FJ0_isLatin1_aae02 [.ref 1002] σ = some (some (.int (nI 1)), σ) := by
  rw [fJ0_isLatin1_aae02]
  simp (disch := omega) only [eJ0_isLatin1_aae02, xRl, xG1, xG2, kAll, rAll, nAll, List.map_nil, List.map_cons, List.sum_nil, List.sum_cons, Nat.reduceAdd, Nat.reduceSub, Nat.reduceMul, Nat.reduceLeDiff, Nat.reduceEqDiff, Nat.reduceLT, and_true, true_and, and_self, if_true, if_false, ne_eq, not_false_eq_true, not_true_eq_false, or_false, false_or, or_true, true_or, false_and, and_false, reduceIte, reduceCtorEq, xB, ite_not, xretf_zc, xretf_c, xcont_c, xbd]
  rfl
theorem pj_checkIndex {k : Nat} (hk : k < 6) (σ : xS) : FJ0_checkIndex_df160 [.int (nI k), .int (nI 6)] σ = some (none, σ) := by
  rw [fJ0_checkIndex_df160]
  have h : (k < 6) = True := eq_true hk
  simp (disch := omega) only [eJ0_checkIndex_df160, xRl, xG1, xG2, kAll, rAll, nAll, List.map_nil, List.map_cons, List.sum_nil, List.sum_cons, Nat.reduceAdd, Nat.reduceSub, Nat.reduceMul, Nat.reduceLeDiff, Nat.reduceEqDiff, Nat.reduceLT, and_true, true_and, and_self, if_true, if_false, ne_eq, not_false_eq_true, not_true_eq_false, or_false, false_or, or_true, true_or, false_and, and_false, reduceIte, reduceCtorEq, xB, ite_not, xretf_zc, xretf_c, xcont_c, xbd, nI_leI, nI_ltI, Nat.zero_le, nI_neg0, h]
theorem xlt_b : ∀ k, k < 6 → ((xlt k &&& nI 255).toUInt32 % 65536).toInt32 = xlt k ∧ 0 ≤ xlt k ∧ xlt k < 65536 := by decide +kernel
theorem xr_ch {k : Nat} (hk : k < 6) (σ : xS) : xretf (some .char) (some (some (.int (xlt k)), σ)) = some (some (.int (xlt k)), σ) := by
  rcases k with _ | _ | _ | _ | _ | _ | k
  all_goals first | rfl | omega
theorem pj_charAt1 {k : Nat} (hk : k < 6) (σ : xS) : FJ1_charAt_3b067 [.ref 1003, .int (nI k)] σ = some (some (.int (xlt k)), σ) := by
  obtain ⟨e1, e2, e3⟩ := xlt_b k hk
  rw [fJ1_charAt_3b067]
  simp (disch := omega) only [eJ1_charAt_3b067, xRl, xG1, xG2, kAll, rAll, nAll, List.map_nil, List.map_cons, List.sum_nil, List.sum_cons, Nat.reduceAdd, Nat.reduceSub, Nat.reduceMul, Nat.reduceLeDiff, Nat.reduceEqDiff, Nat.reduceLT, and_true, true_and, and_self, if_true, if_false, ne_eq, not_false_eq_true, not_true_eq_false, or_false, false_or, or_true, true_or, false_and, and_false, reduceIte, reduceCtorEq, xB, ite_not, xretf_zc, xretf_c, xcont_c, xbd, pj_checkIndex, nI_neg0, cl_nI, e1]
  exact xr_ch hk σ
theorem pj_charAt {k : Nat} (hk : k < 6) (σ : xS) : FJ0_charAt_5068e [.ref 1002, .int (nI k)] σ = some (some (.int (xlt k)), σ) := by
  rw [fJ0_charAt_5068e]
  simp (disch := omega) only [eJ0_charAt_5068e, xRl, xG1, xG2, kAll, rAll, nAll, List.map_nil, List.map_cons, List.sum_nil, List.sum_cons, Nat.reduceAdd, Nat.reduceSub, Nat.reduceMul, Nat.reduceLeDiff, Nat.reduceEqDiff, Nat.reduceLT, and_true, true_and, and_self, if_true, if_false, ne_eq, not_false_eq_true, not_true_eq_false, or_false, false_or, or_true, true_or, false_and, and_false, reduceIte, reduceCtorEq, xB, ite_not, xretf_zc, xretf_c, xcont_c, xbd, pj_isLatin1, pj_charAt1]
  exact xr_ch hk σ
theorem lt_kl (c : Int32) : fstv (fun k => decide (xlt k = c)) nI (-1) 0 6 = if kl c = 6 then -1 else nI (kl c) := by
  have e : fstv (fun k => decide (xlt k = c)) nI (-1) 0 6 = if nI 110 = c then nI 0 else if nI 119 = c then nI 1 else if nI 115 = c then nI 2 else if nI 108 = c then nI 3 else if nI 100 = c then nI 4 else if nI 112 = c then nI 5 else -1 := by
    simp only [fstv, decide_eq_true_eq]
    rfl
  rw [e]
  unfold kl
  simp only [eq_comm (b := c)]
  repeat' split
  all_goals first | rfl | simp_all
theorem p1_ofLetter (c : Int32) (σ : xS) : FX1_ofLetter [.int c] σ = some (some (.int (if kl c = 6 then -1 else nI (kl c))), σ) := by
  rw [fX1_ofLetter, ← lt_kl]
  simp (disch := omega) only [eX1_ofLetter, xRl, xG1, xG2, kAll, rAll, nAll, List.map_nil, List.map_cons, List.sum_nil, List.sum_cons, Nat.reduceAdd, Nat.reduceSub, Nat.reduceMul, Nat.reduceLeDiff, Nat.reduceEqDiff, Nat.reduceLT, and_true, true_and, and_self, if_true, if_false, ne_eq, not_false_eq_true, not_true_eq_false, or_false, false_or, or_true, true_or, false_and, and_false, reduceIte, reduceCtorEq, xB, ite_not, xretf_zc, xretf_c, xcont_c, xbd]
  have key : ∀ d k, k + d = 6 → xretf (some .int) (xD tX1_ofLetter (2, [.int c, .int (nI k)], [], 0, σ)) = some (some (.int (fstv (fun k => decide (xlt k = c)) nI (-1) k d)), σ) := by
    intro d
    induction d with
    | zero =>
      intro k hk
      have h6 : k = 6 := by omega
      subst h6
      rw [hX1_ofLetter_2]
      simp (disch := omega) only [eX1_ofLetter, xRl, xG1, xG2, kAll, rAll, nAll, List.map_nil, List.map_cons, List.sum_nil, List.sum_cons, Nat.reduceAdd, Nat.reduceSub, Nat.reduceMul, Nat.reduceLeDiff, Nat.reduceEqDiff, Nat.reduceLT, and_true, true_and, and_self, if_true, if_false, ne_eq, not_false_eq_true, not_true_eq_false, or_false, false_or, or_true, true_or, false_and, and_false, reduceIte, reduceCtorEq, xB, ite_not, xretf_zc, xretf_c, xcont_c, xbd, pj_length, nI_leI]
      rfl
    | succ d ih =>
      intro k hk
      have hnle : ¬ 6 ≤ k := by omega
      have ih := ih (k + 1) (by omega)
      have e : fstv (fun k => decide (xlt k = c)) nI (-1) k (d + 1) = if xlt k = c then nI k else fstv (fun k => decide (xlt k = c)) nI (-1) (k + 1) d := by
        show (if decide (xlt k = c) = true then _ else _) = _
        simp only [decide_eq_true_eq]
      rw [hX1_ofLetter_2, e]
      by_cases hc : xlt k = c
      · have hc' : (xlt k = c) = True := eq_true hc
        simp (disch := omega) only [eX1_ofLetter, xRl, xG1, xG2, kAll, rAll, nAll, List.map_nil, List.map_cons, List.sum_nil, List.sum_cons, Nat.reduceAdd, Nat.reduceSub, Nat.reduceMul, Nat.reduceLeDiff, Nat.reduceEqDiff, Nat.reduceLT, and_true, true_and, and_self, if_true, if_false, ne_eq, not_false_eq_true, not_true_eq_false, or_false, false_or, or_true, true_or, false_and, and_false, reduceIte, reduceCtorEq, xB, ite_not, xretf_zc, xretf_c, xcont_c, xbd, pj_length, nI_leI, hnle, pj_charAt, hc']
      · simp (disch := omega) only [eX1_ofLetter, xRl, xG1, xG2, kAll, rAll, nAll, List.map_nil, List.map_cons, List.sum_nil, List.sum_cons, Nat.reduceAdd, Nat.reduceSub, Nat.reduceMul, Nat.reduceLeDiff, Nat.reduceEqDiff, Nat.reduceLT, and_true, true_and, and_self, if_true, if_false, ne_eq, not_false_eq_true, not_true_eq_false, or_false, false_or, or_true, true_or, false_and, and_false, reduceIte, reduceCtorEq, xB, ite_not, xretf_zc, xretf_c, xcont_c, xbd, pj_length, nI_leI, hnle, pj_charAt, hc, nI_add, ih]
  exact key 6 0 rfl
theorem p9_kindOfLetter (c : Int32) (σ : xS) : FX9_kindOfLetter [.int c] σ = some (some (.int (if kl c = 6 then -9 else nI (kl c))), σ) := by
  rw [fX9_kindOfLetter]
  unfold kl
  by_cases h0 : c = nI 110
  · subst h0; simp (disch := omega) only [eX9_kindOfLetter, xRl, xG1, xG2, kAll, rAll, nAll, List.map_nil, List.map_cons, List.sum_nil, List.sum_cons, Nat.reduceAdd, Nat.reduceSub, Nat.reduceMul, Nat.reduceLeDiff, Nat.reduceEqDiff, Nat.reduceLT, and_true, true_and, and_self, if_true, if_false, ne_eq, not_false_eq_true, not_true_eq_false, or_false, false_or, or_true, true_or, false_and, and_false, reduceIte, reduceCtorEq, xB, ite_not, xretf_zc, xretf_c, xcont_c, xbd]
  by_cases h1 : c = nI 119
  · subst h1; simp (disch := omega) only [eX9_kindOfLetter, xRl, xG1, xG2, kAll, rAll, nAll, List.map_nil, List.map_cons, List.sum_nil, List.sum_cons, Nat.reduceAdd, Nat.reduceSub, Nat.reduceMul, Nat.reduceLeDiff, Nat.reduceEqDiff, Nat.reduceLT, and_true, true_and, and_self, if_true, if_false, ne_eq, not_false_eq_true, not_true_eq_false, or_false, false_or, or_true, true_or, false_and, and_false, reduceIte, reduceCtorEq, xB, ite_not, xretf_zc, xretf_c, xcont_c, xbd, h0]
  by_cases h2 : c = nI 115
  · subst h2; simp (disch := omega) only [eX9_kindOfLetter, xRl, xG1, xG2, kAll, rAll, nAll, List.map_nil, List.map_cons, List.sum_nil, List.sum_cons, Nat.reduceAdd, Nat.reduceSub, Nat.reduceMul, Nat.reduceLeDiff, Nat.reduceEqDiff, Nat.reduceLT, and_true, true_and, and_self, if_true, if_false, ne_eq, not_false_eq_true, not_true_eq_false, or_false, false_or, or_true, true_or, false_and, and_false, reduceIte, reduceCtorEq, xB, ite_not, xretf_zc, xretf_c, xcont_c, xbd, h0, h1]
  by_cases h3 : c = nI 108
  · subst h3; simp (disch := omega) only [eX9_kindOfLetter, xRl, xG1, xG2, kAll, rAll, nAll, List.map_nil, List.map_cons, List.sum_nil, List.sum_cons, Nat.reduceAdd, Nat.reduceSub, Nat.reduceMul, Nat.reduceLeDiff, Nat.reduceEqDiff, Nat.reduceLT, and_true, true_and, and_self, if_true, if_false, ne_eq, not_false_eq_true, not_true_eq_false, or_false, false_or, or_true, true_or, false_and, and_false, reduceIte, reduceCtorEq, xB, ite_not, xretf_zc, xretf_c, xcont_c, xbd, h0, h1, h2]
  by_cases h4 : c = nI 100
  · subst h4; simp (disch := omega) only [eX9_kindOfLetter, xRl, xG1, xG2, kAll, rAll, nAll, List.map_nil, List.map_cons, List.sum_nil, List.sum_cons, Nat.reduceAdd, Nat.reduceSub, Nat.reduceMul, Nat.reduceLeDiff, Nat.reduceEqDiff, Nat.reduceLT, and_true, true_and, and_self, if_true, if_false, ne_eq, not_false_eq_true, not_true_eq_false, or_false, false_or, or_true, true_or, false_and, and_false, reduceIte, reduceCtorEq, xB, ite_not, xretf_zc, xretf_c, xcont_c, xbd, h0, h1, h2, h3]
  by_cases h5 : c = nI 112
  · subst h5; simp (disch := omega) only [eX9_kindOfLetter, xRl, xG1, xG2, kAll, rAll, nAll, List.map_nil, List.map_cons, List.sum_nil, List.sum_cons, Nat.reduceAdd, Nat.reduceSub, Nat.reduceMul, Nat.reduceLeDiff, Nat.reduceEqDiff, Nat.reduceLT, and_true, true_and, and_self, if_true, if_false, ne_eq, not_false_eq_true, not_true_eq_false, or_false, false_or, or_true, true_or, false_and, and_false, reduceIte, reduceCtorEq, xB, ite_not, xretf_zc, xretf_c, xcont_c, xbd, h0, h1, h2, h3, h4]
  simp (disch := omega) only [eX9_kindOfLetter, xRl, xG1, xG2, kAll, rAll, nAll, List.map_nil, List.map_cons, List.sum_nil, List.sum_cons, Nat.reduceAdd, Nat.reduceSub, Nat.reduceMul, Nat.reduceLeDiff, Nat.reduceEqDiff, Nat.reduceLT, and_true, true_and, and_self, if_true, if_false, ne_eq, not_false_eq_true, not_true_eq_false, or_false, false_or, or_true, true_or, false_and, and_false, reduceIte, reduceCtorEq, xB, ite_not, xretf_zc, xretf_c, xcont_c, xbd, h0, h1, h2, h3, h4, h5]
theorem fig_iff {c : Int32} {g : Nat} (hg : g < 10) : (nI 0 ≤ c - nI 48 ∧ c - nI 48 < nI (g + 1)) ↔ (nI 48 ≤ c ∧ c < nI (49 + g)) := by
  constructor
  · intro h
    obtain ⟨j, hj, e⟩ := (Am_iff (by omega)).mp h
    have e2 : c = nI (j + 48) := by
      rw [← nI_add, ← e]; simp
    rw [e2]
    exact ⟨nI_le (by omega) (by omega), (nI_ltI (by omega) (by omega)).mpr (by omega)⟩
  · intro h
    have h0 : nI 0 ≤ c := Int32.le_trans (by decide) h.1
    obtain ⟨j, hj, rfl⟩ := (Am_iff (x := c) (n := 49 + g) (by omega)).mp ⟨h0, h.2⟩
    have h1 := (nI_leI (by omega) (by omega)).mp h.1
    rw [pk_sub h1]
    exact ⟨nI_le (by omega) (by omega), (nI_ltI (by omega) (by omega)).mpr (by omega)⟩
theorem gr_lt (k : Nat) : gr k < 10 := by
  unfold gr
  repeat' split
  all_goals omega
theorem xgr_gr : ∀ k, k < 7 → xgr k = nI (gr (k + 1)) := by decide +kernel
theorem p7_fits {k : Nat} (hk : k < 8) (c : Int32) (σ : xS) : FX7_fits [.int (nI k), .int c] σ = some (some (.int (if fit k c = true then nI 1 else nI 0)), σ) := by
  rw [fX7_fits]
  unfold fit
  by_cases h0 : k = 0
  · subst h0
    have hle := kl_le c
    by_cases h6 : kl c = 6
    · have hm : (nI 0 ≤ (-1 : Int32)) = False := by decide
      simp (disch := omega) only [eX7_fits, xRl, xG1, xG2, kAll, rAll, nAll, List.map_nil, List.map_cons, List.sum_nil, List.sum_cons, Nat.reduceAdd, Nat.reduceSub, Nat.reduceMul, Nat.reduceLeDiff, Nat.reduceEqDiff, Nat.reduceLT, and_true, true_and, and_self, if_true, if_false, ne_eq, not_false_eq_true, not_true_eq_false, or_false, false_or, or_true, true_or, false_and, and_false, reduceIte, reduceCtorEq, xB, ite_not, xretf_zc, xretf_c, xcont_c, xbd, p1_ofLetter, h6, hm]
      simp
      exact fun h => absurd h (by decide)
    · have h7 : kl c < 6 := by omega
      simp (disch := omega) only [eX7_fits, xRl, xG1, xG2, kAll, rAll, nAll, List.map_nil, List.map_cons, List.sum_nil, List.sum_cons, Nat.reduceAdd, Nat.reduceSub, Nat.reduceMul, Nat.reduceLeDiff, Nat.reduceEqDiff, Nat.reduceLT, and_true, true_and, and_self, if_true, if_false, ne_eq, not_false_eq_true, not_true_eq_false, or_false, false_or, or_true, true_or, false_and, and_false, reduceIte, reduceCtorEq, xB, ite_not, xretf_zc, xretf_c, xcont_c, xbd, p1_ofLetter, h6, nI_ltI, Nat.not_lt_zero]
      simp [h7]
  · have hg := xgr_gr (k - 1) (by omega)
    have hk1 : k - 1 + 1 = k := by omega
    rw [hk1] at hg
    have hgl := gr_lt k
    have hf := fig_iff (c := c) hgl
    simp (disch := omega) only [eX7_fits, xRl, xG1, xG2, kAll, rAll, nAll, List.map_nil, List.map_cons, List.sum_nil, List.sum_cons, Nat.reduceAdd, Nat.reduceSub, Nat.reduceMul, Nat.reduceLeDiff, Nat.reduceEqDiff, Nat.reduceLT, and_true, true_and, and_self, if_true, if_false, ne_eq, not_false_eq_true, not_true_eq_false, or_false, false_or, or_true, true_or, false_and, and_false, reduceIte, reduceCtorEq, xB, ite_not, xretf_zc, xretf_c, xcont_c, xbd, p8_among, pk_sub, nI_eq, h0, nI_neg0, cl_nI, hg, nI_add, hf, decide_eq_true_eq]
