/-! the reference's reading -/
def PQ (I I1 : Nat → Nat → Int32) : Prop := (∀ a, a ≠ 77 → a ≠ 84 → I1 a = I a) ∧ ∀ q, q ≠ 10 → q ≠ 11 → q ≠ 12 → q ≠ 14 → I1 77 q = I 77 q
def PS (I I1 : Nat → Nat → Int32) (t m i c : Nat) : Prop := PQ I I1 ∧ I1 77 10 = nI (80 * t) ∧ I1 77 11 = nI i ∧ I1 77 12 = nI m ∧ I1 77 14 = nI c
theorem PS_11 {I I1 : Nat → Nat → Int32} {t m i c : Nat} (h : PS I I1 t m i c) (i2 : Nat) : PS I (xup I1 77 11 (nI i2)) t m i2 c := by
  obtain ⟨⟨h1, h2⟩, h3, h4, h5, h6⟩ := h
  refine ⟨⟨fun a ha hb => by rw [xup_ne _ _ _ ha, h1 a ha hb], fun q a1 a2 a3 a4 => by rw [xup_self, if_neg a2, h2 q a1 a2 a3 a4]⟩, ?_, ?_, ?_, ?_⟩
  · rw [xup_self, if_neg (by decide), h3]
  · rw [xup_self, if_pos rfl]
  · rw [xup_self, if_neg (by decide), h5]
  · rw [xup_self, if_neg (by decide), h6]
theorem PS_14 {I I1 : Nat → Nat → Int32} {t m i c : Nat} (h : PS I I1 t m i c) (c2 : Nat) : PS I (xup I1 77 14 (nI c2)) t m i c2 := by
  obtain ⟨⟨h1, h2⟩, h3, h4, h5, h6⟩ := h
  refine ⟨⟨fun a ha hb => by rw [xup_ne _ _ _ ha, h1 a ha hb], fun q a1 a2 a3 a4 => by rw [xup_self, if_neg a4, h2 q a1 a2 a3 a4]⟩, ?_, ?_, ?_, ?_⟩
  · rw [xup_self, if_neg (by decide), h3]
  · rw [xup_self, if_neg (by decide), h4]
  · rw [xup_self, if_neg (by decide), h5]
  · rw [xup_self, if_pos rfl]
theorem PS_84 {I I1 : Nat → Nat → Int32} {t m i c : Nat} (h : PS I I1 t m i c) (q : Nat) (x : Int32) : PS I (xup I1 84 q x) t m i c := by
  obtain ⟨⟨h1, h2⟩, h3, h4, h5, h6⟩ := h
  refine ⟨⟨fun a ha hb => by rw [xup_ne _ _ _ hb, h1 a ha hb], fun q a1 a2 a3 a4 => by rw [xup_ne _ _ _ (by decide), h2 q a1 a2 a3 a4]⟩, ?_, ?_, ?_, ?_⟩
  · rw [xup_ne _ _ _ (by decide), h3]
  · rw [xup_ne _ _ _ (by decide), h4]
  · rw [xup_ne _ _ _ (by decide), h5]
  · rw [xup_ne _ _ _ (by decide), h6]
theorem fstv_s {α : Type} (f : Nat → Bool) (v : Nat → α) (z : α) (a d : Nat) : fstv f v z a (d + 1) = if f a = true then v a else fstv f v z (a + 1) d := rfl
theorem fi_s (f : Nat → Int32) (m i : Nat) : fi f m i = if bad f m i 0 = true then some i else fstv (bad f m i) (fun k => some (i + k)) none 1 7 := by
  unfold fi
  rw [fstv_s (d := 7)]
  simp only [Nat.add_zero, Nat.zero_add]
def vl (w : Nat) (x : Int32) : Int32 := if w = 0 then nI (kl x) else x - nI 48
section PU
variable (L : Nat) (J : Nat → Nat → Int64) (I : Nat → Nat → Int32) {f : Nat → Int32} {t m : Nat} (ht : t < 4) (hm : m ≤ 80) (hf : ∀ i, i < 80 → I 82 (80 * t + i) = f i)
theorem p9_here (ht : t < 4) (hm : m ≤ 80) (hf : ∀ i, i < 80 → I 82 (80 * t + i) = f i) {I1 : Nat → Nat → Int32} {i c : Nat} (h : PS I I1 t m i c) (hi : i < m) : FX9_here [.ref 77] (S0 L I1 J) = some (some (.int (f i)), S0 L I1 J) := by
  have e1 : I1 82 (80 * t + i) = f i := by rw [h.1.1 82 (by decide) (by decide)]; exact hf i (by omega)
  rw [fX9_here]
  simp (disch := omega) only [eX9_here, xRl, xG1, xG2, kAll, rAll, nAll, List.map_nil, List.map_cons, List.sum_nil, List.sum_cons, Nat.reduceAdd, Nat.reduceSub, Nat.reduceMul, Nat.reduceLeDiff, Nat.reduceEqDiff, Nat.reduceLT, and_true, true_and, and_self, if_true, if_false, ne_eq, not_false_eq_true, not_true_eq_false, or_false, false_or, or_true, true_or, false_and, and_false, reduceIte, reduceCtorEq, xB, ite_not, xretf_zc, xretf_c, xcont_c, xbd, h.2.1, h.2.2.1, nI_add, nI_neg0, cl_nI, e1]
theorem p9_skip (ht : t < 4) (hm : m ≤ 80) (hf : ∀ i, i < 80 → I 82 (80 * t + i) = f i) : ∀ (e i c : Nat) (I1 : Nat → Nat → Int32), PS I I1 t m i c → m < i + e → i ≤ m → ∃ I2 i2 e2, FX9_skip [.ref 77] (S0 L I1 J) = some (none, S0 L I2 J) ∧ PS I I2 t m i2 c ∧ I2 84 = I1 84 ∧ i2 ≤ m ∧ m < i2 + e2 ∧ e2 ≤ e ∧ pf f m e i c = pf f m e2 i2 c ∧ ps f m e i = ps f m e2 i2 ∧ (i2 = m ∨ ¬ f i2 = nI 32) := by
  have key : ∀ (e i c : Nat) (I1 : Nat → Nat → Int32), PS I I1 t m i c → m < i + e → i ≤ m → ∃ I2 i2 e2, xretf none (xD tX9_skip (0, [.ref 77], [], 0, S0 L I1 J)) = some (none, S0 L I2 J) ∧ PS I I2 t m i2 c ∧ I2 84 = I1 84 ∧ i2 ≤ m ∧ m < i2 + e2 ∧ e2 ≤ e ∧ pf f m e i c = pf f m e2 i2 c ∧ ps f m e i = ps f m e2 i2 ∧ (i2 = m ∨ ¬ f i2 = nI 32) := by
    intro e
    induction e with
    | zero => intro i c I1 _ h1 h2; omega
    | succ e ih =>
      intro i c I1 h h1 h2
      by_cases hmi : m ≤ i
      · have h3 : (m ≤ i) = True := eq_true hmi
        refine ⟨I1, i, e + 1, ?_, h, rfl, h2, h1, Nat.le_refl _, rfl, rfl, Or.inl (by omega)⟩
        rw [hX9_skip_0]
        simp (disch := omega) only [eX9_skip, xRl, xG1, xG2, kAll, rAll, nAll, List.map_nil, List.map_cons, List.sum_nil, List.sum_cons, Nat.reduceAdd, Nat.reduceSub, Nat.reduceMul, Nat.reduceLeDiff, Nat.reduceEqDiff, Nat.reduceLT, and_true, true_and, and_self, if_true, if_false, ne_eq, not_false_eq_true, not_true_eq_false, or_false, false_or, or_true, true_or, false_and, and_false, reduceIte, reduceCtorEq, xB, ite_not, xretf_zc, xretf_c, xcont_c, xbd, h.2.2.1, h.2.2.2.1, nI_leI, h3]
      · have hh := p9_here L J I ht hm hf h (by omega)
        by_cases hb : f i = nI 32
        · obtain ⟨I2, i2, e2, g1, g2, g3, g4, g5, g6, g7, g8, g9⟩ := ih (i + 1) c (xup I1 77 11 (nI (i + 1))) (PS_11 h (i + 1)) (by omega) (by omega)
          refine ⟨I2, i2, e2, ?_, g2, by rw [g3, xup_ne _ _ _ (by decide)], g4, g5, by omega, ?_, ?_, g9⟩
          · rw [← g1, hX9_skip_0]
            simp (disch := omega) only [eX9_skip, xRl, xG1, xG2, kAll, rAll, nAll, List.map_nil, List.map_cons, List.sum_nil, List.sum_cons, Nat.reduceAdd, Nat.reduceSub, Nat.reduceMul, Nat.reduceLeDiff, Nat.reduceEqDiff, Nat.reduceLT, and_true, true_and, and_self, if_true, if_false, ne_eq, not_false_eq_true, not_true_eq_false, or_false, false_or, or_true, true_or, false_and, and_false, reduceIte, reduceCtorEq, xB, ite_not, xretf_zc, xretf_c, xcont_c, xbd, h.2.2.1, h.2.2.2.1, nI_leI, hmi, hh, hb, nI_add]
          · rw [pf_s, if_neg hmi, if_pos hb, g7]
          · rw [ps_s, if_neg hmi, if_pos hb, g8]
        · refine ⟨I1, i, e + 1, ?_, h, rfl, h2, h1, Nat.le_refl _, rfl, rfl, Or.inr hb⟩
          rw [hX9_skip_0]
          simp (disch := omega) only [eX9_skip, xRl, xG1, xG2, kAll, rAll, nAll, List.map_nil, List.map_cons, List.sum_nil, List.sum_cons, Nat.reduceAdd, Nat.reduceSub, Nat.reduceMul, Nat.reduceLeDiff, Nat.reduceEqDiff, Nat.reduceLT, and_true, true_and, and_self, if_true, if_false, ne_eq, not_false_eq_true, not_true_eq_false, or_false, false_or, or_true, true_or, false_and, and_false, reduceIte, reduceCtorEq, xB, ite_not, xretf_zc, xretf_c, xcont_c, xbd, h.2.2.1, h.2.2.2.1, nI_leI, hmi, hh, hb]
  intro e i c I1 h h1 h2
  rw [fX9_skip]
  exact key e i c I1 h h1 h2
theorem l48 : (48 : Int64) = (nI 48).toInt64 := by decide
theorem p9_figure (ht : t < 4) (hm : m ≤ 80) (hf : ∀ i, i < 80 → I 82 (80 * t + i) = f i) {I1 : Nat → Nat → Int32} {i c g : Nat} (h : PS I I1 t m i c) (hi : i ≤ m) (hg : g < 10) : FX9_figure [.ref 77, .int (nI g)] (S0 L I1 J) = if m ≤ i ∨ ¬ (nI 48 ≤ f i ∧ f i < nI (49 + g)) then some (some (.int (-9)), S0 L I1 J) else some (some (.int (f i - nI 48)), S0 L (xup I1 77 11 (nI (i + 1))) J) := by
  rw [fX9_figure]
  by_cases hmi : m ≤ i
  · have h3 : (i = m) = True := eq_true (by omega)
    rw [if_pos (Or.inl hmi)]
    simp (disch := omega) only [eX9_figure, xRl, xG1, xG2, kAll, rAll, nAll, List.map_nil, List.map_cons, List.sum_nil, List.sum_cons, Nat.reduceAdd, Nat.reduceSub, Nat.reduceMul, Nat.reduceLeDiff, Nat.reduceEqDiff, Nat.reduceLT, and_true, true_and, and_self, if_true, if_false, ne_eq, not_false_eq_true, not_true_eq_false, or_false, false_or, or_true, true_or, false_and, and_false, reduceIte, reduceCtorEq, xB, ite_not, xretf_zc, xretf_c, xcont_c, xbd, h.2.2.1, h.2.2.2.1, nI_eq, h3]
  · have h3 : (i = m) = False := eq_false (by omega)
    have hh := p9_here L J I ht hm hf h (by omega)
    have e49 : 48 + g + 1 = 49 + g := by omega
    have hin : ∀ σ, FX9_in [.long (f i).toInt64, .long 48, .long (nI (48 + g)).toInt64] σ = some (some (.int (if nI 48 ≤ f i ∧ f i < nI (49 + g) then nI 1 else nI 0)), σ) := fun σ => by
      rw [l48, p9_inK _ _ _ (by omega), e49]
    by_cases hb : nI 48 ≤ f i ∧ f i < nI (49 + g)
    · rw [if_neg (by rintro (q | q); exact hmi q; exact q hb)]
      have e1 : xup I1 77 11 (nI (i + 1)) 82 (80 * t + i) = f i := by rw [xup_o _ _ _ _ (by decide), h.1.1 82 (by decide) (by decide)]; exact hf i (by omega)
      have e2 : xup I1 77 11 (nI (i + 1)) 77 10 = nI (80 * t) := by rw [xup_self, if_neg (by decide)]; exact h.2.1
      have e3 : xup I1 77 11 (nI (i + 1)) 77 11 = nI (i + 1) := by rw [xup_self, if_pos rfl]
      have e4 : 80 * t + (i + 1) - 1 = 80 * t + i := by omega
      simp (disch := omega) only [eX9_figure, xRl, xG1, xG2, kAll, rAll, nAll, List.map_nil, List.map_cons, List.sum_nil, List.sum_cons, Nat.reduceAdd, Nat.reduceSub, Nat.reduceMul, Nat.reduceLeDiff, Nat.reduceEqDiff, Nat.reduceLT, and_true, true_and, and_self, if_true, if_false, ne_eq, not_false_eq_true, not_true_eq_false, or_false, false_or, or_true, true_or, false_and, and_false, reduceIte, reduceCtorEq, xB, ite_not, xretf_zc, xretf_c, xcont_c, xbd, h.2.2.1, h.2.2.2.1, nI_eq, h3, hh, nI_add, hin, hb, e2, e3, pk_sub, e4, nI_neg0, cl_nI, e1]
    · rw [if_pos (Or.inr hb)]
      simp (disch := omega) only [eX9_figure, xRl, xG1, xG2, kAll, rAll, nAll, List.map_nil, List.map_cons, List.sum_nil, List.sum_cons, Nat.reduceAdd, Nat.reduceSub, Nat.reduceMul, Nat.reduceLeDiff, Nat.reduceEqDiff, Nat.reduceLT, and_true, true_and, and_self, if_true, if_false, ne_eq, not_false_eq_true, not_true_eq_false, or_false, false_or, or_true, true_or, false_and, and_false, reduceIte, reduceCtorEq, xB, ite_not, xretf_zc, xretf_c, xcont_c, xbd, h.2.2.1, h.2.2.2.1, nI_eq, h3, hh, nI_add, hin, hb]
theorem rn_call {I3 : Nat → Nat → Int32} {w : Value} {k y0 : Nat} (hw : okV w) (hk : k < 8) : ∀ y σ2, FX9_figure [.ref 77, .int (nI (gr k))] (S0 L I3 J) = some (some (.int y), σ2) → xD tX9_readsName (50, [.ref 77, .int (nI y0), .int (nI k), w], [], 0, S0 L I3 J) = xD tX9_readsName (90, [.ref 77, .int (nI y0), .int (nI k), w], [.int y], 0, σ2) := by
  have hnle : ¬ 8 ≤ k := by omega
  intro y σ2 hy
  rw [hX9_readsName_50]
  unfold gr at hy
  rcases hw with rfl | ⟨z, rfl⟩
  all_goals
    by_cases g4 : k < 4
    · have g4' : (4 ≤ k) = False := eq_false (by omega)
      rw [if_pos g4] at hy
      simp (disch := omega) only [eX9_readsName, xRl, xG1, xG2, kAll, rAll, nAll, List.map_nil, List.map_cons, List.sum_nil, List.sum_cons, Nat.reduceAdd, Nat.reduceSub, Nat.reduceMul, Nat.reduceLeDiff, Nat.reduceEqDiff, Nat.reduceLT, and_true, true_and, and_self, if_true, if_false, ne_eq, not_false_eq_true, not_true_eq_false, or_false, false_or, or_true, true_or, false_and, and_false, reduceIte, reduceCtorEq, xB, ite_not, xretf_zc, xretf_c, xcont_c, xbd, nI_leI, hnle, g4', hy]
    · have g4' : (4 ≤ k) = True := eq_true (by omega)
      rw [if_neg g4] at hy
      by_cases g5 : k = 5
      · rw [if_pos g5] at hy
        simp (disch := omega) only [eX9_readsName, xRl, xG1, xG2, kAll, rAll, nAll, List.map_nil, List.map_cons, List.sum_nil, List.sum_cons, Nat.reduceAdd, Nat.reduceSub, Nat.reduceMul, Nat.reduceLeDiff, Nat.reduceEqDiff, Nat.reduceLT, and_true, true_and, and_self, if_true, if_false, ne_eq, not_false_eq_true, not_true_eq_false, or_false, false_or, or_true, true_or, false_and, and_false, reduceIte, reduceCtorEq, xB, ite_not, xretf_zc, xretf_c, xcont_c, xbd, nI_leI, hnle, g4', nI_eq, g5, hy]
      · rw [if_neg g5] at hy
        by_cases g7 : k = 7
        · rw [if_pos g7] at hy
          simp (disch := omega) only [eX9_readsName, xRl, xG1, xG2, kAll, rAll, nAll, List.map_nil, List.map_cons, List.sum_nil, List.sum_cons, Nat.reduceAdd, Nat.reduceSub, Nat.reduceMul, Nat.reduceLeDiff, Nat.reduceEqDiff, Nat.reduceLT, and_true, true_and, and_self, if_true, if_false, ne_eq, not_false_eq_true, not_true_eq_false, or_false, false_or, or_true, true_or, false_and, and_false, reduceIte, reduceCtorEq, xB, ite_not, xretf_zc, xretf_c, xcont_c, xbd, nI_leI, hnle, g4', nI_eq, g5, g7, hy]
        · rw [if_neg g7] at hy
          simp (disch := omega) only [eX9_readsName, xRl, xG1, xG2, kAll, rAll, nAll, List.map_nil, List.map_cons, List.sum_nil, List.sum_cons, Nat.reduceAdd, Nat.reduceSub, Nat.reduceMul, Nat.reduceLeDiff, Nat.reduceEqDiff, Nat.reduceLT, and_true, true_and, and_self, if_true, if_false, ne_eq, not_false_eq_true, not_true_eq_false, or_false, false_or, or_true, true_or, false_and, and_false, reduceIte, reduceCtorEq, xB, ite_not, xretf_zc, xretf_c, xcont_c, xbd, nI_leI, hnle, g4', nI_eq, g5, g7, hy]
theorem p9_readsName (ht : t < 4) (hm : m ≤ 80) (hf : ∀ i, i < 80 → I 82 (80 * t + i) = f i) {I1 : Nat → Nat → Int32} {i c : Nat} (h : PS I I1 t m i c) (hi : i < m) (hc : c ≤ 8) : ∃ I2, (c = 8 ∧ FX9_readsName [.ref 77] (S0 L I1 J) = some (some (.int (nI 0)), S0 L I2 J) ∧ PS I I2 t m i c) ∨ (c < 8 ∧ (∃ q, fi f m i = some q ∧ FX9_readsName [.ref 77] (S0 L I1 J) = some (some (.int (nI 0)), S0 L I2 J) ∧ PS I I2 t m q c)) ∨ (c < 8 ∧ fi f m i = none ∧ FX9_readsName [.ref 77] (S0 L I1 J) = some (some (.int (nI 1)), S0 L I2 J) ∧ PS I I2 t m (i + 8) (c + 1) ∧ (∀ q, q < 8 * c → I2 84 q = I1 84 q) ∧ ∀ w, w < 8 → I2 84 (8 * c + w) = vl w (f (i + w))) := by
  have hh := p9_here L J I ht hm hf h hi
  have hkl := kl_le (f i)
  by_cases hc8 : c = 8
  · refine ⟨I1, Or.inl ⟨hc8, ?_, h⟩⟩
    rw [fX9_readsName]
    by_cases h6 : kl (f i) = 6
    · simp (disch := omega) only [eX9_readsName, xRl, xG1, xG2, kAll, rAll, nAll, List.map_nil, List.map_cons, List.sum_nil, List.sum_cons, Nat.reduceAdd, Nat.reduceSub, Nat.reduceMul, Nat.reduceLeDiff, Nat.reduceEqDiff, Nat.reduceLT, and_true, true_and, and_self, if_true, if_false, ne_eq, not_false_eq_true, not_true_eq_false, or_false, false_or, or_true, true_or, false_and, and_false, reduceIte, reduceCtorEq, xB, ite_not, xretf_zc, xretf_c, xcont_c, xbd, hh, p9_kindOfLetter, h6]
    · simp (disch := omega) only [eX9_readsName, xRl, xG1, xG2, kAll, rAll, nAll, List.map_nil, List.map_cons, List.sum_nil, List.sum_cons, Nat.reduceAdd, Nat.reduceSub, Nat.reduceMul, Nat.reduceLeDiff, Nat.reduceEqDiff, Nat.reduceLT, and_true, true_and, and_self, if_true, if_false, ne_eq, not_false_eq_true, not_true_eq_false, or_false, false_or, or_true, true_or, false_and, and_false, reduceIte, reduceCtorEq, xB, ite_not, xretf_zc, xretf_c, xcont_c, xbd, hh, p9_kindOfLetter, h6, n9, h.2.2.2.2, hc8]
  · by_cases h6 : kl (f i) = 6
    · have hb : bad f m i 0 = true := by unfold bad fit; simp [h6]
      have hfi : fi f m i = some i := by
        rw [fi_s, if_pos hb]
      refine ⟨I1, Or.inr (Or.inl ⟨by omega, i, hfi, ?_, h⟩)⟩
      rw [fX9_readsName]
      simp (disch := omega) only [eX9_readsName, xRl, xG1, xG2, kAll, rAll, nAll, List.map_nil, List.map_cons, List.sum_nil, List.sum_cons, Nat.reduceAdd, Nat.reduceSub, Nat.reduceMul, Nat.reduceLeDiff, Nat.reduceEqDiff, Nat.reduceLT, and_true, true_and, and_self, if_true, if_false, ne_eq, not_false_eq_true, not_true_eq_false, or_false, false_or, or_true, true_or, false_and, and_false, reduceIte, reduceCtorEq, xB, ite_not, xretf_zc, xretf_c, xcont_c, xbd, hh, p9_kindOfLetter, h6]
    · have hb : bad f m i 0 = false := by
        have : kl (f i) < 6 := by omega
        unfold bad fit; simp [this]; omega
      have hfi : fi f m i = fstv (bad f m i) (fun k => some (i + k)) none 1 7 := by
        rw [fi_s, hb, if_neg (by decide)]
      have key : ∀ (d k : Nat) (I3 : Nat → Nat → Int32) (w : Value), k + d = 8 → 0 < k → i + k ≤ m → okV w → PS I I3 t m (i + k) c → (∀ w, w < k → I3 84 (8 * c + w) = vl w (f (i + w))) → ∃ I2, (∃ q, fstv (bad f m i) (fun k => some (i + k)) none k d = some q ∧ xretf (some .boolean) (xD tX9_readsName (50, [.ref 77, .int (nI (kl (f i))), .int (nI k), w], [], 0, S0 L I3 J)) = some (some (.int (nI 0)), S0 L I2 J) ∧ PS I I2 t m q c) ∨ (fstv (bad f m i) (fun k => some (i + k)) none k d = none ∧ xretf (some .boolean) (xD tX9_readsName (50, [.ref 77, .int (nI (kl (f i))), .int (nI k), w], [], 0, S0 L I3 J)) = some (some (.int (nI 1)), S0 L I2 J) ∧ PS I I2 t m (i + 8) (c + 1) ∧ (∀ q, q < 8 * c → I2 84 q = I3 84 q) ∧ ∀ w, w < 8 → I2 84 (8 * c + w) = vl w (f (i + w))) := by
        intro d
        induction d with
        | zero =>
          intro k I3 w hk hk0 hik hw h3 hv
          have hk8 : k = 8 := by omega
          subst hk8
          refine ⟨xup I3 77 14 (nI (c + 1)), Or.inr ⟨rfl, ?_, PS_14 h3 (c + 1), fun q hq => by rw [xup_o _ _ _ _ (by decide)], fun w hw => by rw [xup_o _ _ _ _ (by decide)]; exact hv w hw⟩⟩
          rw [hX9_readsName_50]
          rcases hw with rfl | ⟨z, rfl⟩
          all_goals
            simp (disch := omega) only [eX9_readsName, xRl, xG1, xG2, kAll, rAll, nAll, List.map_nil, List.map_cons, List.sum_nil, List.sum_cons, Nat.reduceAdd, Nat.reduceSub, Nat.reduceMul, Nat.reduceLeDiff, Nat.reduceEqDiff, Nat.reduceLT, and_true, true_and, and_self, if_true, if_false, ne_eq, not_false_eq_true, not_true_eq_false, or_false, false_or, or_true, true_or, false_and, and_false, reduceIte, reduceCtorEq, xB, ite_not, xretf_zc, xretf_c, xcont_c, xbd, nI_leI, h3.2.2.2.2, nI_add]
        | succ d ih =>
          intro k I3 w hk hk0 hik hw h3 hv
          have hk1 : k < 8 := by omega
          have hfg := p9_figure L J I ht hm hf h3 hik (gr_lt k)
          have e1 : fstv (bad f m i) (fun k => some (i + k)) none k (d + 1) = if bad f m i k = true then some (i + k) else fstv (bad f m i) (fun k => some (i + k)) none (k + 1) d := rfl
          have hbk : bad f m i k = true ↔ (m ≤ i + k ∨ ¬ (nI 48 ≤ f (i + k) ∧ f (i + k) < nI (49 + gr k))) := by
            unfold bad fit
            rw [if_neg (by omega), Bool.or_eq_true, Bool.not_eq_true', decide_eq_false_iff_not, decide_eq_true_eq]
          have call := rn_call L J (y0 := kl (f i)) hw hk1 (I3 := I3)
          by_cases hb : bad f m i k = true
          · rw [if_pos (hbk.mp hb)] at hfg
            refine ⟨I3, Or.inl ⟨i + k, by rw [e1, if_pos hb], ?_, h3⟩⟩
            rw [call _ _ hfg]
            rcases hw with rfl | ⟨z, rfl⟩
            all_goals
              simp (disch := omega) only [eX9_readsName, xRl, xG1, xG2, kAll, rAll, nAll, List.map_nil, List.map_cons, List.sum_nil, List.sum_cons, Nat.reduceAdd, Nat.reduceSub, Nat.reduceMul, Nat.reduceLeDiff, Nat.reduceEqDiff, Nat.reduceLT, and_true, true_and, and_self, if_true, if_false, ne_eq, not_false_eq_true, not_true_eq_false, or_false, false_or, or_true, true_or, false_and, and_false, reduceIte, reduceCtorEq, xB, ite_not, xretf_zc, xretf_c, xcont_c, xbd]
          · have hb2 := fun q => hb (hbk.mpr q)
            rw [if_neg hb2] at hfg
            have hfk : nI 48 ≤ f (i + k) ∧ f (i + k) < nI (49 + gr k) := Classical.byContradiction (fun q => hb2 (Or.inr q))
            have hne : ¬ f (i + k) - nI 48 = -9 := fun q => by
              have := ((fig_iff (gr_lt k)).mpr hfk).1
              rw [q] at this
              exact absurd this (by decide)
            have hlm : i + k < m := Nat.lt_of_not_le (fun q => hb2 (Or.inl q))
            have hP : PS I (xup (xup I3 77 11 (nI (i + k + 1))) 84 (8 * c + k) (f (i + k) - nI 48)) t m (i + (k + 1)) c := PS_84 (PS_11 h3 (i + k + 1)) _ _
            obtain ⟨I2, hI2⟩ := ih (k + 1) (xup (xup I3 77 11 (nI (i + k + 1))) 84 (8 * c + k) (f (i + k) - nI 48)) (.int (f (i + k) - nI 48)) (by omega) (by omega) (by omega) (Or.inr ⟨_, rfl⟩) hP (fun w hw => by
              by_cases hwk : w = k
              · subst hwk
                rw [xup_self, if_pos rfl]
                unfold vl
                rw [if_neg (by omega)]
              · rw [xup_self, if_neg (by omega), xup_o _ _ _ _ (by decide)]
                exact hv w (by omega))
            have e14 : xup I3 77 11 (nI (i + k + 1)) 77 14 = nI c := by rw [xup_self, if_neg (by decide)]; exact h3.2.2.2.2
            have run : xD tX9_readsName (50, [.ref 77, .int (nI (kl (f i))), .int (nI k), w], [], 0, S0 L I3 J) = xD tX9_readsName (50, [.ref 77, .int (nI (kl (f i))), .int (nI (k + 1)), .int (f (i + k) - nI 48)], [], 0, S0 L (xup (xup I3 77 11 (nI (i + k + 1))) 84 (8 * c + k) (f (i + k) - nI 48)) J) := by
              rw [call _ _ hfg]
              rcases hw with rfl | ⟨z, rfl⟩
              all_goals
                simp (disch := omega) only [eX9_readsName, xRl, xG1, xG2, kAll, rAll, nAll, List.map_nil, List.map_cons, List.sum_nil, List.sum_cons, Nat.reduceAdd, Nat.reduceSub, Nat.reduceMul, Nat.reduceLeDiff, Nat.reduceEqDiff, Nat.reduceLT, and_true, true_and, and_self, if_true, if_false, ne_eq, not_false_eq_true, not_true_eq_false, or_false, false_or, or_true, true_or, false_and, and_false, reduceIte, reduceCtorEq, xB, ite_not, xretf_zc, xretf_c, xcont_c, xbd, hne, e14, pk_mul, nI_add, nI_neg0, cl_nI]
            refine ⟨I2, ?_⟩
            rw [e1, if_neg hb, run]
            rcases hI2 with hq | ⟨a1, a2, a3, a4, a5⟩
            · exact Or.inl hq
            · exact Or.inr ⟨a1, a2, a3, fun q hq => by rw [a4 q hq, xup_self, if_neg (by omega), xup_o _ _ _ _ (by decide)], a5⟩
      have hP : PS I (xup (xup I1 77 11 (nI (i + 1))) 84 (8 * c) (nI (kl (f i)))) t m (i + 1) c := PS_84 (PS_11 h (i + 1)) _ _
      obtain ⟨I2, hI2⟩ := key 7 1 _ .null (by omega) (by omega) (by omega) (Or.inl rfl) hP (fun w hw => by
        have hw0 : w = 0 := by omega
        subst hw0
        rw [xup_self, if_pos (Nat.add_zero _)]
        rfl)
      have e14 : xup I1 77 11 (nI (i + 1)) 77 14 = nI c := by rw [xup_self, if_neg (by decide)]; exact h.2.2.2.2
      have run : FX9_readsName [.ref 77] (S0 L I1 J) = xretf (some .boolean) (xD tX9_readsName (50, [.ref 77, .int (nI (kl (f i))), .int (nI 1), .null], [], 0, S0 L (xup (xup I1 77 11 (nI (i + 1))) 84 (8 * c) (nI (kl (f i)))) J)) := by
        rw [fX9_readsName]
        simp (disch := omega) only [eX9_readsName, xRl, xG1, xG2, kAll, rAll, nAll, List.map_nil, List.map_cons, List.sum_nil, List.sum_cons, Nat.reduceAdd, Nat.reduceSub, Nat.reduceMul, Nat.reduceLeDiff, Nat.reduceEqDiff, Nat.reduceLT, and_true, true_and, and_self, if_true, if_false, ne_eq, not_false_eq_true, not_true_eq_false, or_false, false_or, or_true, true_or, false_and, and_false, reduceIte, reduceCtorEq, xB, ite_not, xretf_zc, xretf_c, xcont_c, xbd, hh, p9_kindOfLetter, h6, n9, h.2.2.2.2, h.2.2.1, nI_eq, hc8, nI_add, e14, pk_mul, nI_neg0, cl_nI]
      refine ⟨I2, Or.inr ?_⟩
      rw [run, hfi]
      rcases hI2 with hq | ⟨a1, a2, a3, a4, a5⟩
      · exact Or.inl ⟨by omega, hq⟩
      · exact Or.inr ⟨by omega, a1, a2, a3, fun q hq => by rw [a4 q hq, xup_self, if_neg (by omega), xup_o _ _ _ _ (by decide)], a5⟩
theorem p9_faultOf (ht : t < 4) (hm : m ≤ 80) (hf : ∀ i, i < 80 → I 82 (80 * t + i) = f i) (hz : I 81 t = nI m) : ∃ I2, FX9_faultOf [.ref 77, .int (nI t)] (S0 L I J) = some (some (.int (oI (pf f m (m + 1) 0 0))), S0 L I2 J) ∧ PQ I I2 ∧ (pf f m (m + 1) 0 0 = none → I2 77 14 = nI (ps f m (m + 1) 0).length ∧ ∀ k (hk : k < (ps f m (m + 1) 0).length) w, w < 8 → I2 84 (8 * k + w) = vl w (f ((ps f m (m + 1) 0)[k] + w))) := by
  have key : ∀ (N e i c : Nat) (I1 : Nat → Nat → Int32), e ≤ N → PS I I1 t m i c → m < i + e → i ≤ m → c ≤ 8 → (i = m ∨ ¬ f i = nI 32) → ∃ I2, xretf (some .int) (xD tX9_faultOf (34, [.ref 77, .int (nI t), .int (nI 1)], [], 0, S0 L I1 J)) = some (some (.int (oI (pf f m e i c))), S0 L I2 J) ∧ PQ I I2 ∧ (pf f m e i c = none → I2 77 14 = nI (c + (ps f m e i).length) ∧ (∀ q, q < 8 * c → I2 84 q = I1 84 q) ∧ ∀ k (hk : k < (ps f m e i).length) w, w < 8 → I2 84 (8 * (c + k) + w) = vl w (f ((ps f m e i)[k] + w))) := by
    intro N
    induction N with
    | zero => intro e i c I1 h1 _ h2 h3; omega
    | succ N ih =>
      intro e i c I1 hN h h1 h2 hc hne
      obtain ⟨e, rfl⟩ : ∃ e', e = e' + 1 := ⟨e - 1, by omega⟩
      by_cases hmi : m ≤ i
      · have h3 : (m ≤ i) = True := eq_true hmi
        have hpf : pf f m (e + 1) i c = if c = 0 then some m else none := by rw [pf_s, if_pos hmi]
        have hps : ps f m (e + 1) i = [] := by rw [ps_s, if_pos hmi]
        have him : i = m := by omega
        refine ⟨I1, ?_, h.1, fun _ => ⟨by rw [hps]; exact h.2.2.2.2, fun _ _ => rfl, fun k hk => absurd hk (by rw [hps]; simp)⟩⟩
        rw [hpf, hX9_faultOf_34]
        by_cases hc0 : c = 0
        · have h0 : (c ≤ 0) = True := eq_true (by omega)
          rw [if_pos hc0]
          simp (disch := omega) only [eX9_faultOf, xRl, xG1, xG2, kAll, rAll, nAll, List.map_nil, List.map_cons, List.sum_nil, List.sum_cons, Nat.reduceAdd, Nat.reduceSub, Nat.reduceMul, Nat.reduceLeDiff, Nat.reduceEqDiff, Nat.reduceLT, and_true, true_and, and_self, if_true, if_false, ne_eq, not_false_eq_true, not_true_eq_false, or_false, false_or, or_true, true_or, false_and, and_false, reduceIte, reduceCtorEq, xB, ite_not, xretf_zc, xretf_c, xcont_c, xbd, h.2.2.1, h.2.2.2.1, h.2.2.2.2, nI_leI, h3, h0]
          rw [him]; rfl
        · have h0 : (c ≤ 0) = False := eq_false (by omega)
          rw [if_neg hc0]
          simp (disch := omega) only [eX9_faultOf, xRl, xG1, xG2, kAll, rAll, nAll, List.map_nil, List.map_cons, List.sum_nil, List.sum_cons, Nat.reduceAdd, Nat.reduceSub, Nat.reduceMul, Nat.reduceLeDiff, Nat.reduceEqDiff, Nat.reduceLT, and_true, true_and, and_self, if_true, if_false, ne_eq, not_false_eq_true, not_true_eq_false, or_false, false_or, or_true, true_or, false_and, and_false, reduceIte, reduceCtorEq, xB, ite_not, xretf_zc, xretf_c, xcont_c, xbd, h.2.2.1, h.2.2.2.1, h.2.2.2.2, nI_leI, h3, h0]
          rfl
      · have hb : ¬ f i = nI 32 := by
          rcases hne with q | q
          · omega
          · exact q
        obtain ⟨I2, hI2⟩ := p9_readsName L J I ht hm hf h (by omega) hc
        rcases hI2 with ⟨r1, r2, r3⟩ | ⟨r1, q, r2, r3, r4⟩ | ⟨r1, r2, r3, r4, r5, r6⟩
        · have hpf : pf f m (e + 1) i c = some i := by rw [pf_s, if_neg hmi, if_neg hb, if_pos r1]
          refine ⟨I2, ?_, r3.1, fun q => by rw [hpf] at q; cases q⟩
          rw [hpf, hX9_faultOf_34]
          simp (disch := omega) only [eX9_faultOf, xRl, xG1, xG2, kAll, rAll, nAll, List.map_nil, List.map_cons, List.sum_nil, List.sum_cons, Nat.reduceAdd, Nat.reduceSub, Nat.reduceMul, Nat.reduceLeDiff, Nat.reduceEqDiff, Nat.reduceLT, and_true, true_and, and_self, if_true, if_false, ne_eq, not_false_eq_true, not_true_eq_false, or_false, false_or, or_true, true_or, false_and, and_false, reduceIte, reduceCtorEq, xB, ite_not, xretf_zc, xretf_c, xcont_c, xbd, h.2.2.1, h.2.2.2.1, nI_leI, hmi, r2]
          rw [hX9_faultOf_34]
          simp (disch := omega) only [eX9_faultOf, xRl, xG1, xG2, kAll, rAll, nAll, List.map_nil, List.map_cons, List.sum_nil, List.sum_cons, Nat.reduceAdd, Nat.reduceSub, Nat.reduceMul, Nat.reduceLeDiff, Nat.reduceEqDiff, Nat.reduceLT, and_true, true_and, and_self, if_true, if_false, ne_eq, not_false_eq_true, not_true_eq_false, or_false, false_or, or_true, true_or, false_and, and_false, reduceIte, reduceCtorEq, xB, ite_not, xretf_zc, xretf_c, xcont_c, xbd, r3.2.2.1]
          rfl
        · have hpf : pf f m (e + 1) i c = some q := by rw [pf_s, if_neg hmi, if_neg hb, if_neg (by omega), r2]
          refine ⟨I2, ?_, r4.1, fun q => by rw [hpf] at q; cases q⟩
          rw [hpf, hX9_faultOf_34]
          simp (disch := omega) only [eX9_faultOf, xRl, xG1, xG2, kAll, rAll, nAll, List.map_nil, List.map_cons, List.sum_nil, List.sum_cons, Nat.reduceAdd, Nat.reduceSub, Nat.reduceMul, Nat.reduceLeDiff, Nat.reduceEqDiff, Nat.reduceLT, and_true, true_and, and_self, if_true, if_false, ne_eq, not_false_eq_true, not_true_eq_false, or_false, false_or, or_true, true_or, false_and, and_false, reduceIte, reduceCtorEq, xB, ite_not, xretf_zc, xretf_c, xcont_c, xbd, h.2.2.1, h.2.2.2.1, nI_leI, hmi, r3]
          rw [hX9_faultOf_34]
          simp (disch := omega) only [eX9_faultOf, xRl, xG1, xG2, kAll, rAll, nAll, List.map_nil, List.map_cons, List.sum_nil, List.sum_cons, Nat.reduceAdd, Nat.reduceSub, Nat.reduceMul, Nat.reduceLeDiff, Nat.reduceEqDiff, Nat.reduceLT, and_true, true_and, and_self, if_true, if_false, ne_eq, not_false_eq_true, not_true_eq_false, or_false, false_or, or_true, true_or, false_and, and_false, reduceIte, reduceCtorEq, xB, ite_not, xretf_zc, xretf_c, xcont_c, xbd, r4.2.2.1]
          rfl
        · have hpf : pf f m (e + 1) i c = pf f m e (i + 8) (c + 1) := by rw [pf_s, if_neg hmi, if_neg hb, if_neg (by omega), r2]
          have hps : ps f m (e + 1) i = i :: ps f m e (i + 8) := by rw [ps_s, if_neg hmi, if_neg hb]
          have hi8 := (fi_none r2).1
          obtain ⟨I3, i3, e3, s1, s2, s3, s4, s5, s6, s7, s8, s9⟩ := p9_skip L J I ht hm hf e (i + 8) (c + 1) I2 r4 (by omega) (by omega)
          obtain ⟨I4, u1, u2, u3⟩ := ih e3 i3 (c + 1) I3 (by omega) s2 s5 s4 (by omega) s9
          refine ⟨I4, ?_, u2, fun hp => ?_⟩
          · rw [hpf, s7, ← u1, hX9_faultOf_34]
            simp (disch := omega) only [eX9_faultOf, xRl, xG1, xG2, kAll, rAll, nAll, List.map_nil, List.map_cons, List.sum_nil, List.sum_cons, Nat.reduceAdd, Nat.reduceSub, Nat.reduceMul, Nat.reduceLeDiff, Nat.reduceEqDiff, Nat.reduceLT, and_true, true_and, and_self, if_true, if_false, ne_eq, not_false_eq_true, not_true_eq_false, or_false, false_or, or_true, true_or, false_and, and_false, reduceIte, reduceCtorEq, xB, ite_not, xretf_zc, xretf_c, xcont_c, xbd, h.2.2.1, h.2.2.2.1, nI_leI, hmi, r3, s1]
          · rw [hpf, s7] at hp
            obtain ⟨v1, v2, v3⟩ := u3 hp
            simp only [hps, s8]
            refine ⟨by rw [v1]; simp only [List.length_cons]; congr 1; omega, fun q hq => by rw [v2 q (by omega), s3, r5 q hq], fun k hk w hw => ?_⟩
            cases k with
            | zero =>
              rw [v2 _ (by omega), s3]
              exact r6 w hw
            | succ k =>
              simp only [List.length_cons] at hk
              have := v3 k (by omega) w hw
              rw [show c + (k + 1) = c + 1 + k by omega]
              exact this
  generalize hI0 : xup (xup (xup (xup I 77 10 (nI (80 * t))) 77 11 (nI 0)) 77 12 (nI m)) 77 14 (nI 0) = I0
  have hP0 : PS I I0 t m 0 0 := by
    rw [← hI0]
    refine ⟨⟨fun a h1 h2 => by rw [xup_ne _ _ _ h1, xup_ne _ _ _ h1, xup_ne _ _ _ h1, xup_ne _ _ _ h1], fun q h1 h2 h3 h4 => by simp only [xup_self, h1, h2, h3, h4, if_false]⟩, ?_, ?_, ?_, ?_⟩
    all_goals simp [xup_self]
  obtain ⟨I3, i3, e3, s1, s2, s3, s4, s5, s6, s7, s8, s9⟩ := p9_skip L J I ht hm hf (m + 1) 0 0 I0 hP0 (by omega) (by omega)
  obtain ⟨I4, u1, u2, u3⟩ := key e3 e3 i3 0 I3 (Nat.le_refl _) s2 s5 s4 (by omega) s9
  refine ⟨I4, ?_, u2, fun hp => ?_⟩
  · have z1 : xup (xup I 77 10 (nI (80 * t))) 77 11 (nI 0) 81 t = nI m := by rw [xup_o _ _ _ _ (by decide), xup_o _ _ _ _ (by decide)]; exact hz
    rw [s7, ← u1, fX9_faultOf]
    simp (disch := omega) only [eX9_faultOf, xRl, xG1, xG2, kAll, rAll, nAll, List.map_nil, List.map_cons, List.sum_nil, List.sum_cons, Nat.reduceAdd, Nat.reduceSub, Nat.reduceMul, Nat.reduceLeDiff, Nat.reduceEqDiff, Nat.reduceLT, and_true, true_and, and_self, if_true, if_false, ne_eq, not_false_eq_true, not_true_eq_false, or_false, false_or, or_true, true_or, false_and, and_false, reduceIte, reduceCtorEq, xB, ite_not, xretf_zc, xretf_c, xcont_c, xbd, pk_mul, nI_neg0, cl_nI, z1, hI0, s1]
  · rw [s7] at hp
    obtain ⟨v1, v2, v3⟩ := u3 hp
    simp only [s8]
    refine ⟨by rw [v1, Nat.zero_add], fun k hk w hw => ?_⟩
    have := v3 k hk w hw
    rw [Nat.zero_add] at this
    exact this
end PU
