/-! was -/
def wasC (s y b : Nat) : Bool := decide (36 * (b / 36 - y) + 6 * (b / 6 % 6) + b % 6 = s)
def wasM (s y a : Nat) : Bool := decide (a - y = s / 36)
theorem was_b {s y a r : Nat} (hr : r < 36) : wasC s y (36 * a + r) = (wasM s y a && decide (r = s % 36)) := by
  unfold wasC wasM
  rw [← Bool.decide_and]
  refine decide_eq_decide.mpr ?_
  have e1 : (36 * a + r) / 36 = a := by omega
  have e2 : 6 * ((36 * a + r) / 6 % 6) + (36 * a + r) % 6 = r := by omega
  rw [Nat.add_assoc, e2, e1]
  omega
theorem cnt_1 {f : Nat → Bool} {a d c : Nat} (h1 : a ≤ c) (h2 : c < a + d) (h : ∀ i, a ≤ i → i < a + d → f i = decide (i = c)) : cnt f a d = 1 := by
  have e : d = (c - a) + (1 + (a + d - c - 1)) := by omega
  rw [e, cnt_app, cnt_app, cnt0.mpr (fun i g1 g2 => by rw [h i g1 (by omega)]; simp; omega), (cnt0 (f := f) (a := a + (c - a) + 1)).mpr (fun i g1 g2 => by rw [h i (by omega) (by omega)]; simp; omega)]
  show 0 + ((if f (a + (c - a)) = true then 1 else 0) + 0 + 0) = 1
  rw [h _ (by omega) (by omega), show a + (c - a) = c by omega]
  simp
theorem fstv_1 {α : Type} {f : Nat → Bool} {v : Nat → α} {z : α} {a d c : Nat} (h1 : a ≤ c) (h2 : c < a + d) (h : ∀ i, a ≤ i → i < a + d → f i = decide (i = c)) : fstv f v z a d = v c := by
  rcases fstv_cases f d a with ⟨q1, -⟩ | ⟨k, q1, q2, q3, -, q5⟩
  · have := q1 c h1 h2
    rw [h c h1 h2] at this
    simp at this
  · rw [h k q1 q2] at q3
    rw [q5, of_decide_eq_true q3]
theorem fstv_app {α : Type} (f : Nat → Bool) (v : Nat → α) (z : α) : ∀ (x a y : Nat), fstv f v z a (x + y) = fstv f v (fstv f v z (a + x) y) a x
  | 0, a, y => by rw [Nat.zero_add]; rfl
  | x + 1, a, y => by
    have ih := fstv_app f v z x (a + 1) y
    rw [show x + 1 + y = (x + y) + 1 by omega]
    show (if f a = true then v a else fstv f v z (a + 1) (x + y)) = if f a = true then v a else fstv f v _ (a + 1) x
    rw [ih, show a + 1 + x = a + (x + 1) by omega]
theorem fstv_no {α : Type} {f : Nat → Bool} {v : Nat → α} {z : α} {a d : Nat} (h : ∀ i, a ≤ i → i < a + d → f i = false) : fstv f v z a d = z := by
  rcases fstv_cases f d a with ⟨-, q2⟩ | ⟨k, q1, q2, q3, -, -⟩
  · exact q2 v z
  · rw [h k q1 q2] at q3; exact absurd q3 (by decide)
theorem was_blk {s y a : Nat} : (cnt (wasC s y) (36 * a) 36 = if wasM s y a = true then 1 else 0) ∧ ∀ (z : Int32), fstv (wasC s y) nI z (36 * a) 36 = if wasM s y a = true then nI (36 * a + s % 36) else z := by
  have hb : ∀ i, 36 * a ≤ i → i < 36 * a + 36 → wasC s y i = (wasM s y a && decide (i - 36 * a = s % 36)) := by
    intro i h1 h2
    have := was_b (s := s) (y := y) (a := a) (r := i - 36 * a) (by omega)
    rwa [show 36 * a + (i - 36 * a) = i by omega] at this
  by_cases hm : wasM s y a = true
  · have hb2 : ∀ i, 36 * a ≤ i → i < 36 * a + 36 → wasC s y i = decide (i = 36 * a + s % 36) := by
      intro i h1 h2
      rw [hb i h1 h2, hm, Bool.true_and]
      exact decide_eq_decide.mpr (by omega)
    exact ⟨by rw [if_pos hm]; exact cnt_1 (by omega) (by omega) hb2, fun z => by rw [if_pos hm]; exact fstv_1 (by omega) (by omega) hb2⟩
  · have hb2 : ∀ i, 36 * a ≤ i → i < 36 * a + 36 → wasC s y i = false := by
      intro i h1 h2
      rw [hb i h1 h2, show wasM s y a = false by simpa using hm, Bool.false_and]
    exact ⟨by rw [if_neg hm]; exact cnt0.mpr hb2, fun z => by rw [if_neg hm]; exact fstv_no hb2⟩
theorem was_c (s y : Nat) : ∀ d a, cnt (wasC s y) (36 * a) (36 * d) = cnt (wasM s y) a d
  | 0, a => rfl
  | d + 1, a => by
    rw [show 36 * (d + 1) = 36 + 36 * d by omega, cnt_app, was_blk.1, show 36 * a + 36 = 36 * (a + 1) by omega, was_c s y d (a + 1)]
    rfl
theorem was_v (s y : Nat) : ∀ d a, fstv (wasC s y) nI (-9) (36 * a) (36 * d) = fstv (wasM s y) (fun a => nI (36 * a + s % 36)) (-9) a d
  | 0, a => rfl
  | d + 1, a => by
    rw [show 36 * (d + 1) = 36 + 36 * d by omega, fstv_app, was_blk.2, show 36 * a + 36 = 36 * (a + 1) by omega, was_v s y d (a + 1)]
    rfl
section WS
variable (L : Nat) (I : Nat → Nat → Int32) (J : Nat → Nat → Int64)
theorem pr_was (h : Cp I J) (x y : Int32) : Pair L FX8_was FX9_was [.int x, .int y] I J := by
  by_cases hx : nI 0 ≤ x ∧ x < nI 216
  · by_cases hy : nI 0 ≤ y ∧ y < nI 10
    · obtain ⟨s, hs, rfl⟩ := (Am_iff (by decide)).mp hx
      obtain ⟨q, hq, rfl⟩ := (Am_iff (by decide)).mp hy
      generalize hf : wasC s q = f
      generalize hg : wasM s q = g
      have hfd : ∀ b, (36 * (b / 36 - q) + 6 * (b / 6 % 6) + b % 6 = s) ↔ f b = true := fun b => by rw [← hf]; unfold wasC; simp
      have hgd : ∀ a, (a - q = s / 36) ↔ g a = true := fun a => by rw [← hg]; unfold wasM; simp
      have hfg : cnt f 0 216 = cnt g 0 6 := by rw [← hf, ← hg]; exact was_c s q 6 0
      have hfv : fstv f nI (-9) 0 216 = fstv g (fun a => nI (36 * a + s % 36)) (-9) 0 6 := by rw [← hf, ← hg]; exact was_v s q 6 0
      generalize hI1 : fw I 75 216 (fun s => if f s = true then nI 1 else nI 0) = I1
      generalize hv : fstv f nI (-9) 0 216 = v
      have e10 : xup I1 1 10 (nI (cnt f 0 216)) 1 10 = nI (cnt f 0 216) := by rw [xup_self]; simp
      refine ⟨.int (nI (cnt f 0 216)), xup I1 1 10 v, J, xup (xup I1 1 10 v) 77 5 v, J, ?_, ?_, ?_⟩
      · rw [fX8_was]
        simp (disch := omega) only [eX8_was, xRl, xG1, xG2, kAll, rAll, nAll, List.map_nil, List.map_cons, List.sum_nil, List.sum_cons, Nat.reduceAdd, Nat.reduceSub, Nat.reduceMul, Nat.reduceLeDiff, Nat.reduceEqDiff, Nat.reduceLT, and_true, true_and, and_self, if_true, if_false, ne_eq, not_false_eq_true, not_true_eq_false, or_false, false_or, or_true, true_or, false_and, and_false, reduceIte, reduceCtorEq, xB, ite_not, xretf_zc, xretf_c, xcont_c, xbd, p8_among, hx, hy]
        have key := xloop (t := tX8_was) (st := fun i (_ : Unit) => (23, [.ref 1, .int (nI s), .int (nI q), .int (nI i), .null], [], 0, S0 L (fw I 75 i (fun s => if f s = true then nI 1 else nI 0)) J)) (g := fun _ _ => ()) (N := 216) (Inv := fun _ _ => True) (a0 := ()) trivial (by
          intro i u hi _
          refine ⟨?_, trivial⟩
          show xD tX8_was (23, _) = _
          rw [hX8_was_23]
          simp (disch := omega) only [eX8_was, xRl, xG1, xG2, kAll, rAll, nAll, List.map_nil, List.map_cons, List.sum_nil, List.sum_cons, Nat.reduceAdd, Nat.reduceSub, Nat.reduceMul, Nat.reduceLeDiff, Nat.reduceEqDiff, Nat.reduceLT, and_true, true_and, and_self, if_true, if_false, ne_eq, not_false_eq_true, not_true_eq_false, or_false, false_or, or_true, true_or, false_and, and_false, reduceIte, reduceCtorEq, xB, ite_not, xretf_zc, xretf_c, xcont_c, xbd, nI_leI, nI_neg0, cl_nI, p6_faded, nI_eq, hfd, nb1, nI_add]
          rw [← fw_s (v := fun s => if f s = true then nI 1 else nI 0)]
          have hi2 : ¬ 216 ≤ i := by omega
          by_cases hfi : f i = true
          · simp only [hfi, hi2, if_true, b01, if_false, not_false_eq_true, and_self]
          · simp only [hfi, hi2, if_true, b00, if_false, Bool.false_eq_true, not_false_eq_true, and_self]) 216 (Nat.le_refl 216)
        have k0 := key.1
        simp only [fw_0] at k0
        rw [k0, hI1, hX8_was_23]
        simp (disch := omega) only [eX8_was, xRl, xG1, xG2, kAll, rAll, nAll, List.map_nil, List.map_cons, List.sum_nil, List.sum_cons, Nat.reduceAdd, Nat.reduceSub, Nat.reduceMul, Nat.reduceLeDiff, Nat.reduceEqDiff, Nat.reduceLT, and_true, true_and, and_self, if_true, if_false, ne_eq, not_false_eq_true, not_true_eq_false, or_false, false_or, or_true, true_or, false_and, and_false, reduceIte, reduceCtorEq, xB, ite_not, xretf_zc, xretf_c, xcont_c, xbd, nI_leI, p8_tellChosen L I1 J f (fun s hs => by rw [← hI1, fw_in _ _ hs]), e10, xup_xup, hv]
      · generalize hI2 : xup I1 1 10 v = I2
        rw [fX9_was]
        simp (disch := omega) only [eX9_was, xRl, xG1, xG2, kAll, rAll, nAll, List.map_nil, List.map_cons, List.sum_nil, List.sum_cons, Nat.reduceAdd, Nat.reduceSub, Nat.reduceMul, Nat.reduceLeDiff, Nat.reduceEqDiff, Nat.reduceLT, and_true, true_and, and_self, if_true, if_false, ne_eq, not_false_eq_true, not_true_eq_false, or_false, false_or, or_true, true_or, false_and, and_false, reduceIte, reduceCtorEq, xB, ite_not, xretf_zc, xretf_c, xcont_c, xbd, p9_isSh, p9_inL, hx, hy]
        have key : ∀ (a : Nat), a ≤ 6 → ∀ (w w2 : Value), (w = .null ∨ ∃ z, w = .int z) → (w2 = .null ∨ ∃ z, w2 = .int z) → xretf (some .int) (xD tX9_was (32, [.ref 77, .int (nI s), .int (nI q), .int (nI (cnt g a (6 - a))), .int (nI a + (-1)), w, w2], [], 0, S0 L (xup I2 77 5 (fstv g (fun a => nI (36 * a + s % 36)) (-9) a (6 - a))) J)) = some (some (.int (nI (cnt g 0 6))), S0 L (xup I2 77 5 (fstv g (fun a => nI (36 * a + s % 36)) (-9) 0 6)) J) := by
          intro a
          induction a with
          | zero =>
            intro ha w w2 _ _
            rw [hX9_was_32]
            simp (disch := omega) only [eX9_was, xRl, xG1, xG2, kAll, rAll, nAll, List.map_nil, List.map_cons, List.sum_nil, List.sum_cons, Nat.reduceAdd, Nat.reduceSub, Nat.reduceMul, Nat.reduceLeDiff, Nat.reduceEqDiff, Nat.reduceLT, and_true, true_and, and_self, if_true, if_false, ne_eq, not_false_eq_true, not_true_eq_false, or_false, false_or, or_true, true_or, false_and, and_false, reduceIte, reduceCtorEq, xB, ite_not, xretf_zc, xretf_c, xcont_c, xbd, dn0, Nat.sub_zero]
          | succ a ih =>
            intro ha w w2 hw hw2
            have e3 : ∀ z, xup I2 77 5 z 77 5 = z := fun z => by rw [xup_self]; simp
            have t10 : 6 - a = (6 - (a + 1)) + 1 := by omega
            have t12 : fstv g (fun a => nI (36 * a + s % 36)) (-9) a (6 - a) = if g a = true then nI (36 * a + s % 36) else fstv g (fun a => nI (36 * a + s % 36)) (-9) (a + 1) (6 - (a + 1)) := by rw [t10]; rfl
            have t13 : cnt g a (6 - a) = (if g a = true then 1 else 0) + cnt g (a + 1) (6 - (a + 1)) := by rw [t10]; rfl
            have e9 := fun w w2 hw hw2 => ih (by omega) w w2 hw hw2
            rw [t12, t13] at e9
            have hnow : (if a < q then nI 0 else nI a - nI q) = nI (a - q) := by
              split
              · rw [show a - q = 0 by omega]
              · rw [pk_sub (by omega)]
            rw [hX9_was_32]
            have rN : s - s / 36 * 36 = s % 36 := by omega
            by_cases haq : a < q
            · have haq2 : ¬ q ≤ a := by omega
              have z0 : a - q = 0 := by omega
              have hga := hgd a
              rw [z0] at hga
              by_cases hgs : g a = true
              · have hs0 : (0 = s / 36) = True := eq_true (hga.mpr hgs)
                simp only [hgs, if_true] at e9
                rcases hw with rfl | ⟨z, rfl⟩ <;> rcases hw2 with rfl | ⟨z', rfl⟩
                all_goals
                  simp (disch := omega) only [eX9_was, xRl, xG1, xG2, kAll, rAll, nAll, List.map_nil, List.map_cons, List.sum_nil, List.sum_cons, Nat.reduceAdd, Nat.reduceSub, Nat.reduceMul, Nat.reduceLeDiff, Nat.reduceEqDiff, Nat.reduceLT, and_true, true_and, and_self, if_true, if_false, ne_eq, not_false_eq_true, not_true_eq_false, or_false, false_or, or_true, true_or, false_and, and_false, reduceIte, reduceCtorEq, xB, ite_not, xretf_zc, xretf_c, xcont_c, xbd, dn1, nI_neg0, cl_nI, nI_leI, nI_ltI, Nat.not_lt_zero, haq, haq2, nI_z, pk_div, rem1, rem2, rN, nI_eq, hs0, pk_mul, e3, xup_xup, nI_add]
                  rw [Nat.add_comm _ 1]
                  exact e9 _ _ (Or.inr ⟨_, rfl⟩) (Or.inr ⟨_, rfl⟩)
              · have hs0 : ¬ 0 = s / 36 := fun z => hgs (hga.mp z)
                simp only [hgs, if_false, Bool.false_eq_true, Nat.zero_add] at e9
                rcases hw with rfl | ⟨z, rfl⟩ <;> rcases hw2 with rfl | ⟨z', rfl⟩
                all_goals
                  simp (disch := omega) only [eX9_was, xRl, xG1, xG2, kAll, rAll, nAll, List.map_nil, List.map_cons, List.sum_nil, List.sum_cons, Nat.reduceAdd, Nat.reduceSub, Nat.reduceMul, Nat.reduceLeDiff, Nat.reduceEqDiff, Nat.reduceLT, and_true, true_and, and_self, if_true, if_false, ne_eq, not_false_eq_true, not_true_eq_false, or_false, false_or, or_true, true_or, false_and, and_false, reduceIte, reduceCtorEq, xB, ite_not, xretf_zc, xretf_c, xcont_c, xbd, dn1, nI_neg0, cl_nI, nI_leI, nI_ltI, Nat.not_lt_zero, haq, haq2, nI_z, pk_div, rem1, rem2, rN, nI_eq, hs0, pk_mul, e3, xup_xup, nI_add]
                  exact e9 _ _ (Or.inr ⟨_, rfl⟩) (Or.inr ⟨_, rfl⟩)
            · have haq2 : q ≤ a := by omega
              have hga := hgd a
              by_cases hgs : g a = true
              · have hs0 : (a - q = s / 36) = True := eq_true (hga.mpr hgs)
                simp only [hgs, if_true] at e9
                rcases hw with rfl | ⟨z, rfl⟩ <;> rcases hw2 with rfl | ⟨z', rfl⟩
                all_goals
                  simp (disch := omega) only [eX9_was, xRl, xG1, xG2, kAll, rAll, nAll, List.map_nil, List.map_cons, List.sum_nil, List.sum_cons, Nat.reduceAdd, Nat.reduceSub, Nat.reduceMul, Nat.reduceLeDiff, Nat.reduceEqDiff, Nat.reduceLT, and_true, true_and, and_self, if_true, if_false, ne_eq, not_false_eq_true, not_true_eq_false, or_false, false_or, or_true, true_or, false_and, and_false, reduceIte, reduceCtorEq, xB, ite_not, xretf_zc, xretf_c, xcont_c, xbd, dn1, nI_neg0, cl_nI, nI_leI, nI_ltI, Nat.not_lt_zero, haq, haq2, pk_sub, nI_z, pk_div, rem1, rem2, rN, nI_eq, hs0, pk_mul, e3, xup_xup, nI_add]
                  rw [Nat.add_comm _ 1]
                  exact e9 _ _ (Or.inr ⟨_, rfl⟩) (Or.inr ⟨_, rfl⟩)
              · have hs0 : ¬ a - q = s / 36 := fun z => hgs (hga.mp z)
                simp only [hgs, if_false, Bool.false_eq_true, Nat.zero_add] at e9
                rcases hw with rfl | ⟨z, rfl⟩ <;> rcases hw2 with rfl | ⟨z', rfl⟩
                all_goals
                  simp (disch := omega) only [eX9_was, xRl, xG1, xG2, kAll, rAll, nAll, List.map_nil, List.map_cons, List.sum_nil, List.sum_cons, Nat.reduceAdd, Nat.reduceSub, Nat.reduceMul, Nat.reduceLeDiff, Nat.reduceEqDiff, Nat.reduceLT, and_true, true_and, and_self, if_true, if_false, ne_eq, not_false_eq_true, not_true_eq_false, or_false, false_or, or_true, true_or, false_and, and_false, reduceIte, reduceCtorEq, xB, ite_not, xretf_zc, xretf_c, xcont_c, xbd, dn1, nI_neg0, cl_nI, nI_leI, nI_ltI, Nat.not_lt_zero, haq, haq2, pk_sub, nI_z, pk_div, rem1, rem2, rN, nI_eq, hs0, pk_mul, e3, xup_xup, nI_add]
                  exact e9 _ _ (Or.inr ⟨_, rfl⟩) (Or.inr ⟨_, rfl⟩)
        have k0 := key 6 (Nat.le_refl 6) .null .null (Or.inl rfl) (Or.inl rfl)
        rw [show nI 6 + (-1) = nI 5 from dn1 5, ← hfg, ← hfv, hv] at k0
        exact k0
      · have c1 : Cp I1 J := Cp_gen h (fun c hc => by rw [← hI1, fw_ne _ _ _ (by omega)]) (by rw [← hI1, fw_ne _ _ _ (by omega)]) (by rw [← hI1, fw_ne _ _ _ (by omega)]) (by rw [← hI1, fw_ne _ _ _ (by omega)]) (by rw [← hI1, fw_ne _ _ _ (by omega), fw_ne _ _ _ (by omega)]; exact h.2.2.2.1)
        exact Cp_told c1 _
    · refine ⟨.int (-1), I, J, I, J, ?_, ?_, h⟩
      · rw [fX8_was]
        simp (disch := omega) only [eX8_was, xRl, xG1, xG2, kAll, rAll, nAll, List.map_nil, List.map_cons, List.sum_nil, List.sum_cons, Nat.reduceAdd, Nat.reduceSub, Nat.reduceMul, Nat.reduceLeDiff, Nat.reduceEqDiff, Nat.reduceLT, and_true, true_and, and_self, if_true, if_false, ne_eq, not_false_eq_true, not_true_eq_false, or_false, false_or, or_true, true_or, false_and, and_false, reduceIte, reduceCtorEq, xB, ite_not, xretf_zc, xretf_c, xcont_c, xbd, p8_among, hx, hy]
      · rw [fX9_was]
        simp (disch := omega) only [eX9_was, xRl, xG1, xG2, kAll, rAll, nAll, List.map_nil, List.map_cons, List.sum_nil, List.sum_cons, Nat.reduceAdd, Nat.reduceSub, Nat.reduceMul, Nat.reduceLeDiff, Nat.reduceEqDiff, Nat.reduceLT, and_true, true_and, and_self, if_true, if_false, ne_eq, not_false_eq_true, not_true_eq_false, or_false, false_or, or_true, true_or, false_and, and_false, reduceIte, reduceCtorEq, xB, ite_not, xretf_zc, xretf_c, xcont_c, xbd, p9_isSh, p9_inL, hx, hy]
  · refine ⟨.int (-1), I, J, I, J, ?_, ?_, h⟩
    · rw [fX8_was]
      simp (disch := omega) only [eX8_was, xRl, xG1, xG2, kAll, rAll, nAll, List.map_nil, List.map_cons, List.sum_nil, List.sum_cons, Nat.reduceAdd, Nat.reduceSub, Nat.reduceMul, Nat.reduceLeDiff, Nat.reduceEqDiff, Nat.reduceLT, and_true, true_and, and_self, if_true, if_false, ne_eq, not_false_eq_true, not_true_eq_false, or_false, false_or, or_true, true_or, false_and, and_false, reduceIte, reduceCtorEq, xB, ite_not, xretf_zc, xretf_c, xcont_c, xbd, p8_among, hx]
    · rw [fX9_was]
      simp (disch := omega) only [eX9_was, xRl, xG1, xG2, kAll, rAll, nAll, List.map_nil, List.map_cons, List.sum_nil, List.sum_cons, Nat.reduceAdd, Nat.reduceSub, Nat.reduceMul, Nat.reduceLeDiff, Nat.reduceEqDiff, Nat.reduceLT, and_true, true_and, and_self, if_true, if_false, ne_eq, not_false_eq_true, not_true_eq_false, or_false, false_or, or_true, true_or, false_and, and_false, reduceIte, reduceCtorEq, xB, ite_not, xretf_zc, xretf_c, xcont_c, xbd, p9_isSh, hx]
end WS
