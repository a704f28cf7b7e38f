/-! name, mark, due, kinds: what is told of a name -/
def tlv (kd sh rg ow du fa w : Nat) : Nat := if w = 0 then kd else if w = 1 then sh else if w = 2 then rg else if w = 3 then ow else if w = 4 then du else if w = 5 then fa else cnt (fun t => rchN kd rg sh t) 0 216
theorem RC_up {I I2 : Nat → Nat → Int32} {g o n d yr : Nat} (h : RC I g o n d yr) (e : ∀ c, g ≤ c ∧ c ≤ g + 10 → I2 c = I c) (e2 : ∀ i, o ≤ i ∧ i < o + 426 → I2 78 i = I 78 i) : RC I2 g o n d yr := by
  have es : ∀ i, sayN I2 g i d = sayN I g i d := fun i => by unfold sayN; rw [e (g + 10) (by omega)]
  obtain ⟨⟨r1, r2, r3, r4, r5, r6, r7⟩, s1, s2, s3, s4⟩ := h
  refine ⟨⟨r1, r2, by rw [e g (by omega)]; exact r3, by rw [e g (by omega)]; exact r4, by rw [e g (by omega)]; exact r5, by rw [e2 _ (by omega)]; exact r6, by rw [e2 _ (by omega)]; exact r7⟩, BW_of s1 e, by rw [es]; exact s2, fun k hk => ?_, fun i hi => ?_⟩
  · have hN := s3 k hk
    unfold NC at hN ⊢
    rw [e (g + 2 + k) (by omega), e2 (o + 10 + 7 * k) (by omega), e2 (o + 11 + 7 * k) (by omega), e2 (o + 12 + 7 * k) (by omega), e2 (o + 13 + 7 * k) (by omega), e2 (o + 14 + 7 * k) (by omega), e2 (o + 15 + 7 * k) (by omega), e2 (o + 16 + 7 * k) (by omega), e2 (o + 2 + k) (by omega)]
    exact hN
  · rw [es, e2 _ (by omega)]
    refine ⟨(s4 i hi).1, fun k hk => ?_⟩
    rw [e2 _ (by omega), e (g + 2 + k) (by omega)]
    exact (s4 i hi).2 k hk
section N1
variable (L : Nat) (I : Nat → Nat → Int32) (J : Nat → Nat → Int64)
theorem p8_tellOf (n yr k w : Nat) (hC : Cok I n yr) (hk : k < n) (hw : w < 7) : FX8_tellOf [.ref 1, .int (nI k), .int (nI w)] (S0 L I J) = some (some (.int (nI (tlv (cv I k 0) (shC I yr 0 k) (cv I k 2) (cv I k 3) (cv I k 4) (cv I k 5) w))), S0 L I J) := by
  rw [fX8_tellOf]
  have hsh := shC_lt hC hk 0
  have hS := p4_shadeOf L I J n yr 0 k hC hk (by omega)
  obtain ⟨hn, h1, h2, h3, hall⟩ := hC
  obtain ⟨⟨a1, a2⟩, ⟨b1, b2⟩, ⟨c1, c2⟩, ⟨d1, d2⟩, ⟨e1, e2⟩, ⟨f1, f2⟩⟩ := hall k hk
  have k1 := kNam k (by omega)
  have e : ¬ 26 + k = 0 := by omega
  simp (disch := omega) only [eX8_tellOf, xRl, xG1, xG2, kAll, rAll, nAll, List.map_nil, List.map_cons, List.sum_nil, List.sum_cons, Nat.reduceAdd, Nat.reduceSub, Nat.reduceMul, Nat.reduceLeDiff, Nat.reduceEqDiff, Nat.reduceLT, and_true, true_and, and_self, if_true, if_false, ne_eq, not_false_eq_true, not_true_eq_false, or_false, false_or, or_true, true_or, false_and, and_false, reduceIte, reduceCtorEq, xB, ite_not, xretf_zc, xretf_c, xcont_c, xbd, nI_neg0, cl_nI, k1.1, k1.2, e, a1, b1, c1, d1, e1, f1, hS, nI_eq, p1_countReached]
  have hf : cv I k 5 = 0 ∨ cv I k 5 = 1 := by omega
  have hw7 : w = 0 ∨ w = 1 ∨ w = 2 ∨ w = 3 ∨ w = 4 ∨ w = 5 ∨ w = 6 := by omega
  rcases hf with hf | hf <;> rcases hw7 with rfl | rfl | rfl | rfl | rfl | rfl | rfl <;> simp [tlv, hf]
theorem p9_toldOf (n k w : Nat) (hM : Mok I n) (hy : I 77 15 = nI 0) (hk : k < n) (hw : w < 7) : FX9_toldOf [.ref 77, .int (nI k), .int (nI w)] (S0 L I J) = some (some (.int (nI (tlv (mKd I k) (shM I 0 k) (mRg I k) (mOw I k) (mDu I k) (mFa I k) w))), S0 L I J) := by
  rw [fX9_toldOf]
  have hsh := shM_lt hM hk 0
  have hS := p9_shadeOf L I J n k 0 hM hk hy (by omega)
  have hn := hM.1
  obtain ⟨-, ⟨a1, a2⟩, -, -, ⟨c1, c2⟩, ⟨d1, d2⟩, ⟨e1, e2⟩, ⟨f1, f2⟩⟩ := hM.2.2 k hk
  have g0 : I 78 (10 + 7 * k + 0) = nI (mKd I k) := a1
  have g3 : I 78 (10 + 7 * k + 3) = nI (mRg I k) := by rw [show 10 + 7 * k + 3 = 13 + 7 * k by omega]; exact c1
  have g4 : I 78 (10 + 7 * k + 4) = nI (mOw I k) := by rw [show 10 + 7 * k + 4 = 14 + 7 * k by omega]; exact d1
  have g5 : I 78 (10 + 7 * k + 5) = nI (mDu I k) := by rw [show 10 + 7 * k + 5 = 15 + 7 * k by omega]; exact e1
  have g6 : I 78 (10 + 7 * k + 6) = nI (mFa I k) := by rw [show 10 + 7 * k + 6 = 16 + 7 * k by omega]; exact f1
  simp (disch := omega) only [eX9_toldOf, xRl, xG1, xG2, kAll, rAll, nAll, List.map_nil, List.map_cons, List.sum_nil, List.sum_cons, Nat.reduceAdd, Nat.reduceSub, Nat.reduceMul, Nat.reduceLeDiff, Nat.reduceEqDiff, Nat.reduceLT, and_true, true_and, and_self, if_true, if_false, ne_eq, not_false_eq_true, not_true_eq_false, or_false, false_or, or_true, true_or, false_and, and_false, reduceIte, reduceCtorEq, xB, ite_not, xretf_zc, xretf_c, xcont_c, xbd, p9_of, g0, g3, g4, g5, g6, hS, nI_eq, p9_reachedBy]
  unfold tlv
  repeat' split
  all_goals first | rfl | (exfalso; omega)
theorem tlv_eq {n d yr : Nat} (hR : RC I 24 0 n d yr) {k : Nat} (hk : k < n) (w : Nat) : tlv (mKd I k) (shM I 0 k) (mRg I k) (mOw I k) (mDu I k) (mFa I k) w = tlv (cv I k 0) (shC I yr 0 k) (cv I k 2) (cv I k 3) (cv I k 4) (cv I k 5) w := by
  obtain ⟨⟨e1, e2, e3, e4, e5⟩, e6⟩ := (RC_M hR).2.2 k hk
  rw [e1, e2, e3, e4, e5, e6 0]
theorem p8_nm {n : Nat} (h1 : I 24 1 = nI n) : True := trivial
theorem pr_name (h : Cp I J) (k w : Int32) : Pair L FX8_name FX9_name [.int k, .int w] I J := by
  obtain ⟨n, d, yr, hR⟩ := h.2.2.2.2.2.2.1
  obtain ⟨hM, hC, hE⟩ := RC_M hR
  have hn := hM.1
  have h1 := hC.2.1
  by_cases hk : nI 0 ≤ k ∧ k < nI n
  · by_cases hw : nI 0 ≤ w ∧ w < nI 7
    · obtain ⟨a, ha, rfl⟩ := (Am_iff (by omega)).mp hk
      obtain ⟨b, hb, rfl⟩ := (Am_iff (by decide)).mp hw
      generalize hv : nI (tlv (cv I a 0) (shC I yr 0 a) (cv I a 2) (cv I a 3) (cv I a 4) (cv I a 5) b) = v
      have e3 : xup I 1 10 v 78 = I 78 := xup_ne _ _ _ (by decide)
      have e5 : xup I 1 10 v 77 15 = nI 0 := by rw [xup_o _ _ _ _ (by decide)]; exact h.2.2.2.2.2.1
      refine ⟨.int (nI 1), xup I 1 10 v, J, xup (xup I 1 10 v) 77 5 v, J, ?_, ?_, Cp_told h v⟩
      · rw [fX8_name]
        simp (disch := omega) only [eX8_name, xRl, xG1, xG2, kAll, rAll, nAll, List.map_nil, List.map_cons, List.sum_nil, List.sum_cons, Nat.reduceAdd, Nat.reduceSub, Nat.reduceMul, Nat.reduceLeDiff, Nat.reduceEqDiff, Nat.reduceLT, and_true, true_and, and_self, if_true, if_false, ne_eq, not_false_eq_true, not_true_eq_false, or_false, false_or, or_true, true_or, false_and, and_false, reduceIte, reduceCtorEq, xB, ite_not, xretf_zc, xretf_c, xcont_c, xbd, p8_among, h1, hk, hw, p8_tellOf L I J n yr a b hC ha hb, hv]
      · have e6 := p9_toldOf L (xup I 1 10 v) J n a b (Mok_of hM e3) e5 ha hb
        simp only [mKd, mRg, mOw, mDu, mFa, mv, e3, shM_of e3] at e6
        have e7 := tlv_eq I hR ha b
        simp only [mKd, mRg, mOw, mDu, mFa, mv] at e7
        rw [e7, hv] at e6
        rw [fX9_name]
        simp (disch := omega) only [eX9_name, xRl, xG1, xG2, kAll, rAll, nAll, List.map_nil, List.map_cons, List.sum_nil, List.sum_cons, Nat.reduceAdd, Nat.reduceSub, Nat.reduceMul, Nat.reduceLeDiff, Nat.reduceEqDiff, Nat.reduceLT, and_true, true_and, and_self, if_true, if_false, ne_eq, not_false_eq_true, not_true_eq_false, or_false, false_or, or_true, true_or, false_and, and_false, reduceIte, reduceCtorEq, xB, ite_not, xretf_zc, xretf_c, xcont_c, xbd, p9_isName L (xup I 1 10 v) J n (by omega) (show xup I 1 10 v 78 1 = nI n by rw [e3]; exact hM.2.1), hk, p9_inL, hw, e6, p9_tell]
    · refine ⟨.int (-1), I, J, I, J, ?_, ?_, h⟩
      · rw [fX8_name]
        simp (disch := omega) only [eX8_name, xRl, xG1, xG2, kAll, rAll, nAll, List.map_nil, List.map_cons, List.sum_nil, List.sum_cons, Nat.reduceAdd, Nat.reduceSub, Nat.reduceMul, Nat.reduceLeDiff, Nat.reduceEqDiff, Nat.reduceLT, and_true, true_and, and_self, if_true, if_false, ne_eq, not_false_eq_true, not_true_eq_false, or_false, false_or, or_true, true_or, false_and, and_false, reduceIte, reduceCtorEq, xB, ite_not, xretf_zc, xretf_c, xcont_c, xbd, p8_among, h1, hk, hw]
      · rw [fX9_name]
        simp (disch := omega) only [eX9_name, xRl, xG1, xG2, kAll, rAll, nAll, List.map_nil, List.map_cons, List.sum_nil, List.sum_cons, Nat.reduceAdd, Nat.reduceSub, Nat.reduceMul, Nat.reduceLeDiff, Nat.reduceEqDiff, Nat.reduceLT, and_true, true_and, and_self, if_true, if_false, ne_eq, not_false_eq_true, not_true_eq_false, or_false, false_or, or_true, true_or, false_and, and_false, reduceIte, reduceCtorEq, xB, ite_not, xretf_zc, xretf_c, xcont_c, xbd, p9_isName L I J n (by omega) hM.2.1, hk, p9_inL, hw]
  · refine ⟨.int (-1), I, J, I, J, ?_, ?_, h⟩
    · rw [fX8_name]
      simp (disch := omega) only [eX8_name, xRl, xG1, xG2, kAll, rAll, nAll, List.map_nil, List.map_cons, List.sum_nil, List.sum_cons, Nat.reduceAdd, Nat.reduceSub, Nat.reduceMul, Nat.reduceLeDiff, Nat.reduceEqDiff, Nat.reduceLT, and_true, true_and, and_self, if_true, if_false, ne_eq, not_false_eq_true, not_true_eq_false, or_false, false_or, or_true, true_or, false_and, and_false, reduceIte, reduceCtorEq, xB, ite_not, xretf_zc, xretf_c, xcont_c, xbd, p8_among, h1, hk]
    · rw [fX9_name]
      simp (disch := omega) only [eX9_name, xRl, xG1, xG2, kAll, rAll, nAll, List.map_nil, List.map_cons, List.sum_nil, List.sum_cons, Nat.reduceAdd, Nat.reduceSub, Nat.reduceMul, Nat.reduceLeDiff, Nat.reduceEqDiff, Nat.reduceLT, and_true, true_and, and_self, if_true, if_false, ne_eq, not_false_eq_true, not_true_eq_false, or_false, false_or, or_true, true_or, false_and, and_false, reduceIte, reduceCtorEq, xB, ite_not, xretf_zc, xretf_c, xcont_c, xbd, p9_isName L I J n (by omega) hM.2.1, hk]
theorem pr_due (h : Cp I J) (k v : Int32) : Pair L FX8_due FX9_due [.int k, .int v] I J := by
  obtain ⟨n, d, yr, hR⟩ := h.2.2.2.2.2.2.1
  obtain ⟨hM, hC, hE⟩ := RC_M hR
  have hn := hM.1
  have h1 := hC.2.1
  by_cases hk : nI 0 ≤ k ∧ k < nI n
  · by_cases hw : nI 0 ≤ v ∧ v < nI 10
    · obtain ⟨a, ha, rfl⟩ := (Am_iff (by omega)).mp hk
      obtain ⟨b, hb, rfl⟩ := (Am_iff (by decide)).mp hw
      have k1 := kNam a (by omega)
      have e : ¬ 26 + a = 0 := by omega
      have e3 : xup I (26 + a) 4 (nI b) 78 = I 78 := xup_ne _ _ _ (by omega)
      obtain ⟨⟨q1, q2, q3, q4, q5⟩, -⟩ := hE a ha
      have e5 : I 78 (10 + 7 * a + 5) = I (26 + a) 4 := by
        rw [show 10 + 7 * a + 5 = 15 + 7 * a by omega, (hM.2.2 a ha).2.2.2.2.2.2.1.1, q4, (hC.2.2.2.2 a ha).2.2.2.2.1.1]
      refine ⟨.int (I (26 + a) 4), xup I (26 + a) 4 (nI b), J, xup (xup I (26 + a) 4 (nI b)) 78 (15 + 7 * a) (nI b), J, ?_, ?_, ?_⟩
      · rw [fX8_due]
        simp (disch := omega) only [eX8_due, xRl, xG1, xG2, kAll, rAll, nAll, List.map_nil, List.map_cons, List.sum_nil, List.sum_cons, Nat.reduceAdd, Nat.reduceSub, Nat.reduceMul, Nat.reduceLeDiff, Nat.reduceEqDiff, Nat.reduceLT, and_true, true_and, and_self, if_true, if_false, ne_eq, not_false_eq_true, not_true_eq_false, or_false, false_or, or_true, true_or, false_and, and_false, reduceIte, reduceCtorEq, xB, ite_not, xretf_zc, xretf_c, xcont_c, xbd, p8_among, h1, hk, hw, k1.1, k1.2, e, nI_neg0, cl_nI]
      · rw [fX9_due]
        simp (disch := omega) only [eX9_due, xRl, xG1, xG2, kAll, rAll, nAll, List.map_nil, List.map_cons, List.sum_nil, List.sum_cons, Nat.reduceAdd, Nat.reduceSub, Nat.reduceMul, Nat.reduceLeDiff, Nat.reduceEqDiff, Nat.reduceLT, and_true, true_and, and_self, if_true, if_false, ne_eq, not_false_eq_true, not_true_eq_false, or_false, false_or, or_true, true_or, false_and, and_false, reduceIte, reduceCtorEq, xB, ite_not, xretf_zc, xretf_c, xcont_c, xbd, p9_isName L (xup I (26 + a) 4 (nI b)) J n (by omega) (show xup I (26 + a) 4 (nI b) 78 1 = nI n by rw [e3]; exact hM.2.1), hk, p9_inL, hw, p9_of, e3, e5, nI_neg0, cl_nI, nI_add, pk_mul]
        rw [show 10 + 7 * a + 5 = 15 + 7 * a by omega]
      · obtain ⟨g1, g2, g3, g4, g5, g6, -, g7⟩ := h
        have eo : ∀ c, c ≠ 26 + a → c ≠ 78 → xup (xup I (26 + a) 4 (nI b)) 78 (15 + 7 * a) (nI b) c = I c := fun c h1 h2 => by rw [xup_ne _ _ _ h2, xup_ne _ _ _ h1]
        have e78 : ∀ i, i ≠ 15 + 7 * a → xup (xup I (26 + a) 4 (nI b)) 78 (15 + 7 * a) (nI b) 78 i = I 78 i := fun i hi => by rw [xup_self, if_neg hi, e3]
        have e26 : ∀ i, i ≠ 4 → xup (xup I (26 + a) 4 (nI b)) 78 (15 + 7 * a) (nI b) (26 + a) i = I (26 + a) i := fun i hi => by rw [xup_ne _ _ _ (by omega), xup_self, if_neg hi]
        generalize hI2 : xup (xup I (26 + a) 4 (nI b)) 78 (15 + 7 * a) (nI b) = I2 at eo e78 e26
        have f1 : I2 78 (15 + 7 * a) = nI b := by rw [← hI2, xup_self]; simp
        have f2 : I2 (26 + a) 4 = nI b := by rw [← hI2, xup_ne _ _ _ (by omega), xup_self]; simp
        refine ⟨CpR_of g1 (fun c hc => eo c (by omega) (by omega)), CpT_of g2 (fun c hc => eo c (by omega) (by omega)), ?_, ?_, g5, ?_, ⟨n, d, yr, ?_⟩, fun q hq => ?_⟩
        · unfold CpF; rw [eo 1 (by omega) (by omega), eo 77 (by omega) (by omega), eo 76 (by omega) (by omega), eo 83 (by omega) (by omega)]; exact g3
        · unfold CpA; rw [eo 1 (by omega) (by omega), eo 77 (by omega) (by omega)]; exact g4
        · rw [eo 77 (by omega) (by omega)]; exact g6
        · obtain ⟨⟨r1, r2, r3, r4, r5, r6, r7⟩, s1, s2, s3, s4⟩ := hR
          have es : ∀ i, sayN I2 24 i d = sayN I 24 i d := fun i => by unfold sayN; rw [eo (24 + 10) (by omega) (by omega)]
          refine ⟨⟨r1, r2, by rw [eo 24 (by omega) (by omega)]; exact r3, by rw [eo 24 (by omega) (by omega)]; exact r4, by rw [eo 24 (by omega) (by omega)]; exact r5, by rw [e78 _ (by omega)]; exact r6, by rw [e78 _ (by omega)]; exact r7⟩, BW_up s1 (fun i _ => by rw [eo (24 + 10) (by omega) (by omega)]) (fun k hk => by
            by_cases hka : k = a
            · subst hka
              rw [show 24 + 2 + k = 26 + k by omega, e26 5 (by decide)]
            · rw [eo (24 + 2 + k) (by omega) (by omega)]), by rw [es]; exact s2, fun q hq => ?_, fun i hi => ?_⟩
          · have hN := s3 q hq
            unfold NC at hN ⊢
            rw [e78 (0 + 10 + 7 * q) (by omega), e78 (0 + 11 + 7 * q) (by omega), e78 (0 + 12 + 7 * q) (by omega), e78 (0 + 13 + 7 * q) (by omega), e78 (0 + 14 + 7 * q) (by omega), e78 (0 + 16 + 7 * q) (by omega), e78 (0 + 2 + q) (by omega)]
            by_cases hqa : q = a
            · subst hqa
              rw [show 24 + 2 + q = 26 + q by omega] at hN ⊢
              rw [e26 0 (by decide), e26 1 (by decide), e26 2 (by decide), e26 3 (by decide), e26 5 (by decide), f2, show 0 + 15 + 7 * q = 15 + 7 * q by omega, f1]
              obtain ⟨t1, t2, t3, t4, t5, t6⟩ := hN
              have ht : tn (nI b) = b := cl_nI (by omega)
              exact ⟨t1, t2, t3, t4, ⟨by rw [ht], by rw [ht]; exact hb, rfl⟩, t6⟩
            · rw [eo (24 + 2 + q) (by omega) (by omega), e78 (0 + 15 + 7 * q) (by omega)]
              exact hN
          · rw [es]
            obtain ⟨t1, t2⟩ := s4 i hi
            have hsn : sayN I 24 i d ≤ d - i := cnt_le _ _ _
            refine ⟨by rw [e78 _ (by omega)]; exact t1, fun q hq => ?_⟩
            rw [e78 _ (by omega)]
            by_cases hqa : q = a
            · subst hqa
              rw [show 24 + 2 + q = 26 + q by omega, e26 1 (by decide), e26 5 (by decide), t2 q hq]
            · rw [eo (24 + 2 + q) (by omega) (by omega)]
              exact t2 q hq
        · have e426 : I2 78 (426 * (1 + q)) = I 78 (426 * (1 + q)) := e78 _ (by omega)
          rcases g7 q hq with ⟨w1, w2⟩ | ⟨n', d', yr', w1, w2⟩
          · exact Or.inl ⟨by rw [eo _ (by omega) (by omega)]; exact w1, by rw [e426]; exact w2.1, BW_of w2.2 (fun c hc => eo c (by omega) (by omega))⟩
          · exact Or.inr ⟨n', d', yr', w1, RC_up w2 (fun c hc => eo c (by omega) (by omega)) (fun i hi => e78 i (by omega))⟩
    · refine ⟨.int (-1), I, J, I, J, ?_, ?_, h⟩
      · rw [fX8_due]
        simp (disch := omega) only [eX8_due, xRl, xG1, xG2, kAll, rAll, nAll, List.map_nil, List.map_cons, List.sum_nil, List.sum_cons, Nat.reduceAdd, Nat.reduceSub, Nat.reduceMul, Nat.reduceLeDiff, Nat.reduceEqDiff, Nat.reduceLT, and_true, true_and, and_self, if_true, if_false, ne_eq, not_false_eq_true, not_true_eq_false, or_false, false_or, or_true, true_or, false_and, and_false, reduceIte, reduceCtorEq, xB, ite_not, xretf_zc, xretf_c, xcont_c, xbd, p8_among, h1, hk, hw]
      · rw [fX9_due]
        simp (disch := omega) only [eX9_due, xRl, xG1, xG2, kAll, rAll, nAll, List.map_nil, List.map_cons, List.sum_nil, List.sum_cons, Nat.reduceAdd, Nat.reduceSub, Nat.reduceMul, Nat.reduceLeDiff, Nat.reduceEqDiff, Nat.reduceLT, and_true, true_and, and_self, if_true, if_false, ne_eq, not_false_eq_true, not_true_eq_false, or_false, false_or, or_true, true_or, false_and, and_false, reduceIte, reduceCtorEq, xB, ite_not, xretf_zc, xretf_c, xcont_c, xbd, p9_isName L I J n (by omega) hM.2.1, hk, p9_inL, hw]
  · refine ⟨.int (-1), I, J, I, J, ?_, ?_, h⟩
    · rw [fX8_due]
      simp (disch := omega) only [eX8_due, xRl, xG1, xG2, kAll, rAll, nAll, List.map_nil, List.map_cons, List.sum_nil, List.sum_cons, Nat.reduceAdd, Nat.reduceSub, Nat.reduceMul, Nat.reduceLeDiff, Nat.reduceEqDiff, Nat.reduceLT, and_true, true_and, and_self, if_true, if_false, ne_eq, not_false_eq_true, not_true_eq_false, or_false, false_or, or_true, true_or, false_and, and_false, reduceIte, reduceCtorEq, xB, ite_not, xretf_zc, xretf_c, xcont_c, xbd, p8_among, h1, hk]
    · rw [fX9_due]
      simp (disch := omega) only [eX9_due, xRl, xG1, xG2, kAll, rAll, nAll, List.map_nil, List.map_cons, List.sum_nil, List.sum_cons, Nat.reduceAdd, Nat.reduceSub, Nat.reduceMul, Nat.reduceLeDiff, Nat.reduceEqDiff, Nat.reduceLT, and_true, true_and, and_self, if_true, if_false, ne_eq, not_false_eq_true, not_true_eq_false, or_false, false_or, or_true, true_or, false_and, and_false, reduceIte, reduceCtorEq, xB, ite_not, xretf_zc, xretf_c, xcont_c, xbd, p9_isName L I J n (by omega) hM.2.1, hk]
theorem pr_kinds (h : Cp I J) (k m : Int32) : Pair L FX8_kinds FX9_kinds [.int k, .int m] I J := by
  obtain ⟨n, d, yr, hR⟩ := h.2.2.2.2.2.2.1
  obtain ⟨hM, hC, hE⟩ := RC_M hR
  have hn := hM.1
  have h1 := hC.2.1
  by_cases hk : nI 0 ≤ k ∧ k < nI n
  · by_cases hw : nI 0 ≤ m ∧ m < nI 217
    · obtain ⟨a, ha, rfl⟩ := (Am_iff (by omega)).mp hk
      obtain ⟨b, hb, rfl⟩ := (Am_iff (by decide)).mp hw
      obtain ⟨⟨q1, q2, q3, q4, q5⟩, q6⟩ := hE a ha
      have hsh := shC_lt hC ha 0
      have hS := p4_shadeOf L I J n yr 0 a hC ha (by omega)
      have hS9 := p9_shadeOf L I J n a 0 hM ha h.2.2.2.2.2.1 (by omega)
      rw [q6 0] at hS9
      have hrg := (hC.2.2.2.2 a ha).2.2.1
      have k1 := kNam a (by omega)
      have e : ¬ 26 + a = 0 := by omega
      have g3 : I 78 (10 + 7 * a + 3) = nI (cv I a 2) := by rw [show 10 + 7 * a + 3 = 13 + 7 * a by omega, (hM.2.2 a ha).2.2.2.2.1.1, q2]
      generalize hf : (fun kd => decide (cnt (fun t => rchN kd (cv I a 2) (shC I yr 0 a) t) 0 216 = b)) = f
      have hcl : ∀ kd, cnt (fun t => rchN kd (cv I a 2) (shC I yr 0 a) t) 0 216 ≤ 216 := fun kd => cnt_le _ _ _
      have hfd : ∀ kd, (cnt (fun t => rchN kd (cv I a 2) (shC I yr 0 a) t) 0 216 = b) ↔ f kd = true := fun kd => by rw [← hf]; simp
      refine ⟨.int (nI (msk f 6)), I, J, I, J, ?_, ?_, h⟩
      · rw [fX8_kinds]
        simp (disch := omega) only [eX8_kinds, xRl, xG1, xG2, kAll, rAll, nAll, List.map_nil, List.map_cons, List.sum_nil, List.sum_cons, Nat.reduceAdd, Nat.reduceSub, Nat.reduceMul, Nat.reduceLeDiff, Nat.reduceEqDiff, Nat.reduceLT, and_true, true_and, and_self, if_true, if_false, ne_eq, not_false_eq_true, not_true_eq_false, or_false, false_or, or_true, true_or, false_and, and_false, reduceIte, reduceCtorEq, xB, ite_not, xretf_zc, xretf_c, xcont_c, xbd, p8_among, h1, hk, hw, hS, k1.1, k1.2, e, nI_neg0, cl_nI, hrg.1]
        have key := xloop (t := tX8_kinds) (st := fun i (_ : Unit) => (56, [.ref 1, .int (nI a), .int (nI b), .int (nI (shC I yr 0 a)), .int (nI (cv I a 2)), .int (nI (msk f i)), .int (nI i)], [], 0, S0 L I J)) (g := fun _ _ => ()) (N := 6) (Inv := fun _ _ => True) (a0 := ()) trivial (by
          intro i x hi _
          refine ⟨?_, trivial⟩
          have hm := msk_lt f i
          have hc2 := hcl i
          have hrg2 := hrg.2
          show xD tX8_kinds (56, _) = _
          rw [hX8_kinds_56]
          simp (disch := omega) only [eX8_kinds, xRl, xG1, xG2, kAll, rAll, nAll, List.map_nil, List.map_cons, List.sum_nil, List.sum_cons, Nat.reduceAdd, Nat.reduceSub, Nat.reduceMul, Nat.reduceLeDiff, Nat.reduceEqDiff, Nat.reduceLT, and_true, true_and, and_self, if_true, if_false, ne_eq, not_false_eq_true, not_true_eq_false, or_false, false_or, or_true, true_or, false_and, and_false, reduceIte, reduceCtorEq, xB, ite_not, xretf_zc, xretf_c, xcont_c, xbd, nI_leI, p1_countReached, nI_eq, shl1, nI_add, hfd]
          rw [if_neg (by omega)]
          show _ = xD tX8_kinds (56, [_, _, _, _, _, .int (nI (msk f i + _)), _], _)
          split
          · rw [or_pow hm]
          · rfl) 6 (Nat.le_refl 6)
        rw [show xD tX8_kinds (56, [.ref 1, .int (nI a), .int (nI b), .int (nI (shC I yr 0 a)), .int (nI (cv I a 2)), .int (nI 0), .int (nI 0)], [], 0, S0 L I J) = _ from key.1, hX8_kinds_56]
        simp (disch := omega) only [eX8_kinds, xRl, xG1, xG2, kAll, rAll, nAll, List.map_nil, List.map_cons, List.sum_nil, List.sum_cons, Nat.reduceAdd, Nat.reduceSub, Nat.reduceMul, Nat.reduceLeDiff, Nat.reduceEqDiff, Nat.reduceLT, and_true, true_and, and_self, if_true, if_false, ne_eq, not_false_eq_true, not_true_eq_false, or_false, false_or, or_true, true_or, false_and, and_false, reduceIte, reduceCtorEq, xB, ite_not, xretf_zc, xretf_c, xcont_c, xbd, nI_leI]
      · rw [fX9_kinds]
        simp (disch := omega) only [eX9_kinds, xRl, xG1, xG2, kAll, rAll, nAll, List.map_nil, List.map_cons, List.sum_nil, List.sum_cons, Nat.reduceAdd, Nat.reduceSub, Nat.reduceMul, Nat.reduceLeDiff, Nat.reduceEqDiff, Nat.reduceLT, and_true, true_and, and_self, if_true, if_false, ne_eq, not_false_eq_true, not_true_eq_false, or_false, false_or, or_true, true_or, false_and, and_false, reduceIte, reduceCtorEq, xB, ite_not, xretf_zc, xretf_c, xcont_c, xbd, p9_isName L I J n (by omega) hM.2.1, hk, p9_inL, hw]
        have key := xloop (t := tX9_kinds) (st := fun i (_ : Unit) => (27, [.ref 77, .int (nI a), .int (nI b), .int (nI (msk f i)), .int (nI i)], [], 0, S0 L I J)) (g := fun _ _ => ()) (N := 6) (Inv := fun _ _ => True) (a0 := ()) trivial (by
          intro i x hi _
          refine ⟨?_, trivial⟩
          have hm := msk_lt f i
          have hc2 := hcl i
          have hrg2 := hrg.2
          show xD tX9_kinds (27, _) = _
          rw [hX9_kinds_27]
          simp (disch := omega) only [eX9_kinds, xRl, xG1, xG2, kAll, rAll, nAll, List.map_nil, List.map_cons, List.sum_nil, List.sum_cons, Nat.reduceAdd, Nat.reduceSub, Nat.reduceMul, Nat.reduceLeDiff, Nat.reduceEqDiff, Nat.reduceLT, and_true, true_and, and_self, if_true, if_false, ne_eq, not_false_eq_true, not_true_eq_false, or_false, false_or, or_true, true_or, false_and, and_false, reduceIte, reduceCtorEq, xB, ite_not, xretf_zc, xretf_c, xcont_c, xbd, nI_leI, p9_of, g3, hS9, p9_reachedBy, nI_eq, shl1, nI_add, hfd]
          rw [if_neg (by omega)]
          show _ = xD tX9_kinds (27, [_, _, _, .int (nI (msk f i + _)), _], _)
          split
          · rw [or_pow hm]
          · rw [or_0]; rfl) 6 (Nat.le_refl 6)
        rw [show xD tX9_kinds (27, [.ref 77, .int (nI a), .int (nI b), .int (nI 0), .int (nI 0)], [], 0, S0 L I J) = _ from key.1, hX9_kinds_27]
        simp (disch := omega) only [eX9_kinds, xRl, xG1, xG2, kAll, rAll, nAll, List.map_nil, List.map_cons, List.sum_nil, List.sum_cons, Nat.reduceAdd, Nat.reduceSub, Nat.reduceMul, Nat.reduceLeDiff, Nat.reduceEqDiff, Nat.reduceLT, and_true, true_and, and_self, if_true, if_false, ne_eq, not_false_eq_true, not_true_eq_false, or_false, false_or, or_true, true_or, false_and, and_false, reduceIte, reduceCtorEq, xB, ite_not, xretf_zc, xretf_c, xcont_c, xbd, nI_leI]
    · refine ⟨.int (-1), I, J, I, J, ?_, ?_, h⟩
      · rw [fX8_kinds]
        simp (disch := omega) only [eX8_kinds, xRl, xG1, xG2, kAll, rAll, nAll, List.map_nil, List.map_cons, List.sum_nil, List.sum_cons, Nat.reduceAdd, Nat.reduceSub, Nat.reduceMul, Nat.reduceLeDiff, Nat.reduceEqDiff, Nat.reduceLT, and_true, true_and, and_self, if_true, if_false, ne_eq, not_false_eq_true, not_true_eq_false, or_false, false_or, or_true, true_or, false_and, and_false, reduceIte, reduceCtorEq, xB, ite_not, xretf_zc, xretf_c, xcont_c, xbd, p8_among, h1, hk, hw]
      · rw [fX9_kinds]
        simp (disch := omega) only [eX9_kinds, xRl, xG1, xG2, kAll, rAll, nAll, List.map_nil, List.map_cons, List.sum_nil, List.sum_cons, Nat.reduceAdd, Nat.reduceSub, Nat.reduceMul, Nat.reduceLeDiff, Nat.reduceEqDiff, Nat.reduceLT, and_true, true_and, and_self, if_true, if_false, ne_eq, not_false_eq_true, not_true_eq_false, or_false, false_or, or_true, true_or, false_and, and_false, reduceIte, reduceCtorEq, xB, ite_not, xretf_zc, xretf_c, xcont_c, xbd, p9_isName L I J n (by omega) hM.2.1, hk, p9_inL, hw]
  · refine ⟨.int (-1), I, J, I, J, ?_, ?_, h⟩
    · rw [fX8_kinds]
      simp (disch := omega) only [eX8_kinds, xRl, xG1, xG2, kAll, rAll, nAll, List.map_nil, List.map_cons, List.sum_nil, List.sum_cons, Nat.reduceAdd, Nat.reduceSub, Nat.reduceMul, Nat.reduceLeDiff, Nat.reduceEqDiff, Nat.reduceLT, and_true, true_and, and_self, if_true, if_false, ne_eq, not_false_eq_true, not_true_eq_false, or_false, false_or, or_true, true_or, false_and, and_false, reduceIte, reduceCtorEq, xB, ite_not, xretf_zc, xretf_c, xcont_c, xbd, p8_among, h1, hk]
    · rw [fX9_kinds]
      simp (disch := omega) only [eX9_kinds, xRl, xG1, xG2, kAll, rAll, nAll, List.map_nil, List.map_cons, List.sum_nil, List.sum_cons, Nat.reduceAdd, Nat.reduceSub, Nat.reduceMul, Nat.reduceLeDiff, Nat.reduceEqDiff, Nat.reduceLT, and_true, true_and, and_self, if_true, if_false, ne_eq, not_false_eq_true, not_true_eq_false, or_false, false_or, or_true, true_or, false_and, and_false, reduceIte, reduceCtorEq, xB, ite_not, xretf_zc, xretf_c, xcont_c, xbd, p9_isName L I J n (by omega) hM.2.1, hk]
end N1
