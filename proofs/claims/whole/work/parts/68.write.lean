/-! a registry out of a text: the class -/
def fg (f : Nat → Int32) (i w : Nat) : Nat := tn (f (i + w) - nI 48)
theorem fg_of {f : Nat → Int32} {i w : Nat} (h : fit w (f (i + w)) = true) (hw : 0 < w) : f (i + w) - nI 48 = nI (fg f i w) ∧ fg f i w ≤ gr w := by
  unfold fit at h
  rw [if_neg (by omega), decide_eq_true_eq] at h
  obtain ⟨j, hj, e⟩ := (Am_iff (by have := gr_lt w; omega)).mp ((fig_iff (gr_lt w)).mpr h)
  have h10 := gr_lt w
  have e2 : fg f i w = j := by
    unfold fg tn
    rw [e, cl_nI (by omega)]
  rw [e2]
  exact ⟨e, by omega⟩
def NW (f : Nat → Int32) (I : Nat → Nat → Int32) (a i : Nat) : Prop := I a 0 = nI (kl (f i)) ∧ I a 1 = nI (36 * fg f i 1 + 6 * fg f i 2 + fg f i 3) ∧ I a 2 = nI (fg f i 4) ∧ I a 3 = nI (fg f i 5) ∧ I a 4 = nI (fg f i 6) ∧ I a 5 = nI (fg f i 7)
section WR
variable (L : Nat) (J : Nat → Nat → Int64)
theorem p7_figure (I : Nat → Nat → Int32) {t i : Nat} (ht : t < 4) (hi : i < 80) : FX7_figure [.ref (16 + 2 * t), .int (nI i)] (S0 L I J) = some (some (.int (I (17 + 2 * t) i - nI 48)), S0 L I J) := by
  obtain ⟨k1, k2, k3, k4⟩ := kTxt t ht
  have k5 := nTxt L t ht
  have e' : ¬ 17 + 2 * t = 0 := by omega
  rw [fX7_figure]
  simp (disch := omega) only [eX7_figure, xRl, xG1, xG2, kAll, rAll, nAll, List.map_nil, List.map_cons, List.sum_nil, List.sum_cons, Nat.reduceAdd, Nat.reduceSub, Nat.reduceMul, Nat.reduceLeDiff, Nat.reduceEqDiff, Nat.reduceLT, and_true, true_and, and_self, if_true, if_false, ne_eq, not_false_eq_true, not_true_eq_false, or_false, false_or, or_true, true_or, false_and, and_false, reduceIte, reduceCtorEq, xB, ite_not, xretf_zc, xretf_c, xcont_c, xbd, k1, k2, k4, k5, e', nI_neg0, cl_nI]
theorem p4_grow (I : Nat → Nat → Int32) {c : Nat} (hc : c < 8) (h : I 24 1 = nI c) : FX4_grow [.ref 24] (S0 L I J) = some (some (.ref (26 + c)), S0 L (xup I 24 1 (nI (c + 1))) J) := by
  obtain ⟨⟨g1, g2, g3, g4, g5, g6, g7⟩, g8⟩ := kG L (g := 24) (Or.inl rfl)
  obtain ⟨q1, q2⟩ := g8 c hc
  have e : ¬ 24 + 2 + c = 0 := by omega
  have q2 : R0 25 c = 26 + c := by rw [show 26 + c = 24 + 2 + c by omega]; exact q2
  rw [fX4_grow]
  simp (disch := omega) only [eX4_grow, xRl, xG1, xG2, kAll, rAll, nAll, List.map_nil, List.map_cons, List.sum_nil, List.sum_cons, Nat.reduceAdd, Nat.reduceSub, Nat.reduceMul, Nat.reduceLeDiff, Nat.reduceEqDiff, Nat.reduceLT, and_true, true_and, and_self, if_true, if_false, ne_eq, not_false_eq_true, not_true_eq_false, or_false, false_or, or_true, true_or, false_and, and_false, reduceIte, reduceCtorEq, xB, ite_not, xretf_zc, xretf_c, xcont_c, xbd, h, nI_neg0, cl_nI, q2, e, nI_add]
theorem p4_begin (I : Nat → Nat → Int32) {g : Nat} (hg : isG g) : FX4_begin [.ref g] (S0 L I J) = some (none, S0 L (xup (xup (xup I g 1 (nI 0)) g 3 (nI 0)) g 4 (nI 0)) J) := by
  obtain ⟨⟨g1, g2, g3, g4, g5, g6, g7⟩, g8⟩ := kG L hg
  rw [fX4_begin]
  simp (disch := omega) only [eX4_begin, xRl, xG1, xG2, kAll, rAll, nAll, List.map_nil, List.map_cons, List.sum_nil, List.sum_cons, Nat.reduceAdd, Nat.reduceSub, Nat.reduceMul, Nat.reduceLeDiff, Nat.reduceEqDiff, Nat.reduceLT, and_true, true_and, and_self, if_true, if_false, ne_eq, not_false_eq_true, not_true_eq_false, or_false, false_or, or_true, true_or, false_and, and_false, reduceIte, reduceCtorEq, xB, ite_not, xretf_zc, xretf_c, xcont_c, xbd, g1]
theorem p7_writeItem (I : Nat → Nat → Int32) {f : Nat → Int32} {t i k : Nat} (ht : t < 4) (hi : i + 8 ≤ 80) (hk : k < 8) (hf : ∀ q, q < 80 → I (17 + 2 * t) q = f q) (hfit : ∀ w, w < 8 → fit w (f (i + w)) = true) : ∃ I2, FX7_writeItem [.ref (16 + 2 * t), .int (nI i), .ref (26 + k)] (S0 L I J) = some (none, S0 L I2 J) ∧ (∀ a, a ≠ 26 + k → I2 a = I a) ∧ NW f I2 (26 + k) i := by
  obtain ⟨k1, k2, k3, k4⟩ := kTxt t ht
  have k5 := nTxt L t ht
  have e' : ¬ 17 + 2 * t = 0 := by omega
  obtain ⟨kn, -⟩ := (kG L (g := 24) (Or.inl rfl)).2 k hk
  rw [show 24 + 2 + k = 26 + k by omega] at kn
  have h0 : fit 0 (f (i + 0)) = true := hfit 0 (by omega)
  have hkl : ¬ kl (f i) = 6 := by
    unfold fit at h0
    rw [if_pos rfl, decide_eq_true_eq] at h0
    exact Nat.ne_of_lt h0
  obtain ⟨d1, d1'⟩ := fg_of (hfit 1 (by omega)) (by omega)
  obtain ⟨d2, d2'⟩ := fg_of (hfit 2 (by omega)) (by omega)
  obtain ⟨d3, d3'⟩ := fg_of (hfit 3 (by omega)) (by omega)
  obtain ⟨d4, d4'⟩ := fg_of (hfit 4 (by omega)) (by omega)
  obtain ⟨d5, d5'⟩ := fg_of (hfit 5 (by omega)) (by omega)
  obtain ⟨d6, d6'⟩ := fg_of (hfit 6 (by omega)) (by omega)
  obtain ⟨d7, d7'⟩ := fg_of (hfit 7 (by omega)) (by omega)
  have d7'' : fg f i 7 ≤ 1 := d7'
  have fgs : ∀ (I1 : Nat → Nat → Int32), I1 (17 + 2 * t) = I (17 + 2 * t) → ∀ w, 0 < w → w < 8 → f (i + w) - nI 48 = nI (fg f i w) → FX7_figure [.ref (16 + 2 * t), .int (nI (i + w))] (S0 L I1 J) = some (some (.int (nI (fg f i w))), S0 L I1 J) := fun I1 e1 w hw0 hw e2 => by
    rw [p7_figure L J I1 ht (by omega), e1, hf _ (by omega), e2]
  have ne : 17 + 2 * t ≠ 26 + k := by omega
  generalize hI1 : xup I (26 + k) 0 (nI (kl (f i))) = I1
  generalize hI2 : xup I1 (26 + k) 1 (nI (36 * fg f i 1 + 6 * fg f i 2 + fg f i 3)) = I2
  generalize hI3 : xup I2 (26 + k) 2 (nI (fg f i 4)) = I3
  generalize hI4 : xup I3 (26 + k) 3 (nI (fg f i 5)) = I4
  generalize hI5 : xup I4 (26 + k) 4 (nI (fg f i 6)) = I5
  have o1 : I1 (17 + 2 * t) = I (17 + 2 * t) := by rw [← hI1, xup_ne _ _ _ ne]
  have o2 : I2 (17 + 2 * t) = I (17 + 2 * t) := by rw [← hI2, xup_ne _ _ _ ne, o1]
  have o3 : I3 (17 + 2 * t) = I (17 + 2 * t) := by rw [← hI3, xup_ne _ _ _ ne, o2]
  have o4 : I4 (17 + 2 * t) = I (17 + 2 * t) := by rw [← hI4, xup_ne _ _ _ ne, o3]
  have o5 : I5 (17 + 2 * t) = I (17 + 2 * t) := by rw [← hI5, xup_ne _ _ _ ne, o4]
  have r0 : I (17 + 2 * t) i = f i := hf i (by omega)
  have c1 := fgs I1 o1 1 (by omega) (by omega) d1
  have c2 := fgs I1 o1 2 (by omega) (by omega) d2
  have c3 := fgs I1 o1 3 (by omega) (by omega) d3
  have c4 := fgs I2 o2 4 (by omega) (by omega) d4
  have c5 := fgs I3 o3 5 (by omega) (by omega) d5
  have c6 := fgs I4 o4 6 (by omega) (by omega) d6
  have c7 := fgs I5 o5 7 (by omega) (by omega) d7
  refine ⟨xup I5 (26 + k) 5 (nI (fg f i 7)), ?_, fun a ha => ?_, ?_, ?_, ?_, ?_, ?_, ?_⟩
  · rw [fX7_writeItem]
    by_cases h7 : fg f i 7 = 1
    · rw [h7] at c7 ⊢
      simp (disch := omega) only [eX7_writeItem, xRl, xG1, xG2, kAll, rAll, nAll, List.map_nil, List.map_cons, List.sum_nil, List.sum_cons, Nat.reduceAdd, Nat.reduceSub, Nat.reduceMul, Nat.reduceLeDiff, Nat.reduceEqDiff, Nat.reduceLT, and_true, true_and, and_self, if_true, if_false, ne_eq, not_false_eq_true, not_true_eq_false, or_false, false_or, or_true, true_or, false_and, and_false, reduceIte, reduceCtorEq, xB, ite_not, xretf_zc, xretf_c, xcont_c, xbd, k1, k2, k4, k5, e', kn, nI_neg0, cl_nI, r0, p1_ofLetter, hkl, hI1, nI_add, c1, c2, c3, p6_of, hI2, c4, hI3, c5, hI4, c6, hI5, c7, b01]
    · have h7' : fg f i 7 = 0 := by omega
      rw [h7'] at c7 ⊢
      simp (disch := omega) only [eX7_writeItem, xRl, xG1, xG2, kAll, rAll, nAll, List.map_nil, List.map_cons, List.sum_nil, List.sum_cons, Nat.reduceAdd, Nat.reduceSub, Nat.reduceMul, Nat.reduceLeDiff, Nat.reduceEqDiff, Nat.reduceLT, and_true, true_and, and_self, if_true, if_false, ne_eq, not_false_eq_true, not_true_eq_false, or_false, false_or, or_true, true_or, false_and, and_false, reduceIte, reduceCtorEq, xB, ite_not, xretf_zc, xretf_c, xcont_c, xbd, k1, k2, k4, k5, e', kn, nI_neg0, cl_nI, r0, p1_ofLetter, hkl, hI1, nI_add, c1, c2, c3, p6_of, hI2, c4, hI3, c5, hI4, c6, hI5, c7, nI_eq, b00]
  · rw [xup_ne _ _ _ ha, ← hI5, xup_ne _ _ _ ha, ← hI4, xup_ne _ _ _ ha, ← hI3, xup_ne _ _ _ ha, ← hI2, xup_ne _ _ _ ha, ← hI1, xup_ne _ _ _ ha]
  all_goals simp [← hI5, ← hI4, ← hI3, ← hI2, ← hI1, xup_self]
def WI (I I1 : Nat → Nat → Int32) (c : Nat) : Prop := (∀ a, a < 24 ∨ 33 < a → I1 a = I a) ∧ I1 24 1 = nI c ∧ I1 24 3 = nI 0 ∧ I1 24 4 = nI 0 ∧ ∀ k, k < 8 → I1 (26 + k) 5 = nI 0 ∨ I1 (26 + k) 5 = nI 1
theorem p7_writeInto (I : Nat → Nat → Int32) {f : Nat → Int32} {t m : Nat} (ht : t < 4) (hm : m ≤ 80) (hz : I (16 + 2 * t) 1 = nI m) (hf : ∀ q, q < 80 → I (17 + 2 * t) q = f q) (hb : ∀ k, k < 8 → I (26 + k) 5 = nI 0 ∨ I (26 + k) 5 = nI 1) (hp : pf f m (m + 1) 0 0 = none) : ∃ I2, FX7_writeInto [.ref (16 + 2 * t), .ref 24] (S0 L I J) = some (none, S0 L I2 J) ∧ WI I I2 (ps f m (m + 1) 0).length ∧ ∀ k (hk : k < (ps f m (m + 1) 0).length), NW f I2 (26 + k) ((ps f m (m + 1) 0)[k]) := by
  obtain ⟨k1, k2, k3, k4⟩ := kTxt t ht
  have k5 := nTxt L t ht
  have e' : ¬ 17 + 2 * t = 0 := by omega
  have key : ∀ (e i c : Nat) (I1 : Nat → Nat → Int32), m < i + e → i ≤ m → c ≤ 8 → pf f m e i c = none → WI I I1 c → ∃ I2, xretf none (xD tX7_writeInto (6, [.ref (16 + 2 * t), .ref 24, .int (nI i)], [], 0, S0 L I1 J)) = some (none, S0 L I2 J) ∧ WI I I2 (c + (ps f m e i).length) ∧ (∀ k, k < c → I2 (26 + k) = I1 (26 + k)) ∧ ∀ k (hk : k < (ps f m e i).length), NW f I2 (26 + c + k) ((ps f m e i)[k]) := by
    intro e
    induction e with
    | zero => intro i c I1 h1 h2; omega
    | succ e ih =>
      intro i c I1 h1 h2 hc hpf hW
      obtain ⟨g1, g2⟩ := pf_ok h1 h2 hc hpf
      have z1 : I1 (16 + 2 * t) 1 = nI m := by rw [hW.1 _ (by omega)]; exact hz
      by_cases hex : i + 8 ≤ m ∧ c < 8
      · have n1 : (m < i + 8) = False := eq_false (by omega)
        have n2 : (8 ≤ c) = False := eq_false (by omega)
        have hmi : ¬ m ≤ i := by omega
        have r0 : I1 (17 + 2 * t) i = f i := by rw [hW.1 _ (by omega)]; exact hf i (by omega)
        by_cases hbl : f i = nI 32
        · have hpf2 : pf f m e (i + 1) c = none := by rw [pf_s, if_neg hmi, if_pos hbl] at hpf; exact hpf
          have hps : ps f m (e + 1) i = ps f m e (i + 1) := by rw [ps_s, if_neg hmi, if_pos hbl]
          obtain ⟨I2, u1, u2, u3, u4⟩ := ih (i + 1) c I1 (by omega) (by omega) hc hpf2 hW
          simp only [hps]
          refine ⟨I2, ?_, u2, u3, u4⟩
          rw [← u1, hX7_writeInto_6]
          simp (disch := omega) only [eX7_writeInto, xRl, xG1, xG2, kAll, rAll, nAll, List.map_nil, List.map_cons, List.sum_nil, List.sum_cons, Nat.reduceAdd, Nat.reduceSub, Nat.reduceMul, Nat.reduceLeDiff, Nat.reduceEqDiff, Nat.reduceLT, and_true, true_and, and_self, if_true, if_false, ne_eq, not_false_eq_true, not_true_eq_false, or_false, false_or, or_true, true_or, false_and, and_false, reduceIte, reduceCtorEq, xB, ite_not, xretf_zc, xretf_c, xcont_c, xbd, nI_add, k1, k2, k4, k5, e', z1, nI_ltI, nI_leI, n1, hW.2.1, n2, nI_neg0, cl_nI, r0, hbl]
        · have hps : ps f m (e + 1) i = i :: ps f m e (i + 8) := by rw [ps_s, if_neg hmi, if_neg hbl]
          rw [pf_s, if_neg hmi, if_neg hbl, if_neg (by omega)] at hpf
          have hfi : fi f m i = none := by
            cases hq : fi f m i with
            | none => rfl
            | some q => rw [hq] at hpf; cases hpf
          rw [hfi] at hpf
          obtain ⟨f1, f2⟩ := fi_none hfi
          have cg := p4_grow L J I1 hex.2 hW.2.1
          obtain ⟨I2, w1, w2, w3⟩ := p7_writeItem L J (xup I1 24 1 (nI (c + 1))) (f := f) ht (by omega) hex.2 (fun q hq => by rw [xup_o _ _ _ _ (by omega), hW.1 _ (by omega)]; exact hf q hq) f2
          have h7 : fg f i 7 ≤ 1 := (fg_of (f2 7 (by omega)) (by omega)).2
          have o24 : ∀ q, q ≠ 1 → I2 24 q = I1 24 q := fun q hq => by rw [w2 24 (by omega), xup_self, if_neg hq]
          have hW2 : WI I I2 (c + 1) := by
            refine ⟨fun a ha => by rw [w2 a (by omega), xup_ne _ _ _ (by omega), hW.1 a ha], by rw [w2 24 (by omega), xup_self, if_pos rfl], by rw [o24 3 (by decide)]; exact hW.2.2.1, by rw [o24 4 (by decide)]; exact hW.2.2.2.1, fun k hk => ?_⟩
            by_cases hkc : k = c
            · subst hkc
              rw [w3.2.2.2.2.2]
              rcases Nat.lt_or_ge (fg f i 7) 1 with q | q
              · exact Or.inl (by rw [show fg f i 7 = 0 by omega])
              · exact Or.inr (by rw [show fg f i 7 = 1 by omega])
            · rw [w2 _ (by omega), xup_ne _ _ _ (by omega)]
              exact hW.2.2.2.2 k hk
          obtain ⟨I3, u1, u2, u3, u4⟩ := ih (i + 8) (c + 1) I2 (by omega) (by omega) (by omega) hpf hW2
          have hle : c + 1 + (ps f m e (i + 8)).length = c + ((ps f m e (i + 8)).length + 1) := by omega
          simp only [hps, List.length_cons]
          refine ⟨I3, ?_, hle ▸ u2, fun k hk => by rw [u3 k (by omega), w2 _ (by omega), xup_ne _ _ _ (by omega)], fun k hk => ?_⟩
          · rw [← u1, hX7_writeInto_6]
            simp (disch := omega) only [eX7_writeInto, xRl, xG1, xG2, kAll, rAll, nAll, List.map_nil, List.map_cons, List.sum_nil, List.sum_cons, Nat.reduceAdd, Nat.reduceSub, Nat.reduceMul, Nat.reduceLeDiff, Nat.reduceEqDiff, Nat.reduceLT, and_true, true_and, and_self, if_true, if_false, ne_eq, not_false_eq_true, not_true_eq_false, or_false, false_or, or_true, true_or, false_and, and_false, reduceIte, reduceCtorEq, xB, ite_not, xretf_zc, xretf_c, xcont_c, xbd, nI_add, k1, k2, k4, k5, e', z1, nI_ltI, nI_leI, n1, hW.2.1, n2, nI_neg0, cl_nI, r0, hbl, cg, w1]
          · cases k with
            | zero =>
              have := u3 c (by omega)
              unfold NW
              rw [show 26 + c + 0 = 26 + c by omega, this]
              exact w3
            | succ k =>
              have := u4 k (by omega)
              rw [show 26 + c + (k + 1) = 26 + (c + 1) + k by omega]
              exact this
      · have hl : (ps f m (e + 1) i).length = 0 := by
          rcases Nat.eq_zero_or_pos (ps f m (e + 1) i).length with q | q
          · exact q
          · have := g2 0 q
            omega
        refine ⟨I1, ?_, by rw [hl]; exact hW, fun _ _ => rfl, fun k hk => absurd hk (by omega)⟩
        rw [hX7_writeInto_6]
        by_cases hi8 : i + 8 ≤ m
        · have n1 : (m < i + 8) = False := eq_false (by omega)
          have n2 : (8 ≤ c) = True := eq_true (by omega)
          simp (disch := omega) only [eX7_writeInto, xRl, xG1, xG2, kAll, rAll, nAll, List.map_nil, List.map_cons, List.sum_nil, List.sum_cons, Nat.reduceAdd, Nat.reduceSub, Nat.reduceMul, Nat.reduceLeDiff, Nat.reduceEqDiff, Nat.reduceLT, and_true, true_and, and_self, if_true, if_false, ne_eq, not_false_eq_true, not_true_eq_false, or_false, false_or, or_true, true_or, false_and, and_false, reduceIte, reduceCtorEq, xB, ite_not, xretf_zc, xretf_c, xcont_c, xbd, nI_add, k1, z1, nI_ltI, nI_leI, n1, hW.2.1, n2]
        · have n1 : (m < i + 8) = True := eq_true (by omega)
          simp (disch := omega) only [eX7_writeInto, xRl, xG1, xG2, kAll, rAll, nAll, List.map_nil, List.map_cons, List.sum_nil, List.sum_cons, Nat.reduceAdd, Nat.reduceSub, Nat.reduceMul, Nat.reduceLeDiff, Nat.reduceEqDiff, Nat.reduceLT, and_true, true_and, and_self, if_true, if_false, ne_eq, not_false_eq_true, not_true_eq_false, or_false, false_or, or_true, true_or, false_and, and_false, reduceIte, reduceCtorEq, xB, ite_not, xretf_zc, xretf_c, xcont_c, xbd, nI_add, k1, z1, nI_ltI, nI_leI, n1]
  have hb0 := p4_begin L J I (g := 24) (Or.inl rfl)
  generalize hI0 : xup (xup (xup I 24 1 (nI 0)) 24 3 (nI 0)) 24 4 (nI 0) = I0 at hb0
  have hW0 : WI I I0 0 := by
    rw [← hI0]
    refine ⟨fun a ha => by rw [xup_ne _ _ _ (by omega), xup_ne _ _ _ (by omega), xup_ne _ _ _ (by omega)], ?_, ?_, ?_, fun k hk => by rw [xup_ne _ _ _ (by omega), xup_ne _ _ _ (by omega), xup_ne _ _ _ (by omega)]; exact hb k hk⟩
    all_goals simp [xup_self]
  obtain ⟨I2, u1, u2, u3, u4⟩ := key (m + 1) 0 0 I0 (by omega) (by omega) (by omega) hp hW0
  refine ⟨I2, ?_, by rw [Nat.zero_add] at u2; exact u2, u4⟩
  rw [← u1, fX7_writeInto]
  simp (disch := omega) only [eX7_writeInto, xRl, xG1, xG2, kAll, rAll, nAll, List.map_nil, List.map_cons, List.sum_nil, List.sum_cons, Nat.reduceAdd, Nat.reduceSub, Nat.reduceMul, Nat.reduceLeDiff, Nat.reduceEqDiff, Nat.reduceLT, and_true, true_and, and_self, if_true, if_false, ne_eq, not_false_eq_true, not_true_eq_false, or_false, false_or, or_true, true_or, false_and, and_false, reduceIte, reduceCtorEq, xB, ite_not, xretf_zc, xretf_c, xcont_c, xbd, hb0]
end WR
