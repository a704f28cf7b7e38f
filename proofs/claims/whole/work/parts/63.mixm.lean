/-! the reference's mixings -/
theorem p9_mixed {s t : Nat} (hs : s < 216) (ht : t < 216) (σ : xS) : FX9_mixed [.int (nI s), .int (nI t)] σ = some (some (.int (nI (mx s t))), σ) := by
  rw [fX9_mixed]
  simp (disch := omega) only [eX9_mixed, xRl, xG1, xG2, kAll, rAll, nAll, List.map_nil, List.map_cons, List.sum_nil, List.sum_cons, Nat.reduceAdd, Nat.reduceSub, Nat.reduceMul, Nat.reduceLeDiff, Nat.reduceEqDiff, Nat.reduceLT, and_true, true_and, and_self, if_true, if_false, ne_eq, not_false_eq_true, not_true_eq_false, or_false, false_or, or_true, true_or, false_and, and_false, reduceIte, reduceCtorEq, xB, ite_not, xretf_zc, xretf_c, xcont_c, xbd, nI_z, pk_div, rem1, rem2, nI_add, pk_mul]
  rfl
section PM
variable (L : Nat) (J : Nat → Nat → Int64)
theorem p9_reachedAt (I : Nat → Nat → Int32) {w t a : Nat} (hw : w < 216) (ht : t < 100) (ha : a < 100) (e : I 88 w = nI a) : FX9_reachedAt [.ref 77, .int (nI w), .int (nI t)] (S0 L I J) = some (none, S0 L (xup I 88 w (nI (min t a))) J) := by
  rw [fX9_reachedAt]
  by_cases h : t < a
  · have h1 : (a ≤ t) = False := eq_false (by omega)
    rw [Nat.min_eq_left (by omega)]
    simp (disch := omega) only [eX9_reachedAt, xRl, xG1, xG2, kAll, rAll, nAll, List.map_nil, List.map_cons, List.sum_nil, List.sum_cons, Nat.reduceAdd, Nat.reduceSub, Nat.reduceMul, Nat.reduceLeDiff, Nat.reduceEqDiff, Nat.reduceLT, and_true, true_and, and_self, if_true, if_false, ne_eq, not_false_eq_true, not_true_eq_false, or_false, false_or, or_true, true_or, false_and, and_false, reduceIte, reduceCtorEq, xB, ite_not, xretf_zc, xretf_c, xcont_c, xbd, nI_neg0, cl_nI, e, nI_leI, h1]
  · have h1 : (a ≤ t) = True := eq_true (by omega)
    rw [Nat.min_eq_right (by omega)]
    simp (disch := omega) only [eX9_reachedAt, xRl, xG1, xG2, kAll, rAll, nAll, List.map_nil, List.map_cons, List.sum_nil, List.sum_cons, Nat.reduceAdd, Nat.reduceSub, Nat.reduceMul, Nat.reduceLeDiff, Nat.reduceEqDiff, Nat.reduceLT, and_true, true_and, and_self, if_true, if_false, ne_eq, not_false_eq_true, not_true_eq_false, or_false, false_or, or_true, true_or, false_and, and_false, reduceIte, reduceCtorEq, xB, ite_not, xretf_zc, xretf_c, xcont_c, xbd, nI_neg0, cl_nI, e, nI_leI, h1]
def SM (I I1 : Nat → Nat → Int32) (n : Nat) (v A : Nat → Nat) : Prop := (∀ c, c ≠ 87 → c ≠ 88 → I1 c = I c) ∧ (∀ k, k < n → I1 87 k = nI (v k)) ∧ ∀ s, s < 216 → I1 88 s = nI (A s)
theorem SM_mk {I I1 : Nat → Nat → Int32} {n : Nat} {v A : Nat → Nat} (h : SM I I1 n v A) (w t : Nat) : SM I (xup I1 88 w (nI (min t (A w)))) n v (mk A w t) := by
  refine ⟨fun c h1 h2 => by rw [xup_ne _ _ _ h2, h.1 c h1 h2], fun k hk => by rw [xup_o _ _ _ _ (by decide), h.2.1 k hk], fun s hs => ?_⟩
  unfold mk
  by_cases e : s = w
  · rw [e, upN_s, xup_self, if_pos rfl]
  · rw [upN_o _ _ e, xup_self, if_neg e, h.2.2 s hs]
theorem SM_put {I I1 : Nat → Nat → Int32} {n : Nat} {v A : Nat → Nat} (h : SM I I1 n v A) (w : Nat) : SM I (xup I1 87 n (nI w)) (n + 1) (upN v n w) A := by
  refine ⟨fun c h1 h2 => by rw [xup_ne _ _ _ h1, h.1 c h1 h2], fun k hk => ?_, fun s hs => by rw [xup_o _ _ _ _ (by decide), h.2.2 s hs]⟩
  by_cases e : k = n
  · rw [e, upN_s, xup_self, if_pos rfl]
  · rw [upN_o _ _ e, xup_self, if_neg e, h.2.1 k (by omega)]
theorem SM_drop {I I1 : Nat → Nat → Int32} {n w : Nat} {v A : Nat → Nat} (h : SM I I1 (n + 1) (upN v n w) A) : SM I I1 n v A :=
  ⟨h.1, fun k hk => by rw [h.2.1 k (by omega), upN_o _ _ (by omega)], h.2.2⟩
theorem qb {q M : Nat} (hq : q < M * M) : q / M < M ∧ q % M < M := by
  have hM : 0 < M := Nat.pos_of_ne_zero (fun h => by subst h; omega)
  exact ⟨Nat.div_lt_of_lt_mul hq, Nat.mod_lt _ hM⟩
theorem qab {a b M : Nat} (ha : a < M) (hb : b < M) : a * M + b < M * M ∧ (a * M + b) / M = a ∧ (a * M + b) % M = b := by
  refine ⟨?_, ?_, ?_⟩
  · have : (a + 1) * M ≤ M * M := Nat.mul_le_mul_right M ha
    rw [Nat.add_mul] at this
    omega
  · rw [Nat.mul_comm, Nat.mul_add_div (by omega), Nat.div_eq_of_lt hb]; omega
  · rw [Nat.mul_comm, Nat.mul_add_mod, Nat.mod_eq_of_lt hb]
theorem p9_layMixed (I : Nat → Nat → Int32) {j n : Nat} {v : Nat → Nat} (hj : j < 6) (hn0 : 0 < n) (hn : n ≤ 4) (hz : I 79 j = nI n) (hv : ∀ k, k < n → I 80 (40 * j + k) = nI (v k) ∧ v k < 216) : ∃ I1 A, FX9_layMixed [.ref 77, .int (nI j)] (S0 L I J) = some (none, S0 L I1 J) ∧ (∀ c, c ≠ 87 → c ≠ 88 → I1 c = I c) ∧ (∀ s, s < 216 → I1 88 s = nI (A s)) ∧ Sd n v A ∧ ∀ t, t < 4 → ∀ s, Mr t n v s → A s ≤ t := by
  have hv2 : ∀ k, k < n → v k < 216 := fun k hk => (hv k hk).2
  -- all at nine
  have s0 := xloop (t := tX9_layMixed) (st := fun i (_ : Unit) => (2, [.ref 77, .int (nI j), .int (nI i), .null, .null, .null, .null], [], 0, S0 L (fl I 88 0 i (nI 9)) J)) (g := fun _ _ => ()) (N := 216) (Inv := fun _ _ => True) (a0 := ()) trivial (by
    intro i u hi _
    refine ⟨?_, trivial⟩
    have hnle : ¬ 216 ≤ i := by omega
    have e0 := fl_s I 88 0 i (nI 9)
    rw [Nat.zero_add] at e0
    show xD tX9_layMixed (2, _) = _
    rw [hX9_layMixed_2, ← e0]
    simp (disch := omega) only [eX9_layMixed, xRl, xG1, xG2, kAll, rAll, nAll, List.map_nil, List.map_cons, List.sum_nil, List.sum_cons, Nat.reduceAdd, Nat.reduceSub, Nat.reduceMul, Nat.reduceLeDiff, Nat.reduceEqDiff, Nat.reduceLT, and_true, true_and, and_self, if_true, if_false, ne_eq, not_false_eq_true, not_true_eq_false, or_false, false_or, or_true, true_or, false_and, and_false, reduceIte, reduceCtorEq, xB, ite_not, xretf_zc, xretf_c, xcont_c, xbd, nI_leI, hnle, nI_neg0, cl_nI, nI_add]) 216 (Nat.le_refl _)
  have s0 := s0.1
  simp only [fl_0] at s0
  generalize hI0 : fl I 88 0 216 (nI 9) = I0 at s0
  have o0 : ∀ c, c ≠ 88 → I0 c = I c := fun c hc => by rw [← hI0, fl_ne _ _ _ _ hc]
  -- the row
  obtain ⟨⟨I1, A1⟩, ⟨a1, a2, a3⟩, s1⟩ := xloopE (α := (Nat → Nat → Int32) × (Nat → Nat)) (t := tX9_layMixed) (st := fun k a => (32, [.ref 77, .int (nI j), .int (nI n), .int (nI k), .null, .null, .null], [], 0, S0 L a.1 J)) (N := n) (Inv := fun k a => SM I a.1 k v a.2 ∧ Sd n v a.2 ∧ ∀ q, q < k → a.2 (v q) ≤ 0) (a0 := (I0, fun _ => 9)) ⟨⟨fun c _ hc => o0 c hc, fun k hk => absurd hk (by omega), fun s hs => by show I0 88 s = nI 9; rw [← hI0, fl_in _ _ (by omega)]⟩, fun s _ => ⟨Nat.le_refl 9, fun q => absurd q (Nat.lt_irrefl 9)⟩, fun q hq => absurd hq (by omega)⟩ (by
    rintro k ⟨I1, A1⟩ hk ⟨a1, a2, a3⟩
    simp only at a1 a2 a3
    obtain ⟨e1, e2⟩ := hv k hk
    have b1 := SM_put a1 (v k)
    have b2 : SM I (xup I1 87 k (nI (v k))) (k + 1) v A1 := ⟨b1.1, fun q hq => by
      by_cases hqk : q = k
      · rw [hqk, xup_self, if_pos rfl]
      · rw [xup_self, if_neg hqk, a1.2.1 q (by omega)], b1.2.2⟩
    have hA := (a2 (v k) e2).1
    have c1 := p9_reachedAt L J (xup I1 87 k (nI (v k))) (t := 0) e2 (by omega) (by omega) (b2.2.2 (v k) e2)
    have f1 : I1 80 (40 * j + k) = nI (v k) := by rw [a1.1 80 (by decide) (by decide)]; exact e1
    have f2 : xup I1 87 k (nI (v k)) 87 k = nI (v k) := by rw [xup_self, if_pos rfl]
    have hnle : ¬ n ≤ k := by omega
    refine ⟨(xup (xup I1 87 k (nI (v k))) 88 (v k) (nI (min 0 (A1 (v k)))), mk A1 (v k) 0), ⟨SM_mk b2 (v k) 0, Sd_mk a2 (by omega) e2 ⟨k, hk, rfl⟩, fun q hq => ?_⟩, ?_⟩
    · by_cases hqk : q = k
      · rw [hqk]; exact mk_at _ _ _
      · exact Nat.le_trans (mk_le _ _ _ _) (a3 q (by omega))
    · show xD tX9_layMixed (32, _) = _
      rw [hX9_layMixed_32]
      simp (disch := omega) only [eX9_layMixed, xRl, xG1, xG2, kAll, rAll, nAll, List.map_nil, List.map_cons, List.sum_nil, List.sum_cons, Nat.reduceAdd, Nat.reduceSub, Nat.reduceMul, Nat.reduceLeDiff, Nat.reduceEqDiff, Nat.reduceLT, and_true, true_and, and_self, if_true, if_false, ne_eq, not_false_eq_true, not_true_eq_false, or_false, false_or, or_true, true_or, false_and, and_false, reduceIte, reduceCtorEq, xB, ite_not, xretf_zc, xretf_c, xcont_c, xbd, nI_leI, hnle, nI_neg0, cl_nI, pk_mul, nI_add, f1, f2, c1]) n (Nat.le_refl _)
  -- the mixings
  have hnn : ∃ P, n * n = P ∧ P ≤ 16 := ⟨n * n, rfl, Nat.mul_le_mul hn hn⟩
  have hmm : ∃ P, (n + 1) * (n + 1) = P ∧ P ≤ 25 := ⟨(n + 1) * (n + 1), rfl, Nat.mul_le_mul (show n + 1 ≤ 5 by omega) (show n + 1 ≤ 5 by omega)⟩
  have hpp : ∃ P, (n + 1 + 1) * (n + 1 + 1) = P ∧ P ≤ 36 := ⟨(n + 1 + 1) * (n + 1 + 1), rfl, Nat.mul_le_mul (show n + 1 + 1 ≤ 6 by omega) (show n + 1 + 1 ≤ 6 by omega)⟩
  obtain ⟨P1, hP1, hP1'⟩ := hnn
  obtain ⟨P2, hP2, hP2'⟩ := hmm
  obtain ⟨P3, hP3, hP3'⟩ := hpp
  obtain ⟨⟨I2, A2, w4, w5, w6⟩, ⟨b1, b2, b3, b4, b5, b6, b7⟩, s2⟩ := xloopE (α := (Nat → Nat → Int32) × (Nat → Nat) × Value × Value × Value) (t := tX9_layMixed) (st := fun q a => (73, [.ref 77, .int (nI j), .int (nI n), .int (nI q), a.2.2.1, a.2.2.2.1, a.2.2.2.2], [], 0, S0 L a.1 J)) (N := P1) (Inv := fun q a => SM I a.1 n v a.2.1 ∧ Sd n v a.2.1 ∧ (∀ s, a.2.1 s ≤ A1 s) ∧ (∀ q', q' < q → a.2.1 (mx (v (q' / n)) (v (q' % n))) ≤ 1 ∧ Dn 2 2 (n + 1) (upN v n (mx (v (q' / n)) (v (q' % n)))) a.2.1) ∧ okV a.2.2.1 ∧ okV a.2.2.2.1 ∧ okV a.2.2.2.2) (a0 := (I1, A1, .null, .null, .null)) ⟨a1, a2, fun _ => Nat.le_refl _, fun q hq => absurd hq (by omega), Or.inl rfl, Or.inl rfl, Or.inl rfl⟩ (by
    rintro q ⟨I2, A2, w4, w5, w6⟩ hq ⟨b1, b2, b3, b4, b5, b6, b7⟩
    simp only at b1 b2 b3 b4 b5 b6 b7
    obtain ⟨ha, hb⟩ := qb (hP1 ▸ hq)
    generalize hqa : q / n = a at ha
    generalize hqb : q % n = b at hb
    have hw := mx_lt (hv2 a ha) (hv2 b hb)
    have f1 := b1.2.1 a ha
    have f2 := b1.2.1 b hb
    generalize hw1 : mx (v a) (v b) = w1 at hw
    have c1 := SM_put b1 w1
    have c2 := SM_mk c1 w1 1
    have hA := (b2 w1 hw).1
    have c3 := p9_reachedAt L J (xup I2 87 n (nI w1)) (t := 1) hw (by omega) (by omega) (c1.2.2 w1 hw)
    have f3 : xup I2 87 n (nI w1) 87 n = nI w1 := by rw [xup_self, if_pos rfl]
    have hm1 : Mr 1 n v w1 := ⟨a, b, ha, hb, n, by omega, by rw [hw1, upN_s]⟩
    have c4 := Sd_mk b2 (t := 1) (by omega) hw hm1
    have hv1 := upN_lt hv2 hw
    generalize hv1' : upN v n w1 = v1 at hv1 c1 c2
    generalize hI3 : xup (xup I2 87 n (nI w1)) 88 w1 (nI (min 1 (A2 w1))) = I3 at c2 c3
    -- second
    obtain ⟨⟨I4, A4, u6⟩, ⟨d1, d2, d3, d4, d5⟩, s3⟩ := xloopE (α := (Nat → Nat → Int32) × (Nat → Nat) × Value) (t := tX9_layMixed) (st := fun q2 x => (124, [.ref 77, .int (nI j), .int (nI n), .int (nI q), .int (nI (n + 1)), .int (nI q2), x.2.2], [], 0, S0 L x.1 J)) (N := P2) (Inv := fun q2 x => SM I x.1 (n + 1) v1 x.2.1 ∧ Sd n v x.2.1 ∧ (∀ s, x.2.1 s ≤ mk A2 w1 1 s) ∧ (∀ q', q' < q2 → x.2.1 (mx (v1 (q' / (n + 1))) (v1 (q' % (n + 1)))) ≤ 2 ∧ Dn 1 3 (n + 1 + 1) (upN v1 (n + 1) (mx (v1 (q' / (n + 1))) (v1 (q' % (n + 1))))) x.2.1) ∧ okV x.2.2) (a0 := (I3, mk A2 w1 1, w6)) ⟨c2, c4, fun _ => Nat.le_refl _, fun q hq => absurd hq (by omega), b7⟩ (by
      rintro q2 ⟨I4, A4, u6⟩ hq2 ⟨d1, d2, d3, d4, d5⟩
      simp only at d1 d2 d3 d4 d5
      obtain ⟨hc, hd⟩ := qb (hP2 ▸ hq2)
      generalize hqc : q2 / (n + 1) = c at hc
      generalize hqd : q2 % (n + 1) = d at hd
      have hw := mx_lt (hv1 c hc) (hv1 d hd)
      have g1 := d1.2.1 c hc
      have g2 := d1.2.1 d hd
      generalize hw2 : mx (v1 c) (v1 d) = w2 at hw
      have e1 := SM_put d1 w2
      have e2 := SM_mk e1 w2 2
      have hA := (d2 w2 hw).1
      have e3 := p9_reachedAt L J (xup I4 87 (n + 1) (nI w2)) (t := 2) hw (by omega) (by omega) (e1.2.2 w2 hw)
      have g3 : xup I4 87 (n + 1) (nI w2) 87 (n + 1) = nI w2 := by rw [xup_self, if_pos rfl]
      have hm2 : Mr 2 n v w2 := ⟨a, b, ha, hb, c, d, hc, hd, n + 1, by omega, by rw [hw1, hv1', hw2, upN_s]⟩
      have e4 := Sd_mk d2 (t := 2) (by omega) hw hm2
      have hv22 := upN_lt hv1 hw
      generalize hv2' : upN v1 (n + 1) w2 = v2 at hv22 e1 e2
      generalize hI5 : xup (xup I4 87 (n + 1) (nI w2)) 88 w2 (nI (min 2 (A4 w2))) = I5 at e2 e3
      -- third
      obtain ⟨⟨I6, A6⟩, ⟨m1, m2, m3, m4⟩, s4⟩ := xloopE (α := (Nat → Nat → Int32) × (Nat → Nat)) (t := tX9_layMixed) (st := fun q3 x => (179, [.ref 77, .int (nI j), .int (nI n), .int (nI q), .int (nI (n + 1)), .int (nI q2), .int (nI q3)], [], 0, S0 L x.1 J)) (N := P3) (Inv := fun q3 x => SM I x.1 (n + 1 + 1) v2 x.2 ∧ Sd n v x.2 ∧ (∀ s, x.2 s ≤ mk A4 w2 2 s) ∧ (∀ q', q' < q3 → x.2 (mx (v2 (q' / (n + 1 + 1))) (v2 (q' % (n + 1 + 1)))) ≤ 3)) (a0 := (I5, mk A4 w2 2)) ⟨e2, e4, fun _ => Nat.le_refl _, fun q hq => absurd hq (by omega)⟩ (by
        rintro q3 ⟨I6, A6⟩ hq3 ⟨m1, m2, m3, m4⟩
        simp only at m1 m2 m3 m4
        obtain ⟨he, hf⟩ := qb (hP3 ▸ hq3)
        generalize hqe : q3 / (n + 1 + 1) = e at he
        generalize hqf : q3 % (n + 1 + 1) = f at hf
        have hw := mx_lt (hv22 e he) (hv22 f hf)
        have k1 := m1.2.1 e he
        have k2 := m1.2.1 f hf
        have he2 := hv22 e he
        have hf2 := hv22 f hf
        generalize hw3 : mx (v2 e) (v2 f) = w3 at hw
        have l2 := SM_mk m1 w3 3
        have hA := (m2 w3 hw).1
        have l3 := p9_reachedAt L J I6 (t := 3) hw (by omega) (by omega) (m1.2.2 w3 hw)
        have hm3 : Mr 3 n v w3 := ⟨a, b, ha, hb, c, d, hc, hd, e, f, he, hf, n + 1 + 1, by omega, by rw [hw1, hv1', hw2, hv2', hw3, upN_s]⟩
        have l4 := Sd_mk m2 (t := 3) (by omega) hw hm3
        have hnle : ¬ P3 ≤ q3 := by omega
        refine ⟨(xup I6 88 w3 (nI (min 3 (A6 w3))), mk A6 w3 3), ⟨l2, l4, fun s => Nat.le_trans (mk_le _ _ _ _) (m3 s), fun q' hq' => ?_⟩, ?_⟩
        · by_cases hqq : q' = q3
          · subst hqq
            show mk A6 w3 3 _ ≤ 3
            rw [hqe, hqf, hw3]
            exact mk_at _ _ _
          · exact Nat.le_trans (mk_le _ _ _ _) (m4 q' (by omega))
        · show xD tX9_layMixed (179, _) = _
          rw [hX9_layMixed_179]
          have hr : nI q3 - nI (e * (n + 1 + 1)) = nI f := by rw [← hqe, ← hqf]; exact rem2 (by omega)
          simp (disch := omega) only [eX9_layMixed, xRl, xG1, xG2, kAll, rAll, nAll, List.map_nil, List.map_cons, List.sum_nil, List.sum_cons, Nat.reduceAdd, Nat.reduceSub, Nat.reduceMul, Nat.reduceLeDiff, Nat.reduceEqDiff, Nat.reduceLT, and_true, true_and, and_self, if_true, if_false, ne_eq, not_false_eq_true, not_true_eq_false, or_false, false_or, or_true, true_or, false_and, and_false, reduceIte, reduceCtorEq, xB, ite_not, xretf_zc, xretf_c, xcont_c, xbd, nI_add, pk_mul, hP3, nI_leI, hnle, nI_z, pk_div, hqe, hr, nI_neg0, cl_nI, k1, k2, p9_mixed he2 hf2, hw3, l3]) P3 (Nat.le_refl _)
      have hnle : ¬ P2 ≤ q2 := by omega
      refine ⟨(I6, A6, .int (nI P3)), ⟨SM_drop (hv2'.symm ▸ m1), m2, fun s => Nat.le_trans (m3 s) (Nat.le_trans (mk_le _ _ _ _) (d3 s)), fun q' hq' => ?_, Or.inr ⟨_, rfl⟩⟩, ?_⟩
      · by_cases hqq : q' = q2
        · subst hqq
          show A6 _ ≤ 2 ∧ Dn 1 3 _ _ A6
          rw [hqc, hqd, hw2, hv2']
          refine ⟨Nat.le_trans (m3 w2) (mk_at _ _ _), fun e f he hf => ⟨?_, trivial⟩⟩
          obtain ⟨r1, r2, r3⟩ := qab he hf
          have := m4 (e * (n + 1 + 1) + f) (by rw [hP3] at r1; exact r1)
          rw [r2, r3] at this
          exact this
        · obtain ⟨r1, r2⟩ := d4 q' (by omega)
          have hle : ∀ s, A6 s ≤ A4 s := fun s => Nat.le_trans (m3 s) (mk_le _ _ _ _)
          exact ⟨Nat.le_trans (hle _) r1, Dn_mono hle 1 r2⟩
      · show xD tX9_layMixed (124, [_, _, _, _, _, _, u6], _) = _
        rw [hX9_layMixed_124]
        have hv1c := hv1 c hc
        have hr : nI q2 - nI (c * (n + 1)) = nI d := by rw [← hqc, ← hqd]; exact rem2 (by omega)
        have hv1d := hv1 d hd
        have hnn3 : (P3 ≤ P3) = True := eq_true (Nat.le_refl _)
        rcases d5 with rfl | ⟨z, rfl⟩
        all_goals
          simp (disch := omega) only [eX9_layMixed, xRl, xG1, xG2, kAll, rAll, nAll, List.map_nil, List.map_cons, List.sum_nil, List.sum_cons, Nat.reduceAdd, Nat.reduceSub, Nat.reduceMul, Nat.reduceLeDiff, Nat.reduceEqDiff, Nat.reduceLT, and_true, true_and, and_self, if_true, if_false, ne_eq, not_false_eq_true, not_true_eq_false, or_false, false_or, or_true, true_or, false_and, and_false, reduceIte, reduceCtorEq, xB, ite_not, xretf_zc, xretf_c, xcont_c, xbd, nI_add, pk_mul, hP2, nI_leI, hnle, nI_z, pk_div, hqc, hr, nI_neg0, cl_nI, g1, g2, p9_mixed hv1c hv1d, hw2, g3, e3]
          rw [show xD tX9_layMixed (179, [.ref 77, .int (nI j), .int (nI n), .int (nI q), .int (nI (n + 1)), .int (nI q2), .int (nI 0)], [], 0, S0 L I5 J) = _ from s4, hX9_layMixed_179]
          simp (disch := omega) only [eX9_layMixed, xRl, xG1, xG2, kAll, rAll, nAll, List.map_nil, List.map_cons, List.sum_nil, List.sum_cons, Nat.reduceAdd, Nat.reduceSub, Nat.reduceMul, Nat.reduceLeDiff, Nat.reduceEqDiff, Nat.reduceLT, and_true, true_and, and_self, if_true, if_false, ne_eq, not_false_eq_true, not_true_eq_false, or_false, false_or, or_true, true_or, false_and, and_false, reduceIte, reduceCtorEq, xB, ite_not, xretf_zc, xretf_c, xcont_c, xbd, nI_add, pk_mul, hP3, nI_leI, hnn3]) P2 (Nat.le_refl _)
    have hnle : ¬ P1 ≤ q := by omega
    refine ⟨(I4, A4, .int (nI (n + 1)), .int (nI P2), u6), ⟨SM_drop (hv1'.symm ▸ d1), d2, fun s => Nat.le_trans (d3 s) (Nat.le_trans (mk_le _ _ _ _) (b3 s)), fun q' hq' => ?_, Or.inr ⟨_, rfl⟩, Or.inr ⟨_, rfl⟩, d5⟩, ?_⟩
    · by_cases hqq : q' = q
      · subst hqq
        show A4 _ ≤ 1 ∧ Dn 2 2 _ _ A4
        rw [hqa, hqb, hw1, hv1']
        refine ⟨Nat.le_trans (d3 w1) (mk_at _ _ _), fun e f he hf => ?_⟩
        obtain ⟨r1, r2, r3⟩ := qab he hf
        have := d4 (e * (n + 1) + f) (by rw [hP2] at r1; exact r1)
        rw [r2, r3] at this
        exact this
      · obtain ⟨r1, r2⟩ := b4 q' (by omega)
        have hle : ∀ s, A4 s ≤ A2 s := fun s => Nat.le_trans (d3 s) (mk_le _ _ _ _)
        exact ⟨Nat.le_trans (hle _) r1, Dn_mono hle 2 r2⟩
    · show xD tX9_layMixed (73, [_, _, _, _, w4, w5, w6], _) = _
      rw [hX9_layMixed_73]
      have hva := hv2 a ha
      have hr : nI q - nI (a * n) = nI b := by rw [← hqa, ← hqb]; exact rem2 (by omega)
      have hvb := hv2 b hb
      have hnn2 : (P2 ≤ P2) = True := eq_true (Nat.le_refl _)
      rcases b5 with rfl | ⟨z4, rfl⟩ <;> rcases b6 with rfl | ⟨z5, rfl⟩ <;> simp only at d5 <;> rcases d5 with h6 | ⟨z6, h6⟩
      all_goals
        simp (disch := omega) only [eX9_layMixed, xRl, xG1, xG2, kAll, rAll, nAll, List.map_nil, List.map_cons, List.sum_nil, List.sum_cons, Nat.reduceAdd, Nat.reduceSub, Nat.reduceMul, Nat.reduceLeDiff, Nat.reduceEqDiff, Nat.reduceLT, and_true, true_and, and_self, if_true, if_false, ne_eq, not_false_eq_true, not_true_eq_false, or_false, false_or, or_true, true_or, false_and, and_false, reduceIte, reduceCtorEq, xB, ite_not, xretf_zc, xretf_c, xcont_c, xbd, nI_add, pk_mul, hP1, nI_leI, hnle, nI_z, pk_div, hqa, hr, nI_neg0, cl_nI, f1, f2, p9_mixed hva hvb, hw1, f3, c3]
        rw [show xD tX9_layMixed (124, [.ref 77, .int (nI j), .int (nI n), .int (nI q), .int (nI (n + 1)), .int (nI 0), w6], [], 0, S0 L I3 J) = _ from s3, hX9_layMixed_124]
        simp only [h6]
        simp (disch := omega) only [eX9_layMixed, xRl, xG1, xG2, kAll, rAll, nAll, List.map_nil, List.map_cons, List.sum_nil, List.sum_cons, Nat.reduceAdd, Nat.reduceSub, Nat.reduceMul, Nat.reduceLeDiff, Nat.reduceEqDiff, Nat.reduceLT, and_true, true_and, and_self, if_true, if_false, ne_eq, not_false_eq_true, not_true_eq_false, or_false, false_or, or_true, true_or, false_and, and_false, reduceIte, reduceCtorEq, xB, ite_not, xretf_zc, xretf_c, xcont_c, xbd, nI_add, pk_mul, hP2, nI_leI, hnn2]) P1 (Nat.le_refl _)
  simp only at b1 b2 b3 b4 b5 b6 b7
  refine ⟨I2, A2, ?_, b1.1, b1.2.2, b2, fun t ht s hs => ?_⟩
  · rw [fX9_layMixed]
    simp (disch := omega) only [eX9_layMixed, xRl, xG1, xG2, kAll, rAll, nAll, List.map_nil, List.map_cons, List.sum_nil, List.sum_cons, Nat.reduceAdd, Nat.reduceSub, Nat.reduceMul, Nat.reduceLeDiff, Nat.reduceEqDiff, Nat.reduceLT, and_true, true_and, and_self, if_true, if_false, ne_eq, not_false_eq_true, not_true_eq_false, or_false, false_or, or_true, true_or, false_and, and_false, reduceIte, reduceCtorEq, xB, ite_not, xretf_zc, xretf_c, xcont_c, xbd]
    have z0 : I0 79 j = nI n := by rw [o0 79 (by decide)]; exact hz
    have hnn0 : (n ≤ n) = True := eq_true (Nat.le_refl _)
    have hnn1 : (P1 ≤ P1) = True := eq_true (Nat.le_refl _)
    rw [s0, hX9_layMixed_2]
    simp (disch := omega) only [eX9_layMixed, xRl, xG1, xG2, kAll, rAll, nAll, List.map_nil, List.map_cons, List.sum_nil, List.sum_cons, Nat.reduceAdd, Nat.reduceSub, Nat.reduceMul, Nat.reduceLeDiff, Nat.reduceEqDiff, Nat.reduceLT, and_true, true_and, and_self, if_true, if_false, ne_eq, not_false_eq_true, not_true_eq_false, or_false, false_or, or_true, true_or, false_and, and_false, reduceIte, reduceCtorEq, xB, ite_not, xretf_zc, xretf_c, xcont_c, xbd, nI_leI, nI_neg0, cl_nI, z0]
    rw [show xD tX9_layMixed (32, [.ref 77, .int (nI j), .int (nI n), .int (nI 0), .null, .null, .null], [], 0, S0 L I0 J) = _ from s1, hX9_layMixed_32]
    simp (disch := omega) only [eX9_layMixed, xRl, xG1, xG2, kAll, rAll, nAll, List.map_nil, List.map_cons, List.sum_nil, List.sum_cons, Nat.reduceAdd, Nat.reduceSub, Nat.reduceMul, Nat.reduceLeDiff, Nat.reduceEqDiff, Nat.reduceLT, and_true, true_and, and_self, if_true, if_false, ne_eq, not_false_eq_true, not_true_eq_false, or_false, false_or, or_true, true_or, false_and, and_false, reduceIte, reduceCtorEq, xB, ite_not, xretf_zc, xretf_c, xcont_c, xbd, nI_leI, hnn0]
    rw [show xD tX9_layMixed (73, [.ref 77, .int (nI j), .int (nI n), .int (nI 0), .null, .null, .null], [], 0, S0 L I1 J) = _ from s2, hX9_layMixed_73]
    rcases b5 with rfl | ⟨z4, rfl⟩ <;> rcases b6 with rfl | ⟨z5, rfl⟩ <;> rcases b7 with rfl | ⟨z6, rfl⟩
    all_goals
      simp (disch := omega) only [eX9_layMixed, xRl, xG1, xG2, kAll, rAll, nAll, List.map_nil, List.map_cons, List.sum_nil, List.sum_cons, Nat.reduceAdd, Nat.reduceSub, Nat.reduceMul, Nat.reduceLeDiff, Nat.reduceEqDiff, Nat.reduceLT, and_true, true_and, and_self, if_true, if_false, ne_eq, not_false_eq_true, not_true_eq_false, or_false, false_or, or_true, true_or, false_and, and_false, reduceIte, reduceCtorEq, xB, ite_not, xretf_zc, xretf_c, xcont_c, xbd, pk_mul, hP1, nI_leI, hnn1]
  · match t, ht, hs with
    | 0, _, ⟨k, hk, e⟩ => rw [← e]; exact Nat.le_trans (b3 _) (a3 k hk)
    | u + 1, ht, hs =>
      have hD : Dn 3 1 n v A2 := fun a b ha hb => by
        obtain ⟨r1, r2, r3⟩ := qab ha hb
        have := b4 (a * n + b) (by rw [hP1] at r1; exact r1)
        rw [r2, r3] at this
        exact this
      have := Dn_Mr u 3 hv2 (by omega) hD hs
      omega
end PM
