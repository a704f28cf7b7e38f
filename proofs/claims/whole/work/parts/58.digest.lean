/-! digest -/
def hsh (f : Nat → Int64) (h : Int64) : Nat → Int64
  | 0 => h
  | k + 1 => 31 * hsh f h k + f k
theorem hsh_congr {f g : Nat → Int64} {h : Int64} : ∀ {k : Nat}, (∀ i, i < k → f i = g i) → hsh f h k = hsh g h k
  | 0, _ => rfl
  | k + 1, e => by unfold hsh; rw [e k (by omega), hsh_congr (fun i hi => e i (by omega))]
/-- of a row: its size, and what stands in it -/
def rwD (sz : Int32) (f : Nat → Int32) (h : Int64) : Int64 := hsh (fun i => (f i).toInt64) (31 * h + sz.toInt64) (tn sz)
theorem rwD_congr {sz : Int32} {f g : Nat → Int32} {h : Int64} (e : ∀ i, i < tn sz → f i = g i) : rwD sz f h = rwD sz g h := by
  unfold rwD
  exact hsh_congr (fun i hi => by rw [e i hi])
def rws (F : Nat → Int64 → Int64) (h : Int64) : Nat → Int64
  | 0 => h
  | k + 1 => F k (rws F h k)
theorem rws_congr {F G : Nat → Int64 → Int64} {h : Int64} : ∀ {k : Nat}, (∀ i x, i < k → F i x = G i x) → rws F h k = rws G h k
  | 0, _ => rfl
  | k + 1, e => by unfold rws; rw [rws_congr (fun i x hi => e i x (by omega)), e k _ (by omega)]
def okV (w : Value) : Prop := w = .null ∨ ∃ z, w = .int z
/-- a loop with one local that it leaves behind -/
theorem xloopJ {t : List (Nat × xO)} {st : Nat → Value → xF} {N : Nat} (hs : ∀ i w, i < N → okV w → ∃ w', okV w' ∧ xD t (st i w) = xD t (st (i + 1) w')) : ∀ n, n ≤ N → ∀ w, okV w → ∃ w', okV w' ∧ xD t (st 0 w) = xD t (st n w')
  | 0, _, w, hw => ⟨w, hw, rfl⟩
  | n + 1, hn, w, hw => by
    obtain ⟨w1, h1, e1⟩ := xloopJ hs n (by omega) w hw
    obtain ⟨w2, h2, e2⟩ := hs n w1 (by omega) h1
    exact ⟨w2, h2, e1.trans e2⟩
theorem tn_m1 : tn (-1) = 0 := by decide
theorem le_m1f {i : Nat} (h : i < 2 ^ 31) : ((-1 : Int32) ≤ nI i) ↔ True := ⟨fun _ => trivial, fun _ => Int32.le_trans (by decide) (nI_pos' h)⟩
section DG
variable (L : Nat) (I : Nat → Nat → Int32) (J : Nat → Nat → Int64)
theorem p5_digest {j : Nat} (hj : j < 6) (hz : I (3 + 2 * j) 1 = -1 ∨ ∃ m, m ≤ 40 ∧ I (3 + 2 * j) 1 = nI m) (x : Int64) : FX5_digestOnto [.ref (3 + 2 * j), .long x] (S0 L I J) = some (some (.long (rwD (I (3 + 2 * j) 1) (I (4 + 2 * j)) x)), S0 L I J) := by
  obtain ⟨k1, k2, k3, k4⟩ := kRow j hj
  have k5 := nRow L j hj
  have e' : ¬ 4 + 2 * j = 0 := by omega
  rw [fX5_digestOnto]
  rcases hz with hz | ⟨m, hm, hz⟩
  · simp (disch := omega) only [eX5_digestOnto, xRl, xG1, xG2, kAll, rAll, nAll, List.map_nil, List.map_cons, List.sum_nil, List.sum_cons, Nat.reduceAdd, Nat.reduceSub, Nat.reduceMul, Nat.reduceLeDiff, Nat.reduceEqDiff, Nat.reduceLT, and_true, true_and, and_self, if_true, if_false, ne_eq, not_false_eq_true, not_true_eq_false, or_false, false_or, or_true, true_or, false_and, and_false, reduceIte, reduceCtorEq, xB, ite_not, xretf_zc, xretf_c, xcont_c, xbd, k1, hz]
    rw [hX5_digestOnto_14]
    simp (disch := omega) only [eX5_digestOnto, xRl, xG1, xG2, kAll, rAll, nAll, List.map_nil, List.map_cons, List.sum_nil, List.sum_cons, Nat.reduceAdd, Nat.reduceSub, Nat.reduceMul, Nat.reduceLeDiff, Nat.reduceEqDiff, Nat.reduceLT, and_true, true_and, and_self, if_true, if_false, ne_eq, not_false_eq_true, not_true_eq_false, or_false, false_or, or_true, true_or, false_and, and_false, reduceIte, reduceCtorEq, xB, ite_not, xretf_zc, xretf_c, xcont_c, xbd, k1, hz, le_m1f]
    rfl
  · simp (disch := omega) only [eX5_digestOnto, xRl, xG1, xG2, kAll, rAll, nAll, List.map_nil, List.map_cons, List.sum_nil, List.sum_cons, Nat.reduceAdd, Nat.reduceSub, Nat.reduceMul, Nat.reduceLeDiff, Nat.reduceEqDiff, Nat.reduceLT, and_true, true_and, and_self, if_true, if_false, ne_eq, not_false_eq_true, not_true_eq_false, or_false, false_or, or_true, true_or, false_and, and_false, reduceIte, reduceCtorEq, xB, ite_not, xretf_zc, xretf_c, xcont_c, xbd, k1, hz]
    have key := xloop (t := tX5_digestOnto) (st := fun i (_ : Unit) => (14, [.ref (3 + 2 * j), .long (hsh (fun i => (I (4 + 2 * j) i).toInt64) (31 * x + (nI m).toInt64) i), .null, .int (nI i)], [], 0, S0 L I J)) (g := fun _ _ => ()) (N := m) (Inv := fun _ _ => True) (a0 := ()) trivial (by
      intro i u hi _
      refine ⟨?_, trivial⟩
      show xD tX5_digestOnto (14, _) = _
      rw [hX5_digestOnto_14]
      simp (disch := omega) only [eX5_digestOnto, xRl, xG1, xG2, kAll, rAll, nAll, List.map_nil, List.map_cons, List.sum_nil, List.sum_cons, Nat.reduceAdd, Nat.reduceSub, Nat.reduceMul, Nat.reduceLeDiff, Nat.reduceEqDiff, Nat.reduceLT, and_true, true_and, and_self, if_true, if_false, ne_eq, not_false_eq_true, not_true_eq_false, or_false, false_or, or_true, true_or, false_and, and_false, reduceIte, reduceCtorEq, xB, ite_not, xretf_zc, xretf_c, xcont_c, xbd, k1, k2, k4, k5, e', hz, nI_leI, nI_neg0, cl_nI, nI_add]
      rw [if_neg (by omega)]
      rfl) m (Nat.le_refl m)
    rw [show xD tX5_digestOnto (14, [.ref (3 + 2 * j), .long (31 * x + (nI m).toInt64), .null, .int (nI 0)], [], 0, S0 L I J) = _ from key.1, hX5_digestOnto_14]
    simp (disch := omega) only [eX5_digestOnto, xRl, xG1, xG2, kAll, rAll, nAll, List.map_nil, List.map_cons, List.sum_nil, List.sum_cons, Nat.reduceAdd, Nat.reduceSub, Nat.reduceMul, Nat.reduceLeDiff, Nat.reduceEqDiff, Nat.reduceLT, and_true, true_and, and_self, if_true, if_false, ne_eq, not_false_eq_true, not_true_eq_false, or_false, false_or, or_true, true_or, false_and, and_false, reduceIte, reduceCtorEq, xB, ite_not, xretf_zc, xretf_c, xcont_c, xbd, k1, hz, nI_leI]
    rw [if_pos (Nat.le_refl m)]
    unfold rwD tn
    rw [cl_nI (by omega)]
theorem p7_digest {j : Nat} (hj : j < 4) (hz : I (16 + 2 * j) 1 = -1 ∨ ∃ m, m ≤ 80 ∧ I (16 + 2 * j) 1 = nI m) (x : Int64) : FX7_digestOnto [.ref (16 + 2 * j), .long x] (S0 L I J) = some (some (.long (rwD (I (16 + 2 * j) 1) (I (17 + 2 * j)) x)), S0 L I J) := by
  obtain ⟨k1, k2, k3, k4⟩ := kTxt j hj
  have k5 := nTxt L j hj
  have e' : ¬ 17 + 2 * j = 0 := by omega
  rw [fX7_digestOnto]
  rcases hz with hz | ⟨m, hm, hz⟩
  · simp (disch := omega) only [eX7_digestOnto, xRl, xG1, xG2, kAll, rAll, nAll, List.map_nil, List.map_cons, List.sum_nil, List.sum_cons, Nat.reduceAdd, Nat.reduceSub, Nat.reduceMul, Nat.reduceLeDiff, Nat.reduceEqDiff, Nat.reduceLT, and_true, true_and, and_self, if_true, if_false, ne_eq, not_false_eq_true, not_true_eq_false, or_false, false_or, or_true, true_or, false_and, and_false, reduceIte, reduceCtorEq, xB, ite_not, xretf_zc, xretf_c, xcont_c, xbd, k1, hz]
    rw [hX7_digestOnto_14]
    simp (disch := omega) only [eX7_digestOnto, xRl, xG1, xG2, kAll, rAll, nAll, List.map_nil, List.map_cons, List.sum_nil, List.sum_cons, Nat.reduceAdd, Nat.reduceSub, Nat.reduceMul, Nat.reduceLeDiff, Nat.reduceEqDiff, Nat.reduceLT, and_true, true_and, and_self, if_true, if_false, ne_eq, not_false_eq_true, not_true_eq_false, or_false, false_or, or_true, true_or, false_and, and_false, reduceIte, reduceCtorEq, xB, ite_not, xretf_zc, xretf_c, xcont_c, xbd, k1, hz, le_m1f]
    rfl
  · simp (disch := omega) only [eX7_digestOnto, xRl, xG1, xG2, kAll, rAll, nAll, List.map_nil, List.map_cons, List.sum_nil, List.sum_cons, Nat.reduceAdd, Nat.reduceSub, Nat.reduceMul, Nat.reduceLeDiff, Nat.reduceEqDiff, Nat.reduceLT, and_true, true_and, and_self, if_true, if_false, ne_eq, not_false_eq_true, not_true_eq_false, or_false, false_or, or_true, true_or, false_and, and_false, reduceIte, reduceCtorEq, xB, ite_not, xretf_zc, xretf_c, xcont_c, xbd, k1, hz]
    have key := xloop (t := tX7_digestOnto) (st := fun i (_ : Unit) => (14, [.ref (16 + 2 * j), .long (hsh (fun i => (I (17 + 2 * j) i).toInt64) (31 * x + (nI m).toInt64) i), .null, .int (nI i)], [], 0, S0 L I J)) (g := fun _ _ => ()) (N := m) (Inv := fun _ _ => True) (a0 := ()) trivial (by
      intro i u hi _
      refine ⟨?_, trivial⟩
      show xD tX7_digestOnto (14, _) = _
      rw [hX7_digestOnto_14]
      simp (disch := omega) only [eX7_digestOnto, xRl, xG1, xG2, kAll, rAll, nAll, List.map_nil, List.map_cons, List.sum_nil, List.sum_cons, Nat.reduceAdd, Nat.reduceSub, Nat.reduceMul, Nat.reduceLeDiff, Nat.reduceEqDiff, Nat.reduceLT, and_true, true_and, and_self, if_true, if_false, ne_eq, not_false_eq_true, not_true_eq_false, or_false, false_or, or_true, true_or, false_and, and_false, reduceIte, reduceCtorEq, xB, ite_not, xretf_zc, xretf_c, xcont_c, xbd, k1, k2, k4, k5, e', hz, nI_leI, nI_neg0, cl_nI, nI_add]
      rw [if_neg (by omega)]
      rfl) m (Nat.le_refl m)
    rw [show xD tX7_digestOnto (14, [.ref (16 + 2 * j), .long (31 * x + (nI m).toInt64), .null, .int (nI 0)], [], 0, S0 L I J) = _ from key.1, hX7_digestOnto_14]
    simp (disch := omega) only [eX7_digestOnto, xRl, xG1, xG2, kAll, rAll, nAll, List.map_nil, List.map_cons, List.sum_nil, List.sum_cons, Nat.reduceAdd, Nat.reduceSub, Nat.reduceMul, Nat.reduceLeDiff, Nat.reduceEqDiff, Nat.reduceLT, and_true, true_and, and_self, if_true, if_false, ne_eq, not_false_eq_true, not_true_eq_false, or_false, false_or, or_true, true_or, false_and, and_false, reduceIte, reduceCtorEq, xB, ite_not, xretf_zc, xretf_c, xcont_c, xbd, k1, hz, nI_leI]
    rw [if_pos (Nat.le_refl m)]
    unfold rwD tn
    rw [cl_nI (by omega)]
def dg1 (I : Nat → Nat → Int32) (n d : Nat) : Int64 := hsh (fun w => (nI (cntV I n d w)).toInt64) 17 9
def tlF (I : Nat → Nat → Int32) (yr q : Nat) : Int64 := (nI (tlv (cv I (q / 7) 0) (shC I yr 0 (q / 7)) (cv I (q / 7) 2) (cv I (q / 7) 3) (cv I (q / 7) 4) (cv I (q / 7) 5) (q % 7))).toInt64
def dg2 (I : Nat → Nat → Int32) (n d yr : Nat) : Int64 := hsh (tlF I yr) (dg1 I n d) (7 * n)
def dg3 (I : Nat → Nat → Int32) (n d yr : Nat) : Int64 := hsh (fun k => (I 78 (426 * (1 + k))).toInt64) (dg2 I n d yr) 3
def dg4 (I : Nat → Nat → Int32) (n d yr : Nat) : Int64 := rws (fun r x => rwD (I 79 r) (fun i => I 80 (40 * r + i)) x) (dg3 I n d yr) 6
def dg5 (I : Nat → Nat → Int32) (n d yr : Nat) : Int64 := rws (fun r x => rwD (I 81 r) (fun i => I 82 (80 * r + i)) x) (dg4 I n d yr) 4
theorem p8_digest (h : Cp I J) {n d yr : Nat} (hR : RC I 24 0 n d yr) : FX8_digest [.ref 1] (S0 L I J) = some (some (.long (dg5 I n d yr)), S0 L I J) := by
  obtain ⟨hM, hC, hE⟩ := RC_M hR
  have hn := hM.1
  have h1 := hC.2.1
  rw [fX8_digest]
  simp (disch := omega) only [eX8_digest, xRl, xG1, xG2, kAll, rAll, nAll, List.map_nil, List.map_cons, List.sum_nil, List.sum_cons, Nat.reduceAdd, Nat.reduceSub, Nat.reduceMul, Nat.reduceLeDiff, Nat.reduceEqDiff, Nat.reduceLT, and_true, true_and, and_self, if_true, if_false, ne_eq, not_false_eq_true, not_true_eq_false, or_false, false_or, or_true, true_or, false_and, and_false, reduceIte, reduceCtorEq, xB, ite_not, xretf_zc, xretf_c, xcont_c, xbd]
  have s1 := xloop (t := tX8_digest) (st := fun i (_ : Unit) => (6, [.ref 1, .long (hsh (fun w => (nI (cntV I n d w)).toInt64) 17 i), .null, .int (nI i), .null], [], 0, S0 L I J)) (g := fun _ _ => ()) (N := 9) (Inv := fun _ _ => True) (a0 := ()) trivial (by
    intro i u hi _
    refine ⟨?_, trivial⟩
    show xD tX8_digest (6, _) = _
    rw [hX8_digest_6]
    simp (disch := omega) only [eX8_digest, xRl, xG1, xG2, kAll, rAll, nAll, List.map_nil, List.map_cons, List.sum_nil, List.sum_cons, Nat.reduceAdd, Nat.reduceSub, Nat.reduceMul, Nat.reduceLeDiff, Nat.reduceEqDiff, Nat.reduceLT, and_true, true_and, and_self, if_true, if_false, ne_eq, not_false_eq_true, not_true_eq_false, or_false, false_or, or_true, true_or, false_and, and_false, reduceIte, reduceCtorEq, xB, ite_not, xretf_zc, xretf_c, xcont_c, xbd, nI_leI, p8_count L I J h hR hi, nI_add]
    rw [if_neg (by omega)]
    rfl) 9 (Nat.le_refl 9)
  rw [show xD tX8_digest (6, [.ref 1, .long 17, .null, .int (nI 0), .null], [], 0, S0 L I J) = _ from s1.1, hX8_digest_6]
  simp (disch := omega) only [eX8_digest, xRl, xG1, xG2, kAll, rAll, nAll, List.map_nil, List.map_cons, List.sum_nil, List.sum_cons, Nat.reduceAdd, Nat.reduceSub, Nat.reduceMul, Nat.reduceLeDiff, Nat.reduceEqDiff, Nat.reduceLT, and_true, true_and, and_self, if_true, if_false, ne_eq, not_false_eq_true, not_true_eq_false, or_false, false_or, or_true, true_or, false_and, and_false, reduceIte, reduceCtorEq, xB, ite_not, xretf_zc, xretf_c, xcont_c, xbd, nI_leI]
  have s2 := xloopJ (t := tX8_digest) (st := fun i w => (33, [.ref 1, .long (hsh (tlF I yr) (dg1 I n d) (7 * i)), .null, .int (nI i), w], [], 0, S0 L I J)) (N := n) (by
    intro i w hi hw
    have inn := xloop (t := tX8_digest) (st := fun k (_ : Unit) => (47, [.ref 1, .long (hsh (tlF I yr) (dg1 I n d) (7 * i + k)), .null, .int (nI i), .int (nI k)], [], 0, S0 L I J)) (g := fun _ _ => ()) (N := 7) (Inv := fun _ _ => True) (a0 := ()) trivial (by
      intro k u hk _
      refine ⟨?_, trivial⟩
      have e1 : tlF I yr (7 * i + k) = (nI (tlv (cv I i 0) (shC I yr 0 i) (cv I i 2) (cv I i 3) (cv I i 4) (cv I i 5) k)).toInt64 := by
        unfold tlF
        rw [show (7 * i + k) / 7 = i by omega, show (7 * i + k) % 7 = k by omega]
      show xD tX8_digest (47, _) = xD tX8_digest (_, [_, .long (31 * hsh (tlF I yr) (dg1 I n d) (7 * i + k) + tlF I yr (7 * i + k)), _, _, _], _)
      rw [hX8_digest_47, e1]
      simp (disch := omega) only [eX8_digest, xRl, xG1, xG2, kAll, rAll, nAll, List.map_nil, List.map_cons, List.sum_nil, List.sum_cons, Nat.reduceAdd, Nat.reduceSub, Nat.reduceMul, Nat.reduceLeDiff, Nat.reduceEqDiff, Nat.reduceLT, and_true, true_and, and_self, if_true, if_false, ne_eq, not_false_eq_true, not_true_eq_false, or_false, false_or, or_true, true_or, false_and, and_false, reduceIte, reduceCtorEq, xB, ite_not, xretf_zc, xretf_c, xcont_c, xbd, nI_leI, p8_tellOf L I J n yr i k hC hi hk, nI_add]
      rw [if_neg (by omega)]) 7 (Nat.le_refl 7)
    refine ⟨.int (nI 7), Or.inr ⟨_, rfl⟩, ?_⟩
    have i1 := inn.1
    rw [Nat.add_zero] at i1
    show xD tX8_digest (33, _) = _
    rw [hX8_digest_33]
    rcases hw with rfl | ⟨z, rfl⟩
    all_goals
      simp (disch := omega) only [eX8_digest, xRl, xG1, xG2, kAll, rAll, nAll, List.map_nil, List.map_cons, List.sum_nil, List.sum_cons, Nat.reduceAdd, Nat.reduceSub, Nat.reduceMul, Nat.reduceLeDiff, Nat.reduceEqDiff, Nat.reduceLT, and_true, true_and, and_self, if_true, if_false, ne_eq, not_false_eq_true, not_true_eq_false, or_false, false_or, or_true, true_or, false_and, and_false, reduceIte, reduceCtorEq, xB, ite_not, xretf_zc, xretf_c, xcont_c, xbd, h1, nI_leI]
      rw [if_neg (by omega), i1, hX8_digest_47]
      simp (disch := omega) only [eX8_digest, xRl, xG1, xG2, kAll, rAll, nAll, List.map_nil, List.map_cons, List.sum_nil, List.sum_cons, Nat.reduceAdd, Nat.reduceSub, Nat.reduceMul, Nat.reduceLeDiff, Nat.reduceEqDiff, Nat.reduceLT, and_true, true_and, and_self, if_true, if_false, ne_eq, not_false_eq_true, not_true_eq_false, or_false, false_or, or_true, true_or, false_and, and_false, reduceIte, reduceCtorEq, xB, ite_not, xretf_zc, xretf_c, xcont_c, xbd, nI_leI, nI_add]
      rw [show 7 * (i + 1) = 7 * i + 7 by omega]) n (Nat.le_refl n) .null (Or.inl rfl)
  obtain ⟨w2, hw2, s2⟩ := s2
  rw [show xD tX8_digest (33, [.ref 1, .long (hsh (fun w => (nI (cntV I n d w)).toInt64) 17 9), .null, .int (nI 0), .null], [], 0, S0 L I J) = _ from s2, hX8_digest_33]
  simp (disch := omega) only [eX8_digest, xRl, xG1, xG2, kAll, rAll, nAll, List.map_nil, List.map_cons, List.sum_nil, List.sum_cons, Nat.reduceAdd, Nat.reduceSub, Nat.reduceMul, Nat.reduceLeDiff, Nat.reduceEqDiff, Nat.reduceLT, and_true, true_and, and_self, if_true, if_false, ne_eq, not_false_eq_true, not_true_eq_false, or_false, false_or, or_true, true_or, false_and, and_false, reduceIte, reduceCtorEq, xB, ite_not, xretf_zc, xretf_c, xcont_c, xbd, h1, nI_leI]
  rw [if_pos (Nat.le_refl n)]
  have s3 := xloop (t := tX8_digest) (st := fun i (_ : Unit) => (83, [.ref 1, .long (hsh (fun k => (I 78 (426 * (1 + k))).toInt64) (dg2 I n d yr) i), .null, .int (nI i), w2], [], 0, S0 L I J)) (g := fun _ _ => ()) (N := 3) (Inv := fun _ _ => True) (a0 := ()) trivial (by
    intro i u hi _
    refine ⟨?_, trivial⟩
    obtain ⟨⟨k1, k2, -⟩, -⟩ := kKep i hi
    have e : ¬ 36 + 11 * i = 0 := by omega
    show xD tX8_digest (83, _) = xD tX8_digest (_, [_, .long (31 * hsh (fun k => (I 78 (426 * (1 + k))).toInt64) (dg2 I n d yr) i + (I 78 (426 * (1 + i))).toInt64), _, _, _], _)
    rw [hX8_digest_83]
    rcases kep_c I h.2.2.2.2.2.2.2 hi with ⟨v1, v2⟩ | ⟨n', d', n0, n8, d40, v1, v3, v2⟩
    · simp (disch := omega) only [eX8_digest, xRl, xG1, xG2, kAll, rAll, nAll, List.map_nil, List.map_cons, List.sum_nil, List.sum_cons, Nat.reduceAdd, Nat.reduceSub, Nat.reduceMul, Nat.reduceLeDiff, Nat.reduceEqDiff, Nat.reduceLT, and_true, true_and, and_self, if_true, if_false, ne_eq, not_false_eq_true, not_true_eq_false, or_false, false_or, or_true, true_or, false_and, and_false, reduceIte, reduceCtorEq, xB, ite_not, xretf_zc, xretf_c, xcont_c, xbd, nI_leI, nI_neg0, cl_nI, k1, k2, e, v1, v2, nI_add]
      rw [if_neg (by omega)]
    · have n0' : ¬ n' = 0 := by omega
      simp (disch := omega) only [eX8_digest, xRl, xG1, xG2, kAll, rAll, nAll, List.map_nil, List.map_cons, List.sum_nil, List.sum_cons, Nat.reduceAdd, Nat.reduceSub, Nat.reduceMul, Nat.reduceLeDiff, Nat.reduceEqDiff, Nat.reduceLT, and_true, true_and, and_self, if_true, if_false, ne_eq, not_false_eq_true, not_true_eq_false, or_false, false_or, or_true, true_or, false_and, and_false, reduceIte, reduceCtorEq, xB, ite_not, xretf_zc, xretf_c, xcont_c, xbd, nI_leI, nI_neg0, cl_nI, k1, k2, e, v1, v2, v3, nI_eq, n0', nI_add]
      rw [if_neg (by omega)]) 3 (Nat.le_refl 3)
  rw [show xD tX8_digest (83, [.ref 1, .long (hsh (tlF I yr) (dg1 I n d) (7 * n)), .null, .int (nI 0), w2], [], 0, S0 L I J) = _ from s3.1, hX8_digest_83]
  simp (disch := omega) only [eX8_digest, xRl, xG1, xG2, kAll, rAll, nAll, List.map_nil, List.map_cons, List.sum_nil, List.sum_cons, Nat.reduceAdd, Nat.reduceSub, Nat.reduceMul, Nat.reduceLeDiff, Nat.reduceEqDiff, Nat.reduceLT, and_true, true_and, and_self, if_true, if_false, ne_eq, not_false_eq_true, not_true_eq_false, or_false, false_or, or_true, true_or, false_and, and_false, reduceIte, reduceCtorEq, xB, ite_not, xretf_zc, xretf_c, xcont_c, xbd, nI_leI]
  have s4 := xloop (t := tX8_digest) (st := fun i (_ : Unit) => (129, [.ref 1, .long (rws (fun r x => rwD (I 79 r) (fun i => I 80 (40 * r + i)) x) (dg3 I n d yr) i), .null, .int (nI i), w2], [], 0, S0 L I J)) (g := fun _ _ => ()) (N := 6) (Inv := fun _ _ => True) (a0 := ()) trivial (by
    intro i u hi _
    refine ⟨?_, trivial⟩
    obtain ⟨k1, k2, k3, k4⟩ := kRow i hi
    have e : ¬ 3 + 2 * i = 0 := by omega
    obtain ⟨g1, g2, g3⟩ := h.1 i hi
    have e1 := fun x => p5_digest L I J hi (by rw [g1]; exact g2) x
    have e2 : ∀ x, rwD (I (3 + 2 * i) 1) (I (4 + 2 * i)) x = rwD (I 79 i) (fun q => I 80 (40 * i + q)) x := fun x => by
      rw [g1]
      refine rwD_congr (fun q hq => g3 q ?_)
      rcases g2 with g2 | ⟨m, hm, g2⟩
      · rw [g2, tn_m1] at hq; omega
      · rw [g2] at hq; unfold tn at hq; rw [cl_nI (by omega)] at hq; omega
    simp only [e2] at e1
    show xD tX8_digest (129, _) = _
    rw [hX8_digest_129]
    simp (disch := omega) only [eX8_digest, xRl, xG1, xG2, kAll, rAll, nAll, List.map_nil, List.map_cons, List.sum_nil, List.sum_cons, Nat.reduceAdd, Nat.reduceSub, Nat.reduceMul, Nat.reduceLeDiff, Nat.reduceEqDiff, Nat.reduceLT, and_true, true_and, and_self, if_true, if_false, ne_eq, not_false_eq_true, not_true_eq_false, or_false, false_or, or_true, true_or, false_and, and_false, reduceIte, reduceCtorEq, xB, ite_not, xretf_zc, xretf_c, xcont_c, xbd, nI_leI, nI_neg0, cl_nI, k1, k3, e, e1, nI_add]
    rw [if_neg (by omega)]
    rfl) 6 (Nat.le_refl 6)
  rw [show xD tX8_digest (129, [.ref 1, .long (hsh (fun k => (I 78 (426 * (1 + k))).toInt64) (dg2 I n d yr) 3), .null, .int (nI 0), w2], [], 0, S0 L I J) = _ from s4.1, hX8_digest_129]
  simp (disch := omega) only [eX8_digest, xRl, xG1, xG2, kAll, rAll, nAll, List.map_nil, List.map_cons, List.sum_nil, List.sum_cons, Nat.reduceAdd, Nat.reduceSub, Nat.reduceMul, Nat.reduceLeDiff, Nat.reduceEqDiff, Nat.reduceLT, and_true, true_and, and_self, if_true, if_false, ne_eq, not_false_eq_true, not_true_eq_false, or_false, false_or, or_true, true_or, false_and, and_false, reduceIte, reduceCtorEq, xB, ite_not, xretf_zc, xretf_c, xcont_c, xbd, nI_leI]
  have s5 := xloop (t := tX8_digest) (st := fun i (_ : Unit) => (154, [.ref 1, .long (rws (fun r x => rwD (I 81 r) (fun i => I 82 (80 * r + i)) x) (dg4 I n d yr) i), .null, .int (nI i), w2], [], 0, S0 L I J)) (g := fun _ _ => ()) (N := 4) (Inv := fun _ _ => True) (a0 := ()) trivial (by
    intro i u hi _
    refine ⟨?_, trivial⟩
    obtain ⟨k1, k2, k3, k4⟩ := kTxt i hi
    have e : ¬ 16 + 2 * i = 0 := by omega
    obtain ⟨g1, g2, g3⟩ := h.2.1 i hi
    have e1 := fun x => p7_digest L I J hi (by rw [g1]; exact g2) x
    have e2 : ∀ x, rwD (I (16 + 2 * i) 1) (I (17 + 2 * i)) x = rwD (I 81 i) (fun q => I 82 (80 * i + q)) x := fun x => by
      rw [g1]
      refine rwD_congr (fun q hq => g3 q ?_)
      rcases g2 with g2 | ⟨m, hm, g2⟩
      · rw [g2, tn_m1] at hq; omega
      · rw [g2] at hq; unfold tn at hq; rw [cl_nI (by omega)] at hq; omega
    simp only [e2] at e1
    show xD tX8_digest (154, _) = _
    rw [hX8_digest_154]
    simp (disch := omega) only [eX8_digest, xRl, xG1, xG2, kAll, rAll, nAll, List.map_nil, List.map_cons, List.sum_nil, List.sum_cons, Nat.reduceAdd, Nat.reduceSub, Nat.reduceMul, Nat.reduceLeDiff, Nat.reduceEqDiff, Nat.reduceLT, and_true, true_and, and_self, if_true, if_false, ne_eq, not_false_eq_true, not_true_eq_false, or_false, false_or, or_true, true_or, false_and, and_false, reduceIte, reduceCtorEq, xB, ite_not, xretf_zc, xretf_c, xcont_c, xbd, nI_leI, nI_neg0, cl_nI, k1, k3, e, e1, nI_add]
    rw [if_neg (by omega)]
    rfl) 4 (Nat.le_refl 4)
  rw [show xD tX8_digest (154, [.ref 1, .long (rws (fun r x => rwD (I 79 r) (fun i => I 80 (40 * r + i)) x) (dg3 I n d yr) 6), .null, .int (nI 0), w2], [], 0, S0 L I J) = _ from s5.1, hX8_digest_154]
  simp (disch := omega) only [eX8_digest, xRl, xG1, xG2, kAll, rAll, nAll, List.map_nil, List.map_cons, List.sum_nil, List.sum_cons, Nat.reduceAdd, Nat.reduceSub, Nat.reduceMul, Nat.reduceLeDiff, Nat.reduceEqDiff, Nat.reduceLT, and_true, true_and, and_self, if_true, if_false, ne_eq, not_false_eq_true, not_true_eq_false, or_false, false_or, or_true, true_or, false_and, and_false, reduceIte, reduceCtorEq, xB, ite_not, xretf_zc, xretf_c, xcont_c, xbd, nI_leI]
  rfl
theorem p9_digest (h : Cp I J) {n d yr : Nat} (hR : RC I 24 0 n d yr) : FX9_digest [.ref 77] (S0 L I J) = some (some (.long (dg5 I n d yr)), S0 L I J) := by
  obtain ⟨hM, hC, hE⟩ := RC_M hR
  have hn := hM.1
  have m1 := hM.2.1
  have hy0 := h.2.2.2.2.2.1
  rw [fX9_digest]
  simp (disch := omega) only [eX9_digest, xRl, xG1, xG2, kAll, rAll, nAll, List.map_nil, List.map_cons, List.sum_nil, List.sum_cons, Nat.reduceAdd, Nat.reduceSub, Nat.reduceMul, Nat.reduceLeDiff, Nat.reduceEqDiff, Nat.reduceLT, and_true, true_and, and_self, if_true, if_false, ne_eq, not_false_eq_true, not_true_eq_false, or_false, false_or, or_true, true_or, false_and, and_false, reduceIte, reduceCtorEq, xB, ite_not, xretf_zc, xretf_c, xcont_c, xbd]
  have s1 := xloop (t := tX9_digest) (st := fun i (_ : Unit) => (6, [.ref 77, .long (hsh (fun w => (nI (cntV I n d w)).toInt64) 17 i), .null, .int (nI i), .null], [], 0, S0 L I J)) (g := fun _ _ => ()) (N := 9) (Inv := fun _ _ => True) (a0 := ()) trivial (by
    intro i u hi _
    refine ⟨?_, trivial⟩
    show xD tX9_digest (6, _) = _
    rw [hX9_digest_6]
    simp (disch := omega) only [eX9_digest, xRl, xG1, xG2, kAll, rAll, nAll, List.map_nil, List.map_cons, List.sum_nil, List.sum_cons, Nat.reduceAdd, Nat.reduceSub, Nat.reduceMul, Nat.reduceLeDiff, Nat.reduceEqDiff, Nat.reduceLT, and_true, true_and, and_self, if_true, if_false, ne_eq, not_false_eq_true, not_true_eq_false, or_false, false_or, or_true, true_or, false_and, and_false, reduceIte, reduceCtorEq, xB, ite_not, xretf_zc, xretf_c, xcont_c, xbd, nI_leI, p9_countOf L I J h hR hi, nI_add]
    rw [if_neg (by omega)]
    rfl) 9 (Nat.le_refl 9)
  rw [show xD tX9_digest (6, [.ref 77, .long 17, .null, .int (nI 0), .null], [], 0, S0 L I J) = _ from s1.1, hX9_digest_6]
  simp (disch := omega) only [eX9_digest, xRl, xG1, xG2, kAll, rAll, nAll, List.map_nil, List.map_cons, List.sum_nil, List.sum_cons, Nat.reduceAdd, Nat.reduceSub, Nat.reduceMul, Nat.reduceLeDiff, Nat.reduceEqDiff, Nat.reduceLT, and_true, true_and, and_self, if_true, if_false, ne_eq, not_false_eq_true, not_true_eq_false, or_false, false_or, or_true, true_or, false_and, and_false, reduceIte, reduceCtorEq, xB, ite_not, xretf_zc, xretf_c, xcont_c, xbd, nI_leI]
  have s2 := xloop (t := tX9_digest) (st := fun i (_ : Unit) => (33, [.ref 77, .long (hsh (tlF I yr) (dg1 I n d) i), .null, .int (nI i), .null], [], 0, S0 L I J)) (g := fun _ _ => ()) (N := 7 * n) (Inv := fun _ _ => True) (a0 := ()) trivial (by
    intro i u hi _
    refine ⟨?_, trivial⟩
    have hk : i / 7 < n := by omega
    have hw : i % 7 < 7 := by omega
    have e1 := p9_toldOf L I J n (i / 7) (i % 7) hM hy0 hk hw
    rw [tlv_eq I hR hk] at e1
    have rN : i - i / 7 * 7 = i % 7 := by omega
    show xD tX9_digest (33, _) = xD tX9_digest (_, [_, .long (31 * hsh (tlF I yr) (dg1 I n d) i + tlF I yr i), _, _, _], _)
    rw [hX9_digest_33]
    simp (disch := omega) only [eX9_digest, xRl, xG1, xG2, kAll, rAll, nAll, List.map_nil, List.map_cons, List.sum_nil, List.sum_cons, Nat.reduceAdd, Nat.reduceSub, Nat.reduceMul, Nat.reduceLeDiff, Nat.reduceEqDiff, Nat.reduceLT, and_true, true_and, and_self, if_true, if_false, ne_eq, not_false_eq_true, not_true_eq_false, or_false, false_or, or_true, true_or, false_and, and_false, reduceIte, reduceCtorEq, xB, ite_not, xretf_zc, xretf_c, xcont_c, xbd, m1, nI_neg0, cl_nI, pk_mul, nI_leI, nI_z, pk_div, rem1, rem2, e1, nI_add]
    rw [if_neg (by omega)]
    rfl) (7 * n) (Nat.le_refl (7 * n))
  rw [show xD tX9_digest (33, [.ref 77, .long (hsh (fun w => (nI (cntV I n d w)).toInt64) 17 9), .null, .int (nI 0), .null], [], 0, S0 L I J) = _ from s2.1, hX9_digest_33]
  simp (disch := omega) only [eX9_digest, xRl, xG1, xG2, kAll, rAll, nAll, List.map_nil, List.map_cons, List.sum_nil, List.sum_cons, Nat.reduceAdd, Nat.reduceSub, Nat.reduceMul, Nat.reduceLeDiff, Nat.reduceEqDiff, Nat.reduceLT, and_true, true_and, and_self, if_true, if_false, ne_eq, not_false_eq_true, not_true_eq_false, or_false, false_or, or_true, true_or, false_and, and_false, reduceIte, reduceCtorEq, xB, ite_not, xretf_zc, xretf_c, xcont_c, xbd, m1, nI_neg0, cl_nI, pk_mul, nI_leI]
  rw [if_pos (Nat.le_refl _)]
  have s3 := xloop (t := tX9_digest) (st := fun i (_ : Unit) => (74, [.ref 77, .long (hsh (fun k => (I 78 (426 * (1 + k))).toInt64) (dg2 I n d yr) i), .null, .int (nI (1 + i)), .null], [], 0, S0 L I J)) (g := fun _ _ => ()) (N := 3) (Inv := fun _ _ => True) (a0 := ()) trivial (by
    intro i u hi _
    refine ⟨?_, trivial⟩
    show xD tX9_digest (74, _) = _
    rw [hX9_digest_74]
    simp (disch := omega) only [eX9_digest, xRl, xG1, xG2, kAll, rAll, nAll, List.map_nil, List.map_cons, List.sum_nil, List.sum_cons, Nat.reduceAdd, Nat.reduceSub, Nat.reduceMul, Nat.reduceLeDiff, Nat.reduceEqDiff, Nat.reduceLT, and_true, true_and, and_self, if_true, if_false, ne_eq, not_false_eq_true, not_true_eq_false, or_false, false_or, or_true, true_or, false_and, and_false, reduceIte, reduceCtorEq, xB, ite_not, xretf_zc, xretf_c, xcont_c, xbd, nI_leI, nI_neg0, cl_nI, pk_mul, nI_add, Nat.add_zero]
    rw [if_neg (by omega), show 1 + i + 1 = 1 + (i + 1) by omega]
    rfl) 3 (Nat.le_refl 3)
  rw [show xD tX9_digest (74, [.ref 77, .long (hsh (tlF I yr) (dg1 I n d) (7 * n)), .null, .int (nI 1), .null], [], 0, S0 L I J) = _ from s3.1, hX9_digest_74]
  simp (disch := omega) only [eX9_digest, xRl, xG1, xG2, kAll, rAll, nAll, List.map_nil, List.map_cons, List.sum_nil, List.sum_cons, Nat.reduceAdd, Nat.reduceSub, Nat.reduceMul, Nat.reduceLeDiff, Nat.reduceEqDiff, Nat.reduceLT, and_true, true_and, and_self, if_true, if_false, ne_eq, not_false_eq_true, not_true_eq_false, or_false, false_or, or_true, true_or, false_and, and_false, reduceIte, reduceCtorEq, xB, ite_not, xretf_zc, xretf_c, xcont_c, xbd, nI_leI]
  have s4 := xloopJ (t := tX9_digest) (st := fun i w => (107, [.ref 77, .long (rws (fun r x => rwD (I 79 r) (fun i => I 80 (40 * r + i)) x) (dg3 I n d yr) i), .null, .int (nI i), w], [], 0, S0 L I J)) (N := 6) (by
    intro i w hi hw
    obtain ⟨g1, g2, g3⟩ := h.1 i hi
    show ∃ w', okV w' ∧ xD tX9_digest (107, [_, .long (rws (fun r x => rwD (I 79 r) (fun i => I 80 (40 * r + i)) x) (dg3 I n d yr) i), _, _, _], _) = xD tX9_digest (_, [_, .long (rwD (I 79 i) (fun q => I 80 (40 * i + q)) (rws (fun r x => rwD (I 79 r) (fun i => I 80 (40 * r + i)) x) (dg3 I n d yr) i)), _, _, _], _)
    generalize rws (fun r x => rwD (I 79 r) (fun i => I 80 (40 * r + i)) x) (dg3 I n d yr) i = x
    have i0 : ¬ 6 ≤ i := by omega
    rcases g2 with g2 | ⟨m, hm, g2⟩
    · refine ⟨.int (nI 0), Or.inr ⟨_, rfl⟩, ?_⟩
      have e1 : rwD (I 79 i) (fun q => I 80 (40 * i + q)) x = 31 * x + (-1 : Int32).toInt64 := by rw [g2]; rfl
      rw [e1, hX9_digest_107]
      rcases hw with rfl | ⟨z, rfl⟩
      all_goals
        simp (disch := omega) only [eX9_digest, xRl, xG1, xG2, kAll, rAll, nAll, List.map_nil, List.map_cons, List.sum_nil, List.sum_cons, Nat.reduceAdd, Nat.reduceSub, Nat.reduceMul, Nat.reduceLeDiff, Nat.reduceEqDiff, Nat.reduceLT, and_true, true_and, and_self, if_true, if_false, ne_eq, not_false_eq_true, not_true_eq_false, or_false, false_or, or_true, true_or, false_and, and_false, reduceIte, reduceCtorEq, xB, ite_not, xretf_zc, xretf_c, xcont_c, xbd, nI_leI, nI_neg0, cl_nI, g2, i0]
        rw [hX9_digest_130]
        simp (disch := omega) only [eX9_digest, xRl, xG1, xG2, kAll, rAll, nAll, List.map_nil, List.map_cons, List.sum_nil, List.sum_cons, Nat.reduceAdd, Nat.reduceSub, Nat.reduceMul, Nat.reduceLeDiff, Nat.reduceEqDiff, Nat.reduceLT, and_true, true_and, and_self, if_true, if_false, ne_eq, not_false_eq_true, not_true_eq_false, or_false, false_or, or_true, true_or, false_and, and_false, reduceIte, reduceCtorEq, xB, ite_not, xretf_zc, xretf_c, xcont_c, xbd, nI_leI, nI_neg0, cl_nI, g2, le_m1f, nI_add]
    · refine ⟨.int (nI m), Or.inr ⟨_, rfl⟩, ?_⟩
      have e1 : rwD (I 79 i) (fun q => I 80 (40 * i + q)) x = hsh (fun q => (I 80 (40 * i + q)).toInt64) (31 * x + (nI m).toInt64) m := by rw [g2]; unfold rwD tn; rw [cl_nI (by omega)]
      have inn := xloop (t := tX9_digest) (st := fun k (_ : Unit) => (130, [.ref 77, .long (hsh (fun q => (I 80 (40 * i + q)).toInt64) (31 * x + (nI m).toInt64) k), .null, .int (nI i), .int (nI k)], [], 0, S0 L I J)) (g := fun _ _ => ()) (N := m) (Inv := fun _ _ => True) (a0 := ()) trivial (by
        intro k u hk _
        refine ⟨?_, trivial⟩
        show xD tX9_digest (130, _) = _
        rw [hX9_digest_130]
        simp (disch := omega) only [eX9_digest, xRl, xG1, xG2, kAll, rAll, nAll, List.map_nil, List.map_cons, List.sum_nil, List.sum_cons, Nat.reduceAdd, Nat.reduceSub, Nat.reduceMul, Nat.reduceLeDiff, Nat.reduceEqDiff, Nat.reduceLT, and_true, true_and, and_self, if_true, if_false, ne_eq, not_false_eq_true, not_true_eq_false, or_false, false_or, or_true, true_or, false_and, and_false, reduceIte, reduceCtorEq, xB, ite_not, xretf_zc, xretf_c, xcont_c, xbd, nI_leI, nI_neg0, cl_nI, pk_mul, g2, nI_add]
        rw [if_neg (by omega)]
        rfl) m (Nat.le_refl m)
      rw [e1, hX9_digest_107]
      rcases hw with rfl | ⟨z, rfl⟩
      all_goals
        simp (disch := omega) only [eX9_digest, xRl, xG1, xG2, kAll, rAll, nAll, List.map_nil, List.map_cons, List.sum_nil, List.sum_cons, Nat.reduceAdd, Nat.reduceSub, Nat.reduceMul, Nat.reduceLeDiff, Nat.reduceEqDiff, Nat.reduceLT, and_true, true_and, and_self, if_true, if_false, ne_eq, not_false_eq_true, not_true_eq_false, or_false, false_or, or_true, true_or, false_and, and_false, reduceIte, reduceCtorEq, xB, ite_not, xretf_zc, xretf_c, xcont_c, xbd, nI_leI, nI_neg0, cl_nI, g2, i0]
        rw [show xD tX9_digest (130, [.ref 77, .long (31 * x + (nI m).toInt64), .null, .int (nI i), .int (nI 0)], [], 0, S0 L I J) = _ from inn.1, hX9_digest_130]
        simp (disch := omega) only [eX9_digest, xRl, xG1, xG2, kAll, rAll, nAll, List.map_nil, List.map_cons, List.sum_nil, List.sum_cons, Nat.reduceAdd, Nat.reduceSub, Nat.reduceMul, Nat.reduceLeDiff, Nat.reduceEqDiff, Nat.reduceLT, and_true, true_and, and_self, if_true, if_false, ne_eq, not_false_eq_true, not_true_eq_false, or_false, false_or, or_true, true_or, false_and, and_false, reduceIte, reduceCtorEq, xB, ite_not, xretf_zc, xretf_c, xcont_c, xbd, nI_leI, nI_neg0, cl_nI, g2, nI_add]
        rw [if_pos (Nat.le_refl m)]) 6 (Nat.le_refl 6) .null (Or.inl rfl)
  obtain ⟨w4, hw4, s4⟩ := s4
  rw [show xD tX9_digest (107, [.ref 77, .long (hsh (fun k => (I 78 (426 * (1 + k))).toInt64) (dg2 I n d yr) 3), .null, .int (nI 0), .null], [], 0, S0 L I J) = _ from s4, hX9_digest_107]
  simp (disch := omega) only [eX9_digest, xRl, xG1, xG2, kAll, rAll, nAll, List.map_nil, List.map_cons, List.sum_nil, List.sum_cons, Nat.reduceAdd, Nat.reduceSub, Nat.reduceMul, Nat.reduceLeDiff, Nat.reduceEqDiff, Nat.reduceLT, and_true, true_and, and_self, if_true, if_false, ne_eq, not_false_eq_true, not_true_eq_false, or_false, false_or, or_true, true_or, false_and, and_false, reduceIte, reduceCtorEq, xB, ite_not, xretf_zc, xretf_c, xcont_c, xbd, nI_leI]
  have s5 := xloopJ (t := tX9_digest) (st := fun i w => (175, [.ref 77, .long (rws (fun r x => rwD (I 81 r) (fun i => I 82 (80 * r + i)) x) (dg4 I n d yr) i), .null, .int (nI i), w], [], 0, S0 L I J)) (N := 4) (by
    intro i w hi hw
    obtain ⟨g1, g2, g3⟩ := h.2.1 i hi
    show ∃ w', okV w' ∧ xD tX9_digest (175, [_, .long (rws (fun r x => rwD (I 81 r) (fun i => I 82 (80 * r + i)) x) (dg4 I n d yr) i), _, _, _], _) = xD tX9_digest (_, [_, .long (rwD (I 81 i) (fun q => I 82 (80 * i + q)) (rws (fun r x => rwD (I 81 r) (fun i => I 82 (80 * r + i)) x) (dg4 I n d yr) i)), _, _, _], _)
    generalize rws (fun r x => rwD (I 81 r) (fun i => I 82 (80 * r + i)) x) (dg4 I n d yr) i = x
    have i0 : ¬ 4 ≤ i := by omega
    rcases g2 with g2 | ⟨m, hm, g2⟩
    · refine ⟨.int (nI 0), Or.inr ⟨_, rfl⟩, ?_⟩
      have e1 : rwD (I 81 i) (fun q => I 82 (80 * i + q)) x = 31 * x + (-1 : Int32).toInt64 := by rw [g2]; rfl
      rw [e1, hX9_digest_175]
      rcases hw with rfl | ⟨z, rfl⟩
      all_goals
        simp (disch := omega) only [eX9_digest, xRl, xG1, xG2, kAll, rAll, nAll, List.map_nil, List.map_cons, List.sum_nil, List.sum_cons, Nat.reduceAdd, Nat.reduceSub, Nat.reduceMul, Nat.reduceLeDiff, Nat.reduceEqDiff, Nat.reduceLT, and_true, true_and, and_self, if_true, if_false, ne_eq, not_false_eq_true, not_true_eq_false, or_false, false_or, or_true, true_or, false_and, and_false, reduceIte, reduceCtorEq, xB, ite_not, xretf_zc, xretf_c, xcont_c, xbd, nI_leI, nI_neg0, cl_nI, g2, i0]
        rw [hX9_digest_197]
        simp (disch := omega) only [eX9_digest, xRl, xG1, xG2, kAll, rAll, nAll, List.map_nil, List.map_cons, List.sum_nil, List.sum_cons, Nat.reduceAdd, Nat.reduceSub, Nat.reduceMul, Nat.reduceLeDiff, Nat.reduceEqDiff, Nat.reduceLT, and_true, true_and, and_self, if_true, if_false, ne_eq, not_false_eq_true, not_true_eq_false, or_false, false_or, or_true, true_or, false_and, and_false, reduceIte, reduceCtorEq, xB, ite_not, xretf_zc, xretf_c, xcont_c, xbd, nI_leI, nI_neg0, cl_nI, g2, le_m1f, nI_add]
    · refine ⟨.int (nI m), Or.inr ⟨_, rfl⟩, ?_⟩
      have e1 : rwD (I 81 i) (fun q => I 82 (80 * i + q)) x = hsh (fun q => (I 82 (80 * i + q)).toInt64) (31 * x + (nI m).toInt64) m := by rw [g2]; unfold rwD tn; rw [cl_nI (by omega)]
      have inn := xloop (t := tX9_digest) (st := fun k (_ : Unit) => (197, [.ref 77, .long (hsh (fun q => (I 82 (80 * i + q)).toInt64) (31 * x + (nI m).toInt64) k), .null, .int (nI i), .int (nI k)], [], 0, S0 L I J)) (g := fun _ _ => ()) (N := m) (Inv := fun _ _ => True) (a0 := ()) trivial (by
        intro k u hk _
        refine ⟨?_, trivial⟩
        show xD tX9_digest (197, _) = _
        rw [hX9_digest_197]
        simp (disch := omega) only [eX9_digest, xRl, xG1, xG2, kAll, rAll, nAll, List.map_nil, List.map_cons, List.sum_nil, List.sum_cons, Nat.reduceAdd, Nat.reduceSub, Nat.reduceMul, Nat.reduceLeDiff, Nat.reduceEqDiff, Nat.reduceLT, and_true, true_and, and_self, if_true, if_false, ne_eq, not_false_eq_true, not_true_eq_false, or_false, false_or, or_true, true_or, false_and, and_false, reduceIte, reduceCtorEq, xB, ite_not, xretf_zc, xretf_c, xcont_c, xbd, nI_leI, nI_neg0, cl_nI, pk_mul, g2, nI_add]
        rw [if_neg (by omega)]
        rfl) m (Nat.le_refl m)
      rw [e1, hX9_digest_175]
      rcases hw with rfl | ⟨z, rfl⟩
      all_goals
        simp (disch := omega) only [eX9_digest, xRl, xG1, xG2, kAll, rAll, nAll, List.map_nil, List.map_cons, List.sum_nil, List.sum_cons, Nat.reduceAdd, Nat.reduceSub, Nat.reduceMul, Nat.reduceLeDiff, Nat.reduceEqDiff, Nat.reduceLT, and_true, true_and, and_self, if_true, if_false, ne_eq, not_false_eq_true, not_true_eq_false, or_false, false_or, or_true, true_or, false_and, and_false, reduceIte, reduceCtorEq, xB, ite_not, xretf_zc, xretf_c, xcont_c, xbd, nI_leI, nI_neg0, cl_nI, g2, i0]
        rw [show xD tX9_digest (197, [.ref 77, .long (31 * x + (nI m).toInt64), .null, .int (nI i), .int (nI 0)], [], 0, S0 L I J) = _ from inn.1, hX9_digest_197]
        simp (disch := omega) only [eX9_digest, xRl, xG1, xG2, kAll, rAll, nAll, List.map_nil, List.map_cons, List.sum_nil, List.sum_cons, Nat.reduceAdd, Nat.reduceSub, Nat.reduceMul, Nat.reduceLeDiff, Nat.reduceEqDiff, Nat.reduceLT, and_true, true_and, and_self, if_true, if_false, ne_eq, not_false_eq_true, not_true_eq_false, or_false, false_or, or_true, true_or, false_and, and_false, reduceIte, reduceCtorEq, xB, ite_not, xretf_zc, xretf_c, xcont_c, xbd, nI_leI, nI_neg0, cl_nI, g2, nI_add]
        rw [if_pos (Nat.le_refl m)]) 4 (Nat.le_refl 4) w4 hw4
  obtain ⟨w5, hw5, s5⟩ := s5
  rw [show xD tX9_digest (175, [.ref 77, .long (rws (fun r x => rwD (I 79 r) (fun i => I 80 (40 * r + i)) x) (dg3 I n d yr) 6), .null, .int (nI 0), w4], [], 0, S0 L I J) = _ from s5, hX9_digest_175]
  simp (disch := omega) only [eX9_digest, xRl, xG1, xG2, kAll, rAll, nAll, List.map_nil, List.map_cons, List.sum_nil, List.sum_cons, Nat.reduceAdd, Nat.reduceSub, Nat.reduceMul, Nat.reduceLeDiff, Nat.reduceEqDiff, Nat.reduceLT, and_true, true_and, and_self, if_true, if_false, ne_eq, not_false_eq_true, not_true_eq_false, or_false, false_or, or_true, true_or, false_and, and_false, reduceIte, reduceCtorEq, xB, ite_not, xretf_zc, xretf_c, xcont_c, xbd, nI_leI]
  rfl
theorem pr_digest (h : Cp I J) : Pair L FX8_digest FX9_digest [] I J := by
  obtain ⟨n, d, yr, hR⟩ := h.2.2.2.2.2.2.1
  exact ⟨_, I, J, I, J, p8_digest L I J h hR, p9_digest L I J h hR, h⟩
end DG
