/-! what a name reaches -/
def rchN (k rg s t : Nat) : Bool := if k = 2 ∨ k = 5 then decide (farN k s t < rg) || decide (s = t) else decide (farN k s t ≤ rg)
theorem farN_lt (k : Nat) {s t : Nat} (hs : s < 216) (ht : t < 216) : farN k s t < 30 := by
  have a1 : dN (s / 36) (t / 36) < 6 := dN_lt (by omega) (by omega)
  have a2 : dN (s / 6 % 6) (t / 6 % 6) < 6 := dN_lt (by omega) (by omega)
  have a3 : dN (s % 6) (t % 6) < 6 := dN_lt (by omega) (by omega)
  unfold farN
  repeat' split
  all_goals omega
theorem p9_reachesOf (k rg s t : Nat) (hk : k < 6) (hr : rg < 10) (hs : s < 216) (ht : t < 216) (σ : xS) : FX9_reachesOf [.int (nI k), .int (nI rg), .int (nI s), .int (nI t)] σ = some (some (.int (if rchN k rg s t = true then nI 1 else nI 0)), σ) := by
  rw [fX9_reachesOf]
  have hf := farN_lt k hs ht
  simp (disch := omega) only [eX9_reachesOf, xRl, xG1, xG2, kAll, rAll, nAll, List.map_nil, List.map_cons, List.sum_nil, List.sum_cons, Nat.reduceAdd, Nat.reduceSub, Nat.reduceMul, Nat.reduceLeDiff, Nat.reduceEqDiff, Nat.reduceLT, and_true, true_and, and_self, if_true, if_false, ne_eq, not_false_eq_true, not_true_eq_false, or_false, false_or, or_true, true_or, false_and, and_false, reduceIte, reduceCtorEq, xB, ite_not, xretf_zc, xretf_c, xcont_c, xbd, p9_far, nI_eq, nI_ltI, nI_leI]
  unfold rchN
  repeat' split
  all_goals first | rfl | (simp_all; done) | (exfalso; simp_all; omega)
def isOfN (k w : Nat) : Bool := decide (k = w) || decide (w = 0) || (decide (k = 4) && decide (w = 1)) || (decide (k = 5) && decide (w = 2))
theorem p1_isOf (k w : Nat) (hk : k < 6) (hw : w < 6) (σ : xS) : FX1_isOf [.int (nI k), .int (nI w)] σ = some (some (.int (if isOfN k w = true then nI 1 else nI 0)), σ) := by
  rw [fX1_isOf]
  simp (disch := omega) only [eX1_isOf, xRl, xG1, xG2, kAll, rAll, nAll, List.map_nil, List.map_cons, List.sum_nil, List.sum_cons, Nat.reduceAdd, Nat.reduceSub, Nat.reduceMul, Nat.reduceLeDiff, Nat.reduceEqDiff, Nat.reduceLT, and_true, true_and, and_self, if_true, if_false, ne_eq, not_false_eq_true, not_true_eq_false, or_false, false_or, or_true, true_or, false_and, and_false, reduceIte, reduceCtorEq, xB, ite_not, xretf_zc, xretf_c, xcont_c, xbd, nI_eq]
  unfold isOfN
  repeat' split
  all_goals first | rfl | (simp_all; done) | (exfalso; simp_all; omega)
theorem p1_reaches (k rg s t : Nat) (hk : k < 6) (hr : rg < 10) (hs : s < 216) (ht : t < 216) (σ : xS) : FX1_reaches [.int (nI k), .int (nI s), .int (nI rg), .int (nI t)] σ = some (some (.int (if rchN k rg s t = true then nI 1 else nI 0)), σ) := by
  rw [fX1_reaches]
  have hf := farN_lt k hs ht
  simp (disch := omega) only [eX1_reaches, xRl, xG1, xG2, kAll, rAll, nAll, List.map_nil, List.map_cons, List.sum_nil, List.sum_cons, Nat.reduceAdd, Nat.reduceSub, Nat.reduceMul, Nat.reduceLeDiff, Nat.reduceEqDiff, Nat.reduceLT, and_true, true_and, and_self, if_true, if_false, ne_eq, not_false_eq_true, not_true_eq_false, or_false, false_or, or_true, true_or, false_and, and_false, reduceIte, reduceCtorEq, xB, ite_not, xretf_zc, xretf_c, xcont_c, xbd, p1_farFrom, p1_isOf, nI_eq, nI_ltI, nI_leI]
  unfold rchN isOfN
  repeat' split
  all_goals first | rfl | (simp_all; done) | (exfalso; simp_all; omega)
/-- how many of a .. a + d - 1 -/
def cnt (f : Nat → Bool) (a : Nat) : Nat → Nat
  | 0 => 0
  | d + 1 => (if f a = true then 1 else 0) + cnt f (a + 1) d
theorem cnt_le (f : Nat → Bool) : ∀ (d a : Nat), cnt f a d ≤ d
  | 0, a => Nat.le_refl 0
  | d + 1, a => by have := cnt_le f d (a + 1); unfold cnt; split <;> omega
theorem cnt_congr {f g : Nat → Bool} : ∀ {d a : Nat}, (∀ i, a ≤ i → i < a + d → f i = g i) → cnt f a d = cnt g a d
  | 0, a, _ => rfl
  | d + 1, a, h => by
    unfold cnt
    rw [h a (Nat.le_refl a) (by omega), cnt_congr (d := d) (fun i h1 h2 => h i (by omega) (by omega))]
theorem p9_reachedBy (k rg s : Nat) (hk : k < 6) (hr : rg < 10) (hs : s < 216) (σ : xS) : FX9_reachedBy [.int (nI k), .int (nI rg), .int (nI s)] σ = some (some (.int (nI (cnt (fun t => rchN k rg s t) 0 216))), σ) := by
  rw [fX9_reachedBy]
  simp (disch := omega) only [eX9_reachedBy, xRl, xG1, xG2, kAll, rAll, nAll, List.map_nil, List.map_cons, List.sum_nil, List.sum_cons, Nat.reduceAdd, Nat.reduceSub, Nat.reduceMul, Nat.reduceLeDiff, Nat.reduceEqDiff, Nat.reduceLT, and_true, true_and, and_self, if_true, if_false, ne_eq, not_false_eq_true, not_true_eq_false, or_false, false_or, or_true, true_or, false_and, and_false, reduceIte, reduceCtorEq, xB, ite_not, xretf_zc, xretf_c, xcont_c, xbd]
  have key : ∀ (d t n : Nat), t + d = 216 → n ≤ t → xD tX9_reachedBy (5, [.int (nI k), .int (nI rg), .int (nI s), .int (nI n), .int (nI t)], [], 0, σ) = some (some (.int (nI (n + cnt (fun t => rchN k rg s t) t d))), σ) := by
    intro d
    induction d with
    | zero =>
      intro t n h1 h2
      rw [hX9_reachedBy_5]
      simp (disch := omega) only [eX9_reachedBy, xRl, xG1, xG2, kAll, rAll, nAll, List.map_nil, List.map_cons, List.sum_nil, List.sum_cons, Nat.reduceAdd, Nat.reduceSub, Nat.reduceMul, Nat.reduceLeDiff, Nat.reduceEqDiff, Nat.reduceLT, and_true, true_and, and_self, if_true, if_false, ne_eq, not_false_eq_true, not_true_eq_false, or_false, false_or, or_true, true_or, false_and, and_false, reduceIte, reduceCtorEq, xB, ite_not, xretf_zc, xretf_c, xcont_c, xbd, nI_leI]
      rw [if_pos (by omega)]
      rfl
    | succ d ih =>
      intro t n h1 h2
      rw [hX9_reachedBy_5]
      simp (disch := omega) only [eX9_reachedBy, xRl, xG1, xG2, kAll, rAll, nAll, List.map_nil, List.map_cons, List.sum_nil, List.sum_cons, Nat.reduceAdd, Nat.reduceSub, Nat.reduceMul, Nat.reduceLeDiff, Nat.reduceEqDiff, Nat.reduceLT, and_true, true_and, and_self, if_true, if_false, ne_eq, not_false_eq_true, not_true_eq_false, or_false, false_or, or_true, true_or, false_and, and_false, reduceIte, reduceCtorEq, xB, ite_not, xretf_zc, xretf_c, xcont_c, xbd, nI_leI, p9_reachesOf, nI_add]
      rw [if_neg (by omega)]
      unfold cnt
      split
      · rw [ih (t + 1) (n + 1) (by omega) (by omega), Nat.add_assoc]
      · rw [Nat.add_zero, ih (t + 1) n (by omega) (by omega), Nat.zero_add]
  rw [key 216 0 0 rfl (Nat.le_refl 0), Nat.zero_add]
  simp (disch := omega) only [xRl, xG1, xG2, kAll, rAll, nAll, List.map_nil, List.map_cons, List.sum_nil, List.sum_cons, Nat.reduceAdd, Nat.reduceSub, Nat.reduceMul, Nat.reduceLeDiff, Nat.reduceEqDiff, Nat.reduceLT, and_true, true_and, and_self, if_true, if_false, ne_eq, not_false_eq_true, not_true_eq_false, or_false, false_or, or_true, true_or, false_and, and_false, reduceIte, reduceCtorEq, xB, ite_not, xretf_zc, xretf_c, xcont_c, xbd]
theorem p1_countReached (k rg s : Nat) (hk : k < 6) (hr : rg < 10) (hs : s < 216) (σ : xS) : FX1_countReached [.int (nI k), .int (nI s), .int (nI rg)] σ = some (some (.int (nI (cnt (fun t => rchN k rg s t) 0 216))), σ) := by
  rw [fX1_countReached]
  simp (disch := omega) only [eX1_countReached, xRl, xG1, xG2, kAll, rAll, nAll, List.map_nil, List.map_cons, List.sum_nil, List.sum_cons, Nat.reduceAdd, Nat.reduceSub, Nat.reduceMul, Nat.reduceLeDiff, Nat.reduceEqDiff, Nat.reduceLT, and_true, true_and, and_self, if_true, if_false, ne_eq, not_false_eq_true, not_true_eq_false, or_false, false_or, or_true, true_or, false_and, and_false, reduceIte, reduceCtorEq, xB, ite_not, xretf_zc, xretf_c, xcont_c, xbd]
  have key : ∀ (d t n : Nat), t + d = 216 → n ≤ t → xD tX1_countReached (5, [.int (nI k), .int (nI s), .int (nI rg), .int (nI n), .int (nI t)], [], 0, σ) = some (some (.int (nI (n + cnt (fun t => rchN k rg s t) t d))), σ) := by
    intro d
    induction d with
    | zero =>
      intro t n h1 h2
      rw [hX1_countReached_5]
      simp (disch := omega) only [eX1_countReached, xRl, xG1, xG2, kAll, rAll, nAll, List.map_nil, List.map_cons, List.sum_nil, List.sum_cons, Nat.reduceAdd, Nat.reduceSub, Nat.reduceMul, Nat.reduceLeDiff, Nat.reduceEqDiff, Nat.reduceLT, and_true, true_and, and_self, if_true, if_false, ne_eq, not_false_eq_true, not_true_eq_false, or_false, false_or, or_true, true_or, false_and, and_false, reduceIte, reduceCtorEq, xB, ite_not, xretf_zc, xretf_c, xcont_c, xbd, nI_leI]
      rw [if_pos (by omega)]
      rfl
    | succ d ih =>
      intro t n h1 h2
      rw [hX1_countReached_5]
      simp (disch := omega) only [eX1_countReached, xRl, xG1, xG2, kAll, rAll, nAll, List.map_nil, List.map_cons, List.sum_nil, List.sum_cons, Nat.reduceAdd, Nat.reduceSub, Nat.reduceMul, Nat.reduceLeDiff, Nat.reduceEqDiff, Nat.reduceLT, and_true, true_and, and_self, if_true, if_false, ne_eq, not_false_eq_true, not_true_eq_false, or_false, false_or, or_true, true_or, false_and, and_false, reduceIte, reduceCtorEq, xB, ite_not, xretf_zc, xretf_c, xcont_c, xbd, nI_leI, p1_reaches, nI_add]
      rw [if_neg (by omega)]
      unfold cnt
      split
      · rw [ih (t + 1) (n + 1) (by omega) (by omega), Nat.add_assoc]
      · rw [ih (t + 1) n (by omega) (by omega), Nat.zero_add]
  rw [key 216 0 0 rfl (Nat.le_refl 0), Nat.zero_add]
  simp (disch := omega) only [xRl, xG1, xG2, kAll, rAll, nAll, List.map_nil, List.map_cons, List.sum_nil, List.sum_cons, Nat.reduceAdd, Nat.reduceSub, Nat.reduceMul, Nat.reduceLeDiff, Nat.reduceEqDiff, Nat.reduceLT, and_true, true_and, and_self, if_true, if_false, ne_eq, not_false_eq_true, not_true_eq_false, or_false, false_or, or_true, true_or, false_and, and_false, reduceIte, reduceCtorEq, xB, ite_not, xretf_zc, xretf_c, xcont_c, xbd]
