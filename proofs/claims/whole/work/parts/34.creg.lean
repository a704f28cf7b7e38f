/-! the class's registry (cell 24, its names 26 .. 33) -/
abbrev cv (I : Nat → Nat → Int32) (k w : Nat) : Nat := (I (26 + k) w).toNatClampNeg
def Cok (I : Nat → Nat → Int32) (n yr : Nat) : Prop := n ≤ 8 ∧ I 24 1 = nI n ∧ I 24 4 = nI yr ∧ yr ≤ 40 ∧ ∀ k, k < n → (I (26 + k) 0 = nI (cv I k 0) ∧ cv I k 0 < 6) ∧ (I (26 + k) 1 = nI (cv I k 1) ∧ cv I k 1 < 216) ∧ (I (26 + k) 2 = nI (cv I k 2) ∧ cv I k 2 < 10) ∧ (I (26 + k) 3 = nI (cv I k 3) ∧ cv I k 3 < 4) ∧ (I (26 + k) 4 = nI (cv I k 4) ∧ cv I k 4 < 10) ∧ (I (26 + k) 5 = nI (cv I k 5) ∧ cv I k 5 < 2)
def shC (I : Nat → Nat → Int32) (yr y k : Nat) : Nat := if cv I k 5 = 1 then 36 * (cv I k 1 / 36 - (yr + y)) + 6 * (cv I k 1 / 6 % 6) + cv I k 1 % 6 else cv I k 1
theorem shC_lt {I : Nat → Nat → Int32} {n yr : Nat} (h : Cok I n yr) {k : Nat} (hk : k < n) (y : Nat) : shC I yr y k < 216 := by
  obtain ⟨-, ⟨-, h1⟩, -⟩ := h.2.2.2.2 k hk
  unfold shC
  split <;> omega
theorem max0 {a y : Nat} (ha : a < 2 ^ 30) (hy : y < 2 ^ 30) : (if nI 0 < nI a - nI y then nI a - nI y else nI 0) = nI (a - y) := by
  rcases Nat.lt_or_ge a y with h | h
  · have h1 : nI a - nI y < nI 0 := pk_sneg hy h
    rw [if_neg (fun q => absurd (Int32.lt_trans q h1) Int32.lt_irrefl), show a - y = 0 by omega]
  · rw [pk_sub h]
    split
    · rfl
    · rename_i q
      rw [nI_ltI (by omega) (by omega)] at q
      rw [show a - y = 0 by omega]
theorem p6_faded (s y : Nat) (hs : s < 216) (hy : y < 1000) (σ : xS) : FX6_faded [.int (nI s), .int (nI y)] σ = some (some (.int (nI (36 * (s / 36 - y) + 6 * (s / 6 % 6) + s % 6))), σ) := by
  rw [fX6_faded]
  simp (disch := omega) only [eX6_faded, xRl, xG1, xG2, kAll, rAll, nAll, List.map_nil, List.map_cons, List.sum_nil, List.sum_cons, Nat.reduceAdd, Nat.reduceSub, Nat.reduceMul, Nat.reduceLeDiff, Nat.reduceEqDiff, Nat.reduceLT, and_true, true_and, and_self, if_true, if_false, ne_eq, not_false_eq_true, not_true_eq_false, or_false, false_or, or_true, true_or, false_and, and_false, reduceIte, reduceCtorEq, xB, ite_not, xretf_zc, xretf_c, xcont_c, xbd, p6_partA, p6_partB, p6_partC, max0, p6_of]
theorem p4_shadeOf (L : Nat) (I : Nat → Nat → Int32) (J : Nat → Nat → Int64) (n yr y k : Nat) (hC : Cok I n yr) (hk : k < n) (hyl : y < 900) : FX4_shadeOf [.ref 24, .int (nI k), .int (nI y)] (S0 L I J) = some (some (.int (nI (shC I yr y k))), S0 L I J) := by
  rw [fX4_shadeOf]
  obtain ⟨hn, h1, h2, h3, hall⟩ := hC
  obtain ⟨-, ⟨a1, a2⟩, -, -, -, ⟨f1, f2⟩⟩ := hall k hk
  have k1 := kNam k (by omega)
  have e : ¬ 26 + k = 0 := by omega
  simp (disch := omega) only [eX4_shadeOf, xRl, xG1, xG2, kAll, rAll, nAll, List.map_nil, List.map_cons, List.sum_nil, List.sum_cons, Nat.reduceAdd, Nat.reduceSub, Nat.reduceMul, Nat.reduceLeDiff, Nat.reduceEqDiff, Nat.reduceLT, and_true, true_and, and_self, if_true, if_false, ne_eq, not_false_eq_true, not_true_eq_false, or_false, false_or, or_true, true_or, false_and, and_false, reduceIte, reduceCtorEq, xB, ite_not, xretf_zc, xretf_c, xcont_c, xbd, nI_neg0, cl_nI, k1.1, k1.2, e, a1, f1, h2, nI_add, nI_eq, p6_faded]
  unfold shC
  have hf : cv I k 5 = 0 ∨ cv I k 5 = 1 := by omega
  rcases hf with hf | hf
  · rw [if_pos hf, if_neg (by omega)]
  · rw [if_neg (by omega), if_pos hf]
def rcC (I : Nat → Nat → Int32) (yr y s k : Nat) : Bool := rchN (cv I k 0) (cv I k 2) (shC I yr y k) s
theorem p4_nameReaches (L : Nat) (I : Nat → Nat → Int32) (J : Nat → Nat → Int64) (n yr y k s : Nat) (hC : Cok I n yr) (hk : k < n) (hyl : y < 900) (hs : s < 216) : FX4_nameReaches [.ref 24, .int (nI k), .int (nI s), .int (nI y)] (S0 L I J) = some (some (.int (if rcC I yr y s k = true then nI 1 else nI 0)), S0 L I J) := by
  rw [fX4_nameReaches]
  have hsh := shC_lt hC hk y
  have hS := p4_shadeOf L I J n yr y k hC hk hyl
  obtain ⟨hn, h1, h2, h3, hall⟩ := hC
  obtain ⟨⟨a1, a2⟩, -, ⟨b1, b2⟩, -⟩ := hall k hk
  have k1 := kNam k (by omega)
  have e : ¬ 26 + k = 0 := by omega
  simp (disch := omega) only [eX4_nameReaches, xRl, xG1, xG2, kAll, rAll, nAll, List.map_nil, List.map_cons, List.sum_nil, List.sum_cons, Nat.reduceAdd, Nat.reduceSub, Nat.reduceMul, Nat.reduceLeDiff, Nat.reduceEqDiff, Nat.reduceLT, and_true, true_and, and_self, if_true, if_false, ne_eq, not_false_eq_true, not_true_eq_false, or_false, false_or, or_true, true_or, false_and, and_false, reduceIte, reduceCtorEq, xB, ite_not, xretf_zc, xretf_c, xcont_c, xbd, nI_neg0, cl_nI, k1.1, k1.2, e, a1, b1, hS, p1_reaches]
  rfl
/-- of a .. a + d - 1 the first that has f: its v, else z -/
def fstv {α : Type} (f : Nat → Bool) (v : Nat → α) (z : α) (a : Nat) : Nat → α
  | 0 => z
  | d + 1 => if f a = true then v a else fstv f v z (a + 1) d
theorem fstv_cases (f : Nat → Bool) : ∀ (d a : Nat), ((∀ i, a ≤ i → i < a + d → f i = false) ∧ ∀ {α : Type} (v : Nat → α) (z : α), fstv f v z a d = z) ∨ ∃ k, a ≤ k ∧ k < a + d ∧ f k = true ∧ (∀ i, a ≤ i → i < k → f i = false) ∧ ∀ {α : Type} (v : Nat → α) (z : α), fstv f v z a d = v k
  | 0, a => Or.inl ⟨fun i h1 h2 => absurd h2 (by omega), fun _ _ => rfl⟩
  | d + 1, a => by
    by_cases h : f a = true
    · exact Or.inr ⟨a, Nat.le_refl a, by omega, h, fun i h1 h2 => absurd h2 (by omega), fun v z => by unfold fstv; rw [if_pos h]⟩
    · have hf : f a = false := by simpa using h
      rcases fstv_cases f d (a + 1) with ⟨h1, h2⟩ | ⟨k, h1, h2, h3, h4, h5⟩
      · refine Or.inl ⟨fun i g1 g2 => ?_, fun v z => by unfold fstv; rw [if_neg h]; exact h2 v z⟩
        by_cases hi : i = a
        · rw [hi]; exact hf
        · exact h1 i (by omega) (by omega)
      · refine Or.inr ⟨k, by omega, by omega, h3, fun i g1 g2 => ?_, fun v z => by unfold fstv; rw [if_neg h]; exact h5 v z⟩
        by_cases hi : i = a
        · rw [hi]; exact hf
        · exact h4 i (by omega) (by omega)
theorem fstv_congr {α : Type} {f g : Nat → Bool} {v w : Nat → α} {z : α} : ∀ {d a : Nat}, (∀ i, a ≤ i → i < a + d → f i = g i ∧ v i = w i) → fstv f v z a d = fstv g w z a d
  | 0, a, _ => rfl
  | d + 1, a, h => by
    unfold fstv
    rw [(h a (Nat.le_refl a) (by omega)).1, (h a (Nat.le_refl a) (by omega)).2, fstv_congr (d := d) (fun i h1 h2 => h i (by omega) (by omega))]
theorem p4_callerOf (L : Nat) (I : Nat → Nat → Int32) (J : Nat → Nat → Int64) (n yr y s : Nat) (hC : Cok I n yr) (hyl : y < 900) (hs : s < 216) : FX4_callerOf [.ref 24, .int (nI s), .int (nI y)] (S0 L I J) = some (some (.int (fstv (rcC I yr y s) nI (-9) 0 n)), S0 L I J) := by
  rw [fX4_callerOf]
  have h1 := hC.2.1
  have hn := hC.1
  simp (disch := omega) only [eX4_callerOf, xRl, xG1, xG2, kAll, rAll, nAll, List.map_nil, List.map_cons, List.sum_nil, List.sum_cons, Nat.reduceAdd, Nat.reduceSub, Nat.reduceMul, Nat.reduceLeDiff, Nat.reduceEqDiff, Nat.reduceLT, and_true, true_and, and_self, if_true, if_false, ne_eq, not_false_eq_true, not_true_eq_false, or_false, false_or, or_true, true_or, false_and, and_false, reduceIte, reduceCtorEq, xB, ite_not, xretf_zc, xretf_c, xcont_c, xbd]
  have key : ∀ (d i : Nat), i + d = n → xD tX4_callerOf (2, [.ref 24, .int (nI s), .int (nI y), .int (nI i)], [], 0, S0 L I J) = some (some (.int (fstv (rcC I yr y s) nI (-9) i d)), S0 L I J) := by
    intro d
    induction d with
    | zero =>
      intro i hi
      rw [hX4_callerOf_2]
      simp (disch := omega) only [eX4_callerOf, xRl, xG1, xG2, kAll, rAll, nAll, List.map_nil, List.map_cons, List.sum_nil, List.sum_cons, Nat.reduceAdd, Nat.reduceSub, Nat.reduceMul, Nat.reduceLeDiff, Nat.reduceEqDiff, Nat.reduceLT, and_true, true_and, and_self, if_true, if_false, ne_eq, not_false_eq_true, not_true_eq_false, or_false, false_or, or_true, true_or, false_and, and_false, reduceIte, reduceCtorEq, xB, ite_not, xretf_zc, xretf_c, xcont_c, xbd, h1, nI_leI]
      rw [if_pos (by omega)]
      rfl
    | succ d ih =>
      intro i hi
      rw [hX4_callerOf_2]
      simp (disch := omega) only [eX4_callerOf, xRl, xG1, xG2, kAll, rAll, nAll, List.map_nil, List.map_cons, List.sum_nil, List.sum_cons, Nat.reduceAdd, Nat.reduceSub, Nat.reduceMul, Nat.reduceLeDiff, Nat.reduceEqDiff, Nat.reduceLT, and_true, true_and, and_self, if_true, if_false, ne_eq, not_false_eq_true, not_true_eq_false, or_false, false_or, or_true, true_or, false_and, and_false, reduceIte, reduceCtorEq, xB, ite_not, xretf_zc, xretf_c, xcont_c, xbd, h1, nI_leI, nI_add, p4_nameReaches L I J n yr y i s hC (by omega) hyl hs]
      rw [if_neg (by omega)]
      unfold fstv
      split
      · rfl
      · exact ih (i + 1) (by omega)
  rw [key n 0 (by omega)]
  simp (disch := omega) only [xRl, xG1, xG2, kAll, rAll, nAll, List.map_nil, List.map_cons, List.sum_nil, List.sum_cons, Nat.reduceAdd, Nat.reduceSub, Nat.reduceMul, Nat.reduceLeDiff, Nat.reduceEqDiff, Nat.reduceLT, and_true, true_and, and_self, if_true, if_false, ne_eq, not_false_eq_true, not_true_eq_false, or_false, false_or, or_true, true_or, false_and, and_false, reduceIte, reduceCtorEq, xB, ite_not, xretf_zc, xretf_c, xcont_c, xbd]
theorem n9 {k : Nat} (h : k < 2 ^ 31) : (nI k = -9) ↔ False := ⟨fun q => by
  have h1 := nI_pos h
  rw [q] at h1
  exact h1 (by decide), fun q => q.elim⟩
theorem p4_ownerOf (L : Nat) (I : Nat → Nat → Int32) (J : Nat → Nat → Int64) (n yr y s : Nat) (hC : Cok I n yr) (hyl : y < 900) (hs : s < 216) : FX4_ownerOf [.ref 24, .int (nI s), .int (nI y)] (S0 L I J) = some (some (.int (fstv (rcC I yr y s) (fun k => nI (cv I k 3)) (-9) 0 n)), S0 L I J) := by
  rw [fX4_ownerOf]
  have hc := p4_callerOf L I J n yr y s hC hyl hs
  have hn := hC.1
  simp (disch := omega) only [eX4_ownerOf, xRl, xG1, xG2, kAll, rAll, nAll, List.map_nil, List.map_cons, List.sum_nil, List.sum_cons, Nat.reduceAdd, Nat.reduceSub, Nat.reduceMul, Nat.reduceLeDiff, Nat.reduceEqDiff, Nat.reduceLT, and_true, true_and, and_self, if_true, if_false, ne_eq, not_false_eq_true, not_true_eq_false, or_false, false_or, or_true, true_or, false_and, and_false, reduceIte, reduceCtorEq, xB, ite_not, xretf_zc, xretf_c, xcont_c, xbd, hc]
  rcases fstv_cases (rcC I yr y s) n 0 with ⟨-, h2⟩ | ⟨k, -, h3, -, -, h2⟩
  · rw [h2, h2, if_pos rfl]
  · have hkn : k < n := by omega
    obtain ⟨-, -, -, ⟨a1, a2⟩, -⟩ := hC.2.2.2.2 k hkn
    have k1 := kNam k (by omega)
    have e : ¬ 26 + k = 0 := by omega
    rw [h2, h2]
    simp (disch := omega) only [xRl, xG1, xG2, kAll, rAll, nAll, List.map_nil, List.map_cons, List.sum_nil, List.sum_cons, Nat.reduceAdd, Nat.reduceSub, Nat.reduceMul, Nat.reduceLeDiff, Nat.reduceEqDiff, Nat.reduceLT, and_true, true_and, and_self, if_true, if_false, ne_eq, not_false_eq_true, not_true_eq_false, or_false, false_or, or_true, true_or, false_and, and_false, reduceIte, reduceCtorEq, xB, ite_not, xretf_zc, xretf_c, xcont_c, xbd, n9, nI_neg0, cl_nI, k1.1, k1.2, e, a1]
/-- what a person owes: by owners, kinds, dues -/
def owe (ow kd du : Nat → Nat) (p k : Nat) : Int32 := if ow k = p then nI 0 else if kd k = 5 then nI 0 else nI (du k)
theorem p2_owed (L : Nat) (I : Nat → Nat → Int32) (J : Nat → Nat → Int64) (n yr k : Nat) (hC : Cok I n yr) (hk : k < n) : FX2_owed [.ref (26 + k)] (S0 L I J) = some (some (.int (if cv I k 0 = 5 then nI 0 else nI (cv I k 4))), S0 L I J) := by
  rw [fX2_owed]
  have hn := hC.1
  obtain ⟨⟨a1, a2⟩, -, -, -, ⟨b1, b2⟩, -⟩ := hC.2.2.2.2 k hk
  have k1 := kNam k (by omega)
  simp (disch := omega) only [eX2_owed, xRl, xG1, xG2, kAll, rAll, nAll, List.map_nil, List.map_cons, List.sum_nil, List.sum_cons, Nat.reduceAdd, Nat.reduceSub, Nat.reduceMul, Nat.reduceLeDiff, Nat.reduceEqDiff, Nat.reduceLT, and_true, true_and, and_self, if_true, if_false, ne_eq, not_false_eq_true, not_true_eq_false, or_false, false_or, or_true, true_or, false_and, and_false, reduceIte, reduceCtorEq, xB, ite_not, xretf_zc, xretf_c, xcont_c, xbd, k1.1, a1, b1, nI_eq]
  split <;> rfl
theorem p4_owedBy (L : Nat) (I : Nat → Nat → Int32) (J : Nat → Nat → Int64) (n yr p s : Nat) (hC : Cok I n yr) (hp : p < 4) (hs : s < 216) : FX4_owedBy [.ref 24, .int (nI p), .int (nI s)] (S0 L I J) = some (some (.int (fstv (rcC I yr 0 s) (owe (fun k => cv I k 3) (fun k => cv I k 0) (fun k => cv I k 4) p) (nI 0) 0 n)), S0 L I J) := by
  rw [fX4_owedBy]
  have hc := p4_callerOf L I J n yr 0 s hC (by omega) hs
  have hn := hC.1
  simp (disch := omega) only [eX4_owedBy, xRl, xG1, xG2, kAll, rAll, nAll, List.map_nil, List.map_cons, List.sum_nil, List.sum_cons, Nat.reduceAdd, Nat.reduceSub, Nat.reduceMul, Nat.reduceLeDiff, Nat.reduceEqDiff, Nat.reduceLT, and_true, true_and, and_self, if_true, if_false, ne_eq, not_false_eq_true, not_true_eq_false, or_false, false_or, or_true, true_or, false_and, and_false, reduceIte, reduceCtorEq, xB, ite_not, xretf_zc, xretf_c, xcont_c, xbd, hc]
  rcases fstv_cases (rcC I yr 0 s) n 0 with ⟨-, h2⟩ | ⟨k, -, h3, -, -, h2⟩
  · rw [h2, h2, if_pos rfl]
  · have hkn : k < n := by omega
    have ho := p2_owed L I J n yr k hC hkn
    obtain ⟨-, -, -, ⟨a1, a2⟩, -⟩ := hC.2.2.2.2 k hkn
    have k1 := kNam k (by omega)
    have e : ¬ 26 + k = 0 := by omega
    rw [h2, h2]
    simp (disch := omega) only [eX4_owedBy, eX4_owedTo, xRl, xG1, xG2, kAll, rAll, nAll, List.map_nil, List.map_cons, List.sum_nil, List.sum_cons, Nat.reduceAdd, Nat.reduceSub, Nat.reduceMul, Nat.reduceLeDiff, Nat.reduceEqDiff, Nat.reduceLT, and_true, true_and, and_self, if_true, if_false, ne_eq, not_false_eq_true, not_true_eq_false, or_false, false_or, or_true, true_or, false_and, and_false, reduceIte, reduceCtorEq, xB, ite_not, xretf_zc, xretf_c, xcont_c, xbd, n9, nI_neg0, cl_nI, k1.1, k1.2, e, a1, ho, nI_eq]
    unfold owe
    split <;> rfl
theorem p4_owedTo (L : Nat) (I : Nat → Nat → Int32) (J : Nat → Nat → Int64) (n yr p s : Nat) (hC : Cok I n yr) (hp : p < 4) (hs : s < 216) : FX4_owedTo [.ref 24, .int (nI p), .int (nI s)] (S0 L I J) = some (some (.int (fstv (rcC I yr 0 s) (fun k => if cv I k 3 = p then (if cv I k 0 = 5 then nI 0 else nI (cv I k 4)) else nI 0) (nI 0) 0 n)), S0 L I J) := by
  rw [fX4_owedTo]
  have hc := p4_callerOf L I J n yr 0 s hC (by omega) hs
  have hn := hC.1
  simp (disch := omega) only [eX4_owedTo, xRl, xG1, xG2, kAll, rAll, nAll, List.map_nil, List.map_cons, List.sum_nil, List.sum_cons, Nat.reduceAdd, Nat.reduceSub, Nat.reduceMul, Nat.reduceLeDiff, Nat.reduceEqDiff, Nat.reduceLT, and_true, true_and, and_self, if_true, if_false, ne_eq, not_false_eq_true, not_true_eq_false, or_false, false_or, or_true, true_or, false_and, and_false, reduceIte, reduceCtorEq, xB, ite_not, xretf_zc, xretf_c, xcont_c, xbd, hc]
  rcases fstv_cases (rcC I yr 0 s) n 0 with ⟨-, h2⟩ | ⟨k, -, h3, -, -, h2⟩
  · rw [h2, h2, if_pos rfl]
  · have hkn : k < n := by omega
    have ho := p2_owed L I J n yr k hC hkn
    obtain ⟨-, -, -, ⟨a1, a2⟩, -⟩ := hC.2.2.2.2 k hkn
    have k1 := kNam k (by omega)
    have e : ¬ 26 + k = 0 := by omega
    rw [h2, h2]
    simp (disch := omega) only [eX4_owedBy, eX4_owedTo, xRl, xG1, xG2, kAll, rAll, nAll, List.map_nil, List.map_cons, List.sum_nil, List.sum_cons, Nat.reduceAdd, Nat.reduceSub, Nat.reduceMul, Nat.reduceLeDiff, Nat.reduceEqDiff, Nat.reduceLT, and_true, true_and, and_self, if_true, if_false, ne_eq, not_false_eq_true, not_true_eq_false, or_false, false_or, or_true, true_or, false_and, and_false, reduceIte, reduceCtorEq, xB, ite_not, xretf_zc, xretf_c, xcont_c, xbd, n9, nI_neg0, cl_nI, k1.1, k1.2, e, a1, ho, nI_eq]
    split <;> rfl
