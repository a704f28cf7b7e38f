/-! the constructors of both -/
def rwR (R : Nat → Nat → Nat) : Nat → Nat → Nat → Nat
  | 0 => R
  | j + 1 => xup (xup (rwR R j) (3 + 2 * j) 0 (4 + 2 * j)) 2 j (3 + 2 * j)
def txR (R : Nat → Nat → Nat) : Nat → Nat → Nat → Nat
  | 0 => R
  | j + 1 => xup (xup (txR R j) (16 + 2 * j) 0 (17 + 2 * j)) 15 j (16 + 2 * j)
def gR (R : Nat → Nat → Nat) (c : Nat) : Nat → Nat → Nat := xup (nmR (xup R c 0 (c + 1)) (c + 1) 8) c 2 (c + 10)
def kpR (R : Nat → Nat → Nat) : Nat → Nat → Nat → Nat
  | 0 => R
  | j + 1 => xup (gR (kpR R j) (36 + 11 * j)) 35 j (36 + 11 * j)
def rwI (a : Nat) (I : Nat → Nat → Int32) : Nat → Nat → Nat → Int32
  | 0 => I
  | j + 1 => xup (rwI a I j) (a + 2 * j) 1 (-1)
theorem rwI_in {a : Nat} {I : Nat → Nat → Int32} {q : Nat} : ∀ {j : Nat}, q < j → rwI a I j (a + 2 * q) 1 = -1
  | 0, h => absurd h (by omega)
  | j + 1, h => by
    show xup (rwI a I j) (a + 2 * j) 1 (-1) (a + 2 * q) 1 = -1
    by_cases hq : q = j
    · subst hq; rw [xup_self, if_pos rfl]
    · rw [xup_o _ _ _ _ (by omega)]; exact rwI_in (by omega)
theorem rwI_no {a : Nat} {I : Nat → Nat → Int32} {c k : Nat} : ∀ {j : Nat}, (k = 1 → ∀ q, q < j → c ≠ a + 2 * q) → rwI a I j c k = I c k
  | 0, _ => rfl
  | j + 1, h => by
    show xup (rwI a I j) (a + 2 * j) 1 (-1) c k = _
    have ih := rwI_no (a := a) (I := I) (c := c) (k := k) (j := j) (fun h1 q hq => h h1 q (by omega))
    by_cases hc : c = a + 2 * j
    · subst hc
      rw [xup_self, if_neg (fun q => h q j (by omega) rfl), ih]
    · rw [xup_o _ _ _ _ hc, ih]
theorem rwR_o (R : Nat → Nat → Nat) {c : Nat} (h : c < 2) : ∀ j, rwR R j c = R c
  | 0 => rfl
  | j + 1 => by
    show xup (xup (rwR R j) (3 + 2 * j) 0 (4 + 2 * j)) 2 j (3 + 2 * j) c = _
    rw [xup_ne _ _ _ (by omega), xup_ne _ _ _ (by omega), rwR_o R h j]
theorem txR_o (R : Nat → Nat → Nat) {c : Nat} (h : c < 15) : ∀ j, txR R j c = R c
  | 0 => rfl
  | j + 1 => by
    show xup (xup (txR R j) (16 + 2 * j) 0 (17 + 2 * j)) 15 j (16 + 2 * j) c = _
    rw [xup_ne _ _ _ (by omega), xup_ne _ _ _ (by omega), txR_o R h j]
theorem gR_o (R : Nat → Nat → Nat) {c a : Nat} (h1 : a ≠ c) (h2 : a ≠ c + 1) : gR R c a = R a := by
  unfold gR
  rw [xup_ne _ _ _ h1, nmR_o _ _ h2, xup_ne _ _ _ h1]
theorem kpR_o (R : Nat → Nat → Nat) {c : Nat} (h : c < 35) : ∀ j, kpR R j c = R c
  | 0 => rfl
  | j + 1 => by
    show xup (gR (kpR R j) (36 + 11 * j)) 35 j (36 + 11 * j) c = _
    rw [xup_ne _ _ _ (by omega), gR_o _ (by omega) (by omega), kpR_o R h j]
section NB
variable {L : Nat} {R : Nat → Nat → Nat} {I : Nat → Nat → Int32} {J : Nat → Nat → Int64}
theorem Fr_g {n c : Nat} (hF : Fr n R I J) (hc : c + 1 ≤ n) : Fr n (gR R c) I J := Fr_R (Fr_nm (Fr_R hF (by omega) _ _) hc _) (by omega) _ _
theorem Fr_rw (hF : Fr 2 R I J) : ∀ j, Fr (2 + 2 * j) (rwR R j) (rwI 3 I j) J
  | 0 => hF
  | j + 1 => by
    have h := Fr_s (Fr_rw hF j) 2
    exact Fr_R (Fr_R (Fr_I h (c := 3 + 2 * j) (by omega) 1 (-1)) (c := 3 + 2 * j) (by omega) _ _) (c := 2) (by omega) _ _
theorem Fr_tx (hF : Fr 15 R I J) : ∀ j, Fr (15 + 2 * j) (txR R j) (rwI 16 I j) J
  | 0 => hF
  | j + 1 => by
    have h := Fr_s (Fr_tx hF j) 2
    exact Fr_R (Fr_R (Fr_I h (c := 16 + 2 * j) (by omega) 1 (-1)) (c := 16 + 2 * j) (by omega) _ _) (c := 15) (by omega) _ _
theorem Fr_kp (hF : Fr 35 R I J) : ∀ j, Fr (35 + 11 * j) (kpR R j) I J
  | 0 => hF
  | j + 1 => by
    have h := Fr_s (Fr_kp hF j) 11
    exact Fr_R (Fr_g h (by omega)) (by omega) _ _
theorem l_rows (hF : Fr 2 R I J) (hR : R 1 0 = 2) : xD tX8_init (15, [.ref 1, .int (nI 0)], [], 74, Zs L 2 R I J) = xD tX8_init (15, [.ref 1, .int (nI 6)], [], 62, Zs L 14 (rwR R 6) (rwI 3 I 6) J) := by
  have key := xloop (t := tX8_init) (st := fun j (_ : Unit) => (15, [.ref 1, .int (nI j)], [], 74 - 2 * j, Zs L (2 + 2 * j) (rwR R j) (rwI 3 I j) J)) (g := fun _ _ => ()) (N := 6) (Inv := fun _ _ => True) (a0 := ()) trivial (by
    intro j u hj _
    refine ⟨?_, trivial⟩
    obtain ⟨k1, k2, k3, k4⟩ := kRow j hj
    have k5 := nRow L j hj
    have hz : N0 L (3 + 2 * j) = 0 := by
      have : j = 0 ∨ j = 1 ∨ j = 2 ∨ j = 3 ∨ j = 4 ∨ j = 5 := by omega
      rcases this with rfl | rfl | rfl | rfl | rfl | rfl <;> rfl
    have hFj := Fr_rw hF j
    have q := xq_newN (ci := 4) (L := L) (n' := 3 + 2 * j) (by omega) hFj (by omega) k1 hz
    have hFj2 : Fr (3 + 2 * j) (rwR R j) (rwI 3 I j) J := by have := Fr_s hFj 1; rw [show 2 + 2 * j + 1 = 3 + 2 * j by omega] at this; exact this
    have z := z5_init (L := L) (n' := 4 + 2 * j) (c := 3 + 2 * j) (by omega) hFj2 (by omega) (by omega) k1 k2 k5
    have z2 : ∀ tab pc lv st al, xnx tab (x_init 1 FX5_init (pc, lv, .ref (3 + 2 * j) :: st, al, Zs L (3 + 2 * j) (rwR R j) (rwI 3 I j) J)) = if 1 ≤ al ∧ (st.map Value.category).sum ≤ 8 then xD tab (pc + 3, lv, st, al - 1, Zs L (4 + 2 * j) (xup (rwR R j) (3 + 2 * j) 0 (4 + 2 * j)) (xup (rwI 3 I j) (3 + 2 * j) 1 (-1)) J) else none := fun tab pc lv st al => xq_init tab pc lv st al _ _ 1 _ FX5_init z
    have h1 : Kn (2 + 2 * j) 1 = 7 := Kn_at (by omega)
    have h2 : Kn (4 + 2 * j) 2 = 14 := Kn_at (by omega)
    have h3 : Kn (4 + 2 * j) (3 + 2 * j) = 5 := by rw [Kn_at (by omega)]; exact k1
    have h4 : Nn L (4 + 2 * j) 2 = 6 := Nn_at L (by omega)
    have h5 : rwR R j 1 0 = 2 := by rw [rwR_o _ (by omega)]; exact hR
    have h6 : x_qk 14 = 5 := rfl
    have hnle : ¬ 6 ≤ j := by omega
    have e00 : ¬ 3 + 2 * j = 0 := by omega
    have e3 : 2 + 2 * (j + 1) = 4 + 2 * j := by omega
    have e5 : 74 - 2 * (j + 1) = 74 - 2 * j - 1 - 1 := by omega
    have e6 : (1 ≤ 74 - 2 * j) = True := eq_true (by omega)
    have e7 : (1 ≤ 74 - 2 * j - 1) = True := eq_true (by omega)
    show xD tX8_init (15, _) = xD tX8_init (_, _, _, 74 - 2 * (j + 1), Zs L (2 + 2 * (j + 1)) (xup (xup (rwR R j) (3 + 2 * j) 0 (4 + 2 * j)) 2 j (3 + 2 * j)) (xup (rwI 3 I j) (3 + 2 * j) 1 (-1)) J)
    rw [e3, e5, hX8_init_15]
    simp (disch := omega) only [eX8_init, xRl, xG1, xG2, kAll, rAll, nAll, List.map_nil, List.map_cons, List.sum_nil, List.sum_cons, Nat.reduceAdd, Nat.reduceSub, Nat.reduceMul, Nat.reduceLeDiff, Nat.reduceEqDiff, Nat.reduceLT, and_true, true_and, and_self, if_true, if_false, ne_eq, not_false_eq_true, not_true_eq_false, or_false, false_or, or_true, true_or, false_and, and_false, reduceIte, reduceCtorEq, xB, ite_not, xretf_zc, xretf_c, xcont_c, xbd, nI_leI, hnle, h1, h5, q, e6, e7, e00, z2, h2, h3, h4, h6, nI_neg0, cl_nI, nI_add]) 6 (Nat.le_refl _)
  exact key.1
theorem l_texts (hF : Fr 15 R I J) (hR : R 1 1 = 15) : xD tX8_init (50, [.ref 1, .int (nI 0)], [], 61, Zs L 15 R I J) = xD tX8_init (50, [.ref 1, .int (nI 4)], [], 53, Zs L 23 (txR R 4) (rwI 16 I 4) J) := by
  have key := xloop (t := tX8_init) (st := fun j (_ : Unit) => (50, [.ref 1, .int (nI j)], [], 61 - 2 * j, Zs L (15 + 2 * j) (txR R j) (rwI 16 I j) J)) (g := fun _ _ => ()) (N := 4) (Inv := fun _ _ => True) (a0 := ()) trivial (by
    intro j u hj _
    refine ⟨?_, trivial⟩
    obtain ⟨k1, k2, k3, k4⟩ := kTxt j hj
    have k5 := nTxt L j hj
    have hz : N0 L (16 + 2 * j) = 0 := by
      have : j = 0 ∨ j = 1 ∨ j = 2 ∨ j = 3 := by omega
      rcases this with rfl | rfl | rfl | rfl <;> rfl
    have hFj := Fr_tx hF j
    have q := xq_newN (ci := 5) (L := L) (n' := 16 + 2 * j) (by omega) hFj (by omega) k1 hz
    have hFj2 : Fr (16 + 2 * j) (txR R j) (rwI 16 I j) J := by have := Fr_s hFj 1; rw [show 15 + 2 * j + 1 = 16 + 2 * j by omega] at this; exact this
    have z := z7_init (L := L) (n' := 17 + 2 * j) (c := 16 + 2 * j) (by omega) hFj2 (by omega) (by omega) k1 k2 k5
    have z2 : ∀ tab pc lv st al, xnx tab (x_init 1 FX7_init (pc, lv, .ref (16 + 2 * j) :: st, al, Zs L (16 + 2 * j) (txR R j) (rwI 16 I j) J)) = if 1 ≤ al ∧ (st.map Value.category).sum ≤ 8 then xD tab (pc + 3, lv, st, al - 1, Zs L (17 + 2 * j) (xup (txR R j) (16 + 2 * j) 0 (17 + 2 * j)) (xup (rwI 16 I j) (16 + 2 * j) 1 (-1)) J) else none := fun tab pc lv st al => xq_init tab pc lv st al _ _ 1 _ FX7_init z
    have h1 : Kn (15 + 2 * j) 1 = 7 := Kn_at (by omega)
    have h2 : Kn (17 + 2 * j) 15 = 15 := Kn_at (by omega)
    have h3 : Kn (17 + 2 * j) (16 + 2 * j) = 6 := by rw [Kn_at (by omega)]; exact k1
    have h4 : Nn L (17 + 2 * j) 15 = 4 := Nn_at L (by omega)
    have h5 : txR R j 1 1 = 15 := by rw [txR_o _ (by omega)]; exact hR
    have h6 : x_qk 15 = 6 := rfl
    have hnle : ¬ 4 ≤ j := by omega
    have e00 : ¬ 16 + 2 * j = 0 := by omega
    have e3 : 15 + 2 * (j + 1) = 17 + 2 * j := by omega
    have e5 : 61 - 2 * (j + 1) = 61 - 2 * j - 1 - 1 := by omega
    have e6 : (1 ≤ 61 - 2 * j) = True := eq_true (by omega)
    have e7 : (1 ≤ 61 - 2 * j - 1) = True := eq_true (by omega)
    show xD tX8_init (50, _) = xD tX8_init (_, _, _, 61 - 2 * (j + 1), Zs L (15 + 2 * (j + 1)) (xup (xup (txR R j) (16 + 2 * j) 0 (17 + 2 * j)) 15 j (16 + 2 * j)) (xup (rwI 16 I j) (16 + 2 * j) 1 (-1)) J)
    rw [e3, e5, hX8_init_50]
    simp (disch := omega) only [eX8_init, xRl, xG1, xG2, kAll, rAll, nAll, List.map_nil, List.map_cons, List.sum_nil, List.sum_cons, Nat.reduceAdd, Nat.reduceSub, Nat.reduceMul, Nat.reduceLeDiff, Nat.reduceEqDiff, Nat.reduceLT, and_true, true_and, and_self, if_true, if_false, ne_eq, not_false_eq_true, not_true_eq_false, or_false, false_or, or_true, true_or, false_and, and_false, reduceIte, reduceCtorEq, xB, ite_not, xretf_zc, xretf_c, xcont_c, xbd, nI_leI, hnle, h1, h5, q, e6, e7, e00, z2, h2, h3, h4, h6, nI_neg0, cl_nI, nI_add]) 4 (Nat.le_refl _)
  exact key.1
theorem kG2 {g : Nat} (h : isG g) : N0 L g = 0 ∧ K0 g = 4 ∧ K0 (g + 1) = 12 ∧ N0 L (g + 1) = 8 ∧ (∀ j, j < 8 → K0 (g + 2 + j) = 2 ∧ N0 L (g + 2 + j) = 0) ∧ K0 (g + 10) = 11 ∧ N0 L (g + 10) = 40 := by
  obtain ⟨⟨g1, g2, g3, g4, g5, g6, g7⟩, g8⟩ := kG L h
  refine ⟨?_, g1, g4, g5, fun j hj => ⟨(g8 j hj).1, ?_⟩, g6, g7⟩
  · rcases h with rfl | rfl | rfl | rfl <;> rfl
  · have : j = 0 ∨ j = 1 ∨ j = 2 ∨ j = 3 ∨ j = 4 ∨ j = 5 ∨ j = 6 ∨ j = 7 := by omega
    rcases h with rfl | rfl | rfl | rfl <;> rcases this with rfl | rfl | rfl | rfl | rfl | rfl | rfl | rfl <;> rfl
theorem zG {g : Nat} (hg : isG g) (hF : Fr g R I J) : FX4_init [.ref g] (Zs L g R I J) = some (none, Zs L (g + 10) (gR R g) I J) := by
  obtain ⟨g0, g1, g2, g3, g4, g5, g6⟩ := kG2 (L := L) hg
  have hl : g < 79 := by unfold isG at hg; omega
  exact z4_init hF hl (Nat.le_refl _) g1 g2 g3 g4 g5 g6
theorem l_kept (hF : Fr 35 R I J) (hR : R 1 3 = 35) : xD tX8_init (95, [.ref 1, .int (nI 0)], [], 41, Zs L 35 R I J) = xD tX8_init (95, [.ref 1, .int (nI 3)], [], 8, Zs L 68 (kpR R 3) I J) := by
  have key := xloop (t := tX8_init) (st := fun j (_ : Unit) => (95, [.ref 1, .int (nI j)], [], 41 - 11 * j, Zs L (35 + 11 * j) (kpR R j) I J)) (g := fun _ _ => ()) (N := 3) (Inv := fun _ _ => True) (a0 := ()) trivial (by
    intro j u hj _
    refine ⟨?_, trivial⟩
    have hg : isG (36 + 11 * j) := by unfold isG; omega
    obtain ⟨g0, g1, g2, g3, g4, g5, g6⟩ := kG2 (L := L) hg
    have hFj := Fr_kp hF j
    have q := xq_newN (ci := 3) (L := L) (n' := 36 + 11 * j) (by omega) hFj (by omega) g1 g0
    have hFj2 : Fr (36 + 11 * j) (kpR R j) I J := by have := Fr_s hFj 1; rw [show 35 + 11 * j + 1 = 36 + 11 * j by omega] at this; exact this
    have z := zG (L := L) hg hFj2
    have z2 : ∀ tab pc lv st al, xnx tab (x_init 10 FX4_init (pc, lv, .ref (36 + 11 * j) :: st, al, Zs L (36 + 11 * j) (kpR R j) I J)) = if 10 ≤ al ∧ (st.map Value.category).sum ≤ 8 then xD tab (pc + 3, lv, st, al - 10, Zs L (36 + 11 * j + 10) (gR (kpR R j) (36 + 11 * j)) I J) else none := fun tab pc lv st al => xq_init tab pc lv st al _ _ 10 _ FX4_init z
    have h1 : Kn (35 + 11 * j) 1 = 7 := Kn_at (by omega)
    have h2 : Kn (36 + 11 * j + 10) 35 = 13 := Kn_at (by omega)
    have h3 : Kn (36 + 11 * j + 10) (36 + 11 * j) = 4 := by rw [Kn_at (by omega)]; exact g1
    have h4 : Nn L (36 + 11 * j + 10) 35 = 3 := Nn_at L (by omega)
    have h5 : kpR R j 1 3 = 35 := by rw [kpR_o _ (by omega)]; exact hR
    have h6 : x_qk 13 = 4 := rfl
    have hnle : ¬ 3 ≤ j := by omega
    have e00 : ¬ 36 + 11 * j = 0 := by omega
    have e3 : 35 + 11 * (j + 1) = 36 + 11 * j + 10 := by omega
    have e5 : 41 - 11 * (j + 1) = 41 - 11 * j - 1 - 10 := by omega
    have e6 : (1 ≤ 41 - 11 * j) = True := eq_true (by omega)
    have e7 : (10 ≤ 41 - 11 * j - 1) = True := eq_true (by omega)
    show xD tX8_init (95, _) = xD tX8_init (_, _, _, 41 - 11 * (j + 1), Zs L (35 + 11 * (j + 1)) (xup (gR (kpR R j) (36 + 11 * j)) 35 j (36 + 11 * j)) I J)
    rw [e3, e5, hX8_init_95]
    simp (disch := omega) only [eX8_init, xRl, xG1, xG2, kAll, rAll, nAll, List.map_nil, List.map_cons, List.sum_nil, List.sum_cons, Nat.reduceAdd, Nat.reduceSub, Nat.reduceMul, Nat.reduceLeDiff, Nat.reduceEqDiff, Nat.reduceLT, and_true, true_and, and_self, if_true, if_false, ne_eq, not_false_eq_true, not_true_eq_false, or_false, false_or, or_true, true_or, false_and, and_false, reduceIte, reduceCtorEq, xB, ite_not, xretf_zc, xretf_c, xcont_c, xbd, nI_leI, hnle, h1, h5, q, e6, e7, e00, z2, h2, h3, h4, h6, nI_neg0, cl_nI, nI_add]) 3 (Nat.le_refl _)
  exact key.1
def R8 (R : Nat → Nat → Nat) : Nat → Nat → Nat :=
  xup (xup (xup (xup (xup (xup (xup (xup (kpR (xup (xup (gR (txR (xup (rwR (xup R 1 0 2) 6) 1 1 15) 4) 24) 1 2 24) 1 3 35) 3) 69 0 70) 69 1 71) 1 4 69) 72 0 73) 1 5 72) 1 6 74) 1 7 75) 1 8 76
theorem z8_init (hF : Fr 1 R I J) : FX8_init [.ref 1] (Zs L 1 R I J) = some (none, Zs L 76 (R8 R) (rwI 16 (rwI 3 I 6) 4) (xup J 1 12 1)) := by
  unfold R8
  have q2 := xq_newQ (L := L) (kd := 14) (m := 6) (n' := 2) rfl hF (by omega) rfl rfl (by omega)
  have F2 : Fr 2 (xup R 1 0 2) I J := Fr_R (Fr_s hF 1) (by omega) _ _
  have lr := l_rows (L := L) F2 (by rw [xup_self, if_pos rfl])
  have F14 : Fr 14 (rwR (xup R 1 0 2) 6) (rwI 3 I 6) J := Fr_rw F2 6
  generalize hR14 : rwR (xup R 1 0 2) 6 = R14 at lr F14
  generalize hI14 : rwI 3 I 6 = I14 at lr F14
  have q15 := xq_newQ (L := L) (kd := 15) (m := 4) (n' := 15) rfl F14 (by omega) rfl rfl (by omega)
  have F15 : Fr 15 (xup R14 1 1 15) I14 J := Fr_R (Fr_s F14 1) (by omega) _ _
  have lt := l_texts (L := L) F15 (by rw [xup_self, if_pos rfl])
  have F23 : Fr 23 (txR (xup R14 1 1 15) 4) (rwI 16 I14 4) J := Fr_tx F15 4
  generalize hR23 : txR (xup R14 1 1 15) 4 = R23 at lt F23
  generalize hI23 : rwI 16 I14 4 = I23 at lt F23
  have q24 := xq_newN (L := L) (ci := 3) (n' := 24) rfl F23 (by omega) rfl rfl
  have F24 : Fr 24 R23 I23 J := Fr_s F23 1
  have z24 := zG (L := L) (g := 24) (Or.inl rfl) F24
  have y24 : ∀ tab pc lv st al, xnx tab (x_init 10 FX4_init (pc, lv, .ref 24 :: st, al, Zs L 24 R23 I23 J)) = if 10 ≤ al ∧ (st.map Value.category).sum ≤ 8 then xD tab (pc + 3, lv, st, al - 10, Zs L 34 (gR R23 24) I23 J) else none := fun tab pc lv st al => xq_init tab pc lv st al _ _ 10 _ FX4_init z24
  have F34 : Fr 34 (xup (gR R23 24) 1 2 24) I23 J := Fr_R (Fr_g (Fr_s F24 10) (by omega)) (by omega) _ _
  generalize hR34 : xup (gR R23 24) 1 2 24 = R34 at F34
  have q35 := xq_newQ (L := L) (kd := 13) (m := 3) (n' := 35) rfl F34 (by omega) rfl rfl (by omega)
  have F35 : Fr 35 (xup R34 1 3 35) I23 J := Fr_R (Fr_s F34 1) (by omega) _ _
  have lk := l_kept (L := L) F35 (by rw [xup_self, if_pos rfl])
  have F68 : Fr 68 (kpR (xup R34 1 3 35) 3) I23 J := Fr_kp F35 3
  generalize hR68 : kpR (xup R34 1 3 35) 3 = R68 at lk F68
  have q69 := xq_newN (L := L) (ci := 0) (n' := 69) rfl F68 (by omega) rfl rfl
  have F69 : Fr 69 R68 I23 J := Fr_s F68 1
  have z69 := z0_init (L := L) (c := 69) (n' := 70) (n'' := 71) rfl rfl F69 (by omega) (by omega) rfl rfl rfl rfl rfl
  have y69 : ∀ tab pc lv st al, xnx tab (x_init 2 FX0_init (pc, lv, .ref 69 :: st, al, Zs L 69 R68 I23 J)) = if 2 ≤ al ∧ (st.map Value.category).sum ≤ 8 then xD tab (pc + 3, lv, st, al - 2, Zs L 71 (xup (xup R68 69 0 70) 69 1 71) I23 J) else none := fun tab pc lv st al => xq_init tab pc lv st al _ _ 2 _ FX0_init z69
  have F71 : Fr 71 (xup (xup (xup R68 69 0 70) 69 1 71) 1 4 69) I23 J := Fr_R (Fr_R (Fr_R (Fr_s F69 2) (by omega) _ _) (by omega) _ _) (by omega) _ _
  generalize hR71 : xup (xup (xup R68 69 0 70) 69 1 71) 1 4 69 = R71 at F71
  have q72 := xq_newN (L := L) (ci := 2) (n' := 72) rfl F71 (by omega) rfl rfl
  have F72 : Fr 72 R71 I23 J := Fr_s F71 1
  have z72 := z3_init (L := L) (c := 72) (n' := 73) rfl F72 (by omega) (by omega) rfl rfl rfl
  have y72 : ∀ tab pc lv st al, xnx tab (x_init 1 FX3_init (pc, lv, .ref 72 :: st, al, Zs L 72 R71 I23 J)) = if 1 ≤ al ∧ (st.map Value.category).sum ≤ 8 then xD tab (pc + 3, lv, st, al - 1, Zs L 73 (xup R71 72 0 73) I23 J) else none := fun tab pc lv st al => xq_init tab pc lv st al _ _ 1 _ FX3_init z72
  have F73 : Fr 73 (xup (xup R71 72 0 73) 1 5 72) I23 J := Fr_R (Fr_R (Fr_s F72 1) (by omega) _ _) (by omega) _ _
  generalize hR73 : xup (xup R71 72 0 73) 1 5 72 = R73 at F73
  have q74 := xq_newA (L := L) (kd := 11) (m := 216) (n' := 74) rfl F73 (by omega) rfl rfl (by omega)
  have F74 : Fr 74 (xup R73 1 6 74) I23 J := Fr_R (Fr_s F73 1) (by omega) _ _
  have q75 := xq_newA (L := L) (kd := 11) (m := 216) (n' := 75) rfl F74 (by omega) rfl rfl (by omega)
  have F75 : Fr 75 (xup (xup R73 1 6 74) 1 7 75) I23 J := Fr_R (Fr_s F74 1) (by omega) _ _
  have q76 := xq_newA (L := L) (kd := 10) (m := 6) (n' := 76) rfl F75 (by omega) rfl rfl (by omega)
  have kk : ∀ n, 1 ≤ n → Kn n 1 = 7 := fun n h => Kn_at h
  have k2 := kk 2 (by omega)
  have k14 := kk 14 (by omega)
  have k15 := kk 15 (by omega)
  have k34 := kk 34 (by omega)
  have k35 := kk 35 (by omega)
  have k71 := kk 71 (by omega)
  have k73 := kk 73 (by omega)
  have k74 := kk 74 (by omega)
  have k75 := kk 75 (by omega)
  have k76 := kk 76 (by omega)
  rw [fX8_init]
  simp (disch := omega) only [eX8_init, xRl, xG1, xG2, kAll, rAll, nAll, List.map_nil, List.map_cons, List.sum_nil, List.sum_cons, Nat.reduceAdd, Nat.reduceSub, Nat.reduceMul, Nat.reduceLeDiff, Nat.reduceEqDiff, Nat.reduceLT, and_true, true_and, and_self, if_true, if_false, ne_eq, not_false_eq_true, not_true_eq_false, or_false, false_or, or_true, true_or, false_and, and_false, reduceIte, reduceCtorEq, xB, ite_not, xretf_zc, xretf_c, xcont_c, xbd, xq_obj, q2, k2]
  rw [lr, hX8_init_15]
  simp (disch := omega) only [eX8_init, xRl, xG1, xG2, kAll, rAll, nAll, List.map_nil, List.map_cons, List.sum_nil, List.sum_cons, Nat.reduceAdd, Nat.reduceSub, Nat.reduceMul, Nat.reduceLeDiff, Nat.reduceEqDiff, Nat.reduceLT, and_true, true_and, and_self, if_true, if_false, ne_eq, not_false_eq_true, not_true_eq_false, or_false, false_or, or_true, true_or, false_and, and_false, reduceIte, reduceCtorEq, xB, ite_not, xretf_zc, xretf_c, xcont_c, xbd, nI_leI, q15, k15]
  rw [lt, hX8_init_50]
  simp (disch := omega) only [eX8_init, xRl, xG1, xG2, kAll, rAll, nAll, List.map_nil, List.map_cons, List.sum_nil, List.sum_cons, Nat.reduceAdd, Nat.reduceSub, Nat.reduceMul, Nat.reduceLeDiff, Nat.reduceEqDiff, Nat.reduceLT, and_true, true_and, and_self, if_true, if_false, ne_eq, not_false_eq_true, not_true_eq_false, or_false, false_or, or_true, true_or, false_and, and_false, reduceIte, reduceCtorEq, xB, ite_not, xretf_zc, xretf_c, xcont_c, xbd, nI_leI, q24, y24, k34, hR34, q35, k35]
  rw [lk, hX8_init_95]
  simp (disch := omega) only [eX8_init, xRl, xG1, xG2, kAll, rAll, nAll, List.map_nil, List.map_cons, List.sum_nil, List.sum_cons, Nat.reduceAdd, Nat.reduceSub, Nat.reduceMul, Nat.reduceLeDiff, Nat.reduceEqDiff, Nat.reduceLT, and_true, true_and, and_self, if_true, if_false, ne_eq, not_false_eq_true, not_true_eq_false, or_false, false_or, or_true, true_or, false_and, and_false, reduceIte, reduceCtorEq, xB, ite_not, xretf_zc, xretf_c, xcont_c, xbd, nI_leI, q69, y69, k71, hR71, q72, y72, k73, hR73, q74, k74, q75, k75, q76, k76]
def m1f (I : Nat → Nat → Int32) (c : Nat) : Nat → Nat → Nat → Int32
  | 0 => I
  | j + 1 => xup (m1f I c j) c j (-1)
def rgI (I : Nat → Nat → Int32) : Nat → Nat → Nat → Int32
  | 0 => I
  | j + 1 => xup (rgI I j) 78 (426 * (1 + j)) (-1)
def R9 (R : Nat → Nat → Nat) : Nat → Nat → Nat :=
  xup (xup (xup (xup (xup (xup (xup (xup (xup (xup (xup (xup R 77 0 78) 77 1 79) 77 2 80) 77 3 81) 77 4 82) 77 9 83) 77 13 84) 77 16 85) 77 17 86) 77 18 87) 77 19 88) 77 20 89
theorem z9_init (hF : Fr 77 R I J) : FX9_init [.ref 77] (Zs L 77 R I J) = some (none, Zs L 89 (R9 R) (rgI (m1f (m1f I 79 6) 81 4) 3) (xup J 77 7 1)) := by
  unfold R9
  have q78 := xq_newA (L := L) (kd := 10) (m := 1704) (n' := 78) rfl hF (by omega) rfl rfl (by omega)
  have F78 : Fr 78 (xup R 77 0 78) I J := Fr_R (Fr_s hF 1) (by omega) _ _
  generalize hR78 : xup R 77 0 78 = R78 at F78
  have q79 := xq_newA (L := L) (kd := 10) (m := 6) (n' := 79) rfl F78 (by omega) rfl rfl (by omega)
  have F79 : Fr 79 (xup R78 77 1 79) (m1f I 79 6) J := by
    have h0 := Fr_s F78 1
    exact Fr_R (Fr_I (Fr_I (Fr_I (Fr_I (Fr_I (Fr_I h0 (by omega) _ _) (by omega) _ _) (by omega) _ _) (by omega) _ _) (by omega) _ _) (by omega) _ _) (by omega) _ _
  have hI79 : xup (xup (xup (xup (xup (xup I 79 0 (-1)) 79 1 (-1)) 79 2 (-1)) 79 3 (-1)) 79 4 (-1)) 79 5 (-1) = m1f I 79 6 := rfl
  generalize hR79 : xup R78 77 1 79 = R79 at F79
  generalize hI79' : m1f I 79 6 = I79 at F79 hI79
  have q80 := xq_newA (L := L) (kd := 10) (m := 240) (n' := 80) rfl F79 (by omega) rfl rfl (by omega)
  have F80 : Fr 80 (xup R79 77 2 80) I79 J := Fr_R (Fr_s F79 1) (by omega) _ _
  generalize hR80 : xup R79 77 2 80 = R80 at F80
  have q81 := xq_newA (L := L) (kd := 10) (m := 4) (n' := 81) rfl F80 (by omega) rfl rfl (by omega)
  have F81 : Fr 81 (xup R80 77 3 81) (m1f I79 81 4) J := by
    have h0 := Fr_s F80 1
    exact Fr_R (Fr_I (Fr_I (Fr_I (Fr_I h0 (by omega) _ _) (by omega) _ _) (by omega) _ _) (by omega) _ _) (by omega) _ _
  have hI81 : xup (xup (xup (xup I79 81 0 (-1)) 81 1 (-1)) 81 2 (-1)) 81 3 (-1) = m1f I79 81 4 := rfl
  generalize hR81 : xup R80 77 3 81 = R81 at F81
  generalize hI81' : m1f I79 81 4 = I81 at F81 hI81
  have q82 := xq_newA (L := L) (kd := 10) (m := 320) (n' := 82) rfl F81 (by omega) rfl rfl (by omega)
  have F82 : Fr 82 (xup R81 77 4 82) I81 (xup J 77 7 1) := Fr_J (Fr_R (Fr_s F81 1) (by omega) _ _) (by omega) _ _
  generalize hR82 : xup R81 77 4 82 = R82 at F82
  generalize hJ : xup J 77 7 1 = J2 at F82
  have q83 := xq_newA (L := L) (kd := 10) (m := 6) (n' := 83) rfl F82 (by omega) rfl rfl (by omega)
  have F83 : Fr 83 (xup R82 77 9 83) I81 J2 := Fr_R (Fr_s F82 1) (by omega) _ _
  generalize hR83 : xup R82 77 9 83 = R83 at F83
  have q84 := xq_newA (L := L) (kd := 10) (m := 64) (n' := 84) rfl F83 (by omega) rfl rfl (by omega)
  have F84 : Fr 84 (xup R83 77 13 84) I81 J2 := Fr_R (Fr_s F83 1) (by omega) _ _
  generalize hR84 : xup R83 77 13 84 = R84 at F84
  have q85 := xq_newA (L := L) (kd := 11) (m := 216) (n' := 85) rfl F84 (by omega) rfl rfl (by omega)
  have F85 : Fr 85 (xup R84 77 16 85) I81 J2 := Fr_R (Fr_s F84 1) (by omega) _ _
  generalize hR85 : xup R84 77 16 85 = R85 at F85
  have q86 := xq_newA (L := L) (kd := 10) (m := 64) (n' := 86) rfl F85 (by omega) rfl rfl (by omega)
  have F86 : Fr 86 (xup R85 77 17 86) I81 J2 := Fr_R (Fr_s F85 1) (by omega) _ _
  generalize hR86 : xup R85 77 17 86 = R86 at F86
  have q87 := xq_newA (L := L) (kd := 10) (m := 7) (n' := 87) rfl F86 (by omega) rfl rfl (by omega)
  have F87 : Fr 87 (xup R86 77 18 87) I81 J2 := Fr_R (Fr_s F86 1) (by omega) _ _
  generalize hR87 : xup R86 77 18 87 = R87 at F87
  have q88 := xq_newA (L := L) (kd := 10) (m := 216) (n' := 88) rfl F87 (by omega) rfl rfl (by omega)
  have F88 : Fr 88 (xup R87 77 19 88) I81 J2 := Fr_R (Fr_s F87 1) (by omega) _ _
  generalize hR88 : xup R87 77 19 88 = R88 at F88
  have q89 := xq_newA (L := L) (kd := 10) (m := 216) (n' := 89) rfl F88 (by omega) rfl rfl (by omega)
  have kk : ∀ n, 77 ≤ n → Kn n 77 = 8 := fun n h => Kn_at h
  have kr : R88 77 0 = 78 := by
    rw [← hR88, xup_self, if_neg (by decide), ← hR87, xup_self, if_neg (by decide), ← hR86, xup_self, if_neg (by decide), ← hR85, xup_self, if_neg (by decide), ← hR84, xup_self, if_neg (by decide), ← hR83, xup_self, if_neg (by decide), ← hR82, xup_self, if_neg (by decide), ← hR81, xup_self, if_neg (by decide), ← hR80, xup_self, if_neg (by decide), ← hR79, xup_self, if_neg (by decide), ← hR78, xup_self, if_pos rfl]
  have kr2 : xup R88 77 20 89 77 0 = 78 := by rw [xup_self, if_neg (by decide)]; exact kr
  generalize hR89 : xup R88 77 20 89 = R89 at kr2
  have k89 : Kn 89 78 = 10 := Kn_at (by omega)
  have n89 : Nn L 89 78 = 1704 := Nn_at L (by omega)
  have key := xloop (t := tX9_init) (st := fun j (_ : Unit) => (152, [.ref 77, .int (nI (1 + j))], [], 0, Zs L 89 R89 (rgI I81 j) J2)) (g := fun _ _ => ()) (N := 3) (Inv := fun _ _ => True) (a0 := ()) trivial (by
    intro j u hj _
    refine ⟨?_, trivial⟩
    have hnle : ¬ 4 ≤ 1 + j := by omega
    have e2 : 1 + j + 1 = 1 + (j + 1) := by omega
    have k77 := kk 89 (by omega)
    show xD tX9_init (152, _) = xD tX9_init (_, _, _, _, Zs L 89 R89 (xup (rgI I81 j) 78 (426 * (1 + j)) (-1)) J2)
    rw [hX9_init_152]
    simp (disch := omega) only [eX9_init, xRl, xG1, xG2, kAll, rAll, nAll, List.map_nil, List.map_cons, List.sum_nil, List.sum_cons, Nat.reduceAdd, Nat.reduceSub, Nat.reduceMul, Nat.reduceLeDiff, Nat.reduceEqDiff, Nat.reduceLT, and_true, true_and, and_self, if_true, if_false, ne_eq, not_false_eq_true, not_true_eq_false, or_false, false_or, or_true, true_or, false_and, and_false, reduceIte, reduceCtorEq, xB, ite_not, xretf_zc, xretf_c, xcont_c, xbd, nI_leI, hnle, k77, kr2, k89, n89, pk_mul, nI_add, Nat.add_zero, nI_neg0, cl_nI, e2]) 3 (Nat.le_refl _)
  have k0 := key.1
  have a77 := kk 77 (by omega)
  have a78 := kk 78 (by omega)
  have a79 := kk 79 (by omega)
  have a80 := kk 80 (by omega)
  have a81 := kk 81 (by omega)
  have a82 := kk 82 (by omega)
  have a83 := kk 83 (by omega)
  have a84 := kk 84 (by omega)
  have a85 := kk 85 (by omega)
  have a86 := kk 86 (by omega)
  have a87 := kk 87 (by omega)
  have a88 := kk 88 (by omega)
  have a89 := kk 89 (by omega)
  have b79 : Kn 79 79 = 10 := Kn_at (by omega)
  have c79 : Nn L 79 79 = 6 := Nn_at L (by omega)
  have b81 : Kn 81 81 = 10 := Kn_at (by omega)
  have c81 : Nn L 81 81 = 4 := Nn_at L (by omega)
  rw [fX9_init]
  simp (disch := omega) only [eX9_init, xRl, xG1, xG2, kAll, rAll, nAll, List.map_nil, List.map_cons, List.sum_nil, List.sum_cons, Nat.reduceAdd, Nat.reduceSub, Nat.reduceMul, Nat.reduceLeDiff, Nat.reduceEqDiff, Nat.reduceLT, and_true, true_and, and_self, if_true, if_false, ne_eq, not_false_eq_true, not_true_eq_false, or_false, false_or, or_true, true_or, false_and, and_false, reduceIte, reduceCtorEq, xB, ite_not, xretf_zc, xretf_c, xcont_c, xbd, xq_obj, q78, a78, hR78, q79, b79, c79, nI_neg0, cl_nI, hI79, a79, hR79, q80, a80, hR80, q81, b81, c81, hI81, a81, hR81, q82, a82, hR82, hJ, q83, a83, hR83, q84, a84, hR84, q85, a85, hR85, q86, a86, hR86, q87, a87, hR87, q88, a88, hR88, q89, a89, hR89]
  rw [show xD tX9_init (152, [.ref 77, .int (nI 1)], [], 0, Zs L 89 R89 I81 J2) = _ from k0, hX9_init_152]
  simp (disch := omega) only [eX9_init, xRl, xG1, xG2, kAll, rAll, nAll, List.map_nil, List.map_cons, List.sum_nil, List.sum_cons, Nat.reduceAdd, Nat.reduceSub, Nat.reduceMul, Nat.reduceLeDiff, Nat.reduceEqDiff, Nat.reduceLT, and_true, true_and, and_self, if_true, if_false, ne_eq, not_false_eq_true, not_true_eq_false, or_false, false_or, or_true, true_or, false_and, and_false, reduceIte, reduceCtorEq, xB, ite_not, xretf_zc, xretf_c, xcont_c, xbd, nI_leI]
end NB
