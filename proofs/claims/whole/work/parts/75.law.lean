/-! the law -/
def SpR (R : Nat → Nat → Nat) : Prop := ∀ c k, 90 ≤ c ∨ 25 ≤ k → R c k = 0
theorem SpR_u {R : Nat → Nat → Nat} (h : SpR R) {c k : Nat} (hc : c < 90) (hk : k < 25) (v : Nat) : SpR (xup R c k v) := by
  intro a b hab
  by_cases ha : a = c
  · subst ha; rw [xup_self, if_neg (by omega)]; exact h a b hab
  · rw [xup_o _ _ _ _ ha]; exact h a b hab
theorem SpR_nm {R : Nat → Nat → Nat} (h : SpR R) {a : Nat} (ha : a < 90) : ∀ j, j ≤ 8 → SpR (nmR R a j)
  | 0, _ => h
  | j + 1, hj => SpR_u (SpR_nm h ha j (by omega)) ha (by omega) _
theorem SpR_g {R : Nat → Nat → Nat} (h : SpR R) {c : Nat} (hc : c + 1 < 90) : SpR (gR R c) := SpR_u (SpR_nm (SpR_u h (by omega) (by omega) _) hc 8 (by omega)) (by omega) (by omega) _
theorem SpR_rw {R : Nat → Nat → Nat} (h : SpR R) : ∀ j, j ≤ 6 → SpR (rwR R j)
  | 0, _ => h
  | j + 1, hj => SpR_u (SpR_u (SpR_rw h j (by omega)) (by omega) (by omega) _) (by omega) (by omega) _
theorem SpR_tx {R : Nat → Nat → Nat} (h : SpR R) : ∀ j, j ≤ 4 → SpR (txR R j)
  | 0, _ => h
  | j + 1, hj => SpR_u (SpR_u (SpR_tx h j (by omega)) (by omega) (by omega) _) (by omega) (by omega) _
theorem SpR_kp {R : Nat → Nat → Nat} (h : SpR R) : ∀ j, j ≤ 3 → SpR (kpR R j)
  | 0, _ => h
  | j + 1, hj => SpR_u (SpR_g (SpR_kp h j (by omega)) (by omega)) (by omega) (by omega) _
theorem SpR_8 {R : Nat → Nat → Nat} (h : SpR R) : SpR (R8 R) := SpR_u (SpR_u (SpR_u (SpR_u (SpR_u (SpR_u (SpR_u (SpR_u (SpR_kp (SpR_u (SpR_u (SpR_g (SpR_tx (SpR_u (SpR_rw (SpR_u h (by decide) (by decide) _) 6 (by decide)) (by decide) (by decide) _) 4 (by decide)) (by decide)) (by decide) (by decide) _) (by decide) (by decide) _) 3 (by decide)) (by decide) (by decide) _) (by decide) (by decide) _) (by decide) (by decide) _) (by decide) (by decide) _) (by decide) (by decide) _) (by decide) (by decide) _) (by decide) (by decide) _) (by decide) (by decide) _
theorem SpR_9 {R : Nat → Nat → Nat} (h : SpR R) : SpR (R9 R) := SpR_u (SpR_u (SpR_u (SpR_u (SpR_u (SpR_u (SpR_u (SpR_u (SpR_u (SpR_u (SpR_u (SpR_u (h) (by decide) (by decide) _) (by decide) (by decide) _) (by decide) (by decide) _) (by decide) (by decide) _) (by decide) (by decide) _) (by decide) (by decide) _) (by decide) (by decide) _) (by decide) (by decide) _) (by decide) (by decide) _) (by decide) (by decide) _) (by decide) (by decide) _) (by decide) (by decide) _
theorem SpR_0 : SpR R0 := by
  intro c k h
  have e1 : ∀ c, c < 90 → (rTab.getD c []).length ≤ 25 := by decide +kernel
  have e2 : rTab.length = 90 := rfl
  unfold R0
  by_cases hc : c < 90
  · rw [List.getD_eq_getElem?_getD (l := rTab.getD c []), List.getElem?_eq_none (by have := e1 c hc; omega)]; rfl
  · rw [List.getD_eq_getElem?_getD (l := rTab), List.getElem?_eq_none (by omega)]; rfl
theorem R_fin : R9 (R8 (fun _ _ => 0)) = R0 := by
  have e1 : ∀ c, c < 90 → ∀ k, k < 25 → R9 (R8 (fun _ _ => 0)) c k = R0 c k := by decide +kernel
  funext c k
  by_cases h : 90 ≤ c ∨ 25 ≤ k
  · rw [SpR_0 c k h, SpR_9 (SpR_8 (fun _ _ _ => rfl)) c k h]
  · exact e1 c (by omega) k (by omega)
theorem K_fin : Kn 89 = K0 := by
  funext c
  unfold Kn
  by_cases h : c = 1000 ∨ c ≤ 89
  · rw [if_pos h]
  · rw [if_neg h]
    have e2 : kTab.length = 90 := rfl
    unfold K0
    rw [if_neg (by omega), List.getD_eq_getElem?_getD, List.getElem?_eq_none (by omega)]; rfl
theorem N_fin (L : Nat) : Nn L 89 = N0 L := by
  funext c
  unfold Nn
  by_cases h : c = 1000 ∨ c ≤ 89
  · rw [if_pos h]
  · rw [if_neg h]
    have e2 : nTab.length = 90 := rfl
    unfold N0
    rw [if_neg (by omega), List.getD_eq_getElem?_getD, List.getElem?_eq_none (by omega)]; rfl
def IX (xs : Nat → Int32) : Nat → Nat → Int32 := fun c j => if c = 1000 then xs j else 0
theorem x0_Z (L : Nat) (xs : Nat → Int32) : x0 L xs = Zs L 0 (fun _ _ => 0) (IX xs) (fun _ _ => 0) := by
  have e1 : (fun c => if c = 1000 then 16 else 0) = Kn 0 := by
    funext c
    unfold Kn
    by_cases h : c = 1000
    · subst h; rfl
    · by_cases h0 : c = 0
      · subst h0; rfl
      · rw [if_neg h, if_neg (by omega)]
  have e2 : (fun c => if c = 1000 then L else 0) = Nn L 0 := by
    funext c
    unfold Nn
    by_cases h : c = 1000
    · subst h; rfl
    · by_cases h0 : c = 0
      · subst h0; rfl
      · rw [if_neg h, if_neg (by omega)]
  unfold x0 IX
  rw [e1, e2]
def IF (xs : Nat → Int32) : Nat → Nat → Int32 := rgI (m1f (m1f (rwI 16 (rwI 3 (IX xs) 6) 4) 79 6) 81 4) 3
def JF : Nat → Nat → Int64 := xup (xup (fun _ _ => 0) 1 12 1) 77 7 1
theorem m1f_o (I : Nat → Nat → Int32) {c a : Nat} (h : a ≠ c) : ∀ j, m1f I c j a = I a
  | 0 => rfl
  | j + 1 => by
    show xup (m1f I c j) c j (-1) a = _
    rw [xup_ne _ _ _ h, m1f_o I h j]
theorem m1f_in (I : Nat → Nat → Int32) {c q : Nat} : ∀ {j : Nat}, q < j → m1f I c j c q = -1
  | 0, h => absurd h (by omega)
  | j + 1, h => by
    show xup (m1f I c j) c j (-1) c q = _
    rw [xup_self]
    by_cases hq : q = j
    · rw [if_pos hq]
    · rw [if_neg hq, m1f_in I (by omega)]
theorem rgI_o (I : Nat → Nat → Int32) {a : Nat} (h : a ≠ 78) : ∀ j, rgI I j a = I a
  | 0 => rfl
  | j + 1 => by
    show xup (rgI I j) 78 (426 * (1 + j)) (-1) a = _
    rw [xup_ne _ _ _ h, rgI_o I h j]
theorem rgI_in (I : Nat → Nat → Int32) {q : Nat} : ∀ {j : Nat}, q < j → rgI I j 78 (426 * (1 + q)) = -1
  | 0, h => absurd h (by omega)
  | j + 1, h => by
    show xup (rgI I j) 78 (426 * (1 + j)) (-1) 78 _ = _
    rw [xup_self]
    by_cases hq : q = j
    · rw [if_pos (by rw [hq])]
    · rw [if_neg (by omega), rgI_in I (by omega)]
theorem rgI_no (I : Nat → Nat → Int32) {k : Nat} (h : k < 426) : ∀ j, rgI I j 78 k = I 78 k
  | 0 => rfl
  | j + 1 => by
    show xup (rgI I j) 78 (426 * (1 + j)) (-1) 78 k = _
    rw [xup_self, if_neg (by omega), rgI_no I h j]
theorem IF_z (xs : Nat → Int32) {c : Nat} (k : Nat) (h0 : c < 90) (h1 : c ≠ 78) (h2 : c ≠ 79) (h3 : c ≠ 81) (h4 : k = 1 → (c < 3 ∨ 14 < c) ∧ (c < 16 ∨ 23 < c) ∨ (c ≤ 14 ∧ c % 2 = 0) ∨ (15 ≤ c ∧ c % 2 = 1)) : IF xs c k = nI 0 := by
  unfold IF
  rw [rgI_o _ h1, m1f_o _ h3, m1f_o _ h2, rwI_no (fun hk q hq => by have := h4 hk; omega), rwI_no (fun hk q hq => by have := h4 hk; omega)]
  unfold IX
  rw [if_neg (by omega)]
  rfl
theorem Cp_IF (xs : Nat → Int32) : Cp (IF xs) JF := by
  have r79 : ∀ j, j < 6 → IF xs 79 j = -1 := fun j hj => by
    unfold IF
    rw [rgI_o _ (by decide), m1f_o _ (by decide), m1f_in _ hj]
  have r81 : ∀ j, j < 4 → IF xs 81 j = -1 := fun j hj => by
    unfold IF
    rw [rgI_o _ (by decide), m1f_in _ hj]
  have rw3 : ∀ j, j < 6 → IF xs (3 + 2 * j) 1 = -1 := fun j hj => by
    unfold IF
    rw [rgI_o _ (by omega), m1f_o _ (by omega), m1f_o _ (by omega), rwI_no (fun _ q hq => by omega), rwI_in hj]
  have rw16 : ∀ j, j < 4 → IF xs (16 + 2 * j) 1 = -1 := fun j hj => by
    unfold IF
    rw [rgI_o _ (by omega), m1f_o _ (by omega), m1f_o _ (by omega), rwI_in hj]
  have z78 : ∀ k, k < 426 → IF xs 78 k = nI 0 := fun k hk => by
    unfold IF
    rw [rgI_no _ hk, m1f_o _ (by decide), m1f_o _ (by decide), rwI_no (fun _ q hq => by omega), rwI_no (fun _ q hq => by omega)]
    rfl
  have bw : ∀ g, 24 ≤ g → g ≤ 58 → BW (IF xs) g := fun g h1 h2 => ⟨fun i hi => Or.inl (IF_z xs i (by omega) (by omega) (by omega) (by omega) (fun _ => by omega)), fun k hk => Or.inl (IF_z xs 5 (by omega) (by omega) (by omega) (by omega) (fun q => absurd q (by decide)))⟩
  refine ⟨fun j hj => ⟨?_, Or.inl (r79 j hj), fun i hi => ?_⟩, fun t ht => ⟨?_, Or.inl (r81 t ht), fun i hi => ?_⟩, ⟨?_, fun f hf => ?_⟩, ?_, ⟨?_, ?_⟩, ?_, ⟨0, 0, 0, ?_⟩, fun k hk => Or.inl ⟨?_, ?_, bw _ (by omega) (by omega)⟩⟩
  · rw [rw3 j hj, r79 j hj]
  · rw [IF_z xs i (by omega) (by omega) (by omega) (by omega) (fun _ => by omega), IF_z xs _ (by omega) (by omega) (by omega) (by omega) (fun _ => by omega)]
  · rw [rw16 t ht, r81 t ht]
  · rw [IF_z xs i (by omega) (by omega) (by omega) (by omega) (fun _ => by omega), IF_z xs _ (by omega) (by omega) (by omega) (by omega) (fun _ => by omega)]
  · rw [IF_z xs 9 (by omega) (by omega) (by omega) (by omega) (fun _ => by omega), IF_z xs 8 (by omega) (by omega) (by omega) (by omega) (fun _ => by omega)]
  · rw [IF_z xs f (by omega) (by omega) (by omega) (by omega) (fun _ => by omega), IF_z xs f (by omega) (by omega) (by omega) (by omega) (fun _ => by omega)]
  · show IF xs 1 10 = IF xs 77 5
    rw [IF_z xs 10 (by omega) (by omega) (by omega) (by omega) (fun _ => by omega), IF_z xs 5 (by omega) (by omega) (by omega) (by omega) (fun _ => by omega)]
  · rfl
  · rfl
  · exact IF_z xs 15 (by omega) (by omega) (by omega) (by omega) (fun _ => by omega)
  · refine ⟨⟨by omega, by omega, ?_, ?_, ?_, z78 0 (by omega), z78 1 (by omega)⟩, bw 24 (by omega) (by omega), ⟨rfl, Or.inr rfl⟩, fun k hk => absurd hk (by omega), fun i hi => absurd hi (by omega)⟩
    · exact IF_z xs 1 (by omega) (by omega) (by omega) (by omega) (fun _ => by omega)
    · exact IF_z xs 3 (by omega) (by omega) (by omega) (by omega) (fun _ => by omega)
    · exact IF_z xs 4 (by omega) (by omega) (by omega) (by omega) (fun _ => by omega)
  · exact IF_z xs 1 (by omega) (by omega) (by omega) (by omega) (fun _ => by omega)
  · unfold IF
    exact rgI_in _ hk
theorem law_born (L : Nat) (xs : Nat → Int32) : xD tL_law (0, [.ref 1000, .null, .null, .null], [], 89, x0 L xs) = xD tL_law (18, [.ref 1000, .ref 1, .ref 77, .int (nI 0)], [], 0, S0 L (IF xs) JF) := by
  have F0' : Fr 0 (fun _ _ => 0) (IX xs) (fun _ _ => 0) := ⟨fun _ _ _ => rfl, fun c k _ hc => if_neg hc, fun _ _ _ => rfl⟩
  have q1 := xq_newN (L := L) (ci := 6) (n' := 1) rfl F0' (by omega) rfl rfl
  have F1 : Fr 1 (fun _ _ => 0) (IX xs) (fun _ _ => 0) := Fr_s F0' 1
  have z1 := z8_init (L := L) F1
  have y1 : ∀ tab pc lv st al, xnx tab (x_init 75 FX8_init (pc, lv, .ref 1 :: st, al, Zs L 1 (fun _ _ => 0) (IX xs) (fun _ _ => 0))) = if 75 ≤ al ∧ (st.map Value.category).sum ≤ 8 then xD tab (pc + 3, lv, st, al - 75, Zs L 76 (R8 (fun _ _ => 0)) (rwI 16 (rwI 3 (IX xs) 6) 4) (xup (fun _ _ => 0) 1 12 1)) else none := fun tab pc lv st al => xq_init tab pc lv st al _ _ 75 _ FX8_init z1
  have F76 : Fr 76 (R8 (fun _ _ => 0)) (rwI 16 (rwI 3 (IX xs) 6) 4) (xup (fun _ _ => 0) 1 12 1) := by
    refine ⟨fun c k hc => ?_, fun c k hc h1 => ?_, fun c k hc => ?_⟩
    · by_cases h : 90 ≤ c ∨ 25 ≤ k
      · exact SpR_8 (fun _ _ _ => rfl) c k h
      · have e1 : ∀ c, c < 90 → ∀ k, k < 25 → 76 < c → R8 (fun _ _ => 0) c k = 0 := by decide +kernel
        exact e1 c (by omega) k (by omega) hc
    · rw [rwI_no (fun _ q hq => by omega), rwI_no (fun _ q hq => by omega)]
      exact if_neg h1
    · rw [xup_o _ _ _ _ (by omega)]
  have q77 := xq_newN (L := L) (ci := 7) (n' := 77) rfl F76 (by omega) rfl rfl
  have z77 := z9_init (L := L) (Fr_s F76 1)
  have zz : ∀ I J, Zs L 89 R0 I J = S0 L I J := fun I J => by unfold Zs S0; rw [K_fin, N_fin]
  rw [R_fin, zz] at z77
  have y77 : ∀ tab pc lv st al, xnx tab (x_init 12 FX9_init (pc, lv, .ref 77 :: st, al, Zs L 77 (R8 (fun _ _ => 0)) (rwI 16 (rwI 3 (IX xs) 6) 4) (xup (fun _ _ => 0) 1 12 1))) = if 12 ≤ al ∧ (st.map Value.category).sum ≤ 8 then xD tab (pc + 3, lv, st, al - 12, S0 L (IF xs) JF) else none := fun tab pc lv st al => xq_init tab pc lv st al _ _ 12 _ FX9_init z77
  rw [x0_Z]
  simp (disch := omega) only [eL_0, xRl, xG1, xG2, kAll, rAll, nAll, List.map_nil, List.map_cons, List.sum_nil, List.sum_cons, Nat.reduceAdd, Nat.reduceSub, Nat.reduceMul, Nat.reduceLeDiff, Nat.reduceEqDiff, Nat.reduceLT, and_true, true_and, and_self, if_true, if_false, ne_eq, not_false_eq_true, not_true_eq_false, or_false, false_or, or_true, true_or, false_and, and_false, reduceIte, reduceCtorEq, xB, ite_not, xretf_zc, xretf_c, xcont_c, xbd, q1, y1, q77, y77]
theorem law_loop {L : Nat} (hL : L ≤ 384) : ∀ (d i : Nat) (I : Nat → Nat → Int32) (J : Nat → Nat → Int64), L < i + d → i ≤ 390 → Cp I J → ∃ σ', xD tL_law (18, [.ref 1000, .ref 1, .ref 77, .int (nI i)], [], 0, S0 L I J) = some (some (.int (nI 1)), σ')
  | 0, i, I, J, h, _, _ => by
    refine ⟨S0 L I J, ?_⟩
    have hlt : (nI L - nI 6 < nI i) = True := eq_true (by
      rcases Nat.lt_or_ge L 6 with q | q
      · exact Int32.lt_of_lt_of_le (pk_sneg (by omega) q) (nI_pos' (by omega))
      · rw [pk_sub q]; exact (nI_ltI (by omega) (by omega)).mpr (by omega))
    rw [hL_18]
    simp (disch := omega) only [eL_0, eL_21, xRl, xG1, xG2, kAll, rAll, nAll, List.map_nil, List.map_cons, List.sum_nil, List.sum_cons, Nat.reduceAdd, Nat.reduceSub, Nat.reduceMul, Nat.reduceLeDiff, Nat.reduceEqDiff, Nat.reduceLT, and_true, true_and, and_self, if_true, if_false, ne_eq, not_false_eq_true, not_true_eq_false, or_false, false_or, or_true, true_or, false_and, and_false, reduceIte, reduceCtorEq, xB, ite_not, xretf_zc, xretf_c, xcont_c, xbd, hlt]
  | d + 1, i, I, J, h, hi, hc => by
    by_cases hle : i + 6 ≤ L
    · have hlt : (nI L - nI 6 < nI i) = False := eq_false (by
        rw [pk_sub (by omega), nI_ltI (by omega) (by omega)]; omega)
      obtain ⟨I2, J2, e1, hc2⟩ := cs_all hc hle hL (I 1000 i &&& nI 63)
      obtain ⟨σ', e2⟩ := law_loop hL d (i + 6) I2 J2 (by omega) (by omega) hc2
      refine ⟨σ', ?_⟩
      rw [← e2, ← e1, hL_18]
      simp (disch := omega) only [eL_0, xRl, xG1, xG2, kAll, rAll, nAll, List.map_nil, List.map_cons, List.sum_nil, List.sum_cons, Nat.reduceAdd, Nat.reduceSub, Nat.reduceMul, Nat.reduceLeDiff, Nat.reduceEqDiff, Nat.reduceLT, and_true, true_and, and_self, if_true, if_false, ne_eq, not_false_eq_true, not_true_eq_false, or_false, false_or, or_true, true_or, false_and, and_false, reduceIte, reduceCtorEq, xB, ite_not, xretf_zc, xretf_c, xcont_c, xbd, hlt, nI_neg0, cl_nI]
      rw [hL_33, xq_sw]
    · refine ⟨S0 L I J, ?_⟩
      have hlt : (nI L - nI 6 < nI i) = True := eq_true (by
        rcases Nat.lt_or_ge L 6 with q | q
        · exact Int32.lt_of_lt_of_le (pk_sneg (by omega) q) (nI_pos' (by omega))
        · rw [pk_sub q]; exact (nI_ltI (by omega) (by omega)).mpr (by omega))
      rw [hL_18]
      simp (disch := omega) only [eL_0, eL_21, xRl, xG1, xG2, kAll, rAll, nAll, List.map_nil, List.map_cons, List.sum_nil, List.sum_cons, Nat.reduceAdd, Nat.reduceSub, Nat.reduceMul, Nat.reduceLeDiff, Nat.reduceEqDiff, Nat.reduceLT, and_true, true_and, and_self, if_true, if_false, ne_eq, not_false_eq_true, not_true_eq_false, or_false, false_or, or_true, true_or, false_and, and_false, reduceIte, reduceCtorEq, xB, ite_not, xretf_zc, xretf_c, xcont_c, xbd, hlt]
theorem whole_start {p : Program} {e : Env} {s : State} {m : MethodId} {below : List Frame} {meth : Method} {c : Code} (l : Launch) {b L : Nat} {xs : Nat → Int32} (hL : L ≤ 384) (C0 : lw_At p s m meth c b L xs) : W p l e room_1 s m #[Value.ref b] below meth c s.heap [] 0 0 (lw_Z below #[Value.ref b] s) (entryFrame m ([Value.ref b] : List Value).toArray 4) := by
  obtain ⟨σ', h⟩ := law_loop hL (L + 1) 0 (IF xs) JF (by omega) (by omega) (Cp_IF xs)
  exact x_start l C0 σ' ((law_born L xs).trans h)
