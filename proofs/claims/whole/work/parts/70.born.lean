/-! the constructors: cells -/
def Kn (n : Nat) : Nat → Nat := fun c => if c = 1000 ∨ c ≤ n then K0 c else 0
def Nn (L n : Nat) : Nat → Nat := fun c => if c = 1000 ∨ c ≤ n then N0 L c else 0
abbrev Zs (L n : Nat) (R : Nat → Nat → Nat) (I : Nat → Nat → Int32) (J : Nat → Nat → Int64) : xS := ((Kn n, Nn L n, R, n), I, J)
theorem Kn_at {n c : Nat} (h : c ≤ n) : Kn n c = K0 c := if_pos (Or.inr h)
theorem Nn_at (L : Nat) {n c : Nat} (h : c ≤ n) : Nn L n c = N0 L c := if_pos (Or.inr h)
def Fr (n : Nat) (R : Nat → Nat → Nat) (I : Nat → Nat → Int32) (J : Nat → Nat → Int64) : Prop := (∀ c k, n < c → R c k = 0) ∧ (∀ c k, n < c → c ≠ 1000 → I c k = 0) ∧ ∀ c k, n < c → J c k = 0
theorem Fr_s {n : Nat} {R : Nat → Nat → Nat} {I : Nat → Nat → Int32} {J : Nat → Nat → Int64} (h : Fr n R I J) (m : Nat) : Fr (n + m) R I J := ⟨fun c k hc => h.1 c k (by omega), fun c k hc => h.2.1 c k (by omega), fun c k hc => h.2.2 c k (by omega)⟩
theorem Fr_R {n : Nat} {R : Nat → Nat → Nat} {I : Nat → Nat → Int32} {J : Nat → Nat → Int64} (h : Fr n R I J) {c : Nat} (hc : c ≤ n) (k v : Nat) : Fr n (xup R c k v) I J := ⟨fun a b hb => by rw [xup_o _ _ _ _ (by omega)]; exact h.1 a b hb, h.2⟩
theorem Fr_I {n : Nat} {R : Nat → Nat → Nat} {I : Nat → Nat → Int32} {J : Nat → Nat → Int64} (h : Fr n R I J) {c : Nat} (hc : c ≤ n) (k : Nat) (v : Int32) : Fr n R (xup I c k v) J := ⟨h.1, fun a b hb h1 => by rw [xup_o _ _ _ _ (by omega)]; exact h.2.1 a b hb h1, h.2.2⟩
theorem Fr_J {n : Nat} {R : Nat → Nat → Nat} {I : Nat → Nat → Int32} {J : Nat → Nat → Int64} (h : Fr n R I J) {c : Nat} (hc : c ≤ n) (k : Nat) (v : Int64) : Fr n R I (xup J c k v) := ⟨h.1, h.2.1, fun a b hb => by rw [xup_o _ _ _ _ (by omega)]; exact h.2.2 a b hb⟩
theorem va_id {α : Type} (f : Nat → α) (k : Nat) {v : α} (h : f k = v) : va_up f k v = f := by
  funext j
  by_cases hj : j = k
  · subst hj; rw [va_upS, h]
  · rw [va_upN _ _ hj]
theorem newZ {L n n' : Nat} {R : Nat → Nat → Nat} {I : Nat → Nat → Int32} {J : Nat → Nat → Int64} {kd m : Nat} (e : n' = n + 1) (hF : Fr n R I J) (hn : n < 89) (hk : K0 n' = kd) (hm : N0 L n' = m) : x_newS (Zs L n R I J) kd m = Zs L n' R I J := by
  subst e
  unfold x_newS
  have e1 : va_up (Kn n) (n + 1) kd = Kn (n + 1) := by
    funext c
    by_cases hc : c = n + 1
    · subst hc; rw [va_upS, Kn_at (Nat.le_refl _), hk]
    · rw [va_upN _ _ hc]
      unfold Kn
      by_cases h1 : c = 1000 ∨ c ≤ n
      · rw [if_pos h1, if_pos (by omega)]
      · rw [if_neg h1, if_neg (by omega)]
  have e2 : va_up (Nn L n) (n + 1) m = Nn L (n + 1) := by
    funext c
    by_cases hc : c = n + 1
    · subst hc; rw [va_upS, Nn_at L (Nat.le_refl _), hm]
    · rw [va_upN _ _ hc]
      unfold Nn
      by_cases h1 : c = 1000 ∨ c ≤ n
      · rw [if_pos h1, if_pos (by omega)]
      · rw [if_neg h1, if_neg (by omega)]
  have e3 : va_up R (n + 1) (fun _ => 0) = R := va_id R _ (funext fun k => hF.1 _ k (by omega))
  have e4 : va_up I (n + 1) (fun _ => 0) = I := va_id I _ (funext fun k => hF.2.1 _ k (by omega) (by omega))
  have e5 : va_up J (n + 1) (fun _ => 0) = J := va_id J _ (funext fun k => hF.2.2 _ k (by omega))
  show ((va_up (Kn n) (n + 1) kd, va_up (Nn L n) (n + 1) m, va_up R (n + 1) (fun _ => 0), n + 1), va_up I (n + 1) (fun _ => 0), va_up J (n + 1) (fun _ => 0)) = _
  rw [e1, e2, e3, e4, e5]
theorem Kn_no {n : Nat} (h : n < 89) : ¬ Kn n (n + 1) = 16 := by
  unfold Kn
  rw [if_neg (by omega)]
  decide
section NQ
variable {L n n' : Nat} {R : Nat → Nat → Nat} {I : Nat → Nat → Int32} {J : Nat → Nat → Int64}
theorem xq_obj (tab : List (Nat × xO)) (pc c : Nat) (lv st : List Value) (al : Nat) (σ : xS) : xnx tab (x_obj (pc, lv, .ref c :: st, al, σ)) = if (st.map Value.category).sum ≤ 8 then xD tab (pc + 3, lv, st, al, σ) else none := by
  simp only [x_obj]
  split <;> rfl
theorem xq_newN {ci : Nat} (e : n' = n + 1) (hF : Fr n R I J) (hn : n < 89) (hk : K0 n' = ci + 1) (hm : N0 L n' = 0) (tab : List (Nat × xO)) (pc : Nat) (lv st : List Value) (al : Nat) : xnx tab (x_new ci (pc, lv, st, al, Zs L n R I J)) = if 1 ≤ al then xD tab (pc + 3, lv, .ref n' :: st, al - 1, Zs L n' R I J) else none := by
  simp only [x_new]
  rw [newZ e hF hn hk hm]
  have h1 : ¬ Kn n (n + 1) = 16 := Kn_no hn
  by_cases h : 1 ≤ al
  · rw [if_pos h, if_pos ⟨h, by show n < 899; omega, h1⟩, e]; rfl
  · rw [if_neg h, if_neg (fun q => h q.1)]; rfl
theorem xq_newA {kd m : Nat} (e : n' = n + 1) (hF : Fr n R I J) (hn : n < 89) (hk : K0 n' = kd) (hm : N0 L n' = m) (hm2 : m ≤ 2000) (tab : List (Nat × xO)) (pc : Nat) (lv st : List Value) (al : Nat) : xnx tab (x_newa kd (pc, lv, .int (nI m) :: st, al, Zs L n R I J)) = if 1 ≤ al then xD tab (pc + 2, lv, .ref n' :: st, al - 1, Zs L n' R I J) else none := by
  simp only [x_newa]
  rw [cl_nI (show m < 2 ^ 31 by omega), newZ e hF hn hk hm]
  have h1 : ¬ Kn n (n + 1) = 16 := Kn_no hn
  by_cases h : 1 ≤ al
  · rw [if_pos h, if_pos ⟨h, by show n < 899; omega, h1, fun q => nI_pos (show m < 2 ^ 31 by omega) q, hm2⟩, e]; rfl
  · rw [if_neg h, if_neg (fun q => h q.1)]; rfl
theorem xq_newQ {kd m : Nat} (e : n' = n + 1) (hF : Fr n R I J) (hn : n < 89) (hk : K0 n' = kd) (hm : N0 L n' = m) (hm2 : m ≤ 2000) (tab : List (Nat × xO)) (pc : Nat) (lv st : List Value) (al : Nat) : xnx tab (x_newq kd (pc, lv, .int (nI m) :: st, al, Zs L n R I J)) = if 1 ≤ al then xD tab (pc + 3, lv, .ref n' :: st, al - 1, Zs L n' R I J) else none := by
  simp only [x_newq]
  rw [cl_nI (show m < 2 ^ 31 by omega), newZ e hF hn hk hm]
  have h1 : ¬ Kn n (n + 1) = 16 := Kn_no hn
  by_cases h : 1 ≤ al
  · rw [if_pos h, if_pos ⟨h, by show n < 899; omega, h1, fun q => nI_pos (show m < 2 ^ 31 by omega) q, hm2⟩, e]; rfl
  · rw [if_neg h, if_neg (fun q => h q.1)]; rfl
theorem z5_init {c : Nat} (e : n' = n + 1) (hF : Fr n R I J) (hn : n < 89) (hc : c ≤ n) (hkc : K0 c = 5) (hk : K0 n' = 10) (hm : N0 L n' = 40) : FX5_init [.ref c] (Zs L n R I J) = some (none, Zs L n' (xup R c 0 n') (xup I c 1 (-1)) J) := by
  have q := xq_newA e hF hn hk hm (by omega)
  have h1 : Kn n' c = 5 := by rw [Kn_at (by omega)]; exact hkc
  have h0 : ¬ n' = 0 := by omega
  rw [fX5_init]
  simp (disch := omega) only [eX5_init, xRl, xG1, xG2, kAll, rAll, nAll, List.map_nil, List.map_cons, List.sum_nil, List.sum_cons, Nat.reduceAdd, Nat.reduceSub, Nat.reduceMul, Nat.reduceLeDiff, Nat.reduceEqDiff, Nat.reduceLT, and_true, true_and, and_self, if_true, if_false, ne_eq, not_false_eq_true, not_true_eq_false, or_false, false_or, or_true, true_or, false_and, and_false, reduceIte, reduceCtorEq, xB, ite_not, xretf_zc, xretf_c, xcont_c, xbd, xq_obj, q, h1, h0]
theorem z7_init {c : Nat} (e : n' = n + 1) (hF : Fr n R I J) (hn : n < 89) (hc : c ≤ n) (hkc : K0 c = 6) (hk : K0 n' = 9) (hm : N0 L n' = 80) : FX7_init [.ref c] (Zs L n R I J) = some (none, Zs L n' (xup R c 0 n') (xup I c 1 (-1)) J) := by
  have q := xq_newA e hF hn hk hm (by omega)
  have h1 : Kn n' c = 6 := by rw [Kn_at (by omega)]; exact hkc
  have h0 : ¬ n' = 0 := by omega
  rw [fX7_init]
  simp (disch := omega) only [eX7_init, xRl, xG1, xG2, kAll, rAll, nAll, List.map_nil, List.map_cons, List.sum_nil, List.sum_cons, Nat.reduceAdd, Nat.reduceSub, Nat.reduceMul, Nat.reduceLeDiff, Nat.reduceEqDiff, Nat.reduceLT, and_true, true_and, and_self, if_true, if_false, ne_eq, not_false_eq_true, not_true_eq_false, or_false, false_or, or_true, true_or, false_and, and_false, reduceIte, reduceCtorEq, xB, ite_not, xretf_zc, xretf_c, xcont_c, xbd, xq_obj, q, h1, h0]
theorem z2_init {c : Nat} (σ : xS) : FX2_init [.ref c] σ = some (none, σ) := by
  rw [fX2_init]
  simp (disch := omega) only [eX2_init, xRl, xG1, xG2, kAll, rAll, nAll, List.map_nil, List.map_cons, List.sum_nil, List.sum_cons, Nat.reduceAdd, Nat.reduceSub, Nat.reduceMul, Nat.reduceLeDiff, Nat.reduceEqDiff, Nat.reduceLT, and_true, true_and, and_self, if_true, if_false, ne_eq, not_false_eq_true, not_true_eq_false, or_false, false_or, or_true, true_or, false_and, and_false, reduceIte, reduceCtorEq, xB, ite_not, xretf_zc, xretf_c, xcont_c, xbd, xq_obj]
theorem z3_init {c : Nat} (e : n' = n + 1) (hF : Fr n R I J) (hn : n < 89) (hc : c ≤ n) (hkc : K0 c = 3) (hk : K0 n' = 10) (hm : N0 L n' = 7) : FX3_init [.ref c] (Zs L n R I J) = some (none, Zs L n' (xup R c 0 n') I J) := by
  have q := xq_newA e hF hn hk hm (by omega)
  have h1 : Kn n' c = 3 := by rw [Kn_at (by omega)]; exact hkc
  have h0 : ¬ n' = 0 := by omega
  rw [fX3_init]
  simp (disch := omega) only [eX3_init, xRl, xG1, xG2, kAll, rAll, nAll, List.map_nil, List.map_cons, List.sum_nil, List.sum_cons, Nat.reduceAdd, Nat.reduceSub, Nat.reduceMul, Nat.reduceLeDiff, Nat.reduceEqDiff, Nat.reduceLT, and_true, true_and, and_self, if_true, if_false, ne_eq, not_false_eq_true, not_true_eq_false, or_false, false_or, or_true, true_or, false_and, and_false, reduceIte, reduceCtorEq, xB, ite_not, xretf_zc, xretf_c, xcont_c, xbd, xq_obj, q, h1, h0]
theorem z0_init {c n'' : Nat} (e : n' = n + 1) (e2 : n'' = n' + 1) (hF : Fr n R I J) (hn : n < 88) (hc : c ≤ n) (hkc : K0 c = 1) (hk : K0 n' = 11) (hm : N0 L n' = 64) (hk2 : K0 n'' = 10) (hm2 : N0 L n'' = 64) : FX0_init [.ref c] (Zs L n R I J) = some (none, Zs L n'' (xup (xup R c 0 n') c 1 n'') I J) := by
  have q := xq_newA e hF (by omega) hk hm (by omega)
  have q2 := xq_newA e2 (Fr_R (e ▸ Fr_s hF 1) (c := c) (by omega) 0 n') (by omega) hk2 hm2 (by omega)
  have h1 : Kn n' c = 1 := by rw [Kn_at (by omega)]; exact hkc
  have h2 : Kn n'' c = 1 := by rw [Kn_at (by omega)]; exact hkc
  have h0 : ¬ n' = 0 := by omega
  have h00 : ¬ n'' = 0 := by omega
  rw [fX0_init]
  simp (disch := omega) only [eX0_init, xRl, xG1, xG2, kAll, rAll, nAll, List.map_nil, List.map_cons, List.sum_nil, List.sum_cons, Nat.reduceAdd, Nat.reduceSub, Nat.reduceMul, Nat.reduceLeDiff, Nat.reduceEqDiff, Nat.reduceLT, and_true, true_and, and_self, if_true, if_false, ne_eq, not_false_eq_true, not_true_eq_false, or_false, false_or, or_true, true_or, false_and, and_false, reduceIte, reduceCtorEq, xB, ite_not, xretf_zc, xretf_c, xcont_c, xbd, xq_obj, q, q2, h1, h2, h0, h00]
def nmR (R : Nat → Nat → Nat) (a : Nat) : Nat → Nat → Nat → Nat
  | 0 => R
  | j + 1 => xup (nmR R a j) a j (a + 1 + j)
theorem nmR_o (R : Nat → Nat → Nat) (a : Nat) {c : Nat} (h : c ≠ a) : ∀ j, nmR R a j c = R c
  | 0 => rfl
  | j + 1 => by
    show xup (nmR R a j) a j (a + 1 + j) c = _
    rw [xup_ne _ _ _ h, nmR_o R a h j]
theorem Fr_nm (hF : Fr n R I J) {a : Nat} (ha : a ≤ n) : ∀ j, Fr n (nmR R a j) I J
  | 0 => hF
  | j + 1 => Fr_R (Fr_nm hF ha j) ha _ _
theorem z4_init {c : Nat} (hF : Fr n R I J) (hn : n < 79) (hc : c ≤ n) (hkc : K0 c = 4) (hk : K0 (n + 1) = 12) (hm : N0 L (n + 1) = 8) (hk2 : ∀ j, j < 8 → K0 (n + 2 + j) = 2 ∧ N0 L (n + 2 + j) = 0) (hk3 : K0 (n + 10) = 11) (hm3 : N0 L (n + 10) = 40) : FX4_init [.ref c] (Zs L n R I J) = some (none, Zs L (n + 10) (xup (nmR (xup R c 0 (n + 1)) (n + 1) 8) c 2 (n + 10)) I J) := by
  have q := xq_newQ (n' := n + 1) rfl hF (by omega) hk hm (by omega)
  have h1 : Kn (n + 1) c = 4 := by rw [Kn_at (by omega)]; exact hkc
  have hF1 : Fr (n + 1) (xup R c 0 (n + 1)) I J := Fr_R (Fr_s hF 1) (by omega) _ _
  have key := xloop (t := tX4_init) (st := fun j (_ : Unit) => (15, [.ref c, .int (nI j)], [], 9 - j, Zs L (n + 1 + j) (nmR (xup R c 0 (n + 1)) (n + 1) j) I J)) (g := fun _ _ => ()) (N := 8) (Inv := fun _ _ => True) (a0 := ()) trivial (by
    intro j u hj _
    refine ⟨?_, trivial⟩
    have hFj : Fr (n + 1 + j) (nmR (xup R c 0 (n + 1)) (n + 1) j) I J := Fr_nm (Fr_s hF1 j) (by omega) j
    obtain ⟨a1, a2⟩ := hk2 j hj
    have q := xq_newN (ci := 1) (L := L) (n' := n + 2 + j) (by omega) hFj (by omega) a1 a2
    have h1 : Kn (n + 1 + j) c = 4 := by rw [Kn_at (by omega)]; exact hkc
    have h2 : Kn (n + 2 + j) (n + 1) = 12 := by rw [Kn_at (by omega)]; exact hk
    have h3 : Kn (n + 2 + j) (n + 2 + j) = 2 := by rw [Kn_at (by omega)]; exact a1
    have h4 : Nn L (n + 2 + j) (n + 1) = 8 := by rw [Nn_at L (by omega)]; exact hm
    have h5 : nmR (xup R c 0 (n + 1)) (n + 1) j c 0 = n + 1 := by rw [nmR_o _ _ (by omega), xup_self, if_pos rfl]
    have h6 : x_qk 12 = 2 := rfl
    have hnle : ¬ 8 ≤ j := by omega
    have e0 : ¬ n + 1 = 0 := by omega
    have e00 : ¬ n + 2 + j = 0 := by omega
    have e3 : n + 1 + (j + 1) = n + 2 + j := by omega
    have e4 : nmR (xup R c 0 (n + 1)) (n + 1) (j + 1) = xup (nmR (xup R c 0 (n + 1)) (n + 1) j) (n + 1) j (n + 2 + j) := by
      show xup _ _ _ (n + 1 + 1 + j) = _
      rw [show n + 1 + 1 + j = n + 2 + j by omega]
    have e5 : 9 - (j + 1) = 9 - j - 1 := by omega
    have e6 : (1 ≤ 9 - j) = True := eq_true (by omega)
    have z2 : ∀ tab pc lv st al, xnx tab (x_init 0 FX2_init (pc, lv, .ref (n + 2 + j) :: st, al, Zs L (n + 2 + j) (nmR (xup R c 0 (n + 1)) (n + 1) j) I J)) = if 0 ≤ al ∧ (st.map Value.category).sum ≤ 8 then xD tab (pc + 3, lv, st, al - 0, Zs L (n + 2 + j) (nmR (xup R c 0 (n + 1)) (n + 1) j) I J) else none := fun tab pc lv st al => xq_init tab pc lv st al _ _ 0 _ FX2_init (z2_init _)
    show xD tX4_init (15, _) = xD tX4_init (_, _, _, 9 - (j + 1), Zs L (n + 1 + (j + 1)) _ I J)
    rw [e3, e4, e5, hX4_init_15]
    simp (disch := omega) only [eX4_init, xRl, xG1, xG2, kAll, rAll, nAll, List.map_nil, List.map_cons, List.sum_nil, List.sum_cons, Nat.reduceAdd, Nat.reduceSub, Nat.reduceMul, Nat.reduceLeDiff, Nat.reduceEqDiff, Nat.reduceLT, and_true, true_and, and_self, if_true, if_false, ne_eq, not_false_eq_true, not_true_eq_false, or_false, false_or, or_true, true_or, false_and, and_false, reduceIte, reduceCtorEq, xB, ite_not, xretf_zc, xretf_c, xcont_c, xbd, nI_leI, hnle, h1, h5, q, e6, e0, e00, z2, Nat.zero_le, Nat.sub_zero, h2, h3, h4, h6, nI_neg0, cl_nI, nI_add]) 8 (Nat.le_refl _)
  have k0 := key.1
  have hF8 : Fr (n + 9) (nmR (xup R c 0 (n + 1)) (n + 1) 8) I J := Fr_nm (Fr_s hF1 8) (by omega) 8
  have q3 := xq_newA (n' := n + 10) rfl hF8 (by omega) hk3 hm3 (by omega)
  have h9 : Kn (n + 10) c = 4 := by rw [Kn_at (by omega)]; exact hkc
  have e0 : ¬ n + 1 = 0 := by omega
  have e00 : ¬ n + 10 = 0 := by omega
  rw [fX4_init]
  simp (disch := omega) only [eX4_init, xRl, xG1, xG2, kAll, rAll, nAll, List.map_nil, List.map_cons, List.sum_nil, List.sum_cons, Nat.reduceAdd, Nat.reduceSub, Nat.reduceMul, Nat.reduceLeDiff, Nat.reduceEqDiff, Nat.reduceLT, and_true, true_and, and_self, if_true, if_false, ne_eq, not_false_eq_true, not_true_eq_false, or_false, false_or, or_true, true_or, false_and, and_false, reduceIte, reduceCtorEq, xB, ite_not, xretf_zc, xretf_c, xcont_c, xbd, xq_obj, q, h1, e0]
  rw [show xD tX4_init (15, [.ref c, .int (nI 0)], [], 9, Zs L (n + 1) (xup R c 0 (n + 1)) I J) = xD tX4_init (15, [.ref c, .int (nI 8)], [], 1, Zs L (n + 9) (nmR (xup R c 0 (n + 1)) (n + 1) 8) I J) from k0, hX4_init_15]
  simp (disch := omega) only [eX4_init, xRl, xG1, xG2, kAll, rAll, nAll, List.map_nil, List.map_cons, List.sum_nil, List.sum_cons, Nat.reduceAdd, Nat.reduceSub, Nat.reduceMul, Nat.reduceLeDiff, Nat.reduceEqDiff, Nat.reduceLT, and_true, true_and, and_self, if_true, if_false, ne_eq, not_false_eq_true, not_true_eq_false, or_false, false_or, or_true, true_or, false_and, and_false, reduceIte, reduceCtorEq, xB, ite_not, xretf_zc, xretf_c, xcont_c, xbd, nI_leI, q3, h9, e00]
end NQ
