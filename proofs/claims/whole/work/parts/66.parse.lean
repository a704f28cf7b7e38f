/-! what a text holds -/
def bad (f : Nat → Int32) (m i k : Nat) : Bool := decide (m ≤ i + k) || !fit k (f (i + k))
def fi (f : Nat → Int32) (m i : Nat) : Option Nat := fstv (bad f m i) (fun k => some (i + k)) none 0 8
def oI : Option Nat → Int32
  | none => -9
  | some q => nI q
def pf (f : Nat → Int32) (m : Nat) : Nat → Nat → Nat → Option Nat
  | 0, _, _ => none
  | e + 1, i, c => if m ≤ i then (if c = 0 then some m else none) else if f i = nI 32 then pf f m e (i + 1) c else if c = 8 then some i else match fi f m i with
    | some q => some q
    | none => pf f m e (i + 8) (c + 1)
def ps (f : Nat → Int32) (m : Nat) : Nat → Nat → List Nat
  | 0, _ => []
  | e + 1, i => if m ≤ i then [] else if f i = nI 32 then ps f m e (i + 1) else i :: ps f m e (i + 8)
theorem pf_s (f : Nat → Int32) (m e i c : Nat) : pf f m (e + 1) i c = if m ≤ i then (if c = 0 then some m else none) else if f i = nI 32 then pf f m e (i + 1) c else if c = 8 then some i else match fi f m i with
    | some q => some q
    | none => pf f m e (i + 8) (c + 1) := rfl
theorem ps_s (f : Nat → Int32) (m e i : Nat) : ps f m (e + 1) i = if m ≤ i then [] else if f i = nI 32 then ps f m e (i + 1) else i :: ps f m e (i + 8) := rfl
theorem fi_none {f : Nat → Int32} {m i : Nat} (h : fi f m i = none) : i + 8 ≤ m ∧ ∀ k, k < 8 → fit k (f (i + k)) = true := by
  unfold fi at h
  rcases fstv_cases (bad f m i) 8 0 with ⟨h1, -⟩ | ⟨k, h1, h2, h3, h4, h5⟩
  · have h2 : ∀ k, k < 8 → i + k < m ∧ fit k (f (i + k)) = true := fun k hk => by
      have := h1 k (by omega) (by omega)
      unfold bad at this
      rw [Bool.or_eq_false_iff] at this
      exact ⟨by simpa using this.1, by simpa using this.2⟩
    exact ⟨by have := (h2 7 (by omega)).1; omega, fun k hk => (h2 k hk).2⟩
  · rw [h5] at h
    cases h
theorem fi_some {f : Nat → Int32} {m i q : Nat} (h : fi f m i = some q) : q < i + 8 := by
  unfold fi at h
  rcases fstv_cases (bad f m i) 8 0 with ⟨h1, h2⟩ | ⟨k, h1, h2, h3, h4, h5⟩
  · rw [h2] at h
    cases h
  · rw [h5] at h
    injection h with h
    omega
theorem pf_le {f : Nat → Int32} {m : Nat} : ∀ {e i c q : Nat}, i ≤ m → pf f m e i c = some q → q < m + 8
  | 0, _, _, _, _, h => by cases h
  | e + 1, i, c, q, hi, h => by
    rw [pf_s] at h
    split at h
    · split at h
      · injection h with h; omega
      · cases h
    · split at h
      · exact pf_le (by omega) h
      · split at h
        · injection h with h; omega
        · revert h
          cases hf : fi f m i with
          | none => exact fun h => pf_le (by have := (fi_none hf).1; omega) h
          | some q' =>
            intro h
            injection h with h
            have := fi_some hf
            omega
/-- a text without a fault -/
theorem pf_ok {f : Nat → Int32} {m : Nat} : ∀ {e i c : Nat}, m < i + e → i ≤ m → c ≤ 8 → pf f m e i c = none → (c + (ps f m e i).length ≤ 8 ∧ 0 < c + (ps f m e i).length) ∧ ∀ k (hk : k < (ps f m e i).length), (ps f m e i)[k] + 8 ≤ m ∧ i ≤ (ps f m e i)[k] ∧ ∀ w, w < 8 → fit w (f ((ps f m e i)[k] + w)) = true
  | 0, i, c, h, hi, hc, hp => absurd h (by omega)
  | e + 1, i, c, h, hi, hc, hp => by
    rw [pf_s] at hp
    by_cases h1 : m ≤ i
    · have e1 : ps f m (e + 1) i = [] := by rw [ps_s, if_pos h1]
      rw [if_pos h1] at hp
      simp only [e1]
      by_cases hc0 : c = 0
      · rw [if_pos hc0] at hp; cases hp
      · exact ⟨⟨by simpa using hc, by simp; omega⟩, fun k hk => absurd hk (by simp)⟩
    · rw [if_neg h1] at hp
      by_cases h2 : f i = nI 32
      · have e1 : ps f m (e + 1) i = ps f m e (i + 1) := by rw [ps_s, if_neg h1, if_pos h2]
        rw [if_pos h2] at hp
        simp only [e1]
        obtain ⟨g1, g2⟩ := pf_ok (by omega) (by omega) hc hp
        exact ⟨g1, fun k hk => ⟨(g2 k hk).1, by have := (g2 k hk).2.1; omega, (g2 k hk).2.2⟩⟩
      · have e1 : ps f m (e + 1) i = i :: ps f m e (i + 8) := by rw [ps_s, if_neg h1, if_neg h2]
        rw [if_neg h2] at hp
        by_cases h3 : c = 8
        · rw [if_pos h3] at hp; cases hp
        · rw [if_neg h3] at hp
          revert hp
          cases hf : fi f m i with
          | some q => intro hp; cases hp
          | none =>
            intro hp
            obtain ⟨f1, f2⟩ := fi_none hf
            obtain ⟨g1, g2⟩ := pf_ok (i := i + 8) (c := c + 1) (by omega) (by omega) (by omega) hp
            simp only [e1]
            refine ⟨⟨by simp only [List.length_cons]; omega, by simp only [List.length_cons]; omega⟩, fun k hk => ?_⟩
            cases k with
            | zero => exact ⟨f1, Nat.le_refl _, f2⟩
            | succ k =>
              simp only [List.length_cons] at hk
              obtain ⟨q1, q2, q3⟩ := g2 k (by omega)
              exact ⟨q1, by simp only [List.getElem_cons_succ]; omega, q3⟩
section PT
variable (L : Nat) (I : Nat → Nat → Int32) (J : Nat → Nat → Int64)
theorem oI_9 {q : Nat} (h : q < 2 ^ 31) : (oI (some q) = -9) ↔ False := n9 h
theorem p7_faultOfItem {t m i : Nat} (ht : t < 4) (hm : m ≤ 80) (hz : I (16 + 2 * t) 1 = nI m) (hi : i < m) : FX7_faultOfItem [.ref (16 + 2 * t), .int (nI i)] (S0 L I J) = some (some (.int (oI (fi (I (17 + 2 * t)) m i))), S0 L I J) := by
  obtain ⟨k1, k2, k3, k4⟩ := kTxt t ht
  have k5 := nTxt L t ht
  have e' : ¬ 17 + 2 * t = 0 := by omega
  rw [fX7_faultOfItem]
  simp (disch := omega) only [eX7_faultOfItem, xRl, xG1, xG2, kAll, rAll, nAll, List.map_nil, List.map_cons, List.sum_nil, List.sum_cons, Nat.reduceAdd, Nat.reduceSub, Nat.reduceMul, Nat.reduceLeDiff, Nat.reduceEqDiff, Nat.reduceLT, and_true, true_and, and_self, if_true, if_false, ne_eq, not_false_eq_true, not_true_eq_false, or_false, false_or, or_true, true_or, false_and, and_false, reduceIte, reduceCtorEq, xB, ite_not, xretf_zc, xretf_c, xcont_c, xbd]
  have key : ∀ d k, k + d = 8 → i + k ≤ m → xretf (some .int) (xD tX7_faultOfItem (2, [.ref (16 + 2 * t), .int (nI i), .int (nI (i + k))], [], 0, S0 L I J)) = some (some (.int (oI (fstv (bad (I (17 + 2 * t)) m i) (fun k => some (i + k)) none k d))), S0 L I J) := by
    intro d
    induction d with
    | zero =>
      intro k hk hik
      have h8 : (i + 8 ≤ i + k) = True := eq_true (by omega)
      rw [hX7_faultOfItem_2]
      simp (disch := omega) only [eX7_faultOfItem, xRl, xG1, xG2, kAll, rAll, nAll, List.map_nil, List.map_cons, List.sum_nil, List.sum_cons, Nat.reduceAdd, Nat.reduceSub, Nat.reduceMul, Nat.reduceLeDiff, Nat.reduceEqDiff, Nat.reduceLT, and_true, true_and, and_self, if_true, if_false, ne_eq, not_false_eq_true, not_true_eq_false, or_false, false_or, or_true, true_or, false_and, and_false, reduceIte, reduceCtorEq, xB, ite_not, xretf_zc, xretf_c, xcont_c, xbd, nI_add, nI_leI, h8]
      rfl
    | succ d ih =>
      intro k hk hik
      have h8 : (i + 8 ≤ i + k) = False := eq_false (by omega)
      have e1 : fstv (bad (I (17 + 2 * t)) m i) (fun k => some (i + k)) none k (d + 1) = if bad (I (17 + 2 * t)) m i k = true then some (i + k) else fstv (bad (I (17 + 2 * t)) m i) (fun k => some (i + k)) none (k + 1) d := rfl
      rw [hX7_faultOfItem_2, e1]
      by_cases hmk : m ≤ i + k
      · have hb : bad (I (17 + 2 * t)) m i k = true := by unfold bad; simp [hmk]
        have hmm : i + k = m := by omega
        have hlt : (i + k < m) = False := eq_false (by omega)
        rw [if_pos hb]
        simp (disch := omega) only [eX7_faultOfItem, xRl, xG1, xG2, kAll, rAll, nAll, List.map_nil, List.map_cons, List.sum_nil, List.sum_cons, Nat.reduceAdd, Nat.reduceSub, Nat.reduceMul, Nat.reduceLeDiff, Nat.reduceEqDiff, Nat.reduceLT, and_true, true_and, and_self, if_true, if_false, ne_eq, not_false_eq_true, not_true_eq_false, or_false, false_or, or_true, true_or, false_and, and_false, reduceIte, reduceCtorEq, xB, ite_not, xretf_zc, xretf_c, xcont_c, xbd, nI_add, nI_leI, nI_ltI, h8, k1, hz, hlt]
        rw [hmm]
        rfl
      · have hlt : (i + k < m) = True := eq_true (by omega)
        have hsb : i + k - i = k := by omega
        by_cases hf : fit k (I (17 + 2 * t) (i + k)) = true
        · have hb : bad (I (17 + 2 * t)) m i k = false := by unfold bad; simp [hmk, hf]
          have ih := ih (k + 1) (by omega) (by omega)
          rw [hb, if_neg (by decide), ← ih]
          simp (disch := omega) only [eX7_faultOfItem, xRl, xG1, xG2, kAll, rAll, nAll, List.map_nil, List.map_cons, List.sum_nil, List.sum_cons, Nat.reduceAdd, Nat.reduceSub, Nat.reduceMul, Nat.reduceLeDiff, Nat.reduceEqDiff, Nat.reduceLT, and_true, true_and, and_self, if_true, if_false, ne_eq, not_false_eq_true, not_true_eq_false, or_false, false_or, or_true, true_or, false_and, and_false, reduceIte, reduceCtorEq, xB, ite_not, xretf_zc, xretf_c, xcont_c, xbd, nI_add, nI_leI, nI_ltI, h8, k1, k2, k4, k5, e', hz, hlt, pk_sub, hsb, nI_neg0, cl_nI, p7_fits, hf, Nat.add_assoc]
        · have hb : bad (I (17 + 2 * t)) m i k = true := by unfold bad; simp [hf]
          rw [if_pos hb]
          simp (disch := omega) only [eX7_faultOfItem, xRl, xG1, xG2, kAll, rAll, nAll, List.map_nil, List.map_cons, List.sum_nil, List.sum_cons, Nat.reduceAdd, Nat.reduceSub, Nat.reduceMul, Nat.reduceLeDiff, Nat.reduceEqDiff, Nat.reduceLT, and_true, true_and, and_self, if_true, if_false, ne_eq, not_false_eq_true, not_true_eq_false, or_false, false_or, or_true, true_or, false_and, and_false, reduceIte, reduceCtorEq, xB, ite_not, xretf_zc, xretf_c, xcont_c, xbd, nI_add, nI_leI, nI_ltI, h8, k1, k2, k4, k5, e', hz, hlt, pk_sub, hsb, nI_neg0, cl_nI, p7_fits, hf]
          rfl
  exact key 8 0 rfl (by omega)
theorem p7_firstFault {t m : Nat} (ht : t < 4) (hm : m ≤ 80) (hz : I (16 + 2 * t) 1 = nI m) : FX7_firstFault [.ref (16 + 2 * t)] (S0 L I J) = some (some (.int (oI (pf (I (17 + 2 * t)) m (m + 1) 0 0))), S0 L I J) := by
  obtain ⟨k1, k2, k3, k4⟩ := kTxt t ht
  have k5 := nTxt L t ht
  have e' : ¬ 17 + 2 * t = 0 := by omega
  rw [fX7_firstFault]
  simp (disch := omega) only [eX7_firstFault, xRl, xG1, xG2, kAll, rAll, nAll, List.map_nil, List.map_cons, List.sum_nil, List.sum_cons, Nat.reduceAdd, Nat.reduceSub, Nat.reduceMul, Nat.reduceLeDiff, Nat.reduceEqDiff, Nat.reduceLT, and_true, true_and, and_self, if_true, if_false, ne_eq, not_false_eq_true, not_true_eq_false, or_false, false_or, or_true, true_or, false_and, and_false, reduceIte, reduceCtorEq, xB, ite_not, xretf_zc, xretf_c, xcont_c, xbd]
  have key : ∀ e i c w, m < i + e → i ≤ m → c ≤ 8 → okV w → xretf (some .int) (xD tX7_firstFault (4, [.ref (16 + 2 * t), .int (nI c), .int (nI i), w], [], 0, S0 L I J)) = some (some (.int (oI (pf (I (17 + 2 * t)) m e i c))), S0 L I J) := by
    intro e
    induction e with
    | zero => intro i c w h1 h2; omega
    | succ e ih =>
      intro i c w h1 h2 hc hw
      rw [hX7_firstFault_4, pf_s]
      by_cases hmi : m ≤ i
      · have h3 : (m ≤ i) = True := eq_true hmi
        rw [if_pos hmi]
        by_cases hc0 : c = 0
        · simp (disch := omega) only [eX7_firstFault, xRl, xG1, xG2, kAll, rAll, nAll, List.map_nil, List.map_cons, List.sum_nil, List.sum_cons, Nat.reduceAdd, Nat.reduceSub, Nat.reduceMul, Nat.reduceLeDiff, Nat.reduceEqDiff, Nat.reduceLT, and_true, true_and, and_self, if_true, if_false, ne_eq, not_false_eq_true, not_true_eq_false, or_false, false_or, or_true, true_or, false_and, and_false, reduceIte, reduceCtorEq, xB, ite_not, xretf_zc, xretf_c, xcont_c, xbd, k1, hz, nI_leI, h3, hc0]
          rfl
        · simp (disch := omega) only [eX7_firstFault, xRl, xG1, xG2, kAll, rAll, nAll, List.map_nil, List.map_cons, List.sum_nil, List.sum_cons, Nat.reduceAdd, Nat.reduceSub, Nat.reduceMul, Nat.reduceLeDiff, Nat.reduceEqDiff, Nat.reduceLT, and_true, true_and, and_self, if_true, if_false, ne_eq, not_false_eq_true, not_true_eq_false, or_false, false_or, or_true, true_or, false_and, and_false, reduceIte, reduceCtorEq, xB, ite_not, xretf_zc, xretf_c, xcont_c, xbd, k1, hz, nI_leI, h3, nI_eq, hc0]
          rfl
      · rw [if_neg hmi]
        by_cases hb : I (17 + 2 * t) i = nI 32
        · rw [if_pos hb, ← ih (i + 1) c w (by omega) (by omega) hc hw]
          simp (disch := omega) only [eX7_firstFault, xRl, xG1, xG2, kAll, rAll, nAll, List.map_nil, List.map_cons, List.sum_nil, List.sum_cons, Nat.reduceAdd, Nat.reduceSub, Nat.reduceMul, Nat.reduceLeDiff, Nat.reduceEqDiff, Nat.reduceLT, and_true, true_and, and_self, if_true, if_false, ne_eq, not_false_eq_true, not_true_eq_false, or_false, false_or, or_true, true_or, false_and, and_false, reduceIte, reduceCtorEq, xB, ite_not, xretf_zc, xretf_c, xcont_c, xbd, k1, k2, k4, k5, e', hz, nI_leI, hmi, nI_neg0, cl_nI, hb, nI_add]
        · rw [if_neg hb]
          by_cases hc8 : c = 8
          · rw [if_pos hc8]
            simp (disch := omega) only [eX7_firstFault, xRl, xG1, xG2, kAll, rAll, nAll, List.map_nil, List.map_cons, List.sum_nil, List.sum_cons, Nat.reduceAdd, Nat.reduceSub, Nat.reduceMul, Nat.reduceLeDiff, Nat.reduceEqDiff, Nat.reduceLT, and_true, true_and, and_self, if_true, if_false, ne_eq, not_false_eq_true, not_true_eq_false, or_false, false_or, or_true, true_or, false_and, and_false, reduceIte, reduceCtorEq, xB, ite_not, xretf_zc, xretf_c, xcont_c, xbd, k1, k2, k4, k5, e', hz, nI_leI, hmi, nI_neg0, cl_nI, hb, hc8]
            rfl
          · rw [if_neg hc8]
            have fo := p7_faultOfItem L I J ht hm hz (show i < m by omega)
            cases hf : fi (I (17 + 2 * t)) m i with
            | some q =>
              have hq := fi_some hf
              rw [hf] at fo
              have h9 := oI_9 (q := q) (by omega)
              rcases hw with rfl | ⟨z, rfl⟩
              all_goals
                simp (disch := omega) only [eX7_firstFault, xRl, xG1, xG2, kAll, rAll, nAll, List.map_nil, List.map_cons, List.sum_nil, List.sum_cons, Nat.reduceAdd, Nat.reduceSub, Nat.reduceMul, Nat.reduceLeDiff, Nat.reduceEqDiff, Nat.reduceLT, and_true, true_and, and_self, if_true, if_false, ne_eq, not_false_eq_true, not_true_eq_false, or_false, false_or, or_true, true_or, false_and, and_false, reduceIte, reduceCtorEq, xB, ite_not, xretf_zc, xretf_c, xcont_c, xbd, k1, k2, k4, k5, e', hz, nI_leI, hmi, nI_neg0, cl_nI, hb, nI_eq, hc8, fo, h9]
            | none =>
              obtain ⟨f1, f2⟩ := fi_none hf
              rw [hf] at fo
              have h9 : oI none = -9 := rfl
              have ih := ih (i + 8) (c + 1) (.int (-9)) (by omega) (by omega) (by omega) (Or.inr ⟨_, rfl⟩)
              simp only
              rw [← ih]
              rcases hw with rfl | ⟨z, rfl⟩
              all_goals
                simp (disch := omega) only [eX7_firstFault, xRl, xG1, xG2, kAll, rAll, nAll, List.map_nil, List.map_cons, List.sum_nil, List.sum_cons, Nat.reduceAdd, Nat.reduceSub, Nat.reduceMul, Nat.reduceLeDiff, Nat.reduceEqDiff, Nat.reduceLT, and_true, true_and, and_self, if_true, if_false, ne_eq, not_false_eq_true, not_true_eq_false, or_false, false_or, or_true, true_or, false_and, and_false, reduceIte, reduceCtorEq, xB, ite_not, xretf_zc, xretf_c, xcont_c, xbd, k1, k2, k4, k5, e', hz, nI_leI, hmi, nI_neg0, cl_nI, hb, nI_eq, hc8, fo, h9, nI_add]
  exact key (m + 1) 0 0 .null (by omega) (by omega) (by omega) (Or.inl rfl)
end PT
