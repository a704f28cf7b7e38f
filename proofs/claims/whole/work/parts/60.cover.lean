/-! cover: the fewest -/
theorem xloopE {α : Type} {t : List (Nat × xO)} {st : Nat → α → xF} {N : Nat} {Inv : Nat → α → Prop} {a0 : α} (h0 : Inv 0 a0) (hs : ∀ i a, i < N → Inv i a → ∃ a', Inv (i + 1) a' ∧ xD t (st i a) = xD t (st (i + 1) a')) : ∀ n, n ≤ N → ∃ a', Inv n a' ∧ xD t (st 0 a0) = xD t (st n a')
  | 0, _ => ⟨a0, h0, rfl⟩
  | n + 1, hn => by
    obtain ⟨a1, h1, e1⟩ := xloopE h0 hs n (by omega)
    obtain ⟨a2, h2, e2⟩ := hs n a1 (by omega) h1
    exact ⟨a2, h2, e1.trans e2⟩
theorem fw_up (I : Nat → Nat → Int32) (c : Nat) {M q : Nat} (h : q < M) (v : Nat → Int32) (x : Int32) : xup (fw I c M v) c q x = fw I c M (fun k => if k = q then x else v k) := by
  funext a b
  unfold xup fw
  by_cases h1 : a = c
  · subst h1
    by_cases h2 : b = q
    · subst h2; simp [h]
    · simp [h2]
  · simp [h1]
def uni (P : Nat → Nat) : List Nat → Nat
  | [] => 0
  | s :: l => uni P l ||| P s
theorem uni_bit (P : Nat → Nat) (i : Nat) : ∀ l, (uni P l).testBit i = true ↔ ∃ s ∈ l, (P s).testBit i = true
  | [] => by simp [uni]
  | s :: l => by
    show (uni P l ||| P s).testBit i = true ↔ _
    rw [Nat.testBit_or, Bool.or_eq_true, uni_bit P i l]
    constructor
    · rintro (⟨t, h1, h2⟩ | h)
      · exact ⟨t, List.mem_cons_of_mem _ h1, h2⟩
      · exact ⟨s, List.mem_cons_self, h⟩
    · rintro ⟨t, h1, h2⟩
      rcases List.mem_cons.mp h1 with rfl | h1
      · exact Or.inr h2
      · exact Or.inl ⟨t, h1, h2⟩
def inL (l : List Nat) : Prop := ∀ s ∈ l, s < 216
theorem uni_lt {P : Nat → Nat} {m : Nat} (hP : ∀ s, s < 216 → P s < 2 ^ m) : ∀ l, inL l → uni P l < 2 ^ m
  | [], _ => Nat.two_pow_pos m
  | s :: l, h => Nat.or_lt_two_pow (uni_lt hP l (fun t ht => h t (List.mem_cons_of_mem _ ht))) (hP s (h s List.mem_cons_self))
def Dc (P : Nat → Nat) (k S : Nat) : Prop := ∃ l : List Nat, l.length ≤ k ∧ inL l ∧ ∀ i, S.testBit i = true → ∃ s ∈ l, (P s).testBit i = true
def good (P : Nat → Nat) (S b : Nat) : Prop := b ≤ 6 ∧ Dc P b S ∧ ∀ k, Dc P k S → b ≤ k
theorem good_eq {P : Nat → Nat} {S b b' : Nat} (h : good P S b) (h' : good P S b') : b = b' := Nat.le_antisymm (h.2.2 _ h'.2.1) (h'.2.2 _ h.2.1)
def sd (S R : Nat) : Nat := msk (fun i => S.testBit i && !R.testBit i) 6
theorem sd_bit (S R i : Nat) : (sd S R).testBit i = (decide (i < 6) && (S.testBit i && !R.testBit i)) := msk_bit _ 6 i
theorem sd_t : ∀ S, S < 64 → ∀ R, R < 64 → nI S &&& (nI R ^^^ (-1)) = nI (sd S R) ∧ (R &&& S ≠ 0 → sd S R < S) := by decide +kernel
def foN (C : Nat → Bool) (B : Nat → Nat) (S : Nat) : Nat → Nat
  | 0 => 6
  | R + 1 => if C R = true ∧ R &&& S ≠ 0 then min (foN C B S R) (1 + B (sd S R)) else foN C B S R
theorem foN_le (C : Nat → Bool) (B : Nat → Nat) (S : Nat) : ∀ R, foN C B S R ≤ 6
  | 0 => Nat.le_refl 6
  | R + 1 => by
    have := foN_le C B S R
    unfold foN
    split
    · exact Nat.le_trans (Nat.min_le_left _ _) this
    · exact this
theorem foN_anti (C : Nat → Bool) (B : Nat → Nat) (S R : Nat) : ∀ d, foN C B S (R + d) ≤ foN C B S R
  | 0 => Nat.le_refl _
  | d + 1 => by
    have := foN_anti C B S R d
    show (if C (R + d) = true ∧ (R + d) &&& S ≠ 0 then min (foN C B S (R + d)) (1 + B (sd S (R + d))) else foN C B S (R + d)) ≤ _
    split
    · exact Nat.le_trans (Nat.min_le_left _ _) this
    · exact this
theorem Dc_mono {P : Nat → Nat} {k k' S : Nat} (h : Dc P k S) (hk : k ≤ k') : Dc P k' S := by
  obtain ⟨l, h1, h2⟩ := h
  exact ⟨l, by omega, h2⟩
theorem bit_ltm {m S i : Nat} (hS : S < 2 ^ m) (h : S.testBit i = true) : i < m := by
  rcases Nat.lt_or_ge i m with h1 | h1
  · exact h1
  · have : S < 2 ^ i := Nat.lt_of_lt_of_le hS (Nat.pow_le_pow_right (by omega) h1)
    rw [Nat.testBit_lt_two_pow this] at h
    exact absurd h (by decide)
theorem uni_U {P : Nat → Nat} {m : Nat} (hP : ∀ s, s < 216 → P s < 2 ^ m) {l : List Nat} (hl : inL l) (h : ∀ i, (2 ^ m - 1).testBit i = true → ∃ s ∈ l, (P s).testBit i = true) : uni P l = 2 ^ m - 1 := by
  apply Nat.eq_of_testBit_eq
  intro i
  rw [Nat.testBit_two_pow_sub_one]
  by_cases hi : i < m
  · have h1 := (uni_bit P i l).mpr (h i (by rw [Nat.testBit_two_pow_sub_one]; simpa using hi))
    rw [h1]; simp [hi]
  · have : uni P l < 2 ^ i := Nat.lt_of_lt_of_le (uni_lt hP l hl) (Nat.pow_le_pow_right (by omega) (by omega))
    rw [Nat.testBit_lt_two_pow this]
    simp [hi]
theorem Dc_6 {P : Nat → Nat} {m : Nat} (v : Nat → Nat) (hv : ∀ i, i < m → v i < 216 ∧ (P (v i)).testBit i = true) {S : Nat} (hS : S < 2 ^ m) : Dc P m S := by
  refine ⟨(List.range m).map v, by simp, fun s hs => ?_, fun i hi => ?_⟩
  · obtain ⟨i, h1, rfl⟩ := List.mem_map.mp hs
    exact (hv i (List.mem_range.mp h1)).1
  · have h1 := bit_ltm hS hi
    exact ⟨v i, List.mem_map.mpr ⟨i, List.mem_range.mpr h1, rfl⟩, (hv i h1).2⟩
theorem fo_ok {P : Nat → Nat} {m : Nat} (hm : m ≤ 6) (hP : ∀ s, s < 216 → P s < 2 ^ m) (v : Nat → Nat) (hv : ∀ i, i < m → v i < 216 ∧ (P (v i)).testBit i = true) {C : Nat → Bool} {B : Nat → Nat} {S : Nat} (hC : ∀ R, R < 2 ^ m → (C R = true ↔ ∃ s, s < 216 ∧ P s = R)) (hB : ∀ S', S' < S → good P S' (B S')) (hS : S < 2 ^ m) (hS0 : S ≠ 0) : good P S (foN C B S (2 ^ m)) := by
  have h64 : 2 ^ m ≤ 2 ^ 6 := Nat.pow_le_pow_right (by omega) hm
  refine ⟨foN_le C B S _, ?_, fun k hk => ?_⟩
  · have : ∀ R, R ≤ 2 ^ m → Dc P (foN C B S R) S := by
      intro R
      induction R with
      | zero => intro _; exact Dc_mono (Dc_6 v hv hS) hm
      | succ R ih =>
        intro hR
        have ih := ih (by omega)
        unfold foN
        split
        · rename_i hc
          obtain ⟨s, hs, hPs⟩ := (hC R (by omega)).mp hc.1
          have hlt := (sd_t S (by omega) R (by omega)).2 hc.2
          obtain ⟨l, l1, l2, l3⟩ := (hB _ hlt).2.1
          rcases Nat.le_total (foN C B S R) (1 + B (sd S R)) with hle | hle
          · rw [Nat.min_eq_left hle]; exact ih
          · rw [Nat.min_eq_right hle]
            refine ⟨s :: l, by simp; omega, fun t ht => ?_, fun i hi => ?_⟩
            · rcases List.mem_cons.mp ht with rfl | ht
              · exact hs
              · exact l2 t ht
            · by_cases hpi : (P s).testBit i = true
              · exact ⟨s, List.mem_cons_self, hpi⟩
              · have h1 := bit_ltm hS hi
                obtain ⟨t, t1, t2⟩ := l3 i (by rw [sd_bit, hi, ← hPs]; simp [hpi]; omega)
                exact ⟨t, List.mem_cons_of_mem _ t1, t2⟩
        · exact ih
    exact this _ (Nat.le_refl _)
  · obtain ⟨l, l1, l2, l3⟩ := hk
    obtain ⟨i, hi⟩ := Nat.exists_testBit_of_ne_zero hS0
    obtain ⟨s, s1, s2⟩ := l3 i hi
    have hs := l2 s s1
    have hR := hP s hs
    have hne : P s &&& S ≠ 0 := by
      intro q
      have : (P s &&& S).testBit i = true := by rw [Nat.testBit_and, s2, hi]; rfl
      rw [q] at this
      simp at this
    have hlt := (sd_t S (by omega) (P s) (by omega)).2 hne
    have hlen : 0 < l.length := List.length_pos_of_mem s1
    have hD : Dc P (k - 1) (sd S (P s)) := by
      refine ⟨l.erase s, by rw [List.length_erase_of_mem s1]; omega, fun t ht => l2 t (List.mem_of_mem_erase ht), fun i hi => ?_⟩
      rw [sd_bit, Bool.and_eq_true, Bool.and_eq_true] at hi
      obtain ⟨t, t1, t2⟩ := l3 i hi.2.1
      refine ⟨t, (List.mem_erase_of_ne (fun q => ?_)).mpr t1, t2⟩
      rw [q] at t2
      rw [t2] at hi
      exact absurd hi.2.2 (by decide)
    have h1 := (hB _ hlt).2.2 _ hD
    have h2 : foN C B S (P s + 1) ≤ 1 + B (sd S (P s)) := by
      show (if C (P s) = true ∧ P s &&& S ≠ 0 then min (foN C B S (P s)) (1 + B (sd S (P s))) else foN C B S (P s)) ≤ _
      rw [if_pos ⟨(hC _ hR).mpr ⟨s, hs, rfl⟩, hne⟩]
      exact Nat.min_le_right _ _
    have h3 := foN_anti C B S (P s + 1) (2 ^ m - (P s + 1))
    rw [show P s + 1 + (2 ^ m - (P s + 1)) = 2 ^ m by omega] at h3
    omega
/-- the reference's table -/
def snd (P : Nat → Nat) (A : Nat → Nat) : Prop := ∀ T, T < 64 → A T ≤ 9 ∧ (A T < 9 → ∃ l : List Nat, l.length ≤ A T ∧ inL l ∧ uni P l = T)
def cpl (P : Nat → Nat) (A : Nat → Nat) (r : Nat) : Prop := ∀ l : List Nat, inL l → l.length ≤ r → A (uni P l) ≤ l.length
theorem tab_ok {P : Nat → Nat} {m : Nat} (hm : m ≤ 6) (hP : ∀ s, s < 216 → P s < 2 ^ m) (v : Nat → Nat) (hv : ∀ i, i < m → v i < 216 ∧ (P (v i)).testBit i = true) {A : Nat → Nat} (h1 : snd P A) (h2 : cpl P A 6) : good P (2 ^ m - 1) (A (2 ^ m - 1)) := by
  have h64 : 2 ^ m ≤ 2 ^ 6 := Nat.pow_le_pow_right (by omega) hm
  have hp := Nat.two_pow_pos m
  have hlow : ∀ k, Dc P k (2 ^ m - 1) → k ≤ 6 → A (2 ^ m - 1) ≤ k := by
    rintro k ⟨l, l1, l2, l3⟩ hk
    have := h2 l l2 (by omega)
    rw [uni_U hP l2 l3] at this
    omega
  have h6 : A (2 ^ m - 1) ≤ 6 := hlow 6 (Dc_mono (Dc_6 v hv (by omega)) hm) (Nat.le_refl 6)
  refine ⟨h6, ?_, fun k hk => ?_⟩
  · obtain ⟨l, l1, l2, l3⟩ := (h1 (2 ^ m - 1) (by omega)).2 (by omega)
    refine ⟨l, l1, l2, fun i hi => ?_⟩
    rw [← l3] at hi
    exact (uni_bit P i l).mp hi
  · rcases Nat.lt_or_ge k 7 with h7 | h7
    · exact hlow k hk (by omega)
    · omega
section CW
variable (L : Nat) (I : Nat → Nat → Int32) (J : Nat → Nat → Int64)
theorem min_nI {a b : Nat} (ha : a < 2 ^ 31) (hb : b < 2 ^ 31) : (if nI a < nI b then nI a else nI b) = nI (min a b) := by
  split <;> rename_i h <;> rw [nI_ltI ha hb] at h
  · rw [Nat.min_eq_left (by omega)]
  · rw [Nat.min_eq_right (by omega)]
theorem p0_fewestOf {m S : Nat} (hm : m ≤ 6) (hS : S < 2 ^ m) (C : Nat → Bool) (B : Nat → Nat) (hC : ∀ R, R < 2 ^ m → I 70 R = if C R = true then nI 1 else nI 0) (hB : ∀ q, q < S → I 71 q = nI (B q) ∧ B q ≤ 6) : FX0_fewestOf [.ref 69, .int (nI S), .int (nI (2 ^ m))] (S0 L I J) = some (some (.int (nI (foN C B S (2 ^ m)))), S0 L I J) := by
  have h64 : 2 ^ m ≤ 2 ^ 6 := Nat.pow_le_pow_right (by omega) hm
  have hp := Nat.two_pow_pos m
  rw [fX0_fewestOf]
  simp (disch := omega) only [eX0_fewestOf, xRl, xG1, xG2, kAll, rAll, nAll, List.map_nil, List.map_cons, List.sum_nil, List.sum_cons, Nat.reduceAdd, Nat.reduceSub, Nat.reduceMul, Nat.reduceLeDiff, Nat.reduceEqDiff, Nat.reduceLT, and_true, true_and, and_self, if_true, if_false, ne_eq, not_false_eq_true, not_true_eq_false, or_false, false_or, or_true, true_or, false_and, and_false, reduceIte, reduceCtorEq, xB, ite_not, xretf_zc, xretf_c, xcont_c, xbd]
  have key := xloop (t := tX0_fewestOf) (st := fun i (_ : Unit) => (6, [.ref 69, .int (nI S), .int (nI (2 ^ m)), .int (nI (foN C B S (1 + i))), .int (nI (1 + i))], [], 0, S0 L I J)) (g := fun _ _ => ()) (N := 2 ^ m - 1) (Inv := fun _ _ => True) (a0 := ()) trivial (by
    intro i u hi _
    refine ⟨?_, trivial⟩
    have hle := foN_le C B S (1 + i)
    have e1 : I 70 (1 + i) = if C (1 + i) = true then nI 1 else nI 0 := hC _ (by omega)
    obtain ⟨e2, e3⟩ := sd_t S (by omega) (1 + i) (by omega)
    have hal : (1 + i) &&& S ≤ 1 + i := Nat.and_le_left
    show xD tX0_fewestOf (6, _) = xD tX0_fewestOf (_, [_, _, _, .int (nI (foN C B S (1 + (i + 1)))), .int (nI (1 + (i + 1)))], _)
    rw [show 1 + (i + 1) = (1 + i) + 1 by omega, show foN C B S (1 + i + 1) = if C (1 + i) = true ∧ (1 + i) &&& S ≠ 0 then min (foN C B S (1 + i)) (1 + B (sd S (1 + i))) else foN C B S (1 + i) from rfl, hX0_fewestOf_6]
    have hnle : ¬ 2 ^ m ≤ 1 + i := by omega
    by_cases g1 : C (1 + i) = true
    · by_cases g2 : (1 + i) &&& S = 0
      · simp (disch := omega) only [eX0_fewestOf, xRl, xG1, xG2, kAll, rAll, nAll, List.map_nil, List.map_cons, List.sum_nil, List.sum_cons, Nat.reduceAdd, Nat.reduceSub, Nat.reduceMul, Nat.reduceLeDiff, Nat.reduceEqDiff, Nat.reduceLT, and_true, true_and, and_self, if_true, if_false, ne_eq, not_false_eq_true, not_true_eq_false, or_false, false_or, or_true, true_or, false_and, and_false, reduceIte, reduceCtorEq, xB, ite_not, xretf_zc, xretf_c, xcont_c, xbd, nI_leI, nI_neg0, cl_nI, hnle, e1, g1, nI_and, g2, nI_add]
      · have hlt := e3 g2
        obtain ⟨b1, b2⟩ := hB _ hlt
        have hmn := min_nI (b := foN C B S (1 + i)) (a := 1 + B (sd S (1 + i))) (by omega) (by omega)
        rw [Nat.min_comm] at hmn
        simp (disch := omega) only [eX0_fewestOf, xRl, xG1, xG2, kAll, rAll, nAll, List.map_nil, List.map_cons, List.sum_nil, List.sum_cons, Nat.reduceAdd, Nat.reduceSub, Nat.reduceMul, Nat.reduceLeDiff, Nat.reduceEqDiff, Nat.reduceLT, and_true, true_and, and_self, if_true, if_false, ne_eq, not_false_eq_true, not_true_eq_false, or_false, false_or, or_true, true_or, false_and, and_false, reduceIte, reduceCtorEq, xB, ite_not, xretf_zc, xretf_c, xcont_c, xbd, nI_leI, nI_neg0, cl_nI, hnle, e1, g1, e2, b1, nI_and, nI_eq, g2, nI_add, hmn]
    · simp (disch := omega) only [eX0_fewestOf, xRl, xG1, xG2, kAll, rAll, nAll, List.map_nil, List.map_cons, List.sum_nil, List.sum_cons, Nat.reduceAdd, Nat.reduceSub, Nat.reduceMul, Nat.reduceLeDiff, Nat.reduceEqDiff, Nat.reduceLT, and_true, true_and, and_self, if_true, if_false, ne_eq, not_false_eq_true, not_true_eq_false, or_false, false_or, or_true, true_or, false_and, and_false, reduceIte, reduceCtorEq, xB, ite_not, xretf_zc, xretf_c, xcont_c, xbd, nI_leI, nI_neg0, cl_nI, hnle, e1, g1, nI_add]) (2 ^ m - 1) (Nat.le_refl _)
  have k0 := key.1
  rw [show foN C B S (1 + 0) = 6 by show (if C 0 = true ∧ 0 &&& S ≠ 0 then _ else 6) = 6; simp, show 1 + (2 ^ m - 1) = 2 ^ m by omega] at k0
  rw [show xD tX0_fewestOf (6, [.ref 69, .int (nI S), .int (nI (2 ^ m)), .int (nI 6), .int (nI 1)], [], 0, S0 L I J) = _ from k0, hX0_fewestOf_6]
  simp (disch := omega) only [eX0_fewestOf, xRl, xG1, xG2, kAll, rAll, nAll, List.map_nil, List.map_cons, List.sum_nil, List.sum_cons, Nat.reduceAdd, Nat.reduceSub, Nat.reduceMul, Nat.reduceLeDiff, Nat.reduceEqDiff, Nat.reduceLT, and_true, true_and, and_self, if_true, if_false, ne_eq, not_false_eq_true, not_true_eq_false, or_false, false_or, or_true, true_or, false_and, and_false, reduceIte, reduceCtorEq, xB, ite_not, xretf_zc, xretf_c, xcont_c, xbd, nI_leI]
  rw [if_pos (Nat.le_refl _)]
theorem p0_fewest {j m rg : Nat} (hj : j < 6) (hm : m ≤ 6) (hz : I (3 + 2 * j) 1 = nI m) (v : Nat → Nat) (hv : ∀ i, i < m → I (4 + 2 * j) i = nI (v i) ∧ v i < 216) (hr : rg < 10) : ∃ I1 b, FX0_fewest [.ref 69, .ref (3 + 2 * j), .int (nI rg)] (S0 L I J) = some (some (.int (nI b)), S0 L I1 J) ∧ (∀ c, c ≠ 70 → c ≠ 71 → I1 c = I c) ∧ good (plN v m rg) (2 ^ m - 1) b := by
  have h64 : 2 ^ m ≤ 2 ^ 6 := Nat.pow_le_pow_right (by omega) hm
  have hp := Nat.two_pow_pos m
  have hP : ∀ s, s < 216 → plN v m rg s < 2 ^ m := fun s _ => msk_lt _ m
  have hvv : ∀ i, i < m → v i < 216 ∧ (plN v m rg (v i)).testBit i = true := fun i hi => ⟨(hv i hi).2, by unfold plN; rw [msk_bit, rch_self]; simpa using hi⟩
  obtain ⟨k1, k2, k3, k4⟩ := kRow j hj
  -- all false
  have s1 := xloop (t := tX0_fewest) (st := fun i (_ : Unit) => (10, [.ref 69, .ref (3 + 2 * j), .int (nI rg), .int (nI (2 ^ m)), .int (nI i)], [], 0, S0 L (fw I 70 i (fun _ => nI 0)) J)) (g := fun _ _ => ()) (N := 2 ^ m) (Inv := fun _ _ => True) (a0 := ()) trivial (by
    intro i u hi _
    refine ⟨?_, trivial⟩
    have hnle : ¬ 2 ^ m ≤ i := by omega
    show xD tX0_fewest (10, _) = _
    rw [hX0_fewest_10, ← fw_s]
    simp (disch := omega) only [eX0_fewest, xRl, xG1, xG2, kAll, rAll, nAll, List.map_nil, List.map_cons, List.sum_nil, List.sum_cons, Nat.reduceAdd, Nat.reduceSub, Nat.reduceMul, Nat.reduceLeDiff, Nat.reduceEqDiff, Nat.reduceLT, and_true, true_and, and_self, if_true, if_false, ne_eq, not_false_eq_true, not_true_eq_false, or_false, false_or, or_true, true_or, false_and, and_false, reduceIte, reduceCtorEq, xB, ite_not, xretf_zc, xretf_c, xcont_c, xbd, nI_leI, hnle, nI_neg0, cl_nI, b00, nI_add]) (2 ^ m) (Nat.le_refl _)
  -- those that can be reached
  obtain ⟨C, hC, s2⟩ := xloopE (α := Nat → Bool) (t := tX0_fewest) (st := fun i C => (33, [.ref 69, .ref (3 + 2 * j), .int (nI rg), .int (nI (2 ^ m)), .int (nI i)], [], 0, S0 L (fw I 70 (2 ^ m) (fun q => if C q = true then nI 1 else nI 0)) J)) (N := 216) (Inv := fun i C => ∀ R, R < 2 ^ m → (C R = true ↔ ∃ s, s < i ∧ plN v m rg s = R)) (a0 := fun _ => false) (fun R _ => by simp) (by
    intro i C hi hC
    have hPi := hP i hi
    refine ⟨fun q => if q = plN v m rg i then true else C q, fun R hR => ?_, ?_⟩
    · by_cases hq : R = plN v m rg i
      · simp only [hq, if_true, true_iff]
        exact ⟨i, by omega, rfl⟩
      · simp only [hq, if_false]
        rw [hC R hR]
        constructor
        · rintro ⟨s, s1, s2⟩; exact ⟨s, by omega, s2⟩
        · rintro ⟨s, s1, s2⟩
          have : s ≠ i := fun q => hq (by rw [← s2, q])
          exact ⟨s, by omega, s2⟩
    · have z1 : fw I 70 (2 ^ m) (fun q => if C q = true then nI 1 else nI 0) (3 + 2 * j) 1 = nI m := by rw [fw_ne _ _ _ (by omega)]; exact hz
      have z2 : ∀ q, q < m → fw I 70 (2 ^ m) (fun q => if C q = true then nI 1 else nI 0) (4 + 2 * j) q = nI (v q) ∧ v q < 216 := fun q hq => by rw [fw_ne _ _ _ (by omega)]; exact hv q hq
      have pl := p0_placesReached L _ J hj hm z1 v z2 hr hi
      have e1 : fw I 70 (2 ^ m) (fun q => if (if q = plN v m rg i then true else C q) = true then nI 1 else nI 0) = xup (fw I 70 (2 ^ m) (fun q => if C q = true then nI 1 else nI 0)) 70 (plN v m rg i) (nI 1) := by
        rw [fw_up _ _ hPi]
        congr 1
        funext q
        by_cases hq : q = plN v m rg i <;> simp [hq]
      show xD tX0_fewest (33, _) = xD tX0_fewest (_, _, _, _, S0 L (fw I 70 (2 ^ m) (fun q => if (if q = plN v m rg i then true else C q) = true then nI 1 else nI 0)) J)
      rw [hX0_fewest_33, e1]
      simp (disch := omega) only [eX0_fewest, xRl, xG1, xG2, kAll, rAll, nAll, List.map_nil, List.map_cons, List.sum_nil, List.sum_cons, Nat.reduceAdd, Nat.reduceSub, Nat.reduceMul, Nat.reduceLeDiff, Nat.reduceEqDiff, Nat.reduceLT, and_true, true_and, and_self, if_true, if_false, ne_eq, not_false_eq_true, not_true_eq_false, or_false, false_or, or_true, true_or, false_and, and_false, reduceIte, reduceCtorEq, xB, ite_not, xretf_zc, xretf_c, xcont_c, xbd, nI_leI, nI_neg0, cl_nI, pl, b01, nI_add]
      rw [if_neg (by omega)]) 216 (Nat.le_refl _)
  generalize hI1 : fw I 70 (2 ^ m) (fun q => if C q = true then nI 1 else nI 0) = I1 at s2
  have o1 : ∀ c, c ≠ 70 → I1 c = I c := fun c hc => by rw [← hI1, fw_ne _ _ _ hc]
  have c1 : ∀ R, R < 2 ^ m → I1 70 R = if C R = true then nI 1 else nI 0 := fun R hR => by rw [← hI1, fw_in _ _ hR]
  -- the table
  obtain ⟨B, hB, s3⟩ := xloopE (α := Nat → Nat) (t := tX0_fewest) (st := fun i B => (70, [.ref 69, .ref (3 + 2 * j), .int (nI rg), .int (nI (2 ^ m)), .int (nI (1 + i))], [], 0, S0 L (fw I1 71 (1 + i) (fun q => nI (B q))) J)) (N := 2 ^ m - 1) (Inv := fun i B => ∀ S, S < 1 + i → good (plN v m rg) S (B S)) (a0 := fun _ => 0) (fun S hS => by
      have : S = 0 := by omega
      subst this
      exact ⟨Nat.zero_le 6, ⟨[], Nat.le_refl 0, fun s hs => absurd hs (by simp), fun i hi => absurd hi (by simp)⟩, fun k _ => Nat.zero_le k⟩) (by
    intro i B hi hB
    have hCC : ∀ R, R < 2 ^ m → fw I1 71 (1 + i) (fun q => nI (B q)) 70 R = if C R = true then nI 1 else nI 0 := fun R hR => by rw [fw_ne _ _ _ (by decide)]; exact c1 R hR
    have hBB : ∀ q, q < 1 + i → fw I1 71 (1 + i) (fun q => nI (B q)) 71 q = nI (B q) ∧ B q ≤ 6 := fun q hq => ⟨by rw [fw_in _ _ hq], (hB q hq).1⟩
    have fo := p0_fewestOf L _ J hm (show 1 + i < 2 ^ m by omega) C B hCC hBB
    have hgd := fo_ok hm hP v hvv (S := 1 + i) hC hB (by omega) (by omega)
    have hfl := foN_le C B (1 + i) (2 ^ m)
    generalize foN C B (1 + i) (2 ^ m) = x at fo hgd hfl
    refine ⟨fun q => if q = 1 + i then x else B q, fun S hS => ?_, ?_⟩
    · by_cases hq : S = 1 + i
      · simp only [hq, if_true]; exact hgd
      · simp only [hq, if_false]; exact hB S (by omega)
    · have e1 : fw I1 71 (1 + (i + 1)) (fun q => nI (if q = 1 + i then x else B q)) = xup (fw I1 71 (1 + i) (fun q => nI (B q))) 71 (1 + i) (nI x) := by
        have := fw_s I1 71 (1 + i) (fun q => nI (if q = 1 + i then x else B q))
        rw [show 1 + (i + 1) = 1 + i + 1 by omega, ← this]
        simp only [if_true]
        congr 1
        funext a b
        unfold fw
        by_cases hab : a = 71 ∧ b < 1 + i
        · rw [if_pos hab, if_pos hab]
          show nI (if b = 1 + i then x else B b) = nI (B b)
          rw [if_neg (by omega)]
        · rw [if_neg hab, if_neg hab]
      have hnle : ¬ 2 ^ m ≤ 1 + i := by omega
      show xD tX0_fewest (70, _) = xD tX0_fewest (_, [_, _, _, _, .int (nI (1 + (i + 1)))], _, _, S0 L (fw I1 71 (1 + (i + 1)) (fun q => nI (if q = 1 + i then x else B q))) J)
      rw [hX0_fewest_70, e1]
      simp (disch := omega) only [eX0_fewest, xRl, xG1, xG2, kAll, rAll, nAll, List.map_nil, List.map_cons, List.sum_nil, List.sum_cons, Nat.reduceAdd, Nat.reduceSub, Nat.reduceMul, Nat.reduceLeDiff, Nat.reduceEqDiff, Nat.reduceLT, and_true, true_and, and_self, if_true, if_false, ne_eq, not_false_eq_true, not_true_eq_false, or_false, false_or, or_true, true_or, false_and, and_false, reduceIte, reduceCtorEq, xB, ite_not, xretf_zc, xretf_c, xcont_c, xbd, nI_leI, hnle, nI_neg0, cl_nI, fo, nI_add]
      rw [show 1 + (i + 1) = 1 + i + 1 by omega]) (2 ^ m - 1) (Nat.le_refl _)
  refine ⟨fw I1 71 (2 ^ m) (fun q => nI (B q)), B (2 ^ m - 1), ?_, fun c h1 h2 => by rw [fw_ne _ _ _ h2, o1 c h1], hB (2 ^ m - 1) (by omega)⟩
  rw [fX0_fewest]
  simp (disch := omega) only [eX0_fewest, xRl, xG1, xG2, kAll, rAll, nAll, List.map_nil, List.map_cons, List.sum_nil, List.sum_cons, Nat.reduceAdd, Nat.reduceSub, Nat.reduceMul, Nat.reduceLeDiff, Nat.reduceEqDiff, Nat.reduceLT, and_true, true_and, and_self, if_true, if_false, ne_eq, not_false_eq_true, not_true_eq_false, or_false, false_or, or_true, true_or, false_and, and_false, reduceIte, reduceCtorEq, xB, ite_not, xretf_zc, xretf_c, xcont_c, xbd, k1, hz, shl1]
  have k0 := s1.1
  simp only [fw_0] at k0
  rw [k0, hX0_fewest_10]
  simp (disch := omega) only [eX0_fewest, xRl, xG1, xG2, kAll, rAll, nAll, List.map_nil, List.map_cons, List.sum_nil, List.sum_cons, Nat.reduceAdd, Nat.reduceSub, Nat.reduceMul, Nat.reduceLeDiff, Nat.reduceEqDiff, Nat.reduceLT, and_true, true_and, and_self, if_true, if_false, ne_eq, not_false_eq_true, not_true_eq_false, or_false, false_or, or_true, true_or, false_and, and_false, reduceIte, reduceCtorEq, xB, ite_not, xretf_zc, xretf_c, xcont_c, xbd, nI_leI]
  rw [if_pos (Nat.le_refl _), show xD tX0_fewest (33, [.ref 69, .ref (3 + 2 * j), .int (nI rg), .int (nI (2 ^ m)), .int (nI 0)], [], 0, S0 L (fw I 70 (2 ^ m) (fun _ => nI 0)) J) = _ from s2, hX0_fewest_33]
  simp (disch := omega) only [eX0_fewest, xRl, xG1, xG2, kAll, rAll, nAll, List.map_nil, List.map_cons, List.sum_nil, List.sum_cons, Nat.reduceAdd, Nat.reduceSub, Nat.reduceMul, Nat.reduceLeDiff, Nat.reduceEqDiff, Nat.reduceLT, and_true, true_and, and_self, if_true, if_false, ne_eq, not_false_eq_true, not_true_eq_false, or_false, false_or, or_true, true_or, false_and, and_false, reduceIte, reduceCtorEq, xB, ite_not, xretf_zc, xretf_c, xcont_c, xbd, nI_leI, nI_neg0, cl_nI]
  have e1 : xup I1 71 0 (nI 0) = fw I1 71 (1 + 0) (fun q => nI ((fun _ => 0) q)) := by
    have := fw_s I1 71 0 (fun q => nI ((fun _ => 0) q))
    rw [fw_0] at this
    exact this
  rw [e1, show xD tX0_fewest (70, [.ref 69, .ref (3 + 2 * j), .int (nI rg), .int (nI (2 ^ m)), .int (nI 1)], [], 0, S0 L (fw I1 71 (1 + 0) (fun q => nI ((fun _ => 0) q))) J) = _ from s3, hX0_fewest_70, show 1 + (2 ^ m - 1) = 2 ^ m by omega]
  have e2 : fw I1 71 (2 ^ m) (fun q => nI (B q)) 71 (2 ^ m - 1) = nI (B (2 ^ m - 1)) := fw_in _ _ (by omega)
  simp (disch := omega) only [eX0_fewest, xRl, xG1, xG2, kAll, rAll, nAll, List.map_nil, List.map_cons, List.sum_nil, List.sum_cons, Nat.reduceAdd, Nat.reduceSub, Nat.reduceMul, Nat.reduceLeDiff, Nat.reduceEqDiff, Nat.reduceLT, and_true, true_and, and_self, if_true, if_false, ne_eq, not_false_eq_true, not_true_eq_false, or_false, false_or, or_true, true_or, false_and, and_false, reduceIte, reduceCtorEq, xB, ite_not, xretf_zc, xretf_c, xcont_c, xbd, nI_leI, nI_neg0, cl_nI, pk_sub, e2]
  rw [if_pos (Nat.le_refl _)]
theorem or_lt64 {a b : Nat} (ha : a < 64) (hb : b < 64) : a ||| b < 64 := Nat.or_lt_two_pow (n := 6) ha hb
theorem pr_cover (h : Cp I J) (r x : Int32) : Pair L FX8_cover FX9_cover [.int r, .int x] I J := by
  by_cases hx : nI 0 ≤ x ∧ x < nI 10
  · rcases sh_cases L I J h r 0 6 (by omega) (by omega) with ⟨hr, c1⟩ | ⟨j, hj, rfl, ⟨f, hf, c1, c2, -⟩ | ⟨m, hm, -, hm6, z1, z2, hok, c1, c2⟩⟩
    · refine ⟨.int (-1), I, J, I, J, ?_, ?_, h⟩
      · rw [fX8_cover]
        simp (disch := omega) only [eX8_cover, xRl, xG1, xG2, kAll, rAll, nAll, List.map_nil, List.map_cons, List.sum_nil, List.sum_cons, Nat.reduceAdd, Nat.reduceSub, Nat.reduceMul, Nat.reduceLeDiff, Nat.reduceEqDiff, Nat.reduceLT, and_true, true_and, and_self, if_true, if_false, ne_eq, not_false_eq_true, not_true_eq_false, or_false, false_or, or_true, true_or, false_and, and_false, reduceIte, reduceCtorEq, xB, ite_not, xretf_zc, xretf_c, xcont_c, xbd, p8_among, hx, c1, m1_0]
      · rw [fX9_cover]
        simp (disch := omega) only [eX9_cover, xRl, xG1, xG2, kAll, rAll, nAll, List.map_nil, List.map_cons, List.sum_nil, List.sum_cons, Nat.reduceAdd, Nat.reduceSub, Nat.reduceMul, Nat.reduceLeDiff, Nat.reduceEqDiff, Nat.reduceLT, and_true, true_and, and_self, if_true, if_false, ne_eq, not_false_eq_true, not_true_eq_false, or_false, false_or, or_true, true_or, false_and, and_false, reduceIte, reduceCtorEq, xB, ite_not, xretf_zc, xretf_c, xcont_c, xbd, p9_isRow, hr]
    · refine ⟨.int (-3), fnC I f, J, fnM (fnC I f) f, J, ?_, ?_, Cp_find h hf⟩
      · rw [fX8_cover]
        simp (disch := omega) only [eX8_cover, xRl, xG1, xG2, kAll, rAll, nAll, List.map_nil, List.map_cons, List.sum_nil, List.sum_cons, Nat.reduceAdd, Nat.reduceSub, Nat.reduceMul, Nat.reduceLeDiff, Nat.reduceEqDiff, Nat.reduceLT, and_true, true_and, and_self, if_true, if_false, ne_eq, not_false_eq_true, not_true_eq_false, or_false, false_or, or_true, true_or, false_and, and_false, reduceIte, reduceCtorEq, xB, ite_not, xretf_zc, xretf_c, xcont_c, xbd, p8_among, hx, c1, m3_0]
      · rw [fX9_cover]
        simp (disch := omega) only [eX9_cover, xRl, xG1, xG2, kAll, rAll, nAll, List.map_nil, List.map_cons, List.sum_nil, List.sum_cons, Nat.reduceAdd, Nat.reduceSub, Nat.reduceMul, Nat.reduceLeDiff, Nat.reduceEqDiff, Nat.reduceLT, and_true, true_and, and_self, if_true, if_false, ne_eq, not_false_eq_true, not_true_eq_false, or_false, false_or, or_true, true_or, false_and, and_false, reduceIte, reduceCtorEq, xB, ite_not, xretf_zc, xretf_c, xcont_c, xbd, p9_isRow, z_le, lt_t, p9_inL, hx, c2, m3_0]
    · obtain ⟨rg, hrg, rfl⟩ := (Am_iff (by decide)).mp hx
      have hv := okR_t (by decide) hok
      obtain ⟨k1, k2, k3, k4⟩ := kRow j hj
      have e : ¬ 3 + 2 * j = 0 := by omega
      have h64 : 2 ^ m ≤ 2 ^ 6 := Nat.pow_le_pow_right (by omega) hm6
      have hp2 := Nat.two_pow_pos m
      obtain ⟨I1, b, cl1, o1, hgd⟩ := p0_fewest L I J hj hm6 z1 (fun i => tn (I (4 + 2 * j) i)) hv hrg
      generalize hvv : (fun i => tn (I (4 + 2 * j) i)) = v at hgd
      have hv2 : ∀ i, i < m → I (4 + 2 * j) i = nI (v i) ∧ v i < 216 := fun i hi => by rw [← hvv]; exact hv i hi
      have hP : ∀ s, s < 216 → plN v m rg s < 2 ^ m := fun s _ => msk_lt _ m
      have hPv : ∀ i, i < m → v i < 216 ∧ (plN v m rg (v i)).testBit i = true := fun i hi => ⟨(hv2 i hi).2, by unfold plN; rw [msk_bit, rch_self]; simpa using hi⟩
      have q79 : I1 79 = I 79 := o1 79 (by decide) (by decide)
      have q80 : I1 80 = I 80 := o1 80 (by decide) (by decide)
      have c3 := c2 I1 q79 q80
      have hpl : ∀ s, plN v m rg s < 64 := fun s => plN_lt v rg s hm6
      -- the reference's loops
      have s0 := xloop (t := tX9_cover) (st := fun i (_ : Unit) => (39, [.ref 77, .int (nI j), .int (nI rg), .int (nI 0), .int (nI i), .null, .null, .null, .null], [], 0, S0 L (fw I1 86 i (fun q => nI (if q = 0 then 0 else 9))) J)) (g := fun _ _ => ()) (N := 64) (Inv := fun _ _ => True) (a0 := ()) trivial (by
        intro i u hi _
        refine ⟨?_, trivial⟩
        show xD tX9_cover (39, _) = _
        rw [hX9_cover_39, ← fw_s]
        have hnle : ¬ 64 ≤ i := by omega
        by_cases hi0 : i = 0
        · simp only [hi0, if_true]
          simp (disch := omega) only [eX9_cover, xRl, xG1, xG2, kAll, rAll, nAll, List.map_nil, List.map_cons, List.sum_nil, List.sum_cons, Nat.reduceAdd, Nat.reduceSub, Nat.reduceMul, Nat.reduceLeDiff, Nat.reduceEqDiff, Nat.reduceLT, and_true, true_and, and_self, if_true, if_false, ne_eq, not_false_eq_true, not_true_eq_false, or_false, false_or, or_true, true_or, false_and, and_false, reduceIte, reduceCtorEq, xB, ite_not, xretf_zc, xretf_c, xcont_c, xbd, nI_leI, nI_neg0, cl_nI, nI_add]
        · simp only [hi0, if_false]
          simp (disch := omega) only [eX9_cover, xRl, xG1, xG2, kAll, rAll, nAll, List.map_nil, List.map_cons, List.sum_nil, List.sum_cons, Nat.reduceAdd, Nat.reduceSub, Nat.reduceMul, Nat.reduceLeDiff, Nat.reduceEqDiff, Nat.reduceLT, and_true, true_and, and_self, if_true, if_false, ne_eq, not_false_eq_true, not_true_eq_false, or_false, false_or, or_true, true_or, false_and, and_false, reduceIte, reduceCtorEq, xB, ite_not, xretf_zc, xretf_c, xcont_c, xbd, nI_leI, hnle, nI_neg0, cl_nI, nI_eq, hi0, nI_add]) 64 (Nat.le_refl 64)
      have s1 := xloopE (α := (Nat → Nat) × Value × Value × Value × Value) (t := tX9_cover) (st := fun r a => (73, [.ref 77, .int (nI j), .int (nI rg), .int (nI 0), .int (nI r), a.2.1, a.2.2.1, a.2.2.2.1, a.2.2.2.2], [], 0, S0 L (fw I1 86 64 (fun q => nI (a.1 q))) J)) (N := 6) (Inv := fun r a => snd (plN v m rg) a.1 ∧ cpl (plN v m rg) a.1 r ∧ okV a.2.1 ∧ okV a.2.2.1 ∧ okV a.2.2.2.1 ∧ okV a.2.2.2.2) (a0 := (fun q => if q = 0 then 0 else 9, .null, .null, .null, .null)) ⟨fun T _ => by
          show (if T = 0 then 0 else 9) ≤ 9 ∧ ((if T = 0 then 0 else 9) < 9 → ∃ l : List Nat, l.length ≤ (if T = 0 then 0 else 9) ∧ inL l ∧ uni (plN v m rg) l = T)
          by_cases hT : T = 0
          · subst hT
            simp only [if_true]
            exact ⟨by omega, fun _ => ⟨[], by simp, fun s hs => absurd hs (by simp), rfl⟩⟩
          · rw [if_neg hT]
            exact ⟨by omega, fun q => absurd q (by omega)⟩, fun l _ hl => by
          have : l = [] := List.length_eq_zero_iff.mp (by omega)
          subst this
          exact Nat.le_refl 0, Or.inl rfl, Or.inl rfl, Or.inl rfl, Or.inl rfl⟩ (by
        rintro rd ⟨A0, w5, w6, w7, w8⟩ hrd ⟨hs0, hc0, hw5, hw6, hw7, hw8⟩
        -- owns
        have s2 := xloopE (α := (Nat → Nat) × Value × Value × Value) (t := tX9_cover) (st := fun o a => (83, [.ref 77, .int (nI j), .int (nI rg), .int (nI 0), .int (nI rd), .int (nI o), a.2.1, a.2.2.1, a.2.2.2], [], 0, S0 L (fw I1 86 64 (fun q => nI (a.1 q))) J)) (N := 216) (Inv := fun o a => snd (plN v m rg) a.1 ∧ (∀ T, T < 64 → a.1 T ≤ A0 T) ∧ (∀ s, s < o → ∀ T, T < 64 → a.1 (T ||| plN v m rg s) ≤ A0 T + 1) ∧ okV a.2.1 ∧ okV a.2.2.1 ∧ okV a.2.2.2) (a0 := (A0, w6, w7, w8)) ⟨hs0, fun T _ => Nat.le_refl _, fun s hs => absurd hs (by omega), hw6, hw7, hw8⟩ (by
          rintro o ⟨A1, u6, u7, u8⟩ ho ⟨hs1, hl1, ht1, hu6, hu7, hu8⟩
          have t79 : ∀ A : Nat → Nat, fw I1 86 64 (fun q => nI (A q)) 79 j = nI m := fun A => by rw [fw_ne _ _ _ (by decide), q79]; exact z2
          have pl := p9_placesFrom L (fw I1 86 64 (fun q => nI (A1 q))) J hj hm6 (t79 A1) v (fun q hq => by rw [fw_ne _ _ _ (by decide), q80, ← (h.1 j hj).2.2 q (by omega)]; exact hv2 q hq) hrg ho
          have hpo := hpl o
          generalize hmo : plN v m rg o = mo at pl hpo
          by_cases hmo0 : mo = 0
          · refine ⟨(A1, .int (nI mo), .int (nI 0), u8), ⟨hs1, hl1, fun s hs T hT => ?_, Or.inr ⟨_, rfl⟩, Or.inr ⟨_, rfl⟩, hu8⟩, ?_⟩
            · by_cases hso : s = o
              · subst hso
                have : A1 T ≤ A0 T := hl1 T hT
                rw [hmo, hmo0, Nat.or_zero]
                show A1 T ≤ _
                omega
              · exact ht1 s (by omega) T hT
            · show xD tX9_cover (83, _) = _
              rw [hX9_cover_83]
              have hnle : ¬ 216 ≤ o := by omega
              rcases hu6 with h6 | ⟨y6, h6⟩ <;> rcases hu7 with h7 | ⟨y7, h7⟩ <;> simp only [h6, h7]
              all_goals
                simp (disch := omega) only [eX9_cover, xRl, xG1, xG2, kAll, rAll, nAll, List.map_nil, List.map_cons, List.sum_nil, List.sum_cons, Nat.reduceAdd, Nat.reduceSub, Nat.reduceMul, Nat.reduceLeDiff, Nat.reduceEqDiff, Nat.reduceLT, and_true, true_and, and_self, if_true, if_false, ne_eq, not_false_eq_true, not_true_eq_false, or_false, false_or, or_true, true_or, false_and, and_false, reduceIte, reduceCtorEq, xB, ite_not, xretf_zc, xretf_c, xcont_c, xbd, nI_leI, hnle, pl]
                rw [hX9_cover_104]
                simp (disch := omega) only [eX9_cover, xRl, xG1, xG2, kAll, rAll, nAll, List.map_nil, List.map_cons, List.sum_nil, List.sum_cons, Nat.reduceAdd, Nat.reduceSub, Nat.reduceMul, Nat.reduceLeDiff, Nat.reduceEqDiff, Nat.reduceLT, and_true, true_and, and_self, if_true, if_false, ne_eq, not_false_eq_true, not_true_eq_false, or_false, false_or, or_true, true_or, false_and, and_false, reduceIte, reduceCtorEq, xB, ite_not, xretf_zc, xretf_c, xcont_c, xbd, nI_leI, nI_eq, hmo0, nI_add]
          · have s3 := xloopE (α := (Nat → Nat) × Value) (t := tX9_cover) (st := fun T a => (104, [.ref 77, .int (nI j), .int (nI rg), .int (nI 0), .int (nI rd), .int (nI o), .int (nI mo), .int (nI T), a.2], [], 0, S0 L (fw I1 86 64 (fun q => nI (a.1 q))) J)) (N := 64) (Inv := fun i a => snd (plN v m rg) a.1 ∧ (∀ T, T < 64 → a.1 T ≤ A1 T) ∧ (∀ T, T < i → a.1 (T ||| mo) ≤ A1 T + 1) ∧ okV a.2) (a0 := (A1, u8)) ⟨hs1, fun T _ => Nat.le_refl _, fun s hs => absurd hs (by omega), hu8⟩ (by
              rintro i ⟨A, y8⟩ hi ⟨hsA, hlA, htA, hy8⟩
              have hor := or_lt64 hi hpo
              have hAi := (hsA i hi).1
              have hAo := (hsA _ hor).1
              simp only at hAi hAo
              refine ⟨(fun q => if q = i ||| mo then (if A i + 1 < A (i ||| mo) then A i + 1 else A (i ||| mo)) else A q, .int (nI (A i + 1))), ⟨fun T hT => ?_, fun T hT => ?_, fun T hT => ?_, Or.inr ⟨_, rfl⟩⟩, ?_⟩
              · show (if T = i ||| mo then (if A i + 1 < A (i ||| mo) then A i + 1 else A (i ||| mo)) else A T) ≤ 9 ∧ ((if T = i ||| mo then (if A i + 1 < A (i ||| mo) then A i + 1 else A (i ||| mo)) else A T) < 9 → ∃ l : List Nat, l.length ≤ (if T = i ||| mo then (if A i + 1 < A (i ||| mo) then A i + 1 else A (i ||| mo)) else A T) ∧ inL l ∧ uni (plN v m rg) l = T)
                by_cases hq : T = i ||| mo
                · rw [if_pos hq]
                  by_cases hc : A i + 1 < A (i ||| mo)
                  · rw [if_pos hc]
                    refine ⟨by omega, fun q => ?_⟩
                    obtain ⟨l, l1, l2, l3⟩ := (hsA i hi).2 (by show A i < 9; omega)
                    refine ⟨o :: l, by simp only [List.length_cons]; exact Nat.succ_le_succ l1, fun t ht => ?_, ?_⟩
                    · rcases List.mem_cons.mp ht with rfl | ht
                      · exact ho
                      · exact l2 t ht
                    · show uni (plN v m rg) l ||| plN v m rg o = T
                      rw [l3, hmo, hq]
                  · rw [if_neg hc, hq]
                    exact hsA _ hor
                · rw [if_neg hq]
                  exact hsA T hT
              · show (if T = i ||| mo then (if A i + 1 < A (i ||| mo) then A i + 1 else A (i ||| mo)) else A T) ≤ A1 T
                have h1 : A T ≤ A1 T := hlA T hT
                by_cases hq : T = i ||| mo
                · rw [if_pos hq]
                  rw [hq] at h1 ⊢
                  split <;> omega
                · rw [if_neg hq]; exact h1
              · show (if T ||| mo = i ||| mo then (if A i + 1 < A (i ||| mo) then A i + 1 else A (i ||| mo)) else A (T ||| mo)) ≤ A1 T + 1
                by_cases hTi : T = i
                · subst hTi
                  rw [if_pos rfl]
                  have h1 : A T ≤ A1 T := hlA T hi
                  split <;> omega
                · have h2 : A (T ||| mo) ≤ A1 T + 1 := htA T (by omega)
                  by_cases hq : T ||| mo = i ||| mo
                  · rw [if_pos hq]
                    rw [hq] at h2
                    split <;> omega
                  · rw [if_neg hq]; exact h2
              · have r1 : fw I1 86 64 (fun q => nI (A q)) 86 i = nI (A i) := fw_in _ _ hi
                have r2 : fw I1 86 64 (fun q => nI (A q)) 86 (i ||| mo) = nI (A (i ||| mo)) := fw_in _ _ hor
                have e1 : fw I1 86 64 (fun q => nI (if q = i ||| mo then (if A i + 1 < A (i ||| mo) then A i + 1 else A (i ||| mo)) else A q)) = xup (fw I1 86 64 (fun q => nI (A q))) 86 (i ||| mo) (nI (if A i + 1 < A (i ||| mo) then A i + 1 else A (i ||| mo))) := by
                  rw [fw_up _ _ hor]
                  congr 1
                  funext q
                  by_cases hq : q = i ||| mo <;> simp [hq]
                have hnle : ¬ 64 ≤ i := by omega
                show xD tX9_cover (104, [_, _, _, _, _, _, _, _, y8], _) = xD tX9_cover (_, _, _, _, S0 L (fw I1 86 64 (fun q => nI (if q = i ||| mo then (if A i + 1 < A (i ||| mo) then A i + 1 else A (i ||| mo)) else A q))) J)
                rw [hX9_cover_104, e1]
                by_cases hc : A i + 1 < A (i ||| mo)
                · have hc2 : ¬ A (i ||| mo) ≤ A i + 1 := by omega
                  rw [if_pos hc]
                  rcases hy8 with h8 | ⟨z8, h8⟩ <;> simp only at h8 <;> subst h8
                  all_goals
                    simp (disch := omega) only [eX9_cover, xRl, xG1, xG2, kAll, rAll, nAll, List.map_nil, List.map_cons, List.sum_nil, List.sum_cons, Nat.reduceAdd, Nat.reduceSub, Nat.reduceMul, Nat.reduceLeDiff, Nat.reduceEqDiff, Nat.reduceLT, and_true, true_and, and_self, if_true, if_false, ne_eq, not_false_eq_true, not_true_eq_false, or_false, false_or, or_true, true_or, false_and, and_false, reduceIte, reduceCtorEq, xB, ite_not, xretf_zc, xretf_c, xcont_c, xbd, nI_leI, hnle, nI_eq, hmo0, nI_neg0, cl_nI, nI_or, r1, r2, nI_add, hc2]
                · have hc2 : A (i ||| mo) ≤ A i + 1 := by omega
                  rw [if_neg hc]
                  rcases hy8 with h8 | ⟨z8, h8⟩ <;> simp only at h8 <;> subst h8
                  all_goals
                    simp (disch := omega) only [eX9_cover, xRl, xG1, xG2, kAll, rAll, nAll, List.map_nil, List.map_cons, List.sum_nil, List.sum_cons, Nat.reduceAdd, Nat.reduceSub, Nat.reduceMul, Nat.reduceLeDiff, Nat.reduceEqDiff, Nat.reduceLT, and_true, true_and, and_self, if_true, if_false, ne_eq, not_false_eq_true, not_true_eq_false, or_false, false_or, or_true, true_or, false_and, and_false, reduceIte, reduceCtorEq, xB, ite_not, xretf_zc, xretf_c, xcont_c, xbd, nI_leI, hnle, nI_eq, hmo0, nI_neg0, cl_nI, nI_or, r1, r2, nI_add, hc2]) 64 (Nat.le_refl 64)
            obtain ⟨⟨A, y8⟩, ⟨hsA, hlA, htA, hy8⟩, s3⟩ := s3
            refine ⟨(A, .int (nI mo), .int (nI 64), y8), ⟨hsA, fun T hT => Nat.le_trans (hlA T hT) (hl1 T hT), fun s hs T hT => ?_, Or.inr ⟨_, rfl⟩, Or.inr ⟨_, rfl⟩, hy8⟩, ?_⟩
            · by_cases hso : s = o
              · subst hso
                rw [hmo]
                have g1 := htA T hT
                have g2 := hl1 T hT
                simp only at g1 g2 ⊢
                omega
              · have g1 := ht1 s (by omega) T hT
                have g2 := hlA (T ||| plN v m rg s) (or_lt64 hT (hpl s))
                simp only at g1 g2 ⊢
                omega
            · show xD tX9_cover (83, _) = _
              rw [hX9_cover_83]
              have hnle : ¬ 216 ≤ o := by omega
              rcases hu6 with h6 | ⟨y6, h6⟩ <;> rcases hu7 with h7 | ⟨y7, h7⟩ <;> simp only [h6, h7]
              all_goals
                simp (disch := omega) only [eX9_cover, xRl, xG1, xG2, kAll, rAll, nAll, List.map_nil, List.map_cons, List.sum_nil, List.sum_cons, Nat.reduceAdd, Nat.reduceSub, Nat.reduceMul, Nat.reduceLeDiff, Nat.reduceEqDiff, Nat.reduceLT, and_true, true_and, and_self, if_true, if_false, ne_eq, not_false_eq_true, not_true_eq_false, or_false, false_or, or_true, true_or, false_and, and_false, reduceIte, reduceCtorEq, xB, ite_not, xretf_zc, xretf_c, xcont_c, xbd, nI_leI, hnle, pl]
                rw [s3, hX9_cover_104]
                simp (disch := omega) only [eX9_cover, xRl, xG1, xG2, kAll, rAll, nAll, List.map_nil, List.map_cons, List.sum_nil, List.sum_cons, Nat.reduceAdd, Nat.reduceSub, Nat.reduceMul, Nat.reduceLeDiff, Nat.reduceEqDiff, Nat.reduceLT, and_true, true_and, and_self, if_true, if_false, ne_eq, not_false_eq_true, not_true_eq_false, or_false, false_or, or_true, true_or, false_and, and_false, reduceIte, reduceCtorEq, xB, ite_not, xretf_zc, xretf_c, xcont_c, xbd, nI_leI, nI_add]) 216 (Nat.le_refl 216)
        obtain ⟨⟨A, y6, y7, y8⟩, ⟨hsA, hlA, htA, hy6, hy7, hy8⟩, s2⟩ := s2
        refine ⟨(A, .int (nI 216), y6, y7, y8), ⟨hsA, fun l hl hlen => ?_, Or.inr ⟨_, rfl⟩, hy6, hy7, hy8⟩, ?_⟩
        · match l, hl, hlen with
          | [], _, _ =>
            have g1 := hc0 [] (fun s hs => absurd hs (by simp)) (by simp)
            have g2 := hlA 0 (by omega)
            simp only [uni, List.length_nil] at g1 g2 ⊢
            omega
          | s :: l, hl, hlen =>
            have hl' : inL l := fun t ht => hl t (List.mem_cons_of_mem _ ht)
            simp only [List.length_cons] at hlen ⊢
            have hu : uni (plN v m rg) l < 64 := Nat.lt_of_lt_of_le (uni_lt hP l hl') h64
            have g1 := htA s (hl s List.mem_cons_self) _ hu
            have g2 := hc0 l hl' (by omega)
            simp only at g1 g2
            show A (uni (plN v m rg) l ||| plN v m rg s) ≤ _
            omega
        · show xD tX9_cover (73, _) = _
          rw [hX9_cover_73]
          have hnle : ¬ 6 ≤ rd := by omega
          rcases hw5 with h5 | ⟨y5, h5⟩ <;> simp only [h5]
          all_goals
            simp (disch := omega) only [eX9_cover, xRl, xG1, xG2, kAll, rAll, nAll, List.map_nil, List.map_cons, List.sum_nil, List.sum_cons, Nat.reduceAdd, Nat.reduceSub, Nat.reduceMul, Nat.reduceLeDiff, Nat.reduceEqDiff, Nat.reduceLT, and_true, true_and, and_self, if_true, if_false, ne_eq, not_false_eq_true, not_true_eq_false, or_false, false_or, or_true, true_or, false_and, and_false, reduceIte, reduceCtorEq, xB, ite_not, xretf_zc, xretf_c, xcont_c, xbd, nI_leI, hnle]
            rw [s2, hX9_cover_83]
            simp (disch := omega) only [eX9_cover, xRl, xG1, xG2, kAll, rAll, nAll, List.map_nil, List.map_cons, List.sum_nil, List.sum_cons, Nat.reduceAdd, Nat.reduceSub, Nat.reduceMul, Nat.reduceLeDiff, Nat.reduceEqDiff, Nat.reduceLT, and_true, true_and, and_self, if_true, if_false, ne_eq, not_false_eq_true, not_true_eq_false, or_false, false_or, or_true, true_or, false_and, and_false, reduceIte, reduceCtorEq, xB, ite_not, xretf_zc, xretf_c, xcont_c, xbd, nI_leI, nI_add]) 6 (Nat.le_refl 6)
      obtain ⟨⟨A, y5, y6, y7, y8⟩, ⟨hsA, hcA, -⟩, s1⟩ := s1
      have hbA : b = A (2 ^ m - 1) := good_eq hgd (tab_ok hm6 hP v hPv hsA hcA)
      refine ⟨.int (nI b), I1, J, fw I1 86 64 (fun q => nI (A q)), J, ?_, ?_, ?_⟩
      · rw [fX8_cover]
        simp (disch := omega) only [eX8_cover, xRl, xG1, xG2, kAll, rAll, nAll, List.map_nil, List.map_cons, List.sum_nil, List.sum_cons, Nat.reduceAdd, Nat.reduceSub, Nat.reduceMul, Nat.reduceLeDiff, Nat.reduceEqDiff, Nat.reduceLT, and_true, true_and, and_self, if_true, if_false, ne_eq, not_false_eq_true, not_true_eq_false, or_false, false_or, or_true, true_or, false_and, and_false, reduceIte, reduceCtorEq, xB, ite_not, xretf_zc, xretf_c, xcont_c, xbd, p8_among, hx, c1, k1, k3, e, nI_neg0, cl_nI, cl1]
      · rw [fX9_cover]
        simp (disch := omega) only [eX9_cover, xRl, xG1, xG2, kAll, rAll, nAll, List.map_nil, List.map_cons, List.sum_nil, List.sum_cons, Nat.reduceAdd, Nat.reduceSub, Nat.reduceMul, Nat.reduceLeDiff, Nat.reduceEqDiff, Nat.reduceLT, and_true, true_and, and_self, if_true, if_false, ne_eq, not_false_eq_true, not_true_eq_false, or_false, false_or, or_true, true_or, false_and, and_false, reduceIte, reduceCtorEq, xB, ite_not, xretf_zc, xretf_c, xcont_c, xbd, p9_isRow, z_le, lt_t, p9_inL, hx, c3]
        have k0 := s0.1
        simp only [fw_0] at k0
        rw [k0, hX9_cover_39]
        simp (disch := omega) only [eX9_cover, xRl, xG1, xG2, kAll, rAll, nAll, List.map_nil, List.map_cons, List.sum_nil, List.sum_cons, Nat.reduceAdd, Nat.reduceSub, Nat.reduceMul, Nat.reduceLeDiff, Nat.reduceEqDiff, Nat.reduceLT, and_true, true_and, and_self, if_true, if_false, ne_eq, not_false_eq_true, not_true_eq_false, or_false, false_or, or_true, true_or, false_and, and_false, reduceIte, reduceCtorEq, xB, ite_not, xretf_zc, xretf_c, xcont_c, xbd, nI_leI]
        rw [show xD tX9_cover (73, [.ref 77, .int (nI j), .int (nI rg), .int (nI 0), .int (nI 0), .null, .null, .null, .null], [], 0, S0 L (fw I1 86 64 (fun q => nI (if q = 0 then 0 else 9))) J) = _ from s1, hX9_cover_73]
        have t79 : fw I1 86 64 (fun q => nI (A q)) 79 j = nI m := by rw [fw_ne _ _ _ (by decide), q79]; exact z2
        have e2 : fw I1 86 64 (fun q => nI (A q)) 86 (2 ^ m - 1) = nI (A (2 ^ m - 1)) := fw_in _ _ (by omega)
        simp (disch := omega) only [eX9_cover, xRl, xG1, xG2, kAll, rAll, nAll, List.map_nil, List.map_cons, List.sum_nil, List.sum_cons, Nat.reduceAdd, Nat.reduceSub, Nat.reduceMul, Nat.reduceLeDiff, Nat.reduceEqDiff, Nat.reduceLT, and_true, true_and, and_self, if_true, if_false, ne_eq, not_false_eq_true, not_true_eq_false, or_false, false_or, or_true, true_or, false_and, and_false, reduceIte, reduceCtorEq, xB, ite_not, xretf_zc, xretf_c, xcont_c, xbd, nI_leI, nI_neg0, cl_nI, t79, shl1, pk_sub, e2, hbA]
      · have o2 : ∀ c, c ≠ 70 → c ≠ 71 → c ≠ 86 → fw I1 86 64 (fun q => nI (A q)) c = I c := fun c g1 g2 g3 => by rw [fw_ne _ _ _ g3, o1 c g1 g2]
        exact Cp_gen h (fun c hc => o2 c (by omega) (by omega) (by omega)) (by rw [o2 1 (by decide) (by decide) (by decide)]) (by rw [o2 77 (by decide) (by decide) (by decide)]) (by rw [o2 77 (by decide) (by decide) (by decide)]) (by rw [o2 1 (by decide) (by decide) (by decide), o2 77 (by decide) (by decide) (by decide)]; exact h.2.2.2.1)
  · refine ⟨.int (-1), I, J, I, J, ?_, ?_, h⟩
    · rw [fX8_cover]
      simp (disch := omega) only [eX8_cover, xRl, xG1, xG2, kAll, rAll, nAll, List.map_nil, List.map_cons, List.sum_nil, List.sum_cons, Nat.reduceAdd, Nat.reduceSub, Nat.reduceMul, Nat.reduceLeDiff, Nat.reduceEqDiff, Nat.reduceLT, and_true, true_and, and_self, if_true, if_false, ne_eq, not_false_eq_true, not_true_eq_false, or_false, false_or, or_true, true_or, false_and, and_false, reduceIte, reduceCtorEq, xB, ite_not, xretf_zc, xretf_c, xcont_c, xbd, p8_among, hx]
    · rw [fX9_cover]
      by_cases hr : nI 0 ≤ r ∧ r < nI 6
      · simp (disch := omega) only [eX9_cover, xRl, xG1, xG2, kAll, rAll, nAll, List.map_nil, List.map_cons, List.sum_nil, List.sum_cons, Nat.reduceAdd, Nat.reduceSub, Nat.reduceMul, Nat.reduceLeDiff, Nat.reduceEqDiff, Nat.reduceLT, and_true, true_and, and_self, if_true, if_false, ne_eq, not_false_eq_true, not_true_eq_false, or_false, false_or, or_true, true_or, false_and, and_false, reduceIte, reduceCtorEq, xB, ite_not, xretf_zc, xretf_c, xcont_c, xbd, p9_isRow, hr, p9_inL, hx]
      · simp (disch := omega) only [eX9_cover, xRl, xG1, xG2, kAll, rAll, nAll, List.map_nil, List.map_cons, List.sum_nil, List.sum_cons, Nat.reduceAdd, Nat.reduceSub, Nat.reduceMul, Nat.reduceLeDiff, Nat.reduceEqDiff, Nat.reduceLT, and_true, true_and, and_self, if_true, if_false, ne_eq, not_false_eq_true, not_true_eq_false, or_false, false_or, or_true, true_or, false_and, and_false, reduceIte, reduceCtorEq, xB, ite_not, xretf_zc, xretf_c, xcont_c, xbd, p9_isRow, hr]
end CW
