/-! mix, cheap: mixings -/
def mx (s t : Nat) : Nat := 36 * ((s / 36 + t / 36) / 2) + 6 * ((s / 6 % 6 + t / 6 % 6) / 2) + (s % 6 + t % 6) / 2
theorem mx_lt {s t : Nat} (hs : s < 216) (ht : t < 216) : mx s t < 216 := by unfold mx; omega
theorem mx_comm (s t : Nat) : mx s t = mx t s := by unfold mx; rw [Nat.add_comm (s / 36), Nat.add_comm (s / 6 % 6), Nat.add_comm (s % 6)]
theorem mx_self {s : Nat} (hs : s < 216) : mx s s = s := by unfold mx; omega
def upN (v : Nat → Nat) (n x : Nat) : Nat → Nat := fun k => if k = n then x else v k
theorem upN_s (v : Nat → Nat) (n x : Nat) : upN v n x n = x := if_pos rfl
theorem upN_o (v : Nat → Nat) {n k : Nat} (x : Nat) (h : k ≠ n) : upN v n x k = v k := if_neg h
theorem upN_lt {v : Nat → Nat} {n x : Nat} (hv : ∀ k, k < n → v k < 216) (hx : x < 216) : ∀ k, k < n + 1 → upN v n x k < 216 := by
  intro k hk
  by_cases h : k = n
  · rw [h, upN_s]; exact hx
  · rw [upN_o v x h]; exact hv k (by omega)
def Mr : Nat → Nat → (Nat → Nat) → Nat → Prop
  | 0, n, v, s => ∃ k, k < n ∧ v k = s
  | t + 1, n, v, s => ∃ a b, a < n ∧ b < n ∧ Mr t (n + 1) (upN v n (mx (v a) (v b))) s
def Cr : Nat → Nat → (Nat → Nat) → Nat → Prop
  | 0, n, v, s => ∃ k, k < n ∧ v k = s
  | t + 1, n, v, s => ∃ i j, j < i ∧ i < n ∧ Cr t (n + 1) (upN v n (mx (v i) (v j))) s
theorem Mr_sub : ∀ (t : Nat) {n n' : Nat} {v v' : Nat → Nat} {s : Nat}, (∀ k, k < n → ∃ k', k' < n' ∧ v' k' = v k) → Mr t n v s → Mr t n' v' s
  | 0, n, n', v, v', s, h, ⟨k, hk, e⟩ => by
    obtain ⟨k', h1, h2⟩ := h k hk
    exact ⟨k', h1, h2.trans e⟩
  | t + 1, n, n', v, v', s, h, ⟨a, b, ha, hb, hm⟩ => by
    obtain ⟨a', a1, a2⟩ := h a ha
    obtain ⟨b', b1, b2⟩ := h b hb
    refine ⟨a', b', a1, b1, Mr_sub t (fun k hk => ?_) hm⟩
    by_cases hkn : k = n
    · exact ⟨n', Nat.lt_succ_self n', by rw [hkn, upN_s, upN_s, a2, b2]⟩
    · obtain ⟨k', h1, h2⟩ := h k (by omega)
      exact ⟨k', by omega, by rw [upN_o _ _ (by omega), upN_o _ _ hkn, h2]⟩
theorem Cr_Mr : ∀ (t : Nat) {n : Nat} {v : Nat → Nat} {s : Nat}, Cr t n v s → Mr t n v s
  | 0, _, _, _, h => h
  | t + 1, _, _, _, ⟨i, j, h1, h2, h3⟩ => ⟨i, j, h2, by omega, Cr_Mr t h3⟩
theorem Cr_of {W : Nat → Bool} : ∀ (t : Nat) {n : Nat} {v : Nat → Nat}, (∀ k, k < n → v k < 216) → (∀ t', t' < t → ∀ s, W s = true → ¬ Mr t' n v s) → ∀ s, W s = true → Mr t n v s → Cr t n v s
  | 0, _, _, _, _, _, _, h => h
  | t + 1, n, v, hv, hno, s, hs, ⟨a, b, ha, hb, hm⟩ => by
    by_cases e : v a = v b
    · exfalso
      refine hno t (Nat.lt_succ_self t) s hs (Mr_sub t (fun k hk => ?_) hm)
      by_cases hkn : k = n
      · exact ⟨a, ha, by rw [hkn, upN_s, ← e, mx_self (hv a ha)]⟩
      · exact ⟨k, by omega, by rw [upN_o _ _ hkn]⟩
    · have hab : a ≠ b := fun q => e (by rw [q])
      have hx := mx_lt (hv a ha) (hv b hb)
      have h1 := Cr_of t (upN_lt hv hx) (fun t' ht' s' hs' q => hno (t' + 1) (by omega) s' hs' ⟨a, b, ha, hb, q⟩) s hs hm
      rcases Nat.lt_or_gt_of_ne hab with h | h
      · refine ⟨b, a, h, hb, ?_⟩
        rw [mx_comm]; exact h1
      · exact ⟨a, b, h, ha, h1⟩
theorem noC_noM {W : Nat → Bool} {n : Nat} {v : Nat → Nat} (hv : ∀ k, k < n → v k < 216) : ∀ t, (∀ t', t' < t → ∀ s, W s = true → ¬ Cr t' n v s) → ∀ t', t' < t → ∀ s, W s = true → ¬ Mr t' n v s
  | 0, _, t', h, _, _ => absurd h (by omega)
  | t + 1, hno, t', h, s, hs => by
    have ih := noC_noM hv t (fun t' ht' => hno t' (by omega))
    by_cases ht : t' = t
    · subst ht
      intro q
      exact hno t' h s hs (Cr_of t' hv ih s hs q)
    · exact ih t' (by omega) s hs
/-- the least that is so, or none -/
def Lst (Q : Nat → Prop) (x : Int32) : Prop := (x = -9 ∧ ∀ s, ¬ Q s) ∨ ∃ s, s < 216 ∧ x = nI s ∧ Q s ∧ ∀ s', Q s' → s ≤ s'
theorem Lst_congr {Q Q' : Nat → Prop} {x : Int32} (h : Lst Q x) (e : ∀ s, Q s ↔ Q' s) : Lst Q' x := by
  rcases h with ⟨h1, h2⟩ | ⟨s, h1, h2, h3, h4⟩
  · exact Or.inl ⟨h1, fun s q => h2 s ((e s).mpr q)⟩
  · exact Or.inr ⟨s, h1, h2, (e s).mp h3, fun s' q => h4 s' ((e s').mpr q)⟩
def lsr (x y : Int32) : Int32 := if x = -9 then y else if y = -9 then x else if y < x then y else x
theorem lsr_ok {Q Q' : Nat → Prop} {x y : Int32} (h : Lst Q x) (h' : Lst Q' y) : Lst (fun s => Q s ∨ Q' s) (lsr x y) := by
  unfold lsr
  rcases h with ⟨h1, h2⟩ | ⟨s, h1, h2, h3, h4⟩
  · rw [if_pos h1]
    exact Lst_congr h' (fun s => ⟨Or.inr, fun q => q.resolve_left (h2 s)⟩)
  · have n1 : ¬ x = -9 := by rw [h2, n9 (by omega)]; exact id
    rw [if_neg n1]
    rcases h' with ⟨g1, g2⟩ | ⟨u, g1, g2, g3, g4⟩
    · rw [if_pos g1]
      exact Or.inr ⟨s, h1, h2, Or.inl h3, fun s' q => h4 s' (q.resolve_right (g2 s'))⟩
    · have n2 : ¬ y = -9 := by rw [g2, n9 (by omega)]; exact id
      rw [if_neg n2, h2, g2]
      by_cases hlt : u < s
      · rw [if_pos ((nI_ltI (by omega) (by omega)).mpr hlt)]
        exact Or.inr ⟨u, g1, rfl, Or.inr g3, fun s' q => q.elim (fun q => Nat.le_trans (Nat.le_of_lt hlt) (h4 s' q)) (g4 s')⟩
      · rw [if_neg (fun q => hlt ((nI_ltI (by omega) (by omega)).mp q))]
        exact Or.inr ⟨s, h1, rfl, Or.inl h3, fun s' q => q.elim (h4 s') (fun q => Nat.le_trans (Nat.le_of_not_lt hlt) (g4 s' q))⟩
/-- the reference's marks -/
def Dn : Nat → Nat → Nat → (Nat → Nat) → (Nat → Nat) → Prop
  | 0, _, _, _, _ => True
  | r + 1, t, n, v, A => ∀ a b, a < n → b < n → A (mx (v a) (v b)) ≤ t ∧ Dn r (t + 1) (n + 1) (upN v n (mx (v a) (v b))) A
theorem Dn_mono {A A' : Nat → Nat} (h : ∀ s, A' s ≤ A s) : ∀ (r : Nat) {t n : Nat} {v : Nat → Nat}, Dn r t n v A → Dn r t n v A'
  | 0, _, _, _, _ => trivial
  | r + 1, _, _, _, q => fun a b ha hb => ⟨Nat.le_trans (h _) (q a b ha hb).1, Dn_mono h r (q a b ha hb).2⟩
theorem Mr1 {n : Nat} {v : Nat → Nat} {s : Nat} (hv : ∀ k, k < n → v k < 216) (h : Mr 1 n v s) : ∃ a b, a < n ∧ b < n ∧ mx (v a) (v b) = s := by
  obtain ⟨a, b, ha, hb, k, hk, e⟩ := h
  by_cases hkn : k = n
  · rw [hkn, upN_s] at e
    exact ⟨a, b, ha, hb, e⟩
  · rw [upN_o _ _ hkn] at e
    exact ⟨k, k, by omega, by omega, by rw [mx_self (hv k (by omega)), e]⟩
theorem Dn_Mr {A : Nat → Nat} {s : Nat} : ∀ (u r : Nat) {t n : Nat} {v : Nat → Nat}, (∀ k, k < n → v k < 216) → u < r → Dn r t n v A → Mr (u + 1) n v s → A s ≤ t + u
  | _, 0, _, _, _, _, h, _, _ => absurd h (by omega)
  | 0, r + 1, t, n, v, hv, _, hd, hm => by
    obtain ⟨a, b, ha, hb, e⟩ := Mr1 hv hm
    rw [← e]
    exact (hd a b ha hb).1
  | u + 1, r + 1, t, n, v, hv, h, hd, ⟨a, b, ha, hb, hm⟩ => by
    have := Dn_Mr u r (upN_lt hv (mx_lt (hv a ha) (hv b hb))) (by omega) (hd a b ha hb).2 hm
    omega
def Sd (n : Nat) (v : Nat → Nat) (A : Nat → Nat) : Prop := ∀ s, s < 216 → A s ≤ 9 ∧ (A s < 9 → A s ≤ 3 ∧ Mr (A s) n v s)
def mk (A : Nat → Nat) (w t : Nat) : Nat → Nat := upN A w (min t (A w))
theorem mk_le (A : Nat → Nat) (w t s : Nat) : mk A w t s ≤ A s := by
  unfold mk
  by_cases h : s = w
  · rw [h, upN_s]; exact Nat.min_le_right _ _
  · rw [upN_o _ _ h]; exact Nat.le_refl _
theorem mk_at (A : Nat → Nat) (w t : Nat) : mk A w t w ≤ t := by
  unfold mk
  rw [upN_s]; exact Nat.min_le_left _ _
theorem Sd_mk {n : Nat} {v A : Nat → Nat} (h : Sd n v A) {t w : Nat} (ht : t ≤ 3) (hw : w < 216) (hm : Mr t n v w) : Sd n v (mk A w t) := by
  intro s hs
  unfold mk
  by_cases e : s = w
  · subst e
    rw [upN_s]
    rcases Nat.le_total t (A s) with h1 | h1
    · rw [Nat.min_eq_left h1]
      exact ⟨by omega, fun _ => ⟨ht, hm⟩⟩
    · rw [Nat.min_eq_right h1]
      exact h s hs
  · rw [upN_o _ _ e]
    exact h s hs
