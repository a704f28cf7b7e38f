/-! the coupling of class and reference -/
def fl (I : Nat → Nat → Int32) (c lo m : Nat) (v : Int32) : Nat → Nat → Int32 := fun a b => if a = c ∧ lo ≤ b ∧ b < lo + m then v else I a b
theorem fl_0 (I : Nat → Nat → Int32) (c lo : Nat) (v : Int32) : fl I c lo 0 v = I := by
  funext a b
  unfold fl
  rw [if_neg (by omega)]
theorem fl_s (I : Nat → Nat → Int32) (c lo m : Nat) (v : Int32) : xup (fl I c lo m v) c (lo + m) v = fl I c lo (m + 1) v := by
  funext a b
  unfold xup fl
  by_cases h1 : a = c
  · subst h1
    by_cases h2 : b = lo + m
    · subst h2; simp
    · simp only [true_and, if_true, h2, if_false]
      by_cases h3 : lo ≤ b ∧ b < lo + m
      · rw [if_pos h3, if_pos ⟨h3.1, by omega⟩]
      · rw [if_neg h3, if_neg (by omega)]
  · simp [h1]
theorem fl_ne (I : Nat → Nat → Int32) {c a : Nat} (lo m : Nat) (v : Int32) (h : a ≠ c) : fl I c lo m v a = I a := by
  funext b
  unfold fl
  rw [if_neg (fun q => h q.1)]
theorem fl_in (I : Nat → Nat → Int32) {c lo m b : Nat} (v : Int32) (h : lo ≤ b ∧ b < lo + m) : fl I c lo m v c b = v := by
  unfold fl; rw [if_pos ⟨rfl, h⟩]
theorem fl_out (I : Nat → Nat → Int32) {c lo m b : Nat} (v : Int32) (h : ¬ (lo ≤ b ∧ b < lo + m)) : fl I c lo m v c b = I c b := by
  unfold fl; rw [if_neg (fun q => h q.2)]
def CpR (I : Nat → Nat → Int32) : Prop := ∀ j, j < 6 → I (3 + 2 * j) 1 = I 79 j ∧ (I 79 j = -1 ∨ ∃ m, m ≤ 40 ∧ I 79 j = nI m) ∧ ∀ i, i < 40 → I (4 + 2 * j) i = I 80 (40 * j + i)
def CpT (I : Nat → Nat → Int32) : Prop := ∀ t, t < 4 → I (16 + 2 * t) 1 = I 81 t ∧ (I 81 t = -1 ∨ ∃ m, m ≤ 80 ∧ I 81 t = nI m) ∧ ∀ i, i < 80 → I (17 + 2 * t) i = I 82 (80 * t + i)
def CpF (I : Nat → Nat → Int32) : Prop := I 1 9 = I 77 8 ∧ ∀ f, f < 6 → I 76 f = I 83 f
def CpA (I : Nat → Nat → Int32) : Prop := I 1 10 = I 77 5
def CpJ (J : Nat → Nat → Int64) : Prop := J 1 11 = J 77 6 ∧ J 1 12 = J 77 7
def sayN (I : Nat → Nat → Int32) (g i d : Nat) : Nat := cnt (fun j => decide (I (g + 10) j = nI 1)) i (d - i)
def aN (og fa y : Nat) : Nat := if fa = 1 then og / 36 - y else og / 36
abbrev tn (x : Int32) : Nat := x.toNatClampNeg
/-- a name of the class (cell c), and of the reference (k of the registry at o) -/
def NC (I : Nat → Nat → Int32) (c o k yr : Nat) : Prop := (I c 0 = nI (tn (I c 0)) ∧ tn (I c 0) < 6 ∧ I 78 (o + 10 + 7 * k) = I c 0) ∧ (I c 1 = nI (tn (I c 1)) ∧ tn (I c 1) < 216 ∧ I 78 (o + 11 + 7 * k) = nI (tn (I c 1) / 6 % 6) ∧ I 78 (o + 12 + 7 * k) = nI (tn (I c 1) % 6)) ∧ (I c 2 = nI (tn (I c 2)) ∧ tn (I c 2) < 10 ∧ I 78 (o + 13 + 7 * k) = I c 2) ∧ (I c 3 = nI (tn (I c 3)) ∧ tn (I c 3) < 4 ∧ I 78 (o + 14 + 7 * k) = I c 3) ∧ (I c 4 = nI (tn (I c 4)) ∧ tn (I c 4) < 10 ∧ I 78 (o + 15 + 7 * k) = I c 4) ∧ (I c 5 = nI (tn (I c 5)) ∧ tn (I c 5) < 2 ∧ I 78 (o + 16 + 7 * k) = I c 5) ∧ I 78 (o + 2 + k) = nI (aN (tn (I c 1)) (tn (I c 5)) yr)
/-- truth values of a registry -/
def BW (I : Nat → Nat → Int32) (g : Nat) : Prop := (∀ i, i < 40 → I (g + 10) i = nI 0 ∨ I (g + 10) i = nI 1) ∧ ∀ k, k < 8 → I (g + 2 + k) 5 = nI 0 ∨ I (g + 2 + k) 5 = nI 1
theorem BW_up {I I2 : Nat → Nat → Int32} {g : Nat} (h : BW I g) (e : ∀ i, i < 40 → I2 (g + 10) i = I (g + 10) i) (e2 : ∀ k, k < 8 → I2 (g + 2 + k) 5 = I (g + 2 + k) 5) : BW I2 g :=
  ⟨fun i hi => by rw [e i hi]; exact h.1 i hi, fun k hk => by rw [e2 k hk]; exact h.2 k hk⟩
theorem BW_of {I I2 : Nat → Nat → Int32} {g : Nat} (h : BW I g) (e : ∀ c, g ≤ c ∧ c ≤ g + 10 → I2 c = I c) : BW I2 g :=
  BW_up h (fun i _ => by rw [e (g + 10) (by omega)]) (fun k hk => by rw [e (g + 2 + k) (by omega)])
/-- a registry of the class (cell g), and of the reference (from o on in its row) -/
def RC (I : Nat → Nat → Int32) (g o n d yr : Nat) : Prop := (n ≤ 8 ∧ d ≤ 40 ∧ I g 1 = nI n ∧ I g 3 = nI d ∧ I g 4 = nI yr ∧ I 78 o = nI d ∧ I 78 (o + 1) = nI n) ∧ BW I g ∧ (yr + sayN I g 0 d = d ∧ (sayN I g 0 d < n ∨ d = 0)) ∧ (∀ k, k < n → NC I (g + 2 + k) o k yr) ∧ ∀ i, i < d → I 78 (o + 66 + 9 * i) = nI (n - sayN I g i d) ∧ ∀ k, k < n - sayN I g i d → I 78 (o + 67 + 9 * i + k) = nI (aN (tn (I (g + 2 + k) 1)) (tn (I (g + 2 + k) 5)) (yr - (d - i - sayN I g i d)))
def CpK (I : Nat → Nat → Int32) : Prop := ∀ k, k < 3 → (I (36 + 11 * k) 1 = nI 0 ∧ I 78 (426 * (1 + k)) = -1 ∧ BW I (36 + 11 * k)) ∨ ∃ n d yr, 0 < n ∧ RC I (36 + 11 * k) (426 * (1 + k)) n d yr
def CpG (I : Nat → Nat → Int32) : Prop := (∃ n d yr, RC I 24 0 n d yr) ∧ CpK I
def Cp (I : Nat → Nat → Int32) (J : Nat → Nat → Int64) : Prop := CpR I ∧ CpT I ∧ CpF I ∧ CpA I ∧ CpJ J ∧ I 77 15 = nI 0 ∧ CpG I
theorem CpR_of {I I2 : Nat → Nat → Int32} (h : CpR I) (e : ∀ c, (3 ≤ c ∧ c ≤ 14) ∨ c = 79 ∨ c = 80 → I2 c = I c) : CpR I2 := by
  intro j hj
  rw [e (3 + 2 * j) (by omega), e (4 + 2 * j) (by omega), e 79 (by omega), e 80 (by omega)]
  exact h j hj
theorem CpT_of {I I2 : Nat → Nat → Int32} (h : CpT I) (e : ∀ c, (16 ≤ c ∧ c ≤ 23) ∨ c = 81 ∨ c = 82 → I2 c = I c) : CpT I2 := by
  intro j hj
  rw [e (16 + 2 * j) (by omega), e (17 + 2 * j) (by omega), e 81 (by omega), e 82 (by omega)]
  exact h j hj
theorem NC_of {I I2 : Nat → Nat → Int32} {c o k yr : Nat} (h : NC I c o k yr) (e1 : I2 c = I c) (e2 : I2 78 = I 78) : NC I2 c o k yr := by
  unfold NC at h ⊢
  rw [e1, e2]
  exact h
theorem RC_of {I I2 : Nat → Nat → Int32} {g o n d yr : Nat} (h : RC I g o n d yr) (e : ∀ c, g ≤ c ∧ c ≤ g + 10 → I2 c = I c) (e2 : I2 78 = I 78) : RC I2 g o n d yr := by
  have es : ∀ i, sayN I2 g i d = sayN I g i d := fun i => by unfold sayN; rw [e (g + 10) (by omega)]
  obtain ⟨h1, h2, h3, h4, h5⟩ := h
  refine ⟨by rw [e g (by omega), e2]; exact h1, BW_of h2 e, by rw [es]; exact h3, fun k hk => NC_of (h4 k hk) (e _ (by omega)) e2, fun i hi => ?_⟩
  rw [es, e2]
  refine ⟨(h5 i hi).1, fun k hk => ?_⟩
  rw [e (g + 2 + k) (by have := h1.1; omega)]
  exact (h5 i hi).2 k hk
theorem CpG_of {I I2 : Nat → Nat → Int32} (h : CpG I) (e : ∀ c, (24 ≤ c ∧ c ≤ 68) ∨ c = 78 → I2 c = I c) : CpG I2 := by
  obtain ⟨⟨n, d, yr, h1⟩, h2⟩ := h
  refine ⟨⟨n, d, yr, RC_of h1 (fun c hc => e c (by omega)) (e 78 (by omega))⟩, fun k hk => ?_⟩
  rcases h2 k hk with ⟨g1, g2⟩ | ⟨n, d, yr, g1, g2⟩
  · exact Or.inl ⟨by rw [e _ (by omega)]; exact g1, by rw [e 78 (by omega)]; exact g2.1, BW_of g2.2 (fun c hc => e c (by omega))⟩
  · exact Or.inr ⟨n, d, yr, g1, RC_of g2 (fun c hc => e c (by omega)) (e 78 (by omega))⟩
/-- what the registry's coupling gives for the methods -/
theorem RC_M {I : Nat → Nat → Int32} {n d yr : Nat} (h : RC I 24 0 n d yr) : Mok I n ∧ Cok I n yr ∧ ∀ k, k < n → (mKd I k = cv I k 0 ∧ mRg I k = cv I k 2 ∧ mOw I k = cv I k 3 ∧ mDu I k = cv I k 4 ∧ mFa I k = cv I k 5) ∧ ∀ y, shM I y k = shC I yr y k := by
  obtain ⟨⟨a1, a2, a3, a4, a5, a6, a7⟩, b, ⟨c1, c2⟩, hN, hP⟩ := h
  have hyr : yr ≤ 40 := by omega
  have hx : ∀ k, k < n → ((I 78 (2 + k) = nI (mA I k) ∧ mA I k < 6) ∧ (I 78 (10 + 7 * k) = nI (mKd I k) ∧ mKd I k < 6) ∧ (I 78 (11 + 7 * k) = nI (mB I k) ∧ mB I k < 6) ∧ (I 78 (12 + 7 * k) = nI (mC I k) ∧ mC I k < 6) ∧ (I 78 (13 + 7 * k) = nI (mRg I k) ∧ mRg I k < 10) ∧ (I 78 (14 + 7 * k) = nI (mOw I k) ∧ mOw I k < 4) ∧ (I 78 (15 + 7 * k) = nI (mDu I k) ∧ mDu I k < 10) ∧ (I 78 (16 + 7 * k) = nI (mFa I k) ∧ mFa I k < 2)) ∧ ((I (26 + k) 0 = nI (cv I k 0) ∧ cv I k 0 < 6) ∧ (I (26 + k) 1 = nI (cv I k 1) ∧ cv I k 1 < 216) ∧ (I (26 + k) 2 = nI (cv I k 2) ∧ cv I k 2 < 10) ∧ (I (26 + k) 3 = nI (cv I k 3) ∧ cv I k 3 < 4) ∧ (I (26 + k) 4 = nI (cv I k 4) ∧ cv I k 4 < 10) ∧ (I (26 + k) 5 = nI (cv I k 5) ∧ cv I k 5 < 2)) ∧ (mKd I k = cv I k 0 ∧ mRg I k = cv I k 2 ∧ mOw I k = cv I k 3 ∧ mDu I k = cv I k 4 ∧ mFa I k = cv I k 5) ∧ ∀ y, shM I y k = shC I yr y k := by
    intro k hk
    have hN1 := hN k hk
    unfold NC at hN1
    simp only [Nat.zero_add] at hN1
    rw [show 24 + 2 + k = 26 + k by omega] at hN1
    obtain ⟨⟨p1, p2, p3⟩, ⟨q1, q2, q3, q4⟩, ⟨r1, r2, r3⟩, ⟨s1, s2, s3⟩, ⟨t1, t2, t3⟩, ⟨u1, u2, u3⟩, v1⟩ := hN1
    have hog : tn (I (26 + k) 1) < 216 := q2
    have haN : aN (tn (I (26 + k) 1)) (tn (I (26 + k) 5)) yr < 6 := by unfold aN; split <;> omega
    have eA : mA I k = aN (tn (I (26 + k) 1)) (tn (I (26 + k) 5)) yr := by unfold mA mv; rw [v1, cl_nI (by omega)]
    have eB : mB I k = tn (I (26 + k) 1) / 6 % 6 := by unfold mB mv; rw [q3, cl_nI (by omega)]
    have eC : mC I k = tn (I (26 + k) 1) % 6 := by unfold mC mv; rw [q4, cl_nI (by omega)]
    have e1 : mKd I k = cv I k 0 := by unfold mKd mv; rw [p3]
    have e2 : mRg I k = cv I k 2 := by unfold mRg mv; rw [r3]
    have e3 : mOw I k = cv I k 3 := by unfold mOw mv; rw [s3]
    have e4 : mDu I k = cv I k 4 := by unfold mDu mv; rw [t3]
    have e5 : mFa I k = cv I k 5 := by unfold mFa mv; rw [u3]
    refine ⟨⟨⟨by rw [eA]; exact v1, by rw [eA]; exact haN⟩, ⟨by rw [e1, p3]; exact p1, by rw [e1]; exact p2⟩, ⟨by rw [eB]; exact q3, by rw [eB]; omega⟩, ⟨by rw [eC]; exact q4, by rw [eC]; omega⟩, ⟨by rw [e2, r3]; exact r1, by rw [e2]; exact r2⟩, ⟨by rw [e3, s3]; exact s1, by rw [e3]; exact s2⟩, ⟨by rw [e4, t3]; exact t1, by rw [e4]; exact t2⟩, ⟨by rw [e5, u3]; exact u1, by rw [e5]; exact u2⟩⟩, ⟨⟨p1, p2⟩, ⟨q1, q2⟩, ⟨r1, r2⟩, ⟨s1, s2⟩, ⟨t1, t2⟩, ⟨u1, u2⟩⟩, ⟨e1, e2, e3, e4, e5⟩, fun y => ?_⟩
    unfold shM shC
    rw [eA, eB, eC, e5]
    unfold aN
    have hf : tn (I (26 + k) 5) = cv I k 5 := rfl
    have ho : tn (I (26 + k) 1) = cv I k 1 := rfl
    rw [hf, ho]
    by_cases h5 : cv I k 5 = 1
    · simp only [h5, if_true]
      rw [Nat.sub_sub]
    · simp only [h5, if_false, Nat.sub_zero]
      rw [ho] at hog
      omega
  exact ⟨⟨a1, by simpa using a7, fun k hk => (hx k hk).1⟩, ⟨a1, a3, a5, hyr, fun k hk => (hx k hk).2.1⟩, fun k hk => (hx k hk).2.2⟩
theorem RC_rc {I : Nat → Nat → Int32} {n d yr : Nat} (h : RC I 24 0 n d yr) (y s k : Nat) (hk : k < n) : rcM I y s k = rcC I yr y s k := by
  obtain ⟨⟨e1, e2, -⟩, e3⟩ := (RC_M h).2.2 k hk
  unfold rcM rcC
  rw [e1, e2, e3 y]
