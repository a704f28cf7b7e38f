/-! what a table's run comes to, as a function; a step is an equation -/
theorem xrun_up {tab : List (Nat × xO)} : ∀ {n m : Nat} {fr : xF} {r : xR}, xrun tab n fr = some r → n ≤ m → xrun tab m fr = some r
  | 0, _, _, _, h, _ => by cases h
  | n + 1, 0, _, _, _, h => absurd h (by omega)
  | n + 1, m + 1, fr, r, h, hl => by
    simp only [xrun] at h ⊢
    cases ho : (tab.lookup fr.1).bind (fun op => op fr) with
    | none => rw [ho] at h; cases h
    | some o =>
      rw [ho] at h
      cases o with
      | inl fr' => exact xrun_up (n := n) (m := m) h (by omega)
      | inr r' => exact h
theorem xrun_one {tab : List (Nat × xO)} {n m : Nat} {fr : xF} {r r' : xR} (h : xrun tab n fr = some r) (h' : xrun tab m fr = some r') : r = r' := by
  have h1 := xrun_up h (Nat.le_max_left n m)
  have h2 := xrun_up h' (Nat.le_max_right n m)
  exact Option.some.inj (h1.symm.trans h2)
noncomputable def xD (tab : List (Nat × xO)) (fr : xF) : Option xR := by
  classical
  exact if h : ∃ r, ∃ n, xrun tab n fr = some r then some h.choose else none
theorem xD_some {tab : List (Nat × xO)} {fr : xF} {r : xR} : xD tab fr = some r ↔ ∃ n, xrun tab n fr = some r := by
  classical
  unfold xD
  constructor
  · intro h
    split at h
    · rename_i hx
      cases h
      exact hx.choose_spec
    · cases h
  · rintro ⟨n, hn⟩
    have hx : ∃ r, ∃ n, xrun tab n fr = some r := ⟨r, n, hn⟩
    rw [dif_pos hx]
    obtain ⟨m, hm⟩ := hx.choose_spec
    rw [xrun_one hm hn]
noncomputable def xnx (tab : List (Nat × xO)) (o : Option (xF ⊕ xR)) : Option xR := match o with
  | none => none
  | some (.inl fr) => xD tab fr
  | some (.inr r) => some r
theorem xD_step (tab : List (Nat × xO)) (fr : xF) : xD tab fr = xnx tab ((tab.lookup fr.1).bind (fun op => op fr)) := by
  have key : ∀ r, xD tab fr = some r ↔ xnx tab ((tab.lookup fr.1).bind (fun op => op fr)) = some r := by
    intro r
    rw [xD_some]
    cases ho : (tab.lookup fr.1).bind (fun op => op fr) with
    | none =>
      constructor
      · rintro ⟨n, hn⟩
        cases n with
        | zero => cases hn
        | succ n => simp only [xrun, ho] at hn; cases hn
      · intro h; cases h
    | some o =>
      cases o with
      | inl fr' =>
        show _ ↔ xD tab fr' = some r
        rw [xD_some]
        constructor
        · rintro ⟨n, hn⟩
          cases n with
          | zero => cases hn
          | succ n => simp only [xrun, ho] at hn; exact ⟨n, hn⟩
        · rintro ⟨n, hn⟩
          exact ⟨n + 1, by simp only [xrun, ho]; exact hn⟩
      | inr r' =>
        show _ ↔ some r' = some r
        constructor
        · rintro ⟨n, hn⟩
          cases n with
          | zero => cases hn
          | succ n => simp only [xrun, ho] at hn; exact hn
        · intro h
          exact ⟨1, by simp only [xrun, ho]; exact h⟩
  cases h : xnx tab ((tab.lookup fr.1).bind (fun op => op fr)) with
  | none =>
    cases h2 : xD tab fr with
    | none => rfl
    | some r => rw [(key r).mp h2] at h; cases h
  | some r => exact (key r).mpr h
theorem xD_at {tab : List (Nat × xO)} {pc : Nat} {op : xO} (h : tab.lookup pc = some op) (lv st : List Value) (al : Nat) (σ : xS) : xD tab (pc, lv, st, al, σ) = xnx tab (op (pc, lv, st, al, σ)) := by
  rw [xD_step]
  show xnx tab ((tab.lookup pc).bind _) = _
  rw [h]
  rfl
def xretb (ret : Option FieldType) (r : Option Value) : Bool := match ret, r with
  | none, none => true
  | some .int, some (.int _) => true
  | some .long, some (.long _) => true
  | some .boolean, some (.int v) => decide (v = 0) || decide (v = 1)
  | some .char, some (.int v) => decide (narrow .char (.int v) = .int v)
  | some .byte, some (.int v) => decide (narrow .byte (.int v) = .int v)
  | some (.object _), some (.ref _) => true
  | _, _ => false
theorem xretb_ok {ret : Option FieldType} {r : Option Value} (h : xretb ret r = true) : xret ret r := by
  unfold xretb at h
  split at h <;> first | trivial | (simp at h; done) | (simpa [xret] using h)
noncomputable def xden (tab : List (Nat × xO)) (maxL : Nat) (ret : Option FieldType) (mc : Nat) (As : List Value) (σ : xS) : Option xR :=
  if (xin As).length ≤ maxL then
    match xD tab (0, xlin As maxL, [], mc, σ) with
    | some r => if xretb ret r.1 = true then some r else none
    | none => none
  else none
theorem x_den {l : Launch} {y : MethodName} {b : ByteArray} {maxL : Nat} {ret : Option FieldType} {d mc : Nat} {tab : List (Nat × xO)} (hy : plainName y.cls = true) (ht : ∀ q ∈ tab, xOK l b y.cls maxL d mc (y.name = "<init>") q.1 q.2) : xSound l y b maxL ret d mc (xden tab maxL ret mc) := by
  refine x_met hy ht (fun As σ r h => ?_)
  unfold xden at h
  split at h
  · rename_i h1
    split at h
    · rename_i r' h2
      split at h
      · rename_i h3
        cases h
        exact ⟨h1, xretb_ok h3, xD_some.mp h2⟩
      · cases h
    · cases h
  · cases h
theorem x_dead {l : Launch} {y : MethodName} {b : ByteArray} {maxL : Nat} {ret : Option FieldType} {d mc : Nat} : xSound l y b maxL ret d mc (fun _ _ => none) := fun _ _ _ _ _ _ _ h => by cases h
