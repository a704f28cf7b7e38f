/-! no method of the class touches the script (a cell of kind 16) -/
def Qs (σ σ' : xS) : Prop := xKd σ' = xKd σ ∧ ∀ c, xKd σ c = 16 → xIn σ' c = xIn σ c
theorem Qs_r (σ : xS) : Qs σ σ := ⟨rfl, fun _ _ => rfl⟩
theorem Qs_t {a b c : xS} (h : Qs a b) (h2 : Qs b c) : Qs a c := ⟨h2.1.trans h.1, fun k hk => (h2.2 k (by rw [h.1]; exact hk)).trans (h.2 k hk)⟩
theorem Qs_u {σ : xS} {c : Nat} (h : xKd σ c ≠ 16) (k : Nat) (x : Int32) (J : Nat → Nat → Int64) : Qs σ (σ.1, xup σ.2.1 c k x, J) := ⟨rfl, fun a ha => xup_ne _ _ _ (fun q => h (q ▸ ha))⟩
def PO (o : xO) : Prop := ∀ fr, (∀ fr', o fr = some (.inl fr') → Qs fr.2.2.2.2 fr'.2.2.2.2) ∧ ∀ r, o fr = some (.inr r) → Qs fr.2.2.2.2 r.2
def PF (f : List Value → xS → Option xR) : Prop := ∀ as σ r, f as σ = some r → Qs σ r.2
theorem PO_run {tab : List (Nat × xO)} (h : ∀ q ∈ tab, PO q.2) : ∀ n fr r, xrun tab n fr = some r → Qs fr.2.2.2.2 r.2
  | 0, _, _, e => by cases e
  | n + 1, fr, r, e => by
    simp only [xrun] at e
    cases hl : tab.lookup fr.1 with
    | none => rw [hl] at e; cases e
    | some op =>
      rw [hl] at e
      have hm : ∃ q ∈ tab, q.2 = op := by
        have : ∀ (t : List (Nat × xO)), t.lookup fr.1 = some op → ∃ q ∈ t, q.2 = op := by
          intro t
          induction t with
          | nil => intro h; cases h
          | cons q t ih =>
            obtain ⟨a, b⟩ := q
            intro hq
            rw [List.lookup_cons] at hq
            split at hq
            · exact ⟨(a, b), List.mem_cons_self, Option.some.inj hq⟩
            · obtain ⟨q, h1, h2⟩ := ih hq
              exact ⟨q, List.mem_cons_of_mem _ h1, h2⟩
        exact this tab hl
      obtain ⟨q, hq, rfl⟩ := hm
      have hp := h q hq fr
      have e : (match q.2 fr with | none => none | some (.inl fr') => xrun tab n fr' | some (.inr r') => some r') = some r := e
      cases ho : q.2 fr with
      | none => rw [ho] at e; cases e
      | some o =>
        rw [ho] at e
        cases o with
        | inl fr' => exact Qs_t (hp.1 fr' ho) (PO_run h n fr' r e)
        | inr r' =>
          have e : some r' = some r := e
          injection e with e
          subst e
          exact hp.2 r' ho
theorem PF_den {tab : List (Nat × xO)} {maxL : Nat} {ret : Option FieldType} {mc : Nat} (h : ∀ q ∈ tab, PO q.2) : PF (xden tab maxL ret mc) := by
  intro as σ r e
  unfold xden at e
  split at e
  · split at e
    · rename_i r' hr
      split at e
      · injection e with e
        subst e
        obtain ⟨n, hn⟩ := xD_some.mp hr
        exact PO_run h n _ _ hn
      · cases e
    · cases e
  · cases e
theorem po_n : ∀ q ∈ ([] : List (Nat × xO)), PO q.2 := fun _ h => by cases h
theorem po_c {pc : Nat} {o : xO} {t : List (Nat × xO)} (h : PO o) (h2 : ∀ q ∈ t, PO q.2) : ∀ q ∈ (pc, o) :: t, PO q.2 := List.forall_mem_cons.mpr ⟨h, h2⟩
theorem po_push (v : Value) (n : Nat) : PO (x_push v n) := by
  rintro ⟨pc, lv, st, al, σ⟩
  constructor
  all_goals
    intro r h
    simp only [x_push] at h
    repeat' split at h
    all_goals first | (cases h; exact Qs_r _) | cases h
theorem po_iload (i n : Nat) : PO (x_iload i n) := by
  rintro ⟨pc, lv, st, al, σ⟩
  constructor
  all_goals
    intro r h
    simp only [x_iload] at h
    repeat' split at h
    all_goals first | (cases h; exact Qs_r _) | cases h
theorem po_lload (i n : Nat) : PO (x_lload i n) := by
  rintro ⟨pc, lv, st, al, σ⟩
  constructor
  all_goals
    intro r h
    simp only [x_lload] at h
    repeat' split at h
    all_goals first | (cases h; exact Qs_r _) | cases h
theorem po_aload (i n : Nat) : PO (x_aload i n) := by
  rintro ⟨pc, lv, st, al, σ⟩
  constructor
  all_goals
    intro r h
    simp only [x_aload] at h
    repeat' split at h
    all_goals first | (cases h; exact Qs_r _) | cases h
theorem po_istore (i n : Nat) : PO (x_istore i n) := by
  rintro ⟨pc, lv, st, al, σ⟩
  constructor
  all_goals
    intro r h
    simp only [x_istore] at h
    repeat' split at h
    all_goals first | (cases h; exact Qs_r _) | cases h
theorem po_lstore (i n : Nat) : PO (x_lstore i n) := by
  rintro ⟨pc, lv, st, al, σ⟩
  constructor
  all_goals
    intro r h
    simp only [x_lstore] at h
    repeat' split at h
    all_goals first | (cases h; exact Qs_r _) | cases h
theorem po_astore (i n : Nat) : PO (x_astore i n) := by
  rintro ⟨pc, lv, st, al, σ⟩
  constructor
  all_goals
    intro r h
    simp only [x_astore] at h
    repeat' split at h
    all_goals first | (cases h; exact Qs_r _) | cases h
theorem po_iinc (i : Nat) (k : Int32) : PO (x_iinc i k) := by
  rintro ⟨pc, lv, st, al, σ⟩
  constructor
  all_goals
    intro r h
    simp only [x_iinc] at h
    repeat' split at h
    all_goals first | (cases h; exact Qs_r _) | cases h
theorem po_ii (g : Int32 → Int32 → Int32) : PO (x_ii g) := by
  rintro ⟨pc, lv, st, al, σ⟩
  constructor
  all_goals
    intro r h
    simp only [x_ii] at h
    repeat' split at h
    all_goals first | (cases h; exact Qs_r _) | cases h
theorem po_i (g : Int32 → Int32) : PO (x_i g) := by
  rintro ⟨pc, lv, st, al, σ⟩
  constructor
  all_goals
    intro r h
    simp only [x_i] at h
    repeat' split at h
    all_goals first | (cases h; exact Qs_r _) | cases h
theorem po_idiv : PO (x_idiv) := by
  rintro ⟨pc, lv, st, al, σ⟩
  constructor
  all_goals
    intro r h
    simp only [x_idiv] at h
    repeat' split at h
    all_goals first | (cases h; exact Qs_r _) | cases h
theorem po_irem : PO (x_irem) := by
  rintro ⟨pc, lv, st, al, σ⟩
  constructor
  all_goals
    intro r h
    simp only [x_irem] at h
    repeat' split at h
    all_goals first | (cases h; exact Qs_r _) | cases h
theorem po_ll (g : Int64 → Int64 → Int64) : PO (x_ll g) := by
  rintro ⟨pc, lv, st, al, σ⟩
  constructor
  all_goals
    intro r h
    simp only [x_ll] at h
    repeat' split at h
    all_goals first | (cases h; exact Qs_r _) | cases h
theorem po_ldiv : PO (x_ldiv) := by
  rintro ⟨pc, lv, st, al, σ⟩
  constructor
  all_goals
    intro r h
    simp only [x_ldiv] at h
    repeat' split at h
    all_goals first | (cases h; exact Qs_r _) | cases h
theorem po_lrem : PO (x_lrem) := by
  rintro ⟨pc, lv, st, al, σ⟩
  constructor
  all_goals
    intro r h
    simp only [x_lrem] at h
    repeat' split at h
    all_goals first | (cases h; exact Qs_r _) | cases h
theorem po_lcmp : PO (x_lcmp) := by
  rintro ⟨pc, lv, st, al, σ⟩
  constructor
  all_goals
    intro r h
    simp only [x_lcmp] at h
    repeat' split at h
    all_goals first | (cases h; exact Qs_r _) | cases h
theorem po_i2l : PO (x_i2l) := by
  rintro ⟨pc, lv, st, al, σ⟩
  constructor
  all_goals
    intro r h
    simp only [x_i2l] at h
    repeat' split at h
    all_goals first | (cases h; exact Qs_r _) | cases h
theorem po_l2i : PO (x_l2i) := by
  rintro ⟨pc, lv, st, al, σ⟩
  constructor
  all_goals
    intro r h
    simp only [x_l2i] at h
    repeat' split at h
    all_goals first | (cases h; exact Qs_r _) | cases h
theorem po_dup : PO (x_dup) := by
  rintro ⟨pc, lv, st, al, σ⟩
  constructor
  all_goals
    intro r h
    simp only [x_dup] at h
    repeat' split at h
    all_goals first | (cases h; exact Qs_r _) | cases h
theorem po_dup2 : PO (x_dup2) := by
  rintro ⟨pc, lv, st, al, σ⟩
  constructor
  all_goals
    intro r h
    simp only [x_dup2] at h
    repeat' split at h
    all_goals first | (cases h; exact Qs_r _) | cases h
theorem po_goto (t : Nat) : PO (x_goto t) := by
  rintro ⟨pc, lv, st, al, σ⟩
  constructor
  all_goals
    intro r h
    simp only [x_goto] at h
    repeat' split at h
    all_goals first | (cases h; exact Qs_r _) | cases h
theorem po_br1 (f : Int32 → Bool) (t : Nat) : PO (x_br1 f t) := by
  rintro ⟨pc, lv, st, al, σ⟩
  constructor
  all_goals
    intro r h
    simp only [x_br1] at h
    repeat' split at h
    all_goals first | (cases h; exact Qs_r _) | cases h
theorem po_br2 (f : Int32 → Int32 → Bool) (t : Nat) : PO (x_br2 f t) := by
  rintro ⟨pc, lv, st, al, σ⟩
  constructor
  all_goals
    intro r h
    simp only [x_br2] at h
    repeat' split at h
    all_goals first | (cases h; exact Qs_r _) | cases h
theorem po_vret : PO (x_vret) := by
  rintro ⟨pc, lv, st, al, σ⟩
  constructor
  all_goals
    intro r h
    simp only [x_vret] at h
    repeat' split at h
    all_goals first | (cases h; exact Qs_r _) | cases h
theorem po_iret : PO (x_iret) := by
  rintro ⟨pc, lv, st, al, σ⟩
  constructor
  all_goals
    intro r h
    simp only [x_iret] at h
    repeat' split at h
    all_goals first | (cases h; exact Qs_r _) | cases h
theorem po_lret : PO (x_lret) := by
  rintro ⟨pc, lv, st, al, σ⟩
  constructor
  all_goals
    intro r h
    simp only [x_lret] at h
    repeat' split at h
    all_goals first | (cases h; exact Qs_r _) | cases h
theorem po_aret : PO (x_aret) := by
  rintro ⟨pc, lv, st, al, σ⟩
  constructor
  all_goals
    intro r h
    simp only [x_aret] at h
    repeat' split at h
    all_goals first | (cases h; exact Qs_r _) | cases h
theorem po_getI (ci k : Nat) : PO (x_getI ci k) := by
  rintro ⟨pc, lv, st, al, σ⟩
  constructor
  all_goals
    intro r h
    simp only [x_getI] at h
    repeat' split at h
    all_goals first | (cases h; exact Qs_r _) | cases h
theorem po_getL (ci k : Nat) : PO (x_getL ci k) := by
  rintro ⟨pc, lv, st, al, σ⟩
  constructor
  all_goals
    intro r h
    simp only [x_getL] at h
    repeat' split at h
    all_goals first | (cases h; exact Qs_r _) | cases h
theorem po_getR (ci k : Nat) : PO (x_getR ci k) := by
  rintro ⟨pc, lv, st, al, σ⟩
  constructor
  all_goals
    intro r h
    simp only [x_getR] at h
    repeat' split at h
    all_goals first | (cases h; exact Qs_r _) | cases h
theorem po_iald : PO (x_iald) := by
  rintro ⟨pc, lv, st, al, σ⟩
  constructor
  all_goals
    intro r h
    simp only [x_iald] at h
    repeat' split at h
    all_goals first | (cases h; exact Qs_r _) | cases h
theorem po_bald : PO (x_bald) := by
  rintro ⟨pc, lv, st, al, σ⟩
  constructor
  all_goals
    intro r h
    simp only [x_bald] at h
    repeat' split at h
    all_goals first | (cases h; exact Qs_r _) | cases h
theorem po_aald : PO (x_aald) := by
  rintro ⟨pc, lv, st, al, σ⟩
  constructor
  all_goals
    intro r h
    simp only [x_aald] at h
    repeat' split at h
    all_goals first | (cases h; exact Qs_r _) | cases h
theorem po_alen : PO (x_alen) := by
  rintro ⟨pc, lv, st, al, σ⟩
  constructor
  all_goals
    intro r h
    simp only [x_alen] at h
    repeat' split at h
    all_goals first | (cases h; exact Qs_r _) | cases h
theorem po_max : PO (x_max) := by
  rintro ⟨pc, lv, st, al, σ⟩
  constructor
  all_goals
    intro r h
    simp only [x_max] at h
    repeat' split at h
    all_goals first | (cases h; exact Qs_r _) | cases h
theorem po_min : PO (x_min) := by
  rintro ⟨pc, lv, st, al, σ⟩
  constructor
  all_goals
    intro r h
    simp only [x_min] at h
    repeat' split at h
    all_goals first | (cases h; exact Qs_r _) | cases h
theorem po_abs : PO (x_abs) := by
  rintro ⟨pc, lv, st, al, σ⟩
  constructor
  all_goals
    intro r h
    simp only [x_abs] at h
    repeat' split at h
    all_goals first | (cases h; exact Qs_r _) | cases h
theorem po_tald : PO (x_tald) := by
  rintro ⟨pc, lv, st, al, σ⟩
  constructor
  all_goals
    intro r h
    simp only [x_tald] at h
    repeat' split at h
    all_goals first | (cases h; exact Qs_r _) | cases h
theorem po_tbald : PO (x_tbald) := by
  rintro ⟨pc, lv, st, al, σ⟩
  constructor
  all_goals
    intro r h
    simp only [x_tbald] at h
    repeat' split at h
    all_goals first | (cases h; exact Qs_r _) | cases h
theorem po_tblen : PO (x_tblen) := by
  rintro ⟨pc, lv, st, al, σ⟩
  constructor
  all_goals
    intro r h
    simp only [x_tblen] at h
    repeat' split at h
    all_goals first | (cases h; exact Qs_r _) | cases h
theorem po_strV : PO (x_strV) := by
  rintro ⟨pc, lv, st, al, σ⟩
  constructor
  all_goals
    intro r h
    simp only [x_strV] at h
    repeat' split at h
    all_goals first | (cases h; exact Qs_r _) | cases h
theorem po_strC : PO (x_strC) := by
  rintro ⟨pc, lv, st, al, σ⟩
  constructor
  all_goals
    intro r h
    simp only [x_strC] at h
    repeat' split at h
    all_goals first | (cases h; exact Qs_r _) | cases h
theorem po_chk : PO (x_chk) := by
  rintro ⟨pc, lv, st, al, σ⟩
  constructor
  all_goals
    intro r h
    simp only [x_chk] at h
    repeat' split at h
    all_goals first | (cases h; exact Qs_r _) | cases h
theorem po_switch (cs : List (Int32 × Nat)) (d : Nat) : PO (x_switch cs d) := by
  rintro ⟨pc, lv, st, al, σ⟩
  constructor
  all_goals
    intro r h
    simp only [x_switch, x_swf_eq] at h
    repeat' split at h
    all_goals first | (cases h; exact Qs_r _) | cases h
theorem po_putI {ci : Nat} (k : Nat) (hc : ci < 8) : PO (x_putI ci k) := by
  rintro ⟨pc, lv, st, al, σ⟩
  constructor
  all_goals
    intro r h
    simp only [x_putI] at h
    repeat' split at h
    all_goals first | (rename_i hk; cases h; exact Qs_u (σ := σ) (fun q => absurd (hk.symm.trans q) (by omega)) _ _ _) | cases h
theorem po_putZ {ci : Nat} (k : Nat) (hc : ci < 8) : PO (x_putZ ci k) := by
  rintro ⟨pc, lv, st, al, σ⟩
  constructor
  all_goals
    intro r h
    simp only [x_putZ] at h
    repeat' split at h
    all_goals first | (rename_i hk; cases h; exact Qs_u (σ := σ) (fun q => absurd (hk.1.symm.trans q) (by omega)) _ _ _) | cases h
theorem po_putL {ci : Nat} (k : Nat) : PO (x_putL ci k) := by
  rintro ⟨pc, lv, st, al, σ⟩
  constructor
  all_goals
    intro r h
    simp only [x_putL] at h
    repeat' split at h
    all_goals first | (cases h; exact ⟨rfl, fun _ _ => rfl⟩) | cases h
theorem po_iast : PO x_iast := by
  rintro ⟨pc, lv, st, al, σ⟩
  constructor
  all_goals
    intro r h
    simp only [x_iast] at h
    repeat' split at h
    all_goals first | (rename_i hk; cases h; exact Qs_u (σ := σ) (fun q => absurd (hk.1.symm.trans q) (by omega)) _ _ _) | cases h
theorem po_bastB : PO x_bastB := by
  rintro ⟨pc, lv, st, al, σ⟩
  constructor
  all_goals
    intro r h
    simp only [x_bastB] at h
    repeat' split at h
    all_goals first | (rename_i hk; cases h; exact Qs_u (σ := σ) (fun q => absurd (hk.1.symm.trans q) (by omega)) _ _ _) | cases h
theorem po_bastZ : PO x_bastZ := by
  rintro ⟨pc, lv, st, al, σ⟩
  constructor
  all_goals
    intro r h
    simp only [x_bastZ] at h
    repeat' split at h
    all_goals first | (rename_i hk; cases h; exact Qs_u (σ := σ) (fun q => absurd (hk.1.symm.trans q) (by omega)) _ _ _) | cases h
theorem po_copy : PO x_copy := by
  rintro ⟨pc, lv, st, al, σ⟩
  constructor
  all_goals
    intro r h
    simp only [x_copy] at h
    repeat' split at h
    all_goals first | (rename_i hk; cases h; exact ⟨rfl, fun a ha => va_upN _ _ (fun q => by have h1 := hk.1.2; rw [← q] at h1; have h2 : xKd σ a = 16 := ha; omega)⟩) | cases h
theorem po_call {mc ar : Nat} {f : List Value → xS → Option xR} (hf : PF f) : PO (x_call mc ar f) := by
  rintro ⟨pc, lv, st, al, σ⟩
  constructor
  all_goals
    intro r h
    simp only [x_call] at h
    split at h
    · split at h
      · rename_i r' hr
        first | (cases h; exact hf _ _ _ hr) | cases h
      · cases h
    · cases h
theorem po_callV {ci mc ar : Nat} {f : List Value → xS → Option xR} (hf : PF f) : PO (x_callV ci mc ar f) := by
  rintro ⟨pc, lv, st, al, σ⟩
  constructor
  · intro r h
    simp only [x_callV] at h
    split at h
    · split at h
      · exact (po_call hf _).1 r h
      · cases h
    · cases h
  · intro r h
    simp only [x_callV] at h
    split at h
    · split at h
      · exact (po_call hf _).2 r h
      · cases h
    · cases h
theorem po_callStr {ar : Nat} {f : List Value → xS → Option xR} (hf : PF f) : PO (x_callStr ar f) := by
  rintro ⟨pc, lv, st, al, σ⟩
  constructor
  · intro r h
    simp only [x_callStr] at h
    split at h
    · split at h
      · exact (po_call hf _).1 r h
      · cases h
    · cases h
  · intro r h
    simp only [x_callStr] at h
    split at h
    · split at h
      · exact (po_call hf _).2 r h
      · cases h
    · cases h
theorem pvX8_among : PF FX8_among := PF_den (tab := tX8_among) (po_c (po_iload _ _) (po_c (po_br1 _ _) (po_c (po_iload _ _) (po_c (po_iload _ _) (po_c (po_br2 _ _) (po_c (po_push _ _) (po_c (po_goto _) (po_c (po_push _ _) (po_c po_iret (po_n))))))))))
theorem pvX8_findingOf : PF FX8_findingOf := PF_den (tab := tX8_findingOf) (po_c (po_aload _ _) (po_c (po_iload _ _) (po_c (po_putI _ (by decide)) (po_c (po_aload _ _) (po_c (po_getR _ _) (po_c (po_iload _ _) (po_c po_dup2 (po_c po_iald (po_c (po_push _ _) (po_c (po_ii _) (po_c po_iast (po_c (po_push _ _) (po_c po_iret (po_n))))))))))))))
theorem pvX5_begin : PF FX5_begin := PF_den (tab := tX5_begin) (po_c (po_aload _ _) (po_c (po_iload _ _) (po_c (po_putI _ (by decide)) (po_c (po_push _ _) (po_c (po_istore _ _) (po_c (po_iload _ _) (po_c (po_push _ _) (po_c (po_br2 _ _) (po_c (po_aload _ _) (po_c (po_getR _ _) (po_c (po_iload _ _) (po_c (po_push _ _) (po_c po_iast (po_c (po_iinc _ _) (po_c (po_goto _) (po_c po_vret (po_n)))))))))))))))))
theorem pvX8_row : PF FX8_row := PF_den (tab := tX8_row) (po_c (po_iload _ _) (po_c (po_push _ _) (po_c (po_call pvX8_among) (po_c (po_br1 _ _) (po_c (po_iload _ _) (po_c (po_push _ _) (po_c (po_br2 _ _) (po_c (po_push _ _) (po_c po_iret (po_c (po_iload _ _) (po_c (po_br1 _ _) (po_c (po_aload _ _) (po_c (po_push _ _) (po_c (po_callV pvX8_findingOf) (po_c po_iret (po_c (po_aload _ _) (po_c (po_getR _ _) (po_c (po_iload _ _) (po_c po_aald (po_c (po_iload _ _) (po_c (po_callV pvX5_begin) (po_c (po_iload _ _) (po_c po_iret (po_n))))))))))))))))))))))))
theorem pvX5_isThere : PF FX5_isThere := PF_den (tab := tX5_isThere) (po_c (po_aload _ _) (po_c (po_getI _ _) (po_c (po_br1 _ _) (po_c (po_push _ _) (po_c (po_goto _) (po_c (po_push _ _) (po_c po_iret (po_n))))))))
theorem pvX8_refusalOfRow : PF FX8_refusalOfRow := PF_den (tab := tX8_refusalOfRow) (po_c (po_iload _ _) (po_c (po_push _ _) (po_c (po_call pvX8_among) (po_c (po_br1 _ _) (po_c (po_push _ _) (po_c po_iret (po_c (po_aload _ _) (po_c (po_getR _ _) (po_c (po_iload _ _) (po_c po_aald (po_c (po_callV pvX5_isThere) (po_c (po_br1 _ _) (po_c (po_push _ _) (po_c (po_goto _) (po_c (po_aload _ _) (po_c (po_push _ _) (po_c (po_callV pvX8_findingOf) (po_c po_iret (po_n)))))))))))))))))))
theorem pvX8_refusalOfPlace : PF FX8_refusalOfPlace := PF_den (tab := tX8_refusalOfPlace) (po_c (po_aload _ _) (po_c (po_iload _ _) (po_c (po_callV pvX8_refusalOfRow) (po_c (po_istore _ _) (po_c (po_iload _ _) (po_c (po_br1 _ _) (po_c (po_iload _ _) (po_c po_iret (po_c (po_iload _ _) (po_c (po_aload _ _) (po_c (po_getR _ _) (po_c (po_iload _ _) (po_c po_aald (po_c (po_getI _ _) (po_c (po_call pvX8_among) (po_c (po_br1 _ _) (po_c (po_push _ _) (po_c (po_goto _) (po_c (po_aload _ _) (po_c (po_push _ _) (po_c (po_callV pvX8_findingOf) (po_c po_iret (po_n)))))))))))))))))))))))
theorem pvX8_lay : PF FX8_lay := PF_den (tab := tX8_lay) (po_c (po_aload _ _) (po_c (po_iload _ _) (po_c (po_iload _ _) (po_c (po_callV pvX8_refusalOfPlace) (po_c (po_istore _ _) (po_c (po_iload _ _) (po_c (po_br1 _ _) (po_c (po_iload _ _) (po_c po_iret (po_c (po_aload _ _) (po_c (po_aload _ _) (po_c (po_getR _ _) (po_c (po_iload _ _) (po_c po_aald (po_c (po_getR _ _) (po_c (po_iload _ _) (po_c po_iald (po_c (po_putI _ (by decide)) (po_c (po_aload _ _) (po_c (po_getR _ _) (po_c (po_iload _ _) (po_c po_aald (po_c (po_getR _ _) (po_c (po_iload _ _) (po_c (po_iload _ _) (po_c po_iast (po_c (po_push _ _) (po_c po_iret (po_n)))))))))))))))))))))))))))))
theorem pvX8_at : PF FX8_at := PF_den (tab := tX8_at) (po_c (po_aload _ _) (po_c (po_iload _ _) (po_c (po_iload _ _) (po_c (po_callV pvX8_refusalOfPlace) (po_c (po_istore _ _) (po_c (po_iload _ _) (po_c (po_br1 _ _) (po_c (po_iload _ _) (po_c po_iret (po_c (po_aload _ _) (po_c (po_aload _ _) (po_c (po_getR _ _) (po_c (po_iload _ _) (po_c po_aald (po_c (po_getR _ _) (po_c (po_iload _ _) (po_c po_iald (po_c (po_putI _ (by decide)) (po_c (po_push _ _) (po_c po_iret (po_n)))))))))))))))))))))
theorem pvX5_remove : PF FX5_remove := PF_den (tab := tX5_remove) (po_c (po_aload _ _) (po_c (po_push _ _) (po_c (po_putI _ (by decide)) (po_c po_vret (po_n)))))
theorem pvX8_tear : PF FX8_tear := PF_den (tab := tX8_tear) (po_c (po_aload _ _) (po_c (po_iload _ _) (po_c (po_callV pvX8_refusalOfRow) (po_c (po_istore _ _) (po_c (po_iload _ _) (po_c (po_br1 _ _) (po_c (po_iload _ _) (po_c po_iret (po_c (po_aload _ _) (po_c (po_getR _ _) (po_c (po_iload _ _) (po_c po_aald (po_c (po_callV pvX5_remove) (po_c (po_push _ _) (po_c po_iret (po_n))))))))))))))))
theorem pvX5_holds : PF FX5_holds := PF_den (tab := tX5_holds) (po_c (po_iload _ _) (po_c (po_br1 _ _) (po_c (po_iload _ _) (po_c (po_aload _ _) (po_c (po_getI _ _) (po_c (po_iload _ _) (po_c (po_ii _) (po_c (po_br2 _ _) (po_c (po_push _ _) (po_c (po_goto _) (po_c (po_push _ _) (po_c po_iret (po_n)))))))))))))
theorem pvX8_copy : PF FX8_copy := PF_den (tab := tX8_copy) (po_c (po_iload _ _) (po_c (po_push _ _) (po_c (po_call pvX8_among) (po_c (po_br1 _ _) (po_c (po_iload _ _) (po_c (po_push _ _) (po_c (po_call pvX8_among) (po_c (po_br1 _ _) (po_c (po_push _ _) (po_c po_iret (po_c (po_iload _ _) (po_c (po_br1 _ _) (po_c (po_aload _ _) (po_c (po_push _ _) (po_c (po_callV pvX8_findingOf) (po_c po_iret (po_c (po_aload _ _) (po_c (po_getR _ _) (po_c (po_iload _ _) (po_c po_aald (po_c (po_callV pvX5_isThere) (po_c (po_br1 _ _) (po_c (po_aload _ _) (po_c (po_getR _ _) (po_c (po_iload _ _) (po_c po_aald (po_c (po_callV pvX5_isThere) (po_c (po_br1 _ _) (po_c (po_aload _ _) (po_c (po_push _ _) (po_c (po_callV pvX8_findingOf) (po_c po_iret (po_c (po_aload _ _) (po_c (po_getR _ _) (po_c (po_iload _ _) (po_c po_aald (po_c (po_iload _ _) (po_c (po_iload _ _) (po_c (po_callV pvX5_holds) (po_c (po_br1 _ _) (po_c (po_aload _ _) (po_c (po_getR _ _) (po_c (po_iload _ _) (po_c po_aald (po_c (po_iload _ _) (po_c (po_iload _ _) (po_c (po_callV pvX5_holds) (po_c (po_br1 _ _) (po_c (po_aload _ _) (po_c (po_push _ _) (po_c (po_callV pvX8_findingOf) (po_c po_iret (po_c (po_aload _ _) (po_c (po_getR _ _) (po_c (po_iload _ _) (po_c po_aald (po_c (po_getR _ _) (po_c (po_iload _ _) (po_c (po_aload _ _) (po_c (po_getR _ _) (po_c (po_iload _ _) (po_c po_aald (po_c (po_getR _ _) (po_c (po_iload _ _) (po_c (po_iload _ _) (po_c po_copy (po_c (po_push _ _) (po_c po_iret (po_n)))))))))))))))))))))))))))))))))))))))))))))))))))))))))))))))))))))
theorem pvX5_sum : PF FX5_sum := PF_den (tab := tX5_sum) (po_c (po_push _ _) (po_c (po_lstore _ _) (po_c (po_push _ _) (po_c (po_istore _ _) (po_c (po_iload _ _) (po_c (po_aload _ _) (po_c (po_getI _ _) (po_c (po_br2 _ _) (po_c (po_lload _ _) (po_c (po_aload _ _) (po_c (po_getR _ _) (po_c (po_iload _ _) (po_c po_iald (po_c po_i2l (po_c (po_ll _) (po_c (po_lstore _ _) (po_c (po_iinc _ _) (po_c (po_goto _) (po_c (po_lload _ _) (po_c po_lret (po_n)))))))))))))))))))))
theorem pvX8_mean : PF FX8_mean := PF_den (tab := tX8_mean) (po_c (po_aload _ _) (po_c (po_iload _ _) (po_c (po_callV pvX8_refusalOfRow) (po_c (po_istore _ _) (po_c (po_iload _ _) (po_c (po_br1 _ _) (po_c (po_iload _ _) (po_c po_iret (po_c (po_aload _ _) (po_c (po_getR _ _) (po_c (po_iload _ _) (po_c po_aald (po_c (po_getI _ _) (po_c (po_istore _ _) (po_c (po_iload _ _) (po_c (po_br1 _ _) (po_c (po_aload _ _) (po_c (po_push _ _) (po_c (po_callV pvX8_findingOf) (po_c po_iret (po_c (po_aload _ _) (po_c (po_aload _ _) (po_c (po_getR _ _) (po_c (po_iload _ _) (po_c po_aald (po_c (po_callV pvX5_sum) (po_c (po_iload _ _) (po_c po_i2l (po_c po_ldiv (po_c po_l2i (po_c (po_putI _ (by decide)) (po_c (po_push _ _) (po_c po_iret (po_n))))))))))))))))))))))))))))))))))
theorem pvX7_begin : PF FX7_begin := PF_den (tab := tX7_begin) (po_c (po_aload _ _) (po_c (po_iload _ _) (po_c (po_putI _ (by decide)) (po_c (po_push _ _) (po_c (po_istore _ _) (po_c (po_iload _ _) (po_c (po_push _ _) (po_c (po_br2 _ _) (po_c (po_aload _ _) (po_c (po_getR _ _) (po_c (po_iload _ _) (po_c (po_push _ _) (po_c po_bastB (po_c (po_iinc _ _) (po_c (po_goto _) (po_c po_vret (po_n)))))))))))))))))
theorem pvX8_text : PF FX8_text := PF_den (tab := tX8_text) (po_c (po_iload _ _) (po_c (po_push _ _) (po_c (po_call pvX8_among) (po_c (po_br1 _ _) (po_c (po_iload _ _) (po_c (po_push _ _) (po_c (po_br2 _ _) (po_c (po_push _ _) (po_c po_iret (po_c (po_iload _ _) (po_c (po_br1 _ _) (po_c (po_aload _ _) (po_c (po_push _ _) (po_c (po_callV pvX8_findingOf) (po_c po_iret (po_c (po_aload _ _) (po_c (po_getR _ _) (po_c (po_iload _ _) (po_c po_aald (po_c (po_iload _ _) (po_c (po_callV pvX7_begin) (po_c (po_iload _ _) (po_c po_iret (po_n))))))))))))))))))))))))
theorem pvX7_isThere : PF FX7_isThere := PF_den (tab := tX7_isThere) (po_c (po_aload _ _) (po_c (po_getI _ _) (po_c (po_br1 _ _) (po_c (po_push _ _) (po_c (po_goto _) (po_c (po_push _ _) (po_c po_iret (po_n))))))))
theorem pvX8_refusalOfText : PF FX8_refusalOfText := PF_den (tab := tX8_refusalOfText) (po_c (po_iload _ _) (po_c (po_push _ _) (po_c (po_call pvX8_among) (po_c (po_br1 _ _) (po_c (po_push _ _) (po_c po_iret (po_c (po_aload _ _) (po_c (po_getR _ _) (po_c (po_iload _ _) (po_c po_aald (po_c (po_callV pvX7_isThere) (po_c (po_br1 _ _) (po_c (po_push _ _) (po_c (po_goto _) (po_c (po_aload _ _) (po_c (po_push _ _) (po_c (po_callV pvX8_findingOf) (po_c po_iret (po_n)))))))))))))))))))
theorem pvX8_put : PF FX8_put := PF_den (tab := tX8_put) (po_c (po_aload _ _) (po_c (po_iload _ _) (po_c (po_callV pvX8_refusalOfText) (po_c (po_istore _ _) (po_c (po_iload _ _) (po_c (po_br1 _ _) (po_c (po_iload _ _) (po_c po_iret (po_c (po_iload _ _) (po_c (po_aload _ _) (po_c (po_getR _ _) (po_c (po_iload _ _) (po_c po_aald (po_c (po_getI _ _) (po_c (po_call pvX8_among) (po_c (po_br1 _ _) (po_c (po_aload _ _) (po_c (po_push _ _) (po_c (po_callV pvX8_findingOf) (po_c po_iret (po_c (po_aload _ _) (po_c (po_getR _ _) (po_c (po_iload _ _) (po_c po_aald (po_c (po_getR _ _) (po_c (po_iload _ _) (po_c po_bald (po_c (po_istore _ _) (po_c (po_aload _ _) (po_c (po_getR _ _) (po_c (po_iload _ _) (po_c po_aald (po_c (po_getR _ _) (po_c (po_iload _ _) (po_c (po_iload _ _) (po_c (po_i _) (po_c po_bastB (po_c (po_iload _ _) (po_c (po_push _ _) (po_c (po_ii _) (po_c po_iret (po_n))))))))))))))))))))))))))))))))))))))))))
theorem pvJ0_coder_7d493 : PF FJ0_coder_7d493 := PF_den (tab := tJ0_coder_7d493) (po_c (po_push _ _) (po_c (po_br1 _ _) (po_c (po_aload _ _) (po_c po_strC (po_c (po_goto _) (po_c (po_push _ _) (po_c po_iret (po_n))))))))
theorem pvJ0_length_8abf5 : PF FJ0_length_8abf5 := PF_den (tab := tJ0_length_8abf5) (po_c (po_aload _ _) (po_c po_strV (po_c po_tblen (po_c (po_aload _ _) (po_c (po_callStr pvJ0_coder_7d493) (po_c (po_ii _) (po_c po_iret (po_n))))))))
theorem pvJ0_isLatin1_aae02 : PF FJ0_isLatin1_aae02 := PF_den (tab := tJ0_isLatin1_aae02) (po_c (po_push _ _) (po_c (po_br1 _ _) (po_c (po_aload _ _) (po_c po_strC (po_c (po_br1 _ _) (po_c (po_push _ _) (po_c (po_goto _) (po_c (po_push _ _) (po_c po_iret (po_n))))))))))
theorem pvJ0_checkIndex_df160 : PF FJ0_checkIndex_df160 := PF_den (tab := tJ0_checkIndex_df160) (po_c (po_iload _ _) (po_c (po_iload _ _) (po_c po_chk (po_c po_vret (po_n)))))
theorem pvJ1_charAt_3b067 : PF FJ1_charAt_3b067 := PF_den (tab := tJ1_charAt_3b067) (po_c (po_iload _ _) (po_c (po_aload _ _) (po_c po_tblen (po_c (po_call pvJ0_checkIndex_df160) (po_c (po_aload _ _) (po_c (po_iload _ _) (po_c po_tbald (po_c (po_push _ _) (po_c (po_ii _) (po_c (po_i _) (po_c po_iret (po_n))))))))))))
theorem pvJ0_charAt_5068e : PF FJ0_charAt_5068e := PF_den (tab := tJ0_charAt_5068e) (po_c (po_aload _ _) (po_c (po_callStr pvJ0_isLatin1_aae02) (po_c (po_br1 _ _) (po_c (po_aload _ _) (po_c po_strV (po_c (po_iload _ _) (po_c (po_call pvJ1_charAt_3b067) (po_c po_iret (po_c (po_aload _ _) (po_c po_strV (po_c (po_iload _ _) (po_c po_iret (po_n)))))))))))))
theorem pvX1_ofLetter : PF FX1_ofLetter := PF_den (tab := tX1_ofLetter) (po_c (po_push _ _) (po_c (po_istore _ _) (po_c (po_iload _ _) (po_c (po_push _ _) (po_c (po_callStr pvJ0_length_8abf5) (po_c (po_br2 _ _) (po_c (po_push _ _) (po_c (po_iload _ _) (po_c (po_callStr pvJ0_charAt_5068e) (po_c (po_iload _ _) (po_c (po_br2 _ _) (po_c (po_iload _ _) (po_c po_iret (po_c (po_iinc _ _) (po_c (po_goto _) (po_c (po_push _ _) (po_c po_iret (po_n))))))))))))))))))
theorem pvX7_fits : PF FX7_fits := PF_den (tab := tX7_fits) (po_c (po_iload _ _) (po_c (po_br1 _ _) (po_c (po_iload _ _) (po_c (po_call pvX1_ofLetter) (po_c (po_br1 _ _) (po_c (po_push _ _) (po_c (po_goto _) (po_c (po_push _ _) (po_c po_iret (po_c (po_iload _ _) (po_c (po_push _ _) (po_c (po_ii _) (po_c (po_push _ _) (po_c (po_iload _ _) (po_c (po_push _ _) (po_c (po_ii _) (po_c po_tald (po_c (po_push _ _) (po_c (po_ii _) (po_c (po_call pvX8_among) (po_c po_iret (po_n))))))))))))))))))))))
theorem pvX7_faultOfItem : PF FX7_faultOfItem := PF_den (tab := tX7_faultOfItem) (po_c (po_iload _ _) (po_c (po_istore _ _) (po_c (po_iload _ _) (po_c (po_iload _ _) (po_c (po_push _ _) (po_c (po_ii _) (po_c (po_br2 _ _) (po_c (po_iload _ _) (po_c (po_aload _ _) (po_c (po_getI _ _) (po_c (po_br2 _ _) (po_c (po_aload _ _) (po_c (po_getI _ _) (po_c po_iret (po_c (po_iload _ _) (po_c (po_iload _ _) (po_c (po_ii _) (po_c (po_aload _ _) (po_c (po_getR _ _) (po_c (po_iload _ _) (po_c po_bald (po_c (po_call pvX7_fits) (po_c (po_br1 _ _) (po_c (po_iload _ _) (po_c po_iret (po_c (po_iinc _ _) (po_c (po_goto _) (po_c (po_push _ _) (po_c po_iret (po_n))))))))))))))))))))))))))))))
theorem pvX7_firstFault : PF FX7_firstFault := PF_den (tab := tX7_firstFault) (po_c (po_push _ _) (po_c (po_istore _ _) (po_c (po_push _ _) (po_c (po_istore _ _) (po_c (po_iload _ _) (po_c (po_aload _ _) (po_c (po_getI _ _) (po_c (po_br2 _ _) (po_c (po_aload _ _) (po_c (po_getR _ _) (po_c (po_iload _ _) (po_c po_bald (po_c (po_push _ _) (po_c (po_br2 _ _) (po_c (po_iinc _ _) (po_c (po_goto _) (po_c (po_iload _ _) (po_c (po_push _ _) (po_c (po_br2 _ _) (po_c (po_iload _ _) (po_c po_iret (po_c (po_aload _ _) (po_c (po_iload _ _) (po_c (po_callV pvX7_faultOfItem) (po_c (po_istore _ _) (po_c (po_iload _ _) (po_c (po_push _ _) (po_c (po_br2 _ _) (po_c (po_iload _ _) (po_c po_iret (po_c (po_iinc _ _) (po_c (po_iinc _ _) (po_c (po_goto _) (po_c (po_iload _ _) (po_c (po_br1 _ _) (po_c (po_aload _ _) (po_c (po_getI _ _) (po_c (po_goto _) (po_c (po_push _ _) (po_c po_iret (po_n)))))))))))))))))))))))))))))))))))))))))
theorem pvX8_fault : PF FX8_fault := PF_den (tab := tX8_fault) (po_c (po_aload _ _) (po_c (po_iload _ _) (po_c (po_callV pvX8_refusalOfText) (po_c (po_istore _ _) (po_c (po_iload _ _) (po_c (po_br1 _ _) (po_c (po_iload _ _) (po_c (po_goto _) (po_c (po_aload _ _) (po_c (po_getR _ _) (po_c (po_iload _ _) (po_c po_aald (po_c (po_callV pvX7_firstFault) (po_c po_iret (po_n)))))))))))))))
theorem pvX4_begin : PF FX4_begin := PF_den (tab := tX4_begin) (po_c (po_aload _ _) (po_c (po_push _ _) (po_c (po_putI _ (by decide)) (po_c (po_aload _ _) (po_c (po_push _ _) (po_c (po_putI _ (by decide)) (po_c (po_aload _ _) (po_c (po_push _ _) (po_c (po_putI _ (by decide)) (po_c po_vret (po_n)))))))))))
theorem pvX4_grow : PF FX4_grow := PF_den (tab := tX4_grow) (po_c (po_aload _ _) (po_c (po_getR _ _) (po_c (po_aload _ _) (po_c (po_getI _ _) (po_c po_aald (po_c (po_astore _ _) (po_c (po_aload _ _) (po_c po_dup (po_c (po_getI _ _) (po_c (po_push _ _) (po_c (po_ii _) (po_c (po_putI _ (by decide)) (po_c (po_aload _ _) (po_c po_aret (po_n)))))))))))))))
theorem pvX7_figure : PF FX7_figure := PF_den (tab := tX7_figure) (po_c (po_aload _ _) (po_c (po_getR _ _) (po_c (po_iload _ _) (po_c po_bald (po_c (po_push _ _) (po_c (po_ii _) (po_c po_iret (po_n))))))))
theorem pvX6_of : PF FX6_of := PF_den (tab := tX6_of) (po_c (po_push _ _) (po_c (po_iload _ _) (po_c (po_ii _) (po_c (po_push _ _) (po_c (po_iload _ _) (po_c (po_ii _) (po_c (po_ii _) (po_c (po_iload _ _) (po_c (po_ii _) (po_c po_iret (po_n)))))))))))
theorem pvX7_writeItem : PF FX7_writeItem := PF_den (tab := tX7_writeItem) (po_c (po_aload _ _) (po_c (po_aload _ _) (po_c (po_getR _ _) (po_c (po_iload _ _) (po_c po_bald (po_c (po_call pvX1_ofLetter) (po_c (po_putI _ (by decide)) (po_c (po_aload _ _) (po_c (po_aload _ _) (po_c (po_iload _ _) (po_c (po_push _ _) (po_c (po_ii _) (po_c (po_callV pvX7_figure) (po_c (po_aload _ _) (po_c (po_iload _ _) (po_c (po_push _ _) (po_c (po_ii _) (po_c (po_callV pvX7_figure) (po_c (po_aload _ _) (po_c (po_iload _ _) (po_c (po_push _ _) (po_c (po_ii _) (po_c (po_callV pvX7_figure) (po_c (po_call pvX6_of) (po_c (po_putI _ (by decide)) (po_c (po_aload _ _) (po_c (po_aload _ _) (po_c (po_iload _ _) (po_c (po_push _ _) (po_c (po_ii _) (po_c (po_callV pvX7_figure) (po_c (po_putI _ (by decide)) (po_c (po_aload _ _) (po_c (po_aload _ _) (po_c (po_iload _ _) (po_c (po_push _ _) (po_c (po_ii _) (po_c (po_callV pvX7_figure) (po_c (po_putI _ (by decide)) (po_c (po_aload _ _) (po_c (po_aload _ _) (po_c (po_iload _ _) (po_c (po_push _ _) (po_c (po_ii _) (po_c (po_callV pvX7_figure) (po_c (po_putI _ (by decide)) (po_c (po_aload _ _) (po_c (po_aload _ _) (po_c (po_iload _ _) (po_c (po_push _ _) (po_c (po_ii _) (po_c (po_callV pvX7_figure) (po_c (po_push _ _) (po_c (po_br2 _ _) (po_c (po_push _ _) (po_c (po_goto _) (po_c (po_push _ _) (po_c (po_putZ _ (by decide)) (po_c po_vret (po_n))))))))))))))))))))))))))))))))))))))))))))))))))))))))))))
theorem pvX7_writeInto : PF FX7_writeInto := PF_den (tab := tX7_writeInto) (po_c (po_aload _ _) (po_c (po_callV pvX4_begin) (po_c (po_push _ _) (po_c (po_istore _ _) (po_c (po_iload _ _) (po_c (po_push _ _) (po_c (po_ii _) (po_c (po_aload _ _) (po_c (po_getI _ _) (po_c (po_br2 _ _) (po_c (po_aload _ _) (po_c (po_getI _ _) (po_c (po_push _ _) (po_c (po_br2 _ _) (po_c (po_aload _ _) (po_c (po_getR _ _) (po_c (po_iload _ _) (po_c po_bald (po_c (po_push _ _) (po_c (po_br2 _ _) (po_c (po_iinc _ _) (po_c (po_goto _) (po_c (po_aload _ _) (po_c (po_iload _ _) (po_c (po_aload _ _) (po_c (po_callV pvX4_grow) (po_c (po_callV pvX7_writeItem) (po_c (po_iinc _ _) (po_c (po_goto _) (po_c po_vret (po_n)))))))))))))))))))))))))))))))
theorem pvX8_registry : PF FX8_registry := PF_den (tab := tX8_registry) (po_c (po_aload _ _) (po_c (po_iload _ _) (po_c (po_callV pvX8_refusalOfText) (po_c (po_istore _ _) (po_c (po_iload _ _) (po_c (po_br1 _ _) (po_c (po_iload _ _) (po_c po_iret (po_c (po_aload _ _) (po_c (po_getR _ _) (po_c (po_iload _ _) (po_c po_aald (po_c (po_callV pvX7_firstFault) (po_c (po_push _ _) (po_c (po_br2 _ _) (po_c (po_push _ _) (po_c po_iret (po_c (po_aload _ _) (po_c (po_getR _ _) (po_c (po_iload _ _) (po_c po_aald (po_c (po_aload _ _) (po_c (po_getR _ _) (po_c (po_callV pvX7_writeInto) (po_c (po_push _ _) (po_c (po_istore _ _) (po_c (po_iload _ _) (po_c (po_push _ _) (po_c (po_br2 _ _) (po_c (po_aload _ _) (po_c (po_getR _ _) (po_c (po_iload _ _) (po_c po_aald (po_c (po_callV pvX4_begin) (po_c (po_iinc _ _) (po_c (po_goto _) (po_c (po_aload _ _) (po_c (po_getR _ _) (po_c (po_getI _ _) (po_c po_iret (po_n)))))))))))))))))))))))))))))))))))))))))
theorem pvX6_partA : PF FX6_partA := PF_den (tab := tX6_partA) (po_c (po_iload _ _) (po_c (po_push _ _) (po_c po_idiv (po_c po_iret (po_n)))))
theorem pvX6_partB : PF FX6_partB := PF_den (tab := tX6_partB) (po_c (po_iload _ _) (po_c (po_push _ _) (po_c po_idiv (po_c (po_push _ _) (po_c po_irem (po_c po_iret (po_n)))))))
theorem pvX6_partC : PF FX6_partC := PF_den (tab := tX6_partC) (po_c (po_iload _ _) (po_c (po_push _ _) (po_c po_irem (po_c po_iret (po_n)))))
theorem pvX6_faded : PF FX6_faded := PF_den (tab := tX6_faded) (po_c (po_push _ _) (po_c (po_iload _ _) (po_c (po_call pvX6_partA) (po_c (po_iload _ _) (po_c (po_ii _) (po_c po_max (po_c (po_iload _ _) (po_c (po_call pvX6_partB) (po_c (po_iload _ _) (po_c (po_call pvX6_partC) (po_c (po_call pvX6_of) (po_c po_iret (po_n)))))))))))))
theorem pvX4_shadeOf : PF FX4_shadeOf := PF_den (tab := tX4_shadeOf) (po_c (po_aload _ _) (po_c (po_getR _ _) (po_c (po_iload _ _) (po_c po_aald (po_c (po_astore _ _) (po_c (po_aload _ _) (po_c (po_getI _ _) (po_c (po_br1 _ _) (po_c (po_aload _ _) (po_c (po_getI _ _) (po_c (po_aload _ _) (po_c (po_getI _ _) (po_c (po_iload _ _) (po_c (po_ii _) (po_c (po_call pvX6_faded) (po_c (po_goto _) (po_c (po_aload _ _) (po_c (po_getI _ _) (po_c po_iret (po_n))))))))))))))))))))
theorem pvX1_farFrom : PF FX1_farFrom := PF_den (tab := tX1_farFrom) (po_c (po_iload _ _) (po_c (po_call pvX6_partA) (po_c (po_iload _ _) (po_c (po_call pvX6_partA) (po_c (po_ii _) (po_c po_abs (po_c (po_istore _ _) (po_c (po_iload _ _) (po_c (po_call pvX6_partB) (po_c (po_iload _ _) (po_c (po_call pvX6_partB) (po_c (po_ii _) (po_c po_abs (po_c (po_istore _ _) (po_c (po_iload _ _) (po_c (po_call pvX6_partC) (po_c (po_iload _ _) (po_c (po_call pvX6_partC) (po_c (po_ii _) (po_c po_abs (po_c (po_istore _ _) (po_c (po_iload _ _) (po_c (po_switch _ _) (po_c (po_iload _ _) (po_c (po_iload _ _) (po_c (po_iload _ _) (po_c po_max (po_c po_max (po_c po_iret (po_c (po_iload _ _) (po_c (po_iload _ _) (po_c po_max (po_c po_iret (po_c (po_push _ _) (po_c (po_iload _ _) (po_c (po_ii _) (po_c (po_iload _ _) (po_c (po_ii _) (po_c (po_iload _ _) (po_c (po_ii _) (po_c po_iret (po_c (po_iload _ _) (po_c (po_iload _ _) (po_c (po_ii _) (po_c (po_iload _ _) (po_c (po_ii _) (po_c po_iret (po_n))))))))))))))))))))))))))))))))))))))))))))))))
theorem pvX1_isOf : PF FX1_isOf := PF_den (tab := tX1_isOf) (po_c (po_iload _ _) (po_c (po_iload _ _) (po_c (po_br2 _ _) (po_c (po_iload _ _) (po_c (po_br1 _ _) (po_c (po_push _ _) (po_c po_iret (po_c (po_iload _ _) (po_c (po_push _ _) (po_c (po_br2 _ _) (po_c (po_iload _ _) (po_c (po_push _ _) (po_c (po_br2 _ _) (po_c (po_iload _ _) (po_c (po_push _ _) (po_c (po_br2 _ _) (po_c (po_iload _ _) (po_c (po_push _ _) (po_c (po_br2 _ _) (po_c (po_push _ _) (po_c (po_goto _) (po_c (po_push _ _) (po_c po_iret (po_n))))))))))))))))))))))))
theorem pvX1_reaches : PF FX1_reaches := PF_den (tab := tX1_reaches) (po_c (po_iload _ _) (po_c (po_iload _ _) (po_c (po_iload _ _) (po_c (po_call pvX1_farFrom) (po_c (po_istore _ _) (po_c (po_iload _ _) (po_c (po_push _ _) (po_c (po_call pvX1_isOf) (po_c (po_br1 _ _) (po_c (po_iload _ _) (po_c (po_iload _ _) (po_c (po_br2 _ _) (po_c (po_iload _ _) (po_c (po_iload _ _) (po_c (po_br2 _ _) (po_c (po_push _ _) (po_c (po_goto _) (po_c (po_push _ _) (po_c po_iret (po_c (po_iload _ _) (po_c (po_iload _ _) (po_c (po_br2 _ _) (po_c (po_push _ _) (po_c (po_goto _) (po_c (po_push _ _) (po_c po_iret (po_n)))))))))))))))))))))))))))
theorem pvX1_countReached : PF FX1_countReached := PF_den (tab := tX1_countReached) (po_c (po_push _ _) (po_c (po_istore _ _) (po_c (po_push _ _) (po_c (po_istore _ _) (po_c (po_iload _ _) (po_c (po_push _ _) (po_c (po_br2 _ _) (po_c (po_iload _ _) (po_c (po_iload _ _) (po_c (po_iload _ _) (po_c (po_iload _ _) (po_c (po_call pvX1_reaches) (po_c (po_br1 _ _) (po_c (po_iinc _ _) (po_c (po_iinc _ _) (po_c (po_goto _) (po_c (po_iload _ _) (po_c po_iret (po_n)))))))))))))))))))
theorem pvX8_tellOf : PF FX8_tellOf := PF_den (tab := tX8_tellOf) (po_c (po_aload _ _) (po_c (po_getR _ _) (po_c (po_getR _ _) (po_c (po_iload _ _) (po_c po_aald (po_c (po_astore _ _) (po_c (po_iload _ _) (po_c (po_switch _ _) (po_c (po_aload _ _) (po_c (po_getI _ _) (po_c po_iret (po_c (po_aload _ _) (po_c (po_getR _ _) (po_c (po_iload _ _) (po_c (po_push _ _) (po_c (po_callV pvX4_shadeOf) (po_c po_iret (po_c (po_aload _ _) (po_c (po_getI _ _) (po_c po_iret (po_c (po_aload _ _) (po_c (po_getI _ _) (po_c po_iret (po_c (po_aload _ _) (po_c (po_getI _ _) (po_c po_iret (po_c (po_aload _ _) (po_c (po_getI _ _) (po_c (po_br1 _ _) (po_c (po_push _ _) (po_c (po_goto _) (po_c (po_push _ _) (po_c po_iret (po_c (po_aload _ _) (po_c (po_getI _ _) (po_c (po_aload _ _) (po_c (po_getR _ _) (po_c (po_iload _ _) (po_c (po_push _ _) (po_c (po_callV pvX4_shadeOf) (po_c (po_aload _ _) (po_c (po_getI _ _) (po_c (po_call pvX1_countReached) (po_c po_iret (po_n)))))))))))))))))))))))))))))))))))))))))))))
theorem pvX8_name : PF FX8_name := PF_den (tab := tX8_name) (po_c (po_iload _ _) (po_c (po_aload _ _) (po_c (po_getR _ _) (po_c (po_getI _ _) (po_c (po_call pvX8_among) (po_c (po_br1 _ _) (po_c (po_iload _ _) (po_c (po_push _ _) (po_c (po_call pvX8_among) (po_c (po_br1 _ _) (po_c (po_push _ _) (po_c po_iret (po_c (po_aload _ _) (po_c (po_aload _ _) (po_c (po_iload _ _) (po_c (po_iload _ _) (po_c (po_callV pvX8_tellOf) (po_c (po_putI _ (by decide)) (po_c (po_push _ _) (po_c po_iret (po_n)))))))))))))))))))))
theorem pvX4_nameReaches : PF FX4_nameReaches := PF_den (tab := tX4_nameReaches) (po_c (po_aload _ _) (po_c (po_getR _ _) (po_c (po_iload _ _) (po_c po_aald (po_c (po_getI _ _) (po_c (po_aload _ _) (po_c (po_iload _ _) (po_c (po_iload _ _) (po_c (po_callV pvX4_shadeOf) (po_c (po_aload _ _) (po_c (po_getR _ _) (po_c (po_iload _ _) (po_c po_aald (po_c (po_getI _ _) (po_c (po_iload _ _) (po_c (po_call pvX1_reaches) (po_c po_iret (po_n))))))))))))))))))
theorem pvX4_callerOf : PF FX4_callerOf := PF_den (tab := tX4_callerOf) (po_c (po_push _ _) (po_c (po_istore _ _) (po_c (po_iload _ _) (po_c (po_aload _ _) (po_c (po_getI _ _) (po_c (po_br2 _ _) (po_c (po_aload _ _) (po_c (po_iload _ _) (po_c (po_iload _ _) (po_c (po_iload _ _) (po_c (po_callV pvX4_nameReaches) (po_c (po_br1 _ _) (po_c (po_iload _ _) (po_c po_iret (po_c (po_iinc _ _) (po_c (po_goto _) (po_c (po_push _ _) (po_c po_iret (po_n)))))))))))))))))))
theorem pvX4_countCalledBy : PF FX4_countCalledBy := PF_den (tab := tX4_countCalledBy) (po_c (po_push _ _) (po_c (po_istore _ _) (po_c (po_push _ _) (po_c (po_istore _ _) (po_c (po_iload _ _) (po_c (po_push _ _) (po_c (po_br2 _ _) (po_c (po_aload _ _) (po_c (po_iload _ _) (po_c (po_push _ _) (po_c (po_callV pvX4_callerOf) (po_c (po_iload _ _) (po_c (po_br2 _ _) (po_c (po_iinc _ _) (po_c (po_iinc _ _) (po_c (po_goto _) (po_c (po_iload _ _) (po_c po_iret (po_n)))))))))))))))))))
theorem pvX4_countMissedBySharpness : PF FX4_countMissedBySharpness := PF_den (tab := tX4_countMissedBySharpness) (po_c (po_aload _ _) (po_c (po_iload _ _) (po_c (po_push _ _) (po_c (po_callV pvX4_shadeOf) (po_c (po_istore _ _) (po_c (po_aload _ _) (po_c (po_getR _ _) (po_c (po_iload _ _) (po_c po_aald (po_c (po_getI _ _) (po_c (po_istore _ _) (po_c (po_push _ _) (po_c (po_iload _ _) (po_c (po_iload _ _) (po_c (po_call pvX1_countReached) (po_c (po_aload _ _) (po_c (po_getR _ _) (po_c (po_iload _ _) (po_c po_aald (po_c (po_getI _ _) (po_c (po_iload _ _) (po_c (po_iload _ _) (po_c (po_call pvX1_countReached) (po_c (po_ii _) (po_c po_iret (po_n))))))))))))))))))))))))))
theorem pvX4_countReachedOfOwnLight : PF FX4_countReachedOfOwnLight := PF_den (tab := tX4_countReachedOfOwnLight) (po_c (po_aload _ _) (po_c (po_iload _ _) (po_c (po_push _ _) (po_c (po_callV pvX4_shadeOf) (po_c (po_call pvX6_partA) (po_c (po_istore _ _) (po_c (po_push _ _) (po_c (po_istore _ _) (po_c (po_push _ _) (po_c (po_istore _ _) (po_c (po_iload _ _) (po_c (po_push _ _) (po_c (po_br2 _ _) (po_c (po_iload _ _) (po_c (po_call pvX6_partA) (po_c (po_iload _ _) (po_c (po_br2 _ _) (po_c (po_aload _ _) (po_c (po_iload _ _) (po_c (po_iload _ _) (po_c (po_push _ _) (po_c (po_callV pvX4_nameReaches) (po_c (po_br1 _ _) (po_c (po_iinc _ _) (po_c (po_iinc _ _) (po_c (po_goto _) (po_c (po_iload _ _) (po_c po_iret (po_n)))))))))))))))))))))))))))))
theorem pvX4_countOthersReached : PF FX4_countOthersReached := PF_den (tab := tX4_countOthersReached) (po_c (po_push _ _) (po_c (po_istore _ _) (po_c (po_push _ _) (po_c (po_istore _ _) (po_c (po_iload _ _) (po_c (po_aload _ _) (po_c (po_getI _ _) (po_c (po_br2 _ _) (po_c (po_iload _ _) (po_c (po_iload _ _) (po_c (po_br2 _ _) (po_c (po_aload _ _) (po_c (po_iload _ _) (po_c (po_aload _ _) (po_c (po_iload _ _) (po_c (po_push _ _) (po_c (po_callV pvX4_shadeOf) (po_c (po_push _ _) (po_c (po_callV pvX4_nameReaches) (po_c (po_br1 _ _) (po_c (po_iinc _ _) (po_c (po_iinc _ _) (po_c (po_goto _) (po_c (po_iload _ _) (po_c po_iret (po_n))))))))))))))))))))))))))
theorem pvX4_countReachedBehindOthers : PF FX4_countReachedBehindOthers := PF_den (tab := tX4_countReachedBehindOthers) (po_c (po_push _ _) (po_c (po_istore _ _) (po_c (po_push _ _) (po_c (po_istore _ _) (po_c (po_iload _ _) (po_c (po_push _ _) (po_c (po_br2 _ _) (po_c (po_aload _ _) (po_c (po_iload _ _) (po_c (po_iload _ _) (po_c (po_push _ _) (po_c (po_callV pvX4_nameReaches) (po_c (po_br1 _ _) (po_c (po_aload _ _) (po_c (po_iload _ _) (po_c (po_push _ _) (po_c (po_callV pvX4_callerOf) (po_c (po_iload _ _) (po_c (po_br2 _ _) (po_c (po_iinc _ _) (po_c (po_iinc _ _) (po_c (po_goto _) (po_c (po_iload _ _) (po_c po_iret (po_n)))))))))))))))))))))))))
theorem pvX8_mark : PF FX8_mark := PF_den (tab := tX8_mark) (po_c (po_iload _ _) (po_c (po_aload _ _) (po_c (po_getR _ _) (po_c (po_getI _ _) (po_c (po_call pvX8_among) (po_c (po_br1 _ _) (po_c (po_iload _ _) (po_c (po_push _ _) (po_c (po_call pvX8_among) (po_c (po_br1 _ _) (po_c (po_iload _ _) (po_c (po_br1 _ _) (po_c (po_push _ _) (po_c po_iret (po_c (po_aload _ _) (po_c (po_getR _ _) (po_c (po_getR _ _) (po_c (po_iload _ _) (po_c po_aald (po_c (po_getI _ _) (po_c (po_iload _ _) (po_c (po_call pvX1_isOf) (po_c (po_br1 _ _) (po_c (po_aload _ _) (po_c (po_push _ _) (po_c (po_callV pvX8_findingOf) (po_c po_iret (po_c (po_iload _ _) (po_c (po_switch _ _) (po_c (po_aload _ _) (po_c (po_getR _ _) (po_c (po_iload _ _) (po_c (po_callV pvX4_countCalledBy) (po_c po_iret (po_c (po_aload _ _) (po_c (po_getR _ _) (po_c (po_iload _ _) (po_c (po_callV pvX4_countMissedBySharpness) (po_c po_iret (po_c (po_aload _ _) (po_c (po_getR _ _) (po_c (po_iload _ _) (po_c (po_callV pvX4_countReachedOfOwnLight) (po_c po_iret (po_c (po_aload _ _) (po_c (po_getR _ _) (po_c (po_iload _ _) (po_c (po_callV pvX4_countOthersReached) (po_c po_iret (po_c (po_aload _ _) (po_c (po_getR _ _) (po_c (po_iload _ _) (po_c (po_callV pvX4_countReachedBehindOthers) (po_c po_iret (po_n)))))))))))))))))))))))))))))))))))))))))))))))))))))))
theorem pvX8_due : PF FX8_due := PF_den (tab := tX8_due) (po_c (po_iload _ _) (po_c (po_aload _ _) (po_c (po_getR _ _) (po_c (po_getI _ _) (po_c (po_call pvX8_among) (po_c (po_br1 _ _) (po_c (po_iload _ _) (po_c (po_push _ _) (po_c (po_call pvX8_among) (po_c (po_br1 _ _) (po_c (po_push _ _) (po_c po_iret (po_c (po_aload _ _) (po_c (po_getR _ _) (po_c (po_getR _ _) (po_c (po_iload _ _) (po_c po_aald (po_c (po_getI _ _) (po_c (po_istore _ _) (po_c (po_aload _ _) (po_c (po_getR _ _) (po_c (po_getR _ _) (po_c (po_iload _ _) (po_c po_aald (po_c (po_iload _ _) (po_c (po_putI _ (by decide)) (po_c (po_iload _ _) (po_c po_iret (po_n)))))))))))))))))))))))))))))
theorem pvX4_addSaid : PF FX4_addSaid := PF_den (tab := tX4_addSaid) (po_c (po_aload _ _) (po_c (po_callV pvX4_grow) (po_c (po_astore _ _) (po_c (po_aload _ _) (po_c (po_iload _ _) (po_c (po_putI _ (by decide)) (po_c (po_aload _ _) (po_c (po_iload _ _) (po_c (po_putI _ (by decide)) (po_c (po_aload _ _) (po_c (po_iload _ _) (po_c (po_putI _ (by decide)) (po_c (po_aload _ _) (po_c (po_iload _ _) (po_c (po_putI _ (by decide)) (po_c (po_aload _ _) (po_c (po_push _ _) (po_c (po_putI _ (by decide)) (po_c (po_aload _ _) (po_c (po_push _ _) (po_c (po_putZ _ (by decide)) (po_c (po_aload _ _) (po_c (po_getR _ _) (po_c (po_aload _ _) (po_c (po_getI _ _) (po_c (po_push _ _) (po_c po_bastZ (po_c (po_aload _ _) (po_c po_dup (po_c (po_getI _ _) (po_c (po_push _ _) (po_c (po_ii _) (po_c (po_putI _ (by decide)) (po_c (po_aload _ _) (po_c (po_getI _ _) (po_c (po_push _ _) (po_c (po_ii _) (po_c po_iret (po_n)))))))))))))))))))))))))))))))))))))))
theorem pvX8_say : PF FX8_say := PF_den (tab := tX8_say) (po_c (po_iload _ _) (po_c (po_push _ _) (po_c (po_call pvX8_among) (po_c (po_br1 _ _) (po_c (po_iload _ _) (po_c (po_push _ _) (po_c (po_call pvX8_among) (po_c (po_br1 _ _) (po_c (po_iload _ _) (po_c (po_push _ _) (po_c (po_call pvX8_among) (po_c (po_br1 _ _) (po_c (po_iload _ _) (po_c (po_push _ _) (po_c (po_call pvX8_among) (po_c (po_br1 _ _) (po_c (po_push _ _) (po_c po_iret (po_c (po_aload _ _) (po_c (po_getR _ _) (po_c (po_getI _ _) (po_c (po_br1 _ _) (po_c (po_aload _ _) (po_c (po_getR _ _) (po_c (po_iload _ _) (po_c (po_push _ _) (po_c (po_callV pvX4_callerOf) (po_c (po_push _ _) (po_c (po_br2 _ _) (po_c (po_push _ _) (po_c po_iret (po_c (po_aload _ _) (po_c (po_getR _ _) (po_c (po_getI _ _) (po_c (po_push _ _) (po_c (po_br2 _ _) (po_c (po_aload _ _) (po_c (po_getR _ _) (po_c (po_getI _ _) (po_c (po_push _ _) (po_c (po_br2 _ _) (po_c (po_push _ _) (po_c po_iret (po_c (po_aload _ _) (po_c (po_getR _ _) (po_c (po_iload _ _) (po_c (po_iload _ _) (po_c (po_iload _ _) (po_c (po_iload _ _) (po_c (po_callV pvX4_addSaid) (po_c po_iret (po_n))))))))))))))))))))))))))))))))))))))))))))))))))))
theorem pvX4_passYear : PF FX4_passYear := PF_den (tab := tX4_passYear) (po_c (po_push _ _) (po_c (po_istore _ _) (po_c (po_push _ _) (po_c (po_istore _ _) (po_c (po_iload _ _) (po_c (po_aload _ _) (po_c (po_getI _ _) (po_c (po_br2 _ _) (po_c (po_aload _ _) (po_c (po_iload _ _) (po_c (po_push _ _) (po_c (po_callV pvX4_shadeOf) (po_c (po_aload _ _) (po_c (po_iload _ _) (po_c (po_push _ _) (po_c (po_callV pvX4_shadeOf) (po_c (po_br2 _ _) (po_c (po_iinc _ _) (po_c (po_iinc _ _) (po_c (po_goto _) (po_c (po_aload _ _) (po_c (po_getR _ _) (po_c (po_aload _ _) (po_c (po_getI _ _) (po_c (po_push _ _) (po_c po_bastZ (po_c (po_aload _ _) (po_c po_dup (po_c (po_getI _ _) (po_c (po_push _ _) (po_c (po_ii _) (po_c (po_putI _ (by decide)) (po_c (po_aload _ _) (po_c po_dup (po_c (po_getI _ _) (po_c (po_push _ _) (po_c (po_ii _) (po_c (po_putI _ (by decide)) (po_c (po_iload _ _) (po_c po_iret (po_n)))))))))))))))))))))))))))))))))))))))))
theorem pvX8_year : PF FX8_year := PF_den (tab := tX8_year) (po_c (po_aload _ _) (po_c (po_getR _ _) (po_c (po_getI _ _) (po_c (po_br1 _ _) (po_c (po_push _ _) (po_c po_iret (po_c (po_aload _ _) (po_c (po_getR _ _) (po_c (po_getI _ _) (po_c (po_push _ _) (po_c (po_br2 _ _) (po_c (po_push _ _) (po_c po_iret (po_c (po_aload _ _) (po_c (po_getR _ _) (po_c (po_callV pvX4_passYear) (po_c po_iret (po_n))))))))))))))))))
theorem pvX4_undoFrom : PF FX4_undoFrom := PF_den (tab := tX4_undoFrom) (po_c (po_aload _ _) (po_c (po_getI _ _) (po_c (po_iload _ _) (po_c (po_ii _) (po_c (po_istore _ _) (po_c (po_iload _ _) (po_c (po_istore _ _) (po_c (po_iload _ _) (po_c (po_aload _ _) (po_c (po_getI _ _) (po_c (po_br2 _ _) (po_c (po_aload _ _) (po_c (po_getR _ _) (po_c (po_iload _ _) (po_c po_bald (po_c (po_br1 _ _) (po_c (po_aload _ _) (po_c po_dup (po_c (po_getI _ _) (po_c (po_push _ _) (po_c (po_ii _) (po_c (po_putI _ (by decide)) (po_c (po_goto _) (po_c (po_aload _ _) (po_c po_dup (po_c (po_getI _ _) (po_c (po_push _ _) (po_c (po_ii _) (po_c (po_putI _ (by decide)) (po_c (po_iinc _ _) (po_c (po_goto _) (po_c (po_aload _ _) (po_c (po_iload _ _) (po_c (po_putI _ (by decide)) (po_c (po_iload _ _) (po_c po_iret (po_n)))))))))))))))))))))))))))))))))))))
theorem pvX8_undo : PF FX8_undo := PF_den (tab := tX8_undo) (po_c (po_iload _ _) (po_c (po_aload _ _) (po_c (po_getR _ _) (po_c (po_getI _ _) (po_c (po_push _ _) (po_c (po_ii _) (po_c (po_call pvX8_among) (po_c (po_br1 _ _) (po_c (po_push _ _) (po_c po_iret (po_c (po_aload _ _) (po_c (po_getR _ _) (po_c (po_iload _ _) (po_c (po_callV pvX4_undoFrom) (po_c po_iret (po_n))))))))))))))))
theorem pvX2_takeFrom : PF FX2_takeFrom := PF_den (tab := tX2_takeFrom) (po_c (po_aload _ _) (po_c (po_aload _ _) (po_c (po_getI _ _) (po_c (po_putI _ (by decide)) (po_c (po_aload _ _) (po_c (po_aload _ _) (po_c (po_getI _ _) (po_c (po_putI _ (by decide)) (po_c (po_aload _ _) (po_c (po_aload _ _) (po_c (po_getI _ _) (po_c (po_putI _ (by decide)) (po_c (po_aload _ _) (po_c (po_aload _ _) (po_c (po_getI _ _) (po_c (po_putI _ (by decide)) (po_c (po_aload _ _) (po_c (po_aload _ _) (po_c (po_getI _ _) (po_c (po_putI _ (by decide)) (po_c (po_aload _ _) (po_c (po_aload _ _) (po_c (po_getI _ _) (po_c (po_putZ _ (by decide)) (po_c po_vret (po_n))))))))))))))))))))))))))
theorem pvX4_become : PF FX4_become := PF_den (tab := tX4_become) (po_c (po_aload _ _) (po_c (po_aload _ _) (po_c (po_getI _ _) (po_c (po_putI _ (by decide)) (po_c (po_aload _ _) (po_c (po_aload _ _) (po_c (po_getI _ _) (po_c (po_putI _ (by decide)) (po_c (po_aload _ _) (po_c (po_aload _ _) (po_c (po_getI _ _) (po_c (po_putI _ (by decide)) (po_c (po_push _ _) (po_c (po_istore _ _) (po_c (po_iload _ _) (po_c (po_push _ _) (po_c (po_br2 _ _) (po_c (po_aload _ _) (po_c (po_getR _ _) (po_c (po_iload _ _) (po_c po_aald (po_c (po_aload _ _) (po_c (po_getR _ _) (po_c (po_iload _ _) (po_c po_aald (po_c (po_callV pvX2_takeFrom) (po_c (po_iinc _ _) (po_c (po_goto _) (po_c (po_push _ _) (po_c (po_istore _ _) (po_c (po_iload _ _) (po_c (po_push _ _) (po_c (po_br2 _ _) (po_c (po_aload _ _) (po_c (po_getR _ _) (po_c (po_iload _ _) (po_c (po_aload _ _) (po_c (po_getR _ _) (po_c (po_iload _ _) (po_c po_bald (po_c po_bastZ (po_c (po_iinc _ _) (po_c (po_goto _) (po_c po_vret (po_n)))))))))))))))))))))))))))))))))))))))))))))
theorem pvX8_keep : PF FX8_keep := PF_den (tab := tX8_keep) (po_c (po_iload _ _) (po_c (po_push _ _) (po_c (po_call pvX8_among) (po_c (po_br1 _ _) (po_c (po_push _ _) (po_c po_iret (po_c (po_aload _ _) (po_c (po_getR _ _) (po_c (po_getI _ _) (po_c (po_br1 _ _) (po_c (po_push _ _) (po_c po_iret (po_c (po_aload _ _) (po_c (po_getR _ _) (po_c (po_iload _ _) (po_c po_aald (po_c (po_aload _ _) (po_c (po_getR _ _) (po_c (po_callV pvX4_become) (po_c (po_aload _ _) (po_c (po_getR _ _) (po_c (po_getI _ _) (po_c po_iret (po_n))))))))))))))))))))))))
theorem pvX8_on : PF FX8_on := PF_den (tab := tX8_on) (po_c (po_iload _ _) (po_c (po_push _ _) (po_c (po_call pvX8_among) (po_c (po_br1 _ _) (po_c (po_push _ _) (po_c po_iret (po_c (po_aload _ _) (po_c (po_getR _ _) (po_c (po_iload _ _) (po_c po_aald (po_c (po_getI _ _) (po_c (po_br1 _ _) (po_c (po_aload _ _) (po_c (po_push _ _) (po_c (po_callV pvX8_findingOf) (po_c po_iret (po_c (po_aload _ _) (po_c (po_getR _ _) (po_c (po_aload _ _) (po_c (po_getR _ _) (po_c (po_iload _ _) (po_c po_aald (po_c (po_callV pvX4_become) (po_c (po_aload _ _) (po_c (po_getR _ _) (po_c (po_getI _ _) (po_c po_iret (po_n))))))))))))))))))))))))))))
theorem pvX8_farApart : PF FX8_farApart := PF_den (tab := tX8_farApart) (po_c (po_push _ _) (po_c (po_iload _ _) (po_c (po_iload _ _) (po_c (po_call pvX1_farFrom) (po_c po_iret (po_n))))))
theorem pvX8_apart : PF FX8_apart := PF_den (tab := tX8_apart) (po_c (po_iload _ _) (po_c (po_push _ _) (po_c (po_call pvX8_among) (po_c (po_br1 _ _) (po_c (po_iload _ _) (po_c (po_push _ _) (po_c (po_call pvX8_among) (po_c (po_br1 _ _) (po_c (po_push _ _) (po_c po_iret (po_c (po_iload _ _) (po_c (po_iload _ _) (po_c (po_call pvX8_farApart) (po_c po_iret (po_n)))))))))))))))
theorem pvX4_reachersOf : PF FX4_reachersOf := PF_den (tab := tX4_reachersOf) (po_c (po_push _ _) (po_c (po_istore _ _) (po_c (po_push _ _) (po_c (po_istore _ _) (po_c (po_iload _ _) (po_c (po_aload _ _) (po_c (po_getI _ _) (po_c (po_br2 _ _) (po_c (po_aload _ _) (po_c (po_iload _ _) (po_c (po_iload _ _) (po_c (po_push _ _) (po_c (po_callV pvX4_nameReaches) (po_c (po_br1 _ _) (po_c (po_iload _ _) (po_c (po_push _ _) (po_c (po_iload _ _) (po_c (po_ii _) (po_c (po_ii _) (po_c (po_istore _ _) (po_c (po_iinc _ _) (po_c (po_goto _) (po_c (po_iload _ _) (po_c po_iret (po_n)))))))))))))))))))))))))
theorem pvX8_called : PF FX8_called := PF_den (tab := tX8_called) (po_c (po_iload _ _) (po_c (po_push _ _) (po_c (po_call pvX8_among) (po_c (po_br1 _ _) (po_c (po_push _ _) (po_c po_iret (po_c (po_aload _ _) (po_c (po_aload _ _) (po_c (po_getR _ _) (po_c (po_iload _ _) (po_c (po_callV pvX4_reachersOf) (po_c (po_putI _ (by decide)) (po_c (po_aload _ _) (po_c (po_getR _ _) (po_c (po_iload _ _) (po_c (po_push _ _) (po_c (po_callV pvX4_callerOf) (po_c po_iret (po_n)))))))))))))))))))
theorem pvX2_owed : PF FX2_owed := PF_den (tab := tX2_owed) (po_c (po_aload _ _) (po_c (po_getI _ _) (po_c (po_push _ _) (po_c (po_br2 _ _) (po_c (po_push _ _) (po_c (po_goto _) (po_c (po_aload _ _) (po_c (po_getI _ _) (po_c po_iret (po_n))))))))))
theorem pvX4_owedBy : PF FX4_owedBy := PF_den (tab := tX4_owedBy) (po_c (po_aload _ _) (po_c (po_iload _ _) (po_c (po_push _ _) (po_c (po_callV pvX4_callerOf) (po_c (po_istore _ _) (po_c (po_iload _ _) (po_c (po_push _ _) (po_c (po_br2 _ _) (po_c (po_aload _ _) (po_c (po_getR _ _) (po_c (po_iload _ _) (po_c po_aald (po_c (po_getI _ _) (po_c (po_iload _ _) (po_c (po_br2 _ _) (po_c (po_push _ _) (po_c (po_goto _) (po_c (po_aload _ _) (po_c (po_getR _ _) (po_c (po_iload _ _) (po_c po_aald (po_c (po_callV pvX2_owed) (po_c po_iret (po_n))))))))))))))))))))))))
theorem pvX8_owes : PF FX8_owes := PF_den (tab := tX8_owes) (po_c (po_iload _ _) (po_c (po_push _ _) (po_c (po_call pvX8_among) (po_c (po_br1 _ _) (po_c (po_iload _ _) (po_c (po_push _ _) (po_c (po_call pvX8_among) (po_c (po_br1 _ _) (po_c (po_push _ _) (po_c po_iret (po_c (po_aload _ _) (po_c (po_getR _ _) (po_c (po_iload _ _) (po_c (po_iload _ _) (po_c (po_callV pvX4_owedBy) (po_c po_iret (po_n)))))))))))))))))
theorem pvX4_isDisputed : PF FX4_isDisputed := PF_den (tab := tX4_isDisputed) (po_c (po_push _ _) (po_c (po_istore _ _) (po_c (po_push _ _) (po_c (po_istore _ _) (po_c (po_iload _ _) (po_c (po_aload _ _) (po_c (po_getI _ _) (po_c (po_br2 _ _) (po_c (po_aload _ _) (po_c (po_iload _ _) (po_c (po_iload _ _) (po_c (po_push _ _) (po_c (po_callV pvX4_nameReaches) (po_c (po_br1 _ _) (po_c (po_iload _ _) (po_c (po_push _ _) (po_c (po_br2 _ _) (po_c (po_iload _ _) (po_c (po_aload _ _) (po_c (po_getR _ _) (po_c (po_iload _ _) (po_c po_aald (po_c (po_getI _ _) (po_c (po_br2 _ _) (po_c (po_push _ _) (po_c po_iret (po_c (po_aload _ _) (po_c (po_getR _ _) (po_c (po_iload _ _) (po_c po_aald (po_c (po_getI _ _) (po_c (po_istore _ _) (po_c (po_iinc _ _) (po_c (po_goto _) (po_c (po_push _ _) (po_c po_iret (po_n)))))))))))))))))))))))))))))))))))))
theorem pvX8_tellChosen : PF FX8_tellChosen := PF_den (tab := tX8_tellChosen) (po_c (po_push _ _) (po_c (po_istore _ _) (po_c (po_aload _ _) (po_c (po_push _ _) (po_c (po_putI _ (by decide)) (po_c (po_push _ _) (po_c (po_istore _ _) (po_c (po_iload _ _) (po_c (po_push _ _) (po_c (po_br2 _ _) (po_c (po_aload _ _) (po_c (po_getR _ _) (po_c (po_iload _ _) (po_c po_bald (po_c (po_br1 _ _) (po_c (po_aload _ _) (po_c po_dup (po_c (po_getI _ _) (po_c (po_push _ _) (po_c (po_ii _) (po_c (po_putI _ (by decide)) (po_c (po_iload _ _) (po_c (po_push _ _) (po_c (po_br2 _ _) (po_c (po_iload _ _) (po_c (po_istore _ _) (po_c (po_iinc _ _) (po_c (po_goto _) (po_c (po_iload _ _) (po_c po_iret (po_n)))))))))))))))))))))))))))))))
theorem pvX8_disputed : PF FX8_disputed := PF_den (tab := tX8_disputed) (po_c (po_push _ _) (po_c (po_istore _ _) (po_c (po_iload _ _) (po_c (po_push _ _) (po_c (po_br2 _ _) (po_c (po_aload _ _) (po_c (po_getR _ _) (po_c (po_iload _ _) (po_c (po_aload _ _) (po_c (po_getR _ _) (po_c (po_iload _ _) (po_c (po_callV pvX4_isDisputed) (po_c po_bastZ (po_c (po_iinc _ _) (po_c (po_goto _) (po_c (po_aload _ _) (po_c (po_callV pvX8_tellChosen) (po_c po_iret (po_n)))))))))))))))))))
theorem pvX8_free : PF FX8_free := PF_den (tab := tX8_free) (po_c (po_push _ _) (po_c (po_istore _ _) (po_c (po_iload _ _) (po_c (po_push _ _) (po_c (po_br2 _ _) (po_c (po_aload _ _) (po_c (po_getR _ _) (po_c (po_iload _ _) (po_c (po_aload _ _) (po_c (po_getR _ _) (po_c (po_iload _ _) (po_c (po_push _ _) (po_c (po_callV pvX4_callerOf) (po_c (po_push _ _) (po_c (po_br2 _ _) (po_c (po_push _ _) (po_c (po_goto _) (po_c (po_push _ _) (po_c po_bastZ (po_c (po_iinc _ _) (po_c (po_goto _) (po_c (po_aload _ _) (po_c (po_callV pvX8_tellChosen) (po_c po_iret (po_n)))))))))))))))))))))))))
theorem pvX8_reachesOpenAlone : PF FX8_reachesOpenAlone := PF_den (tab := tX8_reachesOpenAlone) (po_c (po_push _ _) (po_c (po_istore _ _) (po_c (po_iload _ _) (po_c (po_push _ _) (po_c (po_br2 _ _) (po_c (po_aload _ _) (po_c (po_getR _ _) (po_c (po_iload _ _) (po_c po_bald (po_c (po_br1 _ _) (po_c (po_iload _ _) (po_c (po_iload _ _) (po_c (po_iload _ _) (po_c (po_iload _ _) (po_c (po_call pvX1_reaches) (po_c (po_br1 _ _) (po_c (po_push _ _) (po_c po_iret (po_c (po_iinc _ _) (po_c (po_goto _) (po_c (po_push _ _) (po_c po_iret (po_n)))))))))))))))))))))))
theorem pvX8_gap : PF FX8_gap := PF_den (tab := tX8_gap) (po_c (po_iload _ _) (po_c (po_push _ _) (po_c (po_call pvX8_among) (po_c (po_br1 _ _) (po_c (po_iload _ _) (po_c (po_push _ _) (po_c (po_call pvX8_among) (po_c (po_br1 _ _) (po_c (po_push _ _) (po_c po_iret (po_c (po_push _ _) (po_c (po_istore _ _) (po_c (po_iload _ _) (po_c (po_push _ _) (po_c (po_br2 _ _) (po_c (po_aload _ _) (po_c (po_getR _ _) (po_c (po_iload _ _) (po_c (po_aload _ _) (po_c (po_getR _ _) (po_c (po_iload _ _) (po_c (po_push _ _) (po_c (po_callV pvX4_callerOf) (po_c (po_push _ _) (po_c (po_br2 _ _) (po_c (po_push _ _) (po_c (po_goto _) (po_c (po_push _ _) (po_c po_bastZ (po_c (po_iinc _ _) (po_c (po_goto _) (po_c (po_push _ _) (po_c (po_istore _ _) (po_c (po_iload _ _) (po_c (po_push _ _) (po_c (po_br2 _ _) (po_c (po_aload _ _) (po_c (po_getR _ _) (po_c (po_iload _ _) (po_c (po_aload _ _) (po_c (po_getR _ _) (po_c (po_iload _ _) (po_c po_bald (po_c (po_br1 _ _) (po_c (po_aload _ _) (po_c (po_iload _ _) (po_c (po_iload _ _) (po_c (po_iload _ _) (po_c (po_callV pvX8_reachesOpenAlone) (po_c (po_br1 _ _) (po_c (po_push _ _) (po_c (po_goto _) (po_c (po_push _ _) (po_c po_bastZ (po_c (po_iinc _ _) (po_c (po_goto _) (po_c (po_aload _ _) (po_c (po_callV pvX8_tellChosen) (po_c po_iret (po_n))))))))))))))))))))))))))))))))))))))))))))))))))))))))))))
theorem pvX5_holdsOnlyBelow : PF FX5_holdsOnlyBelow := PF_den (tab := tX5_holdsOnlyBelow) (po_c (po_push _ _) (po_c (po_istore _ _) (po_c (po_iload _ _) (po_c (po_aload _ _) (po_c (po_getI _ _) (po_c (po_br2 _ _) (po_c (po_aload _ _) (po_c (po_getR _ _) (po_c (po_iload _ _) (po_c po_iald (po_c (po_iload _ _) (po_c (po_call pvX8_among) (po_c (po_br1 _ _) (po_c (po_push _ _) (po_c po_iret (po_c (po_iinc _ _) (po_c (po_goto _) (po_c (po_push _ _) (po_c po_iret (po_n))))))))))))))))))))
theorem pvX8_refusalOfShades : PF FX8_refusalOfShades := PF_den (tab := tX8_refusalOfShades) (po_c (po_aload _ _) (po_c (po_iload _ _) (po_c (po_callV pvX8_refusalOfRow) (po_c (po_istore _ _) (po_c (po_iload _ _) (po_c (po_br1 _ _) (po_c (po_iload _ _) (po_c po_iret (po_c (po_aload _ _) (po_c (po_getR _ _) (po_c (po_iload _ _) (po_c po_aald (po_c (po_getI _ _) (po_c (po_iload _ _) (po_c (po_br2 _ _) (po_c (po_aload _ _) (po_c (po_getR _ _) (po_c (po_iload _ _) (po_c po_aald (po_c (po_getI _ _) (po_c (po_iload _ _) (po_c (po_br2 _ _) (po_c (po_aload _ _) (po_c (po_push _ _) (po_c (po_callV pvX8_findingOf) (po_c po_iret (po_c (po_aload _ _) (po_c (po_getR _ _) (po_c (po_iload _ _) (po_c po_aald (po_c (po_push _ _) (po_c (po_callV pvX5_holdsOnlyBelow) (po_c (po_br1 _ _) (po_c (po_push _ _) (po_c (po_goto _) (po_c (po_aload _ _) (po_c (po_push _ _) (po_c (po_callV pvX8_findingOf) (po_c po_iret (po_n))))))))))))))))))))))))))))))))))))))))
theorem pvX4_owedTo : PF FX4_owedTo := PF_den (tab := tX4_owedTo) (po_c (po_aload _ _) (po_c (po_iload _ _) (po_c (po_push _ _) (po_c (po_callV pvX4_callerOf) (po_c (po_istore _ _) (po_c (po_iload _ _) (po_c (po_push _ _) (po_c (po_br2 _ _) (po_c (po_aload _ _) (po_c (po_getR _ _) (po_c (po_iload _ _) (po_c po_aald (po_c (po_getI _ _) (po_c (po_iload _ _) (po_c (po_br2 _ _) (po_c (po_push _ _) (po_c (po_goto _) (po_c (po_aload _ _) (po_c (po_getR _ _) (po_c (po_iload _ _) (po_c po_aald (po_c (po_callV pvX2_owed) (po_c po_iret (po_n))))))))))))))))))))))))
theorem pvX8_lives : PF FX8_lives := PF_den (tab := tX8_lives) (po_c (po_iload _ _) (po_c (po_push _ _) (po_c (po_call pvX8_among) (po_c (po_br1 _ _) (po_c (po_push _ _) (po_c po_iret (po_c (po_aload _ _) (po_c (po_iload _ _) (po_c (po_push _ _) (po_c (po_push _ _) (po_c (po_callV pvX8_refusalOfShades) (po_c (po_istore _ _) (po_c (po_iload _ _) (po_c (po_br1 _ _) (po_c (po_iload _ _) (po_c po_iret (po_c (po_push _ _) (po_c (po_istore _ _) (po_c (po_push _ _) (po_c (po_istore _ _) (po_c (po_iload _ _) (po_c (po_aload _ _) (po_c (po_getR _ _) (po_c (po_iload _ _) (po_c po_aald (po_c (po_getI _ _) (po_c (po_br2 _ _) (po_c (po_iload _ _) (po_c (po_push _ _) (po_c (po_aload _ _) (po_c (po_getR _ _) (po_c (po_iload _ _) (po_c (po_aload _ _) (po_c (po_getR _ _) (po_c (po_iload _ _) (po_c po_aald (po_c (po_getR _ _) (po_c (po_iload _ _) (po_c po_iald (po_c (po_callV pvX4_owedTo) (po_c (po_ii _) (po_c (po_ii _) (po_c (po_istore _ _) (po_c (po_iinc _ _) (po_c (po_goto _) (po_c (po_iload _ _) (po_c po_iret (po_n))))))))))))))))))))))))))))))))))))))))))))))))
theorem pvX0_placesReached : PF FX0_placesReached := PF_den (tab := tX0_placesReached) (po_c (po_push _ _) (po_c (po_istore _ _) (po_c (po_push _ _) (po_c (po_istore _ _) (po_c (po_iload _ _) (po_c (po_aload _ _) (po_c (po_getI _ _) (po_c (po_br2 _ _) (po_c (po_push _ _) (po_c (po_iload _ _) (po_c (po_iload _ _) (po_c (po_aload _ _) (po_c (po_getR _ _) (po_c (po_iload _ _) (po_c po_iald (po_c (po_call pvX1_reaches) (po_c (po_br1 _ _) (po_c (po_iload _ _) (po_c (po_push _ _) (po_c (po_iload _ _) (po_c (po_ii _) (po_c (po_ii _) (po_c (po_istore _ _) (po_c (po_iinc _ _) (po_c (po_goto _) (po_c (po_iload _ _) (po_c po_iret (po_n))))))))))))))))))))))))))))
theorem pvX0_fewestOf : PF FX0_fewestOf := PF_den (tab := tX0_fewestOf) (po_c (po_push _ _) (po_c (po_istore _ _) (po_c (po_push _ _) (po_c (po_istore _ _) (po_c (po_iload _ _) (po_c (po_iload _ _) (po_c (po_br2 _ _) (po_c (po_aload _ _) (po_c (po_getR _ _) (po_c (po_iload _ _) (po_c po_bald (po_c (po_br1 _ _) (po_c (po_iload _ _) (po_c (po_iload _ _) (po_c (po_ii _) (po_c (po_br1 _ _) (po_c (po_iload _ _) (po_c (po_push _ _) (po_c (po_aload _ _) (po_c (po_getR _ _) (po_c (po_iload _ _) (po_c (po_iload _ _) (po_c (po_push _ _) (po_c (po_ii _) (po_c (po_ii _) (po_c po_iald (po_c (po_ii _) (po_c po_min (po_c (po_istore _ _) (po_c (po_iinc _ _) (po_c (po_goto _) (po_c (po_iload _ _) (po_c po_iret (po_n))))))))))))))))))))))))))))))))))
theorem pvX0_fewest : PF FX0_fewest := PF_den (tab := tX0_fewest) (po_c (po_push _ _) (po_c (po_aload _ _) (po_c (po_getI _ _) (po_c (po_ii _) (po_c (po_istore _ _) (po_c (po_push _ _) (po_c (po_istore _ _) (po_c (po_iload _ _) (po_c (po_iload _ _) (po_c (po_br2 _ _) (po_c (po_aload _ _) (po_c (po_getR _ _) (po_c (po_iload _ _) (po_c (po_push _ _) (po_c po_bastZ (po_c (po_iinc _ _) (po_c (po_goto _) (po_c (po_push _ _) (po_c (po_istore _ _) (po_c (po_iload _ _) (po_c (po_push _ _) (po_c (po_br2 _ _) (po_c (po_aload _ _) (po_c (po_getR _ _) (po_c (po_aload _ _) (po_c (po_iload _ _) (po_c (po_iload _ _) (po_c (po_call pvX0_placesReached) (po_c (po_push _ _) (po_c po_bastZ (po_c (po_iinc _ _) (po_c (po_goto _) (po_c (po_aload _ _) (po_c (po_getR _ _) (po_c (po_push _ _) (po_c (po_push _ _) (po_c po_iast (po_c (po_push _ _) (po_c (po_istore _ _) (po_c (po_iload _ _) (po_c (po_iload _ _) (po_c (po_br2 _ _) (po_c (po_aload _ _) (po_c (po_getR _ _) (po_c (po_iload _ _) (po_c (po_aload _ _) (po_c (po_iload _ _) (po_c (po_iload _ _) (po_c (po_callV pvX0_fewestOf) (po_c po_iast (po_c (po_iinc _ _) (po_c (po_goto _) (po_c (po_aload _ _) (po_c (po_getR _ _) (po_c (po_iload _ _) (po_c (po_push _ _) (po_c (po_ii _) (po_c po_iald (po_c po_iret (po_n))))))))))))))))))))))))))))))))))))))))))))))))))))))))))))
theorem pvX8_cover : PF FX8_cover := PF_den (tab := tX8_cover) (po_c (po_iload _ _) (po_c (po_push _ _) (po_c (po_call pvX8_among) (po_c (po_br1 _ _) (po_c (po_push _ _) (po_c po_iret (po_c (po_aload _ _) (po_c (po_iload _ _) (po_c (po_push _ _) (po_c (po_push _ _) (po_c (po_callV pvX8_refusalOfShades) (po_c (po_istore _ _) (po_c (po_iload _ _) (po_c (po_br1 _ _) (po_c (po_iload _ _) (po_c (po_goto _) (po_c (po_aload _ _) (po_c (po_getR _ _) (po_c (po_aload _ _) (po_c (po_getR _ _) (po_c (po_iload _ _) (po_c po_aald (po_c (po_iload _ _) (po_c (po_callV pvX0_fewest) (po_c po_iret (po_n))))))))))))))))))))))))))
theorem pvJ6_bitCount_0f7a4 : PF FJ6_bitCount_0f7a4 := PF_den (tab := tJ6_bitCount_0f7a4) (po_c (po_iload _ _) (po_c (po_iload _ _) (po_c (po_push _ _) (po_c (po_ii _) (po_c (po_push _ _) (po_c (po_ii _) (po_c (po_ii _) (po_c (po_istore _ _) (po_c (po_iload _ _) (po_c (po_push _ _) (po_c (po_ii _) (po_c (po_iload _ _) (po_c (po_push _ _) (po_c (po_ii _) (po_c (po_push _ _) (po_c (po_ii _) (po_c (po_ii _) (po_c (po_istore _ _) (po_c (po_iload _ _) (po_c (po_iload _ _) (po_c (po_push _ _) (po_c (po_ii _) (po_c (po_ii _) (po_c (po_push _ _) (po_c (po_ii _) (po_c (po_istore _ _) (po_c (po_iload _ _) (po_c (po_iload _ _) (po_c (po_push _ _) (po_c (po_ii _) (po_c (po_ii _) (po_c (po_istore _ _) (po_c (po_iload _ _) (po_c (po_iload _ _) (po_c (po_push _ _) (po_c (po_ii _) (po_c (po_ii _) (po_c (po_istore _ _) (po_c (po_iload _ _) (po_c (po_push _ _) (po_c (po_ii _) (po_c po_iret (po_n)))))))))))))))))))))))))))))))))))))))))))
theorem pvX8_best : PF FX8_best := PF_den (tab := tX8_best) (po_c (po_iload _ _) (po_c (po_push _ _) (po_c (po_call pvX8_among) (po_c (po_br1 _ _) (po_c (po_push _ _) (po_c po_iret (po_c (po_aload _ _) (po_c (po_iload _ _) (po_c (po_push _ _) (po_c (po_push _ _) (po_c (po_callV pvX8_refusalOfShades) (po_c (po_istore _ _) (po_c (po_iload _ _) (po_c (po_br1 _ _) (po_c (po_iload _ _) (po_c po_iret (po_c (po_push _ _) (po_c (po_istore _ _) (po_c (po_push _ _) (po_c (po_istore _ _) (po_c (po_push _ _) (po_c (po_istore _ _) (po_c (po_iload _ _) (po_c (po_push _ _) (po_c (po_br2 _ _) (po_c (po_aload _ _) (po_c (po_getR _ _) (po_c (po_iload _ _) (po_c po_aald (po_c (po_iload _ _) (po_c (po_iload _ _) (po_c (po_call pvX0_placesReached) (po_c (po_call pvJ6_bitCount_0f7a4) (po_c (po_istore _ _) (po_c (po_iload _ _) (po_c (po_iload _ _) (po_c (po_br2 _ _) (po_c (po_iload _ _) (po_c (po_istore _ _) (po_c (po_iload _ _) (po_c (po_istore _ _) (po_c (po_iinc _ _) (po_c (po_goto _) (po_c (po_aload _ _) (po_c (po_iload _ _) (po_c (po_putI _ (by decide)) (po_c (po_iload _ _) (po_c po_iret (po_n)))))))))))))))))))))))))))))))))))))))))))))))))
theorem pvX3_lesser : PF FX3_lesser := PF_den (tab := tX3_lesser) (po_c (po_iload _ _) (po_c (po_push _ _) (po_c (po_br2 _ _) (po_c (po_iload _ _) (po_c (po_push _ _) (po_c (po_br2 _ _) (po_c (po_iload _ _) (po_c (po_push _ _) (po_c (po_br2 _ _) (po_c (po_iload _ _) (po_c (po_goto _) (po_c (po_iload _ _) (po_c po_iret (po_c (po_iload _ _) (po_c (po_iload _ _) (po_c po_min (po_c po_iret (po_n))))))))))))))))))
theorem pvX3_leastOf : PF FX3_leastOf := PF_den (tab := tX3_leastOf) (po_c (po_push _ _) (po_c (po_istore _ _) (po_c (po_push _ _) (po_c (po_istore _ _) (po_c (po_iload _ _) (po_c (po_iload _ _) (po_c (po_br2 _ _) (po_c (po_aload _ _) (po_c (po_aload _ _) (po_c (po_iload _ _) (po_c po_iald (po_c po_bald (po_c (po_br1 _ _) (po_c (po_iload _ _) (po_c (po_aload _ _) (po_c (po_iload _ _) (po_c po_iald (po_c (po_call pvX3_lesser) (po_c (po_istore _ _) (po_c (po_iinc _ _) (po_c (po_goto _) (po_c (po_iload _ _) (po_c po_iret (po_n))))))))))))))))))))))))
theorem pvX6_mixed : PF FX6_mixed := PF_den (tab := tX6_mixed) (po_c (po_iload _ _) (po_c (po_call pvX6_partA) (po_c (po_iload _ _) (po_c (po_call pvX6_partA) (po_c (po_ii _) (po_c (po_push _ _) (po_c po_idiv (po_c (po_iload _ _) (po_c (po_call pvX6_partB) (po_c (po_iload _ _) (po_c (po_call pvX6_partB) (po_c (po_ii _) (po_c (po_push _ _) (po_c po_idiv (po_c (po_iload _ _) (po_c (po_call pvX6_partC) (po_c (po_iload _ _) (po_c (po_call pvX6_partC) (po_c (po_ii _) (po_c (po_push _ _) (po_c po_idiv (po_c (po_call pvX6_of) (po_c po_iret (po_n))))))))))))))))))))))))
theorem ptX3_leastBy {f : List Value → xS → Option xR} (hf : PF f) : ∀ q ∈ tX3_leastBy f, PO q.2 := po_c (po_iload _ _) (po_c (po_br1 _ _) (po_c (po_iload _ _) (po_c (po_aload _ _) (po_c po_alen (po_c (po_br2 _ _) (po_c (po_iload _ _) (po_c (po_aload _ _) (po_c (po_aload _ _) (po_c (po_call pvX3_leastOf) (po_c po_iret (po_c (po_push _ _) (po_c (po_istore _ _) (po_c (po_push _ _) (po_c (po_istore _ _) (po_c (po_iload _ _) (po_c (po_iload _ _) (po_c (po_br2 _ _) (po_c (po_push _ _) (po_c (po_istore _ _) (po_c (po_iload _ _) (po_c (po_iload _ _) (po_c (po_br2 _ _) (po_c (po_aload _ _) (po_c (po_iload _ _) (po_c (po_aload _ _) (po_c (po_iload _ _) (po_c po_iald (po_c (po_aload _ _) (po_c (po_iload _ _) (po_c po_iald (po_c (po_call pvX6_mixed) (po_c po_iast (po_c (po_iload _ _) (po_c (po_iload _ _) (po_c (po_push _ _) (po_c (po_ii _) (po_c (po_iload _ _) (po_c (po_push _ _) (po_c (po_ii _) (po_c (po_aload _ _) (po_c (po_aload _ _) (po_c (po_call hf) (po_c (po_call pvX3_lesser) (po_c (po_istore _ _) (po_c (po_iinc _ _) (po_c (po_goto _) (po_c (po_iinc _ _) (po_c (po_goto _) (po_c (po_iload _ _) (po_c po_iret (po_n)))))))))))))))))))))))))))))))))))))))))))))))))))
theorem pgX3_leastBy : ∀ n, PF (GX3_leastBy n)
  | 0 => fun _ _ _ h => by cases h
  | n + 1 => PF_den (ptX3_leastBy (pgX3_leastBy n))
theorem pvX3_leastBy : PF FX3_leastBy := pgX3_leastBy 5
theorem pvX3_fewestMixings : PF FX3_fewestMixings := PF_den (tab := tX3_fewestMixings) (po_c (po_push _ _) (po_c (po_istore _ _) (po_c (po_iload _ _) (po_c (po_aload _ _) (po_c (po_getI _ _) (po_c (po_br2 _ _) (po_c (po_aload _ _) (po_c (po_getR _ _) (po_c (po_iload _ _) (po_c (po_aload _ _) (po_c (po_getR _ _) (po_c (po_iload _ _) (po_c po_iald (po_c po_iast (po_c (po_iinc _ _) (po_c (po_goto _) (po_c (po_push _ _) (po_c (po_istore _ _) (po_c (po_iload _ _) (po_c (po_push _ _) (po_c (po_br2 _ _) (po_c (po_aload _ _) (po_c (po_iload _ _) (po_c (po_aload _ _) (po_c (po_getI _ _) (po_c (po_aload _ _) (po_c (po_getR _ _) (po_c (po_aload _ _) (po_c (po_call pvX3_leastBy) (po_c (po_putI _ (by decide)) (po_c (po_aload _ _) (po_c (po_getI _ _) (po_c (po_push _ _) (po_c (po_br2 _ _) (po_c (po_iload _ _) (po_c po_iret (po_c (po_iinc _ _) (po_c (po_goto _) (po_c (po_push _ _) (po_c po_iret (po_n)))))))))))))))))))))))))))))))))))))))))
theorem pvX8_mix : PF FX8_mix := PF_den (tab := tX8_mix) (po_c (po_iload _ _) (po_c (po_push _ _) (po_c (po_call pvX8_among) (po_c (po_br1 _ _) (po_c (po_push _ _) (po_c po_iret (po_c (po_aload _ _) (po_c (po_iload _ _) (po_c (po_push _ _) (po_c (po_push _ _) (po_c (po_callV pvX8_refusalOfShades) (po_c (po_istore _ _) (po_c (po_iload _ _) (po_c (po_br1 _ _) (po_c (po_iload _ _) (po_c po_iret (po_c (po_push _ _) (po_c (po_istore _ _) (po_c (po_iload _ _) (po_c (po_push _ _) (po_c (po_br2 _ _) (po_c (po_aload _ _) (po_c (po_getR _ _) (po_c (po_iload _ _) (po_c (po_iload _ _) (po_c (po_iload _ _) (po_c (po_br2 _ _) (po_c (po_push _ _) (po_c (po_goto _) (po_c (po_push _ _) (po_c po_bastZ (po_c (po_iinc _ _) (po_c (po_goto _) (po_c (po_aload _ _) (po_c (po_getR _ _) (po_c (po_aload _ _) (po_c (po_getR _ _) (po_c (po_iload _ _) (po_c po_aald (po_c (po_aload _ _) (po_c (po_getR _ _) (po_c (po_callV pvX3_fewestMixings) (po_c po_iret (po_n))))))))))))))))))))))))))))))))))))))))))))
theorem pvX8_cheap : PF FX8_cheap := PF_den (tab := tX8_cheap) (po_c (po_iload _ _) (po_c (po_push _ _) (po_c (po_call pvX8_among) (po_c (po_br1 _ _) (po_c (po_push _ _) (po_c po_iret (po_c (po_aload _ _) (po_c (po_iload _ _) (po_c (po_push _ _) (po_c (po_push _ _) (po_c (po_callV pvX8_refusalOfShades) (po_c (po_istore _ _) (po_c (po_iload _ _) (po_c (po_br1 _ _) (po_c (po_iload _ _) (po_c po_iret (po_c (po_push _ _) (po_c (po_istore _ _) (po_c (po_iload _ _) (po_c (po_push _ _) (po_c (po_br2 _ _) (po_c (po_aload _ _) (po_c (po_getR _ _) (po_c (po_iload _ _) (po_c (po_aload _ _) (po_c (po_getR _ _) (po_c (po_iload _ _) (po_c (po_iload _ _) (po_c (po_callV pvX4_owedBy) (po_c (po_br1 _ _) (po_c (po_push _ _) (po_c (po_goto _) (po_c (po_push _ _) (po_c po_bastZ (po_c (po_iinc _ _) (po_c (po_goto _) (po_c (po_aload _ _) (po_c (po_getR _ _) (po_c (po_aload _ _) (po_c (po_getR _ _) (po_c (po_iload _ _) (po_c po_aald (po_c (po_aload _ _) (po_c (po_getR _ _) (po_c (po_callV pvX3_fewestMixings) (po_c (po_istore _ _) (po_c (po_iload _ _) (po_c (po_push _ _) (po_c (po_br2 _ _) (po_c (po_aload _ _) (po_c (po_aload _ _) (po_c (po_getR _ _) (po_c (po_getI _ _) (po_c (po_putI _ (by decide)) (po_c (po_iload _ _) (po_c po_iret (po_n)))))))))))))))))))))))))))))))))))))))))))))))))))))))))
theorem pvX8_refusalOfSayings : PF FX8_refusalOfSayings := PF_den (tab := tX8_refusalOfSayings) (po_c (po_aload _ _) (po_c (po_iload _ _) (po_c (po_callV pvX8_refusalOfRow) (po_c (po_istore _ _) (po_c (po_iload _ _) (po_c (po_br1 _ _) (po_c (po_iload _ _) (po_c po_iret (po_c (po_aload _ _) (po_c (po_getR _ _) (po_c (po_iload _ _) (po_c po_aald (po_c (po_getI _ _) (po_c (po_push _ _) (po_c po_irem (po_c (po_br1 _ _) (po_c (po_aload _ _) (po_c (po_push _ _) (po_c (po_callV pvX8_findingOf) (po_c po_iret (po_c (po_push _ _) (po_c (po_istore _ _) (po_c (po_iload _ _) (po_c (po_aload _ _) (po_c (po_getR _ _) (po_c (po_iload _ _) (po_c po_aald (po_c (po_getI _ _) (po_c (po_br2 _ _) (po_c (po_aload _ _) (po_c (po_getR _ _) (po_c (po_iload _ _) (po_c po_aald (po_c (po_getR _ _) (po_c (po_iload _ _) (po_c po_iald (po_c (po_iload _ _) (po_c (po_push _ _) (po_c po_irem (po_c (po_push _ _) (po_c (po_br2 _ _) (po_c (po_push _ _) (po_c (po_goto _) (po_c (po_push _ _) (po_c (po_call pvX8_among) (po_c (po_br1 _ _) (po_c (po_aload _ _) (po_c (po_push _ _) (po_c (po_callV pvX8_findingOf) (po_c po_iret (po_c (po_iinc _ _) (po_c (po_goto _) (po_c (po_push _ _) (po_c po_iret (po_n)))))))))))))))))))))))))))))))))))))))))))))))))))))))
theorem pvX8_eyesSayingAlike : PF FX8_eyesSayingAlike := PF_den (tab := tX8_eyesSayingAlike) (po_c (po_push _ _) (po_c (po_iload _ _) (po_c (po_ii _) (po_c (po_push _ _) (po_c (po_ii _) (po_c po_iret (po_n)))))))
theorem pvX8_eyesLeftBy : PF FX8_eyesLeftBy := PF_den (tab := tX8_eyesLeftBy) (po_c (po_push _ _) (po_c (po_istore _ _) (po_c (po_push _ _) (po_c (po_istore _ _) (po_c (po_iload _ _) (po_c (po_push _ _) (po_c (po_ii _) (po_c (po_aload _ _) (po_c (po_getI _ _) (po_c (po_br2 _ _) (po_c (po_aload _ _) (po_c (po_getR _ _) (po_c (po_iload _ _) (po_c po_iald (po_c (po_aload _ _) (po_c (po_getR _ _) (po_c (po_iload _ _) (po_c (po_push _ _) (po_c (po_ii _) (po_c po_iald (po_c (po_call pvX8_farApart) (po_c (po_call pvX8_eyesSayingAlike) (po_c (po_istore _ _) (po_c (po_iload _ _) (po_c (po_aload _ _) (po_c (po_getR _ _) (po_c (po_iload _ _) (po_c (po_push _ _) (po_c (po_ii _) (po_c po_iald (po_c (po_push _ _) (po_c (po_br2 _ _) (po_c (po_iload _ _) (po_c (po_goto _) (po_c (po_iload _ _) (po_c (po_push _ _) (po_c (po_ii _) (po_c (po_ii _) (po_c (po_istore _ _) (po_c (po_iinc _ _) (po_c (po_goto _) (po_c (po_iload _ _) (po_c po_iret (po_n))))))))))))))))))))))))))))))))))))))))))))
theorem pvX8_eyes : PF FX8_eyes := PF_den (tab := tX8_eyes) (po_c (po_aload _ _) (po_c (po_iload _ _) (po_c (po_callV pvX8_refusalOfSayings) (po_c (po_istore _ _) (po_c (po_iload _ _) (po_c (po_br1 _ _) (po_c (po_iload _ _) (po_c (po_goto _) (po_c (po_aload _ _) (po_c (po_getR _ _) (po_c (po_iload _ _) (po_c po_aald (po_c (po_call pvX8_eyesLeftBy) (po_c po_iret (po_n)))))))))))))))
theorem pvX8_show : PF FX8_show := PF_den (tab := tX8_show) (po_c (po_aload _ _) (po_c (po_iload _ _) (po_c (po_callV pvX8_refusalOfSayings) (po_c (po_istore _ _) (po_c (po_iload _ _) (po_c (po_br1 _ _) (po_c (po_iload _ _) (po_c po_iret (po_c (po_aload _ _) (po_c (po_getR _ _) (po_c (po_iload _ _) (po_c po_aald (po_c (po_call pvX8_eyesLeftBy) (po_c (po_istore _ _) (po_c (po_iload _ _) (po_c (po_call pvJ6_bitCount_0f7a4) (po_c (po_istore _ _) (po_c (po_iload _ _) (po_c (po_push _ _) (po_c (po_br2 _ _) (po_c (po_push _ _) (po_c po_iret (po_c (po_push _ _) (po_c (po_istore _ _) (po_c (po_iload _ _) (po_c (po_push _ _) (po_c (po_ii _) (po_c (po_istore _ _) (po_c (po_push _ _) (po_c (po_istore _ _) (po_c (po_iload _ _) (po_c (po_push _ _) (po_c (po_br2 _ _) (po_c (po_iload _ _) (po_c (po_iload _ _) (po_c (po_call pvX8_eyesSayingAlike) (po_c (po_ii _) (po_c (po_call pvJ6_bitCount_0f7a4) (po_c (po_istore _ _) (po_c (po_iload _ _) (po_c (po_iload _ _) (po_c (po_iload _ _) (po_c (po_ii _) (po_c po_max (po_c (po_istore _ _) (po_c (po_iload _ _) (po_c (po_iload _ _) (po_c (po_br2 _ _) (po_c (po_iload _ _) (po_c (po_istore _ _) (po_c (po_iload _ _) (po_c (po_istore _ _) (po_c (po_iinc _ _) (po_c (po_goto _) (po_c (po_iload _ _) (po_c po_iret (po_n)))))))))))))))))))))))))))))))))))))))))))))))))))))))))
theorem pvX8_refusalOfJudges : PF FX8_refusalOfJudges := PF_den (tab := tX8_refusalOfJudges) (po_c (po_aload _ _) (po_c (po_iload _ _) (po_c (po_callV pvX8_refusalOfRow) (po_c (po_istore _ _) (po_c (po_iload _ _) (po_c (po_br1 _ _) (po_c (po_iload _ _) (po_c po_iret (po_c (po_aload _ _) (po_c (po_getR _ _) (po_c (po_iload _ _) (po_c po_aald (po_c (po_getI _ _) (po_c (po_push _ _) (po_c (po_br2 _ _) (po_c (po_aload _ _) (po_c (po_push _ _) (po_c (po_callV pvX8_findingOf) (po_c po_iret (po_c (po_aload _ _) (po_c (po_getR _ _) (po_c (po_iload _ _) (po_c po_aald (po_c (po_push _ _) (po_c (po_callV pvX5_holdsOnlyBelow) (po_c (po_br1 _ _) (po_c (po_push _ _) (po_c (po_goto _) (po_c (po_aload _ _) (po_c (po_push _ _) (po_c (po_callV pvX8_findingOf) (po_c po_iret (po_n)))))))))))))))))))))))))))))))))
theorem pvX8_saysAlike : PF FX8_saysAlike := PF_den (tab := tX8_saysAlike) (po_c (po_iload _ _) (po_c (po_iload _ _) (po_c (po_br2 _ _) (po_c (po_push _ _) (po_c (po_goto _) (po_c (po_push _ _) (po_c po_iret (po_n))))))))
theorem pvX8_judged : PF FX8_judged := PF_den (tab := tX8_judged) (po_c (po_iload _ _) (po_c (po_push _ _) (po_c (po_call pvX8_among) (po_c (po_br1 _ _) (po_c (po_iload _ _) (po_c (po_push _ _) (po_c (po_call pvX8_among) (po_c (po_br1 _ _) (po_c (po_push _ _) (po_c po_iret (po_c (po_aload _ _) (po_c (po_iload _ _) (po_c (po_callV pvX8_refusalOfJudges) (po_c (po_istore _ _) (po_c (po_iload _ _) (po_c (po_br1 _ _) (po_c (po_iload _ _) (po_c po_iret (po_c (po_iload _ _) (po_c (po_iload _ _) (po_c (po_call pvX8_farApart) (po_c (po_istore _ _) (po_c (po_push _ _) (po_c (po_istore _ _) (po_c (po_push _ _) (po_c (po_istore _ _) (po_c (po_iload _ _) (po_c (po_aload _ _) (po_c (po_getR _ _) (po_c (po_iload _ _) (po_c po_aald (po_c (po_getI _ _) (po_c (po_br2 _ _) (po_c (po_iload _ _) (po_c (po_aload _ _) (po_c (po_getR _ _) (po_c (po_iload _ _) (po_c po_aald (po_c (po_getR _ _) (po_c (po_iload _ _) (po_c po_iald (po_c (po_iload _ _) (po_c (po_call pvX8_saysAlike) (po_c (po_ii _) (po_c (po_istore _ _) (po_c (po_iinc _ _) (po_c (po_goto _) (po_c (po_iload _ _) (po_c (po_push _ _) (po_c (po_br2 _ _) (po_c (po_push _ _) (po_c (po_goto _) (po_c (po_push _ _) (po_c (po_istore _ _) (po_c (po_aload _ _) (po_c (po_push _ _) (po_c (po_putI _ (by decide)) (po_c (po_push _ _) (po_c (po_istore _ _) (po_c (po_iload _ _) (po_c (po_aload _ _) (po_c (po_getR _ _) (po_c (po_iload _ _) (po_c po_aald (po_c (po_getI _ _) (po_c (po_br2 _ _) (po_c (po_aload _ _) (po_c (po_getR _ _) (po_c (po_iload _ _) (po_c po_aald (po_c (po_getR _ _) (po_c (po_iload _ _) (po_c po_iald (po_c (po_iload _ _) (po_c (po_call pvX8_saysAlike) (po_c (po_iload _ _) (po_c (po_br2 _ _) (po_c (po_aload _ _) (po_c (po_iload _ _) (po_c (po_putI _ (by decide)) (po_c (po_iinc _ _) (po_c (po_goto _) (po_c (po_iload _ _) (po_c po_iret (po_n)))))))))))))))))))))))))))))))))))))))))))))))))))))))))))))))))))))))))))))))))))))
theorem pvX4_ownerOf : PF FX4_ownerOf := PF_den (tab := tX4_ownerOf) (po_c (po_aload _ _) (po_c (po_iload _ _) (po_c (po_iload _ _) (po_c (po_callV pvX4_callerOf) (po_c (po_istore _ _) (po_c (po_iload _ _) (po_c (po_push _ _) (po_c (po_br2 _ _) (po_c (po_push _ _) (po_c (po_goto _) (po_c (po_aload _ _) (po_c (po_getR _ _) (po_c (po_iload _ _) (po_c po_aald (po_c (po_getI _ _) (po_c po_iret (po_n)))))))))))))))))
theorem pvX8_lost : PF FX8_lost := PF_den (tab := tX8_lost) (po_c (po_iload _ _) (po_c (po_aload _ _) (po_c (po_getR _ _) (po_c (po_getI _ _) (po_c (po_call pvX8_among) (po_c (po_br1 _ _) (po_c (po_push _ _) (po_c po_iret (po_c (po_push _ _) (po_c (po_istore _ _) (po_c (po_iload _ _) (po_c (po_push _ _) (po_c (po_br2 _ _) (po_c (po_aload _ _) (po_c (po_getR _ _) (po_c (po_aload _ _) (po_c (po_getR _ _) (po_c (po_iload _ _) (po_c (po_iload _ _) (po_c (po_callV pvX4_shadeOf) (po_c (po_iload _ _) (po_c (po_callV pvX4_ownerOf) (po_c (po_aload _ _) (po_c (po_getR _ _) (po_c (po_getR _ _) (po_c (po_iload _ _) (po_c po_aald (po_c (po_getI _ _) (po_c (po_br2 _ _) (po_c (po_iload _ _) (po_c po_iret (po_c (po_iinc _ _) (po_c (po_goto _) (po_c (po_push _ _) (po_c po_iret (po_n))))))))))))))))))))))))))))))))))))
theorem pvX8_moves : PF FX8_moves := PF_den (tab := tX8_moves) (po_c (po_iload _ _) (po_c (po_push _ _) (po_c (po_call pvX8_among) (po_c (po_br1 _ _) (po_c (po_push _ _) (po_c po_iret (po_c (po_push _ _) (po_c (po_istore _ _) (po_c (po_push _ _) (po_c (po_istore _ _) (po_c (po_iload _ _) (po_c (po_push _ _) (po_c (po_br2 _ _) (po_c (po_aload _ _) (po_c (po_getR _ _) (po_c (po_iload _ _) (po_c (po_iload _ _) (po_c (po_callV pvX4_ownerOf) (po_c (po_aload _ _) (po_c (po_getR _ _) (po_c (po_iload _ _) (po_c (po_push _ _) (po_c (po_callV pvX4_ownerOf) (po_c (po_br2 _ _) (po_c (po_iinc _ _) (po_c (po_iinc _ _) (po_c (po_goto _) (po_c (po_iload _ _) (po_c po_iret (po_n))))))))))))))))))))))))))))))
theorem pvX8_was : PF FX8_was := PF_den (tab := tX8_was) (po_c (po_iload _ _) (po_c (po_push _ _) (po_c (po_call pvX8_among) (po_c (po_br1 _ _) (po_c (po_iload _ _) (po_c (po_push _ _) (po_c (po_call pvX8_among) (po_c (po_br1 _ _) (po_c (po_push _ _) (po_c po_iret (po_c (po_push _ _) (po_c (po_istore _ _) (po_c (po_iload _ _) (po_c (po_push _ _) (po_c (po_br2 _ _) (po_c (po_aload _ _) (po_c (po_getR _ _) (po_c (po_iload _ _) (po_c (po_iload _ _) (po_c (po_iload _ _) (po_c (po_call pvX6_faded) (po_c (po_iload _ _) (po_c (po_br2 _ _) (po_c (po_push _ _) (po_c (po_goto _) (po_c (po_push _ _) (po_c po_bastZ (po_c (po_iinc _ _) (po_c (po_goto _) (po_c (po_aload _ _) (po_c (po_callV pvX8_tellChosen) (po_c (po_istore _ _) (po_c (po_aload _ _) (po_c (po_getI _ _) (po_c (po_istore _ _) (po_c (po_aload _ _) (po_c (po_iload _ _) (po_c (po_putI _ (by decide)) (po_c (po_iload _ _) (po_c po_iret (po_n)))))))))))))))))))))))))))))))))))))))))
theorem pvX8_kinds : PF FX8_kinds := PF_den (tab := tX8_kinds) (po_c (po_iload _ _) (po_c (po_aload _ _) (po_c (po_getR _ _) (po_c (po_getI _ _) (po_c (po_call pvX8_among) (po_c (po_br1 _ _) (po_c (po_iload _ _) (po_c (po_push _ _) (po_c (po_call pvX8_among) (po_c (po_br1 _ _) (po_c (po_push _ _) (po_c po_iret (po_c (po_aload _ _) (po_c (po_getR _ _) (po_c (po_iload _ _) (po_c (po_push _ _) (po_c (po_callV pvX4_shadeOf) (po_c (po_istore _ _) (po_c (po_aload _ _) (po_c (po_getR _ _) (po_c (po_getR _ _) (po_c (po_iload _ _) (po_c po_aald (po_c (po_getI _ _) (po_c (po_istore _ _) (po_c (po_push _ _) (po_c (po_istore _ _) (po_c (po_push _ _) (po_c (po_istore _ _) (po_c (po_iload _ _) (po_c (po_push _ _) (po_c (po_br2 _ _) (po_c (po_iload _ _) (po_c (po_iload _ _) (po_c (po_iload _ _) (po_c (po_call pvX1_countReached) (po_c (po_iload _ _) (po_c (po_br2 _ _) (po_c (po_iload _ _) (po_c (po_push _ _) (po_c (po_iload _ _) (po_c (po_ii _) (po_c (po_ii _) (po_c (po_istore _ _) (po_c (po_iinc _ _) (po_c (po_goto _) (po_c (po_iload _ _) (po_c po_iret (po_n)))))))))))))))))))))))))))))))))))))))))))))))))
theorem pvX8_greatestDivisor : PF FX8_greatestDivisor := PF_den (tab := tX8_greatestDivisor) (po_c (po_push _ _) (po_c (po_istore _ _) (po_c (po_iload _ _) (po_c (po_push _ _) (po_c (po_br2 _ _) (po_c (po_lload _ _) (po_c (po_push _ _) (po_c po_lcmp (po_c (po_br1 _ _) (po_c (po_lload _ _) (po_c (po_lload _ _) (po_c po_lrem (po_c (po_lstore _ _) (po_c (po_lload _ _) (po_c (po_lstore _ _) (po_c (po_lload _ _) (po_c (po_lstore _ _) (po_c (po_iinc _ _) (po_c (po_goto _) (po_c (po_lload _ _) (po_c po_lret (po_n))))))))))))))))))))))
theorem pvX8_tellChance : PF FX8_tellChance := PF_den (tab := tX8_tellChance) (po_c (po_lload _ _) (po_c (po_lload _ _) (po_c (po_call pvX8_greatestDivisor) (po_c (po_lstore _ _) (po_c (po_lload _ _) (po_c (po_push _ _) (po_c po_lcmp (po_c (po_br1 _ _) (po_c (po_aload _ _) (po_c (po_lload _ _) (po_c (po_lload _ _) (po_c po_ldiv (po_c (po_putL _) (po_c (po_aload _ _) (po_c (po_lload _ _) (po_c (po_lload _ _) (po_c po_ldiv (po_c (po_putL _) (po_c po_vret (po_n))))))))))))))))))))
theorem pvX8_odds : PF FX8_odds := PF_den (tab := tX8_odds) (po_c (po_iload _ _) (po_c (po_push _ _) (po_c (po_call pvX8_among) (po_c (po_br1 _ _) (po_c (po_push _ _) (po_c po_iret (po_c (po_push _ _) (po_c (po_istore _ _) (po_c (po_push _ _) (po_c (po_istore _ _) (po_c (po_iload _ _) (po_c (po_push _ _) (po_c (po_br2 _ _) (po_c (po_aload _ _) (po_c (po_getR _ _) (po_c (po_iload _ _) (po_c (po_push _ _) (po_c (po_callV pvX4_ownerOf) (po_c (po_iload _ _) (po_c (po_br2 _ _) (po_c (po_iinc _ _) (po_c (po_iinc _ _) (po_c (po_goto _) (po_c (po_aload _ _) (po_c (po_iload _ _) (po_c po_i2l (po_c (po_push _ _) (po_c (po_callV pvX8_tellChance) (po_c (po_push _ _) (po_c po_iret (po_n)))))))))))))))))))))))))))))))
theorem pvX8_mid : PF FX8_mid := PF_den (tab := tX8_mid) (po_c (po_iload _ _) (po_c (po_push _ _) (po_c (po_call pvX8_among) (po_c (po_br1 _ _) (po_c (po_push _ _) (po_c po_iret (po_c (po_push _ _) (po_c (po_istore _ _) (po_c (po_push _ _) (po_c (po_istore _ _) (po_c (po_iload _ _) (po_c (po_push _ _) (po_c (po_br2 _ _) (po_c (po_iload _ _) (po_c (po_aload _ _) (po_c (po_getR _ _) (po_c (po_iload _ _) (po_c (po_iload _ _) (po_c (po_callV pvX4_owedBy) (po_c (po_ii _) (po_c (po_istore _ _) (po_c (po_iinc _ _) (po_c (po_goto _) (po_c (po_aload _ _) (po_c (po_iload _ _) (po_c po_i2l (po_c (po_push _ _) (po_c (po_callV pvX8_tellChance) (po_c (po_push _ _) (po_c po_iret (po_n)))))))))))))))))))))))))))))))
theorem pvX8_lots : PF FX8_lots := PF_den (tab := tX8_lots) (po_c (po_iload _ _) (po_c (po_push _ _) (po_c (po_call pvX8_among) (po_c (po_br1 _ _) (po_c (po_iload _ _) (po_c (po_push _ _) (po_c (po_br2 _ _) (po_c (po_iload _ _) (po_c (po_push _ _) (po_c (po_br2 _ _) (po_c (po_iload _ _) (po_c (po_push _ _) (po_c (po_br2 _ _) (po_c (po_iload _ _) (po_c po_i2l (po_c (po_push _ _) (po_c po_lcmp (po_c (po_br1 _ _) (po_c (po_push _ _) (po_c po_iret (po_c (po_iload _ _) (po_c po_i2l (po_c (po_lstore _ _) (po_c (po_push _ _) (po_c (po_istore _ _) (po_c (po_push _ _) (po_c (po_istore _ _) (po_c (po_iload _ _) (po_c (po_iload _ _) (po_c (po_br2 _ _) (po_c (po_lload _ _) (po_c (po_push _ _) (po_c (po_ll _) (po_c (po_push _ _) (po_c po_lrem (po_c (po_lstore _ _) (po_c (po_iload _ _) (po_c (po_aload _ _) (po_c (po_getR _ _) (po_c (po_iload _ _) (po_c (po_lload _ _) (po_c (po_push _ _) (po_c po_ldiv (po_c (po_push _ _) (po_c po_lrem (po_c po_l2i (po_c (po_callV pvX4_owedBy) (po_c (po_ii _) (po_c (po_istore _ _) (po_c (po_iinc _ _) (po_c (po_goto _) (po_c (po_iload _ _) (po_c po_iret (po_n))))))))))))))))))))))))))))))))))))))))))))))))))))))
theorem pvX8_asked : PF FX8_asked := PF_den (tab := tX8_asked) (po_c (po_aload _ _) (po_c (po_getI _ _) (po_c po_iret (po_n))))
theorem pvX8_upper : PF FX8_upper := PF_den (tab := tX8_upper) (po_c (po_aload _ _) (po_c (po_getL _ _) (po_c po_lret (po_n))))
theorem pvX8_lower : PF FX8_lower := PF_den (tab := tX8_lower) (po_c (po_aload _ _) (po_c (po_getL _ _) (po_c po_lret (po_n))))
theorem pvX4_countFading : PF FX4_countFading := PF_den (tab := tX4_countFading) (po_c (po_push _ _) (po_c (po_istore _ _) (po_c (po_push _ _) (po_c (po_istore _ _) (po_c (po_iload _ _) (po_c (po_aload _ _) (po_c (po_getI _ _) (po_c (po_br2 _ _) (po_c (po_iload _ _) (po_c (po_aload _ _) (po_c (po_getR _ _) (po_c (po_iload _ _) (po_c po_aald (po_c (po_getI _ _) (po_c (po_br1 _ _) (po_c (po_push _ _) (po_c (po_goto _) (po_c (po_push _ _) (po_c (po_ii _) (po_c (po_istore _ _) (po_c (po_iinc _ _) (po_c (po_goto _) (po_c (po_iload _ _) (po_c po_iret (po_n)))))))))))))))))))))))))
theorem pvX4_sumOfDues : PF FX4_sumOfDues := PF_den (tab := tX4_sumOfDues) (po_c (po_push _ _) (po_c (po_istore _ _) (po_c (po_push _ _) (po_c (po_istore _ _) (po_c (po_iload _ _) (po_c (po_aload _ _) (po_c (po_getI _ _) (po_c (po_br2 _ _) (po_c (po_iload _ _) (po_c (po_aload _ _) (po_c (po_getR _ _) (po_c (po_iload _ _) (po_c po_aald (po_c (po_getI _ _) (po_c (po_ii _) (po_c (po_istore _ _) (po_c (po_iinc _ _) (po_c (po_goto _) (po_c (po_iload _ _) (po_c po_iret (po_n)))))))))))))))))))))
theorem pvX4_countOfKind : PF FX4_countOfKind := PF_den (tab := tX4_countOfKind) (po_c (po_push _ _) (po_c (po_istore _ _) (po_c (po_push _ _) (po_c (po_istore _ _) (po_c (po_iload _ _) (po_c (po_aload _ _) (po_c (po_getI _ _) (po_c (po_br2 _ _) (po_c (po_iload _ _) (po_c (po_aload _ _) (po_c (po_getR _ _) (po_c (po_iload _ _) (po_c po_aald (po_c (po_getI _ _) (po_c (po_iload _ _) (po_c (po_call pvX1_isOf) (po_c (po_br1 _ _) (po_c (po_push _ _) (po_c (po_goto _) (po_c (po_push _ _) (po_c (po_ii _) (po_c (po_istore _ _) (po_c (po_iinc _ _) (po_c (po_goto _) (po_c (po_iload _ _) (po_c po_iret (po_n)))))))))))))))))))))))))))
theorem pvX8_countRows : PF FX8_countRows := PF_den (tab := tX8_countRows) (po_c (po_push _ _) (po_c (po_istore _ _) (po_c (po_push _ _) (po_c (po_istore _ _) (po_c (po_iload _ _) (po_c (po_push _ _) (po_c (po_br2 _ _) (po_c (po_iload _ _) (po_c (po_aload _ _) (po_c (po_getR _ _) (po_c (po_iload _ _) (po_c po_aald (po_c (po_callV pvX5_isThere) (po_c (po_br1 _ _) (po_c (po_push _ _) (po_c (po_goto _) (po_c (po_push _ _) (po_c (po_ii _) (po_c (po_istore _ _) (po_c (po_iinc _ _) (po_c (po_goto _) (po_c (po_iload _ _) (po_c po_iret (po_n))))))))))))))))))))))))
theorem pvX8_countTexts : PF FX8_countTexts := PF_den (tab := tX8_countTexts) (po_c (po_push _ _) (po_c (po_istore _ _) (po_c (po_push _ _) (po_c (po_istore _ _) (po_c (po_iload _ _) (po_c (po_push _ _) (po_c (po_br2 _ _) (po_c (po_iload _ _) (po_c (po_aload _ _) (po_c (po_getR _ _) (po_c (po_iload _ _) (po_c po_aald (po_c (po_callV pvX7_isThere) (po_c (po_br1 _ _) (po_c (po_push _ _) (po_c (po_goto _) (po_c (po_push _ _) (po_c (po_ii _) (po_c (po_istore _ _) (po_c (po_iinc _ _) (po_c (po_goto _) (po_c (po_iload _ _) (po_c po_iret (po_n))))))))))))))))))))))))
theorem pvX8_countKept : PF FX8_countKept := PF_den (tab := tX8_countKept) (po_c (po_push _ _) (po_c (po_istore _ _) (po_c (po_push _ _) (po_c (po_istore _ _) (po_c (po_iload _ _) (po_c (po_push _ _) (po_c (po_br2 _ _) (po_c (po_iload _ _) (po_c (po_aload _ _) (po_c (po_getR _ _) (po_c (po_iload _ _) (po_c po_aald (po_c (po_getI _ _) (po_c (po_br1 _ _) (po_c (po_push _ _) (po_c (po_goto _) (po_c (po_push _ _) (po_c (po_ii _) (po_c (po_istore _ _) (po_c (po_iinc _ _) (po_c (po_goto _) (po_c (po_iload _ _) (po_c po_iret (po_n))))))))))))))))))))))))
theorem pvX8_count : PF FX8_count := PF_den (tab := tX8_count) (po_c (po_iload _ _) (po_c (po_switch _ _) (po_c (po_aload _ _) (po_c (po_getR _ _) (po_c (po_getI _ _) (po_c po_iret (po_c (po_aload _ _) (po_c (po_getR _ _) (po_c (po_getI _ _) (po_c po_iret (po_c (po_aload _ _) (po_c (po_getR _ _) (po_c (po_callV pvX4_countFading) (po_c po_iret (po_c (po_aload _ _) (po_c (po_getR _ _) (po_c (po_callV pvX4_sumOfDues) (po_c po_iret (po_c (po_aload _ _) (po_c (po_getR _ _) (po_c (po_push _ _) (po_c (po_callV pvX4_countOfKind) (po_c po_iret (po_c (po_aload _ _) (po_c (po_getR _ _) (po_c (po_push _ _) (po_c (po_callV pvX4_countOfKind) (po_c po_iret (po_c (po_aload _ _) (po_c (po_callV pvX8_countRows) (po_c po_iret (po_c (po_aload _ _) (po_c (po_callV pvX8_countTexts) (po_c po_iret (po_c (po_aload _ _) (po_c (po_callV pvX8_countKept) (po_c po_iret (po_c (po_push _ _) (po_c po_iret (po_n))))))))))))))))))))))))))))))))))))))))
theorem pvX8_finding : PF FX8_finding := PF_den (tab := tX8_finding) (po_c (po_aload _ _) (po_c (po_getI _ _) (po_c po_iret (po_n))))
theorem pvX8_findings : PF FX8_findings := PF_den (tab := tX8_findings) (po_c (po_iload _ _) (po_c (po_push _ _) (po_c (po_br2 _ _) (po_c (po_iload _ _) (po_c (po_push _ _) (po_c (po_br2 _ _) (po_c (po_push _ _) (po_c po_iret (po_c (po_aload _ _) (po_c (po_getR _ _) (po_c (po_iload _ _) (po_c po_iald (po_c po_iret (po_n))))))))))))))
theorem pvX5_digestOnto : PF FX5_digestOnto := PF_den (tab := tX5_digestOnto) (po_c (po_push _ _) (po_c (po_lload _ _) (po_c (po_ll _) (po_c (po_aload _ _) (po_c (po_getI _ _) (po_c po_i2l (po_c (po_ll _) (po_c (po_lstore _ _) (po_c (po_push _ _) (po_c (po_istore _ _) (po_c (po_iload _ _) (po_c (po_aload _ _) (po_c (po_getI _ _) (po_c (po_br2 _ _) (po_c (po_push _ _) (po_c (po_lload _ _) (po_c (po_ll _) (po_c (po_aload _ _) (po_c (po_getR _ _) (po_c (po_iload _ _) (po_c po_iald (po_c po_i2l (po_c (po_ll _) (po_c (po_lstore _ _) (po_c (po_iinc _ _) (po_c (po_goto _) (po_c (po_lload _ _) (po_c po_lret (po_n)))))))))))))))))))))))))))))
theorem pvX7_digestOnto : PF FX7_digestOnto := PF_den (tab := tX7_digestOnto) (po_c (po_push _ _) (po_c (po_lload _ _) (po_c (po_ll _) (po_c (po_aload _ _) (po_c (po_getI _ _) (po_c po_i2l (po_c (po_ll _) (po_c (po_lstore _ _) (po_c (po_push _ _) (po_c (po_istore _ _) (po_c (po_iload _ _) (po_c (po_aload _ _) (po_c (po_getI _ _) (po_c (po_br2 _ _) (po_c (po_push _ _) (po_c (po_lload _ _) (po_c (po_ll _) (po_c (po_aload _ _) (po_c (po_getR _ _) (po_c (po_iload _ _) (po_c po_bald (po_c po_i2l (po_c (po_ll _) (po_c (po_lstore _ _) (po_c (po_iinc _ _) (po_c (po_goto _) (po_c (po_lload _ _) (po_c po_lret (po_n)))))))))))))))))))))))))))))
theorem pvX8_digest : PF FX8_digest := PF_den (tab := tX8_digest) (po_c (po_push _ _) (po_c (po_lstore _ _) (po_c (po_push _ _) (po_c (po_istore _ _) (po_c (po_iload _ _) (po_c (po_push _ _) (po_c (po_br2 _ _) (po_c (po_push _ _) (po_c (po_lload _ _) (po_c (po_ll _) (po_c (po_aload _ _) (po_c (po_iload _ _) (po_c (po_callV pvX8_count) (po_c po_i2l (po_c (po_ll _) (po_c (po_lstore _ _) (po_c (po_iinc _ _) (po_c (po_goto _) (po_c (po_push _ _) (po_c (po_istore _ _) (po_c (po_iload _ _) (po_c (po_aload _ _) (po_c (po_getR _ _) (po_c (po_getI _ _) (po_c (po_br2 _ _) (po_c (po_push _ _) (po_c (po_istore _ _) (po_c (po_iload _ _) (po_c (po_push _ _) (po_c (po_br2 _ _) (po_c (po_push _ _) (po_c (po_lload _ _) (po_c (po_ll _) (po_c (po_aload _ _) (po_c (po_iload _ _) (po_c (po_iload _ _) (po_c (po_callV pvX8_tellOf) (po_c po_i2l (po_c (po_ll _) (po_c (po_lstore _ _) (po_c (po_iinc _ _) (po_c (po_goto _) (po_c (po_iinc _ _) (po_c (po_goto _) (po_c (po_push _ _) (po_c (po_istore _ _) (po_c (po_iload _ _) (po_c (po_push _ _) (po_c (po_br2 _ _) (po_c (po_push _ _) (po_c (po_lload _ _) (po_c (po_ll _) (po_c (po_aload _ _) (po_c (po_getR _ _) (po_c (po_iload _ _) (po_c po_aald (po_c (po_getI _ _) (po_c (po_br1 _ _) (po_c (po_push _ _) (po_c (po_goto _) (po_c (po_aload _ _) (po_c (po_getR _ _) (po_c (po_iload _ _) (po_c po_aald (po_c (po_getI _ _) (po_c po_i2l (po_c (po_ll _) (po_c (po_lstore _ _) (po_c (po_iinc _ _) (po_c (po_goto _) (po_c (po_push _ _) (po_c (po_istore _ _) (po_c (po_iload _ _) (po_c (po_push _ _) (po_c (po_br2 _ _) (po_c (po_aload _ _) (po_c (po_getR _ _) (po_c (po_iload _ _) (po_c po_aald (po_c (po_lload _ _) (po_c (po_callV pvX5_digestOnto) (po_c (po_lstore _ _) (po_c (po_iinc _ _) (po_c (po_goto _) (po_c (po_push _ _) (po_c (po_istore _ _) (po_c (po_iload _ _) (po_c (po_push _ _) (po_c (po_br2 _ _) (po_c (po_aload _ _) (po_c (po_getR _ _) (po_c (po_iload _ _) (po_c po_aald (po_c (po_lload _ _) (po_c (po_callV pvX7_digestOnto) (po_c (po_lstore _ _) (po_c (po_iinc _ _) (po_c (po_goto _) (po_c (po_lload _ _) (po_c po_lret (po_n)))))))))))))))))))))))))))))))))))))))))))))))))))))))))))))))))))))))))))))))))))))))))))))))))))))
