/-! a small machine of our own (x_): its cells have numbers (1, 2 .. in the order in which they are made; 0 is null), its state are the kinds, lengths, references, size, ints and longs of these cells -/
def xTB : List Cond := lw_tbl.filter goodWord
theorem xTB_good : ∀ w ∈ xTB, goodWord w = true := fun w h => (List.mem_filter.mp h).2
theorem xTB_in : ∀ w ∈ xTB, w ∈ lw_tbl := fun w h => (List.mem_filter.mp h).1
theorem xTB_of {w : Cond} (i : Nat) (h : lw_tbl[i]? = some w) (hg : goodWord w = true) : w ∈ xTB := List.mem_filter.mpr ⟨List.mem_of_getElem? h, hg⟩
abbrev xT : Type := (Nat → Nat) × (Nat → Nat) × (Nat → Nat → Nat) × Nat
abbrev xS : Type := xT × (Nat → Nat → Int32) × (Nat → Nat → Int64)
abbrev xKd (σ : xS) : Nat → Nat := σ.1.1
abbrev xNn (σ : xS) : Nat → Nat := σ.1.2.1
abbrev xRf (σ : xS) : Nat → Nat → Nat := σ.1.2.2.1
abbrev xSz (σ : xS) : Nat := σ.1.2.2.2
abbrev xIn (σ : xS) : Nat → Nat → Int32 := σ.2.1
abbrev xLo (σ : xS) : Nat → Nat → Int64 := σ.2.2
abbrev xF : Type := Nat × List Value × List Value × Nat × xS
abbrev xR : Type := Option Value × xS
abbrev xO : Type := xF → Option (xF ⊕ xR)
def xup {α : Type} (f : Nat → Nat → α) (c k : Nat) (v : α) : Nat → Nat → α := fun a b => if a = c then (if b = k then v else f c b) else f a b
theorem xup_self {α : Type} (f : Nat → Nat → α) (c k : Nat) (v : α) (b : Nat) : xup f c k v c b = if b = k then v else f c b := if_pos rfl
theorem xup_ne {α : Type} (f : Nat → Nat → α) {c a : Nat} (k : Nat) (v : α) (h : a ≠ c) : xup f c k v a = f a := by
  funext b
  simp [xup, h]
def xv (ad : Nat → Nat) : Value → Value
  | .ref c => .ref (ad c)
  | v => v
theorem xv_cat (ad : Nat → Nat) (v : Value) : (xv ad v).category = v.category := by cases v <;> rfl
/-- of a class's field: 0 an int, 1 a long, 2 a reference, 3 a boolean -/
def xftab : List (List Nat) := [[2, 2], [0, 0, 0, 0, 0, 3], [2, 0], [2, 0, 2, 0, 0], [2, 0], [2, 0], [2, 2, 2, 2, 2, 2, 2, 2, 2, 0, 0, 1, 1], [2, 2, 2, 2, 2, 0, 1, 1, 0, 2, 0, 0, 0, 2, 0, 0, 2, 2, 2, 2, 2]]
def xft (ci k : Nat) : Nat := (xftab.getD ci []).getD k 9
def xnf (ci : Nat) : Nat := (xftab.getD ci []).length
def xrf (ad : Nat → Nat) (r : Nat) : Option Nat := if r = 0 then none else some (ad r)
def xfv (ad : Nat → Nat) (σ : xS) (c ci k : Nat) : Value := if xft ci k = 1 then .long (xLo σ c k) else if xft ci k = 2 then va_rf (xrf ad (xRf σ c k)) else .int (xIn σ c k)
/-- the cell c of our machine, in the heap H -/
def xAt (D : va_G) (cA : Nat → ClassId) (ad : Nat → Nat) (σ : xS) (c : Nat) (H : Heap) : Prop :=
  if xKd σ c ≤ 8 then t_OB (ad c) (D.1 (xKd σ c - 1)) (xnf (xKd σ c - 1)) (D.2 (xKd σ c - 1)) H (xfv ad σ c (xKd σ c - 1))
  else if xKd σ c ≤ 11 then H[ad c]? = some (arrV (cA (xKd σ c)) (xNn σ c) (fun j => .int (xIn σ c j)))
  else H[ad c]? = some (arrV (cA (xKd σ c)) (xNn σ c) (fun j => va_rf (xrf ad (xRf σ c j))))
theorem xAt.kept {D : va_G} {cA : Nat → ClassId} {ad : Nat → Nat} {σ : xS} {c : Nat} {H H1 : Heap} (h : xAt D cA ad σ c H) (hq : H1[ad c]? = H[ad c]?) : xAt D cA ad σ c H1 := by
  unfold xAt at h ⊢
  split at h
  · rw [if_pos (by assumption)]; exact h.kept hq
  · rw [if_neg (by assumption)]
    split at h
    · rw [if_pos (by assumption), hq]; exact h
    · rw [if_neg (by assumption), hq]; exact h
/-- the same cell of another state -/
theorem xAt.same {D : va_G} {cA : Nat → ClassId} {ad : Nat → Nat} {σ σ' : xS} {c : Nat} {H : Heap} (h : xAt D cA ad σ c H) (h1 : xKd σ' c = xKd σ c) (h2 : xNn σ' c = xNn σ c) (h3 : xRf σ' c = xRf σ c) (h4 : xIn σ' c = xIn σ c) (h5 : xLo σ' c = xLo σ c) : xAt D cA ad σ' c H := by
  unfold xAt xfv at h ⊢
  rw [h1, h2, h3, h4, h5]
  exact h
def xAd (ad : Nat → Nat) (b0 : Nat) : Prop := ∀ c, 1 ≤ c → c < 1000 → ad c = b0 + (c - 1)
def xW (D : va_G) (cA : Nat → ClassId) (ad : Nat → Nat) (b0 : Nat) (U : State) (σ : xS) (H : Heap) : Prop :=
  H.size = b0 + xSz σ ∧ xSz σ < 900 ∧ (∀ c, 1 ≤ xKd σ c → xKd σ c ≤ 15 → 1 ≤ c ∧ c ≤ xSz σ ∧ xAt D cA ad σ c H) ∧ (∀ c, xKd σ c = 16 → ad c < b0 ∧ va_X (ad c) (xNn σ c) (xIn σ c) U H)
theorem xW.moved {D : va_G} {cA : Nat → ClassId} {ad : Nat → Nat} {b0 : Nat} {u U : State} {σ : xS} {H : Heap} (hvm : u.vm.Alike U.vm) (h : xW D cA ad b0 u σ H) : xW D cA ad b0 U σ H := ⟨h.1, h.2.1, h.2.2.1, fun c hc => ⟨(h.2.2.2 c hc).1, (h.2.2.2 c hc).2.moved hvm⟩⟩
def xtys (cA : Nat → ClassId) : List (ClassId × FieldType) := [(cA 9, .byte), (cA 10, .int), (cA 11, .boolean), (cA 12, .object "ShadeNames$Name"), (cA 13, .object "ShadeNames$Registry"), (cA 14, .object "ShadeNames$Row"), (cA 15, .object "ShadeNames$Text")]
/-- the static table of greatest figures, the letters of the kinds -/
def xgr (j : Nat) : Int32 := ([5, 5, 5, 9, 3, 9, 1] : List Int32).getD j 0
def xlt (j : Nat) : Int32 := ([110, 119, 115, 108, 100, 112] : List Int32).getD j 0
/-- what stands below the cells: links among nest mates, arrays of ours, the static table (1001), the letters (1002, its bytes 1003) -/
def xE (ad : Nat → Nat) (b0 : Nat) (U : State) : Prop :=
  (va_Nw (.methodLinkNest "ShadeNames$Registry" 17 ⟨"ShadeNames$Name", "<init>", "()V"⟩ "ShadeNames") U ∧ va_Nw (.methodLinkNest "ShadeNames$Text" 38 ⟨"ShadeNames", "among", "(II)Z"⟩ "ShadeNames") U ∧ va_Nw (.methodLinkNest "ShadeNames$Row" 17 ⟨"ShadeNames", "among", "(II)Z"⟩ "ShadeNames") U) ∧
  (va_AO "ShadeNames$Row" U ∧ va_AO "ShadeNames$Text" U ∧ va_AO "ShadeNames$Name" U ∧ va_AO "ShadeNames$Registry" U) ∧
  (va_Z "ShadeNames$Text" "GREATEST" "[I" (.ref (ad 1001)) (fun q => b0 ≤ q) U U.heap ∧ va_T .int (ad 1001) 7 (fun j => .int (xgr j)) (fun q => b0 ≤ q) U U.heap ∧ va_Zq "jdk/internal/util/Preconditions" "SIOOBE_FORMATTER" "Ljava/util/function/BiFunction;" (fun q => b0 ≤ q) U U.heap) ∧
  (va_Z "java/lang/String" "COMPACT_STRINGS" "Z" (.int 1) (fun q => b0 ≤ q) U U.heap ∧ vk_R "ShadeNames$Kind" 9 "nwsldp" (ad 1002) U ∧ va_O "java/lang/String" (ad 1002) (fun q => b0 ≤ q) U U.heap ∧ va_OF "java/lang/String" "coder" "B" (.int 0) (ad 1002) (fun q => b0 ≤ q) U U.heap ∧ va_OF "java/lang/String" "value" "[B" (.ref (ad 1003)) (ad 1002) (fun q => b0 ≤ q) U U.heap ∧ va_T .byte (ad 1003) 6 (fun j => .int (xlt j)) (fun q => b0 ≤ q) U U.heap)
theorem xE.go {ad : Nat → Nat} {b0 : Nat} {s U : State} (h : xE ad b0 s) (hW : s.WarmedH U.vm) (hq : ∀ a : Nat, a < s.heap.size → ¬ b0 ≤ a → U.heap[a]? = s.heap[a]?) : xE ad b0 U := by
  obtain ⟨⟨a1, a2, a3⟩, ⟨b1, b2, b3, b4⟩, ⟨c1, c2, c3⟩, d1, d2, d3, d4, d5, d6⟩ := h
  have hA := hW.alike
  exact ⟨⟨a1.warmM hW, a2.warmM hW, a3.warmM hW⟩, ⟨b1.moved hA, b2.moved hA, b3.moved hA, b4.moved hA⟩, ⟨(c1.kept hq).moved hA, (c2.kept hq).moved hA, (c3.kept hq).moved hA⟩, (d1.kept hq).moved hA, d2.warm hW, (d3.kept hq).moved hA, (d4.kept hq).moved hA, (d5.kept hq).moved hA, (d6.kept hq).moved hA⟩
theorem xE.calling {ad : Nat → Nat} {b0 : Nat} {U : State} {g : JFrame} {mk : MethodId} {a : Array Value} (h : xE ad b0 U) : xE ad b0 (U.calling g mk a) := by
  obtain ⟨⟨a1, a2, a3⟩, ⟨b1, b2, b3, b4⟩, ⟨c1, c2, c3⟩, d1, d2, d3, d4, d5, d6⟩ := h
  have hA : U.vm.Alike (U.calling g mk a).vm := Vm.Alike.refl U.vm
  exact ⟨⟨a1.same rfl rfl, a2.same rfl rfl, a3.same rfl rfl⟩, ⟨b1.moved hA, b2.moved hA, b3.moved hA, b4.moved hA⟩, ⟨c1.moved hA, c2.moved hA, c3.moved hA⟩, d1.moved hA, vk_R.same rfl d2, d3.moved hA, d4.moved hA, d5.moved hA, d6.moved hA⟩
/-- what a method's walk stands on -/
def xC (p : Program) (R : Room) (s : State) (m : MethodId) (args : Array Value) (c : Code) (cc : ByteArray) (own : String) (nL d mc : Nat) (D : va_G) (cA : Nat → ClassId) (ad : Nat → Nat) (b0 : Nat) : Prop :=
  p.tables.exec = Jvm.exec ∧ c.code = cc ∧ c.maxLocals = nL ∧ s.vm.findClass own = some m.cls ∧ (∀ w ∈ xTB, w.before args s = true) ∧ va_K D vwCl (xtys cA) s ∧ xAd ad b0 ∧ b0 ≤ s.heap.size ∧ xE ad b0 s ∧ d ≤ R.frames ∧ 40 * d ≤ R.locals ∧ mc ≤ R.cells ∧ 2000 * mc ≤ R.slots
/-! locals -/
def xk : Value → Bool
  | .int _ => true
  | .long _ => true
  | .ref _ => true
  | _ => false
def xL (ad : Nat → Nat) (ls : Array Slot) (nL : Nat) (lv : List Value) : Prop := ls.size = nL ∧ lv_wf ls ∧ ∀ (i : Nat) (v : Value), lv[i]? = some v → xk v = true → ls[i]? = some (.val (xv ad v))
def xA (ad : Nat → Nat) (lv : List Value) : List (Nat × Value) := (List.range lv.length).filterMap (fun j => (lv[j]?).bind (fun v => if xk v = true then some (j, xv ad v) else none))
theorem xA_mem {ad : Nat → Nat} {lv : List Value} {q : Nat × Value} : q ∈ xA ad lv ↔ ∃ v, lv[q.1]? = some v ∧ xk v = true ∧ q.2 = xv ad v := by
  unfold xA
  rw [List.mem_filterMap]
  constructor
  · rintro ⟨j, hj, h⟩
    cases hv : lv[j]? with
    | none => rw [hv] at h; cases h
    | some v =>
      rw [hv] at h
      simp only [Option.bind_some] at h
      split at h
      · cases h; exact ⟨v, hv, by assumption, rfl⟩
      · cases h
  · rintro ⟨v, hv, hk, h⟩
    refine ⟨q.1, List.mem_range.mpr (List.getElem?_eq_some_iff.mp hv).1, ?_⟩
    rw [hv]
    simp only [Option.bind_some, hk, if_true]
    rw [← h]
theorem xL.has {ad : Nat → Nat} {ls : Array Slot} {nL : Nat} {lv : List Value} (h : xL ad ls nL lv) : lv_has ls nL (xA ad lv) := by
  refine ⟨h.1, h.2.1, fun q hq => ?_⟩
  obtain ⟨v, h1, h2, h3⟩ := xA_mem.mp hq
  rw [h3]
  exact h.2.2 q.1 v h1 h2
/-- no long just below i -/
def xok (lv : List Value) (i : Nat) : Bool := match i with
  | 0 => true
  | j + 1 => match lv[j]? with
    | some (.long _) => false
    | _ => true
theorem xok_not {lv : List Value} {i j : Nat} {x : Int64} (h : xok lv i = true) (hj : j + 1 = i) : lv[j]? ≠ some (.long x) := by
  subst hj
  intro hv
  simp [xok, hv] at h
theorem xL_st1 {ad : Nat → Nat} {ls : Array Slot} {nL i : Nat} {lv : List Value} {v : Value} (hok : xok lv i = true) (h : lv_has ls nL ((i, xv ad v) :: (xA ad lv).filter (fun q => !(q.1 == i) && !(q.1 + 1 == i && q.2.category == 2)))) : xL ad ls nL (lv.set i v) := by
  refine ⟨h.1, h.2.1, fun j w hj hw => ?_⟩
  by_cases hji : j = i
  · subst hji
    rw [List.getElem?_set_self (by have := (List.getElem?_eq_some_iff.mp hj).1; simpa using this)] at hj
    cases hj
    exact h.2.2 (j, xv ad v) List.mem_cons_self
  · rw [List.getElem?_set_ne (Ne.symm hji)] at hj
    refine h.2.2 (j, xv ad w) (List.mem_cons_of_mem _ (List.mem_filter.mpr ⟨xA_mem.mpr ⟨w, hj, hw, rfl⟩, ?_⟩))
    simp only [xv_cat]
    by_cases h1 : j + 1 = i
    · have : w.category ≠ 2 := by
        intro h2
        cases w <;> first | (simp [xk] at hw; done) | (simp [Value.category] at h2; done) | exact xok_not hok h1 hj
      simp [hji, this]
    · simp [hji, h1]
theorem xL_st2 {ad : Nat → Nat} {ls : Array Slot} {nL i : Nat} {lv : List Value} {v : Value} (hok : xok lv i = true) (h : lv_has ls nL ((i, xv ad v) :: (xA ad lv).filter (fun q => !(q.1 == i) && (!(q.1 == i + 1) && !(q.1 + 1 == i && q.2.category == 2))))) : xL ad ls nL ((lv.set i v).set (i + 1) .null) := by
  refine ⟨h.1, h.2.1, fun j w hj hw => ?_⟩
  by_cases hj1 : j = i + 1
  · subst hj1
    rw [List.getElem?_set_self (by have := (List.getElem?_eq_some_iff.mp hj).1; simpa using this)] at hj
    cases hj
    simp [xk] at hw
  · rw [List.getElem?_set_ne (Ne.symm hj1)] at hj
    by_cases hji : j = i
    · subst hji
      rw [List.getElem?_set_self (by have := (List.getElem?_eq_some_iff.mp hj).1; simpa using this)] at hj
      cases hj
      exact h.2.2 (j, xv ad v) List.mem_cons_self
    · rw [List.getElem?_set_ne (Ne.symm hji)] at hj
      refine h.2.2 (j, xv ad w) (List.mem_cons_of_mem _ (List.mem_filter.mpr ⟨xA_mem.mpr ⟨w, hj, hw, rfl⟩, ?_⟩))
      simp only [xv_cat]
      by_cases h1 : j + 1 = i
      · have : w.category ≠ 2 := by
          intro h2
          cases w <;> first | (simp [xk] at hw; done) | (simp [Value.category] at h2; done) | exact xok_not hok h1 hj
        simp [hji, hj1, this]
      · simp [hji, hj1, h1]
/-! the judgements -/
def xJ (p : Program) (l : Launch) (e : Env) (R : Room) (s : State) (m : MethodId) (args : Array Value) (below : List Frame) (meth : Method) (c : Code) (Q : State → Prop) (D : va_G) (cA : Nat → ClassId) (ad : Nat → Nat) (b0 nL mc : Nat) (fr : xF) : Prop :=
  fr.2.2.2.1 ≤ mc → ∀ (H : Heap) (locs : List Loc) (ls : Array Slot), xW D cA ad b0 s fr.2.2.2.2 H → va_S (fun q => b0 ≤ q) s.heap H locs → xL ad ls nL fr.2.1 →
    W p l e R s m args below meth c H locs (mc - fr.2.2.2.1) (2000 * (mc - fr.2.2.2.1)) Q (F0 m fr.1 ls (fr.2.2.1.map (xv ad)))
/-- the method's end with r, in the state σ: what the surrounding asks there -/
def xEnd (p : Program) (l : Launch) (e : Env) (R : Room) (s : State) (m : MethodId) (args : Array Value) (below : List Frame) (meth : Method) (c : Code) (Q : State → Prop) (D : va_G) (cA : Nat → ClassId) (ad : Nat → Nat) (b0 mc : Nat) (cc : ByteArray) (r : xR) : Prop :=
  ∀ (H : Heap) (locs : List Loc) (ls : Array Slot) (pc al : Nat), al ≤ mc → (match r.1 with
      | none => decode cc pc = .ok (.return_, 1)
      | some (.int _) => decode cc pc = .ok (.ireturn, 1)
      | some (.long _) => decode cc pc = .ok (.lreturn, 1)
      | some (.ref _) => decode cc pc = .ok (.areturn, 1)
      | _ => False) → xW D cA ad b0 s r.2 H → va_S (fun q => b0 ≤ q) s.heap H locs →
    W p l e R s m args below meth c H locs (mc - al) (2000 * (mc - al)) Q (F0 m pc ls (r.1.toList.map (xv ad)))
/-- an instruction of ours stands for the machine's -/
def xOK (l : Launch) (cc : ByteArray) (own : String) (nL d mc : Nat) (ini : Prop) (pc : Nat) (op : xO) : Prop :=
  ∀ (p : Program) (e : Env) (R : Room) (s : State) (m : MethodId) (args : Array Value) (below : List Frame) (meth : Method) (c : Code) (Q : State → Prop) (D : va_G) (cA : Nat → ClassId) (ad : Nat → Nat) (b0 : Nat),
    xC p R s m args c cc own nL d mc D cA ad b0 → (ini → meth.name = "<init>") → ∀ (lv st : List Value) (al : Nat) (σ : xS) (o : xF ⊕ xR), op (pc, lv, st, al, σ) = some o →
    (match o with
      | .inl fr => xJ p l e R s m args below meth c Q D cA ad b0 nL mc fr
      | .inr r => xEnd p l e R s m args below meth c Q D cA ad b0 mc cc r) → xJ p l e R s m args below meth c Q D cA ad b0 nL mc (pc, lv, st, al, σ)
/-- the run: n instructions at most -/
def xrun (tab : List (Nat × xO)) : Nat → xF → Option xR
  | 0, _ => none
  | n + 1, fr => match (tab.lookup fr.1).bind (fun op => op fr) with
    | none => none
    | some (.inl fr') => xrun tab n fr'
    | some (.inr r) => some r
theorem x_lookup {tab : List (Nat × xO)} {pc : Nat} {op : xO} (h : tab.lookup pc = some op) : (pc, op) ∈ tab := by
  induction tab with
  | nil => simp at h
  | cons a t ih =>
    obtain ⟨a1, a2⟩ := a
    rw [List.lookup_cons] at h
    split at h
    · have e1 : pc = a1 := by simpa using (by assumption : (pc == a1) = true)
      cases h
      rw [e1]
      exact List.mem_cons_self
    · exact List.mem_cons_of_mem _ (ih h)
theorem x_sound {l : Launch} {cc : ByteArray} {own : String} {nL d mc : Nat} {ini : Prop} {tab : List (Nat × xO)} (ht : ∀ q ∈ tab, xOK l cc own nL d mc ini q.1 q.2)
    {p : Program} {e : Env} {R : Room} {s : State} {m : MethodId} {args : Array Value} {below : List Frame} {meth : Method} {c : Code} {Q : State → Prop} {D : va_G} {cA : Nat → ClassId} {ad : Nat → Nat} {b0 : Nat} (C : xC p R s m args c cc own nL d mc D cA ad b0) (hi : ini → meth.name = "<init>") :
    ∀ (n : Nat) (fr : xF) (r : xR), xrun tab n fr = some r → xEnd p l e R s m args below meth c Q D cA ad b0 mc cc r → xJ p l e R s m args below meth c Q D cA ad b0 nL mc fr := by
  intro n
  induction n with
  | zero => intro fr r h; cases h
  | succ n ih =>
    intro fr r h hE
    obtain ⟨pc, lv, st, al, σ⟩ := fr
    simp only [xrun] at h
    cases hop : tab.lookup pc with
    | none => rw [hop] at h; cases h
    | some op =>
      rw [hop, Option.bind_some] at h
      cases ho : op (pc, lv, st, al, σ) with
      | none => rw [ho] at h; cases h
      | some o =>
        rw [ho] at h
        refine ht _ (x_lookup hop) p e R s m args below meth c Q D cA ad b0 C hi lv st al σ o ho ?_
        cases o with
        | inl fr' => exact ih fr' r h hE
        | inr r' => cases h; exact hE
