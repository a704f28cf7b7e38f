def x_push (v : Value) (len : Nat) : xO := fun (pc, lv, st, al, σ) => some (.inl (pc + len, lv, v :: st, al, σ))
def x_iload (i len : Nat) : xO := fun (pc, lv, st, al, σ) => match lv[i]? with
  | some (.int x) => some (.inl (pc + len, lv, .int x :: st, al, σ))
  | _ => none
def x_lload (i len : Nat) : xO := fun (pc, lv, st, al, σ) => match lv[i]? with
  | some (.long x) => some (.inl (pc + len, lv, .long x :: st, al, σ))
  | _ => none
def x_aload (i len : Nat) : xO := fun (pc, lv, st, al, σ) => match lv[i]? with
  | some (.ref x) => some (.inl (pc + len, lv, .ref x :: st, al, σ))
  | _ => none
def x_istore (i len : Nat) : xO := fun (pc, lv, st, al, σ) => match st with
  | .int x :: st => if xok lv i = true then some (.inl (pc + len, lv.set i (.int x), st, al, σ)) else none
  | _ => none
def x_lstore (i len : Nat) : xO := fun (pc, lv, st, al, σ) => match st with
  | .long x :: st => if xok lv i = true then some (.inl (pc + len, (lv.set i (.long x)).set (i + 1) .null, st, al, σ)) else none
  | _ => none
def x_astore (i len : Nat) : xO := fun (pc, lv, st, al, σ) => match st with
  | .ref x :: st => if xok lv i = true then some (.inl (pc + len, lv.set i (.ref x), st, al, σ)) else none
  | _ => none
def x_iinc (i : Nat) (n : Int32) : xO := fun (pc, lv, st, al, σ) => match lv[i]? with
  | some (.int x) => if xok lv i = true then some (.inl (pc + 3, lv.set i (.int (x + n)), st, al, σ)) else none
  | _ => none
def x_ii (g : Int32 → Int32 → Int32) : xO := fun (pc, lv, st, al, σ) => match st with
  | .int y :: .int x :: st => some (.inl (pc + 1, lv, .int (g x y) :: st, al, σ))
  | _ => none
def x_i (g : Int32 → Int32) : xO := fun (pc, lv, st, al, σ) => match st with
  | .int x :: st => some (.inl (pc + 1, lv, .int (g x) :: st, al, σ))
  | _ => none
def x_idiv : xO := fun (pc, lv, st, al, σ) => match st with
  | .int y :: .int x :: st => if y = 0 then none else some (.inl (pc + 1, lv, .int (x / y) :: st, al, σ))
  | _ => none
def x_irem : xO := fun (pc, lv, st, al, σ) => match st with
  | .int y :: .int x :: st => if y = 0 then none else some (.inl (pc + 1, lv, .int (x - x / y * y) :: st, al, σ))
  | _ => none
def x_ll (g : Int64 → Int64 → Int64) : xO := fun (pc, lv, st, al, σ) => match st with
  | .long y :: .long x :: st => some (.inl (pc + 1, lv, .long (g x y) :: st, al, σ))
  | _ => none
def x_ldiv : xO := fun (pc, lv, st, al, σ) => match st with
  | .long y :: .long x :: st => if y = 0 then none else some (.inl (pc + 1, lv, .long (x / y) :: st, al, σ))
  | _ => none
def x_lrem : xO := fun (pc, lv, st, al, σ) => match st with
  | .long y :: .long x :: st => if y = 0 then none else some (.inl (pc + 1, lv, .long (x - x / y * y) :: st, al, σ))
  | _ => none
def x_lcmp : xO := fun (pc, lv, st, al, σ) => match st with
  | .long y :: .long x :: st => some (.inl (pc + 1, lv, .int (lg_cmp x y) :: st, al, σ))
  | _ => none
def x_i2l : xO := fun (pc, lv, st, al, σ) => match st with
  | .int x :: st => some (.inl (pc + 1, lv, .long x.toInt64 :: st, al, σ))
  | _ => none
def x_l2i : xO := fun (pc, lv, st, al, σ) => match st with
  | .long x :: st => some (.inl (pc + 1, lv, .int x.toInt32 :: st, al, σ))
  | _ => none
def x_dup : xO := fun (pc, lv, st, al, σ) => match st with
  | .int x :: st => some (.inl (pc + 1, lv, .int x :: .int x :: st, al, σ))
  | .ref x :: st => some (.inl (pc + 1, lv, .ref x :: .ref x :: st, al, σ))
  | _ => none
/-- an int above a reference, twice -/
def x_dup2 : xO := fun (pc, lv, st, al, σ) => match st with
  | .int x :: .ref y :: st => some (.inl (pc + 1, lv, .int x :: .ref y :: .int x :: .ref y :: st, al, σ))
  | _ => none
def x_pop : xO := fun (pc, lv, st, al, σ) => match st with
  | .int _ :: st => some (.inl (pc + 1, lv, st, al, σ))
  | _ => none
def x_goto (tgt : Nat) : xO := fun (_, lv, st, al, σ) => some (.inl (tgt, lv, st, al, σ))
def x_br1 (t : Int32 → Bool) (tgt : Nat) : xO := fun (pc, lv, st, al, σ) => match st with
  | .int x :: st => if t x = true then some (.inl (tgt, lv, st, al, σ)) else some (.inl (pc + 3, lv, st, al, σ))
  | _ => none
def x_br2 (t : Int32 → Int32 → Bool) (tgt : Nat) : xO := fun (pc, lv, st, al, σ) => match st with
  | .int y :: .int x :: st => if t x y = true then some (.inl (tgt, lv, st, al, σ)) else some (.inl (pc + 3, lv, st, al, σ))
  | _ => none
abbrev x_ifeq : Nat → xO := x_br1 (fun x => decide (x = 0))
abbrev x_ifne : Nat → xO := x_br1 (fun x => !decide (x = 0))
abbrev x_iflt : Nat → xO := x_br1 (fun x => decide (x < 0))
abbrev x_ifge : Nat → xO := x_br1 (fun x => decide (0 ≤ x))
abbrev x_ifgt : Nat → xO := x_br1 (fun x => decide (0 < x))
abbrev x_ifle : Nat → xO := x_br1 (fun x => decide (x ≤ 0))
abbrev x_cmpeq : Nat → xO := x_br2 (fun x y => decide (x = y))
abbrev x_cmpne : Nat → xO := x_br2 (fun x y => !decide (x = y))
abbrev x_cmplt : Nat → xO := x_br2 (fun x y => decide (x < y))
abbrev x_cmpge : Nat → xO := x_br2 (fun x y => decide (y ≤ x))
abbrev x_cmpgt : Nat → xO := x_br2 (fun x y => decide (y < x))
abbrev x_cmple : Nat → xO := x_br2 (fun x y => decide (x ≤ y))
def x_sw (cs : List (Int32 × Nat)) (dflt : Nat) (x : Int32) : Nat := match cs with
  | [] => dflt
  | (k, t) :: cs => if x = k then t else x_sw cs dflt x
def x_swf (lv st : List Value) (al : Nat) (σ : xS) (x : Int32) (dflt : Nat) : List (Int32 × Nat) → Option (xF ⊕ xR)
  | [] => some (.inl (dflt, lv, st, al, σ))
  | (k, t) :: cs => if x = k then some (.inl (t, lv, st, al, σ)) else x_swf lv st al σ x dflt cs
theorem x_swf_eq (lv st : List Value) (al : Nat) (σ : xS) (x : Int32) (dflt : Nat) : ∀ cs, x_swf lv st al σ x dflt cs = some (.inl (x_sw cs dflt x, lv, st, al, σ))
  | [] => rfl
  | (k, t) :: cs => by
    simp only [x_swf, x_sw]
    split
    · rfl
    · exact x_swf_eq lv st al σ x dflt cs
def x_switch (cs : List (Int32 × Nat)) (dflt : Nat) : xO := fun (_, lv, st, al, σ) => match st with
  | .int x :: st => x_swf lv st al σ x dflt cs
  | _ => none
def x_vret : xO := fun (_, _, st, _, σ) => match st with
  | [] => some (.inr (none, σ))
  | _ => none
def x_iret : xO := fun (_, _, st, _, σ) => match st with
  | [.int x] => some (.inr (some (.int x), σ))
  | _ => none
def x_lret : xO := fun (_, _, st, _, σ) => match st with
  | [.long x] => some (.inr (some (.long x), σ))
  | _ => none
def x_aret : xO := fun (_, _, st, _, σ) => match st with
  | [.ref x] => some (.inr (some (.ref x), σ))
  | _ => none
section OPS
variable {l : Launch} {cc : ByteArray} {own : String} {nL d mc pc : Nat} {ini : Prop}
theorem x_iconst_ok {n : Int} {v : Int32} (hd : decode cc pc = .ok (.iconst n, 1)) (hv : Int32.ofInt n = v) : xOK l cc own nL d mc ini pc (x_push (.int v) 1) := by
  rintro p e R s m args below meth c Q D cA ad b0 ⟨hx, hb, -⟩ hi lv st al σ o ho hk
  cases ho
  intro hal H locs ls hW hS hL
  exact lv_iconst hx hb hd hv (hk hal H locs ls hW hS hL)
theorem x_bipush_ok {n : Int} {v : Int32} (hd : decode cc pc = .ok (.bipush n, 2)) (hv : (Int8.ofInt n).toInt32 = v) : xOK l cc own nL d mc ini pc (x_push (.int v) 2) := by
  rintro p e R s m args below meth c Q D cA ad b0 ⟨hx, hb, -⟩ hi lv st al σ o ho hk
  cases ho
  intro hal H locs ls hW hS hL
  exact lv_bipush hx hb hd hv (hk hal H locs ls hW hS hL)
theorem x_sipush_ok {n : Int} {v : Int32} (hd : decode cc pc = .ok (.sipush n, 3)) (hv : (Int16.ofInt n).toInt32 = v) : xOK l cc own nL d mc ini pc (x_push (.int v) 3) := by
  rintro p e R s m args below meth c Q D cA ad b0 ⟨hx, hb, -⟩ hi lv st al σ o ho hk
  cases ho
  intro hal H locs ls hW hS hL
  exact lv_sipush hx hb hd hv (hk hal H locs ls hW hS hL)
theorem x_lconst_ok {n : Fin 2} {v : Int64} (hd : decode cc pc = .ok (.lconst n, 1)) (hv : Int64.ofNat (n : Nat) = v) : xOK l cc own nL d mc ini pc (x_push (.long v) 1) := by
  rintro p e R s m args below meth c Q D cA ad b0 ⟨hx, hb, -⟩ hi lv st al σ o ho hk
  cases ho
  intro hal H locs ls hW hS hL
  exact lv_lconst hx hb hd hv (hk hal H locs ls hW hS hL)
theorem x_ldc_ok {i : Nat} {v : Int32} (hd : decode cc pc = .ok (.ldc i, 2)) (hw : Cond.constant own i v ∈ xTB) : xOK l cc own nL d mc ini pc (x_push (.int v) 2) := by
  rintro p e R s m args below meth c Q D cA ad b0 ⟨hx, hb, hml, hown, hts, -⟩ hi lv st al σ o ho hk
  cases ho
  intro hal H locs ls hW hS hL
  exact lv_ldc hx hb hown (hts _ hw) hd (hk hal H locs ls hW hS hL)
theorem x_ldcw_ok {i : Nat} {v : Int32} (hd : decode cc pc = .ok (.ldc_w i, 3)) (hw : Cond.constant own i v ∈ xTB) : xOK l cc own nL d mc ini pc (x_push (.int v) 3) := by
  rintro p e R s m args below meth c Q D cA ad b0 ⟨hx, hb, hml, hown, hts, -⟩ hi lv st al σ o ho hk
  cases ho
  intro hal H locs ls hW hS hL
  exact lv_ldcw hx hb hown (hts _ hw) hd (hk hal H locs ls hW hS hL)
theorem x_ldc2_ok {i : Nat} {v : Int64} (hd : decode cc pc = .ok (.ldc2_w i, 3)) (hw : Cond.constantLong own i v ∈ xTB) : xOK l cc own nL d mc ini pc (x_push (.long v) 3) := by
  rintro p e R s m args below meth c Q D cA ad b0 ⟨hx, hb, hml, hown, hts, -⟩ hi lv st al σ o ho hk
  cases ho
  intro hal H locs ls hW hS hL
  exact lv_ldc2 hx hb hown (hts _ hw) hd (hk hal H locs ls hW hS hL)
theorem x_iload_ok {i : Nat} (hd : decode cc pc = .ok (.iload i, 2)) : xOK l cc own nL d mc ini pc (x_iload i 2) := by
  rintro p e R s m args below meth c Q D cA ad b0 ⟨hx, hb, -⟩ hi lv st al σ o ho hk
  simp only [x_iload] at ho
  split at ho
  · cases ho
    intro hal H locs ls hW hS hL
    exact lv_iload hx hb hd (hL.2.2 _ _ (by assumption) rfl) (hk hal H locs ls hW hS hL)
  · cases ho
theorem x_iload_n_ok {k : Fin 4} {i : Nat} (hd : decode cc pc = .ok (.iload_n k, 1)) (hki : (k : Nat) = i) : xOK l cc own nL d mc ini pc (x_iload i 1) := by
  rintro p e R s m args below meth c Q D cA ad b0 ⟨hx, hb, -⟩ hi lv st al σ o ho hk
  simp only [x_iload] at ho
  split at ho
  · cases ho
    intro hal H locs ls hW hS hL
    exact lv_iload_n hx hb hd hki (hL.2.2 _ _ (by assumption) rfl) (hk hal H locs ls hW hS hL)
  · cases ho
theorem x_lload_ok {i : Nat} (hd : decode cc pc = .ok (.lload i, 2)) : xOK l cc own nL d mc ini pc (x_lload i 2) := by
  rintro p e R s m args below meth c Q D cA ad b0 ⟨hx, hb, -⟩ hi lv st al σ o ho hk
  simp only [x_lload] at ho
  split at ho
  · cases ho
    intro hal H locs ls hW hS hL
    exact lv_lload hx hb hd (hL.2.2 _ _ (by assumption) rfl) (hk hal H locs ls hW hS hL)
  · cases ho
theorem x_lload_n_ok {k : Fin 4} {i : Nat} (hd : decode cc pc = .ok (.lload_n k, 1)) (hki : (k : Nat) = i) : xOK l cc own nL d mc ini pc (x_lload i 1) := by
  rintro p e R s m args below meth c Q D cA ad b0 ⟨hx, hb, -⟩ hi lv st al σ o ho hk
  simp only [x_lload] at ho
  split at ho
  · cases ho
    intro hal H locs ls hW hS hL
    exact lv_lload_n hx hb hd hki (hL.2.2 _ _ (by assumption) rfl) (hk hal H locs ls hW hS hL)
  · cases ho
theorem x_aload_ok {i : Nat} (hd : decode cc pc = .ok (.aload i, 2)) : xOK l cc own nL d mc ini pc (x_aload i 2) := by
  rintro p e R s m args below meth c Q D cA ad b0 ⟨hx, hb, -⟩ hi lv st al σ o ho hk
  simp only [x_aload] at ho
  split at ho
  · cases ho
    intro hal H locs ls hW hS hL
    exact lv_aload hx hb hd (hL.2.2 _ _ (by assumption) rfl) (hk hal H locs ls hW hS hL)
  · cases ho
theorem x_aload_n_ok {k : Fin 4} {i : Nat} (hd : decode cc pc = .ok (.aload_n k, 1)) (hki : (k : Nat) = i) : xOK l cc own nL d mc ini pc (x_aload i 1) := by
  rintro p e R s m args below meth c Q D cA ad b0 ⟨hx, hb, -⟩ hi lv st al σ o ho hk
  simp only [x_aload] at ho
  split at ho
  · cases ho
    intro hal H locs ls hW hS hL
    exact lv_aload_n hx hb hd hki (hL.2.2 _ _ (by assumption) rfl) (hk hal H locs ls hW hS hL)
  · cases ho
theorem x_istore_ok {i : Nat} (hd : decode cc pc = .ok (.istore i, 2)) (hn : i < nL) : xOK l cc own nL d mc ini pc (x_istore i 2) := by
  rintro p e R s m args below meth c Q D cA ad b0 ⟨hx, hb, -⟩ hi lv st al σ o ho hk
  simp only [x_istore] at ho
  split at ho
  · split at ho
    · cases ho
      intro hal H locs ls hW hS hL
      exact lv_istore hx hb hd hL.has hn rfl (fun ls' h' => hk hal H locs ls' hW hS (xL_st1 (v := .int _) (by assumption) h'))
    · cases ho
  · cases ho
theorem x_istore_n_ok {k : Fin 4} {i : Nat} (hd : decode cc pc = .ok (.istore_n k, 1)) (hki : (k : Nat) = i) (hn : i < nL) : xOK l cc own nL d mc ini pc (x_istore i 1) := by
  rintro p e R s m args below meth c Q D cA ad b0 ⟨hx, hb, -⟩ hi lv st al σ o ho hk
  simp only [x_istore] at ho
  split at ho
  · split at ho
    · cases ho
      intro hal H locs ls hW hS hL
      exact lv_istore_n hx hb hd hki hL.has hn rfl (fun ls' h' => hk hal H locs ls' hW hS (xL_st1 (v := .int _) (by assumption) h'))
    · cases ho
  · cases ho
theorem x_lstore_ok {i : Nat} (hd : decode cc pc = .ok (.lstore i, 2)) (hn : i + 1 < nL) : xOK l cc own nL d mc ini pc (x_lstore i 2) := by
  rintro p e R s m args below meth c Q D cA ad b0 ⟨hx, hb, -⟩ hi lv st al σ o ho hk
  simp only [x_lstore] at ho
  split at ho
  · split at ho
    · cases ho
      intro hal H locs ls hW hS hL
      exact lv_lstore hx hb hd hL.has hn rfl (fun ls' h' => hk hal H locs ls' hW hS (xL_st2 (v := .long _) (by assumption) h'))
    · cases ho
  · cases ho
theorem x_lstore_n_ok {k : Fin 4} {i : Nat} (hd : decode cc pc = .ok (.lstore_n k, 1)) (hki : (k : Nat) = i) (hn : i + 1 < nL) : xOK l cc own nL d mc ini pc (x_lstore i 1) := by
  rintro p e R s m args below meth c Q D cA ad b0 ⟨hx, hb, -⟩ hi lv st al σ o ho hk
  simp only [x_lstore] at ho
  split at ho
  · split at ho
    · cases ho
      intro hal H locs ls hW hS hL
      exact lv_lstore_n hx hb hd hki hL.has hn rfl (fun ls' h' => hk hal H locs ls' hW hS (xL_st2 (v := .long _) (by assumption) h'))
    · cases ho
  · cases ho
theorem x_astore_ok {i : Nat} (hd : decode cc pc = .ok (.astore i, 2)) (hn : i < nL) : xOK l cc own nL d mc ini pc (x_astore i 2) := by
  rintro p e R s m args below meth c Q D cA ad b0 ⟨hx, hb, -⟩ hi lv st al σ o ho hk
  simp only [x_astore] at ho
  split at ho
  · split at ho
    · cases ho
      intro hal H locs ls hW hS hL
      exact lv_astore hx hb hd hL.has hn rfl (fun ls' h' => hk hal H locs ls' hW hS (xL_st1 (v := .ref _) (by assumption) h'))
    · cases ho
  · cases ho
theorem x_astore_n_ok {k : Fin 4} {i : Nat} (hd : decode cc pc = .ok (.astore_n k, 1)) (hki : (k : Nat) = i) (hn : i < nL) : xOK l cc own nL d mc ini pc (x_astore i 1) := by
  rintro p e R s m args below meth c Q D cA ad b0 ⟨hx, hb, -⟩ hi lv st al σ o ho hk
  simp only [x_astore] at ho
  split at ho
  · split at ho
    · cases ho
      intro hal H locs ls hW hS hL
      exact lv_astore_n hx hb hd hki hL.has hn rfl (fun ls' h' => hk hal H locs ls' hW hS (xL_st1 (v := .ref _) (by assumption) h'))
    · cases ho
  · cases ho
theorem x_iinc_ok {i : Nat} {n : Int} {v : Int32} (hd : decode cc pc = .ok (.iinc i n, 3)) (hv : Int32.ofInt n = v) (hn : i < nL) : xOK l cc own nL d mc ini pc (x_iinc i v) := by
  rintro p e R s m args below meth c Q D cA ad b0 ⟨hx, hb, -⟩ hi lv st al σ o ho hk
  subst hv
  simp only [x_iinc] at ho
  split at ho
  · split at ho
    · cases ho
      intro hal H locs ls hW hS hL
      obtain ⟨k, hk2⟩ := List.getElem?_of_mem (xA_mem (ad := ad) (q := (i, .int _)).mpr ⟨_, by assumption, rfl, rfl⟩)
      exact lv_iinc hx hb hd hL.has hk2 rfl hn rfl (fun ls' h' => hk hal H locs ls' hW hS (xL_st1 (v := .int _) (by assumption) h'))
    · cases ho
  · cases ho
theorem x_ii_ok {g : Int32 → Int32 → Int32} {ins : Instr} (hd : decode cc pc = .ok (ins, 1))
    (row : ∀ {p : Program} {l : Launch} {e : Env} {R : Room} {s : State} {m : MethodId} {args : Array Value} {below : List Frame} {meth : Method} {c : Code} {H : Heap} {locs : List Loc} {cells slots : Nat} {Q : State → Prop} {ls : Array Slot} {rest : List Value} {x y : Int32}, p.tables.exec = Jvm.exec → c.code = cc → decode cc pc = .ok (ins, 1) →
      W p l e R s m args below meth c H locs cells slots Q (F0 m (pc + 1) ls (.int (g x y) :: rest)) → W p l e R s m args below meth c H locs cells slots Q (F0 m pc ls (.int y :: .int x :: rest))) : xOK l cc own nL d mc ini pc (x_ii g) := by
  rintro p e R s m args below meth c Q D cA ad b0 ⟨hx, hb, -⟩ hi lv st al σ o ho hk
  simp only [x_ii] at ho
  split at ho
  · cases ho
    intro hal H locs ls hW hS hL
    exact row hx hb hd (hk hal H locs ls hW hS hL)
  · cases ho
theorem x_iadd_ok (hd : decode cc pc = .ok (.iadd, 1)) : xOK l cc own nL d mc ini pc (x_ii (fun x y => x + y)) := x_ii_ok hd (fun a b c k => lv_iadd a b c k)
theorem x_isub_ok (hd : decode cc pc = .ok (.isub, 1)) : xOK l cc own nL d mc ini pc (x_ii (fun x y => x - y)) := x_ii_ok hd (fun a b c k => lv_isub a b c k)
theorem x_imul_ok (hd : decode cc pc = .ok (.imul, 1)) : xOK l cc own nL d mc ini pc (x_ii (fun x y => x * y)) := x_ii_ok hd (fun a b c k => lv_imul a b c k)
theorem x_iand_ok (hd : decode cc pc = .ok (.iand, 1)) : xOK l cc own nL d mc ini pc (x_ii (fun x y => x &&& y)) := x_ii_ok hd (fun a b c k => lv_iand a b c k)
theorem x_ior_ok (hd : decode cc pc = .ok (.ior, 1)) : xOK l cc own nL d mc ini pc (x_ii (fun x y => x ||| y)) := x_ii_ok hd (fun a b c k => lv_ior a b c k)
theorem x_ixor_ok (hd : decode cc pc = .ok (.ixor, 1)) : xOK l cc own nL d mc ini pc (x_ii (fun x y => x ^^^ y)) := x_ii_ok hd (fun a b c k => lv_ixor a b c k)
theorem x_ishl_ok (hd : decode cc pc = .ok (.ishl, 1)) : xOK l cc own nL d mc ini pc (x_ii (fun x y => x <<< (y &&& 31))) := x_ii_ok hd (fun a b c k => lv_ishl a b c k)
theorem x_ishr_ok (hd : decode cc pc = .ok (.ishr, 1)) : xOK l cc own nL d mc ini pc (x_ii (fun x y => x >>> (y &&& 31))) := x_ii_ok hd (fun a b c k => lv_ishr a b c k)
theorem x_iushr_ok (hd : decode cc pc = .ok (.iushr, 1)) : xOK l cc own nL d mc ini pc (x_ii (fun x y => (x.toUInt32 >>> (y.toUInt32 &&& Int32.toUInt32 31)).toInt32)) := x_ii_ok hd (fun a b c k => lv_iushr a b c rfl k)
theorem x_i2b_ok (hd : decode cc pc = .ok (.i2b, 1)) : xOK l cc own nL d mc ini pc (x_i (fun x => x.toInt8.toInt32)) := by
  rintro p e R s m args below meth c Q D cA ad b0 ⟨hx, hb, -⟩ hi lv st al σ o ho hk
  simp only [x_i] at ho
  split at ho
  · cases ho
    intro hal H locs ls hW hS hL
    exact lv_i2b hx hb hd rfl (hk hal H locs ls hW hS hL)
  · cases ho
theorem x_i2c_ok (hd : decode cc pc = .ok (.i2c, 1)) : xOK l cc own nL d mc ini pc (x_i (fun x => (x.toUInt32 % 65536).toInt32)) := by
  rintro p e R s m args below meth c Q D cA ad b0 ⟨hx, hb, -⟩ hi lv st al σ o ho hk
  simp only [x_i] at ho
  split at ho
  · cases ho
    intro hal H locs ls hW hS hL
    exact lv_i2c hx hb hd rfl (hk hal H locs ls hW hS hL)
  · cases ho
theorem x_ineg_ok (hd : decode cc pc = .ok (.ineg, 1)) : xOK l cc own nL d mc ini pc (x_i (fun x => -x)) := by
  rintro p e R s m args below meth c Q D cA ad b0 ⟨hx, hb, -⟩ hi lv st al σ o ho hk
  simp only [x_i] at ho
  split at ho
  · cases ho
    intro hal H locs ls hW hS hL
    exact lv_ineg hx hb hd (hk hal H locs ls hW hS hL)
  · cases ho
theorem x_idiv_ok (hd : decode cc pc = .ok (.idiv, 1)) : xOK l cc own nL d mc ini pc x_idiv := by
  rintro p e R s m args below meth c Q D cA ad b0 ⟨hx, hb, -⟩ hi lv st al σ o ho hk
  simp only [x_idiv] at ho
  split at ho
  · split at ho
    · cases ho
    · cases ho
      intro hal H locs ls hW hS hL
      exact lv_idiv hx hb hd (by assumption) (hk hal H locs ls hW hS hL)
  · cases ho
theorem x_irem_ok (hd : decode cc pc = .ok (.irem, 1)) : xOK l cc own nL d mc ini pc x_irem := by
  rintro p e R s m args below meth c Q D cA ad b0 ⟨hx, hb, -⟩ hi lv st al σ o ho hk
  simp only [x_irem] at ho
  split at ho
  · split at ho
    · cases ho
    · cases ho
      intro hal H locs ls hW hS hL
      exact lv_irem hx hb hd (by assumption) (hk hal H locs ls hW hS hL)
  · cases ho
theorem x_ladd_ok (hd : decode cc pc = .ok (.ladd, 1)) : xOK l cc own nL d mc ini pc (x_ll (fun x y => x + y)) := by
  rintro p e R s m args below meth c Q D cA ad b0 ⟨hx, hb, -⟩ hi lv st al σ o ho hk
  simp only [x_ll] at ho
  split at ho
  · cases ho
    intro hal H locs ls hW hS hL
    exact lv_ladd hx hb hd (hk hal H locs ls hW hS hL)
  · cases ho
theorem x_lmul_ok (hd : decode cc pc = .ok (.lmul, 1)) : xOK l cc own nL d mc ini pc (x_ll (fun x y => x * y)) := by
  rintro p e R s m args below meth c Q D cA ad b0 ⟨hx, hb, -⟩ hi lv st al σ o ho hk
  simp only [x_ll] at ho
  split at ho
  · cases ho
    intro hal H locs ls hW hS hL
    exact lv_lmul hx hb hd (hk hal H locs ls hW hS hL)
  · cases ho
theorem x_ldiv_ok (hd : decode cc pc = .ok (.ldiv, 1)) : xOK l cc own nL d mc ini pc x_ldiv := by
  rintro p e R s m args below meth c Q D cA ad b0 ⟨hx, hb, -⟩ hi lv st al σ o ho hk
  simp only [x_ldiv] at ho
  split at ho
  · split at ho
    · cases ho
    · cases ho
      intro hal H locs ls hW hS hL
      exact lv_ldiv hx hb hd (by assumption) (hk hal H locs ls hW hS hL)
  · cases ho
theorem x_lrem_ok (hd : decode cc pc = .ok (.lrem, 1)) : xOK l cc own nL d mc ini pc x_lrem := by
  rintro p e R s m args below meth c Q D cA ad b0 ⟨hx, hb, -⟩ hi lv st al σ o ho hk
  simp only [x_lrem] at ho
  split at ho
  · split at ho
    · cases ho
    · cases ho
      intro hal H locs ls hW hS hL
      exact lv_lrem hx hb hd (by assumption) (hk hal H locs ls hW hS hL)
  · cases ho
theorem x_lcmp_ok (hd : decode cc pc = .ok (.lcmp, 1)) : xOK l cc own nL d mc ini pc x_lcmp := by
  rintro p e R s m args below meth c Q D cA ad b0 ⟨hx, hb, -⟩ hi lv st al σ o ho hk
  simp only [x_lcmp] at ho
  split at ho
  · cases ho
    intro hal H locs ls hW hS hL
    exact W.lcmp hx hb hd (hk hal H locs ls hW hS hL)
  · cases ho
theorem x_i2l_ok (hd : decode cc pc = .ok (.i2l, 1)) : xOK l cc own nL d mc ini pc x_i2l := by
  rintro p e R s m args below meth c Q D cA ad b0 ⟨hx, hb, -⟩ hi lv st al σ o ho hk
  simp only [x_i2l] at ho
  split at ho
  · cases ho
    intro hal H locs ls hW hS hL
    exact lv_i2l hx hb hd rfl (hk hal H locs ls hW hS hL)
  · cases ho
theorem x_l2i_ok (hd : decode cc pc = .ok (.l2i, 1)) : xOK l cc own nL d mc ini pc x_l2i := by
  rintro p e R s m args below meth c Q D cA ad b0 ⟨hx, hb, -⟩ hi lv st al σ o ho hk
  simp only [x_l2i] at ho
  split at ho
  · cases ho
    intro hal H locs ls hW hS hL
    exact lv_l2i hx hb hd rfl (hk hal H locs ls hW hS hL)
  · cases ho
theorem x_dup_ok (hd : decode cc pc = .ok (.dup, 1)) : xOK l cc own nL d mc ini pc x_dup := by
  rintro p e R s m args below meth c Q D cA ad b0 ⟨hx, hb, -⟩ hi lv st al σ o ho hk
  simp only [x_dup] at ho
  split at ho
  · cases ho
    intro hal H locs ls hW hS hL
    exact lv_dup hx hb hd rfl (hk hal H locs ls hW hS hL)
  · cases ho
    intro hal H locs ls hW hS hL
    exact lv_dup hx hb hd rfl (hk hal H locs ls hW hS hL)
  · cases ho
theorem x_dup2_ok (hd : decode cc pc = .ok (.dup2, 1)) : xOK l cc own nL d mc ini pc x_dup2 := by
  rintro p e R s m args below meth c Q D cA ad b0 ⟨hx, hb, -⟩ hi lv st al σ o ho hk
  simp only [x_dup2] at ho
  split at ho
  · cases ho
    intro hal H locs ls hW hS hL
    exact lv_dup2_11 hx hb hd rfl rfl (hk hal H locs ls hW hS hL)
  · cases ho
theorem x_pop_ok (hd : decode cc pc = .ok (.pop, 1)) : xOK l cc own nL d mc ini pc x_pop := by
  rintro p e R s m args below meth c Q D cA ad b0 ⟨hx, hb, -⟩ hi lv st al σ o ho hk
  simp only [x_pop] at ho
  split at ho
  · cases ho
    intro hal H locs ls hW hS hL
    exact lv_pop hx hb hd rfl (hk hal H locs ls hW hS hL)
  · cases ho
theorem x_goto_ok {off : Int} {tgt : Nat} (hd : decode cc pc = .ok (.goto off, 3)) (ht : (pc : Int) + off = (tgt : Int)) : xOK l cc own nL d mc ini pc (x_goto tgt) := by
  rintro p e R s m args below meth c Q D cA ad b0 ⟨hx, hb, -⟩ hi lv st al σ o ho hk
  cases ho
  intro hal H locs ls hW hS hL
  exact lv_goto hx hb hd ht (hk hal H locs ls hW hS hL)
theorem x_br1_ok {t : Int32 → Bool} {tgt : Nat}
    (row : ∀ {p : Program} {l : Launch} {e : Env} {R : Room} {s : State} {m : MethodId} {args : Array Value} {below : List Frame} {meth : Method} {c : Code} {H : Heap} {locs : List Loc} {cells slots : Nat} {Q : State → Prop} {ls : Array Slot} {rest : List Value} {x : Int32}, p.tables.exec = Jvm.exec → c.code = cc →
      (t x = true → W p l e R s m args below meth c H locs cells slots Q (F0 m tgt ls rest)) → (¬ t x = true → W p l e R s m args below meth c H locs cells slots Q (F0 m (pc + 3) ls rest)) → W p l e R s m args below meth c H locs cells slots Q (F0 m pc ls (.int x :: rest))) : xOK l cc own nL d mc ini pc (x_br1 t tgt) := by
  rintro p e R s m args below meth c Q D cA ad b0 ⟨hx, hb, -⟩ hi lv st al σ o ho hk
  simp only [x_br1] at ho
  split at ho
  · split at ho
    · cases ho
      intro hal H locs ls hW hS hL
      exact row hx hb (fun _ => hk hal H locs ls hW hS hL) (fun h => absurd (by assumption) h)
    · cases ho
      intro hal H locs ls hW hS hL
      exact row hx hb (fun h => absurd h (by assumption)) (fun _ => hk hal H locs ls hW hS hL)
  · cases ho
theorem x_br2_ok {t : Int32 → Int32 → Bool} {tgt : Nat}
    (row : ∀ {p : Program} {l : Launch} {e : Env} {R : Room} {s : State} {m : MethodId} {args : Array Value} {below : List Frame} {meth : Method} {c : Code} {H : Heap} {locs : List Loc} {cells slots : Nat} {Q : State → Prop} {ls : Array Slot} {rest : List Value} {x y : Int32}, p.tables.exec = Jvm.exec → c.code = cc →
      (t x y = true → W p l e R s m args below meth c H locs cells slots Q (F0 m tgt ls rest)) → (¬ t x y = true → W p l e R s m args below meth c H locs cells slots Q (F0 m (pc + 3) ls rest)) → W p l e R s m args below meth c H locs cells slots Q (F0 m pc ls (.int y :: .int x :: rest))) : xOK l cc own nL d mc ini pc (x_br2 t tgt) := by
  rintro p e R s m args below meth c Q D cA ad b0 ⟨hx, hb, -⟩ hi lv st al σ o ho hk
  simp only [x_br2] at ho
  split at ho
  · split at ho
    · cases ho
      intro hal H locs ls hW hS hL
      exact row hx hb (fun _ => hk hal H locs ls hW hS hL) (fun h => absurd (by assumption) h)
    · cases ho
      intro hal H locs ls hW hS hL
      exact row hx hb (fun h => absurd h (by assumption)) (fun _ => hk hal H locs ls hW hS hL)
  · cases ho
theorem x_ifeq_ok {off : Int} {tgt : Nat} (hd : decode cc pc = .ok (.ifCond .eq off, 3)) (ht : (pc : Int) + off = (tgt : Int)) : xOK l cc own nL d mc ini pc (x_ifeq tgt) :=
  x_br1_ok (fun a b kt kf => lv_if_eq a b hd ht (fun h => kt (by simpa using h)) (fun h => kf (by simpa using h)))
theorem x_ifne_ok {off : Int} {tgt : Nat} (hd : decode cc pc = .ok (.ifCond .ne off, 3)) (ht : (pc : Int) + off = (tgt : Int)) : xOK l cc own nL d mc ini pc (x_ifne tgt) :=
  x_br1_ok (fun a b kt kf => lv_if_ne a b hd ht (fun h => kt (by simpa using h)) (fun h => kf (by simpa using h)))
theorem x_iflt_ok {off : Int} {tgt : Nat} (hd : decode cc pc = .ok (.ifCond .lt off, 3)) (ht : (pc : Int) + off = (tgt : Int)) : xOK l cc own nL d mc ini pc (x_iflt tgt) :=
  x_br1_ok (fun a b kt kf => lv_if_lt a b hd ht (fun h => kt (decide_eq_true h)) (fun h => kf (fun z => h (of_decide_eq_true z))))
theorem x_ifge_ok {off : Int} {tgt : Nat} (hd : decode cc pc = .ok (.ifCond .ge off, 3)) (ht : (pc : Int) + off = (tgt : Int)) : xOK l cc own nL d mc ini pc (x_ifge tgt) :=
  x_br1_ok (fun a b kt kf => lv_if_ge a b hd ht (fun h => kt (decide_eq_true h)) (fun h => kf (fun z => h (of_decide_eq_true z))))
theorem x_ifgt_ok {off : Int} {tgt : Nat} (hd : decode cc pc = .ok (.ifCond .gt off, 3)) (ht : (pc : Int) + off = (tgt : Int)) : xOK l cc own nL d mc ini pc (x_ifgt tgt) :=
  x_br1_ok (fun a b kt kf => lv_if_gt a b hd ht (fun h => kt (decide_eq_true h)) (fun h => kf (fun z => h (of_decide_eq_true z))))
theorem x_ifle_ok {off : Int} {tgt : Nat} (hd : decode cc pc = .ok (.ifCond .le off, 3)) (ht : (pc : Int) + off = (tgt : Int)) : xOK l cc own nL d mc ini pc (x_ifle tgt) :=
  x_br1_ok (fun a b kt kf => lv_if_le a b hd ht (fun h => kt (decide_eq_true h)) (fun h => kf (fun z => h (of_decide_eq_true z))))
theorem x_cmpeq_ok {off : Int} {tgt : Nat} (hd : decode cc pc = .ok (.if_icmp .eq off, 3)) (ht : (pc : Int) + off = (tgt : Int)) : xOK l cc own nL d mc ini pc (x_cmpeq tgt) :=
  x_br2_ok (fun a b kt kf => lv_icmp_eq a b hd ht (fun h => kt (by simpa using h)) (fun h => kf (by simpa using h)))
theorem x_cmpne_ok {off : Int} {tgt : Nat} (hd : decode cc pc = .ok (.if_icmp .ne off, 3)) (ht : (pc : Int) + off = (tgt : Int)) : xOK l cc own nL d mc ini pc (x_cmpne tgt) :=
  x_br2_ok (fun a b kt kf => lv_icmp_ne a b hd ht (fun h => kt (by simpa using h)) (fun h => kf (by simpa using h)))
theorem x_cmplt_ok {off : Int} {tgt : Nat} (hd : decode cc pc = .ok (.if_icmp .lt off, 3)) (ht : (pc : Int) + off = (tgt : Int)) : xOK l cc own nL d mc ini pc (x_cmplt tgt) :=
  x_br2_ok (fun a b kt kf => lv_icmp_lt a b hd ht (fun h => kt (decide_eq_true h)) (fun h => kf (fun z => h (of_decide_eq_true z))))
theorem x_cmpge_ok {off : Int} {tgt : Nat} (hd : decode cc pc = .ok (.if_icmp .ge off, 3)) (ht : (pc : Int) + off = (tgt : Int)) : xOK l cc own nL d mc ini pc (x_cmpge tgt) :=
  x_br2_ok (fun a b kt kf => lv_icmp_ge a b hd ht (fun h => kt (decide_eq_true h)) (fun h => kf (fun z => h (of_decide_eq_true z))))
theorem x_cmpgt_ok {off : Int} {tgt : Nat} (hd : decode cc pc = .ok (.if_icmp .gt off, 3)) (ht : (pc : Int) + off = (tgt : Int)) : xOK l cc own nL d mc ini pc (x_cmpgt tgt) :=
  x_br2_ok (fun a b kt kf => lv_icmp_gt a b hd ht (fun h => kt (decide_eq_true h)) (fun h => kf (fun z => h (of_decide_eq_true z))))
theorem x_cmple_ok {off : Int} {tgt : Nat} (hd : decode cc pc = .ok (.if_icmp .le off, 3)) (ht : (pc : Int) + off = (tgt : Int)) : xOK l cc own nL d mc ini pc (x_cmple tgt) :=
  x_br2_ok (fun a b kt kf => lv_icmp_le a b hd ht (fun h => kt (decide_eq_true h)) (fun h => kf (fun z => h (of_decide_eq_true z))))
theorem x_sw_out {cs : List (Int32 × Nat)} {dflt : Nat} {x : Int32} (h : ∀ q ∈ cs, x ≠ q.1) : x_sw cs dflt x = dflt := by
  induction cs with
  | nil => rfl
  | cons a t ih =>
    obtain ⟨k, tg⟩ := a
    simp only [x_sw]
    rw [if_neg (h (k, tg) List.mem_cons_self)]
    exact ih (fun q hq => h q (List.mem_cons_of_mem _ hq))
theorem x_switch_ok {dflt lo hi : Int} {offs : Array Int} {len : Nat} {cs : List (Int32 × Nat)} {dt : Nat} (hd : decode cc pc = .ok (.tableswitch dflt lo hi offs, len)) (hdt : (pc : Int) + dflt = (dt : Int))
    (hin : ∀ q ∈ cs, lo ≤ q.1.toInt ∧ q.1.toInt ≤ hi) (hn : hi - lo < 100) (hlo : -1000 < lo ∧ hi < 1000)
    (hj : (List.range 100).all (fun j => decide (hi < lo + (j : Int)) || (match offs[j]? with | some off => decide ((pc : Int) + off = (x_sw cs dt (Int32.ofInt (lo + (j : Int))) : Int)) | none => false)) = true) : xOK l cc own nL d mc ini pc (x_switch cs dt) := by
  rintro p e R s m args below meth c Q D cA ad b0 ⟨hx, hb, -⟩ hi' lv st al σ o ho hk
  simp only [x_switch] at ho
  split at ho
  · rename_i x st
    rw [x_swf_eq] at ho
    cases ho
    intro hal H locs ls hW hS hL
    by_cases hlt : x.toInt < lo ∨ hi < x.toInt
    · have e1 : x_sw cs dt x = dt := x_sw_out (fun q hq e => by have := hin q hq; rw [← e] at this; omega)
      rw [e1] at hk
      exact lv_tableOut hx hb hd hlt hdt (hk hal H locs ls hW hS hL)
    · have h1 := List.all_eq_true.mp hj (x.toInt - lo).toNat (List.mem_range.mpr (by omega))
      have e2 : lo + (((x.toInt - lo).toNat : Nat) : Int) = x.toInt := by omega
      rw [e2] at h1
      have e3 : Int32.ofInt x.toInt = x := Int32.ofInt_toInt x
      rw [e3] at h1
      simp only [Bool.or_eq_true, decide_eq_true_eq] at h1
      rcases h1 with h1 | h1
      · exact absurd (Or.inr h1) hlt
      · split at h1
        · exact lv_tableIn hx hb hd (fun z => hlt (Or.inl z)) (fun z => hlt (Or.inr z)) (by assumption) (of_decide_eq_true h1) (hk hal H locs ls hW hS hL)
        · cases h1
  · cases ho
theorem x_vret_ok (hd : decode cc pc = .ok (.return_, 1)) : xOK l cc own nL d mc ini pc x_vret := by
  rintro p e R s m args below meth c Q D cA ad b0 ⟨hx, hb, -⟩ hi lv st al σ o ho hk
  simp only [x_vret] at ho
  split at ho
  · cases ho
    intro hal H locs ls hW hS hL
    exact hk H locs ls pc al hal hd hW hS
  · cases ho
theorem x_iret_ok (hd : decode cc pc = .ok (.ireturn, 1)) : xOK l cc own nL d mc ini pc x_iret := by
  rintro p e R s m args below meth c Q D cA ad b0 ⟨hx, hb, -⟩ hi lv st al σ o ho hk
  simp only [x_iret] at ho
  split at ho
  · cases ho
    intro hal H locs ls hW hS hL
    exact hk H locs ls pc al hal hd hW hS
  · cases ho
theorem x_lret_ok (hd : decode cc pc = .ok (.lreturn, 1)) : xOK l cc own nL d mc ini pc x_lret := by
  rintro p e R s m args below meth c Q D cA ad b0 ⟨hx, hb, -⟩ hi lv st al σ o ho hk
  simp only [x_lret] at ho
  split at ho
  · cases ho
    intro hal H locs ls hW hS hL
    exact hk H locs ls pc al hal hd hW hS
  · cases ho
theorem x_aret_ok (hd : decode cc pc = .ok (.areturn, 1)) : xOK l cc own nL d mc ini pc x_aret := by
  rintro p e R s m args below meth c Q D cA ad b0 ⟨hx, hb, -⟩ hi lv st al σ o ho hk
  simp only [x_aret] at ho
  split at ho
  · cases ho
    intro hal H locs ls hW hS hL
    exact hk H locs ls pc al hal hd hW hS
  · cases ho
end OPS
