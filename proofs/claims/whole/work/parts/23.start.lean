/-! THE CLAIM OUT OF ONE WALK OF THE LAW'S BODY. Your part is whole_start (and what it stands on); all else here is the same for every law, but numbers. -/
def R_law : String := "ShadeNamesLaw"
def lw_P (b : Addr) (xs : List Int32) (args : Array Value) (s : State) : Prop := args = #[.ref b] ∧ s.IntsAt b xs ∧ xs.length ≤ 384 ∧ (Jvm.Cond.and given_1 narrow_1).before args s = true
def lw_Q (_ : Array Value) (s : State) (o : Outcome) (t : State) : Prop := o = .returned (some (.int 1)) ∧ Framed s o t [] 600000 7302249
def lw_Z (below : List Frame) (a : Array Value) (s : State) : State → Prop := fun t => ∃ o, t.status = .running ∧ Ended t below o ∧ lw_Q a s o t
/-- the law's own end, with 1 on the stack, nothing written that was there before, its room as the claim has it -/
theorem lw_ret {p : Program} {l : Launch} {e : Env} {s : State} {m : MethodId} {below : List Frame} {meth : Method} {c : Code} {b : Nat} (hx : p.tables.exec = Jvm.exec) (hb : c.code = code) (hr : meth.sig.returnType = ret) (hlocks : meth.locks = false) {pc : Nat} {H : Heap} {ls : Array Slot} (hdg : decode code pc = .ok (.ireturn, 1)) : W p l e room_1 s m #[Value.ref b] below meth c H [] 600000 7302249 (lw_Z below #[Value.ref b] s) (F0 m pc ls [.int 1]) := by
  intro T hT X
  obtain ⟨fs, hret, hrun, hended, hW, hframe⟩ := X.leave (v := some (.int 1)) (hlocks := hlocks) (fun h => by rw [hr] at h; cases h)
  have hmeth' : T.vm.method? m = some meth := X.method'
  refine ⟨T.setFrames fs, ?_, .returned (some (.int 1)), hrun, hended, rfl, ⟨_, rfl⟩, hW, hframe⟩
  jvm_step X.here [X.here.top, hx, hb, hdg, hmeth', hr, ret, narrow_b1]
  (try refine ⟨rfl, ?_⟩); (try refine ⟨rfl, ?_⟩)
  first | (intro acts; rw [hret _ acts rfl rfl rfl]) | rw [hret _ _ rfl rfl rfl]
  exact Steps.refl _
/-- what holds at the law's entry: the machine, the code, the tables' words (any of lw_tbl by 'hts w (by decide +kernel)'), the script of L ints xs at the cell b, what the Statement gives of the start (any of its parts by flat_of_before) -/
def lw_At (p : Program) (s : State) (m : MethodId) (meth : Method) (c : Code) (b L : Nat) (xs : Nat → Int32) : Prop :=
  p.tables.exec = Jvm.exec ∧ c.code = code ∧ meth.sig.returnType = ret ∧ c.maxLocals = 4 ∧ s.vm.findClass R_law = some m.cls ∧ (∀ w ∈ lw_tbl, w.before #[Value.ref b] s = true) ∧ va_X b L xs s s.heap ∧ b < s.heap.size ∧ meth.locks = false ∧ (Jvm.Cond.and given_1 narrow_1).before #[Value.ref b] s = true
/-- the small machine's start: the script (1000), the table of greatest figures and the letters are all that there is -/
def x0 (L : Nat) (xs : Nat → Int32) : xS := ((fun c => if c = 1000 then 16 else 0, fun c => if c = 1000 then L else 0, fun _ _ => 0, 0), fun c j => if c = 1000 then xs j else 0, fun _ _ => 0)
theorem x_ex (s : State) (args : Array Value) (hts : ∀ w ∈ lw_tbl, w.before args s = true) (hgv : (Jvm.Cond.and given_1 narrow_1).before args s = true) : ∃ e1 e2 e3 : Nat, ∀ ad : Nat → Nat, ad 1001 = e1 → ad 1002 = e2 → ad 1003 = e3 → xE ad s.heap.size s := by
  have hs := flat_of_before _ hgv
  have hA : ∀ a : Nat, a < s.heap.size → ¬ (fun q => s.heap.size ≤ q) a := fun a h => Nat.not_le.mpr h
  obtain ⟨e1, g1, g2⟩ := va_Tof (args := args) (s := s) (tm := .static "ShadeNames$Text" "GREATEST" "[I") (ty := .int) (N := 7) (f := fun j => .int (xgr j)) (A := fun q => s.heap.size ≤ q) (by decide) (hs _ (by decide +kernel)) (va_eqt (hs (Cond.eq (.length (.static "ShadeNames$Text" "GREATEST" "[I")) (.int 7)) (by decide +kernel)))
    (fun j hj => by
      match j, hj with
      | 0, _ => exact va_eqt (hs (Cond.eq (.elem (.static "ShadeNames$Text" "GREATEST" "[I") (.int 0)) (.int 5)) (by decide +kernel))
      | 1, _ => exact va_eqt (hs (Cond.eq (.elem (.static "ShadeNames$Text" "GREATEST" "[I") (.int 1)) (.int 5)) (by decide +kernel))
      | 2, _ => exact va_eqt (hs (Cond.eq (.elem (.static "ShadeNames$Text" "GREATEST" "[I") (.int 2)) (.int 5)) (by decide +kernel))
      | 3, _ => exact va_eqt (hs (Cond.eq (.elem (.static "ShadeNames$Text" "GREATEST" "[I") (.int 3)) (.int 9)) (by decide +kernel))
      | 4, _ => exact va_eqt (hs (Cond.eq (.elem (.static "ShadeNames$Text" "GREATEST" "[I") (.int 4)) (.int 3)) (by decide +kernel))
      | 5, _ => exact va_eqt (hs (Cond.eq (.elem (.static "ShadeNames$Text" "GREATEST" "[I") (.int 5)) (.int 9)) (by decide +kernel))
      | 6, _ => exact va_eqt (hs (Cond.eq (.elem (.static "ShadeNames$Text" "GREATEST" "[I") (.int 6)) (.int 1)) (by decide +kernel))) hA
  obtain ⟨adK, adV, hK, hKe⟩ := vk_Sof (args := args) (s := s) (N := 1) (tm := fun _ => .string "ShadeNames$Kind" 9) (len := [6]) (byt := [[110, 119, 115, 108, 100, 112]]) (A := fun q => s.heap.size ≤ q) (fun i hi => by
      have : i = 0 := by omega
      subst this; decide) (fun i _ => hs (Cond.exactly (.string "ShadeNames$Kind" 9) "java/lang/String") (by decide +kernel)) (fun i _ => hs (Cond.eq (.field (.string "ShadeNames$Kind" 9) "java/lang/String" "coder" "B") (.int 0)) (by decide +kernel)) (fun i _ => hs (Cond.arrayOf (.field (.string "ShadeNames$Kind" 9) "java/lang/String" "value" "[B") .byte) (by decide +kernel))
    (fun i hi => by
      have : i = 0 := by omega
      subst this
      exact hs (Cond.eq (.length (.field (.string "ShadeNames$Kind" 9) "java/lang/String" "value" "[B")) (.int 6)) (by decide +kernel))
    (fun i hi j hj => by
      have : i = 0 := by omega
      subst this
      match j, hj with
      | 0, _ => exact hs (Cond.eq (.elem (.field (.string "ShadeNames$Kind" 9) "java/lang/String" "value" "[B") (.int 0)) (.int 110)) (by decide +kernel)
      | 1, _ => exact hs (Cond.eq (.elem (.field (.string "ShadeNames$Kind" 9) "java/lang/String" "value" "[B") (.int 1)) (.int 119)) (by decide +kernel)
      | 2, _ => exact hs (Cond.eq (.elem (.field (.string "ShadeNames$Kind" 9) "java/lang/String" "value" "[B") (.int 2)) (.int 115)) (by decide +kernel)
      | 3, _ => exact hs (Cond.eq (.elem (.field (.string "ShadeNames$Kind" 9) "java/lang/String" "value" "[B") (.int 3)) (.int 108)) (by decide +kernel)
      | 4, _ => exact hs (Cond.eq (.elem (.field (.string "ShadeNames$Kind" 9) "java/lang/String" "value" "[B") (.int 4)) (.int 100)) (by decide +kernel)
      | 5, _ => exact hs (Cond.eq (.elem (.field (.string "ShadeNames$Kind" 9) "java/lang/String" "value" "[B") (.int 5)) (.int 112)) (by decide +kernel))
    (fun i j hi hj hij => absurd (by omega) hij) hA
  obtain ⟨k1, k2, k3, k4⟩ := hK.1 0 (by omega)
  refine ⟨e1, adK 0, adV 0, fun ad h1 h2 h3 => ?_⟩
  unfold xE
  rw [h1, h2, h3]
  refine ⟨⟨va_Nw.of rfl (hts _ (List.mem_of_getElem? (i := 133) (by decide +kernel))), va_Nw.of rfl (hts _ (List.mem_of_getElem? (i := 413) (by decide +kernel))), va_Nw.of rfl (hts _ (List.mem_of_getElem? (i := 637) (by decide +kernel)))⟩, ⟨va_AO.of (hts _ (List.mem_of_getElem? (i := 87) (by decide +kernel))), va_AO.of (hts _ (List.mem_of_getElem? (i := 108) (by decide +kernel))), va_AO.of (hts _ (List.mem_of_getElem? (i := 131) (by decide +kernel))), va_AO.of (hts _ (List.mem_of_getElem? (i := 194) (by decide +kernel)))⟩, ⟨va_Zof (hts _ (List.mem_of_getElem? (i := 412) (by decide +kernel))) (hts _ (List.mem_of_getElem? (i := 63) (by decide +kernel))) g1 hA, g2, va_Zqof (hts _ (List.mem_of_getElem? (i := 388) (by decide +kernel))) (hts _ (List.mem_of_getElem? (i := 73) (by decide +kernel))) (hs _ (by decide +kernel)) hA⟩, va_Zof (hts _ (List.mem_of_getElem? (i := 372) (by decide +kernel))) (hts _ (List.mem_of_getElem? (i := 71) (by decide +kernel))) (va_eqt (hs _ (by decide +kernel))) hA, vk_R.of (hts _ (List.mem_of_getElem? (i := 362) (by decide +kernel))) (hKe 0 (by omega)), k1, k2, k3, ?_⟩
  have e : (fun j => Value.int ((([[110, 119, 115, 108, 100, 112]] : List (List Int32)).getD 0 []).getD j 0)) = fun j => Value.int (xlt j) := rfl
  exact k4
theorem x_arr (s : State) (args : Array Value) (hts : ∀ w ∈ lw_tbl, w.before args s = true) : ∃ cA : Nat → ClassId, ∀ (k : Nat) (q : ClassId × FieldType), (xtys cA)[k]? = some q → ArrOfT s q.1 q.2 ∧ va_RA s q.1 q.2 := by
  obtain ⟨c9, k9, p9, f9, h9, q9⟩ := Cond.arrayClass_spec (hts (.arrayClass .byte) (List.mem_of_getElem? (i := 123) (by decide +kernel)))
  obtain ⟨c10, k10, p10, f10, h10, q10⟩ := Cond.arrayClass_spec (hts (.arrayClass .int) (List.mem_of_getElem? (i := 106) (by decide +kernel)))
  obtain ⟨c11, k11, p11, f11, h11, q11⟩ := Cond.arrayClass_spec (hts (.arrayClass .boolean) (List.mem_of_getElem? (i := 193) (by decide +kernel)))
  obtain ⟨p12, c12, k12, a12, -, h12, q12, f12⟩ := Cond.arrayOver_spec (hts (.arrayOver (.object "ShadeNames$Name")) (List.mem_of_getElem? (i := 131) (by decide +kernel)))
  obtain ⟨p13, c13, k13, a13, -, h13, q13, f13⟩ := Cond.arrayOver_spec (hts (.arrayOver (.object "ShadeNames$Registry")) (List.mem_of_getElem? (i := 194) (by decide +kernel)))
  obtain ⟨p14, c14, k14, a14, -, h14, q14, f14⟩ := Cond.arrayOver_spec (hts (.arrayOver (.object "ShadeNames$Row")) (List.mem_of_getElem? (i := 87) (by decide +kernel)))
  obtain ⟨p15, c15, k15, a15, -, h15, q15, f15⟩ := Cond.arrayOver_spec (hts (.arrayOver (.object "ShadeNames$Text")) (List.mem_of_getElem? (i := 108) (by decide +kernel)))
  refine ⟨fun k => if k = 9 then c9 else if k = 10 then c10 else if k = 11 then c11 else if k = 12 then c12 else if k = 13 then c13 else if k = 14 then c14 else c15, fun k q hk => ?_⟩
  match k, hk with
  | 0, hk => cases hk; exact ⟨fun n z => ⟨fun k h => (by cases h), k9, h9, p9, q9⟩, f9⟩
  | 1, hk => cases hk; exact ⟨fun n z => ⟨fun k h => (by cases h), k10, h10, p10, q10⟩, f10⟩
  | 2, hk => cases hk; exact ⟨fun n z => ⟨fun k h => (by cases h), k11, h11, p11, q11⟩, f11⟩
  | 3, hk => cases hk; exact ⟨fun n z => ⟨fun k h => (by cases h), k12, h12, p12, q12⟩, k12, p12, h12, q12, a12, f12⟩
  | 4, hk => cases hk; exact ⟨fun n z => ⟨fun k h => (by cases h), k13, h13, p13, q13⟩, k13, p13, h13, q13, a13, f13⟩
  | 5, hk => cases hk; exact ⟨fun n z => ⟨fun k h => (by cases h), k14, h14, p14, q14⟩, k14, p14, h14, q14, a14, f14⟩
  | 6, hk => cases hk; exact ⟨fun n z => ⟨fun k h => (by cases h), k15, h15, p15, q15⟩, k15, p15, h15, q15, a15, f15⟩
  | k + 7, hk => simp [xtys] at hk
theorem x_cl (s : State) (args : Array Value) (hts : ∀ w ∈ lw_tbl, w.before args s = true) : ∃ D : va_G, ∀ (k : Nat) (q : vw_C), vwCl[k]? = some q → u_Kn s q.1 q.2.1 q.2.2 (D.1 k) (D.2 k) := by
  have h0 : ∀ k : Nat, ∃ q2 : ClassId × (Nat → Nat), ∀ q : vw_C, vwCl[k]? = some q → u_Kn s q.1 q.2.1 q.2.2 q2.1 q2.2 := by
    intro k
    have go : ∀ (C : String) (T : u_T) (N : Nat), vwCl[k]? = some (C, T, N) → Cond.instantiable C N ∈ lw_tbl → ∃ q2 : ClassId × (Nat → Nat), ∀ q : vw_C, vwCl[k]? = some q → u_Kn s q.1 q.2.1 q.2.2 q2.1 q2.2 := by
      intro C T N hk hi
      obtain ⟨cC, iS, h⟩ := u_known (C := C) (T := T) (N := N) (n := N) hts (fun w hw => xTB_in w ((x_cls hk).2.1 w hw)) (hts _ hi)
      exact ⟨(cC, iS), fun q hq => by rw [hk] at hq; cases hq; exact h⟩
    match k with
    | 0 => exact go _ _ _ rfl (List.mem_of_getElem? (i := 196) (by decide +kernel))
    | 1 => exact go _ _ _ rfl (List.mem_of_getElem? (i := 132) (by decide +kernel))
    | 2 => exact go _ _ _ rfl (List.mem_of_getElem? (i := 209) (by decide +kernel))
    | 3 => exact go _ _ _ rfl (List.mem_of_getElem? (i := 125) (by decide +kernel))
    | 4 => exact go _ _ _ rfl (List.mem_of_getElem? (i := 88) (by decide +kernel))
    | 5 => exact go _ _ _ rfl (List.mem_of_getElem? (i := 109) (by decide +kernel))
    | 6 => exact go _ _ _ rfl (List.mem_of_getElem? (i := 79) (by decide +kernel))
    | 7 => exact go _ _ _ rfl (List.mem_of_getElem? (i := 839) (by decide +kernel))
    | k + 8 => exact ⟨(0, fun _ => 0), fun q hq => by simp [vwCl] at hq⟩
  obtain ⟨f, hf⟩ := Classical.axiomOfChoice h0
  exact ⟨(fun k => (f k).1, fun k => (f k).2), fun k q hq => hf k q hq⟩
/-- THE LAW, from its entry, out of the small machine's run -/
theorem x_start {p : Program} {e : Env} {s : State} {m : MethodId} {below : List Frame} {meth : Method} {c : Code} (l : Launch) {b L : Nat} {xs : Nat → Int32} (C0 : lw_At p s m meth c b L xs) (σ' : xS) (hgo : xD tL_law (0, [.ref 1000, .null, .null, .null], [], 89, x0 L xs) = some (some (.int 1), σ')) : W p l e room_1 s m #[Value.ref b] below meth c s.heap [] 0 0 (lw_Z below #[Value.ref b] s) (entryFrame m ([Value.ref b] : List Value).toArray 4) := by
  obtain ⟨hx, hb, hr, hml, hown, hts, hX, hbl, hlocks, hgv⟩ := id C0
  obtain ⟨e1, e2, e3, hE⟩ := x_ex s _ hts hgv
  obtain ⟨cA, hcA⟩ := x_arr s _ hts
  obtain ⟨D, hD⟩ := x_cl s _ hts
  obtain ⟨ad, had⟩ : ∃ ad : Nat → Nat, ad = fun c => if c < 1000 then s.heap.size + (c - 1) else if c = 1000 then b else if c = 1001 then e1 else if c = 1002 then e2 else e3 := ⟨_, rfl⟩
  have hAd : xAd ad s.heap.size := fun c h1 h2 => by rw [had]; simp [h2]
  have h1000 : ad 1000 = b := by rw [had]; rfl
  have C : xC p room_1 s m #[Value.ref b] c cL_law RL 4 10 89 D cA ad s.heap.size := ⟨hx, hb, hml, hown, fun w hw => hts w (xTB_in w hw), ⟨hD, hcA⟩, hAd, Nat.le_refl _, hE ad (by rw [had]; rfl) (by rw [had]; rfl) (by rw [had]; rfl), by decide, by decide, by decide, by decide⟩
  obtain ⟨n, hn⟩ := xD_some.mp hgo
  have hl := lv_entry ([.ref b]) (n := 4) (Nat.le_of_ble_eq_true rfl)
  rw [lg_entry_eq]
  generalize (lg_sl ([.ref b]) ++ List.replicate (4 - (lg_sl ([.ref b])).length) Slot.unset).toArray = ls at hl ⊢
  have hl : lv_has ls 4 [(0, .ref b)] := hl
  have hL : xL ad ls 4 [.ref 1000, .null, .null, .null] := by
    refine ⟨hl.1, hl.2.1, fun i v hi hk => ?_⟩
    match i, hi with
    | 0, hi =>
      cases hi
      show ls[0]? = some (.val (.ref (ad 1000)))
      rw [h1000]
      exact hl.2.2 _ List.mem_cons_self
    | 1, hi => cases hi; simp [xk] at hk
    | 2, hi => cases hi; simp [xk] at hk
    | 3, hi => cases hi; simp [xk] at hk
    | i + 4, hi => simp at hi
  have hW : xW D cA ad s.heap.size s (x0 L xs) s.heap := by
    refine ⟨rfl, by show 0 < 900; decide, fun c h1 h2 => ?_, fun c h1 => ?_⟩
    · have h1 : 1 ≤ (if c = 1000 then 16 else 0 : Nat) := h1
      have h2 : (if c = 1000 then 16 else 0 : Nat) ≤ 15 := h2
      split at h1 <;> rename_i hc
      · rw [if_pos hc] at h2; omega
      · omega
    · have h1 : (if c = 1000 then 16 else 0 : Nat) = 16 := h1
      split at h1
      · rename_i hc
        subst hc
        rw [h1000]
        exact ⟨hbl, hX⟩
      · cases h1
  have hJ := x_sound (l := l) (e := e) (below := below) (meth := meth) (Q := lw_Z below #[Value.ref b] s) (tL_law_ok l) C (fun h => h.elim) n _ _ hn (by
    intro H locs ls pc al hal hdec hW2 hS2
    refine va_forget (fun q hq => hS2.2.2 q hq) ?_
    refine W.widen (k := 600000) (n := 7302249) (by omega) (by omega) ?_
    exact lw_ret hx hb hr hlocks hdec)
  exact hJ (Nat.le_refl _) s.heap [] ls hW va_S.rf hL
