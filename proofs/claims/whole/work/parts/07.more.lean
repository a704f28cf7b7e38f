/-! calls of constructors, of nest mates, of the JDK; new cells; what lies below the cells -/
theorem x_stk {ad : Nat → Nat} {st : List Value} {ar : Nat} : st.map (xv ad) = ((st.take ar).reverse.map (xv ad)).reverse ++ (st.drop ar).map (xv ad) := by
  rw [← List.map_reverse, List.reverse_reverse, ← List.map_append, List.take_append_drop]
theorem x_rest {ad : Nat → Nat} {st : List Value} (h : (st.map Value.category).sum ≤ 8) : ((st.map (xv ad)).map fun v => v.category).sum ≤ 8 := by
  rw [List.map_map]
  refine Nat.le_trans (Nat.le_of_eq (congrArg List.sum (List.map_congr_left (fun v _ => ?_)))) h
  exact xv_cat ad v
section XMORE
variable {l : Launch} {cc : ByteArray} {own : String} {nL d mc pc : Nat} {ini : Prop}
theorem x_callSN_ok {idx : Nat} {y : MethodName} {host : String} {b : ByteArray} {maxL : Nat} {ret : Option FieldType} {d' mc' ar : Nat} {f : List Value → xS → Option xR} (hM : xSound l y b maxL ret d' mc' f) (hcode : Cond.code y b maxL ret ∈ xTB) (hlink : ∀ (ad : Nat → Nat) (b0 : Nat) (s : State), xE ad b0 s → va_Nw (.methodLinkNest own idx y host) s) (hstat : Cond.static y ∈ xTB) (hini : Cond.initialized y.cls ∈ xTB)
    (hy : y.cls ≠ "java/lang/invoke/MethodHandle" ∧ y.cls ≠ "java/lang/invoke/VarHandle" ∧ (parseMethodDescriptor y.desc).map (fun d => d.parameters.length) = some ar) (hdd : d' < d) (hmx : maxL ≤ 20) (hd : decode cc pc = .ok (.invokestatic idx, 3)) : xOK l cc own nL d mc ini pc (x_call mc' ar f) := by
  rintro p e R s m args below meth c Q D cA ad b0 ⟨hx, hb, hml, hown, hts, hK, hAd, hbs, hE, hfr, hlo, hce, hsl⟩ hi lv st al σ o ho hk2
  simp only [x_call] at ho
  split at ho
  · rename_i hcond
    split at ho
    · rename_i r hf
      cases ho
      intro hal H locs ls hW hS hL
      have hW : xW D cA ad b0 s σ H := hW
      have hal : al ≤ mc := hal
      show W p l e R s m args below meth c H locs (mc - al) (2000 * (mc - al)) Q (F0 m pc ls (st.map (xv ad)))
      have e1 : mc - al + mc' = mc - (al - mc') := by omega
      refine x_after (rest := (st.drop ar).map (xv ad)) (va_runSN (As := (st.take ar).reverse.map (xv ad)) ⟨hx, hb, hml, hown, hts⟩ (hM D cA ad b0 _ σ r hf) ⟨va_cnB ar hts (xTB_goodIn hcode) rfl rfl rfl (hlink ad b0 s hE) (hts _ hini) hy ⟨by show d' + 1 ≤ _; omega, by show 8 + (maxL + 11) + 40 * d' ≤ _; omega⟩, hts _ hstat, trivial⟩
        ⟨xPc.blind, fun U hU hWm => ⟨rfl, by rw [hU]; exact hW.moved hWm.alike, va_K.moved hWm.alike hK, hAd, hE.go hWm (fun q h1 h2 => by rw [hU]; exact hS.2.1 q h1 h2)⟩⟩ rfl (by simp; omega) hL.1 x_stk (lv_room (x_rest hcond.2.2)) hd ⟨by omega, by omega⟩) hS (fun H1 locs1 hW1 hS1 => ?_)
      have h1 := hk2 (by show al - mc' ≤ mc; omega) H1 locs1 ls hW1 hS1 hL
      rw [x_opt]
      have e2 : 2000 * (mc - al) + 2000 * mc' = 2000 * (mc - (al - mc')) := by omega
      rw [e1, e2]
      simpa only [List.map_append] using h1
    · cases ho
  · cases ho
/-- a constructor, of a cell just made -/
def x_init (mc' : Nat) (f : List Value → xS → Option xR) : xO := fun (pc, lv, st, al, σ) => match st with
  | .ref c :: st => if mc' ≤ al ∧ (st.map Value.category).sum ≤ 8 then
      match f [.ref c] σ with
      | some (none, σ') => some (.inl (pc + 3, lv, st, al - mc', σ'))
      | _ => none
    else none
  | _ => none
theorem x_init_ok {idx : Nat} {y : MethodName} {b : ByteArray} {maxL : Nat} {d' mc' : Nat} {f : List Value → xS → Option xR} (hM : xSound l y b maxL none d' mc' f) (hcode : Cond.code y b maxL none ∈ xTB) (hlink : Cond.methodLink own idx y ∈ xTB) (hinst : Cond.instanceMethod y ∈ xTB) (hini : Cond.initialized y.cls ∈ xTB) (hyn : y.name = "<init>")
    (hy : y.cls ≠ "java/lang/invoke/MethodHandle" ∧ y.cls ≠ "java/lang/invoke/VarHandle" ∧ (parseMethodDescriptor y.desc).map (fun d => d.parameters.length) = some 0) (hdd : d' < d) (hmx : maxL ≤ 20) (hd : decode cc pc = .ok (.invokespecial idx, 3)) : xOK l cc own nL d mc ini pc (x_init mc' f) := by
  rintro p e R s m args below meth c Q D cA ad b0 ⟨hx, hb, hml, hown, hts, hK, hAd, hbs, hE, hfr, hlo, hce, hsl⟩ hi lv st al σ o ho hk2
  simp only [x_init] at ho
  split at ho
  · rename_i c0 st0
    split at ho
    · rename_i hcond
      split at ho
      · rename_i σ' hf
        cases ho
        intro hal H locs ls hW hS hL
        have hW : xW D cA ad b0 s σ H := hW
        have hal : al ≤ mc := hal
        show W p l e R s m args below meth c H locs (mc - al) (2000 * (mc - al)) Q (F0 m pc ls (.ref (ad c0) :: st0.map (xv ad)))
        have e1 : mc - al + mc' = mc - (al - mc') := by omega
        refine x_after (r := (none, σ')) (rest := st0.map (xv ad)) (va_runI (b := ad c0) (As := []) ⟨hx, hb, hml, hown, hts⟩ (hM D cA ad b0 _ σ _ hf) ⟨callB_of 0 hts (xTB_goodIn hcode) rfl rfl rfl (hts _ hini) (hts _ hlink) hy ⟨by show d' + 1 ≤ _; omega, by show 8 + (maxL + 11) + 40 * d' ≤ _; omega⟩, hyn, hts _ hinst⟩
          ⟨xPc.blind, fun U hU hWm => ⟨rfl, by rw [hU]; exact hW.moved hWm.alike, va_K.moved hWm.alike hK, hAd, hE.go hWm (fun q h1 h2 => by rw [hU]; exact hS.2.1 q h1 h2)⟩⟩ rfl rfl hL.1 rfl (lv_room (x_rest hcond.2)) hd ⟨by omega, by omega⟩) hS (fun H1 locs1 hW1 hS1 => ?_)
        have h1 := hk2 (by show al - mc' ≤ mc; omega) H1 locs1 ls hW1 hS1 hL
        have e2 : 2000 * (mc - al) + 2000 * mc' = 2000 * (mc - (al - mc')) := by omega
        rw [e1, e2]
        exact h1
      · cases ho
    · cases ho
  · cases ho
theorem x_initN_ok {idx : Nat} {y : MethodName} {host : String} {b : ByteArray} {maxL : Nat} {d' mc' : Nat} {f : List Value → xS → Option xR} (hM : xSound l y b maxL none d' mc' f) (hcode : Cond.code y b maxL none ∈ xTB) (hlink : ∀ (ad : Nat → Nat) (b0 : Nat) (s : State), xE ad b0 s → va_Nw (.methodLinkNest own idx y host) s) (hinst : Cond.instanceMethod y ∈ xTB) (hini : Cond.initialized y.cls ∈ xTB) (hyn : y.name = "<init>")
    (hy : y.cls ≠ "java/lang/invoke/MethodHandle" ∧ y.cls ≠ "java/lang/invoke/VarHandle" ∧ (parseMethodDescriptor y.desc).map (fun d => d.parameters.length) = some 0) (hdd : d' < d) (hmx : maxL ≤ 20) (hd : decode cc pc = .ok (.invokespecial idx, 3)) : xOK l cc own nL d mc ini pc (x_init mc' f) := by
  rintro p e R s m args below meth c Q D cA ad b0 ⟨hx, hb, hml, hown, hts, hK, hAd, hbs, hE, hfr, hlo, hce, hsl⟩ hi lv st al σ o ho hk2
  simp only [x_init] at ho
  split at ho
  · rename_i c0 st0
    split at ho
    · rename_i hcond
      split at ho
      · rename_i σ' hf
        cases ho
        intro hal H locs ls hW hS hL
        have hW : xW D cA ad b0 s σ H := hW
        have hal : al ≤ mc := hal
        show W p l e R s m args below meth c H locs (mc - al) (2000 * (mc - al)) Q (F0 m pc ls (.ref (ad c0) :: st0.map (xv ad)))
        have e1 : mc - al + mc' = mc - (al - mc') := by omega
        refine x_after (r := (none, σ')) (rest := st0.map (xv ad)) (va_runIN (b := ad c0) (As := []) ⟨hx, hb, hml, hown, hts⟩ (hM D cA ad b0 _ σ _ hf) ⟨va_cnB 0 hts (xTB_goodIn hcode) rfl rfl rfl (hlink ad b0 s hE) (hts _ hini) hy ⟨by show d' + 1 ≤ _; omega, by show 8 + (maxL + 11) + 40 * d' ≤ _; omega⟩, hyn, hts _ hinst⟩
          ⟨xPc.blind, fun U hU hWm => ⟨rfl, by rw [hU]; exact hW.moved hWm.alike, va_K.moved hWm.alike hK, hAd, hE.go hWm (fun q h1 h2 => by rw [hU]; exact hS.2.1 q h1 h2)⟩⟩ rfl rfl hL.1 rfl (lv_room (x_rest hcond.2)) hd ⟨by omega, by omega⟩) hS (fun H1 locs1 hW1 hS1 => ?_)
        have h1 := hk2 (by show al - mc' ≤ mc; omega) H1 locs1 ls hW1 hS1 hL
        have e2 : 2000 * (mc - al) + 2000 * mc' = 2000 * (mc - (al - mc')) := by omega
        rw [e1, e2]
        exact h1
      · cases ho
    · cases ho
  · cases ho
/-- Object's constructor -/
def x_obj : xO := fun (pc, lv, st, al, σ) => match st with
  | .ref _ :: st => if (st.map Value.category).sum ≤ 8 then some (.inl (pc + 3, lv, st, al, σ)) else none
  | _ => none
theorem x_obj_ok {idx : Nat} (hlink : Cond.methodLink own idx objectInit ∈ xTB) (hinst : Cond.instanceMethod objectInit ∈ xTB) (hcode : Cond.code objectInit ⟨#[0xb1]⟩ 1 none ∈ xTB) (hdd : 0 < d) (hd : decode cc pc = .ok (.invokespecial idx, 3)) : xOK l cc own nL d mc ini pc x_obj := by
  rintro p e R s m args below meth c Q D cA ad b0 ⟨hx, hb, hml, hown, hts, hK, hAd, hbs, hE, hfr, hlo, hce, hsl⟩ hi lv st al σ o ho hk2
  simp only [x_obj] at ho
  split at ho
  · split at ho
    · rename_i c0 st0 hcond
      cases ho
      intro hal H locs ls hW hS hL
      have h9 := x_rest (ad := ad) hcond
      exact W.objInit (a := ad c0) (rest := st0.map (xv ad)) hx hb hown (hts _ hlink) (hts _ hinst) (hts _ hcode) rfl (by rw [hml]; exact hL.1) rfl hd (by omega) (by show 2 * 0 + _ + 12 ≤ _; omega) (hk2 hal H locs ls hW hS hL)
    · cases ho
  · cases ho
def x_max : xO := fun (pc, lv, st, al, σ) => match st with
  | .int y :: .int x :: st => if (st.map Value.category).sum ≤ 8 then some (.inl (pc + 3, lv, .int (if x < y then y else x) :: st, al, σ)) else none
  | _ => none
def x_min : xO := fun (pc, lv, st, al, σ) => match st with
  | .int y :: .int x :: st => if (st.map Value.category).sum ≤ 8 then some (.inl (pc + 3, lv, .int (if y < x then y else x) :: st, al, σ)) else none
  | _ => none
def x_abs : xO := fun (pc, lv, st, al, σ) => match st with
  | .int x :: st => if (st.map Value.category).sum ≤ 8 then some (.inl (pc + 3, lv, .int (if 0 ≤ x then x else 0 - x) :: st, al, σ)) else none
  | _ => none
theorem x_max_ok {idx : Nat} (hlink : Cond.methodLink own idx Lib.Math.max.name ∈ xTB) (hstat : Cond.static Lib.Math.max.name ∈ xTB) (hini : Cond.initialized "java/lang/Math" ∈ xTB) (hcode : Cond.code Lib.Math.max.name Lib.Math.max.code 2 (some .int) ∈ xTB) (hdd : 0 < d) (hd : decode cc pc = .ok (.invokestatic idx, 3)) : xOK l cc own nL d mc ini pc x_max := by
  rintro p e R s m args below meth c Q D cA ad b0 ⟨hx, hb, hml, hown, hts, hK, hAd, hbs, hE, hfr, hlo, hce, hsl⟩ hi lv st al σ o ho hk2
  simp only [x_max] at ho
  split at ho
  · split at ho
    · rename_i y x st0 hcond
      cases ho
      intro hal H locs ls hW hS hL
      have h9 := x_rest (ad := ad) hcond
      have hal : al ≤ mc := hal
      exact va_mmax (rest := st0.map (xv ad)) hx hb (by rw [hml]; exact hL.1.symm) hown (hts _ hlink) (hts _ hstat) (hts _ hini) (hts _ hcode) (by omega) (by omega) (by show mc - al ≤ _; omega) (by show 2000 * (mc - al) ≤ _; omega) hd (hk2 hal H locs ls hW hS hL)
    · cases ho
  · cases ho
theorem x_min_ok {idx : Nat} (hlink : Cond.methodLink own idx Lib.Math.min.name ∈ xTB) (hstat : Cond.static Lib.Math.min.name ∈ xTB) (hini : Cond.initialized "java/lang/Math" ∈ xTB) (hcode : Cond.code Lib.Math.min.name Lib.Math.min.code 2 (some .int) ∈ xTB) (hdd : 0 < d) (hd : decode cc pc = .ok (.invokestatic idx, 3)) : xOK l cc own nL d mc ini pc x_min := by
  rintro p e R s m args below meth c Q D cA ad b0 ⟨hx, hb, hml, hown, hts, hK, hAd, hbs, hE, hfr, hlo, hce, hsl⟩ hi lv st al σ o ho hk2
  simp only [x_min] at ho
  split at ho
  · split at ho
    · rename_i y x st0 hcond
      cases ho
      intro hal H locs ls hW hS hL
      have h9 := x_rest (ad := ad) hcond
      have hal : al ≤ mc := hal
      exact va_mmin (rest := st0.map (xv ad)) hx hb (by rw [hml]; exact hL.1.symm) hown (hts _ hlink) (hts _ hstat) (hts _ hini) (hts _ hcode) (by omega) (by omega) (by show mc - al ≤ _; omega) (by show 2000 * (mc - al) ≤ _; omega) hd (hk2 hal H locs ls hW hS hL)
    · cases ho
  · cases ho
theorem x_abs_ok {idx : Nat} (hlink : Cond.methodLink own idx Lib.Math.abs.name ∈ xTB) (hstat : Cond.static Lib.Math.abs.name ∈ xTB) (hini : Cond.initialized "java/lang/Math" ∈ xTB) (hcode : Cond.code Lib.Math.abs.name Lib.Math.abs.code 1 (some .int) ∈ xTB) (hdd : 0 < d) (hd : decode cc pc = .ok (.invokestatic idx, 3)) : xOK l cc own nL d mc ini pc x_abs := by
  rintro p e R s m args below meth c Q D cA ad b0 ⟨hx, hb, hml, hown, hts, hK, hAd, hbs, hE, hfr, hlo, hce, hsl⟩ hi lv st al σ o ho hk2
  simp only [x_abs] at ho
  split at ho
  · split at ho
    · rename_i x st0 hcond
      cases ho
      intro hal H locs ls hW hS hL
      have h9 := x_rest (ad := ad) hcond
      have hal : al ≤ mc := hal
      exact va_mabs (rest := st0.map (xv ad)) hx hb (by rw [hml]; exact hL.1.symm) hown (hts _ hlink) (hts _ hstat) (hts _ hini) (hts _ hcode) (by omega) (by omega) (by show mc - al ≤ _; omega) (by show 2000 * (mc - al) ≤ _; omega) hd (hk2 hal H locs ls hW hS hL)
    · cases ho
  · cases ho
/-! new cells -/
def x_newS (σ : xS) (kd n : Nat) : xS := ((va_up σ.1.1 (σ.1.2.2.2 + 1) kd, va_up σ.1.2.1 (σ.1.2.2.2 + 1) n, va_up σ.1.2.2.1 (σ.1.2.2.2 + 1) (fun _ => 0), σ.1.2.2.2 + 1), va_up σ.2.1 (σ.1.2.2.2 + 1) (fun _ => 0), va_up σ.2.2 (σ.1.2.2.2 + 1) (fun _ => 0))
theorem va_upS {α : Type} (f : Nat → α) (k : Nat) (v : α) : va_up f k v k = v := if_pos rfl
theorem va_upN {α : Type} (f : Nat → α) {k j : Nat} (v : α) (h : j ≠ k) : va_up f k v j = f j := if_neg h
theorem xW.new {D : va_G} {cA : Nat → ClassId} {ad : Nat → Nat} {b0 : Nat} {U : State} {σ : xS} {H H' : Heap} {kd n : Nat} (hA : xAd ad b0) (h : xW D cA ad b0 U σ H) (hsz : xSz σ < 899) (hkd : 1 ≤ kd ∧ kd ≤ 15) (z : H'.size = H.size + 1) (oq : ∀ q : Nat, q < H.size → H'[q]? = H[q]?) (hc : xAt D cA ad (x_newS σ kd n) (xSz σ + 1) H') (h16 : xKd σ (xSz σ + 1) ≠ 16) : xW D cA ad b0 U (x_newS σ kd n) H' := by
  obtain ⟨w1, w2, w3, w4⟩ := h
  refine ⟨?_, ?_, fun a h1 h2 => ?_, fun a h1 => ?_⟩
  · rw [z, w1]; show _ = b0 + (xSz σ + 1); omega
  · show xSz σ + 1 < 900; omega
  · by_cases ha : a = xSz σ + 1
    · subst ha; exact ⟨by omega, Nat.le_refl _, hc⟩
    · have e1 : xKd (x_newS σ kd n) a = xKd σ a := va_upN _ _ ha
      rw [e1] at h1 h2
      obtain ⟨a1, a2, a3⟩ := w3 a h1 h2
      refine ⟨a1, Nat.le_succ_of_le a2, ?_⟩
      have haa : ad a = b0 + (a - 1) := hA a a1 (by omega)
      exact (a3.same e1 (va_upN _ _ ha) (va_upN _ _ ha) (va_upN _ _ ha) (va_upN _ _ ha)).kept (oq _ (by rw [w1]; omega))
  · by_cases ha : a = xSz σ + 1
    · subst ha
      have e1 : xKd (x_newS σ kd n) (xSz σ + 1) = kd := va_upS _ _ _
      rw [e1] at h1; omega
    · have e1 : xKd (x_newS σ kd n) a = xKd σ a := va_upN _ _ ha
      rw [e1] at h1
      obtain ⟨a1, a2⟩ := w4 a h1
      have e2 : xNn (x_newS σ kd n) a = xNn σ a := va_upN _ _ ha
      have e3 : xIn (x_newS σ kd n) a = xIn σ a := va_upN _ _ ha
      rw [e2, e3]
      exact ⟨a1, a2.kept (oq _ (by rw [w1]; omega))⟩
def x_new (ci : Nat) : xO := fun (pc, lv, st, al, σ) => if 1 ≤ al ∧ xSz σ < 899 ∧ xKd σ (xSz σ + 1) ≠ 16 then some (.inl (pc + 3, lv, .ref (xSz σ + 1) :: st, al - 1, x_newS σ (ci + 1) 0)) else none
def x_newa (kd : Nat) : xO := fun (pc, lv, st, al, σ) => match st with
  | .int n :: st => if 1 ≤ al ∧ xSz σ < 899 ∧ xKd σ (xSz σ + 1) ≠ 16 ∧ ¬ n < 0 ∧ n.toNatClampNeg ≤ 2000 then some (.inl (pc + 2, lv, .ref (xSz σ + 1) :: st, al - 1, x_newS σ kd n.toNatClampNeg)) else none
  | _ => none
def x_newq (kd : Nat) : xO := fun (pc, lv, st, al, σ) => match st with
  | .int n :: st => if 1 ≤ al ∧ xSz σ < 899 ∧ xKd σ (xSz σ + 1) ≠ 16 ∧ ¬ n < 0 ∧ n.toNatClampNeg ≤ 2000 then some (.inl (pc + 3, lv, .ref (xSz σ + 1) :: st, al - 1, x_newS σ kd n.toNatClampNeg)) else none
  | _ => none
theorem xfv_born {ad : Nat → Nat} {σ : xS} {ci : Nat} {kd n : Nat} (j : Nat) (hj : j < xnf ci) (hci : ci < 8) : defaultValue (xty ci j) = xfv ad (x_newS σ kd n) (xSz σ + 1) ci j := by
  have e1 : xIn (x_newS σ kd n) (xSz σ + 1) = fun _ => 0 := va_upS _ _ _
  have e2 : xLo (x_newS σ kd n) (xSz σ + 1) = fun _ => 0 := va_upS _ _ _
  have e3 : xRf (x_newS σ kd n) (xSz σ + 1) = fun _ => 0 := va_upS _ _ _
  unfold xfv
  rw [e1, e2, e3]
  have h1 : ∀ ci, ci < 8 → ∀ j, j < xnf ci → defaultValue (xty ci j) = if xft ci j = 1 then Value.long 0 else if xft ci j = 2 then Value.null else Value.int 0 := by decide +kernel
  rw [h1 ci hci j hj]
  rfl
theorem x_new_ok {ci idx : Nat} {C : String} {T : u_T} {N : Nat} (hc : vwCl[ci]? = some (C, T, N)) (hci : ci < 8) (hl : Cond.classLink own idx C ∈ xTB) (hins : Cond.instantiable C N ∈ xTB) (hini : Cond.initialized C ∈ xTB) (hN : N ≤ 100) (hd : decode cc pc = .ok (.new idx, 3)) : xOK l cc own nL d mc ini pc (x_new ci) := by
  rintro p e R s m args below meth c Q D cA ad b0 ⟨hx, hb, hml, hown, hts, hK, hAd, hbs, hE, hfr, hlo, hce, hsl⟩ hi lv st al σ o ho hk2
  simp only [x_new] at ho
  split at ho
  · rename_i hcond
    cases ho
    intro hal H locs ls hW hS hL
    have hW : xW D cA ad b0 s σ H := hW
    have hal : al ≤ mc := hal
    show W p l e R s m args below meth c H locs (mc - al) (2000 * (mc - al)) Q (F0 m pc ls (st.map (xv ad)))
    obtain ⟨x1, x2, x3, x4⟩ := x_cls hc
    have hKn := hK.1 ci _ hc
    have hsize : H.size = ad (xSz σ + 1) := by rw [hAd (xSz σ + 1) (by omega) (by omega), hW.1]; omega
    refine W.newcK hx hb hown (hts _ hl) (hts _ hins) (hts _ hini) rfl hd (by omega) (by omega) hKn.2.1 hsize fun H1 kC hkC e1 z1 o1 => ?_
    rw [← hsize] at o1 z1
    have hO := u_born (xty ci) hts x2 hKn hkC e1 x3
    have h1 := hk2 (by show al - 1 ≤ mc; omega) H1 locs ls (hW.new hAd hcond.2.1 ⟨by omega, by omega⟩ z1 o1 (xAt_obj (va_upS _ _ _) hci (by subst x1; exact hO.to (fun j hj => xfv_born j hj hci))) hcond.2.2) ⟨Nat.le_trans hS.1 (by omega), fun q g1 g2 => (o1 q (Nat.lt_of_lt_of_le g1 hS.1)).trans (hS.2.1 q g1 g2), hS.2.2⟩ hL
    refine W.widen (k := mc - (al - 1)) (n := 2000 * (mc - (al - 1))) (by omega) (by omega) h1
  · cases ho
theorem x_newa_ok {kd : Nat} {at' : ArrayType} {ty : FieldType} (hty : newarray.typeOf at' = ty) (hkd : (kd = 9 ∧ ty = .byte) ∨ (kd = 10 ∧ ty = .int) ∨ (kd = 11 ∧ ty = .boolean)) (harr : Cond.arrayClass ty ∈ xTB) (hd : decode cc pc = .ok (.newarray at', 2)) : xOK l cc own nL d mc ini pc (x_newa kd) := by
  rintro p e R s m args below meth c Q D cA ad b0 ⟨hx, hb, hml, hown, hts, hK, hAd, hbs, hE, hfr, hlo, hce, hsl⟩ hi lv st al σ o ho hk2
  simp only [x_newa] at ho
  split at ho
  · rename_i n st0
    split at ho
    · rename_i hcond
      cases ho
      intro hal H locs ls hW hS hL
      have hW : xW D cA ad b0 s σ H := hW
      have hal : al ≤ mc := hal
      show W p l e R s m args below meth c H locs (mc - al) (2000 * (mc - al)) Q (F0 m pc ls (.int n :: st0.map (xv ad)))
      subst hty
      have hsize : H.size = ad (xSz σ + 1) := by rw [hAd (xSz σ + 1) (by omega) (by omega), hW.1]; omega
      refine va_newaK hx hb (hts _ harr) rfl hd rfl hcond.2.2.2.1 rfl (by rcases hkd with ⟨-, h⟩ | ⟨-, h⟩ | ⟨-, h⟩ <;> rw [h] <;> simp [componentBytes] <;> omega) (by omega) (by omega) hsize fun H1 cA' e1 z1 o1 hAr hNm => ?_
      rw [← hsize] at o1 z1
      have hcA : cA' = cA kd ∧ defaultValue (newarray.typeOf at') = .int 0 := by
        rcases hkd with ⟨h1, h2⟩ | ⟨h1, h2⟩ | ⟨h1, h2⟩
        · rw [h2] at hNm ⊢; subst h1; exact ⟨Option.some.inj (hNm.symm.trans (hK.2 0 _ rfl).2), rfl⟩
        · rw [h2] at hNm ⊢; subst h1; exact ⟨Option.some.inj (hNm.symm.trans (hK.2 1 _ rfl).2), rfl⟩
        · rw [h2] at hNm ⊢; subst h1; exact ⟨Option.some.inj (hNm.symm.trans (hK.2 2 _ rfl).2), rfl⟩
      have hk3 : 9 ≤ kd ∧ kd ≤ 11 := by rcases hkd with ⟨h1, -⟩ | ⟨h1, -⟩ | ⟨h1, -⟩ <;> omega
      have h1 := hk2 (by show al - 1 ≤ mc; omega) H1 locs ls (hW.new (kd := kd) (n := n.toNatClampNeg) hAd hcond.2.1 ⟨by omega, by omega⟩ z1 o1 (xAt_ari (va_upS _ _ _) hk3.1 hk3.2 (by
        rw [e1, hcA.1, hcA.2]
        have q1 : xNn (x_newS σ kd n.toNatClampNeg) (xSz σ + 1) = n.toNatClampNeg := va_upS _ _ _
        have q2 : xIn (x_newS σ kd n.toNatClampNeg) (xSz σ + 1) = fun _ => 0 := va_upS _ _ _
        rw [q1, q2])) hcond.2.2.1) ⟨Nat.le_trans hS.1 (by omega), fun q g1 g2 => (o1 q (Nat.lt_of_lt_of_le g1 hS.1)).trans (hS.2.1 q g1 g2), hS.2.2⟩ hL
      exact W.widen (k := mc - (al - 1)) (n := 2000 * (mc - (al - 1))) (by omega) (by omega) h1
    · cases ho
  · cases ho
theorem x_newq_ok {kd t0 idx : Nat} {C : String} (hk3 : 12 ≤ kd ∧ kd ≤ 15) (ht : ∀ cA : Nat → ClassId, (xtys cA)[t0]? = some (cA kd, .object C)) (hl : Cond.classLink own idx C ∈ xTB) (hover : ∀ (ad : Nat → Nat) (b0 : Nat) (s : State), xE ad b0 s → va_AO C s) (hd : decode cc pc = .ok (.anewarray idx, 3)) : xOK l cc own nL d mc ini pc (x_newq kd) := by
  rintro p e R s m args below meth c Q D cA ad b0 ⟨hx, hb, hml, hown, hts, hK, hAd, hbs, hE, hfr, hlo, hce, hsl⟩ hi lv st al σ o ho hk2
  simp only [x_newq] at ho
  split at ho
  · rename_i n st0
    split at ho
    · rename_i hcond
      cases ho
      intro hal H locs ls hW hS hL
      have hW : xW D cA ad b0 s σ H := hW
      have hal : al ≤ mc := hal
      show W p l e R s m args below meth c H locs (mc - al) (2000 * (mc - al)) Q (F0 m pc ls (.int n :: st0.map (xv ad)))
      have hsize : H.size = ad (xSz σ + 1) := by rw [hAd (xSz σ + 1) (by omega) (by omega), hW.1]; omega
      refine W.anew hx hb hown (hts _ hl) (va_AO.use (hover ad b0 s hE)) rfl hd rfl hcond.2.2.2.1 (by omega) (by omega) (by omega) fun cA' kA comp f1 f2 f3 f4 => ?_
      generalize hH1 : H.push ({ cls := cA', slots := Array.replicate n.toNatClampNeg .null, vm := .none } : Cell) = H1
      have z1 : H1.size = H.size + 1 := by rw [← hH1, Array.size_push]
      have e1 : H1[H.size]? = some (arrV cA' n.toNatClampNeg (fun _ => .null)) := by rw [← hH1, Array.getElem?_push_size, ← arrV_new]
      have o1 : ∀ q : Nat, q < H.size → H1[q]? = H[q]? := fun q hq => by rw [← hH1, Array.getElem?_push, if_neg (Nat.ne_of_lt hq)]
      obtain ⟨kB, compB, -, -, -, m4⟩ := (hK.2 t0 _ (ht cA)).2
      have hcA : cA' = cA kd := Option.some.inj (f1.symm.trans m4)
      have h1 := hk2 (by show al - 1 ≤ mc; omega) H1 locs ls (hW.new (kd := kd) (n := n.toNatClampNeg) hAd hcond.2.1 ⟨by omega, by omega⟩ z1 o1 (xAt_arq (va_upS _ _ _) hk3.1 hk3.2 (by
        rw [← hsize, e1, hcA]
        have q1 : xNn (x_newS σ kd n.toNatClampNeg) (xSz σ + 1) = n.toNatClampNeg := va_upS _ _ _
        have q2 : xRf (x_newS σ kd n.toNatClampNeg) (xSz σ + 1) = fun _ => 0 := va_upS _ _ _
        rw [q1, q2]
        rfl)) hcond.2.2.1) ⟨Nat.le_trans hS.1 (by omega), fun q g1 g2 => (o1 q (Nat.lt_of_lt_of_le g1 hS.1)).trans (hS.2.1 q g1 g2), hS.2.2⟩ hL
      rw [hsize]
      exact W.widen (k := mc - (al - 1)) (n := 2000 * (mc - (al - 1))) (by omega) (by omega) h1
    · cases ho
  · cases ho
end XMORE
