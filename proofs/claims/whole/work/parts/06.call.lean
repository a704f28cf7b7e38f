/-! contracts of our machine, calls -/
def xPc (D : va_G) (cA : Nat → ClassId) (ad : Nat → Nat) (b0 : Nat) (As : List Value) (σ : xS) : Array Value → State → Prop := fun v U => v = (As.map (xv ad)).toArray ∧ xW D cA ad b0 U σ U.heap ∧ va_K D vwCl (xtys cA) U ∧ xAd ad b0 ∧ xE ad b0 U
def xQc (D : va_G) (cA : Nat → ClassId) (ad : Nat → Nat) (b0 : Nat) (r : xR) : Array Value → State → Outcome → State → Prop := fun _ st oc t => oc = .returned (r.1.map (xv ad)) ∧ xW D cA ad b0 t r.2 t.heap ∧ va_F (fun q => b0 ≤ q) st t
def xSound (l : Launch) (y : MethodName) (b : ByteArray) (maxL : Nat) (ret : Option FieldType) (d mc : Nat) (f : List Value → xS → Option xR) : Prop :=
  ∀ (D : va_G) (cA : Nat → ClassId) (ad : Nat → Nat) (b0 : Nat) (As : List Value) (σ : xS) (r : xR), f As σ = some r → Met l y (Cond.code y b maxL ret :: xTB) { frames := d, cells := mc, slots := 2000 * mc, locals := 40 * d } (xPc D cA ad b0 As σ) (xQc D cA ad b0 r) mc (2000 * mc) (fun q => b0 ≤ q)
theorem xPc.blind {D : va_G} {cA : Nat → ClassId} {ad : Nat → Nat} {b0 : Nat} {As : List Value} {σ : xS} : FrameBlind (xPc D cA ad b0 As σ) := by
  rintro a U g mk ⟨h1, h2, h3, h4, h5⟩
  have hA : U.vm.Alike (U.calling g mk a).vm := Vm.Alike.refl U.vm
  exact ⟨h1, h2.moved hA, va_K.moved hA h3, h4, h5.calling⟩
theorem xTB_goodIn {y : MethodName} {b : ByteArray} {maxL : Nat} {ret : Option FieldType} (h : Cond.code y b maxL ret ∈ xTB) : GoodIn xTB (Cond.code y b maxL ret :: xTB) := by
  intro w hw
  rcases List.mem_cons.mp hw with h1 | h1
  · subst h1; exact ⟨h, good_of_word (xTB_good _ h)⟩
  · exact ⟨h1, good_of_word (xTB_good _ h1)⟩
section XCALL
variable {p : Program} {l : Launch} {e : Env} {R : Room} {s : State} {m : MethodId} {args : Array Value} {below : List Frame} {meth : Method} {c : Code} {H : Heap} {locs : List Loc} {cells slots : Nat} {Q : State → Prop}
theorem x_after {pc mc' ms' b0 : Nat} {ls : Array Slot} {st0 rest : List Value} {D : va_G} {cA : Nat → ClassId} {ad : Nat → Nat} {r : xR} {a : Array Value}
    (hr : va_Run p l e R s m args below meth c H locs cells slots mc' ms' (F0 m pc ls st0) rest (xQc D cA ad b0 r a) (fun q => b0 ≤ q)) (hS : va_S (fun q => b0 ≤ q) s.heap H locs)
    (kk : ∀ (H1 : Heap) (locs1 : List Loc), xW D cA ad b0 s r.2 H1 → va_S (fun q => b0 ≤ q) s.heap H1 locs1 → W p l e R s m args below meth c H1 locs1 (cells + mc') (slots + ms') Q (F0 m (pc + 3) ls ((r.1.map (xv ad)).toList ++ rest))) : W p l e R s m args below meth c H locs cells slots Q (F0 m pc ls st0) := by
  intro T hT X
  obtain ⟨v, st₀, t, T', L, h0, X', hL, e1, e2, ⟨hv, hw, hz, hk⟩, st⟩ := hr T hT X
  cases hv
  rw [h0] at hz hk
  have hal : s.vm.Alike t.vm := by rw [← e2]; exact X'.warmed.alike
  obtain ⟨t2, a1, b1⟩ := kk T'.heap (locs ++ L) (by rw [e1]; exact hw.moved hal.symm)
    ⟨Nat.le_trans hS.1 (by rw [e1]; exact hz), fun q h1 h2 => by rw [e1, hk q (Nat.lt_of_lt_of_le h1 hS.1) h2]; exact hS.2.1 q h1 h2, fun q hq => by
      rcases List.mem_append.mp hq with h | h
      · exact hS.2.2 q h
      · exact hL q h⟩ T' rfl X'
  exact ⟨t2, st t2 a1, b1⟩
end XCALL
def x_call (mc' ar : Nat) (f : List Value → xS → Option xR) : xO := fun (pc, lv, st, al, σ) =>
  if ar ≤ st.length ∧ mc' ≤ al ∧ ((st.drop ar).map Value.category).sum ≤ 8 then
    match f (st.take ar).reverse σ with
    | some r => some (.inl (pc + 3, lv, r.1.toList ++ st.drop ar, al - mc', r.2))
    | none => none
  else none
def x_callV (ci mc' ar : Nat) (f : List Value → xS → Option xR) : xO := fun (pc, lv, st, al, σ) => match (st.take ar).reverse with
  | .ref c :: _ => if xKd σ c = ci + 1 then x_call mc' ar f (pc, lv, st, al, σ) else none
  | _ => none
theorem x_opt {α : Type} (g : α → α) (o : Option α) : (o.map g).toList = o.toList.map g := by cases o <;> rfl
section XCOK
variable {l : Launch} {cc : ByteArray} {own : String} {nL d mc pc : Nat} {ini : Prop}
theorem x_callS_ok {idx : Nat} {y : MethodName} {b : ByteArray} {maxL : Nat} {ret : Option FieldType} {d' mc' ar : Nat} {f : List Value → xS → Option xR} (hM : xSound l y b maxL ret d' mc' f) (hcode : Cond.code y b maxL ret ∈ xTB) (hlink : Cond.methodLink own idx y ∈ xTB) (hstat : Cond.static y ∈ xTB) (hini : Cond.initialized y.cls ∈ xTB)
    (hy : y.cls ≠ "java/lang/invoke/MethodHandle" ∧ y.cls ≠ "java/lang/invoke/VarHandle" ∧ (parseMethodDescriptor y.desc).map (fun d => d.parameters.length) = some ar) (hdd : d' < d) (hmx : maxL ≤ 20) (hd : decode cc pc = .ok (.invokestatic idx, 3)) : xOK l cc own nL d mc ini pc (x_call mc' ar f) := by
  rintro p e R s m args below meth c Q D cA ad b0 ⟨hx, hb, hml, hown, hts, hK, hAd, hbs, hE, hfr, hlo, hce, hsl⟩ hi lv st al σ o ho hk2
  simp only [x_call] at ho
  split at ho
  · rename_i hcond
    split at ho
    · rename_i r hf
      cases ho
      intro hal H locs ls hW hS hL
      have hW : xW D cA ad b0 s σ H := hW
      have hal : al ≤ mc := hal
      show W p l e R s m args below meth c H locs (mc - al) (2000 * (mc - al)) Q (F0 m pc ls (st.map (xv ad)))
      have e1 : mc - al + mc' = mc - (al - mc') := by omega
      refine x_after (rest := (st.drop ar).map (xv ad)) (va_runS (As := (st.take ar).reverse.map (xv ad)) ⟨hx, hb, hml, hown, hts⟩ (hM D cA ad b0 _ σ r hf) ⟨callB_of ar hts (xTB_goodIn hcode) rfl rfl rfl (hts _ hini) (hts _ hlink) hy ⟨by show d' + 1 ≤ _; omega, by show 8 + (maxL + 11) + 40 * d' ≤ _; omega⟩, hts _ hstat⟩
        ⟨xPc.blind, fun U hU hWm => ⟨rfl, by rw [hU]; exact hW.moved hWm.alike, va_K.moved hWm.alike hK, hAd, hE.go hWm (fun q h1 h2 => by rw [hU]; exact hS.2.1 q h1 h2)⟩⟩ rfl (by simp; omega) hL.1 (by show st.map (xv ad) = _; rw [← List.map_reverse, List.reverse_reverse, ← List.map_append, List.take_append_drop]) (lv_room (by rw [List.map_map]; refine Nat.le_trans (Nat.le_of_eq (congrArg List.sum (List.map_congr_left (fun v _ => ?_)))) hcond.2.2; exact xv_cat ad v)) hd ⟨by omega, by omega⟩) hS (fun H1 locs1 hW1 hS1 => ?_)
      have h1 := hk2 (by show al - mc' ≤ mc; omega) H1 locs1 ls hW1 hS1 hL
      rw [x_opt]
      have e2 : 2000 * (mc - al) + 2000 * mc' = 2000 * (mc - (al - mc')) := by omega
      rw [e1, e2]
      simpa only [List.map_append] using h1
    · cases ho
  · cases ho
theorem x_callV_ok {idx ci : Nat} {C : String} {T : u_T} {N : Nat} (hc : vwCl[ci]? = some (C, T, N)) (hci : ci < 8) {y : MethodName} {b : ByteArray} {maxL : Nat} {ret : Option FieldType} {d' mc' ar n : Nat} {f : List Value → xS → Option xR} (hM : xSound l y b maxL ret d' mc' f) (hcode : Cond.code y b maxL ret ∈ xTB) (hlink : Cond.methodLink own idx y ∈ xTB) (hinst : Cond.instanceMethod y ∈ xTB) (hsel : Cond.selects C y y ∈ xTB) (hini : Cond.initialized y.cls ∈ xTB)
    (hy : y.cls ≠ "java/lang/invoke/MethodHandle" ∧ y.cls ≠ "java/lang/invoke/VarHandle" ∧ (parseMethodDescriptor y.desc).map (fun d => d.parameters.length) = some n) (har : ar = n + 1) (hdd : d' < d) (hmx : maxL ≤ 20) (hd : decode cc pc = .ok (.invokevirtual idx, 3)) : xOK l cc own nL d mc ini pc (x_callV ci mc' ar f) := by
  rintro p e R s m args below meth c Q D cA ad b0 ⟨hx, hb, hml, hown, hts, hK, hAd, hbs, hE, hfr, hlo, hce, hsl⟩ hi lv st al σ o ho hk2
  simp only [x_callV] at ho
  split at ho
  · rename_i c0 As hst
    split at ho
    · rename_i hkd
      simp only [x_call] at ho
      split at ho
      · rename_i hcond
        split at ho
        · rename_i r hf
          cases ho
          intro hal H locs ls hW hS hL
          have hW : xW D cA ad b0 s σ H := hW
          have hal : al ≤ mc := hal
          show W p l e R s m args below meth c H locs (mc - al) (2000 * (mc - al)) Q (F0 m pc ls (st.map (xv ad)))
          have hst2 : st = As.reverse ++ .ref c0 :: st.drop ar := by
            have h1 : st.take ar = As.reverse ++ [.ref c0] := by rw [← List.reverse_reverse (st.take ar), hst]; simp
            rw [← List.singleton_append (l := st.drop ar), ← List.append_assoc, ← h1, List.take_append_drop]
          have hlen : As.length = n := by
            have h1 := congrArg List.length hst
            simp at h1
            omega
          rw [hst] at hf
          have e1 : mc - al + mc' = mc - (al - mc') := by omega
          obtain ⟨cellB, g1, g2, g3, -⟩ := hW.obj hkd hci
          refine x_after (rest := (st.drop ar).map (xv ad)) (va_runV (C := C) (b := ad c0) (As := As.map (xv ad)) ⟨hx, hb, hml, hown, hts⟩ (hM D cA ad b0 _ σ r hf) ⟨callB_of n hts (xTB_goodIn hcode) rfl rfl rfl (hts _ hini) (hts _ hlink) hy ⟨by show d' + 1 ≤ _; omega, by show 8 + (maxL + 11) + 40 * d' ≤ _; omega⟩, hts _ hinst, hts _ hsel⟩
            ⟨xPc.blind, ⟨cellB, g1, by rw [g3]; rfl, by rw [g2]; exact (hK.1 ci _ hc).2.1⟩, fun U hU hWm => ⟨rfl, by rw [hU]; exact hW.moved hWm.alike, va_K.moved hWm.alike hK, hAd, hE.go hWm (fun q h1 h2 => by rw [hU]; exact hS.2.1 q h1 h2)⟩⟩ rfl (by simp; omega) hL.1 (by show st.map (xv ad) = _; exact (congrArg (List.map (xv ad)) hst2).trans (by simp [xv])) (lv_room (by rw [List.map_map]; refine Nat.le_trans (Nat.le_of_eq (congrArg List.sum (List.map_congr_left (fun v _ => ?_)))) hcond.2.2; exact xv_cat ad v)) hd ⟨by omega, by omega⟩) hS (fun H1 locs1 hW1 hS1 => ?_)
          have h1 := hk2 (by show al - mc' ≤ mc; omega) H1 locs1 ls hW1 hS1 hL
          rw [x_opt]
          have e2 : 2000 * (mc - al) + 2000 * mc' = 2000 * (mc - (al - mc')) := by omega
          rw [e1, e2]
          simpa only [List.map_append] using h1
        · cases ho
      · cases ho
    · cases ho
  · cases ho
end XCOK
