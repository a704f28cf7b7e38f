section XR
variable {p : Program} {l : Launch} {e : Env} {R : Room} {s : State} {m : MethodId} {args : Array Value} {below : List Frame} {meth : Method} {c : Code} {H : Heap} {locs : List Loc} {cells slots : Nat} {Q : State → Prop}
variable {cc : ByteArray} {pc : Nat} {ls : Array Slot} {rest : List Value}
/-- System.arraycopy of ints: the heap's size stays -/
theorem xr_copy (hx : p.tables.exec = Jvm.exec) (hb : c.code = cc) (hml : c.maxLocals = ls.size) {own : String} {index : Nat} (hown : s.vm.findClass own = some m.cls) (hlink : (Cond.methodLink own index arraycopyName).before args s = true) (hnat : (Cond.native arraycopyName).before args s = true) (hstat : (Cond.static arraycopyName).before args s = true) (hini : (Cond.initialized "java/lang/System").before args s = true)
    {a0 a : Nat} {c0 c1 : ClassId} {n0 n1 : Nat} {f g : Nat → Int32} (hc0 : H[a0]? = some (vp_cell c0 (n0, .inl f))) (hc1 : H[a]? = some (vp_cell c1 (n1, .inl g))) (ht0 : ArrOfT s c0 .int) (ht1 : ArrOfT s c1 .int)
    {sp dp n : Int32} (h1 : ¬ sp < 0) (h2 : ¬ dp < 0) (h3 : ¬ n < 0) (h4 : sp.toNatClampNeg + n.toNatClampNeg ≤ n0) (h5 : dp.toNatClampNeg + n.toNatClampNeg ≤ n1)
    (hframes : 1 ≤ R.frames) (hlocals : (rest.map fun v => v.category).sum + (nativeFrameWords "java/lang/System" "arraycopy" 5 + 11) ≤ R.locals) (hd : decode cc pc = .ok (.invokestatic index, 3))
    (kk : ∀ (H1 : Heap) (L : List Loc), H1[a]? = some (vp_cell c1 (n1, .inl (va_cpy f g sp.toNatClampNeg dp.toNatClampNeg n.toNatClampNeg))) → H1.size = H.size → (∀ q : Nat, q ≠ a → H1[q]? = H[q]?) → (∀ q ∈ L, q.base = a) → W p l e R s m args below meth c H1 (locs ++ L) cells slots Q (F0 m (pc + 3) ls rest)) : W p l e R s m args below meth c H locs cells slots Q (F0 m pc ls (.int n :: .int dp :: .ref a :: .int sp :: .ref a0 :: rest)) := by
  have nn : ∀ z : Int32, ¬ z < 0 → z.toInt = (z.toNatClampNeg : Int) := by
    intro z hz
    have hz0 : (0 : Int) ≤ z.toInt := by
      have := Int32.not_lt.mp hz
      simpa using Int32.le_iff_toInt_le.mp this
    show z.toInt = ((z.toInt.toNat : Nat) : Int)
    omega
  intro T hT X
  obtain ⟨-, k0, hk0, cm0, hkk0⟩ := ht0 n0 (fun j => .int (f j))
  obtain ⟨-, k1, hk1, cm1, hkk1⟩ := ht1 n1 (fun j => .int (g j))
  obtain ⟨vm', X', step⟩ := X.arraycopy hx hown hlink hnat hstat hini (src := a0) (dst := a) (cs := vp_cell c0 (n0, .inl f)) (cd := vp_cell c1 (n1, .inl g)) (srcPos := sp) (destPos := dp) (n := n) (by rw [hT]; exact hc0) (by rw [hT]; exact hc1)
    (fun _ h => by cases h) (fun _ h => by cases h) (fun h => by cases h) (fun h => by cases h) hk0 hk1 hkk0 hkk1 (by simp [refKind]) h1 h2 h3
    (by rw [nn sp h1, nn n h3]; show ¬ _ > ((arrV c0 n0 (fun j => .int (f j))).slots.size : Int); rw [arrV_size]; omega)
    (by rw [nn dp h2, nn n h3]; show ¬ _ > ((arrV c1 n1 (fun j => .int (g j))).slots.size : Int); rw [arrV_size]; omega)
    (fun vm₁ _ i hi => by
      have e : (vp_cell c0 (n0, .inl f)).slots.getD (sp.toNatClampNeg + i) .null = .int (f (sp.toNatClampNeg + i)) := by
        show (arrV c0 n0 (fun j => .int (f j))).slots.getD _ _ = _
        rw [Array.getD_eq_getD_getElem?, arrV_read _ _ (by omega)]
        rfl
      refine ⟨?_, ?_⟩
      · rw [e]; rfl
      · rw [e]
        exact trivial)
    (g := F0 m pc ls (.int n :: .int dp :: .ref a :: .int sp :: .ref a0 :: rest)) rfl (by rw [hml]) (rest := rest) rfl (by rw [hb]; exact hd) hframes (by show 2 * 0 + _ + _ ≤ _; omega)
  have e1 : copied (vp_cell c0 (n0, .inl f)) (vp_cell c1 (n1, .inl g)) sp dp n = vp_cell c1 (n1, .inl (va_cpy f g sp.toNatClampNeg dp.toNatClampNeg n.toNatClampNeg)) := va_copied (fun z => .int z) c0 c1 f g h4
  rw [e1] at X' step
  have hl : a < H.size := (Array.getElem?_eq_some_iff.mp hc1).1
  have hheap : ((T.setVm vm').setCell a (vp_cell c1 (n1, .inl (va_cpy f g sp.toNatClampNeg dp.toNatClampNeg n.toNatClampNeg)))).heap = H.setIfInBounds a (vp_cell c1 (n1, .inl (va_cpy f g sp.toNatClampNeg dp.toNatClampNeg n.toNatClampNeg))) := by rw [← hT]; rfl
  obtain ⟨t, a1, b1⟩ := kk _ _ (by simp [Array.getElem?_setIfInBounds, hl]) (by simp) (fun q hq => by simp [Array.getElem?_setIfInBounds, Ne.symm hq]) (fun q hq => by
      obtain ⟨z, -, hz⟩ := List.mem_map.mp hq
      rw [← hz]) _ hheap X'
  exact ⟨t, step t a1, b1⟩
end XR
def x_copy : xO := fun (pc, lv, st, al, σ) => match st with
  | .int n :: .int dp :: .ref b :: .int sp :: .ref a :: st => if (xKd σ a = 10 ∧ xKd σ b = 10) ∧ (¬ sp < 0 ∧ ¬ dp < 0 ∧ ¬ n < 0) ∧ (sp.toNatClampNeg + n.toNatClampNeg ≤ xNn σ a ∧ dp.toNatClampNeg + n.toNatClampNeg ≤ xNn σ b) ∧ (st.map Value.category).sum ≤ 8 then
      some (.inl (pc + 3, lv, st, al, (σ.1, va_up σ.2.1 b (va_cpy (σ.2.1 a) (σ.2.1 b) sp.toNatClampNeg dp.toNatClampNeg n.toNatClampNeg), σ.2.2))) else none
  | _ => none
section XEXT
variable {l : Launch} {cc : ByteArray} {own : String} {nL d mc pc : Nat} {ini : Prop}
theorem x_copy_ok {idx : Nat} (hlink : Cond.methodLink own idx arraycopyName ∈ xTB) (hnat : Cond.native arraycopyName ∈ xTB) (hstat : Cond.static arraycopyName ∈ xTB) (hini : Cond.initialized "java/lang/System" ∈ xTB) (hdd : 0 < d) (hd : decode cc pc = .ok (.invokestatic idx, 3)) : xOK l cc own nL d mc ini pc x_copy := by
  rintro p e R s m args below meth c Q D cA ad b0 ⟨hx, hb, hml, hown, hts, hK, hAd, hbs, hE, hfr, hlo, hce, hsl⟩ hi lv st al σ o ho hk2
  simp only [x_copy] at ho
  split at ho
  · split at ho
    · rename_i n dp b sp a st0 hcond
      cases ho
      intro hal H locs ls hW hS hL
      have hW : xW D cA ad b0 s σ H := hW
      have h9 := x_rest (ad := ad) hcond.2.2.2
      have hnf : nativeFrameWords "java/lang/System" "arraycopy" 5 ≤ 20 := by decide +kernel
      refine xr_copy (rest := st0.map (xv ad)) hx hb (by rw [hml]; exact hL.1.symm) hown (hts _ hlink) (hts _ hnat) (hts _ hstat) (hts _ hini) (hW.ari hcond.1.1 (by decide) (by decide)) (hW.ari hcond.1.2 (by decide) (by decide)) (xK_ty hK).2.1 (xK_ty hK).2.1 hcond.2.1.1 hcond.2.1.2.1 hcond.2.1.2.2 hcond.2.2.1.1 hcond.2.2.1.2 (by omega) (by omega) hd (fun H1 L e1 z oq hL2 => ?_)
      have hlo2 := hW.lo hAd (c := b) (by omega) (by omega)
      refine hk2 hal H1 _ ls (xW.upd (c := b) hAd hW (by omega) (by omega) rfl rfl rfl (fun _ _ => rfl) (fun q hq => va_upN _ _ hq) (fun _ _ => rfl) z oq (xAt_ari hcond.1.2 (by decide) (by decide) ?_)) ⟨by rw [z]; exact hS.1, fun q g1 g2 => by
        rw [oq q (fun w => g2 (by rw [w]; exact hlo2))]; exact hS.2.1 q g1 g2, fun q hq => by
        rcases List.mem_append.mp hq with h | h
        · exact hS.2.2 q h
        · show b0 ≤ q.base; rw [hL2 q h]; exact hlo2⟩ hL
      rw [e1, vp_cell_i]
      have q2 : xIn (σ.1, va_up σ.2.1 b (va_cpy (σ.2.1 a) (σ.2.1 b) sp.toNatClampNeg dp.toNatClampNeg n.toNatClampNeg), σ.2.2) b = va_cpy (σ.2.1 a) (σ.2.1 b) sp.toNatClampNeg dp.toNatClampNeg n.toNatClampNeg := va_upS _ _ _
      rw [q2]
    · cases ho
  · cases ho
def x_tald : xO := fun (pc, lv, st, al, σ) => match st with
  | .int i :: .ref c :: st => if c = 1001 ∧ ¬ (i < 0 ∨ 7 ≤ i.toNatClampNeg) then some (.inl (pc + 1, lv, .int (xgr i.toNatClampNeg) :: st, al, σ)) else none
  | _ => none
def x_tbald : xO := fun (pc, lv, st, al, σ) => match st with
  | .int i :: .ref c :: st => if c = 1003 ∧ ¬ (i < 0 ∨ 6 ≤ i.toNatClampNeg) then some (.inl (pc + 1, lv, .int (xlt i.toNatClampNeg) :: st, al, σ)) else none
  | _ => none
def x_tblen : xO := fun (pc, lv, st, al, σ) => match st with
  | .ref c :: st => if c = 1003 then some (.inl (pc + 1, lv, .int 6 :: st, al, σ)) else none
  | _ => none
def x_strV : xO := fun (pc, lv, st, al, σ) => match st with
  | .ref c :: st => if c = 1002 then some (.inl (pc + 3, lv, .ref 1003 :: st, al, σ)) else none
  | _ => none
def x_strC : xO := fun (pc, lv, st, al, σ) => match st with
  | .ref c :: st => if c = 1002 then some (.inl (pc + 3, lv, .int 0 :: st, al, σ)) else none
  | _ => none
def x_callStr (ar : Nat) (f : List Value → xS → Option xR) : xO := fun (pc, lv, st, al, σ) => match (st.take ar).reverse with
  | .ref c :: _ => if c = 1002 then x_call 0 ar f (pc, lv, st, al, σ) else none
  | _ => none
theorem x_gsR_ok {idx : Nat} (hl : Cond.fieldLink own idx "ShadeNames$Text" "GREATEST" "[I" ∈ xTB) (hd : decode cc pc = .ok (.getstatic idx, 3)) : xOK l cc own nL d mc ini pc (x_push (.ref 1001) 3) := by
  rintro p e R s m args below meth c Q D cA ad b0 ⟨hx, hb, hml, hown, hts, hK, hAd, hbs, hE, hfr, hlo, hce, hsl⟩ hi lv st al σ o ho hk2
  cases ho
  intro hal H locs ls hW hS hL
  exact va_gets hx hb hE.2.2.1.1 hS hown (hts _ hl) (fun x h => h) hd (hk2 hal H locs ls hW hS hL)
theorem x_gsC_ok {idx : Nat} (hl : Cond.fieldLink own idx "java/lang/String" "COMPACT_STRINGS" "Z" ∈ xTB) (hd : decode cc pc = .ok (.getstatic idx, 3)) : xOK l cc own nL d mc ini pc (x_push (.int 1) 3) := by
  rintro p e R s m args below meth c Q D cA ad b0 ⟨hx, hb, hml, hown, hts, hK, hAd, hbs, hE, hfr, hlo, hce, hsl⟩ hi lv st al σ o ho hk2
  cases ho
  intro hal H locs ls hW hS hL
  exact va_gets hx hb hE.2.2.2.1 hS hown (hts _ hl) (fun x h => h) hd (hk2 hal H locs ls hW hS hL)
theorem x_ldcS_ok (hw : own = "ShadeNames$Kind") (hd : decode cc pc = .ok (.ldc 9, 2)) : xOK l cc own nL d mc ini pc (x_push (.ref 1002) 2) := by
  rintro p e R s m args below meth c Q D cA ad b0 ⟨hx, hb, hml, hown, hts, hK, hAd, hbs, hE, hfr, hlo, hce, hsl⟩ hi lv st al σ o ho hk2
  cases ho
  intro hal H locs ls hW hS hL
  subst hw
  exact va_ldcS hx hb hown hE.2.2.2.2.1 hd (hk2 hal H locs ls hW hS hL)
theorem x_tald_ok (hd : decode cc pc = .ok (.iaload, 1)) : xOK l cc own nL d mc ini pc x_tald := by
  rintro p e R s m args below meth c Q D cA ad b0 ⟨hx, hb, hml, hown, hts, hK, hAd, hbs, hE, hfr, hlo, hce, hsl⟩ hi lv st al σ o ho hk2
  simp only [x_tald] at ho
  split at ho
  · split at ho
    · rename_i i c0 st0 hcond
      cases ho
      intro hal H locs ls hW hS hL
      obtain ⟨rfl, hin⟩ := hcond
      exact va_ti (N := 7) hx hb hE.2.2.1.2.1 hS (show vp_in i 7 from hin) rfl hd (hk2 hal H locs ls hW hS hL)
    · cases ho
  · cases ho
theorem x_tbald_ok (hd : decode cc pc = .ok (.baload, 1)) : xOK l cc own nL d mc ini pc x_tbald := by
  rintro p e R s m args below meth c Q D cA ad b0 ⟨hx, hb, hml, hown, hts, hK, hAd, hbs, hE, hfr, hlo, hce, hsl⟩ hi lv st al σ o ho hk2
  simp only [x_tbald] at ho
  split at ho
  · split at ho
    · rename_i i c0 st0 hcond
      cases ho
      intro hal H locs ls hW hS hL
      obtain ⟨rfl, hin⟩ := hcond
      exact va_tb (N := 6) hx hb hE.2.2.2.2.2.2.2.2 hS (show vp_in i 6 from hin) rfl hd (hk2 hal H locs ls hW hS hL)
    · cases ho
  · cases ho
theorem x_tblen_ok (hd : decode cc pc = .ok (.arraylength, 1)) : xOK l cc own nL d mc ini pc x_tblen := by
  rintro p e R s m args below meth c Q D cA ad b0 ⟨hx, hb, hml, hown, hts, hK, hAd, hbs, hE, hfr, hlo, hce, hsl⟩ hi lv st al σ o ho hk2
  simp only [x_tblen] at ho
  split at ho
  · split at ho
    · rename_i c0 st0 hcond
      cases ho
      intro hal H locs ls hW hS hL
      subst hcond
      exact va_tlen (N := 6) hx hb hE.2.2.2.2.2.2.2.2 hS (v := 6) rfl hd (hk2 hal H locs ls hW hS hL)
    · cases ho
  · cases ho
theorem x_strV_ok {idx : Nat} (hl : Cond.fieldLink own idx "java/lang/String" "value" "[B" ∈ xTB) (hd : decode cc pc = .ok (.getfield idx, 3)) : xOK l cc own nL d mc ini pc x_strV := by
  rintro p e R s m args below meth c Q D cA ad b0 ⟨hx, hb, hml, hown, hts, hK, hAd, hbs, hE, hfr, hlo, hce, hsl⟩ hi lv st al σ o ho hk2
  simp only [x_strV] at ho
  split at ho
  · split at ho
    · rename_i c0 st0 hcond
      cases ho
      intro hal H locs ls hW hS hL
      subst hcond
      exact vk_getf hx hb hE.2.2.2.2.2.2.2.1 hS hown (hts _ hl) (fun x h => h) hd (hk2 hal H locs ls hW hS hL)
    · cases ho
  · cases ho
theorem x_strC_ok {idx : Nat} (hl : Cond.fieldLink own idx "java/lang/String" "coder" "B" ∈ xTB) (hd : decode cc pc = .ok (.getfield idx, 3)) : xOK l cc own nL d mc ini pc x_strC := by
  rintro p e R s m args below meth c Q D cA ad b0 ⟨hx, hb, hml, hown, hts, hK, hAd, hbs, hE, hfr, hlo, hce, hsl⟩ hi lv st al σ o ho hk2
  simp only [x_strC] at ho
  split at ho
  · split at ho
    · rename_i c0 st0 hcond
      cases ho
      intro hal H locs ls hW hS hL
      subst hcond
      exact vk_getf hx hb hE.2.2.2.2.2.2.1 hS hown (hts _ hl) (fun x h => h) hd (hk2 hal H locs ls hW hS hL)
    · cases ho
  · cases ho
theorem x_callStr_ok {idx : Nat} {y : MethodName} {b : ByteArray} {maxL : Nat} {ret : Option FieldType} {d' ar n : Nat} {f : List Value → xS → Option xR} (hM : xSound l y b maxL ret d' 0 f) (hcode : Cond.code y b maxL ret ∈ xTB) (hlink : Cond.methodLink own idx y ∈ xTB) (hinst : Cond.instanceMethod y ∈ xTB) (hsel : Cond.selects "java/lang/String" y y ∈ xTB) (hini : Cond.initialized y.cls ∈ xTB)
    (hy : y.cls ≠ "java/lang/invoke/MethodHandle" ∧ y.cls ≠ "java/lang/invoke/VarHandle" ∧ (parseMethodDescriptor y.desc).map (fun d => d.parameters.length) = some n) (har : ar = n + 1) (hdd : d' < d) (hmx : maxL ≤ 20) (hd : decode cc pc = .ok (.invokevirtual idx, 3)) : xOK l cc own nL d mc ini pc (x_callStr ar f) := by
  rintro p e R s m args below meth c Q D cA ad b0 ⟨hx, hb, hml, hown, hts, hK, hAd, hbs, hE, hfr, hlo, hce, hsl⟩ hi lv st al σ o ho hk2
  simp only [x_callStr] at ho
  split at ho
  · rename_i c0 As hst
    split at ho
    · rename_i hkd
      simp only [x_call] at ho
      split at ho
      · rename_i hcond
        split at ho
        · rename_i r hf
          cases ho
          subst hkd
          intro hal H locs ls hW hS hL
          have hW : xW D cA ad b0 s σ H := hW
          have hal : al ≤ mc := hal
          show W p l e R s m args below meth c H locs (mc - al) (2000 * (mc - al)) Q (F0 m pc ls (st.map (xv ad)))
          have hst2 : st = As.reverse ++ .ref 1002 :: st.drop ar := by
            have h1 : st.take ar = As.reverse ++ [.ref 1002] := by rw [← List.reverse_reverse (st.take ar), hst]; simp
            rw [← List.singleton_append (l := st.drop ar), ← List.append_assoc, ← h1, List.take_append_drop]
          have hlen : As.length = n := by
            have h1 := congrArg List.length hst
            simp at h1
            omega
          rw [hst] at hf
          obtain ⟨cellB, g1, g2, g3, -⟩ := hE.2.2.2.2.2.1.kept hS.2.1
          refine x_after (rest := (st.drop ar).map (xv ad)) (va_runV (C := "java/lang/String") (b := ad 1002) (As := As.map (xv ad)) ⟨hx, hb, hml, hown, hts⟩ (hM D cA ad b0 _ σ r hf) ⟨callB_of n hts (xTB_goodIn hcode) rfl rfl rfl (hts _ hini) (hts _ hlink) hy ⟨by show d' + 1 ≤ _; omega, by show 8 + (maxL + 11) + 40 * d' ≤ _; omega⟩, hts _ hinst, hts _ hsel⟩
            ⟨xPc.blind, ⟨cellB, g1, g2, g3⟩, fun U hU hWm => ⟨rfl, by rw [hU]; exact hW.moved hWm.alike, va_K.moved hWm.alike hK, hAd, hE.go hWm (fun q h1 h2 => by rw [hU]; exact hS.2.1 q h1 h2)⟩⟩ rfl (by simp; omega) hL.1 (by show st.map (xv ad) = _; exact (congrArg (List.map (xv ad)) hst2).trans (by simp [xv])) (lv_room (x_rest hcond.2.2)) hd ⟨by omega, by omega⟩) hS (fun H1 locs1 hW1 hS1 => ?_)
          have h1 := hk2 (by show al - 0 ≤ mc; omega) H1 locs1 ls hW1 hS1 hL
          rw [x_opt]
          simpa only [List.map_append, Nat.sub_zero, Nat.add_zero, Nat.mul_zero] using h1
        · cases ho
      · cases ho
    · cases ho
  · cases ho
end XEXT
/-! from the run of a table to the method's contract -/
def xin : List Value → List Value
  | [] => []
  | v :: t => if v.category = 2 then v :: .null :: xin t else v :: xin t
def xlin (As : List Value) (nL : Nat) : List Value := xin As ++ List.replicate (nL - (xin As).length) .null
theorem xin_mem (ad : Nat → Nat) : ∀ (As : List Value) (k i : Nat) (v : Value), (xin As)[i]? = some v → xk v = true → (k + i, xv ad v) ∈ lv_args k (As.map (xv ad))
  | [], k, i, v, h, _ => by simp [xin] at h
  | w :: t, k, i, v, h, hk => by
    simp only [xin] at h
    show _ ∈ (k, xv ad w) :: lv_args (if (xv ad w).category = 2 then k + 2 else k + 1) (t.map (xv ad))
    rw [xv_cat]
    split at h
    · rename_i hc
      rw [if_pos hc]
      match i, h with
      | 0, h => simp at h; subst h; exact List.mem_cons_self
      | 1, h => simp at h; subst h; simp [xk] at hk
      | j + 2, h =>
        simp at h
        have := xin_mem ad t (k + 2) j v h hk
        rw [show k + (j + 2) = k + 2 + j by omega]
        exact List.mem_cons_of_mem _ this
    · rename_i hc
      rw [if_neg hc]
      match i, h with
      | 0, h => simp at h; subst h; exact List.mem_cons_self
      | j + 1, h =>
        simp at h
        have := xin_mem ad t (k + 1) j v h hk
        rw [show k + (j + 1) = k + 1 + j by omega]
        exact List.mem_cons_of_mem _ this
theorem xin_len (ad : Nat → Nat) : ∀ As : List Value, (xin As).length = (lg_sl (As.map (xv ad))).length
  | [] => rfl
  | w :: t => by
    have ih := xin_len ad t
    simp only [xin, lg_sl, List.map_cons, List.flatMap_cons, List.length_append, xv_cat] at ih ⊢
    split <;> simp [ih] <;> omega
def xret (ret : Option FieldType) (r : Option Value) : Prop := match ret, r with
  | none, none => True
  | some .int, some (.int _) => True
  | some .long, some (.long _) => True
  | some .boolean, some (.int v) => v = 0 ∨ v = 1
  | some .char, some (.int v) => narrow .char (.int v) = .int v
  | some .byte, some (.int v) => narrow .byte (.int v) = .int v
  | some (.object _), some (.ref _) => True
  | _, _ => False
theorem x_met {l : Launch} {y : MethodName} {b : ByteArray} {maxL : Nat} {ret : Option FieldType} {d mc : Nat} {tab : List (Nat × xO)} {f : List Value → xS → Option xR} (hy : plainName y.cls = true) (ht : ∀ q ∈ tab, xOK l b y.cls maxL d mc (y.name = "<init>") q.1 q.2)
    (hf : ∀ (As : List Value) (σ : xS) (r : xR), f As σ = some r → (xin As).length ≤ maxL ∧ xret ret r.1 ∧ ∃ n, xrun tab n (0, xlin As maxL, [], mc, σ) = some r) : xSound l y b maxL ret d mc f := by
  intro D cA ad b0 As σ r hr
  obtain ⟨hlen, hret, n, hn⟩ := hf As σ r hr
  refine Met.ofW (cc := b) (maxL := maxL) (ret := ret) hy rfl ?_
  intro p e s m args below meth c s₁ B hml hv
  obtain ⟨rfl, hW, hK, hAd, hE⟩ := hv
  have hx := B.exec
  have hb := B.bytes
  have hrt := B.returns
  have hts0 := atoms_spec (ws := Cond.code y b maxL ret :: xTB) B.pre
  have hts : ∀ w ∈ xTB, w.before (As.map (xv ad)).toArray s = true := fun w h => hts0 w (List.mem_cons_of_mem _ h)
  have hown : s.vm.findClass y.cls = some m.cls := findClass_of_methodNamed B.named
  have hlocks := B.notSynchronized
  have hname : meth.name = y.name := (name_of_methodNamed B.named B.method).1
  have hl := lv_entry (As.map (xv ad)) (n := maxL) (by rw [← xin_len ad]; exact hlen)
  rw [lg_entry_eq]
  generalize (lg_sl (As.map (xv ad)) ++ List.replicate (maxL - (lg_sl (As.map (xv ad))).length) Slot.unset).toArray = ls at hl ⊢
  have hL : xL ad ls maxL (xlin As maxL) := by
    refine ⟨hl.1, hl.2.1, fun i v hi hk => ?_⟩
    unfold xlin at hi
    by_cases hlt : i < (xin As).length
    · rw [List.getElem?_append_left hlt] at hi
      have := hl.2.2 _ (xin_mem ad As 0 i v hi hk)
      simpa using this
    · rw [List.getElem?_append_right (by omega)] at hi
      have := List.eq_of_mem_replicate (List.mem_of_getElem? hi)
      subst this
      simp [xk] at hk
  have C : xC p (headSpec (Cond.code y b maxL ret :: xTB) { frames := d, cells := mc, slots := 2000 * mc, locals := 40 * d }).room s m (As.map (xv ad)).toArray c b y.cls maxL d mc D cA ad b0 := ⟨hx, hb, hml, hown, hts, hK, hAd, by rw [hW.1]; omega, hE, Nat.le_refl d, Nat.le_refl _, Nat.le_refl mc, Nat.le_refl _⟩
  have hJ := x_sound (l := l) (e := e) (below := below) (meth := meth) (Q := MQ below (xQc D cA ad b0 r) (As.map (xv ad)).toArray s mc (2000 * mc) (fun q => b0 ≤ q)) ht C (fun h => by rw [hname]; exact h) n _ r hn (by
    intro H locs ls pc al hal hdec hW2 hS2
    refine W.widen (k := mc) (n := 2000 * mc) (by omega) (by omega) ?_
    have hQ : ∀ t : State, t.heap = H → s.WarmedH t.vm → xQc D cA ad b0 r (As.map (xv ad)).toArray s (.returned (r.1.map (xv ad))) t := fun t ht2 hWm => ⟨rfl, by rw [ht2]; exact hW2.moved hWm.alike, hS2.F ht2⟩
    obtain ⟨rv, rσ⟩ := r
    match ret, rv, hret, hdec, hQ, hrt with
    | none, none, _, hdec, hQ, hrt => exact W.vret hx hb hrt hQ hS2.2.2 hdec
    | some .int, some (.int v), _, hdec, hQ, hrt => exact W.iret hx hb hrt hQ hS2.2.2 hdec
    | some .long, some (.long v), _, hdec, hQ, hrt => exact W.lret hx hb hrt hQ hS2.2.2 hdec
    | some .boolean, some (.int v), h, hdec, hQ, hrt => exact W.zret hx hb hrt (by rcases h with h | h <;> rw [h] <;> decide) hQ hS2.2.2 hdec
    | some .char, some (.int v), h, hdec, hQ, hrt => exact W.zret hx hb hrt h hQ hS2.2.2 hdec
    | some .byte, some (.int v), h, hdec, hQ, hrt => exact W.zret hx hb hrt h hQ hS2.2.2 hdec
    | some (.object _), some (.ref a), _, hdec, hQ, hrt => exact W.aret hx hb hrt (Or.inl ⟨_, rfl⟩) (Or.inr ⟨_, rfl⟩) hQ hS2.2.2 hdec)
  have h1 := hJ (Nat.le_refl mc) s.heap [] ls hW va_S.rf hL
  have e0 : mc - mc = 0 := Nat.sub_self mc
  simp only [e0, Nat.mul_zero] at h1
  exact h1
