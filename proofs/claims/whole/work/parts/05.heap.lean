def xty (ci : Nat) : Nat → FieldType := match ci with
  | 0 => tyX0
  | 1 => tyX2
  | 2 => tyX3
  | 3 => tyX4
  | 4 => tyX5
  | 5 => tyX7
  | 6 => tyX8
  | _ => tyX9
theorem xl_0 : ∀ w ∈ u_ws RX0 TX0 2, w ∈ lw_tbl ∧ goodWord w = true := by decide +kernel
theorem xl_1 : ∀ w ∈ u_ws RX2 TX2 6, w ∈ lw_tbl ∧ goodWord w = true := by decide +kernel
theorem xl_2 : ∀ w ∈ u_ws RX3 TX3 2, w ∈ lw_tbl ∧ goodWord w = true := by decide +kernel
theorem xl_3 : ∀ w ∈ u_ws RX4 TX4 5, w ∈ lw_tbl ∧ goodWord w = true := by decide +kernel
theorem xl_4 : ∀ w ∈ u_ws RX5 TX5 2, w ∈ lw_tbl ∧ goodWord w = true := by decide +kernel
theorem xl_5 : ∀ w ∈ u_ws RX7 TX7 2, w ∈ lw_tbl ∧ goodWord w = true := by decide +kernel
theorem xl_6 : ∀ w ∈ u_ws RX8 TX8 13, w ∈ lw_tbl ∧ goodWord w = true := by decide +kernel
theorem xl_7 : ∀ w ∈ u_ws RX9 TX9 21, w ∈ lw_tbl ∧ goodWord w = true := by decide +kernel
/-- what a class's tables say, for all eight -/
theorem x_cls {ci : Nat} {C : String} {T : u_T} {N : Nat} (h : vwCl[ci]? = some (C, T, N)) : N = xnf ci ∧ (∀ w ∈ u_ws C T N, w ∈ xTB) ∧ (∀ k, k < N → parseFieldDescriptor (T k).2.2.1 = some (xty ci k)) ∧ (∀ a, a < N → ∀ b, b < N → a ≠ b → (T a).2.1 ≠ (T b).2.1) := by
  match ci, h with
  | 0, h => cases h; exact ⟨rfl, fun w hw => List.mem_filter.mpr (xl_0 w hw), tyX0_ok, nmX0⟩
  | 1, h => cases h; exact ⟨rfl, fun w hw => List.mem_filter.mpr (xl_1 w hw), tyX2_ok, nmX2⟩
  | 2, h => cases h; exact ⟨rfl, fun w hw => List.mem_filter.mpr (xl_2 w hw), tyX3_ok, nmX3⟩
  | 3, h => cases h; exact ⟨rfl, fun w hw => List.mem_filter.mpr (xl_3 w hw), tyX4_ok, nmX4⟩
  | 4, h => cases h; exact ⟨rfl, fun w hw => List.mem_filter.mpr (xl_4 w hw), tyX5_ok, nmX5⟩
  | 5, h => cases h; exact ⟨rfl, fun w hw => List.mem_filter.mpr (xl_5 w hw), tyX7_ok, nmX7⟩
  | 6, h => cases h; exact ⟨rfl, fun w hw => List.mem_filter.mpr (xl_6 w hw), tyX8_ok, nmX8⟩
  | 7, h => cases h; exact ⟨rfl, fun w hw => List.mem_filter.mpr (xl_7 w hw), tyX9_ok, nmX9⟩
  | n + 8, h => simp [vwCl] at h
theorem xW.upd {D : va_G} {cA : Nat → ClassId} {ad : Nat → Nat} {b0 : Nat} {U : State} {σ σ' : xS} {H H' : Heap} {c : Nat} (hA : xAd ad b0) (h : xW D cA ad b0 U σ H) (hk1 : 1 ≤ xKd σ c) (hk2 : xKd σ c ≤ 15) (e1 : xKd σ' = xKd σ) (e2 : xNn σ' = xNn σ) (e3 : xSz σ' = xSz σ) (e4 : ∀ a, a ≠ c → xRf σ' a = xRf σ a) (e5 : ∀ a, a ≠ c → xIn σ' a = xIn σ a) (e6 : ∀ a, a ≠ c → xLo σ' a = xLo σ a)
    (z : H'.size = H.size) (oq : ∀ q : Nat, q ≠ ad c → H'[q]? = H[q]?) (hc : xAt D cA ad σ' c H') : xW D cA ad b0 U σ' H' := by
  obtain ⟨w1, w2, w3, w4⟩ := h
  obtain ⟨c1, c2, -⟩ := w3 c hk1 hk2
  have hac : ad c = b0 + (c - 1) := hA c c1 (by omega)
  refine ⟨by rw [z, e3]; exact w1, by rw [e3]; exact w2, fun a h1 h2 => ?_, fun a h1 => ?_⟩
  · rw [e1] at h1 h2
    obtain ⟨a1, a2, a3⟩ := w3 a h1 h2
    refine ⟨a1, by rw [e3]; exact a2, ?_⟩
    by_cases hac2 : a = c
    · subst hac2; exact hc
    · have haa : ad a = b0 + (a - 1) := hA a a1 (by omega)
      exact (a3.same (by rw [e1]) (by rw [e2]) (e4 a hac2) (e5 a hac2) (e6 a hac2)).kept (oq _ (by omega))
  · rw [e1] at h1
    have hne : a ≠ c := fun q => by rw [q] at h1; omega
    obtain ⟨a1, a2⟩ := w4 a h1
    rw [e2, e5 a hne]
    exact ⟨a1, a2.kept (oq _ (by omega))⟩
theorem xW.lo {D : va_G} {cA : Nat → ClassId} {ad : Nat → Nat} {b0 : Nat} {U : State} {σ : xS} {H : Heap} {c : Nat} (hA : xAd ad b0) (h : xW D cA ad b0 U σ H) (hk1 : 1 ≤ xKd σ c) (hk2 : xKd σ c ≤ 15) : b0 ≤ ad c := by
  obtain ⟨w1, w2, w3, w4⟩ := h
  obtain ⟨c1, c2, -⟩ := w3 c hk1 hk2
  rw [hA c c1 (by omega)]
  omega
theorem xW.obj {D : va_G} {cA : Nat → ClassId} {ad : Nat → Nat} {b0 : Nat} {U : State} {σ : xS} {H : Heap} {c ci : Nat} (h : xW D cA ad b0 U σ H) (hk : xKd σ c = ci + 1) (hci : ci < 8) : t_OB (ad c) (D.1 ci) (xnf ci) (D.2 ci) H (xfv ad σ c ci) := by
  have := (h.2.2.1 c (by omega) (by omega)).2.2
  unfold xAt at this
  rw [if_pos (by omega), hk, Nat.add_sub_cancel] at this
  exact this
theorem xW.ari {D : va_G} {cA : Nat → ClassId} {ad : Nat → Nat} {b0 : Nat} {U : State} {σ : xS} {H : Heap} {c kd : Nat} (h : xW D cA ad b0 U σ H) (hk : xKd σ c = kd) (h1 : 9 ≤ kd) (h2 : kd ≤ 11) : H[ad c]? = some (arrV (cA kd) (xNn σ c) (fun j => .int (xIn σ c j))) := by
  have := (h.2.2.1 c (by omega) (by omega)).2.2
  unfold xAt at this
  rw [if_neg (by omega), if_pos (by omega), hk] at this
  exact this
theorem xW.arq {D : va_G} {cA : Nat → ClassId} {ad : Nat → Nat} {b0 : Nat} {U : State} {σ : xS} {H : Heap} {c kd : Nat} (h : xW D cA ad b0 U σ H) (hk : xKd σ c = kd) (h1 : 12 ≤ kd) (h2 : kd ≤ 15) : H[ad c]? = some (arrV (cA kd) (xNn σ c) (fun j => va_rf (xrf ad (xRf σ c j)))) := by
  have := (h.2.2.1 c (by omega) (by omega)).2.2
  unfold xAt at this
  rw [if_neg (by omega), if_neg (by omega), hk] at this
  exact this
def x_getI (ci k : Nat) : xO := fun (pc, lv, st, al, σ) => match st with
  | .ref c :: st => if xKd σ c = ci + 1 then some (.inl (pc + 3, lv, .int (xIn σ c k) :: st, al, σ)) else none
  | _ => none
def x_getL (ci k : Nat) : xO := fun (pc, lv, st, al, σ) => match st with
  | .ref c :: st => if xKd σ c = ci + 1 then some (.inl (pc + 3, lv, .long (xLo σ c k) :: st, al, σ)) else none
  | _ => none
def x_getR (ci k : Nat) : xO := fun (pc, lv, st, al, σ) => match st with
  | .ref c :: st => if xKd σ c = ci + 1 ∧ xRf σ c k ≠ 0 then some (.inl (pc + 3, lv, .ref (xRf σ c k) :: st, al, σ)) else none
  | _ => none
def x_putI (ci k : Nat) : xO := fun (pc, lv, st, al, σ) => match st with
  | .int x :: .ref c :: st => if xKd σ c = ci + 1 then some (.inl (pc + 3, lv, st, al, (σ.1, xup σ.2.1 c k x, σ.2.2))) else none
  | _ => none
def x_putZ (ci k : Nat) : xO := fun (pc, lv, st, al, σ) => match st with
  | .int x :: .ref c :: st => if xKd σ c = ci + 1 ∧ (x = 0 ∨ x = 1) then some (.inl (pc + 3, lv, st, al, (σ.1, xup σ.2.1 c k x, σ.2.2))) else none
  | _ => none
def x_putL (ci k : Nat) : xO := fun (pc, lv, st, al, σ) => match st with
  | .long x :: .ref c :: st => if xKd σ c = ci + 1 then some (.inl (pc + 3, lv, st, al, (σ.1, σ.2.1, xup σ.2.2 c k x))) else none
  | _ => none
def x_putR (ci k : Nat) : xO := fun (pc, lv, st, al, σ) => match st with
  | .ref r :: .ref c :: st => if xKd σ c = ci + 1 ∧ r ≠ 0 then some (.inl (pc + 3, lv, st, al, ((σ.1.1, σ.1.2.1, xup σ.1.2.2.1 c k r, σ.1.2.2.2), σ.2))) else none
  | _ => none
def x_iald : xO := fun (pc, lv, st, al, σ) => match st with
  | .int i :: .ref c :: st => if (xKd σ c = 10 ∨ xKd σ c = 16) ∧ ¬ (i < 0 ∨ xNn σ c ≤ i.toNatClampNeg) then some (.inl (pc + 1, lv, .int (xIn σ c i.toNatClampNeg) :: st, al, σ)) else none
  | _ => none
def x_bald : xO := fun (pc, lv, st, al, σ) => match st with
  | .int i :: .ref c :: st => if (xKd σ c = 9 ∨ xKd σ c = 11) ∧ ¬ (i < 0 ∨ xNn σ c ≤ i.toNatClampNeg) then some (.inl (pc + 1, lv, .int (xIn σ c i.toNatClampNeg) :: st, al, σ)) else none
  | _ => none
def x_aald : xO := fun (pc, lv, st, al, σ) => match st with
  | .int i :: .ref c :: st => if (12 ≤ xKd σ c ∧ xKd σ c ≤ 15) ∧ ¬ (i < 0 ∨ xNn σ c ≤ i.toNatClampNeg) ∧ xRf σ c i.toNatClampNeg ≠ 0 then some (.inl (pc + 1, lv, .ref (xRf σ c i.toNatClampNeg) :: st, al, σ)) else none
  | _ => none
def x_alen : xO := fun (pc, lv, st, al, σ) => match st with
  | .ref c :: st => if xKd σ c = 10 ∨ xKd σ c = 16 then some (.inl (pc + 1, lv, .int (Int32.ofNat (xNn σ c)) :: st, al, σ)) else none
  | _ => none
def x_iast : xO := fun (pc, lv, st, al, σ) => match st with
  | .int x :: .int i :: .ref c :: st => if xKd σ c = 10 ∧ ¬ (i < 0 ∨ xNn σ c ≤ i.toNatClampNeg) then some (.inl (pc + 1, lv, st, al, (σ.1, xup σ.2.1 c i.toNatClampNeg x, σ.2.2))) else none
  | _ => none
/-- a byte's place takes the byte, a boolean's only 0 or 1 -/
def x_bastB : xO := fun (pc, lv, st, al, σ) => match st with
  | .int x :: .int i :: .ref c :: st => if xKd σ c = 9 ∧ ¬ (i < 0 ∨ xNn σ c ≤ i.toNatClampNeg) then some (.inl (pc + 1, lv, st, al, (σ.1, xup σ.2.1 c i.toNatClampNeg x.toInt8.toInt32, σ.2.2))) else none
  | _ => none
def x_bastZ : xO := fun (pc, lv, st, al, σ) => match st with
  | .int x :: .int i :: .ref c :: st => if xKd σ c = 11 ∧ ¬ (i < 0 ∨ xNn σ c ≤ i.toNatClampNeg) ∧ (x = 0 ∨ x = 1) then some (.inl (pc + 1, lv, st, al, (σ.1, xup σ.2.1 c i.toNatClampNeg x, σ.2.2))) else none
  | _ => none
def x_qk : Nat → Nat
  | 12 => 2
  | 13 => 4
  | 14 => 5
  | 15 => 6
  | _ => 0
def x_aast : xO := fun (pc, lv, st, al, σ) => match st with
  | .ref v :: .int i :: .ref c :: st => if (12 ≤ xKd σ c ∧ xKd σ c ≤ 15) ∧ ¬ (i < 0 ∨ xNn σ c ≤ i.toNatClampNeg) ∧ xKd σ v = x_qk (xKd σ c) ∧ v ≠ 0 then some (.inl (pc + 1, lv, st, al, ((σ.1.1, σ.1.2.1, xup σ.1.2.2.1 c i.toNatClampNeg v, σ.1.2.2.2), σ.2))) else none
  | _ => none
section HEAP
variable {p : Program} {l : Launch} {e : Env} {R : Room} {s : State} {m : MethodId} {args : Array Value} {below : List Frame} {meth : Method} {c : Code} {H : Heap} {locs : List Loc} {cells slots : Nat} {Q : State → Prop}
variable {cc : ByteArray} {pc : Nat} {ls : Array Slot} {rest : List Value} {D : va_G} {cA : Nat → ClassId} {own : String}
theorem xr_get (hx : p.tables.exec = Jvm.exec) (hb : c.code = cc) (hown : s.vm.findClass own = some m.cls) (hts : ∀ w ∈ xTB, w.before args s = true) (hK : va_K D vwCl (xtys cA) s) {ci k idx : Nat} {C : String} {T : u_T} {N : Nat} (hc : vwCl[ci]? = some (C, T, N)) (hk : k < N) (hl : Cond.fieldLink own idx (T k).1 (T k).2.1 (T k).2.2.1 ∈ xTB) {a : Nat} {V : Nat → Value} (hO : t_OB a (D.1 ci) (xnf ci) (D.2 ci) H V) (hd : decode cc pc = .ok (.getfield idx, 3))
    (kk : W p l e R s m args below meth c H locs cells slots Q (F0 m (pc + 3) ls (V k :: rest))) : W p l e R s m args below meth c H locs cells slots Q (F0 m pc ls (.ref a :: rest)) := by
  obtain ⟨x1, x2, x3, x4⟩ := x_cls hc
  subst x1
  obtain ⟨cell, q1, q2, q3, q4⟩ := hO
  obtain ⟨hS, hfc, kC, hkC, hkind⟩ := hK.1 ci _ hc
  obtain ⟨cf, kf, fi, f, hi, hsl⟩ := hS k hk
  refine W.getf hx hb hown (hts _ hl) hi (u_facts hfc hkC (u_lays hts x2 hk) hi).1 q1 (by rw [q3]; exact fun h => by cases h) (v := V k) ?_ rfl rfl hd kk
  rw [hsl, q4 k hk]
theorem xr_put (hx : p.tables.exec = Jvm.exec) (hb : c.code = cc) (hown : s.vm.findClass own = some m.cls) (hts : ∀ w ∈ xTB, w.before args s = true) (hK : va_K D vwCl (xtys cA) s) {ci k idx : Nat} {C : String} {T : u_T} {N : Nat} (hc : vwCl[ci]? = some (C, T, N)) (hk : k < N) (hl : Cond.fieldLink own idx (T k).1 (T k).2.1 (T k).2.2.1 ∈ xTB) (hfin : (T k).2.2.2 = false ∨ ((T k).2.2.2 = true ∧ meth.name = "<init>" ∧ (T k).1 = own)) {a : Nat} {V : Nat → Value} (hO : t_OB a (D.1 ci) (xnf ci) (D.2 ci) H V) {v : Value} (hn : narrow (xty ci k) v = v) (hfit : fits (xty ci k) v = true) (hd : decode cc pc = .ok (.putfield idx, 3))
    (kk : ∀ (H1 : Heap) (i : Nat), t_OB a (D.1 ci) (xnf ci) (D.2 ci) H1 (updV V k v) → H1.size = H.size → (∀ q : Nat, q ≠ a → H1[q]? = H[q]?) → W p l e R s m args below meth c H1 (locs ++ [⟨a, i⟩]) cells slots Q (F0 m (pc + 3) ls rest)) : W p l e R s m args below meth c H locs cells slots Q (F0 m pc ls (v :: .ref a :: rest)) := by
  obtain ⟨x1, x2, x3, x4⟩ := x_cls hc
  subst x1
  have hap := va_apart (own := own) hts x2 (xty ci) x3 x4 hK hc
  obtain ⟨cell, q1, q2, q3, q4⟩ := hO
  obtain ⟨hS, hfc, kC, hkC, hkind⟩ := hK.1 ci _ hc
  obtain ⟨cf, kf, fi, f, hi, hsl⟩ := hS k hk
  have hlay := hts _ (x2 _ (u_in_lay hk))
  unfold u_lay at hlay
  have hst := (u_facts hfc hkC (u_lays hts x2 hk) hi).1
  rcases hfin with hfin | ⟨hfin, hin2, hdecl⟩
  · rw [if_neg (by rw [hfin]; decide)] at hlay
    have h6 := u_store hfc hkC hkind hlay hi (x3 k hk) hn hfit
    refine W.putK hx hb (f := f) ⟨hown, hts _ hl, ⟨_, _, _, hi⟩, hst⟩ (by rw [q2]; exact h6) q1 q3 (by rw [hsl]; exact k2_hasslot (q4 k hk)) rfl rfl hd fun H' e1 e2 e3 => ?_
    rw [hsl] at e1 ⊢
    exact kk H' _ ⟨_, e1, q2, q3, t_set q4 hap hk v⟩ e2 e3
  · rw [if_pos hfin] at hlay
    have hcf : m.cls = cf := by
      obtain ⟨_, _, c', _, _, _, -, -, hf', -, -, -, hown2, -⟩ := Cond.laysFinal_spec hlay
      have e1 : c' = cf := by have := hi.symm.trans hf'; simp at this; exact this.1.symm
      rw [hdecl] at hown2
      rw [← e1]; exact Option.some.inj (hown.symm.trans hown2)
    have h6 := u_fits hfc hkC hkind (Or.inr hlay) hi (x3 k hk) hn hfit
    refine W.putFinK hx hb hown (hts _ hl) hi hst hcf hin2 (by rw [q2]; exact h6) q1 q3 (by rw [hsl]; exact k2_hasslot (q4 k hk)) rfl rfl hd fun H' e1 e2 e3 => ?_
    rw [hsl] at e1 ⊢
    exact kk H' _ ⟨_, e1, q2, q3, t_set q4 hap hk v⟩ e2 e3
end HEAP
section HOPS
variable {l : Launch} {cc : ByteArray} {own : String} {nL d mc pc : Nat} {ini : Prop}
theorem x_getI_ok {ci k idx : Nat} {C : String} {T : u_T} {N : Nat} (hc : vwCl[ci]? = some (C, T, N)) (hk : k < N) (hf : xft ci k ≠ 1 ∧ xft ci k ≠ 2 ∧ ci < 8) (hl : Cond.fieldLink own idx (T k).1 (T k).2.1 (T k).2.2.1 ∈ xTB) (hd : decode cc pc = .ok (.getfield idx, 3)) : xOK l cc own nL d mc ini pc (x_getI ci k) := by
  rintro p e R s m args below meth c Q D cA ad b0 ⟨hx, hb, hml, hown, hts, hK, hAd, hbs, hE, hfr, hlo, hce, hsl⟩ hi lv st al σ o ho hk2
  simp only [x_getI] at ho
  split at ho
  · split at ho
    · cases ho
      intro hal H locs ls hW hS hL
      have hW : xW D cA ad b0 s σ H := hW
      refine xr_get hx hb hown hts hK hc hk hl (hW.obj (by assumption) hf.2.2) hd ?_
      have h1 := hk2 hal H locs ls hW hS hL
      unfold xfv
      rw [if_neg hf.1, if_neg hf.2.1]
      exact h1
    · cases ho
  · cases ho
theorem x_getL_ok {ci k idx : Nat} {C : String} {T : u_T} {N : Nat} (hc : vwCl[ci]? = some (C, T, N)) (hk : k < N) (hf : xft ci k = 1 ∧ ci < 8) (hl : Cond.fieldLink own idx (T k).1 (T k).2.1 (T k).2.2.1 ∈ xTB) (hd : decode cc pc = .ok (.getfield idx, 3)) : xOK l cc own nL d mc ini pc (x_getL ci k) := by
  rintro p e R s m args below meth c Q D cA ad b0 ⟨hx, hb, hml, hown, hts, hK, hAd, hbs, hE, hfr, hlo, hce, hsl⟩ hi lv st al σ o ho hk2
  simp only [x_getL] at ho
  split at ho
  · split at ho
    · cases ho
      intro hal H locs ls hW hS hL
      have hW : xW D cA ad b0 s σ H := hW
      refine xr_get hx hb hown hts hK hc hk hl (hW.obj (by assumption) hf.2) hd ?_
      have h1 := hk2 hal H locs ls hW hS hL
      unfold xfv
      rw [if_pos hf.1]
      exact h1
    · cases ho
  · cases ho
theorem x_getR_ok {ci k idx : Nat} {C : String} {T : u_T} {N : Nat} (hc : vwCl[ci]? = some (C, T, N)) (hk : k < N) (hf : xft ci k = 2 ∧ ci < 8) (hl : Cond.fieldLink own idx (T k).1 (T k).2.1 (T k).2.2.1 ∈ xTB) (hd : decode cc pc = .ok (.getfield idx, 3)) : xOK l cc own nL d mc ini pc (x_getR ci k) := by
  rintro p e R s m args below meth c Q D cA ad b0 ⟨hx, hb, hml, hown, hts, hK, hAd, hbs, hE, hfr, hlo, hce, hsl⟩ hi lv st al σ o ho hk2
  simp only [x_getR] at ho
  split at ho
  · split at ho
    · rename_i hcond
      cases ho
      intro hal H locs ls hW hS hL
      have hW : xW D cA ad b0 s σ H := hW
      refine xr_get hx hb hown hts hK hc hk hl (hW.obj hcond.1 hf.2) hd ?_
      have h1 := hk2 hal H locs ls hW hS hL
      unfold xfv xrf
      rw [if_neg (by rw [hf.1]; decide), if_pos hf.1, if_neg hcond.2]
      exact h1
    · cases ho
  · cases ho
theorem xfv_updI {ad : Nat → Nat} {σ : xS} {c ci k : Nat} {x : Int32} (hf : xft ci k ≠ 1 ∧ xft ci k ≠ 2) (j : Nat) : updV (xfv ad σ c ci) k (.int x) j = xfv ad (σ.1, xup σ.2.1 c k x, σ.2.2) c ci j := by
  unfold updV xfv
  by_cases hj : j = k
  · subst hj
    rw [if_pos rfl, if_neg hf.1, if_neg hf.2]
    simp [xup, xIn, xLo, xRf]
  · rw [if_neg hj]
    simp [xup, hj, xIn, xLo, xRf]
theorem xfv_updL {ad : Nat → Nat} {σ : xS} {c ci k : Nat} {x : Int64} (hf : xft ci k = 1) (j : Nat) : updV (xfv ad σ c ci) k (.long x) j = xfv ad (σ.1, σ.2.1, xup σ.2.2 c k x) c ci j := by
  unfold updV xfv
  by_cases hj : j = k
  · subst hj
    rw [if_pos rfl, if_pos hf]
    simp [xup, xIn, xLo, xRf]
  · rw [if_neg hj]
    simp [xup, hj, xIn, xLo, xRf]
theorem xfv_updR {ad : Nat → Nat} {σ : xS} {c ci k r : Nat} (hf : xft ci k = 2) (hr : r ≠ 0) (j : Nat) : updV (xfv ad σ c ci) k (.ref (ad r)) j = xfv ad ((σ.1.1, σ.1.2.1, xup σ.1.2.2.1 c k r, σ.1.2.2.2), σ.2) c ci j := by
  unfold updV xfv
  by_cases hj : j = k
  · subst hj
    rw [if_pos rfl, if_neg (by rw [hf]; decide), if_pos hf]
    simp [xup, xrf, hr, va_rf, xRf]
  · rw [if_neg hj]
    simp [xup, hj, xIn, xLo, xRf]
theorem xAt_obj {D : va_G} {cA : Nat → ClassId} {ad : Nat → Nat} {σ : xS} {c ci : Nat} {H : Heap} (hk : xKd σ c = ci + 1) (hci : ci < 8) (h : t_OB (ad c) (D.1 ci) (xnf ci) (D.2 ci) H (xfv ad σ c ci)) : xAt D cA ad σ c H := by
  unfold xAt
  rw [if_pos (by omega), hk, Nat.add_sub_cancel]
  exact h
theorem xAt_ari {D : va_G} {cA : Nat → ClassId} {ad : Nat → Nat} {σ : xS} {c kd : Nat} {H : Heap} (hk : xKd σ c = kd) (h1 : 9 ≤ kd) (h2 : kd ≤ 11) (h : H[ad c]? = some (arrV (cA kd) (xNn σ c) (fun j => .int (xIn σ c j)))) : xAt D cA ad σ c H := by
  unfold xAt
  rw [if_neg (by omega), if_pos (by omega), hk]
  exact h
theorem xAt_arq {D : va_G} {cA : Nat → ClassId} {ad : Nat → Nat} {σ : xS} {c kd : Nat} {H : Heap} (hk : xKd σ c = kd) (h1 : 12 ≤ kd) (h2 : kd ≤ 15) (h : H[ad c]? = some (arrV (cA kd) (xNn σ c) (fun j => va_rf (xrf ad (xRf σ c j))))) : xAt D cA ad σ c H := by
  unfold xAt
  rw [if_neg (by omega), if_neg (by omega), hk]
  exact h
theorem x_putI_ok {ci k idx : Nat} {C : String} {T : u_T} {N : Nat} (hc : vwCl[ci]? = some (C, T, N)) (hk : k < N) (hf : (xft ci k ≠ 1 ∧ xft ci k ≠ 2) ∧ ci < 8) (hty : xty ci k = .int) (hl : Cond.fieldLink own idx (T k).1 (T k).2.1 (T k).2.2.1 ∈ xTB) (hfin : (T k).2.2.2 = false) (hd : decode cc pc = .ok (.putfield idx, 3)) : xOK l cc own nL d mc ini pc (x_putI ci k) := by
  rintro p e R s m args below meth c Q D cA ad b0 ⟨hx, hb, hml, hown, hts, hK, hAd, hbs, hE, hfr, hlo, hce, hsl⟩ hi lv st al σ o ho hk2
  simp only [x_putI] at ho
  split at ho
  · split at ho
    · rename_i x c0 st0 hkd
      cases ho
      intro hal H locs ls hW hS hL
      have hW : xW D cA ad b0 s σ H := hW
      refine xr_put (v := .int x) hx hb hown hts hK hc hk hl (Or.inl hfin) (hW.obj hkd hf.2) (by rw [hty]; rfl) (by rw [hty]; rfl) hd (fun H1 i h1 z oq => ?_)
      exact hk2 hal H1 _ ls (xW.upd (c := c0) hAd hW (by omega) (by omega) rfl rfl rfl (fun _ _ => rfl) (fun a ha => xup_ne _ _ _ ha) (fun _ _ => rfl) z oq (xAt_obj hkd hf.2 (h1.to (fun j _ => xfv_updI hf.1 j)))) (hS.put z oq (hW.lo hAd (by omega) (by omega))) hL
    · cases ho
  · cases ho
theorem x_putZ_ok {ci k idx : Nat} {C : String} {T : u_T} {N : Nat} (hc : vwCl[ci]? = some (C, T, N)) (hk : k < N) (hf : (xft ci k ≠ 1 ∧ xft ci k ≠ 2) ∧ ci < 8) (hty : xty ci k = .boolean) (hl : Cond.fieldLink own idx (T k).1 (T k).2.1 (T k).2.2.1 ∈ xTB) (hfin : (T k).2.2.2 = false) (hd : decode cc pc = .ok (.putfield idx, 3)) : xOK l cc own nL d mc ini pc (x_putZ ci k) := by
  rintro p e R s m args below meth c Q D cA ad b0 ⟨hx, hb, hml, hown, hts, hK, hAd, hbs, hE, hfr, hlo, hce, hsl⟩ hi lv st al σ o ho hk2
  simp only [x_putZ] at ho
  split at ho
  · split at ho
    · rename_i x c0 st0 hkd
      cases ho
      intro hal H locs ls hW hS hL
      have hW : xW D cA ad b0 s σ H := hW
      refine xr_put (v := .int x) hx hb hown hts hK hc hk hl (Or.inl hfin) (hW.obj hkd.1 hf.2) (by rw [hty]; rcases hkd.2 with h | h <;> rw [h] <;> decide) (by rw [hty]; rcases hkd.2 with h | h <;> rw [h] <;> decide) hd (fun H1 i h1 z oq => ?_)
      exact hk2 hal H1 _ ls (xW.upd (c := c0) hAd hW (by omega) (by omega) rfl rfl rfl (fun _ _ => rfl) (fun a ha => xup_ne _ _ _ ha) (fun _ _ => rfl) z oq (xAt_obj hkd.1 hf.2 (h1.to (fun j _ => xfv_updI hf.1 j)))) (hS.put z oq (hW.lo hAd (by omega) (by omega))) hL
    · cases ho
  · cases ho
theorem x_putL_ok {ci k idx : Nat} {C : String} {T : u_T} {N : Nat} (hc : vwCl[ci]? = some (C, T, N)) (hk : k < N) (hf : xft ci k = 1 ∧ ci < 8) (hty : xty ci k = .long) (hl : Cond.fieldLink own idx (T k).1 (T k).2.1 (T k).2.2.1 ∈ xTB) (hfin : (T k).2.2.2 = false) (hd : decode cc pc = .ok (.putfield idx, 3)) : xOK l cc own nL d mc ini pc (x_putL ci k) := by
  rintro p e R s m args below meth c Q D cA ad b0 ⟨hx, hb, hml, hown, hts, hK, hAd, hbs, hE, hfr, hlo, hce, hsl⟩ hi lv st al σ o ho hk2
  simp only [x_putL] at ho
  split at ho
  · split at ho
    · rename_i x c0 st0 hkd
      cases ho
      intro hal H locs ls hW hS hL
      have hW : xW D cA ad b0 s σ H := hW
      refine xr_put (v := .long x) hx hb hown hts hK hc hk hl (Or.inl hfin) (hW.obj hkd hf.2) (by rw [hty]; rfl) (by rw [hty]; rfl) hd (fun H1 i h1 z oq => ?_)
      exact hk2 hal H1 _ ls (xW.upd (c := c0) hAd hW (by omega) (by omega) rfl rfl rfl (fun _ _ => rfl) (fun _ _ => rfl) (fun a ha => xup_ne _ _ _ ha) z oq (xAt_obj hkd hf.2 (h1.to (fun j _ => xfv_updL hf.1 j)))) (hS.put z oq (hW.lo hAd (by omega) (by omega))) hL
    · cases ho
  · cases ho
theorem x_putR_ok {ci k idx : Nat} {C : String} {T : u_T} {N : Nat} (hc : vwCl[ci]? = some (C, T, N)) (hk : k < N) (hf : xft ci k = 2 ∧ ci < 8) (hty : (∃ n, xty ci k = .object n) ∨ ∃ t, xty ci k = .array t) (hl : Cond.fieldLink own idx (T k).1 (T k).2.1 (T k).2.2.1 ∈ xTB) (hfin : (T k).2.2.2 = true ∧ ini ∧ (T k).1 = own) (hd : decode cc pc = .ok (.putfield idx, 3)) : xOK l cc own nL d mc ini pc (x_putR ci k) := by
  rintro p e R s m args below meth c Q D cA ad b0 ⟨hx, hb, hml, hown, hts, hK, hAd, hbs, hE, hfr, hlo, hce, hsl⟩ hi lv st al σ o ho hk2
  simp only [x_putR] at ho
  split at ho
  · split at ho
    · rename_i r c0 st0 hkd
      cases ho
      intro hal H locs ls hW hS hL
      have hW : xW D cA ad b0 s σ H := hW
      refine xr_put (v := .ref (ad r)) hx hb hown hts hK hc hk hl (Or.inr ⟨hfin.1, hi hfin.2.1, hfin.2.2⟩) (hW.obj hkd.1 hf.2) (by rcases hty with ⟨n, h⟩ | ⟨t, h⟩ <;> rw [h] <;> rfl) (by rcases hty with ⟨n, h⟩ | ⟨t, h⟩ <;> rw [h] <;> rfl) hd (fun H1 i h1 z oq => ?_)
      exact hk2 hal H1 _ ls (xW.upd (c := c0) hAd hW (by omega) (by omega) rfl rfl rfl (fun a ha => xup_ne _ _ _ ha) (fun _ _ => rfl) (fun _ _ => rfl) z oq (xAt_obj hkd.1 hf.2 (h1.to (fun j _ => xfv_updR hf.1 hkd.2 j)))) (hS.put z oq (hW.lo hAd (by omega) (by omega))) hL
    · cases ho
  · cases ho
theorem xK_ty {D : va_G} {cA : Nat → ClassId} {s : State} (hK : va_K D vwCl (xtys cA) s) : ArrOfT s (cA 9) .byte ∧ ArrOfT s (cA 10) .int ∧ ArrOfT s (cA 11) .boolean := ⟨(hK.2 0 _ rfl).1, (hK.2 1 _ rfl).1, (hK.2 2 _ rfl).1⟩
theorem x_iald_ok (hd : decode cc pc = .ok (.iaload, 1)) : xOK l cc own nL d mc ini pc x_iald := by
  rintro p e R s m args below meth c Q D cA ad b0 ⟨hx, hb, hml, hown, hts, hK, hAd, hbs, hE, hfr, hlo, hce, hsl⟩ hi lv st al σ o ho hk2
  simp only [x_iald] at ho
  split at ho
  · split at ho
    · rename_i i c0 st0 hcond
      cases ho
      intro hal H locs ls hW hS hL
      have hW : xW D cA ad b0 s σ H := hW
      have h1 := hk2 hal H locs ls hW hS hL
      have hlt : i.toNatClampNeg < xNn σ c0 := Nat.not_le.mp fun q => hcond.2 (Or.inr q)
      rcases hcond.1 with hkd | hkd
      · exact W.iald (v := .int (xIn σ c0 i.toNatClampNeg)) hx hb (hW.ari hkd (by decide) (by decide)) ((xK_ty hK).2.1 _ _) (fun q => by cases q) (by rw [arrV_size]; exact hcond.2) (by rw [arrV_read _ _ hlt]) rfl rfl hd h1
      · obtain ⟨scr, g1, g2, g3, g4, g5⟩ := (hW.2.2.2 c0 hkd).2
        exact W.iald (v := .int (xIn σ c0 i.toNatClampNeg)) hx hb g1 g2 g3 (by rw [g4]; exact hcond.2) (g5 _ hlt) rfl rfl hd h1
    · cases ho
  · cases ho
theorem x_bald_ok (hd : decode cc pc = .ok (.baload, 1)) : xOK l cc own nL d mc ini pc x_bald := by
  rintro p e R s m args below meth c Q D cA ad b0 ⟨hx, hb, hml, hown, hts, hK, hAd, hbs, hE, hfr, hlo, hce, hsl⟩ hi lv st al σ o ho hk2
  simp only [x_bald] at ho
  split at ho
  · split at ho
    · rename_i i c0 st0 hcond
      cases ho
      intro hal H locs ls hW hS hL
      have hW : xW D cA ad b0 s σ H := hW
      have h1 := hk2 hal H locs ls hW hS hL
      have hlt : i.toNatClampNeg < xNn σ c0 := Nat.not_le.mp fun q => hcond.2 (Or.inr q)
      have hK1 : va_K D vwCl [(cA 9, .byte), (cA 11, .boolean)] s := hK.sub [0, 2] rfl
      rcases hcond.1 with hkd | hkd
      · exact va_bald (D := D) (cl := vwCl) (ws := [(ad c0, .inl (cA 9, xNn σ c0, .inl (xIn σ c0)))]) hx hb hK1 (fun k q hq => by
          have : k = 0 := by have := (List.getElem?_eq_some_iff.mp hq).1; simpa using this
          subst this; cases hq; exact hW.ari hkd (by decide) (by decide)) 0 0 rfl rfl (show vp_in i _ from hcond.2) hd h1
      · exact va_zald (D := D) (cl := vwCl) (ws := [(ad c0, .inl (cA 11, xNn σ c0, .inl (xIn σ c0)))]) hx hb hK1 (fun k q hq => by
          have : k = 0 := by have := (List.getElem?_eq_some_iff.mp hq).1; simpa using this
          subst this; cases hq; exact hW.ari hkd (by decide) (by decide)) 0 1 rfl rfl (show vp_in i _ from hcond.2) hd h1
    · cases ho
  · cases ho
theorem x_alen_ok (hd : decode cc pc = .ok (.arraylength, 1)) : xOK l cc own nL d mc ini pc x_alen := by
  rintro p e R s m args below meth c Q D cA ad b0 ⟨hx, hb, hml, hown, hts, hK, hAd, hbs, hE, hfr, hlo, hce, hsl⟩ hi lv st al σ o ho hk2
  simp only [x_alen] at ho
  split at ho
  · split at ho
    · rename_i c0 st0 hcond
      cases ho
      intro hal H locs ls hW hS hL
      have hW : xW D cA ad b0 s σ H := hW
      have h1 := hk2 hal H locs ls hW hS hL
      rcases hcond with hkd | hkd
      · exact W.alen (n := Int32.ofNat (xNn σ c0)) hx hb (hW.ari hkd (by decide) (by decide)) ((xK_ty hK).2.1 _ _) (by rw [arrV_size] <;> rfl) rfl rfl hd h1
      · obtain ⟨scr, g1, g2, g3, g4, g5⟩ := (hW.2.2.2 c0 hkd).2
        exact W.alen (n := Int32.ofNat (xNn σ c0)) hx hb g1 g2 (by rw [g4] <;> rfl) rfl rfl hd h1
    · cases ho
  · cases ho
theorem x_aald_ok (hd : decode cc pc = .ok (.aaload, 1)) : xOK l cc own nL d mc ini pc x_aald := by
  rintro p e R s m args below meth c Q D cA ad b0 ⟨hx, hb, hml, hown, hts, hK, hAd, hbs, hE, hfr, hlo, hce, hsl⟩ hi lv st al σ o ho hk2
  simp only [x_aald] at ho
  split at ho
  · split at ho
    · rename_i i c0 st0 hcond
      cases ho
      intro hal H locs ls hW hS hL
      have hW : xW D cA ad b0 s σ H := hW
      have h1 := hk2 hal H locs ls hW hS hL
      have hlt : i.toNatClampNeg < xNn σ c0 := Nat.not_le.mp fun q => hcond.2.1 (Or.inr q)
      have hA := hW.arq (c := c0) rfl hcond.1.1 hcond.1.2
      have hv : va_rf (xrf ad (xRf σ c0 i.toNatClampNeg)) = .ref (ad (xRf σ c0 i.toNatClampNeg)) := by simp [xrf, hcond.2.2, va_rf]
      have key : ∀ (C : String), ArrOfT s (cA (xKd σ c0)) (.object C) → W p l e R s m args below meth c H locs (mc - al) (2000 * (mc - al)) Q (F0 m pc ls (.int i :: .ref (ad c0) :: st0.map (xv ad))) := fun C hC =>
        W.aald (v := .ref (ad (xRf σ c0 i.toNatClampNeg))) (ty := .object C) hx hb hA (hC _ _) rfl (fun q => by cases q) (by rw [arrV_size]; exact hcond.2.1) (by rw [arrV_read _ _ hlt, hv]) rfl rfl hd h1
      have : xKd σ c0 = 12 ∨ xKd σ c0 = 13 ∨ xKd σ c0 = 14 ∨ xKd σ c0 = 15 := by omega
      rcases this with h | h | h | h
      · exact key _ (by rw [h]; exact (hK.2 3 _ rfl).1)
      · exact key _ (by rw [h]; exact (hK.2 4 _ rfl).1)
      · exact key _ (by rw [h]; exact (hK.2 5 _ rfl).1)
      · exact key _ (by rw [h]; exact (hK.2 6 _ rfl).1)
    · cases ho
  · cases ho
theorem x_iast_ok (hd : decode cc pc = .ok (.iastore, 1)) : xOK l cc own nL d mc ini pc x_iast := by
  rintro p e R s m args below meth c Q D cA ad b0 ⟨hx, hb, hml, hown, hts, hK, hAd, hbs, hE, hfr, hlo, hce, hsl⟩ hi lv st al σ o ho hk2
  simp only [x_iast] at ho
  split at ho
  · split at ho
    · rename_i x i c0 st0 hcond
      cases ho
      intro hal H locs ls hW hS hL
      have hW : xW D cA ad b0 s σ H := hW
      refine W.iast hx hb (hW.ari hcond.1 (by decide) (by decide)) ((xK_ty hK).2.1 _ _) (fun q => by cases q) (by rw [arrV_size]; exact hcond.2) rfl rfl hd fun H1 e1 z oq => ?_
      refine hk2 hal H1 _ ls (xW.upd (c := c0) hAd hW (by omega) (by omega) rfl rfl rfl (fun _ _ => rfl) (fun a ha => xup_ne _ _ _ ha) (fun _ _ => rfl) z oq (xAt_ari hcond.1 (by decide) (by decide) ?_)) (hS.put z oq (hW.lo hAd (by omega) (by omega))) hL
      rw [e1, arrV_store]
      congr 2
      funext q
      by_cases hq : q = i.toNatClampNeg <;> simp [updV, xup, hq, xIn, xRf]
    · cases ho
  · cases ho
theorem x_bastB_ok (hd : decode cc pc = .ok (.bastore, 1)) : xOK l cc own nL d mc ini pc x_bastB := by
  rintro p e R s m args below meth c Q D cA ad b0 ⟨hx, hb, hml, hown, hts, hK, hAd, hbs, hE, hfr, hlo, hce, hsl⟩ hi lv st al σ o ho hk2
  simp only [x_bastB] at ho
  split at ho
  · split at ho
    · rename_i x i c0 st0 hcond
      cases ho
      intro hal H locs ls hW hS hL
      have hW : xW D cA ad b0 s σ H := hW
      refine W.bast hx hb (hW.ari hcond.1 (by decide) (by decide)) ((xK_ty hK).1 _ _) (fun q => by cases q) (by rw [arrV_size]; exact hcond.2) rfl rfl hd fun H1 e1 z oq => ?_
      refine hk2 hal H1 _ ls (xW.upd (c := c0) hAd hW (by omega) (by omega) rfl rfl rfl (fun _ _ => rfl) (fun a ha => xup_ne _ _ _ ha) (fun _ _ => rfl) z oq (xAt_ari hcond.1 (by decide) (by decide) ?_)) (hS.put z oq (hW.lo hAd (by omega) (by omega))) hL
      rw [e1, arrV_store]
      congr 2
      funext q
      by_cases hq : q = i.toNatClampNeg
      · subst hq
        simp [updV, xup, xIn, xRf]
        rfl
      · simp [updV, xup, hq, xIn, xRf]
    · cases ho
  · cases ho
theorem x_bastZ_ok (hd : decode cc pc = .ok (.bastore, 1)) : xOK l cc own nL d mc ini pc x_bastZ := by
  rintro p e R s m args below meth c Q D cA ad b0 ⟨hx, hb, hml, hown, hts, hK, hAd, hbs, hE, hfr, hlo, hce, hsl⟩ hi lv st al σ o ho hk2
  simp only [x_bastZ] at ho
  split at ho
  · split at ho
    · rename_i x i c0 st0 hcond
      cases ho
      intro hal H locs ls hW hS hL
      have hW : xW D cA ad b0 s σ H := hW
      refine W.zast hx hb (hW.ari hcond.1 (by decide) (by decide)) ((xK_ty hK).2.2 _ _) (fun q => by cases q) (by rw [arrV_size]; exact hcond.2.1) rfl rfl hd fun H1 e1 z oq => ?_
      refine hk2 hal H1 _ ls (xW.upd (c := c0) hAd hW (by omega) (by omega) rfl rfl rfl (fun _ _ => rfl) (fun a ha => xup_ne _ _ _ ha) (fun _ _ => rfl) z oq (xAt_ari hcond.1 (by decide) (by decide) ?_)) (hS.put z oq (hW.lo hAd (by omega) (by omega))) hL
      have hn : narrow .boolean (.int x) = .int x := by rcases hcond.2.2 with h | h <;> rw [h] <;> decide
      rw [e1, hn, arrV_store]
      congr 2
      funext q
      by_cases hq : q = i.toNatClampNeg <;> simp [updV, xup, hq, xIn, xRf]
    · cases ho
  · cases ho
theorem x_aast_ok (hd : decode cc pc = .ok (.aastore, 1)) : xOK l cc own nL d mc ini pc x_aast := by
  rintro p e R s m args below meth c Q D cA ad b0 ⟨hx, hb, hml, hown, hts, hK, hAd, hbs, hE, hfr, hlo, hce, hsl⟩ hi lv st al σ o ho hk2
  simp only [x_aast] at ho
  split at ho
  · split at ho
    · rename_i v i c0 st0 hcond
      cases ho
      intro hal H locs ls hW hS hL
      have hW : xW D cA ad b0 s σ H := hW
      obtain ⟨⟨k1, k2⟩, hin, hkv, hv0⟩ := hcond
      have hlt : i.toNatClampNeg < xNn σ c0 := Nat.not_le.mp fun q => hin (Or.inr q)
      have h0 : ¬ i < 0 := fun q => hin (Or.inl q)
      have hA := hW.arq (c := c0) rfl k1 k2
      have key : ∀ (t0 ci : Nat) (C : String) (T : u_T) (N : Nat), (xtys cA)[t0]? = some (cA (xKd σ c0), .object C) → vwCl[ci]? = some (C, T, N) → ci < 8 → xKd σ v = ci + 1 → W p l e R s m args below meth c H locs (mc - al) (2000 * (mc - al)) Q (F0 m pc ls (.ref (ad v) :: .int i :: .ref (ad c0) :: st0.map (xv ad))) := by
        intro t0 ci C T N ht hc hci hv
        obtain ⟨cellV, g1, g2, g3, -⟩ := hW.obj hv hci
        have hcls := (hK.1 ci _ hc).2
        obtain ⟨kA, comp, m1, m2, m3, -⟩ := (hK.2 t0 _ ht).2
        have hcomp : comp = D.1 ci := Option.some.inj (m3.symm.trans hcls.1)
        subst hcomp
        obtain ⟨kC, hkC, -⟩ := hcls.2
        refine W.aast hx hb hA (fun q h => by cases h) (fun h => by cases h) m1 m2 rfl hkC ⟨h0, by rw [arrV_size]; exact hlt⟩ g1 (fun q h => by rw [g3] at h; cases h) (by rw [g2]; exact hkC) (by rw [g2]; exact va_assign hcls) rfl rfl hd fun H1 e1 z oq => ?_
        refine hk2 hal H1 _ ls (xW.upd (c := c0) hAd hW (by omega) (by omega) rfl rfl rfl (fun a ha => xup_ne _ _ _ ha) (fun _ _ => rfl) (fun _ _ => rfl) z oq (xAt_arq rfl k1 k2 ?_)) (hS.put z oq (hW.lo hAd (by omega) (by omega))) hL
        rw [e1, arrV_store]
        congr 2
        funext q
        by_cases hq : q = i.toNatClampNeg
        · subst hq
          simp [updV, xup, xrf, hv0, va_rf, xRf]
        · simp [updV, xup, hq, xIn, xRf]
      have : xKd σ c0 = 12 ∨ xKd σ c0 = 13 ∨ xKd σ c0 = 14 ∨ xKd σ c0 = 15 := by omega
      rcases this with h | h | h | h
      · exact key 3 1 _ _ _ (by rw [h]; rfl) rfl (by decide) (by rw [hkv, h]; rfl)
      · exact key 4 3 _ _ _ (by rw [h]; rfl) rfl (by decide) (by rw [hkv, h]; rfl)
      · exact key 5 4 _ _ _ (by rw [h]; rfl) rfl (by decide) (by rw [hkv, h]; rfl)
      · exact key 6 5 _ _ _ (by rw [h]; rfl) rfl (by decide) (by rw [hkv, h]; rfl)
    · cases ho
  · cases ho
end HOPS
