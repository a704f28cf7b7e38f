/-! String.checkIndex: its formatter (null, or some object) is handed on and not used where the index is in range -/
theorem d_chk_0 : decode cJ3_checkIndex_8e157 0 = .ok (.iload_n 0, 1) := by decide +kernel
theorem d_chk_1 : decode cJ3_checkIndex_8e157 1 = .ok (.ifCond .lt 8, 3) := by decide +kernel
theorem d_chk_4 : decode cJ3_checkIndex_8e157 4 = .ok (.iload_n 0, 1) := by decide +kernel
theorem d_chk_5 : decode cJ3_checkIndex_8e157 5 = .ok (.iload_n 1, 1) := by decide +kernel
theorem d_chk_6 : decode cJ3_checkIndex_8e157 6 = .ok (.if_icmp .lt 10, 3) := by decide +kernel
theorem d_chk_16 : decode cJ3_checkIndex_8e157 16 = .ok (.iload_n 0, 1) := by decide +kernel
theorem d_chk_17 : decode cJ3_checkIndex_8e157 17 = .ok (.ireturn, 1) := by decide +kernel
theorem c_chk (l : Launch) (i n : Int32) (v : Value) (hv : v.category = 1) (h0 : ¬ i < 0) (h1 : i < n) : Met l yJ3_checkIndex_8e157 (Cond.code yJ3_checkIndex_8e157 cJ3_checkIndex_8e157 3 (some .int) :: xTB) { frames := 0, cells := 0, slots := 0, locals := 0 } (fun a _ => a = ([.int i, .int n, v] : List Value).toArray) (fun _ st oc t => oc = .returned (some (.int i)) ∧ t.heap = st.heap) 0 0 (fun _ => False) := by
  refine Met.ofW (cc := cJ3_checkIndex_8e157) (maxL := 3) (ret := some .int) (by decide) rfl ?_
  intro p e s m args below meth c s₁ B hml hp
  subst hp
  have hx := B.exec
  have hb := B.bytes
  have hr := B.returns
  have hlocks := B.notSynchronized
  have e1 : ∀ x : Int32, (Value.int x).category = 1 := fun _ => rfl
  have e2 : (lg_sl [.int i, .int n, v]).length ≤ 3 := by simp [lg_sl, hv, e1]
  have hl := lv_entry [.int i, .int n, v] (n := 3) e2
  show W _ _ _ _ _ _ _ _ _ _ _ _ _ _ _ (entryFrame m ([.int i, .int n, v] : List Value).toArray 3)
  rw [lg_entry_eq]
  generalize (lg_sl [.int i, .int n, v] ++ List.replicate (3 - (lg_sl [.int i, .int n, v]).length) Slot.unset).toArray = ls at hl ⊢
  have g0 : ls[0]? = some (.val (.int i)) := lv_at hl 0 rfl
  have g1 : ls[1]? = some (.val (.int n)) := lv_at hl 1 rfl
  refine lv_iload_n hx hb d_chk_0 rfl g0 ?_
  refine lv_if_lt (tgt := 9) hx hb d_chk_1 (by decide) (fun h => absurd h h0) (fun _ => ?_)
  refine lv_iload_n hx hb d_chk_4 rfl g0 ?_
  refine lv_iload_n hx hb d_chk_5 rfl g1 ?_
  refine lv_icmp_lt (tgt := 16) hx hb d_chk_6 (by decide) (fun _ => ?_) (fun h => absurd h1 h)
  refine lv_iload_n hx hb d_chk_16 rfl g0 ?_
  exact W.iret hx hb hr (fun t ht _ => ⟨rfl, ht⟩) (fun q hq => by cases hq) d_chk_17
def x_chk : xO := fun (_, lv, st, al, σ) => match st with
  | .int n :: .int i :: st => if (¬ i < 0 ∧ i < n) ∧ (st.map Value.category).sum ≤ 8 then some (.inl (9, lv, st, al, σ)) else none
  | _ => none
theorem d_chi_2 : decode cJ0_checkIndex_df160 2 = .ok (.getstatic 1053, 3) := by decide +kernel
theorem d_chi_5 : decode cJ0_checkIndex_df160 5 = .ok (.invokestatic 1059, 3) := by decide +kernel
theorem d_chi_8 : decode cJ0_checkIndex_df160 8 = .ok (.pop, 1) := by decide +kernel
theorem x_chk_ok {l : Launch} {nL d mc : Nat} {ini : Prop} (hdd : 0 < d) : xOK l cJ0_checkIndex_df160 RJ0 nL d mc ini 2 x_chk := by
  rintro p e R s m args below meth c Q D cA ad b0 ⟨hx, hb, hml, hown, hts, hK, hAd, hbs, hE, hfr, hlo, hce, hsl⟩ hi lv st al σ o ho hk2
  simp only [x_chk] at ho
  split at ho
  · split at ho
    · rename_i n i st0 hcond
      cases ho
      intro hal H locs ls hW hS hL
      have h9 := x_rest (ad := ad) hcond.2
      have hal : al ≤ mc := hal
      have h1 := hk2 hal H locs ls hW hS hL
      have key : ∀ v : Value, v.category = 1 → W p l e R s m args below meth c H locs (mc - al) (2000 * (mc - al)) Q (F0 m 5 ls (v :: .int n :: .int i :: st0.map (xv ad))) := by
        intro v hv
        have hr := va_runS (p := p) (R := R) (s := s) (m := m) (args := args) (c := c) (l := l) (e := e) (below := below) (meth := meth) (H := H) (locs := locs) (cells := mc - al) (slots := 2000 * (mc - al)) (g := F0 m 5 ls (v :: .int n :: .int i :: st0.map (xv ad))) (As := [.int i, .int n, v]) (rest := st0.map (xv ad)) ⟨hx, hb, hml, hown, hts⟩ (c_chk l i n v hv hcond.1.1 hcond.1.2)
          ⟨callB_of 3 hts (xTB_goodIn hw_391) rfl rfl rfl (hts _ hw_73) (hts _ hw_389) ⟨by decide, by decide, by decide +kernel⟩ ⟨by show 0 + 1 ≤ _; omega, by show 8 + (3 + 11) + 0 ≤ _; omega⟩, hts _ hw_390⟩ ⟨fun a U g mk h => h, fun U _ _ => rfl⟩ rfl rfl hL.1 rfl (lv_room h9) d_chi_5 ⟨by omega, by omega⟩
        intro T hT X
        obtain ⟨v', st₀, t, T', L, q0, X', hL2, e1, e2, ⟨hv', hh⟩, stp⟩ := hr T hT X
        cases hv'
        have hLn : L = [] := List.eq_nil_iff_forall_not_mem.mpr (fun q hq => hL2 q hq)
        subst hLn
        rw [List.append_nil] at X'
        have kk : W p l e R s m args below meth c H locs (mc - al) (2000 * (mc - al)) Q (F0 m 8 ls (.int i :: st0.map (xv ad))) := lv_pop hx hb d_chi_8 rfl h1
        obtain ⟨t2, a1, b1⟩ := kk T' (by rw [e1, hh, q0]) X'
        exact ⟨t2, stp t2 a1, b1⟩
      rcases hE.2.2.1.2.2 with hZ | ⟨t, hZ⟩
      · exact va_gets hx hb hZ hS hown (hts _ hw_387) (fun x h => h) d_chi_2 (key .null rfl)
      · exact va_gets hx hb hZ hS hown (hts _ hw_387) (fun x h => h) d_chi_2 (key (.ref t) rfl)
    · cases ho
  · cases ho
