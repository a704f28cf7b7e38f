noncomputable def tX9_copyRegistry : List (Nat × xO) := [(0, x_push (.int (nI 0)) 1), (1, x_istore 3 1), (2, x_iload 3 1), (3, x_push (.int (nI 426)) 3), (6, x_cmpge 31), (9, x_aload 0 1), (10, x_getR 7 0), (13, x_iload 2 1), (14, x_iload 3 1), (15, x_ii (fun x y => x + y)), (16, x_aload 0 1), (17, x_getR 7 0), (20, x_iload 1 1), (21, x_iload 3 1), (22, x_ii (fun x y => x + y)), (23, x_iald), (24, x_iast), (25, x_iinc 3 (nI 1)), (28, x_goto 2), (31, x_vret)]
set_option maxRecDepth 100000 in
theorem tX9_copyRegistry_ok (l : Launch) : ∀ q ∈ tX9_copyRegistry, xOK l cX9_copyRegistry RX9 4 1 0 (yX9_copyRegistry.name = "<init>") q.1 q.2 := by
  unfold tX9_copyRegistry
  refine List.forall_mem_cons.mpr ⟨?_, List.forall_mem_cons.mpr ⟨?_, List.forall_mem_cons.mpr ⟨?_, List.forall_mem_cons.mpr ⟨?_, List.forall_mem_cons.mpr ⟨?_, List.forall_mem_cons.mpr ⟨?_, List.forall_mem_cons.mpr ⟨?_, List.forall_mem_cons.mpr ⟨?_, List.forall_mem_cons.mpr ⟨?_, List.forall_mem_cons.mpr ⟨?_, List.forall_mem_cons.mpr ⟨?_, List.forall_mem_cons.mpr ⟨?_, List.forall_mem_cons.mpr ⟨?_, List.forall_mem_cons.mpr ⟨?_, List.forall_mem_cons.mpr ⟨?_, List.forall_mem_cons.mpr ⟨?_, List.forall_mem_cons.mpr ⟨?_, List.forall_mem_cons.mpr ⟨?_, List.forall_mem_cons.mpr ⟨?_, List.forall_mem_cons.mpr ⟨?_, fun _ h => absurd h List.not_mem_nil⟩⟩⟩⟩⟩⟩⟩⟩⟩⟩⟩⟩⟩⟩⟩⟩⟩⟩⟩⟩
  · exact x_iconst_ok (show decode cX9_copyRegistry 0 = .ok (.iconst 0, 1) by decide +kernel) (by decide)
  · exact x_istore_n_ok (show decode cX9_copyRegistry 1 = .ok (.istore_n 3, 1) by decide +kernel) rfl (by decide)
  · exact x_iload_n_ok (show decode cX9_copyRegistry 2 = .ok (.iload_n 3, 1) by decide +kernel) rfl
  · exact x_sipush_ok (show decode cX9_copyRegistry 3 = .ok (.sipush 426, 3) by decide +kernel) (by decide)
  · exact x_cmpge_ok (show decode cX9_copyRegistry 6 = .ok (.if_icmp .ge 25, 3) by decide +kernel) (by decide)
  · exact x_aload_n_ok (show decode cX9_copyRegistry 9 = .ok (.aload_n 0, 1) by decide +kernel) rfl
  · exact x_getR_ok (ci := 7) (k := 0) rfl (by decide) (by decide) hw_844 (show decode cX9_copyRegistry 10 = .ok (.getfield 7, 3) by decide +kernel)
  · exact x_iload_n_ok (show decode cX9_copyRegistry 13 = .ok (.iload_n 2, 1) by decide +kernel) rfl
  · exact x_iload_n_ok (show decode cX9_copyRegistry 14 = .ok (.iload_n 3, 1) by decide +kernel) rfl
  · exact x_iadd_ok (show decode cX9_copyRegistry 15 = .ok (.iadd, 1) by decide +kernel)
  · exact x_aload_n_ok (show decode cX9_copyRegistry 16 = .ok (.aload_n 0, 1) by decide +kernel) rfl
  · exact x_getR_ok (ci := 7) (k := 0) rfl (by decide) (by decide) hw_844 (show decode cX9_copyRegistry 17 = .ok (.getfield 7, 3) by decide +kernel)
  · exact x_iload_n_ok (show decode cX9_copyRegistry 20 = .ok (.iload_n 1, 1) by decide +kernel) rfl
  · exact x_iload_n_ok (show decode cX9_copyRegistry 21 = .ok (.iload_n 3, 1) by decide +kernel) rfl
  · exact x_iadd_ok (show decode cX9_copyRegistry 22 = .ok (.iadd, 1) by decide +kernel)
  · exact x_iald_ok (show decode cX9_copyRegistry 23 = .ok (.iaload, 1) by decide +kernel)
  · exact x_iast_ok (show decode cX9_copyRegistry 24 = .ok (.iastore, 1) by decide +kernel)
  · exact x_iinc_ok (show decode cX9_copyRegistry 25 = .ok (.iinc 3 1, 3) by decide +kernel) (by decide) (by decide)
  · exact x_goto_ok (show decode cX9_copyRegistry 28 = .ok (.goto (-26), 3) by decide +kernel) (by decide)
  · exact x_vret_ok (show decode cX9_copyRegistry 31 = .ok (.return_, 1) by decide +kernel)
noncomputable def FX9_copyRegistry : List Value → xS → Option xR := xden tX9_copyRegistry 4 none 0
theorem sX9_copyRegistry (l : Launch) : xSound l yX9_copyRegistry cX9_copyRegistry 4 none 1 0 FX9_copyRegistry := x_den (by decide) (tX9_copyRegistry_ok l)
noncomputable def tX9_keep : List (Nat × xO) := [(0, x_iload 1 1), (1, x_i2l), (2, x_push (.long 0) 1), (3, x_push (.long 2) 3), (6, x_call 0 3 FX9_in), (9, x_ifne 14), (12, x_push (.int (-1)) 1), (13, x_iret), (14, x_aload 0 1), (15, x_getR 7 0), (18, x_push (.int (nI 1)) 1), (19, x_iald), (20, x_ifne 26), (23, x_push (.int (-4)) 2), (25, x_iret), (26, x_aload 0 1), (27, x_push (.int (nI 0)) 1), (28, x_push (.int (nI 426)) 3), (31, x_push (.int (nI 1)) 1), (32, x_iload 1 1), (33, x_ii (fun x y => x + y)), (34, x_ii (fun x y => x * y)), (35, x_callV 7 0 3 FX9_copyRegistry), (38, x_aload 0 1), (39, x_getR 7 0), (42, x_push (.int (nI 0)) 1), (43, x_iald), (44, x_iret)]
set_option maxRecDepth 100000 in
theorem tX9_keep_ok (l : Launch) : ∀ q ∈ tX9_keep, xOK l cX9_keep RX9 2 2 0 (yX9_keep.name = "<init>") q.1 q.2 := by
  unfold tX9_keep
  refine List.forall_mem_cons.mpr ⟨?_, List.forall_mem_cons.mpr ⟨?_, List.forall_mem_cons.mpr ⟨?_, List.forall_mem_cons.mpr ⟨?_, List.forall_mem_cons.mpr ⟨?_, List.forall_mem_cons.mpr ⟨?_, List.forall_mem_cons.mpr ⟨?_, List.forall_mem_cons.mpr ⟨?_, List.forall_mem_cons.mpr ⟨?_, List.forall_mem_cons.mpr ⟨?_, List.forall_mem_cons.mpr ⟨?_, List.forall_mem_cons.mpr ⟨?_, List.forall_mem_cons.mpr ⟨?_, List.forall_mem_cons.mpr ⟨?_, List.forall_mem_cons.mpr ⟨?_, List.forall_mem_cons.mpr ⟨?_, List.forall_mem_cons.mpr ⟨?_, List.forall_mem_cons.mpr ⟨?_, List.forall_mem_cons.mpr ⟨?_, List.forall_mem_cons.mpr ⟨?_, List.forall_mem_cons.mpr ⟨?_, List.forall_mem_cons.mpr ⟨?_, List.forall_mem_cons.mpr ⟨?_, List.forall_mem_cons.mpr ⟨?_, List.forall_mem_cons.mpr ⟨?_, List.forall_mem_cons.mpr ⟨?_, List.forall_mem_cons.mpr ⟨?_, List.forall_mem_cons.mpr ⟨?_, fun _ h => absurd h List.not_mem_nil⟩⟩⟩⟩⟩⟩⟩⟩⟩⟩⟩⟩⟩⟩⟩⟩⟩⟩⟩⟩⟩⟩⟩⟩⟩⟩⟩⟩
  · exact x_iload_n_ok (show decode cX9_keep 0 = .ok (.iload_n 1, 1) by decide +kernel) rfl
  · exact x_i2l_ok (show decode cX9_keep 1 = .ok (.i2l, 1) by decide +kernel)
  · exact x_lconst_ok (show decode cX9_keep 2 = .ok (.lconst 0, 1) by decide +kernel) rfl
  · exact x_ldc2_ok (show decode cX9_keep 3 = .ok (.ldc2_w 207, 3) by decide +kernel) hw_1116
  · exact x_callS_ok (sX9_in l) hw_918 hw_916 hw_917 hw_68 ⟨by decide, by decide, by decide +kernel⟩ (by decide) (by decide) (show decode cX9_keep 6 = .ok (.invokestatic 60, 3) by decide +kernel)
  · exact x_ifne_ok (show decode cX9_keep 9 = .ok (.ifCond .ne 5, 3) by decide +kernel) (by decide)
  · exact x_iconst_ok (show decode cX9_keep 12 = .ok (.iconst (-1), 1) by decide +kernel) (by decide)
  · exact x_iret_ok (show decode cX9_keep 13 = .ok (.ireturn, 1) by decide +kernel)
  · exact x_aload_n_ok (show decode cX9_keep 14 = .ok (.aload_n 0, 1) by decide +kernel) rfl
  · exact x_getR_ok (ci := 7) (k := 0) rfl (by decide) (by decide) hw_844 (show decode cX9_keep 15 = .ok (.getfield 7, 3) by decide +kernel)
  · exact x_iconst_ok (show decode cX9_keep 18 = .ok (.iconst 1, 1) by decide +kernel) (by decide)
  · exact x_iald_ok (show decode cX9_keep 19 = .ok (.iaload, 1) by decide +kernel)
  · exact x_ifne_ok (show decode cX9_keep 20 = .ok (.ifCond .ne 6, 3) by decide +kernel) (by decide)
  · exact x_bipush_ok (show decode cX9_keep 23 = .ok (.bipush (-4), 2) by decide +kernel) (by decide)
  · exact x_iret_ok (show decode cX9_keep 25 = .ok (.ireturn, 1) by decide +kernel)
  · exact x_aload_n_ok (show decode cX9_keep 26 = .ok (.aload_n 0, 1) by decide +kernel) rfl
  · exact x_iconst_ok (show decode cX9_keep 27 = .ok (.iconst 0, 1) by decide +kernel) (by decide)
  · exact x_sipush_ok (show decode cX9_keep 28 = .ok (.sipush 426, 3) by decide +kernel) (by decide)
  · exact x_iconst_ok (show decode cX9_keep 31 = .ok (.iconst 1, 1) by decide +kernel) (by decide)
  · exact x_iload_n_ok (show decode cX9_keep 32 = .ok (.iload_n 1, 1) by decide +kernel) rfl
  · exact x_iadd_ok (show decode cX9_keep 33 = .ok (.iadd, 1) by decide +kernel)
  · exact x_imul_ok (show decode cX9_keep 34 = .ok (.imul, 1) by decide +kernel)
  · exact x_callV_ok (ci := 7) rfl (by decide) (sX9_copyRegistry l) hw_1120 hw_1117 hw_1119 hw_41 hw_68 ⟨by decide, by decide, by decide +kernel⟩ rfl (by decide) (by decide) (show decode cX9_keep 35 = .ok (.invokevirtual 209, 3) by decide +kernel)
  · exact x_aload_n_ok (show decode cX9_keep 38 = .ok (.aload_n 0, 1) by decide +kernel) rfl
  · exact x_getR_ok (ci := 7) (k := 0) rfl (by decide) (by decide) hw_844 (show decode cX9_keep 39 = .ok (.getfield 7, 3) by decide +kernel)
  · exact x_iconst_ok (show decode cX9_keep 42 = .ok (.iconst 0, 1) by decide +kernel) (by decide)
  · exact x_iald_ok (show decode cX9_keep 43 = .ok (.iaload, 1) by decide +kernel)
  · exact x_iret_ok (show decode cX9_keep 44 = .ok (.ireturn, 1) by decide +kernel)
noncomputable def FX9_keep : List Value → xS → Option xR := xden tX9_keep 2 (some .int) 0
theorem sX9_keep (l : Launch) : xSound l yX9_keep cX9_keep 2 (some .int) 2 0 FX9_keep := x_den (by decide) (tX9_keep_ok l)
noncomputable def tX8_on : List (Nat × xO) := [(0, x_iload 1 1), (1, x_push (.int (nI 3)) 1), (2, x_call 0 2 FX8_among), (5, x_ifne 10), (8, x_push (.int (-1)) 1), (9, x_iret), (10, x_aload 0 1), (11, x_getR 6 3), (14, x_iload 1 1), (15, x_aald), (16, x_getI 3 1), (19, x_ifne 28), (22, x_aload 0 1), (23, x_push (.int (nI 1)) 1), (24, x_callV 6 0 2 FX8_findingOf), (27, x_iret), (28, x_aload 0 1), (29, x_getR 6 2), (32, x_aload 0 1), (33, x_getR 6 3), (36, x_iload 1 1), (37, x_aald), (38, x_callV 3 0 2 FX4_become), (41, x_aload 0 1), (42, x_getR 6 2), (45, x_getI 3 3), (48, x_iret)]
set_option maxRecDepth 100000 in
theorem tX8_on_ok (l : Launch) : ∀ q ∈ tX8_on, xOK l cX8_on RX8 2 3 0 (yX8_on.name = "<init>") q.1 q.2 := by
  unfold tX8_on
  refine List.forall_mem_cons.mpr ⟨?_, List.forall_mem_cons.mpr ⟨?_, List.forall_mem_cons.mpr ⟨?_, List.forall_mem_cons.mpr ⟨?_, List.forall_mem_cons.mpr ⟨?_, List.forall_mem_cons.mpr ⟨?_, List.forall_mem_cons.mpr ⟨?_, List.forall_mem_cons.mpr ⟨?_, List.forall_mem_cons.mpr ⟨?_, List.forall_mem_cons.mpr ⟨?_, List.forall_mem_cons.mpr ⟨?_, List.forall_mem_cons.mpr ⟨?_, List.forall_mem_cons.mpr ⟨?_, List.forall_mem_cons.mpr ⟨?_, List.forall_mem_cons.mpr ⟨?_, List.forall_mem_cons.mpr ⟨?_, List.forall_mem_cons.mpr ⟨?_, List.forall_mem_cons.mpr ⟨?_, List.forall_mem_cons.mpr ⟨?_, List.forall_mem_cons.mpr ⟨?_, List.forall_mem_cons.mpr ⟨?_, List.forall_mem_cons.mpr ⟨?_, List.forall_mem_cons.mpr ⟨?_, List.forall_mem_cons.mpr ⟨?_, List.forall_mem_cons.mpr ⟨?_, List.forall_mem_cons.mpr ⟨?_, List.forall_mem_cons.mpr ⟨?_, fun _ h => absurd h List.not_mem_nil⟩⟩⟩⟩⟩⟩⟩⟩⟩⟩⟩⟩⟩⟩⟩⟩⟩⟩⟩⟩⟩⟩⟩⟩⟩⟩⟩
  · exact x_iload_n_ok (show decode cX8_on 0 = .ok (.iload_n 1, 1) by decide +kernel) rfl
  · exact x_iconst_ok (show decode cX8_on 1 = .ok (.iconst 3, 1) by decide +kernel) (by decide)
  · exact x_callS_ok (sX8_among l) hw_268 hw_266 hw_267 hw_61 ⟨by decide, by decide, by decide +kernel⟩ (by decide) (by decide) (show decode cX8_on 2 = .ok (.invokestatic 65, 3) by decide +kernel)
  · exact x_ifne_ok (show decode cX8_on 5 = .ok (.ifCond .ne 5, 3) by decide +kernel) (by decide)
  · exact x_iconst_ok (show decode cX8_on 8 = .ok (.iconst (-1), 1) by decide +kernel) (by decide)
  · exact x_iret_ok (show decode cX8_on 9 = .ok (.ireturn, 1) by decide +kernel)
  · exact x_aload_n_ok (show decode cX8_on 10 = .ok (.aload_n 0, 1) by decide +kernel) rfl
  · exact x_getR_ok (ci := 6) (k := 3) rfl (by decide) (by decide) hw_225 (show decode cX8_on 11 = .ok (.getfield 30, 3) by decide +kernel)
  · exact x_iload_n_ok (show decode cX8_on 14 = .ok (.iload_n 1, 1) by decide +kernel) rfl
  · exact x_aald_ok (show decode cX8_on 15 = .ok (.aaload, 1) by decide +kernel)
  · exact x_getI_ok (ci := 3) (k := 1) rfl (by decide) (by decide) hw_177 (show decode cX8_on 16 = .ok (.getfield 133, 3) by decide +kernel)
  · exact x_ifne_ok (show decode cX8_on 19 = .ok (.ifCond .ne 9, 3) by decide +kernel) (by decide)
  · exact x_aload_n_ok (show decode cX8_on 22 = .ok (.aload_n 0, 1) by decide +kernel) rfl
  · exact x_iconst_ok (show decode cX8_on 23 = .ok (.iconst 1, 1) by decide +kernel) (by decide)
  · exact x_callV_ok (ci := 6) rfl (by decide) (sX8_findingOf l) hw_272 hw_269 hw_271 hw_0 hw_61 ⟨by decide, by decide, by decide +kernel⟩ rfl (by decide) (by decide) (show decode cX8_on 24 = .ok (.invokevirtual 69, 3) by decide +kernel)
  · exact x_iret_ok (show decode cX8_on 27 = .ok (.ireturn, 1) by decide +kernel)
  · exact x_aload_n_ok (show decode cX8_on 28 = .ok (.aload_n 0, 1) by decide +kernel) rfl
  · exact x_getR_ok (ci := 6) (k := 2) rfl (by decide) (by decide) hw_224 (show decode cX8_on 29 = .ok (.getfield 26, 3) by decide +kernel)
  · exact x_aload_n_ok (show decode cX8_on 32 = .ok (.aload_n 0, 1) by decide +kernel) rfl
  · exact x_getR_ok (ci := 6) (k := 3) rfl (by decide) (by decide) hw_225 (show decode cX8_on 33 = .ok (.getfield 30, 3) by decide +kernel)
  · exact x_iload_n_ok (show decode cX8_on 36 = .ok (.iload_n 1, 1) by decide +kernel) rfl
  · exact x_aald_ok (show decode cX8_on 37 = .ok (.aaload, 1) by decide +kernel)
  · exact x_callV_ok (ci := 3) rfl (by decide) (sX4_become l) hw_563 hw_560 hw_561 hw_562 hw_64 ⟨by decide, by decide, by decide +kernel⟩ rfl (by decide) (by decide) (show decode cX8_on 38 = .ok (.invokevirtual 185, 3) by decide +kernel)
  · exact x_aload_n_ok (show decode cX8_on 41 = .ok (.aload_n 0, 1) by decide +kernel) rfl
  · exact x_getR_ok (ci := 6) (k := 2) rfl (by decide) (by decide) hw_224 (show decode cX8_on 42 = .ok (.getfield 26, 3) by decide +kernel)
  · exact x_getI_ok (ci := 3) (k := 3) rfl (by decide) (by decide) hw_180 (show decode cX8_on 45 = .ok (.getfield 172, 3) by decide +kernel)
  · exact x_iret_ok (show decode cX8_on 48 = .ok (.ireturn, 1) by decide +kernel)
noncomputable def FX8_on : List Value → xS → Option xR := xden tX8_on 2 (some .int) 0
theorem sX8_on (l : Launch) : xSound l yX8_on cX8_on 2 (some .int) 3 0 FX8_on := x_den (by decide) (tX8_on_ok l)
noncomputable def tX9_on : List (Nat × xO) := [(0, x_iload 1 1), (1, x_i2l), (2, x_push (.long 0) 1), (3, x_push (.long 2) 3), (6, x_call 0 3 FX9_in), (9, x_ifne 14), (12, x_push (.int (-1)) 1), (13, x_iret), (14, x_aload 0 1), (15, x_getR 7 0), (18, x_push (.int (nI 426)) 3), (21, x_push (.int (nI 1)) 1), (22, x_iload 1 1), (23, x_ii (fun x y => x + y)), (24, x_ii (fun x y => x * y)), (25, x_push (.int (nI 0)) 1), (26, x_ii (fun x y => x + y)), (27, x_iald), (28, x_ifge 37), (31, x_aload 0 1), (32, x_push (.int (nI 1)) 1), (33, x_callV 7 0 2 FX9_find), (36, x_iret), (37, x_aload 0 1), (38, x_push (.int (nI 426)) 3), (41, x_push (.int (nI 1)) 1), (42, x_iload 1 1), (43, x_ii (fun x y => x + y)), (44, x_ii (fun x y => x * y)), (45, x_push (.int (nI 0)) 1), (46, x_callV 7 0 3 FX9_copyRegistry), (49, x_aload 0 1), (50, x_getR 7 0), (53, x_push (.int (nI 0)) 1), (54, x_iald), (55, x_iret)]
set_option maxRecDepth 100000 in
theorem tX9_on_ok (l : Launch) : ∀ q ∈ tX9_on, xOK l cX9_on RX9 2 2 0 (yX9_on.name = "<init>") q.1 q.2 := by
  unfold tX9_on
  refine List.forall_mem_cons.mpr ⟨?_, List.forall_mem_cons.mpr ⟨?_, List.forall_mem_cons.mpr ⟨?_, List.forall_mem_cons.mpr ⟨?_, List.forall_mem_cons.mpr ⟨?_, List.forall_mem_cons.mpr ⟨?_, List.forall_mem_cons.mpr ⟨?_, List.forall_mem_cons.mpr ⟨?_, List.forall_mem_cons.mpr ⟨?_, List.forall_mem_cons.mpr ⟨?_, List.forall_mem_cons.mpr ⟨?_, List.forall_mem_cons.mpr ⟨?_, List.forall_mem_cons.mpr ⟨?_, List.forall_mem_cons.mpr ⟨?_, List.forall_mem_cons.mpr ⟨?_, List.forall_mem_cons.mpr ⟨?_, List.forall_mem_cons.mpr ⟨?_, List.forall_mem_cons.mpr ⟨?_, List.forall_mem_cons.mpr ⟨?_, List.forall_mem_cons.mpr ⟨?_, List.forall_mem_cons.mpr ⟨?_, List.forall_mem_cons.mpr ⟨?_, List.forall_mem_cons.mpr ⟨?_, List.forall_mem_cons.mpr ⟨?_, List.forall_mem_cons.mpr ⟨?_, List.forall_mem_cons.mpr ⟨?_, List.forall_mem_cons.mpr ⟨?_, List.forall_mem_cons.mpr ⟨?_, List.forall_mem_cons.mpr ⟨?_, List.forall_mem_cons.mpr ⟨?_, List.forall_mem_cons.mpr ⟨?_, List.forall_mem_cons.mpr ⟨?_, List.forall_mem_cons.mpr ⟨?_, List.forall_mem_cons.mpr ⟨?_, List.forall_mem_cons.mpr ⟨?_, List.forall_mem_cons.mpr ⟨?_, fun _ h => absurd h List.not_mem_nil⟩⟩⟩⟩⟩⟩⟩⟩⟩⟩⟩⟩⟩⟩⟩⟩⟩⟩⟩⟩⟩⟩⟩⟩⟩⟩⟩⟩⟩⟩⟩⟩⟩⟩⟩⟩
  · exact x_iload_n_ok (show decode cX9_on 0 = .ok (.iload_n 1, 1) by decide +kernel) rfl
  · exact x_i2l_ok (show decode cX9_on 1 = .ok (.i2l, 1) by decide +kernel)
  · exact x_lconst_ok (show decode cX9_on 2 = .ok (.lconst 0, 1) by decide +kernel) rfl
  · exact x_ldc2_ok (show decode cX9_on 3 = .ok (.ldc2_w 207, 3) by decide +kernel) hw_1116
  · exact x_callS_ok (sX9_in l) hw_918 hw_916 hw_917 hw_68 ⟨by decide, by decide, by decide +kernel⟩ (by decide) (by decide) (show decode cX9_on 6 = .ok (.invokestatic 60, 3) by decide +kernel)
  · exact x_ifne_ok (show decode cX9_on 9 = .ok (.ifCond .ne 5, 3) by decide +kernel) (by decide)
  · exact x_iconst_ok (show decode cX9_on 12 = .ok (.iconst (-1), 1) by decide +kernel) (by decide)
  · exact x_iret_ok (show decode cX9_on 13 = .ok (.ireturn, 1) by decide +kernel)
  · exact x_aload_n_ok (show decode cX9_on 14 = .ok (.aload_n 0, 1) by decide +kernel) rfl
  · exact x_getR_ok (ci := 7) (k := 0) rfl (by decide) (by decide) hw_844 (show decode cX9_on 15 = .ok (.getfield 7, 3) by decide +kernel)
  · exact x_sipush_ok (show decode cX9_on 18 = .ok (.sipush 426, 3) by decide +kernel) (by decide)
  · exact x_iconst_ok (show decode cX9_on 21 = .ok (.iconst 1, 1) by decide +kernel) (by decide)
  · exact x_iload_n_ok (show decode cX9_on 22 = .ok (.iload_n 1, 1) by decide +kernel) rfl
  · exact x_iadd_ok (show decode cX9_on 23 = .ok (.iadd, 1) by decide +kernel)
  · exact x_imul_ok (show decode cX9_on 24 = .ok (.imul, 1) by decide +kernel)
  · exact x_iconst_ok (show decode cX9_on 25 = .ok (.iconst 0, 1) by decide +kernel) (by decide)
  · exact x_iadd_ok (show decode cX9_on 26 = .ok (.iadd, 1) by decide +kernel)
  · exact x_iald_ok (show decode cX9_on 27 = .ok (.iaload, 1) by decide +kernel)
  · exact x_ifge_ok (show decode cX9_on 28 = .ok (.ifCond .ge 9, 3) by decide +kernel) (by decide)
  · exact x_aload_n_ok (show decode cX9_on 31 = .ok (.aload_n 0, 1) by decide +kernel) rfl
  · exact x_iconst_ok (show decode cX9_on 32 = .ok (.iconst 1, 1) by decide +kernel) (by decide)
  · exact x_callV_ok (ci := 7) rfl (by decide) (sX9_find l) hw_922 hw_919 hw_921 hw_18 hw_68 ⟨by decide, by decide, by decide +kernel⟩ rfl (by decide) (by decide) (show decode cX9_on 33 = .ok (.invokevirtual 70, 3) by decide +kernel)
  · exact x_iret_ok (show decode cX9_on 36 = .ok (.ireturn, 1) by decide +kernel)
  · exact x_aload_n_ok (show decode cX9_on 37 = .ok (.aload_n 0, 1) by decide +kernel) rfl
  · exact x_sipush_ok (show decode cX9_on 38 = .ok (.sipush 426, 3) by decide +kernel) (by decide)
  · exact x_iconst_ok (show decode cX9_on 41 = .ok (.iconst 1, 1) by decide +kernel) (by decide)
  · exact x_iload_n_ok (show decode cX9_on 42 = .ok (.iload_n 1, 1) by decide +kernel) rfl
  · exact x_iadd_ok (show decode cX9_on 43 = .ok (.iadd, 1) by decide +kernel)
  · exact x_imul_ok (show decode cX9_on 44 = .ok (.imul, 1) by decide +kernel)
  · exact x_iconst_ok (show decode cX9_on 45 = .ok (.iconst 0, 1) by decide +kernel) (by decide)
  · exact x_callV_ok (ci := 7) rfl (by decide) (sX9_copyRegistry l) hw_1120 hw_1117 hw_1119 hw_41 hw_68 ⟨by decide, by decide, by decide +kernel⟩ rfl (by decide) (by decide) (show decode cX9_on 46 = .ok (.invokevirtual 209, 3) by decide +kernel)
  · exact x_aload_n_ok (show decode cX9_on 49 = .ok (.aload_n 0, 1) by decide +kernel) rfl
  · exact x_getR_ok (ci := 7) (k := 0) rfl (by decide) (by decide) hw_844 (show decode cX9_on 50 = .ok (.getfield 7, 3) by decide +kernel)
  · exact x_iconst_ok (show decode cX9_on 53 = .ok (.iconst 0, 1) by decide +kernel) (by decide)
  · exact x_iald_ok (show decode cX9_on 54 = .ok (.iaload, 1) by decide +kernel)
  · exact x_iret_ok (show decode cX9_on 55 = .ok (.ireturn, 1) by decide +kernel)
noncomputable def FX9_on : List Value → xS → Option xR := xden tX9_on 2 (some .int) 0
theorem sX9_on (l : Launch) : xSound l yX9_on cX9_on 2 (some .int) 2 0 FX9_on := x_den (by decide) (tX9_on_ok l)
noncomputable def tX8_farApart : List (Nat × xO) := [(0, x_push (.int (nI 0)) 1), (1, x_iload 0 1), (2, x_iload 1 1), (3, x_call 0 3 FX1_farFrom), (6, x_iret)]
set_option maxRecDepth 100000 in
theorem tX8_farApart_ok (l : Launch) : ∀ q ∈ tX8_farApart, xOK l cX8_farApart RX8 2 3 0 (yX8_farApart.name = "<init>") q.1 q.2 := by
  unfold tX8_farApart
  refine List.forall_mem_cons.mpr ⟨?_, List.forall_mem_cons.mpr ⟨?_, List.forall_mem_cons.mpr ⟨?_, List.forall_mem_cons.mpr ⟨?_, List.forall_mem_cons.mpr ⟨?_, fun _ h => absurd h List.not_mem_nil⟩⟩⟩⟩⟩
  · exact x_iconst_ok (show decode cX8_farApart 0 = .ok (.iconst 0, 1) by decide +kernel) (by decide)
  · exact x_iload_n_ok (show decode cX8_farApart 1 = .ok (.iload_n 0, 1) by decide +kernel) rfl
  · exact x_iload_n_ok (show decode cX8_farApart 2 = .ok (.iload_n 1, 1) by decide +kernel) rfl
  · exact x_callS_ok (sX1_farFrom l) hw_478 hw_579 hw_477 hw_70 ⟨by decide, by decide, by decide +kernel⟩ (by decide) (by decide) (show decode cX8_farApart 3 = .ok (.invokestatic 334, 3) by decide +kernel)
  · exact x_iret_ok (show decode cX8_farApart 6 = .ok (.ireturn, 1) by decide +kernel)
noncomputable def FX8_farApart : List Value → xS → Option xR := xden tX8_farApart 2 (some .int) 0
theorem sX8_farApart (l : Launch) : xSound l yX8_farApart cX8_farApart 2 (some .int) 3 0 FX8_farApart := x_den (by decide) (tX8_farApart_ok l)
noncomputable def tX8_apart : List (Nat × xO) := [(0, x_iload 1 1), (1, x_push (.int (nI 216)) 3), (4, x_call 0 2 FX8_among), (7, x_ifeq 20), (10, x_iload 2 1), (11, x_push (.int (nI 216)) 3), (14, x_call 0 2 FX8_among), (17, x_ifne 22), (20, x_push (.int (-1)) 1), (21, x_iret), (22, x_iload 1 1), (23, x_iload 2 1), (24, x_call 0 2 FX8_farApart), (27, x_iret)]
set_option maxRecDepth 100000 in
theorem tX8_apart_ok (l : Launch) : ∀ q ∈ tX8_apart, xOK l cX8_apart RX8 3 4 0 (yX8_apart.name = "<init>") q.1 q.2 := by
  unfold tX8_apart
  refine List.forall_mem_cons.mpr ⟨?_, List.forall_mem_cons.mpr ⟨?_, List.forall_mem_cons.mpr ⟨?_, List.forall_mem_cons.mpr ⟨?_, List.forall_mem_cons.mpr ⟨?_, List.forall_mem_cons.mpr ⟨?_, List.forall_mem_cons.mpr ⟨?_, List.forall_mem_cons.mpr ⟨?_, List.forall_mem_cons.mpr ⟨?_, List.forall_mem_cons.mpr ⟨?_, List.forall_mem_cons.mpr ⟨?_, List.forall_mem_cons.mpr ⟨?_, List.forall_mem_cons.mpr ⟨?_, List.forall_mem_cons.mpr ⟨?_, fun _ h => absurd h List.not_mem_nil⟩⟩⟩⟩⟩⟩⟩⟩⟩⟩⟩⟩⟩⟩
  · exact x_iload_n_ok (show decode cX8_apart 0 = .ok (.iload_n 1, 1) by decide +kernel) rfl
  · exact x_sipush_ok (show decode cX8_apart 1 = .ok (.sipush 216, 3) by decide +kernel) (by decide)
  · exact x_callS_ok (sX8_among l) hw_268 hw_266 hw_267 hw_61 ⟨by decide, by decide, by decide +kernel⟩ (by decide) (by decide) (show decode cX8_apart 4 = .ok (.invokestatic 65, 3) by decide +kernel)
  · exact x_ifeq_ok (show decode cX8_apart 7 = .ok (.ifCond .eq 13, 3) by decide +kernel) (by decide)
  · exact x_iload_n_ok (show decode cX8_apart 10 = .ok (.iload_n 2, 1) by decide +kernel) rfl
  · exact x_sipush_ok (show decode cX8_apart 11 = .ok (.sipush 216, 3) by decide +kernel) (by decide)
  · exact x_callS_ok (sX8_among l) hw_268 hw_266 hw_267 hw_61 ⟨by decide, by decide, by decide +kernel⟩ (by decide) (by decide) (show decode cX8_apart 14 = .ok (.invokestatic 65, 3) by decide +kernel)
  · exact x_ifne_ok (show decode cX8_apart 17 = .ok (.ifCond .ne 5, 3) by decide +kernel) (by decide)
  · exact x_iconst_ok (show decode cX8_apart 20 = .ok (.iconst (-1), 1) by decide +kernel) (by decide)
  · exact x_iret_ok (show decode cX8_apart 21 = .ok (.ireturn, 1) by decide +kernel)
  · exact x_iload_n_ok (show decode cX8_apart 22 = .ok (.iload_n 1, 1) by decide +kernel) rfl
  · exact x_iload_n_ok (show decode cX8_apart 23 = .ok (.iload_n 2, 1) by decide +kernel) rfl
  · exact x_callS_ok (sX8_farApart l) hw_578 hw_576 hw_577 hw_61 ⟨by decide, by decide, by decide +kernel⟩ (by decide) (by decide) (show decode cX8_apart 24 = .ok (.invokestatic 188, 3) by decide +kernel)
  · exact x_iret_ok (show decode cX8_apart 27 = .ok (.ireturn, 1) by decide +kernel)
noncomputable def FX8_apart : List Value → xS → Option xR := xden tX8_apart 3 (some .int) 0
theorem sX8_apart (l : Launch) : xSound l yX8_apart cX8_apart 3 (some .int) 4 0 FX8_apart := x_den (by decide) (tX8_apart_ok l)
noncomputable def tX9_apart : List (Nat × xO) := [(0, x_iload 1 1), (1, x_call 0 1 FX9_isShade), (4, x_ifeq 23), (7, x_iload 2 1), (8, x_call 0 1 FX9_isShade), (11, x_ifeq 23), (14, x_push (.int (nI 0)) 1), (15, x_iload 1 1), (16, x_iload 2 1), (17, x_call 0 3 FX9_far), (20, x_goto 24), (23, x_push (.int (-1)) 1), (24, x_iret)]
set_option maxRecDepth 100000 in
theorem tX9_apart_ok (l : Launch) : ∀ q ∈ tX9_apart, xOK l cX9_apart RX9 3 3 0 (yX9_apart.name = "<init>") q.1 q.2 := by
  unfold tX9_apart
  refine List.forall_mem_cons.mpr ⟨?_, List.forall_mem_cons.mpr ⟨?_, List.forall_mem_cons.mpr ⟨?_, List.forall_mem_cons.mpr ⟨?_, List.forall_mem_cons.mpr ⟨?_, List.forall_mem_cons.mpr ⟨?_, List.forall_mem_cons.mpr ⟨?_, List.forall_mem_cons.mpr ⟨?_, List.forall_mem_cons.mpr ⟨?_, List.forall_mem_cons.mpr ⟨?_, List.forall_mem_cons.mpr ⟨?_, List.forall_mem_cons.mpr ⟨?_, List.forall_mem_cons.mpr ⟨?_, fun _ h => absurd h List.not_mem_nil⟩⟩⟩⟩⟩⟩⟩⟩⟩⟩⟩⟩⟩
  · exact x_iload_n_ok (show decode cX9_apart 0 = .ok (.iload_n 1, 1) by decide +kernel) rfl
  · exact x_callS_ok (sX9_isShade l) hw_1095 hw_1093 hw_1094 hw_68 ⟨by decide, by decide, by decide +kernel⟩ (by decide) (by decide) (show decode cX9_apart 1 = .ok (.invokestatic 198, 3) by decide +kernel)
  · exact x_ifeq_ok (show decode cX9_apart 4 = .ok (.ifCond .eq 19, 3) by decide +kernel) (by decide)
  · exact x_iload_n_ok (show decode cX9_apart 7 = .ok (.iload_n 2, 1) by decide +kernel) rfl
  · exact x_callS_ok (sX9_isShade l) hw_1095 hw_1093 hw_1094 hw_68 ⟨by decide, by decide, by decide +kernel⟩ (by decide) (by decide) (show decode cX9_apart 8 = .ok (.invokestatic 198, 3) by decide +kernel)
  · exact x_ifeq_ok (show decode cX9_apart 11 = .ok (.ifCond .eq 12, 3) by decide +kernel) (by decide)
  · exact x_iconst_ok (show decode cX9_apart 14 = .ok (.iconst 0, 1) by decide +kernel) (by decide)
  · exact x_iload_n_ok (show decode cX9_apart 15 = .ok (.iload_n 1, 1) by decide +kernel) rfl
  · exact x_iload_n_ok (show decode cX9_apart 16 = .ok (.iload_n 2, 1) by decide +kernel) rfl
  · exact x_callS_ok (sX9_far l) hw_1032 hw_1030 hw_1031 hw_68 ⟨by decide, by decide, by decide +kernel⟩ (by decide) (by decide) (show decode cX9_apart 17 = .ok (.invokestatic 140, 3) by decide +kernel)
  · exact x_goto_ok (show decode cX9_apart 20 = .ok (.goto 4, 3) by decide +kernel) (by decide)
  · exact x_iconst_ok (show decode cX9_apart 23 = .ok (.iconst (-1), 1) by decide +kernel) (by decide)
  · exact x_iret_ok (show decode cX9_apart 24 = .ok (.ireturn, 1) by decide +kernel)
noncomputable def FX9_apart : List Value → xS → Option xR := xden tX9_apart 3 (some .int) 0
theorem sX9_apart (l : Launch) : xSound l yX9_apart cX9_apart 3 (some .int) 3 0 FX9_apart := x_den (by decide) (tX9_apart_ok l)
noncomputable def tX4_reachersOf : List (Nat × xO) := [(0, x_push (.int (nI 0)) 1), (1, x_istore 2 1), (2, x_push (.int (nI 0)) 1), (3, x_istore 3 1), (4, x_iload 3 1), (5, x_aload 0 1), (6, x_getI 3 1), (9, x_cmpge 34), (12, x_aload 0 1), (13, x_iload 3 1), (14, x_iload 1 1), (15, x_push (.int (nI 0)) 1), (16, x_callV 3 0 4 FX4_nameReaches), (19, x_ifeq 28), (22, x_iload 2 1), (23, x_push (.int (nI 1)) 1), (24, x_iload 3 1), (25, x_ii (fun x y => x <<< (y &&& 31))), (26, x_ii (fun x y => x ||| y)), (27, x_istore 2 1), (28, x_iinc 3 (nI 1)), (31, x_goto 4), (34, x_iload 2 1), (35, x_iret)]
set_option maxRecDepth 100000 in
theorem tX4_reachersOf_ok (l : Launch) : ∀ q ∈ tX4_reachersOf, xOK l cX4_reachersOf RX4 4 5 0 (yX4_reachersOf.name = "<init>") q.1 q.2 := by
  unfold tX4_reachersOf
  refine List.forall_mem_cons.mpr ⟨?_, List.forall_mem_cons.mpr ⟨?_, List.forall_mem_cons.mpr ⟨?_, List.forall_mem_cons.mpr ⟨?_, List.forall_mem_cons.mpr ⟨?_, List.forall_mem_cons.mpr ⟨?_, List.forall_mem_cons.mpr ⟨?_, List.forall_mem_cons.mpr ⟨?_, List.forall_mem_cons.mpr ⟨?_, List.forall_mem_cons.mpr ⟨?_, List.forall_mem_cons.mpr ⟨?_, List.forall_mem_cons.mpr ⟨?_, List.forall_mem_cons.mpr ⟨?_, List.forall_mem_cons.mpr ⟨?_, List.forall_mem_cons.mpr ⟨?_, List.forall_mem_cons.mpr ⟨?_, List.forall_mem_cons.mpr ⟨?_, List.forall_mem_cons.mpr ⟨?_, List.forall_mem_cons.mpr ⟨?_, List.forall_mem_cons.mpr ⟨?_, List.forall_mem_cons.mpr ⟨?_, List.forall_mem_cons.mpr ⟨?_, List.forall_mem_cons.mpr ⟨?_, List.forall_mem_cons.mpr ⟨?_, fun _ h => absurd h List.not_mem_nil⟩⟩⟩⟩⟩⟩⟩⟩⟩⟩⟩⟩⟩⟩⟩⟩⟩⟩⟩⟩⟩⟩⟩⟩
  · exact x_iconst_ok (show decode cX4_reachersOf 0 = .ok (.iconst 0, 1) by decide +kernel) (by decide)
  · exact x_istore_n_ok (show decode cX4_reachersOf 1 = .ok (.istore_n 2, 1) by decide +kernel) rfl (by decide)
  · exact x_iconst_ok (show decode cX4_reachersOf 2 = .ok (.iconst 0, 1) by decide +kernel) (by decide)
  · exact x_istore_n_ok (show decode cX4_reachersOf 3 = .ok (.istore_n 3, 1) by decide +kernel) rfl (by decide)
  · exact x_iload_n_ok (show decode cX4_reachersOf 4 = .ok (.iload_n 3, 1) by decide +kernel) rfl
  · exact x_aload_n_ok (show decode cX4_reachersOf 5 = .ok (.aload_n 0, 1) by decide +kernel) rfl
  · exact x_getI_ok (ci := 3) (k := 1) rfl (by decide) (by decide) hw_175 (show decode cX4_reachersOf 6 = .ok (.getfield 22, 3) by decide +kernel)
  · exact x_cmpge_ok (show decode cX4_reachersOf 9 = .ok (.if_icmp .ge 25, 3) by decide +kernel) (by decide)
  · exact x_aload_n_ok (show decode cX4_reachersOf 12 = .ok (.aload_n 0, 1) by decide +kernel) rfl
  · exact x_iload_n_ok (show decode cX4_reachersOf 13 = .ok (.iload_n 3, 1) by decide +kernel) rfl
  · exact x_iload_n_ok (show decode cX4_reachersOf 14 = .ok (.iload_n 1, 1) by decide +kernel) rfl
  · exact x_iconst_ok (show decode cX4_reachersOf 15 = .ok (.iconst 0, 1) by decide +kernel) (by decide)
  · exact x_callV_ok (ci := 3) rfl (by decide) (sX4_nameReaches l) hw_505 hw_502 hw_503 hw_504 hw_64 ⟨by decide, by decide, by decide +kernel⟩ rfl (by decide) (by decide) (show decode cX4_reachersOf 16 = .ok (.invokevirtual 74, 3) by decide +kernel)
  · exact x_ifeq_ok (show decode cX4_reachersOf 19 = .ok (.ifCond .eq 9, 3) by decide +kernel) (by decide)
  · exact x_iload_n_ok (show decode cX4_reachersOf 22 = .ok (.iload_n 2, 1) by decide +kernel) rfl
  · exact x_iconst_ok (show decode cX4_reachersOf 23 = .ok (.iconst 1, 1) by decide +kernel) (by decide)
  · exact x_iload_n_ok (show decode cX4_reachersOf 24 = .ok (.iload_n 3, 1) by decide +kernel) rfl
  · exact x_ishl_ok (show decode cX4_reachersOf 25 = .ok (.ishl, 1) by decide +kernel)
  · exact x_ior_ok (show decode cX4_reachersOf 26 = .ok (.ior, 1) by decide +kernel)
  · exact x_istore_n_ok (show decode cX4_reachersOf 27 = .ok (.istore_n 2, 1) by decide +kernel) rfl (by decide)
  · exact x_iinc_ok (show decode cX4_reachersOf 28 = .ok (.iinc 3 1, 3) by decide +kernel) (by decide) (by decide)
  · exact x_goto_ok (show decode cX4_reachersOf 31 = .ok (.goto (-27), 3) by decide +kernel) (by decide)
  · exact x_iload_n_ok (show decode cX4_reachersOf 34 = .ok (.iload_n 2, 1) by decide +kernel) rfl
  · exact x_iret_ok (show decode cX4_reachersOf 35 = .ok (.ireturn, 1) by decide +kernel)
noncomputable def FX4_reachersOf : List Value → xS → Option xR := xden tX4_reachersOf 4 (some .int) 0
theorem sX4_reachersOf (l : Launch) : xSound l yX4_reachersOf cX4_reachersOf 4 (some .int) 5 0 FX4_reachersOf := x_den (by decide) (tX4_reachersOf_ok l)
noncomputable def tX8_called : List (Nat × xO) := [(0, x_iload 1 1), (1, x_push (.int (nI 216)) 3), (4, x_call 0 2 FX8_among), (7, x_ifne 12), (10, x_push (.int (-1)) 1), (11, x_iret), (12, x_aload 0 1), (13, x_aload 0 1), (14, x_getR 6 2), (17, x_iload 1 1), (18, x_callV 3 0 2 FX4_reachersOf), (21, x_putI 6 10), (24, x_aload 0 1), (25, x_getR 6 2), (28, x_iload 1 1), (29, x_push (.int (nI 0)) 1), (30, x_callV 3 0 3 FX4_callerOf), (33, x_iret)]
set_option maxRecDepth 100000 in
theorem tX8_called_ok (l : Launch) : ∀ q ∈ tX8_called, xOK l cX8_called RX8 2 6 0 (yX8_called.name = "<init>") q.1 q.2 := by
  unfold tX8_called
  refine List.forall_mem_cons.mpr ⟨?_, List.forall_mem_cons.mpr ⟨?_, List.forall_mem_cons.mpr ⟨?_, List.forall_mem_cons.mpr ⟨?_, List.forall_mem_cons.mpr ⟨?_, List.forall_mem_cons.mpr ⟨?_, List.forall_mem_cons.mpr ⟨?_, List.forall_mem_cons.mpr ⟨?_, List.forall_mem_cons.mpr ⟨?_, List.forall_mem_cons.mpr ⟨?_, List.forall_mem_cons.mpr ⟨?_, List.forall_mem_cons.mpr ⟨?_, List.forall_mem_cons.mpr ⟨?_, List.forall_mem_cons.mpr ⟨?_, List.forall_mem_cons.mpr ⟨?_, List.forall_mem_cons.mpr ⟨?_, List.forall_mem_cons.mpr ⟨?_, List.forall_mem_cons.mpr ⟨?_, fun _ h => absurd h List.not_mem_nil⟩⟩⟩⟩⟩⟩⟩⟩⟩⟩⟩⟩⟩⟩⟩⟩⟩⟩
  · exact x_iload_n_ok (show decode cX8_called 0 = .ok (.iload_n 1, 1) by decide +kernel) rfl
  · exact x_sipush_ok (show decode cX8_called 1 = .ok (.sipush 216, 3) by decide +kernel) (by decide)
  · exact x_callS_ok (sX8_among l) hw_268 hw_266 hw_267 hw_61 ⟨by decide, by decide, by decide +kernel⟩ (by decide) (by decide) (show decode cX8_called 4 = .ok (.invokestatic 65, 3) by decide +kernel)
  · exact x_ifne_ok (show decode cX8_called 7 = .ok (.ifCond .ne 5, 3) by decide +kernel) (by decide)
  · exact x_iconst_ok (show decode cX8_called 10 = .ok (.iconst (-1), 1) by decide +kernel) (by decide)
  · exact x_iret_ok (show decode cX8_called 11 = .ok (.ireturn, 1) by decide +kernel)
  · exact x_aload_n_ok (show decode cX8_called 12 = .ok (.aload_n 0, 1) by decide +kernel) rfl
  · exact x_aload_n_ok (show decode cX8_called 13 = .ok (.aload_n 0, 1) by decide +kernel) rfl
  · exact x_getR_ok (ci := 6) (k := 2) rfl (by decide) (by decide) hw_224 (show decode cX8_called 14 = .ok (.getfield 26, 3) by decide +kernel)
  · exact x_iload_n_ok (show decode cX8_called 17 = .ok (.iload_n 1, 1) by decide +kernel) rfl
  · exact x_callV_ok (ci := 3) rfl (by decide) (sX4_reachersOf l) hw_587 hw_584 hw_585 hw_586 hw_64 ⟨by decide, by decide, by decide +kernel⟩ rfl (by decide) (by decide) (show decode cX8_called 18 = .ok (.invokevirtual 191, 3) by decide +kernel)
  · exact x_putI_ok (ci := 6) (k := 10) rfl (by decide) (by decide) rfl hw_232 rfl (show decode cX8_called 21 = .ok (.putfield 84, 3) by decide +kernel)
  · exact x_aload_n_ok (show decode cX8_called 24 = .ok (.aload_n 0, 1) by decide +kernel) rfl
  · exact x_getR_ok (ci := 6) (k := 2) rfl (by decide) (by decide) hw_224 (show decode cX8_called 25 = .ok (.getfield 26, 3) by decide +kernel)
  · exact x_iload_n_ok (show decode cX8_called 28 = .ok (.iload_n 1, 1) by decide +kernel) rfl
  · exact x_iconst_ok (show decode cX8_called 29 = .ok (.iconst 0, 1) by decide +kernel) (by decide)
  · exact x_callV_ok (ci := 3) rfl (by decide) (sX4_callerOf l) hw_501 hw_534 hw_499 hw_500 hw_64 ⟨by decide, by decide, by decide +kernel⟩ rfl (by decide) (by decide) (show decode cX8_called 30 = .ok (.invokevirtual 169, 3) by decide +kernel)
  · exact x_iret_ok (show decode cX8_called 33 = .ok (.ireturn, 1) by decide +kernel)
noncomputable def FX8_called : List Value → xS → Option xR := xden tX8_called 2 (some .int) 0
theorem sX8_called (l : Launch) : xSound l yX8_called cX8_called 2 (some .int) 6 0 FX8_called := x_den (by decide) (tX8_called_ok l)
noncomputable def tX9_called : List (Nat × xO) := [(0, x_iload 1 1), (1, x_call 0 1 FX9_isShade), (4, x_ifne 9), (7, x_push (.int (-1)) 1), (8, x_iret), (9, x_aload 0 1), (10, x_aload 0 1), (11, x_iload 1 1), (12, x_callV 7 0 2 FX9_reaching), (15, x_putI 7 5), (18, x_aload 0 1), (19, x_getI 7 5), (22, x_call 0 1 FX9_firstOf), (25, x_iret)]
set_option maxRecDepth 100000 in
theorem tX9_called_ok (l : Launch) : ∀ q ∈ tX9_called, xOK l cX9_called RX9 2 6 0 (yX9_called.name = "<init>") q.1 q.2 := by
  unfold tX9_called
  refine List.forall_mem_cons.mpr ⟨?_, List.forall_mem_cons.mpr ⟨?_, List.forall_mem_cons.mpr ⟨?_, List.forall_mem_cons.mpr ⟨?_, List.forall_mem_cons.mpr ⟨?_, List.forall_mem_cons.mpr ⟨?_, List.forall_mem_cons.mpr ⟨?_, List.forall_mem_cons.mpr ⟨?_, List.forall_mem_cons.mpr ⟨?_, List.forall_mem_cons.mpr ⟨?_, List.forall_mem_cons.mpr ⟨?_, List.forall_mem_cons.mpr ⟨?_, List.forall_mem_cons.mpr ⟨?_, List.forall_mem_cons.mpr ⟨?_, fun _ h => absurd h List.not_mem_nil⟩⟩⟩⟩⟩⟩⟩⟩⟩⟩⟩⟩⟩⟩
  · exact x_iload_n_ok (show decode cX9_called 0 = .ok (.iload_n 1, 1) by decide +kernel) rfl
  · exact x_callS_ok (sX9_isShade l) hw_1095 hw_1093 hw_1094 hw_68 ⟨by decide, by decide, by decide +kernel⟩ (by decide) (by decide) (show decode cX9_called 1 = .ok (.invokestatic 198, 3) by decide +kernel)
  · exact x_ifne_ok (show decode cX9_called 4 = .ok (.ifCond .ne 5, 3) by decide +kernel) (by decide)
  · exact x_iconst_ok (show decode cX9_called 7 = .ok (.iconst (-1), 1) by decide +kernel) (by decide)
  · exact x_iret_ok (show decode cX9_called 8 = .ok (.ireturn, 1) by decide +kernel)
  · exact x_aload_n_ok (show decode cX9_called 9 = .ok (.aload_n 0, 1) by decide +kernel) rfl
  · exact x_aload_n_ok (show decode cX9_called 10 = .ok (.aload_n 0, 1) by decide +kernel) rfl
  · exact x_iload_n_ok (show decode cX9_called 11 = .ok (.iload_n 1, 1) by decide +kernel) rfl
  · exact x_callV_ok (ci := 7) rfl (by decide) (sX9_reaching l) hw_1058 hw_1055 hw_1057 hw_35 hw_68 ⟨by decide, by decide, by decide +kernel⟩ rfl (by decide) (by decide) (show decode cX9_called 12 = .ok (.invokevirtual 158, 3) by decide +kernel)
  · exact x_putI_ok (ci := 7) (k := 5) rfl (by decide) (by decide) rfl hw_849 rfl (show decode cX9_called 15 = .ok (.putfield 55, 3) by decide +kernel)
  · exact x_aload_n_ok (show decode cX9_called 18 = .ok (.aload_n 0, 1) by decide +kernel) rfl
  · exact x_getI_ok (ci := 7) (k := 5) rfl (by decide) (by decide) hw_849 (show decode cX9_called 19 = .ok (.getfield 55, 3) by decide +kernel)
  · exact x_callS_ok (sX9_firstOf l) hw_1065 hw_1063 hw_1064 hw_68 ⟨by decide, by decide, by decide +kernel⟩ (by decide) (by decide) (show decode cX9_called 22 = .ok (.invokestatic 161, 3) by decide +kernel)
  · exact x_iret_ok (show decode cX9_called 25 = .ok (.ireturn, 1) by decide +kernel)
noncomputable def FX9_called : List Value → xS → Option xR := xden tX9_called 2 (some .int) 0
theorem sX9_called (l : Launch) : xSound l yX9_called cX9_called 2 (some .int) 6 0 FX9_called := x_den (by decide) (tX9_called_ok l)
noncomputable def tX2_owed : List (Nat × xO) := [(0, x_aload 0 1), (1, x_getI 1 0), (4, x_push (.int (nI 5)) 1), (5, x_cmpne 12), (8, x_push (.int (nI 0)) 1), (9, x_goto 16), (12, x_aload 0 1), (13, x_getI 1 4), (16, x_iret)]
set_option maxRecDepth 100000 in
theorem tX2_owed_ok (l : Launch) : ∀ q ∈ tX2_owed, xOK l cX2_owed RX2 1 1 0 (yX2_owed.name = "<init>") q.1 q.2 := by
  unfold tX2_owed
  refine List.forall_mem_cons.mpr ⟨?_, List.forall_mem_cons.mpr ⟨?_, List.forall_mem_cons.mpr ⟨?_, List.forall_mem_cons.mpr ⟨?_, List.forall_mem_cons.mpr ⟨?_, List.forall_mem_cons.mpr ⟨?_, List.forall_mem_cons.mpr ⟨?_, List.forall_mem_cons.mpr ⟨?_, List.forall_mem_cons.mpr ⟨?_, fun _ h => absurd h List.not_mem_nil⟩⟩⟩⟩⟩⟩⟩⟩⟩
  · exact x_aload_n_ok (show decode cX2_owed 0 = .ok (.aload_n 0, 1) by decide +kernel) rfl
  · exact x_getI_ok (ci := 1) (k := 0) rfl (by decide) (by decide) hw_137 (show decode cX2_owed 1 = .ok (.getfield 7, 3) by decide +kernel)
  · exact x_iconst_ok (show decode cX2_owed 4 = .ok (.iconst 5, 1) by decide +kernel) (by decide)
  · exact x_cmpne_ok (show decode cX2_owed 5 = .ok (.if_icmp .ne 7, 3) by decide +kernel) (by decide)
  · exact x_iconst_ok (show decode cX2_owed 8 = .ok (.iconst 0, 1) by decide +kernel) (by decide)
  · exact x_goto_ok (show decode cX2_owed 9 = .ok (.goto 7, 3) by decide +kernel) (by decide)
  · exact x_aload_n_ok (show decode cX2_owed 12 = .ok (.aload_n 0, 1) by decide +kernel) rfl
  · exact x_getI_ok (ci := 1) (k := 4) rfl (by decide) (by decide) hw_152 (show decode cX2_owed 13 = .ok (.getfield 15, 3) by decide +kernel)
  · exact x_iret_ok (show decode cX2_owed 16 = .ok (.ireturn, 1) by decide +kernel)
noncomputable def FX2_owed : List Value → xS → Option xR := xden tX2_owed 1 (some .int) 0
theorem sX2_owed (l : Launch) : xSound l yX2_owed cX2_owed 1 (some .int) 1 0 FX2_owed := x_den (by decide) (tX2_owed_ok l)
noncomputable def tX4_owedBy : List (Nat × xO) := [(0, x_aload 0 1), (1, x_iload 2 1), (2, x_push (.int (nI 0)) 1), (3, x_callV 3 0 3 FX4_callerOf), (6, x_istore 3 1), (7, x_iload 3 1), (8, x_push (.int (-9)) 2), (10, x_cmpeq 26), (13, x_aload 0 1), (14, x_getR 3 0), (17, x_iload 3 1), (18, x_aald), (19, x_getI 1 3), (22, x_iload 1 1), (23, x_cmpne 30), (26, x_push (.int (nI 0)) 1), (27, x_goto 39), (30, x_aload 0 1), (31, x_getR 3 0), (34, x_iload 3 1), (35, x_aald), (36, x_callV 1 0 1 FX2_owed), (39, x_iret)]
set_option maxRecDepth 100000 in
theorem tX4_owedBy_ok (l : Launch) : ∀ q ∈ tX4_owedBy, xOK l cX4_owedBy RX4 4 6 0 (yX4_owedBy.name = "<init>") q.1 q.2 := by
  unfold tX4_owedBy
  refine List.forall_mem_cons.mpr ⟨?_, List.forall_mem_cons.mpr ⟨?_, List.forall_mem_cons.mpr ⟨?_, List.forall_mem_cons.mpr ⟨?_, List.forall_mem_cons.mpr ⟨?_, List.forall_mem_cons.mpr ⟨?_, List.forall_mem_cons.mpr ⟨?_, List.forall_mem_cons.mpr ⟨?_, List.forall_mem_cons.mpr ⟨?_, List.forall_mem_cons.mpr ⟨?_, List.forall_mem_cons.mpr ⟨?_, List.forall_mem_cons.mpr ⟨?_, List.forall_mem_cons.mpr ⟨?_, List.forall_mem_cons.mpr ⟨?_, List.forall_mem_cons.mpr ⟨?_, List.forall_mem_cons.mpr ⟨?_, List.forall_mem_cons.mpr ⟨?_, List.forall_mem_cons.mpr ⟨?_, List.forall_mem_cons.mpr ⟨?_, List.forall_mem_cons.mpr ⟨?_, List.forall_mem_cons.mpr ⟨?_, List.forall_mem_cons.mpr ⟨?_, List.forall_mem_cons.mpr ⟨?_, fun _ h => absurd h List.not_mem_nil⟩⟩⟩⟩⟩⟩⟩⟩⟩⟩⟩⟩⟩⟩⟩⟩⟩⟩⟩⟩⟩⟩⟩
  · exact x_aload_n_ok (show decode cX4_owedBy 0 = .ok (.aload_n 0, 1) by decide +kernel) rfl
  · exact x_iload_n_ok (show decode cX4_owedBy 1 = .ok (.iload_n 2, 1) by decide +kernel) rfl
  · exact x_iconst_ok (show decode cX4_owedBy 2 = .ok (.iconst 0, 1) by decide +kernel) (by decide)
  · exact x_callV_ok (ci := 3) rfl (by decide) (sX4_callerOf l) hw_501 hw_498 hw_499 hw_500 hw_64 ⟨by decide, by decide, by decide +kernel⟩ rfl (by decide) (by decide) (show decode cX4_owedBy 3 = .ok (.invokevirtual 78, 3) by decide +kernel)
  · exact x_istore_n_ok (show decode cX4_owedBy 6 = .ok (.istore_n 3, 1) by decide +kernel) rfl (by decide)
  · exact x_iload_n_ok (show decode cX4_owedBy 7 = .ok (.iload_n 3, 1) by decide +kernel) rfl
  · exact x_bipush_ok (show decode cX4_owedBy 8 = .ok (.bipush (-9), 2) by decide +kernel) (by decide)
  · exact x_cmpeq_ok (show decode cX4_owedBy 10 = .ok (.if_icmp .eq 16, 3) by decide +kernel) (by decide)
  · exact x_aload_n_ok (show decode cX4_owedBy 13 = .ok (.aload_n 0, 1) by decide +kernel) rfl
  · exact x_getR_ok (ci := 3) (k := 0) rfl (by decide) (by decide) hw_173 (show decode cX4_owedBy 14 = .ok (.getfield 13, 3) by decide +kernel)
  · exact x_iload_n_ok (show decode cX4_owedBy 17 = .ok (.iload_n 3, 1) by decide +kernel) rfl
  · exact x_aald_ok (show decode cX4_owedBy 18 = .ok (.aaload, 1) by decide +kernel)
  · exact x_getI_ok (ci := 1) (k := 3) rfl (by decide) (by decide) hw_149 (show decode cX4_owedBy 19 = .ok (.getfield 49, 3) by decide +kernel)
  · exact x_iload_n_ok (show decode cX4_owedBy 22 = .ok (.iload_n 1, 1) by decide +kernel) rfl
  · exact x_cmpne_ok (show decode cX4_owedBy 23 = .ok (.if_icmp .ne 7, 3) by decide +kernel) (by decide)
  · exact x_iconst_ok (show decode cX4_owedBy 26 = .ok (.iconst 0, 1) by decide +kernel) (by decide)
  · exact x_goto_ok (show decode cX4_owedBy 27 = .ok (.goto 12, 3) by decide +kernel) (by decide)
  · exact x_aload_n_ok (show decode cX4_owedBy 30 = .ok (.aload_n 0, 1) by decide +kernel) rfl
  · exact x_getR_ok (ci := 3) (k := 0) rfl (by decide) (by decide) hw_173 (show decode cX4_owedBy 31 = .ok (.getfield 13, 3) by decide +kernel)
  · exact x_iload_n_ok (show decode cX4_owedBy 34 = .ok (.iload_n 3, 1) by decide +kernel) rfl
  · exact x_aald_ok (show decode cX4_owedBy 35 = .ok (.aaload, 1) by decide +kernel)
  · exact x_callV_ok (ci := 1) rfl (by decide) (sX2_owed l) hw_599 hw_596 hw_597 hw_598 hw_65 ⟨by decide, by decide, by decide +kernel⟩ rfl (by decide) (by decide) (show decode cX4_owedBy 36 = .ok (.invokevirtual 81, 3) by decide +kernel)
  · exact x_iret_ok (show decode cX4_owedBy 39 = .ok (.ireturn, 1) by decide +kernel)
noncomputable def FX4_owedBy : List Value → xS → Option xR := xden tX4_owedBy 4 (some .int) 0
theorem sX4_owedBy (l : Launch) : xSound l yX4_owedBy cX4_owedBy 4 (some .int) 6 0 FX4_owedBy := x_den (by decide) (tX4_owedBy_ok l)
noncomputable def tX8_owes : List (Nat × xO) := [(0, x_iload 1 1), (1, x_push (.int (nI 4)) 1), (2, x_call 0 2 FX8_among), (5, x_ifeq 18), (8, x_iload 2 1), (9, x_push (.int (nI 216)) 3), (12, x_call 0 2 FX8_among), (15, x_ifne 20), (18, x_push (.int (-1)) 1), (19, x_iret), (20, x_aload 0 1), (21, x_getR 6 2), (24, x_iload 1 1), (25, x_iload 2 1), (26, x_callV 3 0 3 FX4_owedBy), (29, x_iret)]
set_option maxRecDepth 100000 in
theorem tX8_owes_ok (l : Launch) : ∀ q ∈ tX8_owes, xOK l cX8_owes RX8 3 7 0 (yX8_owes.name = "<init>") q.1 q.2 := by
  unfold tX8_owes
  refine List.forall_mem_cons.mpr ⟨?_, List.forall_mem_cons.mpr ⟨?_, List.forall_mem_cons.mpr ⟨?_, List.forall_mem_cons.mpr ⟨?_, List.forall_mem_cons.mpr ⟨?_, List.forall_mem_cons.mpr ⟨?_, List.forall_mem_cons.mpr ⟨?_, List.forall_mem_cons.mpr ⟨?_, List.forall_mem_cons.mpr ⟨?_, List.forall_mem_cons.mpr ⟨?_, List.forall_mem_cons.mpr ⟨?_, List.forall_mem_cons.mpr ⟨?_, List.forall_mem_cons.mpr ⟨?_, List.forall_mem_cons.mpr ⟨?_, List.forall_mem_cons.mpr ⟨?_, List.forall_mem_cons.mpr ⟨?_, fun _ h => absurd h List.not_mem_nil⟩⟩⟩⟩⟩⟩⟩⟩⟩⟩⟩⟩⟩⟩⟩⟩
  · exact x_iload_n_ok (show decode cX8_owes 0 = .ok (.iload_n 1, 1) by decide +kernel) rfl
  · exact x_iconst_ok (show decode cX8_owes 1 = .ok (.iconst 4, 1) by decide +kernel) (by decide)
  · exact x_callS_ok (sX8_among l) hw_268 hw_266 hw_267 hw_61 ⟨by decide, by decide, by decide +kernel⟩ (by decide) (by decide) (show decode cX8_owes 2 = .ok (.invokestatic 65, 3) by decide +kernel)
  · exact x_ifeq_ok (show decode cX8_owes 5 = .ok (.ifCond .eq 13, 3) by decide +kernel) (by decide)
  · exact x_iload_n_ok (show decode cX8_owes 8 = .ok (.iload_n 2, 1) by decide +kernel) rfl
  · exact x_sipush_ok (show decode cX8_owes 9 = .ok (.sipush 216, 3) by decide +kernel) (by decide)
  · exact x_callS_ok (sX8_among l) hw_268 hw_266 hw_267 hw_61 ⟨by decide, by decide, by decide +kernel⟩ (by decide) (by decide) (show decode cX8_owes 12 = .ok (.invokestatic 65, 3) by decide +kernel)
  · exact x_ifne_ok (show decode cX8_owes 15 = .ok (.ifCond .ne 5, 3) by decide +kernel) (by decide)
  · exact x_iconst_ok (show decode cX8_owes 18 = .ok (.iconst (-1), 1) by decide +kernel) (by decide)
  · exact x_iret_ok (show decode cX8_owes 19 = .ok (.ireturn, 1) by decide +kernel)
  · exact x_aload_n_ok (show decode cX8_owes 20 = .ok (.aload_n 0, 1) by decide +kernel) rfl
  · exact x_getR_ok (ci := 6) (k := 2) rfl (by decide) (by decide) hw_224 (show decode cX8_owes 21 = .ok (.getfield 26, 3) by decide +kernel)
  · exact x_iload_n_ok (show decode cX8_owes 24 = .ok (.iload_n 1, 1) by decide +kernel) rfl
  · exact x_iload_n_ok (show decode cX8_owes 25 = .ok (.iload_n 2, 1) by decide +kernel) rfl
  · exact x_callV_ok (ci := 3) rfl (by decide) (sX4_owedBy l) hw_595 hw_592 hw_593 hw_594 hw_64 ⟨by decide, by decide, by decide +kernel⟩ rfl (by decide) (by decide) (show decode cX8_owes 26 = .ok (.invokevirtual 194, 3) by decide +kernel)
  · exact x_iret_ok (show decode cX8_owes 29 = .ok (.ireturn, 1) by decide +kernel)
noncomputable def FX8_owes : List Value → xS → Option xR := xden tX8_owes 3 (some .int) 0
theorem sX8_owes (l : Launch) : xSound l yX8_owes cX8_owes 3 (some .int) 7 0 FX8_owes := x_den (by decide) (tX8_owes_ok l)
noncomputable def tX9_dueFor : List (Nat × xO) := [(0, x_aload 0 1), (1, x_iload 2 1), (2, x_callV 7 0 2 FX9_caller), (5, x_istore 3 1), (6, x_iload 3 1), (7, x_push (.int (-9)) 2), (9, x_cmpeq 32), (12, x_aload 0 1), (13, x_iload 3 1), (14, x_push (.int (nI 4)) 1), (15, x_callV 7 0 3 FX9_of), (18, x_iload 1 1), (19, x_cmpeq 32), (22, x_aload 0 1), (23, x_iload 3 1), (24, x_push (.int (nI 0)) 1), (25, x_callV 7 0 3 FX9_of), (28, x_push (.int (nI 5)) 1), (29, x_cmpne 36), (32, x_push (.int (nI 0)) 1), (33, x_goto 42), (36, x_aload 0 1), (37, x_iload 3 1), (38, x_push (.int (nI 5)) 1), (39, x_callV 7 0 3 FX9_of), (42, x_iret)]
set_option maxRecDepth 100000 in
theorem tX9_dueFor_ok (l : Launch) : ∀ q ∈ tX9_dueFor, xOK l cX9_dueFor RX9 4 7 0 (yX9_dueFor.name = "<init>") q.1 q.2 := by
  unfold tX9_dueFor
  refine List.forall_mem_cons.mpr ⟨?_, List.forall_mem_cons.mpr ⟨?_, List.forall_mem_cons.mpr ⟨?_, List.forall_mem_cons.mpr ⟨?_, List.forall_mem_cons.mpr ⟨?_, List.forall_mem_cons.mpr ⟨?_, List.forall_mem_cons.mpr ⟨?_, List.forall_mem_cons.mpr ⟨?_, List.forall_mem_cons.mpr ⟨?_, List.forall_mem_cons.mpr ⟨?_, List.forall_mem_cons.mpr ⟨?_, List.forall_mem_cons.mpr ⟨?_, List.forall_mem_cons.mpr ⟨?_, List.forall_mem_cons.mpr ⟨?_, List.forall_mem_cons.mpr ⟨?_, List.forall_mem_cons.mpr ⟨?_, List.forall_mem_cons.mpr ⟨?_, List.forall_mem_cons.mpr ⟨?_, List.forall_mem_cons.mpr ⟨?_, List.forall_mem_cons.mpr ⟨?_, List.forall_mem_cons.mpr ⟨?_, List.forall_mem_cons.mpr ⟨?_, List.forall_mem_cons.mpr ⟨?_, List.forall_mem_cons.mpr ⟨?_, List.forall_mem_cons.mpr ⟨?_, List.forall_mem_cons.mpr ⟨?_, fun _ h => absurd h List.not_mem_nil⟩⟩⟩⟩⟩⟩⟩⟩⟩⟩⟩⟩⟩⟩⟩⟩⟩⟩⟩⟩⟩⟩⟩⟩⟩⟩
  · exact x_aload_n_ok (show decode cX9_dueFor 0 = .ok (.aload_n 0, 1) by decide +kernel) rfl
  · exact x_iload_n_ok (show decode cX9_dueFor 1 = .ok (.iload_n 2, 1) by decide +kernel) rfl
  · exact x_callV_ok (ci := 7) rfl (by decide) (sX9_caller l) hw_1054 hw_1051 hw_1053 hw_34 hw_68 ⟨by decide, by decide, by decide +kernel⟩ rfl (by decide) (by decide) (show decode cX9_dueFor 2 = .ok (.invokevirtual 164, 3) by decide +kernel)
  · exact x_istore_n_ok (show decode cX9_dueFor 5 = .ok (.istore_n 3, 1) by decide +kernel) rfl (by decide)
  · exact x_iload_n_ok (show decode cX9_dueFor 6 = .ok (.iload_n 3, 1) by decide +kernel) rfl
  · exact x_bipush_ok (show decode cX9_dueFor 7 = .ok (.bipush (-9), 2) by decide +kernel) (by decide)
  · exact x_cmpeq_ok (show decode cX9_dueFor 9 = .ok (.if_icmp .eq 23, 3) by decide +kernel) (by decide)
  · exact x_aload_n_ok (show decode cX9_dueFor 12 = .ok (.aload_n 0, 1) by decide +kernel) rfl
  · exact x_iload_n_ok (show decode cX9_dueFor 13 = .ok (.iload_n 3, 1) by decide +kernel) rfl
  · exact x_iconst_ok (show decode cX9_dueFor 14 = .ok (.iconst 4, 1) by decide +kernel) (by decide)
  · exact x_callV_ok (ci := 7) rfl (by decide) (sX9_of l) hw_1019 hw_1016 hw_1018 hw_30 hw_68 ⟨by decide, by decide, by decide +kernel⟩ rfl (by decide) (by decide) (show decode cX9_dueFor 15 = .ok (.invokevirtual 128, 3) by decide +kernel)
  · exact x_iload_n_ok (show decode cX9_dueFor 18 = .ok (.iload_n 1, 1) by decide +kernel) rfl
  · exact x_cmpeq_ok (show decode cX9_dueFor 19 = .ok (.if_icmp .eq 13, 3) by decide +kernel) (by decide)
  · exact x_aload_n_ok (show decode cX9_dueFor 22 = .ok (.aload_n 0, 1) by decide +kernel) rfl
  · exact x_iload_n_ok (show decode cX9_dueFor 23 = .ok (.iload_n 3, 1) by decide +kernel) rfl
  · exact x_iconst_ok (show decode cX9_dueFor 24 = .ok (.iconst 0, 1) by decide +kernel) (by decide)
  · exact x_callV_ok (ci := 7) rfl (by decide) (sX9_of l) hw_1019 hw_1016 hw_1018 hw_30 hw_68 ⟨by decide, by decide, by decide +kernel⟩ rfl (by decide) (by decide) (show decode cX9_dueFor 25 = .ok (.invokevirtual 128, 3) by decide +kernel)
  · exact x_iconst_ok (show decode cX9_dueFor 28 = .ok (.iconst 5, 1) by decide +kernel) (by decide)
  · exact x_cmpne_ok (show decode cX9_dueFor 29 = .ok (.if_icmp .ne 7, 3) by decide +kernel) (by decide)
  · exact x_iconst_ok (show decode cX9_dueFor 32 = .ok (.iconst 0, 1) by decide +kernel) (by decide)
  · exact x_goto_ok (show decode cX9_dueFor 33 = .ok (.goto 9, 3) by decide +kernel) (by decide)
  · exact x_aload_n_ok (show decode cX9_dueFor 36 = .ok (.aload_n 0, 1) by decide +kernel) rfl
  · exact x_iload_n_ok (show decode cX9_dueFor 37 = .ok (.iload_n 3, 1) by decide +kernel) rfl
  · exact x_iconst_ok (show decode cX9_dueFor 38 = .ok (.iconst 5, 1) by decide +kernel) (by decide)
  · exact x_callV_ok (ci := 7) rfl (by decide) (sX9_of l) hw_1019 hw_1016 hw_1018 hw_30 hw_68 ⟨by decide, by decide, by decide +kernel⟩ rfl (by decide) (by decide) (show decode cX9_dueFor 39 = .ok (.invokevirtual 128, 3) by decide +kernel)
  · exact x_iret_ok (show decode cX9_dueFor 42 = .ok (.ireturn, 1) by decide +kernel)
noncomputable def FX9_dueFor : List Value → xS → Option xR := xden tX9_dueFor 4 (some .int) 0
theorem sX9_dueFor (l : Launch) : xSound l yX9_dueFor cX9_dueFor 4 (some .int) 7 0 FX9_dueFor := x_den (by decide) (tX9_dueFor_ok l)
noncomputable def tX9_owes : List (Nat × xO) := [(0, x_iload 1 1), (1, x_call 0 1 FX9_isPerson), (4, x_ifeq 23), (7, x_iload 2 1), (8, x_call 0 1 FX9_isShade), (11, x_ifeq 23), (14, x_aload 0 1), (15, x_iload 1 1), (16, x_iload 2 1), (17, x_callV 7 0 3 FX9_dueFor), (20, x_goto 24), (23, x_push (.int (-1)) 1), (24, x_iret)]
set_option maxRecDepth 100000 in
theorem tX9_owes_ok (l : Launch) : ∀ q ∈ tX9_owes, xOK l cX9_owes RX9 3 8 0 (yX9_owes.name = "<init>") q.1 q.2 := by
  unfold tX9_owes
  refine List.forall_mem_cons.mpr ⟨?_, List.forall_mem_cons.mpr ⟨?_, List.forall_mem_cons.mpr ⟨?_, List.forall_mem_cons.mpr ⟨?_, List.forall_mem_cons.mpr ⟨?_, List.forall_mem_cons.mpr ⟨?_, List.forall_mem_cons.mpr ⟨?_, List.forall_mem_cons.mpr ⟨?_, List.forall_mem_cons.mpr ⟨?_, List.forall_mem_cons.mpr ⟨?_, List.forall_mem_cons.mpr ⟨?_, List.forall_mem_cons.mpr ⟨?_, List.forall_mem_cons.mpr ⟨?_, fun _ h => absurd h List.not_mem_nil⟩⟩⟩⟩⟩⟩⟩⟩⟩⟩⟩⟩⟩
  · exact x_iload_n_ok (show decode cX9_owes 0 = .ok (.iload_n 1, 1) by decide +kernel) rfl
  · exact x_callS_ok (sX9_isPerson l) hw_1099 hw_1097 hw_1098 hw_68 ⟨by decide, by decide, by decide +kernel⟩ (by decide) (by decide) (show decode cX9_owes 1 = .ok (.invokestatic 201, 3) by decide +kernel)
  · exact x_ifeq_ok (show decode cX9_owes 4 = .ok (.ifCond .eq 19, 3) by decide +kernel) (by decide)
  · exact x_iload_n_ok (show decode cX9_owes 7 = .ok (.iload_n 2, 1) by decide +kernel) rfl
  · exact x_callS_ok (sX9_isShade l) hw_1095 hw_1093 hw_1094 hw_68 ⟨by decide, by decide, by decide +kernel⟩ (by decide) (by decide) (show decode cX9_owes 8 = .ok (.invokestatic 198, 3) by decide +kernel)
  · exact x_ifeq_ok (show decode cX9_owes 11 = .ok (.ifCond .eq 12, 3) by decide +kernel) (by decide)
  · exact x_aload_n_ok (show decode cX9_owes 14 = .ok (.aload_n 0, 1) by decide +kernel) rfl
  · exact x_iload_n_ok (show decode cX9_owes 15 = .ok (.iload_n 1, 1) by decide +kernel) rfl
  · exact x_iload_n_ok (show decode cX9_owes 16 = .ok (.iload_n 2, 1) by decide +kernel) rfl
  · exact x_callV_ok (ci := 7) rfl (by decide) (sX9_dueFor l) hw_1140 hw_1137 hw_1139 hw_42 hw_68 ⟨by decide, by decide, by decide +kernel⟩ rfl (by decide) (by decide) (show decode cX9_owes 17 = .ok (.invokevirtual 212, 3) by decide +kernel)
  · exact x_goto_ok (show decode cX9_owes 20 = .ok (.goto 4, 3) by decide +kernel) (by decide)
  · exact x_iconst_ok (show decode cX9_owes 23 = .ok (.iconst (-1), 1) by decide +kernel) (by decide)
  · exact x_iret_ok (show decode cX9_owes 24 = .ok (.ireturn, 1) by decide +kernel)
noncomputable def FX9_owes : List Value → xS → Option xR := xden tX9_owes 3 (some .int) 0
theorem sX9_owes (l : Launch) : xSound l yX9_owes cX9_owes 3 (some .int) 8 0 FX9_owes := x_den (by decide) (tX9_owes_ok l)
noncomputable def tX4_isDisputed : List (Nat × xO) := [(0, x_push (.int (-9)) 2), (2, x_istore 2 1), (3, x_push (.int (nI 0)) 1), (4, x_istore 3 1), (5, x_iload 3 1), (6, x_aload 0 1), (7, x_getI 3 1), (10, x_cmpge 60), (13, x_aload 0 1), (14, x_iload 3 1), (15, x_iload 1 1), (16, x_push (.int (nI 0)) 1), (17, x_callV 3 0 4 FX4_nameReaches), (20, x_ifeq 54), (23, x_iload 2 1), (24, x_push (.int (-9)) 2), (26, x_cmpeq 44), (29, x_iload 2 1), (30, x_aload 0 1), (31, x_getR 3 0), (34, x_iload 3 1), (35, x_aald), (36, x_getI 1 3), (39, x_cmpeq 44), (42, x_push (.int (nI 1)) 1), (43, x_iret), (44, x_aload 0 1), (45, x_getR 3 0), (48, x_iload 3 1), (49, x_aald), (50, x_getI 1 3), (53, x_istore 2 1), (54, x_iinc 3 (nI 1)), (57, x_goto 5), (60, x_push (.int (nI 0)) 1), (61, x_iret)]
set_option maxRecDepth 100000 in
theorem tX4_isDisputed_ok (l : Launch) : ∀ q ∈ tX4_isDisputed, xOK l cX4_isDisputed RX4 4 5 0 (yX4_isDisputed.name = "<init>") q.1 q.2 := by
  unfold tX4_isDisputed
  refine List.forall_mem_cons.mpr ⟨?_, List.forall_mem_cons.mpr ⟨?_, List.forall_mem_cons.mpr ⟨?_, List.forall_mem_cons.mpr ⟨?_, List.forall_mem_cons.mpr ⟨?_, List.forall_mem_cons.mpr ⟨?_, List.forall_mem_cons.mpr ⟨?_, List.forall_mem_cons.mpr ⟨?_, List.forall_mem_cons.mpr ⟨?_, List.forall_mem_cons.mpr ⟨?_, List.forall_mem_cons.mpr ⟨?_, List.forall_mem_cons.mpr ⟨?_, List.forall_mem_cons.mpr ⟨?_, List.forall_mem_cons.mpr ⟨?_, List.forall_mem_cons.mpr ⟨?_, List.forall_mem_cons.mpr ⟨?_, List.forall_mem_cons.mpr ⟨?_, List.forall_mem_cons.mpr ⟨?_, List.forall_mem_cons.mpr ⟨?_, List.forall_mem_cons.mpr ⟨?_, List.forall_mem_cons.mpr ⟨?_, List.forall_mem_cons.mpr ⟨?_, List.forall_mem_cons.mpr ⟨?_, List.forall_mem_cons.mpr ⟨?_, List.forall_mem_cons.mpr ⟨?_, List.forall_mem_cons.mpr ⟨?_, List.forall_mem_cons.mpr ⟨?_, List.forall_mem_cons.mpr ⟨?_, List.forall_mem_cons.mpr ⟨?_, List.forall_mem_cons.mpr ⟨?_, List.forall_mem_cons.mpr ⟨?_, List.forall_mem_cons.mpr ⟨?_, List.forall_mem_cons.mpr ⟨?_, List.forall_mem_cons.mpr ⟨?_, List.forall_mem_cons.mpr ⟨?_, List.forall_mem_cons.mpr ⟨?_, fun _ h => absurd h List.not_mem_nil⟩⟩⟩⟩⟩⟩⟩⟩⟩⟩⟩⟩⟩⟩⟩⟩⟩⟩⟩⟩⟩⟩⟩⟩⟩⟩⟩⟩⟩⟩⟩⟩⟩⟩⟩⟩
  · exact x_bipush_ok (show decode cX4_isDisputed 0 = .ok (.bipush (-9), 2) by decide +kernel) (by decide)
  · exact x_istore_n_ok (show decode cX4_isDisputed 2 = .ok (.istore_n 2, 1) by decide +kernel) rfl (by decide)
  · exact x_iconst_ok (show decode cX4_isDisputed 3 = .ok (.iconst 0, 1) by decide +kernel) (by decide)
  · exact x_istore_n_ok (show decode cX4_isDisputed 4 = .ok (.istore_n 3, 1) by decide +kernel) rfl (by decide)
  · exact x_iload_n_ok (show decode cX4_isDisputed 5 = .ok (.iload_n 3, 1) by decide +kernel) rfl
  · exact x_aload_n_ok (show decode cX4_isDisputed 6 = .ok (.aload_n 0, 1) by decide +kernel) rfl
  · exact x_getI_ok (ci := 3) (k := 1) rfl (by decide) (by decide) hw_175 (show decode cX4_isDisputed 7 = .ok (.getfield 22, 3) by decide +kernel)
  · exact x_cmpge_ok (show decode cX4_isDisputed 10 = .ok (.if_icmp .ge 50, 3) by decide +kernel) (by decide)
  · exact x_aload_n_ok (show decode cX4_isDisputed 13 = .ok (.aload_n 0, 1) by decide +kernel) rfl
  · exact x_iload_n_ok (show decode cX4_isDisputed 14 = .ok (.iload_n 3, 1) by decide +kernel) rfl
  · exact x_iload_n_ok (show decode cX4_isDisputed 15 = .ok (.iload_n 1, 1) by decide +kernel) rfl
  · exact x_iconst_ok (show decode cX4_isDisputed 16 = .ok (.iconst 0, 1) by decide +kernel) (by decide)
  · exact x_callV_ok (ci := 3) rfl (by decide) (sX4_nameReaches l) hw_505 hw_502 hw_503 hw_504 hw_64 ⟨by decide, by decide, by decide +kernel⟩ rfl (by decide) (by decide) (show decode cX4_isDisputed 17 = .ok (.invokevirtual 74, 3) by decide +kernel)
  · exact x_ifeq_ok (show decode cX4_isDisputed 20 = .ok (.ifCond .eq 34, 3) by decide +kernel) (by decide)
  · exact x_iload_n_ok (show decode cX4_isDisputed 23 = .ok (.iload_n 2, 1) by decide +kernel) rfl
  · exact x_bipush_ok (show decode cX4_isDisputed 24 = .ok (.bipush (-9), 2) by decide +kernel) (by decide)
  · exact x_cmpeq_ok (show decode cX4_isDisputed 26 = .ok (.if_icmp .eq 18, 3) by decide +kernel) (by decide)
  · exact x_iload_n_ok (show decode cX4_isDisputed 29 = .ok (.iload_n 2, 1) by decide +kernel) rfl
  · exact x_aload_n_ok (show decode cX4_isDisputed 30 = .ok (.aload_n 0, 1) by decide +kernel) rfl
  · exact x_getR_ok (ci := 3) (k := 0) rfl (by decide) (by decide) hw_173 (show decode cX4_isDisputed 31 = .ok (.getfield 13, 3) by decide +kernel)
  · exact x_iload_n_ok (show decode cX4_isDisputed 34 = .ok (.iload_n 3, 1) by decide +kernel) rfl
  · exact x_aald_ok (show decode cX4_isDisputed 35 = .ok (.aaload, 1) by decide +kernel)
  · exact x_getI_ok (ci := 1) (k := 3) rfl (by decide) (by decide) hw_149 (show decode cX4_isDisputed 36 = .ok (.getfield 49, 3) by decide +kernel)
  · exact x_cmpeq_ok (show decode cX4_isDisputed 39 = .ok (.if_icmp .eq 5, 3) by decide +kernel) (by decide)
  · exact x_iconst_ok (show decode cX4_isDisputed 42 = .ok (.iconst 1, 1) by decide +kernel) (by decide)
  · exact x_iret_ok (show decode cX4_isDisputed 43 = .ok (.ireturn, 1) by decide +kernel)
  · exact x_aload_n_ok (show decode cX4_isDisputed 44 = .ok (.aload_n 0, 1) by decide +kernel) rfl
  · exact x_getR_ok (ci := 3) (k := 0) rfl (by decide) (by decide) hw_173 (show decode cX4_isDisputed 45 = .ok (.getfield 13, 3) by decide +kernel)
  · exact x_iload_n_ok (show decode cX4_isDisputed 48 = .ok (.iload_n 3, 1) by decide +kernel) rfl
  · exact x_aald_ok (show decode cX4_isDisputed 49 = .ok (.aaload, 1) by decide +kernel)
  · exact x_getI_ok (ci := 1) (k := 3) rfl (by decide) (by decide) hw_149 (show decode cX4_isDisputed 50 = .ok (.getfield 49, 3) by decide +kernel)
  · exact x_istore_n_ok (show decode cX4_isDisputed 53 = .ok (.istore_n 2, 1) by decide +kernel) rfl (by decide)
  · exact x_iinc_ok (show decode cX4_isDisputed 54 = .ok (.iinc 3 1, 3) by decide +kernel) (by decide) (by decide)
  · exact x_goto_ok (show decode cX4_isDisputed 57 = .ok (.goto (-52), 3) by decide +kernel) (by decide)
  · exact x_iconst_ok (show decode cX4_isDisputed 60 = .ok (.iconst 0, 1) by decide +kernel) (by decide)
  · exact x_iret_ok (show decode cX4_isDisputed 61 = .ok (.ireturn, 1) by decide +kernel)
noncomputable def FX4_isDisputed : List Value → xS → Option xR := xden tX4_isDisputed 4 (some .boolean) 0
theorem sX4_isDisputed (l : Launch) : xSound l yX4_isDisputed cX4_isDisputed 4 (some .boolean) 5 0 FX4_isDisputed := x_den (by decide) (tX4_isDisputed_ok l)
noncomputable def tX8_tellChosen : List (Nat × xO) := [(0, x_push (.int (-9)) 2), (2, x_istore 1 1), (3, x_aload 0 1), (4, x_push (.int (nI 0)) 1), (5, x_putI 6 10), (8, x_push (.int (nI 0)) 1), (9, x_istore 2 1), (10, x_iload 2 1), (11, x_push (.int (nI 216)) 3), (14, x_cmpge 50), (17, x_aload 0 1), (18, x_getR 6 7), (21, x_iload 2 1), (22, x_bald), (23, x_ifeq 44), (26, x_aload 0 1), (27, x_dup), (28, x_getI 6 10), (31, x_push (.int (nI 1)) 1), (32, x_ii (fun x y => x + y)), (33, x_putI 6 10), (36, x_iload 1 1), (37, x_push (.int (-9)) 2), (39, x_cmpne 44), (42, x_iload 2 1), (43, x_istore 1 1), (44, x_iinc 2 (nI 1)), (47, x_goto 10), (50, x_iload 1 1), (51, x_iret)]
set_option maxRecDepth 100000 in
theorem tX8_tellChosen_ok (l : Launch) : ∀ q ∈ tX8_tellChosen, xOK l cX8_tellChosen RX8 3 1 0 (yX8_tellChosen.name = "<init>") q.1 q.2 := by
  unfold tX8_tellChosen
  refine List.forall_mem_cons.mpr ⟨?_, List.forall_mem_cons.mpr ⟨?_, List.forall_mem_cons.mpr ⟨?_, List.forall_mem_cons.mpr ⟨?_, List.forall_mem_cons.mpr ⟨?_, List.forall_mem_cons.mpr ⟨?_, List.forall_mem_cons.mpr ⟨?_, List.forall_mem_cons.mpr ⟨?_, List.forall_mem_cons.mpr ⟨?_, List.forall_mem_cons.mpr ⟨?_, List.forall_mem_cons.mpr ⟨?_, List.forall_mem_cons.mpr ⟨?_, List.forall_mem_cons.mpr ⟨?_, List.forall_mem_cons.mpr ⟨?_, List.forall_mem_cons.mpr ⟨?_, List.forall_mem_cons.mpr ⟨?_, List.forall_mem_cons.mpr ⟨?_, List.forall_mem_cons.mpr ⟨?_, List.forall_mem_cons.mpr ⟨?_, List.forall_mem_cons.mpr ⟨?_, List.forall_mem_cons.mpr ⟨?_, List.forall_mem_cons.mpr ⟨?_, List.forall_mem_cons.mpr ⟨?_, List.forall_mem_cons.mpr ⟨?_, List.forall_mem_cons.mpr ⟨?_, List.forall_mem_cons.mpr ⟨?_, List.forall_mem_cons.mpr ⟨?_, List.forall_mem_cons.mpr ⟨?_, List.forall_mem_cons.mpr ⟨?_, List.forall_mem_cons.mpr ⟨?_, fun _ h => absurd h List.not_mem_nil⟩⟩⟩⟩⟩⟩⟩⟩⟩⟩⟩⟩⟩⟩⟩⟩⟩⟩⟩⟩⟩⟩⟩⟩⟩⟩⟩⟩⟩⟩
  · exact x_bipush_ok (show decode cX8_tellChosen 0 = .ok (.bipush (-9), 2) by decide +kernel) (by decide)
  · exact x_istore_n_ok (show decode cX8_tellChosen 2 = .ok (.istore_n 1, 1) by decide +kernel) rfl (by decide)
  · exact x_aload_n_ok (show decode cX8_tellChosen 3 = .ok (.aload_n 0, 1) by decide +kernel) rfl
  · exact x_iconst_ok (show decode cX8_tellChosen 4 = .ok (.iconst 0, 1) by decide +kernel) (by decide)
  · exact x_putI_ok (ci := 6) (k := 10) rfl (by decide) (by decide) rfl hw_232 rfl (show decode cX8_tellChosen 5 = .ok (.putfield 84, 3) by decide +kernel)
  · exact x_iconst_ok (show decode cX8_tellChosen 8 = .ok (.iconst 0, 1) by decide +kernel) (by decide)
  · exact x_istore_n_ok (show decode cX8_tellChosen 9 = .ok (.istore_n 2, 1) by decide +kernel) rfl (by decide)
  · exact x_iload_n_ok (show decode cX8_tellChosen 10 = .ok (.iload_n 2, 1) by decide +kernel) rfl
  · exact x_sipush_ok (show decode cX8_tellChosen 11 = .ok (.sipush 216, 3) by decide +kernel) (by decide)
  · exact x_cmpge_ok (show decode cX8_tellChosen 14 = .ok (.if_icmp .ge 36, 3) by decide +kernel) (by decide)
  · exact x_aload_n_ok (show decode cX8_tellChosen 17 = .ok (.aload_n 0, 1) by decide +kernel) rfl
  · exact x_getR_ok (ci := 6) (k := 7) rfl (by decide) (by decide) hw_229 (show decode cX8_tellChosen 18 = .ok (.getfield 54, 3) by decide +kernel)
  · exact x_iload_n_ok (show decode cX8_tellChosen 21 = .ok (.iload_n 2, 1) by decide +kernel) rfl
  · exact x_bald_ok (show decode cX8_tellChosen 22 = .ok (.baload, 1) by decide +kernel)
  · exact x_ifeq_ok (show decode cX8_tellChosen 23 = .ok (.ifCond .eq 21, 3) by decide +kernel) (by decide)
  · exact x_aload_n_ok (show decode cX8_tellChosen 26 = .ok (.aload_n 0, 1) by decide +kernel) rfl
  · exact x_dup_ok (show decode cX8_tellChosen 27 = .ok (.dup, 1) by decide +kernel)
  · exact x_getI_ok (ci := 6) (k := 10) rfl (by decide) (by decide) hw_232 (show decode cX8_tellChosen 28 = .ok (.getfield 84, 3) by decide +kernel)
  · exact x_iconst_ok (show decode cX8_tellChosen 31 = .ok (.iconst 1, 1) by decide +kernel) (by decide)
  · exact x_iadd_ok (show decode cX8_tellChosen 32 = .ok (.iadd, 1) by decide +kernel)
  · exact x_putI_ok (ci := 6) (k := 10) rfl (by decide) (by decide) rfl hw_232 rfl (show decode cX8_tellChosen 33 = .ok (.putfield 84, 3) by decide +kernel)
  · exact x_iload_n_ok (show decode cX8_tellChosen 36 = .ok (.iload_n 1, 1) by decide +kernel) rfl
  · exact x_bipush_ok (show decode cX8_tellChosen 37 = .ok (.bipush (-9), 2) by decide +kernel) (by decide)
  · exact x_cmpne_ok (show decode cX8_tellChosen 39 = .ok (.if_icmp .ne 5, 3) by decide +kernel) (by decide)
  · exact x_iload_n_ok (show decode cX8_tellChosen 42 = .ok (.iload_n 2, 1) by decide +kernel) rfl
  · exact x_istore_n_ok (show decode cX8_tellChosen 43 = .ok (.istore_n 1, 1) by decide +kernel) rfl (by decide)
  · exact x_iinc_ok (show decode cX8_tellChosen 44 = .ok (.iinc 2 1, 3) by decide +kernel) (by decide) (by decide)
  · exact x_goto_ok (show decode cX8_tellChosen 47 = .ok (.goto (-37), 3) by decide +kernel) (by decide)
  · exact x_iload_n_ok (show decode cX8_tellChosen 50 = .ok (.iload_n 1, 1) by decide +kernel) rfl
  · exact x_iret_ok (show decode cX8_tellChosen 51 = .ok (.ireturn, 1) by decide +kernel)
noncomputable def FX8_tellChosen : List Value → xS → Option xR := xden tX8_tellChosen 3 (some .int) 0
theorem sX8_tellChosen (l : Launch) : xSound l yX8_tellChosen cX8_tellChosen 3 (some .int) 1 0 FX8_tellChosen := x_den (by decide) (tX8_tellChosen_ok l)
noncomputable def tX8_disputed : List (Nat × xO) := [(0, x_push (.int (nI 0)) 1), (1, x_istore 1 1), (2, x_iload 1 1), (3, x_push (.int (nI 216)) 3), (6, x_cmpge 29), (9, x_aload 0 1), (10, x_getR 6 7), (13, x_iload 1 1), (14, x_aload 0 1), (15, x_getR 6 2), (18, x_iload 1 1), (19, x_callV 3 0 2 FX4_isDisputed), (22, x_bastZ), (23, x_iinc 1 (nI 1)), (26, x_goto 2), (29, x_aload 0 1), (30, x_callV 6 0 1 FX8_tellChosen), (33, x_iret)]
set_option maxRecDepth 100000 in
theorem tX8_disputed_ok (l : Launch) : ∀ q ∈ tX8_disputed, xOK l cX8_disputed RX8 2 6 0 (yX8_disputed.name = "<init>") q.1 q.2 := by
  unfold tX8_disputed
  refine List.forall_mem_cons.mpr ⟨?_, List.forall_mem_cons.mpr ⟨?_, List.forall_mem_cons.mpr ⟨?_, List.forall_mem_cons.mpr ⟨?_, List.forall_mem_cons.mpr ⟨?_, List.forall_mem_cons.mpr ⟨?_, List.forall_mem_cons.mpr ⟨?_, List.forall_mem_cons.mpr ⟨?_, List.forall_mem_cons.mpr ⟨?_, List.forall_mem_cons.mpr ⟨?_, List.forall_mem_cons.mpr ⟨?_, List.forall_mem_cons.mpr ⟨?_, List.forall_mem_cons.mpr ⟨?_, List.forall_mem_cons.mpr ⟨?_, List.forall_mem_cons.mpr ⟨?_, List.forall_mem_cons.mpr ⟨?_, List.forall_mem_cons.mpr ⟨?_, List.forall_mem_cons.mpr ⟨?_, fun _ h => absurd h List.not_mem_nil⟩⟩⟩⟩⟩⟩⟩⟩⟩⟩⟩⟩⟩⟩⟩⟩⟩⟩
  · exact x_iconst_ok (show decode cX8_disputed 0 = .ok (.iconst 0, 1) by decide +kernel) (by decide)
  · exact x_istore_n_ok (show decode cX8_disputed 1 = .ok (.istore_n 1, 1) by decide +kernel) rfl (by decide)
  · exact x_iload_n_ok (show decode cX8_disputed 2 = .ok (.iload_n 1, 1) by decide +kernel) rfl
  · exact x_sipush_ok (show decode cX8_disputed 3 = .ok (.sipush 216, 3) by decide +kernel) (by decide)
  · exact x_cmpge_ok (show decode cX8_disputed 6 = .ok (.if_icmp .ge 23, 3) by decide +kernel) (by decide)
  · exact x_aload_n_ok (show decode cX8_disputed 9 = .ok (.aload_n 0, 1) by decide +kernel) rfl
  · exact x_getR_ok (ci := 6) (k := 7) rfl (by decide) (by decide) hw_229 (show decode cX8_disputed 10 = .ok (.getfield 54, 3) by decide +kernel)
  · exact x_iload_n_ok (show decode cX8_disputed 13 = .ok (.iload_n 1, 1) by decide +kernel) rfl
  · exact x_aload_n_ok (show decode cX8_disputed 14 = .ok (.aload_n 0, 1) by decide +kernel) rfl
  · exact x_getR_ok (ci := 6) (k := 2) rfl (by decide) (by decide) hw_224 (show decode cX8_disputed 15 = .ok (.getfield 26, 3) by decide +kernel)
  · exact x_iload_n_ok (show decode cX8_disputed 18 = .ok (.iload_n 1, 1) by decide +kernel) rfl
  · exact x_callV_ok (ci := 3) rfl (by decide) (sX4_isDisputed l) hw_607 hw_604 hw_605 hw_606 hw_64 ⟨by decide, by decide, by decide +kernel⟩ rfl (by decide) (by decide) (show decode cX8_disputed 19 = .ok (.invokevirtual 197, 3) by decide +kernel)
  · exact x_bastZ_ok (show decode cX8_disputed 22 = .ok (.bastore, 1) by decide +kernel)
  · exact x_iinc_ok (show decode cX8_disputed 23 = .ok (.iinc 1 1, 3) by decide +kernel) (by decide) (by decide)
  · exact x_goto_ok (show decode cX8_disputed 26 = .ok (.goto (-24), 3) by decide +kernel) (by decide)
  · exact x_aload_n_ok (show decode cX8_disputed 29 = .ok (.aload_n 0, 1) by decide +kernel) rfl
  · exact x_callV_ok (ci := 6) rfl (by decide) (sX8_tellChosen l) hw_611 hw_608 hw_610 hw_8 hw_61 ⟨by decide, by decide, by decide +kernel⟩ rfl (by decide) (by decide) (show decode cX8_disputed 30 = .ok (.invokevirtual 201, 3) by decide +kernel)
  · exact x_iret_ok (show decode cX8_disputed 33 = .ok (.ireturn, 1) by decide +kernel)
noncomputable def FX8_disputed : List Value → xS → Option xR := xden tX8_disputed 2 (some .int) 0
theorem sX8_disputed (l : Launch) : xSound l yX8_disputed cX8_disputed 2 (some .int) 6 0 FX8_disputed := x_den (by decide) (tX8_disputed_ok l)
noncomputable def tX9_ownersOf : List (Nat × xO) := [(0, x_aload 0 1), (1, x_iload 1 1), (2, x_callV 7 0 2 FX9_reaching), (5, x_istore 2 1), (6, x_push (.int (nI 0)) 1), (7, x_istore 3 1), (8, x_push (.int (nI 0)) 1), (9, x_istore 4 2), (11, x_iload 4 2), (13, x_aload 0 1), (14, x_getR 7 0), (17, x_push (.int (nI 1)) 1), (18, x_iald), (19, x_cmpge 53), (22, x_iload 3 1), (23, x_iload 2 1), (24, x_iload 4 2), (26, x_call 0 2 FX9_has), (29, x_ifeq 44), (32, x_push (.int (nI 1)) 1), (33, x_aload 0 1), (34, x_iload 4 2), (36, x_push (.int (nI 4)) 1), (37, x_callV 7 0 3 FX9_of), (40, x_ii (fun x y => x <<< (y &&& 31))), (41, x_goto 45), (44, x_push (.int (nI 0)) 1), (45, x_ii (fun x y => x ||| y)), (46, x_istore 3 1), (47, x_iinc 4 (nI 1)), (50, x_goto 11), (53, x_iload 3 1), (54, x_iret)]
set_option maxRecDepth 100000 in
theorem tX9_ownersOf_ok (l : Launch) : ∀ q ∈ tX9_ownersOf, xOK l cX9_ownersOf RX9 5 6 0 (yX9_ownersOf.name = "<init>") q.1 q.2 := by
  unfold tX9_ownersOf
  refine List.forall_mem_cons.mpr ⟨?_, List.forall_mem_cons.mpr ⟨?_, List.forall_mem_cons.mpr ⟨?_, List.forall_mem_cons.mpr ⟨?_, List.forall_mem_cons.mpr ⟨?_, List.forall_mem_cons.mpr ⟨?_, List.forall_mem_cons.mpr ⟨?_, List.forall_mem_cons.mpr ⟨?_, List.forall_mem_cons.mpr ⟨?_, List.forall_mem_cons.mpr ⟨?_, List.forall_mem_cons.mpr ⟨?_, List.forall_mem_cons.mpr ⟨?_, List.forall_mem_cons.mpr ⟨?_, List.forall_mem_cons.mpr ⟨?_, List.forall_mem_cons.mpr ⟨?_, List.forall_mem_cons.mpr ⟨?_, List.forall_mem_cons.mpr ⟨?_, List.forall_mem_cons.mpr ⟨?_, List.forall_mem_cons.mpr ⟨?_, List.forall_mem_cons.mpr ⟨?_, List.forall_mem_cons.mpr ⟨?_, List.forall_mem_cons.mpr ⟨?_, List.forall_mem_cons.mpr ⟨?_, List.forall_mem_cons.mpr ⟨?_, List.forall_mem_cons.mpr ⟨?_, List.forall_mem_cons.mpr ⟨?_, List.forall_mem_cons.mpr ⟨?_, List.forall_mem_cons.mpr ⟨?_, List.forall_mem_cons.mpr ⟨?_, List.forall_mem_cons.mpr ⟨?_, List.forall_mem_cons.mpr ⟨?_, List.forall_mem_cons.mpr ⟨?_, List.forall_mem_cons.mpr ⟨?_, fun _ h => absurd h List.not_mem_nil⟩⟩⟩⟩⟩⟩⟩⟩⟩⟩⟩⟩⟩⟩⟩⟩⟩⟩⟩⟩⟩⟩⟩⟩⟩⟩⟩⟩⟩⟩⟩⟩⟩
  · exact x_aload_n_ok (show decode cX9_ownersOf 0 = .ok (.aload_n 0, 1) by decide +kernel) rfl
  · exact x_iload_n_ok (show decode cX9_ownersOf 1 = .ok (.iload_n 1, 1) by decide +kernel) rfl
  · exact x_callV_ok (ci := 7) rfl (by decide) (sX9_reaching l) hw_1058 hw_1055 hw_1057 hw_35 hw_68 ⟨by decide, by decide, by decide +kernel⟩ rfl (by decide) (by decide) (show decode cX9_ownersOf 2 = .ok (.invokevirtual 158, 3) by decide +kernel)
  · exact x_istore_n_ok (show decode cX9_ownersOf 5 = .ok (.istore_n 2, 1) by decide +kernel) rfl (by decide)
  · exact x_iconst_ok (show decode cX9_ownersOf 6 = .ok (.iconst 0, 1) by decide +kernel) (by decide)
  · exact x_istore_n_ok (show decode cX9_ownersOf 7 = .ok (.istore_n 3, 1) by decide +kernel) rfl (by decide)
  · exact x_iconst_ok (show decode cX9_ownersOf 8 = .ok (.iconst 0, 1) by decide +kernel) (by decide)
  · exact x_istore_ok (show decode cX9_ownersOf 9 = .ok (.istore 4, 2) by decide +kernel) (by decide)
  · exact x_iload_ok (show decode cX9_ownersOf 11 = .ok (.iload 4, 2) by decide +kernel)
  · exact x_aload_n_ok (show decode cX9_ownersOf 13 = .ok (.aload_n 0, 1) by decide +kernel) rfl
  · exact x_getR_ok (ci := 7) (k := 0) rfl (by decide) (by decide) hw_844 (show decode cX9_ownersOf 14 = .ok (.getfield 7, 3) by decide +kernel)
  · exact x_iconst_ok (show decode cX9_ownersOf 17 = .ok (.iconst 1, 1) by decide +kernel) (by decide)
  · exact x_iald_ok (show decode cX9_ownersOf 18 = .ok (.iaload, 1) by decide +kernel)
  · exact x_cmpge_ok (show decode cX9_ownersOf 19 = .ok (.if_icmp .ge 34, 3) by decide +kernel) (by decide)
  · exact x_iload_n_ok (show decode cX9_ownersOf 22 = .ok (.iload_n 3, 1) by decide +kernel) rfl
  · exact x_iload_n_ok (show decode cX9_ownersOf 23 = .ok (.iload_n 2, 1) by decide +kernel) rfl
  · exact x_iload_ok (show decode cX9_ownersOf 24 = .ok (.iload 4, 2) by decide +kernel)
  · exact x_callS_ok (sX9_has l) hw_1068 hw_1066 hw_1067 hw_68 ⟨by decide, by decide, by decide +kernel⟩ (by decide) (by decide) (show decode cX9_ownersOf 26 = .ok (.invokestatic 155, 3) by decide +kernel)
  · exact x_ifeq_ok (show decode cX9_ownersOf 29 = .ok (.ifCond .eq 15, 3) by decide +kernel) (by decide)
  · exact x_iconst_ok (show decode cX9_ownersOf 32 = .ok (.iconst 1, 1) by decide +kernel) (by decide)
  · exact x_aload_n_ok (show decode cX9_ownersOf 33 = .ok (.aload_n 0, 1) by decide +kernel) rfl
  · exact x_iload_ok (show decode cX9_ownersOf 34 = .ok (.iload 4, 2) by decide +kernel)
  · exact x_iconst_ok (show decode cX9_ownersOf 36 = .ok (.iconst 4, 1) by decide +kernel) (by decide)
  · exact x_callV_ok (ci := 7) rfl (by decide) (sX9_of l) hw_1019 hw_1016 hw_1018 hw_30 hw_68 ⟨by decide, by decide, by decide +kernel⟩ rfl (by decide) (by decide) (show decode cX9_ownersOf 37 = .ok (.invokevirtual 128, 3) by decide +kernel)
  · exact x_ishl_ok (show decode cX9_ownersOf 40 = .ok (.ishl, 1) by decide +kernel)
  · exact x_goto_ok (show decode cX9_ownersOf 41 = .ok (.goto 4, 3) by decide +kernel) (by decide)
  · exact x_iconst_ok (show decode cX9_ownersOf 44 = .ok (.iconst 0, 1) by decide +kernel) (by decide)
  · exact x_ior_ok (show decode cX9_ownersOf 45 = .ok (.ior, 1) by decide +kernel)
  · exact x_istore_n_ok (show decode cX9_ownersOf 46 = .ok (.istore_n 3, 1) by decide +kernel) rfl (by decide)
  · exact x_iinc_ok (show decode cX9_ownersOf 47 = .ok (.iinc 4 1, 3) by decide +kernel) (by decide) (by decide)
  · exact x_goto_ok (show decode cX9_ownersOf 50 = .ok (.goto (-39), 3) by decide +kernel) (by decide)
  · exact x_iload_n_ok (show decode cX9_ownersOf 53 = .ok (.iload_n 3, 1) by decide +kernel) rfl
  · exact x_iret_ok (show decode cX9_ownersOf 54 = .ok (.ireturn, 1) by decide +kernel)
noncomputable def FX9_ownersOf : List Value → xS → Option xR := xden tX9_ownersOf 5 (some .int) 0
theorem sX9_ownersOf (l : Launch) : xSound l yX9_ownersOf cX9_ownersOf 5 (some .int) 6 0 FX9_ownersOf := x_den (by decide) (tX9_ownersOf_ok l)
noncomputable def tX9_bits : List (Nat × xO) := [(0, x_push (.int (nI 0)) 1), (1, x_istore 1 1), (2, x_push (.int (nI 0)) 1), (3, x_istore 2 1), (4, x_iload 2 1), (5, x_push (.int (nI 16)) 2), (7, x_cmpge 24), (10, x_iload 1 1), (11, x_iload 0 1), (12, x_iload 2 1), (13, x_ii (fun x y => x >>> (y &&& 31))), (14, x_push (.int (nI 1)) 1), (15, x_ii (fun x y => x &&& y)), (16, x_ii (fun x y => x + y)), (17, x_istore 1 1), (18, x_iinc 2 (nI 1)), (21, x_goto 4), (24, x_iload 1 1), (25, x_iret)]
set_option maxRecDepth 100000 in
theorem tX9_bits_ok (l : Launch) : ∀ q ∈ tX9_bits, xOK l cX9_bits RX9 3 1 0 (yX9_bits.name = "<init>") q.1 q.2 := by
  unfold tX9_bits
  refine List.forall_mem_cons.mpr ⟨?_, List.forall_mem_cons.mpr ⟨?_, List.forall_mem_cons.mpr ⟨?_, List.forall_mem_cons.mpr ⟨?_, List.forall_mem_cons.mpr ⟨?_, List.forall_mem_cons.mpr ⟨?_, List.forall_mem_cons.mpr ⟨?_, List.forall_mem_cons.mpr ⟨?_, List.forall_mem_cons.mpr ⟨?_, List.forall_mem_cons.mpr ⟨?_, List.forall_mem_cons.mpr ⟨?_, List.forall_mem_cons.mpr ⟨?_, List.forall_mem_cons.mpr ⟨?_, List.forall_mem_cons.mpr ⟨?_, List.forall_mem_cons.mpr ⟨?_, List.forall_mem_cons.mpr ⟨?_, List.forall_mem_cons.mpr ⟨?_, List.forall_mem_cons.mpr ⟨?_, List.forall_mem_cons.mpr ⟨?_, fun _ h => absurd h List.not_mem_nil⟩⟩⟩⟩⟩⟩⟩⟩⟩⟩⟩⟩⟩⟩⟩⟩⟩⟩⟩
  · exact x_iconst_ok (show decode cX9_bits 0 = .ok (.iconst 0, 1) by decide +kernel) (by decide)
  · exact x_istore_n_ok (show decode cX9_bits 1 = .ok (.istore_n 1, 1) by decide +kernel) rfl (by decide)
  · exact x_iconst_ok (show decode cX9_bits 2 = .ok (.iconst 0, 1) by decide +kernel) (by decide)
  · exact x_istore_n_ok (show decode cX9_bits 3 = .ok (.istore_n 2, 1) by decide +kernel) rfl (by decide)
  · exact x_iload_n_ok (show decode cX9_bits 4 = .ok (.iload_n 2, 1) by decide +kernel) rfl
  · exact x_bipush_ok (show decode cX9_bits 5 = .ok (.bipush 16, 2) by decide +kernel) (by decide)
  · exact x_cmpge_ok (show decode cX9_bits 7 = .ok (.if_icmp .ge 17, 3) by decide +kernel) (by decide)
  · exact x_iload_n_ok (show decode cX9_bits 10 = .ok (.iload_n 1, 1) by decide +kernel) rfl
  · exact x_iload_n_ok (show decode cX9_bits 11 = .ok (.iload_n 0, 1) by decide +kernel) rfl
  · exact x_iload_n_ok (show decode cX9_bits 12 = .ok (.iload_n 2, 1) by decide +kernel) rfl
  · exact x_ishr_ok (show decode cX9_bits 13 = .ok (.ishr, 1) by decide +kernel)
  · exact x_iconst_ok (show decode cX9_bits 14 = .ok (.iconst 1, 1) by decide +kernel) (by decide)
  · exact x_iand_ok (show decode cX9_bits 15 = .ok (.iand, 1) by decide +kernel)
  · exact x_iadd_ok (show decode cX9_bits 16 = .ok (.iadd, 1) by decide +kernel)
  · exact x_istore_n_ok (show decode cX9_bits 17 = .ok (.istore_n 1, 1) by decide +kernel) rfl (by decide)
  · exact x_iinc_ok (show decode cX9_bits 18 = .ok (.iinc 2 1, 3) by decide +kernel) (by decide) (by decide)
  · exact x_goto_ok (show decode cX9_bits 21 = .ok (.goto (-17), 3) by decide +kernel) (by decide)
  · exact x_iload_n_ok (show decode cX9_bits 24 = .ok (.iload_n 1, 1) by decide +kernel) rfl
  · exact x_iret_ok (show decode cX9_bits 25 = .ok (.ireturn, 1) by decide +kernel)
noncomputable def FX9_bits : List Value → xS → Option xR := xden tX9_bits 3 (some .int) 0
theorem sX9_bits (l : Launch) : xSound l yX9_bits cX9_bits 3 (some .int) 1 0 FX9_bits := x_den (by decide) (tX9_bits_ok l)
noncomputable def tX9_disputed : List (Nat × xO) := [(0, x_push (.int (-9)) 2), (2, x_istore 1 1), (3, x_aload 0 1), (4, x_push (.int (nI 0)) 1), (5, x_putI 7 5), (8, x_push (.int (nI 215)) 3), (11, x_istore 2 1), (12, x_iload 2 1), (13, x_iflt 68), (16, x_aload 0 1), (17, x_iload 2 1), (18, x_callV 7 0 2 FX9_ownersOf), (21, x_call 0 1 FX9_bits), (24, x_push (.int (nI 1)) 1), (25, x_cmple 32), (28, x_push (.int (nI 1)) 1), (29, x_goto 33), (32, x_push (.int (nI 0)) 1), (33, x_istore 3 1), (34, x_iload 3 1), (35, x_ifeq 42), (38, x_iload 2 1), (39, x_goto 43), (42, x_iload 1 1), (43, x_istore 1 1), (44, x_aload 0 1), (45, x_dup), (46, x_getI 7 5), (49, x_iload 3 1), (50, x_ifeq 57), (53, x_push (.int (nI 1)) 1), (54, x_goto 58), (57, x_push (.int (nI 0)) 1), (58, x_ii (fun x y => x + y)), (59, x_putI 7 5), (62, x_iinc 2 (-1)), (65, x_goto 12), (68, x_iload 1 1), (69, x_iret)]
set_option maxRecDepth 100000 in
theorem tX9_disputed_ok (l : Launch) : ∀ q ∈ tX9_disputed, xOK l cX9_disputed RX9 4 7 0 (yX9_disputed.name = "<init>") q.1 q.2 := by
  unfold tX9_disputed
  refine List.forall_mem_cons.mpr ⟨?_, List.forall_mem_cons.mpr ⟨?_, List.forall_mem_cons.mpr ⟨?_, List.forall_mem_cons.mpr ⟨?_, List.forall_mem_cons.mpr ⟨?_, List.forall_mem_cons.mpr ⟨?_, List.forall_mem_cons.mpr ⟨?_, List.forall_mem_cons.mpr ⟨?_, List.forall_mem_cons.mpr ⟨?_, List.forall_mem_cons.mpr ⟨?_, List.forall_mem_cons.mpr ⟨?_, List.forall_mem_cons.mpr ⟨?_, List.forall_mem_cons.mpr ⟨?_, List.forall_mem_cons.mpr ⟨?_, List.forall_mem_cons.mpr ⟨?_, List.forall_mem_cons.mpr ⟨?_, List.forall_mem_cons.mpr ⟨?_, List.forall_mem_cons.mpr ⟨?_, List.forall_mem_cons.mpr ⟨?_, List.forall_mem_cons.mpr ⟨?_, List.forall_mem_cons.mpr ⟨?_, List.forall_mem_cons.mpr ⟨?_, List.forall_mem_cons.mpr ⟨?_, List.forall_mem_cons.mpr ⟨?_, List.forall_mem_cons.mpr ⟨?_, List.forall_mem_cons.mpr ⟨?_, List.forall_mem_cons.mpr ⟨?_, List.forall_mem_cons.mpr ⟨?_, List.forall_mem_cons.mpr ⟨?_, List.forall_mem_cons.mpr ⟨?_, List.forall_mem_cons.mpr ⟨?_, List.forall_mem_cons.mpr ⟨?_, List.forall_mem_cons.mpr ⟨?_, List.forall_mem_cons.mpr ⟨?_, List.forall_mem_cons.mpr ⟨?_, List.forall_mem_cons.mpr ⟨?_, List.forall_mem_cons.mpr ⟨?_, List.forall_mem_cons.mpr ⟨?_, List.forall_mem_cons.mpr ⟨?_, fun _ h => absurd h List.not_mem_nil⟩⟩⟩⟩⟩⟩⟩⟩⟩⟩⟩⟩⟩⟩⟩⟩⟩⟩⟩⟩⟩⟩⟩⟩⟩⟩⟩⟩⟩⟩⟩⟩⟩⟩⟩⟩⟩⟩⟩
  · exact x_bipush_ok (show decode cX9_disputed 0 = .ok (.bipush (-9), 2) by decide +kernel) (by decide)
  · exact x_istore_n_ok (show decode cX9_disputed 2 = .ok (.istore_n 1, 1) by decide +kernel) rfl (by decide)
  · exact x_aload_n_ok (show decode cX9_disputed 3 = .ok (.aload_n 0, 1) by decide +kernel) rfl
  · exact x_iconst_ok (show decode cX9_disputed 4 = .ok (.iconst 0, 1) by decide +kernel) (by decide)
  · exact x_putI_ok (ci := 7) (k := 5) rfl (by decide) (by decide) rfl hw_849 rfl (show decode cX9_disputed 5 = .ok (.putfield 55, 3) by decide +kernel)
  · exact x_sipush_ok (show decode cX9_disputed 8 = .ok (.sipush 215, 3) by decide +kernel) (by decide)
  · exact x_istore_n_ok (show decode cX9_disputed 11 = .ok (.istore_n 2, 1) by decide +kernel) rfl (by decide)
  · exact x_iload_n_ok (show decode cX9_disputed 12 = .ok (.iload_n 2, 1) by decide +kernel) rfl
  · exact x_iflt_ok (show decode cX9_disputed 13 = .ok (.ifCond .lt 55, 3) by decide +kernel) (by decide)
  · exact x_aload_n_ok (show decode cX9_disputed 16 = .ok (.aload_n 0, 1) by decide +kernel) rfl
  · exact x_iload_n_ok (show decode cX9_disputed 17 = .ok (.iload_n 2, 1) by decide +kernel) rfl
  · exact x_callV_ok (ci := 7) rfl (by decide) (sX9_ownersOf l) hw_1148 hw_1145 hw_1147 hw_43 hw_68 ⟨by decide, by decide, by decide +kernel⟩ rfl (by decide) (by decide) (show decode cX9_disputed 18 = .ok (.invokevirtual 215, 3) by decide +kernel)
  · exact x_callS_ok (sX9_bits l) hw_1151 hw_1149 hw_1150 hw_68 ⟨by decide, by decide, by decide +kernel⟩ (by decide) (by decide) (show decode cX9_disputed 21 = .ok (.invokestatic 218, 3) by decide +kernel)
  · exact x_iconst_ok (show decode cX9_disputed 24 = .ok (.iconst 1, 1) by decide +kernel) (by decide)
  · exact x_cmple_ok (show decode cX9_disputed 25 = .ok (.if_icmp .le 7, 3) by decide +kernel) (by decide)
  · exact x_iconst_ok (show decode cX9_disputed 28 = .ok (.iconst 1, 1) by decide +kernel) (by decide)
  · exact x_goto_ok (show decode cX9_disputed 29 = .ok (.goto 4, 3) by decide +kernel) (by decide)
  · exact x_iconst_ok (show decode cX9_disputed 32 = .ok (.iconst 0, 1) by decide +kernel) (by decide)
  · exact x_istore_n_ok (show decode cX9_disputed 33 = .ok (.istore_n 3, 1) by decide +kernel) rfl (by decide)
  · exact x_iload_n_ok (show decode cX9_disputed 34 = .ok (.iload_n 3, 1) by decide +kernel) rfl
  · exact x_ifeq_ok (show decode cX9_disputed 35 = .ok (.ifCond .eq 7, 3) by decide +kernel) (by decide)
  · exact x_iload_n_ok (show decode cX9_disputed 38 = .ok (.iload_n 2, 1) by decide +kernel) rfl
  · exact x_goto_ok (show decode cX9_disputed 39 = .ok (.goto 4, 3) by decide +kernel) (by decide)
  · exact x_iload_n_ok (show decode cX9_disputed 42 = .ok (.iload_n 1, 1) by decide +kernel) rfl
  · exact x_istore_n_ok (show decode cX9_disputed 43 = .ok (.istore_n 1, 1) by decide +kernel) rfl (by decide)
  · exact x_aload_n_ok (show decode cX9_disputed 44 = .ok (.aload_n 0, 1) by decide +kernel) rfl
  · exact x_dup_ok (show decode cX9_disputed 45 = .ok (.dup, 1) by decide +kernel)
  · exact x_getI_ok (ci := 7) (k := 5) rfl (by decide) (by decide) hw_849 (show decode cX9_disputed 46 = .ok (.getfield 55, 3) by decide +kernel)
  · exact x_iload_n_ok (show decode cX9_disputed 49 = .ok (.iload_n 3, 1) by decide +kernel) rfl
  · exact x_ifeq_ok (show decode cX9_disputed 50 = .ok (.ifCond .eq 7, 3) by decide +kernel) (by decide)
  · exact x_iconst_ok (show decode cX9_disputed 53 = .ok (.iconst 1, 1) by decide +kernel) (by decide)
  · exact x_goto_ok (show decode cX9_disputed 54 = .ok (.goto 4, 3) by decide +kernel) (by decide)
  · exact x_iconst_ok (show decode cX9_disputed 57 = .ok (.iconst 0, 1) by decide +kernel) (by decide)
  · exact x_iadd_ok (show decode cX9_disputed 58 = .ok (.iadd, 1) by decide +kernel)
  · exact x_putI_ok (ci := 7) (k := 5) rfl (by decide) (by decide) rfl hw_849 rfl (show decode cX9_disputed 59 = .ok (.putfield 55, 3) by decide +kernel)
  · exact x_iinc_ok (show decode cX9_disputed 62 = .ok (.iinc 2 (-1), 3) by decide +kernel) (by decide) (by decide)
  · exact x_goto_ok (show decode cX9_disputed 65 = .ok (.goto (-53), 3) by decide +kernel) (by decide)
  · exact x_iload_n_ok (show decode cX9_disputed 68 = .ok (.iload_n 1, 1) by decide +kernel) rfl
  · exact x_iret_ok (show decode cX9_disputed 69 = .ok (.ireturn, 1) by decide +kernel)
noncomputable def FX9_disputed : List Value → xS → Option xR := xden tX9_disputed 4 (some .int) 0
theorem sX9_disputed (l : Launch) : xSound l yX9_disputed cX9_disputed 4 (some .int) 7 0 FX9_disputed := x_den (by decide) (tX9_disputed_ok l)
noncomputable def tX8_free : List (Nat × xO) := [(0, x_push (.int (nI 0)) 1), (1, x_istore 1 1), (2, x_iload 1 1), (3, x_push (.int (nI 216)) 3), (6, x_cmpge 40), (9, x_aload 0 1), (10, x_getR 6 7), (13, x_iload 1 1), (14, x_aload 0 1), (15, x_getR 6 2), (18, x_iload 1 1), (19, x_push (.int (nI 0)) 1), (20, x_callV 3 0 3 FX4_callerOf), (23, x_push (.int (-9)) 2), (25, x_cmpne 32), (28, x_push (.int (nI 1)) 1), (29, x_goto 33), (32, x_push (.int (nI 0)) 1), (33, x_bastZ), (34, x_iinc 1 (nI 1)), (37, x_goto 2), (40, x_aload 0 1), (41, x_callV 6 0 1 FX8_tellChosen), (44, x_iret)]
set_option maxRecDepth 100000 in
theorem tX8_free_ok (l : Launch) : ∀ q ∈ tX8_free, xOK l cX8_free RX8 2 6 0 (yX8_free.name = "<init>") q.1 q.2 := by
  unfold tX8_free
  refine List.forall_mem_cons.mpr ⟨?_, List.forall_mem_cons.mpr ⟨?_, List.forall_mem_cons.mpr ⟨?_, List.forall_mem_cons.mpr ⟨?_, List.forall_mem_cons.mpr ⟨?_, List.forall_mem_cons.mpr ⟨?_, List.forall_mem_cons.mpr ⟨?_, List.forall_mem_cons.mpr ⟨?_, List.forall_mem_cons.mpr ⟨?_, List.forall_mem_cons.mpr ⟨?_, List.forall_mem_cons.mpr ⟨?_, List.forall_mem_cons.mpr ⟨?_, List.forall_mem_cons.mpr ⟨?_, List.forall_mem_cons.mpr ⟨?_, List.forall_mem_cons.mpr ⟨?_, List.forall_mem_cons.mpr ⟨?_, List.forall_mem_cons.mpr ⟨?_, List.forall_mem_cons.mpr ⟨?_, List.forall_mem_cons.mpr ⟨?_, List.forall_mem_cons.mpr ⟨?_, List.forall_mem_cons.mpr ⟨?_, List.forall_mem_cons.mpr ⟨?_, List.forall_mem_cons.mpr ⟨?_, List.forall_mem_cons.mpr ⟨?_, fun _ h => absurd h List.not_mem_nil⟩⟩⟩⟩⟩⟩⟩⟩⟩⟩⟩⟩⟩⟩⟩⟩⟩⟩⟩⟩⟩⟩⟩⟩
  · exact x_iconst_ok (show decode cX8_free 0 = .ok (.iconst 0, 1) by decide +kernel) (by decide)
  · exact x_istore_n_ok (show decode cX8_free 1 = .ok (.istore_n 1, 1) by decide +kernel) rfl (by decide)
  · exact x_iload_n_ok (show decode cX8_free 2 = .ok (.iload_n 1, 1) by decide +kernel) rfl
  · exact x_sipush_ok (show decode cX8_free 3 = .ok (.sipush 216, 3) by decide +kernel) (by decide)
  · exact x_cmpge_ok (show decode cX8_free 6 = .ok (.if_icmp .ge 34, 3) by decide +kernel) (by decide)
  · exact x_aload_n_ok (show decode cX8_free 9 = .ok (.aload_n 0, 1) by decide +kernel) rfl
  · exact x_getR_ok (ci := 6) (k := 7) rfl (by decide) (by decide) hw_229 (show decode cX8_free 10 = .ok (.getfield 54, 3) by decide +kernel)
  · exact x_iload_n_ok (show decode cX8_free 13 = .ok (.iload_n 1, 1) by decide +kernel) rfl
  · exact x_aload_n_ok (show decode cX8_free 14 = .ok (.aload_n 0, 1) by decide +kernel) rfl
  · exact x_getR_ok (ci := 6) (k := 2) rfl (by decide) (by decide) hw_224 (show decode cX8_free 15 = .ok (.getfield 26, 3) by decide +kernel)
  · exact x_iload_n_ok (show decode cX8_free 18 = .ok (.iload_n 1, 1) by decide +kernel) rfl
  · exact x_iconst_ok (show decode cX8_free 19 = .ok (.iconst 0, 1) by decide +kernel) (by decide)
  · exact x_callV_ok (ci := 3) rfl (by decide) (sX4_callerOf l) hw_501 hw_534 hw_499 hw_500 hw_64 ⟨by decide, by decide, by decide +kernel⟩ rfl (by decide) (by decide) (show decode cX8_free 20 = .ok (.invokevirtual 169, 3) by decide +kernel)
  · exact x_bipush_ok (show decode cX8_free 23 = .ok (.bipush (-9), 2) by decide +kernel) (by decide)
  · exact x_cmpne_ok (show decode cX8_free 25 = .ok (.if_icmp .ne 7, 3) by decide +kernel) (by decide)
  · exact x_iconst_ok (show decode cX8_free 28 = .ok (.iconst 1, 1) by decide +kernel) (by decide)
  · exact x_goto_ok (show decode cX8_free 29 = .ok (.goto 4, 3) by decide +kernel) (by decide)
  · exact x_iconst_ok (show decode cX8_free 32 = .ok (.iconst 0, 1) by decide +kernel) (by decide)
  · exact x_bastZ_ok (show decode cX8_free 33 = .ok (.bastore, 1) by decide +kernel)
  · exact x_iinc_ok (show decode cX8_free 34 = .ok (.iinc 1 1, 3) by decide +kernel) (by decide) (by decide)
  · exact x_goto_ok (show decode cX8_free 37 = .ok (.goto (-35), 3) by decide +kernel) (by decide)
  · exact x_aload_n_ok (show decode cX8_free 40 = .ok (.aload_n 0, 1) by decide +kernel) rfl
  · exact x_callV_ok (ci := 6) rfl (by decide) (sX8_tellChosen l) hw_611 hw_608 hw_610 hw_8 hw_61 ⟨by decide, by decide, by decide +kernel⟩ rfl (by decide) (by decide) (show decode cX8_free 41 = .ok (.invokevirtual 201, 3) by decide +kernel)
  · exact x_iret_ok (show decode cX8_free 44 = .ok (.ireturn, 1) by decide +kernel)
noncomputable def FX8_free : List Value → xS → Option xR := xden tX8_free 2 (some .int) 0
theorem sX8_free (l : Launch) : xSound l yX8_free cX8_free 2 (some .int) 6 0 FX8_free := x_den (by decide) (tX8_free_ok l)
noncomputable def tX9_layFree : List (Nat × xO) := [(0, x_push (.int (nI 0)) 1), (1, x_istore 1 1), (2, x_iload 1 1), (3, x_push (.int (nI 216)) 3), (6, x_cmpge 34), (9, x_aload 0 1), (10, x_getR 7 16), (13, x_iload 1 1), (14, x_aload 0 1), (15, x_iload 1 1), (16, x_callV 7 0 2 FX9_reaching), (19, x_ifne 26), (22, x_push (.int (nI 1)) 1), (23, x_goto 27), (26, x_push (.int (nI 0)) 1), (27, x_bastZ), (28, x_iinc 1 (nI 1)), (31, x_goto 2), (34, x_vret)]
set_option maxRecDepth 100000 in
theorem tX9_layFree_ok (l : Launch) : ∀ q ∈ tX9_layFree, xOK l cX9_layFree RX9 2 6 0 (yX9_layFree.name = "<init>") q.1 q.2 := by
  unfold tX9_layFree
  refine List.forall_mem_cons.mpr ⟨?_, List.forall_mem_cons.mpr ⟨?_, List.forall_mem_cons.mpr ⟨?_, List.forall_mem_cons.mpr ⟨?_, List.forall_mem_cons.mpr ⟨?_, List.forall_mem_cons.mpr ⟨?_, List.forall_mem_cons.mpr ⟨?_, List.forall_mem_cons.mpr ⟨?_, List.forall_mem_cons.mpr ⟨?_, List.forall_mem_cons.mpr ⟨?_, List.forall_mem_cons.mpr ⟨?_, List.forall_mem_cons.mpr ⟨?_, List.forall_mem_cons.mpr ⟨?_, List.forall_mem_cons.mpr ⟨?_, List.forall_mem_cons.mpr ⟨?_, List.forall_mem_cons.mpr ⟨?_, List.forall_mem_cons.mpr ⟨?_, List.forall_mem_cons.mpr ⟨?_, List.forall_mem_cons.mpr ⟨?_, fun _ h => absurd h List.not_mem_nil⟩⟩⟩⟩⟩⟩⟩⟩⟩⟩⟩⟩⟩⟩⟩⟩⟩⟩⟩
  · exact x_iconst_ok (show decode cX9_layFree 0 = .ok (.iconst 0, 1) by decide +kernel) (by decide)
  · exact x_istore_n_ok (show decode cX9_layFree 1 = .ok (.istore_n 1, 1) by decide +kernel) rfl (by decide)
  · exact x_iload_n_ok (show decode cX9_layFree 2 = .ok (.iload_n 1, 1) by decide +kernel) rfl
  · exact x_sipush_ok (show decode cX9_layFree 3 = .ok (.sipush 216, 3) by decide +kernel) (by decide)
  · exact x_cmpge_ok (show decode cX9_layFree 6 = .ok (.if_icmp .ge 28, 3) by decide +kernel) (by decide)
  · exact x_aload_n_ok (show decode cX9_layFree 9 = .ok (.aload_n 0, 1) by decide +kernel) rfl
  · exact x_getR_ok (ci := 7) (k := 16) rfl (by decide) (by decide) hw_860 (show decode cX9_layFree 10 = .ok (.getfield 35, 3) by decide +kernel)
  · exact x_iload_n_ok (show decode cX9_layFree 13 = .ok (.iload_n 1, 1) by decide +kernel) rfl
  · exact x_aload_n_ok (show decode cX9_layFree 14 = .ok (.aload_n 0, 1) by decide +kernel) rfl
  · exact x_iload_n_ok (show decode cX9_layFree 15 = .ok (.iload_n 1, 1) by decide +kernel) rfl
  · exact x_callV_ok (ci := 7) rfl (by decide) (sX9_reaching l) hw_1058 hw_1055 hw_1057 hw_35 hw_68 ⟨by decide, by decide, by decide +kernel⟩ rfl (by decide) (by decide) (show decode cX9_layFree 16 = .ok (.invokevirtual 158, 3) by decide +kernel)
  · exact x_ifne_ok (show decode cX9_layFree 19 = .ok (.ifCond .ne 7, 3) by decide +kernel) (by decide)
  · exact x_iconst_ok (show decode cX9_layFree 22 = .ok (.iconst 1, 1) by decide +kernel) (by decide)
  · exact x_goto_ok (show decode cX9_layFree 23 = .ok (.goto 4, 3) by decide +kernel) (by decide)
  · exact x_iconst_ok (show decode cX9_layFree 26 = .ok (.iconst 0, 1) by decide +kernel) (by decide)
  · exact x_bastZ_ok (show decode cX9_layFree 27 = .ok (.bastore, 1) by decide +kernel)
  · exact x_iinc_ok (show decode cX9_layFree 28 = .ok (.iinc 1 1, 3) by decide +kernel) (by decide) (by decide)
  · exact x_goto_ok (show decode cX9_layFree 31 = .ok (.goto (-29), 3) by decide +kernel) (by decide)
  · exact x_vret_ok (show decode cX9_layFree 34 = .ok (.return_, 1) by decide +kernel)
noncomputable def FX9_layFree : List Value → xS → Option xR := xden tX9_layFree 2 none 0
theorem sX9_layFree (l : Launch) : xSound l yX9_layFree cX9_layFree 2 none 6 0 FX9_layFree := x_den (by decide) (tX9_layFree_ok l)
noncomputable def tX9_free : List (Nat × xO) := [(0, x_aload 0 1), (1, x_callV 7 0 1 FX9_layFree), (4, x_push (.int (-9)) 2), (6, x_istore 1 1), (7, x_aload 0 1), (8, x_push (.int (nI 0)) 1), (9, x_putI 7 5), (12, x_push (.int (nI 215)) 3), (15, x_istore 2 1), (16, x_iload 2 1), (17, x_iflt 64), (20, x_aload 0 1), (21, x_getR 7 16), (24, x_iload 2 1), (25, x_bald), (26, x_ifeq 33), (29, x_iload 2 1), (30, x_goto 34), (33, x_iload 1 1), (34, x_istore 1 1), (35, x_aload 0 1), (36, x_dup), (37, x_getI 7 5), (40, x_aload 0 1), (41, x_getR 7 16), (44, x_iload 2 1), (45, x_bald), (46, x_ifeq 53), (49, x_push (.int (nI 1)) 1), (50, x_goto 54), (53, x_push (.int (nI 0)) 1), (54, x_ii (fun x y => x + y)), (55, x_putI 7 5), (58, x_iinc 2 (-1)), (61, x_goto 16), (64, x_iload 1 1), (65, x_iret)]
set_option maxRecDepth 100000 in
theorem tX9_free_ok (l : Launch) : ∀ q ∈ tX9_free, xOK l cX9_free RX9 3 7 0 (yX9_free.name = "<init>") q.1 q.2 := by
  unfold tX9_free
  refine List.forall_mem_cons.mpr ⟨?_, List.forall_mem_cons.mpr ⟨?_, List.forall_mem_cons.mpr ⟨?_, List.forall_mem_cons.mpr ⟨?_, List.forall_mem_cons.mpr ⟨?_, List.forall_mem_cons.mpr ⟨?_, List.forall_mem_cons.mpr ⟨?_, List.forall_mem_cons.mpr ⟨?_, List.forall_mem_cons.mpr ⟨?_, List.forall_mem_cons.mpr ⟨?_, List.forall_mem_cons.mpr ⟨?_, List.forall_mem_cons.mpr ⟨?_, List.forall_mem_cons.mpr ⟨?_, List.forall_mem_cons.mpr ⟨?_, List.forall_mem_cons.mpr ⟨?_, List.forall_mem_cons.mpr ⟨?_, List.forall_mem_cons.mpr ⟨?_, List.forall_mem_cons.mpr ⟨?_, List.forall_mem_cons.mpr ⟨?_, List.forall_mem_cons.mpr ⟨?_, List.forall_mem_cons.mpr ⟨?_, List.forall_mem_cons.mpr ⟨?_, List.forall_mem_cons.mpr ⟨?_, List.forall_mem_cons.mpr ⟨?_, List.forall_mem_cons.mpr ⟨?_, List.forall_mem_cons.mpr ⟨?_, List.forall_mem_cons.mpr ⟨?_, List.forall_mem_cons.mpr ⟨?_, List.forall_mem_cons.mpr ⟨?_, List.forall_mem_cons.mpr ⟨?_, List.forall_mem_cons.mpr ⟨?_, List.forall_mem_cons.mpr ⟨?_, List.forall_mem_cons.mpr ⟨?_, List.forall_mem_cons.mpr ⟨?_, List.forall_mem_cons.mpr ⟨?_, List.forall_mem_cons.mpr ⟨?_, List.forall_mem_cons.mpr ⟨?_, fun _ h => absurd h List.not_mem_nil⟩⟩⟩⟩⟩⟩⟩⟩⟩⟩⟩⟩⟩⟩⟩⟩⟩⟩⟩⟩⟩⟩⟩⟩⟩⟩⟩⟩⟩⟩⟩⟩⟩⟩⟩⟩⟩
  · exact x_aload_n_ok (show decode cX9_free 0 = .ok (.aload_n 0, 1) by decide +kernel) rfl
  · exact x_callV_ok (ci := 7) rfl (by decide) (sX9_layFree l) hw_1159 hw_1156 hw_1158 hw_44 hw_68 ⟨by decide, by decide, by decide +kernel⟩ rfl (by decide) (by decide) (show decode cX9_free 1 = .ok (.invokevirtual 221, 3) by decide +kernel)
  · exact x_bipush_ok (show decode cX9_free 4 = .ok (.bipush (-9), 2) by decide +kernel) (by decide)
  · exact x_istore_n_ok (show decode cX9_free 6 = .ok (.istore_n 1, 1) by decide +kernel) rfl (by decide)
  · exact x_aload_n_ok (show decode cX9_free 7 = .ok (.aload_n 0, 1) by decide +kernel) rfl
  · exact x_iconst_ok (show decode cX9_free 8 = .ok (.iconst 0, 1) by decide +kernel) (by decide)
  · exact x_putI_ok (ci := 7) (k := 5) rfl (by decide) (by decide) rfl hw_849 rfl (show decode cX9_free 9 = .ok (.putfield 55, 3) by decide +kernel)
  · exact x_sipush_ok (show decode cX9_free 12 = .ok (.sipush 215, 3) by decide +kernel) (by decide)
  · exact x_istore_n_ok (show decode cX9_free 15 = .ok (.istore_n 2, 1) by decide +kernel) rfl (by decide)
  · exact x_iload_n_ok (show decode cX9_free 16 = .ok (.iload_n 2, 1) by decide +kernel) rfl
  · exact x_iflt_ok (show decode cX9_free 17 = .ok (.ifCond .lt 47, 3) by decide +kernel) (by decide)
  · exact x_aload_n_ok (show decode cX9_free 20 = .ok (.aload_n 0, 1) by decide +kernel) rfl
  · exact x_getR_ok (ci := 7) (k := 16) rfl (by decide) (by decide) hw_860 (show decode cX9_free 21 = .ok (.getfield 35, 3) by decide +kernel)
  · exact x_iload_n_ok (show decode cX9_free 24 = .ok (.iload_n 2, 1) by decide +kernel) rfl
  · exact x_bald_ok (show decode cX9_free 25 = .ok (.baload, 1) by decide +kernel)
  · exact x_ifeq_ok (show decode cX9_free 26 = .ok (.ifCond .eq 7, 3) by decide +kernel) (by decide)
  · exact x_iload_n_ok (show decode cX9_free 29 = .ok (.iload_n 2, 1) by decide +kernel) rfl
  · exact x_goto_ok (show decode cX9_free 30 = .ok (.goto 4, 3) by decide +kernel) (by decide)
  · exact x_iload_n_ok (show decode cX9_free 33 = .ok (.iload_n 1, 1) by decide +kernel) rfl
  · exact x_istore_n_ok (show decode cX9_free 34 = .ok (.istore_n 1, 1) by decide +kernel) rfl (by decide)
  · exact x_aload_n_ok (show decode cX9_free 35 = .ok (.aload_n 0, 1) by decide +kernel) rfl
  · exact x_dup_ok (show decode cX9_free 36 = .ok (.dup, 1) by decide +kernel)
  · exact x_getI_ok (ci := 7) (k := 5) rfl (by decide) (by decide) hw_849 (show decode cX9_free 37 = .ok (.getfield 55, 3) by decide +kernel)
  · exact x_aload_n_ok (show decode cX9_free 40 = .ok (.aload_n 0, 1) by decide +kernel) rfl
  · exact x_getR_ok (ci := 7) (k := 16) rfl (by decide) (by decide) hw_860 (show decode cX9_free 41 = .ok (.getfield 35, 3) by decide +kernel)
  · exact x_iload_n_ok (show decode cX9_free 44 = .ok (.iload_n 2, 1) by decide +kernel) rfl
  · exact x_bald_ok (show decode cX9_free 45 = .ok (.baload, 1) by decide +kernel)
  · exact x_ifeq_ok (show decode cX9_free 46 = .ok (.ifCond .eq 7, 3) by decide +kernel) (by decide)
  · exact x_iconst_ok (show decode cX9_free 49 = .ok (.iconst 1, 1) by decide +kernel) (by decide)
  · exact x_goto_ok (show decode cX9_free 50 = .ok (.goto 4, 3) by decide +kernel) (by decide)
  · exact x_iconst_ok (show decode cX9_free 53 = .ok (.iconst 0, 1) by decide +kernel) (by decide)
  · exact x_iadd_ok (show decode cX9_free 54 = .ok (.iadd, 1) by decide +kernel)
  · exact x_putI_ok (ci := 7) (k := 5) rfl (by decide) (by decide) rfl hw_849 rfl (show decode cX9_free 55 = .ok (.putfield 55, 3) by decide +kernel)
  · exact x_iinc_ok (show decode cX9_free 58 = .ok (.iinc 2 (-1), 3) by decide +kernel) (by decide) (by decide)
  · exact x_goto_ok (show decode cX9_free 61 = .ok (.goto (-45), 3) by decide +kernel) (by decide)
  · exact x_iload_n_ok (show decode cX9_free 64 = .ok (.iload_n 1, 1) by decide +kernel) rfl
  · exact x_iret_ok (show decode cX9_free 65 = .ok (.ireturn, 1) by decide +kernel)
noncomputable def FX9_free : List Value → xS → Option xR := xden tX9_free 3 (some .int) 0
theorem sX9_free (l : Launch) : xSound l yX9_free cX9_free 3 (some .int) 7 0 FX9_free := x_den (by decide) (tX9_free_ok l)
noncomputable def tX8_reachesOpenAlone : List (Nat × xO) := [(0, x_push (.int (nI 0)) 1), (1, x_istore 4 2), (3, x_iload 4 2), (5, x_push (.int (nI 216)) 3), (8, x_cmpge 40), (11, x_aload 0 1), (12, x_getR 6 6), (15, x_iload 4 2), (17, x_bald), (18, x_ifne 34), (21, x_iload 1 1), (22, x_iload 2 1), (23, x_iload 3 1), (24, x_iload 4 2), (26, x_call 0 4 FX1_reaches), (29, x_ifeq 34), (32, x_push (.int (nI 0)) 1), (33, x_iret), (34, x_iinc 4 (nI 1)), (37, x_goto 3), (40, x_push (.int (nI 1)) 1), (41, x_iret)]
set_option maxRecDepth 100000 in
theorem tX8_reachesOpenAlone_ok (l : Launch) : ∀ q ∈ tX8_reachesOpenAlone, xOK l cX8_reachesOpenAlone RX8 5 4 0 (yX8_reachesOpenAlone.name = "<init>") q.1 q.2 := by
  unfold tX8_reachesOpenAlone
  refine List.forall_mem_cons.mpr ⟨?_, List.forall_mem_cons.mpr ⟨?_, List.forall_mem_cons.mpr ⟨?_, List.forall_mem_cons.mpr ⟨?_, List.forall_mem_cons.mpr ⟨?_, List.forall_mem_cons.mpr ⟨?_, List.forall_mem_cons.mpr ⟨?_, List.forall_mem_cons.mpr ⟨?_, List.forall_mem_cons.mpr ⟨?_, List.forall_mem_cons.mpr ⟨?_, List.forall_mem_cons.mpr ⟨?_, List.forall_mem_cons.mpr ⟨?_, List.forall_mem_cons.mpr ⟨?_, List.forall_mem_cons.mpr ⟨?_, List.forall_mem_cons.mpr ⟨?_, List.forall_mem_cons.mpr ⟨?_, List.forall_mem_cons.mpr ⟨?_, List.forall_mem_cons.mpr ⟨?_, List.forall_mem_cons.mpr ⟨?_, List.forall_mem_cons.mpr ⟨?_, List.forall_mem_cons.mpr ⟨?_, List.forall_mem_cons.mpr ⟨?_, fun _ h => absurd h List.not_mem_nil⟩⟩⟩⟩⟩⟩⟩⟩⟩⟩⟩⟩⟩⟩⟩⟩⟩⟩⟩⟩⟩⟩
  · exact x_iconst_ok (show decode cX8_reachesOpenAlone 0 = .ok (.iconst 0, 1) by decide +kernel) (by decide)
  · exact x_istore_ok (show decode cX8_reachesOpenAlone 1 = .ok (.istore 4, 2) by decide +kernel) (by decide)
  · exact x_iload_ok (show decode cX8_reachesOpenAlone 3 = .ok (.iload 4, 2) by decide +kernel)
  · exact x_sipush_ok (show decode cX8_reachesOpenAlone 5 = .ok (.sipush 216, 3) by decide +kernel) (by decide)
  · exact x_cmpge_ok (show decode cX8_reachesOpenAlone 8 = .ok (.if_icmp .ge 32, 3) by decide +kernel) (by decide)
  · exact x_aload_n_ok (show decode cX8_reachesOpenAlone 11 = .ok (.aload_n 0, 1) by decide +kernel) rfl
  · exact x_getR_ok (ci := 6) (k := 6) rfl (by decide) (by decide) hw_228 (show decode cX8_reachesOpenAlone 12 = .ok (.getfield 50, 3) by decide +kernel)
  · exact x_iload_ok (show decode cX8_reachesOpenAlone 15 = .ok (.iload 4, 2) by decide +kernel)
  · exact x_bald_ok (show decode cX8_reachesOpenAlone 17 = .ok (.baload, 1) by decide +kernel)
  · exact x_ifne_ok (show decode cX8_reachesOpenAlone 18 = .ok (.ifCond .ne 16, 3) by decide +kernel) (by decide)
  · exact x_iload_n_ok (show decode cX8_reachesOpenAlone 21 = .ok (.iload_n 1, 1) by decide +kernel) rfl
  · exact x_iload_n_ok (show decode cX8_reachesOpenAlone 22 = .ok (.iload_n 2, 1) by decide +kernel) rfl
  · exact x_iload_n_ok (show decode cX8_reachesOpenAlone 23 = .ok (.iload_n 3, 1) by decide +kernel) rfl
  · exact x_iload_ok (show decode cX8_reachesOpenAlone 24 = .ok (.iload 4, 2) by decide +kernel)
  · exact x_callS_ok (sX1_reaches l) hw_475 hw_624 hw_474 hw_70 ⟨by decide, by decide, by decide +kernel⟩ (by decide) (by decide) (show decode cX8_reachesOpenAlone 26 = .ok (.invokestatic 330, 3) by decide +kernel)
  · exact x_ifeq_ok (show decode cX8_reachesOpenAlone 29 = .ok (.ifCond .eq 5, 3) by decide +kernel) (by decide)
  · exact x_iconst_ok (show decode cX8_reachesOpenAlone 32 = .ok (.iconst 0, 1) by decide +kernel) (by decide)
  · exact x_iret_ok (show decode cX8_reachesOpenAlone 33 = .ok (.ireturn, 1) by decide +kernel)
  · exact x_iinc_ok (show decode cX8_reachesOpenAlone 34 = .ok (.iinc 4 1, 3) by decide +kernel) (by decide) (by decide)
  · exact x_goto_ok (show decode cX8_reachesOpenAlone 37 = .ok (.goto (-34), 3) by decide +kernel) (by decide)
  · exact x_iconst_ok (show decode cX8_reachesOpenAlone 40 = .ok (.iconst 1, 1) by decide +kernel) (by decide)
  · exact x_iret_ok (show decode cX8_reachesOpenAlone 41 = .ok (.ireturn, 1) by decide +kernel)
noncomputable def FX8_reachesOpenAlone : List Value → xS → Option xR := xden tX8_reachesOpenAlone 5 (some .boolean) 0
theorem sX8_reachesOpenAlone (l : Launch) : xSound l yX8_reachesOpenAlone cX8_reachesOpenAlone 5 (some .boolean) 4 0 FX8_reachesOpenAlone := x_den (by decide) (tX8_reachesOpenAlone_ok l)
noncomputable def tX8_gap : List (Nat × xO) := [(0, x_iload 1 1), (1, x_push (.int (nI 6)) 2), (3, x_call 0 2 FX8_among), (6, x_ifeq 18), (9, x_iload 2 1), (10, x_push (.int (nI 10)) 2), (12, x_call 0 2 FX8_among), (15, x_ifne 20), (18, x_push (.int (-1)) 1), (19, x_iret), (20, x_push (.int (nI 0)) 1), (21, x_istore 3 1), (22, x_iload 3 1), (23, x_push (.int (nI 216)) 3), (26, x_cmpge 60), (29, x_aload 0 1), (30, x_getR 6 6), (33, x_iload 3 1), (34, x_aload 0 1), (35, x_getR 6 2), (38, x_iload 3 1), (39, x_push (.int (nI 0)) 1), (40, x_callV 3 0 3 FX4_callerOf), (43, x_push (.int (-9)) 2), (45, x_cmpne 52), (48, x_push (.int (nI 1)) 1), (49, x_goto 53), (52, x_push (.int (nI 0)) 1), (53, x_bastZ), (54, x_iinc 3 (nI 1)), (57, x_goto 22), (60, x_push (.int (nI 0)) 1), (61, x_istore 3 1), (62, x_iload 3 1), (63, x_push (.int (nI 216)) 3), (66, x_cmpge 105), (69, x_aload 0 1), (70, x_getR 6 7), (73, x_iload 3 1), (74, x_aload 0 1), (75, x_getR 6 6), (78, x_iload 3 1), (79, x_bald), (80, x_ifeq 97), (83, x_aload 0 1), (84, x_iload 1 1), (85, x_iload 3 1), (86, x_iload 2 1), (87, x_callV 6 0 4 FX8_reachesOpenAlone), (90, x_ifeq 97), (93, x_push (.int (nI 1)) 1), (94, x_goto 98), (97, x_push (.int (nI 0)) 1), (98, x_bastZ), (99, x_iinc 3 (nI 1)), (102, x_goto 62), (105, x_aload 0 1), (106, x_callV 6 0 1 FX8_tellChosen), (109, x_iret)]
set_option maxRecDepth 100000 in
theorem tX8_gap_ok (l : Launch) : ∀ q ∈ tX8_gap, xOK l cX8_gap RX8 4 6 0 (yX8_gap.name = "<init>") q.1 q.2 := by
  unfold tX8_gap
  refine List.forall_mem_cons.mpr ⟨?_, List.forall_mem_cons.mpr ⟨?_, List.forall_mem_cons.mpr ⟨?_, List.forall_mem_cons.mpr ⟨?_, List.forall_mem_cons.mpr ⟨?_, List.forall_mem_cons.mpr ⟨?_, List.forall_mem_cons.mpr ⟨?_, List.forall_mem_cons.mpr ⟨?_, List.forall_mem_cons.mpr ⟨?_, List.forall_mem_cons.mpr ⟨?_, List.forall_mem_cons.mpr ⟨?_, List.forall_mem_cons.mpr ⟨?_, List.forall_mem_cons.mpr ⟨?_, List.forall_mem_cons.mpr ⟨?_, List.forall_mem_cons.mpr ⟨?_, List.forall_mem_cons.mpr ⟨?_, List.forall_mem_cons.mpr ⟨?_, List.forall_mem_cons.mpr ⟨?_, List.forall_mem_cons.mpr ⟨?_, List.forall_mem_cons.mpr ⟨?_, List.forall_mem_cons.mpr ⟨?_, List.forall_mem_cons.mpr ⟨?_, List.forall_mem_cons.mpr ⟨?_, List.forall_mem_cons.mpr ⟨?_, List.forall_mem_cons.mpr ⟨?_, List.forall_mem_cons.mpr ⟨?_, List.forall_mem_cons.mpr ⟨?_, List.forall_mem_cons.mpr ⟨?_, List.forall_mem_cons.mpr ⟨?_, List.forall_mem_cons.mpr ⟨?_, List.forall_mem_cons.mpr ⟨?_, List.forall_mem_cons.mpr ⟨?_, List.forall_mem_cons.mpr ⟨?_, List.forall_mem_cons.mpr ⟨?_, List.forall_mem_cons.mpr ⟨?_, List.forall_mem_cons.mpr ⟨?_, List.forall_mem_cons.mpr ⟨?_, List.forall_mem_cons.mpr ⟨?_, List.forall_mem_cons.mpr ⟨?_, List.forall_mem_cons.mpr ⟨?_, List.forall_mem_cons.mpr ⟨?_, List.forall_mem_cons.mpr ⟨?_, List.forall_mem_cons.mpr ⟨?_, List.forall_mem_cons.mpr ⟨?_, List.forall_mem_cons.mpr ⟨?_, List.forall_mem_cons.mpr ⟨?_, List.forall_mem_cons.mpr ⟨?_, List.forall_mem_cons.mpr ⟨?_, List.forall_mem_cons.mpr ⟨?_, List.forall_mem_cons.mpr ⟨?_, List.forall_mem_cons.mpr ⟨?_, List.forall_mem_cons.mpr ⟨?_, List.forall_mem_cons.mpr ⟨?_, List.forall_mem_cons.mpr ⟨?_, List.forall_mem_cons.mpr ⟨?_, List.forall_mem_cons.mpr ⟨?_, List.forall_mem_cons.mpr ⟨?_, List.forall_mem_cons.mpr ⟨?_, List.forall_mem_cons.mpr ⟨?_, fun _ h => absurd h List.not_mem_nil⟩⟩⟩⟩⟩⟩⟩⟩⟩⟩⟩⟩⟩⟩⟩⟩⟩⟩⟩⟩⟩⟩⟩⟩⟩⟩⟩⟩⟩⟩⟩⟩⟩⟩⟩⟩⟩⟩⟩⟩⟩⟩⟩⟩⟩⟩⟩⟩⟩⟩⟩⟩⟩⟩⟩⟩⟩⟩⟩
  · exact x_iload_n_ok (show decode cX8_gap 0 = .ok (.iload_n 1, 1) by decide +kernel) rfl
  · exact x_bipush_ok (show decode cX8_gap 1 = .ok (.bipush 6, 2) by decide +kernel) (by decide)
  · exact x_callS_ok (sX8_among l) hw_268 hw_266 hw_267 hw_61 ⟨by decide, by decide, by decide +kernel⟩ (by decide) (by decide) (show decode cX8_gap 3 = .ok (.invokestatic 65, 3) by decide +kernel)
  · exact x_ifeq_ok (show decode cX8_gap 6 = .ok (.ifCond .eq 12, 3) by decide +kernel) (by decide)
  · exact x_iload_n_ok (show decode cX8_gap 9 = .ok (.iload_n 2, 1) by decide +kernel) rfl
  · exact x_bipush_ok (show decode cX8_gap 10 = .ok (.bipush 10, 2) by decide +kernel) (by decide)
  · exact x_callS_ok (sX8_among l) hw_268 hw_266 hw_267 hw_61 ⟨by decide, by decide, by decide +kernel⟩ (by decide) (by decide) (show decode cX8_gap 12 = .ok (.invokestatic 65, 3) by decide +kernel)
  · exact x_ifne_ok (show decode cX8_gap 15 = .ok (.ifCond .ne 5, 3) by decide +kernel) (by decide)
  · exact x_iconst_ok (show decode cX8_gap 18 = .ok (.iconst (-1), 1) by decide +kernel) (by decide)
  · exact x_iret_ok (show decode cX8_gap 19 = .ok (.ireturn, 1) by decide +kernel)
  · exact x_iconst_ok (show decode cX8_gap 20 = .ok (.iconst 0, 1) by decide +kernel) (by decide)
  · exact x_istore_n_ok (show decode cX8_gap 21 = .ok (.istore_n 3, 1) by decide +kernel) rfl (by decide)
  · exact x_iload_n_ok (show decode cX8_gap 22 = .ok (.iload_n 3, 1) by decide +kernel) rfl
  · exact x_sipush_ok (show decode cX8_gap 23 = .ok (.sipush 216, 3) by decide +kernel) (by decide)
  · exact x_cmpge_ok (show decode cX8_gap 26 = .ok (.if_icmp .ge 34, 3) by decide +kernel) (by decide)
  · exact x_aload_n_ok (show decode cX8_gap 29 = .ok (.aload_n 0, 1) by decide +kernel) rfl
  · exact x_getR_ok (ci := 6) (k := 6) rfl (by decide) (by decide) hw_228 (show decode cX8_gap 30 = .ok (.getfield 50, 3) by decide +kernel)
  · exact x_iload_n_ok (show decode cX8_gap 33 = .ok (.iload_n 3, 1) by decide +kernel) rfl
  · exact x_aload_n_ok (show decode cX8_gap 34 = .ok (.aload_n 0, 1) by decide +kernel) rfl
  · exact x_getR_ok (ci := 6) (k := 2) rfl (by decide) (by decide) hw_224 (show decode cX8_gap 35 = .ok (.getfield 26, 3) by decide +kernel)
  · exact x_iload_n_ok (show decode cX8_gap 38 = .ok (.iload_n 3, 1) by decide +kernel) rfl
  · exact x_iconst_ok (show decode cX8_gap 39 = .ok (.iconst 0, 1) by decide +kernel) (by decide)
  · exact x_callV_ok (ci := 3) rfl (by decide) (sX4_callerOf l) hw_501 hw_534 hw_499 hw_500 hw_64 ⟨by decide, by decide, by decide +kernel⟩ rfl (by decide) (by decide) (show decode cX8_gap 40 = .ok (.invokevirtual 169, 3) by decide +kernel)
  · exact x_bipush_ok (show decode cX8_gap 43 = .ok (.bipush (-9), 2) by decide +kernel) (by decide)
  · exact x_cmpne_ok (show decode cX8_gap 45 = .ok (.if_icmp .ne 7, 3) by decide +kernel) (by decide)
  · exact x_iconst_ok (show decode cX8_gap 48 = .ok (.iconst 1, 1) by decide +kernel) (by decide)
  · exact x_goto_ok (show decode cX8_gap 49 = .ok (.goto 4, 3) by decide +kernel) (by decide)
  · exact x_iconst_ok (show decode cX8_gap 52 = .ok (.iconst 0, 1) by decide +kernel) (by decide)
  · exact x_bastZ_ok (show decode cX8_gap 53 = .ok (.bastore, 1) by decide +kernel)
  · exact x_iinc_ok (show decode cX8_gap 54 = .ok (.iinc 3 1, 3) by decide +kernel) (by decide) (by decide)
  · exact x_goto_ok (show decode cX8_gap 57 = .ok (.goto (-35), 3) by decide +kernel) (by decide)
  · exact x_iconst_ok (show decode cX8_gap 60 = .ok (.iconst 0, 1) by decide +kernel) (by decide)
  · exact x_istore_n_ok (show decode cX8_gap 61 = .ok (.istore_n 3, 1) by decide +kernel) rfl (by decide)
  · exact x_iload_n_ok (show decode cX8_gap 62 = .ok (.iload_n 3, 1) by decide +kernel) rfl
  · exact x_sipush_ok (show decode cX8_gap 63 = .ok (.sipush 216, 3) by decide +kernel) (by decide)
  · exact x_cmpge_ok (show decode cX8_gap 66 = .ok (.if_icmp .ge 39, 3) by decide +kernel) (by decide)
  · exact x_aload_n_ok (show decode cX8_gap 69 = .ok (.aload_n 0, 1) by decide +kernel) rfl
  · exact x_getR_ok (ci := 6) (k := 7) rfl (by decide) (by decide) hw_229 (show decode cX8_gap 70 = .ok (.getfield 54, 3) by decide +kernel)
  · exact x_iload_n_ok (show decode cX8_gap 73 = .ok (.iload_n 3, 1) by decide +kernel) rfl
  · exact x_aload_n_ok (show decode cX8_gap 74 = .ok (.aload_n 0, 1) by decide +kernel) rfl
  · exact x_getR_ok (ci := 6) (k := 6) rfl (by decide) (by decide) hw_228 (show decode cX8_gap 75 = .ok (.getfield 50, 3) by decide +kernel)
  · exact x_iload_n_ok (show decode cX8_gap 78 = .ok (.iload_n 3, 1) by decide +kernel) rfl
  · exact x_bald_ok (show decode cX8_gap 79 = .ok (.baload, 1) by decide +kernel)
  · exact x_ifeq_ok (show decode cX8_gap 80 = .ok (.ifCond .eq 17, 3) by decide +kernel) (by decide)
  · exact x_aload_n_ok (show decode cX8_gap 83 = .ok (.aload_n 0, 1) by decide +kernel) rfl
  · exact x_iload_n_ok (show decode cX8_gap 84 = .ok (.iload_n 1, 1) by decide +kernel) rfl
  · exact x_iload_n_ok (show decode cX8_gap 85 = .ok (.iload_n 3, 1) by decide +kernel) rfl
  · exact x_iload_n_ok (show decode cX8_gap 86 = .ok (.iload_n 2, 1) by decide +kernel) rfl
  · exact x_callV_ok (ci := 6) rfl (by decide) (sX8_reachesOpenAlone l) hw_623 hw_620 hw_622 hw_9 hw_61 ⟨by decide, by decide, by decide +kernel⟩ rfl (by decide) (by decide) (show decode cX8_gap 87 = .ok (.invokevirtual 204, 3) by decide +kernel)
  · exact x_ifeq_ok (show decode cX8_gap 90 = .ok (.ifCond .eq 7, 3) by decide +kernel) (by decide)
  · exact x_iconst_ok (show decode cX8_gap 93 = .ok (.iconst 1, 1) by decide +kernel) (by decide)
  · exact x_goto_ok (show decode cX8_gap 94 = .ok (.goto 4, 3) by decide +kernel) (by decide)
  · exact x_iconst_ok (show decode cX8_gap 97 = .ok (.iconst 0, 1) by decide +kernel) (by decide)
  · exact x_bastZ_ok (show decode cX8_gap 98 = .ok (.bastore, 1) by decide +kernel)
  · exact x_iinc_ok (show decode cX8_gap 99 = .ok (.iinc 3 1, 3) by decide +kernel) (by decide) (by decide)
  · exact x_goto_ok (show decode cX8_gap 102 = .ok (.goto (-40), 3) by decide +kernel) (by decide)
  · exact x_aload_n_ok (show decode cX8_gap 105 = .ok (.aload_n 0, 1) by decide +kernel) rfl
  · exact x_callV_ok (ci := 6) rfl (by decide) (sX8_tellChosen l) hw_611 hw_608 hw_610 hw_8 hw_61 ⟨by decide, by decide, by decide +kernel⟩ rfl (by decide) (by decide) (show decode cX8_gap 106 = .ok (.invokevirtual 201, 3) by decide +kernel)
  · exact x_iret_ok (show decode cX8_gap 109 = .ok (.ireturn, 1) by decide +kernel)
noncomputable def FX8_gap : List Value → xS → Option xR := xden tX8_gap 4 (some .int) 0
theorem sX8_gap (l : Launch) : xSound l yX8_gap cX8_gap 4 (some .int) 6 0 FX8_gap := x_den (by decide) (tX8_gap_ok l)
noncomputable def tX9_isGap : List (Nat × xO) := [(0, x_push (.int (nI 0)) 1), (1, x_istore 4 2), (3, x_iload 4 2), (5, x_push (.int (nI 216)) 3), (8, x_cmpge 40), (11, x_aload 0 1), (12, x_getR 7 16), (15, x_iload 4 2), (17, x_bald), (18, x_ifne 34), (21, x_iload 1 1), (22, x_iload 2 1), (23, x_iload 3 1), (24, x_iload 4 2), (26, x_call 0 4 FX9_reachesOf), (29, x_ifeq 34), (32, x_push (.int (nI 0)) 1), (33, x_iret), (34, x_iinc 4 (nI 1)), (37, x_goto 3), (40, x_push (.int (nI 1)) 1), (41, x_iret)]
set_option maxRecDepth 100000 in
theorem tX9_isGap_ok (l : Launch) : ∀ q ∈ tX9_isGap, xOK l cX9_isGap RX9 5 4 0 (yX9_isGap.name = "<init>") q.1 q.2 := by
  unfold tX9_isGap
  refine List.forall_mem_cons.mpr ⟨?_, List.forall_mem_cons.mpr ⟨?_, List.forall_mem_cons.mpr ⟨?_, List.forall_mem_cons.mpr ⟨?_, List.forall_mem_cons.mpr ⟨?_, List.forall_mem_cons.mpr ⟨?_, List.forall_mem_cons.mpr ⟨?_, List.forall_mem_cons.mpr ⟨?_, List.forall_mem_cons.mpr ⟨?_, List.forall_mem_cons.mpr ⟨?_, List.forall_mem_cons.mpr ⟨?_, List.forall_mem_cons.mpr ⟨?_, List.forall_mem_cons.mpr ⟨?_, List.forall_mem_cons.mpr ⟨?_, List.forall_mem_cons.mpr ⟨?_, List.forall_mem_cons.mpr ⟨?_, List.forall_mem_cons.mpr ⟨?_, List.forall_mem_cons.mpr ⟨?_, List.forall_mem_cons.mpr ⟨?_, List.forall_mem_cons.mpr ⟨?_, List.forall_mem_cons.mpr ⟨?_, List.forall_mem_cons.mpr ⟨?_, fun _ h => absurd h List.not_mem_nil⟩⟩⟩⟩⟩⟩⟩⟩⟩⟩⟩⟩⟩⟩⟩⟩⟩⟩⟩⟩⟩⟩
  · exact x_iconst_ok (show decode cX9_isGap 0 = .ok (.iconst 0, 1) by decide +kernel) (by decide)
  · exact x_istore_ok (show decode cX9_isGap 1 = .ok (.istore 4, 2) by decide +kernel) (by decide)
  · exact x_iload_ok (show decode cX9_isGap 3 = .ok (.iload 4, 2) by decide +kernel)
  · exact x_sipush_ok (show decode cX9_isGap 5 = .ok (.sipush 216, 3) by decide +kernel) (by decide)
  · exact x_cmpge_ok (show decode cX9_isGap 8 = .ok (.if_icmp .ge 32, 3) by decide +kernel) (by decide)
  · exact x_aload_n_ok (show decode cX9_isGap 11 = .ok (.aload_n 0, 1) by decide +kernel) rfl
  · exact x_getR_ok (ci := 7) (k := 16) rfl (by decide) (by decide) hw_860 (show decode cX9_isGap 12 = .ok (.getfield 35, 3) by decide +kernel)
  · exact x_iload_ok (show decode cX9_isGap 15 = .ok (.iload 4, 2) by decide +kernel)
  · exact x_bald_ok (show decode cX9_isGap 17 = .ok (.baload, 1) by decide +kernel)
  · exact x_ifne_ok (show decode cX9_isGap 18 = .ok (.ifCond .ne 16, 3) by decide +kernel) (by decide)
  · exact x_iload_n_ok (show decode cX9_isGap 21 = .ok (.iload_n 1, 1) by decide +kernel) rfl
  · exact x_iload_n_ok (show decode cX9_isGap 22 = .ok (.iload_n 2, 1) by decide +kernel) rfl
  · exact x_iload_n_ok (show decode cX9_isGap 23 = .ok (.iload_n 3, 1) by decide +kernel) rfl
  · exact x_iload_ok (show decode cX9_isGap 24 = .ok (.iload 4, 2) by decide +kernel)
  · exact x_callS_ok (sX9_reachesOf l) hw_1029 hw_1027 hw_1028 hw_68 ⟨by decide, by decide, by decide +kernel⟩ (by decide) (by decide) (show decode cX9_isGap 26 = .ok (.invokestatic 147, 3) by decide +kernel)
  · exact x_ifeq_ok (show decode cX9_isGap 29 = .ok (.ifCond .eq 5, 3) by decide +kernel) (by decide)
  · exact x_iconst_ok (show decode cX9_isGap 32 = .ok (.iconst 0, 1) by decide +kernel) (by decide)
  · exact x_iret_ok (show decode cX9_isGap 33 = .ok (.ireturn, 1) by decide +kernel)
  · exact x_iinc_ok (show decode cX9_isGap 34 = .ok (.iinc 4 1, 3) by decide +kernel) (by decide) (by decide)
  · exact x_goto_ok (show decode cX9_isGap 37 = .ok (.goto (-34), 3) by decide +kernel) (by decide)
  · exact x_iconst_ok (show decode cX9_isGap 40 = .ok (.iconst 1, 1) by decide +kernel) (by decide)
  · exact x_iret_ok (show decode cX9_isGap 41 = .ok (.ireturn, 1) by decide +kernel)
noncomputable def FX9_isGap : List Value → xS → Option xR := xden tX9_isGap 5 (some .boolean) 0
theorem sX9_isGap (l : Launch) : xSound l yX9_isGap cX9_isGap 5 (some .boolean) 4 0 FX9_isGap := x_den (by decide) (tX9_isGap_ok l)
noncomputable def tX9_gap : List (Nat × xO) := [(0, x_iload 1 1), (1, x_call 0 1 FX9_isKind), (4, x_ifeq 19), (7, x_iload 2 1), (8, x_i2l), (9, x_push (.long 0) 1), (10, x_push (.long 9) 3), (13, x_call 0 3 FX9_in), (16, x_ifne 21), (19, x_push (.int (-1)) 1), (20, x_iret), (21, x_aload 0 1), (22, x_callV 7 0 1 FX9_layFree), (25, x_push (.int (-9)) 2), (27, x_istore 3 1), (28, x_aload 0 1), (29, x_push (.int (nI 0)) 1), (30, x_putI 7 5), (33, x_push (.int (nI 215)) 3), (36, x_istore 4 2), (38, x_iload 4 2), (40, x_iflt 90), (43, x_aload 0 1), (44, x_iload 1 1), (45, x_iload 2 1), (46, x_iload 4 2), (48, x_callV 7 0 4 FX9_isGap), (51, x_istore 5 2), (53, x_iload 5 2), (55, x_ifeq 63), (58, x_iload 4 2), (60, x_goto 64), (63, x_iload 3 1), (64, x_istore 3 1), (65, x_aload 0 1), (66, x_dup), (67, x_getI 7 5), (70, x_iload 5 2), (72, x_ifeq 79), (75, x_push (.int (nI 1)) 1), (76, x_goto 80), (79, x_push (.int (nI 0)) 1), (80, x_ii (fun x y => x + y)), (81, x_putI 7 5), (84, x_iinc 4 (-1)), (87, x_goto 38), (90, x_iload 3 1), (91, x_iret)]
set_option maxRecDepth 100000 in
theorem tX9_gap_ok (l : Launch) : ∀ q ∈ tX9_gap, xOK l cX9_gap RX9 6 7 0 (yX9_gap.name = "<init>") q.1 q.2 := by
  unfold tX9_gap
  refine List.forall_mem_cons.mpr ⟨?_, List.forall_mem_cons.mpr ⟨?_, List.forall_mem_cons.mpr ⟨?_, List.forall_mem_cons.mpr ⟨?_, List.forall_mem_cons.mpr ⟨?_, List.forall_mem_cons.mpr ⟨?_, List.forall_mem_cons.mpr ⟨?_, List.forall_mem_cons.mpr ⟨?_, List.forall_mem_cons.mpr ⟨?_, List.forall_mem_cons.mpr ⟨?_, List.forall_mem_cons.mpr ⟨?_, List.forall_mem_cons.mpr ⟨?_, List.forall_mem_cons.mpr ⟨?_, List.forall_mem_cons.mpr ⟨?_, List.forall_mem_cons.mpr ⟨?_, List.forall_mem_cons.mpr ⟨?_, List.forall_mem_cons.mpr ⟨?_, List.forall_mem_cons.mpr ⟨?_, List.forall_mem_cons.mpr ⟨?_, List.forall_mem_cons.mpr ⟨?_, List.forall_mem_cons.mpr ⟨?_, List.forall_mem_cons.mpr ⟨?_, List.forall_mem_cons.mpr ⟨?_, List.forall_mem_cons.mpr ⟨?_, List.forall_mem_cons.mpr ⟨?_, List.forall_mem_cons.mpr ⟨?_, List.forall_mem_cons.mpr ⟨?_, List.forall_mem_cons.mpr ⟨?_, List.forall_mem_cons.mpr ⟨?_, List.forall_mem_cons.mpr ⟨?_, List.forall_mem_cons.mpr ⟨?_, List.forall_mem_cons.mpr ⟨?_, List.forall_mem_cons.mpr ⟨?_, List.forall_mem_cons.mpr ⟨?_, List.forall_mem_cons.mpr ⟨?_, List.forall_mem_cons.mpr ⟨?_, List.forall_mem_cons.mpr ⟨?_, List.forall_mem_cons.mpr ⟨?_, List.forall_mem_cons.mpr ⟨?_, List.forall_mem_cons.mpr ⟨?_, List.forall_mem_cons.mpr ⟨?_, List.forall_mem_cons.mpr ⟨?_, List.forall_mem_cons.mpr ⟨?_, List.forall_mem_cons.mpr ⟨?_, List.forall_mem_cons.mpr ⟨?_, List.forall_mem_cons.mpr ⟨?_, List.forall_mem_cons.mpr ⟨?_, List.forall_mem_cons.mpr ⟨?_, fun _ h => absurd h List.not_mem_nil⟩⟩⟩⟩⟩⟩⟩⟩⟩⟩⟩⟩⟩⟩⟩⟩⟩⟩⟩⟩⟩⟩⟩⟩⟩⟩⟩⟩⟩⟩⟩⟩⟩⟩⟩⟩⟩⟩⟩⟩⟩⟩⟩⟩⟩⟩⟩⟩
  · exact x_iload_n_ok (show decode cX9_gap 0 = .ok (.iload_n 1, 1) by decide +kernel) rfl
  · exact x_callS_ok (sX9_isKind l) hw_1092 hw_1090 hw_1091 hw_68 ⟨by decide, by decide, by decide +kernel⟩ (by decide) (by decide) (show decode cX9_gap 1 = .ok (.invokestatic 195, 3) by decide +kernel)
  · exact x_ifeq_ok (show decode cX9_gap 4 = .ok (.ifCond .eq 15, 3) by decide +kernel) (by decide)
  · exact x_iload_n_ok (show decode cX9_gap 7 = .ok (.iload_n 2, 1) by decide +kernel) rfl
  · exact x_i2l_ok (show decode cX9_gap 8 = .ok (.i2l, 1) by decide +kernel)
  · exact x_lconst_ok (show decode cX9_gap 9 = .ok (.lconst 0, 1) by decide +kernel) rfl
  · exact x_ldc2_ok (show decode cX9_gap 10 = .ok (.ldc2_w 193, 3) by decide +kernel) hw_1085
  · exact x_callS_ok (sX9_in l) hw_918 hw_916 hw_917 hw_68 ⟨by decide, by decide, by decide +kernel⟩ (by decide) (by decide) (show decode cX9_gap 13 = .ok (.invokestatic 60, 3) by decide +kernel)
  · exact x_ifne_ok (show decode cX9_gap 16 = .ok (.ifCond .ne 5, 3) by decide +kernel) (by decide)
  · exact x_iconst_ok (show decode cX9_gap 19 = .ok (.iconst (-1), 1) by decide +kernel) (by decide)
  · exact x_iret_ok (show decode cX9_gap 20 = .ok (.ireturn, 1) by decide +kernel)
  · exact x_aload_n_ok (show decode cX9_gap 21 = .ok (.aload_n 0, 1) by decide +kernel) rfl
  · exact x_callV_ok (ci := 7) rfl (by decide) (sX9_layFree l) hw_1159 hw_1156 hw_1158 hw_44 hw_68 ⟨by decide, by decide, by decide +kernel⟩ rfl (by decide) (by decide) (show decode cX9_gap 22 = .ok (.invokevirtual 221, 3) by decide +kernel)
  · exact x_bipush_ok (show decode cX9_gap 25 = .ok (.bipush (-9), 2) by decide +kernel) (by decide)
  · exact x_istore_n_ok (show decode cX9_gap 27 = .ok (.istore_n 3, 1) by decide +kernel) rfl (by decide)
  · exact x_aload_n_ok (show decode cX9_gap 28 = .ok (.aload_n 0, 1) by decide +kernel) rfl
  · exact x_iconst_ok (show decode cX9_gap 29 = .ok (.iconst 0, 1) by decide +kernel) (by decide)
  · exact x_putI_ok (ci := 7) (k := 5) rfl (by decide) (by decide) rfl hw_849 rfl (show decode cX9_gap 30 = .ok (.putfield 55, 3) by decide +kernel)
  · exact x_sipush_ok (show decode cX9_gap 33 = .ok (.sipush 215, 3) by decide +kernel) (by decide)
  · exact x_istore_ok (show decode cX9_gap 36 = .ok (.istore 4, 2) by decide +kernel) (by decide)
  · exact x_iload_ok (show decode cX9_gap 38 = .ok (.iload 4, 2) by decide +kernel)
  · exact x_iflt_ok (show decode cX9_gap 40 = .ok (.ifCond .lt 50, 3) by decide +kernel) (by decide)
  · exact x_aload_n_ok (show decode cX9_gap 43 = .ok (.aload_n 0, 1) by decide +kernel) rfl
  · exact x_iload_n_ok (show decode cX9_gap 44 = .ok (.iload_n 1, 1) by decide +kernel) rfl
  · exact x_iload_n_ok (show decode cX9_gap 45 = .ok (.iload_n 2, 1) by decide +kernel) rfl
  · exact x_iload_ok (show decode cX9_gap 46 = .ok (.iload 4, 2) by decide +kernel)
  · exact x_callV_ok (ci := 7) rfl (by decide) (sX9_isGap l) hw_1167 hw_1164 hw_1166 hw_45 hw_68 ⟨by decide, by decide, by decide +kernel⟩ rfl (by decide) (by decide) (show decode cX9_gap 48 = .ok (.invokevirtual 224, 3) by decide +kernel)
  · exact x_istore_ok (show decode cX9_gap 51 = .ok (.istore 5, 2) by decide +kernel) (by decide)
  · exact x_iload_ok (show decode cX9_gap 53 = .ok (.iload 5, 2) by decide +kernel)
  · exact x_ifeq_ok (show decode cX9_gap 55 = .ok (.ifCond .eq 8, 3) by decide +kernel) (by decide)
  · exact x_iload_ok (show decode cX9_gap 58 = .ok (.iload 4, 2) by decide +kernel)
  · exact x_goto_ok (show decode cX9_gap 60 = .ok (.goto 4, 3) by decide +kernel) (by decide)
  · exact x_iload_n_ok (show decode cX9_gap 63 = .ok (.iload_n 3, 1) by decide +kernel) rfl
  · exact x_istore_n_ok (show decode cX9_gap 64 = .ok (.istore_n 3, 1) by decide +kernel) rfl (by decide)
  · exact x_aload_n_ok (show decode cX9_gap 65 = .ok (.aload_n 0, 1) by decide +kernel) rfl
  · exact x_dup_ok (show decode cX9_gap 66 = .ok (.dup, 1) by decide +kernel)
  · exact x_getI_ok (ci := 7) (k := 5) rfl (by decide) (by decide) hw_849 (show decode cX9_gap 67 = .ok (.getfield 55, 3) by decide +kernel)
  · exact x_iload_ok (show decode cX9_gap 70 = .ok (.iload 5, 2) by decide +kernel)
  · exact x_ifeq_ok (show decode cX9_gap 72 = .ok (.ifCond .eq 7, 3) by decide +kernel) (by decide)
  · exact x_iconst_ok (show decode cX9_gap 75 = .ok (.iconst 1, 1) by decide +kernel) (by decide)
  · exact x_goto_ok (show decode cX9_gap 76 = .ok (.goto 4, 3) by decide +kernel) (by decide)
  · exact x_iconst_ok (show decode cX9_gap 79 = .ok (.iconst 0, 1) by decide +kernel) (by decide)
  · exact x_iadd_ok (show decode cX9_gap 80 = .ok (.iadd, 1) by decide +kernel)
  · exact x_putI_ok (ci := 7) (k := 5) rfl (by decide) (by decide) rfl hw_849 rfl (show decode cX9_gap 81 = .ok (.putfield 55, 3) by decide +kernel)
  · exact x_iinc_ok (show decode cX9_gap 84 = .ok (.iinc 4 (-1), 3) by decide +kernel) (by decide) (by decide)
  · exact x_goto_ok (show decode cX9_gap 87 = .ok (.goto (-49), 3) by decide +kernel) (by decide)
  · exact x_iload_n_ok (show decode cX9_gap 90 = .ok (.iload_n 3, 1) by decide +kernel) rfl
  · exact x_iret_ok (show decode cX9_gap 91 = .ok (.ireturn, 1) by decide +kernel)
noncomputable def FX9_gap : List Value → xS → Option xR := xden tX9_gap 6 (some .int) 0
theorem sX9_gap (l : Launch) : xSound l yX9_gap cX9_gap 6 (some .int) 7 0 FX9_gap := x_den (by decide) (tX9_gap_ok l)
