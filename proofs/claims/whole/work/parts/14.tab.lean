noncomputable def tX9_shadeOf : List (Nat × xO) := [(0, x_aload 0 1), (1, x_getR 7 0), (4, x_push (.int (nI 2)) 1), (5, x_iload 1 1), (6, x_ii (fun x y => x + y)), (7, x_iald), (8, x_aload 0 1), (9, x_iload 1 1), (10, x_push (.int (nI 6)) 2), (12, x_callV 7 0 3 FX9_of), (15, x_push (.int (nI 1)) 1), (16, x_cmpne 26), (19, x_aload 0 1), (20, x_getI 7 15), (23, x_goto 27), (26, x_push (.int (nI 0)) 1), (27, x_ii (fun x y => x - y)), (28, x_istore 2 1), (29, x_push (.int (nI 36)) 2), (31, x_iload 2 1), (32, x_ifge 39), (35, x_push (.int (nI 0)) 1), (36, x_goto 40), (39, x_iload 2 1), (40, x_ii (fun x y => x * y)), (41, x_push (.int (nI 6)) 2), (43, x_aload 0 1), (44, x_iload 1 1), (45, x_push (.int (nI 1)) 1), (46, x_callV 7 0 3 FX9_of), (49, x_ii (fun x y => x * y)), (50, x_ii (fun x y => x + y)), (51, x_aload 0 1), (52, x_iload 1 1), (53, x_push (.int (nI 2)) 1), (54, x_callV 7 0 3 FX9_of), (57, x_ii (fun x y => x + y)), (58, x_iret)]
set_option maxRecDepth 100000 in
theorem tX9_shadeOf_ok (l : Launch) : ∀ q ∈ tX9_shadeOf, xOK l cX9_shadeOf RX9 3 2 0 (yX9_shadeOf.name = "<init>") q.1 q.2 := by
  unfold tX9_shadeOf
  refine List.forall_mem_cons.mpr ⟨?_, List.forall_mem_cons.mpr ⟨?_, List.forall_mem_cons.mpr ⟨?_, List.forall_mem_cons.mpr ⟨?_, List.forall_mem_cons.mpr ⟨?_, List.forall_mem_cons.mpr ⟨?_, List.forall_mem_cons.mpr ⟨?_, List.forall_mem_cons.mpr ⟨?_, List.forall_mem_cons.mpr ⟨?_, List.forall_mem_cons.mpr ⟨?_, List.forall_mem_cons.mpr ⟨?_, List.forall_mem_cons.mpr ⟨?_, List.forall_mem_cons.mpr ⟨?_, List.forall_mem_cons.mpr ⟨?_, List.forall_mem_cons.mpr ⟨?_, List.forall_mem_cons.mpr ⟨?_, List.forall_mem_cons.mpr ⟨?_, List.forall_mem_cons.mpr ⟨?_, List.forall_mem_cons.mpr ⟨?_, List.forall_mem_cons.mpr ⟨?_, List.forall_mem_cons.mpr ⟨?_, List.forall_mem_cons.mpr ⟨?_, List.forall_mem_cons.mpr ⟨?_, List.forall_mem_cons.mpr ⟨?_, List.forall_mem_cons.mpr ⟨?_, List.forall_mem_cons.mpr ⟨?_, List.forall_mem_cons.mpr ⟨?_, List.forall_mem_cons.mpr ⟨?_, List.forall_mem_cons.mpr ⟨?_, List.forall_mem_cons.mpr ⟨?_, List.forall_mem_cons.mpr ⟨?_, List.forall_mem_cons.mpr ⟨?_, List.forall_mem_cons.mpr ⟨?_, List.forall_mem_cons.mpr ⟨?_, List.forall_mem_cons.mpr ⟨?_, List.forall_mem_cons.mpr ⟨?_, List.forall_mem_cons.mpr ⟨?_, List.forall_mem_cons.mpr ⟨?_, fun _ h => absurd h List.not_mem_nil⟩⟩⟩⟩⟩⟩⟩⟩⟩⟩⟩⟩⟩⟩⟩⟩⟩⟩⟩⟩⟩⟩⟩⟩⟩⟩⟩⟩⟩⟩⟩⟩⟩⟩⟩⟩⟩⟩
  · exact x_aload_n_ok (show decode cX9_shadeOf 0 = .ok (.aload_n 0, 1) by decide +kernel) rfl
  · exact x_getR_ok (ci := 7) (k := 0) rfl (by decide) (by decide) hw_844 (show decode cX9_shadeOf 1 = .ok (.getfield 7, 3) by decide +kernel)
  · exact x_iconst_ok (show decode cX9_shadeOf 4 = .ok (.iconst 2, 1) by decide +kernel) (by decide)
  · exact x_iload_n_ok (show decode cX9_shadeOf 5 = .ok (.iload_n 1, 1) by decide +kernel) rfl
  · exact x_iadd_ok (show decode cX9_shadeOf 6 = .ok (.iadd, 1) by decide +kernel)
  · exact x_iald_ok (show decode cX9_shadeOf 7 = .ok (.iaload, 1) by decide +kernel)
  · exact x_aload_n_ok (show decode cX9_shadeOf 8 = .ok (.aload_n 0, 1) by decide +kernel) rfl
  · exact x_iload_n_ok (show decode cX9_shadeOf 9 = .ok (.iload_n 1, 1) by decide +kernel) rfl
  · exact x_bipush_ok (show decode cX9_shadeOf 10 = .ok (.bipush 6, 2) by decide +kernel) (by decide)
  · exact x_callV_ok (ci := 7) rfl (by decide) (sX9_of l) hw_1019 hw_1016 hw_1018 hw_30 hw_68 ⟨by decide, by decide, by decide +kernel⟩ rfl (by decide) (by decide) (show decode cX9_shadeOf 12 = .ok (.invokevirtual 128, 3) by decide +kernel)
  · exact x_iconst_ok (show decode cX9_shadeOf 15 = .ok (.iconst 1, 1) by decide +kernel) (by decide)
  · exact x_cmpne_ok (show decode cX9_shadeOf 16 = .ok (.if_icmp .ne 10, 3) by decide +kernel) (by decide)
  · exact x_aload_n_ok (show decode cX9_shadeOf 19 = .ok (.aload_n 0, 1) by decide +kernel) rfl
  · exact x_getI_ok (ci := 7) (k := 15) rfl (by decide) (by decide) hw_859 (show decode cX9_shadeOf 20 = .ok (.getfield 131, 3) by decide +kernel)
  · exact x_goto_ok (show decode cX9_shadeOf 23 = .ok (.goto 4, 3) by decide +kernel) (by decide)
  · exact x_iconst_ok (show decode cX9_shadeOf 26 = .ok (.iconst 0, 1) by decide +kernel) (by decide)
  · exact x_isub_ok (show decode cX9_shadeOf 27 = .ok (.isub, 1) by decide +kernel)
  · exact x_istore_n_ok (show decode cX9_shadeOf 28 = .ok (.istore_n 2, 1) by decide +kernel) rfl (by decide)
  · exact x_bipush_ok (show decode cX9_shadeOf 29 = .ok (.bipush 36, 2) by decide +kernel) (by decide)
  · exact x_iload_n_ok (show decode cX9_shadeOf 31 = .ok (.iload_n 2, 1) by decide +kernel) rfl
  · exact x_ifge_ok (show decode cX9_shadeOf 32 = .ok (.ifCond .ge 7, 3) by decide +kernel) (by decide)
  · exact x_iconst_ok (show decode cX9_shadeOf 35 = .ok (.iconst 0, 1) by decide +kernel) (by decide)
  · exact x_goto_ok (show decode cX9_shadeOf 36 = .ok (.goto 4, 3) by decide +kernel) (by decide)
  · exact x_iload_n_ok (show decode cX9_shadeOf 39 = .ok (.iload_n 2, 1) by decide +kernel) rfl
  · exact x_imul_ok (show decode cX9_shadeOf 40 = .ok (.imul, 1) by decide +kernel)
  · exact x_bipush_ok (show decode cX9_shadeOf 41 = .ok (.bipush 6, 2) by decide +kernel) (by decide)
  · exact x_aload_n_ok (show decode cX9_shadeOf 43 = .ok (.aload_n 0, 1) by decide +kernel) rfl
  · exact x_iload_n_ok (show decode cX9_shadeOf 44 = .ok (.iload_n 1, 1) by decide +kernel) rfl
  · exact x_iconst_ok (show decode cX9_shadeOf 45 = .ok (.iconst 1, 1) by decide +kernel) (by decide)
  · exact x_callV_ok (ci := 7) rfl (by decide) (sX9_of l) hw_1019 hw_1016 hw_1018 hw_30 hw_68 ⟨by decide, by decide, by decide +kernel⟩ rfl (by decide) (by decide) (show decode cX9_shadeOf 46 = .ok (.invokevirtual 128, 3) by decide +kernel)
  · exact x_imul_ok (show decode cX9_shadeOf 49 = .ok (.imul, 1) by decide +kernel)
  · exact x_iadd_ok (show decode cX9_shadeOf 50 = .ok (.iadd, 1) by decide +kernel)
  · exact x_aload_n_ok (show decode cX9_shadeOf 51 = .ok (.aload_n 0, 1) by decide +kernel) rfl
  · exact x_iload_n_ok (show decode cX9_shadeOf 52 = .ok (.iload_n 1, 1) by decide +kernel) rfl
  · exact x_iconst_ok (show decode cX9_shadeOf 53 = .ok (.iconst 2, 1) by decide +kernel) (by decide)
  · exact x_callV_ok (ci := 7) rfl (by decide) (sX9_of l) hw_1019 hw_1016 hw_1018 hw_30 hw_68 ⟨by decide, by decide, by decide +kernel⟩ rfl (by decide) (by decide) (show decode cX9_shadeOf 54 = .ok (.invokevirtual 128, 3) by decide +kernel)
  · exact x_iadd_ok (show decode cX9_shadeOf 57 = .ok (.iadd, 1) by decide +kernel)
  · exact x_iret_ok (show decode cX9_shadeOf 58 = .ok (.ireturn, 1) by decide +kernel)
noncomputable def FX9_shadeOf : List Value → xS → Option xR := xden tX9_shadeOf 3 (some .int) 0
theorem sX9_shadeOf (l : Launch) : xSound l yX9_shadeOf cX9_shadeOf 3 (some .int) 2 0 FX9_shadeOf := x_den (by decide) (tX9_shadeOf_ok l)
noncomputable def tX9_off : List (Nat × xO) := [(0, x_iload 0 1), (1, x_iload 1 1), (2, x_cmpge 11), (5, x_iload 1 1), (6, x_iload 0 1), (7, x_ii (fun x y => x - y)), (8, x_goto 14), (11, x_iload 0 1), (12, x_iload 1 1), (13, x_ii (fun x y => x - y)), (14, x_iret)]
set_option maxRecDepth 100000 in
theorem tX9_off_ok (l : Launch) : ∀ q ∈ tX9_off, xOK l cX9_off RX9 2 1 0 (yX9_off.name = "<init>") q.1 q.2 := by
  unfold tX9_off
  refine List.forall_mem_cons.mpr ⟨?_, List.forall_mem_cons.mpr ⟨?_, List.forall_mem_cons.mpr ⟨?_, List.forall_mem_cons.mpr ⟨?_, List.forall_mem_cons.mpr ⟨?_, List.forall_mem_cons.mpr ⟨?_, List.forall_mem_cons.mpr ⟨?_, List.forall_mem_cons.mpr ⟨?_, List.forall_mem_cons.mpr ⟨?_, List.forall_mem_cons.mpr ⟨?_, List.forall_mem_cons.mpr ⟨?_, fun _ h => absurd h List.not_mem_nil⟩⟩⟩⟩⟩⟩⟩⟩⟩⟩⟩
  · exact x_iload_n_ok (show decode cX9_off 0 = .ok (.iload_n 0, 1) by decide +kernel) rfl
  · exact x_iload_n_ok (show decode cX9_off 1 = .ok (.iload_n 1, 1) by decide +kernel) rfl
  · exact x_cmpge_ok (show decode cX9_off 2 = .ok (.if_icmp .ge 9, 3) by decide +kernel) (by decide)
  · exact x_iload_n_ok (show decode cX9_off 5 = .ok (.iload_n 1, 1) by decide +kernel) rfl
  · exact x_iload_n_ok (show decode cX9_off 6 = .ok (.iload_n 0, 1) by decide +kernel) rfl
  · exact x_isub_ok (show decode cX9_off 7 = .ok (.isub, 1) by decide +kernel)
  · exact x_goto_ok (show decode cX9_off 8 = .ok (.goto 6, 3) by decide +kernel) (by decide)
  · exact x_iload_n_ok (show decode cX9_off 11 = .ok (.iload_n 0, 1) by decide +kernel) rfl
  · exact x_iload_n_ok (show decode cX9_off 12 = .ok (.iload_n 1, 1) by decide +kernel) rfl
  · exact x_isub_ok (show decode cX9_off 13 = .ok (.isub, 1) by decide +kernel)
  · exact x_iret_ok (show decode cX9_off 14 = .ok (.ireturn, 1) by decide +kernel)
noncomputable def FX9_off : List Value → xS → Option xR := xden tX9_off 2 (some .int) 0
theorem sX9_off (l : Launch) : xSound l yX9_off cX9_off 2 (some .int) 1 0 FX9_off := x_den (by decide) (tX9_off_ok l)
noncomputable def tX9_more : List (Nat × xO) := [(0, x_iload 0 1), (1, x_iload 1 1), (2, x_cmple 9), (5, x_iload 0 1), (6, x_goto 10), (9, x_iload 1 1), (10, x_iret)]
set_option maxRecDepth 100000 in
theorem tX9_more_ok (l : Launch) : ∀ q ∈ tX9_more, xOK l cX9_more RX9 2 1 0 (yX9_more.name = "<init>") q.1 q.2 := by
  unfold tX9_more
  refine List.forall_mem_cons.mpr ⟨?_, List.forall_mem_cons.mpr ⟨?_, List.forall_mem_cons.mpr ⟨?_, List.forall_mem_cons.mpr ⟨?_, List.forall_mem_cons.mpr ⟨?_, List.forall_mem_cons.mpr ⟨?_, List.forall_mem_cons.mpr ⟨?_, fun _ h => absurd h List.not_mem_nil⟩⟩⟩⟩⟩⟩⟩
  · exact x_iload_n_ok (show decode cX9_more 0 = .ok (.iload_n 0, 1) by decide +kernel) rfl
  · exact x_iload_n_ok (show decode cX9_more 1 = .ok (.iload_n 1, 1) by decide +kernel) rfl
  · exact x_cmple_ok (show decode cX9_more 2 = .ok (.if_icmp .le 7, 3) by decide +kernel) (by decide)
  · exact x_iload_n_ok (show decode cX9_more 5 = .ok (.iload_n 0, 1) by decide +kernel) rfl
  · exact x_goto_ok (show decode cX9_more 6 = .ok (.goto 4, 3) by decide +kernel) (by decide)
  · exact x_iload_n_ok (show decode cX9_more 9 = .ok (.iload_n 1, 1) by decide +kernel) rfl
  · exact x_iret_ok (show decode cX9_more 10 = .ok (.ireturn, 1) by decide +kernel)
noncomputable def FX9_more : List Value → xS → Option xR := xden tX9_more 2 (some .int) 0
theorem sX9_more (l : Launch) : xSound l yX9_more cX9_more 2 (some .int) 1 0 FX9_more := x_den (by decide) (tX9_more_ok l)
noncomputable def tX9_far : List (Nat × xO) := [(0, x_iload 1 1), (1, x_push (.int (nI 36)) 2), (3, x_idiv), (4, x_iload 2 1), (5, x_push (.int (nI 36)) 2), (7, x_idiv), (8, x_call 0 2 FX9_off), (11, x_istore 3 1), (12, x_iload 1 1), (13, x_push (.int (nI 6)) 2), (15, x_idiv), (16, x_push (.int (nI 6)) 2), (18, x_irem), (19, x_iload 2 1), (20, x_push (.int (nI 6)) 2), (22, x_idiv), (23, x_push (.int (nI 6)) 2), (25, x_irem), (26, x_call 0 2 FX9_off), (29, x_istore 4 2), (31, x_iload 1 1), (32, x_push (.int (nI 6)) 2), (34, x_irem), (35, x_iload 2 1), (36, x_push (.int (nI 6)) 2), (38, x_irem), (39, x_call 0 2 FX9_off), (42, x_istore 5 2), (44, x_iload 0 1), (45, x_switch [((nI 1), 76), ((nI 3), 95), ((nI 4), 88)] 105), (76, x_iload 3 1), (77, x_iload 4 2), (79, x_iload 5 2), (81, x_call 0 2 FX9_more), (84, x_call 0 2 FX9_more), (87, x_iret), (88, x_iload 3 1), (89, x_iload 4 2), (91, x_call 0 2 FX9_more), (94, x_iret), (95, x_push (.int (nI 2)) 1), (96, x_iload 3 1), (97, x_ii (fun x y => x * y)), (98, x_iload 4 2), (100, x_ii (fun x y => x + y)), (101, x_iload 5 2), (103, x_ii (fun x y => x + y)), (104, x_iret), (105, x_iload 3 1), (106, x_iload 4 2), (108, x_ii (fun x y => x + y)), (109, x_iload 5 2), (111, x_ii (fun x y => x + y)), (112, x_iret)]
set_option maxRecDepth 100000 in
theorem tX9_far_ok (l : Launch) : ∀ q ∈ tX9_far, xOK l cX9_far RX9 6 2 0 (yX9_far.name = "<init>") q.1 q.2 := by
  unfold tX9_far
  refine List.forall_mem_cons.mpr ⟨?_, List.forall_mem_cons.mpr ⟨?_, List.forall_mem_cons.mpr ⟨?_, List.forall_mem_cons.mpr ⟨?_, List.forall_mem_cons.mpr ⟨?_, List.forall_mem_cons.mpr ⟨?_, List.forall_mem_cons.mpr ⟨?_, List.forall_mem_cons.mpr ⟨?_, List.forall_mem_cons.mpr ⟨?_, List.forall_mem_cons.mpr ⟨?_, List.forall_mem_cons.mpr ⟨?_, List.forall_mem_cons.mpr ⟨?_, List.forall_mem_cons.mpr ⟨?_, List.forall_mem_cons.mpr ⟨?_, List.forall_mem_cons.mpr ⟨?_, List.forall_mem_cons.mpr ⟨?_, List.forall_mem_cons.mpr ⟨?_, List.forall_mem_cons.mpr ⟨?_, List.forall_mem_cons.mpr ⟨?_, List.forall_mem_cons.mpr ⟨?_, List.forall_mem_cons.mpr ⟨?_, List.forall_mem_cons.mpr ⟨?_, List.forall_mem_cons.mpr ⟨?_, List.forall_mem_cons.mpr ⟨?_, List.forall_mem_cons.mpr ⟨?_, List.forall_mem_cons.mpr ⟨?_, List.forall_mem_cons.mpr ⟨?_, List.forall_mem_cons.mpr ⟨?_, List.forall_mem_cons.mpr ⟨?_, List.forall_mem_cons.mpr ⟨?_, List.forall_mem_cons.mpr ⟨?_, List.forall_mem_cons.mpr ⟨?_, List.forall_mem_cons.mpr ⟨?_, List.forall_mem_cons.mpr ⟨?_, List.forall_mem_cons.mpr ⟨?_, List.forall_mem_cons.mpr ⟨?_, List.forall_mem_cons.mpr ⟨?_, List.forall_mem_cons.mpr ⟨?_, List.forall_mem_cons.mpr ⟨?_, List.forall_mem_cons.mpr ⟨?_, List.forall_mem_cons.mpr ⟨?_, List.forall_mem_cons.mpr ⟨?_, List.forall_mem_cons.mpr ⟨?_, List.forall_mem_cons.mpr ⟨?_, List.forall_mem_cons.mpr ⟨?_, List.forall_mem_cons.mpr ⟨?_, List.forall_mem_cons.mpr ⟨?_, List.forall_mem_cons.mpr ⟨?_, List.forall_mem_cons.mpr ⟨?_, List.forall_mem_cons.mpr ⟨?_, List.forall_mem_cons.mpr ⟨?_, List.forall_mem_cons.mpr ⟨?_, List.forall_mem_cons.mpr ⟨?_, List.forall_mem_cons.mpr ⟨?_, fun _ h => absurd h List.not_mem_nil⟩⟩⟩⟩⟩⟩⟩⟩⟩⟩⟩⟩⟩⟩⟩⟩⟩⟩⟩⟩⟩⟩⟩⟩⟩⟩⟩⟩⟩⟩⟩⟩⟩⟩⟩⟩⟩⟩⟩⟩⟩⟩⟩⟩⟩⟩⟩⟩⟩⟩⟩⟩⟩⟩
  · exact x_iload_n_ok (show decode cX9_far 0 = .ok (.iload_n 1, 1) by decide +kernel) rfl
  · exact x_bipush_ok (show decode cX9_far 1 = .ok (.bipush 36, 2) by decide +kernel) (by decide)
  · exact x_idiv_ok (show decode cX9_far 3 = .ok (.idiv, 1) by decide +kernel)
  · exact x_iload_n_ok (show decode cX9_far 4 = .ok (.iload_n 2, 1) by decide +kernel) rfl
  · exact x_bipush_ok (show decode cX9_far 5 = .ok (.bipush 36, 2) by decide +kernel) (by decide)
  · exact x_idiv_ok (show decode cX9_far 7 = .ok (.idiv, 1) by decide +kernel)
  · exact x_callS_ok (sX9_off l) hw_1035 hw_1033 hw_1034 hw_68 ⟨by decide, by decide, by decide +kernel⟩ (by decide) (by decide) (show decode cX9_far 8 = .ok (.invokestatic 134, 3) by decide +kernel)
  · exact x_istore_n_ok (show decode cX9_far 11 = .ok (.istore_n 3, 1) by decide +kernel) rfl (by decide)
  · exact x_iload_n_ok (show decode cX9_far 12 = .ok (.iload_n 1, 1) by decide +kernel) rfl
  · exact x_bipush_ok (show decode cX9_far 13 = .ok (.bipush 6, 2) by decide +kernel) (by decide)
  · exact x_idiv_ok (show decode cX9_far 15 = .ok (.idiv, 1) by decide +kernel)
  · exact x_bipush_ok (show decode cX9_far 16 = .ok (.bipush 6, 2) by decide +kernel) (by decide)
  · exact x_irem_ok (show decode cX9_far 18 = .ok (.irem, 1) by decide +kernel)
  · exact x_iload_n_ok (show decode cX9_far 19 = .ok (.iload_n 2, 1) by decide +kernel) rfl
  · exact x_bipush_ok (show decode cX9_far 20 = .ok (.bipush 6, 2) by decide +kernel) (by decide)
  · exact x_idiv_ok (show decode cX9_far 22 = .ok (.idiv, 1) by decide +kernel)
  · exact x_bipush_ok (show decode cX9_far 23 = .ok (.bipush 6, 2) by decide +kernel) (by decide)
  · exact x_irem_ok (show decode cX9_far 25 = .ok (.irem, 1) by decide +kernel)
  · exact x_callS_ok (sX9_off l) hw_1035 hw_1033 hw_1034 hw_68 ⟨by decide, by decide, by decide +kernel⟩ (by decide) (by decide) (show decode cX9_far 26 = .ok (.invokestatic 134, 3) by decide +kernel)
  · exact x_istore_ok (show decode cX9_far 29 = .ok (.istore 4, 2) by decide +kernel) (by decide)
  · exact x_iload_n_ok (show decode cX9_far 31 = .ok (.iload_n 1, 1) by decide +kernel) rfl
  · exact x_bipush_ok (show decode cX9_far 32 = .ok (.bipush 6, 2) by decide +kernel) (by decide)
  · exact x_irem_ok (show decode cX9_far 34 = .ok (.irem, 1) by decide +kernel)
  · exact x_iload_n_ok (show decode cX9_far 35 = .ok (.iload_n 2, 1) by decide +kernel) rfl
  · exact x_bipush_ok (show decode cX9_far 36 = .ok (.bipush 6, 2) by decide +kernel) (by decide)
  · exact x_irem_ok (show decode cX9_far 38 = .ok (.irem, 1) by decide +kernel)
  · exact x_callS_ok (sX9_off l) hw_1035 hw_1033 hw_1034 hw_68 ⟨by decide, by decide, by decide +kernel⟩ (by decide) (by decide) (show decode cX9_far 39 = .ok (.invokestatic 134, 3) by decide +kernel)
  · exact x_istore_ok (show decode cX9_far 42 = .ok (.istore 5, 2) by decide +kernel) (by decide)
  · exact x_iload_n_ok (show decode cX9_far 44 = .ok (.iload_n 0, 1) by decide +kernel) rfl
  · exact x_switch_ok (show decode cX9_far 45 = .ok (.tableswitch 60 1 4 #[31, 60, 50, 43], 31) by decide +kernel) (by decide) (by decide +kernel) (by decide) (by decide) (by decide +kernel)
  · exact x_iload_n_ok (show decode cX9_far 76 = .ok (.iload_n 3, 1) by decide +kernel) rfl
  · exact x_iload_ok (show decode cX9_far 77 = .ok (.iload 4, 2) by decide +kernel)
  · exact x_iload_ok (show decode cX9_far 79 = .ok (.iload 5, 2) by decide +kernel)
  · exact x_callS_ok (sX9_more l) hw_1038 hw_1036 hw_1037 hw_68 ⟨by decide, by decide, by decide +kernel⟩ (by decide) (by decide) (show decode cX9_far 81 = .ok (.invokestatic 137, 3) by decide +kernel)
  · exact x_callS_ok (sX9_more l) hw_1038 hw_1036 hw_1037 hw_68 ⟨by decide, by decide, by decide +kernel⟩ (by decide) (by decide) (show decode cX9_far 84 = .ok (.invokestatic 137, 3) by decide +kernel)
  · exact x_iret_ok (show decode cX9_far 87 = .ok (.ireturn, 1) by decide +kernel)
  · exact x_iload_n_ok (show decode cX9_far 88 = .ok (.iload_n 3, 1) by decide +kernel) rfl
  · exact x_iload_ok (show decode cX9_far 89 = .ok (.iload 4, 2) by decide +kernel)
  · exact x_callS_ok (sX9_more l) hw_1038 hw_1036 hw_1037 hw_68 ⟨by decide, by decide, by decide +kernel⟩ (by decide) (by decide) (show decode cX9_far 91 = .ok (.invokestatic 137, 3) by decide +kernel)
  · exact x_iret_ok (show decode cX9_far 94 = .ok (.ireturn, 1) by decide +kernel)
  · exact x_iconst_ok (show decode cX9_far 95 = .ok (.iconst 2, 1) by decide +kernel) (by decide)
  · exact x_iload_n_ok (show decode cX9_far 96 = .ok (.iload_n 3, 1) by decide +kernel) rfl
  · exact x_imul_ok (show decode cX9_far 97 = .ok (.imul, 1) by decide +kernel)
  · exact x_iload_ok (show decode cX9_far 98 = .ok (.iload 4, 2) by decide +kernel)
  · exact x_iadd_ok (show decode cX9_far 100 = .ok (.iadd, 1) by decide +kernel)
  · exact x_iload_ok (show decode cX9_far 101 = .ok (.iload 5, 2) by decide +kernel)
  · exact x_iadd_ok (show decode cX9_far 103 = .ok (.iadd, 1) by decide +kernel)
  · exact x_iret_ok (show decode cX9_far 104 = .ok (.ireturn, 1) by decide +kernel)
  · exact x_iload_n_ok (show decode cX9_far 105 = .ok (.iload_n 3, 1) by decide +kernel) rfl
  · exact x_iload_ok (show decode cX9_far 106 = .ok (.iload 4, 2) by decide +kernel)
  · exact x_iadd_ok (show decode cX9_far 108 = .ok (.iadd, 1) by decide +kernel)
  · exact x_iload_ok (show decode cX9_far 109 = .ok (.iload 5, 2) by decide +kernel)
  · exact x_iadd_ok (show decode cX9_far 111 = .ok (.iadd, 1) by decide +kernel)
  · exact x_iret_ok (show decode cX9_far 112 = .ok (.ireturn, 1) by decide +kernel)
noncomputable def FX9_far : List Value → xS → Option xR := xden tX9_far 6 (some .int) 0
theorem sX9_far (l : Launch) : xSound l yX9_far cX9_far 6 (some .int) 2 0 FX9_far := x_den (by decide) (tX9_far_ok l)
noncomputable def tX9_reachesOf : List (Nat × xO) := [(0, x_iload 0 1), (1, x_iload 2 1), (2, x_iload 3 1), (3, x_call 0 3 FX9_far), (6, x_istore 4 2), (8, x_iload 0 1), (9, x_push (.int (nI 2)) 1), (10, x_cmpeq 18), (13, x_iload 0 1), (14, x_push (.int (nI 5)) 1), (15, x_cmpne 37), (18, x_iload 4 2), (20, x_iload 1 1), (21, x_cmplt 29), (24, x_iload 3 1), (25, x_iload 2 1), (26, x_cmpne 33), (29, x_push (.int (nI 1)) 1), (30, x_goto 48), (33, x_push (.int (nI 0)) 1), (34, x_goto 48), (37, x_iload 4 2), (39, x_iload 1 1), (40, x_cmpgt 47), (43, x_push (.int (nI 1)) 1), (44, x_goto 48), (47, x_push (.int (nI 0)) 1), (48, x_iret)]
set_option maxRecDepth 100000 in
theorem tX9_reachesOf_ok (l : Launch) : ∀ q ∈ tX9_reachesOf, xOK l cX9_reachesOf RX9 5 3 0 (yX9_reachesOf.name = "<init>") q.1 q.2 := by
  unfold tX9_reachesOf
  refine List.forall_mem_cons.mpr ⟨?_, List.forall_mem_cons.mpr ⟨?_, List.forall_mem_cons.mpr ⟨?_, List.forall_mem_cons.mpr ⟨?_, List.forall_mem_cons.mpr ⟨?_, List.forall_mem_cons.mpr ⟨?_, List.forall_mem_cons.mpr ⟨?_, List.forall_mem_cons.mpr ⟨?_, List.forall_mem_cons.mpr ⟨?_, List.forall_mem_cons.mpr ⟨?_, List.forall_mem_cons.mpr ⟨?_, List.forall_mem_cons.mpr ⟨?_, List.forall_mem_cons.mpr ⟨?_, List.forall_mem_cons.mpr ⟨?_, List.forall_mem_cons.mpr ⟨?_, List.forall_mem_cons.mpr ⟨?_, List.forall_mem_cons.mpr ⟨?_, List.forall_mem_cons.mpr ⟨?_, List.forall_mem_cons.mpr ⟨?_, List.forall_mem_cons.mpr ⟨?_, List.forall_mem_cons.mpr ⟨?_, List.forall_mem_cons.mpr ⟨?_, List.forall_mem_cons.mpr ⟨?_, List.forall_mem_cons.mpr ⟨?_, List.forall_mem_cons.mpr ⟨?_, List.forall_mem_cons.mpr ⟨?_, List.forall_mem_cons.mpr ⟨?_, List.forall_mem_cons.mpr ⟨?_, fun _ h => absurd h List.not_mem_nil⟩⟩⟩⟩⟩⟩⟩⟩⟩⟩⟩⟩⟩⟩⟩⟩⟩⟩⟩⟩⟩⟩⟩⟩⟩⟩⟩⟩
  · exact x_iload_n_ok (show decode cX9_reachesOf 0 = .ok (.iload_n 0, 1) by decide +kernel) rfl
  · exact x_iload_n_ok (show decode cX9_reachesOf 1 = .ok (.iload_n 2, 1) by decide +kernel) rfl
  · exact x_iload_n_ok (show decode cX9_reachesOf 2 = .ok (.iload_n 3, 1) by decide +kernel) rfl
  · exact x_callS_ok (sX9_far l) hw_1032 hw_1030 hw_1031 hw_68 ⟨by decide, by decide, by decide +kernel⟩ (by decide) (by decide) (show decode cX9_reachesOf 3 = .ok (.invokestatic 140, 3) by decide +kernel)
  · exact x_istore_ok (show decode cX9_reachesOf 6 = .ok (.istore 4, 2) by decide +kernel) (by decide)
  · exact x_iload_n_ok (show decode cX9_reachesOf 8 = .ok (.iload_n 0, 1) by decide +kernel) rfl
  · exact x_iconst_ok (show decode cX9_reachesOf 9 = .ok (.iconst 2, 1) by decide +kernel) (by decide)
  · exact x_cmpeq_ok (show decode cX9_reachesOf 10 = .ok (.if_icmp .eq 8, 3) by decide +kernel) (by decide)
  · exact x_iload_n_ok (show decode cX9_reachesOf 13 = .ok (.iload_n 0, 1) by decide +kernel) rfl
  · exact x_iconst_ok (show decode cX9_reachesOf 14 = .ok (.iconst 5, 1) by decide +kernel) (by decide)
  · exact x_cmpne_ok (show decode cX9_reachesOf 15 = .ok (.if_icmp .ne 22, 3) by decide +kernel) (by decide)
  · exact x_iload_ok (show decode cX9_reachesOf 18 = .ok (.iload 4, 2) by decide +kernel)
  · exact x_iload_n_ok (show decode cX9_reachesOf 20 = .ok (.iload_n 1, 1) by decide +kernel) rfl
  · exact x_cmplt_ok (show decode cX9_reachesOf 21 = .ok (.if_icmp .lt 8, 3) by decide +kernel) (by decide)
  · exact x_iload_n_ok (show decode cX9_reachesOf 24 = .ok (.iload_n 3, 1) by decide +kernel) rfl
  · exact x_iload_n_ok (show decode cX9_reachesOf 25 = .ok (.iload_n 2, 1) by decide +kernel) rfl
  · exact x_cmpne_ok (show decode cX9_reachesOf 26 = .ok (.if_icmp .ne 7, 3) by decide +kernel) (by decide)
  · exact x_iconst_ok (show decode cX9_reachesOf 29 = .ok (.iconst 1, 1) by decide +kernel) (by decide)
  · exact x_goto_ok (show decode cX9_reachesOf 30 = .ok (.goto 18, 3) by decide +kernel) (by decide)
  · exact x_iconst_ok (show decode cX9_reachesOf 33 = .ok (.iconst 0, 1) by decide +kernel) (by decide)
  · exact x_goto_ok (show decode cX9_reachesOf 34 = .ok (.goto 14, 3) by decide +kernel) (by decide)
  · exact x_iload_ok (show decode cX9_reachesOf 37 = .ok (.iload 4, 2) by decide +kernel)
  · exact x_iload_n_ok (show decode cX9_reachesOf 39 = .ok (.iload_n 1, 1) by decide +kernel) rfl
  · exact x_cmpgt_ok (show decode cX9_reachesOf 40 = .ok (.if_icmp .gt 7, 3) by decide +kernel) (by decide)
  · exact x_iconst_ok (show decode cX9_reachesOf 43 = .ok (.iconst 1, 1) by decide +kernel) (by decide)
  · exact x_goto_ok (show decode cX9_reachesOf 44 = .ok (.goto 4, 3) by decide +kernel) (by decide)
  · exact x_iconst_ok (show decode cX9_reachesOf 47 = .ok (.iconst 0, 1) by decide +kernel) (by decide)
  · exact x_iret_ok (show decode cX9_reachesOf 48 = .ok (.ireturn, 1) by decide +kernel)
noncomputable def FX9_reachesOf : List Value → xS → Option xR := xden tX9_reachesOf 5 (some .boolean) 0
theorem sX9_reachesOf (l : Launch) : xSound l yX9_reachesOf cX9_reachesOf 5 (some .boolean) 3 0 FX9_reachesOf := x_den (by decide) (tX9_reachesOf_ok l)
noncomputable def tX9_reachedBy : List (Nat × xO) := [(0, x_push (.int (nI 0)) 1), (1, x_istore 3 1), (2, x_push (.int (nI 0)) 1), (3, x_istore 4 2), (5, x_iload 4 2), (7, x_push (.int (nI 216)) 3), (10, x_cmpge 38), (13, x_iload 3 1), (14, x_iload 0 1), (15, x_iload 1 1), (16, x_iload 2 1), (17, x_iload 4 2), (19, x_call 0 4 FX9_reachesOf), (22, x_ifeq 29), (25, x_push (.int (nI 1)) 1), (26, x_goto 30), (29, x_push (.int (nI 0)) 1), (30, x_ii (fun x y => x + y)), (31, x_istore 3 1), (32, x_iinc 4 (nI 1)), (35, x_goto 5), (38, x_iload 3 1), (39, x_iret)]
set_option maxRecDepth 100000 in
theorem tX9_reachedBy_ok (l : Launch) : ∀ q ∈ tX9_reachedBy, xOK l cX9_reachedBy RX9 5 4 0 (yX9_reachedBy.name = "<init>") q.1 q.2 := by
  unfold tX9_reachedBy
  refine List.forall_mem_cons.mpr ⟨?_, List.forall_mem_cons.mpr ⟨?_, List.forall_mem_cons.mpr ⟨?_, List.forall_mem_cons.mpr ⟨?_, List.forall_mem_cons.mpr ⟨?_, List.forall_mem_cons.mpr ⟨?_, List.forall_mem_cons.mpr ⟨?_, List.forall_mem_cons.mpr ⟨?_, List.forall_mem_cons.mpr ⟨?_, List.forall_mem_cons.mpr ⟨?_, List.forall_mem_cons.mpr ⟨?_, List.forall_mem_cons.mpr ⟨?_, List.forall_mem_cons.mpr ⟨?_, List.forall_mem_cons.mpr ⟨?_, List.forall_mem_cons.mpr ⟨?_, List.forall_mem_cons.mpr ⟨?_, List.forall_mem_cons.mpr ⟨?_, List.forall_mem_cons.mpr ⟨?_, List.forall_mem_cons.mpr ⟨?_, List.forall_mem_cons.mpr ⟨?_, List.forall_mem_cons.mpr ⟨?_, List.forall_mem_cons.mpr ⟨?_, List.forall_mem_cons.mpr ⟨?_, fun _ h => absurd h List.not_mem_nil⟩⟩⟩⟩⟩⟩⟩⟩⟩⟩⟩⟩⟩⟩⟩⟩⟩⟩⟩⟩⟩⟩⟩
  · exact x_iconst_ok (show decode cX9_reachedBy 0 = .ok (.iconst 0, 1) by decide +kernel) (by decide)
  · exact x_istore_n_ok (show decode cX9_reachedBy 1 = .ok (.istore_n 3, 1) by decide +kernel) rfl (by decide)
  · exact x_iconst_ok (show decode cX9_reachedBy 2 = .ok (.iconst 0, 1) by decide +kernel) (by decide)
  · exact x_istore_ok (show decode cX9_reachedBy 3 = .ok (.istore 4, 2) by decide +kernel) (by decide)
  · exact x_iload_ok (show decode cX9_reachedBy 5 = .ok (.iload 4, 2) by decide +kernel)
  · exact x_sipush_ok (show decode cX9_reachedBy 7 = .ok (.sipush 216, 3) by decide +kernel) (by decide)
  · exact x_cmpge_ok (show decode cX9_reachedBy 10 = .ok (.if_icmp .ge 28, 3) by decide +kernel) (by decide)
  · exact x_iload_n_ok (show decode cX9_reachedBy 13 = .ok (.iload_n 3, 1) by decide +kernel) rfl
  · exact x_iload_n_ok (show decode cX9_reachedBy 14 = .ok (.iload_n 0, 1) by decide +kernel) rfl
  · exact x_iload_n_ok (show decode cX9_reachedBy 15 = .ok (.iload_n 1, 1) by decide +kernel) rfl
  · exact x_iload_n_ok (show decode cX9_reachedBy 16 = .ok (.iload_n 2, 1) by decide +kernel) rfl
  · exact x_iload_ok (show decode cX9_reachedBy 17 = .ok (.iload 4, 2) by decide +kernel)
  · exact x_callS_ok (sX9_reachesOf l) hw_1029 hw_1027 hw_1028 hw_68 ⟨by decide, by decide, by decide +kernel⟩ (by decide) (by decide) (show decode cX9_reachedBy 19 = .ok (.invokestatic 147, 3) by decide +kernel)
  · exact x_ifeq_ok (show decode cX9_reachedBy 22 = .ok (.ifCond .eq 7, 3) by decide +kernel) (by decide)
  · exact x_iconst_ok (show decode cX9_reachedBy 25 = .ok (.iconst 1, 1) by decide +kernel) (by decide)
  · exact x_goto_ok (show decode cX9_reachedBy 26 = .ok (.goto 4, 3) by decide +kernel) (by decide)
  · exact x_iconst_ok (show decode cX9_reachedBy 29 = .ok (.iconst 0, 1) by decide +kernel) (by decide)
  · exact x_iadd_ok (show decode cX9_reachedBy 30 = .ok (.iadd, 1) by decide +kernel)
  · exact x_istore_n_ok (show decode cX9_reachedBy 31 = .ok (.istore_n 3, 1) by decide +kernel) rfl (by decide)
  · exact x_iinc_ok (show decode cX9_reachedBy 32 = .ok (.iinc 4 1, 3) by decide +kernel) (by decide) (by decide)
  · exact x_goto_ok (show decode cX9_reachedBy 35 = .ok (.goto (-30), 3) by decide +kernel) (by decide)
  · exact x_iload_n_ok (show decode cX9_reachedBy 38 = .ok (.iload_n 3, 1) by decide +kernel) rfl
  · exact x_iret_ok (show decode cX9_reachedBy 39 = .ok (.ireturn, 1) by decide +kernel)
noncomputable def FX9_reachedBy : List Value → xS → Option xR := xden tX9_reachedBy 5 (some .int) 0
theorem sX9_reachedBy (l : Launch) : xSound l yX9_reachedBy cX9_reachedBy 5 (some .int) 4 0 FX9_reachedBy := x_den (by decide) (tX9_reachedBy_ok l)
noncomputable def tX9_toldOf : List (Nat × xO) := [(0, x_iload 2 1), (1, x_switch [((nI 0), 40), ((nI 1), 47), ((nI 2), 53), ((nI 3), 60), ((nI 4), 67), ((nI 5), 74)] 82), (40, x_aload 0 1), (41, x_iload 1 1), (42, x_push (.int (nI 0)) 1), (43, x_callV 7 0 3 FX9_of), (46, x_iret), (47, x_aload 0 1), (48, x_iload 1 1), (49, x_callV 7 0 2 FX9_shadeOf), (52, x_iret), (53, x_aload 0 1), (54, x_iload 1 1), (55, x_push (.int (nI 3)) 1), (56, x_callV 7 0 3 FX9_of), (59, x_iret), (60, x_aload 0 1), (61, x_iload 1 1), (62, x_push (.int (nI 4)) 1), (63, x_callV 7 0 3 FX9_of), (66, x_iret), (67, x_aload 0 1), (68, x_iload 1 1), (69, x_push (.int (nI 5)) 1), (70, x_callV 7 0 3 FX9_of), (73, x_iret), (74, x_aload 0 1), (75, x_iload 1 1), (76, x_push (.int (nI 6)) 2), (78, x_callV 7 0 3 FX9_of), (81, x_iret), (82, x_aload 0 1), (83, x_iload 1 1), (84, x_push (.int (nI 0)) 1), (85, x_callV 7 0 3 FX9_of), (88, x_aload 0 1), (89, x_iload 1 1), (90, x_push (.int (nI 3)) 1), (91, x_callV 7 0 3 FX9_of), (94, x_aload 0 1), (95, x_iload 1 1), (96, x_callV 7 0 2 FX9_shadeOf), (99, x_call 0 3 FX9_reachedBy), (102, x_iret)]
set_option maxRecDepth 100000 in
theorem tX9_toldOf_ok (l : Launch) : ∀ q ∈ tX9_toldOf, xOK l cX9_toldOf RX9 3 5 0 (yX9_toldOf.name = "<init>") q.1 q.2 := by
  unfold tX9_toldOf
  refine List.forall_mem_cons.mpr ⟨?_, List.forall_mem_cons.mpr ⟨?_, List.forall_mem_cons.mpr ⟨?_, List.forall_mem_cons.mpr ⟨?_, List.forall_mem_cons.mpr ⟨?_, List.forall_mem_cons.mpr ⟨?_, List.forall_mem_cons.mpr ⟨?_, List.forall_mem_cons.mpr ⟨?_, List.forall_mem_cons.mpr ⟨?_, List.forall_mem_cons.mpr ⟨?_, List.forall_mem_cons.mpr ⟨?_, List.forall_mem_cons.mpr ⟨?_, List.forall_mem_cons.mpr ⟨?_, List.forall_mem_cons.mpr ⟨?_, List.forall_mem_cons.mpr ⟨?_, List.forall_mem_cons.mpr ⟨?_, List.forall_mem_cons.mpr ⟨?_, List.forall_mem_cons.mpr ⟨?_, List.forall_mem_cons.mpr ⟨?_, List.forall_mem_cons.mpr ⟨?_, List.forall_mem_cons.mpr ⟨?_, List.forall_mem_cons.mpr ⟨?_, List.forall_mem_cons.mpr ⟨?_, List.forall_mem_cons.mpr ⟨?_, List.forall_mem_cons.mpr ⟨?_, List.forall_mem_cons.mpr ⟨?_, List.forall_mem_cons.mpr ⟨?_, List.forall_mem_cons.mpr ⟨?_, List.forall_mem_cons.mpr ⟨?_, List.forall_mem_cons.mpr ⟨?_, List.forall_mem_cons.mpr ⟨?_, List.forall_mem_cons.mpr ⟨?_, List.forall_mem_cons.mpr ⟨?_, List.forall_mem_cons.mpr ⟨?_, List.forall_mem_cons.mpr ⟨?_, List.forall_mem_cons.mpr ⟨?_, List.forall_mem_cons.mpr ⟨?_, List.forall_mem_cons.mpr ⟨?_, List.forall_mem_cons.mpr ⟨?_, List.forall_mem_cons.mpr ⟨?_, List.forall_mem_cons.mpr ⟨?_, List.forall_mem_cons.mpr ⟨?_, List.forall_mem_cons.mpr ⟨?_, List.forall_mem_cons.mpr ⟨?_, fun _ h => absurd h List.not_mem_nil⟩⟩⟩⟩⟩⟩⟩⟩⟩⟩⟩⟩⟩⟩⟩⟩⟩⟩⟩⟩⟩⟩⟩⟩⟩⟩⟩⟩⟩⟩⟩⟩⟩⟩⟩⟩⟩⟩⟩⟩⟩⟩⟩⟩
  · exact x_iload_n_ok (show decode cX9_toldOf 0 = .ok (.iload_n 2, 1) by decide +kernel) rfl
  · exact x_switch_ok (show decode cX9_toldOf 1 = .ok (.tableswitch 81 0 5 #[39, 46, 52, 59, 66, 73], 39) by decide +kernel) (by decide) (by decide +kernel) (by decide) (by decide) (by decide +kernel)
  · exact x_aload_n_ok (show decode cX9_toldOf 40 = .ok (.aload_n 0, 1) by decide +kernel) rfl
  · exact x_iload_n_ok (show decode cX9_toldOf 41 = .ok (.iload_n 1, 1) by decide +kernel) rfl
  · exact x_iconst_ok (show decode cX9_toldOf 42 = .ok (.iconst 0, 1) by decide +kernel) (by decide)
  · exact x_callV_ok (ci := 7) rfl (by decide) (sX9_of l) hw_1019 hw_1016 hw_1018 hw_30 hw_68 ⟨by decide, by decide, by decide +kernel⟩ rfl (by decide) (by decide) (show decode cX9_toldOf 43 = .ok (.invokevirtual 128, 3) by decide +kernel)
  · exact x_iret_ok (show decode cX9_toldOf 46 = .ok (.ireturn, 1) by decide +kernel)
  · exact x_aload_n_ok (show decode cX9_toldOf 47 = .ok (.aload_n 0, 1) by decide +kernel) rfl
  · exact x_iload_n_ok (show decode cX9_toldOf 48 = .ok (.iload_n 1, 1) by decide +kernel) rfl
  · exact x_callV_ok (ci := 7) rfl (by decide) (sX9_shadeOf l) hw_1023 hw_1020 hw_1022 hw_31 hw_68 ⟨by decide, by decide, by decide +kernel⟩ rfl (by decide) (by decide) (show decode cX9_toldOf 49 = .ok (.invokevirtual 144, 3) by decide +kernel)
  · exact x_iret_ok (show decode cX9_toldOf 52 = .ok (.ireturn, 1) by decide +kernel)
  · exact x_aload_n_ok (show decode cX9_toldOf 53 = .ok (.aload_n 0, 1) by decide +kernel) rfl
  · exact x_iload_n_ok (show decode cX9_toldOf 54 = .ok (.iload_n 1, 1) by decide +kernel) rfl
  · exact x_iconst_ok (show decode cX9_toldOf 55 = .ok (.iconst 3, 1) by decide +kernel) (by decide)
  · exact x_callV_ok (ci := 7) rfl (by decide) (sX9_of l) hw_1019 hw_1016 hw_1018 hw_30 hw_68 ⟨by decide, by decide, by decide +kernel⟩ rfl (by decide) (by decide) (show decode cX9_toldOf 56 = .ok (.invokevirtual 128, 3) by decide +kernel)
  · exact x_iret_ok (show decode cX9_toldOf 59 = .ok (.ireturn, 1) by decide +kernel)
  · exact x_aload_n_ok (show decode cX9_toldOf 60 = .ok (.aload_n 0, 1) by decide +kernel) rfl
  · exact x_iload_n_ok (show decode cX9_toldOf 61 = .ok (.iload_n 1, 1) by decide +kernel) rfl
  · exact x_iconst_ok (show decode cX9_toldOf 62 = .ok (.iconst 4, 1) by decide +kernel) (by decide)
  · exact x_callV_ok (ci := 7) rfl (by decide) (sX9_of l) hw_1019 hw_1016 hw_1018 hw_30 hw_68 ⟨by decide, by decide, by decide +kernel⟩ rfl (by decide) (by decide) (show decode cX9_toldOf 63 = .ok (.invokevirtual 128, 3) by decide +kernel)
  · exact x_iret_ok (show decode cX9_toldOf 66 = .ok (.ireturn, 1) by decide +kernel)
  · exact x_aload_n_ok (show decode cX9_toldOf 67 = .ok (.aload_n 0, 1) by decide +kernel) rfl
  · exact x_iload_n_ok (show decode cX9_toldOf 68 = .ok (.iload_n 1, 1) by decide +kernel) rfl
  · exact x_iconst_ok (show decode cX9_toldOf 69 = .ok (.iconst 5, 1) by decide +kernel) (by decide)
  · exact x_callV_ok (ci := 7) rfl (by decide) (sX9_of l) hw_1019 hw_1016 hw_1018 hw_30 hw_68 ⟨by decide, by decide, by decide +kernel⟩ rfl (by decide) (by decide) (show decode cX9_toldOf 70 = .ok (.invokevirtual 128, 3) by decide +kernel)
  · exact x_iret_ok (show decode cX9_toldOf 73 = .ok (.ireturn, 1) by decide +kernel)
  · exact x_aload_n_ok (show decode cX9_toldOf 74 = .ok (.aload_n 0, 1) by decide +kernel) rfl
  · exact x_iload_n_ok (show decode cX9_toldOf 75 = .ok (.iload_n 1, 1) by decide +kernel) rfl
  · exact x_bipush_ok (show decode cX9_toldOf 76 = .ok (.bipush 6, 2) by decide +kernel) (by decide)
  · exact x_callV_ok (ci := 7) rfl (by decide) (sX9_of l) hw_1019 hw_1016 hw_1018 hw_30 hw_68 ⟨by decide, by decide, by decide +kernel⟩ rfl (by decide) (by decide) (show decode cX9_toldOf 78 = .ok (.invokevirtual 128, 3) by decide +kernel)
  · exact x_iret_ok (show decode cX9_toldOf 81 = .ok (.ireturn, 1) by decide +kernel)
  · exact x_aload_n_ok (show decode cX9_toldOf 82 = .ok (.aload_n 0, 1) by decide +kernel) rfl
  · exact x_iload_n_ok (show decode cX9_toldOf 83 = .ok (.iload_n 1, 1) by decide +kernel) rfl
  · exact x_iconst_ok (show decode cX9_toldOf 84 = .ok (.iconst 0, 1) by decide +kernel) (by decide)
  · exact x_callV_ok (ci := 7) rfl (by decide) (sX9_of l) hw_1019 hw_1016 hw_1018 hw_30 hw_68 ⟨by decide, by decide, by decide +kernel⟩ rfl (by decide) (by decide) (show decode cX9_toldOf 85 = .ok (.invokevirtual 128, 3) by decide +kernel)
  · exact x_aload_n_ok (show decode cX9_toldOf 88 = .ok (.aload_n 0, 1) by decide +kernel) rfl
  · exact x_iload_n_ok (show decode cX9_toldOf 89 = .ok (.iload_n 1, 1) by decide +kernel) rfl
  · exact x_iconst_ok (show decode cX9_toldOf 90 = .ok (.iconst 3, 1) by decide +kernel) (by decide)
  · exact x_callV_ok (ci := 7) rfl (by decide) (sX9_of l) hw_1019 hw_1016 hw_1018 hw_30 hw_68 ⟨by decide, by decide, by decide +kernel⟩ rfl (by decide) (by decide) (show decode cX9_toldOf 91 = .ok (.invokevirtual 128, 3) by decide +kernel)
  · exact x_aload_n_ok (show decode cX9_toldOf 94 = .ok (.aload_n 0, 1) by decide +kernel) rfl
  · exact x_iload_n_ok (show decode cX9_toldOf 95 = .ok (.iload_n 1, 1) by decide +kernel) rfl
  · exact x_callV_ok (ci := 7) rfl (by decide) (sX9_shadeOf l) hw_1023 hw_1020 hw_1022 hw_31 hw_68 ⟨by decide, by decide, by decide +kernel⟩ rfl (by decide) (by decide) (show decode cX9_toldOf 96 = .ok (.invokevirtual 144, 3) by decide +kernel)
  · exact x_callS_ok (sX9_reachedBy l) hw_1026 hw_1024 hw_1025 hw_68 ⟨by decide, by decide, by decide +kernel⟩ (by decide) (by decide) (show decode cX9_toldOf 99 = .ok (.invokestatic 167, 3) by decide +kernel)
  · exact x_iret_ok (show decode cX9_toldOf 102 = .ok (.ireturn, 1) by decide +kernel)
noncomputable def FX9_toldOf : List Value → xS → Option xR := xden tX9_toldOf 3 (some .int) 0
theorem sX9_toldOf (l : Launch) : xSound l yX9_toldOf cX9_toldOf 3 (some .int) 5 0 FX9_toldOf := x_den (by decide) (tX9_toldOf_ok l)
noncomputable def tX9_name : List (Nat × xO) := [(0, x_aload 0 1), (1, x_iload 1 1), (2, x_callV 7 0 2 FX9_isName), (5, x_ifeq 33), (8, x_iload 2 1), (9, x_i2l), (10, x_push (.long 0) 1), (11, x_push (.long 6) 3), (14, x_call 0 3 FX9_in), (17, x_ifeq 33), (20, x_aload 0 1), (21, x_aload 0 1), (22, x_iload 1 1), (23, x_iload 2 1), (24, x_callV 7 0 3 FX9_toldOf), (27, x_callV 7 0 2 FX9_tell), (30, x_goto 34), (33, x_push (.int (-1)) 1), (34, x_iret)]
set_option maxRecDepth 100000 in
theorem tX9_name_ok (l : Launch) : ∀ q ∈ tX9_name, xOK l cX9_name RX9 3 6 0 (yX9_name.name = "<init>") q.1 q.2 := by
  unfold tX9_name
  refine List.forall_mem_cons.mpr ⟨?_, List.forall_mem_cons.mpr ⟨?_, List.forall_mem_cons.mpr ⟨?_, List.forall_mem_cons.mpr ⟨?_, List.forall_mem_cons.mpr ⟨?_, List.forall_mem_cons.mpr ⟨?_, List.forall_mem_cons.mpr ⟨?_, List.forall_mem_cons.mpr ⟨?_, List.forall_mem_cons.mpr ⟨?_, List.forall_mem_cons.mpr ⟨?_, List.forall_mem_cons.mpr ⟨?_, List.forall_mem_cons.mpr ⟨?_, List.forall_mem_cons.mpr ⟨?_, List.forall_mem_cons.mpr ⟨?_, List.forall_mem_cons.mpr ⟨?_, List.forall_mem_cons.mpr ⟨?_, List.forall_mem_cons.mpr ⟨?_, List.forall_mem_cons.mpr ⟨?_, List.forall_mem_cons.mpr ⟨?_, fun _ h => absurd h List.not_mem_nil⟩⟩⟩⟩⟩⟩⟩⟩⟩⟩⟩⟩⟩⟩⟩⟩⟩⟩⟩
  · exact x_aload_n_ok (show decode cX9_name 0 = .ok (.aload_n 0, 1) by decide +kernel) rfl
  · exact x_iload_n_ok (show decode cX9_name 1 = .ok (.iload_n 1, 1) by decide +kernel) rfl
  · exact x_callV_ok (ci := 7) rfl (by decide) (sX9_isName l) hw_1010 hw_1007 hw_1009 hw_28 hw_68 ⟨by decide, by decide, by decide +kernel⟩ rfl (by decide) (by decide) (show decode cX9_name 2 = .ok (.invokevirtual 170, 3) by decide +kernel)
  · exact x_ifeq_ok (show decode cX9_name 5 = .ok (.ifCond .eq 28, 3) by decide +kernel) (by decide)
  · exact x_iload_n_ok (show decode cX9_name 8 = .ok (.iload_n 2, 1) by decide +kernel) rfl
  · exact x_i2l_ok (show decode cX9_name 9 = .ok (.i2l, 1) by decide +kernel)
  · exact x_lconst_ok (show decode cX9_name 10 = .ok (.lconst 0, 1) by decide +kernel) rfl
  · exact x_ldc2_ok (show decode cX9_name 11 = .ok (.ldc2_w 173, 3) by decide +kernel) hw_1011
  · exact x_callS_ok (sX9_in l) hw_918 hw_916 hw_917 hw_68 ⟨by decide, by decide, by decide +kernel⟩ (by decide) (by decide) (show decode cX9_name 14 = .ok (.invokestatic 60, 3) by decide +kernel)
  · exact x_ifeq_ok (show decode cX9_name 17 = .ok (.ifCond .eq 16, 3) by decide +kernel) (by decide)
  · exact x_aload_n_ok (show decode cX9_name 20 = .ok (.aload_n 0, 1) by decide +kernel) rfl
  · exact x_aload_n_ok (show decode cX9_name 21 = .ok (.aload_n 0, 1) by decide +kernel) rfl
  · exact x_iload_n_ok (show decode cX9_name 22 = .ok (.iload_n 1, 1) by decide +kernel) rfl
  · exact x_iload_n_ok (show decode cX9_name 23 = .ok (.iload_n 2, 1) by decide +kernel) rfl
  · exact x_callV_ok (ci := 7) rfl (by decide) (sX9_toldOf l) hw_1015 hw_1012 hw_1014 hw_29 hw_68 ⟨by decide, by decide, by decide +kernel⟩ rfl (by decide) (by decide) (show decode cX9_name 24 = .ok (.invokevirtual 175, 3) by decide +kernel)
  · exact x_callV_ok (ci := 7) rfl (by decide) (sX9_tell l) hw_938 hw_935 hw_937 hw_21 hw_68 ⟨by decide, by decide, by decide +kernel⟩ rfl (by decide) (by decide) (show decode cX9_name 27 = .ok (.invokevirtual 82, 3) by decide +kernel)
  · exact x_goto_ok (show decode cX9_name 30 = .ok (.goto 4, 3) by decide +kernel) (by decide)
  · exact x_iconst_ok (show decode cX9_name 33 = .ok (.iconst (-1), 1) by decide +kernel) (by decide)
  · exact x_iret_ok (show decode cX9_name 34 = .ok (.ireturn, 1) by decide +kernel)
noncomputable def FX9_name : List Value → xS → Option xR := xden tX9_name 3 (some .int) 0
theorem sX9_name (l : Launch) : xSound l yX9_name cX9_name 3 (some .int) 6 0 FX9_name := x_den (by decide) (tX9_name_ok l)
noncomputable def tX4_nameReaches : List (Nat × xO) := [(0, x_aload 0 1), (1, x_getR 3 0), (4, x_iload 1 1), (5, x_aald), (6, x_getI 1 0), (9, x_aload 0 1), (10, x_iload 1 1), (11, x_iload 3 1), (12, x_callV 3 0 3 FX4_shadeOf), (15, x_aload 0 1), (16, x_getR 3 0), (19, x_iload 1 1), (20, x_aald), (21, x_getI 1 2), (24, x_iload 2 1), (25, x_call 0 4 FX1_reaches), (28, x_iret)]
set_option maxRecDepth 100000 in
theorem tX4_nameReaches_ok (l : Launch) : ∀ q ∈ tX4_nameReaches, xOK l cX4_nameReaches RX4 4 4 0 (yX4_nameReaches.name = "<init>") q.1 q.2 := by
  unfold tX4_nameReaches
  refine List.forall_mem_cons.mpr ⟨?_, List.forall_mem_cons.mpr ⟨?_, List.forall_mem_cons.mpr ⟨?_, List.forall_mem_cons.mpr ⟨?_, List.forall_mem_cons.mpr ⟨?_, List.forall_mem_cons.mpr ⟨?_, List.forall_mem_cons.mpr ⟨?_, List.forall_mem_cons.mpr ⟨?_, List.forall_mem_cons.mpr ⟨?_, List.forall_mem_cons.mpr ⟨?_, List.forall_mem_cons.mpr ⟨?_, List.forall_mem_cons.mpr ⟨?_, List.forall_mem_cons.mpr ⟨?_, List.forall_mem_cons.mpr ⟨?_, List.forall_mem_cons.mpr ⟨?_, List.forall_mem_cons.mpr ⟨?_, List.forall_mem_cons.mpr ⟨?_, fun _ h => absurd h List.not_mem_nil⟩⟩⟩⟩⟩⟩⟩⟩⟩⟩⟩⟩⟩⟩⟩⟩⟩
  · exact x_aload_n_ok (show decode cX4_nameReaches 0 = .ok (.aload_n 0, 1) by decide +kernel) rfl
  · exact x_getR_ok (ci := 3) (k := 0) rfl (by decide) (by decide) hw_173 (show decode cX4_nameReaches 1 = .ok (.getfield 13, 3) by decide +kernel)
  · exact x_iload_n_ok (show decode cX4_nameReaches 4 = .ok (.iload_n 1, 1) by decide +kernel) rfl
  · exact x_aald_ok (show decode cX4_nameReaches 5 = .ok (.aaload, 1) by decide +kernel)
  · exact x_getI_ok (ci := 1) (k := 0) rfl (by decide) (by decide) hw_138 (show decode cX4_nameReaches 6 = .ok (.getfield 40, 3) by decide +kernel)
  · exact x_aload_n_ok (show decode cX4_nameReaches 9 = .ok (.aload_n 0, 1) by decide +kernel) rfl
  · exact x_iload_n_ok (show decode cX4_nameReaches 10 = .ok (.iload_n 1, 1) by decide +kernel) rfl
  · exact x_iload_n_ok (show decode cX4_nameReaches 11 = .ok (.iload_n 3, 1) by decide +kernel) rfl
  · exact x_callV_ok (ci := 3) rfl (by decide) (sX4_shadeOf l) hw_453 hw_506 hw_451 hw_452 hw_64 ⟨by decide, by decide, by decide +kernel⟩ rfl (by decide) (by decide) (show decode cX4_nameReaches 12 = .ok (.invokevirtual 59, 3) by decide +kernel)
  · exact x_aload_n_ok (show decode cX4_nameReaches 15 = .ok (.aload_n 0, 1) by decide +kernel) rfl
  · exact x_getR_ok (ci := 3) (k := 0) rfl (by decide) (by decide) hw_173 (show decode cX4_nameReaches 16 = .ok (.getfield 13, 3) by decide +kernel)
  · exact x_iload_n_ok (show decode cX4_nameReaches 19 = .ok (.iload_n 1, 1) by decide +kernel) rfl
  · exact x_aald_ok (show decode cX4_nameReaches 20 = .ok (.aaload, 1) by decide +kernel)
  · exact x_getI_ok (ci := 1) (k := 2) rfl (by decide) (by decide) hw_145 (show decode cX4_nameReaches 21 = .ok (.getfield 46, 3) by decide +kernel)
  · exact x_iload_n_ok (show decode cX4_nameReaches 24 = .ok (.iload_n 2, 1) by decide +kernel) rfl
  · exact x_callS_ok (sX1_reaches l) hw_475 hw_507 hw_474 hw_70 ⟨by decide, by decide, by decide +kernel⟩ (by decide) (by decide) (show decode cX4_nameReaches 25 = .ok (.invokestatic 68, 3) by decide +kernel)
  · exact x_iret_ok (show decode cX4_nameReaches 28 = .ok (.ireturn, 1) by decide +kernel)
noncomputable def FX4_nameReaches : List Value → xS → Option xR := xden tX4_nameReaches 4 (some .boolean) 0
theorem sX4_nameReaches (l : Launch) : xSound l yX4_nameReaches cX4_nameReaches 4 (some .boolean) 4 0 FX4_nameReaches := x_den (by decide) (tX4_nameReaches_ok l)
noncomputable def tX4_callerOf : List (Nat × xO) := [(0, x_push (.int (nI 0)) 1), (1, x_istore 3 1), (2, x_iload 3 1), (3, x_aload 0 1), (4, x_getI 3 1), (7, x_cmpge 28), (10, x_aload 0 1), (11, x_iload 3 1), (12, x_iload 1 1), (13, x_iload 2 1), (14, x_callV 3 0 4 FX4_nameReaches), (17, x_ifeq 22), (20, x_iload 3 1), (21, x_iret), (22, x_iinc 3 (nI 1)), (25, x_goto 2), (28, x_push (.int (-9)) 2), (30, x_iret)]
set_option maxRecDepth 100000 in
theorem tX4_callerOf_ok (l : Launch) : ∀ q ∈ tX4_callerOf, xOK l cX4_callerOf RX4 4 5 0 (yX4_callerOf.name = "<init>") q.1 q.2 := by
  unfold tX4_callerOf
  refine List.forall_mem_cons.mpr ⟨?_, List.forall_mem_cons.mpr ⟨?_, List.forall_mem_cons.mpr ⟨?_, List.forall_mem_cons.mpr ⟨?_, List.forall_mem_cons.mpr ⟨?_, List.forall_mem_cons.mpr ⟨?_, List.forall_mem_cons.mpr ⟨?_, List.forall_mem_cons.mpr ⟨?_, List.forall_mem_cons.mpr ⟨?_, List.forall_mem_cons.mpr ⟨?_, List.forall_mem_cons.mpr ⟨?_, List.forall_mem_cons.mpr ⟨?_, List.forall_mem_cons.mpr ⟨?_, List.forall_mem_cons.mpr ⟨?_, List.forall_mem_cons.mpr ⟨?_, List.forall_mem_cons.mpr ⟨?_, List.forall_mem_cons.mpr ⟨?_, List.forall_mem_cons.mpr ⟨?_, fun _ h => absurd h List.not_mem_nil⟩⟩⟩⟩⟩⟩⟩⟩⟩⟩⟩⟩⟩⟩⟩⟩⟩⟩
  · exact x_iconst_ok (show decode cX4_callerOf 0 = .ok (.iconst 0, 1) by decide +kernel) (by decide)
  · exact x_istore_n_ok (show decode cX4_callerOf 1 = .ok (.istore_n 3, 1) by decide +kernel) rfl (by decide)
  · exact x_iload_n_ok (show decode cX4_callerOf 2 = .ok (.iload_n 3, 1) by decide +kernel) rfl
  · exact x_aload_n_ok (show decode cX4_callerOf 3 = .ok (.aload_n 0, 1) by decide +kernel) rfl
  · exact x_getI_ok (ci := 3) (k := 1) rfl (by decide) (by decide) hw_175 (show decode cX4_callerOf 4 = .ok (.getfield 22, 3) by decide +kernel)
  · exact x_cmpge_ok (show decode cX4_callerOf 7 = .ok (.if_icmp .ge 21, 3) by decide +kernel) (by decide)
  · exact x_aload_n_ok (show decode cX4_callerOf 10 = .ok (.aload_n 0, 1) by decide +kernel) rfl
  · exact x_iload_n_ok (show decode cX4_callerOf 11 = .ok (.iload_n 3, 1) by decide +kernel) rfl
  · exact x_iload_n_ok (show decode cX4_callerOf 12 = .ok (.iload_n 1, 1) by decide +kernel) rfl
  · exact x_iload_n_ok (show decode cX4_callerOf 13 = .ok (.iload_n 2, 1) by decide +kernel) rfl
  · exact x_callV_ok (ci := 3) rfl (by decide) (sX4_nameReaches l) hw_505 hw_502 hw_503 hw_504 hw_64 ⟨by decide, by decide, by decide +kernel⟩ rfl (by decide) (by decide) (show decode cX4_callerOf 14 = .ok (.invokevirtual 74, 3) by decide +kernel)
  · exact x_ifeq_ok (show decode cX4_callerOf 17 = .ok (.ifCond .eq 5, 3) by decide +kernel) (by decide)
  · exact x_iload_n_ok (show decode cX4_callerOf 20 = .ok (.iload_n 3, 1) by decide +kernel) rfl
  · exact x_iret_ok (show decode cX4_callerOf 21 = .ok (.ireturn, 1) by decide +kernel)
  · exact x_iinc_ok (show decode cX4_callerOf 22 = .ok (.iinc 3 1, 3) by decide +kernel) (by decide) (by decide)
  · exact x_goto_ok (show decode cX4_callerOf 25 = .ok (.goto (-23), 3) by decide +kernel) (by decide)
  · exact x_bipush_ok (show decode cX4_callerOf 28 = .ok (.bipush (-9), 2) by decide +kernel) (by decide)
  · exact x_iret_ok (show decode cX4_callerOf 30 = .ok (.ireturn, 1) by decide +kernel)
noncomputable def FX4_callerOf : List Value → xS → Option xR := xden tX4_callerOf 4 (some .int) 0
theorem sX4_callerOf (l : Launch) : xSound l yX4_callerOf cX4_callerOf 4 (some .int) 5 0 FX4_callerOf := x_den (by decide) (tX4_callerOf_ok l)
noncomputable def tX4_countCalledBy : List (Nat × xO) := [(0, x_push (.int (nI 0)) 1), (1, x_istore 2 1), (2, x_push (.int (nI 0)) 1), (3, x_istore 3 1), (4, x_iload 3 1), (5, x_push (.int (nI 216)) 3), (8, x_cmpge 30), (11, x_aload 0 1), (12, x_iload 3 1), (13, x_push (.int (nI 0)) 1), (14, x_callV 3 0 3 FX4_callerOf), (17, x_iload 1 1), (18, x_cmpne 24), (21, x_iinc 2 (nI 1)), (24, x_iinc 3 (nI 1)), (27, x_goto 4), (30, x_iload 2 1), (31, x_iret)]
set_option maxRecDepth 100000 in
theorem tX4_countCalledBy_ok (l : Launch) : ∀ q ∈ tX4_countCalledBy, xOK l cX4_countCalledBy RX4 4 6 0 (yX4_countCalledBy.name = "<init>") q.1 q.2 := by
  unfold tX4_countCalledBy
  refine List.forall_mem_cons.mpr ⟨?_, List.forall_mem_cons.mpr ⟨?_, List.forall_mem_cons.mpr ⟨?_, List.forall_mem_cons.mpr ⟨?_, List.forall_mem_cons.mpr ⟨?_, List.forall_mem_cons.mpr ⟨?_, List.forall_mem_cons.mpr ⟨?_, List.forall_mem_cons.mpr ⟨?_, List.forall_mem_cons.mpr ⟨?_, List.forall_mem_cons.mpr ⟨?_, List.forall_mem_cons.mpr ⟨?_, List.forall_mem_cons.mpr ⟨?_, List.forall_mem_cons.mpr ⟨?_, List.forall_mem_cons.mpr ⟨?_, List.forall_mem_cons.mpr ⟨?_, List.forall_mem_cons.mpr ⟨?_, List.forall_mem_cons.mpr ⟨?_, List.forall_mem_cons.mpr ⟨?_, fun _ h => absurd h List.not_mem_nil⟩⟩⟩⟩⟩⟩⟩⟩⟩⟩⟩⟩⟩⟩⟩⟩⟩⟩
  · exact x_iconst_ok (show decode cX4_countCalledBy 0 = .ok (.iconst 0, 1) by decide +kernel) (by decide)
  · exact x_istore_n_ok (show decode cX4_countCalledBy 1 = .ok (.istore_n 2, 1) by decide +kernel) rfl (by decide)
  · exact x_iconst_ok (show decode cX4_countCalledBy 2 = .ok (.iconst 0, 1) by decide +kernel) (by decide)
  · exact x_istore_n_ok (show decode cX4_countCalledBy 3 = .ok (.istore_n 3, 1) by decide +kernel) rfl (by decide)
  · exact x_iload_n_ok (show decode cX4_countCalledBy 4 = .ok (.iload_n 3, 1) by decide +kernel) rfl
  · exact x_sipush_ok (show decode cX4_countCalledBy 5 = .ok (.sipush 216, 3) by decide +kernel) (by decide)
  · exact x_cmpge_ok (show decode cX4_countCalledBy 8 = .ok (.if_icmp .ge 22, 3) by decide +kernel) (by decide)
  · exact x_aload_n_ok (show decode cX4_countCalledBy 11 = .ok (.aload_n 0, 1) by decide +kernel) rfl
  · exact x_iload_n_ok (show decode cX4_countCalledBy 12 = .ok (.iload_n 3, 1) by decide +kernel) rfl
  · exact x_iconst_ok (show decode cX4_countCalledBy 13 = .ok (.iconst 0, 1) by decide +kernel) (by decide)
  · exact x_callV_ok (ci := 3) rfl (by decide) (sX4_callerOf l) hw_501 hw_498 hw_499 hw_500 hw_64 ⟨by decide, by decide, by decide +kernel⟩ rfl (by decide) (by decide) (show decode cX4_countCalledBy 14 = .ok (.invokevirtual 78, 3) by decide +kernel)
  · exact x_iload_n_ok (show decode cX4_countCalledBy 17 = .ok (.iload_n 1, 1) by decide +kernel) rfl
  · exact x_cmpne_ok (show decode cX4_countCalledBy 18 = .ok (.if_icmp .ne 6, 3) by decide +kernel) (by decide)
  · exact x_iinc_ok (show decode cX4_countCalledBy 21 = .ok (.iinc 2 1, 3) by decide +kernel) (by decide) (by decide)
  · exact x_iinc_ok (show decode cX4_countCalledBy 24 = .ok (.iinc 3 1, 3) by decide +kernel) (by decide) (by decide)
  · exact x_goto_ok (show decode cX4_countCalledBy 27 = .ok (.goto (-23), 3) by decide +kernel) (by decide)
  · exact x_iload_n_ok (show decode cX4_countCalledBy 30 = .ok (.iload_n 2, 1) by decide +kernel) rfl
  · exact x_iret_ok (show decode cX4_countCalledBy 31 = .ok (.ireturn, 1) by decide +kernel)
noncomputable def FX4_countCalledBy : List Value → xS → Option xR := xden tX4_countCalledBy 4 (some .int) 0
theorem sX4_countCalledBy (l : Launch) : xSound l yX4_countCalledBy cX4_countCalledBy 4 (some .int) 6 0 FX4_countCalledBy := x_den (by decide) (tX4_countCalledBy_ok l)
noncomputable def tX4_countMissedBySharpness : List (Nat × xO) := [(0, x_aload 0 1), (1, x_iload 1 1), (2, x_push (.int (nI 0)) 1), (3, x_callV 3 0 3 FX4_shadeOf), (6, x_istore 2 1), (7, x_aload 0 1), (8, x_getR 3 0), (11, x_iload 1 1), (12, x_aald), (13, x_getI 1 2), (16, x_istore 3 1), (17, x_push (.int (nI 0)) 1), (18, x_iload 2 1), (19, x_iload 3 1), (20, x_call 0 3 FX1_countReached), (23, x_aload 0 1), (24, x_getR 3 0), (27, x_iload 1 1), (28, x_aald), (29, x_getI 1 0), (32, x_iload 2 1), (33, x_iload 3 1), (34, x_call 0 3 FX1_countReached), (37, x_ii (fun x y => x - y)), (38, x_iret)]
set_option maxRecDepth 100000 in
theorem tX4_countMissedBySharpness_ok (l : Launch) : ∀ q ∈ tX4_countMissedBySharpness, xOK l cX4_countMissedBySharpness RX4 4 5 0 (yX4_countMissedBySharpness.name = "<init>") q.1 q.2 := by
  unfold tX4_countMissedBySharpness
  refine List.forall_mem_cons.mpr ⟨?_, List.forall_mem_cons.mpr ⟨?_, List.forall_mem_cons.mpr ⟨?_, List.forall_mem_cons.mpr ⟨?_, List.forall_mem_cons.mpr ⟨?_, List.forall_mem_cons.mpr ⟨?_, List.forall_mem_cons.mpr ⟨?_, List.forall_mem_cons.mpr ⟨?_, List.forall_mem_cons.mpr ⟨?_, List.forall_mem_cons.mpr ⟨?_, List.forall_mem_cons.mpr ⟨?_, List.forall_mem_cons.mpr ⟨?_, List.forall_mem_cons.mpr ⟨?_, List.forall_mem_cons.mpr ⟨?_, List.forall_mem_cons.mpr ⟨?_, List.forall_mem_cons.mpr ⟨?_, List.forall_mem_cons.mpr ⟨?_, List.forall_mem_cons.mpr ⟨?_, List.forall_mem_cons.mpr ⟨?_, List.forall_mem_cons.mpr ⟨?_, List.forall_mem_cons.mpr ⟨?_, List.forall_mem_cons.mpr ⟨?_, List.forall_mem_cons.mpr ⟨?_, List.forall_mem_cons.mpr ⟨?_, List.forall_mem_cons.mpr ⟨?_, fun _ h => absurd h List.not_mem_nil⟩⟩⟩⟩⟩⟩⟩⟩⟩⟩⟩⟩⟩⟩⟩⟩⟩⟩⟩⟩⟩⟩⟩⟩⟩
  · exact x_aload_n_ok (show decode cX4_countMissedBySharpness 0 = .ok (.aload_n 0, 1) by decide +kernel) rfl
  · exact x_iload_n_ok (show decode cX4_countMissedBySharpness 1 = .ok (.iload_n 1, 1) by decide +kernel) rfl
  · exact x_iconst_ok (show decode cX4_countMissedBySharpness 2 = .ok (.iconst 0, 1) by decide +kernel) (by decide)
  · exact x_callV_ok (ci := 3) rfl (by decide) (sX4_shadeOf l) hw_453 hw_506 hw_451 hw_452 hw_64 ⟨by decide, by decide, by decide +kernel⟩ rfl (by decide) (by decide) (show decode cX4_countMissedBySharpness 3 = .ok (.invokevirtual 59, 3) by decide +kernel)
  · exact x_istore_n_ok (show decode cX4_countMissedBySharpness 6 = .ok (.istore_n 2, 1) by decide +kernel) rfl (by decide)
  · exact x_aload_n_ok (show decode cX4_countMissedBySharpness 7 = .ok (.aload_n 0, 1) by decide +kernel) rfl
  · exact x_getR_ok (ci := 3) (k := 0) rfl (by decide) (by decide) hw_173 (show decode cX4_countMissedBySharpness 8 = .ok (.getfield 13, 3) by decide +kernel)
  · exact x_iload_n_ok (show decode cX4_countMissedBySharpness 11 = .ok (.iload_n 1, 1) by decide +kernel) rfl
  · exact x_aald_ok (show decode cX4_countMissedBySharpness 12 = .ok (.aaload, 1) by decide +kernel)
  · exact x_getI_ok (ci := 1) (k := 2) rfl (by decide) (by decide) hw_145 (show decode cX4_countMissedBySharpness 13 = .ok (.getfield 46, 3) by decide +kernel)
  · exact x_istore_n_ok (show decode cX4_countMissedBySharpness 16 = .ok (.istore_n 3, 1) by decide +kernel) rfl (by decide)
  · exact x_iconst_ok (show decode cX4_countMissedBySharpness 17 = .ok (.iconst 0, 1) by decide +kernel) (by decide)
  · exact x_iload_n_ok (show decode cX4_countMissedBySharpness 18 = .ok (.iload_n 2, 1) by decide +kernel) rfl
  · exact x_iload_n_ok (show decode cX4_countMissedBySharpness 19 = .ok (.iload_n 3, 1) by decide +kernel) rfl
  · exact x_callS_ok (sX1_countReached l) hw_472 hw_512 hw_471 hw_70 ⟨by decide, by decide, by decide +kernel⟩ (by decide) (by decide) (show decode cX4_countMissedBySharpness 20 = .ok (.invokestatic 85, 3) by decide +kernel)
  · exact x_aload_n_ok (show decode cX4_countMissedBySharpness 23 = .ok (.aload_n 0, 1) by decide +kernel) rfl
  · exact x_getR_ok (ci := 3) (k := 0) rfl (by decide) (by decide) hw_173 (show decode cX4_countMissedBySharpness 24 = .ok (.getfield 13, 3) by decide +kernel)
  · exact x_iload_n_ok (show decode cX4_countMissedBySharpness 27 = .ok (.iload_n 1, 1) by decide +kernel) rfl
  · exact x_aald_ok (show decode cX4_countMissedBySharpness 28 = .ok (.aaload, 1) by decide +kernel)
  · exact x_getI_ok (ci := 1) (k := 0) rfl (by decide) (by decide) hw_138 (show decode cX4_countMissedBySharpness 29 = .ok (.getfield 40, 3) by decide +kernel)
  · exact x_iload_n_ok (show decode cX4_countMissedBySharpness 32 = .ok (.iload_n 2, 1) by decide +kernel) rfl
  · exact x_iload_n_ok (show decode cX4_countMissedBySharpness 33 = .ok (.iload_n 3, 1) by decide +kernel) rfl
  · exact x_callS_ok (sX1_countReached l) hw_472 hw_512 hw_471 hw_70 ⟨by decide, by decide, by decide +kernel⟩ (by decide) (by decide) (show decode cX4_countMissedBySharpness 34 = .ok (.invokestatic 85, 3) by decide +kernel)
  · exact x_isub_ok (show decode cX4_countMissedBySharpness 37 = .ok (.isub, 1) by decide +kernel)
  · exact x_iret_ok (show decode cX4_countMissedBySharpness 38 = .ok (.ireturn, 1) by decide +kernel)
noncomputable def FX4_countMissedBySharpness : List Value → xS → Option xR := xden tX4_countMissedBySharpness 4 (some .int) 0
theorem sX4_countMissedBySharpness (l : Launch) : xSound l yX4_countMissedBySharpness cX4_countMissedBySharpness 4 (some .int) 5 0 FX4_countMissedBySharpness := x_den (by decide) (tX4_countMissedBySharpness_ok l)
noncomputable def tX4_countReachedOfOwnLight : List (Nat × xO) := [(0, x_aload 0 1), (1, x_iload 1 1), (2, x_push (.int (nI 0)) 1), (3, x_callV 3 0 3 FX4_shadeOf), (6, x_call 0 1 FX6_partA), (9, x_istore 2 1), (10, x_push (.int (nI 0)) 1), (11, x_istore 3 1), (12, x_push (.int (nI 0)) 1), (13, x_istore 4 2), (15, x_iload 4 2), (17, x_push (.int (nI 216)) 3), (20, x_cmpge 52), (23, x_iload 4 2), (25, x_call 0 1 FX6_partA), (28, x_iload 2 1), (29, x_cmpne 46), (32, x_aload 0 1), (33, x_iload 1 1), (34, x_iload 4 2), (36, x_push (.int (nI 0)) 1), (37, x_callV 3 0 4 FX4_nameReaches), (40, x_ifeq 46), (43, x_iinc 3 (nI 1)), (46, x_iinc 4 (nI 1)), (49, x_goto 15), (52, x_iload 3 1), (53, x_iret)]
set_option maxRecDepth 100000 in
theorem tX4_countReachedOfOwnLight_ok (l : Launch) : ∀ q ∈ tX4_countReachedOfOwnLight, xOK l cX4_countReachedOfOwnLight RX4 5 5 0 (yX4_countReachedOfOwnLight.name = "<init>") q.1 q.2 := by
  unfold tX4_countReachedOfOwnLight
  refine List.forall_mem_cons.mpr ⟨?_, List.forall_mem_cons.mpr ⟨?_, List.forall_mem_cons.mpr ⟨?_, List.forall_mem_cons.mpr ⟨?_, List.forall_mem_cons.mpr ⟨?_, List.forall_mem_cons.mpr ⟨?_, List.forall_mem_cons.mpr ⟨?_, List.forall_mem_cons.mpr ⟨?_, List.forall_mem_cons.mpr ⟨?_, List.forall_mem_cons.mpr ⟨?_, List.forall_mem_cons.mpr ⟨?_, List.forall_mem_cons.mpr ⟨?_, List.forall_mem_cons.mpr ⟨?_, List.forall_mem_cons.mpr ⟨?_, List.forall_mem_cons.mpr ⟨?_, List.forall_mem_cons.mpr ⟨?_, List.forall_mem_cons.mpr ⟨?_, List.forall_mem_cons.mpr ⟨?_, List.forall_mem_cons.mpr ⟨?_, List.forall_mem_cons.mpr ⟨?_, List.forall_mem_cons.mpr ⟨?_, List.forall_mem_cons.mpr ⟨?_, List.forall_mem_cons.mpr ⟨?_, List.forall_mem_cons.mpr ⟨?_, List.forall_mem_cons.mpr ⟨?_, List.forall_mem_cons.mpr ⟨?_, List.forall_mem_cons.mpr ⟨?_, List.forall_mem_cons.mpr ⟨?_, fun _ h => absurd h List.not_mem_nil⟩⟩⟩⟩⟩⟩⟩⟩⟩⟩⟩⟩⟩⟩⟩⟩⟩⟩⟩⟩⟩⟩⟩⟩⟩⟩⟩⟩
  · exact x_aload_n_ok (show decode cX4_countReachedOfOwnLight 0 = .ok (.aload_n 0, 1) by decide +kernel) rfl
  · exact x_iload_n_ok (show decode cX4_countReachedOfOwnLight 1 = .ok (.iload_n 1, 1) by decide +kernel) rfl
  · exact x_iconst_ok (show decode cX4_countReachedOfOwnLight 2 = .ok (.iconst 0, 1) by decide +kernel) (by decide)
  · exact x_callV_ok (ci := 3) rfl (by decide) (sX4_shadeOf l) hw_453 hw_506 hw_451 hw_452 hw_64 ⟨by decide, by decide, by decide +kernel⟩ rfl (by decide) (by decide) (show decode cX4_countReachedOfOwnLight 3 = .ok (.invokevirtual 59, 3) by decide +kernel)
  · exact x_callS_ok (sX6_partA l) hw_459 hw_517 hw_458 hw_75 ⟨by decide, by decide, by decide +kernel⟩ (by decide) (by decide) (show decode cX4_countReachedOfOwnLight 6 = .ok (.invokestatic 89, 3) by decide +kernel)
  · exact x_istore_n_ok (show decode cX4_countReachedOfOwnLight 9 = .ok (.istore_n 2, 1) by decide +kernel) rfl (by decide)
  · exact x_iconst_ok (show decode cX4_countReachedOfOwnLight 10 = .ok (.iconst 0, 1) by decide +kernel) (by decide)
  · exact x_istore_n_ok (show decode cX4_countReachedOfOwnLight 11 = .ok (.istore_n 3, 1) by decide +kernel) rfl (by decide)
  · exact x_iconst_ok (show decode cX4_countReachedOfOwnLight 12 = .ok (.iconst 0, 1) by decide +kernel) (by decide)
  · exact x_istore_ok (show decode cX4_countReachedOfOwnLight 13 = .ok (.istore 4, 2) by decide +kernel) (by decide)
  · exact x_iload_ok (show decode cX4_countReachedOfOwnLight 15 = .ok (.iload 4, 2) by decide +kernel)
  · exact x_sipush_ok (show decode cX4_countReachedOfOwnLight 17 = .ok (.sipush 216, 3) by decide +kernel) (by decide)
  · exact x_cmpge_ok (show decode cX4_countReachedOfOwnLight 20 = .ok (.if_icmp .ge 32, 3) by decide +kernel) (by decide)
  · exact x_iload_ok (show decode cX4_countReachedOfOwnLight 23 = .ok (.iload 4, 2) by decide +kernel)
  · exact x_callS_ok (sX6_partA l) hw_459 hw_517 hw_458 hw_75 ⟨by decide, by decide, by decide +kernel⟩ (by decide) (by decide) (show decode cX4_countReachedOfOwnLight 25 = .ok (.invokestatic 89, 3) by decide +kernel)
  · exact x_iload_n_ok (show decode cX4_countReachedOfOwnLight 28 = .ok (.iload_n 2, 1) by decide +kernel) rfl
  · exact x_cmpne_ok (show decode cX4_countReachedOfOwnLight 29 = .ok (.if_icmp .ne 17, 3) by decide +kernel) (by decide)
  · exact x_aload_n_ok (show decode cX4_countReachedOfOwnLight 32 = .ok (.aload_n 0, 1) by decide +kernel) rfl
  · exact x_iload_n_ok (show decode cX4_countReachedOfOwnLight 33 = .ok (.iload_n 1, 1) by decide +kernel) rfl
  · exact x_iload_ok (show decode cX4_countReachedOfOwnLight 34 = .ok (.iload 4, 2) by decide +kernel)
  · exact x_iconst_ok (show decode cX4_countReachedOfOwnLight 36 = .ok (.iconst 0, 1) by decide +kernel) (by decide)
  · exact x_callV_ok (ci := 3) rfl (by decide) (sX4_nameReaches l) hw_505 hw_502 hw_503 hw_504 hw_64 ⟨by decide, by decide, by decide +kernel⟩ rfl (by decide) (by decide) (show decode cX4_countReachedOfOwnLight 37 = .ok (.invokevirtual 74, 3) by decide +kernel)
  · exact x_ifeq_ok (show decode cX4_countReachedOfOwnLight 40 = .ok (.ifCond .eq 6, 3) by decide +kernel) (by decide)
  · exact x_iinc_ok (show decode cX4_countReachedOfOwnLight 43 = .ok (.iinc 3 1, 3) by decide +kernel) (by decide) (by decide)
  · exact x_iinc_ok (show decode cX4_countReachedOfOwnLight 46 = .ok (.iinc 4 1, 3) by decide +kernel) (by decide) (by decide)
  · exact x_goto_ok (show decode cX4_countReachedOfOwnLight 49 = .ok (.goto (-34), 3) by decide +kernel) (by decide)
  · exact x_iload_n_ok (show decode cX4_countReachedOfOwnLight 52 = .ok (.iload_n 3, 1) by decide +kernel) rfl
  · exact x_iret_ok (show decode cX4_countReachedOfOwnLight 53 = .ok (.ireturn, 1) by decide +kernel)
noncomputable def FX4_countReachedOfOwnLight : List Value → xS → Option xR := xden tX4_countReachedOfOwnLight 5 (some .int) 0
theorem sX4_countReachedOfOwnLight (l : Launch) : xSound l yX4_countReachedOfOwnLight cX4_countReachedOfOwnLight 5 (some .int) 5 0 FX4_countReachedOfOwnLight := x_den (by decide) (tX4_countReachedOfOwnLight_ok l)
noncomputable def tX4_countOthersReached : List (Nat × xO) := [(0, x_push (.int (nI 0)) 1), (1, x_istore 2 1), (2, x_push (.int (nI 0)) 1), (3, x_istore 3 1), (4, x_iload 3 1), (5, x_aload 0 1), (6, x_getI 3 1), (9, x_cmpge 41), (12, x_iload 3 1), (13, x_iload 1 1), (14, x_cmpeq 35), (17, x_aload 0 1), (18, x_iload 1 1), (19, x_aload 0 1), (20, x_iload 3 1), (21, x_push (.int (nI 0)) 1), (22, x_callV 3 0 3 FX4_shadeOf), (25, x_push (.int (nI 0)) 1), (26, x_callV 3 0 4 FX4_nameReaches), (29, x_ifeq 35), (32, x_iinc 2 (nI 1)), (35, x_iinc 3 (nI 1)), (38, x_goto 4), (41, x_iload 2 1), (42, x_iret)]
set_option maxRecDepth 100000 in
theorem tX4_countOthersReached_ok (l : Launch) : ∀ q ∈ tX4_countOthersReached, xOK l cX4_countOthersReached RX4 4 5 0 (yX4_countOthersReached.name = "<init>") q.1 q.2 := by
  unfold tX4_countOthersReached
  refine List.forall_mem_cons.mpr ⟨?_, List.forall_mem_cons.mpr ⟨?_, List.forall_mem_cons.mpr ⟨?_, List.forall_mem_cons.mpr ⟨?_, List.forall_mem_cons.mpr ⟨?_, List.forall_mem_cons.mpr ⟨?_, List.forall_mem_cons.mpr ⟨?_, List.forall_mem_cons.mpr ⟨?_, List.forall_mem_cons.mpr ⟨?_, List.forall_mem_cons.mpr ⟨?_, List.forall_mem_cons.mpr ⟨?_, List.forall_mem_cons.mpr ⟨?_, List.forall_mem_cons.mpr ⟨?_, List.forall_mem_cons.mpr ⟨?_, List.forall_mem_cons.mpr ⟨?_, List.forall_mem_cons.mpr ⟨?_, List.forall_mem_cons.mpr ⟨?_, List.forall_mem_cons.mpr ⟨?_, List.forall_mem_cons.mpr ⟨?_, List.forall_mem_cons.mpr ⟨?_, List.forall_mem_cons.mpr ⟨?_, List.forall_mem_cons.mpr ⟨?_, List.forall_mem_cons.mpr ⟨?_, List.forall_mem_cons.mpr ⟨?_, List.forall_mem_cons.mpr ⟨?_, fun _ h => absurd h List.not_mem_nil⟩⟩⟩⟩⟩⟩⟩⟩⟩⟩⟩⟩⟩⟩⟩⟩⟩⟩⟩⟩⟩⟩⟩⟩⟩
  · exact x_iconst_ok (show decode cX4_countOthersReached 0 = .ok (.iconst 0, 1) by decide +kernel) (by decide)
  · exact x_istore_n_ok (show decode cX4_countOthersReached 1 = .ok (.istore_n 2, 1) by decide +kernel) rfl (by decide)
  · exact x_iconst_ok (show decode cX4_countOthersReached 2 = .ok (.iconst 0, 1) by decide +kernel) (by decide)
  · exact x_istore_n_ok (show decode cX4_countOthersReached 3 = .ok (.istore_n 3, 1) by decide +kernel) rfl (by decide)
  · exact x_iload_n_ok (show decode cX4_countOthersReached 4 = .ok (.iload_n 3, 1) by decide +kernel) rfl
  · exact x_aload_n_ok (show decode cX4_countOthersReached 5 = .ok (.aload_n 0, 1) by decide +kernel) rfl
  · exact x_getI_ok (ci := 3) (k := 1) rfl (by decide) (by decide) hw_175 (show decode cX4_countOthersReached 6 = .ok (.getfield 22, 3) by decide +kernel)
  · exact x_cmpge_ok (show decode cX4_countOthersReached 9 = .ok (.if_icmp .ge 32, 3) by decide +kernel) (by decide)
  · exact x_iload_n_ok (show decode cX4_countOthersReached 12 = .ok (.iload_n 3, 1) by decide +kernel) rfl
  · exact x_iload_n_ok (show decode cX4_countOthersReached 13 = .ok (.iload_n 1, 1) by decide +kernel) rfl
  · exact x_cmpeq_ok (show decode cX4_countOthersReached 14 = .ok (.if_icmp .eq 21, 3) by decide +kernel) (by decide)
  · exact x_aload_n_ok (show decode cX4_countOthersReached 17 = .ok (.aload_n 0, 1) by decide +kernel) rfl
  · exact x_iload_n_ok (show decode cX4_countOthersReached 18 = .ok (.iload_n 1, 1) by decide +kernel) rfl
  · exact x_aload_n_ok (show decode cX4_countOthersReached 19 = .ok (.aload_n 0, 1) by decide +kernel) rfl
  · exact x_iload_n_ok (show decode cX4_countOthersReached 20 = .ok (.iload_n 3, 1) by decide +kernel) rfl
  · exact x_iconst_ok (show decode cX4_countOthersReached 21 = .ok (.iconst 0, 1) by decide +kernel) (by decide)
  · exact x_callV_ok (ci := 3) rfl (by decide) (sX4_shadeOf l) hw_453 hw_506 hw_451 hw_452 hw_64 ⟨by decide, by decide, by decide +kernel⟩ rfl (by decide) (by decide) (show decode cX4_countOthersReached 22 = .ok (.invokevirtual 59, 3) by decide +kernel)
  · exact x_iconst_ok (show decode cX4_countOthersReached 25 = .ok (.iconst 0, 1) by decide +kernel) (by decide)
  · exact x_callV_ok (ci := 3) rfl (by decide) (sX4_nameReaches l) hw_505 hw_502 hw_503 hw_504 hw_64 ⟨by decide, by decide, by decide +kernel⟩ rfl (by decide) (by decide) (show decode cX4_countOthersReached 26 = .ok (.invokevirtual 74, 3) by decide +kernel)
  · exact x_ifeq_ok (show decode cX4_countOthersReached 29 = .ok (.ifCond .eq 6, 3) by decide +kernel) (by decide)
  · exact x_iinc_ok (show decode cX4_countOthersReached 32 = .ok (.iinc 2 1, 3) by decide +kernel) (by decide) (by decide)
  · exact x_iinc_ok (show decode cX4_countOthersReached 35 = .ok (.iinc 3 1, 3) by decide +kernel) (by decide) (by decide)
  · exact x_goto_ok (show decode cX4_countOthersReached 38 = .ok (.goto (-34), 3) by decide +kernel) (by decide)
  · exact x_iload_n_ok (show decode cX4_countOthersReached 41 = .ok (.iload_n 2, 1) by decide +kernel) rfl
  · exact x_iret_ok (show decode cX4_countOthersReached 42 = .ok (.ireturn, 1) by decide +kernel)
noncomputable def FX4_countOthersReached : List Value → xS → Option xR := xden tX4_countOthersReached 4 (some .int) 0
theorem sX4_countOthersReached (l : Launch) : xSound l yX4_countOthersReached cX4_countOthersReached 4 (some .int) 5 0 FX4_countOthersReached := x_den (by decide) (tX4_countOthersReached_ok l)
noncomputable def tX4_countReachedBehindOthers : List (Nat × xO) := [(0, x_push (.int (nI 0)) 1), (1, x_istore 2 1), (2, x_push (.int (nI 0)) 1), (3, x_istore 3 1), (4, x_iload 3 1), (5, x_push (.int (nI 216)) 3), (8, x_cmpge 40), (11, x_aload 0 1), (12, x_iload 1 1), (13, x_iload 3 1), (14, x_push (.int (nI 0)) 1), (15, x_callV 3 0 4 FX4_nameReaches), (18, x_ifeq 34), (21, x_aload 0 1), (22, x_iload 3 1), (23, x_push (.int (nI 0)) 1), (24, x_callV 3 0 3 FX4_callerOf), (27, x_iload 1 1), (28, x_cmpge 34), (31, x_iinc 2 (nI 1)), (34, x_iinc 3 (nI 1)), (37, x_goto 4), (40, x_iload 2 1), (41, x_iret)]
set_option maxRecDepth 100000 in
theorem tX4_countReachedBehindOthers_ok (l : Launch) : ∀ q ∈ tX4_countReachedBehindOthers, xOK l cX4_countReachedBehindOthers RX4 4 6 0 (yX4_countReachedBehindOthers.name = "<init>") q.1 q.2 := by
  unfold tX4_countReachedBehindOthers
  refine List.forall_mem_cons.mpr ⟨?_, List.forall_mem_cons.mpr ⟨?_, List.forall_mem_cons.mpr ⟨?_, List.forall_mem_cons.mpr ⟨?_, List.forall_mem_cons.mpr ⟨?_, List.forall_mem_cons.mpr ⟨?_, List.forall_mem_cons.mpr ⟨?_, List.forall_mem_cons.mpr ⟨?_, List.forall_mem_cons.mpr ⟨?_, List.forall_mem_cons.mpr ⟨?_, List.forall_mem_cons.mpr ⟨?_, List.forall_mem_cons.mpr ⟨?_, List.forall_mem_cons.mpr ⟨?_, List.forall_mem_cons.mpr ⟨?_, List.forall_mem_cons.mpr ⟨?_, List.forall_mem_cons.mpr ⟨?_, List.forall_mem_cons.mpr ⟨?_, List.forall_mem_cons.mpr ⟨?_, List.forall_mem_cons.mpr ⟨?_, List.forall_mem_cons.mpr ⟨?_, List.forall_mem_cons.mpr ⟨?_, List.forall_mem_cons.mpr ⟨?_, List.forall_mem_cons.mpr ⟨?_, List.forall_mem_cons.mpr ⟨?_, fun _ h => absurd h List.not_mem_nil⟩⟩⟩⟩⟩⟩⟩⟩⟩⟩⟩⟩⟩⟩⟩⟩⟩⟩⟩⟩⟩⟩⟩⟩
  · exact x_iconst_ok (show decode cX4_countReachedBehindOthers 0 = .ok (.iconst 0, 1) by decide +kernel) (by decide)
  · exact x_istore_n_ok (show decode cX4_countReachedBehindOthers 1 = .ok (.istore_n 2, 1) by decide +kernel) rfl (by decide)
  · exact x_iconst_ok (show decode cX4_countReachedBehindOthers 2 = .ok (.iconst 0, 1) by decide +kernel) (by decide)
  · exact x_istore_n_ok (show decode cX4_countReachedBehindOthers 3 = .ok (.istore_n 3, 1) by decide +kernel) rfl (by decide)
  · exact x_iload_n_ok (show decode cX4_countReachedBehindOthers 4 = .ok (.iload_n 3, 1) by decide +kernel) rfl
  · exact x_sipush_ok (show decode cX4_countReachedBehindOthers 5 = .ok (.sipush 216, 3) by decide +kernel) (by decide)
  · exact x_cmpge_ok (show decode cX4_countReachedBehindOthers 8 = .ok (.if_icmp .ge 32, 3) by decide +kernel) (by decide)
  · exact x_aload_n_ok (show decode cX4_countReachedBehindOthers 11 = .ok (.aload_n 0, 1) by decide +kernel) rfl
  · exact x_iload_n_ok (show decode cX4_countReachedBehindOthers 12 = .ok (.iload_n 1, 1) by decide +kernel) rfl
  · exact x_iload_n_ok (show decode cX4_countReachedBehindOthers 13 = .ok (.iload_n 3, 1) by decide +kernel) rfl
  · exact x_iconst_ok (show decode cX4_countReachedBehindOthers 14 = .ok (.iconst 0, 1) by decide +kernel) (by decide)
  · exact x_callV_ok (ci := 3) rfl (by decide) (sX4_nameReaches l) hw_505 hw_502 hw_503 hw_504 hw_64 ⟨by decide, by decide, by decide +kernel⟩ rfl (by decide) (by decide) (show decode cX4_countReachedBehindOthers 15 = .ok (.invokevirtual 74, 3) by decide +kernel)
  · exact x_ifeq_ok (show decode cX4_countReachedBehindOthers 18 = .ok (.ifCond .eq 16, 3) by decide +kernel) (by decide)
  · exact x_aload_n_ok (show decode cX4_countReachedBehindOthers 21 = .ok (.aload_n 0, 1) by decide +kernel) rfl
  · exact x_iload_n_ok (show decode cX4_countReachedBehindOthers 22 = .ok (.iload_n 3, 1) by decide +kernel) rfl
  · exact x_iconst_ok (show decode cX4_countReachedBehindOthers 23 = .ok (.iconst 0, 1) by decide +kernel) (by decide)
  · exact x_callV_ok (ci := 3) rfl (by decide) (sX4_callerOf l) hw_501 hw_498 hw_499 hw_500 hw_64 ⟨by decide, by decide, by decide +kernel⟩ rfl (by decide) (by decide) (show decode cX4_countReachedBehindOthers 24 = .ok (.invokevirtual 78, 3) by decide +kernel)
  · exact x_iload_n_ok (show decode cX4_countReachedBehindOthers 27 = .ok (.iload_n 1, 1) by decide +kernel) rfl
  · exact x_cmpge_ok (show decode cX4_countReachedBehindOthers 28 = .ok (.if_icmp .ge 6, 3) by decide +kernel) (by decide)
  · exact x_iinc_ok (show decode cX4_countReachedBehindOthers 31 = .ok (.iinc 2 1, 3) by decide +kernel) (by decide) (by decide)
  · exact x_iinc_ok (show decode cX4_countReachedBehindOthers 34 = .ok (.iinc 3 1, 3) by decide +kernel) (by decide) (by decide)
  · exact x_goto_ok (show decode cX4_countReachedBehindOthers 37 = .ok (.goto (-33), 3) by decide +kernel) (by decide)
  · exact x_iload_n_ok (show decode cX4_countReachedBehindOthers 40 = .ok (.iload_n 2, 1) by decide +kernel) rfl
  · exact x_iret_ok (show decode cX4_countReachedBehindOthers 41 = .ok (.ireturn, 1) by decide +kernel)
noncomputable def FX4_countReachedBehindOthers : List Value → xS → Option xR := xden tX4_countReachedBehindOthers 4 (some .int) 0
theorem sX4_countReachedBehindOthers (l : Launch) : xSound l yX4_countReachedBehindOthers cX4_countReachedBehindOthers 4 (some .int) 6 0 FX4_countReachedBehindOthers := x_den (by decide) (tX4_countReachedBehindOthers_ok l)
noncomputable def tX8_mark : List (Nat × xO) := [(0, x_iload 1 1), (1, x_aload 0 1), (2, x_getR 6 2), (5, x_getI 3 1), (8, x_call 0 2 FX8_among), (11, x_ifeq 27), (14, x_iload 2 1), (15, x_push (.int (nI 6)) 2), (17, x_call 0 2 FX8_among), (20, x_ifeq 27), (23, x_iload 2 1), (24, x_ifne 29), (27, x_push (.int (-1)) 1), (28, x_iret), (29, x_aload 0 1), (30, x_getR 6 2), (33, x_getR 3 0), (36, x_iload 1 1), (37, x_aald), (38, x_getI 1 0), (41, x_iload 2 1), (42, x_call 0 2 FX1_isOf), (45, x_ifne 54), (48, x_aload 0 1), (49, x_push (.int (nI 3)) 1), (50, x_callV 6 0 2 FX8_findingOf), (53, x_iret), (54, x_iload 2 1), (55, x_switch [((nI 1), 84), ((nI 2), 93), ((nI 3), 102), ((nI 4), 111)] 120), (84, x_aload 0 1), (85, x_getR 6 2), (88, x_iload 1 1), (89, x_callV 3 0 2 FX4_countCalledBy), (92, x_iret), (93, x_aload 0 1), (94, x_getR 6 2), (97, x_iload 1 1), (98, x_callV 3 0 2 FX4_countMissedBySharpness), (101, x_iret), (102, x_aload 0 1), (103, x_getR 6 2), (106, x_iload 1 1), (107, x_callV 3 0 2 FX4_countReachedOfOwnLight), (110, x_iret), (111, x_aload 0 1), (112, x_getR 6 2), (115, x_iload 1 1), (116, x_callV 3 0 2 FX4_countOthersReached), (119, x_iret), (120, x_aload 0 1), (121, x_getR 6 2), (124, x_iload 1 1), (125, x_callV 3 0 2 FX4_countReachedBehindOthers), (128, x_iret)]
set_option maxRecDepth 100000 in
theorem tX8_mark_ok (l : Launch) : ∀ q ∈ tX8_mark, xOK l cX8_mark RX8 3 7 0 (yX8_mark.name = "<init>") q.1 q.2 := by
  unfold tX8_mark
  refine List.forall_mem_cons.mpr ⟨?_, List.forall_mem_cons.mpr ⟨?_, List.forall_mem_cons.mpr ⟨?_, List.forall_mem_cons.mpr ⟨?_, List.forall_mem_cons.mpr ⟨?_, List.forall_mem_cons.mpr ⟨?_, List.forall_mem_cons.mpr ⟨?_, List.forall_mem_cons.mpr ⟨?_, List.forall_mem_cons.mpr ⟨?_, List.forall_mem_cons.mpr ⟨?_, List.forall_mem_cons.mpr ⟨?_, List.forall_mem_cons.mpr ⟨?_, List.forall_mem_cons.mpr ⟨?_, List.forall_mem_cons.mpr ⟨?_, List.forall_mem_cons.mpr ⟨?_, List.forall_mem_cons.mpr ⟨?_, List.forall_mem_cons.mpr ⟨?_, List.forall_mem_cons.mpr ⟨?_, List.forall_mem_cons.mpr ⟨?_, List.forall_mem_cons.mpr ⟨?_, List.forall_mem_cons.mpr ⟨?_, List.forall_mem_cons.mpr ⟨?_, List.forall_mem_cons.mpr ⟨?_, List.forall_mem_cons.mpr ⟨?_, List.forall_mem_cons.mpr ⟨?_, List.forall_mem_cons.mpr ⟨?_, List.forall_mem_cons.mpr ⟨?_, List.forall_mem_cons.mpr ⟨?_, List.forall_mem_cons.mpr ⟨?_, List.forall_mem_cons.mpr ⟨?_, List.forall_mem_cons.mpr ⟨?_, List.forall_mem_cons.mpr ⟨?_, List.forall_mem_cons.mpr ⟨?_, List.forall_mem_cons.mpr ⟨?_, List.forall_mem_cons.mpr ⟨?_, List.forall_mem_cons.mpr ⟨?_, List.forall_mem_cons.mpr ⟨?_, List.forall_mem_cons.mpr ⟨?_, List.forall_mem_cons.mpr ⟨?_, List.forall_mem_cons.mpr ⟨?_, List.forall_mem_cons.mpr ⟨?_, List.forall_mem_cons.mpr ⟨?_, List.forall_mem_cons.mpr ⟨?_, List.forall_mem_cons.mpr ⟨?_, List.forall_mem_cons.mpr ⟨?_, List.forall_mem_cons.mpr ⟨?_, List.forall_mem_cons.mpr ⟨?_, List.forall_mem_cons.mpr ⟨?_, List.forall_mem_cons.mpr ⟨?_, List.forall_mem_cons.mpr ⟨?_, List.forall_mem_cons.mpr ⟨?_, List.forall_mem_cons.mpr ⟨?_, List.forall_mem_cons.mpr ⟨?_, List.forall_mem_cons.mpr ⟨?_, fun _ h => absurd h List.not_mem_nil⟩⟩⟩⟩⟩⟩⟩⟩⟩⟩⟩⟩⟩⟩⟩⟩⟩⟩⟩⟩⟩⟩⟩⟩⟩⟩⟩⟩⟩⟩⟩⟩⟩⟩⟩⟩⟩⟩⟩⟩⟩⟩⟩⟩⟩⟩⟩⟩⟩⟩⟩⟩⟩⟩
  · exact x_iload_n_ok (show decode cX8_mark 0 = .ok (.iload_n 1, 1) by decide +kernel) rfl
  · exact x_aload_n_ok (show decode cX8_mark 1 = .ok (.aload_n 0, 1) by decide +kernel) rfl
  · exact x_getR_ok (ci := 6) (k := 2) rfl (by decide) (by decide) hw_224 (show decode cX8_mark 2 = .ok (.getfield 26, 3) by decide +kernel)
  · exact x_getI_ok (ci := 3) (k := 1) rfl (by decide) (by decide) hw_177 (show decode cX8_mark 5 = .ok (.getfield 133, 3) by decide +kernel)
  · exact x_callS_ok (sX8_among l) hw_268 hw_266 hw_267 hw_61 ⟨by decide, by decide, by decide +kernel⟩ (by decide) (by decide) (show decode cX8_mark 8 = .ok (.invokestatic 65, 3) by decide +kernel)
  · exact x_ifeq_ok (show decode cX8_mark 11 = .ok (.ifCond .eq 16, 3) by decide +kernel) (by decide)
  · exact x_iload_n_ok (show decode cX8_mark 14 = .ok (.iload_n 2, 1) by decide +kernel) rfl
  · exact x_bipush_ok (show decode cX8_mark 15 = .ok (.bipush 6, 2) by decide +kernel) (by decide)
  · exact x_callS_ok (sX8_among l) hw_268 hw_266 hw_267 hw_61 ⟨by decide, by decide, by decide +kernel⟩ (by decide) (by decide) (show decode cX8_mark 17 = .ok (.invokestatic 65, 3) by decide +kernel)
  · exact x_ifeq_ok (show decode cX8_mark 20 = .ok (.ifCond .eq 7, 3) by decide +kernel) (by decide)
  · exact x_iload_n_ok (show decode cX8_mark 23 = .ok (.iload_n 2, 1) by decide +kernel) rfl
  · exact x_ifne_ok (show decode cX8_mark 24 = .ok (.ifCond .ne 5, 3) by decide +kernel) (by decide)
  · exact x_iconst_ok (show decode cX8_mark 27 = .ok (.iconst (-1), 1) by decide +kernel) (by decide)
  · exact x_iret_ok (show decode cX8_mark 28 = .ok (.ireturn, 1) by decide +kernel)
  · exact x_aload_n_ok (show decode cX8_mark 29 = .ok (.aload_n 0, 1) by decide +kernel) rfl
  · exact x_getR_ok (ci := 6) (k := 2) rfl (by decide) (by decide) hw_224 (show decode cX8_mark 30 = .ok (.getfield 26, 3) by decide +kernel)
  · exact x_getR_ok (ci := 3) (k := 0) rfl (by decide) (by decide) hw_174 (show decode cX8_mark 33 = .ok (.getfield 139, 3) by decide +kernel)
  · exact x_iload_n_ok (show decode cX8_mark 36 = .ok (.iload_n 1, 1) by decide +kernel) rfl
  · exact x_aald_ok (show decode cX8_mark 37 = .ok (.aaload, 1) by decide +kernel)
  · exact x_getI_ok (ci := 1) (k := 0) rfl (by decide) (by decide) hw_140 (show decode cX8_mark 38 = .ok (.getfield 143, 3) by decide +kernel)
  · exact x_iload_n_ok (show decode cX8_mark 41 = .ok (.iload_n 2, 1) by decide +kernel) rfl
  · exact x_callS_ok (sX1_isOf l) hw_488 hw_493 hw_487 hw_70 ⟨by decide, by decide, by decide +kernel⟩ (by decide) (by decide) (show decode cX8_mark 42 = .ok (.invokestatic 148, 3) by decide +kernel)
  · exact x_ifne_ok (show decode cX8_mark 45 = .ok (.ifCond .ne 9, 3) by decide +kernel) (by decide)
  · exact x_aload_n_ok (show decode cX8_mark 48 = .ok (.aload_n 0, 1) by decide +kernel) rfl
  · exact x_iconst_ok (show decode cX8_mark 49 = .ok (.iconst 3, 1) by decide +kernel) (by decide)
  · exact x_callV_ok (ci := 6) rfl (by decide) (sX8_findingOf l) hw_272 hw_269 hw_271 hw_0 hw_61 ⟨by decide, by decide, by decide +kernel⟩ rfl (by decide) (by decide) (show decode cX8_mark 50 = .ok (.invokevirtual 69, 3) by decide +kernel)
  · exact x_iret_ok (show decode cX8_mark 53 = .ok (.ireturn, 1) by decide +kernel)
  · exact x_iload_n_ok (show decode cX8_mark 54 = .ok (.iload_n 2, 1) by decide +kernel) rfl
  · exact x_switch_ok (show decode cX8_mark 55 = .ok (.tableswitch 65 1 4 #[29, 38, 47, 56], 29) by decide +kernel) (by decide) (by decide +kernel) (by decide) (by decide) (by decide +kernel)
  · exact x_aload_n_ok (show decode cX8_mark 84 = .ok (.aload_n 0, 1) by decide +kernel) rfl
  · exact x_getR_ok (ci := 6) (k := 2) rfl (by decide) (by decide) hw_224 (show decode cX8_mark 85 = .ok (.getfield 26, 3) by decide +kernel)
  · exact x_iload_n_ok (show decode cX8_mark 88 = .ok (.iload_n 1, 1) by decide +kernel) rfl
  · exact x_callV_ok (ci := 3) rfl (by decide) (sX4_countCalledBy l) hw_497 hw_494 hw_495 hw_496 hw_64 ⟨by decide, by decide, by decide +kernel⟩ rfl (by decide) (by decide) (show decode cX8_mark 89 = .ok (.invokevirtual 151, 3) by decide +kernel)
  · exact x_iret_ok (show decode cX8_mark 92 = .ok (.ireturn, 1) by decide +kernel)
  · exact x_aload_n_ok (show decode cX8_mark 93 = .ok (.aload_n 0, 1) by decide +kernel) rfl
  · exact x_getR_ok (ci := 6) (k := 2) rfl (by decide) (by decide) hw_224 (show decode cX8_mark 94 = .ok (.getfield 26, 3) by decide +kernel)
  · exact x_iload_n_ok (show decode cX8_mark 97 = .ok (.iload_n 1, 1) by decide +kernel) rfl
  · exact x_callV_ok (ci := 3) rfl (by decide) (sX4_countMissedBySharpness l) hw_511 hw_508 hw_509 hw_510 hw_64 ⟨by decide, by decide, by decide +kernel⟩ rfl (by decide) (by decide) (show decode cX8_mark 98 = .ok (.invokevirtual 154, 3) by decide +kernel)
  · exact x_iret_ok (show decode cX8_mark 101 = .ok (.ireturn, 1) by decide +kernel)
  · exact x_aload_n_ok (show decode cX8_mark 102 = .ok (.aload_n 0, 1) by decide +kernel) rfl
  · exact x_getR_ok (ci := 6) (k := 2) rfl (by decide) (by decide) hw_224 (show decode cX8_mark 103 = .ok (.getfield 26, 3) by decide +kernel)
  · exact x_iload_n_ok (show decode cX8_mark 106 = .ok (.iload_n 1, 1) by decide +kernel) rfl
  · exact x_callV_ok (ci := 3) rfl (by decide) (sX4_countReachedOfOwnLight l) hw_516 hw_513 hw_514 hw_515 hw_64 ⟨by decide, by decide, by decide +kernel⟩ rfl (by decide) (by decide) (show decode cX8_mark 107 = .ok (.invokevirtual 157, 3) by decide +kernel)
  · exact x_iret_ok (show decode cX8_mark 110 = .ok (.ireturn, 1) by decide +kernel)
  · exact x_aload_n_ok (show decode cX8_mark 111 = .ok (.aload_n 0, 1) by decide +kernel) rfl
  · exact x_getR_ok (ci := 6) (k := 2) rfl (by decide) (by decide) hw_224 (show decode cX8_mark 112 = .ok (.getfield 26, 3) by decide +kernel)
  · exact x_iload_n_ok (show decode cX8_mark 115 = .ok (.iload_n 1, 1) by decide +kernel) rfl
  · exact x_callV_ok (ci := 3) rfl (by decide) (sX4_countOthersReached l) hw_521 hw_518 hw_519 hw_520 hw_64 ⟨by decide, by decide, by decide +kernel⟩ rfl (by decide) (by decide) (show decode cX8_mark 116 = .ok (.invokevirtual 160, 3) by decide +kernel)
  · exact x_iret_ok (show decode cX8_mark 119 = .ok (.ireturn, 1) by decide +kernel)
  · exact x_aload_n_ok (show decode cX8_mark 120 = .ok (.aload_n 0, 1) by decide +kernel) rfl
  · exact x_getR_ok (ci := 6) (k := 2) rfl (by decide) (by decide) hw_224 (show decode cX8_mark 121 = .ok (.getfield 26, 3) by decide +kernel)
  · exact x_iload_n_ok (show decode cX8_mark 124 = .ok (.iload_n 1, 1) by decide +kernel) rfl
  · exact x_callV_ok (ci := 3) rfl (by decide) (sX4_countReachedBehindOthers l) hw_525 hw_522 hw_523 hw_524 hw_64 ⟨by decide, by decide, by decide +kernel⟩ rfl (by decide) (by decide) (show decode cX8_mark 125 = .ok (.invokevirtual 163, 3) by decide +kernel)
  · exact x_iret_ok (show decode cX8_mark 128 = .ok (.ireturn, 1) by decide +kernel)
noncomputable def FX8_mark : List Value → xS → Option xR := xden tX8_mark 3 (some .int) 0
theorem sX8_mark (l : Launch) : xSound l yX8_mark cX8_mark 3 (some .int) 7 0 FX8_mark := x_den (by decide) (tX8_mark_ok l)
noncomputable def tX9_isOf : List (Nat × xO) := [(0, x_aload 0 1), (1, x_iload 1 1), (2, x_push (.int (nI 0)) 1), (3, x_callV 7 0 3 FX9_of), (6, x_istore 3 1), (7, x_iload 3 1), (8, x_iload 2 1), (9, x_cmpeq 32), (12, x_iload 2 1), (13, x_push (.int (nI 1)) 1), (14, x_cmpne 22), (17, x_iload 3 1), (18, x_push (.int (nI 4)) 1), (19, x_cmpeq 32), (22, x_iload 2 1), (23, x_push (.int (nI 2)) 1), (24, x_cmpne 36), (27, x_iload 3 1), (28, x_push (.int (nI 5)) 1), (29, x_cmpne 36), (32, x_push (.int (nI 1)) 1), (33, x_goto 37), (36, x_push (.int (nI 0)) 1), (37, x_iret)]
set_option maxRecDepth 100000 in
theorem tX9_isOf_ok (l : Launch) : ∀ q ∈ tX9_isOf, xOK l cX9_isOf RX9 4 2 0 (yX9_isOf.name = "<init>") q.1 q.2 := by
  unfold tX9_isOf
  refine List.forall_mem_cons.mpr ⟨?_, List.forall_mem_cons.mpr ⟨?_, List.forall_mem_cons.mpr ⟨?_, List.forall_mem_cons.mpr ⟨?_, List.forall_mem_cons.mpr ⟨?_, List.forall_mem_cons.mpr ⟨?_, List.forall_mem_cons.mpr ⟨?_, List.forall_mem_cons.mpr ⟨?_, List.forall_mem_cons.mpr ⟨?_, List.forall_mem_cons.mpr ⟨?_, List.forall_mem_cons.mpr ⟨?_, List.forall_mem_cons.mpr ⟨?_, List.forall_mem_cons.mpr ⟨?_, List.forall_mem_cons.mpr ⟨?_, List.forall_mem_cons.mpr ⟨?_, List.forall_mem_cons.mpr ⟨?_, List.forall_mem_cons.mpr ⟨?_, List.forall_mem_cons.mpr ⟨?_, List.forall_mem_cons.mpr ⟨?_, List.forall_mem_cons.mpr ⟨?_, List.forall_mem_cons.mpr ⟨?_, List.forall_mem_cons.mpr ⟨?_, List.forall_mem_cons.mpr ⟨?_, List.forall_mem_cons.mpr ⟨?_, fun _ h => absurd h List.not_mem_nil⟩⟩⟩⟩⟩⟩⟩⟩⟩⟩⟩⟩⟩⟩⟩⟩⟩⟩⟩⟩⟩⟩⟩⟩
  · exact x_aload_n_ok (show decode cX9_isOf 0 = .ok (.aload_n 0, 1) by decide +kernel) rfl
  · exact x_iload_n_ok (show decode cX9_isOf 1 = .ok (.iload_n 1, 1) by decide +kernel) rfl
  · exact x_iconst_ok (show decode cX9_isOf 2 = .ok (.iconst 0, 1) by decide +kernel) (by decide)
  · exact x_callV_ok (ci := 7) rfl (by decide) (sX9_of l) hw_1019 hw_1016 hw_1018 hw_30 hw_68 ⟨by decide, by decide, by decide +kernel⟩ rfl (by decide) (by decide) (show decode cX9_isOf 3 = .ok (.invokevirtual 128, 3) by decide +kernel)
  · exact x_istore_n_ok (show decode cX9_isOf 6 = .ok (.istore_n 3, 1) by decide +kernel) rfl (by decide)
  · exact x_iload_n_ok (show decode cX9_isOf 7 = .ok (.iload_n 3, 1) by decide +kernel) rfl
  · exact x_iload_n_ok (show decode cX9_isOf 8 = .ok (.iload_n 2, 1) by decide +kernel) rfl
  · exact x_cmpeq_ok (show decode cX9_isOf 9 = .ok (.if_icmp .eq 23, 3) by decide +kernel) (by decide)
  · exact x_iload_n_ok (show decode cX9_isOf 12 = .ok (.iload_n 2, 1) by decide +kernel) rfl
  · exact x_iconst_ok (show decode cX9_isOf 13 = .ok (.iconst 1, 1) by decide +kernel) (by decide)
  · exact x_cmpne_ok (show decode cX9_isOf 14 = .ok (.if_icmp .ne 8, 3) by decide +kernel) (by decide)
  · exact x_iload_n_ok (show decode cX9_isOf 17 = .ok (.iload_n 3, 1) by decide +kernel) rfl
  · exact x_iconst_ok (show decode cX9_isOf 18 = .ok (.iconst 4, 1) by decide +kernel) (by decide)
  · exact x_cmpeq_ok (show decode cX9_isOf 19 = .ok (.if_icmp .eq 13, 3) by decide +kernel) (by decide)
  · exact x_iload_n_ok (show decode cX9_isOf 22 = .ok (.iload_n 2, 1) by decide +kernel) rfl
  · exact x_iconst_ok (show decode cX9_isOf 23 = .ok (.iconst 2, 1) by decide +kernel) (by decide)
  · exact x_cmpne_ok (show decode cX9_isOf 24 = .ok (.if_icmp .ne 12, 3) by decide +kernel) (by decide)
  · exact x_iload_n_ok (show decode cX9_isOf 27 = .ok (.iload_n 3, 1) by decide +kernel) rfl
  · exact x_iconst_ok (show decode cX9_isOf 28 = .ok (.iconst 5, 1) by decide +kernel) (by decide)
  · exact x_cmpne_ok (show decode cX9_isOf 29 = .ok (.if_icmp .ne 7, 3) by decide +kernel) (by decide)
  · exact x_iconst_ok (show decode cX9_isOf 32 = .ok (.iconst 1, 1) by decide +kernel) (by decide)
  · exact x_goto_ok (show decode cX9_isOf 33 = .ok (.goto 4, 3) by decide +kernel) (by decide)
  · exact x_iconst_ok (show decode cX9_isOf 36 = .ok (.iconst 0, 1) by decide +kernel) (by decide)
  · exact x_iret_ok (show decode cX9_isOf 37 = .ok (.ireturn, 1) by decide +kernel)
noncomputable def FX9_isOf : List Value → xS → Option xR := xden tX9_isOf 4 (some .boolean) 0
theorem sX9_isOf (l : Launch) : xSound l yX9_isOf cX9_isOf 4 (some .boolean) 2 0 FX9_isOf := x_den (by decide) (tX9_isOf_ok l)
noncomputable def tX9_reaches : List (Nat × xO) := [(0, x_aload 0 1), (1, x_iload 1 1), (2, x_push (.int (nI 0)) 1), (3, x_callV 7 0 3 FX9_of), (6, x_aload 0 1), (7, x_iload 1 1), (8, x_push (.int (nI 3)) 1), (9, x_callV 7 0 3 FX9_of), (12, x_aload 0 1), (13, x_iload 1 1), (14, x_callV 7 0 2 FX9_shadeOf), (17, x_iload 2 1), (18, x_call 0 4 FX9_reachesOf), (21, x_iret)]
set_option maxRecDepth 100000 in
theorem tX9_reaches_ok (l : Launch) : ∀ q ∈ tX9_reaches, xOK l cX9_reaches RX9 3 4 0 (yX9_reaches.name = "<init>") q.1 q.2 := by
  unfold tX9_reaches
  refine List.forall_mem_cons.mpr ⟨?_, List.forall_mem_cons.mpr ⟨?_, List.forall_mem_cons.mpr ⟨?_, List.forall_mem_cons.mpr ⟨?_, List.forall_mem_cons.mpr ⟨?_, List.forall_mem_cons.mpr ⟨?_, List.forall_mem_cons.mpr ⟨?_, List.forall_mem_cons.mpr ⟨?_, List.forall_mem_cons.mpr ⟨?_, List.forall_mem_cons.mpr ⟨?_, List.forall_mem_cons.mpr ⟨?_, List.forall_mem_cons.mpr ⟨?_, List.forall_mem_cons.mpr ⟨?_, List.forall_mem_cons.mpr ⟨?_, fun _ h => absurd h List.not_mem_nil⟩⟩⟩⟩⟩⟩⟩⟩⟩⟩⟩⟩⟩⟩
  · exact x_aload_n_ok (show decode cX9_reaches 0 = .ok (.aload_n 0, 1) by decide +kernel) rfl
  · exact x_iload_n_ok (show decode cX9_reaches 1 = .ok (.iload_n 1, 1) by decide +kernel) rfl
  · exact x_iconst_ok (show decode cX9_reaches 2 = .ok (.iconst 0, 1) by decide +kernel) (by decide)
  · exact x_callV_ok (ci := 7) rfl (by decide) (sX9_of l) hw_1019 hw_1016 hw_1018 hw_30 hw_68 ⟨by decide, by decide, by decide +kernel⟩ rfl (by decide) (by decide) (show decode cX9_reaches 3 = .ok (.invokevirtual 128, 3) by decide +kernel)
  · exact x_aload_n_ok (show decode cX9_reaches 6 = .ok (.aload_n 0, 1) by decide +kernel) rfl
  · exact x_iload_n_ok (show decode cX9_reaches 7 = .ok (.iload_n 1, 1) by decide +kernel) rfl
  · exact x_iconst_ok (show decode cX9_reaches 8 = .ok (.iconst 3, 1) by decide +kernel) (by decide)
  · exact x_callV_ok (ci := 7) rfl (by decide) (sX9_of l) hw_1019 hw_1016 hw_1018 hw_30 hw_68 ⟨by decide, by decide, by decide +kernel⟩ rfl (by decide) (by decide) (show decode cX9_reaches 9 = .ok (.invokevirtual 128, 3) by decide +kernel)
  · exact x_aload_n_ok (show decode cX9_reaches 12 = .ok (.aload_n 0, 1) by decide +kernel) rfl
  · exact x_iload_n_ok (show decode cX9_reaches 13 = .ok (.iload_n 1, 1) by decide +kernel) rfl
  · exact x_callV_ok (ci := 7) rfl (by decide) (sX9_shadeOf l) hw_1023 hw_1020 hw_1022 hw_31 hw_68 ⟨by decide, by decide, by decide +kernel⟩ rfl (by decide) (by decide) (show decode cX9_reaches 14 = .ok (.invokevirtual 144, 3) by decide +kernel)
  · exact x_iload_n_ok (show decode cX9_reaches 17 = .ok (.iload_n 2, 1) by decide +kernel) rfl
  · exact x_callS_ok (sX9_reachesOf l) hw_1029 hw_1027 hw_1028 hw_68 ⟨by decide, by decide, by decide +kernel⟩ (by decide) (by decide) (show decode cX9_reaches 18 = .ok (.invokestatic 147, 3) by decide +kernel)
  · exact x_iret_ok (show decode cX9_reaches 21 = .ok (.ireturn, 1) by decide +kernel)
noncomputable def FX9_reaches : List Value → xS → Option xR := xden tX9_reaches 3 (some .boolean) 0
theorem sX9_reaches (l : Launch) : xSound l yX9_reaches cX9_reaches 3 (some .boolean) 4 0 FX9_reaches := x_den (by decide) (tX9_reaches_ok l)
noncomputable def tX9_reaching : List (Nat × xO) := [(0, x_push (.int (nI 0)) 1), (1, x_istore 2 1), (2, x_push (.int (nI 0)) 1), (3, x_istore 3 1), (4, x_iload 3 1), (5, x_aload 0 1), (6, x_getR 7 0), (9, x_push (.int (nI 1)) 1), (10, x_iald), (11, x_cmpge 39), (14, x_iload 2 1), (15, x_aload 0 1), (16, x_iload 3 1), (17, x_iload 1 1), (18, x_callV 7 0 3 FX9_reaches), (21, x_ifeq 30), (24, x_push (.int (nI 1)) 1), (25, x_iload 3 1), (26, x_ii (fun x y => x <<< (y &&& 31))), (27, x_goto 31), (30, x_push (.int (nI 0)) 1), (31, x_ii (fun x y => x ||| y)), (32, x_istore 2 1), (33, x_iinc 3 (nI 1)), (36, x_goto 4), (39, x_iload 2 1), (40, x_iret)]
set_option maxRecDepth 100000 in
theorem tX9_reaching_ok (l : Launch) : ∀ q ∈ tX9_reaching, xOK l cX9_reaching RX9 4 5 0 (yX9_reaching.name = "<init>") q.1 q.2 := by
  unfold tX9_reaching
  refine List.forall_mem_cons.mpr ⟨?_, List.forall_mem_cons.mpr ⟨?_, List.forall_mem_cons.mpr ⟨?_, List.forall_mem_cons.mpr ⟨?_, List.forall_mem_cons.mpr ⟨?_, List.forall_mem_cons.mpr ⟨?_, List.forall_mem_cons.mpr ⟨?_, List.forall_mem_cons.mpr ⟨?_, List.forall_mem_cons.mpr ⟨?_, List.forall_mem_cons.mpr ⟨?_, List.forall_mem_cons.mpr ⟨?_, List.forall_mem_cons.mpr ⟨?_, List.forall_mem_cons.mpr ⟨?_, List.forall_mem_cons.mpr ⟨?_, List.forall_mem_cons.mpr ⟨?_, List.forall_mem_cons.mpr ⟨?_, List.forall_mem_cons.mpr ⟨?_, List.forall_mem_cons.mpr ⟨?_, List.forall_mem_cons.mpr ⟨?_, List.forall_mem_cons.mpr ⟨?_, List.forall_mem_cons.mpr ⟨?_, List.forall_mem_cons.mpr ⟨?_, List.forall_mem_cons.mpr ⟨?_, List.forall_mem_cons.mpr ⟨?_, List.forall_mem_cons.mpr ⟨?_, List.forall_mem_cons.mpr ⟨?_, List.forall_mem_cons.mpr ⟨?_, fun _ h => absurd h List.not_mem_nil⟩⟩⟩⟩⟩⟩⟩⟩⟩⟩⟩⟩⟩⟩⟩⟩⟩⟩⟩⟩⟩⟩⟩⟩⟩⟩⟩
  · exact x_iconst_ok (show decode cX9_reaching 0 = .ok (.iconst 0, 1) by decide +kernel) (by decide)
  · exact x_istore_n_ok (show decode cX9_reaching 1 = .ok (.istore_n 2, 1) by decide +kernel) rfl (by decide)
  · exact x_iconst_ok (show decode cX9_reaching 2 = .ok (.iconst 0, 1) by decide +kernel) (by decide)
  · exact x_istore_n_ok (show decode cX9_reaching 3 = .ok (.istore_n 3, 1) by decide +kernel) rfl (by decide)
  · exact x_iload_n_ok (show decode cX9_reaching 4 = .ok (.iload_n 3, 1) by decide +kernel) rfl
  · exact x_aload_n_ok (show decode cX9_reaching 5 = .ok (.aload_n 0, 1) by decide +kernel) rfl
  · exact x_getR_ok (ci := 7) (k := 0) rfl (by decide) (by decide) hw_844 (show decode cX9_reaching 6 = .ok (.getfield 7, 3) by decide +kernel)
  · exact x_iconst_ok (show decode cX9_reaching 9 = .ok (.iconst 1, 1) by decide +kernel) (by decide)
  · exact x_iald_ok (show decode cX9_reaching 10 = .ok (.iaload, 1) by decide +kernel)
  · exact x_cmpge_ok (show decode cX9_reaching 11 = .ok (.if_icmp .ge 28, 3) by decide +kernel) (by decide)
  · exact x_iload_n_ok (show decode cX9_reaching 14 = .ok (.iload_n 2, 1) by decide +kernel) rfl
  · exact x_aload_n_ok (show decode cX9_reaching 15 = .ok (.aload_n 0, 1) by decide +kernel) rfl
  · exact x_iload_n_ok (show decode cX9_reaching 16 = .ok (.iload_n 3, 1) by decide +kernel) rfl
  · exact x_iload_n_ok (show decode cX9_reaching 17 = .ok (.iload_n 1, 1) by decide +kernel) rfl
  · exact x_callV_ok (ci := 7) rfl (by decide) (sX9_reaches l) hw_1062 hw_1059 hw_1061 hw_36 hw_68 ⟨by decide, by decide, by decide +kernel⟩ rfl (by decide) (by decide) (show decode cX9_reaching 18 = .ok (.invokevirtual 151, 3) by decide +kernel)
  · exact x_ifeq_ok (show decode cX9_reaching 21 = .ok (.ifCond .eq 9, 3) by decide +kernel) (by decide)
  · exact x_iconst_ok (show decode cX9_reaching 24 = .ok (.iconst 1, 1) by decide +kernel) (by decide)
  · exact x_iload_n_ok (show decode cX9_reaching 25 = .ok (.iload_n 3, 1) by decide +kernel) rfl
  · exact x_ishl_ok (show decode cX9_reaching 26 = .ok (.ishl, 1) by decide +kernel)
  · exact x_goto_ok (show decode cX9_reaching 27 = .ok (.goto 4, 3) by decide +kernel) (by decide)
  · exact x_iconst_ok (show decode cX9_reaching 30 = .ok (.iconst 0, 1) by decide +kernel) (by decide)
  · exact x_ior_ok (show decode cX9_reaching 31 = .ok (.ior, 1) by decide +kernel)
  · exact x_istore_n_ok (show decode cX9_reaching 32 = .ok (.istore_n 2, 1) by decide +kernel) rfl (by decide)
  · exact x_iinc_ok (show decode cX9_reaching 33 = .ok (.iinc 3 1, 3) by decide +kernel) (by decide) (by decide)
  · exact x_goto_ok (show decode cX9_reaching 36 = .ok (.goto (-32), 3) by decide +kernel) (by decide)
  · exact x_iload_n_ok (show decode cX9_reaching 39 = .ok (.iload_n 2, 1) by decide +kernel) rfl
  · exact x_iret_ok (show decode cX9_reaching 40 = .ok (.ireturn, 1) by decide +kernel)
noncomputable def FX9_reaching : List Value → xS → Option xR := xden tX9_reaching 4 (some .int) 0
theorem sX9_reaching (l : Launch) : xSound l yX9_reaching cX9_reaching 4 (some .int) 5 0 FX9_reaching := x_den (by decide) (tX9_reaching_ok l)
noncomputable def tX9_has : List (Nat × xO) := [(0, x_iload 0 1), (1, x_iload 1 1), (2, x_ii (fun x y => x >>> (y &&& 31))), (3, x_push (.int (nI 1)) 1), (4, x_ii (fun x y => x &&& y)), (5, x_push (.int (nI 1)) 1), (6, x_cmpne 13), (9, x_push (.int (nI 1)) 1), (10, x_goto 14), (13, x_push (.int (nI 0)) 1), (14, x_iret)]
set_option maxRecDepth 100000 in
theorem tX9_has_ok (l : Launch) : ∀ q ∈ tX9_has, xOK l cX9_has RX9 2 1 0 (yX9_has.name = "<init>") q.1 q.2 := by
  unfold tX9_has
  refine List.forall_mem_cons.mpr ⟨?_, List.forall_mem_cons.mpr ⟨?_, List.forall_mem_cons.mpr ⟨?_, List.forall_mem_cons.mpr ⟨?_, List.forall_mem_cons.mpr ⟨?_, List.forall_mem_cons.mpr ⟨?_, List.forall_mem_cons.mpr ⟨?_, List.forall_mem_cons.mpr ⟨?_, List.forall_mem_cons.mpr ⟨?_, List.forall_mem_cons.mpr ⟨?_, List.forall_mem_cons.mpr ⟨?_, fun _ h => absurd h List.not_mem_nil⟩⟩⟩⟩⟩⟩⟩⟩⟩⟩⟩
  · exact x_iload_n_ok (show decode cX9_has 0 = .ok (.iload_n 0, 1) by decide +kernel) rfl
  · exact x_iload_n_ok (show decode cX9_has 1 = .ok (.iload_n 1, 1) by decide +kernel) rfl
  · exact x_ishr_ok (show decode cX9_has 2 = .ok (.ishr, 1) by decide +kernel)
  · exact x_iconst_ok (show decode cX9_has 3 = .ok (.iconst 1, 1) by decide +kernel) (by decide)
  · exact x_iand_ok (show decode cX9_has 4 = .ok (.iand, 1) by decide +kernel)
  · exact x_iconst_ok (show decode cX9_has 5 = .ok (.iconst 1, 1) by decide +kernel) (by decide)
  · exact x_cmpne_ok (show decode cX9_has 6 = .ok (.if_icmp .ne 7, 3) by decide +kernel) (by decide)
  · exact x_iconst_ok (show decode cX9_has 9 = .ok (.iconst 1, 1) by decide +kernel) (by decide)
  · exact x_goto_ok (show decode cX9_has 10 = .ok (.goto 4, 3) by decide +kernel) (by decide)
  · exact x_iconst_ok (show decode cX9_has 13 = .ok (.iconst 0, 1) by decide +kernel) (by decide)
  · exact x_iret_ok (show decode cX9_has 14 = .ok (.ireturn, 1) by decide +kernel)
noncomputable def FX9_has : List Value → xS → Option xR := xden tX9_has 2 (some .boolean) 0
theorem sX9_has (l : Launch) : xSound l yX9_has cX9_has 2 (some .boolean) 1 0 FX9_has := x_den (by decide) (tX9_has_ok l)
noncomputable def tX9_firstOf : List (Nat × xO) := [(0, x_push (.int (nI 0)) 1), (1, x_istore 1 1), (2, x_iload 1 1), (3, x_push (.int (nI 8)) 2), (5, x_cmpge 24), (8, x_iload 0 1), (9, x_iload 1 1), (10, x_call 0 2 FX9_has), (13, x_ifeq 18), (16, x_iload 1 1), (17, x_iret), (18, x_iinc 1 (nI 1)), (21, x_goto 2), (24, x_push (.int (-9)) 2), (26, x_iret)]
set_option maxRecDepth 100000 in
theorem tX9_firstOf_ok (l : Launch) : ∀ q ∈ tX9_firstOf, xOK l cX9_firstOf RX9 2 2 0 (yX9_firstOf.name = "<init>") q.1 q.2 := by
  unfold tX9_firstOf
  refine List.forall_mem_cons.mpr ⟨?_, List.forall_mem_cons.mpr ⟨?_, List.forall_mem_cons.mpr ⟨?_, List.forall_mem_cons.mpr ⟨?_, List.forall_mem_cons.mpr ⟨?_, List.forall_mem_cons.mpr ⟨?_, List.forall_mem_cons.mpr ⟨?_, List.forall_mem_cons.mpr ⟨?_, List.forall_mem_cons.mpr ⟨?_, List.forall_mem_cons.mpr ⟨?_, List.forall_mem_cons.mpr ⟨?_, List.forall_mem_cons.mpr ⟨?_, List.forall_mem_cons.mpr ⟨?_, List.forall_mem_cons.mpr ⟨?_, List.forall_mem_cons.mpr ⟨?_, fun _ h => absurd h List.not_mem_nil⟩⟩⟩⟩⟩⟩⟩⟩⟩⟩⟩⟩⟩⟩⟩
  · exact x_iconst_ok (show decode cX9_firstOf 0 = .ok (.iconst 0, 1) by decide +kernel) (by decide)
  · exact x_istore_n_ok (show decode cX9_firstOf 1 = .ok (.istore_n 1, 1) by decide +kernel) rfl (by decide)
  · exact x_iload_n_ok (show decode cX9_firstOf 2 = .ok (.iload_n 1, 1) by decide +kernel) rfl
  · exact x_bipush_ok (show decode cX9_firstOf 3 = .ok (.bipush 8, 2) by decide +kernel) (by decide)
  · exact x_cmpge_ok (show decode cX9_firstOf 5 = .ok (.if_icmp .ge 19, 3) by decide +kernel) (by decide)
  · exact x_iload_n_ok (show decode cX9_firstOf 8 = .ok (.iload_n 0, 1) by decide +kernel) rfl
  · exact x_iload_n_ok (show decode cX9_firstOf 9 = .ok (.iload_n 1, 1) by decide +kernel) rfl
  · exact x_callS_ok (sX9_has l) hw_1068 hw_1066 hw_1067 hw_68 ⟨by decide, by decide, by decide +kernel⟩ (by decide) (by decide) (show decode cX9_firstOf 10 = .ok (.invokestatic 155, 3) by decide +kernel)
  · exact x_ifeq_ok (show decode cX9_firstOf 13 = .ok (.ifCond .eq 5, 3) by decide +kernel) (by decide)
  · exact x_iload_n_ok (show decode cX9_firstOf 16 = .ok (.iload_n 1, 1) by decide +kernel) rfl
  · exact x_iret_ok (show decode cX9_firstOf 17 = .ok (.ireturn, 1) by decide +kernel)
  · exact x_iinc_ok (show decode cX9_firstOf 18 = .ok (.iinc 1 1, 3) by decide +kernel) (by decide) (by decide)
  · exact x_goto_ok (show decode cX9_firstOf 21 = .ok (.goto (-19), 3) by decide +kernel) (by decide)
  · exact x_bipush_ok (show decode cX9_firstOf 24 = .ok (.bipush (-9), 2) by decide +kernel) (by decide)
  · exact x_iret_ok (show decode cX9_firstOf 26 = .ok (.ireturn, 1) by decide +kernel)
noncomputable def FX9_firstOf : List Value → xS → Option xR := xden tX9_firstOf 2 (some .int) 0
theorem sX9_firstOf (l : Launch) : xSound l yX9_firstOf cX9_firstOf 2 (some .int) 2 0 FX9_firstOf := x_den (by decide) (tX9_firstOf_ok l)
noncomputable def tX9_caller : List (Nat × xO) := [(0, x_aload 0 1), (1, x_iload 1 1), (2, x_callV 7 0 2 FX9_reaching), (5, x_call 0 1 FX9_firstOf), (8, x_iret)]
set_option maxRecDepth 100000 in
theorem tX9_caller_ok (l : Launch) : ∀ q ∈ tX9_caller, xOK l cX9_caller RX9 2 6 0 (yX9_caller.name = "<init>") q.1 q.2 := by
  unfold tX9_caller
  refine List.forall_mem_cons.mpr ⟨?_, List.forall_mem_cons.mpr ⟨?_, List.forall_mem_cons.mpr ⟨?_, List.forall_mem_cons.mpr ⟨?_, List.forall_mem_cons.mpr ⟨?_, fun _ h => absurd h List.not_mem_nil⟩⟩⟩⟩⟩
  · exact x_aload_n_ok (show decode cX9_caller 0 = .ok (.aload_n 0, 1) by decide +kernel) rfl
  · exact x_iload_n_ok (show decode cX9_caller 1 = .ok (.iload_n 1, 1) by decide +kernel) rfl
  · exact x_callV_ok (ci := 7) rfl (by decide) (sX9_reaching l) hw_1058 hw_1055 hw_1057 hw_35 hw_68 ⟨by decide, by decide, by decide +kernel⟩ rfl (by decide) (by decide) (show decode cX9_caller 2 = .ok (.invokevirtual 158, 3) by decide +kernel)
  · exact x_callS_ok (sX9_firstOf l) hw_1065 hw_1063 hw_1064 hw_68 ⟨by decide, by decide, by decide +kernel⟩ (by decide) (by decide) (show decode cX9_caller 5 = .ok (.invokestatic 161, 3) by decide +kernel)
  · exact x_iret_ok (show decode cX9_caller 8 = .ok (.ireturn, 1) by decide +kernel)
noncomputable def FX9_caller : List Value → xS → Option xR := xden tX9_caller 2 (some .int) 0
theorem sX9_caller (l : Launch) : xSound l yX9_caller cX9_caller 2 (some .int) 6 0 FX9_caller := x_den (by decide) (tX9_caller_ok l)
noncomputable def tX9_calledBy : List (Nat × xO) := [(0, x_push (.int (nI 0)) 1), (1, x_istore 2 1), (2, x_push (.int (nI 0)) 1), (3, x_istore 3 1), (4, x_iload 3 1), (5, x_push (.int (nI 216)) 3), (8, x_cmpge 34), (11, x_iload 2 1), (12, x_aload 0 1), (13, x_iload 3 1), (14, x_callV 7 0 2 FX9_caller), (17, x_iload 1 1), (18, x_cmpne 25), (21, x_push (.int (nI 1)) 1), (22, x_goto 26), (25, x_push (.int (nI 0)) 1), (26, x_ii (fun x y => x + y)), (27, x_istore 2 1), (28, x_iinc 3 (nI 1)), (31, x_goto 4), (34, x_iload 2 1), (35, x_iret)]
set_option maxRecDepth 100000 in
theorem tX9_calledBy_ok (l : Launch) : ∀ q ∈ tX9_calledBy, xOK l cX9_calledBy RX9 4 7 0 (yX9_calledBy.name = "<init>") q.1 q.2 := by
  unfold tX9_calledBy
  refine List.forall_mem_cons.mpr ⟨?_, List.forall_mem_cons.mpr ⟨?_, List.forall_mem_cons.mpr ⟨?_, List.forall_mem_cons.mpr ⟨?_, List.forall_mem_cons.mpr ⟨?_, List.forall_mem_cons.mpr ⟨?_, List.forall_mem_cons.mpr ⟨?_, List.forall_mem_cons.mpr ⟨?_, List.forall_mem_cons.mpr ⟨?_, List.forall_mem_cons.mpr ⟨?_, List.forall_mem_cons.mpr ⟨?_, List.forall_mem_cons.mpr ⟨?_, List.forall_mem_cons.mpr ⟨?_, List.forall_mem_cons.mpr ⟨?_, List.forall_mem_cons.mpr ⟨?_, List.forall_mem_cons.mpr ⟨?_, List.forall_mem_cons.mpr ⟨?_, List.forall_mem_cons.mpr ⟨?_, List.forall_mem_cons.mpr ⟨?_, List.forall_mem_cons.mpr ⟨?_, List.forall_mem_cons.mpr ⟨?_, List.forall_mem_cons.mpr ⟨?_, fun _ h => absurd h List.not_mem_nil⟩⟩⟩⟩⟩⟩⟩⟩⟩⟩⟩⟩⟩⟩⟩⟩⟩⟩⟩⟩⟩⟩
  · exact x_iconst_ok (show decode cX9_calledBy 0 = .ok (.iconst 0, 1) by decide +kernel) (by decide)
  · exact x_istore_n_ok (show decode cX9_calledBy 1 = .ok (.istore_n 2, 1) by decide +kernel) rfl (by decide)
  · exact x_iconst_ok (show decode cX9_calledBy 2 = .ok (.iconst 0, 1) by decide +kernel) (by decide)
  · exact x_istore_n_ok (show decode cX9_calledBy 3 = .ok (.istore_n 3, 1) by decide +kernel) rfl (by decide)
  · exact x_iload_n_ok (show decode cX9_calledBy 4 = .ok (.iload_n 3, 1) by decide +kernel) rfl
  · exact x_sipush_ok (show decode cX9_calledBy 5 = .ok (.sipush 216, 3) by decide +kernel) (by decide)
  · exact x_cmpge_ok (show decode cX9_calledBy 8 = .ok (.if_icmp .ge 26, 3) by decide +kernel) (by decide)
  · exact x_iload_n_ok (show decode cX9_calledBy 11 = .ok (.iload_n 2, 1) by decide +kernel) rfl
  · exact x_aload_n_ok (show decode cX9_calledBy 12 = .ok (.aload_n 0, 1) by decide +kernel) rfl
  · exact x_iload_n_ok (show decode cX9_calledBy 13 = .ok (.iload_n 3, 1) by decide +kernel) rfl
  · exact x_callV_ok (ci := 7) rfl (by decide) (sX9_caller l) hw_1054 hw_1051 hw_1053 hw_34 hw_68 ⟨by decide, by decide, by decide +kernel⟩ rfl (by decide) (by decide) (show decode cX9_calledBy 14 = .ok (.invokevirtual 164, 3) by decide +kernel)
  · exact x_iload_n_ok (show decode cX9_calledBy 17 = .ok (.iload_n 1, 1) by decide +kernel) rfl
  · exact x_cmpne_ok (show decode cX9_calledBy 18 = .ok (.if_icmp .ne 7, 3) by decide +kernel) (by decide)
  · exact x_iconst_ok (show decode cX9_calledBy 21 = .ok (.iconst 1, 1) by decide +kernel) (by decide)
  · exact x_goto_ok (show decode cX9_calledBy 22 = .ok (.goto 4, 3) by decide +kernel) (by decide)
  · exact x_iconst_ok (show decode cX9_calledBy 25 = .ok (.iconst 0, 1) by decide +kernel) (by decide)
  · exact x_iadd_ok (show decode cX9_calledBy 26 = .ok (.iadd, 1) by decide +kernel)
  · exact x_istore_n_ok (show decode cX9_calledBy 27 = .ok (.istore_n 2, 1) by decide +kernel) rfl (by decide)
  · exact x_iinc_ok (show decode cX9_calledBy 28 = .ok (.iinc 3 1, 3) by decide +kernel) (by decide) (by decide)
  · exact x_goto_ok (show decode cX9_calledBy 31 = .ok (.goto (-27), 3) by decide +kernel) (by decide)
  · exact x_iload_n_ok (show decode cX9_calledBy 34 = .ok (.iload_n 2, 1) by decide +kernel) rfl
  · exact x_iret_ok (show decode cX9_calledBy 35 = .ok (.ireturn, 1) by decide +kernel)
noncomputable def FX9_calledBy : List Value → xS → Option xR := xden tX9_calledBy 4 (some .int) 0
theorem sX9_calledBy (l : Launch) : xSound l yX9_calledBy cX9_calledBy 4 (some .int) 7 0 FX9_calledBy := x_den (by decide) (tX9_calledBy_ok l)
noncomputable def tX9_likeFirst : List (Nat × xO) := [(0, x_push (.int (nI 0)) 1), (1, x_istore 2 1), (2, x_push (.int (nI 0)) 1), (3, x_istore 3 1), (4, x_iload 3 1), (5, x_push (.int (nI 216)) 3), (8, x_cmpge 49), (11, x_iload 2 1), (12, x_aload 0 1), (13, x_iload 1 1), (14, x_iload 3 1), (15, x_callV 7 0 3 FX9_reaches), (18, x_ifeq 40), (21, x_iload 3 1), (22, x_push (.int (nI 36)) 2), (24, x_idiv), (25, x_aload 0 1), (26, x_iload 1 1), (27, x_callV 7 0 2 FX9_shadeOf), (30, x_push (.int (nI 36)) 2), (32, x_idiv), (33, x_cmpne 40), (36, x_push (.int (nI 1)) 1), (37, x_goto 41), (40, x_push (.int (nI 0)) 1), (41, x_ii (fun x y => x + y)), (42, x_istore 2 1), (43, x_iinc 3 (nI 1)), (46, x_goto 4), (49, x_iload 2 1), (50, x_iret)]
set_option maxRecDepth 100000 in
theorem tX9_likeFirst_ok (l : Launch) : ∀ q ∈ tX9_likeFirst, xOK l cX9_likeFirst RX9 4 5 0 (yX9_likeFirst.name = "<init>") q.1 q.2 := by
  unfold tX9_likeFirst
  refine List.forall_mem_cons.mpr ⟨?_, List.forall_mem_cons.mpr ⟨?_, List.forall_mem_cons.mpr ⟨?_, List.forall_mem_cons.mpr ⟨?_, List.forall_mem_cons.mpr ⟨?_, List.forall_mem_cons.mpr ⟨?_, List.forall_mem_cons.mpr ⟨?_, List.forall_mem_cons.mpr ⟨?_, List.forall_mem_cons.mpr ⟨?_, List.forall_mem_cons.mpr ⟨?_, List.forall_mem_cons.mpr ⟨?_, List.forall_mem_cons.mpr ⟨?_, List.forall_mem_cons.mpr ⟨?_, List.forall_mem_cons.mpr ⟨?_, List.forall_mem_cons.mpr ⟨?_, List.forall_mem_cons.mpr ⟨?_, List.forall_mem_cons.mpr ⟨?_, List.forall_mem_cons.mpr ⟨?_, List.forall_mem_cons.mpr ⟨?_, List.forall_mem_cons.mpr ⟨?_, List.forall_mem_cons.mpr ⟨?_, List.forall_mem_cons.mpr ⟨?_, List.forall_mem_cons.mpr ⟨?_, List.forall_mem_cons.mpr ⟨?_, List.forall_mem_cons.mpr ⟨?_, List.forall_mem_cons.mpr ⟨?_, List.forall_mem_cons.mpr ⟨?_, List.forall_mem_cons.mpr ⟨?_, List.forall_mem_cons.mpr ⟨?_, List.forall_mem_cons.mpr ⟨?_, List.forall_mem_cons.mpr ⟨?_, fun _ h => absurd h List.not_mem_nil⟩⟩⟩⟩⟩⟩⟩⟩⟩⟩⟩⟩⟩⟩⟩⟩⟩⟩⟩⟩⟩⟩⟩⟩⟩⟩⟩⟩⟩⟩⟩
  · exact x_iconst_ok (show decode cX9_likeFirst 0 = .ok (.iconst 0, 1) by decide +kernel) (by decide)
  · exact x_istore_n_ok (show decode cX9_likeFirst 1 = .ok (.istore_n 2, 1) by decide +kernel) rfl (by decide)
  · exact x_iconst_ok (show decode cX9_likeFirst 2 = .ok (.iconst 0, 1) by decide +kernel) (by decide)
  · exact x_istore_n_ok (show decode cX9_likeFirst 3 = .ok (.istore_n 3, 1) by decide +kernel) rfl (by decide)
  · exact x_iload_n_ok (show decode cX9_likeFirst 4 = .ok (.iload_n 3, 1) by decide +kernel) rfl
  · exact x_sipush_ok (show decode cX9_likeFirst 5 = .ok (.sipush 216, 3) by decide +kernel) (by decide)
  · exact x_cmpge_ok (show decode cX9_likeFirst 8 = .ok (.if_icmp .ge 41, 3) by decide +kernel) (by decide)
  · exact x_iload_n_ok (show decode cX9_likeFirst 11 = .ok (.iload_n 2, 1) by decide +kernel) rfl
  · exact x_aload_n_ok (show decode cX9_likeFirst 12 = .ok (.aload_n 0, 1) by decide +kernel) rfl
  · exact x_iload_n_ok (show decode cX9_likeFirst 13 = .ok (.iload_n 1, 1) by decide +kernel) rfl
  · exact x_iload_n_ok (show decode cX9_likeFirst 14 = .ok (.iload_n 3, 1) by decide +kernel) rfl
  · exact x_callV_ok (ci := 7) rfl (by decide) (sX9_reaches l) hw_1062 hw_1059 hw_1061 hw_36 hw_68 ⟨by decide, by decide, by decide +kernel⟩ rfl (by decide) (by decide) (show decode cX9_likeFirst 15 = .ok (.invokevirtual 151, 3) by decide +kernel)
  · exact x_ifeq_ok (show decode cX9_likeFirst 18 = .ok (.ifCond .eq 22, 3) by decide +kernel) (by decide)
  · exact x_iload_n_ok (show decode cX9_likeFirst 21 = .ok (.iload_n 3, 1) by decide +kernel) rfl
  · exact x_bipush_ok (show decode cX9_likeFirst 22 = .ok (.bipush 36, 2) by decide +kernel) (by decide)
  · exact x_idiv_ok (show decode cX9_likeFirst 24 = .ok (.idiv, 1) by decide +kernel)
  · exact x_aload_n_ok (show decode cX9_likeFirst 25 = .ok (.aload_n 0, 1) by decide +kernel) rfl
  · exact x_iload_n_ok (show decode cX9_likeFirst 26 = .ok (.iload_n 1, 1) by decide +kernel) rfl
  · exact x_callV_ok (ci := 7) rfl (by decide) (sX9_shadeOf l) hw_1023 hw_1020 hw_1022 hw_31 hw_68 ⟨by decide, by decide, by decide +kernel⟩ rfl (by decide) (by decide) (show decode cX9_likeFirst 27 = .ok (.invokevirtual 144, 3) by decide +kernel)
  · exact x_bipush_ok (show decode cX9_likeFirst 30 = .ok (.bipush 36, 2) by decide +kernel) (by decide)
  · exact x_idiv_ok (show decode cX9_likeFirst 32 = .ok (.idiv, 1) by decide +kernel)
  · exact x_cmpne_ok (show decode cX9_likeFirst 33 = .ok (.if_icmp .ne 7, 3) by decide +kernel) (by decide)
  · exact x_iconst_ok (show decode cX9_likeFirst 36 = .ok (.iconst 1, 1) by decide +kernel) (by decide)
  · exact x_goto_ok (show decode cX9_likeFirst 37 = .ok (.goto 4, 3) by decide +kernel) (by decide)
  · exact x_iconst_ok (show decode cX9_likeFirst 40 = .ok (.iconst 0, 1) by decide +kernel) (by decide)
  · exact x_iadd_ok (show decode cX9_likeFirst 41 = .ok (.iadd, 1) by decide +kernel)
  · exact x_istore_n_ok (show decode cX9_likeFirst 42 = .ok (.istore_n 2, 1) by decide +kernel) rfl (by decide)
  · exact x_iinc_ok (show decode cX9_likeFirst 43 = .ok (.iinc 3 1, 3) by decide +kernel) (by decide) (by decide)
  · exact x_goto_ok (show decode cX9_likeFirst 46 = .ok (.goto (-42), 3) by decide +kernel) (by decide)
  · exact x_iload_n_ok (show decode cX9_likeFirst 49 = .ok (.iload_n 2, 1) by decide +kernel) rfl
  · exact x_iret_ok (show decode cX9_likeFirst 50 = .ok (.ireturn, 1) by decide +kernel)
noncomputable def FX9_likeFirst : List Value → xS → Option xR := xden tX9_likeFirst 4 (some .int) 0
theorem sX9_likeFirst (l : Launch) : xSound l yX9_likeFirst cX9_likeFirst 4 (some .int) 5 0 FX9_likeFirst := x_den (by decide) (tX9_likeFirst_ok l)
noncomputable def tX9_othersReached : List (Nat × xO) := [(0, x_push (.int (nI 0)) 1), (1, x_istore 2 1), (2, x_push (.int (nI 0)) 1), (3, x_istore 3 1), (4, x_iload 3 1), (5, x_aload 0 1), (6, x_getR 7 0), (9, x_push (.int (nI 1)) 1), (10, x_iald), (11, x_cmpge 46), (14, x_iload 2 1), (15, x_iload 3 1), (16, x_iload 1 1), (17, x_cmpeq 37), (20, x_aload 0 1), (21, x_iload 1 1), (22, x_aload 0 1), (23, x_iload 3 1), (24, x_callV 7 0 2 FX9_shadeOf), (27, x_callV 7 0 3 FX9_reaches), (30, x_ifeq 37), (33, x_push (.int (nI 1)) 1), (34, x_goto 38), (37, x_push (.int (nI 0)) 1), (38, x_ii (fun x y => x + y)), (39, x_istore 2 1), (40, x_iinc 3 (nI 1)), (43, x_goto 4), (46, x_iload 2 1), (47, x_iret)]
set_option maxRecDepth 100000 in
theorem tX9_othersReached_ok (l : Launch) : ∀ q ∈ tX9_othersReached, xOK l cX9_othersReached RX9 4 5 0 (yX9_othersReached.name = "<init>") q.1 q.2 := by
  unfold tX9_othersReached
  refine List.forall_mem_cons.mpr ⟨?_, List.forall_mem_cons.mpr ⟨?_, List.forall_mem_cons.mpr ⟨?_, List.forall_mem_cons.mpr ⟨?_, List.forall_mem_cons.mpr ⟨?_, List.forall_mem_cons.mpr ⟨?_, List.forall_mem_cons.mpr ⟨?_, List.forall_mem_cons.mpr ⟨?_, List.forall_mem_cons.mpr ⟨?_, List.forall_mem_cons.mpr ⟨?_, List.forall_mem_cons.mpr ⟨?_, List.forall_mem_cons.mpr ⟨?_, List.forall_mem_cons.mpr ⟨?_, List.forall_mem_cons.mpr ⟨?_, List.forall_mem_cons.mpr ⟨?_, List.forall_mem_cons.mpr ⟨?_, List.forall_mem_cons.mpr ⟨?_, List.forall_mem_cons.mpr ⟨?_, List.forall_mem_cons.mpr ⟨?_, List.forall_mem_cons.mpr ⟨?_, List.forall_mem_cons.mpr ⟨?_, List.forall_mem_cons.mpr ⟨?_, List.forall_mem_cons.mpr ⟨?_, List.forall_mem_cons.mpr ⟨?_, List.forall_mem_cons.mpr ⟨?_, List.forall_mem_cons.mpr ⟨?_, List.forall_mem_cons.mpr ⟨?_, List.forall_mem_cons.mpr ⟨?_, List.forall_mem_cons.mpr ⟨?_, List.forall_mem_cons.mpr ⟨?_, fun _ h => absurd h List.not_mem_nil⟩⟩⟩⟩⟩⟩⟩⟩⟩⟩⟩⟩⟩⟩⟩⟩⟩⟩⟩⟩⟩⟩⟩⟩⟩⟩⟩⟩⟩⟩
  · exact x_iconst_ok (show decode cX9_othersReached 0 = .ok (.iconst 0, 1) by decide +kernel) (by decide)
  · exact x_istore_n_ok (show decode cX9_othersReached 1 = .ok (.istore_n 2, 1) by decide +kernel) rfl (by decide)
  · exact x_iconst_ok (show decode cX9_othersReached 2 = .ok (.iconst 0, 1) by decide +kernel) (by decide)
  · exact x_istore_n_ok (show decode cX9_othersReached 3 = .ok (.istore_n 3, 1) by decide +kernel) rfl (by decide)
  · exact x_iload_n_ok (show decode cX9_othersReached 4 = .ok (.iload_n 3, 1) by decide +kernel) rfl
  · exact x_aload_n_ok (show decode cX9_othersReached 5 = .ok (.aload_n 0, 1) by decide +kernel) rfl
  · exact x_getR_ok (ci := 7) (k := 0) rfl (by decide) (by decide) hw_844 (show decode cX9_othersReached 6 = .ok (.getfield 7, 3) by decide +kernel)
  · exact x_iconst_ok (show decode cX9_othersReached 9 = .ok (.iconst 1, 1) by decide +kernel) (by decide)
  · exact x_iald_ok (show decode cX9_othersReached 10 = .ok (.iaload, 1) by decide +kernel)
  · exact x_cmpge_ok (show decode cX9_othersReached 11 = .ok (.if_icmp .ge 35, 3) by decide +kernel) (by decide)
  · exact x_iload_n_ok (show decode cX9_othersReached 14 = .ok (.iload_n 2, 1) by decide +kernel) rfl
  · exact x_iload_n_ok (show decode cX9_othersReached 15 = .ok (.iload_n 3, 1) by decide +kernel) rfl
  · exact x_iload_n_ok (show decode cX9_othersReached 16 = .ok (.iload_n 1, 1) by decide +kernel) rfl
  · exact x_cmpeq_ok (show decode cX9_othersReached 17 = .ok (.if_icmp .eq 20, 3) by decide +kernel) (by decide)
  · exact x_aload_n_ok (show decode cX9_othersReached 20 = .ok (.aload_n 0, 1) by decide +kernel) rfl
  · exact x_iload_n_ok (show decode cX9_othersReached 21 = .ok (.iload_n 1, 1) by decide +kernel) rfl
  · exact x_aload_n_ok (show decode cX9_othersReached 22 = .ok (.aload_n 0, 1) by decide +kernel) rfl
  · exact x_iload_n_ok (show decode cX9_othersReached 23 = .ok (.iload_n 3, 1) by decide +kernel) rfl
  · exact x_callV_ok (ci := 7) rfl (by decide) (sX9_shadeOf l) hw_1023 hw_1020 hw_1022 hw_31 hw_68 ⟨by decide, by decide, by decide +kernel⟩ rfl (by decide) (by decide) (show decode cX9_othersReached 24 = .ok (.invokevirtual 144, 3) by decide +kernel)
  · exact x_callV_ok (ci := 7) rfl (by decide) (sX9_reaches l) hw_1062 hw_1059 hw_1061 hw_36 hw_68 ⟨by decide, by decide, by decide +kernel⟩ rfl (by decide) (by decide) (show decode cX9_othersReached 27 = .ok (.invokevirtual 151, 3) by decide +kernel)
  · exact x_ifeq_ok (show decode cX9_othersReached 30 = .ok (.ifCond .eq 7, 3) by decide +kernel) (by decide)
  · exact x_iconst_ok (show decode cX9_othersReached 33 = .ok (.iconst 1, 1) by decide +kernel) (by decide)
  · exact x_goto_ok (show decode cX9_othersReached 34 = .ok (.goto 4, 3) by decide +kernel) (by decide)
  · exact x_iconst_ok (show decode cX9_othersReached 37 = .ok (.iconst 0, 1) by decide +kernel) (by decide)
  · exact x_iadd_ok (show decode cX9_othersReached 38 = .ok (.iadd, 1) by decide +kernel)
  · exact x_istore_n_ok (show decode cX9_othersReached 39 = .ok (.istore_n 2, 1) by decide +kernel) rfl (by decide)
  · exact x_iinc_ok (show decode cX9_othersReached 40 = .ok (.iinc 3 1, 3) by decide +kernel) (by decide) (by decide)
  · exact x_goto_ok (show decode cX9_othersReached 43 = .ok (.goto (-39), 3) by decide +kernel) (by decide)
  · exact x_iload_n_ok (show decode cX9_othersReached 46 = .ok (.iload_n 2, 1) by decide +kernel) rfl
  · exact x_iret_ok (show decode cX9_othersReached 47 = .ok (.ireturn, 1) by decide +kernel)
noncomputable def FX9_othersReached : List Value → xS → Option xR := xden tX9_othersReached 4 (some .int) 0
theorem sX9_othersReached (l : Launch) : xSound l yX9_othersReached cX9_othersReached 4 (some .int) 5 0 FX9_othersReached := x_den (by decide) (tX9_othersReached_ok l)
noncomputable def tX9_reachedAhead : List (Nat × xO) := [(0, x_push (.int (nI 0)) 1), (1, x_istore 2 1), (2, x_push (.int (nI 0)) 1), (3, x_istore 3 1), (4, x_iload 3 1), (5, x_push (.int (nI 216)) 3), (8, x_cmpge 43), (11, x_iload 2 1), (12, x_aload 0 1), (13, x_iload 1 1), (14, x_iload 3 1), (15, x_callV 7 0 3 FX9_reaches), (18, x_ifeq 34), (21, x_aload 0 1), (22, x_iload 3 1), (23, x_callV 7 0 2 FX9_caller), (26, x_iload 1 1), (27, x_cmpge 34), (30, x_push (.int (nI 1)) 1), (31, x_goto 35), (34, x_push (.int (nI 0)) 1), (35, x_ii (fun x y => x + y)), (36, x_istore 2 1), (37, x_iinc 3 (nI 1)), (40, x_goto 4), (43, x_iload 2 1), (44, x_iret)]
set_option maxRecDepth 100000 in
theorem tX9_reachedAhead_ok (l : Launch) : ∀ q ∈ tX9_reachedAhead, xOK l cX9_reachedAhead RX9 4 7 0 (yX9_reachedAhead.name = "<init>") q.1 q.2 := by
  unfold tX9_reachedAhead
  refine List.forall_mem_cons.mpr ⟨?_, List.forall_mem_cons.mpr ⟨?_, List.forall_mem_cons.mpr ⟨?_, List.forall_mem_cons.mpr ⟨?_, List.forall_mem_cons.mpr ⟨?_, List.forall_mem_cons.mpr ⟨?_, List.forall_mem_cons.mpr ⟨?_, List.forall_mem_cons.mpr ⟨?_, List.forall_mem_cons.mpr ⟨?_, List.forall_mem_cons.mpr ⟨?_, List.forall_mem_cons.mpr ⟨?_, List.forall_mem_cons.mpr ⟨?_, List.forall_mem_cons.mpr ⟨?_, List.forall_mem_cons.mpr ⟨?_, List.forall_mem_cons.mpr ⟨?_, List.forall_mem_cons.mpr ⟨?_, List.forall_mem_cons.mpr ⟨?_, List.forall_mem_cons.mpr ⟨?_, List.forall_mem_cons.mpr ⟨?_, List.forall_mem_cons.mpr ⟨?_, List.forall_mem_cons.mpr ⟨?_, List.forall_mem_cons.mpr ⟨?_, List.forall_mem_cons.mpr ⟨?_, List.forall_mem_cons.mpr ⟨?_, List.forall_mem_cons.mpr ⟨?_, List.forall_mem_cons.mpr ⟨?_, List.forall_mem_cons.mpr ⟨?_, fun _ h => absurd h List.not_mem_nil⟩⟩⟩⟩⟩⟩⟩⟩⟩⟩⟩⟩⟩⟩⟩⟩⟩⟩⟩⟩⟩⟩⟩⟩⟩⟩⟩
  · exact x_iconst_ok (show decode cX9_reachedAhead 0 = .ok (.iconst 0, 1) by decide +kernel) (by decide)
  · exact x_istore_n_ok (show decode cX9_reachedAhead 1 = .ok (.istore_n 2, 1) by decide +kernel) rfl (by decide)
  · exact x_iconst_ok (show decode cX9_reachedAhead 2 = .ok (.iconst 0, 1) by decide +kernel) (by decide)
  · exact x_istore_n_ok (show decode cX9_reachedAhead 3 = .ok (.istore_n 3, 1) by decide +kernel) rfl (by decide)
  · exact x_iload_n_ok (show decode cX9_reachedAhead 4 = .ok (.iload_n 3, 1) by decide +kernel) rfl
  · exact x_sipush_ok (show decode cX9_reachedAhead 5 = .ok (.sipush 216, 3) by decide +kernel) (by decide)
  · exact x_cmpge_ok (show decode cX9_reachedAhead 8 = .ok (.if_icmp .ge 35, 3) by decide +kernel) (by decide)
  · exact x_iload_n_ok (show decode cX9_reachedAhead 11 = .ok (.iload_n 2, 1) by decide +kernel) rfl
  · exact x_aload_n_ok (show decode cX9_reachedAhead 12 = .ok (.aload_n 0, 1) by decide +kernel) rfl
  · exact x_iload_n_ok (show decode cX9_reachedAhead 13 = .ok (.iload_n 1, 1) by decide +kernel) rfl
  · exact x_iload_n_ok (show decode cX9_reachedAhead 14 = .ok (.iload_n 3, 1) by decide +kernel) rfl
  · exact x_callV_ok (ci := 7) rfl (by decide) (sX9_reaches l) hw_1062 hw_1059 hw_1061 hw_36 hw_68 ⟨by decide, by decide, by decide +kernel⟩ rfl (by decide) (by decide) (show decode cX9_reachedAhead 15 = .ok (.invokevirtual 151, 3) by decide +kernel)
  · exact x_ifeq_ok (show decode cX9_reachedAhead 18 = .ok (.ifCond .eq 16, 3) by decide +kernel) (by decide)
  · exact x_aload_n_ok (show decode cX9_reachedAhead 21 = .ok (.aload_n 0, 1) by decide +kernel) rfl
  · exact x_iload_n_ok (show decode cX9_reachedAhead 22 = .ok (.iload_n 3, 1) by decide +kernel) rfl
  · exact x_callV_ok (ci := 7) rfl (by decide) (sX9_caller l) hw_1054 hw_1051 hw_1053 hw_34 hw_68 ⟨by decide, by decide, by decide +kernel⟩ rfl (by decide) (by decide) (show decode cX9_reachedAhead 23 = .ok (.invokevirtual 164, 3) by decide +kernel)
  · exact x_iload_n_ok (show decode cX9_reachedAhead 26 = .ok (.iload_n 1, 1) by decide +kernel) rfl
  · exact x_cmpge_ok (show decode cX9_reachedAhead 27 = .ok (.if_icmp .ge 7, 3) by decide +kernel) (by decide)
  · exact x_iconst_ok (show decode cX9_reachedAhead 30 = .ok (.iconst 1, 1) by decide +kernel) (by decide)
  · exact x_goto_ok (show decode cX9_reachedAhead 31 = .ok (.goto 4, 3) by decide +kernel) (by decide)
  · exact x_iconst_ok (show decode cX9_reachedAhead 34 = .ok (.iconst 0, 1) by decide +kernel) (by decide)
  · exact x_iadd_ok (show decode cX9_reachedAhead 35 = .ok (.iadd, 1) by decide +kernel)
  · exact x_istore_n_ok (show decode cX9_reachedAhead 36 = .ok (.istore_n 2, 1) by decide +kernel) rfl (by decide)
  · exact x_iinc_ok (show decode cX9_reachedAhead 37 = .ok (.iinc 3 1, 3) by decide +kernel) (by decide) (by decide)
  · exact x_goto_ok (show decode cX9_reachedAhead 40 = .ok (.goto (-36), 3) by decide +kernel) (by decide)
  · exact x_iload_n_ok (show decode cX9_reachedAhead 43 = .ok (.iload_n 2, 1) by decide +kernel) rfl
  · exact x_iret_ok (show decode cX9_reachedAhead 44 = .ok (.ireturn, 1) by decide +kernel)
noncomputable def FX9_reachedAhead : List Value → xS → Option xR := xden tX9_reachedAhead 4 (some .int) 0
theorem sX9_reachedAhead (l : Launch) : xSound l yX9_reachedAhead cX9_reachedAhead 4 (some .int) 7 0 FX9_reachedAhead := x_den (by decide) (tX9_reachedAhead_ok l)
