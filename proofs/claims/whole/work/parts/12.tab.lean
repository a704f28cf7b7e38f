noncomputable def tX9_isSpan : List (Nat × xO) := [(0, x_iload 2 1), (1, x_iflt 24), (4, x_iload 2 1), (5, x_i2l), (6, x_iload 3 1), (7, x_i2l), (8, x_ll (fun x y => x + y)), (9, x_aload 0 1), (10, x_getR 7 1), (13, x_iload 1 1), (14, x_iald), (15, x_i2l), (16, x_lcmp), (17, x_ifgt 24), (20, x_push (.int (nI 1)) 1), (21, x_goto 25), (24, x_push (.int (nI 0)) 1), (25, x_iret)]
set_option maxRecDepth 100000 in
theorem tX9_isSpan_ok (l : Launch) : ∀ q ∈ tX9_isSpan, xOK l cX9_isSpan RX9 4 1 0 (yX9_isSpan.name = "<init>") q.1 q.2 := by
  unfold tX9_isSpan
  refine List.forall_mem_cons.mpr ⟨?_, List.forall_mem_cons.mpr ⟨?_, List.forall_mem_cons.mpr ⟨?_, List.forall_mem_cons.mpr ⟨?_, List.forall_mem_cons.mpr ⟨?_, List.forall_mem_cons.mpr ⟨?_, List.forall_mem_cons.mpr ⟨?_, List.forall_mem_cons.mpr ⟨?_, List.forall_mem_cons.mpr ⟨?_, List.forall_mem_cons.mpr ⟨?_, List.forall_mem_cons.mpr ⟨?_, List.forall_mem_cons.mpr ⟨?_, List.forall_mem_cons.mpr ⟨?_, List.forall_mem_cons.mpr ⟨?_, List.forall_mem_cons.mpr ⟨?_, List.forall_mem_cons.mpr ⟨?_, List.forall_mem_cons.mpr ⟨?_, List.forall_mem_cons.mpr ⟨?_, fun _ h => absurd h List.not_mem_nil⟩⟩⟩⟩⟩⟩⟩⟩⟩⟩⟩⟩⟩⟩⟩⟩⟩⟩
  · exact x_iload_n_ok (show decode cX9_isSpan 0 = .ok (.iload_n 2, 1) by decide +kernel) rfl
  · exact x_iflt_ok (show decode cX9_isSpan 1 = .ok (.ifCond .lt 23, 3) by decide +kernel) (by decide)
  · exact x_iload_n_ok (show decode cX9_isSpan 4 = .ok (.iload_n 2, 1) by decide +kernel) rfl
  · exact x_i2l_ok (show decode cX9_isSpan 5 = .ok (.i2l, 1) by decide +kernel)
  · exact x_iload_n_ok (show decode cX9_isSpan 6 = .ok (.iload_n 3, 1) by decide +kernel) rfl
  · exact x_i2l_ok (show decode cX9_isSpan 7 = .ok (.i2l, 1) by decide +kernel)
  · exact x_ladd_ok (show decode cX9_isSpan 8 = .ok (.ladd, 1) by decide +kernel)
  · exact x_aload_n_ok (show decode cX9_isSpan 9 = .ok (.aload_n 0, 1) by decide +kernel) rfl
  · exact x_getR_ok (ci := 7) (k := 1) rfl (by decide) (by decide) hw_845 (show decode cX9_isSpan 10 = .ok (.getfield 13, 3) by decide +kernel)
  · exact x_iload_n_ok (show decode cX9_isSpan 13 = .ok (.iload_n 1, 1) by decide +kernel) rfl
  · exact x_iald_ok (show decode cX9_isSpan 14 = .ok (.iaload, 1) by decide +kernel)
  · exact x_i2l_ok (show decode cX9_isSpan 15 = .ok (.i2l, 1) by decide +kernel)
  · exact x_lcmp_ok (show decode cX9_isSpan 16 = .ok (.lcmp, 1) by decide +kernel)
  · exact x_ifgt_ok (show decode cX9_isSpan 17 = .ok (.ifCond .gt 7, 3) by decide +kernel) (by decide)
  · exact x_iconst_ok (show decode cX9_isSpan 20 = .ok (.iconst 1, 1) by decide +kernel) (by decide)
  · exact x_goto_ok (show decode cX9_isSpan 21 = .ok (.goto 4, 3) by decide +kernel) (by decide)
  · exact x_iconst_ok (show decode cX9_isSpan 24 = .ok (.iconst 0, 1) by decide +kernel) (by decide)
  · exact x_iret_ok (show decode cX9_isSpan 25 = .ok (.ireturn, 1) by decide +kernel)
noncomputable def FX9_isSpan : List Value → xS → Option xR := xden tX9_isSpan 4 (some .boolean) 0
theorem sX9_isSpan (l : Launch) : xSound l yX9_isSpan cX9_isSpan 4 (some .boolean) 1 0 FX9_isSpan := x_den (by decide) (tX9_isSpan_ok l)
noncomputable def tX9_copy : List (Nat × xO) := [(0, x_iload 1 1), (1, x_call 0 1 FX9_isRow), (4, x_ifeq 14), (7, x_iload 3 1), (8, x_call 0 1 FX9_isRow), (11, x_ifne 16), (14, x_push (.int (-1)) 1), (15, x_iret), (16, x_iload 5 2), (18, x_ifge 27), (21, x_aload 0 1), (22, x_push (.int (nI 5)) 1), (23, x_callV 7 0 2 FX9_find), (26, x_iret), (27, x_aload 0 1), (28, x_getR 7 1), (31, x_iload 1 1), (32, x_iald), (33, x_iflt 45), (36, x_aload 0 1), (37, x_getR 7 1), (40, x_iload 3 1), (41, x_iald), (42, x_ifge 51), (45, x_aload 0 1), (46, x_push (.int (nI 1)) 1), (47, x_callV 7 0 2 FX9_find), (50, x_iret), (51, x_aload 0 1), (52, x_iload 1 1), (53, x_iload 2 1), (54, x_iload 5 2), (56, x_callV 7 0 4 FX9_isSpan), (59, x_ifeq 74), (62, x_aload 0 1), (63, x_iload 3 1), (64, x_iload 4 2), (66, x_iload 5 2), (68, x_callV 7 0 4 FX9_isSpan), (71, x_ifne 80), (74, x_aload 0 1), (75, x_push (.int (nI 2)) 1), (76, x_callV 7 0 2 FX9_find), (79, x_iret), (80, x_iload 2 1), (81, x_iload 4 2), (83, x_cmpge 90), (86, x_push (.int (nI 1)) 1), (87, x_goto 91), (90, x_push (.int (nI 0)) 1), (91, x_istore 6 2), (93, x_push (.int (nI 0)) 1), (94, x_istore 7 2), (96, x_iload 7 2), (98, x_iload 5 2), (100, x_cmpge 157), (103, x_iload 6 2), (105, x_ifeq 118), (108, x_iload 5 2), (110, x_push (.int (nI 1)) 1), (111, x_ii (fun x y => x - y)), (112, x_iload 7 2), (114, x_ii (fun x y => x - y)), (115, x_goto 120), (118, x_iload 7 2), (120, x_istore 8 2), (122, x_aload 0 1), (123, x_getR 7 2), (126, x_push (.int (nI 40)) 2), (128, x_iload 3 1), (129, x_ii (fun x y => x * y)), (130, x_iload 4 2), (132, x_ii (fun x y => x + y)), (133, x_iload 8 2), (135, x_ii (fun x y => x + y)), (136, x_aload 0 1), (137, x_getR 7 2), (140, x_push (.int (nI 40)) 2), (142, x_iload 1 1), (143, x_ii (fun x y => x * y)), (144, x_iload 2 1), (145, x_ii (fun x y => x + y)), (146, x_iload 8 2), (148, x_ii (fun x y => x + y)), (149, x_iald), (150, x_iast), (151, x_iinc 7 (nI 1)), (154, x_goto 96), (157, x_push (.int (nI 1)) 1), (158, x_iret)]
set_option maxRecDepth 100000 in
theorem tX9_copy_ok (l : Launch) : ∀ q ∈ tX9_copy, xOK l cX9_copy RX9 9 3 0 (yX9_copy.name = "<init>") q.1 q.2 := by
  unfold tX9_copy
  refine List.forall_mem_cons.mpr ⟨?_, List.forall_mem_cons.mpr ⟨?_, List.forall_mem_cons.mpr ⟨?_, List.forall_mem_cons.mpr ⟨?_, List.forall_mem_cons.mpr ⟨?_, List.forall_mem_cons.mpr ⟨?_, List.forall_mem_cons.mpr ⟨?_, List.forall_mem_cons.mpr ⟨?_, List.forall_mem_cons.mpr ⟨?_, List.forall_mem_cons.mpr ⟨?_, List.forall_mem_cons.mpr ⟨?_, List.forall_mem_cons.mpr ⟨?_, List.forall_mem_cons.mpr ⟨?_, List.forall_mem_cons.mpr ⟨?_, List.forall_mem_cons.mpr ⟨?_, List.forall_mem_cons.mpr ⟨?_, List.forall_mem_cons.mpr ⟨?_, List.forall_mem_cons.mpr ⟨?_, List.forall_mem_cons.mpr ⟨?_, List.forall_mem_cons.mpr ⟨?_, List.forall_mem_cons.mpr ⟨?_, List.forall_mem_cons.mpr ⟨?_, List.forall_mem_cons.mpr ⟨?_, List.forall_mem_cons.mpr ⟨?_, List.forall_mem_cons.mpr ⟨?_, List.forall_mem_cons.mpr ⟨?_, List.forall_mem_cons.mpr ⟨?_, List.forall_mem_cons.mpr ⟨?_, List.forall_mem_cons.mpr ⟨?_, List.forall_mem_cons.mpr ⟨?_, List.forall_mem_cons.mpr ⟨?_, List.forall_mem_cons.mpr ⟨?_, List.forall_mem_cons.mpr ⟨?_, List.forall_mem_cons.mpr ⟨?_, List.forall_mem_cons.mpr ⟨?_, List.forall_mem_cons.mpr ⟨?_, List.forall_mem_cons.mpr ⟨?_, List.forall_mem_cons.mpr ⟨?_, List.forall_mem_cons.mpr ⟨?_, List.forall_mem_cons.mpr ⟨?_, List.forall_mem_cons.mpr ⟨?_, List.forall_mem_cons.mpr ⟨?_, List.forall_mem_cons.mpr ⟨?_, List.forall_mem_cons.mpr ⟨?_, List.forall_mem_cons.mpr ⟨?_, List.forall_mem_cons.mpr ⟨?_, List.forall_mem_cons.mpr ⟨?_, List.forall_mem_cons.mpr ⟨?_, List.forall_mem_cons.mpr ⟨?_, List.forall_mem_cons.mpr ⟨?_, List.forall_mem_cons.mpr ⟨?_, List.forall_mem_cons.mpr ⟨?_, List.forall_mem_cons.mpr ⟨?_, List.forall_mem_cons.mpr ⟨?_, List.forall_mem_cons.mpr ⟨?_, List.forall_mem_cons.mpr ⟨?_, List.forall_mem_cons.mpr ⟨?_, List.forall_mem_cons.mpr ⟨?_, List.forall_mem_cons.mpr ⟨?_, List.forall_mem_cons.mpr ⟨?_, List.forall_mem_cons.mpr ⟨?_, List.forall_mem_cons.mpr ⟨?_, List.forall_mem_cons.mpr ⟨?_, List.forall_mem_cons.mpr ⟨?_, List.forall_mem_cons.mpr ⟨?_, List.forall_mem_cons.mpr ⟨?_, List.forall_mem_cons.mpr ⟨?_, List.forall_mem_cons.mpr ⟨?_, List.forall_mem_cons.mpr ⟨?_, List.forall_mem_cons.mpr ⟨?_, List.forall_mem_cons.mpr ⟨?_, List.forall_mem_cons.mpr ⟨?_, List.forall_mem_cons.mpr ⟨?_, List.forall_mem_cons.mpr ⟨?_, List.forall_mem_cons.mpr ⟨?_, List.forall_mem_cons.mpr ⟨?_, List.forall_mem_cons.mpr ⟨?_, List.forall_mem_cons.mpr ⟨?_, List.forall_mem_cons.mpr ⟨?_, List.forall_mem_cons.mpr ⟨?_, List.forall_mem_cons.mpr ⟨?_, List.forall_mem_cons.mpr ⟨?_, List.forall_mem_cons.mpr ⟨?_, List.forall_mem_cons.mpr ⟨?_, List.forall_mem_cons.mpr ⟨?_, List.forall_mem_cons.mpr ⟨?_, List.forall_mem_cons.mpr ⟨?_, List.forall_mem_cons.mpr ⟨?_, List.forall_mem_cons.mpr ⟨?_, List.forall_mem_cons.mpr ⟨?_, fun _ h => absurd h List.not_mem_nil⟩⟩⟩⟩⟩⟩⟩⟩⟩⟩⟩⟩⟩⟩⟩⟩⟩⟩⟩⟩⟩⟩⟩⟩⟩⟩⟩⟩⟩⟩⟩⟩⟩⟩⟩⟩⟩⟩⟩⟩⟩⟩⟩⟩⟩⟩⟩⟩⟩⟩⟩⟩⟩⟩⟩⟩⟩⟩⟩⟩⟩⟩⟩⟩⟩⟩⟩⟩⟩⟩⟩⟩⟩⟩⟩⟩⟩⟩⟩⟩⟩⟩⟩⟩⟩⟩⟩⟩⟩⟩
  · exact x_iload_n_ok (show decode cX9_copy 0 = .ok (.iload_n 1, 1) by decide +kernel) rfl
  · exact x_callS_ok (sX9_isRow l) hw_914 hw_912 hw_913 hw_68 ⟨by decide, by decide, by decide +kernel⟩ (by decide) (by decide) (show decode cX9_copy 1 = .ok (.invokestatic 66, 3) by decide +kernel)
  · exact x_ifeq_ok (show decode cX9_copy 4 = .ok (.ifCond .eq 10, 3) by decide +kernel) (by decide)
  · exact x_iload_n_ok (show decode cX9_copy 7 = .ok (.iload_n 3, 1) by decide +kernel) rfl
  · exact x_callS_ok (sX9_isRow l) hw_914 hw_912 hw_913 hw_68 ⟨by decide, by decide, by decide +kernel⟩ (by decide) (by decide) (show decode cX9_copy 8 = .ok (.invokestatic 66, 3) by decide +kernel)
  · exact x_ifne_ok (show decode cX9_copy 11 = .ok (.ifCond .ne 5, 3) by decide +kernel) (by decide)
  · exact x_iconst_ok (show decode cX9_copy 14 = .ok (.iconst (-1), 1) by decide +kernel) (by decide)
  · exact x_iret_ok (show decode cX9_copy 15 = .ok (.ireturn, 1) by decide +kernel)
  · exact x_iload_ok (show decode cX9_copy 16 = .ok (.iload 5, 2) by decide +kernel)
  · exact x_ifge_ok (show decode cX9_copy 18 = .ok (.ifCond .ge 9, 3) by decide +kernel) (by decide)
  · exact x_aload_n_ok (show decode cX9_copy 21 = .ok (.aload_n 0, 1) by decide +kernel) rfl
  · exact x_iconst_ok (show decode cX9_copy 22 = .ok (.iconst 5, 1) by decide +kernel) (by decide)
  · exact x_callV_ok (ci := 7) rfl (by decide) (sX9_find l) hw_922 hw_919 hw_921 hw_18 hw_68 ⟨by decide, by decide, by decide +kernel⟩ rfl (by decide) (by decide) (show decode cX9_copy 23 = .ok (.invokevirtual 70, 3) by decide +kernel)
  · exact x_iret_ok (show decode cX9_copy 26 = .ok (.ireturn, 1) by decide +kernel)
  · exact x_aload_n_ok (show decode cX9_copy 27 = .ok (.aload_n 0, 1) by decide +kernel) rfl
  · exact x_getR_ok (ci := 7) (k := 1) rfl (by decide) (by decide) hw_845 (show decode cX9_copy 28 = .ok (.getfield 13, 3) by decide +kernel)
  · exact x_iload_n_ok (show decode cX9_copy 31 = .ok (.iload_n 1, 1) by decide +kernel) rfl
  · exact x_iald_ok (show decode cX9_copy 32 = .ok (.iaload, 1) by decide +kernel)
  · exact x_iflt_ok (show decode cX9_copy 33 = .ok (.ifCond .lt 12, 3) by decide +kernel) (by decide)
  · exact x_aload_n_ok (show decode cX9_copy 36 = .ok (.aload_n 0, 1) by decide +kernel) rfl
  · exact x_getR_ok (ci := 7) (k := 1) rfl (by decide) (by decide) hw_845 (show decode cX9_copy 37 = .ok (.getfield 13, 3) by decide +kernel)
  · exact x_iload_n_ok (show decode cX9_copy 40 = .ok (.iload_n 3, 1) by decide +kernel) rfl
  · exact x_iald_ok (show decode cX9_copy 41 = .ok (.iaload, 1) by decide +kernel)
  · exact x_ifge_ok (show decode cX9_copy 42 = .ok (.ifCond .ge 9, 3) by decide +kernel) (by decide)
  · exact x_aload_n_ok (show decode cX9_copy 45 = .ok (.aload_n 0, 1) by decide +kernel) rfl
  · exact x_iconst_ok (show decode cX9_copy 46 = .ok (.iconst 1, 1) by decide +kernel) (by decide)
  · exact x_callV_ok (ci := 7) rfl (by decide) (sX9_find l) hw_922 hw_919 hw_921 hw_18 hw_68 ⟨by decide, by decide, by decide +kernel⟩ rfl (by decide) (by decide) (show decode cX9_copy 47 = .ok (.invokevirtual 70, 3) by decide +kernel)
  · exact x_iret_ok (show decode cX9_copy 50 = .ok (.ireturn, 1) by decide +kernel)
  · exact x_aload_n_ok (show decode cX9_copy 51 = .ok (.aload_n 0, 1) by decide +kernel) rfl
  · exact x_iload_n_ok (show decode cX9_copy 52 = .ok (.iload_n 1, 1) by decide +kernel) rfl
  · exact x_iload_n_ok (show decode cX9_copy 53 = .ok (.iload_n 2, 1) by decide +kernel) rfl
  · exact x_iload_ok (show decode cX9_copy 54 = .ok (.iload 5, 2) by decide +kernel)
  · exact x_callV_ok (ci := 7) rfl (by decide) (sX9_isSpan l) hw_954 hw_951 hw_953 hw_22 hw_68 ⟨by decide, by decide, by decide +kernel⟩ rfl (by decide) (by decide) (show decode cX9_copy 56 = .ok (.invokevirtual 85, 3) by decide +kernel)
  · exact x_ifeq_ok (show decode cX9_copy 59 = .ok (.ifCond .eq 15, 3) by decide +kernel) (by decide)
  · exact x_aload_n_ok (show decode cX9_copy 62 = .ok (.aload_n 0, 1) by decide +kernel) rfl
  · exact x_iload_n_ok (show decode cX9_copy 63 = .ok (.iload_n 3, 1) by decide +kernel) rfl
  · exact x_iload_ok (show decode cX9_copy 64 = .ok (.iload 4, 2) by decide +kernel)
  · exact x_iload_ok (show decode cX9_copy 66 = .ok (.iload 5, 2) by decide +kernel)
  · exact x_callV_ok (ci := 7) rfl (by decide) (sX9_isSpan l) hw_954 hw_951 hw_953 hw_22 hw_68 ⟨by decide, by decide, by decide +kernel⟩ rfl (by decide) (by decide) (show decode cX9_copy 68 = .ok (.invokevirtual 85, 3) by decide +kernel)
  · exact x_ifne_ok (show decode cX9_copy 71 = .ok (.ifCond .ne 9, 3) by decide +kernel) (by decide)
  · exact x_aload_n_ok (show decode cX9_copy 74 = .ok (.aload_n 0, 1) by decide +kernel) rfl
  · exact x_iconst_ok (show decode cX9_copy 75 = .ok (.iconst 2, 1) by decide +kernel) (by decide)
  · exact x_callV_ok (ci := 7) rfl (by decide) (sX9_find l) hw_922 hw_919 hw_921 hw_18 hw_68 ⟨by decide, by decide, by decide +kernel⟩ rfl (by decide) (by decide) (show decode cX9_copy 76 = .ok (.invokevirtual 70, 3) by decide +kernel)
  · exact x_iret_ok (show decode cX9_copy 79 = .ok (.ireturn, 1) by decide +kernel)
  · exact x_iload_n_ok (show decode cX9_copy 80 = .ok (.iload_n 2, 1) by decide +kernel) rfl
  · exact x_iload_ok (show decode cX9_copy 81 = .ok (.iload 4, 2) by decide +kernel)
  · exact x_cmpge_ok (show decode cX9_copy 83 = .ok (.if_icmp .ge 7, 3) by decide +kernel) (by decide)
  · exact x_iconst_ok (show decode cX9_copy 86 = .ok (.iconst 1, 1) by decide +kernel) (by decide)
  · exact x_goto_ok (show decode cX9_copy 87 = .ok (.goto 4, 3) by decide +kernel) (by decide)
  · exact x_iconst_ok (show decode cX9_copy 90 = .ok (.iconst 0, 1) by decide +kernel) (by decide)
  · exact x_istore_ok (show decode cX9_copy 91 = .ok (.istore 6, 2) by decide +kernel) (by decide)
  · exact x_iconst_ok (show decode cX9_copy 93 = .ok (.iconst 0, 1) by decide +kernel) (by decide)
  · exact x_istore_ok (show decode cX9_copy 94 = .ok (.istore 7, 2) by decide +kernel) (by decide)
  · exact x_iload_ok (show decode cX9_copy 96 = .ok (.iload 7, 2) by decide +kernel)
  · exact x_iload_ok (show decode cX9_copy 98 = .ok (.iload 5, 2) by decide +kernel)
  · exact x_cmpge_ok (show decode cX9_copy 100 = .ok (.if_icmp .ge 57, 3) by decide +kernel) (by decide)
  · exact x_iload_ok (show decode cX9_copy 103 = .ok (.iload 6, 2) by decide +kernel)
  · exact x_ifeq_ok (show decode cX9_copy 105 = .ok (.ifCond .eq 13, 3) by decide +kernel) (by decide)
  · exact x_iload_ok (show decode cX9_copy 108 = .ok (.iload 5, 2) by decide +kernel)
  · exact x_iconst_ok (show decode cX9_copy 110 = .ok (.iconst 1, 1) by decide +kernel) (by decide)
  · exact x_isub_ok (show decode cX9_copy 111 = .ok (.isub, 1) by decide +kernel)
  · exact x_iload_ok (show decode cX9_copy 112 = .ok (.iload 7, 2) by decide +kernel)
  · exact x_isub_ok (show decode cX9_copy 114 = .ok (.isub, 1) by decide +kernel)
  · exact x_goto_ok (show decode cX9_copy 115 = .ok (.goto 5, 3) by decide +kernel) (by decide)
  · exact x_iload_ok (show decode cX9_copy 118 = .ok (.iload 7, 2) by decide +kernel)
  · exact x_istore_ok (show decode cX9_copy 120 = .ok (.istore 8, 2) by decide +kernel) (by decide)
  · exact x_aload_n_ok (show decode cX9_copy 122 = .ok (.aload_n 0, 1) by decide +kernel) rfl
  · exact x_getR_ok (ci := 7) (k := 2) rfl (by decide) (by decide) hw_846 (show decode cX9_copy 123 = .ok (.getfield 16, 3) by decide +kernel)
  · exact x_bipush_ok (show decode cX9_copy 126 = .ok (.bipush 40, 2) by decide +kernel) (by decide)
  · exact x_iload_n_ok (show decode cX9_copy 128 = .ok (.iload_n 3, 1) by decide +kernel) rfl
  · exact x_imul_ok (show decode cX9_copy 129 = .ok (.imul, 1) by decide +kernel)
  · exact x_iload_ok (show decode cX9_copy 130 = .ok (.iload 4, 2) by decide +kernel)
  · exact x_iadd_ok (show decode cX9_copy 132 = .ok (.iadd, 1) by decide +kernel)
  · exact x_iload_ok (show decode cX9_copy 133 = .ok (.iload 8, 2) by decide +kernel)
  · exact x_iadd_ok (show decode cX9_copy 135 = .ok (.iadd, 1) by decide +kernel)
  · exact x_aload_n_ok (show decode cX9_copy 136 = .ok (.aload_n 0, 1) by decide +kernel) rfl
  · exact x_getR_ok (ci := 7) (k := 2) rfl (by decide) (by decide) hw_846 (show decode cX9_copy 137 = .ok (.getfield 16, 3) by decide +kernel)
  · exact x_bipush_ok (show decode cX9_copy 140 = .ok (.bipush 40, 2) by decide +kernel) (by decide)
  · exact x_iload_n_ok (show decode cX9_copy 142 = .ok (.iload_n 1, 1) by decide +kernel) rfl
  · exact x_imul_ok (show decode cX9_copy 143 = .ok (.imul, 1) by decide +kernel)
  · exact x_iload_n_ok (show decode cX9_copy 144 = .ok (.iload_n 2, 1) by decide +kernel) rfl
  · exact x_iadd_ok (show decode cX9_copy 145 = .ok (.iadd, 1) by decide +kernel)
  · exact x_iload_ok (show decode cX9_copy 146 = .ok (.iload 8, 2) by decide +kernel)
  · exact x_iadd_ok (show decode cX9_copy 148 = .ok (.iadd, 1) by decide +kernel)
  · exact x_iald_ok (show decode cX9_copy 149 = .ok (.iaload, 1) by decide +kernel)
  · exact x_iast_ok (show decode cX9_copy 150 = .ok (.iastore, 1) by decide +kernel)
  · exact x_iinc_ok (show decode cX9_copy 151 = .ok (.iinc 7 1, 3) by decide +kernel) (by decide) (by decide)
  · exact x_goto_ok (show decode cX9_copy 154 = .ok (.goto (-58), 3) by decide +kernel) (by decide)
  · exact x_iconst_ok (show decode cX9_copy 157 = .ok (.iconst 1, 1) by decide +kernel) (by decide)
  · exact x_iret_ok (show decode cX9_copy 158 = .ok (.ireturn, 1) by decide +kernel)
noncomputable def FX9_copy : List Value → xS → Option xR := xden tX9_copy 9 (some .int) 0
theorem sX9_copy (l : Launch) : xSound l yX9_copy cX9_copy 9 (some .int) 3 0 FX9_copy := x_den (by decide) (tX9_copy_ok l)
noncomputable def tX5_sum : List (Nat × xO) := [(0, x_push (.long 0) 1), (1, x_lstore 1 1), (2, x_push (.int (nI 0)) 1), (3, x_istore 3 1), (4, x_iload 3 1), (5, x_aload 0 1), (6, x_getI 4 1), (9, x_cmpge 28), (12, x_lload 1 1), (13, x_aload 0 1), (14, x_getR 4 0), (17, x_iload 3 1), (18, x_iald), (19, x_i2l), (20, x_ll (fun x y => x + y)), (21, x_lstore 1 1), (22, x_iinc 3 (nI 1)), (25, x_goto 4), (28, x_lload 1 1), (29, x_lret)]
set_option maxRecDepth 100000 in
theorem tX5_sum_ok (l : Launch) : ∀ q ∈ tX5_sum, xOK l cX5_sum RX5 4 1 0 (yX5_sum.name = "<init>") q.1 q.2 := by
  unfold tX5_sum
  refine List.forall_mem_cons.mpr ⟨?_, List.forall_mem_cons.mpr ⟨?_, List.forall_mem_cons.mpr ⟨?_, List.forall_mem_cons.mpr ⟨?_, List.forall_mem_cons.mpr ⟨?_, List.forall_mem_cons.mpr ⟨?_, List.forall_mem_cons.mpr ⟨?_, List.forall_mem_cons.mpr ⟨?_, List.forall_mem_cons.mpr ⟨?_, List.forall_mem_cons.mpr ⟨?_, List.forall_mem_cons.mpr ⟨?_, List.forall_mem_cons.mpr ⟨?_, List.forall_mem_cons.mpr ⟨?_, List.forall_mem_cons.mpr ⟨?_, List.forall_mem_cons.mpr ⟨?_, List.forall_mem_cons.mpr ⟨?_, List.forall_mem_cons.mpr ⟨?_, List.forall_mem_cons.mpr ⟨?_, List.forall_mem_cons.mpr ⟨?_, List.forall_mem_cons.mpr ⟨?_, fun _ h => absurd h List.not_mem_nil⟩⟩⟩⟩⟩⟩⟩⟩⟩⟩⟩⟩⟩⟩⟩⟩⟩⟩⟩⟩
  · exact x_lconst_ok (show decode cX5_sum 0 = .ok (.lconst 0, 1) by decide +kernel) rfl
  · exact x_lstore_n_ok (show decode cX5_sum 1 = .ok (.lstore_n 1, 1) by decide +kernel) rfl (by decide)
  · exact x_iconst_ok (show decode cX5_sum 2 = .ok (.iconst 0, 1) by decide +kernel) (by decide)
  · exact x_istore_n_ok (show decode cX5_sum 3 = .ok (.istore_n 3, 1) by decide +kernel) rfl (by decide)
  · exact x_iload_n_ok (show decode cX5_sum 4 = .ok (.iload_n 3, 1) by decide +kernel) rfl
  · exact x_aload_n_ok (show decode cX5_sum 5 = .ok (.aload_n 0, 1) by decide +kernel) rfl
  · exact x_getI_ok (ci := 4) (k := 1) rfl (by decide) (by decide) hw_97 (show decode cX5_sum 6 = .ok (.getfield 13, 3) by decide +kernel)
  · exact x_cmpge_ok (show decode cX5_sum 9 = .ok (.if_icmp .ge 19, 3) by decide +kernel) (by decide)
  · exact x_lload_n_ok (show decode cX5_sum 12 = .ok (.lload_n 1, 1) by decide +kernel) rfl
  · exact x_aload_n_ok (show decode cX5_sum 13 = .ok (.aload_n 0, 1) by decide +kernel) rfl
  · exact x_getR_ok (ci := 4) (k := 0) rfl (by decide) (by decide) hw_93 (show decode cX5_sum 14 = .ok (.getfield 9, 3) by decide +kernel)
  · exact x_iload_n_ok (show decode cX5_sum 17 = .ok (.iload_n 3, 1) by decide +kernel) rfl
  · exact x_iald_ok (show decode cX5_sum 18 = .ok (.iaload, 1) by decide +kernel)
  · exact x_i2l_ok (show decode cX5_sum 19 = .ok (.i2l, 1) by decide +kernel)
  · exact x_ladd_ok (show decode cX5_sum 20 = .ok (.ladd, 1) by decide +kernel)
  · exact x_lstore_n_ok (show decode cX5_sum 21 = .ok (.lstore_n 1, 1) by decide +kernel) rfl (by decide)
  · exact x_iinc_ok (show decode cX5_sum 22 = .ok (.iinc 3 1, 3) by decide +kernel) (by decide) (by decide)
  · exact x_goto_ok (show decode cX5_sum 25 = .ok (.goto (-21), 3) by decide +kernel) (by decide)
  · exact x_lload_n_ok (show decode cX5_sum 28 = .ok (.lload_n 1, 1) by decide +kernel) rfl
  · exact x_lret_ok (show decode cX5_sum 29 = .ok (.lreturn, 1) by decide +kernel)
noncomputable def FX5_sum : List Value → xS → Option xR := xden tX5_sum 4 (some .long) 0
theorem sX5_sum (l : Launch) : xSound l yX5_sum cX5_sum 4 (some .long) 1 0 FX5_sum := x_den (by decide) (tX5_sum_ok l)
noncomputable def tX8_mean : List (Nat × xO) := [(0, x_aload 0 1), (1, x_iload 1 1), (2, x_callV 6 0 2 FX8_refusalOfRow), (5, x_istore 2 1), (6, x_iload 2 1), (7, x_ifeq 12), (10, x_iload 2 1), (11, x_iret), (12, x_aload 0 1), (13, x_getR 6 0), (16, x_iload 1 1), (17, x_aald), (18, x_getI 4 1), (21, x_istore 3 1), (22, x_iload 3 1), (23, x_ifne 32), (26, x_aload 0 1), (27, x_push (.int (nI 4)) 1), (28, x_callV 6 0 2 FX8_findingOf), (31, x_iret), (32, x_aload 0 1), (33, x_aload 0 1), (34, x_getR 6 0), (37, x_iload 1 1), (38, x_aald), (39, x_callV 4 0 1 FX5_sum), (42, x_iload 3 1), (43, x_i2l), (44, x_ldiv), (45, x_l2i), (46, x_putI 6 10), (49, x_push (.int (nI 1)) 1), (50, x_iret)]
set_option maxRecDepth 100000 in
theorem tX8_mean_ok (l : Launch) : ∀ q ∈ tX8_mean, xOK l cX8_mean RX8 4 3 0 (yX8_mean.name = "<init>") q.1 q.2 := by
  unfold tX8_mean
  refine List.forall_mem_cons.mpr ⟨?_, List.forall_mem_cons.mpr ⟨?_, List.forall_mem_cons.mpr ⟨?_, List.forall_mem_cons.mpr ⟨?_, List.forall_mem_cons.mpr ⟨?_, List.forall_mem_cons.mpr ⟨?_, List.forall_mem_cons.mpr ⟨?_, List.forall_mem_cons.mpr ⟨?_, List.forall_mem_cons.mpr ⟨?_, List.forall_mem_cons.mpr ⟨?_, List.forall_mem_cons.mpr ⟨?_, List.forall_mem_cons.mpr ⟨?_, List.forall_mem_cons.mpr ⟨?_, List.forall_mem_cons.mpr ⟨?_, List.forall_mem_cons.mpr ⟨?_, List.forall_mem_cons.mpr ⟨?_, List.forall_mem_cons.mpr ⟨?_, List.forall_mem_cons.mpr ⟨?_, List.forall_mem_cons.mpr ⟨?_, List.forall_mem_cons.mpr ⟨?_, List.forall_mem_cons.mpr ⟨?_, List.forall_mem_cons.mpr ⟨?_, List.forall_mem_cons.mpr ⟨?_, List.forall_mem_cons.mpr ⟨?_, List.forall_mem_cons.mpr ⟨?_, List.forall_mem_cons.mpr ⟨?_, List.forall_mem_cons.mpr ⟨?_, List.forall_mem_cons.mpr ⟨?_, List.forall_mem_cons.mpr ⟨?_, List.forall_mem_cons.mpr ⟨?_, List.forall_mem_cons.mpr ⟨?_, List.forall_mem_cons.mpr ⟨?_, List.forall_mem_cons.mpr ⟨?_, fun _ h => absurd h List.not_mem_nil⟩⟩⟩⟩⟩⟩⟩⟩⟩⟩⟩⟩⟩⟩⟩⟩⟩⟩⟩⟩⟩⟩⟩⟩⟩⟩⟩⟩⟩⟩⟩⟩⟩
  · exact x_aload_n_ok (show decode cX8_mean 0 = .ok (.aload_n 0, 1) by decide +kernel) rfl
  · exact x_iload_n_ok (show decode cX8_mean 1 = .ok (.iload_n 1, 1) by decide +kernel) rfl
  · exact x_callV_ok (ci := 6) rfl (by decide) (sX8_refusalOfRow l) hw_288 hw_285 hw_287 hw_2 hw_61 ⟨by decide, by decide, by decide +kernel⟩ rfl (by decide) (by decide) (show decode cX8_mean 2 = .ok (.invokevirtual 88, 3) by decide +kernel)
  · exact x_istore_n_ok (show decode cX8_mean 5 = .ok (.istore_n 2, 1) by decide +kernel) rfl (by decide)
  · exact x_iload_n_ok (show decode cX8_mean 6 = .ok (.iload_n 2, 1) by decide +kernel) rfl
  · exact x_ifeq_ok (show decode cX8_mean 7 = .ok (.ifCond .eq 5, 3) by decide +kernel) (by decide)
  · exact x_iload_n_ok (show decode cX8_mean 10 = .ok (.iload_n 2, 1) by decide +kernel) rfl
  · exact x_iret_ok (show decode cX8_mean 11 = .ok (.ireturn, 1) by decide +kernel)
  · exact x_aload_n_ok (show decode cX8_mean 12 = .ok (.aload_n 0, 1) by decide +kernel) rfl
  · exact x_getR_ok (ci := 6) (k := 0) rfl (by decide) (by decide) hw_222 (show decode cX8_mean 13 = .ok (.getfield 11, 3) by decide +kernel)
  · exact x_iload_n_ok (show decode cX8_mean 16 = .ok (.iload_n 1, 1) by decide +kernel) rfl
  · exact x_aald_ok (show decode cX8_mean 17 = .ok (.aaload, 1) by decide +kernel)
  · exact x_getI_ok (ci := 4) (k := 1) rfl (by decide) (by decide) hw_100 (show decode cX8_mean 18 = .ok (.getfield 107, 3) by decide +kernel)
  · exact x_istore_n_ok (show decode cX8_mean 21 = .ok (.istore_n 3, 1) by decide +kernel) rfl (by decide)
  · exact x_iload_n_ok (show decode cX8_mean 22 = .ok (.iload_n 3, 1) by decide +kernel) rfl
  · exact x_ifne_ok (show decode cX8_mean 23 = .ok (.ifCond .ne 9, 3) by decide +kernel) (by decide)
  · exact x_aload_n_ok (show decode cX8_mean 26 = .ok (.aload_n 0, 1) by decide +kernel) rfl
  · exact x_iconst_ok (show decode cX8_mean 27 = .ok (.iconst 4, 1) by decide +kernel) (by decide)
  · exact x_callV_ok (ci := 6) rfl (by decide) (sX8_findingOf l) hw_272 hw_269 hw_271 hw_0 hw_61 ⟨by decide, by decide, by decide +kernel⟩ rfl (by decide) (by decide) (show decode cX8_mean 28 = .ok (.invokevirtual 69, 3) by decide +kernel)
  · exact x_iret_ok (show decode cX8_mean 31 = .ok (.ireturn, 1) by decide +kernel)
  · exact x_aload_n_ok (show decode cX8_mean 32 = .ok (.aload_n 0, 1) by decide +kernel) rfl
  · exact x_aload_n_ok (show decode cX8_mean 33 = .ok (.aload_n 0, 1) by decide +kernel) rfl
  · exact x_getR_ok (ci := 6) (k := 0) rfl (by decide) (by decide) hw_222 (show decode cX8_mean 34 = .ok (.getfield 11, 3) by decide +kernel)
  · exact x_iload_n_ok (show decode cX8_mean 37 = .ok (.iload_n 1, 1) by decide +kernel) rfl
  · exact x_aald_ok (show decode cX8_mean 38 = .ok (.aaload, 1) by decide +kernel)
  · exact x_callV_ok (ci := 4) rfl (by decide) (sX5_sum l) hw_323 hw_320 hw_321 hw_322 hw_62 ⟨by decide, by decide, by decide +kernel⟩ rfl (by decide) (by decide) (show decode cX8_mean 39 = .ok (.invokevirtual 110, 3) by decide +kernel)
  · exact x_iload_n_ok (show decode cX8_mean 42 = .ok (.iload_n 3, 1) by decide +kernel) rfl
  · exact x_i2l_ok (show decode cX8_mean 43 = .ok (.i2l, 1) by decide +kernel)
  · exact x_ldiv_ok (show decode cX8_mean 44 = .ok (.ldiv, 1) by decide +kernel)
  · exact x_l2i_ok (show decode cX8_mean 45 = .ok (.l2i, 1) by decide +kernel)
  · exact x_putI_ok (ci := 6) (k := 10) rfl (by decide) (by decide) rfl hw_232 rfl (show decode cX8_mean 46 = .ok (.putfield 84, 3) by decide +kernel)
  · exact x_iconst_ok (show decode cX8_mean 49 = .ok (.iconst 1, 1) by decide +kernel) (by decide)
  · exact x_iret_ok (show decode cX8_mean 50 = .ok (.ireturn, 1) by decide +kernel)
noncomputable def FX8_mean : List Value → xS → Option xR := xden tX8_mean 4 (some .int) 0
theorem sX8_mean (l : Launch) : xSound l yX8_mean cX8_mean 4 (some .int) 3 0 FX8_mean := x_den (by decide) (tX8_mean_ok l)
noncomputable def tX9_mean : List (Nat × xO) := [(0, x_iload 1 1), (1, x_call 0 1 FX9_isRow), (4, x_ifne 9), (7, x_push (.int (-1)) 1), (8, x_iret), (9, x_aload 0 1), (10, x_getR 7 1), (13, x_iload 1 1), (14, x_iald), (15, x_ifge 24), (18, x_aload 0 1), (19, x_push (.int (nI 1)) 1), (20, x_callV 7 0 2 FX9_find), (23, x_iret), (24, x_aload 0 1), (25, x_getR 7 1), (28, x_iload 1 1), (29, x_iald), (30, x_ifne 39), (33, x_aload 0 1), (34, x_push (.int (nI 4)) 1), (35, x_callV 7 0 2 FX9_find), (38, x_iret), (39, x_push (.long 0) 1), (40, x_lstore 2 1), (41, x_push (.int (nI 0)) 1), (42, x_istore 4 2), (44, x_iload 4 2), (46, x_aload 0 1), (47, x_getR 7 1), (50, x_iload 1 1), (51, x_iald), (52, x_cmpge 77), (55, x_lload 2 1), (56, x_aload 0 1), (57, x_getR 7 2), (60, x_push (.int (nI 40)) 2), (62, x_iload 1 1), (63, x_ii (fun x y => x * y)), (64, x_iload 4 2), (66, x_ii (fun x y => x + y)), (67, x_iald), (68, x_i2l), (69, x_ll (fun x y => x + y)), (70, x_lstore 2 1), (71, x_iinc 4 (nI 1)), (74, x_goto 44), (77, x_aload 0 1), (78, x_lload 2 1), (79, x_aload 0 1), (80, x_getR 7 1), (83, x_iload 1 1), (84, x_iald), (85, x_i2l), (86, x_ldiv), (87, x_l2i), (88, x_callV 7 0 2 FX9_tell), (91, x_iret)]
set_option maxRecDepth 100000 in
theorem tX9_mean_ok (l : Launch) : ∀ q ∈ tX9_mean, xOK l cX9_mean RX9 5 3 0 (yX9_mean.name = "<init>") q.1 q.2 := by
  unfold tX9_mean
  refine List.forall_mem_cons.mpr ⟨?_, List.forall_mem_cons.mpr ⟨?_, List.forall_mem_cons.mpr ⟨?_, List.forall_mem_cons.mpr ⟨?_, List.forall_mem_cons.mpr ⟨?_, List.forall_mem_cons.mpr ⟨?_, List.forall_mem_cons.mpr ⟨?_, List.forall_mem_cons.mpr ⟨?_, List.forall_mem_cons.mpr ⟨?_, List.forall_mem_cons.mpr ⟨?_, List.forall_mem_cons.mpr ⟨?_, List.forall_mem_cons.mpr ⟨?_, List.forall_mem_cons.mpr ⟨?_, List.forall_mem_cons.mpr ⟨?_, List.forall_mem_cons.mpr ⟨?_, List.forall_mem_cons.mpr ⟨?_, List.forall_mem_cons.mpr ⟨?_, List.forall_mem_cons.mpr ⟨?_, List.forall_mem_cons.mpr ⟨?_, List.forall_mem_cons.mpr ⟨?_, List.forall_mem_cons.mpr ⟨?_, List.forall_mem_cons.mpr ⟨?_, List.forall_mem_cons.mpr ⟨?_, List.forall_mem_cons.mpr ⟨?_, List.forall_mem_cons.mpr ⟨?_, List.forall_mem_cons.mpr ⟨?_, List.forall_mem_cons.mpr ⟨?_, List.forall_mem_cons.mpr ⟨?_, List.forall_mem_cons.mpr ⟨?_, List.forall_mem_cons.mpr ⟨?_, List.forall_mem_cons.mpr ⟨?_, List.forall_mem_cons.mpr ⟨?_, List.forall_mem_cons.mpr ⟨?_, List.forall_mem_cons.mpr ⟨?_, List.forall_mem_cons.mpr ⟨?_, List.forall_mem_cons.mpr ⟨?_, List.forall_mem_cons.mpr ⟨?_, List.forall_mem_cons.mpr ⟨?_, List.forall_mem_cons.mpr ⟨?_, List.forall_mem_cons.mpr ⟨?_, List.forall_mem_cons.mpr ⟨?_, List.forall_mem_cons.mpr ⟨?_, List.forall_mem_cons.mpr ⟨?_, List.forall_mem_cons.mpr ⟨?_, List.forall_mem_cons.mpr ⟨?_, List.forall_mem_cons.mpr ⟨?_, List.forall_mem_cons.mpr ⟨?_, List.forall_mem_cons.mpr ⟨?_, List.forall_mem_cons.mpr ⟨?_, List.forall_mem_cons.mpr ⟨?_, List.forall_mem_cons.mpr ⟨?_, List.forall_mem_cons.mpr ⟨?_, List.forall_mem_cons.mpr ⟨?_, List.forall_mem_cons.mpr ⟨?_, List.forall_mem_cons.mpr ⟨?_, List.forall_mem_cons.mpr ⟨?_, List.forall_mem_cons.mpr ⟨?_, List.forall_mem_cons.mpr ⟨?_, fun _ h => absurd h List.not_mem_nil⟩⟩⟩⟩⟩⟩⟩⟩⟩⟩⟩⟩⟩⟩⟩⟩⟩⟩⟩⟩⟩⟩⟩⟩⟩⟩⟩⟩⟩⟩⟩⟩⟩⟩⟩⟩⟩⟩⟩⟩⟩⟩⟩⟩⟩⟩⟩⟩⟩⟩⟩⟩⟩⟩⟩⟩⟩⟩
  · exact x_iload_n_ok (show decode cX9_mean 0 = .ok (.iload_n 1, 1) by decide +kernel) rfl
  · exact x_callS_ok (sX9_isRow l) hw_914 hw_912 hw_913 hw_68 ⟨by decide, by decide, by decide +kernel⟩ (by decide) (by decide) (show decode cX9_mean 1 = .ok (.invokestatic 66, 3) by decide +kernel)
  · exact x_ifne_ok (show decode cX9_mean 4 = .ok (.ifCond .ne 5, 3) by decide +kernel) (by decide)
  · exact x_iconst_ok (show decode cX9_mean 7 = .ok (.iconst (-1), 1) by decide +kernel) (by decide)
  · exact x_iret_ok (show decode cX9_mean 8 = .ok (.ireturn, 1) by decide +kernel)
  · exact x_aload_n_ok (show decode cX9_mean 9 = .ok (.aload_n 0, 1) by decide +kernel) rfl
  · exact x_getR_ok (ci := 7) (k := 1) rfl (by decide) (by decide) hw_845 (show decode cX9_mean 10 = .ok (.getfield 13, 3) by decide +kernel)
  · exact x_iload_n_ok (show decode cX9_mean 13 = .ok (.iload_n 1, 1) by decide +kernel) rfl
  · exact x_iald_ok (show decode cX9_mean 14 = .ok (.iaload, 1) by decide +kernel)
  · exact x_ifge_ok (show decode cX9_mean 15 = .ok (.ifCond .ge 9, 3) by decide +kernel) (by decide)
  · exact x_aload_n_ok (show decode cX9_mean 18 = .ok (.aload_n 0, 1) by decide +kernel) rfl
  · exact x_iconst_ok (show decode cX9_mean 19 = .ok (.iconst 1, 1) by decide +kernel) (by decide)
  · exact x_callV_ok (ci := 7) rfl (by decide) (sX9_find l) hw_922 hw_919 hw_921 hw_18 hw_68 ⟨by decide, by decide, by decide +kernel⟩ rfl (by decide) (by decide) (show decode cX9_mean 20 = .ok (.invokevirtual 70, 3) by decide +kernel)
  · exact x_iret_ok (show decode cX9_mean 23 = .ok (.ireturn, 1) by decide +kernel)
  · exact x_aload_n_ok (show decode cX9_mean 24 = .ok (.aload_n 0, 1) by decide +kernel) rfl
  · exact x_getR_ok (ci := 7) (k := 1) rfl (by decide) (by decide) hw_845 (show decode cX9_mean 25 = .ok (.getfield 13, 3) by decide +kernel)
  · exact x_iload_n_ok (show decode cX9_mean 28 = .ok (.iload_n 1, 1) by decide +kernel) rfl
  · exact x_iald_ok (show decode cX9_mean 29 = .ok (.iaload, 1) by decide +kernel)
  · exact x_ifne_ok (show decode cX9_mean 30 = .ok (.ifCond .ne 9, 3) by decide +kernel) (by decide)
  · exact x_aload_n_ok (show decode cX9_mean 33 = .ok (.aload_n 0, 1) by decide +kernel) rfl
  · exact x_iconst_ok (show decode cX9_mean 34 = .ok (.iconst 4, 1) by decide +kernel) (by decide)
  · exact x_callV_ok (ci := 7) rfl (by decide) (sX9_find l) hw_922 hw_919 hw_921 hw_18 hw_68 ⟨by decide, by decide, by decide +kernel⟩ rfl (by decide) (by decide) (show decode cX9_mean 35 = .ok (.invokevirtual 70, 3) by decide +kernel)
  · exact x_iret_ok (show decode cX9_mean 38 = .ok (.ireturn, 1) by decide +kernel)
  · exact x_lconst_ok (show decode cX9_mean 39 = .ok (.lconst 0, 1) by decide +kernel) rfl
  · exact x_lstore_n_ok (show decode cX9_mean 40 = .ok (.lstore_n 2, 1) by decide +kernel) rfl (by decide)
  · exact x_iconst_ok (show decode cX9_mean 41 = .ok (.iconst 0, 1) by decide +kernel) (by decide)
  · exact x_istore_ok (show decode cX9_mean 42 = .ok (.istore 4, 2) by decide +kernel) (by decide)
  · exact x_iload_ok (show decode cX9_mean 44 = .ok (.iload 4, 2) by decide +kernel)
  · exact x_aload_n_ok (show decode cX9_mean 46 = .ok (.aload_n 0, 1) by decide +kernel) rfl
  · exact x_getR_ok (ci := 7) (k := 1) rfl (by decide) (by decide) hw_845 (show decode cX9_mean 47 = .ok (.getfield 13, 3) by decide +kernel)
  · exact x_iload_n_ok (show decode cX9_mean 50 = .ok (.iload_n 1, 1) by decide +kernel) rfl
  · exact x_iald_ok (show decode cX9_mean 51 = .ok (.iaload, 1) by decide +kernel)
  · exact x_cmpge_ok (show decode cX9_mean 52 = .ok (.if_icmp .ge 25, 3) by decide +kernel) (by decide)
  · exact x_lload_n_ok (show decode cX9_mean 55 = .ok (.lload_n 2, 1) by decide +kernel) rfl
  · exact x_aload_n_ok (show decode cX9_mean 56 = .ok (.aload_n 0, 1) by decide +kernel) rfl
  · exact x_getR_ok (ci := 7) (k := 2) rfl (by decide) (by decide) hw_846 (show decode cX9_mean 57 = .ok (.getfield 16, 3) by decide +kernel)
  · exact x_bipush_ok (show decode cX9_mean 60 = .ok (.bipush 40, 2) by decide +kernel) (by decide)
  · exact x_iload_n_ok (show decode cX9_mean 62 = .ok (.iload_n 1, 1) by decide +kernel) rfl
  · exact x_imul_ok (show decode cX9_mean 63 = .ok (.imul, 1) by decide +kernel)
  · exact x_iload_ok (show decode cX9_mean 64 = .ok (.iload 4, 2) by decide +kernel)
  · exact x_iadd_ok (show decode cX9_mean 66 = .ok (.iadd, 1) by decide +kernel)
  · exact x_iald_ok (show decode cX9_mean 67 = .ok (.iaload, 1) by decide +kernel)
  · exact x_i2l_ok (show decode cX9_mean 68 = .ok (.i2l, 1) by decide +kernel)
  · exact x_ladd_ok (show decode cX9_mean 69 = .ok (.ladd, 1) by decide +kernel)
  · exact x_lstore_n_ok (show decode cX9_mean 70 = .ok (.lstore_n 2, 1) by decide +kernel) rfl (by decide)
  · exact x_iinc_ok (show decode cX9_mean 71 = .ok (.iinc 4 1, 3) by decide +kernel) (by decide) (by decide)
  · exact x_goto_ok (show decode cX9_mean 74 = .ok (.goto (-30), 3) by decide +kernel) (by decide)
  · exact x_aload_n_ok (show decode cX9_mean 77 = .ok (.aload_n 0, 1) by decide +kernel) rfl
  · exact x_lload_n_ok (show decode cX9_mean 78 = .ok (.lload_n 2, 1) by decide +kernel) rfl
  · exact x_aload_n_ok (show decode cX9_mean 79 = .ok (.aload_n 0, 1) by decide +kernel) rfl
  · exact x_getR_ok (ci := 7) (k := 1) rfl (by decide) (by decide) hw_845 (show decode cX9_mean 80 = .ok (.getfield 13, 3) by decide +kernel)
  · exact x_iload_n_ok (show decode cX9_mean 83 = .ok (.iload_n 1, 1) by decide +kernel) rfl
  · exact x_iald_ok (show decode cX9_mean 84 = .ok (.iaload, 1) by decide +kernel)
  · exact x_i2l_ok (show decode cX9_mean 85 = .ok (.i2l, 1) by decide +kernel)
  · exact x_ldiv_ok (show decode cX9_mean 86 = .ok (.ldiv, 1) by decide +kernel)
  · exact x_l2i_ok (show decode cX9_mean 87 = .ok (.l2i, 1) by decide +kernel)
  · exact x_callV_ok (ci := 7) rfl (by decide) (sX9_tell l) hw_938 hw_935 hw_937 hw_21 hw_68 ⟨by decide, by decide, by decide +kernel⟩ rfl (by decide) (by decide) (show decode cX9_mean 88 = .ok (.invokevirtual 82, 3) by decide +kernel)
  · exact x_iret_ok (show decode cX9_mean 91 = .ok (.ireturn, 1) by decide +kernel)
noncomputable def FX9_mean : List Value → xS → Option xR := xden tX9_mean 5 (some .int) 0
theorem sX9_mean (l : Launch) : xSound l yX9_mean cX9_mean 5 (some .int) 3 0 FX9_mean := x_den (by decide) (tX9_mean_ok l)
noncomputable def tX7_begin : List (Nat × xO) := [(0, x_aload 0 1), (1, x_iload 1 1), (2, x_putI 5 1), (5, x_push (.int (nI 0)) 1), (6, x_istore 2 1), (7, x_iload 2 1), (8, x_push (.int (nI 80)) 2), (10, x_cmpge 27), (13, x_aload 0 1), (14, x_getR 5 0), (17, x_iload 2 1), (18, x_push (.int (nI 32)) 2), (20, x_bastB), (21, x_iinc 2 (nI 1)), (24, x_goto 7), (27, x_vret)]
set_option maxRecDepth 100000 in
theorem tX7_begin_ok (l : Launch) : ∀ q ∈ tX7_begin, xOK l cX7_begin RX7 3 1 0 (yX7_begin.name = "<init>") q.1 q.2 := by
  unfold tX7_begin
  refine List.forall_mem_cons.mpr ⟨?_, List.forall_mem_cons.mpr ⟨?_, List.forall_mem_cons.mpr ⟨?_, List.forall_mem_cons.mpr ⟨?_, List.forall_mem_cons.mpr ⟨?_, List.forall_mem_cons.mpr ⟨?_, List.forall_mem_cons.mpr ⟨?_, List.forall_mem_cons.mpr ⟨?_, List.forall_mem_cons.mpr ⟨?_, List.forall_mem_cons.mpr ⟨?_, List.forall_mem_cons.mpr ⟨?_, List.forall_mem_cons.mpr ⟨?_, List.forall_mem_cons.mpr ⟨?_, List.forall_mem_cons.mpr ⟨?_, List.forall_mem_cons.mpr ⟨?_, List.forall_mem_cons.mpr ⟨?_, fun _ h => absurd h List.not_mem_nil⟩⟩⟩⟩⟩⟩⟩⟩⟩⟩⟩⟩⟩⟩⟩⟩
  · exact x_aload_n_ok (show decode cX7_begin 0 = .ok (.aload_n 0, 1) by decide +kernel) rfl
  · exact x_iload_n_ok (show decode cX7_begin 1 = .ok (.iload_n 1, 1) by decide +kernel) rfl
  · exact x_putI_ok (ci := 5) (k := 1) rfl (by decide) (by decide) rfl hw_116 rfl (show decode cX7_begin 2 = .ok (.putfield 15, 3) by decide +kernel)
  · exact x_iconst_ok (show decode cX7_begin 5 = .ok (.iconst 0, 1) by decide +kernel) (by decide)
  · exact x_istore_n_ok (show decode cX7_begin 6 = .ok (.istore_n 2, 1) by decide +kernel) rfl (by decide)
  · exact x_iload_n_ok (show decode cX7_begin 7 = .ok (.iload_n 2, 1) by decide +kernel) rfl
  · exact x_bipush_ok (show decode cX7_begin 8 = .ok (.bipush 80, 2) by decide +kernel) (by decide)
  · exact x_cmpge_ok (show decode cX7_begin 10 = .ok (.if_icmp .ge 17, 3) by decide +kernel) (by decide)
  · exact x_aload_n_ok (show decode cX7_begin 13 = .ok (.aload_n 0, 1) by decide +kernel) rfl
  · exact x_getR_ok (ci := 5) (k := 0) rfl (by decide) (by decide) hw_114 (show decode cX7_begin 14 = .ok (.getfield 11, 3) by decide +kernel)
  · exact x_iload_n_ok (show decode cX7_begin 17 = .ok (.iload_n 2, 1) by decide +kernel) rfl
  · exact x_bipush_ok (show decode cX7_begin 18 = .ok (.bipush 32, 2) by decide +kernel) (by decide)
  · exact x_bastB_ok (show decode cX7_begin 20 = .ok (.bastore, 1) by decide +kernel)
  · exact x_iinc_ok (show decode cX7_begin 21 = .ok (.iinc 2 1, 3) by decide +kernel) (by decide) (by decide)
  · exact x_goto_ok (show decode cX7_begin 24 = .ok (.goto (-17), 3) by decide +kernel) (by decide)
  · exact x_vret_ok (show decode cX7_begin 27 = .ok (.return_, 1) by decide +kernel)
noncomputable def FX7_begin : List Value → xS → Option xR := xden tX7_begin 3 none 0
theorem sX7_begin (l : Launch) : xSound l yX7_begin cX7_begin 3 none 1 0 FX7_begin := x_den (by decide) (tX7_begin_ok l)
noncomputable def tX8_text : List (Nat × xO) := [(0, x_iload 1 1), (1, x_push (.int (nI 4)) 1), (2, x_call 0 2 FX8_among), (5, x_ifeq 14), (8, x_iload 2 1), (9, x_push (.int (nI 80)) 2), (11, x_cmple 16), (14, x_push (.int (-1)) 1), (15, x_iret), (16, x_iload 2 1), (17, x_ifge 26), (20, x_aload 0 1), (21, x_push (.int (nI 5)) 1), (22, x_callV 6 0 2 FX8_findingOf), (25, x_iret), (26, x_aload 0 1), (27, x_getR 6 1), (30, x_iload 1 1), (31, x_aald), (32, x_iload 2 1), (33, x_callV 5 0 2 FX7_begin), (36, x_iload 2 1), (37, x_iret)]
set_option maxRecDepth 100000 in
theorem tX8_text_ok (l : Launch) : ∀ q ∈ tX8_text, xOK l cX8_text RX8 3 2 0 (yX8_text.name = "<init>") q.1 q.2 := by
  unfold tX8_text
  refine List.forall_mem_cons.mpr ⟨?_, List.forall_mem_cons.mpr ⟨?_, List.forall_mem_cons.mpr ⟨?_, List.forall_mem_cons.mpr ⟨?_, List.forall_mem_cons.mpr ⟨?_, List.forall_mem_cons.mpr ⟨?_, List.forall_mem_cons.mpr ⟨?_, List.forall_mem_cons.mpr ⟨?_, List.forall_mem_cons.mpr ⟨?_, List.forall_mem_cons.mpr ⟨?_, List.forall_mem_cons.mpr ⟨?_, List.forall_mem_cons.mpr ⟨?_, List.forall_mem_cons.mpr ⟨?_, List.forall_mem_cons.mpr ⟨?_, List.forall_mem_cons.mpr ⟨?_, List.forall_mem_cons.mpr ⟨?_, List.forall_mem_cons.mpr ⟨?_, List.forall_mem_cons.mpr ⟨?_, List.forall_mem_cons.mpr ⟨?_, List.forall_mem_cons.mpr ⟨?_, List.forall_mem_cons.mpr ⟨?_, List.forall_mem_cons.mpr ⟨?_, List.forall_mem_cons.mpr ⟨?_, fun _ h => absurd h List.not_mem_nil⟩⟩⟩⟩⟩⟩⟩⟩⟩⟩⟩⟩⟩⟩⟩⟩⟩⟩⟩⟩⟩⟩⟩
  · exact x_iload_n_ok (show decode cX8_text 0 = .ok (.iload_n 1, 1) by decide +kernel) rfl
  · exact x_iconst_ok (show decode cX8_text 1 = .ok (.iconst 4, 1) by decide +kernel) (by decide)
  · exact x_callS_ok (sX8_among l) hw_268 hw_266 hw_267 hw_61 ⟨by decide, by decide, by decide +kernel⟩ (by decide) (by decide) (show decode cX8_text 2 = .ok (.invokestatic 65, 3) by decide +kernel)
  · exact x_ifeq_ok (show decode cX8_text 5 = .ok (.ifCond .eq 9, 3) by decide +kernel) (by decide)
  · exact x_iload_n_ok (show decode cX8_text 8 = .ok (.iload_n 2, 1) by decide +kernel) rfl
  · exact x_bipush_ok (show decode cX8_text 9 = .ok (.bipush 80, 2) by decide +kernel) (by decide)
  · exact x_cmple_ok (show decode cX8_text 11 = .ok (.if_icmp .le 5, 3) by decide +kernel) (by decide)
  · exact x_iconst_ok (show decode cX8_text 14 = .ok (.iconst (-1), 1) by decide +kernel) (by decide)
  · exact x_iret_ok (show decode cX8_text 15 = .ok (.ireturn, 1) by decide +kernel)
  · exact x_iload_n_ok (show decode cX8_text 16 = .ok (.iload_n 2, 1) by decide +kernel) rfl
  · exact x_ifge_ok (show decode cX8_text 17 = .ok (.ifCond .ge 9, 3) by decide +kernel) (by decide)
  · exact x_aload_n_ok (show decode cX8_text 20 = .ok (.aload_n 0, 1) by decide +kernel) rfl
  · exact x_iconst_ok (show decode cX8_text 21 = .ok (.iconst 5, 1) by decide +kernel) (by decide)
  · exact x_callV_ok (ci := 6) rfl (by decide) (sX8_findingOf l) hw_272 hw_269 hw_271 hw_0 hw_61 ⟨by decide, by decide, by decide +kernel⟩ rfl (by decide) (by decide) (show decode cX8_text 22 = .ok (.invokevirtual 69, 3) by decide +kernel)
  · exact x_iret_ok (show decode cX8_text 25 = .ok (.ireturn, 1) by decide +kernel)
  · exact x_aload_n_ok (show decode cX8_text 26 = .ok (.aload_n 0, 1) by decide +kernel) rfl
  · exact x_getR_ok (ci := 6) (k := 1) rfl (by decide) (by decide) hw_223 (show decode cX8_text 27 = .ok (.getfield 18, 3) by decide +kernel)
  · exact x_iload_n_ok (show decode cX8_text 30 = .ok (.iload_n 1, 1) by decide +kernel) rfl
  · exact x_aald_ok (show decode cX8_text 31 = .ok (.aaload, 1) by decide +kernel)
  · exact x_iload_n_ok (show decode cX8_text 32 = .ok (.iload_n 2, 1) by decide +kernel) rfl
  · exact x_callV_ok (ci := 5) rfl (by decide) (sX7_begin l) hw_331 hw_328 hw_329 hw_330 hw_63 ⟨by decide, by decide, by decide +kernel⟩ rfl (by decide) (by decide) (show decode cX8_text 33 = .ok (.invokevirtual 114, 3) by decide +kernel)
  · exact x_iload_n_ok (show decode cX8_text 36 = .ok (.iload_n 2, 1) by decide +kernel) rfl
  · exact x_iret_ok (show decode cX8_text 37 = .ok (.ireturn, 1) by decide +kernel)
noncomputable def FX8_text : List Value → xS → Option xR := xden tX8_text 3 (some .int) 0
theorem sX8_text (l : Launch) : xSound l yX8_text cX8_text 3 (some .int) 2 0 FX8_text := x_den (by decide) (tX8_text_ok l)
noncomputable def tX9_isText : List (Nat × xO) := [(0, x_iload 0 1), (1, x_i2l), (2, x_push (.long 0) 1), (3, x_push (.long 3) 3), (6, x_call 0 3 FX9_in), (9, x_iret)]
set_option maxRecDepth 100000 in
theorem tX9_isText_ok (l : Launch) : ∀ q ∈ tX9_isText, xOK l cX9_isText RX9 1 2 0 (yX9_isText.name = "<init>") q.1 q.2 := by
  unfold tX9_isText
  refine List.forall_mem_cons.mpr ⟨?_, List.forall_mem_cons.mpr ⟨?_, List.forall_mem_cons.mpr ⟨?_, List.forall_mem_cons.mpr ⟨?_, List.forall_mem_cons.mpr ⟨?_, List.forall_mem_cons.mpr ⟨?_, fun _ h => absurd h List.not_mem_nil⟩⟩⟩⟩⟩⟩
  · exact x_iload_n_ok (show decode cX9_isText 0 = .ok (.iload_n 0, 1) by decide +kernel) rfl
  · exact x_i2l_ok (show decode cX9_isText 1 = .ok (.i2l, 1) by decide +kernel)
  · exact x_lconst_ok (show decode cX9_isText 2 = .ok (.lconst 0, 1) by decide +kernel) rfl
  · exact x_ldc2_ok (show decode cX9_isText 3 = .ok (.ldc2_w 64, 3) by decide +kernel) hw_966
  · exact x_callS_ok (sX9_in l) hw_918 hw_916 hw_917 hw_68 ⟨by decide, by decide, by decide +kernel⟩ (by decide) (by decide) (show decode cX9_isText 6 = .ok (.invokestatic 60, 3) by decide +kernel)
  · exact x_iret_ok (show decode cX9_isText 9 = .ok (.ireturn, 1) by decide +kernel)
noncomputable def FX9_isText : List Value → xS → Option xR := xden tX9_isText 1 (some .boolean) 0
theorem sX9_isText (l : Launch) : xSound l yX9_isText cX9_isText 1 (some .boolean) 2 0 FX9_isText := x_den (by decide) (tX9_isText_ok l)
noncomputable def tX9_text : List (Nat × xO) := [(0, x_iload 1 1), (1, x_call 0 1 FX9_isText), (4, x_ifeq 13), (7, x_iload 2 1), (8, x_push (.int (nI 80)) 2), (10, x_cmple 15), (13, x_push (.int (-1)) 1), (14, x_iret), (15, x_iload 2 1), (16, x_ifge 25), (19, x_aload 0 1), (20, x_push (.int (nI 5)) 1), (21, x_callV 7 0 2 FX9_find), (24, x_iret), (25, x_aload 0 1), (26, x_getR 7 3), (29, x_iload 1 1), (30, x_iload 2 1), (31, x_iast), (32, x_push (.int (nI 0)) 1), (33, x_istore 3 1), (34, x_iload 3 1), (35, x_push (.int (nI 80)) 2), (37, x_cmpge 59), (40, x_aload 0 1), (41, x_getR 7 4), (44, x_push (.int (nI 80)) 2), (46, x_iload 1 1), (47, x_ii (fun x y => x * y)), (48, x_iload 3 1), (49, x_ii (fun x y => x + y)), (50, x_push (.int (nI 32)) 2), (52, x_iast), (53, x_iinc 3 (nI 1)), (56, x_goto 34), (59, x_iload 2 1), (60, x_iret)]
set_option maxRecDepth 100000 in
theorem tX9_text_ok (l : Launch) : ∀ q ∈ tX9_text, xOK l cX9_text RX9 4 3 0 (yX9_text.name = "<init>") q.1 q.2 := by
  unfold tX9_text
  refine List.forall_mem_cons.mpr ⟨?_, List.forall_mem_cons.mpr ⟨?_, List.forall_mem_cons.mpr ⟨?_, List.forall_mem_cons.mpr ⟨?_, List.forall_mem_cons.mpr ⟨?_, List.forall_mem_cons.mpr ⟨?_, List.forall_mem_cons.mpr ⟨?_, List.forall_mem_cons.mpr ⟨?_, List.forall_mem_cons.mpr ⟨?_, List.forall_mem_cons.mpr ⟨?_, List.forall_mem_cons.mpr ⟨?_, List.forall_mem_cons.mpr ⟨?_, List.forall_mem_cons.mpr ⟨?_, List.forall_mem_cons.mpr ⟨?_, List.forall_mem_cons.mpr ⟨?_, List.forall_mem_cons.mpr ⟨?_, List.forall_mem_cons.mpr ⟨?_, List.forall_mem_cons.mpr ⟨?_, List.forall_mem_cons.mpr ⟨?_, List.forall_mem_cons.mpr ⟨?_, List.forall_mem_cons.mpr ⟨?_, List.forall_mem_cons.mpr ⟨?_, List.forall_mem_cons.mpr ⟨?_, List.forall_mem_cons.mpr ⟨?_, List.forall_mem_cons.mpr ⟨?_, List.forall_mem_cons.mpr ⟨?_, List.forall_mem_cons.mpr ⟨?_, List.forall_mem_cons.mpr ⟨?_, List.forall_mem_cons.mpr ⟨?_, List.forall_mem_cons.mpr ⟨?_, List.forall_mem_cons.mpr ⟨?_, List.forall_mem_cons.mpr ⟨?_, List.forall_mem_cons.mpr ⟨?_, List.forall_mem_cons.mpr ⟨?_, List.forall_mem_cons.mpr ⟨?_, List.forall_mem_cons.mpr ⟨?_, List.forall_mem_cons.mpr ⟨?_, fun _ h => absurd h List.not_mem_nil⟩⟩⟩⟩⟩⟩⟩⟩⟩⟩⟩⟩⟩⟩⟩⟩⟩⟩⟩⟩⟩⟩⟩⟩⟩⟩⟩⟩⟩⟩⟩⟩⟩⟩⟩⟩⟩
  · exact x_iload_n_ok (show decode cX9_text 0 = .ok (.iload_n 1, 1) by decide +kernel) rfl
  · exact x_callS_ok (sX9_isText l) hw_965 hw_963 hw_964 hw_68 ⟨by decide, by decide, by decide +kernel⟩ (by decide) (by decide) (show decode cX9_text 1 = .ok (.invokestatic 89, 3) by decide +kernel)
  · exact x_ifeq_ok (show decode cX9_text 4 = .ok (.ifCond .eq 9, 3) by decide +kernel) (by decide)
  · exact x_iload_n_ok (show decode cX9_text 7 = .ok (.iload_n 2, 1) by decide +kernel) rfl
  · exact x_bipush_ok (show decode cX9_text 8 = .ok (.bipush 80, 2) by decide +kernel) (by decide)
  · exact x_cmple_ok (show decode cX9_text 10 = .ok (.if_icmp .le 5, 3) by decide +kernel) (by decide)
  · exact x_iconst_ok (show decode cX9_text 13 = .ok (.iconst (-1), 1) by decide +kernel) (by decide)
  · exact x_iret_ok (show decode cX9_text 14 = .ok (.ireturn, 1) by decide +kernel)
  · exact x_iload_n_ok (show decode cX9_text 15 = .ok (.iload_n 2, 1) by decide +kernel) rfl
  · exact x_ifge_ok (show decode cX9_text 16 = .ok (.ifCond .ge 9, 3) by decide +kernel) (by decide)
  · exact x_aload_n_ok (show decode cX9_text 19 = .ok (.aload_n 0, 1) by decide +kernel) rfl
  · exact x_iconst_ok (show decode cX9_text 20 = .ok (.iconst 5, 1) by decide +kernel) (by decide)
  · exact x_callV_ok (ci := 7) rfl (by decide) (sX9_find l) hw_922 hw_919 hw_921 hw_18 hw_68 ⟨by decide, by decide, by decide +kernel⟩ rfl (by decide) (by decide) (show decode cX9_text 21 = .ok (.invokevirtual 70, 3) by decide +kernel)
  · exact x_iret_ok (show decode cX9_text 24 = .ok (.ireturn, 1) by decide +kernel)
  · exact x_aload_n_ok (show decode cX9_text 25 = .ok (.aload_n 0, 1) by decide +kernel) rfl
  · exact x_getR_ok (ci := 7) (k := 3) rfl (by decide) (by decide) hw_847 (show decode cX9_text 26 = .ok (.getfield 19, 3) by decide +kernel)
  · exact x_iload_n_ok (show decode cX9_text 29 = .ok (.iload_n 1, 1) by decide +kernel) rfl
  · exact x_iload_n_ok (show decode cX9_text 30 = .ok (.iload_n 2, 1) by decide +kernel) rfl
  · exact x_iast_ok (show decode cX9_text 31 = .ok (.iastore, 1) by decide +kernel)
  · exact x_iconst_ok (show decode cX9_text 32 = .ok (.iconst 0, 1) by decide +kernel) (by decide)
  · exact x_istore_n_ok (show decode cX9_text 33 = .ok (.istore_n 3, 1) by decide +kernel) rfl (by decide)
  · exact x_iload_n_ok (show decode cX9_text 34 = .ok (.iload_n 3, 1) by decide +kernel) rfl
  · exact x_bipush_ok (show decode cX9_text 35 = .ok (.bipush 80, 2) by decide +kernel) (by decide)
  · exact x_cmpge_ok (show decode cX9_text 37 = .ok (.if_icmp .ge 22, 3) by decide +kernel) (by decide)
  · exact x_aload_n_ok (show decode cX9_text 40 = .ok (.aload_n 0, 1) by decide +kernel) rfl
  · exact x_getR_ok (ci := 7) (k := 4) rfl (by decide) (by decide) hw_848 (show decode cX9_text 41 = .ok (.getfield 22, 3) by decide +kernel)
  · exact x_bipush_ok (show decode cX9_text 44 = .ok (.bipush 80, 2) by decide +kernel) (by decide)
  · exact x_iload_n_ok (show decode cX9_text 46 = .ok (.iload_n 1, 1) by decide +kernel) rfl
  · exact x_imul_ok (show decode cX9_text 47 = .ok (.imul, 1) by decide +kernel)
  · exact x_iload_n_ok (show decode cX9_text 48 = .ok (.iload_n 3, 1) by decide +kernel) rfl
  · exact x_iadd_ok (show decode cX9_text 49 = .ok (.iadd, 1) by decide +kernel)
  · exact x_bipush_ok (show decode cX9_text 50 = .ok (.bipush 32, 2) by decide +kernel) (by decide)
  · exact x_iast_ok (show decode cX9_text 52 = .ok (.iastore, 1) by decide +kernel)
  · exact x_iinc_ok (show decode cX9_text 53 = .ok (.iinc 3 1, 3) by decide +kernel) (by decide) (by decide)
  · exact x_goto_ok (show decode cX9_text 56 = .ok (.goto (-22), 3) by decide +kernel) (by decide)
  · exact x_iload_n_ok (show decode cX9_text 59 = .ok (.iload_n 2, 1) by decide +kernel) rfl
  · exact x_iret_ok (show decode cX9_text 60 = .ok (.ireturn, 1) by decide +kernel)
noncomputable def FX9_text : List Value → xS → Option xR := xden tX9_text 4 (some .int) 0
theorem sX9_text (l : Launch) : xSound l yX9_text cX9_text 4 (some .int) 3 0 FX9_text := x_den (by decide) (tX9_text_ok l)
noncomputable def tX7_isThere : List (Nat × xO) := [(0, x_aload 0 1), (1, x_getI 5 1), (4, x_iflt 11), (7, x_push (.int (nI 1)) 1), (8, x_goto 12), (11, x_push (.int (nI 0)) 1), (12, x_iret)]
set_option maxRecDepth 100000 in
theorem tX7_isThere_ok (l : Launch) : ∀ q ∈ tX7_isThere, xOK l cX7_isThere RX7 1 1 0 (yX7_isThere.name = "<init>") q.1 q.2 := by
  unfold tX7_isThere
  refine List.forall_mem_cons.mpr ⟨?_, List.forall_mem_cons.mpr ⟨?_, List.forall_mem_cons.mpr ⟨?_, List.forall_mem_cons.mpr ⟨?_, List.forall_mem_cons.mpr ⟨?_, List.forall_mem_cons.mpr ⟨?_, List.forall_mem_cons.mpr ⟨?_, fun _ h => absurd h List.not_mem_nil⟩⟩⟩⟩⟩⟩⟩
  · exact x_aload_n_ok (show decode cX7_isThere 0 = .ok (.aload_n 0, 1) by decide +kernel) rfl
  · exact x_getI_ok (ci := 5) (k := 1) rfl (by decide) (by decide) hw_116 (show decode cX7_isThere 1 = .ok (.getfield 15, 3) by decide +kernel)
  · exact x_iflt_ok (show decode cX7_isThere 4 = .ok (.ifCond .lt 7, 3) by decide +kernel) (by decide)
  · exact x_iconst_ok (show decode cX7_isThere 7 = .ok (.iconst 1, 1) by decide +kernel) (by decide)
  · exact x_goto_ok (show decode cX7_isThere 8 = .ok (.goto 4, 3) by decide +kernel) (by decide)
  · exact x_iconst_ok (show decode cX7_isThere 11 = .ok (.iconst 0, 1) by decide +kernel) (by decide)
  · exact x_iret_ok (show decode cX7_isThere 12 = .ok (.ireturn, 1) by decide +kernel)
noncomputable def FX7_isThere : List Value → xS → Option xR := xden tX7_isThere 1 (some .boolean) 0
theorem sX7_isThere (l : Launch) : xSound l yX7_isThere cX7_isThere 1 (some .boolean) 1 0 FX7_isThere := x_den (by decide) (tX7_isThere_ok l)
noncomputable def tX8_refusalOfText : List (Nat × xO) := [(0, x_iload 1 1), (1, x_push (.int (nI 4)) 1), (2, x_call 0 2 FX8_among), (5, x_ifne 10), (8, x_push (.int (-1)) 1), (9, x_iret), (10, x_aload 0 1), (11, x_getR 6 1), (14, x_iload 1 1), (15, x_aald), (16, x_callV 5 0 1 FX7_isThere), (19, x_ifeq 26), (22, x_push (.int (nI 0)) 1), (23, x_goto 31), (26, x_aload 0 1), (27, x_push (.int (nI 1)) 1), (28, x_callV 6 0 2 FX8_findingOf), (31, x_iret)]
set_option maxRecDepth 100000 in
theorem tX8_refusalOfText_ok (l : Launch) : ∀ q ∈ tX8_refusalOfText, xOK l cX8_refusalOfText RX8 2 2 0 (yX8_refusalOfText.name = "<init>") q.1 q.2 := by
  unfold tX8_refusalOfText
  refine List.forall_mem_cons.mpr ⟨?_, List.forall_mem_cons.mpr ⟨?_, List.forall_mem_cons.mpr ⟨?_, List.forall_mem_cons.mpr ⟨?_, List.forall_mem_cons.mpr ⟨?_, List.forall_mem_cons.mpr ⟨?_, List.forall_mem_cons.mpr ⟨?_, List.forall_mem_cons.mpr ⟨?_, List.forall_mem_cons.mpr ⟨?_, List.forall_mem_cons.mpr ⟨?_, List.forall_mem_cons.mpr ⟨?_, List.forall_mem_cons.mpr ⟨?_, List.forall_mem_cons.mpr ⟨?_, List.forall_mem_cons.mpr ⟨?_, List.forall_mem_cons.mpr ⟨?_, List.forall_mem_cons.mpr ⟨?_, List.forall_mem_cons.mpr ⟨?_, List.forall_mem_cons.mpr ⟨?_, fun _ h => absurd h List.not_mem_nil⟩⟩⟩⟩⟩⟩⟩⟩⟩⟩⟩⟩⟩⟩⟩⟩⟩⟩
  · exact x_iload_n_ok (show decode cX8_refusalOfText 0 = .ok (.iload_n 1, 1) by decide +kernel) rfl
  · exact x_iconst_ok (show decode cX8_refusalOfText 1 = .ok (.iconst 4, 1) by decide +kernel) (by decide)
  · exact x_callS_ok (sX8_among l) hw_268 hw_266 hw_267 hw_61 ⟨by decide, by decide, by decide +kernel⟩ (by decide) (by decide) (show decode cX8_refusalOfText 2 = .ok (.invokestatic 65, 3) by decide +kernel)
  · exact x_ifne_ok (show decode cX8_refusalOfText 5 = .ok (.ifCond .ne 5, 3) by decide +kernel) (by decide)
  · exact x_iconst_ok (show decode cX8_refusalOfText 8 = .ok (.iconst (-1), 1) by decide +kernel) (by decide)
  · exact x_iret_ok (show decode cX8_refusalOfText 9 = .ok (.ireturn, 1) by decide +kernel)
  · exact x_aload_n_ok (show decode cX8_refusalOfText 10 = .ok (.aload_n 0, 1) by decide +kernel) rfl
  · exact x_getR_ok (ci := 6) (k := 1) rfl (by decide) (by decide) hw_223 (show decode cX8_refusalOfText 11 = .ok (.getfield 18, 3) by decide +kernel)
  · exact x_iload_n_ok (show decode cX8_refusalOfText 14 = .ok (.iload_n 1, 1) by decide +kernel) rfl
  · exact x_aald_ok (show decode cX8_refusalOfText 15 = .ok (.aaload, 1) by decide +kernel)
  · exact x_callV_ok (ci := 5) rfl (by decide) (sX7_isThere l) hw_343 hw_340 hw_341 hw_342 hw_63 ⟨by decide, by decide, by decide +kernel⟩ rfl (by decide) (by decide) (show decode cX8_refusalOfText 16 = .ok (.invokevirtual 322, 3) by decide +kernel)
  · exact x_ifeq_ok (show decode cX8_refusalOfText 19 = .ok (.ifCond .eq 7, 3) by decide +kernel) (by decide)
  · exact x_iconst_ok (show decode cX8_refusalOfText 22 = .ok (.iconst 0, 1) by decide +kernel) (by decide)
  · exact x_goto_ok (show decode cX8_refusalOfText 23 = .ok (.goto 8, 3) by decide +kernel) (by decide)
  · exact x_aload_n_ok (show decode cX8_refusalOfText 26 = .ok (.aload_n 0, 1) by decide +kernel) rfl
  · exact x_iconst_ok (show decode cX8_refusalOfText 27 = .ok (.iconst 1, 1) by decide +kernel) (by decide)
  · exact x_callV_ok (ci := 6) rfl (by decide) (sX8_findingOf l) hw_272 hw_269 hw_271 hw_0 hw_61 ⟨by decide, by decide, by decide +kernel⟩ rfl (by decide) (by decide) (show decode cX8_refusalOfText 28 = .ok (.invokevirtual 69, 3) by decide +kernel)
  · exact x_iret_ok (show decode cX8_refusalOfText 31 = .ok (.ireturn, 1) by decide +kernel)
noncomputable def FX8_refusalOfText : List Value → xS → Option xR := xden tX8_refusalOfText 2 (some .int) 0
theorem sX8_refusalOfText (l : Launch) : xSound l yX8_refusalOfText cX8_refusalOfText 2 (some .int) 2 0 FX8_refusalOfText := x_den (by decide) (tX8_refusalOfText_ok l)
noncomputable def tX8_put : List (Nat × xO) := [(0, x_aload 0 1), (1, x_iload 1 1), (2, x_callV 6 0 2 FX8_refusalOfText), (5, x_istore 4 2), (7, x_iload 4 2), (9, x_ifeq 15), (12, x_iload 4 2), (14, x_iret), (15, x_iload 2 1), (16, x_aload 0 1), (17, x_getR 6 1), (20, x_iload 1 1), (21, x_aald), (22, x_getI 5 1), (25, x_call 0 2 FX8_among), (28, x_ifne 37), (31, x_aload 0 1), (32, x_push (.int (nI 2)) 1), (33, x_callV 6 0 2 FX8_findingOf), (36, x_iret), (37, x_aload 0 1), (38, x_getR 6 1), (41, x_iload 1 1), (42, x_aald), (43, x_getR 5 0), (46, x_iload 2 1), (47, x_bald), (48, x_istore 5 2), (50, x_aload 0 1), (51, x_getR 6 1), (54, x_iload 1 1), (55, x_aald), (56, x_getR 5 0), (59, x_iload 2 1), (60, x_iload 3 1), (61, x_i (fun x => x.toInt8.toInt32)), (62, x_bastB), (63, x_iload 5 2), (65, x_push (.int (nI 1000)) 3), (68, x_ii (fun x y => x + y)), (69, x_iret)]
set_option maxRecDepth 100000 in
theorem tX8_put_ok (l : Launch) : ∀ q ∈ tX8_put, xOK l cX8_put RX8 6 3 0 (yX8_put.name = "<init>") q.1 q.2 := by
  unfold tX8_put
  refine List.forall_mem_cons.mpr ⟨?_, List.forall_mem_cons.mpr ⟨?_, List.forall_mem_cons.mpr ⟨?_, List.forall_mem_cons.mpr ⟨?_, List.forall_mem_cons.mpr ⟨?_, List.forall_mem_cons.mpr ⟨?_, List.forall_mem_cons.mpr ⟨?_, List.forall_mem_cons.mpr ⟨?_, List.forall_mem_cons.mpr ⟨?_, List.forall_mem_cons.mpr ⟨?_, List.forall_mem_cons.mpr ⟨?_, List.forall_mem_cons.mpr ⟨?_, List.forall_mem_cons.mpr ⟨?_, List.forall_mem_cons.mpr ⟨?_, List.forall_mem_cons.mpr ⟨?_, List.forall_mem_cons.mpr ⟨?_, List.forall_mem_cons.mpr ⟨?_, List.forall_mem_cons.mpr ⟨?_, List.forall_mem_cons.mpr ⟨?_, List.forall_mem_cons.mpr ⟨?_, List.forall_mem_cons.mpr ⟨?_, List.forall_mem_cons.mpr ⟨?_, List.forall_mem_cons.mpr ⟨?_, List.forall_mem_cons.mpr ⟨?_, List.forall_mem_cons.mpr ⟨?_, List.forall_mem_cons.mpr ⟨?_, List.forall_mem_cons.mpr ⟨?_, List.forall_mem_cons.mpr ⟨?_, List.forall_mem_cons.mpr ⟨?_, List.forall_mem_cons.mpr ⟨?_, List.forall_mem_cons.mpr ⟨?_, List.forall_mem_cons.mpr ⟨?_, List.forall_mem_cons.mpr ⟨?_, List.forall_mem_cons.mpr ⟨?_, List.forall_mem_cons.mpr ⟨?_, List.forall_mem_cons.mpr ⟨?_, List.forall_mem_cons.mpr ⟨?_, List.forall_mem_cons.mpr ⟨?_, List.forall_mem_cons.mpr ⟨?_, List.forall_mem_cons.mpr ⟨?_, List.forall_mem_cons.mpr ⟨?_, fun _ h => absurd h List.not_mem_nil⟩⟩⟩⟩⟩⟩⟩⟩⟩⟩⟩⟩⟩⟩⟩⟩⟩⟩⟩⟩⟩⟩⟩⟩⟩⟩⟩⟩⟩⟩⟩⟩⟩⟩⟩⟩⟩⟩⟩⟩⟩
  · exact x_aload_n_ok (show decode cX8_put 0 = .ok (.aload_n 0, 1) by decide +kernel) rfl
  · exact x_iload_n_ok (show decode cX8_put 1 = .ok (.iload_n 1, 1) by decide +kernel) rfl
  · exact x_callV_ok (ci := 6) rfl (by decide) (sX8_refusalOfText l) hw_339 hw_336 hw_338 hw_3 hw_61 ⟨by decide, by decide, by decide +kernel⟩ rfl (by decide) (by decide) (show decode cX8_put 2 = .ok (.invokevirtual 115, 3) by decide +kernel)
  · exact x_istore_ok (show decode cX8_put 5 = .ok (.istore 4, 2) by decide +kernel) (by decide)
  · exact x_iload_ok (show decode cX8_put 7 = .ok (.iload 4, 2) by decide +kernel)
  · exact x_ifeq_ok (show decode cX8_put 9 = .ok (.ifCond .eq 6, 3) by decide +kernel) (by decide)
  · exact x_iload_ok (show decode cX8_put 12 = .ok (.iload 4, 2) by decide +kernel)
  · exact x_iret_ok (show decode cX8_put 14 = .ok (.ireturn, 1) by decide +kernel)
  · exact x_iload_n_ok (show decode cX8_put 15 = .ok (.iload_n 2, 1) by decide +kernel) rfl
  · exact x_aload_n_ok (show decode cX8_put 16 = .ok (.aload_n 0, 1) by decide +kernel) rfl
  · exact x_getR_ok (ci := 6) (k := 1) rfl (by decide) (by decide) hw_223 (show decode cX8_put 17 = .ok (.getfield 18, 3) by decide +kernel)
  · exact x_iload_n_ok (show decode cX8_put 20 = .ok (.iload_n 1, 1) by decide +kernel) rfl
  · exact x_aald_ok (show decode cX8_put 21 = .ok (.aaload, 1) by decide +kernel)
  · exact x_getI_ok (ci := 5) (k := 1) rfl (by decide) (by decide) hw_117 (show decode cX8_put 22 = .ok (.getfield 118, 3) by decide +kernel)
  · exact x_callS_ok (sX8_among l) hw_268 hw_266 hw_267 hw_61 ⟨by decide, by decide, by decide +kernel⟩ (by decide) (by decide) (show decode cX8_put 25 = .ok (.invokestatic 65, 3) by decide +kernel)
  · exact x_ifne_ok (show decode cX8_put 28 = .ok (.ifCond .ne 9, 3) by decide +kernel) (by decide)
  · exact x_aload_n_ok (show decode cX8_put 31 = .ok (.aload_n 0, 1) by decide +kernel) rfl
  · exact x_iconst_ok (show decode cX8_put 32 = .ok (.iconst 2, 1) by decide +kernel) (by decide)
  · exact x_callV_ok (ci := 6) rfl (by decide) (sX8_findingOf l) hw_272 hw_269 hw_271 hw_0 hw_61 ⟨by decide, by decide, by decide +kernel⟩ rfl (by decide) (by decide) (show decode cX8_put 33 = .ok (.invokevirtual 69, 3) by decide +kernel)
  · exact x_iret_ok (show decode cX8_put 36 = .ok (.ireturn, 1) by decide +kernel)
  · exact x_aload_n_ok (show decode cX8_put 37 = .ok (.aload_n 0, 1) by decide +kernel) rfl
  · exact x_getR_ok (ci := 6) (k := 1) rfl (by decide) (by decide) hw_223 (show decode cX8_put 38 = .ok (.getfield 18, 3) by decide +kernel)
  · exact x_iload_n_ok (show decode cX8_put 41 = .ok (.iload_n 1, 1) by decide +kernel) rfl
  · exact x_aald_ok (show decode cX8_put 42 = .ok (.aaload, 1) by decide +kernel)
  · exact x_getR_ok (ci := 5) (k := 0) rfl (by decide) (by decide) hw_115 (show decode cX8_put 43 = .ok (.getfield 119, 3) by decide +kernel)
  · exact x_iload_n_ok (show decode cX8_put 46 = .ok (.iload_n 2, 1) by decide +kernel) rfl
  · exact x_bald_ok (show decode cX8_put 47 = .ok (.baload, 1) by decide +kernel)
  · exact x_istore_ok (show decode cX8_put 48 = .ok (.istore 5, 2) by decide +kernel) (by decide)
  · exact x_aload_n_ok (show decode cX8_put 50 = .ok (.aload_n 0, 1) by decide +kernel) rfl
  · exact x_getR_ok (ci := 6) (k := 1) rfl (by decide) (by decide) hw_223 (show decode cX8_put 51 = .ok (.getfield 18, 3) by decide +kernel)
  · exact x_iload_n_ok (show decode cX8_put 54 = .ok (.iload_n 1, 1) by decide +kernel) rfl
  · exact x_aald_ok (show decode cX8_put 55 = .ok (.aaload, 1) by decide +kernel)
  · exact x_getR_ok (ci := 5) (k := 0) rfl (by decide) (by decide) hw_115 (show decode cX8_put 56 = .ok (.getfield 119, 3) by decide +kernel)
  · exact x_iload_n_ok (show decode cX8_put 59 = .ok (.iload_n 2, 1) by decide +kernel) rfl
  · exact x_iload_n_ok (show decode cX8_put 60 = .ok (.iload_n 3, 1) by decide +kernel) rfl
  · exact x_i2b_ok (show decode cX8_put 61 = .ok (.i2b, 1) by decide +kernel)
  · exact x_bastB_ok (show decode cX8_put 62 = .ok (.bastore, 1) by decide +kernel)
  · exact x_iload_ok (show decode cX8_put 63 = .ok (.iload 5, 2) by decide +kernel)
  · exact x_sipush_ok (show decode cX8_put 65 = .ok (.sipush 1000, 3) by decide +kernel) (by decide)
  · exact x_iadd_ok (show decode cX8_put 68 = .ok (.iadd, 1) by decide +kernel)
  · exact x_iret_ok (show decode cX8_put 69 = .ok (.ireturn, 1) by decide +kernel)
noncomputable def FX8_put : List Value → xS → Option xR := xden tX8_put 6 (some .int) 0
theorem sX8_put (l : Launch) : xSound l yX8_put cX8_put 6 (some .int) 3 0 FX8_put := x_den (by decide) (tX8_put_ok l)
noncomputable def tX9_put : List (Nat × xO) := [(0, x_iload 1 1), (1, x_call 0 1 FX9_isText), (4, x_ifne 9), (7, x_push (.int (-1)) 1), (8, x_iret), (9, x_aload 0 1), (10, x_getR 7 3), (13, x_iload 1 1), (14, x_iald), (15, x_ifge 24), (18, x_aload 0 1), (19, x_push (.int (nI 1)) 1), (20, x_callV 7 0 2 FX9_find), (23, x_iret), (24, x_iload 2 1), (25, x_i2l), (26, x_push (.long 0) 1), (27, x_aload 0 1), (28, x_getR 7 3), (31, x_iload 1 1), (32, x_iald), (33, x_push (.int (nI 1)) 1), (34, x_ii (fun x y => x - y)), (35, x_i2l), (36, x_call 0 3 FX9_in), (39, x_ifne 48), (42, x_aload 0 1), (43, x_push (.int (nI 2)) 1), (44, x_callV 7 0 2 FX9_find), (47, x_iret), (48, x_aload 0 1), (49, x_getR 7 4), (52, x_push (.int (nI 80)) 2), (54, x_iload 1 1), (55, x_ii (fun x y => x * y)), (56, x_iload 2 1), (57, x_ii (fun x y => x + y)), (58, x_iald), (59, x_istore 4 2), (61, x_aload 0 1), (62, x_getR 7 4), (65, x_push (.int (nI 80)) 2), (67, x_iload 1 1), (68, x_ii (fun x y => x * y)), (69, x_iload 2 1), (70, x_ii (fun x y => x + y)), (71, x_iload 3 1), (72, x_i (fun x => x.toInt8.toInt32)), (73, x_iast), (74, x_iload 4 2), (76, x_push (.int (nI 1000)) 3), (79, x_ii (fun x y => x + y)), (80, x_iret)]
set_option maxRecDepth 100000 in
theorem tX9_put_ok (l : Launch) : ∀ q ∈ tX9_put, xOK l cX9_put RX9 5 3 0 (yX9_put.name = "<init>") q.1 q.2 := by
  unfold tX9_put
  refine List.forall_mem_cons.mpr ⟨?_, List.forall_mem_cons.mpr ⟨?_, List.forall_mem_cons.mpr ⟨?_, List.forall_mem_cons.mpr ⟨?_, List.forall_mem_cons.mpr ⟨?_, List.forall_mem_cons.mpr ⟨?_, List.forall_mem_cons.mpr ⟨?_, List.forall_mem_cons.mpr ⟨?_, List.forall_mem_cons.mpr ⟨?_, List.forall_mem_cons.mpr ⟨?_, List.forall_mem_cons.mpr ⟨?_, List.forall_mem_cons.mpr ⟨?_, List.forall_mem_cons.mpr ⟨?_, List.forall_mem_cons.mpr ⟨?_, List.forall_mem_cons.mpr ⟨?_, List.forall_mem_cons.mpr ⟨?_, List.forall_mem_cons.mpr ⟨?_, List.forall_mem_cons.mpr ⟨?_, List.forall_mem_cons.mpr ⟨?_, List.forall_mem_cons.mpr ⟨?_, List.forall_mem_cons.mpr ⟨?_, List.forall_mem_cons.mpr ⟨?_, List.forall_mem_cons.mpr ⟨?_, List.forall_mem_cons.mpr ⟨?_, List.forall_mem_cons.mpr ⟨?_, List.forall_mem_cons.mpr ⟨?_, List.forall_mem_cons.mpr ⟨?_, List.forall_mem_cons.mpr ⟨?_, List.forall_mem_cons.mpr ⟨?_, List.forall_mem_cons.mpr ⟨?_, List.forall_mem_cons.mpr ⟨?_, List.forall_mem_cons.mpr ⟨?_, List.forall_mem_cons.mpr ⟨?_, List.forall_mem_cons.mpr ⟨?_, List.forall_mem_cons.mpr ⟨?_, List.forall_mem_cons.mpr ⟨?_, List.forall_mem_cons.mpr ⟨?_, List.forall_mem_cons.mpr ⟨?_, List.forall_mem_cons.mpr ⟨?_, List.forall_mem_cons.mpr ⟨?_, List.forall_mem_cons.mpr ⟨?_, List.forall_mem_cons.mpr ⟨?_, List.forall_mem_cons.mpr ⟨?_, List.forall_mem_cons.mpr ⟨?_, List.forall_mem_cons.mpr ⟨?_, List.forall_mem_cons.mpr ⟨?_, List.forall_mem_cons.mpr ⟨?_, List.forall_mem_cons.mpr ⟨?_, List.forall_mem_cons.mpr ⟨?_, List.forall_mem_cons.mpr ⟨?_, List.forall_mem_cons.mpr ⟨?_, List.forall_mem_cons.mpr ⟨?_, List.forall_mem_cons.mpr ⟨?_, fun _ h => absurd h List.not_mem_nil⟩⟩⟩⟩⟩⟩⟩⟩⟩⟩⟩⟩⟩⟩⟩⟩⟩⟩⟩⟩⟩⟩⟩⟩⟩⟩⟩⟩⟩⟩⟩⟩⟩⟩⟩⟩⟩⟩⟩⟩⟩⟩⟩⟩⟩⟩⟩⟩⟩⟩⟩⟩⟩
  · exact x_iload_n_ok (show decode cX9_put 0 = .ok (.iload_n 1, 1) by decide +kernel) rfl
  · exact x_callS_ok (sX9_isText l) hw_965 hw_963 hw_964 hw_68 ⟨by decide, by decide, by decide +kernel⟩ (by decide) (by decide) (show decode cX9_put 1 = .ok (.invokestatic 89, 3) by decide +kernel)
  · exact x_ifne_ok (show decode cX9_put 4 = .ok (.ifCond .ne 5, 3) by decide +kernel) (by decide)
  · exact x_iconst_ok (show decode cX9_put 7 = .ok (.iconst (-1), 1) by decide +kernel) (by decide)
  · exact x_iret_ok (show decode cX9_put 8 = .ok (.ireturn, 1) by decide +kernel)
  · exact x_aload_n_ok (show decode cX9_put 9 = .ok (.aload_n 0, 1) by decide +kernel) rfl
  · exact x_getR_ok (ci := 7) (k := 3) rfl (by decide) (by decide) hw_847 (show decode cX9_put 10 = .ok (.getfield 19, 3) by decide +kernel)
  · exact x_iload_n_ok (show decode cX9_put 13 = .ok (.iload_n 1, 1) by decide +kernel) rfl
  · exact x_iald_ok (show decode cX9_put 14 = .ok (.iaload, 1) by decide +kernel)
  · exact x_ifge_ok (show decode cX9_put 15 = .ok (.ifCond .ge 9, 3) by decide +kernel) (by decide)
  · exact x_aload_n_ok (show decode cX9_put 18 = .ok (.aload_n 0, 1) by decide +kernel) rfl
  · exact x_iconst_ok (show decode cX9_put 19 = .ok (.iconst 1, 1) by decide +kernel) (by decide)
  · exact x_callV_ok (ci := 7) rfl (by decide) (sX9_find l) hw_922 hw_919 hw_921 hw_18 hw_68 ⟨by decide, by decide, by decide +kernel⟩ rfl (by decide) (by decide) (show decode cX9_put 20 = .ok (.invokevirtual 70, 3) by decide +kernel)
  · exact x_iret_ok (show decode cX9_put 23 = .ok (.ireturn, 1) by decide +kernel)
  · exact x_iload_n_ok (show decode cX9_put 24 = .ok (.iload_n 2, 1) by decide +kernel) rfl
  · exact x_i2l_ok (show decode cX9_put 25 = .ok (.i2l, 1) by decide +kernel)
  · exact x_lconst_ok (show decode cX9_put 26 = .ok (.lconst 0, 1) by decide +kernel) rfl
  · exact x_aload_n_ok (show decode cX9_put 27 = .ok (.aload_n 0, 1) by decide +kernel) rfl
  · exact x_getR_ok (ci := 7) (k := 3) rfl (by decide) (by decide) hw_847 (show decode cX9_put 28 = .ok (.getfield 19, 3) by decide +kernel)
  · exact x_iload_n_ok (show decode cX9_put 31 = .ok (.iload_n 1, 1) by decide +kernel) rfl
  · exact x_iald_ok (show decode cX9_put 32 = .ok (.iaload, 1) by decide +kernel)
  · exact x_iconst_ok (show decode cX9_put 33 = .ok (.iconst 1, 1) by decide +kernel) (by decide)
  · exact x_isub_ok (show decode cX9_put 34 = .ok (.isub, 1) by decide +kernel)
  · exact x_i2l_ok (show decode cX9_put 35 = .ok (.i2l, 1) by decide +kernel)
  · exact x_callS_ok (sX9_in l) hw_918 hw_916 hw_917 hw_68 ⟨by decide, by decide, by decide +kernel⟩ (by decide) (by decide) (show decode cX9_put 36 = .ok (.invokestatic 60, 3) by decide +kernel)
  · exact x_ifne_ok (show decode cX9_put 39 = .ok (.ifCond .ne 9, 3) by decide +kernel) (by decide)
  · exact x_aload_n_ok (show decode cX9_put 42 = .ok (.aload_n 0, 1) by decide +kernel) rfl
  · exact x_iconst_ok (show decode cX9_put 43 = .ok (.iconst 2, 1) by decide +kernel) (by decide)
  · exact x_callV_ok (ci := 7) rfl (by decide) (sX9_find l) hw_922 hw_919 hw_921 hw_18 hw_68 ⟨by decide, by decide, by decide +kernel⟩ rfl (by decide) (by decide) (show decode cX9_put 44 = .ok (.invokevirtual 70, 3) by decide +kernel)
  · exact x_iret_ok (show decode cX9_put 47 = .ok (.ireturn, 1) by decide +kernel)
  · exact x_aload_n_ok (show decode cX9_put 48 = .ok (.aload_n 0, 1) by decide +kernel) rfl
  · exact x_getR_ok (ci := 7) (k := 4) rfl (by decide) (by decide) hw_848 (show decode cX9_put 49 = .ok (.getfield 22, 3) by decide +kernel)
  · exact x_bipush_ok (show decode cX9_put 52 = .ok (.bipush 80, 2) by decide +kernel) (by decide)
  · exact x_iload_n_ok (show decode cX9_put 54 = .ok (.iload_n 1, 1) by decide +kernel) rfl
  · exact x_imul_ok (show decode cX9_put 55 = .ok (.imul, 1) by decide +kernel)
  · exact x_iload_n_ok (show decode cX9_put 56 = .ok (.iload_n 2, 1) by decide +kernel) rfl
  · exact x_iadd_ok (show decode cX9_put 57 = .ok (.iadd, 1) by decide +kernel)
  · exact x_iald_ok (show decode cX9_put 58 = .ok (.iaload, 1) by decide +kernel)
  · exact x_istore_ok (show decode cX9_put 59 = .ok (.istore 4, 2) by decide +kernel) (by decide)
  · exact x_aload_n_ok (show decode cX9_put 61 = .ok (.aload_n 0, 1) by decide +kernel) rfl
  · exact x_getR_ok (ci := 7) (k := 4) rfl (by decide) (by decide) hw_848 (show decode cX9_put 62 = .ok (.getfield 22, 3) by decide +kernel)
  · exact x_bipush_ok (show decode cX9_put 65 = .ok (.bipush 80, 2) by decide +kernel) (by decide)
  · exact x_iload_n_ok (show decode cX9_put 67 = .ok (.iload_n 1, 1) by decide +kernel) rfl
  · exact x_imul_ok (show decode cX9_put 68 = .ok (.imul, 1) by decide +kernel)
  · exact x_iload_n_ok (show decode cX9_put 69 = .ok (.iload_n 2, 1) by decide +kernel) rfl
  · exact x_iadd_ok (show decode cX9_put 70 = .ok (.iadd, 1) by decide +kernel)
  · exact x_iload_n_ok (show decode cX9_put 71 = .ok (.iload_n 3, 1) by decide +kernel) rfl
  · exact x_i2b_ok (show decode cX9_put 72 = .ok (.i2b, 1) by decide +kernel)
  · exact x_iast_ok (show decode cX9_put 73 = .ok (.iastore, 1) by decide +kernel)
  · exact x_iload_ok (show decode cX9_put 74 = .ok (.iload 4, 2) by decide +kernel)
  · exact x_sipush_ok (show decode cX9_put 76 = .ok (.sipush 1000, 3) by decide +kernel) (by decide)
  · exact x_iadd_ok (show decode cX9_put 79 = .ok (.iadd, 1) by decide +kernel)
  · exact x_iret_ok (show decode cX9_put 80 = .ok (.ireturn, 1) by decide +kernel)
noncomputable def FX9_put : List Value → xS → Option xR := xden tX9_put 5 (some .int) 0
theorem sX9_put (l : Launch) : xSound l yX9_put cX9_put 5 (some .int) 3 0 FX9_put := x_den (by decide) (tX9_put_ok l)
noncomputable def tJ0_coder_7d493 : List (Nat × xO) := [(0, x_push (.int 1) 3), (3, x_ifeq 13), (6, x_aload 0 1), (7, x_strC), (10, x_goto 14), (13, x_push (.int (nI 1)) 1), (14, x_iret)]
set_option maxRecDepth 100000 in
theorem tJ0_coder_7d493_ok (l : Launch) : ∀ q ∈ tJ0_coder_7d493, xOK l cJ0_coder_7d493 RJ0 1 1 0 (yJ0_coder_7d493.name = "<init>") q.1 q.2 := by
  unfold tJ0_coder_7d493
  refine List.forall_mem_cons.mpr ⟨?_, List.forall_mem_cons.mpr ⟨?_, List.forall_mem_cons.mpr ⟨?_, List.forall_mem_cons.mpr ⟨?_, List.forall_mem_cons.mpr ⟨?_, List.forall_mem_cons.mpr ⟨?_, List.forall_mem_cons.mpr ⟨?_, fun _ h => absurd h List.not_mem_nil⟩⟩⟩⟩⟩⟩⟩
  · exact x_gsC_ok hw_371 (show decode cJ0_coder_7d493 0 = .ok (.getstatic 38, 3) by decide +kernel)
  · exact x_ifeq_ok (show decode cJ0_coder_7d493 3 = .ok (.ifCond .eq 10, 3) by decide +kernel) (by decide)
  · exact x_aload_n_ok (show decode cJ0_coder_7d493 6 = .ok (.aload_n 0, 1) by decide +kernel) rfl
  · exact x_strC_ok hw_1325 (show decode cJ0_coder_7d493 7 = .ok (.getfield 15, 3) by decide +kernel)
  · exact x_goto_ok (show decode cJ0_coder_7d493 10 = .ok (.goto 4, 3) by decide +kernel) (by decide)
  · exact x_iconst_ok (show decode cJ0_coder_7d493 13 = .ok (.iconst 1, 1) by decide +kernel) (by decide)
  · exact x_iret_ok (show decode cJ0_coder_7d493 14 = .ok (.ireturn, 1) by decide +kernel)
noncomputable def FJ0_coder_7d493 : List Value → xS → Option xR := xden tJ0_coder_7d493 1 (some .byte) 0
theorem sJ0_coder_7d493 (l : Launch) : xSound l yJ0_coder_7d493 cJ0_coder_7d493 1 (some .byte) 1 0 FJ0_coder_7d493 := x_den (by decide) (tJ0_coder_7d493_ok l)
noncomputable def tJ0_length_8abf5 : List (Nat × xO) := [(0, x_aload 0 1), (1, x_strV), (4, x_tblen), (5, x_aload 0 1), (6, x_callStr 1 FJ0_coder_7d493), (9, x_ii (fun x y => x >>> (y &&& 31))), (10, x_iret)]
set_option maxRecDepth 100000 in
theorem tJ0_length_8abf5_ok (l : Launch) : ∀ q ∈ tJ0_length_8abf5, xOK l cJ0_length_8abf5 RJ0 1 2 0 (yJ0_length_8abf5.name = "<init>") q.1 q.2 := by
  unfold tJ0_length_8abf5
  refine List.forall_mem_cons.mpr ⟨?_, List.forall_mem_cons.mpr ⟨?_, List.forall_mem_cons.mpr ⟨?_, List.forall_mem_cons.mpr ⟨?_, List.forall_mem_cons.mpr ⟨?_, List.forall_mem_cons.mpr ⟨?_, List.forall_mem_cons.mpr ⟨?_, fun _ h => absurd h List.not_mem_nil⟩⟩⟩⟩⟩⟩⟩
  · exact x_aload_n_ok (show decode cJ0_length_8abf5 0 = .ok (.aload_n 0, 1) by decide +kernel) rfl
  · exact x_strV_ok hw_1324 (show decode cJ0_length_8abf5 1 = .ok (.getfield 9, 3) by decide +kernel)
  · exact x_tblen_ok (show decode cJ0_length_8abf5 4 = .ok (.arraylength, 1) by decide +kernel)
  · exact x_aload_n_ok (show decode cJ0_length_8abf5 5 = .ok (.aload_n 0, 1) by decide +kernel) rfl
  · exact x_callStr_ok (sJ0_coder_7d493 l) hw_370 hw_367 hw_368 hw_369 hw_71 ⟨by decide, by decide, by decide +kernel⟩ rfl (by decide) (by decide) (show decode cJ0_length_8abf5 6 = .ok (.invokevirtual 335, 3) by decide +kernel)
  · exact x_ishr_ok (show decode cJ0_length_8abf5 9 = .ok (.ishr, 1) by decide +kernel)
  · exact x_iret_ok (show decode cJ0_length_8abf5 10 = .ok (.ireturn, 1) by decide +kernel)
noncomputable def FJ0_length_8abf5 : List Value → xS → Option xR := xden tJ0_length_8abf5 1 (some .int) 0
theorem sJ0_length_8abf5 (l : Launch) : xSound l yJ0_length_8abf5 cJ0_length_8abf5 1 (some .int) 2 0 FJ0_length_8abf5 := x_den (by decide) (tJ0_length_8abf5_ok l)
noncomputable def tJ0_isLatin1_aae02 : List (Nat × xO) := [(0, x_push (.int 1) 3), (3, x_ifeq 17), (6, x_aload 0 1), (7, x_strC), (10, x_ifne 17), (13, x_push (.int (nI 1)) 1), (14, x_goto 18), (17, x_push (.int (nI 0)) 1), (18, x_iret)]
set_option maxRecDepth 100000 in
theorem tJ0_isLatin1_aae02_ok (l : Launch) : ∀ q ∈ tJ0_isLatin1_aae02, xOK l cJ0_isLatin1_aae02 RJ0 1 1 0 (yJ0_isLatin1_aae02.name = "<init>") q.1 q.2 := by
  unfold tJ0_isLatin1_aae02
  refine List.forall_mem_cons.mpr ⟨?_, List.forall_mem_cons.mpr ⟨?_, List.forall_mem_cons.mpr ⟨?_, List.forall_mem_cons.mpr ⟨?_, List.forall_mem_cons.mpr ⟨?_, List.forall_mem_cons.mpr ⟨?_, List.forall_mem_cons.mpr ⟨?_, List.forall_mem_cons.mpr ⟨?_, List.forall_mem_cons.mpr ⟨?_, fun _ h => absurd h List.not_mem_nil⟩⟩⟩⟩⟩⟩⟩⟩⟩
  · exact x_gsC_ok hw_371 (show decode cJ0_isLatin1_aae02 0 = .ok (.getstatic 38, 3) by decide +kernel)
  · exact x_ifeq_ok (show decode cJ0_isLatin1_aae02 3 = .ok (.ifCond .eq 14, 3) by decide +kernel) (by decide)
  · exact x_aload_n_ok (show decode cJ0_isLatin1_aae02 6 = .ok (.aload_n 0, 1) by decide +kernel) rfl
  · exact x_strC_ok hw_1325 (show decode cJ0_isLatin1_aae02 7 = .ok (.getfield 15, 3) by decide +kernel)
  · exact x_ifne_ok (show decode cJ0_isLatin1_aae02 10 = .ok (.ifCond .ne 7, 3) by decide +kernel) (by decide)
  · exact x_iconst_ok (show decode cJ0_isLatin1_aae02 13 = .ok (.iconst 1, 1) by decide +kernel) (by decide)
  · exact x_goto_ok (show decode cJ0_isLatin1_aae02 14 = .ok (.goto 4, 3) by decide +kernel) (by decide)
  · exact x_iconst_ok (show decode cJ0_isLatin1_aae02 17 = .ok (.iconst 0, 1) by decide +kernel) (by decide)
  · exact x_iret_ok (show decode cJ0_isLatin1_aae02 18 = .ok (.ireturn, 1) by decide +kernel)
noncomputable def FJ0_isLatin1_aae02 : List Value → xS → Option xR := xden tJ0_isLatin1_aae02 1 (some .boolean) 0
theorem sJ0_isLatin1_aae02 (l : Launch) : xSound l yJ0_isLatin1_aae02 cJ0_isLatin1_aae02 1 (some .boolean) 1 0 FJ0_isLatin1_aae02 := x_den (by decide) (tJ0_isLatin1_aae02_ok l)
noncomputable def tJ0_checkIndex_df160 : List (Nat × xO) := [(0, x_iload 0 1), (1, x_iload 1 1), (2, x_chk), (9, x_vret)]
set_option maxRecDepth 100000 in
theorem tJ0_checkIndex_df160_ok (l : Launch) : ∀ q ∈ tJ0_checkIndex_df160, xOK l cJ0_checkIndex_df160 RJ0 2 1 0 (yJ0_checkIndex_df160.name = "<init>") q.1 q.2 := by
  unfold tJ0_checkIndex_df160
  refine List.forall_mem_cons.mpr ⟨?_, List.forall_mem_cons.mpr ⟨?_, List.forall_mem_cons.mpr ⟨?_, List.forall_mem_cons.mpr ⟨?_, fun _ h => absurd h List.not_mem_nil⟩⟩⟩⟩
  · exact x_iload_n_ok (show decode cJ0_checkIndex_df160 0 = .ok (.iload_n 0, 1) by decide +kernel) rfl
  · exact x_iload_n_ok (show decode cJ0_checkIndex_df160 1 = .ok (.iload_n 1, 1) by decide +kernel) rfl
  · exact x_chk_ok (by decide)
  · exact x_vret_ok (show decode cJ0_checkIndex_df160 9 = .ok (.return_, 1) by decide +kernel)
noncomputable def FJ0_checkIndex_df160 : List Value → xS → Option xR := xden tJ0_checkIndex_df160 2 none 0
theorem sJ0_checkIndex_df160 (l : Launch) : xSound l yJ0_checkIndex_df160 cJ0_checkIndex_df160 2 none 1 0 FJ0_checkIndex_df160 := x_den (by decide) (tJ0_checkIndex_df160_ok l)
noncomputable def tJ1_charAt_3b067 : List (Nat × xO) := [(0, x_iload 1 1), (1, x_aload 0 1), (2, x_tblen), (3, x_call 0 2 FJ0_checkIndex_df160), (6, x_aload 0 1), (7, x_iload 1 1), (8, x_tbald), (9, x_push (.int (nI 255)) 3), (12, x_ii (fun x y => x &&& y)), (13, x_i (fun x => (x.toUInt32 % 65536).toInt32)), (14, x_iret)]
set_option maxRecDepth 100000 in
theorem tJ1_charAt_3b067_ok (l : Launch) : ∀ q ∈ tJ1_charAt_3b067, xOK l cJ1_charAt_3b067 RJ1 2 2 0 (yJ1_charAt_3b067.name = "<init>") q.1 q.2 := by
  unfold tJ1_charAt_3b067
  refine List.forall_mem_cons.mpr ⟨?_, List.forall_mem_cons.mpr ⟨?_, List.forall_mem_cons.mpr ⟨?_, List.forall_mem_cons.mpr ⟨?_, List.forall_mem_cons.mpr ⟨?_, List.forall_mem_cons.mpr ⟨?_, List.forall_mem_cons.mpr ⟨?_, List.forall_mem_cons.mpr ⟨?_, List.forall_mem_cons.mpr ⟨?_, List.forall_mem_cons.mpr ⟨?_, List.forall_mem_cons.mpr ⟨?_, fun _ h => absurd h List.not_mem_nil⟩⟩⟩⟩⟩⟩⟩⟩⟩⟩⟩
  · exact x_iload_n_ok (show decode cJ1_charAt_3b067 0 = .ok (.iload_n 1, 1) by decide +kernel) rfl
  · exact x_aload_n_ok (show decode cJ1_charAt_3b067 1 = .ok (.aload_n 0, 1) by decide +kernel) rfl
  · exact x_tblen_ok (show decode cJ1_charAt_3b067 2 = .ok (.arraylength, 1) by decide +kernel)
  · exact x_callS_ok (sJ0_checkIndex_df160 l) hw_386 hw_384 hw_385 hw_71 ⟨by decide, by decide, by decide +kernel⟩ (by decide) (by decide) (show decode cJ1_charAt_3b067 3 = .ok (.invokestatic 9, 3) by decide +kernel)
  · exact x_aload_n_ok (show decode cJ1_charAt_3b067 6 = .ok (.aload_n 0, 1) by decide +kernel) rfl
  · exact x_iload_n_ok (show decode cJ1_charAt_3b067 7 = .ok (.iload_n 1, 1) by decide +kernel) rfl
  · exact x_tbald_ok (show decode cJ1_charAt_3b067 8 = .ok (.baload, 1) by decide +kernel)
  · exact x_sipush_ok (show decode cJ1_charAt_3b067 9 = .ok (.sipush 255, 3) by decide +kernel) (by decide)
  · exact x_iand_ok (show decode cJ1_charAt_3b067 12 = .ok (.iand, 1) by decide +kernel)
  · exact x_i2c_ok (show decode cJ1_charAt_3b067 13 = .ok (.i2c, 1) by decide +kernel)
  · exact x_iret_ok (show decode cJ1_charAt_3b067 14 = .ok (.ireturn, 1) by decide +kernel)
noncomputable def FJ1_charAt_3b067 : List Value → xS → Option xR := xden tJ1_charAt_3b067 2 (some .char) 0
theorem sJ1_charAt_3b067 (l : Launch) : xSound l yJ1_charAt_3b067 cJ1_charAt_3b067 2 (some .char) 2 0 FJ1_charAt_3b067 := x_den (by decide) (tJ1_charAt_3b067_ok l)
noncomputable def tJ0_charAt_5068e : List (Nat × xO) := [(0, x_aload 0 1), (1, x_callStr 1 FJ0_isLatin1_aae02), (4, x_ifeq 16), (7, x_aload 0 1), (8, x_strV), (11, x_iload 1 1), (12, x_call 0 2 FJ1_charAt_3b067), (15, x_iret), (16, x_aload 0 1), (17, x_strV), (20, x_iload 1 1), (24, x_iret)]
set_option maxRecDepth 100000 in
theorem tJ0_charAt_5068e_ok (l : Launch) : ∀ q ∈ tJ0_charAt_5068e, xOK l cJ0_charAt_5068e RJ0 2 3 0 (yJ0_charAt_5068e.name = "<init>") q.1 q.2 := by
  unfold tJ0_charAt_5068e
  refine List.forall_mem_cons.mpr ⟨?_, List.forall_mem_cons.mpr ⟨?_, List.forall_mem_cons.mpr ⟨?_, List.forall_mem_cons.mpr ⟨?_, List.forall_mem_cons.mpr ⟨?_, List.forall_mem_cons.mpr ⟨?_, List.forall_mem_cons.mpr ⟨?_, List.forall_mem_cons.mpr ⟨?_, List.forall_mem_cons.mpr ⟨?_, List.forall_mem_cons.mpr ⟨?_, List.forall_mem_cons.mpr ⟨?_, List.forall_mem_cons.mpr ⟨?_, fun _ h => absurd h List.not_mem_nil⟩⟩⟩⟩⟩⟩⟩⟩⟩⟩⟩⟩
  · exact x_aload_n_ok (show decode cJ0_charAt_5068e 0 = .ok (.aload_n 0, 1) by decide +kernel) rfl
  · exact x_callStr_ok (sJ0_isLatin1_aae02 l) hw_380 hw_377 hw_378 hw_379 hw_71 ⟨by decide, by decide, by decide +kernel⟩ rfl (by decide) (by decide) (show decode cJ0_charAt_5068e 1 = .ok (.invokevirtual 492, 3) by decide +kernel)
  · exact x_ifeq_ok (show decode cJ0_charAt_5068e 4 = .ok (.ifCond .eq 12, 3) by decide +kernel) (by decide)
  · exact x_aload_n_ok (show decode cJ0_charAt_5068e 7 = .ok (.aload_n 0, 1) by decide +kernel) rfl
  · exact x_strV_ok hw_1324 (show decode cJ0_charAt_5068e 8 = .ok (.getfield 9, 3) by decide +kernel)
  · exact x_iload_n_ok (show decode cJ0_charAt_5068e 11 = .ok (.iload_n 1, 1) by decide +kernel) rfl
  · exact x_callS_ok (sJ1_charAt_3b067 l) hw_383 hw_381 hw_382 hw_72 ⟨by decide, by decide, by decide +kernel⟩ (by decide) (by decide) (show decode cJ0_charAt_5068e 12 = .ok (.invokestatic 495, 3) by decide +kernel)
  · exact x_iret_ok (show decode cJ0_charAt_5068e 15 = .ok (.ireturn, 1) by decide +kernel)
  · exact x_aload_n_ok (show decode cJ0_charAt_5068e 16 = .ok (.aload_n 0, 1) by decide +kernel) rfl
  · exact x_strV_ok hw_1324 (show decode cJ0_charAt_5068e 17 = .ok (.getfield 9, 3) by decide +kernel)
  · exact x_iload_n_ok (show decode cJ0_charAt_5068e 20 = .ok (.iload_n 1, 1) by decide +kernel) rfl
  · exact x_iret_ok (show decode cJ0_charAt_5068e 24 = .ok (.ireturn, 1) by decide +kernel)
noncomputable def FJ0_charAt_5068e : List Value → xS → Option xR := xden tJ0_charAt_5068e 2 (some .char) 0
theorem sJ0_charAt_5068e (l : Launch) : xSound l yJ0_charAt_5068e cJ0_charAt_5068e 2 (some .char) 3 0 FJ0_charAt_5068e := x_den (by decide) (tJ0_charAt_5068e_ok l)
noncomputable def tX1_ofLetter : List (Nat × xO) := [(0, x_push (.int (nI 0)) 1), (1, x_istore 1 1), (2, x_iload 1 1), (3, x_push (.ref 1002) 2), (5, x_callStr 1 FJ0_length_8abf5), (8, x_cmpge 29), (11, x_push (.ref 1002) 2), (13, x_iload 1 1), (14, x_callStr 2 FJ0_charAt_5068e), (17, x_iload 0 1), (18, x_cmpne 23), (21, x_iload 1 1), (22, x_iret), (23, x_iinc 1 (nI 1)), (26, x_goto 2), (29, x_push (.int (-1)) 1), (30, x_iret)]
set_option maxRecDepth 100000 in
theorem tX1_ofLetter_ok (l : Launch) : ∀ q ∈ tX1_ofLetter, xOK l cX1_ofLetter RX1 2 4 0 (yX1_ofLetter.name = "<init>") q.1 q.2 := by
  unfold tX1_ofLetter
  refine List.forall_mem_cons.mpr ⟨?_, List.forall_mem_cons.mpr ⟨?_, List.forall_mem_cons.mpr ⟨?_, List.forall_mem_cons.mpr ⟨?_, List.forall_mem_cons.mpr ⟨?_, List.forall_mem_cons.mpr ⟨?_, List.forall_mem_cons.mpr ⟨?_, List.forall_mem_cons.mpr ⟨?_, List.forall_mem_cons.mpr ⟨?_, List.forall_mem_cons.mpr ⟨?_, List.forall_mem_cons.mpr ⟨?_, List.forall_mem_cons.mpr ⟨?_, List.forall_mem_cons.mpr ⟨?_, List.forall_mem_cons.mpr ⟨?_, List.forall_mem_cons.mpr ⟨?_, List.forall_mem_cons.mpr ⟨?_, List.forall_mem_cons.mpr ⟨?_, fun _ h => absurd h List.not_mem_nil⟩⟩⟩⟩⟩⟩⟩⟩⟩⟩⟩⟩⟩⟩⟩⟩⟩
  · exact x_iconst_ok (show decode cX1_ofLetter 0 = .ok (.iconst 0, 1) by decide +kernel) (by decide)
  · exact x_istore_n_ok (show decode cX1_ofLetter 1 = .ok (.istore_n 1, 1) by decide +kernel) rfl (by decide)
  · exact x_iload_n_ok (show decode cX1_ofLetter 2 = .ok (.iload_n 1, 1) by decide +kernel) rfl
  · exact x_ldcS_ok rfl (show decode cX1_ofLetter 3 = .ok (.ldc 9, 2) by decide +kernel)
  · exact x_callStr_ok (sJ0_length_8abf5 l) hw_366 hw_363 hw_364 hw_365 hw_71 ⟨by decide, by decide, by decide +kernel⟩ rfl (by decide) (by decide) (show decode cX1_ofLetter 5 = .ok (.invokevirtual 11, 3) by decide +kernel)
  · exact x_cmpge_ok (show decode cX1_ofLetter 8 = .ok (.if_icmp .ge 21, 3) by decide +kernel) (by decide)
  · exact x_ldcS_ok rfl (show decode cX1_ofLetter 11 = .ok (.ldc 9, 2) by decide +kernel)
  · exact x_iload_n_ok (show decode cX1_ofLetter 13 = .ok (.iload_n 1, 1) by decide +kernel) rfl
  · exact x_callStr_ok (sJ0_charAt_5068e l) hw_376 hw_373 hw_374 hw_375 hw_71 ⟨by decide, by decide, by decide +kernel⟩ rfl (by decide) (by decide) (show decode cX1_ofLetter 14 = .ok (.invokevirtual 17, 3) by decide +kernel)
  · exact x_iload_n_ok (show decode cX1_ofLetter 17 = .ok (.iload_n 0, 1) by decide +kernel) rfl
  · exact x_cmpne_ok (show decode cX1_ofLetter 18 = .ok (.if_icmp .ne 5, 3) by decide +kernel) (by decide)
  · exact x_iload_n_ok (show decode cX1_ofLetter 21 = .ok (.iload_n 1, 1) by decide +kernel) rfl
  · exact x_iret_ok (show decode cX1_ofLetter 22 = .ok (.ireturn, 1) by decide +kernel)
  · exact x_iinc_ok (show decode cX1_ofLetter 23 = .ok (.iinc 1 1, 3) by decide +kernel) (by decide) (by decide)
  · exact x_goto_ok (show decode cX1_ofLetter 26 = .ok (.goto (-24), 3) by decide +kernel) (by decide)
  · exact x_iconst_ok (show decode cX1_ofLetter 29 = .ok (.iconst (-1), 1) by decide +kernel) (by decide)
  · exact x_iret_ok (show decode cX1_ofLetter 30 = .ok (.ireturn, 1) by decide +kernel)
noncomputable def FX1_ofLetter : List Value → xS → Option xR := xden tX1_ofLetter 2 (some .int) 0
theorem sX1_ofLetter (l : Launch) : xSound l yX1_ofLetter cX1_ofLetter 2 (some .int) 4 0 FX1_ofLetter := x_den (by decide) (tX1_ofLetter_ok l)
noncomputable def tX7_fits : List (Nat × xO) := [(0, x_iload 0 1), (1, x_ifne 17), (4, x_iload 1 1), (5, x_call 0 1 FX1_ofLetter), (8, x_iflt 15), (11, x_push (.int (nI 1)) 1), (12, x_goto 16), (15, x_push (.int (nI 0)) 1), (16, x_iret), (17, x_iload 1 1), (18, x_push (.int (nI 48)) 2), (20, x_ii (fun x y => x - y)), (21, x_push (.ref 1001) 3), (24, x_iload 0 1), (25, x_push (.int (nI 1)) 1), (26, x_ii (fun x y => x - y)), (27, x_tald), (28, x_push (.int (nI 1)) 1), (29, x_ii (fun x y => x + y)), (30, x_call 0 2 FX8_among), (33, x_iret)]
set_option maxRecDepth 100000 in
theorem tX7_fits_ok (l : Launch) : ∀ q ∈ tX7_fits, xOK l cX7_fits RX7 2 5 0 (yX7_fits.name = "<init>") q.1 q.2 := by
  unfold tX7_fits
  refine List.forall_mem_cons.mpr ⟨?_, List.forall_mem_cons.mpr ⟨?_, List.forall_mem_cons.mpr ⟨?_, List.forall_mem_cons.mpr ⟨?_, List.forall_mem_cons.mpr ⟨?_, List.forall_mem_cons.mpr ⟨?_, List.forall_mem_cons.mpr ⟨?_, List.forall_mem_cons.mpr ⟨?_, List.forall_mem_cons.mpr ⟨?_, List.forall_mem_cons.mpr ⟨?_, List.forall_mem_cons.mpr ⟨?_, List.forall_mem_cons.mpr ⟨?_, List.forall_mem_cons.mpr ⟨?_, List.forall_mem_cons.mpr ⟨?_, List.forall_mem_cons.mpr ⟨?_, List.forall_mem_cons.mpr ⟨?_, List.forall_mem_cons.mpr ⟨?_, List.forall_mem_cons.mpr ⟨?_, List.forall_mem_cons.mpr ⟨?_, List.forall_mem_cons.mpr ⟨?_, List.forall_mem_cons.mpr ⟨?_, fun _ h => absurd h List.not_mem_nil⟩⟩⟩⟩⟩⟩⟩⟩⟩⟩⟩⟩⟩⟩⟩⟩⟩⟩⟩⟩⟩
  · exact x_iload_n_ok (show decode cX7_fits 0 = .ok (.iload_n 0, 1) by decide +kernel) rfl
  · exact x_ifne_ok (show decode cX7_fits 1 = .ok (.ifCond .ne 16, 3) by decide +kernel) (by decide)
  · exact x_iload_n_ok (show decode cX7_fits 4 = .ok (.iload_n 1, 1) by decide +kernel) rfl
  · exact x_callS_ok (sX1_ofLetter l) hw_361 hw_359 hw_360 hw_70 ⟨by decide, by decide, by decide +kernel⟩ (by decide) (by decide) (show decode cX7_fits 5 = .ok (.invokestatic 29, 3) by decide +kernel)
  · exact x_iflt_ok (show decode cX7_fits 8 = .ok (.ifCond .lt 7, 3) by decide +kernel) (by decide)
  · exact x_iconst_ok (show decode cX7_fits 11 = .ok (.iconst 1, 1) by decide +kernel) (by decide)
  · exact x_goto_ok (show decode cX7_fits 12 = .ok (.goto 4, 3) by decide +kernel) (by decide)
  · exact x_iconst_ok (show decode cX7_fits 15 = .ok (.iconst 0, 1) by decide +kernel) (by decide)
  · exact x_iret_ok (show decode cX7_fits 16 = .ok (.ireturn, 1) by decide +kernel)
  · exact x_iload_n_ok (show decode cX7_fits 17 = .ok (.iload_n 1, 1) by decide +kernel) rfl
  · exact x_bipush_ok (show decode cX7_fits 18 = .ok (.bipush 48, 2) by decide +kernel) (by decide)
  · exact x_isub_ok (show decode cX7_fits 20 = .ok (.isub, 1) by decide +kernel)
  · exact x_gsR_ok hw_411 (show decode cX7_fits 21 = .ok (.getstatic 34, 3) by decide +kernel)
  · exact x_iload_n_ok (show decode cX7_fits 24 = .ok (.iload_n 0, 1) by decide +kernel) rfl
  · exact x_iconst_ok (show decode cX7_fits 25 = .ok (.iconst 1, 1) by decide +kernel) (by decide)
  · exact x_isub_ok (show decode cX7_fits 26 = .ok (.isub, 1) by decide +kernel)
  · exact x_tald_ok (show decode cX7_fits 27 = .ok (.iaload, 1) by decide +kernel)
  · exact x_iconst_ok (show decode cX7_fits 28 = .ok (.iconst 1, 1) by decide +kernel) (by decide)
  · exact x_iadd_ok (show decode cX7_fits 29 = .ok (.iadd, 1) by decide +kernel)
  · exact x_callSN_ok (sX8_among l) hw_268 (fun _ _ _ h => h.1.2.1) hw_267 hw_61 ⟨by decide, by decide, by decide +kernel⟩ (by decide) (by decide) (show decode cX7_fits 30 = .ok (.invokestatic 38, 3) by decide +kernel)
  · exact x_iret_ok (show decode cX7_fits 33 = .ok (.ireturn, 1) by decide +kernel)
noncomputable def FX7_fits : List Value → xS → Option xR := xden tX7_fits 2 (some .boolean) 0
theorem sX7_fits (l : Launch) : xSound l yX7_fits cX7_fits 2 (some .boolean) 5 0 FX7_fits := x_den (by decide) (tX7_fits_ok l)
noncomputable def tX7_faultOfItem : List (Nat × xO) := [(0, x_iload 1 1), (1, x_istore 2 1), (2, x_iload 2 1), (3, x_iload 1 1), (4, x_push (.int (nI 8)) 2), (6, x_ii (fun x y => x + y)), (7, x_cmpge 46), (10, x_iload 2 1), (11, x_aload 0 1), (12, x_getI 5 1), (15, x_cmplt 23), (18, x_aload 0 1), (19, x_getI 5 1), (22, x_iret), (23, x_iload 2 1), (24, x_iload 1 1), (25, x_ii (fun x y => x - y)), (26, x_aload 0 1), (27, x_getR 5 0), (30, x_iload 2 1), (31, x_bald), (32, x_call 0 2 FX7_fits), (35, x_ifne 40), (38, x_iload 2 1), (39, x_iret), (40, x_iinc 2 (nI 1)), (43, x_goto 2), (46, x_push (.int (-9)) 2), (48, x_iret)]
set_option maxRecDepth 100000 in
theorem tX7_faultOfItem_ok (l : Launch) : ∀ q ∈ tX7_faultOfItem, xOK l cX7_faultOfItem RX7 3 6 0 (yX7_faultOfItem.name = "<init>") q.1 q.2 := by
  unfold tX7_faultOfItem
  refine List.forall_mem_cons.mpr ⟨?_, List.forall_mem_cons.mpr ⟨?_, List.forall_mem_cons.mpr ⟨?_, List.forall_mem_cons.mpr ⟨?_, List.forall_mem_cons.mpr ⟨?_, List.forall_mem_cons.mpr ⟨?_, List.forall_mem_cons.mpr ⟨?_, List.forall_mem_cons.mpr ⟨?_, List.forall_mem_cons.mpr ⟨?_, List.forall_mem_cons.mpr ⟨?_, List.forall_mem_cons.mpr ⟨?_, List.forall_mem_cons.mpr ⟨?_, List.forall_mem_cons.mpr ⟨?_, List.forall_mem_cons.mpr ⟨?_, List.forall_mem_cons.mpr ⟨?_, List.forall_mem_cons.mpr ⟨?_, List.forall_mem_cons.mpr ⟨?_, List.forall_mem_cons.mpr ⟨?_, List.forall_mem_cons.mpr ⟨?_, List.forall_mem_cons.mpr ⟨?_, List.forall_mem_cons.mpr ⟨?_, List.forall_mem_cons.mpr ⟨?_, List.forall_mem_cons.mpr ⟨?_, List.forall_mem_cons.mpr ⟨?_, List.forall_mem_cons.mpr ⟨?_, List.forall_mem_cons.mpr ⟨?_, List.forall_mem_cons.mpr ⟨?_, List.forall_mem_cons.mpr ⟨?_, List.forall_mem_cons.mpr ⟨?_, fun _ h => absurd h List.not_mem_nil⟩⟩⟩⟩⟩⟩⟩⟩⟩⟩⟩⟩⟩⟩⟩⟩⟩⟩⟩⟩⟩⟩⟩⟩⟩⟩⟩⟩⟩
  · exact x_iload_n_ok (show decode cX7_faultOfItem 0 = .ok (.iload_n 1, 1) by decide +kernel) rfl
  · exact x_istore_n_ok (show decode cX7_faultOfItem 1 = .ok (.istore_n 2, 1) by decide +kernel) rfl (by decide)
  · exact x_iload_n_ok (show decode cX7_faultOfItem 2 = .ok (.iload_n 2, 1) by decide +kernel) rfl
  · exact x_iload_n_ok (show decode cX7_faultOfItem 3 = .ok (.iload_n 1, 1) by decide +kernel) rfl
  · exact x_bipush_ok (show decode cX7_faultOfItem 4 = .ok (.bipush 8, 2) by decide +kernel) (by decide)
  · exact x_iadd_ok (show decode cX7_faultOfItem 6 = .ok (.iadd, 1) by decide +kernel)
  · exact x_cmpge_ok (show decode cX7_faultOfItem 7 = .ok (.if_icmp .ge 39, 3) by decide +kernel) (by decide)
  · exact x_iload_n_ok (show decode cX7_faultOfItem 10 = .ok (.iload_n 2, 1) by decide +kernel) rfl
  · exact x_aload_n_ok (show decode cX7_faultOfItem 11 = .ok (.aload_n 0, 1) by decide +kernel) rfl
  · exact x_getI_ok (ci := 5) (k := 1) rfl (by decide) (by decide) hw_116 (show decode cX7_faultOfItem 12 = .ok (.getfield 15, 3) by decide +kernel)
  · exact x_cmplt_ok (show decode cX7_faultOfItem 15 = .ok (.if_icmp .lt 8, 3) by decide +kernel) (by decide)
  · exact x_aload_n_ok (show decode cX7_faultOfItem 18 = .ok (.aload_n 0, 1) by decide +kernel) rfl
  · exact x_getI_ok (ci := 5) (k := 1) rfl (by decide) (by decide) hw_116 (show decode cX7_faultOfItem 19 = .ok (.getfield 15, 3) by decide +kernel)
  · exact x_iret_ok (show decode cX7_faultOfItem 22 = .ok (.ireturn, 1) by decide +kernel)
  · exact x_iload_n_ok (show decode cX7_faultOfItem 23 = .ok (.iload_n 2, 1) by decide +kernel) rfl
  · exact x_iload_n_ok (show decode cX7_faultOfItem 24 = .ok (.iload_n 1, 1) by decide +kernel) rfl
  · exact x_isub_ok (show decode cX7_faultOfItem 25 = .ok (.isub, 1) by decide +kernel)
  · exact x_aload_n_ok (show decode cX7_faultOfItem 26 = .ok (.aload_n 0, 1) by decide +kernel) rfl
  · exact x_getR_ok (ci := 5) (k := 0) rfl (by decide) (by decide) hw_114 (show decode cX7_faultOfItem 27 = .ok (.getfield 11, 3) by decide +kernel)
  · exact x_iload_n_ok (show decode cX7_faultOfItem 30 = .ok (.iload_n 2, 1) by decide +kernel) rfl
  · exact x_bald_ok (show decode cX7_faultOfItem 31 = .ok (.baload, 1) by decide +kernel)
  · exact x_callS_ok (sX7_fits l) hw_358 hw_356 hw_357 hw_63 ⟨by decide, by decide, by decide +kernel⟩ (by decide) (by decide) (show decode cX7_faultOfItem 32 = .ok (.invokestatic 25, 3) by decide +kernel)
  · exact x_ifne_ok (show decode cX7_faultOfItem 35 = .ok (.ifCond .ne 5, 3) by decide +kernel) (by decide)
  · exact x_iload_n_ok (show decode cX7_faultOfItem 38 = .ok (.iload_n 2, 1) by decide +kernel) rfl
  · exact x_iret_ok (show decode cX7_faultOfItem 39 = .ok (.ireturn, 1) by decide +kernel)
  · exact x_iinc_ok (show decode cX7_faultOfItem 40 = .ok (.iinc 2 1, 3) by decide +kernel) (by decide) (by decide)
  · exact x_goto_ok (show decode cX7_faultOfItem 43 = .ok (.goto (-41), 3) by decide +kernel) (by decide)
  · exact x_bipush_ok (show decode cX7_faultOfItem 46 = .ok (.bipush (-9), 2) by decide +kernel) (by decide)
  · exact x_iret_ok (show decode cX7_faultOfItem 48 = .ok (.ireturn, 1) by decide +kernel)
noncomputable def FX7_faultOfItem : List Value → xS → Option xR := xden tX7_faultOfItem 3 (some .int) 0
theorem sX7_faultOfItem (l : Launch) : xSound l yX7_faultOfItem cX7_faultOfItem 3 (some .int) 6 0 FX7_faultOfItem := x_den (by decide) (tX7_faultOfItem_ok l)
noncomputable def tX7_firstFault : List (Nat × xO) := [(0, x_push (.int (nI 0)) 1), (1, x_istore 1 1), (2, x_push (.int (nI 0)) 1), (3, x_istore 2 1), (4, x_iload 2 1), (5, x_aload 0 1), (6, x_getI 5 1), (9, x_cmpge 60), (12, x_aload 0 1), (13, x_getR 5 0), (16, x_iload 2 1), (17, x_bald), (18, x_push (.int (nI 32)) 2), (20, x_cmpne 29), (23, x_iinc 2 (nI 1)), (26, x_goto 4), (29, x_iload 1 1), (30, x_push (.int (nI 8)) 2), (32, x_cmpne 37), (35, x_iload 2 1), (36, x_iret), (37, x_aload 0 1), (38, x_iload 2 1), (39, x_callV 5 0 2 FX7_faultOfItem), (42, x_istore 3 1), (43, x_iload 3 1), (44, x_push (.int (-9)) 2), (46, x_cmpeq 51), (49, x_iload 3 1), (50, x_iret), (51, x_iinc 1 (nI 1)), (54, x_iinc 2 (nI 8)), (57, x_goto 4), (60, x_iload 1 1), (61, x_ifne 71), (64, x_aload 0 1), (65, x_getI 5 1), (68, x_goto 73), (71, x_push (.int (-9)) 2), (73, x_iret)]
set_option maxRecDepth 100000 in
theorem tX7_firstFault_ok (l : Launch) : ∀ q ∈ tX7_firstFault, xOK l cX7_firstFault RX7 4 7 0 (yX7_firstFault.name = "<init>") q.1 q.2 := by
  unfold tX7_firstFault
  refine List.forall_mem_cons.mpr ⟨?_, List.forall_mem_cons.mpr ⟨?_, List.forall_mem_cons.mpr ⟨?_, List.forall_mem_cons.mpr ⟨?_, List.forall_mem_cons.mpr ⟨?_, List.forall_mem_cons.mpr ⟨?_, List.forall_mem_cons.mpr ⟨?_, List.forall_mem_cons.mpr ⟨?_, List.forall_mem_cons.mpr ⟨?_, List.forall_mem_cons.mpr ⟨?_, List.forall_mem_cons.mpr ⟨?_, List.forall_mem_cons.mpr ⟨?_, List.forall_mem_cons.mpr ⟨?_, List.forall_mem_cons.mpr ⟨?_, List.forall_mem_cons.mpr ⟨?_, List.forall_mem_cons.mpr ⟨?_, List.forall_mem_cons.mpr ⟨?_, List.forall_mem_cons.mpr ⟨?_, List.forall_mem_cons.mpr ⟨?_, List.forall_mem_cons.mpr ⟨?_, List.forall_mem_cons.mpr ⟨?_, List.forall_mem_cons.mpr ⟨?_, List.forall_mem_cons.mpr ⟨?_, List.forall_mem_cons.mpr ⟨?_, List.forall_mem_cons.mpr ⟨?_, List.forall_mem_cons.mpr ⟨?_, List.forall_mem_cons.mpr ⟨?_, List.forall_mem_cons.mpr ⟨?_, List.forall_mem_cons.mpr ⟨?_, List.forall_mem_cons.mpr ⟨?_, List.forall_mem_cons.mpr ⟨?_, List.forall_mem_cons.mpr ⟨?_, List.forall_mem_cons.mpr ⟨?_, List.forall_mem_cons.mpr ⟨?_, List.forall_mem_cons.mpr ⟨?_, List.forall_mem_cons.mpr ⟨?_, List.forall_mem_cons.mpr ⟨?_, List.forall_mem_cons.mpr ⟨?_, List.forall_mem_cons.mpr ⟨?_, List.forall_mem_cons.mpr ⟨?_, fun _ h => absurd h List.not_mem_nil⟩⟩⟩⟩⟩⟩⟩⟩⟩⟩⟩⟩⟩⟩⟩⟩⟩⟩⟩⟩⟩⟩⟩⟩⟩⟩⟩⟩⟩⟩⟩⟩⟩⟩⟩⟩⟩⟩⟩⟩
  · exact x_iconst_ok (show decode cX7_firstFault 0 = .ok (.iconst 0, 1) by decide +kernel) (by decide)
  · exact x_istore_n_ok (show decode cX7_firstFault 1 = .ok (.istore_n 1, 1) by decide +kernel) rfl (by decide)
  · exact x_iconst_ok (show decode cX7_firstFault 2 = .ok (.iconst 0, 1) by decide +kernel) (by decide)
  · exact x_istore_n_ok (show decode cX7_firstFault 3 = .ok (.istore_n 2, 1) by decide +kernel) rfl (by decide)
  · exact x_iload_n_ok (show decode cX7_firstFault 4 = .ok (.iload_n 2, 1) by decide +kernel) rfl
  · exact x_aload_n_ok (show decode cX7_firstFault 5 = .ok (.aload_n 0, 1) by decide +kernel) rfl
  · exact x_getI_ok (ci := 5) (k := 1) rfl (by decide) (by decide) hw_116 (show decode cX7_firstFault 6 = .ok (.getfield 15, 3) by decide +kernel)
  · exact x_cmpge_ok (show decode cX7_firstFault 9 = .ok (.if_icmp .ge 51, 3) by decide +kernel) (by decide)
  · exact x_aload_n_ok (show decode cX7_firstFault 12 = .ok (.aload_n 0, 1) by decide +kernel) rfl
  · exact x_getR_ok (ci := 5) (k := 0) rfl (by decide) (by decide) hw_114 (show decode cX7_firstFault 13 = .ok (.getfield 11, 3) by decide +kernel)
  · exact x_iload_n_ok (show decode cX7_firstFault 16 = .ok (.iload_n 2, 1) by decide +kernel) rfl
  · exact x_bald_ok (show decode cX7_firstFault 17 = .ok (.baload, 1) by decide +kernel)
  · exact x_bipush_ok (show decode cX7_firstFault 18 = .ok (.bipush 32, 2) by decide +kernel) (by decide)
  · exact x_cmpne_ok (show decode cX7_firstFault 20 = .ok (.if_icmp .ne 9, 3) by decide +kernel) (by decide)
  · exact x_iinc_ok (show decode cX7_firstFault 23 = .ok (.iinc 2 1, 3) by decide +kernel) (by decide) (by decide)
  · exact x_goto_ok (show decode cX7_firstFault 26 = .ok (.goto (-22), 3) by decide +kernel) (by decide)
  · exact x_iload_n_ok (show decode cX7_firstFault 29 = .ok (.iload_n 1, 1) by decide +kernel) rfl
  · exact x_bipush_ok (show decode cX7_firstFault 30 = .ok (.bipush 8, 2) by decide +kernel) (by decide)
  · exact x_cmpne_ok (show decode cX7_firstFault 32 = .ok (.if_icmp .ne 5, 3) by decide +kernel) (by decide)
  · exact x_iload_n_ok (show decode cX7_firstFault 35 = .ok (.iload_n 2, 1) by decide +kernel) rfl
  · exact x_iret_ok (show decode cX7_firstFault 36 = .ok (.ireturn, 1) by decide +kernel)
  · exact x_aload_n_ok (show decode cX7_firstFault 37 = .ok (.aload_n 0, 1) by decide +kernel) rfl
  · exact x_iload_n_ok (show decode cX7_firstFault 38 = .ok (.iload_n 2, 1) by decide +kernel) rfl
  · exact x_callV_ok (ci := 5) rfl (by decide) (sX7_faultOfItem l) hw_355 hw_352 hw_354 hw_4 hw_63 ⟨by decide, by decide, by decide +kernel⟩ rfl (by decide) (by decide) (show decode cX7_firstFault 39 = .ok (.invokevirtual 21, 3) by decide +kernel)
  · exact x_istore_n_ok (show decode cX7_firstFault 42 = .ok (.istore_n 3, 1) by decide +kernel) rfl (by decide)
  · exact x_iload_n_ok (show decode cX7_firstFault 43 = .ok (.iload_n 3, 1) by decide +kernel) rfl
  · exact x_bipush_ok (show decode cX7_firstFault 44 = .ok (.bipush (-9), 2) by decide +kernel) (by decide)
  · exact x_cmpeq_ok (show decode cX7_firstFault 46 = .ok (.if_icmp .eq 5, 3) by decide +kernel) (by decide)
  · exact x_iload_n_ok (show decode cX7_firstFault 49 = .ok (.iload_n 3, 1) by decide +kernel) rfl
  · exact x_iret_ok (show decode cX7_firstFault 50 = .ok (.ireturn, 1) by decide +kernel)
  · exact x_iinc_ok (show decode cX7_firstFault 51 = .ok (.iinc 1 1, 3) by decide +kernel) (by decide) (by decide)
  · exact x_iinc_ok (show decode cX7_firstFault 54 = .ok (.iinc 2 8, 3) by decide +kernel) (by decide) (by decide)
  · exact x_goto_ok (show decode cX7_firstFault 57 = .ok (.goto (-53), 3) by decide +kernel) (by decide)
  · exact x_iload_n_ok (show decode cX7_firstFault 60 = .ok (.iload_n 1, 1) by decide +kernel) rfl
  · exact x_ifne_ok (show decode cX7_firstFault 61 = .ok (.ifCond .ne 10, 3) by decide +kernel) (by decide)
  · exact x_aload_n_ok (show decode cX7_firstFault 64 = .ok (.aload_n 0, 1) by decide +kernel) rfl
  · exact x_getI_ok (ci := 5) (k := 1) rfl (by decide) (by decide) hw_116 (show decode cX7_firstFault 65 = .ok (.getfield 15, 3) by decide +kernel)
  · exact x_goto_ok (show decode cX7_firstFault 68 = .ok (.goto 5, 3) by decide +kernel) (by decide)
  · exact x_bipush_ok (show decode cX7_firstFault 71 = .ok (.bipush (-9), 2) by decide +kernel) (by decide)
  · exact x_iret_ok (show decode cX7_firstFault 73 = .ok (.ireturn, 1) by decide +kernel)
noncomputable def FX7_firstFault : List Value → xS → Option xR := xden tX7_firstFault 4 (some .int) 0
theorem sX7_firstFault (l : Launch) : xSound l yX7_firstFault cX7_firstFault 4 (some .int) 7 0 FX7_firstFault := x_den (by decide) (tX7_firstFault_ok l)
noncomputable def tX8_fault : List (Nat × xO) := [(0, x_aload 0 1), (1, x_iload 1 1), (2, x_callV 6 0 2 FX8_refusalOfText), (5, x_istore 2 1), (6, x_iload 2 1), (7, x_ifeq 14), (10, x_iload 2 1), (11, x_goto 23), (14, x_aload 0 1), (15, x_getR 6 1), (18, x_iload 1 1), (19, x_aald), (20, x_callV 5 0 1 FX7_firstFault), (23, x_iret)]
set_option maxRecDepth 100000 in
theorem tX8_fault_ok (l : Launch) : ∀ q ∈ tX8_fault, xOK l cX8_fault RX8 3 8 0 (yX8_fault.name = "<init>") q.1 q.2 := by
  unfold tX8_fault
  refine List.forall_mem_cons.mpr ⟨?_, List.forall_mem_cons.mpr ⟨?_, List.forall_mem_cons.mpr ⟨?_, List.forall_mem_cons.mpr ⟨?_, List.forall_mem_cons.mpr ⟨?_, List.forall_mem_cons.mpr ⟨?_, List.forall_mem_cons.mpr ⟨?_, List.forall_mem_cons.mpr ⟨?_, List.forall_mem_cons.mpr ⟨?_, List.forall_mem_cons.mpr ⟨?_, List.forall_mem_cons.mpr ⟨?_, List.forall_mem_cons.mpr ⟨?_, List.forall_mem_cons.mpr ⟨?_, List.forall_mem_cons.mpr ⟨?_, fun _ h => absurd h List.not_mem_nil⟩⟩⟩⟩⟩⟩⟩⟩⟩⟩⟩⟩⟩⟩
  · exact x_aload_n_ok (show decode cX8_fault 0 = .ok (.aload_n 0, 1) by decide +kernel) rfl
  · exact x_iload_n_ok (show decode cX8_fault 1 = .ok (.iload_n 1, 1) by decide +kernel) rfl
  · exact x_callV_ok (ci := 6) rfl (by decide) (sX8_refusalOfText l) hw_339 hw_336 hw_338 hw_3 hw_61 ⟨by decide, by decide, by decide +kernel⟩ rfl (by decide) (by decide) (show decode cX8_fault 2 = .ok (.invokevirtual 115, 3) by decide +kernel)
  · exact x_istore_n_ok (show decode cX8_fault 5 = .ok (.istore_n 2, 1) by decide +kernel) rfl (by decide)
  · exact x_iload_n_ok (show decode cX8_fault 6 = .ok (.iload_n 2, 1) by decide +kernel) rfl
  · exact x_ifeq_ok (show decode cX8_fault 7 = .ok (.ifCond .eq 7, 3) by decide +kernel) (by decide)
  · exact x_iload_n_ok (show decode cX8_fault 10 = .ok (.iload_n 2, 1) by decide +kernel) rfl
  · exact x_goto_ok (show decode cX8_fault 11 = .ok (.goto 12, 3) by decide +kernel) (by decide)
  · exact x_aload_n_ok (show decode cX8_fault 14 = .ok (.aload_n 0, 1) by decide +kernel) rfl
  · exact x_getR_ok (ci := 6) (k := 1) rfl (by decide) (by decide) hw_223 (show decode cX8_fault 15 = .ok (.getfield 18, 3) by decide +kernel)
  · exact x_iload_n_ok (show decode cX8_fault 18 = .ok (.iload_n 1, 1) by decide +kernel) rfl
  · exact x_aald_ok (show decode cX8_fault 19 = .ok (.aaload, 1) by decide +kernel)
  · exact x_callV_ok (ci := 5) rfl (by decide) (sX7_firstFault l) hw_351 hw_348 hw_349 hw_350 hw_63 ⟨by decide, by decide, by decide +kernel⟩ rfl (by decide) (by decide) (show decode cX8_fault 20 = .ok (.invokevirtual 123, 3) by decide +kernel)
  · exact x_iret_ok (show decode cX8_fault 23 = .ok (.ireturn, 1) by decide +kernel)
noncomputable def FX8_fault : List Value → xS → Option xR := xden tX8_fault 3 (some .int) 0
theorem sX8_fault (l : Launch) : xSound l yX8_fault cX8_fault 3 (some .int) 8 0 FX8_fault := x_den (by decide) (tX8_fault_ok l)
noncomputable def tX9_here : List (Nat × xO) := [(0, x_aload 0 1), (1, x_getR 7 4), (4, x_aload 0 1), (5, x_getI 7 10), (8, x_aload 0 1), (9, x_getI 7 11), (12, x_ii (fun x y => x + y)), (13, x_iald), (14, x_iret)]
set_option maxRecDepth 100000 in
theorem tX9_here_ok (l : Launch) : ∀ q ∈ tX9_here, xOK l cX9_here RX9 1 1 0 (yX9_here.name = "<init>") q.1 q.2 := by
  unfold tX9_here
  refine List.forall_mem_cons.mpr ⟨?_, List.forall_mem_cons.mpr ⟨?_, List.forall_mem_cons.mpr ⟨?_, List.forall_mem_cons.mpr ⟨?_, List.forall_mem_cons.mpr ⟨?_, List.forall_mem_cons.mpr ⟨?_, List.forall_mem_cons.mpr ⟨?_, List.forall_mem_cons.mpr ⟨?_, List.forall_mem_cons.mpr ⟨?_, fun _ h => absurd h List.not_mem_nil⟩⟩⟩⟩⟩⟩⟩⟩⟩
  · exact x_aload_n_ok (show decode cX9_here 0 = .ok (.aload_n 0, 1) by decide +kernel) rfl
  · exact x_getR_ok (ci := 7) (k := 4) rfl (by decide) (by decide) hw_848 (show decode cX9_here 1 = .ok (.getfield 22, 3) by decide +kernel)
  · exact x_aload_n_ok (show decode cX9_here 4 = .ok (.aload_n 0, 1) by decide +kernel) rfl
  · exact x_getI_ok (ci := 7) (k := 10) rfl (by decide) (by decide) hw_854 (show decode cX9_here 5 = .ok (.getfield 92, 3) by decide +kernel)
  · exact x_aload_n_ok (show decode cX9_here 8 = .ok (.aload_n 0, 1) by decide +kernel) rfl
  · exact x_getI_ok (ci := 7) (k := 11) rfl (by decide) (by decide) hw_855 (show decode cX9_here 9 = .ok (.getfield 95, 3) by decide +kernel)
  · exact x_iadd_ok (show decode cX9_here 12 = .ok (.iadd, 1) by decide +kernel)
  · exact x_iald_ok (show decode cX9_here 13 = .ok (.iaload, 1) by decide +kernel)
  · exact x_iret_ok (show decode cX9_here 14 = .ok (.ireturn, 1) by decide +kernel)
noncomputable def FX9_here : List Value → xS → Option xR := xden tX9_here 1 (some .int) 0
theorem sX9_here (l : Launch) : xSound l yX9_here cX9_here 1 (some .int) 1 0 FX9_here := x_den (by decide) (tX9_here_ok l)
noncomputable def tX9_skip : List (Nat × xO) := [(0, x_aload 0 1), (1, x_getI 7 11), (4, x_aload 0 1), (5, x_getI 7 12), (8, x_cmpge 33), (11, x_aload 0 1), (12, x_callV 7 0 1 FX9_here), (15, x_push (.int (nI 32)) 2), (17, x_cmpne 33), (20, x_aload 0 1), (21, x_dup), (22, x_getI 7 11), (25, x_push (.int (nI 1)) 1), (26, x_ii (fun x y => x + y)), (27, x_putI 7 11), (30, x_goto 0), (33, x_vret)]
set_option maxRecDepth 100000 in
theorem tX9_skip_ok (l : Launch) : ∀ q ∈ tX9_skip, xOK l cX9_skip RX9 1 2 0 (yX9_skip.name = "<init>") q.1 q.2 := by
  unfold tX9_skip
  refine List.forall_mem_cons.mpr ⟨?_, List.forall_mem_cons.mpr ⟨?_, List.forall_mem_cons.mpr ⟨?_, List.forall_mem_cons.mpr ⟨?_, List.forall_mem_cons.mpr ⟨?_, List.forall_mem_cons.mpr ⟨?_, List.forall_mem_cons.mpr ⟨?_, List.forall_mem_cons.mpr ⟨?_, List.forall_mem_cons.mpr ⟨?_, List.forall_mem_cons.mpr ⟨?_, List.forall_mem_cons.mpr ⟨?_, List.forall_mem_cons.mpr ⟨?_, List.forall_mem_cons.mpr ⟨?_, List.forall_mem_cons.mpr ⟨?_, List.forall_mem_cons.mpr ⟨?_, List.forall_mem_cons.mpr ⟨?_, List.forall_mem_cons.mpr ⟨?_, fun _ h => absurd h List.not_mem_nil⟩⟩⟩⟩⟩⟩⟩⟩⟩⟩⟩⟩⟩⟩⟩⟩⟩
  · exact x_aload_n_ok (show decode cX9_skip 0 = .ok (.aload_n 0, 1) by decide +kernel) rfl
  · exact x_getI_ok (ci := 7) (k := 11) rfl (by decide) (by decide) hw_855 (show decode cX9_skip 1 = .ok (.getfield 95, 3) by decide +kernel)
  · exact x_aload_n_ok (show decode cX9_skip 4 = .ok (.aload_n 0, 1) by decide +kernel) rfl
  · exact x_getI_ok (ci := 7) (k := 12) rfl (by decide) (by decide) hw_856 (show decode cX9_skip 5 = .ok (.getfield 98, 3) by decide +kernel)
  · exact x_cmpge_ok (show decode cX9_skip 8 = .ok (.if_icmp .ge 25, 3) by decide +kernel) (by decide)
  · exact x_aload_n_ok (show decode cX9_skip 11 = .ok (.aload_n 0, 1) by decide +kernel) rfl
  · exact x_callV_ok (ci := 7) rfl (by decide) (sX9_here l) hw_986 hw_983 hw_985 hw_25 hw_68 ⟨by decide, by decide, by decide +kernel⟩ rfl (by decide) (by decide) (show decode cX9_skip 12 = .ok (.invokevirtual 101, 3) by decide +kernel)
  · exact x_bipush_ok (show decode cX9_skip 15 = .ok (.bipush 32, 2) by decide +kernel) (by decide)
  · exact x_cmpne_ok (show decode cX9_skip 17 = .ok (.if_icmp .ne 16, 3) by decide +kernel) (by decide)
  · exact x_aload_n_ok (show decode cX9_skip 20 = .ok (.aload_n 0, 1) by decide +kernel) rfl
  · exact x_dup_ok (show decode cX9_skip 21 = .ok (.dup, 1) by decide +kernel)
  · exact x_getI_ok (ci := 7) (k := 11) rfl (by decide) (by decide) hw_855 (show decode cX9_skip 22 = .ok (.getfield 95, 3) by decide +kernel)
  · exact x_iconst_ok (show decode cX9_skip 25 = .ok (.iconst 1, 1) by decide +kernel) (by decide)
  · exact x_iadd_ok (show decode cX9_skip 26 = .ok (.iadd, 1) by decide +kernel)
  · exact x_putI_ok (ci := 7) (k := 11) rfl (by decide) (by decide) rfl hw_855 rfl (show decode cX9_skip 27 = .ok (.putfield 95, 3) by decide +kernel)
  · exact x_goto_ok (show decode cX9_skip 30 = .ok (.goto (-30), 3) by decide +kernel) (by decide)
  · exact x_vret_ok (show decode cX9_skip 33 = .ok (.return_, 1) by decide +kernel)
noncomputable def FX9_skip : List Value → xS → Option xR := xden tX9_skip 1 none 0
theorem sX9_skip (l : Launch) : xSound l yX9_skip cX9_skip 1 none 2 0 FX9_skip := x_den (by decide) (tX9_skip_ok l)
noncomputable def tX9_kindOfLetter : List (Nat × xO) := [(0, x_iload 0 1), (1, x_push (.int (nI 110)) 2), (3, x_cmpne 10), (6, x_push (.int (nI 0)) 1), (7, x_goto 62), (10, x_iload 0 1), (11, x_push (.int (nI 119)) 2), (13, x_cmpne 20), (16, x_push (.int (nI 1)) 1), (17, x_goto 62), (20, x_iload 0 1), (21, x_push (.int (nI 115)) 2), (23, x_cmpne 30), (26, x_push (.int (nI 2)) 1), (27, x_goto 62), (30, x_iload 0 1), (31, x_push (.int (nI 108)) 2), (33, x_cmpne 40), (36, x_push (.int (nI 3)) 1), (37, x_goto 62), (40, x_iload 0 1), (41, x_push (.int (nI 100)) 2), (43, x_cmpne 50), (46, x_push (.int (nI 4)) 1), (47, x_goto 62), (50, x_iload 0 1), (51, x_push (.int (nI 112)) 2), (53, x_cmpne 60), (56, x_push (.int (nI 5)) 1), (57, x_goto 62), (60, x_push (.int (-9)) 2), (62, x_iret)]
set_option maxRecDepth 100000 in
theorem tX9_kindOfLetter_ok (l : Launch) : ∀ q ∈ tX9_kindOfLetter, xOK l cX9_kindOfLetter RX9 1 1 0 (yX9_kindOfLetter.name = "<init>") q.1 q.2 := by
  unfold tX9_kindOfLetter
  refine List.forall_mem_cons.mpr ⟨?_, List.forall_mem_cons.mpr ⟨?_, List.forall_mem_cons.mpr ⟨?_, List.forall_mem_cons.mpr ⟨?_, List.forall_mem_cons.mpr ⟨?_, List.forall_mem_cons.mpr ⟨?_, List.forall_mem_cons.mpr ⟨?_, List.forall_mem_cons.mpr ⟨?_, List.forall_mem_cons.mpr ⟨?_, List.forall_mem_cons.mpr ⟨?_, List.forall_mem_cons.mpr ⟨?_, List.forall_mem_cons.mpr ⟨?_, List.forall_mem_cons.mpr ⟨?_, List.forall_mem_cons.mpr ⟨?_, List.forall_mem_cons.mpr ⟨?_, List.forall_mem_cons.mpr ⟨?_, List.forall_mem_cons.mpr ⟨?_, List.forall_mem_cons.mpr ⟨?_, List.forall_mem_cons.mpr ⟨?_, List.forall_mem_cons.mpr ⟨?_, List.forall_mem_cons.mpr ⟨?_, List.forall_mem_cons.mpr ⟨?_, List.forall_mem_cons.mpr ⟨?_, List.forall_mem_cons.mpr ⟨?_, List.forall_mem_cons.mpr ⟨?_, List.forall_mem_cons.mpr ⟨?_, List.forall_mem_cons.mpr ⟨?_, List.forall_mem_cons.mpr ⟨?_, List.forall_mem_cons.mpr ⟨?_, List.forall_mem_cons.mpr ⟨?_, List.forall_mem_cons.mpr ⟨?_, List.forall_mem_cons.mpr ⟨?_, fun _ h => absurd h List.not_mem_nil⟩⟩⟩⟩⟩⟩⟩⟩⟩⟩⟩⟩⟩⟩⟩⟩⟩⟩⟩⟩⟩⟩⟩⟩⟩⟩⟩⟩⟩⟩⟩⟩
  · exact x_iload_n_ok (show decode cX9_kindOfLetter 0 = .ok (.iload_n 0, 1) by decide +kernel) rfl
  · exact x_bipush_ok (show decode cX9_kindOfLetter 1 = .ok (.bipush 110, 2) by decide +kernel) (by decide)
  · exact x_cmpne_ok (show decode cX9_kindOfLetter 3 = .ok (.if_icmp .ne 7, 3) by decide +kernel) (by decide)
  · exact x_iconst_ok (show decode cX9_kindOfLetter 6 = .ok (.iconst 0, 1) by decide +kernel) (by decide)
  · exact x_goto_ok (show decode cX9_kindOfLetter 7 = .ok (.goto 55, 3) by decide +kernel) (by decide)
  · exact x_iload_n_ok (show decode cX9_kindOfLetter 10 = .ok (.iload_n 0, 1) by decide +kernel) rfl
  · exact x_bipush_ok (show decode cX9_kindOfLetter 11 = .ok (.bipush 119, 2) by decide +kernel) (by decide)
  · exact x_cmpne_ok (show decode cX9_kindOfLetter 13 = .ok (.if_icmp .ne 7, 3) by decide +kernel) (by decide)
  · exact x_iconst_ok (show decode cX9_kindOfLetter 16 = .ok (.iconst 1, 1) by decide +kernel) (by decide)
  · exact x_goto_ok (show decode cX9_kindOfLetter 17 = .ok (.goto 45, 3) by decide +kernel) (by decide)
  · exact x_iload_n_ok (show decode cX9_kindOfLetter 20 = .ok (.iload_n 0, 1) by decide +kernel) rfl
  · exact x_bipush_ok (show decode cX9_kindOfLetter 21 = .ok (.bipush 115, 2) by decide +kernel) (by decide)
  · exact x_cmpne_ok (show decode cX9_kindOfLetter 23 = .ok (.if_icmp .ne 7, 3) by decide +kernel) (by decide)
  · exact x_iconst_ok (show decode cX9_kindOfLetter 26 = .ok (.iconst 2, 1) by decide +kernel) (by decide)
  · exact x_goto_ok (show decode cX9_kindOfLetter 27 = .ok (.goto 35, 3) by decide +kernel) (by decide)
  · exact x_iload_n_ok (show decode cX9_kindOfLetter 30 = .ok (.iload_n 0, 1) by decide +kernel) rfl
  · exact x_bipush_ok (show decode cX9_kindOfLetter 31 = .ok (.bipush 108, 2) by decide +kernel) (by decide)
  · exact x_cmpne_ok (show decode cX9_kindOfLetter 33 = .ok (.if_icmp .ne 7, 3) by decide +kernel) (by decide)
  · exact x_iconst_ok (show decode cX9_kindOfLetter 36 = .ok (.iconst 3, 1) by decide +kernel) (by decide)
  · exact x_goto_ok (show decode cX9_kindOfLetter 37 = .ok (.goto 25, 3) by decide +kernel) (by decide)
  · exact x_iload_n_ok (show decode cX9_kindOfLetter 40 = .ok (.iload_n 0, 1) by decide +kernel) rfl
  · exact x_bipush_ok (show decode cX9_kindOfLetter 41 = .ok (.bipush 100, 2) by decide +kernel) (by decide)
  · exact x_cmpne_ok (show decode cX9_kindOfLetter 43 = .ok (.if_icmp .ne 7, 3) by decide +kernel) (by decide)
  · exact x_iconst_ok (show decode cX9_kindOfLetter 46 = .ok (.iconst 4, 1) by decide +kernel) (by decide)
  · exact x_goto_ok (show decode cX9_kindOfLetter 47 = .ok (.goto 15, 3) by decide +kernel) (by decide)
  · exact x_iload_n_ok (show decode cX9_kindOfLetter 50 = .ok (.iload_n 0, 1) by decide +kernel) rfl
  · exact x_bipush_ok (show decode cX9_kindOfLetter 51 = .ok (.bipush 112, 2) by decide +kernel) (by decide)
  · exact x_cmpne_ok (show decode cX9_kindOfLetter 53 = .ok (.if_icmp .ne 7, 3) by decide +kernel) (by decide)
  · exact x_iconst_ok (show decode cX9_kindOfLetter 56 = .ok (.iconst 5, 1) by decide +kernel) (by decide)
  · exact x_goto_ok (show decode cX9_kindOfLetter 57 = .ok (.goto 5, 3) by decide +kernel) (by decide)
  · exact x_bipush_ok (show decode cX9_kindOfLetter 60 = .ok (.bipush (-9), 2) by decide +kernel) (by decide)
  · exact x_iret_ok (show decode cX9_kindOfLetter 62 = .ok (.ireturn, 1) by decide +kernel)
noncomputable def FX9_kindOfLetter : List Value → xS → Option xR := xden tX9_kindOfLetter 1 (some .int) 0
theorem sX9_kindOfLetter (l : Launch) : xSound l yX9_kindOfLetter cX9_kindOfLetter 1 (some .int) 1 0 FX9_kindOfLetter := x_den (by decide) (tX9_kindOfLetter_ok l)
noncomputable def tX9_figure : List (Nat × xO) := [(0, x_aload 0 1), (1, x_getI 7 11), (4, x_aload 0 1), (5, x_getI 7 12), (8, x_cmpeq 30), (11, x_aload 0 1), (12, x_callV 7 0 1 FX9_here), (15, x_i2l), (16, x_push (.long 48) 3), (19, x_push (.int (nI 48)) 2), (21, x_iload 1 1), (22, x_ii (fun x y => x + y)), (23, x_i2l), (24, x_call 0 3 FX9_in), (27, x_ifne 33), (30, x_push (.int (-9)) 2), (32, x_iret), (33, x_aload 0 1), (34, x_dup), (35, x_getI 7 11), (38, x_push (.int (nI 1)) 1), (39, x_ii (fun x y => x + y)), (40, x_putI 7 11), (43, x_aload 0 1), (44, x_getR 7 4), (47, x_aload 0 1), (48, x_getI 7 10), (51, x_aload 0 1), (52, x_getI 7 11), (55, x_ii (fun x y => x + y)), (56, x_push (.int (nI 1)) 1), (57, x_ii (fun x y => x - y)), (58, x_iald), (59, x_push (.int (nI 48)) 2), (61, x_ii (fun x y => x - y)), (62, x_iret)]
set_option maxRecDepth 100000 in
theorem tX9_figure_ok (l : Launch) : ∀ q ∈ tX9_figure, xOK l cX9_figure RX9 2 2 0 (yX9_figure.name = "<init>") q.1 q.2 := by
  unfold tX9_figure
  refine List.forall_mem_cons.mpr ⟨?_, List.forall_mem_cons.mpr ⟨?_, List.forall_mem_cons.mpr ⟨?_, List.forall_mem_cons.mpr ⟨?_, List.forall_mem_cons.mpr ⟨?_, List.forall_mem_cons.mpr ⟨?_, List.forall_mem_cons.mpr ⟨?_, List.forall_mem_cons.mpr ⟨?_, List.forall_mem_cons.mpr ⟨?_, List.forall_mem_cons.mpr ⟨?_, List.forall_mem_cons.mpr ⟨?_, List.forall_mem_cons.mpr ⟨?_, List.forall_mem_cons.mpr ⟨?_, List.forall_mem_cons.mpr ⟨?_, List.forall_mem_cons.mpr ⟨?_, List.forall_mem_cons.mpr ⟨?_, List.forall_mem_cons.mpr ⟨?_, List.forall_mem_cons.mpr ⟨?_, List.forall_mem_cons.mpr ⟨?_, List.forall_mem_cons.mpr ⟨?_, List.forall_mem_cons.mpr ⟨?_, List.forall_mem_cons.mpr ⟨?_, List.forall_mem_cons.mpr ⟨?_, List.forall_mem_cons.mpr ⟨?_, List.forall_mem_cons.mpr ⟨?_, List.forall_mem_cons.mpr ⟨?_, List.forall_mem_cons.mpr ⟨?_, List.forall_mem_cons.mpr ⟨?_, List.forall_mem_cons.mpr ⟨?_, List.forall_mem_cons.mpr ⟨?_, List.forall_mem_cons.mpr ⟨?_, List.forall_mem_cons.mpr ⟨?_, List.forall_mem_cons.mpr ⟨?_, List.forall_mem_cons.mpr ⟨?_, List.forall_mem_cons.mpr ⟨?_, List.forall_mem_cons.mpr ⟨?_, fun _ h => absurd h List.not_mem_nil⟩⟩⟩⟩⟩⟩⟩⟩⟩⟩⟩⟩⟩⟩⟩⟩⟩⟩⟩⟩⟩⟩⟩⟩⟩⟩⟩⟩⟩⟩⟩⟩⟩⟩⟩⟩
  · exact x_aload_n_ok (show decode cX9_figure 0 = .ok (.aload_n 0, 1) by decide +kernel) rfl
  · exact x_getI_ok (ci := 7) (k := 11) rfl (by decide) (by decide) hw_855 (show decode cX9_figure 1 = .ok (.getfield 95, 3) by decide +kernel)
  · exact x_aload_n_ok (show decode cX9_figure 4 = .ok (.aload_n 0, 1) by decide +kernel) rfl
  · exact x_getI_ok (ci := 7) (k := 12) rfl (by decide) (by decide) hw_856 (show decode cX9_figure 5 = .ok (.getfield 98, 3) by decide +kernel)
  · exact x_cmpeq_ok (show decode cX9_figure 8 = .ok (.if_icmp .eq 22, 3) by decide +kernel) (by decide)
  · exact x_aload_n_ok (show decode cX9_figure 11 = .ok (.aload_n 0, 1) by decide +kernel) rfl
  · exact x_callV_ok (ci := 7) rfl (by decide) (sX9_here l) hw_986 hw_983 hw_985 hw_25 hw_68 ⟨by decide, by decide, by decide +kernel⟩ rfl (by decide) (by decide) (show decode cX9_figure 12 = .ok (.invokevirtual 101, 3) by decide +kernel)
  · exact x_i2l_ok (show decode cX9_figure 15 = .ok (.i2l, 1) by decide +kernel)
  · exact x_ldc2_ok (show decode cX9_figure 16 = .ok (.ldc2_w 105, 3) by decide +kernel) hw_998
  · exact x_bipush_ok (show decode cX9_figure 19 = .ok (.bipush 48, 2) by decide +kernel) (by decide)
  · exact x_iload_n_ok (show decode cX9_figure 21 = .ok (.iload_n 1, 1) by decide +kernel) rfl
  · exact x_iadd_ok (show decode cX9_figure 22 = .ok (.iadd, 1) by decide +kernel)
  · exact x_i2l_ok (show decode cX9_figure 23 = .ok (.i2l, 1) by decide +kernel)
  · exact x_callS_ok (sX9_in l) hw_918 hw_916 hw_917 hw_68 ⟨by decide, by decide, by decide +kernel⟩ (by decide) (by decide) (show decode cX9_figure 24 = .ok (.invokestatic 60, 3) by decide +kernel)
  · exact x_ifne_ok (show decode cX9_figure 27 = .ok (.ifCond .ne 6, 3) by decide +kernel) (by decide)
  · exact x_bipush_ok (show decode cX9_figure 30 = .ok (.bipush (-9), 2) by decide +kernel) (by decide)
  · exact x_iret_ok (show decode cX9_figure 32 = .ok (.ireturn, 1) by decide +kernel)
  · exact x_aload_n_ok (show decode cX9_figure 33 = .ok (.aload_n 0, 1) by decide +kernel) rfl
  · exact x_dup_ok (show decode cX9_figure 34 = .ok (.dup, 1) by decide +kernel)
  · exact x_getI_ok (ci := 7) (k := 11) rfl (by decide) (by decide) hw_855 (show decode cX9_figure 35 = .ok (.getfield 95, 3) by decide +kernel)
  · exact x_iconst_ok (show decode cX9_figure 38 = .ok (.iconst 1, 1) by decide +kernel) (by decide)
  · exact x_iadd_ok (show decode cX9_figure 39 = .ok (.iadd, 1) by decide +kernel)
  · exact x_putI_ok (ci := 7) (k := 11) rfl (by decide) (by decide) rfl hw_855 rfl (show decode cX9_figure 40 = .ok (.putfield 95, 3) by decide +kernel)
  · exact x_aload_n_ok (show decode cX9_figure 43 = .ok (.aload_n 0, 1) by decide +kernel) rfl
  · exact x_getR_ok (ci := 7) (k := 4) rfl (by decide) (by decide) hw_848 (show decode cX9_figure 44 = .ok (.getfield 22, 3) by decide +kernel)
  · exact x_aload_n_ok (show decode cX9_figure 47 = .ok (.aload_n 0, 1) by decide +kernel) rfl
  · exact x_getI_ok (ci := 7) (k := 10) rfl (by decide) (by decide) hw_854 (show decode cX9_figure 48 = .ok (.getfield 92, 3) by decide +kernel)
  · exact x_aload_n_ok (show decode cX9_figure 51 = .ok (.aload_n 0, 1) by decide +kernel) rfl
  · exact x_getI_ok (ci := 7) (k := 11) rfl (by decide) (by decide) hw_855 (show decode cX9_figure 52 = .ok (.getfield 95, 3) by decide +kernel)
  · exact x_iadd_ok (show decode cX9_figure 55 = .ok (.iadd, 1) by decide +kernel)
  · exact x_iconst_ok (show decode cX9_figure 56 = .ok (.iconst 1, 1) by decide +kernel) (by decide)
  · exact x_isub_ok (show decode cX9_figure 57 = .ok (.isub, 1) by decide +kernel)
  · exact x_iald_ok (show decode cX9_figure 58 = .ok (.iaload, 1) by decide +kernel)
  · exact x_bipush_ok (show decode cX9_figure 59 = .ok (.bipush 48, 2) by decide +kernel) (by decide)
  · exact x_isub_ok (show decode cX9_figure 61 = .ok (.isub, 1) by decide +kernel)
  · exact x_iret_ok (show decode cX9_figure 62 = .ok (.ireturn, 1) by decide +kernel)
noncomputable def FX9_figure : List Value → xS → Option xR := xden tX9_figure 2 (some .int) 0
theorem sX9_figure (l : Launch) : xSound l yX9_figure cX9_figure 2 (some .int) 2 0 FX9_figure := x_den (by decide) (tX9_figure_ok l)
