noncomputable def tX9_readsName : List (Nat × xO) := [(0, x_aload 0 1), (1, x_callV 7 0 1 FX9_here), (4, x_call 0 1 FX9_kindOfLetter), (7, x_istore 1 1), (8, x_iload 1 1), (9, x_push (.int (-9)) 2), (11, x_cmpeq 23), (14, x_aload 0 1), (15, x_getI 7 14), (18, x_push (.int (nI 8)) 2), (20, x_cmpne 25), (23, x_push (.int (nI 0)) 1), (24, x_iret), (25, x_aload 0 1), (26, x_dup), (27, x_getI 7 11), (30, x_push (.int (nI 1)) 1), (31, x_ii (fun x y => x + y)), (32, x_putI 7 11), (35, x_aload 0 1), (36, x_getR 7 13), (39, x_push (.int (nI 8)) 2), (41, x_aload 0 1), (42, x_getI 7 14), (45, x_ii (fun x y => x * y)), (46, x_iload 1 1), (47, x_iast), (48, x_push (.int (nI 1)) 1), (49, x_istore 2 1), (50, x_iload 2 1), (51, x_push (.int (nI 8)) 2), (53, x_cmpge 120), (56, x_aload 0 1), (57, x_iload 2 1), (58, x_push (.int (nI 4)) 1), (59, x_cmpge 66), (62, x_push (.int (nI 5)) 1), (63, x_goto 87), (66, x_iload 2 1), (67, x_push (.int (nI 5)) 1), (68, x_cmpne 75), (71, x_push (.int (nI 3)) 1), (72, x_goto 87), (75, x_iload 2 1), (76, x_push (.int (nI 7)) 2), (78, x_cmpne 85), (81, x_push (.int (nI 1)) 1), (82, x_goto 87), (85, x_push (.int (nI 9)) 2), (87, x_callV 7 0 2 FX9_figure), (90, x_istore 3 1), (91, x_iload 3 1), (92, x_push (.int (-9)) 2), (94, x_cmpne 99), (97, x_push (.int (nI 0)) 1), (98, x_iret), (99, x_aload 0 1), (100, x_getR 7 13), (103, x_push (.int (nI 8)) 2), (105, x_aload 0 1), (106, x_getI 7 14), (109, x_ii (fun x y => x * y)), (110, x_iload 2 1), (111, x_ii (fun x y => x + y)), (112, x_iload 3 1), (113, x_iast), (114, x_iinc 2 (nI 1)), (117, x_goto 50), (120, x_aload 0 1), (121, x_dup), (122, x_getI 7 14), (125, x_push (.int (nI 1)) 1), (126, x_ii (fun x y => x + y)), (127, x_putI 7 14), (130, x_push (.int (nI 1)) 1), (131, x_iret)]
set_option maxRecDepth 100000 in
theorem tX9_readsName_ok (l : Launch) : ∀ q ∈ tX9_readsName, xOK l cX9_readsName RX9 4 3 0 (yX9_readsName.name = "<init>") q.1 q.2 := by
  unfold tX9_readsName
  refine List.forall_mem_cons.mpr ⟨?_, List.forall_mem_cons.mpr ⟨?_, List.forall_mem_cons.mpr ⟨?_, List.forall_mem_cons.mpr ⟨?_, List.forall_mem_cons.mpr ⟨?_, List.forall_mem_cons.mpr ⟨?_, List.forall_mem_cons.mpr ⟨?_, List.forall_mem_cons.mpr ⟨?_, List.forall_mem_cons.mpr ⟨?_, List.forall_mem_cons.mpr ⟨?_, List.forall_mem_cons.mpr ⟨?_, List.forall_mem_cons.mpr ⟨?_, List.forall_mem_cons.mpr ⟨?_, List.forall_mem_cons.mpr ⟨?_, List.forall_mem_cons.mpr ⟨?_, List.forall_mem_cons.mpr ⟨?_, List.forall_mem_cons.mpr ⟨?_, List.forall_mem_cons.mpr ⟨?_, List.forall_mem_cons.mpr ⟨?_, List.forall_mem_cons.mpr ⟨?_, List.forall_mem_cons.mpr ⟨?_, List.forall_mem_cons.mpr ⟨?_, List.forall_mem_cons.mpr ⟨?_, List.forall_mem_cons.mpr ⟨?_, List.forall_mem_cons.mpr ⟨?_, List.forall_mem_cons.mpr ⟨?_, List.forall_mem_cons.mpr ⟨?_, List.forall_mem_cons.mpr ⟨?_, List.forall_mem_cons.mpr ⟨?_, List.forall_mem_cons.mpr ⟨?_, List.forall_mem_cons.mpr ⟨?_, List.forall_mem_cons.mpr ⟨?_, List.forall_mem_cons.mpr ⟨?_, List.forall_mem_cons.mpr ⟨?_, List.forall_mem_cons.mpr ⟨?_, List.forall_mem_cons.mpr ⟨?_, List.forall_mem_cons.mpr ⟨?_, List.forall_mem_cons.mpr ⟨?_, List.forall_mem_cons.mpr ⟨?_, List.forall_mem_cons.mpr ⟨?_, List.forall_mem_cons.mpr ⟨?_, List.forall_mem_cons.mpr ⟨?_, List.forall_mem_cons.mpr ⟨?_, List.forall_mem_cons.mpr ⟨?_, List.forall_mem_cons.mpr ⟨?_, List.forall_mem_cons.mpr ⟨?_, List.forall_mem_cons.mpr ⟨?_, List.forall_mem_cons.mpr ⟨?_, List.forall_mem_cons.mpr ⟨?_, List.forall_mem_cons.mpr ⟨?_, List.forall_mem_cons.mpr ⟨?_, List.forall_mem_cons.mpr ⟨?_, List.forall_mem_cons.mpr ⟨?_, List.forall_mem_cons.mpr ⟨?_, List.forall_mem_cons.mpr ⟨?_, List.forall_mem_cons.mpr ⟨?_, List.forall_mem_cons.mpr ⟨?_, List.forall_mem_cons.mpr ⟨?_, List.forall_mem_cons.mpr ⟨?_, List.forall_mem_cons.mpr ⟨?_, List.forall_mem_cons.mpr ⟨?_, List.forall_mem_cons.mpr ⟨?_, List.forall_mem_cons.mpr ⟨?_, List.forall_mem_cons.mpr ⟨?_, List.forall_mem_cons.mpr ⟨?_, List.forall_mem_cons.mpr ⟨?_, List.forall_mem_cons.mpr ⟨?_, List.forall_mem_cons.mpr ⟨?_, List.forall_mem_cons.mpr ⟨?_, List.forall_mem_cons.mpr ⟨?_, List.forall_mem_cons.mpr ⟨?_, List.forall_mem_cons.mpr ⟨?_, List.forall_mem_cons.mpr ⟨?_, List.forall_mem_cons.mpr ⟨?_, List.forall_mem_cons.mpr ⟨?_, List.forall_mem_cons.mpr ⟨?_, fun _ h => absurd h List.not_mem_nil⟩⟩⟩⟩⟩⟩⟩⟩⟩⟩⟩⟩⟩⟩⟩⟩⟩⟩⟩⟩⟩⟩⟩⟩⟩⟩⟩⟩⟩⟩⟩⟩⟩⟩⟩⟩⟩⟩⟩⟩⟩⟩⟩⟩⟩⟩⟩⟩⟩⟩⟩⟩⟩⟩⟩⟩⟩⟩⟩⟩⟩⟩⟩⟩⟩⟩⟩⟩⟩⟩⟩⟩⟩⟩⟩⟩
  · exact x_aload_n_ok (show decode cX9_readsName 0 = .ok (.aload_n 0, 1) by decide +kernel) rfl
  · exact x_callV_ok (ci := 7) rfl (by decide) (sX9_here l) hw_986 hw_983 hw_985 hw_25 hw_68 ⟨by decide, by decide, by decide +kernel⟩ rfl (by decide) (by decide) (show decode cX9_readsName 1 = .ok (.invokevirtual 101, 3) by decide +kernel)
  · exact x_callS_ok (sX9_kindOfLetter l) hw_993 hw_991 hw_992 hw_68 ⟨by decide, by decide, by decide +kernel⟩ (by decide) (by decide) (show decode cX9_readsName 4 = .ok (.invokestatic 107, 3) by decide +kernel)
  · exact x_istore_n_ok (show decode cX9_readsName 7 = .ok (.istore_n 1, 1) by decide +kernel) rfl (by decide)
  · exact x_iload_n_ok (show decode cX9_readsName 8 = .ok (.iload_n 1, 1) by decide +kernel) rfl
  · exact x_bipush_ok (show decode cX9_readsName 9 = .ok (.bipush (-9), 2) by decide +kernel) (by decide)
  · exact x_cmpeq_ok (show decode cX9_readsName 11 = .ok (.if_icmp .eq 12, 3) by decide +kernel) (by decide)
  · exact x_aload_n_ok (show decode cX9_readsName 14 = .ok (.aload_n 0, 1) by decide +kernel) rfl
  · exact x_getI_ok (ci := 7) (k := 14) rfl (by decide) (by decide) hw_858 (show decode cX9_readsName 15 = .ok (.getfield 110, 3) by decide +kernel)
  · exact x_bipush_ok (show decode cX9_readsName 18 = .ok (.bipush 8, 2) by decide +kernel) (by decide)
  · exact x_cmpne_ok (show decode cX9_readsName 20 = .ok (.if_icmp .ne 5, 3) by decide +kernel) (by decide)
  · exact x_iconst_ok (show decode cX9_readsName 23 = .ok (.iconst 0, 1) by decide +kernel) (by decide)
  · exact x_iret_ok (show decode cX9_readsName 24 = .ok (.ireturn, 1) by decide +kernel)
  · exact x_aload_n_ok (show decode cX9_readsName 25 = .ok (.aload_n 0, 1) by decide +kernel) rfl
  · exact x_dup_ok (show decode cX9_readsName 26 = .ok (.dup, 1) by decide +kernel)
  · exact x_getI_ok (ci := 7) (k := 11) rfl (by decide) (by decide) hw_855 (show decode cX9_readsName 27 = .ok (.getfield 95, 3) by decide +kernel)
  · exact x_iconst_ok (show decode cX9_readsName 30 = .ok (.iconst 1, 1) by decide +kernel) (by decide)
  · exact x_iadd_ok (show decode cX9_readsName 31 = .ok (.iadd, 1) by decide +kernel)
  · exact x_putI_ok (ci := 7) (k := 11) rfl (by decide) (by decide) rfl hw_855 rfl (show decode cX9_readsName 32 = .ok (.putfield 95, 3) by decide +kernel)
  · exact x_aload_n_ok (show decode cX9_readsName 35 = .ok (.aload_n 0, 1) by decide +kernel) rfl
  · exact x_getR_ok (ci := 7) (k := 13) rfl (by decide) (by decide) hw_857 (show decode cX9_readsName 36 = .ok (.getfield 32, 3) by decide +kernel)
  · exact x_bipush_ok (show decode cX9_readsName 39 = .ok (.bipush 8, 2) by decide +kernel) (by decide)
  · exact x_aload_n_ok (show decode cX9_readsName 41 = .ok (.aload_n 0, 1) by decide +kernel) rfl
  · exact x_getI_ok (ci := 7) (k := 14) rfl (by decide) (by decide) hw_858 (show decode cX9_readsName 42 = .ok (.getfield 110, 3) by decide +kernel)
  · exact x_imul_ok (show decode cX9_readsName 45 = .ok (.imul, 1) by decide +kernel)
  · exact x_iload_n_ok (show decode cX9_readsName 46 = .ok (.iload_n 1, 1) by decide +kernel) rfl
  · exact x_iast_ok (show decode cX9_readsName 47 = .ok (.iastore, 1) by decide +kernel)
  · exact x_iconst_ok (show decode cX9_readsName 48 = .ok (.iconst 1, 1) by decide +kernel) (by decide)
  · exact x_istore_n_ok (show decode cX9_readsName 49 = .ok (.istore_n 2, 1) by decide +kernel) rfl (by decide)
  · exact x_iload_n_ok (show decode cX9_readsName 50 = .ok (.iload_n 2, 1) by decide +kernel) rfl
  · exact x_bipush_ok (show decode cX9_readsName 51 = .ok (.bipush 8, 2) by decide +kernel) (by decide)
  · exact x_cmpge_ok (show decode cX9_readsName 53 = .ok (.if_icmp .ge 67, 3) by decide +kernel) (by decide)
  · exact x_aload_n_ok (show decode cX9_readsName 56 = .ok (.aload_n 0, 1) by decide +kernel) rfl
  · exact x_iload_n_ok (show decode cX9_readsName 57 = .ok (.iload_n 2, 1) by decide +kernel) rfl
  · exact x_iconst_ok (show decode cX9_readsName 58 = .ok (.iconst 4, 1) by decide +kernel) (by decide)
  · exact x_cmpge_ok (show decode cX9_readsName 59 = .ok (.if_icmp .ge 7, 3) by decide +kernel) (by decide)
  · exact x_iconst_ok (show decode cX9_readsName 62 = .ok (.iconst 5, 1) by decide +kernel) (by decide)
  · exact x_goto_ok (show decode cX9_readsName 63 = .ok (.goto 24, 3) by decide +kernel) (by decide)
  · exact x_iload_n_ok (show decode cX9_readsName 66 = .ok (.iload_n 2, 1) by decide +kernel) rfl
  · exact x_iconst_ok (show decode cX9_readsName 67 = .ok (.iconst 5, 1) by decide +kernel) (by decide)
  · exact x_cmpne_ok (show decode cX9_readsName 68 = .ok (.if_icmp .ne 7, 3) by decide +kernel) (by decide)
  · exact x_iconst_ok (show decode cX9_readsName 71 = .ok (.iconst 3, 1) by decide +kernel) (by decide)
  · exact x_goto_ok (show decode cX9_readsName 72 = .ok (.goto 15, 3) by decide +kernel) (by decide)
  · exact x_iload_n_ok (show decode cX9_readsName 75 = .ok (.iload_n 2, 1) by decide +kernel) rfl
  · exact x_bipush_ok (show decode cX9_readsName 76 = .ok (.bipush 7, 2) by decide +kernel) (by decide)
  · exact x_cmpne_ok (show decode cX9_readsName 78 = .ok (.if_icmp .ne 7, 3) by decide +kernel) (by decide)
  · exact x_iconst_ok (show decode cX9_readsName 81 = .ok (.iconst 1, 1) by decide +kernel) (by decide)
  · exact x_goto_ok (show decode cX9_readsName 82 = .ok (.goto 5, 3) by decide +kernel) (by decide)
  · exact x_bipush_ok (show decode cX9_readsName 85 = .ok (.bipush 9, 2) by decide +kernel) (by decide)
  · exact x_callV_ok (ci := 7) rfl (by decide) (sX9_figure l) hw_997 hw_994 hw_996 hw_27 hw_68 ⟨by decide, by decide, by decide +kernel⟩ rfl (by decide) (by decide) (show decode cX9_readsName 87 = .ok (.invokevirtual 113, 3) by decide +kernel)
  · exact x_istore_n_ok (show decode cX9_readsName 90 = .ok (.istore_n 3, 1) by decide +kernel) rfl (by decide)
  · exact x_iload_n_ok (show decode cX9_readsName 91 = .ok (.iload_n 3, 1) by decide +kernel) rfl
  · exact x_bipush_ok (show decode cX9_readsName 92 = .ok (.bipush (-9), 2) by decide +kernel) (by decide)
  · exact x_cmpne_ok (show decode cX9_readsName 94 = .ok (.if_icmp .ne 5, 3) by decide +kernel) (by decide)
  · exact x_iconst_ok (show decode cX9_readsName 97 = .ok (.iconst 0, 1) by decide +kernel) (by decide)
  · exact x_iret_ok (show decode cX9_readsName 98 = .ok (.ireturn, 1) by decide +kernel)
  · exact x_aload_n_ok (show decode cX9_readsName 99 = .ok (.aload_n 0, 1) by decide +kernel) rfl
  · exact x_getR_ok (ci := 7) (k := 13) rfl (by decide) (by decide) hw_857 (show decode cX9_readsName 100 = .ok (.getfield 32, 3) by decide +kernel)
  · exact x_bipush_ok (show decode cX9_readsName 103 = .ok (.bipush 8, 2) by decide +kernel) (by decide)
  · exact x_aload_n_ok (show decode cX9_readsName 105 = .ok (.aload_n 0, 1) by decide +kernel) rfl
  · exact x_getI_ok (ci := 7) (k := 14) rfl (by decide) (by decide) hw_858 (show decode cX9_readsName 106 = .ok (.getfield 110, 3) by decide +kernel)
  · exact x_imul_ok (show decode cX9_readsName 109 = .ok (.imul, 1) by decide +kernel)
  · exact x_iload_n_ok (show decode cX9_readsName 110 = .ok (.iload_n 2, 1) by decide +kernel) rfl
  · exact x_iadd_ok (show decode cX9_readsName 111 = .ok (.iadd, 1) by decide +kernel)
  · exact x_iload_n_ok (show decode cX9_readsName 112 = .ok (.iload_n 3, 1) by decide +kernel) rfl
  · exact x_iast_ok (show decode cX9_readsName 113 = .ok (.iastore, 1) by decide +kernel)
  · exact x_iinc_ok (show decode cX9_readsName 114 = .ok (.iinc 2 1, 3) by decide +kernel) (by decide) (by decide)
  · exact x_goto_ok (show decode cX9_readsName 117 = .ok (.goto (-67), 3) by decide +kernel) (by decide)
  · exact x_aload_n_ok (show decode cX9_readsName 120 = .ok (.aload_n 0, 1) by decide +kernel) rfl
  · exact x_dup_ok (show decode cX9_readsName 121 = .ok (.dup, 1) by decide +kernel)
  · exact x_getI_ok (ci := 7) (k := 14) rfl (by decide) (by decide) hw_858 (show decode cX9_readsName 122 = .ok (.getfield 110, 3) by decide +kernel)
  · exact x_iconst_ok (show decode cX9_readsName 125 = .ok (.iconst 1, 1) by decide +kernel) (by decide)
  · exact x_iadd_ok (show decode cX9_readsName 126 = .ok (.iadd, 1) by decide +kernel)
  · exact x_putI_ok (ci := 7) (k := 14) rfl (by decide) (by decide) rfl hw_858 rfl (show decode cX9_readsName 127 = .ok (.putfield 110, 3) by decide +kernel)
  · exact x_iconst_ok (show decode cX9_readsName 130 = .ok (.iconst 1, 1) by decide +kernel) (by decide)
  · exact x_iret_ok (show decode cX9_readsName 131 = .ok (.ireturn, 1) by decide +kernel)
noncomputable def FX9_readsName : List Value → xS → Option xR := xden tX9_readsName 4 (some .boolean) 0
theorem sX9_readsName (l : Launch) : xSound l yX9_readsName cX9_readsName 4 (some .boolean) 3 0 FX9_readsName := x_den (by decide) (tX9_readsName_ok l)
noncomputable def tX9_faultOf : List (Nat × xO) := [(0, x_aload 0 1), (1, x_push (.int (nI 80)) 2), (3, x_iload 1 1), (4, x_ii (fun x y => x * y)), (5, x_putI 7 10), (8, x_aload 0 1), (9, x_push (.int (nI 0)) 1), (10, x_putI 7 11), (13, x_aload 0 1), (14, x_aload 0 1), (15, x_getR 7 3), (18, x_iload 1 1), (19, x_iald), (20, x_putI 7 12), (23, x_aload 0 1), (24, x_push (.int (nI 0)) 1), (25, x_putI 7 14), (28, x_aload 0 1), (29, x_callV 7 0 1 FX9_skip), (32, x_push (.int (nI 1)) 1), (33, x_istore 2 1), (34, x_iload 2 1), (35, x_ifeq 65), (38, x_aload 0 1), (39, x_getI 7 11), (42, x_aload 0 1), (43, x_getI 7 12), (46, x_cmpge 65), (49, x_aload 0 1), (50, x_callV 7 0 1 FX9_readsName), (53, x_istore 2 1), (54, x_iload 2 1), (55, x_ifeq 34), (58, x_aload 0 1), (59, x_callV 7 0 1 FX9_skip), (62, x_goto 34), (65, x_iload 2 1), (66, x_ifeq 81), (69, x_aload 0 1), (70, x_getI 7 14), (73, x_ifle 81), (76, x_push (.int (-9)) 2), (78, x_goto 85), (81, x_aload 0 1), (82, x_getI 7 11), (85, x_iret)]
set_option maxRecDepth 100000 in
theorem tX9_faultOf_ok (l : Launch) : ∀ q ∈ tX9_faultOf, xOK l cX9_faultOf RX9 3 4 0 (yX9_faultOf.name = "<init>") q.1 q.2 := by
  unfold tX9_faultOf
  refine List.forall_mem_cons.mpr ⟨?_, List.forall_mem_cons.mpr ⟨?_, List.forall_mem_cons.mpr ⟨?_, List.forall_mem_cons.mpr ⟨?_, List.forall_mem_cons.mpr ⟨?_, List.forall_mem_cons.mpr ⟨?_, List.forall_mem_cons.mpr ⟨?_, List.forall_mem_cons.mpr ⟨?_, List.forall_mem_cons.mpr ⟨?_, List.forall_mem_cons.mpr ⟨?_, List.forall_mem_cons.mpr ⟨?_, List.forall_mem_cons.mpr ⟨?_, List.forall_mem_cons.mpr ⟨?_, List.forall_mem_cons.mpr ⟨?_, List.forall_mem_cons.mpr ⟨?_, List.forall_mem_cons.mpr ⟨?_, List.forall_mem_cons.mpr ⟨?_, List.forall_mem_cons.mpr ⟨?_, List.forall_mem_cons.mpr ⟨?_, List.forall_mem_cons.mpr ⟨?_, List.forall_mem_cons.mpr ⟨?_, List.forall_mem_cons.mpr ⟨?_, List.forall_mem_cons.mpr ⟨?_, List.forall_mem_cons.mpr ⟨?_, List.forall_mem_cons.mpr ⟨?_, List.forall_mem_cons.mpr ⟨?_, List.forall_mem_cons.mpr ⟨?_, List.forall_mem_cons.mpr ⟨?_, List.forall_mem_cons.mpr ⟨?_, List.forall_mem_cons.mpr ⟨?_, List.forall_mem_cons.mpr ⟨?_, List.forall_mem_cons.mpr ⟨?_, List.forall_mem_cons.mpr ⟨?_, List.forall_mem_cons.mpr ⟨?_, List.forall_mem_cons.mpr ⟨?_, List.forall_mem_cons.mpr ⟨?_, List.forall_mem_cons.mpr ⟨?_, List.forall_mem_cons.mpr ⟨?_, List.forall_mem_cons.mpr ⟨?_, List.forall_mem_cons.mpr ⟨?_, List.forall_mem_cons.mpr ⟨?_, List.forall_mem_cons.mpr ⟨?_, List.forall_mem_cons.mpr ⟨?_, List.forall_mem_cons.mpr ⟨?_, List.forall_mem_cons.mpr ⟨?_, List.forall_mem_cons.mpr ⟨?_, fun _ h => absurd h List.not_mem_nil⟩⟩⟩⟩⟩⟩⟩⟩⟩⟩⟩⟩⟩⟩⟩⟩⟩⟩⟩⟩⟩⟩⟩⟩⟩⟩⟩⟩⟩⟩⟩⟩⟩⟩⟩⟩⟩⟩⟩⟩⟩⟩⟩⟩⟩⟩
  · exact x_aload_n_ok (show decode cX9_faultOf 0 = .ok (.aload_n 0, 1) by decide +kernel) rfl
  · exact x_bipush_ok (show decode cX9_faultOf 1 = .ok (.bipush 80, 2) by decide +kernel) (by decide)
  · exact x_iload_n_ok (show decode cX9_faultOf 3 = .ok (.iload_n 1, 1) by decide +kernel) rfl
  · exact x_imul_ok (show decode cX9_faultOf 4 = .ok (.imul, 1) by decide +kernel)
  · exact x_putI_ok (ci := 7) (k := 10) rfl (by decide) (by decide) rfl hw_854 rfl (show decode cX9_faultOf 5 = .ok (.putfield 92, 3) by decide +kernel)
  · exact x_aload_n_ok (show decode cX9_faultOf 8 = .ok (.aload_n 0, 1) by decide +kernel) rfl
  · exact x_iconst_ok (show decode cX9_faultOf 9 = .ok (.iconst 0, 1) by decide +kernel) (by decide)
  · exact x_putI_ok (ci := 7) (k := 11) rfl (by decide) (by decide) rfl hw_855 rfl (show decode cX9_faultOf 10 = .ok (.putfield 95, 3) by decide +kernel)
  · exact x_aload_n_ok (show decode cX9_faultOf 13 = .ok (.aload_n 0, 1) by decide +kernel) rfl
  · exact x_aload_n_ok (show decode cX9_faultOf 14 = .ok (.aload_n 0, 1) by decide +kernel) rfl
  · exact x_getR_ok (ci := 7) (k := 3) rfl (by decide) (by decide) hw_847 (show decode cX9_faultOf 15 = .ok (.getfield 19, 3) by decide +kernel)
  · exact x_iload_n_ok (show decode cX9_faultOf 18 = .ok (.iload_n 1, 1) by decide +kernel) rfl
  · exact x_iald_ok (show decode cX9_faultOf 19 = .ok (.iaload, 1) by decide +kernel)
  · exact x_putI_ok (ci := 7) (k := 12) rfl (by decide) (by decide) rfl hw_856 rfl (show decode cX9_faultOf 20 = .ok (.putfield 98, 3) by decide +kernel)
  · exact x_aload_n_ok (show decode cX9_faultOf 23 = .ok (.aload_n 0, 1) by decide +kernel) rfl
  · exact x_iconst_ok (show decode cX9_faultOf 24 = .ok (.iconst 0, 1) by decide +kernel) (by decide)
  · exact x_putI_ok (ci := 7) (k := 14) rfl (by decide) (by decide) rfl hw_858 rfl (show decode cX9_faultOf 25 = .ok (.putfield 110, 3) by decide +kernel)
  · exact x_aload_n_ok (show decode cX9_faultOf 28 = .ok (.aload_n 0, 1) by decide +kernel) rfl
  · exact x_callV_ok (ci := 7) rfl (by decide) (sX9_skip l) hw_982 hw_979 hw_981 hw_24 hw_68 ⟨by decide, by decide, by decide +kernel⟩ rfl (by decide) (by decide) (show decode cX9_faultOf 29 = .ok (.invokevirtual 116, 3) by decide +kernel)
  · exact x_iconst_ok (show decode cX9_faultOf 32 = .ok (.iconst 1, 1) by decide +kernel) (by decide)
  · exact x_istore_n_ok (show decode cX9_faultOf 33 = .ok (.istore_n 2, 1) by decide +kernel) rfl (by decide)
  · exact x_iload_n_ok (show decode cX9_faultOf 34 = .ok (.iload_n 2, 1) by decide +kernel) rfl
  · exact x_ifeq_ok (show decode cX9_faultOf 35 = .ok (.ifCond .eq 30, 3) by decide +kernel) (by decide)
  · exact x_aload_n_ok (show decode cX9_faultOf 38 = .ok (.aload_n 0, 1) by decide +kernel) rfl
  · exact x_getI_ok (ci := 7) (k := 11) rfl (by decide) (by decide) hw_855 (show decode cX9_faultOf 39 = .ok (.getfield 95, 3) by decide +kernel)
  · exact x_aload_n_ok (show decode cX9_faultOf 42 = .ok (.aload_n 0, 1) by decide +kernel) rfl
  · exact x_getI_ok (ci := 7) (k := 12) rfl (by decide) (by decide) hw_856 (show decode cX9_faultOf 43 = .ok (.getfield 98, 3) by decide +kernel)
  · exact x_cmpge_ok (show decode cX9_faultOf 46 = .ok (.if_icmp .ge 19, 3) by decide +kernel) (by decide)
  · exact x_aload_n_ok (show decode cX9_faultOf 49 = .ok (.aload_n 0, 1) by decide +kernel) rfl
  · exact x_callV_ok (ci := 7) rfl (by decide) (sX9_readsName l) hw_990 hw_987 hw_989 hw_26 hw_68 ⟨by decide, by decide, by decide +kernel⟩ rfl (by decide) (by decide) (show decode cX9_faultOf 50 = .ok (.invokevirtual 119, 3) by decide +kernel)
  · exact x_istore_n_ok (show decode cX9_faultOf 53 = .ok (.istore_n 2, 1) by decide +kernel) rfl (by decide)
  · exact x_iload_n_ok (show decode cX9_faultOf 54 = .ok (.iload_n 2, 1) by decide +kernel) rfl
  · exact x_ifeq_ok (show decode cX9_faultOf 55 = .ok (.ifCond .eq (-21), 3) by decide +kernel) (by decide)
  · exact x_aload_n_ok (show decode cX9_faultOf 58 = .ok (.aload_n 0, 1) by decide +kernel) rfl
  · exact x_callV_ok (ci := 7) rfl (by decide) (sX9_skip l) hw_982 hw_979 hw_981 hw_24 hw_68 ⟨by decide, by decide, by decide +kernel⟩ rfl (by decide) (by decide) (show decode cX9_faultOf 59 = .ok (.invokevirtual 116, 3) by decide +kernel)
  · exact x_goto_ok (show decode cX9_faultOf 62 = .ok (.goto (-28), 3) by decide +kernel) (by decide)
  · exact x_iload_n_ok (show decode cX9_faultOf 65 = .ok (.iload_n 2, 1) by decide +kernel) rfl
  · exact x_ifeq_ok (show decode cX9_faultOf 66 = .ok (.ifCond .eq 15, 3) by decide +kernel) (by decide)
  · exact x_aload_n_ok (show decode cX9_faultOf 69 = .ok (.aload_n 0, 1) by decide +kernel) rfl
  · exact x_getI_ok (ci := 7) (k := 14) rfl (by decide) (by decide) hw_858 (show decode cX9_faultOf 70 = .ok (.getfield 110, 3) by decide +kernel)
  · exact x_ifle_ok (show decode cX9_faultOf 73 = .ok (.ifCond .le 8, 3) by decide +kernel) (by decide)
  · exact x_bipush_ok (show decode cX9_faultOf 76 = .ok (.bipush (-9), 2) by decide +kernel) (by decide)
  · exact x_goto_ok (show decode cX9_faultOf 78 = .ok (.goto 7, 3) by decide +kernel) (by decide)
  · exact x_aload_n_ok (show decode cX9_faultOf 81 = .ok (.aload_n 0, 1) by decide +kernel) rfl
  · exact x_getI_ok (ci := 7) (k := 11) rfl (by decide) (by decide) hw_855 (show decode cX9_faultOf 82 = .ok (.getfield 95, 3) by decide +kernel)
  · exact x_iret_ok (show decode cX9_faultOf 85 = .ok (.ireturn, 1) by decide +kernel)
noncomputable def FX9_faultOf : List Value → xS → Option xR := xden tX9_faultOf 3 (some .int) 0
theorem sX9_faultOf (l : Launch) : xSound l yX9_faultOf cX9_faultOf 3 (some .int) 4 0 FX9_faultOf := x_den (by decide) (tX9_faultOf_ok l)
noncomputable def tX9_fault : List (Nat × xO) := [(0, x_iload 1 1), (1, x_call 0 1 FX9_isText), (4, x_ifne 9), (7, x_push (.int (-1)) 1), (8, x_iret), (9, x_aload 0 1), (10, x_getR 7 3), (13, x_iload 1 1), (14, x_iald), (15, x_ifge 26), (18, x_aload 0 1), (19, x_push (.int (nI 1)) 1), (20, x_callV 7 0 2 FX9_find), (23, x_goto 31), (26, x_aload 0 1), (27, x_iload 1 1), (28, x_callV 7 0 2 FX9_faultOf), (31, x_iret)]
set_option maxRecDepth 100000 in
theorem tX9_fault_ok (l : Launch) : ∀ q ∈ tX9_fault, xOK l cX9_fault RX9 2 5 0 (yX9_fault.name = "<init>") q.1 q.2 := by
  unfold tX9_fault
  refine List.forall_mem_cons.mpr ⟨?_, List.forall_mem_cons.mpr ⟨?_, List.forall_mem_cons.mpr ⟨?_, List.forall_mem_cons.mpr ⟨?_, List.forall_mem_cons.mpr ⟨?_, List.forall_mem_cons.mpr ⟨?_, List.forall_mem_cons.mpr ⟨?_, List.forall_mem_cons.mpr ⟨?_, List.forall_mem_cons.mpr ⟨?_, List.forall_mem_cons.mpr ⟨?_, List.forall_mem_cons.mpr ⟨?_, List.forall_mem_cons.mpr ⟨?_, List.forall_mem_cons.mpr ⟨?_, List.forall_mem_cons.mpr ⟨?_, List.forall_mem_cons.mpr ⟨?_, List.forall_mem_cons.mpr ⟨?_, List.forall_mem_cons.mpr ⟨?_, List.forall_mem_cons.mpr ⟨?_, fun _ h => absurd h List.not_mem_nil⟩⟩⟩⟩⟩⟩⟩⟩⟩⟩⟩⟩⟩⟩⟩⟩⟩⟩
  · exact x_iload_n_ok (show decode cX9_fault 0 = .ok (.iload_n 1, 1) by decide +kernel) rfl
  · exact x_callS_ok (sX9_isText l) hw_965 hw_963 hw_964 hw_68 ⟨by decide, by decide, by decide +kernel⟩ (by decide) (by decide) (show decode cX9_fault 1 = .ok (.invokestatic 89, 3) by decide +kernel)
  · exact x_ifne_ok (show decode cX9_fault 4 = .ok (.ifCond .ne 5, 3) by decide +kernel) (by decide)
  · exact x_iconst_ok (show decode cX9_fault 7 = .ok (.iconst (-1), 1) by decide +kernel) (by decide)
  · exact x_iret_ok (show decode cX9_fault 8 = .ok (.ireturn, 1) by decide +kernel)
  · exact x_aload_n_ok (show decode cX9_fault 9 = .ok (.aload_n 0, 1) by decide +kernel) rfl
  · exact x_getR_ok (ci := 7) (k := 3) rfl (by decide) (by decide) hw_847 (show decode cX9_fault 10 = .ok (.getfield 19, 3) by decide +kernel)
  · exact x_iload_n_ok (show decode cX9_fault 13 = .ok (.iload_n 1, 1) by decide +kernel) rfl
  · exact x_iald_ok (show decode cX9_fault 14 = .ok (.iaload, 1) by decide +kernel)
  · exact x_ifge_ok (show decode cX9_fault 15 = .ok (.ifCond .ge 11, 3) by decide +kernel) (by decide)
  · exact x_aload_n_ok (show decode cX9_fault 18 = .ok (.aload_n 0, 1) by decide +kernel) rfl
  · exact x_iconst_ok (show decode cX9_fault 19 = .ok (.iconst 1, 1) by decide +kernel) (by decide)
  · exact x_callV_ok (ci := 7) rfl (by decide) (sX9_find l) hw_922 hw_919 hw_921 hw_18 hw_68 ⟨by decide, by decide, by decide +kernel⟩ rfl (by decide) (by decide) (show decode cX9_fault 20 = .ok (.invokevirtual 70, 3) by decide +kernel)
  · exact x_goto_ok (show decode cX9_fault 23 = .ok (.goto 8, 3) by decide +kernel) (by decide)
  · exact x_aload_n_ok (show decode cX9_fault 26 = .ok (.aload_n 0, 1) by decide +kernel) rfl
  · exact x_iload_n_ok (show decode cX9_fault 27 = .ok (.iload_n 1, 1) by decide +kernel) rfl
  · exact x_callV_ok (ci := 7) rfl (by decide) (sX9_faultOf l) hw_978 hw_975 hw_977 hw_23 hw_68 ⟨by decide, by decide, by decide +kernel⟩ rfl (by decide) (by decide) (show decode cX9_fault 28 = .ok (.invokevirtual 123, 3) by decide +kernel)
  · exact x_iret_ok (show decode cX9_fault 31 = .ok (.ireturn, 1) by decide +kernel)
noncomputable def FX9_fault : List Value → xS → Option xR := xden tX9_fault 2 (some .int) 0
theorem sX9_fault (l : Launch) : xSound l yX9_fault cX9_fault 2 (some .int) 5 0 FX9_fault := x_den (by decide) (tX9_fault_ok l)
noncomputable def tX4_begin : List (Nat × xO) := [(0, x_aload 0 1), (1, x_push (.int (nI 0)) 1), (2, x_putI 3 1), (5, x_aload 0 1), (6, x_push (.int (nI 0)) 1), (7, x_putI 3 3), (10, x_aload 0 1), (11, x_push (.int (nI 0)) 1), (12, x_putI 3 4), (15, x_vret)]
set_option maxRecDepth 100000 in
theorem tX4_begin_ok (l : Launch) : ∀ q ∈ tX4_begin, xOK l cX4_begin RX4 1 1 0 (yX4_begin.name = "<init>") q.1 q.2 := by
  unfold tX4_begin
  refine List.forall_mem_cons.mpr ⟨?_, List.forall_mem_cons.mpr ⟨?_, List.forall_mem_cons.mpr ⟨?_, List.forall_mem_cons.mpr ⟨?_, List.forall_mem_cons.mpr ⟨?_, List.forall_mem_cons.mpr ⟨?_, List.forall_mem_cons.mpr ⟨?_, List.forall_mem_cons.mpr ⟨?_, List.forall_mem_cons.mpr ⟨?_, List.forall_mem_cons.mpr ⟨?_, fun _ h => absurd h List.not_mem_nil⟩⟩⟩⟩⟩⟩⟩⟩⟩⟩
  · exact x_aload_n_ok (show decode cX4_begin 0 = .ok (.aload_n 0, 1) by decide +kernel) rfl
  · exact x_iconst_ok (show decode cX4_begin 1 = .ok (.iconst 0, 1) by decide +kernel) (by decide)
  · exact x_putI_ok (ci := 3) (k := 1) rfl (by decide) (by decide) rfl hw_175 rfl (show decode cX4_begin 2 = .ok (.putfield 22, 3) by decide +kernel)
  · exact x_aload_n_ok (show decode cX4_begin 5 = .ok (.aload_n 0, 1) by decide +kernel) rfl
  · exact x_iconst_ok (show decode cX4_begin 6 = .ok (.iconst 0, 1) by decide +kernel) (by decide)
  · exact x_putI_ok (ci := 3) (k := 3) rfl (by decide) (by decide) rfl hw_179 rfl (show decode cX4_begin 7 = .ok (.putfield 26, 3) by decide +kernel)
  · exact x_aload_n_ok (show decode cX4_begin 10 = .ok (.aload_n 0, 1) by decide +kernel) rfl
  · exact x_iconst_ok (show decode cX4_begin 11 = .ok (.iconst 0, 1) by decide +kernel) (by decide)
  · exact x_putI_ok (ci := 3) (k := 4) rfl (by decide) (by decide) rfl hw_181 rfl (show decode cX4_begin 12 = .ok (.putfield 29, 3) by decide +kernel)
  · exact x_vret_ok (show decode cX4_begin 15 = .ok (.return_, 1) by decide +kernel)
noncomputable def FX4_begin : List Value → xS → Option xR := xden tX4_begin 1 none 0
theorem sX4_begin (l : Launch) : xSound l yX4_begin cX4_begin 1 none 1 0 FX4_begin := x_den (by decide) (tX4_begin_ok l)
noncomputable def tX4_grow : List (Nat × xO) := [(0, x_aload 0 1), (1, x_getR 3 0), (4, x_aload 0 1), (5, x_getI 3 1), (8, x_aald), (9, x_astore 1 1), (10, x_aload 0 1), (11, x_dup), (12, x_getI 3 1), (15, x_push (.int (nI 1)) 1), (16, x_ii (fun x y => x + y)), (17, x_putI 3 1), (20, x_aload 1 1), (21, x_aret)]
set_option maxRecDepth 100000 in
theorem tX4_grow_ok (l : Launch) : ∀ q ∈ tX4_grow, xOK l cX4_grow RX4 2 1 0 (yX4_grow.name = "<init>") q.1 q.2 := by
  unfold tX4_grow
  refine List.forall_mem_cons.mpr ⟨?_, List.forall_mem_cons.mpr ⟨?_, List.forall_mem_cons.mpr ⟨?_, List.forall_mem_cons.mpr ⟨?_, List.forall_mem_cons.mpr ⟨?_, List.forall_mem_cons.mpr ⟨?_, List.forall_mem_cons.mpr ⟨?_, List.forall_mem_cons.mpr ⟨?_, List.forall_mem_cons.mpr ⟨?_, List.forall_mem_cons.mpr ⟨?_, List.forall_mem_cons.mpr ⟨?_, List.forall_mem_cons.mpr ⟨?_, List.forall_mem_cons.mpr ⟨?_, List.forall_mem_cons.mpr ⟨?_, fun _ h => absurd h List.not_mem_nil⟩⟩⟩⟩⟩⟩⟩⟩⟩⟩⟩⟩⟩⟩
  · exact x_aload_n_ok (show decode cX4_grow 0 = .ok (.aload_n 0, 1) by decide +kernel) rfl
  · exact x_getR_ok (ci := 3) (k := 0) rfl (by decide) (by decide) hw_173 (show decode cX4_grow 1 = .ok (.getfield 13, 3) by decide +kernel)
  · exact x_aload_n_ok (show decode cX4_grow 4 = .ok (.aload_n 0, 1) by decide +kernel) rfl
  · exact x_getI_ok (ci := 3) (k := 1) rfl (by decide) (by decide) hw_175 (show decode cX4_grow 5 = .ok (.getfield 22, 3) by decide +kernel)
  · exact x_aald_ok (show decode cX4_grow 8 = .ok (.aaload, 1) by decide +kernel)
  · exact x_astore_n_ok (show decode cX4_grow 9 = .ok (.astore_n 1, 1) by decide +kernel) rfl (by decide)
  · exact x_aload_n_ok (show decode cX4_grow 10 = .ok (.aload_n 0, 1) by decide +kernel) rfl
  · exact x_dup_ok (show decode cX4_grow 11 = .ok (.dup, 1) by decide +kernel)
  · exact x_getI_ok (ci := 3) (k := 1) rfl (by decide) (by decide) hw_175 (show decode cX4_grow 12 = .ok (.getfield 22, 3) by decide +kernel)
  · exact x_iconst_ok (show decode cX4_grow 15 = .ok (.iconst 1, 1) by decide +kernel) (by decide)
  · exact x_iadd_ok (show decode cX4_grow 16 = .ok (.iadd, 1) by decide +kernel)
  · exact x_putI_ok (ci := 3) (k := 1) rfl (by decide) (by decide) rfl hw_175 rfl (show decode cX4_grow 17 = .ok (.putfield 22, 3) by decide +kernel)
  · exact x_aload_n_ok (show decode cX4_grow 20 = .ok (.aload_n 1, 1) by decide +kernel) rfl
  · exact x_aret_ok (show decode cX4_grow 21 = .ok (.areturn, 1) by decide +kernel)
noncomputable def FX4_grow : List Value → xS → Option xR := xden tX4_grow 2 (some (.object "ShadeNames$Name")) 0
theorem sX4_grow (l : Launch) : xSound l yX4_grow cX4_grow 2 (some (.object "ShadeNames$Name")) 1 0 FX4_grow := x_den (by decide) (tX4_grow_ok l)
noncomputable def tX7_figure : List (Nat × xO) := [(0, x_aload 0 1), (1, x_getR 5 0), (4, x_iload 1 1), (5, x_bald), (6, x_push (.int (nI 48)) 2), (8, x_ii (fun x y => x - y)), (9, x_iret)]
set_option maxRecDepth 100000 in
theorem tX7_figure_ok (l : Launch) : ∀ q ∈ tX7_figure, xOK l cX7_figure RX7 2 1 0 (yX7_figure.name = "<init>") q.1 q.2 := by
  unfold tX7_figure
  refine List.forall_mem_cons.mpr ⟨?_, List.forall_mem_cons.mpr ⟨?_, List.forall_mem_cons.mpr ⟨?_, List.forall_mem_cons.mpr ⟨?_, List.forall_mem_cons.mpr ⟨?_, List.forall_mem_cons.mpr ⟨?_, List.forall_mem_cons.mpr ⟨?_, fun _ h => absurd h List.not_mem_nil⟩⟩⟩⟩⟩⟩⟩
  · exact x_aload_n_ok (show decode cX7_figure 0 = .ok (.aload_n 0, 1) by decide +kernel) rfl
  · exact x_getR_ok (ci := 5) (k := 0) rfl (by decide) (by decide) hw_114 (show decode cX7_figure 1 = .ok (.getfield 11, 3) by decide +kernel)
  · exact x_iload_n_ok (show decode cX7_figure 4 = .ok (.iload_n 1, 1) by decide +kernel) rfl
  · exact x_bald_ok (show decode cX7_figure 5 = .ok (.baload, 1) by decide +kernel)
  · exact x_bipush_ok (show decode cX7_figure 6 = .ok (.bipush 48, 2) by decide +kernel) (by decide)
  · exact x_isub_ok (show decode cX7_figure 8 = .ok (.isub, 1) by decide +kernel)
  · exact x_iret_ok (show decode cX7_figure 9 = .ok (.ireturn, 1) by decide +kernel)
noncomputable def FX7_figure : List Value → xS → Option xR := xden tX7_figure 2 (some .int) 0
theorem sX7_figure (l : Launch) : xSound l yX7_figure cX7_figure 2 (some .int) 1 0 FX7_figure := x_den (by decide) (tX7_figure_ok l)
noncomputable def tX6_of : List (Nat × xO) := [(0, x_push (.int (nI 36)) 2), (2, x_iload 0 1), (3, x_ii (fun x y => x * y)), (4, x_push (.int (nI 6)) 2), (6, x_iload 1 1), (7, x_ii (fun x y => x * y)), (8, x_ii (fun x y => x + y)), (9, x_iload 2 1), (10, x_ii (fun x y => x + y)), (11, x_iret)]
set_option maxRecDepth 100000 in
theorem tX6_of_ok (l : Launch) : ∀ q ∈ tX6_of, xOK l cX6_of RX6 3 1 0 (yX6_of.name = "<init>") q.1 q.2 := by
  unfold tX6_of
  refine List.forall_mem_cons.mpr ⟨?_, List.forall_mem_cons.mpr ⟨?_, List.forall_mem_cons.mpr ⟨?_, List.forall_mem_cons.mpr ⟨?_, List.forall_mem_cons.mpr ⟨?_, List.forall_mem_cons.mpr ⟨?_, List.forall_mem_cons.mpr ⟨?_, List.forall_mem_cons.mpr ⟨?_, List.forall_mem_cons.mpr ⟨?_, List.forall_mem_cons.mpr ⟨?_, fun _ h => absurd h List.not_mem_nil⟩⟩⟩⟩⟩⟩⟩⟩⟩⟩
  · exact x_bipush_ok (show decode cX6_of 0 = .ok (.bipush 36, 2) by decide +kernel) (by decide)
  · exact x_iload_n_ok (show decode cX6_of 2 = .ok (.iload_n 0, 1) by decide +kernel) rfl
  · exact x_imul_ok (show decode cX6_of 3 = .ok (.imul, 1) by decide +kernel)
  · exact x_bipush_ok (show decode cX6_of 4 = .ok (.bipush 6, 2) by decide +kernel) (by decide)
  · exact x_iload_n_ok (show decode cX6_of 6 = .ok (.iload_n 1, 1) by decide +kernel) rfl
  · exact x_imul_ok (show decode cX6_of 7 = .ok (.imul, 1) by decide +kernel)
  · exact x_iadd_ok (show decode cX6_of 8 = .ok (.iadd, 1) by decide +kernel)
  · exact x_iload_n_ok (show decode cX6_of 9 = .ok (.iload_n 2, 1) by decide +kernel) rfl
  · exact x_iadd_ok (show decode cX6_of 10 = .ok (.iadd, 1) by decide +kernel)
  · exact x_iret_ok (show decode cX6_of 11 = .ok (.ireturn, 1) by decide +kernel)
noncomputable def FX6_of : List Value → xS → Option xR := xden tX6_of 3 (some .int) 0
theorem sX6_of (l : Launch) : xSound l yX6_of cX6_of 3 (some .int) 1 0 FX6_of := x_den (by decide) (tX6_of_ok l)
noncomputable def tX7_writeItem : List (Nat × xO) := [(0, x_aload 2 1), (1, x_aload 0 1), (2, x_getR 5 0), (5, x_iload 1 1), (6, x_bald), (7, x_call 0 1 FX1_ofLetter), (10, x_putI 1 0), (13, x_aload 2 1), (14, x_aload 0 1), (15, x_iload 1 1), (16, x_push (.int (nI 1)) 1), (17, x_ii (fun x y => x + y)), (18, x_callV 5 0 2 FX7_figure), (21, x_aload 0 1), (22, x_iload 1 1), (23, x_push (.int (nI 2)) 1), (24, x_ii (fun x y => x + y)), (25, x_callV 5 0 2 FX7_figure), (28, x_aload 0 1), (29, x_iload 1 1), (30, x_push (.int (nI 3)) 1), (31, x_ii (fun x y => x + y)), (32, x_callV 5 0 2 FX7_figure), (35, x_call 0 3 FX6_of), (38, x_putI 1 1), (41, x_aload 2 1), (42, x_aload 0 1), (43, x_iload 1 1), (44, x_push (.int (nI 4)) 1), (45, x_ii (fun x y => x + y)), (46, x_callV 5 0 2 FX7_figure), (49, x_putI 1 2), (52, x_aload 2 1), (53, x_aload 0 1), (54, x_iload 1 1), (55, x_push (.int (nI 5)) 1), (56, x_ii (fun x y => x + y)), (57, x_callV 5 0 2 FX7_figure), (60, x_putI 1 3), (63, x_aload 2 1), (64, x_aload 0 1), (65, x_iload 1 1), (66, x_push (.int (nI 6)) 2), (68, x_ii (fun x y => x + y)), (69, x_callV 5 0 2 FX7_figure), (72, x_putI 1 4), (75, x_aload 2 1), (76, x_aload 0 1), (77, x_iload 1 1), (78, x_push (.int (nI 7)) 2), (80, x_ii (fun x y => x + y)), (81, x_callV 5 0 2 FX7_figure), (84, x_push (.int (nI 1)) 1), (85, x_cmpne 92), (88, x_push (.int (nI 1)) 1), (89, x_goto 93), (92, x_push (.int (nI 0)) 1), (93, x_putZ 1 5), (96, x_vret)]
set_option maxRecDepth 100000 in
theorem tX7_writeItem_ok (l : Launch) : ∀ q ∈ tX7_writeItem, xOK l cX7_writeItem RX7 3 5 0 (yX7_writeItem.name = "<init>") q.1 q.2 := by
  unfold tX7_writeItem
  refine List.forall_mem_cons.mpr ⟨?_, List.forall_mem_cons.mpr ⟨?_, List.forall_mem_cons.mpr ⟨?_, List.forall_mem_cons.mpr ⟨?_, List.forall_mem_cons.mpr ⟨?_, List.forall_mem_cons.mpr ⟨?_, List.forall_mem_cons.mpr ⟨?_, List.forall_mem_cons.mpr ⟨?_, List.forall_mem_cons.mpr ⟨?_, List.forall_mem_cons.mpr ⟨?_, List.forall_mem_cons.mpr ⟨?_, List.forall_mem_cons.mpr ⟨?_, List.forall_mem_cons.mpr ⟨?_, List.forall_mem_cons.mpr ⟨?_, List.forall_mem_cons.mpr ⟨?_, List.forall_mem_cons.mpr ⟨?_, List.forall_mem_cons.mpr ⟨?_, List.forall_mem_cons.mpr ⟨?_, List.forall_mem_cons.mpr ⟨?_, List.forall_mem_cons.mpr ⟨?_, List.forall_mem_cons.mpr ⟨?_, List.forall_mem_cons.mpr ⟨?_, List.forall_mem_cons.mpr ⟨?_, List.forall_mem_cons.mpr ⟨?_, List.forall_mem_cons.mpr ⟨?_, List.forall_mem_cons.mpr ⟨?_, List.forall_mem_cons.mpr ⟨?_, List.forall_mem_cons.mpr ⟨?_, List.forall_mem_cons.mpr ⟨?_, List.forall_mem_cons.mpr ⟨?_, List.forall_mem_cons.mpr ⟨?_, List.forall_mem_cons.mpr ⟨?_, List.forall_mem_cons.mpr ⟨?_, List.forall_mem_cons.mpr ⟨?_, List.forall_mem_cons.mpr ⟨?_, List.forall_mem_cons.mpr ⟨?_, List.forall_mem_cons.mpr ⟨?_, List.forall_mem_cons.mpr ⟨?_, List.forall_mem_cons.mpr ⟨?_, List.forall_mem_cons.mpr ⟨?_, List.forall_mem_cons.mpr ⟨?_, List.forall_mem_cons.mpr ⟨?_, List.forall_mem_cons.mpr ⟨?_, List.forall_mem_cons.mpr ⟨?_, List.forall_mem_cons.mpr ⟨?_, List.forall_mem_cons.mpr ⟨?_, List.forall_mem_cons.mpr ⟨?_, List.forall_mem_cons.mpr ⟨?_, List.forall_mem_cons.mpr ⟨?_, List.forall_mem_cons.mpr ⟨?_, List.forall_mem_cons.mpr ⟨?_, List.forall_mem_cons.mpr ⟨?_, List.forall_mem_cons.mpr ⟨?_, List.forall_mem_cons.mpr ⟨?_, List.forall_mem_cons.mpr ⟨?_, List.forall_mem_cons.mpr ⟨?_, List.forall_mem_cons.mpr ⟨?_, List.forall_mem_cons.mpr ⟨?_, List.forall_mem_cons.mpr ⟨?_, fun _ h => absurd h List.not_mem_nil⟩⟩⟩⟩⟩⟩⟩⟩⟩⟩⟩⟩⟩⟩⟩⟩⟩⟩⟩⟩⟩⟩⟩⟩⟩⟩⟩⟩⟩⟩⟩⟩⟩⟩⟩⟩⟩⟩⟩⟩⟩⟩⟩⟩⟩⟩⟩⟩⟩⟩⟩⟩⟩⟩⟩⟩⟩⟩⟩
  · exact x_aload_n_ok (show decode cX7_writeItem 0 = .ok (.aload_n 2, 1) by decide +kernel) rfl
  · exact x_aload_n_ok (show decode cX7_writeItem 1 = .ok (.aload_n 0, 1) by decide +kernel) rfl
  · exact x_getR_ok (ci := 5) (k := 0) rfl (by decide) (by decide) hw_114 (show decode cX7_writeItem 2 = .ok (.getfield 11, 3) by decide +kernel)
  · exact x_iload_n_ok (show decode cX7_writeItem 5 = .ok (.iload_n 1, 1) by decide +kernel) rfl
  · exact x_bald_ok (show decode cX7_writeItem 6 = .ok (.baload, 1) by decide +kernel)
  · exact x_callS_ok (sX1_ofLetter l) hw_361 hw_359 hw_360 hw_70 ⟨by decide, by decide, by decide +kernel⟩ (by decide) (by decide) (show decode cX7_writeItem 7 = .ok (.invokestatic 29, 3) by decide +kernel)
  · exact x_putI_ok (ci := 1) (k := 0) rfl (by decide) (by decide) rfl hw_139 rfl (show decode cX7_writeItem 10 = .ok (.putfield 53, 3) by decide +kernel)
  · exact x_aload_n_ok (show decode cX7_writeItem 13 = .ok (.aload_n 2, 1) by decide +kernel) rfl
  · exact x_aload_n_ok (show decode cX7_writeItem 14 = .ok (.aload_n 0, 1) by decide +kernel) rfl
  · exact x_iload_n_ok (show decode cX7_writeItem 15 = .ok (.iload_n 1, 1) by decide +kernel) rfl
  · exact x_iconst_ok (show decode cX7_writeItem 16 = .ok (.iconst 1, 1) by decide +kernel) (by decide)
  · exact x_iadd_ok (show decode cX7_writeItem 17 = .ok (.iadd, 1) by decide +kernel)
  · exact x_callV_ok (ci := 5) rfl (by decide) (sX7_figure l) hw_437 hw_434 hw_436 hw_6 hw_63 ⟨by decide, by decide, by decide +kernel⟩ rfl (by decide) (by decide) (show decode cX7_writeItem 18 = .ok (.invokevirtual 58, 3) by decide +kernel)
  · exact x_aload_n_ok (show decode cX7_writeItem 21 = .ok (.aload_n 0, 1) by decide +kernel) rfl
  · exact x_iload_n_ok (show decode cX7_writeItem 22 = .ok (.iload_n 1, 1) by decide +kernel) rfl
  · exact x_iconst_ok (show decode cX7_writeItem 23 = .ok (.iconst 2, 1) by decide +kernel) (by decide)
  · exact x_iadd_ok (show decode cX7_writeItem 24 = .ok (.iadd, 1) by decide +kernel)
  · exact x_callV_ok (ci := 5) rfl (by decide) (sX7_figure l) hw_437 hw_434 hw_436 hw_6 hw_63 ⟨by decide, by decide, by decide +kernel⟩ rfl (by decide) (by decide) (show decode cX7_writeItem 25 = .ok (.invokevirtual 58, 3) by decide +kernel)
  · exact x_aload_n_ok (show decode cX7_writeItem 28 = .ok (.aload_n 0, 1) by decide +kernel) rfl
  · exact x_iload_n_ok (show decode cX7_writeItem 29 = .ok (.iload_n 1, 1) by decide +kernel) rfl
  · exact x_iconst_ok (show decode cX7_writeItem 30 = .ok (.iconst 3, 1) by decide +kernel) (by decide)
  · exact x_iadd_ok (show decode cX7_writeItem 31 = .ok (.iadd, 1) by decide +kernel)
  · exact x_callV_ok (ci := 5) rfl (by decide) (sX7_figure l) hw_437 hw_434 hw_436 hw_6 hw_63 ⟨by decide, by decide, by decide +kernel⟩ rfl (by decide) (by decide) (show decode cX7_writeItem 32 = .ok (.invokevirtual 58, 3) by decide +kernel)
  · exact x_callS_ok (sX6_of l) hw_440 hw_438 hw_439 hw_75 ⟨by decide, by decide, by decide +kernel⟩ (by decide) (by decide) (show decode cX7_writeItem 35 = .ok (.invokestatic 61, 3) by decide +kernel)
  · exact x_putI_ok (ci := 1) (k := 1) rfl (by decide) (by decide) rfl hw_143 rfl (show decode cX7_writeItem 38 = .ok (.putfield 67, 3) by decide +kernel)
  · exact x_aload_n_ok (show decode cX7_writeItem 41 = .ok (.aload_n 2, 1) by decide +kernel) rfl
  · exact x_aload_n_ok (show decode cX7_writeItem 42 = .ok (.aload_n 0, 1) by decide +kernel) rfl
  · exact x_iload_n_ok (show decode cX7_writeItem 43 = .ok (.iload_n 1, 1) by decide +kernel) rfl
  · exact x_iconst_ok (show decode cX7_writeItem 44 = .ok (.iconst 4, 1) by decide +kernel) (by decide)
  · exact x_iadd_ok (show decode cX7_writeItem 45 = .ok (.iadd, 1) by decide +kernel)
  · exact x_callV_ok (ci := 5) rfl (by decide) (sX7_figure l) hw_437 hw_434 hw_436 hw_6 hw_63 ⟨by decide, by decide, by decide +kernel⟩ rfl (by decide) (by decide) (show decode cX7_writeItem 46 = .ok (.invokevirtual 58, 3) by decide +kernel)
  · exact x_putI_ok (ci := 1) (k := 2) rfl (by decide) (by decide) rfl hw_146 rfl (show decode cX7_writeItem 49 = .ok (.putfield 70, 3) by decide +kernel)
  · exact x_aload_n_ok (show decode cX7_writeItem 52 = .ok (.aload_n 2, 1) by decide +kernel) rfl
  · exact x_aload_n_ok (show decode cX7_writeItem 53 = .ok (.aload_n 0, 1) by decide +kernel) rfl
  · exact x_iload_n_ok (show decode cX7_writeItem 54 = .ok (.iload_n 1, 1) by decide +kernel) rfl
  · exact x_iconst_ok (show decode cX7_writeItem 55 = .ok (.iconst 5, 1) by decide +kernel) (by decide)
  · exact x_iadd_ok (show decode cX7_writeItem 56 = .ok (.iadd, 1) by decide +kernel)
  · exact x_callV_ok (ci := 5) rfl (by decide) (sX7_figure l) hw_437 hw_434 hw_436 hw_6 hw_63 ⟨by decide, by decide, by decide +kernel⟩ rfl (by decide) (by decide) (show decode cX7_writeItem 57 = .ok (.invokevirtual 58, 3) by decide +kernel)
  · exact x_putI_ok (ci := 1) (k := 3) rfl (by decide) (by decide) rfl hw_150 rfl (show decode cX7_writeItem 60 = .ok (.putfield 73, 3) by decide +kernel)
  · exact x_aload_n_ok (show decode cX7_writeItem 63 = .ok (.aload_n 2, 1) by decide +kernel) rfl
  · exact x_aload_n_ok (show decode cX7_writeItem 64 = .ok (.aload_n 0, 1) by decide +kernel) rfl
  · exact x_iload_n_ok (show decode cX7_writeItem 65 = .ok (.iload_n 1, 1) by decide +kernel) rfl
  · exact x_bipush_ok (show decode cX7_writeItem 66 = .ok (.bipush 6, 2) by decide +kernel) (by decide)
  · exact x_iadd_ok (show decode cX7_writeItem 68 = .ok (.iadd, 1) by decide +kernel)
  · exact x_callV_ok (ci := 5) rfl (by decide) (sX7_figure l) hw_437 hw_434 hw_436 hw_6 hw_63 ⟨by decide, by decide, by decide +kernel⟩ rfl (by decide) (by decide) (show decode cX7_writeItem 69 = .ok (.invokevirtual 58, 3) by decide +kernel)
  · exact x_putI_ok (ci := 1) (k := 4) rfl (by decide) (by decide) rfl hw_154 rfl (show decode cX7_writeItem 72 = .ok (.putfield 76, 3) by decide +kernel)
  · exact x_aload_n_ok (show decode cX7_writeItem 75 = .ok (.aload_n 2, 1) by decide +kernel) rfl
  · exact x_aload_n_ok (show decode cX7_writeItem 76 = .ok (.aload_n 0, 1) by decide +kernel) rfl
  · exact x_iload_n_ok (show decode cX7_writeItem 77 = .ok (.iload_n 1, 1) by decide +kernel) rfl
  · exact x_bipush_ok (show decode cX7_writeItem 78 = .ok (.bipush 7, 2) by decide +kernel) (by decide)
  · exact x_iadd_ok (show decode cX7_writeItem 80 = .ok (.iadd, 1) by decide +kernel)
  · exact x_callV_ok (ci := 5) rfl (by decide) (sX7_figure l) hw_437 hw_434 hw_436 hw_6 hw_63 ⟨by decide, by decide, by decide +kernel⟩ rfl (by decide) (by decide) (show decode cX7_writeItem 81 = .ok (.invokevirtual 58, 3) by decide +kernel)
  · exact x_iconst_ok (show decode cX7_writeItem 84 = .ok (.iconst 1, 1) by decide +kernel) (by decide)
  · exact x_cmpne_ok (show decode cX7_writeItem 85 = .ok (.if_icmp .ne 7, 3) by decide +kernel) (by decide)
  · exact x_iconst_ok (show decode cX7_writeItem 88 = .ok (.iconst 1, 1) by decide +kernel) (by decide)
  · exact x_goto_ok (show decode cX7_writeItem 89 = .ok (.goto 4, 3) by decide +kernel) (by decide)
  · exact x_iconst_ok (show decode cX7_writeItem 92 = .ok (.iconst 0, 1) by decide +kernel) (by decide)
  · exact x_putZ_ok (ci := 1) (k := 5) rfl (by decide) (by decide) rfl hw_158 rfl (show decode cX7_writeItem 93 = .ok (.putfield 79, 3) by decide +kernel)
  · exact x_vret_ok (show decode cX7_writeItem 96 = .ok (.return_, 1) by decide +kernel)
noncomputable def FX7_writeItem : List Value → xS → Option xR := xden tX7_writeItem 3 none 0
theorem sX7_writeItem (l : Launch) : xSound l yX7_writeItem cX7_writeItem 3 none 5 0 FX7_writeItem := x_den (by decide) (tX7_writeItem_ok l)
noncomputable def tX7_writeInto : List (Nat × xO) := [(0, x_aload 1 1), (1, x_callV 3 0 1 FX4_begin), (4, x_push (.int (nI 0)) 1), (5, x_istore 2 1), (6, x_iload 2 1), (7, x_push (.int (nI 8)) 2), (9, x_ii (fun x y => x + y)), (10, x_aload 0 1), (11, x_getI 5 1), (14, x_cmpgt 58), (17, x_aload 1 1), (18, x_getI 3 1), (21, x_push (.int (nI 8)) 2), (23, x_cmpge 58), (26, x_aload 0 1), (27, x_getR 5 0), (30, x_iload 2 1), (31, x_bald), (32, x_push (.int (nI 32)) 2), (34, x_cmpne 43), (37, x_iinc 2 (nI 1)), (40, x_goto 6), (43, x_aload 0 1), (44, x_iload 2 1), (45, x_aload 1 1), (46, x_callV 3 0 1 FX4_grow), (49, x_callV 5 0 3 FX7_writeItem), (52, x_iinc 2 (nI 8)), (55, x_goto 6), (58, x_vret)]
set_option maxRecDepth 100000 in
theorem tX7_writeInto_ok (l : Launch) : ∀ q ∈ tX7_writeInto, xOK l cX7_writeInto RX7 3 6 0 (yX7_writeInto.name = "<init>") q.1 q.2 := by
  unfold tX7_writeInto
  refine List.forall_mem_cons.mpr ⟨?_, List.forall_mem_cons.mpr ⟨?_, List.forall_mem_cons.mpr ⟨?_, List.forall_mem_cons.mpr ⟨?_, List.forall_mem_cons.mpr ⟨?_, List.forall_mem_cons.mpr ⟨?_, List.forall_mem_cons.mpr ⟨?_, List.forall_mem_cons.mpr ⟨?_, List.forall_mem_cons.mpr ⟨?_, List.forall_mem_cons.mpr ⟨?_, List.forall_mem_cons.mpr ⟨?_, List.forall_mem_cons.mpr ⟨?_, List.forall_mem_cons.mpr ⟨?_, List.forall_mem_cons.mpr ⟨?_, List.forall_mem_cons.mpr ⟨?_, List.forall_mem_cons.mpr ⟨?_, List.forall_mem_cons.mpr ⟨?_, List.forall_mem_cons.mpr ⟨?_, List.forall_mem_cons.mpr ⟨?_, List.forall_mem_cons.mpr ⟨?_, List.forall_mem_cons.mpr ⟨?_, List.forall_mem_cons.mpr ⟨?_, List.forall_mem_cons.mpr ⟨?_, List.forall_mem_cons.mpr ⟨?_, List.forall_mem_cons.mpr ⟨?_, List.forall_mem_cons.mpr ⟨?_, List.forall_mem_cons.mpr ⟨?_, List.forall_mem_cons.mpr ⟨?_, List.forall_mem_cons.mpr ⟨?_, List.forall_mem_cons.mpr ⟨?_, fun _ h => absurd h List.not_mem_nil⟩⟩⟩⟩⟩⟩⟩⟩⟩⟩⟩⟩⟩⟩⟩⟩⟩⟩⟩⟩⟩⟩⟩⟩⟩⟩⟩⟩⟩⟩
  · exact x_aload_n_ok (show decode cX7_writeInto 0 = .ok (.aload_n 1, 1) by decide +kernel) rfl
  · exact x_callV_ok (ci := 3) rfl (by decide) (sX4_begin l) hw_425 hw_422 hw_423 hw_424 hw_64 ⟨by decide, by decide, by decide +kernel⟩ rfl (by decide) (by decide) (show decode cX7_writeInto 1 = .ok (.invokevirtual 41, 3) by decide +kernel)
  · exact x_iconst_ok (show decode cX7_writeInto 4 = .ok (.iconst 0, 1) by decide +kernel) (by decide)
  · exact x_istore_n_ok (show decode cX7_writeInto 5 = .ok (.istore_n 2, 1) by decide +kernel) rfl (by decide)
  · exact x_iload_n_ok (show decode cX7_writeInto 6 = .ok (.iload_n 2, 1) by decide +kernel) rfl
  · exact x_bipush_ok (show decode cX7_writeInto 7 = .ok (.bipush 8, 2) by decide +kernel) (by decide)
  · exact x_iadd_ok (show decode cX7_writeInto 9 = .ok (.iadd, 1) by decide +kernel)
  · exact x_aload_n_ok (show decode cX7_writeInto 10 = .ok (.aload_n 0, 1) by decide +kernel) rfl
  · exact x_getI_ok (ci := 5) (k := 1) rfl (by decide) (by decide) hw_116 (show decode cX7_writeInto 11 = .ok (.getfield 15, 3) by decide +kernel)
  · exact x_cmpgt_ok (show decode cX7_writeInto 14 = .ok (.if_icmp .gt 44, 3) by decide +kernel) (by decide)
  · exact x_aload_n_ok (show decode cX7_writeInto 17 = .ok (.aload_n 1, 1) by decide +kernel) rfl
  · exact x_getI_ok (ci := 3) (k := 1) rfl (by decide) (by decide) hw_176 (show decode cX7_writeInto 18 = .ok (.getfield 44, 3) by decide +kernel)
  · exact x_bipush_ok (show decode cX7_writeInto 21 = .ok (.bipush 8, 2) by decide +kernel) (by decide)
  · exact x_cmpge_ok (show decode cX7_writeInto 23 = .ok (.if_icmp .ge 35, 3) by decide +kernel) (by decide)
  · exact x_aload_n_ok (show decode cX7_writeInto 26 = .ok (.aload_n 0, 1) by decide +kernel) rfl
  · exact x_getR_ok (ci := 5) (k := 0) rfl (by decide) (by decide) hw_114 (show decode cX7_writeInto 27 = .ok (.getfield 11, 3) by decide +kernel)
  · exact x_iload_n_ok (show decode cX7_writeInto 30 = .ok (.iload_n 2, 1) by decide +kernel) rfl
  · exact x_bald_ok (show decode cX7_writeInto 31 = .ok (.baload, 1) by decide +kernel)
  · exact x_bipush_ok (show decode cX7_writeInto 32 = .ok (.bipush 32, 2) by decide +kernel) (by decide)
  · exact x_cmpne_ok (show decode cX7_writeInto 34 = .ok (.if_icmp .ne 9, 3) by decide +kernel) (by decide)
  · exact x_iinc_ok (show decode cX7_writeInto 37 = .ok (.iinc 2 1, 3) by decide +kernel) (by decide) (by decide)
  · exact x_goto_ok (show decode cX7_writeInto 40 = .ok (.goto (-34), 3) by decide +kernel) (by decide)
  · exact x_aload_n_ok (show decode cX7_writeInto 43 = .ok (.aload_n 0, 1) by decide +kernel) rfl
  · exact x_iload_n_ok (show decode cX7_writeInto 44 = .ok (.iload_n 2, 1) by decide +kernel) rfl
  · exact x_aload_n_ok (show decode cX7_writeInto 45 = .ok (.aload_n 1, 1) by decide +kernel) rfl
  · exact x_callV_ok (ci := 3) rfl (by decide) (sX4_grow l) hw_429 hw_426 hw_427 hw_428 hw_64 ⟨by decide, by decide, by decide +kernel⟩ rfl (by decide) (by decide) (show decode cX7_writeInto 46 = .ok (.invokevirtual 45, 3) by decide +kernel)
  · exact x_callV_ok (ci := 5) rfl (by decide) (sX7_writeItem l) hw_433 hw_430 hw_432 hw_5 hw_63 ⟨by decide, by decide, by decide +kernel⟩ rfl (by decide) (by decide) (show decode cX7_writeInto 49 = .ok (.invokevirtual 49, 3) by decide +kernel)
  · exact x_iinc_ok (show decode cX7_writeInto 52 = .ok (.iinc 2 8, 3) by decide +kernel) (by decide) (by decide)
  · exact x_goto_ok (show decode cX7_writeInto 55 = .ok (.goto (-49), 3) by decide +kernel) (by decide)
  · exact x_vret_ok (show decode cX7_writeInto 58 = .ok (.return_, 1) by decide +kernel)
noncomputable def FX7_writeInto : List Value → xS → Option xR := xden tX7_writeInto 3 none 0
theorem sX7_writeInto (l : Launch) : xSound l yX7_writeInto cX7_writeInto 3 none 6 0 FX7_writeInto := x_den (by decide) (tX7_writeInto_ok l)
noncomputable def tX8_registry : List (Nat × xO) := [(0, x_aload 0 1), (1, x_iload 1 1), (2, x_callV 6 0 2 FX8_refusalOfText), (5, x_istore 2 1), (6, x_iload 2 1), (7, x_ifeq 12), (10, x_iload 2 1), (11, x_iret), (12, x_aload 0 1), (13, x_getR 6 1), (16, x_iload 1 1), (17, x_aald), (18, x_callV 5 0 1 FX7_firstFault), (21, x_push (.int (-9)) 2), (23, x_cmpeq 29), (26, x_push (.int (-4)) 2), (28, x_iret), (29, x_aload 0 1), (30, x_getR 6 1), (33, x_iload 1 1), (34, x_aald), (35, x_aload 0 1), (36, x_getR 6 2), (39, x_callV 5 0 2 FX7_writeInto), (42, x_push (.int (nI 0)) 1), (43, x_istore 3 1), (44, x_iload 3 1), (45, x_push (.int (nI 3)) 1), (46, x_cmpge 64), (49, x_aload 0 1), (50, x_getR 6 3), (53, x_iload 3 1), (54, x_aald), (55, x_callV 3 0 1 FX4_begin), (58, x_iinc 3 (nI 1)), (61, x_goto 44), (64, x_aload 0 1), (65, x_getR 6 2), (68, x_getI 3 1), (71, x_iret)]
set_option maxRecDepth 100000 in
theorem tX8_registry_ok (l : Launch) : ∀ q ∈ tX8_registry, xOK l cX8_registry RX8 4 8 0 (yX8_registry.name = "<init>") q.1 q.2 := by
  unfold tX8_registry
  refine List.forall_mem_cons.mpr ⟨?_, List.forall_mem_cons.mpr ⟨?_, List.forall_mem_cons.mpr ⟨?_, List.forall_mem_cons.mpr ⟨?_, List.forall_mem_cons.mpr ⟨?_, List.forall_mem_cons.mpr ⟨?_, List.forall_mem_cons.mpr ⟨?_, List.forall_mem_cons.mpr ⟨?_, List.forall_mem_cons.mpr ⟨?_, List.forall_mem_cons.mpr ⟨?_, List.forall_mem_cons.mpr ⟨?_, List.forall_mem_cons.mpr ⟨?_, List.forall_mem_cons.mpr ⟨?_, List.forall_mem_cons.mpr ⟨?_, List.forall_mem_cons.mpr ⟨?_, List.forall_mem_cons.mpr ⟨?_, List.forall_mem_cons.mpr ⟨?_, List.forall_mem_cons.mpr ⟨?_, List.forall_mem_cons.mpr ⟨?_, List.forall_mem_cons.mpr ⟨?_, List.forall_mem_cons.mpr ⟨?_, List.forall_mem_cons.mpr ⟨?_, List.forall_mem_cons.mpr ⟨?_, List.forall_mem_cons.mpr ⟨?_, List.forall_mem_cons.mpr ⟨?_, List.forall_mem_cons.mpr ⟨?_, List.forall_mem_cons.mpr ⟨?_, List.forall_mem_cons.mpr ⟨?_, List.forall_mem_cons.mpr ⟨?_, List.forall_mem_cons.mpr ⟨?_, List.forall_mem_cons.mpr ⟨?_, List.forall_mem_cons.mpr ⟨?_, List.forall_mem_cons.mpr ⟨?_, List.forall_mem_cons.mpr ⟨?_, List.forall_mem_cons.mpr ⟨?_, List.forall_mem_cons.mpr ⟨?_, List.forall_mem_cons.mpr ⟨?_, List.forall_mem_cons.mpr ⟨?_, List.forall_mem_cons.mpr ⟨?_, List.forall_mem_cons.mpr ⟨?_, fun _ h => absurd h List.not_mem_nil⟩⟩⟩⟩⟩⟩⟩⟩⟩⟩⟩⟩⟩⟩⟩⟩⟩⟩⟩⟩⟩⟩⟩⟩⟩⟩⟩⟩⟩⟩⟩⟩⟩⟩⟩⟩⟩⟩⟩⟩
  · exact x_aload_n_ok (show decode cX8_registry 0 = .ok (.aload_n 0, 1) by decide +kernel) rfl
  · exact x_iload_n_ok (show decode cX8_registry 1 = .ok (.iload_n 1, 1) by decide +kernel) rfl
  · exact x_callV_ok (ci := 6) rfl (by decide) (sX8_refusalOfText l) hw_339 hw_336 hw_338 hw_3 hw_61 ⟨by decide, by decide, by decide +kernel⟩ rfl (by decide) (by decide) (show decode cX8_registry 2 = .ok (.invokevirtual 115, 3) by decide +kernel)
  · exact x_istore_n_ok (show decode cX8_registry 5 = .ok (.istore_n 2, 1) by decide +kernel) rfl (by decide)
  · exact x_iload_n_ok (show decode cX8_registry 6 = .ok (.iload_n 2, 1) by decide +kernel) rfl
  · exact x_ifeq_ok (show decode cX8_registry 7 = .ok (.ifCond .eq 5, 3) by decide +kernel) (by decide)
  · exact x_iload_n_ok (show decode cX8_registry 10 = .ok (.iload_n 2, 1) by decide +kernel) rfl
  · exact x_iret_ok (show decode cX8_registry 11 = .ok (.ireturn, 1) by decide +kernel)
  · exact x_aload_n_ok (show decode cX8_registry 12 = .ok (.aload_n 0, 1) by decide +kernel) rfl
  · exact x_getR_ok (ci := 6) (k := 1) rfl (by decide) (by decide) hw_223 (show decode cX8_registry 13 = .ok (.getfield 18, 3) by decide +kernel)
  · exact x_iload_n_ok (show decode cX8_registry 16 = .ok (.iload_n 1, 1) by decide +kernel) rfl
  · exact x_aald_ok (show decode cX8_registry 17 = .ok (.aaload, 1) by decide +kernel)
  · exact x_callV_ok (ci := 5) rfl (by decide) (sX7_firstFault l) hw_351 hw_348 hw_349 hw_350 hw_63 ⟨by decide, by decide, by decide +kernel⟩ rfl (by decide) (by decide) (show decode cX8_registry 18 = .ok (.invokevirtual 123, 3) by decide +kernel)
  · exact x_bipush_ok (show decode cX8_registry 21 = .ok (.bipush (-9), 2) by decide +kernel) (by decide)
  · exact x_cmpeq_ok (show decode cX8_registry 23 = .ok (.if_icmp .eq 6, 3) by decide +kernel) (by decide)
  · exact x_bipush_ok (show decode cX8_registry 26 = .ok (.bipush (-4), 2) by decide +kernel) (by decide)
  · exact x_iret_ok (show decode cX8_registry 28 = .ok (.ireturn, 1) by decide +kernel)
  · exact x_aload_n_ok (show decode cX8_registry 29 = .ok (.aload_n 0, 1) by decide +kernel) rfl
  · exact x_getR_ok (ci := 6) (k := 1) rfl (by decide) (by decide) hw_223 (show decode cX8_registry 30 = .ok (.getfield 18, 3) by decide +kernel)
  · exact x_iload_n_ok (show decode cX8_registry 33 = .ok (.iload_n 1, 1) by decide +kernel) rfl
  · exact x_aald_ok (show decode cX8_registry 34 = .ok (.aaload, 1) by decide +kernel)
  · exact x_aload_n_ok (show decode cX8_registry 35 = .ok (.aload_n 0, 1) by decide +kernel) rfl
  · exact x_getR_ok (ci := 6) (k := 2) rfl (by decide) (by decide) hw_224 (show decode cX8_registry 36 = .ok (.getfield 26, 3) by decide +kernel)
  · exact x_callV_ok (ci := 5) rfl (by decide) (sX7_writeInto l) hw_421 hw_418 hw_419 hw_420 hw_63 ⟨by decide, by decide, by decide +kernel⟩ rfl (by decide) (by decide) (show decode cX8_registry 39 = .ok (.invokevirtual 127, 3) by decide +kernel)
  · exact x_iconst_ok (show decode cX8_registry 42 = .ok (.iconst 0, 1) by decide +kernel) (by decide)
  · exact x_istore_n_ok (show decode cX8_registry 43 = .ok (.istore_n 3, 1) by decide +kernel) rfl (by decide)
  · exact x_iload_n_ok (show decode cX8_registry 44 = .ok (.iload_n 3, 1) by decide +kernel) rfl
  · exact x_iconst_ok (show decode cX8_registry 45 = .ok (.iconst 3, 1) by decide +kernel) (by decide)
  · exact x_cmpge_ok (show decode cX8_registry 46 = .ok (.if_icmp .ge 18, 3) by decide +kernel) (by decide)
  · exact x_aload_n_ok (show decode cX8_registry 49 = .ok (.aload_n 0, 1) by decide +kernel) rfl
  · exact x_getR_ok (ci := 6) (k := 3) rfl (by decide) (by decide) hw_225 (show decode cX8_registry 50 = .ok (.getfield 30, 3) by decide +kernel)
  · exact x_iload_n_ok (show decode cX8_registry 53 = .ok (.iload_n 3, 1) by decide +kernel) rfl
  · exact x_aald_ok (show decode cX8_registry 54 = .ok (.aaload, 1) by decide +kernel)
  · exact x_callV_ok (ci := 3) rfl (by decide) (sX4_begin l) hw_425 hw_441 hw_423 hw_424 hw_64 ⟨by decide, by decide, by decide +kernel⟩ rfl (by decide) (by decide) (show decode cX8_registry 55 = .ok (.invokevirtual 131, 3) by decide +kernel)
  · exact x_iinc_ok (show decode cX8_registry 58 = .ok (.iinc 3 1, 3) by decide +kernel) (by decide) (by decide)
  · exact x_goto_ok (show decode cX8_registry 61 = .ok (.goto (-17), 3) by decide +kernel) (by decide)
  · exact x_aload_n_ok (show decode cX8_registry 64 = .ok (.aload_n 0, 1) by decide +kernel) rfl
  · exact x_getR_ok (ci := 6) (k := 2) rfl (by decide) (by decide) hw_224 (show decode cX8_registry 65 = .ok (.getfield 26, 3) by decide +kernel)
  · exact x_getI_ok (ci := 3) (k := 1) rfl (by decide) (by decide) hw_177 (show decode cX8_registry 68 = .ok (.getfield 133, 3) by decide +kernel)
  · exact x_iret_ok (show decode cX8_registry 71 = .ok (.ireturn, 1) by decide +kernel)
noncomputable def FX8_registry : List Value → xS → Option xR := xden tX8_registry 4 (some .int) 0
theorem sX8_registry (l : Launch) : xSound l yX8_registry cX8_registry 4 (some .int) 8 0 FX8_registry := x_den (by decide) (tX8_registry_ok l)
noncomputable def tX9_registry : List (Nat × xO) := [(0, x_iload 1 1), (1, x_call 0 1 FX9_isText), (4, x_ifne 9), (7, x_push (.int (-1)) 1), (8, x_iret), (9, x_aload 0 1), (10, x_getR 7 3), (13, x_iload 1 1), (14, x_iald), (15, x_ifge 24), (18, x_aload 0 1), (19, x_push (.int (nI 1)) 1), (20, x_callV 7 0 2 FX9_find), (23, x_iret), (24, x_aload 0 1), (25, x_iload 1 1), (26, x_callV 7 0 2 FX9_faultOf), (29, x_push (.int (-9)) 2), (31, x_cmpeq 37), (34, x_push (.int (-4)) 2), (36, x_iret), (37, x_push (.int (nI 0)) 1), (38, x_istore 2 1), (39, x_iload 2 1), (40, x_push (.int (nI 426)) 3), (43, x_cmpge 59), (46, x_aload 0 1), (47, x_getR 7 0), (50, x_iload 2 1), (51, x_push (.int (nI 0)) 1), (52, x_iast), (53, x_iinc 2 (nI 1)), (56, x_goto 39), (59, x_aload 0 1), (60, x_getR 7 0), (63, x_push (.int (nI 1)) 1), (64, x_aload 0 1), (65, x_getI 7 14), (68, x_iast), (69, x_push (.int (nI 0)) 1), (70, x_istore 2 1), (71, x_iload 2 1), (72, x_aload 0 1), (73, x_getI 7 14), (76, x_cmpge 168), (79, x_aload 0 1), (80, x_getR 7 0), (83, x_push (.int (nI 2)) 1), (84, x_iload 2 1), (85, x_ii (fun x y => x + y)), (86, x_aload 0 1), (87, x_getR 7 13), (90, x_push (.int (nI 8)) 2), (92, x_iload 2 1), (93, x_ii (fun x y => x * y)), (94, x_push (.int (nI 1)) 1), (95, x_ii (fun x y => x + y)), (96, x_iald), (97, x_iast), (98, x_aload 0 1), (99, x_getR 7 0), (102, x_push (.int (nI 10)) 2), (104, x_push (.int (nI 7)) 2), (106, x_iload 2 1), (107, x_ii (fun x y => x * y)), (108, x_ii (fun x y => x + y)), (109, x_push (.int (nI 0)) 1), (110, x_ii (fun x y => x + y)), (111, x_aload 0 1), (112, x_getR 7 13), (115, x_push (.int (nI 8)) 2), (117, x_iload 2 1), (118, x_ii (fun x y => x * y)), (119, x_iald), (120, x_iast), (121, x_push (.int (nI 2)) 1), (122, x_istore 3 1), (123, x_iload 3 1), (124, x_push (.int (nI 8)) 2), (126, x_cmpge 162), (129, x_aload 0 1), (130, x_getR 7 0), (133, x_push (.int (nI 10)) 2), (135, x_push (.int (nI 7)) 2), (137, x_iload 2 1), (138, x_ii (fun x y => x * y)), (139, x_ii (fun x y => x + y)), (140, x_iload 3 1), (141, x_ii (fun x y => x + y)), (142, x_push (.int (nI 1)) 1), (143, x_ii (fun x y => x - y)), (144, x_aload 0 1), (145, x_getR 7 13), (148, x_push (.int (nI 8)) 2), (150, x_iload 2 1), (151, x_ii (fun x y => x * y)), (152, x_iload 3 1), (153, x_ii (fun x y => x + y)), (154, x_iald), (155, x_iast), (156, x_iinc 3 (nI 1)), (159, x_goto 123), (162, x_iinc 2 (nI 1)), (165, x_goto 71), (168, x_push (.int (nI 1)) 1), (169, x_istore 2 1), (170, x_iload 2 1), (171, x_push (.int (nI 4)) 1), (172, x_cmpge 194), (175, x_aload 0 1), (176, x_getR 7 0), (179, x_push (.int (nI 426)) 3), (182, x_iload 2 1), (183, x_ii (fun x y => x * y)), (184, x_push (.int (nI 0)) 1), (185, x_ii (fun x y => x + y)), (186, x_push (.int (-1)) 1), (187, x_iast), (188, x_iinc 2 (nI 1)), (191, x_goto 170), (194, x_aload 0 1), (195, x_getI 7 14), (198, x_iret)]
set_option maxRecDepth 100000 in
theorem tX9_registry_ok (l : Launch) : ∀ q ∈ tX9_registry, xOK l cX9_registry RX9 4 5 0 (yX9_registry.name = "<init>") q.1 q.2 := by
  unfold tX9_registry
  refine List.forall_mem_cons.mpr ⟨?_, List.forall_mem_cons.mpr ⟨?_, List.forall_mem_cons.mpr ⟨?_, List.forall_mem_cons.mpr ⟨?_, List.forall_mem_cons.mpr ⟨?_, List.forall_mem_cons.mpr ⟨?_, List.forall_mem_cons.mpr ⟨?_, List.forall_mem_cons.mpr ⟨?_, List.forall_mem_cons.mpr ⟨?_, List.forall_mem_cons.mpr ⟨?_, List.forall_mem_cons.mpr ⟨?_, List.forall_mem_cons.mpr ⟨?_, List.forall_mem_cons.mpr ⟨?_, List.forall_mem_cons.mpr ⟨?_, List.forall_mem_cons.mpr ⟨?_, List.forall_mem_cons.mpr ⟨?_, List.forall_mem_cons.mpr ⟨?_, List.forall_mem_cons.mpr ⟨?_, List.forall_mem_cons.mpr ⟨?_, List.forall_mem_cons.mpr ⟨?_, List.forall_mem_cons.mpr ⟨?_, List.forall_mem_cons.mpr ⟨?_, List.forall_mem_cons.mpr ⟨?_, List.forall_mem_cons.mpr ⟨?_, List.forall_mem_cons.mpr ⟨?_, List.forall_mem_cons.mpr ⟨?_, List.forall_mem_cons.mpr ⟨?_, List.forall_mem_cons.mpr ⟨?_, List.forall_mem_cons.mpr ⟨?_, List.forall_mem_cons.mpr ⟨?_, List.forall_mem_cons.mpr ⟨?_, List.forall_mem_cons.mpr ⟨?_, List.forall_mem_cons.mpr ⟨?_, List.forall_mem_cons.mpr ⟨?_, List.forall_mem_cons.mpr ⟨?_, List.forall_mem_cons.mpr ⟨?_, List.forall_mem_cons.mpr ⟨?_, List.forall_mem_cons.mpr ⟨?_, List.forall_mem_cons.mpr ⟨?_, List.forall_mem_cons.mpr ⟨?_, List.forall_mem_cons.mpr ⟨?_, List.forall_mem_cons.mpr ⟨?_, List.forall_mem_cons.mpr ⟨?_, List.forall_mem_cons.mpr ⟨?_, List.forall_mem_cons.mpr ⟨?_, List.forall_mem_cons.mpr ⟨?_, List.forall_mem_cons.mpr ⟨?_, List.forall_mem_cons.mpr ⟨?_, List.forall_mem_cons.mpr ⟨?_, List.forall_mem_cons.mpr ⟨?_, List.forall_mem_cons.mpr ⟨?_, List.forall_mem_cons.mpr ⟨?_, List.forall_mem_cons.mpr ⟨?_, List.forall_mem_cons.mpr ⟨?_, List.forall_mem_cons.mpr ⟨?_, List.forall_mem_cons.mpr ⟨?_, List.forall_mem_cons.mpr ⟨?_, List.forall_mem_cons.mpr ⟨?_, List.forall_mem_cons.mpr ⟨?_, List.forall_mem_cons.mpr ⟨?_, List.forall_mem_cons.mpr ⟨?_, List.forall_mem_cons.mpr ⟨?_, List.forall_mem_cons.mpr ⟨?_, List.forall_mem_cons.mpr ⟨?_, List.forall_mem_cons.mpr ⟨?_, List.forall_mem_cons.mpr ⟨?_, List.forall_mem_cons.mpr ⟨?_, List.forall_mem_cons.mpr ⟨?_, List.forall_mem_cons.mpr ⟨?_, List.forall_mem_cons.mpr ⟨?_, List.forall_mem_cons.mpr ⟨?_, List.forall_mem_cons.mpr ⟨?_, List.forall_mem_cons.mpr ⟨?_, List.forall_mem_cons.mpr ⟨?_, List.forall_mem_cons.mpr ⟨?_, List.forall_mem_cons.mpr ⟨?_, List.forall_mem_cons.mpr ⟨?_, List.forall_mem_cons.mpr ⟨?_, List.forall_mem_cons.mpr ⟨?_, List.forall_mem_cons.mpr ⟨?_, List.forall_mem_cons.mpr ⟨?_, List.forall_mem_cons.mpr ⟨?_, List.forall_mem_cons.mpr ⟨?_, List.forall_mem_cons.mpr ⟨?_, List.forall_mem_cons.mpr ⟨?_, List.forall_mem_cons.mpr ⟨?_, List.forall_mem_cons.mpr ⟨?_, List.forall_mem_cons.mpr ⟨?_, List.forall_mem_cons.mpr ⟨?_, List.forall_mem_cons.mpr ⟨?_, List.forall_mem_cons.mpr ⟨?_, List.forall_mem_cons.mpr ⟨?_, List.forall_mem_cons.mpr ⟨?_, List.forall_mem_cons.mpr ⟨?_, List.forall_mem_cons.mpr ⟨?_, List.forall_mem_cons.mpr ⟨?_, List.forall_mem_cons.mpr ⟨?_, List.forall_mem_cons.mpr ⟨?_, List.forall_mem_cons.mpr ⟨?_, List.forall_mem_cons.mpr ⟨?_, List.forall_mem_cons.mpr ⟨?_, List.forall_mem_cons.mpr ⟨?_, List.forall_mem_cons.mpr ⟨?_, List.forall_mem_cons.mpr ⟨?_, List.forall_mem_cons.mpr ⟨?_, List.forall_mem_cons.mpr ⟨?_, List.forall_mem_cons.mpr ⟨?_, List.forall_mem_cons.mpr ⟨?_, List.forall_mem_cons.mpr ⟨?_, List.forall_mem_cons.mpr ⟨?_, List.forall_mem_cons.mpr ⟨?_, List.forall_mem_cons.mpr ⟨?_, List.forall_mem_cons.mpr ⟨?_, List.forall_mem_cons.mpr ⟨?_, List.forall_mem_cons.mpr ⟨?_, List.forall_mem_cons.mpr ⟨?_, List.forall_mem_cons.mpr ⟨?_, List.forall_mem_cons.mpr ⟨?_, List.forall_mem_cons.mpr ⟨?_, List.forall_mem_cons.mpr ⟨?_, List.forall_mem_cons.mpr ⟨?_, List.forall_mem_cons.mpr ⟨?_, List.forall_mem_cons.mpr ⟨?_, fun _ h => absurd h List.not_mem_nil⟩⟩⟩⟩⟩⟩⟩⟩⟩⟩⟩⟩⟩⟩⟩⟩⟩⟩⟩⟩⟩⟩⟩⟩⟩⟩⟩⟩⟩⟩⟩⟩⟩⟩⟩⟩⟩⟩⟩⟩⟩⟩⟩⟩⟩⟩⟩⟩⟩⟩⟩⟩⟩⟩⟩⟩⟩⟩⟩⟩⟩⟩⟩⟩⟩⟩⟩⟩⟩⟩⟩⟩⟩⟩⟩⟩⟩⟩⟩⟩⟩⟩⟩⟩⟩⟩⟩⟩⟩⟩⟩⟩⟩⟩⟩⟩⟩⟩⟩⟩⟩⟩⟩⟩⟩⟩⟩⟩⟩⟩⟩⟩⟩⟩⟩⟩⟩⟩⟩⟩⟩⟩⟩
  · exact x_iload_n_ok (show decode cX9_registry 0 = .ok (.iload_n 1, 1) by decide +kernel) rfl
  · exact x_callS_ok (sX9_isText l) hw_965 hw_963 hw_964 hw_68 ⟨by decide, by decide, by decide +kernel⟩ (by decide) (by decide) (show decode cX9_registry 1 = .ok (.invokestatic 89, 3) by decide +kernel)
  · exact x_ifne_ok (show decode cX9_registry 4 = .ok (.ifCond .ne 5, 3) by decide +kernel) (by decide)
  · exact x_iconst_ok (show decode cX9_registry 7 = .ok (.iconst (-1), 1) by decide +kernel) (by decide)
  · exact x_iret_ok (show decode cX9_registry 8 = .ok (.ireturn, 1) by decide +kernel)
  · exact x_aload_n_ok (show decode cX9_registry 9 = .ok (.aload_n 0, 1) by decide +kernel) rfl
  · exact x_getR_ok (ci := 7) (k := 3) rfl (by decide) (by decide) hw_847 (show decode cX9_registry 10 = .ok (.getfield 19, 3) by decide +kernel)
  · exact x_iload_n_ok (show decode cX9_registry 13 = .ok (.iload_n 1, 1) by decide +kernel) rfl
  · exact x_iald_ok (show decode cX9_registry 14 = .ok (.iaload, 1) by decide +kernel)
  · exact x_ifge_ok (show decode cX9_registry 15 = .ok (.ifCond .ge 9, 3) by decide +kernel) (by decide)
  · exact x_aload_n_ok (show decode cX9_registry 18 = .ok (.aload_n 0, 1) by decide +kernel) rfl
  · exact x_iconst_ok (show decode cX9_registry 19 = .ok (.iconst 1, 1) by decide +kernel) (by decide)
  · exact x_callV_ok (ci := 7) rfl (by decide) (sX9_find l) hw_922 hw_919 hw_921 hw_18 hw_68 ⟨by decide, by decide, by decide +kernel⟩ rfl (by decide) (by decide) (show decode cX9_registry 20 = .ok (.invokevirtual 70, 3) by decide +kernel)
  · exact x_iret_ok (show decode cX9_registry 23 = .ok (.ireturn, 1) by decide +kernel)
  · exact x_aload_n_ok (show decode cX9_registry 24 = .ok (.aload_n 0, 1) by decide +kernel) rfl
  · exact x_iload_n_ok (show decode cX9_registry 25 = .ok (.iload_n 1, 1) by decide +kernel) rfl
  · exact x_callV_ok (ci := 7) rfl (by decide) (sX9_faultOf l) hw_978 hw_975 hw_977 hw_23 hw_68 ⟨by decide, by decide, by decide +kernel⟩ rfl (by decide) (by decide) (show decode cX9_registry 26 = .ok (.invokevirtual 123, 3) by decide +kernel)
  · exact x_bipush_ok (show decode cX9_registry 29 = .ok (.bipush (-9), 2) by decide +kernel) (by decide)
  · exact x_cmpeq_ok (show decode cX9_registry 31 = .ok (.if_icmp .eq 6, 3) by decide +kernel) (by decide)
  · exact x_bipush_ok (show decode cX9_registry 34 = .ok (.bipush (-4), 2) by decide +kernel) (by decide)
  · exact x_iret_ok (show decode cX9_registry 36 = .ok (.ireturn, 1) by decide +kernel)
  · exact x_iconst_ok (show decode cX9_registry 37 = .ok (.iconst 0, 1) by decide +kernel) (by decide)
  · exact x_istore_n_ok (show decode cX9_registry 38 = .ok (.istore_n 2, 1) by decide +kernel) rfl (by decide)
  · exact x_iload_n_ok (show decode cX9_registry 39 = .ok (.iload_n 2, 1) by decide +kernel) rfl
  · exact x_sipush_ok (show decode cX9_registry 40 = .ok (.sipush 426, 3) by decide +kernel) (by decide)
  · exact x_cmpge_ok (show decode cX9_registry 43 = .ok (.if_icmp .ge 16, 3) by decide +kernel) (by decide)
  · exact x_aload_n_ok (show decode cX9_registry 46 = .ok (.aload_n 0, 1) by decide +kernel) rfl
  · exact x_getR_ok (ci := 7) (k := 0) rfl (by decide) (by decide) hw_844 (show decode cX9_registry 47 = .ok (.getfield 7, 3) by decide +kernel)
  · exact x_iload_n_ok (show decode cX9_registry 50 = .ok (.iload_n 2, 1) by decide +kernel) rfl
  · exact x_iconst_ok (show decode cX9_registry 51 = .ok (.iconst 0, 1) by decide +kernel) (by decide)
  · exact x_iast_ok (show decode cX9_registry 52 = .ok (.iastore, 1) by decide +kernel)
  · exact x_iinc_ok (show decode cX9_registry 53 = .ok (.iinc 2 1, 3) by decide +kernel) (by decide) (by decide)
  · exact x_goto_ok (show decode cX9_registry 56 = .ok (.goto (-17), 3) by decide +kernel) (by decide)
  · exact x_aload_n_ok (show decode cX9_registry 59 = .ok (.aload_n 0, 1) by decide +kernel) rfl
  · exact x_getR_ok (ci := 7) (k := 0) rfl (by decide) (by decide) hw_844 (show decode cX9_registry 60 = .ok (.getfield 7, 3) by decide +kernel)
  · exact x_iconst_ok (show decode cX9_registry 63 = .ok (.iconst 1, 1) by decide +kernel) (by decide)
  · exact x_aload_n_ok (show decode cX9_registry 64 = .ok (.aload_n 0, 1) by decide +kernel) rfl
  · exact x_getI_ok (ci := 7) (k := 14) rfl (by decide) (by decide) hw_858 (show decode cX9_registry 65 = .ok (.getfield 110, 3) by decide +kernel)
  · exact x_iast_ok (show decode cX9_registry 68 = .ok (.iastore, 1) by decide +kernel)
  · exact x_iconst_ok (show decode cX9_registry 69 = .ok (.iconst 0, 1) by decide +kernel) (by decide)
  · exact x_istore_n_ok (show decode cX9_registry 70 = .ok (.istore_n 2, 1) by decide +kernel) rfl (by decide)
  · exact x_iload_n_ok (show decode cX9_registry 71 = .ok (.iload_n 2, 1) by decide +kernel) rfl
  · exact x_aload_n_ok (show decode cX9_registry 72 = .ok (.aload_n 0, 1) by decide +kernel) rfl
  · exact x_getI_ok (ci := 7) (k := 14) rfl (by decide) (by decide) hw_858 (show decode cX9_registry 73 = .ok (.getfield 110, 3) by decide +kernel)
  · exact x_cmpge_ok (show decode cX9_registry 76 = .ok (.if_icmp .ge 92, 3) by decide +kernel) (by decide)
  · exact x_aload_n_ok (show decode cX9_registry 79 = .ok (.aload_n 0, 1) by decide +kernel) rfl
  · exact x_getR_ok (ci := 7) (k := 0) rfl (by decide) (by decide) hw_844 (show decode cX9_registry 80 = .ok (.getfield 7, 3) by decide +kernel)
  · exact x_iconst_ok (show decode cX9_registry 83 = .ok (.iconst 2, 1) by decide +kernel) (by decide)
  · exact x_iload_n_ok (show decode cX9_registry 84 = .ok (.iload_n 2, 1) by decide +kernel) rfl
  · exact x_iadd_ok (show decode cX9_registry 85 = .ok (.iadd, 1) by decide +kernel)
  · exact x_aload_n_ok (show decode cX9_registry 86 = .ok (.aload_n 0, 1) by decide +kernel) rfl
  · exact x_getR_ok (ci := 7) (k := 13) rfl (by decide) (by decide) hw_857 (show decode cX9_registry 87 = .ok (.getfield 32, 3) by decide +kernel)
  · exact x_bipush_ok (show decode cX9_registry 90 = .ok (.bipush 8, 2) by decide +kernel) (by decide)
  · exact x_iload_n_ok (show decode cX9_registry 92 = .ok (.iload_n 2, 1) by decide +kernel) rfl
  · exact x_imul_ok (show decode cX9_registry 93 = .ok (.imul, 1) by decide +kernel)
  · exact x_iconst_ok (show decode cX9_registry 94 = .ok (.iconst 1, 1) by decide +kernel) (by decide)
  · exact x_iadd_ok (show decode cX9_registry 95 = .ok (.iadd, 1) by decide +kernel)
  · exact x_iald_ok (show decode cX9_registry 96 = .ok (.iaload, 1) by decide +kernel)
  · exact x_iast_ok (show decode cX9_registry 97 = .ok (.iastore, 1) by decide +kernel)
  · exact x_aload_n_ok (show decode cX9_registry 98 = .ok (.aload_n 0, 1) by decide +kernel) rfl
  · exact x_getR_ok (ci := 7) (k := 0) rfl (by decide) (by decide) hw_844 (show decode cX9_registry 99 = .ok (.getfield 7, 3) by decide +kernel)
  · exact x_bipush_ok (show decode cX9_registry 102 = .ok (.bipush 10, 2) by decide +kernel) (by decide)
  · exact x_bipush_ok (show decode cX9_registry 104 = .ok (.bipush 7, 2) by decide +kernel) (by decide)
  · exact x_iload_n_ok (show decode cX9_registry 106 = .ok (.iload_n 2, 1) by decide +kernel) rfl
  · exact x_imul_ok (show decode cX9_registry 107 = .ok (.imul, 1) by decide +kernel)
  · exact x_iadd_ok (show decode cX9_registry 108 = .ok (.iadd, 1) by decide +kernel)
  · exact x_iconst_ok (show decode cX9_registry 109 = .ok (.iconst 0, 1) by decide +kernel) (by decide)
  · exact x_iadd_ok (show decode cX9_registry 110 = .ok (.iadd, 1) by decide +kernel)
  · exact x_aload_n_ok (show decode cX9_registry 111 = .ok (.aload_n 0, 1) by decide +kernel) rfl
  · exact x_getR_ok (ci := 7) (k := 13) rfl (by decide) (by decide) hw_857 (show decode cX9_registry 112 = .ok (.getfield 32, 3) by decide +kernel)
  · exact x_bipush_ok (show decode cX9_registry 115 = .ok (.bipush 8, 2) by decide +kernel) (by decide)
  · exact x_iload_n_ok (show decode cX9_registry 117 = .ok (.iload_n 2, 1) by decide +kernel) rfl
  · exact x_imul_ok (show decode cX9_registry 118 = .ok (.imul, 1) by decide +kernel)
  · exact x_iald_ok (show decode cX9_registry 119 = .ok (.iaload, 1) by decide +kernel)
  · exact x_iast_ok (show decode cX9_registry 120 = .ok (.iastore, 1) by decide +kernel)
  · exact x_iconst_ok (show decode cX9_registry 121 = .ok (.iconst 2, 1) by decide +kernel) (by decide)
  · exact x_istore_n_ok (show decode cX9_registry 122 = .ok (.istore_n 3, 1) by decide +kernel) rfl (by decide)
  · exact x_iload_n_ok (show decode cX9_registry 123 = .ok (.iload_n 3, 1) by decide +kernel) rfl
  · exact x_bipush_ok (show decode cX9_registry 124 = .ok (.bipush 8, 2) by decide +kernel) (by decide)
  · exact x_cmpge_ok (show decode cX9_registry 126 = .ok (.if_icmp .ge 36, 3) by decide +kernel) (by decide)
  · exact x_aload_n_ok (show decode cX9_registry 129 = .ok (.aload_n 0, 1) by decide +kernel) rfl
  · exact x_getR_ok (ci := 7) (k := 0) rfl (by decide) (by decide) hw_844 (show decode cX9_registry 130 = .ok (.getfield 7, 3) by decide +kernel)
  · exact x_bipush_ok (show decode cX9_registry 133 = .ok (.bipush 10, 2) by decide +kernel) (by decide)
  · exact x_bipush_ok (show decode cX9_registry 135 = .ok (.bipush 7, 2) by decide +kernel) (by decide)
  · exact x_iload_n_ok (show decode cX9_registry 137 = .ok (.iload_n 2, 1) by decide +kernel) rfl
  · exact x_imul_ok (show decode cX9_registry 138 = .ok (.imul, 1) by decide +kernel)
  · exact x_iadd_ok (show decode cX9_registry 139 = .ok (.iadd, 1) by decide +kernel)
  · exact x_iload_n_ok (show decode cX9_registry 140 = .ok (.iload_n 3, 1) by decide +kernel) rfl
  · exact x_iadd_ok (show decode cX9_registry 141 = .ok (.iadd, 1) by decide +kernel)
  · exact x_iconst_ok (show decode cX9_registry 142 = .ok (.iconst 1, 1) by decide +kernel) (by decide)
  · exact x_isub_ok (show decode cX9_registry 143 = .ok (.isub, 1) by decide +kernel)
  · exact x_aload_n_ok (show decode cX9_registry 144 = .ok (.aload_n 0, 1) by decide +kernel) rfl
  · exact x_getR_ok (ci := 7) (k := 13) rfl (by decide) (by decide) hw_857 (show decode cX9_registry 145 = .ok (.getfield 32, 3) by decide +kernel)
  · exact x_bipush_ok (show decode cX9_registry 148 = .ok (.bipush 8, 2) by decide +kernel) (by decide)
  · exact x_iload_n_ok (show decode cX9_registry 150 = .ok (.iload_n 2, 1) by decide +kernel) rfl
  · exact x_imul_ok (show decode cX9_registry 151 = .ok (.imul, 1) by decide +kernel)
  · exact x_iload_n_ok (show decode cX9_registry 152 = .ok (.iload_n 3, 1) by decide +kernel) rfl
  · exact x_iadd_ok (show decode cX9_registry 153 = .ok (.iadd, 1) by decide +kernel)
  · exact x_iald_ok (show decode cX9_registry 154 = .ok (.iaload, 1) by decide +kernel)
  · exact x_iast_ok (show decode cX9_registry 155 = .ok (.iastore, 1) by decide +kernel)
  · exact x_iinc_ok (show decode cX9_registry 156 = .ok (.iinc 3 1, 3) by decide +kernel) (by decide) (by decide)
  · exact x_goto_ok (show decode cX9_registry 159 = .ok (.goto (-36), 3) by decide +kernel) (by decide)
  · exact x_iinc_ok (show decode cX9_registry 162 = .ok (.iinc 2 1, 3) by decide +kernel) (by decide) (by decide)
  · exact x_goto_ok (show decode cX9_registry 165 = .ok (.goto (-94), 3) by decide +kernel) (by decide)
  · exact x_iconst_ok (show decode cX9_registry 168 = .ok (.iconst 1, 1) by decide +kernel) (by decide)
  · exact x_istore_n_ok (show decode cX9_registry 169 = .ok (.istore_n 2, 1) by decide +kernel) rfl (by decide)
  · exact x_iload_n_ok (show decode cX9_registry 170 = .ok (.iload_n 2, 1) by decide +kernel) rfl
  · exact x_iconst_ok (show decode cX9_registry 171 = .ok (.iconst 4, 1) by decide +kernel) (by decide)
  · exact x_cmpge_ok (show decode cX9_registry 172 = .ok (.if_icmp .ge 22, 3) by decide +kernel) (by decide)
  · exact x_aload_n_ok (show decode cX9_registry 175 = .ok (.aload_n 0, 1) by decide +kernel) rfl
  · exact x_getR_ok (ci := 7) (k := 0) rfl (by decide) (by decide) hw_844 (show decode cX9_registry 176 = .ok (.getfield 7, 3) by decide +kernel)
  · exact x_sipush_ok (show decode cX9_registry 179 = .ok (.sipush 426, 3) by decide +kernel) (by decide)
  · exact x_iload_n_ok (show decode cX9_registry 182 = .ok (.iload_n 2, 1) by decide +kernel) rfl
  · exact x_imul_ok (show decode cX9_registry 183 = .ok (.imul, 1) by decide +kernel)
  · exact x_iconst_ok (show decode cX9_registry 184 = .ok (.iconst 0, 1) by decide +kernel) (by decide)
  · exact x_iadd_ok (show decode cX9_registry 185 = .ok (.iadd, 1) by decide +kernel)
  · exact x_iconst_ok (show decode cX9_registry 186 = .ok (.iconst (-1), 1) by decide +kernel) (by decide)
  · exact x_iast_ok (show decode cX9_registry 187 = .ok (.iastore, 1) by decide +kernel)
  · exact x_iinc_ok (show decode cX9_registry 188 = .ok (.iinc 2 1, 3) by decide +kernel) (by decide) (by decide)
  · exact x_goto_ok (show decode cX9_registry 191 = .ok (.goto (-21), 3) by decide +kernel) (by decide)
  · exact x_aload_n_ok (show decode cX9_registry 194 = .ok (.aload_n 0, 1) by decide +kernel) rfl
  · exact x_getI_ok (ci := 7) (k := 14) rfl (by decide) (by decide) hw_858 (show decode cX9_registry 195 = .ok (.getfield 110, 3) by decide +kernel)
  · exact x_iret_ok (show decode cX9_registry 198 = .ok (.ireturn, 1) by decide +kernel)
noncomputable def FX9_registry : List Value → xS → Option xR := xden tX9_registry 4 (some .int) 0
theorem sX9_registry (l : Launch) : xSound l yX9_registry cX9_registry 4 (some .int) 5 0 FX9_registry := x_den (by decide) (tX9_registry_ok l)
noncomputable def tX6_partA : List (Nat × xO) := [(0, x_iload 0 1), (1, x_push (.int (nI 36)) 2), (3, x_idiv), (4, x_iret)]
set_option maxRecDepth 100000 in
theorem tX6_partA_ok (l : Launch) : ∀ q ∈ tX6_partA, xOK l cX6_partA RX6 1 1 0 (yX6_partA.name = "<init>") q.1 q.2 := by
  unfold tX6_partA
  refine List.forall_mem_cons.mpr ⟨?_, List.forall_mem_cons.mpr ⟨?_, List.forall_mem_cons.mpr ⟨?_, List.forall_mem_cons.mpr ⟨?_, fun _ h => absurd h List.not_mem_nil⟩⟩⟩⟩
  · exact x_iload_n_ok (show decode cX6_partA 0 = .ok (.iload_n 0, 1) by decide +kernel) rfl
  · exact x_bipush_ok (show decode cX6_partA 1 = .ok (.bipush 36, 2) by decide +kernel) (by decide)
  · exact x_idiv_ok (show decode cX6_partA 3 = .ok (.idiv, 1) by decide +kernel)
  · exact x_iret_ok (show decode cX6_partA 4 = .ok (.ireturn, 1) by decide +kernel)
noncomputable def FX6_partA : List Value → xS → Option xR := xden tX6_partA 1 (some .int) 0
theorem sX6_partA (l : Launch) : xSound l yX6_partA cX6_partA 1 (some .int) 1 0 FX6_partA := x_den (by decide) (tX6_partA_ok l)
noncomputable def tX6_partB : List (Nat × xO) := [(0, x_iload 0 1), (1, x_push (.int (nI 6)) 2), (3, x_idiv), (4, x_push (.int (nI 6)) 2), (6, x_irem), (7, x_iret)]
set_option maxRecDepth 100000 in
theorem tX6_partB_ok (l : Launch) : ∀ q ∈ tX6_partB, xOK l cX6_partB RX6 1 1 0 (yX6_partB.name = "<init>") q.1 q.2 := by
  unfold tX6_partB
  refine List.forall_mem_cons.mpr ⟨?_, List.forall_mem_cons.mpr ⟨?_, List.forall_mem_cons.mpr ⟨?_, List.forall_mem_cons.mpr ⟨?_, List.forall_mem_cons.mpr ⟨?_, List.forall_mem_cons.mpr ⟨?_, fun _ h => absurd h List.not_mem_nil⟩⟩⟩⟩⟩⟩
  · exact x_iload_n_ok (show decode cX6_partB 0 = .ok (.iload_n 0, 1) by decide +kernel) rfl
  · exact x_bipush_ok (show decode cX6_partB 1 = .ok (.bipush 6, 2) by decide +kernel) (by decide)
  · exact x_idiv_ok (show decode cX6_partB 3 = .ok (.idiv, 1) by decide +kernel)
  · exact x_bipush_ok (show decode cX6_partB 4 = .ok (.bipush 6, 2) by decide +kernel) (by decide)
  · exact x_irem_ok (show decode cX6_partB 6 = .ok (.irem, 1) by decide +kernel)
  · exact x_iret_ok (show decode cX6_partB 7 = .ok (.ireturn, 1) by decide +kernel)
noncomputable def FX6_partB : List Value → xS → Option xR := xden tX6_partB 1 (some .int) 0
theorem sX6_partB (l : Launch) : xSound l yX6_partB cX6_partB 1 (some .int) 1 0 FX6_partB := x_den (by decide) (tX6_partB_ok l)
noncomputable def tX6_partC : List (Nat × xO) := [(0, x_iload 0 1), (1, x_push (.int (nI 6)) 2), (3, x_irem), (4, x_iret)]
set_option maxRecDepth 100000 in
theorem tX6_partC_ok (l : Launch) : ∀ q ∈ tX6_partC, xOK l cX6_partC RX6 1 1 0 (yX6_partC.name = "<init>") q.1 q.2 := by
  unfold tX6_partC
  refine List.forall_mem_cons.mpr ⟨?_, List.forall_mem_cons.mpr ⟨?_, List.forall_mem_cons.mpr ⟨?_, List.forall_mem_cons.mpr ⟨?_, fun _ h => absurd h List.not_mem_nil⟩⟩⟩⟩
  · exact x_iload_n_ok (show decode cX6_partC 0 = .ok (.iload_n 0, 1) by decide +kernel) rfl
  · exact x_bipush_ok (show decode cX6_partC 1 = .ok (.bipush 6, 2) by decide +kernel) (by decide)
  · exact x_irem_ok (show decode cX6_partC 3 = .ok (.irem, 1) by decide +kernel)
  · exact x_iret_ok (show decode cX6_partC 4 = .ok (.ireturn, 1) by decide +kernel)
noncomputable def FX6_partC : List Value → xS → Option xR := xden tX6_partC 1 (some .int) 0
theorem sX6_partC (l : Launch) : xSound l yX6_partC cX6_partC 1 (some .int) 1 0 FX6_partC := x_den (by decide) (tX6_partC_ok l)
noncomputable def tX6_faded : List (Nat × xO) := [(0, x_push (.int (nI 0)) 1), (1, x_iload 0 1), (2, x_call 0 1 FX6_partA), (5, x_iload 1 1), (6, x_ii (fun x y => x - y)), (7, x_max), (10, x_iload 0 1), (11, x_call 0 1 FX6_partB), (14, x_iload 0 1), (15, x_call 0 1 FX6_partC), (18, x_call 0 3 FX6_of), (21, x_iret)]
set_option maxRecDepth 100000 in
theorem tX6_faded_ok (l : Launch) : ∀ q ∈ tX6_faded, xOK l cX6_faded RX6 2 2 0 (yX6_faded.name = "<init>") q.1 q.2 := by
  unfold tX6_faded
  refine List.forall_mem_cons.mpr ⟨?_, List.forall_mem_cons.mpr ⟨?_, List.forall_mem_cons.mpr ⟨?_, List.forall_mem_cons.mpr ⟨?_, List.forall_mem_cons.mpr ⟨?_, List.forall_mem_cons.mpr ⟨?_, List.forall_mem_cons.mpr ⟨?_, List.forall_mem_cons.mpr ⟨?_, List.forall_mem_cons.mpr ⟨?_, List.forall_mem_cons.mpr ⟨?_, List.forall_mem_cons.mpr ⟨?_, List.forall_mem_cons.mpr ⟨?_, fun _ h => absurd h List.not_mem_nil⟩⟩⟩⟩⟩⟩⟩⟩⟩⟩⟩⟩
  · exact x_iconst_ok (show decode cX6_faded 0 = .ok (.iconst 0, 1) by decide +kernel) (by decide)
  · exact x_iload_n_ok (show decode cX6_faded 1 = .ok (.iload_n 0, 1) by decide +kernel) rfl
  · exact x_callS_ok (sX6_partA l) hw_459 hw_457 hw_458 hw_75 ⟨by decide, by decide, by decide +kernel⟩ (by decide) (by decide) (show decode cX6_faded 2 = .ok (.invokestatic 7, 3) by decide +kernel)
  · exact x_iload_n_ok (show decode cX6_faded 5 = .ok (.iload_n 1, 1) by decide +kernel) rfl
  · exact x_isub_ok (show decode cX6_faded 6 = .ok (.isub, 1) by decide +kernel)
  · exact x_max_ok hw_460 hw_461 hw_76 hw_462 (by decide) (show decode cX6_faded 7 = .ok (.invokestatic 23, 3) by decide +kernel)
  · exact x_iload_n_ok (show decode cX6_faded 10 = .ok (.iload_n 0, 1) by decide +kernel) rfl
  · exact x_callS_ok (sX6_partB l) hw_465 hw_463 hw_464 hw_75 ⟨by decide, by decide, by decide +kernel⟩ (by decide) (by decide) (show decode cX6_faded 11 = .ok (.invokestatic 13, 3) by decide +kernel)
  · exact x_iload_n_ok (show decode cX6_faded 14 = .ok (.iload_n 0, 1) by decide +kernel) rfl
  · exact x_callS_ok (sX6_partC l) hw_468 hw_466 hw_467 hw_75 ⟨by decide, by decide, by decide +kernel⟩ (by decide) (by decide) (show decode cX6_faded 15 = .ok (.invokestatic 16, 3) by decide +kernel)
  · exact x_callS_ok (sX6_of l) hw_440 hw_469 hw_439 hw_75 ⟨by decide, by decide, by decide +kernel⟩ (by decide) (by decide) (show decode cX6_faded 18 = .ok (.invokestatic 19, 3) by decide +kernel)
  · exact x_iret_ok (show decode cX6_faded 21 = .ok (.ireturn, 1) by decide +kernel)
noncomputable def FX6_faded : List Value → xS → Option xR := xden tX6_faded 2 (some .int) 0
theorem sX6_faded (l : Launch) : xSound l yX6_faded cX6_faded 2 (some .int) 2 0 FX6_faded := x_den (by decide) (tX6_faded_ok l)
noncomputable def tX4_shadeOf : List (Nat × xO) := [(0, x_aload 0 1), (1, x_getR 3 0), (4, x_iload 1 1), (5, x_aald), (6, x_astore 3 1), (7, x_aload 3 1), (8, x_getI 1 5), (11, x_ifeq 30), (14, x_aload 3 1), (15, x_getI 1 1), (18, x_aload 0 1), (19, x_getI 3 4), (22, x_iload 2 1), (23, x_ii (fun x y => x + y)), (24, x_call 0 2 FX6_faded), (27, x_goto 34), (30, x_aload 3 1), (31, x_getI 1 1), (34, x_iret)]
set_option maxRecDepth 100000 in
theorem tX4_shadeOf_ok (l : Launch) : ∀ q ∈ tX4_shadeOf, xOK l cX4_shadeOf RX4 4 3 0 (yX4_shadeOf.name = "<init>") q.1 q.2 := by
  unfold tX4_shadeOf
  refine List.forall_mem_cons.mpr ⟨?_, List.forall_mem_cons.mpr ⟨?_, List.forall_mem_cons.mpr ⟨?_, List.forall_mem_cons.mpr ⟨?_, List.forall_mem_cons.mpr ⟨?_, List.forall_mem_cons.mpr ⟨?_, List.forall_mem_cons.mpr ⟨?_, List.forall_mem_cons.mpr ⟨?_, List.forall_mem_cons.mpr ⟨?_, List.forall_mem_cons.mpr ⟨?_, List.forall_mem_cons.mpr ⟨?_, List.forall_mem_cons.mpr ⟨?_, List.forall_mem_cons.mpr ⟨?_, List.forall_mem_cons.mpr ⟨?_, List.forall_mem_cons.mpr ⟨?_, List.forall_mem_cons.mpr ⟨?_, List.forall_mem_cons.mpr ⟨?_, List.forall_mem_cons.mpr ⟨?_, List.forall_mem_cons.mpr ⟨?_, fun _ h => absurd h List.not_mem_nil⟩⟩⟩⟩⟩⟩⟩⟩⟩⟩⟩⟩⟩⟩⟩⟩⟩⟩⟩
  · exact x_aload_n_ok (show decode cX4_shadeOf 0 = .ok (.aload_n 0, 1) by decide +kernel) rfl
  · exact x_getR_ok (ci := 3) (k := 0) rfl (by decide) (by decide) hw_173 (show decode cX4_shadeOf 1 = .ok (.getfield 13, 3) by decide +kernel)
  · exact x_iload_n_ok (show decode cX4_shadeOf 4 = .ok (.iload_n 1, 1) by decide +kernel) rfl
  · exact x_aald_ok (show decode cX4_shadeOf 5 = .ok (.aaload, 1) by decide +kernel)
  · exact x_astore_n_ok (show decode cX4_shadeOf 6 = .ok (.astore_n 3, 1) by decide +kernel) rfl (by decide)
  · exact x_aload_n_ok (show decode cX4_shadeOf 7 = .ok (.aload_n 3, 1) by decide +kernel) rfl
  · exact x_getI_ok (ci := 1) (k := 5) rfl (by decide) (by decide) hw_157 (show decode cX4_shadeOf 8 = .ok (.getfield 55, 3) by decide +kernel)
  · exact x_ifeq_ok (show decode cX4_shadeOf 11 = .ok (.ifCond .eq 19, 3) by decide +kernel) (by decide)
  · exact x_aload_n_ok (show decode cX4_shadeOf 14 = .ok (.aload_n 3, 1) by decide +kernel) rfl
  · exact x_getI_ok (ci := 1) (k := 1) rfl (by decide) (by decide) hw_142 (show decode cX4_shadeOf 15 = .ok (.getfield 43, 3) by decide +kernel)
  · exact x_aload_n_ok (show decode cX4_shadeOf 18 = .ok (.aload_n 0, 1) by decide +kernel) rfl
  · exact x_getI_ok (ci := 3) (k := 4) rfl (by decide) (by decide) hw_181 (show decode cX4_shadeOf 19 = .ok (.getfield 29, 3) by decide +kernel)
  · exact x_iload_n_ok (show decode cX4_shadeOf 22 = .ok (.iload_n 2, 1) by decide +kernel) rfl
  · exact x_iadd_ok (show decode cX4_shadeOf 23 = .ok (.iadd, 1) by decide +kernel)
  · exact x_callS_ok (sX6_faded l) hw_456 hw_454 hw_455 hw_75 ⟨by decide, by decide, by decide +kernel⟩ (by decide) (by decide) (show decode cX4_shadeOf 24 = .ok (.invokestatic 63, 3) by decide +kernel)
  · exact x_goto_ok (show decode cX4_shadeOf 27 = .ok (.goto 7, 3) by decide +kernel) (by decide)
  · exact x_aload_n_ok (show decode cX4_shadeOf 30 = .ok (.aload_n 3, 1) by decide +kernel) rfl
  · exact x_getI_ok (ci := 1) (k := 1) rfl (by decide) (by decide) hw_142 (show decode cX4_shadeOf 31 = .ok (.getfield 43, 3) by decide +kernel)
  · exact x_iret_ok (show decode cX4_shadeOf 34 = .ok (.ireturn, 1) by decide +kernel)
noncomputable def FX4_shadeOf : List Value → xS → Option xR := xden tX4_shadeOf 4 (some .int) 0
theorem sX4_shadeOf (l : Launch) : xSound l yX4_shadeOf cX4_shadeOf 4 (some .int) 3 0 FX4_shadeOf := x_den (by decide) (tX4_shadeOf_ok l)
noncomputable def tX1_farFrom : List (Nat × xO) := [(0, x_iload 1 1), (1, x_call 0 1 FX6_partA), (4, x_iload 2 1), (5, x_call 0 1 FX6_partA), (8, x_ii (fun x y => x - y)), (9, x_abs), (12, x_istore 3 1), (13, x_iload 1 1), (14, x_call 0 1 FX6_partB), (17, x_iload 2 1), (18, x_call 0 1 FX6_partB), (21, x_ii (fun x y => x - y)), (22, x_abs), (25, x_istore 4 2), (27, x_iload 1 1), (28, x_call 0 1 FX6_partC), (31, x_iload 2 1), (32, x_call 0 1 FX6_partC), (35, x_ii (fun x y => x - y)), (36, x_abs), (39, x_istore 5 2), (41, x_iload 0 1), (42, x_switch [((nI 1), 72), ((nI 3), 91), ((nI 4), 84)] 101), (72, x_iload 3 1), (73, x_iload 4 2), (75, x_iload 5 2), (77, x_max), (80, x_max), (83, x_iret), (84, x_iload 3 1), (85, x_iload 4 2), (87, x_max), (90, x_iret), (91, x_push (.int (nI 2)) 1), (92, x_iload 3 1), (93, x_ii (fun x y => x * y)), (94, x_iload 4 2), (96, x_ii (fun x y => x + y)), (97, x_iload 5 2), (99, x_ii (fun x y => x + y)), (100, x_iret), (101, x_iload 3 1), (102, x_iload 4 2), (104, x_ii (fun x y => x + y)), (105, x_iload 5 2), (107, x_ii (fun x y => x + y)), (108, x_iret)]
set_option maxRecDepth 100000 in
theorem tX1_farFrom_ok (l : Launch) : ∀ q ∈ tX1_farFrom, xOK l cX1_farFrom RX1 6 2 0 (yX1_farFrom.name = "<init>") q.1 q.2 := by
  unfold tX1_farFrom
  refine List.forall_mem_cons.mpr ⟨?_, List.forall_mem_cons.mpr ⟨?_, List.forall_mem_cons.mpr ⟨?_, List.forall_mem_cons.mpr ⟨?_, List.forall_mem_cons.mpr ⟨?_, List.forall_mem_cons.mpr ⟨?_, List.forall_mem_cons.mpr ⟨?_, List.forall_mem_cons.mpr ⟨?_, List.forall_mem_cons.mpr ⟨?_, List.forall_mem_cons.mpr ⟨?_, List.forall_mem_cons.mpr ⟨?_, List.forall_mem_cons.mpr ⟨?_, List.forall_mem_cons.mpr ⟨?_, List.forall_mem_cons.mpr ⟨?_, List.forall_mem_cons.mpr ⟨?_, List.forall_mem_cons.mpr ⟨?_, List.forall_mem_cons.mpr ⟨?_, List.forall_mem_cons.mpr ⟨?_, List.forall_mem_cons.mpr ⟨?_, List.forall_mem_cons.mpr ⟨?_, List.forall_mem_cons.mpr ⟨?_, List.forall_mem_cons.mpr ⟨?_, List.forall_mem_cons.mpr ⟨?_, List.forall_mem_cons.mpr ⟨?_, List.forall_mem_cons.mpr ⟨?_, List.forall_mem_cons.mpr ⟨?_, List.forall_mem_cons.mpr ⟨?_, List.forall_mem_cons.mpr ⟨?_, List.forall_mem_cons.mpr ⟨?_, List.forall_mem_cons.mpr ⟨?_, List.forall_mem_cons.mpr ⟨?_, List.forall_mem_cons.mpr ⟨?_, List.forall_mem_cons.mpr ⟨?_, List.forall_mem_cons.mpr ⟨?_, List.forall_mem_cons.mpr ⟨?_, List.forall_mem_cons.mpr ⟨?_, List.forall_mem_cons.mpr ⟨?_, List.forall_mem_cons.mpr ⟨?_, List.forall_mem_cons.mpr ⟨?_, List.forall_mem_cons.mpr ⟨?_, List.forall_mem_cons.mpr ⟨?_, List.forall_mem_cons.mpr ⟨?_, List.forall_mem_cons.mpr ⟨?_, List.forall_mem_cons.mpr ⟨?_, List.forall_mem_cons.mpr ⟨?_, List.forall_mem_cons.mpr ⟨?_, List.forall_mem_cons.mpr ⟨?_, fun _ h => absurd h List.not_mem_nil⟩⟩⟩⟩⟩⟩⟩⟩⟩⟩⟩⟩⟩⟩⟩⟩⟩⟩⟩⟩⟩⟩⟩⟩⟩⟩⟩⟩⟩⟩⟩⟩⟩⟩⟩⟩⟩⟩⟩⟩⟩⟩⟩⟩⟩⟩⟩
  · exact x_iload_n_ok (show decode cX1_farFrom 0 = .ok (.iload_n 1, 1) by decide +kernel) rfl
  · exact x_callS_ok (sX6_partA l) hw_459 hw_479 hw_458 hw_75 ⟨by decide, by decide, by decide +kernel⟩ (by decide) (by decide) (show decode cX1_farFrom 1 = .ok (.invokestatic 21, 3) by decide +kernel)
  · exact x_iload_n_ok (show decode cX1_farFrom 4 = .ok (.iload_n 2, 1) by decide +kernel) rfl
  · exact x_callS_ok (sX6_partA l) hw_459 hw_479 hw_458 hw_75 ⟨by decide, by decide, by decide +kernel⟩ (by decide) (by decide) (show decode cX1_farFrom 5 = .ok (.invokestatic 21, 3) by decide +kernel)
  · exact x_isub_ok (show decode cX1_farFrom 8 = .ok (.isub, 1) by decide +kernel)
  · exact x_abs_ok hw_480 hw_481 hw_76 hw_482 (by decide) (show decode cX1_farFrom 9 = .ok (.invokestatic 27, 3) by decide +kernel)
  · exact x_istore_n_ok (show decode cX1_farFrom 12 = .ok (.istore_n 3, 1) by decide +kernel) rfl (by decide)
  · exact x_iload_n_ok (show decode cX1_farFrom 13 = .ok (.iload_n 1, 1) by decide +kernel) rfl
  · exact x_callS_ok (sX6_partB l) hw_465 hw_483 hw_464 hw_75 ⟨by decide, by decide, by decide +kernel⟩ (by decide) (by decide) (show decode cX1_farFrom 14 = .ok (.invokestatic 32, 3) by decide +kernel)
  · exact x_iload_n_ok (show decode cX1_farFrom 17 = .ok (.iload_n 2, 1) by decide +kernel) rfl
  · exact x_callS_ok (sX6_partB l) hw_465 hw_483 hw_464 hw_75 ⟨by decide, by decide, by decide +kernel⟩ (by decide) (by decide) (show decode cX1_farFrom 18 = .ok (.invokestatic 32, 3) by decide +kernel)
  · exact x_isub_ok (show decode cX1_farFrom 21 = .ok (.isub, 1) by decide +kernel)
  · exact x_abs_ok hw_480 hw_481 hw_76 hw_482 (by decide) (show decode cX1_farFrom 22 = .ok (.invokestatic 27, 3) by decide +kernel)
  · exact x_istore_ok (show decode cX1_farFrom 25 = .ok (.istore 4, 2) by decide +kernel) (by decide)
  · exact x_iload_n_ok (show decode cX1_farFrom 27 = .ok (.iload_n 1, 1) by decide +kernel) rfl
  · exact x_callS_ok (sX6_partC l) hw_468 hw_484 hw_467 hw_75 ⟨by decide, by decide, by decide +kernel⟩ (by decide) (by decide) (show decode cX1_farFrom 28 = .ok (.invokestatic 35, 3) by decide +kernel)
  · exact x_iload_n_ok (show decode cX1_farFrom 31 = .ok (.iload_n 2, 1) by decide +kernel) rfl
  · exact x_callS_ok (sX6_partC l) hw_468 hw_484 hw_467 hw_75 ⟨by decide, by decide, by decide +kernel⟩ (by decide) (by decide) (show decode cX1_farFrom 32 = .ok (.invokestatic 35, 3) by decide +kernel)
  · exact x_isub_ok (show decode cX1_farFrom 35 = .ok (.isub, 1) by decide +kernel)
  · exact x_abs_ok hw_480 hw_481 hw_76 hw_482 (by decide) (show decode cX1_farFrom 36 = .ok (.invokestatic 27, 3) by decide +kernel)
  · exact x_istore_ok (show decode cX1_farFrom 39 = .ok (.istore 5, 2) by decide +kernel) (by decide)
  · exact x_iload_n_ok (show decode cX1_farFrom 41 = .ok (.iload_n 0, 1) by decide +kernel) rfl
  · exact x_switch_ok (show decode cX1_farFrom 42 = .ok (.tableswitch 59 1 4 #[30, 59, 49, 42], 30) by decide +kernel) (by decide) (by decide +kernel) (by decide) (by decide) (by decide +kernel)
  · exact x_iload_n_ok (show decode cX1_farFrom 72 = .ok (.iload_n 3, 1) by decide +kernel) rfl
  · exact x_iload_ok (show decode cX1_farFrom 73 = .ok (.iload 4, 2) by decide +kernel)
  · exact x_iload_ok (show decode cX1_farFrom 75 = .ok (.iload 5, 2) by decide +kernel)
  · exact x_max_ok hw_485 hw_461 hw_76 hw_462 (by decide) (show decode cX1_farFrom 77 = .ok (.invokestatic 38, 3) by decide +kernel)
  · exact x_max_ok hw_485 hw_461 hw_76 hw_462 (by decide) (show decode cX1_farFrom 80 = .ok (.invokestatic 38, 3) by decide +kernel)
  · exact x_iret_ok (show decode cX1_farFrom 83 = .ok (.ireturn, 1) by decide +kernel)
  · exact x_iload_n_ok (show decode cX1_farFrom 84 = .ok (.iload_n 3, 1) by decide +kernel) rfl
  · exact x_iload_ok (show decode cX1_farFrom 85 = .ok (.iload 4, 2) by decide +kernel)
  · exact x_max_ok hw_485 hw_461 hw_76 hw_462 (by decide) (show decode cX1_farFrom 87 = .ok (.invokestatic 38, 3) by decide +kernel)
  · exact x_iret_ok (show decode cX1_farFrom 90 = .ok (.ireturn, 1) by decide +kernel)
  · exact x_iconst_ok (show decode cX1_farFrom 91 = .ok (.iconst 2, 1) by decide +kernel) (by decide)
  · exact x_iload_n_ok (show decode cX1_farFrom 92 = .ok (.iload_n 3, 1) by decide +kernel) rfl
  · exact x_imul_ok (show decode cX1_farFrom 93 = .ok (.imul, 1) by decide +kernel)
  · exact x_iload_ok (show decode cX1_farFrom 94 = .ok (.iload 4, 2) by decide +kernel)
  · exact x_iadd_ok (show decode cX1_farFrom 96 = .ok (.iadd, 1) by decide +kernel)
  · exact x_iload_ok (show decode cX1_farFrom 97 = .ok (.iload 5, 2) by decide +kernel)
  · exact x_iadd_ok (show decode cX1_farFrom 99 = .ok (.iadd, 1) by decide +kernel)
  · exact x_iret_ok (show decode cX1_farFrom 100 = .ok (.ireturn, 1) by decide +kernel)
  · exact x_iload_n_ok (show decode cX1_farFrom 101 = .ok (.iload_n 3, 1) by decide +kernel) rfl
  · exact x_iload_ok (show decode cX1_farFrom 102 = .ok (.iload 4, 2) by decide +kernel)
  · exact x_iadd_ok (show decode cX1_farFrom 104 = .ok (.iadd, 1) by decide +kernel)
  · exact x_iload_ok (show decode cX1_farFrom 105 = .ok (.iload 5, 2) by decide +kernel)
  · exact x_iadd_ok (show decode cX1_farFrom 107 = .ok (.iadd, 1) by decide +kernel)
  · exact x_iret_ok (show decode cX1_farFrom 108 = .ok (.ireturn, 1) by decide +kernel)
noncomputable def FX1_farFrom : List Value → xS → Option xR := xden tX1_farFrom 6 (some .int) 0
theorem sX1_farFrom (l : Launch) : xSound l yX1_farFrom cX1_farFrom 6 (some .int) 2 0 FX1_farFrom := x_den (by decide) (tX1_farFrom_ok l)
noncomputable def tX1_isOf : List (Nat × xO) := [(0, x_iload 0 1), (1, x_iload 1 1), (2, x_cmpeq 9), (5, x_iload 1 1), (6, x_ifne 11), (9, x_push (.int (nI 1)) 1), (10, x_iret), (11, x_iload 0 1), (12, x_push (.int (nI 4)) 1), (13, x_cmpne 21), (16, x_iload 1 1), (17, x_push (.int (nI 1)) 1), (18, x_cmpeq 31), (21, x_iload 0 1), (22, x_push (.int (nI 5)) 1), (23, x_cmpne 35), (26, x_iload 1 1), (27, x_push (.int (nI 2)) 1), (28, x_cmpne 35), (31, x_push (.int (nI 1)) 1), (32, x_goto 36), (35, x_push (.int (nI 0)) 1), (36, x_iret)]
set_option maxRecDepth 100000 in
theorem tX1_isOf_ok (l : Launch) : ∀ q ∈ tX1_isOf, xOK l cX1_isOf RX1 2 1 0 (yX1_isOf.name = "<init>") q.1 q.2 := by
  unfold tX1_isOf
  refine List.forall_mem_cons.mpr ⟨?_, List.forall_mem_cons.mpr ⟨?_, List.forall_mem_cons.mpr ⟨?_, List.forall_mem_cons.mpr ⟨?_, List.forall_mem_cons.mpr ⟨?_, List.forall_mem_cons.mpr ⟨?_, List.forall_mem_cons.mpr ⟨?_, List.forall_mem_cons.mpr ⟨?_, List.forall_mem_cons.mpr ⟨?_, List.forall_mem_cons.mpr ⟨?_, List.forall_mem_cons.mpr ⟨?_, List.forall_mem_cons.mpr ⟨?_, List.forall_mem_cons.mpr ⟨?_, List.forall_mem_cons.mpr ⟨?_, List.forall_mem_cons.mpr ⟨?_, List.forall_mem_cons.mpr ⟨?_, List.forall_mem_cons.mpr ⟨?_, List.forall_mem_cons.mpr ⟨?_, List.forall_mem_cons.mpr ⟨?_, List.forall_mem_cons.mpr ⟨?_, List.forall_mem_cons.mpr ⟨?_, List.forall_mem_cons.mpr ⟨?_, List.forall_mem_cons.mpr ⟨?_, fun _ h => absurd h List.not_mem_nil⟩⟩⟩⟩⟩⟩⟩⟩⟩⟩⟩⟩⟩⟩⟩⟩⟩⟩⟩⟩⟩⟩⟩
  · exact x_iload_n_ok (show decode cX1_isOf 0 = .ok (.iload_n 0, 1) by decide +kernel) rfl
  · exact x_iload_n_ok (show decode cX1_isOf 1 = .ok (.iload_n 1, 1) by decide +kernel) rfl
  · exact x_cmpeq_ok (show decode cX1_isOf 2 = .ok (.if_icmp .eq 7, 3) by decide +kernel) (by decide)
  · exact x_iload_n_ok (show decode cX1_isOf 5 = .ok (.iload_n 1, 1) by decide +kernel) rfl
  · exact x_ifne_ok (show decode cX1_isOf 6 = .ok (.ifCond .ne 5, 3) by decide +kernel) (by decide)
  · exact x_iconst_ok (show decode cX1_isOf 9 = .ok (.iconst 1, 1) by decide +kernel) (by decide)
  · exact x_iret_ok (show decode cX1_isOf 10 = .ok (.ireturn, 1) by decide +kernel)
  · exact x_iload_n_ok (show decode cX1_isOf 11 = .ok (.iload_n 0, 1) by decide +kernel) rfl
  · exact x_iconst_ok (show decode cX1_isOf 12 = .ok (.iconst 4, 1) by decide +kernel) (by decide)
  · exact x_cmpne_ok (show decode cX1_isOf 13 = .ok (.if_icmp .ne 8, 3) by decide +kernel) (by decide)
  · exact x_iload_n_ok (show decode cX1_isOf 16 = .ok (.iload_n 1, 1) by decide +kernel) rfl
  · exact x_iconst_ok (show decode cX1_isOf 17 = .ok (.iconst 1, 1) by decide +kernel) (by decide)
  · exact x_cmpeq_ok (show decode cX1_isOf 18 = .ok (.if_icmp .eq 13, 3) by decide +kernel) (by decide)
  · exact x_iload_n_ok (show decode cX1_isOf 21 = .ok (.iload_n 0, 1) by decide +kernel) rfl
  · exact x_iconst_ok (show decode cX1_isOf 22 = .ok (.iconst 5, 1) by decide +kernel) (by decide)
  · exact x_cmpne_ok (show decode cX1_isOf 23 = .ok (.if_icmp .ne 12, 3) by decide +kernel) (by decide)
  · exact x_iload_n_ok (show decode cX1_isOf 26 = .ok (.iload_n 1, 1) by decide +kernel) rfl
  · exact x_iconst_ok (show decode cX1_isOf 27 = .ok (.iconst 2, 1) by decide +kernel) (by decide)
  · exact x_cmpne_ok (show decode cX1_isOf 28 = .ok (.if_icmp .ne 7, 3) by decide +kernel) (by decide)
  · exact x_iconst_ok (show decode cX1_isOf 31 = .ok (.iconst 1, 1) by decide +kernel) (by decide)
  · exact x_goto_ok (show decode cX1_isOf 32 = .ok (.goto 4, 3) by decide +kernel) (by decide)
  · exact x_iconst_ok (show decode cX1_isOf 35 = .ok (.iconst 0, 1) by decide +kernel) (by decide)
  · exact x_iret_ok (show decode cX1_isOf 36 = .ok (.ireturn, 1) by decide +kernel)
noncomputable def FX1_isOf : List Value → xS → Option xR := xden tX1_isOf 2 (some .boolean) 0
theorem sX1_isOf (l : Launch) : xSound l yX1_isOf cX1_isOf 2 (some .boolean) 1 0 FX1_isOf := x_den (by decide) (tX1_isOf_ok l)
noncomputable def tX1_reaches : List (Nat × xO) := [(0, x_iload 0 1), (1, x_iload 1 1), (2, x_iload 3 1), (3, x_call 0 3 FX1_farFrom), (6, x_istore 4 2), (8, x_iload 0 1), (9, x_push (.int (nI 2)) 1), (10, x_call 0 2 FX1_isOf), (13, x_ifeq 33), (16, x_iload 4 2), (18, x_iload 2 1), (19, x_cmplt 27), (22, x_iload 1 1), (23, x_iload 3 1), (24, x_cmpne 31), (27, x_push (.int (nI 1)) 1), (28, x_goto 32), (31, x_push (.int (nI 0)) 1), (32, x_iret), (33, x_iload 4 2), (35, x_iload 2 1), (36, x_cmpgt 43), (39, x_push (.int (nI 1)) 1), (40, x_goto 44), (43, x_push (.int (nI 0)) 1), (44, x_iret)]
set_option maxRecDepth 100000 in
theorem tX1_reaches_ok (l : Launch) : ∀ q ∈ tX1_reaches, xOK l cX1_reaches RX1 5 3 0 (yX1_reaches.name = "<init>") q.1 q.2 := by
  unfold tX1_reaches
  refine List.forall_mem_cons.mpr ⟨?_, List.forall_mem_cons.mpr ⟨?_, List.forall_mem_cons.mpr ⟨?_, List.forall_mem_cons.mpr ⟨?_, List.forall_mem_cons.mpr ⟨?_, List.forall_mem_cons.mpr ⟨?_, List.forall_mem_cons.mpr ⟨?_, List.forall_mem_cons.mpr ⟨?_, List.forall_mem_cons.mpr ⟨?_, List.forall_mem_cons.mpr ⟨?_, List.forall_mem_cons.mpr ⟨?_, List.forall_mem_cons.mpr ⟨?_, List.forall_mem_cons.mpr ⟨?_, List.forall_mem_cons.mpr ⟨?_, List.forall_mem_cons.mpr ⟨?_, List.forall_mem_cons.mpr ⟨?_, List.forall_mem_cons.mpr ⟨?_, List.forall_mem_cons.mpr ⟨?_, List.forall_mem_cons.mpr ⟨?_, List.forall_mem_cons.mpr ⟨?_, List.forall_mem_cons.mpr ⟨?_, List.forall_mem_cons.mpr ⟨?_, List.forall_mem_cons.mpr ⟨?_, List.forall_mem_cons.mpr ⟨?_, List.forall_mem_cons.mpr ⟨?_, List.forall_mem_cons.mpr ⟨?_, fun _ h => absurd h List.not_mem_nil⟩⟩⟩⟩⟩⟩⟩⟩⟩⟩⟩⟩⟩⟩⟩⟩⟩⟩⟩⟩⟩⟩⟩⟩⟩⟩
  · exact x_iload_n_ok (show decode cX1_reaches 0 = .ok (.iload_n 0, 1) by decide +kernel) rfl
  · exact x_iload_n_ok (show decode cX1_reaches 1 = .ok (.iload_n 1, 1) by decide +kernel) rfl
  · exact x_iload_n_ok (show decode cX1_reaches 2 = .ok (.iload_n 3, 1) by decide +kernel) rfl
  · exact x_callS_ok (sX1_farFrom l) hw_478 hw_476 hw_477 hw_70 ⟨by decide, by decide, by decide +kernel⟩ (by decide) (by decide) (show decode cX1_reaches 3 = .ok (.invokestatic 42, 3) by decide +kernel)
  · exact x_istore_ok (show decode cX1_reaches 6 = .ok (.istore 4, 2) by decide +kernel) (by decide)
  · exact x_iload_n_ok (show decode cX1_reaches 8 = .ok (.iload_n 0, 1) by decide +kernel) rfl
  · exact x_iconst_ok (show decode cX1_reaches 9 = .ok (.iconst 2, 1) by decide +kernel) (by decide)
  · exact x_callS_ok (sX1_isOf l) hw_488 hw_486 hw_487 hw_70 ⟨by decide, by decide, by decide +kernel⟩ (by decide) (by decide) (show decode cX1_reaches 10 = .ok (.invokestatic 46, 3) by decide +kernel)
  · exact x_ifeq_ok (show decode cX1_reaches 13 = .ok (.ifCond .eq 20, 3) by decide +kernel) (by decide)
  · exact x_iload_ok (show decode cX1_reaches 16 = .ok (.iload 4, 2) by decide +kernel)
  · exact x_iload_n_ok (show decode cX1_reaches 18 = .ok (.iload_n 2, 1) by decide +kernel) rfl
  · exact x_cmplt_ok (show decode cX1_reaches 19 = .ok (.if_icmp .lt 8, 3) by decide +kernel) (by decide)
  · exact x_iload_n_ok (show decode cX1_reaches 22 = .ok (.iload_n 1, 1) by decide +kernel) rfl
  · exact x_iload_n_ok (show decode cX1_reaches 23 = .ok (.iload_n 3, 1) by decide +kernel) rfl
  · exact x_cmpne_ok (show decode cX1_reaches 24 = .ok (.if_icmp .ne 7, 3) by decide +kernel) (by decide)
  · exact x_iconst_ok (show decode cX1_reaches 27 = .ok (.iconst 1, 1) by decide +kernel) (by decide)
  · exact x_goto_ok (show decode cX1_reaches 28 = .ok (.goto 4, 3) by decide +kernel) (by decide)
  · exact x_iconst_ok (show decode cX1_reaches 31 = .ok (.iconst 0, 1) by decide +kernel) (by decide)
  · exact x_iret_ok (show decode cX1_reaches 32 = .ok (.ireturn, 1) by decide +kernel)
  · exact x_iload_ok (show decode cX1_reaches 33 = .ok (.iload 4, 2) by decide +kernel)
  · exact x_iload_n_ok (show decode cX1_reaches 35 = .ok (.iload_n 2, 1) by decide +kernel) rfl
  · exact x_cmpgt_ok (show decode cX1_reaches 36 = .ok (.if_icmp .gt 7, 3) by decide +kernel) (by decide)
  · exact x_iconst_ok (show decode cX1_reaches 39 = .ok (.iconst 1, 1) by decide +kernel) (by decide)
  · exact x_goto_ok (show decode cX1_reaches 40 = .ok (.goto 4, 3) by decide +kernel) (by decide)
  · exact x_iconst_ok (show decode cX1_reaches 43 = .ok (.iconst 0, 1) by decide +kernel) (by decide)
  · exact x_iret_ok (show decode cX1_reaches 44 = .ok (.ireturn, 1) by decide +kernel)
noncomputable def FX1_reaches : List Value → xS → Option xR := xden tX1_reaches 5 (some .boolean) 0
theorem sX1_reaches (l : Launch) : xSound l yX1_reaches cX1_reaches 5 (some .boolean) 3 0 FX1_reaches := x_den (by decide) (tX1_reaches_ok l)
noncomputable def tX1_countReached : List (Nat × xO) := [(0, x_push (.int (nI 0)) 1), (1, x_istore 3 1), (2, x_push (.int (nI 0)) 1), (3, x_istore 4 2), (5, x_iload 4 2), (7, x_push (.int (nI 216)) 3), (10, x_cmpge 33), (13, x_iload 0 1), (14, x_iload 1 1), (15, x_iload 2 1), (16, x_iload 4 2), (18, x_call 0 4 FX1_reaches), (21, x_ifeq 27), (24, x_iinc 3 (nI 1)), (27, x_iinc 4 (nI 1)), (30, x_goto 5), (33, x_iload 3 1), (34, x_iret)]
set_option maxRecDepth 100000 in
theorem tX1_countReached_ok (l : Launch) : ∀ q ∈ tX1_countReached, xOK l cX1_countReached RX1 5 4 0 (yX1_countReached.name = "<init>") q.1 q.2 := by
  unfold tX1_countReached
  refine List.forall_mem_cons.mpr ⟨?_, List.forall_mem_cons.mpr ⟨?_, List.forall_mem_cons.mpr ⟨?_, List.forall_mem_cons.mpr ⟨?_, List.forall_mem_cons.mpr ⟨?_, List.forall_mem_cons.mpr ⟨?_, List.forall_mem_cons.mpr ⟨?_, List.forall_mem_cons.mpr ⟨?_, List.forall_mem_cons.mpr ⟨?_, List.forall_mem_cons.mpr ⟨?_, List.forall_mem_cons.mpr ⟨?_, List.forall_mem_cons.mpr ⟨?_, List.forall_mem_cons.mpr ⟨?_, List.forall_mem_cons.mpr ⟨?_, List.forall_mem_cons.mpr ⟨?_, List.forall_mem_cons.mpr ⟨?_, List.forall_mem_cons.mpr ⟨?_, List.forall_mem_cons.mpr ⟨?_, fun _ h => absurd h List.not_mem_nil⟩⟩⟩⟩⟩⟩⟩⟩⟩⟩⟩⟩⟩⟩⟩⟩⟩⟩
  · exact x_iconst_ok (show decode cX1_countReached 0 = .ok (.iconst 0, 1) by decide +kernel) (by decide)
  · exact x_istore_n_ok (show decode cX1_countReached 1 = .ok (.istore_n 3, 1) by decide +kernel) rfl (by decide)
  · exact x_iconst_ok (show decode cX1_countReached 2 = .ok (.iconst 0, 1) by decide +kernel) (by decide)
  · exact x_istore_ok (show decode cX1_countReached 3 = .ok (.istore 4, 2) by decide +kernel) (by decide)
  · exact x_iload_ok (show decode cX1_countReached 5 = .ok (.iload 4, 2) by decide +kernel)
  · exact x_sipush_ok (show decode cX1_countReached 7 = .ok (.sipush 216, 3) by decide +kernel) (by decide)
  · exact x_cmpge_ok (show decode cX1_countReached 10 = .ok (.if_icmp .ge 23, 3) by decide +kernel) (by decide)
  · exact x_iload_n_ok (show decode cX1_countReached 13 = .ok (.iload_n 0, 1) by decide +kernel) rfl
  · exact x_iload_n_ok (show decode cX1_countReached 14 = .ok (.iload_n 1, 1) by decide +kernel) rfl
  · exact x_iload_n_ok (show decode cX1_countReached 15 = .ok (.iload_n 2, 1) by decide +kernel) rfl
  · exact x_iload_ok (show decode cX1_countReached 16 = .ok (.iload 4, 2) by decide +kernel)
  · exact x_callS_ok (sX1_reaches l) hw_475 hw_473 hw_474 hw_70 ⟨by decide, by decide, by decide +kernel⟩ (by decide) (by decide) (show decode cX1_countReached 18 = .ok (.invokestatic 50, 3) by decide +kernel)
  · exact x_ifeq_ok (show decode cX1_countReached 21 = .ok (.ifCond .eq 6, 3) by decide +kernel) (by decide)
  · exact x_iinc_ok (show decode cX1_countReached 24 = .ok (.iinc 3 1, 3) by decide +kernel) (by decide) (by decide)
  · exact x_iinc_ok (show decode cX1_countReached 27 = .ok (.iinc 4 1, 3) by decide +kernel) (by decide) (by decide)
  · exact x_goto_ok (show decode cX1_countReached 30 = .ok (.goto (-25), 3) by decide +kernel) (by decide)
  · exact x_iload_n_ok (show decode cX1_countReached 33 = .ok (.iload_n 3, 1) by decide +kernel) rfl
  · exact x_iret_ok (show decode cX1_countReached 34 = .ok (.ireturn, 1) by decide +kernel)
noncomputable def FX1_countReached : List Value → xS → Option xR := xden tX1_countReached 5 (some .int) 0
theorem sX1_countReached (l : Launch) : xSound l yX1_countReached cX1_countReached 5 (some .int) 4 0 FX1_countReached := x_den (by decide) (tX1_countReached_ok l)
noncomputable def tX8_tellOf : List (Nat × xO) := [(0, x_aload 0 1), (1, x_getR 6 2), (4, x_getR 3 0), (7, x_iload 1 1), (8, x_aald), (9, x_astore 3 1), (10, x_iload 2 1), (11, x_switch [((nI 0), 48), ((nI 1), 53), ((nI 2), 63), ((nI 3), 68), ((nI 4), 73), ((nI 5), 78)] 91), (48, x_aload 3 1), (49, x_getI 1 0), (52, x_iret), (53, x_aload 0 1), (54, x_getR 6 2), (57, x_iload 1 1), (58, x_push (.int (nI 0)) 1), (59, x_callV 3 0 3 FX4_shadeOf), (62, x_iret), (63, x_aload 3 1), (64, x_getI 1 2), (67, x_iret), (68, x_aload 3 1), (69, x_getI 1 3), (72, x_iret), (73, x_aload 3 1), (74, x_getI 1 4), (77, x_iret), (78, x_aload 3 1), (79, x_getI 1 5), (82, x_ifeq 89), (85, x_push (.int (nI 1)) 1), (86, x_goto 90), (89, x_push (.int (nI 0)) 1), (90, x_iret), (91, x_aload 3 1), (92, x_getI 1 0), (95, x_aload 0 1), (96, x_getR 6 2), (99, x_iload 1 1), (100, x_push (.int (nI 0)) 1), (101, x_callV 3 0 3 FX4_shadeOf), (104, x_aload 3 1), (105, x_getI 1 2), (108, x_call 0 3 FX1_countReached), (111, x_iret)]
set_option maxRecDepth 100000 in
theorem tX8_tellOf_ok (l : Launch) : ∀ q ∈ tX8_tellOf, xOK l cX8_tellOf RX8 4 5 0 (yX8_tellOf.name = "<init>") q.1 q.2 := by
  unfold tX8_tellOf
  refine List.forall_mem_cons.mpr ⟨?_, List.forall_mem_cons.mpr ⟨?_, List.forall_mem_cons.mpr ⟨?_, List.forall_mem_cons.mpr ⟨?_, List.forall_mem_cons.mpr ⟨?_, List.forall_mem_cons.mpr ⟨?_, List.forall_mem_cons.mpr ⟨?_, List.forall_mem_cons.mpr ⟨?_, List.forall_mem_cons.mpr ⟨?_, List.forall_mem_cons.mpr ⟨?_, List.forall_mem_cons.mpr ⟨?_, List.forall_mem_cons.mpr ⟨?_, List.forall_mem_cons.mpr ⟨?_, List.forall_mem_cons.mpr ⟨?_, List.forall_mem_cons.mpr ⟨?_, List.forall_mem_cons.mpr ⟨?_, List.forall_mem_cons.mpr ⟨?_, List.forall_mem_cons.mpr ⟨?_, List.forall_mem_cons.mpr ⟨?_, List.forall_mem_cons.mpr ⟨?_, List.forall_mem_cons.mpr ⟨?_, List.forall_mem_cons.mpr ⟨?_, List.forall_mem_cons.mpr ⟨?_, List.forall_mem_cons.mpr ⟨?_, List.forall_mem_cons.mpr ⟨?_, List.forall_mem_cons.mpr ⟨?_, List.forall_mem_cons.mpr ⟨?_, List.forall_mem_cons.mpr ⟨?_, List.forall_mem_cons.mpr ⟨?_, List.forall_mem_cons.mpr ⟨?_, List.forall_mem_cons.mpr ⟨?_, List.forall_mem_cons.mpr ⟨?_, List.forall_mem_cons.mpr ⟨?_, List.forall_mem_cons.mpr ⟨?_, List.forall_mem_cons.mpr ⟨?_, List.forall_mem_cons.mpr ⟨?_, List.forall_mem_cons.mpr ⟨?_, List.forall_mem_cons.mpr ⟨?_, List.forall_mem_cons.mpr ⟨?_, List.forall_mem_cons.mpr ⟨?_, List.forall_mem_cons.mpr ⟨?_, List.forall_mem_cons.mpr ⟨?_, List.forall_mem_cons.mpr ⟨?_, List.forall_mem_cons.mpr ⟨?_, fun _ h => absurd h List.not_mem_nil⟩⟩⟩⟩⟩⟩⟩⟩⟩⟩⟩⟩⟩⟩⟩⟩⟩⟩⟩⟩⟩⟩⟩⟩⟩⟩⟩⟩⟩⟩⟩⟩⟩⟩⟩⟩⟩⟩⟩⟩⟩⟩⟩⟩
  · exact x_aload_n_ok (show decode cX8_tellOf 0 = .ok (.aload_n 0, 1) by decide +kernel) rfl
  · exact x_getR_ok (ci := 6) (k := 2) rfl (by decide) (by decide) hw_224 (show decode cX8_tellOf 1 = .ok (.getfield 26, 3) by decide +kernel)
  · exact x_getR_ok (ci := 3) (k := 0) rfl (by decide) (by decide) hw_174 (show decode cX8_tellOf 4 = .ok (.getfield 139, 3) by decide +kernel)
  · exact x_iload_n_ok (show decode cX8_tellOf 7 = .ok (.iload_n 1, 1) by decide +kernel) rfl
  · exact x_aald_ok (show decode cX8_tellOf 8 = .ok (.aaload, 1) by decide +kernel)
  · exact x_astore_n_ok (show decode cX8_tellOf 9 = .ok (.astore_n 3, 1) by decide +kernel) rfl (by decide)
  · exact x_iload_n_ok (show decode cX8_tellOf 10 = .ok (.iload_n 2, 1) by decide +kernel) rfl
  · exact x_switch_ok (show decode cX8_tellOf 11 = .ok (.tableswitch 80 0 5 #[37, 42, 52, 57, 62, 67], 37) by decide +kernel) (by decide) (by decide +kernel) (by decide) (by decide) (by decide +kernel)
  · exact x_aload_n_ok (show decode cX8_tellOf 48 = .ok (.aload_n 3, 1) by decide +kernel) rfl
  · exact x_getI_ok (ci := 1) (k := 0) rfl (by decide) (by decide) hw_140 (show decode cX8_tellOf 49 = .ok (.getfield 143, 3) by decide +kernel)
  · exact x_iret_ok (show decode cX8_tellOf 52 = .ok (.ireturn, 1) by decide +kernel)
  · exact x_aload_n_ok (show decode cX8_tellOf 53 = .ok (.aload_n 0, 1) by decide +kernel) rfl
  · exact x_getR_ok (ci := 6) (k := 2) rfl (by decide) (by decide) hw_224 (show decode cX8_tellOf 54 = .ok (.getfield 26, 3) by decide +kernel)
  · exact x_iload_n_ok (show decode cX8_tellOf 57 = .ok (.iload_n 1, 1) by decide +kernel) rfl
  · exact x_iconst_ok (show decode cX8_tellOf 58 = .ok (.iconst 0, 1) by decide +kernel) (by decide)
  · exact x_callV_ok (ci := 3) rfl (by decide) (sX4_shadeOf l) hw_453 hw_450 hw_451 hw_452 hw_64 ⟨by decide, by decide, by decide +kernel⟩ rfl (by decide) (by decide) (show decode cX8_tellOf 59 = .ok (.invokevirtual 256, 3) by decide +kernel)
  · exact x_iret_ok (show decode cX8_tellOf 62 = .ok (.ireturn, 1) by decide +kernel)
  · exact x_aload_n_ok (show decode cX8_tellOf 63 = .ok (.aload_n 3, 1) by decide +kernel) rfl
  · exact x_getI_ok (ci := 1) (k := 2) rfl (by decide) (by decide) hw_147 (show decode cX8_tellOf 64 = .ok (.getfield 268, 3) by decide +kernel)
  · exact x_iret_ok (show decode cX8_tellOf 67 = .ok (.ireturn, 1) by decide +kernel)
  · exact x_aload_n_ok (show decode cX8_tellOf 68 = .ok (.aload_n 3, 1) by decide +kernel) rfl
  · exact x_getI_ok (ci := 1) (k := 3) rfl (by decide) (by decide) hw_151 (show decode cX8_tellOf 69 = .ok (.getfield 262, 3) by decide +kernel)
  · exact x_iret_ok (show decode cX8_tellOf 72 = .ok (.ireturn, 1) by decide +kernel)
  · exact x_aload_n_ok (show decode cX8_tellOf 73 = .ok (.aload_n 3, 1) by decide +kernel) rfl
  · exact x_getI_ok (ci := 1) (k := 4) rfl (by decide) (by decide) hw_155 (show decode cX8_tellOf 74 = .ok (.getfield 166, 3) by decide +kernel)
  · exact x_iret_ok (show decode cX8_tellOf 77 = .ok (.ireturn, 1) by decide +kernel)
  · exact x_aload_n_ok (show decode cX8_tellOf 78 = .ok (.aload_n 3, 1) by decide +kernel) rfl
  · exact x_getI_ok (ci := 1) (k := 5) rfl (by decide) (by decide) hw_159 (show decode cX8_tellOf 79 = .ok (.getfield 326, 3) by decide +kernel)
  · exact x_ifeq_ok (show decode cX8_tellOf 82 = .ok (.ifCond .eq 7, 3) by decide +kernel) (by decide)
  · exact x_iconst_ok (show decode cX8_tellOf 85 = .ok (.iconst 1, 1) by decide +kernel) (by decide)
  · exact x_goto_ok (show decode cX8_tellOf 86 = .ok (.goto 4, 3) by decide +kernel) (by decide)
  · exact x_iconst_ok (show decode cX8_tellOf 89 = .ok (.iconst 0, 1) by decide +kernel) (by decide)
  · exact x_iret_ok (show decode cX8_tellOf 90 = .ok (.ireturn, 1) by decide +kernel)
  · exact x_aload_n_ok (show decode cX8_tellOf 91 = .ok (.aload_n 3, 1) by decide +kernel) rfl
  · exact x_getI_ok (ci := 1) (k := 0) rfl (by decide) (by decide) hw_140 (show decode cX8_tellOf 92 = .ok (.getfield 143, 3) by decide +kernel)
  · exact x_aload_n_ok (show decode cX8_tellOf 95 = .ok (.aload_n 0, 1) by decide +kernel) rfl
  · exact x_getR_ok (ci := 6) (k := 2) rfl (by decide) (by decide) hw_224 (show decode cX8_tellOf 96 = .ok (.getfield 26, 3) by decide +kernel)
  · exact x_iload_n_ok (show decode cX8_tellOf 99 = .ok (.iload_n 1, 1) by decide +kernel) rfl
  · exact x_iconst_ok (show decode cX8_tellOf 100 = .ok (.iconst 0, 1) by decide +kernel) (by decide)
  · exact x_callV_ok (ci := 3) rfl (by decide) (sX4_shadeOf l) hw_453 hw_450 hw_451 hw_452 hw_64 ⟨by decide, by decide, by decide +kernel⟩ rfl (by decide) (by decide) (show decode cX8_tellOf 101 = .ok (.invokevirtual 256, 3) by decide +kernel)
  · exact x_aload_n_ok (show decode cX8_tellOf 104 = .ok (.aload_n 3, 1) by decide +kernel) rfl
  · exact x_getI_ok (ci := 1) (k := 2) rfl (by decide) (by decide) hw_147 (show decode cX8_tellOf 105 = .ok (.getfield 268, 3) by decide +kernel)
  · exact x_callS_ok (sX1_countReached l) hw_472 hw_470 hw_471 hw_70 ⟨by decide, by decide, by decide +kernel⟩ (by decide) (by decide) (show decode cX8_tellOf 108 = .ok (.invokestatic 271, 3) by decide +kernel)
  · exact x_iret_ok (show decode cX8_tellOf 111 = .ok (.ireturn, 1) by decide +kernel)
noncomputable def FX8_tellOf : List Value → xS → Option xR := xden tX8_tellOf 4 (some .int) 0
theorem sX8_tellOf (l : Launch) : xSound l yX8_tellOf cX8_tellOf 4 (some .int) 5 0 FX8_tellOf := x_den (by decide) (tX8_tellOf_ok l)
noncomputable def tX8_name : List (Nat × xO) := [(0, x_iload 1 1), (1, x_aload 0 1), (2, x_getR 6 2), (5, x_getI 3 1), (8, x_call 0 2 FX8_among), (11, x_ifeq 23), (14, x_iload 2 1), (15, x_push (.int (nI 7)) 2), (17, x_call 0 2 FX8_among), (20, x_ifne 25), (23, x_push (.int (-1)) 1), (24, x_iret), (25, x_aload 0 1), (26, x_aload 0 1), (27, x_iload 1 1), (28, x_iload 2 1), (29, x_callV 6 0 3 FX8_tellOf), (32, x_putI 6 10), (35, x_push (.int (nI 1)) 1), (36, x_iret)]
set_option maxRecDepth 100000 in
theorem tX8_name_ok (l : Launch) : ∀ q ∈ tX8_name, xOK l cX8_name RX8 3 6 0 (yX8_name.name = "<init>") q.1 q.2 := by
  unfold tX8_name
  refine List.forall_mem_cons.mpr ⟨?_, List.forall_mem_cons.mpr ⟨?_, List.forall_mem_cons.mpr ⟨?_, List.forall_mem_cons.mpr ⟨?_, List.forall_mem_cons.mpr ⟨?_, List.forall_mem_cons.mpr ⟨?_, List.forall_mem_cons.mpr ⟨?_, List.forall_mem_cons.mpr ⟨?_, List.forall_mem_cons.mpr ⟨?_, List.forall_mem_cons.mpr ⟨?_, List.forall_mem_cons.mpr ⟨?_, List.forall_mem_cons.mpr ⟨?_, List.forall_mem_cons.mpr ⟨?_, List.forall_mem_cons.mpr ⟨?_, List.forall_mem_cons.mpr ⟨?_, List.forall_mem_cons.mpr ⟨?_, List.forall_mem_cons.mpr ⟨?_, List.forall_mem_cons.mpr ⟨?_, List.forall_mem_cons.mpr ⟨?_, List.forall_mem_cons.mpr ⟨?_, fun _ h => absurd h List.not_mem_nil⟩⟩⟩⟩⟩⟩⟩⟩⟩⟩⟩⟩⟩⟩⟩⟩⟩⟩⟩⟩
  · exact x_iload_n_ok (show decode cX8_name 0 = .ok (.iload_n 1, 1) by decide +kernel) rfl
  · exact x_aload_n_ok (show decode cX8_name 1 = .ok (.aload_n 0, 1) by decide +kernel) rfl
  · exact x_getR_ok (ci := 6) (k := 2) rfl (by decide) (by decide) hw_224 (show decode cX8_name 2 = .ok (.getfield 26, 3) by decide +kernel)
  · exact x_getI_ok (ci := 3) (k := 1) rfl (by decide) (by decide) hw_177 (show decode cX8_name 5 = .ok (.getfield 133, 3) by decide +kernel)
  · exact x_callS_ok (sX8_among l) hw_268 hw_266 hw_267 hw_61 ⟨by decide, by decide, by decide +kernel⟩ (by decide) (by decide) (show decode cX8_name 8 = .ok (.invokestatic 65, 3) by decide +kernel)
  · exact x_ifeq_ok (show decode cX8_name 11 = .ok (.ifCond .eq 12, 3) by decide +kernel) (by decide)
  · exact x_iload_n_ok (show decode cX8_name 14 = .ok (.iload_n 2, 1) by decide +kernel) rfl
  · exact x_bipush_ok (show decode cX8_name 15 = .ok (.bipush 7, 2) by decide +kernel) (by decide)
  · exact x_callS_ok (sX8_among l) hw_268 hw_266 hw_267 hw_61 ⟨by decide, by decide, by decide +kernel⟩ (by decide) (by decide) (show decode cX8_name 17 = .ok (.invokestatic 65, 3) by decide +kernel)
  · exact x_ifne_ok (show decode cX8_name 20 = .ok (.ifCond .ne 5, 3) by decide +kernel) (by decide)
  · exact x_iconst_ok (show decode cX8_name 23 = .ok (.iconst (-1), 1) by decide +kernel) (by decide)
  · exact x_iret_ok (show decode cX8_name 24 = .ok (.ireturn, 1) by decide +kernel)
  · exact x_aload_n_ok (show decode cX8_name 25 = .ok (.aload_n 0, 1) by decide +kernel) rfl
  · exact x_aload_n_ok (show decode cX8_name 26 = .ok (.aload_n 0, 1) by decide +kernel) rfl
  · exact x_iload_n_ok (show decode cX8_name 27 = .ok (.iload_n 1, 1) by decide +kernel) rfl
  · exact x_iload_n_ok (show decode cX8_name 28 = .ok (.iload_n 2, 1) by decide +kernel) rfl
  · exact x_callV_ok (ci := 6) rfl (by decide) (sX8_tellOf l) hw_449 hw_446 hw_448 hw_7 hw_61 ⟨by decide, by decide, by decide +kernel⟩ rfl (by decide) (by decide) (show decode cX8_name 29 = .ok (.invokevirtual 134, 3) by decide +kernel)
  · exact x_putI_ok (ci := 6) (k := 10) rfl (by decide) (by decide) rfl hw_232 rfl (show decode cX8_name 32 = .ok (.putfield 84, 3) by decide +kernel)
  · exact x_iconst_ok (show decode cX8_name 35 = .ok (.iconst 1, 1) by decide +kernel) (by decide)
  · exact x_iret_ok (show decode cX8_name 36 = .ok (.ireturn, 1) by decide +kernel)
noncomputable def FX8_name : List Value → xS → Option xR := xden tX8_name 3 (some .int) 0
theorem sX8_name (l : Launch) : xSound l yX8_name cX8_name 3 (some .int) 6 0 FX8_name := x_den (by decide) (tX8_name_ok l)
noncomputable def tX9_isName : List (Nat × xO) := [(0, x_iload 1 1), (1, x_i2l), (2, x_push (.long 0) 1), (3, x_aload 0 1), (4, x_getR 7 0), (7, x_push (.int (nI 1)) 1), (8, x_iald), (9, x_push (.int (nI 1)) 1), (10, x_ii (fun x y => x - y)), (11, x_i2l), (12, x_call 0 3 FX9_in), (15, x_iret)]
set_option maxRecDepth 100000 in
theorem tX9_isName_ok (l : Launch) : ∀ q ∈ tX9_isName, xOK l cX9_isName RX9 2 2 0 (yX9_isName.name = "<init>") q.1 q.2 := by
  unfold tX9_isName
  refine List.forall_mem_cons.mpr ⟨?_, List.forall_mem_cons.mpr ⟨?_, List.forall_mem_cons.mpr ⟨?_, List.forall_mem_cons.mpr ⟨?_, List.forall_mem_cons.mpr ⟨?_, List.forall_mem_cons.mpr ⟨?_, List.forall_mem_cons.mpr ⟨?_, List.forall_mem_cons.mpr ⟨?_, List.forall_mem_cons.mpr ⟨?_, List.forall_mem_cons.mpr ⟨?_, List.forall_mem_cons.mpr ⟨?_, List.forall_mem_cons.mpr ⟨?_, fun _ h => absurd h List.not_mem_nil⟩⟩⟩⟩⟩⟩⟩⟩⟩⟩⟩⟩
  · exact x_iload_n_ok (show decode cX9_isName 0 = .ok (.iload_n 1, 1) by decide +kernel) rfl
  · exact x_i2l_ok (show decode cX9_isName 1 = .ok (.i2l, 1) by decide +kernel)
  · exact x_lconst_ok (show decode cX9_isName 2 = .ok (.lconst 0, 1) by decide +kernel) rfl
  · exact x_aload_n_ok (show decode cX9_isName 3 = .ok (.aload_n 0, 1) by decide +kernel) rfl
  · exact x_getR_ok (ci := 7) (k := 0) rfl (by decide) (by decide) hw_844 (show decode cX9_isName 4 = .ok (.getfield 7, 3) by decide +kernel)
  · exact x_iconst_ok (show decode cX9_isName 7 = .ok (.iconst 1, 1) by decide +kernel) (by decide)
  · exact x_iald_ok (show decode cX9_isName 8 = .ok (.iaload, 1) by decide +kernel)
  · exact x_iconst_ok (show decode cX9_isName 9 = .ok (.iconst 1, 1) by decide +kernel) (by decide)
  · exact x_isub_ok (show decode cX9_isName 10 = .ok (.isub, 1) by decide +kernel)
  · exact x_i2l_ok (show decode cX9_isName 11 = .ok (.i2l, 1) by decide +kernel)
  · exact x_callS_ok (sX9_in l) hw_918 hw_916 hw_917 hw_68 ⟨by decide, by decide, by decide +kernel⟩ (by decide) (by decide) (show decode cX9_isName 12 = .ok (.invokestatic 60, 3) by decide +kernel)
  · exact x_iret_ok (show decode cX9_isName 15 = .ok (.ireturn, 1) by decide +kernel)
noncomputable def FX9_isName : List Value → xS → Option xR := xden tX9_isName 2 (some .boolean) 0
theorem sX9_isName (l : Launch) : xSound l yX9_isName cX9_isName 2 (some .boolean) 2 0 FX9_isName := x_den (by decide) (tX9_isName_ok l)
noncomputable def tX9_of : List (Nat × xO) := [(0, x_aload 0 1), (1, x_getR 7 0), (4, x_push (.int (nI 10)) 2), (6, x_push (.int (nI 7)) 2), (8, x_iload 1 1), (9, x_ii (fun x y => x * y)), (10, x_ii (fun x y => x + y)), (11, x_iload 2 1), (12, x_ii (fun x y => x + y)), (13, x_iald), (14, x_iret)]
set_option maxRecDepth 100000 in
theorem tX9_of_ok (l : Launch) : ∀ q ∈ tX9_of, xOK l cX9_of RX9 3 1 0 (yX9_of.name = "<init>") q.1 q.2 := by
  unfold tX9_of
  refine List.forall_mem_cons.mpr ⟨?_, List.forall_mem_cons.mpr ⟨?_, List.forall_mem_cons.mpr ⟨?_, List.forall_mem_cons.mpr ⟨?_, List.forall_mem_cons.mpr ⟨?_, List.forall_mem_cons.mpr ⟨?_, List.forall_mem_cons.mpr ⟨?_, List.forall_mem_cons.mpr ⟨?_, List.forall_mem_cons.mpr ⟨?_, List.forall_mem_cons.mpr ⟨?_, List.forall_mem_cons.mpr ⟨?_, fun _ h => absurd h List.not_mem_nil⟩⟩⟩⟩⟩⟩⟩⟩⟩⟩⟩
  · exact x_aload_n_ok (show decode cX9_of 0 = .ok (.aload_n 0, 1) by decide +kernel) rfl
  · exact x_getR_ok (ci := 7) (k := 0) rfl (by decide) (by decide) hw_844 (show decode cX9_of 1 = .ok (.getfield 7, 3) by decide +kernel)
  · exact x_bipush_ok (show decode cX9_of 4 = .ok (.bipush 10, 2) by decide +kernel) (by decide)
  · exact x_bipush_ok (show decode cX9_of 6 = .ok (.bipush 7, 2) by decide +kernel) (by decide)
  · exact x_iload_n_ok (show decode cX9_of 8 = .ok (.iload_n 1, 1) by decide +kernel) rfl
  · exact x_imul_ok (show decode cX9_of 9 = .ok (.imul, 1) by decide +kernel)
  · exact x_iadd_ok (show decode cX9_of 10 = .ok (.iadd, 1) by decide +kernel)
  · exact x_iload_n_ok (show decode cX9_of 11 = .ok (.iload_n 2, 1) by decide +kernel) rfl
  · exact x_iadd_ok (show decode cX9_of 12 = .ok (.iadd, 1) by decide +kernel)
  · exact x_iald_ok (show decode cX9_of 13 = .ok (.iaload, 1) by decide +kernel)
  · exact x_iret_ok (show decode cX9_of 14 = .ok (.ireturn, 1) by decide +kernel)
noncomputable def FX9_of : List Value → xS → Option xR := xden tX9_of 3 (some .int) 0
theorem sX9_of (l : Launch) : xSound l yX9_of cX9_of 3 (some .int) 1 0 FX9_of := x_den (by decide) (tX9_of_ok l)
