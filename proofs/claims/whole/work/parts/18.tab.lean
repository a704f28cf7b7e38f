noncomputable def tX9_best : List (Nat × xO) := [(0, x_iload 1 1), (1, x_call 0 1 FX9_isRow), (4, x_ifeq 19), (7, x_iload 2 1), (8, x_i2l), (9, x_push (.long 0) 1), (10, x_push (.long 9) 3), (13, x_call 0 3 FX9_in), (16, x_ifne 21), (19, x_push (.int (-1)) 1), (20, x_iret), (21, x_aload 0 1), (22, x_iload 1 1), (23, x_push (.int (nI 0)) 1), (24, x_push (.int (nI 6)) 2), (26, x_callV 7 0 4 FX9_noShades), (29, x_istore 3 1), (30, x_iload 3 1), (31, x_ifeq 36), (34, x_iload 3 1), (35, x_iret), (36, x_push (.int (nI 0)) 1), (37, x_istore 4 2), (39, x_aload 0 1), (40, x_push (.int (-1)) 1), (41, x_putI 7 5), (44, x_push (.int (nI 0)) 1), (45, x_istore 5 2), (47, x_iload 5 2), (49, x_push (.int (nI 216)) 3), (52, x_cmpge 114), (55, x_aload 0 1), (56, x_iload 1 1), (57, x_iload 2 1), (58, x_iload 5 2), (60, x_callV 7 0 4 FX9_placesFrom), (63, x_call 0 1 FX9_bits), (66, x_istore 6 2), (68, x_iload 6 2), (70, x_aload 0 1), (71, x_getI 7 5), (74, x_cmple 82), (77, x_iload 5 2), (79, x_goto 84), (82, x_iload 4 2), (84, x_istore 4 2), (86, x_aload 0 1), (87, x_iload 6 2), (89, x_aload 0 1), (90, x_getI 7 5), (93, x_cmple 101), (96, x_iload 6 2), (98, x_goto 105), (101, x_aload 0 1), (102, x_getI 7 5), (105, x_putI 7 5), (108, x_iinc 5 (nI 1)), (111, x_goto 47), (114, x_iload 4 2), (116, x_iret)]
set_option maxRecDepth 100000 in
theorem tX9_best_ok (l : Launch) : ∀ q ∈ tX9_best, xOK l cX9_best RX9 7 5 0 (yX9_best.name = "<init>") q.1 q.2 := by
  unfold tX9_best
  refine List.forall_mem_cons.mpr ⟨?_, List.forall_mem_cons.mpr ⟨?_, List.forall_mem_cons.mpr ⟨?_, List.forall_mem_cons.mpr ⟨?_, List.forall_mem_cons.mpr ⟨?_, List.forall_mem_cons.mpr ⟨?_, List.forall_mem_cons.mpr ⟨?_, List.forall_mem_cons.mpr ⟨?_, List.forall_mem_cons.mpr ⟨?_, List.forall_mem_cons.mpr ⟨?_, List.forall_mem_cons.mpr ⟨?_, List.forall_mem_cons.mpr ⟨?_, List.forall_mem_cons.mpr ⟨?_, List.forall_mem_cons.mpr ⟨?_, List.forall_mem_cons.mpr ⟨?_, List.forall_mem_cons.mpr ⟨?_, List.forall_mem_cons.mpr ⟨?_, List.forall_mem_cons.mpr ⟨?_, List.forall_mem_cons.mpr ⟨?_, List.forall_mem_cons.mpr ⟨?_, List.forall_mem_cons.mpr ⟨?_, List.forall_mem_cons.mpr ⟨?_, List.forall_mem_cons.mpr ⟨?_, List.forall_mem_cons.mpr ⟨?_, List.forall_mem_cons.mpr ⟨?_, List.forall_mem_cons.mpr ⟨?_, List.forall_mem_cons.mpr ⟨?_, List.forall_mem_cons.mpr ⟨?_, List.forall_mem_cons.mpr ⟨?_, List.forall_mem_cons.mpr ⟨?_, List.forall_mem_cons.mpr ⟨?_, List.forall_mem_cons.mpr ⟨?_, List.forall_mem_cons.mpr ⟨?_, List.forall_mem_cons.mpr ⟨?_, List.forall_mem_cons.mpr ⟨?_, List.forall_mem_cons.mpr ⟨?_, List.forall_mem_cons.mpr ⟨?_, List.forall_mem_cons.mpr ⟨?_, List.forall_mem_cons.mpr ⟨?_, List.forall_mem_cons.mpr ⟨?_, List.forall_mem_cons.mpr ⟨?_, List.forall_mem_cons.mpr ⟨?_, List.forall_mem_cons.mpr ⟨?_, List.forall_mem_cons.mpr ⟨?_, List.forall_mem_cons.mpr ⟨?_, List.forall_mem_cons.mpr ⟨?_, List.forall_mem_cons.mpr ⟨?_, List.forall_mem_cons.mpr ⟨?_, List.forall_mem_cons.mpr ⟨?_, List.forall_mem_cons.mpr ⟨?_, List.forall_mem_cons.mpr ⟨?_, List.forall_mem_cons.mpr ⟨?_, List.forall_mem_cons.mpr ⟨?_, List.forall_mem_cons.mpr ⟨?_, List.forall_mem_cons.mpr ⟨?_, List.forall_mem_cons.mpr ⟨?_, List.forall_mem_cons.mpr ⟨?_, List.forall_mem_cons.mpr ⟨?_, List.forall_mem_cons.mpr ⟨?_, List.forall_mem_cons.mpr ⟨?_, fun _ h => absurd h List.not_mem_nil⟩⟩⟩⟩⟩⟩⟩⟩⟩⟩⟩⟩⟩⟩⟩⟩⟩⟩⟩⟩⟩⟩⟩⟩⟩⟩⟩⟩⟩⟩⟩⟩⟩⟩⟩⟩⟩⟩⟩⟩⟩⟩⟩⟩⟩⟩⟩⟩⟩⟩⟩⟩⟩⟩⟩⟩⟩⟩⟩⟩
  · exact x_iload_n_ok (show decode cX9_best 0 = .ok (.iload_n 1, 1) by decide +kernel) rfl
  · exact x_callS_ok (sX9_isRow l) hw_914 hw_912 hw_913 hw_68 ⟨by decide, by decide, by decide +kernel⟩ (by decide) (by decide) (show decode cX9_best 1 = .ok (.invokestatic 66, 3) by decide +kernel)
  · exact x_ifeq_ok (show decode cX9_best 4 = .ok (.ifCond .eq 15, 3) by decide +kernel) (by decide)
  · exact x_iload_n_ok (show decode cX9_best 7 = .ok (.iload_n 2, 1) by decide +kernel) rfl
  · exact x_i2l_ok (show decode cX9_best 8 = .ok (.i2l, 1) by decide +kernel)
  · exact x_lconst_ok (show decode cX9_best 9 = .ok (.lconst 0, 1) by decide +kernel) rfl
  · exact x_ldc2_ok (show decode cX9_best 10 = .ok (.ldc2_w 193, 3) by decide +kernel) hw_1085
  · exact x_callS_ok (sX9_in l) hw_918 hw_916 hw_917 hw_68 ⟨by decide, by decide, by decide +kernel⟩ (by decide) (by decide) (show decode cX9_best 13 = .ok (.invokestatic 60, 3) by decide +kernel)
  · exact x_ifne_ok (show decode cX9_best 16 = .ok (.ifCond .ne 5, 3) by decide +kernel) (by decide)
  · exact x_iconst_ok (show decode cX9_best 19 = .ok (.iconst (-1), 1) by decide +kernel) (by decide)
  · exact x_iret_ok (show decode cX9_best 20 = .ok (.ireturn, 1) by decide +kernel)
  · exact x_aload_n_ok (show decode cX9_best 21 = .ok (.aload_n 0, 1) by decide +kernel) rfl
  · exact x_iload_n_ok (show decode cX9_best 22 = .ok (.iload_n 1, 1) by decide +kernel) rfl
  · exact x_iconst_ok (show decode cX9_best 23 = .ok (.iconst 0, 1) by decide +kernel) (by decide)
  · exact x_bipush_ok (show decode cX9_best 24 = .ok (.bipush 6, 2) by decide +kernel) (by decide)
  · exact x_callV_ok (ci := 7) rfl (by decide) (sX9_noShades l) hw_1187 hw_1184 hw_1186 hw_48 hw_68 ⟨by decide, by decide, by decide +kernel⟩ rfl (by decide) (by decide) (show decode cX9_best 26 = .ok (.invokevirtual 233, 3) by decide +kernel)
  · exact x_istore_n_ok (show decode cX9_best 29 = .ok (.istore_n 3, 1) by decide +kernel) rfl (by decide)
  · exact x_iload_n_ok (show decode cX9_best 30 = .ok (.iload_n 3, 1) by decide +kernel) rfl
  · exact x_ifeq_ok (show decode cX9_best 31 = .ok (.ifCond .eq 5, 3) by decide +kernel) (by decide)
  · exact x_iload_n_ok (show decode cX9_best 34 = .ok (.iload_n 3, 1) by decide +kernel) rfl
  · exact x_iret_ok (show decode cX9_best 35 = .ok (.ireturn, 1) by decide +kernel)
  · exact x_iconst_ok (show decode cX9_best 36 = .ok (.iconst 0, 1) by decide +kernel) (by decide)
  · exact x_istore_ok (show decode cX9_best 37 = .ok (.istore 4, 2) by decide +kernel) (by decide)
  · exact x_aload_n_ok (show decode cX9_best 39 = .ok (.aload_n 0, 1) by decide +kernel) rfl
  · exact x_iconst_ok (show decode cX9_best 40 = .ok (.iconst (-1), 1) by decide +kernel) (by decide)
  · exact x_putI_ok (ci := 7) (k := 5) rfl (by decide) (by decide) rfl hw_849 rfl (show decode cX9_best 41 = .ok (.putfield 55, 3) by decide +kernel)
  · exact x_iconst_ok (show decode cX9_best 44 = .ok (.iconst 0, 1) by decide +kernel) (by decide)
  · exact x_istore_ok (show decode cX9_best 45 = .ok (.istore 5, 2) by decide +kernel) (by decide)
  · exact x_iload_ok (show decode cX9_best 47 = .ok (.iload 5, 2) by decide +kernel)
  · exact x_sipush_ok (show decode cX9_best 49 = .ok (.sipush 216, 3) by decide +kernel) (by decide)
  · exact x_cmpge_ok (show decode cX9_best 52 = .ok (.if_icmp .ge 62, 3) by decide +kernel) (by decide)
  · exact x_aload_n_ok (show decode cX9_best 55 = .ok (.aload_n 0, 1) by decide +kernel) rfl
  · exact x_iload_n_ok (show decode cX9_best 56 = .ok (.iload_n 1, 1) by decide +kernel) rfl
  · exact x_iload_n_ok (show decode cX9_best 57 = .ok (.iload_n 2, 1) by decide +kernel) rfl
  · exact x_iload_ok (show decode cX9_best 58 = .ok (.iload 5, 2) by decide +kernel)
  · exact x_callV_ok (ci := 7) rfl (by decide) (sX9_placesFrom l) hw_1191 hw_1188 hw_1190 hw_49 hw_68 ⟨by decide, by decide, by decide +kernel⟩ rfl (by decide) (by decide) (show decode cX9_best 60 = .ok (.invokevirtual 236, 3) by decide +kernel)
  · exact x_callS_ok (sX9_bits l) hw_1151 hw_1149 hw_1150 hw_68 ⟨by decide, by decide, by decide +kernel⟩ (by decide) (by decide) (show decode cX9_best 63 = .ok (.invokestatic 218, 3) by decide +kernel)
  · exact x_istore_ok (show decode cX9_best 66 = .ok (.istore 6, 2) by decide +kernel) (by decide)
  · exact x_iload_ok (show decode cX9_best 68 = .ok (.iload 6, 2) by decide +kernel)
  · exact x_aload_n_ok (show decode cX9_best 70 = .ok (.aload_n 0, 1) by decide +kernel) rfl
  · exact x_getI_ok (ci := 7) (k := 5) rfl (by decide) (by decide) hw_849 (show decode cX9_best 71 = .ok (.getfield 55, 3) by decide +kernel)
  · exact x_cmple_ok (show decode cX9_best 74 = .ok (.if_icmp .le 8, 3) by decide +kernel) (by decide)
  · exact x_iload_ok (show decode cX9_best 77 = .ok (.iload 5, 2) by decide +kernel)
  · exact x_goto_ok (show decode cX9_best 79 = .ok (.goto 5, 3) by decide +kernel) (by decide)
  · exact x_iload_ok (show decode cX9_best 82 = .ok (.iload 4, 2) by decide +kernel)
  · exact x_istore_ok (show decode cX9_best 84 = .ok (.istore 4, 2) by decide +kernel) (by decide)
  · exact x_aload_n_ok (show decode cX9_best 86 = .ok (.aload_n 0, 1) by decide +kernel) rfl
  · exact x_iload_ok (show decode cX9_best 87 = .ok (.iload 6, 2) by decide +kernel)
  · exact x_aload_n_ok (show decode cX9_best 89 = .ok (.aload_n 0, 1) by decide +kernel) rfl
  · exact x_getI_ok (ci := 7) (k := 5) rfl (by decide) (by decide) hw_849 (show decode cX9_best 90 = .ok (.getfield 55, 3) by decide +kernel)
  · exact x_cmple_ok (show decode cX9_best 93 = .ok (.if_icmp .le 8, 3) by decide +kernel) (by decide)
  · exact x_iload_ok (show decode cX9_best 96 = .ok (.iload 6, 2) by decide +kernel)
  · exact x_goto_ok (show decode cX9_best 98 = .ok (.goto 7, 3) by decide +kernel) (by decide)
  · exact x_aload_n_ok (show decode cX9_best 101 = .ok (.aload_n 0, 1) by decide +kernel) rfl
  · exact x_getI_ok (ci := 7) (k := 5) rfl (by decide) (by decide) hw_849 (show decode cX9_best 102 = .ok (.getfield 55, 3) by decide +kernel)
  · exact x_putI_ok (ci := 7) (k := 5) rfl (by decide) (by decide) rfl hw_849 rfl (show decode cX9_best 105 = .ok (.putfield 55, 3) by decide +kernel)
  · exact x_iinc_ok (show decode cX9_best 108 = .ok (.iinc 5 1, 3) by decide +kernel) (by decide) (by decide)
  · exact x_goto_ok (show decode cX9_best 111 = .ok (.goto (-64), 3) by decide +kernel) (by decide)
  · exact x_iload_ok (show decode cX9_best 114 = .ok (.iload 4, 2) by decide +kernel)
  · exact x_iret_ok (show decode cX9_best 116 = .ok (.ireturn, 1) by decide +kernel)
noncomputable def FX9_best : List Value → xS → Option xR := xden tX9_best 7 (some .int) 0
theorem sX9_best (l : Launch) : xSound l yX9_best cX9_best 7 (some .int) 5 0 FX9_best := x_den (by decide) (tX9_best_ok l)
noncomputable def tX3_lesser : List (Nat × xO) := [(0, x_iload 0 1), (1, x_push (.int (-9)) 2), (3, x_cmpeq 12), (6, x_iload 1 1), (7, x_push (.int (-9)) 2), (9, x_cmpne 24), (12, x_iload 0 1), (13, x_push (.int (-9)) 2), (15, x_cmpne 22), (18, x_iload 1 1), (19, x_goto 23), (22, x_iload 0 1), (23, x_iret), (24, x_iload 0 1), (25, x_iload 1 1), (26, x_min), (29, x_iret)]
set_option maxRecDepth 100000 in
theorem tX3_lesser_ok (l : Launch) : ∀ q ∈ tX3_lesser, xOK l cX3_lesser RX3 2 1 0 (yX3_lesser.name = "<init>") q.1 q.2 := by
  unfold tX3_lesser
  refine List.forall_mem_cons.mpr ⟨?_, List.forall_mem_cons.mpr ⟨?_, List.forall_mem_cons.mpr ⟨?_, List.forall_mem_cons.mpr ⟨?_, List.forall_mem_cons.mpr ⟨?_, List.forall_mem_cons.mpr ⟨?_, List.forall_mem_cons.mpr ⟨?_, List.forall_mem_cons.mpr ⟨?_, List.forall_mem_cons.mpr ⟨?_, List.forall_mem_cons.mpr ⟨?_, List.forall_mem_cons.mpr ⟨?_, List.forall_mem_cons.mpr ⟨?_, List.forall_mem_cons.mpr ⟨?_, List.forall_mem_cons.mpr ⟨?_, List.forall_mem_cons.mpr ⟨?_, List.forall_mem_cons.mpr ⟨?_, List.forall_mem_cons.mpr ⟨?_, fun _ h => absurd h List.not_mem_nil⟩⟩⟩⟩⟩⟩⟩⟩⟩⟩⟩⟩⟩⟩⟩⟩⟩
  · exact x_iload_n_ok (show decode cX3_lesser 0 = .ok (.iload_n 0, 1) by decide +kernel) rfl
  · exact x_bipush_ok (show decode cX3_lesser 1 = .ok (.bipush (-9), 2) by decide +kernel) (by decide)
  · exact x_cmpeq_ok (show decode cX3_lesser 3 = .ok (.if_icmp .eq 9, 3) by decide +kernel) (by decide)
  · exact x_iload_n_ok (show decode cX3_lesser 6 = .ok (.iload_n 1, 1) by decide +kernel) rfl
  · exact x_bipush_ok (show decode cX3_lesser 7 = .ok (.bipush (-9), 2) by decide +kernel) (by decide)
  · exact x_cmpne_ok (show decode cX3_lesser 9 = .ok (.if_icmp .ne 15, 3) by decide +kernel) (by decide)
  · exact x_iload_n_ok (show decode cX3_lesser 12 = .ok (.iload_n 0, 1) by decide +kernel) rfl
  · exact x_bipush_ok (show decode cX3_lesser 13 = .ok (.bipush (-9), 2) by decide +kernel) (by decide)
  · exact x_cmpne_ok (show decode cX3_lesser 15 = .ok (.if_icmp .ne 7, 3) by decide +kernel) (by decide)
  · exact x_iload_n_ok (show decode cX3_lesser 18 = .ok (.iload_n 1, 1) by decide +kernel) rfl
  · exact x_goto_ok (show decode cX3_lesser 19 = .ok (.goto 4, 3) by decide +kernel) (by decide)
  · exact x_iload_n_ok (show decode cX3_lesser 22 = .ok (.iload_n 0, 1) by decide +kernel) rfl
  · exact x_iret_ok (show decode cX3_lesser 23 = .ok (.ireturn, 1) by decide +kernel)
  · exact x_iload_n_ok (show decode cX3_lesser 24 = .ok (.iload_n 0, 1) by decide +kernel) rfl
  · exact x_iload_n_ok (show decode cX3_lesser 25 = .ok (.iload_n 1, 1) by decide +kernel) rfl
  · exact x_min_ok hw_689 hw_659 hw_76 hw_660 (by decide) (show decode cX3_lesser 26 = .ok (.invokestatic 44, 3) by decide +kernel)
  · exact x_iret_ok (show decode cX3_lesser 29 = .ok (.ireturn, 1) by decide +kernel)
noncomputable def FX3_lesser : List Value → xS → Option xR := xden tX3_lesser 2 (some .int) 0
theorem sX3_lesser (l : Launch) : xSound l yX3_lesser cX3_lesser 2 (some .int) 1 0 FX3_lesser := x_den (by decide) (tX3_lesser_ok l)
noncomputable def tX3_leastOf : List (Nat × xO) := [(0, x_push (.int (-9)) 2), (2, x_istore 3 1), (3, x_push (.int (nI 0)) 1), (4, x_istore 4 2), (6, x_iload 4 2), (8, x_iload 0 1), (9, x_cmpge 36), (12, x_aload 2 1), (13, x_aload 1 1), (14, x_iload 4 2), (16, x_iald), (17, x_bald), (18, x_ifeq 30), (21, x_iload 3 1), (22, x_aload 1 1), (23, x_iload 4 2), (25, x_iald), (26, x_call 0 2 FX3_lesser), (29, x_istore 3 1), (30, x_iinc 4 (nI 1)), (33, x_goto 6), (36, x_iload 3 1), (37, x_iret)]
set_option maxRecDepth 100000 in
theorem tX3_leastOf_ok (l : Launch) : ∀ q ∈ tX3_leastOf, xOK l cX3_leastOf RX3 5 2 0 (yX3_leastOf.name = "<init>") q.1 q.2 := by
  unfold tX3_leastOf
  refine List.forall_mem_cons.mpr ⟨?_, List.forall_mem_cons.mpr ⟨?_, List.forall_mem_cons.mpr ⟨?_, List.forall_mem_cons.mpr ⟨?_, List.forall_mem_cons.mpr ⟨?_, List.forall_mem_cons.mpr ⟨?_, List.forall_mem_cons.mpr ⟨?_, List.forall_mem_cons.mpr ⟨?_, List.forall_mem_cons.mpr ⟨?_, List.forall_mem_cons.mpr ⟨?_, List.forall_mem_cons.mpr ⟨?_, List.forall_mem_cons.mpr ⟨?_, List.forall_mem_cons.mpr ⟨?_, List.forall_mem_cons.mpr ⟨?_, List.forall_mem_cons.mpr ⟨?_, List.forall_mem_cons.mpr ⟨?_, List.forall_mem_cons.mpr ⟨?_, List.forall_mem_cons.mpr ⟨?_, List.forall_mem_cons.mpr ⟨?_, List.forall_mem_cons.mpr ⟨?_, List.forall_mem_cons.mpr ⟨?_, List.forall_mem_cons.mpr ⟨?_, List.forall_mem_cons.mpr ⟨?_, fun _ h => absurd h List.not_mem_nil⟩⟩⟩⟩⟩⟩⟩⟩⟩⟩⟩⟩⟩⟩⟩⟩⟩⟩⟩⟩⟩⟩⟩
  · exact x_bipush_ok (show decode cX3_leastOf 0 = .ok (.bipush (-9), 2) by decide +kernel) (by decide)
  · exact x_istore_n_ok (show decode cX3_leastOf 2 = .ok (.istore_n 3, 1) by decide +kernel) rfl (by decide)
  · exact x_iconst_ok (show decode cX3_leastOf 3 = .ok (.iconst 0, 1) by decide +kernel) (by decide)
  · exact x_istore_ok (show decode cX3_leastOf 4 = .ok (.istore 4, 2) by decide +kernel) (by decide)
  · exact x_iload_ok (show decode cX3_leastOf 6 = .ok (.iload 4, 2) by decide +kernel)
  · exact x_iload_n_ok (show decode cX3_leastOf 8 = .ok (.iload_n 0, 1) by decide +kernel) rfl
  · exact x_cmpge_ok (show decode cX3_leastOf 9 = .ok (.if_icmp .ge 27, 3) by decide +kernel) (by decide)
  · exact x_aload_n_ok (show decode cX3_leastOf 12 = .ok (.aload_n 2, 1) by decide +kernel) rfl
  · exact x_aload_n_ok (show decode cX3_leastOf 13 = .ok (.aload_n 1, 1) by decide +kernel) rfl
  · exact x_iload_ok (show decode cX3_leastOf 14 = .ok (.iload 4, 2) by decide +kernel)
  · exact x_iald_ok (show decode cX3_leastOf 16 = .ok (.iaload, 1) by decide +kernel)
  · exact x_bald_ok (show decode cX3_leastOf 17 = .ok (.baload, 1) by decide +kernel)
  · exact x_ifeq_ok (show decode cX3_leastOf 18 = .ok (.ifCond .eq 12, 3) by decide +kernel) (by decide)
  · exact x_iload_n_ok (show decode cX3_leastOf 21 = .ok (.iload_n 3, 1) by decide +kernel) rfl
  · exact x_aload_n_ok (show decode cX3_leastOf 22 = .ok (.aload_n 1, 1) by decide +kernel) rfl
  · exact x_iload_ok (show decode cX3_leastOf 23 = .ok (.iload 4, 2) by decide +kernel)
  · exact x_iald_ok (show decode cX3_leastOf 25 = .ok (.iaload, 1) by decide +kernel)
  · exact x_callS_ok (sX3_lesser l) hw_688 hw_686 hw_687 hw_67 ⟨by decide, by decide, by decide +kernel⟩ (by decide) (by decide) (show decode cX3_leastOf 26 = .ok (.invokestatic 41, 3) by decide +kernel)
  · exact x_istore_n_ok (show decode cX3_leastOf 29 = .ok (.istore_n 3, 1) by decide +kernel) rfl (by decide)
  · exact x_iinc_ok (show decode cX3_leastOf 30 = .ok (.iinc 4 1, 3) by decide +kernel) (by decide) (by decide)
  · exact x_goto_ok (show decode cX3_leastOf 33 = .ok (.goto (-27), 3) by decide +kernel) (by decide)
  · exact x_iload_n_ok (show decode cX3_leastOf 36 = .ok (.iload_n 3, 1) by decide +kernel) rfl
  · exact x_iret_ok (show decode cX3_leastOf 37 = .ok (.ireturn, 1) by decide +kernel)
noncomputable def FX3_leastOf : List Value → xS → Option xR := xden tX3_leastOf 5 (some .int) 0
theorem sX3_leastOf (l : Launch) : xSound l yX3_leastOf cX3_leastOf 5 (some .int) 2 0 FX3_leastOf := x_den (by decide) (tX3_leastOf_ok l)
noncomputable def tX6_mixed : List (Nat × xO) := [(0, x_iload 0 1), (1, x_call 0 1 FX6_partA), (4, x_iload 1 1), (5, x_call 0 1 FX6_partA), (8, x_ii (fun x y => x + y)), (9, x_push (.int (nI 2)) 1), (10, x_idiv), (11, x_iload 0 1), (12, x_call 0 1 FX6_partB), (15, x_iload 1 1), (16, x_call 0 1 FX6_partB), (19, x_ii (fun x y => x + y)), (20, x_push (.int (nI 2)) 1), (21, x_idiv), (22, x_iload 0 1), (23, x_call 0 1 FX6_partC), (26, x_iload 1 1), (27, x_call 0 1 FX6_partC), (30, x_ii (fun x y => x + y)), (31, x_push (.int (nI 2)) 1), (32, x_idiv), (33, x_call 0 3 FX6_of), (36, x_iret)]
set_option maxRecDepth 100000 in
theorem tX6_mixed_ok (l : Launch) : ∀ q ∈ tX6_mixed, xOK l cX6_mixed RX6 2 2 0 (yX6_mixed.name = "<init>") q.1 q.2 := by
  unfold tX6_mixed
  refine List.forall_mem_cons.mpr ⟨?_, List.forall_mem_cons.mpr ⟨?_, List.forall_mem_cons.mpr ⟨?_, List.forall_mem_cons.mpr ⟨?_, List.forall_mem_cons.mpr ⟨?_, List.forall_mem_cons.mpr ⟨?_, List.forall_mem_cons.mpr ⟨?_, List.forall_mem_cons.mpr ⟨?_, List.forall_mem_cons.mpr ⟨?_, List.forall_mem_cons.mpr ⟨?_, List.forall_mem_cons.mpr ⟨?_, List.forall_mem_cons.mpr ⟨?_, List.forall_mem_cons.mpr ⟨?_, List.forall_mem_cons.mpr ⟨?_, List.forall_mem_cons.mpr ⟨?_, List.forall_mem_cons.mpr ⟨?_, List.forall_mem_cons.mpr ⟨?_, List.forall_mem_cons.mpr ⟨?_, List.forall_mem_cons.mpr ⟨?_, List.forall_mem_cons.mpr ⟨?_, List.forall_mem_cons.mpr ⟨?_, List.forall_mem_cons.mpr ⟨?_, List.forall_mem_cons.mpr ⟨?_, fun _ h => absurd h List.not_mem_nil⟩⟩⟩⟩⟩⟩⟩⟩⟩⟩⟩⟩⟩⟩⟩⟩⟩⟩⟩⟩⟩⟩⟩
  · exact x_iload_n_ok (show decode cX6_mixed 0 = .ok (.iload_n 0, 1) by decide +kernel) rfl
  · exact x_callS_ok (sX6_partA l) hw_459 hw_457 hw_458 hw_75 ⟨by decide, by decide, by decide +kernel⟩ (by decide) (by decide) (show decode cX6_mixed 1 = .ok (.invokestatic 7, 3) by decide +kernel)
  · exact x_iload_n_ok (show decode cX6_mixed 4 = .ok (.iload_n 1, 1) by decide +kernel) rfl
  · exact x_callS_ok (sX6_partA l) hw_459 hw_457 hw_458 hw_75 ⟨by decide, by decide, by decide +kernel⟩ (by decide) (by decide) (show decode cX6_mixed 5 = .ok (.invokestatic 7, 3) by decide +kernel)
  · exact x_iadd_ok (show decode cX6_mixed 8 = .ok (.iadd, 1) by decide +kernel)
  · exact x_iconst_ok (show decode cX6_mixed 9 = .ok (.iconst 2, 1) by decide +kernel) (by decide)
  · exact x_idiv_ok (show decode cX6_mixed 10 = .ok (.idiv, 1) by decide +kernel)
  · exact x_iload_n_ok (show decode cX6_mixed 11 = .ok (.iload_n 0, 1) by decide +kernel) rfl
  · exact x_callS_ok (sX6_partB l) hw_465 hw_463 hw_464 hw_75 ⟨by decide, by decide, by decide +kernel⟩ (by decide) (by decide) (show decode cX6_mixed 12 = .ok (.invokestatic 13, 3) by decide +kernel)
  · exact x_iload_n_ok (show decode cX6_mixed 15 = .ok (.iload_n 1, 1) by decide +kernel) rfl
  · exact x_callS_ok (sX6_partB l) hw_465 hw_463 hw_464 hw_75 ⟨by decide, by decide, by decide +kernel⟩ (by decide) (by decide) (show decode cX6_mixed 16 = .ok (.invokestatic 13, 3) by decide +kernel)
  · exact x_iadd_ok (show decode cX6_mixed 19 = .ok (.iadd, 1) by decide +kernel)
  · exact x_iconst_ok (show decode cX6_mixed 20 = .ok (.iconst 2, 1) by decide +kernel) (by decide)
  · exact x_idiv_ok (show decode cX6_mixed 21 = .ok (.idiv, 1) by decide +kernel)
  · exact x_iload_n_ok (show decode cX6_mixed 22 = .ok (.iload_n 0, 1) by decide +kernel) rfl
  · exact x_callS_ok (sX6_partC l) hw_468 hw_466 hw_467 hw_75 ⟨by decide, by decide, by decide +kernel⟩ (by decide) (by decide) (show decode cX6_mixed 23 = .ok (.invokestatic 16, 3) by decide +kernel)
  · exact x_iload_n_ok (show decode cX6_mixed 26 = .ok (.iload_n 1, 1) by decide +kernel) rfl
  · exact x_callS_ok (sX6_partC l) hw_468 hw_466 hw_467 hw_75 ⟨by decide, by decide, by decide +kernel⟩ (by decide) (by decide) (show decode cX6_mixed 27 = .ok (.invokestatic 16, 3) by decide +kernel)
  · exact x_iadd_ok (show decode cX6_mixed 30 = .ok (.iadd, 1) by decide +kernel)
  · exact x_iconst_ok (show decode cX6_mixed 31 = .ok (.iconst 2, 1) by decide +kernel) (by decide)
  · exact x_idiv_ok (show decode cX6_mixed 32 = .ok (.idiv, 1) by decide +kernel)
  · exact x_callS_ok (sX6_of l) hw_440 hw_469 hw_439 hw_75 ⟨by decide, by decide, by decide +kernel⟩ (by decide) (by decide) (show decode cX6_mixed 33 = .ok (.invokestatic 19, 3) by decide +kernel)
  · exact x_iret_ok (show decode cX6_mixed 36 = .ok (.ireturn, 1) by decide +kernel)
noncomputable def FX6_mixed : List Value → xS → Option xR := xden tX6_mixed 2 (some .int) 0
theorem sX6_mixed (l : Launch) : xSound l yX6_mixed cX6_mixed 2 (some .int) 2 0 FX6_mixed := x_den (by decide) (tX6_mixed_ok l)
noncomputable def tX3_leastBy (f : List Value → xS → Option xR) : List (Nat × xO) := [(0, x_iload 0 1), (1, x_ifle 10), (4, x_iload 1 1), (5, x_aload 2 1), (6, x_alen), (7, x_cmplt 17), (10, x_iload 1 1), (11, x_aload 2 1), (12, x_aload 3 1), (13, x_call 0 3 FX3_leastOf), (16, x_iret), (17, x_push (.int (-9)) 2), (19, x_istore 4 2), (21, x_push (.int (nI 1)) 1), (22, x_istore 5 2), (24, x_iload 5 2), (26, x_iload 1 1), (27, x_cmpge 84), (30, x_push (.int (nI 0)) 1), (31, x_istore 6 2), (33, x_iload 6 2), (35, x_iload 5 2), (37, x_cmpge 78), (40, x_aload 2 1), (41, x_iload 1 1), (42, x_aload 2 1), (43, x_iload 5 2), (45, x_iald), (46, x_aload 2 1), (47, x_iload 6 2), (49, x_iald), (50, x_call 0 2 FX6_mixed), (53, x_iast), (54, x_iload 4 2), (56, x_iload 0 1), (57, x_push (.int (nI 1)) 1), (58, x_ii (fun x y => x - y)), (59, x_iload 1 1), (60, x_push (.int (nI 1)) 1), (61, x_ii (fun x y => x + y)), (62, x_aload 2 1), (63, x_aload 3 1), (64, x_call 0 4 f), (67, x_call 0 2 FX3_lesser), (70, x_istore 4 2), (72, x_iinc 6 (nI 1)), (75, x_goto 33), (78, x_iinc 5 (nI 1)), (81, x_goto 24), (84, x_iload 4 2), (86, x_iret)]
set_option maxRecDepth 100000 in
theorem tX3_leastBy_ok (l : Launch) {f : List Value → xS → Option xR} {d : Nat} (hf : xSound l yX3_leastBy cX3_leastBy 7 (some .int) d 0 f) (hd : 2 ≤ d) : ∀ q ∈ (tX3_leastBy f), xOK l cX3_leastBy RX3 7 (d + 1) 0 (yX3_leastBy.name = "<init>") q.1 q.2 := by
  unfold tX3_leastBy
  refine List.forall_mem_cons.mpr ⟨?_, List.forall_mem_cons.mpr ⟨?_, List.forall_mem_cons.mpr ⟨?_, List.forall_mem_cons.mpr ⟨?_, List.forall_mem_cons.mpr ⟨?_, List.forall_mem_cons.mpr ⟨?_, List.forall_mem_cons.mpr ⟨?_, List.forall_mem_cons.mpr ⟨?_, List.forall_mem_cons.mpr ⟨?_, List.forall_mem_cons.mpr ⟨?_, List.forall_mem_cons.mpr ⟨?_, List.forall_mem_cons.mpr ⟨?_, List.forall_mem_cons.mpr ⟨?_, List.forall_mem_cons.mpr ⟨?_, List.forall_mem_cons.mpr ⟨?_, List.forall_mem_cons.mpr ⟨?_, List.forall_mem_cons.mpr ⟨?_, List.forall_mem_cons.mpr ⟨?_, List.forall_mem_cons.mpr ⟨?_, List.forall_mem_cons.mpr ⟨?_, List.forall_mem_cons.mpr ⟨?_, List.forall_mem_cons.mpr ⟨?_, List.forall_mem_cons.mpr ⟨?_, List.forall_mem_cons.mpr ⟨?_, List.forall_mem_cons.mpr ⟨?_, List.forall_mem_cons.mpr ⟨?_, List.forall_mem_cons.mpr ⟨?_, List.forall_mem_cons.mpr ⟨?_, List.forall_mem_cons.mpr ⟨?_, List.forall_mem_cons.mpr ⟨?_, List.forall_mem_cons.mpr ⟨?_, List.forall_mem_cons.mpr ⟨?_, List.forall_mem_cons.mpr ⟨?_, List.forall_mem_cons.mpr ⟨?_, List.forall_mem_cons.mpr ⟨?_, List.forall_mem_cons.mpr ⟨?_, List.forall_mem_cons.mpr ⟨?_, List.forall_mem_cons.mpr ⟨?_, List.forall_mem_cons.mpr ⟨?_, List.forall_mem_cons.mpr ⟨?_, List.forall_mem_cons.mpr ⟨?_, List.forall_mem_cons.mpr ⟨?_, List.forall_mem_cons.mpr ⟨?_, List.forall_mem_cons.mpr ⟨?_, List.forall_mem_cons.mpr ⟨?_, List.forall_mem_cons.mpr ⟨?_, List.forall_mem_cons.mpr ⟨?_, List.forall_mem_cons.mpr ⟨?_, List.forall_mem_cons.mpr ⟨?_, List.forall_mem_cons.mpr ⟨?_, List.forall_mem_cons.mpr ⟨?_, fun _ h => absurd h List.not_mem_nil⟩⟩⟩⟩⟩⟩⟩⟩⟩⟩⟩⟩⟩⟩⟩⟩⟩⟩⟩⟩⟩⟩⟩⟩⟩⟩⟩⟩⟩⟩⟩⟩⟩⟩⟩⟩⟩⟩⟩⟩⟩⟩⟩⟩⟩⟩⟩⟩⟩⟩⟩
  · exact x_iload_n_ok (show decode cX3_leastBy 0 = .ok (.iload_n 0, 1) by decide +kernel) rfl
  · exact x_ifle_ok (show decode cX3_leastBy 1 = .ok (.ifCond .le 9, 3) by decide +kernel) (by decide)
  · exact x_iload_n_ok (show decode cX3_leastBy 4 = .ok (.iload_n 1, 1) by decide +kernel) rfl
  · exact x_aload_n_ok (show decode cX3_leastBy 5 = .ok (.aload_n 2, 1) by decide +kernel) rfl
  · exact x_alen_ok (show decode cX3_leastBy 6 = .ok (.arraylength, 1) by decide +kernel)
  · exact x_cmplt_ok (show decode cX3_leastBy 7 = .ok (.if_icmp .lt 10, 3) by decide +kernel) (by decide)
  · exact x_iload_n_ok (show decode cX3_leastBy 10 = .ok (.iload_n 1, 1) by decide +kernel) rfl
  · exact x_aload_n_ok (show decode cX3_leastBy 11 = .ok (.aload_n 2, 1) by decide +kernel) rfl
  · exact x_aload_n_ok (show decode cX3_leastBy 12 = .ok (.aload_n 3, 1) by decide +kernel) rfl
  · exact x_callS_ok (sX3_leastOf l) hw_685 hw_683 hw_684 hw_67 ⟨by decide, by decide, by decide +kernel⟩ (by omega) (by decide) (show decode cX3_leastBy 13 = .ok (.invokestatic 31, 3) by decide +kernel)
  · exact x_iret_ok (show decode cX3_leastBy 16 = .ok (.ireturn, 1) by decide +kernel)
  · exact x_bipush_ok (show decode cX3_leastBy 17 = .ok (.bipush (-9), 2) by decide +kernel) (by decide)
  · exact x_istore_ok (show decode cX3_leastBy 19 = .ok (.istore 4, 2) by decide +kernel) (by decide)
  · exact x_iconst_ok (show decode cX3_leastBy 21 = .ok (.iconst 1, 1) by decide +kernel) (by decide)
  · exact x_istore_ok (show decode cX3_leastBy 22 = .ok (.istore 5, 2) by decide +kernel) (by decide)
  · exact x_iload_ok (show decode cX3_leastBy 24 = .ok (.iload 5, 2) by decide +kernel)
  · exact x_iload_n_ok (show decode cX3_leastBy 26 = .ok (.iload_n 1, 1) by decide +kernel) rfl
  · exact x_cmpge_ok (show decode cX3_leastBy 27 = .ok (.if_icmp .ge 57, 3) by decide +kernel) (by decide)
  · exact x_iconst_ok (show decode cX3_leastBy 30 = .ok (.iconst 0, 1) by decide +kernel) (by decide)
  · exact x_istore_ok (show decode cX3_leastBy 31 = .ok (.istore 6, 2) by decide +kernel) (by decide)
  · exact x_iload_ok (show decode cX3_leastBy 33 = .ok (.iload 6, 2) by decide +kernel)
  · exact x_iload_ok (show decode cX3_leastBy 35 = .ok (.iload 5, 2) by decide +kernel)
  · exact x_cmpge_ok (show decode cX3_leastBy 37 = .ok (.if_icmp .ge 41, 3) by decide +kernel) (by decide)
  · exact x_aload_n_ok (show decode cX3_leastBy 40 = .ok (.aload_n 2, 1) by decide +kernel) rfl
  · exact x_iload_n_ok (show decode cX3_leastBy 41 = .ok (.iload_n 1, 1) by decide +kernel) rfl
  · exact x_aload_n_ok (show decode cX3_leastBy 42 = .ok (.aload_n 2, 1) by decide +kernel) rfl
  · exact x_iload_ok (show decode cX3_leastBy 43 = .ok (.iload 5, 2) by decide +kernel)
  · exact x_iald_ok (show decode cX3_leastBy 45 = .ok (.iaload, 1) by decide +kernel)
  · exact x_aload_n_ok (show decode cX3_leastBy 46 = .ok (.aload_n 2, 1) by decide +kernel) rfl
  · exact x_iload_ok (show decode cX3_leastBy 47 = .ok (.iload 6, 2) by decide +kernel)
  · exact x_iald_ok (show decode cX3_leastBy 49 = .ok (.iaload, 1) by decide +kernel)
  · exact x_callS_ok (sX6_mixed l) hw_692 hw_690 hw_691 hw_75 ⟨by decide, by decide, by decide +kernel⟩ (by omega) (by decide) (show decode cX3_leastBy 50 = .ok (.invokestatic 35, 3) by decide +kernel)
  · exact x_iast_ok (show decode cX3_leastBy 53 = .ok (.iastore, 1) by decide +kernel)
  · exact x_iload_ok (show decode cX3_leastBy 54 = .ok (.iload 4, 2) by decide +kernel)
  · exact x_iload_n_ok (show decode cX3_leastBy 56 = .ok (.iload_n 0, 1) by decide +kernel) rfl
  · exact x_iconst_ok (show decode cX3_leastBy 57 = .ok (.iconst 1, 1) by decide +kernel) (by decide)
  · exact x_isub_ok (show decode cX3_leastBy 58 = .ok (.isub, 1) by decide +kernel)
  · exact x_iload_n_ok (show decode cX3_leastBy 59 = .ok (.iload_n 1, 1) by decide +kernel) rfl
  · exact x_iconst_ok (show decode cX3_leastBy 60 = .ok (.iconst 1, 1) by decide +kernel) (by decide)
  · exact x_iadd_ok (show decode cX3_leastBy 61 = .ok (.iadd, 1) by decide +kernel)
  · exact x_aload_n_ok (show decode cX3_leastBy 62 = .ok (.aload_n 2, 1) by decide +kernel) rfl
  · exact x_aload_n_ok (show decode cX3_leastBy 63 = .ok (.aload_n 3, 1) by decide +kernel) rfl
  · exact x_callS_ok (hf) hw_682 hw_680 hw_681 hw_67 ⟨by decide, by decide, by decide +kernel⟩ (by omega) (by decide) (show decode cX3_leastBy 64 = .ok (.invokestatic 24, 3) by decide +kernel)
  · exact x_callS_ok (sX3_lesser l) hw_688 hw_686 hw_687 hw_67 ⟨by decide, by decide, by decide +kernel⟩ (by omega) (by decide) (show decode cX3_leastBy 67 = .ok (.invokestatic 41, 3) by decide +kernel)
  · exact x_istore_ok (show decode cX3_leastBy 70 = .ok (.istore 4, 2) by decide +kernel) (by decide)
  · exact x_iinc_ok (show decode cX3_leastBy 72 = .ok (.iinc 6 1, 3) by decide +kernel) (by decide) (by decide)
  · exact x_goto_ok (show decode cX3_leastBy 75 = .ok (.goto (-42), 3) by decide +kernel) (by decide)
  · exact x_iinc_ok (show decode cX3_leastBy 78 = .ok (.iinc 5 1, 3) by decide +kernel) (by decide) (by decide)
  · exact x_goto_ok (show decode cX3_leastBy 81 = .ok (.goto (-57), 3) by decide +kernel) (by decide)
  · exact x_iload_ok (show decode cX3_leastBy 84 = .ok (.iload 4, 2) by decide +kernel)
  · exact x_iret_ok (show decode cX3_leastBy 86 = .ok (.ireturn, 1) by decide +kernel)
noncomputable def GX3_leastBy : Nat → List Value → xS → Option xR
  | 0 => fun _ _ => none
  | n + 1 => xden (tX3_leastBy (GX3_leastBy n)) 7 (some .int) 0
theorem gX3_leastBy (l : Launch) : ∀ n, xSound l yX3_leastBy cX3_leastBy 7 (some .int) (2 + n) 0 (GX3_leastBy n)
  | 0 => x_dead
  | n + 1 => x_den (by decide) (tX3_leastBy_ok l (gX3_leastBy l n) (Nat.le_add_right 2 n))
noncomputable def FX3_leastBy : List Value → xS → Option xR := GX3_leastBy 5
theorem sX3_leastBy (l : Launch) : xSound l yX3_leastBy cX3_leastBy 7 (some .int) 7 0 FX3_leastBy := gX3_leastBy l 5
noncomputable def tX3_fewestMixings : List (Nat × xO) := [(0, x_push (.int (nI 0)) 1), (1, x_istore 3 1), (2, x_iload 3 1), (3, x_aload 1 1), (4, x_getI 4 1), (7, x_cmpge 28), (10, x_aload 0 1), (11, x_getR 2 0), (14, x_iload 3 1), (15, x_aload 1 1), (16, x_getR 4 0), (19, x_iload 3 1), (20, x_iald), (21, x_iast), (22, x_iinc 3 (nI 1)), (25, x_goto 2), (28, x_push (.int (nI 0)) 1), (29, x_istore 3 1), (30, x_iload 3 1), (31, x_push (.int (nI 3)) 1), (32, x_cmpgt 69), (35, x_aload 0 1), (36, x_iload 3 1), (37, x_aload 1 1), (38, x_getI 4 1), (41, x_aload 0 1), (42, x_getR 2 0), (45, x_aload 2 1), (46, x_call 0 4 FX3_leastBy), (49, x_putI 2 1), (52, x_aload 0 1), (53, x_getI 2 1), (56, x_push (.int (-9)) 2), (58, x_cmpeq 63), (61, x_iload 3 1), (62, x_iret), (63, x_iinc 3 (nI 1)), (66, x_goto 30), (69, x_push (.int (-9)) 2), (71, x_iret)]
set_option maxRecDepth 100000 in
theorem tX3_fewestMixings_ok (l : Launch) : ∀ q ∈ tX3_fewestMixings, xOK l cX3_fewestMixings RX3 4 8 0 (yX3_fewestMixings.name = "<init>") q.1 q.2 := by
  unfold tX3_fewestMixings
  refine List.forall_mem_cons.mpr ⟨?_, List.forall_mem_cons.mpr ⟨?_, List.forall_mem_cons.mpr ⟨?_, List.forall_mem_cons.mpr ⟨?_, List.forall_mem_cons.mpr ⟨?_, List.forall_mem_cons.mpr ⟨?_, List.forall_mem_cons.mpr ⟨?_, List.forall_mem_cons.mpr ⟨?_, List.forall_mem_cons.mpr ⟨?_, List.forall_mem_cons.mpr ⟨?_, List.forall_mem_cons.mpr ⟨?_, List.forall_mem_cons.mpr ⟨?_, List.forall_mem_cons.mpr ⟨?_, List.forall_mem_cons.mpr ⟨?_, List.forall_mem_cons.mpr ⟨?_, List.forall_mem_cons.mpr ⟨?_, List.forall_mem_cons.mpr ⟨?_, List.forall_mem_cons.mpr ⟨?_, List.forall_mem_cons.mpr ⟨?_, List.forall_mem_cons.mpr ⟨?_, List.forall_mem_cons.mpr ⟨?_, List.forall_mem_cons.mpr ⟨?_, List.forall_mem_cons.mpr ⟨?_, List.forall_mem_cons.mpr ⟨?_, List.forall_mem_cons.mpr ⟨?_, List.forall_mem_cons.mpr ⟨?_, List.forall_mem_cons.mpr ⟨?_, List.forall_mem_cons.mpr ⟨?_, List.forall_mem_cons.mpr ⟨?_, List.forall_mem_cons.mpr ⟨?_, List.forall_mem_cons.mpr ⟨?_, List.forall_mem_cons.mpr ⟨?_, List.forall_mem_cons.mpr ⟨?_, List.forall_mem_cons.mpr ⟨?_, List.forall_mem_cons.mpr ⟨?_, List.forall_mem_cons.mpr ⟨?_, List.forall_mem_cons.mpr ⟨?_, List.forall_mem_cons.mpr ⟨?_, List.forall_mem_cons.mpr ⟨?_, List.forall_mem_cons.mpr ⟨?_, fun _ h => absurd h List.not_mem_nil⟩⟩⟩⟩⟩⟩⟩⟩⟩⟩⟩⟩⟩⟩⟩⟩⟩⟩⟩⟩⟩⟩⟩⟩⟩⟩⟩⟩⟩⟩⟩⟩⟩⟩⟩⟩⟩⟩⟩⟩
  · exact x_iconst_ok (show decode cX3_fewestMixings 0 = .ok (.iconst 0, 1) by decide +kernel) (by decide)
  · exact x_istore_n_ok (show decode cX3_fewestMixings 1 = .ok (.istore_n 3, 1) by decide +kernel) rfl (by decide)
  · exact x_iload_n_ok (show decode cX3_fewestMixings 2 = .ok (.iload_n 3, 1) by decide +kernel) rfl
  · exact x_aload_n_ok (show decode cX3_fewestMixings 3 = .ok (.aload_n 1, 1) by decide +kernel) rfl
  · exact x_getI_ok (ci := 4) (k := 1) rfl (by decide) (by decide) hw_98 (show decode cX3_fewestMixings 4 = .ok (.getfield 15, 3) by decide +kernel)
  · exact x_cmpge_ok (show decode cX3_fewestMixings 7 = .ok (.if_icmp .ge 21, 3) by decide +kernel) (by decide)
  · exact x_aload_n_ok (show decode cX3_fewestMixings 10 = .ok (.aload_n 0, 1) by decide +kernel) rfl
  · exact x_getR_ok (ci := 2) (k := 0) rfl (by decide) (by decide) hw_214 (show decode cX3_fewestMixings 11 = .ok (.getfield 11, 3) by decide +kernel)
  · exact x_iload_n_ok (show decode cX3_fewestMixings 14 = .ok (.iload_n 3, 1) by decide +kernel) rfl
  · exact x_aload_n_ok (show decode cX3_fewestMixings 15 = .ok (.aload_n 1, 1) by decide +kernel) rfl
  · exact x_getR_ok (ci := 4) (k := 0) rfl (by decide) (by decide) hw_94 (show decode cX3_fewestMixings 16 = .ok (.getfield 21, 3) by decide +kernel)
  · exact x_iload_n_ok (show decode cX3_fewestMixings 19 = .ok (.iload_n 3, 1) by decide +kernel) rfl
  · exact x_iald_ok (show decode cX3_fewestMixings 20 = .ok (.iaload, 1) by decide +kernel)
  · exact x_iast_ok (show decode cX3_fewestMixings 21 = .ok (.iastore, 1) by decide +kernel)
  · exact x_iinc_ok (show decode cX3_fewestMixings 22 = .ok (.iinc 3 1, 3) by decide +kernel) (by decide) (by decide)
  · exact x_goto_ok (show decode cX3_fewestMixings 25 = .ok (.goto (-23), 3) by decide +kernel) (by decide)
  · exact x_iconst_ok (show decode cX3_fewestMixings 28 = .ok (.iconst 0, 1) by decide +kernel) (by decide)
  · exact x_istore_n_ok (show decode cX3_fewestMixings 29 = .ok (.istore_n 3, 1) by decide +kernel) rfl (by decide)
  · exact x_iload_n_ok (show decode cX3_fewestMixings 30 = .ok (.iload_n 3, 1) by decide +kernel) rfl
  · exact x_iconst_ok (show decode cX3_fewestMixings 31 = .ok (.iconst 3, 1) by decide +kernel) (by decide)
  · exact x_cmpgt_ok (show decode cX3_fewestMixings 32 = .ok (.if_icmp .gt 37, 3) by decide +kernel) (by decide)
  · exact x_aload_n_ok (show decode cX3_fewestMixings 35 = .ok (.aload_n 0, 1) by decide +kernel) rfl
  · exact x_iload_n_ok (show decode cX3_fewestMixings 36 = .ok (.iload_n 3, 1) by decide +kernel) rfl
  · exact x_aload_n_ok (show decode cX3_fewestMixings 37 = .ok (.aload_n 1, 1) by decide +kernel) rfl
  · exact x_getI_ok (ci := 4) (k := 1) rfl (by decide) (by decide) hw_98 (show decode cX3_fewestMixings 38 = .ok (.getfield 15, 3) by decide +kernel)
  · exact x_aload_n_ok (show decode cX3_fewestMixings 41 = .ok (.aload_n 0, 1) by decide +kernel) rfl
  · exact x_getR_ok (ci := 2) (k := 0) rfl (by decide) (by decide) hw_214 (show decode cX3_fewestMixings 42 = .ok (.getfield 11, 3) by decide +kernel)
  · exact x_aload_n_ok (show decode cX3_fewestMixings 45 = .ok (.aload_n 2, 1) by decide +kernel) rfl
  · exact x_callS_ok (sX3_leastBy l) hw_682 hw_680 hw_681 hw_67 ⟨by decide, by decide, by decide +kernel⟩ (by decide) (by decide) (show decode cX3_fewestMixings 46 = .ok (.invokestatic 24, 3) by decide +kernel)
  · exact x_putI_ok (ci := 2) (k := 1) rfl (by decide) (by decide) rfl hw_215 rfl (show decode cX3_fewestMixings 49 = .ok (.putfield 28, 3) by decide +kernel)
  · exact x_aload_n_ok (show decode cX3_fewestMixings 52 = .ok (.aload_n 0, 1) by decide +kernel) rfl
  · exact x_getI_ok (ci := 2) (k := 1) rfl (by decide) (by decide) hw_215 (show decode cX3_fewestMixings 53 = .ok (.getfield 28, 3) by decide +kernel)
  · exact x_bipush_ok (show decode cX3_fewestMixings 56 = .ok (.bipush (-9), 2) by decide +kernel) (by decide)
  · exact x_cmpeq_ok (show decode cX3_fewestMixings 58 = .ok (.if_icmp .eq 5, 3) by decide +kernel) (by decide)
  · exact x_iload_n_ok (show decode cX3_fewestMixings 61 = .ok (.iload_n 3, 1) by decide +kernel) rfl
  · exact x_iret_ok (show decode cX3_fewestMixings 62 = .ok (.ireturn, 1) by decide +kernel)
  · exact x_iinc_ok (show decode cX3_fewestMixings 63 = .ok (.iinc 3 1, 3) by decide +kernel) (by decide) (by decide)
  · exact x_goto_ok (show decode cX3_fewestMixings 66 = .ok (.goto (-36), 3) by decide +kernel) (by decide)
  · exact x_bipush_ok (show decode cX3_fewestMixings 69 = .ok (.bipush (-9), 2) by decide +kernel) (by decide)
  · exact x_iret_ok (show decode cX3_fewestMixings 71 = .ok (.ireturn, 1) by decide +kernel)
noncomputable def FX3_fewestMixings : List Value → xS → Option xR := xden tX3_fewestMixings 4 (some .int) 0
theorem sX3_fewestMixings (l : Launch) : xSound l yX3_fewestMixings cX3_fewestMixings 4 (some .int) 8 0 FX3_fewestMixings := x_den (by decide) (tX3_fewestMixings_ok l)
noncomputable def tX8_mix : List (Nat × xO) := [(0, x_iload 2 1), (1, x_push (.int (nI 216)) 3), (4, x_call 0 2 FX8_among), (7, x_ifne 12), (10, x_push (.int (-1)) 1), (11, x_iret), (12, x_aload 0 1), (13, x_iload 1 1), (14, x_push (.int (nI 1)) 1), (15, x_push (.int (nI 4)) 1), (16, x_callV 6 0 4 FX8_refusalOfShades), (19, x_istore 3 1), (20, x_iload 3 1), (21, x_ifeq 26), (24, x_iload 3 1), (25, x_iret), (26, x_push (.int (nI 0)) 1), (27, x_istore 4 2), (29, x_iload 4 2), (31, x_push (.int (nI 216)) 3), (34, x_cmpge 61), (37, x_aload 0 1), (38, x_getR 6 7), (41, x_iload 4 2), (43, x_iload 4 2), (45, x_iload 2 1), (46, x_cmpne 53), (49, x_push (.int (nI 1)) 1), (50, x_goto 54), (53, x_push (.int (nI 0)) 1), (54, x_bastZ), (55, x_iinc 4 (nI 1)), (58, x_goto 29), (61, x_aload 0 1), (62, x_getR 6 5), (65, x_aload 0 1), (66, x_getR 6 0), (69, x_iload 1 1), (70, x_aald), (71, x_aload 0 1), (72, x_getR 6 7), (75, x_callV 2 0 3 FX3_fewestMixings), (78, x_iret)]
set_option maxRecDepth 100000 in
theorem tX8_mix_ok (l : Launch) : ∀ q ∈ tX8_mix, xOK l cX8_mix RX8 5 9 0 (yX8_mix.name = "<init>") q.1 q.2 := by
  unfold tX8_mix
  refine List.forall_mem_cons.mpr ⟨?_, List.forall_mem_cons.mpr ⟨?_, List.forall_mem_cons.mpr ⟨?_, List.forall_mem_cons.mpr ⟨?_, List.forall_mem_cons.mpr ⟨?_, List.forall_mem_cons.mpr ⟨?_, List.forall_mem_cons.mpr ⟨?_, List.forall_mem_cons.mpr ⟨?_, List.forall_mem_cons.mpr ⟨?_, List.forall_mem_cons.mpr ⟨?_, List.forall_mem_cons.mpr ⟨?_, List.forall_mem_cons.mpr ⟨?_, List.forall_mem_cons.mpr ⟨?_, List.forall_mem_cons.mpr ⟨?_, List.forall_mem_cons.mpr ⟨?_, List.forall_mem_cons.mpr ⟨?_, List.forall_mem_cons.mpr ⟨?_, List.forall_mem_cons.mpr ⟨?_, List.forall_mem_cons.mpr ⟨?_, List.forall_mem_cons.mpr ⟨?_, List.forall_mem_cons.mpr ⟨?_, List.forall_mem_cons.mpr ⟨?_, List.forall_mem_cons.mpr ⟨?_, List.forall_mem_cons.mpr ⟨?_, List.forall_mem_cons.mpr ⟨?_, List.forall_mem_cons.mpr ⟨?_, List.forall_mem_cons.mpr ⟨?_, List.forall_mem_cons.mpr ⟨?_, List.forall_mem_cons.mpr ⟨?_, List.forall_mem_cons.mpr ⟨?_, List.forall_mem_cons.mpr ⟨?_, List.forall_mem_cons.mpr ⟨?_, List.forall_mem_cons.mpr ⟨?_, List.forall_mem_cons.mpr ⟨?_, List.forall_mem_cons.mpr ⟨?_, List.forall_mem_cons.mpr ⟨?_, List.forall_mem_cons.mpr ⟨?_, List.forall_mem_cons.mpr ⟨?_, List.forall_mem_cons.mpr ⟨?_, List.forall_mem_cons.mpr ⟨?_, List.forall_mem_cons.mpr ⟨?_, List.forall_mem_cons.mpr ⟨?_, List.forall_mem_cons.mpr ⟨?_, fun _ h => absurd h List.not_mem_nil⟩⟩⟩⟩⟩⟩⟩⟩⟩⟩⟩⟩⟩⟩⟩⟩⟩⟩⟩⟩⟩⟩⟩⟩⟩⟩⟩⟩⟩⟩⟩⟩⟩⟩⟩⟩⟩⟩⟩⟩⟩⟩⟩
  · exact x_iload_n_ok (show decode cX8_mix 0 = .ok (.iload_n 2, 1) by decide +kernel) rfl
  · exact x_sipush_ok (show decode cX8_mix 1 = .ok (.sipush 216, 3) by decide +kernel) (by decide)
  · exact x_callS_ok (sX8_among l) hw_268 hw_266 hw_267 hw_61 ⟨by decide, by decide, by decide +kernel⟩ (by decide) (by decide) (show decode cX8_mix 4 = .ok (.invokestatic 65, 3) by decide +kernel)
  · exact x_ifne_ok (show decode cX8_mix 7 = .ok (.ifCond .ne 5, 3) by decide +kernel) (by decide)
  · exact x_iconst_ok (show decode cX8_mix 10 = .ok (.iconst (-1), 1) by decide +kernel) (by decide)
  · exact x_iret_ok (show decode cX8_mix 11 = .ok (.ireturn, 1) by decide +kernel)
  · exact x_aload_n_ok (show decode cX8_mix 12 = .ok (.aload_n 0, 1) by decide +kernel) rfl
  · exact x_iload_n_ok (show decode cX8_mix 13 = .ok (.iload_n 1, 1) by decide +kernel) rfl
  · exact x_iconst_ok (show decode cX8_mix 14 = .ok (.iconst 1, 1) by decide +kernel) (by decide)
  · exact x_iconst_ok (show decode cX8_mix 15 = .ok (.iconst 4, 1) by decide +kernel) (by decide)
  · exact x_callV_ok (ci := 6) rfl (by decide) (sX8_refusalOfShades l) hw_632 hw_629 hw_631 hw_10 hw_61 ⟨by decide, by decide, by decide +kernel⟩ rfl (by decide) (by decide) (show decode cX8_mix 16 = .ok (.invokevirtual 208, 3) by decide +kernel)
  · exact x_istore_n_ok (show decode cX8_mix 19 = .ok (.istore_n 3, 1) by decide +kernel) rfl (by decide)
  · exact x_iload_n_ok (show decode cX8_mix 20 = .ok (.iload_n 3, 1) by decide +kernel) rfl
  · exact x_ifeq_ok (show decode cX8_mix 21 = .ok (.ifCond .eq 5, 3) by decide +kernel) (by decide)
  · exact x_iload_n_ok (show decode cX8_mix 24 = .ok (.iload_n 3, 1) by decide +kernel) rfl
  · exact x_iret_ok (show decode cX8_mix 25 = .ok (.ireturn, 1) by decide +kernel)
  · exact x_iconst_ok (show decode cX8_mix 26 = .ok (.iconst 0, 1) by decide +kernel) (by decide)
  · exact x_istore_ok (show decode cX8_mix 27 = .ok (.istore 4, 2) by decide +kernel) (by decide)
  · exact x_iload_ok (show decode cX8_mix 29 = .ok (.iload 4, 2) by decide +kernel)
  · exact x_sipush_ok (show decode cX8_mix 31 = .ok (.sipush 216, 3) by decide +kernel) (by decide)
  · exact x_cmpge_ok (show decode cX8_mix 34 = .ok (.if_icmp .ge 27, 3) by decide +kernel) (by decide)
  · exact x_aload_n_ok (show decode cX8_mix 37 = .ok (.aload_n 0, 1) by decide +kernel) rfl
  · exact x_getR_ok (ci := 6) (k := 7) rfl (by decide) (by decide) hw_229 (show decode cX8_mix 38 = .ok (.getfield 54, 3) by decide +kernel)
  · exact x_iload_ok (show decode cX8_mix 41 = .ok (.iload 4, 2) by decide +kernel)
  · exact x_iload_ok (show decode cX8_mix 43 = .ok (.iload 4, 2) by decide +kernel)
  · exact x_iload_n_ok (show decode cX8_mix 45 = .ok (.iload_n 2, 1) by decide +kernel) rfl
  · exact x_cmpne_ok (show decode cX8_mix 46 = .ok (.if_icmp .ne 7, 3) by decide +kernel) (by decide)
  · exact x_iconst_ok (show decode cX8_mix 49 = .ok (.iconst 1, 1) by decide +kernel) (by decide)
  · exact x_goto_ok (show decode cX8_mix 50 = .ok (.goto 4, 3) by decide +kernel) (by decide)
  · exact x_iconst_ok (show decode cX8_mix 53 = .ok (.iconst 0, 1) by decide +kernel) (by decide)
  · exact x_bastZ_ok (show decode cX8_mix 54 = .ok (.bastore, 1) by decide +kernel)
  · exact x_iinc_ok (show decode cX8_mix 55 = .ok (.iinc 4 1, 3) by decide +kernel) (by decide) (by decide)
  · exact x_goto_ok (show decode cX8_mix 58 = .ok (.goto (-29), 3) by decide +kernel) (by decide)
  · exact x_aload_n_ok (show decode cX8_mix 61 = .ok (.aload_n 0, 1) by decide +kernel) rfl
  · exact x_getR_ok (ci := 6) (k := 5) rfl (by decide) (by decide) hw_227 (show decode cX8_mix 62 = .ok (.getfield 44, 3) by decide +kernel)
  · exact x_aload_n_ok (show decode cX8_mix 65 = .ok (.aload_n 0, 1) by decide +kernel) rfl
  · exact x_getR_ok (ci := 6) (k := 0) rfl (by decide) (by decide) hw_222 (show decode cX8_mix 66 = .ok (.getfield 11, 3) by decide +kernel)
  · exact x_iload_n_ok (show decode cX8_mix 69 = .ok (.iload_n 1, 1) by decide +kernel) rfl
  · exact x_aald_ok (show decode cX8_mix 70 = .ok (.aaload, 1) by decide +kernel)
  · exact x_aload_n_ok (show decode cX8_mix 71 = .ok (.aload_n 0, 1) by decide +kernel) rfl
  · exact x_getR_ok (ci := 6) (k := 7) rfl (by decide) (by decide) hw_229 (show decode cX8_mix 72 = .ok (.getfield 54, 3) by decide +kernel)
  · exact x_callV_ok (ci := 2) rfl (by decide) (sX3_fewestMixings l) hw_679 hw_676 hw_677 hw_678 hw_67 ⟨by decide, by decide, by decide +kernel⟩ rfl (by decide) (by decide) (show decode cX8_mix 75 = .ok (.invokevirtual 228, 3) by decide +kernel)
  · exact x_iret_ok (show decode cX8_mix 78 = .ok (.ireturn, 1) by decide +kernel)
noncomputable def FX8_mix : List Value → xS → Option xR := xden tX8_mix 5 (some .int) 0
theorem sX8_mix (l : Launch) : xSound l yX8_mix cX8_mix 5 (some .int) 9 0 FX8_mix := x_den (by decide) (tX8_mix_ok l)
noncomputable def tX9_reachedAt : List (Nat × xO) := [(0, x_aload 0 1), (1, x_getR 7 19), (4, x_iload 1 1), (5, x_iload 2 1), (6, x_aload 0 1), (7, x_getR 7 19), (10, x_iload 1 1), (11, x_iald), (12, x_cmpge 19), (15, x_iload 2 1), (16, x_goto 25), (19, x_aload 0 1), (20, x_getR 7 19), (23, x_iload 1 1), (24, x_iald), (25, x_iast), (26, x_vret)]
set_option maxRecDepth 100000 in
theorem tX9_reachedAt_ok (l : Launch) : ∀ q ∈ tX9_reachedAt, xOK l cX9_reachedAt RX9 3 1 0 (yX9_reachedAt.name = "<init>") q.1 q.2 := by
  unfold tX9_reachedAt
  refine List.forall_mem_cons.mpr ⟨?_, List.forall_mem_cons.mpr ⟨?_, List.forall_mem_cons.mpr ⟨?_, List.forall_mem_cons.mpr ⟨?_, List.forall_mem_cons.mpr ⟨?_, List.forall_mem_cons.mpr ⟨?_, List.forall_mem_cons.mpr ⟨?_, List.forall_mem_cons.mpr ⟨?_, List.forall_mem_cons.mpr ⟨?_, List.forall_mem_cons.mpr ⟨?_, List.forall_mem_cons.mpr ⟨?_, List.forall_mem_cons.mpr ⟨?_, List.forall_mem_cons.mpr ⟨?_, List.forall_mem_cons.mpr ⟨?_, List.forall_mem_cons.mpr ⟨?_, List.forall_mem_cons.mpr ⟨?_, List.forall_mem_cons.mpr ⟨?_, fun _ h => absurd h List.not_mem_nil⟩⟩⟩⟩⟩⟩⟩⟩⟩⟩⟩⟩⟩⟩⟩⟩⟩
  · exact x_aload_n_ok (show decode cX9_reachedAt 0 = .ok (.aload_n 0, 1) by decide +kernel) rfl
  · exact x_getR_ok (ci := 7) (k := 19) rfl (by decide) (by decide) hw_863 (show decode cX9_reachedAt 1 = .ok (.getfield 45, 3) by decide +kernel)
  · exact x_iload_n_ok (show decode cX9_reachedAt 4 = .ok (.iload_n 1, 1) by decide +kernel) rfl
  · exact x_iload_n_ok (show decode cX9_reachedAt 5 = .ok (.iload_n 2, 1) by decide +kernel) rfl
  · exact x_aload_n_ok (show decode cX9_reachedAt 6 = .ok (.aload_n 0, 1) by decide +kernel) rfl
  · exact x_getR_ok (ci := 7) (k := 19) rfl (by decide) (by decide) hw_863 (show decode cX9_reachedAt 7 = .ok (.getfield 45, 3) by decide +kernel)
  · exact x_iload_n_ok (show decode cX9_reachedAt 10 = .ok (.iload_n 1, 1) by decide +kernel) rfl
  · exact x_iald_ok (show decode cX9_reachedAt 11 = .ok (.iaload, 1) by decide +kernel)
  · exact x_cmpge_ok (show decode cX9_reachedAt 12 = .ok (.if_icmp .ge 7, 3) by decide +kernel) (by decide)
  · exact x_iload_n_ok (show decode cX9_reachedAt 15 = .ok (.iload_n 2, 1) by decide +kernel) rfl
  · exact x_goto_ok (show decode cX9_reachedAt 16 = .ok (.goto 9, 3) by decide +kernel) (by decide)
  · exact x_aload_n_ok (show decode cX9_reachedAt 19 = .ok (.aload_n 0, 1) by decide +kernel) rfl
  · exact x_getR_ok (ci := 7) (k := 19) rfl (by decide) (by decide) hw_863 (show decode cX9_reachedAt 20 = .ok (.getfield 45, 3) by decide +kernel)
  · exact x_iload_n_ok (show decode cX9_reachedAt 23 = .ok (.iload_n 1, 1) by decide +kernel) rfl
  · exact x_iald_ok (show decode cX9_reachedAt 24 = .ok (.iaload, 1) by decide +kernel)
  · exact x_iast_ok (show decode cX9_reachedAt 25 = .ok (.iastore, 1) by decide +kernel)
  · exact x_vret_ok (show decode cX9_reachedAt 26 = .ok (.return_, 1) by decide +kernel)
noncomputable def FX9_reachedAt : List Value → xS → Option xR := xden tX9_reachedAt 3 none 0
theorem sX9_reachedAt (l : Launch) : xSound l yX9_reachedAt cX9_reachedAt 3 none 1 0 FX9_reachedAt := x_den (by decide) (tX9_reachedAt_ok l)
noncomputable def tX9_mixed : List (Nat × xO) := [(0, x_iload 0 1), (1, x_push (.int (nI 36)) 2), (3, x_idiv), (4, x_iload 1 1), (5, x_push (.int (nI 36)) 2), (7, x_idiv), (8, x_ii (fun x y => x + y)), (9, x_push (.int (nI 2)) 1), (10, x_idiv), (11, x_istore 2 1), (12, x_iload 0 1), (13, x_push (.int (nI 6)) 2), (15, x_idiv), (16, x_push (.int (nI 6)) 2), (18, x_irem), (19, x_iload 1 1), (20, x_push (.int (nI 6)) 2), (22, x_idiv), (23, x_push (.int (nI 6)) 2), (25, x_irem), (26, x_ii (fun x y => x + y)), (27, x_push (.int (nI 2)) 1), (28, x_idiv), (29, x_istore 3 1), (30, x_push (.int (nI 36)) 2), (32, x_iload 2 1), (33, x_ii (fun x y => x * y)), (34, x_push (.int (nI 6)) 2), (36, x_iload 3 1), (37, x_ii (fun x y => x * y)), (38, x_ii (fun x y => x + y)), (39, x_iload 0 1), (40, x_push (.int (nI 6)) 2), (42, x_irem), (43, x_iload 1 1), (44, x_push (.int (nI 6)) 2), (46, x_irem), (47, x_ii (fun x y => x + y)), (48, x_push (.int (nI 2)) 1), (49, x_idiv), (50, x_ii (fun x y => x + y)), (51, x_iret)]
set_option maxRecDepth 100000 in
theorem tX9_mixed_ok (l : Launch) : ∀ q ∈ tX9_mixed, xOK l cX9_mixed RX9 4 1 0 (yX9_mixed.name = "<init>") q.1 q.2 := by
  unfold tX9_mixed
  refine List.forall_mem_cons.mpr ⟨?_, List.forall_mem_cons.mpr ⟨?_, List.forall_mem_cons.mpr ⟨?_, List.forall_mem_cons.mpr ⟨?_, List.forall_mem_cons.mpr ⟨?_, List.forall_mem_cons.mpr ⟨?_, List.forall_mem_cons.mpr ⟨?_, List.forall_mem_cons.mpr ⟨?_, List.forall_mem_cons.mpr ⟨?_, List.forall_mem_cons.mpr ⟨?_, List.forall_mem_cons.mpr ⟨?_, List.forall_mem_cons.mpr ⟨?_, List.forall_mem_cons.mpr ⟨?_, List.forall_mem_cons.mpr ⟨?_, List.forall_mem_cons.mpr ⟨?_, List.forall_mem_cons.mpr ⟨?_, List.forall_mem_cons.mpr ⟨?_, List.forall_mem_cons.mpr ⟨?_, List.forall_mem_cons.mpr ⟨?_, List.forall_mem_cons.mpr ⟨?_, List.forall_mem_cons.mpr ⟨?_, List.forall_mem_cons.mpr ⟨?_, List.forall_mem_cons.mpr ⟨?_, List.forall_mem_cons.mpr ⟨?_, List.forall_mem_cons.mpr ⟨?_, List.forall_mem_cons.mpr ⟨?_, List.forall_mem_cons.mpr ⟨?_, List.forall_mem_cons.mpr ⟨?_, List.forall_mem_cons.mpr ⟨?_, List.forall_mem_cons.mpr ⟨?_, List.forall_mem_cons.mpr ⟨?_, List.forall_mem_cons.mpr ⟨?_, List.forall_mem_cons.mpr ⟨?_, List.forall_mem_cons.mpr ⟨?_, List.forall_mem_cons.mpr ⟨?_, List.forall_mem_cons.mpr ⟨?_, List.forall_mem_cons.mpr ⟨?_, List.forall_mem_cons.mpr ⟨?_, List.forall_mem_cons.mpr ⟨?_, List.forall_mem_cons.mpr ⟨?_, List.forall_mem_cons.mpr ⟨?_, List.forall_mem_cons.mpr ⟨?_, fun _ h => absurd h List.not_mem_nil⟩⟩⟩⟩⟩⟩⟩⟩⟩⟩⟩⟩⟩⟩⟩⟩⟩⟩⟩⟩⟩⟩⟩⟩⟩⟩⟩⟩⟩⟩⟩⟩⟩⟩⟩⟩⟩⟩⟩⟩⟩⟩
  · exact x_iload_n_ok (show decode cX9_mixed 0 = .ok (.iload_n 0, 1) by decide +kernel) rfl
  · exact x_bipush_ok (show decode cX9_mixed 1 = .ok (.bipush 36, 2) by decide +kernel) (by decide)
  · exact x_idiv_ok (show decode cX9_mixed 3 = .ok (.idiv, 1) by decide +kernel)
  · exact x_iload_n_ok (show decode cX9_mixed 4 = .ok (.iload_n 1, 1) by decide +kernel) rfl
  · exact x_bipush_ok (show decode cX9_mixed 5 = .ok (.bipush 36, 2) by decide +kernel) (by decide)
  · exact x_idiv_ok (show decode cX9_mixed 7 = .ok (.idiv, 1) by decide +kernel)
  · exact x_iadd_ok (show decode cX9_mixed 8 = .ok (.iadd, 1) by decide +kernel)
  · exact x_iconst_ok (show decode cX9_mixed 9 = .ok (.iconst 2, 1) by decide +kernel) (by decide)
  · exact x_idiv_ok (show decode cX9_mixed 10 = .ok (.idiv, 1) by decide +kernel)
  · exact x_istore_n_ok (show decode cX9_mixed 11 = .ok (.istore_n 2, 1) by decide +kernel) rfl (by decide)
  · exact x_iload_n_ok (show decode cX9_mixed 12 = .ok (.iload_n 0, 1) by decide +kernel) rfl
  · exact x_bipush_ok (show decode cX9_mixed 13 = .ok (.bipush 6, 2) by decide +kernel) (by decide)
  · exact x_idiv_ok (show decode cX9_mixed 15 = .ok (.idiv, 1) by decide +kernel)
  · exact x_bipush_ok (show decode cX9_mixed 16 = .ok (.bipush 6, 2) by decide +kernel) (by decide)
  · exact x_irem_ok (show decode cX9_mixed 18 = .ok (.irem, 1) by decide +kernel)
  · exact x_iload_n_ok (show decode cX9_mixed 19 = .ok (.iload_n 1, 1) by decide +kernel) rfl
  · exact x_bipush_ok (show decode cX9_mixed 20 = .ok (.bipush 6, 2) by decide +kernel) (by decide)
  · exact x_idiv_ok (show decode cX9_mixed 22 = .ok (.idiv, 1) by decide +kernel)
  · exact x_bipush_ok (show decode cX9_mixed 23 = .ok (.bipush 6, 2) by decide +kernel) (by decide)
  · exact x_irem_ok (show decode cX9_mixed 25 = .ok (.irem, 1) by decide +kernel)
  · exact x_iadd_ok (show decode cX9_mixed 26 = .ok (.iadd, 1) by decide +kernel)
  · exact x_iconst_ok (show decode cX9_mixed 27 = .ok (.iconst 2, 1) by decide +kernel) (by decide)
  · exact x_idiv_ok (show decode cX9_mixed 28 = .ok (.idiv, 1) by decide +kernel)
  · exact x_istore_n_ok (show decode cX9_mixed 29 = .ok (.istore_n 3, 1) by decide +kernel) rfl (by decide)
  · exact x_bipush_ok (show decode cX9_mixed 30 = .ok (.bipush 36, 2) by decide +kernel) (by decide)
  · exact x_iload_n_ok (show decode cX9_mixed 32 = .ok (.iload_n 2, 1) by decide +kernel) rfl
  · exact x_imul_ok (show decode cX9_mixed 33 = .ok (.imul, 1) by decide +kernel)
  · exact x_bipush_ok (show decode cX9_mixed 34 = .ok (.bipush 6, 2) by decide +kernel) (by decide)
  · exact x_iload_n_ok (show decode cX9_mixed 36 = .ok (.iload_n 3, 1) by decide +kernel) rfl
  · exact x_imul_ok (show decode cX9_mixed 37 = .ok (.imul, 1) by decide +kernel)
  · exact x_iadd_ok (show decode cX9_mixed 38 = .ok (.iadd, 1) by decide +kernel)
  · exact x_iload_n_ok (show decode cX9_mixed 39 = .ok (.iload_n 0, 1) by decide +kernel) rfl
  · exact x_bipush_ok (show decode cX9_mixed 40 = .ok (.bipush 6, 2) by decide +kernel) (by decide)
  · exact x_irem_ok (show decode cX9_mixed 42 = .ok (.irem, 1) by decide +kernel)
  · exact x_iload_n_ok (show decode cX9_mixed 43 = .ok (.iload_n 1, 1) by decide +kernel) rfl
  · exact x_bipush_ok (show decode cX9_mixed 44 = .ok (.bipush 6, 2) by decide +kernel) (by decide)
  · exact x_irem_ok (show decode cX9_mixed 46 = .ok (.irem, 1) by decide +kernel)
  · exact x_iadd_ok (show decode cX9_mixed 47 = .ok (.iadd, 1) by decide +kernel)
  · exact x_iconst_ok (show decode cX9_mixed 48 = .ok (.iconst 2, 1) by decide +kernel) (by decide)
  · exact x_idiv_ok (show decode cX9_mixed 49 = .ok (.idiv, 1) by decide +kernel)
  · exact x_iadd_ok (show decode cX9_mixed 50 = .ok (.iadd, 1) by decide +kernel)
  · exact x_iret_ok (show decode cX9_mixed 51 = .ok (.ireturn, 1) by decide +kernel)
noncomputable def FX9_mixed : List Value → xS → Option xR := xden tX9_mixed 4 (some .int) 0
theorem sX9_mixed (l : Launch) : xSound l yX9_mixed cX9_mixed 4 (some .int) 1 0 FX9_mixed := x_den (by decide) (tX9_mixed_ok l)
noncomputable def tX9_layMixed : List (Nat × xO) := [(0, x_push (.int (nI 0)) 1), (1, x_istore 2 1), (2, x_iload 2 1), (3, x_push (.int (nI 216)) 3), (6, x_cmpge 23), (9, x_aload 0 1), (10, x_getR 7 19), (13, x_iload 2 1), (14, x_push (.int (nI 9)) 2), (16, x_iast), (17, x_iinc 2 (nI 1)), (20, x_goto 2), (23, x_aload 0 1), (24, x_getR 7 1), (27, x_iload 1 1), (28, x_iald), (29, x_istore 2 1), (30, x_push (.int (nI 0)) 1), (31, x_istore 3 1), (32, x_iload 3 1), (33, x_iload 2 1), (34, x_cmpge 71), (37, x_aload 0 1), (38, x_getR 7 18), (41, x_iload 3 1), (42, x_aload 0 1), (43, x_getR 7 2), (46, x_push (.int (nI 40)) 2), (48, x_iload 1 1), (49, x_ii (fun x y => x * y)), (50, x_iload 3 1), (51, x_ii (fun x y => x + y)), (52, x_iald), (53, x_iast), (54, x_aload 0 1), (55, x_aload 0 1), (56, x_getR 7 18), (59, x_iload 3 1), (60, x_iald), (61, x_push (.int (nI 0)) 1), (62, x_callV 7 0 3 FX9_reachedAt), (65, x_iinc 3 (nI 1)), (68, x_goto 32), (71, x_push (.int (nI 0)) 1), (72, x_istore 3 1), (73, x_iload 3 1), (74, x_iload 2 1), (75, x_iload 2 1), (76, x_ii (fun x y => x * y)), (77, x_cmpge 243), (80, x_aload 0 1), (81, x_getR 7 18), (84, x_iload 2 1), (85, x_aload 0 1), (86, x_getR 7 18), (89, x_iload 3 1), (90, x_iload 2 1), (91, x_idiv), (92, x_iald), (93, x_aload 0 1), (94, x_getR 7 18), (97, x_iload 3 1), (98, x_iload 2 1), (99, x_irem), (100, x_iald), (101, x_call 0 2 FX9_mixed), (104, x_iast), (105, x_aload 0 1), (106, x_aload 0 1), (107, x_getR 7 18), (110, x_iload 2 1), (111, x_iald), (112, x_push (.int (nI 1)) 1), (113, x_callV 7 0 3 FX9_reachedAt), (116, x_iload 2 1), (117, x_push (.int (nI 1)) 1), (118, x_ii (fun x y => x + y)), (119, x_istore 4 2), (121, x_push (.int (nI 0)) 1), (122, x_istore 5 2), (124, x_iload 5 2), (126, x_iload 4 2), (128, x_iload 4 2), (130, x_ii (fun x y => x * y)), (131, x_cmpge 237), (134, x_aload 0 1), (135, x_getR 7 18), (138, x_iload 4 2), (140, x_aload 0 1), (141, x_getR 7 18), (144, x_iload 5 2), (146, x_iload 4 2), (148, x_idiv), (149, x_iald), (150, x_aload 0 1), (151, x_getR 7 18), (154, x_iload 5 2), (156, x_iload 4 2), (158, x_irem), (159, x_iald), (160, x_call 0 2 FX9_mixed), (163, x_iast), (164, x_aload 0 1), (165, x_aload 0 1), (166, x_getR 7 18), (169, x_iload 4 2), (171, x_iald), (172, x_push (.int (nI 2)) 1), (173, x_callV 7 0 3 FX9_reachedAt), (176, x_push (.int (nI 0)) 1), (177, x_istore 6 2), (179, x_iload 6 2), (181, x_iload 4 2), (183, x_push (.int (nI 1)) 1), (184, x_ii (fun x y => x + y)), (185, x_iload 4 2), (187, x_push (.int (nI 1)) 1), (188, x_ii (fun x y => x + y)), (189, x_ii (fun x y => x * y)), (190, x_cmpge 231), (193, x_aload 0 1), (194, x_aload 0 1), (195, x_getR 7 18), (198, x_iload 6 2), (200, x_iload 4 2), (202, x_push (.int (nI 1)) 1), (203, x_ii (fun x y => x + y)), (204, x_idiv), (205, x_iald), (206, x_aload 0 1), (207, x_getR 7 18), (210, x_iload 6 2), (212, x_iload 4 2), (214, x_push (.int (nI 1)) 1), (215, x_ii (fun x y => x + y)), (216, x_irem), (217, x_iald), (218, x_call 0 2 FX9_mixed), (221, x_push (.int (nI 3)) 1), (222, x_callV 7 0 3 FX9_reachedAt), (225, x_iinc 6 (nI 1)), (228, x_goto 179), (231, x_iinc 5 (nI 1)), (234, x_goto 124), (237, x_iinc 3 (nI 1)), (240, x_goto 73), (243, x_vret)]
set_option maxRecDepth 100000 in
theorem tX9_layMixed_ok (l : Launch) : ∀ q ∈ tX9_layMixed, xOK l cX9_layMixed RX9 7 2 0 (yX9_layMixed.name = "<init>") q.1 q.2 := by
  unfold tX9_layMixed
  refine List.forall_mem_cons.mpr ⟨?_, List.forall_mem_cons.mpr ⟨?_, List.forall_mem_cons.mpr ⟨?_, List.forall_mem_cons.mpr ⟨?_, List.forall_mem_cons.mpr ⟨?_, List.forall_mem_cons.mpr ⟨?_, List.forall_mem_cons.mpr ⟨?_, List.forall_mem_cons.mpr ⟨?_, List.forall_mem_cons.mpr ⟨?_, List.forall_mem_cons.mpr ⟨?_, List.forall_mem_cons.mpr ⟨?_, List.forall_mem_cons.mpr ⟨?_, List.forall_mem_cons.mpr ⟨?_, List.forall_mem_cons.mpr ⟨?_, List.forall_mem_cons.mpr ⟨?_, List.forall_mem_cons.mpr ⟨?_, List.forall_mem_cons.mpr ⟨?_, List.forall_mem_cons.mpr ⟨?_, List.forall_mem_cons.mpr ⟨?_, List.forall_mem_cons.mpr ⟨?_, List.forall_mem_cons.mpr ⟨?_, List.forall_mem_cons.mpr ⟨?_, List.forall_mem_cons.mpr ⟨?_, List.forall_mem_cons.mpr ⟨?_, List.forall_mem_cons.mpr ⟨?_, List.forall_mem_cons.mpr ⟨?_, List.forall_mem_cons.mpr ⟨?_, List.forall_mem_cons.mpr ⟨?_, List.forall_mem_cons.mpr ⟨?_, List.forall_mem_cons.mpr ⟨?_, List.forall_mem_cons.mpr ⟨?_, List.forall_mem_cons.mpr ⟨?_, List.forall_mem_cons.mpr ⟨?_, List.forall_mem_cons.mpr ⟨?_, List.forall_mem_cons.mpr ⟨?_, List.forall_mem_cons.mpr ⟨?_, List.forall_mem_cons.mpr ⟨?_, List.forall_mem_cons.mpr ⟨?_, List.forall_mem_cons.mpr ⟨?_, List.forall_mem_cons.mpr ⟨?_, List.forall_mem_cons.mpr ⟨?_, List.forall_mem_cons.mpr ⟨?_, List.forall_mem_cons.mpr ⟨?_, List.forall_mem_cons.mpr ⟨?_, List.forall_mem_cons.mpr ⟨?_, List.forall_mem_cons.mpr ⟨?_, List.forall_mem_cons.mpr ⟨?_, List.forall_mem_cons.mpr ⟨?_, List.forall_mem_cons.mpr ⟨?_, List.forall_mem_cons.mpr ⟨?_, List.forall_mem_cons.mpr ⟨?_, List.forall_mem_cons.mpr ⟨?_, List.forall_mem_cons.mpr ⟨?_, List.forall_mem_cons.mpr ⟨?_, List.forall_mem_cons.mpr ⟨?_, List.forall_mem_cons.mpr ⟨?_, List.forall_mem_cons.mpr ⟨?_, List.forall_mem_cons.mpr ⟨?_, List.forall_mem_cons.mpr ⟨?_, List.forall_mem_cons.mpr ⟨?_, List.forall_mem_cons.mpr ⟨?_, List.forall_mem_cons.mpr ⟨?_, List.forall_mem_cons.mpr ⟨?_, List.forall_mem_cons.mpr ⟨?_, List.forall_mem_cons.mpr ⟨?_, List.forall_mem_cons.mpr ⟨?_, List.forall_mem_cons.mpr ⟨?_, List.forall_mem_cons.mpr ⟨?_, List.forall_mem_cons.mpr ⟨?_, List.forall_mem_cons.mpr ⟨?_, List.forall_mem_cons.mpr ⟨?_, List.forall_mem_cons.mpr ⟨?_, List.forall_mem_cons.mpr ⟨?_, List.forall_mem_cons.mpr ⟨?_, List.forall_mem_cons.mpr ⟨?_, List.forall_mem_cons.mpr ⟨?_, List.forall_mem_cons.mpr ⟨?_, List.forall_mem_cons.mpr ⟨?_, List.forall_mem_cons.mpr ⟨?_, List.forall_mem_cons.mpr ⟨?_, List.forall_mem_cons.mpr ⟨?_, List.forall_mem_cons.mpr ⟨?_, List.forall_mem_cons.mpr ⟨?_, List.forall_mem_cons.mpr ⟨?_, List.forall_mem_cons.mpr ⟨?_, List.forall_mem_cons.mpr ⟨?_, List.forall_mem_cons.mpr ⟨?_, List.forall_mem_cons.mpr ⟨?_, List.forall_mem_cons.mpr ⟨?_, List.forall_mem_cons.mpr ⟨?_, List.forall_mem_cons.mpr ⟨?_, List.forall_mem_cons.mpr ⟨?_, List.forall_mem_cons.mpr ⟨?_, List.forall_mem_cons.mpr ⟨?_, List.forall_mem_cons.mpr ⟨?_, List.forall_mem_cons.mpr ⟨?_, List.forall_mem_cons.mpr ⟨?_, List.forall_mem_cons.mpr ⟨?_, List.forall_mem_cons.mpr ⟨?_, List.forall_mem_cons.mpr ⟨?_, List.forall_mem_cons.mpr ⟨?_, List.forall_mem_cons.mpr ⟨?_, List.forall_mem_cons.mpr ⟨?_, List.forall_mem_cons.mpr ⟨?_, List.forall_mem_cons.mpr ⟨?_, List.forall_mem_cons.mpr ⟨?_, List.forall_mem_cons.mpr ⟨?_, List.forall_mem_cons.mpr ⟨?_, List.forall_mem_cons.mpr ⟨?_, List.forall_mem_cons.mpr ⟨?_, List.forall_mem_cons.mpr ⟨?_, List.forall_mem_cons.mpr ⟨?_, List.forall_mem_cons.mpr ⟨?_, List.forall_mem_cons.mpr ⟨?_, List.forall_mem_cons.mpr ⟨?_, List.forall_mem_cons.mpr ⟨?_, List.forall_mem_cons.mpr ⟨?_, List.forall_mem_cons.mpr ⟨?_, List.forall_mem_cons.mpr ⟨?_, List.forall_mem_cons.mpr ⟨?_, List.forall_mem_cons.mpr ⟨?_, List.forall_mem_cons.mpr ⟨?_, List.forall_mem_cons.mpr ⟨?_, List.forall_mem_cons.mpr ⟨?_, List.forall_mem_cons.mpr ⟨?_, List.forall_mem_cons.mpr ⟨?_, List.forall_mem_cons.mpr ⟨?_, List.forall_mem_cons.mpr ⟨?_, List.forall_mem_cons.mpr ⟨?_, List.forall_mem_cons.mpr ⟨?_, List.forall_mem_cons.mpr ⟨?_, List.forall_mem_cons.mpr ⟨?_, List.forall_mem_cons.mpr ⟨?_, List.forall_mem_cons.mpr ⟨?_, List.forall_mem_cons.mpr ⟨?_, List.forall_mem_cons.mpr ⟨?_, List.forall_mem_cons.mpr ⟨?_, List.forall_mem_cons.mpr ⟨?_, List.forall_mem_cons.mpr ⟨?_, List.forall_mem_cons.mpr ⟨?_, List.forall_mem_cons.mpr ⟨?_, List.forall_mem_cons.mpr ⟨?_, List.forall_mem_cons.mpr ⟨?_, List.forall_mem_cons.mpr ⟨?_, List.forall_mem_cons.mpr ⟨?_, List.forall_mem_cons.mpr ⟨?_, List.forall_mem_cons.mpr ⟨?_, fun _ h => absurd h List.not_mem_nil⟩⟩⟩⟩⟩⟩⟩⟩⟩⟩⟩⟩⟩⟩⟩⟩⟩⟩⟩⟩⟩⟩⟩⟩⟩⟩⟩⟩⟩⟩⟩⟩⟩⟩⟩⟩⟩⟩⟩⟩⟩⟩⟩⟩⟩⟩⟩⟩⟩⟩⟩⟩⟩⟩⟩⟩⟩⟩⟩⟩⟩⟩⟩⟩⟩⟩⟩⟩⟩⟩⟩⟩⟩⟩⟩⟩⟩⟩⟩⟩⟩⟩⟩⟩⟩⟩⟩⟩⟩⟩⟩⟩⟩⟩⟩⟩⟩⟩⟩⟩⟩⟩⟩⟩⟩⟩⟩⟩⟩⟩⟩⟩⟩⟩⟩⟩⟩⟩⟩⟩⟩⟩⟩⟩⟩⟩⟩⟩⟩⟩⟩⟩⟩⟩⟩⟩⟩⟩⟩⟩⟩⟩⟩⟩⟩⟩⟩
  · exact x_iconst_ok (show decode cX9_layMixed 0 = .ok (.iconst 0, 1) by decide +kernel) (by decide)
  · exact x_istore_n_ok (show decode cX9_layMixed 1 = .ok (.istore_n 2, 1) by decide +kernel) rfl (by decide)
  · exact x_iload_n_ok (show decode cX9_layMixed 2 = .ok (.iload_n 2, 1) by decide +kernel) rfl
  · exact x_sipush_ok (show decode cX9_layMixed 3 = .ok (.sipush 216, 3) by decide +kernel) (by decide)
  · exact x_cmpge_ok (show decode cX9_layMixed 6 = .ok (.if_icmp .ge 17, 3) by decide +kernel) (by decide)
  · exact x_aload_n_ok (show decode cX9_layMixed 9 = .ok (.aload_n 0, 1) by decide +kernel) rfl
  · exact x_getR_ok (ci := 7) (k := 19) rfl (by decide) (by decide) hw_863 (show decode cX9_layMixed 10 = .ok (.getfield 45, 3) by decide +kernel)
  · exact x_iload_n_ok (show decode cX9_layMixed 13 = .ok (.iload_n 2, 1) by decide +kernel) rfl
  · exact x_bipush_ok (show decode cX9_layMixed 14 = .ok (.bipush 9, 2) by decide +kernel) (by decide)
  · exact x_iast_ok (show decode cX9_layMixed 16 = .ok (.iastore, 1) by decide +kernel)
  · exact x_iinc_ok (show decode cX9_layMixed 17 = .ok (.iinc 2 1, 3) by decide +kernel) (by decide) (by decide)
  · exact x_goto_ok (show decode cX9_layMixed 20 = .ok (.goto (-18), 3) by decide +kernel) (by decide)
  · exact x_aload_n_ok (show decode cX9_layMixed 23 = .ok (.aload_n 0, 1) by decide +kernel) rfl
  · exact x_getR_ok (ci := 7) (k := 1) rfl (by decide) (by decide) hw_845 (show decode cX9_layMixed 24 = .ok (.getfield 13, 3) by decide +kernel)
  · exact x_iload_n_ok (show decode cX9_layMixed 27 = .ok (.iload_n 1, 1) by decide +kernel) rfl
  · exact x_iald_ok (show decode cX9_layMixed 28 = .ok (.iaload, 1) by decide +kernel)
  · exact x_istore_n_ok (show decode cX9_layMixed 29 = .ok (.istore_n 2, 1) by decide +kernel) rfl (by decide)
  · exact x_iconst_ok (show decode cX9_layMixed 30 = .ok (.iconst 0, 1) by decide +kernel) (by decide)
  · exact x_istore_n_ok (show decode cX9_layMixed 31 = .ok (.istore_n 3, 1) by decide +kernel) rfl (by decide)
  · exact x_iload_n_ok (show decode cX9_layMixed 32 = .ok (.iload_n 3, 1) by decide +kernel) rfl
  · exact x_iload_n_ok (show decode cX9_layMixed 33 = .ok (.iload_n 2, 1) by decide +kernel) rfl
  · exact x_cmpge_ok (show decode cX9_layMixed 34 = .ok (.if_icmp .ge 37, 3) by decide +kernel) (by decide)
  · exact x_aload_n_ok (show decode cX9_layMixed 37 = .ok (.aload_n 0, 1) by decide +kernel) rfl
  · exact x_getR_ok (ci := 7) (k := 18) rfl (by decide) (by decide) hw_862 (show decode cX9_layMixed 38 = .ok (.getfield 42, 3) by decide +kernel)
  · exact x_iload_n_ok (show decode cX9_layMixed 41 = .ok (.iload_n 3, 1) by decide +kernel) rfl
  · exact x_aload_n_ok (show decode cX9_layMixed 42 = .ok (.aload_n 0, 1) by decide +kernel) rfl
  · exact x_getR_ok (ci := 7) (k := 2) rfl (by decide) (by decide) hw_846 (show decode cX9_layMixed 43 = .ok (.getfield 16, 3) by decide +kernel)
  · exact x_bipush_ok (show decode cX9_layMixed 46 = .ok (.bipush 40, 2) by decide +kernel) (by decide)
  · exact x_iload_n_ok (show decode cX9_layMixed 48 = .ok (.iload_n 1, 1) by decide +kernel) rfl
  · exact x_imul_ok (show decode cX9_layMixed 49 = .ok (.imul, 1) by decide +kernel)
  · exact x_iload_n_ok (show decode cX9_layMixed 50 = .ok (.iload_n 3, 1) by decide +kernel) rfl
  · exact x_iadd_ok (show decode cX9_layMixed 51 = .ok (.iadd, 1) by decide +kernel)
  · exact x_iald_ok (show decode cX9_layMixed 52 = .ok (.iaload, 1) by decide +kernel)
  · exact x_iast_ok (show decode cX9_layMixed 53 = .ok (.iastore, 1) by decide +kernel)
  · exact x_aload_n_ok (show decode cX9_layMixed 54 = .ok (.aload_n 0, 1) by decide +kernel) rfl
  · exact x_aload_n_ok (show decode cX9_layMixed 55 = .ok (.aload_n 0, 1) by decide +kernel) rfl
  · exact x_getR_ok (ci := 7) (k := 18) rfl (by decide) (by decide) hw_862 (show decode cX9_layMixed 56 = .ok (.getfield 42, 3) by decide +kernel)
  · exact x_iload_n_ok (show decode cX9_layMixed 59 = .ok (.iload_n 3, 1) by decide +kernel) rfl
  · exact x_iald_ok (show decode cX9_layMixed 60 = .ok (.iaload, 1) by decide +kernel)
  · exact x_iconst_ok (show decode cX9_layMixed 61 = .ok (.iconst 0, 1) by decide +kernel) (by decide)
  · exact x_callV_ok (ci := 7) rfl (by decide) (sX9_reachedAt l) hw_1207 hw_1204 hw_1206 hw_51 hw_68 ⟨by decide, by decide, by decide +kernel⟩ rfl (by decide) (by decide) (show decode cX9_layMixed 62 = .ok (.invokevirtual 239, 3) by decide +kernel)
  · exact x_iinc_ok (show decode cX9_layMixed 65 = .ok (.iinc 3 1, 3) by decide +kernel) (by decide) (by decide)
  · exact x_goto_ok (show decode cX9_layMixed 68 = .ok (.goto (-36), 3) by decide +kernel) (by decide)
  · exact x_iconst_ok (show decode cX9_layMixed 71 = .ok (.iconst 0, 1) by decide +kernel) (by decide)
  · exact x_istore_n_ok (show decode cX9_layMixed 72 = .ok (.istore_n 3, 1) by decide +kernel) rfl (by decide)
  · exact x_iload_n_ok (show decode cX9_layMixed 73 = .ok (.iload_n 3, 1) by decide +kernel) rfl
  · exact x_iload_n_ok (show decode cX9_layMixed 74 = .ok (.iload_n 2, 1) by decide +kernel) rfl
  · exact x_iload_n_ok (show decode cX9_layMixed 75 = .ok (.iload_n 2, 1) by decide +kernel) rfl
  · exact x_imul_ok (show decode cX9_layMixed 76 = .ok (.imul, 1) by decide +kernel)
  · exact x_cmpge_ok (show decode cX9_layMixed 77 = .ok (.if_icmp .ge 166, 3) by decide +kernel) (by decide)
  · exact x_aload_n_ok (show decode cX9_layMixed 80 = .ok (.aload_n 0, 1) by decide +kernel) rfl
  · exact x_getR_ok (ci := 7) (k := 18) rfl (by decide) (by decide) hw_862 (show decode cX9_layMixed 81 = .ok (.getfield 42, 3) by decide +kernel)
  · exact x_iload_n_ok (show decode cX9_layMixed 84 = .ok (.iload_n 2, 1) by decide +kernel) rfl
  · exact x_aload_n_ok (show decode cX9_layMixed 85 = .ok (.aload_n 0, 1) by decide +kernel) rfl
  · exact x_getR_ok (ci := 7) (k := 18) rfl (by decide) (by decide) hw_862 (show decode cX9_layMixed 86 = .ok (.getfield 42, 3) by decide +kernel)
  · exact x_iload_n_ok (show decode cX9_layMixed 89 = .ok (.iload_n 3, 1) by decide +kernel) rfl
  · exact x_iload_n_ok (show decode cX9_layMixed 90 = .ok (.iload_n 2, 1) by decide +kernel) rfl
  · exact x_idiv_ok (show decode cX9_layMixed 91 = .ok (.idiv, 1) by decide +kernel)
  · exact x_iald_ok (show decode cX9_layMixed 92 = .ok (.iaload, 1) by decide +kernel)
  · exact x_aload_n_ok (show decode cX9_layMixed 93 = .ok (.aload_n 0, 1) by decide +kernel) rfl
  · exact x_getR_ok (ci := 7) (k := 18) rfl (by decide) (by decide) hw_862 (show decode cX9_layMixed 94 = .ok (.getfield 42, 3) by decide +kernel)
  · exact x_iload_n_ok (show decode cX9_layMixed 97 = .ok (.iload_n 3, 1) by decide +kernel) rfl
  · exact x_iload_n_ok (show decode cX9_layMixed 98 = .ok (.iload_n 2, 1) by decide +kernel) rfl
  · exact x_irem_ok (show decode cX9_layMixed 99 = .ok (.irem, 1) by decide +kernel)
  · exact x_iald_ok (show decode cX9_layMixed 100 = .ok (.iaload, 1) by decide +kernel)
  · exact x_callS_ok (sX9_mixed l) hw_1210 hw_1208 hw_1209 hw_68 ⟨by decide, by decide, by decide +kernel⟩ (by decide) (by decide) (show decode cX9_layMixed 101 = .ok (.invokestatic 242, 3) by decide +kernel)
  · exact x_iast_ok (show decode cX9_layMixed 104 = .ok (.iastore, 1) by decide +kernel)
  · exact x_aload_n_ok (show decode cX9_layMixed 105 = .ok (.aload_n 0, 1) by decide +kernel) rfl
  · exact x_aload_n_ok (show decode cX9_layMixed 106 = .ok (.aload_n 0, 1) by decide +kernel) rfl
  · exact x_getR_ok (ci := 7) (k := 18) rfl (by decide) (by decide) hw_862 (show decode cX9_layMixed 107 = .ok (.getfield 42, 3) by decide +kernel)
  · exact x_iload_n_ok (show decode cX9_layMixed 110 = .ok (.iload_n 2, 1) by decide +kernel) rfl
  · exact x_iald_ok (show decode cX9_layMixed 111 = .ok (.iaload, 1) by decide +kernel)
  · exact x_iconst_ok (show decode cX9_layMixed 112 = .ok (.iconst 1, 1) by decide +kernel) (by decide)
  · exact x_callV_ok (ci := 7) rfl (by decide) (sX9_reachedAt l) hw_1207 hw_1204 hw_1206 hw_51 hw_68 ⟨by decide, by decide, by decide +kernel⟩ rfl (by decide) (by decide) (show decode cX9_layMixed 113 = .ok (.invokevirtual 239, 3) by decide +kernel)
  · exact x_iload_n_ok (show decode cX9_layMixed 116 = .ok (.iload_n 2, 1) by decide +kernel) rfl
  · exact x_iconst_ok (show decode cX9_layMixed 117 = .ok (.iconst 1, 1) by decide +kernel) (by decide)
  · exact x_iadd_ok (show decode cX9_layMixed 118 = .ok (.iadd, 1) by decide +kernel)
  · exact x_istore_ok (show decode cX9_layMixed 119 = .ok (.istore 4, 2) by decide +kernel) (by decide)
  · exact x_iconst_ok (show decode cX9_layMixed 121 = .ok (.iconst 0, 1) by decide +kernel) (by decide)
  · exact x_istore_ok (show decode cX9_layMixed 122 = .ok (.istore 5, 2) by decide +kernel) (by decide)
  · exact x_iload_ok (show decode cX9_layMixed 124 = .ok (.iload 5, 2) by decide +kernel)
  · exact x_iload_ok (show decode cX9_layMixed 126 = .ok (.iload 4, 2) by decide +kernel)
  · exact x_iload_ok (show decode cX9_layMixed 128 = .ok (.iload 4, 2) by decide +kernel)
  · exact x_imul_ok (show decode cX9_layMixed 130 = .ok (.imul, 1) by decide +kernel)
  · exact x_cmpge_ok (show decode cX9_layMixed 131 = .ok (.if_icmp .ge 106, 3) by decide +kernel) (by decide)
  · exact x_aload_n_ok (show decode cX9_layMixed 134 = .ok (.aload_n 0, 1) by decide +kernel) rfl
  · exact x_getR_ok (ci := 7) (k := 18) rfl (by decide) (by decide) hw_862 (show decode cX9_layMixed 135 = .ok (.getfield 42, 3) by decide +kernel)
  · exact x_iload_ok (show decode cX9_layMixed 138 = .ok (.iload 4, 2) by decide +kernel)
  · exact x_aload_n_ok (show decode cX9_layMixed 140 = .ok (.aload_n 0, 1) by decide +kernel) rfl
  · exact x_getR_ok (ci := 7) (k := 18) rfl (by decide) (by decide) hw_862 (show decode cX9_layMixed 141 = .ok (.getfield 42, 3) by decide +kernel)
  · exact x_iload_ok (show decode cX9_layMixed 144 = .ok (.iload 5, 2) by decide +kernel)
  · exact x_iload_ok (show decode cX9_layMixed 146 = .ok (.iload 4, 2) by decide +kernel)
  · exact x_idiv_ok (show decode cX9_layMixed 148 = .ok (.idiv, 1) by decide +kernel)
  · exact x_iald_ok (show decode cX9_layMixed 149 = .ok (.iaload, 1) by decide +kernel)
  · exact x_aload_n_ok (show decode cX9_layMixed 150 = .ok (.aload_n 0, 1) by decide +kernel) rfl
  · exact x_getR_ok (ci := 7) (k := 18) rfl (by decide) (by decide) hw_862 (show decode cX9_layMixed 151 = .ok (.getfield 42, 3) by decide +kernel)
  · exact x_iload_ok (show decode cX9_layMixed 154 = .ok (.iload 5, 2) by decide +kernel)
  · exact x_iload_ok (show decode cX9_layMixed 156 = .ok (.iload 4, 2) by decide +kernel)
  · exact x_irem_ok (show decode cX9_layMixed 158 = .ok (.irem, 1) by decide +kernel)
  · exact x_iald_ok (show decode cX9_layMixed 159 = .ok (.iaload, 1) by decide +kernel)
  · exact x_callS_ok (sX9_mixed l) hw_1210 hw_1208 hw_1209 hw_68 ⟨by decide, by decide, by decide +kernel⟩ (by decide) (by decide) (show decode cX9_layMixed 160 = .ok (.invokestatic 242, 3) by decide +kernel)
  · exact x_iast_ok (show decode cX9_layMixed 163 = .ok (.iastore, 1) by decide +kernel)
  · exact x_aload_n_ok (show decode cX9_layMixed 164 = .ok (.aload_n 0, 1) by decide +kernel) rfl
  · exact x_aload_n_ok (show decode cX9_layMixed 165 = .ok (.aload_n 0, 1) by decide +kernel) rfl
  · exact x_getR_ok (ci := 7) (k := 18) rfl (by decide) (by decide) hw_862 (show decode cX9_layMixed 166 = .ok (.getfield 42, 3) by decide +kernel)
  · exact x_iload_ok (show decode cX9_layMixed 169 = .ok (.iload 4, 2) by decide +kernel)
  · exact x_iald_ok (show decode cX9_layMixed 171 = .ok (.iaload, 1) by decide +kernel)
  · exact x_iconst_ok (show decode cX9_layMixed 172 = .ok (.iconst 2, 1) by decide +kernel) (by decide)
  · exact x_callV_ok (ci := 7) rfl (by decide) (sX9_reachedAt l) hw_1207 hw_1204 hw_1206 hw_51 hw_68 ⟨by decide, by decide, by decide +kernel⟩ rfl (by decide) (by decide) (show decode cX9_layMixed 173 = .ok (.invokevirtual 239, 3) by decide +kernel)
  · exact x_iconst_ok (show decode cX9_layMixed 176 = .ok (.iconst 0, 1) by decide +kernel) (by decide)
  · exact x_istore_ok (show decode cX9_layMixed 177 = .ok (.istore 6, 2) by decide +kernel) (by decide)
  · exact x_iload_ok (show decode cX9_layMixed 179 = .ok (.iload 6, 2) by decide +kernel)
  · exact x_iload_ok (show decode cX9_layMixed 181 = .ok (.iload 4, 2) by decide +kernel)
  · exact x_iconst_ok (show decode cX9_layMixed 183 = .ok (.iconst 1, 1) by decide +kernel) (by decide)
  · exact x_iadd_ok (show decode cX9_layMixed 184 = .ok (.iadd, 1) by decide +kernel)
  · exact x_iload_ok (show decode cX9_layMixed 185 = .ok (.iload 4, 2) by decide +kernel)
  · exact x_iconst_ok (show decode cX9_layMixed 187 = .ok (.iconst 1, 1) by decide +kernel) (by decide)
  · exact x_iadd_ok (show decode cX9_layMixed 188 = .ok (.iadd, 1) by decide +kernel)
  · exact x_imul_ok (show decode cX9_layMixed 189 = .ok (.imul, 1) by decide +kernel)
  · exact x_cmpge_ok (show decode cX9_layMixed 190 = .ok (.if_icmp .ge 41, 3) by decide +kernel) (by decide)
  · exact x_aload_n_ok (show decode cX9_layMixed 193 = .ok (.aload_n 0, 1) by decide +kernel) rfl
  · exact x_aload_n_ok (show decode cX9_layMixed 194 = .ok (.aload_n 0, 1) by decide +kernel) rfl
  · exact x_getR_ok (ci := 7) (k := 18) rfl (by decide) (by decide) hw_862 (show decode cX9_layMixed 195 = .ok (.getfield 42, 3) by decide +kernel)
  · exact x_iload_ok (show decode cX9_layMixed 198 = .ok (.iload 6, 2) by decide +kernel)
  · exact x_iload_ok (show decode cX9_layMixed 200 = .ok (.iload 4, 2) by decide +kernel)
  · exact x_iconst_ok (show decode cX9_layMixed 202 = .ok (.iconst 1, 1) by decide +kernel) (by decide)
  · exact x_iadd_ok (show decode cX9_layMixed 203 = .ok (.iadd, 1) by decide +kernel)
  · exact x_idiv_ok (show decode cX9_layMixed 204 = .ok (.idiv, 1) by decide +kernel)
  · exact x_iald_ok (show decode cX9_layMixed 205 = .ok (.iaload, 1) by decide +kernel)
  · exact x_aload_n_ok (show decode cX9_layMixed 206 = .ok (.aload_n 0, 1) by decide +kernel) rfl
  · exact x_getR_ok (ci := 7) (k := 18) rfl (by decide) (by decide) hw_862 (show decode cX9_layMixed 207 = .ok (.getfield 42, 3) by decide +kernel)
  · exact x_iload_ok (show decode cX9_layMixed 210 = .ok (.iload 6, 2) by decide +kernel)
  · exact x_iload_ok (show decode cX9_layMixed 212 = .ok (.iload 4, 2) by decide +kernel)
  · exact x_iconst_ok (show decode cX9_layMixed 214 = .ok (.iconst 1, 1) by decide +kernel) (by decide)
  · exact x_iadd_ok (show decode cX9_layMixed 215 = .ok (.iadd, 1) by decide +kernel)
  · exact x_irem_ok (show decode cX9_layMixed 216 = .ok (.irem, 1) by decide +kernel)
  · exact x_iald_ok (show decode cX9_layMixed 217 = .ok (.iaload, 1) by decide +kernel)
  · exact x_callS_ok (sX9_mixed l) hw_1210 hw_1208 hw_1209 hw_68 ⟨by decide, by decide, by decide +kernel⟩ (by decide) (by decide) (show decode cX9_layMixed 218 = .ok (.invokestatic 242, 3) by decide +kernel)
  · exact x_iconst_ok (show decode cX9_layMixed 221 = .ok (.iconst 3, 1) by decide +kernel) (by decide)
  · exact x_callV_ok (ci := 7) rfl (by decide) (sX9_reachedAt l) hw_1207 hw_1204 hw_1206 hw_51 hw_68 ⟨by decide, by decide, by decide +kernel⟩ rfl (by decide) (by decide) (show decode cX9_layMixed 222 = .ok (.invokevirtual 239, 3) by decide +kernel)
  · exact x_iinc_ok (show decode cX9_layMixed 225 = .ok (.iinc 6 1, 3) by decide +kernel) (by decide) (by decide)
  · exact x_goto_ok (show decode cX9_layMixed 228 = .ok (.goto (-49), 3) by decide +kernel) (by decide)
  · exact x_iinc_ok (show decode cX9_layMixed 231 = .ok (.iinc 5 1, 3) by decide +kernel) (by decide) (by decide)
  · exact x_goto_ok (show decode cX9_layMixed 234 = .ok (.goto (-110), 3) by decide +kernel) (by decide)
  · exact x_iinc_ok (show decode cX9_layMixed 237 = .ok (.iinc 3 1, 3) by decide +kernel) (by decide) (by decide)
  · exact x_goto_ok (show decode cX9_layMixed 240 = .ok (.goto (-167), 3) by decide +kernel) (by decide)
  · exact x_vret_ok (show decode cX9_layMixed 243 = .ok (.return_, 1) by decide +kernel)
noncomputable def FX9_layMixed : List Value → xS → Option xR := xden tX9_layMixed 7 none 0
theorem sX9_layMixed (l : Launch) : xSound l yX9_layMixed cX9_layMixed 7 none 2 0 FX9_layMixed := x_den (by decide) (tX9_layMixed_ok l)
noncomputable def tX9_mix : List (Nat × xO) := [(0, x_iload 1 1), (1, x_call 0 1 FX9_isRow), (4, x_ifeq 14), (7, x_iload 2 1), (8, x_call 0 1 FX9_isShade), (11, x_ifne 16), (14, x_push (.int (-1)) 1), (15, x_iret), (16, x_aload 0 1), (17, x_iload 1 1), (18, x_push (.int (nI 1)) 1), (19, x_push (.int (nI 4)) 1), (20, x_callV 7 0 4 FX9_noShades), (23, x_istore 3 1), (24, x_iload 3 1), (25, x_ifeq 30), (28, x_iload 3 1), (29, x_iret), (30, x_aload 0 1), (31, x_iload 1 1), (32, x_callV 7 0 2 FX9_layMixed), (35, x_aload 0 1), (36, x_getR 7 19), (39, x_iload 2 1), (40, x_iald), (41, x_push (.int (nI 9)) 2), (43, x_cmpne 51), (46, x_push (.int (-9)) 2), (48, x_goto 57), (51, x_aload 0 1), (52, x_getR 7 19), (55, x_iload 2 1), (56, x_iald), (57, x_iret)]
set_option maxRecDepth 100000 in
theorem tX9_mix_ok (l : Launch) : ∀ q ∈ tX9_mix, xOK l cX9_mix RX9 4 5 0 (yX9_mix.name = "<init>") q.1 q.2 := by
  unfold tX9_mix
  refine List.forall_mem_cons.mpr ⟨?_, List.forall_mem_cons.mpr ⟨?_, List.forall_mem_cons.mpr ⟨?_, List.forall_mem_cons.mpr ⟨?_, List.forall_mem_cons.mpr ⟨?_, List.forall_mem_cons.mpr ⟨?_, List.forall_mem_cons.mpr ⟨?_, List.forall_mem_cons.mpr ⟨?_, List.forall_mem_cons.mpr ⟨?_, List.forall_mem_cons.mpr ⟨?_, List.forall_mem_cons.mpr ⟨?_, List.forall_mem_cons.mpr ⟨?_, List.forall_mem_cons.mpr ⟨?_, List.forall_mem_cons.mpr ⟨?_, List.forall_mem_cons.mpr ⟨?_, List.forall_mem_cons.mpr ⟨?_, List.forall_mem_cons.mpr ⟨?_, List.forall_mem_cons.mpr ⟨?_, List.forall_mem_cons.mpr ⟨?_, List.forall_mem_cons.mpr ⟨?_, List.forall_mem_cons.mpr ⟨?_, List.forall_mem_cons.mpr ⟨?_, List.forall_mem_cons.mpr ⟨?_, List.forall_mem_cons.mpr ⟨?_, List.forall_mem_cons.mpr ⟨?_, List.forall_mem_cons.mpr ⟨?_, List.forall_mem_cons.mpr ⟨?_, List.forall_mem_cons.mpr ⟨?_, List.forall_mem_cons.mpr ⟨?_, List.forall_mem_cons.mpr ⟨?_, List.forall_mem_cons.mpr ⟨?_, List.forall_mem_cons.mpr ⟨?_, List.forall_mem_cons.mpr ⟨?_, List.forall_mem_cons.mpr ⟨?_, fun _ h => absurd h List.not_mem_nil⟩⟩⟩⟩⟩⟩⟩⟩⟩⟩⟩⟩⟩⟩⟩⟩⟩⟩⟩⟩⟩⟩⟩⟩⟩⟩⟩⟩⟩⟩⟩⟩⟩⟩
  · exact x_iload_n_ok (show decode cX9_mix 0 = .ok (.iload_n 1, 1) by decide +kernel) rfl
  · exact x_callS_ok (sX9_isRow l) hw_914 hw_912 hw_913 hw_68 ⟨by decide, by decide, by decide +kernel⟩ (by decide) (by decide) (show decode cX9_mix 1 = .ok (.invokestatic 66, 3) by decide +kernel)
  · exact x_ifeq_ok (show decode cX9_mix 4 = .ok (.ifCond .eq 10, 3) by decide +kernel) (by decide)
  · exact x_iload_n_ok (show decode cX9_mix 7 = .ok (.iload_n 2, 1) by decide +kernel) rfl
  · exact x_callS_ok (sX9_isShade l) hw_1095 hw_1093 hw_1094 hw_68 ⟨by decide, by decide, by decide +kernel⟩ (by decide) (by decide) (show decode cX9_mix 8 = .ok (.invokestatic 198, 3) by decide +kernel)
  · exact x_ifne_ok (show decode cX9_mix 11 = .ok (.ifCond .ne 5, 3) by decide +kernel) (by decide)
  · exact x_iconst_ok (show decode cX9_mix 14 = .ok (.iconst (-1), 1) by decide +kernel) (by decide)
  · exact x_iret_ok (show decode cX9_mix 15 = .ok (.ireturn, 1) by decide +kernel)
  · exact x_aload_n_ok (show decode cX9_mix 16 = .ok (.aload_n 0, 1) by decide +kernel) rfl
  · exact x_iload_n_ok (show decode cX9_mix 17 = .ok (.iload_n 1, 1) by decide +kernel) rfl
  · exact x_iconst_ok (show decode cX9_mix 18 = .ok (.iconst 1, 1) by decide +kernel) (by decide)
  · exact x_iconst_ok (show decode cX9_mix 19 = .ok (.iconst 4, 1) by decide +kernel) (by decide)
  · exact x_callV_ok (ci := 7) rfl (by decide) (sX9_noShades l) hw_1187 hw_1184 hw_1186 hw_48 hw_68 ⟨by decide, by decide, by decide +kernel⟩ rfl (by decide) (by decide) (show decode cX9_mix 20 = .ok (.invokevirtual 233, 3) by decide +kernel)
  · exact x_istore_n_ok (show decode cX9_mix 23 = .ok (.istore_n 3, 1) by decide +kernel) rfl (by decide)
  · exact x_iload_n_ok (show decode cX9_mix 24 = .ok (.iload_n 3, 1) by decide +kernel) rfl
  · exact x_ifeq_ok (show decode cX9_mix 25 = .ok (.ifCond .eq 5, 3) by decide +kernel) (by decide)
  · exact x_iload_n_ok (show decode cX9_mix 28 = .ok (.iload_n 3, 1) by decide +kernel) rfl
  · exact x_iret_ok (show decode cX9_mix 29 = .ok (.ireturn, 1) by decide +kernel)
  · exact x_aload_n_ok (show decode cX9_mix 30 = .ok (.aload_n 0, 1) by decide +kernel) rfl
  · exact x_iload_n_ok (show decode cX9_mix 31 = .ok (.iload_n 1, 1) by decide +kernel) rfl
  · exact x_callV_ok (ci := 7) rfl (by decide) (sX9_layMixed l) hw_1203 hw_1200 hw_1202 hw_50 hw_68 ⟨by decide, by decide, by decide +kernel⟩ rfl (by decide) (by decide) (show decode cX9_mix 32 = .ok (.invokevirtual 245, 3) by decide +kernel)
  · exact x_aload_n_ok (show decode cX9_mix 35 = .ok (.aload_n 0, 1) by decide +kernel) rfl
  · exact x_getR_ok (ci := 7) (k := 19) rfl (by decide) (by decide) hw_863 (show decode cX9_mix 36 = .ok (.getfield 45, 3) by decide +kernel)
  · exact x_iload_n_ok (show decode cX9_mix 39 = .ok (.iload_n 2, 1) by decide +kernel) rfl
  · exact x_iald_ok (show decode cX9_mix 40 = .ok (.iaload, 1) by decide +kernel)
  · exact x_bipush_ok (show decode cX9_mix 41 = .ok (.bipush 9, 2) by decide +kernel) (by decide)
  · exact x_cmpne_ok (show decode cX9_mix 43 = .ok (.if_icmp .ne 8, 3) by decide +kernel) (by decide)
  · exact x_bipush_ok (show decode cX9_mix 46 = .ok (.bipush (-9), 2) by decide +kernel) (by decide)
  · exact x_goto_ok (show decode cX9_mix 48 = .ok (.goto 9, 3) by decide +kernel) (by decide)
  · exact x_aload_n_ok (show decode cX9_mix 51 = .ok (.aload_n 0, 1) by decide +kernel) rfl
  · exact x_getR_ok (ci := 7) (k := 19) rfl (by decide) (by decide) hw_863 (show decode cX9_mix 52 = .ok (.getfield 45, 3) by decide +kernel)
  · exact x_iload_n_ok (show decode cX9_mix 55 = .ok (.iload_n 2, 1) by decide +kernel) rfl
  · exact x_iald_ok (show decode cX9_mix 56 = .ok (.iaload, 1) by decide +kernel)
  · exact x_iret_ok (show decode cX9_mix 57 = .ok (.ireturn, 1) by decide +kernel)
noncomputable def FX9_mix : List Value → xS → Option xR := xden tX9_mix 4 (some .int) 0
theorem sX9_mix (l : Launch) : xSound l yX9_mix cX9_mix 4 (some .int) 5 0 FX9_mix := x_den (by decide) (tX9_mix_ok l)
noncomputable def tX8_cheap : List (Nat × xO) := [(0, x_iload 2 1), (1, x_push (.int (nI 4)) 1), (2, x_call 0 2 FX8_among), (5, x_ifne 10), (8, x_push (.int (-1)) 1), (9, x_iret), (10, x_aload 0 1), (11, x_iload 1 1), (12, x_push (.int (nI 1)) 1), (13, x_push (.int (nI 4)) 1), (14, x_callV 6 0 4 FX8_refusalOfShades), (17, x_istore 3 1), (18, x_iload 3 1), (19, x_ifeq 24), (22, x_iload 3 1), (23, x_iret), (24, x_push (.int (nI 0)) 1), (25, x_istore 4 2), (27, x_iload 4 2), (29, x_push (.int (nI 216)) 3), (32, x_cmpge 66), (35, x_aload 0 1), (36, x_getR 6 7), (39, x_iload 4 2), (41, x_aload 0 1), (42, x_getR 6 2), (45, x_iload 2 1), (46, x_iload 4 2), (48, x_callV 3 0 3 FX4_owedBy), (51, x_ifne 58), (54, x_push (.int (nI 1)) 1), (55, x_goto 59), (58, x_push (.int (nI 0)) 1), (59, x_bastZ), (60, x_iinc 4 (nI 1)), (63, x_goto 27), (66, x_aload 0 1), (67, x_getR 6 5), (70, x_aload 0 1), (71, x_getR 6 0), (74, x_iload 1 1), (75, x_aald), (76, x_aload 0 1), (77, x_getR 6 7), (80, x_callV 2 0 3 FX3_fewestMixings), (83, x_istore 4 2), (85, x_iload 4 2), (87, x_push (.int (-9)) 2), (89, x_cmpeq 103), (92, x_aload 0 1), (93, x_aload 0 1), (94, x_getR 6 5), (97, x_getI 2 1), (100, x_putI 6 10), (103, x_iload 4 2), (105, x_iret)]
set_option maxRecDepth 100000 in
theorem tX8_cheap_ok (l : Launch) : ∀ q ∈ tX8_cheap, xOK l cX8_cheap RX8 5 9 0 (yX8_cheap.name = "<init>") q.1 q.2 := by
  unfold tX8_cheap
  refine List.forall_mem_cons.mpr ⟨?_, List.forall_mem_cons.mpr ⟨?_, List.forall_mem_cons.mpr ⟨?_, List.forall_mem_cons.mpr ⟨?_, List.forall_mem_cons.mpr ⟨?_, List.forall_mem_cons.mpr ⟨?_, List.forall_mem_cons.mpr ⟨?_, List.forall_mem_cons.mpr ⟨?_, List.forall_mem_cons.mpr ⟨?_, List.forall_mem_cons.mpr ⟨?_, List.forall_mem_cons.mpr ⟨?_, List.forall_mem_cons.mpr ⟨?_, List.forall_mem_cons.mpr ⟨?_, List.forall_mem_cons.mpr ⟨?_, List.forall_mem_cons.mpr ⟨?_, List.forall_mem_cons.mpr ⟨?_, List.forall_mem_cons.mpr ⟨?_, List.forall_mem_cons.mpr ⟨?_, List.forall_mem_cons.mpr ⟨?_, List.forall_mem_cons.mpr ⟨?_, List.forall_mem_cons.mpr ⟨?_, List.forall_mem_cons.mpr ⟨?_, List.forall_mem_cons.mpr ⟨?_, List.forall_mem_cons.mpr ⟨?_, List.forall_mem_cons.mpr ⟨?_, List.forall_mem_cons.mpr ⟨?_, List.forall_mem_cons.mpr ⟨?_, List.forall_mem_cons.mpr ⟨?_, List.forall_mem_cons.mpr ⟨?_, List.forall_mem_cons.mpr ⟨?_, List.forall_mem_cons.mpr ⟨?_, List.forall_mem_cons.mpr ⟨?_, List.forall_mem_cons.mpr ⟨?_, List.forall_mem_cons.mpr ⟨?_, List.forall_mem_cons.mpr ⟨?_, List.forall_mem_cons.mpr ⟨?_, List.forall_mem_cons.mpr ⟨?_, List.forall_mem_cons.mpr ⟨?_, List.forall_mem_cons.mpr ⟨?_, List.forall_mem_cons.mpr ⟨?_, List.forall_mem_cons.mpr ⟨?_, List.forall_mem_cons.mpr ⟨?_, List.forall_mem_cons.mpr ⟨?_, List.forall_mem_cons.mpr ⟨?_, List.forall_mem_cons.mpr ⟨?_, List.forall_mem_cons.mpr ⟨?_, List.forall_mem_cons.mpr ⟨?_, List.forall_mem_cons.mpr ⟨?_, List.forall_mem_cons.mpr ⟨?_, List.forall_mem_cons.mpr ⟨?_, List.forall_mem_cons.mpr ⟨?_, List.forall_mem_cons.mpr ⟨?_, List.forall_mem_cons.mpr ⟨?_, List.forall_mem_cons.mpr ⟨?_, List.forall_mem_cons.mpr ⟨?_, List.forall_mem_cons.mpr ⟨?_, fun _ h => absurd h List.not_mem_nil⟩⟩⟩⟩⟩⟩⟩⟩⟩⟩⟩⟩⟩⟩⟩⟩⟩⟩⟩⟩⟩⟩⟩⟩⟩⟩⟩⟩⟩⟩⟩⟩⟩⟩⟩⟩⟩⟩⟩⟩⟩⟩⟩⟩⟩⟩⟩⟩⟩⟩⟩⟩⟩⟩⟩⟩
  · exact x_iload_n_ok (show decode cX8_cheap 0 = .ok (.iload_n 2, 1) by decide +kernel) rfl
  · exact x_iconst_ok (show decode cX8_cheap 1 = .ok (.iconst 4, 1) by decide +kernel) (by decide)
  · exact x_callS_ok (sX8_among l) hw_268 hw_266 hw_267 hw_61 ⟨by decide, by decide, by decide +kernel⟩ (by decide) (by decide) (show decode cX8_cheap 2 = .ok (.invokestatic 65, 3) by decide +kernel)
  · exact x_ifne_ok (show decode cX8_cheap 5 = .ok (.ifCond .ne 5, 3) by decide +kernel) (by decide)
  · exact x_iconst_ok (show decode cX8_cheap 8 = .ok (.iconst (-1), 1) by decide +kernel) (by decide)
  · exact x_iret_ok (show decode cX8_cheap 9 = .ok (.ireturn, 1) by decide +kernel)
  · exact x_aload_n_ok (show decode cX8_cheap 10 = .ok (.aload_n 0, 1) by decide +kernel) rfl
  · exact x_iload_n_ok (show decode cX8_cheap 11 = .ok (.iload_n 1, 1) by decide +kernel) rfl
  · exact x_iconst_ok (show decode cX8_cheap 12 = .ok (.iconst 1, 1) by decide +kernel) (by decide)
  · exact x_iconst_ok (show decode cX8_cheap 13 = .ok (.iconst 4, 1) by decide +kernel) (by decide)
  · exact x_callV_ok (ci := 6) rfl (by decide) (sX8_refusalOfShades l) hw_632 hw_629 hw_631 hw_10 hw_61 ⟨by decide, by decide, by decide +kernel⟩ rfl (by decide) (by decide) (show decode cX8_cheap 14 = .ok (.invokevirtual 208, 3) by decide +kernel)
  · exact x_istore_n_ok (show decode cX8_cheap 17 = .ok (.istore_n 3, 1) by decide +kernel) rfl (by decide)
  · exact x_iload_n_ok (show decode cX8_cheap 18 = .ok (.iload_n 3, 1) by decide +kernel) rfl
  · exact x_ifeq_ok (show decode cX8_cheap 19 = .ok (.ifCond .eq 5, 3) by decide +kernel) (by decide)
  · exact x_iload_n_ok (show decode cX8_cheap 22 = .ok (.iload_n 3, 1) by decide +kernel) rfl
  · exact x_iret_ok (show decode cX8_cheap 23 = .ok (.ireturn, 1) by decide +kernel)
  · exact x_iconst_ok (show decode cX8_cheap 24 = .ok (.iconst 0, 1) by decide +kernel) (by decide)
  · exact x_istore_ok (show decode cX8_cheap 25 = .ok (.istore 4, 2) by decide +kernel) (by decide)
  · exact x_iload_ok (show decode cX8_cheap 27 = .ok (.iload 4, 2) by decide +kernel)
  · exact x_sipush_ok (show decode cX8_cheap 29 = .ok (.sipush 216, 3) by decide +kernel) (by decide)
  · exact x_cmpge_ok (show decode cX8_cheap 32 = .ok (.if_icmp .ge 34, 3) by decide +kernel) (by decide)
  · exact x_aload_n_ok (show decode cX8_cheap 35 = .ok (.aload_n 0, 1) by decide +kernel) rfl
  · exact x_getR_ok (ci := 6) (k := 7) rfl (by decide) (by decide) hw_229 (show decode cX8_cheap 36 = .ok (.getfield 54, 3) by decide +kernel)
  · exact x_iload_ok (show decode cX8_cheap 39 = .ok (.iload 4, 2) by decide +kernel)
  · exact x_aload_n_ok (show decode cX8_cheap 41 = .ok (.aload_n 0, 1) by decide +kernel) rfl
  · exact x_getR_ok (ci := 6) (k := 2) rfl (by decide) (by decide) hw_224 (show decode cX8_cheap 42 = .ok (.getfield 26, 3) by decide +kernel)
  · exact x_iload_n_ok (show decode cX8_cheap 45 = .ok (.iload_n 2, 1) by decide +kernel) rfl
  · exact x_iload_ok (show decode cX8_cheap 46 = .ok (.iload 4, 2) by decide +kernel)
  · exact x_callV_ok (ci := 3) rfl (by decide) (sX4_owedBy l) hw_595 hw_592 hw_593 hw_594 hw_64 ⟨by decide, by decide, by decide +kernel⟩ rfl (by decide) (by decide) (show decode cX8_cheap 48 = .ok (.invokevirtual 194, 3) by decide +kernel)
  · exact x_ifne_ok (show decode cX8_cheap 51 = .ok (.ifCond .ne 7, 3) by decide +kernel) (by decide)
  · exact x_iconst_ok (show decode cX8_cheap 54 = .ok (.iconst 1, 1) by decide +kernel) (by decide)
  · exact x_goto_ok (show decode cX8_cheap 55 = .ok (.goto 4, 3) by decide +kernel) (by decide)
  · exact x_iconst_ok (show decode cX8_cheap 58 = .ok (.iconst 0, 1) by decide +kernel) (by decide)
  · exact x_bastZ_ok (show decode cX8_cheap 59 = .ok (.bastore, 1) by decide +kernel)
  · exact x_iinc_ok (show decode cX8_cheap 60 = .ok (.iinc 4 1, 3) by decide +kernel) (by decide) (by decide)
  · exact x_goto_ok (show decode cX8_cheap 63 = .ok (.goto (-36), 3) by decide +kernel) (by decide)
  · exact x_aload_n_ok (show decode cX8_cheap 66 = .ok (.aload_n 0, 1) by decide +kernel) rfl
  · exact x_getR_ok (ci := 6) (k := 5) rfl (by decide) (by decide) hw_227 (show decode cX8_cheap 67 = .ok (.getfield 44, 3) by decide +kernel)
  · exact x_aload_n_ok (show decode cX8_cheap 70 = .ok (.aload_n 0, 1) by decide +kernel) rfl
  · exact x_getR_ok (ci := 6) (k := 0) rfl (by decide) (by decide) hw_222 (show decode cX8_cheap 71 = .ok (.getfield 11, 3) by decide +kernel)
  · exact x_iload_n_ok (show decode cX8_cheap 74 = .ok (.iload_n 1, 1) by decide +kernel) rfl
  · exact x_aald_ok (show decode cX8_cheap 75 = .ok (.aaload, 1) by decide +kernel)
  · exact x_aload_n_ok (show decode cX8_cheap 76 = .ok (.aload_n 0, 1) by decide +kernel) rfl
  · exact x_getR_ok (ci := 6) (k := 7) rfl (by decide) (by decide) hw_229 (show decode cX8_cheap 77 = .ok (.getfield 54, 3) by decide +kernel)
  · exact x_callV_ok (ci := 2) rfl (by decide) (sX3_fewestMixings l) hw_679 hw_676 hw_677 hw_678 hw_67 ⟨by decide, by decide, by decide +kernel⟩ rfl (by decide) (by decide) (show decode cX8_cheap 80 = .ok (.invokevirtual 228, 3) by decide +kernel)
  · exact x_istore_ok (show decode cX8_cheap 83 = .ok (.istore 4, 2) by decide +kernel) (by decide)
  · exact x_iload_ok (show decode cX8_cheap 85 = .ok (.iload 4, 2) by decide +kernel)
  · exact x_bipush_ok (show decode cX8_cheap 87 = .ok (.bipush (-9), 2) by decide +kernel) (by decide)
  · exact x_cmpeq_ok (show decode cX8_cheap 89 = .ok (.if_icmp .eq 14, 3) by decide +kernel) (by decide)
  · exact x_aload_n_ok (show decode cX8_cheap 92 = .ok (.aload_n 0, 1) by decide +kernel) rfl
  · exact x_aload_n_ok (show decode cX8_cheap 93 = .ok (.aload_n 0, 1) by decide +kernel) rfl
  · exact x_getR_ok (ci := 6) (k := 5) rfl (by decide) (by decide) hw_227 (show decode cX8_cheap 94 = .ok (.getfield 44, 3) by decide +kernel)
  · exact x_getI_ok (ci := 2) (k := 1) rfl (by decide) (by decide) hw_216 (show decode cX8_cheap 97 = .ok (.getfield 232, 3) by decide +kernel)
  · exact x_putI_ok (ci := 6) (k := 10) rfl (by decide) (by decide) rfl hw_232 rfl (show decode cX8_cheap 100 = .ok (.putfield 84, 3) by decide +kernel)
  · exact x_iload_ok (show decode cX8_cheap 103 = .ok (.iload 4, 2) by decide +kernel)
  · exact x_iret_ok (show decode cX8_cheap 105 = .ok (.ireturn, 1) by decide +kernel)
noncomputable def FX8_cheap : List Value → xS → Option xR := xden tX8_cheap 5 (some .int) 0
theorem sX8_cheap (l : Launch) : xSound l yX8_cheap cX8_cheap 5 (some .int) 9 0 FX8_cheap := x_den (by decide) (tX8_cheap_ok l)
noncomputable def tX9_cheap : List (Nat × xO) := [(0, x_iload 1 1), (1, x_call 0 1 FX9_isRow), (4, x_ifeq 14), (7, x_iload 2 1), (8, x_call 0 1 FX9_isPerson), (11, x_ifne 16), (14, x_push (.int (-1)) 1), (15, x_iret), (16, x_aload 0 1), (17, x_iload 1 1), (18, x_push (.int (nI 1)) 1), (19, x_push (.int (nI 4)) 1), (20, x_callV 7 0 4 FX9_noShades), (23, x_istore 3 1), (24, x_iload 3 1), (25, x_ifeq 30), (28, x_iload 3 1), (29, x_iret), (30, x_aload 0 1), (31, x_iload 1 1), (32, x_callV 7 0 2 FX9_layMixed), (35, x_push (.int (nI 9)) 2), (37, x_istore 4 2), (39, x_push (.int (nI 0)) 1), (40, x_istore 5 2), (42, x_iload 5 2), (44, x_push (.int (nI 216)) 3), (47, x_cmpge 122), (50, x_aload 0 1), (51, x_getR 7 19), (54, x_iload 5 2), (56, x_iald), (57, x_iload 4 2), (59, x_cmpge 76), (62, x_aload 0 1), (63, x_iload 2 1), (64, x_iload 5 2), (66, x_callV 7 0 3 FX9_dueFor), (69, x_ifne 76), (72, x_push (.int (nI 1)) 1), (73, x_goto 77), (76, x_push (.int (nI 0)) 1), (77, x_istore 6 2), (79, x_aload 0 1), (80, x_iload 6 2), (82, x_ifeq 90), (85, x_iload 5 2), (87, x_goto 94), (90, x_aload 0 1), (91, x_getI 7 5), (94, x_putI 7 5), (97, x_iload 6 2), (99, x_ifeq 112), (102, x_aload 0 1), (103, x_getR 7 19), (106, x_iload 5 2), (108, x_iald), (109, x_goto 114), (112, x_iload 4 2), (114, x_istore 4 2), (116, x_iinc 5 (nI 1)), (119, x_goto 42), (122, x_iload 4 2), (124, x_push (.int (nI 9)) 2), (126, x_cmpne 134), (129, x_push (.int (-9)) 2), (131, x_goto 136), (134, x_iload 4 2), (136, x_iret)]
set_option maxRecDepth 100000 in
theorem tX9_cheap_ok (l : Launch) : ∀ q ∈ tX9_cheap, xOK l cX9_cheap RX9 7 8 0 (yX9_cheap.name = "<init>") q.1 q.2 := by
  unfold tX9_cheap
  refine List.forall_mem_cons.mpr ⟨?_, List.forall_mem_cons.mpr ⟨?_, List.forall_mem_cons.mpr ⟨?_, List.forall_mem_cons.mpr ⟨?_, List.forall_mem_cons.mpr ⟨?_, List.forall_mem_cons.mpr ⟨?_, List.forall_mem_cons.mpr ⟨?_, List.forall_mem_cons.mpr ⟨?_, List.forall_mem_cons.mpr ⟨?_, List.forall_mem_cons.mpr ⟨?_, List.forall_mem_cons.mpr ⟨?_, List.forall_mem_cons.mpr ⟨?_, List.forall_mem_cons.mpr ⟨?_, List.forall_mem_cons.mpr ⟨?_, List.forall_mem_cons.mpr ⟨?_, List.forall_mem_cons.mpr ⟨?_, List.forall_mem_cons.mpr ⟨?_, List.forall_mem_cons.mpr ⟨?_, List.forall_mem_cons.mpr ⟨?_, List.forall_mem_cons.mpr ⟨?_, List.forall_mem_cons.mpr ⟨?_, List.forall_mem_cons.mpr ⟨?_, List.forall_mem_cons.mpr ⟨?_, List.forall_mem_cons.mpr ⟨?_, List.forall_mem_cons.mpr ⟨?_, List.forall_mem_cons.mpr ⟨?_, List.forall_mem_cons.mpr ⟨?_, List.forall_mem_cons.mpr ⟨?_, List.forall_mem_cons.mpr ⟨?_, List.forall_mem_cons.mpr ⟨?_, List.forall_mem_cons.mpr ⟨?_, List.forall_mem_cons.mpr ⟨?_, List.forall_mem_cons.mpr ⟨?_, List.forall_mem_cons.mpr ⟨?_, List.forall_mem_cons.mpr ⟨?_, List.forall_mem_cons.mpr ⟨?_, List.forall_mem_cons.mpr ⟨?_, List.forall_mem_cons.mpr ⟨?_, List.forall_mem_cons.mpr ⟨?_, List.forall_mem_cons.mpr ⟨?_, List.forall_mem_cons.mpr ⟨?_, List.forall_mem_cons.mpr ⟨?_, List.forall_mem_cons.mpr ⟨?_, List.forall_mem_cons.mpr ⟨?_, List.forall_mem_cons.mpr ⟨?_, List.forall_mem_cons.mpr ⟨?_, List.forall_mem_cons.mpr ⟨?_, List.forall_mem_cons.mpr ⟨?_, List.forall_mem_cons.mpr ⟨?_, List.forall_mem_cons.mpr ⟨?_, List.forall_mem_cons.mpr ⟨?_, List.forall_mem_cons.mpr ⟨?_, List.forall_mem_cons.mpr ⟨?_, List.forall_mem_cons.mpr ⟨?_, List.forall_mem_cons.mpr ⟨?_, List.forall_mem_cons.mpr ⟨?_, List.forall_mem_cons.mpr ⟨?_, List.forall_mem_cons.mpr ⟨?_, List.forall_mem_cons.mpr ⟨?_, List.forall_mem_cons.mpr ⟨?_, List.forall_mem_cons.mpr ⟨?_, List.forall_mem_cons.mpr ⟨?_, List.forall_mem_cons.mpr ⟨?_, List.forall_mem_cons.mpr ⟨?_, List.forall_mem_cons.mpr ⟨?_, List.forall_mem_cons.mpr ⟨?_, List.forall_mem_cons.mpr ⟨?_, List.forall_mem_cons.mpr ⟨?_, List.forall_mem_cons.mpr ⟨?_, fun _ h => absurd h List.not_mem_nil⟩⟩⟩⟩⟩⟩⟩⟩⟩⟩⟩⟩⟩⟩⟩⟩⟩⟩⟩⟩⟩⟩⟩⟩⟩⟩⟩⟩⟩⟩⟩⟩⟩⟩⟩⟩⟩⟩⟩⟩⟩⟩⟩⟩⟩⟩⟩⟩⟩⟩⟩⟩⟩⟩⟩⟩⟩⟩⟩⟩⟩⟩⟩⟩⟩⟩⟩⟩⟩
  · exact x_iload_n_ok (show decode cX9_cheap 0 = .ok (.iload_n 1, 1) by decide +kernel) rfl
  · exact x_callS_ok (sX9_isRow l) hw_914 hw_912 hw_913 hw_68 ⟨by decide, by decide, by decide +kernel⟩ (by decide) (by decide) (show decode cX9_cheap 1 = .ok (.invokestatic 66, 3) by decide +kernel)
  · exact x_ifeq_ok (show decode cX9_cheap 4 = .ok (.ifCond .eq 10, 3) by decide +kernel) (by decide)
  · exact x_iload_n_ok (show decode cX9_cheap 7 = .ok (.iload_n 2, 1) by decide +kernel) rfl
  · exact x_callS_ok (sX9_isPerson l) hw_1099 hw_1097 hw_1098 hw_68 ⟨by decide, by decide, by decide +kernel⟩ (by decide) (by decide) (show decode cX9_cheap 8 = .ok (.invokestatic 201, 3) by decide +kernel)
  · exact x_ifne_ok (show decode cX9_cheap 11 = .ok (.ifCond .ne 5, 3) by decide +kernel) (by decide)
  · exact x_iconst_ok (show decode cX9_cheap 14 = .ok (.iconst (-1), 1) by decide +kernel) (by decide)
  · exact x_iret_ok (show decode cX9_cheap 15 = .ok (.ireturn, 1) by decide +kernel)
  · exact x_aload_n_ok (show decode cX9_cheap 16 = .ok (.aload_n 0, 1) by decide +kernel) rfl
  · exact x_iload_n_ok (show decode cX9_cheap 17 = .ok (.iload_n 1, 1) by decide +kernel) rfl
  · exact x_iconst_ok (show decode cX9_cheap 18 = .ok (.iconst 1, 1) by decide +kernel) (by decide)
  · exact x_iconst_ok (show decode cX9_cheap 19 = .ok (.iconst 4, 1) by decide +kernel) (by decide)
  · exact x_callV_ok (ci := 7) rfl (by decide) (sX9_noShades l) hw_1187 hw_1184 hw_1186 hw_48 hw_68 ⟨by decide, by decide, by decide +kernel⟩ rfl (by decide) (by decide) (show decode cX9_cheap 20 = .ok (.invokevirtual 233, 3) by decide +kernel)
  · exact x_istore_n_ok (show decode cX9_cheap 23 = .ok (.istore_n 3, 1) by decide +kernel) rfl (by decide)
  · exact x_iload_n_ok (show decode cX9_cheap 24 = .ok (.iload_n 3, 1) by decide +kernel) rfl
  · exact x_ifeq_ok (show decode cX9_cheap 25 = .ok (.ifCond .eq 5, 3) by decide +kernel) (by decide)
  · exact x_iload_n_ok (show decode cX9_cheap 28 = .ok (.iload_n 3, 1) by decide +kernel) rfl
  · exact x_iret_ok (show decode cX9_cheap 29 = .ok (.ireturn, 1) by decide +kernel)
  · exact x_aload_n_ok (show decode cX9_cheap 30 = .ok (.aload_n 0, 1) by decide +kernel) rfl
  · exact x_iload_n_ok (show decode cX9_cheap 31 = .ok (.iload_n 1, 1) by decide +kernel) rfl
  · exact x_callV_ok (ci := 7) rfl (by decide) (sX9_layMixed l) hw_1203 hw_1200 hw_1202 hw_50 hw_68 ⟨by decide, by decide, by decide +kernel⟩ rfl (by decide) (by decide) (show decode cX9_cheap 32 = .ok (.invokevirtual 245, 3) by decide +kernel)
  · exact x_bipush_ok (show decode cX9_cheap 35 = .ok (.bipush 9, 2) by decide +kernel) (by decide)
  · exact x_istore_ok (show decode cX9_cheap 37 = .ok (.istore 4, 2) by decide +kernel) (by decide)
  · exact x_iconst_ok (show decode cX9_cheap 39 = .ok (.iconst 0, 1) by decide +kernel) (by decide)
  · exact x_istore_ok (show decode cX9_cheap 40 = .ok (.istore 5, 2) by decide +kernel) (by decide)
  · exact x_iload_ok (show decode cX9_cheap 42 = .ok (.iload 5, 2) by decide +kernel)
  · exact x_sipush_ok (show decode cX9_cheap 44 = .ok (.sipush 216, 3) by decide +kernel) (by decide)
  · exact x_cmpge_ok (show decode cX9_cheap 47 = .ok (.if_icmp .ge 75, 3) by decide +kernel) (by decide)
  · exact x_aload_n_ok (show decode cX9_cheap 50 = .ok (.aload_n 0, 1) by decide +kernel) rfl
  · exact x_getR_ok (ci := 7) (k := 19) rfl (by decide) (by decide) hw_863 (show decode cX9_cheap 51 = .ok (.getfield 45, 3) by decide +kernel)
  · exact x_iload_ok (show decode cX9_cheap 54 = .ok (.iload 5, 2) by decide +kernel)
  · exact x_iald_ok (show decode cX9_cheap 56 = .ok (.iaload, 1) by decide +kernel)
  · exact x_iload_ok (show decode cX9_cheap 57 = .ok (.iload 4, 2) by decide +kernel)
  · exact x_cmpge_ok (show decode cX9_cheap 59 = .ok (.if_icmp .ge 17, 3) by decide +kernel) (by decide)
  · exact x_aload_n_ok (show decode cX9_cheap 62 = .ok (.aload_n 0, 1) by decide +kernel) rfl
  · exact x_iload_n_ok (show decode cX9_cheap 63 = .ok (.iload_n 2, 1) by decide +kernel) rfl
  · exact x_iload_ok (show decode cX9_cheap 64 = .ok (.iload 5, 2) by decide +kernel)
  · exact x_callV_ok (ci := 7) rfl (by decide) (sX9_dueFor l) hw_1140 hw_1137 hw_1139 hw_42 hw_68 ⟨by decide, by decide, by decide +kernel⟩ rfl (by decide) (by decide) (show decode cX9_cheap 66 = .ok (.invokevirtual 212, 3) by decide +kernel)
  · exact x_ifne_ok (show decode cX9_cheap 69 = .ok (.ifCond .ne 7, 3) by decide +kernel) (by decide)
  · exact x_iconst_ok (show decode cX9_cheap 72 = .ok (.iconst 1, 1) by decide +kernel) (by decide)
  · exact x_goto_ok (show decode cX9_cheap 73 = .ok (.goto 4, 3) by decide +kernel) (by decide)
  · exact x_iconst_ok (show decode cX9_cheap 76 = .ok (.iconst 0, 1) by decide +kernel) (by decide)
  · exact x_istore_ok (show decode cX9_cheap 77 = .ok (.istore 6, 2) by decide +kernel) (by decide)
  · exact x_aload_n_ok (show decode cX9_cheap 79 = .ok (.aload_n 0, 1) by decide +kernel) rfl
  · exact x_iload_ok (show decode cX9_cheap 80 = .ok (.iload 6, 2) by decide +kernel)
  · exact x_ifeq_ok (show decode cX9_cheap 82 = .ok (.ifCond .eq 8, 3) by decide +kernel) (by decide)
  · exact x_iload_ok (show decode cX9_cheap 85 = .ok (.iload 5, 2) by decide +kernel)
  · exact x_goto_ok (show decode cX9_cheap 87 = .ok (.goto 7, 3) by decide +kernel) (by decide)
  · exact x_aload_n_ok (show decode cX9_cheap 90 = .ok (.aload_n 0, 1) by decide +kernel) rfl
  · exact x_getI_ok (ci := 7) (k := 5) rfl (by decide) (by decide) hw_849 (show decode cX9_cheap 91 = .ok (.getfield 55, 3) by decide +kernel)
  · exact x_putI_ok (ci := 7) (k := 5) rfl (by decide) (by decide) rfl hw_849 rfl (show decode cX9_cheap 94 = .ok (.putfield 55, 3) by decide +kernel)
  · exact x_iload_ok (show decode cX9_cheap 97 = .ok (.iload 6, 2) by decide +kernel)
  · exact x_ifeq_ok (show decode cX9_cheap 99 = .ok (.ifCond .eq 13, 3) by decide +kernel) (by decide)
  · exact x_aload_n_ok (show decode cX9_cheap 102 = .ok (.aload_n 0, 1) by decide +kernel) rfl
  · exact x_getR_ok (ci := 7) (k := 19) rfl (by decide) (by decide) hw_863 (show decode cX9_cheap 103 = .ok (.getfield 45, 3) by decide +kernel)
  · exact x_iload_ok (show decode cX9_cheap 106 = .ok (.iload 5, 2) by decide +kernel)
  · exact x_iald_ok (show decode cX9_cheap 108 = .ok (.iaload, 1) by decide +kernel)
  · exact x_goto_ok (show decode cX9_cheap 109 = .ok (.goto 5, 3) by decide +kernel) (by decide)
  · exact x_iload_ok (show decode cX9_cheap 112 = .ok (.iload 4, 2) by decide +kernel)
  · exact x_istore_ok (show decode cX9_cheap 114 = .ok (.istore 4, 2) by decide +kernel) (by decide)
  · exact x_iinc_ok (show decode cX9_cheap 116 = .ok (.iinc 5 1, 3) by decide +kernel) (by decide) (by decide)
  · exact x_goto_ok (show decode cX9_cheap 119 = .ok (.goto (-77), 3) by decide +kernel) (by decide)
  · exact x_iload_ok (show decode cX9_cheap 122 = .ok (.iload 4, 2) by decide +kernel)
  · exact x_bipush_ok (show decode cX9_cheap 124 = .ok (.bipush 9, 2) by decide +kernel) (by decide)
  · exact x_cmpne_ok (show decode cX9_cheap 126 = .ok (.if_icmp .ne 8, 3) by decide +kernel) (by decide)
  · exact x_bipush_ok (show decode cX9_cheap 129 = .ok (.bipush (-9), 2) by decide +kernel) (by decide)
  · exact x_goto_ok (show decode cX9_cheap 131 = .ok (.goto 5, 3) by decide +kernel) (by decide)
  · exact x_iload_ok (show decode cX9_cheap 134 = .ok (.iload 4, 2) by decide +kernel)
  · exact x_iret_ok (show decode cX9_cheap 136 = .ok (.ireturn, 1) by decide +kernel)
noncomputable def FX9_cheap : List Value → xS → Option xR := xden tX9_cheap 7 (some .int) 0
theorem sX9_cheap (l : Launch) : xSound l yX9_cheap cX9_cheap 7 (some .int) 8 0 FX9_cheap := x_den (by decide) (tX9_cheap_ok l)
noncomputable def tX8_refusalOfSayings : List (Nat × xO) := [(0, x_aload 0 1), (1, x_iload 1 1), (2, x_callV 6 0 2 FX8_refusalOfRow), (5, x_istore 2 1), (6, x_iload 2 1), (7, x_ifeq 12), (10, x_iload 2 1), (11, x_iret), (12, x_aload 0 1), (13, x_getR 6 0), (16, x_iload 1 1), (17, x_aald), (18, x_getI 4 1), (21, x_push (.int (nI 3)) 1), (22, x_irem), (23, x_ifeq 32), (26, x_aload 0 1), (27, x_push (.int (nI 5)) 1), (28, x_callV 6 0 2 FX8_findingOf), (31, x_iret), (32, x_push (.int (nI 0)) 1), (33, x_istore 3 1), (34, x_iload 3 1), (35, x_aload 0 1), (36, x_getR 6 0), (39, x_iload 1 1), (40, x_aald), (41, x_getI 4 1), (44, x_cmpge 90), (47, x_aload 0 1), (48, x_getR 6 0), (51, x_iload 1 1), (52, x_aald), (53, x_getR 4 0), (56, x_iload 3 1), (57, x_iald), (58, x_iload 3 1), (59, x_push (.int (nI 3)) 1), (60, x_irem), (61, x_push (.int (nI 2)) 1), (62, x_cmpne 69), (65, x_push (.int (nI 2)) 1), (66, x_goto 72), (69, x_push (.int (nI 216)) 3), (72, x_call 0 2 FX8_among), (75, x_ifne 84), (78, x_aload 0 1), (79, x_push (.int (nI 3)) 1), (80, x_callV 6 0 2 FX8_findingOf), (83, x_iret), (84, x_iinc 3 (nI 1)), (87, x_goto 34), (90, x_push (.int (nI 0)) 1), (91, x_iret)]
set_option maxRecDepth 100000 in
theorem tX8_refusalOfSayings_ok (l : Launch) : ∀ q ∈ tX8_refusalOfSayings, xOK l cX8_refusalOfSayings RX8 4 3 0 (yX8_refusalOfSayings.name = "<init>") q.1 q.2 := by
  unfold tX8_refusalOfSayings
  refine List.forall_mem_cons.mpr ⟨?_, List.forall_mem_cons.mpr ⟨?_, List.forall_mem_cons.mpr ⟨?_, List.forall_mem_cons.mpr ⟨?_, List.forall_mem_cons.mpr ⟨?_, List.forall_mem_cons.mpr ⟨?_, List.forall_mem_cons.mpr ⟨?_, List.forall_mem_cons.mpr ⟨?_, List.forall_mem_cons.mpr ⟨?_, List.forall_mem_cons.mpr ⟨?_, List.forall_mem_cons.mpr ⟨?_, List.forall_mem_cons.mpr ⟨?_, List.forall_mem_cons.mpr ⟨?_, List.forall_mem_cons.mpr ⟨?_, List.forall_mem_cons.mpr ⟨?_, List.forall_mem_cons.mpr ⟨?_, List.forall_mem_cons.mpr ⟨?_, List.forall_mem_cons.mpr ⟨?_, List.forall_mem_cons.mpr ⟨?_, List.forall_mem_cons.mpr ⟨?_, List.forall_mem_cons.mpr ⟨?_, List.forall_mem_cons.mpr ⟨?_, List.forall_mem_cons.mpr ⟨?_, List.forall_mem_cons.mpr ⟨?_, List.forall_mem_cons.mpr ⟨?_, List.forall_mem_cons.mpr ⟨?_, List.forall_mem_cons.mpr ⟨?_, List.forall_mem_cons.mpr ⟨?_, List.forall_mem_cons.mpr ⟨?_, List.forall_mem_cons.mpr ⟨?_, List.forall_mem_cons.mpr ⟨?_, List.forall_mem_cons.mpr ⟨?_, List.forall_mem_cons.mpr ⟨?_, List.forall_mem_cons.mpr ⟨?_, List.forall_mem_cons.mpr ⟨?_, List.forall_mem_cons.mpr ⟨?_, List.forall_mem_cons.mpr ⟨?_, List.forall_mem_cons.mpr ⟨?_, List.forall_mem_cons.mpr ⟨?_, List.forall_mem_cons.mpr ⟨?_, List.forall_mem_cons.mpr ⟨?_, List.forall_mem_cons.mpr ⟨?_, List.forall_mem_cons.mpr ⟨?_, List.forall_mem_cons.mpr ⟨?_, List.forall_mem_cons.mpr ⟨?_, List.forall_mem_cons.mpr ⟨?_, List.forall_mem_cons.mpr ⟨?_, List.forall_mem_cons.mpr ⟨?_, List.forall_mem_cons.mpr ⟨?_, List.forall_mem_cons.mpr ⟨?_, List.forall_mem_cons.mpr ⟨?_, List.forall_mem_cons.mpr ⟨?_, List.forall_mem_cons.mpr ⟨?_, List.forall_mem_cons.mpr ⟨?_, fun _ h => absurd h List.not_mem_nil⟩⟩⟩⟩⟩⟩⟩⟩⟩⟩⟩⟩⟩⟩⟩⟩⟩⟩⟩⟩⟩⟩⟩⟩⟩⟩⟩⟩⟩⟩⟩⟩⟩⟩⟩⟩⟩⟩⟩⟩⟩⟩⟩⟩⟩⟩⟩⟩⟩⟩⟩⟩⟩⟩
  · exact x_aload_n_ok (show decode cX8_refusalOfSayings 0 = .ok (.aload_n 0, 1) by decide +kernel) rfl
  · exact x_iload_n_ok (show decode cX8_refusalOfSayings 1 = .ok (.iload_n 1, 1) by decide +kernel) rfl
  · exact x_callV_ok (ci := 6) rfl (by decide) (sX8_refusalOfRow l) hw_288 hw_285 hw_287 hw_2 hw_61 ⟨by decide, by decide, by decide +kernel⟩ rfl (by decide) (by decide) (show decode cX8_refusalOfSayings 2 = .ok (.invokevirtual 88, 3) by decide +kernel)
  · exact x_istore_n_ok (show decode cX8_refusalOfSayings 5 = .ok (.istore_n 2, 1) by decide +kernel) rfl (by decide)
  · exact x_iload_n_ok (show decode cX8_refusalOfSayings 6 = .ok (.iload_n 2, 1) by decide +kernel) rfl
  · exact x_ifeq_ok (show decode cX8_refusalOfSayings 7 = .ok (.ifCond .eq 5, 3) by decide +kernel) (by decide)
  · exact x_iload_n_ok (show decode cX8_refusalOfSayings 10 = .ok (.iload_n 2, 1) by decide +kernel) rfl
  · exact x_iret_ok (show decode cX8_refusalOfSayings 11 = .ok (.ireturn, 1) by decide +kernel)
  · exact x_aload_n_ok (show decode cX8_refusalOfSayings 12 = .ok (.aload_n 0, 1) by decide +kernel) rfl
  · exact x_getR_ok (ci := 6) (k := 0) rfl (by decide) (by decide) hw_222 (show decode cX8_refusalOfSayings 13 = .ok (.getfield 11, 3) by decide +kernel)
  · exact x_iload_n_ok (show decode cX8_refusalOfSayings 16 = .ok (.iload_n 1, 1) by decide +kernel) rfl
  · exact x_aald_ok (show decode cX8_refusalOfSayings 17 = .ok (.aaload, 1) by decide +kernel)
  · exact x_getI_ok (ci := 4) (k := 1) rfl (by decide) (by decide) hw_100 (show decode cX8_refusalOfSayings 18 = .ok (.getfield 107, 3) by decide +kernel)
  · exact x_iconst_ok (show decode cX8_refusalOfSayings 21 = .ok (.iconst 3, 1) by decide +kernel) (by decide)
  · exact x_irem_ok (show decode cX8_refusalOfSayings 22 = .ok (.irem, 1) by decide +kernel)
  · exact x_ifeq_ok (show decode cX8_refusalOfSayings 23 = .ok (.ifCond .eq 9, 3) by decide +kernel) (by decide)
  · exact x_aload_n_ok (show decode cX8_refusalOfSayings 26 = .ok (.aload_n 0, 1) by decide +kernel) rfl
  · exact x_iconst_ok (show decode cX8_refusalOfSayings 27 = .ok (.iconst 5, 1) by decide +kernel) (by decide)
  · exact x_callV_ok (ci := 6) rfl (by decide) (sX8_findingOf l) hw_272 hw_269 hw_271 hw_0 hw_61 ⟨by decide, by decide, by decide +kernel⟩ rfl (by decide) (by decide) (show decode cX8_refusalOfSayings 28 = .ok (.invokevirtual 69, 3) by decide +kernel)
  · exact x_iret_ok (show decode cX8_refusalOfSayings 31 = .ok (.ireturn, 1) by decide +kernel)
  · exact x_iconst_ok (show decode cX8_refusalOfSayings 32 = .ok (.iconst 0, 1) by decide +kernel) (by decide)
  · exact x_istore_n_ok (show decode cX8_refusalOfSayings 33 = .ok (.istore_n 3, 1) by decide +kernel) rfl (by decide)
  · exact x_iload_n_ok (show decode cX8_refusalOfSayings 34 = .ok (.iload_n 3, 1) by decide +kernel) rfl
  · exact x_aload_n_ok (show decode cX8_refusalOfSayings 35 = .ok (.aload_n 0, 1) by decide +kernel) rfl
  · exact x_getR_ok (ci := 6) (k := 0) rfl (by decide) (by decide) hw_222 (show decode cX8_refusalOfSayings 36 = .ok (.getfield 11, 3) by decide +kernel)
  · exact x_iload_n_ok (show decode cX8_refusalOfSayings 39 = .ok (.iload_n 1, 1) by decide +kernel) rfl
  · exact x_aald_ok (show decode cX8_refusalOfSayings 40 = .ok (.aaload, 1) by decide +kernel)
  · exact x_getI_ok (ci := 4) (k := 1) rfl (by decide) (by decide) hw_100 (show decode cX8_refusalOfSayings 41 = .ok (.getfield 107, 3) by decide +kernel)
  · exact x_cmpge_ok (show decode cX8_refusalOfSayings 44 = .ok (.if_icmp .ge 46, 3) by decide +kernel) (by decide)
  · exact x_aload_n_ok (show decode cX8_refusalOfSayings 47 = .ok (.aload_n 0, 1) by decide +kernel) rfl
  · exact x_getR_ok (ci := 6) (k := 0) rfl (by decide) (by decide) hw_222 (show decode cX8_refusalOfSayings 48 = .ok (.getfield 11, 3) by decide +kernel)
  · exact x_iload_n_ok (show decode cX8_refusalOfSayings 51 = .ok (.iload_n 1, 1) by decide +kernel) rfl
  · exact x_aald_ok (show decode cX8_refusalOfSayings 52 = .ok (.aaload, 1) by decide +kernel)
  · exact x_getR_ok (ci := 4) (k := 0) rfl (by decide) (by decide) hw_96 (show decode cX8_refusalOfSayings 53 = .ok (.getfield 81, 3) by decide +kernel)
  · exact x_iload_n_ok (show decode cX8_refusalOfSayings 56 = .ok (.iload_n 3, 1) by decide +kernel) rfl
  · exact x_iald_ok (show decode cX8_refusalOfSayings 57 = .ok (.iaload, 1) by decide +kernel)
  · exact x_iload_n_ok (show decode cX8_refusalOfSayings 58 = .ok (.iload_n 3, 1) by decide +kernel) rfl
  · exact x_iconst_ok (show decode cX8_refusalOfSayings 59 = .ok (.iconst 3, 1) by decide +kernel) (by decide)
  · exact x_irem_ok (show decode cX8_refusalOfSayings 60 = .ok (.irem, 1) by decide +kernel)
  · exact x_iconst_ok (show decode cX8_refusalOfSayings 61 = .ok (.iconst 2, 1) by decide +kernel) (by decide)
  · exact x_cmpne_ok (show decode cX8_refusalOfSayings 62 = .ok (.if_icmp .ne 7, 3) by decide +kernel) (by decide)
  · exact x_iconst_ok (show decode cX8_refusalOfSayings 65 = .ok (.iconst 2, 1) by decide +kernel) (by decide)
  · exact x_goto_ok (show decode cX8_refusalOfSayings 66 = .ok (.goto 6, 3) by decide +kernel) (by decide)
  · exact x_sipush_ok (show decode cX8_refusalOfSayings 69 = .ok (.sipush 216, 3) by decide +kernel) (by decide)
  · exact x_callS_ok (sX8_among l) hw_268 hw_266 hw_267 hw_61 ⟨by decide, by decide, by decide +kernel⟩ (by decide) (by decide) (show decode cX8_refusalOfSayings 72 = .ok (.invokestatic 65, 3) by decide +kernel)
  · exact x_ifne_ok (show decode cX8_refusalOfSayings 75 = .ok (.ifCond .ne 9, 3) by decide +kernel) (by decide)
  · exact x_aload_n_ok (show decode cX8_refusalOfSayings 78 = .ok (.aload_n 0, 1) by decide +kernel) rfl
  · exact x_iconst_ok (show decode cX8_refusalOfSayings 79 = .ok (.iconst 3, 1) by decide +kernel) (by decide)
  · exact x_callV_ok (ci := 6) rfl (by decide) (sX8_findingOf l) hw_272 hw_269 hw_271 hw_0 hw_61 ⟨by decide, by decide, by decide +kernel⟩ rfl (by decide) (by decide) (show decode cX8_refusalOfSayings 80 = .ok (.invokevirtual 69, 3) by decide +kernel)
  · exact x_iret_ok (show decode cX8_refusalOfSayings 83 = .ok (.ireturn, 1) by decide +kernel)
  · exact x_iinc_ok (show decode cX8_refusalOfSayings 84 = .ok (.iinc 3 1, 3) by decide +kernel) (by decide) (by decide)
  · exact x_goto_ok (show decode cX8_refusalOfSayings 87 = .ok (.goto (-53), 3) by decide +kernel) (by decide)
  · exact x_iconst_ok (show decode cX8_refusalOfSayings 90 = .ok (.iconst 0, 1) by decide +kernel) (by decide)
  · exact x_iret_ok (show decode cX8_refusalOfSayings 91 = .ok (.ireturn, 1) by decide +kernel)
noncomputable def FX8_refusalOfSayings : List Value → xS → Option xR := xden tX8_refusalOfSayings 4 (some .int) 0
theorem sX8_refusalOfSayings (l : Launch) : xSound l yX8_refusalOfSayings cX8_refusalOfSayings 4 (some .int) 3 0 FX8_refusalOfSayings := x_den (by decide) (tX8_refusalOfSayings_ok l)
noncomputable def tX8_eyesSayingAlike : List (Nat × xO) := [(0, x_push (.int 65535) 3), (3, x_iload 0 1), (4, x_ii (fun x y => x <<< (y &&& 31))), (5, x_push (.int 65535) 3), (8, x_ii (fun x y => x &&& y)), (9, x_iret)]
set_option maxRecDepth 100000 in
theorem tX8_eyesSayingAlike_ok (l : Launch) : ∀ q ∈ tX8_eyesSayingAlike, xOK l cX8_eyesSayingAlike RX8 1 1 0 (yX8_eyesSayingAlike.name = "<init>") q.1 q.2 := by
  unfold tX8_eyesSayingAlike
  refine List.forall_mem_cons.mpr ⟨?_, List.forall_mem_cons.mpr ⟨?_, List.forall_mem_cons.mpr ⟨?_, List.forall_mem_cons.mpr ⟨?_, List.forall_mem_cons.mpr ⟨?_, List.forall_mem_cons.mpr ⟨?_, fun _ h => absurd h List.not_mem_nil⟩⟩⟩⟩⟩⟩
  · exact x_ldcw_ok (show decode cX8_eyesSayingAlike 0 = .ok (.ldc_w 337, 3) by decide +kernel) hw_708
  · exact x_iload_n_ok (show decode cX8_eyesSayingAlike 3 = .ok (.iload_n 0, 1) by decide +kernel) rfl
  · exact x_ishl_ok (show decode cX8_eyesSayingAlike 4 = .ok (.ishl, 1) by decide +kernel)
  · exact x_ldcw_ok (show decode cX8_eyesSayingAlike 5 = .ok (.ldc_w 337, 3) by decide +kernel) hw_708
  · exact x_iand_ok (show decode cX8_eyesSayingAlike 8 = .ok (.iand, 1) by decide +kernel)
  · exact x_iret_ok (show decode cX8_eyesSayingAlike 9 = .ok (.ireturn, 1) by decide +kernel)
noncomputable def FX8_eyesSayingAlike : List Value → xS → Option xR := xden tX8_eyesSayingAlike 1 (some .int) 0
theorem sX8_eyesSayingAlike (l : Launch) : xSound l yX8_eyesSayingAlike cX8_eyesSayingAlike 1 (some .int) 1 0 FX8_eyesSayingAlike := x_den (by decide) (tX8_eyesSayingAlike_ok l)
