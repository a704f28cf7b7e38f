noncomputable def tX8_moves : List (Nat × xO) := [(0, x_iload 1 1), (1, x_push (.int (nI 7)) 2), (3, x_call 0 2 FX8_among), (6, x_ifne 11), (9, x_push (.int (-1)) 1), (10, x_iret), (11, x_push (.int (nI 0)) 1), (12, x_istore 2 1), (13, x_push (.int (nI 0)) 1), (14, x_istore 3 1), (15, x_iload 3 1), (16, x_push (.int (nI 216)) 3), (19, x_cmpge 52), (22, x_aload 0 1), (23, x_getR 6 2), (26, x_iload 3 1), (27, x_iload 1 1), (28, x_callV 3 0 3 FX4_ownerOf), (31, x_aload 0 1), (32, x_getR 6 2), (35, x_iload 3 1), (36, x_push (.int (nI 0)) 1), (37, x_callV 3 0 3 FX4_ownerOf), (40, x_cmpeq 46), (43, x_iinc 2 (nI 1)), (46, x_iinc 3 (nI 1)), (49, x_goto 15), (52, x_iload 2 1), (53, x_iret)]
set_option maxRecDepth 100000 in
theorem tX8_moves_ok (l : Launch) : ∀ q ∈ tX8_moves, xOK l cX8_moves RX8 4 7 0 (yX8_moves.name = "<init>") q.1 q.2 := by
  unfold tX8_moves
  refine List.forall_mem_cons.mpr ⟨?_, List.forall_mem_cons.mpr ⟨?_, List.forall_mem_cons.mpr ⟨?_, List.forall_mem_cons.mpr ⟨?_, List.forall_mem_cons.mpr ⟨?_, List.forall_mem_cons.mpr ⟨?_, List.forall_mem_cons.mpr ⟨?_, List.forall_mem_cons.mpr ⟨?_, List.forall_mem_cons.mpr ⟨?_, List.forall_mem_cons.mpr ⟨?_, List.forall_mem_cons.mpr ⟨?_, List.forall_mem_cons.mpr ⟨?_, List.forall_mem_cons.mpr ⟨?_, List.forall_mem_cons.mpr ⟨?_, List.forall_mem_cons.mpr ⟨?_, List.forall_mem_cons.mpr ⟨?_, List.forall_mem_cons.mpr ⟨?_, List.forall_mem_cons.mpr ⟨?_, List.forall_mem_cons.mpr ⟨?_, List.forall_mem_cons.mpr ⟨?_, List.forall_mem_cons.mpr ⟨?_, List.forall_mem_cons.mpr ⟨?_, List.forall_mem_cons.mpr ⟨?_, List.forall_mem_cons.mpr ⟨?_, List.forall_mem_cons.mpr ⟨?_, List.forall_mem_cons.mpr ⟨?_, List.forall_mem_cons.mpr ⟨?_, List.forall_mem_cons.mpr ⟨?_, List.forall_mem_cons.mpr ⟨?_, fun _ h => absurd h List.not_mem_nil⟩⟩⟩⟩⟩⟩⟩⟩⟩⟩⟩⟩⟩⟩⟩⟩⟩⟩⟩⟩⟩⟩⟩⟩⟩⟩⟩⟩⟩
  · exact x_iload_n_ok (show decode cX8_moves 0 = .ok (.iload_n 1, 1) by decide +kernel) rfl
  · exact x_bipush_ok (show decode cX8_moves 1 = .ok (.bipush 7, 2) by decide +kernel) (by decide)
  · exact x_callS_ok (sX8_among l) hw_268 hw_266 hw_267 hw_61 ⟨by decide, by decide, by decide +kernel⟩ (by decide) (by decide) (show decode cX8_moves 3 = .ok (.invokestatic 65, 3) by decide +kernel)
  · exact x_ifne_ok (show decode cX8_moves 6 = .ok (.ifCond .ne 5, 3) by decide +kernel) (by decide)
  · exact x_iconst_ok (show decode cX8_moves 9 = .ok (.iconst (-1), 1) by decide +kernel) (by decide)
  · exact x_iret_ok (show decode cX8_moves 10 = .ok (.ireturn, 1) by decide +kernel)
  · exact x_iconst_ok (show decode cX8_moves 11 = .ok (.iconst 0, 1) by decide +kernel) (by decide)
  · exact x_istore_n_ok (show decode cX8_moves 12 = .ok (.istore_n 2, 1) by decide +kernel) rfl (by decide)
  · exact x_iconst_ok (show decode cX8_moves 13 = .ok (.iconst 0, 1) by decide +kernel) (by decide)
  · exact x_istore_n_ok (show decode cX8_moves 14 = .ok (.istore_n 3, 1) by decide +kernel) rfl (by decide)
  · exact x_iload_n_ok (show decode cX8_moves 15 = .ok (.iload_n 3, 1) by decide +kernel) rfl
  · exact x_sipush_ok (show decode cX8_moves 16 = .ok (.sipush 216, 3) by decide +kernel) (by decide)
  · exact x_cmpge_ok (show decode cX8_moves 19 = .ok (.if_icmp .ge 33, 3) by decide +kernel) (by decide)
  · exact x_aload_n_ok (show decode cX8_moves 22 = .ok (.aload_n 0, 1) by decide +kernel) rfl
  · exact x_getR_ok (ci := 6) (k := 2) rfl (by decide) (by decide) hw_224 (show decode cX8_moves 23 = .ok (.getfield 26, 3) by decide +kernel)
  · exact x_iload_n_ok (show decode cX8_moves 26 = .ok (.iload_n 3, 1) by decide +kernel) rfl
  · exact x_iload_n_ok (show decode cX8_moves 27 = .ok (.iload_n 1, 1) by decide +kernel) rfl
  · exact x_callV_ok (ci := 3) rfl (by decide) (sX4_ownerOf l) hw_735 hw_732 hw_733 hw_734 hw_64 ⟨by decide, by decide, by decide +kernel⟩ rfl (by decide) (by decide) (show decode cX8_moves 28 = .ok (.invokevirtual 259, 3) by decide +kernel)
  · exact x_aload_n_ok (show decode cX8_moves 31 = .ok (.aload_n 0, 1) by decide +kernel) rfl
  · exact x_getR_ok (ci := 6) (k := 2) rfl (by decide) (by decide) hw_224 (show decode cX8_moves 32 = .ok (.getfield 26, 3) by decide +kernel)
  · exact x_iload_n_ok (show decode cX8_moves 35 = .ok (.iload_n 3, 1) by decide +kernel) rfl
  · exact x_iconst_ok (show decode cX8_moves 36 = .ok (.iconst 0, 1) by decide +kernel) (by decide)
  · exact x_callV_ok (ci := 3) rfl (by decide) (sX4_ownerOf l) hw_735 hw_732 hw_733 hw_734 hw_64 ⟨by decide, by decide, by decide +kernel⟩ rfl (by decide) (by decide) (show decode cX8_moves 37 = .ok (.invokevirtual 259, 3) by decide +kernel)
  · exact x_cmpeq_ok (show decode cX8_moves 40 = .ok (.if_icmp .eq 6, 3) by decide +kernel) (by decide)
  · exact x_iinc_ok (show decode cX8_moves 43 = .ok (.iinc 2 1, 3) by decide +kernel) (by decide) (by decide)
  · exact x_iinc_ok (show decode cX8_moves 46 = .ok (.iinc 3 1, 3) by decide +kernel) (by decide) (by decide)
  · exact x_goto_ok (show decode cX8_moves 49 = .ok (.goto (-34), 3) by decide +kernel) (by decide)
  · exact x_iload_n_ok (show decode cX8_moves 52 = .ok (.iload_n 2, 1) by decide +kernel) rfl
  · exact x_iret_ok (show decode cX8_moves 53 = .ok (.ireturn, 1) by decide +kernel)
noncomputable def FX8_moves : List Value → xS → Option xR := xden tX8_moves 4 (some .int) 0
theorem sX8_moves (l : Launch) : xSound l yX8_moves cX8_moves 4 (some .int) 7 0 FX8_moves := x_den (by decide) (tX8_moves_ok l)
noncomputable def tX9_moves : List (Nat × xO) := [(0, x_iload 1 1), (1, x_i2l), (2, x_push (.long 0) 1), (3, x_push (.long 6) 3), (6, x_call 0 3 FX9_in), (9, x_ifne 14), (12, x_push (.int (-1)) 1), (13, x_iret), (14, x_push (.int (nI 0)) 1), (15, x_istore 2 1), (16, x_iload 2 1), (17, x_push (.int (nI 216)) 3), (20, x_cmpge 40), (23, x_aload 0 1), (24, x_getR 7 20), (27, x_iload 2 1), (28, x_aload 0 1), (29, x_iload 2 1), (30, x_callV 7 0 2 FX9_ownerOf), (33, x_iast), (34, x_iinc 2 (nI 1)), (37, x_goto 16), (40, x_aload 0 1), (41, x_iload 1 1), (42, x_putI 7 15), (45, x_push (.int (nI 0)) 1), (46, x_istore 2 1), (47, x_push (.int (nI 0)) 1), (48, x_istore 3 1), (49, x_iload 3 1), (50, x_push (.int (nI 216)) 3), (53, x_cmpge 84), (56, x_iload 2 1), (57, x_aload 0 1), (58, x_iload 3 1), (59, x_callV 7 0 2 FX9_ownerOf), (62, x_aload 0 1), (63, x_getR 7 20), (66, x_iload 3 1), (67, x_iald), (68, x_cmpne 75), (71, x_push (.int (nI 0)) 1), (72, x_goto 76), (75, x_push (.int (nI 1)) 1), (76, x_ii (fun x y => x + y)), (77, x_istore 2 1), (78, x_iinc 3 (nI 1)), (81, x_goto 49), (84, x_aload 0 1), (85, x_push (.int (nI 0)) 1), (86, x_putI 7 15), (89, x_iload 2 1), (90, x_iret)]
set_option maxRecDepth 100000 in
theorem tX9_moves_ok (l : Launch) : ∀ q ∈ tX9_moves, xOK l cX9_moves RX9 4 8 0 (yX9_moves.name = "<init>") q.1 q.2 := by
  unfold tX9_moves
  refine List.forall_mem_cons.mpr ⟨?_, List.forall_mem_cons.mpr ⟨?_, List.forall_mem_cons.mpr ⟨?_, List.forall_mem_cons.mpr ⟨?_, List.forall_mem_cons.mpr ⟨?_, List.forall_mem_cons.mpr ⟨?_, List.forall_mem_cons.mpr ⟨?_, List.forall_mem_cons.mpr ⟨?_, List.forall_mem_cons.mpr ⟨?_, List.forall_mem_cons.mpr ⟨?_, List.forall_mem_cons.mpr ⟨?_, List.forall_mem_cons.mpr ⟨?_, List.forall_mem_cons.mpr ⟨?_, List.forall_mem_cons.mpr ⟨?_, List.forall_mem_cons.mpr ⟨?_, List.forall_mem_cons.mpr ⟨?_, List.forall_mem_cons.mpr ⟨?_, List.forall_mem_cons.mpr ⟨?_, List.forall_mem_cons.mpr ⟨?_, List.forall_mem_cons.mpr ⟨?_, List.forall_mem_cons.mpr ⟨?_, List.forall_mem_cons.mpr ⟨?_, List.forall_mem_cons.mpr ⟨?_, List.forall_mem_cons.mpr ⟨?_, List.forall_mem_cons.mpr ⟨?_, List.forall_mem_cons.mpr ⟨?_, List.forall_mem_cons.mpr ⟨?_, List.forall_mem_cons.mpr ⟨?_, List.forall_mem_cons.mpr ⟨?_, List.forall_mem_cons.mpr ⟨?_, List.forall_mem_cons.mpr ⟨?_, List.forall_mem_cons.mpr ⟨?_, List.forall_mem_cons.mpr ⟨?_, List.forall_mem_cons.mpr ⟨?_, List.forall_mem_cons.mpr ⟨?_, List.forall_mem_cons.mpr ⟨?_, List.forall_mem_cons.mpr ⟨?_, List.forall_mem_cons.mpr ⟨?_, List.forall_mem_cons.mpr ⟨?_, List.forall_mem_cons.mpr ⟨?_, List.forall_mem_cons.mpr ⟨?_, List.forall_mem_cons.mpr ⟨?_, List.forall_mem_cons.mpr ⟨?_, List.forall_mem_cons.mpr ⟨?_, List.forall_mem_cons.mpr ⟨?_, List.forall_mem_cons.mpr ⟨?_, List.forall_mem_cons.mpr ⟨?_, List.forall_mem_cons.mpr ⟨?_, List.forall_mem_cons.mpr ⟨?_, List.forall_mem_cons.mpr ⟨?_, List.forall_mem_cons.mpr ⟨?_, List.forall_mem_cons.mpr ⟨?_, List.forall_mem_cons.mpr ⟨?_, fun _ h => absurd h List.not_mem_nil⟩⟩⟩⟩⟩⟩⟩⟩⟩⟩⟩⟩⟩⟩⟩⟩⟩⟩⟩⟩⟩⟩⟩⟩⟩⟩⟩⟩⟩⟩⟩⟩⟩⟩⟩⟩⟩⟩⟩⟩⟩⟩⟩⟩⟩⟩⟩⟩⟩⟩⟩⟩⟩
  · exact x_iload_n_ok (show decode cX9_moves 0 = .ok (.iload_n 1, 1) by decide +kernel) rfl
  · exact x_i2l_ok (show decode cX9_moves 1 = .ok (.i2l, 1) by decide +kernel)
  · exact x_lconst_ok (show decode cX9_moves 2 = .ok (.lconst 0, 1) by decide +kernel) rfl
  · exact x_ldc2_ok (show decode cX9_moves 3 = .ok (.ldc2_w 173, 3) by decide +kernel) hw_1011
  · exact x_callS_ok (sX9_in l) hw_918 hw_916 hw_917 hw_68 ⟨by decide, by decide, by decide +kernel⟩ (by decide) (by decide) (show decode cX9_moves 6 = .ok (.invokestatic 60, 3) by decide +kernel)
  · exact x_ifne_ok (show decode cX9_moves 9 = .ok (.ifCond .ne 5, 3) by decide +kernel) (by decide)
  · exact x_iconst_ok (show decode cX9_moves 12 = .ok (.iconst (-1), 1) by decide +kernel) (by decide)
  · exact x_iret_ok (show decode cX9_moves 13 = .ok (.ireturn, 1) by decide +kernel)
  · exact x_iconst_ok (show decode cX9_moves 14 = .ok (.iconst 0, 1) by decide +kernel) (by decide)
  · exact x_istore_n_ok (show decode cX9_moves 15 = .ok (.istore_n 2, 1) by decide +kernel) rfl (by decide)
  · exact x_iload_n_ok (show decode cX9_moves 16 = .ok (.iload_n 2, 1) by decide +kernel) rfl
  · exact x_sipush_ok (show decode cX9_moves 17 = .ok (.sipush 216, 3) by decide +kernel) (by decide)
  · exact x_cmpge_ok (show decode cX9_moves 20 = .ok (.if_icmp .ge 20, 3) by decide +kernel) (by decide)
  · exact x_aload_n_ok (show decode cX9_moves 23 = .ok (.aload_n 0, 1) by decide +kernel) rfl
  · exact x_getR_ok (ci := 7) (k := 20) rfl (by decide) (by decide) hw_864 (show decode cX9_moves 24 = .ok (.getfield 48, 3) by decide +kernel)
  · exact x_iload_n_ok (show decode cX9_moves 27 = .ok (.iload_n 2, 1) by decide +kernel) rfl
  · exact x_aload_n_ok (show decode cX9_moves 28 = .ok (.aload_n 0, 1) by decide +kernel) rfl
  · exact x_iload_n_ok (show decode cX9_moves 29 = .ok (.iload_n 2, 1) by decide +kernel) rfl
  · exact x_callV_ok (ci := 7) rfl (by decide) (sX9_ownerOf l) hw_1179 hw_1176 hw_1178 hw_47 hw_68 ⟨by decide, by decide, by decide +kernel⟩ rfl (by decide) (by decide) (show decode cX9_moves 30 = .ok (.invokevirtual 230, 3) by decide +kernel)
  · exact x_iast_ok (show decode cX9_moves 33 = .ok (.iastore, 1) by decide +kernel)
  · exact x_iinc_ok (show decode cX9_moves 34 = .ok (.iinc 2 1, 3) by decide +kernel) (by decide) (by decide)
  · exact x_goto_ok (show decode cX9_moves 37 = .ok (.goto (-21), 3) by decide +kernel) (by decide)
  · exact x_aload_n_ok (show decode cX9_moves 40 = .ok (.aload_n 0, 1) by decide +kernel) rfl
  · exact x_iload_n_ok (show decode cX9_moves 41 = .ok (.iload_n 1, 1) by decide +kernel) rfl
  · exact x_putI_ok (ci := 7) (k := 15) rfl (by decide) (by decide) rfl hw_859 rfl (show decode cX9_moves 42 = .ok (.putfield 131, 3) by decide +kernel)
  · exact x_iconst_ok (show decode cX9_moves 45 = .ok (.iconst 0, 1) by decide +kernel) (by decide)
  · exact x_istore_n_ok (show decode cX9_moves 46 = .ok (.istore_n 2, 1) by decide +kernel) rfl (by decide)
  · exact x_iconst_ok (show decode cX9_moves 47 = .ok (.iconst 0, 1) by decide +kernel) (by decide)
  · exact x_istore_n_ok (show decode cX9_moves 48 = .ok (.istore_n 3, 1) by decide +kernel) rfl (by decide)
  · exact x_iload_n_ok (show decode cX9_moves 49 = .ok (.iload_n 3, 1) by decide +kernel) rfl
  · exact x_sipush_ok (show decode cX9_moves 50 = .ok (.sipush 216, 3) by decide +kernel) (by decide)
  · exact x_cmpge_ok (show decode cX9_moves 53 = .ok (.if_icmp .ge 31, 3) by decide +kernel) (by decide)
  · exact x_iload_n_ok (show decode cX9_moves 56 = .ok (.iload_n 2, 1) by decide +kernel) rfl
  · exact x_aload_n_ok (show decode cX9_moves 57 = .ok (.aload_n 0, 1) by decide +kernel) rfl
  · exact x_iload_n_ok (show decode cX9_moves 58 = .ok (.iload_n 3, 1) by decide +kernel) rfl
  · exact x_callV_ok (ci := 7) rfl (by decide) (sX9_ownerOf l) hw_1179 hw_1176 hw_1178 hw_47 hw_68 ⟨by decide, by decide, by decide +kernel⟩ rfl (by decide) (by decide) (show decode cX9_moves 59 = .ok (.invokevirtual 230, 3) by decide +kernel)
  · exact x_aload_n_ok (show decode cX9_moves 62 = .ok (.aload_n 0, 1) by decide +kernel) rfl
  · exact x_getR_ok (ci := 7) (k := 20) rfl (by decide) (by decide) hw_864 (show decode cX9_moves 63 = .ok (.getfield 48, 3) by decide +kernel)
  · exact x_iload_n_ok (show decode cX9_moves 66 = .ok (.iload_n 3, 1) by decide +kernel) rfl
  · exact x_iald_ok (show decode cX9_moves 67 = .ok (.iaload, 1) by decide +kernel)
  · exact x_cmpne_ok (show decode cX9_moves 68 = .ok (.if_icmp .ne 7, 3) by decide +kernel) (by decide)
  · exact x_iconst_ok (show decode cX9_moves 71 = .ok (.iconst 0, 1) by decide +kernel) (by decide)
  · exact x_goto_ok (show decode cX9_moves 72 = .ok (.goto 4, 3) by decide +kernel) (by decide)
  · exact x_iconst_ok (show decode cX9_moves 75 = .ok (.iconst 1, 1) by decide +kernel) (by decide)
  · exact x_iadd_ok (show decode cX9_moves 76 = .ok (.iadd, 1) by decide +kernel)
  · exact x_istore_n_ok (show decode cX9_moves 77 = .ok (.istore_n 2, 1) by decide +kernel) rfl (by decide)
  · exact x_iinc_ok (show decode cX9_moves 78 = .ok (.iinc 3 1, 3) by decide +kernel) (by decide) (by decide)
  · exact x_goto_ok (show decode cX9_moves 81 = .ok (.goto (-32), 3) by decide +kernel) (by decide)
  · exact x_aload_n_ok (show decode cX9_moves 84 = .ok (.aload_n 0, 1) by decide +kernel) rfl
  · exact x_iconst_ok (show decode cX9_moves 85 = .ok (.iconst 0, 1) by decide +kernel) (by decide)
  · exact x_putI_ok (ci := 7) (k := 15) rfl (by decide) (by decide) rfl hw_859 rfl (show decode cX9_moves 86 = .ok (.putfield 131, 3) by decide +kernel)
  · exact x_iload_n_ok (show decode cX9_moves 89 = .ok (.iload_n 2, 1) by decide +kernel) rfl
  · exact x_iret_ok (show decode cX9_moves 90 = .ok (.ireturn, 1) by decide +kernel)
noncomputable def FX9_moves : List Value → xS → Option xR := xden tX9_moves 4 (some .int) 0
theorem sX9_moves (l : Launch) : xSound l yX9_moves cX9_moves 4 (some .int) 8 0 FX9_moves := x_den (by decide) (tX9_moves_ok l)
noncomputable def tX8_was : List (Nat × xO) := [(0, x_iload 1 1), (1, x_push (.int (nI 216)) 3), (4, x_call 0 2 FX8_among), (7, x_ifeq 19), (10, x_iload 2 1), (11, x_push (.int (nI 10)) 2), (13, x_call 0 2 FX8_among), (16, x_ifne 21), (19, x_push (.int (-1)) 1), (20, x_iret), (21, x_push (.int (nI 0)) 1), (22, x_istore 3 1), (23, x_iload 3 1), (24, x_push (.int (nI 216)) 3), (27, x_cmpge 56), (30, x_aload 0 1), (31, x_getR 6 7), (34, x_iload 3 1), (35, x_iload 3 1), (36, x_iload 2 1), (37, x_call 0 2 FX6_faded), (40, x_iload 1 1), (41, x_cmpne 48), (44, x_push (.int (nI 1)) 1), (45, x_goto 49), (48, x_push (.int (nI 0)) 1), (49, x_bastZ), (50, x_iinc 3 (nI 1)), (53, x_goto 23), (56, x_aload 0 1), (57, x_callV 6 0 1 FX8_tellChosen), (60, x_istore 3 1), (61, x_aload 0 1), (62, x_getI 6 10), (65, x_istore 4 2), (67, x_aload 0 1), (68, x_iload 3 1), (69, x_putI 6 10), (72, x_iload 4 2), (74, x_iret)]
set_option maxRecDepth 100000 in
theorem tX8_was_ok (l : Launch) : ∀ q ∈ tX8_was, xOK l cX8_was RX8 5 3 0 (yX8_was.name = "<init>") q.1 q.2 := by
  unfold tX8_was
  refine List.forall_mem_cons.mpr ⟨?_, List.forall_mem_cons.mpr ⟨?_, List.forall_mem_cons.mpr ⟨?_, List.forall_mem_cons.mpr ⟨?_, List.forall_mem_cons.mpr ⟨?_, List.forall_mem_cons.mpr ⟨?_, List.forall_mem_cons.mpr ⟨?_, List.forall_mem_cons.mpr ⟨?_, List.forall_mem_cons.mpr ⟨?_, List.forall_mem_cons.mpr ⟨?_, List.forall_mem_cons.mpr ⟨?_, List.forall_mem_cons.mpr ⟨?_, List.forall_mem_cons.mpr ⟨?_, List.forall_mem_cons.mpr ⟨?_, List.forall_mem_cons.mpr ⟨?_, List.forall_mem_cons.mpr ⟨?_, List.forall_mem_cons.mpr ⟨?_, List.forall_mem_cons.mpr ⟨?_, List.forall_mem_cons.mpr ⟨?_, List.forall_mem_cons.mpr ⟨?_, List.forall_mem_cons.mpr ⟨?_, List.forall_mem_cons.mpr ⟨?_, List.forall_mem_cons.mpr ⟨?_, List.forall_mem_cons.mpr ⟨?_, List.forall_mem_cons.mpr ⟨?_, List.forall_mem_cons.mpr ⟨?_, List.forall_mem_cons.mpr ⟨?_, List.forall_mem_cons.mpr ⟨?_, List.forall_mem_cons.mpr ⟨?_, List.forall_mem_cons.mpr ⟨?_, List.forall_mem_cons.mpr ⟨?_, List.forall_mem_cons.mpr ⟨?_, List.forall_mem_cons.mpr ⟨?_, List.forall_mem_cons.mpr ⟨?_, List.forall_mem_cons.mpr ⟨?_, List.forall_mem_cons.mpr ⟨?_, List.forall_mem_cons.mpr ⟨?_, List.forall_mem_cons.mpr ⟨?_, List.forall_mem_cons.mpr ⟨?_, List.forall_mem_cons.mpr ⟨?_, fun _ h => absurd h List.not_mem_nil⟩⟩⟩⟩⟩⟩⟩⟩⟩⟩⟩⟩⟩⟩⟩⟩⟩⟩⟩⟩⟩⟩⟩⟩⟩⟩⟩⟩⟩⟩⟩⟩⟩⟩⟩⟩⟩⟩⟩⟩
  · exact x_iload_n_ok (show decode cX8_was 0 = .ok (.iload_n 1, 1) by decide +kernel) rfl
  · exact x_sipush_ok (show decode cX8_was 1 = .ok (.sipush 216, 3) by decide +kernel) (by decide)
  · exact x_callS_ok (sX8_among l) hw_268 hw_266 hw_267 hw_61 ⟨by decide, by decide, by decide +kernel⟩ (by decide) (by decide) (show decode cX8_was 4 = .ok (.invokestatic 65, 3) by decide +kernel)
  · exact x_ifeq_ok (show decode cX8_was 7 = .ok (.ifCond .eq 12, 3) by decide +kernel) (by decide)
  · exact x_iload_n_ok (show decode cX8_was 10 = .ok (.iload_n 2, 1) by decide +kernel) rfl
  · exact x_bipush_ok (show decode cX8_was 11 = .ok (.bipush 10, 2) by decide +kernel) (by decide)
  · exact x_callS_ok (sX8_among l) hw_268 hw_266 hw_267 hw_61 ⟨by decide, by decide, by decide +kernel⟩ (by decide) (by decide) (show decode cX8_was 13 = .ok (.invokestatic 65, 3) by decide +kernel)
  · exact x_ifne_ok (show decode cX8_was 16 = .ok (.ifCond .ne 5, 3) by decide +kernel) (by decide)
  · exact x_iconst_ok (show decode cX8_was 19 = .ok (.iconst (-1), 1) by decide +kernel) (by decide)
  · exact x_iret_ok (show decode cX8_was 20 = .ok (.ireturn, 1) by decide +kernel)
  · exact x_iconst_ok (show decode cX8_was 21 = .ok (.iconst 0, 1) by decide +kernel) (by decide)
  · exact x_istore_n_ok (show decode cX8_was 22 = .ok (.istore_n 3, 1) by decide +kernel) rfl (by decide)
  · exact x_iload_n_ok (show decode cX8_was 23 = .ok (.iload_n 3, 1) by decide +kernel) rfl
  · exact x_sipush_ok (show decode cX8_was 24 = .ok (.sipush 216, 3) by decide +kernel) (by decide)
  · exact x_cmpge_ok (show decode cX8_was 27 = .ok (.if_icmp .ge 29, 3) by decide +kernel) (by decide)
  · exact x_aload_n_ok (show decode cX8_was 30 = .ok (.aload_n 0, 1) by decide +kernel) rfl
  · exact x_getR_ok (ci := 6) (k := 7) rfl (by decide) (by decide) hw_229 (show decode cX8_was 31 = .ok (.getfield 54, 3) by decide +kernel)
  · exact x_iload_n_ok (show decode cX8_was 34 = .ok (.iload_n 3, 1) by decide +kernel) rfl
  · exact x_iload_n_ok (show decode cX8_was 35 = .ok (.iload_n 3, 1) by decide +kernel) rfl
  · exact x_iload_n_ok (show decode cX8_was 36 = .ok (.iload_n 2, 1) by decide +kernel) rfl
  · exact x_callS_ok (sX6_faded l) hw_456 hw_744 hw_455 hw_75 ⟨by decide, by decide, by decide +kernel⟩ (by decide) (by decide) (show decode cX8_was 37 = .ok (.invokestatic 265, 3) by decide +kernel)
  · exact x_iload_n_ok (show decode cX8_was 40 = .ok (.iload_n 1, 1) by decide +kernel) rfl
  · exact x_cmpne_ok (show decode cX8_was 41 = .ok (.if_icmp .ne 7, 3) by decide +kernel) (by decide)
  · exact x_iconst_ok (show decode cX8_was 44 = .ok (.iconst 1, 1) by decide +kernel) (by decide)
  · exact x_goto_ok (show decode cX8_was 45 = .ok (.goto 4, 3) by decide +kernel) (by decide)
  · exact x_iconst_ok (show decode cX8_was 48 = .ok (.iconst 0, 1) by decide +kernel) (by decide)
  · exact x_bastZ_ok (show decode cX8_was 49 = .ok (.bastore, 1) by decide +kernel)
  · exact x_iinc_ok (show decode cX8_was 50 = .ok (.iinc 3 1, 3) by decide +kernel) (by decide) (by decide)
  · exact x_goto_ok (show decode cX8_was 53 = .ok (.goto (-30), 3) by decide +kernel) (by decide)
  · exact x_aload_n_ok (show decode cX8_was 56 = .ok (.aload_n 0, 1) by decide +kernel) rfl
  · exact x_callV_ok (ci := 6) rfl (by decide) (sX8_tellChosen l) hw_611 hw_608 hw_610 hw_8 hw_61 ⟨by decide, by decide, by decide +kernel⟩ rfl (by decide) (by decide) (show decode cX8_was 57 = .ok (.invokevirtual 201, 3) by decide +kernel)
  · exact x_istore_n_ok (show decode cX8_was 60 = .ok (.istore_n 3, 1) by decide +kernel) rfl (by decide)
  · exact x_aload_n_ok (show decode cX8_was 61 = .ok (.aload_n 0, 1) by decide +kernel) rfl
  · exact x_getI_ok (ci := 6) (k := 10) rfl (by decide) (by decide) hw_232 (show decode cX8_was 62 = .ok (.getfield 84, 3) by decide +kernel)
  · exact x_istore_ok (show decode cX8_was 65 = .ok (.istore 4, 2) by decide +kernel) (by decide)
  · exact x_aload_n_ok (show decode cX8_was 67 = .ok (.aload_n 0, 1) by decide +kernel) rfl
  · exact x_iload_n_ok (show decode cX8_was 68 = .ok (.iload_n 3, 1) by decide +kernel) rfl
  · exact x_putI_ok (ci := 6) (k := 10) rfl (by decide) (by decide) rfl hw_232 rfl (show decode cX8_was 69 = .ok (.putfield 84, 3) by decide +kernel)
  · exact x_iload_ok (show decode cX8_was 72 = .ok (.iload 4, 2) by decide +kernel)
  · exact x_iret_ok (show decode cX8_was 74 = .ok (.ireturn, 1) by decide +kernel)
noncomputable def FX8_was : List Value → xS → Option xR := xden tX8_was 5 (some .int) 0
theorem sX8_was (l : Launch) : xSound l yX8_was cX8_was 5 (some .int) 3 0 FX8_was := x_den (by decide) (tX8_was_ok l)
noncomputable def tX9_was : List (Nat × xO) := [(0, x_iload 1 1), (1, x_call 0 1 FX9_isShade), (4, x_ifeq 19), (7, x_iload 2 1), (8, x_i2l), (9, x_push (.long 0) 1), (10, x_push (.long 9) 3), (13, x_call 0 3 FX9_in), (16, x_ifne 21), (19, x_push (.int (-1)) 1), (20, x_iret), (21, x_aload 0 1), (22, x_push (.int (-9)) 2), (24, x_putI 7 5), (27, x_push (.int (nI 0)) 1), (28, x_istore 3 1), (29, x_push (.int (nI 5)) 1), (30, x_istore 4 2), (32, x_iload 4 2), (34, x_iflt 114), (37, x_iload 4 2), (39, x_iload 2 1), (40, x_cmpge 47), (43, x_push (.int (nI 0)) 1), (44, x_goto 51), (47, x_iload 4 2), (49, x_iload 2 1), (50, x_ii (fun x y => x - y)), (51, x_istore 5 2), (53, x_iload 5 2), (55, x_iload 1 1), (56, x_push (.int (nI 36)) 2), (58, x_idiv), (59, x_cmpne 66), (62, x_push (.int (nI 1)) 1), (63, x_goto 67), (66, x_push (.int (nI 0)) 1), (67, x_istore 6 2), (69, x_aload 0 1), (70, x_iload 6 2), (72, x_ifeq 88), (75, x_push (.int (nI 36)) 2), (77, x_iload 4 2), (79, x_ii (fun x y => x * y)), (80, x_iload 1 1), (81, x_push (.int (nI 36)) 2), (83, x_irem), (84, x_ii (fun x y => x + y)), (85, x_goto 92), (88, x_aload 0 1), (89, x_getI 7 5), (92, x_putI 7 5), (95, x_iload 3 1), (96, x_iload 6 2), (98, x_ifeq 105), (101, x_push (.int (nI 1)) 1), (102, x_goto 106), (105, x_push (.int (nI 0)) 1), (106, x_ii (fun x y => x + y)), (107, x_istore 3 1), (108, x_iinc 4 (-1)), (111, x_goto 32), (114, x_iload 3 1), (115, x_iret)]
set_option maxRecDepth 100000 in
theorem tX9_was_ok (l : Launch) : ∀ q ∈ tX9_was, xOK l cX9_was RX9 7 3 0 (yX9_was.name = "<init>") q.1 q.2 := by
  unfold tX9_was
  refine List.forall_mem_cons.mpr ⟨?_, List.forall_mem_cons.mpr ⟨?_, List.forall_mem_cons.mpr ⟨?_, List.forall_mem_cons.mpr ⟨?_, List.forall_mem_cons.mpr ⟨?_, List.forall_mem_cons.mpr ⟨?_, List.forall_mem_cons.mpr ⟨?_, List.forall_mem_cons.mpr ⟨?_, List.forall_mem_cons.mpr ⟨?_, List.forall_mem_cons.mpr ⟨?_, List.forall_mem_cons.mpr ⟨?_, List.forall_mem_cons.mpr ⟨?_, List.forall_mem_cons.mpr ⟨?_, List.forall_mem_cons.mpr ⟨?_, List.forall_mem_cons.mpr ⟨?_, List.forall_mem_cons.mpr ⟨?_, List.forall_mem_cons.mpr ⟨?_, List.forall_mem_cons.mpr ⟨?_, List.forall_mem_cons.mpr ⟨?_, List.forall_mem_cons.mpr ⟨?_, List.forall_mem_cons.mpr ⟨?_, List.forall_mem_cons.mpr ⟨?_, List.forall_mem_cons.mpr ⟨?_, List.forall_mem_cons.mpr ⟨?_, List.forall_mem_cons.mpr ⟨?_, List.forall_mem_cons.mpr ⟨?_, List.forall_mem_cons.mpr ⟨?_, List.forall_mem_cons.mpr ⟨?_, List.forall_mem_cons.mpr ⟨?_, List.forall_mem_cons.mpr ⟨?_, List.forall_mem_cons.mpr ⟨?_, List.forall_mem_cons.mpr ⟨?_, List.forall_mem_cons.mpr ⟨?_, List.forall_mem_cons.mpr ⟨?_, List.forall_mem_cons.mpr ⟨?_, List.forall_mem_cons.mpr ⟨?_, List.forall_mem_cons.mpr ⟨?_, List.forall_mem_cons.mpr ⟨?_, List.forall_mem_cons.mpr ⟨?_, List.forall_mem_cons.mpr ⟨?_, List.forall_mem_cons.mpr ⟨?_, List.forall_mem_cons.mpr ⟨?_, List.forall_mem_cons.mpr ⟨?_, List.forall_mem_cons.mpr ⟨?_, List.forall_mem_cons.mpr ⟨?_, List.forall_mem_cons.mpr ⟨?_, List.forall_mem_cons.mpr ⟨?_, List.forall_mem_cons.mpr ⟨?_, List.forall_mem_cons.mpr ⟨?_, List.forall_mem_cons.mpr ⟨?_, List.forall_mem_cons.mpr ⟨?_, List.forall_mem_cons.mpr ⟨?_, List.forall_mem_cons.mpr ⟨?_, List.forall_mem_cons.mpr ⟨?_, List.forall_mem_cons.mpr ⟨?_, List.forall_mem_cons.mpr ⟨?_, List.forall_mem_cons.mpr ⟨?_, List.forall_mem_cons.mpr ⟨?_, List.forall_mem_cons.mpr ⟨?_, List.forall_mem_cons.mpr ⟨?_, List.forall_mem_cons.mpr ⟨?_, List.forall_mem_cons.mpr ⟨?_, List.forall_mem_cons.mpr ⟨?_, List.forall_mem_cons.mpr ⟨?_, fun _ h => absurd h List.not_mem_nil⟩⟩⟩⟩⟩⟩⟩⟩⟩⟩⟩⟩⟩⟩⟩⟩⟩⟩⟩⟩⟩⟩⟩⟩⟩⟩⟩⟩⟩⟩⟩⟩⟩⟩⟩⟩⟩⟩⟩⟩⟩⟩⟩⟩⟩⟩⟩⟩⟩⟩⟩⟩⟩⟩⟩⟩⟩⟩⟩⟩⟩⟩⟩⟩
  · exact x_iload_n_ok (show decode cX9_was 0 = .ok (.iload_n 1, 1) by decide +kernel) rfl
  · exact x_callS_ok (sX9_isShade l) hw_1095 hw_1093 hw_1094 hw_68 ⟨by decide, by decide, by decide +kernel⟩ (by decide) (by decide) (show decode cX9_was 1 = .ok (.invokestatic 198, 3) by decide +kernel)
  · exact x_ifeq_ok (show decode cX9_was 4 = .ok (.ifCond .eq 15, 3) by decide +kernel) (by decide)
  · exact x_iload_n_ok (show decode cX9_was 7 = .ok (.iload_n 2, 1) by decide +kernel) rfl
  · exact x_i2l_ok (show decode cX9_was 8 = .ok (.i2l, 1) by decide +kernel)
  · exact x_lconst_ok (show decode cX9_was 9 = .ok (.lconst 0, 1) by decide +kernel) rfl
  · exact x_ldc2_ok (show decode cX9_was 10 = .ok (.ldc2_w 193, 3) by decide +kernel) hw_1085
  · exact x_callS_ok (sX9_in l) hw_918 hw_916 hw_917 hw_68 ⟨by decide, by decide, by decide +kernel⟩ (by decide) (by decide) (show decode cX9_was 13 = .ok (.invokestatic 60, 3) by decide +kernel)
  · exact x_ifne_ok (show decode cX9_was 16 = .ok (.ifCond .ne 5, 3) by decide +kernel) (by decide)
  · exact x_iconst_ok (show decode cX9_was 19 = .ok (.iconst (-1), 1) by decide +kernel) (by decide)
  · exact x_iret_ok (show decode cX9_was 20 = .ok (.ireturn, 1) by decide +kernel)
  · exact x_aload_n_ok (show decode cX9_was 21 = .ok (.aload_n 0, 1) by decide +kernel) rfl
  · exact x_bipush_ok (show decode cX9_was 22 = .ok (.bipush (-9), 2) by decide +kernel) (by decide)
  · exact x_putI_ok (ci := 7) (k := 5) rfl (by decide) (by decide) rfl hw_849 rfl (show decode cX9_was 24 = .ok (.putfield 55, 3) by decide +kernel)
  · exact x_iconst_ok (show decode cX9_was 27 = .ok (.iconst 0, 1) by decide +kernel) (by decide)
  · exact x_istore_n_ok (show decode cX9_was 28 = .ok (.istore_n 3, 1) by decide +kernel) rfl (by decide)
  · exact x_iconst_ok (show decode cX9_was 29 = .ok (.iconst 5, 1) by decide +kernel) (by decide)
  · exact x_istore_ok (show decode cX9_was 30 = .ok (.istore 4, 2) by decide +kernel) (by decide)
  · exact x_iload_ok (show decode cX9_was 32 = .ok (.iload 4, 2) by decide +kernel)
  · exact x_iflt_ok (show decode cX9_was 34 = .ok (.ifCond .lt 80, 3) by decide +kernel) (by decide)
  · exact x_iload_ok (show decode cX9_was 37 = .ok (.iload 4, 2) by decide +kernel)
  · exact x_iload_n_ok (show decode cX9_was 39 = .ok (.iload_n 2, 1) by decide +kernel) rfl
  · exact x_cmpge_ok (show decode cX9_was 40 = .ok (.if_icmp .ge 7, 3) by decide +kernel) (by decide)
  · exact x_iconst_ok (show decode cX9_was 43 = .ok (.iconst 0, 1) by decide +kernel) (by decide)
  · exact x_goto_ok (show decode cX9_was 44 = .ok (.goto 7, 3) by decide +kernel) (by decide)
  · exact x_iload_ok (show decode cX9_was 47 = .ok (.iload 4, 2) by decide +kernel)
  · exact x_iload_n_ok (show decode cX9_was 49 = .ok (.iload_n 2, 1) by decide +kernel) rfl
  · exact x_isub_ok (show decode cX9_was 50 = .ok (.isub, 1) by decide +kernel)
  · exact x_istore_ok (show decode cX9_was 51 = .ok (.istore 5, 2) by decide +kernel) (by decide)
  · exact x_iload_ok (show decode cX9_was 53 = .ok (.iload 5, 2) by decide +kernel)
  · exact x_iload_n_ok (show decode cX9_was 55 = .ok (.iload_n 1, 1) by decide +kernel) rfl
  · exact x_bipush_ok (show decode cX9_was 56 = .ok (.bipush 36, 2) by decide +kernel) (by decide)
  · exact x_idiv_ok (show decode cX9_was 58 = .ok (.idiv, 1) by decide +kernel)
  · exact x_cmpne_ok (show decode cX9_was 59 = .ok (.if_icmp .ne 7, 3) by decide +kernel) (by decide)
  · exact x_iconst_ok (show decode cX9_was 62 = .ok (.iconst 1, 1) by decide +kernel) (by decide)
  · exact x_goto_ok (show decode cX9_was 63 = .ok (.goto 4, 3) by decide +kernel) (by decide)
  · exact x_iconst_ok (show decode cX9_was 66 = .ok (.iconst 0, 1) by decide +kernel) (by decide)
  · exact x_istore_ok (show decode cX9_was 67 = .ok (.istore 6, 2) by decide +kernel) (by decide)
  · exact x_aload_n_ok (show decode cX9_was 69 = .ok (.aload_n 0, 1) by decide +kernel) rfl
  · exact x_iload_ok (show decode cX9_was 70 = .ok (.iload 6, 2) by decide +kernel)
  · exact x_ifeq_ok (show decode cX9_was 72 = .ok (.ifCond .eq 16, 3) by decide +kernel) (by decide)
  · exact x_bipush_ok (show decode cX9_was 75 = .ok (.bipush 36, 2) by decide +kernel) (by decide)
  · exact x_iload_ok (show decode cX9_was 77 = .ok (.iload 4, 2) by decide +kernel)
  · exact x_imul_ok (show decode cX9_was 79 = .ok (.imul, 1) by decide +kernel)
  · exact x_iload_n_ok (show decode cX9_was 80 = .ok (.iload_n 1, 1) by decide +kernel) rfl
  · exact x_bipush_ok (show decode cX9_was 81 = .ok (.bipush 36, 2) by decide +kernel) (by decide)
  · exact x_irem_ok (show decode cX9_was 83 = .ok (.irem, 1) by decide +kernel)
  · exact x_iadd_ok (show decode cX9_was 84 = .ok (.iadd, 1) by decide +kernel)
  · exact x_goto_ok (show decode cX9_was 85 = .ok (.goto 7, 3) by decide +kernel) (by decide)
  · exact x_aload_n_ok (show decode cX9_was 88 = .ok (.aload_n 0, 1) by decide +kernel) rfl
  · exact x_getI_ok (ci := 7) (k := 5) rfl (by decide) (by decide) hw_849 (show decode cX9_was 89 = .ok (.getfield 55, 3) by decide +kernel)
  · exact x_putI_ok (ci := 7) (k := 5) rfl (by decide) (by decide) rfl hw_849 rfl (show decode cX9_was 92 = .ok (.putfield 55, 3) by decide +kernel)
  · exact x_iload_n_ok (show decode cX9_was 95 = .ok (.iload_n 3, 1) by decide +kernel) rfl
  · exact x_iload_ok (show decode cX9_was 96 = .ok (.iload 6, 2) by decide +kernel)
  · exact x_ifeq_ok (show decode cX9_was 98 = .ok (.ifCond .eq 7, 3) by decide +kernel) (by decide)
  · exact x_iconst_ok (show decode cX9_was 101 = .ok (.iconst 1, 1) by decide +kernel) (by decide)
  · exact x_goto_ok (show decode cX9_was 102 = .ok (.goto 4, 3) by decide +kernel) (by decide)
  · exact x_iconst_ok (show decode cX9_was 105 = .ok (.iconst 0, 1) by decide +kernel) (by decide)
  · exact x_iadd_ok (show decode cX9_was 106 = .ok (.iadd, 1) by decide +kernel)
  · exact x_istore_n_ok (show decode cX9_was 107 = .ok (.istore_n 3, 1) by decide +kernel) rfl (by decide)
  · exact x_iinc_ok (show decode cX9_was 108 = .ok (.iinc 4 (-1), 3) by decide +kernel) (by decide) (by decide)
  · exact x_goto_ok (show decode cX9_was 111 = .ok (.goto (-79), 3) by decide +kernel) (by decide)
  · exact x_iload_n_ok (show decode cX9_was 114 = .ok (.iload_n 3, 1) by decide +kernel) rfl
  · exact x_iret_ok (show decode cX9_was 115 = .ok (.ireturn, 1) by decide +kernel)
noncomputable def FX9_was : List Value → xS → Option xR := xden tX9_was 7 (some .int) 0
theorem sX9_was (l : Launch) : xSound l yX9_was cX9_was 7 (some .int) 3 0 FX9_was := x_den (by decide) (tX9_was_ok l)
noncomputable def tX8_kinds : List (Nat × xO) := [(0, x_iload 1 1), (1, x_aload 0 1), (2, x_getR 6 2), (5, x_getI 3 1), (8, x_call 0 2 FX8_among), (11, x_ifeq 24), (14, x_iload 2 1), (15, x_push (.int (nI 217)) 3), (18, x_call 0 2 FX8_among), (21, x_ifne 26), (24, x_push (.int (-1)) 1), (25, x_iret), (26, x_aload 0 1), (27, x_getR 6 2), (30, x_iload 1 1), (31, x_push (.int (nI 0)) 1), (32, x_callV 3 0 3 FX4_shadeOf), (35, x_istore 3 1), (36, x_aload 0 1), (37, x_getR 6 2), (40, x_getR 3 0), (43, x_iload 1 1), (44, x_aald), (45, x_getI 1 2), (48, x_istore 4 2), (50, x_push (.int (nI 0)) 1), (51, x_istore 5 2), (53, x_push (.int (nI 0)) 1), (54, x_istore 6 2), (56, x_iload 6 2), (58, x_push (.int (nI 6)) 2), (60, x_cmpge 90), (63, x_iload 6 2), (65, x_iload 3 1), (66, x_iload 4 2), (68, x_call 0 3 FX1_countReached), (71, x_iload 2 1), (72, x_cmpne 84), (75, x_iload 5 2), (77, x_push (.int (nI 1)) 1), (78, x_iload 6 2), (80, x_ii (fun x y => x <<< (y &&& 31))), (81, x_ii (fun x y => x ||| y)), (82, x_istore 5 2), (84, x_iinc 6 (nI 1)), (87, x_goto 56), (90, x_iload 5 2), (92, x_iret)]
set_option maxRecDepth 100000 in
theorem tX8_kinds_ok (l : Launch) : ∀ q ∈ tX8_kinds, xOK l cX8_kinds RX8 7 5 0 (yX8_kinds.name = "<init>") q.1 q.2 := by
  unfold tX8_kinds
  refine List.forall_mem_cons.mpr ⟨?_, List.forall_mem_cons.mpr ⟨?_, List.forall_mem_cons.mpr ⟨?_, List.forall_mem_cons.mpr ⟨?_, List.forall_mem_cons.mpr ⟨?_, List.forall_mem_cons.mpr ⟨?_, List.forall_mem_cons.mpr ⟨?_, List.forall_mem_cons.mpr ⟨?_, List.forall_mem_cons.mpr ⟨?_, List.forall_mem_cons.mpr ⟨?_, List.forall_mem_cons.mpr ⟨?_, List.forall_mem_cons.mpr ⟨?_, List.forall_mem_cons.mpr ⟨?_, List.forall_mem_cons.mpr ⟨?_, List.forall_mem_cons.mpr ⟨?_, List.forall_mem_cons.mpr ⟨?_, List.forall_mem_cons.mpr ⟨?_, List.forall_mem_cons.mpr ⟨?_, List.forall_mem_cons.mpr ⟨?_, List.forall_mem_cons.mpr ⟨?_, List.forall_mem_cons.mpr ⟨?_, List.forall_mem_cons.mpr ⟨?_, List.forall_mem_cons.mpr ⟨?_, List.forall_mem_cons.mpr ⟨?_, List.forall_mem_cons.mpr ⟨?_, List.forall_mem_cons.mpr ⟨?_, List.forall_mem_cons.mpr ⟨?_, List.forall_mem_cons.mpr ⟨?_, List.forall_mem_cons.mpr ⟨?_, List.forall_mem_cons.mpr ⟨?_, List.forall_mem_cons.mpr ⟨?_, List.forall_mem_cons.mpr ⟨?_, List.forall_mem_cons.mpr ⟨?_, List.forall_mem_cons.mpr ⟨?_, List.forall_mem_cons.mpr ⟨?_, List.forall_mem_cons.mpr ⟨?_, List.forall_mem_cons.mpr ⟨?_, List.forall_mem_cons.mpr ⟨?_, List.forall_mem_cons.mpr ⟨?_, List.forall_mem_cons.mpr ⟨?_, List.forall_mem_cons.mpr ⟨?_, List.forall_mem_cons.mpr ⟨?_, List.forall_mem_cons.mpr ⟨?_, List.forall_mem_cons.mpr ⟨?_, List.forall_mem_cons.mpr ⟨?_, List.forall_mem_cons.mpr ⟨?_, List.forall_mem_cons.mpr ⟨?_, List.forall_mem_cons.mpr ⟨?_, fun _ h => absurd h List.not_mem_nil⟩⟩⟩⟩⟩⟩⟩⟩⟩⟩⟩⟩⟩⟩⟩⟩⟩⟩⟩⟩⟩⟩⟩⟩⟩⟩⟩⟩⟩⟩⟩⟩⟩⟩⟩⟩⟩⟩⟩⟩⟩⟩⟩⟩⟩⟩⟩⟩
  · exact x_iload_n_ok (show decode cX8_kinds 0 = .ok (.iload_n 1, 1) by decide +kernel) rfl
  · exact x_aload_n_ok (show decode cX8_kinds 1 = .ok (.aload_n 0, 1) by decide +kernel) rfl
  · exact x_getR_ok (ci := 6) (k := 2) rfl (by decide) (by decide) hw_224 (show decode cX8_kinds 2 = .ok (.getfield 26, 3) by decide +kernel)
  · exact x_getI_ok (ci := 3) (k := 1) rfl (by decide) (by decide) hw_177 (show decode cX8_kinds 5 = .ok (.getfield 133, 3) by decide +kernel)
  · exact x_callS_ok (sX8_among l) hw_268 hw_266 hw_267 hw_61 ⟨by decide, by decide, by decide +kernel⟩ (by decide) (by decide) (show decode cX8_kinds 8 = .ok (.invokestatic 65, 3) by decide +kernel)
  · exact x_ifeq_ok (show decode cX8_kinds 11 = .ok (.ifCond .eq 13, 3) by decide +kernel) (by decide)
  · exact x_iload_n_ok (show decode cX8_kinds 14 = .ok (.iload_n 2, 1) by decide +kernel) rfl
  · exact x_sipush_ok (show decode cX8_kinds 15 = .ok (.sipush 217, 3) by decide +kernel) (by decide)
  · exact x_callS_ok (sX8_among l) hw_268 hw_266 hw_267 hw_61 ⟨by decide, by decide, by decide +kernel⟩ (by decide) (by decide) (show decode cX8_kinds 18 = .ok (.invokestatic 65, 3) by decide +kernel)
  · exact x_ifne_ok (show decode cX8_kinds 21 = .ok (.ifCond .ne 5, 3) by decide +kernel) (by decide)
  · exact x_iconst_ok (show decode cX8_kinds 24 = .ok (.iconst (-1), 1) by decide +kernel) (by decide)
  · exact x_iret_ok (show decode cX8_kinds 25 = .ok (.ireturn, 1) by decide +kernel)
  · exact x_aload_n_ok (show decode cX8_kinds 26 = .ok (.aload_n 0, 1) by decide +kernel) rfl
  · exact x_getR_ok (ci := 6) (k := 2) rfl (by decide) (by decide) hw_224 (show decode cX8_kinds 27 = .ok (.getfield 26, 3) by decide +kernel)
  · exact x_iload_n_ok (show decode cX8_kinds 30 = .ok (.iload_n 1, 1) by decide +kernel) rfl
  · exact x_iconst_ok (show decode cX8_kinds 31 = .ok (.iconst 0, 1) by decide +kernel) (by decide)
  · exact x_callV_ok (ci := 3) rfl (by decide) (sX4_shadeOf l) hw_453 hw_450 hw_451 hw_452 hw_64 ⟨by decide, by decide, by decide +kernel⟩ rfl (by decide) (by decide) (show decode cX8_kinds 32 = .ok (.invokevirtual 256, 3) by decide +kernel)
  · exact x_istore_n_ok (show decode cX8_kinds 35 = .ok (.istore_n 3, 1) by decide +kernel) rfl (by decide)
  · exact x_aload_n_ok (show decode cX8_kinds 36 = .ok (.aload_n 0, 1) by decide +kernel) rfl
  · exact x_getR_ok (ci := 6) (k := 2) rfl (by decide) (by decide) hw_224 (show decode cX8_kinds 37 = .ok (.getfield 26, 3) by decide +kernel)
  · exact x_getR_ok (ci := 3) (k := 0) rfl (by decide) (by decide) hw_174 (show decode cX8_kinds 40 = .ok (.getfield 139, 3) by decide +kernel)
  · exact x_iload_n_ok (show decode cX8_kinds 43 = .ok (.iload_n 1, 1) by decide +kernel) rfl
  · exact x_aald_ok (show decode cX8_kinds 44 = .ok (.aaload, 1) by decide +kernel)
  · exact x_getI_ok (ci := 1) (k := 2) rfl (by decide) (by decide) hw_147 (show decode cX8_kinds 45 = .ok (.getfield 268, 3) by decide +kernel)
  · exact x_istore_ok (show decode cX8_kinds 48 = .ok (.istore 4, 2) by decide +kernel) (by decide)
  · exact x_iconst_ok (show decode cX8_kinds 50 = .ok (.iconst 0, 1) by decide +kernel) (by decide)
  · exact x_istore_ok (show decode cX8_kinds 51 = .ok (.istore 5, 2) by decide +kernel) (by decide)
  · exact x_iconst_ok (show decode cX8_kinds 53 = .ok (.iconst 0, 1) by decide +kernel) (by decide)
  · exact x_istore_ok (show decode cX8_kinds 54 = .ok (.istore 6, 2) by decide +kernel) (by decide)
  · exact x_iload_ok (show decode cX8_kinds 56 = .ok (.iload 6, 2) by decide +kernel)
  · exact x_bipush_ok (show decode cX8_kinds 58 = .ok (.bipush 6, 2) by decide +kernel) (by decide)
  · exact x_cmpge_ok (show decode cX8_kinds 60 = .ok (.if_icmp .ge 30, 3) by decide +kernel) (by decide)
  · exact x_iload_ok (show decode cX8_kinds 63 = .ok (.iload 6, 2) by decide +kernel)
  · exact x_iload_n_ok (show decode cX8_kinds 65 = .ok (.iload_n 3, 1) by decide +kernel) rfl
  · exact x_iload_ok (show decode cX8_kinds 66 = .ok (.iload 4, 2) by decide +kernel)
  · exact x_callS_ok (sX1_countReached l) hw_472 hw_470 hw_471 hw_70 ⟨by decide, by decide, by decide +kernel⟩ (by decide) (by decide) (show decode cX8_kinds 68 = .ok (.invokestatic 271, 3) by decide +kernel)
  · exact x_iload_n_ok (show decode cX8_kinds 71 = .ok (.iload_n 2, 1) by decide +kernel) rfl
  · exact x_cmpne_ok (show decode cX8_kinds 72 = .ok (.if_icmp .ne 12, 3) by decide +kernel) (by decide)
  · exact x_iload_ok (show decode cX8_kinds 75 = .ok (.iload 5, 2) by decide +kernel)
  · exact x_iconst_ok (show decode cX8_kinds 77 = .ok (.iconst 1, 1) by decide +kernel) (by decide)
  · exact x_iload_ok (show decode cX8_kinds 78 = .ok (.iload 6, 2) by decide +kernel)
  · exact x_ishl_ok (show decode cX8_kinds 80 = .ok (.ishl, 1) by decide +kernel)
  · exact x_ior_ok (show decode cX8_kinds 81 = .ok (.ior, 1) by decide +kernel)
  · exact x_istore_ok (show decode cX8_kinds 82 = .ok (.istore 5, 2) by decide +kernel) (by decide)
  · exact x_iinc_ok (show decode cX8_kinds 84 = .ok (.iinc 6 1, 3) by decide +kernel) (by decide) (by decide)
  · exact x_goto_ok (show decode cX8_kinds 87 = .ok (.goto (-31), 3) by decide +kernel) (by decide)
  · exact x_iload_ok (show decode cX8_kinds 90 = .ok (.iload 5, 2) by decide +kernel)
  · exact x_iret_ok (show decode cX8_kinds 92 = .ok (.ireturn, 1) by decide +kernel)
noncomputable def FX8_kinds : List Value → xS → Option xR := xden tX8_kinds 7 (some .int) 0
theorem sX8_kinds (l : Launch) : xSound l yX8_kinds cX8_kinds 7 (some .int) 5 0 FX8_kinds := x_den (by decide) (tX8_kinds_ok l)
noncomputable def tX9_kinds : List (Nat × xO) := [(0, x_aload 0 1), (1, x_iload 1 1), (2, x_callV 7 0 2 FX9_isName), (5, x_ifeq 20), (8, x_iload 2 1), (9, x_i2l), (10, x_push (.long 0) 1), (11, x_push (.long 216) 3), (14, x_call 0 3 FX9_in), (17, x_ifne 22), (20, x_push (.int (-1)) 1), (21, x_iret), (22, x_push (.int (nI 0)) 1), (23, x_istore 3 1), (24, x_push (.int (nI 0)) 1), (25, x_istore 4 2), (27, x_iload 4 2), (29, x_push (.int (nI 6)) 2), (31, x_cmpge 71), (34, x_iload 3 1), (35, x_iload 4 2), (37, x_aload 0 1), (38, x_iload 1 1), (39, x_push (.int (nI 3)) 1), (40, x_callV 7 0 3 FX9_of), (43, x_aload 0 1), (44, x_iload 1 1), (45, x_callV 7 0 2 FX9_shadeOf), (48, x_call 0 3 FX9_reachedBy), (51, x_iload 2 1), (52, x_cmpne 62), (55, x_push (.int (nI 1)) 1), (56, x_iload 4 2), (58, x_ii (fun x y => x <<< (y &&& 31))), (59, x_goto 63), (62, x_push (.int (nI 0)) 1), (63, x_ii (fun x y => x ||| y)), (64, x_istore 3 1), (65, x_iinc 4 (nI 1)), (68, x_goto 27), (71, x_iload 3 1), (72, x_iret)]
set_option maxRecDepth 100000 in
theorem tX9_kinds_ok (l : Launch) : ∀ q ∈ tX9_kinds, xOK l cX9_kinds RX9 5 5 0 (yX9_kinds.name = "<init>") q.1 q.2 := by
  unfold tX9_kinds
  refine List.forall_mem_cons.mpr ⟨?_, List.forall_mem_cons.mpr ⟨?_, List.forall_mem_cons.mpr ⟨?_, List.forall_mem_cons.mpr ⟨?_, List.forall_mem_cons.mpr ⟨?_, List.forall_mem_cons.mpr ⟨?_, List.forall_mem_cons.mpr ⟨?_, List.forall_mem_cons.mpr ⟨?_, List.forall_mem_cons.mpr ⟨?_, List.forall_mem_cons.mpr ⟨?_, List.forall_mem_cons.mpr ⟨?_, List.forall_mem_cons.mpr ⟨?_, List.forall_mem_cons.mpr ⟨?_, List.forall_mem_cons.mpr ⟨?_, List.forall_mem_cons.mpr ⟨?_, List.forall_mem_cons.mpr ⟨?_, List.forall_mem_cons.mpr ⟨?_, List.forall_mem_cons.mpr ⟨?_, List.forall_mem_cons.mpr ⟨?_, List.forall_mem_cons.mpr ⟨?_, List.forall_mem_cons.mpr ⟨?_, List.forall_mem_cons.mpr ⟨?_, List.forall_mem_cons.mpr ⟨?_, List.forall_mem_cons.mpr ⟨?_, List.forall_mem_cons.mpr ⟨?_, List.forall_mem_cons.mpr ⟨?_, List.forall_mem_cons.mpr ⟨?_, List.forall_mem_cons.mpr ⟨?_, List.forall_mem_cons.mpr ⟨?_, List.forall_mem_cons.mpr ⟨?_, List.forall_mem_cons.mpr ⟨?_, List.forall_mem_cons.mpr ⟨?_, List.forall_mem_cons.mpr ⟨?_, List.forall_mem_cons.mpr ⟨?_, List.forall_mem_cons.mpr ⟨?_, List.forall_mem_cons.mpr ⟨?_, List.forall_mem_cons.mpr ⟨?_, List.forall_mem_cons.mpr ⟨?_, List.forall_mem_cons.mpr ⟨?_, List.forall_mem_cons.mpr ⟨?_, List.forall_mem_cons.mpr ⟨?_, List.forall_mem_cons.mpr ⟨?_, fun _ h => absurd h List.not_mem_nil⟩⟩⟩⟩⟩⟩⟩⟩⟩⟩⟩⟩⟩⟩⟩⟩⟩⟩⟩⟩⟩⟩⟩⟩⟩⟩⟩⟩⟩⟩⟩⟩⟩⟩⟩⟩⟩⟩⟩⟩⟩⟩
  · exact x_aload_n_ok (show decode cX9_kinds 0 = .ok (.aload_n 0, 1) by decide +kernel) rfl
  · exact x_iload_n_ok (show decode cX9_kinds 1 = .ok (.iload_n 1, 1) by decide +kernel) rfl
  · exact x_callV_ok (ci := 7) rfl (by decide) (sX9_isName l) hw_1010 hw_1007 hw_1009 hw_28 hw_68 ⟨by decide, by decide, by decide +kernel⟩ rfl (by decide) (by decide) (show decode cX9_kinds 2 = .ok (.invokevirtual 170, 3) by decide +kernel)
  · exact x_ifeq_ok (show decode cX9_kinds 5 = .ok (.ifCond .eq 15, 3) by decide +kernel) (by decide)
  · exact x_iload_n_ok (show decode cX9_kinds 8 = .ok (.iload_n 2, 1) by decide +kernel) rfl
  · exact x_i2l_ok (show decode cX9_kinds 9 = .ok (.i2l, 1) by decide +kernel)
  · exact x_lconst_ok (show decode cX9_kinds 10 = .ok (.lconst 0, 1) by decide +kernel) rfl
  · exact x_ldc2_ok (show decode cX9_kinds 11 = .ok (.ldc2_w 260, 3) by decide +kernel) hw_1256
  · exact x_callS_ok (sX9_in l) hw_918 hw_916 hw_917 hw_68 ⟨by decide, by decide, by decide +kernel⟩ (by decide) (by decide) (show decode cX9_kinds 14 = .ok (.invokestatic 60, 3) by decide +kernel)
  · exact x_ifne_ok (show decode cX9_kinds 17 = .ok (.ifCond .ne 5, 3) by decide +kernel) (by decide)
  · exact x_iconst_ok (show decode cX9_kinds 20 = .ok (.iconst (-1), 1) by decide +kernel) (by decide)
  · exact x_iret_ok (show decode cX9_kinds 21 = .ok (.ireturn, 1) by decide +kernel)
  · exact x_iconst_ok (show decode cX9_kinds 22 = .ok (.iconst 0, 1) by decide +kernel) (by decide)
  · exact x_istore_n_ok (show decode cX9_kinds 23 = .ok (.istore_n 3, 1) by decide +kernel) rfl (by decide)
  · exact x_iconst_ok (show decode cX9_kinds 24 = .ok (.iconst 0, 1) by decide +kernel) (by decide)
  · exact x_istore_ok (show decode cX9_kinds 25 = .ok (.istore 4, 2) by decide +kernel) (by decide)
  · exact x_iload_ok (show decode cX9_kinds 27 = .ok (.iload 4, 2) by decide +kernel)
  · exact x_bipush_ok (show decode cX9_kinds 29 = .ok (.bipush 6, 2) by decide +kernel) (by decide)
  · exact x_cmpge_ok (show decode cX9_kinds 31 = .ok (.if_icmp .ge 40, 3) by decide +kernel) (by decide)
  · exact x_iload_n_ok (show decode cX9_kinds 34 = .ok (.iload_n 3, 1) by decide +kernel) rfl
  · exact x_iload_ok (show decode cX9_kinds 35 = .ok (.iload 4, 2) by decide +kernel)
  · exact x_aload_n_ok (show decode cX9_kinds 37 = .ok (.aload_n 0, 1) by decide +kernel) rfl
  · exact x_iload_n_ok (show decode cX9_kinds 38 = .ok (.iload_n 1, 1) by decide +kernel) rfl
  · exact x_iconst_ok (show decode cX9_kinds 39 = .ok (.iconst 3, 1) by decide +kernel) (by decide)
  · exact x_callV_ok (ci := 7) rfl (by decide) (sX9_of l) hw_1019 hw_1016 hw_1018 hw_30 hw_68 ⟨by decide, by decide, by decide +kernel⟩ rfl (by decide) (by decide) (show decode cX9_kinds 40 = .ok (.invokevirtual 128, 3) by decide +kernel)
  · exact x_aload_n_ok (show decode cX9_kinds 43 = .ok (.aload_n 0, 1) by decide +kernel) rfl
  · exact x_iload_n_ok (show decode cX9_kinds 44 = .ok (.iload_n 1, 1) by decide +kernel) rfl
  · exact x_callV_ok (ci := 7) rfl (by decide) (sX9_shadeOf l) hw_1023 hw_1020 hw_1022 hw_31 hw_68 ⟨by decide, by decide, by decide +kernel⟩ rfl (by decide) (by decide) (show decode cX9_kinds 45 = .ok (.invokevirtual 144, 3) by decide +kernel)
  · exact x_callS_ok (sX9_reachedBy l) hw_1026 hw_1024 hw_1025 hw_68 ⟨by decide, by decide, by decide +kernel⟩ (by decide) (by decide) (show decode cX9_kinds 48 = .ok (.invokestatic 167, 3) by decide +kernel)
  · exact x_iload_n_ok (show decode cX9_kinds 51 = .ok (.iload_n 2, 1) by decide +kernel) rfl
  · exact x_cmpne_ok (show decode cX9_kinds 52 = .ok (.if_icmp .ne 10, 3) by decide +kernel) (by decide)
  · exact x_iconst_ok (show decode cX9_kinds 55 = .ok (.iconst 1, 1) by decide +kernel) (by decide)
  · exact x_iload_ok (show decode cX9_kinds 56 = .ok (.iload 4, 2) by decide +kernel)
  · exact x_ishl_ok (show decode cX9_kinds 58 = .ok (.ishl, 1) by decide +kernel)
  · exact x_goto_ok (show decode cX9_kinds 59 = .ok (.goto 4, 3) by decide +kernel) (by decide)
  · exact x_iconst_ok (show decode cX9_kinds 62 = .ok (.iconst 0, 1) by decide +kernel) (by decide)
  · exact x_ior_ok (show decode cX9_kinds 63 = .ok (.ior, 1) by decide +kernel)
  · exact x_istore_n_ok (show decode cX9_kinds 64 = .ok (.istore_n 3, 1) by decide +kernel) rfl (by decide)
  · exact x_iinc_ok (show decode cX9_kinds 65 = .ok (.iinc 4 1, 3) by decide +kernel) (by decide) (by decide)
  · exact x_goto_ok (show decode cX9_kinds 68 = .ok (.goto (-41), 3) by decide +kernel) (by decide)
  · exact x_iload_n_ok (show decode cX9_kinds 71 = .ok (.iload_n 3, 1) by decide +kernel) rfl
  · exact x_iret_ok (show decode cX9_kinds 72 = .ok (.ireturn, 1) by decide +kernel)
noncomputable def FX9_kinds : List Value → xS → Option xR := xden tX9_kinds 5 (some .int) 0
theorem sX9_kinds (l : Launch) : xSound l yX9_kinds cX9_kinds 5 (some .int) 5 0 FX9_kinds := x_den (by decide) (tX9_kinds_ok l)
noncomputable def tX8_greatestDivisor : List (Nat × xO) := [(0, x_push (.int (nI 0)) 1), (1, x_istore 4 2), (3, x_iload 4 2), (5, x_push (.int (nI 200)) 3), (8, x_cmpge 33), (11, x_lload 2 1), (12, x_push (.long 0) 1), (13, x_lcmp), (14, x_ifeq 33), (17, x_lload 0 1), (18, x_lload 2 1), (19, x_lrem), (20, x_lstore 5 2), (22, x_lload 2 1), (23, x_lstore 0 1), (24, x_lload 5 2), (26, x_lstore 2 1), (27, x_iinc 4 (nI 1)), (30, x_goto 3), (33, x_lload 0 1), (34, x_lret)]
set_option maxRecDepth 100000 in
theorem tX8_greatestDivisor_ok (l : Launch) : ∀ q ∈ tX8_greatestDivisor, xOK l cX8_greatestDivisor RX8 7 1 0 (yX8_greatestDivisor.name = "<init>") q.1 q.2 := by
  unfold tX8_greatestDivisor
  refine List.forall_mem_cons.mpr ⟨?_, List.forall_mem_cons.mpr ⟨?_, List.forall_mem_cons.mpr ⟨?_, List.forall_mem_cons.mpr ⟨?_, List.forall_mem_cons.mpr ⟨?_, List.forall_mem_cons.mpr ⟨?_, List.forall_mem_cons.mpr ⟨?_, List.forall_mem_cons.mpr ⟨?_, List.forall_mem_cons.mpr ⟨?_, List.forall_mem_cons.mpr ⟨?_, List.forall_mem_cons.mpr ⟨?_, List.forall_mem_cons.mpr ⟨?_, List.forall_mem_cons.mpr ⟨?_, List.forall_mem_cons.mpr ⟨?_, List.forall_mem_cons.mpr ⟨?_, List.forall_mem_cons.mpr ⟨?_, List.forall_mem_cons.mpr ⟨?_, List.forall_mem_cons.mpr ⟨?_, List.forall_mem_cons.mpr ⟨?_, List.forall_mem_cons.mpr ⟨?_, List.forall_mem_cons.mpr ⟨?_, fun _ h => absurd h List.not_mem_nil⟩⟩⟩⟩⟩⟩⟩⟩⟩⟩⟩⟩⟩⟩⟩⟩⟩⟩⟩⟩⟩
  · exact x_iconst_ok (show decode cX8_greatestDivisor 0 = .ok (.iconst 0, 1) by decide +kernel) (by decide)
  · exact x_istore_ok (show decode cX8_greatestDivisor 1 = .ok (.istore 4, 2) by decide +kernel) (by decide)
  · exact x_iload_ok (show decode cX8_greatestDivisor 3 = .ok (.iload 4, 2) by decide +kernel)
  · exact x_sipush_ok (show decode cX8_greatestDivisor 5 = .ok (.sipush 200, 3) by decide +kernel) (by decide)
  · exact x_cmpge_ok (show decode cX8_greatestDivisor 8 = .ok (.if_icmp .ge 25, 3) by decide +kernel) (by decide)
  · exact x_lload_n_ok (show decode cX8_greatestDivisor 11 = .ok (.lload_n 2, 1) by decide +kernel) rfl
  · exact x_lconst_ok (show decode cX8_greatestDivisor 12 = .ok (.lconst 0, 1) by decide +kernel) rfl
  · exact x_lcmp_ok (show decode cX8_greatestDivisor 13 = .ok (.lcmp, 1) by decide +kernel)
  · exact x_ifeq_ok (show decode cX8_greatestDivisor 14 = .ok (.ifCond .eq 19, 3) by decide +kernel) (by decide)
  · exact x_lload_n_ok (show decode cX8_greatestDivisor 17 = .ok (.lload_n 0, 1) by decide +kernel) rfl
  · exact x_lload_n_ok (show decode cX8_greatestDivisor 18 = .ok (.lload_n 2, 1) by decide +kernel) rfl
  · exact x_lrem_ok (show decode cX8_greatestDivisor 19 = .ok (.lrem, 1) by decide +kernel)
  · exact x_lstore_ok (show decode cX8_greatestDivisor 20 = .ok (.lstore 5, 2) by decide +kernel) (by decide)
  · exact x_lload_n_ok (show decode cX8_greatestDivisor 22 = .ok (.lload_n 2, 1) by decide +kernel) rfl
  · exact x_lstore_n_ok (show decode cX8_greatestDivisor 23 = .ok (.lstore_n 0, 1) by decide +kernel) rfl (by decide)
  · exact x_lload_ok (show decode cX8_greatestDivisor 24 = .ok (.lload 5, 2) by decide +kernel)
  · exact x_lstore_n_ok (show decode cX8_greatestDivisor 26 = .ok (.lstore_n 2, 1) by decide +kernel) rfl (by decide)
  · exact x_iinc_ok (show decode cX8_greatestDivisor 27 = .ok (.iinc 4 1, 3) by decide +kernel) (by decide) (by decide)
  · exact x_goto_ok (show decode cX8_greatestDivisor 30 = .ok (.goto (-27), 3) by decide +kernel) (by decide)
  · exact x_lload_n_ok (show decode cX8_greatestDivisor 33 = .ok (.lload_n 0, 1) by decide +kernel) rfl
  · exact x_lret_ok (show decode cX8_greatestDivisor 34 = .ok (.lreturn, 1) by decide +kernel)
noncomputable def FX8_greatestDivisor : List Value → xS → Option xR := xden tX8_greatestDivisor 7 (some .long) 0
theorem sX8_greatestDivisor (l : Launch) : xSound l yX8_greatestDivisor cX8_greatestDivisor 7 (some .long) 1 0 FX8_greatestDivisor := x_den (by decide) (tX8_greatestDivisor_ok l)
noncomputable def tX8_tellChance : List (Nat × xO) := [(0, x_lload 1 1), (1, x_lload 3 1), (2, x_call 0 2 FX8_greatestDivisor), (5, x_lstore 5 2), (7, x_lload 5 2), (9, x_push (.long 0) 1), (10, x_lcmp), (11, x_ifeq 30), (14, x_aload 0 1), (15, x_lload 1 1), (16, x_lload 5 2), (18, x_ldiv), (19, x_putL 6 11), (22, x_aload 0 1), (23, x_lload 3 1), (24, x_lload 5 2), (26, x_ldiv), (27, x_putL 6 12), (30, x_vret)]
set_option maxRecDepth 100000 in
theorem tX8_tellChance_ok (l : Launch) : ∀ q ∈ tX8_tellChance, xOK l cX8_tellChance RX8 7 2 0 (yX8_tellChance.name = "<init>") q.1 q.2 := by
  unfold tX8_tellChance
  refine List.forall_mem_cons.mpr ⟨?_, List.forall_mem_cons.mpr ⟨?_, List.forall_mem_cons.mpr ⟨?_, List.forall_mem_cons.mpr ⟨?_, List.forall_mem_cons.mpr ⟨?_, List.forall_mem_cons.mpr ⟨?_, List.forall_mem_cons.mpr ⟨?_, List.forall_mem_cons.mpr ⟨?_, List.forall_mem_cons.mpr ⟨?_, List.forall_mem_cons.mpr ⟨?_, List.forall_mem_cons.mpr ⟨?_, List.forall_mem_cons.mpr ⟨?_, List.forall_mem_cons.mpr ⟨?_, List.forall_mem_cons.mpr ⟨?_, List.forall_mem_cons.mpr ⟨?_, List.forall_mem_cons.mpr ⟨?_, List.forall_mem_cons.mpr ⟨?_, List.forall_mem_cons.mpr ⟨?_, List.forall_mem_cons.mpr ⟨?_, fun _ h => absurd h List.not_mem_nil⟩⟩⟩⟩⟩⟩⟩⟩⟩⟩⟩⟩⟩⟩⟩⟩⟩⟩⟩
  · exact x_lload_n_ok (show decode cX8_tellChance 0 = .ok (.lload_n 1, 1) by decide +kernel) rfl
  · exact x_lload_n_ok (show decode cX8_tellChance 1 = .ok (.lload_n 3, 1) by decide +kernel) rfl
  · exact x_callS_ok (sX8_greatestDivisor l) hw_760 hw_758 hw_759 hw_61 ⟨by decide, by decide, by decide +kernel⟩ (by decide) (by decide) (show decode cX8_tellChance 2 = .ok (.invokestatic 338, 3) by decide +kernel)
  · exact x_lstore_ok (show decode cX8_tellChance 5 = .ok (.lstore 5, 2) by decide +kernel) (by decide)
  · exact x_lload_ok (show decode cX8_tellChance 7 = .ok (.lload 5, 2) by decide +kernel)
  · exact x_lconst_ok (show decode cX8_tellChance 9 = .ok (.lconst 0, 1) by decide +kernel) rfl
  · exact x_lcmp_ok (show decode cX8_tellChance 10 = .ok (.lcmp, 1) by decide +kernel)
  · exact x_ifeq_ok (show decode cX8_tellChance 11 = .ok (.ifCond .eq 19, 3) by decide +kernel) (by decide)
  · exact x_aload_n_ok (show decode cX8_tellChance 14 = .ok (.aload_n 0, 1) by decide +kernel) rfl
  · exact x_lload_n_ok (show decode cX8_tellChance 15 = .ok (.lload_n 1, 1) by decide +kernel) rfl
  · exact x_lload_ok (show decode cX8_tellChance 16 = .ok (.lload 5, 2) by decide +kernel)
  · exact x_ldiv_ok (show decode cX8_tellChance 18 = .ok (.ldiv, 1) by decide +kernel)
  · exact x_putL_ok (ci := 6) (k := 11) rfl (by decide) (by decide) rfl hw_233 rfl (show decode cX8_tellChance 19 = .ok (.putfield 286, 3) by decide +kernel)
  · exact x_aload_n_ok (show decode cX8_tellChance 22 = .ok (.aload_n 0, 1) by decide +kernel) rfl
  · exact x_lload_n_ok (show decode cX8_tellChance 23 = .ok (.lload_n 3, 1) by decide +kernel) rfl
  · exact x_lload_ok (show decode cX8_tellChance 24 = .ok (.lload 5, 2) by decide +kernel)
  · exact x_ldiv_ok (show decode cX8_tellChance 26 = .ok (.ldiv, 1) by decide +kernel)
  · exact x_putL_ok (ci := 6) (k := 12) rfl (by decide) (by decide) rfl hw_234 rfl (show decode cX8_tellChance 27 = .ok (.putfield 61, 3) by decide +kernel)
  · exact x_vret_ok (show decode cX8_tellChance 30 = .ok (.return_, 1) by decide +kernel)
noncomputable def FX8_tellChance : List Value → xS → Option xR := xden tX8_tellChance 7 none 0
theorem sX8_tellChance (l : Launch) : xSound l yX8_tellChance cX8_tellChance 7 none 2 0 FX8_tellChance := x_den (by decide) (tX8_tellChance_ok l)
noncomputable def tX8_odds : List (Nat × xO) := [(0, x_iload 1 1), (1, x_push (.int (nI 4)) 1), (2, x_call 0 2 FX8_among), (5, x_ifne 10), (8, x_push (.int (-1)) 1), (9, x_iret), (10, x_push (.int (nI 0)) 1), (11, x_istore 2 1), (12, x_push (.int (nI 0)) 1), (13, x_istore 3 1), (14, x_iload 3 1), (15, x_push (.int (nI 216)) 3), (18, x_cmpge 43), (21, x_aload 0 1), (22, x_getR 6 2), (25, x_iload 3 1), (26, x_push (.int (nI 0)) 1), (27, x_callV 3 0 3 FX4_ownerOf), (30, x_iload 1 1), (31, x_cmpne 37), (34, x_iinc 2 (nI 1)), (37, x_iinc 3 (nI 1)), (40, x_goto 14), (43, x_aload 0 1), (44, x_iload 2 1), (45, x_i2l), (46, x_push (.long 216) 3), (49, x_callV 6 0 3 FX8_tellChance), (52, x_push (.int (nI 1)) 1), (53, x_iret)]
set_option maxRecDepth 100000 in
theorem tX8_odds_ok (l : Launch) : ∀ q ∈ tX8_odds, xOK l cX8_odds RX8 4 7 0 (yX8_odds.name = "<init>") q.1 q.2 := by
  unfold tX8_odds
  refine List.forall_mem_cons.mpr ⟨?_, List.forall_mem_cons.mpr ⟨?_, List.forall_mem_cons.mpr ⟨?_, List.forall_mem_cons.mpr ⟨?_, List.forall_mem_cons.mpr ⟨?_, List.forall_mem_cons.mpr ⟨?_, List.forall_mem_cons.mpr ⟨?_, List.forall_mem_cons.mpr ⟨?_, List.forall_mem_cons.mpr ⟨?_, List.forall_mem_cons.mpr ⟨?_, List.forall_mem_cons.mpr ⟨?_, List.forall_mem_cons.mpr ⟨?_, List.forall_mem_cons.mpr ⟨?_, List.forall_mem_cons.mpr ⟨?_, List.forall_mem_cons.mpr ⟨?_, List.forall_mem_cons.mpr ⟨?_, List.forall_mem_cons.mpr ⟨?_, List.forall_mem_cons.mpr ⟨?_, List.forall_mem_cons.mpr ⟨?_, List.forall_mem_cons.mpr ⟨?_, List.forall_mem_cons.mpr ⟨?_, List.forall_mem_cons.mpr ⟨?_, List.forall_mem_cons.mpr ⟨?_, List.forall_mem_cons.mpr ⟨?_, List.forall_mem_cons.mpr ⟨?_, List.forall_mem_cons.mpr ⟨?_, List.forall_mem_cons.mpr ⟨?_, List.forall_mem_cons.mpr ⟨?_, List.forall_mem_cons.mpr ⟨?_, List.forall_mem_cons.mpr ⟨?_, fun _ h => absurd h List.not_mem_nil⟩⟩⟩⟩⟩⟩⟩⟩⟩⟩⟩⟩⟩⟩⟩⟩⟩⟩⟩⟩⟩⟩⟩⟩⟩⟩⟩⟩⟩⟩
  · exact x_iload_n_ok (show decode cX8_odds 0 = .ok (.iload_n 1, 1) by decide +kernel) rfl
  · exact x_iconst_ok (show decode cX8_odds 1 = .ok (.iconst 4, 1) by decide +kernel) (by decide)
  · exact x_callS_ok (sX8_among l) hw_268 hw_266 hw_267 hw_61 ⟨by decide, by decide, by decide +kernel⟩ (by decide) (by decide) (show decode cX8_odds 2 = .ok (.invokestatic 65, 3) by decide +kernel)
  · exact x_ifne_ok (show decode cX8_odds 5 = .ok (.ifCond .ne 5, 3) by decide +kernel) (by decide)
  · exact x_iconst_ok (show decode cX8_odds 8 = .ok (.iconst (-1), 1) by decide +kernel) (by decide)
  · exact x_iret_ok (show decode cX8_odds 9 = .ok (.ireturn, 1) by decide +kernel)
  · exact x_iconst_ok (show decode cX8_odds 10 = .ok (.iconst 0, 1) by decide +kernel) (by decide)
  · exact x_istore_n_ok (show decode cX8_odds 11 = .ok (.istore_n 2, 1) by decide +kernel) rfl (by decide)
  · exact x_iconst_ok (show decode cX8_odds 12 = .ok (.iconst 0, 1) by decide +kernel) (by decide)
  · exact x_istore_n_ok (show decode cX8_odds 13 = .ok (.istore_n 3, 1) by decide +kernel) rfl (by decide)
  · exact x_iload_n_ok (show decode cX8_odds 14 = .ok (.iload_n 3, 1) by decide +kernel) rfl
  · exact x_sipush_ok (show decode cX8_odds 15 = .ok (.sipush 216, 3) by decide +kernel) (by decide)
  · exact x_cmpge_ok (show decode cX8_odds 18 = .ok (.if_icmp .ge 25, 3) by decide +kernel) (by decide)
  · exact x_aload_n_ok (show decode cX8_odds 21 = .ok (.aload_n 0, 1) by decide +kernel) rfl
  · exact x_getR_ok (ci := 6) (k := 2) rfl (by decide) (by decide) hw_224 (show decode cX8_odds 22 = .ok (.getfield 26, 3) by decide +kernel)
  · exact x_iload_n_ok (show decode cX8_odds 25 = .ok (.iload_n 3, 1) by decide +kernel) rfl
  · exact x_iconst_ok (show decode cX8_odds 26 = .ok (.iconst 0, 1) by decide +kernel) (by decide)
  · exact x_callV_ok (ci := 3) rfl (by decide) (sX4_ownerOf l) hw_735 hw_732 hw_733 hw_734 hw_64 ⟨by decide, by decide, by decide +kernel⟩ rfl (by decide) (by decide) (show decode cX8_odds 27 = .ok (.invokevirtual 259, 3) by decide +kernel)
  · exact x_iload_n_ok (show decode cX8_odds 30 = .ok (.iload_n 1, 1) by decide +kernel) rfl
  · exact x_cmpne_ok (show decode cX8_odds 31 = .ok (.if_icmp .ne 6, 3) by decide +kernel) (by decide)
  · exact x_iinc_ok (show decode cX8_odds 34 = .ok (.iinc 2 1, 3) by decide +kernel) (by decide) (by decide)
  · exact x_iinc_ok (show decode cX8_odds 37 = .ok (.iinc 3 1, 3) by decide +kernel) (by decide) (by decide)
  · exact x_goto_ok (show decode cX8_odds 40 = .ok (.goto (-26), 3) by decide +kernel) (by decide)
  · exact x_aload_n_ok (show decode cX8_odds 43 = .ok (.aload_n 0, 1) by decide +kernel) rfl
  · exact x_iload_n_ok (show decode cX8_odds 44 = .ok (.iload_n 2, 1) by decide +kernel) rfl
  · exact x_i2l_ok (show decode cX8_odds 45 = .ok (.i2l, 1) by decide +kernel)
  · exact x_ldc2_ok (show decode cX8_odds 46 = .ok (.ldc2_w 274, 3) by decide +kernel) hw_753
  · exact x_callV_ok (ci := 6) rfl (by decide) (sX8_tellChance l) hw_757 hw_754 hw_756 hw_14 hw_61 ⟨by decide, by decide, by decide +kernel⟩ rfl (by decide) (by decide) (show decode cX8_odds 49 = .ok (.invokevirtual 276, 3) by decide +kernel)
  · exact x_iconst_ok (show decode cX8_odds 52 = .ok (.iconst 1, 1) by decide +kernel) (by decide)
  · exact x_iret_ok (show decode cX8_odds 53 = .ok (.ireturn, 1) by decide +kernel)
noncomputable def FX8_odds : List Value → xS → Option xR := xden tX8_odds 4 (some .int) 0
theorem sX8_odds (l : Launch) : xSound l yX8_odds cX8_odds 4 (some .int) 7 0 FX8_odds := x_den (by decide) (tX8_odds_ok l)
noncomputable def tX9_tellParts : List (Nat × xO) := [(0, x_iload 1 1), (1, x_istore 2 1), (2, x_push (.int (nI 216)) 3), (5, x_istore 3 1), (6, x_iload 3 1), (7, x_ifeq 23), (10, x_iload 2 1), (11, x_iload 3 1), (12, x_irem), (13, x_istore 4 2), (15, x_iload 3 1), (16, x_istore 2 1), (17, x_iload 4 2), (19, x_istore 3 1), (20, x_goto 6), (23, x_aload 0 1), (24, x_iload 1 1), (25, x_iload 2 1), (26, x_idiv), (27, x_i2l), (28, x_putL 7 6), (31, x_aload 0 1), (32, x_push (.int (nI 216)) 3), (35, x_iload 2 1), (36, x_idiv), (37, x_i2l), (38, x_putL 7 7), (41, x_push (.int (nI 1)) 1), (42, x_iret)]
set_option maxRecDepth 100000 in
theorem tX9_tellParts_ok (l : Launch) : ∀ q ∈ tX9_tellParts, xOK l cX9_tellParts RX9 5 1 0 (yX9_tellParts.name = "<init>") q.1 q.2 := by
  unfold tX9_tellParts
  refine List.forall_mem_cons.mpr ⟨?_, List.forall_mem_cons.mpr ⟨?_, List.forall_mem_cons.mpr ⟨?_, List.forall_mem_cons.mpr ⟨?_, List.forall_mem_cons.mpr ⟨?_, List.forall_mem_cons.mpr ⟨?_, List.forall_mem_cons.mpr ⟨?_, List.forall_mem_cons.mpr ⟨?_, List.forall_mem_cons.mpr ⟨?_, List.forall_mem_cons.mpr ⟨?_, List.forall_mem_cons.mpr ⟨?_, List.forall_mem_cons.mpr ⟨?_, List.forall_mem_cons.mpr ⟨?_, List.forall_mem_cons.mpr ⟨?_, List.forall_mem_cons.mpr ⟨?_, List.forall_mem_cons.mpr ⟨?_, List.forall_mem_cons.mpr ⟨?_, List.forall_mem_cons.mpr ⟨?_, List.forall_mem_cons.mpr ⟨?_, List.forall_mem_cons.mpr ⟨?_, List.forall_mem_cons.mpr ⟨?_, List.forall_mem_cons.mpr ⟨?_, List.forall_mem_cons.mpr ⟨?_, List.forall_mem_cons.mpr ⟨?_, List.forall_mem_cons.mpr ⟨?_, List.forall_mem_cons.mpr ⟨?_, List.forall_mem_cons.mpr ⟨?_, List.forall_mem_cons.mpr ⟨?_, List.forall_mem_cons.mpr ⟨?_, fun _ h => absurd h List.not_mem_nil⟩⟩⟩⟩⟩⟩⟩⟩⟩⟩⟩⟩⟩⟩⟩⟩⟩⟩⟩⟩⟩⟩⟩⟩⟩⟩⟩⟩⟩
  · exact x_iload_n_ok (show decode cX9_tellParts 0 = .ok (.iload_n 1, 1) by decide +kernel) rfl
  · exact x_istore_n_ok (show decode cX9_tellParts 1 = .ok (.istore_n 2, 1) by decide +kernel) rfl (by decide)
  · exact x_sipush_ok (show decode cX9_tellParts 2 = .ok (.sipush 216, 3) by decide +kernel) (by decide)
  · exact x_istore_n_ok (show decode cX9_tellParts 5 = .ok (.istore_n 3, 1) by decide +kernel) rfl (by decide)
  · exact x_iload_n_ok (show decode cX9_tellParts 6 = .ok (.iload_n 3, 1) by decide +kernel) rfl
  · exact x_ifeq_ok (show decode cX9_tellParts 7 = .ok (.ifCond .eq 16, 3) by decide +kernel) (by decide)
  · exact x_iload_n_ok (show decode cX9_tellParts 10 = .ok (.iload_n 2, 1) by decide +kernel) rfl
  · exact x_iload_n_ok (show decode cX9_tellParts 11 = .ok (.iload_n 3, 1) by decide +kernel) rfl
  · exact x_irem_ok (show decode cX9_tellParts 12 = .ok (.irem, 1) by decide +kernel)
  · exact x_istore_ok (show decode cX9_tellParts 13 = .ok (.istore 4, 2) by decide +kernel) (by decide)
  · exact x_iload_n_ok (show decode cX9_tellParts 15 = .ok (.iload_n 3, 1) by decide +kernel) rfl
  · exact x_istore_n_ok (show decode cX9_tellParts 16 = .ok (.istore_n 2, 1) by decide +kernel) rfl (by decide)
  · exact x_iload_ok (show decode cX9_tellParts 17 = .ok (.iload 4, 2) by decide +kernel)
  · exact x_istore_n_ok (show decode cX9_tellParts 19 = .ok (.istore_n 3, 1) by decide +kernel) rfl (by decide)
  · exact x_goto_ok (show decode cX9_tellParts 20 = .ok (.goto (-14), 3) by decide +kernel) (by decide)
  · exact x_aload_n_ok (show decode cX9_tellParts 23 = .ok (.aload_n 0, 1) by decide +kernel) rfl
  · exact x_iload_n_ok (show decode cX9_tellParts 24 = .ok (.iload_n 1, 1) by decide +kernel) rfl
  · exact x_iload_n_ok (show decode cX9_tellParts 25 = .ok (.iload_n 2, 1) by decide +kernel) rfl
  · exact x_idiv_ok (show decode cX9_tellParts 26 = .ok (.idiv, 1) by decide +kernel)
  · exact x_i2l_ok (show decode cX9_tellParts 27 = .ok (.i2l, 1) by decide +kernel)
  · exact x_putL_ok (ci := 7) (k := 6) rfl (by decide) (by decide) rfl hw_850 rfl (show decode cX9_tellParts 28 = .ok (.putfield 262, 3) by decide +kernel)
  · exact x_aload_n_ok (show decode cX9_tellParts 31 = .ok (.aload_n 0, 1) by decide +kernel) rfl
  · exact x_sipush_ok (show decode cX9_tellParts 32 = .ok (.sipush 216, 3) by decide +kernel) (by decide)
  · exact x_iload_n_ok (show decode cX9_tellParts 35 = .ok (.iload_n 2, 1) by decide +kernel) rfl
  · exact x_idiv_ok (show decode cX9_tellParts 36 = .ok (.idiv, 1) by decide +kernel)
  · exact x_i2l_ok (show decode cX9_tellParts 37 = .ok (.i2l, 1) by decide +kernel)
  · exact x_putL_ok (ci := 7) (k := 7) rfl (by decide) (by decide) rfl hw_851 rfl (show decode cX9_tellParts 38 = .ok (.putfield 25, 3) by decide +kernel)
  · exact x_iconst_ok (show decode cX9_tellParts 41 = .ok (.iconst 1, 1) by decide +kernel) (by decide)
  · exact x_iret_ok (show decode cX9_tellParts 42 = .ok (.ireturn, 1) by decide +kernel)
noncomputable def FX9_tellParts : List Value → xS → Option xR := xden tX9_tellParts 5 (some .int) 0
theorem sX9_tellParts (l : Launch) : xSound l yX9_tellParts cX9_tellParts 5 (some .int) 1 0 FX9_tellParts := x_den (by decide) (tX9_tellParts_ok l)
noncomputable def tX9_odds : List (Nat × xO) := [(0, x_iload 1 1), (1, x_call 0 1 FX9_isPerson), (4, x_ifne 9), (7, x_push (.int (-1)) 1), (8, x_iret), (9, x_push (.int (nI 0)) 1), (10, x_istore 2 1), (11, x_push (.int (nI 0)) 1), (12, x_istore 3 1), (13, x_iload 3 1), (14, x_push (.int (nI 216)) 3), (17, x_cmpge 43), (20, x_iload 2 1), (21, x_aload 0 1), (22, x_iload 3 1), (23, x_callV 7 0 2 FX9_ownerOf), (26, x_iload 1 1), (27, x_cmpne 34), (30, x_push (.int (nI 1)) 1), (31, x_goto 35), (34, x_push (.int (nI 0)) 1), (35, x_ii (fun x y => x + y)), (36, x_istore 2 1), (37, x_iinc 3 (nI 1)), (40, x_goto 13), (43, x_aload 0 1), (44, x_iload 2 1), (45, x_callV 7 0 2 FX9_tellParts), (48, x_iret)]
set_option maxRecDepth 100000 in
theorem tX9_odds_ok (l : Launch) : ∀ q ∈ tX9_odds, xOK l cX9_odds RX9 4 8 0 (yX9_odds.name = "<init>") q.1 q.2 := by
  unfold tX9_odds
  refine List.forall_mem_cons.mpr ⟨?_, List.forall_mem_cons.mpr ⟨?_, List.forall_mem_cons.mpr ⟨?_, List.forall_mem_cons.mpr ⟨?_, List.forall_mem_cons.mpr ⟨?_, List.forall_mem_cons.mpr ⟨?_, List.forall_mem_cons.mpr ⟨?_, List.forall_mem_cons.mpr ⟨?_, List.forall_mem_cons.mpr ⟨?_, List.forall_mem_cons.mpr ⟨?_, List.forall_mem_cons.mpr ⟨?_, List.forall_mem_cons.mpr ⟨?_, List.forall_mem_cons.mpr ⟨?_, List.forall_mem_cons.mpr ⟨?_, List.forall_mem_cons.mpr ⟨?_, List.forall_mem_cons.mpr ⟨?_, List.forall_mem_cons.mpr ⟨?_, List.forall_mem_cons.mpr ⟨?_, List.forall_mem_cons.mpr ⟨?_, List.forall_mem_cons.mpr ⟨?_, List.forall_mem_cons.mpr ⟨?_, List.forall_mem_cons.mpr ⟨?_, List.forall_mem_cons.mpr ⟨?_, List.forall_mem_cons.mpr ⟨?_, List.forall_mem_cons.mpr ⟨?_, List.forall_mem_cons.mpr ⟨?_, List.forall_mem_cons.mpr ⟨?_, List.forall_mem_cons.mpr ⟨?_, List.forall_mem_cons.mpr ⟨?_, fun _ h => absurd h List.not_mem_nil⟩⟩⟩⟩⟩⟩⟩⟩⟩⟩⟩⟩⟩⟩⟩⟩⟩⟩⟩⟩⟩⟩⟩⟩⟩⟩⟩⟩⟩
  · exact x_iload_n_ok (show decode cX9_odds 0 = .ok (.iload_n 1, 1) by decide +kernel) rfl
  · exact x_callS_ok (sX9_isPerson l) hw_1099 hw_1097 hw_1098 hw_68 ⟨by decide, by decide, by decide +kernel⟩ (by decide) (by decide) (show decode cX9_odds 1 = .ok (.invokestatic 201, 3) by decide +kernel)
  · exact x_ifne_ok (show decode cX9_odds 4 = .ok (.ifCond .ne 5, 3) by decide +kernel) (by decide)
  · exact x_iconst_ok (show decode cX9_odds 7 = .ok (.iconst (-1), 1) by decide +kernel) (by decide)
  · exact x_iret_ok (show decode cX9_odds 8 = .ok (.ireturn, 1) by decide +kernel)
  · exact x_iconst_ok (show decode cX9_odds 9 = .ok (.iconst 0, 1) by decide +kernel) (by decide)
  · exact x_istore_n_ok (show decode cX9_odds 10 = .ok (.istore_n 2, 1) by decide +kernel) rfl (by decide)
  · exact x_iconst_ok (show decode cX9_odds 11 = .ok (.iconst 0, 1) by decide +kernel) (by decide)
  · exact x_istore_n_ok (show decode cX9_odds 12 = .ok (.istore_n 3, 1) by decide +kernel) rfl (by decide)
  · exact x_iload_n_ok (show decode cX9_odds 13 = .ok (.iload_n 3, 1) by decide +kernel) rfl
  · exact x_sipush_ok (show decode cX9_odds 14 = .ok (.sipush 216, 3) by decide +kernel) (by decide)
  · exact x_cmpge_ok (show decode cX9_odds 17 = .ok (.if_icmp .ge 26, 3) by decide +kernel) (by decide)
  · exact x_iload_n_ok (show decode cX9_odds 20 = .ok (.iload_n 2, 1) by decide +kernel) rfl
  · exact x_aload_n_ok (show decode cX9_odds 21 = .ok (.aload_n 0, 1) by decide +kernel) rfl
  · exact x_iload_n_ok (show decode cX9_odds 22 = .ok (.iload_n 3, 1) by decide +kernel) rfl
  · exact x_callV_ok (ci := 7) rfl (by decide) (sX9_ownerOf l) hw_1179 hw_1176 hw_1178 hw_47 hw_68 ⟨by decide, by decide, by decide +kernel⟩ rfl (by decide) (by decide) (show decode cX9_odds 23 = .ok (.invokevirtual 230, 3) by decide +kernel)
  · exact x_iload_n_ok (show decode cX9_odds 26 = .ok (.iload_n 1, 1) by decide +kernel) rfl
  · exact x_cmpne_ok (show decode cX9_odds 27 = .ok (.if_icmp .ne 7, 3) by decide +kernel) (by decide)
  · exact x_iconst_ok (show decode cX9_odds 30 = .ok (.iconst 1, 1) by decide +kernel) (by decide)
  · exact x_goto_ok (show decode cX9_odds 31 = .ok (.goto 4, 3) by decide +kernel) (by decide)
  · exact x_iconst_ok (show decode cX9_odds 34 = .ok (.iconst 0, 1) by decide +kernel) (by decide)
  · exact x_iadd_ok (show decode cX9_odds 35 = .ok (.iadd, 1) by decide +kernel)
  · exact x_istore_n_ok (show decode cX9_odds 36 = .ok (.istore_n 2, 1) by decide +kernel) rfl (by decide)
  · exact x_iinc_ok (show decode cX9_odds 37 = .ok (.iinc 3 1, 3) by decide +kernel) (by decide) (by decide)
  · exact x_goto_ok (show decode cX9_odds 40 = .ok (.goto (-27), 3) by decide +kernel) (by decide)
  · exact x_aload_n_ok (show decode cX9_odds 43 = .ok (.aload_n 0, 1) by decide +kernel) rfl
  · exact x_iload_n_ok (show decode cX9_odds 44 = .ok (.iload_n 2, 1) by decide +kernel) rfl
  · exact x_callV_ok (ci := 7) rfl (by decide) (sX9_tellParts l) hw_1264 hw_1261 hw_1263 hw_55 hw_68 ⟨by decide, by decide, by decide +kernel⟩ rfl (by decide) (by decide) (show decode cX9_odds 45 = .ok (.invokevirtual 265, 3) by decide +kernel)
  · exact x_iret_ok (show decode cX9_odds 48 = .ok (.ireturn, 1) by decide +kernel)
noncomputable def FX9_odds : List Value → xS → Option xR := xden tX9_odds 4 (some .int) 0
theorem sX9_odds (l : Launch) : xSound l yX9_odds cX9_odds 4 (some .int) 8 0 FX9_odds := x_den (by decide) (tX9_odds_ok l)
noncomputable def tX8_mid : List (Nat × xO) := [(0, x_iload 1 1), (1, x_push (.int (nI 4)) 1), (2, x_call 0 2 FX8_among), (5, x_ifne 10), (8, x_push (.int (-1)) 1), (9, x_iret), (10, x_push (.int (nI 0)) 1), (11, x_istore 2 1), (12, x_push (.int (nI 0)) 1), (13, x_istore 3 1), (14, x_iload 3 1), (15, x_push (.int (nI 216)) 3), (18, x_cmpge 39), (21, x_iload 2 1), (22, x_aload 0 1), (23, x_getR 6 2), (26, x_iload 1 1), (27, x_iload 3 1), (28, x_callV 3 0 3 FX4_owedBy), (31, x_ii (fun x y => x + y)), (32, x_istore 2 1), (33, x_iinc 3 (nI 1)), (36, x_goto 14), (39, x_aload 0 1), (40, x_iload 2 1), (41, x_i2l), (42, x_push (.long 216) 3), (45, x_callV 6 0 3 FX8_tellChance), (48, x_push (.int (nI 1)) 1), (49, x_iret)]
set_option maxRecDepth 100000 in
theorem tX8_mid_ok (l : Launch) : ∀ q ∈ tX8_mid, xOK l cX8_mid RX8 4 7 0 (yX8_mid.name = "<init>") q.1 q.2 := by
  unfold tX8_mid
  refine List.forall_mem_cons.mpr ⟨?_, List.forall_mem_cons.mpr ⟨?_, List.forall_mem_cons.mpr ⟨?_, List.forall_mem_cons.mpr ⟨?_, List.forall_mem_cons.mpr ⟨?_, List.forall_mem_cons.mpr ⟨?_, List.forall_mem_cons.mpr ⟨?_, List.forall_mem_cons.mpr ⟨?_, List.forall_mem_cons.mpr ⟨?_, List.forall_mem_cons.mpr ⟨?_, List.forall_mem_cons.mpr ⟨?_, List.forall_mem_cons.mpr ⟨?_, List.forall_mem_cons.mpr ⟨?_, List.forall_mem_cons.mpr ⟨?_, List.forall_mem_cons.mpr ⟨?_, List.forall_mem_cons.mpr ⟨?_, List.forall_mem_cons.mpr ⟨?_, List.forall_mem_cons.mpr ⟨?_, List.forall_mem_cons.mpr ⟨?_, List.forall_mem_cons.mpr ⟨?_, List.forall_mem_cons.mpr ⟨?_, List.forall_mem_cons.mpr ⟨?_, List.forall_mem_cons.mpr ⟨?_, List.forall_mem_cons.mpr ⟨?_, List.forall_mem_cons.mpr ⟨?_, List.forall_mem_cons.mpr ⟨?_, List.forall_mem_cons.mpr ⟨?_, List.forall_mem_cons.mpr ⟨?_, List.forall_mem_cons.mpr ⟨?_, List.forall_mem_cons.mpr ⟨?_, fun _ h => absurd h List.not_mem_nil⟩⟩⟩⟩⟩⟩⟩⟩⟩⟩⟩⟩⟩⟩⟩⟩⟩⟩⟩⟩⟩⟩⟩⟩⟩⟩⟩⟩⟩⟩
  · exact x_iload_n_ok (show decode cX8_mid 0 = .ok (.iload_n 1, 1) by decide +kernel) rfl
  · exact x_iconst_ok (show decode cX8_mid 1 = .ok (.iconst 4, 1) by decide +kernel) (by decide)
  · exact x_callS_ok (sX8_among l) hw_268 hw_266 hw_267 hw_61 ⟨by decide, by decide, by decide +kernel⟩ (by decide) (by decide) (show decode cX8_mid 2 = .ok (.invokestatic 65, 3) by decide +kernel)
  · exact x_ifne_ok (show decode cX8_mid 5 = .ok (.ifCond .ne 5, 3) by decide +kernel) (by decide)
  · exact x_iconst_ok (show decode cX8_mid 8 = .ok (.iconst (-1), 1) by decide +kernel) (by decide)
  · exact x_iret_ok (show decode cX8_mid 9 = .ok (.ireturn, 1) by decide +kernel)
  · exact x_iconst_ok (show decode cX8_mid 10 = .ok (.iconst 0, 1) by decide +kernel) (by decide)
  · exact x_istore_n_ok (show decode cX8_mid 11 = .ok (.istore_n 2, 1) by decide +kernel) rfl (by decide)
  · exact x_iconst_ok (show decode cX8_mid 12 = .ok (.iconst 0, 1) by decide +kernel) (by decide)
  · exact x_istore_n_ok (show decode cX8_mid 13 = .ok (.istore_n 3, 1) by decide +kernel) rfl (by decide)
  · exact x_iload_n_ok (show decode cX8_mid 14 = .ok (.iload_n 3, 1) by decide +kernel) rfl
  · exact x_sipush_ok (show decode cX8_mid 15 = .ok (.sipush 216, 3) by decide +kernel) (by decide)
  · exact x_cmpge_ok (show decode cX8_mid 18 = .ok (.if_icmp .ge 21, 3) by decide +kernel) (by decide)
  · exact x_iload_n_ok (show decode cX8_mid 21 = .ok (.iload_n 2, 1) by decide +kernel) rfl
  · exact x_aload_n_ok (show decode cX8_mid 22 = .ok (.aload_n 0, 1) by decide +kernel) rfl
  · exact x_getR_ok (ci := 6) (k := 2) rfl (by decide) (by decide) hw_224 (show decode cX8_mid 23 = .ok (.getfield 26, 3) by decide +kernel)
  · exact x_iload_n_ok (show decode cX8_mid 26 = .ok (.iload_n 1, 1) by decide +kernel) rfl
  · exact x_iload_n_ok (show decode cX8_mid 27 = .ok (.iload_n 3, 1) by decide +kernel) rfl
  · exact x_callV_ok (ci := 3) rfl (by decide) (sX4_owedBy l) hw_595 hw_592 hw_593 hw_594 hw_64 ⟨by decide, by decide, by decide +kernel⟩ rfl (by decide) (by decide) (show decode cX8_mid 28 = .ok (.invokevirtual 194, 3) by decide +kernel)
  · exact x_iadd_ok (show decode cX8_mid 31 = .ok (.iadd, 1) by decide +kernel)
  · exact x_istore_n_ok (show decode cX8_mid 32 = .ok (.istore_n 2, 1) by decide +kernel) rfl (by decide)
  · exact x_iinc_ok (show decode cX8_mid 33 = .ok (.iinc 3 1, 3) by decide +kernel) (by decide) (by decide)
  · exact x_goto_ok (show decode cX8_mid 36 = .ok (.goto (-22), 3) by decide +kernel) (by decide)
  · exact x_aload_n_ok (show decode cX8_mid 39 = .ok (.aload_n 0, 1) by decide +kernel) rfl
  · exact x_iload_n_ok (show decode cX8_mid 40 = .ok (.iload_n 2, 1) by decide +kernel) rfl
  · exact x_i2l_ok (show decode cX8_mid 41 = .ok (.i2l, 1) by decide +kernel)
  · exact x_ldc2_ok (show decode cX8_mid 42 = .ok (.ldc2_w 274, 3) by decide +kernel) hw_753
  · exact x_callV_ok (ci := 6) rfl (by decide) (sX8_tellChance l) hw_757 hw_754 hw_756 hw_14 hw_61 ⟨by decide, by decide, by decide +kernel⟩ rfl (by decide) (by decide) (show decode cX8_mid 45 = .ok (.invokevirtual 276, 3) by decide +kernel)
  · exact x_iconst_ok (show decode cX8_mid 48 = .ok (.iconst 1, 1) by decide +kernel) (by decide)
  · exact x_iret_ok (show decode cX8_mid 49 = .ok (.ireturn, 1) by decide +kernel)
noncomputable def FX8_mid : List Value → xS → Option xR := xden tX8_mid 4 (some .int) 0
theorem sX8_mid (l : Launch) : xSound l yX8_mid cX8_mid 4 (some .int) 7 0 FX8_mid := x_den (by decide) (tX8_mid_ok l)
noncomputable def tX9_mid : List (Nat × xO) := [(0, x_iload 1 1), (1, x_call 0 1 FX9_isPerson), (4, x_ifne 9), (7, x_push (.int (-1)) 1), (8, x_iret), (9, x_push (.int (nI 0)) 1), (10, x_istore 2 1), (11, x_push (.int (nI 0)) 1), (12, x_istore 3 1), (13, x_iload 3 1), (14, x_push (.int (nI 216)) 3), (17, x_cmpge 35), (20, x_iload 2 1), (21, x_aload 0 1), (22, x_iload 1 1), (23, x_iload 3 1), (24, x_callV 7 0 3 FX9_dueFor), (27, x_ii (fun x y => x + y)), (28, x_istore 2 1), (29, x_iinc 3 (nI 1)), (32, x_goto 13), (35, x_aload 0 1), (36, x_iload 2 1), (37, x_callV 7 0 2 FX9_tellParts), (40, x_iret)]
set_option maxRecDepth 100000 in
theorem tX9_mid_ok (l : Launch) : ∀ q ∈ tX9_mid, xOK l cX9_mid RX9 4 8 0 (yX9_mid.name = "<init>") q.1 q.2 := by
  unfold tX9_mid
  refine List.forall_mem_cons.mpr ⟨?_, List.forall_mem_cons.mpr ⟨?_, List.forall_mem_cons.mpr ⟨?_, List.forall_mem_cons.mpr ⟨?_, List.forall_mem_cons.mpr ⟨?_, List.forall_mem_cons.mpr ⟨?_, List.forall_mem_cons.mpr ⟨?_, List.forall_mem_cons.mpr ⟨?_, List.forall_mem_cons.mpr ⟨?_, List.forall_mem_cons.mpr ⟨?_, List.forall_mem_cons.mpr ⟨?_, List.forall_mem_cons.mpr ⟨?_, List.forall_mem_cons.mpr ⟨?_, List.forall_mem_cons.mpr ⟨?_, List.forall_mem_cons.mpr ⟨?_, List.forall_mem_cons.mpr ⟨?_, List.forall_mem_cons.mpr ⟨?_, List.forall_mem_cons.mpr ⟨?_, List.forall_mem_cons.mpr ⟨?_, List.forall_mem_cons.mpr ⟨?_, List.forall_mem_cons.mpr ⟨?_, List.forall_mem_cons.mpr ⟨?_, List.forall_mem_cons.mpr ⟨?_, List.forall_mem_cons.mpr ⟨?_, List.forall_mem_cons.mpr ⟨?_, fun _ h => absurd h List.not_mem_nil⟩⟩⟩⟩⟩⟩⟩⟩⟩⟩⟩⟩⟩⟩⟩⟩⟩⟩⟩⟩⟩⟩⟩⟩⟩
  · exact x_iload_n_ok (show decode cX9_mid 0 = .ok (.iload_n 1, 1) by decide +kernel) rfl
  · exact x_callS_ok (sX9_isPerson l) hw_1099 hw_1097 hw_1098 hw_68 ⟨by decide, by decide, by decide +kernel⟩ (by decide) (by decide) (show decode cX9_mid 1 = .ok (.invokestatic 201, 3) by decide +kernel)
  · exact x_ifne_ok (show decode cX9_mid 4 = .ok (.ifCond .ne 5, 3) by decide +kernel) (by decide)
  · exact x_iconst_ok (show decode cX9_mid 7 = .ok (.iconst (-1), 1) by decide +kernel) (by decide)
  · exact x_iret_ok (show decode cX9_mid 8 = .ok (.ireturn, 1) by decide +kernel)
  · exact x_iconst_ok (show decode cX9_mid 9 = .ok (.iconst 0, 1) by decide +kernel) (by decide)
  · exact x_istore_n_ok (show decode cX9_mid 10 = .ok (.istore_n 2, 1) by decide +kernel) rfl (by decide)
  · exact x_iconst_ok (show decode cX9_mid 11 = .ok (.iconst 0, 1) by decide +kernel) (by decide)
  · exact x_istore_n_ok (show decode cX9_mid 12 = .ok (.istore_n 3, 1) by decide +kernel) rfl (by decide)
  · exact x_iload_n_ok (show decode cX9_mid 13 = .ok (.iload_n 3, 1) by decide +kernel) rfl
  · exact x_sipush_ok (show decode cX9_mid 14 = .ok (.sipush 216, 3) by decide +kernel) (by decide)
  · exact x_cmpge_ok (show decode cX9_mid 17 = .ok (.if_icmp .ge 18, 3) by decide +kernel) (by decide)
  · exact x_iload_n_ok (show decode cX9_mid 20 = .ok (.iload_n 2, 1) by decide +kernel) rfl
  · exact x_aload_n_ok (show decode cX9_mid 21 = .ok (.aload_n 0, 1) by decide +kernel) rfl
  · exact x_iload_n_ok (show decode cX9_mid 22 = .ok (.iload_n 1, 1) by decide +kernel) rfl
  · exact x_iload_n_ok (show decode cX9_mid 23 = .ok (.iload_n 3, 1) by decide +kernel) rfl
  · exact x_callV_ok (ci := 7) rfl (by decide) (sX9_dueFor l) hw_1140 hw_1137 hw_1139 hw_42 hw_68 ⟨by decide, by decide, by decide +kernel⟩ rfl (by decide) (by decide) (show decode cX9_mid 24 = .ok (.invokevirtual 212, 3) by decide +kernel)
  · exact x_iadd_ok (show decode cX9_mid 27 = .ok (.iadd, 1) by decide +kernel)
  · exact x_istore_n_ok (show decode cX9_mid 28 = .ok (.istore_n 2, 1) by decide +kernel) rfl (by decide)
  · exact x_iinc_ok (show decode cX9_mid 29 = .ok (.iinc 3 1, 3) by decide +kernel) (by decide) (by decide)
  · exact x_goto_ok (show decode cX9_mid 32 = .ok (.goto (-19), 3) by decide +kernel) (by decide)
  · exact x_aload_n_ok (show decode cX9_mid 35 = .ok (.aload_n 0, 1) by decide +kernel) rfl
  · exact x_iload_n_ok (show decode cX9_mid 36 = .ok (.iload_n 2, 1) by decide +kernel) rfl
  · exact x_callV_ok (ci := 7) rfl (by decide) (sX9_tellParts l) hw_1264 hw_1261 hw_1263 hw_55 hw_68 ⟨by decide, by decide, by decide +kernel⟩ rfl (by decide) (by decide) (show decode cX9_mid 37 = .ok (.invokevirtual 265, 3) by decide +kernel)
  · exact x_iret_ok (show decode cX9_mid 40 = .ok (.ireturn, 1) by decide +kernel)
noncomputable def FX9_mid : List Value → xS → Option xR := xden tX9_mid 4 (some .int) 0
theorem sX9_mid (l : Launch) : xSound l yX9_mid cX9_mid 4 (some .int) 8 0 FX9_mid := x_den (by decide) (tX9_mid_ok l)
noncomputable def tX8_lots : List (Nat × xO) := [(0, x_iload 1 1), (1, x_push (.int (nI 4)) 1), (2, x_call 0 2 FX8_among), (5, x_ifeq 33), (8, x_iload 2 1), (9, x_push (.int (nI 1)) 1), (10, x_cmplt 33), (13, x_iload 2 1), (14, x_push (.int (nI 40)) 2), (16, x_cmpgt 33), (19, x_iload 3 1), (20, x_push (.int (nI 1)) 1), (21, x_cmplt 33), (24, x_iload 3 1), (25, x_i2l), (26, x_push (.long 2147483647) 3), (29, x_lcmp), (30, x_iflt 35), (33, x_push (.int (-1)) 1), (34, x_iret), (35, x_iload 3 1), (36, x_i2l), (37, x_lstore 4 2), (39, x_push (.int (nI 0)) 1), (40, x_istore 6 2), (42, x_push (.int (nI 0)) 1), (43, x_istore 7 2), (45, x_iload 7 2), (47, x_iload 2 1), (48, x_cmpge 93), (51, x_lload 4 2), (53, x_push (.long 48271) 3), (56, x_ll (fun x y => x * y)), (57, x_push (.long 2147483647) 3), (60, x_lrem), (61, x_lstore 4 2), (63, x_iload 6 2), (65, x_aload 0 1), (66, x_getR 6 2), (69, x_iload 1 1), (70, x_lload 4 2), (72, x_push (.long 8) 3), (75, x_ldiv), (76, x_push (.long 216) 3), (79, x_lrem), (80, x_l2i), (81, x_callV 3 0 3 FX4_owedBy), (84, x_ii (fun x y => x + y)), (85, x_istore 6 2), (87, x_iinc 7 (nI 1)), (90, x_goto 45), (93, x_iload 6 2), (95, x_iret)]
set_option maxRecDepth 100000 in
theorem tX8_lots_ok (l : Launch) : ∀ q ∈ tX8_lots, xOK l cX8_lots RX8 8 7 0 (yX8_lots.name = "<init>") q.1 q.2 := by
  unfold tX8_lots
  refine List.forall_mem_cons.mpr ⟨?_, List.forall_mem_cons.mpr ⟨?_, List.forall_mem_cons.mpr ⟨?_, List.forall_mem_cons.mpr ⟨?_, List.forall_mem_cons.mpr ⟨?_, List.forall_mem_cons.mpr ⟨?_, List.forall_mem_cons.mpr ⟨?_, List.forall_mem_cons.mpr ⟨?_, List.forall_mem_cons.mpr ⟨?_, List.forall_mem_cons.mpr ⟨?_, List.forall_mem_cons.mpr ⟨?_, List.forall_mem_cons.mpr ⟨?_, List.forall_mem_cons.mpr ⟨?_, List.forall_mem_cons.mpr ⟨?_, List.forall_mem_cons.mpr ⟨?_, List.forall_mem_cons.mpr ⟨?_, List.forall_mem_cons.mpr ⟨?_, List.forall_mem_cons.mpr ⟨?_, List.forall_mem_cons.mpr ⟨?_, List.forall_mem_cons.mpr ⟨?_, List.forall_mem_cons.mpr ⟨?_, List.forall_mem_cons.mpr ⟨?_, List.forall_mem_cons.mpr ⟨?_, List.forall_mem_cons.mpr ⟨?_, List.forall_mem_cons.mpr ⟨?_, List.forall_mem_cons.mpr ⟨?_, List.forall_mem_cons.mpr ⟨?_, List.forall_mem_cons.mpr ⟨?_, List.forall_mem_cons.mpr ⟨?_, List.forall_mem_cons.mpr ⟨?_, List.forall_mem_cons.mpr ⟨?_, List.forall_mem_cons.mpr ⟨?_, List.forall_mem_cons.mpr ⟨?_, List.forall_mem_cons.mpr ⟨?_, List.forall_mem_cons.mpr ⟨?_, List.forall_mem_cons.mpr ⟨?_, List.forall_mem_cons.mpr ⟨?_, List.forall_mem_cons.mpr ⟨?_, List.forall_mem_cons.mpr ⟨?_, List.forall_mem_cons.mpr ⟨?_, List.forall_mem_cons.mpr ⟨?_, List.forall_mem_cons.mpr ⟨?_, List.forall_mem_cons.mpr ⟨?_, List.forall_mem_cons.mpr ⟨?_, List.forall_mem_cons.mpr ⟨?_, List.forall_mem_cons.mpr ⟨?_, List.forall_mem_cons.mpr ⟨?_, List.forall_mem_cons.mpr ⟨?_, List.forall_mem_cons.mpr ⟨?_, List.forall_mem_cons.mpr ⟨?_, List.forall_mem_cons.mpr ⟨?_, List.forall_mem_cons.mpr ⟨?_, List.forall_mem_cons.mpr ⟨?_, fun _ h => absurd h List.not_mem_nil⟩⟩⟩⟩⟩⟩⟩⟩⟩⟩⟩⟩⟩⟩⟩⟩⟩⟩⟩⟩⟩⟩⟩⟩⟩⟩⟩⟩⟩⟩⟩⟩⟩⟩⟩⟩⟩⟩⟩⟩⟩⟩⟩⟩⟩⟩⟩⟩⟩⟩⟩⟩⟩
  · exact x_iload_n_ok (show decode cX8_lots 0 = .ok (.iload_n 1, 1) by decide +kernel) rfl
  · exact x_iconst_ok (show decode cX8_lots 1 = .ok (.iconst 4, 1) by decide +kernel) (by decide)
  · exact x_callS_ok (sX8_among l) hw_268 hw_266 hw_267 hw_61 ⟨by decide, by decide, by decide +kernel⟩ (by decide) (by decide) (show decode cX8_lots 2 = .ok (.invokestatic 65, 3) by decide +kernel)
  · exact x_ifeq_ok (show decode cX8_lots 5 = .ok (.ifCond .eq 28, 3) by decide +kernel) (by decide)
  · exact x_iload_n_ok (show decode cX8_lots 8 = .ok (.iload_n 2, 1) by decide +kernel) rfl
  · exact x_iconst_ok (show decode cX8_lots 9 = .ok (.iconst 1, 1) by decide +kernel) (by decide)
  · exact x_cmplt_ok (show decode cX8_lots 10 = .ok (.if_icmp .lt 23, 3) by decide +kernel) (by decide)
  · exact x_iload_n_ok (show decode cX8_lots 13 = .ok (.iload_n 2, 1) by decide +kernel) rfl
  · exact x_bipush_ok (show decode cX8_lots 14 = .ok (.bipush 40, 2) by decide +kernel) (by decide)
  · exact x_cmpgt_ok (show decode cX8_lots 16 = .ok (.if_icmp .gt 17, 3) by decide +kernel) (by decide)
  · exact x_iload_n_ok (show decode cX8_lots 19 = .ok (.iload_n 3, 1) by decide +kernel) rfl
  · exact x_iconst_ok (show decode cX8_lots 20 = .ok (.iconst 1, 1) by decide +kernel) (by decide)
  · exact x_cmplt_ok (show decode cX8_lots 21 = .ok (.if_icmp .lt 12, 3) by decide +kernel) (by decide)
  · exact x_iload_n_ok (show decode cX8_lots 24 = .ok (.iload_n 3, 1) by decide +kernel) rfl
  · exact x_i2l_ok (show decode cX8_lots 25 = .ok (.i2l, 1) by decide +kernel)
  · exact x_ldc2_ok (show decode cX8_lots 26 = .ok (.ldc2_w 280, 3) by decide +kernel) hw_769
  · exact x_lcmp_ok (show decode cX8_lots 29 = .ok (.lcmp, 1) by decide +kernel)
  · exact x_iflt_ok (show decode cX8_lots 30 = .ok (.ifCond .lt 5, 3) by decide +kernel) (by decide)
  · exact x_iconst_ok (show decode cX8_lots 33 = .ok (.iconst (-1), 1) by decide +kernel) (by decide)
  · exact x_iret_ok (show decode cX8_lots 34 = .ok (.ireturn, 1) by decide +kernel)
  · exact x_iload_n_ok (show decode cX8_lots 35 = .ok (.iload_n 3, 1) by decide +kernel) rfl
  · exact x_i2l_ok (show decode cX8_lots 36 = .ok (.i2l, 1) by decide +kernel)
  · exact x_lstore_ok (show decode cX8_lots 37 = .ok (.lstore 4, 2) by decide +kernel) (by decide)
  · exact x_iconst_ok (show decode cX8_lots 39 = .ok (.iconst 0, 1) by decide +kernel) (by decide)
  · exact x_istore_ok (show decode cX8_lots 40 = .ok (.istore 6, 2) by decide +kernel) (by decide)
  · exact x_iconst_ok (show decode cX8_lots 42 = .ok (.iconst 0, 1) by decide +kernel) (by decide)
  · exact x_istore_ok (show decode cX8_lots 43 = .ok (.istore 7, 2) by decide +kernel) (by decide)
  · exact x_iload_ok (show decode cX8_lots 45 = .ok (.iload 7, 2) by decide +kernel)
  · exact x_iload_n_ok (show decode cX8_lots 47 = .ok (.iload_n 2, 1) by decide +kernel) rfl
  · exact x_cmpge_ok (show decode cX8_lots 48 = .ok (.if_icmp .ge 45, 3) by decide +kernel) (by decide)
  · exact x_lload_ok (show decode cX8_lots 51 = .ok (.lload 4, 2) by decide +kernel)
  · exact x_ldc2_ok (show decode cX8_lots 53 = .ok (.ldc2_w 282, 3) by decide +kernel) hw_770
  · exact x_lmul_ok (show decode cX8_lots 56 = .ok (.lmul, 1) by decide +kernel)
  · exact x_ldc2_ok (show decode cX8_lots 57 = .ok (.ldc2_w 280, 3) by decide +kernel) hw_769
  · exact x_lrem_ok (show decode cX8_lots 60 = .ok (.lrem, 1) by decide +kernel)
  · exact x_lstore_ok (show decode cX8_lots 61 = .ok (.lstore 4, 2) by decide +kernel) (by decide)
  · exact x_iload_ok (show decode cX8_lots 63 = .ok (.iload 6, 2) by decide +kernel)
  · exact x_aload_n_ok (show decode cX8_lots 65 = .ok (.aload_n 0, 1) by decide +kernel) rfl
  · exact x_getR_ok (ci := 6) (k := 2) rfl (by decide) (by decide) hw_224 (show decode cX8_lots 66 = .ok (.getfield 26, 3) by decide +kernel)
  · exact x_iload_n_ok (show decode cX8_lots 69 = .ok (.iload_n 1, 1) by decide +kernel) rfl
  · exact x_lload_ok (show decode cX8_lots 70 = .ok (.lload 4, 2) by decide +kernel)
  · exact x_ldc2_ok (show decode cX8_lots 72 = .ok (.ldc2_w 284, 3) by decide +kernel) hw_771
  · exact x_ldiv_ok (show decode cX8_lots 75 = .ok (.ldiv, 1) by decide +kernel)
  · exact x_ldc2_ok (show decode cX8_lots 76 = .ok (.ldc2_w 274, 3) by decide +kernel) hw_753
  · exact x_lrem_ok (show decode cX8_lots 79 = .ok (.lrem, 1) by decide +kernel)
  · exact x_l2i_ok (show decode cX8_lots 80 = .ok (.l2i, 1) by decide +kernel)
  · exact x_callV_ok (ci := 3) rfl (by decide) (sX4_owedBy l) hw_595 hw_592 hw_593 hw_594 hw_64 ⟨by decide, by decide, by decide +kernel⟩ rfl (by decide) (by decide) (show decode cX8_lots 81 = .ok (.invokevirtual 194, 3) by decide +kernel)
  · exact x_iadd_ok (show decode cX8_lots 84 = .ok (.iadd, 1) by decide +kernel)
  · exact x_istore_ok (show decode cX8_lots 85 = .ok (.istore 6, 2) by decide +kernel) (by decide)
  · exact x_iinc_ok (show decode cX8_lots 87 = .ok (.iinc 7 1, 3) by decide +kernel) (by decide) (by decide)
  · exact x_goto_ok (show decode cX8_lots 90 = .ok (.goto (-45), 3) by decide +kernel) (by decide)
  · exact x_iload_ok (show decode cX8_lots 93 = .ok (.iload 6, 2) by decide +kernel)
  · exact x_iret_ok (show decode cX8_lots 95 = .ok (.ireturn, 1) by decide +kernel)
noncomputable def FX8_lots : List Value → xS → Option xR := xden tX8_lots 8 (some .int) 0
theorem sX8_lots (l : Launch) : xSound l yX8_lots cX8_lots 8 (some .int) 7 0 FX8_lots := x_den (by decide) (tX8_lots_ok l)
noncomputable def tX9_lots : List (Nat × xO) := [(0, x_iload 1 1), (1, x_call 0 1 FX9_isPerson), (4, x_ifeq 31), (7, x_iload 2 1), (8, x_i2l), (9, x_push (.long 1) 1), (10, x_push (.long 40) 3), (13, x_call 0 3 FX9_in), (16, x_ifeq 31), (19, x_iload 3 1), (20, x_i2l), (21, x_push (.long 1) 1), (22, x_push (.long 2147483646) 3), (25, x_call 0 3 FX9_in), (28, x_ifne 33), (31, x_push (.int (-1)) 1), (32, x_iret), (33, x_iload 3 1), (34, x_i2l), (35, x_lstore 4 2), (37, x_push (.int (nI 0)) 1), (38, x_istore 6 2), (40, x_push (.int (nI 0)) 1), (41, x_istore 7 2), (43, x_iload 7 2), (45, x_iload 2 1), (46, x_cmpge 88), (49, x_lload 4 2), (51, x_push (.long 48271) 3), (54, x_ll (fun x y => x * y)), (55, x_push (.long 2147483647) 3), (58, x_lrem), (59, x_lstore 4 2), (61, x_iload 6 2), (63, x_aload 0 1), (64, x_iload 1 1), (65, x_lload 4 2), (67, x_push (.long 8) 3), (70, x_ldiv), (71, x_push (.long 216) 3), (74, x_lrem), (75, x_l2i), (76, x_callV 7 0 3 FX9_dueFor), (79, x_ii (fun x y => x + y)), (80, x_istore 6 2), (82, x_iinc 7 (nI 1)), (85, x_goto 43), (88, x_iload 6 2), (90, x_iret)]
set_option maxRecDepth 100000 in
theorem tX9_lots_ok (l : Launch) : ∀ q ∈ tX9_lots, xOK l cX9_lots RX9 8 8 0 (yX9_lots.name = "<init>") q.1 q.2 := by
  unfold tX9_lots
  refine List.forall_mem_cons.mpr ⟨?_, List.forall_mem_cons.mpr ⟨?_, List.forall_mem_cons.mpr ⟨?_, List.forall_mem_cons.mpr ⟨?_, List.forall_mem_cons.mpr ⟨?_, List.forall_mem_cons.mpr ⟨?_, List.forall_mem_cons.mpr ⟨?_, List.forall_mem_cons.mpr ⟨?_, List.forall_mem_cons.mpr ⟨?_, List.forall_mem_cons.mpr ⟨?_, List.forall_mem_cons.mpr ⟨?_, List.forall_mem_cons.mpr ⟨?_, List.forall_mem_cons.mpr ⟨?_, List.forall_mem_cons.mpr ⟨?_, List.forall_mem_cons.mpr ⟨?_, List.forall_mem_cons.mpr ⟨?_, List.forall_mem_cons.mpr ⟨?_, List.forall_mem_cons.mpr ⟨?_, List.forall_mem_cons.mpr ⟨?_, List.forall_mem_cons.mpr ⟨?_, List.forall_mem_cons.mpr ⟨?_, List.forall_mem_cons.mpr ⟨?_, List.forall_mem_cons.mpr ⟨?_, List.forall_mem_cons.mpr ⟨?_, List.forall_mem_cons.mpr ⟨?_, List.forall_mem_cons.mpr ⟨?_, List.forall_mem_cons.mpr ⟨?_, List.forall_mem_cons.mpr ⟨?_, List.forall_mem_cons.mpr ⟨?_, List.forall_mem_cons.mpr ⟨?_, List.forall_mem_cons.mpr ⟨?_, List.forall_mem_cons.mpr ⟨?_, List.forall_mem_cons.mpr ⟨?_, List.forall_mem_cons.mpr ⟨?_, List.forall_mem_cons.mpr ⟨?_, List.forall_mem_cons.mpr ⟨?_, List.forall_mem_cons.mpr ⟨?_, List.forall_mem_cons.mpr ⟨?_, List.forall_mem_cons.mpr ⟨?_, List.forall_mem_cons.mpr ⟨?_, List.forall_mem_cons.mpr ⟨?_, List.forall_mem_cons.mpr ⟨?_, List.forall_mem_cons.mpr ⟨?_, List.forall_mem_cons.mpr ⟨?_, List.forall_mem_cons.mpr ⟨?_, List.forall_mem_cons.mpr ⟨?_, List.forall_mem_cons.mpr ⟨?_, List.forall_mem_cons.mpr ⟨?_, List.forall_mem_cons.mpr ⟨?_, fun _ h => absurd h List.not_mem_nil⟩⟩⟩⟩⟩⟩⟩⟩⟩⟩⟩⟩⟩⟩⟩⟩⟩⟩⟩⟩⟩⟩⟩⟩⟩⟩⟩⟩⟩⟩⟩⟩⟩⟩⟩⟩⟩⟩⟩⟩⟩⟩⟩⟩⟩⟩⟩⟩⟩
  · exact x_iload_n_ok (show decode cX9_lots 0 = .ok (.iload_n 1, 1) by decide +kernel) rfl
  · exact x_callS_ok (sX9_isPerson l) hw_1099 hw_1097 hw_1098 hw_68 ⟨by decide, by decide, by decide +kernel⟩ (by decide) (by decide) (show decode cX9_lots 1 = .ok (.invokestatic 201, 3) by decide +kernel)
  · exact x_ifeq_ok (show decode cX9_lots 4 = .ok (.ifCond .eq 27, 3) by decide +kernel) (by decide)
  · exact x_iload_n_ok (show decode cX9_lots 7 = .ok (.iload_n 2, 1) by decide +kernel) rfl
  · exact x_i2l_ok (show decode cX9_lots 8 = .ok (.i2l, 1) by decide +kernel)
  · exact x_lconst_ok (show decode cX9_lots 9 = .ok (.lconst 1, 1) by decide +kernel) rfl
  · exact x_ldc2_ok (show decode cX9_lots 10 = .ok (.ldc2_w 268, 3) by decide +kernel) hw_1273
  · exact x_callS_ok (sX9_in l) hw_918 hw_916 hw_917 hw_68 ⟨by decide, by decide, by decide +kernel⟩ (by decide) (by decide) (show decode cX9_lots 13 = .ok (.invokestatic 60, 3) by decide +kernel)
  · exact x_ifeq_ok (show decode cX9_lots 16 = .ok (.ifCond .eq 15, 3) by decide +kernel) (by decide)
  · exact x_iload_n_ok (show decode cX9_lots 19 = .ok (.iload_n 3, 1) by decide +kernel) rfl
  · exact x_i2l_ok (show decode cX9_lots 20 = .ok (.i2l, 1) by decide +kernel)
  · exact x_lconst_ok (show decode cX9_lots 21 = .ok (.lconst 1, 1) by decide +kernel) rfl
  · exact x_ldc2_ok (show decode cX9_lots 22 = .ok (.ldc2_w 270, 3) by decide +kernel) hw_1274
  · exact x_callS_ok (sX9_in l) hw_918 hw_916 hw_917 hw_68 ⟨by decide, by decide, by decide +kernel⟩ (by decide) (by decide) (show decode cX9_lots 25 = .ok (.invokestatic 60, 3) by decide +kernel)
  · exact x_ifne_ok (show decode cX9_lots 28 = .ok (.ifCond .ne 5, 3) by decide +kernel) (by decide)
  · exact x_iconst_ok (show decode cX9_lots 31 = .ok (.iconst (-1), 1) by decide +kernel) (by decide)
  · exact x_iret_ok (show decode cX9_lots 32 = .ok (.ireturn, 1) by decide +kernel)
  · exact x_iload_n_ok (show decode cX9_lots 33 = .ok (.iload_n 3, 1) by decide +kernel) rfl
  · exact x_i2l_ok (show decode cX9_lots 34 = .ok (.i2l, 1) by decide +kernel)
  · exact x_lstore_ok (show decode cX9_lots 35 = .ok (.lstore 4, 2) by decide +kernel) (by decide)
  · exact x_iconst_ok (show decode cX9_lots 37 = .ok (.iconst 0, 1) by decide +kernel) (by decide)
  · exact x_istore_ok (show decode cX9_lots 38 = .ok (.istore 6, 2) by decide +kernel) (by decide)
  · exact x_iconst_ok (show decode cX9_lots 40 = .ok (.iconst 0, 1) by decide +kernel) (by decide)
  · exact x_istore_ok (show decode cX9_lots 41 = .ok (.istore 7, 2) by decide +kernel) (by decide)
  · exact x_iload_ok (show decode cX9_lots 43 = .ok (.iload 7, 2) by decide +kernel)
  · exact x_iload_n_ok (show decode cX9_lots 45 = .ok (.iload_n 2, 1) by decide +kernel) rfl
  · exact x_cmpge_ok (show decode cX9_lots 46 = .ok (.if_icmp .ge 42, 3) by decide +kernel) (by decide)
  · exact x_lload_ok (show decode cX9_lots 49 = .ok (.lload 4, 2) by decide +kernel)
  · exact x_ldc2_ok (show decode cX9_lots 51 = .ok (.ldc2_w 272, 3) by decide +kernel) hw_1275
  · exact x_lmul_ok (show decode cX9_lots 54 = .ok (.lmul, 1) by decide +kernel)
  · exact x_ldc2_ok (show decode cX9_lots 55 = .ok (.ldc2_w 274, 3) by decide +kernel) hw_1276
  · exact x_lrem_ok (show decode cX9_lots 58 = .ok (.lrem, 1) by decide +kernel)
  · exact x_lstore_ok (show decode cX9_lots 59 = .ok (.lstore 4, 2) by decide +kernel) (by decide)
  · exact x_iload_ok (show decode cX9_lots 61 = .ok (.iload 6, 2) by decide +kernel)
  · exact x_aload_n_ok (show decode cX9_lots 63 = .ok (.aload_n 0, 1) by decide +kernel) rfl
  · exact x_iload_n_ok (show decode cX9_lots 64 = .ok (.iload_n 1, 1) by decide +kernel) rfl
  · exact x_lload_ok (show decode cX9_lots 65 = .ok (.lload 4, 2) by decide +kernel)
  · exact x_ldc2_ok (show decode cX9_lots 67 = .ok (.ldc2_w 276, 3) by decide +kernel) hw_1277
  · exact x_ldiv_ok (show decode cX9_lots 70 = .ok (.ldiv, 1) by decide +kernel)
  · exact x_ldc2_ok (show decode cX9_lots 71 = .ok (.ldc2_w 260, 3) by decide +kernel) hw_1256
  · exact x_lrem_ok (show decode cX9_lots 74 = .ok (.lrem, 1) by decide +kernel)
  · exact x_l2i_ok (show decode cX9_lots 75 = .ok (.l2i, 1) by decide +kernel)
  · exact x_callV_ok (ci := 7) rfl (by decide) (sX9_dueFor l) hw_1140 hw_1137 hw_1139 hw_42 hw_68 ⟨by decide, by decide, by decide +kernel⟩ rfl (by decide) (by decide) (show decode cX9_lots 76 = .ok (.invokevirtual 212, 3) by decide +kernel)
  · exact x_iadd_ok (show decode cX9_lots 79 = .ok (.iadd, 1) by decide +kernel)
  · exact x_istore_ok (show decode cX9_lots 80 = .ok (.istore 6, 2) by decide +kernel) (by decide)
  · exact x_iinc_ok (show decode cX9_lots 82 = .ok (.iinc 7 1, 3) by decide +kernel) (by decide) (by decide)
  · exact x_goto_ok (show decode cX9_lots 85 = .ok (.goto (-42), 3) by decide +kernel) (by decide)
  · exact x_iload_ok (show decode cX9_lots 88 = .ok (.iload 6, 2) by decide +kernel)
  · exact x_iret_ok (show decode cX9_lots 90 = .ok (.ireturn, 1) by decide +kernel)
noncomputable def FX9_lots : List Value → xS → Option xR := xden tX9_lots 8 (some .int) 0
theorem sX9_lots (l : Launch) : xSound l yX9_lots cX9_lots 8 (some .int) 8 0 FX9_lots := x_den (by decide) (tX9_lots_ok l)
noncomputable def tX8_asked : List (Nat × xO) := [(0, x_aload 0 1), (1, x_getI 6 10), (4, x_iret)]
set_option maxRecDepth 100000 in
theorem tX8_asked_ok (l : Launch) : ∀ q ∈ tX8_asked, xOK l cX8_asked RX8 1 1 0 (yX8_asked.name = "<init>") q.1 q.2 := by
  unfold tX8_asked
  refine List.forall_mem_cons.mpr ⟨?_, List.forall_mem_cons.mpr ⟨?_, List.forall_mem_cons.mpr ⟨?_, fun _ h => absurd h List.not_mem_nil⟩⟩⟩
  · exact x_aload_n_ok (show decode cX8_asked 0 = .ok (.aload_n 0, 1) by decide +kernel) rfl
  · exact x_getI_ok (ci := 6) (k := 10) rfl (by decide) (by decide) hw_232 (show decode cX8_asked 1 = .ok (.getfield 84, 3) by decide +kernel)
  · exact x_iret_ok (show decode cX8_asked 4 = .ok (.ireturn, 1) by decide +kernel)
noncomputable def FX8_asked : List Value → xS → Option xR := xden tX8_asked 1 (some .int) 0
theorem sX8_asked (l : Launch) : xSound l yX8_asked cX8_asked 1 (some .int) 1 0 FX8_asked := x_den (by decide) (tX8_asked_ok l)
noncomputable def tX9_asked : List (Nat × xO) := [(0, x_aload 0 1), (1, x_getI 7 5), (4, x_iret)]
set_option maxRecDepth 100000 in
theorem tX9_asked_ok (l : Launch) : ∀ q ∈ tX9_asked, xOK l cX9_asked RX9 1 1 0 (yX9_asked.name = "<init>") q.1 q.2 := by
  unfold tX9_asked
  refine List.forall_mem_cons.mpr ⟨?_, List.forall_mem_cons.mpr ⟨?_, List.forall_mem_cons.mpr ⟨?_, fun _ h => absurd h List.not_mem_nil⟩⟩⟩
  · exact x_aload_n_ok (show decode cX9_asked 0 = .ok (.aload_n 0, 1) by decide +kernel) rfl
  · exact x_getI_ok (ci := 7) (k := 5) rfl (by decide) (by decide) hw_849 (show decode cX9_asked 1 = .ok (.getfield 55, 3) by decide +kernel)
  · exact x_iret_ok (show decode cX9_asked 4 = .ok (.ireturn, 1) by decide +kernel)
noncomputable def FX9_asked : List Value → xS → Option xR := xden tX9_asked 1 (some .int) 0
theorem sX9_asked (l : Launch) : xSound l yX9_asked cX9_asked 1 (some .int) 1 0 FX9_asked := x_den (by decide) (tX9_asked_ok l)
noncomputable def tX8_upper : List (Nat × xO) := [(0, x_aload 0 1), (1, x_getL 6 11), (4, x_lret)]
set_option maxRecDepth 100000 in
theorem tX8_upper_ok (l : Launch) : ∀ q ∈ tX8_upper, xOK l cX8_upper RX8 1 1 0 (yX8_upper.name = "<init>") q.1 q.2 := by
  unfold tX8_upper
  refine List.forall_mem_cons.mpr ⟨?_, List.forall_mem_cons.mpr ⟨?_, List.forall_mem_cons.mpr ⟨?_, fun _ h => absurd h List.not_mem_nil⟩⟩⟩
  · exact x_aload_n_ok (show decode cX8_upper 0 = .ok (.aload_n 0, 1) by decide +kernel) rfl
  · exact x_getL_ok (ci := 6) (k := 11) rfl (by decide) (by decide) hw_233 (show decode cX8_upper 1 = .ok (.getfield 286, 3) by decide +kernel)
  · exact x_lret_ok (show decode cX8_upper 4 = .ok (.lreturn, 1) by decide +kernel)
noncomputable def FX8_upper : List Value → xS → Option xR := xden tX8_upper 1 (some .long) 0
theorem sX8_upper (l : Launch) : xSound l yX8_upper cX8_upper 1 (some .long) 1 0 FX8_upper := x_den (by decide) (tX8_upper_ok l)
noncomputable def tX9_upper : List (Nat × xO) := [(0, x_aload 0 1), (1, x_getL 7 6), (4, x_lret)]
set_option maxRecDepth 100000 in
theorem tX9_upper_ok (l : Launch) : ∀ q ∈ tX9_upper, xOK l cX9_upper RX9 1 1 0 (yX9_upper.name = "<init>") q.1 q.2 := by
  unfold tX9_upper
  refine List.forall_mem_cons.mpr ⟨?_, List.forall_mem_cons.mpr ⟨?_, List.forall_mem_cons.mpr ⟨?_, fun _ h => absurd h List.not_mem_nil⟩⟩⟩
  · exact x_aload_n_ok (show decode cX9_upper 0 = .ok (.aload_n 0, 1) by decide +kernel) rfl
  · exact x_getL_ok (ci := 7) (k := 6) rfl (by decide) (by decide) hw_850 (show decode cX9_upper 1 = .ok (.getfield 262, 3) by decide +kernel)
  · exact x_lret_ok (show decode cX9_upper 4 = .ok (.lreturn, 1) by decide +kernel)
noncomputable def FX9_upper : List Value → xS → Option xR := xden tX9_upper 1 (some .long) 0
theorem sX9_upper (l : Launch) : xSound l yX9_upper cX9_upper 1 (some .long) 1 0 FX9_upper := x_den (by decide) (tX9_upper_ok l)
noncomputable def tX8_lower : List (Nat × xO) := [(0, x_aload 0 1), (1, x_getL 6 12), (4, x_lret)]
set_option maxRecDepth 100000 in
theorem tX8_lower_ok (l : Launch) : ∀ q ∈ tX8_lower, xOK l cX8_lower RX8 1 1 0 (yX8_lower.name = "<init>") q.1 q.2 := by
  unfold tX8_lower
  refine List.forall_mem_cons.mpr ⟨?_, List.forall_mem_cons.mpr ⟨?_, List.forall_mem_cons.mpr ⟨?_, fun _ h => absurd h List.not_mem_nil⟩⟩⟩
  · exact x_aload_n_ok (show decode cX8_lower 0 = .ok (.aload_n 0, 1) by decide +kernel) rfl
  · exact x_getL_ok (ci := 6) (k := 12) rfl (by decide) (by decide) hw_234 (show decode cX8_lower 1 = .ok (.getfield 61, 3) by decide +kernel)
  · exact x_lret_ok (show decode cX8_lower 4 = .ok (.lreturn, 1) by decide +kernel)
noncomputable def FX8_lower : List Value → xS → Option xR := xden tX8_lower 1 (some .long) 0
theorem sX8_lower (l : Launch) : xSound l yX8_lower cX8_lower 1 (some .long) 1 0 FX8_lower := x_den (by decide) (tX8_lower_ok l)
noncomputable def tX9_lower : List (Nat × xO) := [(0, x_aload 0 1), (1, x_getL 7 7), (4, x_lret)]
set_option maxRecDepth 100000 in
theorem tX9_lower_ok (l : Launch) : ∀ q ∈ tX9_lower, xOK l cX9_lower RX9 1 1 0 (yX9_lower.name = "<init>") q.1 q.2 := by
  unfold tX9_lower
  refine List.forall_mem_cons.mpr ⟨?_, List.forall_mem_cons.mpr ⟨?_, List.forall_mem_cons.mpr ⟨?_, fun _ h => absurd h List.not_mem_nil⟩⟩⟩
  · exact x_aload_n_ok (show decode cX9_lower 0 = .ok (.aload_n 0, 1) by decide +kernel) rfl
  · exact x_getL_ok (ci := 7) (k := 7) rfl (by decide) (by decide) hw_851 (show decode cX9_lower 1 = .ok (.getfield 25, 3) by decide +kernel)
  · exact x_lret_ok (show decode cX9_lower 4 = .ok (.lreturn, 1) by decide +kernel)
noncomputable def FX9_lower : List Value → xS → Option xR := xden tX9_lower 1 (some .long) 0
theorem sX9_lower (l : Launch) : xSound l yX9_lower cX9_lower 1 (some .long) 1 0 FX9_lower := x_den (by decide) (tX9_lower_ok l)
noncomputable def tX4_countFading : List (Nat × xO) := [(0, x_push (.int (nI 0)) 1), (1, x_istore 1 1), (2, x_push (.int (nI 0)) 1), (3, x_istore 2 1), (4, x_iload 2 1), (5, x_aload 0 1), (6, x_getI 3 1), (9, x_cmpge 38), (12, x_iload 1 1), (13, x_aload 0 1), (14, x_getR 3 0), (17, x_iload 2 1), (18, x_aald), (19, x_getI 1 5), (22, x_ifeq 29), (25, x_push (.int (nI 1)) 1), (26, x_goto 30), (29, x_push (.int (nI 0)) 1), (30, x_ii (fun x y => x + y)), (31, x_istore 1 1), (32, x_iinc 2 (nI 1)), (35, x_goto 4), (38, x_iload 1 1), (39, x_iret)]
set_option maxRecDepth 100000 in
theorem tX4_countFading_ok (l : Launch) : ∀ q ∈ tX4_countFading, xOK l cX4_countFading RX4 3 1 0 (yX4_countFading.name = "<init>") q.1 q.2 := by
  unfold tX4_countFading
  refine List.forall_mem_cons.mpr ⟨?_, List.forall_mem_cons.mpr ⟨?_, List.forall_mem_cons.mpr ⟨?_, List.forall_mem_cons.mpr ⟨?_, List.forall_mem_cons.mpr ⟨?_, List.forall_mem_cons.mpr ⟨?_, List.forall_mem_cons.mpr ⟨?_, List.forall_mem_cons.mpr ⟨?_, List.forall_mem_cons.mpr ⟨?_, List.forall_mem_cons.mpr ⟨?_, List.forall_mem_cons.mpr ⟨?_, List.forall_mem_cons.mpr ⟨?_, List.forall_mem_cons.mpr ⟨?_, List.forall_mem_cons.mpr ⟨?_, List.forall_mem_cons.mpr ⟨?_, List.forall_mem_cons.mpr ⟨?_, List.forall_mem_cons.mpr ⟨?_, List.forall_mem_cons.mpr ⟨?_, List.forall_mem_cons.mpr ⟨?_, List.forall_mem_cons.mpr ⟨?_, List.forall_mem_cons.mpr ⟨?_, List.forall_mem_cons.mpr ⟨?_, List.forall_mem_cons.mpr ⟨?_, List.forall_mem_cons.mpr ⟨?_, fun _ h => absurd h List.not_mem_nil⟩⟩⟩⟩⟩⟩⟩⟩⟩⟩⟩⟩⟩⟩⟩⟩⟩⟩⟩⟩⟩⟩⟩⟩
  · exact x_iconst_ok (show decode cX4_countFading 0 = .ok (.iconst 0, 1) by decide +kernel) (by decide)
  · exact x_istore_n_ok (show decode cX4_countFading 1 = .ok (.istore_n 1, 1) by decide +kernel) rfl (by decide)
  · exact x_iconst_ok (show decode cX4_countFading 2 = .ok (.iconst 0, 1) by decide +kernel) (by decide)
  · exact x_istore_n_ok (show decode cX4_countFading 3 = .ok (.istore_n 2, 1) by decide +kernel) rfl (by decide)
  · exact x_iload_n_ok (show decode cX4_countFading 4 = .ok (.iload_n 2, 1) by decide +kernel) rfl
  · exact x_aload_n_ok (show decode cX4_countFading 5 = .ok (.aload_n 0, 1) by decide +kernel) rfl
  · exact x_getI_ok (ci := 3) (k := 1) rfl (by decide) (by decide) hw_175 (show decode cX4_countFading 6 = .ok (.getfield 22, 3) by decide +kernel)
  · exact x_cmpge_ok (show decode cX4_countFading 9 = .ok (.if_icmp .ge 29, 3) by decide +kernel) (by decide)
  · exact x_iload_n_ok (show decode cX4_countFading 12 = .ok (.iload_n 1, 1) by decide +kernel) rfl
  · exact x_aload_n_ok (show decode cX4_countFading 13 = .ok (.aload_n 0, 1) by decide +kernel) rfl
  · exact x_getR_ok (ci := 3) (k := 0) rfl (by decide) (by decide) hw_173 (show decode cX4_countFading 14 = .ok (.getfield 13, 3) by decide +kernel)
  · exact x_iload_n_ok (show decode cX4_countFading 17 = .ok (.iload_n 2, 1) by decide +kernel) rfl
  · exact x_aald_ok (show decode cX4_countFading 18 = .ok (.aaload, 1) by decide +kernel)
  · exact x_getI_ok (ci := 1) (k := 5) rfl (by decide) (by decide) hw_157 (show decode cX4_countFading 19 = .ok (.getfield 55, 3) by decide +kernel)
  · exact x_ifeq_ok (show decode cX4_countFading 22 = .ok (.ifCond .eq 7, 3) by decide +kernel) (by decide)
  · exact x_iconst_ok (show decode cX4_countFading 25 = .ok (.iconst 1, 1) by decide +kernel) (by decide)
  · exact x_goto_ok (show decode cX4_countFading 26 = .ok (.goto 4, 3) by decide +kernel) (by decide)
  · exact x_iconst_ok (show decode cX4_countFading 29 = .ok (.iconst 0, 1) by decide +kernel) (by decide)
  · exact x_iadd_ok (show decode cX4_countFading 30 = .ok (.iadd, 1) by decide +kernel)
  · exact x_istore_n_ok (show decode cX4_countFading 31 = .ok (.istore_n 1, 1) by decide +kernel) rfl (by decide)
  · exact x_iinc_ok (show decode cX4_countFading 32 = .ok (.iinc 2 1, 3) by decide +kernel) (by decide) (by decide)
  · exact x_goto_ok (show decode cX4_countFading 35 = .ok (.goto (-31), 3) by decide +kernel) (by decide)
  · exact x_iload_n_ok (show decode cX4_countFading 38 = .ok (.iload_n 1, 1) by decide +kernel) rfl
  · exact x_iret_ok (show decode cX4_countFading 39 = .ok (.ireturn, 1) by decide +kernel)
noncomputable def FX4_countFading : List Value → xS → Option xR := xden tX4_countFading 3 (some .int) 0
theorem sX4_countFading (l : Launch) : xSound l yX4_countFading cX4_countFading 3 (some .int) 1 0 FX4_countFading := x_den (by decide) (tX4_countFading_ok l)
noncomputable def tX4_sumOfDues : List (Nat × xO) := [(0, x_push (.int (nI 0)) 1), (1, x_istore 1 1), (2, x_push (.int (nI 0)) 1), (3, x_istore 2 1), (4, x_iload 2 1), (5, x_aload 0 1), (6, x_getI 3 1), (9, x_cmpge 30), (12, x_iload 1 1), (13, x_aload 0 1), (14, x_getR 3 0), (17, x_iload 2 1), (18, x_aald), (19, x_getI 1 4), (22, x_ii (fun x y => x + y)), (23, x_istore 1 1), (24, x_iinc 2 (nI 1)), (27, x_goto 4), (30, x_iload 1 1), (31, x_iret)]
set_option maxRecDepth 100000 in
theorem tX4_sumOfDues_ok (l : Launch) : ∀ q ∈ tX4_sumOfDues, xOK l cX4_sumOfDues RX4 3 1 0 (yX4_sumOfDues.name = "<init>") q.1 q.2 := by
  unfold tX4_sumOfDues
  refine List.forall_mem_cons.mpr ⟨?_, List.forall_mem_cons.mpr ⟨?_, List.forall_mem_cons.mpr ⟨?_, List.forall_mem_cons.mpr ⟨?_, List.forall_mem_cons.mpr ⟨?_, List.forall_mem_cons.mpr ⟨?_, List.forall_mem_cons.mpr ⟨?_, List.forall_mem_cons.mpr ⟨?_, List.forall_mem_cons.mpr ⟨?_, List.forall_mem_cons.mpr ⟨?_, List.forall_mem_cons.mpr ⟨?_, List.forall_mem_cons.mpr ⟨?_, List.forall_mem_cons.mpr ⟨?_, List.forall_mem_cons.mpr ⟨?_, List.forall_mem_cons.mpr ⟨?_, List.forall_mem_cons.mpr ⟨?_, List.forall_mem_cons.mpr ⟨?_, List.forall_mem_cons.mpr ⟨?_, List.forall_mem_cons.mpr ⟨?_, List.forall_mem_cons.mpr ⟨?_, fun _ h => absurd h List.not_mem_nil⟩⟩⟩⟩⟩⟩⟩⟩⟩⟩⟩⟩⟩⟩⟩⟩⟩⟩⟩⟩
  · exact x_iconst_ok (show decode cX4_sumOfDues 0 = .ok (.iconst 0, 1) by decide +kernel) (by decide)
  · exact x_istore_n_ok (show decode cX4_sumOfDues 1 = .ok (.istore_n 1, 1) by decide +kernel) rfl (by decide)
  · exact x_iconst_ok (show decode cX4_sumOfDues 2 = .ok (.iconst 0, 1) by decide +kernel) (by decide)
  · exact x_istore_n_ok (show decode cX4_sumOfDues 3 = .ok (.istore_n 2, 1) by decide +kernel) rfl (by decide)
  · exact x_iload_n_ok (show decode cX4_sumOfDues 4 = .ok (.iload_n 2, 1) by decide +kernel) rfl
  · exact x_aload_n_ok (show decode cX4_sumOfDues 5 = .ok (.aload_n 0, 1) by decide +kernel) rfl
  · exact x_getI_ok (ci := 3) (k := 1) rfl (by decide) (by decide) hw_175 (show decode cX4_sumOfDues 6 = .ok (.getfield 22, 3) by decide +kernel)
  · exact x_cmpge_ok (show decode cX4_sumOfDues 9 = .ok (.if_icmp .ge 21, 3) by decide +kernel) (by decide)
  · exact x_iload_n_ok (show decode cX4_sumOfDues 12 = .ok (.iload_n 1, 1) by decide +kernel) rfl
  · exact x_aload_n_ok (show decode cX4_sumOfDues 13 = .ok (.aload_n 0, 1) by decide +kernel) rfl
  · exact x_getR_ok (ci := 3) (k := 0) rfl (by decide) (by decide) hw_173 (show decode cX4_sumOfDues 14 = .ok (.getfield 13, 3) by decide +kernel)
  · exact x_iload_n_ok (show decode cX4_sumOfDues 17 = .ok (.iload_n 2, 1) by decide +kernel) rfl
  · exact x_aald_ok (show decode cX4_sumOfDues 18 = .ok (.aaload, 1) by decide +kernel)
  · exact x_getI_ok (ci := 1) (k := 4) rfl (by decide) (by decide) hw_153 (show decode cX4_sumOfDues 19 = .ok (.getfield 52, 3) by decide +kernel)
  · exact x_iadd_ok (show decode cX4_sumOfDues 22 = .ok (.iadd, 1) by decide +kernel)
  · exact x_istore_n_ok (show decode cX4_sumOfDues 23 = .ok (.istore_n 1, 1) by decide +kernel) rfl (by decide)
  · exact x_iinc_ok (show decode cX4_sumOfDues 24 = .ok (.iinc 2 1, 3) by decide +kernel) (by decide) (by decide)
  · exact x_goto_ok (show decode cX4_sumOfDues 27 = .ok (.goto (-23), 3) by decide +kernel) (by decide)
  · exact x_iload_n_ok (show decode cX4_sumOfDues 30 = .ok (.iload_n 1, 1) by decide +kernel) rfl
  · exact x_iret_ok (show decode cX4_sumOfDues 31 = .ok (.ireturn, 1) by decide +kernel)
noncomputable def FX4_sumOfDues : List Value → xS → Option xR := xden tX4_sumOfDues 3 (some .int) 0
theorem sX4_sumOfDues (l : Launch) : xSound l yX4_sumOfDues cX4_sumOfDues 3 (some .int) 1 0 FX4_sumOfDues := x_den (by decide) (tX4_sumOfDues_ok l)
noncomputable def tX4_countOfKind : List (Nat × xO) := [(0, x_push (.int (nI 0)) 1), (1, x_istore 2 1), (2, x_push (.int (nI 0)) 1), (3, x_istore 3 1), (4, x_iload 3 1), (5, x_aload 0 1), (6, x_getI 3 1), (9, x_cmpge 42), (12, x_iload 2 1), (13, x_aload 0 1), (14, x_getR 3 0), (17, x_iload 3 1), (18, x_aald), (19, x_getI 1 0), (22, x_iload 1 1), (23, x_call 0 2 FX1_isOf), (26, x_ifeq 33), (29, x_push (.int (nI 1)) 1), (30, x_goto 34), (33, x_push (.int (nI 0)) 1), (34, x_ii (fun x y => x + y)), (35, x_istore 2 1), (36, x_iinc 3 (nI 1)), (39, x_goto 4), (42, x_iload 2 1), (43, x_iret)]
set_option maxRecDepth 100000 in
theorem tX4_countOfKind_ok (l : Launch) : ∀ q ∈ tX4_countOfKind, xOK l cX4_countOfKind RX4 4 2 0 (yX4_countOfKind.name = "<init>") q.1 q.2 := by
  unfold tX4_countOfKind
  refine List.forall_mem_cons.mpr ⟨?_, List.forall_mem_cons.mpr ⟨?_, List.forall_mem_cons.mpr ⟨?_, List.forall_mem_cons.mpr ⟨?_, List.forall_mem_cons.mpr ⟨?_, List.forall_mem_cons.mpr ⟨?_, List.forall_mem_cons.mpr ⟨?_, List.forall_mem_cons.mpr ⟨?_, List.forall_mem_cons.mpr ⟨?_, List.forall_mem_cons.mpr ⟨?_, List.forall_mem_cons.mpr ⟨?_, List.forall_mem_cons.mpr ⟨?_, List.forall_mem_cons.mpr ⟨?_, List.forall_mem_cons.mpr ⟨?_, List.forall_mem_cons.mpr ⟨?_, List.forall_mem_cons.mpr ⟨?_, List.forall_mem_cons.mpr ⟨?_, List.forall_mem_cons.mpr ⟨?_, List.forall_mem_cons.mpr ⟨?_, List.forall_mem_cons.mpr ⟨?_, List.forall_mem_cons.mpr ⟨?_, List.forall_mem_cons.mpr ⟨?_, List.forall_mem_cons.mpr ⟨?_, List.forall_mem_cons.mpr ⟨?_, List.forall_mem_cons.mpr ⟨?_, List.forall_mem_cons.mpr ⟨?_, fun _ h => absurd h List.not_mem_nil⟩⟩⟩⟩⟩⟩⟩⟩⟩⟩⟩⟩⟩⟩⟩⟩⟩⟩⟩⟩⟩⟩⟩⟩⟩⟩
  · exact x_iconst_ok (show decode cX4_countOfKind 0 = .ok (.iconst 0, 1) by decide +kernel) (by decide)
  · exact x_istore_n_ok (show decode cX4_countOfKind 1 = .ok (.istore_n 2, 1) by decide +kernel) rfl (by decide)
  · exact x_iconst_ok (show decode cX4_countOfKind 2 = .ok (.iconst 0, 1) by decide +kernel) (by decide)
  · exact x_istore_n_ok (show decode cX4_countOfKind 3 = .ok (.istore_n 3, 1) by decide +kernel) rfl (by decide)
  · exact x_iload_n_ok (show decode cX4_countOfKind 4 = .ok (.iload_n 3, 1) by decide +kernel) rfl
  · exact x_aload_n_ok (show decode cX4_countOfKind 5 = .ok (.aload_n 0, 1) by decide +kernel) rfl
  · exact x_getI_ok (ci := 3) (k := 1) rfl (by decide) (by decide) hw_175 (show decode cX4_countOfKind 6 = .ok (.getfield 22, 3) by decide +kernel)
  · exact x_cmpge_ok (show decode cX4_countOfKind 9 = .ok (.if_icmp .ge 33, 3) by decide +kernel) (by decide)
  · exact x_iload_n_ok (show decode cX4_countOfKind 12 = .ok (.iload_n 2, 1) by decide +kernel) rfl
  · exact x_aload_n_ok (show decode cX4_countOfKind 13 = .ok (.aload_n 0, 1) by decide +kernel) rfl
  · exact x_getR_ok (ci := 3) (k := 0) rfl (by decide) (by decide) hw_173 (show decode cX4_countOfKind 14 = .ok (.getfield 13, 3) by decide +kernel)
  · exact x_iload_n_ok (show decode cX4_countOfKind 17 = .ok (.iload_n 3, 1) by decide +kernel) rfl
  · exact x_aald_ok (show decode cX4_countOfKind 18 = .ok (.aaload, 1) by decide +kernel)
  · exact x_getI_ok (ci := 1) (k := 0) rfl (by decide) (by decide) hw_138 (show decode cX4_countOfKind 19 = .ok (.getfield 40, 3) by decide +kernel)
  · exact x_iload_n_ok (show decode cX4_countOfKind 22 = .ok (.iload_n 1, 1) by decide +kernel) rfl
  · exact x_callS_ok (sX1_isOf l) hw_488 hw_800 hw_487 hw_70 ⟨by decide, by decide, by decide +kernel⟩ (by decide) (by decide) (show decode cX4_countOfKind 23 = .ok (.invokestatic 93, 3) by decide +kernel)
  · exact x_ifeq_ok (show decode cX4_countOfKind 26 = .ok (.ifCond .eq 7, 3) by decide +kernel) (by decide)
  · exact x_iconst_ok (show decode cX4_countOfKind 29 = .ok (.iconst 1, 1) by decide +kernel) (by decide)
  · exact x_goto_ok (show decode cX4_countOfKind 30 = .ok (.goto 4, 3) by decide +kernel) (by decide)
  · exact x_iconst_ok (show decode cX4_countOfKind 33 = .ok (.iconst 0, 1) by decide +kernel) (by decide)
  · exact x_iadd_ok (show decode cX4_countOfKind 34 = .ok (.iadd, 1) by decide +kernel)
  · exact x_istore_n_ok (show decode cX4_countOfKind 35 = .ok (.istore_n 2, 1) by decide +kernel) rfl (by decide)
  · exact x_iinc_ok (show decode cX4_countOfKind 36 = .ok (.iinc 3 1, 3) by decide +kernel) (by decide) (by decide)
  · exact x_goto_ok (show decode cX4_countOfKind 39 = .ok (.goto (-35), 3) by decide +kernel) (by decide)
  · exact x_iload_n_ok (show decode cX4_countOfKind 42 = .ok (.iload_n 2, 1) by decide +kernel) rfl
  · exact x_iret_ok (show decode cX4_countOfKind 43 = .ok (.ireturn, 1) by decide +kernel)
noncomputable def FX4_countOfKind : List Value → xS → Option xR := xden tX4_countOfKind 4 (some .int) 0
theorem sX4_countOfKind (l : Launch) : xSound l yX4_countOfKind cX4_countOfKind 4 (some .int) 2 0 FX4_countOfKind := x_den (by decide) (tX4_countOfKind_ok l)
noncomputable def tX8_countRows : List (Nat × xO) := [(0, x_push (.int (nI 0)) 1), (1, x_istore 1 1), (2, x_push (.int (nI 0)) 1), (3, x_istore 2 1), (4, x_iload 2 1), (5, x_push (.int (nI 6)) 2), (7, x_cmpge 36), (10, x_iload 1 1), (11, x_aload 0 1), (12, x_getR 6 0), (15, x_iload 2 1), (16, x_aald), (17, x_callV 4 0 1 FX5_isThere), (20, x_ifeq 27), (23, x_push (.int (nI 1)) 1), (24, x_goto 28), (27, x_push (.int (nI 0)) 1), (28, x_ii (fun x y => x + y)), (29, x_istore 1 1), (30, x_iinc 2 (nI 1)), (33, x_goto 4), (36, x_iload 1 1), (37, x_iret)]
set_option maxRecDepth 100000 in
theorem tX8_countRows_ok (l : Launch) : ∀ q ∈ tX8_countRows, xOK l cX8_countRows RX8 3 2 0 (yX8_countRows.name = "<init>") q.1 q.2 := by
  unfold tX8_countRows
  refine List.forall_mem_cons.mpr ⟨?_, List.forall_mem_cons.mpr ⟨?_, List.forall_mem_cons.mpr ⟨?_, List.forall_mem_cons.mpr ⟨?_, List.forall_mem_cons.mpr ⟨?_, List.forall_mem_cons.mpr ⟨?_, List.forall_mem_cons.mpr ⟨?_, List.forall_mem_cons.mpr ⟨?_, List.forall_mem_cons.mpr ⟨?_, List.forall_mem_cons.mpr ⟨?_, List.forall_mem_cons.mpr ⟨?_, List.forall_mem_cons.mpr ⟨?_, List.forall_mem_cons.mpr ⟨?_, List.forall_mem_cons.mpr ⟨?_, List.forall_mem_cons.mpr ⟨?_, List.forall_mem_cons.mpr ⟨?_, List.forall_mem_cons.mpr ⟨?_, List.forall_mem_cons.mpr ⟨?_, List.forall_mem_cons.mpr ⟨?_, List.forall_mem_cons.mpr ⟨?_, List.forall_mem_cons.mpr ⟨?_, List.forall_mem_cons.mpr ⟨?_, List.forall_mem_cons.mpr ⟨?_, fun _ h => absurd h List.not_mem_nil⟩⟩⟩⟩⟩⟩⟩⟩⟩⟩⟩⟩⟩⟩⟩⟩⟩⟩⟩⟩⟩⟩⟩
  · exact x_iconst_ok (show decode cX8_countRows 0 = .ok (.iconst 0, 1) by decide +kernel) (by decide)
  · exact x_istore_n_ok (show decode cX8_countRows 1 = .ok (.istore_n 1, 1) by decide +kernel) rfl (by decide)
  · exact x_iconst_ok (show decode cX8_countRows 2 = .ok (.iconst 0, 1) by decide +kernel) (by decide)
  · exact x_istore_n_ok (show decode cX8_countRows 3 = .ok (.istore_n 2, 1) by decide +kernel) rfl (by decide)
  · exact x_iload_n_ok (show decode cX8_countRows 4 = .ok (.iload_n 2, 1) by decide +kernel) rfl
  · exact x_bipush_ok (show decode cX8_countRows 5 = .ok (.bipush 6, 2) by decide +kernel) (by decide)
  · exact x_cmpge_ok (show decode cX8_countRows 7 = .ok (.if_icmp .ge 29, 3) by decide +kernel) (by decide)
  · exact x_iload_n_ok (show decode cX8_countRows 10 = .ok (.iload_n 1, 1) by decide +kernel) rfl
  · exact x_aload_n_ok (show decode cX8_countRows 11 = .ok (.aload_n 0, 1) by decide +kernel) rfl
  · exact x_getR_ok (ci := 6) (k := 0) rfl (by decide) (by decide) hw_222 (show decode cX8_countRows 12 = .ok (.getfield 11, 3) by decide +kernel)
  · exact x_iload_n_ok (show decode cX8_countRows 15 = .ok (.iload_n 2, 1) by decide +kernel) rfl
  · exact x_aald_ok (show decode cX8_countRows 16 = .ok (.aaload, 1) by decide +kernel)
  · exact x_callV_ok (ci := 4) rfl (by decide) (sX5_isThere l) hw_292 hw_289 hw_290 hw_291 hw_62 ⟨by decide, by decide, by decide +kernel⟩ rfl (by decide) (by decide) (show decode cX8_countRows 17 = .ok (.invokevirtual 94, 3) by decide +kernel)
  · exact x_ifeq_ok (show decode cX8_countRows 20 = .ok (.ifCond .eq 7, 3) by decide +kernel) (by decide)
  · exact x_iconst_ok (show decode cX8_countRows 23 = .ok (.iconst 1, 1) by decide +kernel) (by decide)
  · exact x_goto_ok (show decode cX8_countRows 24 = .ok (.goto 4, 3) by decide +kernel) (by decide)
  · exact x_iconst_ok (show decode cX8_countRows 27 = .ok (.iconst 0, 1) by decide +kernel) (by decide)
  · exact x_iadd_ok (show decode cX8_countRows 28 = .ok (.iadd, 1) by decide +kernel)
  · exact x_istore_n_ok (show decode cX8_countRows 29 = .ok (.istore_n 1, 1) by decide +kernel) rfl (by decide)
  · exact x_iinc_ok (show decode cX8_countRows 30 = .ok (.iinc 2 1, 3) by decide +kernel) (by decide) (by decide)
  · exact x_goto_ok (show decode cX8_countRows 33 = .ok (.goto (-29), 3) by decide +kernel) (by decide)
  · exact x_iload_n_ok (show decode cX8_countRows 36 = .ok (.iload_n 1, 1) by decide +kernel) rfl
  · exact x_iret_ok (show decode cX8_countRows 37 = .ok (.ireturn, 1) by decide +kernel)
noncomputable def FX8_countRows : List Value → xS → Option xR := xden tX8_countRows 3 (some .int) 0
theorem sX8_countRows (l : Launch) : xSound l yX8_countRows cX8_countRows 3 (some .int) 2 0 FX8_countRows := x_den (by decide) (tX8_countRows_ok l)
noncomputable def tX8_countTexts : List (Nat × xO) := [(0, x_push (.int (nI 0)) 1), (1, x_istore 1 1), (2, x_push (.int (nI 0)) 1), (3, x_istore 2 1), (4, x_iload 2 1), (5, x_push (.int (nI 4)) 1), (6, x_cmpge 35), (9, x_iload 1 1), (10, x_aload 0 1), (11, x_getR 6 1), (14, x_iload 2 1), (15, x_aald), (16, x_callV 5 0 1 FX7_isThere), (19, x_ifeq 26), (22, x_push (.int (nI 1)) 1), (23, x_goto 27), (26, x_push (.int (nI 0)) 1), (27, x_ii (fun x y => x + y)), (28, x_istore 1 1), (29, x_iinc 2 (nI 1)), (32, x_goto 4), (35, x_iload 1 1), (36, x_iret)]
set_option maxRecDepth 100000 in
theorem tX8_countTexts_ok (l : Launch) : ∀ q ∈ tX8_countTexts, xOK l cX8_countTexts RX8 3 2 0 (yX8_countTexts.name = "<init>") q.1 q.2 := by
  unfold tX8_countTexts
  refine List.forall_mem_cons.mpr ⟨?_, List.forall_mem_cons.mpr ⟨?_, List.forall_mem_cons.mpr ⟨?_, List.forall_mem_cons.mpr ⟨?_, List.forall_mem_cons.mpr ⟨?_, List.forall_mem_cons.mpr ⟨?_, List.forall_mem_cons.mpr ⟨?_, List.forall_mem_cons.mpr ⟨?_, List.forall_mem_cons.mpr ⟨?_, List.forall_mem_cons.mpr ⟨?_, List.forall_mem_cons.mpr ⟨?_, List.forall_mem_cons.mpr ⟨?_, List.forall_mem_cons.mpr ⟨?_, List.forall_mem_cons.mpr ⟨?_, List.forall_mem_cons.mpr ⟨?_, List.forall_mem_cons.mpr ⟨?_, List.forall_mem_cons.mpr ⟨?_, List.forall_mem_cons.mpr ⟨?_, List.forall_mem_cons.mpr ⟨?_, List.forall_mem_cons.mpr ⟨?_, List.forall_mem_cons.mpr ⟨?_, List.forall_mem_cons.mpr ⟨?_, List.forall_mem_cons.mpr ⟨?_, fun _ h => absurd h List.not_mem_nil⟩⟩⟩⟩⟩⟩⟩⟩⟩⟩⟩⟩⟩⟩⟩⟩⟩⟩⟩⟩⟩⟩⟩
  · exact x_iconst_ok (show decode cX8_countTexts 0 = .ok (.iconst 0, 1) by decide +kernel) (by decide)
  · exact x_istore_n_ok (show decode cX8_countTexts 1 = .ok (.istore_n 1, 1) by decide +kernel) rfl (by decide)
  · exact x_iconst_ok (show decode cX8_countTexts 2 = .ok (.iconst 0, 1) by decide +kernel) (by decide)
  · exact x_istore_n_ok (show decode cX8_countTexts 3 = .ok (.istore_n 2, 1) by decide +kernel) rfl (by decide)
  · exact x_iload_n_ok (show decode cX8_countTexts 4 = .ok (.iload_n 2, 1) by decide +kernel) rfl
  · exact x_iconst_ok (show decode cX8_countTexts 5 = .ok (.iconst 4, 1) by decide +kernel) (by decide)
  · exact x_cmpge_ok (show decode cX8_countTexts 6 = .ok (.if_icmp .ge 29, 3) by decide +kernel) (by decide)
  · exact x_iload_n_ok (show decode cX8_countTexts 9 = .ok (.iload_n 1, 1) by decide +kernel) rfl
  · exact x_aload_n_ok (show decode cX8_countTexts 10 = .ok (.aload_n 0, 1) by decide +kernel) rfl
  · exact x_getR_ok (ci := 6) (k := 1) rfl (by decide) (by decide) hw_223 (show decode cX8_countTexts 11 = .ok (.getfield 18, 3) by decide +kernel)
  · exact x_iload_n_ok (show decode cX8_countTexts 14 = .ok (.iload_n 2, 1) by decide +kernel) rfl
  · exact x_aald_ok (show decode cX8_countTexts 15 = .ok (.aaload, 1) by decide +kernel)
  · exact x_callV_ok (ci := 5) rfl (by decide) (sX7_isThere l) hw_343 hw_340 hw_341 hw_342 hw_63 ⟨by decide, by decide, by decide +kernel⟩ rfl (by decide) (by decide) (show decode cX8_countTexts 16 = .ok (.invokevirtual 322, 3) by decide +kernel)
  · exact x_ifeq_ok (show decode cX8_countTexts 19 = .ok (.ifCond .eq 7, 3) by decide +kernel) (by decide)
  · exact x_iconst_ok (show decode cX8_countTexts 22 = .ok (.iconst 1, 1) by decide +kernel) (by decide)
  · exact x_goto_ok (show decode cX8_countTexts 23 = .ok (.goto 4, 3) by decide +kernel) (by decide)
  · exact x_iconst_ok (show decode cX8_countTexts 26 = .ok (.iconst 0, 1) by decide +kernel) (by decide)
  · exact x_iadd_ok (show decode cX8_countTexts 27 = .ok (.iadd, 1) by decide +kernel)
  · exact x_istore_n_ok (show decode cX8_countTexts 28 = .ok (.istore_n 1, 1) by decide +kernel) rfl (by decide)
  · exact x_iinc_ok (show decode cX8_countTexts 29 = .ok (.iinc 2 1, 3) by decide +kernel) (by decide) (by decide)
  · exact x_goto_ok (show decode cX8_countTexts 32 = .ok (.goto (-28), 3) by decide +kernel) (by decide)
  · exact x_iload_n_ok (show decode cX8_countTexts 35 = .ok (.iload_n 1, 1) by decide +kernel) rfl
  · exact x_iret_ok (show decode cX8_countTexts 36 = .ok (.ireturn, 1) by decide +kernel)
noncomputable def FX8_countTexts : List Value → xS → Option xR := xden tX8_countTexts 3 (some .int) 0
theorem sX8_countTexts (l : Launch) : xSound l yX8_countTexts cX8_countTexts 3 (some .int) 2 0 FX8_countTexts := x_den (by decide) (tX8_countTexts_ok l)
