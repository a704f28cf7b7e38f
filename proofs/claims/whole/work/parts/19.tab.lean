noncomputable def tX8_eyesLeftBy : List (Nat × xO) := [(0, x_push (.int 65535) 3), (3, x_istore 1 1), (4, x_push (.int (nI 0)) 1), (5, x_istore 2 1), (6, x_iload 2 1), (7, x_push (.int (nI 2)) 1), (8, x_ii (fun x y => x + y)), (9, x_aload 0 1), (10, x_getI 4 1), (13, x_cmpge 65), (16, x_aload 0 1), (17, x_getR 4 0), (20, x_iload 2 1), (21, x_iald), (22, x_aload 0 1), (23, x_getR 4 0), (26, x_iload 2 1), (27, x_push (.int (nI 1)) 1), (28, x_ii (fun x y => x + y)), (29, x_iald), (30, x_call 0 2 FX8_farApart), (33, x_call 0 1 FX8_eyesSayingAlike), (36, x_istore 3 1), (37, x_iload 1 1), (38, x_aload 0 1), (39, x_getR 4 0), (42, x_iload 2 1), (43, x_push (.int (nI 2)) 1), (44, x_ii (fun x y => x + y)), (45, x_iald), (46, x_push (.int (nI 1)) 1), (47, x_cmpne 54), (50, x_iload 3 1), (51, x_goto 57), (54, x_iload 3 1), (55, x_push (.int (-1)) 1), (56, x_ii (fun x y => x ^^^ y)), (57, x_ii (fun x y => x &&& y)), (58, x_istore 1 1), (59, x_iinc 2 (nI 3)), (62, x_goto 6), (65, x_iload 1 1), (66, x_iret)]
set_option maxRecDepth 100000 in
theorem tX8_eyesLeftBy_ok (l : Launch) : ∀ q ∈ tX8_eyesLeftBy, xOK l cX8_eyesLeftBy RX8 4 4 0 (yX8_eyesLeftBy.name = "<init>") q.1 q.2 := by
  unfold tX8_eyesLeftBy
  refine List.forall_mem_cons.mpr ⟨?_, List.forall_mem_cons.mpr ⟨?_, List.forall_mem_cons.mpr ⟨?_, List.forall_mem_cons.mpr ⟨?_, List.forall_mem_cons.mpr ⟨?_, List.forall_mem_cons.mpr ⟨?_, List.forall_mem_cons.mpr ⟨?_, List.forall_mem_cons.mpr ⟨?_, List.forall_mem_cons.mpr ⟨?_, List.forall_mem_cons.mpr ⟨?_, List.forall_mem_cons.mpr ⟨?_, List.forall_mem_cons.mpr ⟨?_, List.forall_mem_cons.mpr ⟨?_, List.forall_mem_cons.mpr ⟨?_, List.forall_mem_cons.mpr ⟨?_, List.forall_mem_cons.mpr ⟨?_, List.forall_mem_cons.mpr ⟨?_, List.forall_mem_cons.mpr ⟨?_, List.forall_mem_cons.mpr ⟨?_, List.forall_mem_cons.mpr ⟨?_, List.forall_mem_cons.mpr ⟨?_, List.forall_mem_cons.mpr ⟨?_, List.forall_mem_cons.mpr ⟨?_, List.forall_mem_cons.mpr ⟨?_, List.forall_mem_cons.mpr ⟨?_, List.forall_mem_cons.mpr ⟨?_, List.forall_mem_cons.mpr ⟨?_, List.forall_mem_cons.mpr ⟨?_, List.forall_mem_cons.mpr ⟨?_, List.forall_mem_cons.mpr ⟨?_, List.forall_mem_cons.mpr ⟨?_, List.forall_mem_cons.mpr ⟨?_, List.forall_mem_cons.mpr ⟨?_, List.forall_mem_cons.mpr ⟨?_, List.forall_mem_cons.mpr ⟨?_, List.forall_mem_cons.mpr ⟨?_, List.forall_mem_cons.mpr ⟨?_, List.forall_mem_cons.mpr ⟨?_, List.forall_mem_cons.mpr ⟨?_, List.forall_mem_cons.mpr ⟨?_, List.forall_mem_cons.mpr ⟨?_, List.forall_mem_cons.mpr ⟨?_, List.forall_mem_cons.mpr ⟨?_, fun _ h => absurd h List.not_mem_nil⟩⟩⟩⟩⟩⟩⟩⟩⟩⟩⟩⟩⟩⟩⟩⟩⟩⟩⟩⟩⟩⟩⟩⟩⟩⟩⟩⟩⟩⟩⟩⟩⟩⟩⟩⟩⟩⟩⟩⟩⟩⟩⟩
  · exact x_ldcw_ok (show decode cX8_eyesLeftBy 0 = .ok (.ldc_w 337, 3) by decide +kernel) hw_708
  · exact x_istore_n_ok (show decode cX8_eyesLeftBy 3 = .ok (.istore_n 1, 1) by decide +kernel) rfl (by decide)
  · exact x_iconst_ok (show decode cX8_eyesLeftBy 4 = .ok (.iconst 0, 1) by decide +kernel) (by decide)
  · exact x_istore_n_ok (show decode cX8_eyesLeftBy 5 = .ok (.istore_n 2, 1) by decide +kernel) rfl (by decide)
  · exact x_iload_n_ok (show decode cX8_eyesLeftBy 6 = .ok (.iload_n 2, 1) by decide +kernel) rfl
  · exact x_iconst_ok (show decode cX8_eyesLeftBy 7 = .ok (.iconst 2, 1) by decide +kernel) (by decide)
  · exact x_iadd_ok (show decode cX8_eyesLeftBy 8 = .ok (.iadd, 1) by decide +kernel)
  · exact x_aload_n_ok (show decode cX8_eyesLeftBy 9 = .ok (.aload_n 0, 1) by decide +kernel) rfl
  · exact x_getI_ok (ci := 4) (k := 1) rfl (by decide) (by decide) hw_100 (show decode cX8_eyesLeftBy 10 = .ok (.getfield 107, 3) by decide +kernel)
  · exact x_cmpge_ok (show decode cX8_eyesLeftBy 13 = .ok (.if_icmp .ge 52, 3) by decide +kernel) (by decide)
  · exact x_aload_n_ok (show decode cX8_eyesLeftBy 16 = .ok (.aload_n 0, 1) by decide +kernel) rfl
  · exact x_getR_ok (ci := 4) (k := 0) rfl (by decide) (by decide) hw_96 (show decode cX8_eyesLeftBy 17 = .ok (.getfield 81, 3) by decide +kernel)
  · exact x_iload_n_ok (show decode cX8_eyesLeftBy 20 = .ok (.iload_n 2, 1) by decide +kernel) rfl
  · exact x_iald_ok (show decode cX8_eyesLeftBy 21 = .ok (.iaload, 1) by decide +kernel)
  · exact x_aload_n_ok (show decode cX8_eyesLeftBy 22 = .ok (.aload_n 0, 1) by decide +kernel) rfl
  · exact x_getR_ok (ci := 4) (k := 0) rfl (by decide) (by decide) hw_96 (show decode cX8_eyesLeftBy 23 = .ok (.getfield 81, 3) by decide +kernel)
  · exact x_iload_n_ok (show decode cX8_eyesLeftBy 26 = .ok (.iload_n 2, 1) by decide +kernel) rfl
  · exact x_iconst_ok (show decode cX8_eyesLeftBy 27 = .ok (.iconst 1, 1) by decide +kernel) (by decide)
  · exact x_iadd_ok (show decode cX8_eyesLeftBy 28 = .ok (.iadd, 1) by decide +kernel)
  · exact x_iald_ok (show decode cX8_eyesLeftBy 29 = .ok (.iaload, 1) by decide +kernel)
  · exact x_callS_ok (sX8_farApart l) hw_578 hw_576 hw_577 hw_61 ⟨by decide, by decide, by decide +kernel⟩ (by decide) (by decide) (show decode cX8_eyesLeftBy 30 = .ok (.invokestatic 188, 3) by decide +kernel)
  · exact x_callS_ok (sX8_eyesSayingAlike l) hw_711 hw_709 hw_710 hw_61 ⟨by decide, by decide, by decide +kernel⟩ (by decide) (by decide) (show decode cX8_eyesLeftBy 33 = .ok (.invokestatic 242, 3) by decide +kernel)
  · exact x_istore_n_ok (show decode cX8_eyesLeftBy 36 = .ok (.istore_n 3, 1) by decide +kernel) rfl (by decide)
  · exact x_iload_n_ok (show decode cX8_eyesLeftBy 37 = .ok (.iload_n 1, 1) by decide +kernel) rfl
  · exact x_aload_n_ok (show decode cX8_eyesLeftBy 38 = .ok (.aload_n 0, 1) by decide +kernel) rfl
  · exact x_getR_ok (ci := 4) (k := 0) rfl (by decide) (by decide) hw_96 (show decode cX8_eyesLeftBy 39 = .ok (.getfield 81, 3) by decide +kernel)
  · exact x_iload_n_ok (show decode cX8_eyesLeftBy 42 = .ok (.iload_n 2, 1) by decide +kernel) rfl
  · exact x_iconst_ok (show decode cX8_eyesLeftBy 43 = .ok (.iconst 2, 1) by decide +kernel) (by decide)
  · exact x_iadd_ok (show decode cX8_eyesLeftBy 44 = .ok (.iadd, 1) by decide +kernel)
  · exact x_iald_ok (show decode cX8_eyesLeftBy 45 = .ok (.iaload, 1) by decide +kernel)
  · exact x_iconst_ok (show decode cX8_eyesLeftBy 46 = .ok (.iconst 1, 1) by decide +kernel) (by decide)
  · exact x_cmpne_ok (show decode cX8_eyesLeftBy 47 = .ok (.if_icmp .ne 7, 3) by decide +kernel) (by decide)
  · exact x_iload_n_ok (show decode cX8_eyesLeftBy 50 = .ok (.iload_n 3, 1) by decide +kernel) rfl
  · exact x_goto_ok (show decode cX8_eyesLeftBy 51 = .ok (.goto 6, 3) by decide +kernel) (by decide)
  · exact x_iload_n_ok (show decode cX8_eyesLeftBy 54 = .ok (.iload_n 3, 1) by decide +kernel) rfl
  · exact x_iconst_ok (show decode cX8_eyesLeftBy 55 = .ok (.iconst (-1), 1) by decide +kernel) (by decide)
  · exact x_ixor_ok (show decode cX8_eyesLeftBy 56 = .ok (.ixor, 1) by decide +kernel)
  · exact x_iand_ok (show decode cX8_eyesLeftBy 57 = .ok (.iand, 1) by decide +kernel)
  · exact x_istore_n_ok (show decode cX8_eyesLeftBy 58 = .ok (.istore_n 1, 1) by decide +kernel) rfl (by decide)
  · exact x_iinc_ok (show decode cX8_eyesLeftBy 59 = .ok (.iinc 2 3, 3) by decide +kernel) (by decide) (by decide)
  · exact x_goto_ok (show decode cX8_eyesLeftBy 62 = .ok (.goto (-56), 3) by decide +kernel) (by decide)
  · exact x_iload_n_ok (show decode cX8_eyesLeftBy 65 = .ok (.iload_n 1, 1) by decide +kernel) rfl
  · exact x_iret_ok (show decode cX8_eyesLeftBy 66 = .ok (.ireturn, 1) by decide +kernel)
noncomputable def FX8_eyesLeftBy : List Value → xS → Option xR := xden tX8_eyesLeftBy 4 (some .int) 0
theorem sX8_eyesLeftBy (l : Launch) : xSound l yX8_eyesLeftBy cX8_eyesLeftBy 4 (some .int) 4 0 FX8_eyesLeftBy := x_den (by decide) (tX8_eyesLeftBy_ok l)
noncomputable def tX8_eyes : List (Nat × xO) := [(0, x_aload 0 1), (1, x_iload 1 1), (2, x_callV 6 0 2 FX8_refusalOfSayings), (5, x_istore 2 1), (6, x_iload 2 1), (7, x_ifeq 14), (10, x_iload 2 1), (11, x_goto 23), (14, x_aload 0 1), (15, x_getR 6 0), (18, x_iload 1 1), (19, x_aald), (20, x_call 0 1 FX8_eyesLeftBy), (23, x_iret)]
set_option maxRecDepth 100000 in
theorem tX8_eyes_ok (l : Launch) : ∀ q ∈ tX8_eyes, xOK l cX8_eyes RX8 3 5 0 (yX8_eyes.name = "<init>") q.1 q.2 := by
  unfold tX8_eyes
  refine List.forall_mem_cons.mpr ⟨?_, List.forall_mem_cons.mpr ⟨?_, List.forall_mem_cons.mpr ⟨?_, List.forall_mem_cons.mpr ⟨?_, List.forall_mem_cons.mpr ⟨?_, List.forall_mem_cons.mpr ⟨?_, List.forall_mem_cons.mpr ⟨?_, List.forall_mem_cons.mpr ⟨?_, List.forall_mem_cons.mpr ⟨?_, List.forall_mem_cons.mpr ⟨?_, List.forall_mem_cons.mpr ⟨?_, List.forall_mem_cons.mpr ⟨?_, List.forall_mem_cons.mpr ⟨?_, List.forall_mem_cons.mpr ⟨?_, fun _ h => absurd h List.not_mem_nil⟩⟩⟩⟩⟩⟩⟩⟩⟩⟩⟩⟩⟩⟩
  · exact x_aload_n_ok (show decode cX8_eyes 0 = .ok (.aload_n 0, 1) by decide +kernel) rfl
  · exact x_iload_n_ok (show decode cX8_eyes 1 = .ok (.iload_n 1, 1) by decide +kernel) rfl
  · exact x_callV_ok (ci := 6) rfl (by decide) (sX8_refusalOfSayings l) hw_704 hw_701 hw_703 hw_12 hw_61 ⟨by decide, by decide, by decide +kernel⟩ rfl (by decide) (by decide) (show decode cX8_eyes 2 = .ok (.invokevirtual 235, 3) by decide +kernel)
  · exact x_istore_n_ok (show decode cX8_eyes 5 = .ok (.istore_n 2, 1) by decide +kernel) rfl (by decide)
  · exact x_iload_n_ok (show decode cX8_eyes 6 = .ok (.iload_n 2, 1) by decide +kernel) rfl
  · exact x_ifeq_ok (show decode cX8_eyes 7 = .ok (.ifCond .eq 7, 3) by decide +kernel) (by decide)
  · exact x_iload_n_ok (show decode cX8_eyes 10 = .ok (.iload_n 2, 1) by decide +kernel) rfl
  · exact x_goto_ok (show decode cX8_eyes 11 = .ok (.goto 12, 3) by decide +kernel) (by decide)
  · exact x_aload_n_ok (show decode cX8_eyes 14 = .ok (.aload_n 0, 1) by decide +kernel) rfl
  · exact x_getR_ok (ci := 6) (k := 0) rfl (by decide) (by decide) hw_222 (show decode cX8_eyes 15 = .ok (.getfield 11, 3) by decide +kernel)
  · exact x_iload_n_ok (show decode cX8_eyes 18 = .ok (.iload_n 1, 1) by decide +kernel) rfl
  · exact x_aald_ok (show decode cX8_eyes 19 = .ok (.aaload, 1) by decide +kernel)
  · exact x_callS_ok (sX8_eyesLeftBy l) hw_707 hw_705 hw_706 hw_61 ⟨by decide, by decide, by decide +kernel⟩ (by decide) (by decide) (show decode cX8_eyes 20 = .ok (.invokestatic 238, 3) by decide +kernel)
  · exact x_iret_ok (show decode cX8_eyes 23 = .ok (.ireturn, 1) by decide +kernel)
noncomputable def FX8_eyes : List Value → xS → Option xR := xden tX8_eyes 3 (some .int) 0
theorem sX8_eyes (l : Launch) : xSound l yX8_eyes cX8_eyes 3 (some .int) 5 0 FX8_eyes := x_den (by decide) (tX8_eyes_ok l)
noncomputable def tX9_noThrees : List (Nat × xO) := [(0, x_aload 0 1), (1, x_getR 7 1), (4, x_iload 1 1), (5, x_iald), (6, x_ifge 15), (9, x_aload 0 1), (10, x_push (.int (nI 1)) 1), (11, x_callV 7 0 2 FX9_find), (14, x_iret), (15, x_aload 0 1), (16, x_getR 7 1), (19, x_iload 1 1), (20, x_iald), (21, x_push (.int (nI 3)) 1), (22, x_irem), (23, x_ifeq 32), (26, x_aload 0 1), (27, x_push (.int (nI 5)) 1), (28, x_callV 7 0 2 FX9_find), (31, x_iret), (32, x_push (.int (nI 1)) 1), (33, x_istore 2 1), (34, x_push (.int (nI 40)) 2), (36, x_iload 1 1), (37, x_ii (fun x y => x * y)), (38, x_istore 3 1), (39, x_iload 3 1), (40, x_push (.int (nI 40)) 2), (42, x_iload 1 1), (43, x_ii (fun x y => x * y)), (44, x_aload 0 1), (45, x_getR 7 1), (48, x_iload 1 1), (49, x_iald), (50, x_ii (fun x y => x + y)), (51, x_cmpge 113), (54, x_iload 2 1), (55, x_ifeq 105), (58, x_aload 0 1), (59, x_getR 7 2), (62, x_iload 3 1), (63, x_iald), (64, x_call 0 1 FX9_isShade), (67, x_ifeq 105), (70, x_aload 0 1), (71, x_getR 7 2), (74, x_iload 3 1), (75, x_push (.int (nI 1)) 1), (76, x_ii (fun x y => x + y)), (77, x_iald), (78, x_call 0 1 FX9_isShade), (81, x_ifeq 105), (84, x_aload 0 1), (85, x_getR 7 2), (88, x_iload 3 1), (89, x_push (.int (nI 2)) 1), (90, x_ii (fun x y => x + y)), (91, x_iald), (92, x_i2l), (93, x_push (.long 0) 1), (94, x_push (.long 1) 1), (95, x_call 0 3 FX9_in), (98, x_ifeq 105), (101, x_push (.int (nI 1)) 1), (102, x_goto 106), (105, x_push (.int (nI 0)) 1), (106, x_istore 2 1), (107, x_iinc 3 (nI 3)), (110, x_goto 39), (113, x_iload 2 1), (114, x_ifeq 121), (117, x_push (.int (nI 0)) 1), (118, x_goto 126), (121, x_aload 0 1), (122, x_push (.int (nI 3)) 1), (123, x_callV 7 0 2 FX9_find), (126, x_iret)]
set_option maxRecDepth 100000 in
theorem tX9_noThrees_ok (l : Launch) : ∀ q ∈ tX9_noThrees, xOK l cX9_noThrees RX9 4 3 0 (yX9_noThrees.name = "<init>") q.1 q.2 := by
  unfold tX9_noThrees
  refine List.forall_mem_cons.mpr ⟨?_, List.forall_mem_cons.mpr ⟨?_, List.forall_mem_cons.mpr ⟨?_, List.forall_mem_cons.mpr ⟨?_, List.forall_mem_cons.mpr ⟨?_, List.forall_mem_cons.mpr ⟨?_, List.forall_mem_cons.mpr ⟨?_, List.forall_mem_cons.mpr ⟨?_, List.forall_mem_cons.mpr ⟨?_, List.forall_mem_cons.mpr ⟨?_, List.forall_mem_cons.mpr ⟨?_, List.forall_mem_cons.mpr ⟨?_, List.forall_mem_cons.mpr ⟨?_, List.forall_mem_cons.mpr ⟨?_, List.forall_mem_cons.mpr ⟨?_, List.forall_mem_cons.mpr ⟨?_, List.forall_mem_cons.mpr ⟨?_, List.forall_mem_cons.mpr ⟨?_, List.forall_mem_cons.mpr ⟨?_, List.forall_mem_cons.mpr ⟨?_, List.forall_mem_cons.mpr ⟨?_, List.forall_mem_cons.mpr ⟨?_, List.forall_mem_cons.mpr ⟨?_, List.forall_mem_cons.mpr ⟨?_, List.forall_mem_cons.mpr ⟨?_, List.forall_mem_cons.mpr ⟨?_, List.forall_mem_cons.mpr ⟨?_, List.forall_mem_cons.mpr ⟨?_, List.forall_mem_cons.mpr ⟨?_, List.forall_mem_cons.mpr ⟨?_, List.forall_mem_cons.mpr ⟨?_, List.forall_mem_cons.mpr ⟨?_, List.forall_mem_cons.mpr ⟨?_, List.forall_mem_cons.mpr ⟨?_, List.forall_mem_cons.mpr ⟨?_, List.forall_mem_cons.mpr ⟨?_, List.forall_mem_cons.mpr ⟨?_, List.forall_mem_cons.mpr ⟨?_, List.forall_mem_cons.mpr ⟨?_, List.forall_mem_cons.mpr ⟨?_, List.forall_mem_cons.mpr ⟨?_, List.forall_mem_cons.mpr ⟨?_, List.forall_mem_cons.mpr ⟨?_, List.forall_mem_cons.mpr ⟨?_, List.forall_mem_cons.mpr ⟨?_, List.forall_mem_cons.mpr ⟨?_, List.forall_mem_cons.mpr ⟨?_, List.forall_mem_cons.mpr ⟨?_, List.forall_mem_cons.mpr ⟨?_, List.forall_mem_cons.mpr ⟨?_, List.forall_mem_cons.mpr ⟨?_, List.forall_mem_cons.mpr ⟨?_, List.forall_mem_cons.mpr ⟨?_, List.forall_mem_cons.mpr ⟨?_, List.forall_mem_cons.mpr ⟨?_, List.forall_mem_cons.mpr ⟨?_, List.forall_mem_cons.mpr ⟨?_, List.forall_mem_cons.mpr ⟨?_, List.forall_mem_cons.mpr ⟨?_, List.forall_mem_cons.mpr ⟨?_, List.forall_mem_cons.mpr ⟨?_, List.forall_mem_cons.mpr ⟨?_, List.forall_mem_cons.mpr ⟨?_, List.forall_mem_cons.mpr ⟨?_, List.forall_mem_cons.mpr ⟨?_, List.forall_mem_cons.mpr ⟨?_, List.forall_mem_cons.mpr ⟨?_, List.forall_mem_cons.mpr ⟨?_, List.forall_mem_cons.mpr ⟨?_, List.forall_mem_cons.mpr ⟨?_, List.forall_mem_cons.mpr ⟨?_, List.forall_mem_cons.mpr ⟨?_, List.forall_mem_cons.mpr ⟨?_, List.forall_mem_cons.mpr ⟨?_, List.forall_mem_cons.mpr ⟨?_, List.forall_mem_cons.mpr ⟨?_, List.forall_mem_cons.mpr ⟨?_, fun _ h => absurd h List.not_mem_nil⟩⟩⟩⟩⟩⟩⟩⟩⟩⟩⟩⟩⟩⟩⟩⟩⟩⟩⟩⟩⟩⟩⟩⟩⟩⟩⟩⟩⟩⟩⟩⟩⟩⟩⟩⟩⟩⟩⟩⟩⟩⟩⟩⟩⟩⟩⟩⟩⟩⟩⟩⟩⟩⟩⟩⟩⟩⟩⟩⟩⟩⟩⟩⟩⟩⟩⟩⟩⟩⟩⟩⟩⟩⟩⟩⟩⟩
  · exact x_aload_n_ok (show decode cX9_noThrees 0 = .ok (.aload_n 0, 1) by decide +kernel) rfl
  · exact x_getR_ok (ci := 7) (k := 1) rfl (by decide) (by decide) hw_845 (show decode cX9_noThrees 1 = .ok (.getfield 13, 3) by decide +kernel)
  · exact x_iload_n_ok (show decode cX9_noThrees 4 = .ok (.iload_n 1, 1) by decide +kernel) rfl
  · exact x_iald_ok (show decode cX9_noThrees 5 = .ok (.iaload, 1) by decide +kernel)
  · exact x_ifge_ok (show decode cX9_noThrees 6 = .ok (.ifCond .ge 9, 3) by decide +kernel) (by decide)
  · exact x_aload_n_ok (show decode cX9_noThrees 9 = .ok (.aload_n 0, 1) by decide +kernel) rfl
  · exact x_iconst_ok (show decode cX9_noThrees 10 = .ok (.iconst 1, 1) by decide +kernel) (by decide)
  · exact x_callV_ok (ci := 7) rfl (by decide) (sX9_find l) hw_922 hw_919 hw_921 hw_18 hw_68 ⟨by decide, by decide, by decide +kernel⟩ rfl (by decide) (by decide) (show decode cX9_noThrees 11 = .ok (.invokevirtual 70, 3) by decide +kernel)
  · exact x_iret_ok (show decode cX9_noThrees 14 = .ok (.ireturn, 1) by decide +kernel)
  · exact x_aload_n_ok (show decode cX9_noThrees 15 = .ok (.aload_n 0, 1) by decide +kernel) rfl
  · exact x_getR_ok (ci := 7) (k := 1) rfl (by decide) (by decide) hw_845 (show decode cX9_noThrees 16 = .ok (.getfield 13, 3) by decide +kernel)
  · exact x_iload_n_ok (show decode cX9_noThrees 19 = .ok (.iload_n 1, 1) by decide +kernel) rfl
  · exact x_iald_ok (show decode cX9_noThrees 20 = .ok (.iaload, 1) by decide +kernel)
  · exact x_iconst_ok (show decode cX9_noThrees 21 = .ok (.iconst 3, 1) by decide +kernel) (by decide)
  · exact x_irem_ok (show decode cX9_noThrees 22 = .ok (.irem, 1) by decide +kernel)
  · exact x_ifeq_ok (show decode cX9_noThrees 23 = .ok (.ifCond .eq 9, 3) by decide +kernel) (by decide)
  · exact x_aload_n_ok (show decode cX9_noThrees 26 = .ok (.aload_n 0, 1) by decide +kernel) rfl
  · exact x_iconst_ok (show decode cX9_noThrees 27 = .ok (.iconst 5, 1) by decide +kernel) (by decide)
  · exact x_callV_ok (ci := 7) rfl (by decide) (sX9_find l) hw_922 hw_919 hw_921 hw_18 hw_68 ⟨by decide, by decide, by decide +kernel⟩ rfl (by decide) (by decide) (show decode cX9_noThrees 28 = .ok (.invokevirtual 70, 3) by decide +kernel)
  · exact x_iret_ok (show decode cX9_noThrees 31 = .ok (.ireturn, 1) by decide +kernel)
  · exact x_iconst_ok (show decode cX9_noThrees 32 = .ok (.iconst 1, 1) by decide +kernel) (by decide)
  · exact x_istore_n_ok (show decode cX9_noThrees 33 = .ok (.istore_n 2, 1) by decide +kernel) rfl (by decide)
  · exact x_bipush_ok (show decode cX9_noThrees 34 = .ok (.bipush 40, 2) by decide +kernel) (by decide)
  · exact x_iload_n_ok (show decode cX9_noThrees 36 = .ok (.iload_n 1, 1) by decide +kernel) rfl
  · exact x_imul_ok (show decode cX9_noThrees 37 = .ok (.imul, 1) by decide +kernel)
  · exact x_istore_n_ok (show decode cX9_noThrees 38 = .ok (.istore_n 3, 1) by decide +kernel) rfl (by decide)
  · exact x_iload_n_ok (show decode cX9_noThrees 39 = .ok (.iload_n 3, 1) by decide +kernel) rfl
  · exact x_bipush_ok (show decode cX9_noThrees 40 = .ok (.bipush 40, 2) by decide +kernel) (by decide)
  · exact x_iload_n_ok (show decode cX9_noThrees 42 = .ok (.iload_n 1, 1) by decide +kernel) rfl
  · exact x_imul_ok (show decode cX9_noThrees 43 = .ok (.imul, 1) by decide +kernel)
  · exact x_aload_n_ok (show decode cX9_noThrees 44 = .ok (.aload_n 0, 1) by decide +kernel) rfl
  · exact x_getR_ok (ci := 7) (k := 1) rfl (by decide) (by decide) hw_845 (show decode cX9_noThrees 45 = .ok (.getfield 13, 3) by decide +kernel)
  · exact x_iload_n_ok (show decode cX9_noThrees 48 = .ok (.iload_n 1, 1) by decide +kernel) rfl
  · exact x_iald_ok (show decode cX9_noThrees 49 = .ok (.iaload, 1) by decide +kernel)
  · exact x_iadd_ok (show decode cX9_noThrees 50 = .ok (.iadd, 1) by decide +kernel)
  · exact x_cmpge_ok (show decode cX9_noThrees 51 = .ok (.if_icmp .ge 62, 3) by decide +kernel) (by decide)
  · exact x_iload_n_ok (show decode cX9_noThrees 54 = .ok (.iload_n 2, 1) by decide +kernel) rfl
  · exact x_ifeq_ok (show decode cX9_noThrees 55 = .ok (.ifCond .eq 50, 3) by decide +kernel) (by decide)
  · exact x_aload_n_ok (show decode cX9_noThrees 58 = .ok (.aload_n 0, 1) by decide +kernel) rfl
  · exact x_getR_ok (ci := 7) (k := 2) rfl (by decide) (by decide) hw_846 (show decode cX9_noThrees 59 = .ok (.getfield 16, 3) by decide +kernel)
  · exact x_iload_n_ok (show decode cX9_noThrees 62 = .ok (.iload_n 3, 1) by decide +kernel) rfl
  · exact x_iald_ok (show decode cX9_noThrees 63 = .ok (.iaload, 1) by decide +kernel)
  · exact x_callS_ok (sX9_isShade l) hw_1095 hw_1093 hw_1094 hw_68 ⟨by decide, by decide, by decide +kernel⟩ (by decide) (by decide) (show decode cX9_noThrees 64 = .ok (.invokestatic 198, 3) by decide +kernel)
  · exact x_ifeq_ok (show decode cX9_noThrees 67 = .ok (.ifCond .eq 38, 3) by decide +kernel) (by decide)
  · exact x_aload_n_ok (show decode cX9_noThrees 70 = .ok (.aload_n 0, 1) by decide +kernel) rfl
  · exact x_getR_ok (ci := 7) (k := 2) rfl (by decide) (by decide) hw_846 (show decode cX9_noThrees 71 = .ok (.getfield 16, 3) by decide +kernel)
  · exact x_iload_n_ok (show decode cX9_noThrees 74 = .ok (.iload_n 3, 1) by decide +kernel) rfl
  · exact x_iconst_ok (show decode cX9_noThrees 75 = .ok (.iconst 1, 1) by decide +kernel) (by decide)
  · exact x_iadd_ok (show decode cX9_noThrees 76 = .ok (.iadd, 1) by decide +kernel)
  · exact x_iald_ok (show decode cX9_noThrees 77 = .ok (.iaload, 1) by decide +kernel)
  · exact x_callS_ok (sX9_isShade l) hw_1095 hw_1093 hw_1094 hw_68 ⟨by decide, by decide, by decide +kernel⟩ (by decide) (by decide) (show decode cX9_noThrees 78 = .ok (.invokestatic 198, 3) by decide +kernel)
  · exact x_ifeq_ok (show decode cX9_noThrees 81 = .ok (.ifCond .eq 24, 3) by decide +kernel) (by decide)
  · exact x_aload_n_ok (show decode cX9_noThrees 84 = .ok (.aload_n 0, 1) by decide +kernel) rfl
  · exact x_getR_ok (ci := 7) (k := 2) rfl (by decide) (by decide) hw_846 (show decode cX9_noThrees 85 = .ok (.getfield 16, 3) by decide +kernel)
  · exact x_iload_n_ok (show decode cX9_noThrees 88 = .ok (.iload_n 3, 1) by decide +kernel) rfl
  · exact x_iconst_ok (show decode cX9_noThrees 89 = .ok (.iconst 2, 1) by decide +kernel) (by decide)
  · exact x_iadd_ok (show decode cX9_noThrees 90 = .ok (.iadd, 1) by decide +kernel)
  · exact x_iald_ok (show decode cX9_noThrees 91 = .ok (.iaload, 1) by decide +kernel)
  · exact x_i2l_ok (show decode cX9_noThrees 92 = .ok (.i2l, 1) by decide +kernel)
  · exact x_lconst_ok (show decode cX9_noThrees 93 = .ok (.lconst 0, 1) by decide +kernel) rfl
  · exact x_lconst_ok (show decode cX9_noThrees 94 = .ok (.lconst 1, 1) by decide +kernel) rfl
  · exact x_callS_ok (sX9_in l) hw_918 hw_916 hw_917 hw_68 ⟨by decide, by decide, by decide +kernel⟩ (by decide) (by decide) (show decode cX9_noThrees 95 = .ok (.invokestatic 60, 3) by decide +kernel)
  · exact x_ifeq_ok (show decode cX9_noThrees 98 = .ok (.ifCond .eq 7, 3) by decide +kernel) (by decide)
  · exact x_iconst_ok (show decode cX9_noThrees 101 = .ok (.iconst 1, 1) by decide +kernel) (by decide)
  · exact x_goto_ok (show decode cX9_noThrees 102 = .ok (.goto 4, 3) by decide +kernel) (by decide)
  · exact x_iconst_ok (show decode cX9_noThrees 105 = .ok (.iconst 0, 1) by decide +kernel) (by decide)
  · exact x_istore_n_ok (show decode cX9_noThrees 106 = .ok (.istore_n 2, 1) by decide +kernel) rfl (by decide)
  · exact x_iinc_ok (show decode cX9_noThrees 107 = .ok (.iinc 3 3, 3) by decide +kernel) (by decide) (by decide)
  · exact x_goto_ok (show decode cX9_noThrees 110 = .ok (.goto (-71), 3) by decide +kernel) (by decide)
  · exact x_iload_n_ok (show decode cX9_noThrees 113 = .ok (.iload_n 2, 1) by decide +kernel) rfl
  · exact x_ifeq_ok (show decode cX9_noThrees 114 = .ok (.ifCond .eq 7, 3) by decide +kernel) (by decide)
  · exact x_iconst_ok (show decode cX9_noThrees 117 = .ok (.iconst 0, 1) by decide +kernel) (by decide)
  · exact x_goto_ok (show decode cX9_noThrees 118 = .ok (.goto 8, 3) by decide +kernel) (by decide)
  · exact x_aload_n_ok (show decode cX9_noThrees 121 = .ok (.aload_n 0, 1) by decide +kernel) rfl
  · exact x_iconst_ok (show decode cX9_noThrees 122 = .ok (.iconst 3, 1) by decide +kernel) (by decide)
  · exact x_callV_ok (ci := 7) rfl (by decide) (sX9_find l) hw_922 hw_919 hw_921 hw_18 hw_68 ⟨by decide, by decide, by decide +kernel⟩ rfl (by decide) (by decide) (show decode cX9_noThrees 123 = .ok (.invokevirtual 70, 3) by decide +kernel)
  · exact x_iret_ok (show decode cX9_noThrees 126 = .ok (.ireturn, 1) by decide +kernel)
noncomputable def FX9_noThrees : List Value → xS → Option xR := xden tX9_noThrees 4 (some .int) 0
theorem sX9_noThrees (l : Launch) : xSound l yX9_noThrees cX9_noThrees 4 (some .int) 3 0 FX9_noThrees := x_den (by decide) (tX9_noThrees_ok l)
noncomputable def tX9_eyesOf : List (Nat × xO) := [(0, x_push (.int (nI 0)) 1), (1, x_istore 2 1), (2, x_push (.int (nI 0)) 1), (3, x_istore 3 1), (4, x_iload 3 1), (5, x_push (.int (nI 16)) 2), (7, x_cmpge 124), (10, x_push (.int (nI 1)) 1), (11, x_istore 4 2), (13, x_push (.int (nI 40)) 2), (15, x_iload 1 1), (16, x_ii (fun x y => x * y)), (17, x_istore 5 2), (19, x_iload 5 2), (21, x_push (.int (nI 40)) 2), (23, x_iload 1 1), (24, x_ii (fun x y => x * y)), (25, x_aload 0 1), (26, x_getR 7 1), (29, x_iload 1 1), (30, x_iald), (31, x_ii (fun x y => x + y)), (32, x_cmpge 103), (35, x_iload 4 2), (37, x_ifeq 94), (40, x_push (.int (nI 0)) 1), (41, x_aload 0 1), (42, x_getR 7 2), (45, x_iload 5 2), (47, x_iald), (48, x_aload 0 1), (49, x_getR 7 2), (52, x_iload 5 2), (54, x_push (.int (nI 1)) 1), (55, x_ii (fun x y => x + y)), (56, x_iald), (57, x_call 0 3 FX9_far), (60, x_iload 3 1), (61, x_cmpgt 68), (64, x_push (.int (nI 1)) 1), (65, x_goto 69), (68, x_push (.int (nI 0)) 1), (69, x_aload 0 1), (70, x_getR 7 2), (73, x_iload 5 2), (75, x_push (.int (nI 2)) 1), (76, x_ii (fun x y => x + y)), (77, x_iald), (78, x_push (.int (nI 1)) 1), (79, x_cmpne 86), (82, x_push (.int (nI 1)) 1), (83, x_goto 87), (86, x_push (.int (nI 0)) 1), (87, x_cmpne 94), (90, x_push (.int (nI 1)) 1), (91, x_goto 95), (94, x_push (.int (nI 0)) 1), (95, x_istore 4 2), (97, x_iinc 5 (nI 3)), (100, x_goto 19), (103, x_iload 2 1), (104, x_iload 4 2), (106, x_ifeq 115), (109, x_push (.int (nI 1)) 1), (110, x_iload 3 1), (111, x_ii (fun x y => x <<< (y &&& 31))), (112, x_goto 116), (115, x_push (.int (nI 0)) 1), (116, x_ii (fun x y => x ||| y)), (117, x_istore 2 1), (118, x_iinc 3 (nI 1)), (121, x_goto 4), (124, x_iload 2 1), (125, x_iret)]
set_option maxRecDepth 100000 in
theorem tX9_eyesOf_ok (l : Launch) : ∀ q ∈ tX9_eyesOf, xOK l cX9_eyesOf RX9 6 3 0 (yX9_eyesOf.name = "<init>") q.1 q.2 := by
  unfold tX9_eyesOf
  refine List.forall_mem_cons.mpr ⟨?_, List.forall_mem_cons.mpr ⟨?_, List.forall_mem_cons.mpr ⟨?_, List.forall_mem_cons.mpr ⟨?_, List.forall_mem_cons.mpr ⟨?_, List.forall_mem_cons.mpr ⟨?_, List.forall_mem_cons.mpr ⟨?_, List.forall_mem_cons.mpr ⟨?_, List.forall_mem_cons.mpr ⟨?_, List.forall_mem_cons.mpr ⟨?_, List.forall_mem_cons.mpr ⟨?_, List.forall_mem_cons.mpr ⟨?_, List.forall_mem_cons.mpr ⟨?_, List.forall_mem_cons.mpr ⟨?_, List.forall_mem_cons.mpr ⟨?_, List.forall_mem_cons.mpr ⟨?_, List.forall_mem_cons.mpr ⟨?_, List.forall_mem_cons.mpr ⟨?_, List.forall_mem_cons.mpr ⟨?_, List.forall_mem_cons.mpr ⟨?_, List.forall_mem_cons.mpr ⟨?_, List.forall_mem_cons.mpr ⟨?_, List.forall_mem_cons.mpr ⟨?_, List.forall_mem_cons.mpr ⟨?_, List.forall_mem_cons.mpr ⟨?_, List.forall_mem_cons.mpr ⟨?_, List.forall_mem_cons.mpr ⟨?_, List.forall_mem_cons.mpr ⟨?_, List.forall_mem_cons.mpr ⟨?_, List.forall_mem_cons.mpr ⟨?_, List.forall_mem_cons.mpr ⟨?_, List.forall_mem_cons.mpr ⟨?_, List.forall_mem_cons.mpr ⟨?_, List.forall_mem_cons.mpr ⟨?_, List.forall_mem_cons.mpr ⟨?_, List.forall_mem_cons.mpr ⟨?_, List.forall_mem_cons.mpr ⟨?_, List.forall_mem_cons.mpr ⟨?_, List.forall_mem_cons.mpr ⟨?_, List.forall_mem_cons.mpr ⟨?_, List.forall_mem_cons.mpr ⟨?_, List.forall_mem_cons.mpr ⟨?_, List.forall_mem_cons.mpr ⟨?_, List.forall_mem_cons.mpr ⟨?_, List.forall_mem_cons.mpr ⟨?_, List.forall_mem_cons.mpr ⟨?_, List.forall_mem_cons.mpr ⟨?_, List.forall_mem_cons.mpr ⟨?_, List.forall_mem_cons.mpr ⟨?_, List.forall_mem_cons.mpr ⟨?_, List.forall_mem_cons.mpr ⟨?_, List.forall_mem_cons.mpr ⟨?_, List.forall_mem_cons.mpr ⟨?_, List.forall_mem_cons.mpr ⟨?_, List.forall_mem_cons.mpr ⟨?_, List.forall_mem_cons.mpr ⟨?_, List.forall_mem_cons.mpr ⟨?_, List.forall_mem_cons.mpr ⟨?_, List.forall_mem_cons.mpr ⟨?_, List.forall_mem_cons.mpr ⟨?_, List.forall_mem_cons.mpr ⟨?_, List.forall_mem_cons.mpr ⟨?_, List.forall_mem_cons.mpr ⟨?_, List.forall_mem_cons.mpr ⟨?_, List.forall_mem_cons.mpr ⟨?_, List.forall_mem_cons.mpr ⟨?_, List.forall_mem_cons.mpr ⟨?_, List.forall_mem_cons.mpr ⟨?_, List.forall_mem_cons.mpr ⟨?_, List.forall_mem_cons.mpr ⟨?_, List.forall_mem_cons.mpr ⟨?_, List.forall_mem_cons.mpr ⟨?_, List.forall_mem_cons.mpr ⟨?_, List.forall_mem_cons.mpr ⟨?_, fun _ h => absurd h List.not_mem_nil⟩⟩⟩⟩⟩⟩⟩⟩⟩⟩⟩⟩⟩⟩⟩⟩⟩⟩⟩⟩⟩⟩⟩⟩⟩⟩⟩⟩⟩⟩⟩⟩⟩⟩⟩⟩⟩⟩⟩⟩⟩⟩⟩⟩⟩⟩⟩⟩⟩⟩⟩⟩⟩⟩⟩⟩⟩⟩⟩⟩⟩⟩⟩⟩⟩⟩⟩⟩⟩⟩⟩⟩⟩⟩
  · exact x_iconst_ok (show decode cX9_eyesOf 0 = .ok (.iconst 0, 1) by decide +kernel) (by decide)
  · exact x_istore_n_ok (show decode cX9_eyesOf 1 = .ok (.istore_n 2, 1) by decide +kernel) rfl (by decide)
  · exact x_iconst_ok (show decode cX9_eyesOf 2 = .ok (.iconst 0, 1) by decide +kernel) (by decide)
  · exact x_istore_n_ok (show decode cX9_eyesOf 3 = .ok (.istore_n 3, 1) by decide +kernel) rfl (by decide)
  · exact x_iload_n_ok (show decode cX9_eyesOf 4 = .ok (.iload_n 3, 1) by decide +kernel) rfl
  · exact x_bipush_ok (show decode cX9_eyesOf 5 = .ok (.bipush 16, 2) by decide +kernel) (by decide)
  · exact x_cmpge_ok (show decode cX9_eyesOf 7 = .ok (.if_icmp .ge 117, 3) by decide +kernel) (by decide)
  · exact x_iconst_ok (show decode cX9_eyesOf 10 = .ok (.iconst 1, 1) by decide +kernel) (by decide)
  · exact x_istore_ok (show decode cX9_eyesOf 11 = .ok (.istore 4, 2) by decide +kernel) (by decide)
  · exact x_bipush_ok (show decode cX9_eyesOf 13 = .ok (.bipush 40, 2) by decide +kernel) (by decide)
  · exact x_iload_n_ok (show decode cX9_eyesOf 15 = .ok (.iload_n 1, 1) by decide +kernel) rfl
  · exact x_imul_ok (show decode cX9_eyesOf 16 = .ok (.imul, 1) by decide +kernel)
  · exact x_istore_ok (show decode cX9_eyesOf 17 = .ok (.istore 5, 2) by decide +kernel) (by decide)
  · exact x_iload_ok (show decode cX9_eyesOf 19 = .ok (.iload 5, 2) by decide +kernel)
  · exact x_bipush_ok (show decode cX9_eyesOf 21 = .ok (.bipush 40, 2) by decide +kernel) (by decide)
  · exact x_iload_n_ok (show decode cX9_eyesOf 23 = .ok (.iload_n 1, 1) by decide +kernel) rfl
  · exact x_imul_ok (show decode cX9_eyesOf 24 = .ok (.imul, 1) by decide +kernel)
  · exact x_aload_n_ok (show decode cX9_eyesOf 25 = .ok (.aload_n 0, 1) by decide +kernel) rfl
  · exact x_getR_ok (ci := 7) (k := 1) rfl (by decide) (by decide) hw_845 (show decode cX9_eyesOf 26 = .ok (.getfield 13, 3) by decide +kernel)
  · exact x_iload_n_ok (show decode cX9_eyesOf 29 = .ok (.iload_n 1, 1) by decide +kernel) rfl
  · exact x_iald_ok (show decode cX9_eyesOf 30 = .ok (.iaload, 1) by decide +kernel)
  · exact x_iadd_ok (show decode cX9_eyesOf 31 = .ok (.iadd, 1) by decide +kernel)
  · exact x_cmpge_ok (show decode cX9_eyesOf 32 = .ok (.if_icmp .ge 71, 3) by decide +kernel) (by decide)
  · exact x_iload_ok (show decode cX9_eyesOf 35 = .ok (.iload 4, 2) by decide +kernel)
  · exact x_ifeq_ok (show decode cX9_eyesOf 37 = .ok (.ifCond .eq 57, 3) by decide +kernel) (by decide)
  · exact x_iconst_ok (show decode cX9_eyesOf 40 = .ok (.iconst 0, 1) by decide +kernel) (by decide)
  · exact x_aload_n_ok (show decode cX9_eyesOf 41 = .ok (.aload_n 0, 1) by decide +kernel) rfl
  · exact x_getR_ok (ci := 7) (k := 2) rfl (by decide) (by decide) hw_846 (show decode cX9_eyesOf 42 = .ok (.getfield 16, 3) by decide +kernel)
  · exact x_iload_ok (show decode cX9_eyesOf 45 = .ok (.iload 5, 2) by decide +kernel)
  · exact x_iald_ok (show decode cX9_eyesOf 47 = .ok (.iaload, 1) by decide +kernel)
  · exact x_aload_n_ok (show decode cX9_eyesOf 48 = .ok (.aload_n 0, 1) by decide +kernel) rfl
  · exact x_getR_ok (ci := 7) (k := 2) rfl (by decide) (by decide) hw_846 (show decode cX9_eyesOf 49 = .ok (.getfield 16, 3) by decide +kernel)
  · exact x_iload_ok (show decode cX9_eyesOf 52 = .ok (.iload 5, 2) by decide +kernel)
  · exact x_iconst_ok (show decode cX9_eyesOf 54 = .ok (.iconst 1, 1) by decide +kernel) (by decide)
  · exact x_iadd_ok (show decode cX9_eyesOf 55 = .ok (.iadd, 1) by decide +kernel)
  · exact x_iald_ok (show decode cX9_eyesOf 56 = .ok (.iaload, 1) by decide +kernel)
  · exact x_callS_ok (sX9_far l) hw_1032 hw_1030 hw_1031 hw_68 ⟨by decide, by decide, by decide +kernel⟩ (by decide) (by decide) (show decode cX9_eyesOf 57 = .ok (.invokestatic 140, 3) by decide +kernel)
  · exact x_iload_n_ok (show decode cX9_eyesOf 60 = .ok (.iload_n 3, 1) by decide +kernel) rfl
  · exact x_cmpgt_ok (show decode cX9_eyesOf 61 = .ok (.if_icmp .gt 7, 3) by decide +kernel) (by decide)
  · exact x_iconst_ok (show decode cX9_eyesOf 64 = .ok (.iconst 1, 1) by decide +kernel) (by decide)
  · exact x_goto_ok (show decode cX9_eyesOf 65 = .ok (.goto 4, 3) by decide +kernel) (by decide)
  · exact x_iconst_ok (show decode cX9_eyesOf 68 = .ok (.iconst 0, 1) by decide +kernel) (by decide)
  · exact x_aload_n_ok (show decode cX9_eyesOf 69 = .ok (.aload_n 0, 1) by decide +kernel) rfl
  · exact x_getR_ok (ci := 7) (k := 2) rfl (by decide) (by decide) hw_846 (show decode cX9_eyesOf 70 = .ok (.getfield 16, 3) by decide +kernel)
  · exact x_iload_ok (show decode cX9_eyesOf 73 = .ok (.iload 5, 2) by decide +kernel)
  · exact x_iconst_ok (show decode cX9_eyesOf 75 = .ok (.iconst 2, 1) by decide +kernel) (by decide)
  · exact x_iadd_ok (show decode cX9_eyesOf 76 = .ok (.iadd, 1) by decide +kernel)
  · exact x_iald_ok (show decode cX9_eyesOf 77 = .ok (.iaload, 1) by decide +kernel)
  · exact x_iconst_ok (show decode cX9_eyesOf 78 = .ok (.iconst 1, 1) by decide +kernel) (by decide)
  · exact x_cmpne_ok (show decode cX9_eyesOf 79 = .ok (.if_icmp .ne 7, 3) by decide +kernel) (by decide)
  · exact x_iconst_ok (show decode cX9_eyesOf 82 = .ok (.iconst 1, 1) by decide +kernel) (by decide)
  · exact x_goto_ok (show decode cX9_eyesOf 83 = .ok (.goto 4, 3) by decide +kernel) (by decide)
  · exact x_iconst_ok (show decode cX9_eyesOf 86 = .ok (.iconst 0, 1) by decide +kernel) (by decide)
  · exact x_cmpne_ok (show decode cX9_eyesOf 87 = .ok (.if_icmp .ne 7, 3) by decide +kernel) (by decide)
  · exact x_iconst_ok (show decode cX9_eyesOf 90 = .ok (.iconst 1, 1) by decide +kernel) (by decide)
  · exact x_goto_ok (show decode cX9_eyesOf 91 = .ok (.goto 4, 3) by decide +kernel) (by decide)
  · exact x_iconst_ok (show decode cX9_eyesOf 94 = .ok (.iconst 0, 1) by decide +kernel) (by decide)
  · exact x_istore_ok (show decode cX9_eyesOf 95 = .ok (.istore 4, 2) by decide +kernel) (by decide)
  · exact x_iinc_ok (show decode cX9_eyesOf 97 = .ok (.iinc 5 3, 3) by decide +kernel) (by decide) (by decide)
  · exact x_goto_ok (show decode cX9_eyesOf 100 = .ok (.goto (-81), 3) by decide +kernel) (by decide)
  · exact x_iload_n_ok (show decode cX9_eyesOf 103 = .ok (.iload_n 2, 1) by decide +kernel) rfl
  · exact x_iload_ok (show decode cX9_eyesOf 104 = .ok (.iload 4, 2) by decide +kernel)
  · exact x_ifeq_ok (show decode cX9_eyesOf 106 = .ok (.ifCond .eq 9, 3) by decide +kernel) (by decide)
  · exact x_iconst_ok (show decode cX9_eyesOf 109 = .ok (.iconst 1, 1) by decide +kernel) (by decide)
  · exact x_iload_n_ok (show decode cX9_eyesOf 110 = .ok (.iload_n 3, 1) by decide +kernel) rfl
  · exact x_ishl_ok (show decode cX9_eyesOf 111 = .ok (.ishl, 1) by decide +kernel)
  · exact x_goto_ok (show decode cX9_eyesOf 112 = .ok (.goto 4, 3) by decide +kernel) (by decide)
  · exact x_iconst_ok (show decode cX9_eyesOf 115 = .ok (.iconst 0, 1) by decide +kernel) (by decide)
  · exact x_ior_ok (show decode cX9_eyesOf 116 = .ok (.ior, 1) by decide +kernel)
  · exact x_istore_n_ok (show decode cX9_eyesOf 117 = .ok (.istore_n 2, 1) by decide +kernel) rfl (by decide)
  · exact x_iinc_ok (show decode cX9_eyesOf 118 = .ok (.iinc 3 1, 3) by decide +kernel) (by decide) (by decide)
  · exact x_goto_ok (show decode cX9_eyesOf 121 = .ok (.goto (-117), 3) by decide +kernel) (by decide)
  · exact x_iload_n_ok (show decode cX9_eyesOf 124 = .ok (.iload_n 2, 1) by decide +kernel) rfl
  · exact x_iret_ok (show decode cX9_eyesOf 125 = .ok (.ireturn, 1) by decide +kernel)
noncomputable def FX9_eyesOf : List Value → xS → Option xR := xden tX9_eyesOf 6 (some .int) 0
theorem sX9_eyesOf (l : Launch) : xSound l yX9_eyesOf cX9_eyesOf 6 (some .int) 3 0 FX9_eyesOf := x_den (by decide) (tX9_eyesOf_ok l)
noncomputable def tX9_eyes : List (Nat × xO) := [(0, x_iload 1 1), (1, x_call 0 1 FX9_isRow), (4, x_ifne 9), (7, x_push (.int (-1)) 1), (8, x_iret), (9, x_aload 0 1), (10, x_iload 1 1), (11, x_callV 7 0 2 FX9_noThrees), (14, x_istore 2 1), (15, x_iload 2 1), (16, x_ifeq 23), (19, x_iload 2 1), (20, x_goto 28), (23, x_aload 0 1), (24, x_iload 1 1), (25, x_callV 7 0 2 FX9_eyesOf), (28, x_iret)]
set_option maxRecDepth 100000 in
theorem tX9_eyes_ok (l : Launch) : ∀ q ∈ tX9_eyes, xOK l cX9_eyes RX9 3 4 0 (yX9_eyes.name = "<init>") q.1 q.2 := by
  unfold tX9_eyes
  refine List.forall_mem_cons.mpr ⟨?_, List.forall_mem_cons.mpr ⟨?_, List.forall_mem_cons.mpr ⟨?_, List.forall_mem_cons.mpr ⟨?_, List.forall_mem_cons.mpr ⟨?_, List.forall_mem_cons.mpr ⟨?_, List.forall_mem_cons.mpr ⟨?_, List.forall_mem_cons.mpr ⟨?_, List.forall_mem_cons.mpr ⟨?_, List.forall_mem_cons.mpr ⟨?_, List.forall_mem_cons.mpr ⟨?_, List.forall_mem_cons.mpr ⟨?_, List.forall_mem_cons.mpr ⟨?_, List.forall_mem_cons.mpr ⟨?_, List.forall_mem_cons.mpr ⟨?_, List.forall_mem_cons.mpr ⟨?_, List.forall_mem_cons.mpr ⟨?_, fun _ h => absurd h List.not_mem_nil⟩⟩⟩⟩⟩⟩⟩⟩⟩⟩⟩⟩⟩⟩⟩⟩⟩
  · exact x_iload_n_ok (show decode cX9_eyes 0 = .ok (.iload_n 1, 1) by decide +kernel) rfl
  · exact x_callS_ok (sX9_isRow l) hw_914 hw_912 hw_913 hw_68 ⟨by decide, by decide, by decide +kernel⟩ (by decide) (by decide) (show decode cX9_eyes 1 = .ok (.invokestatic 66, 3) by decide +kernel)
  · exact x_ifne_ok (show decode cX9_eyes 4 = .ok (.ifCond .ne 5, 3) by decide +kernel) (by decide)
  · exact x_iconst_ok (show decode cX9_eyes 7 = .ok (.iconst (-1), 1) by decide +kernel) (by decide)
  · exact x_iret_ok (show decode cX9_eyes 8 = .ok (.ireturn, 1) by decide +kernel)
  · exact x_aload_n_ok (show decode cX9_eyes 9 = .ok (.aload_n 0, 1) by decide +kernel) rfl
  · exact x_iload_n_ok (show decode cX9_eyes 10 = .ok (.iload_n 1, 1) by decide +kernel) rfl
  · exact x_callV_ok (ci := 7) rfl (by decide) (sX9_noThrees l) hw_1222 hw_1219 hw_1221 hw_52 hw_68 ⟨by decide, by decide, by decide +kernel⟩ rfl (by decide) (by decide) (show decode cX9_eyes 11 = .ok (.invokevirtual 249, 3) by decide +kernel)
  · exact x_istore_n_ok (show decode cX9_eyes 14 = .ok (.istore_n 2, 1) by decide +kernel) rfl (by decide)
  · exact x_iload_n_ok (show decode cX9_eyes 15 = .ok (.iload_n 2, 1) by decide +kernel) rfl
  · exact x_ifeq_ok (show decode cX9_eyes 16 = .ok (.ifCond .eq 7, 3) by decide +kernel) (by decide)
  · exact x_iload_n_ok (show decode cX9_eyes 19 = .ok (.iload_n 2, 1) by decide +kernel) rfl
  · exact x_goto_ok (show decode cX9_eyes 20 = .ok (.goto 8, 3) by decide +kernel) (by decide)
  · exact x_aload_n_ok (show decode cX9_eyes 23 = .ok (.aload_n 0, 1) by decide +kernel) rfl
  · exact x_iload_n_ok (show decode cX9_eyes 24 = .ok (.iload_n 1, 1) by decide +kernel) rfl
  · exact x_callV_ok (ci := 7) rfl (by decide) (sX9_eyesOf l) hw_1226 hw_1223 hw_1225 hw_53 hw_68 ⟨by decide, by decide, by decide +kernel⟩ rfl (by decide) (by decide) (show decode cX9_eyes 25 = .ok (.invokevirtual 252, 3) by decide +kernel)
  · exact x_iret_ok (show decode cX9_eyes 28 = .ok (.ireturn, 1) by decide +kernel)
noncomputable def FX9_eyes : List Value → xS → Option xR := xden tX9_eyes 3 (some .int) 0
theorem sX9_eyes (l : Launch) : xSound l yX9_eyes cX9_eyes 3 (some .int) 4 0 FX9_eyes := x_den (by decide) (tX9_eyes_ok l)
noncomputable def tX8_show : List (Nat × xO) := [(0, x_aload 0 1), (1, x_iload 1 1), (2, x_callV 6 0 2 FX8_refusalOfSayings), (5, x_istore 2 1), (6, x_iload 2 1), (7, x_ifeq 12), (10, x_iload 2 1), (11, x_iret), (12, x_aload 0 1), (13, x_getR 6 0), (16, x_iload 1 1), (17, x_aald), (18, x_call 0 1 FX8_eyesLeftBy), (21, x_istore 3 1), (22, x_iload 3 1), (23, x_call 0 1 FJ6_bitCount_0f7a4), (26, x_istore 4 2), (28, x_iload 4 2), (30, x_push (.int (nI 2)) 1), (31, x_cmpge 37), (34, x_push (.int (-9)) 2), (36, x_iret), (37, x_push (.int (nI 0)) 1), (38, x_istore 5 2), (40, x_iload 4 2), (42, x_push (.int (nI 1)) 1), (43, x_ii (fun x y => x + y)), (44, x_istore 6 2), (46, x_push (.int (nI 0)) 1), (47, x_istore 7 2), (49, x_iload 7 2), (51, x_push (.int (nI 16)) 2), (53, x_cmpge 101), (56, x_iload 3 1), (57, x_iload 7 2), (59, x_call 0 1 FX8_eyesSayingAlike), (62, x_ii (fun x y => x &&& y)), (63, x_call 0 1 FJ6_bitCount_0f7a4), (66, x_istore 8 2), (68, x_iload 8 2), (70, x_iload 4 2), (72, x_iload 8 2), (74, x_ii (fun x y => x - y)), (75, x_max), (78, x_istore 9 2), (80, x_iload 9 2), (82, x_iload 6 2), (84, x_cmpge 95), (87, x_iload 7 2), (89, x_istore 5 2), (91, x_iload 9 2), (93, x_istore 6 2), (95, x_iinc 7 (nI 1)), (98, x_goto 49), (101, x_iload 5 2), (103, x_iret)]
set_option maxRecDepth 100000 in
theorem tX8_show_ok (l : Launch) : ∀ q ∈ tX8_show, xOK l cX8_show RX8 10 5 0 (yX8_show.name = "<init>") q.1 q.2 := by
  unfold tX8_show
  refine List.forall_mem_cons.mpr ⟨?_, List.forall_mem_cons.mpr ⟨?_, List.forall_mem_cons.mpr ⟨?_, List.forall_mem_cons.mpr ⟨?_, List.forall_mem_cons.mpr ⟨?_, List.forall_mem_cons.mpr ⟨?_, List.forall_mem_cons.mpr ⟨?_, List.forall_mem_cons.mpr ⟨?_, List.forall_mem_cons.mpr ⟨?_, List.forall_mem_cons.mpr ⟨?_, List.forall_mem_cons.mpr ⟨?_, List.forall_mem_cons.mpr ⟨?_, List.forall_mem_cons.mpr ⟨?_, List.forall_mem_cons.mpr ⟨?_, List.forall_mem_cons.mpr ⟨?_, List.forall_mem_cons.mpr ⟨?_, List.forall_mem_cons.mpr ⟨?_, List.forall_mem_cons.mpr ⟨?_, List.forall_mem_cons.mpr ⟨?_, List.forall_mem_cons.mpr ⟨?_, List.forall_mem_cons.mpr ⟨?_, List.forall_mem_cons.mpr ⟨?_, List.forall_mem_cons.mpr ⟨?_, List.forall_mem_cons.mpr ⟨?_, List.forall_mem_cons.mpr ⟨?_, List.forall_mem_cons.mpr ⟨?_, List.forall_mem_cons.mpr ⟨?_, List.forall_mem_cons.mpr ⟨?_, List.forall_mem_cons.mpr ⟨?_, List.forall_mem_cons.mpr ⟨?_, List.forall_mem_cons.mpr ⟨?_, List.forall_mem_cons.mpr ⟨?_, List.forall_mem_cons.mpr ⟨?_, List.forall_mem_cons.mpr ⟨?_, List.forall_mem_cons.mpr ⟨?_, List.forall_mem_cons.mpr ⟨?_, List.forall_mem_cons.mpr ⟨?_, List.forall_mem_cons.mpr ⟨?_, List.forall_mem_cons.mpr ⟨?_, List.forall_mem_cons.mpr ⟨?_, List.forall_mem_cons.mpr ⟨?_, List.forall_mem_cons.mpr ⟨?_, List.forall_mem_cons.mpr ⟨?_, List.forall_mem_cons.mpr ⟨?_, List.forall_mem_cons.mpr ⟨?_, List.forall_mem_cons.mpr ⟨?_, List.forall_mem_cons.mpr ⟨?_, List.forall_mem_cons.mpr ⟨?_, List.forall_mem_cons.mpr ⟨?_, List.forall_mem_cons.mpr ⟨?_, List.forall_mem_cons.mpr ⟨?_, List.forall_mem_cons.mpr ⟨?_, List.forall_mem_cons.mpr ⟨?_, List.forall_mem_cons.mpr ⟨?_, List.forall_mem_cons.mpr ⟨?_, List.forall_mem_cons.mpr ⟨?_, fun _ h => absurd h List.not_mem_nil⟩⟩⟩⟩⟩⟩⟩⟩⟩⟩⟩⟩⟩⟩⟩⟩⟩⟩⟩⟩⟩⟩⟩⟩⟩⟩⟩⟩⟩⟩⟩⟩⟩⟩⟩⟩⟩⟩⟩⟩⟩⟩⟩⟩⟩⟩⟩⟩⟩⟩⟩⟩⟩⟩⟩⟩
  · exact x_aload_n_ok (show decode cX8_show 0 = .ok (.aload_n 0, 1) by decide +kernel) rfl
  · exact x_iload_n_ok (show decode cX8_show 1 = .ok (.iload_n 1, 1) by decide +kernel) rfl
  · exact x_callV_ok (ci := 6) rfl (by decide) (sX8_refusalOfSayings l) hw_704 hw_701 hw_703 hw_12 hw_61 ⟨by decide, by decide, by decide +kernel⟩ rfl (by decide) (by decide) (show decode cX8_show 2 = .ok (.invokevirtual 235, 3) by decide +kernel)
  · exact x_istore_n_ok (show decode cX8_show 5 = .ok (.istore_n 2, 1) by decide +kernel) rfl (by decide)
  · exact x_iload_n_ok (show decode cX8_show 6 = .ok (.iload_n 2, 1) by decide +kernel) rfl
  · exact x_ifeq_ok (show decode cX8_show 7 = .ok (.ifCond .eq 5, 3) by decide +kernel) (by decide)
  · exact x_iload_n_ok (show decode cX8_show 10 = .ok (.iload_n 2, 1) by decide +kernel) rfl
  · exact x_iret_ok (show decode cX8_show 11 = .ok (.ireturn, 1) by decide +kernel)
  · exact x_aload_n_ok (show decode cX8_show 12 = .ok (.aload_n 0, 1) by decide +kernel) rfl
  · exact x_getR_ok (ci := 6) (k := 0) rfl (by decide) (by decide) hw_222 (show decode cX8_show 13 = .ok (.getfield 11, 3) by decide +kernel)
  · exact x_iload_n_ok (show decode cX8_show 16 = .ok (.iload_n 1, 1) by decide +kernel) rfl
  · exact x_aald_ok (show decode cX8_show 17 = .ok (.aaload, 1) by decide +kernel)
  · exact x_callS_ok (sX8_eyesLeftBy l) hw_707 hw_705 hw_706 hw_61 ⟨by decide, by decide, by decide +kernel⟩ (by decide) (by decide) (show decode cX8_show 18 = .ok (.invokestatic 238, 3) by decide +kernel)
  · exact x_istore_n_ok (show decode cX8_show 21 = .ok (.istore_n 3, 1) by decide +kernel) rfl (by decide)
  · exact x_iload_n_ok (show decode cX8_show 22 = .ok (.iload_n 3, 1) by decide +kernel) rfl
  · exact x_callS_ok (sJ6_bitCount_0f7a4 l) hw_668 hw_666 hw_667 hw_77 ⟨by decide, by decide, by decide +kernel⟩ (by decide) (by decide) (show decode cX8_show 23 = .ok (.invokestatic 223, 3) by decide +kernel)
  · exact x_istore_ok (show decode cX8_show 26 = .ok (.istore 4, 2) by decide +kernel) (by decide)
  · exact x_iload_ok (show decode cX8_show 28 = .ok (.iload 4, 2) by decide +kernel)
  · exact x_iconst_ok (show decode cX8_show 30 = .ok (.iconst 2, 1) by decide +kernel) (by decide)
  · exact x_cmpge_ok (show decode cX8_show 31 = .ok (.if_icmp .ge 6, 3) by decide +kernel) (by decide)
  · exact x_bipush_ok (show decode cX8_show 34 = .ok (.bipush (-9), 2) by decide +kernel) (by decide)
  · exact x_iret_ok (show decode cX8_show 36 = .ok (.ireturn, 1) by decide +kernel)
  · exact x_iconst_ok (show decode cX8_show 37 = .ok (.iconst 0, 1) by decide +kernel) (by decide)
  · exact x_istore_ok (show decode cX8_show 38 = .ok (.istore 5, 2) by decide +kernel) (by decide)
  · exact x_iload_ok (show decode cX8_show 40 = .ok (.iload 4, 2) by decide +kernel)
  · exact x_iconst_ok (show decode cX8_show 42 = .ok (.iconst 1, 1) by decide +kernel) (by decide)
  · exact x_iadd_ok (show decode cX8_show 43 = .ok (.iadd, 1) by decide +kernel)
  · exact x_istore_ok (show decode cX8_show 44 = .ok (.istore 6, 2) by decide +kernel) (by decide)
  · exact x_iconst_ok (show decode cX8_show 46 = .ok (.iconst 0, 1) by decide +kernel) (by decide)
  · exact x_istore_ok (show decode cX8_show 47 = .ok (.istore 7, 2) by decide +kernel) (by decide)
  · exact x_iload_ok (show decode cX8_show 49 = .ok (.iload 7, 2) by decide +kernel)
  · exact x_bipush_ok (show decode cX8_show 51 = .ok (.bipush 16, 2) by decide +kernel) (by decide)
  · exact x_cmpge_ok (show decode cX8_show 53 = .ok (.if_icmp .ge 48, 3) by decide +kernel) (by decide)
  · exact x_iload_n_ok (show decode cX8_show 56 = .ok (.iload_n 3, 1) by decide +kernel) rfl
  · exact x_iload_ok (show decode cX8_show 57 = .ok (.iload 7, 2) by decide +kernel)
  · exact x_callS_ok (sX8_eyesSayingAlike l) hw_711 hw_709 hw_710 hw_61 ⟨by decide, by decide, by decide +kernel⟩ (by decide) (by decide) (show decode cX8_show 59 = .ok (.invokestatic 242, 3) by decide +kernel)
  · exact x_iand_ok (show decode cX8_show 62 = .ok (.iand, 1) by decide +kernel)
  · exact x_callS_ok (sJ6_bitCount_0f7a4 l) hw_668 hw_666 hw_667 hw_77 ⟨by decide, by decide, by decide +kernel⟩ (by decide) (by decide) (show decode cX8_show 63 = .ok (.invokestatic 223, 3) by decide +kernel)
  · exact x_istore_ok (show decode cX8_show 66 = .ok (.istore 8, 2) by decide +kernel) (by decide)
  · exact x_iload_ok (show decode cX8_show 68 = .ok (.iload 8, 2) by decide +kernel)
  · exact x_iload_ok (show decode cX8_show 70 = .ok (.iload 4, 2) by decide +kernel)
  · exact x_iload_ok (show decode cX8_show 72 = .ok (.iload 8, 2) by decide +kernel)
  · exact x_isub_ok (show decode cX8_show 74 = .ok (.isub, 1) by decide +kernel)
  · exact x_max_ok hw_716 hw_461 hw_76 hw_462 (by decide) (show decode cX8_show 75 = .ok (.invokestatic 245, 3) by decide +kernel)
  · exact x_istore_ok (show decode cX8_show 78 = .ok (.istore 9, 2) by decide +kernel) (by decide)
  · exact x_iload_ok (show decode cX8_show 80 = .ok (.iload 9, 2) by decide +kernel)
  · exact x_iload_ok (show decode cX8_show 82 = .ok (.iload 6, 2) by decide +kernel)
  · exact x_cmpge_ok (show decode cX8_show 84 = .ok (.if_icmp .ge 11, 3) by decide +kernel) (by decide)
  · exact x_iload_ok (show decode cX8_show 87 = .ok (.iload 7, 2) by decide +kernel)
  · exact x_istore_ok (show decode cX8_show 89 = .ok (.istore 5, 2) by decide +kernel) (by decide)
  · exact x_iload_ok (show decode cX8_show 91 = .ok (.iload 9, 2) by decide +kernel)
  · exact x_istore_ok (show decode cX8_show 93 = .ok (.istore 6, 2) by decide +kernel) (by decide)
  · exact x_iinc_ok (show decode cX8_show 95 = .ok (.iinc 7 1, 3) by decide +kernel) (by decide) (by decide)
  · exact x_goto_ok (show decode cX8_show 98 = .ok (.goto (-49), 3) by decide +kernel) (by decide)
  · exact x_iload_ok (show decode cX8_show 101 = .ok (.iload 5, 2) by decide +kernel)
  · exact x_iret_ok (show decode cX8_show 103 = .ok (.ireturn, 1) by decide +kernel)
noncomputable def FX8_show : List Value → xS → Option xR := xden tX8_show 10 (some .int) 0
theorem sX8_show (l : Launch) : xSound l yX8_show cX8_show 10 (some .int) 5 0 FX8_show := x_den (by decide) (tX8_show_ok l)
noncomputable def tX9_show : List (Nat × xO) := [(0, x_iload 1 1), (1, x_call 0 1 FX9_isRow), (4, x_ifne 9), (7, x_push (.int (-1)) 1), (8, x_iret), (9, x_aload 0 1), (10, x_iload 1 1), (11, x_callV 7 0 2 FX9_noThrees), (14, x_istore 2 1), (15, x_iload 2 1), (16, x_ifeq 21), (19, x_iload 2 1), (20, x_iret), (21, x_aload 0 1), (22, x_iload 1 1), (23, x_callV 7 0 2 FX9_eyesOf), (26, x_istore 3 1), (27, x_iload 3 1), (28, x_call 0 1 FX9_bits), (31, x_push (.int (nI 2)) 1), (32, x_cmpge 38), (35, x_push (.int (-9)) 2), (37, x_iret), (38, x_push (.int (nI 0)) 1), (39, x_istore 4 2), (41, x_push (.int (nI 99)) 2), (43, x_istore 5 2), (45, x_push (.int (nI 0)) 1), (46, x_istore 6 2), (48, x_iload 6 2), (50, x_push (.int (nI 16)) 2), (52, x_cmpge 119), (55, x_iload 3 1), (56, x_iload 6 2), (58, x_ii (fun x y => x >>> (y &&& 31))), (59, x_iload 6 2), (61, x_ii (fun x y => x <<< (y &&& 31))), (62, x_call 0 1 FX9_bits), (65, x_istore 7 2), (67, x_iload 7 2), (69, x_iload 3 1), (70, x_call 0 1 FX9_bits), (73, x_iload 7 2), (75, x_ii (fun x y => x - y)), (76, x_call 0 2 FX9_more), (79, x_istore 8 2), (81, x_iload 8 2), (83, x_iload 5 2), (85, x_cmpge 93), (88, x_iload 6 2), (90, x_goto 95), (93, x_iload 4 2), (95, x_istore 4 2), (97, x_iload 8 2), (99, x_iload 5 2), (101, x_cmpge 109), (104, x_iload 8 2), (106, x_goto 111), (109, x_iload 5 2), (111, x_istore 5 2), (113, x_iinc 6 (nI 1)), (116, x_goto 48), (119, x_iload 4 2), (121, x_iret)]
set_option maxRecDepth 100000 in
theorem tX9_show_ok (l : Launch) : ∀ q ∈ tX9_show, xOK l cX9_show RX9 9 4 0 (yX9_show.name = "<init>") q.1 q.2 := by
  unfold tX9_show
  refine List.forall_mem_cons.mpr ⟨?_, List.forall_mem_cons.mpr ⟨?_, List.forall_mem_cons.mpr ⟨?_, List.forall_mem_cons.mpr ⟨?_, List.forall_mem_cons.mpr ⟨?_, List.forall_mem_cons.mpr ⟨?_, List.forall_mem_cons.mpr ⟨?_, List.forall_mem_cons.mpr ⟨?_, List.forall_mem_cons.mpr ⟨?_, List.forall_mem_cons.mpr ⟨?_, List.forall_mem_cons.mpr ⟨?_, List.forall_mem_cons.mpr ⟨?_, List.forall_mem_cons.mpr ⟨?_, List.forall_mem_cons.mpr ⟨?_, List.forall_mem_cons.mpr ⟨?_, List.forall_mem_cons.mpr ⟨?_, List.forall_mem_cons.mpr ⟨?_, List.forall_mem_cons.mpr ⟨?_, List.forall_mem_cons.mpr ⟨?_, List.forall_mem_cons.mpr ⟨?_, List.forall_mem_cons.mpr ⟨?_, List.forall_mem_cons.mpr ⟨?_, List.forall_mem_cons.mpr ⟨?_, List.forall_mem_cons.mpr ⟨?_, List.forall_mem_cons.mpr ⟨?_, List.forall_mem_cons.mpr ⟨?_, List.forall_mem_cons.mpr ⟨?_, List.forall_mem_cons.mpr ⟨?_, List.forall_mem_cons.mpr ⟨?_, List.forall_mem_cons.mpr ⟨?_, List.forall_mem_cons.mpr ⟨?_, List.forall_mem_cons.mpr ⟨?_, List.forall_mem_cons.mpr ⟨?_, List.forall_mem_cons.mpr ⟨?_, List.forall_mem_cons.mpr ⟨?_, List.forall_mem_cons.mpr ⟨?_, List.forall_mem_cons.mpr ⟨?_, List.forall_mem_cons.mpr ⟨?_, List.forall_mem_cons.mpr ⟨?_, List.forall_mem_cons.mpr ⟨?_, List.forall_mem_cons.mpr ⟨?_, List.forall_mem_cons.mpr ⟨?_, List.forall_mem_cons.mpr ⟨?_, List.forall_mem_cons.mpr ⟨?_, List.forall_mem_cons.mpr ⟨?_, List.forall_mem_cons.mpr ⟨?_, List.forall_mem_cons.mpr ⟨?_, List.forall_mem_cons.mpr ⟨?_, List.forall_mem_cons.mpr ⟨?_, List.forall_mem_cons.mpr ⟨?_, List.forall_mem_cons.mpr ⟨?_, List.forall_mem_cons.mpr ⟨?_, List.forall_mem_cons.mpr ⟨?_, List.forall_mem_cons.mpr ⟨?_, List.forall_mem_cons.mpr ⟨?_, List.forall_mem_cons.mpr ⟨?_, List.forall_mem_cons.mpr ⟨?_, List.forall_mem_cons.mpr ⟨?_, List.forall_mem_cons.mpr ⟨?_, List.forall_mem_cons.mpr ⟨?_, List.forall_mem_cons.mpr ⟨?_, List.forall_mem_cons.mpr ⟨?_, List.forall_mem_cons.mpr ⟨?_, List.forall_mem_cons.mpr ⟨?_, fun _ h => absurd h List.not_mem_nil⟩⟩⟩⟩⟩⟩⟩⟩⟩⟩⟩⟩⟩⟩⟩⟩⟩⟩⟩⟩⟩⟩⟩⟩⟩⟩⟩⟩⟩⟩⟩⟩⟩⟩⟩⟩⟩⟩⟩⟩⟩⟩⟩⟩⟩⟩⟩⟩⟩⟩⟩⟩⟩⟩⟩⟩⟩⟩⟩⟩⟩⟩⟩⟩
  · exact x_iload_n_ok (show decode cX9_show 0 = .ok (.iload_n 1, 1) by decide +kernel) rfl
  · exact x_callS_ok (sX9_isRow l) hw_914 hw_912 hw_913 hw_68 ⟨by decide, by decide, by decide +kernel⟩ (by decide) (by decide) (show decode cX9_show 1 = .ok (.invokestatic 66, 3) by decide +kernel)
  · exact x_ifne_ok (show decode cX9_show 4 = .ok (.ifCond .ne 5, 3) by decide +kernel) (by decide)
  · exact x_iconst_ok (show decode cX9_show 7 = .ok (.iconst (-1), 1) by decide +kernel) (by decide)
  · exact x_iret_ok (show decode cX9_show 8 = .ok (.ireturn, 1) by decide +kernel)
  · exact x_aload_n_ok (show decode cX9_show 9 = .ok (.aload_n 0, 1) by decide +kernel) rfl
  · exact x_iload_n_ok (show decode cX9_show 10 = .ok (.iload_n 1, 1) by decide +kernel) rfl
  · exact x_callV_ok (ci := 7) rfl (by decide) (sX9_noThrees l) hw_1222 hw_1219 hw_1221 hw_52 hw_68 ⟨by decide, by decide, by decide +kernel⟩ rfl (by decide) (by decide) (show decode cX9_show 11 = .ok (.invokevirtual 249, 3) by decide +kernel)
  · exact x_istore_n_ok (show decode cX9_show 14 = .ok (.istore_n 2, 1) by decide +kernel) rfl (by decide)
  · exact x_iload_n_ok (show decode cX9_show 15 = .ok (.iload_n 2, 1) by decide +kernel) rfl
  · exact x_ifeq_ok (show decode cX9_show 16 = .ok (.ifCond .eq 5, 3) by decide +kernel) (by decide)
  · exact x_iload_n_ok (show decode cX9_show 19 = .ok (.iload_n 2, 1) by decide +kernel) rfl
  · exact x_iret_ok (show decode cX9_show 20 = .ok (.ireturn, 1) by decide +kernel)
  · exact x_aload_n_ok (show decode cX9_show 21 = .ok (.aload_n 0, 1) by decide +kernel) rfl
  · exact x_iload_n_ok (show decode cX9_show 22 = .ok (.iload_n 1, 1) by decide +kernel) rfl
  · exact x_callV_ok (ci := 7) rfl (by decide) (sX9_eyesOf l) hw_1226 hw_1223 hw_1225 hw_53 hw_68 ⟨by decide, by decide, by decide +kernel⟩ rfl (by decide) (by decide) (show decode cX9_show 23 = .ok (.invokevirtual 252, 3) by decide +kernel)
  · exact x_istore_n_ok (show decode cX9_show 26 = .ok (.istore_n 3, 1) by decide +kernel) rfl (by decide)
  · exact x_iload_n_ok (show decode cX9_show 27 = .ok (.iload_n 3, 1) by decide +kernel) rfl
  · exact x_callS_ok (sX9_bits l) hw_1151 hw_1149 hw_1150 hw_68 ⟨by decide, by decide, by decide +kernel⟩ (by decide) (by decide) (show decode cX9_show 28 = .ok (.invokestatic 218, 3) by decide +kernel)
  · exact x_iconst_ok (show decode cX9_show 31 = .ok (.iconst 2, 1) by decide +kernel) (by decide)
  · exact x_cmpge_ok (show decode cX9_show 32 = .ok (.if_icmp .ge 6, 3) by decide +kernel) (by decide)
  · exact x_bipush_ok (show decode cX9_show 35 = .ok (.bipush (-9), 2) by decide +kernel) (by decide)
  · exact x_iret_ok (show decode cX9_show 37 = .ok (.ireturn, 1) by decide +kernel)
  · exact x_iconst_ok (show decode cX9_show 38 = .ok (.iconst 0, 1) by decide +kernel) (by decide)
  · exact x_istore_ok (show decode cX9_show 39 = .ok (.istore 4, 2) by decide +kernel) (by decide)
  · exact x_bipush_ok (show decode cX9_show 41 = .ok (.bipush 99, 2) by decide +kernel) (by decide)
  · exact x_istore_ok (show decode cX9_show 43 = .ok (.istore 5, 2) by decide +kernel) (by decide)
  · exact x_iconst_ok (show decode cX9_show 45 = .ok (.iconst 0, 1) by decide +kernel) (by decide)
  · exact x_istore_ok (show decode cX9_show 46 = .ok (.istore 6, 2) by decide +kernel) (by decide)
  · exact x_iload_ok (show decode cX9_show 48 = .ok (.iload 6, 2) by decide +kernel)
  · exact x_bipush_ok (show decode cX9_show 50 = .ok (.bipush 16, 2) by decide +kernel) (by decide)
  · exact x_cmpge_ok (show decode cX9_show 52 = .ok (.if_icmp .ge 67, 3) by decide +kernel) (by decide)
  · exact x_iload_n_ok (show decode cX9_show 55 = .ok (.iload_n 3, 1) by decide +kernel) rfl
  · exact x_iload_ok (show decode cX9_show 56 = .ok (.iload 6, 2) by decide +kernel)
  · exact x_ishr_ok (show decode cX9_show 58 = .ok (.ishr, 1) by decide +kernel)
  · exact x_iload_ok (show decode cX9_show 59 = .ok (.iload 6, 2) by decide +kernel)
  · exact x_ishl_ok (show decode cX9_show 61 = .ok (.ishl, 1) by decide +kernel)
  · exact x_callS_ok (sX9_bits l) hw_1151 hw_1149 hw_1150 hw_68 ⟨by decide, by decide, by decide +kernel⟩ (by decide) (by decide) (show decode cX9_show 62 = .ok (.invokestatic 218, 3) by decide +kernel)
  · exact x_istore_ok (show decode cX9_show 65 = .ok (.istore 7, 2) by decide +kernel) (by decide)
  · exact x_iload_ok (show decode cX9_show 67 = .ok (.iload 7, 2) by decide +kernel)
  · exact x_iload_n_ok (show decode cX9_show 69 = .ok (.iload_n 3, 1) by decide +kernel) rfl
  · exact x_callS_ok (sX9_bits l) hw_1151 hw_1149 hw_1150 hw_68 ⟨by decide, by decide, by decide +kernel⟩ (by decide) (by decide) (show decode cX9_show 70 = .ok (.invokestatic 218, 3) by decide +kernel)
  · exact x_iload_ok (show decode cX9_show 73 = .ok (.iload 7, 2) by decide +kernel)
  · exact x_isub_ok (show decode cX9_show 75 = .ok (.isub, 1) by decide +kernel)
  · exact x_callS_ok (sX9_more l) hw_1038 hw_1036 hw_1037 hw_68 ⟨by decide, by decide, by decide +kernel⟩ (by decide) (by decide) (show decode cX9_show 76 = .ok (.invokestatic 137, 3) by decide +kernel)
  · exact x_istore_ok (show decode cX9_show 79 = .ok (.istore 8, 2) by decide +kernel) (by decide)
  · exact x_iload_ok (show decode cX9_show 81 = .ok (.iload 8, 2) by decide +kernel)
  · exact x_iload_ok (show decode cX9_show 83 = .ok (.iload 5, 2) by decide +kernel)
  · exact x_cmpge_ok (show decode cX9_show 85 = .ok (.if_icmp .ge 8, 3) by decide +kernel) (by decide)
  · exact x_iload_ok (show decode cX9_show 88 = .ok (.iload 6, 2) by decide +kernel)
  · exact x_goto_ok (show decode cX9_show 90 = .ok (.goto 5, 3) by decide +kernel) (by decide)
  · exact x_iload_ok (show decode cX9_show 93 = .ok (.iload 4, 2) by decide +kernel)
  · exact x_istore_ok (show decode cX9_show 95 = .ok (.istore 4, 2) by decide +kernel) (by decide)
  · exact x_iload_ok (show decode cX9_show 97 = .ok (.iload 8, 2) by decide +kernel)
  · exact x_iload_ok (show decode cX9_show 99 = .ok (.iload 5, 2) by decide +kernel)
  · exact x_cmpge_ok (show decode cX9_show 101 = .ok (.if_icmp .ge 8, 3) by decide +kernel) (by decide)
  · exact x_iload_ok (show decode cX9_show 104 = .ok (.iload 8, 2) by decide +kernel)
  · exact x_goto_ok (show decode cX9_show 106 = .ok (.goto 5, 3) by decide +kernel) (by decide)
  · exact x_iload_ok (show decode cX9_show 109 = .ok (.iload 5, 2) by decide +kernel)
  · exact x_istore_ok (show decode cX9_show 111 = .ok (.istore 5, 2) by decide +kernel) (by decide)
  · exact x_iinc_ok (show decode cX9_show 113 = .ok (.iinc 6 1, 3) by decide +kernel) (by decide) (by decide)
  · exact x_goto_ok (show decode cX9_show 116 = .ok (.goto (-68), 3) by decide +kernel) (by decide)
  · exact x_iload_ok (show decode cX9_show 119 = .ok (.iload 4, 2) by decide +kernel)
  · exact x_iret_ok (show decode cX9_show 121 = .ok (.ireturn, 1) by decide +kernel)
noncomputable def FX9_show : List Value → xS → Option xR := xden tX9_show 9 (some .int) 0
theorem sX9_show (l : Launch) : xSound l yX9_show cX9_show 9 (some .int) 4 0 FX9_show := x_den (by decide) (tX9_show_ok l)
noncomputable def tX8_refusalOfJudges : List (Nat × xO) := [(0, x_aload 0 1), (1, x_iload 1 1), (2, x_callV 6 0 2 FX8_refusalOfRow), (5, x_istore 2 1), (6, x_iload 2 1), (7, x_ifeq 12), (10, x_iload 2 1), (11, x_iret), (12, x_aload 0 1), (13, x_getR 6 0), (16, x_iload 1 1), (17, x_aald), (18, x_getI 4 1), (21, x_push (.int (nI 3)) 1), (22, x_cmpeq 31), (25, x_aload 0 1), (26, x_push (.int (nI 5)) 1), (27, x_callV 6 0 2 FX8_findingOf), (30, x_iret), (31, x_aload 0 1), (32, x_getR 6 0), (35, x_iload 1 1), (36, x_aald), (37, x_push (.int (nI 16)) 2), (39, x_callV 4 0 2 FX5_holdsOnlyBelow), (42, x_ifeq 49), (45, x_push (.int (nI 0)) 1), (46, x_goto 54), (49, x_aload 0 1), (50, x_push (.int (nI 3)) 1), (51, x_callV 6 0 2 FX8_findingOf), (54, x_iret)]
set_option maxRecDepth 100000 in
theorem tX8_refusalOfJudges_ok (l : Launch) : ∀ q ∈ tX8_refusalOfJudges, xOK l cX8_refusalOfJudges RX8 3 3 0 (yX8_refusalOfJudges.name = "<init>") q.1 q.2 := by
  unfold tX8_refusalOfJudges
  refine List.forall_mem_cons.mpr ⟨?_, List.forall_mem_cons.mpr ⟨?_, List.forall_mem_cons.mpr ⟨?_, List.forall_mem_cons.mpr ⟨?_, List.forall_mem_cons.mpr ⟨?_, List.forall_mem_cons.mpr ⟨?_, List.forall_mem_cons.mpr ⟨?_, List.forall_mem_cons.mpr ⟨?_, List.forall_mem_cons.mpr ⟨?_, List.forall_mem_cons.mpr ⟨?_, List.forall_mem_cons.mpr ⟨?_, List.forall_mem_cons.mpr ⟨?_, List.forall_mem_cons.mpr ⟨?_, List.forall_mem_cons.mpr ⟨?_, List.forall_mem_cons.mpr ⟨?_, List.forall_mem_cons.mpr ⟨?_, List.forall_mem_cons.mpr ⟨?_, List.forall_mem_cons.mpr ⟨?_, List.forall_mem_cons.mpr ⟨?_, List.forall_mem_cons.mpr ⟨?_, List.forall_mem_cons.mpr ⟨?_, List.forall_mem_cons.mpr ⟨?_, List.forall_mem_cons.mpr ⟨?_, List.forall_mem_cons.mpr ⟨?_, List.forall_mem_cons.mpr ⟨?_, List.forall_mem_cons.mpr ⟨?_, List.forall_mem_cons.mpr ⟨?_, List.forall_mem_cons.mpr ⟨?_, List.forall_mem_cons.mpr ⟨?_, List.forall_mem_cons.mpr ⟨?_, List.forall_mem_cons.mpr ⟨?_, List.forall_mem_cons.mpr ⟨?_, fun _ h => absurd h List.not_mem_nil⟩⟩⟩⟩⟩⟩⟩⟩⟩⟩⟩⟩⟩⟩⟩⟩⟩⟩⟩⟩⟩⟩⟩⟩⟩⟩⟩⟩⟩⟩⟩⟩
  · exact x_aload_n_ok (show decode cX8_refusalOfJudges 0 = .ok (.aload_n 0, 1) by decide +kernel) rfl
  · exact x_iload_n_ok (show decode cX8_refusalOfJudges 1 = .ok (.iload_n 1, 1) by decide +kernel) rfl
  · exact x_callV_ok (ci := 6) rfl (by decide) (sX8_refusalOfRow l) hw_288 hw_285 hw_287 hw_2 hw_61 ⟨by decide, by decide, by decide +kernel⟩ rfl (by decide) (by decide) (show decode cX8_refusalOfJudges 2 = .ok (.invokevirtual 88, 3) by decide +kernel)
  · exact x_istore_n_ok (show decode cX8_refusalOfJudges 5 = .ok (.istore_n 2, 1) by decide +kernel) rfl (by decide)
  · exact x_iload_n_ok (show decode cX8_refusalOfJudges 6 = .ok (.iload_n 2, 1) by decide +kernel) rfl
  · exact x_ifeq_ok (show decode cX8_refusalOfJudges 7 = .ok (.ifCond .eq 5, 3) by decide +kernel) (by decide)
  · exact x_iload_n_ok (show decode cX8_refusalOfJudges 10 = .ok (.iload_n 2, 1) by decide +kernel) rfl
  · exact x_iret_ok (show decode cX8_refusalOfJudges 11 = .ok (.ireturn, 1) by decide +kernel)
  · exact x_aload_n_ok (show decode cX8_refusalOfJudges 12 = .ok (.aload_n 0, 1) by decide +kernel) rfl
  · exact x_getR_ok (ci := 6) (k := 0) rfl (by decide) (by decide) hw_222 (show decode cX8_refusalOfJudges 13 = .ok (.getfield 11, 3) by decide +kernel)
  · exact x_iload_n_ok (show decode cX8_refusalOfJudges 16 = .ok (.iload_n 1, 1) by decide +kernel) rfl
  · exact x_aald_ok (show decode cX8_refusalOfJudges 17 = .ok (.aaload, 1) by decide +kernel)
  · exact x_getI_ok (ci := 4) (k := 1) rfl (by decide) (by decide) hw_100 (show decode cX8_refusalOfJudges 18 = .ok (.getfield 107, 3) by decide +kernel)
  · exact x_iconst_ok (show decode cX8_refusalOfJudges 21 = .ok (.iconst 3, 1) by decide +kernel) (by decide)
  · exact x_cmpeq_ok (show decode cX8_refusalOfJudges 22 = .ok (.if_icmp .eq 9, 3) by decide +kernel) (by decide)
  · exact x_aload_n_ok (show decode cX8_refusalOfJudges 25 = .ok (.aload_n 0, 1) by decide +kernel) rfl
  · exact x_iconst_ok (show decode cX8_refusalOfJudges 26 = .ok (.iconst 5, 1) by decide +kernel) (by decide)
  · exact x_callV_ok (ci := 6) rfl (by decide) (sX8_findingOf l) hw_272 hw_269 hw_271 hw_0 hw_61 ⟨by decide, by decide, by decide +kernel⟩ rfl (by decide) (by decide) (show decode cX8_refusalOfJudges 27 = .ok (.invokevirtual 69, 3) by decide +kernel)
  · exact x_iret_ok (show decode cX8_refusalOfJudges 30 = .ok (.ireturn, 1) by decide +kernel)
  · exact x_aload_n_ok (show decode cX8_refusalOfJudges 31 = .ok (.aload_n 0, 1) by decide +kernel) rfl
  · exact x_getR_ok (ci := 6) (k := 0) rfl (by decide) (by decide) hw_222 (show decode cX8_refusalOfJudges 32 = .ok (.getfield 11, 3) by decide +kernel)
  · exact x_iload_n_ok (show decode cX8_refusalOfJudges 35 = .ok (.iload_n 1, 1) by decide +kernel) rfl
  · exact x_aald_ok (show decode cX8_refusalOfJudges 36 = .ok (.aaload, 1) by decide +kernel)
  · exact x_bipush_ok (show decode cX8_refusalOfJudges 37 = .ok (.bipush 16, 2) by decide +kernel) (by decide)
  · exact x_callV_ok (ci := 4) rfl (by decide) (sX5_holdsOnlyBelow l) hw_636 hw_633 hw_634 hw_635 hw_62 ⟨by decide, by decide, by decide +kernel⟩ rfl (by decide) (by decide) (show decode cX8_refusalOfJudges 39 = .ok (.invokevirtual 323, 3) by decide +kernel)
  · exact x_ifeq_ok (show decode cX8_refusalOfJudges 42 = .ok (.ifCond .eq 7, 3) by decide +kernel) (by decide)
  · exact x_iconst_ok (show decode cX8_refusalOfJudges 45 = .ok (.iconst 0, 1) by decide +kernel) (by decide)
  · exact x_goto_ok (show decode cX8_refusalOfJudges 46 = .ok (.goto 8, 3) by decide +kernel) (by decide)
  · exact x_aload_n_ok (show decode cX8_refusalOfJudges 49 = .ok (.aload_n 0, 1) by decide +kernel) rfl
  · exact x_iconst_ok (show decode cX8_refusalOfJudges 50 = .ok (.iconst 3, 1) by decide +kernel) (by decide)
  · exact x_callV_ok (ci := 6) rfl (by decide) (sX8_findingOf l) hw_272 hw_269 hw_271 hw_0 hw_61 ⟨by decide, by decide, by decide +kernel⟩ rfl (by decide) (by decide) (show decode cX8_refusalOfJudges 51 = .ok (.invokevirtual 69, 3) by decide +kernel)
  · exact x_iret_ok (show decode cX8_refusalOfJudges 54 = .ok (.ireturn, 1) by decide +kernel)
noncomputable def FX8_refusalOfJudges : List Value → xS → Option xR := xden tX8_refusalOfJudges 3 (some .int) 0
theorem sX8_refusalOfJudges (l : Launch) : xSound l yX8_refusalOfJudges cX8_refusalOfJudges 3 (some .int) 3 0 FX8_refusalOfJudges := x_den (by decide) (tX8_refusalOfJudges_ok l)
noncomputable def tX8_saysAlike : List (Nat × xO) := [(0, x_iload 1 1), (1, x_iload 0 1), (2, x_cmpgt 9), (5, x_push (.int (nI 1)) 1), (6, x_goto 10), (9, x_push (.int (nI 0)) 1), (10, x_iret)]
set_option maxRecDepth 100000 in
theorem tX8_saysAlike_ok (l : Launch) : ∀ q ∈ tX8_saysAlike, xOK l cX8_saysAlike RX8 2 1 0 (yX8_saysAlike.name = "<init>") q.1 q.2 := by
  unfold tX8_saysAlike
  refine List.forall_mem_cons.mpr ⟨?_, List.forall_mem_cons.mpr ⟨?_, List.forall_mem_cons.mpr ⟨?_, List.forall_mem_cons.mpr ⟨?_, List.forall_mem_cons.mpr ⟨?_, List.forall_mem_cons.mpr ⟨?_, List.forall_mem_cons.mpr ⟨?_, fun _ h => absurd h List.not_mem_nil⟩⟩⟩⟩⟩⟩⟩
  · exact x_iload_n_ok (show decode cX8_saysAlike 0 = .ok (.iload_n 1, 1) by decide +kernel) rfl
  · exact x_iload_n_ok (show decode cX8_saysAlike 1 = .ok (.iload_n 0, 1) by decide +kernel) rfl
  · exact x_cmpgt_ok (show decode cX8_saysAlike 2 = .ok (.if_icmp .gt 7, 3) by decide +kernel) (by decide)
  · exact x_iconst_ok (show decode cX8_saysAlike 5 = .ok (.iconst 1, 1) by decide +kernel) (by decide)
  · exact x_goto_ok (show decode cX8_saysAlike 6 = .ok (.goto 4, 3) by decide +kernel) (by decide)
  · exact x_iconst_ok (show decode cX8_saysAlike 9 = .ok (.iconst 0, 1) by decide +kernel) (by decide)
  · exact x_iret_ok (show decode cX8_saysAlike 10 = .ok (.ireturn, 1) by decide +kernel)
noncomputable def FX8_saysAlike : List Value → xS → Option xR := xden tX8_saysAlike 2 (some .int) 0
theorem sX8_saysAlike (l : Launch) : xSound l yX8_saysAlike cX8_saysAlike 2 (some .int) 1 0 FX8_saysAlike := x_den (by decide) (tX8_saysAlike_ok l)
noncomputable def tX8_judged : List (Nat × xO) := [(0, x_iload 2 1), (1, x_push (.int (nI 216)) 3), (4, x_call 0 2 FX8_among), (7, x_ifeq 20), (10, x_iload 3 1), (11, x_push (.int (nI 216)) 3), (14, x_call 0 2 FX8_among), (17, x_ifne 22), (20, x_push (.int (-1)) 1), (21, x_iret), (22, x_aload 0 1), (23, x_iload 1 1), (24, x_callV 6 0 2 FX8_refusalOfJudges), (27, x_istore 4 2), (29, x_iload 4 2), (31, x_ifeq 37), (34, x_iload 4 2), (36, x_iret), (37, x_iload 2 1), (38, x_iload 3 1), (39, x_call 0 2 FX8_farApart), (42, x_istore 5 2), (44, x_push (.int (nI 0)) 1), (45, x_istore 6 2), (47, x_push (.int (nI 0)) 1), (48, x_istore 7 2), (50, x_iload 7 2), (52, x_aload 0 1), (53, x_getR 6 0), (56, x_iload 1 1), (57, x_aald), (58, x_getI 4 1), (61, x_cmpge 92), (64, x_iload 6 2), (66, x_aload 0 1), (67, x_getR 6 0), (70, x_iload 1 1), (71, x_aald), (72, x_getR 4 0), (75, x_iload 7 2), (77, x_iald), (78, x_iload 5 2), (80, x_call 0 2 FX8_saysAlike), (83, x_ii (fun x y => x + y)), (84, x_istore 6 2), (86, x_iinc 7 (nI 1)), (89, x_goto 50), (92, x_iload 6 2), (94, x_push (.int (nI 2)) 1), (95, x_cmplt 102), (98, x_push (.int (nI 1)) 1), (99, x_goto 103), (102, x_push (.int (nI 0)) 1), (103, x_istore 7 2), (105, x_aload 0 1), (106, x_push (.int (-9)) 2), (108, x_putI 6 10), (111, x_push (.int (nI 0)) 1), (112, x_istore 8 2), (114, x_iload 8 2), (116, x_aload 0 1), (117, x_getR 6 0), (120, x_iload 1 1), (121, x_aald), (122, x_getI 4 1), (125, x_cmpge 162), (128, x_aload 0 1), (129, x_getR 6 0), (132, x_iload 1 1), (133, x_aald), (134, x_getR 4 0), (137, x_iload 8 2), (139, x_iald), (140, x_iload 5 2), (142, x_call 0 2 FX8_saysAlike), (145, x_iload 7 2), (147, x_cmpeq 156), (150, x_aload 0 1), (151, x_iload 8 2), (153, x_putI 6 10), (156, x_iinc 8 (nI 1)), (159, x_goto 114), (162, x_iload 7 2), (164, x_iret)]
set_option maxRecDepth 100000 in
theorem tX8_judged_ok (l : Launch) : ∀ q ∈ tX8_judged, xOK l cX8_judged RX8 9 4 0 (yX8_judged.name = "<init>") q.1 q.2 := by
  unfold tX8_judged
  refine List.forall_mem_cons.mpr ⟨?_, List.forall_mem_cons.mpr ⟨?_, List.forall_mem_cons.mpr ⟨?_, List.forall_mem_cons.mpr ⟨?_, List.forall_mem_cons.mpr ⟨?_, List.forall_mem_cons.mpr ⟨?_, List.forall_mem_cons.mpr ⟨?_, List.forall_mem_cons.mpr ⟨?_, List.forall_mem_cons.mpr ⟨?_, List.forall_mem_cons.mpr ⟨?_, List.forall_mem_cons.mpr ⟨?_, List.forall_mem_cons.mpr ⟨?_, List.forall_mem_cons.mpr ⟨?_, List.forall_mem_cons.mpr ⟨?_, List.forall_mem_cons.mpr ⟨?_, List.forall_mem_cons.mpr ⟨?_, List.forall_mem_cons.mpr ⟨?_, List.forall_mem_cons.mpr ⟨?_, List.forall_mem_cons.mpr ⟨?_, List.forall_mem_cons.mpr ⟨?_, List.forall_mem_cons.mpr ⟨?_, List.forall_mem_cons.mpr ⟨?_, List.forall_mem_cons.mpr ⟨?_, List.forall_mem_cons.mpr ⟨?_, List.forall_mem_cons.mpr ⟨?_, List.forall_mem_cons.mpr ⟨?_, List.forall_mem_cons.mpr ⟨?_, List.forall_mem_cons.mpr ⟨?_, List.forall_mem_cons.mpr ⟨?_, List.forall_mem_cons.mpr ⟨?_, List.forall_mem_cons.mpr ⟨?_, List.forall_mem_cons.mpr ⟨?_, List.forall_mem_cons.mpr ⟨?_, List.forall_mem_cons.mpr ⟨?_, List.forall_mem_cons.mpr ⟨?_, List.forall_mem_cons.mpr ⟨?_, List.forall_mem_cons.mpr ⟨?_, List.forall_mem_cons.mpr ⟨?_, List.forall_mem_cons.mpr ⟨?_, List.forall_mem_cons.mpr ⟨?_, List.forall_mem_cons.mpr ⟨?_, List.forall_mem_cons.mpr ⟨?_, List.forall_mem_cons.mpr ⟨?_, List.forall_mem_cons.mpr ⟨?_, List.forall_mem_cons.mpr ⟨?_, List.forall_mem_cons.mpr ⟨?_, List.forall_mem_cons.mpr ⟨?_, List.forall_mem_cons.mpr ⟨?_, List.forall_mem_cons.mpr ⟨?_, List.forall_mem_cons.mpr ⟨?_, List.forall_mem_cons.mpr ⟨?_, List.forall_mem_cons.mpr ⟨?_, List.forall_mem_cons.mpr ⟨?_, List.forall_mem_cons.mpr ⟨?_, List.forall_mem_cons.mpr ⟨?_, List.forall_mem_cons.mpr ⟨?_, List.forall_mem_cons.mpr ⟨?_, List.forall_mem_cons.mpr ⟨?_, List.forall_mem_cons.mpr ⟨?_, List.forall_mem_cons.mpr ⟨?_, List.forall_mem_cons.mpr ⟨?_, List.forall_mem_cons.mpr ⟨?_, List.forall_mem_cons.mpr ⟨?_, List.forall_mem_cons.mpr ⟨?_, List.forall_mem_cons.mpr ⟨?_, List.forall_mem_cons.mpr ⟨?_, List.forall_mem_cons.mpr ⟨?_, List.forall_mem_cons.mpr ⟨?_, List.forall_mem_cons.mpr ⟨?_, List.forall_mem_cons.mpr ⟨?_, List.forall_mem_cons.mpr ⟨?_, List.forall_mem_cons.mpr ⟨?_, List.forall_mem_cons.mpr ⟨?_, List.forall_mem_cons.mpr ⟨?_, List.forall_mem_cons.mpr ⟨?_, List.forall_mem_cons.mpr ⟨?_, List.forall_mem_cons.mpr ⟨?_, List.forall_mem_cons.mpr ⟨?_, List.forall_mem_cons.mpr ⟨?_, List.forall_mem_cons.mpr ⟨?_, List.forall_mem_cons.mpr ⟨?_, List.forall_mem_cons.mpr ⟨?_, List.forall_mem_cons.mpr ⟨?_, List.forall_mem_cons.mpr ⟨?_, fun _ h => absurd h List.not_mem_nil⟩⟩⟩⟩⟩⟩⟩⟩⟩⟩⟩⟩⟩⟩⟩⟩⟩⟩⟩⟩⟩⟩⟩⟩⟩⟩⟩⟩⟩⟩⟩⟩⟩⟩⟩⟩⟩⟩⟩⟩⟩⟩⟩⟩⟩⟩⟩⟩⟩⟩⟩⟩⟩⟩⟩⟩⟩⟩⟩⟩⟩⟩⟩⟩⟩⟩⟩⟩⟩⟩⟩⟩⟩⟩⟩⟩⟩⟩⟩⟩⟩⟩⟩⟩
  · exact x_iload_n_ok (show decode cX8_judged 0 = .ok (.iload_n 2, 1) by decide +kernel) rfl
  · exact x_sipush_ok (show decode cX8_judged 1 = .ok (.sipush 216, 3) by decide +kernel) (by decide)
  · exact x_callS_ok (sX8_among l) hw_268 hw_266 hw_267 hw_61 ⟨by decide, by decide, by decide +kernel⟩ (by decide) (by decide) (show decode cX8_judged 4 = .ok (.invokestatic 65, 3) by decide +kernel)
  · exact x_ifeq_ok (show decode cX8_judged 7 = .ok (.ifCond .eq 13, 3) by decide +kernel) (by decide)
  · exact x_iload_n_ok (show decode cX8_judged 10 = .ok (.iload_n 3, 1) by decide +kernel) rfl
  · exact x_sipush_ok (show decode cX8_judged 11 = .ok (.sipush 216, 3) by decide +kernel) (by decide)
  · exact x_callS_ok (sX8_among l) hw_268 hw_266 hw_267 hw_61 ⟨by decide, by decide, by decide +kernel⟩ (by decide) (by decide) (show decode cX8_judged 14 = .ok (.invokestatic 65, 3) by decide +kernel)
  · exact x_ifne_ok (show decode cX8_judged 17 = .ok (.ifCond .ne 5, 3) by decide +kernel) (by decide)
  · exact x_iconst_ok (show decode cX8_judged 20 = .ok (.iconst (-1), 1) by decide +kernel) (by decide)
  · exact x_iret_ok (show decode cX8_judged 21 = .ok (.ireturn, 1) by decide +kernel)
  · exact x_aload_n_ok (show decode cX8_judged 22 = .ok (.aload_n 0, 1) by decide +kernel) rfl
  · exact x_iload_n_ok (show decode cX8_judged 23 = .ok (.iload_n 1, 1) by decide +kernel) rfl
  · exact x_callV_ok (ci := 6) rfl (by decide) (sX8_refusalOfJudges l) hw_724 hw_721 hw_723 hw_13 hw_61 ⟨by decide, by decide, by decide +kernel⟩ rfl (by decide) (by decide) (show decode cX8_judged 24 = .ok (.invokevirtual 250, 3) by decide +kernel)
  · exact x_istore_ok (show decode cX8_judged 27 = .ok (.istore 4, 2) by decide +kernel) (by decide)
  · exact x_iload_ok (show decode cX8_judged 29 = .ok (.iload 4, 2) by decide +kernel)
  · exact x_ifeq_ok (show decode cX8_judged 31 = .ok (.ifCond .eq 6, 3) by decide +kernel) (by decide)
  · exact x_iload_ok (show decode cX8_judged 34 = .ok (.iload 4, 2) by decide +kernel)
  · exact x_iret_ok (show decode cX8_judged 36 = .ok (.ireturn, 1) by decide +kernel)
  · exact x_iload_n_ok (show decode cX8_judged 37 = .ok (.iload_n 2, 1) by decide +kernel) rfl
  · exact x_iload_n_ok (show decode cX8_judged 38 = .ok (.iload_n 3, 1) by decide +kernel) rfl
  · exact x_callS_ok (sX8_farApart l) hw_578 hw_576 hw_577 hw_61 ⟨by decide, by decide, by decide +kernel⟩ (by decide) (by decide) (show decode cX8_judged 39 = .ok (.invokestatic 188, 3) by decide +kernel)
  · exact x_istore_ok (show decode cX8_judged 42 = .ok (.istore 5, 2) by decide +kernel) (by decide)
  · exact x_iconst_ok (show decode cX8_judged 44 = .ok (.iconst 0, 1) by decide +kernel) (by decide)
  · exact x_istore_ok (show decode cX8_judged 45 = .ok (.istore 6, 2) by decide +kernel) (by decide)
  · exact x_iconst_ok (show decode cX8_judged 47 = .ok (.iconst 0, 1) by decide +kernel) (by decide)
  · exact x_istore_ok (show decode cX8_judged 48 = .ok (.istore 7, 2) by decide +kernel) (by decide)
  · exact x_iload_ok (show decode cX8_judged 50 = .ok (.iload 7, 2) by decide +kernel)
  · exact x_aload_n_ok (show decode cX8_judged 52 = .ok (.aload_n 0, 1) by decide +kernel) rfl
  · exact x_getR_ok (ci := 6) (k := 0) rfl (by decide) (by decide) hw_222 (show decode cX8_judged 53 = .ok (.getfield 11, 3) by decide +kernel)
  · exact x_iload_n_ok (show decode cX8_judged 56 = .ok (.iload_n 1, 1) by decide +kernel) rfl
  · exact x_aald_ok (show decode cX8_judged 57 = .ok (.aaload, 1) by decide +kernel)
  · exact x_getI_ok (ci := 4) (k := 1) rfl (by decide) (by decide) hw_100 (show decode cX8_judged 58 = .ok (.getfield 107, 3) by decide +kernel)
  · exact x_cmpge_ok (show decode cX8_judged 61 = .ok (.if_icmp .ge 31, 3) by decide +kernel) (by decide)
  · exact x_iload_ok (show decode cX8_judged 64 = .ok (.iload 6, 2) by decide +kernel)
  · exact x_aload_n_ok (show decode cX8_judged 66 = .ok (.aload_n 0, 1) by decide +kernel) rfl
  · exact x_getR_ok (ci := 6) (k := 0) rfl (by decide) (by decide) hw_222 (show decode cX8_judged 67 = .ok (.getfield 11, 3) by decide +kernel)
  · exact x_iload_n_ok (show decode cX8_judged 70 = .ok (.iload_n 1, 1) by decide +kernel) rfl
  · exact x_aald_ok (show decode cX8_judged 71 = .ok (.aaload, 1) by decide +kernel)
  · exact x_getR_ok (ci := 4) (k := 0) rfl (by decide) (by decide) hw_96 (show decode cX8_judged 72 = .ok (.getfield 81, 3) by decide +kernel)
  · exact x_iload_ok (show decode cX8_judged 75 = .ok (.iload 7, 2) by decide +kernel)
  · exact x_iald_ok (show decode cX8_judged 77 = .ok (.iaload, 1) by decide +kernel)
  · exact x_iload_ok (show decode cX8_judged 78 = .ok (.iload 5, 2) by decide +kernel)
  · exact x_callS_ok (sX8_saysAlike l) hw_727 hw_725 hw_726 hw_61 ⟨by decide, by decide, by decide +kernel⟩ (by decide) (by decide) (show decode cX8_judged 80 = .ok (.invokestatic 253, 3) by decide +kernel)
  · exact x_iadd_ok (show decode cX8_judged 83 = .ok (.iadd, 1) by decide +kernel)
  · exact x_istore_ok (show decode cX8_judged 84 = .ok (.istore 6, 2) by decide +kernel) (by decide)
  · exact x_iinc_ok (show decode cX8_judged 86 = .ok (.iinc 7 1, 3) by decide +kernel) (by decide) (by decide)
  · exact x_goto_ok (show decode cX8_judged 89 = .ok (.goto (-39), 3) by decide +kernel) (by decide)
  · exact x_iload_ok (show decode cX8_judged 92 = .ok (.iload 6, 2) by decide +kernel)
  · exact x_iconst_ok (show decode cX8_judged 94 = .ok (.iconst 2, 1) by decide +kernel) (by decide)
  · exact x_cmplt_ok (show decode cX8_judged 95 = .ok (.if_icmp .lt 7, 3) by decide +kernel) (by decide)
  · exact x_iconst_ok (show decode cX8_judged 98 = .ok (.iconst 1, 1) by decide +kernel) (by decide)
  · exact x_goto_ok (show decode cX8_judged 99 = .ok (.goto 4, 3) by decide +kernel) (by decide)
  · exact x_iconst_ok (show decode cX8_judged 102 = .ok (.iconst 0, 1) by decide +kernel) (by decide)
  · exact x_istore_ok (show decode cX8_judged 103 = .ok (.istore 7, 2) by decide +kernel) (by decide)
  · exact x_aload_n_ok (show decode cX8_judged 105 = .ok (.aload_n 0, 1) by decide +kernel) rfl
  · exact x_bipush_ok (show decode cX8_judged 106 = .ok (.bipush (-9), 2) by decide +kernel) (by decide)
  · exact x_putI_ok (ci := 6) (k := 10) rfl (by decide) (by decide) rfl hw_232 rfl (show decode cX8_judged 108 = .ok (.putfield 84, 3) by decide +kernel)
  · exact x_iconst_ok (show decode cX8_judged 111 = .ok (.iconst 0, 1) by decide +kernel) (by decide)
  · exact x_istore_ok (show decode cX8_judged 112 = .ok (.istore 8, 2) by decide +kernel) (by decide)
  · exact x_iload_ok (show decode cX8_judged 114 = .ok (.iload 8, 2) by decide +kernel)
  · exact x_aload_n_ok (show decode cX8_judged 116 = .ok (.aload_n 0, 1) by decide +kernel) rfl
  · exact x_getR_ok (ci := 6) (k := 0) rfl (by decide) (by decide) hw_222 (show decode cX8_judged 117 = .ok (.getfield 11, 3) by decide +kernel)
  · exact x_iload_n_ok (show decode cX8_judged 120 = .ok (.iload_n 1, 1) by decide +kernel) rfl
  · exact x_aald_ok (show decode cX8_judged 121 = .ok (.aaload, 1) by decide +kernel)
  · exact x_getI_ok (ci := 4) (k := 1) rfl (by decide) (by decide) hw_100 (show decode cX8_judged 122 = .ok (.getfield 107, 3) by decide +kernel)
  · exact x_cmpge_ok (show decode cX8_judged 125 = .ok (.if_icmp .ge 37, 3) by decide +kernel) (by decide)
  · exact x_aload_n_ok (show decode cX8_judged 128 = .ok (.aload_n 0, 1) by decide +kernel) rfl
  · exact x_getR_ok (ci := 6) (k := 0) rfl (by decide) (by decide) hw_222 (show decode cX8_judged 129 = .ok (.getfield 11, 3) by decide +kernel)
  · exact x_iload_n_ok (show decode cX8_judged 132 = .ok (.iload_n 1, 1) by decide +kernel) rfl
  · exact x_aald_ok (show decode cX8_judged 133 = .ok (.aaload, 1) by decide +kernel)
  · exact x_getR_ok (ci := 4) (k := 0) rfl (by decide) (by decide) hw_96 (show decode cX8_judged 134 = .ok (.getfield 81, 3) by decide +kernel)
  · exact x_iload_ok (show decode cX8_judged 137 = .ok (.iload 8, 2) by decide +kernel)
  · exact x_iald_ok (show decode cX8_judged 139 = .ok (.iaload, 1) by decide +kernel)
  · exact x_iload_ok (show decode cX8_judged 140 = .ok (.iload 5, 2) by decide +kernel)
  · exact x_callS_ok (sX8_saysAlike l) hw_727 hw_725 hw_726 hw_61 ⟨by decide, by decide, by decide +kernel⟩ (by decide) (by decide) (show decode cX8_judged 142 = .ok (.invokestatic 253, 3) by decide +kernel)
  · exact x_iload_ok (show decode cX8_judged 145 = .ok (.iload 7, 2) by decide +kernel)
  · exact x_cmpeq_ok (show decode cX8_judged 147 = .ok (.if_icmp .eq 9, 3) by decide +kernel) (by decide)
  · exact x_aload_n_ok (show decode cX8_judged 150 = .ok (.aload_n 0, 1) by decide +kernel) rfl
  · exact x_iload_ok (show decode cX8_judged 151 = .ok (.iload 8, 2) by decide +kernel)
  · exact x_putI_ok (ci := 6) (k := 10) rfl (by decide) (by decide) rfl hw_232 rfl (show decode cX8_judged 153 = .ok (.putfield 84, 3) by decide +kernel)
  · exact x_iinc_ok (show decode cX8_judged 156 = .ok (.iinc 8 1, 3) by decide +kernel) (by decide) (by decide)
  · exact x_goto_ok (show decode cX8_judged 159 = .ok (.goto (-45), 3) by decide +kernel) (by decide)
  · exact x_iload_ok (show decode cX8_judged 162 = .ok (.iload 7, 2) by decide +kernel)
  · exact x_iret_ok (show decode cX8_judged 164 = .ok (.ireturn, 1) by decide +kernel)
noncomputable def FX8_judged : List Value → xS → Option xR := xden tX8_judged 9 (some .int) 0
theorem sX8_judged (l : Launch) : xSound l yX8_judged cX8_judged 9 (some .int) 4 0 FX8_judged := x_den (by decide) (tX8_judged_ok l)
noncomputable def tX9_areEyes : List (Nat × xO) := [(0, x_push (.int (nI 1)) 1), (1, x_istore 2 1), (2, x_push (.int (nI 0)) 1), (3, x_istore 3 1), (4, x_iload 3 1), (5, x_push (.int (nI 3)) 1), (6, x_cmpge 47), (9, x_iload 2 1), (10, x_ifeq 39), (13, x_aload 0 1), (14, x_getR 7 2), (17, x_push (.int (nI 40)) 2), (19, x_iload 1 1), (20, x_ii (fun x y => x * y)), (21, x_iload 3 1), (22, x_ii (fun x y => x + y)), (23, x_iald), (24, x_i2l), (25, x_push (.long 0) 1), (26, x_push (.long 15) 3), (29, x_call 0 3 FX9_in), (32, x_ifeq 39), (35, x_push (.int (nI 1)) 1), (36, x_goto 40), (39, x_push (.int (nI 0)) 1), (40, x_istore 2 1), (41, x_iinc 3 (nI 1)), (44, x_goto 4), (47, x_iload 2 1), (48, x_iret)]
set_option maxRecDepth 100000 in
theorem tX9_areEyes_ok (l : Launch) : ∀ q ∈ tX9_areEyes, xOK l cX9_areEyes RX9 4 2 0 (yX9_areEyes.name = "<init>") q.1 q.2 := by
  unfold tX9_areEyes
  refine List.forall_mem_cons.mpr ⟨?_, List.forall_mem_cons.mpr ⟨?_, List.forall_mem_cons.mpr ⟨?_, List.forall_mem_cons.mpr ⟨?_, List.forall_mem_cons.mpr ⟨?_, List.forall_mem_cons.mpr ⟨?_, List.forall_mem_cons.mpr ⟨?_, List.forall_mem_cons.mpr ⟨?_, List.forall_mem_cons.mpr ⟨?_, List.forall_mem_cons.mpr ⟨?_, List.forall_mem_cons.mpr ⟨?_, List.forall_mem_cons.mpr ⟨?_, List.forall_mem_cons.mpr ⟨?_, List.forall_mem_cons.mpr ⟨?_, List.forall_mem_cons.mpr ⟨?_, List.forall_mem_cons.mpr ⟨?_, List.forall_mem_cons.mpr ⟨?_, List.forall_mem_cons.mpr ⟨?_, List.forall_mem_cons.mpr ⟨?_, List.forall_mem_cons.mpr ⟨?_, List.forall_mem_cons.mpr ⟨?_, List.forall_mem_cons.mpr ⟨?_, List.forall_mem_cons.mpr ⟨?_, List.forall_mem_cons.mpr ⟨?_, List.forall_mem_cons.mpr ⟨?_, List.forall_mem_cons.mpr ⟨?_, List.forall_mem_cons.mpr ⟨?_, List.forall_mem_cons.mpr ⟨?_, List.forall_mem_cons.mpr ⟨?_, List.forall_mem_cons.mpr ⟨?_, fun _ h => absurd h List.not_mem_nil⟩⟩⟩⟩⟩⟩⟩⟩⟩⟩⟩⟩⟩⟩⟩⟩⟩⟩⟩⟩⟩⟩⟩⟩⟩⟩⟩⟩⟩⟩
  · exact x_iconst_ok (show decode cX9_areEyes 0 = .ok (.iconst 1, 1) by decide +kernel) (by decide)
  · exact x_istore_n_ok (show decode cX9_areEyes 1 = .ok (.istore_n 2, 1) by decide +kernel) rfl (by decide)
  · exact x_iconst_ok (show decode cX9_areEyes 2 = .ok (.iconst 0, 1) by decide +kernel) (by decide)
  · exact x_istore_n_ok (show decode cX9_areEyes 3 = .ok (.istore_n 3, 1) by decide +kernel) rfl (by decide)
  · exact x_iload_n_ok (show decode cX9_areEyes 4 = .ok (.iload_n 3, 1) by decide +kernel) rfl
  · exact x_iconst_ok (show decode cX9_areEyes 5 = .ok (.iconst 3, 1) by decide +kernel) (by decide)
  · exact x_cmpge_ok (show decode cX9_areEyes 6 = .ok (.if_icmp .ge 41, 3) by decide +kernel) (by decide)
  · exact x_iload_n_ok (show decode cX9_areEyes 9 = .ok (.iload_n 2, 1) by decide +kernel) rfl
  · exact x_ifeq_ok (show decode cX9_areEyes 10 = .ok (.ifCond .eq 29, 3) by decide +kernel) (by decide)
  · exact x_aload_n_ok (show decode cX9_areEyes 13 = .ok (.aload_n 0, 1) by decide +kernel) rfl
  · exact x_getR_ok (ci := 7) (k := 2) rfl (by decide) (by decide) hw_846 (show decode cX9_areEyes 14 = .ok (.getfield 16, 3) by decide +kernel)
  · exact x_bipush_ok (show decode cX9_areEyes 17 = .ok (.bipush 40, 2) by decide +kernel) (by decide)
  · exact x_iload_n_ok (show decode cX9_areEyes 19 = .ok (.iload_n 1, 1) by decide +kernel) rfl
  · exact x_imul_ok (show decode cX9_areEyes 20 = .ok (.imul, 1) by decide +kernel)
  · exact x_iload_n_ok (show decode cX9_areEyes 21 = .ok (.iload_n 3, 1) by decide +kernel) rfl
  · exact x_iadd_ok (show decode cX9_areEyes 22 = .ok (.iadd, 1) by decide +kernel)
  · exact x_iald_ok (show decode cX9_areEyes 23 = .ok (.iaload, 1) by decide +kernel)
  · exact x_i2l_ok (show decode cX9_areEyes 24 = .ok (.i2l, 1) by decide +kernel)
  · exact x_lconst_ok (show decode cX9_areEyes 25 = .ok (.lconst 0, 1) by decide +kernel) rfl
  · exact x_ldc2_ok (show decode cX9_areEyes 26 = .ok (.ldc2_w 255, 3) by decide +kernel) hw_1239
  · exact x_callS_ok (sX9_in l) hw_918 hw_916 hw_917 hw_68 ⟨by decide, by decide, by decide +kernel⟩ (by decide) (by decide) (show decode cX9_areEyes 29 = .ok (.invokestatic 60, 3) by decide +kernel)
  · exact x_ifeq_ok (show decode cX9_areEyes 32 = .ok (.ifCond .eq 7, 3) by decide +kernel) (by decide)
  · exact x_iconst_ok (show decode cX9_areEyes 35 = .ok (.iconst 1, 1) by decide +kernel) (by decide)
  · exact x_goto_ok (show decode cX9_areEyes 36 = .ok (.goto 4, 3) by decide +kernel) (by decide)
  · exact x_iconst_ok (show decode cX9_areEyes 39 = .ok (.iconst 0, 1) by decide +kernel) (by decide)
  · exact x_istore_n_ok (show decode cX9_areEyes 40 = .ok (.istore_n 2, 1) by decide +kernel) rfl (by decide)
  · exact x_iinc_ok (show decode cX9_areEyes 41 = .ok (.iinc 3 1, 3) by decide +kernel) (by decide) (by decide)
  · exact x_goto_ok (show decode cX9_areEyes 44 = .ok (.goto (-40), 3) by decide +kernel) (by decide)
  · exact x_iload_n_ok (show decode cX9_areEyes 47 = .ok (.iload_n 2, 1) by decide +kernel) rfl
  · exact x_iret_ok (show decode cX9_areEyes 48 = .ok (.ireturn, 1) by decide +kernel)
noncomputable def FX9_areEyes : List Value → xS → Option xR := xden tX9_areEyes 4 (some .boolean) 0
theorem sX9_areEyes (l : Launch) : xSound l yX9_areEyes cX9_areEyes 4 (some .boolean) 2 0 FX9_areEyes := x_den (by decide) (tX9_areEyes_ok l)
noncomputable def tX9_judged : List (Nat × xO) := [(0, x_iload 1 1), (1, x_call 0 1 FX9_isRow), (4, x_ifeq 21), (7, x_iload 2 1), (8, x_call 0 1 FX9_isShade), (11, x_ifeq 21), (14, x_iload 3 1), (15, x_call 0 1 FX9_isShade), (18, x_ifne 23), (21, x_push (.int (-1)) 1), (22, x_iret), (23, x_aload 0 1), (24, x_getR 7 1), (27, x_iload 1 1), (28, x_iald), (29, x_ifge 38), (32, x_aload 0 1), (33, x_push (.int (nI 1)) 1), (34, x_callV 7 0 2 FX9_find), (37, x_iret), (38, x_aload 0 1), (39, x_getR 7 1), (42, x_iload 1 1), (43, x_iald), (44, x_push (.int (nI 3)) 1), (45, x_cmpeq 54), (48, x_aload 0 1), (49, x_push (.int (nI 5)) 1), (50, x_callV 7 0 2 FX9_find), (53, x_iret), (54, x_aload 0 1), (55, x_iload 1 1), (56, x_callV 7 0 2 FX9_areEyes), (59, x_ifne 68), (62, x_aload 0 1), (63, x_push (.int (nI 3)) 1), (64, x_callV 7 0 2 FX9_find), (67, x_iret), (68, x_push (.int (nI 0)) 1), (69, x_istore 4 2), (71, x_push (.int (nI 0)) 1), (72, x_istore 5 2), (74, x_iload 5 2), (76, x_push (.int (nI 3)) 1), (77, x_cmpge 120), (80, x_iload 4 2), (82, x_push (.int (nI 0)) 1), (83, x_iload 2 1), (84, x_iload 3 1), (85, x_call 0 3 FX9_far), (88, x_aload 0 1), (89, x_getR 7 2), (92, x_push (.int (nI 40)) 2), (94, x_iload 1 1), (95, x_ii (fun x y => x * y)), (96, x_iload 5 2), (98, x_ii (fun x y => x + y)), (99, x_iald), (100, x_cmpgt 110), (103, x_push (.int (nI 1)) 1), (104, x_iload 5 2), (106, x_ii (fun x y => x <<< (y &&& 31))), (107, x_goto 111), (110, x_push (.int (nI 0)) 1), (111, x_ii (fun x y => x ||| y)), (112, x_istore 4 2), (114, x_iinc 5 (nI 1)), (117, x_goto 74), (120, x_iload 4 2), (122, x_call 0 1 FX9_bits), (125, x_istore 5 2), (127, x_aload 0 1), (128, x_iload 5 2), (130, x_push (.int (nI 1)) 1), (131, x_cmpne 142), (134, x_iload 4 2), (136, x_call 0 1 FX9_firstOf), (139, x_goto 163), (142, x_iload 5 2), (144, x_push (.int (nI 2)) 1), (145, x_cmpne 161), (148, x_push (.int (nI 7)) 2), (150, x_iload 4 2), (152, x_push (.int (-1)) 1), (153, x_ii (fun x y => x ^^^ y)), (154, x_ii (fun x y => x &&& y)), (155, x_call 0 1 FX9_firstOf), (158, x_goto 163), (161, x_push (.int (-9)) 2), (163, x_putI 7 5), (166, x_iload 5 2), (168, x_push (.int (nI 1)) 1), (169, x_cmple 176), (172, x_push (.int (nI 1)) 1), (173, x_goto 177), (176, x_push (.int (nI 0)) 1), (177, x_iret)]
set_option maxRecDepth 100000 in
theorem tX9_judged_ok (l : Launch) : ∀ q ∈ tX9_judged, xOK l cX9_judged RX9 6 3 0 (yX9_judged.name = "<init>") q.1 q.2 := by
  unfold tX9_judged
  refine List.forall_mem_cons.mpr ⟨?_, List.forall_mem_cons.mpr ⟨?_, List.forall_mem_cons.mpr ⟨?_, List.forall_mem_cons.mpr ⟨?_, List.forall_mem_cons.mpr ⟨?_, List.forall_mem_cons.mpr ⟨?_, List.forall_mem_cons.mpr ⟨?_, List.forall_mem_cons.mpr ⟨?_, List.forall_mem_cons.mpr ⟨?_, List.forall_mem_cons.mpr ⟨?_, List.forall_mem_cons.mpr ⟨?_, List.forall_mem_cons.mpr ⟨?_, List.forall_mem_cons.mpr ⟨?_, List.forall_mem_cons.mpr ⟨?_, List.forall_mem_cons.mpr ⟨?_, List.forall_mem_cons.mpr ⟨?_, List.forall_mem_cons.mpr ⟨?_, List.forall_mem_cons.mpr ⟨?_, List.forall_mem_cons.mpr ⟨?_, List.forall_mem_cons.mpr ⟨?_, List.forall_mem_cons.mpr ⟨?_, List.forall_mem_cons.mpr ⟨?_, List.forall_mem_cons.mpr ⟨?_, List.forall_mem_cons.mpr ⟨?_, List.forall_mem_cons.mpr ⟨?_, List.forall_mem_cons.mpr ⟨?_, List.forall_mem_cons.mpr ⟨?_, List.forall_mem_cons.mpr ⟨?_, List.forall_mem_cons.mpr ⟨?_, List.forall_mem_cons.mpr ⟨?_, List.forall_mem_cons.mpr ⟨?_, List.forall_mem_cons.mpr ⟨?_, List.forall_mem_cons.mpr ⟨?_, List.forall_mem_cons.mpr ⟨?_, List.forall_mem_cons.mpr ⟨?_, List.forall_mem_cons.mpr ⟨?_, List.forall_mem_cons.mpr ⟨?_, List.forall_mem_cons.mpr ⟨?_, List.forall_mem_cons.mpr ⟨?_, List.forall_mem_cons.mpr ⟨?_, List.forall_mem_cons.mpr ⟨?_, List.forall_mem_cons.mpr ⟨?_, List.forall_mem_cons.mpr ⟨?_, List.forall_mem_cons.mpr ⟨?_, List.forall_mem_cons.mpr ⟨?_, List.forall_mem_cons.mpr ⟨?_, List.forall_mem_cons.mpr ⟨?_, List.forall_mem_cons.mpr ⟨?_, List.forall_mem_cons.mpr ⟨?_, List.forall_mem_cons.mpr ⟨?_, List.forall_mem_cons.mpr ⟨?_, List.forall_mem_cons.mpr ⟨?_, List.forall_mem_cons.mpr ⟨?_, List.forall_mem_cons.mpr ⟨?_, List.forall_mem_cons.mpr ⟨?_, List.forall_mem_cons.mpr ⟨?_, List.forall_mem_cons.mpr ⟨?_, List.forall_mem_cons.mpr ⟨?_, List.forall_mem_cons.mpr ⟨?_, List.forall_mem_cons.mpr ⟨?_, List.forall_mem_cons.mpr ⟨?_, List.forall_mem_cons.mpr ⟨?_, List.forall_mem_cons.mpr ⟨?_, List.forall_mem_cons.mpr ⟨?_, List.forall_mem_cons.mpr ⟨?_, List.forall_mem_cons.mpr ⟨?_, List.forall_mem_cons.mpr ⟨?_, List.forall_mem_cons.mpr ⟨?_, List.forall_mem_cons.mpr ⟨?_, List.forall_mem_cons.mpr ⟨?_, List.forall_mem_cons.mpr ⟨?_, List.forall_mem_cons.mpr ⟨?_, List.forall_mem_cons.mpr ⟨?_, List.forall_mem_cons.mpr ⟨?_, List.forall_mem_cons.mpr ⟨?_, List.forall_mem_cons.mpr ⟨?_, List.forall_mem_cons.mpr ⟨?_, List.forall_mem_cons.mpr ⟨?_, List.forall_mem_cons.mpr ⟨?_, List.forall_mem_cons.mpr ⟨?_, List.forall_mem_cons.mpr ⟨?_, List.forall_mem_cons.mpr ⟨?_, List.forall_mem_cons.mpr ⟨?_, List.forall_mem_cons.mpr ⟨?_, List.forall_mem_cons.mpr ⟨?_, List.forall_mem_cons.mpr ⟨?_, List.forall_mem_cons.mpr ⟨?_, List.forall_mem_cons.mpr ⟨?_, List.forall_mem_cons.mpr ⟨?_, List.forall_mem_cons.mpr ⟨?_, List.forall_mem_cons.mpr ⟨?_, List.forall_mem_cons.mpr ⟨?_, List.forall_mem_cons.mpr ⟨?_, List.forall_mem_cons.mpr ⟨?_, List.forall_mem_cons.mpr ⟨?_, List.forall_mem_cons.mpr ⟨?_, List.forall_mem_cons.mpr ⟨?_, fun _ h => absurd h List.not_mem_nil⟩⟩⟩⟩⟩⟩⟩⟩⟩⟩⟩⟩⟩⟩⟩⟩⟩⟩⟩⟩⟩⟩⟩⟩⟩⟩⟩⟩⟩⟩⟩⟩⟩⟩⟩⟩⟩⟩⟩⟩⟩⟩⟩⟩⟩⟩⟩⟩⟩⟩⟩⟩⟩⟩⟩⟩⟩⟩⟩⟩⟩⟩⟩⟩⟩⟩⟩⟩⟩⟩⟩⟩⟩⟩⟩⟩⟩⟩⟩⟩⟩⟩⟩⟩⟩⟩⟩⟩⟩⟩⟩⟩⟩⟩⟩⟩⟩
  · exact x_iload_n_ok (show decode cX9_judged 0 = .ok (.iload_n 1, 1) by decide +kernel) rfl
  · exact x_callS_ok (sX9_isRow l) hw_914 hw_912 hw_913 hw_68 ⟨by decide, by decide, by decide +kernel⟩ (by decide) (by decide) (show decode cX9_judged 1 = .ok (.invokestatic 66, 3) by decide +kernel)
  · exact x_ifeq_ok (show decode cX9_judged 4 = .ok (.ifCond .eq 17, 3) by decide +kernel) (by decide)
  · exact x_iload_n_ok (show decode cX9_judged 7 = .ok (.iload_n 2, 1) by decide +kernel) rfl
  · exact x_callS_ok (sX9_isShade l) hw_1095 hw_1093 hw_1094 hw_68 ⟨by decide, by decide, by decide +kernel⟩ (by decide) (by decide) (show decode cX9_judged 8 = .ok (.invokestatic 198, 3) by decide +kernel)
  · exact x_ifeq_ok (show decode cX9_judged 11 = .ok (.ifCond .eq 10, 3) by decide +kernel) (by decide)
  · exact x_iload_n_ok (show decode cX9_judged 14 = .ok (.iload_n 3, 1) by decide +kernel) rfl
  · exact x_callS_ok (sX9_isShade l) hw_1095 hw_1093 hw_1094 hw_68 ⟨by decide, by decide, by decide +kernel⟩ (by decide) (by decide) (show decode cX9_judged 15 = .ok (.invokestatic 198, 3) by decide +kernel)
  · exact x_ifne_ok (show decode cX9_judged 18 = .ok (.ifCond .ne 5, 3) by decide +kernel) (by decide)
  · exact x_iconst_ok (show decode cX9_judged 21 = .ok (.iconst (-1), 1) by decide +kernel) (by decide)
  · exact x_iret_ok (show decode cX9_judged 22 = .ok (.ireturn, 1) by decide +kernel)
  · exact x_aload_n_ok (show decode cX9_judged 23 = .ok (.aload_n 0, 1) by decide +kernel) rfl
  · exact x_getR_ok (ci := 7) (k := 1) rfl (by decide) (by decide) hw_845 (show decode cX9_judged 24 = .ok (.getfield 13, 3) by decide +kernel)
  · exact x_iload_n_ok (show decode cX9_judged 27 = .ok (.iload_n 1, 1) by decide +kernel) rfl
  · exact x_iald_ok (show decode cX9_judged 28 = .ok (.iaload, 1) by decide +kernel)
  · exact x_ifge_ok (show decode cX9_judged 29 = .ok (.ifCond .ge 9, 3) by decide +kernel) (by decide)
  · exact x_aload_n_ok (show decode cX9_judged 32 = .ok (.aload_n 0, 1) by decide +kernel) rfl
  · exact x_iconst_ok (show decode cX9_judged 33 = .ok (.iconst 1, 1) by decide +kernel) (by decide)
  · exact x_callV_ok (ci := 7) rfl (by decide) (sX9_find l) hw_922 hw_919 hw_921 hw_18 hw_68 ⟨by decide, by decide, by decide +kernel⟩ rfl (by decide) (by decide) (show decode cX9_judged 34 = .ok (.invokevirtual 70, 3) by decide +kernel)
  · exact x_iret_ok (show decode cX9_judged 37 = .ok (.ireturn, 1) by decide +kernel)
  · exact x_aload_n_ok (show decode cX9_judged 38 = .ok (.aload_n 0, 1) by decide +kernel) rfl
  · exact x_getR_ok (ci := 7) (k := 1) rfl (by decide) (by decide) hw_845 (show decode cX9_judged 39 = .ok (.getfield 13, 3) by decide +kernel)
  · exact x_iload_n_ok (show decode cX9_judged 42 = .ok (.iload_n 1, 1) by decide +kernel) rfl
  · exact x_iald_ok (show decode cX9_judged 43 = .ok (.iaload, 1) by decide +kernel)
  · exact x_iconst_ok (show decode cX9_judged 44 = .ok (.iconst 3, 1) by decide +kernel) (by decide)
  · exact x_cmpeq_ok (show decode cX9_judged 45 = .ok (.if_icmp .eq 9, 3) by decide +kernel) (by decide)
  · exact x_aload_n_ok (show decode cX9_judged 48 = .ok (.aload_n 0, 1) by decide +kernel) rfl
  · exact x_iconst_ok (show decode cX9_judged 49 = .ok (.iconst 5, 1) by decide +kernel) (by decide)
  · exact x_callV_ok (ci := 7) rfl (by decide) (sX9_find l) hw_922 hw_919 hw_921 hw_18 hw_68 ⟨by decide, by decide, by decide +kernel⟩ rfl (by decide) (by decide) (show decode cX9_judged 50 = .ok (.invokevirtual 70, 3) by decide +kernel)
  · exact x_iret_ok (show decode cX9_judged 53 = .ok (.ireturn, 1) by decide +kernel)
  · exact x_aload_n_ok (show decode cX9_judged 54 = .ok (.aload_n 0, 1) by decide +kernel) rfl
  · exact x_iload_n_ok (show decode cX9_judged 55 = .ok (.iload_n 1, 1) by decide +kernel) rfl
  · exact x_callV_ok (ci := 7) rfl (by decide) (sX9_areEyes l) hw_1238 hw_1235 hw_1237 hw_54 hw_68 ⟨by decide, by decide, by decide +kernel⟩ rfl (by decide) (by decide) (show decode cX9_judged 56 = .ok (.invokevirtual 257, 3) by decide +kernel)
  · exact x_ifne_ok (show decode cX9_judged 59 = .ok (.ifCond .ne 9, 3) by decide +kernel) (by decide)
  · exact x_aload_n_ok (show decode cX9_judged 62 = .ok (.aload_n 0, 1) by decide +kernel) rfl
  · exact x_iconst_ok (show decode cX9_judged 63 = .ok (.iconst 3, 1) by decide +kernel) (by decide)
  · exact x_callV_ok (ci := 7) rfl (by decide) (sX9_find l) hw_922 hw_919 hw_921 hw_18 hw_68 ⟨by decide, by decide, by decide +kernel⟩ rfl (by decide) (by decide) (show decode cX9_judged 64 = .ok (.invokevirtual 70, 3) by decide +kernel)
  · exact x_iret_ok (show decode cX9_judged 67 = .ok (.ireturn, 1) by decide +kernel)
  · exact x_iconst_ok (show decode cX9_judged 68 = .ok (.iconst 0, 1) by decide +kernel) (by decide)
  · exact x_istore_ok (show decode cX9_judged 69 = .ok (.istore 4, 2) by decide +kernel) (by decide)
  · exact x_iconst_ok (show decode cX9_judged 71 = .ok (.iconst 0, 1) by decide +kernel) (by decide)
  · exact x_istore_ok (show decode cX9_judged 72 = .ok (.istore 5, 2) by decide +kernel) (by decide)
  · exact x_iload_ok (show decode cX9_judged 74 = .ok (.iload 5, 2) by decide +kernel)
  · exact x_iconst_ok (show decode cX9_judged 76 = .ok (.iconst 3, 1) by decide +kernel) (by decide)
  · exact x_cmpge_ok (show decode cX9_judged 77 = .ok (.if_icmp .ge 43, 3) by decide +kernel) (by decide)
  · exact x_iload_ok (show decode cX9_judged 80 = .ok (.iload 4, 2) by decide +kernel)
  · exact x_iconst_ok (show decode cX9_judged 82 = .ok (.iconst 0, 1) by decide +kernel) (by decide)
  · exact x_iload_n_ok (show decode cX9_judged 83 = .ok (.iload_n 2, 1) by decide +kernel) rfl
  · exact x_iload_n_ok (show decode cX9_judged 84 = .ok (.iload_n 3, 1) by decide +kernel) rfl
  · exact x_callS_ok (sX9_far l) hw_1032 hw_1030 hw_1031 hw_68 ⟨by decide, by decide, by decide +kernel⟩ (by decide) (by decide) (show decode cX9_judged 85 = .ok (.invokestatic 140, 3) by decide +kernel)
  · exact x_aload_n_ok (show decode cX9_judged 88 = .ok (.aload_n 0, 1) by decide +kernel) rfl
  · exact x_getR_ok (ci := 7) (k := 2) rfl (by decide) (by decide) hw_846 (show decode cX9_judged 89 = .ok (.getfield 16, 3) by decide +kernel)
  · exact x_bipush_ok (show decode cX9_judged 92 = .ok (.bipush 40, 2) by decide +kernel) (by decide)
  · exact x_iload_n_ok (show decode cX9_judged 94 = .ok (.iload_n 1, 1) by decide +kernel) rfl
  · exact x_imul_ok (show decode cX9_judged 95 = .ok (.imul, 1) by decide +kernel)
  · exact x_iload_ok (show decode cX9_judged 96 = .ok (.iload 5, 2) by decide +kernel)
  · exact x_iadd_ok (show decode cX9_judged 98 = .ok (.iadd, 1) by decide +kernel)
  · exact x_iald_ok (show decode cX9_judged 99 = .ok (.iaload, 1) by decide +kernel)
  · exact x_cmpgt_ok (show decode cX9_judged 100 = .ok (.if_icmp .gt 10, 3) by decide +kernel) (by decide)
  · exact x_iconst_ok (show decode cX9_judged 103 = .ok (.iconst 1, 1) by decide +kernel) (by decide)
  · exact x_iload_ok (show decode cX9_judged 104 = .ok (.iload 5, 2) by decide +kernel)
  · exact x_ishl_ok (show decode cX9_judged 106 = .ok (.ishl, 1) by decide +kernel)
  · exact x_goto_ok (show decode cX9_judged 107 = .ok (.goto 4, 3) by decide +kernel) (by decide)
  · exact x_iconst_ok (show decode cX9_judged 110 = .ok (.iconst 0, 1) by decide +kernel) (by decide)
  · exact x_ior_ok (show decode cX9_judged 111 = .ok (.ior, 1) by decide +kernel)
  · exact x_istore_ok (show decode cX9_judged 112 = .ok (.istore 4, 2) by decide +kernel) (by decide)
  · exact x_iinc_ok (show decode cX9_judged 114 = .ok (.iinc 5 1, 3) by decide +kernel) (by decide) (by decide)
  · exact x_goto_ok (show decode cX9_judged 117 = .ok (.goto (-43), 3) by decide +kernel) (by decide)
  · exact x_iload_ok (show decode cX9_judged 120 = .ok (.iload 4, 2) by decide +kernel)
  · exact x_callS_ok (sX9_bits l) hw_1151 hw_1149 hw_1150 hw_68 ⟨by decide, by decide, by decide +kernel⟩ (by decide) (by decide) (show decode cX9_judged 122 = .ok (.invokestatic 218, 3) by decide +kernel)
  · exact x_istore_ok (show decode cX9_judged 125 = .ok (.istore 5, 2) by decide +kernel) (by decide)
  · exact x_aload_n_ok (show decode cX9_judged 127 = .ok (.aload_n 0, 1) by decide +kernel) rfl
  · exact x_iload_ok (show decode cX9_judged 128 = .ok (.iload 5, 2) by decide +kernel)
  · exact x_iconst_ok (show decode cX9_judged 130 = .ok (.iconst 1, 1) by decide +kernel) (by decide)
  · exact x_cmpne_ok (show decode cX9_judged 131 = .ok (.if_icmp .ne 11, 3) by decide +kernel) (by decide)
  · exact x_iload_ok (show decode cX9_judged 134 = .ok (.iload 4, 2) by decide +kernel)
  · exact x_callS_ok (sX9_firstOf l) hw_1065 hw_1063 hw_1064 hw_68 ⟨by decide, by decide, by decide +kernel⟩ (by decide) (by decide) (show decode cX9_judged 136 = .ok (.invokestatic 161, 3) by decide +kernel)
  · exact x_goto_ok (show decode cX9_judged 139 = .ok (.goto 24, 3) by decide +kernel) (by decide)
  · exact x_iload_ok (show decode cX9_judged 142 = .ok (.iload 5, 2) by decide +kernel)
  · exact x_iconst_ok (show decode cX9_judged 144 = .ok (.iconst 2, 1) by decide +kernel) (by decide)
  · exact x_cmpne_ok (show decode cX9_judged 145 = .ok (.if_icmp .ne 16, 3) by decide +kernel) (by decide)
  · exact x_bipush_ok (show decode cX9_judged 148 = .ok (.bipush 7, 2) by decide +kernel) (by decide)
  · exact x_iload_ok (show decode cX9_judged 150 = .ok (.iload 4, 2) by decide +kernel)
  · exact x_iconst_ok (show decode cX9_judged 152 = .ok (.iconst (-1), 1) by decide +kernel) (by decide)
  · exact x_ixor_ok (show decode cX9_judged 153 = .ok (.ixor, 1) by decide +kernel)
  · exact x_iand_ok (show decode cX9_judged 154 = .ok (.iand, 1) by decide +kernel)
  · exact x_callS_ok (sX9_firstOf l) hw_1065 hw_1063 hw_1064 hw_68 ⟨by decide, by decide, by decide +kernel⟩ (by decide) (by decide) (show decode cX9_judged 155 = .ok (.invokestatic 161, 3) by decide +kernel)
  · exact x_goto_ok (show decode cX9_judged 158 = .ok (.goto 5, 3) by decide +kernel) (by decide)
  · exact x_bipush_ok (show decode cX9_judged 161 = .ok (.bipush (-9), 2) by decide +kernel) (by decide)
  · exact x_putI_ok (ci := 7) (k := 5) rfl (by decide) (by decide) rfl hw_849 rfl (show decode cX9_judged 163 = .ok (.putfield 55, 3) by decide +kernel)
  · exact x_iload_ok (show decode cX9_judged 166 = .ok (.iload 5, 2) by decide +kernel)
  · exact x_iconst_ok (show decode cX9_judged 168 = .ok (.iconst 1, 1) by decide +kernel) (by decide)
  · exact x_cmple_ok (show decode cX9_judged 169 = .ok (.if_icmp .le 7, 3) by decide +kernel) (by decide)
  · exact x_iconst_ok (show decode cX9_judged 172 = .ok (.iconst 1, 1) by decide +kernel) (by decide)
  · exact x_goto_ok (show decode cX9_judged 173 = .ok (.goto 4, 3) by decide +kernel) (by decide)
  · exact x_iconst_ok (show decode cX9_judged 176 = .ok (.iconst 0, 1) by decide +kernel) (by decide)
  · exact x_iret_ok (show decode cX9_judged 177 = .ok (.ireturn, 1) by decide +kernel)
noncomputable def FX9_judged : List Value → xS → Option xR := xden tX9_judged 6 (some .int) 0
theorem sX9_judged (l : Launch) : xSound l yX9_judged cX9_judged 6 (some .int) 3 0 FX9_judged := x_den (by decide) (tX9_judged_ok l)
noncomputable def tX4_ownerOf : List (Nat × xO) := [(0, x_aload 0 1), (1, x_iload 1 1), (2, x_iload 2 1), (3, x_callV 3 0 3 FX4_callerOf), (6, x_istore 3 1), (7, x_iload 3 1), (8, x_push (.int (-9)) 2), (10, x_cmpne 18), (13, x_push (.int (-9)) 2), (15, x_goto 27), (18, x_aload 0 1), (19, x_getR 3 0), (22, x_iload 3 1), (23, x_aald), (24, x_getI 1 3), (27, x_iret)]
set_option maxRecDepth 100000 in
theorem tX4_ownerOf_ok (l : Launch) : ∀ q ∈ tX4_ownerOf, xOK l cX4_ownerOf RX4 4 6 0 (yX4_ownerOf.name = "<init>") q.1 q.2 := by
  unfold tX4_ownerOf
  refine List.forall_mem_cons.mpr ⟨?_, List.forall_mem_cons.mpr ⟨?_, List.forall_mem_cons.mpr ⟨?_, List.forall_mem_cons.mpr ⟨?_, List.forall_mem_cons.mpr ⟨?_, List.forall_mem_cons.mpr ⟨?_, List.forall_mem_cons.mpr ⟨?_, List.forall_mem_cons.mpr ⟨?_, List.forall_mem_cons.mpr ⟨?_, List.forall_mem_cons.mpr ⟨?_, List.forall_mem_cons.mpr ⟨?_, List.forall_mem_cons.mpr ⟨?_, List.forall_mem_cons.mpr ⟨?_, List.forall_mem_cons.mpr ⟨?_, List.forall_mem_cons.mpr ⟨?_, List.forall_mem_cons.mpr ⟨?_, fun _ h => absurd h List.not_mem_nil⟩⟩⟩⟩⟩⟩⟩⟩⟩⟩⟩⟩⟩⟩⟩⟩
  · exact x_aload_n_ok (show decode cX4_ownerOf 0 = .ok (.aload_n 0, 1) by decide +kernel) rfl
  · exact x_iload_n_ok (show decode cX4_ownerOf 1 = .ok (.iload_n 1, 1) by decide +kernel) rfl
  · exact x_iload_n_ok (show decode cX4_ownerOf 2 = .ok (.iload_n 2, 1) by decide +kernel) rfl
  · exact x_callV_ok (ci := 3) rfl (by decide) (sX4_callerOf l) hw_501 hw_498 hw_499 hw_500 hw_64 ⟨by decide, by decide, by decide +kernel⟩ rfl (by decide) (by decide) (show decode cX4_ownerOf 3 = .ok (.invokevirtual 78, 3) by decide +kernel)
  · exact x_istore_n_ok (show decode cX4_ownerOf 6 = .ok (.istore_n 3, 1) by decide +kernel) rfl (by decide)
  · exact x_iload_n_ok (show decode cX4_ownerOf 7 = .ok (.iload_n 3, 1) by decide +kernel) rfl
  · exact x_bipush_ok (show decode cX4_ownerOf 8 = .ok (.bipush (-9), 2) by decide +kernel) (by decide)
  · exact x_cmpne_ok (show decode cX4_ownerOf 10 = .ok (.if_icmp .ne 8, 3) by decide +kernel) (by decide)
  · exact x_bipush_ok (show decode cX4_ownerOf 13 = .ok (.bipush (-9), 2) by decide +kernel) (by decide)
  · exact x_goto_ok (show decode cX4_ownerOf 15 = .ok (.goto 12, 3) by decide +kernel) (by decide)
  · exact x_aload_n_ok (show decode cX4_ownerOf 18 = .ok (.aload_n 0, 1) by decide +kernel) rfl
  · exact x_getR_ok (ci := 3) (k := 0) rfl (by decide) (by decide) hw_173 (show decode cX4_ownerOf 19 = .ok (.getfield 13, 3) by decide +kernel)
  · exact x_iload_n_ok (show decode cX4_ownerOf 22 = .ok (.iload_n 3, 1) by decide +kernel) rfl
  · exact x_aald_ok (show decode cX4_ownerOf 23 = .ok (.aaload, 1) by decide +kernel)
  · exact x_getI_ok (ci := 1) (k := 3) rfl (by decide) (by decide) hw_149 (show decode cX4_ownerOf 24 = .ok (.getfield 49, 3) by decide +kernel)
  · exact x_iret_ok (show decode cX4_ownerOf 27 = .ok (.ireturn, 1) by decide +kernel)
noncomputable def FX4_ownerOf : List Value → xS → Option xR := xden tX4_ownerOf 4 (some .int) 0
theorem sX4_ownerOf (l : Launch) : xSound l yX4_ownerOf cX4_ownerOf 4 (some .int) 6 0 FX4_ownerOf := x_den (by decide) (tX4_ownerOf_ok l)
noncomputable def tX8_lost : List (Nat × xO) := [(0, x_iload 1 1), (1, x_aload 0 1), (2, x_getR 6 2), (5, x_getI 3 1), (8, x_call 0 2 FX8_among), (11, x_ifne 16), (14, x_push (.int (-1)) 1), (15, x_iret), (16, x_push (.int (nI 0)) 1), (17, x_istore 2 1), (18, x_iload 2 1), (19, x_push (.int (nI 6)) 2), (21, x_cmpgt 64), (24, x_aload 0 1), (25, x_getR 6 2), (28, x_aload 0 1), (29, x_getR 6 2), (32, x_iload 1 1), (33, x_iload 2 1), (34, x_callV 3 0 3 FX4_shadeOf), (37, x_iload 2 1), (38, x_callV 3 0 3 FX4_ownerOf), (41, x_aload 0 1), (42, x_getR 6 2), (45, x_getR 3 0), (48, x_iload 1 1), (49, x_aald), (50, x_getI 1 3), (53, x_cmpeq 58), (56, x_iload 2 1), (57, x_iret), (58, x_iinc 2 (nI 1)), (61, x_goto 18), (64, x_push (.int (-9)) 2), (66, x_iret)]
set_option maxRecDepth 100000 in
theorem tX8_lost_ok (l : Launch) : ∀ q ∈ tX8_lost, xOK l cX8_lost RX8 3 7 0 (yX8_lost.name = "<init>") q.1 q.2 := by
  unfold tX8_lost
  refine List.forall_mem_cons.mpr ⟨?_, List.forall_mem_cons.mpr ⟨?_, List.forall_mem_cons.mpr ⟨?_, List.forall_mem_cons.mpr ⟨?_, List.forall_mem_cons.mpr ⟨?_, List.forall_mem_cons.mpr ⟨?_, List.forall_mem_cons.mpr ⟨?_, List.forall_mem_cons.mpr ⟨?_, List.forall_mem_cons.mpr ⟨?_, List.forall_mem_cons.mpr ⟨?_, List.forall_mem_cons.mpr ⟨?_, List.forall_mem_cons.mpr ⟨?_, List.forall_mem_cons.mpr ⟨?_, List.forall_mem_cons.mpr ⟨?_, List.forall_mem_cons.mpr ⟨?_, List.forall_mem_cons.mpr ⟨?_, List.forall_mem_cons.mpr ⟨?_, List.forall_mem_cons.mpr ⟨?_, List.forall_mem_cons.mpr ⟨?_, List.forall_mem_cons.mpr ⟨?_, List.forall_mem_cons.mpr ⟨?_, List.forall_mem_cons.mpr ⟨?_, List.forall_mem_cons.mpr ⟨?_, List.forall_mem_cons.mpr ⟨?_, List.forall_mem_cons.mpr ⟨?_, List.forall_mem_cons.mpr ⟨?_, List.forall_mem_cons.mpr ⟨?_, List.forall_mem_cons.mpr ⟨?_, List.forall_mem_cons.mpr ⟨?_, List.forall_mem_cons.mpr ⟨?_, List.forall_mem_cons.mpr ⟨?_, List.forall_mem_cons.mpr ⟨?_, List.forall_mem_cons.mpr ⟨?_, List.forall_mem_cons.mpr ⟨?_, List.forall_mem_cons.mpr ⟨?_, fun _ h => absurd h List.not_mem_nil⟩⟩⟩⟩⟩⟩⟩⟩⟩⟩⟩⟩⟩⟩⟩⟩⟩⟩⟩⟩⟩⟩⟩⟩⟩⟩⟩⟩⟩⟩⟩⟩⟩⟩⟩
  · exact x_iload_n_ok (show decode cX8_lost 0 = .ok (.iload_n 1, 1) by decide +kernel) rfl
  · exact x_aload_n_ok (show decode cX8_lost 1 = .ok (.aload_n 0, 1) by decide +kernel) rfl
  · exact x_getR_ok (ci := 6) (k := 2) rfl (by decide) (by decide) hw_224 (show decode cX8_lost 2 = .ok (.getfield 26, 3) by decide +kernel)
  · exact x_getI_ok (ci := 3) (k := 1) rfl (by decide) (by decide) hw_177 (show decode cX8_lost 5 = .ok (.getfield 133, 3) by decide +kernel)
  · exact x_callS_ok (sX8_among l) hw_268 hw_266 hw_267 hw_61 ⟨by decide, by decide, by decide +kernel⟩ (by decide) (by decide) (show decode cX8_lost 8 = .ok (.invokestatic 65, 3) by decide +kernel)
  · exact x_ifne_ok (show decode cX8_lost 11 = .ok (.ifCond .ne 5, 3) by decide +kernel) (by decide)
  · exact x_iconst_ok (show decode cX8_lost 14 = .ok (.iconst (-1), 1) by decide +kernel) (by decide)
  · exact x_iret_ok (show decode cX8_lost 15 = .ok (.ireturn, 1) by decide +kernel)
  · exact x_iconst_ok (show decode cX8_lost 16 = .ok (.iconst 0, 1) by decide +kernel) (by decide)
  · exact x_istore_n_ok (show decode cX8_lost 17 = .ok (.istore_n 2, 1) by decide +kernel) rfl (by decide)
  · exact x_iload_n_ok (show decode cX8_lost 18 = .ok (.iload_n 2, 1) by decide +kernel) rfl
  · exact x_bipush_ok (show decode cX8_lost 19 = .ok (.bipush 6, 2) by decide +kernel) (by decide)
  · exact x_cmpgt_ok (show decode cX8_lost 21 = .ok (.if_icmp .gt 43, 3) by decide +kernel) (by decide)
  · exact x_aload_n_ok (show decode cX8_lost 24 = .ok (.aload_n 0, 1) by decide +kernel) rfl
  · exact x_getR_ok (ci := 6) (k := 2) rfl (by decide) (by decide) hw_224 (show decode cX8_lost 25 = .ok (.getfield 26, 3) by decide +kernel)
  · exact x_aload_n_ok (show decode cX8_lost 28 = .ok (.aload_n 0, 1) by decide +kernel) rfl
  · exact x_getR_ok (ci := 6) (k := 2) rfl (by decide) (by decide) hw_224 (show decode cX8_lost 29 = .ok (.getfield 26, 3) by decide +kernel)
  · exact x_iload_n_ok (show decode cX8_lost 32 = .ok (.iload_n 1, 1) by decide +kernel) rfl
  · exact x_iload_n_ok (show decode cX8_lost 33 = .ok (.iload_n 2, 1) by decide +kernel) rfl
  · exact x_callV_ok (ci := 3) rfl (by decide) (sX4_shadeOf l) hw_453 hw_450 hw_451 hw_452 hw_64 ⟨by decide, by decide, by decide +kernel⟩ rfl (by decide) (by decide) (show decode cX8_lost 34 = .ok (.invokevirtual 256, 3) by decide +kernel)
  · exact x_iload_n_ok (show decode cX8_lost 37 = .ok (.iload_n 2, 1) by decide +kernel) rfl
  · exact x_callV_ok (ci := 3) rfl (by decide) (sX4_ownerOf l) hw_735 hw_732 hw_733 hw_734 hw_64 ⟨by decide, by decide, by decide +kernel⟩ rfl (by decide) (by decide) (show decode cX8_lost 38 = .ok (.invokevirtual 259, 3) by decide +kernel)
  · exact x_aload_n_ok (show decode cX8_lost 41 = .ok (.aload_n 0, 1) by decide +kernel) rfl
  · exact x_getR_ok (ci := 6) (k := 2) rfl (by decide) (by decide) hw_224 (show decode cX8_lost 42 = .ok (.getfield 26, 3) by decide +kernel)
  · exact x_getR_ok (ci := 3) (k := 0) rfl (by decide) (by decide) hw_174 (show decode cX8_lost 45 = .ok (.getfield 139, 3) by decide +kernel)
  · exact x_iload_n_ok (show decode cX8_lost 48 = .ok (.iload_n 1, 1) by decide +kernel) rfl
  · exact x_aald_ok (show decode cX8_lost 49 = .ok (.aaload, 1) by decide +kernel)
  · exact x_getI_ok (ci := 1) (k := 3) rfl (by decide) (by decide) hw_151 (show decode cX8_lost 50 = .ok (.getfield 262, 3) by decide +kernel)
  · exact x_cmpeq_ok (show decode cX8_lost 53 = .ok (.if_icmp .eq 5, 3) by decide +kernel) (by decide)
  · exact x_iload_n_ok (show decode cX8_lost 56 = .ok (.iload_n 2, 1) by decide +kernel) rfl
  · exact x_iret_ok (show decode cX8_lost 57 = .ok (.ireturn, 1) by decide +kernel)
  · exact x_iinc_ok (show decode cX8_lost 58 = .ok (.iinc 2 1, 3) by decide +kernel) (by decide) (by decide)
  · exact x_goto_ok (show decode cX8_lost 61 = .ok (.goto (-43), 3) by decide +kernel) (by decide)
  · exact x_bipush_ok (show decode cX8_lost 64 = .ok (.bipush (-9), 2) by decide +kernel) (by decide)
  · exact x_iret_ok (show decode cX8_lost 66 = .ok (.ireturn, 1) by decide +kernel)
noncomputable def FX8_lost : List Value → xS → Option xR := xden tX8_lost 3 (some .int) 0
theorem sX8_lost (l : Launch) : xSound l yX8_lost cX8_lost 3 (some .int) 7 0 FX8_lost := x_den (by decide) (tX8_lost_ok l)
noncomputable def tX9_lost : List (Nat × xO) := [(0, x_aload 0 1), (1, x_iload 1 1), (2, x_callV 7 0 2 FX9_isName), (5, x_ifne 10), (8, x_push (.int (-1)) 1), (9, x_iret), (10, x_push (.int (-9)) 2), (12, x_istore 2 1), (13, x_aload 0 1), (14, x_push (.int (nI 0)) 1), (15, x_putI 7 15), (18, x_aload 0 1), (19, x_getI 7 15), (22, x_push (.int (nI 7)) 2), (24, x_cmpge 74), (27, x_iload 2 1), (28, x_push (.int (-9)) 2), (30, x_cmpne 74), (33, x_aload 0 1), (34, x_aload 0 1), (35, x_iload 1 1), (36, x_callV 7 0 2 FX9_shadeOf), (39, x_callV 7 0 2 FX9_ownerOf), (42, x_aload 0 1), (43, x_iload 1 1), (44, x_push (.int (nI 4)) 1), (45, x_callV 7 0 3 FX9_of), (48, x_cmpne 56), (51, x_push (.int (-9)) 2), (53, x_goto 60), (56, x_aload 0 1), (57, x_getI 7 15), (60, x_istore 2 1), (61, x_aload 0 1), (62, x_dup), (63, x_getI 7 15), (66, x_push (.int (nI 1)) 1), (67, x_ii (fun x y => x + y)), (68, x_putI 7 15), (71, x_goto 18), (74, x_aload 0 1), (75, x_push (.int (nI 0)) 1), (76, x_putI 7 15), (79, x_iload 2 1), (80, x_iret)]
set_option maxRecDepth 100000 in
theorem tX9_lost_ok (l : Launch) : ∀ q ∈ tX9_lost, xOK l cX9_lost RX9 3 8 0 (yX9_lost.name = "<init>") q.1 q.2 := by
  unfold tX9_lost
  refine List.forall_mem_cons.mpr ⟨?_, List.forall_mem_cons.mpr ⟨?_, List.forall_mem_cons.mpr ⟨?_, List.forall_mem_cons.mpr ⟨?_, List.forall_mem_cons.mpr ⟨?_, List.forall_mem_cons.mpr ⟨?_, List.forall_mem_cons.mpr ⟨?_, List.forall_mem_cons.mpr ⟨?_, List.forall_mem_cons.mpr ⟨?_, List.forall_mem_cons.mpr ⟨?_, List.forall_mem_cons.mpr ⟨?_, List.forall_mem_cons.mpr ⟨?_, List.forall_mem_cons.mpr ⟨?_, List.forall_mem_cons.mpr ⟨?_, List.forall_mem_cons.mpr ⟨?_, List.forall_mem_cons.mpr ⟨?_, List.forall_mem_cons.mpr ⟨?_, List.forall_mem_cons.mpr ⟨?_, List.forall_mem_cons.mpr ⟨?_, List.forall_mem_cons.mpr ⟨?_, List.forall_mem_cons.mpr ⟨?_, List.forall_mem_cons.mpr ⟨?_, List.forall_mem_cons.mpr ⟨?_, List.forall_mem_cons.mpr ⟨?_, List.forall_mem_cons.mpr ⟨?_, List.forall_mem_cons.mpr ⟨?_, List.forall_mem_cons.mpr ⟨?_, List.forall_mem_cons.mpr ⟨?_, List.forall_mem_cons.mpr ⟨?_, List.forall_mem_cons.mpr ⟨?_, List.forall_mem_cons.mpr ⟨?_, List.forall_mem_cons.mpr ⟨?_, List.forall_mem_cons.mpr ⟨?_, List.forall_mem_cons.mpr ⟨?_, List.forall_mem_cons.mpr ⟨?_, List.forall_mem_cons.mpr ⟨?_, List.forall_mem_cons.mpr ⟨?_, List.forall_mem_cons.mpr ⟨?_, List.forall_mem_cons.mpr ⟨?_, List.forall_mem_cons.mpr ⟨?_, List.forall_mem_cons.mpr ⟨?_, List.forall_mem_cons.mpr ⟨?_, List.forall_mem_cons.mpr ⟨?_, List.forall_mem_cons.mpr ⟨?_, List.forall_mem_cons.mpr ⟨?_, fun _ h => absurd h List.not_mem_nil⟩⟩⟩⟩⟩⟩⟩⟩⟩⟩⟩⟩⟩⟩⟩⟩⟩⟩⟩⟩⟩⟩⟩⟩⟩⟩⟩⟩⟩⟩⟩⟩⟩⟩⟩⟩⟩⟩⟩⟩⟩⟩⟩⟩⟩
  · exact x_aload_n_ok (show decode cX9_lost 0 = .ok (.aload_n 0, 1) by decide +kernel) rfl
  · exact x_iload_n_ok (show decode cX9_lost 1 = .ok (.iload_n 1, 1) by decide +kernel) rfl
  · exact x_callV_ok (ci := 7) rfl (by decide) (sX9_isName l) hw_1010 hw_1007 hw_1009 hw_28 hw_68 ⟨by decide, by decide, by decide +kernel⟩ rfl (by decide) (by decide) (show decode cX9_lost 2 = .ok (.invokevirtual 170, 3) by decide +kernel)
  · exact x_ifne_ok (show decode cX9_lost 5 = .ok (.ifCond .ne 5, 3) by decide +kernel) (by decide)
  · exact x_iconst_ok (show decode cX9_lost 8 = .ok (.iconst (-1), 1) by decide +kernel) (by decide)
  · exact x_iret_ok (show decode cX9_lost 9 = .ok (.ireturn, 1) by decide +kernel)
  · exact x_bipush_ok (show decode cX9_lost 10 = .ok (.bipush (-9), 2) by decide +kernel) (by decide)
  · exact x_istore_n_ok (show decode cX9_lost 12 = .ok (.istore_n 2, 1) by decide +kernel) rfl (by decide)
  · exact x_aload_n_ok (show decode cX9_lost 13 = .ok (.aload_n 0, 1) by decide +kernel) rfl
  · exact x_iconst_ok (show decode cX9_lost 14 = .ok (.iconst 0, 1) by decide +kernel) (by decide)
  · exact x_putI_ok (ci := 7) (k := 15) rfl (by decide) (by decide) rfl hw_859 rfl (show decode cX9_lost 15 = .ok (.putfield 131, 3) by decide +kernel)
  · exact x_aload_n_ok (show decode cX9_lost 18 = .ok (.aload_n 0, 1) by decide +kernel) rfl
  · exact x_getI_ok (ci := 7) (k := 15) rfl (by decide) (by decide) hw_859 (show decode cX9_lost 19 = .ok (.getfield 131, 3) by decide +kernel)
  · exact x_bipush_ok (show decode cX9_lost 22 = .ok (.bipush 7, 2) by decide +kernel) (by decide)
  · exact x_cmpge_ok (show decode cX9_lost 24 = .ok (.if_icmp .ge 50, 3) by decide +kernel) (by decide)
  · exact x_iload_n_ok (show decode cX9_lost 27 = .ok (.iload_n 2, 1) by decide +kernel) rfl
  · exact x_bipush_ok (show decode cX9_lost 28 = .ok (.bipush (-9), 2) by decide +kernel) (by decide)
  · exact x_cmpne_ok (show decode cX9_lost 30 = .ok (.if_icmp .ne 44, 3) by decide +kernel) (by decide)
  · exact x_aload_n_ok (show decode cX9_lost 33 = .ok (.aload_n 0, 1) by decide +kernel) rfl
  · exact x_aload_n_ok (show decode cX9_lost 34 = .ok (.aload_n 0, 1) by decide +kernel) rfl
  · exact x_iload_n_ok (show decode cX9_lost 35 = .ok (.iload_n 1, 1) by decide +kernel) rfl
  · exact x_callV_ok (ci := 7) rfl (by decide) (sX9_shadeOf l) hw_1023 hw_1020 hw_1022 hw_31 hw_68 ⟨by decide, by decide, by decide +kernel⟩ rfl (by decide) (by decide) (show decode cX9_lost 36 = .ok (.invokevirtual 144, 3) by decide +kernel)
  · exact x_callV_ok (ci := 7) rfl (by decide) (sX9_ownerOf l) hw_1179 hw_1176 hw_1178 hw_47 hw_68 ⟨by decide, by decide, by decide +kernel⟩ rfl (by decide) (by decide) (show decode cX9_lost 39 = .ok (.invokevirtual 230, 3) by decide +kernel)
  · exact x_aload_n_ok (show decode cX9_lost 42 = .ok (.aload_n 0, 1) by decide +kernel) rfl
  · exact x_iload_n_ok (show decode cX9_lost 43 = .ok (.iload_n 1, 1) by decide +kernel) rfl
  · exact x_iconst_ok (show decode cX9_lost 44 = .ok (.iconst 4, 1) by decide +kernel) (by decide)
  · exact x_callV_ok (ci := 7) rfl (by decide) (sX9_of l) hw_1019 hw_1016 hw_1018 hw_30 hw_68 ⟨by decide, by decide, by decide +kernel⟩ rfl (by decide) (by decide) (show decode cX9_lost 45 = .ok (.invokevirtual 128, 3) by decide +kernel)
  · exact x_cmpne_ok (show decode cX9_lost 48 = .ok (.if_icmp .ne 8, 3) by decide +kernel) (by decide)
  · exact x_bipush_ok (show decode cX9_lost 51 = .ok (.bipush (-9), 2) by decide +kernel) (by decide)
  · exact x_goto_ok (show decode cX9_lost 53 = .ok (.goto 7, 3) by decide +kernel) (by decide)
  · exact x_aload_n_ok (show decode cX9_lost 56 = .ok (.aload_n 0, 1) by decide +kernel) rfl
  · exact x_getI_ok (ci := 7) (k := 15) rfl (by decide) (by decide) hw_859 (show decode cX9_lost 57 = .ok (.getfield 131, 3) by decide +kernel)
  · exact x_istore_n_ok (show decode cX9_lost 60 = .ok (.istore_n 2, 1) by decide +kernel) rfl (by decide)
  · exact x_aload_n_ok (show decode cX9_lost 61 = .ok (.aload_n 0, 1) by decide +kernel) rfl
  · exact x_dup_ok (show decode cX9_lost 62 = .ok (.dup, 1) by decide +kernel)
  · exact x_getI_ok (ci := 7) (k := 15) rfl (by decide) (by decide) hw_859 (show decode cX9_lost 63 = .ok (.getfield 131, 3) by decide +kernel)
  · exact x_iconst_ok (show decode cX9_lost 66 = .ok (.iconst 1, 1) by decide +kernel) (by decide)
  · exact x_iadd_ok (show decode cX9_lost 67 = .ok (.iadd, 1) by decide +kernel)
  · exact x_putI_ok (ci := 7) (k := 15) rfl (by decide) (by decide) rfl hw_859 rfl (show decode cX9_lost 68 = .ok (.putfield 131, 3) by decide +kernel)
  · exact x_goto_ok (show decode cX9_lost 71 = .ok (.goto (-53), 3) by decide +kernel) (by decide)
  · exact x_aload_n_ok (show decode cX9_lost 74 = .ok (.aload_n 0, 1) by decide +kernel) rfl
  · exact x_iconst_ok (show decode cX9_lost 75 = .ok (.iconst 0, 1) by decide +kernel) (by decide)
  · exact x_putI_ok (ci := 7) (k := 15) rfl (by decide) (by decide) rfl hw_859 rfl (show decode cX9_lost 76 = .ok (.putfield 131, 3) by decide +kernel)
  · exact x_iload_n_ok (show decode cX9_lost 79 = .ok (.iload_n 2, 1) by decide +kernel) rfl
  · exact x_iret_ok (show decode cX9_lost 80 = .ok (.ireturn, 1) by decide +kernel)
noncomputable def FX9_lost : List Value → xS → Option xR := xden tX9_lost 3 (some .int) 0
theorem sX9_lost (l : Launch) : xSound l yX9_lost cX9_lost 3 (some .int) 8 0 FX9_lost := x_den (by decide) (tX9_lost_ok l)
