noncomputable def tX9_mark : List (Nat × xO) := [(0, x_aload 0 1), (1, x_iload 1 1), (2, x_callV 7 0 2 FX9_isName), (5, x_ifeq 20), (8, x_iload 2 1), (9, x_i2l), (10, x_push (.long 1) 1), (11, x_push (.long 5) 3), (14, x_call 0 3 FX9_in), (17, x_ifne 22), (20, x_push (.int (-1)) 1), (21, x_iret), (22, x_aload 0 1), (23, x_iload 1 1), (24, x_iload 2 1), (25, x_callV 7 0 3 FX9_isOf), (28, x_ifne 37), (31, x_aload 0 1), (32, x_push (.int (nI 3)) 1), (33, x_callV 7 0 2 FX9_find), (36, x_iret), (37, x_iload 2 1), (38, x_switch [((nI 1), 68), ((nI 2), 74), ((nI 3), 111), ((nI 4), 117)] 123), (68, x_aload 0 1), (69, x_iload 1 1), (70, x_callV 7 0 2 FX9_calledBy), (73, x_iret), (74, x_push (.int (nI 0)) 1), (75, x_aload 0 1), (76, x_iload 1 1), (77, x_push (.int (nI 3)) 1), (78, x_callV 7 0 3 FX9_of), (81, x_aload 0 1), (82, x_iload 1 1), (83, x_callV 7 0 2 FX9_shadeOf), (86, x_call 0 3 FX9_reachedBy), (89, x_aload 0 1), (90, x_iload 1 1), (91, x_push (.int (nI 0)) 1), (92, x_callV 7 0 3 FX9_of), (95, x_aload 0 1), (96, x_iload 1 1), (97, x_push (.int (nI 3)) 1), (98, x_callV 7 0 3 FX9_of), (101, x_aload 0 1), (102, x_iload 1 1), (103, x_callV 7 0 2 FX9_shadeOf), (106, x_call 0 3 FX9_reachedBy), (109, x_ii (fun x y => x - y)), (110, x_iret), (111, x_aload 0 1), (112, x_iload 1 1), (113, x_callV 7 0 2 FX9_likeFirst), (116, x_iret), (117, x_aload 0 1), (118, x_iload 1 1), (119, x_callV 7 0 2 FX9_othersReached), (122, x_iret), (123, x_aload 0 1), (124, x_iload 1 1), (125, x_callV 7 0 2 FX9_reachedAhead), (128, x_iret)]
set_option maxRecDepth 100000 in
theorem tX9_mark_ok (l : Launch) : ∀ q ∈ tX9_mark, xOK l cX9_mark RX9 3 8 0 (yX9_mark.name = "<init>") q.1 q.2 := by
  unfold tX9_mark
  refine List.forall_mem_cons.mpr ⟨?_, List.forall_mem_cons.mpr ⟨?_, List.forall_mem_cons.mpr ⟨?_, List.forall_mem_cons.mpr ⟨?_, List.forall_mem_cons.mpr ⟨?_, List.forall_mem_cons.mpr ⟨?_, List.forall_mem_cons.mpr ⟨?_, List.forall_mem_cons.mpr ⟨?_, List.forall_mem_cons.mpr ⟨?_, List.forall_mem_cons.mpr ⟨?_, List.forall_mem_cons.mpr ⟨?_, List.forall_mem_cons.mpr ⟨?_, List.forall_mem_cons.mpr ⟨?_, List.forall_mem_cons.mpr ⟨?_, List.forall_mem_cons.mpr ⟨?_, List.forall_mem_cons.mpr ⟨?_, List.forall_mem_cons.mpr ⟨?_, List.forall_mem_cons.mpr ⟨?_, List.forall_mem_cons.mpr ⟨?_, List.forall_mem_cons.mpr ⟨?_, List.forall_mem_cons.mpr ⟨?_, List.forall_mem_cons.mpr ⟨?_, List.forall_mem_cons.mpr ⟨?_, List.forall_mem_cons.mpr ⟨?_, List.forall_mem_cons.mpr ⟨?_, List.forall_mem_cons.mpr ⟨?_, List.forall_mem_cons.mpr ⟨?_, List.forall_mem_cons.mpr ⟨?_, List.forall_mem_cons.mpr ⟨?_, List.forall_mem_cons.mpr ⟨?_, List.forall_mem_cons.mpr ⟨?_, List.forall_mem_cons.mpr ⟨?_, List.forall_mem_cons.mpr ⟨?_, List.forall_mem_cons.mpr ⟨?_, List.forall_mem_cons.mpr ⟨?_, List.forall_mem_cons.mpr ⟨?_, List.forall_mem_cons.mpr ⟨?_, List.forall_mem_cons.mpr ⟨?_, List.forall_mem_cons.mpr ⟨?_, List.forall_mem_cons.mpr ⟨?_, List.forall_mem_cons.mpr ⟨?_, List.forall_mem_cons.mpr ⟨?_, List.forall_mem_cons.mpr ⟨?_, List.forall_mem_cons.mpr ⟨?_, List.forall_mem_cons.mpr ⟨?_, List.forall_mem_cons.mpr ⟨?_, List.forall_mem_cons.mpr ⟨?_, List.forall_mem_cons.mpr ⟨?_, List.forall_mem_cons.mpr ⟨?_, List.forall_mem_cons.mpr ⟨?_, List.forall_mem_cons.mpr ⟨?_, List.forall_mem_cons.mpr ⟨?_, List.forall_mem_cons.mpr ⟨?_, List.forall_mem_cons.mpr ⟨?_, List.forall_mem_cons.mpr ⟨?_, List.forall_mem_cons.mpr ⟨?_, List.forall_mem_cons.mpr ⟨?_, List.forall_mem_cons.mpr ⟨?_, List.forall_mem_cons.mpr ⟨?_, List.forall_mem_cons.mpr ⟨?_, List.forall_mem_cons.mpr ⟨?_, List.forall_mem_cons.mpr ⟨?_, fun _ h => absurd h List.not_mem_nil⟩⟩⟩⟩⟩⟩⟩⟩⟩⟩⟩⟩⟩⟩⟩⟩⟩⟩⟩⟩⟩⟩⟩⟩⟩⟩⟩⟩⟩⟩⟩⟩⟩⟩⟩⟩⟩⟩⟩⟩⟩⟩⟩⟩⟩⟩⟩⟩⟩⟩⟩⟩⟩⟩⟩⟩⟩⟩⟩⟩⟩⟩
  · exact x_aload_n_ok (show decode cX9_mark 0 = .ok (.aload_n 0, 1) by decide +kernel) rfl
  · exact x_iload_n_ok (show decode cX9_mark 1 = .ok (.iload_n 1, 1) by decide +kernel) rfl
  · exact x_callV_ok (ci := 7) rfl (by decide) (sX9_isName l) hw_1010 hw_1007 hw_1009 hw_28 hw_68 ⟨by decide, by decide, by decide +kernel⟩ rfl (by decide) (by decide) (show decode cX9_mark 2 = .ok (.invokevirtual 170, 3) by decide +kernel)
  · exact x_ifeq_ok (show decode cX9_mark 5 = .ok (.ifCond .eq 15, 3) by decide +kernel) (by decide)
  · exact x_iload_n_ok (show decode cX9_mark 8 = .ok (.iload_n 2, 1) by decide +kernel) rfl
  · exact x_i2l_ok (show decode cX9_mark 9 = .ok (.i2l, 1) by decide +kernel)
  · exact x_lconst_ok (show decode cX9_mark 10 = .ok (.lconst 1, 1) by decide +kernel) rfl
  · exact x_ldc2_ok (show decode cX9_mark 11 = .ok (.ldc2_w 58, 3) by decide +kernel) hw_915
  · exact x_callS_ok (sX9_in l) hw_918 hw_916 hw_917 hw_68 ⟨by decide, by decide, by decide +kernel⟩ (by decide) (by decide) (show decode cX9_mark 14 = .ok (.invokestatic 60, 3) by decide +kernel)
  · exact x_ifne_ok (show decode cX9_mark 17 = .ok (.ifCond .ne 5, 3) by decide +kernel) (by decide)
  · exact x_iconst_ok (show decode cX9_mark 20 = .ok (.iconst (-1), 1) by decide +kernel) (by decide)
  · exact x_iret_ok (show decode cX9_mark 21 = .ok (.ireturn, 1) by decide +kernel)
  · exact x_aload_n_ok (show decode cX9_mark 22 = .ok (.aload_n 0, 1) by decide +kernel) rfl
  · exact x_iload_n_ok (show decode cX9_mark 23 = .ok (.iload_n 1, 1) by decide +kernel) rfl
  · exact x_iload_n_ok (show decode cX9_mark 24 = .ok (.iload_n 2, 1) by decide +kernel) rfl
  · exact x_callV_ok (ci := 7) rfl (by decide) (sX9_isOf l) hw_1046 hw_1043 hw_1045 hw_32 hw_68 ⟨by decide, by decide, by decide +kernel⟩ rfl (by decide) (by decide) (show decode cX9_mark 25 = .ok (.invokevirtual 178, 3) by decide +kernel)
  · exact x_ifne_ok (show decode cX9_mark 28 = .ok (.ifCond .ne 9, 3) by decide +kernel) (by decide)
  · exact x_aload_n_ok (show decode cX9_mark 31 = .ok (.aload_n 0, 1) by decide +kernel) rfl
  · exact x_iconst_ok (show decode cX9_mark 32 = .ok (.iconst 3, 1) by decide +kernel) (by decide)
  · exact x_callV_ok (ci := 7) rfl (by decide) (sX9_find l) hw_922 hw_919 hw_921 hw_18 hw_68 ⟨by decide, by decide, by decide +kernel⟩ rfl (by decide) (by decide) (show decode cX9_mark 33 = .ok (.invokevirtual 70, 3) by decide +kernel)
  · exact x_iret_ok (show decode cX9_mark 36 = .ok (.ireturn, 1) by decide +kernel)
  · exact x_iload_n_ok (show decode cX9_mark 37 = .ok (.iload_n 2, 1) by decide +kernel) rfl
  · exact x_switch_ok (show decode cX9_mark 38 = .ok (.tableswitch 85 1 4 #[30, 36, 73, 79], 30) by decide +kernel) (by decide) (by decide +kernel) (by decide) (by decide) (by decide +kernel)
  · exact x_aload_n_ok (show decode cX9_mark 68 = .ok (.aload_n 0, 1) by decide +kernel) rfl
  · exact x_iload_n_ok (show decode cX9_mark 69 = .ok (.iload_n 1, 1) by decide +kernel) rfl
  · exact x_callV_ok (ci := 7) rfl (by decide) (sX9_calledBy l) hw_1050 hw_1047 hw_1049 hw_33 hw_68 ⟨by decide, by decide, by decide +kernel⟩ rfl (by decide) (by decide) (show decode cX9_mark 70 = .ok (.invokevirtual 181, 3) by decide +kernel)
  · exact x_iret_ok (show decode cX9_mark 73 = .ok (.ireturn, 1) by decide +kernel)
  · exact x_iconst_ok (show decode cX9_mark 74 = .ok (.iconst 0, 1) by decide +kernel) (by decide)
  · exact x_aload_n_ok (show decode cX9_mark 75 = .ok (.aload_n 0, 1) by decide +kernel) rfl
  · exact x_iload_n_ok (show decode cX9_mark 76 = .ok (.iload_n 1, 1) by decide +kernel) rfl
  · exact x_iconst_ok (show decode cX9_mark 77 = .ok (.iconst 3, 1) by decide +kernel) (by decide)
  · exact x_callV_ok (ci := 7) rfl (by decide) (sX9_of l) hw_1019 hw_1016 hw_1018 hw_30 hw_68 ⟨by decide, by decide, by decide +kernel⟩ rfl (by decide) (by decide) (show decode cX9_mark 78 = .ok (.invokevirtual 128, 3) by decide +kernel)
  · exact x_aload_n_ok (show decode cX9_mark 81 = .ok (.aload_n 0, 1) by decide +kernel) rfl
  · exact x_iload_n_ok (show decode cX9_mark 82 = .ok (.iload_n 1, 1) by decide +kernel) rfl
  · exact x_callV_ok (ci := 7) rfl (by decide) (sX9_shadeOf l) hw_1023 hw_1020 hw_1022 hw_31 hw_68 ⟨by decide, by decide, by decide +kernel⟩ rfl (by decide) (by decide) (show decode cX9_mark 83 = .ok (.invokevirtual 144, 3) by decide +kernel)
  · exact x_callS_ok (sX9_reachedBy l) hw_1026 hw_1024 hw_1025 hw_68 ⟨by decide, by decide, by decide +kernel⟩ (by decide) (by decide) (show decode cX9_mark 86 = .ok (.invokestatic 167, 3) by decide +kernel)
  · exact x_aload_n_ok (show decode cX9_mark 89 = .ok (.aload_n 0, 1) by decide +kernel) rfl
  · exact x_iload_n_ok (show decode cX9_mark 90 = .ok (.iload_n 1, 1) by decide +kernel) rfl
  · exact x_iconst_ok (show decode cX9_mark 91 = .ok (.iconst 0, 1) by decide +kernel) (by decide)
  · exact x_callV_ok (ci := 7) rfl (by decide) (sX9_of l) hw_1019 hw_1016 hw_1018 hw_30 hw_68 ⟨by decide, by decide, by decide +kernel⟩ rfl (by decide) (by decide) (show decode cX9_mark 92 = .ok (.invokevirtual 128, 3) by decide +kernel)
  · exact x_aload_n_ok (show decode cX9_mark 95 = .ok (.aload_n 0, 1) by decide +kernel) rfl
  · exact x_iload_n_ok (show decode cX9_mark 96 = .ok (.iload_n 1, 1) by decide +kernel) rfl
  · exact x_iconst_ok (show decode cX9_mark 97 = .ok (.iconst 3, 1) by decide +kernel) (by decide)
  · exact x_callV_ok (ci := 7) rfl (by decide) (sX9_of l) hw_1019 hw_1016 hw_1018 hw_30 hw_68 ⟨by decide, by decide, by decide +kernel⟩ rfl (by decide) (by decide) (show decode cX9_mark 98 = .ok (.invokevirtual 128, 3) by decide +kernel)
  · exact x_aload_n_ok (show decode cX9_mark 101 = .ok (.aload_n 0, 1) by decide +kernel) rfl
  · exact x_iload_n_ok (show decode cX9_mark 102 = .ok (.iload_n 1, 1) by decide +kernel) rfl
  · exact x_callV_ok (ci := 7) rfl (by decide) (sX9_shadeOf l) hw_1023 hw_1020 hw_1022 hw_31 hw_68 ⟨by decide, by decide, by decide +kernel⟩ rfl (by decide) (by decide) (show decode cX9_mark 103 = .ok (.invokevirtual 144, 3) by decide +kernel)
  · exact x_callS_ok (sX9_reachedBy l) hw_1026 hw_1024 hw_1025 hw_68 ⟨by decide, by decide, by decide +kernel⟩ (by decide) (by decide) (show decode cX9_mark 106 = .ok (.invokestatic 167, 3) by decide +kernel)
  · exact x_isub_ok (show decode cX9_mark 109 = .ok (.isub, 1) by decide +kernel)
  · exact x_iret_ok (show decode cX9_mark 110 = .ok (.ireturn, 1) by decide +kernel)
  · exact x_aload_n_ok (show decode cX9_mark 111 = .ok (.aload_n 0, 1) by decide +kernel) rfl
  · exact x_iload_n_ok (show decode cX9_mark 112 = .ok (.iload_n 1, 1) by decide +kernel) rfl
  · exact x_callV_ok (ci := 7) rfl (by decide) (sX9_likeFirst l) hw_1072 hw_1069 hw_1071 hw_37 hw_68 ⟨by decide, by decide, by decide +kernel⟩ rfl (by decide) (by decide) (show decode cX9_mark 113 = .ok (.invokevirtual 184, 3) by decide +kernel)
  · exact x_iret_ok (show decode cX9_mark 116 = .ok (.ireturn, 1) by decide +kernel)
  · exact x_aload_n_ok (show decode cX9_mark 117 = .ok (.aload_n 0, 1) by decide +kernel) rfl
  · exact x_iload_n_ok (show decode cX9_mark 118 = .ok (.iload_n 1, 1) by decide +kernel) rfl
  · exact x_callV_ok (ci := 7) rfl (by decide) (sX9_othersReached l) hw_1076 hw_1073 hw_1075 hw_38 hw_68 ⟨by decide, by decide, by decide +kernel⟩ rfl (by decide) (by decide) (show decode cX9_mark 119 = .ok (.invokevirtual 187, 3) by decide +kernel)
  · exact x_iret_ok (show decode cX9_mark 122 = .ok (.ireturn, 1) by decide +kernel)
  · exact x_aload_n_ok (show decode cX9_mark 123 = .ok (.aload_n 0, 1) by decide +kernel) rfl
  · exact x_iload_n_ok (show decode cX9_mark 124 = .ok (.iload_n 1, 1) by decide +kernel) rfl
  · exact x_callV_ok (ci := 7) rfl (by decide) (sX9_reachedAhead l) hw_1080 hw_1077 hw_1079 hw_39 hw_68 ⟨by decide, by decide, by decide +kernel⟩ rfl (by decide) (by decide) (show decode cX9_mark 125 = .ok (.invokevirtual 190, 3) by decide +kernel)
  · exact x_iret_ok (show decode cX9_mark 128 = .ok (.ireturn, 1) by decide +kernel)
noncomputable def FX9_mark : List Value → xS → Option xR := xden tX9_mark 3 (some .int) 0
theorem sX9_mark (l : Launch) : xSound l yX9_mark cX9_mark 3 (some .int) 8 0 FX9_mark := x_den (by decide) (tX9_mark_ok l)
noncomputable def tX8_due : List (Nat × xO) := [(0, x_iload 1 1), (1, x_aload 0 1), (2, x_getR 6 2), (5, x_getI 3 1), (8, x_call 0 2 FX8_among), (11, x_ifeq 23), (14, x_iload 2 1), (15, x_push (.int (nI 10)) 2), (17, x_call 0 2 FX8_among), (20, x_ifne 25), (23, x_push (.int (-1)) 1), (24, x_iret), (25, x_aload 0 1), (26, x_getR 6 2), (29, x_getR 3 0), (32, x_iload 1 1), (33, x_aald), (34, x_getI 1 4), (37, x_istore 3 1), (38, x_aload 0 1), (39, x_getR 6 2), (42, x_getR 3 0), (45, x_iload 1 1), (46, x_aald), (47, x_iload 2 1), (48, x_putI 1 4), (51, x_iload 3 1), (52, x_iret)]
set_option maxRecDepth 100000 in
theorem tX8_due_ok (l : Launch) : ∀ q ∈ tX8_due, xOK l cX8_due RX8 4 2 0 (yX8_due.name = "<init>") q.1 q.2 := by
  unfold tX8_due
  refine List.forall_mem_cons.mpr ⟨?_, List.forall_mem_cons.mpr ⟨?_, List.forall_mem_cons.mpr ⟨?_, List.forall_mem_cons.mpr ⟨?_, List.forall_mem_cons.mpr ⟨?_, List.forall_mem_cons.mpr ⟨?_, List.forall_mem_cons.mpr ⟨?_, List.forall_mem_cons.mpr ⟨?_, List.forall_mem_cons.mpr ⟨?_, List.forall_mem_cons.mpr ⟨?_, List.forall_mem_cons.mpr ⟨?_, List.forall_mem_cons.mpr ⟨?_, List.forall_mem_cons.mpr ⟨?_, List.forall_mem_cons.mpr ⟨?_, List.forall_mem_cons.mpr ⟨?_, List.forall_mem_cons.mpr ⟨?_, List.forall_mem_cons.mpr ⟨?_, List.forall_mem_cons.mpr ⟨?_, List.forall_mem_cons.mpr ⟨?_, List.forall_mem_cons.mpr ⟨?_, List.forall_mem_cons.mpr ⟨?_, List.forall_mem_cons.mpr ⟨?_, List.forall_mem_cons.mpr ⟨?_, List.forall_mem_cons.mpr ⟨?_, List.forall_mem_cons.mpr ⟨?_, List.forall_mem_cons.mpr ⟨?_, List.forall_mem_cons.mpr ⟨?_, List.forall_mem_cons.mpr ⟨?_, fun _ h => absurd h List.not_mem_nil⟩⟩⟩⟩⟩⟩⟩⟩⟩⟩⟩⟩⟩⟩⟩⟩⟩⟩⟩⟩⟩⟩⟩⟩⟩⟩⟩⟩
  · exact x_iload_n_ok (show decode cX8_due 0 = .ok (.iload_n 1, 1) by decide +kernel) rfl
  · exact x_aload_n_ok (show decode cX8_due 1 = .ok (.aload_n 0, 1) by decide +kernel) rfl
  · exact x_getR_ok (ci := 6) (k := 2) rfl (by decide) (by decide) hw_224 (show decode cX8_due 2 = .ok (.getfield 26, 3) by decide +kernel)
  · exact x_getI_ok (ci := 3) (k := 1) rfl (by decide) (by decide) hw_177 (show decode cX8_due 5 = .ok (.getfield 133, 3) by decide +kernel)
  · exact x_callS_ok (sX8_among l) hw_268 hw_266 hw_267 hw_61 ⟨by decide, by decide, by decide +kernel⟩ (by decide) (by decide) (show decode cX8_due 8 = .ok (.invokestatic 65, 3) by decide +kernel)
  · exact x_ifeq_ok (show decode cX8_due 11 = .ok (.ifCond .eq 12, 3) by decide +kernel) (by decide)
  · exact x_iload_n_ok (show decode cX8_due 14 = .ok (.iload_n 2, 1) by decide +kernel) rfl
  · exact x_bipush_ok (show decode cX8_due 15 = .ok (.bipush 10, 2) by decide +kernel) (by decide)
  · exact x_callS_ok (sX8_among l) hw_268 hw_266 hw_267 hw_61 ⟨by decide, by decide, by decide +kernel⟩ (by decide) (by decide) (show decode cX8_due 17 = .ok (.invokestatic 65, 3) by decide +kernel)
  · exact x_ifne_ok (show decode cX8_due 20 = .ok (.ifCond .ne 5, 3) by decide +kernel) (by decide)
  · exact x_iconst_ok (show decode cX8_due 23 = .ok (.iconst (-1), 1) by decide +kernel) (by decide)
  · exact x_iret_ok (show decode cX8_due 24 = .ok (.ireturn, 1) by decide +kernel)
  · exact x_aload_n_ok (show decode cX8_due 25 = .ok (.aload_n 0, 1) by decide +kernel) rfl
  · exact x_getR_ok (ci := 6) (k := 2) rfl (by decide) (by decide) hw_224 (show decode cX8_due 26 = .ok (.getfield 26, 3) by decide +kernel)
  · exact x_getR_ok (ci := 3) (k := 0) rfl (by decide) (by decide) hw_174 (show decode cX8_due 29 = .ok (.getfield 139, 3) by decide +kernel)
  · exact x_iload_n_ok (show decode cX8_due 32 = .ok (.iload_n 1, 1) by decide +kernel) rfl
  · exact x_aald_ok (show decode cX8_due 33 = .ok (.aaload, 1) by decide +kernel)
  · exact x_getI_ok (ci := 1) (k := 4) rfl (by decide) (by decide) hw_155 (show decode cX8_due 34 = .ok (.getfield 166, 3) by decide +kernel)
  · exact x_istore_n_ok (show decode cX8_due 37 = .ok (.istore_n 3, 1) by decide +kernel) rfl (by decide)
  · exact x_aload_n_ok (show decode cX8_due 38 = .ok (.aload_n 0, 1) by decide +kernel) rfl
  · exact x_getR_ok (ci := 6) (k := 2) rfl (by decide) (by decide) hw_224 (show decode cX8_due 39 = .ok (.getfield 26, 3) by decide +kernel)
  · exact x_getR_ok (ci := 3) (k := 0) rfl (by decide) (by decide) hw_174 (show decode cX8_due 42 = .ok (.getfield 139, 3) by decide +kernel)
  · exact x_iload_n_ok (show decode cX8_due 45 = .ok (.iload_n 1, 1) by decide +kernel) rfl
  · exact x_aald_ok (show decode cX8_due 46 = .ok (.aaload, 1) by decide +kernel)
  · exact x_iload_n_ok (show decode cX8_due 47 = .ok (.iload_n 2, 1) by decide +kernel) rfl
  · exact x_putI_ok (ci := 1) (k := 4) rfl (by decide) (by decide) rfl hw_155 rfl (show decode cX8_due 48 = .ok (.putfield 166, 3) by decide +kernel)
  · exact x_iload_n_ok (show decode cX8_due 51 = .ok (.iload_n 3, 1) by decide +kernel) rfl
  · exact x_iret_ok (show decode cX8_due 52 = .ok (.ireturn, 1) by decide +kernel)
noncomputable def FX8_due : List Value → xS → Option xR := xden tX8_due 4 (some .int) 0
theorem sX8_due (l : Launch) : xSound l yX8_due cX8_due 4 (some .int) 2 0 FX8_due := x_den (by decide) (tX8_due_ok l)
noncomputable def tX9_due : List (Nat × xO) := [(0, x_aload 0 1), (1, x_iload 1 1), (2, x_callV 7 0 2 FX9_isName), (5, x_ifeq 20), (8, x_iload 2 1), (9, x_i2l), (10, x_push (.long 0) 1), (11, x_push (.long 9) 3), (14, x_call 0 3 FX9_in), (17, x_ifne 22), (20, x_push (.int (-1)) 1), (21, x_iret), (22, x_aload 0 1), (23, x_iload 1 1), (24, x_push (.int (nI 5)) 1), (25, x_callV 7 0 3 FX9_of), (28, x_istore 3 1), (29, x_aload 0 1), (30, x_getR 7 0), (33, x_push (.int (nI 10)) 2), (35, x_push (.int (nI 7)) 2), (37, x_iload 1 1), (38, x_ii (fun x y => x * y)), (39, x_ii (fun x y => x + y)), (40, x_push (.int (nI 5)) 1), (41, x_ii (fun x y => x + y)), (42, x_iload 2 1), (43, x_iast), (44, x_iload 3 1), (45, x_iret)]
set_option maxRecDepth 100000 in
theorem tX9_due_ok (l : Launch) : ∀ q ∈ tX9_due, xOK l cX9_due RX9 4 3 0 (yX9_due.name = "<init>") q.1 q.2 := by
  unfold tX9_due
  refine List.forall_mem_cons.mpr ⟨?_, List.forall_mem_cons.mpr ⟨?_, List.forall_mem_cons.mpr ⟨?_, List.forall_mem_cons.mpr ⟨?_, List.forall_mem_cons.mpr ⟨?_, List.forall_mem_cons.mpr ⟨?_, List.forall_mem_cons.mpr ⟨?_, List.forall_mem_cons.mpr ⟨?_, List.forall_mem_cons.mpr ⟨?_, List.forall_mem_cons.mpr ⟨?_, List.forall_mem_cons.mpr ⟨?_, List.forall_mem_cons.mpr ⟨?_, List.forall_mem_cons.mpr ⟨?_, List.forall_mem_cons.mpr ⟨?_, List.forall_mem_cons.mpr ⟨?_, List.forall_mem_cons.mpr ⟨?_, List.forall_mem_cons.mpr ⟨?_, List.forall_mem_cons.mpr ⟨?_, List.forall_mem_cons.mpr ⟨?_, List.forall_mem_cons.mpr ⟨?_, List.forall_mem_cons.mpr ⟨?_, List.forall_mem_cons.mpr ⟨?_, List.forall_mem_cons.mpr ⟨?_, List.forall_mem_cons.mpr ⟨?_, List.forall_mem_cons.mpr ⟨?_, List.forall_mem_cons.mpr ⟨?_, List.forall_mem_cons.mpr ⟨?_, List.forall_mem_cons.mpr ⟨?_, List.forall_mem_cons.mpr ⟨?_, List.forall_mem_cons.mpr ⟨?_, fun _ h => absurd h List.not_mem_nil⟩⟩⟩⟩⟩⟩⟩⟩⟩⟩⟩⟩⟩⟩⟩⟩⟩⟩⟩⟩⟩⟩⟩⟩⟩⟩⟩⟩⟩⟩
  · exact x_aload_n_ok (show decode cX9_due 0 = .ok (.aload_n 0, 1) by decide +kernel) rfl
  · exact x_iload_n_ok (show decode cX9_due 1 = .ok (.iload_n 1, 1) by decide +kernel) rfl
  · exact x_callV_ok (ci := 7) rfl (by decide) (sX9_isName l) hw_1010 hw_1007 hw_1009 hw_28 hw_68 ⟨by decide, by decide, by decide +kernel⟩ rfl (by decide) (by decide) (show decode cX9_due 2 = .ok (.invokevirtual 170, 3) by decide +kernel)
  · exact x_ifeq_ok (show decode cX9_due 5 = .ok (.ifCond .eq 15, 3) by decide +kernel) (by decide)
  · exact x_iload_n_ok (show decode cX9_due 8 = .ok (.iload_n 2, 1) by decide +kernel) rfl
  · exact x_i2l_ok (show decode cX9_due 9 = .ok (.i2l, 1) by decide +kernel)
  · exact x_lconst_ok (show decode cX9_due 10 = .ok (.lconst 0, 1) by decide +kernel) rfl
  · exact x_ldc2_ok (show decode cX9_due 11 = .ok (.ldc2_w 193, 3) by decide +kernel) hw_1085
  · exact x_callS_ok (sX9_in l) hw_918 hw_916 hw_917 hw_68 ⟨by decide, by decide, by decide +kernel⟩ (by decide) (by decide) (show decode cX9_due 14 = .ok (.invokestatic 60, 3) by decide +kernel)
  · exact x_ifne_ok (show decode cX9_due 17 = .ok (.ifCond .ne 5, 3) by decide +kernel) (by decide)
  · exact x_iconst_ok (show decode cX9_due 20 = .ok (.iconst (-1), 1) by decide +kernel) (by decide)
  · exact x_iret_ok (show decode cX9_due 21 = .ok (.ireturn, 1) by decide +kernel)
  · exact x_aload_n_ok (show decode cX9_due 22 = .ok (.aload_n 0, 1) by decide +kernel) rfl
  · exact x_iload_n_ok (show decode cX9_due 23 = .ok (.iload_n 1, 1) by decide +kernel) rfl
  · exact x_iconst_ok (show decode cX9_due 24 = .ok (.iconst 5, 1) by decide +kernel) (by decide)
  · exact x_callV_ok (ci := 7) rfl (by decide) (sX9_of l) hw_1019 hw_1016 hw_1018 hw_30 hw_68 ⟨by decide, by decide, by decide +kernel⟩ rfl (by decide) (by decide) (show decode cX9_due 25 = .ok (.invokevirtual 128, 3) by decide +kernel)
  · exact x_istore_n_ok (show decode cX9_due 28 = .ok (.istore_n 3, 1) by decide +kernel) rfl (by decide)
  · exact x_aload_n_ok (show decode cX9_due 29 = .ok (.aload_n 0, 1) by decide +kernel) rfl
  · exact x_getR_ok (ci := 7) (k := 0) rfl (by decide) (by decide) hw_844 (show decode cX9_due 30 = .ok (.getfield 7, 3) by decide +kernel)
  · exact x_bipush_ok (show decode cX9_due 33 = .ok (.bipush 10, 2) by decide +kernel) (by decide)
  · exact x_bipush_ok (show decode cX9_due 35 = .ok (.bipush 7, 2) by decide +kernel) (by decide)
  · exact x_iload_n_ok (show decode cX9_due 37 = .ok (.iload_n 1, 1) by decide +kernel) rfl
  · exact x_imul_ok (show decode cX9_due 38 = .ok (.imul, 1) by decide +kernel)
  · exact x_iadd_ok (show decode cX9_due 39 = .ok (.iadd, 1) by decide +kernel)
  · exact x_iconst_ok (show decode cX9_due 40 = .ok (.iconst 5, 1) by decide +kernel) (by decide)
  · exact x_iadd_ok (show decode cX9_due 41 = .ok (.iadd, 1) by decide +kernel)
  · exact x_iload_n_ok (show decode cX9_due 42 = .ok (.iload_n 2, 1) by decide +kernel) rfl
  · exact x_iast_ok (show decode cX9_due 43 = .ok (.iastore, 1) by decide +kernel)
  · exact x_iload_n_ok (show decode cX9_due 44 = .ok (.iload_n 3, 1) by decide +kernel) rfl
  · exact x_iret_ok (show decode cX9_due 45 = .ok (.ireturn, 1) by decide +kernel)
noncomputable def FX9_due : List Value → xS → Option xR := xden tX9_due 4 (some .int) 0
theorem sX9_due (l : Launch) : xSound l yX9_due cX9_due 4 (some .int) 3 0 FX9_due := x_den (by decide) (tX9_due_ok l)
noncomputable def tX4_addSaid : List (Nat × xO) := [(0, x_aload 0 1), (1, x_callV 3 0 1 FX4_grow), (4, x_astore 5 2), (6, x_aload 5 2), (8, x_iload 1 1), (9, x_putI 1 0), (12, x_aload 5 2), (14, x_iload 2 1), (15, x_putI 1 1), (18, x_aload 5 2), (20, x_iload 3 1), (21, x_putI 1 2), (24, x_aload 5 2), (26, x_iload 4 2), (28, x_putI 1 3), (31, x_aload 5 2), (33, x_push (.int (nI 1)) 1), (34, x_putI 1 4), (37, x_aload 5 2), (39, x_push (.int (nI 0)) 1), (40, x_putZ 1 5), (43, x_aload 0 1), (44, x_getR 3 2), (47, x_aload 0 1), (48, x_getI 3 3), (51, x_push (.int (nI 1)) 1), (52, x_bastZ), (53, x_aload 0 1), (54, x_dup), (55, x_getI 3 3), (58, x_push (.int (nI 1)) 1), (59, x_ii (fun x y => x + y)), (60, x_putI 3 3), (63, x_aload 0 1), (64, x_getI 3 1), (67, x_push (.int (nI 1)) 1), (68, x_ii (fun x y => x - y)), (69, x_iret)]
set_option maxRecDepth 100000 in
theorem tX4_addSaid_ok (l : Launch) : ∀ q ∈ tX4_addSaid, xOK l cX4_addSaid RX4 6 2 0 (yX4_addSaid.name = "<init>") q.1 q.2 := by
  unfold tX4_addSaid
  refine List.forall_mem_cons.mpr ⟨?_, List.forall_mem_cons.mpr ⟨?_, List.forall_mem_cons.mpr ⟨?_, List.forall_mem_cons.mpr ⟨?_, List.forall_mem_cons.mpr ⟨?_, List.forall_mem_cons.mpr ⟨?_, List.forall_mem_cons.mpr ⟨?_, List.forall_mem_cons.mpr ⟨?_, List.forall_mem_cons.mpr ⟨?_, List.forall_mem_cons.mpr ⟨?_, List.forall_mem_cons.mpr ⟨?_, List.forall_mem_cons.mpr ⟨?_, List.forall_mem_cons.mpr ⟨?_, List.forall_mem_cons.mpr ⟨?_, List.forall_mem_cons.mpr ⟨?_, List.forall_mem_cons.mpr ⟨?_, List.forall_mem_cons.mpr ⟨?_, List.forall_mem_cons.mpr ⟨?_, List.forall_mem_cons.mpr ⟨?_, List.forall_mem_cons.mpr ⟨?_, List.forall_mem_cons.mpr ⟨?_, List.forall_mem_cons.mpr ⟨?_, List.forall_mem_cons.mpr ⟨?_, List.forall_mem_cons.mpr ⟨?_, List.forall_mem_cons.mpr ⟨?_, List.forall_mem_cons.mpr ⟨?_, List.forall_mem_cons.mpr ⟨?_, List.forall_mem_cons.mpr ⟨?_, List.forall_mem_cons.mpr ⟨?_, List.forall_mem_cons.mpr ⟨?_, List.forall_mem_cons.mpr ⟨?_, List.forall_mem_cons.mpr ⟨?_, List.forall_mem_cons.mpr ⟨?_, List.forall_mem_cons.mpr ⟨?_, List.forall_mem_cons.mpr ⟨?_, List.forall_mem_cons.mpr ⟨?_, List.forall_mem_cons.mpr ⟨?_, List.forall_mem_cons.mpr ⟨?_, fun _ h => absurd h List.not_mem_nil⟩⟩⟩⟩⟩⟩⟩⟩⟩⟩⟩⟩⟩⟩⟩⟩⟩⟩⟩⟩⟩⟩⟩⟩⟩⟩⟩⟩⟩⟩⟩⟩⟩⟩⟩⟩⟩⟩
  · exact x_aload_n_ok (show decode cX4_addSaid 0 = .ok (.aload_n 0, 1) by decide +kernel) rfl
  · exact x_callV_ok (ci := 3) rfl (by decide) (sX4_grow l) hw_429 hw_539 hw_427 hw_428 hw_64 ⟨by decide, by decide, by decide +kernel⟩ rfl (by decide) (by decide) (show decode cX4_addSaid 1 = .ok (.invokevirtual 36, 3) by decide +kernel)
  · exact x_astore_ok (show decode cX4_addSaid 4 = .ok (.astore 5, 2) by decide +kernel) (by decide)
  · exact x_aload_ok (show decode cX4_addSaid 6 = .ok (.aload 5, 2) by decide +kernel)
  · exact x_iload_n_ok (show decode cX4_addSaid 8 = .ok (.iload_n 1, 1) by decide +kernel) rfl
  · exact x_putI_ok (ci := 1) (k := 0) rfl (by decide) (by decide) rfl hw_138 rfl (show decode cX4_addSaid 9 = .ok (.putfield 40, 3) by decide +kernel)
  · exact x_aload_ok (show decode cX4_addSaid 12 = .ok (.aload 5, 2) by decide +kernel)
  · exact x_iload_n_ok (show decode cX4_addSaid 14 = .ok (.iload_n 2, 1) by decide +kernel) rfl
  · exact x_putI_ok (ci := 1) (k := 1) rfl (by decide) (by decide) rfl hw_142 rfl (show decode cX4_addSaid 15 = .ok (.putfield 43, 3) by decide +kernel)
  · exact x_aload_ok (show decode cX4_addSaid 18 = .ok (.aload 5, 2) by decide +kernel)
  · exact x_iload_n_ok (show decode cX4_addSaid 20 = .ok (.iload_n 3, 1) by decide +kernel) rfl
  · exact x_putI_ok (ci := 1) (k := 2) rfl (by decide) (by decide) rfl hw_145 rfl (show decode cX4_addSaid 21 = .ok (.putfield 46, 3) by decide +kernel)
  · exact x_aload_ok (show decode cX4_addSaid 24 = .ok (.aload 5, 2) by decide +kernel)
  · exact x_iload_ok (show decode cX4_addSaid 26 = .ok (.iload 4, 2) by decide +kernel)
  · exact x_putI_ok (ci := 1) (k := 3) rfl (by decide) (by decide) rfl hw_149 rfl (show decode cX4_addSaid 28 = .ok (.putfield 49, 3) by decide +kernel)
  · exact x_aload_ok (show decode cX4_addSaid 31 = .ok (.aload 5, 2) by decide +kernel)
  · exact x_iconst_ok (show decode cX4_addSaid 33 = .ok (.iconst 1, 1) by decide +kernel) (by decide)
  · exact x_putI_ok (ci := 1) (k := 4) rfl (by decide) (by decide) rfl hw_153 rfl (show decode cX4_addSaid 34 = .ok (.putfield 52, 3) by decide +kernel)
  · exact x_aload_ok (show decode cX4_addSaid 37 = .ok (.aload 5, 2) by decide +kernel)
  · exact x_iconst_ok (show decode cX4_addSaid 39 = .ok (.iconst 0, 1) by decide +kernel) (by decide)
  · exact x_putZ_ok (ci := 1) (k := 5) rfl (by decide) (by decide) rfl hw_157 rfl (show decode cX4_addSaid 40 = .ok (.putfield 55, 3) by decide +kernel)
  · exact x_aload_n_ok (show decode cX4_addSaid 43 = .ok (.aload_n 0, 1) by decide +kernel) rfl
  · exact x_getR_ok (ci := 3) (k := 2) rfl (by decide) (by decide) hw_178 (show decode cX4_addSaid 44 = .ok (.getfield 18, 3) by decide +kernel)
  · exact x_aload_n_ok (show decode cX4_addSaid 47 = .ok (.aload_n 0, 1) by decide +kernel) rfl
  · exact x_getI_ok (ci := 3) (k := 3) rfl (by decide) (by decide) hw_179 (show decode cX4_addSaid 48 = .ok (.getfield 26, 3) by decide +kernel)
  · exact x_iconst_ok (show decode cX4_addSaid 51 = .ok (.iconst 1, 1) by decide +kernel) (by decide)
  · exact x_bastZ_ok (show decode cX4_addSaid 52 = .ok (.bastore, 1) by decide +kernel)
  · exact x_aload_n_ok (show decode cX4_addSaid 53 = .ok (.aload_n 0, 1) by decide +kernel) rfl
  · exact x_dup_ok (show decode cX4_addSaid 54 = .ok (.dup, 1) by decide +kernel)
  · exact x_getI_ok (ci := 3) (k := 3) rfl (by decide) (by decide) hw_179 (show decode cX4_addSaid 55 = .ok (.getfield 26, 3) by decide +kernel)
  · exact x_iconst_ok (show decode cX4_addSaid 58 = .ok (.iconst 1, 1) by decide +kernel) (by decide)
  · exact x_iadd_ok (show decode cX4_addSaid 59 = .ok (.iadd, 1) by decide +kernel)
  · exact x_putI_ok (ci := 3) (k := 3) rfl (by decide) (by decide) rfl hw_179 rfl (show decode cX4_addSaid 60 = .ok (.putfield 26, 3) by decide +kernel)
  · exact x_aload_n_ok (show decode cX4_addSaid 63 = .ok (.aload_n 0, 1) by decide +kernel) rfl
  · exact x_getI_ok (ci := 3) (k := 1) rfl (by decide) (by decide) hw_175 (show decode cX4_addSaid 64 = .ok (.getfield 22, 3) by decide +kernel)
  · exact x_iconst_ok (show decode cX4_addSaid 67 = .ok (.iconst 1, 1) by decide +kernel) (by decide)
  · exact x_isub_ok (show decode cX4_addSaid 68 = .ok (.isub, 1) by decide +kernel)
  · exact x_iret_ok (show decode cX4_addSaid 69 = .ok (.ireturn, 1) by decide +kernel)
noncomputable def FX4_addSaid : List Value → xS → Option xR := xden tX4_addSaid 6 (some .int) 0
theorem sX4_addSaid (l : Launch) : xSound l yX4_addSaid cX4_addSaid 6 (some .int) 2 0 FX4_addSaid := x_den (by decide) (tX4_addSaid_ok l)
noncomputable def tX8_say : List (Nat × xO) := [(0, x_iload 1 1), (1, x_push (.int (nI 6)) 2), (3, x_call 0 2 FX8_among), (6, x_ifeq 37), (9, x_iload 2 1), (10, x_push (.int (nI 216)) 3), (13, x_call 0 2 FX8_among), (16, x_ifeq 37), (19, x_iload 3 1), (20, x_push (.int (nI 10)) 2), (22, x_call 0 2 FX8_among), (25, x_ifeq 37), (28, x_iload 4 2), (30, x_push (.int (nI 4)) 1), (31, x_call 0 2 FX8_among), (34, x_ifne 39), (37, x_push (.int (-1)) 1), (38, x_iret), (39, x_aload 0 1), (40, x_getR 6 2), (43, x_getI 3 1), (46, x_ifeq 63), (49, x_aload 0 1), (50, x_getR 6 2), (53, x_iload 2 1), (54, x_push (.int (nI 0)) 1), (55, x_callV 3 0 3 FX4_callerOf), (58, x_push (.int (-9)) 2), (60, x_cmpeq 66), (63, x_push (.int (-4)) 2), (65, x_iret), (66, x_aload 0 1), (67, x_getR 6 2), (70, x_getI 3 1), (73, x_push (.int (nI 8)) 2), (75, x_cmpge 90), (78, x_aload 0 1), (79, x_getR 6 2), (82, x_getI 3 3), (85, x_push (.int (nI 40)) 2), (87, x_cmplt 93), (90, x_push (.int (-2)) 2), (92, x_iret), (93, x_aload 0 1), (94, x_getR 6 2), (97, x_iload 1 1), (98, x_iload 2 1), (99, x_iload 3 1), (100, x_iload 4 2), (102, x_callV 3 0 5 FX4_addSaid), (105, x_iret)]
set_option maxRecDepth 100000 in
theorem tX8_say_ok (l : Launch) : ∀ q ∈ tX8_say, xOK l cX8_say RX8 5 6 0 (yX8_say.name = "<init>") q.1 q.2 := by
  unfold tX8_say
  refine List.forall_mem_cons.mpr ⟨?_, List.forall_mem_cons.mpr ⟨?_, List.forall_mem_cons.mpr ⟨?_, List.forall_mem_cons.mpr ⟨?_, List.forall_mem_cons.mpr ⟨?_, List.forall_mem_cons.mpr ⟨?_, List.forall_mem_cons.mpr ⟨?_, List.forall_mem_cons.mpr ⟨?_, List.forall_mem_cons.mpr ⟨?_, List.forall_mem_cons.mpr ⟨?_, List.forall_mem_cons.mpr ⟨?_, List.forall_mem_cons.mpr ⟨?_, List.forall_mem_cons.mpr ⟨?_, List.forall_mem_cons.mpr ⟨?_, List.forall_mem_cons.mpr ⟨?_, List.forall_mem_cons.mpr ⟨?_, List.forall_mem_cons.mpr ⟨?_, List.forall_mem_cons.mpr ⟨?_, List.forall_mem_cons.mpr ⟨?_, List.forall_mem_cons.mpr ⟨?_, List.forall_mem_cons.mpr ⟨?_, List.forall_mem_cons.mpr ⟨?_, List.forall_mem_cons.mpr ⟨?_, List.forall_mem_cons.mpr ⟨?_, List.forall_mem_cons.mpr ⟨?_, List.forall_mem_cons.mpr ⟨?_, List.forall_mem_cons.mpr ⟨?_, List.forall_mem_cons.mpr ⟨?_, List.forall_mem_cons.mpr ⟨?_, List.forall_mem_cons.mpr ⟨?_, List.forall_mem_cons.mpr ⟨?_, List.forall_mem_cons.mpr ⟨?_, List.forall_mem_cons.mpr ⟨?_, List.forall_mem_cons.mpr ⟨?_, List.forall_mem_cons.mpr ⟨?_, List.forall_mem_cons.mpr ⟨?_, List.forall_mem_cons.mpr ⟨?_, List.forall_mem_cons.mpr ⟨?_, List.forall_mem_cons.mpr ⟨?_, List.forall_mem_cons.mpr ⟨?_, List.forall_mem_cons.mpr ⟨?_, List.forall_mem_cons.mpr ⟨?_, List.forall_mem_cons.mpr ⟨?_, List.forall_mem_cons.mpr ⟨?_, List.forall_mem_cons.mpr ⟨?_, List.forall_mem_cons.mpr ⟨?_, List.forall_mem_cons.mpr ⟨?_, List.forall_mem_cons.mpr ⟨?_, List.forall_mem_cons.mpr ⟨?_, List.forall_mem_cons.mpr ⟨?_, List.forall_mem_cons.mpr ⟨?_, fun _ h => absurd h List.not_mem_nil⟩⟩⟩⟩⟩⟩⟩⟩⟩⟩⟩⟩⟩⟩⟩⟩⟩⟩⟩⟩⟩⟩⟩⟩⟩⟩⟩⟩⟩⟩⟩⟩⟩⟩⟩⟩⟩⟩⟩⟩⟩⟩⟩⟩⟩⟩⟩⟩⟩⟩⟩
  · exact x_iload_n_ok (show decode cX8_say 0 = .ok (.iload_n 1, 1) by decide +kernel) rfl
  · exact x_bipush_ok (show decode cX8_say 1 = .ok (.bipush 6, 2) by decide +kernel) (by decide)
  · exact x_callS_ok (sX8_among l) hw_268 hw_266 hw_267 hw_61 ⟨by decide, by decide, by decide +kernel⟩ (by decide) (by decide) (show decode cX8_say 3 = .ok (.invokestatic 65, 3) by decide +kernel)
  · exact x_ifeq_ok (show decode cX8_say 6 = .ok (.ifCond .eq 31, 3) by decide +kernel) (by decide)
  · exact x_iload_n_ok (show decode cX8_say 9 = .ok (.iload_n 2, 1) by decide +kernel) rfl
  · exact x_sipush_ok (show decode cX8_say 10 = .ok (.sipush 216, 3) by decide +kernel) (by decide)
  · exact x_callS_ok (sX8_among l) hw_268 hw_266 hw_267 hw_61 ⟨by decide, by decide, by decide +kernel⟩ (by decide) (by decide) (show decode cX8_say 13 = .ok (.invokestatic 65, 3) by decide +kernel)
  · exact x_ifeq_ok (show decode cX8_say 16 = .ok (.ifCond .eq 21, 3) by decide +kernel) (by decide)
  · exact x_iload_n_ok (show decode cX8_say 19 = .ok (.iload_n 3, 1) by decide +kernel) rfl
  · exact x_bipush_ok (show decode cX8_say 20 = .ok (.bipush 10, 2) by decide +kernel) (by decide)
  · exact x_callS_ok (sX8_among l) hw_268 hw_266 hw_267 hw_61 ⟨by decide, by decide, by decide +kernel⟩ (by decide) (by decide) (show decode cX8_say 22 = .ok (.invokestatic 65, 3) by decide +kernel)
  · exact x_ifeq_ok (show decode cX8_say 25 = .ok (.ifCond .eq 12, 3) by decide +kernel) (by decide)
  · exact x_iload_ok (show decode cX8_say 28 = .ok (.iload 4, 2) by decide +kernel)
  · exact x_iconst_ok (show decode cX8_say 30 = .ok (.iconst 4, 1) by decide +kernel) (by decide)
  · exact x_callS_ok (sX8_among l) hw_268 hw_266 hw_267 hw_61 ⟨by decide, by decide, by decide +kernel⟩ (by decide) (by decide) (show decode cX8_say 31 = .ok (.invokestatic 65, 3) by decide +kernel)
  · exact x_ifne_ok (show decode cX8_say 34 = .ok (.ifCond .ne 5, 3) by decide +kernel) (by decide)
  · exact x_iconst_ok (show decode cX8_say 37 = .ok (.iconst (-1), 1) by decide +kernel) (by decide)
  · exact x_iret_ok (show decode cX8_say 38 = .ok (.ireturn, 1) by decide +kernel)
  · exact x_aload_n_ok (show decode cX8_say 39 = .ok (.aload_n 0, 1) by decide +kernel) rfl
  · exact x_getR_ok (ci := 6) (k := 2) rfl (by decide) (by decide) hw_224 (show decode cX8_say 40 = .ok (.getfield 26, 3) by decide +kernel)
  · exact x_getI_ok (ci := 3) (k := 1) rfl (by decide) (by decide) hw_177 (show decode cX8_say 43 = .ok (.getfield 133, 3) by decide +kernel)
  · exact x_ifeq_ok (show decode cX8_say 46 = .ok (.ifCond .eq 17, 3) by decide +kernel) (by decide)
  · exact x_aload_n_ok (show decode cX8_say 49 = .ok (.aload_n 0, 1) by decide +kernel) rfl
  · exact x_getR_ok (ci := 6) (k := 2) rfl (by decide) (by decide) hw_224 (show decode cX8_say 50 = .ok (.getfield 26, 3) by decide +kernel)
  · exact x_iload_n_ok (show decode cX8_say 53 = .ok (.iload_n 2, 1) by decide +kernel) rfl
  · exact x_iconst_ok (show decode cX8_say 54 = .ok (.iconst 0, 1) by decide +kernel) (by decide)
  · exact x_callV_ok (ci := 3) rfl (by decide) (sX4_callerOf l) hw_501 hw_534 hw_499 hw_500 hw_64 ⟨by decide, by decide, by decide +kernel⟩ rfl (by decide) (by decide) (show decode cX8_say 55 = .ok (.invokevirtual 169, 3) by decide +kernel)
  · exact x_bipush_ok (show decode cX8_say 58 = .ok (.bipush (-9), 2) by decide +kernel) (by decide)
  · exact x_cmpeq_ok (show decode cX8_say 60 = .ok (.if_icmp .eq 6, 3) by decide +kernel) (by decide)
  · exact x_bipush_ok (show decode cX8_say 63 = .ok (.bipush (-4), 2) by decide +kernel) (by decide)
  · exact x_iret_ok (show decode cX8_say 65 = .ok (.ireturn, 1) by decide +kernel)
  · exact x_aload_n_ok (show decode cX8_say 66 = .ok (.aload_n 0, 1) by decide +kernel) rfl
  · exact x_getR_ok (ci := 6) (k := 2) rfl (by decide) (by decide) hw_224 (show decode cX8_say 67 = .ok (.getfield 26, 3) by decide +kernel)
  · exact x_getI_ok (ci := 3) (k := 1) rfl (by decide) (by decide) hw_177 (show decode cX8_say 70 = .ok (.getfield 133, 3) by decide +kernel)
  · exact x_bipush_ok (show decode cX8_say 73 = .ok (.bipush 8, 2) by decide +kernel) (by decide)
  · exact x_cmpge_ok (show decode cX8_say 75 = .ok (.if_icmp .ge 15, 3) by decide +kernel) (by decide)
  · exact x_aload_n_ok (show decode cX8_say 78 = .ok (.aload_n 0, 1) by decide +kernel) rfl
  · exact x_getR_ok (ci := 6) (k := 2) rfl (by decide) (by decide) hw_224 (show decode cX8_say 79 = .ok (.getfield 26, 3) by decide +kernel)
  · exact x_getI_ok (ci := 3) (k := 3) rfl (by decide) (by decide) hw_180 (show decode cX8_say 82 = .ok (.getfield 172, 3) by decide +kernel)
  · exact x_bipush_ok (show decode cX8_say 85 = .ok (.bipush 40, 2) by decide +kernel) (by decide)
  · exact x_cmplt_ok (show decode cX8_say 87 = .ok (.if_icmp .lt 6, 3) by decide +kernel) (by decide)
  · exact x_bipush_ok (show decode cX8_say 90 = .ok (.bipush (-2), 2) by decide +kernel) (by decide)
  · exact x_iret_ok (show decode cX8_say 92 = .ok (.ireturn, 1) by decide +kernel)
  · exact x_aload_n_ok (show decode cX8_say 93 = .ok (.aload_n 0, 1) by decide +kernel) rfl
  · exact x_getR_ok (ci := 6) (k := 2) rfl (by decide) (by decide) hw_224 (show decode cX8_say 94 = .ok (.getfield 26, 3) by decide +kernel)
  · exact x_iload_n_ok (show decode cX8_say 97 = .ok (.iload_n 1, 1) by decide +kernel) rfl
  · exact x_iload_n_ok (show decode cX8_say 98 = .ok (.iload_n 2, 1) by decide +kernel) rfl
  · exact x_iload_n_ok (show decode cX8_say 99 = .ok (.iload_n 3, 1) by decide +kernel) rfl
  · exact x_iload_ok (show decode cX8_say 100 = .ok (.iload 4, 2) by decide +kernel)
  · exact x_callV_ok (ci := 3) rfl (by decide) (sX4_addSaid l) hw_538 hw_535 hw_536 hw_537 hw_64 ⟨by decide, by decide, by decide +kernel⟩ rfl (by decide) (by decide) (show decode cX8_say 102 = .ok (.invokevirtual 175, 3) by decide +kernel)
  · exact x_iret_ok (show decode cX8_say 105 = .ok (.ireturn, 1) by decide +kernel)
noncomputable def FX8_say : List Value → xS → Option xR := xden tX8_say 5 (some .int) 0
theorem sX8_say (l : Launch) : xSound l yX8_say cX8_say 5 (some .int) 6 0 FX8_say := x_den (by decide) (tX8_say_ok l)
noncomputable def tX9_isKind : List (Nat × xO) := [(0, x_iload 0 1), (1, x_i2l), (2, x_push (.long 0) 1), (3, x_push (.long 5) 3), (6, x_call 0 3 FX9_in), (9, x_iret)]
set_option maxRecDepth 100000 in
theorem tX9_isKind_ok (l : Launch) : ∀ q ∈ tX9_isKind, xOK l cX9_isKind RX9 1 2 0 (yX9_isKind.name = "<init>") q.1 q.2 := by
  unfold tX9_isKind
  refine List.forall_mem_cons.mpr ⟨?_, List.forall_mem_cons.mpr ⟨?_, List.forall_mem_cons.mpr ⟨?_, List.forall_mem_cons.mpr ⟨?_, List.forall_mem_cons.mpr ⟨?_, List.forall_mem_cons.mpr ⟨?_, fun _ h => absurd h List.not_mem_nil⟩⟩⟩⟩⟩⟩
  · exact x_iload_n_ok (show decode cX9_isKind 0 = .ok (.iload_n 0, 1) by decide +kernel) rfl
  · exact x_i2l_ok (show decode cX9_isKind 1 = .ok (.i2l, 1) by decide +kernel)
  · exact x_lconst_ok (show decode cX9_isKind 2 = .ok (.lconst 0, 1) by decide +kernel) rfl
  · exact x_ldc2_ok (show decode cX9_isKind 3 = .ok (.ldc2_w 58, 3) by decide +kernel) hw_915
  · exact x_callS_ok (sX9_in l) hw_918 hw_916 hw_917 hw_68 ⟨by decide, by decide, by decide +kernel⟩ (by decide) (by decide) (show decode cX9_isKind 6 = .ok (.invokestatic 60, 3) by decide +kernel)
  · exact x_iret_ok (show decode cX9_isKind 9 = .ok (.ireturn, 1) by decide +kernel)
noncomputable def FX9_isKind : List Value → xS → Option xR := xden tX9_isKind 1 (some .boolean) 0
theorem sX9_isKind (l : Launch) : xSound l yX9_isKind cX9_isKind 1 (some .boolean) 2 0 FX9_isKind := x_den (by decide) (tX9_isKind_ok l)
noncomputable def tX9_isShade : List (Nat × xO) := [(0, x_iload 0 1), (1, x_i2l), (2, x_push (.long 0) 1), (3, x_push (.long 215) 3), (6, x_call 0 3 FX9_in), (9, x_iret)]
set_option maxRecDepth 100000 in
theorem tX9_isShade_ok (l : Launch) : ∀ q ∈ tX9_isShade, xOK l cX9_isShade RX9 1 2 0 (yX9_isShade.name = "<init>") q.1 q.2 := by
  unfold tX9_isShade
  refine List.forall_mem_cons.mpr ⟨?_, List.forall_mem_cons.mpr ⟨?_, List.forall_mem_cons.mpr ⟨?_, List.forall_mem_cons.mpr ⟨?_, List.forall_mem_cons.mpr ⟨?_, List.forall_mem_cons.mpr ⟨?_, fun _ h => absurd h List.not_mem_nil⟩⟩⟩⟩⟩⟩
  · exact x_iload_n_ok (show decode cX9_isShade 0 = .ok (.iload_n 0, 1) by decide +kernel) rfl
  · exact x_i2l_ok (show decode cX9_isShade 1 = .ok (.i2l, 1) by decide +kernel)
  · exact x_lconst_ok (show decode cX9_isShade 2 = .ok (.lconst 0, 1) by decide +kernel) rfl
  · exact x_ldc2_ok (show decode cX9_isShade 3 = .ok (.ldc2_w 126, 3) by decide +kernel) hw_1096
  · exact x_callS_ok (sX9_in l) hw_918 hw_916 hw_917 hw_68 ⟨by decide, by decide, by decide +kernel⟩ (by decide) (by decide) (show decode cX9_isShade 6 = .ok (.invokestatic 60, 3) by decide +kernel)
  · exact x_iret_ok (show decode cX9_isShade 9 = .ok (.ireturn, 1) by decide +kernel)
noncomputable def FX9_isShade : List Value → xS → Option xR := xden tX9_isShade 1 (some .boolean) 0
theorem sX9_isShade (l : Launch) : xSound l yX9_isShade cX9_isShade 1 (some .boolean) 2 0 FX9_isShade := x_den (by decide) (tX9_isShade_ok l)
noncomputable def tX9_isPerson : List (Nat × xO) := [(0, x_iload 0 1), (1, x_i2l), (2, x_push (.long 0) 1), (3, x_push (.long 3) 3), (6, x_call 0 3 FX9_in), (9, x_iret)]
set_option maxRecDepth 100000 in
theorem tX9_isPerson_ok (l : Launch) : ∀ q ∈ tX9_isPerson, xOK l cX9_isPerson RX9 1 2 0 (yX9_isPerson.name = "<init>") q.1 q.2 := by
  unfold tX9_isPerson
  refine List.forall_mem_cons.mpr ⟨?_, List.forall_mem_cons.mpr ⟨?_, List.forall_mem_cons.mpr ⟨?_, List.forall_mem_cons.mpr ⟨?_, List.forall_mem_cons.mpr ⟨?_, List.forall_mem_cons.mpr ⟨?_, fun _ h => absurd h List.not_mem_nil⟩⟩⟩⟩⟩⟩
  · exact x_iload_n_ok (show decode cX9_isPerson 0 = .ok (.iload_n 0, 1) by decide +kernel) rfl
  · exact x_i2l_ok (show decode cX9_isPerson 1 = .ok (.i2l, 1) by decide +kernel)
  · exact x_lconst_ok (show decode cX9_isPerson 2 = .ok (.lconst 0, 1) by decide +kernel) rfl
  · exact x_ldc2_ok (show decode cX9_isPerson 3 = .ok (.ldc2_w 64, 3) by decide +kernel) hw_966
  · exact x_callS_ok (sX9_in l) hw_918 hw_916 hw_917 hw_68 ⟨by decide, by decide, by decide +kernel⟩ (by decide) (by decide) (show decode cX9_isPerson 6 = .ok (.invokestatic 60, 3) by decide +kernel)
  · exact x_iret_ok (show decode cX9_isPerson 9 = .ok (.ireturn, 1) by decide +kernel)
noncomputable def FX9_isPerson : List Value → xS → Option xR := xden tX9_isPerson 1 (some .boolean) 0
theorem sX9_isPerson (l : Launch) : xSound l yX9_isPerson cX9_isPerson 1 (some .boolean) 2 0 FX9_isPerson := x_den (by decide) (tX9_isPerson_ok l)
noncomputable def tX9_keepPast : List (Nat × xO) := [(0, x_push (.int (nI 0)) 1), (1, x_istore 1 1), (2, x_iload 1 1), (3, x_push (.int (nI 9)) 2), (5, x_cmpge 41), (8, x_aload 0 1), (9, x_getR 7 0), (12, x_push (.int (nI 66)) 2), (14, x_push (.int (nI 9)) 2), (16, x_aload 0 1), (17, x_getR 7 0), (20, x_push (.int (nI 0)) 1), (21, x_iald), (22, x_ii (fun x y => x * y)), (23, x_ii (fun x y => x + y)), (24, x_iload 1 1), (25, x_ii (fun x y => x + y)), (26, x_aload 0 1), (27, x_getR 7 0), (30, x_push (.int (nI 1)) 1), (31, x_iload 1 1), (32, x_ii (fun x y => x + y)), (33, x_iald), (34, x_iast), (35, x_iinc 1 (nI 1)), (38, x_goto 2), (41, x_aload 0 1), (42, x_getR 7 0), (45, x_push (.int (nI 0)) 1), (46, x_dup2), (47, x_iald), (48, x_push (.int (nI 1)) 1), (49, x_ii (fun x y => x + y)), (50, x_iast), (51, x_vret)]
set_option maxRecDepth 100000 in
theorem tX9_keepPast_ok (l : Launch) : ∀ q ∈ tX9_keepPast, xOK l cX9_keepPast RX9 2 1 0 (yX9_keepPast.name = "<init>") q.1 q.2 := by
  unfold tX9_keepPast
  refine List.forall_mem_cons.mpr ⟨?_, List.forall_mem_cons.mpr ⟨?_, List.forall_mem_cons.mpr ⟨?_, List.forall_mem_cons.mpr ⟨?_, List.forall_mem_cons.mpr ⟨?_, List.forall_mem_cons.mpr ⟨?_, List.forall_mem_cons.mpr ⟨?_, List.forall_mem_cons.mpr ⟨?_, List.forall_mem_cons.mpr ⟨?_, List.forall_mem_cons.mpr ⟨?_, List.forall_mem_cons.mpr ⟨?_, List.forall_mem_cons.mpr ⟨?_, List.forall_mem_cons.mpr ⟨?_, List.forall_mem_cons.mpr ⟨?_, List.forall_mem_cons.mpr ⟨?_, List.forall_mem_cons.mpr ⟨?_, List.forall_mem_cons.mpr ⟨?_, List.forall_mem_cons.mpr ⟨?_, List.forall_mem_cons.mpr ⟨?_, List.forall_mem_cons.mpr ⟨?_, List.forall_mem_cons.mpr ⟨?_, List.forall_mem_cons.mpr ⟨?_, List.forall_mem_cons.mpr ⟨?_, List.forall_mem_cons.mpr ⟨?_, List.forall_mem_cons.mpr ⟨?_, List.forall_mem_cons.mpr ⟨?_, List.forall_mem_cons.mpr ⟨?_, List.forall_mem_cons.mpr ⟨?_, List.forall_mem_cons.mpr ⟨?_, List.forall_mem_cons.mpr ⟨?_, List.forall_mem_cons.mpr ⟨?_, List.forall_mem_cons.mpr ⟨?_, List.forall_mem_cons.mpr ⟨?_, List.forall_mem_cons.mpr ⟨?_, List.forall_mem_cons.mpr ⟨?_, fun _ h => absurd h List.not_mem_nil⟩⟩⟩⟩⟩⟩⟩⟩⟩⟩⟩⟩⟩⟩⟩⟩⟩⟩⟩⟩⟩⟩⟩⟩⟩⟩⟩⟩⟩⟩⟩⟩⟩⟩⟩
  · exact x_iconst_ok (show decode cX9_keepPast 0 = .ok (.iconst 0, 1) by decide +kernel) (by decide)
  · exact x_istore_n_ok (show decode cX9_keepPast 1 = .ok (.istore_n 1, 1) by decide +kernel) rfl (by decide)
  · exact x_iload_n_ok (show decode cX9_keepPast 2 = .ok (.iload_n 1, 1) by decide +kernel) rfl
  · exact x_bipush_ok (show decode cX9_keepPast 3 = .ok (.bipush 9, 2) by decide +kernel) (by decide)
  · exact x_cmpge_ok (show decode cX9_keepPast 5 = .ok (.if_icmp .ge 36, 3) by decide +kernel) (by decide)
  · exact x_aload_n_ok (show decode cX9_keepPast 8 = .ok (.aload_n 0, 1) by decide +kernel) rfl
  · exact x_getR_ok (ci := 7) (k := 0) rfl (by decide) (by decide) hw_844 (show decode cX9_keepPast 9 = .ok (.getfield 7, 3) by decide +kernel)
  · exact x_bipush_ok (show decode cX9_keepPast 12 = .ok (.bipush 66, 2) by decide +kernel) (by decide)
  · exact x_bipush_ok (show decode cX9_keepPast 14 = .ok (.bipush 9, 2) by decide +kernel) (by decide)
  · exact x_aload_n_ok (show decode cX9_keepPast 16 = .ok (.aload_n 0, 1) by decide +kernel) rfl
  · exact x_getR_ok (ci := 7) (k := 0) rfl (by decide) (by decide) hw_844 (show decode cX9_keepPast 17 = .ok (.getfield 7, 3) by decide +kernel)
  · exact x_iconst_ok (show decode cX9_keepPast 20 = .ok (.iconst 0, 1) by decide +kernel) (by decide)
  · exact x_iald_ok (show decode cX9_keepPast 21 = .ok (.iaload, 1) by decide +kernel)
  · exact x_imul_ok (show decode cX9_keepPast 22 = .ok (.imul, 1) by decide +kernel)
  · exact x_iadd_ok (show decode cX9_keepPast 23 = .ok (.iadd, 1) by decide +kernel)
  · exact x_iload_n_ok (show decode cX9_keepPast 24 = .ok (.iload_n 1, 1) by decide +kernel) rfl
  · exact x_iadd_ok (show decode cX9_keepPast 25 = .ok (.iadd, 1) by decide +kernel)
  · exact x_aload_n_ok (show decode cX9_keepPast 26 = .ok (.aload_n 0, 1) by decide +kernel) rfl
  · exact x_getR_ok (ci := 7) (k := 0) rfl (by decide) (by decide) hw_844 (show decode cX9_keepPast 27 = .ok (.getfield 7, 3) by decide +kernel)
  · exact x_iconst_ok (show decode cX9_keepPast 30 = .ok (.iconst 1, 1) by decide +kernel) (by decide)
  · exact x_iload_n_ok (show decode cX9_keepPast 31 = .ok (.iload_n 1, 1) by decide +kernel) rfl
  · exact x_iadd_ok (show decode cX9_keepPast 32 = .ok (.iadd, 1) by decide +kernel)
  · exact x_iald_ok (show decode cX9_keepPast 33 = .ok (.iaload, 1) by decide +kernel)
  · exact x_iast_ok (show decode cX9_keepPast 34 = .ok (.iastore, 1) by decide +kernel)
  · exact x_iinc_ok (show decode cX9_keepPast 35 = .ok (.iinc 1 1, 3) by decide +kernel) (by decide) (by decide)
  · exact x_goto_ok (show decode cX9_keepPast 38 = .ok (.goto (-36), 3) by decide +kernel) (by decide)
  · exact x_aload_n_ok (show decode cX9_keepPast 41 = .ok (.aload_n 0, 1) by decide +kernel) rfl
  · exact x_getR_ok (ci := 7) (k := 0) rfl (by decide) (by decide) hw_844 (show decode cX9_keepPast 42 = .ok (.getfield 7, 3) by decide +kernel)
  · exact x_iconst_ok (show decode cX9_keepPast 45 = .ok (.iconst 0, 1) by decide +kernel) (by decide)
  · exact x_dup2_ok (show decode cX9_keepPast 46 = .ok (.dup2, 1) by decide +kernel)
  · exact x_iald_ok (show decode cX9_keepPast 47 = .ok (.iaload, 1) by decide +kernel)
  · exact x_iconst_ok (show decode cX9_keepPast 48 = .ok (.iconst 1, 1) by decide +kernel) (by decide)
  · exact x_iadd_ok (show decode cX9_keepPast 49 = .ok (.iadd, 1) by decide +kernel)
  · exact x_iast_ok (show decode cX9_keepPast 50 = .ok (.iastore, 1) by decide +kernel)
  · exact x_vret_ok (show decode cX9_keepPast 51 = .ok (.return_, 1) by decide +kernel)
noncomputable def FX9_keepPast : List Value → xS → Option xR := xden tX9_keepPast 2 none 0
theorem sX9_keepPast (l : Launch) : xSound l yX9_keepPast cX9_keepPast 2 none 1 0 FX9_keepPast := x_den (by decide) (tX9_keepPast_ok l)
noncomputable def tX9_say : List (Nat × xO) := [(0, x_iload 1 1), (1, x_call 0 1 FX9_isKind), (4, x_ifeq 34), (7, x_iload 2 1), (8, x_call 0 1 FX9_isShade), (11, x_ifeq 34), (14, x_iload 3 1), (15, x_i2l), (16, x_push (.long 0) 1), (17, x_push (.long 9) 3), (20, x_call 0 3 FX9_in), (23, x_ifeq 34), (26, x_iload 4 2), (28, x_call 0 1 FX9_isPerson), (31, x_ifne 36), (34, x_push (.int (-1)) 1), (35, x_iret), (36, x_aload 0 1), (37, x_getR 7 0), (40, x_push (.int (nI 1)) 1), (41, x_iald), (42, x_ifeq 53), (45, x_aload 0 1), (46, x_iload 2 1), (47, x_callV 7 0 2 FX9_reaching), (50, x_ifeq 56), (53, x_push (.int (-4)) 2), (55, x_iret), (56, x_aload 0 1), (57, x_getR 7 0), (60, x_push (.int (nI 1)) 1), (61, x_iald), (62, x_push (.int (nI 8)) 2), (64, x_cmpeq 78), (67, x_aload 0 1), (68, x_getR 7 0), (71, x_push (.int (nI 0)) 1), (72, x_iald), (73, x_push (.int (nI 40)) 2), (75, x_cmpne 81), (78, x_push (.int (-2)) 2), (80, x_iret), (81, x_aload 0 1), (82, x_callV 7 0 1 FX9_keepPast), (85, x_aload 0 1), (86, x_getR 7 0), (89, x_push (.int (nI 1)) 1), (90, x_iald), (91, x_istore 5 2), (93, x_push (.int (nI 10)) 2), (95, x_push (.int (nI 7)) 2), (97, x_iload 5 2), (99, x_ii (fun x y => x * y)), (100, x_ii (fun x y => x + y)), (101, x_istore 6 2), (103, x_aload 0 1), (104, x_getR 7 0), (107, x_push (.int (nI 2)) 1), (108, x_iload 5 2), (110, x_ii (fun x y => x + y)), (111, x_iload 2 1), (112, x_push (.int (nI 36)) 2), (114, x_idiv), (115, x_iast), (116, x_aload 0 1), (117, x_getR 7 0), (120, x_iload 6 2), (122, x_push (.int (nI 0)) 1), (123, x_ii (fun x y => x + y)), (124, x_iload 1 1), (125, x_iast), (126, x_aload 0 1), (127, x_getR 7 0), (130, x_iload 6 2), (132, x_push (.int (nI 1)) 1), (133, x_ii (fun x y => x + y)), (134, x_iload 2 1), (135, x_push (.int (nI 6)) 2), (137, x_idiv), (138, x_push (.int (nI 6)) 2), (140, x_irem), (141, x_iast), (142, x_aload 0 1), (143, x_getR 7 0), (146, x_iload 6 2), (148, x_push (.int (nI 2)) 1), (149, x_ii (fun x y => x + y)), (150, x_iload 2 1), (151, x_push (.int (nI 6)) 2), (153, x_irem), (154, x_iast), (155, x_aload 0 1), (156, x_getR 7 0), (159, x_iload 6 2), (161, x_push (.int (nI 3)) 1), (162, x_ii (fun x y => x + y)), (163, x_iload 3 1), (164, x_iast), (165, x_aload 0 1), (166, x_getR 7 0), (169, x_iload 6 2), (171, x_push (.int (nI 4)) 1), (172, x_ii (fun x y => x + y)), (173, x_iload 4 2), (175, x_iast), (176, x_aload 0 1), (177, x_getR 7 0), (180, x_iload 6 2), (182, x_push (.int (nI 5)) 1), (183, x_ii (fun x y => x + y)), (184, x_push (.int (nI 1)) 1), (185, x_iast), (186, x_aload 0 1), (187, x_getR 7 0), (190, x_iload 6 2), (192, x_push (.int (nI 6)) 2), (194, x_ii (fun x y => x + y)), (195, x_push (.int (nI 0)) 1), (196, x_iast), (197, x_aload 0 1), (198, x_getR 7 0), (201, x_push (.int (nI 1)) 1), (202, x_dup2), (203, x_iald), (204, x_push (.int (nI 1)) 1), (205, x_ii (fun x y => x + y)), (206, x_iast), (207, x_iload 5 2), (209, x_iret)]
set_option maxRecDepth 100000 in
theorem tX9_say_ok (l : Launch) : ∀ q ∈ tX9_say, xOK l cX9_say RX9 7 6 0 (yX9_say.name = "<init>") q.1 q.2 := by
  unfold tX9_say
  refine List.forall_mem_cons.mpr ⟨?_, List.forall_mem_cons.mpr ⟨?_, List.forall_mem_cons.mpr ⟨?_, List.forall_mem_cons.mpr ⟨?_, List.forall_mem_cons.mpr ⟨?_, List.forall_mem_cons.mpr ⟨?_, List.forall_mem_cons.mpr ⟨?_, List.forall_mem_cons.mpr ⟨?_, List.forall_mem_cons.mpr ⟨?_, List.forall_mem_cons.mpr ⟨?_, List.forall_mem_cons.mpr ⟨?_, List.forall_mem_cons.mpr ⟨?_, List.forall_mem_cons.mpr ⟨?_, List.forall_mem_cons.mpr ⟨?_, List.forall_mem_cons.mpr ⟨?_, List.forall_mem_cons.mpr ⟨?_, List.forall_mem_cons.mpr ⟨?_, List.forall_mem_cons.mpr ⟨?_, List.forall_mem_cons.mpr ⟨?_, List.forall_mem_cons.mpr ⟨?_, List.forall_mem_cons.mpr ⟨?_, List.forall_mem_cons.mpr ⟨?_, List.forall_mem_cons.mpr ⟨?_, List.forall_mem_cons.mpr ⟨?_, List.forall_mem_cons.mpr ⟨?_, List.forall_mem_cons.mpr ⟨?_, List.forall_mem_cons.mpr ⟨?_, List.forall_mem_cons.mpr ⟨?_, List.forall_mem_cons.mpr ⟨?_, List.forall_mem_cons.mpr ⟨?_, List.forall_mem_cons.mpr ⟨?_, List.forall_mem_cons.mpr ⟨?_, List.forall_mem_cons.mpr ⟨?_, List.forall_mem_cons.mpr ⟨?_, List.forall_mem_cons.mpr ⟨?_, List.forall_mem_cons.mpr ⟨?_, List.forall_mem_cons.mpr ⟨?_, List.forall_mem_cons.mpr ⟨?_, List.forall_mem_cons.mpr ⟨?_, List.forall_mem_cons.mpr ⟨?_, List.forall_mem_cons.mpr ⟨?_, List.forall_mem_cons.mpr ⟨?_, List.forall_mem_cons.mpr ⟨?_, List.forall_mem_cons.mpr ⟨?_, List.forall_mem_cons.mpr ⟨?_, List.forall_mem_cons.mpr ⟨?_, List.forall_mem_cons.mpr ⟨?_, List.forall_mem_cons.mpr ⟨?_, List.forall_mem_cons.mpr ⟨?_, List.forall_mem_cons.mpr ⟨?_, List.forall_mem_cons.mpr ⟨?_, List.forall_mem_cons.mpr ⟨?_, List.forall_mem_cons.mpr ⟨?_, List.forall_mem_cons.mpr ⟨?_, List.forall_mem_cons.mpr ⟨?_, List.forall_mem_cons.mpr ⟨?_, List.forall_mem_cons.mpr ⟨?_, List.forall_mem_cons.mpr ⟨?_, List.forall_mem_cons.mpr ⟨?_, List.forall_mem_cons.mpr ⟨?_, List.forall_mem_cons.mpr ⟨?_, List.forall_mem_cons.mpr ⟨?_, List.forall_mem_cons.mpr ⟨?_, List.forall_mem_cons.mpr ⟨?_, List.forall_mem_cons.mpr ⟨?_, List.forall_mem_cons.mpr ⟨?_, List.forall_mem_cons.mpr ⟨?_, List.forall_mem_cons.mpr ⟨?_, List.forall_mem_cons.mpr ⟨?_, List.forall_mem_cons.mpr ⟨?_, List.forall_mem_cons.mpr ⟨?_, List.forall_mem_cons.mpr ⟨?_, List.forall_mem_cons.mpr ⟨?_, List.forall_mem_cons.mpr ⟨?_, List.forall_mem_cons.mpr ⟨?_, List.forall_mem_cons.mpr ⟨?_, List.forall_mem_cons.mpr ⟨?_, List.forall_mem_cons.mpr ⟨?_, List.forall_mem_cons.mpr ⟨?_, List.forall_mem_cons.mpr ⟨?_, List.forall_mem_cons.mpr ⟨?_, List.forall_mem_cons.mpr ⟨?_, List.forall_mem_cons.mpr ⟨?_, List.forall_mem_cons.mpr ⟨?_, List.forall_mem_cons.mpr ⟨?_, List.forall_mem_cons.mpr ⟨?_, List.forall_mem_cons.mpr ⟨?_, List.forall_mem_cons.mpr ⟨?_, List.forall_mem_cons.mpr ⟨?_, List.forall_mem_cons.mpr ⟨?_, List.forall_mem_cons.mpr ⟨?_, List.forall_mem_cons.mpr ⟨?_, List.forall_mem_cons.mpr ⟨?_, List.forall_mem_cons.mpr ⟨?_, List.forall_mem_cons.mpr ⟨?_, List.forall_mem_cons.mpr ⟨?_, List.forall_mem_cons.mpr ⟨?_, List.forall_mem_cons.mpr ⟨?_, List.forall_mem_cons.mpr ⟨?_, List.forall_mem_cons.mpr ⟨?_, List.forall_mem_cons.mpr ⟨?_, List.forall_mem_cons.mpr ⟨?_, List.forall_mem_cons.mpr ⟨?_, List.forall_mem_cons.mpr ⟨?_, List.forall_mem_cons.mpr ⟨?_, List.forall_mem_cons.mpr ⟨?_, List.forall_mem_cons.mpr ⟨?_, List.forall_mem_cons.mpr ⟨?_, List.forall_mem_cons.mpr ⟨?_, List.forall_mem_cons.mpr ⟨?_, List.forall_mem_cons.mpr ⟨?_, List.forall_mem_cons.mpr ⟨?_, List.forall_mem_cons.mpr ⟨?_, List.forall_mem_cons.mpr ⟨?_, List.forall_mem_cons.mpr ⟨?_, List.forall_mem_cons.mpr ⟨?_, List.forall_mem_cons.mpr ⟨?_, List.forall_mem_cons.mpr ⟨?_, List.forall_mem_cons.mpr ⟨?_, List.forall_mem_cons.mpr ⟨?_, List.forall_mem_cons.mpr ⟨?_, List.forall_mem_cons.mpr ⟨?_, List.forall_mem_cons.mpr ⟨?_, List.forall_mem_cons.mpr ⟨?_, List.forall_mem_cons.mpr ⟨?_, List.forall_mem_cons.mpr ⟨?_, List.forall_mem_cons.mpr ⟨?_, List.forall_mem_cons.mpr ⟨?_, List.forall_mem_cons.mpr ⟨?_, fun _ h => absurd h List.not_mem_nil⟩⟩⟩⟩⟩⟩⟩⟩⟩⟩⟩⟩⟩⟩⟩⟩⟩⟩⟩⟩⟩⟩⟩⟩⟩⟩⟩⟩⟩⟩⟩⟩⟩⟩⟩⟩⟩⟩⟩⟩⟩⟩⟩⟩⟩⟩⟩⟩⟩⟩⟩⟩⟩⟩⟩⟩⟩⟩⟩⟩⟩⟩⟩⟩⟩⟩⟩⟩⟩⟩⟩⟩⟩⟩⟩⟩⟩⟩⟩⟩⟩⟩⟩⟩⟩⟩⟩⟩⟩⟩⟩⟩⟩⟩⟩⟩⟩⟩⟩⟩⟩⟩⟩⟩⟩⟩⟩⟩⟩⟩⟩⟩⟩⟩⟩⟩⟩⟩⟩⟩⟩⟩⟩⟩⟩⟩⟩⟩⟩
  · exact x_iload_n_ok (show decode cX9_say 0 = .ok (.iload_n 1, 1) by decide +kernel) rfl
  · exact x_callS_ok (sX9_isKind l) hw_1092 hw_1090 hw_1091 hw_68 ⟨by decide, by decide, by decide +kernel⟩ (by decide) (by decide) (show decode cX9_say 1 = .ok (.invokestatic 195, 3) by decide +kernel)
  · exact x_ifeq_ok (show decode cX9_say 4 = .ok (.ifCond .eq 30, 3) by decide +kernel) (by decide)
  · exact x_iload_n_ok (show decode cX9_say 7 = .ok (.iload_n 2, 1) by decide +kernel) rfl
  · exact x_callS_ok (sX9_isShade l) hw_1095 hw_1093 hw_1094 hw_68 ⟨by decide, by decide, by decide +kernel⟩ (by decide) (by decide) (show decode cX9_say 8 = .ok (.invokestatic 198, 3) by decide +kernel)
  · exact x_ifeq_ok (show decode cX9_say 11 = .ok (.ifCond .eq 23, 3) by decide +kernel) (by decide)
  · exact x_iload_n_ok (show decode cX9_say 14 = .ok (.iload_n 3, 1) by decide +kernel) rfl
  · exact x_i2l_ok (show decode cX9_say 15 = .ok (.i2l, 1) by decide +kernel)
  · exact x_lconst_ok (show decode cX9_say 16 = .ok (.lconst 0, 1) by decide +kernel) rfl
  · exact x_ldc2_ok (show decode cX9_say 17 = .ok (.ldc2_w 193, 3) by decide +kernel) hw_1085
  · exact x_callS_ok (sX9_in l) hw_918 hw_916 hw_917 hw_68 ⟨by decide, by decide, by decide +kernel⟩ (by decide) (by decide) (show decode cX9_say 20 = .ok (.invokestatic 60, 3) by decide +kernel)
  · exact x_ifeq_ok (show decode cX9_say 23 = .ok (.ifCond .eq 11, 3) by decide +kernel) (by decide)
  · exact x_iload_ok (show decode cX9_say 26 = .ok (.iload 4, 2) by decide +kernel)
  · exact x_callS_ok (sX9_isPerson l) hw_1099 hw_1097 hw_1098 hw_68 ⟨by decide, by decide, by decide +kernel⟩ (by decide) (by decide) (show decode cX9_say 28 = .ok (.invokestatic 201, 3) by decide +kernel)
  · exact x_ifne_ok (show decode cX9_say 31 = .ok (.ifCond .ne 5, 3) by decide +kernel) (by decide)
  · exact x_iconst_ok (show decode cX9_say 34 = .ok (.iconst (-1), 1) by decide +kernel) (by decide)
  · exact x_iret_ok (show decode cX9_say 35 = .ok (.ireturn, 1) by decide +kernel)
  · exact x_aload_n_ok (show decode cX9_say 36 = .ok (.aload_n 0, 1) by decide +kernel) rfl
  · exact x_getR_ok (ci := 7) (k := 0) rfl (by decide) (by decide) hw_844 (show decode cX9_say 37 = .ok (.getfield 7, 3) by decide +kernel)
  · exact x_iconst_ok (show decode cX9_say 40 = .ok (.iconst 1, 1) by decide +kernel) (by decide)
  · exact x_iald_ok (show decode cX9_say 41 = .ok (.iaload, 1) by decide +kernel)
  · exact x_ifeq_ok (show decode cX9_say 42 = .ok (.ifCond .eq 11, 3) by decide +kernel) (by decide)
  · exact x_aload_n_ok (show decode cX9_say 45 = .ok (.aload_n 0, 1) by decide +kernel) rfl
  · exact x_iload_n_ok (show decode cX9_say 46 = .ok (.iload_n 2, 1) by decide +kernel) rfl
  · exact x_callV_ok (ci := 7) rfl (by decide) (sX9_reaching l) hw_1058 hw_1055 hw_1057 hw_35 hw_68 ⟨by decide, by decide, by decide +kernel⟩ rfl (by decide) (by decide) (show decode cX9_say 47 = .ok (.invokevirtual 158, 3) by decide +kernel)
  · exact x_ifeq_ok (show decode cX9_say 50 = .ok (.ifCond .eq 6, 3) by decide +kernel) (by decide)
  · exact x_bipush_ok (show decode cX9_say 53 = .ok (.bipush (-4), 2) by decide +kernel) (by decide)
  · exact x_iret_ok (show decode cX9_say 55 = .ok (.ireturn, 1) by decide +kernel)
  · exact x_aload_n_ok (show decode cX9_say 56 = .ok (.aload_n 0, 1) by decide +kernel) rfl
  · exact x_getR_ok (ci := 7) (k := 0) rfl (by decide) (by decide) hw_844 (show decode cX9_say 57 = .ok (.getfield 7, 3) by decide +kernel)
  · exact x_iconst_ok (show decode cX9_say 60 = .ok (.iconst 1, 1) by decide +kernel) (by decide)
  · exact x_iald_ok (show decode cX9_say 61 = .ok (.iaload, 1) by decide +kernel)
  · exact x_bipush_ok (show decode cX9_say 62 = .ok (.bipush 8, 2) by decide +kernel) (by decide)
  · exact x_cmpeq_ok (show decode cX9_say 64 = .ok (.if_icmp .eq 14, 3) by decide +kernel) (by decide)
  · exact x_aload_n_ok (show decode cX9_say 67 = .ok (.aload_n 0, 1) by decide +kernel) rfl
  · exact x_getR_ok (ci := 7) (k := 0) rfl (by decide) (by decide) hw_844 (show decode cX9_say 68 = .ok (.getfield 7, 3) by decide +kernel)
  · exact x_iconst_ok (show decode cX9_say 71 = .ok (.iconst 0, 1) by decide +kernel) (by decide)
  · exact x_iald_ok (show decode cX9_say 72 = .ok (.iaload, 1) by decide +kernel)
  · exact x_bipush_ok (show decode cX9_say 73 = .ok (.bipush 40, 2) by decide +kernel) (by decide)
  · exact x_cmpne_ok (show decode cX9_say 75 = .ok (.if_icmp .ne 6, 3) by decide +kernel) (by decide)
  · exact x_bipush_ok (show decode cX9_say 78 = .ok (.bipush (-2), 2) by decide +kernel) (by decide)
  · exact x_iret_ok (show decode cX9_say 80 = .ok (.ireturn, 1) by decide +kernel)
  · exact x_aload_n_ok (show decode cX9_say 81 = .ok (.aload_n 0, 1) by decide +kernel) rfl
  · exact x_callV_ok (ci := 7) rfl (by decide) (sX9_keepPast l) hw_1103 hw_1100 hw_1102 hw_40 hw_68 ⟨by decide, by decide, by decide +kernel⟩ rfl (by decide) (by decide) (show decode cX9_say 82 = .ok (.invokevirtual 204, 3) by decide +kernel)
  · exact x_aload_n_ok (show decode cX9_say 85 = .ok (.aload_n 0, 1) by decide +kernel) rfl
  · exact x_getR_ok (ci := 7) (k := 0) rfl (by decide) (by decide) hw_844 (show decode cX9_say 86 = .ok (.getfield 7, 3) by decide +kernel)
  · exact x_iconst_ok (show decode cX9_say 89 = .ok (.iconst 1, 1) by decide +kernel) (by decide)
  · exact x_iald_ok (show decode cX9_say 90 = .ok (.iaload, 1) by decide +kernel)
  · exact x_istore_ok (show decode cX9_say 91 = .ok (.istore 5, 2) by decide +kernel) (by decide)
  · exact x_bipush_ok (show decode cX9_say 93 = .ok (.bipush 10, 2) by decide +kernel) (by decide)
  · exact x_bipush_ok (show decode cX9_say 95 = .ok (.bipush 7, 2) by decide +kernel) (by decide)
  · exact x_iload_ok (show decode cX9_say 97 = .ok (.iload 5, 2) by decide +kernel)
  · exact x_imul_ok (show decode cX9_say 99 = .ok (.imul, 1) by decide +kernel)
  · exact x_iadd_ok (show decode cX9_say 100 = .ok (.iadd, 1) by decide +kernel)
  · exact x_istore_ok (show decode cX9_say 101 = .ok (.istore 6, 2) by decide +kernel) (by decide)
  · exact x_aload_n_ok (show decode cX9_say 103 = .ok (.aload_n 0, 1) by decide +kernel) rfl
  · exact x_getR_ok (ci := 7) (k := 0) rfl (by decide) (by decide) hw_844 (show decode cX9_say 104 = .ok (.getfield 7, 3) by decide +kernel)
  · exact x_iconst_ok (show decode cX9_say 107 = .ok (.iconst 2, 1) by decide +kernel) (by decide)
  · exact x_iload_ok (show decode cX9_say 108 = .ok (.iload 5, 2) by decide +kernel)
  · exact x_iadd_ok (show decode cX9_say 110 = .ok (.iadd, 1) by decide +kernel)
  · exact x_iload_n_ok (show decode cX9_say 111 = .ok (.iload_n 2, 1) by decide +kernel) rfl
  · exact x_bipush_ok (show decode cX9_say 112 = .ok (.bipush 36, 2) by decide +kernel) (by decide)
  · exact x_idiv_ok (show decode cX9_say 114 = .ok (.idiv, 1) by decide +kernel)
  · exact x_iast_ok (show decode cX9_say 115 = .ok (.iastore, 1) by decide +kernel)
  · exact x_aload_n_ok (show decode cX9_say 116 = .ok (.aload_n 0, 1) by decide +kernel) rfl
  · exact x_getR_ok (ci := 7) (k := 0) rfl (by decide) (by decide) hw_844 (show decode cX9_say 117 = .ok (.getfield 7, 3) by decide +kernel)
  · exact x_iload_ok (show decode cX9_say 120 = .ok (.iload 6, 2) by decide +kernel)
  · exact x_iconst_ok (show decode cX9_say 122 = .ok (.iconst 0, 1) by decide +kernel) (by decide)
  · exact x_iadd_ok (show decode cX9_say 123 = .ok (.iadd, 1) by decide +kernel)
  · exact x_iload_n_ok (show decode cX9_say 124 = .ok (.iload_n 1, 1) by decide +kernel) rfl
  · exact x_iast_ok (show decode cX9_say 125 = .ok (.iastore, 1) by decide +kernel)
  · exact x_aload_n_ok (show decode cX9_say 126 = .ok (.aload_n 0, 1) by decide +kernel) rfl
  · exact x_getR_ok (ci := 7) (k := 0) rfl (by decide) (by decide) hw_844 (show decode cX9_say 127 = .ok (.getfield 7, 3) by decide +kernel)
  · exact x_iload_ok (show decode cX9_say 130 = .ok (.iload 6, 2) by decide +kernel)
  · exact x_iconst_ok (show decode cX9_say 132 = .ok (.iconst 1, 1) by decide +kernel) (by decide)
  · exact x_iadd_ok (show decode cX9_say 133 = .ok (.iadd, 1) by decide +kernel)
  · exact x_iload_n_ok (show decode cX9_say 134 = .ok (.iload_n 2, 1) by decide +kernel) rfl
  · exact x_bipush_ok (show decode cX9_say 135 = .ok (.bipush 6, 2) by decide +kernel) (by decide)
  · exact x_idiv_ok (show decode cX9_say 137 = .ok (.idiv, 1) by decide +kernel)
  · exact x_bipush_ok (show decode cX9_say 138 = .ok (.bipush 6, 2) by decide +kernel) (by decide)
  · exact x_irem_ok (show decode cX9_say 140 = .ok (.irem, 1) by decide +kernel)
  · exact x_iast_ok (show decode cX9_say 141 = .ok (.iastore, 1) by decide +kernel)
  · exact x_aload_n_ok (show decode cX9_say 142 = .ok (.aload_n 0, 1) by decide +kernel) rfl
  · exact x_getR_ok (ci := 7) (k := 0) rfl (by decide) (by decide) hw_844 (show decode cX9_say 143 = .ok (.getfield 7, 3) by decide +kernel)
  · exact x_iload_ok (show decode cX9_say 146 = .ok (.iload 6, 2) by decide +kernel)
  · exact x_iconst_ok (show decode cX9_say 148 = .ok (.iconst 2, 1) by decide +kernel) (by decide)
  · exact x_iadd_ok (show decode cX9_say 149 = .ok (.iadd, 1) by decide +kernel)
  · exact x_iload_n_ok (show decode cX9_say 150 = .ok (.iload_n 2, 1) by decide +kernel) rfl
  · exact x_bipush_ok (show decode cX9_say 151 = .ok (.bipush 6, 2) by decide +kernel) (by decide)
  · exact x_irem_ok (show decode cX9_say 153 = .ok (.irem, 1) by decide +kernel)
  · exact x_iast_ok (show decode cX9_say 154 = .ok (.iastore, 1) by decide +kernel)
  · exact x_aload_n_ok (show decode cX9_say 155 = .ok (.aload_n 0, 1) by decide +kernel) rfl
  · exact x_getR_ok (ci := 7) (k := 0) rfl (by decide) (by decide) hw_844 (show decode cX9_say 156 = .ok (.getfield 7, 3) by decide +kernel)
  · exact x_iload_ok (show decode cX9_say 159 = .ok (.iload 6, 2) by decide +kernel)
  · exact x_iconst_ok (show decode cX9_say 161 = .ok (.iconst 3, 1) by decide +kernel) (by decide)
  · exact x_iadd_ok (show decode cX9_say 162 = .ok (.iadd, 1) by decide +kernel)
  · exact x_iload_n_ok (show decode cX9_say 163 = .ok (.iload_n 3, 1) by decide +kernel) rfl
  · exact x_iast_ok (show decode cX9_say 164 = .ok (.iastore, 1) by decide +kernel)
  · exact x_aload_n_ok (show decode cX9_say 165 = .ok (.aload_n 0, 1) by decide +kernel) rfl
  · exact x_getR_ok (ci := 7) (k := 0) rfl (by decide) (by decide) hw_844 (show decode cX9_say 166 = .ok (.getfield 7, 3) by decide +kernel)
  · exact x_iload_ok (show decode cX9_say 169 = .ok (.iload 6, 2) by decide +kernel)
  · exact x_iconst_ok (show decode cX9_say 171 = .ok (.iconst 4, 1) by decide +kernel) (by decide)
  · exact x_iadd_ok (show decode cX9_say 172 = .ok (.iadd, 1) by decide +kernel)
  · exact x_iload_ok (show decode cX9_say 173 = .ok (.iload 4, 2) by decide +kernel)
  · exact x_iast_ok (show decode cX9_say 175 = .ok (.iastore, 1) by decide +kernel)
  · exact x_aload_n_ok (show decode cX9_say 176 = .ok (.aload_n 0, 1) by decide +kernel) rfl
  · exact x_getR_ok (ci := 7) (k := 0) rfl (by decide) (by decide) hw_844 (show decode cX9_say 177 = .ok (.getfield 7, 3) by decide +kernel)
  · exact x_iload_ok (show decode cX9_say 180 = .ok (.iload 6, 2) by decide +kernel)
  · exact x_iconst_ok (show decode cX9_say 182 = .ok (.iconst 5, 1) by decide +kernel) (by decide)
  · exact x_iadd_ok (show decode cX9_say 183 = .ok (.iadd, 1) by decide +kernel)
  · exact x_iconst_ok (show decode cX9_say 184 = .ok (.iconst 1, 1) by decide +kernel) (by decide)
  · exact x_iast_ok (show decode cX9_say 185 = .ok (.iastore, 1) by decide +kernel)
  · exact x_aload_n_ok (show decode cX9_say 186 = .ok (.aload_n 0, 1) by decide +kernel) rfl
  · exact x_getR_ok (ci := 7) (k := 0) rfl (by decide) (by decide) hw_844 (show decode cX9_say 187 = .ok (.getfield 7, 3) by decide +kernel)
  · exact x_iload_ok (show decode cX9_say 190 = .ok (.iload 6, 2) by decide +kernel)
  · exact x_bipush_ok (show decode cX9_say 192 = .ok (.bipush 6, 2) by decide +kernel) (by decide)
  · exact x_iadd_ok (show decode cX9_say 194 = .ok (.iadd, 1) by decide +kernel)
  · exact x_iconst_ok (show decode cX9_say 195 = .ok (.iconst 0, 1) by decide +kernel) (by decide)
  · exact x_iast_ok (show decode cX9_say 196 = .ok (.iastore, 1) by decide +kernel)
  · exact x_aload_n_ok (show decode cX9_say 197 = .ok (.aload_n 0, 1) by decide +kernel) rfl
  · exact x_getR_ok (ci := 7) (k := 0) rfl (by decide) (by decide) hw_844 (show decode cX9_say 198 = .ok (.getfield 7, 3) by decide +kernel)
  · exact x_iconst_ok (show decode cX9_say 201 = .ok (.iconst 1, 1) by decide +kernel) (by decide)
  · exact x_dup2_ok (show decode cX9_say 202 = .ok (.dup2, 1) by decide +kernel)
  · exact x_iald_ok (show decode cX9_say 203 = .ok (.iaload, 1) by decide +kernel)
  · exact x_iconst_ok (show decode cX9_say 204 = .ok (.iconst 1, 1) by decide +kernel) (by decide)
  · exact x_iadd_ok (show decode cX9_say 205 = .ok (.iadd, 1) by decide +kernel)
  · exact x_iast_ok (show decode cX9_say 206 = .ok (.iastore, 1) by decide +kernel)
  · exact x_iload_ok (show decode cX9_say 207 = .ok (.iload 5, 2) by decide +kernel)
  · exact x_iret_ok (show decode cX9_say 209 = .ok (.ireturn, 1) by decide +kernel)
noncomputable def FX9_say : List Value → xS → Option xR := xden tX9_say 7 (some .int) 0
theorem sX9_say (l : Launch) : xSound l yX9_say cX9_say 7 (some .int) 6 0 FX9_say := x_den (by decide) (tX9_say_ok l)
noncomputable def tX4_passYear : List (Nat × xO) := [(0, x_push (.int (nI 0)) 1), (1, x_istore 1 1), (2, x_push (.int (nI 0)) 1), (3, x_istore 2 1), (4, x_iload 2 1), (5, x_aload 0 1), (6, x_getI 3 1), (9, x_cmpge 36), (12, x_aload 0 1), (13, x_iload 2 1), (14, x_push (.int (nI 1)) 1), (15, x_callV 3 0 3 FX4_shadeOf), (18, x_aload 0 1), (19, x_iload 2 1), (20, x_push (.int (nI 0)) 1), (21, x_callV 3 0 3 FX4_shadeOf), (24, x_cmpeq 30), (27, x_iinc 1 (nI 1)), (30, x_iinc 2 (nI 1)), (33, x_goto 4), (36, x_aload 0 1), (37, x_getR 3 2), (40, x_aload 0 1), (41, x_getI 3 3), (44, x_push (.int (nI 0)) 1), (45, x_bastZ), (46, x_aload 0 1), (47, x_dup), (48, x_getI 3 3), (51, x_push (.int (nI 1)) 1), (52, x_ii (fun x y => x + y)), (53, x_putI 3 3), (56, x_aload 0 1), (57, x_dup), (58, x_getI 3 4), (61, x_push (.int (nI 1)) 1), (62, x_ii (fun x y => x + y)), (63, x_putI 3 4), (66, x_iload 1 1), (67, x_iret)]
set_option maxRecDepth 100000 in
theorem tX4_passYear_ok (l : Launch) : ∀ q ∈ tX4_passYear, xOK l cX4_passYear RX4 3 4 0 (yX4_passYear.name = "<init>") q.1 q.2 := by
  unfold tX4_passYear
  refine List.forall_mem_cons.mpr ⟨?_, List.forall_mem_cons.mpr ⟨?_, List.forall_mem_cons.mpr ⟨?_, List.forall_mem_cons.mpr ⟨?_, List.forall_mem_cons.mpr ⟨?_, List.forall_mem_cons.mpr ⟨?_, List.forall_mem_cons.mpr ⟨?_, List.forall_mem_cons.mpr ⟨?_, List.forall_mem_cons.mpr ⟨?_, List.forall_mem_cons.mpr ⟨?_, List.forall_mem_cons.mpr ⟨?_, List.forall_mem_cons.mpr ⟨?_, List.forall_mem_cons.mpr ⟨?_, List.forall_mem_cons.mpr ⟨?_, List.forall_mem_cons.mpr ⟨?_, List.forall_mem_cons.mpr ⟨?_, List.forall_mem_cons.mpr ⟨?_, List.forall_mem_cons.mpr ⟨?_, List.forall_mem_cons.mpr ⟨?_, List.forall_mem_cons.mpr ⟨?_, List.forall_mem_cons.mpr ⟨?_, List.forall_mem_cons.mpr ⟨?_, List.forall_mem_cons.mpr ⟨?_, List.forall_mem_cons.mpr ⟨?_, List.forall_mem_cons.mpr ⟨?_, List.forall_mem_cons.mpr ⟨?_, List.forall_mem_cons.mpr ⟨?_, List.forall_mem_cons.mpr ⟨?_, List.forall_mem_cons.mpr ⟨?_, List.forall_mem_cons.mpr ⟨?_, List.forall_mem_cons.mpr ⟨?_, List.forall_mem_cons.mpr ⟨?_, List.forall_mem_cons.mpr ⟨?_, List.forall_mem_cons.mpr ⟨?_, List.forall_mem_cons.mpr ⟨?_, List.forall_mem_cons.mpr ⟨?_, List.forall_mem_cons.mpr ⟨?_, List.forall_mem_cons.mpr ⟨?_, List.forall_mem_cons.mpr ⟨?_, List.forall_mem_cons.mpr ⟨?_, fun _ h => absurd h List.not_mem_nil⟩⟩⟩⟩⟩⟩⟩⟩⟩⟩⟩⟩⟩⟩⟩⟩⟩⟩⟩⟩⟩⟩⟩⟩⟩⟩⟩⟩⟩⟩⟩⟩⟩⟩⟩⟩⟩⟩⟩⟩
  · exact x_iconst_ok (show decode cX4_passYear 0 = .ok (.iconst 0, 1) by decide +kernel) (by decide)
  · exact x_istore_n_ok (show decode cX4_passYear 1 = .ok (.istore_n 1, 1) by decide +kernel) rfl (by decide)
  · exact x_iconst_ok (show decode cX4_passYear 2 = .ok (.iconst 0, 1) by decide +kernel) (by decide)
  · exact x_istore_n_ok (show decode cX4_passYear 3 = .ok (.istore_n 2, 1) by decide +kernel) rfl (by decide)
  · exact x_iload_n_ok (show decode cX4_passYear 4 = .ok (.iload_n 2, 1) by decide +kernel) rfl
  · exact x_aload_n_ok (show decode cX4_passYear 5 = .ok (.aload_n 0, 1) by decide +kernel) rfl
  · exact x_getI_ok (ci := 3) (k := 1) rfl (by decide) (by decide) hw_175 (show decode cX4_passYear 6 = .ok (.getfield 22, 3) by decide +kernel)
  · exact x_cmpge_ok (show decode cX4_passYear 9 = .ok (.if_icmp .ge 27, 3) by decide +kernel) (by decide)
  · exact x_aload_n_ok (show decode cX4_passYear 12 = .ok (.aload_n 0, 1) by decide +kernel) rfl
  · exact x_iload_n_ok (show decode cX4_passYear 13 = .ok (.iload_n 2, 1) by decide +kernel) rfl
  · exact x_iconst_ok (show decode cX4_passYear 14 = .ok (.iconst 1, 1) by decide +kernel) (by decide)
  · exact x_callV_ok (ci := 3) rfl (by decide) (sX4_shadeOf l) hw_453 hw_506 hw_451 hw_452 hw_64 ⟨by decide, by decide, by decide +kernel⟩ rfl (by decide) (by decide) (show decode cX4_passYear 15 = .ok (.invokevirtual 59, 3) by decide +kernel)
  · exact x_aload_n_ok (show decode cX4_passYear 18 = .ok (.aload_n 0, 1) by decide +kernel) rfl
  · exact x_iload_n_ok (show decode cX4_passYear 19 = .ok (.iload_n 2, 1) by decide +kernel) rfl
  · exact x_iconst_ok (show decode cX4_passYear 20 = .ok (.iconst 0, 1) by decide +kernel) (by decide)
  · exact x_callV_ok (ci := 3) rfl (by decide) (sX4_shadeOf l) hw_453 hw_506 hw_451 hw_452 hw_64 ⟨by decide, by decide, by decide +kernel⟩ rfl (by decide) (by decide) (show decode cX4_passYear 21 = .ok (.invokevirtual 59, 3) by decide +kernel)
  · exact x_cmpeq_ok (show decode cX4_passYear 24 = .ok (.if_icmp .eq 6, 3) by decide +kernel) (by decide)
  · exact x_iinc_ok (show decode cX4_passYear 27 = .ok (.iinc 1 1, 3) by decide +kernel) (by decide) (by decide)
  · exact x_iinc_ok (show decode cX4_passYear 30 = .ok (.iinc 2 1, 3) by decide +kernel) (by decide) (by decide)
  · exact x_goto_ok (show decode cX4_passYear 33 = .ok (.goto (-29), 3) by decide +kernel) (by decide)
  · exact x_aload_n_ok (show decode cX4_passYear 36 = .ok (.aload_n 0, 1) by decide +kernel) rfl
  · exact x_getR_ok (ci := 3) (k := 2) rfl (by decide) (by decide) hw_178 (show decode cX4_passYear 37 = .ok (.getfield 18, 3) by decide +kernel)
  · exact x_aload_n_ok (show decode cX4_passYear 40 = .ok (.aload_n 0, 1) by decide +kernel) rfl
  · exact x_getI_ok (ci := 3) (k := 3) rfl (by decide) (by decide) hw_179 (show decode cX4_passYear 41 = .ok (.getfield 26, 3) by decide +kernel)
  · exact x_iconst_ok (show decode cX4_passYear 44 = .ok (.iconst 0, 1) by decide +kernel) (by decide)
  · exact x_bastZ_ok (show decode cX4_passYear 45 = .ok (.bastore, 1) by decide +kernel)
  · exact x_aload_n_ok (show decode cX4_passYear 46 = .ok (.aload_n 0, 1) by decide +kernel) rfl
  · exact x_dup_ok (show decode cX4_passYear 47 = .ok (.dup, 1) by decide +kernel)
  · exact x_getI_ok (ci := 3) (k := 3) rfl (by decide) (by decide) hw_179 (show decode cX4_passYear 48 = .ok (.getfield 26, 3) by decide +kernel)
  · exact x_iconst_ok (show decode cX4_passYear 51 = .ok (.iconst 1, 1) by decide +kernel) (by decide)
  · exact x_iadd_ok (show decode cX4_passYear 52 = .ok (.iadd, 1) by decide +kernel)
  · exact x_putI_ok (ci := 3) (k := 3) rfl (by decide) (by decide) rfl hw_179 rfl (show decode cX4_passYear 53 = .ok (.putfield 26, 3) by decide +kernel)
  · exact x_aload_n_ok (show decode cX4_passYear 56 = .ok (.aload_n 0, 1) by decide +kernel) rfl
  · exact x_dup_ok (show decode cX4_passYear 57 = .ok (.dup, 1) by decide +kernel)
  · exact x_getI_ok (ci := 3) (k := 4) rfl (by decide) (by decide) hw_181 (show decode cX4_passYear 58 = .ok (.getfield 29, 3) by decide +kernel)
  · exact x_iconst_ok (show decode cX4_passYear 61 = .ok (.iconst 1, 1) by decide +kernel) (by decide)
  · exact x_iadd_ok (show decode cX4_passYear 62 = .ok (.iadd, 1) by decide +kernel)
  · exact x_putI_ok (ci := 3) (k := 4) rfl (by decide) (by decide) rfl hw_181 rfl (show decode cX4_passYear 63 = .ok (.putfield 29, 3) by decide +kernel)
  · exact x_iload_n_ok (show decode cX4_passYear 66 = .ok (.iload_n 1, 1) by decide +kernel) rfl
  · exact x_iret_ok (show decode cX4_passYear 67 = .ok (.ireturn, 1) by decide +kernel)
noncomputable def FX4_passYear : List Value → xS → Option xR := xden tX4_passYear 3 (some .int) 0
theorem sX4_passYear (l : Launch) : xSound l yX4_passYear cX4_passYear 3 (some .int) 4 0 FX4_passYear := x_den (by decide) (tX4_passYear_ok l)
noncomputable def tX8_year : List (Nat × xO) := [(0, x_aload 0 1), (1, x_getR 6 2), (4, x_getI 3 1), (7, x_ifne 13), (10, x_push (.int (-4)) 2), (12, x_iret), (13, x_aload 0 1), (14, x_getR 6 2), (17, x_getI 3 3), (20, x_push (.int (nI 40)) 2), (22, x_cmplt 28), (25, x_push (.int (-2)) 2), (27, x_iret), (28, x_aload 0 1), (29, x_getR 6 2), (32, x_callV 3 0 1 FX4_passYear), (35, x_iret)]
set_option maxRecDepth 100000 in
theorem tX8_year_ok (l : Launch) : ∀ q ∈ tX8_year, xOK l cX8_year RX8 1 5 0 (yX8_year.name = "<init>") q.1 q.2 := by
  unfold tX8_year
  refine List.forall_mem_cons.mpr ⟨?_, List.forall_mem_cons.mpr ⟨?_, List.forall_mem_cons.mpr ⟨?_, List.forall_mem_cons.mpr ⟨?_, List.forall_mem_cons.mpr ⟨?_, List.forall_mem_cons.mpr ⟨?_, List.forall_mem_cons.mpr ⟨?_, List.forall_mem_cons.mpr ⟨?_, List.forall_mem_cons.mpr ⟨?_, List.forall_mem_cons.mpr ⟨?_, List.forall_mem_cons.mpr ⟨?_, List.forall_mem_cons.mpr ⟨?_, List.forall_mem_cons.mpr ⟨?_, List.forall_mem_cons.mpr ⟨?_, List.forall_mem_cons.mpr ⟨?_, List.forall_mem_cons.mpr ⟨?_, List.forall_mem_cons.mpr ⟨?_, fun _ h => absurd h List.not_mem_nil⟩⟩⟩⟩⟩⟩⟩⟩⟩⟩⟩⟩⟩⟩⟩⟩⟩
  · exact x_aload_n_ok (show decode cX8_year 0 = .ok (.aload_n 0, 1) by decide +kernel) rfl
  · exact x_getR_ok (ci := 6) (k := 2) rfl (by decide) (by decide) hw_224 (show decode cX8_year 1 = .ok (.getfield 26, 3) by decide +kernel)
  · exact x_getI_ok (ci := 3) (k := 1) rfl (by decide) (by decide) hw_177 (show decode cX8_year 4 = .ok (.getfield 133, 3) by decide +kernel)
  · exact x_ifne_ok (show decode cX8_year 7 = .ok (.ifCond .ne 6, 3) by decide +kernel) (by decide)
  · exact x_bipush_ok (show decode cX8_year 10 = .ok (.bipush (-4), 2) by decide +kernel) (by decide)
  · exact x_iret_ok (show decode cX8_year 12 = .ok (.ireturn, 1) by decide +kernel)
  · exact x_aload_n_ok (show decode cX8_year 13 = .ok (.aload_n 0, 1) by decide +kernel) rfl
  · exact x_getR_ok (ci := 6) (k := 2) rfl (by decide) (by decide) hw_224 (show decode cX8_year 14 = .ok (.getfield 26, 3) by decide +kernel)
  · exact x_getI_ok (ci := 3) (k := 3) rfl (by decide) (by decide) hw_180 (show decode cX8_year 17 = .ok (.getfield 172, 3) by decide +kernel)
  · exact x_bipush_ok (show decode cX8_year 20 = .ok (.bipush 40, 2) by decide +kernel) (by decide)
  · exact x_cmplt_ok (show decode cX8_year 22 = .ok (.if_icmp .lt 6, 3) by decide +kernel) (by decide)
  · exact x_bipush_ok (show decode cX8_year 25 = .ok (.bipush (-2), 2) by decide +kernel) (by decide)
  · exact x_iret_ok (show decode cX8_year 27 = .ok (.ireturn, 1) by decide +kernel)
  · exact x_aload_n_ok (show decode cX8_year 28 = .ok (.aload_n 0, 1) by decide +kernel) rfl
  · exact x_getR_ok (ci := 6) (k := 2) rfl (by decide) (by decide) hw_224 (show decode cX8_year 29 = .ok (.getfield 26, 3) by decide +kernel)
  · exact x_callV_ok (ci := 3) rfl (by decide) (sX4_passYear l) hw_547 hw_544 hw_545 hw_546 hw_64 ⟨by decide, by decide, by decide +kernel⟩ rfl (by decide) (by decide) (show decode cX8_year 32 = .ok (.invokevirtual 179, 3) by decide +kernel)
  · exact x_iret_ok (show decode cX8_year 35 = .ok (.ireturn, 1) by decide +kernel)
noncomputable def FX8_year : List Value → xS → Option xR := xden tX8_year 1 (some .int) 0
theorem sX8_year (l : Launch) : xSound l yX8_year cX8_year 1 (some .int) 5 0 FX8_year := x_den (by decide) (tX8_year_ok l)
noncomputable def tX9_year : List (Nat × xO) := [(0, x_aload 0 1), (1, x_getR 7 0), (4, x_push (.int (nI 1)) 1), (5, x_iald), (6, x_ifne 12), (9, x_push (.int (-4)) 2), (11, x_iret), (12, x_aload 0 1), (13, x_getR 7 0), (16, x_push (.int (nI 0)) 1), (17, x_iald), (18, x_push (.int (nI 40)) 2), (20, x_cmpne 26), (23, x_push (.int (-2)) 2), (25, x_iret), (26, x_aload 0 1), (27, x_callV 7 0 1 FX9_keepPast), (30, x_push (.int (nI 0)) 1), (31, x_istore 1 1), (32, x_push (.int (nI 0)) 1), (33, x_istore 2 1), (34, x_iload 2 1), (35, x_aload 0 1), (36, x_getR 7 0), (39, x_push (.int (nI 1)) 1), (40, x_iald), (41, x_cmpge 87), (44, x_aload 0 1), (45, x_iload 2 1), (46, x_push (.int (nI 6)) 2), (48, x_callV 7 0 3 FX9_of), (51, x_push (.int (nI 1)) 1), (52, x_cmpne 81), (55, x_aload 0 1), (56, x_getR 7 0), (59, x_push (.int (nI 2)) 1), (60, x_iload 2 1), (61, x_ii (fun x y => x + y)), (62, x_iald), (63, x_ifle 81), (66, x_aload 0 1), (67, x_getR 7 0), (70, x_push (.int (nI 2)) 1), (71, x_iload 2 1), (72, x_ii (fun x y => x + y)), (73, x_dup2), (74, x_iald), (75, x_push (.int (nI 1)) 1), (76, x_ii (fun x y => x - y)), (77, x_iast), (78, x_iinc 1 (nI 1)), (81, x_iinc 2 (nI 1)), (84, x_goto 34), (87, x_iload 1 1), (88, x_iret)]
set_option maxRecDepth 100000 in
theorem tX9_year_ok (l : Launch) : ∀ q ∈ tX9_year, xOK l cX9_year RX9 3 2 0 (yX9_year.name = "<init>") q.1 q.2 := by
  unfold tX9_year
  refine List.forall_mem_cons.mpr ⟨?_, List.forall_mem_cons.mpr ⟨?_, List.forall_mem_cons.mpr ⟨?_, List.forall_mem_cons.mpr ⟨?_, List.forall_mem_cons.mpr ⟨?_, List.forall_mem_cons.mpr ⟨?_, List.forall_mem_cons.mpr ⟨?_, List.forall_mem_cons.mpr ⟨?_, List.forall_mem_cons.mpr ⟨?_, List.forall_mem_cons.mpr ⟨?_, List.forall_mem_cons.mpr ⟨?_, List.forall_mem_cons.mpr ⟨?_, List.forall_mem_cons.mpr ⟨?_, List.forall_mem_cons.mpr ⟨?_, List.forall_mem_cons.mpr ⟨?_, List.forall_mem_cons.mpr ⟨?_, List.forall_mem_cons.mpr ⟨?_, List.forall_mem_cons.mpr ⟨?_, List.forall_mem_cons.mpr ⟨?_, List.forall_mem_cons.mpr ⟨?_, List.forall_mem_cons.mpr ⟨?_, List.forall_mem_cons.mpr ⟨?_, List.forall_mem_cons.mpr ⟨?_, List.forall_mem_cons.mpr ⟨?_, List.forall_mem_cons.mpr ⟨?_, List.forall_mem_cons.mpr ⟨?_, List.forall_mem_cons.mpr ⟨?_, List.forall_mem_cons.mpr ⟨?_, List.forall_mem_cons.mpr ⟨?_, List.forall_mem_cons.mpr ⟨?_, List.forall_mem_cons.mpr ⟨?_, List.forall_mem_cons.mpr ⟨?_, List.forall_mem_cons.mpr ⟨?_, List.forall_mem_cons.mpr ⟨?_, List.forall_mem_cons.mpr ⟨?_, List.forall_mem_cons.mpr ⟨?_, List.forall_mem_cons.mpr ⟨?_, List.forall_mem_cons.mpr ⟨?_, List.forall_mem_cons.mpr ⟨?_, List.forall_mem_cons.mpr ⟨?_, List.forall_mem_cons.mpr ⟨?_, List.forall_mem_cons.mpr ⟨?_, List.forall_mem_cons.mpr ⟨?_, List.forall_mem_cons.mpr ⟨?_, List.forall_mem_cons.mpr ⟨?_, List.forall_mem_cons.mpr ⟨?_, List.forall_mem_cons.mpr ⟨?_, List.forall_mem_cons.mpr ⟨?_, List.forall_mem_cons.mpr ⟨?_, List.forall_mem_cons.mpr ⟨?_, List.forall_mem_cons.mpr ⟨?_, List.forall_mem_cons.mpr ⟨?_, List.forall_mem_cons.mpr ⟨?_, List.forall_mem_cons.mpr ⟨?_, List.forall_mem_cons.mpr ⟨?_, fun _ h => absurd h List.not_mem_nil⟩⟩⟩⟩⟩⟩⟩⟩⟩⟩⟩⟩⟩⟩⟩⟩⟩⟩⟩⟩⟩⟩⟩⟩⟩⟩⟩⟩⟩⟩⟩⟩⟩⟩⟩⟩⟩⟩⟩⟩⟩⟩⟩⟩⟩⟩⟩⟩⟩⟩⟩⟩⟩⟩⟩
  · exact x_aload_n_ok (show decode cX9_year 0 = .ok (.aload_n 0, 1) by decide +kernel) rfl
  · exact x_getR_ok (ci := 7) (k := 0) rfl (by decide) (by decide) hw_844 (show decode cX9_year 1 = .ok (.getfield 7, 3) by decide +kernel)
  · exact x_iconst_ok (show decode cX9_year 4 = .ok (.iconst 1, 1) by decide +kernel) (by decide)
  · exact x_iald_ok (show decode cX9_year 5 = .ok (.iaload, 1) by decide +kernel)
  · exact x_ifne_ok (show decode cX9_year 6 = .ok (.ifCond .ne 6, 3) by decide +kernel) (by decide)
  · exact x_bipush_ok (show decode cX9_year 9 = .ok (.bipush (-4), 2) by decide +kernel) (by decide)
  · exact x_iret_ok (show decode cX9_year 11 = .ok (.ireturn, 1) by decide +kernel)
  · exact x_aload_n_ok (show decode cX9_year 12 = .ok (.aload_n 0, 1) by decide +kernel) rfl
  · exact x_getR_ok (ci := 7) (k := 0) rfl (by decide) (by decide) hw_844 (show decode cX9_year 13 = .ok (.getfield 7, 3) by decide +kernel)
  · exact x_iconst_ok (show decode cX9_year 16 = .ok (.iconst 0, 1) by decide +kernel) (by decide)
  · exact x_iald_ok (show decode cX9_year 17 = .ok (.iaload, 1) by decide +kernel)
  · exact x_bipush_ok (show decode cX9_year 18 = .ok (.bipush 40, 2) by decide +kernel) (by decide)
  · exact x_cmpne_ok (show decode cX9_year 20 = .ok (.if_icmp .ne 6, 3) by decide +kernel) (by decide)
  · exact x_bipush_ok (show decode cX9_year 23 = .ok (.bipush (-2), 2) by decide +kernel) (by decide)
  · exact x_iret_ok (show decode cX9_year 25 = .ok (.ireturn, 1) by decide +kernel)
  · exact x_aload_n_ok (show decode cX9_year 26 = .ok (.aload_n 0, 1) by decide +kernel) rfl
  · exact x_callV_ok (ci := 7) rfl (by decide) (sX9_keepPast l) hw_1103 hw_1100 hw_1102 hw_40 hw_68 ⟨by decide, by decide, by decide +kernel⟩ rfl (by decide) (by decide) (show decode cX9_year 27 = .ok (.invokevirtual 204, 3) by decide +kernel)
  · exact x_iconst_ok (show decode cX9_year 30 = .ok (.iconst 0, 1) by decide +kernel) (by decide)
  · exact x_istore_n_ok (show decode cX9_year 31 = .ok (.istore_n 1, 1) by decide +kernel) rfl (by decide)
  · exact x_iconst_ok (show decode cX9_year 32 = .ok (.iconst 0, 1) by decide +kernel) (by decide)
  · exact x_istore_n_ok (show decode cX9_year 33 = .ok (.istore_n 2, 1) by decide +kernel) rfl (by decide)
  · exact x_iload_n_ok (show decode cX9_year 34 = .ok (.iload_n 2, 1) by decide +kernel) rfl
  · exact x_aload_n_ok (show decode cX9_year 35 = .ok (.aload_n 0, 1) by decide +kernel) rfl
  · exact x_getR_ok (ci := 7) (k := 0) rfl (by decide) (by decide) hw_844 (show decode cX9_year 36 = .ok (.getfield 7, 3) by decide +kernel)
  · exact x_iconst_ok (show decode cX9_year 39 = .ok (.iconst 1, 1) by decide +kernel) (by decide)
  · exact x_iald_ok (show decode cX9_year 40 = .ok (.iaload, 1) by decide +kernel)
  · exact x_cmpge_ok (show decode cX9_year 41 = .ok (.if_icmp .ge 46, 3) by decide +kernel) (by decide)
  · exact x_aload_n_ok (show decode cX9_year 44 = .ok (.aload_n 0, 1) by decide +kernel) rfl
  · exact x_iload_n_ok (show decode cX9_year 45 = .ok (.iload_n 2, 1) by decide +kernel) rfl
  · exact x_bipush_ok (show decode cX9_year 46 = .ok (.bipush 6, 2) by decide +kernel) (by decide)
  · exact x_callV_ok (ci := 7) rfl (by decide) (sX9_of l) hw_1019 hw_1016 hw_1018 hw_30 hw_68 ⟨by decide, by decide, by decide +kernel⟩ rfl (by decide) (by decide) (show decode cX9_year 48 = .ok (.invokevirtual 128, 3) by decide +kernel)
  · exact x_iconst_ok (show decode cX9_year 51 = .ok (.iconst 1, 1) by decide +kernel) (by decide)
  · exact x_cmpne_ok (show decode cX9_year 52 = .ok (.if_icmp .ne 29, 3) by decide +kernel) (by decide)
  · exact x_aload_n_ok (show decode cX9_year 55 = .ok (.aload_n 0, 1) by decide +kernel) rfl
  · exact x_getR_ok (ci := 7) (k := 0) rfl (by decide) (by decide) hw_844 (show decode cX9_year 56 = .ok (.getfield 7, 3) by decide +kernel)
  · exact x_iconst_ok (show decode cX9_year 59 = .ok (.iconst 2, 1) by decide +kernel) (by decide)
  · exact x_iload_n_ok (show decode cX9_year 60 = .ok (.iload_n 2, 1) by decide +kernel) rfl
  · exact x_iadd_ok (show decode cX9_year 61 = .ok (.iadd, 1) by decide +kernel)
  · exact x_iald_ok (show decode cX9_year 62 = .ok (.iaload, 1) by decide +kernel)
  · exact x_ifle_ok (show decode cX9_year 63 = .ok (.ifCond .le 18, 3) by decide +kernel) (by decide)
  · exact x_aload_n_ok (show decode cX9_year 66 = .ok (.aload_n 0, 1) by decide +kernel) rfl
  · exact x_getR_ok (ci := 7) (k := 0) rfl (by decide) (by decide) hw_844 (show decode cX9_year 67 = .ok (.getfield 7, 3) by decide +kernel)
  · exact x_iconst_ok (show decode cX9_year 70 = .ok (.iconst 2, 1) by decide +kernel) (by decide)
  · exact x_iload_n_ok (show decode cX9_year 71 = .ok (.iload_n 2, 1) by decide +kernel) rfl
  · exact x_iadd_ok (show decode cX9_year 72 = .ok (.iadd, 1) by decide +kernel)
  · exact x_dup2_ok (show decode cX9_year 73 = .ok (.dup2, 1) by decide +kernel)
  · exact x_iald_ok (show decode cX9_year 74 = .ok (.iaload, 1) by decide +kernel)
  · exact x_iconst_ok (show decode cX9_year 75 = .ok (.iconst 1, 1) by decide +kernel) (by decide)
  · exact x_isub_ok (show decode cX9_year 76 = .ok (.isub, 1) by decide +kernel)
  · exact x_iast_ok (show decode cX9_year 77 = .ok (.iastore, 1) by decide +kernel)
  · exact x_iinc_ok (show decode cX9_year 78 = .ok (.iinc 1 1, 3) by decide +kernel) (by decide) (by decide)
  · exact x_iinc_ok (show decode cX9_year 81 = .ok (.iinc 2 1, 3) by decide +kernel) (by decide) (by decide)
  · exact x_goto_ok (show decode cX9_year 84 = .ok (.goto (-50), 3) by decide +kernel) (by decide)
  · exact x_iload_n_ok (show decode cX9_year 87 = .ok (.iload_n 1, 1) by decide +kernel) rfl
  · exact x_iret_ok (show decode cX9_year 88 = .ok (.ireturn, 1) by decide +kernel)
noncomputable def FX9_year : List Value → xS → Option xR := xden tX9_year 3 (some .int) 0
theorem sX9_year (l : Launch) : xSound l yX9_year cX9_year 3 (some .int) 2 0 FX9_year := x_den (by decide) (tX9_year_ok l)
noncomputable def tX4_undoFrom : List (Nat × xO) := [(0, x_aload 0 1), (1, x_getI 3 3), (4, x_iload 1 1), (5, x_ii (fun x y => x - y)), (6, x_istore 2 1), (7, x_iload 1 1), (8, x_istore 3 1), (9, x_iload 3 1), (10, x_aload 0 1), (11, x_getI 3 3), (14, x_cmpge 55), (17, x_aload 0 1), (18, x_getR 3 2), (21, x_iload 3 1), (22, x_bald), (23, x_ifeq 39), (26, x_aload 0 1), (27, x_dup), (28, x_getI 3 1), (31, x_push (.int (nI 1)) 1), (32, x_ii (fun x y => x - y)), (33, x_putI 3 1), (36, x_goto 49), (39, x_aload 0 1), (40, x_dup), (41, x_getI 3 4), (44, x_push (.int (nI 1)) 1), (45, x_ii (fun x y => x - y)), (46, x_putI 3 4), (49, x_iinc 3 (nI 1)), (52, x_goto 9), (55, x_aload 0 1), (56, x_iload 1 1), (57, x_putI 3 3), (60, x_iload 2 1), (61, x_iret)]
set_option maxRecDepth 100000 in
theorem tX4_undoFrom_ok (l : Launch) : ∀ q ∈ tX4_undoFrom, xOK l cX4_undoFrom RX4 4 1 0 (yX4_undoFrom.name = "<init>") q.1 q.2 := by
  unfold tX4_undoFrom
  refine List.forall_mem_cons.mpr ⟨?_, List.forall_mem_cons.mpr ⟨?_, List.forall_mem_cons.mpr ⟨?_, List.forall_mem_cons.mpr ⟨?_, List.forall_mem_cons.mpr ⟨?_, List.forall_mem_cons.mpr ⟨?_, List.forall_mem_cons.mpr ⟨?_, List.forall_mem_cons.mpr ⟨?_, List.forall_mem_cons.mpr ⟨?_, List.forall_mem_cons.mpr ⟨?_, List.forall_mem_cons.mpr ⟨?_, List.forall_mem_cons.mpr ⟨?_, List.forall_mem_cons.mpr ⟨?_, List.forall_mem_cons.mpr ⟨?_, List.forall_mem_cons.mpr ⟨?_, List.forall_mem_cons.mpr ⟨?_, List.forall_mem_cons.mpr ⟨?_, List.forall_mem_cons.mpr ⟨?_, List.forall_mem_cons.mpr ⟨?_, List.forall_mem_cons.mpr ⟨?_, List.forall_mem_cons.mpr ⟨?_, List.forall_mem_cons.mpr ⟨?_, List.forall_mem_cons.mpr ⟨?_, List.forall_mem_cons.mpr ⟨?_, List.forall_mem_cons.mpr ⟨?_, List.forall_mem_cons.mpr ⟨?_, List.forall_mem_cons.mpr ⟨?_, List.forall_mem_cons.mpr ⟨?_, List.forall_mem_cons.mpr ⟨?_, List.forall_mem_cons.mpr ⟨?_, List.forall_mem_cons.mpr ⟨?_, List.forall_mem_cons.mpr ⟨?_, List.forall_mem_cons.mpr ⟨?_, List.forall_mem_cons.mpr ⟨?_, List.forall_mem_cons.mpr ⟨?_, List.forall_mem_cons.mpr ⟨?_, fun _ h => absurd h List.not_mem_nil⟩⟩⟩⟩⟩⟩⟩⟩⟩⟩⟩⟩⟩⟩⟩⟩⟩⟩⟩⟩⟩⟩⟩⟩⟩⟩⟩⟩⟩⟩⟩⟩⟩⟩⟩⟩
  · exact x_aload_n_ok (show decode cX4_undoFrom 0 = .ok (.aload_n 0, 1) by decide +kernel) rfl
  · exact x_getI_ok (ci := 3) (k := 3) rfl (by decide) (by decide) hw_179 (show decode cX4_undoFrom 1 = .ok (.getfield 26, 3) by decide +kernel)
  · exact x_iload_n_ok (show decode cX4_undoFrom 4 = .ok (.iload_n 1, 1) by decide +kernel) rfl
  · exact x_isub_ok (show decode cX4_undoFrom 5 = .ok (.isub, 1) by decide +kernel)
  · exact x_istore_n_ok (show decode cX4_undoFrom 6 = .ok (.istore_n 2, 1) by decide +kernel) rfl (by decide)
  · exact x_iload_n_ok (show decode cX4_undoFrom 7 = .ok (.iload_n 1, 1) by decide +kernel) rfl
  · exact x_istore_n_ok (show decode cX4_undoFrom 8 = .ok (.istore_n 3, 1) by decide +kernel) rfl (by decide)
  · exact x_iload_n_ok (show decode cX4_undoFrom 9 = .ok (.iload_n 3, 1) by decide +kernel) rfl
  · exact x_aload_n_ok (show decode cX4_undoFrom 10 = .ok (.aload_n 0, 1) by decide +kernel) rfl
  · exact x_getI_ok (ci := 3) (k := 3) rfl (by decide) (by decide) hw_179 (show decode cX4_undoFrom 11 = .ok (.getfield 26, 3) by decide +kernel)
  · exact x_cmpge_ok (show decode cX4_undoFrom 14 = .ok (.if_icmp .ge 41, 3) by decide +kernel) (by decide)
  · exact x_aload_n_ok (show decode cX4_undoFrom 17 = .ok (.aload_n 0, 1) by decide +kernel) rfl
  · exact x_getR_ok (ci := 3) (k := 2) rfl (by decide) (by decide) hw_178 (show decode cX4_undoFrom 18 = .ok (.getfield 18, 3) by decide +kernel)
  · exact x_iload_n_ok (show decode cX4_undoFrom 21 = .ok (.iload_n 3, 1) by decide +kernel) rfl
  · exact x_bald_ok (show decode cX4_undoFrom 22 = .ok (.baload, 1) by decide +kernel)
  · exact x_ifeq_ok (show decode cX4_undoFrom 23 = .ok (.ifCond .eq 16, 3) by decide +kernel) (by decide)
  · exact x_aload_n_ok (show decode cX4_undoFrom 26 = .ok (.aload_n 0, 1) by decide +kernel) rfl
  · exact x_dup_ok (show decode cX4_undoFrom 27 = .ok (.dup, 1) by decide +kernel)
  · exact x_getI_ok (ci := 3) (k := 1) rfl (by decide) (by decide) hw_175 (show decode cX4_undoFrom 28 = .ok (.getfield 22, 3) by decide +kernel)
  · exact x_iconst_ok (show decode cX4_undoFrom 31 = .ok (.iconst 1, 1) by decide +kernel) (by decide)
  · exact x_isub_ok (show decode cX4_undoFrom 32 = .ok (.isub, 1) by decide +kernel)
  · exact x_putI_ok (ci := 3) (k := 1) rfl (by decide) (by decide) rfl hw_175 rfl (show decode cX4_undoFrom 33 = .ok (.putfield 22, 3) by decide +kernel)
  · exact x_goto_ok (show decode cX4_undoFrom 36 = .ok (.goto 13, 3) by decide +kernel) (by decide)
  · exact x_aload_n_ok (show decode cX4_undoFrom 39 = .ok (.aload_n 0, 1) by decide +kernel) rfl
  · exact x_dup_ok (show decode cX4_undoFrom 40 = .ok (.dup, 1) by decide +kernel)
  · exact x_getI_ok (ci := 3) (k := 4) rfl (by decide) (by decide) hw_181 (show decode cX4_undoFrom 41 = .ok (.getfield 29, 3) by decide +kernel)
  · exact x_iconst_ok (show decode cX4_undoFrom 44 = .ok (.iconst 1, 1) by decide +kernel) (by decide)
  · exact x_isub_ok (show decode cX4_undoFrom 45 = .ok (.isub, 1) by decide +kernel)
  · exact x_putI_ok (ci := 3) (k := 4) rfl (by decide) (by decide) rfl hw_181 rfl (show decode cX4_undoFrom 46 = .ok (.putfield 29, 3) by decide +kernel)
  · exact x_iinc_ok (show decode cX4_undoFrom 49 = .ok (.iinc 3 1, 3) by decide +kernel) (by decide) (by decide)
  · exact x_goto_ok (show decode cX4_undoFrom 52 = .ok (.goto (-43), 3) by decide +kernel) (by decide)
  · exact x_aload_n_ok (show decode cX4_undoFrom 55 = .ok (.aload_n 0, 1) by decide +kernel) rfl
  · exact x_iload_n_ok (show decode cX4_undoFrom 56 = .ok (.iload_n 1, 1) by decide +kernel) rfl
  · exact x_putI_ok (ci := 3) (k := 3) rfl (by decide) (by decide) rfl hw_179 rfl (show decode cX4_undoFrom 57 = .ok (.putfield 26, 3) by decide +kernel)
  · exact x_iload_n_ok (show decode cX4_undoFrom 60 = .ok (.iload_n 2, 1) by decide +kernel) rfl
  · exact x_iret_ok (show decode cX4_undoFrom 61 = .ok (.ireturn, 1) by decide +kernel)
noncomputable def FX4_undoFrom : List Value → xS → Option xR := xden tX4_undoFrom 4 (some .int) 0
theorem sX4_undoFrom (l : Launch) : xSound l yX4_undoFrom cX4_undoFrom 4 (some .int) 1 0 FX4_undoFrom := x_den (by decide) (tX4_undoFrom_ok l)
noncomputable def tX8_undo : List (Nat × xO) := [(0, x_iload 1 1), (1, x_aload 0 1), (2, x_getR 6 2), (5, x_getI 3 3), (8, x_push (.int (nI 1)) 1), (9, x_ii (fun x y => x + y)), (10, x_call 0 2 FX8_among), (13, x_ifne 18), (16, x_push (.int (-1)) 1), (17, x_iret), (18, x_aload 0 1), (19, x_getR 6 2), (22, x_iload 1 1), (23, x_callV 3 0 2 FX4_undoFrom), (26, x_iret)]
set_option maxRecDepth 100000 in
theorem tX8_undo_ok (l : Launch) : ∀ q ∈ tX8_undo, xOK l cX8_undo RX8 2 2 0 (yX8_undo.name = "<init>") q.1 q.2 := by
  unfold tX8_undo
  refine List.forall_mem_cons.mpr ⟨?_, List.forall_mem_cons.mpr ⟨?_, List.forall_mem_cons.mpr ⟨?_, List.forall_mem_cons.mpr ⟨?_, List.forall_mem_cons.mpr ⟨?_, List.forall_mem_cons.mpr ⟨?_, List.forall_mem_cons.mpr ⟨?_, List.forall_mem_cons.mpr ⟨?_, List.forall_mem_cons.mpr ⟨?_, List.forall_mem_cons.mpr ⟨?_, List.forall_mem_cons.mpr ⟨?_, List.forall_mem_cons.mpr ⟨?_, List.forall_mem_cons.mpr ⟨?_, List.forall_mem_cons.mpr ⟨?_, List.forall_mem_cons.mpr ⟨?_, fun _ h => absurd h List.not_mem_nil⟩⟩⟩⟩⟩⟩⟩⟩⟩⟩⟩⟩⟩⟩⟩
  · exact x_iload_n_ok (show decode cX8_undo 0 = .ok (.iload_n 1, 1) by decide +kernel) rfl
  · exact x_aload_n_ok (show decode cX8_undo 1 = .ok (.aload_n 0, 1) by decide +kernel) rfl
  · exact x_getR_ok (ci := 6) (k := 2) rfl (by decide) (by decide) hw_224 (show decode cX8_undo 2 = .ok (.getfield 26, 3) by decide +kernel)
  · exact x_getI_ok (ci := 3) (k := 3) rfl (by decide) (by decide) hw_180 (show decode cX8_undo 5 = .ok (.getfield 172, 3) by decide +kernel)
  · exact x_iconst_ok (show decode cX8_undo 8 = .ok (.iconst 1, 1) by decide +kernel) (by decide)
  · exact x_iadd_ok (show decode cX8_undo 9 = .ok (.iadd, 1) by decide +kernel)
  · exact x_callS_ok (sX8_among l) hw_268 hw_266 hw_267 hw_61 ⟨by decide, by decide, by decide +kernel⟩ (by decide) (by decide) (show decode cX8_undo 10 = .ok (.invokestatic 65, 3) by decide +kernel)
  · exact x_ifne_ok (show decode cX8_undo 13 = .ok (.ifCond .ne 5, 3) by decide +kernel) (by decide)
  · exact x_iconst_ok (show decode cX8_undo 16 = .ok (.iconst (-1), 1) by decide +kernel) (by decide)
  · exact x_iret_ok (show decode cX8_undo 17 = .ok (.ireturn, 1) by decide +kernel)
  · exact x_aload_n_ok (show decode cX8_undo 18 = .ok (.aload_n 0, 1) by decide +kernel) rfl
  · exact x_getR_ok (ci := 6) (k := 2) rfl (by decide) (by decide) hw_224 (show decode cX8_undo 19 = .ok (.getfield 26, 3) by decide +kernel)
  · exact x_iload_n_ok (show decode cX8_undo 22 = .ok (.iload_n 1, 1) by decide +kernel) rfl
  · exact x_callV_ok (ci := 3) rfl (by decide) (sX4_undoFrom l) hw_555 hw_552 hw_553 hw_554 hw_64 ⟨by decide, by decide, by decide +kernel⟩ rfl (by decide) (by decide) (show decode cX8_undo 23 = .ok (.invokevirtual 182, 3) by decide +kernel)
  · exact x_iret_ok (show decode cX8_undo 26 = .ok (.ireturn, 1) by decide +kernel)
noncomputable def FX8_undo : List Value → xS → Option xR := xden tX8_undo 2 (some .int) 0
theorem sX8_undo (l : Launch) : xSound l yX8_undo cX8_undo 2 (some .int) 2 0 FX8_undo := x_den (by decide) (tX8_undo_ok l)
noncomputable def tX9_undo : List (Nat × xO) := [(0, x_iload 1 1), (1, x_i2l), (2, x_push (.long 0) 1), (3, x_aload 0 1), (4, x_getR 7 0), (7, x_push (.int (nI 0)) 1), (8, x_iald), (9, x_i2l), (10, x_call 0 3 FX9_in), (13, x_ifne 18), (16, x_push (.int (-1)) 1), (17, x_iret), (18, x_aload 0 1), (19, x_getR 7 0), (22, x_push (.int (nI 0)) 1), (23, x_iald), (24, x_iload 1 1), (25, x_ii (fun x y => x - y)), (26, x_istore 2 1), (27, x_push (.int (nI 0)) 1), (28, x_istore 3 1), (29, x_iload 3 1), (30, x_push (.int (nI 9)) 2), (32, x_cmpge 67), (35, x_iload 2 1), (36, x_ifle 67), (39, x_aload 0 1), (40, x_getR 7 0), (43, x_push (.int (nI 1)) 1), (44, x_iload 3 1), (45, x_ii (fun x y => x + y)), (46, x_aload 0 1), (47, x_getR 7 0), (50, x_push (.int (nI 66)) 2), (52, x_push (.int (nI 9)) 2), (54, x_iload 1 1), (55, x_ii (fun x y => x * y)), (56, x_ii (fun x y => x + y)), (57, x_iload 3 1), (58, x_ii (fun x y => x + y)), (59, x_iald), (60, x_iast), (61, x_iinc 3 (nI 1)), (64, x_goto 29), (67, x_aload 0 1), (68, x_getR 7 0), (71, x_push (.int (nI 0)) 1), (72, x_iload 1 1), (73, x_iast), (74, x_iload 2 1), (75, x_iret)]
set_option maxRecDepth 100000 in
theorem tX9_undo_ok (l : Launch) : ∀ q ∈ tX9_undo, xOK l cX9_undo RX9 4 2 0 (yX9_undo.name = "<init>") q.1 q.2 := by
  unfold tX9_undo
  refine List.forall_mem_cons.mpr ⟨?_, List.forall_mem_cons.mpr ⟨?_, List.forall_mem_cons.mpr ⟨?_, List.forall_mem_cons.mpr ⟨?_, List.forall_mem_cons.mpr ⟨?_, List.forall_mem_cons.mpr ⟨?_, List.forall_mem_cons.mpr ⟨?_, List.forall_mem_cons.mpr ⟨?_, List.forall_mem_cons.mpr ⟨?_, List.forall_mem_cons.mpr ⟨?_, List.forall_mem_cons.mpr ⟨?_, List.forall_mem_cons.mpr ⟨?_, List.forall_mem_cons.mpr ⟨?_, List.forall_mem_cons.mpr ⟨?_, List.forall_mem_cons.mpr ⟨?_, List.forall_mem_cons.mpr ⟨?_, List.forall_mem_cons.mpr ⟨?_, List.forall_mem_cons.mpr ⟨?_, List.forall_mem_cons.mpr ⟨?_, List.forall_mem_cons.mpr ⟨?_, List.forall_mem_cons.mpr ⟨?_, List.forall_mem_cons.mpr ⟨?_, List.forall_mem_cons.mpr ⟨?_, List.forall_mem_cons.mpr ⟨?_, List.forall_mem_cons.mpr ⟨?_, List.forall_mem_cons.mpr ⟨?_, List.forall_mem_cons.mpr ⟨?_, List.forall_mem_cons.mpr ⟨?_, List.forall_mem_cons.mpr ⟨?_, List.forall_mem_cons.mpr ⟨?_, List.forall_mem_cons.mpr ⟨?_, List.forall_mem_cons.mpr ⟨?_, List.forall_mem_cons.mpr ⟨?_, List.forall_mem_cons.mpr ⟨?_, List.forall_mem_cons.mpr ⟨?_, List.forall_mem_cons.mpr ⟨?_, List.forall_mem_cons.mpr ⟨?_, List.forall_mem_cons.mpr ⟨?_, List.forall_mem_cons.mpr ⟨?_, List.forall_mem_cons.mpr ⟨?_, List.forall_mem_cons.mpr ⟨?_, List.forall_mem_cons.mpr ⟨?_, List.forall_mem_cons.mpr ⟨?_, List.forall_mem_cons.mpr ⟨?_, List.forall_mem_cons.mpr ⟨?_, List.forall_mem_cons.mpr ⟨?_, List.forall_mem_cons.mpr ⟨?_, List.forall_mem_cons.mpr ⟨?_, List.forall_mem_cons.mpr ⟨?_, List.forall_mem_cons.mpr ⟨?_, List.forall_mem_cons.mpr ⟨?_, fun _ h => absurd h List.not_mem_nil⟩⟩⟩⟩⟩⟩⟩⟩⟩⟩⟩⟩⟩⟩⟩⟩⟩⟩⟩⟩⟩⟩⟩⟩⟩⟩⟩⟩⟩⟩⟩⟩⟩⟩⟩⟩⟩⟩⟩⟩⟩⟩⟩⟩⟩⟩⟩⟩⟩⟩⟩
  · exact x_iload_n_ok (show decode cX9_undo 0 = .ok (.iload_n 1, 1) by decide +kernel) rfl
  · exact x_i2l_ok (show decode cX9_undo 1 = .ok (.i2l, 1) by decide +kernel)
  · exact x_lconst_ok (show decode cX9_undo 2 = .ok (.lconst 0, 1) by decide +kernel) rfl
  · exact x_aload_n_ok (show decode cX9_undo 3 = .ok (.aload_n 0, 1) by decide +kernel) rfl
  · exact x_getR_ok (ci := 7) (k := 0) rfl (by decide) (by decide) hw_844 (show decode cX9_undo 4 = .ok (.getfield 7, 3) by decide +kernel)
  · exact x_iconst_ok (show decode cX9_undo 7 = .ok (.iconst 0, 1) by decide +kernel) (by decide)
  · exact x_iald_ok (show decode cX9_undo 8 = .ok (.iaload, 1) by decide +kernel)
  · exact x_i2l_ok (show decode cX9_undo 9 = .ok (.i2l, 1) by decide +kernel)
  · exact x_callS_ok (sX9_in l) hw_918 hw_916 hw_917 hw_68 ⟨by decide, by decide, by decide +kernel⟩ (by decide) (by decide) (show decode cX9_undo 10 = .ok (.invokestatic 60, 3) by decide +kernel)
  · exact x_ifne_ok (show decode cX9_undo 13 = .ok (.ifCond .ne 5, 3) by decide +kernel) (by decide)
  · exact x_iconst_ok (show decode cX9_undo 16 = .ok (.iconst (-1), 1) by decide +kernel) (by decide)
  · exact x_iret_ok (show decode cX9_undo 17 = .ok (.ireturn, 1) by decide +kernel)
  · exact x_aload_n_ok (show decode cX9_undo 18 = .ok (.aload_n 0, 1) by decide +kernel) rfl
  · exact x_getR_ok (ci := 7) (k := 0) rfl (by decide) (by decide) hw_844 (show decode cX9_undo 19 = .ok (.getfield 7, 3) by decide +kernel)
  · exact x_iconst_ok (show decode cX9_undo 22 = .ok (.iconst 0, 1) by decide +kernel) (by decide)
  · exact x_iald_ok (show decode cX9_undo 23 = .ok (.iaload, 1) by decide +kernel)
  · exact x_iload_n_ok (show decode cX9_undo 24 = .ok (.iload_n 1, 1) by decide +kernel) rfl
  · exact x_isub_ok (show decode cX9_undo 25 = .ok (.isub, 1) by decide +kernel)
  · exact x_istore_n_ok (show decode cX9_undo 26 = .ok (.istore_n 2, 1) by decide +kernel) rfl (by decide)
  · exact x_iconst_ok (show decode cX9_undo 27 = .ok (.iconst 0, 1) by decide +kernel) (by decide)
  · exact x_istore_n_ok (show decode cX9_undo 28 = .ok (.istore_n 3, 1) by decide +kernel) rfl (by decide)
  · exact x_iload_n_ok (show decode cX9_undo 29 = .ok (.iload_n 3, 1) by decide +kernel) rfl
  · exact x_bipush_ok (show decode cX9_undo 30 = .ok (.bipush 9, 2) by decide +kernel) (by decide)
  · exact x_cmpge_ok (show decode cX9_undo 32 = .ok (.if_icmp .ge 35, 3) by decide +kernel) (by decide)
  · exact x_iload_n_ok (show decode cX9_undo 35 = .ok (.iload_n 2, 1) by decide +kernel) rfl
  · exact x_ifle_ok (show decode cX9_undo 36 = .ok (.ifCond .le 31, 3) by decide +kernel) (by decide)
  · exact x_aload_n_ok (show decode cX9_undo 39 = .ok (.aload_n 0, 1) by decide +kernel) rfl
  · exact x_getR_ok (ci := 7) (k := 0) rfl (by decide) (by decide) hw_844 (show decode cX9_undo 40 = .ok (.getfield 7, 3) by decide +kernel)
  · exact x_iconst_ok (show decode cX9_undo 43 = .ok (.iconst 1, 1) by decide +kernel) (by decide)
  · exact x_iload_n_ok (show decode cX9_undo 44 = .ok (.iload_n 3, 1) by decide +kernel) rfl
  · exact x_iadd_ok (show decode cX9_undo 45 = .ok (.iadd, 1) by decide +kernel)
  · exact x_aload_n_ok (show decode cX9_undo 46 = .ok (.aload_n 0, 1) by decide +kernel) rfl
  · exact x_getR_ok (ci := 7) (k := 0) rfl (by decide) (by decide) hw_844 (show decode cX9_undo 47 = .ok (.getfield 7, 3) by decide +kernel)
  · exact x_bipush_ok (show decode cX9_undo 50 = .ok (.bipush 66, 2) by decide +kernel) (by decide)
  · exact x_bipush_ok (show decode cX9_undo 52 = .ok (.bipush 9, 2) by decide +kernel) (by decide)
  · exact x_iload_n_ok (show decode cX9_undo 54 = .ok (.iload_n 1, 1) by decide +kernel) rfl
  · exact x_imul_ok (show decode cX9_undo 55 = .ok (.imul, 1) by decide +kernel)
  · exact x_iadd_ok (show decode cX9_undo 56 = .ok (.iadd, 1) by decide +kernel)
  · exact x_iload_n_ok (show decode cX9_undo 57 = .ok (.iload_n 3, 1) by decide +kernel) rfl
  · exact x_iadd_ok (show decode cX9_undo 58 = .ok (.iadd, 1) by decide +kernel)
  · exact x_iald_ok (show decode cX9_undo 59 = .ok (.iaload, 1) by decide +kernel)
  · exact x_iast_ok (show decode cX9_undo 60 = .ok (.iastore, 1) by decide +kernel)
  · exact x_iinc_ok (show decode cX9_undo 61 = .ok (.iinc 3 1, 3) by decide +kernel) (by decide) (by decide)
  · exact x_goto_ok (show decode cX9_undo 64 = .ok (.goto (-35), 3) by decide +kernel) (by decide)
  · exact x_aload_n_ok (show decode cX9_undo 67 = .ok (.aload_n 0, 1) by decide +kernel) rfl
  · exact x_getR_ok (ci := 7) (k := 0) rfl (by decide) (by decide) hw_844 (show decode cX9_undo 68 = .ok (.getfield 7, 3) by decide +kernel)
  · exact x_iconst_ok (show decode cX9_undo 71 = .ok (.iconst 0, 1) by decide +kernel) (by decide)
  · exact x_iload_n_ok (show decode cX9_undo 72 = .ok (.iload_n 1, 1) by decide +kernel) rfl
  · exact x_iast_ok (show decode cX9_undo 73 = .ok (.iastore, 1) by decide +kernel)
  · exact x_iload_n_ok (show decode cX9_undo 74 = .ok (.iload_n 2, 1) by decide +kernel) rfl
  · exact x_iret_ok (show decode cX9_undo 75 = .ok (.ireturn, 1) by decide +kernel)
noncomputable def FX9_undo : List Value → xS → Option xR := xden tX9_undo 4 (some .int) 0
theorem sX9_undo (l : Launch) : xSound l yX9_undo cX9_undo 4 (some .int) 2 0 FX9_undo := x_den (by decide) (tX9_undo_ok l)
noncomputable def tX2_takeFrom : List (Nat × xO) := [(0, x_aload 0 1), (1, x_aload 1 1), (2, x_getI 1 0), (5, x_putI 1 0), (8, x_aload 0 1), (9, x_aload 1 1), (10, x_getI 1 1), (13, x_putI 1 1), (16, x_aload 0 1), (17, x_aload 1 1), (18, x_getI 1 2), (21, x_putI 1 2), (24, x_aload 0 1), (25, x_aload 1 1), (26, x_getI 1 3), (29, x_putI 1 3), (32, x_aload 0 1), (33, x_aload 1 1), (34, x_getI 1 4), (37, x_putI 1 4), (40, x_aload 0 1), (41, x_aload 1 1), (42, x_getI 1 5), (45, x_putZ 1 5), (48, x_vret)]
set_option maxRecDepth 100000 in
theorem tX2_takeFrom_ok (l : Launch) : ∀ q ∈ tX2_takeFrom, xOK l cX2_takeFrom RX2 2 1 0 (yX2_takeFrom.name = "<init>") q.1 q.2 := by
  unfold tX2_takeFrom
  refine List.forall_mem_cons.mpr ⟨?_, List.forall_mem_cons.mpr ⟨?_, List.forall_mem_cons.mpr ⟨?_, List.forall_mem_cons.mpr ⟨?_, List.forall_mem_cons.mpr ⟨?_, List.forall_mem_cons.mpr ⟨?_, List.forall_mem_cons.mpr ⟨?_, List.forall_mem_cons.mpr ⟨?_, List.forall_mem_cons.mpr ⟨?_, List.forall_mem_cons.mpr ⟨?_, List.forall_mem_cons.mpr ⟨?_, List.forall_mem_cons.mpr ⟨?_, List.forall_mem_cons.mpr ⟨?_, List.forall_mem_cons.mpr ⟨?_, List.forall_mem_cons.mpr ⟨?_, List.forall_mem_cons.mpr ⟨?_, List.forall_mem_cons.mpr ⟨?_, List.forall_mem_cons.mpr ⟨?_, List.forall_mem_cons.mpr ⟨?_, List.forall_mem_cons.mpr ⟨?_, List.forall_mem_cons.mpr ⟨?_, List.forall_mem_cons.mpr ⟨?_, List.forall_mem_cons.mpr ⟨?_, List.forall_mem_cons.mpr ⟨?_, List.forall_mem_cons.mpr ⟨?_, fun _ h => absurd h List.not_mem_nil⟩⟩⟩⟩⟩⟩⟩⟩⟩⟩⟩⟩⟩⟩⟩⟩⟩⟩⟩⟩⟩⟩⟩⟩⟩
  · exact x_aload_n_ok (show decode cX2_takeFrom 0 = .ok (.aload_n 0, 1) by decide +kernel) rfl
  · exact x_aload_n_ok (show decode cX2_takeFrom 1 = .ok (.aload_n 1, 1) by decide +kernel) rfl
  · exact x_getI_ok (ci := 1) (k := 0) rfl (by decide) (by decide) hw_137 (show decode cX2_takeFrom 2 = .ok (.getfield 7, 3) by decide +kernel)
  · exact x_putI_ok (ci := 1) (k := 0) rfl (by decide) (by decide) rfl hw_137 rfl (show decode cX2_takeFrom 5 = .ok (.putfield 7, 3) by decide +kernel)
  · exact x_aload_n_ok (show decode cX2_takeFrom 8 = .ok (.aload_n 0, 1) by decide +kernel) rfl
  · exact x_aload_n_ok (show decode cX2_takeFrom 9 = .ok (.aload_n 1, 1) by decide +kernel) rfl
  · exact x_getI_ok (ci := 1) (k := 1) rfl (by decide) (by decide) hw_141 (show decode cX2_takeFrom 10 = .ok (.getfield 18, 3) by decide +kernel)
  · exact x_putI_ok (ci := 1) (k := 1) rfl (by decide) (by decide) rfl hw_141 rfl (show decode cX2_takeFrom 13 = .ok (.putfield 18, 3) by decide +kernel)
  · exact x_aload_n_ok (show decode cX2_takeFrom 16 = .ok (.aload_n 0, 1) by decide +kernel) rfl
  · exact x_aload_n_ok (show decode cX2_takeFrom 17 = .ok (.aload_n 1, 1) by decide +kernel) rfl
  · exact x_getI_ok (ci := 1) (k := 2) rfl (by decide) (by decide) hw_144 (show decode cX2_takeFrom 18 = .ok (.getfield 21, 3) by decide +kernel)
  · exact x_putI_ok (ci := 1) (k := 2) rfl (by decide) (by decide) rfl hw_144 rfl (show decode cX2_takeFrom 21 = .ok (.putfield 21, 3) by decide +kernel)
  · exact x_aload_n_ok (show decode cX2_takeFrom 24 = .ok (.aload_n 0, 1) by decide +kernel) rfl
  · exact x_aload_n_ok (show decode cX2_takeFrom 25 = .ok (.aload_n 1, 1) by decide +kernel) rfl
  · exact x_getI_ok (ci := 1) (k := 3) rfl (by decide) (by decide) hw_148 (show decode cX2_takeFrom 26 = .ok (.getfield 24, 3) by decide +kernel)
  · exact x_putI_ok (ci := 1) (k := 3) rfl (by decide) (by decide) rfl hw_148 rfl (show decode cX2_takeFrom 29 = .ok (.putfield 24, 3) by decide +kernel)
  · exact x_aload_n_ok (show decode cX2_takeFrom 32 = .ok (.aload_n 0, 1) by decide +kernel) rfl
  · exact x_aload_n_ok (show decode cX2_takeFrom 33 = .ok (.aload_n 1, 1) by decide +kernel) rfl
  · exact x_getI_ok (ci := 1) (k := 4) rfl (by decide) (by decide) hw_152 (show decode cX2_takeFrom 34 = .ok (.getfield 15, 3) by decide +kernel)
  · exact x_putI_ok (ci := 1) (k := 4) rfl (by decide) (by decide) rfl hw_152 rfl (show decode cX2_takeFrom 37 = .ok (.putfield 15, 3) by decide +kernel)
  · exact x_aload_n_ok (show decode cX2_takeFrom 40 = .ok (.aload_n 0, 1) by decide +kernel) rfl
  · exact x_aload_n_ok (show decode cX2_takeFrom 41 = .ok (.aload_n 1, 1) by decide +kernel) rfl
  · exact x_getI_ok (ci := 1) (k := 5) rfl (by decide) (by decide) hw_156 (show decode cX2_takeFrom 42 = .ok (.getfield 27, 3) by decide +kernel)
  · exact x_putZ_ok (ci := 1) (k := 5) rfl (by decide) (by decide) rfl hw_156 rfl (show decode cX2_takeFrom 45 = .ok (.putfield 27, 3) by decide +kernel)
  · exact x_vret_ok (show decode cX2_takeFrom 48 = .ok (.return_, 1) by decide +kernel)
noncomputable def FX2_takeFrom : List Value → xS → Option xR := xden tX2_takeFrom 2 none 0
theorem sX2_takeFrom (l : Launch) : xSound l yX2_takeFrom cX2_takeFrom 2 none 1 0 FX2_takeFrom := x_den (by decide) (tX2_takeFrom_ok l)
noncomputable def tX4_become : List (Nat × xO) := [(0, x_aload 0 1), (1, x_aload 1 1), (2, x_getI 3 1), (5, x_putI 3 1), (8, x_aload 0 1), (9, x_aload 1 1), (10, x_getI 3 3), (13, x_putI 3 3), (16, x_aload 0 1), (17, x_aload 1 1), (18, x_getI 3 4), (21, x_putI 3 4), (24, x_push (.int (nI 0)) 1), (25, x_istore 2 1), (26, x_iload 2 1), (27, x_push (.int (nI 8)) 2), (29, x_cmpge 53), (32, x_aload 0 1), (33, x_getR 3 0), (36, x_iload 2 1), (37, x_aald), (38, x_aload 1 1), (39, x_getR 3 0), (42, x_iload 2 1), (43, x_aald), (44, x_callV 1 0 2 FX2_takeFrom), (47, x_iinc 2 (nI 1)), (50, x_goto 26), (53, x_push (.int (nI 0)) 1), (54, x_istore 2 1), (55, x_iload 2 1), (56, x_push (.int (nI 40)) 2), (58, x_cmpge 79), (61, x_aload 0 1), (62, x_getR 3 2), (65, x_iload 2 1), (66, x_aload 1 1), (67, x_getR 3 2), (70, x_iload 2 1), (71, x_bald), (72, x_bastZ), (73, x_iinc 2 (nI 1)), (76, x_goto 55), (79, x_vret)]
set_option maxRecDepth 100000 in
theorem tX4_become_ok (l : Launch) : ∀ q ∈ tX4_become, xOK l cX4_become RX4 3 2 0 (yX4_become.name = "<init>") q.1 q.2 := by
  unfold tX4_become
  refine List.forall_mem_cons.mpr ⟨?_, List.forall_mem_cons.mpr ⟨?_, List.forall_mem_cons.mpr ⟨?_, List.forall_mem_cons.mpr ⟨?_, List.forall_mem_cons.mpr ⟨?_, List.forall_mem_cons.mpr ⟨?_, List.forall_mem_cons.mpr ⟨?_, List.forall_mem_cons.mpr ⟨?_, List.forall_mem_cons.mpr ⟨?_, List.forall_mem_cons.mpr ⟨?_, List.forall_mem_cons.mpr ⟨?_, List.forall_mem_cons.mpr ⟨?_, List.forall_mem_cons.mpr ⟨?_, List.forall_mem_cons.mpr ⟨?_, List.forall_mem_cons.mpr ⟨?_, List.forall_mem_cons.mpr ⟨?_, List.forall_mem_cons.mpr ⟨?_, List.forall_mem_cons.mpr ⟨?_, List.forall_mem_cons.mpr ⟨?_, List.forall_mem_cons.mpr ⟨?_, List.forall_mem_cons.mpr ⟨?_, List.forall_mem_cons.mpr ⟨?_, List.forall_mem_cons.mpr ⟨?_, List.forall_mem_cons.mpr ⟨?_, List.forall_mem_cons.mpr ⟨?_, List.forall_mem_cons.mpr ⟨?_, List.forall_mem_cons.mpr ⟨?_, List.forall_mem_cons.mpr ⟨?_, List.forall_mem_cons.mpr ⟨?_, List.forall_mem_cons.mpr ⟨?_, List.forall_mem_cons.mpr ⟨?_, List.forall_mem_cons.mpr ⟨?_, List.forall_mem_cons.mpr ⟨?_, List.forall_mem_cons.mpr ⟨?_, List.forall_mem_cons.mpr ⟨?_, List.forall_mem_cons.mpr ⟨?_, List.forall_mem_cons.mpr ⟨?_, List.forall_mem_cons.mpr ⟨?_, List.forall_mem_cons.mpr ⟨?_, List.forall_mem_cons.mpr ⟨?_, List.forall_mem_cons.mpr ⟨?_, List.forall_mem_cons.mpr ⟨?_, List.forall_mem_cons.mpr ⟨?_, List.forall_mem_cons.mpr ⟨?_, fun _ h => absurd h List.not_mem_nil⟩⟩⟩⟩⟩⟩⟩⟩⟩⟩⟩⟩⟩⟩⟩⟩⟩⟩⟩⟩⟩⟩⟩⟩⟩⟩⟩⟩⟩⟩⟩⟩⟩⟩⟩⟩⟩⟩⟩⟩⟩⟩⟩⟩
  · exact x_aload_n_ok (show decode cX4_become 0 = .ok (.aload_n 0, 1) by decide +kernel) rfl
  · exact x_aload_n_ok (show decode cX4_become 1 = .ok (.aload_n 1, 1) by decide +kernel) rfl
  · exact x_getI_ok (ci := 3) (k := 1) rfl (by decide) (by decide) hw_175 (show decode cX4_become 2 = .ok (.getfield 22, 3) by decide +kernel)
  · exact x_putI_ok (ci := 3) (k := 1) rfl (by decide) (by decide) rfl hw_175 rfl (show decode cX4_become 5 = .ok (.putfield 22, 3) by decide +kernel)
  · exact x_aload_n_ok (show decode cX4_become 8 = .ok (.aload_n 0, 1) by decide +kernel) rfl
  · exact x_aload_n_ok (show decode cX4_become 9 = .ok (.aload_n 1, 1) by decide +kernel) rfl
  · exact x_getI_ok (ci := 3) (k := 3) rfl (by decide) (by decide) hw_179 (show decode cX4_become 10 = .ok (.getfield 26, 3) by decide +kernel)
  · exact x_putI_ok (ci := 3) (k := 3) rfl (by decide) (by decide) rfl hw_179 rfl (show decode cX4_become 13 = .ok (.putfield 26, 3) by decide +kernel)
  · exact x_aload_n_ok (show decode cX4_become 16 = .ok (.aload_n 0, 1) by decide +kernel) rfl
  · exact x_aload_n_ok (show decode cX4_become 17 = .ok (.aload_n 1, 1) by decide +kernel) rfl
  · exact x_getI_ok (ci := 3) (k := 4) rfl (by decide) (by decide) hw_181 (show decode cX4_become 18 = .ok (.getfield 29, 3) by decide +kernel)
  · exact x_putI_ok (ci := 3) (k := 4) rfl (by decide) (by decide) rfl hw_181 rfl (show decode cX4_become 21 = .ok (.putfield 29, 3) by decide +kernel)
  · exact x_iconst_ok (show decode cX4_become 24 = .ok (.iconst 0, 1) by decide +kernel) (by decide)
  · exact x_istore_n_ok (show decode cX4_become 25 = .ok (.istore_n 2, 1) by decide +kernel) rfl (by decide)
  · exact x_iload_n_ok (show decode cX4_become 26 = .ok (.iload_n 2, 1) by decide +kernel) rfl
  · exact x_bipush_ok (show decode cX4_become 27 = .ok (.bipush 8, 2) by decide +kernel) (by decide)
  · exact x_cmpge_ok (show decode cX4_become 29 = .ok (.if_icmp .ge 24, 3) by decide +kernel) (by decide)
  · exact x_aload_n_ok (show decode cX4_become 32 = .ok (.aload_n 0, 1) by decide +kernel) rfl
  · exact x_getR_ok (ci := 3) (k := 0) rfl (by decide) (by decide) hw_173 (show decode cX4_become 33 = .ok (.getfield 13, 3) by decide +kernel)
  · exact x_iload_n_ok (show decode cX4_become 36 = .ok (.iload_n 2, 1) by decide +kernel) rfl
  · exact x_aald_ok (show decode cX4_become 37 = .ok (.aaload, 1) by decide +kernel)
  · exact x_aload_n_ok (show decode cX4_become 38 = .ok (.aload_n 1, 1) by decide +kernel) rfl
  · exact x_getR_ok (ci := 3) (k := 0) rfl (by decide) (by decide) hw_173 (show decode cX4_become 39 = .ok (.getfield 13, 3) by decide +kernel)
  · exact x_iload_n_ok (show decode cX4_become 42 = .ok (.iload_n 2, 1) by decide +kernel) rfl
  · exact x_aald_ok (show decode cX4_become 43 = .ok (.aaload, 1) by decide +kernel)
  · exact x_callV_ok (ci := 1) rfl (by decide) (sX2_takeFrom l) hw_567 hw_564 hw_565 hw_566 hw_65 ⟨by decide, by decide, by decide +kernel⟩ rfl (by decide) (by decide) (show decode cX4_become 44 = .ok (.invokevirtual 32, 3) by decide +kernel)
  · exact x_iinc_ok (show decode cX4_become 47 = .ok (.iinc 2 1, 3) by decide +kernel) (by decide) (by decide)
  · exact x_goto_ok (show decode cX4_become 50 = .ok (.goto (-24), 3) by decide +kernel) (by decide)
  · exact x_iconst_ok (show decode cX4_become 53 = .ok (.iconst 0, 1) by decide +kernel) (by decide)
  · exact x_istore_n_ok (show decode cX4_become 54 = .ok (.istore_n 2, 1) by decide +kernel) rfl (by decide)
  · exact x_iload_n_ok (show decode cX4_become 55 = .ok (.iload_n 2, 1) by decide +kernel) rfl
  · exact x_bipush_ok (show decode cX4_become 56 = .ok (.bipush 40, 2) by decide +kernel) (by decide)
  · exact x_cmpge_ok (show decode cX4_become 58 = .ok (.if_icmp .ge 21, 3) by decide +kernel) (by decide)
  · exact x_aload_n_ok (show decode cX4_become 61 = .ok (.aload_n 0, 1) by decide +kernel) rfl
  · exact x_getR_ok (ci := 3) (k := 2) rfl (by decide) (by decide) hw_178 (show decode cX4_become 62 = .ok (.getfield 18, 3) by decide +kernel)
  · exact x_iload_n_ok (show decode cX4_become 65 = .ok (.iload_n 2, 1) by decide +kernel) rfl
  · exact x_aload_n_ok (show decode cX4_become 66 = .ok (.aload_n 1, 1) by decide +kernel) rfl
  · exact x_getR_ok (ci := 3) (k := 2) rfl (by decide) (by decide) hw_178 (show decode cX4_become 67 = .ok (.getfield 18, 3) by decide +kernel)
  · exact x_iload_n_ok (show decode cX4_become 70 = .ok (.iload_n 2, 1) by decide +kernel) rfl
  · exact x_bald_ok (show decode cX4_become 71 = .ok (.baload, 1) by decide +kernel)
  · exact x_bastZ_ok (show decode cX4_become 72 = .ok (.bastore, 1) by decide +kernel)
  · exact x_iinc_ok (show decode cX4_become 73 = .ok (.iinc 2 1, 3) by decide +kernel) (by decide) (by decide)
  · exact x_goto_ok (show decode cX4_become 76 = .ok (.goto (-21), 3) by decide +kernel) (by decide)
  · exact x_vret_ok (show decode cX4_become 79 = .ok (.return_, 1) by decide +kernel)
noncomputable def FX4_become : List Value → xS → Option xR := xden tX4_become 3 none 0
theorem sX4_become (l : Launch) : xSound l yX4_become cX4_become 3 none 2 0 FX4_become := x_den (by decide) (tX4_become_ok l)
noncomputable def tX8_keep : List (Nat × xO) := [(0, x_iload 1 1), (1, x_push (.int (nI 3)) 1), (2, x_call 0 2 FX8_among), (5, x_ifne 10), (8, x_push (.int (-1)) 1), (9, x_iret), (10, x_aload 0 1), (11, x_getR 6 2), (14, x_getI 3 1), (17, x_ifne 23), (20, x_push (.int (-4)) 2), (22, x_iret), (23, x_aload 0 1), (24, x_getR 6 3), (27, x_iload 1 1), (28, x_aald), (29, x_aload 0 1), (30, x_getR 6 2), (33, x_callV 3 0 2 FX4_become), (36, x_aload 0 1), (37, x_getR 6 2), (40, x_getI 3 3), (43, x_iret)]
set_option maxRecDepth 100000 in
theorem tX8_keep_ok (l : Launch) : ∀ q ∈ tX8_keep, xOK l cX8_keep RX8 2 3 0 (yX8_keep.name = "<init>") q.1 q.2 := by
  unfold tX8_keep
  refine List.forall_mem_cons.mpr ⟨?_, List.forall_mem_cons.mpr ⟨?_, List.forall_mem_cons.mpr ⟨?_, List.forall_mem_cons.mpr ⟨?_, List.forall_mem_cons.mpr ⟨?_, List.forall_mem_cons.mpr ⟨?_, List.forall_mem_cons.mpr ⟨?_, List.forall_mem_cons.mpr ⟨?_, List.forall_mem_cons.mpr ⟨?_, List.forall_mem_cons.mpr ⟨?_, List.forall_mem_cons.mpr ⟨?_, List.forall_mem_cons.mpr ⟨?_, List.forall_mem_cons.mpr ⟨?_, List.forall_mem_cons.mpr ⟨?_, List.forall_mem_cons.mpr ⟨?_, List.forall_mem_cons.mpr ⟨?_, List.forall_mem_cons.mpr ⟨?_, List.forall_mem_cons.mpr ⟨?_, List.forall_mem_cons.mpr ⟨?_, List.forall_mem_cons.mpr ⟨?_, List.forall_mem_cons.mpr ⟨?_, List.forall_mem_cons.mpr ⟨?_, List.forall_mem_cons.mpr ⟨?_, fun _ h => absurd h List.not_mem_nil⟩⟩⟩⟩⟩⟩⟩⟩⟩⟩⟩⟩⟩⟩⟩⟩⟩⟩⟩⟩⟩⟩⟩
  · exact x_iload_n_ok (show decode cX8_keep 0 = .ok (.iload_n 1, 1) by decide +kernel) rfl
  · exact x_iconst_ok (show decode cX8_keep 1 = .ok (.iconst 3, 1) by decide +kernel) (by decide)
  · exact x_callS_ok (sX8_among l) hw_268 hw_266 hw_267 hw_61 ⟨by decide, by decide, by decide +kernel⟩ (by decide) (by decide) (show decode cX8_keep 2 = .ok (.invokestatic 65, 3) by decide +kernel)
  · exact x_ifne_ok (show decode cX8_keep 5 = .ok (.ifCond .ne 5, 3) by decide +kernel) (by decide)
  · exact x_iconst_ok (show decode cX8_keep 8 = .ok (.iconst (-1), 1) by decide +kernel) (by decide)
  · exact x_iret_ok (show decode cX8_keep 9 = .ok (.ireturn, 1) by decide +kernel)
  · exact x_aload_n_ok (show decode cX8_keep 10 = .ok (.aload_n 0, 1) by decide +kernel) rfl
  · exact x_getR_ok (ci := 6) (k := 2) rfl (by decide) (by decide) hw_224 (show decode cX8_keep 11 = .ok (.getfield 26, 3) by decide +kernel)
  · exact x_getI_ok (ci := 3) (k := 1) rfl (by decide) (by decide) hw_177 (show decode cX8_keep 14 = .ok (.getfield 133, 3) by decide +kernel)
  · exact x_ifne_ok (show decode cX8_keep 17 = .ok (.ifCond .ne 6, 3) by decide +kernel) (by decide)
  · exact x_bipush_ok (show decode cX8_keep 20 = .ok (.bipush (-4), 2) by decide +kernel) (by decide)
  · exact x_iret_ok (show decode cX8_keep 22 = .ok (.ireturn, 1) by decide +kernel)
  · exact x_aload_n_ok (show decode cX8_keep 23 = .ok (.aload_n 0, 1) by decide +kernel) rfl
  · exact x_getR_ok (ci := 6) (k := 3) rfl (by decide) (by decide) hw_225 (show decode cX8_keep 24 = .ok (.getfield 30, 3) by decide +kernel)
  · exact x_iload_n_ok (show decode cX8_keep 27 = .ok (.iload_n 1, 1) by decide +kernel) rfl
  · exact x_aald_ok (show decode cX8_keep 28 = .ok (.aaload, 1) by decide +kernel)
  · exact x_aload_n_ok (show decode cX8_keep 29 = .ok (.aload_n 0, 1) by decide +kernel) rfl
  · exact x_getR_ok (ci := 6) (k := 2) rfl (by decide) (by decide) hw_224 (show decode cX8_keep 30 = .ok (.getfield 26, 3) by decide +kernel)
  · exact x_callV_ok (ci := 3) rfl (by decide) (sX4_become l) hw_563 hw_560 hw_561 hw_562 hw_64 ⟨by decide, by decide, by decide +kernel⟩ rfl (by decide) (by decide) (show decode cX8_keep 33 = .ok (.invokevirtual 185, 3) by decide +kernel)
  · exact x_aload_n_ok (show decode cX8_keep 36 = .ok (.aload_n 0, 1) by decide +kernel) rfl
  · exact x_getR_ok (ci := 6) (k := 2) rfl (by decide) (by decide) hw_224 (show decode cX8_keep 37 = .ok (.getfield 26, 3) by decide +kernel)
  · exact x_getI_ok (ci := 3) (k := 3) rfl (by decide) (by decide) hw_180 (show decode cX8_keep 40 = .ok (.getfield 172, 3) by decide +kernel)
  · exact x_iret_ok (show decode cX8_keep 43 = .ok (.ireturn, 1) by decide +kernel)
noncomputable def FX8_keep : List Value → xS → Option xR := xden tX8_keep 2 (some .int) 0
theorem sX8_keep (l : Launch) : xSound l yX8_keep cX8_keep 2 (some .int) 3 0 FX8_keep := x_den (by decide) (tX8_keep_ok l)
