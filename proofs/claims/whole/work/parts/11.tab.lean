noncomputable def tX5_init : List (Nat × xO) := [(0, x_aload 0 1), (1, x_obj), (4, x_aload 0 1), (5, x_push (.int (nI 40)) 2), (7, x_newa 10), (9, x_putR 4 0), (12, x_aload 0 1), (13, x_push (.int (-1)) 1), (14, x_putI 4 1), (17, x_vret)]
set_option maxRecDepth 100000 in
theorem tX5_init_ok (l : Launch) : ∀ q ∈ tX5_init, xOK l cX5_init RX5 1 1 1 (yX5_init.name = "<init>") q.1 q.2 := by
  unfold tX5_init
  refine List.forall_mem_cons.mpr ⟨?_, List.forall_mem_cons.mpr ⟨?_, List.forall_mem_cons.mpr ⟨?_, List.forall_mem_cons.mpr ⟨?_, List.forall_mem_cons.mpr ⟨?_, List.forall_mem_cons.mpr ⟨?_, List.forall_mem_cons.mpr ⟨?_, List.forall_mem_cons.mpr ⟨?_, List.forall_mem_cons.mpr ⟨?_, List.forall_mem_cons.mpr ⟨?_, fun _ h => absurd h List.not_mem_nil⟩⟩⟩⟩⟩⟩⟩⟩⟩⟩
  · exact x_aload_n_ok (show decode cX5_init 0 = .ok (.aload_n 0, 1) by decide +kernel) rfl
  · exact x_obj_ok hw_92 hw_84 hw_85 (by decide) (show decode cX5_init 1 = .ok (.invokespecial 1, 3) by decide +kernel)
  · exact x_aload_n_ok (show decode cX5_init 4 = .ok (.aload_n 0, 1) by decide +kernel) rfl
  · exact x_bipush_ok (show decode cX5_init 5 = .ok (.bipush 40, 2) by decide +kernel) (by decide)
  · exact x_newa_ok (at' := .int) (ty := .int) rfl (by decide) hw_106 (show decode cX5_init 7 = .ok (.newarray .int, 2) by decide +kernel)
  · exact x_putR_ok (ci := 4) (k := 0) rfl (by decide) (by decide) (by first | exact Or.inl ⟨_, rfl⟩ | exact Or.inr ⟨_, rfl⟩) hw_93 ⟨rfl, rfl, rfl⟩ (show decode cX5_init 9 = .ok (.putfield 9, 3) by decide +kernel)
  · exact x_aload_n_ok (show decode cX5_init 12 = .ok (.aload_n 0, 1) by decide +kernel) rfl
  · exact x_iconst_ok (show decode cX5_init 13 = .ok (.iconst (-1), 1) by decide +kernel) (by decide)
  · exact x_putI_ok (ci := 4) (k := 1) rfl (by decide) (by decide) rfl hw_97 rfl (show decode cX5_init 14 = .ok (.putfield 13, 3) by decide +kernel)
  · exact x_vret_ok (show decode cX5_init 17 = .ok (.return_, 1) by decide +kernel)
noncomputable def FX5_init : List Value → xS → Option xR := xden tX5_init 1 none 1
theorem sX5_init (l : Launch) : xSound l yX5_init cX5_init 1 none 1 1 FX5_init := x_den (by decide) (tX5_init_ok l)
noncomputable def tX7_init : List (Nat × xO) := [(0, x_aload 0 1), (1, x_obj), (4, x_aload 0 1), (5, x_push (.int (nI 80)) 2), (7, x_newa 9), (9, x_putR 5 0), (12, x_aload 0 1), (13, x_push (.int (-1)) 1), (14, x_putI 5 1), (17, x_vret)]
set_option maxRecDepth 100000 in
theorem tX7_init_ok (l : Launch) : ∀ q ∈ tX7_init, xOK l cX7_init RX7 1 1 1 (yX7_init.name = "<init>") q.1 q.2 := by
  unfold tX7_init
  refine List.forall_mem_cons.mpr ⟨?_, List.forall_mem_cons.mpr ⟨?_, List.forall_mem_cons.mpr ⟨?_, List.forall_mem_cons.mpr ⟨?_, List.forall_mem_cons.mpr ⟨?_, List.forall_mem_cons.mpr ⟨?_, List.forall_mem_cons.mpr ⟨?_, List.forall_mem_cons.mpr ⟨?_, List.forall_mem_cons.mpr ⟨?_, List.forall_mem_cons.mpr ⟨?_, fun _ h => absurd h List.not_mem_nil⟩⟩⟩⟩⟩⟩⟩⟩⟩⟩
  · exact x_aload_n_ok (show decode cX7_init 0 = .ok (.aload_n 0, 1) by decide +kernel) rfl
  · exact x_obj_ok hw_113 hw_84 hw_85 (by decide) (show decode cX7_init 1 = .ok (.invokespecial 3, 3) by decide +kernel)
  · exact x_aload_n_ok (show decode cX7_init 4 = .ok (.aload_n 0, 1) by decide +kernel) rfl
  · exact x_bipush_ok (show decode cX7_init 5 = .ok (.bipush 80, 2) by decide +kernel) (by decide)
  · exact x_newa_ok (at' := .byte) (ty := .byte) rfl (by decide) hw_123 (show decode cX7_init 7 = .ok (.newarray .byte, 2) by decide +kernel)
  · exact x_putR_ok (ci := 5) (k := 0) rfl (by decide) (by decide) (by first | exact Or.inl ⟨_, rfl⟩ | exact Or.inr ⟨_, rfl⟩) hw_114 ⟨rfl, rfl, rfl⟩ (show decode cX7_init 9 = .ok (.putfield 11, 3) by decide +kernel)
  · exact x_aload_n_ok (show decode cX7_init 12 = .ok (.aload_n 0, 1) by decide +kernel) rfl
  · exact x_iconst_ok (show decode cX7_init 13 = .ok (.iconst (-1), 1) by decide +kernel) (by decide)
  · exact x_putI_ok (ci := 5) (k := 1) rfl (by decide) (by decide) rfl hw_116 rfl (show decode cX7_init 14 = .ok (.putfield 15, 3) by decide +kernel)
  · exact x_vret_ok (show decode cX7_init 17 = .ok (.return_, 1) by decide +kernel)
noncomputable def FX7_init : List Value → xS → Option xR := xden tX7_init 1 none 1
theorem sX7_init (l : Launch) : xSound l yX7_init cX7_init 1 none 1 1 FX7_init := x_den (by decide) (tX7_init_ok l)
noncomputable def tX2_init : List (Nat × xO) := [(0, x_aload 0 1), (1, x_obj), (4, x_vret)]
set_option maxRecDepth 100000 in
theorem tX2_init_ok (l : Launch) : ∀ q ∈ tX2_init, xOK l cX2_init RX2 1 1 0 (yX2_init.name = "<init>") q.1 q.2 := by
  unfold tX2_init
  refine List.forall_mem_cons.mpr ⟨?_, List.forall_mem_cons.mpr ⟨?_, List.forall_mem_cons.mpr ⟨?_, fun _ h => absurd h List.not_mem_nil⟩⟩⟩
  · exact x_aload_n_ok (show decode cX2_init 0 = .ok (.aload_n 0, 1) by decide +kernel) rfl
  · exact x_obj_ok hw_136 hw_84 hw_85 (by decide) (show decode cX2_init 1 = .ok (.invokespecial 1, 3) by decide +kernel)
  · exact x_vret_ok (show decode cX2_init 4 = .ok (.return_, 1) by decide +kernel)
noncomputable def FX2_init : List Value → xS → Option xR := xden tX2_init 1 none 0
theorem sX2_init (l : Launch) : xSound l yX2_init cX2_init 1 none 1 0 FX2_init := x_den (by decide) (tX2_init_ok l)
noncomputable def tX4_init : List (Nat × xO) := [(0, x_aload 0 1), (1, x_obj), (4, x_aload 0 1), (5, x_push (.int (nI 8)) 2), (7, x_newq 12), (10, x_putR 3 0), (13, x_push (.int (nI 0)) 1), (14, x_istore 1 1), (15, x_iload 1 1), (16, x_push (.int (nI 8)) 2), (18, x_cmpge 40), (21, x_aload 0 1), (22, x_getR 3 0), (25, x_iload 1 1), (26, x_new 1), (29, x_dup), (30, x_init 0 FX2_init), (33, x_aast), (34, x_iinc 1 (nI 1)), (37, x_goto 15), (40, x_aload 0 1), (41, x_push (.int (nI 40)) 2), (43, x_newa 11), (45, x_putR 3 2), (48, x_vret)]
set_option maxRecDepth 100000 in
theorem tX4_init_ok (l : Launch) : ∀ q ∈ tX4_init, xOK l cX4_init RX4 2 2 10 (yX4_init.name = "<init>") q.1 q.2 := by
  unfold tX4_init
  refine List.forall_mem_cons.mpr ⟨?_, List.forall_mem_cons.mpr ⟨?_, List.forall_mem_cons.mpr ⟨?_, List.forall_mem_cons.mpr ⟨?_, List.forall_mem_cons.mpr ⟨?_, List.forall_mem_cons.mpr ⟨?_, List.forall_mem_cons.mpr ⟨?_, List.forall_mem_cons.mpr ⟨?_, List.forall_mem_cons.mpr ⟨?_, List.forall_mem_cons.mpr ⟨?_, List.forall_mem_cons.mpr ⟨?_, List.forall_mem_cons.mpr ⟨?_, List.forall_mem_cons.mpr ⟨?_, List.forall_mem_cons.mpr ⟨?_, List.forall_mem_cons.mpr ⟨?_, List.forall_mem_cons.mpr ⟨?_, List.forall_mem_cons.mpr ⟨?_, List.forall_mem_cons.mpr ⟨?_, List.forall_mem_cons.mpr ⟨?_, List.forall_mem_cons.mpr ⟨?_, List.forall_mem_cons.mpr ⟨?_, List.forall_mem_cons.mpr ⟨?_, List.forall_mem_cons.mpr ⟨?_, List.forall_mem_cons.mpr ⟨?_, List.forall_mem_cons.mpr ⟨?_, fun _ h => absurd h List.not_mem_nil⟩⟩⟩⟩⟩⟩⟩⟩⟩⟩⟩⟩⟩⟩⟩⟩⟩⟩⟩⟩⟩⟩⟩⟩⟩
  · exact x_aload_n_ok (show decode cX4_init 0 = .ok (.aload_n 0, 1) by decide +kernel) rfl
  · exact x_obj_ok hw_129 hw_84 hw_85 (by decide) (show decode cX4_init 1 = .ok (.invokespecial 3, 3) by decide +kernel)
  · exact x_aload_n_ok (show decode cX4_init 4 = .ok (.aload_n 0, 1) by decide +kernel) rfl
  · exact x_bipush_ok (show decode cX4_init 5 = .ok (.bipush 8, 2) by decide +kernel) (by decide)
  · exact x_newq_ok (t0 := 3) (by decide) (fun _ => rfl) hw_130 (fun _ _ _ h => h.2.1.2.2.1) (show decode cX4_init 7 = .ok (.anewarray 11, 3) by decide +kernel)
  · exact x_putR_ok (ci := 3) (k := 0) rfl (by decide) (by decide) (by first | exact Or.inl ⟨_, rfl⟩ | exact Or.inr ⟨_, rfl⟩) hw_173 ⟨rfl, rfl, rfl⟩ (show decode cX4_init 10 = .ok (.putfield 13, 3) by decide +kernel)
  · exact x_iconst_ok (show decode cX4_init 13 = .ok (.iconst 0, 1) by decide +kernel) (by decide)
  · exact x_istore_n_ok (show decode cX4_init 14 = .ok (.istore_n 1, 1) by decide +kernel) rfl (by decide)
  · exact x_iload_n_ok (show decode cX4_init 15 = .ok (.iload_n 1, 1) by decide +kernel) rfl
  · exact x_bipush_ok (show decode cX4_init 16 = .ok (.bipush 8, 2) by decide +kernel) (by decide)
  · exact x_cmpge_ok (show decode cX4_init 18 = .ok (.if_icmp .ge 22, 3) by decide +kernel) (by decide)
  · exact x_aload_n_ok (show decode cX4_init 21 = .ok (.aload_n 0, 1) by decide +kernel) rfl
  · exact x_getR_ok (ci := 3) (k := 0) rfl (by decide) (by decide) hw_173 (show decode cX4_init 22 = .ok (.getfield 13, 3) by decide +kernel)
  · exact x_iload_n_ok (show decode cX4_init 25 = .ok (.iload_n 1, 1) by decide +kernel) rfl
  · exact x_new_ok (ci := 1) rfl (by decide) hw_130 hw_132 hw_65 (by decide) (show decode cX4_init 26 = .ok (.new 11, 3) by decide +kernel)
  · exact x_dup_ok (show decode cX4_init 29 = .ok (.dup, 1) by decide +kernel)
  · exact x_initN_ok (sX2_init l) hw_135 (fun _ _ _ h => h.1.1) hw_134 hw_65 rfl ⟨by decide, by decide, by decide +kernel⟩ (by decide) (by decide) (show decode cX4_init 30 = .ok (.invokespecial 17, 3) by decide +kernel)
  · exact x_aast_ok (show decode cX4_init 33 = .ok (.aastore, 1) by decide +kernel)
  · exact x_iinc_ok (show decode cX4_init 34 = .ok (.iinc 1 1, 3) by decide +kernel) (by decide) (by decide)
  · exact x_goto_ok (show decode cX4_init 37 = .ok (.goto (-22), 3) by decide +kernel) (by decide)
  · exact x_aload_n_ok (show decode cX4_init 40 = .ok (.aload_n 0, 1) by decide +kernel) rfl
  · exact x_bipush_ok (show decode cX4_init 41 = .ok (.bipush 40, 2) by decide +kernel) (by decide)
  · exact x_newa_ok (at' := .boolean) (ty := .boolean) rfl (by decide) hw_193 (show decode cX4_init 43 = .ok (.newarray .boolean, 2) by decide +kernel)
  · exact x_putR_ok (ci := 3) (k := 2) rfl (by decide) (by decide) (by first | exact Or.inl ⟨_, rfl⟩ | exact Or.inr ⟨_, rfl⟩) hw_178 ⟨rfl, rfl, rfl⟩ (show decode cX4_init 45 = .ok (.putfield 18, 3) by decide +kernel)
  · exact x_vret_ok (show decode cX4_init 48 = .ok (.return_, 1) by decide +kernel)
noncomputable def FX4_init : List Value → xS → Option xR := xden tX4_init 2 none 10
theorem sX4_init (l : Launch) : xSound l yX4_init cX4_init 2 none 2 10 FX4_init := x_den (by decide) (tX4_init_ok l)
noncomputable def tX0_init : List (Nat × xO) := [(0, x_aload 0 1), (1, x_obj), (4, x_aload 0 1), (5, x_push (.int (nI 64)) 2), (7, x_newa 11), (9, x_putR 0 0), (12, x_aload 0 1), (13, x_push (.int (nI 64)) 2), (15, x_newa 10), (17, x_putR 0 1), (20, x_vret)]
set_option maxRecDepth 100000 in
theorem tX0_init_ok (l : Launch) : ∀ q ∈ tX0_init, xOK l cX0_init RX0 1 1 2 (yX0_init.name = "<init>") q.1 q.2 := by
  unfold tX0_init
  refine List.forall_mem_cons.mpr ⟨?_, List.forall_mem_cons.mpr ⟨?_, List.forall_mem_cons.mpr ⟨?_, List.forall_mem_cons.mpr ⟨?_, List.forall_mem_cons.mpr ⟨?_, List.forall_mem_cons.mpr ⟨?_, List.forall_mem_cons.mpr ⟨?_, List.forall_mem_cons.mpr ⟨?_, List.forall_mem_cons.mpr ⟨?_, List.forall_mem_cons.mpr ⟨?_, List.forall_mem_cons.mpr ⟨?_, fun _ h => absurd h List.not_mem_nil⟩⟩⟩⟩⟩⟩⟩⟩⟩⟩⟩
  · exact x_aload_n_ok (show decode cX0_init 0 = .ok (.aload_n 0, 1) by decide +kernel) rfl
  · exact x_obj_ok hw_200 hw_84 hw_85 (by decide) (show decode cX0_init 1 = .ok (.invokespecial 1, 3) by decide +kernel)
  · exact x_aload_n_ok (show decode cX0_init 4 = .ok (.aload_n 0, 1) by decide +kernel) rfl
  · exact x_bipush_ok (show decode cX0_init 5 = .ok (.bipush 64, 2) by decide +kernel) (by decide)
  · exact x_newa_ok (at' := .boolean) (ty := .boolean) rfl (by decide) hw_193 (show decode cX0_init 7 = .ok (.newarray .boolean, 2) by decide +kernel)
  · exact x_putR_ok (ci := 0) (k := 0) rfl (by decide) (by decide) (by first | exact Or.inl ⟨_, rfl⟩ | exact Or.inr ⟨_, rfl⟩) hw_201 ⟨rfl, rfl, rfl⟩ (show decode cX0_init 9 = .ok (.putfield 9, 3) by decide +kernel)
  · exact x_aload_n_ok (show decode cX0_init 12 = .ok (.aload_n 0, 1) by decide +kernel) rfl
  · exact x_bipush_ok (show decode cX0_init 13 = .ok (.bipush 64, 2) by decide +kernel) (by decide)
  · exact x_newa_ok (at' := .int) (ty := .int) rfl (by decide) hw_106 (show decode cX0_init 15 = .ok (.newarray .int, 2) by decide +kernel)
  · exact x_putR_ok (ci := 0) (k := 1) rfl (by decide) (by decide) (by first | exact Or.inl ⟨_, rfl⟩ | exact Or.inr ⟨_, rfl⟩) hw_202 ⟨rfl, rfl, rfl⟩ (show decode cX0_init 17 = .ok (.putfield 13, 3) by decide +kernel)
  · exact x_vret_ok (show decode cX0_init 20 = .ok (.return_, 1) by decide +kernel)
noncomputable def FX0_init : List Value → xS → Option xR := xden tX0_init 1 none 2
theorem sX0_init (l : Launch) : xSound l yX0_init cX0_init 1 none 1 2 FX0_init := x_den (by decide) (tX0_init_ok l)
noncomputable def tX3_init : List (Nat × xO) := [(0, x_aload 0 1), (1, x_obj), (4, x_aload 0 1), (5, x_push (.int (nI 7)) 2), (7, x_newa 10), (9, x_putR 2 0), (12, x_vret)]
set_option maxRecDepth 100000 in
theorem tX3_init_ok (l : Launch) : ∀ q ∈ tX3_init, xOK l cX3_init RX3 1 1 1 (yX3_init.name = "<init>") q.1 q.2 := by
  unfold tX3_init
  refine List.forall_mem_cons.mpr ⟨?_, List.forall_mem_cons.mpr ⟨?_, List.forall_mem_cons.mpr ⟨?_, List.forall_mem_cons.mpr ⟨?_, List.forall_mem_cons.mpr ⟨?_, List.forall_mem_cons.mpr ⟨?_, List.forall_mem_cons.mpr ⟨?_, fun _ h => absurd h List.not_mem_nil⟩⟩⟩⟩⟩⟩⟩
  · exact x_aload_n_ok (show decode cX3_init 0 = .ok (.aload_n 0, 1) by decide +kernel) rfl
  · exact x_obj_ok hw_213 hw_84 hw_85 (by decide) (show decode cX3_init 1 = .ok (.invokespecial 3, 3) by decide +kernel)
  · exact x_aload_n_ok (show decode cX3_init 4 = .ok (.aload_n 0, 1) by decide +kernel) rfl
  · exact x_bipush_ok (show decode cX3_init 5 = .ok (.bipush 7, 2) by decide +kernel) (by decide)
  · exact x_newa_ok (at' := .int) (ty := .int) rfl (by decide) hw_106 (show decode cX3_init 7 = .ok (.newarray .int, 2) by decide +kernel)
  · exact x_putR_ok (ci := 2) (k := 0) rfl (by decide) (by decide) (by first | exact Or.inl ⟨_, rfl⟩ | exact Or.inr ⟨_, rfl⟩) hw_214 ⟨rfl, rfl, rfl⟩ (show decode cX3_init 9 = .ok (.putfield 11, 3) by decide +kernel)
  · exact x_vret_ok (show decode cX3_init 12 = .ok (.return_, 1) by decide +kernel)
noncomputable def FX3_init : List Value → xS → Option xR := xden tX3_init 1 none 1
theorem sX3_init (l : Launch) : xSound l yX3_init cX3_init 1 none 1 1 FX3_init := x_den (by decide) (tX3_init_ok l)
noncomputable def tX8_init : List (Nat × xO) := [(0, x_aload 0 1), (1, x_obj), (4, x_aload 0 1), (5, x_push (.int (nI 6)) 2), (7, x_newq 14), (10, x_putR 6 0), (13, x_push (.int (nI 0)) 1), (14, x_istore 1 1), (15, x_iload 1 1), (16, x_push (.int (nI 6)) 2), (18, x_cmpge 40), (21, x_aload 0 1), (22, x_getR 6 0), (25, x_iload 1 1), (26, x_new 4), (29, x_dup), (30, x_init 1 FX5_init), (33, x_aast), (34, x_iinc 1 (nI 1)), (37, x_goto 15), (40, x_aload 0 1), (41, x_push (.int (nI 4)) 1), (42, x_newq 15), (45, x_putR 6 1), (48, x_push (.int (nI 0)) 1), (49, x_istore 1 1), (50, x_iload 1 1), (51, x_push (.int (nI 4)) 1), (52, x_cmpge 74), (55, x_aload 0 1), (56, x_getR 6 1), (59, x_iload 1 1), (60, x_new 5), (63, x_dup), (64, x_init 1 FX7_init), (67, x_aast), (68, x_iinc 1 (nI 1)), (71, x_goto 50), (74, x_aload 0 1), (75, x_new 3), (78, x_dup), (79, x_init 10 FX4_init), (82, x_putR 6 2), (85, x_aload 0 1), (86, x_push (.int (nI 3)) 1), (87, x_newq 13), (90, x_putR 6 3), (93, x_push (.int (nI 0)) 1), (94, x_istore 1 1), (95, x_iload 1 1), (96, x_push (.int (nI 3)) 1), (97, x_cmpge 119), (100, x_aload 0 1), (101, x_getR 6 3), (104, x_iload 1 1), (105, x_new 3), (108, x_dup), (109, x_init 10 FX4_init), (112, x_aast), (113, x_iinc 1 (nI 1)), (116, x_goto 95), (119, x_aload 0 1), (120, x_new 0), (123, x_dup), (124, x_init 2 FX0_init), (127, x_putR 6 4), (130, x_aload 0 1), (131, x_new 2), (134, x_dup), (135, x_init 1 FX3_init), (138, x_putR 6 5), (141, x_aload 0 1), (142, x_push (.int (nI 216)) 3), (145, x_newa 11), (147, x_putR 6 6), (150, x_aload 0 1), (151, x_push (.int (nI 216)) 3), (154, x_newa 11), (156, x_putR 6 7), (159, x_aload 0 1), (160, x_push (.int (nI 6)) 2), (162, x_newa 10), (164, x_putR 6 8), (167, x_aload 0 1), (168, x_push (.long 1) 1), (169, x_putL 6 12), (172, x_vret)]
set_option maxRecDepth 100000 in
theorem tX8_init_ok (l : Launch) : ∀ q ∈ tX8_init, xOK l cX8_init RX8 2 3 75 (yX8_init.name = "<init>") q.1 q.2 := by
  unfold tX8_init
  refine List.forall_mem_cons.mpr ⟨?_, List.forall_mem_cons.mpr ⟨?_, List.forall_mem_cons.mpr ⟨?_, List.forall_mem_cons.mpr ⟨?_, List.forall_mem_cons.mpr ⟨?_, List.forall_mem_cons.mpr ⟨?_, List.forall_mem_cons.mpr ⟨?_, List.forall_mem_cons.mpr ⟨?_, List.forall_mem_cons.mpr ⟨?_, List.forall_mem_cons.mpr ⟨?_, List.forall_mem_cons.mpr ⟨?_, List.forall_mem_cons.mpr ⟨?_, List.forall_mem_cons.mpr ⟨?_, List.forall_mem_cons.mpr ⟨?_, List.forall_mem_cons.mpr ⟨?_, List.forall_mem_cons.mpr ⟨?_, List.forall_mem_cons.mpr ⟨?_, List.forall_mem_cons.mpr ⟨?_, List.forall_mem_cons.mpr ⟨?_, List.forall_mem_cons.mpr ⟨?_, List.forall_mem_cons.mpr ⟨?_, List.forall_mem_cons.mpr ⟨?_, List.forall_mem_cons.mpr ⟨?_, List.forall_mem_cons.mpr ⟨?_, List.forall_mem_cons.mpr ⟨?_, List.forall_mem_cons.mpr ⟨?_, List.forall_mem_cons.mpr ⟨?_, List.forall_mem_cons.mpr ⟨?_, List.forall_mem_cons.mpr ⟨?_, List.forall_mem_cons.mpr ⟨?_, List.forall_mem_cons.mpr ⟨?_, List.forall_mem_cons.mpr ⟨?_, List.forall_mem_cons.mpr ⟨?_, List.forall_mem_cons.mpr ⟨?_, List.forall_mem_cons.mpr ⟨?_, List.forall_mem_cons.mpr ⟨?_, List.forall_mem_cons.mpr ⟨?_, List.forall_mem_cons.mpr ⟨?_, List.forall_mem_cons.mpr ⟨?_, List.forall_mem_cons.mpr ⟨?_, List.forall_mem_cons.mpr ⟨?_, List.forall_mem_cons.mpr ⟨?_, List.forall_mem_cons.mpr ⟨?_, List.forall_mem_cons.mpr ⟨?_, List.forall_mem_cons.mpr ⟨?_, List.forall_mem_cons.mpr ⟨?_, List.forall_mem_cons.mpr ⟨?_, List.forall_mem_cons.mpr ⟨?_, List.forall_mem_cons.mpr ⟨?_, List.forall_mem_cons.mpr ⟨?_, List.forall_mem_cons.mpr ⟨?_, List.forall_mem_cons.mpr ⟨?_, List.forall_mem_cons.mpr ⟨?_, List.forall_mem_cons.mpr ⟨?_, List.forall_mem_cons.mpr ⟨?_, List.forall_mem_cons.mpr ⟨?_, List.forall_mem_cons.mpr ⟨?_, List.forall_mem_cons.mpr ⟨?_, List.forall_mem_cons.mpr ⟨?_, List.forall_mem_cons.mpr ⟨?_, List.forall_mem_cons.mpr ⟨?_, List.forall_mem_cons.mpr ⟨?_, List.forall_mem_cons.mpr ⟨?_, List.forall_mem_cons.mpr ⟨?_, List.forall_mem_cons.mpr ⟨?_, List.forall_mem_cons.mpr ⟨?_, List.forall_mem_cons.mpr ⟨?_, List.forall_mem_cons.mpr ⟨?_, List.forall_mem_cons.mpr ⟨?_, List.forall_mem_cons.mpr ⟨?_, List.forall_mem_cons.mpr ⟨?_, List.forall_mem_cons.mpr ⟨?_, List.forall_mem_cons.mpr ⟨?_, List.forall_mem_cons.mpr ⟨?_, List.forall_mem_cons.mpr ⟨?_, List.forall_mem_cons.mpr ⟨?_, List.forall_mem_cons.mpr ⟨?_, List.forall_mem_cons.mpr ⟨?_, List.forall_mem_cons.mpr ⟨?_, List.forall_mem_cons.mpr ⟨?_, List.forall_mem_cons.mpr ⟨?_, List.forall_mem_cons.mpr ⟨?_, List.forall_mem_cons.mpr ⟨?_, List.forall_mem_cons.mpr ⟨?_, List.forall_mem_cons.mpr ⟨?_, List.forall_mem_cons.mpr ⟨?_, List.forall_mem_cons.mpr ⟨?_, fun _ h => absurd h List.not_mem_nil⟩⟩⟩⟩⟩⟩⟩⟩⟩⟩⟩⟩⟩⟩⟩⟩⟩⟩⟩⟩⟩⟩⟩⟩⟩⟩⟩⟩⟩⟩⟩⟩⟩⟩⟩⟩⟩⟩⟩⟩⟩⟩⟩⟩⟩⟩⟩⟩⟩⟩⟩⟩⟩⟩⟩⟩⟩⟩⟩⟩⟩⟩⟩⟩⟩⟩⟩⟩⟩⟩⟩⟩⟩⟩⟩⟩⟩⟩⟩⟩⟩⟩⟩⟩⟩⟩⟩
  · exact x_aload_n_ok (show decode cX8_init 0 = .ok (.aload_n 0, 1) by decide +kernel) rfl
  · exact x_obj_ok hw_83 hw_84 hw_85 (by decide) (show decode cX8_init 1 = .ok (.invokespecial 1, 3) by decide +kernel)
  · exact x_aload_n_ok (show decode cX8_init 4 = .ok (.aload_n 0, 1) by decide +kernel) rfl
  · exact x_bipush_ok (show decode cX8_init 5 = .ok (.bipush 6, 2) by decide +kernel) (by decide)
  · exact x_newq_ok (t0 := 5) (by decide) (fun _ => rfl) hw_86 (fun _ _ _ h => h.2.1.1) (show decode cX8_init 7 = .ok (.anewarray 9, 3) by decide +kernel)
  · exact x_putR_ok (ci := 6) (k := 0) rfl (by decide) (by decide) (by first | exact Or.inl ⟨_, rfl⟩ | exact Or.inr ⟨_, rfl⟩) hw_222 ⟨rfl, rfl, rfl⟩ (show decode cX8_init 10 = .ok (.putfield 11, 3) by decide +kernel)
  · exact x_iconst_ok (show decode cX8_init 13 = .ok (.iconst 0, 1) by decide +kernel) (by decide)
  · exact x_istore_n_ok (show decode cX8_init 14 = .ok (.istore_n 1, 1) by decide +kernel) rfl (by decide)
  · exact x_iload_n_ok (show decode cX8_init 15 = .ok (.iload_n 1, 1) by decide +kernel) rfl
  · exact x_bipush_ok (show decode cX8_init 16 = .ok (.bipush 6, 2) by decide +kernel) (by decide)
  · exact x_cmpge_ok (show decode cX8_init 18 = .ok (.if_icmp .ge 22, 3) by decide +kernel) (by decide)
  · exact x_aload_n_ok (show decode cX8_init 21 = .ok (.aload_n 0, 1) by decide +kernel) rfl
  · exact x_getR_ok (ci := 6) (k := 0) rfl (by decide) (by decide) hw_222 (show decode cX8_init 22 = .ok (.getfield 11, 3) by decide +kernel)
  · exact x_iload_n_ok (show decode cX8_init 25 = .ok (.iload_n 1, 1) by decide +kernel) rfl
  · exact x_new_ok (ci := 4) rfl (by decide) hw_86 hw_88 hw_62 (by decide) (show decode cX8_init 26 = .ok (.new 9, 3) by decide +kernel)
  · exact x_dup_ok (show decode cX8_init 29 = .ok (.dup, 1) by decide +kernel)
  · exact x_init_ok (sX5_init l) hw_91 hw_89 hw_90 hw_62 rfl ⟨by decide, by decide, by decide +kernel⟩ (by decide) (by decide) (show decode cX8_init 30 = .ok (.invokespecial 15, 3) by decide +kernel)
  · exact x_aast_ok (show decode cX8_init 33 = .ok (.aastore, 1) by decide +kernel)
  · exact x_iinc_ok (show decode cX8_init 34 = .ok (.iinc 1 1, 3) by decide +kernel) (by decide) (by decide)
  · exact x_goto_ok (show decode cX8_init 37 = .ok (.goto (-22), 3) by decide +kernel) (by decide)
  · exact x_aload_n_ok (show decode cX8_init 40 = .ok (.aload_n 0, 1) by decide +kernel) rfl
  · exact x_iconst_ok (show decode cX8_init 41 = .ok (.iconst 4, 1) by decide +kernel) (by decide)
  · exact x_newq_ok (t0 := 6) (by decide) (fun _ => rfl) hw_107 (fun _ _ _ h => h.2.1.2.1) (show decode cX8_init 42 = .ok (.anewarray 16, 3) by decide +kernel)
  · exact x_putR_ok (ci := 6) (k := 1) rfl (by decide) (by decide) (by first | exact Or.inl ⟨_, rfl⟩ | exact Or.inr ⟨_, rfl⟩) hw_223 ⟨rfl, rfl, rfl⟩ (show decode cX8_init 45 = .ok (.putfield 18, 3) by decide +kernel)
  · exact x_iconst_ok (show decode cX8_init 48 = .ok (.iconst 0, 1) by decide +kernel) (by decide)
  · exact x_istore_n_ok (show decode cX8_init 49 = .ok (.istore_n 1, 1) by decide +kernel) rfl (by decide)
  · exact x_iload_n_ok (show decode cX8_init 50 = .ok (.iload_n 1, 1) by decide +kernel) rfl
  · exact x_iconst_ok (show decode cX8_init 51 = .ok (.iconst 4, 1) by decide +kernel) (by decide)
  · exact x_cmpge_ok (show decode cX8_init 52 = .ok (.if_icmp .ge 22, 3) by decide +kernel) (by decide)
  · exact x_aload_n_ok (show decode cX8_init 55 = .ok (.aload_n 0, 1) by decide +kernel) rfl
  · exact x_getR_ok (ci := 6) (k := 1) rfl (by decide) (by decide) hw_223 (show decode cX8_init 56 = .ok (.getfield 18, 3) by decide +kernel)
  · exact x_iload_n_ok (show decode cX8_init 59 = .ok (.iload_n 1, 1) by decide +kernel) rfl
  · exact x_new_ok (ci := 5) rfl (by decide) hw_107 hw_109 hw_63 (by decide) (show decode cX8_init 60 = .ok (.new 16, 3) by decide +kernel)
  · exact x_dup_ok (show decode cX8_init 63 = .ok (.dup, 1) by decide +kernel)
  · exact x_init_ok (sX7_init l) hw_112 hw_110 hw_111 hw_63 rfl ⟨by decide, by decide, by decide +kernel⟩ (by decide) (by decide) (show decode cX8_init 64 = .ok (.invokespecial 22, 3) by decide +kernel)
  · exact x_aast_ok (show decode cX8_init 67 = .ok (.aastore, 1) by decide +kernel)
  · exact x_iinc_ok (show decode cX8_init 68 = .ok (.iinc 1 1, 3) by decide +kernel) (by decide) (by decide)
  · exact x_goto_ok (show decode cX8_init 71 = .ok (.goto (-21), 3) by decide +kernel) (by decide)
  · exact x_aload_n_ok (show decode cX8_init 74 = .ok (.aload_n 0, 1) by decide +kernel) rfl
  · exact x_new_ok (ci := 3) rfl (by decide) hw_124 hw_125 hw_64 (by decide) (show decode cX8_init 75 = .ok (.new 23, 3) by decide +kernel)
  · exact x_dup_ok (show decode cX8_init 78 = .ok (.dup, 1) by decide +kernel)
  · exact x_init_ok (sX4_init l) hw_128 hw_126 hw_127 hw_64 rfl ⟨by decide, by decide, by decide +kernel⟩ (by decide) (by decide) (show decode cX8_init 79 = .ok (.invokespecial 25, 3) by decide +kernel)
  · exact x_putR_ok (ci := 6) (k := 2) rfl (by decide) (by decide) (by first | exact Or.inl ⟨_, rfl⟩ | exact Or.inr ⟨_, rfl⟩) hw_224 ⟨rfl, rfl, rfl⟩ (show decode cX8_init 82 = .ok (.putfield 26, 3) by decide +kernel)
  · exact x_aload_n_ok (show decode cX8_init 85 = .ok (.aload_n 0, 1) by decide +kernel) rfl
  · exact x_iconst_ok (show decode cX8_init 86 = .ok (.iconst 3, 1) by decide +kernel) (by decide)
  · exact x_newq_ok (t0 := 4) (by decide) (fun _ => rfl) hw_124 (fun _ _ _ h => h.2.1.2.2.2) (show decode cX8_init 87 = .ok (.anewarray 23, 3) by decide +kernel)
  · exact x_putR_ok (ci := 6) (k := 3) rfl (by decide) (by decide) (by first | exact Or.inl ⟨_, rfl⟩ | exact Or.inr ⟨_, rfl⟩) hw_225 ⟨rfl, rfl, rfl⟩ (show decode cX8_init 90 = .ok (.putfield 30, 3) by decide +kernel)
  · exact x_iconst_ok (show decode cX8_init 93 = .ok (.iconst 0, 1) by decide +kernel) (by decide)
  · exact x_istore_n_ok (show decode cX8_init 94 = .ok (.istore_n 1, 1) by decide +kernel) rfl (by decide)
  · exact x_iload_n_ok (show decode cX8_init 95 = .ok (.iload_n 1, 1) by decide +kernel) rfl
  · exact x_iconst_ok (show decode cX8_init 96 = .ok (.iconst 3, 1) by decide +kernel) (by decide)
  · exact x_cmpge_ok (show decode cX8_init 97 = .ok (.if_icmp .ge 22, 3) by decide +kernel) (by decide)
  · exact x_aload_n_ok (show decode cX8_init 100 = .ok (.aload_n 0, 1) by decide +kernel) rfl
  · exact x_getR_ok (ci := 6) (k := 3) rfl (by decide) (by decide) hw_225 (show decode cX8_init 101 = .ok (.getfield 30, 3) by decide +kernel)
  · exact x_iload_n_ok (show decode cX8_init 104 = .ok (.iload_n 1, 1) by decide +kernel) rfl
  · exact x_new_ok (ci := 3) rfl (by decide) hw_124 hw_125 hw_64 (by decide) (show decode cX8_init 105 = .ok (.new 23, 3) by decide +kernel)
  · exact x_dup_ok (show decode cX8_init 108 = .ok (.dup, 1) by decide +kernel)
  · exact x_init_ok (sX4_init l) hw_128 hw_126 hw_127 hw_64 rfl ⟨by decide, by decide, by decide +kernel⟩ (by decide) (by decide) (show decode cX8_init 109 = .ok (.invokespecial 25, 3) by decide +kernel)
  · exact x_aast_ok (show decode cX8_init 112 = .ok (.aastore, 1) by decide +kernel)
  · exact x_iinc_ok (show decode cX8_init 113 = .ok (.iinc 1 1, 3) by decide +kernel) (by decide) (by decide)
  · exact x_goto_ok (show decode cX8_init 116 = .ok (.goto (-21), 3) by decide +kernel) (by decide)
  · exact x_aload_n_ok (show decode cX8_init 119 = .ok (.aload_n 0, 1) by decide +kernel) rfl
  · exact x_new_ok (ci := 0) rfl (by decide) hw_195 hw_196 hw_66 (by decide) (show decode cX8_init 120 = .ok (.new 34, 3) by decide +kernel)
  · exact x_dup_ok (show decode cX8_init 123 = .ok (.dup, 1) by decide +kernel)
  · exact x_init_ok (sX0_init l) hw_199 hw_197 hw_198 hw_66 rfl ⟨by decide, by decide, by decide +kernel⟩ (by decide) (by decide) (show decode cX8_init 124 = .ok (.invokespecial 36, 3) by decide +kernel)
  · exact x_putR_ok (ci := 6) (k := 4) rfl (by decide) (by decide) (by first | exact Or.inl ⟨_, rfl⟩ | exact Or.inr ⟨_, rfl⟩) hw_226 ⟨rfl, rfl, rfl⟩ (show decode cX8_init 127 = .ok (.putfield 37, 3) by decide +kernel)
  · exact x_aload_n_ok (show decode cX8_init 130 = .ok (.aload_n 0, 1) by decide +kernel) rfl
  · exact x_new_ok (ci := 2) rfl (by decide) hw_208 hw_209 hw_67 (by decide) (show decode cX8_init 131 = .ok (.new 41, 3) by decide +kernel)
  · exact x_dup_ok (show decode cX8_init 134 = .ok (.dup, 1) by decide +kernel)
  · exact x_init_ok (sX3_init l) hw_212 hw_210 hw_211 hw_67 rfl ⟨by decide, by decide, by decide +kernel⟩ (by decide) (by decide) (show decode cX8_init 135 = .ok (.invokespecial 43, 3) by decide +kernel)
  · exact x_putR_ok (ci := 6) (k := 5) rfl (by decide) (by decide) (by first | exact Or.inl ⟨_, rfl⟩ | exact Or.inr ⟨_, rfl⟩) hw_227 ⟨rfl, rfl, rfl⟩ (show decode cX8_init 138 = .ok (.putfield 44, 3) by decide +kernel)
  · exact x_aload_n_ok (show decode cX8_init 141 = .ok (.aload_n 0, 1) by decide +kernel) rfl
  · exact x_sipush_ok (show decode cX8_init 142 = .ok (.sipush 216, 3) by decide +kernel) (by decide)
  · exact x_newa_ok (at' := .boolean) (ty := .boolean) rfl (by decide) hw_193 (show decode cX8_init 145 = .ok (.newarray .boolean, 2) by decide +kernel)
  · exact x_putR_ok (ci := 6) (k := 6) rfl (by decide) (by decide) (by first | exact Or.inl ⟨_, rfl⟩ | exact Or.inr ⟨_, rfl⟩) hw_228 ⟨rfl, rfl, rfl⟩ (show decode cX8_init 147 = .ok (.putfield 50, 3) by decide +kernel)
  · exact x_aload_n_ok (show decode cX8_init 150 = .ok (.aload_n 0, 1) by decide +kernel) rfl
  · exact x_sipush_ok (show decode cX8_init 151 = .ok (.sipush 216, 3) by decide +kernel) (by decide)
  · exact x_newa_ok (at' := .boolean) (ty := .boolean) rfl (by decide) hw_193 (show decode cX8_init 154 = .ok (.newarray .boolean, 2) by decide +kernel)
  · exact x_putR_ok (ci := 6) (k := 7) rfl (by decide) (by decide) (by first | exact Or.inl ⟨_, rfl⟩ | exact Or.inr ⟨_, rfl⟩) hw_229 ⟨rfl, rfl, rfl⟩ (show decode cX8_init 156 = .ok (.putfield 54, 3) by decide +kernel)
  · exact x_aload_n_ok (show decode cX8_init 159 = .ok (.aload_n 0, 1) by decide +kernel) rfl
  · exact x_bipush_ok (show decode cX8_init 160 = .ok (.bipush 6, 2) by decide +kernel) (by decide)
  · exact x_newa_ok (at' := .int) (ty := .int) rfl (by decide) hw_106 (show decode cX8_init 162 = .ok (.newarray .int, 2) by decide +kernel)
  · exact x_putR_ok (ci := 6) (k := 8) rfl (by decide) (by decide) (by first | exact Or.inl ⟨_, rfl⟩ | exact Or.inr ⟨_, rfl⟩) hw_230 ⟨rfl, rfl, rfl⟩ (show decode cX8_init 164 = .ok (.putfield 57, 3) by decide +kernel)
  · exact x_aload_n_ok (show decode cX8_init 167 = .ok (.aload_n 0, 1) by decide +kernel) rfl
  · exact x_lconst_ok (show decode cX8_init 168 = .ok (.lconst 1, 1) by decide +kernel) rfl
  · exact x_putL_ok (ci := 6) (k := 12) rfl (by decide) (by decide) rfl hw_234 rfl (show decode cX8_init 169 = .ok (.putfield 61, 3) by decide +kernel)
  · exact x_vret_ok (show decode cX8_init 172 = .ok (.return_, 1) by decide +kernel)
noncomputable def FX8_init : List Value → xS → Option xR := xden tX8_init 2 none 75
theorem sX8_init (l : Launch) : xSound l yX8_init cX8_init 2 none 3 75 FX8_init := x_den (by decide) (tX8_init_ok l)
noncomputable def tX9_init : List (Nat × xO) := [(0, x_aload 0 1), (1, x_obj), (4, x_aload 0 1), (5, x_push (.int (nI 1704)) 3), (8, x_newa 10), (10, x_putR 7 0), (13, x_aload 0 1), (14, x_push (.int (nI 6)) 2), (16, x_newa 10), (18, x_dup), (19, x_push (.int (nI 0)) 1), (20, x_push (.int (-1)) 1), (21, x_iast), (22, x_dup), (23, x_push (.int (nI 1)) 1), (24, x_push (.int (-1)) 1), (25, x_iast), (26, x_dup), (27, x_push (.int (nI 2)) 1), (28, x_push (.int (-1)) 1), (29, x_iast), (30, x_dup), (31, x_push (.int (nI 3)) 1), (32, x_push (.int (-1)) 1), (33, x_iast), (34, x_dup), (35, x_push (.int (nI 4)) 1), (36, x_push (.int (-1)) 1), (37, x_iast), (38, x_dup), (39, x_push (.int (nI 5)) 1), (40, x_push (.int (-1)) 1), (41, x_iast), (42, x_putR 7 1), (45, x_aload 0 1), (46, x_push (.int (nI 240)) 3), (49, x_newa 10), (51, x_putR 7 2), (54, x_aload 0 1), (55, x_push (.int (nI 4)) 1), (56, x_newa 10), (58, x_dup), (59, x_push (.int (nI 0)) 1), (60, x_push (.int (-1)) 1), (61, x_iast), (62, x_dup), (63, x_push (.int (nI 1)) 1), (64, x_push (.int (-1)) 1), (65, x_iast), (66, x_dup), (67, x_push (.int (nI 2)) 1), (68, x_push (.int (-1)) 1), (69, x_iast), (70, x_dup), (71, x_push (.int (nI 3)) 1), (72, x_push (.int (-1)) 1), (73, x_iast), (74, x_putR 7 3), (77, x_aload 0 1), (78, x_push (.int (nI 320)) 3), (81, x_newa 10), (83, x_putR 7 4), (86, x_aload 0 1), (87, x_push (.long 1) 1), (88, x_putL 7 7), (91, x_aload 0 1), (92, x_push (.int (nI 6)) 2), (94, x_newa 10), (96, x_putR 7 9), (99, x_aload 0 1), (100, x_push (.int (nI 64)) 2), (102, x_newa 10), (104, x_putR 7 13), (107, x_aload 0 1), (108, x_push (.int (nI 216)) 3), (111, x_newa 11), (113, x_putR 7 16), (116, x_aload 0 1), (117, x_push (.int (nI 64)) 2), (119, x_newa 10), (121, x_putR 7 17), (124, x_aload 0 1), (125, x_push (.int (nI 7)) 2), (127, x_newa 10), (129, x_putR 7 18), (132, x_aload 0 1), (133, x_push (.int (nI 216)) 3), (136, x_newa 10), (138, x_putR 7 19), (141, x_aload 0 1), (142, x_push (.int (nI 216)) 3), (145, x_newa 10), (147, x_putR 7 20), (150, x_push (.int (nI 1)) 1), (151, x_istore 1 1), (152, x_iload 1 1), (153, x_push (.int (nI 4)) 1), (154, x_cmpge 176), (157, x_aload 0 1), (158, x_getR 7 0), (161, x_push (.int (nI 426)) 3), (164, x_iload 1 1), (165, x_ii (fun x y => x * y)), (166, x_push (.int (nI 0)) 1), (167, x_ii (fun x y => x + y)), (168, x_push (.int (-1)) 1), (169, x_iast), (170, x_iinc 1 (nI 1)), (173, x_goto 152), (176, x_vret)]
set_option maxRecDepth 100000 in
theorem tX9_init_ok (l : Launch) : ∀ q ∈ tX9_init, xOK l cX9_init RX9 2 1 12 (yX9_init.name = "<init>") q.1 q.2 := by
  unfold tX9_init
  refine List.forall_mem_cons.mpr ⟨?_, List.forall_mem_cons.mpr ⟨?_, List.forall_mem_cons.mpr ⟨?_, List.forall_mem_cons.mpr ⟨?_, List.forall_mem_cons.mpr ⟨?_, List.forall_mem_cons.mpr ⟨?_, List.forall_mem_cons.mpr ⟨?_, List.forall_mem_cons.mpr ⟨?_, List.forall_mem_cons.mpr ⟨?_, List.forall_mem_cons.mpr ⟨?_, List.forall_mem_cons.mpr ⟨?_, List.forall_mem_cons.mpr ⟨?_, List.forall_mem_cons.mpr ⟨?_, List.forall_mem_cons.mpr ⟨?_, List.forall_mem_cons.mpr ⟨?_, List.forall_mem_cons.mpr ⟨?_, List.forall_mem_cons.mpr ⟨?_, List.forall_mem_cons.mpr ⟨?_, List.forall_mem_cons.mpr ⟨?_, List.forall_mem_cons.mpr ⟨?_, List.forall_mem_cons.mpr ⟨?_, List.forall_mem_cons.mpr ⟨?_, List.forall_mem_cons.mpr ⟨?_, List.forall_mem_cons.mpr ⟨?_, List.forall_mem_cons.mpr ⟨?_, List.forall_mem_cons.mpr ⟨?_, List.forall_mem_cons.mpr ⟨?_, List.forall_mem_cons.mpr ⟨?_, List.forall_mem_cons.mpr ⟨?_, List.forall_mem_cons.mpr ⟨?_, List.forall_mem_cons.mpr ⟨?_, List.forall_mem_cons.mpr ⟨?_, List.forall_mem_cons.mpr ⟨?_, List.forall_mem_cons.mpr ⟨?_, List.forall_mem_cons.mpr ⟨?_, List.forall_mem_cons.mpr ⟨?_, List.forall_mem_cons.mpr ⟨?_, List.forall_mem_cons.mpr ⟨?_, List.forall_mem_cons.mpr ⟨?_, List.forall_mem_cons.mpr ⟨?_, List.forall_mem_cons.mpr ⟨?_, List.forall_mem_cons.mpr ⟨?_, List.forall_mem_cons.mpr ⟨?_, List.forall_mem_cons.mpr ⟨?_, List.forall_mem_cons.mpr ⟨?_, List.forall_mem_cons.mpr ⟨?_, List.forall_mem_cons.mpr ⟨?_, List.forall_mem_cons.mpr ⟨?_, List.forall_mem_cons.mpr ⟨?_, List.forall_mem_cons.mpr ⟨?_, List.forall_mem_cons.mpr ⟨?_, List.forall_mem_cons.mpr ⟨?_, List.forall_mem_cons.mpr ⟨?_, List.forall_mem_cons.mpr ⟨?_, List.forall_mem_cons.mpr ⟨?_, List.forall_mem_cons.mpr ⟨?_, List.forall_mem_cons.mpr ⟨?_, List.forall_mem_cons.mpr ⟨?_, List.forall_mem_cons.mpr ⟨?_, List.forall_mem_cons.mpr ⟨?_, List.forall_mem_cons.mpr ⟨?_, List.forall_mem_cons.mpr ⟨?_, List.forall_mem_cons.mpr ⟨?_, List.forall_mem_cons.mpr ⟨?_, List.forall_mem_cons.mpr ⟨?_, List.forall_mem_cons.mpr ⟨?_, List.forall_mem_cons.mpr ⟨?_, List.forall_mem_cons.mpr ⟨?_, List.forall_mem_cons.mpr ⟨?_, List.forall_mem_cons.mpr ⟨?_, List.forall_mem_cons.mpr ⟨?_, List.forall_mem_cons.mpr ⟨?_, List.forall_mem_cons.mpr ⟨?_, List.forall_mem_cons.mpr ⟨?_, List.forall_mem_cons.mpr ⟨?_, List.forall_mem_cons.mpr ⟨?_, List.forall_mem_cons.mpr ⟨?_, List.forall_mem_cons.mpr ⟨?_, List.forall_mem_cons.mpr ⟨?_, List.forall_mem_cons.mpr ⟨?_, List.forall_mem_cons.mpr ⟨?_, List.forall_mem_cons.mpr ⟨?_, List.forall_mem_cons.mpr ⟨?_, List.forall_mem_cons.mpr ⟨?_, List.forall_mem_cons.mpr ⟨?_, List.forall_mem_cons.mpr ⟨?_, List.forall_mem_cons.mpr ⟨?_, List.forall_mem_cons.mpr ⟨?_, List.forall_mem_cons.mpr ⟨?_, List.forall_mem_cons.mpr ⟨?_, List.forall_mem_cons.mpr ⟨?_, List.forall_mem_cons.mpr ⟨?_, List.forall_mem_cons.mpr ⟨?_, List.forall_mem_cons.mpr ⟨?_, List.forall_mem_cons.mpr ⟨?_, List.forall_mem_cons.mpr ⟨?_, List.forall_mem_cons.mpr ⟨?_, List.forall_mem_cons.mpr ⟨?_, List.forall_mem_cons.mpr ⟨?_, List.forall_mem_cons.mpr ⟨?_, List.forall_mem_cons.mpr ⟨?_, List.forall_mem_cons.mpr ⟨?_, List.forall_mem_cons.mpr ⟨?_, List.forall_mem_cons.mpr ⟨?_, List.forall_mem_cons.mpr ⟨?_, List.forall_mem_cons.mpr ⟨?_, List.forall_mem_cons.mpr ⟨?_, List.forall_mem_cons.mpr ⟨?_, List.forall_mem_cons.mpr ⟨?_, List.forall_mem_cons.mpr ⟨?_, fun _ h => absurd h List.not_mem_nil⟩⟩⟩⟩⟩⟩⟩⟩⟩⟩⟩⟩⟩⟩⟩⟩⟩⟩⟩⟩⟩⟩⟩⟩⟩⟩⟩⟩⟩⟩⟩⟩⟩⟩⟩⟩⟩⟩⟩⟩⟩⟩⟩⟩⟩⟩⟩⟩⟩⟩⟩⟩⟩⟩⟩⟩⟩⟩⟩⟩⟩⟩⟩⟩⟩⟩⟩⟩⟩⟩⟩⟩⟩⟩⟩⟩⟩⟩⟩⟩⟩⟩⟩⟩⟩⟩⟩⟩⟩⟩⟩⟩⟩⟩⟩⟩⟩⟩⟩⟩⟩⟩⟩⟩⟩⟩⟩⟩⟩⟩
  · exact x_aload_n_ok (show decode cX9_init 0 = .ok (.aload_n 0, 1) by decide +kernel) rfl
  · exact x_obj_ok hw_843 hw_84 hw_85 (by decide) (show decode cX9_init 1 = .ok (.invokespecial 1, 3) by decide +kernel)
  · exact x_aload_n_ok (show decode cX9_init 4 = .ok (.aload_n 0, 1) by decide +kernel) rfl
  · exact x_sipush_ok (show decode cX9_init 5 = .ok (.sipush 1704, 3) by decide +kernel) (by decide)
  · exact x_newa_ok (at' := .int) (ty := .int) rfl (by decide) hw_106 (show decode cX9_init 8 = .ok (.newarray .int, 2) by decide +kernel)
  · exact x_putR_ok (ci := 7) (k := 0) rfl (by decide) (by decide) (by first | exact Or.inl ⟨_, rfl⟩ | exact Or.inr ⟨_, rfl⟩) hw_844 ⟨rfl, rfl, rfl⟩ (show decode cX9_init 10 = .ok (.putfield 7, 3) by decide +kernel)
  · exact x_aload_n_ok (show decode cX9_init 13 = .ok (.aload_n 0, 1) by decide +kernel) rfl
  · exact x_bipush_ok (show decode cX9_init 14 = .ok (.bipush 6, 2) by decide +kernel) (by decide)
  · exact x_newa_ok (at' := .int) (ty := .int) rfl (by decide) hw_106 (show decode cX9_init 16 = .ok (.newarray .int, 2) by decide +kernel)
  · exact x_dup_ok (show decode cX9_init 18 = .ok (.dup, 1) by decide +kernel)
  · exact x_iconst_ok (show decode cX9_init 19 = .ok (.iconst 0, 1) by decide +kernel) (by decide)
  · exact x_iconst_ok (show decode cX9_init 20 = .ok (.iconst (-1), 1) by decide +kernel) (by decide)
  · exact x_iast_ok (show decode cX9_init 21 = .ok (.iastore, 1) by decide +kernel)
  · exact x_dup_ok (show decode cX9_init 22 = .ok (.dup, 1) by decide +kernel)
  · exact x_iconst_ok (show decode cX9_init 23 = .ok (.iconst 1, 1) by decide +kernel) (by decide)
  · exact x_iconst_ok (show decode cX9_init 24 = .ok (.iconst (-1), 1) by decide +kernel) (by decide)
  · exact x_iast_ok (show decode cX9_init 25 = .ok (.iastore, 1) by decide +kernel)
  · exact x_dup_ok (show decode cX9_init 26 = .ok (.dup, 1) by decide +kernel)
  · exact x_iconst_ok (show decode cX9_init 27 = .ok (.iconst 2, 1) by decide +kernel) (by decide)
  · exact x_iconst_ok (show decode cX9_init 28 = .ok (.iconst (-1), 1) by decide +kernel) (by decide)
  · exact x_iast_ok (show decode cX9_init 29 = .ok (.iastore, 1) by decide +kernel)
  · exact x_dup_ok (show decode cX9_init 30 = .ok (.dup, 1) by decide +kernel)
  · exact x_iconst_ok (show decode cX9_init 31 = .ok (.iconst 3, 1) by decide +kernel) (by decide)
  · exact x_iconst_ok (show decode cX9_init 32 = .ok (.iconst (-1), 1) by decide +kernel) (by decide)
  · exact x_iast_ok (show decode cX9_init 33 = .ok (.iastore, 1) by decide +kernel)
  · exact x_dup_ok (show decode cX9_init 34 = .ok (.dup, 1) by decide +kernel)
  · exact x_iconst_ok (show decode cX9_init 35 = .ok (.iconst 4, 1) by decide +kernel) (by decide)
  · exact x_iconst_ok (show decode cX9_init 36 = .ok (.iconst (-1), 1) by decide +kernel) (by decide)
  · exact x_iast_ok (show decode cX9_init 37 = .ok (.iastore, 1) by decide +kernel)
  · exact x_dup_ok (show decode cX9_init 38 = .ok (.dup, 1) by decide +kernel)
  · exact x_iconst_ok (show decode cX9_init 39 = .ok (.iconst 5, 1) by decide +kernel) (by decide)
  · exact x_iconst_ok (show decode cX9_init 40 = .ok (.iconst (-1), 1) by decide +kernel) (by decide)
  · exact x_iast_ok (show decode cX9_init 41 = .ok (.iastore, 1) by decide +kernel)
  · exact x_putR_ok (ci := 7) (k := 1) rfl (by decide) (by decide) (by first | exact Or.inl ⟨_, rfl⟩ | exact Or.inr ⟨_, rfl⟩) hw_845 ⟨rfl, rfl, rfl⟩ (show decode cX9_init 42 = .ok (.putfield 13, 3) by decide +kernel)
  · exact x_aload_n_ok (show decode cX9_init 45 = .ok (.aload_n 0, 1) by decide +kernel) rfl
  · exact x_sipush_ok (show decode cX9_init 46 = .ok (.sipush 240, 3) by decide +kernel) (by decide)
  · exact x_newa_ok (at' := .int) (ty := .int) rfl (by decide) hw_106 (show decode cX9_init 49 = .ok (.newarray .int, 2) by decide +kernel)
  · exact x_putR_ok (ci := 7) (k := 2) rfl (by decide) (by decide) (by first | exact Or.inl ⟨_, rfl⟩ | exact Or.inr ⟨_, rfl⟩) hw_846 ⟨rfl, rfl, rfl⟩ (show decode cX9_init 51 = .ok (.putfield 16, 3) by decide +kernel)
  · exact x_aload_n_ok (show decode cX9_init 54 = .ok (.aload_n 0, 1) by decide +kernel) rfl
  · exact x_iconst_ok (show decode cX9_init 55 = .ok (.iconst 4, 1) by decide +kernel) (by decide)
  · exact x_newa_ok (at' := .int) (ty := .int) rfl (by decide) hw_106 (show decode cX9_init 56 = .ok (.newarray .int, 2) by decide +kernel)
  · exact x_dup_ok (show decode cX9_init 58 = .ok (.dup, 1) by decide +kernel)
  · exact x_iconst_ok (show decode cX9_init 59 = .ok (.iconst 0, 1) by decide +kernel) (by decide)
  · exact x_iconst_ok (show decode cX9_init 60 = .ok (.iconst (-1), 1) by decide +kernel) (by decide)
  · exact x_iast_ok (show decode cX9_init 61 = .ok (.iastore, 1) by decide +kernel)
  · exact x_dup_ok (show decode cX9_init 62 = .ok (.dup, 1) by decide +kernel)
  · exact x_iconst_ok (show decode cX9_init 63 = .ok (.iconst 1, 1) by decide +kernel) (by decide)
  · exact x_iconst_ok (show decode cX9_init 64 = .ok (.iconst (-1), 1) by decide +kernel) (by decide)
  · exact x_iast_ok (show decode cX9_init 65 = .ok (.iastore, 1) by decide +kernel)
  · exact x_dup_ok (show decode cX9_init 66 = .ok (.dup, 1) by decide +kernel)
  · exact x_iconst_ok (show decode cX9_init 67 = .ok (.iconst 2, 1) by decide +kernel) (by decide)
  · exact x_iconst_ok (show decode cX9_init 68 = .ok (.iconst (-1), 1) by decide +kernel) (by decide)
  · exact x_iast_ok (show decode cX9_init 69 = .ok (.iastore, 1) by decide +kernel)
  · exact x_dup_ok (show decode cX9_init 70 = .ok (.dup, 1) by decide +kernel)
  · exact x_iconst_ok (show decode cX9_init 71 = .ok (.iconst 3, 1) by decide +kernel) (by decide)
  · exact x_iconst_ok (show decode cX9_init 72 = .ok (.iconst (-1), 1) by decide +kernel) (by decide)
  · exact x_iast_ok (show decode cX9_init 73 = .ok (.iastore, 1) by decide +kernel)
  · exact x_putR_ok (ci := 7) (k := 3) rfl (by decide) (by decide) (by first | exact Or.inl ⟨_, rfl⟩ | exact Or.inr ⟨_, rfl⟩) hw_847 ⟨rfl, rfl, rfl⟩ (show decode cX9_init 74 = .ok (.putfield 19, 3) by decide +kernel)
  · exact x_aload_n_ok (show decode cX9_init 77 = .ok (.aload_n 0, 1) by decide +kernel) rfl
  · exact x_sipush_ok (show decode cX9_init 78 = .ok (.sipush 320, 3) by decide +kernel) (by decide)
  · exact x_newa_ok (at' := .int) (ty := .int) rfl (by decide) hw_106 (show decode cX9_init 81 = .ok (.newarray .int, 2) by decide +kernel)
  · exact x_putR_ok (ci := 7) (k := 4) rfl (by decide) (by decide) (by first | exact Or.inl ⟨_, rfl⟩ | exact Or.inr ⟨_, rfl⟩) hw_848 ⟨rfl, rfl, rfl⟩ (show decode cX9_init 83 = .ok (.putfield 22, 3) by decide +kernel)
  · exact x_aload_n_ok (show decode cX9_init 86 = .ok (.aload_n 0, 1) by decide +kernel) rfl
  · exact x_lconst_ok (show decode cX9_init 87 = .ok (.lconst 1, 1) by decide +kernel) rfl
  · exact x_putL_ok (ci := 7) (k := 7) rfl (by decide) (by decide) rfl hw_851 rfl (show decode cX9_init 88 = .ok (.putfield 25, 3) by decide +kernel)
  · exact x_aload_n_ok (show decode cX9_init 91 = .ok (.aload_n 0, 1) by decide +kernel) rfl
  · exact x_bipush_ok (show decode cX9_init 92 = .ok (.bipush 6, 2) by decide +kernel) (by decide)
  · exact x_newa_ok (at' := .int) (ty := .int) rfl (by decide) hw_106 (show decode cX9_init 94 = .ok (.newarray .int, 2) by decide +kernel)
  · exact x_putR_ok (ci := 7) (k := 9) rfl (by decide) (by decide) (by first | exact Or.inl ⟨_, rfl⟩ | exact Or.inr ⟨_, rfl⟩) hw_853 ⟨rfl, rfl, rfl⟩ (show decode cX9_init 96 = .ok (.putfield 29, 3) by decide +kernel)
  · exact x_aload_n_ok (show decode cX9_init 99 = .ok (.aload_n 0, 1) by decide +kernel) rfl
  · exact x_bipush_ok (show decode cX9_init 100 = .ok (.bipush 64, 2) by decide +kernel) (by decide)
  · exact x_newa_ok (at' := .int) (ty := .int) rfl (by decide) hw_106 (show decode cX9_init 102 = .ok (.newarray .int, 2) by decide +kernel)
  · exact x_putR_ok (ci := 7) (k := 13) rfl (by decide) (by decide) (by first | exact Or.inl ⟨_, rfl⟩ | exact Or.inr ⟨_, rfl⟩) hw_857 ⟨rfl, rfl, rfl⟩ (show decode cX9_init 104 = .ok (.putfield 32, 3) by decide +kernel)
  · exact x_aload_n_ok (show decode cX9_init 107 = .ok (.aload_n 0, 1) by decide +kernel) rfl
  · exact x_sipush_ok (show decode cX9_init 108 = .ok (.sipush 216, 3) by decide +kernel) (by decide)
  · exact x_newa_ok (at' := .boolean) (ty := .boolean) rfl (by decide) hw_193 (show decode cX9_init 111 = .ok (.newarray .boolean, 2) by decide +kernel)
  · exact x_putR_ok (ci := 7) (k := 16) rfl (by decide) (by decide) (by first | exact Or.inl ⟨_, rfl⟩ | exact Or.inr ⟨_, rfl⟩) hw_860 ⟨rfl, rfl, rfl⟩ (show decode cX9_init 113 = .ok (.putfield 35, 3) by decide +kernel)
  · exact x_aload_n_ok (show decode cX9_init 116 = .ok (.aload_n 0, 1) by decide +kernel) rfl
  · exact x_bipush_ok (show decode cX9_init 117 = .ok (.bipush 64, 2) by decide +kernel) (by decide)
  · exact x_newa_ok (at' := .int) (ty := .int) rfl (by decide) hw_106 (show decode cX9_init 119 = .ok (.newarray .int, 2) by decide +kernel)
  · exact x_putR_ok (ci := 7) (k := 17) rfl (by decide) (by decide) (by first | exact Or.inl ⟨_, rfl⟩ | exact Or.inr ⟨_, rfl⟩) hw_861 ⟨rfl, rfl, rfl⟩ (show decode cX9_init 121 = .ok (.putfield 39, 3) by decide +kernel)
  · exact x_aload_n_ok (show decode cX9_init 124 = .ok (.aload_n 0, 1) by decide +kernel) rfl
  · exact x_bipush_ok (show decode cX9_init 125 = .ok (.bipush 7, 2) by decide +kernel) (by decide)
  · exact x_newa_ok (at' := .int) (ty := .int) rfl (by decide) hw_106 (show decode cX9_init 127 = .ok (.newarray .int, 2) by decide +kernel)
  · exact x_putR_ok (ci := 7) (k := 18) rfl (by decide) (by decide) (by first | exact Or.inl ⟨_, rfl⟩ | exact Or.inr ⟨_, rfl⟩) hw_862 ⟨rfl, rfl, rfl⟩ (show decode cX9_init 129 = .ok (.putfield 42, 3) by decide +kernel)
  · exact x_aload_n_ok (show decode cX9_init 132 = .ok (.aload_n 0, 1) by decide +kernel) rfl
  · exact x_sipush_ok (show decode cX9_init 133 = .ok (.sipush 216, 3) by decide +kernel) (by decide)
  · exact x_newa_ok (at' := .int) (ty := .int) rfl (by decide) hw_106 (show decode cX9_init 136 = .ok (.newarray .int, 2) by decide +kernel)
  · exact x_putR_ok (ci := 7) (k := 19) rfl (by decide) (by decide) (by first | exact Or.inl ⟨_, rfl⟩ | exact Or.inr ⟨_, rfl⟩) hw_863 ⟨rfl, rfl, rfl⟩ (show decode cX9_init 138 = .ok (.putfield 45, 3) by decide +kernel)
  · exact x_aload_n_ok (show decode cX9_init 141 = .ok (.aload_n 0, 1) by decide +kernel) rfl
  · exact x_sipush_ok (show decode cX9_init 142 = .ok (.sipush 216, 3) by decide +kernel) (by decide)
  · exact x_newa_ok (at' := .int) (ty := .int) rfl (by decide) hw_106 (show decode cX9_init 145 = .ok (.newarray .int, 2) by decide +kernel)
  · exact x_putR_ok (ci := 7) (k := 20) rfl (by decide) (by decide) (by first | exact Or.inl ⟨_, rfl⟩ | exact Or.inr ⟨_, rfl⟩) hw_864 ⟨rfl, rfl, rfl⟩ (show decode cX9_init 147 = .ok (.putfield 48, 3) by decide +kernel)
  · exact x_iconst_ok (show decode cX9_init 150 = .ok (.iconst 1, 1) by decide +kernel) (by decide)
  · exact x_istore_n_ok (show decode cX9_init 151 = .ok (.istore_n 1, 1) by decide +kernel) rfl (by decide)
  · exact x_iload_n_ok (show decode cX9_init 152 = .ok (.iload_n 1, 1) by decide +kernel) rfl
  · exact x_iconst_ok (show decode cX9_init 153 = .ok (.iconst 4, 1) by decide +kernel) (by decide)
  · exact x_cmpge_ok (show decode cX9_init 154 = .ok (.if_icmp .ge 22, 3) by decide +kernel) (by decide)
  · exact x_aload_n_ok (show decode cX9_init 157 = .ok (.aload_n 0, 1) by decide +kernel) rfl
  · exact x_getR_ok (ci := 7) (k := 0) rfl (by decide) (by decide) hw_844 (show decode cX9_init 158 = .ok (.getfield 7, 3) by decide +kernel)
  · exact x_sipush_ok (show decode cX9_init 161 = .ok (.sipush 426, 3) by decide +kernel) (by decide)
  · exact x_iload_n_ok (show decode cX9_init 164 = .ok (.iload_n 1, 1) by decide +kernel) rfl
  · exact x_imul_ok (show decode cX9_init 165 = .ok (.imul, 1) by decide +kernel)
  · exact x_iconst_ok (show decode cX9_init 166 = .ok (.iconst 0, 1) by decide +kernel) (by decide)
  · exact x_iadd_ok (show decode cX9_init 167 = .ok (.iadd, 1) by decide +kernel)
  · exact x_iconst_ok (show decode cX9_init 168 = .ok (.iconst (-1), 1) by decide +kernel) (by decide)
  · exact x_iast_ok (show decode cX9_init 169 = .ok (.iastore, 1) by decide +kernel)
  · exact x_iinc_ok (show decode cX9_init 170 = .ok (.iinc 1 1, 3) by decide +kernel) (by decide) (by decide)
  · exact x_goto_ok (show decode cX9_init 173 = .ok (.goto (-21), 3) by decide +kernel) (by decide)
  · exact x_vret_ok (show decode cX9_init 176 = .ok (.return_, 1) by decide +kernel)
noncomputable def FX9_init : List Value → xS → Option xR := xden tX9_init 2 none 12
theorem sX9_init (l : Launch) : xSound l yX9_init cX9_init 2 none 1 12 FX9_init := x_den (by decide) (tX9_init_ok l)
noncomputable def tX8_among : List (Nat × xO) := [(0, x_iload 0 1), (1, x_iflt 13), (4, x_iload 0 1), (5, x_iload 1 1), (6, x_cmpge 13), (9, x_push (.int (nI 1)) 1), (10, x_goto 14), (13, x_push (.int (nI 0)) 1), (14, x_iret)]
set_option maxRecDepth 100000 in
theorem tX8_among_ok (l : Launch) : ∀ q ∈ tX8_among, xOK l cX8_among RX8 2 1 0 (yX8_among.name = "<init>") q.1 q.2 := by
  unfold tX8_among
  refine List.forall_mem_cons.mpr ⟨?_, List.forall_mem_cons.mpr ⟨?_, List.forall_mem_cons.mpr ⟨?_, List.forall_mem_cons.mpr ⟨?_, List.forall_mem_cons.mpr ⟨?_, List.forall_mem_cons.mpr ⟨?_, List.forall_mem_cons.mpr ⟨?_, List.forall_mem_cons.mpr ⟨?_, List.forall_mem_cons.mpr ⟨?_, fun _ h => absurd h List.not_mem_nil⟩⟩⟩⟩⟩⟩⟩⟩⟩
  · exact x_iload_n_ok (show decode cX8_among 0 = .ok (.iload_n 0, 1) by decide +kernel) rfl
  · exact x_iflt_ok (show decode cX8_among 1 = .ok (.ifCond .lt 12, 3) by decide +kernel) (by decide)
  · exact x_iload_n_ok (show decode cX8_among 4 = .ok (.iload_n 0, 1) by decide +kernel) rfl
  · exact x_iload_n_ok (show decode cX8_among 5 = .ok (.iload_n 1, 1) by decide +kernel) rfl
  · exact x_cmpge_ok (show decode cX8_among 6 = .ok (.if_icmp .ge 7, 3) by decide +kernel) (by decide)
  · exact x_iconst_ok (show decode cX8_among 9 = .ok (.iconst 1, 1) by decide +kernel) (by decide)
  · exact x_goto_ok (show decode cX8_among 10 = .ok (.goto 4, 3) by decide +kernel) (by decide)
  · exact x_iconst_ok (show decode cX8_among 13 = .ok (.iconst 0, 1) by decide +kernel) (by decide)
  · exact x_iret_ok (show decode cX8_among 14 = .ok (.ireturn, 1) by decide +kernel)
noncomputable def FX8_among : List Value → xS → Option xR := xden tX8_among 2 (some .boolean) 0
theorem sX8_among (l : Launch) : xSound l yX8_among cX8_among 2 (some .boolean) 1 0 FX8_among := x_den (by decide) (tX8_among_ok l)
noncomputable def tX8_findingOf : List (Nat × xO) := [(0, x_aload 0 1), (1, x_iload 1 1), (2, x_putI 6 9), (5, x_aload 0 1), (6, x_getR 6 8), (9, x_iload 1 1), (10, x_dup2), (11, x_iald), (12, x_push (.int (nI 1)) 1), (13, x_ii (fun x y => x + y)), (14, x_iast), (15, x_push (.int (-3)) 2), (17, x_iret)]
set_option maxRecDepth 100000 in
theorem tX8_findingOf_ok (l : Launch) : ∀ q ∈ tX8_findingOf, xOK l cX8_findingOf RX8 2 1 0 (yX8_findingOf.name = "<init>") q.1 q.2 := by
  unfold tX8_findingOf
  refine List.forall_mem_cons.mpr ⟨?_, List.forall_mem_cons.mpr ⟨?_, List.forall_mem_cons.mpr ⟨?_, List.forall_mem_cons.mpr ⟨?_, List.forall_mem_cons.mpr ⟨?_, List.forall_mem_cons.mpr ⟨?_, List.forall_mem_cons.mpr ⟨?_, List.forall_mem_cons.mpr ⟨?_, List.forall_mem_cons.mpr ⟨?_, List.forall_mem_cons.mpr ⟨?_, List.forall_mem_cons.mpr ⟨?_, List.forall_mem_cons.mpr ⟨?_, List.forall_mem_cons.mpr ⟨?_, fun _ h => absurd h List.not_mem_nil⟩⟩⟩⟩⟩⟩⟩⟩⟩⟩⟩⟩⟩
  · exact x_aload_n_ok (show decode cX8_findingOf 0 = .ok (.aload_n 0, 1) by decide +kernel) rfl
  · exact x_iload_n_ok (show decode cX8_findingOf 1 = .ok (.iload_n 1, 1) by decide +kernel) rfl
  · exact x_putI_ok (ci := 6) (k := 9) rfl (by decide) (by decide) rfl hw_231 rfl (show decode cX8_findingOf 2 = .ok (.putfield 307, 3) by decide +kernel)
  · exact x_aload_n_ok (show decode cX8_findingOf 5 = .ok (.aload_n 0, 1) by decide +kernel) rfl
  · exact x_getR_ok (ci := 6) (k := 8) rfl (by decide) (by decide) hw_230 (show decode cX8_findingOf 6 = .ok (.getfield 57, 3) by decide +kernel)
  · exact x_iload_n_ok (show decode cX8_findingOf 9 = .ok (.iload_n 1, 1) by decide +kernel) rfl
  · exact x_dup2_ok (show decode cX8_findingOf 10 = .ok (.dup2, 1) by decide +kernel)
  · exact x_iald_ok (show decode cX8_findingOf 11 = .ok (.iaload, 1) by decide +kernel)
  · exact x_iconst_ok (show decode cX8_findingOf 12 = .ok (.iconst 1, 1) by decide +kernel) (by decide)
  · exact x_iadd_ok (show decode cX8_findingOf 13 = .ok (.iadd, 1) by decide +kernel)
  · exact x_iast_ok (show decode cX8_findingOf 14 = .ok (.iastore, 1) by decide +kernel)
  · exact x_bipush_ok (show decode cX8_findingOf 15 = .ok (.bipush (-3), 2) by decide +kernel) (by decide)
  · exact x_iret_ok (show decode cX8_findingOf 17 = .ok (.ireturn, 1) by decide +kernel)
noncomputable def FX8_findingOf : List Value → xS → Option xR := xden tX8_findingOf 2 (some .int) 0
theorem sX8_findingOf (l : Launch) : xSound l yX8_findingOf cX8_findingOf 2 (some .int) 1 0 FX8_findingOf := x_den (by decide) (tX8_findingOf_ok l)
noncomputable def tX5_begin : List (Nat × xO) := [(0, x_aload 0 1), (1, x_iload 1 1), (2, x_putI 4 1), (5, x_push (.int (nI 0)) 1), (6, x_istore 2 1), (7, x_iload 2 1), (8, x_push (.int (nI 40)) 2), (10, x_cmpge 26), (13, x_aload 0 1), (14, x_getR 4 0), (17, x_iload 2 1), (18, x_push (.int (nI 0)) 1), (19, x_iast), (20, x_iinc 2 (nI 1)), (23, x_goto 7), (26, x_vret)]
set_option maxRecDepth 100000 in
theorem tX5_begin_ok (l : Launch) : ∀ q ∈ tX5_begin, xOK l cX5_begin RX5 3 1 0 (yX5_begin.name = "<init>") q.1 q.2 := by
  unfold tX5_begin
  refine List.forall_mem_cons.mpr ⟨?_, List.forall_mem_cons.mpr ⟨?_, List.forall_mem_cons.mpr ⟨?_, List.forall_mem_cons.mpr ⟨?_, List.forall_mem_cons.mpr ⟨?_, List.forall_mem_cons.mpr ⟨?_, List.forall_mem_cons.mpr ⟨?_, List.forall_mem_cons.mpr ⟨?_, List.forall_mem_cons.mpr ⟨?_, List.forall_mem_cons.mpr ⟨?_, List.forall_mem_cons.mpr ⟨?_, List.forall_mem_cons.mpr ⟨?_, List.forall_mem_cons.mpr ⟨?_, List.forall_mem_cons.mpr ⟨?_, List.forall_mem_cons.mpr ⟨?_, List.forall_mem_cons.mpr ⟨?_, fun _ h => absurd h List.not_mem_nil⟩⟩⟩⟩⟩⟩⟩⟩⟩⟩⟩⟩⟩⟩⟩⟩
  · exact x_aload_n_ok (show decode cX5_begin 0 = .ok (.aload_n 0, 1) by decide +kernel) rfl
  · exact x_iload_n_ok (show decode cX5_begin 1 = .ok (.iload_n 1, 1) by decide +kernel) rfl
  · exact x_putI_ok (ci := 4) (k := 1) rfl (by decide) (by decide) rfl hw_97 rfl (show decode cX5_begin 2 = .ok (.putfield 13, 3) by decide +kernel)
  · exact x_iconst_ok (show decode cX5_begin 5 = .ok (.iconst 0, 1) by decide +kernel) (by decide)
  · exact x_istore_n_ok (show decode cX5_begin 6 = .ok (.istore_n 2, 1) by decide +kernel) rfl (by decide)
  · exact x_iload_n_ok (show decode cX5_begin 7 = .ok (.iload_n 2, 1) by decide +kernel) rfl
  · exact x_bipush_ok (show decode cX5_begin 8 = .ok (.bipush 40, 2) by decide +kernel) (by decide)
  · exact x_cmpge_ok (show decode cX5_begin 10 = .ok (.if_icmp .ge 16, 3) by decide +kernel) (by decide)
  · exact x_aload_n_ok (show decode cX5_begin 13 = .ok (.aload_n 0, 1) by decide +kernel) rfl
  · exact x_getR_ok (ci := 4) (k := 0) rfl (by decide) (by decide) hw_93 (show decode cX5_begin 14 = .ok (.getfield 9, 3) by decide +kernel)
  · exact x_iload_n_ok (show decode cX5_begin 17 = .ok (.iload_n 2, 1) by decide +kernel) rfl
  · exact x_iconst_ok (show decode cX5_begin 18 = .ok (.iconst 0, 1) by decide +kernel) (by decide)
  · exact x_iast_ok (show decode cX5_begin 19 = .ok (.iastore, 1) by decide +kernel)
  · exact x_iinc_ok (show decode cX5_begin 20 = .ok (.iinc 2 1, 3) by decide +kernel) (by decide) (by decide)
  · exact x_goto_ok (show decode cX5_begin 23 = .ok (.goto (-16), 3) by decide +kernel) (by decide)
  · exact x_vret_ok (show decode cX5_begin 26 = .ok (.return_, 1) by decide +kernel)
noncomputable def FX5_begin : List Value → xS → Option xR := xden tX5_begin 3 none 0
theorem sX5_begin (l : Launch) : xSound l yX5_begin cX5_begin 3 none 1 0 FX5_begin := x_den (by decide) (tX5_begin_ok l)
noncomputable def tX8_row : List (Nat × xO) := [(0, x_iload 1 1), (1, x_push (.int (nI 6)) 2), (3, x_call 0 2 FX8_among), (6, x_ifeq 15), (9, x_iload 2 1), (10, x_push (.int (nI 40)) 2), (12, x_cmple 17), (15, x_push (.int (-1)) 1), (16, x_iret), (17, x_iload 2 1), (18, x_ifge 27), (21, x_aload 0 1), (22, x_push (.int (nI 5)) 1), (23, x_callV 6 0 2 FX8_findingOf), (26, x_iret), (27, x_aload 0 1), (28, x_getR 6 0), (31, x_iload 1 1), (32, x_aald), (33, x_iload 2 1), (34, x_callV 4 0 2 FX5_begin), (37, x_iload 2 1), (38, x_iret)]
set_option maxRecDepth 100000 in
theorem tX8_row_ok (l : Launch) : ∀ q ∈ tX8_row, xOK l cX8_row RX8 3 2 0 (yX8_row.name = "<init>") q.1 q.2 := by
  unfold tX8_row
  refine List.forall_mem_cons.mpr ⟨?_, List.forall_mem_cons.mpr ⟨?_, List.forall_mem_cons.mpr ⟨?_, List.forall_mem_cons.mpr ⟨?_, List.forall_mem_cons.mpr ⟨?_, List.forall_mem_cons.mpr ⟨?_, List.forall_mem_cons.mpr ⟨?_, List.forall_mem_cons.mpr ⟨?_, List.forall_mem_cons.mpr ⟨?_, List.forall_mem_cons.mpr ⟨?_, List.forall_mem_cons.mpr ⟨?_, List.forall_mem_cons.mpr ⟨?_, List.forall_mem_cons.mpr ⟨?_, List.forall_mem_cons.mpr ⟨?_, List.forall_mem_cons.mpr ⟨?_, List.forall_mem_cons.mpr ⟨?_, List.forall_mem_cons.mpr ⟨?_, List.forall_mem_cons.mpr ⟨?_, List.forall_mem_cons.mpr ⟨?_, List.forall_mem_cons.mpr ⟨?_, List.forall_mem_cons.mpr ⟨?_, List.forall_mem_cons.mpr ⟨?_, List.forall_mem_cons.mpr ⟨?_, fun _ h => absurd h List.not_mem_nil⟩⟩⟩⟩⟩⟩⟩⟩⟩⟩⟩⟩⟩⟩⟩⟩⟩⟩⟩⟩⟩⟩⟩
  · exact x_iload_n_ok (show decode cX8_row 0 = .ok (.iload_n 1, 1) by decide +kernel) rfl
  · exact x_bipush_ok (show decode cX8_row 1 = .ok (.bipush 6, 2) by decide +kernel) (by decide)
  · exact x_callS_ok (sX8_among l) hw_268 hw_266 hw_267 hw_61 ⟨by decide, by decide, by decide +kernel⟩ (by decide) (by decide) (show decode cX8_row 3 = .ok (.invokestatic 65, 3) by decide +kernel)
  · exact x_ifeq_ok (show decode cX8_row 6 = .ok (.ifCond .eq 9, 3) by decide +kernel) (by decide)
  · exact x_iload_n_ok (show decode cX8_row 9 = .ok (.iload_n 2, 1) by decide +kernel) rfl
  · exact x_bipush_ok (show decode cX8_row 10 = .ok (.bipush 40, 2) by decide +kernel) (by decide)
  · exact x_cmple_ok (show decode cX8_row 12 = .ok (.if_icmp .le 5, 3) by decide +kernel) (by decide)
  · exact x_iconst_ok (show decode cX8_row 15 = .ok (.iconst (-1), 1) by decide +kernel) (by decide)
  · exact x_iret_ok (show decode cX8_row 16 = .ok (.ireturn, 1) by decide +kernel)
  · exact x_iload_n_ok (show decode cX8_row 17 = .ok (.iload_n 2, 1) by decide +kernel) rfl
  · exact x_ifge_ok (show decode cX8_row 18 = .ok (.ifCond .ge 9, 3) by decide +kernel) (by decide)
  · exact x_aload_n_ok (show decode cX8_row 21 = .ok (.aload_n 0, 1) by decide +kernel) rfl
  · exact x_iconst_ok (show decode cX8_row 22 = .ok (.iconst 5, 1) by decide +kernel) (by decide)
  · exact x_callV_ok (ci := 6) rfl (by decide) (sX8_findingOf l) hw_272 hw_269 hw_271 hw_0 hw_61 ⟨by decide, by decide, by decide +kernel⟩ rfl (by decide) (by decide) (show decode cX8_row 23 = .ok (.invokevirtual 69, 3) by decide +kernel)
  · exact x_iret_ok (show decode cX8_row 26 = .ok (.ireturn, 1) by decide +kernel)
  · exact x_aload_n_ok (show decode cX8_row 27 = .ok (.aload_n 0, 1) by decide +kernel) rfl
  · exact x_getR_ok (ci := 6) (k := 0) rfl (by decide) (by decide) hw_222 (show decode cX8_row 28 = .ok (.getfield 11, 3) by decide +kernel)
  · exact x_iload_n_ok (show decode cX8_row 31 = .ok (.iload_n 1, 1) by decide +kernel) rfl
  · exact x_aald_ok (show decode cX8_row 32 = .ok (.aaload, 1) by decide +kernel)
  · exact x_iload_n_ok (show decode cX8_row 33 = .ok (.iload_n 2, 1) by decide +kernel) rfl
  · exact x_callV_ok (ci := 4) rfl (by decide) (sX5_begin l) hw_276 hw_273 hw_274 hw_275 hw_62 ⟨by decide, by decide, by decide +kernel⟩ rfl (by decide) (by decide) (show decode cX8_row 34 = .ok (.invokevirtual 73, 3) by decide +kernel)
  · exact x_iload_n_ok (show decode cX8_row 37 = .ok (.iload_n 2, 1) by decide +kernel) rfl
  · exact x_iret_ok (show decode cX8_row 38 = .ok (.ireturn, 1) by decide +kernel)
noncomputable def FX8_row : List Value → xS → Option xR := xden tX8_row 3 (some .int) 0
theorem sX8_row (l : Launch) : xSound l yX8_row cX8_row 3 (some .int) 2 0 FX8_row := x_den (by decide) (tX8_row_ok l)
noncomputable def tX9_in : List (Nat × xO) := [(0, x_lload 0 1), (1, x_lload 2 1), (2, x_lcmp), (3, x_iflt 17), (6, x_lload 0 1), (7, x_lload 4 2), (9, x_lcmp), (10, x_ifgt 17), (13, x_push (.int (nI 1)) 1), (14, x_goto 18), (17, x_push (.int (nI 0)) 1), (18, x_iret)]
set_option maxRecDepth 100000 in
theorem tX9_in_ok (l : Launch) : ∀ q ∈ tX9_in, xOK l cX9_in RX9 6 1 0 (yX9_in.name = "<init>") q.1 q.2 := by
  unfold tX9_in
  refine List.forall_mem_cons.mpr ⟨?_, List.forall_mem_cons.mpr ⟨?_, List.forall_mem_cons.mpr ⟨?_, List.forall_mem_cons.mpr ⟨?_, List.forall_mem_cons.mpr ⟨?_, List.forall_mem_cons.mpr ⟨?_, List.forall_mem_cons.mpr ⟨?_, List.forall_mem_cons.mpr ⟨?_, List.forall_mem_cons.mpr ⟨?_, List.forall_mem_cons.mpr ⟨?_, List.forall_mem_cons.mpr ⟨?_, List.forall_mem_cons.mpr ⟨?_, fun _ h => absurd h List.not_mem_nil⟩⟩⟩⟩⟩⟩⟩⟩⟩⟩⟩⟩
  · exact x_lload_n_ok (show decode cX9_in 0 = .ok (.lload_n 0, 1) by decide +kernel) rfl
  · exact x_lload_n_ok (show decode cX9_in 1 = .ok (.lload_n 2, 1) by decide +kernel) rfl
  · exact x_lcmp_ok (show decode cX9_in 2 = .ok (.lcmp, 1) by decide +kernel)
  · exact x_iflt_ok (show decode cX9_in 3 = .ok (.ifCond .lt 14, 3) by decide +kernel) (by decide)
  · exact x_lload_n_ok (show decode cX9_in 6 = .ok (.lload_n 0, 1) by decide +kernel) rfl
  · exact x_lload_ok (show decode cX9_in 7 = .ok (.lload 4, 2) by decide +kernel)
  · exact x_lcmp_ok (show decode cX9_in 9 = .ok (.lcmp, 1) by decide +kernel)
  · exact x_ifgt_ok (show decode cX9_in 10 = .ok (.ifCond .gt 7, 3) by decide +kernel) (by decide)
  · exact x_iconst_ok (show decode cX9_in 13 = .ok (.iconst 1, 1) by decide +kernel) (by decide)
  · exact x_goto_ok (show decode cX9_in 14 = .ok (.goto 4, 3) by decide +kernel) (by decide)
  · exact x_iconst_ok (show decode cX9_in 17 = .ok (.iconst 0, 1) by decide +kernel) (by decide)
  · exact x_iret_ok (show decode cX9_in 18 = .ok (.ireturn, 1) by decide +kernel)
noncomputable def FX9_in : List Value → xS → Option xR := xden tX9_in 6 (some .boolean) 0
theorem sX9_in (l : Launch) : xSound l yX9_in cX9_in 6 (some .boolean) 1 0 FX9_in := x_den (by decide) (tX9_in_ok l)
noncomputable def tX9_isRow : List (Nat × xO) := [(0, x_iload 0 1), (1, x_i2l), (2, x_push (.long 0) 1), (3, x_push (.long 5) 3), (6, x_call 0 3 FX9_in), (9, x_iret)]
set_option maxRecDepth 100000 in
theorem tX9_isRow_ok (l : Launch) : ∀ q ∈ tX9_isRow, xOK l cX9_isRow RX9 1 2 0 (yX9_isRow.name = "<init>") q.1 q.2 := by
  unfold tX9_isRow
  refine List.forall_mem_cons.mpr ⟨?_, List.forall_mem_cons.mpr ⟨?_, List.forall_mem_cons.mpr ⟨?_, List.forall_mem_cons.mpr ⟨?_, List.forall_mem_cons.mpr ⟨?_, List.forall_mem_cons.mpr ⟨?_, fun _ h => absurd h List.not_mem_nil⟩⟩⟩⟩⟩⟩
  · exact x_iload_n_ok (show decode cX9_isRow 0 = .ok (.iload_n 0, 1) by decide +kernel) rfl
  · exact x_i2l_ok (show decode cX9_isRow 1 = .ok (.i2l, 1) by decide +kernel)
  · exact x_lconst_ok (show decode cX9_isRow 2 = .ok (.lconst 0, 1) by decide +kernel) rfl
  · exact x_ldc2_ok (show decode cX9_isRow 3 = .ok (.ldc2_w 58, 3) by decide +kernel) hw_915
  · exact x_callS_ok (sX9_in l) hw_918 hw_916 hw_917 hw_68 ⟨by decide, by decide, by decide +kernel⟩ (by decide) (by decide) (show decode cX9_isRow 6 = .ok (.invokestatic 60, 3) by decide +kernel)
  · exact x_iret_ok (show decode cX9_isRow 9 = .ok (.ireturn, 1) by decide +kernel)
noncomputable def FX9_isRow : List Value → xS → Option xR := xden tX9_isRow 1 (some .boolean) 0
theorem sX9_isRow (l : Launch) : xSound l yX9_isRow cX9_isRow 1 (some .boolean) 2 0 FX9_isRow := x_den (by decide) (tX9_isRow_ok l)
noncomputable def tX9_find : List (Nat × xO) := [(0, x_aload 0 1), (1, x_iload 1 1), (2, x_putI 7 8), (5, x_aload 0 1), (6, x_getR 7 9), (9, x_iload 1 1), (10, x_dup2), (11, x_iald), (12, x_push (.int (nI 1)) 1), (13, x_ii (fun x y => x + y)), (14, x_iast), (15, x_push (.int (-3)) 2), (17, x_iret)]
set_option maxRecDepth 100000 in
theorem tX9_find_ok (l : Launch) : ∀ q ∈ tX9_find, xOK l cX9_find RX9 2 1 0 (yX9_find.name = "<init>") q.1 q.2 := by
  unfold tX9_find
  refine List.forall_mem_cons.mpr ⟨?_, List.forall_mem_cons.mpr ⟨?_, List.forall_mem_cons.mpr ⟨?_, List.forall_mem_cons.mpr ⟨?_, List.forall_mem_cons.mpr ⟨?_, List.forall_mem_cons.mpr ⟨?_, List.forall_mem_cons.mpr ⟨?_, List.forall_mem_cons.mpr ⟨?_, List.forall_mem_cons.mpr ⟨?_, List.forall_mem_cons.mpr ⟨?_, List.forall_mem_cons.mpr ⟨?_, List.forall_mem_cons.mpr ⟨?_, List.forall_mem_cons.mpr ⟨?_, fun _ h => absurd h List.not_mem_nil⟩⟩⟩⟩⟩⟩⟩⟩⟩⟩⟩⟩⟩
  · exact x_aload_n_ok (show decode cX9_find 0 = .ok (.aload_n 0, 1) by decide +kernel) rfl
  · exact x_iload_n_ok (show decode cX9_find 1 = .ok (.iload_n 1, 1) by decide +kernel) rfl
  · exact x_putI_ok (ci := 7) (k := 8) rfl (by decide) (by decide) rfl hw_852 rfl (show decode cX9_find 2 = .ok (.putfield 51, 3) by decide +kernel)
  · exact x_aload_n_ok (show decode cX9_find 5 = .ok (.aload_n 0, 1) by decide +kernel) rfl
  · exact x_getR_ok (ci := 7) (k := 9) rfl (by decide) (by decide) hw_853 (show decode cX9_find 6 = .ok (.getfield 29, 3) by decide +kernel)
  · exact x_iload_n_ok (show decode cX9_find 9 = .ok (.iload_n 1, 1) by decide +kernel) rfl
  · exact x_dup2_ok (show decode cX9_find 10 = .ok (.dup2, 1) by decide +kernel)
  · exact x_iald_ok (show decode cX9_find 11 = .ok (.iaload, 1) by decide +kernel)
  · exact x_iconst_ok (show decode cX9_find 12 = .ok (.iconst 1, 1) by decide +kernel) (by decide)
  · exact x_iadd_ok (show decode cX9_find 13 = .ok (.iadd, 1) by decide +kernel)
  · exact x_iast_ok (show decode cX9_find 14 = .ok (.iastore, 1) by decide +kernel)
  · exact x_bipush_ok (show decode cX9_find 15 = .ok (.bipush (-3), 2) by decide +kernel) (by decide)
  · exact x_iret_ok (show decode cX9_find 17 = .ok (.ireturn, 1) by decide +kernel)
noncomputable def FX9_find : List Value → xS → Option xR := xden tX9_find 2 (some .int) 0
theorem sX9_find (l : Launch) : xSound l yX9_find cX9_find 2 (some .int) 1 0 FX9_find := x_den (by decide) (tX9_find_ok l)
noncomputable def tX9_makeRow : List (Nat × xO) := [(0, x_aload 0 1), (1, x_getR 7 1), (4, x_iload 1 1), (5, x_iload 2 1), (6, x_iast), (7, x_push (.int (nI 0)) 1), (8, x_istore 3 1), (9, x_iload 3 1), (10, x_push (.int (nI 40)) 2), (12, x_cmpge 33), (15, x_aload 0 1), (16, x_getR 7 2), (19, x_push (.int (nI 40)) 2), (21, x_iload 1 1), (22, x_ii (fun x y => x * y)), (23, x_iload 3 1), (24, x_ii (fun x y => x + y)), (25, x_push (.int (nI 0)) 1), (26, x_iast), (27, x_iinc 3 (nI 1)), (30, x_goto 9), (33, x_vret)]
set_option maxRecDepth 100000 in
theorem tX9_makeRow_ok (l : Launch) : ∀ q ∈ tX9_makeRow, xOK l cX9_makeRow RX9 4 1 0 (yX9_makeRow.name = "<init>") q.1 q.2 := by
  unfold tX9_makeRow
  refine List.forall_mem_cons.mpr ⟨?_, List.forall_mem_cons.mpr ⟨?_, List.forall_mem_cons.mpr ⟨?_, List.forall_mem_cons.mpr ⟨?_, List.forall_mem_cons.mpr ⟨?_, List.forall_mem_cons.mpr ⟨?_, List.forall_mem_cons.mpr ⟨?_, List.forall_mem_cons.mpr ⟨?_, List.forall_mem_cons.mpr ⟨?_, List.forall_mem_cons.mpr ⟨?_, List.forall_mem_cons.mpr ⟨?_, List.forall_mem_cons.mpr ⟨?_, List.forall_mem_cons.mpr ⟨?_, List.forall_mem_cons.mpr ⟨?_, List.forall_mem_cons.mpr ⟨?_, List.forall_mem_cons.mpr ⟨?_, List.forall_mem_cons.mpr ⟨?_, List.forall_mem_cons.mpr ⟨?_, List.forall_mem_cons.mpr ⟨?_, List.forall_mem_cons.mpr ⟨?_, List.forall_mem_cons.mpr ⟨?_, List.forall_mem_cons.mpr ⟨?_, fun _ h => absurd h List.not_mem_nil⟩⟩⟩⟩⟩⟩⟩⟩⟩⟩⟩⟩⟩⟩⟩⟩⟩⟩⟩⟩⟩⟩
  · exact x_aload_n_ok (show decode cX9_makeRow 0 = .ok (.aload_n 0, 1) by decide +kernel) rfl
  · exact x_getR_ok (ci := 7) (k := 1) rfl (by decide) (by decide) hw_845 (show decode cX9_makeRow 1 = .ok (.getfield 13, 3) by decide +kernel)
  · exact x_iload_n_ok (show decode cX9_makeRow 4 = .ok (.iload_n 1, 1) by decide +kernel) rfl
  · exact x_iload_n_ok (show decode cX9_makeRow 5 = .ok (.iload_n 2, 1) by decide +kernel) rfl
  · exact x_iast_ok (show decode cX9_makeRow 6 = .ok (.iastore, 1) by decide +kernel)
  · exact x_iconst_ok (show decode cX9_makeRow 7 = .ok (.iconst 0, 1) by decide +kernel) (by decide)
  · exact x_istore_n_ok (show decode cX9_makeRow 8 = .ok (.istore_n 3, 1) by decide +kernel) rfl (by decide)
  · exact x_iload_n_ok (show decode cX9_makeRow 9 = .ok (.iload_n 3, 1) by decide +kernel) rfl
  · exact x_bipush_ok (show decode cX9_makeRow 10 = .ok (.bipush 40, 2) by decide +kernel) (by decide)
  · exact x_cmpge_ok (show decode cX9_makeRow 12 = .ok (.if_icmp .ge 21, 3) by decide +kernel) (by decide)
  · exact x_aload_n_ok (show decode cX9_makeRow 15 = .ok (.aload_n 0, 1) by decide +kernel) rfl
  · exact x_getR_ok (ci := 7) (k := 2) rfl (by decide) (by decide) hw_846 (show decode cX9_makeRow 16 = .ok (.getfield 16, 3) by decide +kernel)
  · exact x_bipush_ok (show decode cX9_makeRow 19 = .ok (.bipush 40, 2) by decide +kernel) (by decide)
  · exact x_iload_n_ok (show decode cX9_makeRow 21 = .ok (.iload_n 1, 1) by decide +kernel) rfl
  · exact x_imul_ok (show decode cX9_makeRow 22 = .ok (.imul, 1) by decide +kernel)
  · exact x_iload_n_ok (show decode cX9_makeRow 23 = .ok (.iload_n 3, 1) by decide +kernel) rfl
  · exact x_iadd_ok (show decode cX9_makeRow 24 = .ok (.iadd, 1) by decide +kernel)
  · exact x_iconst_ok (show decode cX9_makeRow 25 = .ok (.iconst 0, 1) by decide +kernel) (by decide)
  · exact x_iast_ok (show decode cX9_makeRow 26 = .ok (.iastore, 1) by decide +kernel)
  · exact x_iinc_ok (show decode cX9_makeRow 27 = .ok (.iinc 3 1, 3) by decide +kernel) (by decide) (by decide)
  · exact x_goto_ok (show decode cX9_makeRow 30 = .ok (.goto (-21), 3) by decide +kernel) (by decide)
  · exact x_vret_ok (show decode cX9_makeRow 33 = .ok (.return_, 1) by decide +kernel)
noncomputable def FX9_makeRow : List Value → xS → Option xR := xden tX9_makeRow 4 none 0
theorem sX9_makeRow (l : Launch) : xSound l yX9_makeRow cX9_makeRow 4 none 1 0 FX9_makeRow := x_den (by decide) (tX9_makeRow_ok l)
noncomputable def tX9_row : List (Nat × xO) := [(0, x_iload 1 1), (1, x_call 0 1 FX9_isRow), (4, x_ifeq 13), (7, x_iload 2 1), (8, x_push (.int (nI 40)) 2), (10, x_cmple 15), (13, x_push (.int (-1)) 1), (14, x_iret), (15, x_iload 2 1), (16, x_ifge 25), (19, x_aload 0 1), (20, x_push (.int (nI 5)) 1), (21, x_callV 7 0 2 FX9_find), (24, x_iret), (25, x_aload 0 1), (26, x_iload 1 1), (27, x_iload 2 1), (28, x_callV 7 0 3 FX9_makeRow), (31, x_iload 2 1), (32, x_iret)]
set_option maxRecDepth 100000 in
theorem tX9_row_ok (l : Launch) : ∀ q ∈ tX9_row, xOK l cX9_row RX9 3 3 0 (yX9_row.name = "<init>") q.1 q.2 := by
  unfold tX9_row
  refine List.forall_mem_cons.mpr ⟨?_, List.forall_mem_cons.mpr ⟨?_, List.forall_mem_cons.mpr ⟨?_, List.forall_mem_cons.mpr ⟨?_, List.forall_mem_cons.mpr ⟨?_, List.forall_mem_cons.mpr ⟨?_, List.forall_mem_cons.mpr ⟨?_, List.forall_mem_cons.mpr ⟨?_, List.forall_mem_cons.mpr ⟨?_, List.forall_mem_cons.mpr ⟨?_, List.forall_mem_cons.mpr ⟨?_, List.forall_mem_cons.mpr ⟨?_, List.forall_mem_cons.mpr ⟨?_, List.forall_mem_cons.mpr ⟨?_, List.forall_mem_cons.mpr ⟨?_, List.forall_mem_cons.mpr ⟨?_, List.forall_mem_cons.mpr ⟨?_, List.forall_mem_cons.mpr ⟨?_, List.forall_mem_cons.mpr ⟨?_, List.forall_mem_cons.mpr ⟨?_, fun _ h => absurd h List.not_mem_nil⟩⟩⟩⟩⟩⟩⟩⟩⟩⟩⟩⟩⟩⟩⟩⟩⟩⟩⟩⟩
  · exact x_iload_n_ok (show decode cX9_row 0 = .ok (.iload_n 1, 1) by decide +kernel) rfl
  · exact x_callS_ok (sX9_isRow l) hw_914 hw_912 hw_913 hw_68 ⟨by decide, by decide, by decide +kernel⟩ (by decide) (by decide) (show decode cX9_row 1 = .ok (.invokestatic 66, 3) by decide +kernel)
  · exact x_ifeq_ok (show decode cX9_row 4 = .ok (.ifCond .eq 9, 3) by decide +kernel) (by decide)
  · exact x_iload_n_ok (show decode cX9_row 7 = .ok (.iload_n 2, 1) by decide +kernel) rfl
  · exact x_bipush_ok (show decode cX9_row 8 = .ok (.bipush 40, 2) by decide +kernel) (by decide)
  · exact x_cmple_ok (show decode cX9_row 10 = .ok (.if_icmp .le 5, 3) by decide +kernel) (by decide)
  · exact x_iconst_ok (show decode cX9_row 13 = .ok (.iconst (-1), 1) by decide +kernel) (by decide)
  · exact x_iret_ok (show decode cX9_row 14 = .ok (.ireturn, 1) by decide +kernel)
  · exact x_iload_n_ok (show decode cX9_row 15 = .ok (.iload_n 2, 1) by decide +kernel) rfl
  · exact x_ifge_ok (show decode cX9_row 16 = .ok (.ifCond .ge 9, 3) by decide +kernel) (by decide)
  · exact x_aload_n_ok (show decode cX9_row 19 = .ok (.aload_n 0, 1) by decide +kernel) rfl
  · exact x_iconst_ok (show decode cX9_row 20 = .ok (.iconst 5, 1) by decide +kernel) (by decide)
  · exact x_callV_ok (ci := 7) rfl (by decide) (sX9_find l) hw_922 hw_919 hw_921 hw_18 hw_68 ⟨by decide, by decide, by decide +kernel⟩ rfl (by decide) (by decide) (show decode cX9_row 21 = .ok (.invokevirtual 70, 3) by decide +kernel)
  · exact x_iret_ok (show decode cX9_row 24 = .ok (.ireturn, 1) by decide +kernel)
  · exact x_aload_n_ok (show decode cX9_row 25 = .ok (.aload_n 0, 1) by decide +kernel) rfl
  · exact x_iload_n_ok (show decode cX9_row 26 = .ok (.iload_n 1, 1) by decide +kernel) rfl
  · exact x_iload_n_ok (show decode cX9_row 27 = .ok (.iload_n 2, 1) by decide +kernel) rfl
  · exact x_callV_ok (ci := 7) rfl (by decide) (sX9_makeRow l) hw_926 hw_923 hw_925 hw_19 hw_68 ⟨by decide, by decide, by decide +kernel⟩ rfl (by decide) (by decide) (show decode cX9_row 28 = .ok (.invokevirtual 74, 3) by decide +kernel)
  · exact x_iload_n_ok (show decode cX9_row 31 = .ok (.iload_n 2, 1) by decide +kernel) rfl
  · exact x_iret_ok (show decode cX9_row 32 = .ok (.ireturn, 1) by decide +kernel)
noncomputable def FX9_row : List Value → xS → Option xR := xden tX9_row 3 (some .int) 0
theorem sX9_row (l : Launch) : xSound l yX9_row cX9_row 3 (some .int) 3 0 FX9_row := x_den (by decide) (tX9_row_ok l)
noncomputable def tX5_isThere : List (Nat × xO) := [(0, x_aload 0 1), (1, x_getI 4 1), (4, x_iflt 11), (7, x_push (.int (nI 1)) 1), (8, x_goto 12), (11, x_push (.int (nI 0)) 1), (12, x_iret)]
set_option maxRecDepth 100000 in
theorem tX5_isThere_ok (l : Launch) : ∀ q ∈ tX5_isThere, xOK l cX5_isThere RX5 1 1 0 (yX5_isThere.name = "<init>") q.1 q.2 := by
  unfold tX5_isThere
  refine List.forall_mem_cons.mpr ⟨?_, List.forall_mem_cons.mpr ⟨?_, List.forall_mem_cons.mpr ⟨?_, List.forall_mem_cons.mpr ⟨?_, List.forall_mem_cons.mpr ⟨?_, List.forall_mem_cons.mpr ⟨?_, List.forall_mem_cons.mpr ⟨?_, fun _ h => absurd h List.not_mem_nil⟩⟩⟩⟩⟩⟩⟩
  · exact x_aload_n_ok (show decode cX5_isThere 0 = .ok (.aload_n 0, 1) by decide +kernel) rfl
  · exact x_getI_ok (ci := 4) (k := 1) rfl (by decide) (by decide) hw_97 (show decode cX5_isThere 1 = .ok (.getfield 13, 3) by decide +kernel)
  · exact x_iflt_ok (show decode cX5_isThere 4 = .ok (.ifCond .lt 7, 3) by decide +kernel) (by decide)
  · exact x_iconst_ok (show decode cX5_isThere 7 = .ok (.iconst 1, 1) by decide +kernel) (by decide)
  · exact x_goto_ok (show decode cX5_isThere 8 = .ok (.goto 4, 3) by decide +kernel) (by decide)
  · exact x_iconst_ok (show decode cX5_isThere 11 = .ok (.iconst 0, 1) by decide +kernel) (by decide)
  · exact x_iret_ok (show decode cX5_isThere 12 = .ok (.ireturn, 1) by decide +kernel)
noncomputable def FX5_isThere : List Value → xS → Option xR := xden tX5_isThere 1 (some .boolean) 0
theorem sX5_isThere (l : Launch) : xSound l yX5_isThere cX5_isThere 1 (some .boolean) 1 0 FX5_isThere := x_den (by decide) (tX5_isThere_ok l)
noncomputable def tX8_refusalOfRow : List (Nat × xO) := [(0, x_iload 1 1), (1, x_push (.int (nI 6)) 2), (3, x_call 0 2 FX8_among), (6, x_ifne 11), (9, x_push (.int (-1)) 1), (10, x_iret), (11, x_aload 0 1), (12, x_getR 6 0), (15, x_iload 1 1), (16, x_aald), (17, x_callV 4 0 1 FX5_isThere), (20, x_ifeq 27), (23, x_push (.int (nI 0)) 1), (24, x_goto 32), (27, x_aload 0 1), (28, x_push (.int (nI 1)) 1), (29, x_callV 6 0 2 FX8_findingOf), (32, x_iret)]
set_option maxRecDepth 100000 in
theorem tX8_refusalOfRow_ok (l : Launch) : ∀ q ∈ tX8_refusalOfRow, xOK l cX8_refusalOfRow RX8 2 2 0 (yX8_refusalOfRow.name = "<init>") q.1 q.2 := by
  unfold tX8_refusalOfRow
  refine List.forall_mem_cons.mpr ⟨?_, List.forall_mem_cons.mpr ⟨?_, List.forall_mem_cons.mpr ⟨?_, List.forall_mem_cons.mpr ⟨?_, List.forall_mem_cons.mpr ⟨?_, List.forall_mem_cons.mpr ⟨?_, List.forall_mem_cons.mpr ⟨?_, List.forall_mem_cons.mpr ⟨?_, List.forall_mem_cons.mpr ⟨?_, List.forall_mem_cons.mpr ⟨?_, List.forall_mem_cons.mpr ⟨?_, List.forall_mem_cons.mpr ⟨?_, List.forall_mem_cons.mpr ⟨?_, List.forall_mem_cons.mpr ⟨?_, List.forall_mem_cons.mpr ⟨?_, List.forall_mem_cons.mpr ⟨?_, List.forall_mem_cons.mpr ⟨?_, List.forall_mem_cons.mpr ⟨?_, fun _ h => absurd h List.not_mem_nil⟩⟩⟩⟩⟩⟩⟩⟩⟩⟩⟩⟩⟩⟩⟩⟩⟩⟩
  · exact x_iload_n_ok (show decode cX8_refusalOfRow 0 = .ok (.iload_n 1, 1) by decide +kernel) rfl
  · exact x_bipush_ok (show decode cX8_refusalOfRow 1 = .ok (.bipush 6, 2) by decide +kernel) (by decide)
  · exact x_callS_ok (sX8_among l) hw_268 hw_266 hw_267 hw_61 ⟨by decide, by decide, by decide +kernel⟩ (by decide) (by decide) (show decode cX8_refusalOfRow 3 = .ok (.invokestatic 65, 3) by decide +kernel)
  · exact x_ifne_ok (show decode cX8_refusalOfRow 6 = .ok (.ifCond .ne 5, 3) by decide +kernel) (by decide)
  · exact x_iconst_ok (show decode cX8_refusalOfRow 9 = .ok (.iconst (-1), 1) by decide +kernel) (by decide)
  · exact x_iret_ok (show decode cX8_refusalOfRow 10 = .ok (.ireturn, 1) by decide +kernel)
  · exact x_aload_n_ok (show decode cX8_refusalOfRow 11 = .ok (.aload_n 0, 1) by decide +kernel) rfl
  · exact x_getR_ok (ci := 6) (k := 0) rfl (by decide) (by decide) hw_222 (show decode cX8_refusalOfRow 12 = .ok (.getfield 11, 3) by decide +kernel)
  · exact x_iload_n_ok (show decode cX8_refusalOfRow 15 = .ok (.iload_n 1, 1) by decide +kernel) rfl
  · exact x_aald_ok (show decode cX8_refusalOfRow 16 = .ok (.aaload, 1) by decide +kernel)
  · exact x_callV_ok (ci := 4) rfl (by decide) (sX5_isThere l) hw_292 hw_289 hw_290 hw_291 hw_62 ⟨by decide, by decide, by decide +kernel⟩ rfl (by decide) (by decide) (show decode cX8_refusalOfRow 17 = .ok (.invokevirtual 94, 3) by decide +kernel)
  · exact x_ifeq_ok (show decode cX8_refusalOfRow 20 = .ok (.ifCond .eq 7, 3) by decide +kernel) (by decide)
  · exact x_iconst_ok (show decode cX8_refusalOfRow 23 = .ok (.iconst 0, 1) by decide +kernel) (by decide)
  · exact x_goto_ok (show decode cX8_refusalOfRow 24 = .ok (.goto 8, 3) by decide +kernel) (by decide)
  · exact x_aload_n_ok (show decode cX8_refusalOfRow 27 = .ok (.aload_n 0, 1) by decide +kernel) rfl
  · exact x_iconst_ok (show decode cX8_refusalOfRow 28 = .ok (.iconst 1, 1) by decide +kernel) (by decide)
  · exact x_callV_ok (ci := 6) rfl (by decide) (sX8_findingOf l) hw_272 hw_269 hw_271 hw_0 hw_61 ⟨by decide, by decide, by decide +kernel⟩ rfl (by decide) (by decide) (show decode cX8_refusalOfRow 29 = .ok (.invokevirtual 69, 3) by decide +kernel)
  · exact x_iret_ok (show decode cX8_refusalOfRow 32 = .ok (.ireturn, 1) by decide +kernel)
noncomputable def FX8_refusalOfRow : List Value → xS → Option xR := xden tX8_refusalOfRow 2 (some .int) 0
theorem sX8_refusalOfRow (l : Launch) : xSound l yX8_refusalOfRow cX8_refusalOfRow 2 (some .int) 2 0 FX8_refusalOfRow := x_den (by decide) (tX8_refusalOfRow_ok l)
noncomputable def tX8_refusalOfPlace : List (Nat × xO) := [(0, x_aload 0 1), (1, x_iload 1 1), (2, x_callV 6 0 2 FX8_refusalOfRow), (5, x_istore 3 1), (6, x_iload 3 1), (7, x_ifeq 12), (10, x_iload 3 1), (11, x_iret), (12, x_iload 2 1), (13, x_aload 0 1), (14, x_getR 6 0), (17, x_iload 1 1), (18, x_aald), (19, x_getI 4 1), (22, x_call 0 2 FX8_among), (25, x_ifeq 32), (28, x_push (.int (nI 0)) 1), (29, x_goto 37), (32, x_aload 0 1), (33, x_push (.int (nI 2)) 1), (34, x_callV 6 0 2 FX8_findingOf), (37, x_iret)]
set_option maxRecDepth 100000 in
theorem tX8_refusalOfPlace_ok (l : Launch) : ∀ q ∈ tX8_refusalOfPlace, xOK l cX8_refusalOfPlace RX8 4 3 0 (yX8_refusalOfPlace.name = "<init>") q.1 q.2 := by
  unfold tX8_refusalOfPlace
  refine List.forall_mem_cons.mpr ⟨?_, List.forall_mem_cons.mpr ⟨?_, List.forall_mem_cons.mpr ⟨?_, List.forall_mem_cons.mpr ⟨?_, List.forall_mem_cons.mpr ⟨?_, List.forall_mem_cons.mpr ⟨?_, List.forall_mem_cons.mpr ⟨?_, List.forall_mem_cons.mpr ⟨?_, List.forall_mem_cons.mpr ⟨?_, List.forall_mem_cons.mpr ⟨?_, List.forall_mem_cons.mpr ⟨?_, List.forall_mem_cons.mpr ⟨?_, List.forall_mem_cons.mpr ⟨?_, List.forall_mem_cons.mpr ⟨?_, List.forall_mem_cons.mpr ⟨?_, List.forall_mem_cons.mpr ⟨?_, List.forall_mem_cons.mpr ⟨?_, List.forall_mem_cons.mpr ⟨?_, List.forall_mem_cons.mpr ⟨?_, List.forall_mem_cons.mpr ⟨?_, List.forall_mem_cons.mpr ⟨?_, List.forall_mem_cons.mpr ⟨?_, fun _ h => absurd h List.not_mem_nil⟩⟩⟩⟩⟩⟩⟩⟩⟩⟩⟩⟩⟩⟩⟩⟩⟩⟩⟩⟩⟩⟩
  · exact x_aload_n_ok (show decode cX8_refusalOfPlace 0 = .ok (.aload_n 0, 1) by decide +kernel) rfl
  · exact x_iload_n_ok (show decode cX8_refusalOfPlace 1 = .ok (.iload_n 1, 1) by decide +kernel) rfl
  · exact x_callV_ok (ci := 6) rfl (by decide) (sX8_refusalOfRow l) hw_288 hw_285 hw_287 hw_2 hw_61 ⟨by decide, by decide, by decide +kernel⟩ rfl (by decide) (by decide) (show decode cX8_refusalOfPlace 2 = .ok (.invokevirtual 88, 3) by decide +kernel)
  · exact x_istore_n_ok (show decode cX8_refusalOfPlace 5 = .ok (.istore_n 3, 1) by decide +kernel) rfl (by decide)
  · exact x_iload_n_ok (show decode cX8_refusalOfPlace 6 = .ok (.iload_n 3, 1) by decide +kernel) rfl
  · exact x_ifeq_ok (show decode cX8_refusalOfPlace 7 = .ok (.ifCond .eq 5, 3) by decide +kernel) (by decide)
  · exact x_iload_n_ok (show decode cX8_refusalOfPlace 10 = .ok (.iload_n 3, 1) by decide +kernel) rfl
  · exact x_iret_ok (show decode cX8_refusalOfPlace 11 = .ok (.ireturn, 1) by decide +kernel)
  · exact x_iload_n_ok (show decode cX8_refusalOfPlace 12 = .ok (.iload_n 2, 1) by decide +kernel) rfl
  · exact x_aload_n_ok (show decode cX8_refusalOfPlace 13 = .ok (.aload_n 0, 1) by decide +kernel) rfl
  · exact x_getR_ok (ci := 6) (k := 0) rfl (by decide) (by decide) hw_222 (show decode cX8_refusalOfPlace 14 = .ok (.getfield 11, 3) by decide +kernel)
  · exact x_iload_n_ok (show decode cX8_refusalOfPlace 17 = .ok (.iload_n 1, 1) by decide +kernel) rfl
  · exact x_aald_ok (show decode cX8_refusalOfPlace 18 = .ok (.aaload, 1) by decide +kernel)
  · exact x_getI_ok (ci := 4) (k := 1) rfl (by decide) (by decide) hw_100 (show decode cX8_refusalOfPlace 19 = .ok (.getfield 107, 3) by decide +kernel)
  · exact x_callS_ok (sX8_among l) hw_268 hw_266 hw_267 hw_61 ⟨by decide, by decide, by decide +kernel⟩ (by decide) (by decide) (show decode cX8_refusalOfPlace 22 = .ok (.invokestatic 65, 3) by decide +kernel)
  · exact x_ifeq_ok (show decode cX8_refusalOfPlace 25 = .ok (.ifCond .eq 7, 3) by decide +kernel) (by decide)
  · exact x_iconst_ok (show decode cX8_refusalOfPlace 28 = .ok (.iconst 0, 1) by decide +kernel) (by decide)
  · exact x_goto_ok (show decode cX8_refusalOfPlace 29 = .ok (.goto 8, 3) by decide +kernel) (by decide)
  · exact x_aload_n_ok (show decode cX8_refusalOfPlace 32 = .ok (.aload_n 0, 1) by decide +kernel) rfl
  · exact x_iconst_ok (show decode cX8_refusalOfPlace 33 = .ok (.iconst 2, 1) by decide +kernel) (by decide)
  · exact x_callV_ok (ci := 6) rfl (by decide) (sX8_findingOf l) hw_272 hw_269 hw_271 hw_0 hw_61 ⟨by decide, by decide, by decide +kernel⟩ rfl (by decide) (by decide) (show decode cX8_refusalOfPlace 34 = .ok (.invokevirtual 69, 3) by decide +kernel)
  · exact x_iret_ok (show decode cX8_refusalOfPlace 37 = .ok (.ireturn, 1) by decide +kernel)
noncomputable def FX8_refusalOfPlace : List Value → xS → Option xR := xden tX8_refusalOfPlace 4 (some .int) 0
theorem sX8_refusalOfPlace (l : Launch) : xSound l yX8_refusalOfPlace cX8_refusalOfPlace 4 (some .int) 3 0 FX8_refusalOfPlace := x_den (by decide) (tX8_refusalOfPlace_ok l)
noncomputable def tX8_lay : List (Nat × xO) := [(0, x_aload 0 1), (1, x_iload 1 1), (2, x_iload 2 1), (3, x_callV 6 0 3 FX8_refusalOfPlace), (6, x_istore 4 2), (8, x_iload 4 2), (10, x_ifeq 16), (13, x_iload 4 2), (15, x_iret), (16, x_aload 0 1), (17, x_aload 0 1), (18, x_getR 6 0), (21, x_iload 1 1), (22, x_aald), (23, x_getR 4 0), (26, x_iload 2 1), (27, x_iald), (28, x_putI 6 10), (31, x_aload 0 1), (32, x_getR 6 0), (35, x_iload 1 1), (36, x_aald), (37, x_getR 4 0), (40, x_iload 2 1), (41, x_iload 3 1), (42, x_iast), (43, x_push (.int (nI 1)) 1), (44, x_iret)]
set_option maxRecDepth 100000 in
theorem tX8_lay_ok (l : Launch) : ∀ q ∈ tX8_lay, xOK l cX8_lay RX8 5 4 0 (yX8_lay.name = "<init>") q.1 q.2 := by
  unfold tX8_lay
  refine List.forall_mem_cons.mpr ⟨?_, List.forall_mem_cons.mpr ⟨?_, List.forall_mem_cons.mpr ⟨?_, List.forall_mem_cons.mpr ⟨?_, List.forall_mem_cons.mpr ⟨?_, List.forall_mem_cons.mpr ⟨?_, List.forall_mem_cons.mpr ⟨?_, List.forall_mem_cons.mpr ⟨?_, List.forall_mem_cons.mpr ⟨?_, List.forall_mem_cons.mpr ⟨?_, List.forall_mem_cons.mpr ⟨?_, List.forall_mem_cons.mpr ⟨?_, List.forall_mem_cons.mpr ⟨?_, List.forall_mem_cons.mpr ⟨?_, List.forall_mem_cons.mpr ⟨?_, List.forall_mem_cons.mpr ⟨?_, List.forall_mem_cons.mpr ⟨?_, List.forall_mem_cons.mpr ⟨?_, List.forall_mem_cons.mpr ⟨?_, List.forall_mem_cons.mpr ⟨?_, List.forall_mem_cons.mpr ⟨?_, List.forall_mem_cons.mpr ⟨?_, List.forall_mem_cons.mpr ⟨?_, List.forall_mem_cons.mpr ⟨?_, List.forall_mem_cons.mpr ⟨?_, List.forall_mem_cons.mpr ⟨?_, List.forall_mem_cons.mpr ⟨?_, List.forall_mem_cons.mpr ⟨?_, fun _ h => absurd h List.not_mem_nil⟩⟩⟩⟩⟩⟩⟩⟩⟩⟩⟩⟩⟩⟩⟩⟩⟩⟩⟩⟩⟩⟩⟩⟩⟩⟩⟩⟩
  · exact x_aload_n_ok (show decode cX8_lay 0 = .ok (.aload_n 0, 1) by decide +kernel) rfl
  · exact x_iload_n_ok (show decode cX8_lay 1 = .ok (.iload_n 1, 1) by decide +kernel) rfl
  · exact x_iload_n_ok (show decode cX8_lay 2 = .ok (.iload_n 2, 1) by decide +kernel) rfl
  · exact x_callV_ok (ci := 6) rfl (by decide) (sX8_refusalOfPlace l) hw_284 hw_281 hw_283 hw_1 hw_61 ⟨by decide, by decide, by decide +kernel⟩ rfl (by decide) (by decide) (show decode cX8_lay 3 = .ok (.invokevirtual 77, 3) by decide +kernel)
  · exact x_istore_ok (show decode cX8_lay 6 = .ok (.istore 4, 2) by decide +kernel) (by decide)
  · exact x_iload_ok (show decode cX8_lay 8 = .ok (.iload 4, 2) by decide +kernel)
  · exact x_ifeq_ok (show decode cX8_lay 10 = .ok (.ifCond .eq 6, 3) by decide +kernel) (by decide)
  · exact x_iload_ok (show decode cX8_lay 13 = .ok (.iload 4, 2) by decide +kernel)
  · exact x_iret_ok (show decode cX8_lay 15 = .ok (.ireturn, 1) by decide +kernel)
  · exact x_aload_n_ok (show decode cX8_lay 16 = .ok (.aload_n 0, 1) by decide +kernel) rfl
  · exact x_aload_n_ok (show decode cX8_lay 17 = .ok (.aload_n 0, 1) by decide +kernel) rfl
  · exact x_getR_ok (ci := 6) (k := 0) rfl (by decide) (by decide) hw_222 (show decode cX8_lay 18 = .ok (.getfield 11, 3) by decide +kernel)
  · exact x_iload_n_ok (show decode cX8_lay 21 = .ok (.iload_n 1, 1) by decide +kernel) rfl
  · exact x_aald_ok (show decode cX8_lay 22 = .ok (.aaload, 1) by decide +kernel)
  · exact x_getR_ok (ci := 4) (k := 0) rfl (by decide) (by decide) hw_96 (show decode cX8_lay 23 = .ok (.getfield 81, 3) by decide +kernel)
  · exact x_iload_n_ok (show decode cX8_lay 26 = .ok (.iload_n 2, 1) by decide +kernel) rfl
  · exact x_iald_ok (show decode cX8_lay 27 = .ok (.iaload, 1) by decide +kernel)
  · exact x_putI_ok (ci := 6) (k := 10) rfl (by decide) (by decide) rfl hw_232 rfl (show decode cX8_lay 28 = .ok (.putfield 84, 3) by decide +kernel)
  · exact x_aload_n_ok (show decode cX8_lay 31 = .ok (.aload_n 0, 1) by decide +kernel) rfl
  · exact x_getR_ok (ci := 6) (k := 0) rfl (by decide) (by decide) hw_222 (show decode cX8_lay 32 = .ok (.getfield 11, 3) by decide +kernel)
  · exact x_iload_n_ok (show decode cX8_lay 35 = .ok (.iload_n 1, 1) by decide +kernel) rfl
  · exact x_aald_ok (show decode cX8_lay 36 = .ok (.aaload, 1) by decide +kernel)
  · exact x_getR_ok (ci := 4) (k := 0) rfl (by decide) (by decide) hw_96 (show decode cX8_lay 37 = .ok (.getfield 81, 3) by decide +kernel)
  · exact x_iload_n_ok (show decode cX8_lay 40 = .ok (.iload_n 2, 1) by decide +kernel) rfl
  · exact x_iload_n_ok (show decode cX8_lay 41 = .ok (.iload_n 3, 1) by decide +kernel) rfl
  · exact x_iast_ok (show decode cX8_lay 42 = .ok (.iastore, 1) by decide +kernel)
  · exact x_iconst_ok (show decode cX8_lay 43 = .ok (.iconst 1, 1) by decide +kernel) (by decide)
  · exact x_iret_ok (show decode cX8_lay 44 = .ok (.ireturn, 1) by decide +kernel)
noncomputable def FX8_lay : List Value → xS → Option xR := xden tX8_lay 5 (some .int) 0
theorem sX8_lay (l : Launch) : xSound l yX8_lay cX8_lay 5 (some .int) 4 0 FX8_lay := x_den (by decide) (tX8_lay_ok l)
noncomputable def tX9_refused : List (Nat × xO) := [(0, x_iload 1 1), (1, x_call 0 1 FX9_isRow), (4, x_ifne 11), (7, x_push (.int (-1)) 1), (8, x_goto 55), (11, x_aload 0 1), (12, x_getR 7 1), (15, x_iload 1 1), (16, x_iald), (17, x_ifge 28), (20, x_aload 0 1), (21, x_push (.int (nI 1)) 1), (22, x_callV 7 0 2 FX9_find), (25, x_goto 55), (28, x_iload 2 1), (29, x_i2l), (30, x_push (.long 0) 1), (31, x_aload 0 1), (32, x_getR 7 1), (35, x_iload 1 1), (36, x_iald), (37, x_push (.int (nI 1)) 1), (38, x_ii (fun x y => x - y)), (39, x_i2l), (40, x_call 0 3 FX9_in), (43, x_ifeq 50), (46, x_push (.int (nI 0)) 1), (47, x_goto 55), (50, x_aload 0 1), (51, x_push (.int (nI 2)) 1), (52, x_callV 7 0 2 FX9_find), (55, x_iret)]
set_option maxRecDepth 100000 in
theorem tX9_refused_ok (l : Launch) : ∀ q ∈ tX9_refused, xOK l cX9_refused RX9 3 3 0 (yX9_refused.name = "<init>") q.1 q.2 := by
  unfold tX9_refused
  refine List.forall_mem_cons.mpr ⟨?_, List.forall_mem_cons.mpr ⟨?_, List.forall_mem_cons.mpr ⟨?_, List.forall_mem_cons.mpr ⟨?_, List.forall_mem_cons.mpr ⟨?_, List.forall_mem_cons.mpr ⟨?_, List.forall_mem_cons.mpr ⟨?_, List.forall_mem_cons.mpr ⟨?_, List.forall_mem_cons.mpr ⟨?_, List.forall_mem_cons.mpr ⟨?_, List.forall_mem_cons.mpr ⟨?_, List.forall_mem_cons.mpr ⟨?_, List.forall_mem_cons.mpr ⟨?_, List.forall_mem_cons.mpr ⟨?_, List.forall_mem_cons.mpr ⟨?_, List.forall_mem_cons.mpr ⟨?_, List.forall_mem_cons.mpr ⟨?_, List.forall_mem_cons.mpr ⟨?_, List.forall_mem_cons.mpr ⟨?_, List.forall_mem_cons.mpr ⟨?_, List.forall_mem_cons.mpr ⟨?_, List.forall_mem_cons.mpr ⟨?_, List.forall_mem_cons.mpr ⟨?_, List.forall_mem_cons.mpr ⟨?_, List.forall_mem_cons.mpr ⟨?_, List.forall_mem_cons.mpr ⟨?_, List.forall_mem_cons.mpr ⟨?_, List.forall_mem_cons.mpr ⟨?_, List.forall_mem_cons.mpr ⟨?_, List.forall_mem_cons.mpr ⟨?_, List.forall_mem_cons.mpr ⟨?_, List.forall_mem_cons.mpr ⟨?_, fun _ h => absurd h List.not_mem_nil⟩⟩⟩⟩⟩⟩⟩⟩⟩⟩⟩⟩⟩⟩⟩⟩⟩⟩⟩⟩⟩⟩⟩⟩⟩⟩⟩⟩⟩⟩⟩⟩
  · exact x_iload_n_ok (show decode cX9_refused 0 = .ok (.iload_n 1, 1) by decide +kernel) rfl
  · exact x_callS_ok (sX9_isRow l) hw_914 hw_912 hw_913 hw_68 ⟨by decide, by decide, by decide +kernel⟩ (by decide) (by decide) (show decode cX9_refused 1 = .ok (.invokestatic 66, 3) by decide +kernel)
  · exact x_ifne_ok (show decode cX9_refused 4 = .ok (.ifCond .ne 7, 3) by decide +kernel) (by decide)
  · exact x_iconst_ok (show decode cX9_refused 7 = .ok (.iconst (-1), 1) by decide +kernel) (by decide)
  · exact x_goto_ok (show decode cX9_refused 8 = .ok (.goto 47, 3) by decide +kernel) (by decide)
  · exact x_aload_n_ok (show decode cX9_refused 11 = .ok (.aload_n 0, 1) by decide +kernel) rfl
  · exact x_getR_ok (ci := 7) (k := 1) rfl (by decide) (by decide) hw_845 (show decode cX9_refused 12 = .ok (.getfield 13, 3) by decide +kernel)
  · exact x_iload_n_ok (show decode cX9_refused 15 = .ok (.iload_n 1, 1) by decide +kernel) rfl
  · exact x_iald_ok (show decode cX9_refused 16 = .ok (.iaload, 1) by decide +kernel)
  · exact x_ifge_ok (show decode cX9_refused 17 = .ok (.ifCond .ge 11, 3) by decide +kernel) (by decide)
  · exact x_aload_n_ok (show decode cX9_refused 20 = .ok (.aload_n 0, 1) by decide +kernel) rfl
  · exact x_iconst_ok (show decode cX9_refused 21 = .ok (.iconst 1, 1) by decide +kernel) (by decide)
  · exact x_callV_ok (ci := 7) rfl (by decide) (sX9_find l) hw_922 hw_919 hw_921 hw_18 hw_68 ⟨by decide, by decide, by decide +kernel⟩ rfl (by decide) (by decide) (show decode cX9_refused 22 = .ok (.invokevirtual 70, 3) by decide +kernel)
  · exact x_goto_ok (show decode cX9_refused 25 = .ok (.goto 30, 3) by decide +kernel) (by decide)
  · exact x_iload_n_ok (show decode cX9_refused 28 = .ok (.iload_n 2, 1) by decide +kernel) rfl
  · exact x_i2l_ok (show decode cX9_refused 29 = .ok (.i2l, 1) by decide +kernel)
  · exact x_lconst_ok (show decode cX9_refused 30 = .ok (.lconst 0, 1) by decide +kernel) rfl
  · exact x_aload_n_ok (show decode cX9_refused 31 = .ok (.aload_n 0, 1) by decide +kernel) rfl
  · exact x_getR_ok (ci := 7) (k := 1) rfl (by decide) (by decide) hw_845 (show decode cX9_refused 32 = .ok (.getfield 13, 3) by decide +kernel)
  · exact x_iload_n_ok (show decode cX9_refused 35 = .ok (.iload_n 1, 1) by decide +kernel) rfl
  · exact x_iald_ok (show decode cX9_refused 36 = .ok (.iaload, 1) by decide +kernel)
  · exact x_iconst_ok (show decode cX9_refused 37 = .ok (.iconst 1, 1) by decide +kernel) (by decide)
  · exact x_isub_ok (show decode cX9_refused 38 = .ok (.isub, 1) by decide +kernel)
  · exact x_i2l_ok (show decode cX9_refused 39 = .ok (.i2l, 1) by decide +kernel)
  · exact x_callS_ok (sX9_in l) hw_918 hw_916 hw_917 hw_68 ⟨by decide, by decide, by decide +kernel⟩ (by decide) (by decide) (show decode cX9_refused 40 = .ok (.invokestatic 60, 3) by decide +kernel)
  · exact x_ifeq_ok (show decode cX9_refused 43 = .ok (.ifCond .eq 7, 3) by decide +kernel) (by decide)
  · exact x_iconst_ok (show decode cX9_refused 46 = .ok (.iconst 0, 1) by decide +kernel) (by decide)
  · exact x_goto_ok (show decode cX9_refused 47 = .ok (.goto 8, 3) by decide +kernel) (by decide)
  · exact x_aload_n_ok (show decode cX9_refused 50 = .ok (.aload_n 0, 1) by decide +kernel) rfl
  · exact x_iconst_ok (show decode cX9_refused 51 = .ok (.iconst 2, 1) by decide +kernel) (by decide)
  · exact x_callV_ok (ci := 7) rfl (by decide) (sX9_find l) hw_922 hw_919 hw_921 hw_18 hw_68 ⟨by decide, by decide, by decide +kernel⟩ rfl (by decide) (by decide) (show decode cX9_refused 52 = .ok (.invokevirtual 70, 3) by decide +kernel)
  · exact x_iret_ok (show decode cX9_refused 55 = .ok (.ireturn, 1) by decide +kernel)
noncomputable def FX9_refused : List Value → xS → Option xR := xden tX9_refused 3 (some .int) 0
theorem sX9_refused (l : Launch) : xSound l yX9_refused cX9_refused 3 (some .int) 3 0 FX9_refused := x_den (by decide) (tX9_refused_ok l)
noncomputable def tX9_tell : List (Nat × xO) := [(0, x_aload 0 1), (1, x_iload 1 1), (2, x_putI 7 5), (5, x_push (.int (nI 1)) 1), (6, x_iret)]
set_option maxRecDepth 100000 in
theorem tX9_tell_ok (l : Launch) : ∀ q ∈ tX9_tell, xOK l cX9_tell RX9 2 1 0 (yX9_tell.name = "<init>") q.1 q.2 := by
  unfold tX9_tell
  refine List.forall_mem_cons.mpr ⟨?_, List.forall_mem_cons.mpr ⟨?_, List.forall_mem_cons.mpr ⟨?_, List.forall_mem_cons.mpr ⟨?_, List.forall_mem_cons.mpr ⟨?_, fun _ h => absurd h List.not_mem_nil⟩⟩⟩⟩⟩
  · exact x_aload_n_ok (show decode cX9_tell 0 = .ok (.aload_n 0, 1) by decide +kernel) rfl
  · exact x_iload_n_ok (show decode cX9_tell 1 = .ok (.iload_n 1, 1) by decide +kernel) rfl
  · exact x_putI_ok (ci := 7) (k := 5) rfl (by decide) (by decide) rfl hw_849 rfl (show decode cX9_tell 2 = .ok (.putfield 55, 3) by decide +kernel)
  · exact x_iconst_ok (show decode cX9_tell 5 = .ok (.iconst 1, 1) by decide +kernel) (by decide)
  · exact x_iret_ok (show decode cX9_tell 6 = .ok (.ireturn, 1) by decide +kernel)
noncomputable def FX9_tell : List Value → xS → Option xR := xden tX9_tell 2 (some .int) 0
theorem sX9_tell (l : Launch) : xSound l yX9_tell cX9_tell 2 (some .int) 1 0 FX9_tell := x_den (by decide) (tX9_tell_ok l)
noncomputable def tX9_lay : List (Nat × xO) := [(0, x_aload 0 1), (1, x_iload 1 1), (2, x_iload 2 1), (3, x_callV 7 0 3 FX9_refused), (6, x_istore 4 2), (8, x_iload 4 2), (10, x_ifeq 16), (13, x_iload 4 2), (15, x_iret), (16, x_aload 0 1), (17, x_getR 7 2), (20, x_push (.int (nI 40)) 2), (22, x_iload 1 1), (23, x_ii (fun x y => x * y)), (24, x_iload 2 1), (25, x_ii (fun x y => x + y)), (26, x_iald), (27, x_istore 5 2), (29, x_aload 0 1), (30, x_getR 7 2), (33, x_push (.int (nI 40)) 2), (35, x_iload 1 1), (36, x_ii (fun x y => x * y)), (37, x_iload 2 1), (38, x_ii (fun x y => x + y)), (39, x_iload 3 1), (40, x_iast), (41, x_aload 0 1), (42, x_iload 5 2), (44, x_callV 7 0 2 FX9_tell), (47, x_iret)]
set_option maxRecDepth 100000 in
theorem tX9_lay_ok (l : Launch) : ∀ q ∈ tX9_lay, xOK l cX9_lay RX9 6 4 0 (yX9_lay.name = "<init>") q.1 q.2 := by
  unfold tX9_lay
  refine List.forall_mem_cons.mpr ⟨?_, List.forall_mem_cons.mpr ⟨?_, List.forall_mem_cons.mpr ⟨?_, List.forall_mem_cons.mpr ⟨?_, List.forall_mem_cons.mpr ⟨?_, List.forall_mem_cons.mpr ⟨?_, List.forall_mem_cons.mpr ⟨?_, List.forall_mem_cons.mpr ⟨?_, List.forall_mem_cons.mpr ⟨?_, List.forall_mem_cons.mpr ⟨?_, List.forall_mem_cons.mpr ⟨?_, List.forall_mem_cons.mpr ⟨?_, List.forall_mem_cons.mpr ⟨?_, List.forall_mem_cons.mpr ⟨?_, List.forall_mem_cons.mpr ⟨?_, List.forall_mem_cons.mpr ⟨?_, List.forall_mem_cons.mpr ⟨?_, List.forall_mem_cons.mpr ⟨?_, List.forall_mem_cons.mpr ⟨?_, List.forall_mem_cons.mpr ⟨?_, List.forall_mem_cons.mpr ⟨?_, List.forall_mem_cons.mpr ⟨?_, List.forall_mem_cons.mpr ⟨?_, List.forall_mem_cons.mpr ⟨?_, List.forall_mem_cons.mpr ⟨?_, List.forall_mem_cons.mpr ⟨?_, List.forall_mem_cons.mpr ⟨?_, List.forall_mem_cons.mpr ⟨?_, List.forall_mem_cons.mpr ⟨?_, List.forall_mem_cons.mpr ⟨?_, List.forall_mem_cons.mpr ⟨?_, fun _ h => absurd h List.not_mem_nil⟩⟩⟩⟩⟩⟩⟩⟩⟩⟩⟩⟩⟩⟩⟩⟩⟩⟩⟩⟩⟩⟩⟩⟩⟩⟩⟩⟩⟩⟩⟩
  · exact x_aload_n_ok (show decode cX9_lay 0 = .ok (.aload_n 0, 1) by decide +kernel) rfl
  · exact x_iload_n_ok (show decode cX9_lay 1 = .ok (.iload_n 1, 1) by decide +kernel) rfl
  · exact x_iload_n_ok (show decode cX9_lay 2 = .ok (.iload_n 2, 1) by decide +kernel) rfl
  · exact x_callV_ok (ci := 7) rfl (by decide) (sX9_refused l) hw_934 hw_931 hw_933 hw_20 hw_68 ⟨by decide, by decide, by decide +kernel⟩ rfl (by decide) (by decide) (show decode cX9_lay 3 = .ok (.invokevirtual 78, 3) by decide +kernel)
  · exact x_istore_ok (show decode cX9_lay 6 = .ok (.istore 4, 2) by decide +kernel) (by decide)
  · exact x_iload_ok (show decode cX9_lay 8 = .ok (.iload 4, 2) by decide +kernel)
  · exact x_ifeq_ok (show decode cX9_lay 10 = .ok (.ifCond .eq 6, 3) by decide +kernel) (by decide)
  · exact x_iload_ok (show decode cX9_lay 13 = .ok (.iload 4, 2) by decide +kernel)
  · exact x_iret_ok (show decode cX9_lay 15 = .ok (.ireturn, 1) by decide +kernel)
  · exact x_aload_n_ok (show decode cX9_lay 16 = .ok (.aload_n 0, 1) by decide +kernel) rfl
  · exact x_getR_ok (ci := 7) (k := 2) rfl (by decide) (by decide) hw_846 (show decode cX9_lay 17 = .ok (.getfield 16, 3) by decide +kernel)
  · exact x_bipush_ok (show decode cX9_lay 20 = .ok (.bipush 40, 2) by decide +kernel) (by decide)
  · exact x_iload_n_ok (show decode cX9_lay 22 = .ok (.iload_n 1, 1) by decide +kernel) rfl
  · exact x_imul_ok (show decode cX9_lay 23 = .ok (.imul, 1) by decide +kernel)
  · exact x_iload_n_ok (show decode cX9_lay 24 = .ok (.iload_n 2, 1) by decide +kernel) rfl
  · exact x_iadd_ok (show decode cX9_lay 25 = .ok (.iadd, 1) by decide +kernel)
  · exact x_iald_ok (show decode cX9_lay 26 = .ok (.iaload, 1) by decide +kernel)
  · exact x_istore_ok (show decode cX9_lay 27 = .ok (.istore 5, 2) by decide +kernel) (by decide)
  · exact x_aload_n_ok (show decode cX9_lay 29 = .ok (.aload_n 0, 1) by decide +kernel) rfl
  · exact x_getR_ok (ci := 7) (k := 2) rfl (by decide) (by decide) hw_846 (show decode cX9_lay 30 = .ok (.getfield 16, 3) by decide +kernel)
  · exact x_bipush_ok (show decode cX9_lay 33 = .ok (.bipush 40, 2) by decide +kernel) (by decide)
  · exact x_iload_n_ok (show decode cX9_lay 35 = .ok (.iload_n 1, 1) by decide +kernel) rfl
  · exact x_imul_ok (show decode cX9_lay 36 = .ok (.imul, 1) by decide +kernel)
  · exact x_iload_n_ok (show decode cX9_lay 37 = .ok (.iload_n 2, 1) by decide +kernel) rfl
  · exact x_iadd_ok (show decode cX9_lay 38 = .ok (.iadd, 1) by decide +kernel)
  · exact x_iload_n_ok (show decode cX9_lay 39 = .ok (.iload_n 3, 1) by decide +kernel) rfl
  · exact x_iast_ok (show decode cX9_lay 40 = .ok (.iastore, 1) by decide +kernel)
  · exact x_aload_n_ok (show decode cX9_lay 41 = .ok (.aload_n 0, 1) by decide +kernel) rfl
  · exact x_iload_ok (show decode cX9_lay 42 = .ok (.iload 5, 2) by decide +kernel)
  · exact x_callV_ok (ci := 7) rfl (by decide) (sX9_tell l) hw_938 hw_935 hw_937 hw_21 hw_68 ⟨by decide, by decide, by decide +kernel⟩ rfl (by decide) (by decide) (show decode cX9_lay 44 = .ok (.invokevirtual 82, 3) by decide +kernel)
  · exact x_iret_ok (show decode cX9_lay 47 = .ok (.ireturn, 1) by decide +kernel)
noncomputable def FX9_lay : List Value → xS → Option xR := xden tX9_lay 6 (some .int) 0
theorem sX9_lay (l : Launch) : xSound l yX9_lay cX9_lay 6 (some .int) 4 0 FX9_lay := x_den (by decide) (tX9_lay_ok l)
noncomputable def tX8_at : List (Nat × xO) := [(0, x_aload 0 1), (1, x_iload 1 1), (2, x_iload 2 1), (3, x_callV 6 0 3 FX8_refusalOfPlace), (6, x_istore 3 1), (7, x_iload 3 1), (8, x_ifeq 13), (11, x_iload 3 1), (12, x_iret), (13, x_aload 0 1), (14, x_aload 0 1), (15, x_getR 6 0), (18, x_iload 1 1), (19, x_aald), (20, x_getR 4 0), (23, x_iload 2 1), (24, x_iald), (25, x_putI 6 10), (28, x_push (.int (nI 1)) 1), (29, x_iret)]
set_option maxRecDepth 100000 in
theorem tX8_at_ok (l : Launch) : ∀ q ∈ tX8_at, xOK l cX8_at RX8 4 4 0 (yX8_at.name = "<init>") q.1 q.2 := by
  unfold tX8_at
  refine List.forall_mem_cons.mpr ⟨?_, List.forall_mem_cons.mpr ⟨?_, List.forall_mem_cons.mpr ⟨?_, List.forall_mem_cons.mpr ⟨?_, List.forall_mem_cons.mpr ⟨?_, List.forall_mem_cons.mpr ⟨?_, List.forall_mem_cons.mpr ⟨?_, List.forall_mem_cons.mpr ⟨?_, List.forall_mem_cons.mpr ⟨?_, List.forall_mem_cons.mpr ⟨?_, List.forall_mem_cons.mpr ⟨?_, List.forall_mem_cons.mpr ⟨?_, List.forall_mem_cons.mpr ⟨?_, List.forall_mem_cons.mpr ⟨?_, List.forall_mem_cons.mpr ⟨?_, List.forall_mem_cons.mpr ⟨?_, List.forall_mem_cons.mpr ⟨?_, List.forall_mem_cons.mpr ⟨?_, List.forall_mem_cons.mpr ⟨?_, List.forall_mem_cons.mpr ⟨?_, fun _ h => absurd h List.not_mem_nil⟩⟩⟩⟩⟩⟩⟩⟩⟩⟩⟩⟩⟩⟩⟩⟩⟩⟩⟩⟩
  · exact x_aload_n_ok (show decode cX8_at 0 = .ok (.aload_n 0, 1) by decide +kernel) rfl
  · exact x_iload_n_ok (show decode cX8_at 1 = .ok (.iload_n 1, 1) by decide +kernel) rfl
  · exact x_iload_n_ok (show decode cX8_at 2 = .ok (.iload_n 2, 1) by decide +kernel) rfl
  · exact x_callV_ok (ci := 6) rfl (by decide) (sX8_refusalOfPlace l) hw_284 hw_281 hw_283 hw_1 hw_61 ⟨by decide, by decide, by decide +kernel⟩ rfl (by decide) (by decide) (show decode cX8_at 3 = .ok (.invokevirtual 77, 3) by decide +kernel)
  · exact x_istore_n_ok (show decode cX8_at 6 = .ok (.istore_n 3, 1) by decide +kernel) rfl (by decide)
  · exact x_iload_n_ok (show decode cX8_at 7 = .ok (.iload_n 3, 1) by decide +kernel) rfl
  · exact x_ifeq_ok (show decode cX8_at 8 = .ok (.ifCond .eq 5, 3) by decide +kernel) (by decide)
  · exact x_iload_n_ok (show decode cX8_at 11 = .ok (.iload_n 3, 1) by decide +kernel) rfl
  · exact x_iret_ok (show decode cX8_at 12 = .ok (.ireturn, 1) by decide +kernel)
  · exact x_aload_n_ok (show decode cX8_at 13 = .ok (.aload_n 0, 1) by decide +kernel) rfl
  · exact x_aload_n_ok (show decode cX8_at 14 = .ok (.aload_n 0, 1) by decide +kernel) rfl
  · exact x_getR_ok (ci := 6) (k := 0) rfl (by decide) (by decide) hw_222 (show decode cX8_at 15 = .ok (.getfield 11, 3) by decide +kernel)
  · exact x_iload_n_ok (show decode cX8_at 18 = .ok (.iload_n 1, 1) by decide +kernel) rfl
  · exact x_aald_ok (show decode cX8_at 19 = .ok (.aaload, 1) by decide +kernel)
  · exact x_getR_ok (ci := 4) (k := 0) rfl (by decide) (by decide) hw_96 (show decode cX8_at 20 = .ok (.getfield 81, 3) by decide +kernel)
  · exact x_iload_n_ok (show decode cX8_at 23 = .ok (.iload_n 2, 1) by decide +kernel) rfl
  · exact x_iald_ok (show decode cX8_at 24 = .ok (.iaload, 1) by decide +kernel)
  · exact x_putI_ok (ci := 6) (k := 10) rfl (by decide) (by decide) rfl hw_232 rfl (show decode cX8_at 25 = .ok (.putfield 84, 3) by decide +kernel)
  · exact x_iconst_ok (show decode cX8_at 28 = .ok (.iconst 1, 1) by decide +kernel) (by decide)
  · exact x_iret_ok (show decode cX8_at 29 = .ok (.ireturn, 1) by decide +kernel)
noncomputable def FX8_at : List Value → xS → Option xR := xden tX8_at 4 (some .int) 0
theorem sX8_at (l : Launch) : xSound l yX8_at cX8_at 4 (some .int) 4 0 FX8_at := x_den (by decide) (tX8_at_ok l)
noncomputable def tX9_at : List (Nat × xO) := [(0, x_aload 0 1), (1, x_iload 1 1), (2, x_iload 2 1), (3, x_callV 7 0 3 FX9_refused), (6, x_istore 3 1), (7, x_iload 3 1), (8, x_ifeq 15), (11, x_iload 3 1), (12, x_goto 30), (15, x_aload 0 1), (16, x_aload 0 1), (17, x_getR 7 2), (20, x_push (.int (nI 40)) 2), (22, x_iload 1 1), (23, x_ii (fun x y => x * y)), (24, x_iload 2 1), (25, x_ii (fun x y => x + y)), (26, x_iald), (27, x_callV 7 0 2 FX9_tell), (30, x_iret)]
set_option maxRecDepth 100000 in
theorem tX9_at_ok (l : Launch) : ∀ q ∈ tX9_at, xOK l cX9_at RX9 4 4 0 (yX9_at.name = "<init>") q.1 q.2 := by
  unfold tX9_at
  refine List.forall_mem_cons.mpr ⟨?_, List.forall_mem_cons.mpr ⟨?_, List.forall_mem_cons.mpr ⟨?_, List.forall_mem_cons.mpr ⟨?_, List.forall_mem_cons.mpr ⟨?_, List.forall_mem_cons.mpr ⟨?_, List.forall_mem_cons.mpr ⟨?_, List.forall_mem_cons.mpr ⟨?_, List.forall_mem_cons.mpr ⟨?_, List.forall_mem_cons.mpr ⟨?_, List.forall_mem_cons.mpr ⟨?_, List.forall_mem_cons.mpr ⟨?_, List.forall_mem_cons.mpr ⟨?_, List.forall_mem_cons.mpr ⟨?_, List.forall_mem_cons.mpr ⟨?_, List.forall_mem_cons.mpr ⟨?_, List.forall_mem_cons.mpr ⟨?_, List.forall_mem_cons.mpr ⟨?_, List.forall_mem_cons.mpr ⟨?_, List.forall_mem_cons.mpr ⟨?_, fun _ h => absurd h List.not_mem_nil⟩⟩⟩⟩⟩⟩⟩⟩⟩⟩⟩⟩⟩⟩⟩⟩⟩⟩⟩⟩
  · exact x_aload_n_ok (show decode cX9_at 0 = .ok (.aload_n 0, 1) by decide +kernel) rfl
  · exact x_iload_n_ok (show decode cX9_at 1 = .ok (.iload_n 1, 1) by decide +kernel) rfl
  · exact x_iload_n_ok (show decode cX9_at 2 = .ok (.iload_n 2, 1) by decide +kernel) rfl
  · exact x_callV_ok (ci := 7) rfl (by decide) (sX9_refused l) hw_934 hw_931 hw_933 hw_20 hw_68 ⟨by decide, by decide, by decide +kernel⟩ rfl (by decide) (by decide) (show decode cX9_at 3 = .ok (.invokevirtual 78, 3) by decide +kernel)
  · exact x_istore_n_ok (show decode cX9_at 6 = .ok (.istore_n 3, 1) by decide +kernel) rfl (by decide)
  · exact x_iload_n_ok (show decode cX9_at 7 = .ok (.iload_n 3, 1) by decide +kernel) rfl
  · exact x_ifeq_ok (show decode cX9_at 8 = .ok (.ifCond .eq 7, 3) by decide +kernel) (by decide)
  · exact x_iload_n_ok (show decode cX9_at 11 = .ok (.iload_n 3, 1) by decide +kernel) rfl
  · exact x_goto_ok (show decode cX9_at 12 = .ok (.goto 18, 3) by decide +kernel) (by decide)
  · exact x_aload_n_ok (show decode cX9_at 15 = .ok (.aload_n 0, 1) by decide +kernel) rfl
  · exact x_aload_n_ok (show decode cX9_at 16 = .ok (.aload_n 0, 1) by decide +kernel) rfl
  · exact x_getR_ok (ci := 7) (k := 2) rfl (by decide) (by decide) hw_846 (show decode cX9_at 17 = .ok (.getfield 16, 3) by decide +kernel)
  · exact x_bipush_ok (show decode cX9_at 20 = .ok (.bipush 40, 2) by decide +kernel) (by decide)
  · exact x_iload_n_ok (show decode cX9_at 22 = .ok (.iload_n 1, 1) by decide +kernel) rfl
  · exact x_imul_ok (show decode cX9_at 23 = .ok (.imul, 1) by decide +kernel)
  · exact x_iload_n_ok (show decode cX9_at 24 = .ok (.iload_n 2, 1) by decide +kernel) rfl
  · exact x_iadd_ok (show decode cX9_at 25 = .ok (.iadd, 1) by decide +kernel)
  · exact x_iald_ok (show decode cX9_at 26 = .ok (.iaload, 1) by decide +kernel)
  · exact x_callV_ok (ci := 7) rfl (by decide) (sX9_tell l) hw_938 hw_935 hw_937 hw_21 hw_68 ⟨by decide, by decide, by decide +kernel⟩ rfl (by decide) (by decide) (show decode cX9_at 27 = .ok (.invokevirtual 82, 3) by decide +kernel)
  · exact x_iret_ok (show decode cX9_at 30 = .ok (.ireturn, 1) by decide +kernel)
noncomputable def FX9_at : List Value → xS → Option xR := xden tX9_at 4 (some .int) 0
theorem sX9_at (l : Launch) : xSound l yX9_at cX9_at 4 (some .int) 4 0 FX9_at := x_den (by decide) (tX9_at_ok l)
noncomputable def tX5_remove : List (Nat × xO) := [(0, x_aload 0 1), (1, x_push (.int (-1)) 1), (2, x_putI 4 1), (5, x_vret)]
set_option maxRecDepth 100000 in
theorem tX5_remove_ok (l : Launch) : ∀ q ∈ tX5_remove, xOK l cX5_remove RX5 1 1 0 (yX5_remove.name = "<init>") q.1 q.2 := by
  unfold tX5_remove
  refine List.forall_mem_cons.mpr ⟨?_, List.forall_mem_cons.mpr ⟨?_, List.forall_mem_cons.mpr ⟨?_, List.forall_mem_cons.mpr ⟨?_, fun _ h => absurd h List.not_mem_nil⟩⟩⟩⟩
  · exact x_aload_n_ok (show decode cX5_remove 0 = .ok (.aload_n 0, 1) by decide +kernel) rfl
  · exact x_iconst_ok (show decode cX5_remove 1 = .ok (.iconst (-1), 1) by decide +kernel) (by decide)
  · exact x_putI_ok (ci := 4) (k := 1) rfl (by decide) (by decide) rfl hw_97 rfl (show decode cX5_remove 2 = .ok (.putfield 13, 3) by decide +kernel)
  · exact x_vret_ok (show decode cX5_remove 5 = .ok (.return_, 1) by decide +kernel)
noncomputable def FX5_remove : List Value → xS → Option xR := xden tX5_remove 1 none 0
theorem sX5_remove (l : Launch) : xSound l yX5_remove cX5_remove 1 none 1 0 FX5_remove := x_den (by decide) (tX5_remove_ok l)
noncomputable def tX8_tear : List (Nat × xO) := [(0, x_aload 0 1), (1, x_iload 1 1), (2, x_callV 6 0 2 FX8_refusalOfRow), (5, x_istore 2 1), (6, x_iload 2 1), (7, x_ifeq 12), (10, x_iload 2 1), (11, x_iret), (12, x_aload 0 1), (13, x_getR 6 0), (16, x_iload 1 1), (17, x_aald), (18, x_callV 4 0 1 FX5_remove), (21, x_push (.int (nI 1)) 1), (22, x_iret)]
set_option maxRecDepth 100000 in
theorem tX8_tear_ok (l : Launch) : ∀ q ∈ tX8_tear, xOK l cX8_tear RX8 3 3 0 (yX8_tear.name = "<init>") q.1 q.2 := by
  unfold tX8_tear
  refine List.forall_mem_cons.mpr ⟨?_, List.forall_mem_cons.mpr ⟨?_, List.forall_mem_cons.mpr ⟨?_, List.forall_mem_cons.mpr ⟨?_, List.forall_mem_cons.mpr ⟨?_, List.forall_mem_cons.mpr ⟨?_, List.forall_mem_cons.mpr ⟨?_, List.forall_mem_cons.mpr ⟨?_, List.forall_mem_cons.mpr ⟨?_, List.forall_mem_cons.mpr ⟨?_, List.forall_mem_cons.mpr ⟨?_, List.forall_mem_cons.mpr ⟨?_, List.forall_mem_cons.mpr ⟨?_, List.forall_mem_cons.mpr ⟨?_, List.forall_mem_cons.mpr ⟨?_, fun _ h => absurd h List.not_mem_nil⟩⟩⟩⟩⟩⟩⟩⟩⟩⟩⟩⟩⟩⟩⟩
  · exact x_aload_n_ok (show decode cX8_tear 0 = .ok (.aload_n 0, 1) by decide +kernel) rfl
  · exact x_iload_n_ok (show decode cX8_tear 1 = .ok (.iload_n 1, 1) by decide +kernel) rfl
  · exact x_callV_ok (ci := 6) rfl (by decide) (sX8_refusalOfRow l) hw_288 hw_285 hw_287 hw_2 hw_61 ⟨by decide, by decide, by decide +kernel⟩ rfl (by decide) (by decide) (show decode cX8_tear 2 = .ok (.invokevirtual 88, 3) by decide +kernel)
  · exact x_istore_n_ok (show decode cX8_tear 5 = .ok (.istore_n 2, 1) by decide +kernel) rfl (by decide)
  · exact x_iload_n_ok (show decode cX8_tear 6 = .ok (.iload_n 2, 1) by decide +kernel) rfl
  · exact x_ifeq_ok (show decode cX8_tear 7 = .ok (.ifCond .eq 5, 3) by decide +kernel) (by decide)
  · exact x_iload_n_ok (show decode cX8_tear 10 = .ok (.iload_n 2, 1) by decide +kernel) rfl
  · exact x_iret_ok (show decode cX8_tear 11 = .ok (.ireturn, 1) by decide +kernel)
  · exact x_aload_n_ok (show decode cX8_tear 12 = .ok (.aload_n 0, 1) by decide +kernel) rfl
  · exact x_getR_ok (ci := 6) (k := 0) rfl (by decide) (by decide) hw_222 (show decode cX8_tear 13 = .ok (.getfield 11, 3) by decide +kernel)
  · exact x_iload_n_ok (show decode cX8_tear 16 = .ok (.iload_n 1, 1) by decide +kernel) rfl
  · exact x_aald_ok (show decode cX8_tear 17 = .ok (.aaload, 1) by decide +kernel)
  · exact x_callV_ok (ci := 4) rfl (by decide) (sX5_remove l) hw_304 hw_301 hw_302 hw_303 hw_62 ⟨by decide, by decide, by decide +kernel⟩ rfl (by decide) (by decide) (show decode cX8_tear 18 = .ok (.invokevirtual 91, 3) by decide +kernel)
  · exact x_iconst_ok (show decode cX8_tear 21 = .ok (.iconst 1, 1) by decide +kernel) (by decide)
  · exact x_iret_ok (show decode cX8_tear 22 = .ok (.ireturn, 1) by decide +kernel)
noncomputable def FX8_tear : List Value → xS → Option xR := xden tX8_tear 3 (some .int) 0
theorem sX8_tear (l : Launch) : xSound l yX8_tear cX8_tear 3 (some .int) 3 0 FX8_tear := x_den (by decide) (tX8_tear_ok l)
noncomputable def tX9_tear : List (Nat × xO) := [(0, x_iload 1 1), (1, x_call 0 1 FX9_isRow), (4, x_ifne 9), (7, x_push (.int (-1)) 1), (8, x_iret), (9, x_aload 0 1), (10, x_getR 7 1), (13, x_iload 1 1), (14, x_iald), (15, x_ifge 24), (18, x_aload 0 1), (19, x_push (.int (nI 1)) 1), (20, x_callV 7 0 2 FX9_find), (23, x_iret), (24, x_aload 0 1), (25, x_getR 7 1), (28, x_iload 1 1), (29, x_push (.int (-1)) 1), (30, x_iast), (31, x_push (.int (nI 1)) 1), (32, x_iret)]
set_option maxRecDepth 100000 in
theorem tX9_tear_ok (l : Launch) : ∀ q ∈ tX9_tear, xOK l cX9_tear RX9 2 3 0 (yX9_tear.name = "<init>") q.1 q.2 := by
  unfold tX9_tear
  refine List.forall_mem_cons.mpr ⟨?_, List.forall_mem_cons.mpr ⟨?_, List.forall_mem_cons.mpr ⟨?_, List.forall_mem_cons.mpr ⟨?_, List.forall_mem_cons.mpr ⟨?_, List.forall_mem_cons.mpr ⟨?_, List.forall_mem_cons.mpr ⟨?_, List.forall_mem_cons.mpr ⟨?_, List.forall_mem_cons.mpr ⟨?_, List.forall_mem_cons.mpr ⟨?_, List.forall_mem_cons.mpr ⟨?_, List.forall_mem_cons.mpr ⟨?_, List.forall_mem_cons.mpr ⟨?_, List.forall_mem_cons.mpr ⟨?_, List.forall_mem_cons.mpr ⟨?_, List.forall_mem_cons.mpr ⟨?_, List.forall_mem_cons.mpr ⟨?_, List.forall_mem_cons.mpr ⟨?_, List.forall_mem_cons.mpr ⟨?_, List.forall_mem_cons.mpr ⟨?_, List.forall_mem_cons.mpr ⟨?_, fun _ h => absurd h List.not_mem_nil⟩⟩⟩⟩⟩⟩⟩⟩⟩⟩⟩⟩⟩⟩⟩⟩⟩⟩⟩⟩⟩
  · exact x_iload_n_ok (show decode cX9_tear 0 = .ok (.iload_n 1, 1) by decide +kernel) rfl
  · exact x_callS_ok (sX9_isRow l) hw_914 hw_912 hw_913 hw_68 ⟨by decide, by decide, by decide +kernel⟩ (by decide) (by decide) (show decode cX9_tear 1 = .ok (.invokestatic 66, 3) by decide +kernel)
  · exact x_ifne_ok (show decode cX9_tear 4 = .ok (.ifCond .ne 5, 3) by decide +kernel) (by decide)
  · exact x_iconst_ok (show decode cX9_tear 7 = .ok (.iconst (-1), 1) by decide +kernel) (by decide)
  · exact x_iret_ok (show decode cX9_tear 8 = .ok (.ireturn, 1) by decide +kernel)
  · exact x_aload_n_ok (show decode cX9_tear 9 = .ok (.aload_n 0, 1) by decide +kernel) rfl
  · exact x_getR_ok (ci := 7) (k := 1) rfl (by decide) (by decide) hw_845 (show decode cX9_tear 10 = .ok (.getfield 13, 3) by decide +kernel)
  · exact x_iload_n_ok (show decode cX9_tear 13 = .ok (.iload_n 1, 1) by decide +kernel) rfl
  · exact x_iald_ok (show decode cX9_tear 14 = .ok (.iaload, 1) by decide +kernel)
  · exact x_ifge_ok (show decode cX9_tear 15 = .ok (.ifCond .ge 9, 3) by decide +kernel) (by decide)
  · exact x_aload_n_ok (show decode cX9_tear 18 = .ok (.aload_n 0, 1) by decide +kernel) rfl
  · exact x_iconst_ok (show decode cX9_tear 19 = .ok (.iconst 1, 1) by decide +kernel) (by decide)
  · exact x_callV_ok (ci := 7) rfl (by decide) (sX9_find l) hw_922 hw_919 hw_921 hw_18 hw_68 ⟨by decide, by decide, by decide +kernel⟩ rfl (by decide) (by decide) (show decode cX9_tear 20 = .ok (.invokevirtual 70, 3) by decide +kernel)
  · exact x_iret_ok (show decode cX9_tear 23 = .ok (.ireturn, 1) by decide +kernel)
  · exact x_aload_n_ok (show decode cX9_tear 24 = .ok (.aload_n 0, 1) by decide +kernel) rfl
  · exact x_getR_ok (ci := 7) (k := 1) rfl (by decide) (by decide) hw_845 (show decode cX9_tear 25 = .ok (.getfield 13, 3) by decide +kernel)
  · exact x_iload_n_ok (show decode cX9_tear 28 = .ok (.iload_n 1, 1) by decide +kernel) rfl
  · exact x_iconst_ok (show decode cX9_tear 29 = .ok (.iconst (-1), 1) by decide +kernel) (by decide)
  · exact x_iast_ok (show decode cX9_tear 30 = .ok (.iastore, 1) by decide +kernel)
  · exact x_iconst_ok (show decode cX9_tear 31 = .ok (.iconst 1, 1) by decide +kernel) (by decide)
  · exact x_iret_ok (show decode cX9_tear 32 = .ok (.ireturn, 1) by decide +kernel)
noncomputable def FX9_tear : List Value → xS → Option xR := xden tX9_tear 2 (some .int) 0
theorem sX9_tear (l : Launch) : xSound l yX9_tear cX9_tear 2 (some .int) 3 0 FX9_tear := x_den (by decide) (tX9_tear_ok l)
noncomputable def tX5_holds : List (Nat × xO) := [(0, x_iload 1 1), (1, x_iflt 18), (4, x_iload 1 1), (5, x_aload 0 1), (6, x_getI 4 1), (9, x_iload 2 1), (10, x_ii (fun x y => x - y)), (11, x_cmpgt 18), (14, x_push (.int (nI 1)) 1), (15, x_goto 19), (18, x_push (.int (nI 0)) 1), (19, x_iret)]
set_option maxRecDepth 100000 in
theorem tX5_holds_ok (l : Launch) : ∀ q ∈ tX5_holds, xOK l cX5_holds RX5 3 1 0 (yX5_holds.name = "<init>") q.1 q.2 := by
  unfold tX5_holds
  refine List.forall_mem_cons.mpr ⟨?_, List.forall_mem_cons.mpr ⟨?_, List.forall_mem_cons.mpr ⟨?_, List.forall_mem_cons.mpr ⟨?_, List.forall_mem_cons.mpr ⟨?_, List.forall_mem_cons.mpr ⟨?_, List.forall_mem_cons.mpr ⟨?_, List.forall_mem_cons.mpr ⟨?_, List.forall_mem_cons.mpr ⟨?_, List.forall_mem_cons.mpr ⟨?_, List.forall_mem_cons.mpr ⟨?_, List.forall_mem_cons.mpr ⟨?_, fun _ h => absurd h List.not_mem_nil⟩⟩⟩⟩⟩⟩⟩⟩⟩⟩⟩⟩
  · exact x_iload_n_ok (show decode cX5_holds 0 = .ok (.iload_n 1, 1) by decide +kernel) rfl
  · exact x_iflt_ok (show decode cX5_holds 1 = .ok (.ifCond .lt 17, 3) by decide +kernel) (by decide)
  · exact x_iload_n_ok (show decode cX5_holds 4 = .ok (.iload_n 1, 1) by decide +kernel) rfl
  · exact x_aload_n_ok (show decode cX5_holds 5 = .ok (.aload_n 0, 1) by decide +kernel) rfl
  · exact x_getI_ok (ci := 4) (k := 1) rfl (by decide) (by decide) hw_97 (show decode cX5_holds 6 = .ok (.getfield 13, 3) by decide +kernel)
  · exact x_iload_n_ok (show decode cX5_holds 9 = .ok (.iload_n 2, 1) by decide +kernel) rfl
  · exact x_isub_ok (show decode cX5_holds 10 = .ok (.isub, 1) by decide +kernel)
  · exact x_cmpgt_ok (show decode cX5_holds 11 = .ok (.if_icmp .gt 7, 3) by decide +kernel) (by decide)
  · exact x_iconst_ok (show decode cX5_holds 14 = .ok (.iconst 1, 1) by decide +kernel) (by decide)
  · exact x_goto_ok (show decode cX5_holds 15 = .ok (.goto 4, 3) by decide +kernel) (by decide)
  · exact x_iconst_ok (show decode cX5_holds 18 = .ok (.iconst 0, 1) by decide +kernel) (by decide)
  · exact x_iret_ok (show decode cX5_holds 19 = .ok (.ireturn, 1) by decide +kernel)
noncomputable def FX5_holds : List Value → xS → Option xR := xden tX5_holds 3 (some .boolean) 0
theorem sX5_holds (l : Launch) : xSound l yX5_holds cX5_holds 3 (some .boolean) 1 0 FX5_holds := x_den (by decide) (tX5_holds_ok l)
noncomputable def tX8_copy : List (Nat × xO) := [(0, x_iload 1 1), (1, x_push (.int (nI 6)) 2), (3, x_call 0 2 FX8_among), (6, x_ifeq 18), (9, x_iload 3 1), (10, x_push (.int (nI 6)) 2), (12, x_call 0 2 FX8_among), (15, x_ifne 20), (18, x_push (.int (-1)) 1), (19, x_iret), (20, x_iload 5 2), (22, x_ifge 31), (25, x_aload 0 1), (26, x_push (.int (nI 5)) 1), (27, x_callV 6 0 2 FX8_findingOf), (30, x_iret), (31, x_aload 0 1), (32, x_getR 6 0), (35, x_iload 1 1), (36, x_aald), (37, x_callV 4 0 1 FX5_isThere), (40, x_ifeq 55), (43, x_aload 0 1), (44, x_getR 6 0), (47, x_iload 3 1), (48, x_aald), (49, x_callV 4 0 1 FX5_isThere), (52, x_ifne 61), (55, x_aload 0 1), (56, x_push (.int (nI 1)) 1), (57, x_callV 6 0 2 FX8_findingOf), (60, x_iret), (61, x_aload 0 1), (62, x_getR 6 0), (65, x_iload 1 1), (66, x_aald), (67, x_iload 2 1), (68, x_iload 5 2), (70, x_callV 4 0 3 FX5_holds), (73, x_ifeq 92), (76, x_aload 0 1), (77, x_getR 6 0), (80, x_iload 3 1), (81, x_aald), (82, x_iload 4 2), (84, x_iload 5 2), (86, x_callV 4 0 3 FX5_holds), (89, x_ifne 98), (92, x_aload 0 1), (93, x_push (.int (nI 2)) 1), (94, x_callV 6 0 2 FX8_findingOf), (97, x_iret), (98, x_aload 0 1), (99, x_getR 6 0), (102, x_iload 1 1), (103, x_aald), (104, x_getR 4 0), (107, x_iload 2 1), (108, x_aload 0 1), (109, x_getR 6 0), (112, x_iload 3 1), (113, x_aald), (114, x_getR 4 0), (117, x_iload 4 2), (119, x_iload 5 2), (121, x_copy), (124, x_push (.int (nI 1)) 1), (125, x_iret)]
set_option maxRecDepth 100000 in
theorem tX8_copy_ok (l : Launch) : ∀ q ∈ tX8_copy, xOK l cX8_copy RX8 6 2 0 (yX8_copy.name = "<init>") q.1 q.2 := by
  unfold tX8_copy
  refine List.forall_mem_cons.mpr ⟨?_, List.forall_mem_cons.mpr ⟨?_, List.forall_mem_cons.mpr ⟨?_, List.forall_mem_cons.mpr ⟨?_, List.forall_mem_cons.mpr ⟨?_, List.forall_mem_cons.mpr ⟨?_, List.forall_mem_cons.mpr ⟨?_, List.forall_mem_cons.mpr ⟨?_, List.forall_mem_cons.mpr ⟨?_, List.forall_mem_cons.mpr ⟨?_, List.forall_mem_cons.mpr ⟨?_, List.forall_mem_cons.mpr ⟨?_, List.forall_mem_cons.mpr ⟨?_, List.forall_mem_cons.mpr ⟨?_, List.forall_mem_cons.mpr ⟨?_, List.forall_mem_cons.mpr ⟨?_, List.forall_mem_cons.mpr ⟨?_, List.forall_mem_cons.mpr ⟨?_, List.forall_mem_cons.mpr ⟨?_, List.forall_mem_cons.mpr ⟨?_, List.forall_mem_cons.mpr ⟨?_, List.forall_mem_cons.mpr ⟨?_, List.forall_mem_cons.mpr ⟨?_, List.forall_mem_cons.mpr ⟨?_, List.forall_mem_cons.mpr ⟨?_, List.forall_mem_cons.mpr ⟨?_, List.forall_mem_cons.mpr ⟨?_, List.forall_mem_cons.mpr ⟨?_, List.forall_mem_cons.mpr ⟨?_, List.forall_mem_cons.mpr ⟨?_, List.forall_mem_cons.mpr ⟨?_, List.forall_mem_cons.mpr ⟨?_, List.forall_mem_cons.mpr ⟨?_, List.forall_mem_cons.mpr ⟨?_, List.forall_mem_cons.mpr ⟨?_, List.forall_mem_cons.mpr ⟨?_, List.forall_mem_cons.mpr ⟨?_, List.forall_mem_cons.mpr ⟨?_, List.forall_mem_cons.mpr ⟨?_, List.forall_mem_cons.mpr ⟨?_, List.forall_mem_cons.mpr ⟨?_, List.forall_mem_cons.mpr ⟨?_, List.forall_mem_cons.mpr ⟨?_, List.forall_mem_cons.mpr ⟨?_, List.forall_mem_cons.mpr ⟨?_, List.forall_mem_cons.mpr ⟨?_, List.forall_mem_cons.mpr ⟨?_, List.forall_mem_cons.mpr ⟨?_, List.forall_mem_cons.mpr ⟨?_, List.forall_mem_cons.mpr ⟨?_, List.forall_mem_cons.mpr ⟨?_, List.forall_mem_cons.mpr ⟨?_, List.forall_mem_cons.mpr ⟨?_, List.forall_mem_cons.mpr ⟨?_, List.forall_mem_cons.mpr ⟨?_, List.forall_mem_cons.mpr ⟨?_, List.forall_mem_cons.mpr ⟨?_, List.forall_mem_cons.mpr ⟨?_, List.forall_mem_cons.mpr ⟨?_, List.forall_mem_cons.mpr ⟨?_, List.forall_mem_cons.mpr ⟨?_, List.forall_mem_cons.mpr ⟨?_, List.forall_mem_cons.mpr ⟨?_, List.forall_mem_cons.mpr ⟨?_, List.forall_mem_cons.mpr ⟨?_, List.forall_mem_cons.mpr ⟨?_, List.forall_mem_cons.mpr ⟨?_, List.forall_mem_cons.mpr ⟨?_, fun _ h => absurd h List.not_mem_nil⟩⟩⟩⟩⟩⟩⟩⟩⟩⟩⟩⟩⟩⟩⟩⟩⟩⟩⟩⟩⟩⟩⟩⟩⟩⟩⟩⟩⟩⟩⟩⟩⟩⟩⟩⟩⟩⟩⟩⟩⟩⟩⟩⟩⟩⟩⟩⟩⟩⟩⟩⟩⟩⟩⟩⟩⟩⟩⟩⟩⟩⟩⟩⟩⟩⟩⟩⟩
  · exact x_iload_n_ok (show decode cX8_copy 0 = .ok (.iload_n 1, 1) by decide +kernel) rfl
  · exact x_bipush_ok (show decode cX8_copy 1 = .ok (.bipush 6, 2) by decide +kernel) (by decide)
  · exact x_callS_ok (sX8_among l) hw_268 hw_266 hw_267 hw_61 ⟨by decide, by decide, by decide +kernel⟩ (by decide) (by decide) (show decode cX8_copy 3 = .ok (.invokestatic 65, 3) by decide +kernel)
  · exact x_ifeq_ok (show decode cX8_copy 6 = .ok (.ifCond .eq 12, 3) by decide +kernel) (by decide)
  · exact x_iload_n_ok (show decode cX8_copy 9 = .ok (.iload_n 3, 1) by decide +kernel) rfl
  · exact x_bipush_ok (show decode cX8_copy 10 = .ok (.bipush 6, 2) by decide +kernel) (by decide)
  · exact x_callS_ok (sX8_among l) hw_268 hw_266 hw_267 hw_61 ⟨by decide, by decide, by decide +kernel⟩ (by decide) (by decide) (show decode cX8_copy 12 = .ok (.invokestatic 65, 3) by decide +kernel)
  · exact x_ifne_ok (show decode cX8_copy 15 = .ok (.ifCond .ne 5, 3) by decide +kernel) (by decide)
  · exact x_iconst_ok (show decode cX8_copy 18 = .ok (.iconst (-1), 1) by decide +kernel) (by decide)
  · exact x_iret_ok (show decode cX8_copy 19 = .ok (.ireturn, 1) by decide +kernel)
  · exact x_iload_ok (show decode cX8_copy 20 = .ok (.iload 5, 2) by decide +kernel)
  · exact x_ifge_ok (show decode cX8_copy 22 = .ok (.ifCond .ge 9, 3) by decide +kernel) (by decide)
  · exact x_aload_n_ok (show decode cX8_copy 25 = .ok (.aload_n 0, 1) by decide +kernel) rfl
  · exact x_iconst_ok (show decode cX8_copy 26 = .ok (.iconst 5, 1) by decide +kernel) (by decide)
  · exact x_callV_ok (ci := 6) rfl (by decide) (sX8_findingOf l) hw_272 hw_269 hw_271 hw_0 hw_61 ⟨by decide, by decide, by decide +kernel⟩ rfl (by decide) (by decide) (show decode cX8_copy 27 = .ok (.invokevirtual 69, 3) by decide +kernel)
  · exact x_iret_ok (show decode cX8_copy 30 = .ok (.ireturn, 1) by decide +kernel)
  · exact x_aload_n_ok (show decode cX8_copy 31 = .ok (.aload_n 0, 1) by decide +kernel) rfl
  · exact x_getR_ok (ci := 6) (k := 0) rfl (by decide) (by decide) hw_222 (show decode cX8_copy 32 = .ok (.getfield 11, 3) by decide +kernel)
  · exact x_iload_n_ok (show decode cX8_copy 35 = .ok (.iload_n 1, 1) by decide +kernel) rfl
  · exact x_aald_ok (show decode cX8_copy 36 = .ok (.aaload, 1) by decide +kernel)
  · exact x_callV_ok (ci := 4) rfl (by decide) (sX5_isThere l) hw_292 hw_289 hw_290 hw_291 hw_62 ⟨by decide, by decide, by decide +kernel⟩ rfl (by decide) (by decide) (show decode cX8_copy 37 = .ok (.invokevirtual 94, 3) by decide +kernel)
  · exact x_ifeq_ok (show decode cX8_copy 40 = .ok (.ifCond .eq 15, 3) by decide +kernel) (by decide)
  · exact x_aload_n_ok (show decode cX8_copy 43 = .ok (.aload_n 0, 1) by decide +kernel) rfl
  · exact x_getR_ok (ci := 6) (k := 0) rfl (by decide) (by decide) hw_222 (show decode cX8_copy 44 = .ok (.getfield 11, 3) by decide +kernel)
  · exact x_iload_n_ok (show decode cX8_copy 47 = .ok (.iload_n 3, 1) by decide +kernel) rfl
  · exact x_aald_ok (show decode cX8_copy 48 = .ok (.aaload, 1) by decide +kernel)
  · exact x_callV_ok (ci := 4) rfl (by decide) (sX5_isThere l) hw_292 hw_289 hw_290 hw_291 hw_62 ⟨by decide, by decide, by decide +kernel⟩ rfl (by decide) (by decide) (show decode cX8_copy 49 = .ok (.invokevirtual 94, 3) by decide +kernel)
  · exact x_ifne_ok (show decode cX8_copy 52 = .ok (.ifCond .ne 9, 3) by decide +kernel) (by decide)
  · exact x_aload_n_ok (show decode cX8_copy 55 = .ok (.aload_n 0, 1) by decide +kernel) rfl
  · exact x_iconst_ok (show decode cX8_copy 56 = .ok (.iconst 1, 1) by decide +kernel) (by decide)
  · exact x_callV_ok (ci := 6) rfl (by decide) (sX8_findingOf l) hw_272 hw_269 hw_271 hw_0 hw_61 ⟨by decide, by decide, by decide +kernel⟩ rfl (by decide) (by decide) (show decode cX8_copy 57 = .ok (.invokevirtual 69, 3) by decide +kernel)
  · exact x_iret_ok (show decode cX8_copy 60 = .ok (.ireturn, 1) by decide +kernel)
  · exact x_aload_n_ok (show decode cX8_copy 61 = .ok (.aload_n 0, 1) by decide +kernel) rfl
  · exact x_getR_ok (ci := 6) (k := 0) rfl (by decide) (by decide) hw_222 (show decode cX8_copy 62 = .ok (.getfield 11, 3) by decide +kernel)
  · exact x_iload_n_ok (show decode cX8_copy 65 = .ok (.iload_n 1, 1) by decide +kernel) rfl
  · exact x_aald_ok (show decode cX8_copy 66 = .ok (.aaload, 1) by decide +kernel)
  · exact x_iload_n_ok (show decode cX8_copy 67 = .ok (.iload_n 2, 1) by decide +kernel) rfl
  · exact x_iload_ok (show decode cX8_copy 68 = .ok (.iload 5, 2) by decide +kernel)
  · exact x_callV_ok (ci := 4) rfl (by decide) (sX5_holds l) hw_312 hw_309 hw_310 hw_311 hw_62 ⟨by decide, by decide, by decide +kernel⟩ rfl (by decide) (by decide) (show decode cX8_copy 70 = .ok (.invokevirtual 98, 3) by decide +kernel)
  · exact x_ifeq_ok (show decode cX8_copy 73 = .ok (.ifCond .eq 19, 3) by decide +kernel) (by decide)
  · exact x_aload_n_ok (show decode cX8_copy 76 = .ok (.aload_n 0, 1) by decide +kernel) rfl
  · exact x_getR_ok (ci := 6) (k := 0) rfl (by decide) (by decide) hw_222 (show decode cX8_copy 77 = .ok (.getfield 11, 3) by decide +kernel)
  · exact x_iload_n_ok (show decode cX8_copy 80 = .ok (.iload_n 3, 1) by decide +kernel) rfl
  · exact x_aald_ok (show decode cX8_copy 81 = .ok (.aaload, 1) by decide +kernel)
  · exact x_iload_ok (show decode cX8_copy 82 = .ok (.iload 4, 2) by decide +kernel)
  · exact x_iload_ok (show decode cX8_copy 84 = .ok (.iload 5, 2) by decide +kernel)
  · exact x_callV_ok (ci := 4) rfl (by decide) (sX5_holds l) hw_312 hw_309 hw_310 hw_311 hw_62 ⟨by decide, by decide, by decide +kernel⟩ rfl (by decide) (by decide) (show decode cX8_copy 86 = .ok (.invokevirtual 98, 3) by decide +kernel)
  · exact x_ifne_ok (show decode cX8_copy 89 = .ok (.ifCond .ne 9, 3) by decide +kernel) (by decide)
  · exact x_aload_n_ok (show decode cX8_copy 92 = .ok (.aload_n 0, 1) by decide +kernel) rfl
  · exact x_iconst_ok (show decode cX8_copy 93 = .ok (.iconst 2, 1) by decide +kernel) (by decide)
  · exact x_callV_ok (ci := 6) rfl (by decide) (sX8_findingOf l) hw_272 hw_269 hw_271 hw_0 hw_61 ⟨by decide, by decide, by decide +kernel⟩ rfl (by decide) (by decide) (show decode cX8_copy 94 = .ok (.invokevirtual 69, 3) by decide +kernel)
  · exact x_iret_ok (show decode cX8_copy 97 = .ok (.ireturn, 1) by decide +kernel)
  · exact x_aload_n_ok (show decode cX8_copy 98 = .ok (.aload_n 0, 1) by decide +kernel) rfl
  · exact x_getR_ok (ci := 6) (k := 0) rfl (by decide) (by decide) hw_222 (show decode cX8_copy 99 = .ok (.getfield 11, 3) by decide +kernel)
  · exact x_iload_n_ok (show decode cX8_copy 102 = .ok (.iload_n 1, 1) by decide +kernel) rfl
  · exact x_aald_ok (show decode cX8_copy 103 = .ok (.aaload, 1) by decide +kernel)
  · exact x_getR_ok (ci := 4) (k := 0) rfl (by decide) (by decide) hw_96 (show decode cX8_copy 104 = .ok (.getfield 81, 3) by decide +kernel)
  · exact x_iload_n_ok (show decode cX8_copy 107 = .ok (.iload_n 2, 1) by decide +kernel) rfl
  · exact x_aload_n_ok (show decode cX8_copy 108 = .ok (.aload_n 0, 1) by decide +kernel) rfl
  · exact x_getR_ok (ci := 6) (k := 0) rfl (by decide) (by decide) hw_222 (show decode cX8_copy 109 = .ok (.getfield 11, 3) by decide +kernel)
  · exact x_iload_n_ok (show decode cX8_copy 112 = .ok (.iload_n 3, 1) by decide +kernel) rfl
  · exact x_aald_ok (show decode cX8_copy 113 = .ok (.aaload, 1) by decide +kernel)
  · exact x_getR_ok (ci := 4) (k := 0) rfl (by decide) (by decide) hw_96 (show decode cX8_copy 114 = .ok (.getfield 81, 3) by decide +kernel)
  · exact x_iload_ok (show decode cX8_copy 117 = .ok (.iload 4, 2) by decide +kernel)
  · exact x_iload_ok (show decode cX8_copy 119 = .ok (.iload 5, 2) by decide +kernel)
  · exact x_copy_ok hw_313 hw_315 hw_314 hw_69 (by decide) (show decode cX8_copy 121 = .ok (.invokestatic 101, 3) by decide +kernel)
  · exact x_iconst_ok (show decode cX8_copy 124 = .ok (.iconst 1, 1) by decide +kernel) (by decide)
  · exact x_iret_ok (show decode cX8_copy 125 = .ok (.ireturn, 1) by decide +kernel)
noncomputable def FX8_copy : List Value → xS → Option xR := xden tX8_copy 6 (some .int) 0
theorem sX8_copy (l : Launch) : xSound l yX8_copy cX8_copy 6 (some .int) 2 0 FX8_copy := x_den (by decide) (tX8_copy_ok l)
