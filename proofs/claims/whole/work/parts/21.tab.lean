noncomputable def tX8_countKept : List (Nat × xO) := [(0, x_push (.int (nI 0)) 1), (1, x_istore 1 1), (2, x_push (.int (nI 0)) 1), (3, x_istore 2 1), (4, x_iload 2 1), (5, x_push (.int (nI 3)) 1), (6, x_cmpge 35), (9, x_iload 1 1), (10, x_aload 0 1), (11, x_getR 6 3), (14, x_iload 2 1), (15, x_aald), (16, x_getI 3 1), (19, x_ifle 26), (22, x_push (.int (nI 1)) 1), (23, x_goto 27), (26, x_push (.int (nI 0)) 1), (27, x_ii (fun x y => x + y)), (28, x_istore 1 1), (29, x_iinc 2 (nI 1)), (32, x_goto 4), (35, x_iload 1 1), (36, x_iret)]
set_option maxRecDepth 100000 in
theorem tX8_countKept_ok (l : Launch) : ∀ q ∈ tX8_countKept, xOK l cX8_countKept RX8 3 1 0 (yX8_countKept.name = "<init>") q.1 q.2 := by
  unfold tX8_countKept
  refine List.forall_mem_cons.mpr ⟨?_, List.forall_mem_cons.mpr ⟨?_, List.forall_mem_cons.mpr ⟨?_, List.forall_mem_cons.mpr ⟨?_, List.forall_mem_cons.mpr ⟨?_, List.forall_mem_cons.mpr ⟨?_, List.forall_mem_cons.mpr ⟨?_, List.forall_mem_cons.mpr ⟨?_, List.forall_mem_cons.mpr ⟨?_, List.forall_mem_cons.mpr ⟨?_, List.forall_mem_cons.mpr ⟨?_, List.forall_mem_cons.mpr ⟨?_, List.forall_mem_cons.mpr ⟨?_, List.forall_mem_cons.mpr ⟨?_, List.forall_mem_cons.mpr ⟨?_, List.forall_mem_cons.mpr ⟨?_, List.forall_mem_cons.mpr ⟨?_, List.forall_mem_cons.mpr ⟨?_, List.forall_mem_cons.mpr ⟨?_, List.forall_mem_cons.mpr ⟨?_, List.forall_mem_cons.mpr ⟨?_, List.forall_mem_cons.mpr ⟨?_, List.forall_mem_cons.mpr ⟨?_, fun _ h => absurd h List.not_mem_nil⟩⟩⟩⟩⟩⟩⟩⟩⟩⟩⟩⟩⟩⟩⟩⟩⟩⟩⟩⟩⟩⟩⟩
  · exact x_iconst_ok (show decode cX8_countKept 0 = .ok (.iconst 0, 1) by decide +kernel) (by decide)
  · exact x_istore_n_ok (show decode cX8_countKept 1 = .ok (.istore_n 1, 1) by decide +kernel) rfl (by decide)
  · exact x_iconst_ok (show decode cX8_countKept 2 = .ok (.iconst 0, 1) by decide +kernel) (by decide)
  · exact x_istore_n_ok (show decode cX8_countKept 3 = .ok (.istore_n 2, 1) by decide +kernel) rfl (by decide)
  · exact x_iload_n_ok (show decode cX8_countKept 4 = .ok (.iload_n 2, 1) by decide +kernel) rfl
  · exact x_iconst_ok (show decode cX8_countKept 5 = .ok (.iconst 3, 1) by decide +kernel) (by decide)
  · exact x_cmpge_ok (show decode cX8_countKept 6 = .ok (.if_icmp .ge 29, 3) by decide +kernel) (by decide)
  · exact x_iload_n_ok (show decode cX8_countKept 9 = .ok (.iload_n 1, 1) by decide +kernel) rfl
  · exact x_aload_n_ok (show decode cX8_countKept 10 = .ok (.aload_n 0, 1) by decide +kernel) rfl
  · exact x_getR_ok (ci := 6) (k := 3) rfl (by decide) (by decide) hw_225 (show decode cX8_countKept 11 = .ok (.getfield 30, 3) by decide +kernel)
  · exact x_iload_n_ok (show decode cX8_countKept 14 = .ok (.iload_n 2, 1) by decide +kernel) rfl
  · exact x_aald_ok (show decode cX8_countKept 15 = .ok (.aaload, 1) by decide +kernel)
  · exact x_getI_ok (ci := 3) (k := 1) rfl (by decide) (by decide) hw_177 (show decode cX8_countKept 16 = .ok (.getfield 133, 3) by decide +kernel)
  · exact x_ifle_ok (show decode cX8_countKept 19 = .ok (.ifCond .le 7, 3) by decide +kernel) (by decide)
  · exact x_iconst_ok (show decode cX8_countKept 22 = .ok (.iconst 1, 1) by decide +kernel) (by decide)
  · exact x_goto_ok (show decode cX8_countKept 23 = .ok (.goto 4, 3) by decide +kernel) (by decide)
  · exact x_iconst_ok (show decode cX8_countKept 26 = .ok (.iconst 0, 1) by decide +kernel) (by decide)
  · exact x_iadd_ok (show decode cX8_countKept 27 = .ok (.iadd, 1) by decide +kernel)
  · exact x_istore_n_ok (show decode cX8_countKept 28 = .ok (.istore_n 1, 1) by decide +kernel) rfl (by decide)
  · exact x_iinc_ok (show decode cX8_countKept 29 = .ok (.iinc 2 1, 3) by decide +kernel) (by decide) (by decide)
  · exact x_goto_ok (show decode cX8_countKept 32 = .ok (.goto (-28), 3) by decide +kernel) (by decide)
  · exact x_iload_n_ok (show decode cX8_countKept 35 = .ok (.iload_n 1, 1) by decide +kernel) rfl
  · exact x_iret_ok (show decode cX8_countKept 36 = .ok (.ireturn, 1) by decide +kernel)
noncomputable def FX8_countKept : List Value → xS → Option xR := xden tX8_countKept 3 (some .int) 0
theorem sX8_countKept (l : Launch) : xSound l yX8_countKept cX8_countKept 3 (some .int) 1 0 FX8_countKept := x_den (by decide) (tX8_countKept_ok l)
noncomputable def tX8_count : List (Nat × xO) := [(0, x_iload 1 1), (1, x_switch [((nI 0), 52), ((nI 1), 60), ((nI 2), 68), ((nI 3), 76), ((nI 4), 84), ((nI 5), 93), ((nI 6), 102), ((nI 7), 107), ((nI 8), 112)] 117), (52, x_aload 0 1), (53, x_getR 6 2), (56, x_getI 3 1), (59, x_iret), (60, x_aload 0 1), (61, x_getR 6 2), (64, x_getI 3 3), (67, x_iret), (68, x_aload 0 1), (69, x_getR 6 2), (72, x_callV 3 0 1 FX4_countFading), (75, x_iret), (76, x_aload 0 1), (77, x_getR 6 2), (80, x_callV 3 0 1 FX4_sumOfDues), (83, x_iret), (84, x_aload 0 1), (85, x_getR 6 2), (88, x_push (.int (nI 1)) 1), (89, x_callV 3 0 2 FX4_countOfKind), (92, x_iret), (93, x_aload 0 1), (94, x_getR 6 2), (97, x_push (.int (nI 2)) 1), (98, x_callV 3 0 2 FX4_countOfKind), (101, x_iret), (102, x_aload 0 1), (103, x_callV 6 0 1 FX8_countRows), (106, x_iret), (107, x_aload 0 1), (108, x_callV 6 0 1 FX8_countTexts), (111, x_iret), (112, x_aload 0 1), (113, x_callV 6 0 1 FX8_countKept), (116, x_iret), (117, x_push (.int (-1)) 1), (118, x_iret)]
set_option maxRecDepth 100000 in
theorem tX8_count_ok (l : Launch) : ∀ q ∈ tX8_count, xOK l cX8_count RX8 2 3 0 (yX8_count.name = "<init>") q.1 q.2 := by
  unfold tX8_count
  refine List.forall_mem_cons.mpr ⟨?_, List.forall_mem_cons.mpr ⟨?_, List.forall_mem_cons.mpr ⟨?_, List.forall_mem_cons.mpr ⟨?_, List.forall_mem_cons.mpr ⟨?_, List.forall_mem_cons.mpr ⟨?_, List.forall_mem_cons.mpr ⟨?_, List.forall_mem_cons.mpr ⟨?_, List.forall_mem_cons.mpr ⟨?_, List.forall_mem_cons.mpr ⟨?_, List.forall_mem_cons.mpr ⟨?_, List.forall_mem_cons.mpr ⟨?_, List.forall_mem_cons.mpr ⟨?_, List.forall_mem_cons.mpr ⟨?_, List.forall_mem_cons.mpr ⟨?_, List.forall_mem_cons.mpr ⟨?_, List.forall_mem_cons.mpr ⟨?_, List.forall_mem_cons.mpr ⟨?_, List.forall_mem_cons.mpr ⟨?_, List.forall_mem_cons.mpr ⟨?_, List.forall_mem_cons.mpr ⟨?_, List.forall_mem_cons.mpr ⟨?_, List.forall_mem_cons.mpr ⟨?_, List.forall_mem_cons.mpr ⟨?_, List.forall_mem_cons.mpr ⟨?_, List.forall_mem_cons.mpr ⟨?_, List.forall_mem_cons.mpr ⟨?_, List.forall_mem_cons.mpr ⟨?_, List.forall_mem_cons.mpr ⟨?_, List.forall_mem_cons.mpr ⟨?_, List.forall_mem_cons.mpr ⟨?_, List.forall_mem_cons.mpr ⟨?_, List.forall_mem_cons.mpr ⟨?_, List.forall_mem_cons.mpr ⟨?_, List.forall_mem_cons.mpr ⟨?_, List.forall_mem_cons.mpr ⟨?_, List.forall_mem_cons.mpr ⟨?_, List.forall_mem_cons.mpr ⟨?_, List.forall_mem_cons.mpr ⟨?_, fun _ h => absurd h List.not_mem_nil⟩⟩⟩⟩⟩⟩⟩⟩⟩⟩⟩⟩⟩⟩⟩⟩⟩⟩⟩⟩⟩⟩⟩⟩⟩⟩⟩⟩⟩⟩⟩⟩⟩⟩⟩⟩⟩⟩⟩
  · exact x_iload_n_ok (show decode cX8_count 0 = .ok (.iload_n 1, 1) by decide +kernel) rfl
  · exact x_switch_ok (show decode cX8_count 1 = .ok (.tableswitch 116 0 8 #[51, 59, 67, 75, 83, 92, 101, 106, 111], 51) by decide +kernel) (by decide) (by decide +kernel) (by decide) (by decide) (by decide +kernel)
  · exact x_aload_n_ok (show decode cX8_count 52 = .ok (.aload_n 0, 1) by decide +kernel) rfl
  · exact x_getR_ok (ci := 6) (k := 2) rfl (by decide) (by decide) hw_224 (show decode cX8_count 53 = .ok (.getfield 26, 3) by decide +kernel)
  · exact x_getI_ok (ci := 3) (k := 1) rfl (by decide) (by decide) hw_177 (show decode cX8_count 56 = .ok (.getfield 133, 3) by decide +kernel)
  · exact x_iret_ok (show decode cX8_count 59 = .ok (.ireturn, 1) by decide +kernel)
  · exact x_aload_n_ok (show decode cX8_count 60 = .ok (.aload_n 0, 1) by decide +kernel) rfl
  · exact x_getR_ok (ci := 6) (k := 2) rfl (by decide) (by decide) hw_224 (show decode cX8_count 61 = .ok (.getfield 26, 3) by decide +kernel)
  · exact x_getI_ok (ci := 3) (k := 3) rfl (by decide) (by decide) hw_180 (show decode cX8_count 64 = .ok (.getfield 172, 3) by decide +kernel)
  · exact x_iret_ok (show decode cX8_count 67 = .ok (.ireturn, 1) by decide +kernel)
  · exact x_aload_n_ok (show decode cX8_count 68 = .ok (.aload_n 0, 1) by decide +kernel) rfl
  · exact x_getR_ok (ci := 6) (k := 2) rfl (by decide) (by decide) hw_224 (show decode cX8_count 69 = .ok (.getfield 26, 3) by decide +kernel)
  · exact x_callV_ok (ci := 3) rfl (by decide) (sX4_countFading l) hw_791 hw_788 hw_789 hw_790 hw_64 ⟨by decide, by decide, by decide +kernel⟩ rfl (by decide) (by decide) (show decode cX8_count 72 = .ok (.invokevirtual 289, 3) by decide +kernel)
  · exact x_iret_ok (show decode cX8_count 75 = .ok (.ireturn, 1) by decide +kernel)
  · exact x_aload_n_ok (show decode cX8_count 76 = .ok (.aload_n 0, 1) by decide +kernel) rfl
  · exact x_getR_ok (ci := 6) (k := 2) rfl (by decide) (by decide) hw_224 (show decode cX8_count 77 = .ok (.getfield 26, 3) by decide +kernel)
  · exact x_callV_ok (ci := 3) rfl (by decide) (sX4_sumOfDues l) hw_795 hw_792 hw_793 hw_794 hw_64 ⟨by decide, by decide, by decide +kernel⟩ rfl (by decide) (by decide) (show decode cX8_count 80 = .ok (.invokevirtual 292, 3) by decide +kernel)
  · exact x_iret_ok (show decode cX8_count 83 = .ok (.ireturn, 1) by decide +kernel)
  · exact x_aload_n_ok (show decode cX8_count 84 = .ok (.aload_n 0, 1) by decide +kernel) rfl
  · exact x_getR_ok (ci := 6) (k := 2) rfl (by decide) (by decide) hw_224 (show decode cX8_count 85 = .ok (.getfield 26, 3) by decide +kernel)
  · exact x_iconst_ok (show decode cX8_count 88 = .ok (.iconst 1, 1) by decide +kernel) (by decide)
  · exact x_callV_ok (ci := 3) rfl (by decide) (sX4_countOfKind l) hw_799 hw_796 hw_797 hw_798 hw_64 ⟨by decide, by decide, by decide +kernel⟩ rfl (by decide) (by decide) (show decode cX8_count 89 = .ok (.invokevirtual 295, 3) by decide +kernel)
  · exact x_iret_ok (show decode cX8_count 92 = .ok (.ireturn, 1) by decide +kernel)
  · exact x_aload_n_ok (show decode cX8_count 93 = .ok (.aload_n 0, 1) by decide +kernel) rfl
  · exact x_getR_ok (ci := 6) (k := 2) rfl (by decide) (by decide) hw_224 (show decode cX8_count 94 = .ok (.getfield 26, 3) by decide +kernel)
  · exact x_iconst_ok (show decode cX8_count 97 = .ok (.iconst 2, 1) by decide +kernel) (by decide)
  · exact x_callV_ok (ci := 3) rfl (by decide) (sX4_countOfKind l) hw_799 hw_796 hw_797 hw_798 hw_64 ⟨by decide, by decide, by decide +kernel⟩ rfl (by decide) (by decide) (show decode cX8_count 98 = .ok (.invokevirtual 295, 3) by decide +kernel)
  · exact x_iret_ok (show decode cX8_count 101 = .ok (.ireturn, 1) by decide +kernel)
  · exact x_aload_n_ok (show decode cX8_count 102 = .ok (.aload_n 0, 1) by decide +kernel) rfl
  · exact x_callV_ok (ci := 6) rfl (by decide) (sX8_countRows l) hw_804 hw_801 hw_803 hw_15 hw_61 ⟨by decide, by decide, by decide +kernel⟩ rfl (by decide) (by decide) (show decode cX8_count 103 = .ok (.invokevirtual 298, 3) by decide +kernel)
  · exact x_iret_ok (show decode cX8_count 106 = .ok (.ireturn, 1) by decide +kernel)
  · exact x_aload_n_ok (show decode cX8_count 107 = .ok (.aload_n 0, 1) by decide +kernel) rfl
  · exact x_callV_ok (ci := 6) rfl (by decide) (sX8_countTexts l) hw_808 hw_805 hw_807 hw_16 hw_61 ⟨by decide, by decide, by decide +kernel⟩ rfl (by decide) (by decide) (show decode cX8_count 108 = .ok (.invokevirtual 301, 3) by decide +kernel)
  · exact x_iret_ok (show decode cX8_count 111 = .ok (.ireturn, 1) by decide +kernel)
  · exact x_aload_n_ok (show decode cX8_count 112 = .ok (.aload_n 0, 1) by decide +kernel) rfl
  · exact x_callV_ok (ci := 6) rfl (by decide) (sX8_countKept l) hw_812 hw_809 hw_811 hw_17 hw_61 ⟨by decide, by decide, by decide +kernel⟩ rfl (by decide) (by decide) (show decode cX8_count 113 = .ok (.invokevirtual 304, 3) by decide +kernel)
  · exact x_iret_ok (show decode cX8_count 116 = .ok (.ireturn, 1) by decide +kernel)
  · exact x_iconst_ok (show decode cX8_count 117 = .ok (.iconst (-1), 1) by decide +kernel) (by decide)
  · exact x_iret_ok (show decode cX8_count 118 = .ok (.ireturn, 1) by decide +kernel)
noncomputable def FX8_count : List Value → xS → Option xR := xden tX8_count 2 (some .int) 0
theorem sX8_count (l : Launch) : xSound l yX8_count cX8_count 2 (some .int) 3 0 FX8_count := x_den (by decide) (tX8_count_ok l)
noncomputable def tX9_sumOf : List (Nat × xO) := [(0, x_push (.int (nI 0)) 1), (1, x_istore 2 1), (2, x_push (.int (nI 0)) 1), (3, x_istore 3 1), (4, x_iload 3 1), (5, x_aload 0 1), (6, x_getR 7 0), (9, x_push (.int (nI 1)) 1), (10, x_iald), (11, x_cmpge 29), (14, x_iload 2 1), (15, x_aload 0 1), (16, x_iload 3 1), (17, x_iload 1 1), (18, x_callV 7 0 3 FX9_of), (21, x_ii (fun x y => x + y)), (22, x_istore 2 1), (23, x_iinc 3 (nI 1)), (26, x_goto 4), (29, x_iload 2 1), (30, x_iret)]
set_option maxRecDepth 100000 in
theorem tX9_sumOf_ok (l : Launch) : ∀ q ∈ tX9_sumOf, xOK l cX9_sumOf RX9 4 2 0 (yX9_sumOf.name = "<init>") q.1 q.2 := by
  unfold tX9_sumOf
  refine List.forall_mem_cons.mpr ⟨?_, List.forall_mem_cons.mpr ⟨?_, List.forall_mem_cons.mpr ⟨?_, List.forall_mem_cons.mpr ⟨?_, List.forall_mem_cons.mpr ⟨?_, List.forall_mem_cons.mpr ⟨?_, List.forall_mem_cons.mpr ⟨?_, List.forall_mem_cons.mpr ⟨?_, List.forall_mem_cons.mpr ⟨?_, List.forall_mem_cons.mpr ⟨?_, List.forall_mem_cons.mpr ⟨?_, List.forall_mem_cons.mpr ⟨?_, List.forall_mem_cons.mpr ⟨?_, List.forall_mem_cons.mpr ⟨?_, List.forall_mem_cons.mpr ⟨?_, List.forall_mem_cons.mpr ⟨?_, List.forall_mem_cons.mpr ⟨?_, List.forall_mem_cons.mpr ⟨?_, List.forall_mem_cons.mpr ⟨?_, List.forall_mem_cons.mpr ⟨?_, List.forall_mem_cons.mpr ⟨?_, fun _ h => absurd h List.not_mem_nil⟩⟩⟩⟩⟩⟩⟩⟩⟩⟩⟩⟩⟩⟩⟩⟩⟩⟩⟩⟩⟩
  · exact x_iconst_ok (show decode cX9_sumOf 0 = .ok (.iconst 0, 1) by decide +kernel) (by decide)
  · exact x_istore_n_ok (show decode cX9_sumOf 1 = .ok (.istore_n 2, 1) by decide +kernel) rfl (by decide)
  · exact x_iconst_ok (show decode cX9_sumOf 2 = .ok (.iconst 0, 1) by decide +kernel) (by decide)
  · exact x_istore_n_ok (show decode cX9_sumOf 3 = .ok (.istore_n 3, 1) by decide +kernel) rfl (by decide)
  · exact x_iload_n_ok (show decode cX9_sumOf 4 = .ok (.iload_n 3, 1) by decide +kernel) rfl
  · exact x_aload_n_ok (show decode cX9_sumOf 5 = .ok (.aload_n 0, 1) by decide +kernel) rfl
  · exact x_getR_ok (ci := 7) (k := 0) rfl (by decide) (by decide) hw_844 (show decode cX9_sumOf 6 = .ok (.getfield 7, 3) by decide +kernel)
  · exact x_iconst_ok (show decode cX9_sumOf 9 = .ok (.iconst 1, 1) by decide +kernel) (by decide)
  · exact x_iald_ok (show decode cX9_sumOf 10 = .ok (.iaload, 1) by decide +kernel)
  · exact x_cmpge_ok (show decode cX9_sumOf 11 = .ok (.if_icmp .ge 18, 3) by decide +kernel) (by decide)
  · exact x_iload_n_ok (show decode cX9_sumOf 14 = .ok (.iload_n 2, 1) by decide +kernel) rfl
  · exact x_aload_n_ok (show decode cX9_sumOf 15 = .ok (.aload_n 0, 1) by decide +kernel) rfl
  · exact x_iload_n_ok (show decode cX9_sumOf 16 = .ok (.iload_n 3, 1) by decide +kernel) rfl
  · exact x_iload_n_ok (show decode cX9_sumOf 17 = .ok (.iload_n 1, 1) by decide +kernel) rfl
  · exact x_callV_ok (ci := 7) rfl (by decide) (sX9_of l) hw_1019 hw_1016 hw_1018 hw_30 hw_68 ⟨by decide, by decide, by decide +kernel⟩ rfl (by decide) (by decide) (show decode cX9_sumOf 18 = .ok (.invokevirtual 128, 3) by decide +kernel)
  · exact x_iadd_ok (show decode cX9_sumOf 21 = .ok (.iadd, 1) by decide +kernel)
  · exact x_istore_n_ok (show decode cX9_sumOf 22 = .ok (.istore_n 2, 1) by decide +kernel) rfl (by decide)
  · exact x_iinc_ok (show decode cX9_sumOf 23 = .ok (.iinc 3 1, 3) by decide +kernel) (by decide) (by decide)
  · exact x_goto_ok (show decode cX9_sumOf 26 = .ok (.goto (-22), 3) by decide +kernel) (by decide)
  · exact x_iload_n_ok (show decode cX9_sumOf 29 = .ok (.iload_n 2, 1) by decide +kernel) rfl
  · exact x_iret_ok (show decode cX9_sumOf 30 = .ok (.ireturn, 1) by decide +kernel)
noncomputable def FX9_sumOf : List Value → xS → Option xR := xden tX9_sumOf 4 (some .int) 0
theorem sX9_sumOf (l : Launch) : xSound l yX9_sumOf cX9_sumOf 4 (some .int) 2 0 FX9_sumOf := x_den (by decide) (tX9_sumOf_ok l)
noncomputable def tX9_kindMany : List (Nat × xO) := [(0, x_push (.int (nI 0)) 1), (1, x_istore 2 1), (2, x_push (.int (nI 0)) 1), (3, x_istore 3 1), (4, x_iload 3 1), (5, x_aload 0 1), (6, x_getR 7 0), (9, x_push (.int (nI 1)) 1), (10, x_iald), (11, x_cmpge 37), (14, x_iload 2 1), (15, x_aload 0 1), (16, x_iload 3 1), (17, x_iload 1 1), (18, x_callV 7 0 3 FX9_isOf), (21, x_ifeq 28), (24, x_push (.int (nI 1)) 1), (25, x_goto 29), (28, x_push (.int (nI 0)) 1), (29, x_ii (fun x y => x + y)), (30, x_istore 2 1), (31, x_iinc 3 (nI 1)), (34, x_goto 4), (37, x_iload 2 1), (38, x_iret)]
set_option maxRecDepth 100000 in
theorem tX9_kindMany_ok (l : Launch) : ∀ q ∈ tX9_kindMany, xOK l cX9_kindMany RX9 4 3 0 (yX9_kindMany.name = "<init>") q.1 q.2 := by
  unfold tX9_kindMany
  refine List.forall_mem_cons.mpr ⟨?_, List.forall_mem_cons.mpr ⟨?_, List.forall_mem_cons.mpr ⟨?_, List.forall_mem_cons.mpr ⟨?_, List.forall_mem_cons.mpr ⟨?_, List.forall_mem_cons.mpr ⟨?_, List.forall_mem_cons.mpr ⟨?_, List.forall_mem_cons.mpr ⟨?_, List.forall_mem_cons.mpr ⟨?_, List.forall_mem_cons.mpr ⟨?_, List.forall_mem_cons.mpr ⟨?_, List.forall_mem_cons.mpr ⟨?_, List.forall_mem_cons.mpr ⟨?_, List.forall_mem_cons.mpr ⟨?_, List.forall_mem_cons.mpr ⟨?_, List.forall_mem_cons.mpr ⟨?_, List.forall_mem_cons.mpr ⟨?_, List.forall_mem_cons.mpr ⟨?_, List.forall_mem_cons.mpr ⟨?_, List.forall_mem_cons.mpr ⟨?_, List.forall_mem_cons.mpr ⟨?_, List.forall_mem_cons.mpr ⟨?_, List.forall_mem_cons.mpr ⟨?_, List.forall_mem_cons.mpr ⟨?_, List.forall_mem_cons.mpr ⟨?_, fun _ h => absurd h List.not_mem_nil⟩⟩⟩⟩⟩⟩⟩⟩⟩⟩⟩⟩⟩⟩⟩⟩⟩⟩⟩⟩⟩⟩⟩⟩⟩
  · exact x_iconst_ok (show decode cX9_kindMany 0 = .ok (.iconst 0, 1) by decide +kernel) (by decide)
  · exact x_istore_n_ok (show decode cX9_kindMany 1 = .ok (.istore_n 2, 1) by decide +kernel) rfl (by decide)
  · exact x_iconst_ok (show decode cX9_kindMany 2 = .ok (.iconst 0, 1) by decide +kernel) (by decide)
  · exact x_istore_n_ok (show decode cX9_kindMany 3 = .ok (.istore_n 3, 1) by decide +kernel) rfl (by decide)
  · exact x_iload_n_ok (show decode cX9_kindMany 4 = .ok (.iload_n 3, 1) by decide +kernel) rfl
  · exact x_aload_n_ok (show decode cX9_kindMany 5 = .ok (.aload_n 0, 1) by decide +kernel) rfl
  · exact x_getR_ok (ci := 7) (k := 0) rfl (by decide) (by decide) hw_844 (show decode cX9_kindMany 6 = .ok (.getfield 7, 3) by decide +kernel)
  · exact x_iconst_ok (show decode cX9_kindMany 9 = .ok (.iconst 1, 1) by decide +kernel) (by decide)
  · exact x_iald_ok (show decode cX9_kindMany 10 = .ok (.iaload, 1) by decide +kernel)
  · exact x_cmpge_ok (show decode cX9_kindMany 11 = .ok (.if_icmp .ge 26, 3) by decide +kernel) (by decide)
  · exact x_iload_n_ok (show decode cX9_kindMany 14 = .ok (.iload_n 2, 1) by decide +kernel) rfl
  · exact x_aload_n_ok (show decode cX9_kindMany 15 = .ok (.aload_n 0, 1) by decide +kernel) rfl
  · exact x_iload_n_ok (show decode cX9_kindMany 16 = .ok (.iload_n 3, 1) by decide +kernel) rfl
  · exact x_iload_n_ok (show decode cX9_kindMany 17 = .ok (.iload_n 1, 1) by decide +kernel) rfl
  · exact x_callV_ok (ci := 7) rfl (by decide) (sX9_isOf l) hw_1046 hw_1043 hw_1045 hw_32 hw_68 ⟨by decide, by decide, by decide +kernel⟩ rfl (by decide) (by decide) (show decode cX9_kindMany 18 = .ok (.invokevirtual 178, 3) by decide +kernel)
  · exact x_ifeq_ok (show decode cX9_kindMany 21 = .ok (.ifCond .eq 7, 3) by decide +kernel) (by decide)
  · exact x_iconst_ok (show decode cX9_kindMany 24 = .ok (.iconst 1, 1) by decide +kernel) (by decide)
  · exact x_goto_ok (show decode cX9_kindMany 25 = .ok (.goto 4, 3) by decide +kernel) (by decide)
  · exact x_iconst_ok (show decode cX9_kindMany 28 = .ok (.iconst 0, 1) by decide +kernel) (by decide)
  · exact x_iadd_ok (show decode cX9_kindMany 29 = .ok (.iadd, 1) by decide +kernel)
  · exact x_istore_n_ok (show decode cX9_kindMany 30 = .ok (.istore_n 2, 1) by decide +kernel) rfl (by decide)
  · exact x_iinc_ok (show decode cX9_kindMany 31 = .ok (.iinc 3 1, 3) by decide +kernel) (by decide) (by decide)
  · exact x_goto_ok (show decode cX9_kindMany 34 = .ok (.goto (-30), 3) by decide +kernel) (by decide)
  · exact x_iload_n_ok (show decode cX9_kindMany 37 = .ok (.iload_n 2, 1) by decide +kernel) rfl
  · exact x_iret_ok (show decode cX9_kindMany 38 = .ok (.ireturn, 1) by decide +kernel)
noncomputable def FX9_kindMany : List Value → xS → Option xR := xden tX9_kindMany 4 (some .int) 0
theorem sX9_kindMany (l : Launch) : xSound l yX9_kindMany cX9_kindMany 4 (some .int) 3 0 FX9_kindMany := x_den (by decide) (tX9_kindMany_ok l)
noncomputable def tX9_thereOf : List (Nat × xO) := [(0, x_push (.int (nI 0)) 1), (1, x_istore 2 1), (2, x_push (.int (nI 0)) 1), (3, x_istore 3 1), (4, x_iload 3 1), (5, x_push (.int (nI 6)) 2), (7, x_cmpge 97), (10, x_iload 2 1), (11, x_iload 1 1), (12, x_push (.int (nI 6)) 2), (14, x_cmpne 34), (17, x_aload 0 1), (18, x_getR 7 1), (21, x_iload 3 1), (22, x_iald), (23, x_ifge 30), (26, x_push (.int (nI 0)) 1), (27, x_goto 89), (30, x_push (.int (nI 1)) 1), (31, x_goto 89), (34, x_iload 1 1), (35, x_push (.int (nI 7)) 2), (37, x_cmpne 62), (40, x_iload 3 1), (41, x_push (.int (nI 4)) 1), (42, x_cmpge 58), (45, x_aload 0 1), (46, x_getR 7 3), (49, x_iload 3 1), (50, x_iald), (51, x_iflt 58), (54, x_push (.int (nI 1)) 1), (55, x_goto 89), (58, x_push (.int (nI 0)) 1), (59, x_goto 89), (62, x_iload 3 1), (63, x_push (.int (nI 3)) 1), (64, x_cmpge 88), (67, x_aload 0 1), (68, x_getR 7 0), (71, x_push (.int (nI 426)) 3), (74, x_push (.int (nI 1)) 1), (75, x_iload 3 1), (76, x_ii (fun x y => x + y)), (77, x_ii (fun x y => x * y)), (78, x_push (.int (nI 0)) 1), (79, x_ii (fun x y => x + y)), (80, x_iald), (81, x_iflt 88), (84, x_push (.int (nI 1)) 1), (85, x_goto 89), (88, x_push (.int (nI 0)) 1), (89, x_ii (fun x y => x + y)), (90, x_istore 2 1), (91, x_iinc 3 (nI 1)), (94, x_goto 4), (97, x_iload 2 1), (98, x_iret)]
set_option maxRecDepth 100000 in
theorem tX9_thereOf_ok (l : Launch) : ∀ q ∈ tX9_thereOf, xOK l cX9_thereOf RX9 4 1 0 (yX9_thereOf.name = "<init>") q.1 q.2 := by
  unfold tX9_thereOf
  refine List.forall_mem_cons.mpr ⟨?_, List.forall_mem_cons.mpr ⟨?_, List.forall_mem_cons.mpr ⟨?_, List.forall_mem_cons.mpr ⟨?_, List.forall_mem_cons.mpr ⟨?_, List.forall_mem_cons.mpr ⟨?_, List.forall_mem_cons.mpr ⟨?_, List.forall_mem_cons.mpr ⟨?_, List.forall_mem_cons.mpr ⟨?_, List.forall_mem_cons.mpr ⟨?_, List.forall_mem_cons.mpr ⟨?_, List.forall_mem_cons.mpr ⟨?_, List.forall_mem_cons.mpr ⟨?_, List.forall_mem_cons.mpr ⟨?_, List.forall_mem_cons.mpr ⟨?_, List.forall_mem_cons.mpr ⟨?_, List.forall_mem_cons.mpr ⟨?_, List.forall_mem_cons.mpr ⟨?_, List.forall_mem_cons.mpr ⟨?_, List.forall_mem_cons.mpr ⟨?_, List.forall_mem_cons.mpr ⟨?_, List.forall_mem_cons.mpr ⟨?_, List.forall_mem_cons.mpr ⟨?_, List.forall_mem_cons.mpr ⟨?_, List.forall_mem_cons.mpr ⟨?_, List.forall_mem_cons.mpr ⟨?_, List.forall_mem_cons.mpr ⟨?_, List.forall_mem_cons.mpr ⟨?_, List.forall_mem_cons.mpr ⟨?_, List.forall_mem_cons.mpr ⟨?_, List.forall_mem_cons.mpr ⟨?_, List.forall_mem_cons.mpr ⟨?_, List.forall_mem_cons.mpr ⟨?_, List.forall_mem_cons.mpr ⟨?_, List.forall_mem_cons.mpr ⟨?_, List.forall_mem_cons.mpr ⟨?_, List.forall_mem_cons.mpr ⟨?_, List.forall_mem_cons.mpr ⟨?_, List.forall_mem_cons.mpr ⟨?_, List.forall_mem_cons.mpr ⟨?_, List.forall_mem_cons.mpr ⟨?_, List.forall_mem_cons.mpr ⟨?_, List.forall_mem_cons.mpr ⟨?_, List.forall_mem_cons.mpr ⟨?_, List.forall_mem_cons.mpr ⟨?_, List.forall_mem_cons.mpr ⟨?_, List.forall_mem_cons.mpr ⟨?_, List.forall_mem_cons.mpr ⟨?_, List.forall_mem_cons.mpr ⟨?_, List.forall_mem_cons.mpr ⟨?_, List.forall_mem_cons.mpr ⟨?_, List.forall_mem_cons.mpr ⟨?_, List.forall_mem_cons.mpr ⟨?_, List.forall_mem_cons.mpr ⟨?_, List.forall_mem_cons.mpr ⟨?_, List.forall_mem_cons.mpr ⟨?_, List.forall_mem_cons.mpr ⟨?_, List.forall_mem_cons.mpr ⟨?_, fun _ h => absurd h List.not_mem_nil⟩⟩⟩⟩⟩⟩⟩⟩⟩⟩⟩⟩⟩⟩⟩⟩⟩⟩⟩⟩⟩⟩⟩⟩⟩⟩⟩⟩⟩⟩⟩⟩⟩⟩⟩⟩⟩⟩⟩⟩⟩⟩⟩⟩⟩⟩⟩⟩⟩⟩⟩⟩⟩⟩⟩⟩⟩⟩
  · exact x_iconst_ok (show decode cX9_thereOf 0 = .ok (.iconst 0, 1) by decide +kernel) (by decide)
  · exact x_istore_n_ok (show decode cX9_thereOf 1 = .ok (.istore_n 2, 1) by decide +kernel) rfl (by decide)
  · exact x_iconst_ok (show decode cX9_thereOf 2 = .ok (.iconst 0, 1) by decide +kernel) (by decide)
  · exact x_istore_n_ok (show decode cX9_thereOf 3 = .ok (.istore_n 3, 1) by decide +kernel) rfl (by decide)
  · exact x_iload_n_ok (show decode cX9_thereOf 4 = .ok (.iload_n 3, 1) by decide +kernel) rfl
  · exact x_bipush_ok (show decode cX9_thereOf 5 = .ok (.bipush 6, 2) by decide +kernel) (by decide)
  · exact x_cmpge_ok (show decode cX9_thereOf 7 = .ok (.if_icmp .ge 90, 3) by decide +kernel) (by decide)
  · exact x_iload_n_ok (show decode cX9_thereOf 10 = .ok (.iload_n 2, 1) by decide +kernel) rfl
  · exact x_iload_n_ok (show decode cX9_thereOf 11 = .ok (.iload_n 1, 1) by decide +kernel) rfl
  · exact x_bipush_ok (show decode cX9_thereOf 12 = .ok (.bipush 6, 2) by decide +kernel) (by decide)
  · exact x_cmpne_ok (show decode cX9_thereOf 14 = .ok (.if_icmp .ne 20, 3) by decide +kernel) (by decide)
  · exact x_aload_n_ok (show decode cX9_thereOf 17 = .ok (.aload_n 0, 1) by decide +kernel) rfl
  · exact x_getR_ok (ci := 7) (k := 1) rfl (by decide) (by decide) hw_845 (show decode cX9_thereOf 18 = .ok (.getfield 13, 3) by decide +kernel)
  · exact x_iload_n_ok (show decode cX9_thereOf 21 = .ok (.iload_n 3, 1) by decide +kernel) rfl
  · exact x_iald_ok (show decode cX9_thereOf 22 = .ok (.iaload, 1) by decide +kernel)
  · exact x_ifge_ok (show decode cX9_thereOf 23 = .ok (.ifCond .ge 7, 3) by decide +kernel) (by decide)
  · exact x_iconst_ok (show decode cX9_thereOf 26 = .ok (.iconst 0, 1) by decide +kernel) (by decide)
  · exact x_goto_ok (show decode cX9_thereOf 27 = .ok (.goto 62, 3) by decide +kernel) (by decide)
  · exact x_iconst_ok (show decode cX9_thereOf 30 = .ok (.iconst 1, 1) by decide +kernel) (by decide)
  · exact x_goto_ok (show decode cX9_thereOf 31 = .ok (.goto 58, 3) by decide +kernel) (by decide)
  · exact x_iload_n_ok (show decode cX9_thereOf 34 = .ok (.iload_n 1, 1) by decide +kernel) rfl
  · exact x_bipush_ok (show decode cX9_thereOf 35 = .ok (.bipush 7, 2) by decide +kernel) (by decide)
  · exact x_cmpne_ok (show decode cX9_thereOf 37 = .ok (.if_icmp .ne 25, 3) by decide +kernel) (by decide)
  · exact x_iload_n_ok (show decode cX9_thereOf 40 = .ok (.iload_n 3, 1) by decide +kernel) rfl
  · exact x_iconst_ok (show decode cX9_thereOf 41 = .ok (.iconst 4, 1) by decide +kernel) (by decide)
  · exact x_cmpge_ok (show decode cX9_thereOf 42 = .ok (.if_icmp .ge 16, 3) by decide +kernel) (by decide)
  · exact x_aload_n_ok (show decode cX9_thereOf 45 = .ok (.aload_n 0, 1) by decide +kernel) rfl
  · exact x_getR_ok (ci := 7) (k := 3) rfl (by decide) (by decide) hw_847 (show decode cX9_thereOf 46 = .ok (.getfield 19, 3) by decide +kernel)
  · exact x_iload_n_ok (show decode cX9_thereOf 49 = .ok (.iload_n 3, 1) by decide +kernel) rfl
  · exact x_iald_ok (show decode cX9_thereOf 50 = .ok (.iaload, 1) by decide +kernel)
  · exact x_iflt_ok (show decode cX9_thereOf 51 = .ok (.ifCond .lt 7, 3) by decide +kernel) (by decide)
  · exact x_iconst_ok (show decode cX9_thereOf 54 = .ok (.iconst 1, 1) by decide +kernel) (by decide)
  · exact x_goto_ok (show decode cX9_thereOf 55 = .ok (.goto 34, 3) by decide +kernel) (by decide)
  · exact x_iconst_ok (show decode cX9_thereOf 58 = .ok (.iconst 0, 1) by decide +kernel) (by decide)
  · exact x_goto_ok (show decode cX9_thereOf 59 = .ok (.goto 30, 3) by decide +kernel) (by decide)
  · exact x_iload_n_ok (show decode cX9_thereOf 62 = .ok (.iload_n 3, 1) by decide +kernel) rfl
  · exact x_iconst_ok (show decode cX9_thereOf 63 = .ok (.iconst 3, 1) by decide +kernel) (by decide)
  · exact x_cmpge_ok (show decode cX9_thereOf 64 = .ok (.if_icmp .ge 24, 3) by decide +kernel) (by decide)
  · exact x_aload_n_ok (show decode cX9_thereOf 67 = .ok (.aload_n 0, 1) by decide +kernel) rfl
  · exact x_getR_ok (ci := 7) (k := 0) rfl (by decide) (by decide) hw_844 (show decode cX9_thereOf 68 = .ok (.getfield 7, 3) by decide +kernel)
  · exact x_sipush_ok (show decode cX9_thereOf 71 = .ok (.sipush 426, 3) by decide +kernel) (by decide)
  · exact x_iconst_ok (show decode cX9_thereOf 74 = .ok (.iconst 1, 1) by decide +kernel) (by decide)
  · exact x_iload_n_ok (show decode cX9_thereOf 75 = .ok (.iload_n 3, 1) by decide +kernel) rfl
  · exact x_iadd_ok (show decode cX9_thereOf 76 = .ok (.iadd, 1) by decide +kernel)
  · exact x_imul_ok (show decode cX9_thereOf 77 = .ok (.imul, 1) by decide +kernel)
  · exact x_iconst_ok (show decode cX9_thereOf 78 = .ok (.iconst 0, 1) by decide +kernel) (by decide)
  · exact x_iadd_ok (show decode cX9_thereOf 79 = .ok (.iadd, 1) by decide +kernel)
  · exact x_iald_ok (show decode cX9_thereOf 80 = .ok (.iaload, 1) by decide +kernel)
  · exact x_iflt_ok (show decode cX9_thereOf 81 = .ok (.ifCond .lt 7, 3) by decide +kernel) (by decide)
  · exact x_iconst_ok (show decode cX9_thereOf 84 = .ok (.iconst 1, 1) by decide +kernel) (by decide)
  · exact x_goto_ok (show decode cX9_thereOf 85 = .ok (.goto 4, 3) by decide +kernel) (by decide)
  · exact x_iconst_ok (show decode cX9_thereOf 88 = .ok (.iconst 0, 1) by decide +kernel) (by decide)
  · exact x_iadd_ok (show decode cX9_thereOf 89 = .ok (.iadd, 1) by decide +kernel)
  · exact x_istore_n_ok (show decode cX9_thereOf 90 = .ok (.istore_n 2, 1) by decide +kernel) rfl (by decide)
  · exact x_iinc_ok (show decode cX9_thereOf 91 = .ok (.iinc 3 1, 3) by decide +kernel) (by decide) (by decide)
  · exact x_goto_ok (show decode cX9_thereOf 94 = .ok (.goto (-90), 3) by decide +kernel) (by decide)
  · exact x_iload_n_ok (show decode cX9_thereOf 97 = .ok (.iload_n 2, 1) by decide +kernel) rfl
  · exact x_iret_ok (show decode cX9_thereOf 98 = .ok (.ireturn, 1) by decide +kernel)
noncomputable def FX9_thereOf : List Value → xS → Option xR := xden tX9_thereOf 4 (some .int) 0
theorem sX9_thereOf (l : Launch) : xSound l yX9_thereOf cX9_thereOf 4 (some .int) 1 0 FX9_thereOf := x_den (by decide) (tX9_thereOf_ok l)
noncomputable def tX9_countOf : List (Nat × xO) := [(0, x_iload 1 1), (1, x_switch [((nI 0), 40), ((nI 1), 47), ((nI 2), 54), ((nI 3), 61), ((nI 4), 67), ((nI 5), 73)] 79), (40, x_aload 0 1), (41, x_getR 7 0), (44, x_push (.int (nI 1)) 1), (45, x_iald), (46, x_iret), (47, x_aload 0 1), (48, x_getR 7 0), (51, x_push (.int (nI 0)) 1), (52, x_iald), (53, x_iret), (54, x_aload 0 1), (55, x_push (.int (nI 6)) 2), (57, x_callV 7 0 2 FX9_sumOf), (60, x_iret), (61, x_aload 0 1), (62, x_push (.int (nI 5)) 1), (63, x_callV 7 0 2 FX9_sumOf), (66, x_iret), (67, x_aload 0 1), (68, x_push (.int (nI 1)) 1), (69, x_callV 7 0 2 FX9_kindMany), (72, x_iret), (73, x_aload 0 1), (74, x_push (.int (nI 2)) 1), (75, x_callV 7 0 2 FX9_kindMany), (78, x_iret), (79, x_aload 0 1), (80, x_iload 1 1), (81, x_callV 7 0 2 FX9_thereOf), (84, x_iret)]
set_option maxRecDepth 100000 in
theorem tX9_countOf_ok (l : Launch) : ∀ q ∈ tX9_countOf, xOK l cX9_countOf RX9 2 4 0 (yX9_countOf.name = "<init>") q.1 q.2 := by
  unfold tX9_countOf
  refine List.forall_mem_cons.mpr ⟨?_, List.forall_mem_cons.mpr ⟨?_, List.forall_mem_cons.mpr ⟨?_, List.forall_mem_cons.mpr ⟨?_, List.forall_mem_cons.mpr ⟨?_, List.forall_mem_cons.mpr ⟨?_, List.forall_mem_cons.mpr ⟨?_, List.forall_mem_cons.mpr ⟨?_, List.forall_mem_cons.mpr ⟨?_, List.forall_mem_cons.mpr ⟨?_, List.forall_mem_cons.mpr ⟨?_, List.forall_mem_cons.mpr ⟨?_, List.forall_mem_cons.mpr ⟨?_, List.forall_mem_cons.mpr ⟨?_, List.forall_mem_cons.mpr ⟨?_, List.forall_mem_cons.mpr ⟨?_, List.forall_mem_cons.mpr ⟨?_, List.forall_mem_cons.mpr ⟨?_, List.forall_mem_cons.mpr ⟨?_, List.forall_mem_cons.mpr ⟨?_, List.forall_mem_cons.mpr ⟨?_, List.forall_mem_cons.mpr ⟨?_, List.forall_mem_cons.mpr ⟨?_, List.forall_mem_cons.mpr ⟨?_, List.forall_mem_cons.mpr ⟨?_, List.forall_mem_cons.mpr ⟨?_, List.forall_mem_cons.mpr ⟨?_, List.forall_mem_cons.mpr ⟨?_, List.forall_mem_cons.mpr ⟨?_, List.forall_mem_cons.mpr ⟨?_, List.forall_mem_cons.mpr ⟨?_, List.forall_mem_cons.mpr ⟨?_, fun _ h => absurd h List.not_mem_nil⟩⟩⟩⟩⟩⟩⟩⟩⟩⟩⟩⟩⟩⟩⟩⟩⟩⟩⟩⟩⟩⟩⟩⟩⟩⟩⟩⟩⟩⟩⟩⟩
  · exact x_iload_n_ok (show decode cX9_countOf 0 = .ok (.iload_n 1, 1) by decide +kernel) rfl
  · exact x_switch_ok (show decode cX9_countOf 1 = .ok (.tableswitch 78 0 5 #[39, 46, 53, 60, 66, 72], 39) by decide +kernel) (by decide) (by decide +kernel) (by decide) (by decide) (by decide +kernel)
  · exact x_aload_n_ok (show decode cX9_countOf 40 = .ok (.aload_n 0, 1) by decide +kernel) rfl
  · exact x_getR_ok (ci := 7) (k := 0) rfl (by decide) (by decide) hw_844 (show decode cX9_countOf 41 = .ok (.getfield 7, 3) by decide +kernel)
  · exact x_iconst_ok (show decode cX9_countOf 44 = .ok (.iconst 1, 1) by decide +kernel) (by decide)
  · exact x_iald_ok (show decode cX9_countOf 45 = .ok (.iaload, 1) by decide +kernel)
  · exact x_iret_ok (show decode cX9_countOf 46 = .ok (.ireturn, 1) by decide +kernel)
  · exact x_aload_n_ok (show decode cX9_countOf 47 = .ok (.aload_n 0, 1) by decide +kernel) rfl
  · exact x_getR_ok (ci := 7) (k := 0) rfl (by decide) (by decide) hw_844 (show decode cX9_countOf 48 = .ok (.getfield 7, 3) by decide +kernel)
  · exact x_iconst_ok (show decode cX9_countOf 51 = .ok (.iconst 0, 1) by decide +kernel) (by decide)
  · exact x_iald_ok (show decode cX9_countOf 52 = .ok (.iaload, 1) by decide +kernel)
  · exact x_iret_ok (show decode cX9_countOf 53 = .ok (.ireturn, 1) by decide +kernel)
  · exact x_aload_n_ok (show decode cX9_countOf 54 = .ok (.aload_n 0, 1) by decide +kernel) rfl
  · exact x_bipush_ok (show decode cX9_countOf 55 = .ok (.bipush 6, 2) by decide +kernel) (by decide)
  · exact x_callV_ok (ci := 7) rfl (by decide) (sX9_sumOf l) hw_1301 hw_1298 hw_1300 hw_57 hw_68 ⟨by decide, by decide, by decide +kernel⟩ rfl (by decide) (by decide) (show decode cX9_countOf 57 = .ok (.invokevirtual 278, 3) by decide +kernel)
  · exact x_iret_ok (show decode cX9_countOf 60 = .ok (.ireturn, 1) by decide +kernel)
  · exact x_aload_n_ok (show decode cX9_countOf 61 = .ok (.aload_n 0, 1) by decide +kernel) rfl
  · exact x_iconst_ok (show decode cX9_countOf 62 = .ok (.iconst 5, 1) by decide +kernel) (by decide)
  · exact x_callV_ok (ci := 7) rfl (by decide) (sX9_sumOf l) hw_1301 hw_1298 hw_1300 hw_57 hw_68 ⟨by decide, by decide, by decide +kernel⟩ rfl (by decide) (by decide) (show decode cX9_countOf 63 = .ok (.invokevirtual 278, 3) by decide +kernel)
  · exact x_iret_ok (show decode cX9_countOf 66 = .ok (.ireturn, 1) by decide +kernel)
  · exact x_aload_n_ok (show decode cX9_countOf 67 = .ok (.aload_n 0, 1) by decide +kernel) rfl
  · exact x_iconst_ok (show decode cX9_countOf 68 = .ok (.iconst 1, 1) by decide +kernel) (by decide)
  · exact x_callV_ok (ci := 7) rfl (by decide) (sX9_kindMany l) hw_1305 hw_1302 hw_1304 hw_58 hw_68 ⟨by decide, by decide, by decide +kernel⟩ rfl (by decide) (by decide) (show decode cX9_countOf 69 = .ok (.invokevirtual 281, 3) by decide +kernel)
  · exact x_iret_ok (show decode cX9_countOf 72 = .ok (.ireturn, 1) by decide +kernel)
  · exact x_aload_n_ok (show decode cX9_countOf 73 = .ok (.aload_n 0, 1) by decide +kernel) rfl
  · exact x_iconst_ok (show decode cX9_countOf 74 = .ok (.iconst 2, 1) by decide +kernel) (by decide)
  · exact x_callV_ok (ci := 7) rfl (by decide) (sX9_kindMany l) hw_1305 hw_1302 hw_1304 hw_58 hw_68 ⟨by decide, by decide, by decide +kernel⟩ rfl (by decide) (by decide) (show decode cX9_countOf 75 = .ok (.invokevirtual 281, 3) by decide +kernel)
  · exact x_iret_ok (show decode cX9_countOf 78 = .ok (.ireturn, 1) by decide +kernel)
  · exact x_aload_n_ok (show decode cX9_countOf 79 = .ok (.aload_n 0, 1) by decide +kernel) rfl
  · exact x_iload_n_ok (show decode cX9_countOf 80 = .ok (.iload_n 1, 1) by decide +kernel) rfl
  · exact x_callV_ok (ci := 7) rfl (by decide) (sX9_thereOf l) hw_1309 hw_1306 hw_1308 hw_59 hw_68 ⟨by decide, by decide, by decide +kernel⟩ rfl (by decide) (by decide) (show decode cX9_countOf 81 = .ok (.invokevirtual 284, 3) by decide +kernel)
  · exact x_iret_ok (show decode cX9_countOf 84 = .ok (.ireturn, 1) by decide +kernel)
noncomputable def FX9_countOf : List Value → xS → Option xR := xden tX9_countOf 2 (some .int) 0
theorem sX9_countOf (l : Launch) : xSound l yX9_countOf cX9_countOf 2 (some .int) 4 0 FX9_countOf := x_den (by decide) (tX9_countOf_ok l)
noncomputable def tX9_count : List (Nat × xO) := [(0, x_iload 1 1), (1, x_i2l), (2, x_push (.long 0) 1), (3, x_push (.long 8) 3), (6, x_call 0 3 FX9_in), (9, x_ifeq 20), (12, x_aload 0 1), (13, x_iload 1 1), (14, x_callV 7 0 2 FX9_countOf), (17, x_goto 21), (20, x_push (.int (-1)) 1), (21, x_iret)]
set_option maxRecDepth 100000 in
theorem tX9_count_ok (l : Launch) : ∀ q ∈ tX9_count, xOK l cX9_count RX9 2 5 0 (yX9_count.name = "<init>") q.1 q.2 := by
  unfold tX9_count
  refine List.forall_mem_cons.mpr ⟨?_, List.forall_mem_cons.mpr ⟨?_, List.forall_mem_cons.mpr ⟨?_, List.forall_mem_cons.mpr ⟨?_, List.forall_mem_cons.mpr ⟨?_, List.forall_mem_cons.mpr ⟨?_, List.forall_mem_cons.mpr ⟨?_, List.forall_mem_cons.mpr ⟨?_, List.forall_mem_cons.mpr ⟨?_, List.forall_mem_cons.mpr ⟨?_, List.forall_mem_cons.mpr ⟨?_, List.forall_mem_cons.mpr ⟨?_, fun _ h => absurd h List.not_mem_nil⟩⟩⟩⟩⟩⟩⟩⟩⟩⟩⟩⟩
  · exact x_iload_n_ok (show decode cX9_count 0 = .ok (.iload_n 1, 1) by decide +kernel) rfl
  · exact x_i2l_ok (show decode cX9_count 1 = .ok (.i2l, 1) by decide +kernel)
  · exact x_lconst_ok (show decode cX9_count 2 = .ok (.lconst 0, 1) by decide +kernel) rfl
  · exact x_ldc2_ok (show decode cX9_count 3 = .ok (.ldc2_w 276, 3) by decide +kernel) hw_1277
  · exact x_callS_ok (sX9_in l) hw_918 hw_916 hw_917 hw_68 ⟨by decide, by decide, by decide +kernel⟩ (by decide) (by decide) (show decode cX9_count 6 = .ok (.invokestatic 60, 3) by decide +kernel)
  · exact x_ifeq_ok (show decode cX9_count 9 = .ok (.ifCond .eq 11, 3) by decide +kernel) (by decide)
  · exact x_aload_n_ok (show decode cX9_count 12 = .ok (.aload_n 0, 1) by decide +kernel) rfl
  · exact x_iload_n_ok (show decode cX9_count 13 = .ok (.iload_n 1, 1) by decide +kernel) rfl
  · exact x_callV_ok (ci := 7) rfl (by decide) (sX9_countOf l) hw_1297 hw_1294 hw_1296 hw_56 hw_68 ⟨by decide, by decide, by decide +kernel⟩ rfl (by decide) (by decide) (show decode cX9_count 14 = .ok (.invokevirtual 287, 3) by decide +kernel)
  · exact x_goto_ok (show decode cX9_count 17 = .ok (.goto 4, 3) by decide +kernel) (by decide)
  · exact x_iconst_ok (show decode cX9_count 20 = .ok (.iconst (-1), 1) by decide +kernel) (by decide)
  · exact x_iret_ok (show decode cX9_count 21 = .ok (.ireturn, 1) by decide +kernel)
noncomputable def FX9_count : List Value → xS → Option xR := xden tX9_count 2 (some .int) 0
theorem sX9_count (l : Launch) : xSound l yX9_count cX9_count 2 (some .int) 5 0 FX9_count := x_den (by decide) (tX9_count_ok l)
noncomputable def tX8_finding : List (Nat × xO) := [(0, x_aload 0 1), (1, x_getI 6 9), (4, x_iret)]
set_option maxRecDepth 100000 in
theorem tX8_finding_ok (l : Launch) : ∀ q ∈ tX8_finding, xOK l cX8_finding RX8 1 1 0 (yX8_finding.name = "<init>") q.1 q.2 := by
  unfold tX8_finding
  refine List.forall_mem_cons.mpr ⟨?_, List.forall_mem_cons.mpr ⟨?_, List.forall_mem_cons.mpr ⟨?_, fun _ h => absurd h List.not_mem_nil⟩⟩⟩
  · exact x_aload_n_ok (show decode cX8_finding 0 = .ok (.aload_n 0, 1) by decide +kernel) rfl
  · exact x_getI_ok (ci := 6) (k := 9) rfl (by decide) (by decide) hw_231 (show decode cX8_finding 1 = .ok (.getfield 307, 3) by decide +kernel)
  · exact x_iret_ok (show decode cX8_finding 4 = .ok (.ireturn, 1) by decide +kernel)
noncomputable def FX8_finding : List Value → xS → Option xR := xden tX8_finding 1 (some .int) 0
theorem sX8_finding (l : Launch) : xSound l yX8_finding cX8_finding 1 (some .int) 1 0 FX8_finding := x_den (by decide) (tX8_finding_ok l)
noncomputable def tX9_finding : List (Nat × xO) := [(0, x_aload 0 1), (1, x_getI 7 8), (4, x_iret)]
set_option maxRecDepth 100000 in
theorem tX9_finding_ok (l : Launch) : ∀ q ∈ tX9_finding, xOK l cX9_finding RX9 1 1 0 (yX9_finding.name = "<init>") q.1 q.2 := by
  unfold tX9_finding
  refine List.forall_mem_cons.mpr ⟨?_, List.forall_mem_cons.mpr ⟨?_, List.forall_mem_cons.mpr ⟨?_, fun _ h => absurd h List.not_mem_nil⟩⟩⟩
  · exact x_aload_n_ok (show decode cX9_finding 0 = .ok (.aload_n 0, 1) by decide +kernel) rfl
  · exact x_getI_ok (ci := 7) (k := 8) rfl (by decide) (by decide) hw_852 (show decode cX9_finding 1 = .ok (.getfield 51, 3) by decide +kernel)
  · exact x_iret_ok (show decode cX9_finding 4 = .ok (.ireturn, 1) by decide +kernel)
noncomputable def FX9_finding : List Value → xS → Option xR := xden tX9_finding 1 (some .int) 0
theorem sX9_finding (l : Launch) : xSound l yX9_finding cX9_finding 1 (some .int) 1 0 FX9_finding := x_den (by decide) (tX9_finding_ok l)
noncomputable def tX8_findings : List (Nat × xO) := [(0, x_iload 1 1), (1, x_push (.int (nI 1)) 1), (2, x_cmplt 10), (5, x_iload 1 1), (6, x_push (.int (nI 5)) 1), (7, x_cmple 12), (10, x_push (.int (-1)) 1), (11, x_iret), (12, x_aload 0 1), (13, x_getR 6 8), (16, x_iload 1 1), (17, x_iald), (18, x_iret)]
set_option maxRecDepth 100000 in
theorem tX8_findings_ok (l : Launch) : ∀ q ∈ tX8_findings, xOK l cX8_findings RX8 2 1 0 (yX8_findings.name = "<init>") q.1 q.2 := by
  unfold tX8_findings
  refine List.forall_mem_cons.mpr ⟨?_, List.forall_mem_cons.mpr ⟨?_, List.forall_mem_cons.mpr ⟨?_, List.forall_mem_cons.mpr ⟨?_, List.forall_mem_cons.mpr ⟨?_, List.forall_mem_cons.mpr ⟨?_, List.forall_mem_cons.mpr ⟨?_, List.forall_mem_cons.mpr ⟨?_, List.forall_mem_cons.mpr ⟨?_, List.forall_mem_cons.mpr ⟨?_, List.forall_mem_cons.mpr ⟨?_, List.forall_mem_cons.mpr ⟨?_, List.forall_mem_cons.mpr ⟨?_, fun _ h => absurd h List.not_mem_nil⟩⟩⟩⟩⟩⟩⟩⟩⟩⟩⟩⟩⟩
  · exact x_iload_n_ok (show decode cX8_findings 0 = .ok (.iload_n 1, 1) by decide +kernel) rfl
  · exact x_iconst_ok (show decode cX8_findings 1 = .ok (.iconst 1, 1) by decide +kernel) (by decide)
  · exact x_cmplt_ok (show decode cX8_findings 2 = .ok (.if_icmp .lt 8, 3) by decide +kernel) (by decide)
  · exact x_iload_n_ok (show decode cX8_findings 5 = .ok (.iload_n 1, 1) by decide +kernel) rfl
  · exact x_iconst_ok (show decode cX8_findings 6 = .ok (.iconst 5, 1) by decide +kernel) (by decide)
  · exact x_cmple_ok (show decode cX8_findings 7 = .ok (.if_icmp .le 5, 3) by decide +kernel) (by decide)
  · exact x_iconst_ok (show decode cX8_findings 10 = .ok (.iconst (-1), 1) by decide +kernel) (by decide)
  · exact x_iret_ok (show decode cX8_findings 11 = .ok (.ireturn, 1) by decide +kernel)
  · exact x_aload_n_ok (show decode cX8_findings 12 = .ok (.aload_n 0, 1) by decide +kernel) rfl
  · exact x_getR_ok (ci := 6) (k := 8) rfl (by decide) (by decide) hw_230 (show decode cX8_findings 13 = .ok (.getfield 57, 3) by decide +kernel)
  · exact x_iload_n_ok (show decode cX8_findings 16 = .ok (.iload_n 1, 1) by decide +kernel) rfl
  · exact x_iald_ok (show decode cX8_findings 17 = .ok (.iaload, 1) by decide +kernel)
  · exact x_iret_ok (show decode cX8_findings 18 = .ok (.ireturn, 1) by decide +kernel)
noncomputable def FX8_findings : List Value → xS → Option xR := xden tX8_findings 2 (some .int) 0
theorem sX8_findings (l : Launch) : xSound l yX8_findings cX8_findings 2 (some .int) 1 0 FX8_findings := x_den (by decide) (tX8_findings_ok l)
noncomputable def tX9_findings : List (Nat × xO) := [(0, x_iload 1 1), (1, x_i2l), (2, x_push (.long 1) 1), (3, x_push (.long 5) 3), (6, x_call 0 3 FX9_in), (9, x_ifeq 21), (12, x_aload 0 1), (13, x_getR 7 9), (16, x_iload 1 1), (17, x_iald), (18, x_goto 22), (21, x_push (.int (-1)) 1), (22, x_iret)]
set_option maxRecDepth 100000 in
theorem tX9_findings_ok (l : Launch) : ∀ q ∈ tX9_findings, xOK l cX9_findings RX9 2 2 0 (yX9_findings.name = "<init>") q.1 q.2 := by
  unfold tX9_findings
  refine List.forall_mem_cons.mpr ⟨?_, List.forall_mem_cons.mpr ⟨?_, List.forall_mem_cons.mpr ⟨?_, List.forall_mem_cons.mpr ⟨?_, List.forall_mem_cons.mpr ⟨?_, List.forall_mem_cons.mpr ⟨?_, List.forall_mem_cons.mpr ⟨?_, List.forall_mem_cons.mpr ⟨?_, List.forall_mem_cons.mpr ⟨?_, List.forall_mem_cons.mpr ⟨?_, List.forall_mem_cons.mpr ⟨?_, List.forall_mem_cons.mpr ⟨?_, List.forall_mem_cons.mpr ⟨?_, fun _ h => absurd h List.not_mem_nil⟩⟩⟩⟩⟩⟩⟩⟩⟩⟩⟩⟩⟩
  · exact x_iload_n_ok (show decode cX9_findings 0 = .ok (.iload_n 1, 1) by decide +kernel) rfl
  · exact x_i2l_ok (show decode cX9_findings 1 = .ok (.i2l, 1) by decide +kernel)
  · exact x_lconst_ok (show decode cX9_findings 2 = .ok (.lconst 1, 1) by decide +kernel) rfl
  · exact x_ldc2_ok (show decode cX9_findings 3 = .ok (.ldc2_w 58, 3) by decide +kernel) hw_915
  · exact x_callS_ok (sX9_in l) hw_918 hw_916 hw_917 hw_68 ⟨by decide, by decide, by decide +kernel⟩ (by decide) (by decide) (show decode cX9_findings 6 = .ok (.invokestatic 60, 3) by decide +kernel)
  · exact x_ifeq_ok (show decode cX9_findings 9 = .ok (.ifCond .eq 12, 3) by decide +kernel) (by decide)
  · exact x_aload_n_ok (show decode cX9_findings 12 = .ok (.aload_n 0, 1) by decide +kernel) rfl
  · exact x_getR_ok (ci := 7) (k := 9) rfl (by decide) (by decide) hw_853 (show decode cX9_findings 13 = .ok (.getfield 29, 3) by decide +kernel)
  · exact x_iload_n_ok (show decode cX9_findings 16 = .ok (.iload_n 1, 1) by decide +kernel) rfl
  · exact x_iald_ok (show decode cX9_findings 17 = .ok (.iaload, 1) by decide +kernel)
  · exact x_goto_ok (show decode cX9_findings 18 = .ok (.goto 4, 3) by decide +kernel) (by decide)
  · exact x_iconst_ok (show decode cX9_findings 21 = .ok (.iconst (-1), 1) by decide +kernel) (by decide)
  · exact x_iret_ok (show decode cX9_findings 22 = .ok (.ireturn, 1) by decide +kernel)
noncomputable def FX9_findings : List Value → xS → Option xR := xden tX9_findings 2 (some .int) 0
theorem sX9_findings (l : Launch) : xSound l yX9_findings cX9_findings 2 (some .int) 2 0 FX9_findings := x_den (by decide) (tX9_findings_ok l)
noncomputable def tX5_digestOnto : List (Nat × xO) := [(0, x_push (.long 31) 3), (3, x_lload 1 1), (4, x_ll (fun x y => x * y)), (5, x_aload 0 1), (6, x_getI 4 1), (9, x_i2l), (10, x_ll (fun x y => x + y)), (11, x_lstore 1 1), (12, x_push (.int (nI 0)) 1), (13, x_istore 3 1), (14, x_iload 3 1), (15, x_aload 0 1), (16, x_getI 4 1), (19, x_cmpge 42), (22, x_push (.long 31) 3), (25, x_lload 1 1), (26, x_ll (fun x y => x * y)), (27, x_aload 0 1), (28, x_getR 4 0), (31, x_iload 3 1), (32, x_iald), (33, x_i2l), (34, x_ll (fun x y => x + y)), (35, x_lstore 1 1), (36, x_iinc 3 (nI 1)), (39, x_goto 14), (42, x_lload 1 1), (43, x_lret)]
set_option maxRecDepth 100000 in
theorem tX5_digestOnto_ok (l : Launch) : ∀ q ∈ tX5_digestOnto, xOK l cX5_digestOnto RX5 4 1 0 (yX5_digestOnto.name = "<init>") q.1 q.2 := by
  unfold tX5_digestOnto
  refine List.forall_mem_cons.mpr ⟨?_, List.forall_mem_cons.mpr ⟨?_, List.forall_mem_cons.mpr ⟨?_, List.forall_mem_cons.mpr ⟨?_, List.forall_mem_cons.mpr ⟨?_, List.forall_mem_cons.mpr ⟨?_, List.forall_mem_cons.mpr ⟨?_, List.forall_mem_cons.mpr ⟨?_, List.forall_mem_cons.mpr ⟨?_, List.forall_mem_cons.mpr ⟨?_, List.forall_mem_cons.mpr ⟨?_, List.forall_mem_cons.mpr ⟨?_, List.forall_mem_cons.mpr ⟨?_, List.forall_mem_cons.mpr ⟨?_, List.forall_mem_cons.mpr ⟨?_, List.forall_mem_cons.mpr ⟨?_, List.forall_mem_cons.mpr ⟨?_, List.forall_mem_cons.mpr ⟨?_, List.forall_mem_cons.mpr ⟨?_, List.forall_mem_cons.mpr ⟨?_, List.forall_mem_cons.mpr ⟨?_, List.forall_mem_cons.mpr ⟨?_, List.forall_mem_cons.mpr ⟨?_, List.forall_mem_cons.mpr ⟨?_, List.forall_mem_cons.mpr ⟨?_, List.forall_mem_cons.mpr ⟨?_, List.forall_mem_cons.mpr ⟨?_, List.forall_mem_cons.mpr ⟨?_, fun _ h => absurd h List.not_mem_nil⟩⟩⟩⟩⟩⟩⟩⟩⟩⟩⟩⟩⟩⟩⟩⟩⟩⟩⟩⟩⟩⟩⟩⟩⟩⟩⟩⟩
  · exact x_ldc2_ok (show decode cX5_digestOnto 0 = .ok (.ldc2_w 23, 3) by decide +kernel) hw_832
  · exact x_lload_n_ok (show decode cX5_digestOnto 3 = .ok (.lload_n 1, 1) by decide +kernel) rfl
  · exact x_lmul_ok (show decode cX5_digestOnto 4 = .ok (.lmul, 1) by decide +kernel)
  · exact x_aload_n_ok (show decode cX5_digestOnto 5 = .ok (.aload_n 0, 1) by decide +kernel) rfl
  · exact x_getI_ok (ci := 4) (k := 1) rfl (by decide) (by decide) hw_97 (show decode cX5_digestOnto 6 = .ok (.getfield 13, 3) by decide +kernel)
  · exact x_i2l_ok (show decode cX5_digestOnto 9 = .ok (.i2l, 1) by decide +kernel)
  · exact x_ladd_ok (show decode cX5_digestOnto 10 = .ok (.ladd, 1) by decide +kernel)
  · exact x_lstore_n_ok (show decode cX5_digestOnto 11 = .ok (.lstore_n 1, 1) by decide +kernel) rfl (by decide)
  · exact x_iconst_ok (show decode cX5_digestOnto 12 = .ok (.iconst 0, 1) by decide +kernel) (by decide)
  · exact x_istore_n_ok (show decode cX5_digestOnto 13 = .ok (.istore_n 3, 1) by decide +kernel) rfl (by decide)
  · exact x_iload_n_ok (show decode cX5_digestOnto 14 = .ok (.iload_n 3, 1) by decide +kernel) rfl
  · exact x_aload_n_ok (show decode cX5_digestOnto 15 = .ok (.aload_n 0, 1) by decide +kernel) rfl
  · exact x_getI_ok (ci := 4) (k := 1) rfl (by decide) (by decide) hw_97 (show decode cX5_digestOnto 16 = .ok (.getfield 13, 3) by decide +kernel)
  · exact x_cmpge_ok (show decode cX5_digestOnto 19 = .ok (.if_icmp .ge 23, 3) by decide +kernel) (by decide)
  · exact x_ldc2_ok (show decode cX5_digestOnto 22 = .ok (.ldc2_w 23, 3) by decide +kernel) hw_832
  · exact x_lload_n_ok (show decode cX5_digestOnto 25 = .ok (.lload_n 1, 1) by decide +kernel) rfl
  · exact x_lmul_ok (show decode cX5_digestOnto 26 = .ok (.lmul, 1) by decide +kernel)
  · exact x_aload_n_ok (show decode cX5_digestOnto 27 = .ok (.aload_n 0, 1) by decide +kernel) rfl
  · exact x_getR_ok (ci := 4) (k := 0) rfl (by decide) (by decide) hw_93 (show decode cX5_digestOnto 28 = .ok (.getfield 9, 3) by decide +kernel)
  · exact x_iload_n_ok (show decode cX5_digestOnto 31 = .ok (.iload_n 3, 1) by decide +kernel) rfl
  · exact x_iald_ok (show decode cX5_digestOnto 32 = .ok (.iaload, 1) by decide +kernel)
  · exact x_i2l_ok (show decode cX5_digestOnto 33 = .ok (.i2l, 1) by decide +kernel)
  · exact x_ladd_ok (show decode cX5_digestOnto 34 = .ok (.ladd, 1) by decide +kernel)
  · exact x_lstore_n_ok (show decode cX5_digestOnto 35 = .ok (.lstore_n 1, 1) by decide +kernel) rfl (by decide)
  · exact x_iinc_ok (show decode cX5_digestOnto 36 = .ok (.iinc 3 1, 3) by decide +kernel) (by decide) (by decide)
  · exact x_goto_ok (show decode cX5_digestOnto 39 = .ok (.goto (-25), 3) by decide +kernel) (by decide)
  · exact x_lload_n_ok (show decode cX5_digestOnto 42 = .ok (.lload_n 1, 1) by decide +kernel) rfl
  · exact x_lret_ok (show decode cX5_digestOnto 43 = .ok (.lreturn, 1) by decide +kernel)
noncomputable def FX5_digestOnto : List Value → xS → Option xR := xden tX5_digestOnto 4 (some .long) 0
theorem sX5_digestOnto (l : Launch) : xSound l yX5_digestOnto cX5_digestOnto 4 (some .long) 1 0 FX5_digestOnto := x_den (by decide) (tX5_digestOnto_ok l)
noncomputable def tX7_digestOnto : List (Nat × xO) := [(0, x_push (.long 31) 3), (3, x_lload 1 1), (4, x_ll (fun x y => x * y)), (5, x_aload 0 1), (6, x_getI 5 1), (9, x_i2l), (10, x_ll (fun x y => x + y)), (11, x_lstore 1 1), (12, x_push (.int (nI 0)) 1), (13, x_istore 3 1), (14, x_iload 3 1), (15, x_aload 0 1), (16, x_getI 5 1), (19, x_cmpge 42), (22, x_push (.long 31) 3), (25, x_lload 1 1), (26, x_ll (fun x y => x * y)), (27, x_aload 0 1), (28, x_getR 5 0), (31, x_iload 3 1), (32, x_bald), (33, x_i2l), (34, x_ll (fun x y => x + y)), (35, x_lstore 1 1), (36, x_iinc 3 (nI 1)), (39, x_goto 14), (42, x_lload 1 1), (43, x_lret)]
set_option maxRecDepth 100000 in
theorem tX7_digestOnto_ok (l : Launch) : ∀ q ∈ tX7_digestOnto, xOK l cX7_digestOnto RX7 4 1 0 (yX7_digestOnto.name = "<init>") q.1 q.2 := by
  unfold tX7_digestOnto
  refine List.forall_mem_cons.mpr ⟨?_, List.forall_mem_cons.mpr ⟨?_, List.forall_mem_cons.mpr ⟨?_, List.forall_mem_cons.mpr ⟨?_, List.forall_mem_cons.mpr ⟨?_, List.forall_mem_cons.mpr ⟨?_, List.forall_mem_cons.mpr ⟨?_, List.forall_mem_cons.mpr ⟨?_, List.forall_mem_cons.mpr ⟨?_, List.forall_mem_cons.mpr ⟨?_, List.forall_mem_cons.mpr ⟨?_, List.forall_mem_cons.mpr ⟨?_, List.forall_mem_cons.mpr ⟨?_, List.forall_mem_cons.mpr ⟨?_, List.forall_mem_cons.mpr ⟨?_, List.forall_mem_cons.mpr ⟨?_, List.forall_mem_cons.mpr ⟨?_, List.forall_mem_cons.mpr ⟨?_, List.forall_mem_cons.mpr ⟨?_, List.forall_mem_cons.mpr ⟨?_, List.forall_mem_cons.mpr ⟨?_, List.forall_mem_cons.mpr ⟨?_, List.forall_mem_cons.mpr ⟨?_, List.forall_mem_cons.mpr ⟨?_, List.forall_mem_cons.mpr ⟨?_, List.forall_mem_cons.mpr ⟨?_, List.forall_mem_cons.mpr ⟨?_, List.forall_mem_cons.mpr ⟨?_, fun _ h => absurd h List.not_mem_nil⟩⟩⟩⟩⟩⟩⟩⟩⟩⟩⟩⟩⟩⟩⟩⟩⟩⟩⟩⟩⟩⟩⟩⟩⟩⟩⟩⟩
  · exact x_ldc2_ok (show decode cX7_digestOnto 0 = .ok (.ldc2_w 83, 3) by decide +kernel) hw_837
  · exact x_lload_n_ok (show decode cX7_digestOnto 3 = .ok (.lload_n 1, 1) by decide +kernel) rfl
  · exact x_lmul_ok (show decode cX7_digestOnto 4 = .ok (.lmul, 1) by decide +kernel)
  · exact x_aload_n_ok (show decode cX7_digestOnto 5 = .ok (.aload_n 0, 1) by decide +kernel) rfl
  · exact x_getI_ok (ci := 5) (k := 1) rfl (by decide) (by decide) hw_116 (show decode cX7_digestOnto 6 = .ok (.getfield 15, 3) by decide +kernel)
  · exact x_i2l_ok (show decode cX7_digestOnto 9 = .ok (.i2l, 1) by decide +kernel)
  · exact x_ladd_ok (show decode cX7_digestOnto 10 = .ok (.ladd, 1) by decide +kernel)
  · exact x_lstore_n_ok (show decode cX7_digestOnto 11 = .ok (.lstore_n 1, 1) by decide +kernel) rfl (by decide)
  · exact x_iconst_ok (show decode cX7_digestOnto 12 = .ok (.iconst 0, 1) by decide +kernel) (by decide)
  · exact x_istore_n_ok (show decode cX7_digestOnto 13 = .ok (.istore_n 3, 1) by decide +kernel) rfl (by decide)
  · exact x_iload_n_ok (show decode cX7_digestOnto 14 = .ok (.iload_n 3, 1) by decide +kernel) rfl
  · exact x_aload_n_ok (show decode cX7_digestOnto 15 = .ok (.aload_n 0, 1) by decide +kernel) rfl
  · exact x_getI_ok (ci := 5) (k := 1) rfl (by decide) (by decide) hw_116 (show decode cX7_digestOnto 16 = .ok (.getfield 15, 3) by decide +kernel)
  · exact x_cmpge_ok (show decode cX7_digestOnto 19 = .ok (.if_icmp .ge 23, 3) by decide +kernel) (by decide)
  · exact x_ldc2_ok (show decode cX7_digestOnto 22 = .ok (.ldc2_w 83, 3) by decide +kernel) hw_837
  · exact x_lload_n_ok (show decode cX7_digestOnto 25 = .ok (.lload_n 1, 1) by decide +kernel) rfl
  · exact x_lmul_ok (show decode cX7_digestOnto 26 = .ok (.lmul, 1) by decide +kernel)
  · exact x_aload_n_ok (show decode cX7_digestOnto 27 = .ok (.aload_n 0, 1) by decide +kernel) rfl
  · exact x_getR_ok (ci := 5) (k := 0) rfl (by decide) (by decide) hw_114 (show decode cX7_digestOnto 28 = .ok (.getfield 11, 3) by decide +kernel)
  · exact x_iload_n_ok (show decode cX7_digestOnto 31 = .ok (.iload_n 3, 1) by decide +kernel) rfl
  · exact x_bald_ok (show decode cX7_digestOnto 32 = .ok (.baload, 1) by decide +kernel)
  · exact x_i2l_ok (show decode cX7_digestOnto 33 = .ok (.i2l, 1) by decide +kernel)
  · exact x_ladd_ok (show decode cX7_digestOnto 34 = .ok (.ladd, 1) by decide +kernel)
  · exact x_lstore_n_ok (show decode cX7_digestOnto 35 = .ok (.lstore_n 1, 1) by decide +kernel) rfl (by decide)
  · exact x_iinc_ok (show decode cX7_digestOnto 36 = .ok (.iinc 3 1, 3) by decide +kernel) (by decide) (by decide)
  · exact x_goto_ok (show decode cX7_digestOnto 39 = .ok (.goto (-25), 3) by decide +kernel) (by decide)
  · exact x_lload_n_ok (show decode cX7_digestOnto 42 = .ok (.lload_n 1, 1) by decide +kernel) rfl
  · exact x_lret_ok (show decode cX7_digestOnto 43 = .ok (.lreturn, 1) by decide +kernel)
noncomputable def FX7_digestOnto : List Value → xS → Option xR := xden tX7_digestOnto 4 (some .long) 0
theorem sX7_digestOnto (l : Launch) : xSound l yX7_digestOnto cX7_digestOnto 4 (some .long) 1 0 FX7_digestOnto := x_den (by decide) (tX7_digestOnto_ok l)
noncomputable def tX8_digest : List (Nat × xO) := [(0, x_push (.long 17) 3), (3, x_lstore 1 1), (4, x_push (.int (nI 0)) 1), (5, x_istore 3 1), (6, x_iload 3 1), (7, x_push (.int (nI 9)) 2), (9, x_cmpge 31), (12, x_push (.long 31) 3), (15, x_lload 1 1), (16, x_ll (fun x y => x * y)), (17, x_aload 0 1), (18, x_iload 3 1), (19, x_callV 6 0 2 FX8_count), (22, x_i2l), (23, x_ll (fun x y => x + y)), (24, x_lstore 1 1), (25, x_iinc 3 (nI 1)), (28, x_goto 6), (31, x_push (.int (nI 0)) 1), (32, x_istore 3 1), (33, x_iload 3 1), (34, x_aload 0 1), (35, x_getR 6 2), (38, x_getI 3 1), (41, x_cmpge 81), (44, x_push (.int (nI 0)) 1), (45, x_istore 4 2), (47, x_iload 4 2), (49, x_push (.int (nI 7)) 2), (51, x_cmpge 75), (54, x_push (.long 31) 3), (57, x_lload 1 1), (58, x_ll (fun x y => x * y)), (59, x_aload 0 1), (60, x_iload 3 1), (61, x_iload 4 2), (63, x_callV 6 0 3 FX8_tellOf), (66, x_i2l), (67, x_ll (fun x y => x + y)), (68, x_lstore 1 1), (69, x_iinc 4 (nI 1)), (72, x_goto 47), (75, x_iinc 3 (nI 1)), (78, x_goto 33), (81, x_push (.int (nI 0)) 1), (82, x_istore 3 1), (83, x_iload 3 1), (84, x_push (.int (nI 3)) 1), (85, x_cmpge 127), (88, x_push (.long 31) 3), (91, x_lload 1 1), (92, x_ll (fun x y => x * y)), (93, x_aload 0 1), (94, x_getR 6 3), (97, x_iload 3 1), (98, x_aald), (99, x_getI 3 1), (102, x_ifne 109), (105, x_push (.int (-1)) 1), (106, x_goto 118), (109, x_aload 0 1), (110, x_getR 6 3), (113, x_iload 3 1), (114, x_aald), (115, x_getI 3 3), (118, x_i2l), (119, x_ll (fun x y => x + y)), (120, x_lstore 1 1), (121, x_iinc 3 (nI 1)), (124, x_goto 83), (127, x_push (.int (nI 0)) 1), (128, x_istore 3 1), (129, x_iload 3 1), (130, x_push (.int (nI 6)) 2), (132, x_cmpge 152), (135, x_aload 0 1), (136, x_getR 6 0), (139, x_iload 3 1), (140, x_aald), (141, x_lload 1 1), (142, x_callV 4 0 2 FX5_digestOnto), (145, x_lstore 1 1), (146, x_iinc 3 (nI 1)), (149, x_goto 129), (152, x_push (.int (nI 0)) 1), (153, x_istore 3 1), (154, x_iload 3 1), (155, x_push (.int (nI 4)) 1), (156, x_cmpge 176), (159, x_aload 0 1), (160, x_getR 6 1), (163, x_iload 3 1), (164, x_aald), (165, x_lload 1 1), (166, x_callV 5 0 2 FX7_digestOnto), (169, x_lstore 1 1), (170, x_iinc 3 (nI 1)), (173, x_goto 154), (176, x_lload 1 1), (177, x_lret)]
set_option maxRecDepth 100000 in
theorem tX8_digest_ok (l : Launch) : ∀ q ∈ tX8_digest, xOK l cX8_digest RX8 5 6 0 (yX8_digest.name = "<init>") q.1 q.2 := by
  unfold tX8_digest
  refine List.forall_mem_cons.mpr ⟨?_, List.forall_mem_cons.mpr ⟨?_, List.forall_mem_cons.mpr ⟨?_, List.forall_mem_cons.mpr ⟨?_, List.forall_mem_cons.mpr ⟨?_, List.forall_mem_cons.mpr ⟨?_, List.forall_mem_cons.mpr ⟨?_, List.forall_mem_cons.mpr ⟨?_, List.forall_mem_cons.mpr ⟨?_, List.forall_mem_cons.mpr ⟨?_, List.forall_mem_cons.mpr ⟨?_, List.forall_mem_cons.mpr ⟨?_, List.forall_mem_cons.mpr ⟨?_, List.forall_mem_cons.mpr ⟨?_, List.forall_mem_cons.mpr ⟨?_, List.forall_mem_cons.mpr ⟨?_, List.forall_mem_cons.mpr ⟨?_, List.forall_mem_cons.mpr ⟨?_, List.forall_mem_cons.mpr ⟨?_, List.forall_mem_cons.mpr ⟨?_, List.forall_mem_cons.mpr ⟨?_, List.forall_mem_cons.mpr ⟨?_, List.forall_mem_cons.mpr ⟨?_, List.forall_mem_cons.mpr ⟨?_, List.forall_mem_cons.mpr ⟨?_, List.forall_mem_cons.mpr ⟨?_, List.forall_mem_cons.mpr ⟨?_, List.forall_mem_cons.mpr ⟨?_, List.forall_mem_cons.mpr ⟨?_, List.forall_mem_cons.mpr ⟨?_, List.forall_mem_cons.mpr ⟨?_, List.forall_mem_cons.mpr ⟨?_, List.forall_mem_cons.mpr ⟨?_, List.forall_mem_cons.mpr ⟨?_, List.forall_mem_cons.mpr ⟨?_, List.forall_mem_cons.mpr ⟨?_, List.forall_mem_cons.mpr ⟨?_, List.forall_mem_cons.mpr ⟨?_, List.forall_mem_cons.mpr ⟨?_, List.forall_mem_cons.mpr ⟨?_, List.forall_mem_cons.mpr ⟨?_, List.forall_mem_cons.mpr ⟨?_, List.forall_mem_cons.mpr ⟨?_, List.forall_mem_cons.mpr ⟨?_, List.forall_mem_cons.mpr ⟨?_, List.forall_mem_cons.mpr ⟨?_, List.forall_mem_cons.mpr ⟨?_, List.forall_mem_cons.mpr ⟨?_, List.forall_mem_cons.mpr ⟨?_, List.forall_mem_cons.mpr ⟨?_, List.forall_mem_cons.mpr ⟨?_, List.forall_mem_cons.mpr ⟨?_, List.forall_mem_cons.mpr ⟨?_, List.forall_mem_cons.mpr ⟨?_, List.forall_mem_cons.mpr ⟨?_, List.forall_mem_cons.mpr ⟨?_, List.forall_mem_cons.mpr ⟨?_, List.forall_mem_cons.mpr ⟨?_, List.forall_mem_cons.mpr ⟨?_, List.forall_mem_cons.mpr ⟨?_, List.forall_mem_cons.mpr ⟨?_, List.forall_mem_cons.mpr ⟨?_, List.forall_mem_cons.mpr ⟨?_, List.forall_mem_cons.mpr ⟨?_, List.forall_mem_cons.mpr ⟨?_, List.forall_mem_cons.mpr ⟨?_, List.forall_mem_cons.mpr ⟨?_, List.forall_mem_cons.mpr ⟨?_, List.forall_mem_cons.mpr ⟨?_, List.forall_mem_cons.mpr ⟨?_, List.forall_mem_cons.mpr ⟨?_, List.forall_mem_cons.mpr ⟨?_, List.forall_mem_cons.mpr ⟨?_, List.forall_mem_cons.mpr ⟨?_, List.forall_mem_cons.mpr ⟨?_, List.forall_mem_cons.mpr ⟨?_, List.forall_mem_cons.mpr ⟨?_, List.forall_mem_cons.mpr ⟨?_, List.forall_mem_cons.mpr ⟨?_, List.forall_mem_cons.mpr ⟨?_, List.forall_mem_cons.mpr ⟨?_, List.forall_mem_cons.mpr ⟨?_, List.forall_mem_cons.mpr ⟨?_, List.forall_mem_cons.mpr ⟨?_, List.forall_mem_cons.mpr ⟨?_, List.forall_mem_cons.mpr ⟨?_, List.forall_mem_cons.mpr ⟨?_, List.forall_mem_cons.mpr ⟨?_, List.forall_mem_cons.mpr ⟨?_, List.forall_mem_cons.mpr ⟨?_, List.forall_mem_cons.mpr ⟨?_, List.forall_mem_cons.mpr ⟨?_, List.forall_mem_cons.mpr ⟨?_, List.forall_mem_cons.mpr ⟨?_, List.forall_mem_cons.mpr ⟨?_, List.forall_mem_cons.mpr ⟨?_, List.forall_mem_cons.mpr ⟨?_, List.forall_mem_cons.mpr ⟨?_, List.forall_mem_cons.mpr ⟨?_, List.forall_mem_cons.mpr ⟨?_, fun _ h => absurd h List.not_mem_nil⟩⟩⟩⟩⟩⟩⟩⟩⟩⟩⟩⟩⟩⟩⟩⟩⟩⟩⟩⟩⟩⟩⟩⟩⟩⟩⟩⟩⟩⟩⟩⟩⟩⟩⟩⟩⟩⟩⟩⟩⟩⟩⟩⟩⟩⟩⟩⟩⟩⟩⟩⟩⟩⟩⟩⟩⟩⟩⟩⟩⟩⟩⟩⟩⟩⟩⟩⟩⟩⟩⟩⟩⟩⟩⟩⟩⟩⟩⟩⟩⟩⟩⟩⟩⟩⟩⟩⟩⟩⟩⟩⟩⟩⟩⟩⟩⟩⟩⟩⟩
  · exact x_ldc2_ok (show decode cX8_digest 0 = .ok (.ldc2_w 310, 3) by decide +kernel) hw_825
  · exact x_lstore_n_ok (show decode cX8_digest 3 = .ok (.lstore_n 1, 1) by decide +kernel) rfl (by decide)
  · exact x_iconst_ok (show decode cX8_digest 4 = .ok (.iconst 0, 1) by decide +kernel) (by decide)
  · exact x_istore_n_ok (show decode cX8_digest 5 = .ok (.istore_n 3, 1) by decide +kernel) rfl (by decide)
  · exact x_iload_n_ok (show decode cX8_digest 6 = .ok (.iload_n 3, 1) by decide +kernel) rfl
  · exact x_bipush_ok (show decode cX8_digest 7 = .ok (.bipush 9, 2) by decide +kernel) (by decide)
  · exact x_cmpge_ok (show decode cX8_digest 9 = .ok (.if_icmp .ge 22, 3) by decide +kernel) (by decide)
  · exact x_ldc2_ok (show decode cX8_digest 12 = .ok (.ldc2_w 312, 3) by decide +kernel) hw_826
  · exact x_lload_n_ok (show decode cX8_digest 15 = .ok (.lload_n 1, 1) by decide +kernel) rfl
  · exact x_lmul_ok (show decode cX8_digest 16 = .ok (.lmul, 1) by decide +kernel)
  · exact x_aload_n_ok (show decode cX8_digest 17 = .ok (.aload_n 0, 1) by decide +kernel) rfl
  · exact x_iload_n_ok (show decode cX8_digest 18 = .ok (.iload_n 3, 1) by decide +kernel) rfl
  · exact x_callV_ok (ci := 6) rfl (by decide) (sX8_count l) hw_787 hw_827 hw_785 hw_786 hw_61 ⟨by decide, by decide, by decide +kernel⟩ rfl (by decide) (by decide) (show decode cX8_digest 19 = .ok (.invokevirtual 314, 3) by decide +kernel)
  · exact x_i2l_ok (show decode cX8_digest 22 = .ok (.i2l, 1) by decide +kernel)
  · exact x_ladd_ok (show decode cX8_digest 23 = .ok (.ladd, 1) by decide +kernel)
  · exact x_lstore_n_ok (show decode cX8_digest 24 = .ok (.lstore_n 1, 1) by decide +kernel) rfl (by decide)
  · exact x_iinc_ok (show decode cX8_digest 25 = .ok (.iinc 3 1, 3) by decide +kernel) (by decide) (by decide)
  · exact x_goto_ok (show decode cX8_digest 28 = .ok (.goto (-22), 3) by decide +kernel) (by decide)
  · exact x_iconst_ok (show decode cX8_digest 31 = .ok (.iconst 0, 1) by decide +kernel) (by decide)
  · exact x_istore_n_ok (show decode cX8_digest 32 = .ok (.istore_n 3, 1) by decide +kernel) rfl (by decide)
  · exact x_iload_n_ok (show decode cX8_digest 33 = .ok (.iload_n 3, 1) by decide +kernel) rfl
  · exact x_aload_n_ok (show decode cX8_digest 34 = .ok (.aload_n 0, 1) by decide +kernel) rfl
  · exact x_getR_ok (ci := 6) (k := 2) rfl (by decide) (by decide) hw_224 (show decode cX8_digest 35 = .ok (.getfield 26, 3) by decide +kernel)
  · exact x_getI_ok (ci := 3) (k := 1) rfl (by decide) (by decide) hw_177 (show decode cX8_digest 38 = .ok (.getfield 133, 3) by decide +kernel)
  · exact x_cmpge_ok (show decode cX8_digest 41 = .ok (.if_icmp .ge 40, 3) by decide +kernel) (by decide)
  · exact x_iconst_ok (show decode cX8_digest 44 = .ok (.iconst 0, 1) by decide +kernel) (by decide)
  · exact x_istore_ok (show decode cX8_digest 45 = .ok (.istore 4, 2) by decide +kernel) (by decide)
  · exact x_iload_ok (show decode cX8_digest 47 = .ok (.iload 4, 2) by decide +kernel)
  · exact x_bipush_ok (show decode cX8_digest 49 = .ok (.bipush 7, 2) by decide +kernel) (by decide)
  · exact x_cmpge_ok (show decode cX8_digest 51 = .ok (.if_icmp .ge 24, 3) by decide +kernel) (by decide)
  · exact x_ldc2_ok (show decode cX8_digest 54 = .ok (.ldc2_w 312, 3) by decide +kernel) hw_826
  · exact x_lload_n_ok (show decode cX8_digest 57 = .ok (.lload_n 1, 1) by decide +kernel) rfl
  · exact x_lmul_ok (show decode cX8_digest 58 = .ok (.lmul, 1) by decide +kernel)
  · exact x_aload_n_ok (show decode cX8_digest 59 = .ok (.aload_n 0, 1) by decide +kernel) rfl
  · exact x_iload_n_ok (show decode cX8_digest 60 = .ok (.iload_n 3, 1) by decide +kernel) rfl
  · exact x_iload_ok (show decode cX8_digest 61 = .ok (.iload 4, 2) by decide +kernel)
  · exact x_callV_ok (ci := 6) rfl (by decide) (sX8_tellOf l) hw_449 hw_446 hw_448 hw_7 hw_61 ⟨by decide, by decide, by decide +kernel⟩ rfl (by decide) (by decide) (show decode cX8_digest 63 = .ok (.invokevirtual 134, 3) by decide +kernel)
  · exact x_i2l_ok (show decode cX8_digest 66 = .ok (.i2l, 1) by decide +kernel)
  · exact x_ladd_ok (show decode cX8_digest 67 = .ok (.ladd, 1) by decide +kernel)
  · exact x_lstore_n_ok (show decode cX8_digest 68 = .ok (.lstore_n 1, 1) by decide +kernel) rfl (by decide)
  · exact x_iinc_ok (show decode cX8_digest 69 = .ok (.iinc 4 1, 3) by decide +kernel) (by decide) (by decide)
  · exact x_goto_ok (show decode cX8_digest 72 = .ok (.goto (-25), 3) by decide +kernel) (by decide)
  · exact x_iinc_ok (show decode cX8_digest 75 = .ok (.iinc 3 1, 3) by decide +kernel) (by decide) (by decide)
  · exact x_goto_ok (show decode cX8_digest 78 = .ok (.goto (-45), 3) by decide +kernel) (by decide)
  · exact x_iconst_ok (show decode cX8_digest 81 = .ok (.iconst 0, 1) by decide +kernel) (by decide)
  · exact x_istore_n_ok (show decode cX8_digest 82 = .ok (.istore_n 3, 1) by decide +kernel) rfl (by decide)
  · exact x_iload_n_ok (show decode cX8_digest 83 = .ok (.iload_n 3, 1) by decide +kernel) rfl
  · exact x_iconst_ok (show decode cX8_digest 84 = .ok (.iconst 3, 1) by decide +kernel) (by decide)
  · exact x_cmpge_ok (show decode cX8_digest 85 = .ok (.if_icmp .ge 42, 3) by decide +kernel) (by decide)
  · exact x_ldc2_ok (show decode cX8_digest 88 = .ok (.ldc2_w 312, 3) by decide +kernel) hw_826
  · exact x_lload_n_ok (show decode cX8_digest 91 = .ok (.lload_n 1, 1) by decide +kernel) rfl
  · exact x_lmul_ok (show decode cX8_digest 92 = .ok (.lmul, 1) by decide +kernel)
  · exact x_aload_n_ok (show decode cX8_digest 93 = .ok (.aload_n 0, 1) by decide +kernel) rfl
  · exact x_getR_ok (ci := 6) (k := 3) rfl (by decide) (by decide) hw_225 (show decode cX8_digest 94 = .ok (.getfield 30, 3) by decide +kernel)
  · exact x_iload_n_ok (show decode cX8_digest 97 = .ok (.iload_n 3, 1) by decide +kernel) rfl
  · exact x_aald_ok (show decode cX8_digest 98 = .ok (.aaload, 1) by decide +kernel)
  · exact x_getI_ok (ci := 3) (k := 1) rfl (by decide) (by decide) hw_177 (show decode cX8_digest 99 = .ok (.getfield 133, 3) by decide +kernel)
  · exact x_ifne_ok (show decode cX8_digest 102 = .ok (.ifCond .ne 7, 3) by decide +kernel) (by decide)
  · exact x_iconst_ok (show decode cX8_digest 105 = .ok (.iconst (-1), 1) by decide +kernel) (by decide)
  · exact x_goto_ok (show decode cX8_digest 106 = .ok (.goto 12, 3) by decide +kernel) (by decide)
  · exact x_aload_n_ok (show decode cX8_digest 109 = .ok (.aload_n 0, 1) by decide +kernel) rfl
  · exact x_getR_ok (ci := 6) (k := 3) rfl (by decide) (by decide) hw_225 (show decode cX8_digest 110 = .ok (.getfield 30, 3) by decide +kernel)
  · exact x_iload_n_ok (show decode cX8_digest 113 = .ok (.iload_n 3, 1) by decide +kernel) rfl
  · exact x_aald_ok (show decode cX8_digest 114 = .ok (.aaload, 1) by decide +kernel)
  · exact x_getI_ok (ci := 3) (k := 3) rfl (by decide) (by decide) hw_180 (show decode cX8_digest 115 = .ok (.getfield 172, 3) by decide +kernel)
  · exact x_i2l_ok (show decode cX8_digest 118 = .ok (.i2l, 1) by decide +kernel)
  · exact x_ladd_ok (show decode cX8_digest 119 = .ok (.ladd, 1) by decide +kernel)
  · exact x_lstore_n_ok (show decode cX8_digest 120 = .ok (.lstore_n 1, 1) by decide +kernel) rfl (by decide)
  · exact x_iinc_ok (show decode cX8_digest 121 = .ok (.iinc 3 1, 3) by decide +kernel) (by decide) (by decide)
  · exact x_goto_ok (show decode cX8_digest 124 = .ok (.goto (-41), 3) by decide +kernel) (by decide)
  · exact x_iconst_ok (show decode cX8_digest 127 = .ok (.iconst 0, 1) by decide +kernel) (by decide)
  · exact x_istore_n_ok (show decode cX8_digest 128 = .ok (.istore_n 3, 1) by decide +kernel) rfl (by decide)
  · exact x_iload_n_ok (show decode cX8_digest 129 = .ok (.iload_n 3, 1) by decide +kernel) rfl
  · exact x_bipush_ok (show decode cX8_digest 130 = .ok (.bipush 6, 2) by decide +kernel) (by decide)
  · exact x_cmpge_ok (show decode cX8_digest 132 = .ok (.if_icmp .ge 20, 3) by decide +kernel) (by decide)
  · exact x_aload_n_ok (show decode cX8_digest 135 = .ok (.aload_n 0, 1) by decide +kernel) rfl
  · exact x_getR_ok (ci := 6) (k := 0) rfl (by decide) (by decide) hw_222 (show decode cX8_digest 136 = .ok (.getfield 11, 3) by decide +kernel)
  · exact x_iload_n_ok (show decode cX8_digest 139 = .ok (.iload_n 3, 1) by decide +kernel) rfl
  · exact x_aald_ok (show decode cX8_digest 140 = .ok (.aaload, 1) by decide +kernel)
  · exact x_lload_n_ok (show decode cX8_digest 141 = .ok (.lload_n 1, 1) by decide +kernel) rfl
  · exact x_callV_ok (ci := 4) rfl (by decide) (sX5_digestOnto l) hw_831 hw_828 hw_829 hw_830 hw_62 ⟨by decide, by decide, by decide +kernel⟩ rfl (by decide) (by decide) (show decode cX8_digest 142 = .ok (.invokevirtual 317, 3) by decide +kernel)
  · exact x_lstore_n_ok (show decode cX8_digest 145 = .ok (.lstore_n 1, 1) by decide +kernel) rfl (by decide)
  · exact x_iinc_ok (show decode cX8_digest 146 = .ok (.iinc 3 1, 3) by decide +kernel) (by decide) (by decide)
  · exact x_goto_ok (show decode cX8_digest 149 = .ok (.goto (-20), 3) by decide +kernel) (by decide)
  · exact x_iconst_ok (show decode cX8_digest 152 = .ok (.iconst 0, 1) by decide +kernel) (by decide)
  · exact x_istore_n_ok (show decode cX8_digest 153 = .ok (.istore_n 3, 1) by decide +kernel) rfl (by decide)
  · exact x_iload_n_ok (show decode cX8_digest 154 = .ok (.iload_n 3, 1) by decide +kernel) rfl
  · exact x_iconst_ok (show decode cX8_digest 155 = .ok (.iconst 4, 1) by decide +kernel) (by decide)
  · exact x_cmpge_ok (show decode cX8_digest 156 = .ok (.if_icmp .ge 20, 3) by decide +kernel) (by decide)
  · exact x_aload_n_ok (show decode cX8_digest 159 = .ok (.aload_n 0, 1) by decide +kernel) rfl
  · exact x_getR_ok (ci := 6) (k := 1) rfl (by decide) (by decide) hw_223 (show decode cX8_digest 160 = .ok (.getfield 18, 3) by decide +kernel)
  · exact x_iload_n_ok (show decode cX8_digest 163 = .ok (.iload_n 3, 1) by decide +kernel) rfl
  · exact x_aald_ok (show decode cX8_digest 164 = .ok (.aaload, 1) by decide +kernel)
  · exact x_lload_n_ok (show decode cX8_digest 165 = .ok (.lload_n 1, 1) by decide +kernel) rfl
  · exact x_callV_ok (ci := 5) rfl (by decide) (sX7_digestOnto l) hw_836 hw_833 hw_834 hw_835 hw_63 ⟨by decide, by decide, by decide +kernel⟩ rfl (by decide) (by decide) (show decode cX8_digest 166 = .ok (.invokevirtual 321, 3) by decide +kernel)
  · exact x_lstore_n_ok (show decode cX8_digest 169 = .ok (.lstore_n 1, 1) by decide +kernel) rfl (by decide)
  · exact x_iinc_ok (show decode cX8_digest 170 = .ok (.iinc 3 1, 3) by decide +kernel) (by decide) (by decide)
  · exact x_goto_ok (show decode cX8_digest 173 = .ok (.goto (-19), 3) by decide +kernel) (by decide)
  · exact x_lload_n_ok (show decode cX8_digest 176 = .ok (.lload_n 1, 1) by decide +kernel) rfl
  · exact x_lret_ok (show decode cX8_digest 177 = .ok (.lreturn, 1) by decide +kernel)
noncomputable def FX8_digest : List Value → xS → Option xR := xden tX8_digest 5 (some .long) 0
theorem sX8_digest (l : Launch) : xSound l yX8_digest cX8_digest 5 (some .long) 6 0 FX8_digest := x_den (by decide) (tX8_digest_ok l)
noncomputable def tX9_digest : List (Nat × xO) := [(0, x_push (.long 17) 3), (3, x_lstore 1 1), (4, x_push (.int (nI 0)) 1), (5, x_istore 3 1), (6, x_iload 3 1), (7, x_push (.int (nI 9)) 2), (9, x_cmpge 31), (12, x_push (.long 31) 3), (15, x_lload 1 1), (16, x_ll (fun x y => x * y)), (17, x_aload 0 1), (18, x_iload 3 1), (19, x_callV 7 0 2 FX9_countOf), (22, x_i2l), (23, x_ll (fun x y => x + y)), (24, x_lstore 1 1), (25, x_iinc 3 (nI 1)), (28, x_goto 6), (31, x_push (.int (nI 0)) 1), (32, x_istore 3 1), (33, x_iload 3 1), (34, x_push (.int (nI 7)) 2), (36, x_aload 0 1), (37, x_getR 7 0), (40, x_push (.int (nI 1)) 1), (41, x_iald), (42, x_ii (fun x y => x * y)), (43, x_cmpge 72), (46, x_push (.long 31) 3), (49, x_lload 1 1), (50, x_ll (fun x y => x * y)), (51, x_aload 0 1), (52, x_iload 3 1), (53, x_push (.int (nI 7)) 2), (55, x_idiv), (56, x_iload 3 1), (57, x_push (.int (nI 7)) 2), (59, x_irem), (60, x_callV 7 0 3 FX9_toldOf), (63, x_i2l), (64, x_ll (fun x y => x + y)), (65, x_lstore 1 1), (66, x_iinc 3 (nI 1)), (69, x_goto 33), (72, x_push (.int (nI 1)) 1), (73, x_istore 3 1), (74, x_iload 3 1), (75, x_push (.int (nI 4)) 1), (76, x_cmpge 105), (79, x_push (.long 31) 3), (82, x_lload 1 1), (83, x_ll (fun x y => x * y)), (84, x_aload 0 1), (85, x_getR 7 0), (88, x_push (.int (nI 426)) 3), (91, x_iload 3 1), (92, x_ii (fun x y => x * y)), (93, x_push (.int (nI 0)) 1), (94, x_ii (fun x y => x + y)), (95, x_iald), (96, x_i2l), (97, x_ll (fun x y => x + y)), (98, x_lstore 1 1), (99, x_iinc 3 (nI 1)), (102, x_goto 74), (105, x_push (.int (nI 0)) 1), (106, x_istore 3 1), (107, x_iload 3 1), (108, x_push (.int (nI 6)) 2), (110, x_cmpge 173), (113, x_push (.long 31) 3), (116, x_lload 1 1), (117, x_ll (fun x y => x * y)), (118, x_aload 0 1), (119, x_getR 7 1), (122, x_iload 3 1), (123, x_iald), (124, x_i2l), (125, x_ll (fun x y => x + y)), (126, x_lstore 1 1), (127, x_push (.int (nI 0)) 1), (128, x_istore 4 2), (130, x_iload 4 2), (132, x_aload 0 1), (133, x_getR 7 1), (136, x_iload 3 1), (137, x_iald), (138, x_cmpge 167), (141, x_push (.long 31) 3), (144, x_lload 1 1), (145, x_ll (fun x y => x * y)), (146, x_aload 0 1), (147, x_getR 7 2), (150, x_push (.int (nI 40)) 2), (152, x_iload 3 1), (153, x_ii (fun x y => x * y)), (154, x_iload 4 2), (156, x_ii (fun x y => x + y)), (157, x_iald), (158, x_i2l), (159, x_ll (fun x y => x + y)), (160, x_lstore 1 1), (161, x_iinc 4 (nI 1)), (164, x_goto 130), (167, x_iinc 3 (nI 1)), (170, x_goto 107), (173, x_push (.int (nI 0)) 1), (174, x_istore 3 1), (175, x_iload 3 1), (176, x_push (.int (nI 4)) 1), (177, x_cmpge 240), (180, x_push (.long 31) 3), (183, x_lload 1 1), (184, x_ll (fun x y => x * y)), (185, x_aload 0 1), (186, x_getR 7 3), (189, x_iload 3 1), (190, x_iald), (191, x_i2l), (192, x_ll (fun x y => x + y)), (193, x_lstore 1 1), (194, x_push (.int (nI 0)) 1), (195, x_istore 4 2), (197, x_iload 4 2), (199, x_aload 0 1), (200, x_getR 7 3), (203, x_iload 3 1), (204, x_iald), (205, x_cmpge 234), (208, x_push (.long 31) 3), (211, x_lload 1 1), (212, x_ll (fun x y => x * y)), (213, x_aload 0 1), (214, x_getR 7 4), (217, x_push (.int (nI 80)) 2), (219, x_iload 3 1), (220, x_ii (fun x y => x * y)), (221, x_iload 4 2), (223, x_ii (fun x y => x + y)), (224, x_iald), (225, x_i2l), (226, x_ll (fun x y => x + y)), (227, x_lstore 1 1), (228, x_iinc 4 (nI 1)), (231, x_goto 197), (234, x_iinc 3 (nI 1)), (237, x_goto 175), (240, x_lload 1 1), (241, x_lret)]
set_option maxRecDepth 100000 in
theorem tX9_digest_ok (l : Launch) : ∀ q ∈ tX9_digest, xOK l cX9_digest RX9 5 6 0 (yX9_digest.name = "<init>") q.1 q.2 := by
  unfold tX9_digest
  refine List.forall_mem_cons.mpr ⟨?_, List.forall_mem_cons.mpr ⟨?_, List.forall_mem_cons.mpr ⟨?_, List.forall_mem_cons.mpr ⟨?_, List.forall_mem_cons.mpr ⟨?_, List.forall_mem_cons.mpr ⟨?_, List.forall_mem_cons.mpr ⟨?_, List.forall_mem_cons.mpr ⟨?_, List.forall_mem_cons.mpr ⟨?_, List.forall_mem_cons.mpr ⟨?_, List.forall_mem_cons.mpr ⟨?_, List.forall_mem_cons.mpr ⟨?_, List.forall_mem_cons.mpr ⟨?_, List.forall_mem_cons.mpr ⟨?_, List.forall_mem_cons.mpr ⟨?_, List.forall_mem_cons.mpr ⟨?_, List.forall_mem_cons.mpr ⟨?_, List.forall_mem_cons.mpr ⟨?_, List.forall_mem_cons.mpr ⟨?_, List.forall_mem_cons.mpr ⟨?_, List.forall_mem_cons.mpr ⟨?_, List.forall_mem_cons.mpr ⟨?_, List.forall_mem_cons.mpr ⟨?_, List.forall_mem_cons.mpr ⟨?_, List.forall_mem_cons.mpr ⟨?_, List.forall_mem_cons.mpr ⟨?_, List.forall_mem_cons.mpr ⟨?_, List.forall_mem_cons.mpr ⟨?_, List.forall_mem_cons.mpr ⟨?_, List.forall_mem_cons.mpr ⟨?_, List.forall_mem_cons.mpr ⟨?_, List.forall_mem_cons.mpr ⟨?_, List.forall_mem_cons.mpr ⟨?_, List.forall_mem_cons.mpr ⟨?_, List.forall_mem_cons.mpr ⟨?_, List.forall_mem_cons.mpr ⟨?_, List.forall_mem_cons.mpr ⟨?_, List.forall_mem_cons.mpr ⟨?_, List.forall_mem_cons.mpr ⟨?_, List.forall_mem_cons.mpr ⟨?_, List.forall_mem_cons.mpr ⟨?_, List.forall_mem_cons.mpr ⟨?_, List.forall_mem_cons.mpr ⟨?_, List.forall_mem_cons.mpr ⟨?_, List.forall_mem_cons.mpr ⟨?_, List.forall_mem_cons.mpr ⟨?_, List.forall_mem_cons.mpr ⟨?_, List.forall_mem_cons.mpr ⟨?_, List.forall_mem_cons.mpr ⟨?_, List.forall_mem_cons.mpr ⟨?_, List.forall_mem_cons.mpr ⟨?_, List.forall_mem_cons.mpr ⟨?_, List.forall_mem_cons.mpr ⟨?_, List.forall_mem_cons.mpr ⟨?_, List.forall_mem_cons.mpr ⟨?_, List.forall_mem_cons.mpr ⟨?_, List.forall_mem_cons.mpr ⟨?_, List.forall_mem_cons.mpr ⟨?_, List.forall_mem_cons.mpr ⟨?_, List.forall_mem_cons.mpr ⟨?_, List.forall_mem_cons.mpr ⟨?_, List.forall_mem_cons.mpr ⟨?_, List.forall_mem_cons.mpr ⟨?_, List.forall_mem_cons.mpr ⟨?_, List.forall_mem_cons.mpr ⟨?_, List.forall_mem_cons.mpr ⟨?_, List.forall_mem_cons.mpr ⟨?_, List.forall_mem_cons.mpr ⟨?_, List.forall_mem_cons.mpr ⟨?_, List.forall_mem_cons.mpr ⟨?_, List.forall_mem_cons.mpr ⟨?_, List.forall_mem_cons.mpr ⟨?_, List.forall_mem_cons.mpr ⟨?_, List.forall_mem_cons.mpr ⟨?_, List.forall_mem_cons.mpr ⟨?_, List.forall_mem_cons.mpr ⟨?_, List.forall_mem_cons.mpr ⟨?_, List.forall_mem_cons.mpr ⟨?_, List.forall_mem_cons.mpr ⟨?_, List.forall_mem_cons.mpr ⟨?_, List.forall_mem_cons.mpr ⟨?_, List.forall_mem_cons.mpr ⟨?_, List.forall_mem_cons.mpr ⟨?_, List.forall_mem_cons.mpr ⟨?_, List.forall_mem_cons.mpr ⟨?_, List.forall_mem_cons.mpr ⟨?_, List.forall_mem_cons.mpr ⟨?_, List.forall_mem_cons.mpr ⟨?_, List.forall_mem_cons.mpr ⟨?_, List.forall_mem_cons.mpr ⟨?_, List.forall_mem_cons.mpr ⟨?_, List.forall_mem_cons.mpr ⟨?_, List.forall_mem_cons.mpr ⟨?_, List.forall_mem_cons.mpr ⟨?_, List.forall_mem_cons.mpr ⟨?_, List.forall_mem_cons.mpr ⟨?_, List.forall_mem_cons.mpr ⟨?_, List.forall_mem_cons.mpr ⟨?_, List.forall_mem_cons.mpr ⟨?_, List.forall_mem_cons.mpr ⟨?_, List.forall_mem_cons.mpr ⟨?_, List.forall_mem_cons.mpr ⟨?_, List.forall_mem_cons.mpr ⟨?_, List.forall_mem_cons.mpr ⟨?_, List.forall_mem_cons.mpr ⟨?_, List.forall_mem_cons.mpr ⟨?_, List.forall_mem_cons.mpr ⟨?_, List.forall_mem_cons.mpr ⟨?_, List.forall_mem_cons.mpr ⟨?_, List.forall_mem_cons.mpr ⟨?_, List.forall_mem_cons.mpr ⟨?_, List.forall_mem_cons.mpr ⟨?_, List.forall_mem_cons.mpr ⟨?_, List.forall_mem_cons.mpr ⟨?_, List.forall_mem_cons.mpr ⟨?_, List.forall_mem_cons.mpr ⟨?_, List.forall_mem_cons.mpr ⟨?_, List.forall_mem_cons.mpr ⟨?_, List.forall_mem_cons.mpr ⟨?_, List.forall_mem_cons.mpr ⟨?_, List.forall_mem_cons.mpr ⟨?_, List.forall_mem_cons.mpr ⟨?_, List.forall_mem_cons.mpr ⟨?_, List.forall_mem_cons.mpr ⟨?_, List.forall_mem_cons.mpr ⟨?_, List.forall_mem_cons.mpr ⟨?_, List.forall_mem_cons.mpr ⟨?_, List.forall_mem_cons.mpr ⟨?_, List.forall_mem_cons.mpr ⟨?_, List.forall_mem_cons.mpr ⟨?_, List.forall_mem_cons.mpr ⟨?_, List.forall_mem_cons.mpr ⟨?_, List.forall_mem_cons.mpr ⟨?_, List.forall_mem_cons.mpr ⟨?_, List.forall_mem_cons.mpr ⟨?_, List.forall_mem_cons.mpr ⟨?_, List.forall_mem_cons.mpr ⟨?_, List.forall_mem_cons.mpr ⟨?_, List.forall_mem_cons.mpr ⟨?_, List.forall_mem_cons.mpr ⟨?_, List.forall_mem_cons.mpr ⟨?_, List.forall_mem_cons.mpr ⟨?_, List.forall_mem_cons.mpr ⟨?_, List.forall_mem_cons.mpr ⟨?_, List.forall_mem_cons.mpr ⟨?_, List.forall_mem_cons.mpr ⟨?_, List.forall_mem_cons.mpr ⟨?_, List.forall_mem_cons.mpr ⟨?_, List.forall_mem_cons.mpr ⟨?_, fun _ h => absurd h List.not_mem_nil⟩⟩⟩⟩⟩⟩⟩⟩⟩⟩⟩⟩⟩⟩⟩⟩⟩⟩⟩⟩⟩⟩⟩⟩⟩⟩⟩⟩⟩⟩⟩⟩⟩⟩⟩⟩⟩⟩⟩⟩⟩⟩⟩⟩⟩⟩⟩⟩⟩⟩⟩⟩⟩⟩⟩⟩⟩⟩⟩⟩⟩⟩⟩⟩⟩⟩⟩⟩⟩⟩⟩⟩⟩⟩⟩⟩⟩⟩⟩⟩⟩⟩⟩⟩⟩⟩⟩⟩⟩⟩⟩⟩⟩⟩⟩⟩⟩⟩⟩⟩⟩⟩⟩⟩⟩⟩⟩⟩⟩⟩⟩⟩⟩⟩⟩⟩⟩⟩⟩⟩⟩⟩⟩⟩⟩⟩⟩⟩⟩⟩⟩⟩⟩⟩⟩⟩⟩⟩⟩⟩⟩⟩⟩⟩⟩⟩⟩⟩⟩
  · exact x_ldc2_ok (show decode cX9_digest 0 = .ok (.ldc2_w 290, 3) by decide +kernel) hw_1322
  · exact x_lstore_n_ok (show decode cX9_digest 3 = .ok (.lstore_n 1, 1) by decide +kernel) rfl (by decide)
  · exact x_iconst_ok (show decode cX9_digest 4 = .ok (.iconst 0, 1) by decide +kernel) (by decide)
  · exact x_istore_n_ok (show decode cX9_digest 5 = .ok (.istore_n 3, 1) by decide +kernel) rfl (by decide)
  · exact x_iload_n_ok (show decode cX9_digest 6 = .ok (.iload_n 3, 1) by decide +kernel) rfl
  · exact x_bipush_ok (show decode cX9_digest 7 = .ok (.bipush 9, 2) by decide +kernel) (by decide)
  · exact x_cmpge_ok (show decode cX9_digest 9 = .ok (.if_icmp .ge 22, 3) by decide +kernel) (by decide)
  · exact x_ldc2_ok (show decode cX9_digest 12 = .ok (.ldc2_w 292, 3) by decide +kernel) hw_1323
  · exact x_lload_n_ok (show decode cX9_digest 15 = .ok (.lload_n 1, 1) by decide +kernel) rfl
  · exact x_lmul_ok (show decode cX9_digest 16 = .ok (.lmul, 1) by decide +kernel)
  · exact x_aload_n_ok (show decode cX9_digest 17 = .ok (.aload_n 0, 1) by decide +kernel) rfl
  · exact x_iload_n_ok (show decode cX9_digest 18 = .ok (.iload_n 3, 1) by decide +kernel) rfl
  · exact x_callV_ok (ci := 7) rfl (by decide) (sX9_countOf l) hw_1297 hw_1294 hw_1296 hw_56 hw_68 ⟨by decide, by decide, by decide +kernel⟩ rfl (by decide) (by decide) (show decode cX9_digest 19 = .ok (.invokevirtual 287, 3) by decide +kernel)
  · exact x_i2l_ok (show decode cX9_digest 22 = .ok (.i2l, 1) by decide +kernel)
  · exact x_ladd_ok (show decode cX9_digest 23 = .ok (.ladd, 1) by decide +kernel)
  · exact x_lstore_n_ok (show decode cX9_digest 24 = .ok (.lstore_n 1, 1) by decide +kernel) rfl (by decide)
  · exact x_iinc_ok (show decode cX9_digest 25 = .ok (.iinc 3 1, 3) by decide +kernel) (by decide) (by decide)
  · exact x_goto_ok (show decode cX9_digest 28 = .ok (.goto (-22), 3) by decide +kernel) (by decide)
  · exact x_iconst_ok (show decode cX9_digest 31 = .ok (.iconst 0, 1) by decide +kernel) (by decide)
  · exact x_istore_n_ok (show decode cX9_digest 32 = .ok (.istore_n 3, 1) by decide +kernel) rfl (by decide)
  · exact x_iload_n_ok (show decode cX9_digest 33 = .ok (.iload_n 3, 1) by decide +kernel) rfl
  · exact x_bipush_ok (show decode cX9_digest 34 = .ok (.bipush 7, 2) by decide +kernel) (by decide)
  · exact x_aload_n_ok (show decode cX9_digest 36 = .ok (.aload_n 0, 1) by decide +kernel) rfl
  · exact x_getR_ok (ci := 7) (k := 0) rfl (by decide) (by decide) hw_844 (show decode cX9_digest 37 = .ok (.getfield 7, 3) by decide +kernel)
  · exact x_iconst_ok (show decode cX9_digest 40 = .ok (.iconst 1, 1) by decide +kernel) (by decide)
  · exact x_iald_ok (show decode cX9_digest 41 = .ok (.iaload, 1) by decide +kernel)
  · exact x_imul_ok (show decode cX9_digest 42 = .ok (.imul, 1) by decide +kernel)
  · exact x_cmpge_ok (show decode cX9_digest 43 = .ok (.if_icmp .ge 29, 3) by decide +kernel) (by decide)
  · exact x_ldc2_ok (show decode cX9_digest 46 = .ok (.ldc2_w 292, 3) by decide +kernel) hw_1323
  · exact x_lload_n_ok (show decode cX9_digest 49 = .ok (.lload_n 1, 1) by decide +kernel) rfl
  · exact x_lmul_ok (show decode cX9_digest 50 = .ok (.lmul, 1) by decide +kernel)
  · exact x_aload_n_ok (show decode cX9_digest 51 = .ok (.aload_n 0, 1) by decide +kernel) rfl
  · exact x_iload_n_ok (show decode cX9_digest 52 = .ok (.iload_n 3, 1) by decide +kernel) rfl
  · exact x_bipush_ok (show decode cX9_digest 53 = .ok (.bipush 7, 2) by decide +kernel) (by decide)
  · exact x_idiv_ok (show decode cX9_digest 55 = .ok (.idiv, 1) by decide +kernel)
  · exact x_iload_n_ok (show decode cX9_digest 56 = .ok (.iload_n 3, 1) by decide +kernel) rfl
  · exact x_bipush_ok (show decode cX9_digest 57 = .ok (.bipush 7, 2) by decide +kernel) (by decide)
  · exact x_irem_ok (show decode cX9_digest 59 = .ok (.irem, 1) by decide +kernel)
  · exact x_callV_ok (ci := 7) rfl (by decide) (sX9_toldOf l) hw_1015 hw_1012 hw_1014 hw_29 hw_68 ⟨by decide, by decide, by decide +kernel⟩ rfl (by decide) (by decide) (show decode cX9_digest 60 = .ok (.invokevirtual 175, 3) by decide +kernel)
  · exact x_i2l_ok (show decode cX9_digest 63 = .ok (.i2l, 1) by decide +kernel)
  · exact x_ladd_ok (show decode cX9_digest 64 = .ok (.ladd, 1) by decide +kernel)
  · exact x_lstore_n_ok (show decode cX9_digest 65 = .ok (.lstore_n 1, 1) by decide +kernel) rfl (by decide)
  · exact x_iinc_ok (show decode cX9_digest 66 = .ok (.iinc 3 1, 3) by decide +kernel) (by decide) (by decide)
  · exact x_goto_ok (show decode cX9_digest 69 = .ok (.goto (-36), 3) by decide +kernel) (by decide)
  · exact x_iconst_ok (show decode cX9_digest 72 = .ok (.iconst 1, 1) by decide +kernel) (by decide)
  · exact x_istore_n_ok (show decode cX9_digest 73 = .ok (.istore_n 3, 1) by decide +kernel) rfl (by decide)
  · exact x_iload_n_ok (show decode cX9_digest 74 = .ok (.iload_n 3, 1) by decide +kernel) rfl
  · exact x_iconst_ok (show decode cX9_digest 75 = .ok (.iconst 4, 1) by decide +kernel) (by decide)
  · exact x_cmpge_ok (show decode cX9_digest 76 = .ok (.if_icmp .ge 29, 3) by decide +kernel) (by decide)
  · exact x_ldc2_ok (show decode cX9_digest 79 = .ok (.ldc2_w 292, 3) by decide +kernel) hw_1323
  · exact x_lload_n_ok (show decode cX9_digest 82 = .ok (.lload_n 1, 1) by decide +kernel) rfl
  · exact x_lmul_ok (show decode cX9_digest 83 = .ok (.lmul, 1) by decide +kernel)
  · exact x_aload_n_ok (show decode cX9_digest 84 = .ok (.aload_n 0, 1) by decide +kernel) rfl
  · exact x_getR_ok (ci := 7) (k := 0) rfl (by decide) (by decide) hw_844 (show decode cX9_digest 85 = .ok (.getfield 7, 3) by decide +kernel)
  · exact x_sipush_ok (show decode cX9_digest 88 = .ok (.sipush 426, 3) by decide +kernel) (by decide)
  · exact x_iload_n_ok (show decode cX9_digest 91 = .ok (.iload_n 3, 1) by decide +kernel) rfl
  · exact x_imul_ok (show decode cX9_digest 92 = .ok (.imul, 1) by decide +kernel)
  · exact x_iconst_ok (show decode cX9_digest 93 = .ok (.iconst 0, 1) by decide +kernel) (by decide)
  · exact x_iadd_ok (show decode cX9_digest 94 = .ok (.iadd, 1) by decide +kernel)
  · exact x_iald_ok (show decode cX9_digest 95 = .ok (.iaload, 1) by decide +kernel)
  · exact x_i2l_ok (show decode cX9_digest 96 = .ok (.i2l, 1) by decide +kernel)
  · exact x_ladd_ok (show decode cX9_digest 97 = .ok (.ladd, 1) by decide +kernel)
  · exact x_lstore_n_ok (show decode cX9_digest 98 = .ok (.lstore_n 1, 1) by decide +kernel) rfl (by decide)
  · exact x_iinc_ok (show decode cX9_digest 99 = .ok (.iinc 3 1, 3) by decide +kernel) (by decide) (by decide)
  · exact x_goto_ok (show decode cX9_digest 102 = .ok (.goto (-28), 3) by decide +kernel) (by decide)
  · exact x_iconst_ok (show decode cX9_digest 105 = .ok (.iconst 0, 1) by decide +kernel) (by decide)
  · exact x_istore_n_ok (show decode cX9_digest 106 = .ok (.istore_n 3, 1) by decide +kernel) rfl (by decide)
  · exact x_iload_n_ok (show decode cX9_digest 107 = .ok (.iload_n 3, 1) by decide +kernel) rfl
  · exact x_bipush_ok (show decode cX9_digest 108 = .ok (.bipush 6, 2) by decide +kernel) (by decide)
  · exact x_cmpge_ok (show decode cX9_digest 110 = .ok (.if_icmp .ge 63, 3) by decide +kernel) (by decide)
  · exact x_ldc2_ok (show decode cX9_digest 113 = .ok (.ldc2_w 292, 3) by decide +kernel) hw_1323
  · exact x_lload_n_ok (show decode cX9_digest 116 = .ok (.lload_n 1, 1) by decide +kernel) rfl
  · exact x_lmul_ok (show decode cX9_digest 117 = .ok (.lmul, 1) by decide +kernel)
  · exact x_aload_n_ok (show decode cX9_digest 118 = .ok (.aload_n 0, 1) by decide +kernel) rfl
  · exact x_getR_ok (ci := 7) (k := 1) rfl (by decide) (by decide) hw_845 (show decode cX9_digest 119 = .ok (.getfield 13, 3) by decide +kernel)
  · exact x_iload_n_ok (show decode cX9_digest 122 = .ok (.iload_n 3, 1) by decide +kernel) rfl
  · exact x_iald_ok (show decode cX9_digest 123 = .ok (.iaload, 1) by decide +kernel)
  · exact x_i2l_ok (show decode cX9_digest 124 = .ok (.i2l, 1) by decide +kernel)
  · exact x_ladd_ok (show decode cX9_digest 125 = .ok (.ladd, 1) by decide +kernel)
  · exact x_lstore_n_ok (show decode cX9_digest 126 = .ok (.lstore_n 1, 1) by decide +kernel) rfl (by decide)
  · exact x_iconst_ok (show decode cX9_digest 127 = .ok (.iconst 0, 1) by decide +kernel) (by decide)
  · exact x_istore_ok (show decode cX9_digest 128 = .ok (.istore 4, 2) by decide +kernel) (by decide)
  · exact x_iload_ok (show decode cX9_digest 130 = .ok (.iload 4, 2) by decide +kernel)
  · exact x_aload_n_ok (show decode cX9_digest 132 = .ok (.aload_n 0, 1) by decide +kernel) rfl
  · exact x_getR_ok (ci := 7) (k := 1) rfl (by decide) (by decide) hw_845 (show decode cX9_digest 133 = .ok (.getfield 13, 3) by decide +kernel)
  · exact x_iload_n_ok (show decode cX9_digest 136 = .ok (.iload_n 3, 1) by decide +kernel) rfl
  · exact x_iald_ok (show decode cX9_digest 137 = .ok (.iaload, 1) by decide +kernel)
  · exact x_cmpge_ok (show decode cX9_digest 138 = .ok (.if_icmp .ge 29, 3) by decide +kernel) (by decide)
  · exact x_ldc2_ok (show decode cX9_digest 141 = .ok (.ldc2_w 292, 3) by decide +kernel) hw_1323
  · exact x_lload_n_ok (show decode cX9_digest 144 = .ok (.lload_n 1, 1) by decide +kernel) rfl
  · exact x_lmul_ok (show decode cX9_digest 145 = .ok (.lmul, 1) by decide +kernel)
  · exact x_aload_n_ok (show decode cX9_digest 146 = .ok (.aload_n 0, 1) by decide +kernel) rfl
  · exact x_getR_ok (ci := 7) (k := 2) rfl (by decide) (by decide) hw_846 (show decode cX9_digest 147 = .ok (.getfield 16, 3) by decide +kernel)
  · exact x_bipush_ok (show decode cX9_digest 150 = .ok (.bipush 40, 2) by decide +kernel) (by decide)
  · exact x_iload_n_ok (show decode cX9_digest 152 = .ok (.iload_n 3, 1) by decide +kernel) rfl
  · exact x_imul_ok (show decode cX9_digest 153 = .ok (.imul, 1) by decide +kernel)
  · exact x_iload_ok (show decode cX9_digest 154 = .ok (.iload 4, 2) by decide +kernel)
  · exact x_iadd_ok (show decode cX9_digest 156 = .ok (.iadd, 1) by decide +kernel)
  · exact x_iald_ok (show decode cX9_digest 157 = .ok (.iaload, 1) by decide +kernel)
  · exact x_i2l_ok (show decode cX9_digest 158 = .ok (.i2l, 1) by decide +kernel)
  · exact x_ladd_ok (show decode cX9_digest 159 = .ok (.ladd, 1) by decide +kernel)
  · exact x_lstore_n_ok (show decode cX9_digest 160 = .ok (.lstore_n 1, 1) by decide +kernel) rfl (by decide)
  · exact x_iinc_ok (show decode cX9_digest 161 = .ok (.iinc 4 1, 3) by decide +kernel) (by decide) (by decide)
  · exact x_goto_ok (show decode cX9_digest 164 = .ok (.goto (-34), 3) by decide +kernel) (by decide)
  · exact x_iinc_ok (show decode cX9_digest 167 = .ok (.iinc 3 1, 3) by decide +kernel) (by decide) (by decide)
  · exact x_goto_ok (show decode cX9_digest 170 = .ok (.goto (-63), 3) by decide +kernel) (by decide)
  · exact x_iconst_ok (show decode cX9_digest 173 = .ok (.iconst 0, 1) by decide +kernel) (by decide)
  · exact x_istore_n_ok (show decode cX9_digest 174 = .ok (.istore_n 3, 1) by decide +kernel) rfl (by decide)
  · exact x_iload_n_ok (show decode cX9_digest 175 = .ok (.iload_n 3, 1) by decide +kernel) rfl
  · exact x_iconst_ok (show decode cX9_digest 176 = .ok (.iconst 4, 1) by decide +kernel) (by decide)
  · exact x_cmpge_ok (show decode cX9_digest 177 = .ok (.if_icmp .ge 63, 3) by decide +kernel) (by decide)
  · exact x_ldc2_ok (show decode cX9_digest 180 = .ok (.ldc2_w 292, 3) by decide +kernel) hw_1323
  · exact x_lload_n_ok (show decode cX9_digest 183 = .ok (.lload_n 1, 1) by decide +kernel) rfl
  · exact x_lmul_ok (show decode cX9_digest 184 = .ok (.lmul, 1) by decide +kernel)
  · exact x_aload_n_ok (show decode cX9_digest 185 = .ok (.aload_n 0, 1) by decide +kernel) rfl
  · exact x_getR_ok (ci := 7) (k := 3) rfl (by decide) (by decide) hw_847 (show decode cX9_digest 186 = .ok (.getfield 19, 3) by decide +kernel)
  · exact x_iload_n_ok (show decode cX9_digest 189 = .ok (.iload_n 3, 1) by decide +kernel) rfl
  · exact x_iald_ok (show decode cX9_digest 190 = .ok (.iaload, 1) by decide +kernel)
  · exact x_i2l_ok (show decode cX9_digest 191 = .ok (.i2l, 1) by decide +kernel)
  · exact x_ladd_ok (show decode cX9_digest 192 = .ok (.ladd, 1) by decide +kernel)
  · exact x_lstore_n_ok (show decode cX9_digest 193 = .ok (.lstore_n 1, 1) by decide +kernel) rfl (by decide)
  · exact x_iconst_ok (show decode cX9_digest 194 = .ok (.iconst 0, 1) by decide +kernel) (by decide)
  · exact x_istore_ok (show decode cX9_digest 195 = .ok (.istore 4, 2) by decide +kernel) (by decide)
  · exact x_iload_ok (show decode cX9_digest 197 = .ok (.iload 4, 2) by decide +kernel)
  · exact x_aload_n_ok (show decode cX9_digest 199 = .ok (.aload_n 0, 1) by decide +kernel) rfl
  · exact x_getR_ok (ci := 7) (k := 3) rfl (by decide) (by decide) hw_847 (show decode cX9_digest 200 = .ok (.getfield 19, 3) by decide +kernel)
  · exact x_iload_n_ok (show decode cX9_digest 203 = .ok (.iload_n 3, 1) by decide +kernel) rfl
  · exact x_iald_ok (show decode cX9_digest 204 = .ok (.iaload, 1) by decide +kernel)
  · exact x_cmpge_ok (show decode cX9_digest 205 = .ok (.if_icmp .ge 29, 3) by decide +kernel) (by decide)
  · exact x_ldc2_ok (show decode cX9_digest 208 = .ok (.ldc2_w 292, 3) by decide +kernel) hw_1323
  · exact x_lload_n_ok (show decode cX9_digest 211 = .ok (.lload_n 1, 1) by decide +kernel) rfl
  · exact x_lmul_ok (show decode cX9_digest 212 = .ok (.lmul, 1) by decide +kernel)
  · exact x_aload_n_ok (show decode cX9_digest 213 = .ok (.aload_n 0, 1) by decide +kernel) rfl
  · exact x_getR_ok (ci := 7) (k := 4) rfl (by decide) (by decide) hw_848 (show decode cX9_digest 214 = .ok (.getfield 22, 3) by decide +kernel)
  · exact x_bipush_ok (show decode cX9_digest 217 = .ok (.bipush 80, 2) by decide +kernel) (by decide)
  · exact x_iload_n_ok (show decode cX9_digest 219 = .ok (.iload_n 3, 1) by decide +kernel) rfl
  · exact x_imul_ok (show decode cX9_digest 220 = .ok (.imul, 1) by decide +kernel)
  · exact x_iload_ok (show decode cX9_digest 221 = .ok (.iload 4, 2) by decide +kernel)
  · exact x_iadd_ok (show decode cX9_digest 223 = .ok (.iadd, 1) by decide +kernel)
  · exact x_iald_ok (show decode cX9_digest 224 = .ok (.iaload, 1) by decide +kernel)
  · exact x_i2l_ok (show decode cX9_digest 225 = .ok (.i2l, 1) by decide +kernel)
  · exact x_ladd_ok (show decode cX9_digest 226 = .ok (.ladd, 1) by decide +kernel)
  · exact x_lstore_n_ok (show decode cX9_digest 227 = .ok (.lstore_n 1, 1) by decide +kernel) rfl (by decide)
  · exact x_iinc_ok (show decode cX9_digest 228 = .ok (.iinc 4 1, 3) by decide +kernel) (by decide) (by decide)
  · exact x_goto_ok (show decode cX9_digest 231 = .ok (.goto (-34), 3) by decide +kernel) (by decide)
  · exact x_iinc_ok (show decode cX9_digest 234 = .ok (.iinc 3 1, 3) by decide +kernel) (by decide) (by decide)
  · exact x_goto_ok (show decode cX9_digest 237 = .ok (.goto (-62), 3) by decide +kernel) (by decide)
  · exact x_lload_n_ok (show decode cX9_digest 240 = .ok (.lload_n 1, 1) by decide +kernel) rfl
  · exact x_lret_ok (show decode cX9_digest 241 = .ok (.lreturn, 1) by decide +kernel)
noncomputable def FX9_digest : List Value → xS → Option xR := xden tX9_digest 5 (some .long) 0
theorem sX9_digest (l : Launch) : xSound l yX9_digest cX9_digest 5 (some .long) 6 0 FX9_digest := x_den (by decide) (tX9_digest_ok l)
