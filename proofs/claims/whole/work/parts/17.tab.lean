noncomputable def tX5_holdsOnlyBelow : List (Nat × xO) := [(0, x_push (.int (nI 0)) 1), (1, x_istore 2 1), (2, x_iload 2 1), (3, x_aload 0 1), (4, x_getI 4 1), (7, x_cmpge 31), (10, x_aload 0 1), (11, x_getR 4 0), (14, x_iload 2 1), (15, x_iald), (16, x_iload 1 1), (17, x_call 0 2 FX8_among), (20, x_ifne 25), (23, x_push (.int (nI 0)) 1), (24, x_iret), (25, x_iinc 2 (nI 1)), (28, x_goto 2), (31, x_push (.int (nI 1)) 1), (32, x_iret)]
set_option maxRecDepth 100000 in
theorem tX5_holdsOnlyBelow_ok (l : Launch) : ∀ q ∈ tX5_holdsOnlyBelow, xOK l cX5_holdsOnlyBelow RX5 3 2 0 (yX5_holdsOnlyBelow.name = "<init>") q.1 q.2 := by
  unfold tX5_holdsOnlyBelow
  refine List.forall_mem_cons.mpr ⟨?_, List.forall_mem_cons.mpr ⟨?_, List.forall_mem_cons.mpr ⟨?_, List.forall_mem_cons.mpr ⟨?_, List.forall_mem_cons.mpr ⟨?_, List.forall_mem_cons.mpr ⟨?_, List.forall_mem_cons.mpr ⟨?_, List.forall_mem_cons.mpr ⟨?_, List.forall_mem_cons.mpr ⟨?_, List.forall_mem_cons.mpr ⟨?_, List.forall_mem_cons.mpr ⟨?_, List.forall_mem_cons.mpr ⟨?_, List.forall_mem_cons.mpr ⟨?_, List.forall_mem_cons.mpr ⟨?_, List.forall_mem_cons.mpr ⟨?_, List.forall_mem_cons.mpr ⟨?_, List.forall_mem_cons.mpr ⟨?_, List.forall_mem_cons.mpr ⟨?_, List.forall_mem_cons.mpr ⟨?_, fun _ h => absurd h List.not_mem_nil⟩⟩⟩⟩⟩⟩⟩⟩⟩⟩⟩⟩⟩⟩⟩⟩⟩⟩⟩
  · exact x_iconst_ok (show decode cX5_holdsOnlyBelow 0 = .ok (.iconst 0, 1) by decide +kernel) (by decide)
  · exact x_istore_n_ok (show decode cX5_holdsOnlyBelow 1 = .ok (.istore_n 2, 1) by decide +kernel) rfl (by decide)
  · exact x_iload_n_ok (show decode cX5_holdsOnlyBelow 2 = .ok (.iload_n 2, 1) by decide +kernel) rfl
  · exact x_aload_n_ok (show decode cX5_holdsOnlyBelow 3 = .ok (.aload_n 0, 1) by decide +kernel) rfl
  · exact x_getI_ok (ci := 4) (k := 1) rfl (by decide) (by decide) hw_97 (show decode cX5_holdsOnlyBelow 4 = .ok (.getfield 13, 3) by decide +kernel)
  · exact x_cmpge_ok (show decode cX5_holdsOnlyBelow 7 = .ok (.if_icmp .ge 24, 3) by decide +kernel) (by decide)
  · exact x_aload_n_ok (show decode cX5_holdsOnlyBelow 10 = .ok (.aload_n 0, 1) by decide +kernel) rfl
  · exact x_getR_ok (ci := 4) (k := 0) rfl (by decide) (by decide) hw_93 (show decode cX5_holdsOnlyBelow 11 = .ok (.getfield 9, 3) by decide +kernel)
  · exact x_iload_n_ok (show decode cX5_holdsOnlyBelow 14 = .ok (.iload_n 2, 1) by decide +kernel) rfl
  · exact x_iald_ok (show decode cX5_holdsOnlyBelow 15 = .ok (.iaload, 1) by decide +kernel)
  · exact x_iload_n_ok (show decode cX5_holdsOnlyBelow 16 = .ok (.iload_n 1, 1) by decide +kernel) rfl
  · exact x_callSN_ok (sX8_among l) hw_268 (fun _ _ _ h => h.1.2.2) hw_267 hw_61 ⟨by decide, by decide, by decide +kernel⟩ (by decide) (by decide) (show decode cX5_holdsOnlyBelow 17 = .ok (.invokestatic 17, 3) by decide +kernel)
  · exact x_ifne_ok (show decode cX5_holdsOnlyBelow 20 = .ok (.ifCond .ne 5, 3) by decide +kernel) (by decide)
  · exact x_iconst_ok (show decode cX5_holdsOnlyBelow 23 = .ok (.iconst 0, 1) by decide +kernel) (by decide)
  · exact x_iret_ok (show decode cX5_holdsOnlyBelow 24 = .ok (.ireturn, 1) by decide +kernel)
  · exact x_iinc_ok (show decode cX5_holdsOnlyBelow 25 = .ok (.iinc 2 1, 3) by decide +kernel) (by decide) (by decide)
  · exact x_goto_ok (show decode cX5_holdsOnlyBelow 28 = .ok (.goto (-26), 3) by decide +kernel) (by decide)
  · exact x_iconst_ok (show decode cX5_holdsOnlyBelow 31 = .ok (.iconst 1, 1) by decide +kernel) (by decide)
  · exact x_iret_ok (show decode cX5_holdsOnlyBelow 32 = .ok (.ireturn, 1) by decide +kernel)
noncomputable def FX5_holdsOnlyBelow : List Value → xS → Option xR := xden tX5_holdsOnlyBelow 3 (some .boolean) 0
theorem sX5_holdsOnlyBelow (l : Launch) : xSound l yX5_holdsOnlyBelow cX5_holdsOnlyBelow 3 (some .boolean) 2 0 FX5_holdsOnlyBelow := x_den (by decide) (tX5_holdsOnlyBelow_ok l)
noncomputable def tX8_refusalOfShades : List (Nat × xO) := [(0, x_aload 0 1), (1, x_iload 1 1), (2, x_callV 6 0 2 FX8_refusalOfRow), (5, x_istore 4 2), (7, x_iload 4 2), (9, x_ifeq 15), (12, x_iload 4 2), (14, x_iret), (15, x_aload 0 1), (16, x_getR 6 0), (19, x_iload 1 1), (20, x_aald), (21, x_getI 4 1), (24, x_iload 2 1), (25, x_cmplt 41), (28, x_aload 0 1), (29, x_getR 6 0), (32, x_iload 1 1), (33, x_aald), (34, x_getI 4 1), (37, x_iload 3 1), (38, x_cmple 47), (41, x_aload 0 1), (42, x_push (.int (nI 5)) 1), (43, x_callV 6 0 2 FX8_findingOf), (46, x_iret), (47, x_aload 0 1), (48, x_getR 6 0), (51, x_iload 1 1), (52, x_aald), (53, x_push (.int (nI 216)) 3), (56, x_callV 4 0 2 FX5_holdsOnlyBelow), (59, x_ifeq 66), (62, x_push (.int (nI 0)) 1), (63, x_goto 71), (66, x_aload 0 1), (67, x_push (.int (nI 3)) 1), (68, x_callV 6 0 2 FX8_findingOf), (71, x_iret)]
set_option maxRecDepth 100000 in
theorem tX8_refusalOfShades_ok (l : Launch) : ∀ q ∈ tX8_refusalOfShades, xOK l cX8_refusalOfShades RX8 5 3 0 (yX8_refusalOfShades.name = "<init>") q.1 q.2 := by
  unfold tX8_refusalOfShades
  refine List.forall_mem_cons.mpr ⟨?_, List.forall_mem_cons.mpr ⟨?_, List.forall_mem_cons.mpr ⟨?_, List.forall_mem_cons.mpr ⟨?_, List.forall_mem_cons.mpr ⟨?_, List.forall_mem_cons.mpr ⟨?_, List.forall_mem_cons.mpr ⟨?_, List.forall_mem_cons.mpr ⟨?_, List.forall_mem_cons.mpr ⟨?_, List.forall_mem_cons.mpr ⟨?_, List.forall_mem_cons.mpr ⟨?_, List.forall_mem_cons.mpr ⟨?_, List.forall_mem_cons.mpr ⟨?_, List.forall_mem_cons.mpr ⟨?_, List.forall_mem_cons.mpr ⟨?_, List.forall_mem_cons.mpr ⟨?_, List.forall_mem_cons.mpr ⟨?_, List.forall_mem_cons.mpr ⟨?_, List.forall_mem_cons.mpr ⟨?_, List.forall_mem_cons.mpr ⟨?_, List.forall_mem_cons.mpr ⟨?_, List.forall_mem_cons.mpr ⟨?_, List.forall_mem_cons.mpr ⟨?_, List.forall_mem_cons.mpr ⟨?_, List.forall_mem_cons.mpr ⟨?_, List.forall_mem_cons.mpr ⟨?_, List.forall_mem_cons.mpr ⟨?_, List.forall_mem_cons.mpr ⟨?_, List.forall_mem_cons.mpr ⟨?_, List.forall_mem_cons.mpr ⟨?_, List.forall_mem_cons.mpr ⟨?_, List.forall_mem_cons.mpr ⟨?_, List.forall_mem_cons.mpr ⟨?_, List.forall_mem_cons.mpr ⟨?_, List.forall_mem_cons.mpr ⟨?_, List.forall_mem_cons.mpr ⟨?_, List.forall_mem_cons.mpr ⟨?_, List.forall_mem_cons.mpr ⟨?_, List.forall_mem_cons.mpr ⟨?_, fun _ h => absurd h List.not_mem_nil⟩⟩⟩⟩⟩⟩⟩⟩⟩⟩⟩⟩⟩⟩⟩⟩⟩⟩⟩⟩⟩⟩⟩⟩⟩⟩⟩⟩⟩⟩⟩⟩⟩⟩⟩⟩⟩⟩⟩
  · exact x_aload_n_ok (show decode cX8_refusalOfShades 0 = .ok (.aload_n 0, 1) by decide +kernel) rfl
  · exact x_iload_n_ok (show decode cX8_refusalOfShades 1 = .ok (.iload_n 1, 1) by decide +kernel) rfl
  · exact x_callV_ok (ci := 6) rfl (by decide) (sX8_refusalOfRow l) hw_288 hw_285 hw_287 hw_2 hw_61 ⟨by decide, by decide, by decide +kernel⟩ rfl (by decide) (by decide) (show decode cX8_refusalOfShades 2 = .ok (.invokevirtual 88, 3) by decide +kernel)
  · exact x_istore_ok (show decode cX8_refusalOfShades 5 = .ok (.istore 4, 2) by decide +kernel) (by decide)
  · exact x_iload_ok (show decode cX8_refusalOfShades 7 = .ok (.iload 4, 2) by decide +kernel)
  · exact x_ifeq_ok (show decode cX8_refusalOfShades 9 = .ok (.ifCond .eq 6, 3) by decide +kernel) (by decide)
  · exact x_iload_ok (show decode cX8_refusalOfShades 12 = .ok (.iload 4, 2) by decide +kernel)
  · exact x_iret_ok (show decode cX8_refusalOfShades 14 = .ok (.ireturn, 1) by decide +kernel)
  · exact x_aload_n_ok (show decode cX8_refusalOfShades 15 = .ok (.aload_n 0, 1) by decide +kernel) rfl
  · exact x_getR_ok (ci := 6) (k := 0) rfl (by decide) (by decide) hw_222 (show decode cX8_refusalOfShades 16 = .ok (.getfield 11, 3) by decide +kernel)
  · exact x_iload_n_ok (show decode cX8_refusalOfShades 19 = .ok (.iload_n 1, 1) by decide +kernel) rfl
  · exact x_aald_ok (show decode cX8_refusalOfShades 20 = .ok (.aaload, 1) by decide +kernel)
  · exact x_getI_ok (ci := 4) (k := 1) rfl (by decide) (by decide) hw_100 (show decode cX8_refusalOfShades 21 = .ok (.getfield 107, 3) by decide +kernel)
  · exact x_iload_n_ok (show decode cX8_refusalOfShades 24 = .ok (.iload_n 2, 1) by decide +kernel) rfl
  · exact x_cmplt_ok (show decode cX8_refusalOfShades 25 = .ok (.if_icmp .lt 16, 3) by decide +kernel) (by decide)
  · exact x_aload_n_ok (show decode cX8_refusalOfShades 28 = .ok (.aload_n 0, 1) by decide +kernel) rfl
  · exact x_getR_ok (ci := 6) (k := 0) rfl (by decide) (by decide) hw_222 (show decode cX8_refusalOfShades 29 = .ok (.getfield 11, 3) by decide +kernel)
  · exact x_iload_n_ok (show decode cX8_refusalOfShades 32 = .ok (.iload_n 1, 1) by decide +kernel) rfl
  · exact x_aald_ok (show decode cX8_refusalOfShades 33 = .ok (.aaload, 1) by decide +kernel)
  · exact x_getI_ok (ci := 4) (k := 1) rfl (by decide) (by decide) hw_100 (show decode cX8_refusalOfShades 34 = .ok (.getfield 107, 3) by decide +kernel)
  · exact x_iload_n_ok (show decode cX8_refusalOfShades 37 = .ok (.iload_n 3, 1) by decide +kernel) rfl
  · exact x_cmple_ok (show decode cX8_refusalOfShades 38 = .ok (.if_icmp .le 9, 3) by decide +kernel) (by decide)
  · exact x_aload_n_ok (show decode cX8_refusalOfShades 41 = .ok (.aload_n 0, 1) by decide +kernel) rfl
  · exact x_iconst_ok (show decode cX8_refusalOfShades 42 = .ok (.iconst 5, 1) by decide +kernel) (by decide)
  · exact x_callV_ok (ci := 6) rfl (by decide) (sX8_findingOf l) hw_272 hw_269 hw_271 hw_0 hw_61 ⟨by decide, by decide, by decide +kernel⟩ rfl (by decide) (by decide) (show decode cX8_refusalOfShades 43 = .ok (.invokevirtual 69, 3) by decide +kernel)
  · exact x_iret_ok (show decode cX8_refusalOfShades 46 = .ok (.ireturn, 1) by decide +kernel)
  · exact x_aload_n_ok (show decode cX8_refusalOfShades 47 = .ok (.aload_n 0, 1) by decide +kernel) rfl
  · exact x_getR_ok (ci := 6) (k := 0) rfl (by decide) (by decide) hw_222 (show decode cX8_refusalOfShades 48 = .ok (.getfield 11, 3) by decide +kernel)
  · exact x_iload_n_ok (show decode cX8_refusalOfShades 51 = .ok (.iload_n 1, 1) by decide +kernel) rfl
  · exact x_aald_ok (show decode cX8_refusalOfShades 52 = .ok (.aaload, 1) by decide +kernel)
  · exact x_sipush_ok (show decode cX8_refusalOfShades 53 = .ok (.sipush 216, 3) by decide +kernel) (by decide)
  · exact x_callV_ok (ci := 4) rfl (by decide) (sX5_holdsOnlyBelow l) hw_636 hw_633 hw_634 hw_635 hw_62 ⟨by decide, by decide, by decide +kernel⟩ rfl (by decide) (by decide) (show decode cX8_refusalOfShades 56 = .ok (.invokevirtual 323, 3) by decide +kernel)
  · exact x_ifeq_ok (show decode cX8_refusalOfShades 59 = .ok (.ifCond .eq 7, 3) by decide +kernel) (by decide)
  · exact x_iconst_ok (show decode cX8_refusalOfShades 62 = .ok (.iconst 0, 1) by decide +kernel) (by decide)
  · exact x_goto_ok (show decode cX8_refusalOfShades 63 = .ok (.goto 8, 3) by decide +kernel) (by decide)
  · exact x_aload_n_ok (show decode cX8_refusalOfShades 66 = .ok (.aload_n 0, 1) by decide +kernel) rfl
  · exact x_iconst_ok (show decode cX8_refusalOfShades 67 = .ok (.iconst 3, 1) by decide +kernel) (by decide)
  · exact x_callV_ok (ci := 6) rfl (by decide) (sX8_findingOf l) hw_272 hw_269 hw_271 hw_0 hw_61 ⟨by decide, by decide, by decide +kernel⟩ rfl (by decide) (by decide) (show decode cX8_refusalOfShades 68 = .ok (.invokevirtual 69, 3) by decide +kernel)
  · exact x_iret_ok (show decode cX8_refusalOfShades 71 = .ok (.ireturn, 1) by decide +kernel)
noncomputable def FX8_refusalOfShades : List Value → xS → Option xR := xden tX8_refusalOfShades 5 (some .int) 0
theorem sX8_refusalOfShades (l : Launch) : xSound l yX8_refusalOfShades cX8_refusalOfShades 5 (some .int) 3 0 FX8_refusalOfShades := x_den (by decide) (tX8_refusalOfShades_ok l)
noncomputable def tX4_owedTo : List (Nat × xO) := [(0, x_aload 0 1), (1, x_iload 2 1), (2, x_push (.int (nI 0)) 1), (3, x_callV 3 0 3 FX4_callerOf), (6, x_istore 3 1), (7, x_iload 3 1), (8, x_push (.int (-9)) 2), (10, x_cmpeq 26), (13, x_aload 0 1), (14, x_getR 3 0), (17, x_iload 3 1), (18, x_aald), (19, x_getI 1 3), (22, x_iload 1 1), (23, x_cmpeq 30), (26, x_push (.int (nI 0)) 1), (27, x_goto 39), (30, x_aload 0 1), (31, x_getR 3 0), (34, x_iload 3 1), (35, x_aald), (36, x_callV 1 0 1 FX2_owed), (39, x_iret)]
set_option maxRecDepth 100000 in
theorem tX4_owedTo_ok (l : Launch) : ∀ q ∈ tX4_owedTo, xOK l cX4_owedTo RX4 4 6 0 (yX4_owedTo.name = "<init>") q.1 q.2 := by
  unfold tX4_owedTo
  refine List.forall_mem_cons.mpr ⟨?_, List.forall_mem_cons.mpr ⟨?_, List.forall_mem_cons.mpr ⟨?_, List.forall_mem_cons.mpr ⟨?_, List.forall_mem_cons.mpr ⟨?_, List.forall_mem_cons.mpr ⟨?_, List.forall_mem_cons.mpr ⟨?_, List.forall_mem_cons.mpr ⟨?_, List.forall_mem_cons.mpr ⟨?_, List.forall_mem_cons.mpr ⟨?_, List.forall_mem_cons.mpr ⟨?_, List.forall_mem_cons.mpr ⟨?_, List.forall_mem_cons.mpr ⟨?_, List.forall_mem_cons.mpr ⟨?_, List.forall_mem_cons.mpr ⟨?_, List.forall_mem_cons.mpr ⟨?_, List.forall_mem_cons.mpr ⟨?_, List.forall_mem_cons.mpr ⟨?_, List.forall_mem_cons.mpr ⟨?_, List.forall_mem_cons.mpr ⟨?_, List.forall_mem_cons.mpr ⟨?_, List.forall_mem_cons.mpr ⟨?_, List.forall_mem_cons.mpr ⟨?_, fun _ h => absurd h List.not_mem_nil⟩⟩⟩⟩⟩⟩⟩⟩⟩⟩⟩⟩⟩⟩⟩⟩⟩⟩⟩⟩⟩⟩⟩
  · exact x_aload_n_ok (show decode cX4_owedTo 0 = .ok (.aload_n 0, 1) by decide +kernel) rfl
  · exact x_iload_n_ok (show decode cX4_owedTo 1 = .ok (.iload_n 2, 1) by decide +kernel) rfl
  · exact x_iconst_ok (show decode cX4_owedTo 2 = .ok (.iconst 0, 1) by decide +kernel) (by decide)
  · exact x_callV_ok (ci := 3) rfl (by decide) (sX4_callerOf l) hw_501 hw_498 hw_499 hw_500 hw_64 ⟨by decide, by decide, by decide +kernel⟩ rfl (by decide) (by decide) (show decode cX4_owedTo 3 = .ok (.invokevirtual 78, 3) by decide +kernel)
  · exact x_istore_n_ok (show decode cX4_owedTo 6 = .ok (.istore_n 3, 1) by decide +kernel) rfl (by decide)
  · exact x_iload_n_ok (show decode cX4_owedTo 7 = .ok (.iload_n 3, 1) by decide +kernel) rfl
  · exact x_bipush_ok (show decode cX4_owedTo 8 = .ok (.bipush (-9), 2) by decide +kernel) (by decide)
  · exact x_cmpeq_ok (show decode cX4_owedTo 10 = .ok (.if_icmp .eq 16, 3) by decide +kernel) (by decide)
  · exact x_aload_n_ok (show decode cX4_owedTo 13 = .ok (.aload_n 0, 1) by decide +kernel) rfl
  · exact x_getR_ok (ci := 3) (k := 0) rfl (by decide) (by decide) hw_173 (show decode cX4_owedTo 14 = .ok (.getfield 13, 3) by decide +kernel)
  · exact x_iload_n_ok (show decode cX4_owedTo 17 = .ok (.iload_n 3, 1) by decide +kernel) rfl
  · exact x_aald_ok (show decode cX4_owedTo 18 = .ok (.aaload, 1) by decide +kernel)
  · exact x_getI_ok (ci := 1) (k := 3) rfl (by decide) (by decide) hw_149 (show decode cX4_owedTo 19 = .ok (.getfield 49, 3) by decide +kernel)
  · exact x_iload_n_ok (show decode cX4_owedTo 22 = .ok (.iload_n 1, 1) by decide +kernel) rfl
  · exact x_cmpeq_ok (show decode cX4_owedTo 23 = .ok (.if_icmp .eq 7, 3) by decide +kernel) (by decide)
  · exact x_iconst_ok (show decode cX4_owedTo 26 = .ok (.iconst 0, 1) by decide +kernel) (by decide)
  · exact x_goto_ok (show decode cX4_owedTo 27 = .ok (.goto 12, 3) by decide +kernel) (by decide)
  · exact x_aload_n_ok (show decode cX4_owedTo 30 = .ok (.aload_n 0, 1) by decide +kernel) rfl
  · exact x_getR_ok (ci := 3) (k := 0) rfl (by decide) (by decide) hw_173 (show decode cX4_owedTo 31 = .ok (.getfield 13, 3) by decide +kernel)
  · exact x_iload_n_ok (show decode cX4_owedTo 34 = .ok (.iload_n 3, 1) by decide +kernel) rfl
  · exact x_aald_ok (show decode cX4_owedTo 35 = .ok (.aaload, 1) by decide +kernel)
  · exact x_callV_ok (ci := 1) rfl (by decide) (sX2_owed l) hw_599 hw_596 hw_597 hw_598 hw_65 ⟨by decide, by decide, by decide +kernel⟩ rfl (by decide) (by decide) (show decode cX4_owedTo 36 = .ok (.invokevirtual 81, 3) by decide +kernel)
  · exact x_iret_ok (show decode cX4_owedTo 39 = .ok (.ireturn, 1) by decide +kernel)
noncomputable def FX4_owedTo : List Value → xS → Option xR := xden tX4_owedTo 4 (some .int) 0
theorem sX4_owedTo (l : Launch) : xSound l yX4_owedTo cX4_owedTo 4 (some .int) 6 0 FX4_owedTo := x_den (by decide) (tX4_owedTo_ok l)
noncomputable def tX8_lives : List (Nat × xO) := [(0, x_iload 1 1), (1, x_push (.int (nI 4)) 1), (2, x_call 0 2 FX8_among), (5, x_ifne 10), (8, x_push (.int (-1)) 1), (9, x_iret), (10, x_aload 0 1), (11, x_iload 2 1), (12, x_push (.int (nI 0)) 1), (13, x_push (.int (nI 40)) 2), (15, x_callV 6 0 4 FX8_refusalOfShades), (18, x_istore 3 1), (19, x_iload 3 1), (20, x_ifeq 25), (23, x_iload 3 1), (24, x_iret), (25, x_push (.int (nI 0)) 1), (26, x_istore 4 2), (28, x_push (.int (nI 0)) 1), (29, x_istore 5 2), (31, x_iload 5 2), (33, x_aload 0 1), (34, x_getR 6 0), (37, x_iload 2 1), (38, x_aald), (39, x_getI 4 1), (42, x_cmpge 78), (45, x_iload 4 2), (47, x_push (.int (nI 3)) 1), (48, x_aload 0 1), (49, x_getR 6 2), (52, x_iload 1 1), (53, x_aload 0 1), (54, x_getR 6 0), (57, x_iload 2 1), (58, x_aald), (59, x_getR 4 0), (62, x_iload 5 2), (64, x_iald), (65, x_callV 3 0 3 FX4_owedTo), (68, x_ii (fun x y => x * y)), (69, x_ii (fun x y => x + y)), (70, x_istore 4 2), (72, x_iinc 5 (nI 1)), (75, x_goto 31), (78, x_iload 4 2), (80, x_iret)]
set_option maxRecDepth 100000 in
theorem tX8_lives_ok (l : Launch) : ∀ q ∈ tX8_lives, xOK l cX8_lives RX8 6 7 0 (yX8_lives.name = "<init>") q.1 q.2 := by
  unfold tX8_lives
  refine List.forall_mem_cons.mpr ⟨?_, List.forall_mem_cons.mpr ⟨?_, List.forall_mem_cons.mpr ⟨?_, List.forall_mem_cons.mpr ⟨?_, List.forall_mem_cons.mpr ⟨?_, List.forall_mem_cons.mpr ⟨?_, List.forall_mem_cons.mpr ⟨?_, List.forall_mem_cons.mpr ⟨?_, List.forall_mem_cons.mpr ⟨?_, List.forall_mem_cons.mpr ⟨?_, List.forall_mem_cons.mpr ⟨?_, List.forall_mem_cons.mpr ⟨?_, List.forall_mem_cons.mpr ⟨?_, List.forall_mem_cons.mpr ⟨?_, List.forall_mem_cons.mpr ⟨?_, List.forall_mem_cons.mpr ⟨?_, List.forall_mem_cons.mpr ⟨?_, List.forall_mem_cons.mpr ⟨?_, List.forall_mem_cons.mpr ⟨?_, List.forall_mem_cons.mpr ⟨?_, List.forall_mem_cons.mpr ⟨?_, List.forall_mem_cons.mpr ⟨?_, List.forall_mem_cons.mpr ⟨?_, List.forall_mem_cons.mpr ⟨?_, List.forall_mem_cons.mpr ⟨?_, List.forall_mem_cons.mpr ⟨?_, List.forall_mem_cons.mpr ⟨?_, List.forall_mem_cons.mpr ⟨?_, List.forall_mem_cons.mpr ⟨?_, List.forall_mem_cons.mpr ⟨?_, List.forall_mem_cons.mpr ⟨?_, List.forall_mem_cons.mpr ⟨?_, List.forall_mem_cons.mpr ⟨?_, List.forall_mem_cons.mpr ⟨?_, List.forall_mem_cons.mpr ⟨?_, List.forall_mem_cons.mpr ⟨?_, List.forall_mem_cons.mpr ⟨?_, List.forall_mem_cons.mpr ⟨?_, List.forall_mem_cons.mpr ⟨?_, List.forall_mem_cons.mpr ⟨?_, List.forall_mem_cons.mpr ⟨?_, List.forall_mem_cons.mpr ⟨?_, List.forall_mem_cons.mpr ⟨?_, List.forall_mem_cons.mpr ⟨?_, List.forall_mem_cons.mpr ⟨?_, List.forall_mem_cons.mpr ⟨?_, List.forall_mem_cons.mpr ⟨?_, fun _ h => absurd h List.not_mem_nil⟩⟩⟩⟩⟩⟩⟩⟩⟩⟩⟩⟩⟩⟩⟩⟩⟩⟩⟩⟩⟩⟩⟩⟩⟩⟩⟩⟩⟩⟩⟩⟩⟩⟩⟩⟩⟩⟩⟩⟩⟩⟩⟩⟩⟩⟩⟩
  · exact x_iload_n_ok (show decode cX8_lives 0 = .ok (.iload_n 1, 1) by decide +kernel) rfl
  · exact x_iconst_ok (show decode cX8_lives 1 = .ok (.iconst 4, 1) by decide +kernel) (by decide)
  · exact x_callS_ok (sX8_among l) hw_268 hw_266 hw_267 hw_61 ⟨by decide, by decide, by decide +kernel⟩ (by decide) (by decide) (show decode cX8_lives 2 = .ok (.invokestatic 65, 3) by decide +kernel)
  · exact x_ifne_ok (show decode cX8_lives 5 = .ok (.ifCond .ne 5, 3) by decide +kernel) (by decide)
  · exact x_iconst_ok (show decode cX8_lives 8 = .ok (.iconst (-1), 1) by decide +kernel) (by decide)
  · exact x_iret_ok (show decode cX8_lives 9 = .ok (.ireturn, 1) by decide +kernel)
  · exact x_aload_n_ok (show decode cX8_lives 10 = .ok (.aload_n 0, 1) by decide +kernel) rfl
  · exact x_iload_n_ok (show decode cX8_lives 11 = .ok (.iload_n 2, 1) by decide +kernel) rfl
  · exact x_iconst_ok (show decode cX8_lives 12 = .ok (.iconst 0, 1) by decide +kernel) (by decide)
  · exact x_bipush_ok (show decode cX8_lives 13 = .ok (.bipush 40, 2) by decide +kernel) (by decide)
  · exact x_callV_ok (ci := 6) rfl (by decide) (sX8_refusalOfShades l) hw_632 hw_629 hw_631 hw_10 hw_61 ⟨by decide, by decide, by decide +kernel⟩ rfl (by decide) (by decide) (show decode cX8_lives 15 = .ok (.invokevirtual 208, 3) by decide +kernel)
  · exact x_istore_n_ok (show decode cX8_lives 18 = .ok (.istore_n 3, 1) by decide +kernel) rfl (by decide)
  · exact x_iload_n_ok (show decode cX8_lives 19 = .ok (.iload_n 3, 1) by decide +kernel) rfl
  · exact x_ifeq_ok (show decode cX8_lives 20 = .ok (.ifCond .eq 5, 3) by decide +kernel) (by decide)
  · exact x_iload_n_ok (show decode cX8_lives 23 = .ok (.iload_n 3, 1) by decide +kernel) rfl
  · exact x_iret_ok (show decode cX8_lives 24 = .ok (.ireturn, 1) by decide +kernel)
  · exact x_iconst_ok (show decode cX8_lives 25 = .ok (.iconst 0, 1) by decide +kernel) (by decide)
  · exact x_istore_ok (show decode cX8_lives 26 = .ok (.istore 4, 2) by decide +kernel) (by decide)
  · exact x_iconst_ok (show decode cX8_lives 28 = .ok (.iconst 0, 1) by decide +kernel) (by decide)
  · exact x_istore_ok (show decode cX8_lives 29 = .ok (.istore 5, 2) by decide +kernel) (by decide)
  · exact x_iload_ok (show decode cX8_lives 31 = .ok (.iload 5, 2) by decide +kernel)
  · exact x_aload_n_ok (show decode cX8_lives 33 = .ok (.aload_n 0, 1) by decide +kernel) rfl
  · exact x_getR_ok (ci := 6) (k := 0) rfl (by decide) (by decide) hw_222 (show decode cX8_lives 34 = .ok (.getfield 11, 3) by decide +kernel)
  · exact x_iload_n_ok (show decode cX8_lives 37 = .ok (.iload_n 2, 1) by decide +kernel) rfl
  · exact x_aald_ok (show decode cX8_lives 38 = .ok (.aaload, 1) by decide +kernel)
  · exact x_getI_ok (ci := 4) (k := 1) rfl (by decide) (by decide) hw_100 (show decode cX8_lives 39 = .ok (.getfield 107, 3) by decide +kernel)
  · exact x_cmpge_ok (show decode cX8_lives 42 = .ok (.if_icmp .ge 36, 3) by decide +kernel) (by decide)
  · exact x_iload_ok (show decode cX8_lives 45 = .ok (.iload 4, 2) by decide +kernel)
  · exact x_iconst_ok (show decode cX8_lives 47 = .ok (.iconst 3, 1) by decide +kernel) (by decide)
  · exact x_aload_n_ok (show decode cX8_lives 48 = .ok (.aload_n 0, 1) by decide +kernel) rfl
  · exact x_getR_ok (ci := 6) (k := 2) rfl (by decide) (by decide) hw_224 (show decode cX8_lives 49 = .ok (.getfield 26, 3) by decide +kernel)
  · exact x_iload_n_ok (show decode cX8_lives 52 = .ok (.iload_n 1, 1) by decide +kernel) rfl
  · exact x_aload_n_ok (show decode cX8_lives 53 = .ok (.aload_n 0, 1) by decide +kernel) rfl
  · exact x_getR_ok (ci := 6) (k := 0) rfl (by decide) (by decide) hw_222 (show decode cX8_lives 54 = .ok (.getfield 11, 3) by decide +kernel)
  · exact x_iload_n_ok (show decode cX8_lives 57 = .ok (.iload_n 2, 1) by decide +kernel) rfl
  · exact x_aald_ok (show decode cX8_lives 58 = .ok (.aaload, 1) by decide +kernel)
  · exact x_getR_ok (ci := 4) (k := 0) rfl (by decide) (by decide) hw_96 (show decode cX8_lives 59 = .ok (.getfield 81, 3) by decide +kernel)
  · exact x_iload_ok (show decode cX8_lives 62 = .ok (.iload 5, 2) by decide +kernel)
  · exact x_iald_ok (show decode cX8_lives 64 = .ok (.iaload, 1) by decide +kernel)
  · exact x_callV_ok (ci := 3) rfl (by decide) (sX4_owedTo l) hw_641 hw_638 hw_639 hw_640 hw_64 ⟨by decide, by decide, by decide +kernel⟩ rfl (by decide) (by decide) (show decode cX8_lives 65 = .ok (.invokevirtual 212, 3) by decide +kernel)
  · exact x_imul_ok (show decode cX8_lives 68 = .ok (.imul, 1) by decide +kernel)
  · exact x_iadd_ok (show decode cX8_lives 69 = .ok (.iadd, 1) by decide +kernel)
  · exact x_istore_ok (show decode cX8_lives 70 = .ok (.istore 4, 2) by decide +kernel) (by decide)
  · exact x_iinc_ok (show decode cX8_lives 72 = .ok (.iinc 5 1, 3) by decide +kernel) (by decide) (by decide)
  · exact x_goto_ok (show decode cX8_lives 75 = .ok (.goto (-44), 3) by decide +kernel) (by decide)
  · exact x_iload_ok (show decode cX8_lives 78 = .ok (.iload 4, 2) by decide +kernel)
  · exact x_iret_ok (show decode cX8_lives 80 = .ok (.ireturn, 1) by decide +kernel)
noncomputable def FX8_lives : List Value → xS → Option xR := xden tX8_lives 6 (some .int) 0
theorem sX8_lives (l : Launch) : xSound l yX8_lives cX8_lives 6 (some .int) 7 0 FX8_lives := x_den (by decide) (tX8_lives_ok l)
noncomputable def tX9_areShades : List (Nat × xO) := [(0, x_push (.int (nI 1)) 1), (1, x_istore 2 1), (2, x_push (.int (nI 0)) 1), (3, x_istore 3 1), (4, x_iload 3 1), (5, x_aload 0 1), (6, x_getR 7 1), (9, x_iload 1 1), (10, x_iald), (11, x_cmpge 47), (14, x_iload 2 1), (15, x_ifeq 39), (18, x_aload 0 1), (19, x_getR 7 2), (22, x_push (.int (nI 40)) 2), (24, x_iload 1 1), (25, x_ii (fun x y => x * y)), (26, x_iload 3 1), (27, x_ii (fun x y => x + y)), (28, x_iald), (29, x_call 0 1 FX9_isShade), (32, x_ifeq 39), (35, x_push (.int (nI 1)) 1), (36, x_goto 40), (39, x_push (.int (nI 0)) 1), (40, x_istore 2 1), (41, x_iinc 3 (nI 1)), (44, x_goto 4), (47, x_iload 2 1), (48, x_iret)]
set_option maxRecDepth 100000 in
theorem tX9_areShades_ok (l : Launch) : ∀ q ∈ tX9_areShades, xOK l cX9_areShades RX9 4 3 0 (yX9_areShades.name = "<init>") q.1 q.2 := by
  unfold tX9_areShades
  refine List.forall_mem_cons.mpr ⟨?_, List.forall_mem_cons.mpr ⟨?_, List.forall_mem_cons.mpr ⟨?_, List.forall_mem_cons.mpr ⟨?_, List.forall_mem_cons.mpr ⟨?_, List.forall_mem_cons.mpr ⟨?_, List.forall_mem_cons.mpr ⟨?_, List.forall_mem_cons.mpr ⟨?_, List.forall_mem_cons.mpr ⟨?_, List.forall_mem_cons.mpr ⟨?_, List.forall_mem_cons.mpr ⟨?_, List.forall_mem_cons.mpr ⟨?_, List.forall_mem_cons.mpr ⟨?_, List.forall_mem_cons.mpr ⟨?_, List.forall_mem_cons.mpr ⟨?_, List.forall_mem_cons.mpr ⟨?_, List.forall_mem_cons.mpr ⟨?_, List.forall_mem_cons.mpr ⟨?_, List.forall_mem_cons.mpr ⟨?_, List.forall_mem_cons.mpr ⟨?_, List.forall_mem_cons.mpr ⟨?_, List.forall_mem_cons.mpr ⟨?_, List.forall_mem_cons.mpr ⟨?_, List.forall_mem_cons.mpr ⟨?_, List.forall_mem_cons.mpr ⟨?_, List.forall_mem_cons.mpr ⟨?_, List.forall_mem_cons.mpr ⟨?_, List.forall_mem_cons.mpr ⟨?_, List.forall_mem_cons.mpr ⟨?_, List.forall_mem_cons.mpr ⟨?_, fun _ h => absurd h List.not_mem_nil⟩⟩⟩⟩⟩⟩⟩⟩⟩⟩⟩⟩⟩⟩⟩⟩⟩⟩⟩⟩⟩⟩⟩⟩⟩⟩⟩⟩⟩⟩
  · exact x_iconst_ok (show decode cX9_areShades 0 = .ok (.iconst 1, 1) by decide +kernel) (by decide)
  · exact x_istore_n_ok (show decode cX9_areShades 1 = .ok (.istore_n 2, 1) by decide +kernel) rfl (by decide)
  · exact x_iconst_ok (show decode cX9_areShades 2 = .ok (.iconst 0, 1) by decide +kernel) (by decide)
  · exact x_istore_n_ok (show decode cX9_areShades 3 = .ok (.istore_n 3, 1) by decide +kernel) rfl (by decide)
  · exact x_iload_n_ok (show decode cX9_areShades 4 = .ok (.iload_n 3, 1) by decide +kernel) rfl
  · exact x_aload_n_ok (show decode cX9_areShades 5 = .ok (.aload_n 0, 1) by decide +kernel) rfl
  · exact x_getR_ok (ci := 7) (k := 1) rfl (by decide) (by decide) hw_845 (show decode cX9_areShades 6 = .ok (.getfield 13, 3) by decide +kernel)
  · exact x_iload_n_ok (show decode cX9_areShades 9 = .ok (.iload_n 1, 1) by decide +kernel) rfl
  · exact x_iald_ok (show decode cX9_areShades 10 = .ok (.iaload, 1) by decide +kernel)
  · exact x_cmpge_ok (show decode cX9_areShades 11 = .ok (.if_icmp .ge 36, 3) by decide +kernel) (by decide)
  · exact x_iload_n_ok (show decode cX9_areShades 14 = .ok (.iload_n 2, 1) by decide +kernel) rfl
  · exact x_ifeq_ok (show decode cX9_areShades 15 = .ok (.ifCond .eq 24, 3) by decide +kernel) (by decide)
  · exact x_aload_n_ok (show decode cX9_areShades 18 = .ok (.aload_n 0, 1) by decide +kernel) rfl
  · exact x_getR_ok (ci := 7) (k := 2) rfl (by decide) (by decide) hw_846 (show decode cX9_areShades 19 = .ok (.getfield 16, 3) by decide +kernel)
  · exact x_bipush_ok (show decode cX9_areShades 22 = .ok (.bipush 40, 2) by decide +kernel) (by decide)
  · exact x_iload_n_ok (show decode cX9_areShades 24 = .ok (.iload_n 1, 1) by decide +kernel) rfl
  · exact x_imul_ok (show decode cX9_areShades 25 = .ok (.imul, 1) by decide +kernel)
  · exact x_iload_n_ok (show decode cX9_areShades 26 = .ok (.iload_n 3, 1) by decide +kernel) rfl
  · exact x_iadd_ok (show decode cX9_areShades 27 = .ok (.iadd, 1) by decide +kernel)
  · exact x_iald_ok (show decode cX9_areShades 28 = .ok (.iaload, 1) by decide +kernel)
  · exact x_callS_ok (sX9_isShade l) hw_1095 hw_1093 hw_1094 hw_68 ⟨by decide, by decide, by decide +kernel⟩ (by decide) (by decide) (show decode cX9_areShades 29 = .ok (.invokestatic 198, 3) by decide +kernel)
  · exact x_ifeq_ok (show decode cX9_areShades 32 = .ok (.ifCond .eq 7, 3) by decide +kernel) (by decide)
  · exact x_iconst_ok (show decode cX9_areShades 35 = .ok (.iconst 1, 1) by decide +kernel) (by decide)
  · exact x_goto_ok (show decode cX9_areShades 36 = .ok (.goto 4, 3) by decide +kernel) (by decide)
  · exact x_iconst_ok (show decode cX9_areShades 39 = .ok (.iconst 0, 1) by decide +kernel) (by decide)
  · exact x_istore_n_ok (show decode cX9_areShades 40 = .ok (.istore_n 2, 1) by decide +kernel) rfl (by decide)
  · exact x_iinc_ok (show decode cX9_areShades 41 = .ok (.iinc 3 1, 3) by decide +kernel) (by decide) (by decide)
  · exact x_goto_ok (show decode cX9_areShades 44 = .ok (.goto (-40), 3) by decide +kernel) (by decide)
  · exact x_iload_n_ok (show decode cX9_areShades 47 = .ok (.iload_n 2, 1) by decide +kernel) rfl
  · exact x_iret_ok (show decode cX9_areShades 48 = .ok (.ireturn, 1) by decide +kernel)
noncomputable def FX9_areShades : List Value → xS → Option xR := xden tX9_areShades 4 (some .boolean) 0
theorem sX9_areShades (l : Launch) : xSound l yX9_areShades cX9_areShades 4 (some .boolean) 3 0 FX9_areShades := x_den (by decide) (tX9_areShades_ok l)
noncomputable def tX9_ownerOf : List (Nat × xO) := [(0, x_aload 0 1), (1, x_iload 1 1), (2, x_callV 7 0 2 FX9_caller), (5, x_istore 2 1), (6, x_iload 2 1), (7, x_push (.int (-9)) 2), (9, x_cmpne 17), (12, x_push (.int (-9)) 2), (14, x_goto 23), (17, x_aload 0 1), (18, x_iload 2 1), (19, x_push (.int (nI 4)) 1), (20, x_callV 7 0 3 FX9_of), (23, x_iret)]
set_option maxRecDepth 100000 in
theorem tX9_ownerOf_ok (l : Launch) : ∀ q ∈ tX9_ownerOf, xOK l cX9_ownerOf RX9 3 7 0 (yX9_ownerOf.name = "<init>") q.1 q.2 := by
  unfold tX9_ownerOf
  refine List.forall_mem_cons.mpr ⟨?_, List.forall_mem_cons.mpr ⟨?_, List.forall_mem_cons.mpr ⟨?_, List.forall_mem_cons.mpr ⟨?_, List.forall_mem_cons.mpr ⟨?_, List.forall_mem_cons.mpr ⟨?_, List.forall_mem_cons.mpr ⟨?_, List.forall_mem_cons.mpr ⟨?_, List.forall_mem_cons.mpr ⟨?_, List.forall_mem_cons.mpr ⟨?_, List.forall_mem_cons.mpr ⟨?_, List.forall_mem_cons.mpr ⟨?_, List.forall_mem_cons.mpr ⟨?_, List.forall_mem_cons.mpr ⟨?_, fun _ h => absurd h List.not_mem_nil⟩⟩⟩⟩⟩⟩⟩⟩⟩⟩⟩⟩⟩⟩
  · exact x_aload_n_ok (show decode cX9_ownerOf 0 = .ok (.aload_n 0, 1) by decide +kernel) rfl
  · exact x_iload_n_ok (show decode cX9_ownerOf 1 = .ok (.iload_n 1, 1) by decide +kernel) rfl
  · exact x_callV_ok (ci := 7) rfl (by decide) (sX9_caller l) hw_1054 hw_1051 hw_1053 hw_34 hw_68 ⟨by decide, by decide, by decide +kernel⟩ rfl (by decide) (by decide) (show decode cX9_ownerOf 2 = .ok (.invokevirtual 164, 3) by decide +kernel)
  · exact x_istore_n_ok (show decode cX9_ownerOf 5 = .ok (.istore_n 2, 1) by decide +kernel) rfl (by decide)
  · exact x_iload_n_ok (show decode cX9_ownerOf 6 = .ok (.iload_n 2, 1) by decide +kernel) rfl
  · exact x_bipush_ok (show decode cX9_ownerOf 7 = .ok (.bipush (-9), 2) by decide +kernel) (by decide)
  · exact x_cmpne_ok (show decode cX9_ownerOf 9 = .ok (.if_icmp .ne 8, 3) by decide +kernel) (by decide)
  · exact x_bipush_ok (show decode cX9_ownerOf 12 = .ok (.bipush (-9), 2) by decide +kernel) (by decide)
  · exact x_goto_ok (show decode cX9_ownerOf 14 = .ok (.goto 9, 3) by decide +kernel) (by decide)
  · exact x_aload_n_ok (show decode cX9_ownerOf 17 = .ok (.aload_n 0, 1) by decide +kernel) rfl
  · exact x_iload_n_ok (show decode cX9_ownerOf 18 = .ok (.iload_n 2, 1) by decide +kernel) rfl
  · exact x_iconst_ok (show decode cX9_ownerOf 19 = .ok (.iconst 4, 1) by decide +kernel) (by decide)
  · exact x_callV_ok (ci := 7) rfl (by decide) (sX9_of l) hw_1019 hw_1016 hw_1018 hw_30 hw_68 ⟨by decide, by decide, by decide +kernel⟩ rfl (by decide) (by decide) (show decode cX9_ownerOf 20 = .ok (.invokevirtual 128, 3) by decide +kernel)
  · exact x_iret_ok (show decode cX9_ownerOf 23 = .ok (.ireturn, 1) by decide +kernel)
noncomputable def FX9_ownerOf : List Value → xS → Option xR := xden tX9_ownerOf 3 (some .int) 0
theorem sX9_ownerOf (l : Launch) : xSound l yX9_ownerOf cX9_ownerOf 3 (some .int) 7 0 FX9_ownerOf := x_den (by decide) (tX9_ownerOf_ok l)
noncomputable def tX9_lives : List (Nat × xO) := [(0, x_iload 1 1), (1, x_call 0 1 FX9_isPerson), (4, x_ifeq 14), (7, x_iload 2 1), (8, x_call 0 1 FX9_isRow), (11, x_ifne 16), (14, x_push (.int (-1)) 1), (15, x_iret), (16, x_aload 0 1), (17, x_getR 7 1), (20, x_iload 2 1), (21, x_iald), (22, x_ifge 31), (25, x_aload 0 1), (26, x_push (.int (nI 1)) 1), (27, x_callV 7 0 2 FX9_find), (30, x_iret), (31, x_aload 0 1), (32, x_iload 2 1), (33, x_callV 7 0 2 FX9_areShades), (36, x_ifne 45), (39, x_aload 0 1), (40, x_push (.int (nI 3)) 1), (41, x_callV 7 0 2 FX9_find), (44, x_iret), (45, x_push (.int (nI 0)) 1), (46, x_istore 3 1), (47, x_push (.int (nI 0)) 1), (48, x_istore 4 2), (50, x_iload 4 2), (52, x_aload 0 1), (53, x_getR 7 1), (56, x_iload 2 1), (57, x_iald), (58, x_cmpge 119), (61, x_aload 0 1), (62, x_getR 7 2), (65, x_push (.int (nI 40)) 2), (67, x_iload 2 1), (68, x_ii (fun x y => x * y)), (69, x_iload 4 2), (71, x_ii (fun x y => x + y)), (72, x_iald), (73, x_istore 5 2), (75, x_iload 1 1), (76, x_ifne 83), (79, x_push (.int (nI 1)) 1), (80, x_goto 84), (83, x_push (.int (nI 0)) 1), (84, x_istore 6 2), (86, x_iload 3 1), (87, x_aload 0 1), (88, x_iload 5 2), (90, x_callV 7 0 2 FX9_ownerOf), (93, x_iload 1 1), (94, x_cmpne 110), (97, x_push (.int (nI 3)) 1), (98, x_aload 0 1), (99, x_iload 6 2), (101, x_iload 5 2), (103, x_callV 7 0 3 FX9_dueFor), (106, x_ii (fun x y => x * y)), (107, x_goto 111), (110, x_push (.int (nI 0)) 1), (111, x_ii (fun x y => x + y)), (112, x_istore 3 1), (113, x_iinc 4 (nI 1)), (116, x_goto 50), (119, x_iload 3 1), (120, x_iret)]
set_option maxRecDepth 100000 in
theorem tX9_lives_ok (l : Launch) : ∀ q ∈ tX9_lives, xOK l cX9_lives RX9 7 8 0 (yX9_lives.name = "<init>") q.1 q.2 := by
  unfold tX9_lives
  refine List.forall_mem_cons.mpr ⟨?_, List.forall_mem_cons.mpr ⟨?_, List.forall_mem_cons.mpr ⟨?_, List.forall_mem_cons.mpr ⟨?_, List.forall_mem_cons.mpr ⟨?_, List.forall_mem_cons.mpr ⟨?_, List.forall_mem_cons.mpr ⟨?_, List.forall_mem_cons.mpr ⟨?_, List.forall_mem_cons.mpr ⟨?_, List.forall_mem_cons.mpr ⟨?_, List.forall_mem_cons.mpr ⟨?_, List.forall_mem_cons.mpr ⟨?_, List.forall_mem_cons.mpr ⟨?_, List.forall_mem_cons.mpr ⟨?_, List.forall_mem_cons.mpr ⟨?_, List.forall_mem_cons.mpr ⟨?_, List.forall_mem_cons.mpr ⟨?_, List.forall_mem_cons.mpr ⟨?_, List.forall_mem_cons.mpr ⟨?_, List.forall_mem_cons.mpr ⟨?_, List.forall_mem_cons.mpr ⟨?_, List.forall_mem_cons.mpr ⟨?_, List.forall_mem_cons.mpr ⟨?_, List.forall_mem_cons.mpr ⟨?_, List.forall_mem_cons.mpr ⟨?_, List.forall_mem_cons.mpr ⟨?_, List.forall_mem_cons.mpr ⟨?_, List.forall_mem_cons.mpr ⟨?_, List.forall_mem_cons.mpr ⟨?_, List.forall_mem_cons.mpr ⟨?_, List.forall_mem_cons.mpr ⟨?_, List.forall_mem_cons.mpr ⟨?_, List.forall_mem_cons.mpr ⟨?_, List.forall_mem_cons.mpr ⟨?_, List.forall_mem_cons.mpr ⟨?_, List.forall_mem_cons.mpr ⟨?_, List.forall_mem_cons.mpr ⟨?_, List.forall_mem_cons.mpr ⟨?_, List.forall_mem_cons.mpr ⟨?_, List.forall_mem_cons.mpr ⟨?_, List.forall_mem_cons.mpr ⟨?_, List.forall_mem_cons.mpr ⟨?_, List.forall_mem_cons.mpr ⟨?_, List.forall_mem_cons.mpr ⟨?_, List.forall_mem_cons.mpr ⟨?_, List.forall_mem_cons.mpr ⟨?_, List.forall_mem_cons.mpr ⟨?_, List.forall_mem_cons.mpr ⟨?_, List.forall_mem_cons.mpr ⟨?_, List.forall_mem_cons.mpr ⟨?_, List.forall_mem_cons.mpr ⟨?_, List.forall_mem_cons.mpr ⟨?_, List.forall_mem_cons.mpr ⟨?_, List.forall_mem_cons.mpr ⟨?_, List.forall_mem_cons.mpr ⟨?_, List.forall_mem_cons.mpr ⟨?_, List.forall_mem_cons.mpr ⟨?_, List.forall_mem_cons.mpr ⟨?_, List.forall_mem_cons.mpr ⟨?_, List.forall_mem_cons.mpr ⟨?_, List.forall_mem_cons.mpr ⟨?_, List.forall_mem_cons.mpr ⟨?_, List.forall_mem_cons.mpr ⟨?_, List.forall_mem_cons.mpr ⟨?_, List.forall_mem_cons.mpr ⟨?_, List.forall_mem_cons.mpr ⟨?_, List.forall_mem_cons.mpr ⟨?_, List.forall_mem_cons.mpr ⟨?_, List.forall_mem_cons.mpr ⟨?_, List.forall_mem_cons.mpr ⟨?_, fun _ h => absurd h List.not_mem_nil⟩⟩⟩⟩⟩⟩⟩⟩⟩⟩⟩⟩⟩⟩⟩⟩⟩⟩⟩⟩⟩⟩⟩⟩⟩⟩⟩⟩⟩⟩⟩⟩⟩⟩⟩⟩⟩⟩⟩⟩⟩⟩⟩⟩⟩⟩⟩⟩⟩⟩⟩⟩⟩⟩⟩⟩⟩⟩⟩⟩⟩⟩⟩⟩⟩⟩⟩⟩⟩⟩
  · exact x_iload_n_ok (show decode cX9_lives 0 = .ok (.iload_n 1, 1) by decide +kernel) rfl
  · exact x_callS_ok (sX9_isPerson l) hw_1099 hw_1097 hw_1098 hw_68 ⟨by decide, by decide, by decide +kernel⟩ (by decide) (by decide) (show decode cX9_lives 1 = .ok (.invokestatic 201, 3) by decide +kernel)
  · exact x_ifeq_ok (show decode cX9_lives 4 = .ok (.ifCond .eq 10, 3) by decide +kernel) (by decide)
  · exact x_iload_n_ok (show decode cX9_lives 7 = .ok (.iload_n 2, 1) by decide +kernel) rfl
  · exact x_callS_ok (sX9_isRow l) hw_914 hw_912 hw_913 hw_68 ⟨by decide, by decide, by decide +kernel⟩ (by decide) (by decide) (show decode cX9_lives 8 = .ok (.invokestatic 66, 3) by decide +kernel)
  · exact x_ifne_ok (show decode cX9_lives 11 = .ok (.ifCond .ne 5, 3) by decide +kernel) (by decide)
  · exact x_iconst_ok (show decode cX9_lives 14 = .ok (.iconst (-1), 1) by decide +kernel) (by decide)
  · exact x_iret_ok (show decode cX9_lives 15 = .ok (.ireturn, 1) by decide +kernel)
  · exact x_aload_n_ok (show decode cX9_lives 16 = .ok (.aload_n 0, 1) by decide +kernel) rfl
  · exact x_getR_ok (ci := 7) (k := 1) rfl (by decide) (by decide) hw_845 (show decode cX9_lives 17 = .ok (.getfield 13, 3) by decide +kernel)
  · exact x_iload_n_ok (show decode cX9_lives 20 = .ok (.iload_n 2, 1) by decide +kernel) rfl
  · exact x_iald_ok (show decode cX9_lives 21 = .ok (.iaload, 1) by decide +kernel)
  · exact x_ifge_ok (show decode cX9_lives 22 = .ok (.ifCond .ge 9, 3) by decide +kernel) (by decide)
  · exact x_aload_n_ok (show decode cX9_lives 25 = .ok (.aload_n 0, 1) by decide +kernel) rfl
  · exact x_iconst_ok (show decode cX9_lives 26 = .ok (.iconst 1, 1) by decide +kernel) (by decide)
  · exact x_callV_ok (ci := 7) rfl (by decide) (sX9_find l) hw_922 hw_919 hw_921 hw_18 hw_68 ⟨by decide, by decide, by decide +kernel⟩ rfl (by decide) (by decide) (show decode cX9_lives 27 = .ok (.invokevirtual 70, 3) by decide +kernel)
  · exact x_iret_ok (show decode cX9_lives 30 = .ok (.ireturn, 1) by decide +kernel)
  · exact x_aload_n_ok (show decode cX9_lives 31 = .ok (.aload_n 0, 1) by decide +kernel) rfl
  · exact x_iload_n_ok (show decode cX9_lives 32 = .ok (.iload_n 2, 1) by decide +kernel) rfl
  · exact x_callV_ok (ci := 7) rfl (by decide) (sX9_areShades l) hw_1175 hw_1172 hw_1174 hw_46 hw_68 ⟨by decide, by decide, by decide +kernel⟩ rfl (by decide) (by decide) (show decode cX9_lives 33 = .ok (.invokevirtual 227, 3) by decide +kernel)
  · exact x_ifne_ok (show decode cX9_lives 36 = .ok (.ifCond .ne 9, 3) by decide +kernel) (by decide)
  · exact x_aload_n_ok (show decode cX9_lives 39 = .ok (.aload_n 0, 1) by decide +kernel) rfl
  · exact x_iconst_ok (show decode cX9_lives 40 = .ok (.iconst 3, 1) by decide +kernel) (by decide)
  · exact x_callV_ok (ci := 7) rfl (by decide) (sX9_find l) hw_922 hw_919 hw_921 hw_18 hw_68 ⟨by decide, by decide, by decide +kernel⟩ rfl (by decide) (by decide) (show decode cX9_lives 41 = .ok (.invokevirtual 70, 3) by decide +kernel)
  · exact x_iret_ok (show decode cX9_lives 44 = .ok (.ireturn, 1) by decide +kernel)
  · exact x_iconst_ok (show decode cX9_lives 45 = .ok (.iconst 0, 1) by decide +kernel) (by decide)
  · exact x_istore_n_ok (show decode cX9_lives 46 = .ok (.istore_n 3, 1) by decide +kernel) rfl (by decide)
  · exact x_iconst_ok (show decode cX9_lives 47 = .ok (.iconst 0, 1) by decide +kernel) (by decide)
  · exact x_istore_ok (show decode cX9_lives 48 = .ok (.istore 4, 2) by decide +kernel) (by decide)
  · exact x_iload_ok (show decode cX9_lives 50 = .ok (.iload 4, 2) by decide +kernel)
  · exact x_aload_n_ok (show decode cX9_lives 52 = .ok (.aload_n 0, 1) by decide +kernel) rfl
  · exact x_getR_ok (ci := 7) (k := 1) rfl (by decide) (by decide) hw_845 (show decode cX9_lives 53 = .ok (.getfield 13, 3) by decide +kernel)
  · exact x_iload_n_ok (show decode cX9_lives 56 = .ok (.iload_n 2, 1) by decide +kernel) rfl
  · exact x_iald_ok (show decode cX9_lives 57 = .ok (.iaload, 1) by decide +kernel)
  · exact x_cmpge_ok (show decode cX9_lives 58 = .ok (.if_icmp .ge 61, 3) by decide +kernel) (by decide)
  · exact x_aload_n_ok (show decode cX9_lives 61 = .ok (.aload_n 0, 1) by decide +kernel) rfl
  · exact x_getR_ok (ci := 7) (k := 2) rfl (by decide) (by decide) hw_846 (show decode cX9_lives 62 = .ok (.getfield 16, 3) by decide +kernel)
  · exact x_bipush_ok (show decode cX9_lives 65 = .ok (.bipush 40, 2) by decide +kernel) (by decide)
  · exact x_iload_n_ok (show decode cX9_lives 67 = .ok (.iload_n 2, 1) by decide +kernel) rfl
  · exact x_imul_ok (show decode cX9_lives 68 = .ok (.imul, 1) by decide +kernel)
  · exact x_iload_ok (show decode cX9_lives 69 = .ok (.iload 4, 2) by decide +kernel)
  · exact x_iadd_ok (show decode cX9_lives 71 = .ok (.iadd, 1) by decide +kernel)
  · exact x_iald_ok (show decode cX9_lives 72 = .ok (.iaload, 1) by decide +kernel)
  · exact x_istore_ok (show decode cX9_lives 73 = .ok (.istore 5, 2) by decide +kernel) (by decide)
  · exact x_iload_n_ok (show decode cX9_lives 75 = .ok (.iload_n 1, 1) by decide +kernel) rfl
  · exact x_ifne_ok (show decode cX9_lives 76 = .ok (.ifCond .ne 7, 3) by decide +kernel) (by decide)
  · exact x_iconst_ok (show decode cX9_lives 79 = .ok (.iconst 1, 1) by decide +kernel) (by decide)
  · exact x_goto_ok (show decode cX9_lives 80 = .ok (.goto 4, 3) by decide +kernel) (by decide)
  · exact x_iconst_ok (show decode cX9_lives 83 = .ok (.iconst 0, 1) by decide +kernel) (by decide)
  · exact x_istore_ok (show decode cX9_lives 84 = .ok (.istore 6, 2) by decide +kernel) (by decide)
  · exact x_iload_n_ok (show decode cX9_lives 86 = .ok (.iload_n 3, 1) by decide +kernel) rfl
  · exact x_aload_n_ok (show decode cX9_lives 87 = .ok (.aload_n 0, 1) by decide +kernel) rfl
  · exact x_iload_ok (show decode cX9_lives 88 = .ok (.iload 5, 2) by decide +kernel)
  · exact x_callV_ok (ci := 7) rfl (by decide) (sX9_ownerOf l) hw_1179 hw_1176 hw_1178 hw_47 hw_68 ⟨by decide, by decide, by decide +kernel⟩ rfl (by decide) (by decide) (show decode cX9_lives 90 = .ok (.invokevirtual 230, 3) by decide +kernel)
  · exact x_iload_n_ok (show decode cX9_lives 93 = .ok (.iload_n 1, 1) by decide +kernel) rfl
  · exact x_cmpne_ok (show decode cX9_lives 94 = .ok (.if_icmp .ne 16, 3) by decide +kernel) (by decide)
  · exact x_iconst_ok (show decode cX9_lives 97 = .ok (.iconst 3, 1) by decide +kernel) (by decide)
  · exact x_aload_n_ok (show decode cX9_lives 98 = .ok (.aload_n 0, 1) by decide +kernel) rfl
  · exact x_iload_ok (show decode cX9_lives 99 = .ok (.iload 6, 2) by decide +kernel)
  · exact x_iload_ok (show decode cX9_lives 101 = .ok (.iload 5, 2) by decide +kernel)
  · exact x_callV_ok (ci := 7) rfl (by decide) (sX9_dueFor l) hw_1140 hw_1137 hw_1139 hw_42 hw_68 ⟨by decide, by decide, by decide +kernel⟩ rfl (by decide) (by decide) (show decode cX9_lives 103 = .ok (.invokevirtual 212, 3) by decide +kernel)
  · exact x_imul_ok (show decode cX9_lives 106 = .ok (.imul, 1) by decide +kernel)
  · exact x_goto_ok (show decode cX9_lives 107 = .ok (.goto 4, 3) by decide +kernel) (by decide)
  · exact x_iconst_ok (show decode cX9_lives 110 = .ok (.iconst 0, 1) by decide +kernel) (by decide)
  · exact x_iadd_ok (show decode cX9_lives 111 = .ok (.iadd, 1) by decide +kernel)
  · exact x_istore_n_ok (show decode cX9_lives 112 = .ok (.istore_n 3, 1) by decide +kernel) rfl (by decide)
  · exact x_iinc_ok (show decode cX9_lives 113 = .ok (.iinc 4 1, 3) by decide +kernel) (by decide) (by decide)
  · exact x_goto_ok (show decode cX9_lives 116 = .ok (.goto (-66), 3) by decide +kernel) (by decide)
  · exact x_iload_n_ok (show decode cX9_lives 119 = .ok (.iload_n 3, 1) by decide +kernel) rfl
  · exact x_iret_ok (show decode cX9_lives 120 = .ok (.ireturn, 1) by decide +kernel)
noncomputable def FX9_lives : List Value → xS → Option xR := xden tX9_lives 7 (some .int) 0
theorem sX9_lives (l : Launch) : xSound l yX9_lives cX9_lives 7 (some .int) 8 0 FX9_lives := x_den (by decide) (tX9_lives_ok l)
noncomputable def tX0_placesReached : List (Nat × xO) := [(0, x_push (.int (nI 0)) 1), (1, x_istore 3 1), (2, x_push (.int (nI 0)) 1), (3, x_istore 4 2), (5, x_iload 4 2), (7, x_aload 0 1), (8, x_getI 4 1), (11, x_cmpge 43), (14, x_push (.int (nI 0)) 1), (15, x_iload 1 1), (16, x_iload 2 1), (17, x_aload 0 1), (18, x_getR 4 0), (21, x_iload 4 2), (23, x_iald), (24, x_call 0 4 FX1_reaches), (27, x_ifeq 37), (30, x_iload 3 1), (31, x_push (.int (nI 1)) 1), (32, x_iload 4 2), (34, x_ii (fun x y => x <<< (y &&& 31))), (35, x_ii (fun x y => x ||| y)), (36, x_istore 3 1), (37, x_iinc 4 (nI 1)), (40, x_goto 5), (43, x_iload 3 1), (44, x_iret)]
set_option maxRecDepth 100000 in
theorem tX0_placesReached_ok (l : Launch) : ∀ q ∈ tX0_placesReached, xOK l cX0_placesReached RX0 5 4 0 (yX0_placesReached.name = "<init>") q.1 q.2 := by
  unfold tX0_placesReached
  refine List.forall_mem_cons.mpr ⟨?_, List.forall_mem_cons.mpr ⟨?_, List.forall_mem_cons.mpr ⟨?_, List.forall_mem_cons.mpr ⟨?_, List.forall_mem_cons.mpr ⟨?_, List.forall_mem_cons.mpr ⟨?_, List.forall_mem_cons.mpr ⟨?_, List.forall_mem_cons.mpr ⟨?_, List.forall_mem_cons.mpr ⟨?_, List.forall_mem_cons.mpr ⟨?_, List.forall_mem_cons.mpr ⟨?_, List.forall_mem_cons.mpr ⟨?_, List.forall_mem_cons.mpr ⟨?_, List.forall_mem_cons.mpr ⟨?_, List.forall_mem_cons.mpr ⟨?_, List.forall_mem_cons.mpr ⟨?_, List.forall_mem_cons.mpr ⟨?_, List.forall_mem_cons.mpr ⟨?_, List.forall_mem_cons.mpr ⟨?_, List.forall_mem_cons.mpr ⟨?_, List.forall_mem_cons.mpr ⟨?_, List.forall_mem_cons.mpr ⟨?_, List.forall_mem_cons.mpr ⟨?_, List.forall_mem_cons.mpr ⟨?_, List.forall_mem_cons.mpr ⟨?_, List.forall_mem_cons.mpr ⟨?_, List.forall_mem_cons.mpr ⟨?_, fun _ h => absurd h List.not_mem_nil⟩⟩⟩⟩⟩⟩⟩⟩⟩⟩⟩⟩⟩⟩⟩⟩⟩⟩⟩⟩⟩⟩⟩⟩⟩⟩⟩
  · exact x_iconst_ok (show decode cX0_placesReached 0 = .ok (.iconst 0, 1) by decide +kernel) (by decide)
  · exact x_istore_n_ok (show decode cX0_placesReached 1 = .ok (.istore_n 3, 1) by decide +kernel) rfl (by decide)
  · exact x_iconst_ok (show decode cX0_placesReached 2 = .ok (.iconst 0, 1) by decide +kernel) (by decide)
  · exact x_istore_ok (show decode cX0_placesReached 3 = .ok (.istore 4, 2) by decide +kernel) (by decide)
  · exact x_iload_ok (show decode cX0_placesReached 5 = .ok (.iload 4, 2) by decide +kernel)
  · exact x_aload_n_ok (show decode cX0_placesReached 7 = .ok (.aload_n 0, 1) by decide +kernel) rfl
  · exact x_getI_ok (ci := 4) (k := 1) rfl (by decide) (by decide) hw_99 (show decode cX0_placesReached 8 = .ok (.getfield 17, 3) by decide +kernel)
  · exact x_cmpge_ok (show decode cX0_placesReached 11 = .ok (.if_icmp .ge 32, 3) by decide +kernel) (by decide)
  · exact x_iconst_ok (show decode cX0_placesReached 14 = .ok (.iconst 0, 1) by decide +kernel) (by decide)
  · exact x_iload_n_ok (show decode cX0_placesReached 15 = .ok (.iload_n 1, 1) by decide +kernel) rfl
  · exact x_iload_n_ok (show decode cX0_placesReached 16 = .ok (.iload_n 2, 1) by decide +kernel) rfl
  · exact x_aload_n_ok (show decode cX0_placesReached 17 = .ok (.aload_n 0, 1) by decide +kernel) rfl
  · exact x_getR_ok (ci := 4) (k := 0) rfl (by decide) (by decide) hw_95 (show decode cX0_placesReached 18 = .ok (.getfield 25, 3) by decide +kernel)
  · exact x_iload_ok (show decode cX0_placesReached 21 = .ok (.iload 4, 2) by decide +kernel)
  · exact x_iald_ok (show decode cX0_placesReached 23 = .ok (.iaload, 1) by decide +kernel)
  · exact x_callS_ok (sX1_reaches l) hw_475 hw_653 hw_474 hw_70 ⟨by decide, by decide, by decide +kernel⟩ (by decide) (by decide) (show decode cX0_placesReached 24 = .ok (.invokestatic 28, 3) by decide +kernel)
  · exact x_ifeq_ok (show decode cX0_placesReached 27 = .ok (.ifCond .eq 10, 3) by decide +kernel) (by decide)
  · exact x_iload_n_ok (show decode cX0_placesReached 30 = .ok (.iload_n 3, 1) by decide +kernel) rfl
  · exact x_iconst_ok (show decode cX0_placesReached 31 = .ok (.iconst 1, 1) by decide +kernel) (by decide)
  · exact x_iload_ok (show decode cX0_placesReached 32 = .ok (.iload 4, 2) by decide +kernel)
  · exact x_ishl_ok (show decode cX0_placesReached 34 = .ok (.ishl, 1) by decide +kernel)
  · exact x_ior_ok (show decode cX0_placesReached 35 = .ok (.ior, 1) by decide +kernel)
  · exact x_istore_n_ok (show decode cX0_placesReached 36 = .ok (.istore_n 3, 1) by decide +kernel) rfl (by decide)
  · exact x_iinc_ok (show decode cX0_placesReached 37 = .ok (.iinc 4 1, 3) by decide +kernel) (by decide) (by decide)
  · exact x_goto_ok (show decode cX0_placesReached 40 = .ok (.goto (-35), 3) by decide +kernel) (by decide)
  · exact x_iload_n_ok (show decode cX0_placesReached 43 = .ok (.iload_n 3, 1) by decide +kernel) rfl
  · exact x_iret_ok (show decode cX0_placesReached 44 = .ok (.ireturn, 1) by decide +kernel)
noncomputable def FX0_placesReached : List Value → xS → Option xR := xden tX0_placesReached 5 (some .int) 0
theorem sX0_placesReached (l : Launch) : xSound l yX0_placesReached cX0_placesReached 5 (some .int) 4 0 FX0_placesReached := x_den (by decide) (tX0_placesReached_ok l)
noncomputable def tX0_fewestOf : List (Nat × xO) := [(0, x_push (.int (nI 6)) 2), (2, x_istore 3 1), (3, x_push (.int (nI 1)) 1), (4, x_istore 4 2), (6, x_iload 4 2), (8, x_iload 2 1), (9, x_cmpge 53), (12, x_aload 0 1), (13, x_getR 0 0), (16, x_iload 4 2), (18, x_bald), (19, x_ifeq 47), (22, x_iload 4 2), (24, x_iload 1 1), (25, x_ii (fun x y => x &&& y)), (26, x_ifeq 47), (29, x_iload 3 1), (30, x_push (.int (nI 1)) 1), (31, x_aload 0 1), (32, x_getR 0 1), (35, x_iload 1 1), (36, x_iload 4 2), (38, x_push (.int (-1)) 1), (39, x_ii (fun x y => x ^^^ y)), (40, x_ii (fun x y => x &&& y)), (41, x_iald), (42, x_ii (fun x y => x + y)), (43, x_min), (46, x_istore 3 1), (47, x_iinc 4 (nI 1)), (50, x_goto 6), (53, x_iload 3 1), (54, x_iret)]
set_option maxRecDepth 100000 in
theorem tX0_fewestOf_ok (l : Launch) : ∀ q ∈ tX0_fewestOf, xOK l cX0_fewestOf RX0 5 1 0 (yX0_fewestOf.name = "<init>") q.1 q.2 := by
  unfold tX0_fewestOf
  refine List.forall_mem_cons.mpr ⟨?_, List.forall_mem_cons.mpr ⟨?_, List.forall_mem_cons.mpr ⟨?_, List.forall_mem_cons.mpr ⟨?_, List.forall_mem_cons.mpr ⟨?_, List.forall_mem_cons.mpr ⟨?_, List.forall_mem_cons.mpr ⟨?_, List.forall_mem_cons.mpr ⟨?_, List.forall_mem_cons.mpr ⟨?_, List.forall_mem_cons.mpr ⟨?_, List.forall_mem_cons.mpr ⟨?_, List.forall_mem_cons.mpr ⟨?_, List.forall_mem_cons.mpr ⟨?_, List.forall_mem_cons.mpr ⟨?_, List.forall_mem_cons.mpr ⟨?_, List.forall_mem_cons.mpr ⟨?_, List.forall_mem_cons.mpr ⟨?_, List.forall_mem_cons.mpr ⟨?_, List.forall_mem_cons.mpr ⟨?_, List.forall_mem_cons.mpr ⟨?_, List.forall_mem_cons.mpr ⟨?_, List.forall_mem_cons.mpr ⟨?_, List.forall_mem_cons.mpr ⟨?_, List.forall_mem_cons.mpr ⟨?_, List.forall_mem_cons.mpr ⟨?_, List.forall_mem_cons.mpr ⟨?_, List.forall_mem_cons.mpr ⟨?_, List.forall_mem_cons.mpr ⟨?_, List.forall_mem_cons.mpr ⟨?_, List.forall_mem_cons.mpr ⟨?_, List.forall_mem_cons.mpr ⟨?_, List.forall_mem_cons.mpr ⟨?_, List.forall_mem_cons.mpr ⟨?_, fun _ h => absurd h List.not_mem_nil⟩⟩⟩⟩⟩⟩⟩⟩⟩⟩⟩⟩⟩⟩⟩⟩⟩⟩⟩⟩⟩⟩⟩⟩⟩⟩⟩⟩⟩⟩⟩⟩⟩
  · exact x_bipush_ok (show decode cX0_fewestOf 0 = .ok (.bipush 6, 2) by decide +kernel) (by decide)
  · exact x_istore_n_ok (show decode cX0_fewestOf 2 = .ok (.istore_n 3, 1) by decide +kernel) rfl (by decide)
  · exact x_iconst_ok (show decode cX0_fewestOf 3 = .ok (.iconst 1, 1) by decide +kernel) (by decide)
  · exact x_istore_ok (show decode cX0_fewestOf 4 = .ok (.istore 4, 2) by decide +kernel) (by decide)
  · exact x_iload_ok (show decode cX0_fewestOf 6 = .ok (.iload 4, 2) by decide +kernel)
  · exact x_iload_n_ok (show decode cX0_fewestOf 8 = .ok (.iload_n 2, 1) by decide +kernel) rfl
  · exact x_cmpge_ok (show decode cX0_fewestOf 9 = .ok (.if_icmp .ge 44, 3) by decide +kernel) (by decide)
  · exact x_aload_n_ok (show decode cX0_fewestOf 12 = .ok (.aload_n 0, 1) by decide +kernel) rfl
  · exact x_getR_ok (ci := 0) (k := 0) rfl (by decide) (by decide) hw_201 (show decode cX0_fewestOf 13 = .ok (.getfield 9, 3) by decide +kernel)
  · exact x_iload_ok (show decode cX0_fewestOf 16 = .ok (.iload 4, 2) by decide +kernel)
  · exact x_bald_ok (show decode cX0_fewestOf 18 = .ok (.baload, 1) by decide +kernel)
  · exact x_ifeq_ok (show decode cX0_fewestOf 19 = .ok (.ifCond .eq 28, 3) by decide +kernel) (by decide)
  · exact x_iload_ok (show decode cX0_fewestOf 22 = .ok (.iload 4, 2) by decide +kernel)
  · exact x_iload_n_ok (show decode cX0_fewestOf 24 = .ok (.iload_n 1, 1) by decide +kernel) rfl
  · exact x_iand_ok (show decode cX0_fewestOf 25 = .ok (.iand, 1) by decide +kernel)
  · exact x_ifeq_ok (show decode cX0_fewestOf 26 = .ok (.ifCond .eq 21, 3) by decide +kernel) (by decide)
  · exact x_iload_n_ok (show decode cX0_fewestOf 29 = .ok (.iload_n 3, 1) by decide +kernel) rfl
  · exact x_iconst_ok (show decode cX0_fewestOf 30 = .ok (.iconst 1, 1) by decide +kernel) (by decide)
  · exact x_aload_n_ok (show decode cX0_fewestOf 31 = .ok (.aload_n 0, 1) by decide +kernel) rfl
  · exact x_getR_ok (ci := 0) (k := 1) rfl (by decide) (by decide) hw_202 (show decode cX0_fewestOf 32 = .ok (.getfield 13, 3) by decide +kernel)
  · exact x_iload_n_ok (show decode cX0_fewestOf 35 = .ok (.iload_n 1, 1) by decide +kernel) rfl
  · exact x_iload_ok (show decode cX0_fewestOf 36 = .ok (.iload 4, 2) by decide +kernel)
  · exact x_iconst_ok (show decode cX0_fewestOf 38 = .ok (.iconst (-1), 1) by decide +kernel) (by decide)
  · exact x_ixor_ok (show decode cX0_fewestOf 39 = .ok (.ixor, 1) by decide +kernel)
  · exact x_iand_ok (show decode cX0_fewestOf 40 = .ok (.iand, 1) by decide +kernel)
  · exact x_iald_ok (show decode cX0_fewestOf 41 = .ok (.iaload, 1) by decide +kernel)
  · exact x_iadd_ok (show decode cX0_fewestOf 42 = .ok (.iadd, 1) by decide +kernel)
  · exact x_min_ok hw_658 hw_659 hw_76 hw_660 (by decide) (show decode cX0_fewestOf 43 = .ok (.invokestatic 42, 3) by decide +kernel)
  · exact x_istore_n_ok (show decode cX0_fewestOf 46 = .ok (.istore_n 3, 1) by decide +kernel) rfl (by decide)
  · exact x_iinc_ok (show decode cX0_fewestOf 47 = .ok (.iinc 4 1, 3) by decide +kernel) (by decide) (by decide)
  · exact x_goto_ok (show decode cX0_fewestOf 50 = .ok (.goto (-44), 3) by decide +kernel) (by decide)
  · exact x_iload_n_ok (show decode cX0_fewestOf 53 = .ok (.iload_n 3, 1) by decide +kernel) rfl
  · exact x_iret_ok (show decode cX0_fewestOf 54 = .ok (.ireturn, 1) by decide +kernel)
noncomputable def FX0_fewestOf : List Value → xS → Option xR := xden tX0_fewestOf 5 (some .int) 0
theorem sX0_fewestOf (l : Launch) : xSound l yX0_fewestOf cX0_fewestOf 5 (some .int) 1 0 FX0_fewestOf := x_den (by decide) (tX0_fewestOf_ok l)
noncomputable def tX0_fewest : List (Nat × xO) := [(0, x_push (.int (nI 1)) 1), (1, x_aload 1 1), (2, x_getI 4 1), (5, x_ii (fun x y => x <<< (y &&& 31))), (6, x_istore 3 1), (7, x_push (.int (nI 0)) 1), (8, x_istore 4 2), (10, x_iload 4 2), (12, x_iload 3 1), (13, x_cmpge 30), (16, x_aload 0 1), (17, x_getR 0 0), (20, x_iload 4 2), (22, x_push (.int (nI 0)) 1), (23, x_bastZ), (24, x_iinc 4 (nI 1)), (27, x_goto 10), (30, x_push (.int (nI 0)) 1), (31, x_istore 4 2), (33, x_iload 4 2), (35, x_push (.int (nI 216)) 3), (38, x_cmpge 60), (41, x_aload 0 1), (42, x_getR 0 0), (45, x_aload 1 1), (46, x_iload 4 2), (48, x_iload 2 1), (49, x_call 0 3 FX0_placesReached), (52, x_push (.int (nI 1)) 1), (53, x_bastZ), (54, x_iinc 4 (nI 1)), (57, x_goto 33), (60, x_aload 0 1), (61, x_getR 0 1), (64, x_push (.int (nI 0)) 1), (65, x_push (.int (nI 0)) 1), (66, x_iast), (67, x_push (.int (nI 1)) 1), (68, x_istore 4 2), (70, x_iload 4 2), (72, x_iload 3 1), (73, x_cmpge 96), (76, x_aload 0 1), (77, x_getR 0 1), (80, x_iload 4 2), (82, x_aload 0 1), (83, x_iload 4 2), (85, x_iload 3 1), (86, x_callV 0 0 3 FX0_fewestOf), (89, x_iast), (90, x_iinc 4 (nI 1)), (93, x_goto 70), (96, x_aload 0 1), (97, x_getR 0 1), (100, x_iload 3 1), (101, x_push (.int (nI 1)) 1), (102, x_ii (fun x y => x - y)), (103, x_iald), (104, x_iret)]
set_option maxRecDepth 100000 in
theorem tX0_fewest_ok (l : Launch) : ∀ q ∈ tX0_fewest, xOK l cX0_fewest RX0 5 5 0 (yX0_fewest.name = "<init>") q.1 q.2 := by
  unfold tX0_fewest
  refine List.forall_mem_cons.mpr ⟨?_, List.forall_mem_cons.mpr ⟨?_, List.forall_mem_cons.mpr ⟨?_, List.forall_mem_cons.mpr ⟨?_, List.forall_mem_cons.mpr ⟨?_, List.forall_mem_cons.mpr ⟨?_, List.forall_mem_cons.mpr ⟨?_, List.forall_mem_cons.mpr ⟨?_, List.forall_mem_cons.mpr ⟨?_, List.forall_mem_cons.mpr ⟨?_, List.forall_mem_cons.mpr ⟨?_, List.forall_mem_cons.mpr ⟨?_, List.forall_mem_cons.mpr ⟨?_, List.forall_mem_cons.mpr ⟨?_, List.forall_mem_cons.mpr ⟨?_, List.forall_mem_cons.mpr ⟨?_, List.forall_mem_cons.mpr ⟨?_, List.forall_mem_cons.mpr ⟨?_, List.forall_mem_cons.mpr ⟨?_, List.forall_mem_cons.mpr ⟨?_, List.forall_mem_cons.mpr ⟨?_, List.forall_mem_cons.mpr ⟨?_, List.forall_mem_cons.mpr ⟨?_, List.forall_mem_cons.mpr ⟨?_, List.forall_mem_cons.mpr ⟨?_, List.forall_mem_cons.mpr ⟨?_, List.forall_mem_cons.mpr ⟨?_, List.forall_mem_cons.mpr ⟨?_, List.forall_mem_cons.mpr ⟨?_, List.forall_mem_cons.mpr ⟨?_, List.forall_mem_cons.mpr ⟨?_, List.forall_mem_cons.mpr ⟨?_, List.forall_mem_cons.mpr ⟨?_, List.forall_mem_cons.mpr ⟨?_, List.forall_mem_cons.mpr ⟨?_, List.forall_mem_cons.mpr ⟨?_, List.forall_mem_cons.mpr ⟨?_, List.forall_mem_cons.mpr ⟨?_, List.forall_mem_cons.mpr ⟨?_, List.forall_mem_cons.mpr ⟨?_, List.forall_mem_cons.mpr ⟨?_, List.forall_mem_cons.mpr ⟨?_, List.forall_mem_cons.mpr ⟨?_, List.forall_mem_cons.mpr ⟨?_, List.forall_mem_cons.mpr ⟨?_, List.forall_mem_cons.mpr ⟨?_, List.forall_mem_cons.mpr ⟨?_, List.forall_mem_cons.mpr ⟨?_, List.forall_mem_cons.mpr ⟨?_, List.forall_mem_cons.mpr ⟨?_, List.forall_mem_cons.mpr ⟨?_, List.forall_mem_cons.mpr ⟨?_, List.forall_mem_cons.mpr ⟨?_, List.forall_mem_cons.mpr ⟨?_, List.forall_mem_cons.mpr ⟨?_, List.forall_mem_cons.mpr ⟨?_, List.forall_mem_cons.mpr ⟨?_, List.forall_mem_cons.mpr ⟨?_, List.forall_mem_cons.mpr ⟨?_, fun _ h => absurd h List.not_mem_nil⟩⟩⟩⟩⟩⟩⟩⟩⟩⟩⟩⟩⟩⟩⟩⟩⟩⟩⟩⟩⟩⟩⟩⟩⟩⟩⟩⟩⟩⟩⟩⟩⟩⟩⟩⟩⟩⟩⟩⟩⟩⟩⟩⟩⟩⟩⟩⟩⟩⟩⟩⟩⟩⟩⟩⟩⟩⟩⟩
  · exact x_iconst_ok (show decode cX0_fewest 0 = .ok (.iconst 1, 1) by decide +kernel) (by decide)
  · exact x_aload_n_ok (show decode cX0_fewest 1 = .ok (.aload_n 1, 1) by decide +kernel) rfl
  · exact x_getI_ok (ci := 4) (k := 1) rfl (by decide) (by decide) hw_99 (show decode cX0_fewest 2 = .ok (.getfield 17, 3) by decide +kernel)
  · exact x_ishl_ok (show decode cX0_fewest 5 = .ok (.ishl, 1) by decide +kernel)
  · exact x_istore_n_ok (show decode cX0_fewest 6 = .ok (.istore_n 3, 1) by decide +kernel) rfl (by decide)
  · exact x_iconst_ok (show decode cX0_fewest 7 = .ok (.iconst 0, 1) by decide +kernel) (by decide)
  · exact x_istore_ok (show decode cX0_fewest 8 = .ok (.istore 4, 2) by decide +kernel) (by decide)
  · exact x_iload_ok (show decode cX0_fewest 10 = .ok (.iload 4, 2) by decide +kernel)
  · exact x_iload_n_ok (show decode cX0_fewest 12 = .ok (.iload_n 3, 1) by decide +kernel) rfl
  · exact x_cmpge_ok (show decode cX0_fewest 13 = .ok (.if_icmp .ge 17, 3) by decide +kernel) (by decide)
  · exact x_aload_n_ok (show decode cX0_fewest 16 = .ok (.aload_n 0, 1) by decide +kernel) rfl
  · exact x_getR_ok (ci := 0) (k := 0) rfl (by decide) (by decide) hw_201 (show decode cX0_fewest 17 = .ok (.getfield 9, 3) by decide +kernel)
  · exact x_iload_ok (show decode cX0_fewest 20 = .ok (.iload 4, 2) by decide +kernel)
  · exact x_iconst_ok (show decode cX0_fewest 22 = .ok (.iconst 0, 1) by decide +kernel) (by decide)
  · exact x_bastZ_ok (show decode cX0_fewest 23 = .ok (.bastore, 1) by decide +kernel)
  · exact x_iinc_ok (show decode cX0_fewest 24 = .ok (.iinc 4 1, 3) by decide +kernel) (by decide) (by decide)
  · exact x_goto_ok (show decode cX0_fewest 27 = .ok (.goto (-17), 3) by decide +kernel) (by decide)
  · exact x_iconst_ok (show decode cX0_fewest 30 = .ok (.iconst 0, 1) by decide +kernel) (by decide)
  · exact x_istore_ok (show decode cX0_fewest 31 = .ok (.istore 4, 2) by decide +kernel) (by decide)
  · exact x_iload_ok (show decode cX0_fewest 33 = .ok (.iload 4, 2) by decide +kernel)
  · exact x_sipush_ok (show decode cX0_fewest 35 = .ok (.sipush 216, 3) by decide +kernel) (by decide)
  · exact x_cmpge_ok (show decode cX0_fewest 38 = .ok (.if_icmp .ge 22, 3) by decide +kernel) (by decide)
  · exact x_aload_n_ok (show decode cX0_fewest 41 = .ok (.aload_n 0, 1) by decide +kernel) rfl
  · exact x_getR_ok (ci := 0) (k := 0) rfl (by decide) (by decide) hw_201 (show decode cX0_fewest 42 = .ok (.getfield 9, 3) by decide +kernel)
  · exact x_aload_n_ok (show decode cX0_fewest 45 = .ok (.aload_n 1, 1) by decide +kernel) rfl
  · exact x_iload_ok (show decode cX0_fewest 46 = .ok (.iload 4, 2) by decide +kernel)
  · exact x_iload_n_ok (show decode cX0_fewest 48 = .ok (.iload_n 2, 1) by decide +kernel) rfl
  · exact x_callS_ok (sX0_placesReached l) hw_652 hw_650 hw_651 hw_66 ⟨by decide, by decide, by decide +kernel⟩ (by decide) (by decide) (show decode cX0_fewest 49 = .ok (.invokestatic 34, 3) by decide +kernel)
  · exact x_iconst_ok (show decode cX0_fewest 52 = .ok (.iconst 1, 1) by decide +kernel) (by decide)
  · exact x_bastZ_ok (show decode cX0_fewest 53 = .ok (.bastore, 1) by decide +kernel)
  · exact x_iinc_ok (show decode cX0_fewest 54 = .ok (.iinc 4 1, 3) by decide +kernel) (by decide) (by decide)
  · exact x_goto_ok (show decode cX0_fewest 57 = .ok (.goto (-24), 3) by decide +kernel) (by decide)
  · exact x_aload_n_ok (show decode cX0_fewest 60 = .ok (.aload_n 0, 1) by decide +kernel) rfl
  · exact x_getR_ok (ci := 0) (k := 1) rfl (by decide) (by decide) hw_202 (show decode cX0_fewest 61 = .ok (.getfield 13, 3) by decide +kernel)
  · exact x_iconst_ok (show decode cX0_fewest 64 = .ok (.iconst 0, 1) by decide +kernel) (by decide)
  · exact x_iconst_ok (show decode cX0_fewest 65 = .ok (.iconst 0, 1) by decide +kernel) (by decide)
  · exact x_iast_ok (show decode cX0_fewest 66 = .ok (.iastore, 1) by decide +kernel)
  · exact x_iconst_ok (show decode cX0_fewest 67 = .ok (.iconst 1, 1) by decide +kernel) (by decide)
  · exact x_istore_ok (show decode cX0_fewest 68 = .ok (.istore 4, 2) by decide +kernel) (by decide)
  · exact x_iload_ok (show decode cX0_fewest 70 = .ok (.iload 4, 2) by decide +kernel)
  · exact x_iload_n_ok (show decode cX0_fewest 72 = .ok (.iload_n 3, 1) by decide +kernel) rfl
  · exact x_cmpge_ok (show decode cX0_fewest 73 = .ok (.if_icmp .ge 23, 3) by decide +kernel) (by decide)
  · exact x_aload_n_ok (show decode cX0_fewest 76 = .ok (.aload_n 0, 1) by decide +kernel) rfl
  · exact x_getR_ok (ci := 0) (k := 1) rfl (by decide) (by decide) hw_202 (show decode cX0_fewest 77 = .ok (.getfield 13, 3) by decide +kernel)
  · exact x_iload_ok (show decode cX0_fewest 80 = .ok (.iload 4, 2) by decide +kernel)
  · exact x_aload_n_ok (show decode cX0_fewest 82 = .ok (.aload_n 0, 1) by decide +kernel) rfl
  · exact x_iload_ok (show decode cX0_fewest 83 = .ok (.iload 4, 2) by decide +kernel)
  · exact x_iload_n_ok (show decode cX0_fewest 85 = .ok (.iload_n 3, 1) by decide +kernel) rfl
  · exact x_callV_ok (ci := 0) rfl (by decide) (sX0_fewestOf l) hw_657 hw_654 hw_656 hw_11 hw_66 ⟨by decide, by decide, by decide +kernel⟩ rfl (by decide) (by decide) (show decode cX0_fewest 86 = .ok (.invokevirtual 38, 3) by decide +kernel)
  · exact x_iast_ok (show decode cX0_fewest 89 = .ok (.iastore, 1) by decide +kernel)
  · exact x_iinc_ok (show decode cX0_fewest 90 = .ok (.iinc 4 1, 3) by decide +kernel) (by decide) (by decide)
  · exact x_goto_ok (show decode cX0_fewest 93 = .ok (.goto (-23), 3) by decide +kernel) (by decide)
  · exact x_aload_n_ok (show decode cX0_fewest 96 = .ok (.aload_n 0, 1) by decide +kernel) rfl
  · exact x_getR_ok (ci := 0) (k := 1) rfl (by decide) (by decide) hw_202 (show decode cX0_fewest 97 = .ok (.getfield 13, 3) by decide +kernel)
  · exact x_iload_n_ok (show decode cX0_fewest 100 = .ok (.iload_n 3, 1) by decide +kernel) rfl
  · exact x_iconst_ok (show decode cX0_fewest 101 = .ok (.iconst 1, 1) by decide +kernel) (by decide)
  · exact x_isub_ok (show decode cX0_fewest 102 = .ok (.isub, 1) by decide +kernel)
  · exact x_iald_ok (show decode cX0_fewest 103 = .ok (.iaload, 1) by decide +kernel)
  · exact x_iret_ok (show decode cX0_fewest 104 = .ok (.ireturn, 1) by decide +kernel)
noncomputable def FX0_fewest : List Value → xS → Option xR := xden tX0_fewest 5 (some .int) 0
theorem sX0_fewest (l : Launch) : xSound l yX0_fewest cX0_fewest 5 (some .int) 5 0 FX0_fewest := x_den (by decide) (tX0_fewest_ok l)
noncomputable def tX8_cover : List (Nat × xO) := [(0, x_iload 2 1), (1, x_push (.int (nI 10)) 2), (3, x_call 0 2 FX8_among), (6, x_ifne 11), (9, x_push (.int (-1)) 1), (10, x_iret), (11, x_aload 0 1), (12, x_iload 1 1), (13, x_push (.int (nI 0)) 1), (14, x_push (.int (nI 6)) 2), (16, x_callV 6 0 4 FX8_refusalOfShades), (19, x_istore 3 1), (20, x_iload 3 1), (21, x_ifeq 28), (24, x_iload 3 1), (25, x_goto 42), (28, x_aload 0 1), (29, x_getR 6 4), (32, x_aload 0 1), (33, x_getR 6 0), (36, x_iload 1 1), (37, x_aald), (38, x_iload 2 1), (39, x_callV 0 0 3 FX0_fewest), (42, x_iret)]
set_option maxRecDepth 100000 in
theorem tX8_cover_ok (l : Launch) : ∀ q ∈ tX8_cover, xOK l cX8_cover RX8 4 6 0 (yX8_cover.name = "<init>") q.1 q.2 := by
  unfold tX8_cover
  refine List.forall_mem_cons.mpr ⟨?_, List.forall_mem_cons.mpr ⟨?_, List.forall_mem_cons.mpr ⟨?_, List.forall_mem_cons.mpr ⟨?_, List.forall_mem_cons.mpr ⟨?_, List.forall_mem_cons.mpr ⟨?_, List.forall_mem_cons.mpr ⟨?_, List.forall_mem_cons.mpr ⟨?_, List.forall_mem_cons.mpr ⟨?_, List.forall_mem_cons.mpr ⟨?_, List.forall_mem_cons.mpr ⟨?_, List.forall_mem_cons.mpr ⟨?_, List.forall_mem_cons.mpr ⟨?_, List.forall_mem_cons.mpr ⟨?_, List.forall_mem_cons.mpr ⟨?_, List.forall_mem_cons.mpr ⟨?_, List.forall_mem_cons.mpr ⟨?_, List.forall_mem_cons.mpr ⟨?_, List.forall_mem_cons.mpr ⟨?_, List.forall_mem_cons.mpr ⟨?_, List.forall_mem_cons.mpr ⟨?_, List.forall_mem_cons.mpr ⟨?_, List.forall_mem_cons.mpr ⟨?_, List.forall_mem_cons.mpr ⟨?_, List.forall_mem_cons.mpr ⟨?_, fun _ h => absurd h List.not_mem_nil⟩⟩⟩⟩⟩⟩⟩⟩⟩⟩⟩⟩⟩⟩⟩⟩⟩⟩⟩⟩⟩⟩⟩⟩⟩
  · exact x_iload_n_ok (show decode cX8_cover 0 = .ok (.iload_n 2, 1) by decide +kernel) rfl
  · exact x_bipush_ok (show decode cX8_cover 1 = .ok (.bipush 10, 2) by decide +kernel) (by decide)
  · exact x_callS_ok (sX8_among l) hw_268 hw_266 hw_267 hw_61 ⟨by decide, by decide, by decide +kernel⟩ (by decide) (by decide) (show decode cX8_cover 3 = .ok (.invokestatic 65, 3) by decide +kernel)
  · exact x_ifne_ok (show decode cX8_cover 6 = .ok (.ifCond .ne 5, 3) by decide +kernel) (by decide)
  · exact x_iconst_ok (show decode cX8_cover 9 = .ok (.iconst (-1), 1) by decide +kernel) (by decide)
  · exact x_iret_ok (show decode cX8_cover 10 = .ok (.ireturn, 1) by decide +kernel)
  · exact x_aload_n_ok (show decode cX8_cover 11 = .ok (.aload_n 0, 1) by decide +kernel) rfl
  · exact x_iload_n_ok (show decode cX8_cover 12 = .ok (.iload_n 1, 1) by decide +kernel) rfl
  · exact x_iconst_ok (show decode cX8_cover 13 = .ok (.iconst 0, 1) by decide +kernel) (by decide)
  · exact x_bipush_ok (show decode cX8_cover 14 = .ok (.bipush 6, 2) by decide +kernel) (by decide)
  · exact x_callV_ok (ci := 6) rfl (by decide) (sX8_refusalOfShades l) hw_632 hw_629 hw_631 hw_10 hw_61 ⟨by decide, by decide, by decide +kernel⟩ rfl (by decide) (by decide) (show decode cX8_cover 16 = .ok (.invokevirtual 208, 3) by decide +kernel)
  · exact x_istore_n_ok (show decode cX8_cover 19 = .ok (.istore_n 3, 1) by decide +kernel) rfl (by decide)
  · exact x_iload_n_ok (show decode cX8_cover 20 = .ok (.iload_n 3, 1) by decide +kernel) rfl
  · exact x_ifeq_ok (show decode cX8_cover 21 = .ok (.ifCond .eq 7, 3) by decide +kernel) (by decide)
  · exact x_iload_n_ok (show decode cX8_cover 24 = .ok (.iload_n 3, 1) by decide +kernel) rfl
  · exact x_goto_ok (show decode cX8_cover 25 = .ok (.goto 17, 3) by decide +kernel) (by decide)
  · exact x_aload_n_ok (show decode cX8_cover 28 = .ok (.aload_n 0, 1) by decide +kernel) rfl
  · exact x_getR_ok (ci := 6) (k := 4) rfl (by decide) (by decide) hw_226 (show decode cX8_cover 29 = .ok (.getfield 37, 3) by decide +kernel)
  · exact x_aload_n_ok (show decode cX8_cover 32 = .ok (.aload_n 0, 1) by decide +kernel) rfl
  · exact x_getR_ok (ci := 6) (k := 0) rfl (by decide) (by decide) hw_222 (show decode cX8_cover 33 = .ok (.getfield 11, 3) by decide +kernel)
  · exact x_iload_n_ok (show decode cX8_cover 36 = .ok (.iload_n 1, 1) by decide +kernel) rfl
  · exact x_aald_ok (show decode cX8_cover 37 = .ok (.aaload, 1) by decide +kernel)
  · exact x_iload_n_ok (show decode cX8_cover 38 = .ok (.iload_n 2, 1) by decide +kernel) rfl
  · exact x_callV_ok (ci := 0) rfl (by decide) (sX0_fewest l) hw_649 hw_646 hw_647 hw_648 hw_66 ⟨by decide, by decide, by decide +kernel⟩ rfl (by decide) (by decide) (show decode cX8_cover 39 = .ok (.invokevirtual 215, 3) by decide +kernel)
  · exact x_iret_ok (show decode cX8_cover 42 = .ok (.ireturn, 1) by decide +kernel)
noncomputable def FX8_cover : List Value → xS → Option xR := xden tX8_cover 4 (some .int) 0
theorem sX8_cover (l : Launch) : xSound l yX8_cover cX8_cover 4 (some .int) 6 0 FX8_cover := x_den (by decide) (tX8_cover_ok l)
noncomputable def tX9_noShades : List (Nat × xO) := [(0, x_aload 0 1), (1, x_getR 7 1), (4, x_iload 1 1), (5, x_iald), (6, x_ifge 17), (9, x_aload 0 1), (10, x_push (.int (nI 1)) 1), (11, x_callV 7 0 2 FX9_find), (14, x_goto 59), (17, x_aload 0 1), (18, x_getR 7 1), (21, x_iload 1 1), (22, x_iald), (23, x_i2l), (24, x_iload 2 1), (25, x_i2l), (26, x_iload 3 1), (27, x_i2l), (28, x_call 0 3 FX9_in), (31, x_ifne 42), (34, x_aload 0 1), (35, x_push (.int (nI 5)) 1), (36, x_callV 7 0 2 FX9_find), (39, x_goto 59), (42, x_aload 0 1), (43, x_iload 1 1), (44, x_callV 7 0 2 FX9_areShades), (47, x_ifeq 54), (50, x_push (.int (nI 0)) 1), (51, x_goto 59), (54, x_aload 0 1), (55, x_push (.int (nI 3)) 1), (56, x_callV 7 0 2 FX9_find), (59, x_iret)]
set_option maxRecDepth 100000 in
theorem tX9_noShades_ok (l : Launch) : ∀ q ∈ tX9_noShades, xOK l cX9_noShades RX9 4 4 0 (yX9_noShades.name = "<init>") q.1 q.2 := by
  unfold tX9_noShades
  refine List.forall_mem_cons.mpr ⟨?_, List.forall_mem_cons.mpr ⟨?_, List.forall_mem_cons.mpr ⟨?_, List.forall_mem_cons.mpr ⟨?_, List.forall_mem_cons.mpr ⟨?_, List.forall_mem_cons.mpr ⟨?_, List.forall_mem_cons.mpr ⟨?_, List.forall_mem_cons.mpr ⟨?_, List.forall_mem_cons.mpr ⟨?_, List.forall_mem_cons.mpr ⟨?_, List.forall_mem_cons.mpr ⟨?_, List.forall_mem_cons.mpr ⟨?_, List.forall_mem_cons.mpr ⟨?_, List.forall_mem_cons.mpr ⟨?_, List.forall_mem_cons.mpr ⟨?_, List.forall_mem_cons.mpr ⟨?_, List.forall_mem_cons.mpr ⟨?_, List.forall_mem_cons.mpr ⟨?_, List.forall_mem_cons.mpr ⟨?_, List.forall_mem_cons.mpr ⟨?_, List.forall_mem_cons.mpr ⟨?_, List.forall_mem_cons.mpr ⟨?_, List.forall_mem_cons.mpr ⟨?_, List.forall_mem_cons.mpr ⟨?_, List.forall_mem_cons.mpr ⟨?_, List.forall_mem_cons.mpr ⟨?_, List.forall_mem_cons.mpr ⟨?_, List.forall_mem_cons.mpr ⟨?_, List.forall_mem_cons.mpr ⟨?_, List.forall_mem_cons.mpr ⟨?_, List.forall_mem_cons.mpr ⟨?_, List.forall_mem_cons.mpr ⟨?_, List.forall_mem_cons.mpr ⟨?_, List.forall_mem_cons.mpr ⟨?_, fun _ h => absurd h List.not_mem_nil⟩⟩⟩⟩⟩⟩⟩⟩⟩⟩⟩⟩⟩⟩⟩⟩⟩⟩⟩⟩⟩⟩⟩⟩⟩⟩⟩⟩⟩⟩⟩⟩⟩⟩
  · exact x_aload_n_ok (show decode cX9_noShades 0 = .ok (.aload_n 0, 1) by decide +kernel) rfl
  · exact x_getR_ok (ci := 7) (k := 1) rfl (by decide) (by decide) hw_845 (show decode cX9_noShades 1 = .ok (.getfield 13, 3) by decide +kernel)
  · exact x_iload_n_ok (show decode cX9_noShades 4 = .ok (.iload_n 1, 1) by decide +kernel) rfl
  · exact x_iald_ok (show decode cX9_noShades 5 = .ok (.iaload, 1) by decide +kernel)
  · exact x_ifge_ok (show decode cX9_noShades 6 = .ok (.ifCond .ge 11, 3) by decide +kernel) (by decide)
  · exact x_aload_n_ok (show decode cX9_noShades 9 = .ok (.aload_n 0, 1) by decide +kernel) rfl
  · exact x_iconst_ok (show decode cX9_noShades 10 = .ok (.iconst 1, 1) by decide +kernel) (by decide)
  · exact x_callV_ok (ci := 7) rfl (by decide) (sX9_find l) hw_922 hw_919 hw_921 hw_18 hw_68 ⟨by decide, by decide, by decide +kernel⟩ rfl (by decide) (by decide) (show decode cX9_noShades 11 = .ok (.invokevirtual 70, 3) by decide +kernel)
  · exact x_goto_ok (show decode cX9_noShades 14 = .ok (.goto 45, 3) by decide +kernel) (by decide)
  · exact x_aload_n_ok (show decode cX9_noShades 17 = .ok (.aload_n 0, 1) by decide +kernel) rfl
  · exact x_getR_ok (ci := 7) (k := 1) rfl (by decide) (by decide) hw_845 (show decode cX9_noShades 18 = .ok (.getfield 13, 3) by decide +kernel)
  · exact x_iload_n_ok (show decode cX9_noShades 21 = .ok (.iload_n 1, 1) by decide +kernel) rfl
  · exact x_iald_ok (show decode cX9_noShades 22 = .ok (.iaload, 1) by decide +kernel)
  · exact x_i2l_ok (show decode cX9_noShades 23 = .ok (.i2l, 1) by decide +kernel)
  · exact x_iload_n_ok (show decode cX9_noShades 24 = .ok (.iload_n 2, 1) by decide +kernel) rfl
  · exact x_i2l_ok (show decode cX9_noShades 25 = .ok (.i2l, 1) by decide +kernel)
  · exact x_iload_n_ok (show decode cX9_noShades 26 = .ok (.iload_n 3, 1) by decide +kernel) rfl
  · exact x_i2l_ok (show decode cX9_noShades 27 = .ok (.i2l, 1) by decide +kernel)
  · exact x_callS_ok (sX9_in l) hw_918 hw_916 hw_917 hw_68 ⟨by decide, by decide, by decide +kernel⟩ (by decide) (by decide) (show decode cX9_noShades 28 = .ok (.invokestatic 60, 3) by decide +kernel)
  · exact x_ifne_ok (show decode cX9_noShades 31 = .ok (.ifCond .ne 11, 3) by decide +kernel) (by decide)
  · exact x_aload_n_ok (show decode cX9_noShades 34 = .ok (.aload_n 0, 1) by decide +kernel) rfl
  · exact x_iconst_ok (show decode cX9_noShades 35 = .ok (.iconst 5, 1) by decide +kernel) (by decide)
  · exact x_callV_ok (ci := 7) rfl (by decide) (sX9_find l) hw_922 hw_919 hw_921 hw_18 hw_68 ⟨by decide, by decide, by decide +kernel⟩ rfl (by decide) (by decide) (show decode cX9_noShades 36 = .ok (.invokevirtual 70, 3) by decide +kernel)
  · exact x_goto_ok (show decode cX9_noShades 39 = .ok (.goto 20, 3) by decide +kernel) (by decide)
  · exact x_aload_n_ok (show decode cX9_noShades 42 = .ok (.aload_n 0, 1) by decide +kernel) rfl
  · exact x_iload_n_ok (show decode cX9_noShades 43 = .ok (.iload_n 1, 1) by decide +kernel) rfl
  · exact x_callV_ok (ci := 7) rfl (by decide) (sX9_areShades l) hw_1175 hw_1172 hw_1174 hw_46 hw_68 ⟨by decide, by decide, by decide +kernel⟩ rfl (by decide) (by decide) (show decode cX9_noShades 44 = .ok (.invokevirtual 227, 3) by decide +kernel)
  · exact x_ifeq_ok (show decode cX9_noShades 47 = .ok (.ifCond .eq 7, 3) by decide +kernel) (by decide)
  · exact x_iconst_ok (show decode cX9_noShades 50 = .ok (.iconst 0, 1) by decide +kernel) (by decide)
  · exact x_goto_ok (show decode cX9_noShades 51 = .ok (.goto 8, 3) by decide +kernel) (by decide)
  · exact x_aload_n_ok (show decode cX9_noShades 54 = .ok (.aload_n 0, 1) by decide +kernel) rfl
  · exact x_iconst_ok (show decode cX9_noShades 55 = .ok (.iconst 3, 1) by decide +kernel) (by decide)
  · exact x_callV_ok (ci := 7) rfl (by decide) (sX9_find l) hw_922 hw_919 hw_921 hw_18 hw_68 ⟨by decide, by decide, by decide +kernel⟩ rfl (by decide) (by decide) (show decode cX9_noShades 56 = .ok (.invokevirtual 70, 3) by decide +kernel)
  · exact x_iret_ok (show decode cX9_noShades 59 = .ok (.ireturn, 1) by decide +kernel)
noncomputable def FX9_noShades : List Value → xS → Option xR := xden tX9_noShades 4 (some .int) 0
theorem sX9_noShades (l : Launch) : xSound l yX9_noShades cX9_noShades 4 (some .int) 4 0 FX9_noShades := x_den (by decide) (tX9_noShades_ok l)
noncomputable def tX9_placesFrom : List (Nat × xO) := [(0, x_push (.int (nI 0)) 1), (1, x_istore 4 2), (3, x_push (.int (nI 0)) 1), (4, x_istore 5 2), (6, x_iload 5 2), (8, x_aload 0 1), (9, x_getR 7 1), (12, x_iload 1 1), (13, x_iald), (14, x_cmpge 57), (17, x_iload 4 2), (19, x_push (.int (nI 0)) 1), (20, x_iload 2 1), (21, x_iload 3 1), (22, x_aload 0 1), (23, x_getR 7 2), (26, x_push (.int (nI 40)) 2), (28, x_iload 1 1), (29, x_ii (fun x y => x * y)), (30, x_iload 5 2), (32, x_ii (fun x y => x + y)), (33, x_iald), (34, x_call 0 4 FX9_reachesOf), (37, x_ifeq 47), (40, x_push (.int (nI 1)) 1), (41, x_iload 5 2), (43, x_ii (fun x y => x <<< (y &&& 31))), (44, x_goto 48), (47, x_push (.int (nI 0)) 1), (48, x_ii (fun x y => x ||| y)), (49, x_istore 4 2), (51, x_iinc 5 (nI 1)), (54, x_goto 6), (57, x_iload 4 2), (59, x_iret)]
set_option maxRecDepth 100000 in
theorem tX9_placesFrom_ok (l : Launch) : ∀ q ∈ tX9_placesFrom, xOK l cX9_placesFrom RX9 6 4 0 (yX9_placesFrom.name = "<init>") q.1 q.2 := by
  unfold tX9_placesFrom
  refine List.forall_mem_cons.mpr ⟨?_, List.forall_mem_cons.mpr ⟨?_, List.forall_mem_cons.mpr ⟨?_, List.forall_mem_cons.mpr ⟨?_, List.forall_mem_cons.mpr ⟨?_, List.forall_mem_cons.mpr ⟨?_, List.forall_mem_cons.mpr ⟨?_, List.forall_mem_cons.mpr ⟨?_, List.forall_mem_cons.mpr ⟨?_, List.forall_mem_cons.mpr ⟨?_, List.forall_mem_cons.mpr ⟨?_, List.forall_mem_cons.mpr ⟨?_, List.forall_mem_cons.mpr ⟨?_, List.forall_mem_cons.mpr ⟨?_, List.forall_mem_cons.mpr ⟨?_, List.forall_mem_cons.mpr ⟨?_, List.forall_mem_cons.mpr ⟨?_, List.forall_mem_cons.mpr ⟨?_, List.forall_mem_cons.mpr ⟨?_, List.forall_mem_cons.mpr ⟨?_, List.forall_mem_cons.mpr ⟨?_, List.forall_mem_cons.mpr ⟨?_, List.forall_mem_cons.mpr ⟨?_, List.forall_mem_cons.mpr ⟨?_, List.forall_mem_cons.mpr ⟨?_, List.forall_mem_cons.mpr ⟨?_, List.forall_mem_cons.mpr ⟨?_, List.forall_mem_cons.mpr ⟨?_, List.forall_mem_cons.mpr ⟨?_, List.forall_mem_cons.mpr ⟨?_, List.forall_mem_cons.mpr ⟨?_, List.forall_mem_cons.mpr ⟨?_, List.forall_mem_cons.mpr ⟨?_, List.forall_mem_cons.mpr ⟨?_, List.forall_mem_cons.mpr ⟨?_, fun _ h => absurd h List.not_mem_nil⟩⟩⟩⟩⟩⟩⟩⟩⟩⟩⟩⟩⟩⟩⟩⟩⟩⟩⟩⟩⟩⟩⟩⟩⟩⟩⟩⟩⟩⟩⟩⟩⟩⟩⟩
  · exact x_iconst_ok (show decode cX9_placesFrom 0 = .ok (.iconst 0, 1) by decide +kernel) (by decide)
  · exact x_istore_ok (show decode cX9_placesFrom 1 = .ok (.istore 4, 2) by decide +kernel) (by decide)
  · exact x_iconst_ok (show decode cX9_placesFrom 3 = .ok (.iconst 0, 1) by decide +kernel) (by decide)
  · exact x_istore_ok (show decode cX9_placesFrom 4 = .ok (.istore 5, 2) by decide +kernel) (by decide)
  · exact x_iload_ok (show decode cX9_placesFrom 6 = .ok (.iload 5, 2) by decide +kernel)
  · exact x_aload_n_ok (show decode cX9_placesFrom 8 = .ok (.aload_n 0, 1) by decide +kernel) rfl
  · exact x_getR_ok (ci := 7) (k := 1) rfl (by decide) (by decide) hw_845 (show decode cX9_placesFrom 9 = .ok (.getfield 13, 3) by decide +kernel)
  · exact x_iload_n_ok (show decode cX9_placesFrom 12 = .ok (.iload_n 1, 1) by decide +kernel) rfl
  · exact x_iald_ok (show decode cX9_placesFrom 13 = .ok (.iaload, 1) by decide +kernel)
  · exact x_cmpge_ok (show decode cX9_placesFrom 14 = .ok (.if_icmp .ge 43, 3) by decide +kernel) (by decide)
  · exact x_iload_ok (show decode cX9_placesFrom 17 = .ok (.iload 4, 2) by decide +kernel)
  · exact x_iconst_ok (show decode cX9_placesFrom 19 = .ok (.iconst 0, 1) by decide +kernel) (by decide)
  · exact x_iload_n_ok (show decode cX9_placesFrom 20 = .ok (.iload_n 2, 1) by decide +kernel) rfl
  · exact x_iload_n_ok (show decode cX9_placesFrom 21 = .ok (.iload_n 3, 1) by decide +kernel) rfl
  · exact x_aload_n_ok (show decode cX9_placesFrom 22 = .ok (.aload_n 0, 1) by decide +kernel) rfl
  · exact x_getR_ok (ci := 7) (k := 2) rfl (by decide) (by decide) hw_846 (show decode cX9_placesFrom 23 = .ok (.getfield 16, 3) by decide +kernel)
  · exact x_bipush_ok (show decode cX9_placesFrom 26 = .ok (.bipush 40, 2) by decide +kernel) (by decide)
  · exact x_iload_n_ok (show decode cX9_placesFrom 28 = .ok (.iload_n 1, 1) by decide +kernel) rfl
  · exact x_imul_ok (show decode cX9_placesFrom 29 = .ok (.imul, 1) by decide +kernel)
  · exact x_iload_ok (show decode cX9_placesFrom 30 = .ok (.iload 5, 2) by decide +kernel)
  · exact x_iadd_ok (show decode cX9_placesFrom 32 = .ok (.iadd, 1) by decide +kernel)
  · exact x_iald_ok (show decode cX9_placesFrom 33 = .ok (.iaload, 1) by decide +kernel)
  · exact x_callS_ok (sX9_reachesOf l) hw_1029 hw_1027 hw_1028 hw_68 ⟨by decide, by decide, by decide +kernel⟩ (by decide) (by decide) (show decode cX9_placesFrom 34 = .ok (.invokestatic 147, 3) by decide +kernel)
  · exact x_ifeq_ok (show decode cX9_placesFrom 37 = .ok (.ifCond .eq 10, 3) by decide +kernel) (by decide)
  · exact x_iconst_ok (show decode cX9_placesFrom 40 = .ok (.iconst 1, 1) by decide +kernel) (by decide)
  · exact x_iload_ok (show decode cX9_placesFrom 41 = .ok (.iload 5, 2) by decide +kernel)
  · exact x_ishl_ok (show decode cX9_placesFrom 43 = .ok (.ishl, 1) by decide +kernel)
  · exact x_goto_ok (show decode cX9_placesFrom 44 = .ok (.goto 4, 3) by decide +kernel) (by decide)
  · exact x_iconst_ok (show decode cX9_placesFrom 47 = .ok (.iconst 0, 1) by decide +kernel) (by decide)
  · exact x_ior_ok (show decode cX9_placesFrom 48 = .ok (.ior, 1) by decide +kernel)
  · exact x_istore_ok (show decode cX9_placesFrom 49 = .ok (.istore 4, 2) by decide +kernel) (by decide)
  · exact x_iinc_ok (show decode cX9_placesFrom 51 = .ok (.iinc 5 1, 3) by decide +kernel) (by decide) (by decide)
  · exact x_goto_ok (show decode cX9_placesFrom 54 = .ok (.goto (-48), 3) by decide +kernel) (by decide)
  · exact x_iload_ok (show decode cX9_placesFrom 57 = .ok (.iload 4, 2) by decide +kernel)
  · exact x_iret_ok (show decode cX9_placesFrom 59 = .ok (.ireturn, 1) by decide +kernel)
noncomputable def FX9_placesFrom : List Value → xS → Option xR := xden tX9_placesFrom 6 (some .int) 0
theorem sX9_placesFrom (l : Launch) : xSound l yX9_placesFrom cX9_placesFrom 6 (some .int) 4 0 FX9_placesFrom := x_den (by decide) (tX9_placesFrom_ok l)
noncomputable def tX9_cover : List (Nat × xO) := [(0, x_iload 1 1), (1, x_call 0 1 FX9_isRow), (4, x_ifeq 19), (7, x_iload 2 1), (8, x_i2l), (9, x_push (.long 0) 1), (10, x_push (.long 9) 3), (13, x_call 0 3 FX9_in), (16, x_ifne 21), (19, x_push (.int (-1)) 1), (20, x_iret), (21, x_aload 0 1), (22, x_iload 1 1), (23, x_push (.int (nI 0)) 1), (24, x_push (.int (nI 6)) 2), (26, x_callV 7 0 4 FX9_noShades), (29, x_istore 3 1), (30, x_iload 3 1), (31, x_ifeq 36), (34, x_iload 3 1), (35, x_iret), (36, x_push (.int (nI 0)) 1), (37, x_istore 4 2), (39, x_iload 4 2), (41, x_push (.int (nI 64)) 2), (43, x_cmpge 70), (46, x_aload 0 1), (47, x_getR 7 17), (50, x_iload 4 2), (52, x_iload 4 2), (54, x_ifne 61), (57, x_push (.int (nI 0)) 1), (58, x_goto 63), (61, x_push (.int (nI 9)) 2), (63, x_iast), (64, x_iinc 4 (nI 1)), (67, x_goto 39), (70, x_push (.int (nI 0)) 1), (71, x_istore 4 2), (73, x_iload 4 2), (75, x_push (.int (nI 6)) 2), (77, x_cmpge 185), (80, x_push (.int (nI 0)) 1), (81, x_istore 5 2), (83, x_iload 5 2), (85, x_push (.int (nI 216)) 3), (88, x_cmpge 179), (91, x_aload 0 1), (92, x_iload 1 1), (93, x_iload 2 1), (94, x_iload 5 2), (96, x_callV 7 0 4 FX9_placesFrom), (99, x_istore 6 2), (101, x_push (.int (nI 0)) 1), (102, x_istore 7 2), (104, x_iload 7 2), (106, x_push (.int (nI 64)) 2), (108, x_cmpge 173), (111, x_iload 6 2), (113, x_ifeq 173), (116, x_aload 0 1), (117, x_getR 7 17), (120, x_iload 7 2), (122, x_iald), (123, x_push (.int (nI 1)) 1), (124, x_ii (fun x y => x + y)), (125, x_istore 8 2), (127, x_aload 0 1), (128, x_getR 7 17), (131, x_iload 7 2), (133, x_iload 6 2), (135, x_ii (fun x y => x ||| y)), (136, x_iload 8 2), (138, x_aload 0 1), (139, x_getR 7 17), (142, x_iload 7 2), (144, x_iload 6 2), (146, x_ii (fun x y => x ||| y)), (147, x_iald), (148, x_cmpge 156), (151, x_iload 8 2), (153, x_goto 166), (156, x_aload 0 1), (157, x_getR 7 17), (160, x_iload 7 2), (162, x_iload 6 2), (164, x_ii (fun x y => x ||| y)), (165, x_iald), (166, x_iast), (167, x_iinc 7 (nI 1)), (170, x_goto 104), (173, x_iinc 5 (nI 1)), (176, x_goto 83), (179, x_iinc 4 (nI 1)), (182, x_goto 73), (185, x_aload 0 1), (186, x_getR 7 17), (189, x_push (.int (nI 1)) 1), (190, x_aload 0 1), (191, x_getR 7 1), (194, x_iload 1 1), (195, x_iald), (196, x_ii (fun x y => x <<< (y &&& 31))), (197, x_push (.int (nI 1)) 1), (198, x_ii (fun x y => x - y)), (199, x_iald), (200, x_iret)]
set_option maxRecDepth 100000 in
theorem tX9_cover_ok (l : Launch) : ∀ q ∈ tX9_cover, xOK l cX9_cover RX9 9 5 0 (yX9_cover.name = "<init>") q.1 q.2 := by
  unfold tX9_cover
  refine List.forall_mem_cons.mpr ⟨?_, List.forall_mem_cons.mpr ⟨?_, List.forall_mem_cons.mpr ⟨?_, List.forall_mem_cons.mpr ⟨?_, List.forall_mem_cons.mpr ⟨?_, List.forall_mem_cons.mpr ⟨?_, List.forall_mem_cons.mpr ⟨?_, List.forall_mem_cons.mpr ⟨?_, List.forall_mem_cons.mpr ⟨?_, List.forall_mem_cons.mpr ⟨?_, List.forall_mem_cons.mpr ⟨?_, List.forall_mem_cons.mpr ⟨?_, List.forall_mem_cons.mpr ⟨?_, List.forall_mem_cons.mpr ⟨?_, List.forall_mem_cons.mpr ⟨?_, List.forall_mem_cons.mpr ⟨?_, List.forall_mem_cons.mpr ⟨?_, List.forall_mem_cons.mpr ⟨?_, List.forall_mem_cons.mpr ⟨?_, List.forall_mem_cons.mpr ⟨?_, List.forall_mem_cons.mpr ⟨?_, List.forall_mem_cons.mpr ⟨?_, List.forall_mem_cons.mpr ⟨?_, List.forall_mem_cons.mpr ⟨?_, List.forall_mem_cons.mpr ⟨?_, List.forall_mem_cons.mpr ⟨?_, List.forall_mem_cons.mpr ⟨?_, List.forall_mem_cons.mpr ⟨?_, List.forall_mem_cons.mpr ⟨?_, List.forall_mem_cons.mpr ⟨?_, List.forall_mem_cons.mpr ⟨?_, List.forall_mem_cons.mpr ⟨?_, List.forall_mem_cons.mpr ⟨?_, List.forall_mem_cons.mpr ⟨?_, List.forall_mem_cons.mpr ⟨?_, List.forall_mem_cons.mpr ⟨?_, List.forall_mem_cons.mpr ⟨?_, List.forall_mem_cons.mpr ⟨?_, List.forall_mem_cons.mpr ⟨?_, List.forall_mem_cons.mpr ⟨?_, List.forall_mem_cons.mpr ⟨?_, List.forall_mem_cons.mpr ⟨?_, List.forall_mem_cons.mpr ⟨?_, List.forall_mem_cons.mpr ⟨?_, List.forall_mem_cons.mpr ⟨?_, List.forall_mem_cons.mpr ⟨?_, List.forall_mem_cons.mpr ⟨?_, List.forall_mem_cons.mpr ⟨?_, List.forall_mem_cons.mpr ⟨?_, List.forall_mem_cons.mpr ⟨?_, List.forall_mem_cons.mpr ⟨?_, List.forall_mem_cons.mpr ⟨?_, List.forall_mem_cons.mpr ⟨?_, List.forall_mem_cons.mpr ⟨?_, List.forall_mem_cons.mpr ⟨?_, List.forall_mem_cons.mpr ⟨?_, List.forall_mem_cons.mpr ⟨?_, List.forall_mem_cons.mpr ⟨?_, List.forall_mem_cons.mpr ⟨?_, List.forall_mem_cons.mpr ⟨?_, List.forall_mem_cons.mpr ⟨?_, List.forall_mem_cons.mpr ⟨?_, List.forall_mem_cons.mpr ⟨?_, List.forall_mem_cons.mpr ⟨?_, List.forall_mem_cons.mpr ⟨?_, List.forall_mem_cons.mpr ⟨?_, List.forall_mem_cons.mpr ⟨?_, List.forall_mem_cons.mpr ⟨?_, List.forall_mem_cons.mpr ⟨?_, List.forall_mem_cons.mpr ⟨?_, List.forall_mem_cons.mpr ⟨?_, List.forall_mem_cons.mpr ⟨?_, List.forall_mem_cons.mpr ⟨?_, List.forall_mem_cons.mpr ⟨?_, List.forall_mem_cons.mpr ⟨?_, List.forall_mem_cons.mpr ⟨?_, List.forall_mem_cons.mpr ⟨?_, List.forall_mem_cons.mpr ⟨?_, List.forall_mem_cons.mpr ⟨?_, List.forall_mem_cons.mpr ⟨?_, List.forall_mem_cons.mpr ⟨?_, List.forall_mem_cons.mpr ⟨?_, List.forall_mem_cons.mpr ⟨?_, List.forall_mem_cons.mpr ⟨?_, List.forall_mem_cons.mpr ⟨?_, List.forall_mem_cons.mpr ⟨?_, List.forall_mem_cons.mpr ⟨?_, List.forall_mem_cons.mpr ⟨?_, List.forall_mem_cons.mpr ⟨?_, List.forall_mem_cons.mpr ⟨?_, List.forall_mem_cons.mpr ⟨?_, List.forall_mem_cons.mpr ⟨?_, List.forall_mem_cons.mpr ⟨?_, List.forall_mem_cons.mpr ⟨?_, List.forall_mem_cons.mpr ⟨?_, List.forall_mem_cons.mpr ⟨?_, List.forall_mem_cons.mpr ⟨?_, List.forall_mem_cons.mpr ⟨?_, List.forall_mem_cons.mpr ⟨?_, List.forall_mem_cons.mpr ⟨?_, List.forall_mem_cons.mpr ⟨?_, List.forall_mem_cons.mpr ⟨?_, List.forall_mem_cons.mpr ⟨?_, List.forall_mem_cons.mpr ⟨?_, List.forall_mem_cons.mpr ⟨?_, List.forall_mem_cons.mpr ⟨?_, List.forall_mem_cons.mpr ⟨?_, fun _ h => absurd h List.not_mem_nil⟩⟩⟩⟩⟩⟩⟩⟩⟩⟩⟩⟩⟩⟩⟩⟩⟩⟩⟩⟩⟩⟩⟩⟩⟩⟩⟩⟩⟩⟩⟩⟩⟩⟩⟩⟩⟩⟩⟩⟩⟩⟩⟩⟩⟩⟩⟩⟩⟩⟩⟩⟩⟩⟩⟩⟩⟩⟩⟩⟩⟩⟩⟩⟩⟩⟩⟩⟩⟩⟩⟩⟩⟩⟩⟩⟩⟩⟩⟩⟩⟩⟩⟩⟩⟩⟩⟩⟩⟩⟩⟩⟩⟩⟩⟩⟩⟩⟩⟩⟩⟩⟩⟩⟩⟩⟩⟩
  · exact x_iload_n_ok (show decode cX9_cover 0 = .ok (.iload_n 1, 1) by decide +kernel) rfl
  · exact x_callS_ok (sX9_isRow l) hw_914 hw_912 hw_913 hw_68 ⟨by decide, by decide, by decide +kernel⟩ (by decide) (by decide) (show decode cX9_cover 1 = .ok (.invokestatic 66, 3) by decide +kernel)
  · exact x_ifeq_ok (show decode cX9_cover 4 = .ok (.ifCond .eq 15, 3) by decide +kernel) (by decide)
  · exact x_iload_n_ok (show decode cX9_cover 7 = .ok (.iload_n 2, 1) by decide +kernel) rfl
  · exact x_i2l_ok (show decode cX9_cover 8 = .ok (.i2l, 1) by decide +kernel)
  · exact x_lconst_ok (show decode cX9_cover 9 = .ok (.lconst 0, 1) by decide +kernel) rfl
  · exact x_ldc2_ok (show decode cX9_cover 10 = .ok (.ldc2_w 193, 3) by decide +kernel) hw_1085
  · exact x_callS_ok (sX9_in l) hw_918 hw_916 hw_917 hw_68 ⟨by decide, by decide, by decide +kernel⟩ (by decide) (by decide) (show decode cX9_cover 13 = .ok (.invokestatic 60, 3) by decide +kernel)
  · exact x_ifne_ok (show decode cX9_cover 16 = .ok (.ifCond .ne 5, 3) by decide +kernel) (by decide)
  · exact x_iconst_ok (show decode cX9_cover 19 = .ok (.iconst (-1), 1) by decide +kernel) (by decide)
  · exact x_iret_ok (show decode cX9_cover 20 = .ok (.ireturn, 1) by decide +kernel)
  · exact x_aload_n_ok (show decode cX9_cover 21 = .ok (.aload_n 0, 1) by decide +kernel) rfl
  · exact x_iload_n_ok (show decode cX9_cover 22 = .ok (.iload_n 1, 1) by decide +kernel) rfl
  · exact x_iconst_ok (show decode cX9_cover 23 = .ok (.iconst 0, 1) by decide +kernel) (by decide)
  · exact x_bipush_ok (show decode cX9_cover 24 = .ok (.bipush 6, 2) by decide +kernel) (by decide)
  · exact x_callV_ok (ci := 7) rfl (by decide) (sX9_noShades l) hw_1187 hw_1184 hw_1186 hw_48 hw_68 ⟨by decide, by decide, by decide +kernel⟩ rfl (by decide) (by decide) (show decode cX9_cover 26 = .ok (.invokevirtual 233, 3) by decide +kernel)
  · exact x_istore_n_ok (show decode cX9_cover 29 = .ok (.istore_n 3, 1) by decide +kernel) rfl (by decide)
  · exact x_iload_n_ok (show decode cX9_cover 30 = .ok (.iload_n 3, 1) by decide +kernel) rfl
  · exact x_ifeq_ok (show decode cX9_cover 31 = .ok (.ifCond .eq 5, 3) by decide +kernel) (by decide)
  · exact x_iload_n_ok (show decode cX9_cover 34 = .ok (.iload_n 3, 1) by decide +kernel) rfl
  · exact x_iret_ok (show decode cX9_cover 35 = .ok (.ireturn, 1) by decide +kernel)
  · exact x_iconst_ok (show decode cX9_cover 36 = .ok (.iconst 0, 1) by decide +kernel) (by decide)
  · exact x_istore_ok (show decode cX9_cover 37 = .ok (.istore 4, 2) by decide +kernel) (by decide)
  · exact x_iload_ok (show decode cX9_cover 39 = .ok (.iload 4, 2) by decide +kernel)
  · exact x_bipush_ok (show decode cX9_cover 41 = .ok (.bipush 64, 2) by decide +kernel) (by decide)
  · exact x_cmpge_ok (show decode cX9_cover 43 = .ok (.if_icmp .ge 27, 3) by decide +kernel) (by decide)
  · exact x_aload_n_ok (show decode cX9_cover 46 = .ok (.aload_n 0, 1) by decide +kernel) rfl
  · exact x_getR_ok (ci := 7) (k := 17) rfl (by decide) (by decide) hw_861 (show decode cX9_cover 47 = .ok (.getfield 39, 3) by decide +kernel)
  · exact x_iload_ok (show decode cX9_cover 50 = .ok (.iload 4, 2) by decide +kernel)
  · exact x_iload_ok (show decode cX9_cover 52 = .ok (.iload 4, 2) by decide +kernel)
  · exact x_ifne_ok (show decode cX9_cover 54 = .ok (.ifCond .ne 7, 3) by decide +kernel) (by decide)
  · exact x_iconst_ok (show decode cX9_cover 57 = .ok (.iconst 0, 1) by decide +kernel) (by decide)
  · exact x_goto_ok (show decode cX9_cover 58 = .ok (.goto 5, 3) by decide +kernel) (by decide)
  · exact x_bipush_ok (show decode cX9_cover 61 = .ok (.bipush 9, 2) by decide +kernel) (by decide)
  · exact x_iast_ok (show decode cX9_cover 63 = .ok (.iastore, 1) by decide +kernel)
  · exact x_iinc_ok (show decode cX9_cover 64 = .ok (.iinc 4 1, 3) by decide +kernel) (by decide) (by decide)
  · exact x_goto_ok (show decode cX9_cover 67 = .ok (.goto (-28), 3) by decide +kernel) (by decide)
  · exact x_iconst_ok (show decode cX9_cover 70 = .ok (.iconst 0, 1) by decide +kernel) (by decide)
  · exact x_istore_ok (show decode cX9_cover 71 = .ok (.istore 4, 2) by decide +kernel) (by decide)
  · exact x_iload_ok (show decode cX9_cover 73 = .ok (.iload 4, 2) by decide +kernel)
  · exact x_bipush_ok (show decode cX9_cover 75 = .ok (.bipush 6, 2) by decide +kernel) (by decide)
  · exact x_cmpge_ok (show decode cX9_cover 77 = .ok (.if_icmp .ge 108, 3) by decide +kernel) (by decide)
  · exact x_iconst_ok (show decode cX9_cover 80 = .ok (.iconst 0, 1) by decide +kernel) (by decide)
  · exact x_istore_ok (show decode cX9_cover 81 = .ok (.istore 5, 2) by decide +kernel) (by decide)
  · exact x_iload_ok (show decode cX9_cover 83 = .ok (.iload 5, 2) by decide +kernel)
  · exact x_sipush_ok (show decode cX9_cover 85 = .ok (.sipush 216, 3) by decide +kernel) (by decide)
  · exact x_cmpge_ok (show decode cX9_cover 88 = .ok (.if_icmp .ge 91, 3) by decide +kernel) (by decide)
  · exact x_aload_n_ok (show decode cX9_cover 91 = .ok (.aload_n 0, 1) by decide +kernel) rfl
  · exact x_iload_n_ok (show decode cX9_cover 92 = .ok (.iload_n 1, 1) by decide +kernel) rfl
  · exact x_iload_n_ok (show decode cX9_cover 93 = .ok (.iload_n 2, 1) by decide +kernel) rfl
  · exact x_iload_ok (show decode cX9_cover 94 = .ok (.iload 5, 2) by decide +kernel)
  · exact x_callV_ok (ci := 7) rfl (by decide) (sX9_placesFrom l) hw_1191 hw_1188 hw_1190 hw_49 hw_68 ⟨by decide, by decide, by decide +kernel⟩ rfl (by decide) (by decide) (show decode cX9_cover 96 = .ok (.invokevirtual 236, 3) by decide +kernel)
  · exact x_istore_ok (show decode cX9_cover 99 = .ok (.istore 6, 2) by decide +kernel) (by decide)
  · exact x_iconst_ok (show decode cX9_cover 101 = .ok (.iconst 0, 1) by decide +kernel) (by decide)
  · exact x_istore_ok (show decode cX9_cover 102 = .ok (.istore 7, 2) by decide +kernel) (by decide)
  · exact x_iload_ok (show decode cX9_cover 104 = .ok (.iload 7, 2) by decide +kernel)
  · exact x_bipush_ok (show decode cX9_cover 106 = .ok (.bipush 64, 2) by decide +kernel) (by decide)
  · exact x_cmpge_ok (show decode cX9_cover 108 = .ok (.if_icmp .ge 65, 3) by decide +kernel) (by decide)
  · exact x_iload_ok (show decode cX9_cover 111 = .ok (.iload 6, 2) by decide +kernel)
  · exact x_ifeq_ok (show decode cX9_cover 113 = .ok (.ifCond .eq 60, 3) by decide +kernel) (by decide)
  · exact x_aload_n_ok (show decode cX9_cover 116 = .ok (.aload_n 0, 1) by decide +kernel) rfl
  · exact x_getR_ok (ci := 7) (k := 17) rfl (by decide) (by decide) hw_861 (show decode cX9_cover 117 = .ok (.getfield 39, 3) by decide +kernel)
  · exact x_iload_ok (show decode cX9_cover 120 = .ok (.iload 7, 2) by decide +kernel)
  · exact x_iald_ok (show decode cX9_cover 122 = .ok (.iaload, 1) by decide +kernel)
  · exact x_iconst_ok (show decode cX9_cover 123 = .ok (.iconst 1, 1) by decide +kernel) (by decide)
  · exact x_iadd_ok (show decode cX9_cover 124 = .ok (.iadd, 1) by decide +kernel)
  · exact x_istore_ok (show decode cX9_cover 125 = .ok (.istore 8, 2) by decide +kernel) (by decide)
  · exact x_aload_n_ok (show decode cX9_cover 127 = .ok (.aload_n 0, 1) by decide +kernel) rfl
  · exact x_getR_ok (ci := 7) (k := 17) rfl (by decide) (by decide) hw_861 (show decode cX9_cover 128 = .ok (.getfield 39, 3) by decide +kernel)
  · exact x_iload_ok (show decode cX9_cover 131 = .ok (.iload 7, 2) by decide +kernel)
  · exact x_iload_ok (show decode cX9_cover 133 = .ok (.iload 6, 2) by decide +kernel)
  · exact x_ior_ok (show decode cX9_cover 135 = .ok (.ior, 1) by decide +kernel)
  · exact x_iload_ok (show decode cX9_cover 136 = .ok (.iload 8, 2) by decide +kernel)
  · exact x_aload_n_ok (show decode cX9_cover 138 = .ok (.aload_n 0, 1) by decide +kernel) rfl
  · exact x_getR_ok (ci := 7) (k := 17) rfl (by decide) (by decide) hw_861 (show decode cX9_cover 139 = .ok (.getfield 39, 3) by decide +kernel)
  · exact x_iload_ok (show decode cX9_cover 142 = .ok (.iload 7, 2) by decide +kernel)
  · exact x_iload_ok (show decode cX9_cover 144 = .ok (.iload 6, 2) by decide +kernel)
  · exact x_ior_ok (show decode cX9_cover 146 = .ok (.ior, 1) by decide +kernel)
  · exact x_iald_ok (show decode cX9_cover 147 = .ok (.iaload, 1) by decide +kernel)
  · exact x_cmpge_ok (show decode cX9_cover 148 = .ok (.if_icmp .ge 8, 3) by decide +kernel) (by decide)
  · exact x_iload_ok (show decode cX9_cover 151 = .ok (.iload 8, 2) by decide +kernel)
  · exact x_goto_ok (show decode cX9_cover 153 = .ok (.goto 13, 3) by decide +kernel) (by decide)
  · exact x_aload_n_ok (show decode cX9_cover 156 = .ok (.aload_n 0, 1) by decide +kernel) rfl
  · exact x_getR_ok (ci := 7) (k := 17) rfl (by decide) (by decide) hw_861 (show decode cX9_cover 157 = .ok (.getfield 39, 3) by decide +kernel)
  · exact x_iload_ok (show decode cX9_cover 160 = .ok (.iload 7, 2) by decide +kernel)
  · exact x_iload_ok (show decode cX9_cover 162 = .ok (.iload 6, 2) by decide +kernel)
  · exact x_ior_ok (show decode cX9_cover 164 = .ok (.ior, 1) by decide +kernel)
  · exact x_iald_ok (show decode cX9_cover 165 = .ok (.iaload, 1) by decide +kernel)
  · exact x_iast_ok (show decode cX9_cover 166 = .ok (.iastore, 1) by decide +kernel)
  · exact x_iinc_ok (show decode cX9_cover 167 = .ok (.iinc 7 1, 3) by decide +kernel) (by decide) (by decide)
  · exact x_goto_ok (show decode cX9_cover 170 = .ok (.goto (-66), 3) by decide +kernel) (by decide)
  · exact x_iinc_ok (show decode cX9_cover 173 = .ok (.iinc 5 1, 3) by decide +kernel) (by decide) (by decide)
  · exact x_goto_ok (show decode cX9_cover 176 = .ok (.goto (-93), 3) by decide +kernel) (by decide)
  · exact x_iinc_ok (show decode cX9_cover 179 = .ok (.iinc 4 1, 3) by decide +kernel) (by decide) (by decide)
  · exact x_goto_ok (show decode cX9_cover 182 = .ok (.goto (-109), 3) by decide +kernel) (by decide)
  · exact x_aload_n_ok (show decode cX9_cover 185 = .ok (.aload_n 0, 1) by decide +kernel) rfl
  · exact x_getR_ok (ci := 7) (k := 17) rfl (by decide) (by decide) hw_861 (show decode cX9_cover 186 = .ok (.getfield 39, 3) by decide +kernel)
  · exact x_iconst_ok (show decode cX9_cover 189 = .ok (.iconst 1, 1) by decide +kernel) (by decide)
  · exact x_aload_n_ok (show decode cX9_cover 190 = .ok (.aload_n 0, 1) by decide +kernel) rfl
  · exact x_getR_ok (ci := 7) (k := 1) rfl (by decide) (by decide) hw_845 (show decode cX9_cover 191 = .ok (.getfield 13, 3) by decide +kernel)
  · exact x_iload_n_ok (show decode cX9_cover 194 = .ok (.iload_n 1, 1) by decide +kernel) rfl
  · exact x_iald_ok (show decode cX9_cover 195 = .ok (.iaload, 1) by decide +kernel)
  · exact x_ishl_ok (show decode cX9_cover 196 = .ok (.ishl, 1) by decide +kernel)
  · exact x_iconst_ok (show decode cX9_cover 197 = .ok (.iconst 1, 1) by decide +kernel) (by decide)
  · exact x_isub_ok (show decode cX9_cover 198 = .ok (.isub, 1) by decide +kernel)
  · exact x_iald_ok (show decode cX9_cover 199 = .ok (.iaload, 1) by decide +kernel)
  · exact x_iret_ok (show decode cX9_cover 200 = .ok (.ireturn, 1) by decide +kernel)
noncomputable def FX9_cover : List Value → xS → Option xR := xden tX9_cover 9 (some .int) 0
theorem sX9_cover (l : Launch) : xSound l yX9_cover cX9_cover 9 (some .int) 5 0 FX9_cover := x_den (by decide) (tX9_cover_ok l)
noncomputable def tJ6_bitCount_0f7a4 : List (Nat × xO) := [(0, x_iload 0 1), (1, x_iload 0 1), (2, x_push (.int (nI 1)) 1), (3, x_ii (fun x y => (x.toUInt32 >>> (y.toUInt32 &&& Int32.toUInt32 31)).toInt32)), (4, x_push (.int 1431655765) 3), (7, x_ii (fun x y => x &&& y)), (8, x_ii (fun x y => x - y)), (9, x_istore 0 1), (10, x_iload 0 1), (11, x_push (.int 858993459) 3), (14, x_ii (fun x y => x &&& y)), (15, x_iload 0 1), (16, x_push (.int (nI 2)) 1), (17, x_ii (fun x y => (x.toUInt32 >>> (y.toUInt32 &&& Int32.toUInt32 31)).toInt32)), (18, x_push (.int 858993459) 3), (21, x_ii (fun x y => x &&& y)), (22, x_ii (fun x y => x + y)), (23, x_istore 0 1), (24, x_iload 0 1), (25, x_iload 0 1), (26, x_push (.int (nI 4)) 1), (27, x_ii (fun x y => (x.toUInt32 >>> (y.toUInt32 &&& Int32.toUInt32 31)).toInt32)), (28, x_ii (fun x y => x + y)), (29, x_push (.int 252645135) 3), (32, x_ii (fun x y => x &&& y)), (33, x_istore 0 1), (34, x_iload 0 1), (35, x_iload 0 1), (36, x_push (.int (nI 8)) 2), (38, x_ii (fun x y => (x.toUInt32 >>> (y.toUInt32 &&& Int32.toUInt32 31)).toInt32)), (39, x_ii (fun x y => x + y)), (40, x_istore 0 1), (41, x_iload 0 1), (42, x_iload 0 1), (43, x_push (.int (nI 16)) 2), (45, x_ii (fun x y => (x.toUInt32 >>> (y.toUInt32 &&& Int32.toUInt32 31)).toInt32)), (46, x_ii (fun x y => x + y)), (47, x_istore 0 1), (48, x_iload 0 1), (49, x_push (.int (nI 63)) 2), (51, x_ii (fun x y => x &&& y)), (52, x_iret)]
set_option maxRecDepth 100000 in
theorem tJ6_bitCount_0f7a4_ok (l : Launch) : ∀ q ∈ tJ6_bitCount_0f7a4, xOK l cJ6_bitCount_0f7a4 RJ6 1 1 0 (yJ6_bitCount_0f7a4.name = "<init>") q.1 q.2 := by
  unfold tJ6_bitCount_0f7a4
  refine List.forall_mem_cons.mpr ⟨?_, List.forall_mem_cons.mpr ⟨?_, List.forall_mem_cons.mpr ⟨?_, List.forall_mem_cons.mpr ⟨?_, List.forall_mem_cons.mpr ⟨?_, List.forall_mem_cons.mpr ⟨?_, List.forall_mem_cons.mpr ⟨?_, List.forall_mem_cons.mpr ⟨?_, List.forall_mem_cons.mpr ⟨?_, List.forall_mem_cons.mpr ⟨?_, List.forall_mem_cons.mpr ⟨?_, List.forall_mem_cons.mpr ⟨?_, List.forall_mem_cons.mpr ⟨?_, List.forall_mem_cons.mpr ⟨?_, List.forall_mem_cons.mpr ⟨?_, List.forall_mem_cons.mpr ⟨?_, List.forall_mem_cons.mpr ⟨?_, List.forall_mem_cons.mpr ⟨?_, List.forall_mem_cons.mpr ⟨?_, List.forall_mem_cons.mpr ⟨?_, List.forall_mem_cons.mpr ⟨?_, List.forall_mem_cons.mpr ⟨?_, List.forall_mem_cons.mpr ⟨?_, List.forall_mem_cons.mpr ⟨?_, List.forall_mem_cons.mpr ⟨?_, List.forall_mem_cons.mpr ⟨?_, List.forall_mem_cons.mpr ⟨?_, List.forall_mem_cons.mpr ⟨?_, List.forall_mem_cons.mpr ⟨?_, List.forall_mem_cons.mpr ⟨?_, List.forall_mem_cons.mpr ⟨?_, List.forall_mem_cons.mpr ⟨?_, List.forall_mem_cons.mpr ⟨?_, List.forall_mem_cons.mpr ⟨?_, List.forall_mem_cons.mpr ⟨?_, List.forall_mem_cons.mpr ⟨?_, List.forall_mem_cons.mpr ⟨?_, List.forall_mem_cons.mpr ⟨?_, List.forall_mem_cons.mpr ⟨?_, List.forall_mem_cons.mpr ⟨?_, List.forall_mem_cons.mpr ⟨?_, List.forall_mem_cons.mpr ⟨?_, fun _ h => absurd h List.not_mem_nil⟩⟩⟩⟩⟩⟩⟩⟩⟩⟩⟩⟩⟩⟩⟩⟩⟩⟩⟩⟩⟩⟩⟩⟩⟩⟩⟩⟩⟩⟩⟩⟩⟩⟩⟩⟩⟩⟩⟩⟩⟩⟩
  · exact x_iload_n_ok (show decode cJ6_bitCount_0f7a4 0 = .ok (.iload_n 0, 1) by decide +kernel) rfl
  · exact x_iload_n_ok (show decode cJ6_bitCount_0f7a4 1 = .ok (.iload_n 0, 1) by decide +kernel) rfl
  · exact x_iconst_ok (show decode cJ6_bitCount_0f7a4 2 = .ok (.iconst 1, 1) by decide +kernel) (by decide)
  · exact x_iushr_ok (show decode cJ6_bitCount_0f7a4 3 = .ok (.iushr, 1) by decide +kernel)
  · exact x_ldcw_ok (show decode cJ6_bitCount_0f7a4 4 = .ok (.ldc_w 265, 3) by decide +kernel) hw_669
  · exact x_iand_ok (show decode cJ6_bitCount_0f7a4 7 = .ok (.iand, 1) by decide +kernel)
  · exact x_isub_ok (show decode cJ6_bitCount_0f7a4 8 = .ok (.isub, 1) by decide +kernel)
  · exact x_istore_n_ok (show decode cJ6_bitCount_0f7a4 9 = .ok (.istore_n 0, 1) by decide +kernel) rfl (by decide)
  · exact x_iload_n_ok (show decode cJ6_bitCount_0f7a4 10 = .ok (.iload_n 0, 1) by decide +kernel) rfl
  · exact x_ldcw_ok (show decode cJ6_bitCount_0f7a4 11 = .ok (.ldc_w 266, 3) by decide +kernel) hw_670
  · exact x_iand_ok (show decode cJ6_bitCount_0f7a4 14 = .ok (.iand, 1) by decide +kernel)
  · exact x_iload_n_ok (show decode cJ6_bitCount_0f7a4 15 = .ok (.iload_n 0, 1) by decide +kernel) rfl
  · exact x_iconst_ok (show decode cJ6_bitCount_0f7a4 16 = .ok (.iconst 2, 1) by decide +kernel) (by decide)
  · exact x_iushr_ok (show decode cJ6_bitCount_0f7a4 17 = .ok (.iushr, 1) by decide +kernel)
  · exact x_ldcw_ok (show decode cJ6_bitCount_0f7a4 18 = .ok (.ldc_w 266, 3) by decide +kernel) hw_670
  · exact x_iand_ok (show decode cJ6_bitCount_0f7a4 21 = .ok (.iand, 1) by decide +kernel)
  · exact x_iadd_ok (show decode cJ6_bitCount_0f7a4 22 = .ok (.iadd, 1) by decide +kernel)
  · exact x_istore_n_ok (show decode cJ6_bitCount_0f7a4 23 = .ok (.istore_n 0, 1) by decide +kernel) rfl (by decide)
  · exact x_iload_n_ok (show decode cJ6_bitCount_0f7a4 24 = .ok (.iload_n 0, 1) by decide +kernel) rfl
  · exact x_iload_n_ok (show decode cJ6_bitCount_0f7a4 25 = .ok (.iload_n 0, 1) by decide +kernel) rfl
  · exact x_iconst_ok (show decode cJ6_bitCount_0f7a4 26 = .ok (.iconst 4, 1) by decide +kernel) (by decide)
  · exact x_iushr_ok (show decode cJ6_bitCount_0f7a4 27 = .ok (.iushr, 1) by decide +kernel)
  · exact x_iadd_ok (show decode cJ6_bitCount_0f7a4 28 = .ok (.iadd, 1) by decide +kernel)
  · exact x_ldcw_ok (show decode cJ6_bitCount_0f7a4 29 = .ok (.ldc_w 267, 3) by decide +kernel) hw_671
  · exact x_iand_ok (show decode cJ6_bitCount_0f7a4 32 = .ok (.iand, 1) by decide +kernel)
  · exact x_istore_n_ok (show decode cJ6_bitCount_0f7a4 33 = .ok (.istore_n 0, 1) by decide +kernel) rfl (by decide)
  · exact x_iload_n_ok (show decode cJ6_bitCount_0f7a4 34 = .ok (.iload_n 0, 1) by decide +kernel) rfl
  · exact x_iload_n_ok (show decode cJ6_bitCount_0f7a4 35 = .ok (.iload_n 0, 1) by decide +kernel) rfl
  · exact x_bipush_ok (show decode cJ6_bitCount_0f7a4 36 = .ok (.bipush 8, 2) by decide +kernel) (by decide)
  · exact x_iushr_ok (show decode cJ6_bitCount_0f7a4 38 = .ok (.iushr, 1) by decide +kernel)
  · exact x_iadd_ok (show decode cJ6_bitCount_0f7a4 39 = .ok (.iadd, 1) by decide +kernel)
  · exact x_istore_n_ok (show decode cJ6_bitCount_0f7a4 40 = .ok (.istore_n 0, 1) by decide +kernel) rfl (by decide)
  · exact x_iload_n_ok (show decode cJ6_bitCount_0f7a4 41 = .ok (.iload_n 0, 1) by decide +kernel) rfl
  · exact x_iload_n_ok (show decode cJ6_bitCount_0f7a4 42 = .ok (.iload_n 0, 1) by decide +kernel) rfl
  · exact x_bipush_ok (show decode cJ6_bitCount_0f7a4 43 = .ok (.bipush 16, 2) by decide +kernel) (by decide)
  · exact x_iushr_ok (show decode cJ6_bitCount_0f7a4 45 = .ok (.iushr, 1) by decide +kernel)
  · exact x_iadd_ok (show decode cJ6_bitCount_0f7a4 46 = .ok (.iadd, 1) by decide +kernel)
  · exact x_istore_n_ok (show decode cJ6_bitCount_0f7a4 47 = .ok (.istore_n 0, 1) by decide +kernel) rfl (by decide)
  · exact x_iload_n_ok (show decode cJ6_bitCount_0f7a4 48 = .ok (.iload_n 0, 1) by decide +kernel) rfl
  · exact x_bipush_ok (show decode cJ6_bitCount_0f7a4 49 = .ok (.bipush 63, 2) by decide +kernel) (by decide)
  · exact x_iand_ok (show decode cJ6_bitCount_0f7a4 51 = .ok (.iand, 1) by decide +kernel)
  · exact x_iret_ok (show decode cJ6_bitCount_0f7a4 52 = .ok (.ireturn, 1) by decide +kernel)
noncomputable def FJ6_bitCount_0f7a4 : List Value → xS → Option xR := xden tJ6_bitCount_0f7a4 1 (some .int) 0
theorem sJ6_bitCount_0f7a4 (l : Launch) : xSound l yJ6_bitCount_0f7a4 cJ6_bitCount_0f7a4 1 (some .int) 1 0 FJ6_bitCount_0f7a4 := x_den (by decide) (tJ6_bitCount_0f7a4_ok l)
noncomputable def tX8_best : List (Nat × xO) := [(0, x_iload 2 1), (1, x_push (.int (nI 10)) 2), (3, x_call 0 2 FX8_among), (6, x_ifne 11), (9, x_push (.int (-1)) 1), (10, x_iret), (11, x_aload 0 1), (12, x_iload 1 1), (13, x_push (.int (nI 0)) 1), (14, x_push (.int (nI 6)) 2), (16, x_callV 6 0 4 FX8_refusalOfShades), (19, x_istore 3 1), (20, x_iload 3 1), (21, x_ifeq 26), (24, x_iload 3 1), (25, x_iret), (26, x_push (.int (nI 0)) 1), (27, x_istore 4 2), (29, x_push (.int (-1)) 1), (30, x_istore 5 2), (32, x_push (.int (nI 0)) 1), (33, x_istore 6 2), (35, x_iload 6 2), (37, x_push (.int (nI 216)) 3), (40, x_cmpge 81), (43, x_aload 0 1), (44, x_getR 6 0), (47, x_iload 1 1), (48, x_aald), (49, x_iload 6 2), (51, x_iload 2 1), (52, x_call 0 3 FX0_placesReached), (55, x_call 0 1 FJ6_bitCount_0f7a4), (58, x_istore 7 2), (60, x_iload 7 2), (62, x_iload 5 2), (64, x_cmple 75), (67, x_iload 6 2), (69, x_istore 4 2), (71, x_iload 7 2), (73, x_istore 5 2), (75, x_iinc 6 (nI 1)), (78, x_goto 35), (81, x_aload 0 1), (82, x_iload 5 2), (84, x_putI 6 10), (87, x_iload 4 2), (89, x_iret)]
set_option maxRecDepth 100000 in
theorem tX8_best_ok (l : Launch) : ∀ q ∈ tX8_best, xOK l cX8_best RX8 8 5 0 (yX8_best.name = "<init>") q.1 q.2 := by
  unfold tX8_best
  refine List.forall_mem_cons.mpr ⟨?_, List.forall_mem_cons.mpr ⟨?_, List.forall_mem_cons.mpr ⟨?_, List.forall_mem_cons.mpr ⟨?_, List.forall_mem_cons.mpr ⟨?_, List.forall_mem_cons.mpr ⟨?_, List.forall_mem_cons.mpr ⟨?_, List.forall_mem_cons.mpr ⟨?_, List.forall_mem_cons.mpr ⟨?_, List.forall_mem_cons.mpr ⟨?_, List.forall_mem_cons.mpr ⟨?_, List.forall_mem_cons.mpr ⟨?_, List.forall_mem_cons.mpr ⟨?_, List.forall_mem_cons.mpr ⟨?_, List.forall_mem_cons.mpr ⟨?_, List.forall_mem_cons.mpr ⟨?_, List.forall_mem_cons.mpr ⟨?_, List.forall_mem_cons.mpr ⟨?_, List.forall_mem_cons.mpr ⟨?_, List.forall_mem_cons.mpr ⟨?_, List.forall_mem_cons.mpr ⟨?_, List.forall_mem_cons.mpr ⟨?_, List.forall_mem_cons.mpr ⟨?_, List.forall_mem_cons.mpr ⟨?_, List.forall_mem_cons.mpr ⟨?_, List.forall_mem_cons.mpr ⟨?_, List.forall_mem_cons.mpr ⟨?_, List.forall_mem_cons.mpr ⟨?_, List.forall_mem_cons.mpr ⟨?_, List.forall_mem_cons.mpr ⟨?_, List.forall_mem_cons.mpr ⟨?_, List.forall_mem_cons.mpr ⟨?_, List.forall_mem_cons.mpr ⟨?_, List.forall_mem_cons.mpr ⟨?_, List.forall_mem_cons.mpr ⟨?_, List.forall_mem_cons.mpr ⟨?_, List.forall_mem_cons.mpr ⟨?_, List.forall_mem_cons.mpr ⟨?_, List.forall_mem_cons.mpr ⟨?_, List.forall_mem_cons.mpr ⟨?_, List.forall_mem_cons.mpr ⟨?_, List.forall_mem_cons.mpr ⟨?_, List.forall_mem_cons.mpr ⟨?_, List.forall_mem_cons.mpr ⟨?_, List.forall_mem_cons.mpr ⟨?_, List.forall_mem_cons.mpr ⟨?_, List.forall_mem_cons.mpr ⟨?_, List.forall_mem_cons.mpr ⟨?_, fun _ h => absurd h List.not_mem_nil⟩⟩⟩⟩⟩⟩⟩⟩⟩⟩⟩⟩⟩⟩⟩⟩⟩⟩⟩⟩⟩⟩⟩⟩⟩⟩⟩⟩⟩⟩⟩⟩⟩⟩⟩⟩⟩⟩⟩⟩⟩⟩⟩⟩⟩⟩⟩⟩
  · exact x_iload_n_ok (show decode cX8_best 0 = .ok (.iload_n 2, 1) by decide +kernel) rfl
  · exact x_bipush_ok (show decode cX8_best 1 = .ok (.bipush 10, 2) by decide +kernel) (by decide)
  · exact x_callS_ok (sX8_among l) hw_268 hw_266 hw_267 hw_61 ⟨by decide, by decide, by decide +kernel⟩ (by decide) (by decide) (show decode cX8_best 3 = .ok (.invokestatic 65, 3) by decide +kernel)
  · exact x_ifne_ok (show decode cX8_best 6 = .ok (.ifCond .ne 5, 3) by decide +kernel) (by decide)
  · exact x_iconst_ok (show decode cX8_best 9 = .ok (.iconst (-1), 1) by decide +kernel) (by decide)
  · exact x_iret_ok (show decode cX8_best 10 = .ok (.ireturn, 1) by decide +kernel)
  · exact x_aload_n_ok (show decode cX8_best 11 = .ok (.aload_n 0, 1) by decide +kernel) rfl
  · exact x_iload_n_ok (show decode cX8_best 12 = .ok (.iload_n 1, 1) by decide +kernel) rfl
  · exact x_iconst_ok (show decode cX8_best 13 = .ok (.iconst 0, 1) by decide +kernel) (by decide)
  · exact x_bipush_ok (show decode cX8_best 14 = .ok (.bipush 6, 2) by decide +kernel) (by decide)
  · exact x_callV_ok (ci := 6) rfl (by decide) (sX8_refusalOfShades l) hw_632 hw_629 hw_631 hw_10 hw_61 ⟨by decide, by decide, by decide +kernel⟩ rfl (by decide) (by decide) (show decode cX8_best 16 = .ok (.invokevirtual 208, 3) by decide +kernel)
  · exact x_istore_n_ok (show decode cX8_best 19 = .ok (.istore_n 3, 1) by decide +kernel) rfl (by decide)
  · exact x_iload_n_ok (show decode cX8_best 20 = .ok (.iload_n 3, 1) by decide +kernel) rfl
  · exact x_ifeq_ok (show decode cX8_best 21 = .ok (.ifCond .eq 5, 3) by decide +kernel) (by decide)
  · exact x_iload_n_ok (show decode cX8_best 24 = .ok (.iload_n 3, 1) by decide +kernel) rfl
  · exact x_iret_ok (show decode cX8_best 25 = .ok (.ireturn, 1) by decide +kernel)
  · exact x_iconst_ok (show decode cX8_best 26 = .ok (.iconst 0, 1) by decide +kernel) (by decide)
  · exact x_istore_ok (show decode cX8_best 27 = .ok (.istore 4, 2) by decide +kernel) (by decide)
  · exact x_iconst_ok (show decode cX8_best 29 = .ok (.iconst (-1), 1) by decide +kernel) (by decide)
  · exact x_istore_ok (show decode cX8_best 30 = .ok (.istore 5, 2) by decide +kernel) (by decide)
  · exact x_iconst_ok (show decode cX8_best 32 = .ok (.iconst 0, 1) by decide +kernel) (by decide)
  · exact x_istore_ok (show decode cX8_best 33 = .ok (.istore 6, 2) by decide +kernel) (by decide)
  · exact x_iload_ok (show decode cX8_best 35 = .ok (.iload 6, 2) by decide +kernel)
  · exact x_sipush_ok (show decode cX8_best 37 = .ok (.sipush 216, 3) by decide +kernel) (by decide)
  · exact x_cmpge_ok (show decode cX8_best 40 = .ok (.if_icmp .ge 41, 3) by decide +kernel) (by decide)
  · exact x_aload_n_ok (show decode cX8_best 43 = .ok (.aload_n 0, 1) by decide +kernel) rfl
  · exact x_getR_ok (ci := 6) (k := 0) rfl (by decide) (by decide) hw_222 (show decode cX8_best 44 = .ok (.getfield 11, 3) by decide +kernel)
  · exact x_iload_n_ok (show decode cX8_best 47 = .ok (.iload_n 1, 1) by decide +kernel) rfl
  · exact x_aald_ok (show decode cX8_best 48 = .ok (.aaload, 1) by decide +kernel)
  · exact x_iload_ok (show decode cX8_best 49 = .ok (.iload 6, 2) by decide +kernel)
  · exact x_iload_n_ok (show decode cX8_best 51 = .ok (.iload_n 2, 1) by decide +kernel) rfl
  · exact x_callS_ok (sX0_placesReached l) hw_652 hw_665 hw_651 hw_66 ⟨by decide, by decide, by decide +kernel⟩ (by decide) (by decide) (show decode cX8_best 52 = .ok (.invokestatic 219, 3) by decide +kernel)
  · exact x_callS_ok (sJ6_bitCount_0f7a4 l) hw_668 hw_666 hw_667 hw_77 ⟨by decide, by decide, by decide +kernel⟩ (by decide) (by decide) (show decode cX8_best 55 = .ok (.invokestatic 223, 3) by decide +kernel)
  · exact x_istore_ok (show decode cX8_best 58 = .ok (.istore 7, 2) by decide +kernel) (by decide)
  · exact x_iload_ok (show decode cX8_best 60 = .ok (.iload 7, 2) by decide +kernel)
  · exact x_iload_ok (show decode cX8_best 62 = .ok (.iload 5, 2) by decide +kernel)
  · exact x_cmple_ok (show decode cX8_best 64 = .ok (.if_icmp .le 11, 3) by decide +kernel) (by decide)
  · exact x_iload_ok (show decode cX8_best 67 = .ok (.iload 6, 2) by decide +kernel)
  · exact x_istore_ok (show decode cX8_best 69 = .ok (.istore 4, 2) by decide +kernel) (by decide)
  · exact x_iload_ok (show decode cX8_best 71 = .ok (.iload 7, 2) by decide +kernel)
  · exact x_istore_ok (show decode cX8_best 73 = .ok (.istore 5, 2) by decide +kernel) (by decide)
  · exact x_iinc_ok (show decode cX8_best 75 = .ok (.iinc 6 1, 3) by decide +kernel) (by decide) (by decide)
  · exact x_goto_ok (show decode cX8_best 78 = .ok (.goto (-43), 3) by decide +kernel) (by decide)
  · exact x_aload_n_ok (show decode cX8_best 81 = .ok (.aload_n 0, 1) by decide +kernel) rfl
  · exact x_iload_ok (show decode cX8_best 82 = .ok (.iload 5, 2) by decide +kernel)
  · exact x_putI_ok (ci := 6) (k := 10) rfl (by decide) (by decide) rfl hw_232 rfl (show decode cX8_best 84 = .ok (.putfield 84, 3) by decide +kernel)
  · exact x_iload_ok (show decode cX8_best 87 = .ok (.iload 4, 2) by decide +kernel)
  · exact x_iret_ok (show decode cX8_best 89 = .ok (.ireturn, 1) by decide +kernel)
noncomputable def FX8_best : List Value → xS → Option xR := xden tX8_best 8 (some .int) 0
theorem sX8_best (l : Launch) : xSound l yX8_best cX8_best 8 (some .int) 5 0 FX8_best := x_den (by decide) (tX8_best_ok l)
