noncomputable def tL_0 : List (Nat × xO) := [(0, x_new 6), (3, x_dup), (4, x_init 75 FX8_init), (7, x_astore 1 1), (8, x_new 7), (11, x_dup), (12, x_init 12 FX9_init), (15, x_astore 2 1), (16, x_push (.int (nI 0)) 1), (17, x_istore 3 1), (18, x_iload 3 1), (19, x_aload 0 1), (20, x_alen), (21, x_push (.int (nI 6)) 2), (23, x_ii (fun x y => x - y)), (24, x_cmpgt 1529), (27, x_aload 0 1), (28, x_iload 3 1), (29, x_iald), (30, x_push (.int (nI 63)) 2), (32, x_ii (fun x y => x &&& y)), (33, x_switch [((nI 0), 232), ((nI 1), 265), ((nI 2), 308), ((nI 3), 341), ((nI 4), 364), ((nI 5), 427), ((nI 6), 450), ((nI 7), 483), ((nI 8), 526), ((nI 9), 549), ((nI 10), 572), ((nI 11), 605), ((nI 12), 638), ((nI 13), 671), ((nI 14), 724), ((nI 15), 737), ((nI 16), 760), ((nI 17), 783), ((nI 18), 806), ((nI 19), 839), ((nI 20), 862), ((nI 21), 895), ((nI 22), 908), ((nI 23), 921), ((nI 24), 954), ((nI 25), 987), ((nI 26), 1020), ((nI 27), 1053), ((nI 28), 1086), ((nI 29), 1119), ((nI 30), 1142), ((nI 31), 1165), ((nI 32), 1208), ((nI 33), 1231), ((nI 34), 1254), ((nI 35), 1287), ((nI 36), 1320), ((nI 37), 1343), ((nI 38), 1366), ((nI 39), 1409), ((nI 40), 1422), ((nI 41), 1436), ((nI 42), 1450), ((nI 43), 1473), ((nI 44), 1486), ((nI 45), 1509)] 1523), (232, x_aload 1 1), (233, x_aload 0 1), (234, x_iload 3 1), (235, x_push (.int (nI 1)) 1), (236, x_ii (fun x y => x + y)), (237, x_iald), (238, x_aload 0 1), (239, x_iload 3 1), (240, x_push (.int (nI 2)) 1), (241, x_ii (fun x y => x + y)), (242, x_iald), (243, x_callV 6 0 3 FX8_row), (246, x_aload 2 1), (247, x_aload 0 1), (248, x_iload 3 1), (249, x_push (.int (nI 1)) 1), (250, x_ii (fun x y => x + y)), (251, x_iald), (252, x_aload 0 1), (253, x_iload 3 1), (254, x_push (.int (nI 2)) 1), (255, x_ii (fun x y => x + y)), (256, x_iald), (257, x_callV 7 0 3 FX9_row), (260, x_cmpeq 1523), (263, x_push (.int (nI 0)) 1)]
set_option maxRecDepth 100000 in
theorem tL_0_ok (l : Launch) : ∀ q ∈ tL_0, xOK l cL_law RL 4 10 89 False q.1 q.2 := by
  unfold tL_0
  refine List.forall_mem_cons.mpr ⟨?_, List.forall_mem_cons.mpr ⟨?_, List.forall_mem_cons.mpr ⟨?_, List.forall_mem_cons.mpr ⟨?_, List.forall_mem_cons.mpr ⟨?_, List.forall_mem_cons.mpr ⟨?_, List.forall_mem_cons.mpr ⟨?_, List.forall_mem_cons.mpr ⟨?_, List.forall_mem_cons.mpr ⟨?_, List.forall_mem_cons.mpr ⟨?_, List.forall_mem_cons.mpr ⟨?_, List.forall_mem_cons.mpr ⟨?_, List.forall_mem_cons.mpr ⟨?_, List.forall_mem_cons.mpr ⟨?_, List.forall_mem_cons.mpr ⟨?_, List.forall_mem_cons.mpr ⟨?_, List.forall_mem_cons.mpr ⟨?_, List.forall_mem_cons.mpr ⟨?_, List.forall_mem_cons.mpr ⟨?_, List.forall_mem_cons.mpr ⟨?_, List.forall_mem_cons.mpr ⟨?_, List.forall_mem_cons.mpr ⟨?_, List.forall_mem_cons.mpr ⟨?_, List.forall_mem_cons.mpr ⟨?_, List.forall_mem_cons.mpr ⟨?_, List.forall_mem_cons.mpr ⟨?_, List.forall_mem_cons.mpr ⟨?_, List.forall_mem_cons.mpr ⟨?_, List.forall_mem_cons.mpr ⟨?_, List.forall_mem_cons.mpr ⟨?_, List.forall_mem_cons.mpr ⟨?_, List.forall_mem_cons.mpr ⟨?_, List.forall_mem_cons.mpr ⟨?_, List.forall_mem_cons.mpr ⟨?_, List.forall_mem_cons.mpr ⟨?_, List.forall_mem_cons.mpr ⟨?_, List.forall_mem_cons.mpr ⟨?_, List.forall_mem_cons.mpr ⟨?_, List.forall_mem_cons.mpr ⟨?_, List.forall_mem_cons.mpr ⟨?_, List.forall_mem_cons.mpr ⟨?_, List.forall_mem_cons.mpr ⟨?_, List.forall_mem_cons.mpr ⟨?_, List.forall_mem_cons.mpr ⟨?_, List.forall_mem_cons.mpr ⟨?_, List.forall_mem_cons.mpr ⟨?_, List.forall_mem_cons.mpr ⟨?_, List.forall_mem_cons.mpr ⟨?_, fun _ h => absurd h List.not_mem_nil⟩⟩⟩⟩⟩⟩⟩⟩⟩⟩⟩⟩⟩⟩⟩⟩⟩⟩⟩⟩⟩⟩⟩⟩⟩⟩⟩⟩⟩⟩⟩⟩⟩⟩⟩⟩⟩⟩⟩⟩⟩⟩⟩⟩⟩⟩⟩⟩
  · exact x_new_ok (ci := 6) rfl (by decide) hw_78 hw_79 hw_61 (by decide) (show decode cL_law 0 = .ok (.new 7, 3) by decide +kernel)
  · exact x_dup_ok (show decode cL_law 3 = .ok (.dup, 1) by decide +kernel)
  · exact x_init_ok (sX8_init l) hw_82 hw_80 hw_81 hw_61 rfl ⟨by decide, by decide, by decide +kernel⟩ (by decide) (by decide) (show decode cL_law 4 = .ok (.invokespecial 9, 3) by decide +kernel)
  · exact x_astore_n_ok (show decode cL_law 7 = .ok (.astore_n 1, 1) by decide +kernel) rfl (by decide)
  · exact x_new_ok (ci := 7) rfl (by decide) hw_838 hw_839 hw_68 (by decide) (show decode cL_law 8 = .ok (.new 10, 3) by decide +kernel)
  · exact x_dup_ok (show decode cL_law 11 = .ok (.dup, 1) by decide +kernel)
  · exact x_init_ok (sX9_init l) hw_842 hw_840 hw_841 hw_68 rfl ⟨by decide, by decide, by decide +kernel⟩ (by decide) (by decide) (show decode cL_law 12 = .ok (.invokespecial 12, 3) by decide +kernel)
  · exact x_astore_n_ok (show decode cL_law 15 = .ok (.astore_n 2, 1) by decide +kernel) rfl (by decide)
  · exact x_iconst_ok (show decode cL_law 16 = .ok (.iconst 0, 1) by decide +kernel) (by decide)
  · exact x_istore_n_ok (show decode cL_law 17 = .ok (.istore_n 3, 1) by decide +kernel) rfl (by decide)
  · exact x_iload_n_ok (show decode cL_law 18 = .ok (.iload_n 3, 1) by decide +kernel) rfl
  · exact x_aload_n_ok (show decode cL_law 19 = .ok (.aload_n 0, 1) by decide +kernel) rfl
  · exact x_alen_ok (show decode cL_law 20 = .ok (.arraylength, 1) by decide +kernel)
  · exact x_bipush_ok (show decode cL_law 21 = .ok (.bipush 6, 2) by decide +kernel) (by decide)
  · exact x_isub_ok (show decode cL_law 23 = .ok (.isub, 1) by decide +kernel)
  · exact x_cmpgt_ok (show decode cL_law 24 = .ok (.if_icmp .gt 1505, 3) by decide +kernel) (by decide)
  · exact x_aload_n_ok (show decode cL_law 27 = .ok (.aload_n 0, 1) by decide +kernel) rfl
  · exact x_iload_n_ok (show decode cL_law 28 = .ok (.iload_n 3, 1) by decide +kernel) rfl
  · exact x_iald_ok (show decode cL_law 29 = .ok (.iaload, 1) by decide +kernel)
  · exact x_bipush_ok (show decode cL_law 30 = .ok (.bipush 63, 2) by decide +kernel) (by decide)
  · exact x_iand_ok (show decode cL_law 32 = .ok (.iand, 1) by decide +kernel)
  · exact x_switch_ok (show decode cL_law 33 = .ok (.tableswitch 1490 0 45 #[199, 232, 275, 308, 331, 394, 417, 450, 493, 516, 539, 572, 605, 638, 691, 704, 727, 750, 773, 806, 829, 862, 875, 888, 921, 954, 987, 1020, 1053, 1086, 1109, 1132, 1175, 1198, 1221, 1254, 1287, 1310, 1333, 1376, 1389, 1403, 1417, 1440, 1453, 1476], 199) by decide +kernel) (by decide) (by decide +kernel) (by decide) (by decide) (by decide +kernel)
  · exact x_aload_n_ok (show decode cL_law 232 = .ok (.aload_n 1, 1) by decide +kernel) rfl
  · exact x_aload_n_ok (show decode cL_law 233 = .ok (.aload_n 0, 1) by decide +kernel) rfl
  · exact x_iload_n_ok (show decode cL_law 234 = .ok (.iload_n 3, 1) by decide +kernel) rfl
  · exact x_iconst_ok (show decode cL_law 235 = .ok (.iconst 1, 1) by decide +kernel) (by decide)
  · exact x_iadd_ok (show decode cL_law 236 = .ok (.iadd, 1) by decide +kernel)
  · exact x_iald_ok (show decode cL_law 237 = .ok (.iaload, 1) by decide +kernel)
  · exact x_aload_n_ok (show decode cL_law 238 = .ok (.aload_n 0, 1) by decide +kernel) rfl
  · exact x_iload_n_ok (show decode cL_law 239 = .ok (.iload_n 3, 1) by decide +kernel) rfl
  · exact x_iconst_ok (show decode cL_law 240 = .ok (.iconst 2, 1) by decide +kernel) (by decide)
  · exact x_iadd_ok (show decode cL_law 241 = .ok (.iadd, 1) by decide +kernel)
  · exact x_iald_ok (show decode cL_law 242 = .ok (.iaload, 1) by decide +kernel)
  · exact x_callV_ok (ci := 6) rfl (by decide) (sX8_row l) hw_265 hw_262 hw_263 hw_264 hw_61 ⟨by decide, by decide, by decide +kernel⟩ rfl (by decide) (by decide) (show decode cL_law 243 = .ok (.invokevirtual 13, 3) by decide +kernel)
  · exact x_aload_n_ok (show decode cL_law 246 = .ok (.aload_n 2, 1) by decide +kernel) rfl
  · exact x_aload_n_ok (show decode cL_law 247 = .ok (.aload_n 0, 1) by decide +kernel) rfl
  · exact x_iload_n_ok (show decode cL_law 248 = .ok (.iload_n 3, 1) by decide +kernel) rfl
  · exact x_iconst_ok (show decode cL_law 249 = .ok (.iconst 1, 1) by decide +kernel) (by decide)
  · exact x_iadd_ok (show decode cL_law 250 = .ok (.iadd, 1) by decide +kernel)
  · exact x_iald_ok (show decode cL_law 251 = .ok (.iaload, 1) by decide +kernel)
  · exact x_aload_n_ok (show decode cL_law 252 = .ok (.aload_n 0, 1) by decide +kernel) rfl
  · exact x_iload_n_ok (show decode cL_law 253 = .ok (.iload_n 3, 1) by decide +kernel) rfl
  · exact x_iconst_ok (show decode cL_law 254 = .ok (.iconst 2, 1) by decide +kernel) (by decide)
  · exact x_iadd_ok (show decode cL_law 255 = .ok (.iadd, 1) by decide +kernel)
  · exact x_iald_ok (show decode cL_law 256 = .ok (.iaload, 1) by decide +kernel)
  · exact x_callV_ok (ci := 7) rfl (by decide) (sX9_row l) hw_911 hw_908 hw_909 hw_910 hw_68 ⟨by decide, by decide, by decide +kernel⟩ rfl (by decide) (by decide) (show decode cL_law 257 = .ok (.invokevirtual 17, 3) by decide +kernel)
  · exact x_cmpeq_ok (show decode cL_law 260 = .ok (.if_icmp .eq 1263, 3) by decide +kernel) (by decide)
  · exact x_iconst_ok (show decode cL_law 263 = .ok (.iconst 0, 1) by decide +kernel) (by decide)
theorem tL_0_lo : tL_0.all (fun q => decide (0 ≤ q.1) && decide (q.1 ≤ 263)) = true := rfl
noncomputable def tL_1 : List (Nat × xO) := [(264, x_iret), (265, x_aload 1 1), (266, x_aload 0 1), (267, x_iload 3 1), (268, x_push (.int (nI 1)) 1), (269, x_ii (fun x y => x + y)), (270, x_iald), (271, x_aload 0 1), (272, x_iload 3 1), (273, x_push (.int (nI 2)) 1), (274, x_ii (fun x y => x + y)), (275, x_iald), (276, x_aload 0 1), (277, x_iload 3 1), (278, x_push (.int (nI 3)) 1), (279, x_ii (fun x y => x + y)), (280, x_iald), (281, x_callV 6 0 4 FX8_lay), (284, x_aload 2 1), (285, x_aload 0 1), (286, x_iload 3 1), (287, x_push (.int (nI 1)) 1), (288, x_ii (fun x y => x + y)), (289, x_iald), (290, x_aload 0 1), (291, x_iload 3 1), (292, x_push (.int (nI 2)) 1), (293, x_ii (fun x y => x + y)), (294, x_iald), (295, x_aload 0 1), (296, x_iload 3 1), (297, x_push (.int (nI 3)) 1), (298, x_ii (fun x y => x + y)), (299, x_iald), (300, x_callV 7 0 4 FX9_lay), (303, x_cmpeq 1523), (306, x_push (.int (nI 0)) 1), (307, x_iret), (308, x_aload 1 1), (309, x_aload 0 1), (310, x_iload 3 1), (311, x_push (.int (nI 1)) 1), (312, x_ii (fun x y => x + y)), (313, x_iald), (314, x_aload 0 1), (315, x_iload 3 1), (316, x_push (.int (nI 2)) 1), (317, x_ii (fun x y => x + y))]
set_option maxRecDepth 100000 in
theorem tL_1_ok (l : Launch) : ∀ q ∈ tL_1, xOK l cL_law RL 4 10 89 False q.1 q.2 := by
  unfold tL_1
  refine List.forall_mem_cons.mpr ⟨?_, List.forall_mem_cons.mpr ⟨?_, List.forall_mem_cons.mpr ⟨?_, List.forall_mem_cons.mpr ⟨?_, List.forall_mem_cons.mpr ⟨?_, List.forall_mem_cons.mpr ⟨?_, List.forall_mem_cons.mpr ⟨?_, List.forall_mem_cons.mpr ⟨?_, List.forall_mem_cons.mpr ⟨?_, List.forall_mem_cons.mpr ⟨?_, List.forall_mem_cons.mpr ⟨?_, List.forall_mem_cons.mpr ⟨?_, List.forall_mem_cons.mpr ⟨?_, List.forall_mem_cons.mpr ⟨?_, List.forall_mem_cons.mpr ⟨?_, List.forall_mem_cons.mpr ⟨?_, List.forall_mem_cons.mpr ⟨?_, List.forall_mem_cons.mpr ⟨?_, List.forall_mem_cons.mpr ⟨?_, List.forall_mem_cons.mpr ⟨?_, List.forall_mem_cons.mpr ⟨?_, List.forall_mem_cons.mpr ⟨?_, List.forall_mem_cons.mpr ⟨?_, List.forall_mem_cons.mpr ⟨?_, List.forall_mem_cons.mpr ⟨?_, List.forall_mem_cons.mpr ⟨?_, List.forall_mem_cons.mpr ⟨?_, List.forall_mem_cons.mpr ⟨?_, List.forall_mem_cons.mpr ⟨?_, List.forall_mem_cons.mpr ⟨?_, List.forall_mem_cons.mpr ⟨?_, List.forall_mem_cons.mpr ⟨?_, List.forall_mem_cons.mpr ⟨?_, List.forall_mem_cons.mpr ⟨?_, List.forall_mem_cons.mpr ⟨?_, List.forall_mem_cons.mpr ⟨?_, List.forall_mem_cons.mpr ⟨?_, List.forall_mem_cons.mpr ⟨?_, List.forall_mem_cons.mpr ⟨?_, List.forall_mem_cons.mpr ⟨?_, List.forall_mem_cons.mpr ⟨?_, List.forall_mem_cons.mpr ⟨?_, List.forall_mem_cons.mpr ⟨?_, List.forall_mem_cons.mpr ⟨?_, List.forall_mem_cons.mpr ⟨?_, List.forall_mem_cons.mpr ⟨?_, List.forall_mem_cons.mpr ⟨?_, List.forall_mem_cons.mpr ⟨?_, fun _ h => absurd h List.not_mem_nil⟩⟩⟩⟩⟩⟩⟩⟩⟩⟩⟩⟩⟩⟩⟩⟩⟩⟩⟩⟩⟩⟩⟩⟩⟩⟩⟩⟩⟩⟩⟩⟩⟩⟩⟩⟩⟩⟩⟩⟩⟩⟩⟩⟩⟩⟩⟩⟩
  · exact x_iret_ok (show decode cL_law 264 = .ok (.ireturn, 1) by decide +kernel)
  · exact x_aload_n_ok (show decode cL_law 265 = .ok (.aload_n 1, 1) by decide +kernel) rfl
  · exact x_aload_n_ok (show decode cL_law 266 = .ok (.aload_n 0, 1) by decide +kernel) rfl
  · exact x_iload_n_ok (show decode cL_law 267 = .ok (.iload_n 3, 1) by decide +kernel) rfl
  · exact x_iconst_ok (show decode cL_law 268 = .ok (.iconst 1, 1) by decide +kernel) (by decide)
  · exact x_iadd_ok (show decode cL_law 269 = .ok (.iadd, 1) by decide +kernel)
  · exact x_iald_ok (show decode cL_law 270 = .ok (.iaload, 1) by decide +kernel)
  · exact x_aload_n_ok (show decode cL_law 271 = .ok (.aload_n 0, 1) by decide +kernel) rfl
  · exact x_iload_n_ok (show decode cL_law 272 = .ok (.iload_n 3, 1) by decide +kernel) rfl
  · exact x_iconst_ok (show decode cL_law 273 = .ok (.iconst 2, 1) by decide +kernel) (by decide)
  · exact x_iadd_ok (show decode cL_law 274 = .ok (.iadd, 1) by decide +kernel)
  · exact x_iald_ok (show decode cL_law 275 = .ok (.iaload, 1) by decide +kernel)
  · exact x_aload_n_ok (show decode cL_law 276 = .ok (.aload_n 0, 1) by decide +kernel) rfl
  · exact x_iload_n_ok (show decode cL_law 277 = .ok (.iload_n 3, 1) by decide +kernel) rfl
  · exact x_iconst_ok (show decode cL_law 278 = .ok (.iconst 3, 1) by decide +kernel) (by decide)
  · exact x_iadd_ok (show decode cL_law 279 = .ok (.iadd, 1) by decide +kernel)
  · exact x_iald_ok (show decode cL_law 280 = .ok (.iaload, 1) by decide +kernel)
  · exact x_callV_ok (ci := 6) rfl (by decide) (sX8_lay l) hw_280 hw_277 hw_278 hw_279 hw_61 ⟨by decide, by decide, by decide +kernel⟩ rfl (by decide) (by decide) (show decode cL_law 281 = .ok (.invokevirtual 18, 3) by decide +kernel)
  · exact x_aload_n_ok (show decode cL_law 284 = .ok (.aload_n 2, 1) by decide +kernel) rfl
  · exact x_aload_n_ok (show decode cL_law 285 = .ok (.aload_n 0, 1) by decide +kernel) rfl
  · exact x_iload_n_ok (show decode cL_law 286 = .ok (.iload_n 3, 1) by decide +kernel) rfl
  · exact x_iconst_ok (show decode cL_law 287 = .ok (.iconst 1, 1) by decide +kernel) (by decide)
  · exact x_iadd_ok (show decode cL_law 288 = .ok (.iadd, 1) by decide +kernel)
  · exact x_iald_ok (show decode cL_law 289 = .ok (.iaload, 1) by decide +kernel)
  · exact x_aload_n_ok (show decode cL_law 290 = .ok (.aload_n 0, 1) by decide +kernel) rfl
  · exact x_iload_n_ok (show decode cL_law 291 = .ok (.iload_n 3, 1) by decide +kernel) rfl
  · exact x_iconst_ok (show decode cL_law 292 = .ok (.iconst 2, 1) by decide +kernel) (by decide)
  · exact x_iadd_ok (show decode cL_law 293 = .ok (.iadd, 1) by decide +kernel)
  · exact x_iald_ok (show decode cL_law 294 = .ok (.iaload, 1) by decide +kernel)
  · exact x_aload_n_ok (show decode cL_law 295 = .ok (.aload_n 0, 1) by decide +kernel) rfl
  · exact x_iload_n_ok (show decode cL_law 296 = .ok (.iload_n 3, 1) by decide +kernel) rfl
  · exact x_iconst_ok (show decode cL_law 297 = .ok (.iconst 3, 1) by decide +kernel) (by decide)
  · exact x_iadd_ok (show decode cL_law 298 = .ok (.iadd, 1) by decide +kernel)
  · exact x_iald_ok (show decode cL_law 299 = .ok (.iaload, 1) by decide +kernel)
  · exact x_callV_ok (ci := 7) rfl (by decide) (sX9_lay l) hw_930 hw_927 hw_928 hw_929 hw_68 ⟨by decide, by decide, by decide +kernel⟩ rfl (by decide) (by decide) (show decode cL_law 300 = .ok (.invokevirtual 22, 3) by decide +kernel)
  · exact x_cmpeq_ok (show decode cL_law 303 = .ok (.if_icmp .eq 1220, 3) by decide +kernel) (by decide)
  · exact x_iconst_ok (show decode cL_law 306 = .ok (.iconst 0, 1) by decide +kernel) (by decide)
  · exact x_iret_ok (show decode cL_law 307 = .ok (.ireturn, 1) by decide +kernel)
  · exact x_aload_n_ok (show decode cL_law 308 = .ok (.aload_n 1, 1) by decide +kernel) rfl
  · exact x_aload_n_ok (show decode cL_law 309 = .ok (.aload_n 0, 1) by decide +kernel) rfl
  · exact x_iload_n_ok (show decode cL_law 310 = .ok (.iload_n 3, 1) by decide +kernel) rfl
  · exact x_iconst_ok (show decode cL_law 311 = .ok (.iconst 1, 1) by decide +kernel) (by decide)
  · exact x_iadd_ok (show decode cL_law 312 = .ok (.iadd, 1) by decide +kernel)
  · exact x_iald_ok (show decode cL_law 313 = .ok (.iaload, 1) by decide +kernel)
  · exact x_aload_n_ok (show decode cL_law 314 = .ok (.aload_n 0, 1) by decide +kernel) rfl
  · exact x_iload_n_ok (show decode cL_law 315 = .ok (.iload_n 3, 1) by decide +kernel) rfl
  · exact x_iconst_ok (show decode cL_law 316 = .ok (.iconst 2, 1) by decide +kernel) (by decide)
  · exact x_iadd_ok (show decode cL_law 317 = .ok (.iadd, 1) by decide +kernel)
theorem tL_1_lo : tL_1.all (fun q => decide (264 ≤ q.1) && decide (q.1 ≤ 317)) = true := rfl
noncomputable def tL_2 : List (Nat × xO) := [(318, x_iald), (319, x_callV 6 0 3 FX8_at), (322, x_aload 2 1), (323, x_aload 0 1), (324, x_iload 3 1), (325, x_push (.int (nI 1)) 1), (326, x_ii (fun x y => x + y)), (327, x_iald), (328, x_aload 0 1), (329, x_iload 3 1), (330, x_push (.int (nI 2)) 1), (331, x_ii (fun x y => x + y)), (332, x_iald), (333, x_callV 7 0 3 FX9_at), (336, x_cmpeq 1523), (339, x_push (.int (nI 0)) 1), (340, x_iret), (341, x_aload 1 1), (342, x_aload 0 1), (343, x_iload 3 1), (344, x_push (.int (nI 1)) 1), (345, x_ii (fun x y => x + y)), (346, x_iald), (347, x_callV 6 0 2 FX8_tear), (350, x_aload 2 1), (351, x_aload 0 1), (352, x_iload 3 1), (353, x_push (.int (nI 1)) 1), (354, x_ii (fun x y => x + y)), (355, x_iald), (356, x_callV 7 0 2 FX9_tear), (359, x_cmpeq 1523), (362, x_push (.int (nI 0)) 1), (363, x_iret), (364, x_aload 1 1), (365, x_aload 0 1), (366, x_iload 3 1), (367, x_push (.int (nI 1)) 1), (368, x_ii (fun x y => x + y)), (369, x_iald), (370, x_aload 0 1), (371, x_iload 3 1), (372, x_push (.int (nI 2)) 1), (373, x_ii (fun x y => x + y)), (374, x_iald), (375, x_aload 0 1), (376, x_iload 3 1), (377, x_push (.int (nI 3)) 1)]
set_option maxRecDepth 100000 in
theorem tL_2_ok (l : Launch) : ∀ q ∈ tL_2, xOK l cL_law RL 4 10 89 False q.1 q.2 := by
  unfold tL_2
  refine List.forall_mem_cons.mpr ⟨?_, List.forall_mem_cons.mpr ⟨?_, List.forall_mem_cons.mpr ⟨?_, List.forall_mem_cons.mpr ⟨?_, List.forall_mem_cons.mpr ⟨?_, List.forall_mem_cons.mpr ⟨?_, List.forall_mem_cons.mpr ⟨?_, List.forall_mem_cons.mpr ⟨?_, List.forall_mem_cons.mpr ⟨?_, List.forall_mem_cons.mpr ⟨?_, List.forall_mem_cons.mpr ⟨?_, List.forall_mem_cons.mpr ⟨?_, List.forall_mem_cons.mpr ⟨?_, List.forall_mem_cons.mpr ⟨?_, List.forall_mem_cons.mpr ⟨?_, List.forall_mem_cons.mpr ⟨?_, List.forall_mem_cons.mpr ⟨?_, List.forall_mem_cons.mpr ⟨?_, List.forall_mem_cons.mpr ⟨?_, List.forall_mem_cons.mpr ⟨?_, List.forall_mem_cons.mpr ⟨?_, List.forall_mem_cons.mpr ⟨?_, List.forall_mem_cons.mpr ⟨?_, List.forall_mem_cons.mpr ⟨?_, List.forall_mem_cons.mpr ⟨?_, List.forall_mem_cons.mpr ⟨?_, List.forall_mem_cons.mpr ⟨?_, List.forall_mem_cons.mpr ⟨?_, List.forall_mem_cons.mpr ⟨?_, List.forall_mem_cons.mpr ⟨?_, List.forall_mem_cons.mpr ⟨?_, List.forall_mem_cons.mpr ⟨?_, List.forall_mem_cons.mpr ⟨?_, List.forall_mem_cons.mpr ⟨?_, List.forall_mem_cons.mpr ⟨?_, List.forall_mem_cons.mpr ⟨?_, List.forall_mem_cons.mpr ⟨?_, List.forall_mem_cons.mpr ⟨?_, List.forall_mem_cons.mpr ⟨?_, List.forall_mem_cons.mpr ⟨?_, List.forall_mem_cons.mpr ⟨?_, List.forall_mem_cons.mpr ⟨?_, List.forall_mem_cons.mpr ⟨?_, List.forall_mem_cons.mpr ⟨?_, List.forall_mem_cons.mpr ⟨?_, List.forall_mem_cons.mpr ⟨?_, List.forall_mem_cons.mpr ⟨?_, List.forall_mem_cons.mpr ⟨?_, fun _ h => absurd h List.not_mem_nil⟩⟩⟩⟩⟩⟩⟩⟩⟩⟩⟩⟩⟩⟩⟩⟩⟩⟩⟩⟩⟩⟩⟩⟩⟩⟩⟩⟩⟩⟩⟩⟩⟩⟩⟩⟩⟩⟩⟩⟩⟩⟩⟩⟩⟩⟩⟩⟩
  · exact x_iald_ok (show decode cL_law 318 = .ok (.iaload, 1) by decide +kernel)
  · exact x_callV_ok (ci := 6) rfl (by decide) (sX8_at l) hw_296 hw_293 hw_294 hw_295 hw_61 ⟨by decide, by decide, by decide +kernel⟩ rfl (by decide) (by decide) (show decode cL_law 319 = .ok (.invokevirtual 23, 3) by decide +kernel)
  · exact x_aload_n_ok (show decode cL_law 322 = .ok (.aload_n 2, 1) by decide +kernel) rfl
  · exact x_aload_n_ok (show decode cL_law 323 = .ok (.aload_n 0, 1) by decide +kernel) rfl
  · exact x_iload_n_ok (show decode cL_law 324 = .ok (.iload_n 3, 1) by decide +kernel) rfl
  · exact x_iconst_ok (show decode cL_law 325 = .ok (.iconst 1, 1) by decide +kernel) (by decide)
  · exact x_iadd_ok (show decode cL_law 326 = .ok (.iadd, 1) by decide +kernel)
  · exact x_iald_ok (show decode cL_law 327 = .ok (.iaload, 1) by decide +kernel)
  · exact x_aload_n_ok (show decode cL_law 328 = .ok (.aload_n 0, 1) by decide +kernel) rfl
  · exact x_iload_n_ok (show decode cL_law 329 = .ok (.iload_n 3, 1) by decide +kernel) rfl
  · exact x_iconst_ok (show decode cL_law 330 = .ok (.iconst 2, 1) by decide +kernel) (by decide)
  · exact x_iadd_ok (show decode cL_law 331 = .ok (.iadd, 1) by decide +kernel)
  · exact x_iald_ok (show decode cL_law 332 = .ok (.iaload, 1) by decide +kernel)
  · exact x_callV_ok (ci := 7) rfl (by decide) (sX9_at l) hw_942 hw_939 hw_940 hw_941 hw_68 ⟨by decide, by decide, by decide +kernel⟩ rfl (by decide) (by decide) (show decode cL_law 333 = .ok (.invokevirtual 26, 3) by decide +kernel)
  · exact x_cmpeq_ok (show decode cL_law 336 = .ok (.if_icmp .eq 1187, 3) by decide +kernel) (by decide)
  · exact x_iconst_ok (show decode cL_law 339 = .ok (.iconst 0, 1) by decide +kernel) (by decide)
  · exact x_iret_ok (show decode cL_law 340 = .ok (.ireturn, 1) by decide +kernel)
  · exact x_aload_n_ok (show decode cL_law 341 = .ok (.aload_n 1, 1) by decide +kernel) rfl
  · exact x_aload_n_ok (show decode cL_law 342 = .ok (.aload_n 0, 1) by decide +kernel) rfl
  · exact x_iload_n_ok (show decode cL_law 343 = .ok (.iload_n 3, 1) by decide +kernel) rfl
  · exact x_iconst_ok (show decode cL_law 344 = .ok (.iconst 1, 1) by decide +kernel) (by decide)
  · exact x_iadd_ok (show decode cL_law 345 = .ok (.iadd, 1) by decide +kernel)
  · exact x_iald_ok (show decode cL_law 346 = .ok (.iaload, 1) by decide +kernel)
  · exact x_callV_ok (ci := 6) rfl (by decide) (sX8_tear l) hw_300 hw_297 hw_298 hw_299 hw_61 ⟨by decide, by decide, by decide +kernel⟩ rfl (by decide) (by decide) (show decode cL_law 347 = .ok (.invokevirtual 27, 3) by decide +kernel)
  · exact x_aload_n_ok (show decode cL_law 350 = .ok (.aload_n 2, 1) by decide +kernel) rfl
  · exact x_aload_n_ok (show decode cL_law 351 = .ok (.aload_n 0, 1) by decide +kernel) rfl
  · exact x_iload_n_ok (show decode cL_law 352 = .ok (.iload_n 3, 1) by decide +kernel) rfl
  · exact x_iconst_ok (show decode cL_law 353 = .ok (.iconst 1, 1) by decide +kernel) (by decide)
  · exact x_iadd_ok (show decode cL_law 354 = .ok (.iadd, 1) by decide +kernel)
  · exact x_iald_ok (show decode cL_law 355 = .ok (.iaload, 1) by decide +kernel)
  · exact x_callV_ok (ci := 7) rfl (by decide) (sX9_tear l) hw_946 hw_943 hw_944 hw_945 hw_68 ⟨by decide, by decide, by decide +kernel⟩ rfl (by decide) (by decide) (show decode cL_law 356 = .ok (.invokevirtual 31, 3) by decide +kernel)
  · exact x_cmpeq_ok (show decode cL_law 359 = .ok (.if_icmp .eq 1164, 3) by decide +kernel) (by decide)
  · exact x_iconst_ok (show decode cL_law 362 = .ok (.iconst 0, 1) by decide +kernel) (by decide)
  · exact x_iret_ok (show decode cL_law 363 = .ok (.ireturn, 1) by decide +kernel)
  · exact x_aload_n_ok (show decode cL_law 364 = .ok (.aload_n 1, 1) by decide +kernel) rfl
  · exact x_aload_n_ok (show decode cL_law 365 = .ok (.aload_n 0, 1) by decide +kernel) rfl
  · exact x_iload_n_ok (show decode cL_law 366 = .ok (.iload_n 3, 1) by decide +kernel) rfl
  · exact x_iconst_ok (show decode cL_law 367 = .ok (.iconst 1, 1) by decide +kernel) (by decide)
  · exact x_iadd_ok (show decode cL_law 368 = .ok (.iadd, 1) by decide +kernel)
  · exact x_iald_ok (show decode cL_law 369 = .ok (.iaload, 1) by decide +kernel)
  · exact x_aload_n_ok (show decode cL_law 370 = .ok (.aload_n 0, 1) by decide +kernel) rfl
  · exact x_iload_n_ok (show decode cL_law 371 = .ok (.iload_n 3, 1) by decide +kernel) rfl
  · exact x_iconst_ok (show decode cL_law 372 = .ok (.iconst 2, 1) by decide +kernel) (by decide)
  · exact x_iadd_ok (show decode cL_law 373 = .ok (.iadd, 1) by decide +kernel)
  · exact x_iald_ok (show decode cL_law 374 = .ok (.iaload, 1) by decide +kernel)
  · exact x_aload_n_ok (show decode cL_law 375 = .ok (.aload_n 0, 1) by decide +kernel) rfl
  · exact x_iload_n_ok (show decode cL_law 376 = .ok (.iload_n 3, 1) by decide +kernel) rfl
  · exact x_iconst_ok (show decode cL_law 377 = .ok (.iconst 3, 1) by decide +kernel) (by decide)
theorem tL_2_lo : tL_2.all (fun q => decide (318 ≤ q.1) && decide (q.1 ≤ 377)) = true := rfl
noncomputable def tL_3 : List (Nat × xO) := [(378, x_ii (fun x y => x + y)), (379, x_iald), (380, x_aload 0 1), (381, x_iload 3 1), (382, x_push (.int (nI 4)) 1), (383, x_ii (fun x y => x + y)), (384, x_iald), (385, x_aload 0 1), (386, x_iload 3 1), (387, x_push (.int (nI 5)) 1), (388, x_ii (fun x y => x + y)), (389, x_iald), (390, x_callV 6 0 6 FX8_copy), (393, x_aload 2 1), (394, x_aload 0 1), (395, x_iload 3 1), (396, x_push (.int (nI 1)) 1), (397, x_ii (fun x y => x + y)), (398, x_iald), (399, x_aload 0 1), (400, x_iload 3 1), (401, x_push (.int (nI 2)) 1), (402, x_ii (fun x y => x + y)), (403, x_iald), (404, x_aload 0 1), (405, x_iload 3 1), (406, x_push (.int (nI 3)) 1), (407, x_ii (fun x y => x + y)), (408, x_iald), (409, x_aload 0 1), (410, x_iload 3 1), (411, x_push (.int (nI 4)) 1), (412, x_ii (fun x y => x + y)), (413, x_iald), (414, x_aload 0 1), (415, x_iload 3 1), (416, x_push (.int (nI 5)) 1), (417, x_ii (fun x y => x + y)), (418, x_iald), (419, x_callV 7 0 6 FX9_copy), (422, x_cmpeq 1523), (425, x_push (.int (nI 0)) 1), (426, x_iret), (427, x_aload 1 1), (428, x_aload 0 1), (429, x_iload 3 1), (430, x_push (.int (nI 1)) 1), (431, x_ii (fun x y => x + y))]
set_option maxRecDepth 100000 in
theorem tL_3_ok (l : Launch) : ∀ q ∈ tL_3, xOK l cL_law RL 4 10 89 False q.1 q.2 := by
  unfold tL_3
  refine List.forall_mem_cons.mpr ⟨?_, List.forall_mem_cons.mpr ⟨?_, List.forall_mem_cons.mpr ⟨?_, List.forall_mem_cons.mpr ⟨?_, List.forall_mem_cons.mpr ⟨?_, List.forall_mem_cons.mpr ⟨?_, List.forall_mem_cons.mpr ⟨?_, List.forall_mem_cons.mpr ⟨?_, List.forall_mem_cons.mpr ⟨?_, List.forall_mem_cons.mpr ⟨?_, List.forall_mem_cons.mpr ⟨?_, List.forall_mem_cons.mpr ⟨?_, List.forall_mem_cons.mpr ⟨?_, List.forall_mem_cons.mpr ⟨?_, List.forall_mem_cons.mpr ⟨?_, List.forall_mem_cons.mpr ⟨?_, List.forall_mem_cons.mpr ⟨?_, List.forall_mem_cons.mpr ⟨?_, List.forall_mem_cons.mpr ⟨?_, List.forall_mem_cons.mpr ⟨?_, List.forall_mem_cons.mpr ⟨?_, List.forall_mem_cons.mpr ⟨?_, List.forall_mem_cons.mpr ⟨?_, List.forall_mem_cons.mpr ⟨?_, List.forall_mem_cons.mpr ⟨?_, List.forall_mem_cons.mpr ⟨?_, List.forall_mem_cons.mpr ⟨?_, List.forall_mem_cons.mpr ⟨?_, List.forall_mem_cons.mpr ⟨?_, List.forall_mem_cons.mpr ⟨?_, List.forall_mem_cons.mpr ⟨?_, List.forall_mem_cons.mpr ⟨?_, List.forall_mem_cons.mpr ⟨?_, List.forall_mem_cons.mpr ⟨?_, List.forall_mem_cons.mpr ⟨?_, List.forall_mem_cons.mpr ⟨?_, List.forall_mem_cons.mpr ⟨?_, List.forall_mem_cons.mpr ⟨?_, List.forall_mem_cons.mpr ⟨?_, List.forall_mem_cons.mpr ⟨?_, List.forall_mem_cons.mpr ⟨?_, List.forall_mem_cons.mpr ⟨?_, List.forall_mem_cons.mpr ⟨?_, List.forall_mem_cons.mpr ⟨?_, List.forall_mem_cons.mpr ⟨?_, List.forall_mem_cons.mpr ⟨?_, List.forall_mem_cons.mpr ⟨?_, List.forall_mem_cons.mpr ⟨?_, fun _ h => absurd h List.not_mem_nil⟩⟩⟩⟩⟩⟩⟩⟩⟩⟩⟩⟩⟩⟩⟩⟩⟩⟩⟩⟩⟩⟩⟩⟩⟩⟩⟩⟩⟩⟩⟩⟩⟩⟩⟩⟩⟩⟩⟩⟩⟩⟩⟩⟩⟩⟩⟩⟩
  · exact x_iadd_ok (show decode cL_law 378 = .ok (.iadd, 1) by decide +kernel)
  · exact x_iald_ok (show decode cL_law 379 = .ok (.iaload, 1) by decide +kernel)
  · exact x_aload_n_ok (show decode cL_law 380 = .ok (.aload_n 0, 1) by decide +kernel) rfl
  · exact x_iload_n_ok (show decode cL_law 381 = .ok (.iload_n 3, 1) by decide +kernel) rfl
  · exact x_iconst_ok (show decode cL_law 382 = .ok (.iconst 4, 1) by decide +kernel) (by decide)
  · exact x_iadd_ok (show decode cL_law 383 = .ok (.iadd, 1) by decide +kernel)
  · exact x_iald_ok (show decode cL_law 384 = .ok (.iaload, 1) by decide +kernel)
  · exact x_aload_n_ok (show decode cL_law 385 = .ok (.aload_n 0, 1) by decide +kernel) rfl
  · exact x_iload_n_ok (show decode cL_law 386 = .ok (.iload_n 3, 1) by decide +kernel) rfl
  · exact x_iconst_ok (show decode cL_law 387 = .ok (.iconst 5, 1) by decide +kernel) (by decide)
  · exact x_iadd_ok (show decode cL_law 388 = .ok (.iadd, 1) by decide +kernel)
  · exact x_iald_ok (show decode cL_law 389 = .ok (.iaload, 1) by decide +kernel)
  · exact x_callV_ok (ci := 6) rfl (by decide) (sX8_copy l) hw_308 hw_305 hw_306 hw_307 hw_61 ⟨by decide, by decide, by decide +kernel⟩ rfl (by decide) (by decide) (show decode cL_law 390 = .ok (.invokevirtual 32, 3) by decide +kernel)
  · exact x_aload_n_ok (show decode cL_law 393 = .ok (.aload_n 2, 1) by decide +kernel) rfl
  · exact x_aload_n_ok (show decode cL_law 394 = .ok (.aload_n 0, 1) by decide +kernel) rfl
  · exact x_iload_n_ok (show decode cL_law 395 = .ok (.iload_n 3, 1) by decide +kernel) rfl
  · exact x_iconst_ok (show decode cL_law 396 = .ok (.iconst 1, 1) by decide +kernel) (by decide)
  · exact x_iadd_ok (show decode cL_law 397 = .ok (.iadd, 1) by decide +kernel)
  · exact x_iald_ok (show decode cL_law 398 = .ok (.iaload, 1) by decide +kernel)
  · exact x_aload_n_ok (show decode cL_law 399 = .ok (.aload_n 0, 1) by decide +kernel) rfl
  · exact x_iload_n_ok (show decode cL_law 400 = .ok (.iload_n 3, 1) by decide +kernel) rfl
  · exact x_iconst_ok (show decode cL_law 401 = .ok (.iconst 2, 1) by decide +kernel) (by decide)
  · exact x_iadd_ok (show decode cL_law 402 = .ok (.iadd, 1) by decide +kernel)
  · exact x_iald_ok (show decode cL_law 403 = .ok (.iaload, 1) by decide +kernel)
  · exact x_aload_n_ok (show decode cL_law 404 = .ok (.aload_n 0, 1) by decide +kernel) rfl
  · exact x_iload_n_ok (show decode cL_law 405 = .ok (.iload_n 3, 1) by decide +kernel) rfl
  · exact x_iconst_ok (show decode cL_law 406 = .ok (.iconst 3, 1) by decide +kernel) (by decide)
  · exact x_iadd_ok (show decode cL_law 407 = .ok (.iadd, 1) by decide +kernel)
  · exact x_iald_ok (show decode cL_law 408 = .ok (.iaload, 1) by decide +kernel)
  · exact x_aload_n_ok (show decode cL_law 409 = .ok (.aload_n 0, 1) by decide +kernel) rfl
  · exact x_iload_n_ok (show decode cL_law 410 = .ok (.iload_n 3, 1) by decide +kernel) rfl
  · exact x_iconst_ok (show decode cL_law 411 = .ok (.iconst 4, 1) by decide +kernel) (by decide)
  · exact x_iadd_ok (show decode cL_law 412 = .ok (.iadd, 1) by decide +kernel)
  · exact x_iald_ok (show decode cL_law 413 = .ok (.iaload, 1) by decide +kernel)
  · exact x_aload_n_ok (show decode cL_law 414 = .ok (.aload_n 0, 1) by decide +kernel) rfl
  · exact x_iload_n_ok (show decode cL_law 415 = .ok (.iload_n 3, 1) by decide +kernel) rfl
  · exact x_iconst_ok (show decode cL_law 416 = .ok (.iconst 5, 1) by decide +kernel) (by decide)
  · exact x_iadd_ok (show decode cL_law 417 = .ok (.iadd, 1) by decide +kernel)
  · exact x_iald_ok (show decode cL_law 418 = .ok (.iaload, 1) by decide +kernel)
  · exact x_callV_ok (ci := 7) rfl (by decide) (sX9_copy l) hw_950 hw_947 hw_948 hw_949 hw_68 ⟨by decide, by decide, by decide +kernel⟩ rfl (by decide) (by decide) (show decode cL_law 419 = .ok (.invokevirtual 36, 3) by decide +kernel)
  · exact x_cmpeq_ok (show decode cL_law 422 = .ok (.if_icmp .eq 1101, 3) by decide +kernel) (by decide)
  · exact x_iconst_ok (show decode cL_law 425 = .ok (.iconst 0, 1) by decide +kernel) (by decide)
  · exact x_iret_ok (show decode cL_law 426 = .ok (.ireturn, 1) by decide +kernel)
  · exact x_aload_n_ok (show decode cL_law 427 = .ok (.aload_n 1, 1) by decide +kernel) rfl
  · exact x_aload_n_ok (show decode cL_law 428 = .ok (.aload_n 0, 1) by decide +kernel) rfl
  · exact x_iload_n_ok (show decode cL_law 429 = .ok (.iload_n 3, 1) by decide +kernel) rfl
  · exact x_iconst_ok (show decode cL_law 430 = .ok (.iconst 1, 1) by decide +kernel) (by decide)
  · exact x_iadd_ok (show decode cL_law 431 = .ok (.iadd, 1) by decide +kernel)
theorem tL_3_lo : tL_3.all (fun q => decide (378 ≤ q.1) && decide (q.1 ≤ 431)) = true := rfl
noncomputable def tL_4 : List (Nat × xO) := [(432, x_iald), (433, x_callV 6 0 2 FX8_mean), (436, x_aload 2 1), (437, x_aload 0 1), (438, x_iload 3 1), (439, x_push (.int (nI 1)) 1), (440, x_ii (fun x y => x + y)), (441, x_iald), (442, x_callV 7 0 2 FX9_mean), (445, x_cmpeq 1523), (448, x_push (.int (nI 0)) 1), (449, x_iret), (450, x_aload 1 1), (451, x_aload 0 1), (452, x_iload 3 1), (453, x_push (.int (nI 1)) 1), (454, x_ii (fun x y => x + y)), (455, x_iald), (456, x_aload 0 1), (457, x_iload 3 1), (458, x_push (.int (nI 2)) 1), (459, x_ii (fun x y => x + y)), (460, x_iald), (461, x_callV 6 0 3 FX8_text), (464, x_aload 2 1), (465, x_aload 0 1), (466, x_iload 3 1), (467, x_push (.int (nI 1)) 1), (468, x_ii (fun x y => x + y)), (469, x_iald), (470, x_aload 0 1), (471, x_iload 3 1), (472, x_push (.int (nI 2)) 1), (473, x_ii (fun x y => x + y)), (474, x_iald), (475, x_callV 7 0 3 FX9_text), (478, x_cmpeq 1523), (481, x_push (.int (nI 0)) 1), (482, x_iret), (483, x_aload 1 1), (484, x_aload 0 1), (485, x_iload 3 1), (486, x_push (.int (nI 1)) 1), (487, x_ii (fun x y => x + y)), (488, x_iald), (489, x_aload 0 1), (490, x_iload 3 1), (491, x_push (.int (nI 2)) 1)]
set_option maxRecDepth 100000 in
theorem tL_4_ok (l : Launch) : ∀ q ∈ tL_4, xOK l cL_law RL 4 10 89 False q.1 q.2 := by
  unfold tL_4
  refine List.forall_mem_cons.mpr ⟨?_, List.forall_mem_cons.mpr ⟨?_, List.forall_mem_cons.mpr ⟨?_, List.forall_mem_cons.mpr ⟨?_, List.forall_mem_cons.mpr ⟨?_, List.forall_mem_cons.mpr ⟨?_, List.forall_mem_cons.mpr ⟨?_, List.forall_mem_cons.mpr ⟨?_, List.forall_mem_cons.mpr ⟨?_, List.forall_mem_cons.mpr ⟨?_, List.forall_mem_cons.mpr ⟨?_, List.forall_mem_cons.mpr ⟨?_, List.forall_mem_cons.mpr ⟨?_, List.forall_mem_cons.mpr ⟨?_, List.forall_mem_cons.mpr ⟨?_, List.forall_mem_cons.mpr ⟨?_, List.forall_mem_cons.mpr ⟨?_, List.forall_mem_cons.mpr ⟨?_, List.forall_mem_cons.mpr ⟨?_, List.forall_mem_cons.mpr ⟨?_, List.forall_mem_cons.mpr ⟨?_, List.forall_mem_cons.mpr ⟨?_, List.forall_mem_cons.mpr ⟨?_, List.forall_mem_cons.mpr ⟨?_, List.forall_mem_cons.mpr ⟨?_, List.forall_mem_cons.mpr ⟨?_, List.forall_mem_cons.mpr ⟨?_, List.forall_mem_cons.mpr ⟨?_, List.forall_mem_cons.mpr ⟨?_, List.forall_mem_cons.mpr ⟨?_, List.forall_mem_cons.mpr ⟨?_, List.forall_mem_cons.mpr ⟨?_, List.forall_mem_cons.mpr ⟨?_, List.forall_mem_cons.mpr ⟨?_, List.forall_mem_cons.mpr ⟨?_, List.forall_mem_cons.mpr ⟨?_, List.forall_mem_cons.mpr ⟨?_, List.forall_mem_cons.mpr ⟨?_, List.forall_mem_cons.mpr ⟨?_, List.forall_mem_cons.mpr ⟨?_, List.forall_mem_cons.mpr ⟨?_, List.forall_mem_cons.mpr ⟨?_, List.forall_mem_cons.mpr ⟨?_, List.forall_mem_cons.mpr ⟨?_, List.forall_mem_cons.mpr ⟨?_, List.forall_mem_cons.mpr ⟨?_, List.forall_mem_cons.mpr ⟨?_, List.forall_mem_cons.mpr ⟨?_, fun _ h => absurd h List.not_mem_nil⟩⟩⟩⟩⟩⟩⟩⟩⟩⟩⟩⟩⟩⟩⟩⟩⟩⟩⟩⟩⟩⟩⟩⟩⟩⟩⟩⟩⟩⟩⟩⟩⟩⟩⟩⟩⟩⟩⟩⟩⟩⟩⟩⟩⟩⟩⟩⟩
  · exact x_iald_ok (show decode cL_law 432 = .ok (.iaload, 1) by decide +kernel)
  · exact x_callV_ok (ci := 6) rfl (by decide) (sX8_mean l) hw_319 hw_316 hw_317 hw_318 hw_61 ⟨by decide, by decide, by decide +kernel⟩ rfl (by decide) (by decide) (show decode cL_law 433 = .ok (.invokevirtual 37, 3) by decide +kernel)
  · exact x_aload_n_ok (show decode cL_law 436 = .ok (.aload_n 2, 1) by decide +kernel) rfl
  · exact x_aload_n_ok (show decode cL_law 437 = .ok (.aload_n 0, 1) by decide +kernel) rfl
  · exact x_iload_n_ok (show decode cL_law 438 = .ok (.iload_n 3, 1) by decide +kernel) rfl
  · exact x_iconst_ok (show decode cL_law 439 = .ok (.iconst 1, 1) by decide +kernel) (by decide)
  · exact x_iadd_ok (show decode cL_law 440 = .ok (.iadd, 1) by decide +kernel)
  · exact x_iald_ok (show decode cL_law 441 = .ok (.iaload, 1) by decide +kernel)
  · exact x_callV_ok (ci := 7) rfl (by decide) (sX9_mean l) hw_958 hw_955 hw_956 hw_957 hw_68 ⟨by decide, by decide, by decide +kernel⟩ rfl (by decide) (by decide) (show decode cL_law 442 = .ok (.invokevirtual 40, 3) by decide +kernel)
  · exact x_cmpeq_ok (show decode cL_law 445 = .ok (.if_icmp .eq 1078, 3) by decide +kernel) (by decide)
  · exact x_iconst_ok (show decode cL_law 448 = .ok (.iconst 0, 1) by decide +kernel) (by decide)
  · exact x_iret_ok (show decode cL_law 449 = .ok (.ireturn, 1) by decide +kernel)
  · exact x_aload_n_ok (show decode cL_law 450 = .ok (.aload_n 1, 1) by decide +kernel) rfl
  · exact x_aload_n_ok (show decode cL_law 451 = .ok (.aload_n 0, 1) by decide +kernel) rfl
  · exact x_iload_n_ok (show decode cL_law 452 = .ok (.iload_n 3, 1) by decide +kernel) rfl
  · exact x_iconst_ok (show decode cL_law 453 = .ok (.iconst 1, 1) by decide +kernel) (by decide)
  · exact x_iadd_ok (show decode cL_law 454 = .ok (.iadd, 1) by decide +kernel)
  · exact x_iald_ok (show decode cL_law 455 = .ok (.iaload, 1) by decide +kernel)
  · exact x_aload_n_ok (show decode cL_law 456 = .ok (.aload_n 0, 1) by decide +kernel) rfl
  · exact x_iload_n_ok (show decode cL_law 457 = .ok (.iload_n 3, 1) by decide +kernel) rfl
  · exact x_iconst_ok (show decode cL_law 458 = .ok (.iconst 2, 1) by decide +kernel) (by decide)
  · exact x_iadd_ok (show decode cL_law 459 = .ok (.iadd, 1) by decide +kernel)
  · exact x_iald_ok (show decode cL_law 460 = .ok (.iaload, 1) by decide +kernel)
  · exact x_callV_ok (ci := 6) rfl (by decide) (sX8_text l) hw_327 hw_324 hw_325 hw_326 hw_61 ⟨by decide, by decide, by decide +kernel⟩ rfl (by decide) (by decide) (show decode cL_law 461 = .ok (.invokevirtual 41, 3) by decide +kernel)
  · exact x_aload_n_ok (show decode cL_law 464 = .ok (.aload_n 2, 1) by decide +kernel) rfl
  · exact x_aload_n_ok (show decode cL_law 465 = .ok (.aload_n 0, 1) by decide +kernel) rfl
  · exact x_iload_n_ok (show decode cL_law 466 = .ok (.iload_n 3, 1) by decide +kernel) rfl
  · exact x_iconst_ok (show decode cL_law 467 = .ok (.iconst 1, 1) by decide +kernel) (by decide)
  · exact x_iadd_ok (show decode cL_law 468 = .ok (.iadd, 1) by decide +kernel)
  · exact x_iald_ok (show decode cL_law 469 = .ok (.iaload, 1) by decide +kernel)
  · exact x_aload_n_ok (show decode cL_law 470 = .ok (.aload_n 0, 1) by decide +kernel) rfl
  · exact x_iload_n_ok (show decode cL_law 471 = .ok (.iload_n 3, 1) by decide +kernel) rfl
  · exact x_iconst_ok (show decode cL_law 472 = .ok (.iconst 2, 1) by decide +kernel) (by decide)
  · exact x_iadd_ok (show decode cL_law 473 = .ok (.iadd, 1) by decide +kernel)
  · exact x_iald_ok (show decode cL_law 474 = .ok (.iaload, 1) by decide +kernel)
  · exact x_callV_ok (ci := 7) rfl (by decide) (sX9_text l) hw_962 hw_959 hw_960 hw_961 hw_68 ⟨by decide, by decide, by decide +kernel⟩ rfl (by decide) (by decide) (show decode cL_law 475 = .ok (.invokevirtual 44, 3) by decide +kernel)
  · exact x_cmpeq_ok (show decode cL_law 478 = .ok (.if_icmp .eq 1045, 3) by decide +kernel) (by decide)
  · exact x_iconst_ok (show decode cL_law 481 = .ok (.iconst 0, 1) by decide +kernel) (by decide)
  · exact x_iret_ok (show decode cL_law 482 = .ok (.ireturn, 1) by decide +kernel)
  · exact x_aload_n_ok (show decode cL_law 483 = .ok (.aload_n 1, 1) by decide +kernel) rfl
  · exact x_aload_n_ok (show decode cL_law 484 = .ok (.aload_n 0, 1) by decide +kernel) rfl
  · exact x_iload_n_ok (show decode cL_law 485 = .ok (.iload_n 3, 1) by decide +kernel) rfl
  · exact x_iconst_ok (show decode cL_law 486 = .ok (.iconst 1, 1) by decide +kernel) (by decide)
  · exact x_iadd_ok (show decode cL_law 487 = .ok (.iadd, 1) by decide +kernel)
  · exact x_iald_ok (show decode cL_law 488 = .ok (.iaload, 1) by decide +kernel)
  · exact x_aload_n_ok (show decode cL_law 489 = .ok (.aload_n 0, 1) by decide +kernel) rfl
  · exact x_iload_n_ok (show decode cL_law 490 = .ok (.iload_n 3, 1) by decide +kernel) rfl
  · exact x_iconst_ok (show decode cL_law 491 = .ok (.iconst 2, 1) by decide +kernel) (by decide)
theorem tL_4_lo : tL_4.all (fun q => decide (432 ≤ q.1) && decide (q.1 ≤ 491)) = true := rfl
noncomputable def tL_5 : List (Nat × xO) := [(492, x_ii (fun x y => x + y)), (493, x_iald), (494, x_aload 0 1), (495, x_iload 3 1), (496, x_push (.int (nI 3)) 1), (497, x_ii (fun x y => x + y)), (498, x_iald), (499, x_callV 6 0 4 FX8_put), (502, x_aload 2 1), (503, x_aload 0 1), (504, x_iload 3 1), (505, x_push (.int (nI 1)) 1), (506, x_ii (fun x y => x + y)), (507, x_iald), (508, x_aload 0 1), (509, x_iload 3 1), (510, x_push (.int (nI 2)) 1), (511, x_ii (fun x y => x + y)), (512, x_iald), (513, x_aload 0 1), (514, x_iload 3 1), (515, x_push (.int (nI 3)) 1), (516, x_ii (fun x y => x + y)), (517, x_iald), (518, x_callV 7 0 4 FX9_put), (521, x_cmpeq 1523), (524, x_push (.int (nI 0)) 1), (525, x_iret), (526, x_aload 1 1), (527, x_aload 0 1), (528, x_iload 3 1), (529, x_push (.int (nI 1)) 1), (530, x_ii (fun x y => x + y)), (531, x_iald), (532, x_callV 6 0 2 FX8_fault), (535, x_aload 2 1), (536, x_aload 0 1), (537, x_iload 3 1), (538, x_push (.int (nI 1)) 1), (539, x_ii (fun x y => x + y)), (540, x_iald), (541, x_callV 7 0 2 FX9_fault), (544, x_cmpeq 1523), (547, x_push (.int (nI 0)) 1), (548, x_iret), (549, x_aload 1 1), (550, x_aload 0 1), (551, x_iload 3 1)]
set_option maxRecDepth 100000 in
theorem tL_5_ok (l : Launch) : ∀ q ∈ tL_5, xOK l cL_law RL 4 10 89 False q.1 q.2 := by
  unfold tL_5
  refine List.forall_mem_cons.mpr ⟨?_, List.forall_mem_cons.mpr ⟨?_, List.forall_mem_cons.mpr ⟨?_, List.forall_mem_cons.mpr ⟨?_, List.forall_mem_cons.mpr ⟨?_, List.forall_mem_cons.mpr ⟨?_, List.forall_mem_cons.mpr ⟨?_, List.forall_mem_cons.mpr ⟨?_, List.forall_mem_cons.mpr ⟨?_, List.forall_mem_cons.mpr ⟨?_, List.forall_mem_cons.mpr ⟨?_, List.forall_mem_cons.mpr ⟨?_, List.forall_mem_cons.mpr ⟨?_, List.forall_mem_cons.mpr ⟨?_, List.forall_mem_cons.mpr ⟨?_, List.forall_mem_cons.mpr ⟨?_, List.forall_mem_cons.mpr ⟨?_, List.forall_mem_cons.mpr ⟨?_, List.forall_mem_cons.mpr ⟨?_, List.forall_mem_cons.mpr ⟨?_, List.forall_mem_cons.mpr ⟨?_, List.forall_mem_cons.mpr ⟨?_, List.forall_mem_cons.mpr ⟨?_, List.forall_mem_cons.mpr ⟨?_, List.forall_mem_cons.mpr ⟨?_, List.forall_mem_cons.mpr ⟨?_, List.forall_mem_cons.mpr ⟨?_, List.forall_mem_cons.mpr ⟨?_, List.forall_mem_cons.mpr ⟨?_, List.forall_mem_cons.mpr ⟨?_, List.forall_mem_cons.mpr ⟨?_, List.forall_mem_cons.mpr ⟨?_, List.forall_mem_cons.mpr ⟨?_, List.forall_mem_cons.mpr ⟨?_, List.forall_mem_cons.mpr ⟨?_, List.forall_mem_cons.mpr ⟨?_, List.forall_mem_cons.mpr ⟨?_, List.forall_mem_cons.mpr ⟨?_, List.forall_mem_cons.mpr ⟨?_, List.forall_mem_cons.mpr ⟨?_, List.forall_mem_cons.mpr ⟨?_, List.forall_mem_cons.mpr ⟨?_, List.forall_mem_cons.mpr ⟨?_, List.forall_mem_cons.mpr ⟨?_, List.forall_mem_cons.mpr ⟨?_, List.forall_mem_cons.mpr ⟨?_, List.forall_mem_cons.mpr ⟨?_, List.forall_mem_cons.mpr ⟨?_, fun _ h => absurd h List.not_mem_nil⟩⟩⟩⟩⟩⟩⟩⟩⟩⟩⟩⟩⟩⟩⟩⟩⟩⟩⟩⟩⟩⟩⟩⟩⟩⟩⟩⟩⟩⟩⟩⟩⟩⟩⟩⟩⟩⟩⟩⟩⟩⟩⟩⟩⟩⟩⟩⟩
  · exact x_iadd_ok (show decode cL_law 492 = .ok (.iadd, 1) by decide +kernel)
  · exact x_iald_ok (show decode cL_law 493 = .ok (.iaload, 1) by decide +kernel)
  · exact x_aload_n_ok (show decode cL_law 494 = .ok (.aload_n 0, 1) by decide +kernel) rfl
  · exact x_iload_n_ok (show decode cL_law 495 = .ok (.iload_n 3, 1) by decide +kernel) rfl
  · exact x_iconst_ok (show decode cL_law 496 = .ok (.iconst 3, 1) by decide +kernel) (by decide)
  · exact x_iadd_ok (show decode cL_law 497 = .ok (.iadd, 1) by decide +kernel)
  · exact x_iald_ok (show decode cL_law 498 = .ok (.iaload, 1) by decide +kernel)
  · exact x_callV_ok (ci := 6) rfl (by decide) (sX8_put l) hw_335 hw_332 hw_333 hw_334 hw_61 ⟨by decide, by decide, by decide +kernel⟩ rfl (by decide) (by decide) (show decode cL_law 499 = .ok (.invokevirtual 45, 3) by decide +kernel)
  · exact x_aload_n_ok (show decode cL_law 502 = .ok (.aload_n 2, 1) by decide +kernel) rfl
  · exact x_aload_n_ok (show decode cL_law 503 = .ok (.aload_n 0, 1) by decide +kernel) rfl
  · exact x_iload_n_ok (show decode cL_law 504 = .ok (.iload_n 3, 1) by decide +kernel) rfl
  · exact x_iconst_ok (show decode cL_law 505 = .ok (.iconst 1, 1) by decide +kernel) (by decide)
  · exact x_iadd_ok (show decode cL_law 506 = .ok (.iadd, 1) by decide +kernel)
  · exact x_iald_ok (show decode cL_law 507 = .ok (.iaload, 1) by decide +kernel)
  · exact x_aload_n_ok (show decode cL_law 508 = .ok (.aload_n 0, 1) by decide +kernel) rfl
  · exact x_iload_n_ok (show decode cL_law 509 = .ok (.iload_n 3, 1) by decide +kernel) rfl
  · exact x_iconst_ok (show decode cL_law 510 = .ok (.iconst 2, 1) by decide +kernel) (by decide)
  · exact x_iadd_ok (show decode cL_law 511 = .ok (.iadd, 1) by decide +kernel)
  · exact x_iald_ok (show decode cL_law 512 = .ok (.iaload, 1) by decide +kernel)
  · exact x_aload_n_ok (show decode cL_law 513 = .ok (.aload_n 0, 1) by decide +kernel) rfl
  · exact x_iload_n_ok (show decode cL_law 514 = .ok (.iload_n 3, 1) by decide +kernel) rfl
  · exact x_iconst_ok (show decode cL_law 515 = .ok (.iconst 3, 1) by decide +kernel) (by decide)
  · exact x_iadd_ok (show decode cL_law 516 = .ok (.iadd, 1) by decide +kernel)
  · exact x_iald_ok (show decode cL_law 517 = .ok (.iaload, 1) by decide +kernel)
  · exact x_callV_ok (ci := 7) rfl (by decide) (sX9_put l) hw_970 hw_967 hw_968 hw_969 hw_68 ⟨by decide, by decide, by decide +kernel⟩ rfl (by decide) (by decide) (show decode cL_law 518 = .ok (.invokevirtual 48, 3) by decide +kernel)
  · exact x_cmpeq_ok (show decode cL_law 521 = .ok (.if_icmp .eq 1002, 3) by decide +kernel) (by decide)
  · exact x_iconst_ok (show decode cL_law 524 = .ok (.iconst 0, 1) by decide +kernel) (by decide)
  · exact x_iret_ok (show decode cL_law 525 = .ok (.ireturn, 1) by decide +kernel)
  · exact x_aload_n_ok (show decode cL_law 526 = .ok (.aload_n 1, 1) by decide +kernel) rfl
  · exact x_aload_n_ok (show decode cL_law 527 = .ok (.aload_n 0, 1) by decide +kernel) rfl
  · exact x_iload_n_ok (show decode cL_law 528 = .ok (.iload_n 3, 1) by decide +kernel) rfl
  · exact x_iconst_ok (show decode cL_law 529 = .ok (.iconst 1, 1) by decide +kernel) (by decide)
  · exact x_iadd_ok (show decode cL_law 530 = .ok (.iadd, 1) by decide +kernel)
  · exact x_iald_ok (show decode cL_law 531 = .ok (.iaload, 1) by decide +kernel)
  · exact x_callV_ok (ci := 6) rfl (by decide) (sX8_fault l) hw_347 hw_344 hw_345 hw_346 hw_61 ⟨by decide, by decide, by decide +kernel⟩ rfl (by decide) (by decide) (show decode cL_law 532 = .ok (.invokevirtual 49, 3) by decide +kernel)
  · exact x_aload_n_ok (show decode cL_law 535 = .ok (.aload_n 2, 1) by decide +kernel) rfl
  · exact x_aload_n_ok (show decode cL_law 536 = .ok (.aload_n 0, 1) by decide +kernel) rfl
  · exact x_iload_n_ok (show decode cL_law 537 = .ok (.iload_n 3, 1) by decide +kernel) rfl
  · exact x_iconst_ok (show decode cL_law 538 = .ok (.iconst 1, 1) by decide +kernel) (by decide)
  · exact x_iadd_ok (show decode cL_law 539 = .ok (.iadd, 1) by decide +kernel)
  · exact x_iald_ok (show decode cL_law 540 = .ok (.iaload, 1) by decide +kernel)
  · exact x_callV_ok (ci := 7) rfl (by decide) (sX9_fault l) hw_974 hw_971 hw_972 hw_973 hw_68 ⟨by decide, by decide, by decide +kernel⟩ rfl (by decide) (by decide) (show decode cL_law 541 = .ok (.invokevirtual 52, 3) by decide +kernel)
  · exact x_cmpeq_ok (show decode cL_law 544 = .ok (.if_icmp .eq 979, 3) by decide +kernel) (by decide)
  · exact x_iconst_ok (show decode cL_law 547 = .ok (.iconst 0, 1) by decide +kernel) (by decide)
  · exact x_iret_ok (show decode cL_law 548 = .ok (.ireturn, 1) by decide +kernel)
  · exact x_aload_n_ok (show decode cL_law 549 = .ok (.aload_n 1, 1) by decide +kernel) rfl
  · exact x_aload_n_ok (show decode cL_law 550 = .ok (.aload_n 0, 1) by decide +kernel) rfl
  · exact x_iload_n_ok (show decode cL_law 551 = .ok (.iload_n 3, 1) by decide +kernel) rfl
theorem tL_5_lo : tL_5.all (fun q => decide (492 ≤ q.1) && decide (q.1 ≤ 551)) = true := rfl
noncomputable def tL_6 : List (Nat × xO) := [(552, x_push (.int (nI 1)) 1), (553, x_ii (fun x y => x + y)), (554, x_iald), (555, x_callV 6 0 2 FX8_registry), (558, x_aload 2 1), (559, x_aload 0 1), (560, x_iload 3 1), (561, x_push (.int (nI 1)) 1), (562, x_ii (fun x y => x + y)), (563, x_iald), (564, x_callV 7 0 2 FX9_registry), (567, x_cmpeq 1523), (570, x_push (.int (nI 0)) 1), (571, x_iret), (572, x_aload 1 1), (573, x_aload 0 1), (574, x_iload 3 1), (575, x_push (.int (nI 1)) 1), (576, x_ii (fun x y => x + y)), (577, x_iald), (578, x_aload 0 1), (579, x_iload 3 1), (580, x_push (.int (nI 2)) 1), (581, x_ii (fun x y => x + y)), (582, x_iald), (583, x_callV 6 0 3 FX8_name), (586, x_aload 2 1), (587, x_aload 0 1), (588, x_iload 3 1), (589, x_push (.int (nI 1)) 1), (590, x_ii (fun x y => x + y)), (591, x_iald), (592, x_aload 0 1), (593, x_iload 3 1), (594, x_push (.int (nI 2)) 1), (595, x_ii (fun x y => x + y)), (596, x_iald), (597, x_callV 7 0 3 FX9_name), (600, x_cmpeq 1523), (603, x_push (.int (nI 0)) 1), (604, x_iret), (605, x_aload 1 1), (606, x_aload 0 1), (607, x_iload 3 1), (608, x_push (.int (nI 1)) 1), (609, x_ii (fun x y => x + y)), (610, x_iald), (611, x_aload 0 1)]
set_option maxRecDepth 100000 in
theorem tL_6_ok (l : Launch) : ∀ q ∈ tL_6, xOK l cL_law RL 4 10 89 False q.1 q.2 := by
  unfold tL_6
  refine List.forall_mem_cons.mpr ⟨?_, List.forall_mem_cons.mpr ⟨?_, List.forall_mem_cons.mpr ⟨?_, List.forall_mem_cons.mpr ⟨?_, List.forall_mem_cons.mpr ⟨?_, List.forall_mem_cons.mpr ⟨?_, List.forall_mem_cons.mpr ⟨?_, List.forall_mem_cons.mpr ⟨?_, List.forall_mem_cons.mpr ⟨?_, List.forall_mem_cons.mpr ⟨?_, List.forall_mem_cons.mpr ⟨?_, List.forall_mem_cons.mpr ⟨?_, List.forall_mem_cons.mpr ⟨?_, List.forall_mem_cons.mpr ⟨?_, List.forall_mem_cons.mpr ⟨?_, List.forall_mem_cons.mpr ⟨?_, List.forall_mem_cons.mpr ⟨?_, List.forall_mem_cons.mpr ⟨?_, List.forall_mem_cons.mpr ⟨?_, List.forall_mem_cons.mpr ⟨?_, List.forall_mem_cons.mpr ⟨?_, List.forall_mem_cons.mpr ⟨?_, List.forall_mem_cons.mpr ⟨?_, List.forall_mem_cons.mpr ⟨?_, List.forall_mem_cons.mpr ⟨?_, List.forall_mem_cons.mpr ⟨?_, List.forall_mem_cons.mpr ⟨?_, List.forall_mem_cons.mpr ⟨?_, List.forall_mem_cons.mpr ⟨?_, List.forall_mem_cons.mpr ⟨?_, List.forall_mem_cons.mpr ⟨?_, List.forall_mem_cons.mpr ⟨?_, List.forall_mem_cons.mpr ⟨?_, List.forall_mem_cons.mpr ⟨?_, List.forall_mem_cons.mpr ⟨?_, List.forall_mem_cons.mpr ⟨?_, List.forall_mem_cons.mpr ⟨?_, List.forall_mem_cons.mpr ⟨?_, List.forall_mem_cons.mpr ⟨?_, List.forall_mem_cons.mpr ⟨?_, List.forall_mem_cons.mpr ⟨?_, List.forall_mem_cons.mpr ⟨?_, List.forall_mem_cons.mpr ⟨?_, List.forall_mem_cons.mpr ⟨?_, List.forall_mem_cons.mpr ⟨?_, List.forall_mem_cons.mpr ⟨?_, List.forall_mem_cons.mpr ⟨?_, List.forall_mem_cons.mpr ⟨?_, fun _ h => absurd h List.not_mem_nil⟩⟩⟩⟩⟩⟩⟩⟩⟩⟩⟩⟩⟩⟩⟩⟩⟩⟩⟩⟩⟩⟩⟩⟩⟩⟩⟩⟩⟩⟩⟩⟩⟩⟩⟩⟩⟩⟩⟩⟩⟩⟩⟩⟩⟩⟩⟩⟩
  · exact x_iconst_ok (show decode cL_law 552 = .ok (.iconst 1, 1) by decide +kernel) (by decide)
  · exact x_iadd_ok (show decode cL_law 553 = .ok (.iadd, 1) by decide +kernel)
  · exact x_iald_ok (show decode cL_law 554 = .ok (.iaload, 1) by decide +kernel)
  · exact x_callV_ok (ci := 6) rfl (by decide) (sX8_registry l) hw_417 hw_414 hw_415 hw_416 hw_61 ⟨by decide, by decide, by decide +kernel⟩ rfl (by decide) (by decide) (show decode cL_law 555 = .ok (.invokevirtual 53, 3) by decide +kernel)
  · exact x_aload_n_ok (show decode cL_law 558 = .ok (.aload_n 2, 1) by decide +kernel) rfl
  · exact x_aload_n_ok (show decode cL_law 559 = .ok (.aload_n 0, 1) by decide +kernel) rfl
  · exact x_iload_n_ok (show decode cL_law 560 = .ok (.iload_n 3, 1) by decide +kernel) rfl
  · exact x_iconst_ok (show decode cL_law 561 = .ok (.iconst 1, 1) by decide +kernel) (by decide)
  · exact x_iadd_ok (show decode cL_law 562 = .ok (.iadd, 1) by decide +kernel)
  · exact x_iald_ok (show decode cL_law 563 = .ok (.iaload, 1) by decide +kernel)
  · exact x_callV_ok (ci := 7) rfl (by decide) (sX9_registry l) hw_1002 hw_999 hw_1000 hw_1001 hw_68 ⟨by decide, by decide, by decide +kernel⟩ rfl (by decide) (by decide) (show decode cL_law 564 = .ok (.invokevirtual 56, 3) by decide +kernel)
  · exact x_cmpeq_ok (show decode cL_law 567 = .ok (.if_icmp .eq 956, 3) by decide +kernel) (by decide)
  · exact x_iconst_ok (show decode cL_law 570 = .ok (.iconst 0, 1) by decide +kernel) (by decide)
  · exact x_iret_ok (show decode cL_law 571 = .ok (.ireturn, 1) by decide +kernel)
  · exact x_aload_n_ok (show decode cL_law 572 = .ok (.aload_n 1, 1) by decide +kernel) rfl
  · exact x_aload_n_ok (show decode cL_law 573 = .ok (.aload_n 0, 1) by decide +kernel) rfl
  · exact x_iload_n_ok (show decode cL_law 574 = .ok (.iload_n 3, 1) by decide +kernel) rfl
  · exact x_iconst_ok (show decode cL_law 575 = .ok (.iconst 1, 1) by decide +kernel) (by decide)
  · exact x_iadd_ok (show decode cL_law 576 = .ok (.iadd, 1) by decide +kernel)
  · exact x_iald_ok (show decode cL_law 577 = .ok (.iaload, 1) by decide +kernel)
  · exact x_aload_n_ok (show decode cL_law 578 = .ok (.aload_n 0, 1) by decide +kernel) rfl
  · exact x_iload_n_ok (show decode cL_law 579 = .ok (.iload_n 3, 1) by decide +kernel) rfl
  · exact x_iconst_ok (show decode cL_law 580 = .ok (.iconst 2, 1) by decide +kernel) (by decide)
  · exact x_iadd_ok (show decode cL_law 581 = .ok (.iadd, 1) by decide +kernel)
  · exact x_iald_ok (show decode cL_law 582 = .ok (.iaload, 1) by decide +kernel)
  · exact x_callV_ok (ci := 6) rfl (by decide) (sX8_name l) hw_445 hw_442 hw_443 hw_444 hw_61 ⟨by decide, by decide, by decide +kernel⟩ rfl (by decide) (by decide) (show decode cL_law 583 = .ok (.invokevirtual 57, 3) by decide +kernel)
  · exact x_aload_n_ok (show decode cL_law 586 = .ok (.aload_n 2, 1) by decide +kernel) rfl
  · exact x_aload_n_ok (show decode cL_law 587 = .ok (.aload_n 0, 1) by decide +kernel) rfl
  · exact x_iload_n_ok (show decode cL_law 588 = .ok (.iload_n 3, 1) by decide +kernel) rfl
  · exact x_iconst_ok (show decode cL_law 589 = .ok (.iconst 1, 1) by decide +kernel) (by decide)
  · exact x_iadd_ok (show decode cL_law 590 = .ok (.iadd, 1) by decide +kernel)
  · exact x_iald_ok (show decode cL_law 591 = .ok (.iaload, 1) by decide +kernel)
  · exact x_aload_n_ok (show decode cL_law 592 = .ok (.aload_n 0, 1) by decide +kernel) rfl
  · exact x_iload_n_ok (show decode cL_law 593 = .ok (.iload_n 3, 1) by decide +kernel) rfl
  · exact x_iconst_ok (show decode cL_law 594 = .ok (.iconst 2, 1) by decide +kernel) (by decide)
  · exact x_iadd_ok (show decode cL_law 595 = .ok (.iadd, 1) by decide +kernel)
  · exact x_iald_ok (show decode cL_law 596 = .ok (.iaload, 1) by decide +kernel)
  · exact x_callV_ok (ci := 7) rfl (by decide) (sX9_name l) hw_1006 hw_1003 hw_1004 hw_1005 hw_68 ⟨by decide, by decide, by decide +kernel⟩ rfl (by decide) (by decide) (show decode cL_law 597 = .ok (.invokevirtual 60, 3) by decide +kernel)
  · exact x_cmpeq_ok (show decode cL_law 600 = .ok (.if_icmp .eq 923, 3) by decide +kernel) (by decide)
  · exact x_iconst_ok (show decode cL_law 603 = .ok (.iconst 0, 1) by decide +kernel) (by decide)
  · exact x_iret_ok (show decode cL_law 604 = .ok (.ireturn, 1) by decide +kernel)
  · exact x_aload_n_ok (show decode cL_law 605 = .ok (.aload_n 1, 1) by decide +kernel) rfl
  · exact x_aload_n_ok (show decode cL_law 606 = .ok (.aload_n 0, 1) by decide +kernel) rfl
  · exact x_iload_n_ok (show decode cL_law 607 = .ok (.iload_n 3, 1) by decide +kernel) rfl
  · exact x_iconst_ok (show decode cL_law 608 = .ok (.iconst 1, 1) by decide +kernel) (by decide)
  · exact x_iadd_ok (show decode cL_law 609 = .ok (.iadd, 1) by decide +kernel)
  · exact x_iald_ok (show decode cL_law 610 = .ok (.iaload, 1) by decide +kernel)
  · exact x_aload_n_ok (show decode cL_law 611 = .ok (.aload_n 0, 1) by decide +kernel) rfl
theorem tL_6_lo : tL_6.all (fun q => decide (552 ≤ q.1) && decide (q.1 ≤ 611)) = true := rfl
noncomputable def tL_7 : List (Nat × xO) := [(612, x_iload 3 1), (613, x_push (.int (nI 2)) 1), (614, x_ii (fun x y => x + y)), (615, x_iald), (616, x_callV 6 0 3 FX8_mark), (619, x_aload 2 1), (620, x_aload 0 1), (621, x_iload 3 1), (622, x_push (.int (nI 1)) 1), (623, x_ii (fun x y => x + y)), (624, x_iald), (625, x_aload 0 1), (626, x_iload 3 1), (627, x_push (.int (nI 2)) 1), (628, x_ii (fun x y => x + y)), (629, x_iald), (630, x_callV 7 0 3 FX9_mark), (633, x_cmpeq 1523), (636, x_push (.int (nI 0)) 1), (637, x_iret), (638, x_aload 1 1), (639, x_aload 0 1), (640, x_iload 3 1), (641, x_push (.int (nI 1)) 1), (642, x_ii (fun x y => x + y)), (643, x_iald), (644, x_aload 0 1), (645, x_iload 3 1), (646, x_push (.int (nI 2)) 1), (647, x_ii (fun x y => x + y)), (648, x_iald), (649, x_callV 6 0 3 FX8_due), (652, x_aload 2 1), (653, x_aload 0 1), (654, x_iload 3 1), (655, x_push (.int (nI 1)) 1), (656, x_ii (fun x y => x + y)), (657, x_iald), (658, x_aload 0 1), (659, x_iload 3 1), (660, x_push (.int (nI 2)) 1), (661, x_ii (fun x y => x + y)), (662, x_iald), (663, x_callV 7 0 3 FX9_due), (666, x_cmpeq 1523), (669, x_push (.int (nI 0)) 1), (670, x_iret), (671, x_aload 1 1)]
set_option maxRecDepth 100000 in
theorem tL_7_ok (l : Launch) : ∀ q ∈ tL_7, xOK l cL_law RL 4 10 89 False q.1 q.2 := by
  unfold tL_7
  refine List.forall_mem_cons.mpr ⟨?_, List.forall_mem_cons.mpr ⟨?_, List.forall_mem_cons.mpr ⟨?_, List.forall_mem_cons.mpr ⟨?_, List.forall_mem_cons.mpr ⟨?_, List.forall_mem_cons.mpr ⟨?_, List.forall_mem_cons.mpr ⟨?_, List.forall_mem_cons.mpr ⟨?_, List.forall_mem_cons.mpr ⟨?_, List.forall_mem_cons.mpr ⟨?_, List.forall_mem_cons.mpr ⟨?_, List.forall_mem_cons.mpr ⟨?_, List.forall_mem_cons.mpr ⟨?_, List.forall_mem_cons.mpr ⟨?_, List.forall_mem_cons.mpr ⟨?_, List.forall_mem_cons.mpr ⟨?_, List.forall_mem_cons.mpr ⟨?_, List.forall_mem_cons.mpr ⟨?_, List.forall_mem_cons.mpr ⟨?_, List.forall_mem_cons.mpr ⟨?_, List.forall_mem_cons.mpr ⟨?_, List.forall_mem_cons.mpr ⟨?_, List.forall_mem_cons.mpr ⟨?_, List.forall_mem_cons.mpr ⟨?_, List.forall_mem_cons.mpr ⟨?_, List.forall_mem_cons.mpr ⟨?_, List.forall_mem_cons.mpr ⟨?_, List.forall_mem_cons.mpr ⟨?_, List.forall_mem_cons.mpr ⟨?_, List.forall_mem_cons.mpr ⟨?_, List.forall_mem_cons.mpr ⟨?_, List.forall_mem_cons.mpr ⟨?_, List.forall_mem_cons.mpr ⟨?_, List.forall_mem_cons.mpr ⟨?_, List.forall_mem_cons.mpr ⟨?_, List.forall_mem_cons.mpr ⟨?_, List.forall_mem_cons.mpr ⟨?_, List.forall_mem_cons.mpr ⟨?_, List.forall_mem_cons.mpr ⟨?_, List.forall_mem_cons.mpr ⟨?_, List.forall_mem_cons.mpr ⟨?_, List.forall_mem_cons.mpr ⟨?_, List.forall_mem_cons.mpr ⟨?_, List.forall_mem_cons.mpr ⟨?_, List.forall_mem_cons.mpr ⟨?_, List.forall_mem_cons.mpr ⟨?_, List.forall_mem_cons.mpr ⟨?_, List.forall_mem_cons.mpr ⟨?_, fun _ h => absurd h List.not_mem_nil⟩⟩⟩⟩⟩⟩⟩⟩⟩⟩⟩⟩⟩⟩⟩⟩⟩⟩⟩⟩⟩⟩⟩⟩⟩⟩⟩⟩⟩⟩⟩⟩⟩⟩⟩⟩⟩⟩⟩⟩⟩⟩⟩⟩⟩⟩⟩⟩
  · exact x_iload_n_ok (show decode cL_law 612 = .ok (.iload_n 3, 1) by decide +kernel) rfl
  · exact x_iconst_ok (show decode cL_law 613 = .ok (.iconst 2, 1) by decide +kernel) (by decide)
  · exact x_iadd_ok (show decode cL_law 614 = .ok (.iadd, 1) by decide +kernel)
  · exact x_iald_ok (show decode cL_law 615 = .ok (.iaload, 1) by decide +kernel)
  · exact x_callV_ok (ci := 6) rfl (by decide) (sX8_mark l) hw_492 hw_489 hw_490 hw_491 hw_61 ⟨by decide, by decide, by decide +kernel⟩ rfl (by decide) (by decide) (show decode cL_law 616 = .ok (.invokevirtual 61, 3) by decide +kernel)
  · exact x_aload_n_ok (show decode cL_law 619 = .ok (.aload_n 2, 1) by decide +kernel) rfl
  · exact x_aload_n_ok (show decode cL_law 620 = .ok (.aload_n 0, 1) by decide +kernel) rfl
  · exact x_iload_n_ok (show decode cL_law 621 = .ok (.iload_n 3, 1) by decide +kernel) rfl
  · exact x_iconst_ok (show decode cL_law 622 = .ok (.iconst 1, 1) by decide +kernel) (by decide)
  · exact x_iadd_ok (show decode cL_law 623 = .ok (.iadd, 1) by decide +kernel)
  · exact x_iald_ok (show decode cL_law 624 = .ok (.iaload, 1) by decide +kernel)
  · exact x_aload_n_ok (show decode cL_law 625 = .ok (.aload_n 0, 1) by decide +kernel) rfl
  · exact x_iload_n_ok (show decode cL_law 626 = .ok (.iload_n 3, 1) by decide +kernel) rfl
  · exact x_iconst_ok (show decode cL_law 627 = .ok (.iconst 2, 1) by decide +kernel) (by decide)
  · exact x_iadd_ok (show decode cL_law 628 = .ok (.iadd, 1) by decide +kernel)
  · exact x_iald_ok (show decode cL_law 629 = .ok (.iaload, 1) by decide +kernel)
  · exact x_callV_ok (ci := 7) rfl (by decide) (sX9_mark l) hw_1042 hw_1039 hw_1040 hw_1041 hw_68 ⟨by decide, by decide, by decide +kernel⟩ rfl (by decide) (by decide) (show decode cL_law 630 = .ok (.invokevirtual 64, 3) by decide +kernel)
  · exact x_cmpeq_ok (show decode cL_law 633 = .ok (.if_icmp .eq 890, 3) by decide +kernel) (by decide)
  · exact x_iconst_ok (show decode cL_law 636 = .ok (.iconst 0, 1) by decide +kernel) (by decide)
  · exact x_iret_ok (show decode cL_law 637 = .ok (.ireturn, 1) by decide +kernel)
  · exact x_aload_n_ok (show decode cL_law 638 = .ok (.aload_n 1, 1) by decide +kernel) rfl
  · exact x_aload_n_ok (show decode cL_law 639 = .ok (.aload_n 0, 1) by decide +kernel) rfl
  · exact x_iload_n_ok (show decode cL_law 640 = .ok (.iload_n 3, 1) by decide +kernel) rfl
  · exact x_iconst_ok (show decode cL_law 641 = .ok (.iconst 1, 1) by decide +kernel) (by decide)
  · exact x_iadd_ok (show decode cL_law 642 = .ok (.iadd, 1) by decide +kernel)
  · exact x_iald_ok (show decode cL_law 643 = .ok (.iaload, 1) by decide +kernel)
  · exact x_aload_n_ok (show decode cL_law 644 = .ok (.aload_n 0, 1) by decide +kernel) rfl
  · exact x_iload_n_ok (show decode cL_law 645 = .ok (.iload_n 3, 1) by decide +kernel) rfl
  · exact x_iconst_ok (show decode cL_law 646 = .ok (.iconst 2, 1) by decide +kernel) (by decide)
  · exact x_iadd_ok (show decode cL_law 647 = .ok (.iadd, 1) by decide +kernel)
  · exact x_iald_ok (show decode cL_law 648 = .ok (.iaload, 1) by decide +kernel)
  · exact x_callV_ok (ci := 6) rfl (by decide) (sX8_due l) hw_529 hw_526 hw_527 hw_528 hw_61 ⟨by decide, by decide, by decide +kernel⟩ rfl (by decide) (by decide) (show decode cL_law 649 = .ok (.invokevirtual 65, 3) by decide +kernel)
  · exact x_aload_n_ok (show decode cL_law 652 = .ok (.aload_n 2, 1) by decide +kernel) rfl
  · exact x_aload_n_ok (show decode cL_law 653 = .ok (.aload_n 0, 1) by decide +kernel) rfl
  · exact x_iload_n_ok (show decode cL_law 654 = .ok (.iload_n 3, 1) by decide +kernel) rfl
  · exact x_iconst_ok (show decode cL_law 655 = .ok (.iconst 1, 1) by decide +kernel) (by decide)
  · exact x_iadd_ok (show decode cL_law 656 = .ok (.iadd, 1) by decide +kernel)
  · exact x_iald_ok (show decode cL_law 657 = .ok (.iaload, 1) by decide +kernel)
  · exact x_aload_n_ok (show decode cL_law 658 = .ok (.aload_n 0, 1) by decide +kernel) rfl
  · exact x_iload_n_ok (show decode cL_law 659 = .ok (.iload_n 3, 1) by decide +kernel) rfl
  · exact x_iconst_ok (show decode cL_law 660 = .ok (.iconst 2, 1) by decide +kernel) (by decide)
  · exact x_iadd_ok (show decode cL_law 661 = .ok (.iadd, 1) by decide +kernel)
  · exact x_iald_ok (show decode cL_law 662 = .ok (.iaload, 1) by decide +kernel)
  · exact x_callV_ok (ci := 7) rfl (by decide) (sX9_due l) hw_1084 hw_1081 hw_1082 hw_1083 hw_68 ⟨by decide, by decide, by decide +kernel⟩ rfl (by decide) (by decide) (show decode cL_law 663 = .ok (.invokevirtual 68, 3) by decide +kernel)
  · exact x_cmpeq_ok (show decode cL_law 666 = .ok (.if_icmp .eq 857, 3) by decide +kernel) (by decide)
  · exact x_iconst_ok (show decode cL_law 669 = .ok (.iconst 0, 1) by decide +kernel) (by decide)
  · exact x_iret_ok (show decode cL_law 670 = .ok (.ireturn, 1) by decide +kernel)
  · exact x_aload_n_ok (show decode cL_law 671 = .ok (.aload_n 1, 1) by decide +kernel) rfl
theorem tL_7_lo : tL_7.all (fun q => decide (612 ≤ q.1) && decide (q.1 ≤ 671)) = true := rfl
noncomputable def tL_8 : List (Nat × xO) := [(672, x_aload 0 1), (673, x_iload 3 1), (674, x_push (.int (nI 1)) 1), (675, x_ii (fun x y => x + y)), (676, x_iald), (677, x_aload 0 1), (678, x_iload 3 1), (679, x_push (.int (nI 2)) 1), (680, x_ii (fun x y => x + y)), (681, x_iald), (682, x_aload 0 1), (683, x_iload 3 1), (684, x_push (.int (nI 3)) 1), (685, x_ii (fun x y => x + y)), (686, x_iald), (687, x_aload 0 1), (688, x_iload 3 1), (689, x_push (.int (nI 4)) 1), (690, x_ii (fun x y => x + y)), (691, x_iald), (692, x_callV 6 0 5 FX8_say), (695, x_aload 2 1), (696, x_aload 0 1), (697, x_iload 3 1), (698, x_push (.int (nI 1)) 1), (699, x_ii (fun x y => x + y)), (700, x_iald), (701, x_aload 0 1), (702, x_iload 3 1), (703, x_push (.int (nI 2)) 1), (704, x_ii (fun x y => x + y)), (705, x_iald), (706, x_aload 0 1), (707, x_iload 3 1), (708, x_push (.int (nI 3)) 1), (709, x_ii (fun x y => x + y)), (710, x_iald), (711, x_aload 0 1), (712, x_iload 3 1), (713, x_push (.int (nI 4)) 1), (714, x_ii (fun x y => x + y)), (715, x_iald), (716, x_callV 7 0 5 FX9_say), (719, x_cmpeq 1523), (722, x_push (.int (nI 0)) 1), (723, x_iret), (724, x_aload 1 1), (725, x_callV 6 0 1 FX8_year)]
set_option maxRecDepth 100000 in
theorem tL_8_ok (l : Launch) : ∀ q ∈ tL_8, xOK l cL_law RL 4 10 89 False q.1 q.2 := by
  unfold tL_8
  refine List.forall_mem_cons.mpr ⟨?_, List.forall_mem_cons.mpr ⟨?_, List.forall_mem_cons.mpr ⟨?_, List.forall_mem_cons.mpr ⟨?_, List.forall_mem_cons.mpr ⟨?_, List.forall_mem_cons.mpr ⟨?_, List.forall_mem_cons.mpr ⟨?_, List.forall_mem_cons.mpr ⟨?_, List.forall_mem_cons.mpr ⟨?_, List.forall_mem_cons.mpr ⟨?_, List.forall_mem_cons.mpr ⟨?_, List.forall_mem_cons.mpr ⟨?_, List.forall_mem_cons.mpr ⟨?_, List.forall_mem_cons.mpr ⟨?_, List.forall_mem_cons.mpr ⟨?_, List.forall_mem_cons.mpr ⟨?_, List.forall_mem_cons.mpr ⟨?_, List.forall_mem_cons.mpr ⟨?_, List.forall_mem_cons.mpr ⟨?_, List.forall_mem_cons.mpr ⟨?_, List.forall_mem_cons.mpr ⟨?_, List.forall_mem_cons.mpr ⟨?_, List.forall_mem_cons.mpr ⟨?_, List.forall_mem_cons.mpr ⟨?_, List.forall_mem_cons.mpr ⟨?_, List.forall_mem_cons.mpr ⟨?_, List.forall_mem_cons.mpr ⟨?_, List.forall_mem_cons.mpr ⟨?_, List.forall_mem_cons.mpr ⟨?_, List.forall_mem_cons.mpr ⟨?_, List.forall_mem_cons.mpr ⟨?_, List.forall_mem_cons.mpr ⟨?_, List.forall_mem_cons.mpr ⟨?_, List.forall_mem_cons.mpr ⟨?_, List.forall_mem_cons.mpr ⟨?_, List.forall_mem_cons.mpr ⟨?_, List.forall_mem_cons.mpr ⟨?_, List.forall_mem_cons.mpr ⟨?_, List.forall_mem_cons.mpr ⟨?_, List.forall_mem_cons.mpr ⟨?_, List.forall_mem_cons.mpr ⟨?_, List.forall_mem_cons.mpr ⟨?_, List.forall_mem_cons.mpr ⟨?_, List.forall_mem_cons.mpr ⟨?_, List.forall_mem_cons.mpr ⟨?_, List.forall_mem_cons.mpr ⟨?_, List.forall_mem_cons.mpr ⟨?_, List.forall_mem_cons.mpr ⟨?_, fun _ h => absurd h List.not_mem_nil⟩⟩⟩⟩⟩⟩⟩⟩⟩⟩⟩⟩⟩⟩⟩⟩⟩⟩⟩⟩⟩⟩⟩⟩⟩⟩⟩⟩⟩⟩⟩⟩⟩⟩⟩⟩⟩⟩⟩⟩⟩⟩⟩⟩⟩⟩⟩⟩
  · exact x_aload_n_ok (show decode cL_law 672 = .ok (.aload_n 0, 1) by decide +kernel) rfl
  · exact x_iload_n_ok (show decode cL_law 673 = .ok (.iload_n 3, 1) by decide +kernel) rfl
  · exact x_iconst_ok (show decode cL_law 674 = .ok (.iconst 1, 1) by decide +kernel) (by decide)
  · exact x_iadd_ok (show decode cL_law 675 = .ok (.iadd, 1) by decide +kernel)
  · exact x_iald_ok (show decode cL_law 676 = .ok (.iaload, 1) by decide +kernel)
  · exact x_aload_n_ok (show decode cL_law 677 = .ok (.aload_n 0, 1) by decide +kernel) rfl
  · exact x_iload_n_ok (show decode cL_law 678 = .ok (.iload_n 3, 1) by decide +kernel) rfl
  · exact x_iconst_ok (show decode cL_law 679 = .ok (.iconst 2, 1) by decide +kernel) (by decide)
  · exact x_iadd_ok (show decode cL_law 680 = .ok (.iadd, 1) by decide +kernel)
  · exact x_iald_ok (show decode cL_law 681 = .ok (.iaload, 1) by decide +kernel)
  · exact x_aload_n_ok (show decode cL_law 682 = .ok (.aload_n 0, 1) by decide +kernel) rfl
  · exact x_iload_n_ok (show decode cL_law 683 = .ok (.iload_n 3, 1) by decide +kernel) rfl
  · exact x_iconst_ok (show decode cL_law 684 = .ok (.iconst 3, 1) by decide +kernel) (by decide)
  · exact x_iadd_ok (show decode cL_law 685 = .ok (.iadd, 1) by decide +kernel)
  · exact x_iald_ok (show decode cL_law 686 = .ok (.iaload, 1) by decide +kernel)
  · exact x_aload_n_ok (show decode cL_law 687 = .ok (.aload_n 0, 1) by decide +kernel) rfl
  · exact x_iload_n_ok (show decode cL_law 688 = .ok (.iload_n 3, 1) by decide +kernel) rfl
  · exact x_iconst_ok (show decode cL_law 689 = .ok (.iconst 4, 1) by decide +kernel) (by decide)
  · exact x_iadd_ok (show decode cL_law 690 = .ok (.iadd, 1) by decide +kernel)
  · exact x_iald_ok (show decode cL_law 691 = .ok (.iaload, 1) by decide +kernel)
  · exact x_callV_ok (ci := 6) rfl (by decide) (sX8_say l) hw_533 hw_530 hw_531 hw_532 hw_61 ⟨by decide, by decide, by decide +kernel⟩ rfl (by decide) (by decide) (show decode cL_law 692 = .ok (.invokevirtual 69, 3) by decide +kernel)
  · exact x_aload_n_ok (show decode cL_law 695 = .ok (.aload_n 2, 1) by decide +kernel) rfl
  · exact x_aload_n_ok (show decode cL_law 696 = .ok (.aload_n 0, 1) by decide +kernel) rfl
  · exact x_iload_n_ok (show decode cL_law 697 = .ok (.iload_n 3, 1) by decide +kernel) rfl
  · exact x_iconst_ok (show decode cL_law 698 = .ok (.iconst 1, 1) by decide +kernel) (by decide)
  · exact x_iadd_ok (show decode cL_law 699 = .ok (.iadd, 1) by decide +kernel)
  · exact x_iald_ok (show decode cL_law 700 = .ok (.iaload, 1) by decide +kernel)
  · exact x_aload_n_ok (show decode cL_law 701 = .ok (.aload_n 0, 1) by decide +kernel) rfl
  · exact x_iload_n_ok (show decode cL_law 702 = .ok (.iload_n 3, 1) by decide +kernel) rfl
  · exact x_iconst_ok (show decode cL_law 703 = .ok (.iconst 2, 1) by decide +kernel) (by decide)
  · exact x_iadd_ok (show decode cL_law 704 = .ok (.iadd, 1) by decide +kernel)
  · exact x_iald_ok (show decode cL_law 705 = .ok (.iaload, 1) by decide +kernel)
  · exact x_aload_n_ok (show decode cL_law 706 = .ok (.aload_n 0, 1) by decide +kernel) rfl
  · exact x_iload_n_ok (show decode cL_law 707 = .ok (.iload_n 3, 1) by decide +kernel) rfl
  · exact x_iconst_ok (show decode cL_law 708 = .ok (.iconst 3, 1) by decide +kernel) (by decide)
  · exact x_iadd_ok (show decode cL_law 709 = .ok (.iadd, 1) by decide +kernel)
  · exact x_iald_ok (show decode cL_law 710 = .ok (.iaload, 1) by decide +kernel)
  · exact x_aload_n_ok (show decode cL_law 711 = .ok (.aload_n 0, 1) by decide +kernel) rfl
  · exact x_iload_n_ok (show decode cL_law 712 = .ok (.iload_n 3, 1) by decide +kernel) rfl
  · exact x_iconst_ok (show decode cL_law 713 = .ok (.iconst 4, 1) by decide +kernel) (by decide)
  · exact x_iadd_ok (show decode cL_law 714 = .ok (.iadd, 1) by decide +kernel)
  · exact x_iald_ok (show decode cL_law 715 = .ok (.iaload, 1) by decide +kernel)
  · exact x_callV_ok (ci := 7) rfl (by decide) (sX9_say l) hw_1089 hw_1086 hw_1087 hw_1088 hw_68 ⟨by decide, by decide, by decide +kernel⟩ rfl (by decide) (by decide) (show decode cL_law 716 = .ok (.invokevirtual 73, 3) by decide +kernel)
  · exact x_cmpeq_ok (show decode cL_law 719 = .ok (.if_icmp .eq 804, 3) by decide +kernel) (by decide)
  · exact x_iconst_ok (show decode cL_law 722 = .ok (.iconst 0, 1) by decide +kernel) (by decide)
  · exact x_iret_ok (show decode cL_law 723 = .ok (.ireturn, 1) by decide +kernel)
  · exact x_aload_n_ok (show decode cL_law 724 = .ok (.aload_n 1, 1) by decide +kernel) rfl
  · exact x_callV_ok (ci := 6) rfl (by decide) (sX8_year l) hw_543 hw_540 hw_541 hw_542 hw_61 ⟨by decide, by decide, by decide +kernel⟩ rfl (by decide) (by decide) (show decode cL_law 725 = .ok (.invokevirtual 74, 3) by decide +kernel)
theorem tL_8_lo : tL_8.all (fun q => decide (672 ≤ q.1) && decide (q.1 ≤ 725)) = true := rfl
noncomputable def tL_9 : List (Nat × xO) := [(728, x_aload 2 1), (729, x_callV 7 0 1 FX9_year), (732, x_cmpeq 1523), (735, x_push (.int (nI 0)) 1), (736, x_iret), (737, x_aload 1 1), (738, x_aload 0 1), (739, x_iload 3 1), (740, x_push (.int (nI 1)) 1), (741, x_ii (fun x y => x + y)), (742, x_iald), (743, x_callV 6 0 2 FX8_undo), (746, x_aload 2 1), (747, x_aload 0 1), (748, x_iload 3 1), (749, x_push (.int (nI 1)) 1), (750, x_ii (fun x y => x + y)), (751, x_iald), (752, x_callV 7 0 2 FX9_undo), (755, x_cmpeq 1523), (758, x_push (.int (nI 0)) 1), (759, x_iret), (760, x_aload 1 1), (761, x_aload 0 1), (762, x_iload 3 1), (763, x_push (.int (nI 1)) 1), (764, x_ii (fun x y => x + y)), (765, x_iald), (766, x_callV 6 0 2 FX8_keep), (769, x_aload 2 1), (770, x_aload 0 1), (771, x_iload 3 1), (772, x_push (.int (nI 1)) 1), (773, x_ii (fun x y => x + y)), (774, x_iald), (775, x_callV 7 0 2 FX9_keep), (778, x_cmpeq 1523), (781, x_push (.int (nI 0)) 1), (782, x_iret), (783, x_aload 1 1), (784, x_aload 0 1), (785, x_iload 3 1), (786, x_push (.int (nI 1)) 1), (787, x_ii (fun x y => x + y)), (788, x_iald), (789, x_callV 6 0 2 FX8_on), (792, x_aload 2 1), (793, x_aload 0 1)]
set_option maxRecDepth 100000 in
theorem tL_9_ok (l : Launch) : ∀ q ∈ tL_9, xOK l cL_law RL 4 10 89 False q.1 q.2 := by
  unfold tL_9
  refine List.forall_mem_cons.mpr ⟨?_, List.forall_mem_cons.mpr ⟨?_, List.forall_mem_cons.mpr ⟨?_, List.forall_mem_cons.mpr ⟨?_, List.forall_mem_cons.mpr ⟨?_, List.forall_mem_cons.mpr ⟨?_, List.forall_mem_cons.mpr ⟨?_, List.forall_mem_cons.mpr ⟨?_, List.forall_mem_cons.mpr ⟨?_, List.forall_mem_cons.mpr ⟨?_, List.forall_mem_cons.mpr ⟨?_, List.forall_mem_cons.mpr ⟨?_, List.forall_mem_cons.mpr ⟨?_, List.forall_mem_cons.mpr ⟨?_, List.forall_mem_cons.mpr ⟨?_, List.forall_mem_cons.mpr ⟨?_, List.forall_mem_cons.mpr ⟨?_, List.forall_mem_cons.mpr ⟨?_, List.forall_mem_cons.mpr ⟨?_, List.forall_mem_cons.mpr ⟨?_, List.forall_mem_cons.mpr ⟨?_, List.forall_mem_cons.mpr ⟨?_, List.forall_mem_cons.mpr ⟨?_, List.forall_mem_cons.mpr ⟨?_, List.forall_mem_cons.mpr ⟨?_, List.forall_mem_cons.mpr ⟨?_, List.forall_mem_cons.mpr ⟨?_, List.forall_mem_cons.mpr ⟨?_, List.forall_mem_cons.mpr ⟨?_, List.forall_mem_cons.mpr ⟨?_, List.forall_mem_cons.mpr ⟨?_, List.forall_mem_cons.mpr ⟨?_, List.forall_mem_cons.mpr ⟨?_, List.forall_mem_cons.mpr ⟨?_, List.forall_mem_cons.mpr ⟨?_, List.forall_mem_cons.mpr ⟨?_, List.forall_mem_cons.mpr ⟨?_, List.forall_mem_cons.mpr ⟨?_, List.forall_mem_cons.mpr ⟨?_, List.forall_mem_cons.mpr ⟨?_, List.forall_mem_cons.mpr ⟨?_, List.forall_mem_cons.mpr ⟨?_, List.forall_mem_cons.mpr ⟨?_, List.forall_mem_cons.mpr ⟨?_, List.forall_mem_cons.mpr ⟨?_, List.forall_mem_cons.mpr ⟨?_, List.forall_mem_cons.mpr ⟨?_, List.forall_mem_cons.mpr ⟨?_, fun _ h => absurd h List.not_mem_nil⟩⟩⟩⟩⟩⟩⟩⟩⟩⟩⟩⟩⟩⟩⟩⟩⟩⟩⟩⟩⟩⟩⟩⟩⟩⟩⟩⟩⟩⟩⟩⟩⟩⟩⟩⟩⟩⟩⟩⟩⟩⟩⟩⟩⟩⟩⟩⟩
  · exact x_aload_n_ok (show decode cL_law 728 = .ok (.aload_n 2, 1) by decide +kernel) rfl
  · exact x_callV_ok (ci := 7) rfl (by decide) (sX9_year l) hw_1107 hw_1104 hw_1105 hw_1106 hw_68 ⟨by decide, by decide, by decide +kernel⟩ rfl (by decide) (by decide) (show decode cL_law 729 = .ok (.invokevirtual 78, 3) by decide +kernel)
  · exact x_cmpeq_ok (show decode cL_law 732 = .ok (.if_icmp .eq 791, 3) by decide +kernel) (by decide)
  · exact x_iconst_ok (show decode cL_law 735 = .ok (.iconst 0, 1) by decide +kernel) (by decide)
  · exact x_iret_ok (show decode cL_law 736 = .ok (.ireturn, 1) by decide +kernel)
  · exact x_aload_n_ok (show decode cL_law 737 = .ok (.aload_n 1, 1) by decide +kernel) rfl
  · exact x_aload_n_ok (show decode cL_law 738 = .ok (.aload_n 0, 1) by decide +kernel) rfl
  · exact x_iload_n_ok (show decode cL_law 739 = .ok (.iload_n 3, 1) by decide +kernel) rfl
  · exact x_iconst_ok (show decode cL_law 740 = .ok (.iconst 1, 1) by decide +kernel) (by decide)
  · exact x_iadd_ok (show decode cL_law 741 = .ok (.iadd, 1) by decide +kernel)
  · exact x_iald_ok (show decode cL_law 742 = .ok (.iaload, 1) by decide +kernel)
  · exact x_callV_ok (ci := 6) rfl (by decide) (sX8_undo l) hw_551 hw_548 hw_549 hw_550 hw_61 ⟨by decide, by decide, by decide +kernel⟩ rfl (by decide) (by decide) (show decode cL_law 743 = .ok (.invokevirtual 79, 3) by decide +kernel)
  · exact x_aload_n_ok (show decode cL_law 746 = .ok (.aload_n 2, 1) by decide +kernel) rfl
  · exact x_aload_n_ok (show decode cL_law 747 = .ok (.aload_n 0, 1) by decide +kernel) rfl
  · exact x_iload_n_ok (show decode cL_law 748 = .ok (.iload_n 3, 1) by decide +kernel) rfl
  · exact x_iconst_ok (show decode cL_law 749 = .ok (.iconst 1, 1) by decide +kernel) (by decide)
  · exact x_iadd_ok (show decode cL_law 750 = .ok (.iadd, 1) by decide +kernel)
  · exact x_iald_ok (show decode cL_law 751 = .ok (.iaload, 1) by decide +kernel)
  · exact x_callV_ok (ci := 7) rfl (by decide) (sX9_undo l) hw_1111 hw_1108 hw_1109 hw_1110 hw_68 ⟨by decide, by decide, by decide +kernel⟩ rfl (by decide) (by decide) (show decode cL_law 752 = .ok (.invokevirtual 82, 3) by decide +kernel)
  · exact x_cmpeq_ok (show decode cL_law 755 = .ok (.if_icmp .eq 768, 3) by decide +kernel) (by decide)
  · exact x_iconst_ok (show decode cL_law 758 = .ok (.iconst 0, 1) by decide +kernel) (by decide)
  · exact x_iret_ok (show decode cL_law 759 = .ok (.ireturn, 1) by decide +kernel)
  · exact x_aload_n_ok (show decode cL_law 760 = .ok (.aload_n 1, 1) by decide +kernel) rfl
  · exact x_aload_n_ok (show decode cL_law 761 = .ok (.aload_n 0, 1) by decide +kernel) rfl
  · exact x_iload_n_ok (show decode cL_law 762 = .ok (.iload_n 3, 1) by decide +kernel) rfl
  · exact x_iconst_ok (show decode cL_law 763 = .ok (.iconst 1, 1) by decide +kernel) (by decide)
  · exact x_iadd_ok (show decode cL_law 764 = .ok (.iadd, 1) by decide +kernel)
  · exact x_iald_ok (show decode cL_law 765 = .ok (.iaload, 1) by decide +kernel)
  · exact x_callV_ok (ci := 6) rfl (by decide) (sX8_keep l) hw_559 hw_556 hw_557 hw_558 hw_61 ⟨by decide, by decide, by decide +kernel⟩ rfl (by decide) (by decide) (show decode cL_law 766 = .ok (.invokevirtual 83, 3) by decide +kernel)
  · exact x_aload_n_ok (show decode cL_law 769 = .ok (.aload_n 2, 1) by decide +kernel) rfl
  · exact x_aload_n_ok (show decode cL_law 770 = .ok (.aload_n 0, 1) by decide +kernel) rfl
  · exact x_iload_n_ok (show decode cL_law 771 = .ok (.iload_n 3, 1) by decide +kernel) rfl
  · exact x_iconst_ok (show decode cL_law 772 = .ok (.iconst 1, 1) by decide +kernel) (by decide)
  · exact x_iadd_ok (show decode cL_law 773 = .ok (.iadd, 1) by decide +kernel)
  · exact x_iald_ok (show decode cL_law 774 = .ok (.iaload, 1) by decide +kernel)
  · exact x_callV_ok (ci := 7) rfl (by decide) (sX9_keep l) hw_1115 hw_1112 hw_1113 hw_1114 hw_68 ⟨by decide, by decide, by decide +kernel⟩ rfl (by decide) (by decide) (show decode cL_law 775 = .ok (.invokevirtual 86, 3) by decide +kernel)
  · exact x_cmpeq_ok (show decode cL_law 778 = .ok (.if_icmp .eq 745, 3) by decide +kernel) (by decide)
  · exact x_iconst_ok (show decode cL_law 781 = .ok (.iconst 0, 1) by decide +kernel) (by decide)
  · exact x_iret_ok (show decode cL_law 782 = .ok (.ireturn, 1) by decide +kernel)
  · exact x_aload_n_ok (show decode cL_law 783 = .ok (.aload_n 1, 1) by decide +kernel) rfl
  · exact x_aload_n_ok (show decode cL_law 784 = .ok (.aload_n 0, 1) by decide +kernel) rfl
  · exact x_iload_n_ok (show decode cL_law 785 = .ok (.iload_n 3, 1) by decide +kernel) rfl
  · exact x_iconst_ok (show decode cL_law 786 = .ok (.iconst 1, 1) by decide +kernel) (by decide)
  · exact x_iadd_ok (show decode cL_law 787 = .ok (.iadd, 1) by decide +kernel)
  · exact x_iald_ok (show decode cL_law 788 = .ok (.iaload, 1) by decide +kernel)
  · exact x_callV_ok (ci := 6) rfl (by decide) (sX8_on l) hw_571 hw_568 hw_569 hw_570 hw_61 ⟨by decide, by decide, by decide +kernel⟩ rfl (by decide) (by decide) (show decode cL_law 789 = .ok (.invokevirtual 87, 3) by decide +kernel)
  · exact x_aload_n_ok (show decode cL_law 792 = .ok (.aload_n 2, 1) by decide +kernel) rfl
  · exact x_aload_n_ok (show decode cL_law 793 = .ok (.aload_n 0, 1) by decide +kernel) rfl
theorem tL_9_lo : tL_9.all (fun q => decide (728 ≤ q.1) && decide (q.1 ≤ 793)) = true := rfl
noncomputable def tL_10 : List (Nat × xO) := [(794, x_iload 3 1), (795, x_push (.int (nI 1)) 1), (796, x_ii (fun x y => x + y)), (797, x_iald), (798, x_callV 7 0 2 FX9_on), (801, x_cmpeq 1523), (804, x_push (.int (nI 0)) 1), (805, x_iret), (806, x_aload 1 1), (807, x_aload 0 1), (808, x_iload 3 1), (809, x_push (.int (nI 1)) 1), (810, x_ii (fun x y => x + y)), (811, x_iald), (812, x_aload 0 1), (813, x_iload 3 1), (814, x_push (.int (nI 2)) 1), (815, x_ii (fun x y => x + y)), (816, x_iald), (817, x_callV 6 0 3 FX8_apart), (820, x_aload 2 1), (821, x_aload 0 1), (822, x_iload 3 1), (823, x_push (.int (nI 1)) 1), (824, x_ii (fun x y => x + y)), (825, x_iald), (826, x_aload 0 1), (827, x_iload 3 1), (828, x_push (.int (nI 2)) 1), (829, x_ii (fun x y => x + y)), (830, x_iald), (831, x_callV 7 0 3 FX9_apart), (834, x_cmpeq 1523), (837, x_push (.int (nI 0)) 1), (838, x_iret), (839, x_aload 1 1), (840, x_aload 0 1), (841, x_iload 3 1), (842, x_push (.int (nI 1)) 1), (843, x_ii (fun x y => x + y)), (844, x_iald), (845, x_callV 6 0 2 FX8_called), (848, x_aload 2 1), (849, x_aload 0 1), (850, x_iload 3 1), (851, x_push (.int (nI 1)) 1), (852, x_ii (fun x y => x + y)), (853, x_iald)]
set_option maxRecDepth 100000 in
theorem tL_10_ok (l : Launch) : ∀ q ∈ tL_10, xOK l cL_law RL 4 10 89 False q.1 q.2 := by
  unfold tL_10
  refine List.forall_mem_cons.mpr ⟨?_, List.forall_mem_cons.mpr ⟨?_, List.forall_mem_cons.mpr ⟨?_, List.forall_mem_cons.mpr ⟨?_, List.forall_mem_cons.mpr ⟨?_, List.forall_mem_cons.mpr ⟨?_, List.forall_mem_cons.mpr ⟨?_, List.forall_mem_cons.mpr ⟨?_, List.forall_mem_cons.mpr ⟨?_, List.forall_mem_cons.mpr ⟨?_, List.forall_mem_cons.mpr ⟨?_, List.forall_mem_cons.mpr ⟨?_, List.forall_mem_cons.mpr ⟨?_, List.forall_mem_cons.mpr ⟨?_, List.forall_mem_cons.mpr ⟨?_, List.forall_mem_cons.mpr ⟨?_, List.forall_mem_cons.mpr ⟨?_, List.forall_mem_cons.mpr ⟨?_, List.forall_mem_cons.mpr ⟨?_, List.forall_mem_cons.mpr ⟨?_, List.forall_mem_cons.mpr ⟨?_, List.forall_mem_cons.mpr ⟨?_, List.forall_mem_cons.mpr ⟨?_, List.forall_mem_cons.mpr ⟨?_, List.forall_mem_cons.mpr ⟨?_, List.forall_mem_cons.mpr ⟨?_, List.forall_mem_cons.mpr ⟨?_, List.forall_mem_cons.mpr ⟨?_, List.forall_mem_cons.mpr ⟨?_, List.forall_mem_cons.mpr ⟨?_, List.forall_mem_cons.mpr ⟨?_, List.forall_mem_cons.mpr ⟨?_, List.forall_mem_cons.mpr ⟨?_, List.forall_mem_cons.mpr ⟨?_, List.forall_mem_cons.mpr ⟨?_, List.forall_mem_cons.mpr ⟨?_, List.forall_mem_cons.mpr ⟨?_, List.forall_mem_cons.mpr ⟨?_, List.forall_mem_cons.mpr ⟨?_, List.forall_mem_cons.mpr ⟨?_, List.forall_mem_cons.mpr ⟨?_, List.forall_mem_cons.mpr ⟨?_, List.forall_mem_cons.mpr ⟨?_, List.forall_mem_cons.mpr ⟨?_, List.forall_mem_cons.mpr ⟨?_, List.forall_mem_cons.mpr ⟨?_, List.forall_mem_cons.mpr ⟨?_, List.forall_mem_cons.mpr ⟨?_, fun _ h => absurd h List.not_mem_nil⟩⟩⟩⟩⟩⟩⟩⟩⟩⟩⟩⟩⟩⟩⟩⟩⟩⟩⟩⟩⟩⟩⟩⟩⟩⟩⟩⟩⟩⟩⟩⟩⟩⟩⟩⟩⟩⟩⟩⟩⟩⟩⟩⟩⟩⟩⟩⟩
  · exact x_iload_n_ok (show decode cL_law 794 = .ok (.iload_n 3, 1) by decide +kernel) rfl
  · exact x_iconst_ok (show decode cL_law 795 = .ok (.iconst 1, 1) by decide +kernel) (by decide)
  · exact x_iadd_ok (show decode cL_law 796 = .ok (.iadd, 1) by decide +kernel)
  · exact x_iald_ok (show decode cL_law 797 = .ok (.iaload, 1) by decide +kernel)
  · exact x_callV_ok (ci := 7) rfl (by decide) (sX9_on l) hw_1124 hw_1121 hw_1122 hw_1123 hw_68 ⟨by decide, by decide, by decide +kernel⟩ rfl (by decide) (by decide) (show decode cL_law 798 = .ok (.invokevirtual 90, 3) by decide +kernel)
  · exact x_cmpeq_ok (show decode cL_law 801 = .ok (.if_icmp .eq 722, 3) by decide +kernel) (by decide)
  · exact x_iconst_ok (show decode cL_law 804 = .ok (.iconst 0, 1) by decide +kernel) (by decide)
  · exact x_iret_ok (show decode cL_law 805 = .ok (.ireturn, 1) by decide +kernel)
  · exact x_aload_n_ok (show decode cL_law 806 = .ok (.aload_n 1, 1) by decide +kernel) rfl
  · exact x_aload_n_ok (show decode cL_law 807 = .ok (.aload_n 0, 1) by decide +kernel) rfl
  · exact x_iload_n_ok (show decode cL_law 808 = .ok (.iload_n 3, 1) by decide +kernel) rfl
  · exact x_iconst_ok (show decode cL_law 809 = .ok (.iconst 1, 1) by decide +kernel) (by decide)
  · exact x_iadd_ok (show decode cL_law 810 = .ok (.iadd, 1) by decide +kernel)
  · exact x_iald_ok (show decode cL_law 811 = .ok (.iaload, 1) by decide +kernel)
  · exact x_aload_n_ok (show decode cL_law 812 = .ok (.aload_n 0, 1) by decide +kernel) rfl
  · exact x_iload_n_ok (show decode cL_law 813 = .ok (.iload_n 3, 1) by decide +kernel) rfl
  · exact x_iconst_ok (show decode cL_law 814 = .ok (.iconst 2, 1) by decide +kernel) (by decide)
  · exact x_iadd_ok (show decode cL_law 815 = .ok (.iadd, 1) by decide +kernel)
  · exact x_iald_ok (show decode cL_law 816 = .ok (.iaload, 1) by decide +kernel)
  · exact x_callV_ok (ci := 6) rfl (by decide) (sX8_apart l) hw_575 hw_572 hw_573 hw_574 hw_61 ⟨by decide, by decide, by decide +kernel⟩ rfl (by decide) (by decide) (show decode cL_law 817 = .ok (.invokevirtual 91, 3) by decide +kernel)
  · exact x_aload_n_ok (show decode cL_law 820 = .ok (.aload_n 2, 1) by decide +kernel) rfl
  · exact x_aload_n_ok (show decode cL_law 821 = .ok (.aload_n 0, 1) by decide +kernel) rfl
  · exact x_iload_n_ok (show decode cL_law 822 = .ok (.iload_n 3, 1) by decide +kernel) rfl
  · exact x_iconst_ok (show decode cL_law 823 = .ok (.iconst 1, 1) by decide +kernel) (by decide)
  · exact x_iadd_ok (show decode cL_law 824 = .ok (.iadd, 1) by decide +kernel)
  · exact x_iald_ok (show decode cL_law 825 = .ok (.iaload, 1) by decide +kernel)
  · exact x_aload_n_ok (show decode cL_law 826 = .ok (.aload_n 0, 1) by decide +kernel) rfl
  · exact x_iload_n_ok (show decode cL_law 827 = .ok (.iload_n 3, 1) by decide +kernel) rfl
  · exact x_iconst_ok (show decode cL_law 828 = .ok (.iconst 2, 1) by decide +kernel) (by decide)
  · exact x_iadd_ok (show decode cL_law 829 = .ok (.iadd, 1) by decide +kernel)
  · exact x_iald_ok (show decode cL_law 830 = .ok (.iaload, 1) by decide +kernel)
  · exact x_callV_ok (ci := 7) rfl (by decide) (sX9_apart l) hw_1128 hw_1125 hw_1126 hw_1127 hw_68 ⟨by decide, by decide, by decide +kernel⟩ rfl (by decide) (by decide) (show decode cL_law 831 = .ok (.invokevirtual 94, 3) by decide +kernel)
  · exact x_cmpeq_ok (show decode cL_law 834 = .ok (.if_icmp .eq 689, 3) by decide +kernel) (by decide)
  · exact x_iconst_ok (show decode cL_law 837 = .ok (.iconst 0, 1) by decide +kernel) (by decide)
  · exact x_iret_ok (show decode cL_law 838 = .ok (.ireturn, 1) by decide +kernel)
  · exact x_aload_n_ok (show decode cL_law 839 = .ok (.aload_n 1, 1) by decide +kernel) rfl
  · exact x_aload_n_ok (show decode cL_law 840 = .ok (.aload_n 0, 1) by decide +kernel) rfl
  · exact x_iload_n_ok (show decode cL_law 841 = .ok (.iload_n 3, 1) by decide +kernel) rfl
  · exact x_iconst_ok (show decode cL_law 842 = .ok (.iconst 1, 1) by decide +kernel) (by decide)
  · exact x_iadd_ok (show decode cL_law 843 = .ok (.iadd, 1) by decide +kernel)
  · exact x_iald_ok (show decode cL_law 844 = .ok (.iaload, 1) by decide +kernel)
  · exact x_callV_ok (ci := 6) rfl (by decide) (sX8_called l) hw_583 hw_580 hw_581 hw_582 hw_61 ⟨by decide, by decide, by decide +kernel⟩ rfl (by decide) (by decide) (show decode cL_law 845 = .ok (.invokevirtual 95, 3) by decide +kernel)
  · exact x_aload_n_ok (show decode cL_law 848 = .ok (.aload_n 2, 1) by decide +kernel) rfl
  · exact x_aload_n_ok (show decode cL_law 849 = .ok (.aload_n 0, 1) by decide +kernel) rfl
  · exact x_iload_n_ok (show decode cL_law 850 = .ok (.iload_n 3, 1) by decide +kernel) rfl
  · exact x_iconst_ok (show decode cL_law 851 = .ok (.iconst 1, 1) by decide +kernel) (by decide)
  · exact x_iadd_ok (show decode cL_law 852 = .ok (.iadd, 1) by decide +kernel)
  · exact x_iald_ok (show decode cL_law 853 = .ok (.iaload, 1) by decide +kernel)
theorem tL_10_lo : tL_10.all (fun q => decide (794 ≤ q.1) && decide (q.1 ≤ 853)) = true := rfl
noncomputable def tL_11 : List (Nat × xO) := [(854, x_callV 7 0 2 FX9_called), (857, x_cmpeq 1523), (860, x_push (.int (nI 0)) 1), (861, x_iret), (862, x_aload 1 1), (863, x_aload 0 1), (864, x_iload 3 1), (865, x_push (.int (nI 1)) 1), (866, x_ii (fun x y => x + y)), (867, x_iald), (868, x_aload 0 1), (869, x_iload 3 1), (870, x_push (.int (nI 2)) 1), (871, x_ii (fun x y => x + y)), (872, x_iald), (873, x_callV 6 0 3 FX8_owes), (876, x_aload 2 1), (877, x_aload 0 1), (878, x_iload 3 1), (879, x_push (.int (nI 1)) 1), (880, x_ii (fun x y => x + y)), (881, x_iald), (882, x_aload 0 1), (883, x_iload 3 1), (884, x_push (.int (nI 2)) 1), (885, x_ii (fun x y => x + y)), (886, x_iald), (887, x_callV 7 0 3 FX9_owes), (890, x_cmpeq 1523), (893, x_push (.int (nI 0)) 1), (894, x_iret), (895, x_aload 1 1), (896, x_callV 6 0 1 FX8_disputed), (899, x_aload 2 1), (900, x_callV 7 0 1 FX9_disputed), (903, x_cmpeq 1523), (906, x_push (.int (nI 0)) 1), (907, x_iret), (908, x_aload 1 1), (909, x_callV 6 0 1 FX8_free), (912, x_aload 2 1), (913, x_callV 7 0 1 FX9_free), (916, x_cmpeq 1523), (919, x_push (.int (nI 0)) 1), (920, x_iret), (921, x_aload 1 1), (922, x_aload 0 1), (923, x_iload 3 1)]
set_option maxRecDepth 100000 in
theorem tL_11_ok (l : Launch) : ∀ q ∈ tL_11, xOK l cL_law RL 4 10 89 False q.1 q.2 := by
  unfold tL_11
  refine List.forall_mem_cons.mpr ⟨?_, List.forall_mem_cons.mpr ⟨?_, List.forall_mem_cons.mpr ⟨?_, List.forall_mem_cons.mpr ⟨?_, List.forall_mem_cons.mpr ⟨?_, List.forall_mem_cons.mpr ⟨?_, List.forall_mem_cons.mpr ⟨?_, List.forall_mem_cons.mpr ⟨?_, List.forall_mem_cons.mpr ⟨?_, List.forall_mem_cons.mpr ⟨?_, List.forall_mem_cons.mpr ⟨?_, List.forall_mem_cons.mpr ⟨?_, List.forall_mem_cons.mpr ⟨?_, List.forall_mem_cons.mpr ⟨?_, List.forall_mem_cons.mpr ⟨?_, List.forall_mem_cons.mpr ⟨?_, List.forall_mem_cons.mpr ⟨?_, List.forall_mem_cons.mpr ⟨?_, List.forall_mem_cons.mpr ⟨?_, List.forall_mem_cons.mpr ⟨?_, List.forall_mem_cons.mpr ⟨?_, List.forall_mem_cons.mpr ⟨?_, List.forall_mem_cons.mpr ⟨?_, List.forall_mem_cons.mpr ⟨?_, List.forall_mem_cons.mpr ⟨?_, List.forall_mem_cons.mpr ⟨?_, List.forall_mem_cons.mpr ⟨?_, List.forall_mem_cons.mpr ⟨?_, List.forall_mem_cons.mpr ⟨?_, List.forall_mem_cons.mpr ⟨?_, List.forall_mem_cons.mpr ⟨?_, List.forall_mem_cons.mpr ⟨?_, List.forall_mem_cons.mpr ⟨?_, List.forall_mem_cons.mpr ⟨?_, List.forall_mem_cons.mpr ⟨?_, List.forall_mem_cons.mpr ⟨?_, List.forall_mem_cons.mpr ⟨?_, List.forall_mem_cons.mpr ⟨?_, List.forall_mem_cons.mpr ⟨?_, List.forall_mem_cons.mpr ⟨?_, List.forall_mem_cons.mpr ⟨?_, List.forall_mem_cons.mpr ⟨?_, List.forall_mem_cons.mpr ⟨?_, List.forall_mem_cons.mpr ⟨?_, List.forall_mem_cons.mpr ⟨?_, List.forall_mem_cons.mpr ⟨?_, List.forall_mem_cons.mpr ⟨?_, List.forall_mem_cons.mpr ⟨?_, fun _ h => absurd h List.not_mem_nil⟩⟩⟩⟩⟩⟩⟩⟩⟩⟩⟩⟩⟩⟩⟩⟩⟩⟩⟩⟩⟩⟩⟩⟩⟩⟩⟩⟩⟩⟩⟩⟩⟩⟩⟩⟩⟩⟩⟩⟩⟩⟩⟩⟩⟩⟩⟩⟩
  · exact x_callV_ok (ci := 7) rfl (by decide) (sX9_called l) hw_1132 hw_1129 hw_1130 hw_1131 hw_68 ⟨by decide, by decide, by decide +kernel⟩ rfl (by decide) (by decide) (show decode cL_law 854 = .ok (.invokevirtual 98, 3) by decide +kernel)
  · exact x_cmpeq_ok (show decode cL_law 857 = .ok (.if_icmp .eq 666, 3) by decide +kernel) (by decide)
  · exact x_iconst_ok (show decode cL_law 860 = .ok (.iconst 0, 1) by decide +kernel) (by decide)
  · exact x_iret_ok (show decode cL_law 861 = .ok (.ireturn, 1) by decide +kernel)
  · exact x_aload_n_ok (show decode cL_law 862 = .ok (.aload_n 1, 1) by decide +kernel) rfl
  · exact x_aload_n_ok (show decode cL_law 863 = .ok (.aload_n 0, 1) by decide +kernel) rfl
  · exact x_iload_n_ok (show decode cL_law 864 = .ok (.iload_n 3, 1) by decide +kernel) rfl
  · exact x_iconst_ok (show decode cL_law 865 = .ok (.iconst 1, 1) by decide +kernel) (by decide)
  · exact x_iadd_ok (show decode cL_law 866 = .ok (.iadd, 1) by decide +kernel)
  · exact x_iald_ok (show decode cL_law 867 = .ok (.iaload, 1) by decide +kernel)
  · exact x_aload_n_ok (show decode cL_law 868 = .ok (.aload_n 0, 1) by decide +kernel) rfl
  · exact x_iload_n_ok (show decode cL_law 869 = .ok (.iload_n 3, 1) by decide +kernel) rfl
  · exact x_iconst_ok (show decode cL_law 870 = .ok (.iconst 2, 1) by decide +kernel) (by decide)
  · exact x_iadd_ok (show decode cL_law 871 = .ok (.iadd, 1) by decide +kernel)
  · exact x_iald_ok (show decode cL_law 872 = .ok (.iaload, 1) by decide +kernel)
  · exact x_callV_ok (ci := 6) rfl (by decide) (sX8_owes l) hw_591 hw_588 hw_589 hw_590 hw_61 ⟨by decide, by decide, by decide +kernel⟩ rfl (by decide) (by decide) (show decode cL_law 873 = .ok (.invokevirtual 99, 3) by decide +kernel)
  · exact x_aload_n_ok (show decode cL_law 876 = .ok (.aload_n 2, 1) by decide +kernel) rfl
  · exact x_aload_n_ok (show decode cL_law 877 = .ok (.aload_n 0, 1) by decide +kernel) rfl
  · exact x_iload_n_ok (show decode cL_law 878 = .ok (.iload_n 3, 1) by decide +kernel) rfl
  · exact x_iconst_ok (show decode cL_law 879 = .ok (.iconst 1, 1) by decide +kernel) (by decide)
  · exact x_iadd_ok (show decode cL_law 880 = .ok (.iadd, 1) by decide +kernel)
  · exact x_iald_ok (show decode cL_law 881 = .ok (.iaload, 1) by decide +kernel)
  · exact x_aload_n_ok (show decode cL_law 882 = .ok (.aload_n 0, 1) by decide +kernel) rfl
  · exact x_iload_n_ok (show decode cL_law 883 = .ok (.iload_n 3, 1) by decide +kernel) rfl
  · exact x_iconst_ok (show decode cL_law 884 = .ok (.iconst 2, 1) by decide +kernel) (by decide)
  · exact x_iadd_ok (show decode cL_law 885 = .ok (.iadd, 1) by decide +kernel)
  · exact x_iald_ok (show decode cL_law 886 = .ok (.iaload, 1) by decide +kernel)
  · exact x_callV_ok (ci := 7) rfl (by decide) (sX9_owes l) hw_1136 hw_1133 hw_1134 hw_1135 hw_68 ⟨by decide, by decide, by decide +kernel⟩ rfl (by decide) (by decide) (show decode cL_law 887 = .ok (.invokevirtual 102, 3) by decide +kernel)
  · exact x_cmpeq_ok (show decode cL_law 890 = .ok (.if_icmp .eq 633, 3) by decide +kernel) (by decide)
  · exact x_iconst_ok (show decode cL_law 893 = .ok (.iconst 0, 1) by decide +kernel) (by decide)
  · exact x_iret_ok (show decode cL_law 894 = .ok (.ireturn, 1) by decide +kernel)
  · exact x_aload_n_ok (show decode cL_law 895 = .ok (.aload_n 1, 1) by decide +kernel) rfl
  · exact x_callV_ok (ci := 6) rfl (by decide) (sX8_disputed l) hw_603 hw_600 hw_601 hw_602 hw_61 ⟨by decide, by decide, by decide +kernel⟩ rfl (by decide) (by decide) (show decode cL_law 896 = .ok (.invokevirtual 103, 3) by decide +kernel)
  · exact x_aload_n_ok (show decode cL_law 899 = .ok (.aload_n 2, 1) by decide +kernel) rfl
  · exact x_callV_ok (ci := 7) rfl (by decide) (sX9_disputed l) hw_1144 hw_1141 hw_1142 hw_1143 hw_68 ⟨by decide, by decide, by decide +kernel⟩ rfl (by decide) (by decide) (show decode cL_law 900 = .ok (.invokevirtual 106, 3) by decide +kernel)
  · exact x_cmpeq_ok (show decode cL_law 903 = .ok (.if_icmp .eq 620, 3) by decide +kernel) (by decide)
  · exact x_iconst_ok (show decode cL_law 906 = .ok (.iconst 0, 1) by decide +kernel) (by decide)
  · exact x_iret_ok (show decode cL_law 907 = .ok (.ireturn, 1) by decide +kernel)
  · exact x_aload_n_ok (show decode cL_law 908 = .ok (.aload_n 1, 1) by decide +kernel) rfl
  · exact x_callV_ok (ci := 6) rfl (by decide) (sX8_free l) hw_615 hw_612 hw_613 hw_614 hw_61 ⟨by decide, by decide, by decide +kernel⟩ rfl (by decide) (by decide) (show decode cL_law 909 = .ok (.invokevirtual 107, 3) by decide +kernel)
  · exact x_aload_n_ok (show decode cL_law 912 = .ok (.aload_n 2, 1) by decide +kernel) rfl
  · exact x_callV_ok (ci := 7) rfl (by decide) (sX9_free l) hw_1155 hw_1152 hw_1153 hw_1154 hw_68 ⟨by decide, by decide, by decide +kernel⟩ rfl (by decide) (by decide) (show decode cL_law 913 = .ok (.invokevirtual 110, 3) by decide +kernel)
  · exact x_cmpeq_ok (show decode cL_law 916 = .ok (.if_icmp .eq 607, 3) by decide +kernel) (by decide)
  · exact x_iconst_ok (show decode cL_law 919 = .ok (.iconst 0, 1) by decide +kernel) (by decide)
  · exact x_iret_ok (show decode cL_law 920 = .ok (.ireturn, 1) by decide +kernel)
  · exact x_aload_n_ok (show decode cL_law 921 = .ok (.aload_n 1, 1) by decide +kernel) rfl
  · exact x_aload_n_ok (show decode cL_law 922 = .ok (.aload_n 0, 1) by decide +kernel) rfl
  · exact x_iload_n_ok (show decode cL_law 923 = .ok (.iload_n 3, 1) by decide +kernel) rfl
theorem tL_11_lo : tL_11.all (fun q => decide (854 ≤ q.1) && decide (q.1 ≤ 923)) = true := rfl
noncomputable def tL_12 : List (Nat × xO) := [(924, x_push (.int (nI 1)) 1), (925, x_ii (fun x y => x + y)), (926, x_iald), (927, x_aload 0 1), (928, x_iload 3 1), (929, x_push (.int (nI 2)) 1), (930, x_ii (fun x y => x + y)), (931, x_iald), (932, x_callV 6 0 3 FX8_gap), (935, x_aload 2 1), (936, x_aload 0 1), (937, x_iload 3 1), (938, x_push (.int (nI 1)) 1), (939, x_ii (fun x y => x + y)), (940, x_iald), (941, x_aload 0 1), (942, x_iload 3 1), (943, x_push (.int (nI 2)) 1), (944, x_ii (fun x y => x + y)), (945, x_iald), (946, x_callV 7 0 3 FX9_gap), (949, x_cmpeq 1523), (952, x_push (.int (nI 0)) 1), (953, x_iret), (954, x_aload 1 1), (955, x_aload 0 1), (956, x_iload 3 1), (957, x_push (.int (nI 1)) 1), (958, x_ii (fun x y => x + y)), (959, x_iald), (960, x_aload 0 1), (961, x_iload 3 1), (962, x_push (.int (nI 2)) 1), (963, x_ii (fun x y => x + y)), (964, x_iald), (965, x_callV 6 0 3 FX8_lives), (968, x_aload 2 1), (969, x_aload 0 1), (970, x_iload 3 1), (971, x_push (.int (nI 1)) 1), (972, x_ii (fun x y => x + y)), (973, x_iald), (974, x_aload 0 1), (975, x_iload 3 1), (976, x_push (.int (nI 2)) 1), (977, x_ii (fun x y => x + y)), (978, x_iald), (979, x_callV 7 0 3 FX9_lives)]
set_option maxRecDepth 100000 in
theorem tL_12_ok (l : Launch) : ∀ q ∈ tL_12, xOK l cL_law RL 4 10 89 False q.1 q.2 := by
  unfold tL_12
  refine List.forall_mem_cons.mpr ⟨?_, List.forall_mem_cons.mpr ⟨?_, List.forall_mem_cons.mpr ⟨?_, List.forall_mem_cons.mpr ⟨?_, List.forall_mem_cons.mpr ⟨?_, List.forall_mem_cons.mpr ⟨?_, List.forall_mem_cons.mpr ⟨?_, List.forall_mem_cons.mpr ⟨?_, List.forall_mem_cons.mpr ⟨?_, List.forall_mem_cons.mpr ⟨?_, List.forall_mem_cons.mpr ⟨?_, List.forall_mem_cons.mpr ⟨?_, List.forall_mem_cons.mpr ⟨?_, List.forall_mem_cons.mpr ⟨?_, List.forall_mem_cons.mpr ⟨?_, List.forall_mem_cons.mpr ⟨?_, List.forall_mem_cons.mpr ⟨?_, List.forall_mem_cons.mpr ⟨?_, List.forall_mem_cons.mpr ⟨?_, List.forall_mem_cons.mpr ⟨?_, List.forall_mem_cons.mpr ⟨?_, List.forall_mem_cons.mpr ⟨?_, List.forall_mem_cons.mpr ⟨?_, List.forall_mem_cons.mpr ⟨?_, List.forall_mem_cons.mpr ⟨?_, List.forall_mem_cons.mpr ⟨?_, List.forall_mem_cons.mpr ⟨?_, List.forall_mem_cons.mpr ⟨?_, List.forall_mem_cons.mpr ⟨?_, List.forall_mem_cons.mpr ⟨?_, List.forall_mem_cons.mpr ⟨?_, List.forall_mem_cons.mpr ⟨?_, List.forall_mem_cons.mpr ⟨?_, List.forall_mem_cons.mpr ⟨?_, List.forall_mem_cons.mpr ⟨?_, List.forall_mem_cons.mpr ⟨?_, List.forall_mem_cons.mpr ⟨?_, List.forall_mem_cons.mpr ⟨?_, List.forall_mem_cons.mpr ⟨?_, List.forall_mem_cons.mpr ⟨?_, List.forall_mem_cons.mpr ⟨?_, List.forall_mem_cons.mpr ⟨?_, List.forall_mem_cons.mpr ⟨?_, List.forall_mem_cons.mpr ⟨?_, List.forall_mem_cons.mpr ⟨?_, List.forall_mem_cons.mpr ⟨?_, List.forall_mem_cons.mpr ⟨?_, List.forall_mem_cons.mpr ⟨?_, fun _ h => absurd h List.not_mem_nil⟩⟩⟩⟩⟩⟩⟩⟩⟩⟩⟩⟩⟩⟩⟩⟩⟩⟩⟩⟩⟩⟩⟩⟩⟩⟩⟩⟩⟩⟩⟩⟩⟩⟩⟩⟩⟩⟩⟩⟩⟩⟩⟩⟩⟩⟩⟩⟩
  · exact x_iconst_ok (show decode cL_law 924 = .ok (.iconst 1, 1) by decide +kernel) (by decide)
  · exact x_iadd_ok (show decode cL_law 925 = .ok (.iadd, 1) by decide +kernel)
  · exact x_iald_ok (show decode cL_law 926 = .ok (.iaload, 1) by decide +kernel)
  · exact x_aload_n_ok (show decode cL_law 927 = .ok (.aload_n 0, 1) by decide +kernel) rfl
  · exact x_iload_n_ok (show decode cL_law 928 = .ok (.iload_n 3, 1) by decide +kernel) rfl
  · exact x_iconst_ok (show decode cL_law 929 = .ok (.iconst 2, 1) by decide +kernel) (by decide)
  · exact x_iadd_ok (show decode cL_law 930 = .ok (.iadd, 1) by decide +kernel)
  · exact x_iald_ok (show decode cL_law 931 = .ok (.iaload, 1) by decide +kernel)
  · exact x_callV_ok (ci := 6) rfl (by decide) (sX8_gap l) hw_619 hw_616 hw_617 hw_618 hw_61 ⟨by decide, by decide, by decide +kernel⟩ rfl (by decide) (by decide) (show decode cL_law 932 = .ok (.invokevirtual 111, 3) by decide +kernel)
  · exact x_aload_n_ok (show decode cL_law 935 = .ok (.aload_n 2, 1) by decide +kernel) rfl
  · exact x_aload_n_ok (show decode cL_law 936 = .ok (.aload_n 0, 1) by decide +kernel) rfl
  · exact x_iload_n_ok (show decode cL_law 937 = .ok (.iload_n 3, 1) by decide +kernel) rfl
  · exact x_iconst_ok (show decode cL_law 938 = .ok (.iconst 1, 1) by decide +kernel) (by decide)
  · exact x_iadd_ok (show decode cL_law 939 = .ok (.iadd, 1) by decide +kernel)
  · exact x_iald_ok (show decode cL_law 940 = .ok (.iaload, 1) by decide +kernel)
  · exact x_aload_n_ok (show decode cL_law 941 = .ok (.aload_n 0, 1) by decide +kernel) rfl
  · exact x_iload_n_ok (show decode cL_law 942 = .ok (.iload_n 3, 1) by decide +kernel) rfl
  · exact x_iconst_ok (show decode cL_law 943 = .ok (.iconst 2, 1) by decide +kernel) (by decide)
  · exact x_iadd_ok (show decode cL_law 944 = .ok (.iadd, 1) by decide +kernel)
  · exact x_iald_ok (show decode cL_law 945 = .ok (.iaload, 1) by decide +kernel)
  · exact x_callV_ok (ci := 7) rfl (by decide) (sX9_gap l) hw_1163 hw_1160 hw_1161 hw_1162 hw_68 ⟨by decide, by decide, by decide +kernel⟩ rfl (by decide) (by decide) (show decode cL_law 946 = .ok (.invokevirtual 114, 3) by decide +kernel)
  · exact x_cmpeq_ok (show decode cL_law 949 = .ok (.if_icmp .eq 574, 3) by decide +kernel) (by decide)
  · exact x_iconst_ok (show decode cL_law 952 = .ok (.iconst 0, 1) by decide +kernel) (by decide)
  · exact x_iret_ok (show decode cL_law 953 = .ok (.ireturn, 1) by decide +kernel)
  · exact x_aload_n_ok (show decode cL_law 954 = .ok (.aload_n 1, 1) by decide +kernel) rfl
  · exact x_aload_n_ok (show decode cL_law 955 = .ok (.aload_n 0, 1) by decide +kernel) rfl
  · exact x_iload_n_ok (show decode cL_law 956 = .ok (.iload_n 3, 1) by decide +kernel) rfl
  · exact x_iconst_ok (show decode cL_law 957 = .ok (.iconst 1, 1) by decide +kernel) (by decide)
  · exact x_iadd_ok (show decode cL_law 958 = .ok (.iadd, 1) by decide +kernel)
  · exact x_iald_ok (show decode cL_law 959 = .ok (.iaload, 1) by decide +kernel)
  · exact x_aload_n_ok (show decode cL_law 960 = .ok (.aload_n 0, 1) by decide +kernel) rfl
  · exact x_iload_n_ok (show decode cL_law 961 = .ok (.iload_n 3, 1) by decide +kernel) rfl
  · exact x_iconst_ok (show decode cL_law 962 = .ok (.iconst 2, 1) by decide +kernel) (by decide)
  · exact x_iadd_ok (show decode cL_law 963 = .ok (.iadd, 1) by decide +kernel)
  · exact x_iald_ok (show decode cL_law 964 = .ok (.iaload, 1) by decide +kernel)
  · exact x_callV_ok (ci := 6) rfl (by decide) (sX8_lives l) hw_628 hw_625 hw_626 hw_627 hw_61 ⟨by decide, by decide, by decide +kernel⟩ rfl (by decide) (by decide) (show decode cL_law 965 = .ok (.invokevirtual 115, 3) by decide +kernel)
  · exact x_aload_n_ok (show decode cL_law 968 = .ok (.aload_n 2, 1) by decide +kernel) rfl
  · exact x_aload_n_ok (show decode cL_law 969 = .ok (.aload_n 0, 1) by decide +kernel) rfl
  · exact x_iload_n_ok (show decode cL_law 970 = .ok (.iload_n 3, 1) by decide +kernel) rfl
  · exact x_iconst_ok (show decode cL_law 971 = .ok (.iconst 1, 1) by decide +kernel) (by decide)
  · exact x_iadd_ok (show decode cL_law 972 = .ok (.iadd, 1) by decide +kernel)
  · exact x_iald_ok (show decode cL_law 973 = .ok (.iaload, 1) by decide +kernel)
  · exact x_aload_n_ok (show decode cL_law 974 = .ok (.aload_n 0, 1) by decide +kernel) rfl
  · exact x_iload_n_ok (show decode cL_law 975 = .ok (.iload_n 3, 1) by decide +kernel) rfl
  · exact x_iconst_ok (show decode cL_law 976 = .ok (.iconst 2, 1) by decide +kernel) (by decide)
  · exact x_iadd_ok (show decode cL_law 977 = .ok (.iadd, 1) by decide +kernel)
  · exact x_iald_ok (show decode cL_law 978 = .ok (.iaload, 1) by decide +kernel)
  · exact x_callV_ok (ci := 7) rfl (by decide) (sX9_lives l) hw_1171 hw_1168 hw_1169 hw_1170 hw_68 ⟨by decide, by decide, by decide +kernel⟩ rfl (by decide) (by decide) (show decode cL_law 979 = .ok (.invokevirtual 118, 3) by decide +kernel)
theorem tL_12_lo : tL_12.all (fun q => decide (924 ≤ q.1) && decide (q.1 ≤ 979)) = true := rfl
noncomputable def tL_13 : List (Nat × xO) := [(982, x_cmpeq 1523), (985, x_push (.int (nI 0)) 1), (986, x_iret), (987, x_aload 1 1), (988, x_aload 0 1), (989, x_iload 3 1), (990, x_push (.int (nI 1)) 1), (991, x_ii (fun x y => x + y)), (992, x_iald), (993, x_aload 0 1), (994, x_iload 3 1), (995, x_push (.int (nI 2)) 1), (996, x_ii (fun x y => x + y)), (997, x_iald), (998, x_callV 6 0 3 FX8_cover), (1001, x_aload 2 1), (1002, x_aload 0 1), (1003, x_iload 3 1), (1004, x_push (.int (nI 1)) 1), (1005, x_ii (fun x y => x + y)), (1006, x_iald), (1007, x_aload 0 1), (1008, x_iload 3 1), (1009, x_push (.int (nI 2)) 1), (1010, x_ii (fun x y => x + y)), (1011, x_iald), (1012, x_callV 7 0 3 FX9_cover), (1015, x_cmpeq 1523), (1018, x_push (.int (nI 0)) 1), (1019, x_iret), (1020, x_aload 1 1), (1021, x_aload 0 1), (1022, x_iload 3 1), (1023, x_push (.int (nI 1)) 1), (1024, x_ii (fun x y => x + y)), (1025, x_iald), (1026, x_aload 0 1), (1027, x_iload 3 1), (1028, x_push (.int (nI 2)) 1), (1029, x_ii (fun x y => x + y)), (1030, x_iald), (1031, x_callV 6 0 3 FX8_best), (1034, x_aload 2 1), (1035, x_aload 0 1), (1036, x_iload 3 1), (1037, x_push (.int (nI 1)) 1), (1038, x_ii (fun x y => x + y)), (1039, x_iald)]
set_option maxRecDepth 100000 in
theorem tL_13_ok (l : Launch) : ∀ q ∈ tL_13, xOK l cL_law RL 4 10 89 False q.1 q.2 := by
  unfold tL_13
  refine List.forall_mem_cons.mpr ⟨?_, List.forall_mem_cons.mpr ⟨?_, List.forall_mem_cons.mpr ⟨?_, List.forall_mem_cons.mpr ⟨?_, List.forall_mem_cons.mpr ⟨?_, List.forall_mem_cons.mpr ⟨?_, List.forall_mem_cons.mpr ⟨?_, List.forall_mem_cons.mpr ⟨?_, List.forall_mem_cons.mpr ⟨?_, List.forall_mem_cons.mpr ⟨?_, List.forall_mem_cons.mpr ⟨?_, List.forall_mem_cons.mpr ⟨?_, List.forall_mem_cons.mpr ⟨?_, List.forall_mem_cons.mpr ⟨?_, List.forall_mem_cons.mpr ⟨?_, List.forall_mem_cons.mpr ⟨?_, List.forall_mem_cons.mpr ⟨?_, List.forall_mem_cons.mpr ⟨?_, List.forall_mem_cons.mpr ⟨?_, List.forall_mem_cons.mpr ⟨?_, List.forall_mem_cons.mpr ⟨?_, List.forall_mem_cons.mpr ⟨?_, List.forall_mem_cons.mpr ⟨?_, List.forall_mem_cons.mpr ⟨?_, List.forall_mem_cons.mpr ⟨?_, List.forall_mem_cons.mpr ⟨?_, List.forall_mem_cons.mpr ⟨?_, List.forall_mem_cons.mpr ⟨?_, List.forall_mem_cons.mpr ⟨?_, List.forall_mem_cons.mpr ⟨?_, List.forall_mem_cons.mpr ⟨?_, List.forall_mem_cons.mpr ⟨?_, List.forall_mem_cons.mpr ⟨?_, List.forall_mem_cons.mpr ⟨?_, List.forall_mem_cons.mpr ⟨?_, List.forall_mem_cons.mpr ⟨?_, List.forall_mem_cons.mpr ⟨?_, List.forall_mem_cons.mpr ⟨?_, List.forall_mem_cons.mpr ⟨?_, List.forall_mem_cons.mpr ⟨?_, List.forall_mem_cons.mpr ⟨?_, List.forall_mem_cons.mpr ⟨?_, List.forall_mem_cons.mpr ⟨?_, List.forall_mem_cons.mpr ⟨?_, List.forall_mem_cons.mpr ⟨?_, List.forall_mem_cons.mpr ⟨?_, List.forall_mem_cons.mpr ⟨?_, List.forall_mem_cons.mpr ⟨?_, fun _ h => absurd h List.not_mem_nil⟩⟩⟩⟩⟩⟩⟩⟩⟩⟩⟩⟩⟩⟩⟩⟩⟩⟩⟩⟩⟩⟩⟩⟩⟩⟩⟩⟩⟩⟩⟩⟩⟩⟩⟩⟩⟩⟩⟩⟩⟩⟩⟩⟩⟩⟩⟩⟩
  · exact x_cmpeq_ok (show decode cL_law 982 = .ok (.if_icmp .eq 541, 3) by decide +kernel) (by decide)
  · exact x_iconst_ok (show decode cL_law 985 = .ok (.iconst 0, 1) by decide +kernel) (by decide)
  · exact x_iret_ok (show decode cL_law 986 = .ok (.ireturn, 1) by decide +kernel)
  · exact x_aload_n_ok (show decode cL_law 987 = .ok (.aload_n 1, 1) by decide +kernel) rfl
  · exact x_aload_n_ok (show decode cL_law 988 = .ok (.aload_n 0, 1) by decide +kernel) rfl
  · exact x_iload_n_ok (show decode cL_law 989 = .ok (.iload_n 3, 1) by decide +kernel) rfl
  · exact x_iconst_ok (show decode cL_law 990 = .ok (.iconst 1, 1) by decide +kernel) (by decide)
  · exact x_iadd_ok (show decode cL_law 991 = .ok (.iadd, 1) by decide +kernel)
  · exact x_iald_ok (show decode cL_law 992 = .ok (.iaload, 1) by decide +kernel)
  · exact x_aload_n_ok (show decode cL_law 993 = .ok (.aload_n 0, 1) by decide +kernel) rfl
  · exact x_iload_n_ok (show decode cL_law 994 = .ok (.iload_n 3, 1) by decide +kernel) rfl
  · exact x_iconst_ok (show decode cL_law 995 = .ok (.iconst 2, 1) by decide +kernel) (by decide)
  · exact x_iadd_ok (show decode cL_law 996 = .ok (.iadd, 1) by decide +kernel)
  · exact x_iald_ok (show decode cL_law 997 = .ok (.iaload, 1) by decide +kernel)
  · exact x_callV_ok (ci := 6) rfl (by decide) (sX8_cover l) hw_645 hw_642 hw_643 hw_644 hw_61 ⟨by decide, by decide, by decide +kernel⟩ rfl (by decide) (by decide) (show decode cL_law 998 = .ok (.invokevirtual 119, 3) by decide +kernel)
  · exact x_aload_n_ok (show decode cL_law 1001 = .ok (.aload_n 2, 1) by decide +kernel) rfl
  · exact x_aload_n_ok (show decode cL_law 1002 = .ok (.aload_n 0, 1) by decide +kernel) rfl
  · exact x_iload_n_ok (show decode cL_law 1003 = .ok (.iload_n 3, 1) by decide +kernel) rfl
  · exact x_iconst_ok (show decode cL_law 1004 = .ok (.iconst 1, 1) by decide +kernel) (by decide)
  · exact x_iadd_ok (show decode cL_law 1005 = .ok (.iadd, 1) by decide +kernel)
  · exact x_iald_ok (show decode cL_law 1006 = .ok (.iaload, 1) by decide +kernel)
  · exact x_aload_n_ok (show decode cL_law 1007 = .ok (.aload_n 0, 1) by decide +kernel) rfl
  · exact x_iload_n_ok (show decode cL_law 1008 = .ok (.iload_n 3, 1) by decide +kernel) rfl
  · exact x_iconst_ok (show decode cL_law 1009 = .ok (.iconst 2, 1) by decide +kernel) (by decide)
  · exact x_iadd_ok (show decode cL_law 1010 = .ok (.iadd, 1) by decide +kernel)
  · exact x_iald_ok (show decode cL_law 1011 = .ok (.iaload, 1) by decide +kernel)
  · exact x_callV_ok (ci := 7) rfl (by decide) (sX9_cover l) hw_1183 hw_1180 hw_1181 hw_1182 hw_68 ⟨by decide, by decide, by decide +kernel⟩ rfl (by decide) (by decide) (show decode cL_law 1012 = .ok (.invokevirtual 122, 3) by decide +kernel)
  · exact x_cmpeq_ok (show decode cL_law 1015 = .ok (.if_icmp .eq 508, 3) by decide +kernel) (by decide)
  · exact x_iconst_ok (show decode cL_law 1018 = .ok (.iconst 0, 1) by decide +kernel) (by decide)
  · exact x_iret_ok (show decode cL_law 1019 = .ok (.ireturn, 1) by decide +kernel)
  · exact x_aload_n_ok (show decode cL_law 1020 = .ok (.aload_n 1, 1) by decide +kernel) rfl
  · exact x_aload_n_ok (show decode cL_law 1021 = .ok (.aload_n 0, 1) by decide +kernel) rfl
  · exact x_iload_n_ok (show decode cL_law 1022 = .ok (.iload_n 3, 1) by decide +kernel) rfl
  · exact x_iconst_ok (show decode cL_law 1023 = .ok (.iconst 1, 1) by decide +kernel) (by decide)
  · exact x_iadd_ok (show decode cL_law 1024 = .ok (.iadd, 1) by decide +kernel)
  · exact x_iald_ok (show decode cL_law 1025 = .ok (.iaload, 1) by decide +kernel)
  · exact x_aload_n_ok (show decode cL_law 1026 = .ok (.aload_n 0, 1) by decide +kernel) rfl
  · exact x_iload_n_ok (show decode cL_law 1027 = .ok (.iload_n 3, 1) by decide +kernel) rfl
  · exact x_iconst_ok (show decode cL_law 1028 = .ok (.iconst 2, 1) by decide +kernel) (by decide)
  · exact x_iadd_ok (show decode cL_law 1029 = .ok (.iadd, 1) by decide +kernel)
  · exact x_iald_ok (show decode cL_law 1030 = .ok (.iaload, 1) by decide +kernel)
  · exact x_callV_ok (ci := 6) rfl (by decide) (sX8_best l) hw_664 hw_661 hw_662 hw_663 hw_61 ⟨by decide, by decide, by decide +kernel⟩ rfl (by decide) (by decide) (show decode cL_law 1031 = .ok (.invokevirtual 123, 3) by decide +kernel)
  · exact x_aload_n_ok (show decode cL_law 1034 = .ok (.aload_n 2, 1) by decide +kernel) rfl
  · exact x_aload_n_ok (show decode cL_law 1035 = .ok (.aload_n 0, 1) by decide +kernel) rfl
  · exact x_iload_n_ok (show decode cL_law 1036 = .ok (.iload_n 3, 1) by decide +kernel) rfl
  · exact x_iconst_ok (show decode cL_law 1037 = .ok (.iconst 1, 1) by decide +kernel) (by decide)
  · exact x_iadd_ok (show decode cL_law 1038 = .ok (.iadd, 1) by decide +kernel)
  · exact x_iald_ok (show decode cL_law 1039 = .ok (.iaload, 1) by decide +kernel)
theorem tL_13_lo : tL_13.all (fun q => decide (982 ≤ q.1) && decide (q.1 ≤ 1039)) = true := rfl
noncomputable def tL_14 : List (Nat × xO) := [(1040, x_aload 0 1), (1041, x_iload 3 1), (1042, x_push (.int (nI 2)) 1), (1043, x_ii (fun x y => x + y)), (1044, x_iald), (1045, x_callV 7 0 3 FX9_best), (1048, x_cmpeq 1523), (1051, x_push (.int (nI 0)) 1), (1052, x_iret), (1053, x_aload 1 1), (1054, x_aload 0 1), (1055, x_iload 3 1), (1056, x_push (.int (nI 1)) 1), (1057, x_ii (fun x y => x + y)), (1058, x_iald), (1059, x_aload 0 1), (1060, x_iload 3 1), (1061, x_push (.int (nI 2)) 1), (1062, x_ii (fun x y => x + y)), (1063, x_iald), (1064, x_callV 6 0 3 FX8_mix), (1067, x_aload 2 1), (1068, x_aload 0 1), (1069, x_iload 3 1), (1070, x_push (.int (nI 1)) 1), (1071, x_ii (fun x y => x + y)), (1072, x_iald), (1073, x_aload 0 1), (1074, x_iload 3 1), (1075, x_push (.int (nI 2)) 1), (1076, x_ii (fun x y => x + y)), (1077, x_iald), (1078, x_callV 7 0 3 FX9_mix), (1081, x_cmpeq 1523), (1084, x_push (.int (nI 0)) 1), (1085, x_iret), (1086, x_aload 1 1), (1087, x_aload 0 1), (1088, x_iload 3 1), (1089, x_push (.int (nI 1)) 1), (1090, x_ii (fun x y => x + y)), (1091, x_iald), (1092, x_aload 0 1), (1093, x_iload 3 1), (1094, x_push (.int (nI 2)) 1), (1095, x_ii (fun x y => x + y)), (1096, x_iald), (1097, x_callV 6 0 3 FX8_cheap)]
set_option maxRecDepth 100000 in
theorem tL_14_ok (l : Launch) : ∀ q ∈ tL_14, xOK l cL_law RL 4 10 89 False q.1 q.2 := by
  unfold tL_14
  refine List.forall_mem_cons.mpr ⟨?_, List.forall_mem_cons.mpr ⟨?_, List.forall_mem_cons.mpr ⟨?_, List.forall_mem_cons.mpr ⟨?_, List.forall_mem_cons.mpr ⟨?_, List.forall_mem_cons.mpr ⟨?_, List.forall_mem_cons.mpr ⟨?_, List.forall_mem_cons.mpr ⟨?_, List.forall_mem_cons.mpr ⟨?_, List.forall_mem_cons.mpr ⟨?_, List.forall_mem_cons.mpr ⟨?_, List.forall_mem_cons.mpr ⟨?_, List.forall_mem_cons.mpr ⟨?_, List.forall_mem_cons.mpr ⟨?_, List.forall_mem_cons.mpr ⟨?_, List.forall_mem_cons.mpr ⟨?_, List.forall_mem_cons.mpr ⟨?_, List.forall_mem_cons.mpr ⟨?_, List.forall_mem_cons.mpr ⟨?_, List.forall_mem_cons.mpr ⟨?_, List.forall_mem_cons.mpr ⟨?_, List.forall_mem_cons.mpr ⟨?_, List.forall_mem_cons.mpr ⟨?_, List.forall_mem_cons.mpr ⟨?_, List.forall_mem_cons.mpr ⟨?_, List.forall_mem_cons.mpr ⟨?_, List.forall_mem_cons.mpr ⟨?_, List.forall_mem_cons.mpr ⟨?_, List.forall_mem_cons.mpr ⟨?_, List.forall_mem_cons.mpr ⟨?_, List.forall_mem_cons.mpr ⟨?_, List.forall_mem_cons.mpr ⟨?_, List.forall_mem_cons.mpr ⟨?_, List.forall_mem_cons.mpr ⟨?_, List.forall_mem_cons.mpr ⟨?_, List.forall_mem_cons.mpr ⟨?_, List.forall_mem_cons.mpr ⟨?_, List.forall_mem_cons.mpr ⟨?_, List.forall_mem_cons.mpr ⟨?_, List.forall_mem_cons.mpr ⟨?_, List.forall_mem_cons.mpr ⟨?_, List.forall_mem_cons.mpr ⟨?_, List.forall_mem_cons.mpr ⟨?_, List.forall_mem_cons.mpr ⟨?_, List.forall_mem_cons.mpr ⟨?_, List.forall_mem_cons.mpr ⟨?_, List.forall_mem_cons.mpr ⟨?_, List.forall_mem_cons.mpr ⟨?_, fun _ h => absurd h List.not_mem_nil⟩⟩⟩⟩⟩⟩⟩⟩⟩⟩⟩⟩⟩⟩⟩⟩⟩⟩⟩⟩⟩⟩⟩⟩⟩⟩⟩⟩⟩⟩⟩⟩⟩⟩⟩⟩⟩⟩⟩⟩⟩⟩⟩⟩⟩⟩⟩⟩
  · exact x_aload_n_ok (show decode cL_law 1040 = .ok (.aload_n 0, 1) by decide +kernel) rfl
  · exact x_iload_n_ok (show decode cL_law 1041 = .ok (.iload_n 3, 1) by decide +kernel) rfl
  · exact x_iconst_ok (show decode cL_law 1042 = .ok (.iconst 2, 1) by decide +kernel) (by decide)
  · exact x_iadd_ok (show decode cL_law 1043 = .ok (.iadd, 1) by decide +kernel)
  · exact x_iald_ok (show decode cL_law 1044 = .ok (.iaload, 1) by decide +kernel)
  · exact x_callV_ok (ci := 7) rfl (by decide) (sX9_best l) hw_1195 hw_1192 hw_1193 hw_1194 hw_68 ⟨by decide, by decide, by decide +kernel⟩ rfl (by decide) (by decide) (show decode cL_law 1045 = .ok (.invokevirtual 126, 3) by decide +kernel)
  · exact x_cmpeq_ok (show decode cL_law 1048 = .ok (.if_icmp .eq 475, 3) by decide +kernel) (by decide)
  · exact x_iconst_ok (show decode cL_law 1051 = .ok (.iconst 0, 1) by decide +kernel) (by decide)
  · exact x_iret_ok (show decode cL_law 1052 = .ok (.ireturn, 1) by decide +kernel)
  · exact x_aload_n_ok (show decode cL_law 1053 = .ok (.aload_n 1, 1) by decide +kernel) rfl
  · exact x_aload_n_ok (show decode cL_law 1054 = .ok (.aload_n 0, 1) by decide +kernel) rfl
  · exact x_iload_n_ok (show decode cL_law 1055 = .ok (.iload_n 3, 1) by decide +kernel) rfl
  · exact x_iconst_ok (show decode cL_law 1056 = .ok (.iconst 1, 1) by decide +kernel) (by decide)
  · exact x_iadd_ok (show decode cL_law 1057 = .ok (.iadd, 1) by decide +kernel)
  · exact x_iald_ok (show decode cL_law 1058 = .ok (.iaload, 1) by decide +kernel)
  · exact x_aload_n_ok (show decode cL_law 1059 = .ok (.aload_n 0, 1) by decide +kernel) rfl
  · exact x_iload_n_ok (show decode cL_law 1060 = .ok (.iload_n 3, 1) by decide +kernel) rfl
  · exact x_iconst_ok (show decode cL_law 1061 = .ok (.iconst 2, 1) by decide +kernel) (by decide)
  · exact x_iadd_ok (show decode cL_law 1062 = .ok (.iadd, 1) by decide +kernel)
  · exact x_iald_ok (show decode cL_law 1063 = .ok (.iaload, 1) by decide +kernel)
  · exact x_callV_ok (ci := 6) rfl (by decide) (sX8_mix l) hw_675 hw_672 hw_673 hw_674 hw_61 ⟨by decide, by decide, by decide +kernel⟩ rfl (by decide) (by decide) (show decode cL_law 1064 = .ok (.invokevirtual 127, 3) by decide +kernel)
  · exact x_aload_n_ok (show decode cL_law 1067 = .ok (.aload_n 2, 1) by decide +kernel) rfl
  · exact x_aload_n_ok (show decode cL_law 1068 = .ok (.aload_n 0, 1) by decide +kernel) rfl
  · exact x_iload_n_ok (show decode cL_law 1069 = .ok (.iload_n 3, 1) by decide +kernel) rfl
  · exact x_iconst_ok (show decode cL_law 1070 = .ok (.iconst 1, 1) by decide +kernel) (by decide)
  · exact x_iadd_ok (show decode cL_law 1071 = .ok (.iadd, 1) by decide +kernel)
  · exact x_iald_ok (show decode cL_law 1072 = .ok (.iaload, 1) by decide +kernel)
  · exact x_aload_n_ok (show decode cL_law 1073 = .ok (.aload_n 0, 1) by decide +kernel) rfl
  · exact x_iload_n_ok (show decode cL_law 1074 = .ok (.iload_n 3, 1) by decide +kernel) rfl
  · exact x_iconst_ok (show decode cL_law 1075 = .ok (.iconst 2, 1) by decide +kernel) (by decide)
  · exact x_iadd_ok (show decode cL_law 1076 = .ok (.iadd, 1) by decide +kernel)
  · exact x_iald_ok (show decode cL_law 1077 = .ok (.iaload, 1) by decide +kernel)
  · exact x_callV_ok (ci := 7) rfl (by decide) (sX9_mix l) hw_1199 hw_1196 hw_1197 hw_1198 hw_68 ⟨by decide, by decide, by decide +kernel⟩ rfl (by decide) (by decide) (show decode cL_law 1078 = .ok (.invokevirtual 130, 3) by decide +kernel)
  · exact x_cmpeq_ok (show decode cL_law 1081 = .ok (.if_icmp .eq 442, 3) by decide +kernel) (by decide)
  · exact x_iconst_ok (show decode cL_law 1084 = .ok (.iconst 0, 1) by decide +kernel) (by decide)
  · exact x_iret_ok (show decode cL_law 1085 = .ok (.ireturn, 1) by decide +kernel)
  · exact x_aload_n_ok (show decode cL_law 1086 = .ok (.aload_n 1, 1) by decide +kernel) rfl
  · exact x_aload_n_ok (show decode cL_law 1087 = .ok (.aload_n 0, 1) by decide +kernel) rfl
  · exact x_iload_n_ok (show decode cL_law 1088 = .ok (.iload_n 3, 1) by decide +kernel) rfl
  · exact x_iconst_ok (show decode cL_law 1089 = .ok (.iconst 1, 1) by decide +kernel) (by decide)
  · exact x_iadd_ok (show decode cL_law 1090 = .ok (.iadd, 1) by decide +kernel)
  · exact x_iald_ok (show decode cL_law 1091 = .ok (.iaload, 1) by decide +kernel)
  · exact x_aload_n_ok (show decode cL_law 1092 = .ok (.aload_n 0, 1) by decide +kernel) rfl
  · exact x_iload_n_ok (show decode cL_law 1093 = .ok (.iload_n 3, 1) by decide +kernel) rfl
  · exact x_iconst_ok (show decode cL_law 1094 = .ok (.iconst 2, 1) by decide +kernel) (by decide)
  · exact x_iadd_ok (show decode cL_law 1095 = .ok (.iadd, 1) by decide +kernel)
  · exact x_iald_ok (show decode cL_law 1096 = .ok (.iaload, 1) by decide +kernel)
  · exact x_callV_ok (ci := 6) rfl (by decide) (sX8_cheap l) hw_696 hw_693 hw_694 hw_695 hw_61 ⟨by decide, by decide, by decide +kernel⟩ rfl (by decide) (by decide) (show decode cL_law 1097 = .ok (.invokevirtual 131, 3) by decide +kernel)
theorem tL_14_lo : tL_14.all (fun q => decide (1040 ≤ q.1) && decide (q.1 ≤ 1097)) = true := rfl
noncomputable def tL_15 : List (Nat × xO) := [(1100, x_aload 2 1), (1101, x_aload 0 1), (1102, x_iload 3 1), (1103, x_push (.int (nI 1)) 1), (1104, x_ii (fun x y => x + y)), (1105, x_iald), (1106, x_aload 0 1), (1107, x_iload 3 1), (1108, x_push (.int (nI 2)) 1), (1109, x_ii (fun x y => x + y)), (1110, x_iald), (1111, x_callV 7 0 3 FX9_cheap), (1114, x_cmpeq 1523), (1117, x_push (.int (nI 0)) 1), (1118, x_iret), (1119, x_aload 1 1), (1120, x_aload 0 1), (1121, x_iload 3 1), (1122, x_push (.int (nI 1)) 1), (1123, x_ii (fun x y => x + y)), (1124, x_iald), (1125, x_callV 6 0 2 FX8_eyes), (1128, x_aload 2 1), (1129, x_aload 0 1), (1130, x_iload 3 1), (1131, x_push (.int (nI 1)) 1), (1132, x_ii (fun x y => x + y)), (1133, x_iald), (1134, x_callV 7 0 2 FX9_eyes), (1137, x_cmpeq 1523), (1140, x_push (.int (nI 0)) 1), (1141, x_iret), (1142, x_aload 1 1), (1143, x_aload 0 1), (1144, x_iload 3 1), (1145, x_push (.int (nI 1)) 1), (1146, x_ii (fun x y => x + y)), (1147, x_iald), (1148, x_callV 6 0 2 FX8_show), (1151, x_aload 2 1), (1152, x_aload 0 1), (1153, x_iload 3 1), (1154, x_push (.int (nI 1)) 1), (1155, x_ii (fun x y => x + y)), (1156, x_iald), (1157, x_callV 7 0 2 FX9_show), (1160, x_cmpeq 1523), (1163, x_push (.int (nI 0)) 1)]
set_option maxRecDepth 100000 in
theorem tL_15_ok (l : Launch) : ∀ q ∈ tL_15, xOK l cL_law RL 4 10 89 False q.1 q.2 := by
  unfold tL_15
  refine List.forall_mem_cons.mpr ⟨?_, List.forall_mem_cons.mpr ⟨?_, List.forall_mem_cons.mpr ⟨?_, List.forall_mem_cons.mpr ⟨?_, List.forall_mem_cons.mpr ⟨?_, List.forall_mem_cons.mpr ⟨?_, List.forall_mem_cons.mpr ⟨?_, List.forall_mem_cons.mpr ⟨?_, List.forall_mem_cons.mpr ⟨?_, List.forall_mem_cons.mpr ⟨?_, List.forall_mem_cons.mpr ⟨?_, List.forall_mem_cons.mpr ⟨?_, List.forall_mem_cons.mpr ⟨?_, List.forall_mem_cons.mpr ⟨?_, List.forall_mem_cons.mpr ⟨?_, List.forall_mem_cons.mpr ⟨?_, List.forall_mem_cons.mpr ⟨?_, List.forall_mem_cons.mpr ⟨?_, List.forall_mem_cons.mpr ⟨?_, List.forall_mem_cons.mpr ⟨?_, List.forall_mem_cons.mpr ⟨?_, List.forall_mem_cons.mpr ⟨?_, List.forall_mem_cons.mpr ⟨?_, List.forall_mem_cons.mpr ⟨?_, List.forall_mem_cons.mpr ⟨?_, List.forall_mem_cons.mpr ⟨?_, List.forall_mem_cons.mpr ⟨?_, List.forall_mem_cons.mpr ⟨?_, List.forall_mem_cons.mpr ⟨?_, List.forall_mem_cons.mpr ⟨?_, List.forall_mem_cons.mpr ⟨?_, List.forall_mem_cons.mpr ⟨?_, List.forall_mem_cons.mpr ⟨?_, List.forall_mem_cons.mpr ⟨?_, List.forall_mem_cons.mpr ⟨?_, List.forall_mem_cons.mpr ⟨?_, List.forall_mem_cons.mpr ⟨?_, List.forall_mem_cons.mpr ⟨?_, List.forall_mem_cons.mpr ⟨?_, List.forall_mem_cons.mpr ⟨?_, List.forall_mem_cons.mpr ⟨?_, List.forall_mem_cons.mpr ⟨?_, List.forall_mem_cons.mpr ⟨?_, List.forall_mem_cons.mpr ⟨?_, List.forall_mem_cons.mpr ⟨?_, List.forall_mem_cons.mpr ⟨?_, List.forall_mem_cons.mpr ⟨?_, List.forall_mem_cons.mpr ⟨?_, fun _ h => absurd h List.not_mem_nil⟩⟩⟩⟩⟩⟩⟩⟩⟩⟩⟩⟩⟩⟩⟩⟩⟩⟩⟩⟩⟩⟩⟩⟩⟩⟩⟩⟩⟩⟩⟩⟩⟩⟩⟩⟩⟩⟩⟩⟩⟩⟩⟩⟩⟩⟩⟩⟩
  · exact x_aload_n_ok (show decode cL_law 1100 = .ok (.aload_n 2, 1) by decide +kernel) rfl
  · exact x_aload_n_ok (show decode cL_law 1101 = .ok (.aload_n 0, 1) by decide +kernel) rfl
  · exact x_iload_n_ok (show decode cL_law 1102 = .ok (.iload_n 3, 1) by decide +kernel) rfl
  · exact x_iconst_ok (show decode cL_law 1103 = .ok (.iconst 1, 1) by decide +kernel) (by decide)
  · exact x_iadd_ok (show decode cL_law 1104 = .ok (.iadd, 1) by decide +kernel)
  · exact x_iald_ok (show decode cL_law 1105 = .ok (.iaload, 1) by decide +kernel)
  · exact x_aload_n_ok (show decode cL_law 1106 = .ok (.aload_n 0, 1) by decide +kernel) rfl
  · exact x_iload_n_ok (show decode cL_law 1107 = .ok (.iload_n 3, 1) by decide +kernel) rfl
  · exact x_iconst_ok (show decode cL_law 1108 = .ok (.iconst 2, 1) by decide +kernel) (by decide)
  · exact x_iadd_ok (show decode cL_law 1109 = .ok (.iadd, 1) by decide +kernel)
  · exact x_iald_ok (show decode cL_law 1110 = .ok (.iaload, 1) by decide +kernel)
  · exact x_callV_ok (ci := 7) rfl (by decide) (sX9_cheap l) hw_1214 hw_1211 hw_1212 hw_1213 hw_68 ⟨by decide, by decide, by decide +kernel⟩ rfl (by decide) (by decide) (show decode cL_law 1111 = .ok (.invokevirtual 134, 3) by decide +kernel)
  · exact x_cmpeq_ok (show decode cL_law 1114 = .ok (.if_icmp .eq 409, 3) by decide +kernel) (by decide)
  · exact x_iconst_ok (show decode cL_law 1117 = .ok (.iconst 0, 1) by decide +kernel) (by decide)
  · exact x_iret_ok (show decode cL_law 1118 = .ok (.ireturn, 1) by decide +kernel)
  · exact x_aload_n_ok (show decode cL_law 1119 = .ok (.aload_n 1, 1) by decide +kernel) rfl
  · exact x_aload_n_ok (show decode cL_law 1120 = .ok (.aload_n 0, 1) by decide +kernel) rfl
  · exact x_iload_n_ok (show decode cL_law 1121 = .ok (.iload_n 3, 1) by decide +kernel) rfl
  · exact x_iconst_ok (show decode cL_law 1122 = .ok (.iconst 1, 1) by decide +kernel) (by decide)
  · exact x_iadd_ok (show decode cL_law 1123 = .ok (.iadd, 1) by decide +kernel)
  · exact x_iald_ok (show decode cL_law 1124 = .ok (.iaload, 1) by decide +kernel)
  · exact x_callV_ok (ci := 6) rfl (by decide) (sX8_eyes l) hw_700 hw_697 hw_698 hw_699 hw_61 ⟨by decide, by decide, by decide +kernel⟩ rfl (by decide) (by decide) (show decode cL_law 1125 = .ok (.invokevirtual 135, 3) by decide +kernel)
  · exact x_aload_n_ok (show decode cL_law 1128 = .ok (.aload_n 2, 1) by decide +kernel) rfl
  · exact x_aload_n_ok (show decode cL_law 1129 = .ok (.aload_n 0, 1) by decide +kernel) rfl
  · exact x_iload_n_ok (show decode cL_law 1130 = .ok (.iload_n 3, 1) by decide +kernel) rfl
  · exact x_iconst_ok (show decode cL_law 1131 = .ok (.iconst 1, 1) by decide +kernel) (by decide)
  · exact x_iadd_ok (show decode cL_law 1132 = .ok (.iadd, 1) by decide +kernel)
  · exact x_iald_ok (show decode cL_law 1133 = .ok (.iaload, 1) by decide +kernel)
  · exact x_callV_ok (ci := 7) rfl (by decide) (sX9_eyes l) hw_1218 hw_1215 hw_1216 hw_1217 hw_68 ⟨by decide, by decide, by decide +kernel⟩ rfl (by decide) (by decide) (show decode cL_law 1134 = .ok (.invokevirtual 138, 3) by decide +kernel)
  · exact x_cmpeq_ok (show decode cL_law 1137 = .ok (.if_icmp .eq 386, 3) by decide +kernel) (by decide)
  · exact x_iconst_ok (show decode cL_law 1140 = .ok (.iconst 0, 1) by decide +kernel) (by decide)
  · exact x_iret_ok (show decode cL_law 1141 = .ok (.ireturn, 1) by decide +kernel)
  · exact x_aload_n_ok (show decode cL_law 1142 = .ok (.aload_n 1, 1) by decide +kernel) rfl
  · exact x_aload_n_ok (show decode cL_law 1143 = .ok (.aload_n 0, 1) by decide +kernel) rfl
  · exact x_iload_n_ok (show decode cL_law 1144 = .ok (.iload_n 3, 1) by decide +kernel) rfl
  · exact x_iconst_ok (show decode cL_law 1145 = .ok (.iconst 1, 1) by decide +kernel) (by decide)
  · exact x_iadd_ok (show decode cL_law 1146 = .ok (.iadd, 1) by decide +kernel)
  · exact x_iald_ok (show decode cL_law 1147 = .ok (.iaload, 1) by decide +kernel)
  · exact x_callV_ok (ci := 6) rfl (by decide) (sX8_show l) hw_715 hw_712 hw_713 hw_714 hw_61 ⟨by decide, by decide, by decide +kernel⟩ rfl (by decide) (by decide) (show decode cL_law 1148 = .ok (.invokevirtual 139, 3) by decide +kernel)
  · exact x_aload_n_ok (show decode cL_law 1151 = .ok (.aload_n 2, 1) by decide +kernel) rfl
  · exact x_aload_n_ok (show decode cL_law 1152 = .ok (.aload_n 0, 1) by decide +kernel) rfl
  · exact x_iload_n_ok (show decode cL_law 1153 = .ok (.iload_n 3, 1) by decide +kernel) rfl
  · exact x_iconst_ok (show decode cL_law 1154 = .ok (.iconst 1, 1) by decide +kernel) (by decide)
  · exact x_iadd_ok (show decode cL_law 1155 = .ok (.iadd, 1) by decide +kernel)
  · exact x_iald_ok (show decode cL_law 1156 = .ok (.iaload, 1) by decide +kernel)
  · exact x_callV_ok (ci := 7) rfl (by decide) (sX9_show l) hw_1230 hw_1227 hw_1228 hw_1229 hw_68 ⟨by decide, by decide, by decide +kernel⟩ rfl (by decide) (by decide) (show decode cL_law 1157 = .ok (.invokevirtual 142, 3) by decide +kernel)
  · exact x_cmpeq_ok (show decode cL_law 1160 = .ok (.if_icmp .eq 363, 3) by decide +kernel) (by decide)
  · exact x_iconst_ok (show decode cL_law 1163 = .ok (.iconst 0, 1) by decide +kernel) (by decide)
theorem tL_15_lo : tL_15.all (fun q => decide (1100 ≤ q.1) && decide (q.1 ≤ 1163)) = true := rfl
noncomputable def tL_16 : List (Nat × xO) := [(1164, x_iret), (1165, x_aload 1 1), (1166, x_aload 0 1), (1167, x_iload 3 1), (1168, x_push (.int (nI 1)) 1), (1169, x_ii (fun x y => x + y)), (1170, x_iald), (1171, x_aload 0 1), (1172, x_iload 3 1), (1173, x_push (.int (nI 2)) 1), (1174, x_ii (fun x y => x + y)), (1175, x_iald), (1176, x_aload 0 1), (1177, x_iload 3 1), (1178, x_push (.int (nI 3)) 1), (1179, x_ii (fun x y => x + y)), (1180, x_iald), (1181, x_callV 6 0 4 FX8_judged), (1184, x_aload 2 1), (1185, x_aload 0 1), (1186, x_iload 3 1), (1187, x_push (.int (nI 1)) 1), (1188, x_ii (fun x y => x + y)), (1189, x_iald), (1190, x_aload 0 1), (1191, x_iload 3 1), (1192, x_push (.int (nI 2)) 1), (1193, x_ii (fun x y => x + y)), (1194, x_iald), (1195, x_aload 0 1), (1196, x_iload 3 1), (1197, x_push (.int (nI 3)) 1), (1198, x_ii (fun x y => x + y)), (1199, x_iald), (1200, x_callV 7 0 4 FX9_judged), (1203, x_cmpeq 1523), (1206, x_push (.int (nI 0)) 1), (1207, x_iret), (1208, x_aload 1 1), (1209, x_aload 0 1), (1210, x_iload 3 1), (1211, x_push (.int (nI 1)) 1), (1212, x_ii (fun x y => x + y)), (1213, x_iald), (1214, x_callV 6 0 2 FX8_lost), (1217, x_aload 2 1), (1218, x_aload 0 1), (1219, x_iload 3 1)]
set_option maxRecDepth 100000 in
theorem tL_16_ok (l : Launch) : ∀ q ∈ tL_16, xOK l cL_law RL 4 10 89 False q.1 q.2 := by
  unfold tL_16
  refine List.forall_mem_cons.mpr ⟨?_, List.forall_mem_cons.mpr ⟨?_, List.forall_mem_cons.mpr ⟨?_, List.forall_mem_cons.mpr ⟨?_, List.forall_mem_cons.mpr ⟨?_, List.forall_mem_cons.mpr ⟨?_, List.forall_mem_cons.mpr ⟨?_, List.forall_mem_cons.mpr ⟨?_, List.forall_mem_cons.mpr ⟨?_, List.forall_mem_cons.mpr ⟨?_, List.forall_mem_cons.mpr ⟨?_, List.forall_mem_cons.mpr ⟨?_, List.forall_mem_cons.mpr ⟨?_, List.forall_mem_cons.mpr ⟨?_, List.forall_mem_cons.mpr ⟨?_, List.forall_mem_cons.mpr ⟨?_, List.forall_mem_cons.mpr ⟨?_, List.forall_mem_cons.mpr ⟨?_, List.forall_mem_cons.mpr ⟨?_, List.forall_mem_cons.mpr ⟨?_, List.forall_mem_cons.mpr ⟨?_, List.forall_mem_cons.mpr ⟨?_, List.forall_mem_cons.mpr ⟨?_, List.forall_mem_cons.mpr ⟨?_, List.forall_mem_cons.mpr ⟨?_, List.forall_mem_cons.mpr ⟨?_, List.forall_mem_cons.mpr ⟨?_, List.forall_mem_cons.mpr ⟨?_, List.forall_mem_cons.mpr ⟨?_, List.forall_mem_cons.mpr ⟨?_, List.forall_mem_cons.mpr ⟨?_, List.forall_mem_cons.mpr ⟨?_, List.forall_mem_cons.mpr ⟨?_, List.forall_mem_cons.mpr ⟨?_, List.forall_mem_cons.mpr ⟨?_, List.forall_mem_cons.mpr ⟨?_, List.forall_mem_cons.mpr ⟨?_, List.forall_mem_cons.mpr ⟨?_, List.forall_mem_cons.mpr ⟨?_, List.forall_mem_cons.mpr ⟨?_, List.forall_mem_cons.mpr ⟨?_, List.forall_mem_cons.mpr ⟨?_, List.forall_mem_cons.mpr ⟨?_, List.forall_mem_cons.mpr ⟨?_, List.forall_mem_cons.mpr ⟨?_, List.forall_mem_cons.mpr ⟨?_, List.forall_mem_cons.mpr ⟨?_, List.forall_mem_cons.mpr ⟨?_, fun _ h => absurd h List.not_mem_nil⟩⟩⟩⟩⟩⟩⟩⟩⟩⟩⟩⟩⟩⟩⟩⟩⟩⟩⟩⟩⟩⟩⟩⟩⟩⟩⟩⟩⟩⟩⟩⟩⟩⟩⟩⟩⟩⟩⟩⟩⟩⟩⟩⟩⟩⟩⟩⟩
  · exact x_iret_ok (show decode cL_law 1164 = .ok (.ireturn, 1) by decide +kernel)
  · exact x_aload_n_ok (show decode cL_law 1165 = .ok (.aload_n 1, 1) by decide +kernel) rfl
  · exact x_aload_n_ok (show decode cL_law 1166 = .ok (.aload_n 0, 1) by decide +kernel) rfl
  · exact x_iload_n_ok (show decode cL_law 1167 = .ok (.iload_n 3, 1) by decide +kernel) rfl
  · exact x_iconst_ok (show decode cL_law 1168 = .ok (.iconst 1, 1) by decide +kernel) (by decide)
  · exact x_iadd_ok (show decode cL_law 1169 = .ok (.iadd, 1) by decide +kernel)
  · exact x_iald_ok (show decode cL_law 1170 = .ok (.iaload, 1) by decide +kernel)
  · exact x_aload_n_ok (show decode cL_law 1171 = .ok (.aload_n 0, 1) by decide +kernel) rfl
  · exact x_iload_n_ok (show decode cL_law 1172 = .ok (.iload_n 3, 1) by decide +kernel) rfl
  · exact x_iconst_ok (show decode cL_law 1173 = .ok (.iconst 2, 1) by decide +kernel) (by decide)
  · exact x_iadd_ok (show decode cL_law 1174 = .ok (.iadd, 1) by decide +kernel)
  · exact x_iald_ok (show decode cL_law 1175 = .ok (.iaload, 1) by decide +kernel)
  · exact x_aload_n_ok (show decode cL_law 1176 = .ok (.aload_n 0, 1) by decide +kernel) rfl
  · exact x_iload_n_ok (show decode cL_law 1177 = .ok (.iload_n 3, 1) by decide +kernel) rfl
  · exact x_iconst_ok (show decode cL_law 1178 = .ok (.iconst 3, 1) by decide +kernel) (by decide)
  · exact x_iadd_ok (show decode cL_law 1179 = .ok (.iadd, 1) by decide +kernel)
  · exact x_iald_ok (show decode cL_law 1180 = .ok (.iaload, 1) by decide +kernel)
  · exact x_callV_ok (ci := 6) rfl (by decide) (sX8_judged l) hw_720 hw_717 hw_718 hw_719 hw_61 ⟨by decide, by decide, by decide +kernel⟩ rfl (by decide) (by decide) (show decode cL_law 1181 = .ok (.invokevirtual 143, 3) by decide +kernel)
  · exact x_aload_n_ok (show decode cL_law 1184 = .ok (.aload_n 2, 1) by decide +kernel) rfl
  · exact x_aload_n_ok (show decode cL_law 1185 = .ok (.aload_n 0, 1) by decide +kernel) rfl
  · exact x_iload_n_ok (show decode cL_law 1186 = .ok (.iload_n 3, 1) by decide +kernel) rfl
  · exact x_iconst_ok (show decode cL_law 1187 = .ok (.iconst 1, 1) by decide +kernel) (by decide)
  · exact x_iadd_ok (show decode cL_law 1188 = .ok (.iadd, 1) by decide +kernel)
  · exact x_iald_ok (show decode cL_law 1189 = .ok (.iaload, 1) by decide +kernel)
  · exact x_aload_n_ok (show decode cL_law 1190 = .ok (.aload_n 0, 1) by decide +kernel) rfl
  · exact x_iload_n_ok (show decode cL_law 1191 = .ok (.iload_n 3, 1) by decide +kernel) rfl
  · exact x_iconst_ok (show decode cL_law 1192 = .ok (.iconst 2, 1) by decide +kernel) (by decide)
  · exact x_iadd_ok (show decode cL_law 1193 = .ok (.iadd, 1) by decide +kernel)
  · exact x_iald_ok (show decode cL_law 1194 = .ok (.iaload, 1) by decide +kernel)
  · exact x_aload_n_ok (show decode cL_law 1195 = .ok (.aload_n 0, 1) by decide +kernel) rfl
  · exact x_iload_n_ok (show decode cL_law 1196 = .ok (.iload_n 3, 1) by decide +kernel) rfl
  · exact x_iconst_ok (show decode cL_law 1197 = .ok (.iconst 3, 1) by decide +kernel) (by decide)
  · exact x_iadd_ok (show decode cL_law 1198 = .ok (.iadd, 1) by decide +kernel)
  · exact x_iald_ok (show decode cL_law 1199 = .ok (.iaload, 1) by decide +kernel)
  · exact x_callV_ok (ci := 7) rfl (by decide) (sX9_judged l) hw_1234 hw_1231 hw_1232 hw_1233 hw_68 ⟨by decide, by decide, by decide +kernel⟩ rfl (by decide) (by decide) (show decode cL_law 1200 = .ok (.invokevirtual 146, 3) by decide +kernel)
  · exact x_cmpeq_ok (show decode cL_law 1203 = .ok (.if_icmp .eq 320, 3) by decide +kernel) (by decide)
  · exact x_iconst_ok (show decode cL_law 1206 = .ok (.iconst 0, 1) by decide +kernel) (by decide)
  · exact x_iret_ok (show decode cL_law 1207 = .ok (.ireturn, 1) by decide +kernel)
  · exact x_aload_n_ok (show decode cL_law 1208 = .ok (.aload_n 1, 1) by decide +kernel) rfl
  · exact x_aload_n_ok (show decode cL_law 1209 = .ok (.aload_n 0, 1) by decide +kernel) rfl
  · exact x_iload_n_ok (show decode cL_law 1210 = .ok (.iload_n 3, 1) by decide +kernel) rfl
  · exact x_iconst_ok (show decode cL_law 1211 = .ok (.iconst 1, 1) by decide +kernel) (by decide)
  · exact x_iadd_ok (show decode cL_law 1212 = .ok (.iadd, 1) by decide +kernel)
  · exact x_iald_ok (show decode cL_law 1213 = .ok (.iaload, 1) by decide +kernel)
  · exact x_callV_ok (ci := 6) rfl (by decide) (sX8_lost l) hw_731 hw_728 hw_729 hw_730 hw_61 ⟨by decide, by decide, by decide +kernel⟩ rfl (by decide) (by decide) (show decode cL_law 1214 = .ok (.invokevirtual 147, 3) by decide +kernel)
  · exact x_aload_n_ok (show decode cL_law 1217 = .ok (.aload_n 2, 1) by decide +kernel) rfl
  · exact x_aload_n_ok (show decode cL_law 1218 = .ok (.aload_n 0, 1) by decide +kernel) rfl
  · exact x_iload_n_ok (show decode cL_law 1219 = .ok (.iload_n 3, 1) by decide +kernel) rfl
theorem tL_16_lo : tL_16.all (fun q => decide (1164 ≤ q.1) && decide (q.1 ≤ 1219)) = true := rfl
noncomputable def tL_17 : List (Nat × xO) := [(1220, x_push (.int (nI 1)) 1), (1221, x_ii (fun x y => x + y)), (1222, x_iald), (1223, x_callV 7 0 2 FX9_lost), (1226, x_cmpeq 1523), (1229, x_push (.int (nI 0)) 1), (1230, x_iret), (1231, x_aload 1 1), (1232, x_aload 0 1), (1233, x_iload 3 1), (1234, x_push (.int (nI 1)) 1), (1235, x_ii (fun x y => x + y)), (1236, x_iald), (1237, x_callV 6 0 2 FX8_moves), (1240, x_aload 2 1), (1241, x_aload 0 1), (1242, x_iload 3 1), (1243, x_push (.int (nI 1)) 1), (1244, x_ii (fun x y => x + y)), (1245, x_iald), (1246, x_callV 7 0 2 FX9_moves), (1249, x_cmpeq 1523), (1252, x_push (.int (nI 0)) 1), (1253, x_iret), (1254, x_aload 1 1), (1255, x_aload 0 1), (1256, x_iload 3 1), (1257, x_push (.int (nI 1)) 1), (1258, x_ii (fun x y => x + y)), (1259, x_iald), (1260, x_aload 0 1), (1261, x_iload 3 1), (1262, x_push (.int (nI 2)) 1), (1263, x_ii (fun x y => x + y)), (1264, x_iald), (1265, x_callV 6 0 3 FX8_was), (1268, x_aload 2 1), (1269, x_aload 0 1), (1270, x_iload 3 1), (1271, x_push (.int (nI 1)) 1), (1272, x_ii (fun x y => x + y)), (1273, x_iald), (1274, x_aload 0 1), (1275, x_iload 3 1), (1276, x_push (.int (nI 2)) 1), (1277, x_ii (fun x y => x + y)), (1278, x_iald), (1279, x_callV 7 0 3 FX9_was)]
set_option maxRecDepth 100000 in
theorem tL_17_ok (l : Launch) : ∀ q ∈ tL_17, xOK l cL_law RL 4 10 89 False q.1 q.2 := by
  unfold tL_17
  refine List.forall_mem_cons.mpr ⟨?_, List.forall_mem_cons.mpr ⟨?_, List.forall_mem_cons.mpr ⟨?_, List.forall_mem_cons.mpr ⟨?_, List.forall_mem_cons.mpr ⟨?_, List.forall_mem_cons.mpr ⟨?_, List.forall_mem_cons.mpr ⟨?_, List.forall_mem_cons.mpr ⟨?_, List.forall_mem_cons.mpr ⟨?_, List.forall_mem_cons.mpr ⟨?_, List.forall_mem_cons.mpr ⟨?_, List.forall_mem_cons.mpr ⟨?_, List.forall_mem_cons.mpr ⟨?_, List.forall_mem_cons.mpr ⟨?_, List.forall_mem_cons.mpr ⟨?_, List.forall_mem_cons.mpr ⟨?_, List.forall_mem_cons.mpr ⟨?_, List.forall_mem_cons.mpr ⟨?_, List.forall_mem_cons.mpr ⟨?_, List.forall_mem_cons.mpr ⟨?_, List.forall_mem_cons.mpr ⟨?_, List.forall_mem_cons.mpr ⟨?_, List.forall_mem_cons.mpr ⟨?_, List.forall_mem_cons.mpr ⟨?_, List.forall_mem_cons.mpr ⟨?_, List.forall_mem_cons.mpr ⟨?_, List.forall_mem_cons.mpr ⟨?_, List.forall_mem_cons.mpr ⟨?_, List.forall_mem_cons.mpr ⟨?_, List.forall_mem_cons.mpr ⟨?_, List.forall_mem_cons.mpr ⟨?_, List.forall_mem_cons.mpr ⟨?_, List.forall_mem_cons.mpr ⟨?_, List.forall_mem_cons.mpr ⟨?_, List.forall_mem_cons.mpr ⟨?_, List.forall_mem_cons.mpr ⟨?_, List.forall_mem_cons.mpr ⟨?_, List.forall_mem_cons.mpr ⟨?_, List.forall_mem_cons.mpr ⟨?_, List.forall_mem_cons.mpr ⟨?_, List.forall_mem_cons.mpr ⟨?_, List.forall_mem_cons.mpr ⟨?_, List.forall_mem_cons.mpr ⟨?_, List.forall_mem_cons.mpr ⟨?_, List.forall_mem_cons.mpr ⟨?_, List.forall_mem_cons.mpr ⟨?_, List.forall_mem_cons.mpr ⟨?_, List.forall_mem_cons.mpr ⟨?_, fun _ h => absurd h List.not_mem_nil⟩⟩⟩⟩⟩⟩⟩⟩⟩⟩⟩⟩⟩⟩⟩⟩⟩⟩⟩⟩⟩⟩⟩⟩⟩⟩⟩⟩⟩⟩⟩⟩⟩⟩⟩⟩⟩⟩⟩⟩⟩⟩⟩⟩⟩⟩⟩⟩
  · exact x_iconst_ok (show decode cL_law 1220 = .ok (.iconst 1, 1) by decide +kernel) (by decide)
  · exact x_iadd_ok (show decode cL_law 1221 = .ok (.iadd, 1) by decide +kernel)
  · exact x_iald_ok (show decode cL_law 1222 = .ok (.iaload, 1) by decide +kernel)
  · exact x_callV_ok (ci := 7) rfl (by decide) (sX9_lost l) hw_1243 hw_1240 hw_1241 hw_1242 hw_68 ⟨by decide, by decide, by decide +kernel⟩ rfl (by decide) (by decide) (show decode cL_law 1223 = .ok (.invokevirtual 150, 3) by decide +kernel)
  · exact x_cmpeq_ok (show decode cL_law 1226 = .ok (.if_icmp .eq 297, 3) by decide +kernel) (by decide)
  · exact x_iconst_ok (show decode cL_law 1229 = .ok (.iconst 0, 1) by decide +kernel) (by decide)
  · exact x_iret_ok (show decode cL_law 1230 = .ok (.ireturn, 1) by decide +kernel)
  · exact x_aload_n_ok (show decode cL_law 1231 = .ok (.aload_n 1, 1) by decide +kernel) rfl
  · exact x_aload_n_ok (show decode cL_law 1232 = .ok (.aload_n 0, 1) by decide +kernel) rfl
  · exact x_iload_n_ok (show decode cL_law 1233 = .ok (.iload_n 3, 1) by decide +kernel) rfl
  · exact x_iconst_ok (show decode cL_law 1234 = .ok (.iconst 1, 1) by decide +kernel) (by decide)
  · exact x_iadd_ok (show decode cL_law 1235 = .ok (.iadd, 1) by decide +kernel)
  · exact x_iald_ok (show decode cL_law 1236 = .ok (.iaload, 1) by decide +kernel)
  · exact x_callV_ok (ci := 6) rfl (by decide) (sX8_moves l) hw_739 hw_736 hw_737 hw_738 hw_61 ⟨by decide, by decide, by decide +kernel⟩ rfl (by decide) (by decide) (show decode cL_law 1237 = .ok (.invokevirtual 151, 3) by decide +kernel)
  · exact x_aload_n_ok (show decode cL_law 1240 = .ok (.aload_n 2, 1) by decide +kernel) rfl
  · exact x_aload_n_ok (show decode cL_law 1241 = .ok (.aload_n 0, 1) by decide +kernel) rfl
  · exact x_iload_n_ok (show decode cL_law 1242 = .ok (.iload_n 3, 1) by decide +kernel) rfl
  · exact x_iconst_ok (show decode cL_law 1243 = .ok (.iconst 1, 1) by decide +kernel) (by decide)
  · exact x_iadd_ok (show decode cL_law 1244 = .ok (.iadd, 1) by decide +kernel)
  · exact x_iald_ok (show decode cL_law 1245 = .ok (.iaload, 1) by decide +kernel)
  · exact x_callV_ok (ci := 7) rfl (by decide) (sX9_moves l) hw_1247 hw_1244 hw_1245 hw_1246 hw_68 ⟨by decide, by decide, by decide +kernel⟩ rfl (by decide) (by decide) (show decode cL_law 1246 = .ok (.invokevirtual 154, 3) by decide +kernel)
  · exact x_cmpeq_ok (show decode cL_law 1249 = .ok (.if_icmp .eq 274, 3) by decide +kernel) (by decide)
  · exact x_iconst_ok (show decode cL_law 1252 = .ok (.iconst 0, 1) by decide +kernel) (by decide)
  · exact x_iret_ok (show decode cL_law 1253 = .ok (.ireturn, 1) by decide +kernel)
  · exact x_aload_n_ok (show decode cL_law 1254 = .ok (.aload_n 1, 1) by decide +kernel) rfl
  · exact x_aload_n_ok (show decode cL_law 1255 = .ok (.aload_n 0, 1) by decide +kernel) rfl
  · exact x_iload_n_ok (show decode cL_law 1256 = .ok (.iload_n 3, 1) by decide +kernel) rfl
  · exact x_iconst_ok (show decode cL_law 1257 = .ok (.iconst 1, 1) by decide +kernel) (by decide)
  · exact x_iadd_ok (show decode cL_law 1258 = .ok (.iadd, 1) by decide +kernel)
  · exact x_iald_ok (show decode cL_law 1259 = .ok (.iaload, 1) by decide +kernel)
  · exact x_aload_n_ok (show decode cL_law 1260 = .ok (.aload_n 0, 1) by decide +kernel) rfl
  · exact x_iload_n_ok (show decode cL_law 1261 = .ok (.iload_n 3, 1) by decide +kernel) rfl
  · exact x_iconst_ok (show decode cL_law 1262 = .ok (.iconst 2, 1) by decide +kernel) (by decide)
  · exact x_iadd_ok (show decode cL_law 1263 = .ok (.iadd, 1) by decide +kernel)
  · exact x_iald_ok (show decode cL_law 1264 = .ok (.iaload, 1) by decide +kernel)
  · exact x_callV_ok (ci := 6) rfl (by decide) (sX8_was l) hw_743 hw_740 hw_741 hw_742 hw_61 ⟨by decide, by decide, by decide +kernel⟩ rfl (by decide) (by decide) (show decode cL_law 1265 = .ok (.invokevirtual 155, 3) by decide +kernel)
  · exact x_aload_n_ok (show decode cL_law 1268 = .ok (.aload_n 2, 1) by decide +kernel) rfl
  · exact x_aload_n_ok (show decode cL_law 1269 = .ok (.aload_n 0, 1) by decide +kernel) rfl
  · exact x_iload_n_ok (show decode cL_law 1270 = .ok (.iload_n 3, 1) by decide +kernel) rfl
  · exact x_iconst_ok (show decode cL_law 1271 = .ok (.iconst 1, 1) by decide +kernel) (by decide)
  · exact x_iadd_ok (show decode cL_law 1272 = .ok (.iadd, 1) by decide +kernel)
  · exact x_iald_ok (show decode cL_law 1273 = .ok (.iaload, 1) by decide +kernel)
  · exact x_aload_n_ok (show decode cL_law 1274 = .ok (.aload_n 0, 1) by decide +kernel) rfl
  · exact x_iload_n_ok (show decode cL_law 1275 = .ok (.iload_n 3, 1) by decide +kernel) rfl
  · exact x_iconst_ok (show decode cL_law 1276 = .ok (.iconst 2, 1) by decide +kernel) (by decide)
  · exact x_iadd_ok (show decode cL_law 1277 = .ok (.iadd, 1) by decide +kernel)
  · exact x_iald_ok (show decode cL_law 1278 = .ok (.iaload, 1) by decide +kernel)
  · exact x_callV_ok (ci := 7) rfl (by decide) (sX9_was l) hw_1251 hw_1248 hw_1249 hw_1250 hw_68 ⟨by decide, by decide, by decide +kernel⟩ rfl (by decide) (by decide) (show decode cL_law 1279 = .ok (.invokevirtual 158, 3) by decide +kernel)
theorem tL_17_lo : tL_17.all (fun q => decide (1220 ≤ q.1) && decide (q.1 ≤ 1279)) = true := rfl
noncomputable def tL_18 : List (Nat × xO) := [(1282, x_cmpeq 1523), (1285, x_push (.int (nI 0)) 1), (1286, x_iret), (1287, x_aload 1 1), (1288, x_aload 0 1), (1289, x_iload 3 1), (1290, x_push (.int (nI 1)) 1), (1291, x_ii (fun x y => x + y)), (1292, x_iald), (1293, x_aload 0 1), (1294, x_iload 3 1), (1295, x_push (.int (nI 2)) 1), (1296, x_ii (fun x y => x + y)), (1297, x_iald), (1298, x_callV 6 0 3 FX8_kinds), (1301, x_aload 2 1), (1302, x_aload 0 1), (1303, x_iload 3 1), (1304, x_push (.int (nI 1)) 1), (1305, x_ii (fun x y => x + y)), (1306, x_iald), (1307, x_aload 0 1), (1308, x_iload 3 1), (1309, x_push (.int (nI 2)) 1), (1310, x_ii (fun x y => x + y)), (1311, x_iald), (1312, x_callV 7 0 3 FX9_kinds), (1315, x_cmpeq 1523), (1318, x_push (.int (nI 0)) 1), (1319, x_iret), (1320, x_aload 1 1), (1321, x_aload 0 1), (1322, x_iload 3 1), (1323, x_push (.int (nI 1)) 1), (1324, x_ii (fun x y => x + y)), (1325, x_iald), (1326, x_callV 6 0 2 FX8_odds), (1329, x_aload 2 1), (1330, x_aload 0 1), (1331, x_iload 3 1), (1332, x_push (.int (nI 1)) 1), (1333, x_ii (fun x y => x + y)), (1334, x_iald), (1335, x_callV 7 0 2 FX9_odds), (1338, x_cmpeq 1523), (1341, x_push (.int (nI 0)) 1), (1342, x_iret), (1343, x_aload 1 1)]
set_option maxRecDepth 100000 in
theorem tL_18_ok (l : Launch) : ∀ q ∈ tL_18, xOK l cL_law RL 4 10 89 False q.1 q.2 := by
  unfold tL_18
  refine List.forall_mem_cons.mpr ⟨?_, List.forall_mem_cons.mpr ⟨?_, List.forall_mem_cons.mpr ⟨?_, List.forall_mem_cons.mpr ⟨?_, List.forall_mem_cons.mpr ⟨?_, List.forall_mem_cons.mpr ⟨?_, List.forall_mem_cons.mpr ⟨?_, List.forall_mem_cons.mpr ⟨?_, List.forall_mem_cons.mpr ⟨?_, List.forall_mem_cons.mpr ⟨?_, List.forall_mem_cons.mpr ⟨?_, List.forall_mem_cons.mpr ⟨?_, List.forall_mem_cons.mpr ⟨?_, List.forall_mem_cons.mpr ⟨?_, List.forall_mem_cons.mpr ⟨?_, List.forall_mem_cons.mpr ⟨?_, List.forall_mem_cons.mpr ⟨?_, List.forall_mem_cons.mpr ⟨?_, List.forall_mem_cons.mpr ⟨?_, List.forall_mem_cons.mpr ⟨?_, List.forall_mem_cons.mpr ⟨?_, List.forall_mem_cons.mpr ⟨?_, List.forall_mem_cons.mpr ⟨?_, List.forall_mem_cons.mpr ⟨?_, List.forall_mem_cons.mpr ⟨?_, List.forall_mem_cons.mpr ⟨?_, List.forall_mem_cons.mpr ⟨?_, List.forall_mem_cons.mpr ⟨?_, List.forall_mem_cons.mpr ⟨?_, List.forall_mem_cons.mpr ⟨?_, List.forall_mem_cons.mpr ⟨?_, List.forall_mem_cons.mpr ⟨?_, List.forall_mem_cons.mpr ⟨?_, List.forall_mem_cons.mpr ⟨?_, List.forall_mem_cons.mpr ⟨?_, List.forall_mem_cons.mpr ⟨?_, List.forall_mem_cons.mpr ⟨?_, List.forall_mem_cons.mpr ⟨?_, List.forall_mem_cons.mpr ⟨?_, List.forall_mem_cons.mpr ⟨?_, List.forall_mem_cons.mpr ⟨?_, List.forall_mem_cons.mpr ⟨?_, List.forall_mem_cons.mpr ⟨?_, List.forall_mem_cons.mpr ⟨?_, List.forall_mem_cons.mpr ⟨?_, List.forall_mem_cons.mpr ⟨?_, List.forall_mem_cons.mpr ⟨?_, List.forall_mem_cons.mpr ⟨?_, fun _ h => absurd h List.not_mem_nil⟩⟩⟩⟩⟩⟩⟩⟩⟩⟩⟩⟩⟩⟩⟩⟩⟩⟩⟩⟩⟩⟩⟩⟩⟩⟩⟩⟩⟩⟩⟩⟩⟩⟩⟩⟩⟩⟩⟩⟩⟩⟩⟩⟩⟩⟩⟩⟩
  · exact x_cmpeq_ok (show decode cL_law 1282 = .ok (.if_icmp .eq 241, 3) by decide +kernel) (by decide)
  · exact x_iconst_ok (show decode cL_law 1285 = .ok (.iconst 0, 1) by decide +kernel) (by decide)
  · exact x_iret_ok (show decode cL_law 1286 = .ok (.ireturn, 1) by decide +kernel)
  · exact x_aload_n_ok (show decode cL_law 1287 = .ok (.aload_n 1, 1) by decide +kernel) rfl
  · exact x_aload_n_ok (show decode cL_law 1288 = .ok (.aload_n 0, 1) by decide +kernel) rfl
  · exact x_iload_n_ok (show decode cL_law 1289 = .ok (.iload_n 3, 1) by decide +kernel) rfl
  · exact x_iconst_ok (show decode cL_law 1290 = .ok (.iconst 1, 1) by decide +kernel) (by decide)
  · exact x_iadd_ok (show decode cL_law 1291 = .ok (.iadd, 1) by decide +kernel)
  · exact x_iald_ok (show decode cL_law 1292 = .ok (.iaload, 1) by decide +kernel)
  · exact x_aload_n_ok (show decode cL_law 1293 = .ok (.aload_n 0, 1) by decide +kernel) rfl
  · exact x_iload_n_ok (show decode cL_law 1294 = .ok (.iload_n 3, 1) by decide +kernel) rfl
  · exact x_iconst_ok (show decode cL_law 1295 = .ok (.iconst 2, 1) by decide +kernel) (by decide)
  · exact x_iadd_ok (show decode cL_law 1296 = .ok (.iadd, 1) by decide +kernel)
  · exact x_iald_ok (show decode cL_law 1297 = .ok (.iaload, 1) by decide +kernel)
  · exact x_callV_ok (ci := 6) rfl (by decide) (sX8_kinds l) hw_748 hw_745 hw_746 hw_747 hw_61 ⟨by decide, by decide, by decide +kernel⟩ rfl (by decide) (by decide) (show decode cL_law 1298 = .ok (.invokevirtual 159, 3) by decide +kernel)
  · exact x_aload_n_ok (show decode cL_law 1301 = .ok (.aload_n 2, 1) by decide +kernel) rfl
  · exact x_aload_n_ok (show decode cL_law 1302 = .ok (.aload_n 0, 1) by decide +kernel) rfl
  · exact x_iload_n_ok (show decode cL_law 1303 = .ok (.iload_n 3, 1) by decide +kernel) rfl
  · exact x_iconst_ok (show decode cL_law 1304 = .ok (.iconst 1, 1) by decide +kernel) (by decide)
  · exact x_iadd_ok (show decode cL_law 1305 = .ok (.iadd, 1) by decide +kernel)
  · exact x_iald_ok (show decode cL_law 1306 = .ok (.iaload, 1) by decide +kernel)
  · exact x_aload_n_ok (show decode cL_law 1307 = .ok (.aload_n 0, 1) by decide +kernel) rfl
  · exact x_iload_n_ok (show decode cL_law 1308 = .ok (.iload_n 3, 1) by decide +kernel) rfl
  · exact x_iconst_ok (show decode cL_law 1309 = .ok (.iconst 2, 1) by decide +kernel) (by decide)
  · exact x_iadd_ok (show decode cL_law 1310 = .ok (.iadd, 1) by decide +kernel)
  · exact x_iald_ok (show decode cL_law 1311 = .ok (.iaload, 1) by decide +kernel)
  · exact x_callV_ok (ci := 7) rfl (by decide) (sX9_kinds l) hw_1255 hw_1252 hw_1253 hw_1254 hw_68 ⟨by decide, by decide, by decide +kernel⟩ rfl (by decide) (by decide) (show decode cL_law 1312 = .ok (.invokevirtual 162, 3) by decide +kernel)
  · exact x_cmpeq_ok (show decode cL_law 1315 = .ok (.if_icmp .eq 208, 3) by decide +kernel) (by decide)
  · exact x_iconst_ok (show decode cL_law 1318 = .ok (.iconst 0, 1) by decide +kernel) (by decide)
  · exact x_iret_ok (show decode cL_law 1319 = .ok (.ireturn, 1) by decide +kernel)
  · exact x_aload_n_ok (show decode cL_law 1320 = .ok (.aload_n 1, 1) by decide +kernel) rfl
  · exact x_aload_n_ok (show decode cL_law 1321 = .ok (.aload_n 0, 1) by decide +kernel) rfl
  · exact x_iload_n_ok (show decode cL_law 1322 = .ok (.iload_n 3, 1) by decide +kernel) rfl
  · exact x_iconst_ok (show decode cL_law 1323 = .ok (.iconst 1, 1) by decide +kernel) (by decide)
  · exact x_iadd_ok (show decode cL_law 1324 = .ok (.iadd, 1) by decide +kernel)
  · exact x_iald_ok (show decode cL_law 1325 = .ok (.iaload, 1) by decide +kernel)
  · exact x_callV_ok (ci := 6) rfl (by decide) (sX8_odds l) hw_752 hw_749 hw_750 hw_751 hw_61 ⟨by decide, by decide, by decide +kernel⟩ rfl (by decide) (by decide) (show decode cL_law 1326 = .ok (.invokevirtual 163, 3) by decide +kernel)
  · exact x_aload_n_ok (show decode cL_law 1329 = .ok (.aload_n 2, 1) by decide +kernel) rfl
  · exact x_aload_n_ok (show decode cL_law 1330 = .ok (.aload_n 0, 1) by decide +kernel) rfl
  · exact x_iload_n_ok (show decode cL_law 1331 = .ok (.iload_n 3, 1) by decide +kernel) rfl
  · exact x_iconst_ok (show decode cL_law 1332 = .ok (.iconst 1, 1) by decide +kernel) (by decide)
  · exact x_iadd_ok (show decode cL_law 1333 = .ok (.iadd, 1) by decide +kernel)
  · exact x_iald_ok (show decode cL_law 1334 = .ok (.iaload, 1) by decide +kernel)
  · exact x_callV_ok (ci := 7) rfl (by decide) (sX9_odds l) hw_1260 hw_1257 hw_1258 hw_1259 hw_68 ⟨by decide, by decide, by decide +kernel⟩ rfl (by decide) (by decide) (show decode cL_law 1335 = .ok (.invokevirtual 166, 3) by decide +kernel)
  · exact x_cmpeq_ok (show decode cL_law 1338 = .ok (.if_icmp .eq 185, 3) by decide +kernel) (by decide)
  · exact x_iconst_ok (show decode cL_law 1341 = .ok (.iconst 0, 1) by decide +kernel) (by decide)
  · exact x_iret_ok (show decode cL_law 1342 = .ok (.ireturn, 1) by decide +kernel)
  · exact x_aload_n_ok (show decode cL_law 1343 = .ok (.aload_n 1, 1) by decide +kernel) rfl
theorem tL_18_lo : tL_18.all (fun q => decide (1282 ≤ q.1) && decide (q.1 ≤ 1343)) = true := rfl
noncomputable def tL_19 : List (Nat × xO) := [(1344, x_aload 0 1), (1345, x_iload 3 1), (1346, x_push (.int (nI 1)) 1), (1347, x_ii (fun x y => x + y)), (1348, x_iald), (1349, x_callV 6 0 2 FX8_mid), (1352, x_aload 2 1), (1353, x_aload 0 1), (1354, x_iload 3 1), (1355, x_push (.int (nI 1)) 1), (1356, x_ii (fun x y => x + y)), (1357, x_iald), (1358, x_callV 7 0 2 FX9_mid), (1361, x_cmpeq 1523), (1364, x_push (.int (nI 0)) 1), (1365, x_iret), (1366, x_aload 1 1), (1367, x_aload 0 1), (1368, x_iload 3 1), (1369, x_push (.int (nI 1)) 1), (1370, x_ii (fun x y => x + y)), (1371, x_iald), (1372, x_aload 0 1), (1373, x_iload 3 1), (1374, x_push (.int (nI 2)) 1), (1375, x_ii (fun x y => x + y)), (1376, x_iald), (1377, x_aload 0 1), (1378, x_iload 3 1), (1379, x_push (.int (nI 3)) 1), (1380, x_ii (fun x y => x + y)), (1381, x_iald), (1382, x_callV 6 0 4 FX8_lots), (1385, x_aload 2 1), (1386, x_aload 0 1), (1387, x_iload 3 1), (1388, x_push (.int (nI 1)) 1), (1389, x_ii (fun x y => x + y)), (1390, x_iald), (1391, x_aload 0 1), (1392, x_iload 3 1), (1393, x_push (.int (nI 2)) 1), (1394, x_ii (fun x y => x + y)), (1395, x_iald), (1396, x_aload 0 1), (1397, x_iload 3 1), (1398, x_push (.int (nI 3)) 1), (1399, x_ii (fun x y => x + y))]
set_option maxRecDepth 100000 in
theorem tL_19_ok (l : Launch) : ∀ q ∈ tL_19, xOK l cL_law RL 4 10 89 False q.1 q.2 := by
  unfold tL_19
  refine List.forall_mem_cons.mpr ⟨?_, List.forall_mem_cons.mpr ⟨?_, List.forall_mem_cons.mpr ⟨?_, List.forall_mem_cons.mpr ⟨?_, List.forall_mem_cons.mpr ⟨?_, List.forall_mem_cons.mpr ⟨?_, List.forall_mem_cons.mpr ⟨?_, List.forall_mem_cons.mpr ⟨?_, List.forall_mem_cons.mpr ⟨?_, List.forall_mem_cons.mpr ⟨?_, List.forall_mem_cons.mpr ⟨?_, List.forall_mem_cons.mpr ⟨?_, List.forall_mem_cons.mpr ⟨?_, List.forall_mem_cons.mpr ⟨?_, List.forall_mem_cons.mpr ⟨?_, List.forall_mem_cons.mpr ⟨?_, List.forall_mem_cons.mpr ⟨?_, List.forall_mem_cons.mpr ⟨?_, List.forall_mem_cons.mpr ⟨?_, List.forall_mem_cons.mpr ⟨?_, List.forall_mem_cons.mpr ⟨?_, List.forall_mem_cons.mpr ⟨?_, List.forall_mem_cons.mpr ⟨?_, List.forall_mem_cons.mpr ⟨?_, List.forall_mem_cons.mpr ⟨?_, List.forall_mem_cons.mpr ⟨?_, List.forall_mem_cons.mpr ⟨?_, List.forall_mem_cons.mpr ⟨?_, List.forall_mem_cons.mpr ⟨?_, List.forall_mem_cons.mpr ⟨?_, List.forall_mem_cons.mpr ⟨?_, List.forall_mem_cons.mpr ⟨?_, List.forall_mem_cons.mpr ⟨?_, List.forall_mem_cons.mpr ⟨?_, List.forall_mem_cons.mpr ⟨?_, List.forall_mem_cons.mpr ⟨?_, List.forall_mem_cons.mpr ⟨?_, List.forall_mem_cons.mpr ⟨?_, List.forall_mem_cons.mpr ⟨?_, List.forall_mem_cons.mpr ⟨?_, List.forall_mem_cons.mpr ⟨?_, List.forall_mem_cons.mpr ⟨?_, List.forall_mem_cons.mpr ⟨?_, List.forall_mem_cons.mpr ⟨?_, List.forall_mem_cons.mpr ⟨?_, List.forall_mem_cons.mpr ⟨?_, List.forall_mem_cons.mpr ⟨?_, List.forall_mem_cons.mpr ⟨?_, fun _ h => absurd h List.not_mem_nil⟩⟩⟩⟩⟩⟩⟩⟩⟩⟩⟩⟩⟩⟩⟩⟩⟩⟩⟩⟩⟩⟩⟩⟩⟩⟩⟩⟩⟩⟩⟩⟩⟩⟩⟩⟩⟩⟩⟩⟩⟩⟩⟩⟩⟩⟩⟩⟩
  · exact x_aload_n_ok (show decode cL_law 1344 = .ok (.aload_n 0, 1) by decide +kernel) rfl
  · exact x_iload_n_ok (show decode cL_law 1345 = .ok (.iload_n 3, 1) by decide +kernel) rfl
  · exact x_iconst_ok (show decode cL_law 1346 = .ok (.iconst 1, 1) by decide +kernel) (by decide)
  · exact x_iadd_ok (show decode cL_law 1347 = .ok (.iadd, 1) by decide +kernel)
  · exact x_iald_ok (show decode cL_law 1348 = .ok (.iaload, 1) by decide +kernel)
  · exact x_callV_ok (ci := 6) rfl (by decide) (sX8_mid l) hw_764 hw_761 hw_762 hw_763 hw_61 ⟨by decide, by decide, by decide +kernel⟩ rfl (by decide) (by decide) (show decode cL_law 1349 = .ok (.invokevirtual 167, 3) by decide +kernel)
  · exact x_aload_n_ok (show decode cL_law 1352 = .ok (.aload_n 2, 1) by decide +kernel) rfl
  · exact x_aload_n_ok (show decode cL_law 1353 = .ok (.aload_n 0, 1) by decide +kernel) rfl
  · exact x_iload_n_ok (show decode cL_law 1354 = .ok (.iload_n 3, 1) by decide +kernel) rfl
  · exact x_iconst_ok (show decode cL_law 1355 = .ok (.iconst 1, 1) by decide +kernel) (by decide)
  · exact x_iadd_ok (show decode cL_law 1356 = .ok (.iadd, 1) by decide +kernel)
  · exact x_iald_ok (show decode cL_law 1357 = .ok (.iaload, 1) by decide +kernel)
  · exact x_callV_ok (ci := 7) rfl (by decide) (sX9_mid l) hw_1268 hw_1265 hw_1266 hw_1267 hw_68 ⟨by decide, by decide, by decide +kernel⟩ rfl (by decide) (by decide) (show decode cL_law 1358 = .ok (.invokevirtual 170, 3) by decide +kernel)
  · exact x_cmpeq_ok (show decode cL_law 1361 = .ok (.if_icmp .eq 162, 3) by decide +kernel) (by decide)
  · exact x_iconst_ok (show decode cL_law 1364 = .ok (.iconst 0, 1) by decide +kernel) (by decide)
  · exact x_iret_ok (show decode cL_law 1365 = .ok (.ireturn, 1) by decide +kernel)
  · exact x_aload_n_ok (show decode cL_law 1366 = .ok (.aload_n 1, 1) by decide +kernel) rfl
  · exact x_aload_n_ok (show decode cL_law 1367 = .ok (.aload_n 0, 1) by decide +kernel) rfl
  · exact x_iload_n_ok (show decode cL_law 1368 = .ok (.iload_n 3, 1) by decide +kernel) rfl
  · exact x_iconst_ok (show decode cL_law 1369 = .ok (.iconst 1, 1) by decide +kernel) (by decide)
  · exact x_iadd_ok (show decode cL_law 1370 = .ok (.iadd, 1) by decide +kernel)
  · exact x_iald_ok (show decode cL_law 1371 = .ok (.iaload, 1) by decide +kernel)
  · exact x_aload_n_ok (show decode cL_law 1372 = .ok (.aload_n 0, 1) by decide +kernel) rfl
  · exact x_iload_n_ok (show decode cL_law 1373 = .ok (.iload_n 3, 1) by decide +kernel) rfl
  · exact x_iconst_ok (show decode cL_law 1374 = .ok (.iconst 2, 1) by decide +kernel) (by decide)
  · exact x_iadd_ok (show decode cL_law 1375 = .ok (.iadd, 1) by decide +kernel)
  · exact x_iald_ok (show decode cL_law 1376 = .ok (.iaload, 1) by decide +kernel)
  · exact x_aload_n_ok (show decode cL_law 1377 = .ok (.aload_n 0, 1) by decide +kernel) rfl
  · exact x_iload_n_ok (show decode cL_law 1378 = .ok (.iload_n 3, 1) by decide +kernel) rfl
  · exact x_iconst_ok (show decode cL_law 1379 = .ok (.iconst 3, 1) by decide +kernel) (by decide)
  · exact x_iadd_ok (show decode cL_law 1380 = .ok (.iadd, 1) by decide +kernel)
  · exact x_iald_ok (show decode cL_law 1381 = .ok (.iaload, 1) by decide +kernel)
  · exact x_callV_ok (ci := 6) rfl (by decide) (sX8_lots l) hw_768 hw_765 hw_766 hw_767 hw_61 ⟨by decide, by decide, by decide +kernel⟩ rfl (by decide) (by decide) (show decode cL_law 1382 = .ok (.invokevirtual 171, 3) by decide +kernel)
  · exact x_aload_n_ok (show decode cL_law 1385 = .ok (.aload_n 2, 1) by decide +kernel) rfl
  · exact x_aload_n_ok (show decode cL_law 1386 = .ok (.aload_n 0, 1) by decide +kernel) rfl
  · exact x_iload_n_ok (show decode cL_law 1387 = .ok (.iload_n 3, 1) by decide +kernel) rfl
  · exact x_iconst_ok (show decode cL_law 1388 = .ok (.iconst 1, 1) by decide +kernel) (by decide)
  · exact x_iadd_ok (show decode cL_law 1389 = .ok (.iadd, 1) by decide +kernel)
  · exact x_iald_ok (show decode cL_law 1390 = .ok (.iaload, 1) by decide +kernel)
  · exact x_aload_n_ok (show decode cL_law 1391 = .ok (.aload_n 0, 1) by decide +kernel) rfl
  · exact x_iload_n_ok (show decode cL_law 1392 = .ok (.iload_n 3, 1) by decide +kernel) rfl
  · exact x_iconst_ok (show decode cL_law 1393 = .ok (.iconst 2, 1) by decide +kernel) (by decide)
  · exact x_iadd_ok (show decode cL_law 1394 = .ok (.iadd, 1) by decide +kernel)
  · exact x_iald_ok (show decode cL_law 1395 = .ok (.iaload, 1) by decide +kernel)
  · exact x_aload_n_ok (show decode cL_law 1396 = .ok (.aload_n 0, 1) by decide +kernel) rfl
  · exact x_iload_n_ok (show decode cL_law 1397 = .ok (.iload_n 3, 1) by decide +kernel) rfl
  · exact x_iconst_ok (show decode cL_law 1398 = .ok (.iconst 3, 1) by decide +kernel) (by decide)
  · exact x_iadd_ok (show decode cL_law 1399 = .ok (.iadd, 1) by decide +kernel)
theorem tL_19_lo : tL_19.all (fun q => decide (1344 ≤ q.1) && decide (q.1 ≤ 1399)) = true := rfl
noncomputable def tL_20 : List (Nat × xO) := [(1400, x_iald), (1401, x_callV 7 0 4 FX9_lots), (1404, x_cmpeq 1523), (1407, x_push (.int (nI 0)) 1), (1408, x_iret), (1409, x_aload 1 1), (1410, x_callV 6 0 1 FX8_asked), (1413, x_aload 2 1), (1414, x_callV 7 0 1 FX9_asked), (1417, x_cmpeq 1523), (1420, x_push (.int (nI 0)) 1), (1421, x_iret), (1422, x_aload 1 1), (1423, x_callV 6 0 1 FX8_upper), (1426, x_aload 2 1), (1427, x_callV 7 0 1 FX9_upper), (1430, x_lcmp), (1431, x_ifeq 1523), (1434, x_push (.int (nI 0)) 1), (1435, x_iret), (1436, x_aload 1 1), (1437, x_callV 6 0 1 FX8_lower), (1440, x_aload 2 1), (1441, x_callV 7 0 1 FX9_lower), (1444, x_lcmp), (1445, x_ifeq 1523), (1448, x_push (.int (nI 0)) 1), (1449, x_iret), (1450, x_aload 1 1), (1451, x_aload 0 1), (1452, x_iload 3 1), (1453, x_push (.int (nI 1)) 1), (1454, x_ii (fun x y => x + y)), (1455, x_iald), (1456, x_callV 6 0 2 FX8_count), (1459, x_aload 2 1), (1460, x_aload 0 1), (1461, x_iload 3 1), (1462, x_push (.int (nI 1)) 1), (1463, x_ii (fun x y => x + y)), (1464, x_iald), (1465, x_callV 7 0 2 FX9_count), (1468, x_cmpeq 1523), (1471, x_push (.int (nI 0)) 1), (1472, x_iret), (1473, x_aload 1 1), (1474, x_callV 6 0 1 FX8_finding), (1477, x_aload 2 1)]
set_option maxRecDepth 100000 in
theorem tL_20_ok (l : Launch) : ∀ q ∈ tL_20, xOK l cL_law RL 4 10 89 False q.1 q.2 := by
  unfold tL_20
  refine List.forall_mem_cons.mpr ⟨?_, List.forall_mem_cons.mpr ⟨?_, List.forall_mem_cons.mpr ⟨?_, List.forall_mem_cons.mpr ⟨?_, List.forall_mem_cons.mpr ⟨?_, List.forall_mem_cons.mpr ⟨?_, List.forall_mem_cons.mpr ⟨?_, List.forall_mem_cons.mpr ⟨?_, List.forall_mem_cons.mpr ⟨?_, List.forall_mem_cons.mpr ⟨?_, List.forall_mem_cons.mpr ⟨?_, List.forall_mem_cons.mpr ⟨?_, List.forall_mem_cons.mpr ⟨?_, List.forall_mem_cons.mpr ⟨?_, List.forall_mem_cons.mpr ⟨?_, List.forall_mem_cons.mpr ⟨?_, List.forall_mem_cons.mpr ⟨?_, List.forall_mem_cons.mpr ⟨?_, List.forall_mem_cons.mpr ⟨?_, List.forall_mem_cons.mpr ⟨?_, List.forall_mem_cons.mpr ⟨?_, List.forall_mem_cons.mpr ⟨?_, List.forall_mem_cons.mpr ⟨?_, List.forall_mem_cons.mpr ⟨?_, List.forall_mem_cons.mpr ⟨?_, List.forall_mem_cons.mpr ⟨?_, List.forall_mem_cons.mpr ⟨?_, List.forall_mem_cons.mpr ⟨?_, List.forall_mem_cons.mpr ⟨?_, List.forall_mem_cons.mpr ⟨?_, List.forall_mem_cons.mpr ⟨?_, List.forall_mem_cons.mpr ⟨?_, List.forall_mem_cons.mpr ⟨?_, List.forall_mem_cons.mpr ⟨?_, List.forall_mem_cons.mpr ⟨?_, List.forall_mem_cons.mpr ⟨?_, List.forall_mem_cons.mpr ⟨?_, List.forall_mem_cons.mpr ⟨?_, List.forall_mem_cons.mpr ⟨?_, List.forall_mem_cons.mpr ⟨?_, List.forall_mem_cons.mpr ⟨?_, List.forall_mem_cons.mpr ⟨?_, List.forall_mem_cons.mpr ⟨?_, List.forall_mem_cons.mpr ⟨?_, List.forall_mem_cons.mpr ⟨?_, List.forall_mem_cons.mpr ⟨?_, List.forall_mem_cons.mpr ⟨?_, List.forall_mem_cons.mpr ⟨?_, fun _ h => absurd h List.not_mem_nil⟩⟩⟩⟩⟩⟩⟩⟩⟩⟩⟩⟩⟩⟩⟩⟩⟩⟩⟩⟩⟩⟩⟩⟩⟩⟩⟩⟩⟩⟩⟩⟩⟩⟩⟩⟩⟩⟩⟩⟩⟩⟩⟩⟩⟩⟩⟩⟩
  · exact x_iald_ok (show decode cL_law 1400 = .ok (.iaload, 1) by decide +kernel)
  · exact x_callV_ok (ci := 7) rfl (by decide) (sX9_lots l) hw_1272 hw_1269 hw_1270 hw_1271 hw_68 ⟨by decide, by decide, by decide +kernel⟩ rfl (by decide) (by decide) (show decode cL_law 1401 = .ok (.invokevirtual 174, 3) by decide +kernel)
  · exact x_cmpeq_ok (show decode cL_law 1404 = .ok (.if_icmp .eq 119, 3) by decide +kernel) (by decide)
  · exact x_iconst_ok (show decode cL_law 1407 = .ok (.iconst 0, 1) by decide +kernel) (by decide)
  · exact x_iret_ok (show decode cL_law 1408 = .ok (.ireturn, 1) by decide +kernel)
  · exact x_aload_n_ok (show decode cL_law 1409 = .ok (.aload_n 1, 1) by decide +kernel) rfl
  · exact x_callV_ok (ci := 6) rfl (by decide) (sX8_asked l) hw_775 hw_772 hw_773 hw_774 hw_61 ⟨by decide, by decide, by decide +kernel⟩ rfl (by decide) (by decide) (show decode cL_law 1410 = .ok (.invokevirtual 175, 3) by decide +kernel)
  · exact x_aload_n_ok (show decode cL_law 1413 = .ok (.aload_n 2, 1) by decide +kernel) rfl
  · exact x_callV_ok (ci := 7) rfl (by decide) (sX9_asked l) hw_1281 hw_1278 hw_1279 hw_1280 hw_68 ⟨by decide, by decide, by decide +kernel⟩ rfl (by decide) (by decide) (show decode cL_law 1414 = .ok (.invokevirtual 178, 3) by decide +kernel)
  · exact x_cmpeq_ok (show decode cL_law 1417 = .ok (.if_icmp .eq 106, 3) by decide +kernel) (by decide)
  · exact x_iconst_ok (show decode cL_law 1420 = .ok (.iconst 0, 1) by decide +kernel) (by decide)
  · exact x_iret_ok (show decode cL_law 1421 = .ok (.ireturn, 1) by decide +kernel)
  · exact x_aload_n_ok (show decode cL_law 1422 = .ok (.aload_n 1, 1) by decide +kernel) rfl
  · exact x_callV_ok (ci := 6) rfl (by decide) (sX8_upper l) hw_779 hw_776 hw_777 hw_778 hw_61 ⟨by decide, by decide, by decide +kernel⟩ rfl (by decide) (by decide) (show decode cL_law 1423 = .ok (.invokevirtual 179, 3) by decide +kernel)
  · exact x_aload_n_ok (show decode cL_law 1426 = .ok (.aload_n 2, 1) by decide +kernel) rfl
  · exact x_callV_ok (ci := 7) rfl (by decide) (sX9_upper l) hw_1285 hw_1282 hw_1283 hw_1284 hw_68 ⟨by decide, by decide, by decide +kernel⟩ rfl (by decide) (by decide) (show decode cL_law 1427 = .ok (.invokevirtual 183, 3) by decide +kernel)
  · exact x_lcmp_ok (show decode cL_law 1430 = .ok (.lcmp, 1) by decide +kernel)
  · exact x_ifeq_ok (show decode cL_law 1431 = .ok (.ifCond .eq 92, 3) by decide +kernel) (by decide)
  · exact x_iconst_ok (show decode cL_law 1434 = .ok (.iconst 0, 1) by decide +kernel) (by decide)
  · exact x_iret_ok (show decode cL_law 1435 = .ok (.ireturn, 1) by decide +kernel)
  · exact x_aload_n_ok (show decode cL_law 1436 = .ok (.aload_n 1, 1) by decide +kernel) rfl
  · exact x_callV_ok (ci := 6) rfl (by decide) (sX8_lower l) hw_783 hw_780 hw_781 hw_782 hw_61 ⟨by decide, by decide, by decide +kernel⟩ rfl (by decide) (by decide) (show decode cL_law 1437 = .ok (.invokevirtual 184, 3) by decide +kernel)
  · exact x_aload_n_ok (show decode cL_law 1440 = .ok (.aload_n 2, 1) by decide +kernel) rfl
  · exact x_callV_ok (ci := 7) rfl (by decide) (sX9_lower l) hw_1289 hw_1286 hw_1287 hw_1288 hw_68 ⟨by decide, by decide, by decide +kernel⟩ rfl (by decide) (by decide) (show decode cL_law 1441 = .ok (.invokevirtual 187, 3) by decide +kernel)
  · exact x_lcmp_ok (show decode cL_law 1444 = .ok (.lcmp, 1) by decide +kernel)
  · exact x_ifeq_ok (show decode cL_law 1445 = .ok (.ifCond .eq 78, 3) by decide +kernel) (by decide)
  · exact x_iconst_ok (show decode cL_law 1448 = .ok (.iconst 0, 1) by decide +kernel) (by decide)
  · exact x_iret_ok (show decode cL_law 1449 = .ok (.ireturn, 1) by decide +kernel)
  · exact x_aload_n_ok (show decode cL_law 1450 = .ok (.aload_n 1, 1) by decide +kernel) rfl
  · exact x_aload_n_ok (show decode cL_law 1451 = .ok (.aload_n 0, 1) by decide +kernel) rfl
  · exact x_iload_n_ok (show decode cL_law 1452 = .ok (.iload_n 3, 1) by decide +kernel) rfl
  · exact x_iconst_ok (show decode cL_law 1453 = .ok (.iconst 1, 1) by decide +kernel) (by decide)
  · exact x_iadd_ok (show decode cL_law 1454 = .ok (.iadd, 1) by decide +kernel)
  · exact x_iald_ok (show decode cL_law 1455 = .ok (.iaload, 1) by decide +kernel)
  · exact x_callV_ok (ci := 6) rfl (by decide) (sX8_count l) hw_787 hw_784 hw_785 hw_786 hw_61 ⟨by decide, by decide, by decide +kernel⟩ rfl (by decide) (by decide) (show decode cL_law 1456 = .ok (.invokevirtual 188, 3) by decide +kernel)
  · exact x_aload_n_ok (show decode cL_law 1459 = .ok (.aload_n 2, 1) by decide +kernel) rfl
  · exact x_aload_n_ok (show decode cL_law 1460 = .ok (.aload_n 0, 1) by decide +kernel) rfl
  · exact x_iload_n_ok (show decode cL_law 1461 = .ok (.iload_n 3, 1) by decide +kernel) rfl
  · exact x_iconst_ok (show decode cL_law 1462 = .ok (.iconst 1, 1) by decide +kernel) (by decide)
  · exact x_iadd_ok (show decode cL_law 1463 = .ok (.iadd, 1) by decide +kernel)
  · exact x_iald_ok (show decode cL_law 1464 = .ok (.iaload, 1) by decide +kernel)
  · exact x_callV_ok (ci := 7) rfl (by decide) (sX9_count l) hw_1293 hw_1290 hw_1291 hw_1292 hw_68 ⟨by decide, by decide, by decide +kernel⟩ rfl (by decide) (by decide) (show decode cL_law 1465 = .ok (.invokevirtual 191, 3) by decide +kernel)
  · exact x_cmpeq_ok (show decode cL_law 1468 = .ok (.if_icmp .eq 55, 3) by decide +kernel) (by decide)
  · exact x_iconst_ok (show decode cL_law 1471 = .ok (.iconst 0, 1) by decide +kernel) (by decide)
  · exact x_iret_ok (show decode cL_law 1472 = .ok (.ireturn, 1) by decide +kernel)
  · exact x_aload_n_ok (show decode cL_law 1473 = .ok (.aload_n 1, 1) by decide +kernel) rfl
  · exact x_callV_ok (ci := 6) rfl (by decide) (sX8_finding l) hw_816 hw_813 hw_814 hw_815 hw_61 ⟨by decide, by decide, by decide +kernel⟩ rfl (by decide) (by decide) (show decode cL_law 1474 = .ok (.invokevirtual 192, 3) by decide +kernel)
  · exact x_aload_n_ok (show decode cL_law 1477 = .ok (.aload_n 2, 1) by decide +kernel) rfl
theorem tL_20_lo : tL_20.all (fun q => decide (1400 ≤ q.1) && decide (q.1 ≤ 1477)) = true := rfl
noncomputable def tL_21 : List (Nat × xO) := [(1478, x_callV 7 0 1 FX9_finding), (1481, x_cmpeq 1523), (1484, x_push (.int (nI 0)) 1), (1485, x_iret), (1486, x_aload 1 1), (1487, x_aload 0 1), (1488, x_iload 3 1), (1489, x_push (.int (nI 1)) 1), (1490, x_ii (fun x y => x + y)), (1491, x_iald), (1492, x_callV 6 0 2 FX8_findings), (1495, x_aload 2 1), (1496, x_aload 0 1), (1497, x_iload 3 1), (1498, x_push (.int (nI 1)) 1), (1499, x_ii (fun x y => x + y)), (1500, x_iald), (1501, x_callV 7 0 2 FX9_findings), (1504, x_cmpeq 1523), (1507, x_push (.int (nI 0)) 1), (1508, x_iret), (1509, x_aload 1 1), (1510, x_callV 6 0 1 FX8_digest), (1513, x_aload 2 1), (1514, x_callV 7 0 1 FX9_digest), (1517, x_lcmp), (1518, x_ifeq 1523), (1521, x_push (.int (nI 0)) 1), (1522, x_iret), (1523, x_iinc 3 (nI 6)), (1526, x_goto 18), (1529, x_push (.int (nI 1)) 1), (1530, x_iret)]
set_option maxRecDepth 100000 in
theorem tL_21_ok (l : Launch) : ∀ q ∈ tL_21, xOK l cL_law RL 4 10 89 False q.1 q.2 := by
  unfold tL_21
  refine List.forall_mem_cons.mpr ⟨?_, List.forall_mem_cons.mpr ⟨?_, List.forall_mem_cons.mpr ⟨?_, List.forall_mem_cons.mpr ⟨?_, List.forall_mem_cons.mpr ⟨?_, List.forall_mem_cons.mpr ⟨?_, List.forall_mem_cons.mpr ⟨?_, List.forall_mem_cons.mpr ⟨?_, List.forall_mem_cons.mpr ⟨?_, List.forall_mem_cons.mpr ⟨?_, List.forall_mem_cons.mpr ⟨?_, List.forall_mem_cons.mpr ⟨?_, List.forall_mem_cons.mpr ⟨?_, List.forall_mem_cons.mpr ⟨?_, List.forall_mem_cons.mpr ⟨?_, List.forall_mem_cons.mpr ⟨?_, List.forall_mem_cons.mpr ⟨?_, List.forall_mem_cons.mpr ⟨?_, List.forall_mem_cons.mpr ⟨?_, List.forall_mem_cons.mpr ⟨?_, List.forall_mem_cons.mpr ⟨?_, List.forall_mem_cons.mpr ⟨?_, List.forall_mem_cons.mpr ⟨?_, List.forall_mem_cons.mpr ⟨?_, List.forall_mem_cons.mpr ⟨?_, List.forall_mem_cons.mpr ⟨?_, List.forall_mem_cons.mpr ⟨?_, List.forall_mem_cons.mpr ⟨?_, List.forall_mem_cons.mpr ⟨?_, List.forall_mem_cons.mpr ⟨?_, List.forall_mem_cons.mpr ⟨?_, List.forall_mem_cons.mpr ⟨?_, List.forall_mem_cons.mpr ⟨?_, fun _ h => absurd h List.not_mem_nil⟩⟩⟩⟩⟩⟩⟩⟩⟩⟩⟩⟩⟩⟩⟩⟩⟩⟩⟩⟩⟩⟩⟩⟩⟩⟩⟩⟩⟩⟩⟩⟩⟩
  · exact x_callV_ok (ci := 7) rfl (by decide) (sX9_finding l) hw_1313 hw_1310 hw_1311 hw_1312 hw_68 ⟨by decide, by decide, by decide +kernel⟩ rfl (by decide) (by decide) (show decode cL_law 1478 = .ok (.invokevirtual 195, 3) by decide +kernel)
  · exact x_cmpeq_ok (show decode cL_law 1481 = .ok (.if_icmp .eq 42, 3) by decide +kernel) (by decide)
  · exact x_iconst_ok (show decode cL_law 1484 = .ok (.iconst 0, 1) by decide +kernel) (by decide)
  · exact x_iret_ok (show decode cL_law 1485 = .ok (.ireturn, 1) by decide +kernel)
  · exact x_aload_n_ok (show decode cL_law 1486 = .ok (.aload_n 1, 1) by decide +kernel) rfl
  · exact x_aload_n_ok (show decode cL_law 1487 = .ok (.aload_n 0, 1) by decide +kernel) rfl
  · exact x_iload_n_ok (show decode cL_law 1488 = .ok (.iload_n 3, 1) by decide +kernel) rfl
  · exact x_iconst_ok (show decode cL_law 1489 = .ok (.iconst 1, 1) by decide +kernel) (by decide)
  · exact x_iadd_ok (show decode cL_law 1490 = .ok (.iadd, 1) by decide +kernel)
  · exact x_iald_ok (show decode cL_law 1491 = .ok (.iaload, 1) by decide +kernel)
  · exact x_callV_ok (ci := 6) rfl (by decide) (sX8_findings l) hw_820 hw_817 hw_818 hw_819 hw_61 ⟨by decide, by decide, by decide +kernel⟩ rfl (by decide) (by decide) (show decode cL_law 1492 = .ok (.invokevirtual 196, 3) by decide +kernel)
  · exact x_aload_n_ok (show decode cL_law 1495 = .ok (.aload_n 2, 1) by decide +kernel) rfl
  · exact x_aload_n_ok (show decode cL_law 1496 = .ok (.aload_n 0, 1) by decide +kernel) rfl
  · exact x_iload_n_ok (show decode cL_law 1497 = .ok (.iload_n 3, 1) by decide +kernel) rfl
  · exact x_iconst_ok (show decode cL_law 1498 = .ok (.iconst 1, 1) by decide +kernel) (by decide)
  · exact x_iadd_ok (show decode cL_law 1499 = .ok (.iadd, 1) by decide +kernel)
  · exact x_iald_ok (show decode cL_law 1500 = .ok (.iaload, 1) by decide +kernel)
  · exact x_callV_ok (ci := 7) rfl (by decide) (sX9_findings l) hw_1317 hw_1314 hw_1315 hw_1316 hw_68 ⟨by decide, by decide, by decide +kernel⟩ rfl (by decide) (by decide) (show decode cL_law 1501 = .ok (.invokevirtual 199, 3) by decide +kernel)
  · exact x_cmpeq_ok (show decode cL_law 1504 = .ok (.if_icmp .eq 19, 3) by decide +kernel) (by decide)
  · exact x_iconst_ok (show decode cL_law 1507 = .ok (.iconst 0, 1) by decide +kernel) (by decide)
  · exact x_iret_ok (show decode cL_law 1508 = .ok (.ireturn, 1) by decide +kernel)
  · exact x_aload_n_ok (show decode cL_law 1509 = .ok (.aload_n 1, 1) by decide +kernel) rfl
  · exact x_callV_ok (ci := 6) rfl (by decide) (sX8_digest l) hw_824 hw_821 hw_822 hw_823 hw_61 ⟨by decide, by decide, by decide +kernel⟩ rfl (by decide) (by decide) (show decode cL_law 1510 = .ok (.invokevirtual 200, 3) by decide +kernel)
  · exact x_aload_n_ok (show decode cL_law 1513 = .ok (.aload_n 2, 1) by decide +kernel) rfl
  · exact x_callV_ok (ci := 7) rfl (by decide) (sX9_digest l) hw_1321 hw_1318 hw_1319 hw_1320 hw_68 ⟨by decide, by decide, by decide +kernel⟩ rfl (by decide) (by decide) (show decode cL_law 1514 = .ok (.invokevirtual 203, 3) by decide +kernel)
  · exact x_lcmp_ok (show decode cL_law 1517 = .ok (.lcmp, 1) by decide +kernel)
  · exact x_ifeq_ok (show decode cL_law 1518 = .ok (.ifCond .eq 5, 3) by decide +kernel) (by decide)
  · exact x_iconst_ok (show decode cL_law 1521 = .ok (.iconst 0, 1) by decide +kernel) (by decide)
  · exact x_iret_ok (show decode cL_law 1522 = .ok (.ireturn, 1) by decide +kernel)
  · exact x_iinc_ok (show decode cL_law 1523 = .ok (.iinc 3 6, 3) by decide +kernel) (by decide) (by decide)
  · exact x_goto_ok (show decode cL_law 1526 = .ok (.goto (-1508), 3) by decide +kernel) (by decide)
  · exact x_iconst_ok (show decode cL_law 1529 = .ok (.iconst 1, 1) by decide +kernel) (by decide)
  · exact x_iret_ok (show decode cL_law 1530 = .ok (.ireturn, 1) by decide +kernel)
theorem tL_21_lo : tL_21.all (fun q => decide (1478 ≤ q.1) && decide (q.1 ≤ 1530)) = true := rfl
noncomputable def tL_law : List (Nat × xO) := tL_0 ++ (tL_1 ++ (tL_2 ++ (tL_3 ++ (tL_4 ++ (tL_5 ++ (tL_6 ++ (tL_7 ++ (tL_8 ++ (tL_9 ++ (tL_10 ++ (tL_11 ++ (tL_12 ++ (tL_13 ++ (tL_14 ++ (tL_15 ++ (tL_16 ++ (tL_17 ++ (tL_18 ++ (tL_19 ++ (tL_20 ++ (tL_21)))))))))))))))))))))
theorem tL_law_ok (l : Launch) : ∀ q ∈ tL_law, xOK l cL_law RL 4 10 89 False q.1 q.2 := List.forall_mem_append.mpr ⟨tL_0_ok l, List.forall_mem_append.mpr ⟨tL_1_ok l, List.forall_mem_append.mpr ⟨tL_2_ok l, List.forall_mem_append.mpr ⟨tL_3_ok l, List.forall_mem_append.mpr ⟨tL_4_ok l, List.forall_mem_append.mpr ⟨tL_5_ok l, List.forall_mem_append.mpr ⟨tL_6_ok l, List.forall_mem_append.mpr ⟨tL_7_ok l, List.forall_mem_append.mpr ⟨tL_8_ok l, List.forall_mem_append.mpr ⟨tL_9_ok l, List.forall_mem_append.mpr ⟨tL_10_ok l, List.forall_mem_append.mpr ⟨tL_11_ok l, List.forall_mem_append.mpr ⟨tL_12_ok l, List.forall_mem_append.mpr ⟨tL_13_ok l, List.forall_mem_append.mpr ⟨tL_14_ok l, List.forall_mem_append.mpr ⟨tL_15_ok l, List.forall_mem_append.mpr ⟨tL_16_ok l, List.forall_mem_append.mpr ⟨tL_17_ok l, List.forall_mem_append.mpr ⟨tL_18_ok l, List.forall_mem_append.mpr ⟨tL_19_ok l, List.forall_mem_append.mpr ⟨tL_20_ok l, tL_21_ok l⟩⟩⟩⟩⟩⟩⟩⟩⟩⟩⟩⟩⟩⟩⟩⟩⟩⟩⟩⟩⟩
