noncomputable section
theorem dX12_come_0 : decode cX12_come 0 = .ok (.bipush 24, 2) := by decide +kernel
theorem dX12_come_2 : decode cX12_come 2 = .ok (.istore_n 2, 1) := by decide +kernel
theorem dX12_come_3 : decode cX12_come 3 = .ok (.iload_n 2, 1) := by decide +kernel
theorem dX12_come_4 : decode cX12_come 4 = .ok (.ifCond .lt 35, 3) := by decide +kernel
theorem dX12_come_7 : decode cX12_come 7 = .ok (.aload_n 0, 1) := by decide +kernel
theorem dX12_come_8 : decode cX12_come 8 = .ok (.getfield 7, 3) := by decide +kernel
theorem dX12_come_11 : decode cX12_come 11 = .ok (.aload_n 0, 1) := by decide +kernel
theorem dX12_come_12 : decode cX12_come 12 = .ok (.getfield 11, 3) := by decide +kernel
theorem dX12_come_15 : decode cX12_come 15 = .ok (.iload_n 1, 1) := by decide +kernel
theorem dX12_come_16 : decode cX12_come 16 = .ok (.iload_n 2, 1) := by decide +kernel
theorem dX12_come_17 : decode cX12_come 17 = .ok (.iushr, 1) := by decide +kernel
theorem dX12_come_18 : decode cX12_come 18 = .ok (.sipush 255, 3) := by decide +kernel
theorem dX12_come_21 : decode cX12_come 21 = .ok (.iand, 1) := by decide +kernel
theorem dX12_come_22 : decode cX12_come 22 = .ok (.iastore, 1) := by decide +kernel
theorem dX12_come_23 : decode cX12_come 23 = .ok (.aload_n 0, 1) := by decide +kernel
theorem dX12_come_24 : decode cX12_come 24 = .ok (.dup, 1) := by decide +kernel
theorem dX12_come_25 : decode cX12_come 25 = .ok (.getfield 11, 3) := by decide +kernel
theorem dX12_come_28 : decode cX12_come 28 = .ok (.iconst 1, 1) := by decide +kernel
theorem dX12_come_29 : decode cX12_come 29 = .ok (.iadd, 1) := by decide +kernel
theorem dX12_come_30 : decode cX12_come 30 = .ok (.putfield 11, 3) := by decide +kernel
theorem dX12_come_33 : decode cX12_come 33 = .ok (.iinc 2 (-8), 3) := by decide +kernel
theorem dX12_come_36 : decode cX12_come 36 = .ok (.goto (-33), 3) := by decide +kernel
theorem dX12_come_39 : decode cX12_come 39 = .ok (.return_, 1) := by decide +kernel
def tX12_come (kn : sKn) : List (Nat × sA) := [(0, a_stk (q_int 24) 2), (2, a_istore 2 3), (3, a_iload 2 4), (4, a_if kn b_lt 2 39 7), (7, a_aload 0 8), (8, a_get 13 1 11), (11, a_aload 0 12), (12, a_get 13 2 15), (15, a_iload 1 16), (16, a_iload 2 17), (17, a_stk q_iushr 18), (18, a_stk (q_int 255) 21), (21, a_stk q_iand 22), (22, a_iast 23), (23, a_aload 0 24), (24, a_stk q_dup 25), (25, a_get 13 2 28), (28, a_stk (q_int 1) 29), (29, a_stk q_iadd 30), (30, a_put 13 2 ckI 33), (33, a_iinc 2 (-8) 36), (36, a_goto 3), (39, a_vret)]
def fX12_come (kn : sKn) : List Value → sW → Option sR := fW (tX12_come kn) 3
set_option maxRecDepth 100000 in
set_option maxHeartbeats 4000000 in
theorem mX12_come (kn : sKn) : mM kn yX12_come (Cond.code yX12_come cX12_come 3 none :: wsL_law) 1 true (fX12_come kn) := mM_W (fun n => mM_of (own := RX12) (ini := false) rfl (by decide +kernel) (by decide +kernel) (all_c (ok_stk (s_bipush dX12_come_0 (by decide))) (all_c (ok_istore_n dX12_come_2 rfl (by decide)) (all_c (ok_iload_n dX12_come_3 rfl) (all_c (ok_if_lt dX12_come_4 (by decide)) (all_c (ok_aload_n dX12_come_7 rfl) (all_c (okg_X12_1 kw1153 dX12_come_8) (all_c (ok_aload_n dX12_come_11 rfl) (all_c (okg_X12_2 kw1171 dX12_come_12) (all_c (ok_iload_n dX12_come_15 rfl) (all_c (ok_iload_n dX12_come_16 rfl) (all_c (ok_stk (s_iushr dX12_come_17)) (all_c (ok_stk (s_sipush dX12_come_18 (by decide))) (all_c (ok_stk (s_iand dX12_come_21)) (all_c (ok_iast dX12_come_22) (all_c (ok_aload_n dX12_come_23 rfl) (all_c (ok_stk (s_dup dX12_come_24)) (all_c (okg_X12_2 kw1171 dX12_come_25) (all_c (ok_stk (s_iconst dX12_come_28 (by decide))) (all_c (ok_stk (s_iadd dX12_come_29)) (all_c (okp_X12_2 kw1171 dX12_come_30) (all_c (ok_iinc dX12_come_33 (by decide) (by decide)) (all_c (ok_goto dX12_come_36 (by decide)) (all_c (ok_vret dX12_come_39) all_n))))))))))))))))))))))) n (fun h => by first | rfl | cases h))
theorem dX12_count_0 : decode cX12_count 0 = .ok (.aload_n 0, 1) := by decide +kernel
theorem dX12_count_1 : decode cX12_count 1 = .ok (.iconst 0, 1) := by decide +kernel
theorem dX12_count_2 : decode cX12_count 2 = .ok (.putfield 1, 3) := by decide +kernel
theorem dX12_count_5 : decode cX12_count 5 = .ok (.iload_n 1, 1) := by decide +kernel
theorem dX12_count_6 : decode cX12_count 6 = .ok (.tableswitch 78 0 5 #[38, 45, 52, 59, 66, 73], 38) := by decide +kernel
theorem dX12_count_44 : decode cX12_count 44 = .ok (.aload_n 0, 1) := by decide +kernel
theorem dX12_count_45 : decode cX12_count 45 = .ok (.getfield 98, 3) := by decide +kernel
theorem dX12_count_48 : decode cX12_count 48 = .ok (.iconst 0, 1) := by decide +kernel
theorem dX12_count_49 : decode cX12_count 49 = .ok (.iaload, 1) := by decide +kernel
theorem dX12_count_50 : decode cX12_count 50 = .ok (.ireturn, 1) := by decide +kernel
theorem dX12_count_51 : decode cX12_count 51 = .ok (.aload_n 0, 1) := by decide +kernel
theorem dX12_count_52 : decode cX12_count 52 = .ok (.getfield 98, 3) := by decide +kernel
theorem dX12_count_55 : decode cX12_count 55 = .ok (.iconst 1, 1) := by decide +kernel
theorem dX12_count_56 : decode cX12_count 56 = .ok (.iaload, 1) := by decide +kernel
theorem dX12_count_57 : decode cX12_count 57 = .ok (.ireturn, 1) := by decide +kernel
theorem dX12_count_58 : decode cX12_count 58 = .ok (.aload_n 0, 1) := by decide +kernel
theorem dX12_count_59 : decode cX12_count 59 = .ok (.getfield 98, 3) := by decide +kernel
theorem dX12_count_62 : decode cX12_count 62 = .ok (.iconst 2, 1) := by decide +kernel
theorem dX12_count_63 : decode cX12_count 63 = .ok (.iaload, 1) := by decide +kernel
theorem dX12_count_64 : decode cX12_count 64 = .ok (.ireturn, 1) := by decide +kernel
theorem dX12_count_65 : decode cX12_count 65 = .ok (.aload_n 0, 1) := by decide +kernel
theorem dX12_count_66 : decode cX12_count 66 = .ok (.getfield 98, 3) := by decide +kernel
theorem dX12_count_69 : decode cX12_count 69 = .ok (.iconst 3, 1) := by decide +kernel
theorem dX12_count_70 : decode cX12_count 70 = .ok (.iaload, 1) := by decide +kernel
theorem dX12_count_71 : decode cX12_count 71 = .ok (.ireturn, 1) := by decide +kernel
theorem dX12_count_72 : decode cX12_count 72 = .ok (.aload_n 0, 1) := by decide +kernel
theorem dX12_count_73 : decode cX12_count 73 = .ok (.getfield 98, 3) := by decide +kernel
theorem dX12_count_76 : decode cX12_count 76 = .ok (.iconst 4, 1) := by decide +kernel
theorem dX12_count_77 : decode cX12_count 77 = .ok (.iaload, 1) := by decide +kernel
theorem dX12_count_78 : decode cX12_count 78 = .ok (.ireturn, 1) := by decide +kernel
theorem dX12_count_79 : decode cX12_count 79 = .ok (.aload_n 0, 1) := by decide +kernel
theorem dX12_count_80 : decode cX12_count 80 = .ok (.getfield 11, 3) := by decide +kernel
theorem dX12_count_83 : decode cX12_count 83 = .ok (.ireturn, 1) := by decide +kernel
theorem dX12_count_84 : decode cX12_count 84 = .ok (.iconst (-1), 1) := by decide +kernel
theorem dX12_count_85 : decode cX12_count 85 = .ok (.ireturn, 1) := by decide +kernel
def tX12_count (kn : sKn) : List (Nat × sA) := [(0, a_aload 0 1), (1, a_stk (q_int 0) 2), (2, a_put 13 0 ckI 5), (5, a_iload 1 6), (6, a_table kn 0 5 [44, 51, 58, 65, 72, 79] 84), (44, a_aload 0 45), (45, a_get 13 14 48), (48, a_stk (q_int 0) 49), (49, a_iald 50), (50, a_iret), (51, a_aload 0 52), (52, a_get 13 14 55), (55, a_stk (q_int 1) 56), (56, a_iald 57), (57, a_iret), (58, a_aload 0 59), (59, a_get 13 14 62), (62, a_stk (q_int 2) 63), (63, a_iald 64), (64, a_iret), (65, a_aload 0 66), (66, a_get 13 14 69), (69, a_stk (q_int 3) 70), (70, a_iald 71), (71, a_iret), (72, a_aload 0 73), (73, a_get 13 14 76), (76, a_stk (q_int 4) 77), (77, a_iald 78), (78, a_iret), (79, a_aload 0 80), (80, a_get 13 2 83), (83, a_iret), (84, a_stk (q_int (-1)) 85), (85, a_iret)]
def fX12_count (kn : sKn) : List Value → sW → Option sR := fW (tX12_count kn) 2
set_option maxRecDepth 100000 in
set_option maxHeartbeats 4000000 in
theorem mX12_count (kn : sKn) : mM kn yX12_count (Cond.code yX12_count cX12_count 2 (some .int) :: wsL_law) 1 false (fX12_count kn) := mM_W (fun n => mM_of (own := RX12) (ini := false) rfl (by decide +kernel) (by decide +kernel) (all_c (ok_aload_n dX12_count_0 rfl) (all_c (ok_stk (s_iconst dX12_count_1 (by decide))) (all_c (okp_X12_0 kw1114 dX12_count_2) (all_c (ok_iload_n dX12_count_5 rfl) (all_c (ok_table dX12_count_6 (by decide) (by decide) (by decide) (by decide)) (all_c (ok_aload_n dX12_count_44 rfl) (all_c (okg_X12_14 kw1069 dX12_count_45) (all_c (ok_stk (s_iconst dX12_count_48 (by decide))) (all_c (ok_iald dX12_count_49) (all_c (ok_iret dX12_count_50) (all_c (ok_aload_n dX12_count_51 rfl) (all_c (okg_X12_14 kw1069 dX12_count_52) (all_c (ok_stk (s_iconst dX12_count_55 (by decide))) (all_c (ok_iald dX12_count_56) (all_c (ok_iret dX12_count_57) (all_c (ok_aload_n dX12_count_58 rfl) (all_c (okg_X12_14 kw1069 dX12_count_59) (all_c (ok_stk (s_iconst dX12_count_62 (by decide))) (all_c (ok_iald dX12_count_63) (all_c (ok_iret dX12_count_64) (all_c (ok_aload_n dX12_count_65 rfl) (all_c (okg_X12_14 kw1069 dX12_count_66) (all_c (ok_stk (s_iconst dX12_count_69 (by decide))) (all_c (ok_iald dX12_count_70) (all_c (ok_iret dX12_count_71) (all_c (ok_aload_n dX12_count_72 rfl) (all_c (okg_X12_14 kw1069 dX12_count_73) (all_c (ok_stk (s_iconst dX12_count_76 (by decide))) (all_c (ok_iald dX12_count_77) (all_c (ok_iret dX12_count_78) (all_c (ok_aload_n dX12_count_79 rfl) (all_c (okg_X12_2 kw1171 dX12_count_80) (all_c (ok_iret dX12_count_83) (all_c (ok_stk (s_iconst dX12_count_84 (by decide))) (all_c (ok_iret dX12_count_85) all_n))))))))))))))))))))))))))))))))))) n (fun h => by first | rfl | cases h))
theorem dX12_cross_0 : decode cX12_cross 0 = .ok (.aload_n 0, 1) := by decide +kernel
theorem dX12_cross_1 : decode cX12_cross 1 = .ok (.iconst 0, 1) := by decide +kernel
theorem dX12_cross_2 : decode cX12_cross 2 = .ok (.putfield 1, 3) := by decide +kernel
theorem dX12_cross_5 : decode cX12_cross 5 = .ok (.aload_n 0, 1) := by decide +kernel
theorem dX12_cross_6 : decode cX12_cross 6 = .ok (.iload_n 1, 1) := by decide +kernel
theorem dX12_cross_7 : decode cX12_cross 7 = .ok (.invokevirtual 295, 3) := by decide +kernel
theorem dX12_cross_10 : decode cX12_cross 10 = .ok (.ifCond .ne 5, 3) := by decide +kernel
theorem dX12_cross_13 : decode cX12_cross 13 = .ok (.iconst (-1), 1) := by decide +kernel
theorem dX12_cross_14 : decode cX12_cross 14 = .ok (.ireturn, 1) := by decide +kernel
theorem dX12_cross_15 : decode cX12_cross 15 = .ok (.aload_n 0, 1) := by decide +kernel
theorem dX12_cross_16 : decode cX12_cross 16 = .ok (.getfield 98, 3) := by decide +kernel
theorem dX12_cross_19 : decode cX12_cross 19 = .ok (.bipush 96, 2) := by decide +kernel
theorem dX12_cross_21 : decode cX12_cross 21 = .ok (.iaload, 1) := by decide +kernel
theorem dX12_cross_22 : decode cX12_cross 22 = .ok (.iload_n 1, 1) := by decide +kernel
theorem dX12_cross_23 : decode cX12_cross 23 = .ok (.invokestatic 225, 3) := by decide +kernel
theorem dX12_cross_26 : decode cX12_cross 26 = .ok (.ifCond .eq 5, 3) := by decide +kernel
theorem dX12_cross_29 : decode cX12_cross 29 = .ok (.iconst 1, 1) := by decide +kernel
theorem dX12_cross_30 : decode cX12_cross 30 = .ok (.ireturn, 1) := by decide +kernel
theorem dX12_cross_31 : decode cX12_cross 31 = .ok (.aload_n 0, 1) := by decide +kernel
theorem dX12_cross_32 : decode cX12_cross 32 = .ok (.invokevirtual 343, 3) := by decide +kernel
theorem dX12_cross_35 : decode cX12_cross 35 = .ok (.aload_n 0, 1) := by decide +kernel
theorem dX12_cross_36 : decode cX12_cross 36 = .ok (.iload_n 1, 1) := by decide +kernel
theorem dX12_cross_37 : decode cX12_cross 37 = .ok (.invokevirtual 358, 3) := by decide +kernel
theorem dX12_cross_40 : decode cX12_cross 40 = .ok (.ireturn, 1) := by decide +kernel
def tX12_cross (kn : sKn) : List (Nat × sA) := [(0, a_aload 0 1), (1, a_stk (q_int 0) 2), (2, a_put 13 0 ckI 5), (5, a_aload 0 6), (6, a_iload 1 7), (7, a_callV false (fX12_isLoad kn) 13 2 10), (10, a_if kn b_ne 1 15 13), (13, a_stk (q_int (-1)) 14), (14, a_iret), (15, a_aload 0 16), (16, a_get 13 14 19), (19, a_stk (q_int 96) 21), (21, a_iald 22), (22, a_iload 1 23), (23, a_callS false (fX12_has kn) 2 26), (26, a_if kn b_eq 0 31 29), (29, a_stk (q_int 1) 30), (30, a_iret), (31, a_aload 0 32), (32, a_callV true (fX12_snap kn) 13 1 35), (35, a_aload 0 36), (36, a_iload 1 37), (37, a_callV false (fX12_doCross kn) 13 2 40), (40, a_iret)]
def fX12_cross (kn : sKn) : List Value → sW → Option sR := fW (tX12_cross kn) 2
set_option maxRecDepth 100000 in
set_option maxHeartbeats 4000000 in
theorem mX12_cross (kn : sKn) : mM kn yX12_cross (Cond.code yX12_cross cX12_cross 2 (some .int) :: wsL_law) 10 false (fX12_cross kn) := mM_W (fun n => mM_of (own := RX12) (ini := false) rfl (by decide +kernel) (by decide +kernel) (all_c (ok_aload_n dX12_cross_0 rfl) (all_c (ok_stk (s_iconst dX12_cross_1 (by decide))) (all_c (okp_X12_0 kw1114 dX12_cross_2) (all_c (ok_aload_n dX12_cross_5 rfl) (all_c (ok_iload_n dX12_cross_6 rfl) (all_c (okc_X12_isLoad (by decide) kw1142 dX12_cross_7) (all_c (ok_if_ne dX12_cross_10 (by decide)) (all_c (ok_stk (s_iconst dX12_cross_13 (by decide))) (all_c (ok_iret dX12_cross_14) (all_c (ok_aload_n dX12_cross_15 rfl) (all_c (okg_X12_14 kw1069 dX12_cross_16) (all_c (ok_stk (s_bipush dX12_cross_19 (by decide))) (all_c (ok_iald dX12_cross_21) (all_c (ok_iload_n dX12_cross_22 rfl) (all_c (okc_X12_has (by decide) kw1077 dX12_cross_23) (all_c (ok_if_eq dX12_cross_26 (by decide)) (all_c (ok_stk (s_iconst dX12_cross_29 (by decide))) (all_c (ok_iret dX12_cross_30) (all_c (ok_aload_n dX12_cross_31 rfl) (all_c (okc_X12_snap (by decide) kw1291 dX12_cross_32) (all_c (ok_aload_n dX12_cross_35 rfl) (all_c (ok_iload_n dX12_cross_36 rfl) (all_c (okc_X12_doCross (by decide) kw1229 dX12_cross_37) (all_c (ok_iret dX12_cross_40) all_n)))))))))))))))))))))))) n (fun h => by first | rfl | cases h))
theorem dX12_cut_0 : decode cX12_cut 0 = .ok (.aload_n 0, 1) := by decide +kernel
theorem dX12_cut_1 : decode cX12_cut 1 = .ok (.iconst 0, 1) := by decide +kernel
theorem dX12_cut_2 : decode cX12_cut 2 = .ok (.putfield 1, 3) := by decide +kernel
theorem dX12_cut_5 : decode cX12_cut 5 = .ok (.aload_n 0, 1) := by decide +kernel
theorem dX12_cut_6 : decode cX12_cut 6 = .ok (.iload_n 1, 1) := by decide +kernel
theorem dX12_cut_7 : decode cX12_cut 7 = .ok (.invokevirtual 295, 3) := by decide +kernel
theorem dX12_cut_10 : decode cX12_cut 10 = .ok (.ifCond .ne 5, 3) := by decide +kernel
theorem dX12_cut_13 : decode cX12_cut 13 = .ok (.iconst (-1), 1) := by decide +kernel
theorem dX12_cut_14 : decode cX12_cut 14 = .ok (.ireturn, 1) := by decide +kernel
theorem dX12_cut_15 : decode cX12_cut 15 = .ok (.aload_n 0, 1) := by decide +kernel
theorem dX12_cut_16 : decode cX12_cut 16 = .ok (.invokevirtual 292, 3) := by decide +kernel
theorem dX12_cut_19 : decode cX12_cut 19 = .ok (.iconst 0, 1) := by decide +kernel
theorem dX12_cut_20 : decode cX12_cut 20 = .ok (.istore_n 2, 1) := by decide +kernel
theorem dX12_cut_21 : decode cX12_cut 21 = .ok (.iload_n 2, 1) := by decide +kernel
theorem dX12_cut_22 : decode cX12_cut 22 = .ok (.iconst 3, 1) := by decide +kernel
theorem dX12_cut_23 : decode cX12_cut 23 = .ok (.if_icmp .gt 55, 3) := by decide +kernel
theorem dX12_cut_26 : decode cX12_cut 26 = .ok (.aload_n 0, 1) := by decide +kernel
theorem dX12_cut_27 : decode cX12_cut 27 = .ok (.iload_n 1, 1) := by decide +kernel
theorem dX12_cut_28 : decode cX12_cut 28 = .ok (.iconst 0, 1) := by decide +kernel
theorem dX12_cut_29 : decode cX12_cut 29 = .ok (.iload_n 2, 1) := by decide +kernel
theorem dX12_cut_30 : decode cX12_cut 30 = .ok (.iconst 0, 1) := by decide +kernel
theorem dX12_cut_31 : decode cX12_cut 31 = .ok (.invokevirtual 386, 3) := by decide +kernel
theorem dX12_cut_34 : decode cX12_cut 34 = .ok (.ifCond .ne 6, 3) := by decide +kernel
theorem dX12_cut_37 : decode cX12_cut 37 = .ok (.goto 35, 3) := by decide +kernel
theorem dX12_cut_40 : decode cX12_cut 40 = .ok (.aload_n 0, 1) := by decide +kernel
theorem dX12_cut_41 : decode cX12_cut 41 = .ok (.iload_n 2, 1) := by decide +kernel
theorem dX12_cut_42 : decode cX12_cut 42 = .ok (.putfield 390, 3) := by decide +kernel
theorem dX12_cut_45 : decode cX12_cut 45 = .ok (.iconst 0, 1) := by decide +kernel
theorem dX12_cut_46 : decode cX12_cut 46 = .ok (.istore_n 3, 1) := by decide +kernel
theorem dX12_cut_47 : decode cX12_cut 47 = .ok (.iload_n 3, 1) := by decide +kernel
theorem dX12_cut_48 : decode cX12_cut 48 = .ok (.iconst 3, 1) := by decide +kernel
theorem dX12_cut_49 : decode cX12_cut 49 = .ok (.if_icmp .ge 21, 3) := by decide +kernel
theorem dX12_cut_52 : decode cX12_cut 52 = .ok (.aload_n 0, 1) := by decide +kernel
theorem dX12_cut_53 : decode cX12_cut 53 = .ok (.getfield 151, 3) := by decide +kernel
theorem dX12_cut_56 : decode cX12_cut 56 = .ok (.iload_n 3, 1) := by decide +kernel
theorem dX12_cut_57 : decode cX12_cut 57 = .ok (.aload_n 0, 1) := by decide +kernel
theorem dX12_cut_58 : decode cX12_cut 58 = .ok (.getfield 148, 3) := by decide +kernel
theorem dX12_cut_61 : decode cX12_cut 61 = .ok (.iload_n 3, 1) := by decide +kernel
theorem dX12_cut_62 : decode cX12_cut 62 = .ok (.iaload, 1) := by decide +kernel
theorem dX12_cut_63 : decode cX12_cut 63 = .ok (.iastore, 1) := by decide +kernel
theorem dX12_cut_64 : decode cX12_cut 64 = .ok (.iinc 3 1, 3) := by decide +kernel
theorem dX12_cut_67 : decode cX12_cut 67 = .ok (.goto (-20), 3) := by decide +kernel
theorem dX12_cut_70 : decode cX12_cut 70 = .ok (.iload_n 2, 1) := by decide +kernel
theorem dX12_cut_71 : decode cX12_cut 71 = .ok (.ireturn, 1) := by decide +kernel
theorem dX12_cut_72 : decode cX12_cut 72 = .ok (.iinc 2 1, 3) := by decide +kernel
theorem dX12_cut_75 : decode cX12_cut 75 = .ok (.goto (-54), 3) := by decide +kernel
theorem dX12_cut_78 : decode cX12_cut 78 = .ok (.iconst (-1), 1) := by decide +kernel
theorem dX12_cut_79 : decode cX12_cut 79 = .ok (.ireturn, 1) := by decide +kernel
theorem okc_X12_canCut {kn : sKn} {cc : ByteArray} {own : String} {nL : Nat} {D : Nat} {ret : Option FieldType} {ini : Bool} {pc index : Nat} (hD : 45 + 1 ≤ D) (hl : Cond.methodLink own index yX12_canCut ∈ wsL_law) (hd : decode cc pc = .ok (.invokevirtual index, 3)) : mOk kn cc own nL wsL_law D ret ini pc (a_callV false (fX12_canCut kn) 13 (4 + 1) (pc + 3)) := ok_callV (mX12_canCut kn) (good_ws ws_good (fun _ h => h) kw1404) hD (by decide) hl kw1402 kw1403 kw1072 ⟨by decide +kernel, by decide +kernel, by decide +kernel⟩ rfl hd
def tX12_cut (kn : sKn) : List (Nat × sA) := [(0, a_aload 0 1), (1, a_stk (q_int 0) 2), (2, a_put 13 0 ckI 5), (5, a_aload 0 6), (6, a_iload 1 7), (7, a_callV false (fX12_isLoad kn) 13 2 10), (10, a_if kn b_ne 1 15 13), (13, a_stk (q_int (-1)) 14), (14, a_iret), (15, a_aload 0 16), (16, a_callV true (fX12_layWhose kn) 13 1 19), (19, a_stk (q_int 0) 20), (20, a_istore 2 21), (21, a_iload 2 22), (22, a_stk (q_int 3) 23), (23, a_icmp kn b_gt 4 78 26), (26, a_aload 0 27), (27, a_iload 1 28), (28, a_stk (q_int 0) 29), (29, a_iload 2 30), (30, a_stk (q_int 0) 31), (31, a_callV false (fX12_canCut kn) 13 5 34), (34, a_if kn b_ne 1 40 37), (37, a_goto 72), (40, a_aload 0 41), (41, a_iload 2 42), (42, a_put 13 39 ckI 45), (45, a_stk (q_int 0) 46), (46, a_istore 3 47), (47, a_iload 3 48), (48, a_stk (q_int 3) 49), (49, a_icmp kn b_ge 3 70 52), (52, a_aload 0 53), (53, a_get 13 38 56), (56, a_iload 3 57), (57, a_aload 0 58), (58, a_get 13 37 61), (61, a_iload 3 62), (62, a_iald 63), (63, a_iast 64), (64, a_iinc 3 1 67), (67, a_goto 47), (70, a_iload 2 71), (71, a_iret), (72, a_iinc 2 1 75), (75, a_goto 21), (78, a_stk (q_int (-1)) 79), (79, a_iret)]
def fX12_cut (kn : sKn) : List Value → sW → Option sR := fW (tX12_cut kn) 4
set_option maxRecDepth 100000 in
set_option maxHeartbeats 4000000 in
theorem mX12_cut (kn : sKn) : mM kn yX12_cut (Cond.code yX12_cut cX12_cut 4 (some .int) :: wsL_law) 46 false (fX12_cut kn) := mM_W (fun n => mM_of (own := RX12) (ini := false) rfl (by decide +kernel) (by decide +kernel) (all_c (ok_aload_n dX12_cut_0 rfl) (all_c (ok_stk (s_iconst dX12_cut_1 (by decide))) (all_c (okp_X12_0 kw1114 dX12_cut_2) (all_c (ok_aload_n dX12_cut_5 rfl) (all_c (ok_iload_n dX12_cut_6 rfl) (all_c (okc_X12_isLoad (by decide) kw1142 dX12_cut_7) (all_c (ok_if_ne dX12_cut_10 (by decide)) (all_c (ok_stk (s_iconst dX12_cut_13 (by decide))) (all_c (ok_iret dX12_cut_14) (all_c (ok_aload_n dX12_cut_15 rfl) (all_c (okc_X12_layWhose (by decide) kw1118 dX12_cut_16) (all_c (ok_stk (s_iconst dX12_cut_19 (by decide))) (all_c (ok_istore_n dX12_cut_20 rfl (by decide)) (all_c (ok_iload_n dX12_cut_21 rfl) (all_c (ok_stk (s_iconst dX12_cut_22 (by decide))) (all_c (ok_icmp_gt dX12_cut_23 (by decide)) (all_c (ok_aload_n dX12_cut_26 rfl) (all_c (ok_iload_n dX12_cut_27 rfl) (all_c (ok_stk (s_iconst dX12_cut_28 (by decide))) (all_c (ok_iload_n dX12_cut_29 rfl) (all_c (ok_stk (s_iconst dX12_cut_30 (by decide))) (all_c (okc_X12_canCut (by decide) kw1405 dX12_cut_31) (all_c (ok_if_ne dX12_cut_34 (by decide)) (all_c (ok_goto dX12_cut_37 (by decide)) (all_c (ok_aload_n dX12_cut_40 rfl) (all_c (ok_iload_n dX12_cut_41 rfl) (all_c (okp_X12_39 kw1406 dX12_cut_42) (all_c (ok_stk (s_iconst dX12_cut_45 (by decide))) (all_c (ok_istore_n dX12_cut_46 rfl (by decide)) (all_c (ok_iload_n dX12_cut_47 rfl) (all_c (ok_stk (s_iconst dX12_cut_48 (by decide))) (all_c (ok_icmp_ge dX12_cut_49 (by decide)) (all_c (ok_aload_n dX12_cut_52 rfl) (all_c (okg_X12_38 kw1407 dX12_cut_53) (all_c (ok_iload_n dX12_cut_56 rfl) (all_c (ok_aload_n dX12_cut_57 rfl) (all_c (okg_X12_37 kw1401 dX12_cut_58) (all_c (ok_iload_n dX12_cut_61 rfl) (all_c (ok_iald dX12_cut_62) (all_c (ok_iast dX12_cut_63) (all_c (ok_iinc dX12_cut_64 (by decide) (by decide)) (all_c (ok_goto dX12_cut_67 (by decide)) (all_c (ok_iload_n dX12_cut_70 rfl) (all_c (ok_iret dX12_cut_71) (all_c (ok_iinc dX12_cut_72 (by decide) (by decide)) (all_c (ok_goto dX12_cut_75 (by decide)) (all_c (ok_stk (s_iconst dX12_cut_78 (by decide))) (all_c (ok_iret dX12_cut_79) all_n)))))))))))))))))))))))))))))))))))))))))))))))) n (fun h => by first | rfl | cases h))
theorem dX12_cutAt_0 : decode cX12_cutAt 0 = .ok (.aload_n 0, 1) := by decide +kernel
theorem dX12_cutAt_1 : decode cX12_cutAt 1 = .ok (.iconst 0, 1) := by decide +kernel
theorem dX12_cutAt_2 : decode cX12_cutAt 2 = .ok (.putfield 1, 3) := by decide +kernel
theorem dX12_cutAt_5 : decode cX12_cutAt 5 = .ok (.iload_n 1, 1) := by decide +kernel
theorem dX12_cutAt_6 : decode cX12_cutAt 6 = .ok (.iconst 0, 1) := by decide +kernel
theorem dX12_cutAt_7 : decode cX12_cutAt 7 = .ok (.aload_n 0, 1) := by decide +kernel
theorem dX12_cutAt_8 : decode cX12_cutAt 8 = .ok (.getfield 390, 3) := by decide +kernel
theorem dX12_cutAt_11 : decode cX12_cutAt 11 = .ok (.iconst 1, 1) := by decide +kernel
theorem dX12_cutAt_12 : decode cX12_cutAt 12 = .ok (.isub, 1) := by decide +kernel
theorem dX12_cutAt_13 : decode cX12_cutAt 13 = .ok (.invokestatic 75, 3) := by decide +kernel
theorem dX12_cutAt_16 : decode cX12_cutAt 16 = .ok (.ifCond .eq 12, 3) := by decide +kernel
theorem dX12_cutAt_19 : decode cX12_cutAt 19 = .ok (.aload_n 0, 1) := by decide +kernel
theorem dX12_cutAt_20 : decode cX12_cutAt 20 = .ok (.getfield 151, 3) := by decide +kernel
theorem dX12_cutAt_23 : decode cX12_cutAt 23 = .ok (.iload_n 1, 1) := by decide +kernel
theorem dX12_cutAt_24 : decode cX12_cutAt 24 = .ok (.iaload, 1) := by decide +kernel
theorem dX12_cutAt_25 : decode cX12_cutAt 25 = .ok (.goto 4, 3) := by decide +kernel
theorem dX12_cutAt_28 : decode cX12_cutAt 28 = .ok (.iconst (-1), 1) := by decide +kernel
theorem dX12_cutAt_29 : decode cX12_cutAt 29 = .ok (.ireturn, 1) := by decide +kernel
def tX12_cutAt (kn : sKn) : List (Nat × sA) := [(0, a_aload 0 1), (1, a_stk (q_int 0) 2), (2, a_put 13 0 ckI 5), (5, a_iload 1 6), (6, a_stk (q_int 0) 7), (7, a_aload 0 8), (8, a_get 13 39 11), (11, a_stk (q_int 1) 12), (12, a_stk q_isub 13), (13, a_callS false (fX12_isIn kn) 3 16), (16, a_if kn b_eq 0 28 19), (19, a_aload 0 20), (20, a_get 13 38 23), (23, a_iload 1 24), (24, a_iald 25), (25, a_goto 29), (28, a_stk (q_int (-1)) 29), (29, a_iret)]
def fX12_cutAt (kn : sKn) : List Value → sW → Option sR := fW (tX12_cutAt kn) 2
set_option maxRecDepth 100000 in
set_option maxHeartbeats 4000000 in
theorem mX12_cutAt (kn : sKn) : mM kn yX12_cutAt (Cond.code yX12_cutAt cX12_cutAt 2 (some .int) :: wsL_law) 2 false (fX12_cutAt kn) := mM_W (fun n => mM_of (own := RX12) (ini := false) rfl (by decide +kernel) (by decide +kernel) (all_c (ok_aload_n dX12_cutAt_0 rfl) (all_c (ok_stk (s_iconst dX12_cutAt_1 (by decide))) (all_c (okp_X12_0 kw1114 dX12_cutAt_2) (all_c (ok_iload_n dX12_cutAt_5 rfl) (all_c (ok_stk (s_iconst dX12_cutAt_6 (by decide))) (all_c (ok_aload_n dX12_cutAt_7 rfl) (all_c (okg_X12_39 kw1406 dX12_cutAt_8) (all_c (ok_stk (s_iconst dX12_cutAt_11 (by decide))) (all_c (ok_stk (s_isub dX12_cutAt_12)) (all_c (okc_X12_isIn (by decide) kw1126 dX12_cutAt_13) (all_c (ok_if_eq dX12_cutAt_16 (by decide)) (all_c (ok_aload_n dX12_cutAt_19 rfl) (all_c (okg_X12_38 kw1407 dX12_cutAt_20) (all_c (ok_iload_n dX12_cutAt_23 rfl) (all_c (ok_iald dX12_cutAt_24) (all_c (ok_goto dX12_cutAt_25 (by decide)) (all_c (ok_stk (s_iconst dX12_cutAt_28 (by decide))) (all_c (ok_iret dX12_cutAt_29) all_n)))))))))))))))))) n (fun h => by first | rfl | cases h))
theorem dX12_days_0 : decode cX12_days 0 = .ok (.aload_n 0, 1) := by decide +kernel
theorem dX12_days_1 : decode cX12_days 1 = .ok (.iconst 0, 1) := by decide +kernel
theorem dX12_days_2 : decode cX12_days 2 = .ok (.putfield 1, 3) := by decide +kernel
theorem dX12_days_5 : decode cX12_days 5 = .ok (.iload_n 1, 1) := by decide +kernel
theorem dX12_days_6 : decode cX12_days 6 = .ok (.iconst 1, 1) := by decide +kernel
theorem dX12_days_7 : decode cX12_days 7 = .ok (.bipush 60, 2) := by decide +kernel
theorem dX12_days_9 : decode cX12_days 9 = .ok (.invokestatic 75, 3) := by decide +kernel
theorem dX12_days_12 : decode cX12_days 12 = .ok (.ifCond .ne 5, 3) := by decide +kernel
theorem dX12_days_15 : decode cX12_days 15 = .ok (.iconst (-1), 1) := by decide +kernel
theorem dX12_days_16 : decode cX12_days 16 = .ok (.ireturn, 1) := by decide +kernel
theorem dX12_days_17 : decode cX12_days 17 = .ok (.aload_n 0, 1) := by decide +kernel
theorem dX12_days_18 : decode cX12_days 18 = .ok (.getfield 98, 3) := by decide +kernel
theorem dX12_days_21 : decode cX12_days 21 = .ok (.bipush 94, 2) := by decide +kernel
theorem dX12_days_23 : decode cX12_days 23 = .ok (.iaload, 1) := by decide +kernel
theorem dX12_days_24 : decode cX12_days 24 = .ok (.sipush 400, 3) := by decide +kernel
theorem dX12_days_27 : decode cX12_days 27 = .ok (.if_icmp .ne 5, 3) := by decide +kernel
theorem dX12_days_30 : decode cX12_days 30 = .ok (.iconst 0, 1) := by decide +kernel
theorem dX12_days_31 : decode cX12_days 31 = .ok (.ireturn, 1) := by decide +kernel
theorem dX12_days_32 : decode cX12_days 32 = .ok (.aload_n 0, 1) := by decide +kernel
theorem dX12_days_33 : decode cX12_days 33 = .ok (.invokevirtual 343, 3) := by decide +kernel
theorem dX12_days_36 : decode cX12_days 36 = .ok (.aload_n 0, 1) := by decide +kernel
theorem dX12_days_37 : decode cX12_days 37 = .ok (.iload_n 1, 1) := by decide +kernel
theorem dX12_days_38 : decode cX12_days 38 = .ok (.invokevirtual 367, 3) := by decide +kernel
theorem dX12_days_41 : decode cX12_days 41 = .ok (.ireturn, 1) := by decide +kernel
def tX12_days (kn : sKn) : List (Nat × sA) := [(0, a_aload 0 1), (1, a_stk (q_int 0) 2), (2, a_put 13 0 ckI 5), (5, a_iload 1 6), (6, a_stk (q_int 1) 7), (7, a_stk (q_int 60) 9), (9, a_callS false (fX12_isIn kn) 3 12), (12, a_if kn b_ne 1 17 15), (15, a_stk (q_int (-1)) 16), (16, a_iret), (17, a_aload 0 18), (18, a_get 13 14 21), (21, a_stk (q_int 94) 23), (23, a_iald 24), (24, a_stk (q_int 400) 27), (27, a_icmp kn b_ne 1 32 30), (30, a_stk (q_int 0) 31), (31, a_iret), (32, a_aload 0 33), (33, a_callV true (fX12_snap kn) 13 1 36), (36, a_aload 0 37), (37, a_iload 1 38), (38, a_callV false (fX12_passDays kn) 13 2 41), (41, a_iret)]
def fX12_days (kn : sKn) : List Value → sW → Option sR := fW (tX12_days kn) 2
set_option maxRecDepth 100000 in
set_option maxHeartbeats 4000000 in
theorem mX12_days (kn : sKn) : mM kn yX12_days (Cond.code yX12_days cX12_days 2 (some .int) :: wsL_law) 6 false (fX12_days kn) := mM_W (fun n => mM_of (own := RX12) (ini := false) rfl (by decide +kernel) (by decide +kernel) (all_c (ok_aload_n dX12_days_0 rfl) (all_c (ok_stk (s_iconst dX12_days_1 (by decide))) (all_c (okp_X12_0 kw1114 dX12_days_2) (all_c (ok_iload_n dX12_days_5 rfl) (all_c (ok_stk (s_iconst dX12_days_6 (by decide))) (all_c (ok_stk (s_bipush dX12_days_7 (by decide))) (all_c (okc_X12_isIn (by decide) kw1126 dX12_days_9) (all_c (ok_if_ne dX12_days_12 (by decide)) (all_c (ok_stk (s_iconst dX12_days_15 (by decide))) (all_c (ok_iret dX12_days_16) (all_c (ok_aload_n dX12_days_17 rfl) (all_c (okg_X12_14 kw1069 dX12_days_18) (all_c (ok_stk (s_bipush dX12_days_21 (by decide))) (all_c (ok_iald dX12_days_23) (all_c (ok_stk (s_sipush dX12_days_24 (by decide))) (all_c (ok_icmp_ne dX12_days_27 (by decide)) (all_c (ok_stk (s_iconst dX12_days_30 (by decide))) (all_c (ok_iret dX12_days_31) (all_c (ok_aload_n dX12_days_32 rfl) (all_c (okc_X12_snap (by decide) kw1291 dX12_days_33) (all_c (ok_aload_n dX12_days_36 rfl) (all_c (ok_iload_n dX12_days_37 rfl) (all_c (okc_X12_passDays (by decide) kw1233 dX12_days_38) (all_c (ok_iret dX12_days_41) all_n)))))))))))))))))))))))) n (fun h => by first | rfl | cases h))
theorem dX12_die_0 : decode cX12_die 0 = .ok (.aload_n 0, 1) := by decide +kernel
theorem dX12_die_1 : decode cX12_die 1 = .ok (.iconst 0, 1) := by decide +kernel
theorem dX12_die_2 : decode cX12_die 2 = .ok (.putfield 1, 3) := by decide +kernel
theorem dX12_die_5 : decode cX12_die 5 = .ok (.aload_n 0, 1) := by decide +kernel
theorem dX12_die_6 : decode cX12_die 6 = .ok (.iload_n 1, 1) := by decide +kernel
theorem dX12_die_7 : decode cX12_die 7 = .ok (.invokevirtual 277, 3) := by decide +kernel
theorem dX12_die_10 : decode cX12_die 10 = .ok (.ifCond .ne 5, 3) := by decide +kernel
theorem dX12_die_13 : decode cX12_die 13 = .ok (.iconst (-1), 1) := by decide +kernel
theorem dX12_die_14 : decode cX12_die 14 = .ok (.ireturn, 1) := by decide +kernel
theorem dX12_die_15 : decode cX12_die 15 = .ok (.aload_n 0, 1) := by decide +kernel
theorem dX12_die_16 : decode cX12_die 16 = .ok (.iload_n 1, 1) := by decide +kernel
theorem dX12_die_17 : decode cX12_die 17 = .ok (.invokevirtual 283, 3) := by decide +kernel
theorem dX12_die_20 : decode cX12_die 20 = .ok (.ifCond .eq 5, 3) := by decide +kernel
theorem dX12_die_23 : decode cX12_die 23 = .ok (.iconst 1, 1) := by decide +kernel
theorem dX12_die_24 : decode cX12_die 24 = .ok (.ireturn, 1) := by decide +kernel
theorem dX12_die_25 : decode cX12_die 25 = .ok (.aload_n 0, 1) := by decide +kernel
theorem dX12_die_26 : decode cX12_die 26 = .ok (.invokevirtual 343, 3) := by decide +kernel
theorem dX12_die_29 : decode cX12_die 29 = .ok (.aload_n 0, 1) := by decide +kernel
theorem dX12_die_30 : decode cX12_die 30 = .ok (.iload_n 1, 1) := by decide +kernel
theorem dX12_die_31 : decode cX12_die 31 = .ok (.invokevirtual 355, 3) := by decide +kernel
theorem dX12_die_34 : decode cX12_die 34 = .ok (.iconst 0, 1) := by decide +kernel
theorem dX12_die_35 : decode cX12_die 35 = .ok (.ireturn, 1) := by decide +kernel
def tX12_die (kn : sKn) : List (Nat × sA) := [(0, a_aload 0 1), (1, a_stk (q_int 0) 2), (2, a_put 13 0 ckI 5), (5, a_aload 0 6), (6, a_iload 1 7), (7, a_callV false (fX12_isSigner kn) 13 2 10), (10, a_if kn b_ne 1 15 13), (13, a_stk (q_int (-1)) 14), (14, a_iret), (15, a_aload 0 16), (16, a_iload 1 17), (17, a_callV false (fX12_isDead kn) 13 2 20), (20, a_if kn b_eq 0 25 23), (23, a_stk (q_int 1) 24), (24, a_iret), (25, a_aload 0 26), (26, a_callV true (fX12_snap kn) 13 1 29), (29, a_aload 0 30), (30, a_iload 1 31), (31, a_callV true (fX12_doDie kn) 13 2 34), (34, a_stk (q_int 0) 35), (35, a_iret)]
def fX12_die (kn : sKn) : List Value → sW → Option sR := fW (tX12_die kn) 2
set_option maxRecDepth 100000 in
set_option maxHeartbeats 4000000 in
theorem mX12_die (kn : sKn) : mM kn yX12_die (Cond.code yX12_die cX12_die 2 (some .int) :: wsL_law) 3 false (fX12_die kn) := mM_W (fun n => mM_of (own := RX12) (ini := false) rfl (by decide +kernel) (by decide +kernel) (all_c (ok_aload_n dX12_die_0 rfl) (all_c (ok_stk (s_iconst dX12_die_1 (by decide))) (all_c (okp_X12_0 kw1114 dX12_die_2) (all_c (ok_aload_n dX12_die_5 rfl) (all_c (ok_iload_n dX12_die_6 rfl) (all_c (okc_X12_isSigner (by decide) kw1337 dX12_die_7) (all_c (ok_if_ne dX12_die_10 (by decide)) (all_c (ok_stk (s_iconst dX12_die_13 (by decide))) (all_c (ok_iret dX12_die_14) (all_c (ok_aload_n dX12_die_15 rfl) (all_c (ok_iload_n dX12_die_16 rfl) (all_c (okc_X12_isDead (by decide) kw1138 dX12_die_17) (all_c (ok_if_eq dX12_die_20 (by decide)) (all_c (ok_stk (s_iconst dX12_die_23 (by decide))) (all_c (ok_iret dX12_die_24) (all_c (ok_aload_n dX12_die_25 rfl) (all_c (okc_X12_snap (by decide) kw1291 dX12_die_26) (all_c (ok_aload_n dX12_die_29 rfl) (all_c (ok_iload_n dX12_die_30 rfl) (all_c (okc_X12_doDie (by decide) kw1225 dX12_die_31) (all_c (ok_stk (s_iconst dX12_die_34 (by decide))) (all_c (ok_iret dX12_die_35) all_n)))))))))))))))))))))) n (fun h => by first | rfl | cases h))
theorem dX12_draw_0 : decode cX12_draw 0 = .ok (.aload_n 0, 1) := by decide +kernel
theorem dX12_draw_1 : decode cX12_draw 1 = .ok (.aload_n 0, 1) := by decide +kernel
theorem dX12_draw_2 : decode cX12_draw 2 = .ok (.getfield 428, 3) := by decide +kernel
theorem dX12_draw_5 : decode cX12_draw 5 = .ok (.ldc_w 431, 3) := by decide +kernel
theorem dX12_draw_8 : decode cX12_draw 8 = .ok (.imul, 1) := by decide +kernel
theorem dX12_draw_9 : decode cX12_draw 9 = .ok (.sipush 12345, 3) := by decide +kernel
theorem dX12_draw_12 : decode cX12_draw 12 = .ok (.iadd, 1) := by decide +kernel
theorem dX12_draw_13 : decode cX12_draw 13 = .ok (.putfield 428, 3) := by decide +kernel
theorem dX12_draw_16 : decode cX12_draw 16 = .ok (.aload_n 0, 1) := by decide +kernel
theorem dX12_draw_17 : decode cX12_draw 17 = .ok (.getfield 428, 3) := by decide +kernel
theorem dX12_draw_20 : decode cX12_draw 20 = .ok (.bipush 8, 2) := by decide +kernel
theorem dX12_draw_22 : decode cX12_draw 22 = .ok (.iushr, 1) := by decide +kernel
theorem dX12_draw_23 : decode cX12_draw 23 = .ok (.iload_n 1, 1) := by decide +kernel
theorem dX12_draw_24 : decode cX12_draw 24 = .ok (.irem, 1) := by decide +kernel
theorem dX12_draw_25 : decode cX12_draw 25 = .ok (.ireturn, 1) := by decide +kernel
def tX12_draw (kn : sKn) : List (Nat × sA) := [(0, a_aload 0 1), (1, a_aload 0 2), (2, a_get 13 50 5), (5, a_stk (q_int (1103515245)) 8), (8, a_stk q_imul 9), (9, a_stk (q_int 12345) 12), (12, a_stk q_iadd 13), (13, a_put 13 50 ckI 16), (16, a_aload 0 17), (17, a_get 13 50 20), (20, a_stk (q_int 8) 22), (22, a_stk q_iushr 23), (23, a_iload 1 24), (24, a_stk q_irem 25), (25, a_iret)]
def fX12_draw (kn : sKn) : List Value → sW → Option sR := fW (tX12_draw kn) 2
set_option maxRecDepth 100000 in
set_option maxHeartbeats 4000000 in
theorem mX12_draw (kn : sKn) : mM kn yX12_draw (Cond.code yX12_draw cX12_draw 2 (some .int) :: wsL_law) 1 false (fX12_draw kn) := mM_W (fun n => mM_of (own := RX12) (ini := false) rfl (by decide +kernel) (by decide +kernel) (all_c (ok_aload_n dX12_draw_0 rfl) (all_c (ok_aload_n dX12_draw_1 rfl) (all_c (okg_X12_50 kw1408 dX12_draw_2) (all_c (ok_ldcw kw1409 dX12_draw_5) (all_c (ok_stk (s_imul dX12_draw_8)) (all_c (ok_stk (s_sipush dX12_draw_9 (by decide))) (all_c (ok_stk (s_iadd dX12_draw_12)) (all_c (okp_X12_50 kw1408 dX12_draw_13) (all_c (ok_aload_n dX12_draw_16 rfl) (all_c (okg_X12_50 kw1408 dX12_draw_17) (all_c (ok_stk (s_bipush dX12_draw_20 (by decide))) (all_c (ok_stk (s_iushr dX12_draw_22)) (all_c (ok_iload_n dX12_draw_23 rfl) (all_c (ok_stk (s_irem dX12_draw_24)) (all_c (ok_iret dX12_draw_25) all_n))))))))))))))) n (fun h => by first | rfl | cases h))
theorem dX12_drawFor_0 : decode cX12_drawFor 0 = .ok (.aload_n 0, 1) := by decide +kernel
theorem dX12_drawFor_1 : decode cX12_drawFor 1 = .ok (.bipush 20, 2) := by decide +kernel
theorem dX12_drawFor_3 : decode cX12_drawFor 3 = .ok (.invokevirtual 432, 3) := by decide +kernel
theorem dX12_drawFor_6 : decode cX12_drawFor 6 = .ok (.istore_n 2, 1) := by decide +kernel
theorem dX12_drawFor_7 : decode cX12_drawFor 7 = .ok (.iload_n 2, 1) := by decide +kernel
theorem dX12_drawFor_8 : decode cX12_drawFor 8 = .ok (.ifCond .ne 27, 3) := by decide +kernel
theorem dX12_drawFor_11 : decode cX12_drawFor 11 = .ok (.aload_n 0, 1) := by decide +kernel
theorem dX12_drawFor_12 : decode cX12_drawFor 12 = .ok (.iload_n 1, 1) := by decide +kernel
theorem dX12_drawFor_13 : decode cX12_drawFor 13 = .ok (.invokevirtual 283, 3) := by decide +kernel
theorem dX12_drawFor_16 : decode cX12_drawFor 16 = .ok (.ifCond .ne 106, 3) := by decide +kernel
theorem dX12_drawFor_19 : decode cX12_drawFor 19 = .ok (.aload_n 0, 1) := by decide +kernel
theorem dX12_drawFor_20 : decode cX12_drawFor 20 = .ok (.getfield 98, 3) := by decide +kernel
theorem dX12_drawFor_23 : decode cX12_drawFor 23 = .ok (.bipush 98, 2) := by decide +kernel
theorem dX12_drawFor_25 : decode cX12_drawFor 25 = .ok (.iload_n 1, 1) := by decide +kernel
theorem dX12_drawFor_26 : decode cX12_drawFor 26 = .ok (.iadd, 1) := by decide +kernel
theorem dX12_drawFor_27 : decode cX12_drawFor 27 = .ok (.dup2, 1) := by decide +kernel
theorem dX12_drawFor_28 : decode cX12_drawFor 28 = .ok (.iaload, 1) := by decide +kernel
theorem dX12_drawFor_29 : decode cX12_drawFor 29 = .ok (.iconst 2, 1) := by decide +kernel
theorem dX12_drawFor_30 : decode cX12_drawFor 30 = .ok (.idiv, 1) := by decide +kernel
theorem dX12_drawFor_31 : decode cX12_drawFor 31 = .ok (.iastore, 1) := by decide +kernel
theorem dX12_drawFor_32 : decode cX12_drawFor 32 = .ok (.goto 90, 3) := by decide +kernel
theorem dX12_drawFor_35 : decode cX12_drawFor 35 = .ok (.iload_n 2, 1) := by decide +kernel
theorem dX12_drawFor_36 : decode cX12_drawFor 36 = .ok (.iconst 1, 1) := by decide +kernel
theorem dX12_drawFor_37 : decode cX12_drawFor 37 = .ok (.if_icmp .ne 27, 3) := by decide +kernel
theorem dX12_drawFor_40 : decode cX12_drawFor 40 = .ok (.aload_n 0, 1) := by decide +kernel
theorem dX12_drawFor_41 : decode cX12_drawFor 41 = .ok (.iload_n 1, 1) := by decide +kernel
theorem dX12_drawFor_42 : decode cX12_drawFor 42 = .ok (.invokevirtual 352, 3) := by decide +kernel
theorem dX12_drawFor_45 : decode cX12_drawFor 45 = .ok (.ifCond .ne 77, 3) := by decide +kernel
theorem dX12_drawFor_48 : decode cX12_drawFor 48 = .ok (.aload_n 0, 1) := by decide +kernel
theorem dX12_drawFor_49 : decode cX12_drawFor 49 = .ok (.getfield 98, 3) := by decide +kernel
theorem dX12_drawFor_52 : decode cX12_drawFor 52 = .ok (.bipush 98, 2) := by decide +kernel
theorem dX12_drawFor_54 : decode cX12_drawFor 54 = .ok (.iload_n 1, 1) := by decide +kernel
theorem dX12_drawFor_55 : decode cX12_drawFor 55 = .ok (.iadd, 1) := by decide +kernel
theorem dX12_drawFor_56 : decode cX12_drawFor 56 = .ok (.dup2, 1) := by decide +kernel
theorem dX12_drawFor_57 : decode cX12_drawFor 57 = .ok (.iaload, 1) := by decide +kernel
theorem dX12_drawFor_58 : decode cX12_drawFor 58 = .ok (.iconst 1, 1) := by decide +kernel
theorem dX12_drawFor_59 : decode cX12_drawFor 59 = .ok (.iadd, 1) := by decide +kernel
theorem dX12_drawFor_60 : decode cX12_drawFor 60 = .ok (.iastore, 1) := by decide +kernel
theorem dX12_drawFor_61 : decode cX12_drawFor 61 = .ok (.goto 61, 3) := by decide +kernel
theorem dX12_drawFor_64 : decode cX12_drawFor 64 = .ok (.iload_n 2, 1) := by decide +kernel
theorem dX12_drawFor_65 : decode cX12_drawFor 65 = .ok (.iconst 2, 1) := by decide +kernel
theorem dX12_drawFor_66 : decode cX12_drawFor 66 = .ok (.if_icmp .ne 27, 3) := by decide +kernel
theorem dX12_drawFor_69 : decode cX12_drawFor 69 = .ok (.aload_n 0, 1) := by decide +kernel
theorem dX12_drawFor_70 : decode cX12_drawFor 70 = .ok (.iconst 5, 1) := by decide +kernel
theorem dX12_drawFor_71 : decode cX12_drawFor 71 = .ok (.invokevirtual 432, 3) := by decide +kernel
theorem dX12_drawFor_74 : decode cX12_drawFor 74 = .ok (.ifCond .ne 48, 3) := by decide +kernel
theorem dX12_drawFor_77 : decode cX12_drawFor 77 = .ok (.aload_n 0, 1) := by decide +kernel
theorem dX12_drawFor_78 : decode cX12_drawFor 78 = .ok (.iload_n 1, 1) := by decide +kernel
theorem dX12_drawFor_79 : decode cX12_drawFor 79 = .ok (.invokevirtual 283, 3) := by decide +kernel
theorem dX12_drawFor_82 : decode cX12_drawFor 82 = .ok (.ifCond .ne 40, 3) := by decide +kernel
theorem dX12_drawFor_85 : decode cX12_drawFor 85 = .ok (.aload_n 0, 1) := by decide +kernel
theorem dX12_drawFor_86 : decode cX12_drawFor 86 = .ok (.iload_n 1, 1) := by decide +kernel
theorem dX12_drawFor_87 : decode cX12_drawFor 87 = .ok (.invokevirtual 355, 3) := by decide +kernel
theorem dX12_drawFor_90 : decode cX12_drawFor 90 = .ok (.goto 32, 3) := by decide +kernel
theorem dX12_drawFor_93 : decode cX12_drawFor 93 = .ok (.iload_n 2, 1) := by decide +kernel
theorem dX12_drawFor_94 : decode cX12_drawFor 94 = .ok (.iconst 3, 1) := by decide +kernel
theorem dX12_drawFor_95 : decode cX12_drawFor 95 = .ok (.if_icmp .ne 27, 3) := by decide +kernel
theorem dX12_drawFor_98 : decode cX12_drawFor 98 = .ok (.aload_n 0, 1) := by decide +kernel
theorem dX12_drawFor_99 : decode cX12_drawFor 99 = .ok (.aload_n 0, 1) := by decide +kernel
theorem dX12_drawFor_100 : decode cX12_drawFor 100 = .ok (.invokevirtual 264, 3) := by decide +kernel
theorem dX12_drawFor_103 : decode cX12_drawFor 103 = .ok (.invokevirtual 432, 3) := by decide +kernel
theorem dX12_drawFor_106 : decode cX12_drawFor 106 = .ok (.istore_n 3, 1) := by decide +kernel
theorem dX12_drawFor_107 : decode cX12_drawFor 107 = .ok (.aload_n 0, 1) := by decide +kernel
theorem dX12_drawFor_108 : decode cX12_drawFor 108 = .ok (.iload_n 1, 1) := by decide +kernel
theorem dX12_drawFor_109 : decode cX12_drawFor 109 = .ok (.iload_n 3, 1) := by decide +kernel
theorem dX12_drawFor_110 : decode cX12_drawFor 110 = .ok (.invokevirtual 340, 3) := by decide +kernel
theorem dX12_drawFor_113 : decode cX12_drawFor 113 = .ok (.ifCond .ne 9, 3) := by decide +kernel
theorem dX12_drawFor_116 : decode cX12_drawFor 116 = .ok (.aload_n 0, 1) := by decide +kernel
theorem dX12_drawFor_117 : decode cX12_drawFor 117 = .ok (.iload_n 1, 1) := by decide +kernel
theorem dX12_drawFor_118 : decode cX12_drawFor 118 = .ok (.iload_n 3, 1) := by decide +kernel
theorem dX12_drawFor_119 : decode cX12_drawFor 119 = .ok (.invokevirtual 346, 3) := by decide +kernel
theorem dX12_drawFor_122 : decode cX12_drawFor 122 = .ok (.return_, 1) := by decide +kernel
theorem okc_X12_draw {kn : sKn} {cc : ByteArray} {own : String} {nL : Nat} {D : Nat} {ret : Option FieldType} {ini : Bool} {pc index : Nat} (hD : 1 + 1 ≤ D) (hl : Cond.methodLink own index yX12_draw ∈ wsL_law) (hd : decode cc pc = .ok (.invokevirtual index, 3)) : mOk kn cc own nL wsL_law D ret ini pc (a_callV false (fX12_draw kn) 13 (1 + 1) (pc + 3)) := ok_callV (mX12_draw kn) (good_ws ws_good (fun _ h => h) kw1410) hD (by decide) hl kw1411 kw1412 kw1072 ⟨by decide +kernel, by decide +kernel, by decide +kernel⟩ rfl hd
def tX12_drawFor (kn : sKn) : List (Nat × sA) := [(0, a_aload 0 1), (1, a_stk (q_int 20) 3), (3, a_callV false (fX12_draw kn) 13 2 6), (6, a_istore 2 7), (7, a_iload 2 8), (8, a_if kn b_ne 1 35 11), (11, a_aload 0 12), (12, a_iload 1 13), (13, a_callV false (fX12_isDead kn) 13 2 16), (16, a_if kn b_ne 1 122 19), (19, a_aload 0 20), (20, a_get 13 14 23), (23, a_stk (q_int 98) 25), (25, a_iload 1 26), (26, a_stk q_iadd 27), (27, a_stk q_dup2 28), (28, a_iald 29), (29, a_stk (q_int 2) 30), (30, a_stk q_idiv 31), (31, a_iast 32), (32, a_goto 122), (35, a_iload 2 36), (36, a_stk (q_int 1) 37), (37, a_icmp kn b_ne 1 64 40), (40, a_aload 0 41), (41, a_iload 1 42), (42, a_callV false (fX12_whyHold kn) 13 2 45), (45, a_if kn b_ne 1 122 48), (48, a_aload 0 49), (49, a_get 13 14 52), (52, a_stk (q_int 98) 54), (54, a_iload 1 55), (55, a_stk q_iadd 56), (56, a_stk q_dup2 57), (57, a_iald 58), (58, a_stk (q_int 1) 59), (59, a_stk q_iadd 60), (60, a_iast 61), (61, a_goto 122), (64, a_iload 2 65), (65, a_stk (q_int 2) 66), (66, a_icmp kn b_ne 1 93 69), (69, a_aload 0 70), (70, a_stk (q_int 5) 71), (71, a_callV false (fX12_draw kn) 13 2 74), (74, a_if kn b_ne 1 122 77), (77, a_aload 0 78), (78, a_iload 1 79), (79, a_callV false (fX12_isDead kn) 13 2 82), (82, a_if kn b_ne 1 122 85), (85, a_aload 0 86), (86, a_iload 1 87), (87, a_callV true (fX12_doDie kn) 13 2 90), (90, a_goto 122), (93, a_iload 2 94), (94, a_stk (q_int 3) 95), (95, a_icmp kn b_ne 1 122 98), (98, a_aload 0 99), (99, a_aload 0 100), (100, a_callV false (fX12_places kn) 13 1 103), (103, a_callV false (fX12_draw kn) 13 2 106), (106, a_istore 3 107), (107, a_aload 0 108), (108, a_iload 1 109), (109, a_iload 3 110), (110, a_callV false (fX12_whySign kn) 13 3 113), (113, a_if kn b_ne 1 122 116), (116, a_aload 0 117), (117, a_iload 1 118), (118, a_iload 3 119), (119, a_callV true (fX12_doSign kn) 13 3 122), (122, a_vret)]
def fX12_drawFor (kn : sKn) : List Value → sW → Option sR := fW (tX12_drawFor kn) 4
set_option maxRecDepth 100000 in
set_option maxHeartbeats 4000000 in
theorem mX12_drawFor (kn : sKn) : mM kn yX12_drawFor (Cond.code yX12_drawFor cX12_drawFor 4 none :: wsL_law) 4 true (fX12_drawFor kn) := mM_W (fun n => mM_of (own := RX12) (ini := false) rfl (by decide +kernel) (by decide +kernel) (all_c (ok_aload_n dX12_drawFor_0 rfl) (all_c (ok_stk (s_bipush dX12_drawFor_1 (by decide))) (all_c (okc_X12_draw (by decide) kw1413 dX12_drawFor_3) (all_c (ok_istore_n dX12_drawFor_6 rfl (by decide)) (all_c (ok_iload_n dX12_drawFor_7 rfl) (all_c (ok_if_ne dX12_drawFor_8 (by decide)) (all_c (ok_aload_n dX12_drawFor_11 rfl) (all_c (ok_iload_n dX12_drawFor_12 rfl) (all_c (okc_X12_isDead (by decide) kw1138 dX12_drawFor_13) (all_c (ok_if_ne dX12_drawFor_16 (by decide)) (all_c (ok_aload_n dX12_drawFor_19 rfl) (all_c (okg_X12_14 kw1069 dX12_drawFor_20) (all_c (ok_stk (s_bipush dX12_drawFor_23 (by decide))) (all_c (ok_iload_n dX12_drawFor_25 rfl) (all_c (ok_stk (s_iadd dX12_drawFor_26)) (all_c (ok_stk (s_dup2 dX12_drawFor_27)) (all_c (ok_iald dX12_drawFor_28) (all_c (ok_stk (s_iconst dX12_drawFor_29 (by decide))) (all_c (ok_stk (s_idiv dX12_drawFor_30)) (all_c (ok_iast dX12_drawFor_31) (all_c (ok_goto dX12_drawFor_32 (by decide)) (all_c (ok_iload_n dX12_drawFor_35 rfl) (all_c (ok_stk (s_iconst dX12_drawFor_36 (by decide))) (all_c (ok_icmp_ne dX12_drawFor_37 (by decide)) (all_c (ok_aload_n dX12_drawFor_40 rfl) (all_c (ok_iload_n dX12_drawFor_41 rfl) (all_c (okc_X12_whyHold (by decide) kw1307 dX12_drawFor_42) (all_c (ok_if_ne dX12_drawFor_45 (by decide)) (all_c (ok_aload_n dX12_drawFor_48 rfl) (all_c (okg_X12_14 kw1069 dX12_drawFor_49) (all_c (ok_stk (s_bipush dX12_drawFor_52 (by decide))) (all_c (ok_iload_n dX12_drawFor_54 rfl) (all_c (ok_stk (s_iadd dX12_drawFor_55)) (all_c (ok_stk (s_dup2 dX12_drawFor_56)) (all_c (ok_iald dX12_drawFor_57) (all_c (ok_stk (s_iconst dX12_drawFor_58 (by decide))) (all_c (ok_stk (s_iadd dX12_drawFor_59)) (all_c (ok_iast dX12_drawFor_60) (all_c (ok_goto dX12_drawFor_61 (by decide)) (all_c (ok_iload_n dX12_drawFor_64 rfl) (all_c (ok_stk (s_iconst dX12_drawFor_65 (by decide))) (all_c (ok_icmp_ne dX12_drawFor_66 (by decide)) (all_c (ok_aload_n dX12_drawFor_69 rfl) (all_c (ok_stk (s_iconst dX12_drawFor_70 (by decide))) (all_c (okc_X12_draw (by decide) kw1413 dX12_drawFor_71) (all_c (ok_if_ne dX12_drawFor_74 (by decide)) (all_c (ok_aload_n dX12_drawFor_77 rfl) (all_c (ok_iload_n dX12_drawFor_78 rfl) (all_c (okc_X12_isDead (by decide) kw1138 dX12_drawFor_79) (all_c (ok_if_ne dX12_drawFor_82 (by decide)) (all_c (ok_aload_n dX12_drawFor_85 rfl) (all_c (ok_iload_n dX12_drawFor_86 rfl) (all_c (okc_X12_doDie (by decide) kw1225 dX12_drawFor_87) (all_c (ok_goto dX12_drawFor_90 (by decide)) (all_c (ok_iload_n dX12_drawFor_93 rfl) (all_c (ok_stk (s_iconst dX12_drawFor_94 (by decide))) (all_c (ok_icmp_ne dX12_drawFor_95 (by decide)) (all_c (ok_aload_n dX12_drawFor_98 rfl) (all_c (ok_aload_n dX12_drawFor_99 rfl) (all_c (okc_X12_places (by decide) kw1200 dX12_drawFor_100) (all_c (okc_X12_draw (by decide) kw1413 dX12_drawFor_103) (all_c (ok_istore_n dX12_drawFor_106 rfl (by decide)) (all_c (ok_aload_n dX12_drawFor_107 rfl) (all_c (ok_iload_n dX12_drawFor_108 rfl) (all_c (ok_iload_n dX12_drawFor_109 rfl) (all_c (okc_X12_whySign (by decide) kw1303 dX12_drawFor_110) (all_c (ok_if_ne dX12_drawFor_113 (by decide)) (all_c (ok_aload_n dX12_drawFor_116 rfl) (all_c (ok_iload_n dX12_drawFor_117 rfl) (all_c (ok_iload_n dX12_drawFor_118 rfl) (all_c (okc_X12_doSign (by decide) kw1217 dX12_drawFor_119) (all_c (ok_vret dX12_drawFor_122) all_n)))))))))))))))))))))))))))))))))))))))))))))))))))))))))))))))))))))))) n (fun h => by first | rfl | cases h))
theorem dX12_drawDays_0 : decode cX12_drawDays 0 = .ok (.aload_n 0, 1) := by decide +kernel
theorem dX12_drawDays_1 : decode cX12_drawDays 1 = .ok (.iload_n 2, 1) := by decide +kernel
theorem dX12_drawDays_2 : decode cX12_drawDays 2 = .ok (.putfield 428, 3) := by decide +kernel
theorem dX12_drawDays_5 : decode cX12_drawDays 5 = .ok (.iload_n 1, 1) := by decide +kernel
theorem dX12_drawDays_6 : decode cX12_drawDays 6 = .ok (.sipush 400, 3) := by decide +kernel
theorem dX12_drawDays_9 : decode cX12_drawDays 9 = .ok (.aload_n 0, 1) := by decide +kernel
theorem dX12_drawDays_10 : decode cX12_drawDays 10 = .ok (.getfield 98, 3) := by decide +kernel
theorem dX12_drawDays_13 : decode cX12_drawDays 13 = .ok (.bipush 94, 2) := by decide +kernel
theorem dX12_drawDays_15 : decode cX12_drawDays 15 = .ok (.iaload, 1) := by decide +kernel
theorem dX12_drawDays_16 : decode cX12_drawDays 16 = .ok (.isub, 1) := by decide +kernel
theorem dX12_drawDays_17 : decode cX12_drawDays 17 = .ok (.invokestatic 312, 3) := by decide +kernel
theorem dX12_drawDays_20 : decode cX12_drawDays 20 = .ok (.istore_n 3, 1) := by decide +kernel
theorem dX12_drawDays_21 : decode cX12_drawDays 21 = .ok (.iconst 0, 1) := by decide +kernel
theorem dX12_drawDays_22 : decode cX12_drawDays 22 = .ok (.istore 4, 2) := by decide +kernel
theorem dX12_drawDays_24 : decode cX12_drawDays 24 = .ok (.iload 4, 2) := by decide +kernel
theorem dX12_drawDays_26 : decode cX12_drawDays 26 = .ok (.iload_n 3, 1) := by decide +kernel
theorem dX12_drawDays_27 : decode cX12_drawDays 27 = .ok (.if_icmp .ge 89, 3) := by decide +kernel
theorem dX12_drawDays_30 : decode cX12_drawDays 30 = .ok (.iconst 0, 1) := by decide +kernel
theorem dX12_drawDays_31 : decode cX12_drawDays 31 = .ok (.istore 5, 2) := by decide +kernel
theorem dX12_drawDays_33 : decode cX12_drawDays 33 = .ok (.iload 5, 2) := by decide +kernel
theorem dX12_drawDays_35 : decode cX12_drawDays 35 = .ok (.aload_n 0, 1) := by decide +kernel
theorem dX12_drawDays_36 : decode cX12_drawDays 36 = .ok (.getfield 98, 3) := by decide +kernel
theorem dX12_drawDays_39 : decode cX12_drawDays 39 = .ok (.iconst 1, 1) := by decide +kernel
theorem dX12_drawDays_40 : decode cX12_drawDays 40 = .ok (.iaload, 1) := by decide +kernel
theorem dX12_drawDays_41 : decode cX12_drawDays 41 = .ok (.if_icmp .ge 15, 3) := by decide +kernel
theorem dX12_drawDays_44 : decode cX12_drawDays 44 = .ok (.aload_n 0, 1) := by decide +kernel
theorem dX12_drawDays_45 : decode cX12_drawDays 45 = .ok (.iload 5, 2) := by decide +kernel
theorem dX12_drawDays_47 : decode cX12_drawDays 47 = .ok (.invokevirtual 435, 3) := by decide +kernel
theorem dX12_drawDays_50 : decode cX12_drawDays 50 = .ok (.iinc 5 1, 3) := by decide +kernel
theorem dX12_drawDays_53 : decode cX12_drawDays 53 = .ok (.goto (-20), 3) := by decide +kernel
theorem dX12_drawDays_56 : decode cX12_drawDays 56 = .ok (.iconst 0, 1) := by decide +kernel
theorem dX12_drawDays_57 : decode cX12_drawDays 57 = .ok (.istore 5, 2) := by decide +kernel
theorem dX12_drawDays_59 : decode cX12_drawDays 59 = .ok (.iload 5, 2) := by decide +kernel
theorem dX12_drawDays_61 : decode cX12_drawDays 61 = .ok (.aload_n 0, 1) := by decide +kernel
theorem dX12_drawDays_62 : decode cX12_drawDays 62 = .ok (.getfield 98, 3) := by decide +kernel
theorem dX12_drawDays_65 : decode cX12_drawDays 65 = .ok (.iconst 2, 1) := by decide +kernel
theorem dX12_drawDays_66 : decode cX12_drawDays 66 = .ok (.iaload, 1) := by decide +kernel
theorem dX12_drawDays_67 : decode cX12_drawDays 67 = .ok (.if_icmp .ge 39, 3) := by decide +kernel
theorem dX12_drawDays_70 : decode cX12_drawDays 70 = .ok (.aload_n 0, 1) := by decide +kernel
theorem dX12_drawDays_71 : decode cX12_drawDays 71 = .ok (.iconst 4, 1) := by decide +kernel
theorem dX12_drawDays_72 : decode cX12_drawDays 72 = .ok (.invokevirtual 432, 3) := by decide +kernel
theorem dX12_drawDays_75 : decode cX12_drawDays 75 = .ok (.ifCond .ne 25, 3) := by decide +kernel
theorem dX12_drawDays_78 : decode cX12_drawDays 78 = .ok (.aload_n 0, 1) := by decide +kernel
theorem dX12_drawDays_79 : decode cX12_drawDays 79 = .ok (.getfield 98, 3) := by decide +kernel
theorem dX12_drawDays_82 : decode cX12_drawDays 82 = .ok (.bipush 96, 2) := by decide +kernel
theorem dX12_drawDays_84 : decode cX12_drawDays 84 = .ok (.iaload, 1) := by decide +kernel
theorem dX12_drawDays_85 : decode cX12_drawDays 85 = .ok (.iload 5, 2) := by decide +kernel
theorem dX12_drawDays_87 : decode cX12_drawDays 87 = .ok (.invokestatic 225, 3) := by decide +kernel
theorem dX12_drawDays_90 : decode cX12_drawDays 90 = .ok (.ifCond .ne 10, 3) := by decide +kernel
theorem dX12_drawDays_93 : decode cX12_drawDays 93 = .ok (.aload_n 0, 1) := by decide +kernel
theorem dX12_drawDays_94 : decode cX12_drawDays 94 = .ok (.iload 5, 2) := by decide +kernel
theorem dX12_drawDays_96 : decode cX12_drawDays 96 = .ok (.invokevirtual 358, 3) := by decide +kernel
theorem dX12_drawDays_99 : decode cX12_drawDays 99 = .ok (.pop, 1) := by decide +kernel
theorem dX12_drawDays_100 : decode cX12_drawDays 100 = .ok (.iinc 5 1, 3) := by decide +kernel
theorem dX12_drawDays_103 : decode cX12_drawDays 103 = .ok (.goto (-44), 3) := by decide +kernel
theorem dX12_drawDays_106 : decode cX12_drawDays 106 = .ok (.aload_n 0, 1) := by decide +kernel
theorem dX12_drawDays_107 : decode cX12_drawDays 107 = .ok (.invokevirtual 364, 3) := by decide +kernel
theorem dX12_drawDays_110 : decode cX12_drawDays 110 = .ok (.iinc 4 1, 3) := by decide +kernel
theorem dX12_drawDays_113 : decode cX12_drawDays 113 = .ok (.goto (-89), 3) := by decide +kernel
theorem dX12_drawDays_116 : decode cX12_drawDays 116 = .ok (.iload_n 3, 1) := by decide +kernel
theorem dX12_drawDays_117 : decode cX12_drawDays 117 = .ok (.ireturn, 1) := by decide +kernel
theorem okc_X12_drawFor {kn : sKn} {cc : ByteArray} {own : String} {nL : Nat} {D : Nat} {ret : Option FieldType} {ini : Bool} {pc index : Nat} (hD : 4 + 1 ≤ D) (hl : Cond.methodLink own index yX12_drawFor ∈ wsL_law) (hd : decode cc pc = .ok (.invokevirtual index, 3)) : mOk kn cc own nL wsL_law D ret ini pc (a_callV true (fX12_drawFor kn) 13 (1 + 1) (pc + 3)) := ok_callV (mX12_drawFor kn) (good_ws ws_good (fun _ h => h) kw1414) hD (by decide) hl kw1415 kw1416 kw1072 ⟨by decide +kernel, by decide +kernel, by decide +kernel⟩ rfl hd
def tX12_drawDays (kn : sKn) : List (Nat × sA) := [(0, a_aload 0 1), (1, a_iload 2 2), (2, a_put 13 50 ckI 5), (5, a_iload 1 6), (6, a_stk (q_int 400) 9), (9, a_aload 0 10), (10, a_get 13 14 13), (13, a_stk (q_int 94) 15), (15, a_iald 16), (16, a_stk q_isub 17), (17, a_callS false (fX12_least kn) 2 20), (20, a_istore 3 21), (21, a_stk (q_int 0) 22), (22, a_istore 4 24), (24, a_iload 4 26), (26, a_iload 3 27), (27, a_icmp kn b_ge 3 116 30), (30, a_stk (q_int 0) 31), (31, a_istore 5 33), (33, a_iload 5 35), (35, a_aload 0 36), (36, a_get 13 14 39), (39, a_stk (q_int 1) 40), (40, a_iald 41), (41, a_icmp kn b_ge 3 56 44), (44, a_aload 0 45), (45, a_iload 5 47), (47, a_callV true (fX12_drawFor kn) 13 2 50), (50, a_iinc 5 1 53), (53, a_goto 33), (56, a_stk (q_int 0) 57), (57, a_istore 5 59), (59, a_iload 5 61), (61, a_aload 0 62), (62, a_get 13 14 65), (65, a_stk (q_int 2) 66), (66, a_iald 67), (67, a_icmp kn b_ge 3 106 70), (70, a_aload 0 71), (71, a_stk (q_int 4) 72), (72, a_callV false (fX12_draw kn) 13 2 75), (75, a_if kn b_ne 1 100 78), (78, a_aload 0 79), (79, a_get 13 14 82), (82, a_stk (q_int 96) 84), (84, a_iald 85), (85, a_iload 5 87), (87, a_callS false (fX12_has kn) 2 90), (90, a_if kn b_ne 1 100 93), (93, a_aload 0 94), (94, a_iload 5 96), (96, a_callV false (fX12_doCross kn) 13 2 99), (99, a_stk q_pop 100), (100, a_iinc 5 1 103), (103, a_goto 59), (106, a_aload 0 107), (107, a_callV true (fX12_oneDay kn) 13 1 110), (110, a_iinc 4 1 113), (113, a_goto 24), (116, a_iload 3 117), (117, a_iret)]
def fX12_drawDays (kn : sKn) : List Value → sW → Option sR := fW (tX12_drawDays kn) 6
set_option maxRecDepth 100000 in
set_option maxHeartbeats 4000000 in
theorem mX12_drawDays (kn : sKn) : mM kn yX12_drawDays (Cond.code yX12_drawDays cX12_drawDays 6 (some .int) :: wsL_law) 10 false (fX12_drawDays kn) := mM_W (fun n => mM_of (own := RX12) (ini := false) rfl (by decide +kernel) (by decide +kernel) (all_c (ok_aload_n dX12_drawDays_0 rfl) (all_c (ok_iload_n dX12_drawDays_1 rfl) (all_c (okp_X12_50 kw1408 dX12_drawDays_2) (all_c (ok_iload_n dX12_drawDays_5 rfl) (all_c (ok_stk (s_sipush dX12_drawDays_6 (by decide))) (all_c (ok_aload_n dX12_drawDays_9 rfl) (all_c (okg_X12_14 kw1069 dX12_drawDays_10) (all_c (ok_stk (s_bipush dX12_drawDays_13 (by decide))) (all_c (ok_iald dX12_drawDays_15) (all_c (ok_stk (s_isub dX12_drawDays_16)) (all_c (okc_X12_least (by decide) kw1101 dX12_drawDays_17) (all_c (ok_istore_n dX12_drawDays_20 rfl (by decide)) (all_c (ok_stk (s_iconst dX12_drawDays_21 (by decide))) (all_c (ok_istore dX12_drawDays_22 (by decide)) (all_c (ok_iload dX12_drawDays_24) (all_c (ok_iload_n dX12_drawDays_26 rfl) (all_c (ok_icmp_ge dX12_drawDays_27 (by decide)) (all_c (ok_stk (s_iconst dX12_drawDays_30 (by decide))) (all_c (ok_istore dX12_drawDays_31 (by decide)) (all_c (ok_iload dX12_drawDays_33) (all_c (ok_aload_n dX12_drawDays_35 rfl) (all_c (okg_X12_14 kw1069 dX12_drawDays_36) (all_c (ok_stk (s_iconst dX12_drawDays_39 (by decide))) (all_c (ok_iald dX12_drawDays_40) (all_c (ok_icmp_ge dX12_drawDays_41 (by decide)) (all_c (ok_aload_n dX12_drawDays_44 rfl) (all_c (ok_iload dX12_drawDays_45) (all_c (okc_X12_drawFor (by decide) kw1417 dX12_drawDays_47) (all_c (ok_iinc dX12_drawDays_50 (by decide) (by decide)) (all_c (ok_goto dX12_drawDays_53 (by decide)) (all_c (ok_stk (s_iconst dX12_drawDays_56 (by decide))) (all_c (ok_istore dX12_drawDays_57 (by decide)) (all_c (ok_iload dX12_drawDays_59) (all_c (ok_aload_n dX12_drawDays_61 rfl) (all_c (okg_X12_14 kw1069 dX12_drawDays_62) (all_c (ok_stk (s_iconst dX12_drawDays_65 (by decide))) (all_c (ok_iald dX12_drawDays_66) (all_c (ok_icmp_ge dX12_drawDays_67 (by decide)) (all_c (ok_aload_n dX12_drawDays_70 rfl) (all_c (ok_stk (s_iconst dX12_drawDays_71 (by decide))) (all_c (okc_X12_draw (by decide) kw1413 dX12_drawDays_72) (all_c (ok_if_ne dX12_drawDays_75 (by decide)) (all_c (ok_aload_n dX12_drawDays_78 rfl) (all_c (okg_X12_14 kw1069 dX12_drawDays_79) (all_c (ok_stk (s_bipush dX12_drawDays_82 (by decide))) (all_c (ok_iald dX12_drawDays_84) (all_c (ok_iload dX12_drawDays_85) (all_c (okc_X12_has (by decide) kw1077 dX12_drawDays_87) (all_c (ok_if_ne dX12_drawDays_90 (by decide)) (all_c (ok_aload_n dX12_drawDays_93 rfl) (all_c (ok_iload dX12_drawDays_94) (all_c (okc_X12_doCross (by decide) kw1229 dX12_drawDays_96) (all_c (ok_stk (s_pop dX12_drawDays_99)) (all_c (ok_iinc dX12_drawDays_100 (by decide) (by decide)) (all_c (ok_goto dX12_drawDays_103 (by decide)) (all_c (ok_aload_n dX12_drawDays_106 rfl) (all_c (okc_X12_oneDay (by decide) kw1212 dX12_drawDays_107) (all_c (ok_iinc dX12_drawDays_110 (by decide) (by decide)) (all_c (ok_goto dX12_drawDays_113 (by decide)) (all_c (ok_iload_n dX12_drawDays_116 rfl) (all_c (ok_iret dX12_drawDays_117) all_n))))))))))))))))))))))))))))))))))))))))))))))))))))))))))))) n (fun h => by first | rfl | cases h))
theorem dX12_drawn_0 : decode cX12_drawn 0 = .ok (.aload_n 0, 1) := by decide +kernel
theorem dX12_drawn_1 : decode cX12_drawn 1 = .ok (.iconst 0, 1) := by decide +kernel
theorem dX12_drawn_2 : decode cX12_drawn 2 = .ok (.putfield 1, 3) := by decide +kernel
theorem dX12_drawn_5 : decode cX12_drawn 5 = .ok (.iload_n 1, 1) := by decide +kernel
theorem dX12_drawn_6 : decode cX12_drawn 6 = .ok (.iconst 1, 1) := by decide +kernel
theorem dX12_drawn_7 : decode cX12_drawn 7 = .ok (.bipush 60, 2) := by decide +kernel
theorem dX12_drawn_9 : decode cX12_drawn 9 = .ok (.invokestatic 75, 3) := by decide +kernel
theorem dX12_drawn_12 : decode cX12_drawn 12 = .ok (.ifCond .eq 12, 3) := by decide +kernel
theorem dX12_drawn_15 : decode cX12_drawn 15 = .ok (.aload_n 0, 1) := by decide +kernel
theorem dX12_drawn_16 : decode cX12_drawn 16 = .ok (.getfield 98, 3) := by decide +kernel
theorem dX12_drawn_19 : decode cX12_drawn 19 = .ok (.iconst 1, 1) := by decide +kernel
theorem dX12_drawn_20 : decode cX12_drawn 20 = .ok (.iaload, 1) := by decide +kernel
theorem dX12_drawn_21 : decode cX12_drawn 21 = .ok (.ifCond .ne 5, 3) := by decide +kernel
theorem dX12_drawn_24 : decode cX12_drawn 24 = .ok (.iconst (-1), 1) := by decide +kernel
theorem dX12_drawn_25 : decode cX12_drawn 25 = .ok (.ireturn, 1) := by decide +kernel
theorem dX12_drawn_26 : decode cX12_drawn 26 = .ok (.aload_n 0, 1) := by decide +kernel
theorem dX12_drawn_27 : decode cX12_drawn 27 = .ok (.getfield 98, 3) := by decide +kernel
theorem dX12_drawn_30 : decode cX12_drawn 30 = .ok (.bipush 94, 2) := by decide +kernel
theorem dX12_drawn_32 : decode cX12_drawn 32 = .ok (.iaload, 1) := by decide +kernel
theorem dX12_drawn_33 : decode cX12_drawn 33 = .ok (.sipush 400, 3) := by decide +kernel
theorem dX12_drawn_36 : decode cX12_drawn 36 = .ok (.if_icmp .ne 5, 3) := by decide +kernel
theorem dX12_drawn_39 : decode cX12_drawn 39 = .ok (.iconst 0, 1) := by decide +kernel
theorem dX12_drawn_40 : decode cX12_drawn 40 = .ok (.ireturn, 1) := by decide +kernel
theorem dX12_drawn_41 : decode cX12_drawn 41 = .ok (.aload_n 0, 1) := by decide +kernel
theorem dX12_drawn_42 : decode cX12_drawn 42 = .ok (.invokevirtual 343, 3) := by decide +kernel
theorem dX12_drawn_45 : decode cX12_drawn 45 = .ok (.aload_n 0, 1) := by decide +kernel
theorem dX12_drawn_46 : decode cX12_drawn 46 = .ok (.iload_n 1, 1) := by decide +kernel
theorem dX12_drawn_47 : decode cX12_drawn 47 = .ok (.iload_n 2, 1) := by decide +kernel
theorem dX12_drawn_48 : decode cX12_drawn 48 = .ok (.invokevirtual 438, 3) := by decide +kernel
theorem dX12_drawn_51 : decode cX12_drawn 51 = .ok (.ireturn, 1) := by decide +kernel
theorem okc_X12_drawDays {kn : sKn} {cc : ByteArray} {own : String} {nL : Nat} {D : Nat} {ret : Option FieldType} {ini : Bool} {pc index : Nat} (hD : 10 + 1 ≤ D) (hl : Cond.methodLink own index yX12_drawDays ∈ wsL_law) (hd : decode cc pc = .ok (.invokevirtual index, 3)) : mOk kn cc own nL wsL_law D ret ini pc (a_callV false (fX12_drawDays kn) 13 (2 + 1) (pc + 3)) := ok_callV (mX12_drawDays kn) (good_ws ws_good (fun _ h => h) kw1418) hD (by decide) hl kw1419 kw1420 kw1072 ⟨by decide +kernel, by decide +kernel, by decide +kernel⟩ rfl hd
def tX12_drawn (kn : sKn) : List (Nat × sA) := [(0, a_aload 0 1), (1, a_stk (q_int 0) 2), (2, a_put 13 0 ckI 5), (5, a_iload 1 6), (6, a_stk (q_int 1) 7), (7, a_stk (q_int 60) 9), (9, a_callS false (fX12_isIn kn) 3 12), (12, a_if kn b_eq 0 24 15), (15, a_aload 0 16), (16, a_get 13 14 19), (19, a_stk (q_int 1) 20), (20, a_iald 21), (21, a_if kn b_ne 1 26 24), (24, a_stk (q_int (-1)) 25), (25, a_iret), (26, a_aload 0 27), (27, a_get 13 14 30), (30, a_stk (q_int 94) 32), (32, a_iald 33), (33, a_stk (q_int 400) 36), (36, a_icmp kn b_ne 1 41 39), (39, a_stk (q_int 0) 40), (40, a_iret), (41, a_aload 0 42), (42, a_callV true (fX12_snap kn) 13 1 45), (45, a_aload 0 46), (46, a_iload 1 47), (47, a_iload 2 48), (48, a_callV false (fX12_drawDays kn) 13 3 51), (51, a_iret)]
def fX12_drawn (kn : sKn) : List Value → sW → Option sR := fW (tX12_drawn kn) 3
set_option maxRecDepth 100000 in
set_option maxHeartbeats 4000000 in
theorem mX12_drawn (kn : sKn) : mM kn yX12_drawn (Cond.code yX12_drawn cX12_drawn 3 (some .int) :: wsL_law) 11 false (fX12_drawn kn) := mM_W (fun n => mM_of (own := RX12) (ini := false) rfl (by decide +kernel) (by decide +kernel) (all_c (ok_aload_n dX12_drawn_0 rfl) (all_c (ok_stk (s_iconst dX12_drawn_1 (by decide))) (all_c (okp_X12_0 kw1114 dX12_drawn_2) (all_c (ok_iload_n dX12_drawn_5 rfl) (all_c (ok_stk (s_iconst dX12_drawn_6 (by decide))) (all_c (ok_stk (s_bipush dX12_drawn_7 (by decide))) (all_c (okc_X12_isIn (by decide) kw1126 dX12_drawn_9) (all_c (ok_if_eq dX12_drawn_12 (by decide)) (all_c (ok_aload_n dX12_drawn_15 rfl) (all_c (okg_X12_14 kw1069 dX12_drawn_16) (all_c (ok_stk (s_iconst dX12_drawn_19 (by decide))) (all_c (ok_iald dX12_drawn_20) (all_c (ok_if_ne dX12_drawn_21 (by decide)) (all_c (ok_stk (s_iconst dX12_drawn_24 (by decide))) (all_c (ok_iret dX12_drawn_25) (all_c (ok_aload_n dX12_drawn_26 rfl) (all_c (okg_X12_14 kw1069 dX12_drawn_27) (all_c (ok_stk (s_bipush dX12_drawn_30 (by decide))) (all_c (ok_iald dX12_drawn_32) (all_c (ok_stk (s_sipush dX12_drawn_33 (by decide))) (all_c (ok_icmp_ne dX12_drawn_36 (by decide)) (all_c (ok_stk (s_iconst dX12_drawn_39 (by decide))) (all_c (ok_iret dX12_drawn_40) (all_c (ok_aload_n dX12_drawn_41 rfl) (all_c (okc_X12_snap (by decide) kw1291 dX12_drawn_42) (all_c (ok_aload_n dX12_drawn_45 rfl) (all_c (ok_iload_n dX12_drawn_46 rfl) (all_c (ok_iload_n dX12_drawn_47 rfl) (all_c (okc_X12_drawDays (by decide) kw1421 dX12_drawn_48) (all_c (ok_iret dX12_drawn_51) all_n)))))))))))))))))))))))))))))) n (fun h => by first | rfl | cases h))
theorem dX12_end_0 : decode cX12_end 0 = .ok (.aload_n 0, 1) := by decide +kernel
theorem dX12_end_1 : decode cX12_end 1 = .ok (.iconst 0, 1) := by decide +kernel
theorem dX12_end_2 : decode cX12_end 2 = .ok (.putfield 1, 3) := by decide +kernel
theorem dX12_end_5 : decode cX12_end 5 = .ok (.iload_n 1, 1) := by decide +kernel
theorem dX12_end_6 : decode cX12_end 6 = .ok (.ifCond .lt 11, 3) := by decide +kernel
theorem dX12_end_9 : decode cX12_end 9 = .ok (.iload_n 1, 1) := by decide +kernel
theorem dX12_end_10 : decode cX12_end 10 = .ok (.aload_n 0, 1) := by decide +kernel
theorem dX12_end_11 : decode cX12_end 11 = .ok (.getfield 11, 3) := by decide +kernel
theorem dX12_end_14 : decode cX12_end 14 = .ok (.if_icmp .le 5, 3) := by decide +kernel
theorem dX12_end_17 : decode cX12_end 17 = .ok (.iconst 0, 1) := by decide +kernel
theorem dX12_end_18 : decode cX12_end 18 = .ok (.ireturn, 1) := by decide +kernel
theorem dX12_end_19 : decode cX12_end 19 = .ok (.aload_n 0, 1) := by decide +kernel
theorem dX12_end_20 : decode cX12_end 20 = .ok (.iload_n 1, 1) := by decide +kernel
theorem dX12_end_21 : decode cX12_end 21 = .ok (.putfield 11, 3) := by decide +kernel
theorem dX12_end_24 : decode cX12_end 24 = .ok (.iconst 1, 1) := by decide +kernel
theorem dX12_end_25 : decode cX12_end 25 = .ok (.ireturn, 1) := by decide +kernel
def tX12_end (kn : sKn) : List (Nat × sA) := [(0, a_aload 0 1), (1, a_stk (q_int 0) 2), (2, a_put 13 0 ckI 5), (5, a_iload 1 6), (6, a_if kn b_lt 2 17 9), (9, a_iload 1 10), (10, a_aload 0 11), (11, a_get 13 2 14), (14, a_icmp kn b_le 5 19 17), (17, a_stk (q_int 0) 18), (18, a_zret), (19, a_aload 0 20), (20, a_iload 1 21), (21, a_put 13 2 ckI 24), (24, a_stk (q_int 1) 25), (25, a_zret)]
def fX12_end (kn : sKn) : List Value → sW → Option sR := fW (tX12_end kn) 2
set_option maxRecDepth 100000 in
set_option maxHeartbeats 4000000 in
theorem mX12_end (kn : sKn) : mM kn yX12_end (Cond.code yX12_end cX12_end 2 (some .boolean) :: wsL_law) 1 false (fX12_end kn) := mM_W (fun n => mM_of (own := RX12) (ini := false) rfl (by decide +kernel) (by decide +kernel) (all_c (ok_aload_n dX12_end_0 rfl) (all_c (ok_stk (s_iconst dX12_end_1 (by decide))) (all_c (okp_X12_0 kw1114 dX12_end_2) (all_c (ok_iload_n dX12_end_5 rfl) (all_c (ok_if_lt dX12_end_6 (by decide)) (all_c (ok_iload_n dX12_end_9 rfl) (all_c (ok_aload_n dX12_end_10 rfl) (all_c (okg_X12_2 kw1171 dX12_end_11) (all_c (ok_icmp_le dX12_end_14 (by decide)) (all_c (ok_stk (s_iconst dX12_end_17 (by decide))) (all_c (ok_zret dX12_end_18) (all_c (ok_aload_n dX12_end_19 rfl) (all_c (ok_iload_n dX12_end_20 rfl) (all_c (okp_X12_2 kw1171 dX12_end_21) (all_c (ok_stk (s_iconst dX12_end_24 (by decide))) (all_c (ok_zret dX12_end_25) all_n)))))))))))))))) n (fun h => by first | rfl | cases h))
theorem dX12_fault_0 : decode cX12_fault 0 = .ok (.aload_n 0, 1) := by decide +kernel
theorem dX12_fault_1 : decode cX12_fault 1 = .ok (.iconst 0, 1) := by decide +kernel
theorem dX12_fault_2 : decode cX12_fault 2 = .ok (.putfield 1, 3) := by decide +kernel
theorem dX12_fault_5 : decode cX12_fault 5 = .ok (.aload_n 0, 1) := by decide +kernel
theorem dX12_fault_6 : decode cX12_fault 6 = .ok (.getfield 66, 3) := by decide +kernel
theorem dX12_fault_9 : decode cX12_fault 9 = .ok (.ireturn, 1) := by decide +kernel
def tX12_fault (kn : sKn) : List (Nat × sA) := [(0, a_aload 0 1), (1, a_stk (q_int 0) 2), (2, a_put 13 0 ckI 5), (5, a_aload 0 6), (6, a_get 13 10 9), (9, a_iret)]
def fX12_fault (kn : sKn) : List Value → sW → Option sR := fW (tX12_fault kn) 1
set_option maxRecDepth 100000 in
set_option maxHeartbeats 4000000 in
theorem mX12_fault (kn : sKn) : mM kn yX12_fault (Cond.code yX12_fault cX12_fault 1 (some .int) :: wsL_law) 1 false (fX12_fault kn) := mM_W (fun n => mM_of (own := RX12) (ini := false) rfl (by decide +kernel) (by decide +kernel) (all_c (ok_aload_n dX12_fault_0 rfl) (all_c (ok_stk (s_iconst dX12_fault_1 (by decide))) (all_c (okp_X12_0 kw1114 dX12_fault_2) (all_c (ok_aload_n dX12_fault_5 rfl) (all_c (okg_X12_10 kw1149 dX12_fault_6) (all_c (ok_iret dX12_fault_9) all_n)))))) n (fun h => by first | rfl | cases h))
theorem dX12_feed_0 : decode cX12_feed 0 = .ok (.aload_n 0, 1) := by decide +kernel
theorem dX12_feed_1 : decode cX12_feed 1 = .ok (.iconst 0, 1) := by decide +kernel
theorem dX12_feed_2 : decode cX12_feed 2 = .ok (.putfield 1, 3) := by decide +kernel
theorem dX12_feed_5 : decode cX12_feed 5 = .ok (.aload_n 0, 1) := by decide +kernel
theorem dX12_feed_6 : decode cX12_feed 6 = .ok (.getfield 11, 3) := by decide +kernel
theorem dX12_feed_9 : decode cX12_feed 9 = .ok (.bipush 20, 2) := by decide +kernel
theorem dX12_feed_11 : decode cX12_feed 11 = .ok (.iadd, 1) := by decide +kernel
theorem dX12_feed_12 : decode cX12_feed 12 = .ok (.sipush 940, 3) := by decide +kernel
theorem dX12_feed_15 : decode cX12_feed 15 = .ok (.if_icmp .le 5, 3) := by decide +kernel
theorem dX12_feed_18 : decode cX12_feed 18 = .ok (.iconst (-1), 1) := by decide +kernel
theorem dX12_feed_19 : decode cX12_feed 19 = .ok (.ireturn, 1) := by decide +kernel
theorem dX12_feed_20 : decode cX12_feed 20 = .ok (.aload_n 0, 1) := by decide +kernel
theorem dX12_feed_21 : decode cX12_feed 21 = .ok (.iload_n 1, 1) := by decide +kernel
theorem dX12_feed_22 : decode cX12_feed 22 = .ok (.invokevirtual 14, 3) := by decide +kernel
theorem dX12_feed_25 : decode cX12_feed 25 = .ok (.aload_n 0, 1) := by decide +kernel
theorem dX12_feed_26 : decode cX12_feed 26 = .ok (.iload_n 2, 1) := by decide +kernel
theorem dX12_feed_27 : decode cX12_feed 27 = .ok (.invokevirtual 14, 3) := by decide +kernel
theorem dX12_feed_30 : decode cX12_feed 30 = .ok (.aload_n 0, 1) := by decide +kernel
theorem dX12_feed_31 : decode cX12_feed 31 = .ok (.iload_n 3, 1) := by decide +kernel
theorem dX12_feed_32 : decode cX12_feed 32 = .ok (.invokevirtual 14, 3) := by decide +kernel
theorem dX12_feed_35 : decode cX12_feed 35 = .ok (.aload_n 0, 1) := by decide +kernel
theorem dX12_feed_36 : decode cX12_feed 36 = .ok (.iload 4, 2) := by decide +kernel
theorem dX12_feed_38 : decode cX12_feed 38 = .ok (.invokevirtual 14, 3) := by decide +kernel
theorem dX12_feed_41 : decode cX12_feed 41 = .ok (.aload_n 0, 1) := by decide +kernel
theorem dX12_feed_42 : decode cX12_feed 42 = .ok (.iload 5, 2) := by decide +kernel
theorem dX12_feed_44 : decode cX12_feed 44 = .ok (.invokevirtual 14, 3) := by decide +kernel
theorem dX12_feed_47 : decode cX12_feed 47 = .ok (.aload_n 0, 1) := by decide +kernel
theorem dX12_feed_48 : decode cX12_feed 48 = .ok (.getfield 11, 3) := by decide +kernel
theorem dX12_feed_51 : decode cX12_feed 51 = .ok (.ireturn, 1) := by decide +kernel
theorem okc_X12_come {kn : sKn} {cc : ByteArray} {own : String} {nL : Nat} {D : Nat} {ret : Option FieldType} {ini : Bool} {pc index : Nat} (hD : 1 + 1 ≤ D) (hl : Cond.methodLink own index yX12_come ∈ wsL_law) (hd : decode cc pc = .ok (.invokevirtual index, 3)) : mOk kn cc own nL wsL_law D ret ini pc (a_callV true (fX12_come kn) 13 (1 + 1) (pc + 3)) := ok_callV (mX12_come kn) (good_ws ws_good (fun _ h => h) kw1422) hD (by decide) hl kw1423 kw1424 kw1072 ⟨by decide +kernel, by decide +kernel, by decide +kernel⟩ rfl hd
def tX12_feed (kn : sKn) : List (Nat × sA) := [(0, a_aload 0 1), (1, a_stk (q_int 0) 2), (2, a_put 13 0 ckI 5), (5, a_aload 0 6), (6, a_get 13 2 9), (9, a_stk (q_int 20) 11), (11, a_stk q_iadd 12), (12, a_stk (q_int 940) 15), (15, a_icmp kn b_le 5 20 18), (18, a_stk (q_int (-1)) 19), (19, a_iret), (20, a_aload 0 21), (21, a_iload 1 22), (22, a_callV true (fX12_come kn) 13 2 25), (25, a_aload 0 26), (26, a_iload 2 27), (27, a_callV true (fX12_come kn) 13 2 30), (30, a_aload 0 31), (31, a_iload 3 32), (32, a_callV true (fX12_come kn) 13 2 35), (35, a_aload 0 36), (36, a_iload 4 38), (38, a_callV true (fX12_come kn) 13 2 41), (41, a_aload 0 42), (42, a_iload 5 44), (44, a_callV true (fX12_come kn) 13 2 47), (47, a_aload 0 48), (48, a_get 13 2 51), (51, a_iret)]
def fX12_feed (kn : sKn) : List Value → sW → Option sR := fW (tX12_feed kn) 6
set_option maxRecDepth 100000 in
set_option maxHeartbeats 4000000 in
theorem mX12_feed (kn : sKn) : mM kn yX12_feed (Cond.code yX12_feed cX12_feed 6 (some .int) :: wsL_law) 2 false (fX12_feed kn) := mM_W (fun n => mM_of (own := RX12) (ini := false) rfl (by decide +kernel) (by decide +kernel) (all_c (ok_aload_n dX12_feed_0 rfl) (all_c (ok_stk (s_iconst dX12_feed_1 (by decide))) (all_c (okp_X12_0 kw1114 dX12_feed_2) (all_c (ok_aload_n dX12_feed_5 rfl) (all_c (okg_X12_2 kw1171 dX12_feed_6) (all_c (ok_stk (s_bipush dX12_feed_9 (by decide))) (all_c (ok_stk (s_iadd dX12_feed_11)) (all_c (ok_stk (s_sipush dX12_feed_12 (by decide))) (all_c (ok_icmp_le dX12_feed_15 (by decide)) (all_c (ok_stk (s_iconst dX12_feed_18 (by decide))) (all_c (ok_iret dX12_feed_19) (all_c (ok_aload_n dX12_feed_20 rfl) (all_c (ok_iload_n dX12_feed_21 rfl) (all_c (okc_X12_come (by decide) kw1425 dX12_feed_22) (all_c (ok_aload_n dX12_feed_25 rfl) (all_c (ok_iload_n dX12_feed_26 rfl) (all_c (okc_X12_come (by decide) kw1425 dX12_feed_27) (all_c (ok_aload_n dX12_feed_30 rfl) (all_c (ok_iload_n dX12_feed_31 rfl) (all_c (okc_X12_come (by decide) kw1425 dX12_feed_32) (all_c (ok_aload_n dX12_feed_35 rfl) (all_c (ok_iload dX12_feed_36) (all_c (okc_X12_come (by decide) kw1425 dX12_feed_38) (all_c (ok_aload_n dX12_feed_41 rfl) (all_c (ok_iload dX12_feed_42) (all_c (okc_X12_come (by decide) kw1425 dX12_feed_44) (all_c (ok_aload_n dX12_feed_47 rfl) (all_c (okg_X12_2 kw1171 dX12_feed_48) (all_c (ok_iret dX12_feed_51) all_n))))))))))))))))))))))))))))) n (fun h => by first | rfl | cases h))
theorem dX12_loadsOver_0 : decode cX12_loadsOver 0 = .ok (.iconst 0, 1) := by decide +kernel
theorem dX12_loadsOver_1 : decode cX12_loadsOver 1 = .ok (.istore_n 1, 1) := by decide +kernel
theorem dX12_loadsOver_2 : decode cX12_loadsOver 2 = .ok (.iconst 0, 1) := by decide +kernel
theorem dX12_loadsOver_3 : decode cX12_loadsOver 3 = .ok (.istore_n 2, 1) := by decide +kernel
theorem dX12_loadsOver_4 : decode cX12_loadsOver 4 = .ok (.iload_n 2, 1) := by decide +kernel
theorem dX12_loadsOver_5 : decode cX12_loadsOver 5 = .ok (.aload_n 0, 1) := by decide +kernel
theorem dX12_loadsOver_6 : decode cX12_loadsOver 6 = .ok (.getfield 98, 3) := by decide +kernel
theorem dX12_loadsOver_9 : decode cX12_loadsOver 9 = .ok (.iconst 2, 1) := by decide +kernel
theorem dX12_loadsOver_10 : decode cX12_loadsOver 10 = .ok (.iaload, 1) := by decide +kernel
theorem dX12_loadsOver_11 : decode cX12_loadsOver 11 = .ok (.if_icmp .ge 23, 3) := by decide +kernel
theorem dX12_loadsOver_14 : decode cX12_loadsOver 14 = .ok (.aload_n 0, 1) := by decide +kernel
theorem dX12_loadsOver_15 : decode cX12_loadsOver 15 = .ok (.iload_n 2, 1) := by decide +kernel
theorem dX12_loadsOver_16 : decode cX12_loadsOver 16 = .ok (.invokevirtual 334, 3) := by decide +kernel
theorem dX12_loadsOver_19 : decode cX12_loadsOver 19 = .ok (.ifCond .eq 9, 3) := by decide +kernel
theorem dX12_loadsOver_22 : decode cX12_loadsOver 22 = .ok (.iload_n 1, 1) := by decide +kernel
theorem dX12_loadsOver_23 : decode cX12_loadsOver 23 = .ok (.iconst 1, 1) := by decide +kernel
theorem dX12_loadsOver_24 : decode cX12_loadsOver 24 = .ok (.iload_n 2, 1) := by decide +kernel
theorem dX12_loadsOver_25 : decode cX12_loadsOver 25 = .ok (.ishl, 1) := by decide +kernel
theorem dX12_loadsOver_26 : decode cX12_loadsOver 26 = .ok (.ior, 1) := by decide +kernel
theorem dX12_loadsOver_27 : decode cX12_loadsOver 27 = .ok (.istore_n 1, 1) := by decide +kernel
theorem dX12_loadsOver_28 : decode cX12_loadsOver 28 = .ok (.iinc 2 1, 3) := by decide +kernel
theorem dX12_loadsOver_31 : decode cX12_loadsOver 31 = .ok (.goto (-27), 3) := by decide +kernel
theorem dX12_loadsOver_34 : decode cX12_loadsOver 34 = .ok (.iload_n 1, 1) := by decide +kernel
theorem dX12_loadsOver_35 : decode cX12_loadsOver 35 = .ok (.ireturn, 1) := by decide +kernel
def tX12_loadsOver (kn : sKn) : List (Nat × sA) := [(0, a_stk (q_int 0) 1), (1, a_istore 1 2), (2, a_stk (q_int 0) 3), (3, a_istore 2 4), (4, a_iload 2 5), (5, a_aload 0 6), (6, a_get 13 14 9), (9, a_stk (q_int 2) 10), (10, a_iald 11), (11, a_icmp kn b_ge 3 34 14), (14, a_aload 0 15), (15, a_iload 2 16), (16, a_callV false (fX12_hasPath kn) 13 2 19), (19, a_if kn b_eq 0 28 22), (22, a_iload 1 23), (23, a_stk (q_int 1) 24), (24, a_iload 2 25), (25, a_stk q_ishl 26), (26, a_stk q_ior 27), (27, a_istore 1 28), (28, a_iinc 2 1 31), (31, a_goto 4), (34, a_iload 1 35), (35, a_iret)]
def fX12_loadsOver (kn : sKn) : List Value → sW → Option sR := fW (tX12_loadsOver kn) 3
set_option maxRecDepth 100000 in
set_option maxHeartbeats 4000000 in
theorem mX12_loadsOver (kn : sKn) : mM kn yX12_loadsOver (Cond.code yX12_loadsOver cX12_loadsOver 3 (some .int) :: wsL_law) 9 false (fX12_loadsOver kn) := mM_W (fun n => mM_of (own := RX12) (ini := false) rfl (by decide +kernel) (by decide +kernel) (all_c (ok_stk (s_iconst dX12_loadsOver_0 (by decide))) (all_c (ok_istore_n dX12_loadsOver_1 rfl (by decide)) (all_c (ok_stk (s_iconst dX12_loadsOver_2 (by decide))) (all_c (ok_istore_n dX12_loadsOver_3 rfl (by decide)) (all_c (ok_iload_n dX12_loadsOver_4 rfl) (all_c (ok_aload_n dX12_loadsOver_5 rfl) (all_c (okg_X12_14 kw1069 dX12_loadsOver_6) (all_c (ok_stk (s_iconst dX12_loadsOver_9 (by decide))) (all_c (ok_iald dX12_loadsOver_10) (all_c (ok_icmp_ge dX12_loadsOver_11 (by decide)) (all_c (ok_aload_n dX12_loadsOver_14 rfl) (all_c (ok_iload_n dX12_loadsOver_15 rfl) (all_c (okc_X12_hasPath (by decide) kw1113 dX12_loadsOver_16) (all_c (ok_if_eq dX12_loadsOver_19 (by decide)) (all_c (ok_iload_n dX12_loadsOver_22 rfl) (all_c (ok_stk (s_iconst dX12_loadsOver_23 (by decide))) (all_c (ok_iload_n dX12_loadsOver_24 rfl) (all_c (ok_stk (s_ishl dX12_loadsOver_25)) (all_c (ok_stk (s_ior dX12_loadsOver_26)) (all_c (ok_istore_n dX12_loadsOver_27 rfl (by decide)) (all_c (ok_iinc dX12_loadsOver_28 (by decide) (by decide)) (all_c (ok_goto dX12_loadsOver_31 (by decide)) (all_c (ok_iload_n dX12_loadsOver_34 rfl) (all_c (ok_iret dX12_loadsOver_35) all_n)))))))))))))))))))))))) n (fun h => by first | rfl | cases h))
theorem dX12_forgers_0 : decode cX12_forgers 0 = .ok (.aload_n 0, 1) := by decide +kernel
theorem dX12_forgers_1 : decode cX12_forgers 1 = .ok (.iconst 0, 1) := by decide +kernel
theorem dX12_forgers_2 : decode cX12_forgers 2 = .ok (.putfield 1, 3) := by decide +kernel
theorem dX12_forgers_5 : decode cX12_forgers 5 = .ok (.aload_n 0, 1) := by decide +kernel
theorem dX12_forgers_6 : decode cX12_forgers 6 = .ok (.invokevirtual 89, 3) := by decide +kernel
theorem dX12_forgers_9 : decode cX12_forgers 9 = .ok (.istore_n 1, 1) := by decide +kernel
theorem dX12_forgers_10 : decode cX12_forgers 10 = .ok (.iload_n 1, 1) := by decide +kernel
theorem dX12_forgers_11 : decode cX12_forgers 11 = .ok (.iconst 2, 1) := by decide +kernel
theorem dX12_forgers_12 : decode cX12_forgers 12 = .ok (.irem, 1) := by decide +kernel
theorem dX12_forgers_13 : decode cX12_forgers 13 = .ok (.ifCond .ne 15, 3) := by decide +kernel
theorem dX12_forgers_16 : decode cX12_forgers 16 = .ok (.iload_n 1, 1) := by decide +kernel
theorem dX12_forgers_17 : decode cX12_forgers 17 = .ok (.iconst 2, 1) := by decide +kernel
theorem dX12_forgers_18 : decode cX12_forgers 18 = .ok (.idiv, 1) := by decide +kernel
theorem dX12_forgers_19 : decode cX12_forgers 19 = .ok (.iconst 1, 1) := by decide +kernel
theorem dX12_forgers_20 : decode cX12_forgers 20 = .ok (.bipush 6, 2) := by decide +kernel
theorem dX12_forgers_22 : decode cX12_forgers 22 = .ok (.invokestatic 75, 3) := by decide +kernel
theorem dX12_forgers_25 : decode cX12_forgers 25 = .ok (.ifCond .ne 5, 3) := by decide +kernel
theorem dX12_forgers_28 : decode cX12_forgers 28 = .ok (.iconst (-1), 1) := by decide +kernel
theorem dX12_forgers_29 : decode cX12_forgers 29 = .ok (.ireturn, 1) := by decide +kernel
theorem dX12_forgers_30 : decode cX12_forgers 30 = .ok (.iconst 0, 1) := by decide +kernel
theorem dX12_forgers_31 : decode cX12_forgers 31 = .ok (.istore_n 2, 1) := by decide +kernel
theorem dX12_forgers_32 : decode cX12_forgers 32 = .ok (.iload_n 2, 1) := by decide +kernel
theorem dX12_forgers_33 : decode cX12_forgers 33 = .ok (.iload_n 1, 1) := by decide +kernel
theorem dX12_forgers_34 : decode cX12_forgers 34 = .ok (.if_icmp .ge 36, 3) := by decide +kernel
theorem dX12_forgers_37 : decode cX12_forgers 37 = .ok (.aload_n 0, 1) := by decide +kernel
theorem dX12_forgers_38 : decode cX12_forgers 38 = .ok (.aload_n 0, 1) := by decide +kernel
theorem dX12_forgers_39 : decode cX12_forgers 39 = .ok (.getfield 7, 3) := by decide +kernel
theorem dX12_forgers_42 : decode cX12_forgers 42 = .ok (.iload_n 2, 1) := by decide +kernel
theorem dX12_forgers_43 : decode cX12_forgers 43 = .ok (.iaload, 1) := by decide +kernel
theorem dX12_forgers_44 : decode cX12_forgers 44 = .ok (.invokevirtual 295, 3) := by decide +kernel
theorem dX12_forgers_47 : decode cX12_forgers 47 = .ok (.ifCond .eq 15, 3) := by decide +kernel
theorem dX12_forgers_50 : decode cX12_forgers 50 = .ok (.aload_n 0, 1) := by decide +kernel
theorem dX12_forgers_51 : decode cX12_forgers 51 = .ok (.getfield 7, 3) := by decide +kernel
theorem dX12_forgers_54 : decode cX12_forgers 54 = .ok (.iload_n 2, 1) := by decide +kernel
theorem dX12_forgers_55 : decode cX12_forgers 55 = .ok (.iconst 1, 1) := by decide +kernel
theorem dX12_forgers_56 : decode cX12_forgers 56 = .ok (.iadd, 1) := by decide +kernel
theorem dX12_forgers_57 : decode cX12_forgers 57 = .ok (.iaload, 1) := by decide +kernel
theorem dX12_forgers_58 : decode cX12_forgers 58 = .ok (.iconst 1, 1) := by decide +kernel
theorem dX12_forgers_59 : decode cX12_forgers 59 = .ok (.if_icmp .le 5, 3) := by decide +kernel
theorem dX12_forgers_62 : decode cX12_forgers 62 = .ok (.iconst (-1), 1) := by decide +kernel
theorem dX12_forgers_63 : decode cX12_forgers 63 = .ok (.ireturn, 1) := by decide +kernel
theorem dX12_forgers_64 : decode cX12_forgers 64 = .ok (.iinc 2 2, 3) := by decide +kernel
theorem dX12_forgers_67 : decode cX12_forgers 67 = .ok (.goto (-35), 3) := by decide +kernel
theorem dX12_forgers_70 : decode cX12_forgers 70 = .ok (.aload_n 0, 1) := by decide +kernel
theorem dX12_forgers_71 : decode cX12_forgers 71 = .ok (.invokevirtual 292, 3) := by decide +kernel
theorem dX12_forgers_74 : decode cX12_forgers 74 = .ok (.iconst 0, 1) := by decide +kernel
theorem dX12_forgers_75 : decode cX12_forgers 75 = .ok (.istore_n 2, 1) := by decide +kernel
theorem dX12_forgers_76 : decode cX12_forgers 76 = .ok (.iconst 1, 1) := by decide +kernel
theorem dX12_forgers_77 : decode cX12_forgers 77 = .ok (.aload_n 0, 1) := by decide +kernel
theorem dX12_forgers_78 : decode cX12_forgers 78 = .ok (.getfield 98, 3) := by decide +kernel
theorem dX12_forgers_81 : decode cX12_forgers 81 = .ok (.iconst 1, 1) := by decide +kernel
theorem dX12_forgers_82 : decode cX12_forgers 82 = .ok (.iaload, 1) := by decide +kernel
theorem dX12_forgers_83 : decode cX12_forgers 83 = .ok (.ishl, 1) := by decide +kernel
theorem dX12_forgers_84 : decode cX12_forgers 84 = .ok (.iconst 1, 1) := by decide +kernel
theorem dX12_forgers_85 : decode cX12_forgers 85 = .ok (.isub, 1) := by decide +kernel
theorem dX12_forgers_86 : decode cX12_forgers 86 = .ok (.istore_n 3, 1) := by decide +kernel
theorem dX12_forgers_87 : decode cX12_forgers 87 = .ok (.iconst 0, 1) := by decide +kernel
theorem dX12_forgers_88 : decode cX12_forgers 88 = .ok (.istore 4, 2) := by decide +kernel
theorem dX12_forgers_90 : decode cX12_forgers 90 = .ok (.iload 4, 2) := by decide +kernel
theorem dX12_forgers_92 : decode cX12_forgers 92 = .ok (.bipush 6, 2) := by decide +kernel
theorem dX12_forgers_94 : decode cX12_forgers 94 = .ok (.if_icmp .ge 17, 3) := by decide +kernel
theorem dX12_forgers_97 : decode cX12_forgers 97 = .ok (.aload_n 0, 1) := by decide +kernel
theorem dX12_forgers_98 : decode cX12_forgers 98 = .ok (.getfield 163, 3) := by decide +kernel
theorem dX12_forgers_101 : decode cX12_forgers 101 = .ok (.iload 4, 2) := by decide +kernel
theorem dX12_forgers_103 : decode cX12_forgers 103 = .ok (.iconst 0, 1) := by decide +kernel
theorem dX12_forgers_104 : decode cX12_forgers 104 = .ok (.iastore, 1) := by decide +kernel
theorem dX12_forgers_105 : decode cX12_forgers 105 = .ok (.iinc 4 1, 3) := by decide +kernel
theorem dX12_forgers_108 : decode cX12_forgers 108 = .ok (.goto (-18), 3) := by decide +kernel
theorem dX12_forgers_111 : decode cX12_forgers 111 = .ok (.iconst 0, 1) := by decide +kernel
theorem dX12_forgers_112 : decode cX12_forgers 112 = .ok (.istore 4, 2) := by decide +kernel
theorem dX12_forgers_114 : decode cX12_forgers 114 = .ok (.iload 4, 2) := by decide +kernel
theorem dX12_forgers_116 : decode cX12_forgers 116 = .ok (.iconst 1, 1) := by decide +kernel
theorem dX12_forgers_117 : decode cX12_forgers 117 = .ok (.aload_n 0, 1) := by decide +kernel
theorem dX12_forgers_118 : decode cX12_forgers 118 = .ok (.getfield 98, 3) := by decide +kernel
theorem dX12_forgers_121 : decode cX12_forgers 121 = .ok (.iconst 1, 1) := by decide +kernel
theorem dX12_forgers_122 : decode cX12_forgers 122 = .ok (.iaload, 1) := by decide +kernel
theorem dX12_forgers_123 : decode cX12_forgers 123 = .ok (.ishl, 1) := by decide +kernel
theorem dX12_forgers_124 : decode cX12_forgers 124 = .ok (.if_icmp .ge 137, 3) := by decide +kernel
theorem dX12_forgers_127 : decode cX12_forgers 127 = .ok (.aload_n 0, 1) := by decide +kernel
theorem dX12_forgers_128 : decode cX12_forgers 128 = .ok (.iload 4, 2) := by decide +kernel
theorem dX12_forgers_130 : decode cX12_forgers 130 = .ok (.putfield 267, 3) := by decide +kernel
theorem dX12_forgers_133 : decode cX12_forgers 133 = .ok (.aload_n 0, 1) := by decide +kernel
theorem dX12_forgers_134 : decode cX12_forgers 134 = .ok (.invokevirtual 406, 3) := by decide +kernel
theorem dX12_forgers_137 : decode cX12_forgers 137 = .ok (.istore 5, 2) := by decide +kernel
theorem dX12_forgers_139 : decode cX12_forgers 139 = .ok (.iconst 1, 1) := by decide +kernel
theorem dX12_forgers_140 : decode cX12_forgers 140 = .ok (.istore 6, 2) := by decide +kernel
theorem dX12_forgers_142 : decode cX12_forgers 142 = .ok (.iconst 0, 1) := by decide +kernel
theorem dX12_forgers_143 : decode cX12_forgers 143 = .ok (.istore 7, 2) := by decide +kernel
theorem dX12_forgers_145 : decode cX12_forgers 145 = .ok (.iload 7, 2) := by decide +kernel
theorem dX12_forgers_147 : decode cX12_forgers 147 = .ok (.iload_n 1, 1) := by decide +kernel
theorem dX12_forgers_148 : decode cX12_forgers 148 = .ok (.if_icmp .ge 54, 3) := by decide +kernel
theorem dX12_forgers_151 : decode cX12_forgers 151 = .ok (.iload 6, 2) := by decide +kernel
theorem dX12_forgers_153 : decode cX12_forgers 153 = .ok (.ifCond .eq 40, 3) := by decide +kernel
theorem dX12_forgers_156 : decode cX12_forgers 156 = .ok (.iload 5, 2) := by decide +kernel
theorem dX12_forgers_158 : decode cX12_forgers 158 = .ok (.aload_n 0, 1) := by decide +kernel
theorem dX12_forgers_159 : decode cX12_forgers 159 = .ok (.getfield 7, 3) := by decide +kernel
theorem dX12_forgers_162 : decode cX12_forgers 162 = .ok (.iload 7, 2) := by decide +kernel
theorem dX12_forgers_164 : decode cX12_forgers 164 = .ok (.iaload, 1) := by decide +kernel
theorem dX12_forgers_165 : decode cX12_forgers 165 = .ok (.invokestatic 225, 3) := by decide +kernel
theorem dX12_forgers_168 : decode cX12_forgers 168 = .ok (.aload_n 0, 1) := by decide +kernel
theorem dX12_forgers_169 : decode cX12_forgers 169 = .ok (.getfield 7, 3) := by decide +kernel
theorem dX12_forgers_172 : decode cX12_forgers 172 = .ok (.iload 7, 2) := by decide +kernel
theorem dX12_forgers_174 : decode cX12_forgers 174 = .ok (.iconst 1, 1) := by decide +kernel
theorem dX12_forgers_175 : decode cX12_forgers 175 = .ok (.iadd, 1) := by decide +kernel
theorem dX12_forgers_176 : decode cX12_forgers 176 = .ok (.iaload, 1) := by decide +kernel
theorem dX12_forgers_177 : decode cX12_forgers 177 = .ok (.iconst 1, 1) := by decide +kernel
theorem dX12_forgers_178 : decode cX12_forgers 178 = .ok (.if_icmp .ne 7, 3) := by decide +kernel
theorem dX12_forgers_181 : decode cX12_forgers 181 = .ok (.iconst 1, 1) := by decide +kernel
theorem dX12_forgers_182 : decode cX12_forgers 182 = .ok (.goto 4, 3) := by decide +kernel
theorem dX12_forgers_185 : decode cX12_forgers 185 = .ok (.iconst 0, 1) := by decide +kernel
theorem dX12_forgers_186 : decode cX12_forgers 186 = .ok (.if_icmp .ne 7, 3) := by decide +kernel
theorem dX12_forgers_189 : decode cX12_forgers 189 = .ok (.iconst 1, 1) := by decide +kernel
theorem dX12_forgers_190 : decode cX12_forgers 190 = .ok (.goto 4, 3) := by decide +kernel
theorem dX12_forgers_193 : decode cX12_forgers 193 = .ok (.iconst 0, 1) := by decide +kernel
theorem dX12_forgers_194 : decode cX12_forgers 194 = .ok (.istore 6, 2) := by decide +kernel
theorem dX12_forgers_196 : decode cX12_forgers 196 = .ok (.iinc 7 2, 3) := by decide +kernel
theorem dX12_forgers_199 : decode cX12_forgers 199 = .ok (.goto (-54), 3) := by decide +kernel
theorem dX12_forgers_202 : decode cX12_forgers 202 = .ok (.iload 6, 2) := by decide +kernel
theorem dX12_forgers_204 : decode cX12_forgers 204 = .ok (.ifCond .ne 6, 3) := by decide +kernel
theorem dX12_forgers_207 : decode cX12_forgers 207 = .ok (.goto 48, 3) := by decide +kernel
theorem dX12_forgers_210 : decode cX12_forgers 210 = .ok (.iinc 2 1, 3) := by decide +kernel
theorem dX12_forgers_213 : decode cX12_forgers 213 = .ok (.iload_n 3, 1) := by decide +kernel
theorem dX12_forgers_214 : decode cX12_forgers 214 = .ok (.iload 4, 2) := by decide +kernel
theorem dX12_forgers_216 : decode cX12_forgers 216 = .ok (.iand, 1) := by decide +kernel
theorem dX12_forgers_217 : decode cX12_forgers 217 = .ok (.istore_n 3, 1) := by decide +kernel
theorem dX12_forgers_218 : decode cX12_forgers 218 = .ok (.iconst 0, 1) := by decide +kernel
theorem dX12_forgers_219 : decode cX12_forgers 219 = .ok (.istore 7, 2) := by decide +kernel
theorem dX12_forgers_221 : decode cX12_forgers 221 = .ok (.iload 7, 2) := by decide +kernel
theorem dX12_forgers_223 : decode cX12_forgers 223 = .ok (.bipush 6, 2) := by decide +kernel
theorem dX12_forgers_225 : decode cX12_forgers 225 = .ok (.if_icmp .ge 30, 3) := by decide +kernel
theorem dX12_forgers_228 : decode cX12_forgers 228 = .ok (.iload 5, 2) := by decide +kernel
theorem dX12_forgers_230 : decode cX12_forgers 230 = .ok (.iload 7, 2) := by decide +kernel
theorem dX12_forgers_232 : decode cX12_forgers 232 = .ok (.invokestatic 225, 3) := by decide +kernel
theorem dX12_forgers_235 : decode cX12_forgers 235 = .ok (.ifCond .eq 14, 3) := by decide +kernel
theorem dX12_forgers_238 : decode cX12_forgers 238 = .ok (.aload_n 0, 1) := by decide +kernel
theorem dX12_forgers_239 : decode cX12_forgers 239 = .ok (.getfield 163, 3) := by decide +kernel
theorem dX12_forgers_242 : decode cX12_forgers 242 = .ok (.iload 7, 2) := by decide +kernel
theorem dX12_forgers_244 : decode cX12_forgers 244 = .ok (.dup2, 1) := by decide +kernel
theorem dX12_forgers_245 : decode cX12_forgers 245 = .ok (.iaload, 1) := by decide +kernel
theorem dX12_forgers_246 : decode cX12_forgers 246 = .ok (.iconst 1, 1) := by decide +kernel
theorem dX12_forgers_247 : decode cX12_forgers 247 = .ok (.iadd, 1) := by decide +kernel
theorem dX12_forgers_248 : decode cX12_forgers 248 = .ok (.iastore, 1) := by decide +kernel
theorem dX12_forgers_249 : decode cX12_forgers 249 = .ok (.iinc 7 1, 3) := by decide +kernel
theorem dX12_forgers_252 : decode cX12_forgers 252 = .ok (.goto (-31), 3) := by decide +kernel
theorem dX12_forgers_255 : decode cX12_forgers 255 = .ok (.iinc 4 1, 3) := by decide +kernel
theorem dX12_forgers_258 : decode cX12_forgers 258 = .ok (.goto (-144), 3) := by decide +kernel
theorem dX12_forgers_261 : decode cX12_forgers 261 = .ok (.iload_n 2, 1) := by decide +kernel
theorem dX12_forgers_262 : decode cX12_forgers 262 = .ok (.ifCond .ne 5, 3) := by decide +kernel
theorem dX12_forgers_265 : decode cX12_forgers 265 = .ok (.iconst 0, 1) := by decide +kernel
theorem dX12_forgers_266 : decode cX12_forgers 266 = .ok (.ireturn, 1) := by decide +kernel
theorem dX12_forgers_267 : decode cX12_forgers 267 = .ok (.aload_n 0, 1) := by decide +kernel
theorem dX12_forgers_268 : decode cX12_forgers 268 = .ok (.iload_n 3, 1) := by decide +kernel
theorem dX12_forgers_269 : decode cX12_forgers 269 = .ok (.putfield 166, 3) := by decide +kernel
theorem dX12_forgers_272 : decode cX12_forgers 272 = .ok (.aload_n 0, 1) := by decide +kernel
theorem dX12_forgers_273 : decode cX12_forgers 273 = .ok (.iconst (-1), 1) := by decide +kernel
theorem dX12_forgers_274 : decode cX12_forgers 274 = .ok (.putfield 169, 3) := by decide +kernel
theorem dX12_forgers_277 : decode cX12_forgers 277 = .ok (.ldc_w 308, 3) := by decide +kernel
theorem dX12_forgers_280 : decode cX12_forgers 280 = .ok (.istore 4, 2) := by decide +kernel
theorem dX12_forgers_282 : decode cX12_forgers 282 = .ok (.iconst 0, 1) := by decide +kernel
theorem dX12_forgers_283 : decode cX12_forgers 283 = .ok (.istore 5, 2) := by decide +kernel
theorem dX12_forgers_285 : decode cX12_forgers 285 = .ok (.iload 5, 2) := by decide +kernel
theorem dX12_forgers_287 : decode cX12_forgers 287 = .ok (.aload_n 0, 1) := by decide +kernel
theorem dX12_forgers_288 : decode cX12_forgers 288 = .ok (.getfield 98, 3) := by decide +kernel
theorem dX12_forgers_291 : decode cX12_forgers 291 = .ok (.iconst 2, 1) := by decide +kernel
theorem dX12_forgers_292 : decode cX12_forgers 292 = .ok (.iaload, 1) := by decide +kernel
theorem dX12_forgers_293 : decode cX12_forgers 293 = .ok (.if_icmp .ge 45, 3) := by decide +kernel
theorem dX12_forgers_296 : decode cX12_forgers 296 = .ok (.iconst 2, 1) := by decide +kernel
theorem dX12_forgers_297 : decode cX12_forgers 297 = .ok (.aload_n 0, 1) := by decide +kernel
theorem dX12_forgers_298 : decode cX12_forgers 298 = .ok (.getfield 163, 3) := by decide +kernel
theorem dX12_forgers_301 : decode cX12_forgers 301 = .ok (.iload 5, 2) := by decide +kernel
theorem dX12_forgers_303 : decode cX12_forgers 303 = .ok (.iaload, 1) := by decide +kernel
theorem dX12_forgers_304 : decode cX12_forgers 304 = .ok (.imul, 1) := by decide +kernel
theorem dX12_forgers_305 : decode cX12_forgers 305 = .ok (.iload_n 2, 1) := by decide +kernel
theorem dX12_forgers_306 : decode cX12_forgers 306 = .ok (.isub, 1) := by decide +kernel
theorem dX12_forgers_307 : decode cX12_forgers 307 = .ok (.invokestatic 302, 3) := by decide +kernel
theorem dX12_forgers_310 : decode cX12_forgers 310 = .ok (.istore 6, 2) := by decide +kernel
theorem dX12_forgers_312 : decode cX12_forgers 312 = .ok (.iload 6, 2) := by decide +kernel
theorem dX12_forgers_314 : decode cX12_forgers 314 = .ok (.iload 4, 2) := by decide +kernel
theorem dX12_forgers_316 : decode cX12_forgers 316 = .ok (.if_icmp .lt 6, 3) := by decide +kernel
theorem dX12_forgers_319 : decode cX12_forgers 319 = .ok (.goto 13, 3) := by decide +kernel
theorem dX12_forgers_322 : decode cX12_forgers 322 = .ok (.iload 6, 2) := by decide +kernel
theorem dX12_forgers_324 : decode cX12_forgers 324 = .ok (.istore 4, 2) := by decide +kernel
theorem dX12_forgers_326 : decode cX12_forgers 326 = .ok (.aload_n 0, 1) := by decide +kernel
theorem dX12_forgers_327 : decode cX12_forgers 327 = .ok (.iload 5, 2) := by decide +kernel
theorem dX12_forgers_329 : decode cX12_forgers 329 = .ok (.putfield 169, 3) := by decide +kernel
theorem dX12_forgers_332 : decode cX12_forgers 332 = .ok (.iinc 5 1, 3) := by decide +kernel
theorem dX12_forgers_335 : decode cX12_forgers 335 = .ok (.goto (-50), 3) := by decide +kernel
theorem dX12_forgers_338 : decode cX12_forgers 338 = .ok (.iload_n 2, 1) := by decide +kernel
theorem dX12_forgers_339 : decode cX12_forgers 339 = .ok (.ireturn, 1) := by decide +kernel
theorem okc_X12_loadsOver {kn : sKn} {cc : ByteArray} {own : String} {nL : Nat} {D : Nat} {ret : Option FieldType} {ini : Bool} {pc index : Nat} (hD : 9 + 1 ≤ D) (hl : Cond.methodLink own index yX12_loadsOver ∈ wsL_law) (hd : decode cc pc = .ok (.invokevirtual index, 3)) : mOk kn cc own nL wsL_law D ret ini pc (a_callV false (fX12_loadsOver kn) 13 (0 + 1) (pc + 3)) := ok_callV (mX12_loadsOver kn) (good_ws ws_good (fun _ h => h) kw1427) hD (by decide) hl kw1428 kw1429 kw1072 ⟨by decide +kernel, by decide +kernel, by decide +kernel⟩ rfl hd
def tX12_forgers (kn : sKn) : List (Nat × sA) := [(0, a_aload 0 1), (1, a_stk (q_int 0) 2), (2, a_put 13 0 ckI 5), (5, a_aload 0 6), (6, a_callV false (fX12_take kn) 13 1 9), (9, a_istore 1 10), (10, a_iload 1 11), (11, a_stk (q_int 2) 12), (12, a_stk q_irem 13), (13, a_if kn b_ne 1 28 16), (16, a_iload 1 17), (17, a_stk (q_int 2) 18), (18, a_stk q_idiv 19), (19, a_stk (q_int 1) 20), (20, a_stk (q_int 6) 22), (22, a_callS false (fX12_isIn kn) 3 25), (25, a_if kn b_ne 1 30 28), (28, a_stk (q_int (-1)) 29), (29, a_iret), (30, a_stk (q_int 0) 31), (31, a_istore 2 32), (32, a_iload 2 33), (33, a_iload 1 34), (34, a_icmp kn b_ge 3 70 37), (37, a_aload 0 38), (38, a_aload 0 39), (39, a_get 13 1 42), (42, a_iload 2 43), (43, a_iald 44), (44, a_callV false (fX12_isLoad kn) 13 2 47), (47, a_if kn b_eq 0 62 50), (50, a_aload 0 51), (51, a_get 13 1 54), (54, a_iload 2 55), (55, a_stk (q_int 1) 56), (56, a_stk q_iadd 57), (57, a_iald 58), (58, a_stk (q_int 1) 59), (59, a_icmp kn b_le 5 64 62), (62, a_stk (q_int (-1)) 63), (63, a_iret), (64, a_iinc 2 2 67), (67, a_goto 32), (70, a_aload 0 71), (71, a_callV true (fX12_layWhose kn) 13 1 74), (74, a_stk (q_int 0) 75), (75, a_istore 2 76), (76, a_stk (q_int 1) 77), (77, a_aload 0 78), (78, a_get 13 14 81), (81, a_stk (q_int 1) 82), (82, a_iald 83), (83, a_stk q_ishl 84), (84, a_stk (q_int 1) 85), (85, a_stk q_isub 86), (86, a_istore 3 87), (87, a_stk (q_int 0) 88), (88, a_istore 4 90), (90, a_iload 4 92), (92, a_stk (q_int 6) 94), (94, a_icmp kn b_ge 3 111 97), (97, a_aload 0 98), (98, a_get 13 45 101), (101, a_iload 4 103), (103, a_stk (q_int 0) 104), (104, a_iast 105), (105, a_iinc 4 1 108), (108, a_goto 90), (111, a_stk (q_int 0) 112), (112, a_istore 4 114), (114, a_iload 4 116), (116, a_stk (q_int 1) 117), (117, a_aload 0 118), (118, a_get 13 14 121), (121, a_stk (q_int 1) 122), (122, a_iald 123), (123, a_stk q_ishl 124), (124, a_icmp kn b_ge 3 261 127), (127, a_aload 0 128), (128, a_iload 4 130), (130, a_put 13 28 ckI 133), (133, a_aload 0 134), (134, a_callV false (fX12_loadsOver kn) 13 1 137), (137, a_istore 5 139), (139, a_stk (q_int 1) 140), (140, a_istore 6 142), (142, a_stk (q_int 0) 143), (143, a_istore 7 145), (145, a_iload 7 147), (147, a_iload 1 148), (148, a_icmp kn b_ge 3 202 151), (151, a_iload 6 153), (153, a_if kn b_eq 0 193 156), (156, a_iload 5 158), (158, a_aload 0 159), (159, a_get 13 1 162), (162, a_iload 7 164), (164, a_iald 165), (165, a_callS false (fX12_has kn) 2 168), (168, a_aload 0 169), (169, a_get 13 1 172), (172, a_iload 7 174), (174, a_stk (q_int 1) 175), (175, a_stk q_iadd 176), (176, a_iald 177), (177, a_stk (q_int 1) 178), (178, a_icmp kn b_ne 1 185 181), (181, a_stk (q_int 1) 182), (182, a_goto 186), (185, a_stk (q_int 0) 186), (186, a_icmp kn b_ne 1 193 189), (189, a_stk (q_int 1) 190), (190, a_goto 194), (193, a_stk (q_int 0) 194), (194, a_istore 6 196), (196, a_iinc 7 2 199), (199, a_goto 145), (202, a_iload 6 204), (204, a_if kn b_ne 1 210 207), (207, a_goto 255), (210, a_iinc 2 1 213), (213, a_iload 3 214), (214, a_iload 4 216), (216, a_stk q_iand 217), (217, a_istore 3 218), (218, a_stk (q_int 0) 219), (219, a_istore 7 221), (221, a_iload 7 223), (223, a_stk (q_int 6) 225), (225, a_icmp kn b_ge 3 255 228), (228, a_iload 5 230), (230, a_iload 7 232), (232, a_callS false (fX12_has kn) 2 235), (235, a_if kn b_eq 0 249 238), (238, a_aload 0 239), (239, a_get 13 45 242), (242, a_iload 7 244), (244, a_stk q_dup2 245), (245, a_iald 246), (246, a_stk (q_int 1) 247), (247, a_stk q_iadd 248), (248, a_iast 249), (249, a_iinc 7 1 252), (252, a_goto 221), (255, a_iinc 4 1 258), (258, a_goto 114), (261, a_iload 2 262), (262, a_if kn b_ne 1 267 265), (265, a_stk (q_int 0) 266), (266, a_iret), (267, a_aload 0 268), (268, a_iload 3 269), (269, a_put 13 46 ckI 272), (272, a_aload 0 273), (273, a_stk (q_int (-1)) 274), (274, a_put 13 47 ckI 277), (277, a_stk (q_int (100000)) 280), (280, a_istore 4 282), (282, a_stk (q_int 0) 283), (283, a_istore 5 285), (285, a_iload 5 287), (287, a_aload 0 288), (288, a_get 13 14 291), (291, a_stk (q_int 2) 292), (292, a_iald 293), (293, a_icmp kn b_ge 3 338 296), (296, a_stk (q_int 2) 297), (297, a_aload 0 298), (298, a_get 13 45 301), (301, a_iload 5 303), (303, a_iald 304), (304, a_stk q_imul 305), (305, a_iload 2 306), (306, a_stk q_isub 307), (307, a_callS false (fX12_size kn) 1 310), (310, a_istore 6 312), (312, a_iload 6 314), (314, a_iload 4 316), (316, a_icmp kn b_lt 2 322 319), (319, a_goto 332), (322, a_iload 6 324), (324, a_istore 4 326), (326, a_aload 0 327), (327, a_iload 5 329), (329, a_put 13 47 ckI 332), (332, a_iinc 5 1 335), (335, a_goto 285), (338, a_iload 2 339), (339, a_iret)]
def fX12_forgers (kn : sKn) : List Value → sW → Option sR := fW (tX12_forgers kn) 8
set_option maxRecDepth 100000 in
set_option maxHeartbeats 4000000 in
theorem mX12_forgers (kn : sKn) : mM kn yX12_forgers (Cond.code yX12_forgers cX12_forgers 8 (some .int) :: wsL_law) 10 false (fX12_forgers kn) := mM_W (fun n => mM_of (own := RX12) (ini := false) rfl (by decide +kernel) (by decide +kernel) (all_c (ok_aload_n dX12_forgers_0 rfl) (all_c (ok_stk (s_iconst dX12_forgers_1 (by decide))) (all_c (okp_X12_0 kw1114 dX12_forgers_2) (all_c (ok_aload_n dX12_forgers_5 rfl) (all_c (okc_X12_take (by decide) kw1175 dX12_forgers_6) (all_c (ok_istore_n dX12_forgers_9 rfl (by decide)) (all_c (ok_iload_n dX12_forgers_10 rfl) (all_c (ok_stk (s_iconst dX12_forgers_11 (by decide))) (all_c (ok_stk (s_irem dX12_forgers_12)) (all_c (ok_if_ne dX12_forgers_13 (by decide)) (all_c (ok_iload_n dX12_forgers_16 rfl) (all_c (ok_stk (s_iconst dX12_forgers_17 (by decide))) (all_c (ok_stk (s_idiv dX12_forgers_18)) (all_c (ok_stk (s_iconst dX12_forgers_19 (by decide))) (all_c (ok_stk (s_bipush dX12_forgers_20 (by decide))) (all_c (okc_X12_isIn (by decide) kw1126 dX12_forgers_22) (all_c (ok_if_ne dX12_forgers_25 (by decide)) (all_c (ok_stk (s_iconst dX12_forgers_28 (by decide))) (all_c (ok_iret dX12_forgers_29) (all_c (ok_stk (s_iconst dX12_forgers_30 (by decide))) (all_c (ok_istore_n dX12_forgers_31 rfl (by decide)) (all_c (ok_iload_n dX12_forgers_32 rfl) (all_c (ok_iload_n dX12_forgers_33 rfl) (all_c (ok_icmp_ge dX12_forgers_34 (by decide)) (all_c (ok_aload_n dX12_forgers_37 rfl) (all_c (ok_aload_n dX12_forgers_38 rfl) (all_c (okg_X12_1 kw1153 dX12_forgers_39) (all_c (ok_iload_n dX12_forgers_42 rfl) (all_c (ok_iald dX12_forgers_43) (all_c (okc_X12_isLoad (by decide) kw1142 dX12_forgers_44) (all_c (ok_if_eq dX12_forgers_47 (by decide)) (all_c (ok_aload_n dX12_forgers_50 rfl) (all_c (okg_X12_1 kw1153 dX12_forgers_51) (all_c (ok_iload_n dX12_forgers_54 rfl) (all_c (ok_stk (s_iconst dX12_forgers_55 (by decide))) (all_c (ok_stk (s_iadd dX12_forgers_56)) (all_c (ok_iald dX12_forgers_57) (all_c (ok_stk (s_iconst dX12_forgers_58 (by decide))) (all_c (ok_icmp_le dX12_forgers_59 (by decide)) (all_c (ok_stk (s_iconst dX12_forgers_62 (by decide))) (all_c (ok_iret dX12_forgers_63) (all_c (ok_iinc dX12_forgers_64 (by decide) (by decide)) (all_c (ok_goto dX12_forgers_67 (by decide)) (all_c (ok_aload_n dX12_forgers_70 rfl) (all_c (okc_X12_layWhose (by decide) kw1118 dX12_forgers_71) (all_c (ok_stk (s_iconst dX12_forgers_74 (by decide))) (all_c (ok_istore_n dX12_forgers_75 rfl (by decide)) (all_c (ok_stk (s_iconst dX12_forgers_76 (by decide))) (all_c (ok_aload_n dX12_forgers_77 rfl) (all_c (okg_X12_14 kw1069 dX12_forgers_78) (all_c (ok_stk (s_iconst dX12_forgers_81 (by decide))) (all_c (ok_iald dX12_forgers_82) (all_c (ok_stk (s_ishl dX12_forgers_83)) (all_c (ok_stk (s_iconst dX12_forgers_84 (by decide))) (all_c (ok_stk (s_isub dX12_forgers_85)) (all_c (ok_istore_n dX12_forgers_86 rfl (by decide)) (all_c (ok_stk (s_iconst dX12_forgers_87 (by decide))) (all_c (ok_istore dX12_forgers_88 (by decide)) (all_c (ok_iload dX12_forgers_90) (all_c (ok_stk (s_bipush dX12_forgers_92 (by decide))) (all_c (ok_icmp_ge dX12_forgers_94 (by decide)) (all_c (ok_aload_n dX12_forgers_97 rfl) (all_c (okg_X12_45 kw1426 dX12_forgers_98) (all_c (ok_iload dX12_forgers_101) (all_c (ok_stk (s_iconst dX12_forgers_103 (by decide))) (all_c (ok_iast dX12_forgers_104) (all_c (ok_iinc dX12_forgers_105 (by decide) (by decide)) (all_c (ok_goto dX12_forgers_108 (by decide)) (all_c (ok_stk (s_iconst dX12_forgers_111 (by decide))) (all_c (ok_istore dX12_forgers_112 (by decide)) (all_c (ok_iload dX12_forgers_114) (all_c (ok_stk (s_iconst dX12_forgers_116 (by decide))) (all_c (ok_aload_n dX12_forgers_117 rfl) (all_c (okg_X12_14 kw1069 dX12_forgers_118) (all_c (ok_stk (s_iconst dX12_forgers_121 (by decide))) (all_c (ok_iald dX12_forgers_122) (all_c (ok_stk (s_ishl dX12_forgers_123)) (all_c (ok_icmp_ge dX12_forgers_124 (by decide)) (all_c (ok_aload_n dX12_forgers_127 rfl) (all_c (ok_iload dX12_forgers_128) (all_c (okp_X12_28 kw1070 dX12_forgers_130) (all_c (ok_aload_n dX12_forgers_133 rfl) (all_c (okc_X12_loadsOver (by decide) kw1430 dX12_forgers_134) (all_c (ok_istore dX12_forgers_137 (by decide)) (all_c (ok_stk (s_iconst dX12_forgers_139 (by decide))) (all_c (ok_istore dX12_forgers_140 (by decide)) (all_c (ok_stk (s_iconst dX12_forgers_142 (by decide))) (all_c (ok_istore dX12_forgers_143 (by decide)) (all_c (ok_iload dX12_forgers_145) (all_c (ok_iload_n dX12_forgers_147 rfl) (all_c (ok_icmp_ge dX12_forgers_148 (by decide)) (all_c (ok_iload dX12_forgers_151) (all_c (ok_if_eq dX12_forgers_153 (by decide)) (all_c (ok_iload dX12_forgers_156) (all_c (ok_aload_n dX12_forgers_158 rfl) (all_c (okg_X12_1 kw1153 dX12_forgers_159) (all_c (ok_iload dX12_forgers_162) (all_c (ok_iald dX12_forgers_164) (all_c (okc_X12_has (by decide) kw1077 dX12_forgers_165) (all_c (ok_aload_n dX12_forgers_168 rfl) (all_c (okg_X12_1 kw1153 dX12_forgers_169) (all_c (ok_iload dX12_forgers_172) (all_c (ok_stk (s_iconst dX12_forgers_174 (by decide))) (all_c (ok_stk (s_iadd dX12_forgers_175)) (all_c (ok_iald dX12_forgers_176) (all_c (ok_stk (s_iconst dX12_forgers_177 (by decide))) (all_c (ok_icmp_ne dX12_forgers_178 (by decide)) (all_c (ok_stk (s_iconst dX12_forgers_181 (by decide))) (all_c (ok_goto dX12_forgers_182 (by decide)) (all_c (ok_stk (s_iconst dX12_forgers_185 (by decide))) (all_c (ok_icmp_ne dX12_forgers_186 (by decide)) (all_c (ok_stk (s_iconst dX12_forgers_189 (by decide))) (all_c (ok_goto dX12_forgers_190 (by decide)) (all_c (ok_stk (s_iconst dX12_forgers_193 (by decide))) (all_c (ok_istore dX12_forgers_194 (by decide)) (all_c (ok_iinc dX12_forgers_196 (by decide) (by decide)) (all_c (ok_goto dX12_forgers_199 (by decide)) (all_c (ok_iload dX12_forgers_202) (all_c (ok_if_ne dX12_forgers_204 (by decide)) (all_c (ok_goto dX12_forgers_207 (by decide)) (all_c (ok_iinc dX12_forgers_210 (by decide) (by decide)) (all_c (ok_iload_n dX12_forgers_213 rfl) (all_c (ok_iload dX12_forgers_214) (all_c (ok_stk (s_iand dX12_forgers_216)) (all_c (ok_istore_n dX12_forgers_217 rfl (by decide)) (all_c (ok_stk (s_iconst dX12_forgers_218 (by decide))) (all_c (ok_istore dX12_forgers_219 (by decide)) (all_c (ok_iload dX12_forgers_221) (all_c (ok_stk (s_bipush dX12_forgers_223 (by decide))) (all_c (ok_icmp_ge dX12_forgers_225 (by decide)) (all_c (ok_iload dX12_forgers_228) (all_c (ok_iload dX12_forgers_230) (all_c (okc_X12_has (by decide) kw1077 dX12_forgers_232) (all_c (ok_if_eq dX12_forgers_235 (by decide)) (all_c (ok_aload_n dX12_forgers_238 rfl) (all_c (okg_X12_45 kw1426 dX12_forgers_239) (all_c (ok_iload dX12_forgers_242) (all_c (ok_stk (s_dup2 dX12_forgers_244)) (all_c (ok_iald dX12_forgers_245) (all_c (ok_stk (s_iconst dX12_forgers_246 (by decide))) (all_c (ok_stk (s_iadd dX12_forgers_247)) (all_c (ok_iast dX12_forgers_248) (all_c (ok_iinc dX12_forgers_249 (by decide) (by decide)) (all_c (ok_goto dX12_forgers_252 (by decide)) (all_c (ok_iinc dX12_forgers_255 (by decide) (by decide)) (all_c (ok_goto dX12_forgers_258 (by decide)) (all_c (ok_iload_n dX12_forgers_261 rfl) (all_c (ok_if_ne dX12_forgers_262 (by decide)) (all_c (ok_stk (s_iconst dX12_forgers_265 (by decide))) (all_c (ok_iret dX12_forgers_266) (all_c (ok_aload_n dX12_forgers_267 rfl) (all_c (ok_iload_n dX12_forgers_268 rfl) (all_c (okp_X12_46 kw1431 dX12_forgers_269) (all_c (ok_aload_n dX12_forgers_272 rfl) (all_c (ok_stk (s_iconst dX12_forgers_273 (by decide))) (all_c (okp_X12_47 kw1432 dX12_forgers_274) (all_c (ok_ldcw kw1094 dX12_forgers_277) (all_c (ok_istore dX12_forgers_280 (by decide)) (all_c (ok_stk (s_iconst dX12_forgers_282 (by decide))) (all_c (ok_istore dX12_forgers_283 (by decide)) (all_c (ok_iload dX12_forgers_285) (all_c (ok_aload_n dX12_forgers_287 rfl) (all_c (okg_X12_14 kw1069 dX12_forgers_288) (all_c (ok_stk (s_iconst dX12_forgers_291 (by decide))) (all_c (ok_iald dX12_forgers_292) (all_c (ok_icmp_ge dX12_forgers_293 (by decide)) (all_c (ok_stk (s_iconst dX12_forgers_296 (by decide))) (all_c (ok_aload_n dX12_forgers_297 rfl) (all_c (okg_X12_45 kw1426 dX12_forgers_298) (all_c (ok_iload dX12_forgers_301) (all_c (ok_iald dX12_forgers_303) (all_c (ok_stk (s_imul dX12_forgers_304)) (all_c (ok_iload_n dX12_forgers_305 rfl) (all_c (ok_stk (s_isub dX12_forgers_306)) (all_c (okc_X12_size (by decide) kw1074 dX12_forgers_307) (all_c (ok_istore dX12_forgers_310 (by decide)) (all_c (ok_iload dX12_forgers_312) (all_c (ok_iload dX12_forgers_314) (all_c (ok_icmp_lt dX12_forgers_316 (by decide)) (all_c (ok_goto dX12_forgers_319 (by decide)) (all_c (ok_iload dX12_forgers_322) (all_c (ok_istore dX12_forgers_324 (by decide)) (all_c (ok_aload_n dX12_forgers_326 rfl) (all_c (ok_iload dX12_forgers_327) (all_c (okp_X12_47 kw1432 dX12_forgers_329) (all_c (ok_iinc dX12_forgers_332 (by decide) (by decide)) (all_c (ok_goto dX12_forgers_335 (by decide)) (all_c (ok_iload_n dX12_forgers_338 rfl) (all_c (ok_iret dX12_forgers_339) all_n))))))))))))))))))))))))))))))))))))))))))))))))))))))))))))))))))))))))))))))))))))))))))))))))))))))))))))))))))))))))))))))))))))))))))))))))))))))))))))))))))))))))))))))))))))))))))))) n (fun h => by first | rfl | cases h))
theorem dX12_goesOn_0 : decode cX12_goesOn 0 = .ok (.iconst 0, 1) := by decide +kernel
theorem dX12_goesOn_1 : decode cX12_goesOn 1 = .ok (.istore_n 3, 1) := by decide +kernel
theorem dX12_goesOn_2 : decode cX12_goesOn 2 = .ok (.aload_n 0, 1) := by decide +kernel
theorem dX12_goesOn_3 : decode cX12_goesOn 3 = .ok (.invokevirtual 292, 3) := by decide +kernel
theorem dX12_goesOn_6 : decode cX12_goesOn 6 = .ok (.iload_n 3, 1) := by decide +kernel
theorem dX12_goesOn_7 : decode cX12_goesOn 7 = .ok (.iload_n 2, 1) := by decide +kernel
theorem dX12_goesOn_8 : decode cX12_goesOn 8 = .ok (.if_icmp .ge 27, 3) := by decide +kernel
theorem dX12_goesOn_11 : decode cX12_goesOn 11 = .ok (.aload_n 0, 1) := by decide +kernel
theorem dX12_goesOn_12 : decode cX12_goesOn 12 = .ok (.iload_n 1, 1) := by decide +kernel
theorem dX12_goesOn_13 : decode cX12_goesOn 13 = .ok (.invokevirtual 334, 3) := by decide +kernel
theorem dX12_goesOn_16 : decode cX12_goesOn 16 = .ok (.ifCond .eq 19, 3) := by decide +kernel
theorem dX12_goesOn_19 : decode cX12_goesOn 19 = .ok (.aload_n 0, 1) := by decide +kernel
theorem dX12_goesOn_20 : decode cX12_goesOn 20 = .ok (.iconst 1, 1) := by decide +kernel
theorem dX12_goesOn_21 : decode cX12_goesOn 21 = .ok (.invokevirtual 367, 3) := by decide +kernel
theorem dX12_goesOn_24 : decode cX12_goesOn 24 = .ok (.pop, 1) := by decide +kernel
theorem dX12_goesOn_25 : decode cX12_goesOn 25 = .ok (.aload_n 0, 1) := by decide +kernel
theorem dX12_goesOn_26 : decode cX12_goesOn 26 = .ok (.invokevirtual 292, 3) := by decide +kernel
theorem dX12_goesOn_29 : decode cX12_goesOn 29 = .ok (.iinc 3 1, 3) := by decide +kernel
theorem dX12_goesOn_32 : decode cX12_goesOn 32 = .ok (.goto (-26), 3) := by decide +kernel
theorem dX12_goesOn_35 : decode cX12_goesOn 35 = .ok (.iload_n 3, 1) := by decide +kernel
theorem dX12_goesOn_36 : decode cX12_goesOn 36 = .ok (.ireturn, 1) := by decide +kernel
def tX12_goesOn (kn : sKn) : List (Nat × sA) := [(0, a_stk (q_int 0) 1), (1, a_istore 3 2), (2, a_aload 0 3), (3, a_callV true (fX12_layWhose kn) 13 1 6), (6, a_iload 3 7), (7, a_iload 2 8), (8, a_icmp kn b_ge 3 35 11), (11, a_aload 0 12), (12, a_iload 1 13), (13, a_callV false (fX12_hasPath kn) 13 2 16), (16, a_if kn b_eq 0 35 19), (19, a_aload 0 20), (20, a_stk (q_int 1) 21), (21, a_callV false (fX12_passDays kn) 13 2 24), (24, a_stk q_pop 25), (25, a_aload 0 26), (26, a_callV true (fX12_layWhose kn) 13 1 29), (29, a_iinc 3 1 32), (32, a_goto 6), (35, a_iload 3 36), (36, a_iret)]
def fX12_goesOn (kn : sKn) : List Value → sW → Option sR := fW (tX12_goesOn kn) 4
set_option maxRecDepth 100000 in
set_option maxHeartbeats 4000000 in
theorem mX12_goesOn (kn : sKn) : mM kn yX12_goesOn (Cond.code yX12_goesOn cX12_goesOn 4 (some .int) :: wsL_law) 9 false (fX12_goesOn kn) := mM_W (fun n => mM_of (own := RX12) (ini := false) rfl (by decide +kernel) (by decide +kernel) (all_c (ok_stk (s_iconst dX12_goesOn_0 (by decide))) (all_c (ok_istore_n dX12_goesOn_1 rfl (by decide)) (all_c (ok_aload_n dX12_goesOn_2 rfl) (all_c (okc_X12_layWhose (by decide) kw1118 dX12_goesOn_3) (all_c (ok_iload_n dX12_goesOn_6 rfl) (all_c (ok_iload_n dX12_goesOn_7 rfl) (all_c (ok_icmp_ge dX12_goesOn_8 (by decide)) (all_c (ok_aload_n dX12_goesOn_11 rfl) (all_c (ok_iload_n dX12_goesOn_12 rfl) (all_c (okc_X12_hasPath (by decide) kw1113 dX12_goesOn_13) (all_c (ok_if_eq dX12_goesOn_16 (by decide)) (all_c (ok_aload_n dX12_goesOn_19 rfl) (all_c (ok_stk (s_iconst dX12_goesOn_20 (by decide))) (all_c (okc_X12_passDays (by decide) kw1233 dX12_goesOn_21) (all_c (ok_stk (s_pop dX12_goesOn_24)) (all_c (ok_aload_n dX12_goesOn_25 rfl) (all_c (okc_X12_layWhose (by decide) kw1118 dX12_goesOn_26) (all_c (ok_iinc dX12_goesOn_29 (by decide) (by decide)) (all_c (ok_goto dX12_goesOn_32 (by decide)) (all_c (ok_iload_n dX12_goesOn_35 rfl) (all_c (ok_iret dX12_goesOn_36) all_n))))))))))))))))))))) n (fun h => by first | rfl | cases h))
theorem dX12_holds_0 : decode cX12_holds 0 = .ok (.aload_n 0, 1) := by decide +kernel
theorem dX12_holds_1 : decode cX12_holds 1 = .ok (.iconst 0, 1) := by decide +kernel
theorem dX12_holds_2 : decode cX12_holds 2 = .ok (.putfield 1, 3) := by decide +kernel
theorem dX12_holds_5 : decode cX12_holds 5 = .ok (.aload_n 0, 1) := by decide +kernel
theorem dX12_holds_6 : decode cX12_holds 6 = .ok (.iload_n 1, 1) := by decide +kernel
theorem dX12_holds_7 : decode cX12_holds 7 = .ok (.invokevirtual 277, 3) := by decide +kernel
theorem dX12_holds_10 : decode cX12_holds 10 = .ok (.ifCond .ne 5, 3) := by decide +kernel
theorem dX12_holds_13 : decode cX12_holds 13 = .ok (.iconst (-1), 1) := by decide +kernel
theorem dX12_holds_14 : decode cX12_holds 14 = .ok (.ireturn, 1) := by decide +kernel
theorem dX12_holds_15 : decode cX12_holds 15 = .ok (.aload_n 0, 1) := by decide +kernel
theorem dX12_holds_16 : decode cX12_holds 16 = .ok (.iload_n 1, 1) := by decide +kernel
theorem dX12_holds_17 : decode cX12_holds 17 = .ok (.invokevirtual 352, 3) := by decide +kernel
theorem dX12_holds_20 : decode cX12_holds 20 = .ok (.istore_n 2, 1) := by decide +kernel
theorem dX12_holds_21 : decode cX12_holds 21 = .ok (.iload_n 2, 1) := by decide +kernel
theorem dX12_holds_22 : decode cX12_holds 22 = .ok (.ifCond .eq 5, 3) := by decide +kernel
theorem dX12_holds_25 : decode cX12_holds 25 = .ok (.iload_n 2, 1) := by decide +kernel
theorem dX12_holds_26 : decode cX12_holds 26 = .ok (.ireturn, 1) := by decide +kernel
theorem dX12_holds_27 : decode cX12_holds 27 = .ok (.aload_n 0, 1) := by decide +kernel
theorem dX12_holds_28 : decode cX12_holds 28 = .ok (.invokevirtual 343, 3) := by decide +kernel
theorem dX12_holds_31 : decode cX12_holds 31 = .ok (.aload_n 0, 1) := by decide +kernel
theorem dX12_holds_32 : decode cX12_holds 32 = .ok (.getfield 98, 3) := by decide +kernel
theorem dX12_holds_35 : decode cX12_holds 35 = .ok (.bipush 98, 2) := by decide +kernel
theorem dX12_holds_37 : decode cX12_holds 37 = .ok (.iload_n 1, 1) := by decide +kernel
theorem dX12_holds_38 : decode cX12_holds 38 = .ok (.iadd, 1) := by decide +kernel
theorem dX12_holds_39 : decode cX12_holds 39 = .ok (.dup2, 1) := by decide +kernel
theorem dX12_holds_40 : decode cX12_holds 40 = .ok (.iaload, 1) := by decide +kernel
theorem dX12_holds_41 : decode cX12_holds 41 = .ok (.iconst 1, 1) := by decide +kernel
theorem dX12_holds_42 : decode cX12_holds 42 = .ok (.iadd, 1) := by decide +kernel
theorem dX12_holds_43 : decode cX12_holds 43 = .ok (.iastore, 1) := by decide +kernel
theorem dX12_holds_44 : decode cX12_holds 44 = .ok (.iconst 0, 1) := by decide +kernel
theorem dX12_holds_45 : decode cX12_holds 45 = .ok (.ireturn, 1) := by decide +kernel
def tX12_holds (kn : sKn) : List (Nat × sA) := [(0, a_aload 0 1), (1, a_stk (q_int 0) 2), (2, a_put 13 0 ckI 5), (5, a_aload 0 6), (6, a_iload 1 7), (7, a_callV false (fX12_isSigner kn) 13 2 10), (10, a_if kn b_ne 1 15 13), (13, a_stk (q_int (-1)) 14), (14, a_iret), (15, a_aload 0 16), (16, a_iload 1 17), (17, a_callV false (fX12_whyHold kn) 13 2 20), (20, a_istore 2 21), (21, a_iload 2 22), (22, a_if kn b_eq 0 27 25), (25, a_iload 2 26), (26, a_iret), (27, a_aload 0 28), (28, a_callV true (fX12_snap kn) 13 1 31), (31, a_aload 0 32), (32, a_get 13 14 35), (35, a_stk (q_int 98) 37), (37, a_iload 1 38), (38, a_stk q_iadd 39), (39, a_stk q_dup2 40), (40, a_iald 41), (41, a_stk (q_int 1) 42), (42, a_stk q_iadd 43), (43, a_iast 44), (44, a_stk (q_int 0) 45), (45, a_iret)]
def fX12_holds (kn : sKn) : List Value → sW → Option sR := fW (tX12_holds kn) 3
set_option maxRecDepth 100000 in
set_option maxHeartbeats 4000000 in
theorem mX12_holds (kn : sKn) : mM kn yX12_holds (Cond.code yX12_holds cX12_holds 3 (some .int) :: wsL_law) 4 false (fX12_holds kn) := mM_W (fun n => mM_of (own := RX12) (ini := false) rfl (by decide +kernel) (by decide +kernel) (all_c (ok_aload_n dX12_holds_0 rfl) (all_c (ok_stk (s_iconst dX12_holds_1 (by decide))) (all_c (okp_X12_0 kw1114 dX12_holds_2) (all_c (ok_aload_n dX12_holds_5 rfl) (all_c (ok_iload_n dX12_holds_6 rfl) (all_c (okc_X12_isSigner (by decide) kw1337 dX12_holds_7) (all_c (ok_if_ne dX12_holds_10 (by decide)) (all_c (ok_stk (s_iconst dX12_holds_13 (by decide))) (all_c (ok_iret dX12_holds_14) (all_c (ok_aload_n dX12_holds_15 rfl) (all_c (ok_iload_n dX12_holds_16 rfl) (all_c (okc_X12_whyHold (by decide) kw1307 dX12_holds_17) (all_c (ok_istore_n dX12_holds_20 rfl (by decide)) (all_c (ok_iload_n dX12_holds_21 rfl) (all_c (ok_if_eq dX12_holds_22 (by decide)) (all_c (ok_iload_n dX12_holds_25 rfl) (all_c (ok_iret dX12_holds_26) (all_c (ok_aload_n dX12_holds_27 rfl) (all_c (okc_X12_snap (by decide) kw1291 dX12_holds_28) (all_c (ok_aload_n dX12_holds_31 rfl) (all_c (okg_X12_14 kw1069 dX12_holds_32) (all_c (ok_stk (s_bipush dX12_holds_35 (by decide))) (all_c (ok_iload_n dX12_holds_37 rfl) (all_c (ok_stk (s_iadd dX12_holds_38)) (all_c (ok_stk (s_dup2 dX12_holds_39)) (all_c (ok_iald dX12_holds_40) (all_c (ok_stk (s_iconst dX12_holds_41 (by decide))) (all_c (ok_stk (s_iadd dX12_holds_42)) (all_c (ok_iast dX12_holds_43) (all_c (ok_stk (s_iconst dX12_holds_44 (by decide))) (all_c (ok_iret dX12_holds_45) all_n))))))))))))))))))))))))))))))) n (fun h => by first | rfl | cases h))
theorem dX12_isOn_0 : decode cX12_isOn 0 = .ok (.iconst 0, 1) := by decide +kernel
theorem dX12_isOn_1 : decode cX12_isOn 1 = .ok (.istore_n 3, 1) := by decide +kernel
theorem dX12_isOn_2 : decode cX12_isOn 2 = .ok (.iload_n 3, 1) := by decide +kernel
theorem dX12_isOn_3 : decode cX12_isOn 3 = .ok (.iconst 3, 1) := by decide +kernel
theorem dX12_isOn_4 : decode cX12_isOn 4 = .ok (.if_icmp .ge 28, 3) := by decide +kernel
theorem dX12_isOn_7 : decode cX12_isOn 7 = .ok (.aload_n 0, 1) := by decide +kernel
theorem dX12_isOn_8 : decode cX12_isOn 8 = .ok (.getfield 98, 3) := by decide +kernel
theorem dX12_isOn_11 : decode cX12_isOn 11 = .ok (.bipush 118, 2) := by decide +kernel
theorem dX12_isOn_13 : decode cX12_isOn 13 = .ok (.iconst 3, 1) := by decide +kernel
theorem dX12_isOn_14 : decode cX12_isOn 14 = .ok (.iload_n 2, 1) := by decide +kernel
theorem dX12_isOn_15 : decode cX12_isOn 15 = .ok (.imul, 1) := by decide +kernel
theorem dX12_isOn_16 : decode cX12_isOn 16 = .ok (.iadd, 1) := by decide +kernel
theorem dX12_isOn_17 : decode cX12_isOn 17 = .ok (.iload_n 3, 1) := by decide +kernel
theorem dX12_isOn_18 : decode cX12_isOn 18 = .ok (.iadd, 1) := by decide +kernel
theorem dX12_isOn_19 : decode cX12_isOn 19 = .ok (.iaload, 1) := by decide +kernel
theorem dX12_isOn_20 : decode cX12_isOn 20 = .ok (.iload_n 1, 1) := by decide +kernel
theorem dX12_isOn_21 : decode cX12_isOn 21 = .ok (.if_icmp .ne 5, 3) := by decide +kernel
theorem dX12_isOn_24 : decode cX12_isOn 24 = .ok (.iconst 1, 1) := by decide +kernel
theorem dX12_isOn_25 : decode cX12_isOn 25 = .ok (.ireturn, 1) := by decide +kernel
theorem dX12_isOn_26 : decode cX12_isOn 26 = .ok (.iinc 3 1, 3) := by decide +kernel
theorem dX12_isOn_29 : decode cX12_isOn 29 = .ok (.goto (-27), 3) := by decide +kernel
theorem dX12_isOn_32 : decode cX12_isOn 32 = .ok (.iconst 0, 1) := by decide +kernel
theorem dX12_isOn_33 : decode cX12_isOn 33 = .ok (.ireturn, 1) := by decide +kernel
def tX12_isOn (kn : sKn) : List (Nat × sA) := [(0, a_stk (q_int 0) 1), (1, a_istore 3 2), (2, a_iload 3 3), (3, a_stk (q_int 3) 4), (4, a_icmp kn b_ge 3 32 7), (7, a_aload 0 8), (8, a_get 13 14 11), (11, a_stk (q_int 118) 13), (13, a_stk (q_int 3) 14), (14, a_iload 2 15), (15, a_stk q_imul 16), (16, a_stk q_iadd 17), (17, a_iload 3 18), (18, a_stk q_iadd 19), (19, a_iald 20), (20, a_iload 1 21), (21, a_icmp kn b_ne 1 26 24), (24, a_stk (q_int 1) 25), (25, a_zret), (26, a_iinc 3 1 29), (29, a_goto 2), (32, a_stk (q_int 0) 33), (33, a_zret)]
def fX12_isOn (kn : sKn) : List Value → sW → Option sR := fW (tX12_isOn kn) 4
set_option maxRecDepth 100000 in
set_option maxHeartbeats 4000000 in
theorem mX12_isOn (kn : sKn) : mM kn yX12_isOn (Cond.code yX12_isOn cX12_isOn 4 (some .boolean) :: wsL_law) 1 false (fX12_isOn kn) := mM_W (fun n => mM_of (own := RX12) (ini := false) rfl (by decide +kernel) (by decide +kernel) (all_c (ok_stk (s_iconst dX12_isOn_0 (by decide))) (all_c (ok_istore_n dX12_isOn_1 rfl (by decide)) (all_c (ok_iload_n dX12_isOn_2 rfl) (all_c (ok_stk (s_iconst dX12_isOn_3 (by decide))) (all_c (ok_icmp_ge dX12_isOn_4 (by decide)) (all_c (ok_aload_n dX12_isOn_7 rfl) (all_c (okg_X12_14 kw1069 dX12_isOn_8) (all_c (ok_stk (s_bipush dX12_isOn_11 (by decide))) (all_c (ok_stk (s_iconst dX12_isOn_13 (by decide))) (all_c (ok_iload_n dX12_isOn_14 rfl) (all_c (ok_stk (s_imul dX12_isOn_15)) (all_c (ok_stk (s_iadd dX12_isOn_16)) (all_c (ok_iload_n dX12_isOn_17 rfl) (all_c (ok_stk (s_iadd dX12_isOn_18)) (all_c (ok_iald dX12_isOn_19) (all_c (ok_iload_n dX12_isOn_20 rfl) (all_c (ok_icmp_ne dX12_isOn_21 (by decide)) (all_c (ok_stk (s_iconst dX12_isOn_24 (by decide))) (all_c (ok_zret dX12_isOn_25) (all_c (ok_iinc dX12_isOn_26 (by decide) (by decide)) (all_c (ok_goto dX12_isOn_29 (by decide)) (all_c (ok_stk (s_iconst dX12_isOn_32 (by decide))) (all_c (ok_zret dX12_isOn_33) all_n))))))))))))))))))))))) n (fun h => by first | rfl | cases h))
theorem dX12_holds__0 : decode cX12_holds_ 0 = .ok (.sipush 198, 3) := by decide +kernel
theorem dX12_holds__3 : decode cX12_holds_ 3 = .ok (.iconst 4, 1) := by decide +kernel
theorem dX12_holds__4 : decode cX12_holds_ 4 = .ok (.iload_n 1, 1) := by decide +kernel
theorem dX12_holds__5 : decode cX12_holds_ 5 = .ok (.imul, 1) := by decide +kernel
theorem dX12_holds__6 : decode cX12_holds_ 6 = .ok (.iadd, 1) := by decide +kernel
theorem dX12_holds__7 : decode cX12_holds_ 7 = .ok (.istore_n 3, 1) := by decide +kernel
theorem dX12_holds__8 : decode cX12_holds_ 8 = .ok (.aload_n 0, 1) := by decide +kernel
theorem dX12_holds__9 : decode cX12_holds_ 9 = .ok (.getfield 98, 3) := by decide +kernel
theorem dX12_holds__12 : decode cX12_holds_ 12 = .ok (.iload_n 3, 1) := by decide +kernel
theorem dX12_holds__13 : decode cX12_holds_ 13 = .ok (.iconst 1, 1) := by decide +kernel
theorem dX12_holds__14 : decode cX12_holds_ 14 = .ok (.iadd, 1) := by decide +kernel
theorem dX12_holds__15 : decode cX12_holds_ 15 = .ok (.iaload, 1) := by decide +kernel
theorem dX12_holds__16 : decode cX12_holds_ 16 = .ok (.istore 4, 2) := by decide +kernel
theorem dX12_holds__18 : decode cX12_holds_ 18 = .ok (.aload_n 0, 1) := by decide +kernel
theorem dX12_holds__19 : decode cX12_holds_ 19 = .ok (.getfield 98, 3) := by decide +kernel
theorem dX12_holds__22 : decode cX12_holds_ 22 = .ok (.iload_n 3, 1) := by decide +kernel
theorem dX12_holds__23 : decode cX12_holds_ 23 = .ok (.iconst 2, 1) := by decide +kernel
theorem dX12_holds__24 : decode cX12_holds_ 24 = .ok (.iadd, 1) := by decide +kernel
theorem dX12_holds__25 : decode cX12_holds_ 25 = .ok (.iaload, 1) := by decide +kernel
theorem dX12_holds__26 : decode cX12_holds_ 26 = .ok (.istore 5, 2) := by decide +kernel
theorem dX12_holds__28 : decode cX12_holds_ 28 = .ok (.aload_n 0, 1) := by decide +kernel
theorem dX12_holds__29 : decode cX12_holds_ 29 = .ok (.getfield 98, 3) := by decide +kernel
theorem dX12_holds__32 : decode cX12_holds_ 32 = .ok (.iload_n 3, 1) := by decide +kernel
theorem dX12_holds__33 : decode cX12_holds_ 33 = .ok (.iaload, 1) := by decide +kernel
theorem dX12_holds__34 : decode cX12_holds_ 34 = .ok (.lookupswitch 203 #[(1, 74), (2, 90), (3, 116), (68, 142), (69, 148), (70, 160), (71, 175), (72, 195)], 74) := by decide +kernel
theorem dX12_holds__108 : decode cX12_holds_ 108 = .ok (.aload_n 0, 1) := by decide +kernel
theorem dX12_holds__109 : decode cX12_holds_ 109 = .ok (.iload 4, 2) := by decide +kernel
theorem dX12_holds__111 : decode cX12_holds_ 111 = .ok (.iload_n 2, 1) := by decide +kernel
theorem dX12_holds__112 : decode cX12_holds_ 112 = .ok (.invokevirtual 511, 3) := by decide +kernel
theorem dX12_holds__115 : decode cX12_holds_ 115 = .ok (.ifCond .ne 7, 3) := by decide +kernel
theorem dX12_holds__118 : decode cX12_holds_ 118 = .ok (.iconst 1, 1) := by decide +kernel
theorem dX12_holds__119 : decode cX12_holds_ 119 = .ok (.goto 4, 3) := by decide +kernel
theorem dX12_holds__122 : decode cX12_holds_ 122 = .ok (.iconst 0, 1) := by decide +kernel
theorem dX12_holds__123 : decode cX12_holds_ 123 = .ok (.ireturn, 1) := by decide +kernel
theorem dX12_holds__124 : decode cX12_holds_ 124 = .ok (.aload_n 0, 1) := by decide +kernel
theorem dX12_holds__125 : decode cX12_holds_ 125 = .ok (.iload 4, 2) := by decide +kernel
theorem dX12_holds__127 : decode cX12_holds_ 127 = .ok (.iload_n 2, 1) := by decide +kernel
theorem dX12_holds__128 : decode cX12_holds_ 128 = .ok (.invokevirtual 511, 3) := by decide +kernel
theorem dX12_holds__131 : decode cX12_holds_ 131 = .ok (.ifCond .eq 17, 3) := by decide +kernel
theorem dX12_holds__134 : decode cX12_holds_ 134 = .ok (.aload_n 0, 1) := by decide +kernel
theorem dX12_holds__135 : decode cX12_holds_ 135 = .ok (.iload 5, 2) := by decide +kernel
theorem dX12_holds__137 : decode cX12_holds_ 137 = .ok (.iload_n 2, 1) := by decide +kernel
theorem dX12_holds__138 : decode cX12_holds_ 138 = .ok (.invokevirtual 511, 3) := by decide +kernel
theorem dX12_holds__141 : decode cX12_holds_ 141 = .ok (.ifCond .eq 7, 3) := by decide +kernel
theorem dX12_holds__144 : decode cX12_holds_ 144 = .ok (.iconst 1, 1) := by decide +kernel
theorem dX12_holds__145 : decode cX12_holds_ 145 = .ok (.goto 4, 3) := by decide +kernel
theorem dX12_holds__148 : decode cX12_holds_ 148 = .ok (.iconst 0, 1) := by decide +kernel
theorem dX12_holds__149 : decode cX12_holds_ 149 = .ok (.ireturn, 1) := by decide +kernel
theorem dX12_holds__150 : decode cX12_holds_ 150 = .ok (.aload_n 0, 1) := by decide +kernel
theorem dX12_holds__151 : decode cX12_holds_ 151 = .ok (.iload 4, 2) := by decide +kernel
theorem dX12_holds__153 : decode cX12_holds_ 153 = .ok (.iload_n 2, 1) := by decide +kernel
theorem dX12_holds__154 : decode cX12_holds_ 154 = .ok (.invokevirtual 511, 3) := by decide +kernel
theorem dX12_holds__157 : decode cX12_holds_ 157 = .ok (.ifCond .ne 13, 3) := by decide +kernel
theorem dX12_holds__160 : decode cX12_holds_ 160 = .ok (.aload_n 0, 1) := by decide +kernel
theorem dX12_holds__161 : decode cX12_holds_ 161 = .ok (.iload 5, 2) := by decide +kernel
theorem dX12_holds__163 : decode cX12_holds_ 163 = .ok (.iload_n 2, 1) := by decide +kernel
theorem dX12_holds__164 : decode cX12_holds_ 164 = .ok (.invokevirtual 511, 3) := by decide +kernel
theorem dX12_holds__167 : decode cX12_holds_ 167 = .ok (.ifCond .eq 7, 3) := by decide +kernel
theorem dX12_holds__170 : decode cX12_holds_ 170 = .ok (.iconst 1, 1) := by decide +kernel
theorem dX12_holds__171 : decode cX12_holds_ 171 = .ok (.goto 4, 3) := by decide +kernel
theorem dX12_holds__174 : decode cX12_holds_ 174 = .ok (.iconst 0, 1) := by decide +kernel
theorem dX12_holds__175 : decode cX12_holds_ 175 = .ok (.ireturn, 1) := by decide +kernel
theorem dX12_holds__176 : decode cX12_holds_ 176 = .ok (.aload_n 0, 1) := by decide +kernel
theorem dX12_holds__177 : decode cX12_holds_ 177 = .ok (.iload_n 2, 1) := by decide +kernel
theorem dX12_holds__178 : decode cX12_holds_ 178 = .ok (.invokevirtual 283, 3) := by decide +kernel
theorem dX12_holds__181 : decode cX12_holds_ 181 = .ok (.ireturn, 1) := by decide +kernel
theorem dX12_holds__182 : decode cX12_holds_ 182 = .ok (.aload_n 0, 1) := by decide +kernel
theorem dX12_holds__183 : decode cX12_holds_ 183 = .ok (.getfield 98, 3) := by decide +kernel
theorem dX12_holds__186 : decode cX12_holds_ 186 = .ok (.bipush 25, 2) := by decide +kernel
theorem dX12_holds__188 : decode cX12_holds_ 188 = .ok (.iaload, 1) := by decide +kernel
theorem dX12_holds__189 : decode cX12_holds_ 189 = .ok (.iload_n 2, 1) := by decide +kernel
theorem dX12_holds__190 : decode cX12_holds_ 190 = .ok (.invokestatic 225, 3) := by decide +kernel
theorem dX12_holds__193 : decode cX12_holds_ 193 = .ok (.ireturn, 1) := by decide +kernel
theorem dX12_holds__194 : decode cX12_holds_ 194 = .ok (.aload_n 0, 1) := by decide +kernel
theorem dX12_holds__195 : decode cX12_holds_ 195 = .ok (.getfield 98, 3) := by decide +kernel
theorem dX12_holds__198 : decode cX12_holds_ 198 = .ok (.bipush 36, 2) := by decide +kernel
theorem dX12_holds__200 : decode cX12_holds_ 200 = .ok (.iload_n 2, 1) := by decide +kernel
theorem dX12_holds__201 : decode cX12_holds_ 201 = .ok (.iadd, 1) := by decide +kernel
theorem dX12_holds__202 : decode cX12_holds_ 202 = .ok (.iaload, 1) := by decide +kernel
theorem dX12_holds__203 : decode cX12_holds_ 203 = .ok (.iload 4, 2) := by decide +kernel
theorem dX12_holds__205 : decode cX12_holds_ 205 = .ok (.invokestatic 225, 3) := by decide +kernel
theorem dX12_holds__208 : decode cX12_holds_ 208 = .ok (.ireturn, 1) := by decide +kernel
theorem dX12_holds__209 : decode cX12_holds_ 209 = .ok (.aload_n 0, 1) := by decide +kernel
theorem dX12_holds__210 : decode cX12_holds_ 210 = .ok (.getfield 98, 3) := by decide +kernel
theorem dX12_holds__213 : decode cX12_holds_ 213 = .ok (.bipush 26, 2) := by decide +kernel
theorem dX12_holds__215 : decode cX12_holds_ 215 = .ok (.iload 4, 2) := by decide +kernel
theorem dX12_holds__217 : decode cX12_holds_ 217 = .ok (.iadd, 1) := by decide +kernel
theorem dX12_holds__218 : decode cX12_holds_ 218 = .ok (.iaload, 1) := by decide +kernel
theorem dX12_holds__219 : decode cX12_holds_ 219 = .ok (.iload_n 2, 1) := by decide +kernel
theorem dX12_holds__220 : decode cX12_holds_ 220 = .ok (.if_icmp .ne 7, 3) := by decide +kernel
theorem dX12_holds__223 : decode cX12_holds_ 223 = .ok (.iconst 1, 1) := by decide +kernel
theorem dX12_holds__224 : decode cX12_holds_ 224 = .ok (.goto 4, 3) := by decide +kernel
theorem dX12_holds__227 : decode cX12_holds_ 227 = .ok (.iconst 0, 1) := by decide +kernel
theorem dX12_holds__228 : decode cX12_holds_ 228 = .ok (.ireturn, 1) := by decide +kernel
theorem dX12_holds__229 : decode cX12_holds_ 229 = .ok (.aload_n 0, 1) := by decide +kernel
theorem dX12_holds__230 : decode cX12_holds_ 230 = .ok (.iload_n 2, 1) := by decide +kernel
theorem dX12_holds__231 : decode cX12_holds_ 231 = .ok (.iload 4, 2) := by decide +kernel
theorem dX12_holds__233 : decode cX12_holds_ 233 = .ok (.invokevirtual 514, 3) := by decide +kernel
theorem dX12_holds__236 : decode cX12_holds_ 236 = .ok (.ireturn, 1) := by decide +kernel
theorem dX12_holds__237 : decode cX12_holds_ 237 = .ok (.aload_n 0, 1) := by decide +kernel
theorem dX12_holds__238 : decode cX12_holds_ 238 = .ok (.getfield 98, 3) := by decide +kernel
theorem dX12_holds__241 : decode cX12_holds_ 241 = .ok (.iload_n 3, 1) := by decide +kernel
theorem dX12_holds__242 : decode cX12_holds_ 242 = .ok (.iaload, 1) := by decide +kernel
theorem dX12_holds__243 : decode cX12_holds_ 243 = .ok (.bipush 50, 2) := by decide +kernel
theorem dX12_holds__245 : decode cX12_holds_ 245 = .ok (.isub, 1) := by decide +kernel
theorem dX12_holds__246 : decode cX12_holds_ 246 = .ok (.istore 6, 2) := by decide +kernel
theorem dX12_holds__248 : decode cX12_holds_ 248 = .ok (.iload 6, 2) := by decide +kernel
theorem dX12_holds__250 : decode cX12_holds_ 250 = .ok (.bipush 23, 2) := by decide +kernel
theorem dX12_holds__252 : decode cX12_holds_ 252 = .ok (.if_icmp .ne 15, 3) := by decide +kernel
theorem dX12_holds__255 : decode cX12_holds_ 255 = .ok (.aload_n 0, 1) := by decide +kernel
theorem dX12_holds__256 : decode cX12_holds_ 256 = .ok (.getfield 98, 3) := by decide +kernel
theorem dX12_holds__259 : decode cX12_holds_ 259 = .ok (.bipush 98, 2) := by decide +kernel
theorem dX12_holds__261 : decode cX12_holds_ 261 = .ok (.iload_n 2, 1) := by decide +kernel
theorem dX12_holds__262 : decode cX12_holds_ 262 = .ok (.iadd, 1) := by decide +kernel
theorem dX12_holds__263 : decode cX12_holds_ 263 = .ok (.iaload, 1) := by decide +kernel
theorem dX12_holds__264 : decode cX12_holds_ 264 = .ok (.goto 38, 3) := by decide +kernel
theorem dX12_holds__267 : decode cX12_holds_ 267 = .ok (.iload 6, 2) := by decide +kernel
theorem dX12_holds__269 : decode cX12_holds_ 269 = .ok (.bipush 24, 2) := by decide +kernel
theorem dX12_holds__271 : decode cX12_holds_ 271 = .ok (.if_icmp .ne 11, 3) := by decide +kernel
theorem dX12_holds__274 : decode cX12_holds_ 274 = .ok (.aload_n 0, 1) := by decide +kernel
theorem dX12_holds__275 : decode cX12_holds_ 275 = .ok (.iload_n 2, 1) := by decide +kernel
theorem dX12_holds__276 : decode cX12_holds_ 276 = .ok (.invokevirtual 286, 3) := by decide +kernel
theorem dX12_holds__279 : decode cX12_holds_ 279 = .ok (.goto 23, 3) := by decide +kernel
theorem dX12_holds__282 : decode cX12_holds_ 282 = .ok (.iload 6, 2) := by decide +kernel
theorem dX12_holds__284 : decode cX12_holds_ 284 = .ok (.bipush 25, 2) := by decide +kernel
theorem dX12_holds__286 : decode cX12_holds_ 286 = .ok (.if_icmp .ne 15, 3) := by decide +kernel
theorem dX12_holds__289 : decode cX12_holds_ 289 = .ok (.aload_n 0, 1) := by decide +kernel
theorem dX12_holds__290 : decode cX12_holds_ 290 = .ok (.getfield 98, 3) := by decide +kernel
theorem dX12_holds__293 : decode cX12_holds_ 293 = .ok (.bipush 15, 2) := by decide +kernel
theorem dX12_holds__295 : decode cX12_holds_ 295 = .ok (.iload_n 2, 1) := by decide +kernel
theorem dX12_holds__296 : decode cX12_holds_ 296 = .ok (.iadd, 1) := by decide +kernel
theorem dX12_holds__297 : decode cX12_holds_ 297 = .ok (.iaload, 1) := by decide +kernel
theorem dX12_holds__298 : decode cX12_holds_ 298 = .ok (.goto 4, 3) := by decide +kernel
theorem dX12_holds__301 : decode cX12_holds_ 301 = .ok (.iload_n 2, 1) := by decide +kernel
theorem dX12_holds__302 : decode cX12_holds_ 302 = .ok (.istore 7, 2) := by decide +kernel
theorem dX12_holds__304 : decode cX12_holds_ 304 = .ok (.aload_n 0, 1) := by decide +kernel
theorem dX12_holds__305 : decode cX12_holds_ 305 = .ok (.getfield 98, 3) := by decide +kernel
theorem dX12_holds__308 : decode cX12_holds_ 308 = .ok (.iload_n 3, 1) := by decide +kernel
theorem dX12_holds__309 : decode cX12_holds_ 309 = .ok (.iconst 3, 1) := by decide +kernel
theorem dX12_holds__310 : decode cX12_holds_ 310 = .ok (.iadd, 1) := by decide +kernel
theorem dX12_holds__311 : decode cX12_holds_ 311 = .ok (.iaload, 1) := by decide +kernel
theorem dX12_holds__312 : decode cX12_holds_ 312 = .ok (.bipush 60, 2) := by decide +kernel
theorem dX12_holds__314 : decode cX12_holds_ 314 = .ok (.if_icmp .ne 18, 3) := by decide +kernel
theorem dX12_holds__317 : decode cX12_holds_ 317 = .ok (.iload 7, 2) := by decide +kernel
theorem dX12_holds__319 : decode cX12_holds_ 319 = .ok (.iload 5, 2) := by decide +kernel
theorem dX12_holds__321 : decode cX12_holds_ 321 = .ok (.if_icmp .ge 7, 3) := by decide +kernel
theorem dX12_holds__324 : decode cX12_holds_ 324 = .ok (.iconst 1, 1) := by decide +kernel
theorem dX12_holds__325 : decode cX12_holds_ 325 = .ok (.goto 47, 3) := by decide +kernel
theorem dX12_holds__328 : decode cX12_holds_ 328 = .ok (.iconst 0, 1) := by decide +kernel
theorem dX12_holds__329 : decode cX12_holds_ 329 = .ok (.goto 43, 3) := by decide +kernel
theorem dX12_holds__332 : decode cX12_holds_ 332 = .ok (.aload_n 0, 1) := by decide +kernel
theorem dX12_holds__333 : decode cX12_holds_ 333 = .ok (.getfield 98, 3) := by decide +kernel
theorem dX12_holds__336 : decode cX12_holds_ 336 = .ok (.iload_n 3, 1) := by decide +kernel
theorem dX12_holds__337 : decode cX12_holds_ 337 = .ok (.iconst 3, 1) := by decide +kernel
theorem dX12_holds__338 : decode cX12_holds_ 338 = .ok (.iadd, 1) := by decide +kernel
theorem dX12_holds__339 : decode cX12_holds_ 339 = .ok (.iaload, 1) := by decide +kernel
theorem dX12_holds__340 : decode cX12_holds_ 340 = .ok (.bipush 61, 2) := by decide +kernel
theorem dX12_holds__342 : decode cX12_holds_ 342 = .ok (.if_icmp .ne 18, 3) := by decide +kernel
theorem dX12_holds__345 : decode cX12_holds_ 345 = .ok (.iload 7, 2) := by decide +kernel
theorem dX12_holds__347 : decode cX12_holds_ 347 = .ok (.iload 5, 2) := by decide +kernel
theorem dX12_holds__349 : decode cX12_holds_ 349 = .ok (.if_icmp .ne 7, 3) := by decide +kernel
theorem dX12_holds__352 : decode cX12_holds_ 352 = .ok (.iconst 1, 1) := by decide +kernel
theorem dX12_holds__353 : decode cX12_holds_ 353 = .ok (.goto 19, 3) := by decide +kernel
theorem dX12_holds__356 : decode cX12_holds_ 356 = .ok (.iconst 0, 1) := by decide +kernel
theorem dX12_holds__357 : decode cX12_holds_ 357 = .ok (.goto 15, 3) := by decide +kernel
theorem dX12_holds__360 : decode cX12_holds_ 360 = .ok (.iload 7, 2) := by decide +kernel
theorem dX12_holds__362 : decode cX12_holds_ 362 = .ok (.iload 5, 2) := by decide +kernel
theorem dX12_holds__364 : decode cX12_holds_ 364 = .ok (.if_icmp .le 7, 3) := by decide +kernel
theorem dX12_holds__367 : decode cX12_holds_ 367 = .ok (.iconst 1, 1) := by decide +kernel
theorem dX12_holds__368 : decode cX12_holds_ 368 = .ok (.goto 4, 3) := by decide +kernel
theorem dX12_holds__371 : decode cX12_holds_ 371 = .ok (.iconst 0, 1) := by decide +kernel
theorem dX12_holds__372 : decode cX12_holds_ 372 = .ok (.ireturn, 1) := by decide +kernel
theorem okc_X12_isOn {kn : sKn} {cc : ByteArray} {own : String} {nL : Nat} {D : Nat} {ret : Option FieldType} {ini : Bool} {pc index : Nat} (hD : 1 + 1 ≤ D) (hl : Cond.methodLink own index yX12_isOn ∈ wsL_law) (hd : decode cc pc = .ok (.invokevirtual index, 3)) : mOk kn cc own nL wsL_law D ret ini pc (a_callV false (fX12_isOn kn) 13 (2 + 1) (pc + 3)) := ok_callV (mX12_isOn kn) (good_ws ws_good (fun _ h => h) kw1437) hD (by decide) hl kw1438 kw1439 kw1072 ⟨by decide +kernel, by decide +kernel, by decide +kernel⟩ rfl hd
def tX12_holds__g (kn : sKn) (g : List Value → sW → Option sR) : List (Nat × sA) := [(0, a_stk (q_int 198) 3), (3, a_stk (q_int 4) 4), (4, a_iload 1 5), (5, a_stk q_imul 6), (6, a_stk q_iadd 7), (7, a_istore 3 8), (8, a_aload 0 9), (9, a_get 13 14 12), (12, a_iload 3 13), (13, a_stk (q_int 1) 14), (14, a_stk q_iadd 15), (15, a_iald 16), (16, a_istore 4 18), (18, a_aload 0 19), (19, a_get 13 14 22), (22, a_iload 3 23), (23, a_stk (q_int 2) 24), (24, a_stk q_iadd 25), (25, a_iald 26), (26, a_istore 5 28), (28, a_aload 0 29), (29, a_get 13 14 32), (32, a_iload 3 33), (33, a_iald 34), (34, a_look [(1, 108), (2, 124), (3, 150), (68, 176), (69, 182), (70, 194), (71, 209), (72, 229)] 237), (108, a_aload 0 109), (109, a_iload 4 111), (111, a_iload 2 112), (112, a_callV false g 13 3 115), (115, a_if kn b_ne 1 122 118), (118, a_stk (q_int 1) 119), (119, a_goto 123), (122, a_stk (q_int 0) 123), (123, a_zret), (124, a_aload 0 125), (125, a_iload 4 127), (127, a_iload 2 128), (128, a_callV false g 13 3 131), (131, a_if kn b_eq 0 148 134), (134, a_aload 0 135), (135, a_iload 5 137), (137, a_iload 2 138), (138, a_callV false g 13 3 141), (141, a_if kn b_eq 0 148 144), (144, a_stk (q_int 1) 145), (145, a_goto 149), (148, a_stk (q_int 0) 149), (149, a_zret), (150, a_aload 0 151), (151, a_iload 4 153), (153, a_iload 2 154), (154, a_callV false g 13 3 157), (157, a_if kn b_ne 1 170 160), (160, a_aload 0 161), (161, a_iload 5 163), (163, a_iload 2 164), (164, a_callV false g 13 3 167), (167, a_if kn b_eq 0 174 170), (170, a_stk (q_int 1) 171), (171, a_goto 175), (174, a_stk (q_int 0) 175), (175, a_zret), (176, a_aload 0 177), (177, a_iload 2 178), (178, a_callV false (fX12_isDead kn) 13 2 181), (181, a_zret), (182, a_aload 0 183), (183, a_get 13 14 186), (186, a_stk (q_int 25) 188), (188, a_iald 189), (189, a_iload 2 190), (190, a_callS false (fX12_has kn) 2 193), (193, a_zret), (194, a_aload 0 195), (195, a_get 13 14 198), (198, a_stk (q_int 36) 200), (200, a_iload 2 201), (201, a_stk q_iadd 202), (202, a_iald 203), (203, a_iload 4 205), (205, a_callS false (fX12_has kn) 2 208), (208, a_zret), (209, a_aload 0 210), (210, a_get 13 14 213), (213, a_stk (q_int 26) 215), (215, a_iload 4 217), (217, a_stk q_iadd 218), (218, a_iald 219), (219, a_iload 2 220), (220, a_icmp kn b_ne 1 227 223), (223, a_stk (q_int 1) 224), (224, a_goto 228), (227, a_stk (q_int 0) 228), (228, a_zret), (229, a_aload 0 230), (230, a_iload 2 231), (231, a_iload 4 233), (233, a_callV false (fX12_isOn kn) 13 3 236), (236, a_zret), (237, a_aload 0 238), (238, a_get 13 14 241), (241, a_iload 3 242), (242, a_iald 243), (243, a_stk (q_int 50) 245), (245, a_stk q_isub 246), (246, a_istore 6 248), (248, a_iload 6 250), (250, a_stk (q_int 23) 252), (252, a_icmp kn b_ne 1 267 255), (255, a_aload 0 256), (256, a_get 13 14 259), (259, a_stk (q_int 98) 261), (261, a_iload 2 262), (262, a_stk q_iadd 263), (263, a_iald 264), (264, a_goto 302), (267, a_iload 6 269), (269, a_stk (q_int 24) 271), (271, a_icmp kn b_ne 1 282 274), (274, a_aload 0 275), (275, a_iload 2 276), (276, a_callV false (fX12_planksOf kn) 13 2 279), (279, a_goto 302), (282, a_iload 6 284), (284, a_stk (q_int 25) 286), (286, a_icmp kn b_ne 1 301 289), (289, a_aload 0 290), (290, a_get 13 14 293), (293, a_stk (q_int 15) 295), (295, a_iload 2 296), (296, a_stk q_iadd 297), (297, a_iald 298), (298, a_goto 302), (301, a_iload 2 302), (302, a_istore 7 304), (304, a_aload 0 305), (305, a_get 13 14 308), (308, a_iload 3 309), (309, a_stk (q_int 3) 310), (310, a_stk q_iadd 311), (311, a_iald 312), (312, a_stk (q_int 60) 314), (314, a_icmp kn b_ne 1 332 317), (317, a_iload 7 319), (319, a_iload 5 321), (321, a_icmp kn b_ge 3 328 324), (324, a_stk (q_int 1) 325), (325, a_goto 372), (328, a_stk (q_int 0) 329), (329, a_goto 372), (332, a_aload 0 333), (333, a_get 13 14 336), (336, a_iload 3 337), (337, a_stk (q_int 3) 338), (338, a_stk q_iadd 339), (339, a_iald 340), (340, a_stk (q_int 61) 342), (342, a_icmp kn b_ne 1 360 345), (345, a_iload 7 347), (347, a_iload 5 349), (349, a_icmp kn b_ne 1 356 352), (352, a_stk (q_int 1) 353), (353, a_goto 372), (356, a_stk (q_int 0) 357), (357, a_goto 372), (360, a_iload 7 362), (362, a_iload 5 364), (364, a_icmp kn b_le 5 371 367), (367, a_stk (q_int 1) 368), (368, a_goto 372), (371, a_stk (q_int 0) 372), (372, a_zret)]
def fX12_holds__g (kn : sKn) (g : List Value → sW → Option sR) : List Value → sW → Option sR := fW (tX12_holds__g kn g) 8
set_option maxRecDepth 100000 in
set_option maxHeartbeats 4000000 in
theorem mX12_holds__g (kn : sKn) {g : List Value → sW → Option sR} {Dg : Nat} (hg : mM kn yX12_holds_ (Cond.code yX12_holds_ cX12_holds_ 8 (some .boolean) :: wsL_law) Dg false g) : mM kn yX12_holds_ (Cond.code yX12_holds_ cX12_holds_ 8 (some .boolean) :: wsL_law) (Dg + 3) false (fX12_holds__g kn g) := mM_W (fun n => mM_of (own := RX12) (ini := false) rfl (by decide +kernel) (by decide +kernel) (all_c (ok_stk (s_sipush dX12_holds__0 (by first | decide | omega))) (all_c (ok_stk (s_iconst dX12_holds__3 (by first | decide | omega))) (all_c (ok_iload_n dX12_holds__4 rfl) (all_c (ok_stk (s_imul dX12_holds__5)) (all_c (ok_stk (s_iadd dX12_holds__6)) (all_c (ok_istore_n dX12_holds__7 rfl (by first | decide | omega)) (all_c (ok_aload_n dX12_holds__8 rfl) (all_c (okg_X12_14 kw1069 dX12_holds__9) (all_c (ok_iload_n dX12_holds__12 rfl) (all_c (ok_stk (s_iconst dX12_holds__13 (by first | decide | omega))) (all_c (ok_stk (s_iadd dX12_holds__14)) (all_c (ok_iald dX12_holds__15) (all_c (ok_istore dX12_holds__16 (by first | decide | omega)) (all_c (ok_aload_n dX12_holds__18 rfl) (all_c (okg_X12_14 kw1069 dX12_holds__19) (all_c (ok_iload_n dX12_holds__22 rfl) (all_c (ok_stk (s_iconst dX12_holds__23 (by first | decide | omega))) (all_c (ok_stk (s_iadd dX12_holds__24)) (all_c (ok_iald dX12_holds__25) (all_c (ok_istore dX12_holds__26 (by first | decide | omega)) (all_c (ok_aload_n dX12_holds__28 rfl) (all_c (okg_X12_14 kw1069 dX12_holds__29) (all_c (ok_iload_n dX12_holds__32 rfl) (all_c (ok_iald dX12_holds__33) (all_c (ok_look dX12_holds__34 (by first | decide | omega) (by first | decide | omega) (by first | decide | omega)) (all_c (ok_aload_n dX12_holds__108 rfl) (all_c (ok_iload dX12_holds__109) (all_c (ok_iload_n dX12_holds__111 rfl) (all_c (ok_callV hg (good_ws ws_good (fun _ h => h) kw1435) (by first | decide | omega) (by first | decide | omega) kw1436 kw1433 kw1434 kw1072 ⟨by decide +kernel, by decide +kernel, by decide +kernel⟩ rfl dX12_holds__112) (all_c (ok_if_ne dX12_holds__115 (by first | decide | omega)) (all_c (ok_stk (s_iconst dX12_holds__118 (by first | decide | omega))) (all_c (ok_goto dX12_holds__119 (by first | decide | omega)) (all_c (ok_stk (s_iconst dX12_holds__122 (by first | decide | omega))) (all_c (ok_zret dX12_holds__123) (all_c (ok_aload_n dX12_holds__124 rfl) (all_c (ok_iload dX12_holds__125) (all_c (ok_iload_n dX12_holds__127 rfl) (all_c (ok_callV hg (good_ws ws_good (fun _ h => h) kw1435) (by first | decide | omega) (by first | decide | omega) kw1436 kw1433 kw1434 kw1072 ⟨by decide +kernel, by decide +kernel, by decide +kernel⟩ rfl dX12_holds__128) (all_c (ok_if_eq dX12_holds__131 (by first | decide | omega)) (all_c (ok_aload_n dX12_holds__134 rfl) (all_c (ok_iload dX12_holds__135) (all_c (ok_iload_n dX12_holds__137 rfl) (all_c (ok_callV hg (good_ws ws_good (fun _ h => h) kw1435) (by first | decide | omega) (by first | decide | omega) kw1436 kw1433 kw1434 kw1072 ⟨by decide +kernel, by decide +kernel, by decide +kernel⟩ rfl dX12_holds__138) (all_c (ok_if_eq dX12_holds__141 (by first | decide | omega)) (all_c (ok_stk (s_iconst dX12_holds__144 (by first | decide | omega))) (all_c (ok_goto dX12_holds__145 (by first | decide | omega)) (all_c (ok_stk (s_iconst dX12_holds__148 (by first | decide | omega))) (all_c (ok_zret dX12_holds__149) (all_c (ok_aload_n dX12_holds__150 rfl) (all_c (ok_iload dX12_holds__151) (all_c (ok_iload_n dX12_holds__153 rfl) (all_c (ok_callV hg (good_ws ws_good (fun _ h => h) kw1435) (by first | decide | omega) (by first | decide | omega) kw1436 kw1433 kw1434 kw1072 ⟨by decide +kernel, by decide +kernel, by decide +kernel⟩ rfl dX12_holds__154) (all_c (ok_if_ne dX12_holds__157 (by first | decide | omega)) (all_c (ok_aload_n dX12_holds__160 rfl) (all_c (ok_iload dX12_holds__161) (all_c (ok_iload_n dX12_holds__163 rfl) (all_c (ok_callV hg (good_ws ws_good (fun _ h => h) kw1435) (by first | decide | omega) (by first | decide | omega) kw1436 kw1433 kw1434 kw1072 ⟨by decide +kernel, by decide +kernel, by decide +kernel⟩ rfl dX12_holds__164) (all_c (ok_if_eq dX12_holds__167 (by first | decide | omega)) (all_c (ok_stk (s_iconst dX12_holds__170 (by first | decide | omega))) (all_c (ok_goto dX12_holds__171 (by first | decide | omega)) (all_c (ok_stk (s_iconst dX12_holds__174 (by first | decide | omega))) (all_c (ok_zret dX12_holds__175) (all_c (ok_aload_n dX12_holds__176 rfl) (all_c (ok_iload_n dX12_holds__177 rfl) (all_c (okc_X12_isDead (by first | decide | omega) kw1138 dX12_holds__178) (all_c (ok_zret dX12_holds__181) (all_c (ok_aload_n dX12_holds__182 rfl) (all_c (okg_X12_14 kw1069 dX12_holds__183) (all_c (ok_stk (s_bipush dX12_holds__186 (by first | decide | omega))) (all_c (ok_iald dX12_holds__188) (all_c (ok_iload_n dX12_holds__189 rfl) (all_c (okc_X12_has (by first | decide | omega) kw1077 dX12_holds__190) (all_c (ok_zret dX12_holds__193) (all_c (ok_aload_n dX12_holds__194 rfl) (all_c (okg_X12_14 kw1069 dX12_holds__195) (all_c (ok_stk (s_bipush dX12_holds__198 (by first | decide | omega))) (all_c (ok_iload_n dX12_holds__200 rfl) (all_c (ok_stk (s_iadd dX12_holds__201)) (all_c (ok_iald dX12_holds__202) (all_c (ok_iload dX12_holds__203) (all_c (okc_X12_has (by first | decide | omega) kw1077 dX12_holds__205) (all_c (ok_zret dX12_holds__208) (all_c (ok_aload_n dX12_holds__209 rfl) (all_c (okg_X12_14 kw1069 dX12_holds__210) (all_c (ok_stk (s_bipush dX12_holds__213 (by first | decide | omega))) (all_c (ok_iload dX12_holds__215) (all_c (ok_stk (s_iadd dX12_holds__217)) (all_c (ok_iald dX12_holds__218) (all_c (ok_iload_n dX12_holds__219 rfl) (all_c (ok_icmp_ne dX12_holds__220 (by first | decide | omega)) (all_c (ok_stk (s_iconst dX12_holds__223 (by first | decide | omega))) (all_c (ok_goto dX12_holds__224 (by first | decide | omega)) (all_c (ok_stk (s_iconst dX12_holds__227 (by first | decide | omega))) (all_c (ok_zret dX12_holds__228) (all_c (ok_aload_n dX12_holds__229 rfl) (all_c (ok_iload_n dX12_holds__230 rfl) (all_c (ok_iload dX12_holds__231) (all_c (okc_X12_isOn (by first | decide | omega) kw1440 dX12_holds__233) (all_c (ok_zret dX12_holds__236) (all_c (ok_aload_n dX12_holds__237 rfl) (all_c (okg_X12_14 kw1069 dX12_holds__238) (all_c (ok_iload_n dX12_holds__241 rfl) (all_c (ok_iald dX12_holds__242) (all_c (ok_stk (s_bipush dX12_holds__243 (by first | decide | omega))) (all_c (ok_stk (s_isub dX12_holds__245)) (all_c (ok_istore dX12_holds__246 (by first | decide | omega)) (all_c (ok_iload dX12_holds__248) (all_c (ok_stk (s_bipush dX12_holds__250 (by first | decide | omega))) (all_c (ok_icmp_ne dX12_holds__252 (by first | decide | omega)) (all_c (ok_aload_n dX12_holds__255 rfl) (all_c (okg_X12_14 kw1069 dX12_holds__256) (all_c (ok_stk (s_bipush dX12_holds__259 (by first | decide | omega))) (all_c (ok_iload_n dX12_holds__261 rfl) (all_c (ok_stk (s_iadd dX12_holds__262)) (all_c (ok_iald dX12_holds__263) (all_c (ok_goto dX12_holds__264 (by first | decide | omega)) (all_c (ok_iload dX12_holds__267) (all_c (ok_stk (s_bipush dX12_holds__269 (by first | decide | omega))) (all_c (ok_icmp_ne dX12_holds__271 (by first | decide | omega)) (all_c (ok_aload_n dX12_holds__274 rfl) (all_c (ok_iload_n dX12_holds__275 rfl) (all_c (okc_X12_planksOf (by first | decide | omega) kw1204 dX12_holds__276) (all_c (ok_goto dX12_holds__279 (by first | decide | omega)) (all_c (ok_iload dX12_holds__282) (all_c (ok_stk (s_bipush dX12_holds__284 (by first | decide | omega))) (all_c (ok_icmp_ne dX12_holds__286 (by first | decide | omega)) (all_c (ok_aload_n dX12_holds__289 rfl) (all_c (okg_X12_14 kw1069 dX12_holds__290) (all_c (ok_stk (s_bipush dX12_holds__293 (by first | decide | omega))) (all_c (ok_iload_n dX12_holds__295 rfl) (all_c (ok_stk (s_iadd dX12_holds__296)) (all_c (ok_iald dX12_holds__297) (all_c (ok_goto dX12_holds__298 (by first | decide | omega)) (all_c (ok_iload_n dX12_holds__301 rfl) (all_c (ok_istore dX12_holds__302 (by first | decide | omega)) (all_c (ok_aload_n dX12_holds__304 rfl) (all_c (okg_X12_14 kw1069 dX12_holds__305) (all_c (ok_iload_n dX12_holds__308 rfl) (all_c (ok_stk (s_iconst dX12_holds__309 (by first | decide | omega))) (all_c (ok_stk (s_iadd dX12_holds__310)) (all_c (ok_iald dX12_holds__311) (all_c (ok_stk (s_bipush dX12_holds__312 (by first | decide | omega))) (all_c (ok_icmp_ne dX12_holds__314 (by first | decide | omega)) (all_c (ok_iload dX12_holds__317) (all_c (ok_iload dX12_holds__319) (all_c (ok_icmp_ge dX12_holds__321 (by first | decide | omega)) (all_c (ok_stk (s_iconst dX12_holds__324 (by first | decide | omega))) (all_c (ok_goto dX12_holds__325 (by first | decide | omega)) (all_c (ok_stk (s_iconst dX12_holds__328 (by first | decide | omega))) (all_c (ok_goto dX12_holds__329 (by first | decide | omega)) (all_c (ok_aload_n dX12_holds__332 rfl) (all_c (okg_X12_14 kw1069 dX12_holds__333) (all_c (ok_iload_n dX12_holds__336 rfl) (all_c (ok_stk (s_iconst dX12_holds__337 (by first | decide | omega))) (all_c (ok_stk (s_iadd dX12_holds__338)) (all_c (ok_iald dX12_holds__339) (all_c (ok_stk (s_bipush dX12_holds__340 (by first | decide | omega))) (all_c (ok_icmp_ne dX12_holds__342 (by first | decide | omega)) (all_c (ok_iload dX12_holds__345) (all_c (ok_iload dX12_holds__347) (all_c (ok_icmp_ne dX12_holds__349 (by first | decide | omega)) (all_c (ok_stk (s_iconst dX12_holds__352 (by first | decide | omega))) (all_c (ok_goto dX12_holds__353 (by first | decide | omega)) (all_c (ok_stk (s_iconst dX12_holds__356 (by first | decide | omega))) (all_c (ok_goto dX12_holds__357 (by first | decide | omega)) (all_c (ok_iload dX12_holds__360) (all_c (ok_iload dX12_holds__362) (all_c (ok_icmp_le dX12_holds__364 (by first | decide | omega)) (all_c (ok_stk (s_iconst dX12_holds__367 (by first | decide | omega))) (all_c (ok_goto dX12_holds__368 (by first | decide | omega)) (all_c (ok_stk (s_iconst dX12_holds__371 (by first | decide | omega))) (all_c (ok_zret dX12_holds__372) all_n)))))))))))))))))))))))))))))))))))))))))))))))))))))))))))))))))))))))))))))))))))))))))))))))))))))))))))))))))))))))))))))))))))))))))))))))))))))))))))))))))))))))))))) n (fun h => by first | rfl | cases h))
def fX12_holds__n (kn : sKn) (n : Nat) : List Value → sW → Option sR := Nat.rec (motive := fun _ => List Value → sW → Option sR) f_none (fun _ g => fX12_holds__g kn g) n
theorem mX12_holds__n (kn : sKn) : ∀ n, mM kn yX12_holds_ (Cond.code yX12_holds_ cX12_holds_ 8 (some .boolean) :: wsL_law) (n * 3) false (fX12_holds__n kn n) := by
  intro n
  induction n with
  | zero => exact m_none
  | succ n ih =>
    have h := mX12_holds__g kn ih
    rw [Nat.succ_mul]
    exact h
def fX12_holds_ (kn : sKn) : List Value → sW → Option sR := fX12_holds__n kn 61
theorem mX12_holds_ (kn : sKn) : mM kn yX12_holds_ (Cond.code yX12_holds_ cX12_holds_ 8 (some .boolean) :: wsL_law) 183 false (fX12_holds_ kn) := mX12_holds__n kn 61
theorem dX12_image_0 : decode cX12_image 0 = .ok (.aload_n 0, 1) := by decide +kernel
theorem dX12_image_1 : decode cX12_image 1 = .ok (.iconst 0, 1) := by decide +kernel
theorem dX12_image_2 : decode cX12_image 2 = .ok (.putfield 1, 3) := by decide +kernel
theorem dX12_image_5 : decode cX12_image 5 = .ok (.iload_n 1, 1) := by decide +kernel
theorem dX12_image_6 : decode cX12_image 6 = .ok (.iconst 0, 1) := by decide +kernel
theorem dX12_image_7 : decode cX12_image 7 = .ok (.iconst 1, 1) := by decide +kernel
theorem dX12_image_8 : decode cX12_image 8 = .ok (.invokestatic 75, 3) := by decide +kernel
theorem dX12_image_11 : decode cX12_image 11 = .ok (.ifCond .ne 5, 3) := by decide +kernel
theorem dX12_image_14 : decode cX12_image 14 = .ok (.iconst 0, 1) := by decide +kernel
theorem dX12_image_15 : decode cX12_image 15 = .ok (.ireturn, 1) := by decide +kernel
theorem dX12_image_16 : decode cX12_image 16 = .ok (.iconst 0, 1) := by decide +kernel
theorem dX12_image_17 : decode cX12_image 17 = .ok (.istore_n 2, 1) := by decide +kernel
theorem dX12_image_18 : decode cX12_image 18 = .ok (.iload_n 2, 1) := by decide +kernel
theorem dX12_image_19 : decode cX12_image 19 = .ok (.sipush 438, 3) := by decide +kernel
theorem dX12_image_22 : decode cX12_image 22 = .ok (.if_icmp .ge 27, 3) := by decide +kernel
theorem dX12_image_25 : decode cX12_image 25 = .ok (.aload_n 0, 1) := by decide +kernel
theorem dX12_image_26 : decode cX12_image 26 = .ok (.getfield 104, 3) := by decide +kernel
theorem dX12_image_29 : decode cX12_image 29 = .ok (.sipush 438, 3) := by decide +kernel
theorem dX12_image_32 : decode cX12_image 32 = .ok (.iload_n 1, 1) := by decide +kernel
theorem dX12_image_33 : decode cX12_image 33 = .ok (.imul, 1) := by decide +kernel
theorem dX12_image_34 : decode cX12_image 34 = .ok (.iload_n 2, 1) := by decide +kernel
theorem dX12_image_35 : decode cX12_image 35 = .ok (.iadd, 1) := by decide +kernel
theorem dX12_image_36 : decode cX12_image 36 = .ok (.aload_n 0, 1) := by decide +kernel
theorem dX12_image_37 : decode cX12_image 37 = .ok (.getfield 98, 3) := by decide +kernel
theorem dX12_image_40 : decode cX12_image 40 = .ok (.iload_n 2, 1) := by decide +kernel
theorem dX12_image_41 : decode cX12_image 41 = .ok (.iaload, 1) := by decide +kernel
theorem dX12_image_42 : decode cX12_image 42 = .ok (.iastore, 1) := by decide +kernel
theorem dX12_image_43 : decode cX12_image 43 = .ok (.iinc 2 1, 3) := by decide +kernel
theorem dX12_image_46 : decode cX12_image 46 = .ok (.goto (-28), 3) := by decide +kernel
theorem dX12_image_49 : decode cX12_image 49 = .ok (.iconst 0, 1) := by decide +kernel
theorem dX12_image_50 : decode cX12_image 50 = .ok (.istore_n 2, 1) := by decide +kernel
theorem dX12_image_51 : decode cX12_image 51 = .ok (.iload_n 2, 1) := by decide +kernel
theorem dX12_image_52 : decode cX12_image 52 = .ok (.bipush 16, 2) := by decide +kernel
theorem dX12_image_54 : decode cX12_image 54 = .ok (.if_icmp .ge 26, 3) := by decide +kernel
theorem dX12_image_57 : decode cX12_image 57 = .ok (.aload_n 0, 1) := by decide +kernel
theorem dX12_image_58 : decode cX12_image 58 = .ok (.getfield 120, 3) := by decide +kernel
theorem dX12_image_61 : decode cX12_image 61 = .ok (.bipush 16, 2) := by decide +kernel
theorem dX12_image_63 : decode cX12_image 63 = .ok (.iload_n 1, 1) := by decide +kernel
theorem dX12_image_64 : decode cX12_image 64 = .ok (.imul, 1) := by decide +kernel
theorem dX12_image_65 : decode cX12_image 65 = .ok (.iload_n 2, 1) := by decide +kernel
theorem dX12_image_66 : decode cX12_image 66 = .ok (.iadd, 1) := by decide +kernel
theorem dX12_image_67 : decode cX12_image 67 = .ok (.aload_n 0, 1) := by decide +kernel
theorem dX12_image_68 : decode cX12_image 68 = .ok (.getfield 113, 3) := by decide +kernel
theorem dX12_image_71 : decode cX12_image 71 = .ok (.iload_n 2, 1) := by decide +kernel
theorem dX12_image_72 : decode cX12_image 72 = .ok (.laload, 1) := by decide +kernel
theorem dX12_image_73 : decode cX12_image 73 = .ok (.lastore, 1) := by decide +kernel
theorem dX12_image_74 : decode cX12_image 74 = .ok (.iinc 2 1, 3) := by decide +kernel
theorem dX12_image_77 : decode cX12_image 77 = .ok (.goto (-26), 3) := by decide +kernel
theorem dX12_image_80 : decode cX12_image 80 = .ok (.aload_n 0, 1) := by decide +kernel
theorem dX12_image_81 : decode cX12_image 81 = .ok (.getfield 123, 3) := by decide +kernel
theorem dX12_image_84 : decode cX12_image 84 = .ok (.iload_n 1, 1) := by decide +kernel
theorem dX12_image_85 : decode cX12_image 85 = .ok (.iconst 1, 1) := by decide +kernel
theorem dX12_image_86 : decode cX12_image 86 = .ok (.bastore, 1) := by decide +kernel
theorem dX12_image_87 : decode cX12_image 87 = .ok (.iconst 1, 1) := by decide +kernel
theorem dX12_image_88 : decode cX12_image 88 = .ok (.ireturn, 1) := by decide +kernel
def tX12_image (kn : sKn) : List (Nat × sA) := [(0, a_aload 0 1), (1, a_stk (q_int 0) 2), (2, a_put 13 0 ckI 5), (5, a_iload 1 6), (6, a_stk (q_int 0) 7), (7, a_stk (q_int 1) 8), (8, a_callS false (fX12_isIn kn) 3 11), (11, a_if kn b_ne 1 16 14), (14, a_stk (q_int 0) 15), (15, a_zret), (16, a_stk (q_int 0) 17), (17, a_istore 2 18), (18, a_iload 2 19), (19, a_stk (q_int 438) 22), (22, a_icmp kn b_ge 3 49 25), (25, a_aload 0 26), (26, a_get 13 16 29), (29, a_stk (q_int 438) 32), (32, a_iload 1 33), (33, a_stk q_imul 34), (34, a_iload 2 35), (35, a_stk q_iadd 36), (36, a_aload 0 37), (37, a_get 13 14 40), (40, a_iload 2 41), (41, a_iald 42), (42, a_iast 43), (43, a_iinc 2 1 46), (46, a_goto 18), (49, a_stk (q_int 0) 50), (50, a_istore 2 51), (51, a_iload 2 52), (52, a_stk (q_int 16) 54), (54, a_icmp kn b_ge 3 80 57), (57, a_aload 0 58), (58, a_get 13 21 61), (61, a_stk (q_int 16) 63), (63, a_iload 1 64), (64, a_stk q_imul 65), (65, a_iload 2 66), (66, a_stk q_iadd 67), (67, a_aload 0 68), (68, a_get 13 19 71), (71, a_iload 2 72), (72, a_lald 73), (73, a_last 74), (74, a_iinc 2 1 77), (77, a_goto 51), (80, a_aload 0 81), (81, a_get 13 22 84), (84, a_iload 1 85), (85, a_stk (q_int 1) 86), (86, a_bast 87), (87, a_stk (q_int 1) 88), (88, a_zret)]
def fX12_image (kn : sKn) : List Value → sW → Option sR := fW (tX12_image kn) 3
set_option maxRecDepth 100000 in
set_option maxHeartbeats 4000000 in
theorem mX12_image (kn : sKn) : mM kn yX12_image (Cond.code yX12_image cX12_image 3 (some .boolean) :: wsL_law) 2 false (fX12_image kn) := mM_W (fun n => mM_of (own := RX12) (ini := false) rfl (by decide +kernel) (by decide +kernel) (all_c (ok_aload_n dX12_image_0 rfl) (all_c (ok_stk (s_iconst dX12_image_1 (by decide))) (all_c (okp_X12_0 kw1114 dX12_image_2) (all_c (ok_iload_n dX12_image_5 rfl) (all_c (ok_stk (s_iconst dX12_image_6 (by decide))) (all_c (ok_stk (s_iconst dX12_image_7 (by decide))) (all_c (okc_X12_isIn (by decide) kw1126 dX12_image_8) (all_c (ok_if_ne dX12_image_11 (by decide)) (all_c (ok_stk (s_iconst dX12_image_14 (by decide))) (all_c (ok_zret dX12_image_15) (all_c (ok_stk (s_iconst dX12_image_16 (by decide))) (all_c (ok_istore_n dX12_image_17 rfl (by decide)) (all_c (ok_iload_n dX12_image_18 rfl) (all_c (ok_stk (s_sipush dX12_image_19 (by decide))) (all_c (ok_icmp_ge dX12_image_22 (by decide)) (all_c (ok_aload_n dX12_image_25 rfl) (all_c (okg_X12_16 kw1441 dX12_image_26) (all_c (ok_stk (s_sipush dX12_image_29 (by decide))) (all_c (ok_iload_n dX12_image_32 rfl) (all_c (ok_stk (s_imul dX12_image_33)) (all_c (ok_iload_n dX12_image_34 rfl) (all_c (ok_stk (s_iadd dX12_image_35)) (all_c (ok_aload_n dX12_image_36 rfl) (all_c (okg_X12_14 kw1069 dX12_image_37) (all_c (ok_iload_n dX12_image_40 rfl) (all_c (ok_iald dX12_image_41) (all_c (ok_iast dX12_image_42) (all_c (ok_iinc dX12_image_43 (by decide) (by decide)) (all_c (ok_goto dX12_image_46 (by decide)) (all_c (ok_stk (s_iconst dX12_image_49 (by decide))) (all_c (ok_istore_n dX12_image_50 rfl (by decide)) (all_c (ok_iload_n dX12_image_51 rfl) (all_c (ok_stk (s_bipush dX12_image_52 (by decide))) (all_c (ok_icmp_ge dX12_image_54 (by decide)) (all_c (ok_aload_n dX12_image_57 rfl) (all_c (okg_X12_21 kw1442 dX12_image_58) (all_c (ok_stk (s_bipush dX12_image_61 (by decide))) (all_c (ok_iload_n dX12_image_63 rfl) (all_c (ok_stk (s_imul dX12_image_64)) (all_c (ok_iload_n dX12_image_65 rfl) (all_c (ok_stk (s_iadd dX12_image_66)) (all_c (ok_aload_n dX12_image_67 rfl) (all_c (okg_X12_19 kw1261 dX12_image_68) (all_c (ok_iload_n dX12_image_71 rfl) (all_c (ok_lald dX12_image_72) (all_c (ok_last dX12_image_73) (all_c (ok_iinc dX12_image_74 (by decide) (by decide)) (all_c (ok_goto dX12_image_77 (by decide)) (all_c (ok_aload_n dX12_image_80 rfl) (all_c (okg_X12_22 kw1443 dX12_image_81) (all_c (ok_iload_n dX12_image_84 rfl) (all_c (ok_stk (s_iconst dX12_image_85 (by decide))) (all_c (ok_bast dX12_image_86) (all_c (ok_stk (s_iconst dX12_image_87 (by decide))) (all_c (ok_zret dX12_image_88) all_n))))))))))))))))))))))))))))))))))))))))))))))))))))))) n (fun h => by first | rfl | cases h))
theorem dX12_init_0 : decode cX12_init 0 = .ok (.aload_n 0, 1) := by decide +kernel
theorem dX12_init_1 : decode cX12_init 1 = .ok (.invokespecial 93, 3) := by decide +kernel
theorem dX12_init_4 : decode cX12_init 4 = .ok (.aload_n 0, 1) := by decide +kernel
theorem dX12_init_5 : decode cX12_init 5 = .ok (.sipush 940, 3) := by decide +kernel
theorem dX12_init_8 : decode cX12_init 8 = .ok (.newarray .int, 2) := by decide +kernel
theorem dX12_init_10 : decode cX12_init 10 = .ok (.putfield 7, 3) := by decide +kernel
theorem dX12_init_13 : decode cX12_init 13 = .ok (.aload_n 0, 1) := by decide +kernel
theorem dX12_init_14 : decode cX12_init 14 = .ok (.sipush 438, 3) := by decide +kernel
theorem dX12_init_17 : decode cX12_init 17 = .ok (.newarray .int, 2) := by decide +kernel
theorem dX12_init_19 : decode cX12_init 19 = .ok (.putfield 98, 3) := by decide +kernel
theorem dX12_init_22 : decode cX12_init 22 = .ok (.aload_n 0, 1) := by decide +kernel
theorem dX12_init_23 : decode cX12_init 23 = .ok (.bipush 94, 2) := by decide +kernel
theorem dX12_init_25 : decode cX12_init 25 = .ok (.newarray .int, 2) := by decide +kernel
theorem dX12_init_27 : decode cX12_init 27 = .ok (.putfield 101, 3) := by decide +kernel
theorem dX12_init_30 : decode cX12_init 30 = .ok (.aload_n 0, 1) := by decide +kernel
theorem dX12_init_31 : decode cX12_init 31 = .ok (.sipush 876, 3) := by decide +kernel
theorem dX12_init_34 : decode cX12_init 34 = .ok (.newarray .int, 2) := by decide +kernel
theorem dX12_init_36 : decode cX12_init 36 = .ok (.putfield 104, 3) := by decide +kernel
theorem dX12_init_39 : decode cX12_init 39 = .ok (.aload_n 0, 1) := by decide +kernel
theorem dX12_init_40 : decode cX12_init 40 = .ok (.sipush 816, 3) := by decide +kernel
theorem dX12_init_43 : decode cX12_init 43 = .ok (.newarray .int, 2) := by decide +kernel
theorem dX12_init_45 : decode cX12_init 45 = .ok (.putfield 107, 3) := by decide +kernel
theorem dX12_init_48 : decode cX12_init 48 = .ok (.aload_n 0, 1) := by decide +kernel
theorem dX12_init_49 : decode cX12_init 49 = .ok (.bipush 102, 2) := by decide +kernel
theorem dX12_init_51 : decode cX12_init 51 = .ok (.newarray .int, 2) := by decide +kernel
theorem dX12_init_53 : decode cX12_init 53 = .ok (.putfield 110, 3) := by decide +kernel
theorem dX12_init_56 : decode cX12_init 56 = .ok (.aload_n 0, 1) := by decide +kernel
theorem dX12_init_57 : decode cX12_init 57 = .ok (.bipush 16, 2) := by decide +kernel
theorem dX12_init_59 : decode cX12_init 59 = .ok (.newarray .long, 2) := by decide +kernel
theorem dX12_init_61 : decode cX12_init 61 = .ok (.putfield 113, 3) := by decide +kernel
theorem dX12_init_64 : decode cX12_init 64 = .ok (.aload_n 0, 1) := by decide +kernel
theorem dX12_init_65 : decode cX12_init 65 = .ok (.bipush 16, 2) := by decide +kernel
theorem dX12_init_67 : decode cX12_init 67 = .ok (.newarray .long, 2) := by decide +kernel
theorem dX12_init_69 : decode cX12_init 69 = .ok (.putfield 117, 3) := by decide +kernel
theorem dX12_init_72 : decode cX12_init 72 = .ok (.aload_n 0, 1) := by decide +kernel
theorem dX12_init_73 : decode cX12_init 73 = .ok (.bipush 32, 2) := by decide +kernel
theorem dX12_init_75 : decode cX12_init 75 = .ok (.newarray .long, 2) := by decide +kernel
theorem dX12_init_77 : decode cX12_init 77 = .ok (.putfield 120, 3) := by decide +kernel
theorem dX12_init_80 : decode cX12_init 80 = .ok (.aload_n 0, 1) := by decide +kernel
theorem dX12_init_81 : decode cX12_init 81 = .ok (.iconst 2, 1) := by decide +kernel
theorem dX12_init_82 : decode cX12_init 82 = .ok (.newarray .boolean, 2) := by decide +kernel
theorem dX12_init_84 : decode cX12_init 84 = .ok (.putfield 123, 3) := by decide +kernel
theorem dX12_init_87 : decode cX12_init 87 = .ok (.aload_n 0, 1) := by decide +kernel
theorem dX12_init_88 : decode cX12_init 88 = .ok (.bipush 36, 2) := by decide +kernel
theorem dX12_init_90 : decode cX12_init 90 = .ok (.newarray .int, 2) := by decide +kernel
theorem dX12_init_92 : decode cX12_init 92 = .ok (.putfield 127, 3) := by decide +kernel
theorem dX12_init_95 : decode cX12_init 95 = .ok (.aload_n 0, 1) := by decide +kernel
theorem dX12_init_96 : decode cX12_init 96 = .ok (.bipush 48, 2) := by decide +kernel
theorem dX12_init_98 : decode cX12_init 98 = .ok (.newarray .int, 2) := by decide +kernel
theorem dX12_init_100 : decode cX12_init 100 = .ok (.putfield 130, 3) := by decide +kernel
theorem dX12_init_103 : decode cX12_init 103 = .ok (.aload_n 0, 1) := by decide +kernel
theorem dX12_init_104 : decode cX12_init 104 = .ok (.bipush 12, 2) := by decide +kernel
theorem dX12_init_106 : decode cX12_init 106 = .ok (.newarray .int, 2) := by decide +kernel
theorem dX12_init_108 : decode cX12_init 108 = .ok (.putfield 133, 3) := by decide +kernel
theorem dX12_init_111 : decode cX12_init 111 = .ok (.aload_n 0, 1) := by decide +kernel
theorem dX12_init_112 : decode cX12_init 112 = .ok (.bipush 48, 2) := by decide +kernel
theorem dX12_init_114 : decode cX12_init 114 = .ok (.newarray .int, 2) := by decide +kernel
theorem dX12_init_116 : decode cX12_init 116 = .ok (.putfield 136, 3) := by decide +kernel
theorem dX12_init_119 : decode cX12_init 119 = .ok (.aload_n 0, 1) := by decide +kernel
theorem dX12_init_120 : decode cX12_init 120 = .ok (.bipush 36, 2) := by decide +kernel
theorem dX12_init_122 : decode cX12_init 122 = .ok (.newarray .int, 2) := by decide +kernel
theorem dX12_init_124 : decode cX12_init 124 = .ok (.putfield 139, 3) := by decide +kernel
theorem dX12_init_127 : decode cX12_init 127 = .ok (.aload_n 0, 1) := by decide +kernel
theorem dX12_init_128 : decode cX12_init 128 = .ok (.bipush 36, 2) := by decide +kernel
theorem dX12_init_130 : decode cX12_init 130 = .ok (.newarray .int, 2) := by decide +kernel
theorem dX12_init_132 : decode cX12_init 132 = .ok (.putfield 142, 3) := by decide +kernel
theorem dX12_init_135 : decode cX12_init 135 = .ok (.aload_n 0, 1) := by decide +kernel
theorem dX12_init_136 : decode cX12_init 136 = .ok (.iconst 3, 1) := by decide +kernel
theorem dX12_init_137 : decode cX12_init 137 = .ok (.newarray .int, 2) := by decide +kernel
theorem dX12_init_139 : decode cX12_init 139 = .ok (.putfield 145, 3) := by decide +kernel
theorem dX12_init_142 : decode cX12_init 142 = .ok (.aload_n 0, 1) := by decide +kernel
theorem dX12_init_143 : decode cX12_init 143 = .ok (.iconst 3, 1) := by decide +kernel
theorem dX12_init_144 : decode cX12_init 144 = .ok (.newarray .int, 2) := by decide +kernel
theorem dX12_init_146 : decode cX12_init 146 = .ok (.putfield 148, 3) := by decide +kernel
theorem dX12_init_149 : decode cX12_init 149 = .ok (.aload_n 0, 1) := by decide +kernel
theorem dX12_init_150 : decode cX12_init 150 = .ok (.iconst 3, 1) := by decide +kernel
theorem dX12_init_151 : decode cX12_init 151 = .ok (.newarray .int, 2) := by decide +kernel
theorem dX12_init_153 : decode cX12_init 153 = .ok (.putfield 151, 3) := by decide +kernel
theorem dX12_init_156 : decode cX12_init 156 = .ok (.aload_n 0, 1) := by decide +kernel
theorem dX12_init_157 : decode cX12_init 157 = .ok (.bipush 6, 2) := by decide +kernel
theorem dX12_init_159 : decode cX12_init 159 = .ok (.newarray .int, 2) := by decide +kernel
theorem dX12_init_161 : decode cX12_init 161 = .ok (.putfield 154, 3) := by decide +kernel
theorem dX12_init_164 : decode cX12_init 164 = .ok (.aload_n 0, 1) := by decide +kernel
theorem dX12_init_165 : decode cX12_init 165 = .ok (.bipush 6, 2) := by decide +kernel
theorem dX12_init_167 : decode cX12_init 167 = .ok (.newarray .int, 2) := by decide +kernel
theorem dX12_init_169 : decode cX12_init 169 = .ok (.putfield 157, 3) := by decide +kernel
theorem dX12_init_172 : decode cX12_init 172 = .ok (.aload_n 0, 1) := by decide +kernel
theorem dX12_init_173 : decode cX12_init 173 = .ok (.sipush 720, 3) := by decide +kernel
theorem dX12_init_176 : decode cX12_init 176 = .ok (.newarray .int, 2) := by decide +kernel
theorem dX12_init_178 : decode cX12_init 178 = .ok (.putfield 160, 3) := by decide +kernel
theorem dX12_init_181 : decode cX12_init 181 = .ok (.aload_n 0, 1) := by decide +kernel
theorem dX12_init_182 : decode cX12_init 182 = .ok (.bipush 6, 2) := by decide +kernel
theorem dX12_init_184 : decode cX12_init 184 = .ok (.newarray .int, 2) := by decide +kernel
theorem dX12_init_186 : decode cX12_init 186 = .ok (.putfield 163, 3) := by decide +kernel
theorem dX12_init_189 : decode cX12_init 189 = .ok (.aload_n 0, 1) := by decide +kernel
theorem dX12_init_190 : decode cX12_init 190 = .ok (.iconst (-1), 1) := by decide +kernel
theorem dX12_init_191 : decode cX12_init 191 = .ok (.putfield 166, 3) := by decide +kernel
theorem dX12_init_194 : decode cX12_init 194 = .ok (.aload_n 0, 1) := by decide +kernel
theorem dX12_init_195 : decode cX12_init 195 = .ok (.iconst (-1), 1) := by decide +kernel
theorem dX12_init_196 : decode cX12_init 196 = .ok (.putfield 169, 3) := by decide +kernel
theorem dX12_init_199 : decode cX12_init 199 = .ok (.aload_n 0, 1) := by decide +kernel
theorem dX12_init_200 : decode cX12_init 200 = .ok (.bipush 64, 2) := by decide +kernel
theorem dX12_init_202 : decode cX12_init 202 = .ok (.newarray .int, 2) := by decide +kernel
theorem dX12_init_204 : decode cX12_init 204 = .ok (.putfield 172, 3) := by decide +kernel
theorem dX12_init_207 : decode cX12_init 207 = .ok (.aload_n 0, 1) := by decide +kernel
theorem dX12_init_208 : decode cX12_init 208 = .ok (.sipush 160, 3) := by decide +kernel
theorem dX12_init_211 : decode cX12_init 211 = .ok (.newarray .int, 2) := by decide +kernel
theorem dX12_init_213 : decode cX12_init 213 = .ok (.putfield 175, 3) := by decide +kernel
theorem dX12_init_216 : decode cX12_init 216 = .ok (.aload_n 0, 1) := by decide +kernel
theorem dX12_init_217 : decode cX12_init 217 = .ok (.iconst 4, 1) := by decide +kernel
theorem dX12_init_218 : decode cX12_init 218 = .ok (.newarray .int, 2) := by decide +kernel
theorem dX12_init_220 : decode cX12_init 220 = .ok (.putfield 178, 3) := by decide +kernel
theorem dX12_init_223 : decode cX12_init 223 = .ok (.aload_n 0, 1) := by decide +kernel
theorem dX12_init_224 : decode cX12_init 224 = .ok (.sipush 240, 3) := by decide +kernel
theorem dX12_init_227 : decode cX12_init 227 = .ok (.newarray .int, 2) := by decide +kernel
theorem dX12_init_229 : decode cX12_init 229 = .ok (.putfield 181, 3) := by decide +kernel
theorem dX12_init_232 : decode cX12_init 232 = .ok (.aload_n 0, 1) := by decide +kernel
theorem dX12_init_233 : decode cX12_init 233 = .ok (.invokevirtual 184, 3) := by decide +kernel
theorem dX12_init_236 : decode cX12_init 236 = .ok (.iconst 0, 1) := by decide +kernel
theorem dX12_init_237 : decode cX12_init 237 = .ok (.istore_n 1, 1) := by decide +kernel
theorem dX12_init_238 : decode cX12_init 238 = .ok (.iload_n 1, 1) := by decide +kernel
theorem dX12_init_239 : decode cX12_init 239 = .ok (.bipush 94, 2) := by decide +kernel
theorem dX12_init_241 : decode cX12_init 241 = .ok (.if_icmp .ge 21, 3) := by decide +kernel
theorem dX12_init_244 : decode cX12_init 244 = .ok (.aload_n 0, 1) := by decide +kernel
theorem dX12_init_245 : decode cX12_init 245 = .ok (.getfield 98, 3) := by decide +kernel
theorem dX12_init_248 : decode cX12_init 248 = .ok (.iload_n 1, 1) := by decide +kernel
theorem dX12_init_249 : decode cX12_init 249 = .ok (.aload_n 0, 1) := by decide +kernel
theorem dX12_init_250 : decode cX12_init 250 = .ok (.getfield 101, 3) := by decide +kernel
theorem dX12_init_253 : decode cX12_init 253 = .ok (.iload_n 1, 1) := by decide +kernel
theorem dX12_init_254 : decode cX12_init 254 = .ok (.iaload, 1) := by decide +kernel
theorem dX12_init_255 : decode cX12_init 255 = .ok (.iastore, 1) := by decide +kernel
theorem dX12_init_256 : decode cX12_init 256 = .ok (.iinc 1 1, 3) := by decide +kernel
theorem dX12_init_259 : decode cX12_init 259 = .ok (.goto (-21), 3) := by decide +kernel
theorem dX12_init_262 : decode cX12_init 262 = .ok (.aload_n 0, 1) := by decide +kernel
theorem dX12_init_263 : decode cX12_init 263 = .ok (.invokevirtual 187, 3) := by decide +kernel
theorem dX12_init_266 : decode cX12_init 266 = .ok (.return_, 1) := by decide +kernel
def tX12_init (kn : sKn) : List (Nat × sA) := [(0, a_aload 0 1), (1, a_obj 4), (4, a_aload 0 5), (5, a_stk (q_int 940) 8), (8, a_newa 1 10), (10, a_put 13 1 ckR 13), (13, a_aload 0 14), (14, a_stk (q_int 438) 17), (17, a_newa 1 19), (19, a_put 13 14 ckR 22), (22, a_aload 0 23), (23, a_stk (q_int 94) 25), (25, a_newa 1 27), (27, a_put 13 15 ckR 30), (30, a_aload 0 31), (31, a_stk (q_int 876) 34), (34, a_newa 1 36), (36, a_put 13 16 ckR 39), (39, a_aload 0 40), (40, a_stk (q_int 816) 43), (43, a_newa 1 45), (45, a_put 13 17 ckR 48), (48, a_aload 0 49), (49, a_stk (q_int 102) 51), (51, a_newa 1 53), (53, a_put 13 18 ckR 56), (56, a_aload 0 57), (57, a_stk (q_int 16) 59), (59, a_newa 2 61), (61, a_put 13 19 ckR 64), (64, a_aload 0 65), (65, a_stk (q_int 16) 67), (67, a_newa 2 69), (69, a_put 13 20 ckR 72), (72, a_aload 0 73), (73, a_stk (q_int 32) 75), (75, a_newa 2 77), (77, a_put 13 21 ckR 80), (80, a_aload 0 81), (81, a_stk (q_int 2) 82), (82, a_newa 3 84), (84, a_put 13 22 ckR 87), (87, a_aload 0 88), (88, a_stk (q_int 36) 90), (90, a_newa 1 92), (92, a_put 13 27 ckR 95), (95, a_aload 0 96), (96, a_stk (q_int 48) 98), (98, a_newa 1 100), (100, a_put 13 29 ckR 103), (103, a_aload 0 104), (104, a_stk (q_int 12) 106), (106, a_newa 1 108), (108, a_put 13 30 ckR 111), (111, a_aload 0 112), (112, a_stk (q_int 48) 114), (114, a_newa 1 116), (116, a_put 13 31 ckR 119), (119, a_aload 0 120), (120, a_stk (q_int 36) 122), (122, a_newa 1 124), (124, a_put 13 32 ckR 127), (127, a_aload 0 128), (128, a_stk (q_int 36) 130), (130, a_newa 1 132), (132, a_put 13 33 ckR 135), (135, a_aload 0 136), (136, a_stk (q_int 3) 137), (137, a_newa 1 139), (139, a_put 13 34 ckR 142), (142, a_aload 0 143), (143, a_stk (q_int 3) 144), (144, a_newa 1 146), (146, a_put 13 37 ckR 149), (149, a_aload 0 150), (150, a_stk (q_int 3) 151), (151, a_newa 1 153), (153, a_put 13 38 ckR 156), (156, a_aload 0 157), (157, a_stk (q_int 6) 159), (159, a_newa 1 161), (161, a_put 13 40 ckR 164), (164, a_aload 0 165), (165, a_stk (q_int 6) 167), (167, a_newa 1 169), (169, a_put 13 41 ckR 172), (172, a_aload 0 173), (173, a_stk (q_int 720) 176), (176, a_newa 1 178), (178, a_put 13 42 ckR 181), (181, a_aload 0 182), (182, a_stk (q_int 6) 184), (184, a_newa 1 186), (186, a_put 13 45 ckR 189), (189, a_aload 0 190), (190, a_stk (q_int (-1)) 191), (191, a_put 13 46 ckI 194), (194, a_aload 0 195), (195, a_stk (q_int (-1)) 196), (196, a_put 13 47 ckI 199), (199, a_aload 0 200), (200, a_stk (q_int 64) 202), (202, a_newa 1 204), (204, a_put 13 48 ckR 207), (207, a_aload 0 208), (208, a_stk (q_int 160) 211), (211, a_newa 1 213), (213, a_put 13 51 ckR 216), (216, a_aload 0 217), (217, a_stk (q_int 4) 218), (218, a_newa 1 220), (220, a_put 13 52 ckR 223), (223, a_aload 0 224), (224, a_stk (q_int 240) 227), (227, a_newa 1 229), (229, a_put 13 55 ckR 232), (232, a_aload 0 233), (233, a_callV true (fX12_startRead kn) 13 1 236), (236, a_stk (q_int 0) 237), (237, a_istore 1 238), (238, a_iload 1 239), (239, a_stk (q_int 94) 241), (241, a_icmp kn b_ge 3 262 244), (244, a_aload 0 245), (245, a_get 13 14 248), (248, a_iload 1 249), (249, a_aload 0 250), (250, a_get 13 15 253), (253, a_iload 1 254), (254, a_iald 255), (255, a_iast 256), (256, a_iinc 1 1 259), (259, a_goto 238), (262, a_aload 0 263), (263, a_callV true (fX12_startSo kn) 13 1 266), (266, a_vret)]
def fX12_init (kn : sKn) : List Value → sW → Option sR := fW (tX12_init kn) 2
set_option maxRecDepth 100000 in
set_option maxHeartbeats 4000000 in
theorem mX12_init (kn : sKn) : mM kn yX12_init (Cond.code yX12_init cX12_init 2 none :: wsL_law) 2 true (fX12_init kn) := mM_W (fun n => mM_of (own := RX12) (ini := true) rfl (by decide +kernel) (by decide +kernel) (all_c (ok_aload_n dX12_init_0 rfl) (all_c (ok_obj (by decide) kw1444 kw122 kw123 dX12_init_1) (all_c (ok_aload_n dX12_init_4 rfl) (all_c (ok_stk (s_sipush dX12_init_5 (by decide))) (all_c (ok_newI kw229 dX12_init_8) (all_c (okp_X12_1 kw1153 dX12_init_10) (all_c (ok_aload_n dX12_init_13 rfl) (all_c (ok_stk (s_sipush dX12_init_14 (by decide))) (all_c (ok_newI kw229 dX12_init_17) (all_c (okp_X12_14 kw1069 dX12_init_19) (all_c (ok_aload_n dX12_init_22 rfl) (all_c (ok_stk (s_bipush dX12_init_23 (by decide))) (all_c (ok_newI kw229 dX12_init_25) (all_c (okp_X12_15 kw1338 dX12_init_27) (all_c (ok_aload_n dX12_init_30 rfl) (all_c (ok_stk (s_sipush dX12_init_31 (by decide))) (all_c (ok_newI kw229 dX12_init_34) (all_c (okp_X12_16 kw1441 dX12_init_36) (all_c (ok_aload_n dX12_init_39 rfl) (all_c (ok_stk (s_sipush dX12_init_40 (by decide))) (all_c (ok_newI kw229 dX12_init_43) (all_c (okp_X12_17 kw1287 dX12_init_45) (all_c (ok_aload_n dX12_init_48 rfl) (all_c (ok_stk (s_bipush dX12_init_49 (by decide))) (all_c (ok_newI kw229 dX12_init_51) (all_c (okp_X12_18 kw1180 dX12_init_53) (all_c (ok_aload_n dX12_init_56 rfl) (all_c (ok_stk (s_bipush dX12_init_57 (by decide))) (all_c (ok_newJ kw814 dX12_init_59) (all_c (okp_X12_19 kw1261 dX12_init_61) (all_c (ok_aload_n dX12_init_64 rfl) (all_c (ok_stk (s_bipush dX12_init_65 (by decide))) (all_c (ok_newJ kw814 dX12_init_67) (all_c (okp_X12_20 kw1339 dX12_init_69) (all_c (ok_aload_n dX12_init_72 rfl) (all_c (ok_stk (s_bipush dX12_init_73 (by decide))) (all_c (ok_newJ kw814 dX12_init_75) (all_c (okp_X12_21 kw1442 dX12_init_77) (all_c (ok_aload_n dX12_init_80 rfl) (all_c (ok_stk (s_iconst dX12_init_81 (by decide))) (all_c (ok_newZ kw873 dX12_init_82) (all_c (okp_X12_22 kw1443 dX12_init_84) (all_c (ok_aload_n dX12_init_87 rfl) (all_c (ok_stk (s_bipush dX12_init_88 (by decide))) (all_c (ok_newI kw229 dX12_init_90) (all_c (okp_X12_27 kw1068 dX12_init_92) (all_c (ok_aload_n dX12_init_95 rfl) (all_c (ok_stk (s_bipush dX12_init_96 (by decide))) (all_c (ok_newI kw229 dX12_init_98) (all_c (okp_X12_29 kw1098 dX12_init_100) (all_c (ok_aload_n dX12_init_103 rfl) (all_c (ok_stk (s_bipush dX12_init_104 (by decide))) (all_c (ok_newI kw229 dX12_init_106) (all_c (okp_X12_30 kw1445 dX12_init_108) (all_c (ok_aload_n dX12_init_111 rfl) (all_c (ok_stk (s_bipush dX12_init_112 (by decide))) (all_c (ok_newI kw229 dX12_init_114) (all_c (okp_X12_31 kw1143 dX12_init_116) (all_c (ok_aload_n dX12_init_119 rfl) (all_c (ok_stk (s_bipush dX12_init_120 (by decide))) (all_c (ok_newI kw229 dX12_init_122) (all_c (okp_X12_32 kw1129 dX12_init_124) (all_c (ok_aload_n dX12_init_127 rfl) (all_c (ok_stk (s_bipush dX12_init_128 (by decide))) (all_c (ok_newI kw229 dX12_init_130) (all_c (okp_X12_33 kw1127 dX12_init_132) (all_c (ok_aload_n dX12_init_135 rfl) (all_c (ok_stk (s_iconst dX12_init_136 (by decide))) (all_c (ok_newI kw229 dX12_init_137) (all_c (okp_X12_34 kw1130 dX12_init_139) (all_c (ok_aload_n dX12_init_142 rfl) (all_c (ok_stk (s_iconst dX12_init_143 (by decide))) (all_c (ok_newI kw229 dX12_init_144) (all_c (okp_X12_37 kw1401 dX12_init_146) (all_c (ok_aload_n dX12_init_149 rfl) (all_c (ok_stk (s_iconst dX12_init_150 (by decide))) (all_c (ok_newI kw229 dX12_init_151) (all_c (okp_X12_38 kw1407 dX12_init_153) (all_c (ok_aload_n dX12_init_156 rfl) (all_c (ok_stk (s_bipush dX12_init_157 (by decide))) (all_c (ok_newI kw229 dX12_init_159) (all_c (okp_X12_40 kw1446 dX12_init_161) (all_c (ok_aload_n dX12_init_164 rfl) (all_c (ok_stk (s_bipush dX12_init_165 (by decide))) (all_c (ok_newI kw229 dX12_init_167) (all_c (okp_X12_41 kw1447 dX12_init_169) (all_c (ok_aload_n dX12_init_172 rfl) (all_c (ok_stk (s_sipush dX12_init_173 (by decide))) (all_c (ok_newI kw229 dX12_init_176) (all_c (okp_X12_42 kw1448 dX12_init_178) (all_c (ok_aload_n dX12_init_181 rfl) (all_c (ok_stk (s_bipush dX12_init_182 (by decide))) (all_c (ok_newI kw229 dX12_init_184) (all_c (okp_X12_45 kw1426 dX12_init_186) (all_c (ok_aload_n dX12_init_189 rfl) (all_c (ok_stk (s_iconst dX12_init_190 (by decide))) (all_c (okp_X12_46 kw1431 dX12_init_191) (all_c (ok_aload_n dX12_init_194 rfl) (all_c (ok_stk (s_iconst dX12_init_195 (by decide))) (all_c (okp_X12_47 kw1432 dX12_init_196) (all_c (ok_aload_n dX12_init_199 rfl) (all_c (ok_stk (s_bipush dX12_init_200 (by decide))) (all_c (ok_newI kw229 dX12_init_202) (all_c (okp_X12_48 kw1400 dX12_init_204) (all_c (ok_aload_n dX12_init_207 rfl) (all_c (ok_stk (s_sipush dX12_init_208 (by decide))) (all_c (ok_newI kw229 dX12_init_211) (all_c (okp_X12_51 kw1213 dX12_init_213) (all_c (ok_aload_n dX12_init_216 rfl) (all_c (ok_stk (s_iconst dX12_init_217 (by decide))) (all_c (ok_newI kw229 dX12_init_218) (all_c (okp_X12_52 kw1328 dX12_init_220) (all_c (ok_aload_n dX12_init_223 rfl) (all_c (ok_stk (s_sipush dX12_init_224 (by decide))) (all_c (ok_newI kw229 dX12_init_227) (all_c (okp_X12_55 kw1449 dX12_init_229) (all_c (ok_aload_n dX12_init_232 rfl) (all_c (okc_X12_startRead (by decide) kw1386 dX12_init_233) (all_c (ok_stk (s_iconst dX12_init_236 (by decide))) (all_c (ok_istore_n dX12_init_237 rfl (by decide)) (all_c (ok_iload_n dX12_init_238 rfl) (all_c (ok_stk (s_bipush dX12_init_239 (by decide))) (all_c (ok_icmp_ge dX12_init_241 (by decide)) (all_c (ok_aload_n dX12_init_244 rfl) (all_c (okg_X12_14 kw1069 dX12_init_245) (all_c (ok_iload_n dX12_init_248 rfl) (all_c (ok_aload_n dX12_init_249 rfl) (all_c (okg_X12_15 kw1338 dX12_init_250) (all_c (ok_iload_n dX12_init_253 rfl) (all_c (ok_iald dX12_init_254) (all_c (ok_iast dX12_init_255) (all_c (ok_iinc dX12_init_256 (by decide) (by decide)) (all_c (ok_goto dX12_init_259 (by decide)) (all_c (ok_aload_n dX12_init_262 rfl) (all_c (okc_X12_startSo (by decide) kw1394 dX12_init_263) (all_c (ok_vret dX12_init_266) all_n)))))))))))))))))))))))))))))))))))))))))))))))))))))))))))))))))))))))))))))))))))))))))))))))))))))))))))))))))))))))))))))))))))))))) n (fun h => by first | rfl | cases h))
theorem dX12_keystone_0 : decode cX12_keystone 0 = .ok (.aload_n 0, 1) := by decide +kernel
theorem dX12_keystone_1 : decode cX12_keystone 1 = .ok (.iconst 0, 1) := by decide +kernel
theorem dX12_keystone_2 : decode cX12_keystone 2 = .ok (.putfield 1, 3) := by decide +kernel
theorem dX12_keystone_5 : decode cX12_keystone 5 = .ok (.iconst (-1), 1) := by decide +kernel
theorem dX12_keystone_6 : decode cX12_keystone 6 = .ok (.istore_n 1, 1) := by decide +kernel
theorem dX12_keystone_7 : decode cX12_keystone 7 = .ok (.ldc_w 308, 3) := by decide +kernel
theorem dX12_keystone_10 : decode cX12_keystone 10 = .ok (.istore_n 2, 1) := by decide +kernel
theorem dX12_keystone_11 : decode cX12_keystone 11 = .ok (.iconst 0, 1) := by decide +kernel
theorem dX12_keystone_12 : decode cX12_keystone 12 = .ok (.istore_n 3, 1) := by decide +kernel
theorem dX12_keystone_13 : decode cX12_keystone 13 = .ok (.iload_n 3, 1) := by decide +kernel
theorem dX12_keystone_14 : decode cX12_keystone 14 = .ok (.aload_n 0, 1) := by decide +kernel
theorem dX12_keystone_15 : decode cX12_keystone 15 = .ok (.getfield 98, 3) := by decide +kernel
theorem dX12_keystone_18 : decode cX12_keystone 18 = .ok (.iconst 1, 1) := by decide +kernel
theorem dX12_keystone_19 : decode cX12_keystone 19 = .ok (.iaload, 1) := by decide +kernel
theorem dX12_keystone_20 : decode cX12_keystone 20 = .ok (.if_icmp .ge 68, 3) := by decide +kernel
theorem dX12_keystone_23 : decode cX12_keystone 23 = .ok (.aload_n 0, 1) := by decide +kernel
theorem dX12_keystone_24 : decode cX12_keystone 24 = .ok (.invokevirtual 292, 3) := by decide +kernel
theorem dX12_keystone_27 : decode cX12_keystone 27 = .ok (.iconst 0, 1) := by decide +kernel
theorem dX12_keystone_28 : decode cX12_keystone 28 = .ok (.istore 4, 2) := by decide +kernel
theorem dX12_keystone_30 : decode cX12_keystone 30 = .ok (.iload 4, 2) := by decide +kernel
theorem dX12_keystone_32 : decode cX12_keystone 32 = .ok (.bipush 36, 2) := by decide +kernel
theorem dX12_keystone_34 : decode cX12_keystone 34 = .ok (.if_icmp .ge 28, 3) := by decide +kernel
theorem dX12_keystone_37 : decode cX12_keystone 37 = .ok (.aload_n 0, 1) := by decide +kernel
theorem dX12_keystone_38 : decode cX12_keystone 38 = .ok (.getfield 127, 3) := by decide +kernel
theorem dX12_keystone_41 : decode cX12_keystone 41 = .ok (.iload 4, 2) := by decide +kernel
theorem dX12_keystone_43 : decode cX12_keystone 43 = .ok (.iaload, 1) := by decide +kernel
theorem dX12_keystone_44 : decode cX12_keystone 44 = .ok (.iload_n 3, 1) := by decide +kernel
theorem dX12_keystone_45 : decode cX12_keystone 45 = .ok (.if_icmp .ne 11, 3) := by decide +kernel
theorem dX12_keystone_48 : decode cX12_keystone 48 = .ok (.aload_n 0, 1) := by decide +kernel
theorem dX12_keystone_49 : decode cX12_keystone 49 = .ok (.getfield 127, 3) := by decide +kernel
theorem dX12_keystone_52 : decode cX12_keystone 52 = .ok (.iload 4, 2) := by decide +kernel
theorem dX12_keystone_54 : decode cX12_keystone 54 = .ok (.iconst (-1), 1) := by decide +kernel
theorem dX12_keystone_55 : decode cX12_keystone 55 = .ok (.iastore, 1) := by decide +kernel
theorem dX12_keystone_56 : decode cX12_keystone 56 = .ok (.iinc 4 1, 3) := by decide +kernel
theorem dX12_keystone_59 : decode cX12_keystone 59 = .ok (.goto (-29), 3) := by decide +kernel
theorem dX12_keystone_62 : decode cX12_keystone 62 = .ok (.aload_n 0, 1) := by decide +kernel
theorem dX12_keystone_63 : decode cX12_keystone 63 = .ok (.invokevirtual 383, 3) := by decide +kernel
theorem dX12_keystone_66 : decode cX12_keystone 66 = .ok (.istore 4, 2) := by decide +kernel
theorem dX12_keystone_68 : decode cX12_keystone 68 = .ok (.iload 4, 2) := by decide +kernel
theorem dX12_keystone_70 : decode cX12_keystone 70 = .ok (.iload_n 2, 1) := by decide +kernel
theorem dX12_keystone_71 : decode cX12_keystone 71 = .ok (.if_icmp .lt 6, 3) := by decide +kernel
theorem dX12_keystone_74 : decode cX12_keystone 74 = .ok (.goto 8, 3) := by decide +kernel
theorem dX12_keystone_77 : decode cX12_keystone 77 = .ok (.iload 4, 2) := by decide +kernel
theorem dX12_keystone_79 : decode cX12_keystone 79 = .ok (.istore_n 2, 1) := by decide +kernel
theorem dX12_keystone_80 : decode cX12_keystone 80 = .ok (.iload_n 3, 1) := by decide +kernel
theorem dX12_keystone_81 : decode cX12_keystone 81 = .ok (.istore_n 1, 1) := by decide +kernel
theorem dX12_keystone_82 : decode cX12_keystone 82 = .ok (.iinc 3 1, 3) := by decide +kernel
theorem dX12_keystone_85 : decode cX12_keystone 85 = .ok (.goto (-72), 3) := by decide +kernel
theorem dX12_keystone_88 : decode cX12_keystone 88 = .ok (.iload_n 1, 1) := by decide +kernel
theorem dX12_keystone_89 : decode cX12_keystone 89 = .ok (.ireturn, 1) := by decide +kernel
def tX12_keystone (kn : sKn) : List (Nat × sA) := [(0, a_aload 0 1), (1, a_stk (q_int 0) 2), (2, a_put 13 0 ckI 5), (5, a_stk (q_int (-1)) 6), (6, a_istore 1 7), (7, a_stk (q_int (100000)) 10), (10, a_istore 2 11), (11, a_stk (q_int 0) 12), (12, a_istore 3 13), (13, a_iload 3 14), (14, a_aload 0 15), (15, a_get 13 14 18), (18, a_stk (q_int 1) 19), (19, a_iald 20), (20, a_icmp kn b_ge 3 88 23), (23, a_aload 0 24), (24, a_callV true (fX12_layWhose kn) 13 1 27), (27, a_stk (q_int 0) 28), (28, a_istore 4 30), (30, a_iload 4 32), (32, a_stk (q_int 36) 34), (34, a_icmp kn b_ge 3 62 37), (37, a_aload 0 38), (38, a_get 13 27 41), (41, a_iload 4 43), (43, a_iald 44), (44, a_iload 3 45), (45, a_icmp kn b_ne 1 56 48), (48, a_aload 0 49), (49, a_get 13 27 52), (52, a_iload 4 54), (54, a_stk (q_int (-1)) 55), (55, a_iast 56), (56, a_iinc 4 1 59), (59, a_goto 30), (62, a_aload 0 63), (63, a_callV false (fX12_pathsNow kn) 13 1 66), (66, a_istore 4 68), (68, a_iload 4 70), (70, a_iload 2 71), (71, a_icmp kn b_lt 2 77 74), (74, a_goto 82), (77, a_iload 4 79), (79, a_istore 2 80), (80, a_iload 3 81), (81, a_istore 1 82), (82, a_iinc 3 1 85), (85, a_goto 13), (88, a_iload 1 89), (89, a_iret)]
def fX12_keystone (kn : sKn) : List Value → sW → Option sR := fW (tX12_keystone kn) 5
set_option maxRecDepth 100000 in
set_option maxHeartbeats 4000000 in
theorem mX12_keystone (kn : sKn) : mM kn yX12_keystone (Cond.code yX12_keystone cX12_keystone 5 (some .int) :: wsL_law) 10 false (fX12_keystone kn) := mM_W (fun n => mM_of (own := RX12) (ini := false) rfl (by decide +kernel) (by decide +kernel) (all_c (ok_aload_n dX12_keystone_0 rfl) (all_c (ok_stk (s_iconst dX12_keystone_1 (by decide))) (all_c (okp_X12_0 kw1114 dX12_keystone_2) (all_c (ok_stk (s_iconst dX12_keystone_5 (by decide))) (all_c (ok_istore_n dX12_keystone_6 rfl (by decide)) (all_c (ok_ldcw kw1094 dX12_keystone_7) (all_c (ok_istore_n dX12_keystone_10 rfl (by decide)) (all_c (ok_stk (s_iconst dX12_keystone_11 (by decide))) (all_c (ok_istore_n dX12_keystone_12 rfl (by decide)) (all_c (ok_iload_n dX12_keystone_13 rfl) (all_c (ok_aload_n dX12_keystone_14 rfl) (all_c (okg_X12_14 kw1069 dX12_keystone_15) (all_c (ok_stk (s_iconst dX12_keystone_18 (by decide))) (all_c (ok_iald dX12_keystone_19) (all_c (ok_icmp_ge dX12_keystone_20 (by decide)) (all_c (ok_aload_n dX12_keystone_23 rfl) (all_c (okc_X12_layWhose (by decide) kw1118 dX12_keystone_24) (all_c (ok_stk (s_iconst dX12_keystone_27 (by decide))) (all_c (ok_istore dX12_keystone_28 (by decide)) (all_c (ok_iload dX12_keystone_30) (all_c (ok_stk (s_bipush dX12_keystone_32 (by decide))) (all_c (ok_icmp_ge dX12_keystone_34 (by decide)) (all_c (ok_aload_n dX12_keystone_37 rfl) (all_c (okg_X12_27 kw1068 dX12_keystone_38) (all_c (ok_iload dX12_keystone_41) (all_c (ok_iald dX12_keystone_43) (all_c (ok_iload_n dX12_keystone_44 rfl) (all_c (ok_icmp_ne dX12_keystone_45 (by decide)) (all_c (ok_aload_n dX12_keystone_48 rfl) (all_c (okg_X12_27 kw1068 dX12_keystone_49) (all_c (ok_iload dX12_keystone_52) (all_c (ok_stk (s_iconst dX12_keystone_54 (by decide))) (all_c (ok_iast dX12_keystone_55) (all_c (ok_iinc dX12_keystone_56 (by decide) (by decide)) (all_c (ok_goto dX12_keystone_59 (by decide)) (all_c (ok_aload_n dX12_keystone_62 rfl) (all_c (okc_X12_pathsNow (by decide) kw1122 dX12_keystone_63) (all_c (ok_istore dX12_keystone_66 (by decide)) (all_c (ok_iload dX12_keystone_68) (all_c (ok_iload_n dX12_keystone_70 rfl) (all_c (ok_icmp_lt dX12_keystone_71 (by decide)) (all_c (ok_goto dX12_keystone_74 (by decide)) (all_c (ok_iload dX12_keystone_77) (all_c (ok_istore_n dX12_keystone_79 rfl (by decide)) (all_c (ok_iload_n dX12_keystone_80 rfl) (all_c (ok_istore_n dX12_keystone_81 rfl (by decide)) (all_c (ok_iinc dX12_keystone_82 (by decide) (by decide)) (all_c (ok_goto dX12_keystone_85 (by decide)) (all_c (ok_iload_n dX12_keystone_88 rfl) (all_c (ok_iret dX12_keystone_89) all_n)))))))))))))))))))))))))))))))))))))))))))))))))) n (fun h => by first | rfl | cases h))
theorem dX12_lasts_0 : decode cX12_lasts 0 = .ok (.aload_n 0, 1) := by decide +kernel
theorem dX12_lasts_1 : decode cX12_lasts 1 = .ok (.iconst 0, 1) := by decide +kernel
theorem dX12_lasts_2 : decode cX12_lasts 2 = .ok (.putfield 1, 3) := by decide +kernel
theorem dX12_lasts_5 : decode cX12_lasts 5 = .ok (.aload_n 0, 1) := by decide +kernel
theorem dX12_lasts_6 : decode cX12_lasts 6 = .ok (.iload_n 1, 1) := by decide +kernel
theorem dX12_lasts_7 : decode cX12_lasts 7 = .ok (.invokevirtual 295, 3) := by decide +kernel
theorem dX12_lasts_10 : decode cX12_lasts 10 = .ok (.ifCond .ne 5, 3) := by decide +kernel
theorem dX12_lasts_13 : decode cX12_lasts 13 = .ok (.iconst (-1), 1) := by decide +kernel
theorem dX12_lasts_14 : decode cX12_lasts 14 = .ok (.ireturn, 1) := by decide +kernel
theorem dX12_lasts_15 : decode cX12_lasts 15 = .ok (.sipush 200, 3) := by decide +kernel
theorem dX12_lasts_18 : decode cX12_lasts 18 = .ok (.sipush 400, 3) := by decide +kernel
theorem dX12_lasts_21 : decode cX12_lasts 21 = .ok (.aload_n 0, 1) := by decide +kernel
theorem dX12_lasts_22 : decode cX12_lasts 22 = .ok (.getfield 98, 3) := by decide +kernel
theorem dX12_lasts_25 : decode cX12_lasts 25 = .ok (.bipush 94, 2) := by decide +kernel
theorem dX12_lasts_27 : decode cX12_lasts 27 = .ok (.iaload, 1) := by decide +kernel
theorem dX12_lasts_28 : decode cX12_lasts 28 = .ok (.isub, 1) := by decide +kernel
theorem dX12_lasts_29 : decode cX12_lasts 29 = .ok (.invokestatic 312, 3) := by decide +kernel
theorem dX12_lasts_32 : decode cX12_lasts 32 = .ok (.istore_n 2, 1) := by decide +kernel
theorem dX12_lasts_33 : decode cX12_lasts 33 = .ok (.aload_n 0, 1) := by decide +kernel
theorem dX12_lasts_34 : decode cX12_lasts 34 = .ok (.invokevirtual 409, 3) := by decide +kernel
theorem dX12_lasts_37 : decode cX12_lasts 37 = .ok (.aload_n 0, 1) := by decide +kernel
theorem dX12_lasts_38 : decode cX12_lasts 38 = .ok (.iload_n 1, 1) := by decide +kernel
theorem dX12_lasts_39 : decode cX12_lasts 39 = .ok (.iload_n 2, 1) := by decide +kernel
theorem dX12_lasts_40 : decode cX12_lasts 40 = .ok (.iconst 1, 1) := by decide +kernel
theorem dX12_lasts_41 : decode cX12_lasts 41 = .ok (.iadd, 1) := by decide +kernel
theorem dX12_lasts_42 : decode cX12_lasts 42 = .ok (.invokevirtual 412, 3) := by decide +kernel
theorem dX12_lasts_45 : decode cX12_lasts 45 = .ok (.istore_n 3, 1) := by decide +kernel
theorem dX12_lasts_46 : decode cX12_lasts 46 = .ok (.aload_n 0, 1) := by decide +kernel
theorem dX12_lasts_47 : decode cX12_lasts 47 = .ok (.invokevirtual 415, 3) := by decide +kernel
theorem dX12_lasts_50 : decode cX12_lasts 50 = .ok (.iload_n 3, 1) := by decide +kernel
theorem dX12_lasts_51 : decode cX12_lasts 51 = .ok (.iload_n 2, 1) := by decide +kernel
theorem dX12_lasts_52 : decode cX12_lasts 52 = .ok (.if_icmp .le 7, 3) := by decide +kernel
theorem dX12_lasts_55 : decode cX12_lasts 55 = .ok (.iconst (-1), 1) := by decide +kernel
theorem dX12_lasts_56 : decode cX12_lasts 56 = .ok (.goto 12, 3) := by decide +kernel
theorem dX12_lasts_59 : decode cX12_lasts 59 = .ok (.aload_n 0, 1) := by decide +kernel
theorem dX12_lasts_60 : decode cX12_lasts 60 = .ok (.getfield 98, 3) := by decide +kernel
theorem dX12_lasts_63 : decode cX12_lasts 63 = .ok (.bipush 94, 2) := by decide +kernel
theorem dX12_lasts_65 : decode cX12_lasts 65 = .ok (.iaload, 1) := by decide +kernel
theorem dX12_lasts_66 : decode cX12_lasts 66 = .ok (.iload_n 3, 1) := by decide +kernel
theorem dX12_lasts_67 : decode cX12_lasts 67 = .ok (.iadd, 1) := by decide +kernel
theorem dX12_lasts_68 : decode cX12_lasts 68 = .ok (.ireturn, 1) := by decide +kernel
theorem okc_X12_goesOn {kn : sKn} {cc : ByteArray} {own : String} {nL : Nat} {D : Nat} {ret : Option FieldType} {ini : Bool} {pc index : Nat} (hD : 9 + 1 ≤ D) (hl : Cond.methodLink own index yX12_goesOn ∈ wsL_law) (hd : decode cc pc = .ok (.invokevirtual index, 3)) : mOk kn cc own nL wsL_law D ret ini pc (a_callV false (fX12_goesOn kn) 13 (2 + 1) (pc + 3)) := ok_callV (mX12_goesOn kn) (good_ws ws_good (fun _ h => h) kw1450) hD (by decide) hl kw1451 kw1452 kw1072 ⟨by decide +kernel, by decide +kernel, by decide +kernel⟩ rfl hd
def tX12_lasts (kn : sKn) : List (Nat × sA) := [(0, a_aload 0 1), (1, a_stk (q_int 0) 2), (2, a_put 13 0 ckI 5), (5, a_aload 0 6), (6, a_iload 1 7), (7, a_callV false (fX12_isLoad kn) 13 2 10), (10, a_if kn b_ne 1 15 13), (13, a_stk (q_int (-1)) 14), (14, a_iret), (15, a_stk (q_int 200) 18), (18, a_stk (q_int 400) 21), (21, a_aload 0 22), (22, a_get 13 14 25), (25, a_stk (q_int 94) 27), (27, a_iald 28), (28, a_stk q_isub 29), (29, a_callS false (fX12_least kn) 2 32), (32, a_istore 2 33), (33, a_aload 0 34), (34, a_callV true (fX12_layAside kn) 13 1 37), (37, a_aload 0 38), (38, a_iload 1 39), (39, a_iload 2 40), (40, a_stk (q_int 1) 41), (41, a_stk q_iadd 42), (42, a_callV false (fX12_goesOn kn) 13 3 45), (45, a_istore 3 46), (46, a_aload 0 47), (47, a_callV true (fX12_takeBack kn) 13 1 50), (50, a_iload 3 51), (51, a_iload 2 52), (52, a_icmp kn b_le 5 59 55), (55, a_stk (q_int (-1)) 56), (56, a_goto 68), (59, a_aload 0 60), (60, a_get 13 14 63), (63, a_stk (q_int 94) 65), (65, a_iald 66), (66, a_iload 3 67), (67, a_stk q_iadd 68), (68, a_iret)]
def fX12_lasts (kn : sKn) : List Value → sW → Option sR := fW (tX12_lasts kn) 4
set_option maxRecDepth 100000 in
set_option maxHeartbeats 4000000 in
theorem mX12_lasts (kn : sKn) : mM kn yX12_lasts (Cond.code yX12_lasts cX12_lasts 4 (some .int) :: wsL_law) 10 false (fX12_lasts kn) := mM_W (fun n => mM_of (own := RX12) (ini := false) rfl (by decide +kernel) (by decide +kernel) (all_c (ok_aload_n dX12_lasts_0 rfl) (all_c (ok_stk (s_iconst dX12_lasts_1 (by decide))) (all_c (okp_X12_0 kw1114 dX12_lasts_2) (all_c (ok_aload_n dX12_lasts_5 rfl) (all_c (ok_iload_n dX12_lasts_6 rfl) (all_c (okc_X12_isLoad (by decide) kw1142 dX12_lasts_7) (all_c (ok_if_ne dX12_lasts_10 (by decide)) (all_c (ok_stk (s_iconst dX12_lasts_13 (by decide))) (all_c (ok_iret dX12_lasts_14) (all_c (ok_stk (s_sipush dX12_lasts_15 (by decide))) (all_c (ok_stk (s_sipush dX12_lasts_18 (by decide))) (all_c (ok_aload_n dX12_lasts_21 rfl) (all_c (okg_X12_14 kw1069 dX12_lasts_22) (all_c (ok_stk (s_bipush dX12_lasts_25 (by decide))) (all_c (ok_iald dX12_lasts_27) (all_c (ok_stk (s_isub dX12_lasts_28)) (all_c (okc_X12_least (by decide) kw1101 dX12_lasts_29) (all_c (ok_istore_n dX12_lasts_32 rfl (by decide)) (all_c (ok_aload_n dX12_lasts_33 rfl) (all_c (okc_X12_layAside (by decide) kw1319 dX12_lasts_34) (all_c (ok_aload_n dX12_lasts_37 rfl) (all_c (ok_iload_n dX12_lasts_38 rfl) (all_c (ok_iload_n dX12_lasts_39 rfl) (all_c (ok_stk (s_iconst dX12_lasts_40 (by decide))) (all_c (ok_stk (s_iadd dX12_lasts_41)) (all_c (okc_X12_goesOn (by decide) kw1453 dX12_lasts_42) (all_c (ok_istore_n dX12_lasts_45 rfl (by decide)) (all_c (ok_aload_n dX12_lasts_46 rfl) (all_c (okc_X12_takeBack (by decide) kw1295 dX12_lasts_47) (all_c (ok_iload_n dX12_lasts_50 rfl) (all_c (ok_iload_n dX12_lasts_51 rfl) (all_c (ok_icmp_le dX12_lasts_52 (by decide)) (all_c (ok_stk (s_iconst dX12_lasts_55 (by decide))) (all_c (ok_goto dX12_lasts_56 (by decide)) (all_c (ok_aload_n dX12_lasts_59 rfl) (all_c (okg_X12_14 kw1069 dX12_lasts_60) (all_c (ok_stk (s_bipush dX12_lasts_63 (by decide))) (all_c (ok_iald dX12_lasts_65) (all_c (ok_iload_n dX12_lasts_66 rfl) (all_c (ok_stk (s_iadd dX12_lasts_67)) (all_c (ok_iret dX12_lasts_68) all_n))))))))))))))))))))))))))))))))))))))))) n (fun h => by first | rfl | cases h))
theorem dX12_law_0 : decode cX12_law 0 = .ok (.aload_n 0, 1) := by decide +kernel
theorem dX12_law_1 : decode cX12_law 1 = .ok (.iconst 0, 1) := by decide +kernel
theorem dX12_law_2 : decode cX12_law 2 = .ok (.putfield 1, 3) := by decide +kernel
theorem dX12_law_5 : decode cX12_law 5 = .ok (.aload_n 0, 1) := by decide +kernel
theorem dX12_law_6 : decode cX12_law 6 = .ok (.iload_n 1, 1) := by decide +kernel
theorem dX12_law_7 : decode cX12_law 7 = .ok (.invokevirtual 295, 3) := by decide +kernel
theorem dX12_law_10 : decode cX12_law 10 = .ok (.ifCond .eq 13, 3) := by decide +kernel
theorem dX12_law_13 : decode cX12_law 13 = .ok (.iload_n 2, 1) := by decide +kernel
theorem dX12_law_14 : decode cX12_law 14 = .ok (.iconst 1, 1) := by decide +kernel
theorem dX12_law_15 : decode cX12_law 15 = .ok (.bipush 60, 2) := by decide +kernel
theorem dX12_law_17 : decode cX12_law 17 = .ok (.invokestatic 75, 3) := by decide +kernel
theorem dX12_law_20 : decode cX12_law 20 = .ok (.ifCond .ne 5, 3) := by decide +kernel
theorem dX12_law_23 : decode cX12_law 23 = .ok (.iconst (-1), 1) := by decide +kernel
theorem dX12_law_24 : decode cX12_law 24 = .ok (.ireturn, 1) := by decide +kernel
theorem dX12_law_25 : decode cX12_law 25 = .ok (.aload_n 0, 1) := by decide +kernel
theorem dX12_law_26 : decode cX12_law 26 = .ok (.getfield 98, 3) := by decide +kernel
theorem dX12_law_29 : decode cX12_law 29 = .ok (.iconst 4, 1) := by decide +kernel
theorem dX12_law_30 : decode cX12_law 30 = .ok (.iaload, 1) := by decide +kernel
theorem dX12_law_31 : decode cX12_law 31 = .ok (.istore_n 3, 1) := by decide +kernel
theorem dX12_law_32 : decode cX12_law 32 = .ok (.iconst (-1), 1) := by decide +kernel
theorem dX12_law_33 : decode cX12_law 33 = .ok (.istore 4, 2) := by decide +kernel
theorem dX12_law_35 : decode cX12_law 35 = .ok (.aload_n 0, 1) := by decide +kernel
theorem dX12_law_36 : decode cX12_law 36 = .ok (.invokevirtual 409, 3) := by decide +kernel
theorem dX12_law_39 : decode cX12_law 39 = .ok (.iconst 0, 1) := by decide +kernel
theorem dX12_law_40 : decode cX12_law 40 = .ok (.istore 5, 2) := by decide +kernel
theorem dX12_law_42 : decode cX12_law 42 = .ok (.iload 5, 2) := by decide +kernel
theorem dX12_law_44 : decode cX12_law 44 = .ok (.bipush 30, 2) := by decide +kernel
theorem dX12_law_46 : decode cX12_law 46 = .ok (.if_icmp .gt 41, 3) := by decide +kernel
theorem dX12_law_49 : decode cX12_law 49 = .ok (.iload 4, 2) := by decide +kernel
theorem dX12_law_51 : decode cX12_law 51 = .ok (.iconst (-1), 1) := by decide +kernel
theorem dX12_law_52 : decode cX12_law 52 = .ok (.if_icmp .ne 35, 3) := by decide +kernel
theorem dX12_law_55 : decode cX12_law 55 = .ok (.aload_n 0, 1) := by decide +kernel
theorem dX12_law_56 : decode cX12_law 56 = .ok (.getfield 98, 3) := by decide +kernel
theorem dX12_law_59 : decode cX12_law 59 = .ok (.iconst 4, 1) := by decide +kernel
theorem dX12_law_60 : decode cX12_law 60 = .ok (.iload 5, 2) := by decide +kernel
theorem dX12_law_62 : decode cX12_law 62 = .ok (.iastore, 1) := by decide +kernel
theorem dX12_law_63 : decode cX12_law 63 = .ok (.aload_n 0, 1) := by decide +kernel
theorem dX12_law_64 : decode cX12_law 64 = .ok (.iload_n 1, 1) := by decide +kernel
theorem dX12_law_65 : decode cX12_law 65 = .ok (.iload_n 2, 1) := by decide +kernel
theorem dX12_law_66 : decode cX12_law 66 = .ok (.invokevirtual 412, 3) := by decide +kernel
theorem dX12_law_69 : decode cX12_law 69 = .ok (.iload_n 2, 1) := by decide +kernel
theorem dX12_law_70 : decode cX12_law 70 = .ok (.if_icmp .ne 7, 3) := by decide +kernel
theorem dX12_law_73 : decode cX12_law 73 = .ok (.iload 5, 2) := by decide +kernel
theorem dX12_law_75 : decode cX12_law 75 = .ok (.istore 4, 2) := by decide +kernel
theorem dX12_law_77 : decode cX12_law 77 = .ok (.aload_n 0, 1) := by decide +kernel
theorem dX12_law_78 : decode cX12_law 78 = .ok (.invokevirtual 415, 3) := by decide +kernel
theorem dX12_law_81 : decode cX12_law 81 = .ok (.iinc 5 1, 3) := by decide +kernel
theorem dX12_law_84 : decode cX12_law 84 = .ok (.goto (-42), 3) := by decide +kernel
theorem dX12_law_87 : decode cX12_law 87 = .ok (.aload_n 0, 1) := by decide +kernel
theorem dX12_law_88 : decode cX12_law 88 = .ok (.getfield 98, 3) := by decide +kernel
theorem dX12_law_91 : decode cX12_law 91 = .ok (.iconst 4, 1) := by decide +kernel
theorem dX12_law_92 : decode cX12_law 92 = .ok (.iload_n 3, 1) := by decide +kernel
theorem dX12_law_93 : decode cX12_law 93 = .ok (.iastore, 1) := by decide +kernel
theorem dX12_law_94 : decode cX12_law 94 = .ok (.iload 4, 2) := by decide +kernel
theorem dX12_law_96 : decode cX12_law 96 = .ok (.ireturn, 1) := by decide +kernel
def tX12_law (kn : sKn) : List (Nat × sA) := [(0, a_aload 0 1), (1, a_stk (q_int 0) 2), (2, a_put 13 0 ckI 5), (5, a_aload 0 6), (6, a_iload 1 7), (7, a_callV false (fX12_isLoad kn) 13 2 10), (10, a_if kn b_eq 0 23 13), (13, a_iload 2 14), (14, a_stk (q_int 1) 15), (15, a_stk (q_int 60) 17), (17, a_callS false (fX12_isIn kn) 3 20), (20, a_if kn b_ne 1 25 23), (23, a_stk (q_int (-1)) 24), (24, a_iret), (25, a_aload 0 26), (26, a_get 13 14 29), (29, a_stk (q_int 4) 30), (30, a_iald 31), (31, a_istore 3 32), (32, a_stk (q_int (-1)) 33), (33, a_istore 4 35), (35, a_aload 0 36), (36, a_callV true (fX12_layAside kn) 13 1 39), (39, a_stk (q_int 0) 40), (40, a_istore 5 42), (42, a_iload 5 44), (44, a_stk (q_int 30) 46), (46, a_icmp kn b_gt 4 87 49), (49, a_iload 4 51), (51, a_stk (q_int (-1)) 52), (52, a_icmp kn b_ne 1 87 55), (55, a_aload 0 56), (56, a_get 13 14 59), (59, a_stk (q_int 4) 60), (60, a_iload 5 62), (62, a_iast 63), (63, a_aload 0 64), (64, a_iload 1 65), (65, a_iload 2 66), (66, a_callV false (fX12_goesOn kn) 13 3 69), (69, a_iload 2 70), (70, a_icmp kn b_ne 1 77 73), (73, a_iload 5 75), (75, a_istore 4 77), (77, a_aload 0 78), (78, a_callV true (fX12_takeBack kn) 13 1 81), (81, a_iinc 5 1 84), (84, a_goto 42), (87, a_aload 0 88), (88, a_get 13 14 91), (91, a_stk (q_int 4) 92), (92, a_iload 3 93), (93, a_iast 94), (94, a_iload 4 96), (96, a_iret)]
def fX12_law (kn : sKn) : List Value → sW → Option sR := fW (tX12_law kn) 6
set_option maxRecDepth 100000 in
set_option maxHeartbeats 4000000 in
theorem mX12_law (kn : sKn) : mM kn yX12_law (Cond.code yX12_law cX12_law 6 (some .int) :: wsL_law) 10 false (fX12_law kn) := mM_W (fun n => mM_of (own := RX12) (ini := false) rfl (by decide +kernel) (by decide +kernel) (all_c (ok_aload_n dX12_law_0 rfl) (all_c (ok_stk (s_iconst dX12_law_1 (by decide))) (all_c (okp_X12_0 kw1114 dX12_law_2) (all_c (ok_aload_n dX12_law_5 rfl) (all_c (ok_iload_n dX12_law_6 rfl) (all_c (okc_X12_isLoad (by decide) kw1142 dX12_law_7) (all_c (ok_if_eq dX12_law_10 (by decide)) (all_c (ok_iload_n dX12_law_13 rfl) (all_c (ok_stk (s_iconst dX12_law_14 (by decide))) (all_c (ok_stk (s_bipush dX12_law_15 (by decide))) (all_c (okc_X12_isIn (by decide) kw1126 dX12_law_17) (all_c (ok_if_ne dX12_law_20 (by decide)) (all_c (ok_stk (s_iconst dX12_law_23 (by decide))) (all_c (ok_iret dX12_law_24) (all_c (ok_aload_n dX12_law_25 rfl) (all_c (okg_X12_14 kw1069 dX12_law_26) (all_c (ok_stk (s_iconst dX12_law_29 (by decide))) (all_c (ok_iald dX12_law_30) (all_c (ok_istore_n dX12_law_31 rfl (by decide)) (all_c (ok_stk (s_iconst dX12_law_32 (by decide))) (all_c (ok_istore dX12_law_33 (by decide)) (all_c (ok_aload_n dX12_law_35 rfl) (all_c (okc_X12_layAside (by decide) kw1319 dX12_law_36) (all_c (ok_stk (s_iconst dX12_law_39 (by decide))) (all_c (ok_istore dX12_law_40 (by decide)) (all_c (ok_iload dX12_law_42) (all_c (ok_stk (s_bipush dX12_law_44 (by decide))) (all_c (ok_icmp_gt dX12_law_46 (by decide)) (all_c (ok_iload dX12_law_49) (all_c (ok_stk (s_iconst dX12_law_51 (by decide))) (all_c (ok_icmp_ne dX12_law_52 (by decide)) (all_c (ok_aload_n dX12_law_55 rfl) (all_c (okg_X12_14 kw1069 dX12_law_56) (all_c (ok_stk (s_iconst dX12_law_59 (by decide))) (all_c (ok_iload dX12_law_60) (all_c (ok_iast dX12_law_62) (all_c (ok_aload_n dX12_law_63 rfl) (all_c (ok_iload_n dX12_law_64 rfl) (all_c (ok_iload_n dX12_law_65 rfl) (all_c (okc_X12_goesOn (by decide) kw1453 dX12_law_66) (all_c (ok_iload_n dX12_law_69 rfl) (all_c (ok_icmp_ne dX12_law_70 (by decide)) (all_c (ok_iload dX12_law_73) (all_c (ok_istore dX12_law_75 (by decide)) (all_c (ok_aload_n dX12_law_77 rfl) (all_c (okc_X12_takeBack (by decide) kw1295 dX12_law_78) (all_c (ok_iinc dX12_law_81 (by decide) (by decide)) (all_c (ok_goto dX12_law_84 (by decide)) (all_c (ok_aload_n dX12_law_87 rfl) (all_c (okg_X12_14 kw1069 dX12_law_88) (all_c (ok_stk (s_iconst dX12_law_91 (by decide))) (all_c (ok_iload_n dX12_law_92 rfl) (all_c (ok_iast dX12_law_93) (all_c (ok_iload dX12_law_94) (all_c (ok_iret dX12_law_96) all_n))))))))))))))))))))))))))))))))))))))))))))))))))))))) n (fun h => by first | rfl | cases h))
theorem dX12_layPath_0 : decode cX12_layPath 0 = .ok (.aload_n 0, 1) := by decide +kernel
theorem dX12_layPath_1 : decode cX12_layPath 1 = .ok (.invokevirtual 292, 3) := by decide +kernel
theorem dX12_layPath_4 : decode cX12_layPath 4 = .ok (.aload_n 0, 1) := by decide +kernel
theorem dX12_layPath_5 : decode cX12_layPath 5 = .ok (.iload_n 1, 1) := by decide +kernel
theorem dX12_layPath_6 : decode cX12_layPath 6 = .ok (.invokevirtual 319, 3) := by decide +kernel
theorem dX12_layPath_9 : decode cX12_layPath 9 = .ok (.istore_n 2, 1) := by decide +kernel
theorem dX12_layPath_10 : decode cX12_layPath 10 = .ok (.iload_n 2, 1) := by decide +kernel
theorem dX12_layPath_11 : decode cX12_layPath 11 = .ok (.iconst (-1), 1) := by decide +kernel
theorem dX12_layPath_12 : decode cX12_layPath 12 = .ok (.if_icmp .ne 5, 3) := by decide +kernel
theorem dX12_layPath_15 : decode cX12_layPath 15 = .ok (.iconst 0, 1) := by decide +kernel
theorem dX12_layPath_16 : decode cX12_layPath 16 = .ok (.ireturn, 1) := by decide +kernel
theorem dX12_layPath_17 : decode cX12_layPath 17 = .ok (.iconst 0, 1) := by decide +kernel
theorem dX12_layPath_18 : decode cX12_layPath 18 = .ok (.istore_n 3, 1) := by decide +kernel
theorem dX12_layPath_19 : decode cX12_layPath 19 = .ok (.iload_n 3, 1) := by decide +kernel
theorem dX12_layPath_20 : decode cX12_layPath 20 = .ok (.aload_n 0, 1) := by decide +kernel
theorem dX12_layPath_21 : decode cX12_layPath 21 = .ok (.getfield 98, 3) := by decide +kernel
theorem dX12_layPath_24 : decode cX12_layPath 24 = .ok (.iconst 0, 1) := by decide +kernel
theorem dX12_layPath_25 : decode cX12_layPath 25 = .ok (.iaload, 1) := by decide +kernel
theorem dX12_layPath_26 : decode cX12_layPath 26 = .ok (.if_icmp .ge 61, 3) := by decide +kernel
theorem dX12_layPath_29 : decode cX12_layPath 29 = .ok (.iconst 0, 1) := by decide +kernel
theorem dX12_layPath_30 : decode cX12_layPath 30 = .ok (.istore 4, 2) := by decide +kernel
theorem dX12_layPath_32 : decode cX12_layPath 32 = .ok (.aload_n 0, 1) := by decide +kernel
theorem dX12_layPath_33 : decode cX12_layPath 33 = .ok (.getfield 130, 3) := by decide +kernel
theorem dX12_layPath_36 : decode cX12_layPath 36 = .ok (.iconst 4, 1) := by decide +kernel
theorem dX12_layPath_37 : decode cX12_layPath 37 = .ok (.iload_n 3, 1) := by decide +kernel
theorem dX12_layPath_38 : decode cX12_layPath 38 = .ok (.imul, 1) := by decide +kernel
theorem dX12_layPath_39 : decode cX12_layPath 39 = .ok (.iload 4, 2) := by decide +kernel
theorem dX12_layPath_41 : decode cX12_layPath 41 = .ok (.iadd, 1) := by decide +kernel
theorem dX12_layPath_42 : decode cX12_layPath 42 = .ok (.iaload, 1) := by decide +kernel
theorem dX12_layPath_43 : decode cX12_layPath 43 = .ok (.iload_n 2, 1) := by decide +kernel
theorem dX12_layPath_44 : decode cX12_layPath 44 = .ok (.if_icmp .lt 23, 3) := by decide +kernel
theorem dX12_layPath_47 : decode cX12_layPath 47 = .ok (.iload_n 3, 1) := by decide +kernel
theorem dX12_layPath_48 : decode cX12_layPath 48 = .ok (.ifCond .le 25, 3) := by decide +kernel
theorem dX12_layPath_51 : decode cX12_layPath 51 = .ok (.aload_n 0, 1) := by decide +kernel
theorem dX12_layPath_52 : decode cX12_layPath 52 = .ok (.getfield 133, 3) := by decide +kernel
theorem dX12_layPath_55 : decode cX12_layPath 55 = .ok (.iload_n 3, 1) := by decide +kernel
theorem dX12_layPath_56 : decode cX12_layPath 56 = .ok (.iconst 1, 1) := by decide +kernel
theorem dX12_layPath_57 : decode cX12_layPath 57 = .ok (.isub, 1) := by decide +kernel
theorem dX12_layPath_58 : decode cX12_layPath 58 = .ok (.iaload, 1) := by decide +kernel
theorem dX12_layPath_59 : decode cX12_layPath 59 = .ok (.iload 4, 2) := by decide +kernel
theorem dX12_layPath_61 : decode cX12_layPath 61 = .ok (.invokestatic 309, 3) := by decide +kernel
theorem dX12_layPath_64 : decode cX12_layPath 64 = .ok (.ifCond .ne 9, 3) := by decide +kernel
theorem dX12_layPath_67 : decode cX12_layPath 67 = .ok (.iinc 4 1, 3) := by decide +kernel
theorem dX12_layPath_70 : decode cX12_layPath 70 = .ok (.goto (-38), 3) := by decide +kernel
theorem dX12_layPath_73 : decode cX12_layPath 73 = .ok (.aload_n 0, 1) := by decide +kernel
theorem dX12_layPath_74 : decode cX12_layPath 74 = .ok (.getfield 133, 3) := by decide +kernel
theorem dX12_layPath_77 : decode cX12_layPath 77 = .ok (.iload_n 3, 1) := by decide +kernel
theorem dX12_layPath_78 : decode cX12_layPath 78 = .ok (.iload 4, 2) := by decide +kernel
theorem dX12_layPath_80 : decode cX12_layPath 80 = .ok (.iastore, 1) := by decide +kernel
theorem dX12_layPath_81 : decode cX12_layPath 81 = .ok (.iinc 3 1, 3) := by decide +kernel
theorem dX12_layPath_84 : decode cX12_layPath 84 = .ok (.goto (-65), 3) := by decide +kernel
theorem dX12_layPath_87 : decode cX12_layPath 87 = .ok (.iconst 1, 1) := by decide +kernel
theorem dX12_layPath_88 : decode cX12_layPath 88 = .ok (.ireturn, 1) := by decide +kernel
def tX12_layPath (kn : sKn) : List (Nat × sA) := [(0, a_aload 0 1), (1, a_callV true (fX12_layWhose kn) 13 1 4), (4, a_aload 0 5), (5, a_iload 1 6), (6, a_callV false (fX12_bestOf kn) 13 2 9), (9, a_istore 2 10), (10, a_iload 2 11), (11, a_stk (q_int (-1)) 12), (12, a_icmp kn b_ne 1 17 15), (15, a_stk (q_int 0) 16), (16, a_zret), (17, a_stk (q_int 0) 18), (18, a_istore 3 19), (19, a_iload 3 20), (20, a_aload 0 21), (21, a_get 13 14 24), (24, a_stk (q_int 0) 25), (25, a_iald 26), (26, a_icmp kn b_ge 3 87 29), (29, a_stk (q_int 0) 30), (30, a_istore 4 32), (32, a_aload 0 33), (33, a_get 13 29 36), (36, a_stk (q_int 4) 37), (37, a_iload 3 38), (38, a_stk q_imul 39), (39, a_iload 4 41), (41, a_stk q_iadd 42), (42, a_iald 43), (43, a_iload 2 44), (44, a_icmp kn b_lt 2 67 47), (47, a_iload 3 48), (48, a_if kn b_le 5 73 51), (51, a_aload 0 52), (52, a_get 13 30 55), (55, a_iload 3 56), (56, a_stk (q_int 1) 57), (57, a_stk q_isub 58), (58, a_iald 59), (59, a_iload 4 61), (61, a_callS false (fX12_follows kn) 2 64), (64, a_if kn b_ne 1 73 67), (67, a_iinc 4 1 70), (70, a_goto 32), (73, a_aload 0 74), (74, a_get 13 30 77), (77, a_iload 3 78), (78, a_iload 4 80), (80, a_iast 81), (81, a_iinc 3 1 84), (84, a_goto 19), (87, a_stk (q_int 1) 88), (88, a_zret)]
def fX12_layPath (kn : sKn) : List Value → sW → Option sR := fW (tX12_layPath kn) 5
set_option maxRecDepth 100000 in
set_option maxHeartbeats 4000000 in
theorem mX12_layPath (kn : sKn) : mM kn yX12_layPath (Cond.code yX12_layPath cX12_layPath 5 (some .boolean) :: wsL_law) 8 false (fX12_layPath kn) := mM_W (fun n => mM_of (own := RX12) (ini := false) rfl (by decide +kernel) (by decide +kernel) (all_c (ok_aload_n dX12_layPath_0 rfl) (all_c (okc_X12_layWhose (by decide) kw1118 dX12_layPath_1) (all_c (ok_aload_n dX12_layPath_4 rfl) (all_c (ok_iload_n dX12_layPath_5 rfl) (all_c (okc_X12_bestOf (by decide) kw1109 dX12_layPath_6) (all_c (ok_istore_n dX12_layPath_9 rfl (by decide)) (all_c (ok_iload_n dX12_layPath_10 rfl) (all_c (ok_stk (s_iconst dX12_layPath_11 (by decide))) (all_c (ok_icmp_ne dX12_layPath_12 (by decide)) (all_c (ok_stk (s_iconst dX12_layPath_15 (by decide))) (all_c (ok_zret dX12_layPath_16) (all_c (ok_stk (s_iconst dX12_layPath_17 (by decide))) (all_c (ok_istore_n dX12_layPath_18 rfl (by decide)) (all_c (ok_iload_n dX12_layPath_19 rfl) (all_c (ok_aload_n dX12_layPath_20 rfl) (all_c (okg_X12_14 kw1069 dX12_layPath_21) (all_c (ok_stk (s_iconst dX12_layPath_24 (by decide))) (all_c (ok_iald dX12_layPath_25) (all_c (ok_icmp_ge dX12_layPath_26 (by decide)) (all_c (ok_stk (s_iconst dX12_layPath_29 (by decide))) (all_c (ok_istore dX12_layPath_30 (by decide)) (all_c (ok_aload_n dX12_layPath_32 rfl) (all_c (okg_X12_29 kw1098 dX12_layPath_33) (all_c (ok_stk (s_iconst dX12_layPath_36 (by decide))) (all_c (ok_iload_n dX12_layPath_37 rfl) (all_c (ok_stk (s_imul dX12_layPath_38)) (all_c (ok_iload dX12_layPath_39) (all_c (ok_stk (s_iadd dX12_layPath_41)) (all_c (ok_iald dX12_layPath_42) (all_c (ok_iload_n dX12_layPath_43 rfl) (all_c (ok_icmp_lt dX12_layPath_44 (by decide)) (all_c (ok_iload_n dX12_layPath_47 rfl) (all_c (ok_if_le dX12_layPath_48 (by decide)) (all_c (ok_aload_n dX12_layPath_51 rfl) (all_c (okg_X12_30 kw1445 dX12_layPath_52) (all_c (ok_iload_n dX12_layPath_55 rfl) (all_c (ok_stk (s_iconst dX12_layPath_56 (by decide))) (all_c (ok_stk (s_isub dX12_layPath_57)) (all_c (ok_iald dX12_layPath_58) (all_c (ok_iload dX12_layPath_59) (all_c (okc_X12_follows (by decide) kw1097 dX12_layPath_61) (all_c (ok_if_ne dX12_layPath_64 (by decide)) (all_c (ok_iinc dX12_layPath_67 (by decide) (by decide)) (all_c (ok_goto dX12_layPath_70 (by decide)) (all_c (ok_aload_n dX12_layPath_73 rfl) (all_c (okg_X12_30 kw1445 dX12_layPath_74) (all_c (ok_iload_n dX12_layPath_77 rfl) (all_c (ok_iload dX12_layPath_78) (all_c (ok_iast dX12_layPath_80) (all_c (ok_iinc dX12_layPath_81 (by decide) (by decide)) (all_c (ok_goto dX12_layPath_84 (by decide)) (all_c (ok_stk (s_iconst dX12_layPath_87 (by decide))) (all_c (ok_zret dX12_layPath_88) all_n))))))))))))))))))))))))))))))))))))))))))))))))))))) n (fun h => by first | rfl | cases h))
theorem dX12_limit_0 : decode cX12_limit 0 = .ok (.aload_n 0, 1) := by decide +kernel
theorem dX12_limit_1 : decode cX12_limit 1 = .ok (.iconst 0, 1) := by decide +kernel
theorem dX12_limit_2 : decode cX12_limit 2 = .ok (.putfield 1, 3) := by decide +kernel
theorem dX12_limit_5 : decode cX12_limit 5 = .ok (.iload_n 1, 1) := by decide +kernel
theorem dX12_limit_6 : decode cX12_limit 6 = .ok (.iconst 1, 1) := by decide +kernel
theorem dX12_limit_7 : decode cX12_limit 7 = .ok (.iconst 3, 1) := by decide +kernel
theorem dX12_limit_8 : decode cX12_limit 8 = .ok (.invokestatic 75, 3) := by decide +kernel
theorem dX12_limit_11 : decode cX12_limit 11 = .ok (.ifCond .ne 5, 3) := by decide +kernel
theorem dX12_limit_14 : decode cX12_limit 14 = .ok (.iconst (-1), 1) := by decide +kernel
theorem dX12_limit_15 : decode cX12_limit 15 = .ok (.ireturn, 1) := by decide +kernel
theorem dX12_limit_16 : decode cX12_limit 16 = .ok (.aload_n 0, 1) := by decide +kernel
theorem dX12_limit_17 : decode cX12_limit 17 = .ok (.invokevirtual 292, 3) := by decide +kernel
theorem dX12_limit_20 : decode cX12_limit 20 = .ok (.aload_n 0, 1) := by decide +kernel
theorem dX12_limit_21 : decode cX12_limit 21 = .ok (.getfield 98, 3) := by decide +kernel
theorem dX12_limit_24 : decode cX12_limit 24 = .ok (.iconst 0, 1) := by decide +kernel
theorem dX12_limit_25 : decode cX12_limit 25 = .ok (.iaload, 1) := by decide +kernel
theorem dX12_limit_26 : decode cX12_limit 26 = .ok (.iconst 1, 1) := by decide +kernel
theorem dX12_limit_27 : decode cX12_limit 27 = .ok (.isub, 1) := by decide +kernel
theorem dX12_limit_28 : decode cX12_limit 28 = .ok (.istore_n 2, 1) := by decide +kernel
theorem dX12_limit_29 : decode cX12_limit 29 = .ok (.iload_n 2, 1) := by decide +kernel
theorem dX12_limit_30 : decode cX12_limit 30 = .ok (.ifCond .lt 156, 3) := by decide +kernel
theorem dX12_limit_33 : decode cX12_limit 33 = .ok (.iconst 0, 1) := by decide +kernel
theorem dX12_limit_34 : decode cX12_limit 34 = .ok (.istore_n 3, 1) := by decide +kernel
theorem dX12_limit_35 : decode cX12_limit 35 = .ok (.iload_n 3, 1) := by decide +kernel
theorem dX12_limit_36 : decode cX12_limit 36 = .ok (.iconst 3, 1) := by decide +kernel
theorem dX12_limit_37 : decode cX12_limit 37 = .ok (.if_icmp .ge 143, 3) := by decide +kernel
theorem dX12_limit_40 : decode cX12_limit 40 = .ok (.iload_n 2, 1) := by decide +kernel
theorem dX12_limit_41 : decode cX12_limit 41 = .ok (.aload_n 0, 1) := by decide +kernel
theorem dX12_limit_42 : decode cX12_limit 42 = .ok (.getfield 98, 3) := by decide +kernel
theorem dX12_limit_45 : decode cX12_limit 45 = .ok (.iconst 0, 1) := by decide +kernel
theorem dX12_limit_46 : decode cX12_limit 46 = .ok (.iaload, 1) := by decide +kernel
theorem dX12_limit_47 : decode cX12_limit 47 = .ok (.iconst 1, 1) := by decide +kernel
theorem dX12_limit_48 : decode cX12_limit 48 = .ok (.isub, 1) := by decide +kernel
theorem dX12_limit_49 : decode cX12_limit 49 = .ok (.if_icmp .ne 9, 3) := by decide +kernel
theorem dX12_limit_52 : decode cX12_limit 52 = .ok (.ldc_w 308, 3) := by decide +kernel
theorem dX12_limit_55 : decode cX12_limit 55 = .ok (.goto 4, 3) := by decide +kernel
theorem dX12_limit_58 : decode cX12_limit 58 = .ok (.iconst (-1), 1) := by decide +kernel
theorem dX12_limit_59 : decode cX12_limit 59 = .ok (.istore 4, 2) := by decide +kernel
theorem dX12_limit_61 : decode cX12_limit 61 = .ok (.iconst 0, 1) := by decide +kernel
theorem dX12_limit_62 : decode cX12_limit 62 = .ok (.istore 5, 2) := by decide +kernel
theorem dX12_limit_64 : decode cX12_limit 64 = .ok (.iload 5, 2) := by decide +kernel
theorem dX12_limit_66 : decode cX12_limit 66 = .ok (.iconst 3, 1) := by decide +kernel
theorem dX12_limit_67 : decode cX12_limit 67 = .ok (.if_icmp .ge 65, 3) := by decide +kernel
theorem dX12_limit_70 : decode cX12_limit 70 = .ok (.iload_n 2, 1) := by decide +kernel
theorem dX12_limit_71 : decode cX12_limit 71 = .ok (.aload_n 0, 1) := by decide +kernel
theorem dX12_limit_72 : decode cX12_limit 72 = .ok (.getfield 98, 3) := by decide +kernel
theorem dX12_limit_75 : decode cX12_limit 75 = .ok (.iconst 0, 1) := by decide +kernel
theorem dX12_limit_76 : decode cX12_limit 76 = .ok (.iaload, 1) := by decide +kernel
theorem dX12_limit_77 : decode cX12_limit 77 = .ok (.iconst 1, 1) := by decide +kernel
theorem dX12_limit_78 : decode cX12_limit 78 = .ok (.isub, 1) := by decide +kernel
theorem dX12_limit_79 : decode cX12_limit 79 = .ok (.if_icmp .ge 53, 3) := by decide +kernel
theorem dX12_limit_82 : decode cX12_limit 82 = .ok (.iload_n 3, 1) := by decide +kernel
theorem dX12_limit_83 : decode cX12_limit 83 = .ok (.iload 5, 2) := by decide +kernel
theorem dX12_limit_85 : decode cX12_limit 85 = .ok (.isub, 1) := by decide +kernel
theorem dX12_limit_86 : decode cX12_limit 86 = .ok (.invokestatic 302, 3) := by decide +kernel
theorem dX12_limit_89 : decode cX12_limit 89 = .ok (.iconst 1, 1) := by decide +kernel
theorem dX12_limit_90 : decode cX12_limit 90 = .ok (.if_icmp .gt 36, 3) := by decide +kernel
theorem dX12_limit_93 : decode cX12_limit 93 = .ok (.aload_n 0, 1) := by decide +kernel
theorem dX12_limit_94 : decode cX12_limit 94 = .ok (.getfield 130, 3) := by decide +kernel
theorem dX12_limit_97 : decode cX12_limit 97 = .ok (.iconst 4, 1) := by decide +kernel
theorem dX12_limit_98 : decode cX12_limit 98 = .ok (.iload_n 2, 1) := by decide +kernel
theorem dX12_limit_99 : decode cX12_limit 99 = .ok (.imul, 1) := by decide +kernel
theorem dX12_limit_100 : decode cX12_limit 100 = .ok (.iconst 4, 1) := by decide +kernel
theorem dX12_limit_101 : decode cX12_limit 101 = .ok (.iadd, 1) := by decide +kernel
theorem dX12_limit_102 : decode cX12_limit 102 = .ok (.iload 5, 2) := by decide +kernel
theorem dX12_limit_104 : decode cX12_limit 104 = .ok (.iadd, 1) := by decide +kernel
theorem dX12_limit_105 : decode cX12_limit 105 = .ok (.iaload, 1) := by decide +kernel
theorem dX12_limit_106 : decode cX12_limit 106 = .ok (.iload 4, 2) := by decide +kernel
theorem dX12_limit_108 : decode cX12_limit 108 = .ok (.if_icmp .le 18, 3) := by decide +kernel
theorem dX12_limit_111 : decode cX12_limit 111 = .ok (.aload_n 0, 1) := by decide +kernel
theorem dX12_limit_112 : decode cX12_limit 112 = .ok (.getfield 130, 3) := by decide +kernel
theorem dX12_limit_115 : decode cX12_limit 115 = .ok (.iconst 4, 1) := by decide +kernel
theorem dX12_limit_116 : decode cX12_limit 116 = .ok (.iload_n 2, 1) := by decide +kernel
theorem dX12_limit_117 : decode cX12_limit 117 = .ok (.imul, 1) := by decide +kernel
theorem dX12_limit_118 : decode cX12_limit 118 = .ok (.iconst 4, 1) := by decide +kernel
theorem dX12_limit_119 : decode cX12_limit 119 = .ok (.iadd, 1) := by decide +kernel
theorem dX12_limit_120 : decode cX12_limit 120 = .ok (.iload 5, 2) := by decide +kernel
theorem dX12_limit_122 : decode cX12_limit 122 = .ok (.iadd, 1) := by decide +kernel
theorem dX12_limit_123 : decode cX12_limit 123 = .ok (.iaload, 1) := by decide +kernel
theorem dX12_limit_124 : decode cX12_limit 124 = .ok (.istore 4, 2) := by decide +kernel
theorem dX12_limit_126 : decode cX12_limit 126 = .ok (.iinc 5 1, 3) := by decide +kernel
theorem dX12_limit_129 : decode cX12_limit 129 = .ok (.goto (-65), 3) := by decide +kernel
theorem dX12_limit_132 : decode cX12_limit 132 = .ok (.aload_n 0, 1) := by decide +kernel
theorem dX12_limit_133 : decode cX12_limit 133 = .ok (.iload_n 2, 1) := by decide +kernel
theorem dX12_limit_134 : decode cX12_limit 134 = .ok (.iload_n 3, 1) := by decide +kernel
theorem dX12_limit_135 : decode cX12_limit 135 = .ok (.iload_n 1, 1) := by decide +kernel
theorem dX12_limit_136 : decode cX12_limit 136 = .ok (.invokevirtual 298, 3) := by decide +kernel
theorem dX12_limit_139 : decode cX12_limit 139 = .ok (.istore 5, 2) := by decide +kernel
theorem dX12_limit_141 : decode cX12_limit 141 = .ok (.aload_n 0, 1) := by decide +kernel
theorem dX12_limit_142 : decode cX12_limit 142 = .ok (.getfield 130, 3) := by decide +kernel
theorem dX12_limit_145 : decode cX12_limit 145 = .ok (.iconst 4, 1) := by decide +kernel
theorem dX12_limit_146 : decode cX12_limit 146 = .ok (.iload_n 2, 1) := by decide +kernel
theorem dX12_limit_147 : decode cX12_limit 147 = .ok (.imul, 1) := by decide +kernel
theorem dX12_limit_148 : decode cX12_limit 148 = .ok (.iload_n 3, 1) := by decide +kernel
theorem dX12_limit_149 : decode cX12_limit 149 = .ok (.iadd, 1) := by decide +kernel
theorem dX12_limit_150 : decode cX12_limit 150 = .ok (.iload 5, 2) := by decide +kernel
theorem dX12_limit_152 : decode cX12_limit 152 = .ok (.iconst (-1), 1) := by decide +kernel
theorem dX12_limit_153 : decode cX12_limit 153 = .ok (.if_icmp .eq 9, 3) := by decide +kernel
theorem dX12_limit_156 : decode cX12_limit 156 = .ok (.iload 4, 2) := by decide +kernel
theorem dX12_limit_158 : decode cX12_limit 158 = .ok (.iconst (-1), 1) := by decide +kernel
theorem dX12_limit_159 : decode cX12_limit 159 = .ok (.if_icmp .ne 7, 3) := by decide +kernel
theorem dX12_limit_162 : decode cX12_limit 162 = .ok (.iconst (-1), 1) := by decide +kernel
theorem dX12_limit_163 : decode cX12_limit 163 = .ok (.goto 10, 3) := by decide +kernel
theorem dX12_limit_166 : decode cX12_limit 166 = .ok (.iload 5, 2) := by decide +kernel
theorem dX12_limit_168 : decode cX12_limit 168 = .ok (.iload 4, 2) := by decide +kernel
theorem dX12_limit_170 : decode cX12_limit 170 = .ok (.invokestatic 312, 3) := by decide +kernel
theorem dX12_limit_173 : decode cX12_limit 173 = .ok (.iastore, 1) := by decide +kernel
theorem dX12_limit_174 : decode cX12_limit 174 = .ok (.iinc 3 1, 3) := by decide +kernel
theorem dX12_limit_177 : decode cX12_limit 177 = .ok (.goto (-142), 3) := by decide +kernel
theorem dX12_limit_180 : decode cX12_limit 180 = .ok (.iinc 2 (-1), 3) := by decide +kernel
theorem dX12_limit_183 : decode cX12_limit 183 = .ok (.goto (-154), 3) := by decide +kernel
theorem dX12_limit_186 : decode cX12_limit 186 = .ok (.iconst 0, 1) := by decide +kernel
theorem dX12_limit_187 : decode cX12_limit 187 = .ok (.istore_n 2, 1) := by decide +kernel
theorem dX12_limit_188 : decode cX12_limit 188 = .ok (.iconst 0, 1) := by decide +kernel
theorem dX12_limit_189 : decode cX12_limit 189 = .ok (.istore_n 3, 1) := by decide +kernel
theorem dX12_limit_190 : decode cX12_limit 190 = .ok (.iload_n 3, 1) := by decide +kernel
theorem dX12_limit_191 : decode cX12_limit 191 = .ok (.iconst 3, 1) := by decide +kernel
theorem dX12_limit_192 : decode cX12_limit 192 = .ok (.if_icmp .ge 26, 3) := by decide +kernel
theorem dX12_limit_195 : decode cX12_limit 195 = .ok (.aload_n 0, 1) := by decide +kernel
theorem dX12_limit_196 : decode cX12_limit 196 = .ok (.getfield 130, 3) := by decide +kernel
theorem dX12_limit_199 : decode cX12_limit 199 = .ok (.iload_n 3, 1) := by decide +kernel
theorem dX12_limit_200 : decode cX12_limit 200 = .ok (.iaload, 1) := by decide +kernel
theorem dX12_limit_201 : decode cX12_limit 201 = .ok (.iload_n 2, 1) := by decide +kernel
theorem dX12_limit_202 : decode cX12_limit 202 = .ok (.if_icmp .le 10, 3) := by decide +kernel
theorem dX12_limit_205 : decode cX12_limit 205 = .ok (.aload_n 0, 1) := by decide +kernel
theorem dX12_limit_206 : decode cX12_limit 206 = .ok (.getfield 130, 3) := by decide +kernel
theorem dX12_limit_209 : decode cX12_limit 209 = .ok (.iload_n 3, 1) := by decide +kernel
theorem dX12_limit_210 : decode cX12_limit 210 = .ok (.iaload, 1) := by decide +kernel
theorem dX12_limit_211 : decode cX12_limit 211 = .ok (.istore_n 2, 1) := by decide +kernel
theorem dX12_limit_212 : decode cX12_limit 212 = .ok (.iinc 3 1, 3) := by decide +kernel
theorem dX12_limit_215 : decode cX12_limit 215 = .ok (.goto (-25), 3) := by decide +kernel
theorem dX12_limit_218 : decode cX12_limit 218 = .ok (.iload_n 2, 1) := by decide +kernel
theorem dX12_limit_219 : decode cX12_limit 219 = .ok (.ireturn, 1) := by decide +kernel
def tX12_limit (kn : sKn) : List (Nat × sA) := [(0, a_aload 0 1), (1, a_stk (q_int 0) 2), (2, a_put 13 0 ckI 5), (5, a_iload 1 6), (6, a_stk (q_int 1) 7), (7, a_stk (q_int 3) 8), (8, a_callS false (fX12_isIn kn) 3 11), (11, a_if kn b_ne 1 16 14), (14, a_stk (q_int (-1)) 15), (15, a_iret), (16, a_aload 0 17), (17, a_callV true (fX12_layWhose kn) 13 1 20), (20, a_aload 0 21), (21, a_get 13 14 24), (24, a_stk (q_int 0) 25), (25, a_iald 26), (26, a_stk (q_int 1) 27), (27, a_stk q_isub 28), (28, a_istore 2 29), (29, a_iload 2 30), (30, a_if kn b_lt 2 186 33), (33, a_stk (q_int 0) 34), (34, a_istore 3 35), (35, a_iload 3 36), (36, a_stk (q_int 3) 37), (37, a_icmp kn b_ge 3 180 40), (40, a_iload 2 41), (41, a_aload 0 42), (42, a_get 13 14 45), (45, a_stk (q_int 0) 46), (46, a_iald 47), (47, a_stk (q_int 1) 48), (48, a_stk q_isub 49), (49, a_icmp kn b_ne 1 58 52), (52, a_stk (q_int (100000)) 55), (55, a_goto 59), (58, a_stk (q_int (-1)) 59), (59, a_istore 4 61), (61, a_stk (q_int 0) 62), (62, a_istore 5 64), (64, a_iload 5 66), (66, a_stk (q_int 3) 67), (67, a_icmp kn b_ge 3 132 70), (70, a_iload 2 71), (71, a_aload 0 72), (72, a_get 13 14 75), (75, a_stk (q_int 0) 76), (76, a_iald 77), (77, a_stk (q_int 1) 78), (78, a_stk q_isub 79), (79, a_icmp kn b_ge 3 132 82), (82, a_iload 3 83), (83, a_iload 5 85), (85, a_stk q_isub 86), (86, a_callS false (fX12_size kn) 1 89), (89, a_stk (q_int 1) 90), (90, a_icmp kn b_gt 4 126 93), (93, a_aload 0 94), (94, a_get 13 29 97), (97, a_stk (q_int 4) 98), (98, a_iload 2 99), (99, a_stk q_imul 100), (100, a_stk (q_int 4) 101), (101, a_stk q_iadd 102), (102, a_iload 5 104), (104, a_stk q_iadd 105), (105, a_iald 106), (106, a_iload 4 108), (108, a_icmp kn b_le 5 126 111), (111, a_aload 0 112), (112, a_get 13 29 115), (115, a_stk (q_int 4) 116), (116, a_iload 2 117), (117, a_stk q_imul 118), (118, a_stk (q_int 4) 119), (119, a_stk q_iadd 120), (120, a_iload 5 122), (122, a_stk q_iadd 123), (123, a_iald 124), (124, a_istore 4 126), (126, a_iinc 5 1 129), (129, a_goto 64), (132, a_aload 0 133), (133, a_iload 2 134), (134, a_iload 3 135), (135, a_iload 1 136), (136, a_callV false (fX12_sumAt kn) 13 4 139), (139, a_istore 5 141), (141, a_aload 0 142), (142, a_get 13 29 145), (145, a_stk (q_int 4) 146), (146, a_iload 2 147), (147, a_stk q_imul 148), (148, a_iload 3 149), (149, a_stk q_iadd 150), (150, a_iload 5 152), (152, a_stk (q_int (-1)) 153), (153, a_icmp kn b_eq 0 162 156), (156, a_iload 4 158), (158, a_stk (q_int (-1)) 159), (159, a_icmp kn b_ne 1 166 162), (162, a_stk (q_int (-1)) 163), (163, a_goto 173), (166, a_iload 5 168), (168, a_iload 4 170), (170, a_callS false (fX12_least kn) 2 173), (173, a_iast 174), (174, a_iinc 3 1 177), (177, a_goto 35), (180, a_iinc 2 (-1) 183), (183, a_goto 29), (186, a_stk (q_int 0) 187), (187, a_istore 2 188), (188, a_stk (q_int 0) 189), (189, a_istore 3 190), (190, a_iload 3 191), (191, a_stk (q_int 3) 192), (192, a_icmp kn b_ge 3 218 195), (195, a_aload 0 196), (196, a_get 13 29 199), (199, a_iload 3 200), (200, a_iald 201), (201, a_iload 2 202), (202, a_icmp kn b_le 5 212 205), (205, a_aload 0 206), (206, a_get 13 29 209), (209, a_iload 3 210), (210, a_iald 211), (211, a_istore 2 212), (212, a_iinc 3 1 215), (215, a_goto 190), (218, a_iload 2 219), (219, a_iret)]
def fX12_limit (kn : sKn) : List Value → sW → Option sR := fW (tX12_limit kn) 6
set_option maxRecDepth 100000 in
set_option maxHeartbeats 4000000 in
theorem mX12_limit (kn : sKn) : mM kn yX12_limit (Cond.code yX12_limit cX12_limit 6 (some .int) :: wsL_law) 5 false (fX12_limit kn) := mM_W (fun n => mM_of (own := RX12) (ini := false) rfl (by decide +kernel) (by decide +kernel) (all_c (ok_aload_n dX12_limit_0 rfl) (all_c (ok_stk (s_iconst dX12_limit_1 (by decide))) (all_c (okp_X12_0 kw1114 dX12_limit_2) (all_c (ok_iload_n dX12_limit_5 rfl) (all_c (ok_stk (s_iconst dX12_limit_6 (by decide))) (all_c (ok_stk (s_iconst dX12_limit_7 (by decide))) (all_c (okc_X12_isIn (by decide) kw1126 dX12_limit_8) (all_c (ok_if_ne dX12_limit_11 (by decide)) (all_c (ok_stk (s_iconst dX12_limit_14 (by decide))) (all_c (ok_iret dX12_limit_15) (all_c (ok_aload_n dX12_limit_16 rfl) (all_c (okc_X12_layWhose (by decide) kw1118 dX12_limit_17) (all_c (ok_aload_n dX12_limit_20 rfl) (all_c (okg_X12_14 kw1069 dX12_limit_21) (all_c (ok_stk (s_iconst dX12_limit_24 (by decide))) (all_c (ok_iald dX12_limit_25) (all_c (ok_stk (s_iconst dX12_limit_26 (by decide))) (all_c (ok_stk (s_isub dX12_limit_27)) (all_c (ok_istore_n dX12_limit_28 rfl (by decide)) (all_c (ok_iload_n dX12_limit_29 rfl) (all_c (ok_if_lt dX12_limit_30 (by decide)) (all_c (ok_stk (s_iconst dX12_limit_33 (by decide))) (all_c (ok_istore_n dX12_limit_34 rfl (by decide)) (all_c (ok_iload_n dX12_limit_35 rfl) (all_c (ok_stk (s_iconst dX12_limit_36 (by decide))) (all_c (ok_icmp_ge dX12_limit_37 (by decide)) (all_c (ok_iload_n dX12_limit_40 rfl) (all_c (ok_aload_n dX12_limit_41 rfl) (all_c (okg_X12_14 kw1069 dX12_limit_42) (all_c (ok_stk (s_iconst dX12_limit_45 (by decide))) (all_c (ok_iald dX12_limit_46) (all_c (ok_stk (s_iconst dX12_limit_47 (by decide))) (all_c (ok_stk (s_isub dX12_limit_48)) (all_c (ok_icmp_ne dX12_limit_49 (by decide)) (all_c (ok_ldcw kw1094 dX12_limit_52) (all_c (ok_goto dX12_limit_55 (by decide)) (all_c (ok_stk (s_iconst dX12_limit_58 (by decide))) (all_c (ok_istore dX12_limit_59 (by decide)) (all_c (ok_stk (s_iconst dX12_limit_61 (by decide))) (all_c (ok_istore dX12_limit_62 (by decide)) (all_c (ok_iload dX12_limit_64) (all_c (ok_stk (s_iconst dX12_limit_66 (by decide))) (all_c (ok_icmp_ge dX12_limit_67 (by decide)) (all_c (ok_iload_n dX12_limit_70 rfl) (all_c (ok_aload_n dX12_limit_71 rfl) (all_c (okg_X12_14 kw1069 dX12_limit_72) (all_c (ok_stk (s_iconst dX12_limit_75 (by decide))) (all_c (ok_iald dX12_limit_76) (all_c (ok_stk (s_iconst dX12_limit_77 (by decide))) (all_c (ok_stk (s_isub dX12_limit_78)) (all_c (ok_icmp_ge dX12_limit_79 (by decide)) (all_c (ok_iload_n dX12_limit_82 rfl) (all_c (ok_iload dX12_limit_83) (all_c (ok_stk (s_isub dX12_limit_85)) (all_c (okc_X12_size (by decide) kw1074 dX12_limit_86) (all_c (ok_stk (s_iconst dX12_limit_89 (by decide))) (all_c (ok_icmp_gt dX12_limit_90 (by decide)) (all_c (ok_aload_n dX12_limit_93 rfl) (all_c (okg_X12_29 kw1098 dX12_limit_94) (all_c (ok_stk (s_iconst dX12_limit_97 (by decide))) (all_c (ok_iload_n dX12_limit_98 rfl) (all_c (ok_stk (s_imul dX12_limit_99)) (all_c (ok_stk (s_iconst dX12_limit_100 (by decide))) (all_c (ok_stk (s_iadd dX12_limit_101)) (all_c (ok_iload dX12_limit_102) (all_c (ok_stk (s_iadd dX12_limit_104)) (all_c (ok_iald dX12_limit_105) (all_c (ok_iload dX12_limit_106) (all_c (ok_icmp_le dX12_limit_108 (by decide)) (all_c (ok_aload_n dX12_limit_111 rfl) (all_c (okg_X12_29 kw1098 dX12_limit_112) (all_c (ok_stk (s_iconst dX12_limit_115 (by decide))) (all_c (ok_iload_n dX12_limit_116 rfl) (all_c (ok_stk (s_imul dX12_limit_117)) (all_c (ok_stk (s_iconst dX12_limit_118 (by decide))) (all_c (ok_stk (s_iadd dX12_limit_119)) (all_c (ok_iload dX12_limit_120) (all_c (ok_stk (s_iadd dX12_limit_122)) (all_c (ok_iald dX12_limit_123) (all_c (ok_istore dX12_limit_124 (by decide)) (all_c (ok_iinc dX12_limit_126 (by decide) (by decide)) (all_c (ok_goto dX12_limit_129 (by decide)) (all_c (ok_aload_n dX12_limit_132 rfl) (all_c (ok_iload_n dX12_limit_133 rfl) (all_c (ok_iload_n dX12_limit_134 rfl) (all_c (ok_iload_n dX12_limit_135 rfl) (all_c (okc_X12_sumAt (by decide) kw1089 dX12_limit_136) (all_c (ok_istore dX12_limit_139 (by decide)) (all_c (ok_aload_n dX12_limit_141 rfl) (all_c (okg_X12_29 kw1098 dX12_limit_142) (all_c (ok_stk (s_iconst dX12_limit_145 (by decide))) (all_c (ok_iload_n dX12_limit_146 rfl) (all_c (ok_stk (s_imul dX12_limit_147)) (all_c (ok_iload_n dX12_limit_148 rfl) (all_c (ok_stk (s_iadd dX12_limit_149)) (all_c (ok_iload dX12_limit_150) (all_c (ok_stk (s_iconst dX12_limit_152 (by decide))) (all_c (ok_icmp_eq dX12_limit_153 (by decide)) (all_c (ok_iload dX12_limit_156) (all_c (ok_stk (s_iconst dX12_limit_158 (by decide))) (all_c (ok_icmp_ne dX12_limit_159 (by decide)) (all_c (ok_stk (s_iconst dX12_limit_162 (by decide))) (all_c (ok_goto dX12_limit_163 (by decide)) (all_c (ok_iload dX12_limit_166) (all_c (ok_iload dX12_limit_168) (all_c (okc_X12_least (by decide) kw1101 dX12_limit_170) (all_c (ok_iast dX12_limit_173) (all_c (ok_iinc dX12_limit_174 (by decide) (by decide)) (all_c (ok_goto dX12_limit_177 (by decide)) (all_c (ok_iinc dX12_limit_180 (by decide) (by decide)) (all_c (ok_goto dX12_limit_183 (by decide)) (all_c (ok_stk (s_iconst dX12_limit_186 (by decide))) (all_c (ok_istore_n dX12_limit_187 rfl (by decide)) (all_c (ok_stk (s_iconst dX12_limit_188 (by decide))) (all_c (ok_istore_n dX12_limit_189 rfl (by decide)) (all_c (ok_iload_n dX12_limit_190 rfl) (all_c (ok_stk (s_iconst dX12_limit_191 (by decide))) (all_c (ok_icmp_ge dX12_limit_192 (by decide)) (all_c (ok_aload_n dX12_limit_195 rfl) (all_c (okg_X12_29 kw1098 dX12_limit_196) (all_c (ok_iload_n dX12_limit_199 rfl) (all_c (ok_iald dX12_limit_200) (all_c (ok_iload_n dX12_limit_201 rfl) (all_c (ok_icmp_le dX12_limit_202 (by decide)) (all_c (ok_aload_n dX12_limit_205 rfl) (all_c (okg_X12_29 kw1098 dX12_limit_206) (all_c (ok_iload_n dX12_limit_209 rfl) (all_c (ok_iald dX12_limit_210) (all_c (ok_istore_n dX12_limit_211 rfl (by decide)) (all_c (ok_iinc dX12_limit_212 (by decide) (by decide)) (all_c (ok_goto dX12_limit_215 (by decide)) (all_c (ok_iload_n dX12_limit_218 rfl) (all_c (ok_iret dX12_limit_219) all_n))))))))))))))))))))))))))))))))))))))))))))))))))))))))))))))))))))))))))))))))))))))))))))))))))))))))))))))))))))))))))))))))))))) n (fun h => by first | rfl | cases h))
theorem dX12_refuse_0 : decode cX12_refuse 0 = .ok (.aload_n 0, 1) := by decide +kernel
theorem dX12_refuse_1 : decode cX12_refuse 1 = .ok (.iconst 1, 1) := by decide +kernel
theorem dX12_refuse_2 : decode cX12_refuse 2 = .ok (.putfield 1, 3) := by decide +kernel
theorem dX12_refuse_5 : decode cX12_refuse 5 = .ok (.iconst 0, 1) := by decide +kernel
theorem dX12_refuse_6 : decode cX12_refuse 6 = .ok (.ireturn, 1) := by decide +kernel
def tX12_refuse (kn : sKn) : List (Nat × sA) := [(0, a_aload 0 1), (1, a_stk (q_int 1) 2), (2, a_put 13 0 ckI 5), (5, a_stk (q_int 0) 6), (6, a_iret)]
def fX12_refuse (kn : sKn) : List Value → sW → Option sR := fW (tX12_refuse kn) 1
set_option maxRecDepth 100000 in
set_option maxHeartbeats 4000000 in
theorem mX12_refuse (kn : sKn) : mM kn yX12_refuse (Cond.code yX12_refuse cX12_refuse 1 (some .int) :: wsL_law) 1 false (fX12_refuse kn) := mM_W (fun n => mM_of (own := RX12) (ini := false) rfl (by decide +kernel) (by decide +kernel) (all_c (ok_aload_n dX12_refuse_0 rfl) (all_c (ok_stk (s_iconst dX12_refuse_1 (by decide))) (all_c (okp_X12_0 kw1114 dX12_refuse_2) (all_c (ok_stk (s_iconst dX12_refuse_5 (by decide))) (all_c (ok_iret dX12_refuse_6) all_n))))) n (fun h => by first | rfl | cases h))
theorem dX12_load_0 : decode cX12_load 0 = .ok (.aload_n 0, 1) := by decide +kernel
theorem dX12_load_1 : decode cX12_load 1 = .ok (.iconst 0, 1) := by decide +kernel
theorem dX12_load_2 : decode cX12_load 2 = .ok (.putfield 1, 3) := by decide +kernel
theorem dX12_load_5 : decode cX12_load 5 = .ok (.aload_n 0, 1) := by decide +kernel
theorem dX12_load_6 : decode cX12_load 6 = .ok (.iload_n 1, 1) := by decide +kernel
theorem dX12_load_7 : decode cX12_load 7 = .ok (.invokevirtual 295, 3) := by decide +kernel
theorem dX12_load_10 : decode cX12_load 10 = .ok (.ifCond .ne 8, 3) := by decide +kernel
theorem dX12_load_13 : decode cX12_load 13 = .ok (.aload_n 0, 1) := by decide +kernel
theorem dX12_load_14 : decode cX12_load 14 = .ok (.invokevirtual 280, 3) := by decide +kernel
theorem dX12_load_17 : decode cX12_load 17 = .ok (.ireturn, 1) := by decide +kernel
theorem dX12_load_18 : decode cX12_load 18 = .ok (.iload_n 2, 1) := by decide +kernel
theorem dX12_load_19 : decode cX12_load 19 = .ok (.tableswitch 80 0 3 #[29, 39, 49, 69], 29) := by decide +kernel
theorem dX12_load_48 : decode cX12_load 48 = .ok (.aload_n 0, 1) := by decide +kernel
theorem dX12_load_49 : decode cX12_load 49 = .ok (.getfield 98, 3) := by decide +kernel
theorem dX12_load_52 : decode cX12_load 52 = .ok (.bipush 82, 2) := by decide +kernel
theorem dX12_load_54 : decode cX12_load 54 = .ok (.iload_n 1, 1) := by decide +kernel
theorem dX12_load_55 : decode cX12_load 55 = .ok (.iadd, 1) := by decide +kernel
theorem dX12_load_56 : decode cX12_load 56 = .ok (.iaload, 1) := by decide +kernel
theorem dX12_load_57 : decode cX12_load 57 = .ok (.ireturn, 1) := by decide +kernel
theorem dX12_load_58 : decode cX12_load 58 = .ok (.aload_n 0, 1) := by decide +kernel
theorem dX12_load_59 : decode cX12_load 59 = .ok (.getfield 98, 3) := by decide +kernel
theorem dX12_load_62 : decode cX12_load 62 = .ok (.bipush 88, 2) := by decide +kernel
theorem dX12_load_64 : decode cX12_load 64 = .ok (.iload_n 1, 1) := by decide +kernel
theorem dX12_load_65 : decode cX12_load 65 = .ok (.iadd, 1) := by decide +kernel
theorem dX12_load_66 : decode cX12_load 66 = .ok (.iaload, 1) := by decide +kernel
theorem dX12_load_67 : decode cX12_load 67 = .ok (.ireturn, 1) := by decide +kernel
theorem dX12_load_68 : decode cX12_load 68 = .ok (.aload_n 0, 1) := by decide +kernel
theorem dX12_load_69 : decode cX12_load 69 = .ok (.getfield 98, 3) := by decide +kernel
theorem dX12_load_72 : decode cX12_load 72 = .ok (.bipush 96, 2) := by decide +kernel
theorem dX12_load_74 : decode cX12_load 74 = .ok (.iaload, 1) := by decide +kernel
theorem dX12_load_75 : decode cX12_load 75 = .ok (.iload_n 1, 1) := by decide +kernel
theorem dX12_load_76 : decode cX12_load 76 = .ok (.invokestatic 225, 3) := by decide +kernel
theorem dX12_load_79 : decode cX12_load 79 = .ok (.ifCond .eq 7, 3) := by decide +kernel
theorem dX12_load_82 : decode cX12_load 82 = .ok (.iconst 1, 1) := by decide +kernel
theorem dX12_load_83 : decode cX12_load 83 = .ok (.goto 4, 3) := by decide +kernel
theorem dX12_load_86 : decode cX12_load 86 = .ok (.iconst 0, 1) := by decide +kernel
theorem dX12_load_87 : decode cX12_load 87 = .ok (.ireturn, 1) := by decide +kernel
theorem dX12_load_88 : decode cX12_load 88 = .ok (.aload_n 0, 1) := by decide +kernel
theorem dX12_load_89 : decode cX12_load 89 = .ok (.getfield 98, 3) := by decide +kernel
theorem dX12_load_92 : decode cX12_load 92 = .ok (.sipush 190, 3) := by decide +kernel
theorem dX12_load_95 : decode cX12_load 95 = .ok (.iload_n 1, 1) := by decide +kernel
theorem dX12_load_96 : decode cX12_load 96 = .ok (.iadd, 1) := by decide +kernel
theorem dX12_load_97 : decode cX12_load 97 = .ok (.iaload, 1) := by decide +kernel
theorem dX12_load_98 : decode cX12_load 98 = .ok (.ireturn, 1) := by decide +kernel
theorem dX12_load_99 : decode cX12_load 99 = .ok (.aload_n 0, 1) := by decide +kernel
theorem dX12_load_100 : decode cX12_load 100 = .ok (.invokevirtual 280, 3) := by decide +kernel
theorem dX12_load_103 : decode cX12_load 103 = .ok (.ireturn, 1) := by decide +kernel
theorem okc_X12_refuse {kn : sKn} {cc : ByteArray} {own : String} {nL : Nat} {D : Nat} {ret : Option FieldType} {ini : Bool} {pc index : Nat} (hD : 1 + 1 ≤ D) (hl : Cond.methodLink own index yX12_refuse ∈ wsL_law) (hd : decode cc pc = .ok (.invokevirtual index, 3)) : mOk kn cc own nL wsL_law D ret ini pc (a_callV false (fX12_refuse kn) 13 (0 + 1) (pc + 3)) := ok_callV (mX12_refuse kn) (good_ws ws_good (fun _ h => h) kw1454) hD (by decide) hl kw1455 kw1456 kw1072 ⟨by decide +kernel, by decide +kernel, by decide +kernel⟩ rfl hd
def tX12_load (kn : sKn) : List (Nat × sA) := [(0, a_aload 0 1), (1, a_stk (q_int 0) 2), (2, a_put 13 0 ckI 5), (5, a_aload 0 6), (6, a_iload 1 7), (7, a_callV false (fX12_isLoad kn) 13 2 10), (10, a_if kn b_ne 1 18 13), (13, a_aload 0 14), (14, a_callV false (fX12_refuse kn) 13 1 17), (17, a_iret), (18, a_iload 2 19), (19, a_table kn 0 3 [48, 58, 68, 88] 99), (48, a_aload 0 49), (49, a_get 13 14 52), (52, a_stk (q_int 82) 54), (54, a_iload 1 55), (55, a_stk q_iadd 56), (56, a_iald 57), (57, a_iret), (58, a_aload 0 59), (59, a_get 13 14 62), (62, a_stk (q_int 88) 64), (64, a_iload 1 65), (65, a_stk q_iadd 66), (66, a_iald 67), (67, a_iret), (68, a_aload 0 69), (69, a_get 13 14 72), (72, a_stk (q_int 96) 74), (74, a_iald 75), (75, a_iload 1 76), (76, a_callS false (fX12_has kn) 2 79), (79, a_if kn b_eq 0 86 82), (82, a_stk (q_int 1) 83), (83, a_goto 87), (86, a_stk (q_int 0) 87), (87, a_iret), (88, a_aload 0 89), (89, a_get 13 14 92), (92, a_stk (q_int 190) 95), (95, a_iload 1 96), (96, a_stk q_iadd 97), (97, a_iald 98), (98, a_iret), (99, a_aload 0 100), (100, a_callV false (fX12_refuse kn) 13 1 103), (103, a_iret)]
def fX12_load (kn : sKn) : List Value → sW → Option sR := fW (tX12_load kn) 3
set_option maxRecDepth 100000 in
set_option maxHeartbeats 4000000 in
theorem mX12_load (kn : sKn) : mM kn yX12_load (Cond.code yX12_load cX12_load 3 (some .int) :: wsL_law) 3 false (fX12_load kn) := mM_W (fun n => mM_of (own := RX12) (ini := false) rfl (by decide +kernel) (by decide +kernel) (all_c (ok_aload_n dX12_load_0 rfl) (all_c (ok_stk (s_iconst dX12_load_1 (by decide))) (all_c (okp_X12_0 kw1114 dX12_load_2) (all_c (ok_aload_n dX12_load_5 rfl) (all_c (ok_iload_n dX12_load_6 rfl) (all_c (okc_X12_isLoad (by decide) kw1142 dX12_load_7) (all_c (ok_if_ne dX12_load_10 (by decide)) (all_c (ok_aload_n dX12_load_13 rfl) (all_c (okc_X12_refuse (by decide) kw1457 dX12_load_14) (all_c (ok_iret dX12_load_17) (all_c (ok_iload_n dX12_load_18 rfl) (all_c (ok_table dX12_load_19 (by decide) (by decide) (by decide) (by decide)) (all_c (ok_aload_n dX12_load_48 rfl) (all_c (okg_X12_14 kw1069 dX12_load_49) (all_c (ok_stk (s_bipush dX12_load_52 (by decide))) (all_c (ok_iload_n dX12_load_54 rfl) (all_c (ok_stk (s_iadd dX12_load_55)) (all_c (ok_iald dX12_load_56) (all_c (ok_iret dX12_load_57) (all_c (ok_aload_n dX12_load_58 rfl) (all_c (okg_X12_14 kw1069 dX12_load_59) (all_c (ok_stk (s_bipush dX12_load_62 (by decide))) (all_c (ok_iload_n dX12_load_64 rfl) (all_c (ok_stk (s_iadd dX12_load_65)) (all_c (ok_iald dX12_load_66) (all_c (ok_iret dX12_load_67) (all_c (ok_aload_n dX12_load_68 rfl) (all_c (okg_X12_14 kw1069 dX12_load_69) (all_c (ok_stk (s_bipush dX12_load_72 (by decide))) (all_c (ok_iald dX12_load_74) (all_c (ok_iload_n dX12_load_75 rfl) (all_c (okc_X12_has (by decide) kw1077 dX12_load_76) (all_c (ok_if_eq dX12_load_79 (by decide)) (all_c (ok_stk (s_iconst dX12_load_82 (by decide))) (all_c (ok_goto dX12_load_83 (by decide)) (all_c (ok_stk (s_iconst dX12_load_86 (by decide))) (all_c (ok_iret dX12_load_87) (all_c (ok_aload_n dX12_load_88 rfl) (all_c (okg_X12_14 kw1069 dX12_load_89) (all_c (ok_stk (s_sipush dX12_load_92 (by decide))) (all_c (ok_iload_n dX12_load_95 rfl) (all_c (ok_stk (s_iadd dX12_load_96)) (all_c (ok_iald dX12_load_97) (all_c (ok_iret dX12_load_98) (all_c (ok_aload_n dX12_load_99 rfl) (all_c (okc_X12_refuse (by decide) kw1457 dX12_load_100) (all_c (ok_iret dX12_load_103) all_n))))))))))))))))))))))))))))))))))))))))))))))) n (fun h => by first | rfl | cases h))
theorem dX12_now_0 : decode cX12_now 0 = .ok (.aload_n 0, 1) := by decide +kernel
theorem dX12_now_1 : decode cX12_now 1 = .ok (.iconst 0, 1) := by decide +kernel
theorem dX12_now_2 : decode cX12_now 2 = .ok (.putfield 1, 3) := by decide +kernel
theorem dX12_now_5 : decode cX12_now 5 = .ok (.iconst 0, 1) := by decide +kernel
theorem dX12_now_6 : decode cX12_now 6 = .ok (.istore_n 2, 1) := by decide +kernel
theorem dX12_now_7 : decode cX12_now 7 = .ok (.iload_n 1, 1) := by decide +kernel
theorem dX12_now_8 : decode cX12_now 8 = .ok (.tableswitch 169 0 6 #[44, 52, 60, 94, 102, 131, 139], 44) := by decide +kernel
theorem dX12_now_52 : decode cX12_now 52 = .ok (.aload_n 0, 1) := by decide +kernel
theorem dX12_now_53 : decode cX12_now 53 = .ok (.getfield 98, 3) := by decide +kernel
theorem dX12_now_56 : decode cX12_now 56 = .ok (.bipush 94, 2) := by decide +kernel
theorem dX12_now_58 : decode cX12_now 58 = .ok (.iaload, 1) := by decide +kernel
theorem dX12_now_59 : decode cX12_now 59 = .ok (.ireturn, 1) := by decide +kernel
theorem dX12_now_60 : decode cX12_now 60 = .ok (.aload_n 0, 1) := by decide +kernel
theorem dX12_now_61 : decode cX12_now 61 = .ok (.getfield 98, 3) := by decide +kernel
theorem dX12_now_64 : decode cX12_now 64 = .ok (.bipush 95, 2) := by decide +kernel
theorem dX12_now_66 : decode cX12_now 66 = .ok (.iaload, 1) := by decide +kernel
theorem dX12_now_67 : decode cX12_now 67 = .ok (.ireturn, 1) := by decide +kernel
theorem dX12_now_68 : decode cX12_now 68 = .ok (.iconst 0, 1) := by decide +kernel
theorem dX12_now_69 : decode cX12_now 69 = .ok (.istore_n 3, 1) := by decide +kernel
theorem dX12_now_70 : decode cX12_now 70 = .ok (.iload_n 3, 1) := by decide +kernel
theorem dX12_now_71 : decode cX12_now 71 = .ok (.aload_n 0, 1) := by decide +kernel
theorem dX12_now_72 : decode cX12_now 72 = .ok (.invokevirtual 264, 3) := by decide +kernel
theorem dX12_now_75 : decode cX12_now 75 = .ok (.if_icmp .ge 25, 3) := by decide +kernel
theorem dX12_now_78 : decode cX12_now 78 = .ok (.aload_n 0, 1) := by decide +kernel
theorem dX12_now_79 : decode cX12_now 79 = .ok (.getfield 98, 3) := by decide +kernel
theorem dX12_now_82 : decode cX12_now 82 = .ok (.bipush 118, 2) := by decide +kernel
theorem dX12_now_84 : decode cX12_now 84 = .ok (.iload_n 3, 1) := by decide +kernel
theorem dX12_now_85 : decode cX12_now 85 = .ok (.iadd, 1) := by decide +kernel
theorem dX12_now_86 : decode cX12_now 86 = .ok (.iaload, 1) := by decide +kernel
theorem dX12_now_87 : decode cX12_now 87 = .ok (.iconst (-1), 1) := by decide +kernel
theorem dX12_now_88 : decode cX12_now 88 = .ok (.if_icmp .eq 6, 3) := by decide +kernel
theorem dX12_now_91 : decode cX12_now 91 = .ok (.iinc 2 1, 3) := by decide +kernel
theorem dX12_now_94 : decode cX12_now 94 = .ok (.iinc 3 1, 3) := by decide +kernel
theorem dX12_now_97 : decode cX12_now 97 = .ok (.goto (-27), 3) := by decide +kernel
theorem dX12_now_100 : decode cX12_now 100 = .ok (.iload_n 2, 1) := by decide +kernel
theorem dX12_now_101 : decode cX12_now 101 = .ok (.ireturn, 1) := by decide +kernel
theorem dX12_now_102 : decode cX12_now 102 = .ok (.aload_n 0, 1) := by decide +kernel
theorem dX12_now_103 : decode cX12_now 103 = .ok (.getfield 98, 3) := by decide +kernel
theorem dX12_now_106 : decode cX12_now 106 = .ok (.bipush 96, 2) := by decide +kernel
theorem dX12_now_108 : decode cX12_now 108 = .ok (.iaload, 1) := by decide +kernel
theorem dX12_now_109 : decode cX12_now 109 = .ok (.ireturn, 1) := by decide +kernel
theorem dX12_now_110 : decode cX12_now 110 = .ok (.iconst 0, 1) := by decide +kernel
theorem dX12_now_111 : decode cX12_now 111 = .ok (.istore_n 3, 1) := by decide +kernel
theorem dX12_now_112 : decode cX12_now 112 = .ok (.iload_n 3, 1) := by decide +kernel
theorem dX12_now_113 : decode cX12_now 113 = .ok (.bipush 6, 2) := by decide +kernel
theorem dX12_now_115 : decode cX12_now 115 = .ok (.if_icmp .ge 22, 3) := by decide +kernel
theorem dX12_now_118 : decode cX12_now 118 = .ok (.iload_n 2, 1) := by decide +kernel
theorem dX12_now_119 : decode cX12_now 119 = .ok (.aload_n 0, 1) := by decide +kernel
theorem dX12_now_120 : decode cX12_now 120 = .ok (.getfield 98, 3) := by decide +kernel
theorem dX12_now_123 : decode cX12_now 123 = .ok (.sipush 190, 3) := by decide +kernel
theorem dX12_now_126 : decode cX12_now 126 = .ok (.iload_n 3, 1) := by decide +kernel
theorem dX12_now_127 : decode cX12_now 127 = .ok (.iadd, 1) := by decide +kernel
theorem dX12_now_128 : decode cX12_now 128 = .ok (.iaload, 1) := by decide +kernel
theorem dX12_now_129 : decode cX12_now 129 = .ok (.iadd, 1) := by decide +kernel
theorem dX12_now_130 : decode cX12_now 130 = .ok (.istore_n 2, 1) := by decide +kernel
theorem dX12_now_131 : decode cX12_now 131 = .ok (.iinc 3 1, 3) := by decide +kernel
theorem dX12_now_134 : decode cX12_now 134 = .ok (.goto (-22), 3) := by decide +kernel
theorem dX12_now_137 : decode cX12_now 137 = .ok (.iload_n 2, 1) := by decide +kernel
theorem dX12_now_138 : decode cX12_now 138 = .ok (.ireturn, 1) := by decide +kernel
theorem dX12_now_139 : decode cX12_now 139 = .ok (.aload_n 0, 1) := by decide +kernel
theorem dX12_now_140 : decode cX12_now 140 = .ok (.getfield 98, 3) := by decide +kernel
theorem dX12_now_143 : decode cX12_now 143 = .ok (.bipush 97, 2) := by decide +kernel
theorem dX12_now_145 : decode cX12_now 145 = .ok (.iaload, 1) := by decide +kernel
theorem dX12_now_146 : decode cX12_now 146 = .ok (.ireturn, 1) := by decide +kernel
theorem dX12_now_147 : decode cX12_now 147 = .ok (.aload_n 0, 1) := by decide +kernel
theorem dX12_now_148 : decode cX12_now 148 = .ok (.invokevirtual 292, 3) := by decide +kernel
theorem dX12_now_151 : decode cX12_now 151 = .ok (.iconst 0, 1) := by decide +kernel
theorem dX12_now_152 : decode cX12_now 152 = .ok (.istore_n 3, 1) := by decide +kernel
theorem dX12_now_153 : decode cX12_now 153 = .ok (.iload_n 3, 1) := by decide +kernel
theorem dX12_now_154 : decode cX12_now 154 = .ok (.aload_n 0, 1) := by decide +kernel
theorem dX12_now_155 : decode cX12_now 155 = .ok (.invokevirtual 264, 3) := by decide +kernel
theorem dX12_now_158 : decode cX12_now 158 = .ok (.if_icmp .ge 17, 3) := by decide +kernel
theorem dX12_now_161 : decode cX12_now 161 = .ok (.iload_n 2, 1) := by decide +kernel
theorem dX12_now_162 : decode cX12_now 162 = .ok (.aload_n 0, 1) := by decide +kernel
theorem dX12_now_163 : decode cX12_now 163 = .ok (.iload_n 3, 1) := by decide +kernel
theorem dX12_now_164 : decode cX12_now 164 = .ok (.invokevirtual 274, 3) := by decide +kernel
theorem dX12_now_167 : decode cX12_now 167 = .ok (.iadd, 1) := by decide +kernel
theorem dX12_now_168 : decode cX12_now 168 = .ok (.istore_n 2, 1) := by decide +kernel
theorem dX12_now_169 : decode cX12_now 169 = .ok (.iinc 3 1, 3) := by decide +kernel
theorem dX12_now_172 : decode cX12_now 172 = .ok (.goto (-19), 3) := by decide +kernel
theorem dX12_now_175 : decode cX12_now 175 = .ok (.iload_n 2, 1) := by decide +kernel
theorem dX12_now_176 : decode cX12_now 176 = .ok (.ireturn, 1) := by decide +kernel
theorem dX12_now_177 : decode cX12_now 177 = .ok (.iconst (-1), 1) := by decide +kernel
theorem dX12_now_178 : decode cX12_now 178 = .ok (.ireturn, 1) := by decide +kernel
def tX12_now (kn : sKn) : List (Nat × sA) := [(0, a_aload 0 1), (1, a_stk (q_int 0) 2), (2, a_put 13 0 ckI 5), (5, a_stk (q_int 0) 6), (6, a_istore 2 7), (7, a_iload 1 8), (8, a_table kn 0 6 [52, 60, 68, 102, 110, 139, 147] 177), (52, a_aload 0 53), (53, a_get 13 14 56), (56, a_stk (q_int 94) 58), (58, a_iald 59), (59, a_iret), (60, a_aload 0 61), (61, a_get 13 14 64), (64, a_stk (q_int 95) 66), (66, a_iald 67), (67, a_iret), (68, a_stk (q_int 0) 69), (69, a_istore 3 70), (70, a_iload 3 71), (71, a_aload 0 72), (72, a_callV false (fX12_places kn) 13 1 75), (75, a_icmp kn b_ge 3 100 78), (78, a_aload 0 79), (79, a_get 13 14 82), (82, a_stk (q_int 118) 84), (84, a_iload 3 85), (85, a_stk q_iadd 86), (86, a_iald 87), (87, a_stk (q_int (-1)) 88), (88, a_icmp kn b_eq 0 94 91), (91, a_iinc 2 1 94), (94, a_iinc 3 1 97), (97, a_goto 70), (100, a_iload 2 101), (101, a_iret), (102, a_aload 0 103), (103, a_get 13 14 106), (106, a_stk (q_int 96) 108), (108, a_iald 109), (109, a_iret), (110, a_stk (q_int 0) 111), (111, a_istore 3 112), (112, a_iload 3 113), (113, a_stk (q_int 6) 115), (115, a_icmp kn b_ge 3 137 118), (118, a_iload 2 119), (119, a_aload 0 120), (120, a_get 13 14 123), (123, a_stk (q_int 190) 126), (126, a_iload 3 127), (127, a_stk q_iadd 128), (128, a_iald 129), (129, a_stk q_iadd 130), (130, a_istore 2 131), (131, a_iinc 3 1 134), (134, a_goto 112), (137, a_iload 2 138), (138, a_iret), (139, a_aload 0 140), (140, a_get 13 14 143), (143, a_stk (q_int 97) 145), (145, a_iald 146), (146, a_iret), (147, a_aload 0 148), (148, a_callV true (fX12_layWhose kn) 13 1 151), (151, a_stk (q_int 0) 152), (152, a_istore 3 153), (153, a_iload 3 154), (154, a_aload 0 155), (155, a_callV false (fX12_places kn) 13 1 158), (158, a_icmp kn b_ge 3 175 161), (161, a_iload 2 162), (162, a_aload 0 163), (163, a_iload 3 164), (164, a_callV false (fX12_bearsAt kn) 13 2 167), (167, a_stk q_iadd 168), (168, a_istore 2 169), (169, a_iinc 3 1 172), (172, a_goto 153), (175, a_iload 2 176), (176, a_iret), (177, a_stk (q_int (-1)) 178), (178, a_iret)]
def fX12_now (kn : sKn) : List Value → sW → Option sR := fW (tX12_now kn) 4
set_option maxRecDepth 100000 in
set_option maxHeartbeats 4000000 in
theorem mX12_now (kn : sKn) : mM kn yX12_now (Cond.code yX12_now cX12_now 4 (some .int) :: wsL_law) 4 false (fX12_now kn) := mM_W (fun n => mM_of (own := RX12) (ini := false) rfl (by decide +kernel) (by decide +kernel) (all_c (ok_aload_n dX12_now_0 rfl) (all_c (ok_stk (s_iconst dX12_now_1 (by decide))) (all_c (okp_X12_0 kw1114 dX12_now_2) (all_c (ok_stk (s_iconst dX12_now_5 (by decide))) (all_c (ok_istore_n dX12_now_6 rfl (by decide)) (all_c (ok_iload_n dX12_now_7 rfl) (all_c (ok_table dX12_now_8 (by decide) (by decide) (by decide) (by decide)) (all_c (ok_aload_n dX12_now_52 rfl) (all_c (okg_X12_14 kw1069 dX12_now_53) (all_c (ok_stk (s_bipush dX12_now_56 (by decide))) (all_c (ok_iald dX12_now_58) (all_c (ok_iret dX12_now_59) (all_c (ok_aload_n dX12_now_60 rfl) (all_c (okg_X12_14 kw1069 dX12_now_61) (all_c (ok_stk (s_bipush dX12_now_64 (by decide))) (all_c (ok_iald dX12_now_66) (all_c (ok_iret dX12_now_67) (all_c (ok_stk (s_iconst dX12_now_68 (by decide))) (all_c (ok_istore_n dX12_now_69 rfl (by decide)) (all_c (ok_iload_n dX12_now_70 rfl) (all_c (ok_aload_n dX12_now_71 rfl) (all_c (okc_X12_places (by decide) kw1200 dX12_now_72) (all_c (ok_icmp_ge dX12_now_75 (by decide)) (all_c (ok_aload_n dX12_now_78 rfl) (all_c (okg_X12_14 kw1069 dX12_now_79) (all_c (ok_stk (s_bipush dX12_now_82 (by decide))) (all_c (ok_iload_n dX12_now_84 rfl) (all_c (ok_stk (s_iadd dX12_now_85)) (all_c (ok_iald dX12_now_86) (all_c (ok_stk (s_iconst dX12_now_87 (by decide))) (all_c (ok_icmp_eq dX12_now_88 (by decide)) (all_c (ok_iinc dX12_now_91 (by decide) (by decide)) (all_c (ok_iinc dX12_now_94 (by decide) (by decide)) (all_c (ok_goto dX12_now_97 (by decide)) (all_c (ok_iload_n dX12_now_100 rfl) (all_c (ok_iret dX12_now_101) (all_c (ok_aload_n dX12_now_102 rfl) (all_c (okg_X12_14 kw1069 dX12_now_103) (all_c (ok_stk (s_bipush dX12_now_106 (by decide))) (all_c (ok_iald dX12_now_108) (all_c (ok_iret dX12_now_109) (all_c (ok_stk (s_iconst dX12_now_110 (by decide))) (all_c (ok_istore_n dX12_now_111 rfl (by decide)) (all_c (ok_iload_n dX12_now_112 rfl) (all_c (ok_stk (s_bipush dX12_now_113 (by decide))) (all_c (ok_icmp_ge dX12_now_115 (by decide)) (all_c (ok_iload_n dX12_now_118 rfl) (all_c (ok_aload_n dX12_now_119 rfl) (all_c (okg_X12_14 kw1069 dX12_now_120) (all_c (ok_stk (s_sipush dX12_now_123 (by decide))) (all_c (ok_iload_n dX12_now_126 rfl) (all_c (ok_stk (s_iadd dX12_now_127)) (all_c (ok_iald dX12_now_128) (all_c (ok_stk (s_iadd dX12_now_129)) (all_c (ok_istore_n dX12_now_130 rfl (by decide)) (all_c (ok_iinc dX12_now_131 (by decide) (by decide)) (all_c (ok_goto dX12_now_134 (by decide)) (all_c (ok_iload_n dX12_now_137 rfl) (all_c (ok_iret dX12_now_138) (all_c (ok_aload_n dX12_now_139 rfl) (all_c (okg_X12_14 kw1069 dX12_now_140) (all_c (ok_stk (s_bipush dX12_now_143 (by decide))) (all_c (ok_iald dX12_now_145) (all_c (ok_iret dX12_now_146) (all_c (ok_aload_n dX12_now_147 rfl) (all_c (okc_X12_layWhose (by decide) kw1118 dX12_now_148) (all_c (ok_stk (s_iconst dX12_now_151 (by decide))) (all_c (ok_istore_n dX12_now_152 rfl (by decide)) (all_c (ok_iload_n dX12_now_153 rfl) (all_c (ok_aload_n dX12_now_154 rfl) (all_c (okc_X12_places (by decide) kw1200 dX12_now_155) (all_c (ok_icmp_ge dX12_now_158 (by decide)) (all_c (ok_iload_n dX12_now_161 rfl) (all_c (ok_aload_n dX12_now_162 rfl) (all_c (ok_iload_n dX12_now_163 rfl) (all_c (okc_X12_bearsAt (by decide) kw1085 dX12_now_164) (all_c (ok_stk (s_iadd dX12_now_167)) (all_c (ok_istore_n dX12_now_168 rfl (by decide)) (all_c (ok_iinc dX12_now_169 (by decide) (by decide)) (all_c (ok_goto dX12_now_172 (by decide)) (all_c (ok_iload_n dX12_now_175 rfl) (all_c (ok_iret dX12_now_176) (all_c (ok_stk (s_iconst dX12_now_177 (by decide))) (all_c (ok_iret dX12_now_178) all_n)))))))))))))))))))))))))))))))))))))))))))))))))))))))))))))))))))))))))))))))))))) n (fun h => by first | rfl | cases h))
end
