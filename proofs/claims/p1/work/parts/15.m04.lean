noncomputable section
theorem dX12_byteAt_0 : decode cX12_byteAt 0 = .ok (.aload_n 0, 1) := by decide +kernel
theorem dX12_byteAt_1 : decode cX12_byteAt 1 = .ok (.iconst 0, 1) := by decide +kernel
theorem dX12_byteAt_2 : decode cX12_byteAt 2 = .ok (.putfield 1, 3) := by decide +kernel
theorem dX12_byteAt_5 : decode cX12_byteAt 5 = .ok (.iload_n 1, 1) := by decide +kernel
theorem dX12_byteAt_6 : decode cX12_byteAt 6 = .ok (.iconst 0, 1) := by decide +kernel
theorem dX12_byteAt_7 : decode cX12_byteAt 7 = .ok (.aload_n 0, 1) := by decide +kernel
theorem dX12_byteAt_8 : decode cX12_byteAt 8 = .ok (.getfield 418, 3) := by decide +kernel
theorem dX12_byteAt_11 : decode cX12_byteAt 11 = .ok (.iconst 1, 1) := by decide +kernel
theorem dX12_byteAt_12 : decode cX12_byteAt 12 = .ok (.isub, 1) := by decide +kernel
theorem dX12_byteAt_13 : decode cX12_byteAt 13 = .ok (.invokestatic 75, 3) := by decide +kernel
theorem dX12_byteAt_16 : decode cX12_byteAt 16 = .ok (.ifCond .eq 12, 3) := by decide +kernel
theorem dX12_byteAt_19 : decode cX12_byteAt 19 = .ok (.aload_n 0, 1) := by decide +kernel
theorem dX12_byteAt_20 : decode cX12_byteAt 20 = .ok (.getfield 172, 3) := by decide +kernel
theorem dX12_byteAt_23 : decode cX12_byteAt 23 = .ok (.iload_n 1, 1) := by decide +kernel
theorem dX12_byteAt_24 : decode cX12_byteAt 24 = .ok (.iaload, 1) := by decide +kernel
theorem dX12_byteAt_25 : decode cX12_byteAt 25 = .ok (.goto 4, 3) := by decide +kernel
theorem dX12_byteAt_28 : decode cX12_byteAt 28 = .ok (.iconst (-1), 1) := by decide +kernel
theorem dX12_byteAt_29 : decode cX12_byteAt 29 = .ok (.ireturn, 1) := by decide +kernel
def tX12_byteAt (kn : sKn) : List (Nat × sA) := [(0, a_aload 0 1), (1, a_stk (q_int 0) 2), (2, a_put 13 0 ckI 5), (5, a_iload 1 6), (6, a_stk (q_int 0) 7), (7, a_aload 0 8), (8, a_get 13 49 11), (11, a_stk (q_int 1) 12), (12, a_stk q_isub 13), (13, a_callS false (fX12_isIn kn) 3 16), (16, a_if kn b_eq 0 28 19), (19, a_aload 0 20), (20, a_get 13 48 23), (23, a_iload 1 24), (24, a_iald 25), (25, a_goto 29), (28, a_stk (q_int (-1)) 29), (29, a_iret)]
def fX12_byteAt (kn : sKn) : List Value → sW → Option sR := mF (tX12_byteAt kn) 2 1000000
set_option maxRecDepth 100000 in
set_option maxHeartbeats 4000000 in
theorem mX12_byteAt (kn : sKn) : mM kn yX12_byteAt (Cond.code yX12_byteAt cX12_byteAt 2 (some .int) :: wsL_law) 2 false (fX12_byteAt kn) := mM_of (own := RX12) (ini := false) rfl (by decide +kernel) (by decide +kernel) (all_c (ok_aload_n dX12_byteAt_0 rfl) (all_c (ok_stk (s_iconst dX12_byteAt_1 (by decide))) (all_c (okp_X12_0 kw693 dX12_byteAt_2) (all_c (ok_iload_n dX12_byteAt_5 rfl) (all_c (ok_stk (s_iconst dX12_byteAt_6 (by decide))) (all_c (ok_aload_n dX12_byteAt_7 rfl) (all_c (okg_X12_49 kw841 dX12_byteAt_8) (all_c (ok_stk (s_iconst dX12_byteAt_11 (by decide))) (all_c (ok_stk (s_isub dX12_byteAt_12)) (all_c (okc_X12_isIn (by decide) kw705 dX12_byteAt_13) (all_c (ok_if_eq dX12_byteAt_16 (by decide)) (all_c (ok_aload_n dX12_byteAt_19 rfl) (all_c (okg_X12_48 kw842 dX12_byteAt_20) (all_c (ok_iload_n dX12_byteAt_23 rfl) (all_c (ok_iald dX12_byteAt_24) (all_c (ok_goto dX12_byteAt_25 (by decide)) (all_c (ok_stk (s_iconst dX12_byteAt_28 (by decide))) (all_c (ok_iret dX12_byteAt_29) all_n)))))))))))))))))) 1000000 (fun h => by first | rfl | cases h)
theorem dX12_come_0 : decode cX12_come 0 = .ok (.bipush 24, 2) := by decide +kernel
theorem dX12_come_2 : decode cX12_come 2 = .ok (.istore_n 2, 1) := by decide +kernel
theorem dX12_come_3 : decode cX12_come 3 = .ok (.iload_n 2, 1) := by decide +kernel
theorem dX12_come_4 : decode cX12_come 4 = .ok (.ifCond .lt 35, 3) := by decide +kernel
theorem dX12_come_7 : decode cX12_come 7 = .ok (.aload_n 0, 1) := by decide +kernel
theorem dX12_come_8 : decode cX12_come 8 = .ok (.getfield 7, 3) := by decide +kernel
theorem dX12_come_11 : decode cX12_come 11 = .ok (.aload_n 0, 1) := by decide +kernel
theorem dX12_come_12 : decode cX12_come 12 = .ok (.getfield 11, 3) := by decide +kernel
theorem dX12_come_15 : decode cX12_come 15 = .ok (.iload_n 1, 1) := by decide +kernel
theorem dX12_come_16 : decode cX12_come 16 = .ok (.iload_n 2, 1) := by decide +kernel
theorem dX12_come_17 : decode cX12_come 17 = .ok (.iushr, 1) := by decide +kernel
theorem dX12_come_18 : decode cX12_come 18 = .ok (.sipush 255, 3) := by decide +kernel
theorem dX12_come_21 : decode cX12_come 21 = .ok (.iand, 1) := by decide +kernel
theorem dX12_come_22 : decode cX12_come 22 = .ok (.iastore, 1) := by decide +kernel
theorem dX12_come_23 : decode cX12_come 23 = .ok (.aload_n 0, 1) := by decide +kernel
theorem dX12_come_24 : decode cX12_come 24 = .ok (.dup, 1) := by decide +kernel
theorem dX12_come_25 : decode cX12_come 25 = .ok (.getfield 11, 3) := by decide +kernel
theorem dX12_come_28 : decode cX12_come 28 = .ok (.iconst 1, 1) := by decide +kernel
theorem dX12_come_29 : decode cX12_come 29 = .ok (.iadd, 1) := by decide +kernel
theorem dX12_come_30 : decode cX12_come 30 = .ok (.putfield 11, 3) := by decide +kernel
theorem dX12_come_33 : decode cX12_come 33 = .ok (.iinc 2 (-8), 3) := by decide +kernel
theorem dX12_come_36 : decode cX12_come 36 = .ok (.goto (-33), 3) := by decide +kernel
theorem dX12_come_39 : decode cX12_come 39 = .ok (.return_, 1) := by decide +kernel
def tX12_come (kn : sKn) : List (Nat × sA) := [(0, a_stk (q_int 24) 2), (2, a_istore 2 3), (3, a_iload 2 4), (4, a_if kn b_lt 2 39 7), (7, a_aload 0 8), (8, a_get 13 1 11), (11, a_aload 0 12), (12, a_get 13 2 15), (15, a_iload 1 16), (16, a_iload 2 17), (17, a_kop kn 0 q_iushr 18), (18, a_stk (q_int 255) 21), (21, a_kop kn 1 q_iand 22), (22, a_iast 23), (23, a_aload 0 24), (24, a_stk q_dup 25), (25, a_get 13 2 28), (28, a_stk (q_int 1) 29), (29, a_stk q_iadd 30), (30, a_put 13 2 ckI 33), (33, a_iinc 2 (-8) 36), (36, a_goto 3), (39, a_vret)]
def fX12_come (kn : sKn) : List Value → sW → Option sR := mF (tX12_come kn) 3 1000000
set_option maxRecDepth 100000 in
set_option maxHeartbeats 4000000 in
theorem mX12_come (kn : sKn) : mM kn yX12_come (Cond.code yX12_come cX12_come 3 none :: wsL_law) 1 true (fX12_come kn) := mM_of (own := RX12) (ini := false) rfl (by decide +kernel) (by decide +kernel) (all_c (ok_stk (s_bipush dX12_come_0 (by decide))) (all_c (ok_istore_n dX12_come_2 rfl (by decide)) (all_c (ok_iload_n dX12_come_3 rfl) (all_c (ok_if_lt dX12_come_4 (by decide)) (all_c (ok_aload_n dX12_come_7 rfl) (all_c (okg_X12_1 kw734 dX12_come_8) (all_c (ok_aload_n dX12_come_11 rfl) (all_c (okg_X12_2 kw751 dX12_come_12) (all_c (ok_iload_n dX12_come_15 rfl) (all_c (ok_iload_n dX12_come_16 rfl) (all_c (ok_kushr dX12_come_17) (all_c (ok_stk (s_sipush dX12_come_18 (by decide))) (all_c (ok_kand dX12_come_21) (all_c (ok_iast dX12_come_22) (all_c (ok_aload_n dX12_come_23 rfl) (all_c (ok_stk (s_dup dX12_come_24)) (all_c (okg_X12_2 kw751 dX12_come_25) (all_c (ok_stk (s_iconst dX12_come_28 (by decide))) (all_c (ok_stk (s_iadd dX12_come_29)) (all_c (okp_X12_2 kw751 dX12_come_30) (all_c (ok_iinc dX12_come_33 (by decide) (by decide)) (all_c (ok_goto dX12_come_36 (by decide)) (all_c (ok_vret dX12_come_39) all_n))))))))))))))))))))))) 1000000 (fun h => by first | rfl | cases h)
theorem dX12_count_0 : decode cX12_count 0 = .ok (.aload_n 0, 1) := by decide +kernel
theorem dX12_count_1 : decode cX12_count 1 = .ok (.iconst 0, 1) := by decide +kernel
theorem dX12_count_2 : decode cX12_count 2 = .ok (.putfield 1, 3) := by decide +kernel
theorem dX12_count_5 : decode cX12_count 5 = .ok (.iload_n 1, 1) := by decide +kernel
theorem dX12_count_6 : decode cX12_count 6 = .ok (.tableswitch 78 0 5 #[38, 45, 52, 59, 66, 73], 38) := by decide +kernel
theorem dX12_count_44 : decode cX12_count 44 = .ok (.aload_n 0, 1) := by decide +kernel
theorem dX12_count_45 : decode cX12_count 45 = .ok (.getfield 98, 3) := by decide +kernel
theorem dX12_count_48 : decode cX12_count 48 = .ok (.iconst 0, 1) := by decide +kernel
theorem dX12_count_49 : decode cX12_count 49 = .ok (.iaload, 1) := by decide +kernel
theorem dX12_count_50 : decode cX12_count 50 = .ok (.ireturn, 1) := by decide +kernel
theorem dX12_count_51 : decode cX12_count 51 = .ok (.aload_n 0, 1) := by decide +kernel
theorem dX12_count_52 : decode cX12_count 52 = .ok (.getfield 98, 3) := by decide +kernel
theorem dX12_count_55 : decode cX12_count 55 = .ok (.iconst 1, 1) := by decide +kernel
theorem dX12_count_56 : decode cX12_count 56 = .ok (.iaload, 1) := by decide +kernel
theorem dX12_count_57 : decode cX12_count 57 = .ok (.ireturn, 1) := by decide +kernel
theorem dX12_count_58 : decode cX12_count 58 = .ok (.aload_n 0, 1) := by decide +kernel
theorem dX12_count_59 : decode cX12_count 59 = .ok (.getfield 98, 3) := by decide +kernel
theorem dX12_count_62 : decode cX12_count 62 = .ok (.iconst 2, 1) := by decide +kernel
theorem dX12_count_63 : decode cX12_count 63 = .ok (.iaload, 1) := by decide +kernel
theorem dX12_count_64 : decode cX12_count 64 = .ok (.ireturn, 1) := by decide +kernel
theorem dX12_count_65 : decode cX12_count 65 = .ok (.aload_n 0, 1) := by decide +kernel
theorem dX12_count_66 : decode cX12_count 66 = .ok (.getfield 98, 3) := by decide +kernel
theorem dX12_count_69 : decode cX12_count 69 = .ok (.iconst 3, 1) := by decide +kernel
theorem dX12_count_70 : decode cX12_count 70 = .ok (.iaload, 1) := by decide +kernel
theorem dX12_count_71 : decode cX12_count 71 = .ok (.ireturn, 1) := by decide +kernel
theorem dX12_count_72 : decode cX12_count 72 = .ok (.aload_n 0, 1) := by decide +kernel
theorem dX12_count_73 : decode cX12_count 73 = .ok (.getfield 98, 3) := by decide +kernel
theorem dX12_count_76 : decode cX12_count 76 = .ok (.iconst 4, 1) := by decide +kernel
theorem dX12_count_77 : decode cX12_count 77 = .ok (.iaload, 1) := by decide +kernel
theorem dX12_count_78 : decode cX12_count 78 = .ok (.ireturn, 1) := by decide +kernel
theorem dX12_count_79 : decode cX12_count 79 = .ok (.aload_n 0, 1) := by decide +kernel
theorem dX12_count_80 : decode cX12_count 80 = .ok (.getfield 11, 3) := by decide +kernel
theorem dX12_count_83 : decode cX12_count 83 = .ok (.ireturn, 1) := by decide +kernel
theorem dX12_count_84 : decode cX12_count 84 = .ok (.iconst (-1), 1) := by decide +kernel
theorem dX12_count_85 : decode cX12_count 85 = .ok (.ireturn, 1) := by decide +kernel
def tX12_count (kn : sKn) : List (Nat × sA) := [(0, a_aload 0 1), (1, a_stk (q_int 0) 2), (2, a_put 13 0 ckI 5), (5, a_iload 1 6), (6, a_table kn 0 5 [44, 51, 58, 65, 72, 79] 84), (44, a_aload 0 45), (45, a_get 13 14 48), (48, a_stk (q_int 0) 49), (49, a_iald 50), (50, a_iret), (51, a_aload 0 52), (52, a_get 13 14 55), (55, a_stk (q_int 1) 56), (56, a_iald 57), (57, a_iret), (58, a_aload 0 59), (59, a_get 13 14 62), (62, a_stk (q_int 2) 63), (63, a_iald 64), (64, a_iret), (65, a_aload 0 66), (66, a_get 13 14 69), (69, a_stk (q_int 3) 70), (70, a_iald 71), (71, a_iret), (72, a_aload 0 73), (73, a_get 13 14 76), (76, a_stk (q_int 4) 77), (77, a_iald 78), (78, a_iret), (79, a_aload 0 80), (80, a_get 13 2 83), (83, a_iret), (84, a_stk (q_int (-1)) 85), (85, a_iret)]
def fX12_count (kn : sKn) : List Value → sW → Option sR := mF (tX12_count kn) 2 1000000
set_option maxRecDepth 100000 in
set_option maxHeartbeats 4000000 in
theorem mX12_count (kn : sKn) : mM kn yX12_count (Cond.code yX12_count cX12_count 2 (some .int) :: wsL_law) 1 false (fX12_count kn) := mM_of (own := RX12) (ini := false) rfl (by decide +kernel) (by decide +kernel) (all_c (ok_aload_n dX12_count_0 rfl) (all_c (ok_stk (s_iconst dX12_count_1 (by decide))) (all_c (okp_X12_0 kw693 dX12_count_2) (all_c (ok_iload_n dX12_count_5 rfl) (all_c (ok_table dX12_count_6 (by decide) (by decide) (by decide) (by decide)) (all_c (ok_aload_n dX12_count_44 rfl) (all_c (okg_X12_14 kw683 dX12_count_45) (all_c (ok_stk (s_iconst dX12_count_48 (by decide))) (all_c (ok_iald dX12_count_49) (all_c (ok_iret dX12_count_50) (all_c (ok_aload_n dX12_count_51 rfl) (all_c (okg_X12_14 kw683 dX12_count_52) (all_c (ok_stk (s_iconst dX12_count_55 (by decide))) (all_c (ok_iald dX12_count_56) (all_c (ok_iret dX12_count_57) (all_c (ok_aload_n dX12_count_58 rfl) (all_c (okg_X12_14 kw683 dX12_count_59) (all_c (ok_stk (s_iconst dX12_count_62 (by decide))) (all_c (ok_iald dX12_count_63) (all_c (ok_iret dX12_count_64) (all_c (ok_aload_n dX12_count_65 rfl) (all_c (okg_X12_14 kw683 dX12_count_66) (all_c (ok_stk (s_iconst dX12_count_69 (by decide))) (all_c (ok_iald dX12_count_70) (all_c (ok_iret dX12_count_71) (all_c (ok_aload_n dX12_count_72 rfl) (all_c (okg_X12_14 kw683 dX12_count_73) (all_c (ok_stk (s_iconst dX12_count_76 (by decide))) (all_c (ok_iald dX12_count_77) (all_c (ok_iret dX12_count_78) (all_c (ok_aload_n dX12_count_79 rfl) (all_c (okg_X12_2 kw751 dX12_count_80) (all_c (ok_iret dX12_count_83) (all_c (ok_stk (s_iconst dX12_count_84 (by decide))) (all_c (ok_iret dX12_count_85) all_n))))))))))))))))))))))))))))))))))) 1000000 (fun h => by first | rfl | cases h)
theorem dX12_cross_0 : decode cX12_cross 0 = .ok (.aload_n 0, 1) := by decide +kernel
theorem dX12_cross_1 : decode cX12_cross 1 = .ok (.iconst 0, 1) := by decide +kernel
theorem dX12_cross_2 : decode cX12_cross 2 = .ok (.putfield 1, 3) := by decide +kernel
theorem dX12_cross_5 : decode cX12_cross 5 = .ok (.aload_n 0, 1) := by decide +kernel
theorem dX12_cross_6 : decode cX12_cross 6 = .ok (.iload_n 1, 1) := by decide +kernel
theorem dX12_cross_7 : decode cX12_cross 7 = .ok (.invokevirtual 295, 3) := by decide +kernel
theorem dX12_cross_10 : decode cX12_cross 10 = .ok (.ifCond .ne 5, 3) := by decide +kernel
theorem dX12_cross_13 : decode cX12_cross 13 = .ok (.iconst (-1), 1) := by decide +kernel
theorem dX12_cross_14 : decode cX12_cross 14 = .ok (.ireturn, 1) := by decide +kernel
theorem dX12_cross_15 : decode cX12_cross 15 = .ok (.aload_n 0, 1) := by decide +kernel
theorem dX12_cross_16 : decode cX12_cross 16 = .ok (.getfield 98, 3) := by decide +kernel
theorem dX12_cross_19 : decode cX12_cross 19 = .ok (.bipush 96, 2) := by decide +kernel
theorem dX12_cross_21 : decode cX12_cross 21 = .ok (.iaload, 1) := by decide +kernel
theorem dX12_cross_22 : decode cX12_cross 22 = .ok (.iload_n 1, 1) := by decide +kernel
theorem dX12_cross_23 : decode cX12_cross 23 = .ok (.invokestatic 225, 3) := by decide +kernel
theorem dX12_cross_26 : decode cX12_cross 26 = .ok (.ifCond .eq 5, 3) := by decide +kernel
theorem dX12_cross_29 : decode cX12_cross 29 = .ok (.iconst 1, 1) := by decide +kernel
theorem dX12_cross_30 : decode cX12_cross 30 = .ok (.ireturn, 1) := by decide +kernel
theorem dX12_cross_31 : decode cX12_cross 31 = .ok (.aload_n 0, 1) := by decide +kernel
theorem dX12_cross_32 : decode cX12_cross 32 = .ok (.invokevirtual 343, 3) := by decide +kernel
theorem dX12_cross_35 : decode cX12_cross 35 = .ok (.aload_n 0, 1) := by decide +kernel
theorem dX12_cross_36 : decode cX12_cross 36 = .ok (.iload_n 1, 1) := by decide +kernel
theorem dX12_cross_37 : decode cX12_cross 37 = .ok (.invokevirtual 358, 3) := by decide +kernel
theorem dX12_cross_40 : decode cX12_cross 40 = .ok (.ireturn, 1) := by decide +kernel
theorem okc0_X12_doCross {kn : sKn} {cc : ByteArray} {own : String} {nL : Nat} {D : Nat} {ret : Option FieldType} {ini : Bool} {pc index : Nat} (hD : 0 + 1 ≤ D) (hl : Cond.methodLink own index yX12_doCross ∈ wsL_law) (hd : decode cc pc = .ok (.invokevirtual index, 3)) : mOk kn cc own nL wsL_law D ret ini pc (a_callV false f_none 13 (1 + 1) (pc + 3)) := ok_callV (m_none (D := 0)) (good_ws ws_good (fun _ h => h) kw843) hD (by decide) hl kw844 kw845 kw686 ⟨by decide +kernel, by decide +kernel, by decide +kernel⟩ rfl hd
def tX12_cross (kn : sKn) : List (Nat × sA) := [(0, a_aload 0 1), (1, a_stk (q_int 0) 2), (2, a_put 13 0 ckI 5), (5, a_aload 0 6), (6, a_iload 1 7), (7, a_callV false (fX12_isLoad kn) 13 2 10), (10, a_if kn b_ne 1 15 13), (13, a_stk (q_int (-1)) 14), (14, a_iret), (15, a_aload 0 16), (16, a_get 13 14 19), (19, a_stk (q_int 96) 21), (21, a_iald 22), (22, a_iload 1 23), (23, a_callS false f_none 2 26), (26, a_if kn b_eq 0 31 29), (29, a_stk (q_int 1) 30), (30, a_iret), (31, a_aload 0 32), (32, a_callV true (fX12_snap kn) 13 1 35), (35, a_aload 0 36), (36, a_iload 1 37), (37, a_callV false f_none 13 2 40), (40, a_iret)]
def fX12_cross (kn : sKn) : List Value → sW → Option sR := mF (tX12_cross kn) 2 1000000
set_option maxRecDepth 100000 in
set_option maxHeartbeats 4000000 in
theorem mX12_cross (kn : sKn) : mM kn yX12_cross (Cond.code yX12_cross cX12_cross 2 (some .int) :: wsL_law) 3 false (fX12_cross kn) := mM_of (own := RX12) (ini := false) rfl (by decide +kernel) (by decide +kernel) (all_c (ok_aload_n dX12_cross_0 rfl) (all_c (ok_stk (s_iconst dX12_cross_1 (by decide))) (all_c (okp_X12_0 kw693 dX12_cross_2) (all_c (ok_aload_n dX12_cross_5 rfl) (all_c (ok_iload_n dX12_cross_6 rfl) (all_c (okc_X12_isLoad (by decide) kw710 dX12_cross_7) (all_c (ok_if_ne dX12_cross_10 (by decide)) (all_c (ok_stk (s_iconst dX12_cross_13 (by decide))) (all_c (ok_iret dX12_cross_14) (all_c (ok_aload_n dX12_cross_15 rfl) (all_c (okg_X12_14 kw683 dX12_cross_16) (all_c (ok_stk (s_bipush dX12_cross_19 (by decide))) (all_c (ok_iald dX12_cross_21) (all_c (ok_iload_n dX12_cross_22 rfl) (all_c (okc0_X12_has (by decide) kw688 dX12_cross_23) (all_c (ok_if_eq dX12_cross_26 (by decide)) (all_c (ok_stk (s_iconst dX12_cross_29 (by decide))) (all_c (ok_iret dX12_cross_30) (all_c (ok_aload_n dX12_cross_31 rfl) (all_c (okc_X12_snap (by decide) kw766 dX12_cross_32) (all_c (ok_aload_n dX12_cross_35 rfl) (all_c (ok_iload_n dX12_cross_36 rfl) (all_c (okc0_X12_doCross (by decide) kw846 dX12_cross_37) (all_c (ok_iret dX12_cross_40) all_n)))))))))))))))))))))))) 1000000 (fun h => by first | rfl | cases h)
theorem dX12_cut_0 : decode cX12_cut 0 = .ok (.aload_n 0, 1) := by decide +kernel
theorem dX12_cut_1 : decode cX12_cut 1 = .ok (.iconst 0, 1) := by decide +kernel
theorem dX12_cut_2 : decode cX12_cut 2 = .ok (.putfield 1, 3) := by decide +kernel
theorem dX12_cut_5 : decode cX12_cut 5 = .ok (.aload_n 0, 1) := by decide +kernel
theorem dX12_cut_6 : decode cX12_cut 6 = .ok (.iload_n 1, 1) := by decide +kernel
theorem dX12_cut_7 : decode cX12_cut 7 = .ok (.invokevirtual 295, 3) := by decide +kernel
theorem dX12_cut_10 : decode cX12_cut 10 = .ok (.ifCond .ne 5, 3) := by decide +kernel
theorem dX12_cut_13 : decode cX12_cut 13 = .ok (.iconst (-1), 1) := by decide +kernel
theorem dX12_cut_14 : decode cX12_cut 14 = .ok (.ireturn, 1) := by decide +kernel
theorem dX12_cut_15 : decode cX12_cut 15 = .ok (.aload_n 0, 1) := by decide +kernel
theorem dX12_cut_16 : decode cX12_cut 16 = .ok (.invokevirtual 292, 3) := by decide +kernel
theorem dX12_cut_19 : decode cX12_cut 19 = .ok (.iconst 0, 1) := by decide +kernel
theorem dX12_cut_20 : decode cX12_cut 20 = .ok (.istore_n 2, 1) := by decide +kernel
theorem dX12_cut_21 : decode cX12_cut 21 = .ok (.iload_n 2, 1) := by decide +kernel
theorem dX12_cut_22 : decode cX12_cut 22 = .ok (.iconst 3, 1) := by decide +kernel
theorem dX12_cut_23 : decode cX12_cut 23 = .ok (.if_icmp .gt 55, 3) := by decide +kernel
theorem dX12_cut_26 : decode cX12_cut 26 = .ok (.aload_n 0, 1) := by decide +kernel
theorem dX12_cut_27 : decode cX12_cut 27 = .ok (.iload_n 1, 1) := by decide +kernel
theorem dX12_cut_28 : decode cX12_cut 28 = .ok (.iconst 0, 1) := by decide +kernel
theorem dX12_cut_29 : decode cX12_cut 29 = .ok (.iload_n 2, 1) := by decide +kernel
theorem dX12_cut_30 : decode cX12_cut 30 = .ok (.iconst 0, 1) := by decide +kernel
theorem dX12_cut_31 : decode cX12_cut 31 = .ok (.invokevirtual 386, 3) := by decide +kernel
theorem dX12_cut_34 : decode cX12_cut 34 = .ok (.ifCond .ne 6, 3) := by decide +kernel
theorem dX12_cut_37 : decode cX12_cut 37 = .ok (.goto 35, 3) := by decide +kernel
theorem dX12_cut_40 : decode cX12_cut 40 = .ok (.aload_n 0, 1) := by decide +kernel
theorem dX12_cut_41 : decode cX12_cut 41 = .ok (.iload_n 2, 1) := by decide +kernel
theorem dX12_cut_42 : decode cX12_cut 42 = .ok (.putfield 390, 3) := by decide +kernel
theorem dX12_cut_45 : decode cX12_cut 45 = .ok (.iconst 0, 1) := by decide +kernel
theorem dX12_cut_46 : decode cX12_cut 46 = .ok (.istore_n 3, 1) := by decide +kernel
theorem dX12_cut_47 : decode cX12_cut 47 = .ok (.iload_n 3, 1) := by decide +kernel
theorem dX12_cut_48 : decode cX12_cut 48 = .ok (.iconst 3, 1) := by decide +kernel
theorem dX12_cut_49 : decode cX12_cut 49 = .ok (.if_icmp .ge 21, 3) := by decide +kernel
theorem dX12_cut_52 : decode cX12_cut 52 = .ok (.aload_n 0, 1) := by decide +kernel
theorem dX12_cut_53 : decode cX12_cut 53 = .ok (.getfield 151, 3) := by decide +kernel
theorem dX12_cut_56 : decode cX12_cut 56 = .ok (.iload_n 3, 1) := by decide +kernel
theorem dX12_cut_57 : decode cX12_cut 57 = .ok (.aload_n 0, 1) := by decide +kernel
theorem dX12_cut_58 : decode cX12_cut 58 = .ok (.getfield 148, 3) := by decide +kernel
theorem dX12_cut_61 : decode cX12_cut 61 = .ok (.iload_n 3, 1) := by decide +kernel
theorem dX12_cut_62 : decode cX12_cut 62 = .ok (.iaload, 1) := by decide +kernel
theorem dX12_cut_63 : decode cX12_cut 63 = .ok (.iastore, 1) := by decide +kernel
theorem dX12_cut_64 : decode cX12_cut 64 = .ok (.iinc 3 1, 3) := by decide +kernel
theorem dX12_cut_67 : decode cX12_cut 67 = .ok (.goto (-20), 3) := by decide +kernel
theorem dX12_cut_70 : decode cX12_cut 70 = .ok (.iload_n 2, 1) := by decide +kernel
theorem dX12_cut_71 : decode cX12_cut 71 = .ok (.ireturn, 1) := by decide +kernel
theorem dX12_cut_72 : decode cX12_cut 72 = .ok (.iinc 2 1, 3) := by decide +kernel
theorem dX12_cut_75 : decode cX12_cut 75 = .ok (.goto (-54), 3) := by decide +kernel
theorem dX12_cut_78 : decode cX12_cut 78 = .ok (.iconst (-1), 1) := by decide +kernel
theorem dX12_cut_79 : decode cX12_cut 79 = .ok (.ireturn, 1) := by decide +kernel
theorem okc0_X12_canCut {kn : sKn} {cc : ByteArray} {own : String} {nL : Nat} {D : Nat} {ret : Option FieldType} {ini : Bool} {pc index : Nat} (hD : 0 + 1 ≤ D) (hl : Cond.methodLink own index yX12_canCut ∈ wsL_law) (hd : decode cc pc = .ok (.invokevirtual index, 3)) : mOk kn cc own nL wsL_law D ret ini pc (a_callV false f_none 13 (4 + 1) (pc + 3)) := ok_callV (m_none (D := 0)) (good_ws ws_good (fun _ h => h) kw847) hD (by decide) hl kw848 kw849 kw686 ⟨by decide +kernel, by decide +kernel, by decide +kernel⟩ rfl hd
def tX12_cut (kn : sKn) : List (Nat × sA) := [(0, a_aload 0 1), (1, a_stk (q_int 0) 2), (2, a_put 13 0 ckI 5), (5, a_aload 0 6), (6, a_iload 1 7), (7, a_callV false (fX12_isLoad kn) 13 2 10), (10, a_if kn b_ne 1 15 13), (13, a_stk (q_int (-1)) 14), (14, a_iret), (15, a_aload 0 16), (16, a_callV true (fX12_layWhose kn) 13 1 19), (19, a_stk (q_int 0) 20), (20, a_istore 2 21), (21, a_iload 2 22), (22, a_stk (q_int 3) 23), (23, a_icmp kn b_gt 4 78 26), (26, a_aload 0 27), (27, a_iload 1 28), (28, a_stk (q_int 0) 29), (29, a_iload 2 30), (30, a_stk (q_int 0) 31), (31, a_callV false f_none 13 5 34), (34, a_if kn b_ne 1 40 37), (37, a_goto 72), (40, a_aload 0 41), (41, a_iload 2 42), (42, a_put 13 39 ckI 45), (45, a_stk (q_int 0) 46), (46, a_istore 3 47), (47, a_iload 3 48), (48, a_stk (q_int 3) 49), (49, a_icmp kn b_ge 3 70 52), (52, a_aload 0 53), (53, a_get 13 38 56), (56, a_iload 3 57), (57, a_aload 0 58), (58, a_get 13 37 61), (61, a_iload 3 62), (62, a_iald 63), (63, a_iast 64), (64, a_iinc 3 1 67), (67, a_goto 47), (70, a_iload 2 71), (71, a_iret), (72, a_iinc 2 1 75), (75, a_goto 21), (78, a_stk (q_int (-1)) 79), (79, a_iret)]
def fX12_cut (kn : sKn) : List Value → sW → Option sR := mF (tX12_cut kn) 4 1000000
set_option maxRecDepth 100000 in
set_option maxHeartbeats 4000000 in
theorem mX12_cut (kn : sKn) : mM kn yX12_cut (Cond.code yX12_cut cX12_cut 4 (some .int) :: wsL_law) 3 false (fX12_cut kn) := mM_of (own := RX12) (ini := false) rfl (by decide +kernel) (by decide +kernel) (all_c (ok_aload_n dX12_cut_0 rfl) (all_c (ok_stk (s_iconst dX12_cut_1 (by decide))) (all_c (okp_X12_0 kw693 dX12_cut_2) (all_c (ok_aload_n dX12_cut_5 rfl) (all_c (ok_iload_n dX12_cut_6 rfl) (all_c (okc_X12_isLoad (by decide) kw710 dX12_cut_7) (all_c (ok_if_ne dX12_cut_10 (by decide)) (all_c (ok_stk (s_iconst dX12_cut_13 (by decide))) (all_c (ok_iret dX12_cut_14) (all_c (ok_aload_n dX12_cut_15 rfl) (all_c (okc_X12_layWhose (by decide) kw697 dX12_cut_16) (all_c (ok_stk (s_iconst dX12_cut_19 (by decide))) (all_c (ok_istore_n dX12_cut_20 rfl (by decide)) (all_c (ok_iload_n dX12_cut_21 rfl) (all_c (ok_stk (s_iconst dX12_cut_22 (by decide))) (all_c (ok_icmp_gt dX12_cut_23 (by decide)) (all_c (ok_aload_n dX12_cut_26 rfl) (all_c (ok_iload_n dX12_cut_27 rfl) (all_c (ok_stk (s_iconst dX12_cut_28 (by decide))) (all_c (ok_iload_n dX12_cut_29 rfl) (all_c (ok_stk (s_iconst dX12_cut_30 (by decide))) (all_c (okc0_X12_canCut (by decide) kw850 dX12_cut_31) (all_c (ok_if_ne dX12_cut_34 (by decide)) (all_c (ok_goto dX12_cut_37 (by decide)) (all_c (ok_aload_n dX12_cut_40 rfl) (all_c (ok_iload_n dX12_cut_41 rfl) (all_c (okp_X12_39 kw851 dX12_cut_42) (all_c (ok_stk (s_iconst dX12_cut_45 (by decide))) (all_c (ok_istore_n dX12_cut_46 rfl (by decide)) (all_c (ok_iload_n dX12_cut_47 rfl) (all_c (ok_stk (s_iconst dX12_cut_48 (by decide))) (all_c (ok_icmp_ge dX12_cut_49 (by decide)) (all_c (ok_aload_n dX12_cut_52 rfl) (all_c (okg_X12_38 kw852 dX12_cut_53) (all_c (ok_iload_n dX12_cut_56 rfl) (all_c (ok_aload_n dX12_cut_57 rfl) (all_c (okg_X12_37 kw853 dX12_cut_58) (all_c (ok_iload_n dX12_cut_61 rfl) (all_c (ok_iald dX12_cut_62) (all_c (ok_iast dX12_cut_63) (all_c (ok_iinc dX12_cut_64 (by decide) (by decide)) (all_c (ok_goto dX12_cut_67 (by decide)) (all_c (ok_iload_n dX12_cut_70 rfl) (all_c (ok_iret dX12_cut_71) (all_c (ok_iinc dX12_cut_72 (by decide) (by decide)) (all_c (ok_goto dX12_cut_75 (by decide)) (all_c (ok_stk (s_iconst dX12_cut_78 (by decide))) (all_c (ok_iret dX12_cut_79) all_n)))))))))))))))))))))))))))))))))))))))))))))))) 1000000 (fun h => by first | rfl | cases h)
theorem dX12_cutAt_0 : decode cX12_cutAt 0 = .ok (.aload_n 0, 1) := by decide +kernel
theorem dX12_cutAt_1 : decode cX12_cutAt 1 = .ok (.iconst 0, 1) := by decide +kernel
theorem dX12_cutAt_2 : decode cX12_cutAt 2 = .ok (.putfield 1, 3) := by decide +kernel
theorem dX12_cutAt_5 : decode cX12_cutAt 5 = .ok (.iload_n 1, 1) := by decide +kernel
theorem dX12_cutAt_6 : decode cX12_cutAt 6 = .ok (.iconst 0, 1) := by decide +kernel
theorem dX12_cutAt_7 : decode cX12_cutAt 7 = .ok (.aload_n 0, 1) := by decide +kernel
theorem dX12_cutAt_8 : decode cX12_cutAt 8 = .ok (.getfield 390, 3) := by decide +kernel
theorem dX12_cutAt_11 : decode cX12_cutAt 11 = .ok (.iconst 1, 1) := by decide +kernel
theorem dX12_cutAt_12 : decode cX12_cutAt 12 = .ok (.isub, 1) := by decide +kernel
theorem dX12_cutAt_13 : decode cX12_cutAt 13 = .ok (.invokestatic 75, 3) := by decide +kernel
theorem dX12_cutAt_16 : decode cX12_cutAt 16 = .ok (.ifCond .eq 12, 3) := by decide +kernel
theorem dX12_cutAt_19 : decode cX12_cutAt 19 = .ok (.aload_n 0, 1) := by decide +kernel
theorem dX12_cutAt_20 : decode cX12_cutAt 20 = .ok (.getfield 151, 3) := by decide +kernel
theorem dX12_cutAt_23 : decode cX12_cutAt 23 = .ok (.iload_n 1, 1) := by decide +kernel
theorem dX12_cutAt_24 : decode cX12_cutAt 24 = .ok (.iaload, 1) := by decide +kernel
theorem dX12_cutAt_25 : decode cX12_cutAt 25 = .ok (.goto 4, 3) := by decide +kernel
theorem dX12_cutAt_28 : decode cX12_cutAt 28 = .ok (.iconst (-1), 1) := by decide +kernel
theorem dX12_cutAt_29 : decode cX12_cutAt 29 = .ok (.ireturn, 1) := by decide +kernel
def tX12_cutAt (kn : sKn) : List (Nat × sA) := [(0, a_aload 0 1), (1, a_stk (q_int 0) 2), (2, a_put 13 0 ckI 5), (5, a_iload 1 6), (6, a_stk (q_int 0) 7), (7, a_aload 0 8), (8, a_get 13 39 11), (11, a_stk (q_int 1) 12), (12, a_stk q_isub 13), (13, a_callS false (fX12_isIn kn) 3 16), (16, a_if kn b_eq 0 28 19), (19, a_aload 0 20), (20, a_get 13 38 23), (23, a_iload 1 24), (24, a_iald 25), (25, a_goto 29), (28, a_stk (q_int (-1)) 29), (29, a_iret)]
def fX12_cutAt (kn : sKn) : List Value → sW → Option sR := mF (tX12_cutAt kn) 2 1000000
set_option maxRecDepth 100000 in
set_option maxHeartbeats 4000000 in
theorem mX12_cutAt (kn : sKn) : mM kn yX12_cutAt (Cond.code yX12_cutAt cX12_cutAt 2 (some .int) :: wsL_law) 2 false (fX12_cutAt kn) := mM_of (own := RX12) (ini := false) rfl (by decide +kernel) (by decide +kernel) (all_c (ok_aload_n dX12_cutAt_0 rfl) (all_c (ok_stk (s_iconst dX12_cutAt_1 (by decide))) (all_c (okp_X12_0 kw693 dX12_cutAt_2) (all_c (ok_iload_n dX12_cutAt_5 rfl) (all_c (ok_stk (s_iconst dX12_cutAt_6 (by decide))) (all_c (ok_aload_n dX12_cutAt_7 rfl) (all_c (okg_X12_39 kw851 dX12_cutAt_8) (all_c (ok_stk (s_iconst dX12_cutAt_11 (by decide))) (all_c (ok_stk (s_isub dX12_cutAt_12)) (all_c (okc_X12_isIn (by decide) kw705 dX12_cutAt_13) (all_c (ok_if_eq dX12_cutAt_16 (by decide)) (all_c (ok_aload_n dX12_cutAt_19 rfl) (all_c (okg_X12_38 kw852 dX12_cutAt_20) (all_c (ok_iload_n dX12_cutAt_23 rfl) (all_c (ok_iald dX12_cutAt_24) (all_c (ok_goto dX12_cutAt_25 (by decide)) (all_c (ok_stk (s_iconst dX12_cutAt_28 (by decide))) (all_c (ok_iret dX12_cutAt_29) all_n)))))))))))))))))) 1000000 (fun h => by first | rfl | cases h)
theorem dX12_oneDay_0 : decode cX12_oneDay 0 = .ok (.iconst 0, 1) := by decide +kernel
theorem dX12_oneDay_1 : decode cX12_oneDay 1 = .ok (.istore_n 1, 1) := by decide +kernel
theorem dX12_oneDay_2 : decode cX12_oneDay 2 = .ok (.iload_n 1, 1) := by decide +kernel
theorem dX12_oneDay_3 : decode cX12_oneDay 3 = .ok (.aload_n 0, 1) := by decide +kernel
theorem dX12_oneDay_4 : decode cX12_oneDay 4 = .ok (.getfield 98, 3) := by decide +kernel
theorem dX12_oneDay_7 : decode cX12_oneDay 7 = .ok (.iconst 1, 1) := by decide +kernel
theorem dX12_oneDay_8 : decode cX12_oneDay 8 = .ok (.iaload, 1) := by decide +kernel
theorem dX12_oneDay_9 : decode cX12_oneDay 9 = .ok (.if_icmp .ge 48, 3) := by decide +kernel
theorem dX12_oneDay_12 : decode cX12_oneDay 12 = .ok (.aload_n 0, 1) := by decide +kernel
theorem dX12_oneDay_13 : decode cX12_oneDay 13 = .ok (.iload_n 1, 1) := by decide +kernel
theorem dX12_oneDay_14 : decode cX12_oneDay 14 = .ok (.invokevirtual 283, 3) := by decide +kernel
theorem dX12_oneDay_17 : decode cX12_oneDay 17 = .ok (.ifCond .eq 34, 3) := by decide +kernel
theorem dX12_oneDay_20 : decode cX12_oneDay 20 = .ok (.aload_n 0, 1) := by decide +kernel
theorem dX12_oneDay_21 : decode cX12_oneDay 21 = .ok (.getfield 98, 3) := by decide +kernel
theorem dX12_oneDay_24 : decode cX12_oneDay 24 = .ok (.bipush 108, 2) := by decide +kernel
theorem dX12_oneDay_26 : decode cX12_oneDay 26 = .ok (.iload_n 1, 1) := by decide +kernel
theorem dX12_oneDay_27 : decode cX12_oneDay 27 = .ok (.iadd, 1) := by decide +kernel
theorem dX12_oneDay_28 : decode cX12_oneDay 28 = .ok (.iaload, 1) := by decide +kernel
theorem dX12_oneDay_29 : decode cX12_oneDay 29 = .ok (.aload_n 0, 1) := by decide +kernel
theorem dX12_oneDay_30 : decode cX12_oneDay 30 = .ok (.getfield 98, 3) := by decide +kernel
theorem dX12_oneDay_33 : decode cX12_oneDay 33 = .ok (.bipush 94, 2) := by decide +kernel
theorem dX12_oneDay_35 : decode cX12_oneDay 35 = .ok (.iaload, 1) := by decide +kernel
theorem dX12_oneDay_36 : decode cX12_oneDay 36 = .ok (.aload_n 0, 1) := by decide +kernel
theorem dX12_oneDay_37 : decode cX12_oneDay 37 = .ok (.getfield 98, 3) := by decide +kernel
theorem dX12_oneDay_40 : decode cX12_oneDay 40 = .ok (.iconst 4, 1) := by decide +kernel
theorem dX12_oneDay_41 : decode cX12_oneDay 41 = .ok (.iaload, 1) := by decide +kernel
theorem dX12_oneDay_42 : decode cX12_oneDay 42 = .ok (.isub, 1) := by decide +kernel
theorem dX12_oneDay_43 : decode cX12_oneDay 43 = .ok (.if_icmp .ne 8, 3) := by decide +kernel
theorem dX12_oneDay_46 : decode cX12_oneDay 46 = .ok (.aload_n 0, 1) := by decide +kernel
theorem dX12_oneDay_47 : decode cX12_oneDay 47 = .ok (.iload_n 1, 1) := by decide +kernel
theorem dX12_oneDay_48 : decode cX12_oneDay 48 = .ok (.invokevirtual 361, 3) := by decide +kernel
theorem dX12_oneDay_51 : decode cX12_oneDay 51 = .ok (.iinc 1 1, 3) := by decide +kernel
theorem dX12_oneDay_54 : decode cX12_oneDay 54 = .ok (.goto (-52), 3) := by decide +kernel
theorem dX12_oneDay_57 : decode cX12_oneDay 57 = .ok (.aload_n 0, 1) := by decide +kernel
theorem dX12_oneDay_58 : decode cX12_oneDay 58 = .ok (.getfield 98, 3) := by decide +kernel
theorem dX12_oneDay_61 : decode cX12_oneDay 61 = .ok (.bipush 94, 2) := by decide +kernel
theorem dX12_oneDay_63 : decode cX12_oneDay 63 = .ok (.dup2, 1) := by decide +kernel
theorem dX12_oneDay_64 : decode cX12_oneDay 64 = .ok (.iaload, 1) := by decide +kernel
theorem dX12_oneDay_65 : decode cX12_oneDay 65 = .ok (.iconst 1, 1) := by decide +kernel
theorem dX12_oneDay_66 : decode cX12_oneDay 66 = .ok (.iadd, 1) := by decide +kernel
theorem dX12_oneDay_67 : decode cX12_oneDay 67 = .ok (.iastore, 1) := by decide +kernel
theorem dX12_oneDay_68 : decode cX12_oneDay 68 = .ok (.return_, 1) := by decide +kernel
theorem okc0_X12_inherit {kn : sKn} {cc : ByteArray} {own : String} {nL : Nat} {D : Nat} {ret : Option FieldType} {ini : Bool} {pc index : Nat} (hD : 0 + 1 ≤ D) (hl : Cond.methodLink own index yX12_inherit ∈ wsL_law) (hd : decode cc pc = .ok (.invokevirtual index, 3)) : mOk kn cc own nL wsL_law D ret ini pc (a_callV true f_none 13 (1 + 1) (pc + 3)) := ok_callV (m_none (D := 0)) (good_ws ws_good (fun _ h => h) kw854) hD (by decide) hl kw855 kw856 kw686 ⟨by decide +kernel, by decide +kernel, by decide +kernel⟩ rfl hd
def tX12_oneDay (kn : sKn) : List (Nat × sA) := [(0, a_stk (q_int 0) 1), (1, a_istore 1 2), (2, a_iload 1 3), (3, a_aload 0 4), (4, a_get 13 14 7), (7, a_stk (q_int 1) 8), (8, a_iald 9), (9, a_icmp kn b_ge 3 57 12), (12, a_aload 0 13), (13, a_iload 1 14), (14, a_callV false f_none 13 2 17), (17, a_if kn b_eq 0 51 20), (20, a_aload 0 21), (21, a_get 13 14 24), (24, a_stk (q_int 108) 26), (26, a_iload 1 27), (27, a_stk q_iadd 28), (28, a_iald 29), (29, a_aload 0 30), (30, a_get 13 14 33), (33, a_stk (q_int 94) 35), (35, a_iald 36), (36, a_aload 0 37), (37, a_get 13 14 40), (40, a_stk (q_int 4) 41), (41, a_iald 42), (42, a_stk q_isub 43), (43, a_icmp kn b_ne 1 51 46), (46, a_aload 0 47), (47, a_iload 1 48), (48, a_callV true f_none 13 2 51), (51, a_iinc 1 1 54), (54, a_goto 2), (57, a_aload 0 58), (58, a_get 13 14 61), (61, a_stk (q_int 94) 63), (63, a_stk q_dup2 64), (64, a_iald 65), (65, a_stk (q_int 1) 66), (66, a_stk q_iadd 67), (67, a_iast 68), (68, a_vret)]
def fX12_oneDay (kn : sKn) : List Value → sW → Option sR := mF (tX12_oneDay kn) 2 1000000
set_option maxRecDepth 100000 in
set_option maxHeartbeats 4000000 in
theorem mX12_oneDay (kn : sKn) : mM kn yX12_oneDay (Cond.code yX12_oneDay cX12_oneDay 2 none :: wsL_law) 1 true (fX12_oneDay kn) := mM_of (own := RX12) (ini := false) rfl (by decide +kernel) (by decide +kernel) (all_c (ok_stk (s_iconst dX12_oneDay_0 (by decide))) (all_c (ok_istore_n dX12_oneDay_1 rfl (by decide)) (all_c (ok_iload_n dX12_oneDay_2 rfl) (all_c (ok_aload_n dX12_oneDay_3 rfl) (all_c (okg_X12_14 kw683 dX12_oneDay_4) (all_c (ok_stk (s_iconst dX12_oneDay_7 (by decide))) (all_c (ok_iald dX12_oneDay_8) (all_c (ok_icmp_ge dX12_oneDay_9 (by decide)) (all_c (ok_aload_n dX12_oneDay_12 rfl) (all_c (ok_iload_n dX12_oneDay_13 rfl) (all_c (okc0_X12_isDead (by decide) kw806 dX12_oneDay_14) (all_c (ok_if_eq dX12_oneDay_17 (by decide)) (all_c (ok_aload_n dX12_oneDay_20 rfl) (all_c (okg_X12_14 kw683 dX12_oneDay_21) (all_c (ok_stk (s_bipush dX12_oneDay_24 (by decide))) (all_c (ok_iload_n dX12_oneDay_26 rfl) (all_c (ok_stk (s_iadd dX12_oneDay_27)) (all_c (ok_iald dX12_oneDay_28) (all_c (ok_aload_n dX12_oneDay_29 rfl) (all_c (okg_X12_14 kw683 dX12_oneDay_30) (all_c (ok_stk (s_bipush dX12_oneDay_33 (by decide))) (all_c (ok_iald dX12_oneDay_35) (all_c (ok_aload_n dX12_oneDay_36 rfl) (all_c (okg_X12_14 kw683 dX12_oneDay_37) (all_c (ok_stk (s_iconst dX12_oneDay_40 (by decide))) (all_c (ok_iald dX12_oneDay_41) (all_c (ok_stk (s_isub dX12_oneDay_42)) (all_c (ok_icmp_ne dX12_oneDay_43 (by decide)) (all_c (ok_aload_n dX12_oneDay_46 rfl) (all_c (ok_iload_n dX12_oneDay_47 rfl) (all_c (okc0_X12_inherit (by decide) kw857 dX12_oneDay_48) (all_c (ok_iinc dX12_oneDay_51 (by decide) (by decide)) (all_c (ok_goto dX12_oneDay_54 (by decide)) (all_c (ok_aload_n dX12_oneDay_57 rfl) (all_c (okg_X12_14 kw683 dX12_oneDay_58) (all_c (ok_stk (s_bipush dX12_oneDay_61 (by decide))) (all_c (ok_stk (s_dup2 dX12_oneDay_63)) (all_c (ok_iald dX12_oneDay_64) (all_c (ok_stk (s_iconst dX12_oneDay_65 (by decide))) (all_c (ok_stk (s_iadd dX12_oneDay_66)) (all_c (ok_iast dX12_oneDay_67) (all_c (ok_vret dX12_oneDay_68) all_n)))))))))))))))))))))))))))))))))))))))))) 1000000 (fun h => by first | rfl | cases h)
theorem dX12_passDays_0 : decode cX12_passDays 0 = .ok (.iload_n 1, 1) := by decide +kernel
theorem dX12_passDays_1 : decode cX12_passDays 1 = .ok (.sipush 400, 3) := by decide +kernel
theorem dX12_passDays_4 : decode cX12_passDays 4 = .ok (.aload_n 0, 1) := by decide +kernel
theorem dX12_passDays_5 : decode cX12_passDays 5 = .ok (.getfield 98, 3) := by decide +kernel
theorem dX12_passDays_8 : decode cX12_passDays 8 = .ok (.bipush 94, 2) := by decide +kernel
theorem dX12_passDays_10 : decode cX12_passDays 10 = .ok (.iaload, 1) := by decide +kernel
theorem dX12_passDays_11 : decode cX12_passDays 11 = .ok (.isub, 1) := by decide +kernel
theorem dX12_passDays_12 : decode cX12_passDays 12 = .ok (.invokestatic 312, 3) := by decide +kernel
theorem dX12_passDays_15 : decode cX12_passDays 15 = .ok (.istore_n 2, 1) := by decide +kernel
theorem dX12_passDays_16 : decode cX12_passDays 16 = .ok (.iconst 0, 1) := by decide +kernel
theorem dX12_passDays_17 : decode cX12_passDays 17 = .ok (.istore_n 3, 1) := by decide +kernel
theorem dX12_passDays_18 : decode cX12_passDays 18 = .ok (.iload_n 3, 1) := by decide +kernel
theorem dX12_passDays_19 : decode cX12_passDays 19 = .ok (.iload_n 2, 1) := by decide +kernel
theorem dX12_passDays_20 : decode cX12_passDays 20 = .ok (.if_icmp .ge 13, 3) := by decide +kernel
theorem dX12_passDays_23 : decode cX12_passDays 23 = .ok (.aload_n 0, 1) := by decide +kernel
theorem dX12_passDays_24 : decode cX12_passDays 24 = .ok (.invokevirtual 364, 3) := by decide +kernel
theorem dX12_passDays_27 : decode cX12_passDays 27 = .ok (.iinc 3 1, 3) := by decide +kernel
theorem dX12_passDays_30 : decode cX12_passDays 30 = .ok (.goto (-12), 3) := by decide +kernel
theorem dX12_passDays_33 : decode cX12_passDays 33 = .ok (.iload_n 2, 1) := by decide +kernel
theorem dX12_passDays_34 : decode cX12_passDays 34 = .ok (.ireturn, 1) := by decide +kernel
theorem okc_X12_oneDay {kn : sKn} {cc : ByteArray} {own : String} {nL : Nat} {D : Nat} {ret : Option FieldType} {ini : Bool} {pc index : Nat} (hD : 1 + 1 ≤ D) (hl : Cond.methodLink own index yX12_oneDay ∈ wsL_law) (hd : decode cc pc = .ok (.invokevirtual index, 3)) : mOk kn cc own nL wsL_law D ret ini pc (a_callV true (fX12_oneDay kn) 13 (0 + 1) (pc + 3)) := ok_callV (mX12_oneDay kn) (good_ws ws_good (fun _ h => h) kw858) hD (by decide) hl kw859 kw860 kw686 ⟨by decide +kernel, by decide +kernel, by decide +kernel⟩ rfl hd
def tX12_passDays (kn : sKn) : List (Nat × sA) := [(0, a_iload 1 1), (1, a_stk (q_int 400) 4), (4, a_aload 0 5), (5, a_get 13 14 8), (8, a_stk (q_int 94) 10), (10, a_iald 11), (11, a_stk q_isub 12), (12, a_callS false (fX12_least kn) 2 15), (15, a_istore 2 16), (16, a_stk (q_int 0) 17), (17, a_istore 3 18), (18, a_iload 3 19), (19, a_iload 2 20), (20, a_icmp kn b_ge 3 33 23), (23, a_aload 0 24), (24, a_callV true (fX12_oneDay kn) 13 1 27), (27, a_iinc 3 1 30), (30, a_goto 18), (33, a_iload 2 34), (34, a_iret)]
def fX12_passDays (kn : sKn) : List Value → sW → Option sR := mF (tX12_passDays kn) 4 1000000
set_option maxRecDepth 100000 in
set_option maxHeartbeats 4000000 in
theorem mX12_passDays (kn : sKn) : mM kn yX12_passDays (Cond.code yX12_passDays cX12_passDays 4 (some .int) :: wsL_law) 2 false (fX12_passDays kn) := mM_of (own := RX12) (ini := false) rfl (by decide +kernel) (by decide +kernel) (all_c (ok_iload_n dX12_passDays_0 rfl) (all_c (ok_stk (s_sipush dX12_passDays_1 (by decide))) (all_c (ok_aload_n dX12_passDays_4 rfl) (all_c (okg_X12_14 kw683 dX12_passDays_5) (all_c (ok_stk (s_bipush dX12_passDays_8 (by decide))) (all_c (ok_iald dX12_passDays_10) (all_c (ok_stk (s_isub dX12_passDays_11)) (all_c (okc_X12_least (by decide) kw718 dX12_passDays_12) (all_c (ok_istore_n dX12_passDays_15 rfl (by decide)) (all_c (ok_stk (s_iconst dX12_passDays_16 (by decide))) (all_c (ok_istore_n dX12_passDays_17 rfl (by decide)) (all_c (ok_iload_n dX12_passDays_18 rfl) (all_c (ok_iload_n dX12_passDays_19 rfl) (all_c (ok_icmp_ge dX12_passDays_20 (by decide)) (all_c (ok_aload_n dX12_passDays_23 rfl) (all_c (okc_X12_oneDay (by decide) kw861 dX12_passDays_24) (all_c (ok_iinc dX12_passDays_27 (by decide) (by decide)) (all_c (ok_goto dX12_passDays_30 (by decide)) (all_c (ok_iload_n dX12_passDays_33 rfl) (all_c (ok_iret dX12_passDays_34) all_n)))))))))))))))))))) 1000000 (fun h => by first | rfl | cases h)
theorem dX12_days_0 : decode cX12_days 0 = .ok (.aload_n 0, 1) := by decide +kernel
theorem dX12_days_1 : decode cX12_days 1 = .ok (.iconst 0, 1) := by decide +kernel
theorem dX12_days_2 : decode cX12_days 2 = .ok (.putfield 1, 3) := by decide +kernel
theorem dX12_days_5 : decode cX12_days 5 = .ok (.iload_n 1, 1) := by decide +kernel
theorem dX12_days_6 : decode cX12_days 6 = .ok (.iconst 1, 1) := by decide +kernel
theorem dX12_days_7 : decode cX12_days 7 = .ok (.bipush 60, 2) := by decide +kernel
theorem dX12_days_9 : decode cX12_days 9 = .ok (.invokestatic 75, 3) := by decide +kernel
theorem dX12_days_12 : decode cX12_days 12 = .ok (.ifCond .ne 5, 3) := by decide +kernel
theorem dX12_days_15 : decode cX12_days 15 = .ok (.iconst (-1), 1) := by decide +kernel
theorem dX12_days_16 : decode cX12_days 16 = .ok (.ireturn, 1) := by decide +kernel
theorem dX12_days_17 : decode cX12_days 17 = .ok (.aload_n 0, 1) := by decide +kernel
theorem dX12_days_18 : decode cX12_days 18 = .ok (.getfield 98, 3) := by decide +kernel
theorem dX12_days_21 : decode cX12_days 21 = .ok (.bipush 94, 2) := by decide +kernel
theorem dX12_days_23 : decode cX12_days 23 = .ok (.iaload, 1) := by decide +kernel
theorem dX12_days_24 : decode cX12_days 24 = .ok (.sipush 400, 3) := by decide +kernel
theorem dX12_days_27 : decode cX12_days 27 = .ok (.if_icmp .ne 5, 3) := by decide +kernel
theorem dX12_days_30 : decode cX12_days 30 = .ok (.iconst 0, 1) := by decide +kernel
theorem dX12_days_31 : decode cX12_days 31 = .ok (.ireturn, 1) := by decide +kernel
theorem dX12_days_32 : decode cX12_days 32 = .ok (.aload_n 0, 1) := by decide +kernel
theorem dX12_days_33 : decode cX12_days 33 = .ok (.invokevirtual 343, 3) := by decide +kernel
theorem dX12_days_36 : decode cX12_days 36 = .ok (.aload_n 0, 1) := by decide +kernel
theorem dX12_days_37 : decode cX12_days 37 = .ok (.iload_n 1, 1) := by decide +kernel
theorem dX12_days_38 : decode cX12_days 38 = .ok (.invokevirtual 367, 3) := by decide +kernel
theorem dX12_days_41 : decode cX12_days 41 = .ok (.ireturn, 1) := by decide +kernel
theorem okc_X12_passDays {kn : sKn} {cc : ByteArray} {own : String} {nL : Nat} {D : Nat} {ret : Option FieldType} {ini : Bool} {pc index : Nat} (hD : 2 + 1 ≤ D) (hl : Cond.methodLink own index yX12_passDays ∈ wsL_law) (hd : decode cc pc = .ok (.invokevirtual index, 3)) : mOk kn cc own nL wsL_law D ret ini pc (a_callV false (fX12_passDays kn) 13 (1 + 1) (pc + 3)) := ok_callV (mX12_passDays kn) (good_ws ws_good (fun _ h => h) kw862) hD (by decide) hl kw863 kw864 kw686 ⟨by decide +kernel, by decide +kernel, by decide +kernel⟩ rfl hd
def tX12_days (kn : sKn) : List (Nat × sA) := [(0, a_aload 0 1), (1, a_stk (q_int 0) 2), (2, a_put 13 0 ckI 5), (5, a_iload 1 6), (6, a_stk (q_int 1) 7), (7, a_stk (q_int 60) 9), (9, a_callS false (fX12_isIn kn) 3 12), (12, a_if kn b_ne 1 17 15), (15, a_stk (q_int (-1)) 16), (16, a_iret), (17, a_aload 0 18), (18, a_get 13 14 21), (21, a_stk (q_int 94) 23), (23, a_iald 24), (24, a_stk (q_int 400) 27), (27, a_icmp kn b_ne 1 32 30), (30, a_stk (q_int 0) 31), (31, a_iret), (32, a_aload 0 33), (33, a_callV true (fX12_snap kn) 13 1 36), (36, a_aload 0 37), (37, a_iload 1 38), (38, a_callV false (fX12_passDays kn) 13 2 41), (41, a_iret)]
def fX12_days (kn : sKn) : List Value → sW → Option sR := mF (tX12_days kn) 2 1000000
set_option maxRecDepth 100000 in
set_option maxHeartbeats 4000000 in
theorem mX12_days (kn : sKn) : mM kn yX12_days (Cond.code yX12_days cX12_days 2 (some .int) :: wsL_law) 3 false (fX12_days kn) := mM_of (own := RX12) (ini := false) rfl (by decide +kernel) (by decide +kernel) (all_c (ok_aload_n dX12_days_0 rfl) (all_c (ok_stk (s_iconst dX12_days_1 (by decide))) (all_c (okp_X12_0 kw693 dX12_days_2) (all_c (ok_iload_n dX12_days_5 rfl) (all_c (ok_stk (s_iconst dX12_days_6 (by decide))) (all_c (ok_stk (s_bipush dX12_days_7 (by decide))) (all_c (okc_X12_isIn (by decide) kw705 dX12_days_9) (all_c (ok_if_ne dX12_days_12 (by decide)) (all_c (ok_stk (s_iconst dX12_days_15 (by decide))) (all_c (ok_iret dX12_days_16) (all_c (ok_aload_n dX12_days_17 rfl) (all_c (okg_X12_14 kw683 dX12_days_18) (all_c (ok_stk (s_bipush dX12_days_21 (by decide))) (all_c (ok_iald dX12_days_23) (all_c (ok_stk (s_sipush dX12_days_24 (by decide))) (all_c (ok_icmp_ne dX12_days_27 (by decide)) (all_c (ok_stk (s_iconst dX12_days_30 (by decide))) (all_c (ok_iret dX12_days_31) (all_c (ok_aload_n dX12_days_32 rfl) (all_c (okc_X12_snap (by decide) kw766 dX12_days_33) (all_c (ok_aload_n dX12_days_36 rfl) (all_c (ok_iload_n dX12_days_37 rfl) (all_c (okc_X12_passDays (by decide) kw865 dX12_days_38) (all_c (ok_iret dX12_days_41) all_n)))))))))))))))))))))))) 1000000 (fun h => by first | rfl | cases h)
theorem dX12_die_0 : decode cX12_die 0 = .ok (.aload_n 0, 1) := by decide +kernel
theorem dX12_die_1 : decode cX12_die 1 = .ok (.iconst 0, 1) := by decide +kernel
theorem dX12_die_2 : decode cX12_die 2 = .ok (.putfield 1, 3) := by decide +kernel
theorem dX12_die_5 : decode cX12_die 5 = .ok (.aload_n 0, 1) := by decide +kernel
theorem dX12_die_6 : decode cX12_die 6 = .ok (.iload_n 1, 1) := by decide +kernel
theorem dX12_die_7 : decode cX12_die 7 = .ok (.invokevirtual 277, 3) := by decide +kernel
theorem dX12_die_10 : decode cX12_die 10 = .ok (.ifCond .ne 5, 3) := by decide +kernel
theorem dX12_die_13 : decode cX12_die 13 = .ok (.iconst (-1), 1) := by decide +kernel
theorem dX12_die_14 : decode cX12_die 14 = .ok (.ireturn, 1) := by decide +kernel
theorem dX12_die_15 : decode cX12_die 15 = .ok (.aload_n 0, 1) := by decide +kernel
theorem dX12_die_16 : decode cX12_die 16 = .ok (.iload_n 1, 1) := by decide +kernel
theorem dX12_die_17 : decode cX12_die 17 = .ok (.invokevirtual 283, 3) := by decide +kernel
theorem dX12_die_20 : decode cX12_die 20 = .ok (.ifCond .eq 5, 3) := by decide +kernel
theorem dX12_die_23 : decode cX12_die 23 = .ok (.iconst 1, 1) := by decide +kernel
theorem dX12_die_24 : decode cX12_die 24 = .ok (.ireturn, 1) := by decide +kernel
theorem dX12_die_25 : decode cX12_die 25 = .ok (.aload_n 0, 1) := by decide +kernel
theorem dX12_die_26 : decode cX12_die 26 = .ok (.invokevirtual 343, 3) := by decide +kernel
theorem dX12_die_29 : decode cX12_die 29 = .ok (.aload_n 0, 1) := by decide +kernel
theorem dX12_die_30 : decode cX12_die 30 = .ok (.iload_n 1, 1) := by decide +kernel
theorem dX12_die_31 : decode cX12_die 31 = .ok (.invokevirtual 355, 3) := by decide +kernel
theorem dX12_die_34 : decode cX12_die 34 = .ok (.iconst 0, 1) := by decide +kernel
theorem dX12_die_35 : decode cX12_die 35 = .ok (.ireturn, 1) := by decide +kernel
theorem okc0_X12_doDie {kn : sKn} {cc : ByteArray} {own : String} {nL : Nat} {D : Nat} {ret : Option FieldType} {ini : Bool} {pc index : Nat} (hD : 0 + 1 ≤ D) (hl : Cond.methodLink own index yX12_doDie ∈ wsL_law) (hd : decode cc pc = .ok (.invokevirtual index, 3)) : mOk kn cc own nL wsL_law D ret ini pc (a_callV true f_none 13 (1 + 1) (pc + 3)) := ok_callV (m_none (D := 0)) (good_ws ws_good (fun _ h => h) kw866) hD (by decide) hl kw867 kw868 kw686 ⟨by decide +kernel, by decide +kernel, by decide +kernel⟩ rfl hd
def tX12_die (kn : sKn) : List (Nat × sA) := [(0, a_aload 0 1), (1, a_stk (q_int 0) 2), (2, a_put 13 0 ckI 5), (5, a_aload 0 6), (6, a_iload 1 7), (7, a_callV false (fX12_isSigner kn) 13 2 10), (10, a_if kn b_ne 1 15 13), (13, a_stk (q_int (-1)) 14), (14, a_iret), (15, a_aload 0 16), (16, a_iload 1 17), (17, a_callV false f_none 13 2 20), (20, a_if kn b_eq 0 25 23), (23, a_stk (q_int 1) 24), (24, a_iret), (25, a_aload 0 26), (26, a_callV true (fX12_snap kn) 13 1 29), (29, a_aload 0 30), (30, a_iload 1 31), (31, a_callV true f_none 13 2 34), (34, a_stk (q_int 0) 35), (35, a_iret)]
def fX12_die (kn : sKn) : List Value → sW → Option sR := mF (tX12_die kn) 2 1000000
set_option maxRecDepth 100000 in
set_option maxHeartbeats 4000000 in
theorem mX12_die (kn : sKn) : mM kn yX12_die (Cond.code yX12_die cX12_die 2 (some .int) :: wsL_law) 3 false (fX12_die kn) := mM_of (own := RX12) (ini := false) rfl (by decide +kernel) (by decide +kernel) (all_c (ok_aload_n dX12_die_0 rfl) (all_c (ok_stk (s_iconst dX12_die_1 (by decide))) (all_c (okp_X12_0 kw693 dX12_die_2) (all_c (ok_aload_n dX12_die_5 rfl) (all_c (ok_iload_n dX12_die_6 rfl) (all_c (okc_X12_isSigner (by decide) kw802 dX12_die_7) (all_c (ok_if_ne dX12_die_10 (by decide)) (all_c (ok_stk (s_iconst dX12_die_13 (by decide))) (all_c (ok_iret dX12_die_14) (all_c (ok_aload_n dX12_die_15 rfl) (all_c (ok_iload_n dX12_die_16 rfl) (all_c (okc0_X12_isDead (by decide) kw806 dX12_die_17) (all_c (ok_if_eq dX12_die_20 (by decide)) (all_c (ok_stk (s_iconst dX12_die_23 (by decide))) (all_c (ok_iret dX12_die_24) (all_c (ok_aload_n dX12_die_25 rfl) (all_c (okc_X12_snap (by decide) kw766 dX12_die_26) (all_c (ok_aload_n dX12_die_29 rfl) (all_c (ok_iload_n dX12_die_30 rfl) (all_c (okc0_X12_doDie (by decide) kw869 dX12_die_31) (all_c (ok_stk (s_iconst dX12_die_34 (by decide))) (all_c (ok_iret dX12_die_35) all_n)))))))))))))))))))))) 1000000 (fun h => by first | rfl | cases h)
theorem dX12_drawn_0 : decode cX12_drawn 0 = .ok (.aload_n 0, 1) := by decide +kernel
theorem dX12_drawn_1 : decode cX12_drawn 1 = .ok (.iconst 0, 1) := by decide +kernel
theorem dX12_drawn_2 : decode cX12_drawn 2 = .ok (.putfield 1, 3) := by decide +kernel
theorem dX12_drawn_5 : decode cX12_drawn 5 = .ok (.iload_n 1, 1) := by decide +kernel
theorem dX12_drawn_6 : decode cX12_drawn 6 = .ok (.iconst 1, 1) := by decide +kernel
theorem dX12_drawn_7 : decode cX12_drawn 7 = .ok (.bipush 60, 2) := by decide +kernel
theorem dX12_drawn_9 : decode cX12_drawn 9 = .ok (.invokestatic 75, 3) := by decide +kernel
theorem dX12_drawn_12 : decode cX12_drawn 12 = .ok (.ifCond .eq 12, 3) := by decide +kernel
theorem dX12_drawn_15 : decode cX12_drawn 15 = .ok (.aload_n 0, 1) := by decide +kernel
theorem dX12_drawn_16 : decode cX12_drawn 16 = .ok (.getfield 98, 3) := by decide +kernel
theorem dX12_drawn_19 : decode cX12_drawn 19 = .ok (.iconst 1, 1) := by decide +kernel
theorem dX12_drawn_20 : decode cX12_drawn 20 = .ok (.iaload, 1) := by decide +kernel
theorem dX12_drawn_21 : decode cX12_drawn 21 = .ok (.ifCond .ne 5, 3) := by decide +kernel
theorem dX12_drawn_24 : decode cX12_drawn 24 = .ok (.iconst (-1), 1) := by decide +kernel
theorem dX12_drawn_25 : decode cX12_drawn 25 = .ok (.ireturn, 1) := by decide +kernel
theorem dX12_drawn_26 : decode cX12_drawn 26 = .ok (.aload_n 0, 1) := by decide +kernel
theorem dX12_drawn_27 : decode cX12_drawn 27 = .ok (.getfield 98, 3) := by decide +kernel
theorem dX12_drawn_30 : decode cX12_drawn 30 = .ok (.bipush 94, 2) := by decide +kernel
theorem dX12_drawn_32 : decode cX12_drawn 32 = .ok (.iaload, 1) := by decide +kernel
theorem dX12_drawn_33 : decode cX12_drawn 33 = .ok (.sipush 400, 3) := by decide +kernel
theorem dX12_drawn_36 : decode cX12_drawn 36 = .ok (.if_icmp .ne 5, 3) := by decide +kernel
theorem dX12_drawn_39 : decode cX12_drawn 39 = .ok (.iconst 0, 1) := by decide +kernel
theorem dX12_drawn_40 : decode cX12_drawn 40 = .ok (.ireturn, 1) := by decide +kernel
theorem dX12_drawn_41 : decode cX12_drawn 41 = .ok (.aload_n 0, 1) := by decide +kernel
theorem dX12_drawn_42 : decode cX12_drawn 42 = .ok (.invokevirtual 343, 3) := by decide +kernel
theorem dX12_drawn_45 : decode cX12_drawn 45 = .ok (.aload_n 0, 1) := by decide +kernel
theorem dX12_drawn_46 : decode cX12_drawn 46 = .ok (.iload_n 1, 1) := by decide +kernel
theorem dX12_drawn_47 : decode cX12_drawn 47 = .ok (.iload_n 2, 1) := by decide +kernel
theorem dX12_drawn_48 : decode cX12_drawn 48 = .ok (.invokevirtual 438, 3) := by decide +kernel
theorem dX12_drawn_51 : decode cX12_drawn 51 = .ok (.ireturn, 1) := by decide +kernel
theorem okc0_X12_drawDays {kn : sKn} {cc : ByteArray} {own : String} {nL : Nat} {D : Nat} {ret : Option FieldType} {ini : Bool} {pc index : Nat} (hD : 0 + 1 ≤ D) (hl : Cond.methodLink own index yX12_drawDays ∈ wsL_law) (hd : decode cc pc = .ok (.invokevirtual index, 3)) : mOk kn cc own nL wsL_law D ret ini pc (a_callV false f_none 13 (2 + 1) (pc + 3)) := ok_callV (m_none (D := 0)) (good_ws ws_good (fun _ h => h) kw870) hD (by decide) hl kw871 kw872 kw686 ⟨by decide +kernel, by decide +kernel, by decide +kernel⟩ rfl hd
def tX12_drawn (kn : sKn) : List (Nat × sA) := [(0, a_aload 0 1), (1, a_stk (q_int 0) 2), (2, a_put 13 0 ckI 5), (5, a_iload 1 6), (6, a_stk (q_int 1) 7), (7, a_stk (q_int 60) 9), (9, a_callS false (fX12_isIn kn) 3 12), (12, a_if kn b_eq 0 24 15), (15, a_aload 0 16), (16, a_get 13 14 19), (19, a_stk (q_int 1) 20), (20, a_iald 21), (21, a_if kn b_ne 1 26 24), (24, a_stk (q_int (-1)) 25), (25, a_iret), (26, a_aload 0 27), (27, a_get 13 14 30), (30, a_stk (q_int 94) 32), (32, a_iald 33), (33, a_stk (q_int 400) 36), (36, a_icmp kn b_ne 1 41 39), (39, a_stk (q_int 0) 40), (40, a_iret), (41, a_aload 0 42), (42, a_callV true (fX12_snap kn) 13 1 45), (45, a_aload 0 46), (46, a_iload 1 47), (47, a_iload 2 48), (48, a_callV false f_none 13 3 51), (51, a_iret)]
def fX12_drawn (kn : sKn) : List Value → sW → Option sR := mF (tX12_drawn kn) 3 1000000
set_option maxRecDepth 100000 in
set_option maxHeartbeats 4000000 in
theorem mX12_drawn (kn : sKn) : mM kn yX12_drawn (Cond.code yX12_drawn cX12_drawn 3 (some .int) :: wsL_law) 2 false (fX12_drawn kn) := mM_of (own := RX12) (ini := false) rfl (by decide +kernel) (by decide +kernel) (all_c (ok_aload_n dX12_drawn_0 rfl) (all_c (ok_stk (s_iconst dX12_drawn_1 (by decide))) (all_c (okp_X12_0 kw693 dX12_drawn_2) (all_c (ok_iload_n dX12_drawn_5 rfl) (all_c (ok_stk (s_iconst dX12_drawn_6 (by decide))) (all_c (ok_stk (s_bipush dX12_drawn_7 (by decide))) (all_c (okc_X12_isIn (by decide) kw705 dX12_drawn_9) (all_c (ok_if_eq dX12_drawn_12 (by decide)) (all_c (ok_aload_n dX12_drawn_15 rfl) (all_c (okg_X12_14 kw683 dX12_drawn_16) (all_c (ok_stk (s_iconst dX12_drawn_19 (by decide))) (all_c (ok_iald dX12_drawn_20) (all_c (ok_if_ne dX12_drawn_21 (by decide)) (all_c (ok_stk (s_iconst dX12_drawn_24 (by decide))) (all_c (ok_iret dX12_drawn_25) (all_c (ok_aload_n dX12_drawn_26 rfl) (all_c (okg_X12_14 kw683 dX12_drawn_27) (all_c (ok_stk (s_bipush dX12_drawn_30 (by decide))) (all_c (ok_iald dX12_drawn_32) (all_c (ok_stk (s_sipush dX12_drawn_33 (by decide))) (all_c (ok_icmp_ne dX12_drawn_36 (by decide)) (all_c (ok_stk (s_iconst dX12_drawn_39 (by decide))) (all_c (ok_iret dX12_drawn_40) (all_c (ok_aload_n dX12_drawn_41 rfl) (all_c (okc_X12_snap (by decide) kw766 dX12_drawn_42) (all_c (ok_aload_n dX12_drawn_45 rfl) (all_c (ok_iload_n dX12_drawn_46 rfl) (all_c (ok_iload_n dX12_drawn_47 rfl) (all_c (okc0_X12_drawDays (by decide) kw873 dX12_drawn_48) (all_c (ok_iret dX12_drawn_51) all_n)))))))))))))))))))))))))))))) 1000000 (fun h => by first | rfl | cases h)
theorem dX12_end_0 : decode cX12_end 0 = .ok (.aload_n 0, 1) := by decide +kernel
theorem dX12_end_1 : decode cX12_end 1 = .ok (.iconst 0, 1) := by decide +kernel
theorem dX12_end_2 : decode cX12_end 2 = .ok (.putfield 1, 3) := by decide +kernel
theorem dX12_end_5 : decode cX12_end 5 = .ok (.iload_n 1, 1) := by decide +kernel
theorem dX12_end_6 : decode cX12_end 6 = .ok (.ifCond .lt 11, 3) := by decide +kernel
theorem dX12_end_9 : decode cX12_end 9 = .ok (.iload_n 1, 1) := by decide +kernel
theorem dX12_end_10 : decode cX12_end 10 = .ok (.aload_n 0, 1) := by decide +kernel
theorem dX12_end_11 : decode cX12_end 11 = .ok (.getfield 11, 3) := by decide +kernel
theorem dX12_end_14 : decode cX12_end 14 = .ok (.if_icmp .le 5, 3) := by decide +kernel
theorem dX12_end_17 : decode cX12_end 17 = .ok (.iconst 0, 1) := by decide +kernel
theorem dX12_end_18 : decode cX12_end 18 = .ok (.ireturn, 1) := by decide +kernel
theorem dX12_end_19 : decode cX12_end 19 = .ok (.aload_n 0, 1) := by decide +kernel
theorem dX12_end_20 : decode cX12_end 20 = .ok (.iload_n 1, 1) := by decide +kernel
theorem dX12_end_21 : decode cX12_end 21 = .ok (.putfield 11, 3) := by decide +kernel
theorem dX12_end_24 : decode cX12_end 24 = .ok (.iconst 1, 1) := by decide +kernel
theorem dX12_end_25 : decode cX12_end 25 = .ok (.ireturn, 1) := by decide +kernel
def tX12_end (kn : sKn) : List (Nat × sA) := [(0, a_aload 0 1), (1, a_stk (q_int 0) 2), (2, a_put 13 0 ckI 5), (5, a_iload 1 6), (6, a_if kn b_lt 2 17 9), (9, a_iload 1 10), (10, a_aload 0 11), (11, a_get 13 2 14), (14, a_icmp kn b_le 5 19 17), (17, a_stk (q_int 0) 18), (18, a_zret), (19, a_aload 0 20), (20, a_iload 1 21), (21, a_put 13 2 ckI 24), (24, a_stk (q_int 1) 25), (25, a_zret)]
def fX12_end (kn : sKn) : List Value → sW → Option sR := mF (tX12_end kn) 2 1000000
set_option maxRecDepth 100000 in
set_option maxHeartbeats 4000000 in
theorem mX12_end (kn : sKn) : mM kn yX12_end (Cond.code yX12_end cX12_end 2 (some .boolean) :: wsL_law) 1 false (fX12_end kn) := mM_of (own := RX12) (ini := false) rfl (by decide +kernel) (by decide +kernel) (all_c (ok_aload_n dX12_end_0 rfl) (all_c (ok_stk (s_iconst dX12_end_1 (by decide))) (all_c (okp_X12_0 kw693 dX12_end_2) (all_c (ok_iload_n dX12_end_5 rfl) (all_c (ok_if_lt dX12_end_6 (by decide)) (all_c (ok_iload_n dX12_end_9 rfl) (all_c (ok_aload_n dX12_end_10 rfl) (all_c (okg_X12_2 kw751 dX12_end_11) (all_c (ok_icmp_le dX12_end_14 (by decide)) (all_c (ok_stk (s_iconst dX12_end_17 (by decide))) (all_c (ok_zret dX12_end_18) (all_c (ok_aload_n dX12_end_19 rfl) (all_c (ok_iload_n dX12_end_20 rfl) (all_c (okp_X12_2 kw751 dX12_end_21) (all_c (ok_stk (s_iconst dX12_end_24 (by decide))) (all_c (ok_zret dX12_end_25) all_n)))))))))))))))) 1000000 (fun h => by first | rfl | cases h)
theorem dX12_fault_0 : decode cX12_fault 0 = .ok (.aload_n 0, 1) := by decide +kernel
theorem dX12_fault_1 : decode cX12_fault 1 = .ok (.iconst 0, 1) := by decide +kernel
theorem dX12_fault_2 : decode cX12_fault 2 = .ok (.putfield 1, 3) := by decide +kernel
theorem dX12_fault_5 : decode cX12_fault 5 = .ok (.aload_n 0, 1) := by decide +kernel
theorem dX12_fault_6 : decode cX12_fault 6 = .ok (.getfield 66, 3) := by decide +kernel
theorem dX12_fault_9 : decode cX12_fault 9 = .ok (.ireturn, 1) := by decide +kernel
def tX12_fault (kn : sKn) : List (Nat × sA) := [(0, a_aload 0 1), (1, a_stk (q_int 0) 2), (2, a_put 13 0 ckI 5), (5, a_aload 0 6), (6, a_get 13 10 9), (9, a_iret)]
def fX12_fault (kn : sKn) : List Value → sW → Option sR := mF (tX12_fault kn) 1 1000000
set_option maxRecDepth 100000 in
set_option maxHeartbeats 4000000 in
theorem mX12_fault (kn : sKn) : mM kn yX12_fault (Cond.code yX12_fault cX12_fault 1 (some .int) :: wsL_law) 1 false (fX12_fault kn) := mM_of (own := RX12) (ini := false) rfl (by decide +kernel) (by decide +kernel) (all_c (ok_aload_n dX12_fault_0 rfl) (all_c (ok_stk (s_iconst dX12_fault_1 (by decide))) (all_c (okp_X12_0 kw693 dX12_fault_2) (all_c (ok_aload_n dX12_fault_5 rfl) (all_c (okg_X12_10 kw725 dX12_fault_6) (all_c (ok_iret dX12_fault_9) all_n)))))) 1000000 (fun h => by first | rfl | cases h)
theorem dX12_feed_0 : decode cX12_feed 0 = .ok (.aload_n 0, 1) := by decide +kernel
theorem dX12_feed_1 : decode cX12_feed 1 = .ok (.iconst 0, 1) := by decide +kernel
theorem dX12_feed_2 : decode cX12_feed 2 = .ok (.putfield 1, 3) := by decide +kernel
theorem dX12_feed_5 : decode cX12_feed 5 = .ok (.aload_n 0, 1) := by decide +kernel
theorem dX12_feed_6 : decode cX12_feed 6 = .ok (.getfield 11, 3) := by decide +kernel
theorem dX12_feed_9 : decode cX12_feed 9 = .ok (.bipush 20, 2) := by decide +kernel
theorem dX12_feed_11 : decode cX12_feed 11 = .ok (.iadd, 1) := by decide +kernel
theorem dX12_feed_12 : decode cX12_feed 12 = .ok (.sipush 940, 3) := by decide +kernel
theorem dX12_feed_15 : decode cX12_feed 15 = .ok (.if_icmp .le 5, 3) := by decide +kernel
theorem dX12_feed_18 : decode cX12_feed 18 = .ok (.iconst (-1), 1) := by decide +kernel
theorem dX12_feed_19 : decode cX12_feed 19 = .ok (.ireturn, 1) := by decide +kernel
theorem dX12_feed_20 : decode cX12_feed 20 = .ok (.aload_n 0, 1) := by decide +kernel
theorem dX12_feed_21 : decode cX12_feed 21 = .ok (.iload_n 1, 1) := by decide +kernel
theorem dX12_feed_22 : decode cX12_feed 22 = .ok (.invokevirtual 14, 3) := by decide +kernel
theorem dX12_feed_25 : decode cX12_feed 25 = .ok (.aload_n 0, 1) := by decide +kernel
theorem dX12_feed_26 : decode cX12_feed 26 = .ok (.iload_n 2, 1) := by decide +kernel
theorem dX12_feed_27 : decode cX12_feed 27 = .ok (.invokevirtual 14, 3) := by decide +kernel
theorem dX12_feed_30 : decode cX12_feed 30 = .ok (.aload_n 0, 1) := by decide +kernel
theorem dX12_feed_31 : decode cX12_feed 31 = .ok (.iload_n 3, 1) := by decide +kernel
theorem dX12_feed_32 : decode cX12_feed 32 = .ok (.invokevirtual 14, 3) := by decide +kernel
theorem dX12_feed_35 : decode cX12_feed 35 = .ok (.aload_n 0, 1) := by decide +kernel
theorem dX12_feed_36 : decode cX12_feed 36 = .ok (.iload 4, 2) := by decide +kernel
theorem dX12_feed_38 : decode cX12_feed 38 = .ok (.invokevirtual 14, 3) := by decide +kernel
theorem dX12_feed_41 : decode cX12_feed 41 = .ok (.aload_n 0, 1) := by decide +kernel
theorem dX12_feed_42 : decode cX12_feed 42 = .ok (.iload 5, 2) := by decide +kernel
theorem dX12_feed_44 : decode cX12_feed 44 = .ok (.invokevirtual 14, 3) := by decide +kernel
theorem dX12_feed_47 : decode cX12_feed 47 = .ok (.aload_n 0, 1) := by decide +kernel
theorem dX12_feed_48 : decode cX12_feed 48 = .ok (.getfield 11, 3) := by decide +kernel
theorem dX12_feed_51 : decode cX12_feed 51 = .ok (.ireturn, 1) := by decide +kernel
theorem okc_X12_come {kn : sKn} {cc : ByteArray} {own : String} {nL : Nat} {D : Nat} {ret : Option FieldType} {ini : Bool} {pc index : Nat} (hD : 1 + 1 ≤ D) (hl : Cond.methodLink own index yX12_come ∈ wsL_law) (hd : decode cc pc = .ok (.invokevirtual index, 3)) : mOk kn cc own nL wsL_law D ret ini pc (a_callV true (fX12_come kn) 13 (1 + 1) (pc + 3)) := ok_callV (mX12_come kn) (good_ws ws_good (fun _ h => h) kw874) hD (by decide) hl kw875 kw876 kw686 ⟨by decide +kernel, by decide +kernel, by decide +kernel⟩ rfl hd
def tX12_feed (kn : sKn) : List (Nat × sA) := [(0, a_aload 0 1), (1, a_stk (q_int 0) 2), (2, a_put 13 0 ckI 5), (5, a_aload 0 6), (6, a_get 13 2 9), (9, a_stk (q_int 20) 11), (11, a_stk q_iadd 12), (12, a_stk (q_int 940) 15), (15, a_icmp kn b_le 5 20 18), (18, a_stk (q_int (-1)) 19), (19, a_iret), (20, a_aload 0 21), (21, a_iload 1 22), (22, a_callV true (fX12_come kn) 13 2 25), (25, a_aload 0 26), (26, a_iload 2 27), (27, a_callV true (fX12_come kn) 13 2 30), (30, a_aload 0 31), (31, a_iload 3 32), (32, a_callV true (fX12_come kn) 13 2 35), (35, a_aload 0 36), (36, a_iload 4 38), (38, a_callV true (fX12_come kn) 13 2 41), (41, a_aload 0 42), (42, a_iload 5 44), (44, a_callV true (fX12_come kn) 13 2 47), (47, a_aload 0 48), (48, a_get 13 2 51), (51, a_iret)]
def fX12_feed (kn : sKn) : List Value → sW → Option sR := mF (tX12_feed kn) 6 1000000
set_option maxRecDepth 100000 in
set_option maxHeartbeats 4000000 in
theorem mX12_feed (kn : sKn) : mM kn yX12_feed (Cond.code yX12_feed cX12_feed 6 (some .int) :: wsL_law) 2 false (fX12_feed kn) := mM_of (own := RX12) (ini := false) rfl (by decide +kernel) (by decide +kernel) (all_c (ok_aload_n dX12_feed_0 rfl) (all_c (ok_stk (s_iconst dX12_feed_1 (by decide))) (all_c (okp_X12_0 kw693 dX12_feed_2) (all_c (ok_aload_n dX12_feed_5 rfl) (all_c (okg_X12_2 kw751 dX12_feed_6) (all_c (ok_stk (s_bipush dX12_feed_9 (by decide))) (all_c (ok_stk (s_iadd dX12_feed_11)) (all_c (ok_stk (s_sipush dX12_feed_12 (by decide))) (all_c (ok_icmp_le dX12_feed_15 (by decide)) (all_c (ok_stk (s_iconst dX12_feed_18 (by decide))) (all_c (ok_iret dX12_feed_19) (all_c (ok_aload_n dX12_feed_20 rfl) (all_c (ok_iload_n dX12_feed_21 rfl) (all_c (okc_X12_come (by decide) kw877 dX12_feed_22) (all_c (ok_aload_n dX12_feed_25 rfl) (all_c (ok_iload_n dX12_feed_26 rfl) (all_c (okc_X12_come (by decide) kw877 dX12_feed_27) (all_c (ok_aload_n dX12_feed_30 rfl) (all_c (ok_iload_n dX12_feed_31 rfl) (all_c (okc_X12_come (by decide) kw877 dX12_feed_32) (all_c (ok_aload_n dX12_feed_35 rfl) (all_c (ok_iload dX12_feed_36) (all_c (okc_X12_come (by decide) kw877 dX12_feed_38) (all_c (ok_aload_n dX12_feed_41 rfl) (all_c (ok_iload dX12_feed_42) (all_c (okc_X12_come (by decide) kw877 dX12_feed_44) (all_c (ok_aload_n dX12_feed_47 rfl) (all_c (okg_X12_2 kw751 dX12_feed_48) (all_c (ok_iret dX12_feed_51) all_n))))))))))))))))))))))))))))) 1000000 (fun h => by first | rfl | cases h)
theorem dX12_size_0 : decode cX12_size 0 = .ok (.iload_n 0, 1) := by decide +kernel
theorem dX12_size_1 : decode cX12_size 1 = .ok (.ifCond .ge 8, 3) := by decide +kernel
theorem dX12_size_4 : decode cX12_size 4 = .ok (.iload_n 0, 1) := by decide +kernel
theorem dX12_size_5 : decode cX12_size 5 = .ok (.ineg, 1) := by decide +kernel
theorem dX12_size_6 : decode cX12_size 6 = .ok (.goto 4, 3) := by decide +kernel
theorem dX12_size_9 : decode cX12_size 9 = .ok (.iload_n 0, 1) := by decide +kernel
theorem dX12_size_10 : decode cX12_size 10 = .ok (.ireturn, 1) := by decide +kernel
def tX12_size (kn : sKn) : List (Nat × sA) := [(0, a_iload 0 1), (1, a_if kn b_ge 3 9 4), (4, a_iload 0 5), (5, a_stk q_ineg 6), (6, a_goto 10), (9, a_iload 0 10), (10, a_iret)]
def fX12_size (kn : sKn) : List Value → sW → Option sR := mF (tX12_size kn) 1 1000000
set_option maxRecDepth 100000 in
set_option maxHeartbeats 4000000 in
theorem mX12_size (kn : sKn) : mM kn yX12_size (Cond.code yX12_size cX12_size 1 (some .int) :: wsL_law) 1 false (fX12_size kn) := mM_of (own := RX12) (ini := false) rfl (by decide +kernel) (by decide +kernel) (all_c (ok_iload_n dX12_size_0 rfl) (all_c (ok_if_ge dX12_size_1 (by decide)) (all_c (ok_iload_n dX12_size_4 rfl) (all_c (ok_stk (s_ineg dX12_size_5)) (all_c (ok_goto dX12_size_6 (by decide)) (all_c (ok_iload_n dX12_size_9 rfl) (all_c (ok_iret dX12_size_10) all_n))))))) 1000000 (fun h => by first | rfl | cases h)
theorem dX12_forgers_0 : decode cX12_forgers 0 = .ok (.aload_n 0, 1) := by decide +kernel
theorem dX12_forgers_1 : decode cX12_forgers 1 = .ok (.iconst 0, 1) := by decide +kernel
theorem dX12_forgers_2 : decode cX12_forgers 2 = .ok (.putfield 1, 3) := by decide +kernel
theorem dX12_forgers_5 : decode cX12_forgers 5 = .ok (.aload_n 0, 1) := by decide +kernel
theorem dX12_forgers_6 : decode cX12_forgers 6 = .ok (.invokevirtual 89, 3) := by decide +kernel
theorem dX12_forgers_9 : decode cX12_forgers 9 = .ok (.istore_n 1, 1) := by decide +kernel
theorem dX12_forgers_10 : decode cX12_forgers 10 = .ok (.iload_n 1, 1) := by decide +kernel
theorem dX12_forgers_11 : decode cX12_forgers 11 = .ok (.iconst 2, 1) := by decide +kernel
theorem dX12_forgers_12 : decode cX12_forgers 12 = .ok (.irem, 1) := by decide +kernel
theorem dX12_forgers_13 : decode cX12_forgers 13 = .ok (.ifCond .ne 15, 3) := by decide +kernel
theorem dX12_forgers_16 : decode cX12_forgers 16 = .ok (.iload_n 1, 1) := by decide +kernel
theorem dX12_forgers_17 : decode cX12_forgers 17 = .ok (.iconst 2, 1) := by decide +kernel
theorem dX12_forgers_18 : decode cX12_forgers 18 = .ok (.idiv, 1) := by decide +kernel
theorem dX12_forgers_19 : decode cX12_forgers 19 = .ok (.iconst 1, 1) := by decide +kernel
theorem dX12_forgers_20 : decode cX12_forgers 20 = .ok (.bipush 6, 2) := by decide +kernel
theorem dX12_forgers_22 : decode cX12_forgers 22 = .ok (.invokestatic 75, 3) := by decide +kernel
theorem dX12_forgers_25 : decode cX12_forgers 25 = .ok (.ifCond .ne 5, 3) := by decide +kernel
theorem dX12_forgers_28 : decode cX12_forgers 28 = .ok (.iconst (-1), 1) := by decide +kernel
theorem dX12_forgers_29 : decode cX12_forgers 29 = .ok (.ireturn, 1) := by decide +kernel
theorem dX12_forgers_30 : decode cX12_forgers 30 = .ok (.iconst 0, 1) := by decide +kernel
theorem dX12_forgers_31 : decode cX12_forgers 31 = .ok (.istore_n 2, 1) := by decide +kernel
theorem dX12_forgers_32 : decode cX12_forgers 32 = .ok (.iload_n 2, 1) := by decide +kernel
theorem dX12_forgers_33 : decode cX12_forgers 33 = .ok (.iload_n 1, 1) := by decide +kernel
theorem dX12_forgers_34 : decode cX12_forgers 34 = .ok (.if_icmp .ge 36, 3) := by decide +kernel
theorem dX12_forgers_37 : decode cX12_forgers 37 = .ok (.aload_n 0, 1) := by decide +kernel
theorem dX12_forgers_38 : decode cX12_forgers 38 = .ok (.aload_n 0, 1) := by decide +kernel
theorem dX12_forgers_39 : decode cX12_forgers 39 = .ok (.getfield 7, 3) := by decide +kernel
theorem dX12_forgers_42 : decode cX12_forgers 42 = .ok (.iload_n 2, 1) := by decide +kernel
theorem dX12_forgers_43 : decode cX12_forgers 43 = .ok (.iaload, 1) := by decide +kernel
theorem dX12_forgers_44 : decode cX12_forgers 44 = .ok (.invokevirtual 295, 3) := by decide +kernel
theorem dX12_forgers_47 : decode cX12_forgers 47 = .ok (.ifCond .eq 15, 3) := by decide +kernel
theorem dX12_forgers_50 : decode cX12_forgers 50 = .ok (.aload_n 0, 1) := by decide +kernel
theorem dX12_forgers_51 : decode cX12_forgers 51 = .ok (.getfield 7, 3) := by decide +kernel
theorem dX12_forgers_54 : decode cX12_forgers 54 = .ok (.iload_n 2, 1) := by decide +kernel
theorem dX12_forgers_55 : decode cX12_forgers 55 = .ok (.iconst 1, 1) := by decide +kernel
theorem dX12_forgers_56 : decode cX12_forgers 56 = .ok (.iadd, 1) := by decide +kernel
theorem dX12_forgers_57 : decode cX12_forgers 57 = .ok (.iaload, 1) := by decide +kernel
theorem dX12_forgers_58 : decode cX12_forgers 58 = .ok (.iconst 1, 1) := by decide +kernel
theorem dX12_forgers_59 : decode cX12_forgers 59 = .ok (.if_icmp .le 5, 3) := by decide +kernel
theorem dX12_forgers_62 : decode cX12_forgers 62 = .ok (.iconst (-1), 1) := by decide +kernel
theorem dX12_forgers_63 : decode cX12_forgers 63 = .ok (.ireturn, 1) := by decide +kernel
theorem dX12_forgers_64 : decode cX12_forgers 64 = .ok (.iinc 2 2, 3) := by decide +kernel
theorem dX12_forgers_67 : decode cX12_forgers 67 = .ok (.goto (-35), 3) := by decide +kernel
theorem dX12_forgers_70 : decode cX12_forgers 70 = .ok (.aload_n 0, 1) := by decide +kernel
theorem dX12_forgers_71 : decode cX12_forgers 71 = .ok (.invokevirtual 292, 3) := by decide +kernel
theorem dX12_forgers_74 : decode cX12_forgers 74 = .ok (.iconst 0, 1) := by decide +kernel
theorem dX12_forgers_75 : decode cX12_forgers 75 = .ok (.istore_n 2, 1) := by decide +kernel
theorem dX12_forgers_76 : decode cX12_forgers 76 = .ok (.iconst 1, 1) := by decide +kernel
theorem dX12_forgers_77 : decode cX12_forgers 77 = .ok (.aload_n 0, 1) := by decide +kernel
theorem dX12_forgers_78 : decode cX12_forgers 78 = .ok (.getfield 98, 3) := by decide +kernel
theorem dX12_forgers_81 : decode cX12_forgers 81 = .ok (.iconst 1, 1) := by decide +kernel
theorem dX12_forgers_82 : decode cX12_forgers 82 = .ok (.iaload, 1) := by decide +kernel
theorem dX12_forgers_83 : decode cX12_forgers 83 = .ok (.ishl, 1) := by decide +kernel
theorem dX12_forgers_84 : decode cX12_forgers 84 = .ok (.iconst 1, 1) := by decide +kernel
theorem dX12_forgers_85 : decode cX12_forgers 85 = .ok (.isub, 1) := by decide +kernel
theorem dX12_forgers_86 : decode cX12_forgers 86 = .ok (.istore_n 3, 1) := by decide +kernel
theorem dX12_forgers_87 : decode cX12_forgers 87 = .ok (.iconst 0, 1) := by decide +kernel
theorem dX12_forgers_88 : decode cX12_forgers 88 = .ok (.istore 4, 2) := by decide +kernel
theorem dX12_forgers_90 : decode cX12_forgers 90 = .ok (.iload 4, 2) := by decide +kernel
theorem dX12_forgers_92 : decode cX12_forgers 92 = .ok (.bipush 6, 2) := by decide +kernel
theorem dX12_forgers_94 : decode cX12_forgers 94 = .ok (.if_icmp .ge 17, 3) := by decide +kernel
theorem dX12_forgers_97 : decode cX12_forgers 97 = .ok (.aload_n 0, 1) := by decide +kernel
theorem dX12_forgers_98 : decode cX12_forgers 98 = .ok (.getfield 163, 3) := by decide +kernel
theorem dX12_forgers_101 : decode cX12_forgers 101 = .ok (.iload 4, 2) := by decide +kernel
theorem dX12_forgers_103 : decode cX12_forgers 103 = .ok (.iconst 0, 1) := by decide +kernel
theorem dX12_forgers_104 : decode cX12_forgers 104 = .ok (.iastore, 1) := by decide +kernel
theorem dX12_forgers_105 : decode cX12_forgers 105 = .ok (.iinc 4 1, 3) := by decide +kernel
theorem dX12_forgers_108 : decode cX12_forgers 108 = .ok (.goto (-18), 3) := by decide +kernel
theorem dX12_forgers_111 : decode cX12_forgers 111 = .ok (.iconst 0, 1) := by decide +kernel
theorem dX12_forgers_112 : decode cX12_forgers 112 = .ok (.istore 4, 2) := by decide +kernel
theorem dX12_forgers_114 : decode cX12_forgers 114 = .ok (.iload 4, 2) := by decide +kernel
theorem dX12_forgers_116 : decode cX12_forgers 116 = .ok (.iconst 1, 1) := by decide +kernel
theorem dX12_forgers_117 : decode cX12_forgers 117 = .ok (.aload_n 0, 1) := by decide +kernel
theorem dX12_forgers_118 : decode cX12_forgers 118 = .ok (.getfield 98, 3) := by decide +kernel
theorem dX12_forgers_121 : decode cX12_forgers 121 = .ok (.iconst 1, 1) := by decide +kernel
theorem dX12_forgers_122 : decode cX12_forgers 122 = .ok (.iaload, 1) := by decide +kernel
theorem dX12_forgers_123 : decode cX12_forgers 123 = .ok (.ishl, 1) := by decide +kernel
theorem dX12_forgers_124 : decode cX12_forgers 124 = .ok (.if_icmp .ge 137, 3) := by decide +kernel
theorem dX12_forgers_127 : decode cX12_forgers 127 = .ok (.aload_n 0, 1) := by decide +kernel
theorem dX12_forgers_128 : decode cX12_forgers 128 = .ok (.iload 4, 2) := by decide +kernel
theorem dX12_forgers_130 : decode cX12_forgers 130 = .ok (.putfield 267, 3) := by decide +kernel
theorem dX12_forgers_133 : decode cX12_forgers 133 = .ok (.aload_n 0, 1) := by decide +kernel
theorem dX12_forgers_134 : decode cX12_forgers 134 = .ok (.invokevirtual 406, 3) := by decide +kernel
theorem dX12_forgers_137 : decode cX12_forgers 137 = .ok (.istore 5, 2) := by decide +kernel
theorem dX12_forgers_139 : decode cX12_forgers 139 = .ok (.iconst 1, 1) := by decide +kernel
theorem dX12_forgers_140 : decode cX12_forgers 140 = .ok (.istore 6, 2) := by decide +kernel
theorem dX12_forgers_142 : decode cX12_forgers 142 = .ok (.iconst 0, 1) := by decide +kernel
theorem dX12_forgers_143 : decode cX12_forgers 143 = .ok (.istore 7, 2) := by decide +kernel
theorem dX12_forgers_145 : decode cX12_forgers 145 = .ok (.iload 7, 2) := by decide +kernel
theorem dX12_forgers_147 : decode cX12_forgers 147 = .ok (.iload_n 1, 1) := by decide +kernel
theorem dX12_forgers_148 : decode cX12_forgers 148 = .ok (.if_icmp .ge 54, 3) := by decide +kernel
theorem dX12_forgers_151 : decode cX12_forgers 151 = .ok (.iload 6, 2) := by decide +kernel
theorem dX12_forgers_153 : decode cX12_forgers 153 = .ok (.ifCond .eq 40, 3) := by decide +kernel
theorem dX12_forgers_156 : decode cX12_forgers 156 = .ok (.iload 5, 2) := by decide +kernel
theorem dX12_forgers_158 : decode cX12_forgers 158 = .ok (.aload_n 0, 1) := by decide +kernel
theorem dX12_forgers_159 : decode cX12_forgers 159 = .ok (.getfield 7, 3) := by decide +kernel
theorem dX12_forgers_162 : decode cX12_forgers 162 = .ok (.iload 7, 2) := by decide +kernel
theorem dX12_forgers_164 : decode cX12_forgers 164 = .ok (.iaload, 1) := by decide +kernel
theorem dX12_forgers_165 : decode cX12_forgers 165 = .ok (.invokestatic 225, 3) := by decide +kernel
theorem dX12_forgers_168 : decode cX12_forgers 168 = .ok (.aload_n 0, 1) := by decide +kernel
theorem dX12_forgers_169 : decode cX12_forgers 169 = .ok (.getfield 7, 3) := by decide +kernel
theorem dX12_forgers_172 : decode cX12_forgers 172 = .ok (.iload 7, 2) := by decide +kernel
theorem dX12_forgers_174 : decode cX12_forgers 174 = .ok (.iconst 1, 1) := by decide +kernel
theorem dX12_forgers_175 : decode cX12_forgers 175 = .ok (.iadd, 1) := by decide +kernel
theorem dX12_forgers_176 : decode cX12_forgers 176 = .ok (.iaload, 1) := by decide +kernel
theorem dX12_forgers_177 : decode cX12_forgers 177 = .ok (.iconst 1, 1) := by decide +kernel
theorem dX12_forgers_178 : decode cX12_forgers 178 = .ok (.if_icmp .ne 7, 3) := by decide +kernel
theorem dX12_forgers_181 : decode cX12_forgers 181 = .ok (.iconst 1, 1) := by decide +kernel
theorem dX12_forgers_182 : decode cX12_forgers 182 = .ok (.goto 4, 3) := by decide +kernel
theorem dX12_forgers_185 : decode cX12_forgers 185 = .ok (.iconst 0, 1) := by decide +kernel
theorem dX12_forgers_186 : decode cX12_forgers 186 = .ok (.if_icmp .ne 7, 3) := by decide +kernel
theorem dX12_forgers_189 : decode cX12_forgers 189 = .ok (.iconst 1, 1) := by decide +kernel
theorem dX12_forgers_190 : decode cX12_forgers 190 = .ok (.goto 4, 3) := by decide +kernel
theorem dX12_forgers_193 : decode cX12_forgers 193 = .ok (.iconst 0, 1) := by decide +kernel
theorem dX12_forgers_194 : decode cX12_forgers 194 = .ok (.istore 6, 2) := by decide +kernel
theorem dX12_forgers_196 : decode cX12_forgers 196 = .ok (.iinc 7 2, 3) := by decide +kernel
theorem dX12_forgers_199 : decode cX12_forgers 199 = .ok (.goto (-54), 3) := by decide +kernel
theorem dX12_forgers_202 : decode cX12_forgers 202 = .ok (.iload 6, 2) := by decide +kernel
theorem dX12_forgers_204 : decode cX12_forgers 204 = .ok (.ifCond .ne 6, 3) := by decide +kernel
theorem dX12_forgers_207 : decode cX12_forgers 207 = .ok (.goto 48, 3) := by decide +kernel
theorem dX12_forgers_210 : decode cX12_forgers 210 = .ok (.iinc 2 1, 3) := by decide +kernel
theorem dX12_forgers_213 : decode cX12_forgers 213 = .ok (.iload_n 3, 1) := by decide +kernel
theorem dX12_forgers_214 : decode cX12_forgers 214 = .ok (.iload 4, 2) := by decide +kernel
theorem dX12_forgers_216 : decode cX12_forgers 216 = .ok (.iand, 1) := by decide +kernel
theorem dX12_forgers_217 : decode cX12_forgers 217 = .ok (.istore_n 3, 1) := by decide +kernel
theorem dX12_forgers_218 : decode cX12_forgers 218 = .ok (.iconst 0, 1) := by decide +kernel
theorem dX12_forgers_219 : decode cX12_forgers 219 = .ok (.istore 7, 2) := by decide +kernel
theorem dX12_forgers_221 : decode cX12_forgers 221 = .ok (.iload 7, 2) := by decide +kernel
theorem dX12_forgers_223 : decode cX12_forgers 223 = .ok (.bipush 6, 2) := by decide +kernel
theorem dX12_forgers_225 : decode cX12_forgers 225 = .ok (.if_icmp .ge 30, 3) := by decide +kernel
theorem dX12_forgers_228 : decode cX12_forgers 228 = .ok (.iload 5, 2) := by decide +kernel
theorem dX12_forgers_230 : decode cX12_forgers 230 = .ok (.iload 7, 2) := by decide +kernel
theorem dX12_forgers_232 : decode cX12_forgers 232 = .ok (.invokestatic 225, 3) := by decide +kernel
theorem dX12_forgers_235 : decode cX12_forgers 235 = .ok (.ifCond .eq 14, 3) := by decide +kernel
theorem dX12_forgers_238 : decode cX12_forgers 238 = .ok (.aload_n 0, 1) := by decide +kernel
theorem dX12_forgers_239 : decode cX12_forgers 239 = .ok (.getfield 163, 3) := by decide +kernel
theorem dX12_forgers_242 : decode cX12_forgers 242 = .ok (.iload 7, 2) := by decide +kernel
theorem dX12_forgers_244 : decode cX12_forgers 244 = .ok (.dup2, 1) := by decide +kernel
theorem dX12_forgers_245 : decode cX12_forgers 245 = .ok (.iaload, 1) := by decide +kernel
theorem dX12_forgers_246 : decode cX12_forgers 246 = .ok (.iconst 1, 1) := by decide +kernel
theorem dX12_forgers_247 : decode cX12_forgers 247 = .ok (.iadd, 1) := by decide +kernel
theorem dX12_forgers_248 : decode cX12_forgers 248 = .ok (.iastore, 1) := by decide +kernel
theorem dX12_forgers_249 : decode cX12_forgers 249 = .ok (.iinc 7 1, 3) := by decide +kernel
theorem dX12_forgers_252 : decode cX12_forgers 252 = .ok (.goto (-31), 3) := by decide +kernel
theorem dX12_forgers_255 : decode cX12_forgers 255 = .ok (.iinc 4 1, 3) := by decide +kernel
theorem dX12_forgers_258 : decode cX12_forgers 258 = .ok (.goto (-144), 3) := by decide +kernel
theorem dX12_forgers_261 : decode cX12_forgers 261 = .ok (.iload_n 2, 1) := by decide +kernel
theorem dX12_forgers_262 : decode cX12_forgers 262 = .ok (.ifCond .ne 5, 3) := by decide +kernel
theorem dX12_forgers_265 : decode cX12_forgers 265 = .ok (.iconst 0, 1) := by decide +kernel
theorem dX12_forgers_266 : decode cX12_forgers 266 = .ok (.ireturn, 1) := by decide +kernel
theorem dX12_forgers_267 : decode cX12_forgers 267 = .ok (.aload_n 0, 1) := by decide +kernel
theorem dX12_forgers_268 : decode cX12_forgers 268 = .ok (.iload_n 3, 1) := by decide +kernel
theorem dX12_forgers_269 : decode cX12_forgers 269 = .ok (.putfield 166, 3) := by decide +kernel
theorem dX12_forgers_272 : decode cX12_forgers 272 = .ok (.aload_n 0, 1) := by decide +kernel
theorem dX12_forgers_273 : decode cX12_forgers 273 = .ok (.iconst (-1), 1) := by decide +kernel
theorem dX12_forgers_274 : decode cX12_forgers 274 = .ok (.putfield 169, 3) := by decide +kernel
theorem dX12_forgers_277 : decode cX12_forgers 277 = .ok (.ldc_w 308, 3) := by decide +kernel
theorem dX12_forgers_280 : decode cX12_forgers 280 = .ok (.istore 4, 2) := by decide +kernel
theorem dX12_forgers_282 : decode cX12_forgers 282 = .ok (.iconst 0, 1) := by decide +kernel
theorem dX12_forgers_283 : decode cX12_forgers 283 = .ok (.istore 5, 2) := by decide +kernel
theorem dX12_forgers_285 : decode cX12_forgers 285 = .ok (.iload 5, 2) := by decide +kernel
theorem dX12_forgers_287 : decode cX12_forgers 287 = .ok (.aload_n 0, 1) := by decide +kernel
theorem dX12_forgers_288 : decode cX12_forgers 288 = .ok (.getfield 98, 3) := by decide +kernel
theorem dX12_forgers_291 : decode cX12_forgers 291 = .ok (.iconst 2, 1) := by decide +kernel
theorem dX12_forgers_292 : decode cX12_forgers 292 = .ok (.iaload, 1) := by decide +kernel
theorem dX12_forgers_293 : decode cX12_forgers 293 = .ok (.if_icmp .ge 45, 3) := by decide +kernel
theorem dX12_forgers_296 : decode cX12_forgers 296 = .ok (.iconst 2, 1) := by decide +kernel
theorem dX12_forgers_297 : decode cX12_forgers 297 = .ok (.aload_n 0, 1) := by decide +kernel
theorem dX12_forgers_298 : decode cX12_forgers 298 = .ok (.getfield 163, 3) := by decide +kernel
theorem dX12_forgers_301 : decode cX12_forgers 301 = .ok (.iload 5, 2) := by decide +kernel
theorem dX12_forgers_303 : decode cX12_forgers 303 = .ok (.iaload, 1) := by decide +kernel
theorem dX12_forgers_304 : decode cX12_forgers 304 = .ok (.imul, 1) := by decide +kernel
theorem dX12_forgers_305 : decode cX12_forgers 305 = .ok (.iload_n 2, 1) := by decide +kernel
theorem dX12_forgers_306 : decode cX12_forgers 306 = .ok (.isub, 1) := by decide +kernel
theorem dX12_forgers_307 : decode cX12_forgers 307 = .ok (.invokestatic 302, 3) := by decide +kernel
theorem dX12_forgers_310 : decode cX12_forgers 310 = .ok (.istore 6, 2) := by decide +kernel
theorem dX12_forgers_312 : decode cX12_forgers 312 = .ok (.iload 6, 2) := by decide +kernel
theorem dX12_forgers_314 : decode cX12_forgers 314 = .ok (.iload 4, 2) := by decide +kernel
theorem dX12_forgers_316 : decode cX12_forgers 316 = .ok (.if_icmp .lt 6, 3) := by decide +kernel
theorem dX12_forgers_319 : decode cX12_forgers 319 = .ok (.goto 13, 3) := by decide +kernel
theorem dX12_forgers_322 : decode cX12_forgers 322 = .ok (.iload 6, 2) := by decide +kernel
theorem dX12_forgers_324 : decode cX12_forgers 324 = .ok (.istore 4, 2) := by decide +kernel
theorem dX12_forgers_326 : decode cX12_forgers 326 = .ok (.aload_n 0, 1) := by decide +kernel
theorem dX12_forgers_327 : decode cX12_forgers 327 = .ok (.iload 5, 2) := by decide +kernel
theorem dX12_forgers_329 : decode cX12_forgers 329 = .ok (.putfield 169, 3) := by decide +kernel
theorem dX12_forgers_332 : decode cX12_forgers 332 = .ok (.iinc 5 1, 3) := by decide +kernel
theorem dX12_forgers_335 : decode cX12_forgers 335 = .ok (.goto (-50), 3) := by decide +kernel
theorem dX12_forgers_338 : decode cX12_forgers 338 = .ok (.iload_n 2, 1) := by decide +kernel
theorem dX12_forgers_339 : decode cX12_forgers 339 = .ok (.ireturn, 1) := by decide +kernel
theorem okc0_X12_loadsOver {kn : sKn} {cc : ByteArray} {own : String} {nL : Nat} {D : Nat} {ret : Option FieldType} {ini : Bool} {pc index : Nat} (hD : 0 + 1 ≤ D) (hl : Cond.methodLink own index yX12_loadsOver ∈ wsL_law) (hd : decode cc pc = .ok (.invokevirtual index, 3)) : mOk kn cc own nL wsL_law D ret ini pc (a_callV false f_none 13 (0 + 1) (pc + 3)) := ok_callV (m_none (D := 0)) (good_ws ws_good (fun _ h => h) kw879) hD (by decide) hl kw880 kw881 kw686 ⟨by decide +kernel, by decide +kernel, by decide +kernel⟩ rfl hd
theorem okc_X12_size {kn : sKn} {cc : ByteArray} {own : String} {nL : Nat} {D : Nat} {ret : Option FieldType} {ini : Bool} {pc index : Nat} (hD : 1 + 1 ≤ D) (hl : Cond.methodLink own index yX12_size ∈ wsL_law) (hd : decode cc pc = .ok (.invokestatic index, 3)) : mOk kn cc own nL wsL_law D ret ini pc (a_callS false (fX12_size kn) 1 (pc + 3)) := ok_callS (mX12_size kn) (good_ws ws_good (fun _ h => h) kw885) hD (by decide) hl kw886 kw686 ⟨by decide +kernel, by decide +kernel, by decide +kernel⟩ hd
def tX12_forgers (kn : sKn) : List (Nat × sA) := [(0, a_aload 0 1), (1, a_stk (q_int 0) 2), (2, a_put 13 0 ckI 5), (5, a_aload 0 6), (6, a_callV false (fX12_take kn) 13 1 9), (9, a_istore 1 10), (10, a_iload 1 11), (11, a_stk (q_int 2) 12), (12, a_stk q_irem 13), (13, a_if kn b_ne 1 28 16), (16, a_iload 1 17), (17, a_stk (q_int 2) 18), (18, a_stk q_idiv 19), (19, a_stk (q_int 1) 20), (20, a_stk (q_int 6) 22), (22, a_callS false (fX12_isIn kn) 3 25), (25, a_if kn b_ne 1 30 28), (28, a_stk (q_int (-1)) 29), (29, a_iret), (30, a_stk (q_int 0) 31), (31, a_istore 2 32), (32, a_iload 2 33), (33, a_iload 1 34), (34, a_icmp kn b_ge 3 70 37), (37, a_aload 0 38), (38, a_aload 0 39), (39, a_get 13 1 42), (42, a_iload 2 43), (43, a_iald 44), (44, a_callV false (fX12_isLoad kn) 13 2 47), (47, a_if kn b_eq 0 62 50), (50, a_aload 0 51), (51, a_get 13 1 54), (54, a_iload 2 55), (55, a_stk (q_int 1) 56), (56, a_stk q_iadd 57), (57, a_iald 58), (58, a_stk (q_int 1) 59), (59, a_icmp kn b_le 5 64 62), (62, a_stk (q_int (-1)) 63), (63, a_iret), (64, a_iinc 2 2 67), (67, a_goto 32), (70, a_aload 0 71), (71, a_callV true (fX12_layWhose kn) 13 1 74), (74, a_stk (q_int 0) 75), (75, a_istore 2 76), (76, a_stk (q_int 1) 77), (77, a_aload 0 78), (78, a_get 13 14 81), (81, a_stk (q_int 1) 82), (82, a_iald 83), (83, a_stk q_ishl 84), (84, a_stk (q_int 1) 85), (85, a_stk q_isub 86), (86, a_istore 3 87), (87, a_stk (q_int 0) 88), (88, a_istore 4 90), (90, a_iload 4 92), (92, a_stk (q_int 6) 94), (94, a_icmp kn b_ge 3 111 97), (97, a_aload 0 98), (98, a_get 13 45 101), (101, a_iload 4 103), (103, a_stk (q_int 0) 104), (104, a_iast 105), (105, a_iinc 4 1 108), (108, a_goto 90), (111, a_stk (q_int 0) 112), (112, a_istore 4 114), (114, a_iload 4 116), (116, a_stk (q_int 1) 117), (117, a_aload 0 118), (118, a_get 13 14 121), (121, a_stk (q_int 1) 122), (122, a_iald 123), (123, a_stk q_ishl 124), (124, a_icmp kn b_ge 3 261 127), (127, a_aload 0 128), (128, a_iload 4 130), (130, a_put 13 28 ckI 133), (133, a_aload 0 134), (134, a_callV false f_none 13 1 137), (137, a_istore 5 139), (139, a_stk (q_int 1) 140), (140, a_istore 6 142), (142, a_stk (q_int 0) 143), (143, a_istore 7 145), (145, a_iload 7 147), (147, a_iload 1 148), (148, a_icmp kn b_ge 3 202 151), (151, a_iload 6 153), (153, a_if kn b_eq 0 193 156), (156, a_iload 5 158), (158, a_aload 0 159), (159, a_get 13 1 162), (162, a_iload 7 164), (164, a_iald 165), (165, a_callS false f_none 2 168), (168, a_aload 0 169), (169, a_get 13 1 172), (172, a_iload 7 174), (174, a_stk (q_int 1) 175), (175, a_stk q_iadd 176), (176, a_iald 177), (177, a_stk (q_int 1) 178), (178, a_icmp kn b_ne 1 185 181), (181, a_stk (q_int 1) 182), (182, a_goto 186), (185, a_stk (q_int 0) 186), (186, a_icmp kn b_ne 1 193 189), (189, a_stk (q_int 1) 190), (190, a_goto 194), (193, a_stk (q_int 0) 194), (194, a_istore 6 196), (196, a_iinc 7 2 199), (199, a_goto 145), (202, a_iload 6 204), (204, a_if kn b_ne 1 210 207), (207, a_goto 255), (210, a_iinc 2 1 213), (213, a_iload 3 214), (214, a_iload 4 216), (216, a_stk q_iand 217), (217, a_istore 3 218), (218, a_stk (q_int 0) 219), (219, a_istore 7 221), (221, a_iload 7 223), (223, a_stk (q_int 6) 225), (225, a_icmp kn b_ge 3 255 228), (228, a_iload 5 230), (230, a_iload 7 232), (232, a_callS false f_none 2 235), (235, a_if kn b_eq 0 249 238), (238, a_aload 0 239), (239, a_get 13 45 242), (242, a_iload 7 244), (244, a_stk q_dup2 245), (245, a_iald 246), (246, a_stk (q_int 1) 247), (247, a_stk q_iadd 248), (248, a_iast 249), (249, a_iinc 7 1 252), (252, a_goto 221), (255, a_iinc 4 1 258), (258, a_goto 114), (261, a_iload 2 262), (262, a_if kn b_ne 1 267 265), (265, a_stk (q_int 0) 266), (266, a_iret), (267, a_aload 0 268), (268, a_iload 3 269), (269, a_put 13 46 ckI 272), (272, a_aload 0 273), (273, a_stk (q_int (-1)) 274), (274, a_put 13 47 ckI 277), (277, a_stk (q_int (100000)) 280), (280, a_istore 4 282), (282, a_stk (q_int 0) 283), (283, a_istore 5 285), (285, a_iload 5 287), (287, a_aload 0 288), (288, a_get 13 14 291), (291, a_stk (q_int 2) 292), (292, a_iald 293), (293, a_icmp kn b_ge 3 338 296), (296, a_stk (q_int 2) 297), (297, a_aload 0 298), (298, a_get 13 45 301), (301, a_iload 5 303), (303, a_iald 304), (304, a_stk q_imul 305), (305, a_iload 2 306), (306, a_stk q_isub 307), (307, a_callS false (fX12_size kn) 1 310), (310, a_istore 6 312), (312, a_iload 6 314), (314, a_iload 4 316), (316, a_icmp kn b_lt 2 322 319), (319, a_goto 332), (322, a_iload 6 324), (324, a_istore 4 326), (326, a_aload 0 327), (327, a_iload 5 329), (329, a_put 13 47 ckI 332), (332, a_iinc 5 1 335), (335, a_goto 285), (338, a_iload 2 339), (339, a_iret)]
def fX12_forgers (kn : sKn) : List Value → sW → Option sR := mF (tX12_forgers kn) 8 1000000
set_option maxRecDepth 100000 in
set_option maxHeartbeats 4000000 in
theorem mX12_forgers (kn : sKn) : mM kn yX12_forgers (Cond.code yX12_forgers cX12_forgers 8 (some .int) :: wsL_law) 3 false (fX12_forgers kn) := mM_of (own := RX12) (ini := false) rfl (by decide +kernel) (by decide +kernel) (all_c (ok_aload_n dX12_forgers_0 rfl) (all_c (ok_stk (s_iconst dX12_forgers_1 (by decide))) (all_c (okp_X12_0 kw693 dX12_forgers_2) (all_c (ok_aload_n dX12_forgers_5 rfl) (all_c (okc_X12_take (by decide) kw755 dX12_forgers_6) (all_c (ok_istore_n dX12_forgers_9 rfl (by decide)) (all_c (ok_iload_n dX12_forgers_10 rfl) (all_c (ok_stk (s_iconst dX12_forgers_11 (by decide))) (all_c (ok_stk (s_irem dX12_forgers_12)) (all_c (ok_if_ne dX12_forgers_13 (by decide)) (all_c (ok_iload_n dX12_forgers_16 rfl) (all_c (ok_stk (s_iconst dX12_forgers_17 (by decide))) (all_c (ok_stk (s_idiv dX12_forgers_18)) (all_c (ok_stk (s_iconst dX12_forgers_19 (by decide))) (all_c (ok_stk (s_bipush dX12_forgers_20 (by decide))) (all_c (okc_X12_isIn (by decide) kw705 dX12_forgers_22) (all_c (ok_if_ne dX12_forgers_25 (by decide)) (all_c (ok_stk (s_iconst dX12_forgers_28 (by decide))) (all_c (ok_iret dX12_forgers_29) (all_c (ok_stk (s_iconst dX12_forgers_30 (by decide))) (all_c (ok_istore_n dX12_forgers_31 rfl (by decide)) (all_c (ok_iload_n dX12_forgers_32 rfl) (all_c (ok_iload_n dX12_forgers_33 rfl) (all_c (ok_icmp_ge dX12_forgers_34 (by decide)) (all_c (ok_aload_n dX12_forgers_37 rfl) (all_c (ok_aload_n dX12_forgers_38 rfl) (all_c (okg_X12_1 kw734 dX12_forgers_39) (all_c (ok_iload_n dX12_forgers_42 rfl) (all_c (ok_iald dX12_forgers_43) (all_c (okc_X12_isLoad (by decide) kw710 dX12_forgers_44) (all_c (ok_if_eq dX12_forgers_47 (by decide)) (all_c (ok_aload_n dX12_forgers_50 rfl) (all_c (okg_X12_1 kw734 dX12_forgers_51) (all_c (ok_iload_n dX12_forgers_54 rfl) (all_c (ok_stk (s_iconst dX12_forgers_55 (by decide))) (all_c (ok_stk (s_iadd dX12_forgers_56)) (all_c (ok_iald dX12_forgers_57) (all_c (ok_stk (s_iconst dX12_forgers_58 (by decide))) (all_c (ok_icmp_le dX12_forgers_59 (by decide)) (all_c (ok_stk (s_iconst dX12_forgers_62 (by decide))) (all_c (ok_iret dX12_forgers_63) (all_c (ok_iinc dX12_forgers_64 (by decide) (by decide)) (all_c (ok_goto dX12_forgers_67 (by decide)) (all_c (ok_aload_n dX12_forgers_70 rfl) (all_c (okc_X12_layWhose (by decide) kw697 dX12_forgers_71) (all_c (ok_stk (s_iconst dX12_forgers_74 (by decide))) (all_c (ok_istore_n dX12_forgers_75 rfl (by decide)) (all_c (ok_stk (s_iconst dX12_forgers_76 (by decide))) (all_c (ok_aload_n dX12_forgers_77 rfl) (all_c (okg_X12_14 kw683 dX12_forgers_78) (all_c (ok_stk (s_iconst dX12_forgers_81 (by decide))) (all_c (ok_iald dX12_forgers_82) (all_c (ok_stk (s_ishl dX12_forgers_83)) (all_c (ok_stk (s_iconst dX12_forgers_84 (by decide))) (all_c (ok_stk (s_isub dX12_forgers_85)) (all_c (ok_istore_n dX12_forgers_86 rfl (by decide)) (all_c (ok_stk (s_iconst dX12_forgers_87 (by decide))) (all_c (ok_istore dX12_forgers_88 (by decide)) (all_c (ok_iload dX12_forgers_90) (all_c (ok_stk (s_bipush dX12_forgers_92 (by decide))) (all_c (ok_icmp_ge dX12_forgers_94 (by decide)) (all_c (ok_aload_n dX12_forgers_97 rfl) (all_c (okg_X12_45 kw878 dX12_forgers_98) (all_c (ok_iload dX12_forgers_101) (all_c (ok_stk (s_iconst dX12_forgers_103 (by decide))) (all_c (ok_iast dX12_forgers_104) (all_c (ok_iinc dX12_forgers_105 (by decide) (by decide)) (all_c (ok_goto dX12_forgers_108 (by decide)) (all_c (ok_stk (s_iconst dX12_forgers_111 (by decide))) (all_c (ok_istore dX12_forgers_112 (by decide)) (all_c (ok_iload dX12_forgers_114) (all_c (ok_stk (s_iconst dX12_forgers_116 (by decide))) (all_c (ok_aload_n dX12_forgers_117 rfl) (all_c (okg_X12_14 kw683 dX12_forgers_118) (all_c (ok_stk (s_iconst dX12_forgers_121 (by decide))) (all_c (ok_iald dX12_forgers_122) (all_c (ok_stk (s_ishl dX12_forgers_123)) (all_c (ok_icmp_ge dX12_forgers_124 (by decide)) (all_c (ok_aload_n dX12_forgers_127 rfl) (all_c (ok_iload dX12_forgers_128) (all_c (okp_X12_28 kw684 dX12_forgers_130) (all_c (ok_aload_n dX12_forgers_133 rfl) (all_c (okc0_X12_loadsOver (by decide) kw882 dX12_forgers_134) (all_c (ok_istore dX12_forgers_137 (by decide)) (all_c (ok_stk (s_iconst dX12_forgers_139 (by decide))) (all_c (ok_istore dX12_forgers_140 (by decide)) (all_c (ok_stk (s_iconst dX12_forgers_142 (by decide))) (all_c (ok_istore dX12_forgers_143 (by decide)) (all_c (ok_iload dX12_forgers_145) (all_c (ok_iload_n dX12_forgers_147 rfl) (all_c (ok_icmp_ge dX12_forgers_148 (by decide)) (all_c (ok_iload dX12_forgers_151) (all_c (ok_if_eq dX12_forgers_153 (by decide)) (all_c (ok_iload dX12_forgers_156) (all_c (ok_aload_n dX12_forgers_158 rfl) (all_c (okg_X12_1 kw734 dX12_forgers_159) (all_c (ok_iload dX12_forgers_162) (all_c (ok_iald dX12_forgers_164) (all_c (okc0_X12_has (by decide) kw688 dX12_forgers_165) (all_c (ok_aload_n dX12_forgers_168 rfl) (all_c (okg_X12_1 kw734 dX12_forgers_169) (all_c (ok_iload dX12_forgers_172) (all_c (ok_stk (s_iconst dX12_forgers_174 (by decide))) (all_c (ok_stk (s_iadd dX12_forgers_175)) (all_c (ok_iald dX12_forgers_176) (all_c (ok_stk (s_iconst dX12_forgers_177 (by decide))) (all_c (ok_icmp_ne dX12_forgers_178 (by decide)) (all_c (ok_stk (s_iconst dX12_forgers_181 (by decide))) (all_c (ok_goto dX12_forgers_182 (by decide)) (all_c (ok_stk (s_iconst dX12_forgers_185 (by decide))) (all_c (ok_icmp_ne dX12_forgers_186 (by decide)) (all_c (ok_stk (s_iconst dX12_forgers_189 (by decide))) (all_c (ok_goto dX12_forgers_190 (by decide)) (all_c (ok_stk (s_iconst dX12_forgers_193 (by decide))) (all_c (ok_istore dX12_forgers_194 (by decide)) (all_c (ok_iinc dX12_forgers_196 (by decide) (by decide)) (all_c (ok_goto dX12_forgers_199 (by decide)) (all_c (ok_iload dX12_forgers_202) (all_c (ok_if_ne dX12_forgers_204 (by decide)) (all_c (ok_goto dX12_forgers_207 (by decide)) (all_c (ok_iinc dX12_forgers_210 (by decide) (by decide)) (all_c (ok_iload_n dX12_forgers_213 rfl) (all_c (ok_iload dX12_forgers_214) (all_c (ok_stk (s_iand dX12_forgers_216)) (all_c (ok_istore_n dX12_forgers_217 rfl (by decide)) (all_c (ok_stk (s_iconst dX12_forgers_218 (by decide))) (all_c (ok_istore dX12_forgers_219 (by decide)) (all_c (ok_iload dX12_forgers_221) (all_c (ok_stk (s_bipush dX12_forgers_223 (by decide))) (all_c (ok_icmp_ge dX12_forgers_225 (by decide)) (all_c (ok_iload dX12_forgers_228) (all_c (ok_iload dX12_forgers_230) (all_c (okc0_X12_has (by decide) kw688 dX12_forgers_232) (all_c (ok_if_eq dX12_forgers_235 (by decide)) (all_c (ok_aload_n dX12_forgers_238 rfl) (all_c (okg_X12_45 kw878 dX12_forgers_239) (all_c (ok_iload dX12_forgers_242) (all_c (ok_stk (s_dup2 dX12_forgers_244)) (all_c (ok_iald dX12_forgers_245) (all_c (ok_stk (s_iconst dX12_forgers_246 (by decide))) (all_c (ok_stk (s_iadd dX12_forgers_247)) (all_c (ok_iast dX12_forgers_248) (all_c (ok_iinc dX12_forgers_249 (by decide) (by decide)) (all_c (ok_goto dX12_forgers_252 (by decide)) (all_c (ok_iinc dX12_forgers_255 (by decide) (by decide)) (all_c (ok_goto dX12_forgers_258 (by decide)) (all_c (ok_iload_n dX12_forgers_261 rfl) (all_c (ok_if_ne dX12_forgers_262 (by decide)) (all_c (ok_stk (s_iconst dX12_forgers_265 (by decide))) (all_c (ok_iret dX12_forgers_266) (all_c (ok_aload_n dX12_forgers_267 rfl) (all_c (ok_iload_n dX12_forgers_268 rfl) (all_c (okp_X12_46 kw883 dX12_forgers_269) (all_c (ok_aload_n dX12_forgers_272 rfl) (all_c (ok_stk (s_iconst dX12_forgers_273 (by decide))) (all_c (okp_X12_47 kw884 dX12_forgers_274) (all_c (ok_ldcw kw711 dX12_forgers_277) (all_c (ok_istore dX12_forgers_280 (by decide)) (all_c (ok_stk (s_iconst dX12_forgers_282 (by decide))) (all_c (ok_istore dX12_forgers_283 (by decide)) (all_c (ok_iload dX12_forgers_285) (all_c (ok_aload_n dX12_forgers_287 rfl) (all_c (okg_X12_14 kw683 dX12_forgers_288) (all_c (ok_stk (s_iconst dX12_forgers_291 (by decide))) (all_c (ok_iald dX12_forgers_292) (all_c (ok_icmp_ge dX12_forgers_293 (by decide)) (all_c (ok_stk (s_iconst dX12_forgers_296 (by decide))) (all_c (ok_aload_n dX12_forgers_297 rfl) (all_c (okg_X12_45 kw878 dX12_forgers_298) (all_c (ok_iload dX12_forgers_301) (all_c (ok_iald dX12_forgers_303) (all_c (ok_stk (s_imul dX12_forgers_304)) (all_c (ok_iload_n dX12_forgers_305 rfl) (all_c (ok_stk (s_isub dX12_forgers_306)) (all_c (okc_X12_size (by decide) kw887 dX12_forgers_307) (all_c (ok_istore dX12_forgers_310 (by decide)) (all_c (ok_iload dX12_forgers_312) (all_c (ok_iload dX12_forgers_314) (all_c (ok_icmp_lt dX12_forgers_316 (by decide)) (all_c (ok_goto dX12_forgers_319 (by decide)) (all_c (ok_iload dX12_forgers_322) (all_c (ok_istore dX12_forgers_324 (by decide)) (all_c (ok_aload_n dX12_forgers_326 rfl) (all_c (ok_iload dX12_forgers_327) (all_c (okp_X12_47 kw884 dX12_forgers_329) (all_c (ok_iinc dX12_forgers_332 (by decide) (by decide)) (all_c (ok_goto dX12_forgers_335 (by decide)) (all_c (ok_iload_n dX12_forgers_338 rfl) (all_c (ok_iret dX12_forgers_339) all_n))))))))))))))))))))))))))))))))))))))))))))))))))))))))))))))))))))))))))))))))))))))))))))))))))))))))))))))))))))))))))))))))))))))))))))))))))))))))))))))))))))))))))))))))))))))))))))) 1000000 (fun h => by first | rfl | cases h)
theorem dX12_holds_0 : decode cX12_holds 0 = .ok (.aload_n 0, 1) := by decide +kernel
theorem dX12_holds_1 : decode cX12_holds 1 = .ok (.iconst 0, 1) := by decide +kernel
theorem dX12_holds_2 : decode cX12_holds 2 = .ok (.putfield 1, 3) := by decide +kernel
theorem dX12_holds_5 : decode cX12_holds 5 = .ok (.aload_n 0, 1) := by decide +kernel
theorem dX12_holds_6 : decode cX12_holds 6 = .ok (.iload_n 1, 1) := by decide +kernel
theorem dX12_holds_7 : decode cX12_holds 7 = .ok (.invokevirtual 277, 3) := by decide +kernel
theorem dX12_holds_10 : decode cX12_holds 10 = .ok (.ifCond .ne 5, 3) := by decide +kernel
theorem dX12_holds_13 : decode cX12_holds 13 = .ok (.iconst (-1), 1) := by decide +kernel
theorem dX12_holds_14 : decode cX12_holds 14 = .ok (.ireturn, 1) := by decide +kernel
theorem dX12_holds_15 : decode cX12_holds 15 = .ok (.aload_n 0, 1) := by decide +kernel
theorem dX12_holds_16 : decode cX12_holds 16 = .ok (.iload_n 1, 1) := by decide +kernel
theorem dX12_holds_17 : decode cX12_holds 17 = .ok (.invokevirtual 352, 3) := by decide +kernel
theorem dX12_holds_20 : decode cX12_holds 20 = .ok (.istore_n 2, 1) := by decide +kernel
theorem dX12_holds_21 : decode cX12_holds 21 = .ok (.iload_n 2, 1) := by decide +kernel
theorem dX12_holds_22 : decode cX12_holds 22 = .ok (.ifCond .eq 5, 3) := by decide +kernel
theorem dX12_holds_25 : decode cX12_holds 25 = .ok (.iload_n 2, 1) := by decide +kernel
theorem dX12_holds_26 : decode cX12_holds 26 = .ok (.ireturn, 1) := by decide +kernel
theorem dX12_holds_27 : decode cX12_holds 27 = .ok (.aload_n 0, 1) := by decide +kernel
theorem dX12_holds_28 : decode cX12_holds 28 = .ok (.invokevirtual 343, 3) := by decide +kernel
theorem dX12_holds_31 : decode cX12_holds 31 = .ok (.aload_n 0, 1) := by decide +kernel
theorem dX12_holds_32 : decode cX12_holds 32 = .ok (.getfield 98, 3) := by decide +kernel
theorem dX12_holds_35 : decode cX12_holds 35 = .ok (.bipush 98, 2) := by decide +kernel
theorem dX12_holds_37 : decode cX12_holds 37 = .ok (.iload_n 1, 1) := by decide +kernel
theorem dX12_holds_38 : decode cX12_holds 38 = .ok (.iadd, 1) := by decide +kernel
theorem dX12_holds_39 : decode cX12_holds 39 = .ok (.dup2, 1) := by decide +kernel
theorem dX12_holds_40 : decode cX12_holds 40 = .ok (.iaload, 1) := by decide +kernel
theorem dX12_holds_41 : decode cX12_holds 41 = .ok (.iconst 1, 1) := by decide +kernel
theorem dX12_holds_42 : decode cX12_holds 42 = .ok (.iadd, 1) := by decide +kernel
theorem dX12_holds_43 : decode cX12_holds 43 = .ok (.iastore, 1) := by decide +kernel
theorem dX12_holds_44 : decode cX12_holds 44 = .ok (.iconst 0, 1) := by decide +kernel
theorem dX12_holds_45 : decode cX12_holds 45 = .ok (.ireturn, 1) := by decide +kernel
theorem okc0_X12_whyHold {kn : sKn} {cc : ByteArray} {own : String} {nL : Nat} {D : Nat} {ret : Option FieldType} {ini : Bool} {pc index : Nat} (hD : 0 + 1 ≤ D) (hl : Cond.methodLink own index yX12_whyHold ∈ wsL_law) (hd : decode cc pc = .ok (.invokevirtual index, 3)) : mOk kn cc own nL wsL_law D ret ini pc (a_callV false f_none 13 (1 + 1) (pc + 3)) := ok_callV (m_none (D := 0)) (good_ws ws_good (fun _ h => h) kw888) hD (by decide) hl kw889 kw890 kw686 ⟨by decide +kernel, by decide +kernel, by decide +kernel⟩ rfl hd
def tX12_holds (kn : sKn) : List (Nat × sA) := [(0, a_aload 0 1), (1, a_stk (q_int 0) 2), (2, a_put 13 0 ckI 5), (5, a_aload 0 6), (6, a_iload 1 7), (7, a_callV false (fX12_isSigner kn) 13 2 10), (10, a_if kn b_ne 1 15 13), (13, a_stk (q_int (-1)) 14), (14, a_iret), (15, a_aload 0 16), (16, a_iload 1 17), (17, a_callV false f_none 13 2 20), (20, a_istore 2 21), (21, a_iload 2 22), (22, a_if kn b_eq 0 27 25), (25, a_iload 2 26), (26, a_iret), (27, a_aload 0 28), (28, a_callV true (fX12_snap kn) 13 1 31), (31, a_aload 0 32), (32, a_get 13 14 35), (35, a_stk (q_int 98) 37), (37, a_iload 1 38), (38, a_stk q_iadd 39), (39, a_stk q_dup2 40), (40, a_iald 41), (41, a_stk (q_int 1) 42), (42, a_stk q_iadd 43), (43, a_iast 44), (44, a_stk (q_int 0) 45), (45, a_iret)]
def fX12_holds (kn : sKn) : List Value → sW → Option sR := mF (tX12_holds kn) 3 1000000
set_option maxRecDepth 100000 in
set_option maxHeartbeats 4000000 in
theorem mX12_holds (kn : sKn) : mM kn yX12_holds (Cond.code yX12_holds cX12_holds 3 (some .int) :: wsL_law) 3 false (fX12_holds kn) := mM_of (own := RX12) (ini := false) rfl (by decide +kernel) (by decide +kernel) (all_c (ok_aload_n dX12_holds_0 rfl) (all_c (ok_stk (s_iconst dX12_holds_1 (by decide))) (all_c (okp_X12_0 kw693 dX12_holds_2) (all_c (ok_aload_n dX12_holds_5 rfl) (all_c (ok_iload_n dX12_holds_6 rfl) (all_c (okc_X12_isSigner (by decide) kw802 dX12_holds_7) (all_c (ok_if_ne dX12_holds_10 (by decide)) (all_c (ok_stk (s_iconst dX12_holds_13 (by decide))) (all_c (ok_iret dX12_holds_14) (all_c (ok_aload_n dX12_holds_15 rfl) (all_c (ok_iload_n dX12_holds_16 rfl) (all_c (okc0_X12_whyHold (by decide) kw891 dX12_holds_17) (all_c (ok_istore_n dX12_holds_20 rfl (by decide)) (all_c (ok_iload_n dX12_holds_21 rfl) (all_c (ok_if_eq dX12_holds_22 (by decide)) (all_c (ok_iload_n dX12_holds_25 rfl) (all_c (ok_iret dX12_holds_26) (all_c (ok_aload_n dX12_holds_27 rfl) (all_c (okc_X12_snap (by decide) kw766 dX12_holds_28) (all_c (ok_aload_n dX12_holds_31 rfl) (all_c (okg_X12_14 kw683 dX12_holds_32) (all_c (ok_stk (s_bipush dX12_holds_35 (by decide))) (all_c (ok_iload_n dX12_holds_37 rfl) (all_c (ok_stk (s_iadd dX12_holds_38)) (all_c (ok_stk (s_dup2 dX12_holds_39)) (all_c (ok_iald dX12_holds_40) (all_c (ok_stk (s_iconst dX12_holds_41 (by decide))) (all_c (ok_stk (s_iadd dX12_holds_42)) (all_c (ok_iast dX12_holds_43) (all_c (ok_stk (s_iconst dX12_holds_44 (by decide))) (all_c (ok_iret dX12_holds_45) all_n))))))))))))))))))))))))))))))) 1000000 (fun h => by first | rfl | cases h)
theorem dX12_image_0 : decode cX12_image 0 = .ok (.aload_n 0, 1) := by decide +kernel
theorem dX12_image_1 : decode cX12_image 1 = .ok (.iconst 0, 1) := by decide +kernel
theorem dX12_image_2 : decode cX12_image 2 = .ok (.putfield 1, 3) := by decide +kernel
theorem dX12_image_5 : decode cX12_image 5 = .ok (.iload_n 1, 1) := by decide +kernel
theorem dX12_image_6 : decode cX12_image 6 = .ok (.iconst 0, 1) := by decide +kernel
theorem dX12_image_7 : decode cX12_image 7 = .ok (.iconst 1, 1) := by decide +kernel
theorem dX12_image_8 : decode cX12_image 8 = .ok (.invokestatic 75, 3) := by decide +kernel
theorem dX12_image_11 : decode cX12_image 11 = .ok (.ifCond .ne 5, 3) := by decide +kernel
theorem dX12_image_14 : decode cX12_image 14 = .ok (.iconst 0, 1) := by decide +kernel
theorem dX12_image_15 : decode cX12_image 15 = .ok (.ireturn, 1) := by decide +kernel
theorem dX12_image_16 : decode cX12_image 16 = .ok (.iconst 0, 1) := by decide +kernel
theorem dX12_image_17 : decode cX12_image 17 = .ok (.istore_n 2, 1) := by decide +kernel
theorem dX12_image_18 : decode cX12_image 18 = .ok (.iload_n 2, 1) := by decide +kernel
theorem dX12_image_19 : decode cX12_image 19 = .ok (.sipush 438, 3) := by decide +kernel
theorem dX12_image_22 : decode cX12_image 22 = .ok (.if_icmp .ge 27, 3) := by decide +kernel
theorem dX12_image_25 : decode cX12_image 25 = .ok (.aload_n 0, 1) := by decide +kernel
theorem dX12_image_26 : decode cX12_image 26 = .ok (.getfield 104, 3) := by decide +kernel
theorem dX12_image_29 : decode cX12_image 29 = .ok (.sipush 438, 3) := by decide +kernel
theorem dX12_image_32 : decode cX12_image 32 = .ok (.iload_n 1, 1) := by decide +kernel
theorem dX12_image_33 : decode cX12_image 33 = .ok (.imul, 1) := by decide +kernel
theorem dX12_image_34 : decode cX12_image 34 = .ok (.iload_n 2, 1) := by decide +kernel
theorem dX12_image_35 : decode cX12_image 35 = .ok (.iadd, 1) := by decide +kernel
theorem dX12_image_36 : decode cX12_image 36 = .ok (.aload_n 0, 1) := by decide +kernel
theorem dX12_image_37 : decode cX12_image 37 = .ok (.getfield 98, 3) := by decide +kernel
theorem dX12_image_40 : decode cX12_image 40 = .ok (.iload_n 2, 1) := by decide +kernel
theorem dX12_image_41 : decode cX12_image 41 = .ok (.iaload, 1) := by decide +kernel
theorem dX12_image_42 : decode cX12_image 42 = .ok (.iastore, 1) := by decide +kernel
theorem dX12_image_43 : decode cX12_image 43 = .ok (.iinc 2 1, 3) := by decide +kernel
theorem dX12_image_46 : decode cX12_image 46 = .ok (.goto (-28), 3) := by decide +kernel
theorem dX12_image_49 : decode cX12_image 49 = .ok (.iconst 0, 1) := by decide +kernel
theorem dX12_image_50 : decode cX12_image 50 = .ok (.istore_n 2, 1) := by decide +kernel
theorem dX12_image_51 : decode cX12_image 51 = .ok (.iload_n 2, 1) := by decide +kernel
theorem dX12_image_52 : decode cX12_image 52 = .ok (.bipush 16, 2) := by decide +kernel
theorem dX12_image_54 : decode cX12_image 54 = .ok (.if_icmp .ge 26, 3) := by decide +kernel
theorem dX12_image_57 : decode cX12_image 57 = .ok (.aload_n 0, 1) := by decide +kernel
theorem dX12_image_58 : decode cX12_image 58 = .ok (.getfield 120, 3) := by decide +kernel
theorem dX12_image_61 : decode cX12_image 61 = .ok (.bipush 16, 2) := by decide +kernel
theorem dX12_image_63 : decode cX12_image 63 = .ok (.iload_n 1, 1) := by decide +kernel
theorem dX12_image_64 : decode cX12_image 64 = .ok (.imul, 1) := by decide +kernel
theorem dX12_image_65 : decode cX12_image 65 = .ok (.iload_n 2, 1) := by decide +kernel
theorem dX12_image_66 : decode cX12_image 66 = .ok (.iadd, 1) := by decide +kernel
theorem dX12_image_67 : decode cX12_image 67 = .ok (.aload_n 0, 1) := by decide +kernel
theorem dX12_image_68 : decode cX12_image 68 = .ok (.getfield 113, 3) := by decide +kernel
theorem dX12_image_71 : decode cX12_image 71 = .ok (.iload_n 2, 1) := by decide +kernel
theorem dX12_image_72 : decode cX12_image 72 = .ok (.laload, 1) := by decide +kernel
theorem dX12_image_73 : decode cX12_image 73 = .ok (.lastore, 1) := by decide +kernel
theorem dX12_image_74 : decode cX12_image 74 = .ok (.iinc 2 1, 3) := by decide +kernel
theorem dX12_image_77 : decode cX12_image 77 = .ok (.goto (-26), 3) := by decide +kernel
theorem dX12_image_80 : decode cX12_image 80 = .ok (.aload_n 0, 1) := by decide +kernel
theorem dX12_image_81 : decode cX12_image 81 = .ok (.getfield 123, 3) := by decide +kernel
theorem dX12_image_84 : decode cX12_image 84 = .ok (.iload_n 1, 1) := by decide +kernel
theorem dX12_image_85 : decode cX12_image 85 = .ok (.iconst 1, 1) := by decide +kernel
theorem dX12_image_86 : decode cX12_image 86 = .ok (.bastore, 1) := by decide +kernel
theorem dX12_image_87 : decode cX12_image 87 = .ok (.iconst 1, 1) := by decide +kernel
theorem dX12_image_88 : decode cX12_image 88 = .ok (.ireturn, 1) := by decide +kernel
def tX12_image (kn : sKn) : List (Nat × sA) := [(0, a_aload 0 1), (1, a_stk (q_int 0) 2), (2, a_put 13 0 ckI 5), (5, a_iload 1 6), (6, a_stk (q_int 0) 7), (7, a_stk (q_int 1) 8), (8, a_callS false (fX12_isIn kn) 3 11), (11, a_if kn b_ne 1 16 14), (14, a_stk (q_int 0) 15), (15, a_zret), (16, a_stk (q_int 0) 17), (17, a_istore 2 18), (18, a_iload 2 19), (19, a_stk (q_int 438) 22), (22, a_icmp kn b_ge 3 49 25), (25, a_aload 0 26), (26, a_get 13 16 29), (29, a_stk (q_int 438) 32), (32, a_iload 1 33), (33, a_stk q_imul 34), (34, a_iload 2 35), (35, a_stk q_iadd 36), (36, a_aload 0 37), (37, a_get 13 14 40), (40, a_iload 2 41), (41, a_iald 42), (42, a_iast 43), (43, a_iinc 2 1 46), (46, a_goto 18), (49, a_stk (q_int 0) 50), (50, a_istore 2 51), (51, a_iload 2 52), (52, a_stk (q_int 16) 54), (54, a_icmp kn b_ge 3 80 57), (57, a_aload 0 58), (58, a_get 13 21 61), (61, a_stk (q_int 16) 63), (63, a_iload 1 64), (64, a_stk q_imul 65), (65, a_iload 2 66), (66, a_stk q_iadd 67), (67, a_aload 0 68), (68, a_get 13 19 71), (71, a_iload 2 72), (72, a_lald 73), (73, a_last 74), (74, a_iinc 2 1 77), (77, a_goto 51), (80, a_aload 0 81), (81, a_get 13 22 84), (84, a_iload 1 85), (85, a_stk (q_int 1) 86), (86, a_bast 87), (87, a_stk (q_int 1) 88), (88, a_zret)]
def fX12_image (kn : sKn) : List Value → sW → Option sR := mF (tX12_image kn) 3 1000000
set_option maxRecDepth 100000 in
set_option maxHeartbeats 4000000 in
theorem mX12_image (kn : sKn) : mM kn yX12_image (Cond.code yX12_image cX12_image 3 (some .boolean) :: wsL_law) 2 false (fX12_image kn) := mM_of (own := RX12) (ini := false) rfl (by decide +kernel) (by decide +kernel) (all_c (ok_aload_n dX12_image_0 rfl) (all_c (ok_stk (s_iconst dX12_image_1 (by decide))) (all_c (okp_X12_0 kw693 dX12_image_2) (all_c (ok_iload_n dX12_image_5 rfl) (all_c (ok_stk (s_iconst dX12_image_6 (by decide))) (all_c (ok_stk (s_iconst dX12_image_7 (by decide))) (all_c (okc_X12_isIn (by decide) kw705 dX12_image_8) (all_c (ok_if_ne dX12_image_11 (by decide)) (all_c (ok_stk (s_iconst dX12_image_14 (by decide))) (all_c (ok_zret dX12_image_15) (all_c (ok_stk (s_iconst dX12_image_16 (by decide))) (all_c (ok_istore_n dX12_image_17 rfl (by decide)) (all_c (ok_iload_n dX12_image_18 rfl) (all_c (ok_stk (s_sipush dX12_image_19 (by decide))) (all_c (ok_icmp_ge dX12_image_22 (by decide)) (all_c (ok_aload_n dX12_image_25 rfl) (all_c (okg_X12_16 kw892 dX12_image_26) (all_c (ok_stk (s_sipush dX12_image_29 (by decide))) (all_c (ok_iload_n dX12_image_32 rfl) (all_c (ok_stk (s_imul dX12_image_33)) (all_c (ok_iload_n dX12_image_34 rfl) (all_c (ok_stk (s_iadd dX12_image_35)) (all_c (ok_aload_n dX12_image_36 rfl) (all_c (okg_X12_14 kw683 dX12_image_37) (all_c (ok_iload_n dX12_image_40 rfl) (all_c (ok_iald dX12_image_41) (all_c (ok_iast dX12_image_42) (all_c (ok_iinc dX12_image_43 (by decide) (by decide)) (all_c (ok_goto dX12_image_46 (by decide)) (all_c (ok_stk (s_iconst dX12_image_49 (by decide))) (all_c (ok_istore_n dX12_image_50 rfl (by decide)) (all_c (ok_iload_n dX12_image_51 rfl) (all_c (ok_stk (s_bipush dX12_image_52 (by decide))) (all_c (ok_icmp_ge dX12_image_54 (by decide)) (all_c (ok_aload_n dX12_image_57 rfl) (all_c (okg_X12_21 kw893 dX12_image_58) (all_c (ok_stk (s_bipush dX12_image_61 (by decide))) (all_c (ok_iload_n dX12_image_63 rfl) (all_c (ok_stk (s_imul dX12_image_64)) (all_c (ok_iload_n dX12_image_65 rfl) (all_c (ok_stk (s_iadd dX12_image_66)) (all_c (ok_aload_n dX12_image_67 rfl) (all_c (okg_X12_19 kw823 dX12_image_68) (all_c (ok_iload_n dX12_image_71 rfl) (all_c (ok_lald dX12_image_72) (all_c (ok_last dX12_image_73) (all_c (ok_iinc dX12_image_74 (by decide) (by decide)) (all_c (ok_goto dX12_image_77 (by decide)) (all_c (ok_aload_n dX12_image_80 rfl) (all_c (okg_X12_22 kw894 dX12_image_81) (all_c (ok_iload_n dX12_image_84 rfl) (all_c (ok_stk (s_iconst dX12_image_85 (by decide))) (all_c (ok_bast dX12_image_86) (all_c (ok_stk (s_iconst dX12_image_87 (by decide))) (all_c (ok_zret dX12_image_88) all_n))))))))))))))))))))))))))))))))))))))))))))))))))))))) 1000000 (fun h => by first | rfl | cases h)
theorem dX12_init_0 : decode cX12_init 0 = .ok (.aload_n 0, 1) := by decide +kernel
theorem dX12_init_1 : decode cX12_init 1 = .ok (.invokespecial 93, 3) := by decide +kernel
theorem dX12_init_4 : decode cX12_init 4 = .ok (.aload_n 0, 1) := by decide +kernel
theorem dX12_init_5 : decode cX12_init 5 = .ok (.sipush 940, 3) := by decide +kernel
theorem dX12_init_8 : decode cX12_init 8 = .ok (.newarray .int, 2) := by decide +kernel
theorem dX12_init_10 : decode cX12_init 10 = .ok (.putfield 7, 3) := by decide +kernel
theorem dX12_init_13 : decode cX12_init 13 = .ok (.aload_n 0, 1) := by decide +kernel
theorem dX12_init_14 : decode cX12_init 14 = .ok (.sipush 438, 3) := by decide +kernel
theorem dX12_init_17 : decode cX12_init 17 = .ok (.newarray .int, 2) := by decide +kernel
theorem dX12_init_19 : decode cX12_init 19 = .ok (.putfield 98, 3) := by decide +kernel
theorem dX12_init_22 : decode cX12_init 22 = .ok (.aload_n 0, 1) := by decide +kernel
theorem dX12_init_23 : decode cX12_init 23 = .ok (.bipush 94, 2) := by decide +kernel
theorem dX12_init_25 : decode cX12_init 25 = .ok (.newarray .int, 2) := by decide +kernel
theorem dX12_init_27 : decode cX12_init 27 = .ok (.putfield 101, 3) := by decide +kernel
theorem dX12_init_30 : decode cX12_init 30 = .ok (.aload_n 0, 1) := by decide +kernel
theorem dX12_init_31 : decode cX12_init 31 = .ok (.sipush 876, 3) := by decide +kernel
theorem dX12_init_34 : decode cX12_init 34 = .ok (.newarray .int, 2) := by decide +kernel
theorem dX12_init_36 : decode cX12_init 36 = .ok (.putfield 104, 3) := by decide +kernel
theorem dX12_init_39 : decode cX12_init 39 = .ok (.aload_n 0, 1) := by decide +kernel
theorem dX12_init_40 : decode cX12_init 40 = .ok (.sipush 816, 3) := by decide +kernel
theorem dX12_init_43 : decode cX12_init 43 = .ok (.newarray .int, 2) := by decide +kernel
theorem dX12_init_45 : decode cX12_init 45 = .ok (.putfield 107, 3) := by decide +kernel
theorem dX12_init_48 : decode cX12_init 48 = .ok (.aload_n 0, 1) := by decide +kernel
theorem dX12_init_49 : decode cX12_init 49 = .ok (.bipush 102, 2) := by decide +kernel
theorem dX12_init_51 : decode cX12_init 51 = .ok (.newarray .int, 2) := by decide +kernel
theorem dX12_init_53 : decode cX12_init 53 = .ok (.putfield 110, 3) := by decide +kernel
theorem dX12_init_56 : decode cX12_init 56 = .ok (.aload_n 0, 1) := by decide +kernel
theorem dX12_init_57 : decode cX12_init 57 = .ok (.bipush 16, 2) := by decide +kernel
theorem dX12_init_59 : decode cX12_init 59 = .ok (.newarray .long, 2) := by decide +kernel
theorem dX12_init_61 : decode cX12_init 61 = .ok (.putfield 113, 3) := by decide +kernel
theorem dX12_init_64 : decode cX12_init 64 = .ok (.aload_n 0, 1) := by decide +kernel
theorem dX12_init_65 : decode cX12_init 65 = .ok (.bipush 16, 2) := by decide +kernel
theorem dX12_init_67 : decode cX12_init 67 = .ok (.newarray .long, 2) := by decide +kernel
theorem dX12_init_69 : decode cX12_init 69 = .ok (.putfield 117, 3) := by decide +kernel
theorem dX12_init_72 : decode cX12_init 72 = .ok (.aload_n 0, 1) := by decide +kernel
theorem dX12_init_73 : decode cX12_init 73 = .ok (.bipush 32, 2) := by decide +kernel
theorem dX12_init_75 : decode cX12_init 75 = .ok (.newarray .long, 2) := by decide +kernel
theorem dX12_init_77 : decode cX12_init 77 = .ok (.putfield 120, 3) := by decide +kernel
theorem dX12_init_80 : decode cX12_init 80 = .ok (.aload_n 0, 1) := by decide +kernel
theorem dX12_init_81 : decode cX12_init 81 = .ok (.iconst 2, 1) := by decide +kernel
theorem dX12_init_82 : decode cX12_init 82 = .ok (.newarray .boolean, 2) := by decide +kernel
theorem dX12_init_84 : decode cX12_init 84 = .ok (.putfield 123, 3) := by decide +kernel
theorem dX12_init_87 : decode cX12_init 87 = .ok (.aload_n 0, 1) := by decide +kernel
theorem dX12_init_88 : decode cX12_init 88 = .ok (.bipush 36, 2) := by decide +kernel
theorem dX12_init_90 : decode cX12_init 90 = .ok (.newarray .int, 2) := by decide +kernel
theorem dX12_init_92 : decode cX12_init 92 = .ok (.putfield 127, 3) := by decide +kernel
theorem dX12_init_95 : decode cX12_init 95 = .ok (.aload_n 0, 1) := by decide +kernel
theorem dX12_init_96 : decode cX12_init 96 = .ok (.bipush 48, 2) := by decide +kernel
theorem dX12_init_98 : decode cX12_init 98 = .ok (.newarray .int, 2) := by decide +kernel
theorem dX12_init_100 : decode cX12_init 100 = .ok (.putfield 130, 3) := by decide +kernel
theorem dX12_init_103 : decode cX12_init 103 = .ok (.aload_n 0, 1) := by decide +kernel
theorem dX12_init_104 : decode cX12_init 104 = .ok (.bipush 12, 2) := by decide +kernel
theorem dX12_init_106 : decode cX12_init 106 = .ok (.newarray .int, 2) := by decide +kernel
theorem dX12_init_108 : decode cX12_init 108 = .ok (.putfield 133, 3) := by decide +kernel
theorem dX12_init_111 : decode cX12_init 111 = .ok (.aload_n 0, 1) := by decide +kernel
theorem dX12_init_112 : decode cX12_init 112 = .ok (.bipush 48, 2) := by decide +kernel
theorem dX12_init_114 : decode cX12_init 114 = .ok (.newarray .int, 2) := by decide +kernel
theorem dX12_init_116 : decode cX12_init 116 = .ok (.putfield 136, 3) := by decide +kernel
theorem dX12_init_119 : decode cX12_init 119 = .ok (.aload_n 0, 1) := by decide +kernel
theorem dX12_init_120 : decode cX12_init 120 = .ok (.bipush 36, 2) := by decide +kernel
theorem dX12_init_122 : decode cX12_init 122 = .ok (.newarray .int, 2) := by decide +kernel
theorem dX12_init_124 : decode cX12_init 124 = .ok (.putfield 139, 3) := by decide +kernel
theorem dX12_init_127 : decode cX12_init 127 = .ok (.aload_n 0, 1) := by decide +kernel
theorem dX12_init_128 : decode cX12_init 128 = .ok (.bipush 36, 2) := by decide +kernel
theorem dX12_init_130 : decode cX12_init 130 = .ok (.newarray .int, 2) := by decide +kernel
theorem dX12_init_132 : decode cX12_init 132 = .ok (.putfield 142, 3) := by decide +kernel
theorem dX12_init_135 : decode cX12_init 135 = .ok (.aload_n 0, 1) := by decide +kernel
theorem dX12_init_136 : decode cX12_init 136 = .ok (.iconst 3, 1) := by decide +kernel
theorem dX12_init_137 : decode cX12_init 137 = .ok (.newarray .int, 2) := by decide +kernel
theorem dX12_init_139 : decode cX12_init 139 = .ok (.putfield 145, 3) := by decide +kernel
theorem dX12_init_142 : decode cX12_init 142 = .ok (.aload_n 0, 1) := by decide +kernel
theorem dX12_init_143 : decode cX12_init 143 = .ok (.iconst 3, 1) := by decide +kernel
theorem dX12_init_144 : decode cX12_init 144 = .ok (.newarray .int, 2) := by decide +kernel
theorem dX12_init_146 : decode cX12_init 146 = .ok (.putfield 148, 3) := by decide +kernel
theorem dX12_init_149 : decode cX12_init 149 = .ok (.aload_n 0, 1) := by decide +kernel
theorem dX12_init_150 : decode cX12_init 150 = .ok (.iconst 3, 1) := by decide +kernel
theorem dX12_init_151 : decode cX12_init 151 = .ok (.newarray .int, 2) := by decide +kernel
theorem dX12_init_153 : decode cX12_init 153 = .ok (.putfield 151, 3) := by decide +kernel
theorem dX12_init_156 : decode cX12_init 156 = .ok (.aload_n 0, 1) := by decide +kernel
theorem dX12_init_157 : decode cX12_init 157 = .ok (.bipush 6, 2) := by decide +kernel
theorem dX12_init_159 : decode cX12_init 159 = .ok (.newarray .int, 2) := by decide +kernel
theorem dX12_init_161 : decode cX12_init 161 = .ok (.putfield 154, 3) := by decide +kernel
theorem dX12_init_164 : decode cX12_init 164 = .ok (.aload_n 0, 1) := by decide +kernel
theorem dX12_init_165 : decode cX12_init 165 = .ok (.bipush 6, 2) := by decide +kernel
theorem dX12_init_167 : decode cX12_init 167 = .ok (.newarray .int, 2) := by decide +kernel
theorem dX12_init_169 : decode cX12_init 169 = .ok (.putfield 157, 3) := by decide +kernel
theorem dX12_init_172 : decode cX12_init 172 = .ok (.aload_n 0, 1) := by decide +kernel
theorem dX12_init_173 : decode cX12_init 173 = .ok (.sipush 720, 3) := by decide +kernel
theorem dX12_init_176 : decode cX12_init 176 = .ok (.newarray .int, 2) := by decide +kernel
theorem dX12_init_178 : decode cX12_init 178 = .ok (.putfield 160, 3) := by decide +kernel
theorem dX12_init_181 : decode cX12_init 181 = .ok (.aload_n 0, 1) := by decide +kernel
theorem dX12_init_182 : decode cX12_init 182 = .ok (.bipush 6, 2) := by decide +kernel
theorem dX12_init_184 : decode cX12_init 184 = .ok (.newarray .int, 2) := by decide +kernel
theorem dX12_init_186 : decode cX12_init 186 = .ok (.putfield 163, 3) := by decide +kernel
theorem dX12_init_189 : decode cX12_init 189 = .ok (.aload_n 0, 1) := by decide +kernel
theorem dX12_init_190 : decode cX12_init 190 = .ok (.iconst (-1), 1) := by decide +kernel
theorem dX12_init_191 : decode cX12_init 191 = .ok (.putfield 166, 3) := by decide +kernel
theorem dX12_init_194 : decode cX12_init 194 = .ok (.aload_n 0, 1) := by decide +kernel
theorem dX12_init_195 : decode cX12_init 195 = .ok (.iconst (-1), 1) := by decide +kernel
theorem dX12_init_196 : decode cX12_init 196 = .ok (.putfield 169, 3) := by decide +kernel
theorem dX12_init_199 : decode cX12_init 199 = .ok (.aload_n 0, 1) := by decide +kernel
theorem dX12_init_200 : decode cX12_init 200 = .ok (.bipush 64, 2) := by decide +kernel
theorem dX12_init_202 : decode cX12_init 202 = .ok (.newarray .int, 2) := by decide +kernel
theorem dX12_init_204 : decode cX12_init 204 = .ok (.putfield 172, 3) := by decide +kernel
theorem dX12_init_207 : decode cX12_init 207 = .ok (.aload_n 0, 1) := by decide +kernel
theorem dX12_init_208 : decode cX12_init 208 = .ok (.sipush 160, 3) := by decide +kernel
theorem dX12_init_211 : decode cX12_init 211 = .ok (.newarray .int, 2) := by decide +kernel
theorem dX12_init_213 : decode cX12_init 213 = .ok (.putfield 175, 3) := by decide +kernel
theorem dX12_init_216 : decode cX12_init 216 = .ok (.aload_n 0, 1) := by decide +kernel
theorem dX12_init_217 : decode cX12_init 217 = .ok (.iconst 4, 1) := by decide +kernel
theorem dX12_init_218 : decode cX12_init 218 = .ok (.newarray .int, 2) := by decide +kernel
theorem dX12_init_220 : decode cX12_init 220 = .ok (.putfield 178, 3) := by decide +kernel
theorem dX12_init_223 : decode cX12_init 223 = .ok (.aload_n 0, 1) := by decide +kernel
theorem dX12_init_224 : decode cX12_init 224 = .ok (.sipush 240, 3) := by decide +kernel
theorem dX12_init_227 : decode cX12_init 227 = .ok (.newarray .int, 2) := by decide +kernel
theorem dX12_init_229 : decode cX12_init 229 = .ok (.putfield 181, 3) := by decide +kernel
theorem dX12_init_232 : decode cX12_init 232 = .ok (.aload_n 0, 1) := by decide +kernel
theorem dX12_init_233 : decode cX12_init 233 = .ok (.invokevirtual 184, 3) := by decide +kernel
theorem dX12_init_236 : decode cX12_init 236 = .ok (.iconst 0, 1) := by decide +kernel
theorem dX12_init_237 : decode cX12_init 237 = .ok (.istore_n 1, 1) := by decide +kernel
theorem dX12_init_238 : decode cX12_init 238 = .ok (.iload_n 1, 1) := by decide +kernel
theorem dX12_init_239 : decode cX12_init 239 = .ok (.bipush 94, 2) := by decide +kernel
theorem dX12_init_241 : decode cX12_init 241 = .ok (.if_icmp .ge 21, 3) := by decide +kernel
theorem dX12_init_244 : decode cX12_init 244 = .ok (.aload_n 0, 1) := by decide +kernel
theorem dX12_init_245 : decode cX12_init 245 = .ok (.getfield 98, 3) := by decide +kernel
theorem dX12_init_248 : decode cX12_init 248 = .ok (.iload_n 1, 1) := by decide +kernel
theorem dX12_init_249 : decode cX12_init 249 = .ok (.aload_n 0, 1) := by decide +kernel
theorem dX12_init_250 : decode cX12_init 250 = .ok (.getfield 101, 3) := by decide +kernel
theorem dX12_init_253 : decode cX12_init 253 = .ok (.iload_n 1, 1) := by decide +kernel
theorem dX12_init_254 : decode cX12_init 254 = .ok (.iaload, 1) := by decide +kernel
theorem dX12_init_255 : decode cX12_init 255 = .ok (.iastore, 1) := by decide +kernel
theorem dX12_init_256 : decode cX12_init 256 = .ok (.iinc 1 1, 3) := by decide +kernel
theorem dX12_init_259 : decode cX12_init 259 = .ok (.goto (-21), 3) := by decide +kernel
theorem dX12_init_262 : decode cX12_init 262 = .ok (.aload_n 0, 1) := by decide +kernel
theorem dX12_init_263 : decode cX12_init 263 = .ok (.invokevirtual 187, 3) := by decide +kernel
theorem dX12_init_266 : decode cX12_init 266 = .ok (.return_, 1) := by decide +kernel
def tX12_init (kn : sKn) : List (Nat × sA) := [(0, a_aload 0 1), (1, a_obj 4), (4, a_aload 0 5), (5, a_stk (q_int 940) 8), (8, a_newa 1 10), (10, a_put 13 1 ckR 13), (13, a_aload 0 14), (14, a_stk (q_int 438) 17), (17, a_newa 1 19), (19, a_put 13 14 ckR 22), (22, a_aload 0 23), (23, a_stk (q_int 94) 25), (25, a_newa 1 27), (27, a_put 13 15 ckR 30), (30, a_aload 0 31), (31, a_stk (q_int 876) 34), (34, a_newa 1 36), (36, a_put 13 16 ckR 39), (39, a_aload 0 40), (40, a_stk (q_int 816) 43), (43, a_newa 1 45), (45, a_put 13 17 ckR 48), (48, a_aload 0 49), (49, a_stk (q_int 102) 51), (51, a_newa 1 53), (53, a_put 13 18 ckR 56), (56, a_aload 0 57), (57, a_stk (q_int 16) 59), (59, a_newa 2 61), (61, a_put 13 19 ckR 64), (64, a_aload 0 65), (65, a_stk (q_int 16) 67), (67, a_newa 2 69), (69, a_put 13 20 ckR 72), (72, a_aload 0 73), (73, a_stk (q_int 32) 75), (75, a_newa 2 77), (77, a_put 13 21 ckR 80), (80, a_aload 0 81), (81, a_stk (q_int 2) 82), (82, a_newa 3 84), (84, a_put 13 22 ckR 87), (87, a_aload 0 88), (88, a_stk (q_int 36) 90), (90, a_newa 1 92), (92, a_put 13 27 ckR 95), (95, a_aload 0 96), (96, a_stk (q_int 48) 98), (98, a_newa 1 100), (100, a_put 13 29 ckR 103), (103, a_aload 0 104), (104, a_stk (q_int 12) 106), (106, a_newa 1 108), (108, a_put 13 30 ckR 111), (111, a_aload 0 112), (112, a_stk (q_int 48) 114), (114, a_newa 1 116), (116, a_put 13 31 ckR 119), (119, a_aload 0 120), (120, a_stk (q_int 36) 122), (122, a_newa 1 124), (124, a_put 13 32 ckR 127), (127, a_aload 0 128), (128, a_stk (q_int 36) 130), (130, a_newa 1 132), (132, a_put 13 33 ckR 135), (135, a_aload 0 136), (136, a_stk (q_int 3) 137), (137, a_newa 1 139), (139, a_put 13 34 ckR 142), (142, a_aload 0 143), (143, a_stk (q_int 3) 144), (144, a_newa 1 146), (146, a_put 13 37 ckR 149), (149, a_aload 0 150), (150, a_stk (q_int 3) 151), (151, a_newa 1 153), (153, a_put 13 38 ckR 156), (156, a_aload 0 157), (157, a_stk (q_int 6) 159), (159, a_newa 1 161), (161, a_put 13 40 ckR 164), (164, a_aload 0 165), (165, a_stk (q_int 6) 167), (167, a_newa 1 169), (169, a_put 13 41 ckR 172), (172, a_aload 0 173), (173, a_stk (q_int 720) 176), (176, a_newa 1 178), (178, a_put 13 42 ckR 181), (181, a_aload 0 182), (182, a_stk (q_int 6) 184), (184, a_newa 1 186), (186, a_put 13 45 ckR 189), (189, a_aload 0 190), (190, a_stk (q_int (-1)) 191), (191, a_put 13 46 ckI 194), (194, a_aload 0 195), (195, a_stk (q_int (-1)) 196), (196, a_put 13 47 ckI 199), (199, a_aload 0 200), (200, a_stk (q_int 64) 202), (202, a_newa 1 204), (204, a_put 13 48 ckR 207), (207, a_aload 0 208), (208, a_stk (q_int 160) 211), (211, a_newa 1 213), (213, a_put 13 51 ckR 216), (216, a_aload 0 217), (217, a_stk (q_int 4) 218), (218, a_newa 1 220), (220, a_put 13 52 ckR 223), (223, a_aload 0 224), (224, a_stk (q_int 240) 227), (227, a_newa 1 229), (229, a_put 13 55 ckR 232), (232, a_aload 0 233), (233, a_callV true (fX12_startRead kn) 13 1 236), (236, a_stk (q_int 0) 237), (237, a_istore 1 238), (238, a_iload 1 239), (239, a_stk (q_int 94) 241), (241, a_icmp kn b_ge 3 262 244), (244, a_aload 0 245), (245, a_get 13 14 248), (248, a_iload 1 249), (249, a_aload 0 250), (250, a_get 13 15 253), (253, a_iload 1 254), (254, a_iald 255), (255, a_iast 256), (256, a_iinc 1 1 259), (259, a_goto 238), (262, a_aload 0 263), (263, a_callV true (fX12_startSo kn) 13 1 266), (266, a_vret)]
def fX12_init (kn : sKn) : List Value → sW → Option sR := mF (tX12_init kn) 2 1000000
set_option maxRecDepth 100000 in
set_option maxHeartbeats 4000000 in
theorem mX12_init (kn : sKn) : mM kn yX12_init (Cond.code yX12_init cX12_init 2 none :: wsL_law) 2 true (fX12_init kn) := mM_of (own := RX12) (ini := true) rfl (by decide +kernel) (by decide +kernel) (all_c (ok_aload_n dX12_init_0 rfl) (all_c (ok_obj (by decide) kw895 kw2 kw3 dX12_init_1) (all_c (ok_aload_n dX12_init_4 rfl) (all_c (ok_stk (s_sipush dX12_init_5 (by decide))) (all_c (ok_newI kw31 dX12_init_8) (all_c (okp_X12_1 kw734 dX12_init_10) (all_c (ok_aload_n dX12_init_13 rfl) (all_c (ok_stk (s_sipush dX12_init_14 (by decide))) (all_c (ok_newI kw31 dX12_init_17) (all_c (okp_X12_14 kw683 dX12_init_19) (all_c (ok_aload_n dX12_init_22 rfl) (all_c (ok_stk (s_bipush dX12_init_23 (by decide))) (all_c (ok_newI kw31 dX12_init_25) (all_c (okp_X12_15 kw807 dX12_init_27) (all_c (ok_aload_n dX12_init_30 rfl) (all_c (ok_stk (s_sipush dX12_init_31 (by decide))) (all_c (ok_newI kw31 dX12_init_34) (all_c (okp_X12_16 kw892 dX12_init_36) (all_c (ok_aload_n dX12_init_39 rfl) (all_c (ok_stk (s_sipush dX12_init_40 (by decide))) (all_c (ok_newI kw31 dX12_init_43) (all_c (okp_X12_17 kw762 dX12_init_45) (all_c (ok_aload_n dX12_init_48 rfl) (all_c (ok_stk (s_bipush dX12_init_49 (by decide))) (all_c (ok_newI kw31 dX12_init_51) (all_c (okp_X12_18 kw760 dX12_init_53) (all_c (ok_aload_n dX12_init_56 rfl) (all_c (ok_stk (s_bipush dX12_init_57 (by decide))) (all_c (ok_newJ kw451 dX12_init_59) (all_c (okp_X12_19 kw823 dX12_init_61) (all_c (ok_aload_n dX12_init_64 rfl) (all_c (ok_stk (s_bipush dX12_init_65 (by decide))) (all_c (ok_newJ kw451 dX12_init_67) (all_c (okp_X12_20 kw824 dX12_init_69) (all_c (ok_aload_n dX12_init_72 rfl) (all_c (ok_stk (s_bipush dX12_init_73 (by decide))) (all_c (ok_newJ kw451 dX12_init_75) (all_c (okp_X12_21 kw893 dX12_init_77) (all_c (ok_aload_n dX12_init_80 rfl) (all_c (ok_stk (s_iconst dX12_init_81 (by decide))) (all_c (ok_newZ kw516 dX12_init_82) (all_c (okp_X12_22 kw894 dX12_init_84) (all_c (ok_aload_n dX12_init_87 rfl) (all_c (ok_stk (s_bipush dX12_init_88 (by decide))) (all_c (ok_newI kw31 dX12_init_90) (all_c (okp_X12_27 kw682 dX12_init_92) (all_c (ok_aload_n dX12_init_95 rfl) (all_c (ok_stk (s_bipush dX12_init_96 (by decide))) (all_c (ok_newI kw31 dX12_init_98) (all_c (okp_X12_29 kw896 dX12_init_100) (all_c (ok_aload_n dX12_init_103 rfl) (all_c (ok_stk (s_bipush dX12_init_104 (by decide))) (all_c (ok_newI kw31 dX12_init_106) (all_c (okp_X12_30 kw897 dX12_init_108) (all_c (ok_aload_n dX12_init_111 rfl) (all_c (ok_stk (s_bipush dX12_init_112 (by decide))) (all_c (ok_newI kw31 dX12_init_114) (all_c (okp_X12_31 kw715 dX12_init_116) (all_c (ok_aload_n dX12_init_119 rfl) (all_c (ok_stk (s_bipush dX12_init_120 (by decide))) (all_c (ok_newI kw31 dX12_init_122) (all_c (okp_X12_32 kw723 dX12_init_124) (all_c (ok_aload_n dX12_init_127 rfl) (all_c (ok_stk (s_bipush dX12_init_128 (by decide))) (all_c (ok_newI kw31 dX12_init_130) (all_c (okp_X12_33 kw706 dX12_init_132) (all_c (ok_aload_n dX12_init_135 rfl) (all_c (ok_stk (s_iconst dX12_init_136 (by decide))) (all_c (ok_newI kw31 dX12_init_137) (all_c (okp_X12_34 kw898 dX12_init_139) (all_c (ok_aload_n dX12_init_142 rfl) (all_c (ok_stk (s_iconst dX12_init_143 (by decide))) (all_c (ok_newI kw31 dX12_init_144) (all_c (okp_X12_37 kw853 dX12_init_146) (all_c (ok_aload_n dX12_init_149 rfl) (all_c (ok_stk (s_iconst dX12_init_150 (by decide))) (all_c (ok_newI kw31 dX12_init_151) (all_c (okp_X12_38 kw852 dX12_init_153) (all_c (ok_aload_n dX12_init_156 rfl) (all_c (ok_stk (s_bipush dX12_init_157 (by decide))) (all_c (ok_newI kw31 dX12_init_159) (all_c (okp_X12_40 kw899 dX12_init_161) (all_c (ok_aload_n dX12_init_164 rfl) (all_c (ok_stk (s_bipush dX12_init_165 (by decide))) (all_c (ok_newI kw31 dX12_init_167) (all_c (okp_X12_41 kw900 dX12_init_169) (all_c (ok_aload_n dX12_init_172 rfl) (all_c (ok_stk (s_sipush dX12_init_173 (by decide))) (all_c (ok_newI kw31 dX12_init_176) (all_c (okp_X12_42 kw901 dX12_init_178) (all_c (ok_aload_n dX12_init_181 rfl) (all_c (ok_stk (s_bipush dX12_init_182 (by decide))) (all_c (ok_newI kw31 dX12_init_184) (all_c (okp_X12_45 kw878 dX12_init_186) (all_c (ok_aload_n dX12_init_189 rfl) (all_c (ok_stk (s_iconst dX12_init_190 (by decide))) (all_c (okp_X12_46 kw883 dX12_init_191) (all_c (ok_aload_n dX12_init_194 rfl) (all_c (ok_stk (s_iconst dX12_init_195 (by decide))) (all_c (okp_X12_47 kw884 dX12_init_196) (all_c (ok_aload_n dX12_init_199 rfl) (all_c (ok_stk (s_bipush dX12_init_200 (by decide))) (all_c (ok_newI kw31 dX12_init_202) (all_c (okp_X12_48 kw842 dX12_init_204) (all_c (ok_aload_n dX12_init_207 rfl) (all_c (ok_stk (s_sipush dX12_init_208 (by decide))) (all_c (ok_newI kw31 dX12_init_211) (all_c (okp_X12_51 kw788 dX12_init_213) (all_c (ok_aload_n dX12_init_216 rfl) (all_c (ok_stk (s_iconst dX12_init_217 (by decide))) (all_c (ok_newI kw31 dX12_init_218) (all_c (okp_X12_52 kw793 dX12_init_220) (all_c (ok_aload_n dX12_init_223 rfl) (all_c (ok_stk (s_sipush dX12_init_224 (by decide))) (all_c (ok_newI kw31 dX12_init_227) (all_c (okp_X12_55 kw902 dX12_init_229) (all_c (ok_aload_n dX12_init_232 rfl) (all_c (okc_X12_startRead (by decide) kw811 dX12_init_233) (all_c (ok_stk (s_iconst dX12_init_236 (by decide))) (all_c (ok_istore_n dX12_init_237 rfl (by decide)) (all_c (ok_iload_n dX12_init_238 rfl) (all_c (ok_stk (s_bipush dX12_init_239 (by decide))) (all_c (ok_icmp_ge dX12_init_241 (by decide)) (all_c (ok_aload_n dX12_init_244 rfl) (all_c (okg_X12_14 kw683 dX12_init_245) (all_c (ok_iload_n dX12_init_248 rfl) (all_c (ok_aload_n dX12_init_249 rfl) (all_c (okg_X12_15 kw807 dX12_init_250) (all_c (ok_iload_n dX12_init_253 rfl) (all_c (ok_iald dX12_init_254) (all_c (ok_iast dX12_init_255) (all_c (ok_iinc dX12_init_256 (by decide) (by decide)) (all_c (ok_goto dX12_init_259 (by decide)) (all_c (ok_aload_n dX12_init_262 rfl) (all_c (okc_X12_startSo (by decide) kw828 dX12_init_263) (all_c (ok_vret dX12_init_266) all_n)))))))))))))))))))))))))))))))))))))))))))))))))))))))))))))))))))))))))))))))))))))))))))))))))))))))))))))))))))))))))))))))))))))))) 1000000 (fun h => by first | rfl | cases h)
theorem dX12_isSign_0 : decode cX12_isSign 0 = .ok (.aload_n 0, 1) := by decide +kernel
theorem dX12_isSign_1 : decode cX12_isSign 1 = .ok (.getfield 30, 3) := by decide +kernel
theorem dX12_isSign_4 : decode cX12_isSign 4 = .ok (.iconst 4, 1) := by decide +kernel
theorem dX12_isSign_5 : decode cX12_isSign 5 = .ok (.if_icmp .ne 15, 3) := by decide +kernel
theorem dX12_isSign_8 : decode cX12_isSign 8 = .ok (.aload_n 0, 1) := by decide +kernel
theorem dX12_isSign_9 : decode cX12_isSign 9 = .ok (.getfield 40, 3) := by decide +kernel
theorem dX12_isSign_12 : decode cX12_isSign 12 = .ok (.iload_n 1, 1) := by decide +kernel
theorem dX12_isSign_13 : decode cX12_isSign 13 = .ok (.if_icmp .ne 7, 3) := by decide +kernel
theorem dX12_isSign_16 : decode cX12_isSign 16 = .ok (.iconst 1, 1) := by decide +kernel
theorem dX12_isSign_17 : decode cX12_isSign 17 = .ok (.goto 4, 3) := by decide +kernel
theorem dX12_isSign_20 : decode cX12_isSign 20 = .ok (.iconst 0, 1) := by decide +kernel
theorem dX12_isSign_21 : decode cX12_isSign 21 = .ok (.ireturn, 1) := by decide +kernel
def tX12_isSign (kn : sKn) : List (Nat × sA) := [(0, a_aload 0 1), (1, a_get 13 7 4), (4, a_stk (q_int 4) 5), (5, a_icmp kn b_ne 1 20 8), (8, a_aload 0 9), (9, a_get 13 9 12), (12, a_iload 1 13), (13, a_icmp kn b_ne 1 20 16), (16, a_stk (q_int 1) 17), (17, a_goto 21), (20, a_stk (q_int 0) 21), (21, a_zret)]
def fX12_isSign (kn : sKn) : List Value → sW → Option sR := mF (tX12_isSign kn) 2 1000000
set_option maxRecDepth 100000 in
set_option maxHeartbeats 4000000 in
theorem mX12_isSign (kn : sKn) : mM kn yX12_isSign (Cond.code yX12_isSign cX12_isSign 2 (some .boolean) :: wsL_law) 1 false (fX12_isSign kn) := mM_of (own := RX12) (ini := false) rfl (by decide +kernel) (by decide +kernel) (all_c (ok_aload_n dX12_isSign_0 rfl) (all_c (okg_X12_7 kw724 dX12_isSign_1) (all_c (ok_stk (s_iconst dX12_isSign_4 (by decide))) (all_c (ok_icmp_ne dX12_isSign_5 (by decide)) (all_c (ok_aload_n dX12_isSign_8 rfl) (all_c (okg_X12_9 kw742 dX12_isSign_9) (all_c (ok_iload_n dX12_isSign_12 rfl) (all_c (ok_icmp_ne dX12_isSign_13 (by decide)) (all_c (ok_stk (s_iconst dX12_isSign_16 (by decide))) (all_c (ok_goto dX12_isSign_17 (by decide)) (all_c (ok_stk (s_iconst dX12_isSign_20 (by decide))) (all_c (ok_zret dX12_isSign_21) all_n)))))))))))) 1000000 (fun h => by first | rfl | cases h)
theorem dX12_isWord_0 : decode cX12_isWord 0 = .ok (.aload_n 0, 1) := by decide +kernel
theorem dX12_isWord_1 : decode cX12_isWord 1 = .ok (.getfield 30, 3) := by decide +kernel
theorem dX12_isWord_4 : decode cX12_isWord 4 = .ok (.iconst 2, 1) := by decide +kernel
theorem dX12_isWord_5 : decode cX12_isWord 5 = .ok (.if_icmp .ne 19, 3) := by decide +kernel
theorem dX12_isWord_8 : decode cX12_isWord 8 = .ok (.aload_n 0, 1) := by decide +kernel
theorem dX12_isWord_9 : decode cX12_isWord 9 = .ok (.getfield 43, 3) := by decide +kernel
theorem dX12_isWord_12 : decode cX12_isWord 12 = .ok (.iload_n 1, 1) := by decide +kernel
theorem dX12_isWord_13 : decode cX12_isWord 13 = .ok (.invokestatic 62, 3) := by decide +kernel
theorem dX12_isWord_16 : decode cX12_isWord 16 = .ok (.lcmp, 1) := by decide +kernel
theorem dX12_isWord_17 : decode cX12_isWord 17 = .ok (.ifCond .ne 7, 3) := by decide +kernel
theorem dX12_isWord_20 : decode cX12_isWord 20 = .ok (.iconst 1, 1) := by decide +kernel
theorem dX12_isWord_21 : decode cX12_isWord 21 = .ok (.goto 4, 3) := by decide +kernel
theorem dX12_isWord_24 : decode cX12_isWord 24 = .ok (.iconst 0, 1) := by decide +kernel
theorem dX12_isWord_25 : decode cX12_isWord 25 = .ok (.ireturn, 1) := by decide +kernel
theorem okc0_X12_wordOf {kn : sKn} {cc : ByteArray} {own : String} {nL : Nat} {D : Nat} {ret : Option FieldType} {ini : Bool} {pc index : Nat} (hD : 0 + 1 ≤ D) (hl : Cond.methodLink own index yX12_wordOf ∈ wsL_law) (hd : decode cc pc = .ok (.invokestatic index, 3)) : mOk kn cc own nL wsL_law D ret ini pc (a_callS false f_none 1 (pc + 3)) := ok_callS (m_none (D := 0)) (good_ws ws_good (fun _ h => h) kw903) hD (by decide) hl kw904 kw686 ⟨by decide +kernel, by decide +kernel, by decide +kernel⟩ hd
def tX12_isWord (kn : sKn) : List (Nat × sA) := [(0, a_aload 0 1), (1, a_get 13 7 4), (4, a_stk (q_int 2) 5), (5, a_icmp kn b_ne 1 24 8), (8, a_aload 0 9), (9, a_get 13 12 12), (12, a_iload 1 13), (13, a_callS false f_none 1 16), (16, a_stk q_lcmp 17), (17, a_if kn b_ne 1 24 20), (20, a_stk (q_int 1) 21), (21, a_goto 25), (24, a_stk (q_int 0) 25), (25, a_zret)]
def fX12_isWord (kn : sKn) : List Value → sW → Option sR := mF (tX12_isWord kn) 2 1000000
set_option maxRecDepth 100000 in
set_option maxHeartbeats 4000000 in
theorem mX12_isWord (kn : sKn) : mM kn yX12_isWord (Cond.code yX12_isWord cX12_isWord 2 (some .boolean) :: wsL_law) 1 false (fX12_isWord kn) := mM_of (own := RX12) (ini := false) rfl (by decide +kernel) (by decide +kernel) (all_c (ok_aload_n dX12_isWord_0 rfl) (all_c (okg_X12_7 kw724 dX12_isWord_1) (all_c (ok_stk (s_iconst dX12_isWord_4 (by decide))) (all_c (ok_icmp_ne dX12_isWord_5 (by decide)) (all_c (ok_aload_n dX12_isWord_8 rfl) (all_c (okg_X12_12 kw743 dX12_isWord_9) (all_c (ok_iload_n dX12_isWord_12 rfl) (all_c (okc0_X12_wordOf (by decide) kw905 dX12_isWord_13) (all_c (ok_stk (s_lcmp dX12_isWord_16)) (all_c (ok_if_ne dX12_isWord_17 (by decide)) (all_c (ok_stk (s_iconst dX12_isWord_20 (by decide))) (all_c (ok_goto dX12_isWord_21 (by decide)) (all_c (ok_stk (s_iconst dX12_isWord_24 (by decide))) (all_c (ok_zret dX12_isWord_25) all_n)))))))))))))) 1000000 (fun h => by first | rfl | cases h)
theorem dX12_keystone_0 : decode cX12_keystone 0 = .ok (.aload_n 0, 1) := by decide +kernel
theorem dX12_keystone_1 : decode cX12_keystone 1 = .ok (.iconst 0, 1) := by decide +kernel
theorem dX12_keystone_2 : decode cX12_keystone 2 = .ok (.putfield 1, 3) := by decide +kernel
theorem dX12_keystone_5 : decode cX12_keystone 5 = .ok (.iconst (-1), 1) := by decide +kernel
theorem dX12_keystone_6 : decode cX12_keystone 6 = .ok (.istore_n 1, 1) := by decide +kernel
theorem dX12_keystone_7 : decode cX12_keystone 7 = .ok (.ldc_w 308, 3) := by decide +kernel
theorem dX12_keystone_10 : decode cX12_keystone 10 = .ok (.istore_n 2, 1) := by decide +kernel
theorem dX12_keystone_11 : decode cX12_keystone 11 = .ok (.iconst 0, 1) := by decide +kernel
theorem dX12_keystone_12 : decode cX12_keystone 12 = .ok (.istore_n 3, 1) := by decide +kernel
theorem dX12_keystone_13 : decode cX12_keystone 13 = .ok (.iload_n 3, 1) := by decide +kernel
theorem dX12_keystone_14 : decode cX12_keystone 14 = .ok (.aload_n 0, 1) := by decide +kernel
theorem dX12_keystone_15 : decode cX12_keystone 15 = .ok (.getfield 98, 3) := by decide +kernel
theorem dX12_keystone_18 : decode cX12_keystone 18 = .ok (.iconst 1, 1) := by decide +kernel
theorem dX12_keystone_19 : decode cX12_keystone 19 = .ok (.iaload, 1) := by decide +kernel
theorem dX12_keystone_20 : decode cX12_keystone 20 = .ok (.if_icmp .ge 68, 3) := by decide +kernel
theorem dX12_keystone_23 : decode cX12_keystone 23 = .ok (.aload_n 0, 1) := by decide +kernel
theorem dX12_keystone_24 : decode cX12_keystone 24 = .ok (.invokevirtual 292, 3) := by decide +kernel
theorem dX12_keystone_27 : decode cX12_keystone 27 = .ok (.iconst 0, 1) := by decide +kernel
theorem dX12_keystone_28 : decode cX12_keystone 28 = .ok (.istore 4, 2) := by decide +kernel
theorem dX12_keystone_30 : decode cX12_keystone 30 = .ok (.iload 4, 2) := by decide +kernel
theorem dX12_keystone_32 : decode cX12_keystone 32 = .ok (.bipush 36, 2) := by decide +kernel
theorem dX12_keystone_34 : decode cX12_keystone 34 = .ok (.if_icmp .ge 28, 3) := by decide +kernel
theorem dX12_keystone_37 : decode cX12_keystone 37 = .ok (.aload_n 0, 1) := by decide +kernel
theorem dX12_keystone_38 : decode cX12_keystone 38 = .ok (.getfield 127, 3) := by decide +kernel
theorem dX12_keystone_41 : decode cX12_keystone 41 = .ok (.iload 4, 2) := by decide +kernel
theorem dX12_keystone_43 : decode cX12_keystone 43 = .ok (.iaload, 1) := by decide +kernel
theorem dX12_keystone_44 : decode cX12_keystone 44 = .ok (.iload_n 3, 1) := by decide +kernel
theorem dX12_keystone_45 : decode cX12_keystone 45 = .ok (.if_icmp .ne 11, 3) := by decide +kernel
theorem dX12_keystone_48 : decode cX12_keystone 48 = .ok (.aload_n 0, 1) := by decide +kernel
theorem dX12_keystone_49 : decode cX12_keystone 49 = .ok (.getfield 127, 3) := by decide +kernel
theorem dX12_keystone_52 : decode cX12_keystone 52 = .ok (.iload 4, 2) := by decide +kernel
theorem dX12_keystone_54 : decode cX12_keystone 54 = .ok (.iconst (-1), 1) := by decide +kernel
theorem dX12_keystone_55 : decode cX12_keystone 55 = .ok (.iastore, 1) := by decide +kernel
theorem dX12_keystone_56 : decode cX12_keystone 56 = .ok (.iinc 4 1, 3) := by decide +kernel
theorem dX12_keystone_59 : decode cX12_keystone 59 = .ok (.goto (-29), 3) := by decide +kernel
theorem dX12_keystone_62 : decode cX12_keystone 62 = .ok (.aload_n 0, 1) := by decide +kernel
theorem dX12_keystone_63 : decode cX12_keystone 63 = .ok (.invokevirtual 383, 3) := by decide +kernel
theorem dX12_keystone_66 : decode cX12_keystone 66 = .ok (.istore 4, 2) := by decide +kernel
theorem dX12_keystone_68 : decode cX12_keystone 68 = .ok (.iload 4, 2) := by decide +kernel
theorem dX12_keystone_70 : decode cX12_keystone 70 = .ok (.iload_n 2, 1) := by decide +kernel
theorem dX12_keystone_71 : decode cX12_keystone 71 = .ok (.if_icmp .lt 6, 3) := by decide +kernel
theorem dX12_keystone_74 : decode cX12_keystone 74 = .ok (.goto 8, 3) := by decide +kernel
theorem dX12_keystone_77 : decode cX12_keystone 77 = .ok (.iload 4, 2) := by decide +kernel
theorem dX12_keystone_79 : decode cX12_keystone 79 = .ok (.istore_n 2, 1) := by decide +kernel
theorem dX12_keystone_80 : decode cX12_keystone 80 = .ok (.iload_n 3, 1) := by decide +kernel
theorem dX12_keystone_81 : decode cX12_keystone 81 = .ok (.istore_n 1, 1) := by decide +kernel
theorem dX12_keystone_82 : decode cX12_keystone 82 = .ok (.iinc 3 1, 3) := by decide +kernel
theorem dX12_keystone_85 : decode cX12_keystone 85 = .ok (.goto (-72), 3) := by decide +kernel
theorem dX12_keystone_88 : decode cX12_keystone 88 = .ok (.iload_n 1, 1) := by decide +kernel
theorem dX12_keystone_89 : decode cX12_keystone 89 = .ok (.ireturn, 1) := by decide +kernel
def tX12_keystone (kn : sKn) : List (Nat × sA) := [(0, a_aload 0 1), (1, a_stk (q_int 0) 2), (2, a_put 13 0 ckI 5), (5, a_stk (q_int (-1)) 6), (6, a_istore 1 7), (7, a_stk (q_int (100000)) 10), (10, a_istore 2 11), (11, a_stk (q_int 0) 12), (12, a_istore 3 13), (13, a_iload 3 14), (14, a_aload 0 15), (15, a_get 13 14 18), (18, a_stk (q_int 1) 19), (19, a_iald 20), (20, a_icmp kn b_ge 3 88 23), (23, a_aload 0 24), (24, a_callV true (fX12_layWhose kn) 13 1 27), (27, a_stk (q_int 0) 28), (28, a_istore 4 30), (30, a_iload 4 32), (32, a_stk (q_int 36) 34), (34, a_icmp kn b_ge 3 62 37), (37, a_aload 0 38), (38, a_get 13 27 41), (41, a_iload 4 43), (43, a_iald 44), (44, a_iload 3 45), (45, a_icmp kn b_ne 1 56 48), (48, a_aload 0 49), (49, a_get 13 27 52), (52, a_iload 4 54), (54, a_stk (q_int (-1)) 55), (55, a_iast 56), (56, a_iinc 4 1 59), (59, a_goto 30), (62, a_aload 0 63), (63, a_callV false (fX12_pathsNow kn) 13 1 66), (66, a_istore 4 68), (68, a_iload 4 70), (70, a_iload 2 71), (71, a_icmp kn b_lt 2 77 74), (74, a_goto 82), (77, a_iload 4 79), (79, a_istore 2 80), (80, a_iload 3 81), (81, a_istore 1 82), (82, a_iinc 3 1 85), (85, a_goto 13), (88, a_iload 1 89), (89, a_iret)]
def fX12_keystone (kn : sKn) : List Value → sW → Option sR := mF (tX12_keystone kn) 5 1000000
set_option maxRecDepth 100000 in
set_option maxHeartbeats 4000000 in
theorem mX12_keystone (kn : sKn) : mM kn yX12_keystone (Cond.code yX12_keystone cX12_keystone 5 (some .int) :: wsL_law) 2 false (fX12_keystone kn) := mM_of (own := RX12) (ini := false) rfl (by decide +kernel) (by decide +kernel) (all_c (ok_aload_n dX12_keystone_0 rfl) (all_c (ok_stk (s_iconst dX12_keystone_1 (by decide))) (all_c (okp_X12_0 kw693 dX12_keystone_2) (all_c (ok_stk (s_iconst dX12_keystone_5 (by decide))) (all_c (ok_istore_n dX12_keystone_6 rfl (by decide)) (all_c (ok_ldcw kw711 dX12_keystone_7) (all_c (ok_istore_n dX12_keystone_10 rfl (by decide)) (all_c (ok_stk (s_iconst dX12_keystone_11 (by decide))) (all_c (ok_istore_n dX12_keystone_12 rfl (by decide)) (all_c (ok_iload_n dX12_keystone_13 rfl) (all_c (ok_aload_n dX12_keystone_14 rfl) (all_c (okg_X12_14 kw683 dX12_keystone_15) (all_c (ok_stk (s_iconst dX12_keystone_18 (by decide))) (all_c (ok_iald dX12_keystone_19) (all_c (ok_icmp_ge dX12_keystone_20 (by decide)) (all_c (ok_aload_n dX12_keystone_23 rfl) (all_c (okc_X12_layWhose (by decide) kw697 dX12_keystone_24) (all_c (ok_stk (s_iconst dX12_keystone_27 (by decide))) (all_c (ok_istore dX12_keystone_28 (by decide)) (all_c (ok_iload dX12_keystone_30) (all_c (ok_stk (s_bipush dX12_keystone_32 (by decide))) (all_c (ok_icmp_ge dX12_keystone_34 (by decide)) (all_c (ok_aload_n dX12_keystone_37 rfl) (all_c (okg_X12_27 kw682 dX12_keystone_38) (all_c (ok_iload dX12_keystone_41) (all_c (ok_iald dX12_keystone_43) (all_c (ok_iload_n dX12_keystone_44 rfl) (all_c (ok_icmp_ne dX12_keystone_45 (by decide)) (all_c (ok_aload_n dX12_keystone_48 rfl) (all_c (okg_X12_27 kw682 dX12_keystone_49) (all_c (ok_iload dX12_keystone_52) (all_c (ok_stk (s_iconst dX12_keystone_54 (by decide))) (all_c (ok_iast dX12_keystone_55) (all_c (ok_iinc dX12_keystone_56 (by decide) (by decide)) (all_c (ok_goto dX12_keystone_59 (by decide)) (all_c (ok_aload_n dX12_keystone_62 rfl) (all_c (okc_X12_pathsNow (by decide) kw701 dX12_keystone_63) (all_c (ok_istore dX12_keystone_66 (by decide)) (all_c (ok_iload dX12_keystone_68) (all_c (ok_iload_n dX12_keystone_70 rfl) (all_c (ok_icmp_lt dX12_keystone_71 (by decide)) (all_c (ok_goto dX12_keystone_74 (by decide)) (all_c (ok_iload dX12_keystone_77) (all_c (ok_istore_n dX12_keystone_79 rfl (by decide)) (all_c (ok_iload_n dX12_keystone_80 rfl) (all_c (ok_istore_n dX12_keystone_81 rfl (by decide)) (all_c (ok_iinc dX12_keystone_82 (by decide) (by decide)) (all_c (ok_goto dX12_keystone_85 (by decide)) (all_c (ok_iload_n dX12_keystone_88 rfl) (all_c (ok_iret dX12_keystone_89) all_n)))))))))))))))))))))))))))))))))))))))))))))))))) 1000000 (fun h => by first | rfl | cases h)
theorem dX12_lasts_0 : decode cX12_lasts 0 = .ok (.aload_n 0, 1) := by decide +kernel
theorem dX12_lasts_1 : decode cX12_lasts 1 = .ok (.iconst 0, 1) := by decide +kernel
theorem dX12_lasts_2 : decode cX12_lasts 2 = .ok (.putfield 1, 3) := by decide +kernel
theorem dX12_lasts_5 : decode cX12_lasts 5 = .ok (.aload_n 0, 1) := by decide +kernel
theorem dX12_lasts_6 : decode cX12_lasts 6 = .ok (.iload_n 1, 1) := by decide +kernel
theorem dX12_lasts_7 : decode cX12_lasts 7 = .ok (.invokevirtual 295, 3) := by decide +kernel
theorem dX12_lasts_10 : decode cX12_lasts 10 = .ok (.ifCond .ne 5, 3) := by decide +kernel
theorem dX12_lasts_13 : decode cX12_lasts 13 = .ok (.iconst (-1), 1) := by decide +kernel
theorem dX12_lasts_14 : decode cX12_lasts 14 = .ok (.ireturn, 1) := by decide +kernel
theorem dX12_lasts_15 : decode cX12_lasts 15 = .ok (.sipush 200, 3) := by decide +kernel
theorem dX12_lasts_18 : decode cX12_lasts 18 = .ok (.sipush 400, 3) := by decide +kernel
theorem dX12_lasts_21 : decode cX12_lasts 21 = .ok (.aload_n 0, 1) := by decide +kernel
theorem dX12_lasts_22 : decode cX12_lasts 22 = .ok (.getfield 98, 3) := by decide +kernel
theorem dX12_lasts_25 : decode cX12_lasts 25 = .ok (.bipush 94, 2) := by decide +kernel
theorem dX12_lasts_27 : decode cX12_lasts 27 = .ok (.iaload, 1) := by decide +kernel
theorem dX12_lasts_28 : decode cX12_lasts 28 = .ok (.isub, 1) := by decide +kernel
theorem dX12_lasts_29 : decode cX12_lasts 29 = .ok (.invokestatic 312, 3) := by decide +kernel
theorem dX12_lasts_32 : decode cX12_lasts 32 = .ok (.istore_n 2, 1) := by decide +kernel
theorem dX12_lasts_33 : decode cX12_lasts 33 = .ok (.aload_n 0, 1) := by decide +kernel
theorem dX12_lasts_34 : decode cX12_lasts 34 = .ok (.invokevirtual 409, 3) := by decide +kernel
theorem dX12_lasts_37 : decode cX12_lasts 37 = .ok (.aload_n 0, 1) := by decide +kernel
theorem dX12_lasts_38 : decode cX12_lasts 38 = .ok (.iload_n 1, 1) := by decide +kernel
theorem dX12_lasts_39 : decode cX12_lasts 39 = .ok (.iload_n 2, 1) := by decide +kernel
theorem dX12_lasts_40 : decode cX12_lasts 40 = .ok (.iconst 1, 1) := by decide +kernel
theorem dX12_lasts_41 : decode cX12_lasts 41 = .ok (.iadd, 1) := by decide +kernel
theorem dX12_lasts_42 : decode cX12_lasts 42 = .ok (.invokevirtual 412, 3) := by decide +kernel
theorem dX12_lasts_45 : decode cX12_lasts 45 = .ok (.istore_n 3, 1) := by decide +kernel
theorem dX12_lasts_46 : decode cX12_lasts 46 = .ok (.aload_n 0, 1) := by decide +kernel
theorem dX12_lasts_47 : decode cX12_lasts 47 = .ok (.invokevirtual 415, 3) := by decide +kernel
theorem dX12_lasts_50 : decode cX12_lasts 50 = .ok (.iload_n 3, 1) := by decide +kernel
theorem dX12_lasts_51 : decode cX12_lasts 51 = .ok (.iload_n 2, 1) := by decide +kernel
theorem dX12_lasts_52 : decode cX12_lasts 52 = .ok (.if_icmp .le 7, 3) := by decide +kernel
theorem dX12_lasts_55 : decode cX12_lasts 55 = .ok (.iconst (-1), 1) := by decide +kernel
theorem dX12_lasts_56 : decode cX12_lasts 56 = .ok (.goto 12, 3) := by decide +kernel
theorem dX12_lasts_59 : decode cX12_lasts 59 = .ok (.aload_n 0, 1) := by decide +kernel
theorem dX12_lasts_60 : decode cX12_lasts 60 = .ok (.getfield 98, 3) := by decide +kernel
theorem dX12_lasts_63 : decode cX12_lasts 63 = .ok (.bipush 94, 2) := by decide +kernel
theorem dX12_lasts_65 : decode cX12_lasts 65 = .ok (.iaload, 1) := by decide +kernel
theorem dX12_lasts_66 : decode cX12_lasts 66 = .ok (.iload_n 3, 1) := by decide +kernel
theorem dX12_lasts_67 : decode cX12_lasts 67 = .ok (.iadd, 1) := by decide +kernel
theorem dX12_lasts_68 : decode cX12_lasts 68 = .ok (.ireturn, 1) := by decide +kernel
theorem okc0_X12_goesOn {kn : sKn} {cc : ByteArray} {own : String} {nL : Nat} {D : Nat} {ret : Option FieldType} {ini : Bool} {pc index : Nat} (hD : 0 + 1 ≤ D) (hl : Cond.methodLink own index yX12_goesOn ∈ wsL_law) (hd : decode cc pc = .ok (.invokevirtual index, 3)) : mOk kn cc own nL wsL_law D ret ini pc (a_callV false f_none 13 (2 + 1) (pc + 3)) := ok_callV (m_none (D := 0)) (good_ws ws_good (fun _ h => h) kw906) hD (by decide) hl kw907 kw908 kw686 ⟨by decide +kernel, by decide +kernel, by decide +kernel⟩ rfl hd
def tX12_lasts (kn : sKn) : List (Nat × sA) := [(0, a_aload 0 1), (1, a_stk (q_int 0) 2), (2, a_put 13 0 ckI 5), (5, a_aload 0 6), (6, a_iload 1 7), (7, a_callV false (fX12_isLoad kn) 13 2 10), (10, a_if kn b_ne 1 15 13), (13, a_stk (q_int (-1)) 14), (14, a_iret), (15, a_stk (q_int 200) 18), (18, a_stk (q_int 400) 21), (21, a_aload 0 22), (22, a_get 13 14 25), (25, a_stk (q_int 94) 27), (27, a_iald 28), (28, a_stk q_isub 29), (29, a_callS false (fX12_least kn) 2 32), (32, a_istore 2 33), (33, a_aload 0 34), (34, a_callV true (fX12_layAside kn) 13 1 37), (37, a_aload 0 38), (38, a_iload 1 39), (39, a_iload 2 40), (40, a_stk (q_int 1) 41), (41, a_stk q_iadd 42), (42, a_callV false f_none 13 3 45), (45, a_istore 3 46), (46, a_aload 0 47), (47, a_callV true f_none 13 1 50), (50, a_iload 3 51), (51, a_iload 2 52), (52, a_icmp kn b_le 5 59 55), (55, a_stk (q_int (-1)) 56), (56, a_goto 68), (59, a_aload 0 60), (60, a_get 13 14 63), (63, a_stk (q_int 94) 65), (65, a_iald 66), (66, a_iload 3 67), (67, a_stk q_iadd 68), (68, a_iret)]
def fX12_lasts (kn : sKn) : List Value → sW → Option sR := mF (tX12_lasts kn) 4 1000000
set_option maxRecDepth 100000 in
set_option maxHeartbeats 4000000 in
theorem mX12_lasts (kn : sKn) : mM kn yX12_lasts (Cond.code yX12_lasts cX12_lasts 4 (some .int) :: wsL_law) 3 false (fX12_lasts kn) := mM_of (own := RX12) (ini := false) rfl (by decide +kernel) (by decide +kernel) (all_c (ok_aload_n dX12_lasts_0 rfl) (all_c (ok_stk (s_iconst dX12_lasts_1 (by decide))) (all_c (okp_X12_0 kw693 dX12_lasts_2) (all_c (ok_aload_n dX12_lasts_5 rfl) (all_c (ok_iload_n dX12_lasts_6 rfl) (all_c (okc_X12_isLoad (by decide) kw710 dX12_lasts_7) (all_c (ok_if_ne dX12_lasts_10 (by decide)) (all_c (ok_stk (s_iconst dX12_lasts_13 (by decide))) (all_c (ok_iret dX12_lasts_14) (all_c (ok_stk (s_sipush dX12_lasts_15 (by decide))) (all_c (ok_stk (s_sipush dX12_lasts_18 (by decide))) (all_c (ok_aload_n dX12_lasts_21 rfl) (all_c (okg_X12_14 kw683 dX12_lasts_22) (all_c (ok_stk (s_bipush dX12_lasts_25 (by decide))) (all_c (ok_iald dX12_lasts_27) (all_c (ok_stk (s_isub dX12_lasts_28)) (all_c (okc_X12_least (by decide) kw718 dX12_lasts_29) (all_c (ok_istore_n dX12_lasts_32 rfl (by decide)) (all_c (ok_aload_n dX12_lasts_33 rfl) (all_c (okc_X12_layAside (by decide) kw783 dX12_lasts_34) (all_c (ok_aload_n dX12_lasts_37 rfl) (all_c (ok_iload_n dX12_lasts_38 rfl) (all_c (ok_iload_n dX12_lasts_39 rfl) (all_c (ok_stk (s_iconst dX12_lasts_40 (by decide))) (all_c (ok_stk (s_iadd dX12_lasts_41)) (all_c (okc0_X12_goesOn (by decide) kw909 dX12_lasts_42) (all_c (ok_istore_n dX12_lasts_45 rfl (by decide)) (all_c (ok_aload_n dX12_lasts_46 rfl) (all_c (okc0_X12_takeBack (by decide) kw770 dX12_lasts_47) (all_c (ok_iload_n dX12_lasts_50 rfl) (all_c (ok_iload_n dX12_lasts_51 rfl) (all_c (ok_icmp_le dX12_lasts_52 (by decide)) (all_c (ok_stk (s_iconst dX12_lasts_55 (by decide))) (all_c (ok_goto dX12_lasts_56 (by decide)) (all_c (ok_aload_n dX12_lasts_59 rfl) (all_c (okg_X12_14 kw683 dX12_lasts_60) (all_c (ok_stk (s_bipush dX12_lasts_63 (by decide))) (all_c (ok_iald dX12_lasts_65) (all_c (ok_iload_n dX12_lasts_66 rfl) (all_c (ok_stk (s_iadd dX12_lasts_67)) (all_c (ok_iret dX12_lasts_68) all_n))))))))))))))))))))))))))))))))))))))))) 1000000 (fun h => by first | rfl | cases h)
theorem dX12_law_0 : decode cX12_law 0 = .ok (.aload_n 0, 1) := by decide +kernel
theorem dX12_law_1 : decode cX12_law 1 = .ok (.iconst 0, 1) := by decide +kernel
theorem dX12_law_2 : decode cX12_law 2 = .ok (.putfield 1, 3) := by decide +kernel
theorem dX12_law_5 : decode cX12_law 5 = .ok (.aload_n 0, 1) := by decide +kernel
theorem dX12_law_6 : decode cX12_law 6 = .ok (.iload_n 1, 1) := by decide +kernel
theorem dX12_law_7 : decode cX12_law 7 = .ok (.invokevirtual 295, 3) := by decide +kernel
theorem dX12_law_10 : decode cX12_law 10 = .ok (.ifCond .eq 13, 3) := by decide +kernel
theorem dX12_law_13 : decode cX12_law 13 = .ok (.iload_n 2, 1) := by decide +kernel
theorem dX12_law_14 : decode cX12_law 14 = .ok (.iconst 1, 1) := by decide +kernel
theorem dX12_law_15 : decode cX12_law 15 = .ok (.bipush 60, 2) := by decide +kernel
theorem dX12_law_17 : decode cX12_law 17 = .ok (.invokestatic 75, 3) := by decide +kernel
theorem dX12_law_20 : decode cX12_law 20 = .ok (.ifCond .ne 5, 3) := by decide +kernel
theorem dX12_law_23 : decode cX12_law 23 = .ok (.iconst (-1), 1) := by decide +kernel
theorem dX12_law_24 : decode cX12_law 24 = .ok (.ireturn, 1) := by decide +kernel
theorem dX12_law_25 : decode cX12_law 25 = .ok (.aload_n 0, 1) := by decide +kernel
theorem dX12_law_26 : decode cX12_law 26 = .ok (.getfield 98, 3) := by decide +kernel
theorem dX12_law_29 : decode cX12_law 29 = .ok (.iconst 4, 1) := by decide +kernel
theorem dX12_law_30 : decode cX12_law 30 = .ok (.iaload, 1) := by decide +kernel
theorem dX12_law_31 : decode cX12_law 31 = .ok (.istore_n 3, 1) := by decide +kernel
theorem dX12_law_32 : decode cX12_law 32 = .ok (.iconst (-1), 1) := by decide +kernel
theorem dX12_law_33 : decode cX12_law 33 = .ok (.istore 4, 2) := by decide +kernel
theorem dX12_law_35 : decode cX12_law 35 = .ok (.aload_n 0, 1) := by decide +kernel
theorem dX12_law_36 : decode cX12_law 36 = .ok (.invokevirtual 409, 3) := by decide +kernel
theorem dX12_law_39 : decode cX12_law 39 = .ok (.iconst 0, 1) := by decide +kernel
theorem dX12_law_40 : decode cX12_law 40 = .ok (.istore 5, 2) := by decide +kernel
theorem dX12_law_42 : decode cX12_law 42 = .ok (.iload 5, 2) := by decide +kernel
theorem dX12_law_44 : decode cX12_law 44 = .ok (.bipush 30, 2) := by decide +kernel
theorem dX12_law_46 : decode cX12_law 46 = .ok (.if_icmp .gt 41, 3) := by decide +kernel
theorem dX12_law_49 : decode cX12_law 49 = .ok (.iload 4, 2) := by decide +kernel
theorem dX12_law_51 : decode cX12_law 51 = .ok (.iconst (-1), 1) := by decide +kernel
theorem dX12_law_52 : decode cX12_law 52 = .ok (.if_icmp .ne 35, 3) := by decide +kernel
theorem dX12_law_55 : decode cX12_law 55 = .ok (.aload_n 0, 1) := by decide +kernel
theorem dX12_law_56 : decode cX12_law 56 = .ok (.getfield 98, 3) := by decide +kernel
theorem dX12_law_59 : decode cX12_law 59 = .ok (.iconst 4, 1) := by decide +kernel
theorem dX12_law_60 : decode cX12_law 60 = .ok (.iload 5, 2) := by decide +kernel
theorem dX12_law_62 : decode cX12_law 62 = .ok (.iastore, 1) := by decide +kernel
theorem dX12_law_63 : decode cX12_law 63 = .ok (.aload_n 0, 1) := by decide +kernel
theorem dX12_law_64 : decode cX12_law 64 = .ok (.iload_n 1, 1) := by decide +kernel
theorem dX12_law_65 : decode cX12_law 65 = .ok (.iload_n 2, 1) := by decide +kernel
theorem dX12_law_66 : decode cX12_law 66 = .ok (.invokevirtual 412, 3) := by decide +kernel
theorem dX12_law_69 : decode cX12_law 69 = .ok (.iload_n 2, 1) := by decide +kernel
theorem dX12_law_70 : decode cX12_law 70 = .ok (.if_icmp .ne 7, 3) := by decide +kernel
theorem dX12_law_73 : decode cX12_law 73 = .ok (.iload 5, 2) := by decide +kernel
theorem dX12_law_75 : decode cX12_law 75 = .ok (.istore 4, 2) := by decide +kernel
theorem dX12_law_77 : decode cX12_law 77 = .ok (.aload_n 0, 1) := by decide +kernel
theorem dX12_law_78 : decode cX12_law 78 = .ok (.invokevirtual 415, 3) := by decide +kernel
theorem dX12_law_81 : decode cX12_law 81 = .ok (.iinc 5 1, 3) := by decide +kernel
theorem dX12_law_84 : decode cX12_law 84 = .ok (.goto (-42), 3) := by decide +kernel
theorem dX12_law_87 : decode cX12_law 87 = .ok (.aload_n 0, 1) := by decide +kernel
theorem dX12_law_88 : decode cX12_law 88 = .ok (.getfield 98, 3) := by decide +kernel
theorem dX12_law_91 : decode cX12_law 91 = .ok (.iconst 4, 1) := by decide +kernel
theorem dX12_law_92 : decode cX12_law 92 = .ok (.iload_n 3, 1) := by decide +kernel
theorem dX12_law_93 : decode cX12_law 93 = .ok (.iastore, 1) := by decide +kernel
theorem dX12_law_94 : decode cX12_law 94 = .ok (.iload 4, 2) := by decide +kernel
theorem dX12_law_96 : decode cX12_law 96 = .ok (.ireturn, 1) := by decide +kernel
def tX12_law (kn : sKn) : List (Nat × sA) := [(0, a_aload 0 1), (1, a_stk (q_int 0) 2), (2, a_put 13 0 ckI 5), (5, a_aload 0 6), (6, a_iload 1 7), (7, a_callV false (fX12_isLoad kn) 13 2 10), (10, a_if kn b_eq 0 23 13), (13, a_iload 2 14), (14, a_stk (q_int 1) 15), (15, a_stk (q_int 60) 17), (17, a_callS false (fX12_isIn kn) 3 20), (20, a_if kn b_ne 1 25 23), (23, a_stk (q_int (-1)) 24), (24, a_iret), (25, a_aload 0 26), (26, a_get 13 14 29), (29, a_stk (q_int 4) 30), (30, a_iald 31), (31, a_istore 3 32), (32, a_stk (q_int (-1)) 33), (33, a_istore 4 35), (35, a_aload 0 36), (36, a_callV true (fX12_layAside kn) 13 1 39), (39, a_stk (q_int 0) 40), (40, a_istore 5 42), (42, a_iload 5 44), (44, a_stk (q_int 30) 46), (46, a_icmp kn b_gt 4 87 49), (49, a_iload 4 51), (51, a_stk (q_int (-1)) 52), (52, a_icmp kn b_ne 1 87 55), (55, a_aload 0 56), (56, a_get 13 14 59), (59, a_stk (q_int 4) 60), (60, a_iload 5 62), (62, a_iast 63), (63, a_aload 0 64), (64, a_iload 1 65), (65, a_iload 2 66), (66, a_callV false f_none 13 3 69), (69, a_iload 2 70), (70, a_icmp kn b_ne 1 77 73), (73, a_iload 5 75), (75, a_istore 4 77), (77, a_aload 0 78), (78, a_callV true f_none 13 1 81), (81, a_iinc 5 1 84), (84, a_goto 42), (87, a_aload 0 88), (88, a_get 13 14 91), (91, a_stk (q_int 4) 92), (92, a_iload 3 93), (93, a_iast 94), (94, a_iload 4 96), (96, a_iret)]
def fX12_law (kn : sKn) : List Value → sW → Option sR := mF (tX12_law kn) 6 1000000
set_option maxRecDepth 100000 in
set_option maxHeartbeats 4000000 in
theorem mX12_law (kn : sKn) : mM kn yX12_law (Cond.code yX12_law cX12_law 6 (some .int) :: wsL_law) 3 false (fX12_law kn) := mM_of (own := RX12) (ini := false) rfl (by decide +kernel) (by decide +kernel) (all_c (ok_aload_n dX12_law_0 rfl) (all_c (ok_stk (s_iconst dX12_law_1 (by decide))) (all_c (okp_X12_0 kw693 dX12_law_2) (all_c (ok_aload_n dX12_law_5 rfl) (all_c (ok_iload_n dX12_law_6 rfl) (all_c (okc_X12_isLoad (by decide) kw710 dX12_law_7) (all_c (ok_if_eq dX12_law_10 (by decide)) (all_c (ok_iload_n dX12_law_13 rfl) (all_c (ok_stk (s_iconst dX12_law_14 (by decide))) (all_c (ok_stk (s_bipush dX12_law_15 (by decide))) (all_c (okc_X12_isIn (by decide) kw705 dX12_law_17) (all_c (ok_if_ne dX12_law_20 (by decide)) (all_c (ok_stk (s_iconst dX12_law_23 (by decide))) (all_c (ok_iret dX12_law_24) (all_c (ok_aload_n dX12_law_25 rfl) (all_c (okg_X12_14 kw683 dX12_law_26) (all_c (ok_stk (s_iconst dX12_law_29 (by decide))) (all_c (ok_iald dX12_law_30) (all_c (ok_istore_n dX12_law_31 rfl (by decide)) (all_c (ok_stk (s_iconst dX12_law_32 (by decide))) (all_c (ok_istore dX12_law_33 (by decide)) (all_c (ok_aload_n dX12_law_35 rfl) (all_c (okc_X12_layAside (by decide) kw783 dX12_law_36) (all_c (ok_stk (s_iconst dX12_law_39 (by decide))) (all_c (ok_istore dX12_law_40 (by decide)) (all_c (ok_iload dX12_law_42) (all_c (ok_stk (s_bipush dX12_law_44 (by decide))) (all_c (ok_icmp_gt dX12_law_46 (by decide)) (all_c (ok_iload dX12_law_49) (all_c (ok_stk (s_iconst dX12_law_51 (by decide))) (all_c (ok_icmp_ne dX12_law_52 (by decide)) (all_c (ok_aload_n dX12_law_55 rfl) (all_c (okg_X12_14 kw683 dX12_law_56) (all_c (ok_stk (s_iconst dX12_law_59 (by decide))) (all_c (ok_iload dX12_law_60) (all_c (ok_iast dX12_law_62) (all_c (ok_aload_n dX12_law_63 rfl) (all_c (ok_iload_n dX12_law_64 rfl) (all_c (ok_iload_n dX12_law_65 rfl) (all_c (okc0_X12_goesOn (by decide) kw909 dX12_law_66) (all_c (ok_iload_n dX12_law_69 rfl) (all_c (ok_icmp_ne dX12_law_70 (by decide)) (all_c (ok_iload dX12_law_73) (all_c (ok_istore dX12_law_75 (by decide)) (all_c (ok_aload_n dX12_law_77 rfl) (all_c (okc0_X12_takeBack (by decide) kw770 dX12_law_78) (all_c (ok_iinc dX12_law_81 (by decide) (by decide)) (all_c (ok_goto dX12_law_84 (by decide)) (all_c (ok_aload_n dX12_law_87 rfl) (all_c (okg_X12_14 kw683 dX12_law_88) (all_c (ok_stk (s_iconst dX12_law_91 (by decide))) (all_c (ok_iload_n dX12_law_92 rfl) (all_c (ok_iast dX12_law_93) (all_c (ok_iload dX12_law_94) (all_c (ok_iret dX12_law_96) all_n))))))))))))))))))))))))))))))))))))))))))))))))))))))) 1000000 (fun h => by first | rfl | cases h)
theorem dX12_sumAt_0 : decode cX12_sumAt 0 = .ok (.iload_n 2, 1) := by decide +kernel
theorem dX12_sumAt_1 : decode cX12_sumAt 1 = .ok (.iload_n 3, 1) := by decide +kernel
theorem dX12_sumAt_2 : decode cX12_sumAt 2 = .ok (.iadd, 1) := by decide +kernel
theorem dX12_sumAt_3 : decode cX12_sumAt 3 = .ok (.iconst 3, 1) := by decide +kernel
theorem dX12_sumAt_4 : decode cX12_sumAt 4 = .ok (.if_icmp .le 5, 3) := by decide +kernel
theorem dX12_sumAt_7 : decode cX12_sumAt 7 = .ok (.iconst (-1), 1) := by decide +kernel
theorem dX12_sumAt_8 : decode cX12_sumAt 8 = .ok (.ireturn, 1) := by decide +kernel
theorem dX12_sumAt_9 : decode cX12_sumAt 9 = .ok (.iconst 0, 1) := by decide +kernel
theorem dX12_sumAt_10 : decode cX12_sumAt 10 = .ok (.istore 4, 2) := by decide +kernel
theorem dX12_sumAt_12 : decode cX12_sumAt 12 = .ok (.iload_n 2, 1) := by decide +kernel
theorem dX12_sumAt_13 : decode cX12_sumAt 13 = .ok (.istore 5, 2) := by decide +kernel
theorem dX12_sumAt_15 : decode cX12_sumAt 15 = .ok (.iload 5, 2) := by decide +kernel
theorem dX12_sumAt_17 : decode cX12_sumAt 17 = .ok (.iload_n 2, 1) := by decide +kernel
theorem dX12_sumAt_18 : decode cX12_sumAt 18 = .ok (.iload_n 3, 1) := by decide +kernel
theorem dX12_sumAt_19 : decode cX12_sumAt 19 = .ok (.iadd, 1) := by decide +kernel
theorem dX12_sumAt_20 : decode cX12_sumAt 20 = .ok (.if_icmp .ge 41, 3) := by decide +kernel
theorem dX12_sumAt_23 : decode cX12_sumAt 23 = .ok (.aload_n 0, 1) := by decide +kernel
theorem dX12_sumAt_24 : decode cX12_sumAt 24 = .ok (.getfield 127, 3) := by decide +kernel
theorem dX12_sumAt_27 : decode cX12_sumAt 27 = .ok (.iconst 3, 1) := by decide +kernel
theorem dX12_sumAt_28 : decode cX12_sumAt 28 = .ok (.iload_n 1, 1) := by decide +kernel
theorem dX12_sumAt_29 : decode cX12_sumAt 29 = .ok (.imul, 1) := by decide +kernel
theorem dX12_sumAt_30 : decode cX12_sumAt 30 = .ok (.iload 5, 2) := by decide +kernel
theorem dX12_sumAt_32 : decode cX12_sumAt 32 = .ok (.iadd, 1) := by decide +kernel
theorem dX12_sumAt_33 : decode cX12_sumAt 33 = .ok (.iaload, 1) := by decide +kernel
theorem dX12_sumAt_34 : decode cX12_sumAt 34 = .ok (.iconst (-1), 1) := by decide +kernel
theorem dX12_sumAt_35 : decode cX12_sumAt 35 = .ok (.if_icmp .ne 5, 3) := by decide +kernel
theorem dX12_sumAt_38 : decode cX12_sumAt 38 = .ok (.iconst (-1), 1) := by decide +kernel
theorem dX12_sumAt_39 : decode cX12_sumAt 39 = .ok (.ireturn, 1) := by decide +kernel
theorem dX12_sumAt_40 : decode cX12_sumAt 40 = .ok (.iload 4, 2) := by decide +kernel
theorem dX12_sumAt_42 : decode cX12_sumAt 42 = .ok (.aload_n 0, 1) := by decide +kernel
theorem dX12_sumAt_43 : decode cX12_sumAt 43 = .ok (.iconst 3, 1) := by decide +kernel
theorem dX12_sumAt_44 : decode cX12_sumAt 44 = .ok (.iload_n 1, 1) := by decide +kernel
theorem dX12_sumAt_45 : decode cX12_sumAt 45 = .ok (.imul, 1) := by decide +kernel
theorem dX12_sumAt_46 : decode cX12_sumAt 46 = .ok (.iload 5, 2) := by decide +kernel
theorem dX12_sumAt_48 : decode cX12_sumAt 48 = .ok (.iadd, 1) := by decide +kernel
theorem dX12_sumAt_49 : decode cX12_sumAt 49 = .ok (.invokevirtual 274, 3) := by decide +kernel
theorem dX12_sumAt_52 : decode cX12_sumAt 52 = .ok (.iadd, 1) := by decide +kernel
theorem dX12_sumAt_53 : decode cX12_sumAt 53 = .ok (.istore 4, 2) := by decide +kernel
theorem dX12_sumAt_55 : decode cX12_sumAt 55 = .ok (.iinc 5 1, 3) := by decide +kernel
theorem dX12_sumAt_58 : decode cX12_sumAt 58 = .ok (.goto (-43), 3) := by decide +kernel
theorem dX12_sumAt_61 : decode cX12_sumAt 61 = .ok (.iload 4, 2) := by decide +kernel
theorem dX12_sumAt_63 : decode cX12_sumAt 63 = .ok (.ireturn, 1) := by decide +kernel
theorem okc_X12_bearsAt {kn : sKn} {cc : ByteArray} {own : String} {nL : Nat} {D : Nat} {ret : Option FieldType} {ini : Bool} {pc index : Nat} (hD : 1 + 1 ≤ D) (hl : Cond.methodLink own index yX12_bearsAt ∈ wsL_law) (hd : decode cc pc = .ok (.invokevirtual index, 3)) : mOk kn cc own nL wsL_law D ret ini pc (a_callV false (fX12_bearsAt kn) 13 (1 + 1) (pc + 3)) := ok_callV (mX12_bearsAt kn) (good_ws ws_good (fun _ h => h) kw910) hD (by decide) hl kw911 kw912 kw686 ⟨by decide +kernel, by decide +kernel, by decide +kernel⟩ rfl hd
def tX12_sumAt (kn : sKn) : List (Nat × sA) := [(0, a_iload 2 1), (1, a_iload 3 2), (2, a_stk q_iadd 3), (3, a_stk (q_int 3) 4), (4, a_icmp kn b_le 5 9 7), (7, a_stk (q_int (-1)) 8), (8, a_iret), (9, a_stk (q_int 0) 10), (10, a_istore 4 12), (12, a_iload 2 13), (13, a_istore 5 15), (15, a_iload 5 17), (17, a_iload 2 18), (18, a_iload 3 19), (19, a_stk q_iadd 20), (20, a_icmp kn b_ge 3 61 23), (23, a_aload 0 24), (24, a_get 13 27 27), (27, a_stk (q_int 3) 28), (28, a_iload 1 29), (29, a_stk q_imul 30), (30, a_iload 5 32), (32, a_stk q_iadd 33), (33, a_iald 34), (34, a_stk (q_int (-1)) 35), (35, a_icmp kn b_ne 1 40 38), (38, a_stk (q_int (-1)) 39), (39, a_iret), (40, a_iload 4 42), (42, a_aload 0 43), (43, a_stk (q_int 3) 44), (44, a_iload 1 45), (45, a_stk q_imul 46), (46, a_iload 5 48), (48, a_stk q_iadd 49), (49, a_callV false (fX12_bearsAt kn) 13 2 52), (52, a_stk q_iadd 53), (53, a_istore 4 55), (55, a_iinc 5 1 58), (58, a_goto 15), (61, a_iload 4 63), (63, a_iret)]
def fX12_sumAt (kn : sKn) : List Value → sW → Option sR := mF (tX12_sumAt kn) 6 1000000
set_option maxRecDepth 100000 in
set_option maxHeartbeats 4000000 in
theorem mX12_sumAt (kn : sKn) : mM kn yX12_sumAt (Cond.code yX12_sumAt cX12_sumAt 6 (some .int) :: wsL_law) 2 false (fX12_sumAt kn) := mM_of (own := RX12) (ini := false) rfl (by decide +kernel) (by decide +kernel) (all_c (ok_iload_n dX12_sumAt_0 rfl) (all_c (ok_iload_n dX12_sumAt_1 rfl) (all_c (ok_stk (s_iadd dX12_sumAt_2)) (all_c (ok_stk (s_iconst dX12_sumAt_3 (by decide))) (all_c (ok_icmp_le dX12_sumAt_4 (by decide)) (all_c (ok_stk (s_iconst dX12_sumAt_7 (by decide))) (all_c (ok_iret dX12_sumAt_8) (all_c (ok_stk (s_iconst dX12_sumAt_9 (by decide))) (all_c (ok_istore dX12_sumAt_10 (by decide)) (all_c (ok_iload_n dX12_sumAt_12 rfl) (all_c (ok_istore dX12_sumAt_13 (by decide)) (all_c (ok_iload dX12_sumAt_15) (all_c (ok_iload_n dX12_sumAt_17 rfl) (all_c (ok_iload_n dX12_sumAt_18 rfl) (all_c (ok_stk (s_iadd dX12_sumAt_19)) (all_c (ok_icmp_ge dX12_sumAt_20 (by decide)) (all_c (ok_aload_n dX12_sumAt_23 rfl) (all_c (okg_X12_27 kw682 dX12_sumAt_24) (all_c (ok_stk (s_iconst dX12_sumAt_27 (by decide))) (all_c (ok_iload_n dX12_sumAt_28 rfl) (all_c (ok_stk (s_imul dX12_sumAt_29)) (all_c (ok_iload dX12_sumAt_30) (all_c (ok_stk (s_iadd dX12_sumAt_32)) (all_c (ok_iald dX12_sumAt_33) (all_c (ok_stk (s_iconst dX12_sumAt_34 (by decide))) (all_c (ok_icmp_ne dX12_sumAt_35 (by decide)) (all_c (ok_stk (s_iconst dX12_sumAt_38 (by decide))) (all_c (ok_iret dX12_sumAt_39) (all_c (ok_iload dX12_sumAt_40) (all_c (ok_aload_n dX12_sumAt_42 rfl) (all_c (ok_stk (s_iconst dX12_sumAt_43 (by decide))) (all_c (ok_iload_n dX12_sumAt_44 rfl) (all_c (ok_stk (s_imul dX12_sumAt_45)) (all_c (ok_iload dX12_sumAt_46) (all_c (ok_stk (s_iadd dX12_sumAt_48)) (all_c (okc_X12_bearsAt (by decide) kw913 dX12_sumAt_49) (all_c (ok_stk (s_iadd dX12_sumAt_52)) (all_c (ok_istore dX12_sumAt_53 (by decide)) (all_c (ok_iinc dX12_sumAt_55 (by decide) (by decide)) (all_c (ok_goto dX12_sumAt_58 (by decide)) (all_c (ok_iload dX12_sumAt_61) (all_c (ok_iret dX12_sumAt_63) all_n)))))))))))))))))))))))))))))))))))))))))) 1000000 (fun h => by first | rfl | cases h)
theorem dX12_limit_0 : decode cX12_limit 0 = .ok (.aload_n 0, 1) := by decide +kernel
theorem dX12_limit_1 : decode cX12_limit 1 = .ok (.iconst 0, 1) := by decide +kernel
theorem dX12_limit_2 : decode cX12_limit 2 = .ok (.putfield 1, 3) := by decide +kernel
theorem dX12_limit_5 : decode cX12_limit 5 = .ok (.iload_n 1, 1) := by decide +kernel
theorem dX12_limit_6 : decode cX12_limit 6 = .ok (.iconst 1, 1) := by decide +kernel
theorem dX12_limit_7 : decode cX12_limit 7 = .ok (.iconst 3, 1) := by decide +kernel
theorem dX12_limit_8 : decode cX12_limit 8 = .ok (.invokestatic 75, 3) := by decide +kernel
theorem dX12_limit_11 : decode cX12_limit 11 = .ok (.ifCond .ne 5, 3) := by decide +kernel
theorem dX12_limit_14 : decode cX12_limit 14 = .ok (.iconst (-1), 1) := by decide +kernel
theorem dX12_limit_15 : decode cX12_limit 15 = .ok (.ireturn, 1) := by decide +kernel
theorem dX12_limit_16 : decode cX12_limit 16 = .ok (.aload_n 0, 1) := by decide +kernel
theorem dX12_limit_17 : decode cX12_limit 17 = .ok (.invokevirtual 292, 3) := by decide +kernel
theorem dX12_limit_20 : decode cX12_limit 20 = .ok (.aload_n 0, 1) := by decide +kernel
theorem dX12_limit_21 : decode cX12_limit 21 = .ok (.getfield 98, 3) := by decide +kernel
theorem dX12_limit_24 : decode cX12_limit 24 = .ok (.iconst 0, 1) := by decide +kernel
theorem dX12_limit_25 : decode cX12_limit 25 = .ok (.iaload, 1) := by decide +kernel
theorem dX12_limit_26 : decode cX12_limit 26 = .ok (.iconst 1, 1) := by decide +kernel
theorem dX12_limit_27 : decode cX12_limit 27 = .ok (.isub, 1) := by decide +kernel
theorem dX12_limit_28 : decode cX12_limit 28 = .ok (.istore_n 2, 1) := by decide +kernel
theorem dX12_limit_29 : decode cX12_limit 29 = .ok (.iload_n 2, 1) := by decide +kernel
theorem dX12_limit_30 : decode cX12_limit 30 = .ok (.ifCond .lt 156, 3) := by decide +kernel
theorem dX12_limit_33 : decode cX12_limit 33 = .ok (.iconst 0, 1) := by decide +kernel
theorem dX12_limit_34 : decode cX12_limit 34 = .ok (.istore_n 3, 1) := by decide +kernel
theorem dX12_limit_35 : decode cX12_limit 35 = .ok (.iload_n 3, 1) := by decide +kernel
theorem dX12_limit_36 : decode cX12_limit 36 = .ok (.iconst 3, 1) := by decide +kernel
theorem dX12_limit_37 : decode cX12_limit 37 = .ok (.if_icmp .ge 143, 3) := by decide +kernel
theorem dX12_limit_40 : decode cX12_limit 40 = .ok (.iload_n 2, 1) := by decide +kernel
theorem dX12_limit_41 : decode cX12_limit 41 = .ok (.aload_n 0, 1) := by decide +kernel
theorem dX12_limit_42 : decode cX12_limit 42 = .ok (.getfield 98, 3) := by decide +kernel
theorem dX12_limit_45 : decode cX12_limit 45 = .ok (.iconst 0, 1) := by decide +kernel
theorem dX12_limit_46 : decode cX12_limit 46 = .ok (.iaload, 1) := by decide +kernel
theorem dX12_limit_47 : decode cX12_limit 47 = .ok (.iconst 1, 1) := by decide +kernel
theorem dX12_limit_48 : decode cX12_limit 48 = .ok (.isub, 1) := by decide +kernel
theorem dX12_limit_49 : decode cX12_limit 49 = .ok (.if_icmp .ne 9, 3) := by decide +kernel
theorem dX12_limit_52 : decode cX12_limit 52 = .ok (.ldc_w 308, 3) := by decide +kernel
theorem dX12_limit_55 : decode cX12_limit 55 = .ok (.goto 4, 3) := by decide +kernel
theorem dX12_limit_58 : decode cX12_limit 58 = .ok (.iconst (-1), 1) := by decide +kernel
theorem dX12_limit_59 : decode cX12_limit 59 = .ok (.istore 4, 2) := by decide +kernel
theorem dX12_limit_61 : decode cX12_limit 61 = .ok (.iconst 0, 1) := by decide +kernel
theorem dX12_limit_62 : decode cX12_limit 62 = .ok (.istore 5, 2) := by decide +kernel
theorem dX12_limit_64 : decode cX12_limit 64 = .ok (.iload 5, 2) := by decide +kernel
theorem dX12_limit_66 : decode cX12_limit 66 = .ok (.iconst 3, 1) := by decide +kernel
theorem dX12_limit_67 : decode cX12_limit 67 = .ok (.if_icmp .ge 65, 3) := by decide +kernel
theorem dX12_limit_70 : decode cX12_limit 70 = .ok (.iload_n 2, 1) := by decide +kernel
theorem dX12_limit_71 : decode cX12_limit 71 = .ok (.aload_n 0, 1) := by decide +kernel
theorem dX12_limit_72 : decode cX12_limit 72 = .ok (.getfield 98, 3) := by decide +kernel
theorem dX12_limit_75 : decode cX12_limit 75 = .ok (.iconst 0, 1) := by decide +kernel
theorem dX12_limit_76 : decode cX12_limit 76 = .ok (.iaload, 1) := by decide +kernel
theorem dX12_limit_77 : decode cX12_limit 77 = .ok (.iconst 1, 1) := by decide +kernel
theorem dX12_limit_78 : decode cX12_limit 78 = .ok (.isub, 1) := by decide +kernel
theorem dX12_limit_79 : decode cX12_limit 79 = .ok (.if_icmp .ge 53, 3) := by decide +kernel
theorem dX12_limit_82 : decode cX12_limit 82 = .ok (.iload_n 3, 1) := by decide +kernel
theorem dX12_limit_83 : decode cX12_limit 83 = .ok (.iload 5, 2) := by decide +kernel
theorem dX12_limit_85 : decode cX12_limit 85 = .ok (.isub, 1) := by decide +kernel
theorem dX12_limit_86 : decode cX12_limit 86 = .ok (.invokestatic 302, 3) := by decide +kernel
theorem dX12_limit_89 : decode cX12_limit 89 = .ok (.iconst 1, 1) := by decide +kernel
theorem dX12_limit_90 : decode cX12_limit 90 = .ok (.if_icmp .gt 36, 3) := by decide +kernel
theorem dX12_limit_93 : decode cX12_limit 93 = .ok (.aload_n 0, 1) := by decide +kernel
theorem dX12_limit_94 : decode cX12_limit 94 = .ok (.getfield 130, 3) := by decide +kernel
theorem dX12_limit_97 : decode cX12_limit 97 = .ok (.iconst 4, 1) := by decide +kernel
theorem dX12_limit_98 : decode cX12_limit 98 = .ok (.iload_n 2, 1) := by decide +kernel
theorem dX12_limit_99 : decode cX12_limit 99 = .ok (.imul, 1) := by decide +kernel
theorem dX12_limit_100 : decode cX12_limit 100 = .ok (.iconst 4, 1) := by decide +kernel
theorem dX12_limit_101 : decode cX12_limit 101 = .ok (.iadd, 1) := by decide +kernel
theorem dX12_limit_102 : decode cX12_limit 102 = .ok (.iload 5, 2) := by decide +kernel
theorem dX12_limit_104 : decode cX12_limit 104 = .ok (.iadd, 1) := by decide +kernel
theorem dX12_limit_105 : decode cX12_limit 105 = .ok (.iaload, 1) := by decide +kernel
theorem dX12_limit_106 : decode cX12_limit 106 = .ok (.iload 4, 2) := by decide +kernel
theorem dX12_limit_108 : decode cX12_limit 108 = .ok (.if_icmp .le 18, 3) := by decide +kernel
theorem dX12_limit_111 : decode cX12_limit 111 = .ok (.aload_n 0, 1) := by decide +kernel
theorem dX12_limit_112 : decode cX12_limit 112 = .ok (.getfield 130, 3) := by decide +kernel
theorem dX12_limit_115 : decode cX12_limit 115 = .ok (.iconst 4, 1) := by decide +kernel
theorem dX12_limit_116 : decode cX12_limit 116 = .ok (.iload_n 2, 1) := by decide +kernel
theorem dX12_limit_117 : decode cX12_limit 117 = .ok (.imul, 1) := by decide +kernel
theorem dX12_limit_118 : decode cX12_limit 118 = .ok (.iconst 4, 1) := by decide +kernel
theorem dX12_limit_119 : decode cX12_limit 119 = .ok (.iadd, 1) := by decide +kernel
theorem dX12_limit_120 : decode cX12_limit 120 = .ok (.iload 5, 2) := by decide +kernel
theorem dX12_limit_122 : decode cX12_limit 122 = .ok (.iadd, 1) := by decide +kernel
theorem dX12_limit_123 : decode cX12_limit 123 = .ok (.iaload, 1) := by decide +kernel
theorem dX12_limit_124 : decode cX12_limit 124 = .ok (.istore 4, 2) := by decide +kernel
theorem dX12_limit_126 : decode cX12_limit 126 = .ok (.iinc 5 1, 3) := by decide +kernel
theorem dX12_limit_129 : decode cX12_limit 129 = .ok (.goto (-65), 3) := by decide +kernel
theorem dX12_limit_132 : decode cX12_limit 132 = .ok (.aload_n 0, 1) := by decide +kernel
theorem dX12_limit_133 : decode cX12_limit 133 = .ok (.iload_n 2, 1) := by decide +kernel
theorem dX12_limit_134 : decode cX12_limit 134 = .ok (.iload_n 3, 1) := by decide +kernel
theorem dX12_limit_135 : decode cX12_limit 135 = .ok (.iload_n 1, 1) := by decide +kernel
theorem dX12_limit_136 : decode cX12_limit 136 = .ok (.invokevirtual 298, 3) := by decide +kernel
theorem dX12_limit_139 : decode cX12_limit 139 = .ok (.istore 5, 2) := by decide +kernel
theorem dX12_limit_141 : decode cX12_limit 141 = .ok (.aload_n 0, 1) := by decide +kernel
theorem dX12_limit_142 : decode cX12_limit 142 = .ok (.getfield 130, 3) := by decide +kernel
theorem dX12_limit_145 : decode cX12_limit 145 = .ok (.iconst 4, 1) := by decide +kernel
theorem dX12_limit_146 : decode cX12_limit 146 = .ok (.iload_n 2, 1) := by decide +kernel
theorem dX12_limit_147 : decode cX12_limit 147 = .ok (.imul, 1) := by decide +kernel
theorem dX12_limit_148 : decode cX12_limit 148 = .ok (.iload_n 3, 1) := by decide +kernel
theorem dX12_limit_149 : decode cX12_limit 149 = .ok (.iadd, 1) := by decide +kernel
theorem dX12_limit_150 : decode cX12_limit 150 = .ok (.iload 5, 2) := by decide +kernel
theorem dX12_limit_152 : decode cX12_limit 152 = .ok (.iconst (-1), 1) := by decide +kernel
theorem dX12_limit_153 : decode cX12_limit 153 = .ok (.if_icmp .eq 9, 3) := by decide +kernel
theorem dX12_limit_156 : decode cX12_limit 156 = .ok (.iload 4, 2) := by decide +kernel
theorem dX12_limit_158 : decode cX12_limit 158 = .ok (.iconst (-1), 1) := by decide +kernel
theorem dX12_limit_159 : decode cX12_limit 159 = .ok (.if_icmp .ne 7, 3) := by decide +kernel
theorem dX12_limit_162 : decode cX12_limit 162 = .ok (.iconst (-1), 1) := by decide +kernel
theorem dX12_limit_163 : decode cX12_limit 163 = .ok (.goto 10, 3) := by decide +kernel
theorem dX12_limit_166 : decode cX12_limit 166 = .ok (.iload 5, 2) := by decide +kernel
theorem dX12_limit_168 : decode cX12_limit 168 = .ok (.iload 4, 2) := by decide +kernel
theorem dX12_limit_170 : decode cX12_limit 170 = .ok (.invokestatic 312, 3) := by decide +kernel
theorem dX12_limit_173 : decode cX12_limit 173 = .ok (.iastore, 1) := by decide +kernel
theorem dX12_limit_174 : decode cX12_limit 174 = .ok (.iinc 3 1, 3) := by decide +kernel
theorem dX12_limit_177 : decode cX12_limit 177 = .ok (.goto (-142), 3) := by decide +kernel
theorem dX12_limit_180 : decode cX12_limit 180 = .ok (.iinc 2 (-1), 3) := by decide +kernel
theorem dX12_limit_183 : decode cX12_limit 183 = .ok (.goto (-154), 3) := by decide +kernel
theorem dX12_limit_186 : decode cX12_limit 186 = .ok (.iconst 0, 1) := by decide +kernel
theorem dX12_limit_187 : decode cX12_limit 187 = .ok (.istore_n 2, 1) := by decide +kernel
theorem dX12_limit_188 : decode cX12_limit 188 = .ok (.iconst 0, 1) := by decide +kernel
theorem dX12_limit_189 : decode cX12_limit 189 = .ok (.istore_n 3, 1) := by decide +kernel
theorem dX12_limit_190 : decode cX12_limit 190 = .ok (.iload_n 3, 1) := by decide +kernel
theorem dX12_limit_191 : decode cX12_limit 191 = .ok (.iconst 3, 1) := by decide +kernel
theorem dX12_limit_192 : decode cX12_limit 192 = .ok (.if_icmp .ge 26, 3) := by decide +kernel
theorem dX12_limit_195 : decode cX12_limit 195 = .ok (.aload_n 0, 1) := by decide +kernel
theorem dX12_limit_196 : decode cX12_limit 196 = .ok (.getfield 130, 3) := by decide +kernel
theorem dX12_limit_199 : decode cX12_limit 199 = .ok (.iload_n 3, 1) := by decide +kernel
theorem dX12_limit_200 : decode cX12_limit 200 = .ok (.iaload, 1) := by decide +kernel
theorem dX12_limit_201 : decode cX12_limit 201 = .ok (.iload_n 2, 1) := by decide +kernel
theorem dX12_limit_202 : decode cX12_limit 202 = .ok (.if_icmp .le 10, 3) := by decide +kernel
theorem dX12_limit_205 : decode cX12_limit 205 = .ok (.aload_n 0, 1) := by decide +kernel
theorem dX12_limit_206 : decode cX12_limit 206 = .ok (.getfield 130, 3) := by decide +kernel
theorem dX12_limit_209 : decode cX12_limit 209 = .ok (.iload_n 3, 1) := by decide +kernel
theorem dX12_limit_210 : decode cX12_limit 210 = .ok (.iaload, 1) := by decide +kernel
theorem dX12_limit_211 : decode cX12_limit 211 = .ok (.istore_n 2, 1) := by decide +kernel
theorem dX12_limit_212 : decode cX12_limit 212 = .ok (.iinc 3 1, 3) := by decide +kernel
theorem dX12_limit_215 : decode cX12_limit 215 = .ok (.goto (-25), 3) := by decide +kernel
theorem dX12_limit_218 : decode cX12_limit 218 = .ok (.iload_n 2, 1) := by decide +kernel
theorem dX12_limit_219 : decode cX12_limit 219 = .ok (.ireturn, 1) := by decide +kernel
theorem okc_X12_sumAt {kn : sKn} {cc : ByteArray} {own : String} {nL : Nat} {D : Nat} {ret : Option FieldType} {ini : Bool} {pc index : Nat} (hD : 2 + 1 ≤ D) (hl : Cond.methodLink own index yX12_sumAt ∈ wsL_law) (hd : decode cc pc = .ok (.invokevirtual index, 3)) : mOk kn cc own nL wsL_law D ret ini pc (a_callV false (fX12_sumAt kn) 13 (3 + 1) (pc + 3)) := ok_callV (mX12_sumAt kn) (good_ws ws_good (fun _ h => h) kw914) hD (by decide) hl kw915 kw916 kw686 ⟨by decide +kernel, by decide +kernel, by decide +kernel⟩ rfl hd
def tX12_limit (kn : sKn) : List (Nat × sA) := [(0, a_aload 0 1), (1, a_stk (q_int 0) 2), (2, a_put 13 0 ckI 5), (5, a_iload 1 6), (6, a_stk (q_int 1) 7), (7, a_stk (q_int 3) 8), (8, a_callS false (fX12_isIn kn) 3 11), (11, a_if kn b_ne 1 16 14), (14, a_stk (q_int (-1)) 15), (15, a_iret), (16, a_aload 0 17), (17, a_callV true (fX12_layWhose kn) 13 1 20), (20, a_aload 0 21), (21, a_get 13 14 24), (24, a_stk (q_int 0) 25), (25, a_iald 26), (26, a_stk (q_int 1) 27), (27, a_stk q_isub 28), (28, a_istore 2 29), (29, a_iload 2 30), (30, a_if kn b_lt 2 186 33), (33, a_stk (q_int 0) 34), (34, a_istore 3 35), (35, a_iload 3 36), (36, a_stk (q_int 3) 37), (37, a_icmp kn b_ge 3 180 40), (40, a_iload 2 41), (41, a_aload 0 42), (42, a_get 13 14 45), (45, a_stk (q_int 0) 46), (46, a_iald 47), (47, a_stk (q_int 1) 48), (48, a_stk q_isub 49), (49, a_icmp kn b_ne 1 58 52), (52, a_stk (q_int (100000)) 55), (55, a_goto 59), (58, a_stk (q_int (-1)) 59), (59, a_istore 4 61), (61, a_stk (q_int 0) 62), (62, a_istore 5 64), (64, a_iload 5 66), (66, a_stk (q_int 3) 67), (67, a_icmp kn b_ge 3 132 70), (70, a_iload 2 71), (71, a_aload 0 72), (72, a_get 13 14 75), (75, a_stk (q_int 0) 76), (76, a_iald 77), (77, a_stk (q_int 1) 78), (78, a_stk q_isub 79), (79, a_icmp kn b_ge 3 132 82), (82, a_iload 3 83), (83, a_iload 5 85), (85, a_stk q_isub 86), (86, a_callS false (fX12_size kn) 1 89), (89, a_stk (q_int 1) 90), (90, a_icmp kn b_gt 4 126 93), (93, a_aload 0 94), (94, a_get 13 29 97), (97, a_stk (q_int 4) 98), (98, a_iload 2 99), (99, a_stk q_imul 100), (100, a_stk (q_int 4) 101), (101, a_stk q_iadd 102), (102, a_iload 5 104), (104, a_stk q_iadd 105), (105, a_iald 106), (106, a_iload 4 108), (108, a_icmp kn b_le 5 126 111), (111, a_aload 0 112), (112, a_get 13 29 115), (115, a_stk (q_int 4) 116), (116, a_iload 2 117), (117, a_stk q_imul 118), (118, a_stk (q_int 4) 119), (119, a_stk q_iadd 120), (120, a_iload 5 122), (122, a_stk q_iadd 123), (123, a_iald 124), (124, a_istore 4 126), (126, a_iinc 5 1 129), (129, a_goto 64), (132, a_aload 0 133), (133, a_iload 2 134), (134, a_iload 3 135), (135, a_iload 1 136), (136, a_callV false (fX12_sumAt kn) 13 4 139), (139, a_istore 5 141), (141, a_aload 0 142), (142, a_get 13 29 145), (145, a_stk (q_int 4) 146), (146, a_iload 2 147), (147, a_stk q_imul 148), (148, a_iload 3 149), (149, a_stk q_iadd 150), (150, a_iload 5 152), (152, a_stk (q_int (-1)) 153), (153, a_icmp kn b_eq 0 162 156), (156, a_iload 4 158), (158, a_stk (q_int (-1)) 159), (159, a_icmp kn b_ne 1 166 162), (162, a_stk (q_int (-1)) 163), (163, a_goto 173), (166, a_iload 5 168), (168, a_iload 4 170), (170, a_callS false (fX12_least kn) 2 173), (173, a_iast 174), (174, a_iinc 3 1 177), (177, a_goto 35), (180, a_iinc 2 (-1) 183), (183, a_goto 29), (186, a_stk (q_int 0) 187), (187, a_istore 2 188), (188, a_stk (q_int 0) 189), (189, a_istore 3 190), (190, a_iload 3 191), (191, a_stk (q_int 3) 192), (192, a_icmp kn b_ge 3 218 195), (195, a_aload 0 196), (196, a_get 13 29 199), (199, a_iload 3 200), (200, a_iald 201), (201, a_iload 2 202), (202, a_icmp kn b_le 5 212 205), (205, a_aload 0 206), (206, a_get 13 29 209), (209, a_iload 3 210), (210, a_iald 211), (211, a_istore 2 212), (212, a_iinc 3 1 215), (215, a_goto 190), (218, a_iload 2 219), (219, a_iret)]
def fX12_limit (kn : sKn) : List Value → sW → Option sR := mF (tX12_limit kn) 6 1000000
set_option maxRecDepth 100000 in
set_option maxHeartbeats 4000000 in
theorem mX12_limit (kn : sKn) : mM kn yX12_limit (Cond.code yX12_limit cX12_limit 6 (some .int) :: wsL_law) 3 false (fX12_limit kn) := mM_of (own := RX12) (ini := false) rfl (by decide +kernel) (by decide +kernel) (all_c (ok_aload_n dX12_limit_0 rfl) (all_c (ok_stk (s_iconst dX12_limit_1 (by decide))) (all_c (okp_X12_0 kw693 dX12_limit_2) (all_c (ok_iload_n dX12_limit_5 rfl) (all_c (ok_stk (s_iconst dX12_limit_6 (by decide))) (all_c (ok_stk (s_iconst dX12_limit_7 (by decide))) (all_c (okc_X12_isIn (by decide) kw705 dX12_limit_8) (all_c (ok_if_ne dX12_limit_11 (by decide)) (all_c (ok_stk (s_iconst dX12_limit_14 (by decide))) (all_c (ok_iret dX12_limit_15) (all_c (ok_aload_n dX12_limit_16 rfl) (all_c (okc_X12_layWhose (by decide) kw697 dX12_limit_17) (all_c (ok_aload_n dX12_limit_20 rfl) (all_c (okg_X12_14 kw683 dX12_limit_21) (all_c (ok_stk (s_iconst dX12_limit_24 (by decide))) (all_c (ok_iald dX12_limit_25) (all_c (ok_stk (s_iconst dX12_limit_26 (by decide))) (all_c (ok_stk (s_isub dX12_limit_27)) (all_c (ok_istore_n dX12_limit_28 rfl (by decide)) (all_c (ok_iload_n dX12_limit_29 rfl) (all_c (ok_if_lt dX12_limit_30 (by decide)) (all_c (ok_stk (s_iconst dX12_limit_33 (by decide))) (all_c (ok_istore_n dX12_limit_34 rfl (by decide)) (all_c (ok_iload_n dX12_limit_35 rfl) (all_c (ok_stk (s_iconst dX12_limit_36 (by decide))) (all_c (ok_icmp_ge dX12_limit_37 (by decide)) (all_c (ok_iload_n dX12_limit_40 rfl) (all_c (ok_aload_n dX12_limit_41 rfl) (all_c (okg_X12_14 kw683 dX12_limit_42) (all_c (ok_stk (s_iconst dX12_limit_45 (by decide))) (all_c (ok_iald dX12_limit_46) (all_c (ok_stk (s_iconst dX12_limit_47 (by decide))) (all_c (ok_stk (s_isub dX12_limit_48)) (all_c (ok_icmp_ne dX12_limit_49 (by decide)) (all_c (ok_ldcw kw711 dX12_limit_52) (all_c (ok_goto dX12_limit_55 (by decide)) (all_c (ok_stk (s_iconst dX12_limit_58 (by decide))) (all_c (ok_istore dX12_limit_59 (by decide)) (all_c (ok_stk (s_iconst dX12_limit_61 (by decide))) (all_c (ok_istore dX12_limit_62 (by decide)) (all_c (ok_iload dX12_limit_64) (all_c (ok_stk (s_iconst dX12_limit_66 (by decide))) (all_c (ok_icmp_ge dX12_limit_67 (by decide)) (all_c (ok_iload_n dX12_limit_70 rfl) (all_c (ok_aload_n dX12_limit_71 rfl) (all_c (okg_X12_14 kw683 dX12_limit_72) (all_c (ok_stk (s_iconst dX12_limit_75 (by decide))) (all_c (ok_iald dX12_limit_76) (all_c (ok_stk (s_iconst dX12_limit_77 (by decide))) (all_c (ok_stk (s_isub dX12_limit_78)) (all_c (ok_icmp_ge dX12_limit_79 (by decide)) (all_c (ok_iload_n dX12_limit_82 rfl) (all_c (ok_iload dX12_limit_83) (all_c (ok_stk (s_isub dX12_limit_85)) (all_c (okc_X12_size (by decide) kw887 dX12_limit_86) (all_c (ok_stk (s_iconst dX12_limit_89 (by decide))) (all_c (ok_icmp_gt dX12_limit_90 (by decide)) (all_c (ok_aload_n dX12_limit_93 rfl) (all_c (okg_X12_29 kw896 dX12_limit_94) (all_c (ok_stk (s_iconst dX12_limit_97 (by decide))) (all_c (ok_iload_n dX12_limit_98 rfl) (all_c (ok_stk (s_imul dX12_limit_99)) (all_c (ok_stk (s_iconst dX12_limit_100 (by decide))) (all_c (ok_stk (s_iadd dX12_limit_101)) (all_c (ok_iload dX12_limit_102) (all_c (ok_stk (s_iadd dX12_limit_104)) (all_c (ok_iald dX12_limit_105) (all_c (ok_iload dX12_limit_106) (all_c (ok_icmp_le dX12_limit_108 (by decide)) (all_c (ok_aload_n dX12_limit_111 rfl) (all_c (okg_X12_29 kw896 dX12_limit_112) (all_c (ok_stk (s_iconst dX12_limit_115 (by decide))) (all_c (ok_iload_n dX12_limit_116 rfl) (all_c (ok_stk (s_imul dX12_limit_117)) (all_c (ok_stk (s_iconst dX12_limit_118 (by decide))) (all_c (ok_stk (s_iadd dX12_limit_119)) (all_c (ok_iload dX12_limit_120) (all_c (ok_stk (s_iadd dX12_limit_122)) (all_c (ok_iald dX12_limit_123) (all_c (ok_istore dX12_limit_124 (by decide)) (all_c (ok_iinc dX12_limit_126 (by decide) (by decide)) (all_c (ok_goto dX12_limit_129 (by decide)) (all_c (ok_aload_n dX12_limit_132 rfl) (all_c (ok_iload_n dX12_limit_133 rfl) (all_c (ok_iload_n dX12_limit_134 rfl) (all_c (ok_iload_n dX12_limit_135 rfl) (all_c (okc_X12_sumAt (by decide) kw917 dX12_limit_136) (all_c (ok_istore dX12_limit_139 (by decide)) (all_c (ok_aload_n dX12_limit_141 rfl) (all_c (okg_X12_29 kw896 dX12_limit_142) (all_c (ok_stk (s_iconst dX12_limit_145 (by decide))) (all_c (ok_iload_n dX12_limit_146 rfl) (all_c (ok_stk (s_imul dX12_limit_147)) (all_c (ok_iload_n dX12_limit_148 rfl) (all_c (ok_stk (s_iadd dX12_limit_149)) (all_c (ok_iload dX12_limit_150) (all_c (ok_stk (s_iconst dX12_limit_152 (by decide))) (all_c (ok_icmp_eq dX12_limit_153 (by decide)) (all_c (ok_iload dX12_limit_156) (all_c (ok_stk (s_iconst dX12_limit_158 (by decide))) (all_c (ok_icmp_ne dX12_limit_159 (by decide)) (all_c (ok_stk (s_iconst dX12_limit_162 (by decide))) (all_c (ok_goto dX12_limit_163 (by decide)) (all_c (ok_iload dX12_limit_166) (all_c (ok_iload dX12_limit_168) (all_c (okc_X12_least (by decide) kw718 dX12_limit_170) (all_c (ok_iast dX12_limit_173) (all_c (ok_iinc dX12_limit_174 (by decide) (by decide)) (all_c (ok_goto dX12_limit_177 (by decide)) (all_c (ok_iinc dX12_limit_180 (by decide) (by decide)) (all_c (ok_goto dX12_limit_183 (by decide)) (all_c (ok_stk (s_iconst dX12_limit_186 (by decide))) (all_c (ok_istore_n dX12_limit_187 rfl (by decide)) (all_c (ok_stk (s_iconst dX12_limit_188 (by decide))) (all_c (ok_istore_n dX12_limit_189 rfl (by decide)) (all_c (ok_iload_n dX12_limit_190 rfl) (all_c (ok_stk (s_iconst dX12_limit_191 (by decide))) (all_c (ok_icmp_ge dX12_limit_192 (by decide)) (all_c (ok_aload_n dX12_limit_195 rfl) (all_c (okg_X12_29 kw896 dX12_limit_196) (all_c (ok_iload_n dX12_limit_199 rfl) (all_c (ok_iald dX12_limit_200) (all_c (ok_iload_n dX12_limit_201 rfl) (all_c (ok_icmp_le dX12_limit_202 (by decide)) (all_c (ok_aload_n dX12_limit_205 rfl) (all_c (okg_X12_29 kw896 dX12_limit_206) (all_c (ok_iload_n dX12_limit_209 rfl) (all_c (ok_iald dX12_limit_210) (all_c (ok_istore_n dX12_limit_211 rfl (by decide)) (all_c (ok_iinc dX12_limit_212 (by decide) (by decide)) (all_c (ok_goto dX12_limit_215 (by decide)) (all_c (ok_iload_n dX12_limit_218 rfl) (all_c (ok_iret dX12_limit_219) all_n))))))))))))))))))))))))))))))))))))))))))))))))))))))))))))))))))))))))))))))))))))))))))))))))))))))))))))))))))))))))))))))))))))) 1000000 (fun h => by first | rfl | cases h)
theorem dX12_refuse_0 : decode cX12_refuse 0 = .ok (.aload_n 0, 1) := by decide +kernel
theorem dX12_refuse_1 : decode cX12_refuse 1 = .ok (.iconst 1, 1) := by decide +kernel
theorem dX12_refuse_2 : decode cX12_refuse 2 = .ok (.putfield 1, 3) := by decide +kernel
theorem dX12_refuse_5 : decode cX12_refuse 5 = .ok (.iconst 0, 1) := by decide +kernel
theorem dX12_refuse_6 : decode cX12_refuse 6 = .ok (.ireturn, 1) := by decide +kernel
def tX12_refuse (kn : sKn) : List (Nat × sA) := [(0, a_aload 0 1), (1, a_stk (q_int 1) 2), (2, a_put 13 0 ckI 5), (5, a_stk (q_int 0) 6), (6, a_iret)]
def fX12_refuse (kn : sKn) : List Value → sW → Option sR := mF (tX12_refuse kn) 1 1000000
set_option maxRecDepth 100000 in
set_option maxHeartbeats 4000000 in
theorem mX12_refuse (kn : sKn) : mM kn yX12_refuse (Cond.code yX12_refuse cX12_refuse 1 (some .int) :: wsL_law) 1 false (fX12_refuse kn) := mM_of (own := RX12) (ini := false) rfl (by decide +kernel) (by decide +kernel) (all_c (ok_aload_n dX12_refuse_0 rfl) (all_c (ok_stk (s_iconst dX12_refuse_1 (by decide))) (all_c (okp_X12_0 kw693 dX12_refuse_2) (all_c (ok_stk (s_iconst dX12_refuse_5 (by decide))) (all_c (ok_iret dX12_refuse_6) all_n))))) 1000000 (fun h => by first | rfl | cases h)
theorem dX12_load_0 : decode cX12_load 0 = .ok (.aload_n 0, 1) := by decide +kernel
theorem dX12_load_1 : decode cX12_load 1 = .ok (.iconst 0, 1) := by decide +kernel
theorem dX12_load_2 : decode cX12_load 2 = .ok (.putfield 1, 3) := by decide +kernel
theorem dX12_load_5 : decode cX12_load 5 = .ok (.aload_n 0, 1) := by decide +kernel
theorem dX12_load_6 : decode cX12_load 6 = .ok (.iload_n 1, 1) := by decide +kernel
theorem dX12_load_7 : decode cX12_load 7 = .ok (.invokevirtual 295, 3) := by decide +kernel
theorem dX12_load_10 : decode cX12_load 10 = .ok (.ifCond .ne 8, 3) := by decide +kernel
theorem dX12_load_13 : decode cX12_load 13 = .ok (.aload_n 0, 1) := by decide +kernel
theorem dX12_load_14 : decode cX12_load 14 = .ok (.invokevirtual 280, 3) := by decide +kernel
theorem dX12_load_17 : decode cX12_load 17 = .ok (.ireturn, 1) := by decide +kernel
theorem dX12_load_18 : decode cX12_load 18 = .ok (.iload_n 2, 1) := by decide +kernel
theorem dX12_load_19 : decode cX12_load 19 = .ok (.tableswitch 80 0 3 #[29, 39, 49, 69], 29) := by decide +kernel
theorem dX12_load_48 : decode cX12_load 48 = .ok (.aload_n 0, 1) := by decide +kernel
theorem dX12_load_49 : decode cX12_load 49 = .ok (.getfield 98, 3) := by decide +kernel
theorem dX12_load_52 : decode cX12_load 52 = .ok (.bipush 82, 2) := by decide +kernel
theorem dX12_load_54 : decode cX12_load 54 = .ok (.iload_n 1, 1) := by decide +kernel
theorem dX12_load_55 : decode cX12_load 55 = .ok (.iadd, 1) := by decide +kernel
theorem dX12_load_56 : decode cX12_load 56 = .ok (.iaload, 1) := by decide +kernel
theorem dX12_load_57 : decode cX12_load 57 = .ok (.ireturn, 1) := by decide +kernel
theorem dX12_load_58 : decode cX12_load 58 = .ok (.aload_n 0, 1) := by decide +kernel
theorem dX12_load_59 : decode cX12_load 59 = .ok (.getfield 98, 3) := by decide +kernel
theorem dX12_load_62 : decode cX12_load 62 = .ok (.bipush 88, 2) := by decide +kernel
theorem dX12_load_64 : decode cX12_load 64 = .ok (.iload_n 1, 1) := by decide +kernel
theorem dX12_load_65 : decode cX12_load 65 = .ok (.iadd, 1) := by decide +kernel
theorem dX12_load_66 : decode cX12_load 66 = .ok (.iaload, 1) := by decide +kernel
theorem dX12_load_67 : decode cX12_load 67 = .ok (.ireturn, 1) := by decide +kernel
theorem dX12_load_68 : decode cX12_load 68 = .ok (.aload_n 0, 1) := by decide +kernel
theorem dX12_load_69 : decode cX12_load 69 = .ok (.getfield 98, 3) := by decide +kernel
theorem dX12_load_72 : decode cX12_load 72 = .ok (.bipush 96, 2) := by decide +kernel
theorem dX12_load_74 : decode cX12_load 74 = .ok (.iaload, 1) := by decide +kernel
theorem dX12_load_75 : decode cX12_load 75 = .ok (.iload_n 1, 1) := by decide +kernel
theorem dX12_load_76 : decode cX12_load 76 = .ok (.invokestatic 225, 3) := by decide +kernel
theorem dX12_load_79 : decode cX12_load 79 = .ok (.ifCond .eq 7, 3) := by decide +kernel
theorem dX12_load_82 : decode cX12_load 82 = .ok (.iconst 1, 1) := by decide +kernel
theorem dX12_load_83 : decode cX12_load 83 = .ok (.goto 4, 3) := by decide +kernel
theorem dX12_load_86 : decode cX12_load 86 = .ok (.iconst 0, 1) := by decide +kernel
theorem dX12_load_87 : decode cX12_load 87 = .ok (.ireturn, 1) := by decide +kernel
theorem dX12_load_88 : decode cX12_load 88 = .ok (.aload_n 0, 1) := by decide +kernel
theorem dX12_load_89 : decode cX12_load 89 = .ok (.getfield 98, 3) := by decide +kernel
theorem dX12_load_92 : decode cX12_load 92 = .ok (.sipush 190, 3) := by decide +kernel
theorem dX12_load_95 : decode cX12_load 95 = .ok (.iload_n 1, 1) := by decide +kernel
theorem dX12_load_96 : decode cX12_load 96 = .ok (.iadd, 1) := by decide +kernel
theorem dX12_load_97 : decode cX12_load 97 = .ok (.iaload, 1) := by decide +kernel
theorem dX12_load_98 : decode cX12_load 98 = .ok (.ireturn, 1) := by decide +kernel
theorem dX12_load_99 : decode cX12_load 99 = .ok (.aload_n 0, 1) := by decide +kernel
theorem dX12_load_100 : decode cX12_load 100 = .ok (.invokevirtual 280, 3) := by decide +kernel
theorem dX12_load_103 : decode cX12_load 103 = .ok (.ireturn, 1) := by decide +kernel
theorem okc_X12_refuse {kn : sKn} {cc : ByteArray} {own : String} {nL : Nat} {D : Nat} {ret : Option FieldType} {ini : Bool} {pc index : Nat} (hD : 1 + 1 ≤ D) (hl : Cond.methodLink own index yX12_refuse ∈ wsL_law) (hd : decode cc pc = .ok (.invokevirtual index, 3)) : mOk kn cc own nL wsL_law D ret ini pc (a_callV false (fX12_refuse kn) 13 (0 + 1) (pc + 3)) := ok_callV (mX12_refuse kn) (good_ws ws_good (fun _ h => h) kw918) hD (by decide) hl kw919 kw920 kw686 ⟨by decide +kernel, by decide +kernel, by decide +kernel⟩ rfl hd
def tX12_load (kn : sKn) : List (Nat × sA) := [(0, a_aload 0 1), (1, a_stk (q_int 0) 2), (2, a_put 13 0 ckI 5), (5, a_aload 0 6), (6, a_iload 1 7), (7, a_callV false (fX12_isLoad kn) 13 2 10), (10, a_if kn b_ne 1 18 13), (13, a_aload 0 14), (14, a_callV false (fX12_refuse kn) 13 1 17), (17, a_iret), (18, a_iload 2 19), (19, a_table kn 0 3 [48, 58, 68, 88] 99), (48, a_aload 0 49), (49, a_get 13 14 52), (52, a_stk (q_int 82) 54), (54, a_iload 1 55), (55, a_stk q_iadd 56), (56, a_iald 57), (57, a_iret), (58, a_aload 0 59), (59, a_get 13 14 62), (62, a_stk (q_int 88) 64), (64, a_iload 1 65), (65, a_stk q_iadd 66), (66, a_iald 67), (67, a_iret), (68, a_aload 0 69), (69, a_get 13 14 72), (72, a_stk (q_int 96) 74), (74, a_iald 75), (75, a_iload 1 76), (76, a_callS false f_none 2 79), (79, a_if kn b_eq 0 86 82), (82, a_stk (q_int 1) 83), (83, a_goto 87), (86, a_stk (q_int 0) 87), (87, a_iret), (88, a_aload 0 89), (89, a_get 13 14 92), (92, a_stk (q_int 190) 95), (95, a_iload 1 96), (96, a_stk q_iadd 97), (97, a_iald 98), (98, a_iret), (99, a_aload 0 100), (100, a_callV false (fX12_refuse kn) 13 1 103), (103, a_iret)]
def fX12_load (kn : sKn) : List Value → sW → Option sR := mF (tX12_load kn) 3 1000000
set_option maxRecDepth 100000 in
set_option maxHeartbeats 4000000 in
theorem mX12_load (kn : sKn) : mM kn yX12_load (Cond.code yX12_load cX12_load 3 (some .int) :: wsL_law) 3 false (fX12_load kn) := mM_of (own := RX12) (ini := false) rfl (by decide +kernel) (by decide +kernel) (all_c (ok_aload_n dX12_load_0 rfl) (all_c (ok_stk (s_iconst dX12_load_1 (by decide))) (all_c (okp_X12_0 kw693 dX12_load_2) (all_c (ok_aload_n dX12_load_5 rfl) (all_c (ok_iload_n dX12_load_6 rfl) (all_c (okc_X12_isLoad (by decide) kw710 dX12_load_7) (all_c (ok_if_ne dX12_load_10 (by decide)) (all_c (ok_aload_n dX12_load_13 rfl) (all_c (okc_X12_refuse (by decide) kw921 dX12_load_14) (all_c (ok_iret dX12_load_17) (all_c (ok_iload_n dX12_load_18 rfl) (all_c (ok_table dX12_load_19 (by decide) (by decide) (by decide) (by decide)) (all_c (ok_aload_n dX12_load_48 rfl) (all_c (okg_X12_14 kw683 dX12_load_49) (all_c (ok_stk (s_bipush dX12_load_52 (by decide))) (all_c (ok_iload_n dX12_load_54 rfl) (all_c (ok_stk (s_iadd dX12_load_55)) (all_c (ok_iald dX12_load_56) (all_c (ok_iret dX12_load_57) (all_c (ok_aload_n dX12_load_58 rfl) (all_c (okg_X12_14 kw683 dX12_load_59) (all_c (ok_stk (s_bipush dX12_load_62 (by decide))) (all_c (ok_iload_n dX12_load_64 rfl) (all_c (ok_stk (s_iadd dX12_load_65)) (all_c (ok_iald dX12_load_66) (all_c (ok_iret dX12_load_67) (all_c (ok_aload_n dX12_load_68 rfl) (all_c (okg_X12_14 kw683 dX12_load_69) (all_c (ok_stk (s_bipush dX12_load_72 (by decide))) (all_c (ok_iald dX12_load_74) (all_c (ok_iload_n dX12_load_75 rfl) (all_c (okc0_X12_has (by decide) kw688 dX12_load_76) (all_c (ok_if_eq dX12_load_79 (by decide)) (all_c (ok_stk (s_iconst dX12_load_82 (by decide))) (all_c (ok_goto dX12_load_83 (by decide)) (all_c (ok_stk (s_iconst dX12_load_86 (by decide))) (all_c (ok_iret dX12_load_87) (all_c (ok_aload_n dX12_load_88 rfl) (all_c (okg_X12_14 kw683 dX12_load_89) (all_c (ok_stk (s_sipush dX12_load_92 (by decide))) (all_c (ok_iload_n dX12_load_95 rfl) (all_c (ok_stk (s_iadd dX12_load_96)) (all_c (ok_iald dX12_load_97) (all_c (ok_iret dX12_load_98) (all_c (ok_aload_n dX12_load_99 rfl) (all_c (okc_X12_refuse (by decide) kw921 dX12_load_100) (all_c (ok_iret dX12_load_103) all_n))))))))))))))))))))))))))))))))))))))))))))))) 1000000 (fun h => by first | rfl | cases h)
theorem dX12_places_0 : decode cX12_places 0 = .ok (.iconst 3, 1) := by decide +kernel
theorem dX12_places_1 : decode cX12_places 1 = .ok (.aload_n 0, 1) := by decide +kernel
theorem dX12_places_2 : decode cX12_places 2 = .ok (.getfield 98, 3) := by decide +kernel
theorem dX12_places_5 : decode cX12_places 5 = .ok (.iconst 0, 1) := by decide +kernel
theorem dX12_places_6 : decode cX12_places 6 = .ok (.iaload, 1) := by decide +kernel
theorem dX12_places_7 : decode cX12_places 7 = .ok (.imul, 1) := by decide +kernel
theorem dX12_places_8 : decode cX12_places 8 = .ok (.ireturn, 1) := by decide +kernel
def tX12_places (kn : sKn) : List (Nat × sA) := [(0, a_stk (q_int 3) 1), (1, a_aload 0 2), (2, a_get 13 14 5), (5, a_stk (q_int 0) 6), (6, a_iald 7), (7, a_stk q_imul 8), (8, a_iret)]
def fX12_places (kn : sKn) : List Value → sW → Option sR := mF (tX12_places kn) 1 1000000
set_option maxRecDepth 100000 in
set_option maxHeartbeats 4000000 in
theorem mX12_places (kn : sKn) : mM kn yX12_places (Cond.code yX12_places cX12_places 1 (some .int) :: wsL_law) 1 false (fX12_places kn) := mM_of (own := RX12) (ini := false) rfl (by decide +kernel) (by decide +kernel) (all_c (ok_stk (s_iconst dX12_places_0 (by decide))) (all_c (ok_aload_n dX12_places_1 rfl) (all_c (okg_X12_14 kw683 dX12_places_2) (all_c (ok_stk (s_iconst dX12_places_5 (by decide))) (all_c (ok_iald dX12_places_6) (all_c (ok_stk (s_imul dX12_places_7)) (all_c (ok_iret dX12_places_8) all_n))))))) 1000000 (fun h => by first | rfl | cases h)
theorem dX12_now_0 : decode cX12_now 0 = .ok (.aload_n 0, 1) := by decide +kernel
theorem dX12_now_1 : decode cX12_now 1 = .ok (.iconst 0, 1) := by decide +kernel
theorem dX12_now_2 : decode cX12_now 2 = .ok (.putfield 1, 3) := by decide +kernel
theorem dX12_now_5 : decode cX12_now 5 = .ok (.iconst 0, 1) := by decide +kernel
theorem dX12_now_6 : decode cX12_now 6 = .ok (.istore_n 2, 1) := by decide +kernel
theorem dX12_now_7 : decode cX12_now 7 = .ok (.iload_n 1, 1) := by decide +kernel
theorem dX12_now_8 : decode cX12_now 8 = .ok (.tableswitch 169 0 6 #[44, 52, 60, 94, 102, 131, 139], 44) := by decide +kernel
theorem dX12_now_52 : decode cX12_now 52 = .ok (.aload_n 0, 1) := by decide +kernel
theorem dX12_now_53 : decode cX12_now 53 = .ok (.getfield 98, 3) := by decide +kernel
theorem dX12_now_56 : decode cX12_now 56 = .ok (.bipush 94, 2) := by decide +kernel
theorem dX12_now_58 : decode cX12_now 58 = .ok (.iaload, 1) := by decide +kernel
theorem dX12_now_59 : decode cX12_now 59 = .ok (.ireturn, 1) := by decide +kernel
theorem dX12_now_60 : decode cX12_now 60 = .ok (.aload_n 0, 1) := by decide +kernel
theorem dX12_now_61 : decode cX12_now 61 = .ok (.getfield 98, 3) := by decide +kernel
theorem dX12_now_64 : decode cX12_now 64 = .ok (.bipush 95, 2) := by decide +kernel
theorem dX12_now_66 : decode cX12_now 66 = .ok (.iaload, 1) := by decide +kernel
theorem dX12_now_67 : decode cX12_now 67 = .ok (.ireturn, 1) := by decide +kernel
theorem dX12_now_68 : decode cX12_now 68 = .ok (.iconst 0, 1) := by decide +kernel
theorem dX12_now_69 : decode cX12_now 69 = .ok (.istore_n 3, 1) := by decide +kernel
theorem dX12_now_70 : decode cX12_now 70 = .ok (.iload_n 3, 1) := by decide +kernel
theorem dX12_now_71 : decode cX12_now 71 = .ok (.aload_n 0, 1) := by decide +kernel
theorem dX12_now_72 : decode cX12_now 72 = .ok (.invokevirtual 264, 3) := by decide +kernel
theorem dX12_now_75 : decode cX12_now 75 = .ok (.if_icmp .ge 25, 3) := by decide +kernel
theorem dX12_now_78 : decode cX12_now 78 = .ok (.aload_n 0, 1) := by decide +kernel
theorem dX12_now_79 : decode cX12_now 79 = .ok (.getfield 98, 3) := by decide +kernel
theorem dX12_now_82 : decode cX12_now 82 = .ok (.bipush 118, 2) := by decide +kernel
theorem dX12_now_84 : decode cX12_now 84 = .ok (.iload_n 3, 1) := by decide +kernel
theorem dX12_now_85 : decode cX12_now 85 = .ok (.iadd, 1) := by decide +kernel
theorem dX12_now_86 : decode cX12_now 86 = .ok (.iaload, 1) := by decide +kernel
theorem dX12_now_87 : decode cX12_now 87 = .ok (.iconst (-1), 1) := by decide +kernel
theorem dX12_now_88 : decode cX12_now 88 = .ok (.if_icmp .eq 6, 3) := by decide +kernel
theorem dX12_now_91 : decode cX12_now 91 = .ok (.iinc 2 1, 3) := by decide +kernel
theorem dX12_now_94 : decode cX12_now 94 = .ok (.iinc 3 1, 3) := by decide +kernel
theorem dX12_now_97 : decode cX12_now 97 = .ok (.goto (-27), 3) := by decide +kernel
theorem dX12_now_100 : decode cX12_now 100 = .ok (.iload_n 2, 1) := by decide +kernel
theorem dX12_now_101 : decode cX12_now 101 = .ok (.ireturn, 1) := by decide +kernel
theorem dX12_now_102 : decode cX12_now 102 = .ok (.aload_n 0, 1) := by decide +kernel
theorem dX12_now_103 : decode cX12_now 103 = .ok (.getfield 98, 3) := by decide +kernel
theorem dX12_now_106 : decode cX12_now 106 = .ok (.bipush 96, 2) := by decide +kernel
theorem dX12_now_108 : decode cX12_now 108 = .ok (.iaload, 1) := by decide +kernel
theorem dX12_now_109 : decode cX12_now 109 = .ok (.ireturn, 1) := by decide +kernel
theorem dX12_now_110 : decode cX12_now 110 = .ok (.iconst 0, 1) := by decide +kernel
theorem dX12_now_111 : decode cX12_now 111 = .ok (.istore_n 3, 1) := by decide +kernel
theorem dX12_now_112 : decode cX12_now 112 = .ok (.iload_n 3, 1) := by decide +kernel
theorem dX12_now_113 : decode cX12_now 113 = .ok (.bipush 6, 2) := by decide +kernel
theorem dX12_now_115 : decode cX12_now 115 = .ok (.if_icmp .ge 22, 3) := by decide +kernel
theorem dX12_now_118 : decode cX12_now 118 = .ok (.iload_n 2, 1) := by decide +kernel
theorem dX12_now_119 : decode cX12_now 119 = .ok (.aload_n 0, 1) := by decide +kernel
theorem dX12_now_120 : decode cX12_now 120 = .ok (.getfield 98, 3) := by decide +kernel
theorem dX12_now_123 : decode cX12_now 123 = .ok (.sipush 190, 3) := by decide +kernel
theorem dX12_now_126 : decode cX12_now 126 = .ok (.iload_n 3, 1) := by decide +kernel
theorem dX12_now_127 : decode cX12_now 127 = .ok (.iadd, 1) := by decide +kernel
theorem dX12_now_128 : decode cX12_now 128 = .ok (.iaload, 1) := by decide +kernel
theorem dX12_now_129 : decode cX12_now 129 = .ok (.iadd, 1) := by decide +kernel
theorem dX12_now_130 : decode cX12_now 130 = .ok (.istore_n 2, 1) := by decide +kernel
theorem dX12_now_131 : decode cX12_now 131 = .ok (.iinc 3 1, 3) := by decide +kernel
theorem dX12_now_134 : decode cX12_now 134 = .ok (.goto (-22), 3) := by decide +kernel
theorem dX12_now_137 : decode cX12_now 137 = .ok (.iload_n 2, 1) := by decide +kernel
theorem dX12_now_138 : decode cX12_now 138 = .ok (.ireturn, 1) := by decide +kernel
theorem dX12_now_139 : decode cX12_now 139 = .ok (.aload_n 0, 1) := by decide +kernel
theorem dX12_now_140 : decode cX12_now 140 = .ok (.getfield 98, 3) := by decide +kernel
theorem dX12_now_143 : decode cX12_now 143 = .ok (.bipush 97, 2) := by decide +kernel
theorem dX12_now_145 : decode cX12_now 145 = .ok (.iaload, 1) := by decide +kernel
theorem dX12_now_146 : decode cX12_now 146 = .ok (.ireturn, 1) := by decide +kernel
theorem dX12_now_147 : decode cX12_now 147 = .ok (.aload_n 0, 1) := by decide +kernel
theorem dX12_now_148 : decode cX12_now 148 = .ok (.invokevirtual 292, 3) := by decide +kernel
theorem dX12_now_151 : decode cX12_now 151 = .ok (.iconst 0, 1) := by decide +kernel
theorem dX12_now_152 : decode cX12_now 152 = .ok (.istore_n 3, 1) := by decide +kernel
theorem dX12_now_153 : decode cX12_now 153 = .ok (.iload_n 3, 1) := by decide +kernel
theorem dX12_now_154 : decode cX12_now 154 = .ok (.aload_n 0, 1) := by decide +kernel
theorem dX12_now_155 : decode cX12_now 155 = .ok (.invokevirtual 264, 3) := by decide +kernel
theorem dX12_now_158 : decode cX12_now 158 = .ok (.if_icmp .ge 17, 3) := by decide +kernel
theorem dX12_now_161 : decode cX12_now 161 = .ok (.iload_n 2, 1) := by decide +kernel
theorem dX12_now_162 : decode cX12_now 162 = .ok (.aload_n 0, 1) := by decide +kernel
theorem dX12_now_163 : decode cX12_now 163 = .ok (.iload_n 3, 1) := by decide +kernel
theorem dX12_now_164 : decode cX12_now 164 = .ok (.invokevirtual 274, 3) := by decide +kernel
theorem dX12_now_167 : decode cX12_now 167 = .ok (.iadd, 1) := by decide +kernel
theorem dX12_now_168 : decode cX12_now 168 = .ok (.istore_n 2, 1) := by decide +kernel
theorem dX12_now_169 : decode cX12_now 169 = .ok (.iinc 3 1, 3) := by decide +kernel
theorem dX12_now_172 : decode cX12_now 172 = .ok (.goto (-19), 3) := by decide +kernel
theorem dX12_now_175 : decode cX12_now 175 = .ok (.iload_n 2, 1) := by decide +kernel
theorem dX12_now_176 : decode cX12_now 176 = .ok (.ireturn, 1) := by decide +kernel
theorem dX12_now_177 : decode cX12_now 177 = .ok (.iconst (-1), 1) := by decide +kernel
theorem dX12_now_178 : decode cX12_now 178 = .ok (.ireturn, 1) := by decide +kernel
theorem okc_X12_places {kn : sKn} {cc : ByteArray} {own : String} {nL : Nat} {D : Nat} {ret : Option FieldType} {ini : Bool} {pc index : Nat} (hD : 1 + 1 ≤ D) (hl : Cond.methodLink own index yX12_places ∈ wsL_law) (hd : decode cc pc = .ok (.invokevirtual index, 3)) : mOk kn cc own nL wsL_law D ret ini pc (a_callV false (fX12_places kn) 13 (0 + 1) (pc + 3)) := ok_callV (mX12_places kn) (good_ws ws_good (fun _ h => h) kw922) hD (by decide) hl kw923 kw924 kw686 ⟨by decide +kernel, by decide +kernel, by decide +kernel⟩ rfl hd
def tX12_now (kn : sKn) : List (Nat × sA) := [(0, a_aload 0 1), (1, a_stk (q_int 0) 2), (2, a_put 13 0 ckI 5), (5, a_stk (q_int 0) 6), (6, a_istore 2 7), (7, a_iload 1 8), (8, a_table kn 0 6 [52, 60, 68, 102, 110, 139, 147] 177), (52, a_aload 0 53), (53, a_get 13 14 56), (56, a_stk (q_int 94) 58), (58, a_iald 59), (59, a_iret), (60, a_aload 0 61), (61, a_get 13 14 64), (64, a_stk (q_int 95) 66), (66, a_iald 67), (67, a_iret), (68, a_stk (q_int 0) 69), (69, a_istore 3 70), (70, a_iload 3 71), (71, a_aload 0 72), (72, a_callV false (fX12_places kn) 13 1 75), (75, a_icmp kn b_ge 3 100 78), (78, a_aload 0 79), (79, a_get 13 14 82), (82, a_stk (q_int 118) 84), (84, a_iload 3 85), (85, a_stk q_iadd 86), (86, a_iald 87), (87, a_stk (q_int (-1)) 88), (88, a_icmp kn b_eq 0 94 91), (91, a_iinc 2 1 94), (94, a_iinc 3 1 97), (97, a_goto 70), (100, a_iload 2 101), (101, a_iret), (102, a_aload 0 103), (103, a_get 13 14 106), (106, a_stk (q_int 96) 108), (108, a_iald 109), (109, a_iret), (110, a_stk (q_int 0) 111), (111, a_istore 3 112), (112, a_iload 3 113), (113, a_stk (q_int 6) 115), (115, a_icmp kn b_ge 3 137 118), (118, a_iload 2 119), (119, a_aload 0 120), (120, a_get 13 14 123), (123, a_stk (q_int 190) 126), (126, a_iload 3 127), (127, a_stk q_iadd 128), (128, a_iald 129), (129, a_stk q_iadd 130), (130, a_istore 2 131), (131, a_iinc 3 1 134), (134, a_goto 112), (137, a_iload 2 138), (138, a_iret), (139, a_aload 0 140), (140, a_get 13 14 143), (143, a_stk (q_int 97) 145), (145, a_iald 146), (146, a_iret), (147, a_aload 0 148), (148, a_callV true (fX12_layWhose kn) 13 1 151), (151, a_stk (q_int 0) 152), (152, a_istore 3 153), (153, a_iload 3 154), (154, a_aload 0 155), (155, a_callV false (fX12_places kn) 13 1 158), (158, a_icmp kn b_ge 3 175 161), (161, a_iload 2 162), (162, a_aload 0 163), (163, a_iload 3 164), (164, a_callV false (fX12_bearsAt kn) 13 2 167), (167, a_stk q_iadd 168), (168, a_istore 2 169), (169, a_iinc 3 1 172), (172, a_goto 153), (175, a_iload 2 176), (176, a_iret), (177, a_stk (q_int (-1)) 178), (178, a_iret)]
def fX12_now (kn : sKn) : List Value → sW → Option sR := mF (tX12_now kn) 4 1000000
set_option maxRecDepth 100000 in
set_option maxHeartbeats 4000000 in
theorem mX12_now (kn : sKn) : mM kn yX12_now (Cond.code yX12_now cX12_now 4 (some .int) :: wsL_law) 2 false (fX12_now kn) := mM_of (own := RX12) (ini := false) rfl (by decide +kernel) (by decide +kernel) (all_c (ok_aload_n dX12_now_0 rfl) (all_c (ok_stk (s_iconst dX12_now_1 (by decide))) (all_c (okp_X12_0 kw693 dX12_now_2) (all_c (ok_stk (s_iconst dX12_now_5 (by decide))) (all_c (ok_istore_n dX12_now_6 rfl (by decide)) (all_c (ok_iload_n dX12_now_7 rfl) (all_c (ok_table dX12_now_8 (by decide) (by decide) (by decide) (by decide)) (all_c (ok_aload_n dX12_now_52 rfl) (all_c (okg_X12_14 kw683 dX12_now_53) (all_c (ok_stk (s_bipush dX12_now_56 (by decide))) (all_c (ok_iald dX12_now_58) (all_c (ok_iret dX12_now_59) (all_c (ok_aload_n dX12_now_60 rfl) (all_c (okg_X12_14 kw683 dX12_now_61) (all_c (ok_stk (s_bipush dX12_now_64 (by decide))) (all_c (ok_iald dX12_now_66) (all_c (ok_iret dX12_now_67) (all_c (ok_stk (s_iconst dX12_now_68 (by decide))) (all_c (ok_istore_n dX12_now_69 rfl (by decide)) (all_c (ok_iload_n dX12_now_70 rfl) (all_c (ok_aload_n dX12_now_71 rfl) (all_c (okc_X12_places (by decide) kw925 dX12_now_72) (all_c (ok_icmp_ge dX12_now_75 (by decide)) (all_c (ok_aload_n dX12_now_78 rfl) (all_c (okg_X12_14 kw683 dX12_now_79) (all_c (ok_stk (s_bipush dX12_now_82 (by decide))) (all_c (ok_iload_n dX12_now_84 rfl) (all_c (ok_stk (s_iadd dX12_now_85)) (all_c (ok_iald dX12_now_86) (all_c (ok_stk (s_iconst dX12_now_87 (by decide))) (all_c (ok_icmp_eq dX12_now_88 (by decide)) (all_c (ok_iinc dX12_now_91 (by decide) (by decide)) (all_c (ok_iinc dX12_now_94 (by decide) (by decide)) (all_c (ok_goto dX12_now_97 (by decide)) (all_c (ok_iload_n dX12_now_100 rfl) (all_c (ok_iret dX12_now_101) (all_c (ok_aload_n dX12_now_102 rfl) (all_c (okg_X12_14 kw683 dX12_now_103) (all_c (ok_stk (s_bipush dX12_now_106 (by decide))) (all_c (ok_iald dX12_now_108) (all_c (ok_iret dX12_now_109) (all_c (ok_stk (s_iconst dX12_now_110 (by decide))) (all_c (ok_istore_n dX12_now_111 rfl (by decide)) (all_c (ok_iload_n dX12_now_112 rfl) (all_c (ok_stk (s_bipush dX12_now_113 (by decide))) (all_c (ok_icmp_ge dX12_now_115 (by decide)) (all_c (ok_iload_n dX12_now_118 rfl) (all_c (ok_aload_n dX12_now_119 rfl) (all_c (okg_X12_14 kw683 dX12_now_120) (all_c (ok_stk (s_sipush dX12_now_123 (by decide))) (all_c (ok_iload_n dX12_now_126 rfl) (all_c (ok_stk (s_iadd dX12_now_127)) (all_c (ok_iald dX12_now_128) (all_c (ok_stk (s_iadd dX12_now_129)) (all_c (ok_istore_n dX12_now_130 rfl (by decide)) (all_c (ok_iinc dX12_now_131 (by decide) (by decide)) (all_c (ok_goto dX12_now_134 (by decide)) (all_c (ok_iload_n dX12_now_137 rfl) (all_c (ok_iret dX12_now_138) (all_c (ok_aload_n dX12_now_139 rfl) (all_c (okg_X12_14 kw683 dX12_now_140) (all_c (ok_stk (s_bipush dX12_now_143 (by decide))) (all_c (ok_iald dX12_now_145) (all_c (ok_iret dX12_now_146) (all_c (ok_aload_n dX12_now_147 rfl) (all_c (okc_X12_layWhose (by decide) kw697 dX12_now_148) (all_c (ok_stk (s_iconst dX12_now_151 (by decide))) (all_c (ok_istore_n dX12_now_152 rfl (by decide)) (all_c (ok_iload_n dX12_now_153 rfl) (all_c (ok_aload_n dX12_now_154 rfl) (all_c (okc_X12_places (by decide) kw925 dX12_now_155) (all_c (ok_icmp_ge dX12_now_158 (by decide)) (all_c (ok_iload_n dX12_now_161 rfl) (all_c (ok_aload_n dX12_now_162 rfl) (all_c (ok_iload_n dX12_now_163 rfl) (all_c (okc_X12_bearsAt (by decide) kw913 dX12_now_164) (all_c (ok_stk (s_iadd dX12_now_167)) (all_c (ok_istore_n dX12_now_168 rfl (by decide)) (all_c (ok_iinc dX12_now_169 (by decide) (by decide)) (all_c (ok_goto dX12_now_172 (by decide)) (all_c (ok_iload_n dX12_now_175 rfl) (all_c (ok_iret dX12_now_176) (all_c (ok_stk (s_iconst dX12_now_177 (by decide))) (all_c (ok_iret dX12_now_178) all_n)))))))))))))))))))))))))))))))))))))))))))))))))))))))))))))))))))))))))))))))))))) 1000000 (fun h => by first | rfl | cases h)
theorem dX12_odds_0 : decode cX12_odds 0 = .ok (.aload_n 0, 1) := by decide +kernel
theorem dX12_odds_1 : decode cX12_odds 1 = .ok (.iconst 0, 1) := by decide +kernel
theorem dX12_odds_2 : decode cX12_odds 2 = .ok (.putfield 1, 3) := by decide +kernel
theorem dX12_odds_5 : decode cX12_odds 5 = .ok (.aload_n 0, 1) := by decide +kernel
theorem dX12_odds_6 : decode cX12_odds 6 = .ok (.iload_n 1, 1) := by decide +kernel
theorem dX12_odds_7 : decode cX12_odds 7 = .ok (.invokevirtual 295, 3) := by decide +kernel
theorem dX12_odds_10 : decode cX12_odds 10 = .ok (.ifCond .eq 22, 3) := by decide +kernel
theorem dX12_odds_13 : decode cX12_odds 13 = .ok (.iload_n 2, 1) := by decide +kernel
theorem dX12_odds_14 : decode cX12_odds 14 = .ok (.iconst 1, 1) := by decide +kernel
theorem dX12_odds_15 : decode cX12_odds 15 = .ok (.bipush 30, 2) := by decide +kernel
theorem dX12_odds_17 : decode cX12_odds 17 = .ok (.invokestatic 75, 3) := by decide +kernel
theorem dX12_odds_20 : decode cX12_odds 20 = .ok (.ifCond .eq 12, 3) := by decide +kernel
theorem dX12_odds_23 : decode cX12_odds 23 = .ok (.aload_n 0, 1) := by decide +kernel
theorem dX12_odds_24 : decode cX12_odds 24 = .ok (.getfield 98, 3) := by decide +kernel
theorem dX12_odds_27 : decode cX12_odds 27 = .ok (.iconst 1, 1) := by decide +kernel
theorem dX12_odds_28 : decode cX12_odds 28 = .ok (.iaload, 1) := by decide +kernel
theorem dX12_odds_29 : decode cX12_odds 29 = .ok (.ifCond .ne 5, 3) := by decide +kernel
theorem dX12_odds_32 : decode cX12_odds 32 = .ok (.iconst (-1), 1) := by decide +kernel
theorem dX12_odds_33 : decode cX12_odds 33 = .ok (.ireturn, 1) := by decide +kernel
theorem dX12_odds_34 : decode cX12_odds 34 = .ok (.aload_n 0, 1) := by decide +kernel
theorem dX12_odds_35 : decode cX12_odds 35 = .ok (.invokevirtual 409, 3) := by decide +kernel
theorem dX12_odds_38 : decode cX12_odds 38 = .ok (.iconst 0, 1) := by decide +kernel
theorem dX12_odds_39 : decode cX12_odds 39 = .ok (.istore 4, 2) := by decide +kernel
theorem dX12_odds_41 : decode cX12_odds 41 = .ok (.iconst 0, 1) := by decide +kernel
theorem dX12_odds_42 : decode cX12_odds 42 = .ok (.istore 5, 2) := by decide +kernel
theorem dX12_odds_44 : decode cX12_odds 44 = .ok (.iload 5, 2) := by decide +kernel
theorem dX12_odds_46 : decode cX12_odds 46 = .ok (.iload_n 2, 1) := by decide +kernel
theorem dX12_odds_47 : decode cX12_odds 47 = .ok (.if_icmp .ge 39, 3) := by decide +kernel
theorem dX12_odds_50 : decode cX12_odds 50 = .ok (.aload_n 0, 1) := by decide +kernel
theorem dX12_odds_51 : decode cX12_odds 51 = .ok (.bipush 20, 2) := by decide +kernel
theorem dX12_odds_53 : decode cX12_odds 53 = .ok (.iload_n 3, 1) := by decide +kernel
theorem dX12_odds_54 : decode cX12_odds 54 = .ok (.iload 5, 2) := by decide +kernel
theorem dX12_odds_56 : decode cX12_odds 56 = .ok (.iadd, 1) := by decide +kernel
theorem dX12_odds_57 : decode cX12_odds 57 = .ok (.invokevirtual 438, 3) := by decide +kernel
theorem dX12_odds_60 : decode cX12_odds 60 = .ok (.pop, 1) := by decide +kernel
theorem dX12_odds_61 : decode cX12_odds 61 = .ok (.aload_n 0, 1) := by decide +kernel
theorem dX12_odds_62 : decode cX12_odds 62 = .ok (.invokevirtual 292, 3) := by decide +kernel
theorem dX12_odds_65 : decode cX12_odds 65 = .ok (.aload_n 0, 1) := by decide +kernel
theorem dX12_odds_66 : decode cX12_odds 66 = .ok (.iload_n 1, 1) := by decide +kernel
theorem dX12_odds_67 : decode cX12_odds 67 = .ok (.invokevirtual 334, 3) := by decide +kernel
theorem dX12_odds_70 : decode cX12_odds 70 = .ok (.ifCond .eq 6, 3) := by decide +kernel
theorem dX12_odds_73 : decode cX12_odds 73 = .ok (.iinc 4 1, 3) := by decide +kernel
theorem dX12_odds_76 : decode cX12_odds 76 = .ok (.aload_n 0, 1) := by decide +kernel
theorem dX12_odds_77 : decode cX12_odds 77 = .ok (.invokevirtual 415, 3) := by decide +kernel
theorem dX12_odds_80 : decode cX12_odds 80 = .ok (.iinc 5 1, 3) := by decide +kernel
theorem dX12_odds_83 : decode cX12_odds 83 = .ok (.goto (-39), 3) := by decide +kernel
theorem dX12_odds_86 : decode cX12_odds 86 = .ok (.iload 4, 2) := by decide +kernel
theorem dX12_odds_88 : decode cX12_odds 88 = .ok (.ireturn, 1) := by decide +kernel
def tX12_odds (kn : sKn) : List (Nat × sA) := [(0, a_aload 0 1), (1, a_stk (q_int 0) 2), (2, a_put 13 0 ckI 5), (5, a_aload 0 6), (6, a_iload 1 7), (7, a_callV false (fX12_isLoad kn) 13 2 10), (10, a_if kn b_eq 0 32 13), (13, a_iload 2 14), (14, a_stk (q_int 1) 15), (15, a_stk (q_int 30) 17), (17, a_callS false (fX12_isIn kn) 3 20), (20, a_if kn b_eq 0 32 23), (23, a_aload 0 24), (24, a_get 13 14 27), (27, a_stk (q_int 1) 28), (28, a_iald 29), (29, a_if kn b_ne 1 34 32), (32, a_stk (q_int (-1)) 33), (33, a_iret), (34, a_aload 0 35), (35, a_callV true (fX12_layAside kn) 13 1 38), (38, a_stk (q_int 0) 39), (39, a_istore 4 41), (41, a_stk (q_int 0) 42), (42, a_istore 5 44), (44, a_iload 5 46), (46, a_iload 2 47), (47, a_icmp kn b_ge 3 86 50), (50, a_aload 0 51), (51, a_stk (q_int 20) 53), (53, a_iload 3 54), (54, a_iload 5 56), (56, a_stk q_iadd 57), (57, a_callV false f_none 13 3 60), (60, a_stk q_pop 61), (61, a_aload 0 62), (62, a_callV true (fX12_layWhose kn) 13 1 65), (65, a_aload 0 66), (66, a_iload 1 67), (67, a_callV false f_none 13 2 70), (70, a_if kn b_eq 0 76 73), (73, a_iinc 4 1 76), (76, a_aload 0 77), (77, a_callV true f_none 13 1 80), (80, a_iinc 5 1 83), (83, a_goto 44), (86, a_iload 4 88), (88, a_iret)]
def fX12_odds (kn : sKn) : List Value → sW → Option sR := mF (tX12_odds kn) 6 1000000
set_option maxRecDepth 100000 in
set_option maxHeartbeats 4000000 in
theorem mX12_odds (kn : sKn) : mM kn yX12_odds (Cond.code yX12_odds cX12_odds 6 (some .int) :: wsL_law) 3 false (fX12_odds kn) := mM_of (own := RX12) (ini := false) rfl (by decide +kernel) (by decide +kernel) (all_c (ok_aload_n dX12_odds_0 rfl) (all_c (ok_stk (s_iconst dX12_odds_1 (by decide))) (all_c (okp_X12_0 kw693 dX12_odds_2) (all_c (ok_aload_n dX12_odds_5 rfl) (all_c (ok_iload_n dX12_odds_6 rfl) (all_c (okc_X12_isLoad (by decide) kw710 dX12_odds_7) (all_c (ok_if_eq dX12_odds_10 (by decide)) (all_c (ok_iload_n dX12_odds_13 rfl) (all_c (ok_stk (s_iconst dX12_odds_14 (by decide))) (all_c (ok_stk (s_bipush dX12_odds_15 (by decide))) (all_c (okc_X12_isIn (by decide) kw705 dX12_odds_17) (all_c (ok_if_eq dX12_odds_20 (by decide)) (all_c (ok_aload_n dX12_odds_23 rfl) (all_c (okg_X12_14 kw683 dX12_odds_24) (all_c (ok_stk (s_iconst dX12_odds_27 (by decide))) (all_c (ok_iald dX12_odds_28) (all_c (ok_if_ne dX12_odds_29 (by decide)) (all_c (ok_stk (s_iconst dX12_odds_32 (by decide))) (all_c (ok_iret dX12_odds_33) (all_c (ok_aload_n dX12_odds_34 rfl) (all_c (okc_X12_layAside (by decide) kw783 dX12_odds_35) (all_c (ok_stk (s_iconst dX12_odds_38 (by decide))) (all_c (ok_istore dX12_odds_39 (by decide)) (all_c (ok_stk (s_iconst dX12_odds_41 (by decide))) (all_c (ok_istore dX12_odds_42 (by decide)) (all_c (ok_iload dX12_odds_44) (all_c (ok_iload_n dX12_odds_46 rfl) (all_c (ok_icmp_ge dX12_odds_47 (by decide)) (all_c (ok_aload_n dX12_odds_50 rfl) (all_c (ok_stk (s_bipush dX12_odds_51 (by decide))) (all_c (ok_iload_n dX12_odds_53 rfl) (all_c (ok_iload dX12_odds_54) (all_c (ok_stk (s_iadd dX12_odds_56)) (all_c (okc0_X12_drawDays (by decide) kw873 dX12_odds_57) (all_c (ok_stk (s_pop dX12_odds_60)) (all_c (ok_aload_n dX12_odds_61 rfl) (all_c (okc_X12_layWhose (by decide) kw697 dX12_odds_62) (all_c (ok_aload_n dX12_odds_65 rfl) (all_c (ok_iload_n dX12_odds_66 rfl) (all_c (okc0_X12_hasPath (by decide) kw692 dX12_odds_67) (all_c (ok_if_eq dX12_odds_70 (by decide)) (all_c (ok_iinc dX12_odds_73 (by decide) (by decide)) (all_c (ok_aload_n dX12_odds_76 rfl) (all_c (okc0_X12_takeBack (by decide) kw770 dX12_odds_77) (all_c (ok_iinc dX12_odds_80 (by decide) (by decide)) (all_c (ok_goto dX12_odds_83 (by decide)) (all_c (ok_iload dX12_odds_86) (all_c (ok_iret dX12_odds_88) all_n)))))))))))))))))))))))))))))))))))))))))))))))) 1000000 (fun h => by first | rfl | cases h)
theorem dX12_orderFrom_0 : decode cX12_orderFrom 0 = .ok (.iload_n 3, 1) := by decide +kernel
theorem dX12_orderFrom_1 : decode cX12_orderFrom 1 = .ok (.ifCond .ne 49, 3) := by decide +kernel
theorem dX12_orderFrom_4 : decode cX12_orderFrom 4 = .ok (.iload 4, 2) := by decide +kernel
theorem dX12_orderFrom_6 : decode cX12_orderFrom 6 = .ok (.aload_n 0, 1) := by decide +kernel
theorem dX12_orderFrom_7 : decode cX12_orderFrom 7 = .ok (.getfield 393, 3) := by decide +kernel
theorem dX12_orderFrom_10 : decode cX12_orderFrom 10 = .ok (.if_icmp .gt 4, 3) := by decide +kernel
theorem dX12_orderFrom_13 : decode cX12_orderFrom 13 = .ok (.return_, 1) := by decide +kernel
theorem dX12_orderFrom_14 : decode cX12_orderFrom 14 = .ok (.aload_n 0, 1) := by decide +kernel
theorem dX12_orderFrom_15 : decode cX12_orderFrom 15 = .ok (.iload 4, 2) := by decide +kernel
theorem dX12_orderFrom_17 : decode cX12_orderFrom 17 = .ok (.putfield 393, 3) := by decide +kernel
theorem dX12_orderFrom_20 : decode cX12_orderFrom 20 = .ok (.iconst 0, 1) := by decide +kernel
theorem dX12_orderFrom_21 : decode cX12_orderFrom 21 = .ok (.istore 5, 2) := by decide +kernel
theorem dX12_orderFrom_23 : decode cX12_orderFrom 23 = .ok (.iload 5, 2) := by decide +kernel
theorem dX12_orderFrom_25 : decode cX12_orderFrom 25 = .ok (.iload_n 2, 1) := by decide +kernel
theorem dX12_orderFrom_26 : decode cX12_orderFrom 26 = .ok (.if_icmp .ge 23, 3) := by decide +kernel
theorem dX12_orderFrom_29 : decode cX12_orderFrom 29 = .ok (.aload_n 0, 1) := by decide +kernel
theorem dX12_orderFrom_30 : decode cX12_orderFrom 30 = .ok (.getfield 157, 3) := by decide +kernel
theorem dX12_orderFrom_33 : decode cX12_orderFrom 33 = .ok (.iload 5, 2) := by decide +kernel
theorem dX12_orderFrom_35 : decode cX12_orderFrom 35 = .ok (.aload_n 0, 1) := by decide +kernel
theorem dX12_orderFrom_36 : decode cX12_orderFrom 36 = .ok (.getfield 154, 3) := by decide +kernel
theorem dX12_orderFrom_39 : decode cX12_orderFrom 39 = .ok (.iload 5, 2) := by decide +kernel
theorem dX12_orderFrom_41 : decode cX12_orderFrom 41 = .ok (.iaload, 1) := by decide +kernel
theorem dX12_orderFrom_42 : decode cX12_orderFrom 42 = .ok (.iastore, 1) := by decide +kernel
theorem dX12_orderFrom_43 : decode cX12_orderFrom 43 = .ok (.iinc 5 1, 3) := by decide +kernel
theorem dX12_orderFrom_46 : decode cX12_orderFrom 46 = .ok (.goto (-23), 3) := by decide +kernel
theorem dX12_orderFrom_49 : decode cX12_orderFrom 49 = .ok (.return_, 1) := by decide +kernel
theorem dX12_orderFrom_50 : decode cX12_orderFrom 50 = .ok (.iconst 0, 1) := by decide +kernel
theorem dX12_orderFrom_51 : decode cX12_orderFrom 51 = .ok (.istore 5, 2) := by decide +kernel
theorem dX12_orderFrom_53 : decode cX12_orderFrom 53 = .ok (.iload 5, 2) := by decide +kernel
theorem dX12_orderFrom_55 : decode cX12_orderFrom 55 = .ok (.bipush 102, 2) := by decide +kernel
theorem dX12_orderFrom_57 : decode cX12_orderFrom 57 = .ok (.if_icmp .ge 31, 3) := by decide +kernel
theorem dX12_orderFrom_60 : decode cX12_orderFrom 60 = .ok (.aload_n 0, 1) := by decide +kernel
theorem dX12_orderFrom_61 : decode cX12_orderFrom 61 = .ok (.getfield 160, 3) := by decide +kernel
theorem dX12_orderFrom_64 : decode cX12_orderFrom 64 = .ok (.bipush 102, 2) := by decide +kernel
theorem dX12_orderFrom_66 : decode cX12_orderFrom 66 = .ok (.iload_n 1, 1) := by decide +kernel
theorem dX12_orderFrom_67 : decode cX12_orderFrom 67 = .ok (.imul, 1) := by decide +kernel
theorem dX12_orderFrom_68 : decode cX12_orderFrom 68 = .ok (.iload 5, 2) := by decide +kernel
theorem dX12_orderFrom_70 : decode cX12_orderFrom 70 = .ok (.iadd, 1) := by decide +kernel
theorem dX12_orderFrom_71 : decode cX12_orderFrom 71 = .ok (.aload_n 0, 1) := by decide +kernel
theorem dX12_orderFrom_72 : decode cX12_orderFrom 72 = .ok (.getfield 98, 3) := by decide +kernel
theorem dX12_orderFrom_75 : decode cX12_orderFrom 75 = .ok (.bipush 94, 2) := by decide +kernel
theorem dX12_orderFrom_77 : decode cX12_orderFrom 77 = .ok (.iload 5, 2) := by decide +kernel
theorem dX12_orderFrom_79 : decode cX12_orderFrom 79 = .ok (.iadd, 1) := by decide +kernel
theorem dX12_orderFrom_80 : decode cX12_orderFrom 80 = .ok (.iaload, 1) := by decide +kernel
theorem dX12_orderFrom_81 : decode cX12_orderFrom 81 = .ok (.iastore, 1) := by decide +kernel
theorem dX12_orderFrom_82 : decode cX12_orderFrom 82 = .ok (.iinc 5 1, 3) := by decide +kernel
theorem dX12_orderFrom_85 : decode cX12_orderFrom 85 = .ok (.goto (-32), 3) := by decide +kernel
theorem dX12_orderFrom_88 : decode cX12_orderFrom 88 = .ok (.iconst 0, 1) := by decide +kernel
theorem dX12_orderFrom_89 : decode cX12_orderFrom 89 = .ok (.istore 5, 2) := by decide +kernel
theorem dX12_orderFrom_91 : decode cX12_orderFrom 91 = .ok (.iload 5, 2) := by decide +kernel
theorem dX12_orderFrom_93 : decode cX12_orderFrom 93 = .ok (.aload_n 0, 1) := by decide +kernel
theorem dX12_orderFrom_94 : decode cX12_orderFrom 94 = .ok (.getfield 98, 3) := by decide +kernel
theorem dX12_orderFrom_97 : decode cX12_orderFrom 97 = .ok (.iconst 2, 1) := by decide +kernel
theorem dX12_orderFrom_98 : decode cX12_orderFrom 98 = .ok (.iaload, 1) := by decide +kernel
theorem dX12_orderFrom_99 : decode cX12_orderFrom 99 = .ok (.if_icmp .ge 104, 3) := by decide +kernel
theorem dX12_orderFrom_102 : decode cX12_orderFrom 102 = .ok (.iload_n 3, 1) := by decide +kernel
theorem dX12_orderFrom_103 : decode cX12_orderFrom 103 = .ok (.iload 5, 2) := by decide +kernel
theorem dX12_orderFrom_105 : decode cX12_orderFrom 105 = .ok (.invokestatic 225, 3) := by decide +kernel
theorem dX12_orderFrom_108 : decode cX12_orderFrom 108 = .ok (.ifCond .ne 6, 3) := by decide +kernel
theorem dX12_orderFrom_111 : decode cX12_orderFrom 111 = .ok (.goto 86, 3) := by decide +kernel
theorem dX12_orderFrom_114 : decode cX12_orderFrom 114 = .ok (.aload_n 0, 1) := by decide +kernel
theorem dX12_orderFrom_115 : decode cX12_orderFrom 115 = .ok (.getfield 154, 3) := by decide +kernel
theorem dX12_orderFrom_118 : decode cX12_orderFrom 118 = .ok (.iload_n 1, 1) := by decide +kernel
theorem dX12_orderFrom_119 : decode cX12_orderFrom 119 = .ok (.iload 5, 2) := by decide +kernel
theorem dX12_orderFrom_121 : decode cX12_orderFrom 121 = .ok (.iastore, 1) := by decide +kernel
theorem dX12_orderFrom_122 : decode cX12_orderFrom 122 = .ok (.aload_n 0, 1) := by decide +kernel
theorem dX12_orderFrom_123 : decode cX12_orderFrom 123 = .ok (.iload 5, 2) := by decide +kernel
theorem dX12_orderFrom_125 : decode cX12_orderFrom 125 = .ok (.invokevirtual 358, 3) := by decide +kernel
theorem dX12_orderFrom_128 : decode cX12_orderFrom 128 = .ok (.ifCond .ne 7, 3) := by decide +kernel
theorem dX12_orderFrom_131 : decode cX12_orderFrom 131 = .ok (.iconst 1, 1) := by decide +kernel
theorem dX12_orderFrom_132 : decode cX12_orderFrom 132 = .ok (.goto 4, 3) := by decide +kernel
theorem dX12_orderFrom_135 : decode cX12_orderFrom 135 = .ok (.iconst 0, 1) := by decide +kernel
theorem dX12_orderFrom_136 : decode cX12_orderFrom 136 = .ok (.istore 6, 2) := by decide +kernel
theorem dX12_orderFrom_138 : decode cX12_orderFrom 138 = .ok (.aload_n 0, 1) := by decide +kernel
theorem dX12_orderFrom_139 : decode cX12_orderFrom 139 = .ok (.iload_n 1, 1) := by decide +kernel
theorem dX12_orderFrom_140 : decode cX12_orderFrom 140 = .ok (.iconst 1, 1) := by decide +kernel
theorem dX12_orderFrom_141 : decode cX12_orderFrom 141 = .ok (.iadd, 1) := by decide +kernel
theorem dX12_orderFrom_142 : decode cX12_orderFrom 142 = .ok (.iload_n 2, 1) := by decide +kernel
theorem dX12_orderFrom_143 : decode cX12_orderFrom 143 = .ok (.iload_n 3, 1) := by decide +kernel
theorem dX12_orderFrom_144 : decode cX12_orderFrom 144 = .ok (.iconst 1, 1) := by decide +kernel
theorem dX12_orderFrom_145 : decode cX12_orderFrom 145 = .ok (.iload 5, 2) := by decide +kernel
theorem dX12_orderFrom_147 : decode cX12_orderFrom 147 = .ok (.ishl, 1) := by decide +kernel
theorem dX12_orderFrom_148 : decode cX12_orderFrom 148 = .ok (.iconst (-1), 1) := by decide +kernel
theorem dX12_orderFrom_149 : decode cX12_orderFrom 149 = .ok (.ixor, 1) := by decide +kernel
theorem dX12_orderFrom_150 : decode cX12_orderFrom 150 = .ok (.iand, 1) := by decide +kernel
theorem dX12_orderFrom_151 : decode cX12_orderFrom 151 = .ok (.iload 4, 2) := by decide +kernel
theorem dX12_orderFrom_153 : decode cX12_orderFrom 153 = .ok (.iload 6, 2) := by decide +kernel
theorem dX12_orderFrom_155 : decode cX12_orderFrom 155 = .ok (.iadd, 1) := by decide +kernel
theorem dX12_orderFrom_156 : decode cX12_orderFrom 156 = .ok (.invokevirtual 396, 3) := by decide +kernel
theorem dX12_orderFrom_159 : decode cX12_orderFrom 159 = .ok (.iconst 0, 1) := by decide +kernel
theorem dX12_orderFrom_160 : decode cX12_orderFrom 160 = .ok (.istore 7, 2) := by decide +kernel
theorem dX12_orderFrom_162 : decode cX12_orderFrom 162 = .ok (.iload 7, 2) := by decide +kernel
theorem dX12_orderFrom_164 : decode cX12_orderFrom 164 = .ok (.bipush 102, 2) := by decide +kernel
theorem dX12_orderFrom_166 : decode cX12_orderFrom 166 = .ok (.if_icmp .ge 31, 3) := by decide +kernel
theorem dX12_orderFrom_169 : decode cX12_orderFrom 169 = .ok (.aload_n 0, 1) := by decide +kernel
theorem dX12_orderFrom_170 : decode cX12_orderFrom 170 = .ok (.getfield 98, 3) := by decide +kernel
theorem dX12_orderFrom_173 : decode cX12_orderFrom 173 = .ok (.bipush 94, 2) := by decide +kernel
theorem dX12_orderFrom_175 : decode cX12_orderFrom 175 = .ok (.iload 7, 2) := by decide +kernel
theorem dX12_orderFrom_177 : decode cX12_orderFrom 177 = .ok (.iadd, 1) := by decide +kernel
theorem dX12_orderFrom_178 : decode cX12_orderFrom 178 = .ok (.aload_n 0, 1) := by decide +kernel
theorem dX12_orderFrom_179 : decode cX12_orderFrom 179 = .ok (.getfield 160, 3) := by decide +kernel
theorem dX12_orderFrom_182 : decode cX12_orderFrom 182 = .ok (.bipush 102, 2) := by decide +kernel
theorem dX12_orderFrom_184 : decode cX12_orderFrom 184 = .ok (.iload_n 1, 1) := by decide +kernel
theorem dX12_orderFrom_185 : decode cX12_orderFrom 185 = .ok (.imul, 1) := by decide +kernel
theorem dX12_orderFrom_186 : decode cX12_orderFrom 186 = .ok (.iload 7, 2) := by decide +kernel
theorem dX12_orderFrom_188 : decode cX12_orderFrom 188 = .ok (.iadd, 1) := by decide +kernel
theorem dX12_orderFrom_189 : decode cX12_orderFrom 189 = .ok (.iaload, 1) := by decide +kernel
theorem dX12_orderFrom_190 : decode cX12_orderFrom 190 = .ok (.iastore, 1) := by decide +kernel
theorem dX12_orderFrom_191 : decode cX12_orderFrom 191 = .ok (.iinc 7 1, 3) := by decide +kernel
theorem dX12_orderFrom_194 : decode cX12_orderFrom 194 = .ok (.goto (-32), 3) := by decide +kernel
theorem dX12_orderFrom_197 : decode cX12_orderFrom 197 = .ok (.iinc 5 1, 3) := by decide +kernel
theorem dX12_orderFrom_200 : decode cX12_orderFrom 200 = .ok (.goto (-109), 3) := by decide +kernel
theorem dX12_orderFrom_203 : decode cX12_orderFrom 203 = .ok (.return_, 1) := by decide +kernel
theorem okc0_X12_orderFrom {kn : sKn} {cc : ByteArray} {own : String} {nL : Nat} {D : Nat} {ret : Option FieldType} {ini : Bool} {pc index : Nat} (hD : 0 + 1 ≤ D) (hl : Cond.methodLink own index yX12_orderFrom ∈ wsL_law) (hd : decode cc pc = .ok (.invokevirtual index, 3)) : mOk kn cc own nL wsL_law D ret ini pc (a_callV true f_none 13 (4 + 1) (pc + 3)) := ok_callV (m_none (D := 0)) (good_ws ws_good (fun _ h => h) kw927) hD (by decide) hl kw928 kw929 kw686 ⟨by decide +kernel, by decide +kernel, by decide +kernel⟩ rfl hd
def tX12_orderFrom (kn : sKn) : List (Nat × sA) := [(0, a_iload 3 1), (1, a_if kn b_ne 1 50 4), (4, a_iload 4 6), (6, a_aload 0 7), (7, a_get 13 44 10), (10, a_icmp kn b_gt 4 14 13), (13, a_vret), (14, a_aload 0 15), (15, a_iload 4 17), (17, a_put 13 44 ckI 20), (20, a_stk (q_int 0) 21), (21, a_istore 5 23), (23, a_iload 5 25), (25, a_iload 2 26), (26, a_icmp kn b_ge 3 49 29), (29, a_aload 0 30), (30, a_get 13 41 33), (33, a_iload 5 35), (35, a_aload 0 36), (36, a_get 13 40 39), (39, a_iload 5 41), (41, a_iald 42), (42, a_iast 43), (43, a_iinc 5 1 46), (46, a_goto 23), (49, a_vret), (50, a_stk (q_int 0) 51), (51, a_istore 5 53), (53, a_iload 5 55), (55, a_stk (q_int 102) 57), (57, a_icmp kn b_ge 3 88 60), (60, a_aload 0 61), (61, a_get 13 42 64), (64, a_stk (q_int 102) 66), (66, a_iload 1 67), (67, a_stk q_imul 68), (68, a_iload 5 70), (70, a_stk q_iadd 71), (71, a_aload 0 72), (72, a_get 13 14 75), (75, a_stk (q_int 94) 77), (77, a_iload 5 79), (79, a_stk q_iadd 80), (80, a_iald 81), (81, a_iast 82), (82, a_iinc 5 1 85), (85, a_goto 53), (88, a_stk (q_int 0) 89), (89, a_istore 5 91), (91, a_iload 5 93), (93, a_aload 0 94), (94, a_get 13 14 97), (97, a_stk (q_int 2) 98), (98, a_iald 99), (99, a_icmp kn b_ge 3 203 102), (102, a_iload 3 103), (103, a_iload 5 105), (105, a_callS false f_none 2 108), (108, a_if kn b_ne 1 114 111), (111, a_goto 197), (114, a_aload 0 115), (115, a_get 13 40 118), (118, a_iload 1 119), (119, a_iload 5 121), (121, a_iast 122), (122, a_aload 0 123), (123, a_iload 5 125), (125, a_callV false f_none 13 2 128), (128, a_if kn b_ne 1 135 131), (131, a_stk (q_int 1) 132), (132, a_goto 136), (135, a_stk (q_int 0) 136), (136, a_istore 6 138), (138, a_aload 0 139), (139, a_iload 1 140), (140, a_stk (q_int 1) 141), (141, a_stk q_iadd 142), (142, a_iload 2 143), (143, a_iload 3 144), (144, a_stk (q_int 1) 145), (145, a_iload 5 147), (147, a_stk q_ishl 148), (148, a_stk (q_int (-1)) 149), (149, a_stk q_ixor 150), (150, a_stk q_iand 151), (151, a_iload 4 153), (153, a_iload 6 155), (155, a_stk q_iadd 156), (156, a_callV true f_none 13 5 159), (159, a_stk (q_int 0) 160), (160, a_istore 7 162), (162, a_iload 7 164), (164, a_stk (q_int 102) 166), (166, a_icmp kn b_ge 3 197 169), (169, a_aload 0 170), (170, a_get 13 14 173), (173, a_stk (q_int 94) 175), (175, a_iload 7 177), (177, a_stk q_iadd 178), (178, a_aload 0 179), (179, a_get 13 42 182), (182, a_stk (q_int 102) 184), (184, a_iload 1 185), (185, a_stk q_imul 186), (186, a_iload 7 188), (188, a_stk q_iadd 189), (189, a_iald 190), (190, a_iast 191), (191, a_iinc 7 1 194), (194, a_goto 162), (197, a_iinc 5 1 200), (200, a_goto 91), (203, a_vret)]
def fX12_orderFrom (kn : sKn) : List Value → sW → Option sR := mF (tX12_orderFrom kn) 8 1000000
set_option maxRecDepth 100000 in
set_option maxHeartbeats 4000000 in
theorem mX12_orderFrom (kn : sKn) : mM kn yX12_orderFrom (Cond.code yX12_orderFrom cX12_orderFrom 8 none :: wsL_law) 1 true (fX12_orderFrom kn) := mM_of (own := RX12) (ini := false) rfl (by decide +kernel) (by decide +kernel) (all_c (ok_iload_n dX12_orderFrom_0 rfl) (all_c (ok_if_ne dX12_orderFrom_1 (by decide)) (all_c (ok_iload dX12_orderFrom_4) (all_c (ok_aload_n dX12_orderFrom_6 rfl) (all_c (okg_X12_44 kw926 dX12_orderFrom_7) (all_c (ok_icmp_gt dX12_orderFrom_10 (by decide)) (all_c (ok_vret dX12_orderFrom_13) (all_c (ok_aload_n dX12_orderFrom_14 rfl) (all_c (ok_iload dX12_orderFrom_15) (all_c (okp_X12_44 kw926 dX12_orderFrom_17) (all_c (ok_stk (s_iconst dX12_orderFrom_20 (by decide))) (all_c (ok_istore dX12_orderFrom_21 (by decide)) (all_c (ok_iload dX12_orderFrom_23) (all_c (ok_iload_n dX12_orderFrom_25 rfl) (all_c (ok_icmp_ge dX12_orderFrom_26 (by decide)) (all_c (ok_aload_n dX12_orderFrom_29 rfl) (all_c (okg_X12_41 kw900 dX12_orderFrom_30) (all_c (ok_iload dX12_orderFrom_33) (all_c (ok_aload_n dX12_orderFrom_35 rfl) (all_c (okg_X12_40 kw899 dX12_orderFrom_36) (all_c (ok_iload dX12_orderFrom_39) (all_c (ok_iald dX12_orderFrom_41) (all_c (ok_iast dX12_orderFrom_42) (all_c (ok_iinc dX12_orderFrom_43 (by decide) (by decide)) (all_c (ok_goto dX12_orderFrom_46 (by decide)) (all_c (ok_vret dX12_orderFrom_49) (all_c (ok_stk (s_iconst dX12_orderFrom_50 (by decide))) (all_c (ok_istore dX12_orderFrom_51 (by decide)) (all_c (ok_iload dX12_orderFrom_53) (all_c (ok_stk (s_bipush dX12_orderFrom_55 (by decide))) (all_c (ok_icmp_ge dX12_orderFrom_57 (by decide)) (all_c (ok_aload_n dX12_orderFrom_60 rfl) (all_c (okg_X12_42 kw901 dX12_orderFrom_61) (all_c (ok_stk (s_bipush dX12_orderFrom_64 (by decide))) (all_c (ok_iload_n dX12_orderFrom_66 rfl) (all_c (ok_stk (s_imul dX12_orderFrom_67)) (all_c (ok_iload dX12_orderFrom_68) (all_c (ok_stk (s_iadd dX12_orderFrom_70)) (all_c (ok_aload_n dX12_orderFrom_71 rfl) (all_c (okg_X12_14 kw683 dX12_orderFrom_72) (all_c (ok_stk (s_bipush dX12_orderFrom_75 (by decide))) (all_c (ok_iload dX12_orderFrom_77) (all_c (ok_stk (s_iadd dX12_orderFrom_79)) (all_c (ok_iald dX12_orderFrom_80) (all_c (ok_iast dX12_orderFrom_81) (all_c (ok_iinc dX12_orderFrom_82 (by decide) (by decide)) (all_c (ok_goto dX12_orderFrom_85 (by decide)) (all_c (ok_stk (s_iconst dX12_orderFrom_88 (by decide))) (all_c (ok_istore dX12_orderFrom_89 (by decide)) (all_c (ok_iload dX12_orderFrom_91) (all_c (ok_aload_n dX12_orderFrom_93 rfl) (all_c (okg_X12_14 kw683 dX12_orderFrom_94) (all_c (ok_stk (s_iconst dX12_orderFrom_97 (by decide))) (all_c (ok_iald dX12_orderFrom_98) (all_c (ok_icmp_ge dX12_orderFrom_99 (by decide)) (all_c (ok_iload_n dX12_orderFrom_102 rfl) (all_c (ok_iload dX12_orderFrom_103) (all_c (okc0_X12_has (by decide) kw688 dX12_orderFrom_105) (all_c (ok_if_ne dX12_orderFrom_108 (by decide)) (all_c (ok_goto dX12_orderFrom_111 (by decide)) (all_c (ok_aload_n dX12_orderFrom_114 rfl) (all_c (okg_X12_40 kw899 dX12_orderFrom_115) (all_c (ok_iload_n dX12_orderFrom_118 rfl) (all_c (ok_iload dX12_orderFrom_119) (all_c (ok_iast dX12_orderFrom_121) (all_c (ok_aload_n dX12_orderFrom_122 rfl) (all_c (ok_iload dX12_orderFrom_123) (all_c (okc0_X12_doCross (by decide) kw846 dX12_orderFrom_125) (all_c (ok_if_ne dX12_orderFrom_128 (by decide)) (all_c (ok_stk (s_iconst dX12_orderFrom_131 (by decide))) (all_c (ok_goto dX12_orderFrom_132 (by decide)) (all_c (ok_stk (s_iconst dX12_orderFrom_135 (by decide))) (all_c (ok_istore dX12_orderFrom_136 (by decide)) (all_c (ok_aload_n dX12_orderFrom_138 rfl) (all_c (ok_iload_n dX12_orderFrom_139 rfl) (all_c (ok_stk (s_iconst dX12_orderFrom_140 (by decide))) (all_c (ok_stk (s_iadd dX12_orderFrom_141)) (all_c (ok_iload_n dX12_orderFrom_142 rfl) (all_c (ok_iload_n dX12_orderFrom_143 rfl) (all_c (ok_stk (s_iconst dX12_orderFrom_144 (by decide))) (all_c (ok_iload dX12_orderFrom_145) (all_c (ok_stk (s_ishl dX12_orderFrom_147)) (all_c (ok_stk (s_iconst dX12_orderFrom_148 (by decide))) (all_c (ok_stk (s_ixor dX12_orderFrom_149)) (all_c (ok_stk (s_iand dX12_orderFrom_150)) (all_c (ok_iload dX12_orderFrom_151) (all_c (ok_iload dX12_orderFrom_153) (all_c (ok_stk (s_iadd dX12_orderFrom_155)) (all_c (okc0_X12_orderFrom (by decide) kw930 dX12_orderFrom_156) (all_c (ok_stk (s_iconst dX12_orderFrom_159 (by decide))) (all_c (ok_istore dX12_orderFrom_160 (by decide)) (all_c (ok_iload dX12_orderFrom_162) (all_c (ok_stk (s_bipush dX12_orderFrom_164 (by decide))) (all_c (ok_icmp_ge dX12_orderFrom_166 (by decide)) (all_c (ok_aload_n dX12_orderFrom_169 rfl) (all_c (okg_X12_14 kw683 dX12_orderFrom_170) (all_c (ok_stk (s_bipush dX12_orderFrom_173 (by decide))) (all_c (ok_iload dX12_orderFrom_175) (all_c (ok_stk (s_iadd dX12_orderFrom_177)) (all_c (ok_aload_n dX12_orderFrom_178 rfl) (all_c (okg_X12_42 kw901 dX12_orderFrom_179) (all_c (ok_stk (s_bipush dX12_orderFrom_182 (by decide))) (all_c (ok_iload_n dX12_orderFrom_184 rfl) (all_c (ok_stk (s_imul dX12_orderFrom_185)) (all_c (ok_iload dX12_orderFrom_186) (all_c (ok_stk (s_iadd dX12_orderFrom_188)) (all_c (ok_iald dX12_orderFrom_189) (all_c (ok_iast dX12_orderFrom_190) (all_c (ok_iinc dX12_orderFrom_191 (by decide) (by decide)) (all_c (ok_goto dX12_orderFrom_194 (by decide)) (all_c (ok_iinc dX12_orderFrom_197 (by decide) (by decide)) (all_c (ok_goto dX12_orderFrom_200 (by decide)) (all_c (ok_vret dX12_orderFrom_203) all_n))))))))))))))))))))))))))))))))))))))))))))))))))))))))))))))))))))))))))))))))))))))))))))))))))))))))))))))))) 1000000 (fun h => by first | rfl | cases h)
theorem dX12_order_0 : decode cX12_order 0 = .ok (.aload_n 0, 1) := by decide +kernel
theorem dX12_order_1 : decode cX12_order 1 = .ok (.iconst 0, 1) := by decide +kernel
theorem dX12_order_2 : decode cX12_order 2 = .ok (.putfield 1, 3) := by decide +kernel
theorem dX12_order_5 : decode cX12_order 5 = .ok (.iconst 1, 1) := by decide +kernel
theorem dX12_order_6 : decode cX12_order 6 = .ok (.aload_n 0, 1) := by decide +kernel
theorem dX12_order_7 : decode cX12_order 7 = .ok (.getfield 98, 3) := by decide +kernel
theorem dX12_order_10 : decode cX12_order 10 = .ok (.iconst 2, 1) := by decide +kernel
theorem dX12_order_11 : decode cX12_order 11 = .ok (.iaload, 1) := by decide +kernel
theorem dX12_order_12 : decode cX12_order 12 = .ok (.ishl, 1) := by decide +kernel
theorem dX12_order_13 : decode cX12_order 13 = .ok (.iconst 1, 1) := by decide +kernel
theorem dX12_order_14 : decode cX12_order 14 = .ok (.isub, 1) := by decide +kernel
theorem dX12_order_15 : decode cX12_order 15 = .ok (.aload_n 0, 1) := by decide +kernel
theorem dX12_order_16 : decode cX12_order 16 = .ok (.getfield 98, 3) := by decide +kernel
theorem dX12_order_19 : decode cX12_order 19 = .ok (.bipush 96, 2) := by decide +kernel
theorem dX12_order_21 : decode cX12_order 21 = .ok (.iaload, 1) := by decide +kernel
theorem dX12_order_22 : decode cX12_order 22 = .ok (.iconst (-1), 1) := by decide +kernel
theorem dX12_order_23 : decode cX12_order 23 = .ok (.ixor, 1) := by decide +kernel
theorem dX12_order_24 : decode cX12_order 24 = .ok (.iand, 1) := by decide +kernel
theorem dX12_order_25 : decode cX12_order 25 = .ok (.istore_n 1, 1) := by decide +kernel
theorem dX12_order_26 : decode cX12_order 26 = .ok (.aload_n 0, 1) := by decide +kernel
theorem dX12_order_27 : decode cX12_order 27 = .ok (.iconst (-1), 1) := by decide +kernel
theorem dX12_order_28 : decode cX12_order 28 = .ok (.putfield 393, 3) := by decide +kernel
theorem dX12_order_31 : decode cX12_order 31 = .ok (.aload_n 0, 1) := by decide +kernel
theorem dX12_order_32 : decode cX12_order 32 = .ok (.iload_n 1, 1) := by decide +kernel
theorem dX12_order_33 : decode cX12_order 33 = .ok (.invokestatic 400, 3) := by decide +kernel
theorem dX12_order_36 : decode cX12_order 36 = .ok (.putfield 403, 3) := by decide +kernel
theorem dX12_order_39 : decode cX12_order 39 = .ok (.aload_n 0, 1) := by decide +kernel
theorem dX12_order_40 : decode cX12_order 40 = .ok (.iconst 0, 1) := by decide +kernel
theorem dX12_order_41 : decode cX12_order 41 = .ok (.aload_n 0, 1) := by decide +kernel
theorem dX12_order_42 : decode cX12_order 42 = .ok (.getfield 403, 3) := by decide +kernel
theorem dX12_order_45 : decode cX12_order 45 = .ok (.iload_n 1, 1) := by decide +kernel
theorem dX12_order_46 : decode cX12_order 46 = .ok (.iconst 0, 1) := by decide +kernel
theorem dX12_order_47 : decode cX12_order 47 = .ok (.invokevirtual 396, 3) := by decide +kernel
theorem dX12_order_50 : decode cX12_order 50 = .ok (.aload_n 0, 1) := by decide +kernel
theorem dX12_order_51 : decode cX12_order 51 = .ok (.getfield 393, 3) := by decide +kernel
theorem dX12_order_54 : decode cX12_order 54 = .ok (.ireturn, 1) := by decide +kernel
theorem okc_X12_bits {kn : sKn} {cc : ByteArray} {own : String} {nL : Nat} {D : Nat} {ret : Option FieldType} {ini : Bool} {pc index : Nat} (hD : 1 + 1 ≤ D) (hl : Cond.methodLink own index yX12_bits ∈ wsL_law) (hd : decode cc pc = .ok (.invokestatic index, 3)) : mOk kn cc own nL wsL_law D ret ini pc (a_callS false (fX12_bits kn) 1 (pc + 3)) := ok_callS (mX12_bits kn) (good_ws ws_good (fun _ h => h) kw931) hD (by decide) hl kw932 kw686 ⟨by decide +kernel, by decide +kernel, by decide +kernel⟩ hd
theorem okc_X12_orderFrom {kn : sKn} {cc : ByteArray} {own : String} {nL : Nat} {D : Nat} {ret : Option FieldType} {ini : Bool} {pc index : Nat} (hD : 1 + 1 ≤ D) (hl : Cond.methodLink own index yX12_orderFrom ∈ wsL_law) (hd : decode cc pc = .ok (.invokevirtual index, 3)) : mOk kn cc own nL wsL_law D ret ini pc (a_callV true (fX12_orderFrom kn) 13 (4 + 1) (pc + 3)) := ok_callV (mX12_orderFrom kn) (good_ws ws_good (fun _ h => h) kw927) hD (by decide) hl kw928 kw929 kw686 ⟨by decide +kernel, by decide +kernel, by decide +kernel⟩ rfl hd
def tX12_order (kn : sKn) : List (Nat × sA) := [(0, a_aload 0 1), (1, a_stk (q_int 0) 2), (2, a_put 13 0 ckI 5), (5, a_stk (q_int 1) 6), (6, a_aload 0 7), (7, a_get 13 14 10), (10, a_stk (q_int 2) 11), (11, a_iald 12), (12, a_stk q_ishl 13), (13, a_stk (q_int 1) 14), (14, a_stk q_isub 15), (15, a_aload 0 16), (16, a_get 13 14 19), (19, a_stk (q_int 96) 21), (21, a_iald 22), (22, a_stk (q_int (-1)) 23), (23, a_stk q_ixor 24), (24, a_stk q_iand 25), (25, a_istore 1 26), (26, a_aload 0 27), (27, a_stk (q_int (-1)) 28), (28, a_put 13 44 ckI 31), (31, a_aload 0 32), (32, a_iload 1 33), (33, a_callS false (fX12_bits kn) 1 36), (36, a_put 13 43 ckI 39), (39, a_aload 0 40), (40, a_stk (q_int 0) 41), (41, a_aload 0 42), (42, a_get 13 43 45), (45, a_iload 1 46), (46, a_stk (q_int 0) 47), (47, a_callV true (fX12_orderFrom kn) 13 5 50), (50, a_aload 0 51), (51, a_get 13 44 54), (54, a_iret)]
def fX12_order (kn : sKn) : List Value → sW → Option sR := mF (tX12_order kn) 2 1000000
set_option maxRecDepth 100000 in
set_option maxHeartbeats 4000000 in
theorem mX12_order (kn : sKn) : mM kn yX12_order (Cond.code yX12_order cX12_order 2 (some .int) :: wsL_law) 2 false (fX12_order kn) := mM_of (own := RX12) (ini := false) rfl (by decide +kernel) (by decide +kernel) (all_c (ok_aload_n dX12_order_0 rfl) (all_c (ok_stk (s_iconst dX12_order_1 (by decide))) (all_c (okp_X12_0 kw693 dX12_order_2) (all_c (ok_stk (s_iconst dX12_order_5 (by decide))) (all_c (ok_aload_n dX12_order_6 rfl) (all_c (okg_X12_14 kw683 dX12_order_7) (all_c (ok_stk (s_iconst dX12_order_10 (by decide))) (all_c (ok_iald dX12_order_11) (all_c (ok_stk (s_ishl dX12_order_12)) (all_c (ok_stk (s_iconst dX12_order_13 (by decide))) (all_c (ok_stk (s_isub dX12_order_14)) (all_c (ok_aload_n dX12_order_15 rfl) (all_c (okg_X12_14 kw683 dX12_order_16) (all_c (ok_stk (s_bipush dX12_order_19 (by decide))) (all_c (ok_iald dX12_order_21) (all_c (ok_stk (s_iconst dX12_order_22 (by decide))) (all_c (ok_stk (s_ixor dX12_order_23)) (all_c (ok_stk (s_iand dX12_order_24)) (all_c (ok_istore_n dX12_order_25 rfl (by decide)) (all_c (ok_aload_n dX12_order_26 rfl) (all_c (ok_stk (s_iconst dX12_order_27 (by decide))) (all_c (okp_X12_44 kw926 dX12_order_28) (all_c (ok_aload_n dX12_order_31 rfl) (all_c (ok_iload_n dX12_order_32 rfl) (all_c (okc_X12_bits (by decide) kw933 dX12_order_33) (all_c (okp_X12_43 kw934 dX12_order_36) (all_c (ok_aload_n dX12_order_39 rfl) (all_c (ok_stk (s_iconst dX12_order_40 (by decide))) (all_c (ok_aload_n dX12_order_41 rfl) (all_c (okg_X12_43 kw934 dX12_order_42) (all_c (ok_iload_n dX12_order_45 rfl) (all_c (ok_stk (s_iconst dX12_order_46 (by decide))) (all_c (okc_X12_orderFrom (by decide) kw930 dX12_order_47) (all_c (ok_aload_n dX12_order_50 rfl) (all_c (okg_X12_44 kw926 dX12_order_51) (all_c (ok_iret dX12_order_54) all_n)))))))))))))))))))))))))))))))))))) 1000000 (fun h => by first | rfl | cases h)
theorem dX12_orderAt_0 : decode cX12_orderAt 0 = .ok (.aload_n 0, 1) := by decide +kernel
theorem dX12_orderAt_1 : decode cX12_orderAt 1 = .ok (.iconst 0, 1) := by decide +kernel
theorem dX12_orderAt_2 : decode cX12_orderAt 2 = .ok (.putfield 1, 3) := by decide +kernel
theorem dX12_orderAt_5 : decode cX12_orderAt 5 = .ok (.iload_n 1, 1) := by decide +kernel
theorem dX12_orderAt_6 : decode cX12_orderAt 6 = .ok (.iconst 0, 1) := by decide +kernel
theorem dX12_orderAt_7 : decode cX12_orderAt 7 = .ok (.aload_n 0, 1) := by decide +kernel
theorem dX12_orderAt_8 : decode cX12_orderAt 8 = .ok (.getfield 403, 3) := by decide +kernel
theorem dX12_orderAt_11 : decode cX12_orderAt 11 = .ok (.iconst 1, 1) := by decide +kernel
theorem dX12_orderAt_12 : decode cX12_orderAt 12 = .ok (.isub, 1) := by decide +kernel
theorem dX12_orderAt_13 : decode cX12_orderAt 13 = .ok (.invokestatic 75, 3) := by decide +kernel
theorem dX12_orderAt_16 : decode cX12_orderAt 16 = .ok (.ifCond .eq 12, 3) := by decide +kernel
theorem dX12_orderAt_19 : decode cX12_orderAt 19 = .ok (.aload_n 0, 1) := by decide +kernel
theorem dX12_orderAt_20 : decode cX12_orderAt 20 = .ok (.getfield 157, 3) := by decide +kernel
theorem dX12_orderAt_23 : decode cX12_orderAt 23 = .ok (.iload_n 1, 1) := by decide +kernel
theorem dX12_orderAt_24 : decode cX12_orderAt 24 = .ok (.iaload, 1) := by decide +kernel
theorem dX12_orderAt_25 : decode cX12_orderAt 25 = .ok (.goto 4, 3) := by decide +kernel
theorem dX12_orderAt_28 : decode cX12_orderAt 28 = .ok (.iconst (-1), 1) := by decide +kernel
theorem dX12_orderAt_29 : decode cX12_orderAt 29 = .ok (.ireturn, 1) := by decide +kernel
def tX12_orderAt (kn : sKn) : List (Nat × sA) := [(0, a_aload 0 1), (1, a_stk (q_int 0) 2), (2, a_put 13 0 ckI 5), (5, a_iload 1 6), (6, a_stk (q_int 0) 7), (7, a_aload 0 8), (8, a_get 13 43 11), (11, a_stk (q_int 1) 12), (12, a_stk q_isub 13), (13, a_callS false (fX12_isIn kn) 3 16), (16, a_if kn b_eq 0 28 19), (19, a_aload 0 20), (20, a_get 13 41 23), (23, a_iload 1 24), (24, a_iald 25), (25, a_goto 29), (28, a_stk (q_int (-1)) 29), (29, a_iret)]
def fX12_orderAt (kn : sKn) : List Value → sW → Option sR := mF (tX12_orderAt kn) 2 1000000
set_option maxRecDepth 100000 in
set_option maxHeartbeats 4000000 in
theorem mX12_orderAt (kn : sKn) : mM kn yX12_orderAt (Cond.code yX12_orderAt cX12_orderAt 2 (some .int) :: wsL_law) 2 false (fX12_orderAt kn) := mM_of (own := RX12) (ini := false) rfl (by decide +kernel) (by decide +kernel) (all_c (ok_aload_n dX12_orderAt_0 rfl) (all_c (ok_stk (s_iconst dX12_orderAt_1 (by decide))) (all_c (okp_X12_0 kw693 dX12_orderAt_2) (all_c (ok_iload_n dX12_orderAt_5 rfl) (all_c (ok_stk (s_iconst dX12_orderAt_6 (by decide))) (all_c (ok_aload_n dX12_orderAt_7 rfl) (all_c (okg_X12_43 kw934 dX12_orderAt_8) (all_c (ok_stk (s_iconst dX12_orderAt_11 (by decide))) (all_c (ok_stk (s_isub dX12_orderAt_12)) (all_c (okc_X12_isIn (by decide) kw705 dX12_orderAt_13) (all_c (ok_if_eq dX12_orderAt_16 (by decide)) (all_c (ok_aload_n dX12_orderAt_19 rfl) (all_c (okg_X12_41 kw900 dX12_orderAt_20) (all_c (ok_iload_n dX12_orderAt_23 rfl) (all_c (ok_iald dX12_orderAt_24) (all_c (ok_goto dX12_orderAt_25 (by decide)) (all_c (ok_stk (s_iconst dX12_orderAt_28 (by decide))) (all_c (ok_iret dX12_orderAt_29) all_n)))))))))))))))))) 1000000 (fun h => by first | rfl | cases h)
theorem dX12_path_0 : decode cX12_path 0 = .ok (.aload_n 0, 1) := by decide +kernel
theorem dX12_path_1 : decode cX12_path 1 = .ok (.iconst 0, 1) := by decide +kernel
theorem dX12_path_2 : decode cX12_path 2 = .ok (.putfield 1, 3) := by decide +kernel
theorem dX12_path_5 : decode cX12_path 5 = .ok (.aload_n 0, 1) := by decide +kernel
theorem dX12_path_6 : decode cX12_path 6 = .ok (.iload_n 1, 1) := by decide +kernel
theorem dX12_path_7 : decode cX12_path 7 = .ok (.invokevirtual 295, 3) := by decide +kernel
theorem dX12_path_10 : decode cX12_path 10 = .ok (.ifCond .eq 28, 3) := by decide +kernel
theorem dX12_path_13 : decode cX12_path 13 = .ok (.aload_n 0, 1) := by decide +kernel
theorem dX12_path_14 : decode cX12_path 14 = .ok (.iload_n 2, 1) := by decide +kernel
theorem dX12_path_15 : decode cX12_path 15 = .ok (.invokevirtual 261, 3) := by decide +kernel
theorem dX12_path_18 : decode cX12_path 18 = .ok (.ifCond .eq 20, 3) := by decide +kernel
theorem dX12_path_21 : decode cX12_path 21 = .ok (.aload_n 0, 1) := by decide +kernel
theorem dX12_path_22 : decode cX12_path 22 = .ok (.iload_n 1, 1) := by decide +kernel
theorem dX12_path_23 : decode cX12_path 23 = .ok (.invokevirtual 322, 3) := by decide +kernel
theorem dX12_path_26 : decode cX12_path 26 = .ok (.ifCond .eq 12, 3) := by decide +kernel
theorem dX12_path_29 : decode cX12_path 29 = .ok (.aload_n 0, 1) := by decide +kernel
theorem dX12_path_30 : decode cX12_path 30 = .ok (.getfield 133, 3) := by decide +kernel
theorem dX12_path_33 : decode cX12_path 33 = .ok (.iload_n 2, 1) := by decide +kernel
theorem dX12_path_34 : decode cX12_path 34 = .ok (.iaload, 1) := by decide +kernel
theorem dX12_path_35 : decode cX12_path 35 = .ok (.goto 4, 3) := by decide +kernel
theorem dX12_path_38 : decode cX12_path 38 = .ok (.iconst (-1), 1) := by decide +kernel
theorem dX12_path_39 : decode cX12_path 39 = .ok (.ireturn, 1) := by decide +kernel
theorem okc0_X12_layPath {kn : sKn} {cc : ByteArray} {own : String} {nL : Nat} {D : Nat} {ret : Option FieldType} {ini : Bool} {pc index : Nat} (hD : 0 + 1 ≤ D) (hl : Cond.methodLink own index yX12_layPath ∈ wsL_law) (hd : decode cc pc = .ok (.invokevirtual index, 3)) : mOk kn cc own nL wsL_law D ret ini pc (a_callV false f_none 13 (1 + 1) (pc + 3)) := ok_callV (m_none (D := 0)) (good_ws ws_good (fun _ h => h) kw935) hD (by decide) hl kw936 kw937 kw686 ⟨by decide +kernel, by decide +kernel, by decide +kernel⟩ rfl hd
def tX12_path (kn : sKn) : List (Nat × sA) := [(0, a_aload 0 1), (1, a_stk (q_int 0) 2), (2, a_put 13 0 ckI 5), (5, a_aload 0 6), (6, a_iload 1 7), (7, a_callV false (fX12_isLoad kn) 13 2 10), (10, a_if kn b_eq 0 38 13), (13, a_aload 0 14), (14, a_iload 2 15), (15, a_callV false (fX12_isRow kn) 13 2 18), (18, a_if kn b_eq 0 38 21), (21, a_aload 0 22), (22, a_iload 1 23), (23, a_callV false f_none 13 2 26), (26, a_if kn b_eq 0 38 29), (29, a_aload 0 30), (30, a_get 13 30 33), (33, a_iload 2 34), (34, a_iald 35), (35, a_goto 39), (38, a_stk (q_int (-1)) 39), (39, a_iret)]
def fX12_path (kn : sKn) : List Value → sW → Option sR := mF (tX12_path kn) 3 1000000
set_option maxRecDepth 100000 in
set_option maxHeartbeats 4000000 in
theorem mX12_path (kn : sKn) : mM kn yX12_path (Cond.code yX12_path cX12_path 3 (some .int) :: wsL_law) 3 false (fX12_path kn) := mM_of (own := RX12) (ini := false) rfl (by decide +kernel) (by decide +kernel) (all_c (ok_aload_n dX12_path_0 rfl) (all_c (ok_stk (s_iconst dX12_path_1 (by decide))) (all_c (okp_X12_0 kw693 dX12_path_2) (all_c (ok_aload_n dX12_path_5 rfl) (all_c (ok_iload_n dX12_path_6 rfl) (all_c (okc_X12_isLoad (by decide) kw710 dX12_path_7) (all_c (ok_if_eq dX12_path_10 (by decide)) (all_c (ok_aload_n dX12_path_13 rfl) (all_c (ok_iload_n dX12_path_14 rfl) (all_c (okc_X12_isRow (by decide) kw832 dX12_path_15) (all_c (ok_if_eq dX12_path_18 (by decide)) (all_c (ok_aload_n dX12_path_21 rfl) (all_c (ok_iload_n dX12_path_22 rfl) (all_c (okc0_X12_layPath (by decide) kw938 dX12_path_23) (all_c (ok_if_eq dX12_path_26 (by decide)) (all_c (ok_aload_n dX12_path_29 rfl) (all_c (okg_X12_30 kw897 dX12_path_30) (all_c (ok_iload_n dX12_path_33 rfl) (all_c (ok_iald dX12_path_34) (all_c (ok_goto dX12_path_35 (by decide)) (all_c (ok_stk (s_iconst dX12_path_38 (by decide))) (all_c (ok_iret dX12_path_39) all_n)))))))))))))))))))))) 1000000 (fun h => by first | rfl | cases h)
theorem dX12_plank_0 : decode cX12_plank 0 = .ok (.aload_n 0, 1) := by decide +kernel
theorem dX12_plank_1 : decode cX12_plank 1 = .ok (.iconst 0, 1) := by decide +kernel
theorem dX12_plank_2 : decode cX12_plank 2 = .ok (.putfield 1, 3) := by decide +kernel
theorem dX12_plank_5 : decode cX12_plank 5 = .ok (.aload_n 0, 1) := by decide +kernel
theorem dX12_plank_6 : decode cX12_plank 6 = .ok (.iload_n 1, 1) := by decide +kernel
theorem dX12_plank_7 : decode cX12_plank 7 = .ok (.iload_n 2, 1) := by decide +kernel
theorem dX12_plank_8 : decode cX12_plank 8 = .ok (.invokevirtual 289, 3) := by decide +kernel
theorem dX12_plank_11 : decode cX12_plank 11 = .ok (.ifCond .ne 8, 3) := by decide +kernel
theorem dX12_plank_14 : decode cX12_plank 14 = .ok (.aload_n 0, 1) := by decide +kernel
theorem dX12_plank_15 : decode cX12_plank 15 = .ok (.invokevirtual 280, 3) := by decide +kernel
theorem dX12_plank_18 : decode cX12_plank 18 = .ok (.ireturn, 1) := by decide +kernel
theorem dX12_plank_19 : decode cX12_plank 19 = .ok (.aload_n 0, 1) := by decide +kernel
theorem dX12_plank_20 : decode cX12_plank 20 = .ok (.invokevirtual 292, 3) := by decide +kernel
theorem dX12_plank_23 : decode cX12_plank 23 = .ok (.iconst 3, 1) := by decide +kernel
theorem dX12_plank_24 : decode cX12_plank 24 = .ok (.iload_n 1, 1) := by decide +kernel
theorem dX12_plank_25 : decode cX12_plank 25 = .ok (.imul, 1) := by decide +kernel
theorem dX12_plank_26 : decode cX12_plank 26 = .ok (.iload_n 2, 1) := by decide +kernel
theorem dX12_plank_27 : decode cX12_plank 27 = .ok (.iadd, 1) := by decide +kernel
theorem dX12_plank_28 : decode cX12_plank 28 = .ok (.istore 4, 2) := by decide +kernel
theorem dX12_plank_30 : decode cX12_plank 30 = .ok (.iload_n 3, 1) := by decide +kernel
theorem dX12_plank_31 : decode cX12_plank 31 = .ok (.tableswitch 55 0 2 #[25, 36, 43], 25) := by decide +kernel
theorem dX12_plank_56 : decode cX12_plank 56 = .ok (.aload_n 0, 1) := by decide +kernel
theorem dX12_plank_57 : decode cX12_plank 57 = .ok (.getfield 98, 3) := by decide +kernel
theorem dX12_plank_60 : decode cX12_plank 60 = .ok (.bipush 118, 2) := by decide +kernel
theorem dX12_plank_62 : decode cX12_plank 62 = .ok (.iload 4, 2) := by decide +kernel
theorem dX12_plank_64 : decode cX12_plank 64 = .ok (.iadd, 1) := by decide +kernel
theorem dX12_plank_65 : decode cX12_plank 65 = .ok (.iaload, 1) := by decide +kernel
theorem dX12_plank_66 : decode cX12_plank 66 = .ok (.ireturn, 1) := by decide +kernel
theorem dX12_plank_67 : decode cX12_plank 67 = .ok (.aload_n 0, 1) := by decide +kernel
theorem dX12_plank_68 : decode cX12_plank 68 = .ok (.iload 4, 2) := by decide +kernel
theorem dX12_plank_70 : decode cX12_plank 70 = .ok (.invokevirtual 274, 3) := by decide +kernel
theorem dX12_plank_73 : decode cX12_plank 73 = .ok (.ireturn, 1) := by decide +kernel
theorem dX12_plank_74 : decode cX12_plank 74 = .ok (.aload_n 0, 1) := by decide +kernel
theorem dX12_plank_75 : decode cX12_plank 75 = .ok (.getfield 98, 3) := by decide +kernel
theorem dX12_plank_78 : decode cX12_plank 78 = .ok (.sipush 154, 3) := by decide +kernel
theorem dX12_plank_81 : decode cX12_plank 81 = .ok (.iload 4, 2) := by decide +kernel
theorem dX12_plank_83 : decode cX12_plank 83 = .ok (.iadd, 1) := by decide +kernel
theorem dX12_plank_84 : decode cX12_plank 84 = .ok (.iaload, 1) := by decide +kernel
theorem dX12_plank_85 : decode cX12_plank 85 = .ok (.ireturn, 1) := by decide +kernel
theorem dX12_plank_86 : decode cX12_plank 86 = .ok (.aload_n 0, 1) := by decide +kernel
theorem dX12_plank_87 : decode cX12_plank 87 = .ok (.invokevirtual 280, 3) := by decide +kernel
theorem dX12_plank_90 : decode cX12_plank 90 = .ok (.ireturn, 1) := by decide +kernel
def tX12_plank (kn : sKn) : List (Nat × sA) := [(0, a_aload 0 1), (1, a_stk (q_int 0) 2), (2, a_put 13 0 ckI 5), (5, a_aload 0 6), (6, a_iload 1 7), (7, a_iload 2 8), (8, a_callV false (fX12_isPlace kn) 13 3 11), (11, a_if kn b_ne 1 19 14), (14, a_aload 0 15), (15, a_callV false (fX12_refuse kn) 13 1 18), (18, a_iret), (19, a_aload 0 20), (20, a_callV true (fX12_layWhose kn) 13 1 23), (23, a_stk (q_int 3) 24), (24, a_iload 1 25), (25, a_stk q_imul 26), (26, a_iload 2 27), (27, a_stk q_iadd 28), (28, a_istore 4 30), (30, a_iload 3 31), (31, a_table kn 0 2 [56, 67, 74] 86), (56, a_aload 0 57), (57, a_get 13 14 60), (60, a_stk (q_int 118) 62), (62, a_iload 4 64), (64, a_stk q_iadd 65), (65, a_iald 66), (66, a_iret), (67, a_aload 0 68), (68, a_iload 4 70), (70, a_callV false (fX12_bearsAt kn) 13 2 73), (73, a_iret), (74, a_aload 0 75), (75, a_get 13 14 78), (78, a_stk (q_int 154) 81), (81, a_iload 4 83), (83, a_stk q_iadd 84), (84, a_iald 85), (85, a_iret), (86, a_aload 0 87), (87, a_callV false (fX12_refuse kn) 13 1 90), (90, a_iret)]
def fX12_plank (kn : sKn) : List Value → sW → Option sR := mF (tX12_plank kn) 5 1000000
set_option maxRecDepth 100000 in
set_option maxHeartbeats 4000000 in
theorem mX12_plank (kn : sKn) : mM kn yX12_plank (Cond.code yX12_plank cX12_plank 5 (some .int) :: wsL_law) 4 false (fX12_plank kn) := mM_of (own := RX12) (ini := false) rfl (by decide +kernel) (by decide +kernel) (all_c (ok_aload_n dX12_plank_0 rfl) (all_c (ok_stk (s_iconst dX12_plank_1 (by decide))) (all_c (okp_X12_0 kw693 dX12_plank_2) (all_c (ok_aload_n dX12_plank_5 rfl) (all_c (ok_iload_n dX12_plank_6 rfl) (all_c (ok_iload_n dX12_plank_7 rfl) (all_c (okc_X12_isPlace (by decide) kw836 dX12_plank_8) (all_c (ok_if_ne dX12_plank_11 (by decide)) (all_c (ok_aload_n dX12_plank_14 rfl) (all_c (okc_X12_refuse (by decide) kw921 dX12_plank_15) (all_c (ok_iret dX12_plank_18) (all_c (ok_aload_n dX12_plank_19 rfl) (all_c (okc_X12_layWhose (by decide) kw697 dX12_plank_20) (all_c (ok_stk (s_iconst dX12_plank_23 (by decide))) (all_c (ok_iload_n dX12_plank_24 rfl) (all_c (ok_stk (s_imul dX12_plank_25)) (all_c (ok_iload_n dX12_plank_26 rfl) (all_c (ok_stk (s_iadd dX12_plank_27)) (all_c (ok_istore dX12_plank_28 (by decide)) (all_c (ok_iload_n dX12_plank_30 rfl) (all_c (ok_table dX12_plank_31 (by decide) (by decide) (by decide) (by decide)) (all_c (ok_aload_n dX12_plank_56 rfl) (all_c (okg_X12_14 kw683 dX12_plank_57) (all_c (ok_stk (s_bipush dX12_plank_60 (by decide))) (all_c (ok_iload dX12_plank_62) (all_c (ok_stk (s_iadd dX12_plank_64)) (all_c (ok_iald dX12_plank_65) (all_c (ok_iret dX12_plank_66) (all_c (ok_aload_n dX12_plank_67 rfl) (all_c (ok_iload dX12_plank_68) (all_c (okc_X12_bearsAt (by decide) kw913 dX12_plank_70) (all_c (ok_iret dX12_plank_73) (all_c (ok_aload_n dX12_plank_74 rfl) (all_c (okg_X12_14 kw683 dX12_plank_75) (all_c (ok_stk (s_sipush dX12_plank_78 (by decide))) (all_c (ok_iload dX12_plank_81) (all_c (ok_stk (s_iadd dX12_plank_83)) (all_c (ok_iald dX12_plank_84) (all_c (ok_iret dX12_plank_85) (all_c (ok_aload_n dX12_plank_86 rfl) (all_c (okc_X12_refuse (by decide) kw921 dX12_plank_87) (all_c (ok_iret dX12_plank_90) all_n)))))))))))))))))))))))))))))))))))))))))) 1000000 (fun h => by first | rfl | cases h)
end
