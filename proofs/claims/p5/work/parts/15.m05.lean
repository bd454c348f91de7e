noncomputable section
theorem dX11_restore_0 : decode cX11_restore 0 = .ok (.iload_n 1, 1) := by decide +kernel
theorem dX11_restore_1 : decode cX11_restore 1 = .ok (.ifCond .lt 17, 3) := by decide +kernel
theorem dX11_restore_4 : decode cX11_restore 4 = .ok (.iload_n 1, 1) := by decide +kernel
theorem dX11_restore_5 : decode cX11_restore 5 = .ok (.iconst 2, 1) := by decide +kernel
theorem dX11_restore_6 : decode cX11_restore 6 = .ok (.if_icmp .ge 12, 3) := by decide +kernel
theorem dX11_restore_9 : decode cX11_restore 9 = .ok (.aload_n 0, 1) := by decide +kernel
theorem dX11_restore_10 : decode cX11_restore 10 = .ok (.getfield 111, 3) := by decide +kernel
theorem dX11_restore_13 : decode cX11_restore 13 = .ok (.iload_n 1, 1) := by decide +kernel
theorem dX11_restore_14 : decode cX11_restore 14 = .ok (.baload, 1) := by decide +kernel
theorem dX11_restore_15 : decode cX11_restore 15 = .ok (.ifCond .ne 5, 3) := by decide +kernel
theorem dX11_restore_18 : decode cX11_restore 18 = .ok (.iconst 0, 1) := by decide +kernel
theorem dX11_restore_19 : decode cX11_restore 19 = .ok (.ireturn, 1) := by decide +kernel
theorem dX11_restore_20 : decode cX11_restore 20 = .ok (.aload_n 0, 1) := by decide +kernel
theorem dX11_restore_21 : decode cX11_restore 21 = .ok (.getfield 26, 3) := by decide +kernel
theorem dX11_restore_24 : decode cX11_restore 24 = .ok (.aload_n 0, 1) := by decide +kernel
theorem dX11_restore_25 : decode cX11_restore 25 = .ok (.getfield 100, 3) := by decide +kernel
theorem dX11_restore_28 : decode cX11_restore 28 = .ok (.iload_n 1, 1) := by decide +kernel
theorem dX11_restore_29 : decode cX11_restore 29 = .ok (.aaload, 1) := by decide +kernel
theorem dX11_restore_30 : decode cX11_restore 30 = .ok (.invokevirtual 131, 3) := by decide +kernel
theorem dX11_restore_33 : decode cX11_restore 33 = .ok (.aload_n 0, 1) := by decide +kernel
theorem dX11_restore_34 : decode cX11_restore 34 = .ok (.getfield 33, 3) := by decide +kernel
theorem dX11_restore_37 : decode cX11_restore 37 = .ok (.aload_n 0, 1) := by decide +kernel
theorem dX11_restore_38 : decode cX11_restore 38 = .ok (.getfield 104, 3) := by decide +kernel
theorem dX11_restore_41 : decode cX11_restore 41 = .ok (.iload_n 1, 1) := by decide +kernel
theorem dX11_restore_42 : decode cX11_restore 42 = .ok (.aaload, 1) := by decide +kernel
theorem dX11_restore_43 : decode cX11_restore 43 = .ok (.invokevirtual 273, 3) := by decide +kernel
theorem dX11_restore_46 : decode cX11_restore 46 = .ok (.aload_n 0, 1) := by decide +kernel
theorem dX11_restore_47 : decode cX11_restore 47 = .ok (.getfield 40, 3) := by decide +kernel
theorem dX11_restore_50 : decode cX11_restore 50 = .ok (.aload_n 0, 1) := by decide +kernel
theorem dX11_restore_51 : decode cX11_restore 51 = .ok (.getfield 107, 3) := by decide +kernel
theorem dX11_restore_54 : decode cX11_restore 54 = .ok (.iload_n 1, 1) := by decide +kernel
theorem dX11_restore_55 : decode cX11_restore 55 = .ok (.aaload, 1) := by decide +kernel
theorem dX11_restore_56 : decode cX11_restore 56 = .ok (.invokevirtual 395, 3) := by decide +kernel
theorem dX11_restore_59 : decode cX11_restore 59 = .ok (.aload_n 0, 1) := by decide +kernel
theorem dX11_restore_60 : decode cX11_restore 60 = .ok (.iconst 0, 1) := by decide +kernel
theorem dX11_restore_61 : decode cX11_restore 61 = .ok (.putfield 141, 3) := by decide +kernel
theorem dX11_restore_64 : decode cX11_restore 64 = .ok (.iconst 1, 1) := by decide +kernel
theorem dX11_restore_65 : decode cX11_restore 65 = .ok (.ireturn, 1) := by decide +kernel
def tX11_restore (kn : sKn) : List (Nat × sA) := [(0, a_iload 1 1), (1, a_if kn b_lt 2 18 4), (4, a_iload 1 5), (5, a_stk (q_int 2) 6), (6, a_icmp kn b_ge 3 18 9), (9, a_aload 0 10), (10, a_get 12 19 13), (13, a_iload 1 14), (14, a_bald 15), (15, a_if kn b_ne 1 20 18), (18, a_stk (q_int 0) 19), (19, a_zret), (20, a_aload 0 21), (21, a_get 12 2 24), (24, a_aload 0 25), (25, a_get 12 16 28), (28, a_iload 1 29), (29, a_aald 30), (30, a_callV true (fX6_copyOf kn) 7 2 33), (33, a_aload 0 34), (34, a_get 12 3 37), (37, a_aload 0 38), (38, a_get 12 17 41), (41, a_iload 1 42), (42, a_aald 43), (43, a_callV true (fX8_copyOf kn) 9 2 46), (46, a_aload 0 47), (47, a_get 12 4 50), (50, a_aload 0 51), (51, a_get 12 18 54), (54, a_iload 1 55), (55, a_aald 56), (56, a_callV true (fX7_copyOf kn) 8 2 59), (59, a_aload 0 60), (60, a_stk (q_int 0) 61), (61, a_put 12 15 ckI 64), (64, a_stk (q_int 1) 65), (65, a_zret)]
def fX11_restore (kn : sKn) : List Value → sW → Option sR := fW (tX11_restore kn) 2
set_option maxRecDepth 100000 in
set_option maxHeartbeats 4000000 in
theorem mX11_restore (kn : sKn) : mM kn yX11_restore (Cond.code yX11_restore cX11_restore 2 (some .boolean) :: wsL_law) 2 false (fX11_restore kn) := mM_W (fun n => mM_of (own := RX11) (ini := false) rfl (by decide +kernel) (by decide +kernel) (all_c (ok_iload_n dX11_restore_0 rfl) (all_c (ok_if_lt dX11_restore_1 (by decide)) (all_c (ok_iload_n dX11_restore_4 rfl) (all_c (ok_stk (s_iconst dX11_restore_5 (by decide))) (all_c (ok_icmp_ge dX11_restore_6 (by decide)) (all_c (ok_aload_n dX11_restore_9 rfl) (all_c (okg_X11_19 kw811 dX11_restore_10) (all_c (ok_iload_n dX11_restore_13 rfl) (all_c (ok_bald dX11_restore_14) (all_c (ok_if_ne dX11_restore_15 (by decide)) (all_c (ok_stk (s_iconst dX11_restore_18 (by decide))) (all_c (ok_zret dX11_restore_19) (all_c (ok_aload_n dX11_restore_20 rfl) (all_c (okg_X11_2 kw291 dX11_restore_21) (all_c (ok_aload_n dX11_restore_24 rfl) (all_c (okg_X11_16 kw804 dX11_restore_25) (all_c (ok_iload_n dX11_restore_28 rfl) (all_c (ok_aald dX11_restore_29) (all_c (okc_X6_copyOf (by decide) kw637 dX11_restore_30) (all_c (ok_aload_n dX11_restore_33 rfl) (all_c (okg_X11_3 kw292 dX11_restore_34) (all_c (ok_aload_n dX11_restore_37 rfl) (all_c (okg_X11_17 kw805 dX11_restore_38) (all_c (ok_iload_n dX11_restore_41 rfl) (all_c (ok_aald dX11_restore_42) (all_c (okc_X8_copyOf (by decide) kw326 dX11_restore_43) (all_c (ok_aload_n dX11_restore_46 rfl) (all_c (okg_X11_4 kw642 dX11_restore_47) (all_c (ok_aload_n dX11_restore_50 rfl) (all_c (okg_X11_18 kw806 dX11_restore_51) (all_c (ok_iload_n dX11_restore_54 rfl) (all_c (ok_aald dX11_restore_55) (all_c (okc_X7_copyOf (by decide) kw810 dX11_restore_56) (all_c (ok_aload_n dX11_restore_59 rfl) (all_c (ok_stk (s_iconst dX11_restore_60 (by decide))) (all_c (okp_X11_15 kw323 dX11_restore_61) (all_c (ok_stk (s_iconst dX11_restore_64 (by decide))) (all_c (ok_zret dX11_restore_65) all_n)))))))))))))))))))))))))))))))))))))) n (fun h => by first | rfl | cases h))
theorem dX7_compares_0 : decode cX7_compares 0 = .ok (.aload_n 0, 1) := by decide +kernel
theorem dX7_compares_1 : decode cX7_compares 1 = .ok (.getfield 15, 3) := by decide +kernel
theorem dX7_compares_4 : decode cX7_compares 4 = .ok (.iload_n 1, 1) := by decide +kernel
theorem dX7_compares_5 : decode cX7_compares 5 = .ok (.iaload, 1) := by decide +kernel
theorem dX7_compares_6 : decode cX7_compares 6 = .ok (.lookupswitch 58 #[(60, 26), (61, 42)], 26) := by decide +kernel
theorem dX7_compares_32 : decode cX7_compares 32 = .ok (.iload_n 2, 1) := by decide +kernel
theorem dX7_compares_33 : decode cX7_compares 33 = .ok (.aload_n 0, 1) := by decide +kernel
theorem dX7_compares_34 : decode cX7_compares 34 = .ok (.getfield 18, 3) := by decide +kernel
theorem dX7_compares_37 : decode cX7_compares 37 = .ok (.iload_n 1, 1) := by decide +kernel
theorem dX7_compares_38 : decode cX7_compares 38 = .ok (.iaload, 1) := by decide +kernel
theorem dX7_compares_39 : decode cX7_compares 39 = .ok (.if_icmp .ge 7, 3) := by decide +kernel
theorem dX7_compares_42 : decode cX7_compares 42 = .ok (.iconst 1, 1) := by decide +kernel
theorem dX7_compares_43 : decode cX7_compares 43 = .ok (.goto 4, 3) := by decide +kernel
theorem dX7_compares_46 : decode cX7_compares 46 = .ok (.iconst 0, 1) := by decide +kernel
theorem dX7_compares_47 : decode cX7_compares 47 = .ok (.ireturn, 1) := by decide +kernel
theorem dX7_compares_48 : decode cX7_compares 48 = .ok (.iload_n 2, 1) := by decide +kernel
theorem dX7_compares_49 : decode cX7_compares 49 = .ok (.aload_n 0, 1) := by decide +kernel
theorem dX7_compares_50 : decode cX7_compares 50 = .ok (.getfield 18, 3) := by decide +kernel
theorem dX7_compares_53 : decode cX7_compares 53 = .ok (.iload_n 1, 1) := by decide +kernel
theorem dX7_compares_54 : decode cX7_compares 54 = .ok (.iaload, 1) := by decide +kernel
theorem dX7_compares_55 : decode cX7_compares 55 = .ok (.if_icmp .ne 7, 3) := by decide +kernel
theorem dX7_compares_58 : decode cX7_compares 58 = .ok (.iconst 1, 1) := by decide +kernel
theorem dX7_compares_59 : decode cX7_compares 59 = .ok (.goto 4, 3) := by decide +kernel
theorem dX7_compares_62 : decode cX7_compares 62 = .ok (.iconst 0, 1) := by decide +kernel
theorem dX7_compares_63 : decode cX7_compares 63 = .ok (.ireturn, 1) := by decide +kernel
theorem dX7_compares_64 : decode cX7_compares 64 = .ok (.iload_n 2, 1) := by decide +kernel
theorem dX7_compares_65 : decode cX7_compares 65 = .ok (.aload_n 0, 1) := by decide +kernel
theorem dX7_compares_66 : decode cX7_compares 66 = .ok (.getfield 18, 3) := by decide +kernel
theorem dX7_compares_69 : decode cX7_compares 69 = .ok (.iload_n 1, 1) := by decide +kernel
theorem dX7_compares_70 : decode cX7_compares 70 = .ok (.iaload, 1) := by decide +kernel
theorem dX7_compares_71 : decode cX7_compares 71 = .ok (.if_icmp .le 7, 3) := by decide +kernel
theorem dX7_compares_74 : decode cX7_compares 74 = .ok (.iconst 1, 1) := by decide +kernel
theorem dX7_compares_75 : decode cX7_compares 75 = .ok (.goto 4, 3) := by decide +kernel
theorem dX7_compares_78 : decode cX7_compares 78 = .ok (.iconst 0, 1) := by decide +kernel
theorem dX7_compares_79 : decode cX7_compares 79 = .ok (.ireturn, 1) := by decide +kernel
def tX7_compares (kn : sKn) : List (Nat × sA) := [(0, a_aload 0 1), (1, a_get 8 1 4), (4, a_iload 1 5), (5, a_iald 6), (6, a_look [(60, 32), (61, 48)] 64), (32, a_iload 2 33), (33, a_aload 0 34), (34, a_get 8 2 37), (37, a_iload 1 38), (38, a_iald 39), (39, a_icmp kn b_ge 3 46 42), (42, a_stk (q_int 1) 43), (43, a_goto 47), (46, a_stk (q_int 0) 47), (47, a_zret), (48, a_iload 2 49), (49, a_aload 0 50), (50, a_get 8 2 53), (53, a_iload 1 54), (54, a_iald 55), (55, a_icmp kn b_ne 1 62 58), (58, a_stk (q_int 1) 59), (59, a_goto 63), (62, a_stk (q_int 0) 63), (63, a_zret), (64, a_iload 2 65), (65, a_aload 0 66), (66, a_get 8 2 69), (69, a_iload 1 70), (70, a_iald 71), (71, a_icmp kn b_le 5 78 74), (74, a_stk (q_int 1) 75), (75, a_goto 79), (78, a_stk (q_int 0) 79), (79, a_zret)]
def fX7_compares (kn : sKn) : List Value → sW → Option sR := fW (tX7_compares kn) 3
set_option maxRecDepth 100000 in
set_option maxHeartbeats 4000000 in
theorem mX7_compares (kn : sKn) : mM kn yX7_compares (Cond.code yX7_compares cX7_compares 3 (some .boolean) :: wsL_law) 1 false (fX7_compares kn) := mM_W (fun n => mM_of (own := RX7) (ini := false) rfl (by decide +kernel) (by decide +kernel) (all_c (ok_aload_n dX7_compares_0 rfl) (all_c (okg_X7_1 kw802 dX7_compares_1) (all_c (ok_iload_n dX7_compares_4 rfl) (all_c (ok_iald dX7_compares_5) (all_c (ok_look dX7_compares_6 (by decide) (by decide) (by decide)) (all_c (ok_iload_n dX7_compares_32 rfl) (all_c (ok_aload_n dX7_compares_33 rfl) (all_c (okg_X7_2 kw803 dX7_compares_34) (all_c (ok_iload_n dX7_compares_37 rfl) (all_c (ok_iald dX7_compares_38) (all_c (ok_icmp_ge dX7_compares_39 (by decide)) (all_c (ok_stk (s_iconst dX7_compares_42 (by decide))) (all_c (ok_goto dX7_compares_43 (by decide)) (all_c (ok_stk (s_iconst dX7_compares_46 (by decide))) (all_c (ok_zret dX7_compares_47) (all_c (ok_iload_n dX7_compares_48 rfl) (all_c (ok_aload_n dX7_compares_49 rfl) (all_c (okg_X7_2 kw803 dX7_compares_50) (all_c (ok_iload_n dX7_compares_53 rfl) (all_c (ok_iald dX7_compares_54) (all_c (ok_icmp_ne dX7_compares_55 (by decide)) (all_c (ok_stk (s_iconst dX7_compares_58 (by decide))) (all_c (ok_goto dX7_compares_59 (by decide)) (all_c (ok_stk (s_iconst dX7_compares_62 (by decide))) (all_c (ok_zret dX7_compares_63) (all_c (ok_iload_n dX7_compares_64 rfl) (all_c (ok_aload_n dX7_compares_65 rfl) (all_c (okg_X7_2 kw803 dX7_compares_66) (all_c (ok_iload_n dX7_compares_69 rfl) (all_c (ok_iald dX7_compares_70) (all_c (ok_icmp_le dX7_compares_71 (by decide)) (all_c (ok_stk (s_iconst dX7_compares_74 (by decide))) (all_c (ok_goto dX7_compares_75 (by decide)) (all_c (ok_stk (s_iconst dX7_compares_78 (by decide))) (all_c (ok_zret dX7_compares_79) all_n))))))))))))))))))))))))))))))))))) n (fun h => by first | rfl | cases h))
theorem dX7_isOn_0 : decode cX7_isOn 0 = .ok (.iconst 0, 1) := by decide +kernel
theorem dX7_isOn_1 : decode cX7_isOn 1 = .ok (.istore_n 3, 1) := by decide +kernel
theorem dX7_isOn_2 : decode cX7_isOn 2 = .ok (.iload_n 3, 1) := by decide +kernel
theorem dX7_isOn_3 : decode cX7_isOn 3 = .ok (.iconst 3, 1) := by decide +kernel
theorem dX7_isOn_4 : decode cX7_isOn 4 = .ok (.if_icmp .ge 25, 3) := by decide +kernel
theorem dX7_isOn_7 : decode cX7_isOn 7 = .ok (.aload_n 0, 1) := by decide +kernel
theorem dX7_isOn_8 : decode cX7_isOn 8 = .ok (.getfield 166, 3) := by decide +kernel
theorem dX7_isOn_11 : decode cX7_isOn 11 = .ok (.iconst 3, 1) := by decide +kernel
theorem dX7_isOn_12 : decode cX7_isOn 12 = .ok (.iload_n 1, 1) := by decide +kernel
theorem dX7_isOn_13 : decode cX7_isOn 13 = .ok (.imul, 1) := by decide +kernel
theorem dX7_isOn_14 : decode cX7_isOn 14 = .ok (.iload_n 3, 1) := by decide +kernel
theorem dX7_isOn_15 : decode cX7_isOn 15 = .ok (.iadd, 1) := by decide +kernel
theorem dX7_isOn_16 : decode cX7_isOn 16 = .ok (.iaload, 1) := by decide +kernel
theorem dX7_isOn_17 : decode cX7_isOn 17 = .ok (.iload_n 2, 1) := by decide +kernel
theorem dX7_isOn_18 : decode cX7_isOn 18 = .ok (.if_icmp .ne 5, 3) := by decide +kernel
theorem dX7_isOn_21 : decode cX7_isOn 21 = .ok (.iconst 1, 1) := by decide +kernel
theorem dX7_isOn_22 : decode cX7_isOn 22 = .ok (.ireturn, 1) := by decide +kernel
theorem dX7_isOn_23 : decode cX7_isOn 23 = .ok (.iinc 3 1, 3) := by decide +kernel
theorem dX7_isOn_26 : decode cX7_isOn 26 = .ok (.goto (-24), 3) := by decide +kernel
theorem dX7_isOn_29 : decode cX7_isOn 29 = .ok (.iconst 0, 1) := by decide +kernel
theorem dX7_isOn_30 : decode cX7_isOn 30 = .ok (.ireturn, 1) := by decide +kernel
def tX7_isOn (kn : sKn) : List (Nat × sA) := [(0, a_stk (q_int 0) 1), (1, a_istore 3 2), (2, a_iload 3 3), (3, a_stk (q_int 3) 4), (4, a_icmp kn b_ge 3 29 7), (7, a_aload 0 8), (8, a_get 9 6 11), (11, a_stk (q_int 3) 12), (12, a_iload 1 13), (13, a_stk q_imul 14), (14, a_iload 3 15), (15, a_stk q_iadd 16), (16, a_iald 17), (17, a_iload 2 18), (18, a_icmp kn b_ne 1 23 21), (21, a_stk (q_int 1) 22), (22, a_zret), (23, a_iinc 3 1 26), (26, a_goto 2), (29, a_stk (q_int 0) 30), (30, a_zret)]
def fX7_isOn (kn : sKn) : List Value → sW → Option sR := fW (tX7_isOn kn) 4
set_option maxRecDepth 100000 in
set_option maxHeartbeats 4000000 in
theorem mX7_isOn (kn : sKn) : mM kn yX7_isOn (Cond.code yX7_isOn cX7_isOn 4 (some .boolean) :: wsL_law) 1 false (fX7_isOn kn) := mM_W (fun n => mM_of (own := RX7) (ini := false) rfl (by decide +kernel) (by decide +kernel) (all_c (ok_stk (s_iconst dX7_isOn_0 (by decide))) (all_c (ok_istore_n dX7_isOn_1 rfl (by decide)) (all_c (ok_iload_n dX7_isOn_2 rfl) (all_c (ok_stk (s_iconst dX7_isOn_3 (by decide))) (all_c (ok_icmp_ge dX7_isOn_4 (by decide)) (all_c (ok_aload_n dX7_isOn_7 rfl) (all_c (okg_X8_6 kw968 dX7_isOn_8) (all_c (ok_stk (s_iconst dX7_isOn_11 (by decide))) (all_c (ok_iload_n dX7_isOn_12 rfl) (all_c (ok_stk (s_imul dX7_isOn_13)) (all_c (ok_iload_n dX7_isOn_14 rfl) (all_c (ok_stk (s_iadd dX7_isOn_15)) (all_c (ok_iald dX7_isOn_16) (all_c (ok_iload_n dX7_isOn_17 rfl) (all_c (ok_icmp_ne dX7_isOn_18 (by decide)) (all_c (ok_stk (s_iconst dX7_isOn_21 (by decide))) (all_c (ok_zret dX7_isOn_22) (all_c (ok_iinc dX7_isOn_23 (by decide) (by decide)) (all_c (ok_goto dX7_isOn_26 (by decide)) (all_c (ok_stk (s_iconst dX7_isOn_29 (by decide))) (all_c (ok_zret dX7_isOn_30) all_n))))))))))))))))))))) n (fun h => by first | rfl | cases h))
theorem dX7_isTrueOf_0 : decode cX7_isTrueOf 0 = .ok (.aload_n 0, 1) := by decide +kernel
theorem dX7_isTrueOf_1 : decode cX7_isTrueOf 1 = .ok (.getfield 11, 3) := by decide +kernel
theorem dX7_isTrueOf_4 : decode cX7_isTrueOf 4 = .ok (.iload_n 3, 1) := by decide +kernel
theorem dX7_isTrueOf_5 : decode cX7_isTrueOf 5 = .ok (.iaload, 1) := by decide +kernel
theorem dX7_isTrueOf_6 : decode cX7_isTrueOf 6 = .ok (.tableswitch 166 18 25 #[46, 61, 79, 92, 114, 127, 140, 153], 46) := by decide +kernel
theorem dX7_isTrueOf_52 : decode cX7_isTrueOf 52 = .ok (.aload_n 2, 1) := by decide +kernel
theorem dX7_isTrueOf_53 : decode cX7_isTrueOf 53 = .ok (.iload 4, 2) := by decide +kernel
theorem dX7_isTrueOf_55 : decode cX7_isTrueOf 55 = .ok (.invokevirtual 136, 3) := by decide +kernel
theorem dX7_isTrueOf_58 : decode cX7_isTrueOf 58 = .ok (.ifCond .ne 7, 3) := by decide +kernel
theorem dX7_isTrueOf_61 : decode cX7_isTrueOf 61 = .ok (.iconst 1, 1) := by decide +kernel
theorem dX7_isTrueOf_62 : decode cX7_isTrueOf 62 = .ok (.goto 4, 3) := by decide +kernel
theorem dX7_isTrueOf_65 : decode cX7_isTrueOf 65 = .ok (.iconst 0, 1) := by decide +kernel
theorem dX7_isTrueOf_66 : decode cX7_isTrueOf 66 = .ok (.ireturn, 1) := by decide +kernel
theorem dX7_isTrueOf_67 : decode cX7_isTrueOf 67 = .ok (.aload_n 1, 1) := by decide +kernel
theorem dX7_isTrueOf_68 : decode cX7_isTrueOf 68 = .ok (.getfield 141, 3) := by decide +kernel
theorem dX7_isTrueOf_71 : decode cX7_isTrueOf 71 = .ok (.iload 4, 2) := by decide +kernel
theorem dX7_isTrueOf_73 : decode cX7_isTrueOf 73 = .ok (.ishr, 1) := by decide +kernel
theorem dX7_isTrueOf_74 : decode cX7_isTrueOf 74 = .ok (.iconst 1, 1) := by decide +kernel
theorem dX7_isTrueOf_75 : decode cX7_isTrueOf 75 = .ok (.iand, 1) := by decide +kernel
theorem dX7_isTrueOf_76 : decode cX7_isTrueOf 76 = .ok (.ifCond .eq 7, 3) := by decide +kernel
theorem dX7_isTrueOf_79 : decode cX7_isTrueOf 79 = .ok (.iconst 1, 1) := by decide +kernel
theorem dX7_isTrueOf_80 : decode cX7_isTrueOf 80 = .ok (.goto 4, 3) := by decide +kernel
theorem dX7_isTrueOf_83 : decode cX7_isTrueOf 83 = .ok (.iconst 0, 1) := by decide +kernel
theorem dX7_isTrueOf_84 : decode cX7_isTrueOf 84 = .ok (.ireturn, 1) := by decide +kernel
theorem dX7_isTrueOf_85 : decode cX7_isTrueOf 85 = .ok (.aload_n 1, 1) := by decide +kernel
theorem dX7_isTrueOf_86 : decode cX7_isTrueOf 86 = .ok (.iload 4, 2) := by decide +kernel
theorem dX7_isTrueOf_88 : decode cX7_isTrueOf 88 = .ok (.aload_n 0, 1) := by decide +kernel
theorem dX7_isTrueOf_89 : decode cX7_isTrueOf 89 = .ok (.getfield 18, 3) := by decide +kernel
theorem dX7_isTrueOf_92 : decode cX7_isTrueOf 92 = .ok (.iload_n 3, 1) := by decide +kernel
theorem dX7_isTrueOf_93 : decode cX7_isTrueOf 93 = .ok (.iaload, 1) := by decide +kernel
theorem dX7_isTrueOf_94 : decode cX7_isTrueOf 94 = .ok (.invokevirtual 144, 3) := by decide +kernel
theorem dX7_isTrueOf_97 : decode cX7_isTrueOf 97 = .ok (.ireturn, 1) := by decide +kernel
theorem dX7_isTrueOf_98 : decode cX7_isTrueOf 98 = .ok (.aload_n 1, 1) := by decide +kernel
theorem dX7_isTrueOf_99 : decode cX7_isTrueOf 99 = .ok (.getfield 147, 3) := by decide +kernel
theorem dX7_isTrueOf_102 : decode cX7_isTrueOf 102 = .ok (.aload_n 0, 1) := by decide +kernel
theorem dX7_isTrueOf_103 : decode cX7_isTrueOf 103 = .ok (.getfield 18, 3) := by decide +kernel
theorem dX7_isTrueOf_106 : decode cX7_isTrueOf 106 = .ok (.iload_n 3, 1) := by decide +kernel
theorem dX7_isTrueOf_107 : decode cX7_isTrueOf 107 = .ok (.iaload, 1) := by decide +kernel
theorem dX7_isTrueOf_108 : decode cX7_isTrueOf 108 = .ok (.iaload, 1) := by decide +kernel
theorem dX7_isTrueOf_109 : decode cX7_isTrueOf 109 = .ok (.iload 4, 2) := by decide +kernel
theorem dX7_isTrueOf_111 : decode cX7_isTrueOf 111 = .ok (.if_icmp .ne 7, 3) := by decide +kernel
theorem dX7_isTrueOf_114 : decode cX7_isTrueOf 114 = .ok (.iconst 1, 1) := by decide +kernel
theorem dX7_isTrueOf_115 : decode cX7_isTrueOf 115 = .ok (.goto 4, 3) := by decide +kernel
theorem dX7_isTrueOf_118 : decode cX7_isTrueOf 118 = .ok (.iconst 0, 1) := by decide +kernel
theorem dX7_isTrueOf_119 : decode cX7_isTrueOf 119 = .ok (.ireturn, 1) := by decide +kernel
theorem dX7_isTrueOf_120 : decode cX7_isTrueOf 120 = .ok (.aload_n 2, 1) := by decide +kernel
theorem dX7_isTrueOf_121 : decode cX7_isTrueOf 121 = .ok (.aload_n 0, 1) := by decide +kernel
theorem dX7_isTrueOf_122 : decode cX7_isTrueOf 122 = .ok (.getfield 18, 3) := by decide +kernel
theorem dX7_isTrueOf_125 : decode cX7_isTrueOf 125 = .ok (.iload_n 3, 1) := by decide +kernel
theorem dX7_isTrueOf_126 : decode cX7_isTrueOf 126 = .ok (.iaload, 1) := by decide +kernel
theorem dX7_isTrueOf_127 : decode cX7_isTrueOf 127 = .ok (.iload 4, 2) := by decide +kernel
theorem dX7_isTrueOf_129 : decode cX7_isTrueOf 129 = .ok (.invokestatic 150, 3) := by decide +kernel
theorem dX7_isTrueOf_132 : decode cX7_isTrueOf 132 = .ok (.ireturn, 1) := by decide +kernel
theorem dX7_isTrueOf_133 : decode cX7_isTrueOf 133 = .ok (.aload_n 0, 1) := by decide +kernel
theorem dX7_isTrueOf_134 : decode cX7_isTrueOf 134 = .ok (.iload_n 3, 1) := by decide +kernel
theorem dX7_isTrueOf_135 : decode cX7_isTrueOf 135 = .ok (.aload_n 2, 1) := by decide +kernel
theorem dX7_isTrueOf_136 : decode cX7_isTrueOf 136 = .ok (.getfield 154, 3) := by decide +kernel
theorem dX7_isTrueOf_139 : decode cX7_isTrueOf 139 = .ok (.iload 4, 2) := by decide +kernel
theorem dX7_isTrueOf_141 : decode cX7_isTrueOf 141 = .ok (.iaload, 1) := by decide +kernel
theorem dX7_isTrueOf_142 : decode cX7_isTrueOf 142 = .ok (.invokevirtual 157, 3) := by decide +kernel
theorem dX7_isTrueOf_145 : decode cX7_isTrueOf 145 = .ok (.ireturn, 1) := by decide +kernel
theorem dX7_isTrueOf_146 : decode cX7_isTrueOf 146 = .ok (.aload_n 0, 1) := by decide +kernel
theorem dX7_isTrueOf_147 : decode cX7_isTrueOf 147 = .ok (.iload_n 3, 1) := by decide +kernel
theorem dX7_isTrueOf_148 : decode cX7_isTrueOf 148 = .ok (.aload_n 2, 1) := by decide +kernel
theorem dX7_isTrueOf_149 : decode cX7_isTrueOf 149 = .ok (.getfield 160, 3) := by decide +kernel
theorem dX7_isTrueOf_152 : decode cX7_isTrueOf 152 = .ok (.iload 4, 2) := by decide +kernel
theorem dX7_isTrueOf_154 : decode cX7_isTrueOf 154 = .ok (.iaload, 1) := by decide +kernel
theorem dX7_isTrueOf_155 : decode cX7_isTrueOf 155 = .ok (.invokevirtual 157, 3) := by decide +kernel
theorem dX7_isTrueOf_158 : decode cX7_isTrueOf 158 = .ok (.ireturn, 1) := by decide +kernel
theorem dX7_isTrueOf_159 : decode cX7_isTrueOf 159 = .ok (.aload_n 0, 1) := by decide +kernel
theorem dX7_isTrueOf_160 : decode cX7_isTrueOf 160 = .ok (.iload_n 3, 1) := by decide +kernel
theorem dX7_isTrueOf_161 : decode cX7_isTrueOf 161 = .ok (.aload_n 1, 1) := by decide +kernel
theorem dX7_isTrueOf_162 : decode cX7_isTrueOf 162 = .ok (.getfield 163, 3) := by decide +kernel
theorem dX7_isTrueOf_165 : decode cX7_isTrueOf 165 = .ok (.iload 4, 2) := by decide +kernel
theorem dX7_isTrueOf_167 : decode cX7_isTrueOf 167 = .ok (.iaload, 1) := by decide +kernel
theorem dX7_isTrueOf_168 : decode cX7_isTrueOf 168 = .ok (.invokevirtual 157, 3) := by decide +kernel
theorem dX7_isTrueOf_171 : decode cX7_isTrueOf 171 = .ok (.ireturn, 1) := by decide +kernel
theorem dX7_isTrueOf_172 : decode cX7_isTrueOf 172 = .ok (.aload_n 0, 1) := by decide +kernel
theorem dX7_isTrueOf_173 : decode cX7_isTrueOf 173 = .ok (.iload_n 3, 1) := by decide +kernel
theorem dX7_isTrueOf_174 : decode cX7_isTrueOf 174 = .ok (.iload 4, 2) := by decide +kernel
theorem dX7_isTrueOf_176 : decode cX7_isTrueOf 176 = .ok (.invokevirtual 157, 3) := by decide +kernel
theorem dX7_isTrueOf_179 : decode cX7_isTrueOf 179 = .ok (.ireturn, 1) := by decide +kernel
theorem okc_X7_isOn {kn : sKn} {cc : ByteArray} {own : String} {nL : Nat} {D : Nat} {ret : Option FieldType} {ini : Bool} {pc index : Nat} (hD : 1 + 1 ≤ D) (hl : Cond.methodLink own index yX7_isOn ∈ wsL_law) (hd : decode cc pc = .ok (.invokestatic index, 3)) : mOk kn cc own nL wsL_law D ret ini pc (a_callS false (fX7_isOn kn) 3 (pc + 3)) := ok_callS (mX7_isOn kn) (good_ws ws_good (fun _ h => h) kw973) hD (by decide) hl kw974 kw644 ⟨by decide +kernel, by decide +kernel, by decide +kernel⟩ hd
theorem okc_X7_compares {kn : sKn} {cc : ByteArray} {own : String} {nL : Nat} {D : Nat} {ret : Option FieldType} {ini : Bool} {pc index : Nat} (hD : 1 + 1 ≤ D) (hl : Cond.methodLink own index yX7_compares ∈ wsL_law) (hd : decode cc pc = .ok (.invokevirtual index, 3)) : mOk kn cc own nL wsL_law D ret ini pc (a_callV false (fX7_compares kn) 8 (2 + 1) (pc + 3)) := ok_callV (mX7_compares kn) (good_ws ws_good (fun _ h => h) kw977) hD (by decide) hl kw978 kw979 kw644 ⟨by decide +kernel, by decide +kernel, by decide +kernel⟩ rfl hd
def tX7_isTrueOf (kn : sKn) : List (Nat × sA) := [(0, a_aload 0 1), (1, a_get 8 0 4), (4, a_iload 3 5), (5, a_iald 6), (6, a_table kn 18 25 [52, 67, 85, 98, 120, 133, 146, 159] 172), (52, a_aload 2 53), (53, a_iload 4 55), (55, a_callV false (fX8_lives kn) 9 2 58), (58, a_if kn b_ne 1 65 61), (61, a_stk (q_int 1) 62), (62, a_goto 66), (65, a_stk (q_int 0) 66), (66, a_zret), (67, a_aload 1 68), (68, a_get 7 5 71), (71, a_iload 4 73), (73, a_stk q_ishr 74), (74, a_stk (q_int 1) 75), (75, a_stk q_iand 76), (76, a_if kn b_eq 0 83 79), (79, a_stk (q_int 1) 80), (80, a_goto 84), (83, a_stk (q_int 0) 84), (84, a_zret), (85, a_aload 1 86), (86, a_iload 4 88), (88, a_aload 0 89), (89, a_get 8 2 92), (92, a_iload 3 93), (93, a_iald 94), (94, a_callV false (fX6_areLovers kn) 7 3 97), (97, a_zret), (98, a_aload 1 99), (99, a_get 7 9 102), (102, a_aload 0 103), (103, a_get 8 2 106), (106, a_iload 3 107), (107, a_iald 108), (108, a_iald 109), (109, a_iload 4 111), (111, a_icmp kn b_ne 1 118 114), (114, a_stk (q_int 1) 115), (115, a_goto 119), (118, a_stk (q_int 0) 119), (119, a_zret), (120, a_aload 2 121), (121, a_aload 0 122), (122, a_get 8 2 125), (125, a_iload 3 126), (126, a_iald 127), (127, a_iload 4 129), (129, a_callS false (fX7_isOn kn) 3 132), (132, a_zret), (133, a_aload 0 134), (134, a_iload 3 135), (135, a_aload 2 136), (136, a_get 9 3 139), (139, a_iload 4 141), (141, a_iald 142), (142, a_callV false (fX7_compares kn) 8 3 145), (145, a_zret), (146, a_aload 0 147), (147, a_iload 3 148), (148, a_aload 2 149), (149, a_get 9 5 152), (152, a_iload 4 154), (154, a_iald 155), (155, a_callV false (fX7_compares kn) 8 3 158), (158, a_zret), (159, a_aload 0 160), (160, a_iload 3 161), (161, a_aload 1 162), (162, a_get 7 8 165), (165, a_iload 4 167), (167, a_iald 168), (168, a_callV false (fX7_compares kn) 8 3 171), (171, a_zret), (172, a_aload 0 173), (173, a_iload 3 174), (174, a_iload 4 176), (176, a_callV false (fX7_compares kn) 8 3 179), (179, a_zret)]
def fX7_isTrueOf (kn : sKn) : List Value → sW → Option sR := fW (tX7_isTrueOf kn) 5
set_option maxRecDepth 100000 in
set_option maxHeartbeats 4000000 in
theorem mX7_isTrueOf (kn : sKn) : mM kn yX7_isTrueOf (Cond.code yX7_isTrueOf cX7_isTrueOf 5 (some .boolean) :: wsL_law) 2 false (fX7_isTrueOf kn) := mM_W (fun n => mM_of (own := RX7) (ini := false) rfl (by decide +kernel) (by decide +kernel) (all_c (ok_aload_n dX7_isTrueOf_0 rfl) (all_c (okg_X7_0 kw800 dX7_isTrueOf_1) (all_c (ok_iload_n dX7_isTrueOf_4 rfl) (all_c (ok_iald dX7_isTrueOf_5) (all_c (ok_table dX7_isTrueOf_6 (by decide) (by decide) (by decide) (by decide)) (all_c (ok_aload_n dX7_isTrueOf_52 rfl) (all_c (ok_iload dX7_isTrueOf_53) (all_c (okc_X8_lives (by decide) kw969 dX7_isTrueOf_55) (all_c (ok_if_ne dX7_isTrueOf_58 (by decide)) (all_c (ok_stk (s_iconst dX7_isTrueOf_61 (by decide))) (all_c (ok_goto dX7_isTrueOf_62 (by decide)) (all_c (ok_stk (s_iconst dX7_isTrueOf_65 (by decide))) (all_c (ok_zret dX7_isTrueOf_66) (all_c (ok_aload_n dX7_isTrueOf_67 rfl) (all_c (okg_X6_5 kw970 dX7_isTrueOf_68) (all_c (ok_iload dX7_isTrueOf_71) (all_c (ok_stk (s_ishr dX7_isTrueOf_73)) (all_c (ok_stk (s_iconst dX7_isTrueOf_74 (by decide))) (all_c (ok_stk (s_iand dX7_isTrueOf_75)) (all_c (ok_if_eq dX7_isTrueOf_76 (by decide)) (all_c (ok_stk (s_iconst dX7_isTrueOf_79 (by decide))) (all_c (ok_goto dX7_isTrueOf_80 (by decide)) (all_c (ok_stk (s_iconst dX7_isTrueOf_83 (by decide))) (all_c (ok_zret dX7_isTrueOf_84) (all_c (ok_aload_n dX7_isTrueOf_85 rfl) (all_c (ok_iload dX7_isTrueOf_86) (all_c (ok_aload_n dX7_isTrueOf_88 rfl) (all_c (okg_X7_2 kw803 dX7_isTrueOf_89) (all_c (ok_iload_n dX7_isTrueOf_92 rfl) (all_c (ok_iald dX7_isTrueOf_93) (all_c (okc_X6_areLovers (by decide) kw971 dX7_isTrueOf_94) (all_c (ok_zret dX7_isTrueOf_97) (all_c (ok_aload_n dX7_isTrueOf_98 rfl) (all_c (okg_X6_9 kw972 dX7_isTrueOf_99) (all_c (ok_aload_n dX7_isTrueOf_102 rfl) (all_c (okg_X7_2 kw803 dX7_isTrueOf_103) (all_c (ok_iload_n dX7_isTrueOf_106 rfl) (all_c (ok_iald dX7_isTrueOf_107) (all_c (ok_iald dX7_isTrueOf_108) (all_c (ok_iload dX7_isTrueOf_109) (all_c (ok_icmp_ne dX7_isTrueOf_111 (by decide)) (all_c (ok_stk (s_iconst dX7_isTrueOf_114 (by decide))) (all_c (ok_goto dX7_isTrueOf_115 (by decide)) (all_c (ok_stk (s_iconst dX7_isTrueOf_118 (by decide))) (all_c (ok_zret dX7_isTrueOf_119) (all_c (ok_aload_n dX7_isTrueOf_120 rfl) (all_c (ok_aload_n dX7_isTrueOf_121 rfl) (all_c (okg_X7_2 kw803 dX7_isTrueOf_122) (all_c (ok_iload_n dX7_isTrueOf_125 rfl) (all_c (ok_iald dX7_isTrueOf_126) (all_c (ok_iload dX7_isTrueOf_127) (all_c (okc_X7_isOn (by decide) kw975 dX7_isTrueOf_129) (all_c (ok_zret dX7_isTrueOf_132) (all_c (ok_aload_n dX7_isTrueOf_133 rfl) (all_c (ok_iload_n dX7_isTrueOf_134 rfl) (all_c (ok_aload_n dX7_isTrueOf_135 rfl) (all_c (okg_X8_3 kw976 dX7_isTrueOf_136) (all_c (ok_iload dX7_isTrueOf_139) (all_c (ok_iald dX7_isTrueOf_141) (all_c (okc_X7_compares (by decide) kw980 dX7_isTrueOf_142) (all_c (ok_zret dX7_isTrueOf_145) (all_c (ok_aload_n dX7_isTrueOf_146 rfl) (all_c (ok_iload_n dX7_isTrueOf_147 rfl) (all_c (ok_aload_n dX7_isTrueOf_148 rfl) (all_c (okg_X8_5 kw981 dX7_isTrueOf_149) (all_c (ok_iload dX7_isTrueOf_152) (all_c (ok_iald dX7_isTrueOf_154) (all_c (okc_X7_compares (by decide) kw980 dX7_isTrueOf_155) (all_c (ok_zret dX7_isTrueOf_158) (all_c (ok_aload_n dX7_isTrueOf_159 rfl) (all_c (ok_iload_n dX7_isTrueOf_160 rfl) (all_c (ok_aload_n dX7_isTrueOf_161 rfl) (all_c (okg_X6_8 kw982 dX7_isTrueOf_162) (all_c (ok_iload dX7_isTrueOf_165) (all_c (ok_iald dX7_isTrueOf_167) (all_c (okc_X7_compares (by decide) kw980 dX7_isTrueOf_168) (all_c (ok_zret dX7_isTrueOf_171) (all_c (ok_aload_n dX7_isTrueOf_172 rfl) (all_c (ok_iload_n dX7_isTrueOf_173 rfl) (all_c (ok_iload dX7_isTrueOf_174) (all_c (okc_X7_compares (by decide) kw980 dX7_isTrueOf_176) (all_c (ok_zret dX7_isTrueOf_179) all_n)))))))))))))))))))))))))))))))))))))))))))))))))))))))))))))))))))))))))))))))))) n (fun h => by first | rfl | cases h))
theorem dX7_sayOfAll_0 : decode cX7_sayOfAll 0 = .ok (.iconst 0, 1) := by decide +kernel
theorem dX7_sayOfAll_1 : decode cX7_sayOfAll 1 = .ok (.istore 4, 2) := by decide +kernel
theorem dX7_sayOfAll_3 : decode cX7_sayOfAll 3 = .ok (.iconst 0, 1) := by decide +kernel
theorem dX7_sayOfAll_4 : decode cX7_sayOfAll 4 = .ok (.istore 5, 2) := by decide +kernel
theorem dX7_sayOfAll_6 : decode cX7_sayOfAll 6 = .ok (.iload 5, 2) := by decide +kernel
theorem dX7_sayOfAll_8 : decode cX7_sayOfAll 8 = .ok (.aload_n 1, 1) := by decide +kernel
theorem dX7_sayOfAll_9 : decode cX7_sayOfAll 9 = .ok (.getfield 123, 3) := by decide +kernel
theorem dX7_sayOfAll_12 : decode cX7_sayOfAll 12 = .ok (.if_icmp .ge 30, 3) := by decide +kernel
theorem dX7_sayOfAll_15 : decode cX7_sayOfAll 15 = .ok (.aload_n 0, 1) := by decide +kernel
theorem dX7_sayOfAll_16 : decode cX7_sayOfAll 16 = .ok (.aload_n 1, 1) := by decide +kernel
theorem dX7_sayOfAll_17 : decode cX7_sayOfAll 17 = .ok (.aload_n 2, 1) := by decide +kernel
theorem dX7_sayOfAll_18 : decode cX7_sayOfAll 18 = .ok (.iload_n 3, 1) := by decide +kernel
theorem dX7_sayOfAll_19 : decode cX7_sayOfAll 19 = .ok (.iload 5, 2) := by decide +kernel
theorem dX7_sayOfAll_21 : decode cX7_sayOfAll 21 = .ok (.invokevirtual 132, 3) := by decide +kernel
theorem dX7_sayOfAll_24 : decode cX7_sayOfAll 24 = .ok (.ifCond .eq 12, 3) := by decide +kernel
theorem dX7_sayOfAll_27 : decode cX7_sayOfAll 27 = .ok (.iload 4, 2) := by decide +kernel
theorem dX7_sayOfAll_29 : decode cX7_sayOfAll 29 = .ok (.iconst 1, 1) := by decide +kernel
theorem dX7_sayOfAll_30 : decode cX7_sayOfAll 30 = .ok (.iload 5, 2) := by decide +kernel
theorem dX7_sayOfAll_32 : decode cX7_sayOfAll 32 = .ok (.ishl, 1) := by decide +kernel
theorem dX7_sayOfAll_33 : decode cX7_sayOfAll 33 = .ok (.ior, 1) := by decide +kernel
theorem dX7_sayOfAll_34 : decode cX7_sayOfAll 34 = .ok (.istore 4, 2) := by decide +kernel
theorem dX7_sayOfAll_36 : decode cX7_sayOfAll 36 = .ok (.iinc 5 1, 3) := by decide +kernel
theorem dX7_sayOfAll_39 : decode cX7_sayOfAll 39 = .ok (.goto (-33), 3) := by decide +kernel
theorem dX7_sayOfAll_42 : decode cX7_sayOfAll 42 = .ok (.iload 4, 2) := by decide +kernel
theorem dX7_sayOfAll_44 : decode cX7_sayOfAll 44 = .ok (.ireturn, 1) := by decide +kernel
theorem okc_X7_isTrueOf {kn : sKn} {cc : ByteArray} {own : String} {nL : Nat} {D : Nat} {ret : Option FieldType} {ini : Bool} {pc index : Nat} (hD : 2 + 1 ≤ D) (hl : Cond.methodLink own index yX7_isTrueOf ∈ wsL_law) (hd : decode cc pc = .ok (.invokevirtual index, 3)) : mOk kn cc own nL wsL_law D ret ini pc (a_callV false (fX7_isTrueOf kn) 8 (4 + 1) (pc + 3)) := ok_callV (mX7_isTrueOf kn) (good_ws ws_good (fun _ h => h) kw984) hD (by decide) hl kw985 kw986 kw644 ⟨by decide +kernel, by decide +kernel, by decide +kernel⟩ rfl hd
def tX7_sayOfAll (kn : sKn) : List (Nat × sA) := [(0, a_stk (q_int 0) 1), (1, a_istore 4 3), (3, a_stk (q_int 0) 4), (4, a_istore 5 6), (6, a_iload 5 8), (8, a_aload 1 9), (9, a_get 7 2 12), (12, a_icmp kn b_ge 3 42 15), (15, a_aload 0 16), (16, a_aload 1 17), (17, a_aload 2 18), (18, a_iload 3 19), (19, a_iload 5 21), (21, a_callV false (fX7_isTrueOf kn) 8 5 24), (24, a_if kn b_eq 0 36 27), (27, a_iload 4 29), (29, a_stk (q_int 1) 30), (30, a_iload 5 32), (32, a_stk q_ishl 33), (33, a_stk q_ior 34), (34, a_istore 4 36), (36, a_iinc 5 1 39), (39, a_goto 6), (42, a_iload 4 44), (44, a_iret)]
def fX7_sayOfAll (kn : sKn) : List Value → sW → Option sR := fW (tX7_sayOfAll kn) 6
set_option maxRecDepth 100000 in
set_option maxHeartbeats 4000000 in
theorem mX7_sayOfAll (kn : sKn) : mM kn yX7_sayOfAll (Cond.code yX7_sayOfAll cX7_sayOfAll 6 (some .int) :: wsL_law) 3 false (fX7_sayOfAll kn) := mM_W (fun n => mM_of (own := RX7) (ini := false) rfl (by decide +kernel) (by decide +kernel) (all_c (ok_stk (s_iconst dX7_sayOfAll_0 (by decide))) (all_c (ok_istore dX7_sayOfAll_1 (by decide)) (all_c (ok_stk (s_iconst dX7_sayOfAll_3 (by decide))) (all_c (ok_istore dX7_sayOfAll_4 (by decide)) (all_c (ok_iload dX7_sayOfAll_6) (all_c (ok_aload_n dX7_sayOfAll_8 rfl) (all_c (okg_X6_2 kw983 dX7_sayOfAll_9) (all_c (ok_icmp_ge dX7_sayOfAll_12 (by decide)) (all_c (ok_aload_n dX7_sayOfAll_15 rfl) (all_c (ok_aload_n dX7_sayOfAll_16 rfl) (all_c (ok_aload_n dX7_sayOfAll_17 rfl) (all_c (ok_iload_n dX7_sayOfAll_18 rfl) (all_c (ok_iload dX7_sayOfAll_19) (all_c (okc_X7_isTrueOf (by decide) kw987 dX7_sayOfAll_21) (all_c (ok_if_eq dX7_sayOfAll_24 (by decide)) (all_c (ok_iload dX7_sayOfAll_27) (all_c (ok_stk (s_iconst dX7_sayOfAll_29 (by decide))) (all_c (ok_iload dX7_sayOfAll_30) (all_c (ok_stk (s_ishl dX7_sayOfAll_32)) (all_c (ok_stk (s_ior dX7_sayOfAll_33)) (all_c (ok_istore dX7_sayOfAll_34 (by decide)) (all_c (ok_iinc dX7_sayOfAll_36 (by decide) (by decide)) (all_c (ok_goto dX7_sayOfAll_39 (by decide)) (all_c (ok_iload dX7_sayOfAll_42) (all_c (ok_iret dX7_sayOfAll_44) all_n))))))))))))))))))))))))) n (fun h => by first | rfl | cases h))
theorem dX7_judge_0 : decode cX7_judge 0 = .ok (.iconst 1, 1) := by decide +kernel
theorem dX7_judge_1 : decode cX7_judge 1 = .ok (.aload_n 1, 1) := by decide +kernel
theorem dX7_judge_2 : decode cX7_judge 2 = .ok (.getfield 123, 3) := by decide +kernel
theorem dX7_judge_5 : decode cX7_judge 5 = .ok (.ishl, 1) := by decide +kernel
theorem dX7_judge_6 : decode cX7_judge 6 = .ok (.iconst 1, 1) := by decide +kernel
theorem dX7_judge_7 : decode cX7_judge 7 = .ok (.isub, 1) := by decide +kernel
theorem dX7_judge_8 : decode cX7_judge 8 = .ok (.istore_n 3, 1) := by decide +kernel
theorem dX7_judge_9 : decode cX7_judge 9 = .ok (.iconst 0, 1) := by decide +kernel
theorem dX7_judge_10 : decode cX7_judge 10 = .ok (.istore 4, 2) := by decide +kernel
theorem dX7_judge_12 : decode cX7_judge 12 = .ok (.iconst 0, 1) := by decide +kernel
theorem dX7_judge_13 : decode cX7_judge 13 = .ok (.istore 5, 2) := by decide +kernel
theorem dX7_judge_15 : decode cX7_judge 15 = .ok (.iload 5, 2) := by decide +kernel
theorem dX7_judge_17 : decode cX7_judge 17 = .ok (.aload_n 0, 1) := by decide +kernel
theorem dX7_judge_18 : decode cX7_judge 18 = .ok (.getfield 31, 3) := by decide +kernel
theorem dX7_judge_21 : decode cX7_judge 21 = .ok (.if_icmp .ge 155, 3) := by decide +kernel
theorem dX7_judge_24 : decode cX7_judge 24 = .ok (.aload_n 0, 1) := by decide +kernel
theorem dX7_judge_25 : decode cX7_judge 25 = .ok (.getfield 11, 3) := by decide +kernel
theorem dX7_judge_28 : decode cX7_judge 28 = .ok (.iload 5, 2) := by decide +kernel
theorem dX7_judge_30 : decode cX7_judge 30 = .ok (.iaload, 1) := by decide +kernel
theorem dX7_judge_31 : decode cX7_judge 31 = .ok (.bipush 17, 2) := by decide +kernel
theorem dX7_judge_33 : decode cX7_judge 33 = .ok (.if_icmp .ne 33, 3) := by decide +kernel
theorem dX7_judge_36 : decode cX7_judge 36 = .ok (.iload 4, 2) := by decide +kernel
theorem dX7_judge_38 : decode cX7_judge 38 = .ok (.ifCond .le 28, 3) := by decide +kernel
theorem dX7_judge_41 : decode cX7_judge 41 = .ok (.aload_n 0, 1) := by decide +kernel
theorem dX7_judge_42 : decode cX7_judge 42 = .ok (.getfield 24, 3) := by decide +kernel
theorem dX7_judge_45 : decode cX7_judge 45 = .ok (.iload 4, 2) := by decide +kernel
theorem dX7_judge_47 : decode cX7_judge 47 = .ok (.iconst 1, 1) := by decide +kernel
theorem dX7_judge_48 : decode cX7_judge 48 = .ok (.isub, 1) := by decide +kernel
theorem dX7_judge_49 : decode cX7_judge 49 = .ok (.iload_n 3, 1) := by decide +kernel
theorem dX7_judge_50 : decode cX7_judge 50 = .ok (.aload_n 0, 1) := by decide +kernel
theorem dX7_judge_51 : decode cX7_judge 51 = .ok (.getfield 24, 3) := by decide +kernel
theorem dX7_judge_54 : decode cX7_judge 54 = .ok (.iload 4, 2) := by decide +kernel
theorem dX7_judge_56 : decode cX7_judge 56 = .ok (.iconst 1, 1) := by decide +kernel
theorem dX7_judge_57 : decode cX7_judge 57 = .ok (.isub, 1) := by decide +kernel
theorem dX7_judge_58 : decode cX7_judge 58 = .ok (.iaload, 1) := by decide +kernel
theorem dX7_judge_59 : decode cX7_judge 59 = .ok (.iconst (-1), 1) := by decide +kernel
theorem dX7_judge_60 : decode cX7_judge 60 = .ok (.ixor, 1) := by decide +kernel
theorem dX7_judge_61 : decode cX7_judge 61 = .ok (.iand, 1) := by decide +kernel
theorem dX7_judge_62 : decode cX7_judge 62 = .ok (.iastore, 1) := by decide +kernel
theorem dX7_judge_63 : decode cX7_judge 63 = .ok (.goto 107, 3) := by decide +kernel
theorem dX7_judge_66 : decode cX7_judge 66 = .ok (.aload_n 0, 1) := by decide +kernel
theorem dX7_judge_67 : decode cX7_judge 67 = .ok (.getfield 11, 3) := by decide +kernel
theorem dX7_judge_70 : decode cX7_judge 70 = .ok (.iload 5, 2) := by decide +kernel
theorem dX7_judge_72 : decode cX7_judge 72 = .ok (.iaload, 1) := by decide +kernel
theorem dX7_judge_73 : decode cX7_judge 73 = .ok (.bipush 16, 2) := by decide +kernel
theorem dX7_judge_75 : decode cX7_judge 75 = .ok (.if_icmp .ne 34, 3) := by decide +kernel
theorem dX7_judge_78 : decode cX7_judge 78 = .ok (.iload 4, 2) := by decide +kernel
theorem dX7_judge_80 : decode cX7_judge 80 = .ok (.iconst 1, 1) := by decide +kernel
theorem dX7_judge_81 : decode cX7_judge 81 = .ok (.if_icmp .le 28, 3) := by decide +kernel
theorem dX7_judge_84 : decode cX7_judge 84 = .ok (.iinc 4 (-1), 3) := by decide +kernel
theorem dX7_judge_87 : decode cX7_judge 87 = .ok (.aload_n 0, 1) := by decide +kernel
theorem dX7_judge_88 : decode cX7_judge 88 = .ok (.getfield 24, 3) := by decide +kernel
theorem dX7_judge_91 : decode cX7_judge 91 = .ok (.iload 4, 2) := by decide +kernel
theorem dX7_judge_93 : decode cX7_judge 93 = .ok (.iconst 1, 1) := by decide +kernel
theorem dX7_judge_94 : decode cX7_judge 94 = .ok (.isub, 1) := by decide +kernel
theorem dX7_judge_95 : decode cX7_judge 95 = .ok (.dup2, 1) := by decide +kernel
theorem dX7_judge_96 : decode cX7_judge 96 = .ok (.iaload, 1) := by decide +kernel
theorem dX7_judge_97 : decode cX7_judge 97 = .ok (.aload_n 0, 1) := by decide +kernel
theorem dX7_judge_98 : decode cX7_judge 98 = .ok (.getfield 24, 3) := by decide +kernel
theorem dX7_judge_101 : decode cX7_judge 101 = .ok (.iload 4, 2) := by decide +kernel
theorem dX7_judge_103 : decode cX7_judge 103 = .ok (.iaload, 1) := by decide +kernel
theorem dX7_judge_104 : decode cX7_judge 104 = .ok (.iand, 1) := by decide +kernel
theorem dX7_judge_105 : decode cX7_judge 105 = .ok (.iastore, 1) := by decide +kernel
theorem dX7_judge_106 : decode cX7_judge 106 = .ok (.goto 64, 3) := by decide +kernel
theorem dX7_judge_109 : decode cX7_judge 109 = .ok (.aload_n 0, 1) := by decide +kernel
theorem dX7_judge_110 : decode cX7_judge 110 = .ok (.getfield 11, 3) := by decide +kernel
theorem dX7_judge_113 : decode cX7_judge 113 = .ok (.iload 5, 2) := by decide +kernel
theorem dX7_judge_115 : decode cX7_judge 115 = .ok (.iaload, 1) := by decide +kernel
theorem dX7_judge_116 : decode cX7_judge 116 = .ok (.bipush 15, 2) := by decide +kernel
theorem dX7_judge_118 : decode cX7_judge 118 = .ok (.if_icmp .ne 34, 3) := by decide +kernel
theorem dX7_judge_121 : decode cX7_judge 121 = .ok (.iload 4, 2) := by decide +kernel
theorem dX7_judge_123 : decode cX7_judge 123 = .ok (.iconst 1, 1) := by decide +kernel
theorem dX7_judge_124 : decode cX7_judge 124 = .ok (.if_icmp .le 28, 3) := by decide +kernel
theorem dX7_judge_127 : decode cX7_judge 127 = .ok (.iinc 4 (-1), 3) := by decide +kernel
theorem dX7_judge_130 : decode cX7_judge 130 = .ok (.aload_n 0, 1) := by decide +kernel
theorem dX7_judge_131 : decode cX7_judge 131 = .ok (.getfield 24, 3) := by decide +kernel
theorem dX7_judge_134 : decode cX7_judge 134 = .ok (.iload 4, 2) := by decide +kernel
theorem dX7_judge_136 : decode cX7_judge 136 = .ok (.iconst 1, 1) := by decide +kernel
theorem dX7_judge_137 : decode cX7_judge 137 = .ok (.isub, 1) := by decide +kernel
theorem dX7_judge_138 : decode cX7_judge 138 = .ok (.dup2, 1) := by decide +kernel
theorem dX7_judge_139 : decode cX7_judge 139 = .ok (.iaload, 1) := by decide +kernel
theorem dX7_judge_140 : decode cX7_judge 140 = .ok (.aload_n 0, 1) := by decide +kernel
theorem dX7_judge_141 : decode cX7_judge 141 = .ok (.getfield 24, 3) := by decide +kernel
theorem dX7_judge_144 : decode cX7_judge 144 = .ok (.iload 4, 2) := by decide +kernel
theorem dX7_judge_146 : decode cX7_judge 146 = .ok (.iaload, 1) := by decide +kernel
theorem dX7_judge_147 : decode cX7_judge 147 = .ok (.ior, 1) := by decide +kernel
theorem dX7_judge_148 : decode cX7_judge 148 = .ok (.iastore, 1) := by decide +kernel
theorem dX7_judge_149 : decode cX7_judge 149 = .ok (.goto 21, 3) := by decide +kernel
theorem dX7_judge_152 : decode cX7_judge 152 = .ok (.aload_n 0, 1) := by decide +kernel
theorem dX7_judge_153 : decode cX7_judge 153 = .ok (.getfield 24, 3) := by decide +kernel
theorem dX7_judge_156 : decode cX7_judge 156 = .ok (.iload 4, 2) := by decide +kernel
theorem dX7_judge_158 : decode cX7_judge 158 = .ok (.aload_n 0, 1) := by decide +kernel
theorem dX7_judge_159 : decode cX7_judge 159 = .ok (.aload_n 1, 1) := by decide +kernel
theorem dX7_judge_160 : decode cX7_judge 160 = .ok (.aload_n 2, 1) := by decide +kernel
theorem dX7_judge_161 : decode cX7_judge 161 = .ok (.iload 5, 2) := by decide +kernel
theorem dX7_judge_163 : decode cX7_judge 163 = .ok (.invokevirtual 128, 3) := by decide +kernel
theorem dX7_judge_166 : decode cX7_judge 166 = .ok (.iastore, 1) := by decide +kernel
theorem dX7_judge_167 : decode cX7_judge 167 = .ok (.iinc 4 1, 3) := by decide +kernel
theorem dX7_judge_170 : decode cX7_judge 170 = .ok (.iinc 5 1, 3) := by decide +kernel
theorem dX7_judge_173 : decode cX7_judge 173 = .ok (.goto (-158), 3) := by decide +kernel
theorem dX7_judge_176 : decode cX7_judge 176 = .ok (.iload 4, 2) := by decide +kernel
theorem dX7_judge_178 : decode cX7_judge 178 = .ok (.ifCond .le 12, 3) := by decide +kernel
theorem dX7_judge_181 : decode cX7_judge 181 = .ok (.aload_n 0, 1) := by decide +kernel
theorem dX7_judge_182 : decode cX7_judge 182 = .ok (.getfield 24, 3) := by decide +kernel
theorem dX7_judge_185 : decode cX7_judge 185 = .ok (.iconst 0, 1) := by decide +kernel
theorem dX7_judge_186 : decode cX7_judge 186 = .ok (.iaload, 1) := by decide +kernel
theorem dX7_judge_187 : decode cX7_judge 187 = .ok (.goto 4, 3) := by decide +kernel
theorem dX7_judge_190 : decode cX7_judge 190 = .ok (.iconst 0, 1) := by decide +kernel
theorem dX7_judge_191 : decode cX7_judge 191 = .ok (.ireturn, 1) := by decide +kernel
theorem okc_X7_sayOfAll {kn : sKn} {cc : ByteArray} {own : String} {nL : Nat} {D : Nat} {ret : Option FieldType} {ini : Bool} {pc index : Nat} (hD : 3 + 1 ≤ D) (hl : Cond.methodLink own index yX7_sayOfAll ∈ wsL_law) (hd : decode cc pc = .ok (.invokevirtual index, 3)) : mOk kn cc own nL wsL_law D ret ini pc (a_callV false (fX7_sayOfAll kn) 8 (3 + 1) (pc + 3)) := ok_callV (mX7_sayOfAll kn) (good_ws ws_good (fun _ h => h) kw988) hD (by decide) hl kw989 kw990 kw644 ⟨by decide +kernel, by decide +kernel, by decide +kernel⟩ rfl hd
def tX7_judge (kn : sKn) : List (Nat × sA) := [(0, a_stk (q_int 1) 1), (1, a_aload 1 2), (2, a_get 7 2 5), (5, a_stk q_ishl 6), (6, a_stk (q_int 1) 7), (7, a_stk q_isub 8), (8, a_istore 3 9), (9, a_stk (q_int 0) 10), (10, a_istore 4 12), (12, a_stk (q_int 0) 13), (13, a_istore 5 15), (15, a_iload 5 17), (17, a_aload 0 18), (18, a_get 8 3 21), (21, a_icmp kn b_ge 3 176 24), (24, a_aload 0 25), (25, a_get 8 0 28), (28, a_iload 5 30), (30, a_iald 31), (31, a_stk (q_int 17) 33), (33, a_icmp kn b_ne 1 66 36), (36, a_iload 4 38), (38, a_if kn b_le 5 66 41), (41, a_aload 0 42), (42, a_get 8 7 45), (45, a_iload 4 47), (47, a_stk (q_int 1) 48), (48, a_stk q_isub 49), (49, a_iload 3 50), (50, a_aload 0 51), (51, a_get 8 7 54), (54, a_iload 4 56), (56, a_stk (q_int 1) 57), (57, a_stk q_isub 58), (58, a_iald 59), (59, a_stk (q_int (-1)) 60), (60, a_stk q_ixor 61), (61, a_stk q_iand 62), (62, a_iast 63), (63, a_goto 170), (66, a_aload 0 67), (67, a_get 8 0 70), (70, a_iload 5 72), (72, a_iald 73), (73, a_stk (q_int 16) 75), (75, a_icmp kn b_ne 1 109 78), (78, a_iload 4 80), (80, a_stk (q_int 1) 81), (81, a_icmp kn b_le 5 109 84), (84, a_iinc 4 (-1) 87), (87, a_aload 0 88), (88, a_get 8 7 91), (91, a_iload 4 93), (93, a_stk (q_int 1) 94), (94, a_stk q_isub 95), (95, a_stk q_dup2 96), (96, a_iald 97), (97, a_aload 0 98), (98, a_get 8 7 101), (101, a_iload 4 103), (103, a_iald 104), (104, a_stk q_iand 105), (105, a_iast 106), (106, a_goto 170), (109, a_aload 0 110), (110, a_get 8 0 113), (113, a_iload 5 115), (115, a_iald 116), (116, a_stk (q_int 15) 118), (118, a_icmp kn b_ne 1 152 121), (121, a_iload 4 123), (123, a_stk (q_int 1) 124), (124, a_icmp kn b_le 5 152 127), (127, a_iinc 4 (-1) 130), (130, a_aload 0 131), (131, a_get 8 7 134), (134, a_iload 4 136), (136, a_stk (q_int 1) 137), (137, a_stk q_isub 138), (138, a_stk q_dup2 139), (139, a_iald 140), (140, a_aload 0 141), (141, a_get 8 7 144), (144, a_iload 4 146), (146, a_iald 147), (147, a_stk q_ior 148), (148, a_iast 149), (149, a_goto 170), (152, a_aload 0 153), (153, a_get 8 7 156), (156, a_iload 4 158), (158, a_aload 0 159), (159, a_aload 1 160), (160, a_aload 2 161), (161, a_iload 5 163), (163, a_callV false (fX7_sayOfAll kn) 8 4 166), (166, a_iast 167), (167, a_iinc 4 1 170), (170, a_iinc 5 1 173), (173, a_goto 15), (176, a_iload 4 178), (178, a_if kn b_le 5 190 181), (181, a_aload 0 182), (182, a_get 8 7 185), (185, a_stk (q_int 0) 186), (186, a_iald 187), (187, a_goto 191), (190, a_stk (q_int 0) 191), (191, a_iret)]
def fX7_judge (kn : sKn) : List Value → sW → Option sR := fW (tX7_judge kn) 6
set_option maxRecDepth 100000 in
set_option maxHeartbeats 4000000 in
theorem mX7_judge (kn : sKn) : mM kn yX7_judge (Cond.code yX7_judge cX7_judge 6 (some .int) :: wsL_law) 4 false (fX7_judge kn) := mM_W (fun n => mM_of (own := RX7) (ini := false) rfl (by decide +kernel) (by decide +kernel) (all_c (ok_stk (s_iconst dX7_judge_0 (by decide))) (all_c (ok_aload_n dX7_judge_1 rfl) (all_c (okg_X6_2 kw983 dX7_judge_2) (all_c (ok_stk (s_ishl dX7_judge_5)) (all_c (ok_stk (s_iconst dX7_judge_6 (by decide))) (all_c (ok_stk (s_isub dX7_judge_7)) (all_c (ok_istore_n dX7_judge_8 rfl (by decide)) (all_c (ok_stk (s_iconst dX7_judge_9 (by decide))) (all_c (ok_istore dX7_judge_10 (by decide)) (all_c (ok_stk (s_iconst dX7_judge_12 (by decide))) (all_c (ok_istore dX7_judge_13 (by decide)) (all_c (ok_iload dX7_judge_15) (all_c (ok_aload_n dX7_judge_17 rfl) (all_c (okg_X7_3 kw624 dX7_judge_18) (all_c (ok_icmp_ge dX7_judge_21 (by decide)) (all_c (ok_aload_n dX7_judge_24 rfl) (all_c (okg_X7_0 kw800 dX7_judge_25) (all_c (ok_iload dX7_judge_28) (all_c (ok_iald dX7_judge_30) (all_c (ok_stk (s_bipush dX7_judge_31 (by decide))) (all_c (ok_icmp_ne dX7_judge_33 (by decide)) (all_c (ok_iload dX7_judge_36) (all_c (ok_if_le dX7_judge_38 (by decide)) (all_c (ok_aload_n dX7_judge_41 rfl) (all_c (okg_X7_7 kw833 dX7_judge_42) (all_c (ok_iload dX7_judge_45) (all_c (ok_stk (s_iconst dX7_judge_47 (by decide))) (all_c (ok_stk (s_isub dX7_judge_48)) (all_c (ok_iload_n dX7_judge_49 rfl) (all_c (ok_aload_n dX7_judge_50 rfl) (all_c (okg_X7_7 kw833 dX7_judge_51) (all_c (ok_iload dX7_judge_54) (all_c (ok_stk (s_iconst dX7_judge_56 (by decide))) (all_c (ok_stk (s_isub dX7_judge_57)) (all_c (ok_iald dX7_judge_58) (all_c (ok_stk (s_iconst dX7_judge_59 (by decide))) (all_c (ok_stk (s_ixor dX7_judge_60)) (all_c (ok_stk (s_iand dX7_judge_61)) (all_c (ok_iast dX7_judge_62) (all_c (ok_goto dX7_judge_63 (by decide)) (all_c (ok_aload_n dX7_judge_66 rfl) (all_c (okg_X7_0 kw800 dX7_judge_67) (all_c (ok_iload dX7_judge_70) (all_c (ok_iald dX7_judge_72) (all_c (ok_stk (s_bipush dX7_judge_73 (by decide))) (all_c (ok_icmp_ne dX7_judge_75 (by decide)) (all_c (ok_iload dX7_judge_78) (all_c (ok_stk (s_iconst dX7_judge_80 (by decide))) (all_c (ok_icmp_le dX7_judge_81 (by decide)) (all_c (ok_iinc dX7_judge_84 (by decide) (by decide)) (all_c (ok_aload_n dX7_judge_87 rfl) (all_c (okg_X7_7 kw833 dX7_judge_88) (all_c (ok_iload dX7_judge_91) (all_c (ok_stk (s_iconst dX7_judge_93 (by decide))) (all_c (ok_stk (s_isub dX7_judge_94)) (all_c (ok_stk (s_dup2 dX7_judge_95)) (all_c (ok_iald dX7_judge_96) (all_c (ok_aload_n dX7_judge_97 rfl) (all_c (okg_X7_7 kw833 dX7_judge_98) (all_c (ok_iload dX7_judge_101) (all_c (ok_iald dX7_judge_103) (all_c (ok_stk (s_iand dX7_judge_104)) (all_c (ok_iast dX7_judge_105) (all_c (ok_goto dX7_judge_106 (by decide)) (all_c (ok_aload_n dX7_judge_109 rfl) (all_c (okg_X7_0 kw800 dX7_judge_110) (all_c (ok_iload dX7_judge_113) (all_c (ok_iald dX7_judge_115) (all_c (ok_stk (s_bipush dX7_judge_116 (by decide))) (all_c (ok_icmp_ne dX7_judge_118 (by decide)) (all_c (ok_iload dX7_judge_121) (all_c (ok_stk (s_iconst dX7_judge_123 (by decide))) (all_c (ok_icmp_le dX7_judge_124 (by decide)) (all_c (ok_iinc dX7_judge_127 (by decide) (by decide)) (all_c (ok_aload_n dX7_judge_130 rfl) (all_c (okg_X7_7 kw833 dX7_judge_131) (all_c (ok_iload dX7_judge_134) (all_c (ok_stk (s_iconst dX7_judge_136 (by decide))) (all_c (ok_stk (s_isub dX7_judge_137)) (all_c (ok_stk (s_dup2 dX7_judge_138)) (all_c (ok_iald dX7_judge_139) (all_c (ok_aload_n dX7_judge_140 rfl) (all_c (okg_X7_7 kw833 dX7_judge_141) (all_c (ok_iload dX7_judge_144) (all_c (ok_iald dX7_judge_146) (all_c (ok_stk (s_ior dX7_judge_147)) (all_c (ok_iast dX7_judge_148) (all_c (ok_goto dX7_judge_149 (by decide)) (all_c (ok_aload_n dX7_judge_152 rfl) (all_c (okg_X7_7 kw833 dX7_judge_153) (all_c (ok_iload dX7_judge_156) (all_c (ok_aload_n dX7_judge_158 rfl) (all_c (ok_aload_n dX7_judge_159 rfl) (all_c (ok_aload_n dX7_judge_160 rfl) (all_c (ok_iload dX7_judge_161) (all_c (okc_X7_sayOfAll (by decide) kw991 dX7_judge_163) (all_c (ok_iast dX7_judge_166) (all_c (ok_iinc dX7_judge_167 (by decide) (by decide)) (all_c (ok_iinc dX7_judge_170 (by decide) (by decide)) (all_c (ok_goto dX7_judge_173 (by decide)) (all_c (ok_iload dX7_judge_176) (all_c (ok_if_le dX7_judge_178 (by decide)) (all_c (ok_aload_n dX7_judge_181 rfl) (all_c (okg_X7_7 kw833 dX7_judge_182) (all_c (ok_stk (s_iconst dX7_judge_185 (by decide))) (all_c (ok_iald dX7_judge_186) (all_c (ok_goto dX7_judge_187 (by decide)) (all_c (ok_stk (s_iconst dX7_judge_190 (by decide))) (all_c (ok_iret dX7_judge_191) all_n))))))))))))))))))))))))))))))))))))))))))))))))))))))))))))))))))))))))))))))))))))))))))))))))))))))))))))) n (fun h => by first | rfl | cases h))
theorem dX11_said_0 : decode cX11_said 0 = .ok (.aload_n 0, 1) := by decide +kernel
theorem dX11_said_1 : decode cX11_said 1 = .ok (.getfield 40, 3) := by decide +kernel
theorem dX11_said_4 : decode cX11_said 4 = .ok (.getfield 389, 3) := by decide +kernel
theorem dX11_said_7 : decode cX11_said 7 = .ok (.ifCond .eq 8, 3) := by decide +kernel
theorem dX11_said_10 : decode cX11_said 10 = .ok (.iload_n 1, 1) := by decide +kernel
theorem dX11_said_11 : decode cX11_said 11 = .ok (.iconst (-1), 1) := by decide +kernel
theorem dX11_said_12 : decode cX11_said 12 = .ok (.if_icmp .ge 5, 3) := by decide +kernel
theorem dX11_said_15 : decode cX11_said 15 = .ok (.iconst (-1), 1) := by decide +kernel
theorem dX11_said_16 : decode cX11_said 16 = .ok (.ireturn, 1) := by decide +kernel
theorem dX11_said_17 : decode cX11_said 17 = .ok (.aload_n 0, 1) := by decide +kernel
theorem dX11_said_18 : decode cX11_said 18 = .ok (.getfield 40, 3) := by decide +kernel
theorem dX11_said_21 : decode cX11_said 21 = .ok (.aload_n 0, 1) := by decide +kernel
theorem dX11_said_22 : decode cX11_said 22 = .ok (.getfield 26, 3) := by decide +kernel
theorem dX11_said_25 : decode cX11_said 25 = .ok (.aload_n 0, 1) := by decide +kernel
theorem dX11_said_26 : decode cX11_said 26 = .ok (.getfield 33, 3) := by decide +kernel
theorem dX11_said_29 : decode cX11_said 29 = .ok (.invokevirtual 392, 3) := by decide +kernel
theorem dX11_said_32 : decode cX11_said 32 = .ok (.istore_n 2, 1) := by decide +kernel
theorem dX11_said_33 : decode cX11_said 33 = .ok (.iload_n 1, 1) := by decide +kernel
theorem dX11_said_34 : decode cX11_said 34 = .ok (.iconst (-1), 1) := by decide +kernel
theorem dX11_said_35 : decode cX11_said 35 = .ok (.if_icmp .ne 8, 3) := by decide +kernel
theorem dX11_said_38 : decode cX11_said 38 = .ok (.iload_n 2, 1) := by decide +kernel
theorem dX11_said_39 : decode cX11_said 39 = .ok (.invokestatic 301, 3) := by decide +kernel
theorem dX11_said_42 : decode cX11_said 42 = .ok (.ireturn, 1) := by decide +kernel
theorem dX11_said_43 : decode cX11_said 43 = .ok (.iconst 0, 1) := by decide +kernel
theorem dX11_said_44 : decode cX11_said 44 = .ok (.istore_n 3, 1) := by decide +kernel
theorem dX11_said_45 : decode cX11_said 45 = .ok (.iconst 0, 1) := by decide +kernel
theorem dX11_said_46 : decode cX11_said 46 = .ok (.istore 4, 2) := by decide +kernel
theorem dX11_said_48 : decode cX11_said 48 = .ok (.iload 4, 2) := by decide +kernel
theorem dX11_said_50 : decode cX11_said 50 = .ok (.aload_n 0, 1) := by decide +kernel
theorem dX11_said_51 : decode cX11_said 51 = .ok (.getfield 26, 3) := by decide +kernel
theorem dX11_said_54 : decode cX11_said 54 = .ok (.getfield 369, 3) := by decide +kernel
theorem dX11_said_57 : decode cX11_said 57 = .ok (.if_icmp .ge 29, 3) := by decide +kernel
theorem dX11_said_60 : decode cX11_said 60 = .ok (.iload_n 2, 1) := by decide +kernel
theorem dX11_said_61 : decode cX11_said 61 = .ok (.iload 4, 2) := by decide +kernel
theorem dX11_said_63 : decode cX11_said 63 = .ok (.ishr, 1) := by decide +kernel
theorem dX11_said_64 : decode cX11_said 64 = .ok (.iconst 1, 1) := by decide +kernel
theorem dX11_said_65 : decode cX11_said 65 = .ok (.iand, 1) := by decide +kernel
theorem dX11_said_66 : decode cX11_said 66 = .ok (.ifCond .eq 14, 3) := by decide +kernel
theorem dX11_said_69 : decode cX11_said 69 = .ok (.iload_n 3, 1) := by decide +kernel
theorem dX11_said_70 : decode cX11_said 70 = .ok (.iload_n 1, 1) := by decide +kernel
theorem dX11_said_71 : decode cX11_said 71 = .ok (.if_icmp .ne 6, 3) := by decide +kernel
theorem dX11_said_74 : decode cX11_said 74 = .ok (.iload 4, 2) := by decide +kernel
theorem dX11_said_76 : decode cX11_said 76 = .ok (.ireturn, 1) := by decide +kernel
theorem dX11_said_77 : decode cX11_said 77 = .ok (.iinc 3 1, 3) := by decide +kernel
theorem dX11_said_80 : decode cX11_said 80 = .ok (.iinc 4 1, 3) := by decide +kernel
theorem dX11_said_83 : decode cX11_said 83 = .ok (.goto (-35), 3) := by decide +kernel
theorem dX11_said_86 : decode cX11_said 86 = .ok (.iconst (-1), 1) := by decide +kernel
theorem dX11_said_87 : decode cX11_said 87 = .ok (.ireturn, 1) := by decide +kernel
theorem okc_X7_judge {kn : sKn} {cc : ByteArray} {own : String} {nL : Nat} {D : Nat} {ret : Option FieldType} {ini : Bool} {pc index : Nat} (hD : 4 + 1 ≤ D) (hl : Cond.methodLink own index yX7_judge ∈ wsL_law) (hd : decode cc pc = .ok (.invokevirtual index, 3)) : mOk kn cc own nL wsL_law D ret ini pc (a_callV false (fX7_judge kn) 8 (2 + 1) (pc + 3)) := ok_callV (mX7_judge kn) (good_ws ws_good (fun _ h => h) kw993) hD (by decide) hl kw994 kw995 kw644 ⟨by decide +kernel, by decide +kernel, by decide +kernel⟩ rfl hd
def tX11_said (kn : sKn) : List (Nat × sA) := [(0, a_aload 0 1), (1, a_get 12 4 4), (4, a_get 8 8 7), (7, a_if kn b_eq 0 15 10), (10, a_iload 1 11), (11, a_stk (q_int (-1)) 12), (12, a_icmp kn b_ge 3 17 15), (15, a_stk (q_int (-1)) 16), (16, a_iret), (17, a_aload 0 18), (18, a_get 12 4 21), (21, a_aload 0 22), (22, a_get 12 2 25), (25, a_aload 0 26), (26, a_get 12 3 29), (29, a_callV false (fX7_judge kn) 8 3 32), (32, a_istore 2 33), (33, a_iload 1 34), (34, a_stk (q_int (-1)) 35), (35, a_icmp kn b_ne 1 43 38), (38, a_iload 2 39), (39, a_callS false (fJ6_bitCount_0f7a4 kn) 1 42), (42, a_iret), (43, a_stk (q_int 0) 44), (44, a_istore 3 45), (45, a_stk (q_int 0) 46), (46, a_istore 4 48), (48, a_iload 4 50), (50, a_aload 0 51), (51, a_get 12 2 54), (54, a_get 7 2 57), (57, a_icmp kn b_ge 3 86 60), (60, a_iload 2 61), (61, a_iload 4 63), (63, a_stk q_ishr 64), (64, a_stk (q_int 1) 65), (65, a_stk q_iand 66), (66, a_if kn b_eq 0 80 69), (69, a_iload 3 70), (70, a_iload 1 71), (71, a_icmp kn b_ne 1 77 74), (74, a_iload 4 76), (76, a_iret), (77, a_iinc 3 1 80), (80, a_iinc 4 1 83), (83, a_goto 48), (86, a_stk (q_int (-1)) 87), (87, a_iret)]
def fX11_said (kn : sKn) : List Value → sW → Option sR := fW (tX11_said kn) 5
set_option maxRecDepth 100000 in
set_option maxHeartbeats 4000000 in
theorem mX11_said (kn : sKn) : mM kn yX11_said (Cond.code yX11_said cX11_said 5 (some .int) :: wsL_law) 5 false (fX11_said kn) := mM_W (fun n => mM_of (own := RX11) (ini := false) rfl (by decide +kernel) (by decide +kernel) (all_c (ok_aload_n dX11_said_0 rfl) (all_c (okg_X11_4 kw642 dX11_said_1) (all_c (okg_X7_8 kw992 dX11_said_4) (all_c (ok_if_eq dX11_said_7 (by decide)) (all_c (ok_iload_n dX11_said_10 rfl) (all_c (ok_stk (s_iconst dX11_said_11 (by decide))) (all_c (ok_icmp_ge dX11_said_12 (by decide)) (all_c (ok_stk (s_iconst dX11_said_15 (by decide))) (all_c (ok_iret dX11_said_16) (all_c (ok_aload_n dX11_said_17 rfl) (all_c (okg_X11_4 kw642 dX11_said_18) (all_c (ok_aload_n dX11_said_21 rfl) (all_c (okg_X11_2 kw291 dX11_said_22) (all_c (ok_aload_n dX11_said_25 rfl) (all_c (okg_X11_3 kw292 dX11_said_26) (all_c (okc_X7_judge (by decide) kw996 dX11_said_29) (all_c (ok_istore_n dX11_said_32 rfl (by decide)) (all_c (ok_iload_n dX11_said_33 rfl) (all_c (ok_stk (s_iconst dX11_said_34 (by decide))) (all_c (ok_icmp_ne dX11_said_35 (by decide)) (all_c (ok_iload_n dX11_said_38 rfl) (all_c (okc_J6_bitCount_0f7a4 (by decide) kw300 dX11_said_39) (all_c (ok_iret dX11_said_42) (all_c (ok_stk (s_iconst dX11_said_43 (by decide))) (all_c (ok_istore_n dX11_said_44 rfl (by decide)) (all_c (ok_stk (s_iconst dX11_said_45 (by decide))) (all_c (ok_istore dX11_said_46 (by decide)) (all_c (ok_iload dX11_said_48) (all_c (ok_aload_n dX11_said_50 rfl) (all_c (okg_X11_2 kw291 dX11_said_51) (all_c (okg_X6_2 kw515 dX11_said_54) (all_c (ok_icmp_ge dX11_said_57 (by decide)) (all_c (ok_iload_n dX11_said_60 rfl) (all_c (ok_iload dX11_said_61) (all_c (ok_stk (s_ishr dX11_said_63)) (all_c (ok_stk (s_iconst dX11_said_64 (by decide))) (all_c (ok_stk (s_iand dX11_said_65)) (all_c (ok_if_eq dX11_said_66 (by decide)) (all_c (ok_iload_n dX11_said_69 rfl) (all_c (ok_iload_n dX11_said_70 rfl) (all_c (ok_icmp_ne dX11_said_71 (by decide)) (all_c (ok_iload dX11_said_74) (all_c (ok_iret dX11_said_76) (all_c (ok_iinc dX11_said_77 (by decide) (by decide)) (all_c (ok_iinc dX11_said_80 (by decide) (by decide)) (all_c (ok_goto dX11_said_83 (by decide)) (all_c (ok_stk (s_iconst dX11_said_86 (by decide))) (all_c (ok_iret dX11_said_87) all_n)))))))))))))))))))))))))))))))))))))))))))))))) n (fun h => by first | rfl | cases h))
theorem dX7_put_0 : decode cX7_put 0 = .ok (.aload_n 0, 1) := by decide +kernel
theorem dX7_put_1 : decode cX7_put 1 = .ok (.getfield 31, 3) := by decide +kernel
theorem dX7_put_4 : decode cX7_put 4 = .ok (.bipush 40, 2) := by decide +kernel
theorem dX7_put_6 : decode cX7_put 6 = .ok (.if_icmp .ge 43, 3) := by decide +kernel
theorem dX7_put_9 : decode cX7_put 9 = .ok (.aload_n 0, 1) := by decide +kernel
theorem dX7_put_10 : decode cX7_put 10 = .ok (.getfield 11, 3) := by decide +kernel
theorem dX7_put_13 : decode cX7_put 13 = .ok (.aload_n 0, 1) := by decide +kernel
theorem dX7_put_14 : decode cX7_put 14 = .ok (.getfield 31, 3) := by decide +kernel
theorem dX7_put_17 : decode cX7_put 17 = .ok (.iload_n 1, 1) := by decide +kernel
theorem dX7_put_18 : decode cX7_put 18 = .ok (.iastore, 1) := by decide +kernel
theorem dX7_put_19 : decode cX7_put 19 = .ok (.aload_n 0, 1) := by decide +kernel
theorem dX7_put_20 : decode cX7_put 20 = .ok (.getfield 15, 3) := by decide +kernel
theorem dX7_put_23 : decode cX7_put 23 = .ok (.aload_n 0, 1) := by decide +kernel
theorem dX7_put_24 : decode cX7_put 24 = .ok (.getfield 31, 3) := by decide +kernel
theorem dX7_put_27 : decode cX7_put 27 = .ok (.iload_n 2, 1) := by decide +kernel
theorem dX7_put_28 : decode cX7_put 28 = .ok (.iastore, 1) := by decide +kernel
theorem dX7_put_29 : decode cX7_put 29 = .ok (.aload_n 0, 1) := by decide +kernel
theorem dX7_put_30 : decode cX7_put 30 = .ok (.getfield 18, 3) := by decide +kernel
theorem dX7_put_33 : decode cX7_put 33 = .ok (.aload_n 0, 1) := by decide +kernel
theorem dX7_put_34 : decode cX7_put 34 = .ok (.getfield 31, 3) := by decide +kernel
theorem dX7_put_37 : decode cX7_put 37 = .ok (.iload_n 3, 1) := by decide +kernel
theorem dX7_put_38 : decode cX7_put 38 = .ok (.iastore, 1) := by decide +kernel
theorem dX7_put_39 : decode cX7_put 39 = .ok (.aload_n 0, 1) := by decide +kernel
theorem dX7_put_40 : decode cX7_put 40 = .ok (.dup, 1) := by decide +kernel
theorem dX7_put_41 : decode cX7_put 41 = .ok (.getfield 31, 3) := by decide +kernel
theorem dX7_put_44 : decode cX7_put 44 = .ok (.iconst 1, 1) := by decide +kernel
theorem dX7_put_45 : decode cX7_put 45 = .ok (.iadd, 1) := by decide +kernel
theorem dX7_put_46 : decode cX7_put 46 = .ok (.putfield 31, 3) := by decide +kernel
theorem dX7_put_49 : decode cX7_put 49 = .ok (.return_, 1) := by decide +kernel
def tX7_put (kn : sKn) : List (Nat × sA) := [(0, a_aload 0 1), (1, a_get 8 3 4), (4, a_stk (q_int 40) 6), (6, a_icmp kn b_ge 3 49 9), (9, a_aload 0 10), (10, a_get 8 0 13), (13, a_aload 0 14), (14, a_get 8 3 17), (17, a_iload 1 18), (18, a_iast 19), (19, a_aload 0 20), (20, a_get 8 1 23), (23, a_aload 0 24), (24, a_get 8 3 27), (27, a_iload 2 28), (28, a_iast 29), (29, a_aload 0 30), (30, a_get 8 2 33), (33, a_aload 0 34), (34, a_get 8 3 37), (37, a_iload 3 38), (38, a_iast 39), (39, a_aload 0 40), (40, a_stk q_dup 41), (41, a_get 8 3 44), (44, a_stk (q_int 1) 45), (45, a_stk q_iadd 46), (46, a_put 8 3 ckI 49), (49, a_vret)]
def fX7_put (kn : sKn) : List Value → sW → Option sR := fW (tX7_put kn) 4
set_option maxRecDepth 100000 in
set_option maxHeartbeats 4000000 in
theorem mX7_put (kn : sKn) : mM kn yX7_put (Cond.code yX7_put cX7_put 4 none :: wsL_law) 1 true (fX7_put kn) := mM_W (fun n => mM_of (own := RX7) (ini := false) rfl (by decide +kernel) (by decide +kernel) (all_c (ok_aload_n dX7_put_0 rfl) (all_c (okg_X7_3 kw624 dX7_put_1) (all_c (ok_stk (s_bipush dX7_put_4 (by decide))) (all_c (ok_icmp_ge dX7_put_6 (by decide)) (all_c (ok_aload_n dX7_put_9 rfl) (all_c (okg_X7_0 kw800 dX7_put_10) (all_c (ok_aload_n dX7_put_13 rfl) (all_c (okg_X7_3 kw624 dX7_put_14) (all_c (ok_iload_n dX7_put_17 rfl) (all_c (ok_iast dX7_put_18) (all_c (ok_aload_n dX7_put_19 rfl) (all_c (okg_X7_1 kw802 dX7_put_20) (all_c (ok_aload_n dX7_put_23 rfl) (all_c (okg_X7_3 kw624 dX7_put_24) (all_c (ok_iload_n dX7_put_27 rfl) (all_c (ok_iast dX7_put_28) (all_c (ok_aload_n dX7_put_29 rfl) (all_c (okg_X7_2 kw803 dX7_put_30) (all_c (ok_aload_n dX7_put_33 rfl) (all_c (okg_X7_3 kw624 dX7_put_34) (all_c (ok_iload_n dX7_put_37 rfl) (all_c (ok_iast dX7_put_38) (all_c (ok_aload_n dX7_put_39 rfl) (all_c (ok_stk (s_dup dX7_put_40)) (all_c (okg_X7_3 kw624 dX7_put_41) (all_c (ok_stk (s_iconst dX7_put_44 (by decide))) (all_c (ok_stk (s_iadd dX7_put_45)) (all_c (okp_X7_3 kw624 dX7_put_46) (all_c (ok_vret dX7_put_49) all_n))))))))))))))))))))))))))))) n (fun h => by first | rfl | cases h))
theorem dX7_settle_0 : decode cX7_settle 0 = .ok (.iconst 0, 1) := by decide +kernel
theorem dX7_settle_1 : decode cX7_settle 1 = .ok (.istore_n 2, 1) := by decide +kernel
theorem dX7_settle_2 : decode cX7_settle 2 = .ok (.iload_n 2, 1) := by decide +kernel
theorem dX7_settle_3 : decode cX7_settle 3 = .ok (.bipush 40, 2) := by decide +kernel
theorem dX7_settle_5 : decode cX7_settle 5 = .ok (.if_icmp .ge 64, 3) := by decide +kernel
theorem dX7_settle_8 : decode cX7_settle 8 = .ok (.aload_n 0, 1) := by decide +kernel
theorem dX7_settle_9 : decode cX7_settle 9 = .ok (.getfield 43, 3) := by decide +kernel
theorem dX7_settle_12 : decode cX7_settle 12 = .ok (.ifCond .le 57, 3) := by decide +kernel
theorem dX7_settle_15 : decode cX7_settle 15 = .ok (.aload_n 0, 1) := by decide +kernel
theorem dX7_settle_16 : decode cX7_settle 16 = .ok (.getfield 21, 3) := by decide +kernel
theorem dX7_settle_19 : decode cX7_settle 19 = .ok (.aload_n 0, 1) := by decide +kernel
theorem dX7_settle_20 : decode cX7_settle 20 = .ok (.getfield 43, 3) := by decide +kernel
theorem dX7_settle_23 : decode cX7_settle 23 = .ok (.iconst 1, 1) := by decide +kernel
theorem dX7_settle_24 : decode cX7_settle 24 = .ok (.isub, 1) := by decide +kernel
theorem dX7_settle_25 : decode cX7_settle 25 = .ok (.iaload, 1) := by decide +kernel
theorem dX7_settle_26 : decode cX7_settle 26 = .ok (.istore_n 3, 1) := by decide +kernel
theorem dX7_settle_27 : decode cX7_settle 27 = .ok (.iload_n 3, 1) := by decide +kernel
theorem dX7_settle_28 : decode cX7_settle 28 = .ok (.bipush 100, 2) := by decide +kernel
theorem dX7_settle_30 : decode cX7_settle 30 = .ok (.if_icmp .eq 15, 3) := by decide +kernel
theorem dX7_settle_33 : decode cX7_settle 33 = .ok (.iload_n 1, 1) := by decide +kernel
theorem dX7_settle_34 : decode cX7_settle 34 = .ok (.bipush 16, 2) := by decide +kernel
theorem dX7_settle_36 : decode cX7_settle 36 = .ok (.if_icmp .ne 10, 3) := by decide +kernel
theorem dX7_settle_39 : decode cX7_settle 39 = .ok (.iload_n 3, 1) := by decide +kernel
theorem dX7_settle_40 : decode cX7_settle 40 = .ok (.bipush 15, 2) := by decide +kernel
theorem dX7_settle_42 : decode cX7_settle 42 = .ok (.if_icmp .ne 4, 3) := by decide +kernel
theorem dX7_settle_45 : decode cX7_settle 45 = .ok (.return_, 1) := by decide +kernel
theorem dX7_settle_46 : decode cX7_settle 46 = .ok (.aload_n 0, 1) := by decide +kernel
theorem dX7_settle_47 : decode cX7_settle 47 = .ok (.dup, 1) := by decide +kernel
theorem dX7_settle_48 : decode cX7_settle 48 = .ok (.getfield 43, 3) := by decide +kernel
theorem dX7_settle_51 : decode cX7_settle 51 = .ok (.iconst 1, 1) := by decide +kernel
theorem dX7_settle_52 : decode cX7_settle 52 = .ok (.isub, 1) := by decide +kernel
theorem dX7_settle_53 : decode cX7_settle 53 = .ok (.putfield 43, 3) := by decide +kernel
theorem dX7_settle_56 : decode cX7_settle 56 = .ok (.aload_n 0, 1) := by decide +kernel
theorem dX7_settle_57 : decode cX7_settle 57 = .ok (.iload_n 3, 1) := by decide +kernel
theorem dX7_settle_58 : decode cX7_settle 58 = .ok (.iconst 0, 1) := by decide +kernel
theorem dX7_settle_59 : decode cX7_settle 59 = .ok (.iconst 0, 1) := by decide +kernel
theorem dX7_settle_60 : decode cX7_settle 60 = .ok (.invokevirtual 119, 3) := by decide +kernel
theorem dX7_settle_63 : decode cX7_settle 63 = .ok (.iinc 2 1, 3) := by decide +kernel
theorem dX7_settle_66 : decode cX7_settle 66 = .ok (.goto (-64), 3) := by decide +kernel
theorem dX7_settle_69 : decode cX7_settle 69 = .ok (.return_, 1) := by decide +kernel
theorem okc_X7_put {kn : sKn} {cc : ByteArray} {own : String} {nL : Nat} {D : Nat} {ret : Option FieldType} {ini : Bool} {pc index : Nat} (hD : 1 + 1 ≤ D) (hl : Cond.methodLink own index yX7_put ∈ wsL_law) (hd : decode cc pc = .ok (.invokevirtual index, 3)) : mOk kn cc own nL wsL_law D ret ini pc (a_callV true (fX7_put kn) 8 (3 + 1) (pc + 3)) := ok_callV (mX7_put kn) (good_ws ws_good (fun _ h => h) kw998) hD (by decide) hl kw999 kw1000 kw644 ⟨by decide +kernel, by decide +kernel, by decide +kernel⟩ rfl hd
def tX7_settle (kn : sKn) : List (Nat × sA) := [(0, a_stk (q_int 0) 1), (1, a_istore 2 2), (2, a_iload 2 3), (3, a_stk (q_int 40) 5), (5, a_icmp kn b_ge 3 69 8), (8, a_aload 0 9), (9, a_get 8 5 12), (12, a_if kn b_le 5 69 15), (15, a_aload 0 16), (16, a_get 8 4 19), (19, a_aload 0 20), (20, a_get 8 5 23), (23, a_stk (q_int 1) 24), (24, a_stk q_isub 25), (25, a_iald 26), (26, a_istore 3 27), (27, a_iload 3 28), (28, a_stk (q_int 100) 30), (30, a_icmp kn b_eq 0 45 33), (33, a_iload 1 34), (34, a_stk (q_int 16) 36), (36, a_icmp kn b_ne 1 46 39), (39, a_iload 3 40), (40, a_stk (q_int 15) 42), (42, a_icmp kn b_ne 1 46 45), (45, a_vret), (46, a_aload 0 47), (47, a_stk q_dup 48), (48, a_get 8 5 51), (51, a_stk (q_int 1) 52), (52, a_stk q_isub 53), (53, a_put 8 5 ckI 56), (56, a_aload 0 57), (57, a_iload 3 58), (58, a_stk (q_int 0) 59), (59, a_stk (q_int 0) 60), (60, a_callV true (fX7_put kn) 8 4 63), (63, a_iinc 2 1 66), (66, a_goto 2), (69, a_vret)]
def fX7_settle (kn : sKn) : List Value → sW → Option sR := fW (tX7_settle kn) 4
set_option maxRecDepth 100000 in
set_option maxHeartbeats 4000000 in
theorem mX7_settle (kn : sKn) : mM kn yX7_settle (Cond.code yX7_settle cX7_settle 4 none :: wsL_law) 2 true (fX7_settle kn) := mM_W (fun n => mM_of (own := RX7) (ini := false) rfl (by decide +kernel) (by decide +kernel) (all_c (ok_stk (s_iconst dX7_settle_0 (by decide))) (all_c (ok_istore_n dX7_settle_1 rfl (by decide)) (all_c (ok_iload_n dX7_settle_2 rfl) (all_c (ok_stk (s_bipush dX7_settle_3 (by decide))) (all_c (ok_icmp_ge dX7_settle_5 (by decide)) (all_c (ok_aload_n dX7_settle_8 rfl) (all_c (okg_X7_5 kw997 dX7_settle_9) (all_c (ok_if_le dX7_settle_12 (by decide)) (all_c (ok_aload_n dX7_settle_15 rfl) (all_c (okg_X7_4 kw832 dX7_settle_16) (all_c (ok_aload_n dX7_settle_19 rfl) (all_c (okg_X7_5 kw997 dX7_settle_20) (all_c (ok_stk (s_iconst dX7_settle_23 (by decide))) (all_c (ok_stk (s_isub dX7_settle_24)) (all_c (ok_iald dX7_settle_25) (all_c (ok_istore_n dX7_settle_26 rfl (by decide)) (all_c (ok_iload_n dX7_settle_27 rfl) (all_c (ok_stk (s_bipush dX7_settle_28 (by decide))) (all_c (ok_icmp_eq dX7_settle_30 (by decide)) (all_c (ok_iload_n dX7_settle_33 rfl) (all_c (ok_stk (s_bipush dX7_settle_34 (by decide))) (all_c (ok_icmp_ne dX7_settle_36 (by decide)) (all_c (ok_iload_n dX7_settle_39 rfl) (all_c (ok_stk (s_bipush dX7_settle_40 (by decide))) (all_c (ok_icmp_ne dX7_settle_42 (by decide)) (all_c (ok_vret dX7_settle_45) (all_c (ok_aload_n dX7_settle_46 rfl) (all_c (ok_stk (s_dup dX7_settle_47)) (all_c (okg_X7_5 kw997 dX7_settle_48) (all_c (ok_stk (s_iconst dX7_settle_51 (by decide))) (all_c (ok_stk (s_isub dX7_settle_52)) (all_c (okp_X7_5 kw997 dX7_settle_53) (all_c (ok_aload_n dX7_settle_56 rfl) (all_c (ok_iload_n dX7_settle_57 rfl) (all_c (ok_stk (s_iconst dX7_settle_58 (by decide))) (all_c (ok_stk (s_iconst dX7_settle_59 (by decide))) (all_c (okc_X7_put (by decide) kw1001 dX7_settle_60) (all_c (ok_iinc dX7_settle_63 (by decide) (by decide)) (all_c (ok_goto dX7_settle_66 (by decide)) (all_c (ok_vret dX7_settle_69) all_n)))))))))))))))))))))))))))))))))))))))) n (fun h => by first | rfl | cases h))
theorem dX7_settleNots_0 : decode cX7_settleNots 0 = .ok (.iconst 0, 1) := by decide +kernel
theorem dX7_settleNots_1 : decode cX7_settleNots 1 = .ok (.istore_n 1, 1) := by decide +kernel
theorem dX7_settleNots_2 : decode cX7_settleNots 2 = .ok (.iload_n 1, 1) := by decide +kernel
theorem dX7_settleNots_3 : decode cX7_settleNots 3 = .ok (.bipush 8, 2) := by decide +kernel
theorem dX7_settleNots_5 : decode cX7_settleNots 5 = .ok (.if_icmp .ge 60, 3) := by decide +kernel
theorem dX7_settleNots_8 : decode cX7_settleNots 8 = .ok (.aload_n 0, 1) := by decide +kernel
theorem dX7_settleNots_9 : decode cX7_settleNots 9 = .ok (.getfield 43, 3) := by decide +kernel
theorem dX7_settleNots_12 : decode cX7_settleNots 12 = .ok (.ifCond .le 53, 3) := by decide +kernel
theorem dX7_settleNots_15 : decode cX7_settleNots 15 = .ok (.aload_n 0, 1) := by decide +kernel
theorem dX7_settleNots_16 : decode cX7_settleNots 16 = .ok (.getfield 21, 3) := by decide +kernel
theorem dX7_settleNots_19 : decode cX7_settleNots 19 = .ok (.aload_n 0, 1) := by decide +kernel
theorem dX7_settleNots_20 : decode cX7_settleNots 20 = .ok (.getfield 43, 3) := by decide +kernel
theorem dX7_settleNots_23 : decode cX7_settleNots 23 = .ok (.iconst 1, 1) := by decide +kernel
theorem dX7_settleNots_24 : decode cX7_settleNots 24 = .ok (.isub, 1) := by decide +kernel
theorem dX7_settleNots_25 : decode cX7_settleNots 25 = .ok (.iaload, 1) := by decide +kernel
theorem dX7_settleNots_26 : decode cX7_settleNots 26 = .ok (.bipush 17, 2) := by decide +kernel
theorem dX7_settleNots_28 : decode cX7_settleNots 28 = .ok (.if_icmp .ne 37, 3) := by decide +kernel
theorem dX7_settleNots_31 : decode cX7_settleNots 31 = .ok (.aload_n 0, 1) := by decide +kernel
theorem dX7_settleNots_32 : decode cX7_settleNots 32 = .ok (.dup, 1) := by decide +kernel
theorem dX7_settleNots_33 : decode cX7_settleNots 33 = .ok (.getfield 43, 3) := by decide +kernel
theorem dX7_settleNots_36 : decode cX7_settleNots 36 = .ok (.iconst 1, 1) := by decide +kernel
theorem dX7_settleNots_37 : decode cX7_settleNots 37 = .ok (.isub, 1) := by decide +kernel
theorem dX7_settleNots_38 : decode cX7_settleNots 38 = .ok (.putfield 43, 3) := by decide +kernel
theorem dX7_settleNots_41 : decode cX7_settleNots 41 = .ok (.aload_n 0, 1) := by decide +kernel
theorem dX7_settleNots_42 : decode cX7_settleNots 42 = .ok (.dup, 1) := by decide +kernel
theorem dX7_settleNots_43 : decode cX7_settleNots 43 = .ok (.getfield 46, 3) := by decide +kernel
theorem dX7_settleNots_46 : decode cX7_settleNots 46 = .ok (.iconst 1, 1) := by decide +kernel
theorem dX7_settleNots_47 : decode cX7_settleNots 47 = .ok (.isub, 1) := by decide +kernel
theorem dX7_settleNots_48 : decode cX7_settleNots 48 = .ok (.putfield 46, 3) := by decide +kernel
theorem dX7_settleNots_51 : decode cX7_settleNots 51 = .ok (.aload_n 0, 1) := by decide +kernel
theorem dX7_settleNots_52 : decode cX7_settleNots 52 = .ok (.bipush 17, 2) := by decide +kernel
theorem dX7_settleNots_54 : decode cX7_settleNots 54 = .ok (.iconst 0, 1) := by decide +kernel
theorem dX7_settleNots_55 : decode cX7_settleNots 55 = .ok (.iconst 0, 1) := by decide +kernel
theorem dX7_settleNots_56 : decode cX7_settleNots 56 = .ok (.invokevirtual 119, 3) := by decide +kernel
theorem dX7_settleNots_59 : decode cX7_settleNots 59 = .ok (.iinc 1 1, 3) := by decide +kernel
theorem dX7_settleNots_62 : decode cX7_settleNots 62 = .ok (.goto (-60), 3) := by decide +kernel
theorem dX7_settleNots_65 : decode cX7_settleNots 65 = .ok (.iconst 1, 1) := by decide +kernel
theorem dX7_settleNots_66 : decode cX7_settleNots 66 = .ok (.ireturn, 1) := by decide +kernel
def tX7_settleNots (kn : sKn) : List (Nat × sA) := [(0, a_stk (q_int 0) 1), (1, a_istore 1 2), (2, a_iload 1 3), (3, a_stk (q_int 8) 5), (5, a_icmp kn b_ge 3 65 8), (8, a_aload 0 9), (9, a_get 8 5 12), (12, a_if kn b_le 5 65 15), (15, a_aload 0 16), (16, a_get 8 4 19), (19, a_aload 0 20), (20, a_get 8 5 23), (23, a_stk (q_int 1) 24), (24, a_stk q_isub 25), (25, a_iald 26), (26, a_stk (q_int 17) 28), (28, a_icmp kn b_ne 1 65 31), (31, a_aload 0 32), (32, a_stk q_dup 33), (33, a_get 8 5 36), (36, a_stk (q_int 1) 37), (37, a_stk q_isub 38), (38, a_put 8 5 ckI 41), (41, a_aload 0 42), (42, a_stk q_dup 43), (43, a_get 8 6 46), (46, a_stk (q_int 1) 47), (47, a_stk q_isub 48), (48, a_put 8 6 ckI 51), (51, a_aload 0 52), (52, a_stk (q_int 17) 54), (54, a_stk (q_int 0) 55), (55, a_stk (q_int 0) 56), (56, a_callV true (fX7_put kn) 8 4 59), (59, a_iinc 1 1 62), (62, a_goto 2), (65, a_stk (q_int 1) 66), (66, a_zret)]
def fX7_settleNots (kn : sKn) : List Value → sW → Option sR := fW (tX7_settleNots kn) 2
set_option maxRecDepth 100000 in
set_option maxHeartbeats 4000000 in
theorem mX7_settleNots (kn : sKn) : mM kn yX7_settleNots (Cond.code yX7_settleNots cX7_settleNots 2 (some .boolean) :: wsL_law) 2 false (fX7_settleNots kn) := mM_W (fun n => mM_of (own := RX7) (ini := false) rfl (by decide +kernel) (by decide +kernel) (all_c (ok_stk (s_iconst dX7_settleNots_0 (by decide))) (all_c (ok_istore_n dX7_settleNots_1 rfl (by decide)) (all_c (ok_iload_n dX7_settleNots_2 rfl) (all_c (ok_stk (s_bipush dX7_settleNots_3 (by decide))) (all_c (ok_icmp_ge dX7_settleNots_5 (by decide)) (all_c (ok_aload_n dX7_settleNots_8 rfl) (all_c (okg_X7_5 kw997 dX7_settleNots_9) (all_c (ok_if_le dX7_settleNots_12 (by decide)) (all_c (ok_aload_n dX7_settleNots_15 rfl) (all_c (okg_X7_4 kw832 dX7_settleNots_16) (all_c (ok_aload_n dX7_settleNots_19 rfl) (all_c (okg_X7_5 kw997 dX7_settleNots_20) (all_c (ok_stk (s_iconst dX7_settleNots_23 (by decide))) (all_c (ok_stk (s_isub dX7_settleNots_24)) (all_c (ok_iald dX7_settleNots_25) (all_c (ok_stk (s_bipush dX7_settleNots_26 (by decide))) (all_c (ok_icmp_ne dX7_settleNots_28 (by decide)) (all_c (ok_aload_n dX7_settleNots_31 rfl) (all_c (ok_stk (s_dup dX7_settleNots_32)) (all_c (okg_X7_5 kw997 dX7_settleNots_33) (all_c (ok_stk (s_iconst dX7_settleNots_36 (by decide))) (all_c (ok_stk (s_isub dX7_settleNots_37)) (all_c (okp_X7_5 kw997 dX7_settleNots_38) (all_c (ok_aload_n dX7_settleNots_41 rfl) (all_c (ok_stk (s_dup dX7_settleNots_42)) (all_c (okg_X7_6 kw1002 dX7_settleNots_43) (all_c (ok_stk (s_iconst dX7_settleNots_46 (by decide))) (all_c (ok_stk (s_isub dX7_settleNots_47)) (all_c (okp_X7_6 kw1002 dX7_settleNots_48) (all_c (ok_aload_n dX7_settleNots_51 rfl) (all_c (ok_stk (s_bipush dX7_settleNots_52 (by decide))) (all_c (ok_stk (s_iconst dX7_settleNots_54 (by decide))) (all_c (ok_stk (s_iconst dX7_settleNots_55 (by decide))) (all_c (okc_X7_put (by decide) kw1001 dX7_settleNots_56) (all_c (ok_iinc dX7_settleNots_59 (by decide) (by decide)) (all_c (ok_goto dX7_settleNots_62 (by decide)) (all_c (ok_stk (s_iconst dX7_settleNots_65 (by decide))) (all_c (ok_zret dX7_settleNots_66) all_n)))))))))))))))))))))))))))))))))))))) n (fun h => by first | rfl | cases h))
theorem dX7_closeBrackets_0 : decode cX7_closeBrackets 0 = .ok (.iconst 0, 1) := by decide +kernel
theorem dX7_closeBrackets_1 : decode cX7_closeBrackets 1 = .ok (.istore_n 2, 1) := by decide +kernel
theorem dX7_closeBrackets_2 : decode cX7_closeBrackets 2 = .ok (.iload_n 2, 1) := by decide +kernel
theorem dX7_closeBrackets_3 : decode cX7_closeBrackets 3 = .ok (.bipush 8, 2) := by decide +kernel
theorem dX7_closeBrackets_5 : decode cX7_closeBrackets 5 = .ok (.if_icmp .ge 66, 3) := by decide +kernel
theorem dX7_closeBrackets_8 : decode cX7_closeBrackets 8 = .ok (.aload_n 0, 1) := by decide +kernel
theorem dX7_closeBrackets_9 : decode cX7_closeBrackets 9 = .ok (.getfield 46, 3) := by decide +kernel
theorem dX7_closeBrackets_12 : decode cX7_closeBrackets 12 = .ok (.ifCond .le 59, 3) := by decide +kernel
theorem dX7_closeBrackets_15 : decode cX7_closeBrackets 15 = .ok (.aload_n 1, 1) := by decide +kernel
theorem dX7_closeBrackets_16 : decode cX7_closeBrackets 16 = .ok (.bipush 41, 2) := by decide +kernel
theorem dX7_closeBrackets_18 : decode cX7_closeBrackets 18 = .ok (.invokevirtual 84, 3) := by decide +kernel
theorem dX7_closeBrackets_21 : decode cX7_closeBrackets 21 = .ok (.ifCond .eq 50, 3) := by decide +kernel
theorem dX7_closeBrackets_24 : decode cX7_closeBrackets 24 = .ok (.aload_n 0, 1) := by decide +kernel
theorem dX7_closeBrackets_25 : decode cX7_closeBrackets 25 = .ok (.iconst (-1), 1) := by decide +kernel
theorem dX7_closeBrackets_26 : decode cX7_closeBrackets 26 = .ok (.invokevirtual 71, 3) := by decide +kernel
theorem dX7_closeBrackets_29 : decode cX7_closeBrackets 29 = .ok (.aload_n 0, 1) := by decide +kernel
theorem dX7_closeBrackets_30 : decode cX7_closeBrackets 30 = .ok (.getfield 43, 3) := by decide +kernel
theorem dX7_closeBrackets_33 : decode cX7_closeBrackets 33 = .ok (.ifCond .le 23, 3) := by decide +kernel
theorem dX7_closeBrackets_36 : decode cX7_closeBrackets 36 = .ok (.aload_n 0, 1) := by decide +kernel
theorem dX7_closeBrackets_37 : decode cX7_closeBrackets 37 = .ok (.dup, 1) := by decide +kernel
theorem dX7_closeBrackets_38 : decode cX7_closeBrackets 38 = .ok (.getfield 43, 3) := by decide +kernel
theorem dX7_closeBrackets_41 : decode cX7_closeBrackets 41 = .ok (.iconst 1, 1) := by decide +kernel
theorem dX7_closeBrackets_42 : decode cX7_closeBrackets 42 = .ok (.isub, 1) := by decide +kernel
theorem dX7_closeBrackets_43 : decode cX7_closeBrackets 43 = .ok (.putfield 43, 3) := by decide +kernel
theorem dX7_closeBrackets_46 : decode cX7_closeBrackets 46 = .ok (.aload_n 0, 1) := by decide +kernel
theorem dX7_closeBrackets_47 : decode cX7_closeBrackets 47 = .ok (.dup, 1) := by decide +kernel
theorem dX7_closeBrackets_48 : decode cX7_closeBrackets 48 = .ok (.getfield 46, 3) := by decide +kernel
theorem dX7_closeBrackets_51 : decode cX7_closeBrackets 51 = .ok (.iconst 1, 1) := by decide +kernel
theorem dX7_closeBrackets_52 : decode cX7_closeBrackets 52 = .ok (.isub, 1) := by decide +kernel
theorem dX7_closeBrackets_53 : decode cX7_closeBrackets 53 = .ok (.putfield 46, 3) := by decide +kernel
theorem dX7_closeBrackets_56 : decode cX7_closeBrackets 56 = .ok (.aload_n 0, 1) := by decide +kernel
theorem dX7_closeBrackets_57 : decode cX7_closeBrackets 57 = .ok (.invokevirtual 90, 3) := by decide +kernel
theorem dX7_closeBrackets_60 : decode cX7_closeBrackets 60 = .ok (.pop, 1) := by decide +kernel
theorem dX7_closeBrackets_61 : decode cX7_closeBrackets 61 = .ok (.aload_n 1, 1) := by decide +kernel
theorem dX7_closeBrackets_62 : decode cX7_closeBrackets 62 = .ok (.invokevirtual 96, 3) := by decide +kernel
theorem dX7_closeBrackets_65 : decode cX7_closeBrackets 65 = .ok (.iinc 2 1, 3) := by decide +kernel
theorem dX7_closeBrackets_68 : decode cX7_closeBrackets 68 = .ok (.goto (-66), 3) := by decide +kernel
theorem dX7_closeBrackets_71 : decode cX7_closeBrackets 71 = .ok (.return_, 1) := by decide +kernel
theorem okc_X7_settle {kn : sKn} {cc : ByteArray} {own : String} {nL : Nat} {D : Nat} {ret : Option FieldType} {ini : Bool} {pc index : Nat} (hD : 2 + 1 ≤ D) (hl : Cond.methodLink own index yX7_settle ∈ wsL_law) (hd : decode cc pc = .ok (.invokevirtual index, 3)) : mOk kn cc own nL wsL_law D ret ini pc (a_callV true (fX7_settle kn) 8 (1 + 1) (pc + 3)) := ok_callV (mX7_settle kn) (good_ws ws_good (fun _ h => h) kw1004) hD (by decide) hl kw1005 kw1006 kw644 ⟨by decide +kernel, by decide +kernel, by decide +kernel⟩ rfl hd
theorem okc_X7_settleNots {kn : sKn} {cc : ByteArray} {own : String} {nL : Nat} {D : Nat} {ret : Option FieldType} {ini : Bool} {pc index : Nat} (hD : 2 + 1 ≤ D) (hl : Cond.methodLink own index yX7_settleNots ∈ wsL_law) (hd : decode cc pc = .ok (.invokevirtual index, 3)) : mOk kn cc own nL wsL_law D ret ini pc (a_callV false (fX7_settleNots kn) 8 (0 + 1) (pc + 3)) := ok_callV (mX7_settleNots kn) (good_ws ws_good (fun _ h => h) kw1008) hD (by decide) hl kw1009 kw1010 kw644 ⟨by decide +kernel, by decide +kernel, by decide +kernel⟩ rfl hd
def tX7_closeBrackets (kn : sKn) : List (Nat × sA) := [(0, a_stk (q_int 0) 1), (1, a_istore 2 2), (2, a_iload 2 3), (3, a_stk (q_int 8) 5), (5, a_icmp kn b_ge 3 71 8), (8, a_aload 0 9), (9, a_get 8 6 12), (12, a_if kn b_le 5 71 15), (15, a_aload 1 16), (16, a_stk (q_int 41) 18), (18, a_callV false (fX9_isSignOf kn) 10 2 21), (21, a_if kn b_eq 0 71 24), (24, a_aload 0 25), (25, a_stk (q_int (-1)) 26), (26, a_callV true (fX7_settle kn) 8 2 29), (29, a_aload 0 30), (30, a_get 8 5 33), (33, a_if kn b_le 5 56 36), (36, a_aload 0 37), (37, a_stk q_dup 38), (38, a_get 8 5 41), (41, a_stk (q_int 1) 42), (42, a_stk q_isub 43), (43, a_put 8 5 ckI 46), (46, a_aload 0 47), (47, a_stk q_dup 48), (48, a_get 8 6 51), (51, a_stk (q_int 1) 52), (52, a_stk q_isub 53), (53, a_put 8 6 ckI 56), (56, a_aload 0 57), (57, a_callV false (fX7_settleNots kn) 8 1 60), (60, a_stk q_pop 61), (61, a_aload 1 62), (62, a_callV true (fX9_advance kn) 10 1 65), (65, a_iinc 2 1 68), (68, a_goto 2), (71, a_vret)]
def fX7_closeBrackets (kn : sKn) : List Value → sW → Option sR := fW (tX7_closeBrackets kn) 3
set_option maxRecDepth 100000 in
set_option maxHeartbeats 4000000 in
theorem mX7_closeBrackets (kn : sKn) : mM kn yX7_closeBrackets (Cond.code yX7_closeBrackets cX7_closeBrackets 3 none :: wsL_law) 7 true (fX7_closeBrackets kn) := mM_W (fun n => mM_of (own := RX7) (ini := false) rfl (by decide +kernel) (by decide +kernel) (all_c (ok_stk (s_iconst dX7_closeBrackets_0 (by decide))) (all_c (ok_istore_n dX7_closeBrackets_1 rfl (by decide)) (all_c (ok_iload_n dX7_closeBrackets_2 rfl) (all_c (ok_stk (s_bipush dX7_closeBrackets_3 (by decide))) (all_c (ok_icmp_ge dX7_closeBrackets_5 (by decide)) (all_c (ok_aload_n dX7_closeBrackets_8 rfl) (all_c (okg_X7_6 kw1002 dX7_closeBrackets_9) (all_c (ok_if_le dX7_closeBrackets_12 (by decide)) (all_c (ok_aload_n dX7_closeBrackets_15 rfl) (all_c (ok_stk (s_bipush dX7_closeBrackets_16 (by decide))) (all_c (okc_X9_isSignOf (by decide) kw1003 dX7_closeBrackets_18) (all_c (ok_if_eq dX7_closeBrackets_21 (by decide)) (all_c (ok_aload_n dX7_closeBrackets_24 rfl) (all_c (ok_stk (s_iconst dX7_closeBrackets_25 (by decide))) (all_c (okc_X7_settle (by decide) kw1007 dX7_closeBrackets_26) (all_c (ok_aload_n dX7_closeBrackets_29 rfl) (all_c (okg_X7_5 kw997 dX7_closeBrackets_30) (all_c (ok_if_le dX7_closeBrackets_33 (by decide)) (all_c (ok_aload_n dX7_closeBrackets_36 rfl) (all_c (ok_stk (s_dup dX7_closeBrackets_37)) (all_c (okg_X7_5 kw997 dX7_closeBrackets_38) (all_c (ok_stk (s_iconst dX7_closeBrackets_41 (by decide))) (all_c (ok_stk (s_isub dX7_closeBrackets_42)) (all_c (okp_X7_5 kw997 dX7_closeBrackets_43) (all_c (ok_aload_n dX7_closeBrackets_46 rfl) (all_c (ok_stk (s_dup dX7_closeBrackets_47)) (all_c (okg_X7_6 kw1002 dX7_closeBrackets_48) (all_c (ok_stk (s_iconst dX7_closeBrackets_51 (by decide))) (all_c (ok_stk (s_isub dX7_closeBrackets_52)) (all_c (okp_X7_6 kw1002 dX7_closeBrackets_53) (all_c (ok_aload_n dX7_closeBrackets_56 rfl) (all_c (okc_X7_settleNots (by decide) kw1011 dX7_closeBrackets_57) (all_c (ok_stk (s_pop dX7_closeBrackets_60)) (all_c (ok_aload_n dX7_closeBrackets_61 rfl) (all_c (okc_X9_advance (by decide) kw1012 dX7_closeBrackets_62) (all_c (ok_iinc dX7_closeBrackets_65 (by decide) (by decide)) (all_c (ok_goto dX7_closeBrackets_68 (by decide)) (all_c (ok_vret dX7_closeBrackets_71) all_n)))))))))))))))))))))))))))))))))))))) n (fun h => by first | rfl | cases h))
theorem dX7_delay_0 : decode cX7_delay 0 = .ok (.aload_n 0, 1) := by decide +kernel
theorem dX7_delay_1 : decode cX7_delay 1 = .ok (.getfield 43, 3) := by decide +kernel
theorem dX7_delay_4 : decode cX7_delay 4 = .ok (.bipush 40, 2) := by decide +kernel
theorem dX7_delay_6 : decode cX7_delay 6 = .ok (.if_icmp .ge 23, 3) := by decide +kernel
theorem dX7_delay_9 : decode cX7_delay 9 = .ok (.aload_n 0, 1) := by decide +kernel
theorem dX7_delay_10 : decode cX7_delay 10 = .ok (.getfield 21, 3) := by decide +kernel
theorem dX7_delay_13 : decode cX7_delay 13 = .ok (.aload_n 0, 1) := by decide +kernel
theorem dX7_delay_14 : decode cX7_delay 14 = .ok (.getfield 43, 3) := by decide +kernel
theorem dX7_delay_17 : decode cX7_delay 17 = .ok (.iload_n 1, 1) := by decide +kernel
theorem dX7_delay_18 : decode cX7_delay 18 = .ok (.iastore, 1) := by decide +kernel
theorem dX7_delay_19 : decode cX7_delay 19 = .ok (.aload_n 0, 1) := by decide +kernel
theorem dX7_delay_20 : decode cX7_delay 20 = .ok (.dup, 1) := by decide +kernel
theorem dX7_delay_21 : decode cX7_delay 21 = .ok (.getfield 43, 3) := by decide +kernel
theorem dX7_delay_24 : decode cX7_delay 24 = .ok (.iconst 1, 1) := by decide +kernel
theorem dX7_delay_25 : decode cX7_delay 25 = .ok (.iadd, 1) := by decide +kernel
theorem dX7_delay_26 : decode cX7_delay 26 = .ok (.putfield 43, 3) := by decide +kernel
theorem dX7_delay_29 : decode cX7_delay 29 = .ok (.return_, 1) := by decide +kernel
def tX7_delay (kn : sKn) : List (Nat × sA) := [(0, a_aload 0 1), (1, a_get 8 5 4), (4, a_stk (q_int 40) 6), (6, a_icmp kn b_ge 3 29 9), (9, a_aload 0 10), (10, a_get 8 4 13), (13, a_aload 0 14), (14, a_get 8 5 17), (17, a_iload 1 18), (18, a_iast 19), (19, a_aload 0 20), (20, a_stk q_dup 21), (21, a_get 8 5 24), (24, a_stk (q_int 1) 25), (25, a_stk q_iadd 26), (26, a_put 8 5 ckI 29), (29, a_vret)]
def fX7_delay (kn : sKn) : List Value → sW → Option sR := fW (tX7_delay kn) 2
set_option maxRecDepth 100000 in
set_option maxHeartbeats 4000000 in
theorem mX7_delay (kn : sKn) : mM kn yX7_delay (Cond.code yX7_delay cX7_delay 2 none :: wsL_law) 1 true (fX7_delay kn) := mM_W (fun n => mM_of (own := RX7) (ini := false) rfl (by decide +kernel) (by decide +kernel) (all_c (ok_aload_n dX7_delay_0 rfl) (all_c (okg_X7_5 kw997 dX7_delay_1) (all_c (ok_stk (s_bipush dX7_delay_4 (by decide))) (all_c (ok_icmp_ge dX7_delay_6 (by decide)) (all_c (ok_aload_n dX7_delay_9 rfl) (all_c (okg_X7_4 kw832 dX7_delay_10) (all_c (ok_aload_n dX7_delay_13 rfl) (all_c (okg_X7_5 kw997 dX7_delay_14) (all_c (ok_iload_n dX7_delay_17 rfl) (all_c (ok_iast dX7_delay_18) (all_c (ok_aload_n dX7_delay_19 rfl) (all_c (ok_stk (s_dup dX7_delay_20)) (all_c (okg_X7_5 kw997 dX7_delay_21) (all_c (ok_stk (s_iconst dX7_delay_24 (by decide))) (all_c (ok_stk (s_iadd dX7_delay_25)) (all_c (okp_X7_5 kw997 dX7_delay_26) (all_c (ok_vret dX7_delay_29) all_n))))))))))))))))) n (fun h => by first | rfl | cases h))
theorem dX7_readJoin_0 : decode cX7_readJoin 0 = .ok (.aload_n 1, 1) := by decide +kernel
theorem dX7_readJoin_1 : decode cX7_readJoin 1 = .ok (.bipush 16, 2) := by decide +kernel
theorem dX7_readJoin_3 : decode cX7_readJoin 3 = .ok (.invokevirtual 81, 3) := by decide +kernel
theorem dX7_readJoin_6 : decode cX7_readJoin 6 = .ok (.ifCond .ne 14, 3) := by decide +kernel
theorem dX7_readJoin_9 : decode cX7_readJoin 9 = .ok (.aload_n 1, 1) := by decide +kernel
theorem dX7_readJoin_10 : decode cX7_readJoin 10 = .ok (.bipush 15, 2) := by decide +kernel
theorem dX7_readJoin_12 : decode cX7_readJoin 12 = .ok (.invokevirtual 81, 3) := by decide +kernel
theorem dX7_readJoin_15 : decode cX7_readJoin 15 = .ok (.ifCond .ne 5, 3) := by decide +kernel
theorem dX7_readJoin_18 : decode cX7_readJoin 18 = .ok (.iconst 0, 1) := by decide +kernel
theorem dX7_readJoin_19 : decode cX7_readJoin 19 = .ok (.ireturn, 1) := by decide +kernel
theorem dX7_readJoin_20 : decode cX7_readJoin 20 = .ok (.aload_n 0, 1) := by decide +kernel
theorem dX7_readJoin_21 : decode cX7_readJoin 21 = .ok (.aload_n 1, 1) := by decide +kernel
theorem dX7_readJoin_22 : decode cX7_readJoin 22 = .ok (.getfield 102, 3) := by decide +kernel
theorem dX7_readJoin_25 : decode cX7_readJoin 25 = .ok (.invokevirtual 71, 3) := by decide +kernel
theorem dX7_readJoin_28 : decode cX7_readJoin 28 = .ok (.aload_n 0, 1) := by decide +kernel
theorem dX7_readJoin_29 : decode cX7_readJoin 29 = .ok (.aload_n 1, 1) := by decide +kernel
theorem dX7_readJoin_30 : decode cX7_readJoin 30 = .ok (.getfield 102, 3) := by decide +kernel
theorem dX7_readJoin_33 : decode cX7_readJoin 33 = .ok (.invokevirtual 93, 3) := by decide +kernel
theorem dX7_readJoin_36 : decode cX7_readJoin 36 = .ok (.aload_n 1, 1) := by decide +kernel
theorem dX7_readJoin_37 : decode cX7_readJoin 37 = .ok (.invokevirtual 96, 3) := by decide +kernel
theorem dX7_readJoin_40 : decode cX7_readJoin 40 = .ok (.iconst 1, 1) := by decide +kernel
theorem dX7_readJoin_41 : decode cX7_readJoin 41 = .ok (.ireturn, 1) := by decide +kernel
theorem okc_X7_delay {kn : sKn} {cc : ByteArray} {own : String} {nL : Nat} {D : Nat} {ret : Option FieldType} {ini : Bool} {pc index : Nat} (hD : 1 + 1 ≤ D) (hl : Cond.methodLink own index yX7_delay ∈ wsL_law) (hd : decode cc pc = .ok (.invokevirtual index, 3)) : mOk kn cc own nL wsL_law D ret ini pc (a_callV true (fX7_delay kn) 8 (1 + 1) (pc + 3)) := ok_callV (mX7_delay kn) (good_ws ws_good (fun _ h => h) kw1015) hD (by decide) hl kw1016 kw1017 kw644 ⟨by decide +kernel, by decide +kernel, by decide +kernel⟩ rfl hd
def tX7_readJoin (kn : sKn) : List (Nat × sA) := [(0, a_aload 1 1), (1, a_stk (q_int 16) 3), (3, a_callV false (fX9_isKey kn) 10 2 6), (6, a_if kn b_ne 1 20 9), (9, a_aload 1 10), (10, a_stk (q_int 15) 12), (12, a_callV false (fX9_isKey kn) 10 2 15), (15, a_if kn b_ne 1 20 18), (18, a_stk (q_int 0) 19), (19, a_zret), (20, a_aload 0 21), (21, a_aload 1 22), (22, a_get 10 6 25), (25, a_callV true (fX7_settle kn) 8 2 28), (28, a_aload 0 29), (29, a_aload 1 30), (30, a_get 10 6 33), (33, a_callV true (fX7_delay kn) 8 2 36), (36, a_aload 1 37), (37, a_callV true (fX9_advance kn) 10 1 40), (40, a_stk (q_int 1) 41), (41, a_zret)]
def fX7_readJoin (kn : sKn) : List Value → sW → Option sR := fW (tX7_readJoin kn) 2
set_option maxRecDepth 100000 in
set_option maxHeartbeats 4000000 in
theorem mX7_readJoin (kn : sKn) : mM kn yX7_readJoin (Cond.code yX7_readJoin cX7_readJoin 2 (some .boolean) :: wsL_law) 7 false (fX7_readJoin kn) := mM_W (fun n => mM_of (own := RX7) (ini := false) rfl (by decide +kernel) (by decide +kernel) (all_c (ok_aload_n dX7_readJoin_0 rfl) (all_c (ok_stk (s_bipush dX7_readJoin_1 (by decide))) (all_c (okc_X9_isKey (by decide) kw1013 dX7_readJoin_3) (all_c (ok_if_ne dX7_readJoin_6 (by decide)) (all_c (ok_aload_n dX7_readJoin_9 rfl) (all_c (ok_stk (s_bipush dX7_readJoin_10 (by decide))) (all_c (okc_X9_isKey (by decide) kw1013 dX7_readJoin_12) (all_c (ok_if_ne dX7_readJoin_15 (by decide)) (all_c (ok_stk (s_iconst dX7_readJoin_18 (by decide))) (all_c (ok_zret dX7_readJoin_19) (all_c (ok_aload_n dX7_readJoin_20 rfl) (all_c (ok_aload_n dX7_readJoin_21 rfl) (all_c (okg_X9_6 kw1014 dX7_readJoin_22) (all_c (okc_X7_settle (by decide) kw1007 dX7_readJoin_25) (all_c (ok_aload_n dX7_readJoin_28 rfl) (all_c (ok_aload_n dX7_readJoin_29 rfl) (all_c (okg_X9_6 kw1014 dX7_readJoin_30) (all_c (okc_X7_delay (by decide) kw1018 dX7_readJoin_33) (all_c (ok_aload_n dX7_readJoin_36 rfl) (all_c (okc_X9_advance (by decide) kw1012 dX7_readJoin_37) (all_c (ok_stk (s_iconst dX7_readJoin_40 (by decide))) (all_c (ok_zret dX7_readJoin_41) all_n)))))))))))))))))))))) n (fun h => by first | rfl | cases h))
theorem dX7_beginsOne_0 : decode cX7_beginsOne 0 = .ok (.aload_n 0, 1) := by decide +kernel
theorem dX7_beginsOne_1 : decode cX7_beginsOne 1 = .ok (.getfield 99, 3) := by decide +kernel
theorem dX7_beginsOne_4 : decode cX7_beginsOne 4 = .ok (.iconst 4, 1) := by decide +kernel
theorem dX7_beginsOne_5 : decode cX7_beginsOne 5 = .ok (.if_icmp .ne 27, 3) := by decide +kernel
theorem dX7_beginsOne_8 : decode cX7_beginsOne 8 = .ok (.aload_n 0, 1) := by decide +kernel
theorem dX7_beginsOne_9 : decode cX7_beginsOne 9 = .ok (.getfield 102, 3) := by decide +kernel
theorem dX7_beginsOne_12 : decode cX7_beginsOne 12 = .ok (.bipush 17, 2) := by decide +kernel
theorem dX7_beginsOne_14 : decode cX7_beginsOne 14 = .ok (.if_icmp .lt 16, 3) := by decide +kernel
theorem dX7_beginsOne_17 : decode cX7_beginsOne 17 = .ok (.aload_n 0, 1) := by decide +kernel
theorem dX7_beginsOne_18 : decode cX7_beginsOne 18 = .ok (.getfield 102, 3) := by decide +kernel
theorem dX7_beginsOne_21 : decode cX7_beginsOne 21 = .ok (.bipush 26, 2) := by decide +kernel
theorem dX7_beginsOne_23 : decode cX7_beginsOne 23 = .ok (.if_icmp .gt 7, 3) := by decide +kernel
theorem dX7_beginsOne_26 : decode cX7_beginsOne 26 = .ok (.iconst 1, 1) := by decide +kernel
theorem dX7_beginsOne_27 : decode cX7_beginsOne 27 = .ok (.goto 4, 3) := by decide +kernel
theorem dX7_beginsOne_30 : decode cX7_beginsOne 30 = .ok (.iconst 0, 1) := by decide +kernel
theorem dX7_beginsOne_31 : decode cX7_beginsOne 31 = .ok (.ireturn, 1) := by decide +kernel
theorem dX7_beginsOne_32 : decode cX7_beginsOne 32 = .ok (.aload_n 0, 1) := by decide +kernel
theorem dX7_beginsOne_33 : decode cX7_beginsOne 33 = .ok (.bipush 40, 2) := by decide +kernel
theorem dX7_beginsOne_35 : decode cX7_beginsOne 35 = .ok (.invokevirtual 84, 3) := by decide +kernel
theorem dX7_beginsOne_38 : decode cX7_beginsOne 38 = .ok (.ireturn, 1) := by decide +kernel
def tX7_beginsOne (kn : sKn) : List (Nat × sA) := [(0, a_aload 0 1), (1, a_get 10 4 4), (4, a_stk (q_int 4) 5), (5, a_icmp kn b_ne 1 32 8), (8, a_aload 0 9), (9, a_get 10 6 12), (12, a_stk (q_int 17) 14), (14, a_icmp kn b_lt 2 30 17), (17, a_aload 0 18), (18, a_get 10 6 21), (21, a_stk (q_int 26) 23), (23, a_icmp kn b_gt 4 30 26), (26, a_stk (q_int 1) 27), (27, a_goto 31), (30, a_stk (q_int 0) 31), (31, a_zret), (32, a_aload 0 33), (33, a_stk (q_int 40) 35), (35, a_callV false (fX9_isSignOf kn) 10 2 38), (38, a_zret)]
def fX7_beginsOne (kn : sKn) : List Value → sW → Option sR := fW (tX7_beginsOne kn) 1
set_option maxRecDepth 100000 in
set_option maxHeartbeats 4000000 in
theorem mX7_beginsOne (kn : sKn) : mM kn yX7_beginsOne (Cond.code yX7_beginsOne cX7_beginsOne 1 (some .boolean) :: wsL_law) 2 false (fX7_beginsOne kn) := mM_W (fun n => mM_of (own := RX7) (ini := false) rfl (by decide +kernel) (by decide +kernel) (all_c (ok_aload_n dX7_beginsOne_0 rfl) (all_c (okg_X9_4 kw1019 dX7_beginsOne_1) (all_c (ok_stk (s_iconst dX7_beginsOne_4 (by decide))) (all_c (ok_icmp_ne dX7_beginsOne_5 (by decide)) (all_c (ok_aload_n dX7_beginsOne_8 rfl) (all_c (okg_X9_6 kw1014 dX7_beginsOne_9) (all_c (ok_stk (s_bipush dX7_beginsOne_12 (by decide))) (all_c (ok_icmp_lt dX7_beginsOne_14 (by decide)) (all_c (ok_aload_n dX7_beginsOne_17 rfl) (all_c (okg_X9_6 kw1014 dX7_beginsOne_18) (all_c (ok_stk (s_bipush dX7_beginsOne_21 (by decide))) (all_c (ok_icmp_gt dX7_beginsOne_23 (by decide)) (all_c (ok_stk (s_iconst dX7_beginsOne_26 (by decide))) (all_c (ok_goto dX7_beginsOne_27 (by decide)) (all_c (ok_stk (s_iconst dX7_beginsOne_30 (by decide))) (all_c (ok_zret dX7_beginsOne_31) (all_c (ok_aload_n dX7_beginsOne_32 rfl) (all_c (ok_stk (s_bipush dX7_beginsOne_33 (by decide))) (all_c (okc_X9_isSignOf (by decide) kw1003 dX7_beginsOne_35) (all_c (ok_zret dX7_beginsOne_38) all_n)))))))))))))))))))) n (fun h => by first | rfl | cases h))
theorem dX7_isRelation_0 : decode cX7_isRelation 0 = .ok (.aload_n 0, 1) := by decide +kernel
theorem dX7_isRelation_1 : decode cX7_isRelation 1 = .ok (.bipush 60, 2) := by decide +kernel
theorem dX7_isRelation_3 : decode cX7_isRelation 3 = .ok (.invokevirtual 84, 3) := by decide +kernel
theorem dX7_isRelation_6 : decode cX7_isRelation 6 = .ok (.ifCond .ne 21, 3) := by decide +kernel
theorem dX7_isRelation_9 : decode cX7_isRelation 9 = .ok (.aload_n 0, 1) := by decide +kernel
theorem dX7_isRelation_10 : decode cX7_isRelation 10 = .ok (.bipush 61, 2) := by decide +kernel
theorem dX7_isRelation_12 : decode cX7_isRelation 12 = .ok (.invokevirtual 84, 3) := by decide +kernel
theorem dX7_isRelation_15 : decode cX7_isRelation 15 = .ok (.ifCond .ne 12, 3) := by decide +kernel
theorem dX7_isRelation_18 : decode cX7_isRelation 18 = .ok (.aload_n 0, 1) := by decide +kernel
theorem dX7_isRelation_19 : decode cX7_isRelation 19 = .ok (.bipush 62, 2) := by decide +kernel
theorem dX7_isRelation_21 : decode cX7_isRelation 21 = .ok (.invokevirtual 84, 3) := by decide +kernel
theorem dX7_isRelation_24 : decode cX7_isRelation 24 = .ok (.ifCond .eq 7, 3) := by decide +kernel
theorem dX7_isRelation_27 : decode cX7_isRelation 27 = .ok (.iconst 1, 1) := by decide +kernel
theorem dX7_isRelation_28 : decode cX7_isRelation 28 = .ok (.goto 4, 3) := by decide +kernel
theorem dX7_isRelation_31 : decode cX7_isRelation 31 = .ok (.iconst 0, 1) := by decide +kernel
theorem dX7_isRelation_32 : decode cX7_isRelation 32 = .ok (.ireturn, 1) := by decide +kernel
def tX7_isRelation (kn : sKn) : List (Nat × sA) := [(0, a_aload 0 1), (1, a_stk (q_int 60) 3), (3, a_callV false (fX9_isSignOf kn) 10 2 6), (6, a_if kn b_ne 1 27 9), (9, a_aload 0 10), (10, a_stk (q_int 61) 12), (12, a_callV false (fX9_isSignOf kn) 10 2 15), (15, a_if kn b_ne 1 27 18), (18, a_aload 0 19), (19, a_stk (q_int 62) 21), (21, a_callV false (fX9_isSignOf kn) 10 2 24), (24, a_if kn b_eq 0 31 27), (27, a_stk (q_int 1) 28), (28, a_goto 32), (31, a_stk (q_int 0) 32), (32, a_zret)]
def fX7_isRelation (kn : sKn) : List Value → sW → Option sR := fW (tX7_isRelation kn) 1
set_option maxRecDepth 100000 in
set_option maxHeartbeats 4000000 in
theorem mX7_isRelation (kn : sKn) : mM kn yX7_isRelation (Cond.code yX7_isRelation cX7_isRelation 1 (some .boolean) :: wsL_law) 2 false (fX7_isRelation kn) := mM_W (fun n => mM_of (own := RX7) (ini := false) rfl (by decide +kernel) (by decide +kernel) (all_c (ok_aload_n dX7_isRelation_0 rfl) (all_c (ok_stk (s_bipush dX7_isRelation_1 (by decide))) (all_c (okc_X9_isSignOf (by decide) kw1003 dX7_isRelation_3) (all_c (ok_if_ne dX7_isRelation_6 (by decide)) (all_c (ok_aload_n dX7_isRelation_9 rfl) (all_c (ok_stk (s_bipush dX7_isRelation_10 (by decide))) (all_c (okc_X9_isSignOf (by decide) kw1003 dX7_isRelation_12) (all_c (ok_if_ne dX7_isRelation_15 (by decide)) (all_c (ok_aload_n dX7_isRelation_18 rfl) (all_c (ok_stk (s_bipush dX7_isRelation_19 (by decide))) (all_c (okc_X9_isSignOf (by decide) kw1003 dX7_isRelation_21) (all_c (ok_if_eq dX7_isRelation_24 (by decide)) (all_c (ok_stk (s_iconst dX7_isRelation_27 (by decide))) (all_c (ok_goto dX7_isRelation_28 (by decide)) (all_c (ok_stk (s_iconst dX7_isRelation_31 (by decide))) (all_c (ok_zret dX7_isRelation_32) all_n)))))))))))))))) n (fun h => by first | rfl | cases h))
theorem dX7_readSaying_0 : decode cX7_readSaying 0 = .ok (.aload_n 1, 1) := by decide +kernel
theorem dX7_readSaying_1 : decode cX7_readSaying 1 = .ok (.getfield 102, 3) := by decide +kernel
theorem dX7_readSaying_4 : decode cX7_readSaying 4 = .ok (.istore_n 3, 1) := by decide +kernel
theorem dX7_readSaying_5 : decode cX7_readSaying 5 = .ok (.iconst 0, 1) := by decide +kernel
theorem dX7_readSaying_6 : decode cX7_readSaying 6 = .ok (.istore 4, 2) := by decide +kernel
theorem dX7_readSaying_8 : decode cX7_readSaying 8 = .ok (.aload_n 1, 1) := by decide +kernel
theorem dX7_readSaying_9 : decode cX7_readSaying 9 = .ok (.iconst 0, 1) := by decide +kernel
theorem dX7_readSaying_10 : decode cX7_readSaying 10 = .ok (.putfield 105, 3) := by decide +kernel
theorem dX7_readSaying_13 : decode cX7_readSaying 13 = .ok (.aload_n 1, 1) := by decide +kernel
theorem dX7_readSaying_14 : decode cX7_readSaying 14 = .ok (.invokevirtual 96, 3) := by decide +kernel
theorem dX7_readSaying_17 : decode cX7_readSaying 17 = .ok (.iload_n 3, 1) := by decide +kernel
theorem dX7_readSaying_18 : decode cX7_readSaying 18 = .ok (.bipush 20, 2) := by decide +kernel
theorem dX7_readSaying_20 : decode cX7_readSaying 20 = .ok (.if_icmp .eq 9, 3) := by decide +kernel
theorem dX7_readSaying_23 : decode cX7_readSaying 23 = .ok (.iload_n 3, 1) := by decide +kernel
theorem dX7_readSaying_24 : decode cX7_readSaying 24 = .ok (.bipush 21, 2) := by decide +kernel
theorem dX7_readSaying_26 : decode cX7_readSaying 26 = .ok (.if_icmp .ne 13, 3) := by decide +kernel
theorem dX7_readSaying_29 : decode cX7_readSaying 29 = .ok (.aload_n 1, 1) := by decide +kernel
theorem dX7_readSaying_30 : decode cX7_readSaying 30 = .ok (.aload_n 2, 1) := by decide +kernel
theorem dX7_readSaying_31 : decode cX7_readSaying 31 = .ok (.invokevirtual 108, 3) := by decide +kernel
theorem dX7_readSaying_34 : decode cX7_readSaying 34 = .ok (.ifCond .ne 65, 3) := by decide +kernel
theorem dX7_readSaying_37 : decode cX7_readSaying 37 = .ok (.iconst 0, 1) := by decide +kernel
theorem dX7_readSaying_38 : decode cX7_readSaying 38 = .ok (.ireturn, 1) := by decide +kernel
theorem dX7_readSaying_39 : decode cX7_readSaying 39 = .ok (.iload_n 3, 1) := by decide +kernel
theorem dX7_readSaying_40 : decode cX7_readSaying 40 = .ok (.bipush 22, 2) := by decide +kernel
theorem dX7_readSaying_42 : decode cX7_readSaying 42 = .ok (.if_icmp .ne 15, 3) := by decide +kernel
theorem dX7_readSaying_45 : decode cX7_readSaying 45 = .ok (.aload_n 1, 1) := by decide +kernel
theorem dX7_readSaying_46 : decode cX7_readSaying 46 = .ok (.iconst 0, 1) := by decide +kernel
theorem dX7_readSaying_47 : decode cX7_readSaying 47 = .ok (.bipush 11, 2) := by decide +kernel
theorem dX7_readSaying_49 : decode cX7_readSaying 49 = .ok (.invokevirtual 112, 3) := by decide +kernel
theorem dX7_readSaying_52 : decode cX7_readSaying 52 = .ok (.ifCond .ne 47, 3) := by decide +kernel
theorem dX7_readSaying_55 : decode cX7_readSaying 55 = .ok (.iconst 0, 1) := by decide +kernel
theorem dX7_readSaying_56 : decode cX7_readSaying 56 = .ok (.ireturn, 1) := by decide +kernel
theorem dX7_readSaying_57 : decode cX7_readSaying 57 = .ok (.iload_n 3, 1) := by decide +kernel
theorem dX7_readSaying_58 : decode cX7_readSaying 58 = .ok (.bipush 23, 2) := by decide +kernel
theorem dX7_readSaying_60 : decode cX7_readSaying 60 = .ok (.if_icmp .lt 39, 3) := by decide +kernel
theorem dX7_readSaying_63 : decode cX7_readSaying 63 = .ok (.aload_n 1, 1) := by decide +kernel
theorem dX7_readSaying_64 : decode cX7_readSaying 64 = .ok (.getfield 102, 3) := by decide +kernel
theorem dX7_readSaying_67 : decode cX7_readSaying 67 = .ok (.istore 4, 2) := by decide +kernel
theorem dX7_readSaying_69 : decode cX7_readSaying 69 = .ok (.aload_n 1, 1) := by decide +kernel
theorem dX7_readSaying_70 : decode cX7_readSaying 70 = .ok (.invokestatic 116, 3) := by decide +kernel
theorem dX7_readSaying_73 : decode cX7_readSaying 73 = .ok (.ifCond .ne 9, 3) := by decide +kernel
theorem dX7_readSaying_76 : decode cX7_readSaying 76 = .ok (.aload_n 1, 1) := by decide +kernel
theorem dX7_readSaying_77 : decode cX7_readSaying 77 = .ok (.iconst 1, 1) := by decide +kernel
theorem dX7_readSaying_78 : decode cX7_readSaying 78 = .ok (.invokevirtual 67, 3) := by decide +kernel
theorem dX7_readSaying_81 : decode cX7_readSaying 81 = .ok (.ireturn, 1) := by decide +kernel
theorem dX7_readSaying_82 : decode cX7_readSaying 82 = .ok (.aload_n 1, 1) := by decide +kernel
theorem dX7_readSaying_83 : decode cX7_readSaying 83 = .ok (.invokevirtual 96, 3) := by decide +kernel
theorem dX7_readSaying_86 : decode cX7_readSaying 86 = .ok (.aload_n 1, 1) := by decide +kernel
theorem dX7_readSaying_87 : decode cX7_readSaying 87 = .ok (.iconst 0, 1) := by decide +kernel
theorem dX7_readSaying_88 : decode cX7_readSaying 88 = .ok (.sipush 999, 3) := by decide +kernel
theorem dX7_readSaying_91 : decode cX7_readSaying 91 = .ok (.invokevirtual 112, 3) := by decide +kernel
theorem dX7_readSaying_94 : decode cX7_readSaying 94 = .ok (.ifCond .ne 5, 3) := by decide +kernel
theorem dX7_readSaying_97 : decode cX7_readSaying 97 = .ok (.iconst 0, 1) := by decide +kernel
theorem dX7_readSaying_98 : decode cX7_readSaying 98 = .ok (.ireturn, 1) := by decide +kernel
theorem dX7_readSaying_99 : decode cX7_readSaying 99 = .ok (.aload_n 0, 1) := by decide +kernel
theorem dX7_readSaying_100 : decode cX7_readSaying 100 = .ok (.iload_n 3, 1) := by decide +kernel
theorem dX7_readSaying_101 : decode cX7_readSaying 101 = .ok (.iload 4, 2) := by decide +kernel
theorem dX7_readSaying_103 : decode cX7_readSaying 103 = .ok (.aload_n 1, 1) := by decide +kernel
theorem dX7_readSaying_104 : decode cX7_readSaying 104 = .ok (.getfield 105, 3) := by decide +kernel
theorem dX7_readSaying_107 : decode cX7_readSaying 107 = .ok (.invokevirtual 119, 3) := by decide +kernel
theorem dX7_readSaying_110 : decode cX7_readSaying 110 = .ok (.iconst 1, 1) := by decide +kernel
theorem dX7_readSaying_111 : decode cX7_readSaying 111 = .ok (.ireturn, 1) := by decide +kernel
theorem okc_X7_isRelation {kn : sKn} {cc : ByteArray} {own : String} {nL : Nat} {D : Nat} {ret : Option FieldType} {ini : Bool} {pc index : Nat} (hD : 2 + 1 ≤ D) (hl : Cond.methodLink own index yX7_isRelation ∈ wsL_law) (hd : decode cc pc = .ok (.invokestatic index, 3)) : mOk kn cc own nL wsL_law D ret ini pc (a_callS false (fX7_isRelation kn) 1 (pc + 3)) := ok_callS (mX7_isRelation kn) (good_ws ws_good (fun _ h => h) kw1023) hD (by decide) hl kw1024 kw644 ⟨by decide +kernel, by decide +kernel, by decide +kernel⟩ hd
def tX7_readSaying (kn : sKn) : List (Nat × sA) := [(0, a_aload 1 1), (1, a_get 10 6 4), (4, a_istore 3 5), (5, a_stk (q_int 0) 6), (6, a_istore 4 8), (8, a_aload 1 9), (9, a_stk (q_int 0) 10), (10, a_put 10 8 ckI 13), (13, a_aload 1 14), (14, a_callV true (fX9_advance kn) 10 1 17), (17, a_iload 3 18), (18, a_stk (q_int 20) 20), (20, a_icmp kn b_eq 0 29 23), (23, a_iload 3 24), (24, a_stk (q_int 21) 26), (26, a_icmp kn b_ne 1 39 29), (29, a_aload 1 30), (30, a_aload 2 31), (31, a_callV false (fX9_takeSigner kn) 10 2 34), (34, a_if kn b_ne 1 99 37), (37, a_stk (q_int 0) 38), (38, a_zret), (39, a_iload 3 40), (40, a_stk (q_int 22) 42), (42, a_icmp kn b_ne 1 57 45), (45, a_aload 1 46), (46, a_stk (q_int 0) 47), (47, a_stk (q_int 11) 49), (49, a_callV false (fX9_takeNumber kn) 10 3 52), (52, a_if kn b_ne 1 99 55), (55, a_stk (q_int 0) 56), (56, a_zret), (57, a_iload 3 58), (58, a_stk (q_int 23) 60), (60, a_icmp kn b_lt 2 99 63), (63, a_aload 1 64), (64, a_get 10 6 67), (67, a_istore 4 69), (69, a_aload 1 70), (70, a_callS false (fX7_isRelation kn) 1 73), (73, a_if kn b_ne 1 82 76), (76, a_aload 1 77), (77, a_stk (q_int 1) 78), (78, a_callV false (fX9_refuse kn) 10 2 81), (81, a_zret), (82, a_aload 1 83), (83, a_callV true (fX9_advance kn) 10 1 86), (86, a_aload 1 87), (87, a_stk (q_int 0) 88), (88, a_stk (q_int 999) 91), (91, a_callV false (fX9_takeNumber kn) 10 3 94), (94, a_if kn b_ne 1 99 97), (97, a_stk (q_int 0) 98), (98, a_zret), (99, a_aload 0 100), (100, a_iload 3 101), (101, a_iload 4 103), (103, a_aload 1 104), (104, a_get 10 8 107), (107, a_callV true (fX7_put kn) 8 4 110), (110, a_stk (q_int 1) 111), (111, a_zret)]
def fX7_readSaying (kn : sKn) : List Value → sW → Option sR := fW (tX7_readSaying kn) 5
set_option maxRecDepth 100000 in
set_option maxHeartbeats 4000000 in
theorem mX7_readSaying (kn : sKn) : mM kn yX7_readSaying (Cond.code yX7_readSaying cX7_readSaying 5 (some .boolean) :: wsL_law) 8 false (fX7_readSaying kn) := mM_W (fun n => mM_of (own := RX7) (ini := false) rfl (by decide +kernel) (by decide +kernel) (all_c (ok_aload_n dX7_readSaying_0 rfl) (all_c (okg_X9_6 kw1014 dX7_readSaying_1) (all_c (ok_istore_n dX7_readSaying_4 rfl (by decide)) (all_c (ok_stk (s_iconst dX7_readSaying_5 (by decide))) (all_c (ok_istore dX7_readSaying_6 (by decide)) (all_c (ok_aload_n dX7_readSaying_8 rfl) (all_c (ok_stk (s_iconst dX7_readSaying_9 (by decide))) (all_c (okp_X9_8 kw1020 dX7_readSaying_10) (all_c (ok_aload_n dX7_readSaying_13 rfl) (all_c (okc_X9_advance (by decide) kw1012 dX7_readSaying_14) (all_c (ok_iload_n dX7_readSaying_17 rfl) (all_c (ok_stk (s_bipush dX7_readSaying_18 (by decide))) (all_c (ok_icmp_eq dX7_readSaying_20 (by decide)) (all_c (ok_iload_n dX7_readSaying_23 rfl) (all_c (ok_stk (s_bipush dX7_readSaying_24 (by decide))) (all_c (ok_icmp_ne dX7_readSaying_26 (by decide)) (all_c (ok_aload_n dX7_readSaying_29 rfl) (all_c (ok_aload_n dX7_readSaying_30 rfl) (all_c (okc_X9_takeSigner (by decide) kw1021 dX7_readSaying_31) (all_c (ok_if_ne dX7_readSaying_34 (by decide)) (all_c (ok_stk (s_iconst dX7_readSaying_37 (by decide))) (all_c (ok_zret dX7_readSaying_38) (all_c (ok_iload_n dX7_readSaying_39 rfl) (all_c (ok_stk (s_bipush dX7_readSaying_40 (by decide))) (all_c (ok_icmp_ne dX7_readSaying_42 (by decide)) (all_c (ok_aload_n dX7_readSaying_45 rfl) (all_c (ok_stk (s_iconst dX7_readSaying_46 (by decide))) (all_c (ok_stk (s_bipush dX7_readSaying_47 (by decide))) (all_c (okc_X9_takeNumber (by decide) kw1022 dX7_readSaying_49) (all_c (ok_if_ne dX7_readSaying_52 (by decide)) (all_c (ok_stk (s_iconst dX7_readSaying_55 (by decide))) (all_c (ok_zret dX7_readSaying_56) (all_c (ok_iload_n dX7_readSaying_57 rfl) (all_c (ok_stk (s_bipush dX7_readSaying_58 (by decide))) (all_c (ok_icmp_lt dX7_readSaying_60 (by decide)) (all_c (ok_aload_n dX7_readSaying_63 rfl) (all_c (okg_X9_6 kw1014 dX7_readSaying_64) (all_c (ok_istore dX7_readSaying_67 (by decide)) (all_c (ok_aload_n dX7_readSaying_69 rfl) (all_c (okc_X7_isRelation (by decide) kw1025 dX7_readSaying_70) (all_c (ok_if_ne dX7_readSaying_73 (by decide)) (all_c (ok_aload_n dX7_readSaying_76 rfl) (all_c (ok_stk (s_iconst dX7_readSaying_77 (by decide))) (all_c (okc_X9_refuse (by decide) kw1026 dX7_readSaying_78) (all_c (ok_zret dX7_readSaying_81) (all_c (ok_aload_n dX7_readSaying_82 rfl) (all_c (okc_X9_advance (by decide) kw1012 dX7_readSaying_83) (all_c (ok_aload_n dX7_readSaying_86 rfl) (all_c (ok_stk (s_iconst dX7_readSaying_87 (by decide))) (all_c (ok_stk (s_sipush dX7_readSaying_88 (by decide))) (all_c (okc_X9_takeNumber (by decide) kw1022 dX7_readSaying_91) (all_c (ok_if_ne dX7_readSaying_94 (by decide)) (all_c (ok_stk (s_iconst dX7_readSaying_97 (by decide))) (all_c (ok_zret dX7_readSaying_98) (all_c (ok_aload_n dX7_readSaying_99 rfl) (all_c (ok_iload_n dX7_readSaying_100 rfl) (all_c (ok_iload dX7_readSaying_101) (all_c (ok_aload_n dX7_readSaying_103 rfl) (all_c (okg_X9_8 kw1020 dX7_readSaying_104) (all_c (okc_X7_put (by decide) kw1001 dX7_readSaying_107) (all_c (ok_stk (s_iconst dX7_readSaying_110 (by decide))) (all_c (ok_zret dX7_readSaying_111) all_n)))))))))))))))))))))))))))))))))))))))))))))))))))))))))))))) n (fun h => by first | rfl | cases h))
theorem dX7_readOne_0 : decode cX7_readOne 0 = .ok (.iconst 0, 1) := by decide +kernel
theorem dX7_readOne_1 : decode cX7_readOne 1 = .ok (.istore_n 3, 1) := by decide +kernel
theorem dX7_readOne_2 : decode cX7_readOne 2 = .ok (.iload_n 3, 1) := by decide +kernel
theorem dX7_readOne_3 : decode cX7_readOne 3 = .ok (.bipush 20, 2) := by decide +kernel
theorem dX7_readOne_5 : decode cX7_readOne 5 = .ok (.if_icmp .gt 130, 3) := by decide +kernel
theorem dX7_readOne_8 : decode cX7_readOne 8 = .ok (.aload_n 1, 1) := by decide +kernel
theorem dX7_readOne_9 : decode cX7_readOne 9 = .ok (.invokestatic 78, 3) := by decide +kernel
theorem dX7_readOne_12 : decode cX7_readOne 12 = .ok (.ifCond .ne 9, 3) := by decide +kernel
theorem dX7_readOne_15 : decode cX7_readOne 15 = .ok (.aload_n 1, 1) := by decide +kernel
theorem dX7_readOne_16 : decode cX7_readOne 16 = .ok (.iconst 1, 1) := by decide +kernel
theorem dX7_readOne_17 : decode cX7_readOne 17 = .ok (.invokevirtual 67, 3) := by decide +kernel
theorem dX7_readOne_20 : decode cX7_readOne 20 = .ok (.ireturn, 1) := by decide +kernel
theorem dX7_readOne_21 : decode cX7_readOne 21 = .ok (.aload_n 0, 1) := by decide +kernel
theorem dX7_readOne_22 : decode cX7_readOne 22 = .ok (.getfield 27, 3) := by decide +kernel
theorem dX7_readOne_25 : decode cX7_readOne 25 = .ok (.bipush 20, 2) := by decide +kernel
theorem dX7_readOne_27 : decode cX7_readOne 27 = .ok (.if_icmp .ge 12, 3) := by decide +kernel
theorem dX7_readOne_30 : decode cX7_readOne 30 = .ok (.aload_n 0, 1) := by decide +kernel
theorem dX7_readOne_31 : decode cX7_readOne 31 = .ok (.getfield 46, 3) := by decide +kernel
theorem dX7_readOne_34 : decode cX7_readOne 34 = .ok (.bipush 8, 2) := by decide +kernel
theorem dX7_readOne_36 : decode cX7_readOne 36 = .ok (.if_icmp .lt 9, 3) := by decide +kernel
theorem dX7_readOne_39 : decode cX7_readOne 39 = .ok (.aload_n 1, 1) := by decide +kernel
theorem dX7_readOne_40 : decode cX7_readOne 40 = .ok (.iconst 4, 1) := by decide +kernel
theorem dX7_readOne_41 : decode cX7_readOne 41 = .ok (.invokevirtual 67, 3) := by decide +kernel
theorem dX7_readOne_44 : decode cX7_readOne 44 = .ok (.ireturn, 1) := by decide +kernel
theorem dX7_readOne_45 : decode cX7_readOne 45 = .ok (.aload_n 0, 1) := by decide +kernel
theorem dX7_readOne_46 : decode cX7_readOne 46 = .ok (.dup, 1) := by decide +kernel
theorem dX7_readOne_47 : decode cX7_readOne 47 = .ok (.getfield 27, 3) := by decide +kernel
theorem dX7_readOne_50 : decode cX7_readOne 50 = .ok (.iconst 1, 1) := by decide +kernel
theorem dX7_readOne_51 : decode cX7_readOne 51 = .ok (.iadd, 1) := by decide +kernel
theorem dX7_readOne_52 : decode cX7_readOne 52 = .ok (.putfield 27, 3) := by decide +kernel
theorem dX7_readOne_55 : decode cX7_readOne 55 = .ok (.aload_n 1, 1) := by decide +kernel
theorem dX7_readOne_56 : decode cX7_readOne 56 = .ok (.bipush 17, 2) := by decide +kernel
theorem dX7_readOne_58 : decode cX7_readOne 58 = .ok (.invokevirtual 81, 3) := by decide +kernel
theorem dX7_readOne_61 : decode cX7_readOne 61 = .ok (.istore 4, 2) := by decide +kernel
theorem dX7_readOne_63 : decode cX7_readOne 63 = .ok (.iload 4, 2) := by decide +kernel
theorem dX7_readOne_65 : decode cX7_readOne 65 = .ok (.ifCond .ne 34, 3) := by decide +kernel
theorem dX7_readOne_68 : decode cX7_readOne 68 = .ok (.aload_n 1, 1) := by decide +kernel
theorem dX7_readOne_69 : decode cX7_readOne 69 = .ok (.bipush 40, 2) := by decide +kernel
theorem dX7_readOne_71 : decode cX7_readOne 71 = .ok (.invokevirtual 84, 3) := by decide +kernel
theorem dX7_readOne_74 : decode cX7_readOne 74 = .ok (.ifCond .ne 25, 3) := by decide +kernel
theorem dX7_readOne_77 : decode cX7_readOne 77 = .ok (.aload_n 0, 1) := by decide +kernel
theorem dX7_readOne_78 : decode cX7_readOne 78 = .ok (.aload_n 1, 1) := by decide +kernel
theorem dX7_readOne_79 : decode cX7_readOne 79 = .ok (.aload_n 2, 1) := by decide +kernel
theorem dX7_readOne_80 : decode cX7_readOne 80 = .ok (.invokevirtual 87, 3) := by decide +kernel
theorem dX7_readOne_83 : decode cX7_readOne 83 = .ok (.ifCond .eq 14, 3) := by decide +kernel
theorem dX7_readOne_86 : decode cX7_readOne 86 = .ok (.aload_n 0, 1) := by decide +kernel
theorem dX7_readOne_87 : decode cX7_readOne 87 = .ok (.invokevirtual 90, 3) := by decide +kernel
theorem dX7_readOne_90 : decode cX7_readOne 90 = .ok (.ifCond .eq 7, 3) := by decide +kernel
theorem dX7_readOne_93 : decode cX7_readOne 93 = .ok (.iconst 1, 1) := by decide +kernel
theorem dX7_readOne_94 : decode cX7_readOne 94 = .ok (.goto 4, 3) := by decide +kernel
theorem dX7_readOne_97 : decode cX7_readOne 97 = .ok (.iconst 0, 1) := by decide +kernel
theorem dX7_readOne_98 : decode cX7_readOne 98 = .ok (.ireturn, 1) := by decide +kernel
theorem dX7_readOne_99 : decode cX7_readOne 99 = .ok (.aload_n 0, 1) := by decide +kernel
theorem dX7_readOne_100 : decode cX7_readOne 100 = .ok (.iload 4, 2) := by decide +kernel
theorem dX7_readOne_102 : decode cX7_readOne 102 = .ok (.ifCond .eq 8, 3) := by decide +kernel
theorem dX7_readOne_105 : decode cX7_readOne 105 = .ok (.bipush 17, 2) := by decide +kernel
theorem dX7_readOne_107 : decode cX7_readOne 107 = .ok (.goto 5, 3) := by decide +kernel
theorem dX7_readOne_110 : decode cX7_readOne 110 = .ok (.bipush 100, 2) := by decide +kernel
theorem dX7_readOne_112 : decode cX7_readOne 112 = .ok (.invokevirtual 93, 3) := by decide +kernel
theorem dX7_readOne_115 : decode cX7_readOne 115 = .ok (.aload_n 0, 1) := by decide +kernel
theorem dX7_readOne_116 : decode cX7_readOne 116 = .ok (.dup, 1) := by decide +kernel
theorem dX7_readOne_117 : decode cX7_readOne 117 = .ok (.getfield 46, 3) := by decide +kernel
theorem dX7_readOne_120 : decode cX7_readOne 120 = .ok (.iconst 1, 1) := by decide +kernel
theorem dX7_readOne_121 : decode cX7_readOne 121 = .ok (.iadd, 1) := by decide +kernel
theorem dX7_readOne_122 : decode cX7_readOne 122 = .ok (.putfield 46, 3) := by decide +kernel
theorem dX7_readOne_125 : decode cX7_readOne 125 = .ok (.aload_n 1, 1) := by decide +kernel
theorem dX7_readOne_126 : decode cX7_readOne 126 = .ok (.invokevirtual 96, 3) := by decide +kernel
theorem dX7_readOne_129 : decode cX7_readOne 129 = .ok (.iinc 3 1, 3) := by decide +kernel
theorem dX7_readOne_132 : decode cX7_readOne 132 = .ok (.goto (-130), 3) := by decide +kernel
theorem dX7_readOne_135 : decode cX7_readOne 135 = .ok (.aload_n 1, 1) := by decide +kernel
theorem dX7_readOne_136 : decode cX7_readOne 136 = .ok (.iconst 4, 1) := by decide +kernel
theorem dX7_readOne_137 : decode cX7_readOne 137 = .ok (.invokevirtual 67, 3) := by decide +kernel
theorem dX7_readOne_140 : decode cX7_readOne 140 = .ok (.ireturn, 1) := by decide +kernel
theorem okc_X7_beginsOne {kn : sKn} {cc : ByteArray} {own : String} {nL : Nat} {D : Nat} {ret : Option FieldType} {ini : Bool} {pc index : Nat} (hD : 2 + 1 ≤ D) (hl : Cond.methodLink own index yX7_beginsOne ∈ wsL_law) (hd : decode cc pc = .ok (.invokestatic index, 3)) : mOk kn cc own nL wsL_law D ret ini pc (a_callS false (fX7_beginsOne kn) 1 (pc + 3)) := ok_callS (mX7_beginsOne kn) (good_ws ws_good (fun _ h => h) kw1027) hD (by decide) hl kw1028 kw644 ⟨by decide +kernel, by decide +kernel, by decide +kernel⟩ hd
theorem okc_X7_readSaying {kn : sKn} {cc : ByteArray} {own : String} {nL : Nat} {D : Nat} {ret : Option FieldType} {ini : Bool} {pc index : Nat} (hD : 8 + 1 ≤ D) (hl : Cond.methodLink own index yX7_readSaying ∈ wsL_law) (hd : decode cc pc = .ok (.invokevirtual index, 3)) : mOk kn cc own nL wsL_law D ret ini pc (a_callV false (fX7_readSaying kn) 8 (2 + 1) (pc + 3)) := ok_callV (mX7_readSaying kn) (good_ws ws_good (fun _ h => h) kw1030) hD (by decide) hl kw1031 kw1032 kw644 ⟨by decide +kernel, by decide +kernel, by decide +kernel⟩ rfl hd
def tX7_readOne (kn : sKn) : List (Nat × sA) := [(0, a_stk (q_int 0) 1), (1, a_istore 3 2), (2, a_iload 3 3), (3, a_stk (q_int 20) 5), (5, a_icmp kn b_gt 4 135 8), (8, a_aload 1 9), (9, a_callS false (fX7_beginsOne kn) 1 12), (12, a_if kn b_ne 1 21 15), (15, a_aload 1 16), (16, a_stk (q_int 1) 17), (17, a_callV false (fX9_refuse kn) 10 2 20), (20, a_zret), (21, a_aload 0 22), (22, a_get 8 8 25), (25, a_stk (q_int 20) 27), (27, a_icmp kn b_ge 3 39 30), (30, a_aload 0 31), (31, a_get 8 6 34), (34, a_stk (q_int 8) 36), (36, a_icmp kn b_lt 2 45 39), (39, a_aload 1 40), (40, a_stk (q_int 4) 41), (41, a_callV false (fX9_refuse kn) 10 2 44), (44, a_zret), (45, a_aload 0 46), (46, a_stk q_dup 47), (47, a_get 8 8 50), (50, a_stk (q_int 1) 51), (51, a_stk q_iadd 52), (52, a_put 8 8 ckI 55), (55, a_aload 1 56), (56, a_stk (q_int 17) 58), (58, a_callV false (fX9_isKey kn) 10 2 61), (61, a_istore 4 63), (63, a_iload 4 65), (65, a_if kn b_ne 1 99 68), (68, a_aload 1 69), (69, a_stk (q_int 40) 71), (71, a_callV false (fX9_isSignOf kn) 10 2 74), (74, a_if kn b_ne 1 99 77), (77, a_aload 0 78), (78, a_aload 1 79), (79, a_aload 2 80), (80, a_callV false (fX7_readSaying kn) 8 3 83), (83, a_if kn b_eq 0 97 86), (86, a_aload 0 87), (87, a_callV false (fX7_settleNots kn) 8 1 90), (90, a_if kn b_eq 0 97 93), (93, a_stk (q_int 1) 94), (94, a_goto 98), (97, a_stk (q_int 0) 98), (98, a_zret), (99, a_aload 0 100), (100, a_iload 4 102), (102, a_if kn b_eq 0 110 105), (105, a_stk (q_int 17) 107), (107, a_goto 112), (110, a_stk (q_int 100) 112), (112, a_callV true (fX7_delay kn) 8 2 115), (115, a_aload 0 116), (116, a_stk q_dup 117), (117, a_get 8 6 120), (120, a_stk (q_int 1) 121), (121, a_stk q_iadd 122), (122, a_put 8 6 ckI 125), (125, a_aload 1 126), (126, a_callV true (fX9_advance kn) 10 1 129), (129, a_iinc 3 1 132), (132, a_goto 2), (135, a_aload 1 136), (136, a_stk (q_int 4) 137), (137, a_callV false (fX9_refuse kn) 10 2 140), (140, a_zret)]
def fX7_readOne (kn : sKn) : List Value → sW → Option sR := fW (tX7_readOne kn) 5
set_option maxRecDepth 100000 in
set_option maxHeartbeats 4000000 in
theorem mX7_readOne (kn : sKn) : mM kn yX7_readOne (Cond.code yX7_readOne cX7_readOne 5 (some .boolean) :: wsL_law) 9 false (fX7_readOne kn) := mM_W (fun n => mM_of (own := RX7) (ini := false) rfl (by decide +kernel) (by decide +kernel) (all_c (ok_stk (s_iconst dX7_readOne_0 (by decide))) (all_c (ok_istore_n dX7_readOne_1 rfl (by decide)) (all_c (ok_iload_n dX7_readOne_2 rfl) (all_c (ok_stk (s_bipush dX7_readOne_3 (by decide))) (all_c (ok_icmp_gt dX7_readOne_5 (by decide)) (all_c (ok_aload_n dX7_readOne_8 rfl) (all_c (okc_X7_beginsOne (by decide) kw1029 dX7_readOne_9) (all_c (ok_if_ne dX7_readOne_12 (by decide)) (all_c (ok_aload_n dX7_readOne_15 rfl) (all_c (ok_stk (s_iconst dX7_readOne_16 (by decide))) (all_c (okc_X9_refuse (by decide) kw1026 dX7_readOne_17) (all_c (ok_zret dX7_readOne_20) (all_c (ok_aload_n dX7_readOne_21 rfl) (all_c (okg_X7_8 kw623 dX7_readOne_22) (all_c (ok_stk (s_bipush dX7_readOne_25 (by decide))) (all_c (ok_icmp_ge dX7_readOne_27 (by decide)) (all_c (ok_aload_n dX7_readOne_30 rfl) (all_c (okg_X7_6 kw1002 dX7_readOne_31) (all_c (ok_stk (s_bipush dX7_readOne_34 (by decide))) (all_c (ok_icmp_lt dX7_readOne_36 (by decide)) (all_c (ok_aload_n dX7_readOne_39 rfl) (all_c (ok_stk (s_iconst dX7_readOne_40 (by decide))) (all_c (okc_X9_refuse (by decide) kw1026 dX7_readOne_41) (all_c (ok_zret dX7_readOne_44) (all_c (ok_aload_n dX7_readOne_45 rfl) (all_c (ok_stk (s_dup dX7_readOne_46)) (all_c (okg_X7_8 kw623 dX7_readOne_47) (all_c (ok_stk (s_iconst dX7_readOne_50 (by decide))) (all_c (ok_stk (s_iadd dX7_readOne_51)) (all_c (okp_X7_8 kw623 dX7_readOne_52) (all_c (ok_aload_n dX7_readOne_55 rfl) (all_c (ok_stk (s_bipush dX7_readOne_56 (by decide))) (all_c (okc_X9_isKey (by decide) kw1013 dX7_readOne_58) (all_c (ok_istore dX7_readOne_61 (by decide)) (all_c (ok_iload dX7_readOne_63) (all_c (ok_if_ne dX7_readOne_65 (by decide)) (all_c (ok_aload_n dX7_readOne_68 rfl) (all_c (ok_stk (s_bipush dX7_readOne_69 (by decide))) (all_c (okc_X9_isSignOf (by decide) kw1003 dX7_readOne_71) (all_c (ok_if_ne dX7_readOne_74 (by decide)) (all_c (ok_aload_n dX7_readOne_77 rfl) (all_c (ok_aload_n dX7_readOne_78 rfl) (all_c (ok_aload_n dX7_readOne_79 rfl) (all_c (okc_X7_readSaying (by decide) kw1033 dX7_readOne_80) (all_c (ok_if_eq dX7_readOne_83 (by decide)) (all_c (ok_aload_n dX7_readOne_86 rfl) (all_c (okc_X7_settleNots (by decide) kw1011 dX7_readOne_87) (all_c (ok_if_eq dX7_readOne_90 (by decide)) (all_c (ok_stk (s_iconst dX7_readOne_93 (by decide))) (all_c (ok_goto dX7_readOne_94 (by decide)) (all_c (ok_stk (s_iconst dX7_readOne_97 (by decide))) (all_c (ok_zret dX7_readOne_98) (all_c (ok_aload_n dX7_readOne_99 rfl) (all_c (ok_iload dX7_readOne_100) (all_c (ok_if_eq dX7_readOne_102 (by decide)) (all_c (ok_stk (s_bipush dX7_readOne_105 (by decide))) (all_c (ok_goto dX7_readOne_107 (by decide)) (all_c (ok_stk (s_bipush dX7_readOne_110 (by decide))) (all_c (okc_X7_delay (by decide) kw1018 dX7_readOne_112) (all_c (ok_aload_n dX7_readOne_115 rfl) (all_c (ok_stk (s_dup dX7_readOne_116)) (all_c (okg_X7_6 kw1002 dX7_readOne_117) (all_c (ok_stk (s_iconst dX7_readOne_120 (by decide))) (all_c (ok_stk (s_iadd dX7_readOne_121)) (all_c (okp_X7_6 kw1002 dX7_readOne_122) (all_c (ok_aload_n dX7_readOne_125 rfl) (all_c (okc_X9_advance (by decide) kw1012 dX7_readOne_126) (all_c (ok_iinc dX7_readOne_129 (by decide) (by decide)) (all_c (ok_goto dX7_readOne_132 (by decide)) (all_c (ok_aload_n dX7_readOne_135 rfl) (all_c (ok_stk (s_iconst dX7_readOne_136 (by decide))) (all_c (okc_X9_refuse (by decide) kw1026 dX7_readOne_137) (all_c (ok_zret dX7_readOne_140) all_n))))))))))))))))))))))))))))))))))))))))))))))))))))))))))))))))))))))))) n (fun h => by first | rfl | cases h))
theorem dX7_read_0 : decode cX7_read 0 = .ok (.aload_n 0, 1) := by decide +kernel
theorem dX7_read_1 : decode cX7_read 1 = .ok (.invokevirtual 40, 3) := by decide +kernel
theorem dX7_read_4 : decode cX7_read 4 = .ok (.aload_n 0, 1) := by decide +kernel
theorem dX7_read_5 : decode cX7_read 5 = .ok (.iconst 0, 1) := by decide +kernel
theorem dX7_read_6 : decode cX7_read 6 = .ok (.putfield 43, 3) := by decide +kernel
theorem dX7_read_9 : decode cX7_read 9 = .ok (.aload_n 0, 1) := by decide +kernel
theorem dX7_read_10 : decode cX7_read 10 = .ok (.iconst 0, 1) := by decide +kernel
theorem dX7_read_11 : decode cX7_read 11 = .ok (.putfield 46, 3) := by decide +kernel
theorem dX7_read_14 : decode cX7_read 14 = .ok (.aload_n 1, 1) := by decide +kernel
theorem dX7_read_15 : decode cX7_read 15 = .ok (.sipush 200, 3) := by decide +kernel
theorem dX7_read_18 : decode cX7_read 18 = .ok (.invokevirtual 49, 3) := by decide +kernel
theorem dX7_read_21 : decode cX7_read 21 = .ok (.iconst 1, 1) := by decide +kernel
theorem dX7_read_22 : decode cX7_read 22 = .ok (.istore_n 3, 1) := by decide +kernel
theorem dX7_read_23 : decode cX7_read 23 = .ok (.iconst 0, 1) := by decide +kernel
theorem dX7_read_24 : decode cX7_read 24 = .ok (.istore 4, 2) := by decide +kernel
theorem dX7_read_26 : decode cX7_read 26 = .ok (.iload 4, 2) := by decide +kernel
theorem dX7_read_28 : decode cX7_read 28 = .ok (.sipush 940, 3) := by decide +kernel
theorem dX7_read_31 : decode cX7_read 31 = .ok (.if_icmp .gt 35, 3) := by decide +kernel
theorem dX7_read_34 : decode cX7_read 34 = .ok (.iload_n 3, 1) := by decide +kernel
theorem dX7_read_35 : decode cX7_read 35 = .ok (.ifCond .eq 31, 3) := by decide +kernel
theorem dX7_read_38 : decode cX7_read 38 = .ok (.aload_n 0, 1) := by decide +kernel
theorem dX7_read_39 : decode cX7_read 39 = .ok (.aload_n 1, 1) := by decide +kernel
theorem dX7_read_40 : decode cX7_read 40 = .ok (.aload_n 2, 1) := by decide +kernel
theorem dX7_read_41 : decode cX7_read 41 = .ok (.invokevirtual 55, 3) := by decide +kernel
theorem dX7_read_44 : decode cX7_read 44 = .ok (.ifCond .ne 5, 3) := by decide +kernel
theorem dX7_read_47 : decode cX7_read 47 = .ok (.iconst 0, 1) := by decide +kernel
theorem dX7_read_48 : decode cX7_read 48 = .ok (.ireturn, 1) := by decide +kernel
theorem dX7_read_49 : decode cX7_read 49 = .ok (.aload_n 0, 1) := by decide +kernel
theorem dX7_read_50 : decode cX7_read 50 = .ok (.aload_n 1, 1) := by decide +kernel
theorem dX7_read_51 : decode cX7_read 51 = .ok (.invokevirtual 59, 3) := by decide +kernel
theorem dX7_read_54 : decode cX7_read 54 = .ok (.aload_n 0, 1) := by decide +kernel
theorem dX7_read_55 : decode cX7_read 55 = .ok (.aload_n 1, 1) := by decide +kernel
theorem dX7_read_56 : decode cX7_read 56 = .ok (.invokevirtual 63, 3) := by decide +kernel
theorem dX7_read_59 : decode cX7_read 59 = .ok (.istore_n 3, 1) := by decide +kernel
theorem dX7_read_60 : decode cX7_read 60 = .ok (.iinc 4 1, 3) := by decide +kernel
theorem dX7_read_63 : decode cX7_read 63 = .ok (.goto (-37), 3) := by decide +kernel
theorem dX7_read_66 : decode cX7_read 66 = .ok (.aload_n 0, 1) := by decide +kernel
theorem dX7_read_67 : decode cX7_read 67 = .ok (.getfield 46, 3) := by decide +kernel
theorem dX7_read_70 : decode cX7_read 70 = .ok (.ifCond .le 9, 3) := by decide +kernel
theorem dX7_read_73 : decode cX7_read 73 = .ok (.aload_n 1, 1) := by decide +kernel
theorem dX7_read_74 : decode cX7_read 74 = .ok (.iconst 1, 1) := by decide +kernel
theorem dX7_read_75 : decode cX7_read 75 = .ok (.invokevirtual 67, 3) := by decide +kernel
theorem dX7_read_78 : decode cX7_read 78 = .ok (.ireturn, 1) := by decide +kernel
theorem dX7_read_79 : decode cX7_read 79 = .ok (.aload_n 0, 1) := by decide +kernel
theorem dX7_read_80 : decode cX7_read 80 = .ok (.iconst (-1), 1) := by decide +kernel
theorem dX7_read_81 : decode cX7_read 81 = .ok (.invokevirtual 71, 3) := by decide +kernel
theorem dX7_read_84 : decode cX7_read 84 = .ok (.aload_n 1, 1) := by decide +kernel
theorem dX7_read_85 : decode cX7_read 85 = .ok (.invokevirtual 74, 3) := by decide +kernel
theorem dX7_read_88 : decode cX7_read 88 = .ok (.ireturn, 1) := by decide +kernel
theorem okc_X7_readOne {kn : sKn} {cc : ByteArray} {own : String} {nL : Nat} {D : Nat} {ret : Option FieldType} {ini : Bool} {pc index : Nat} (hD : 9 + 1 ≤ D) (hl : Cond.methodLink own index yX7_readOne ∈ wsL_law) (hd : decode cc pc = .ok (.invokevirtual index, 3)) : mOk kn cc own nL wsL_law D ret ini pc (a_callV false (fX7_readOne kn) 8 (2 + 1) (pc + 3)) := ok_callV (mX7_readOne kn) (good_ws ws_good (fun _ h => h) kw1036) hD (by decide) hl kw1037 kw1038 kw644 ⟨by decide +kernel, by decide +kernel, by decide +kernel⟩ rfl hd
theorem okc_X7_closeBrackets {kn : sKn} {cc : ByteArray} {own : String} {nL : Nat} {D : Nat} {ret : Option FieldType} {ini : Bool} {pc index : Nat} (hD : 7 + 1 ≤ D) (hl : Cond.methodLink own index yX7_closeBrackets ∈ wsL_law) (hd : decode cc pc = .ok (.invokevirtual index, 3)) : mOk kn cc own nL wsL_law D ret ini pc (a_callV true (fX7_closeBrackets kn) 8 (1 + 1) (pc + 3)) := ok_callV (mX7_closeBrackets kn) (good_ws ws_good (fun _ h => h) kw1040) hD (by decide) hl kw1041 kw1042 kw644 ⟨by decide +kernel, by decide +kernel, by decide +kernel⟩ rfl hd
theorem okc_X7_readJoin {kn : sKn} {cc : ByteArray} {own : String} {nL : Nat} {D : Nat} {ret : Option FieldType} {ini : Bool} {pc index : Nat} (hD : 7 + 1 ≤ D) (hl : Cond.methodLink own index yX7_readJoin ∈ wsL_law) (hd : decode cc pc = .ok (.invokevirtual index, 3)) : mOk kn cc own nL wsL_law D ret ini pc (a_callV false (fX7_readJoin kn) 8 (1 + 1) (pc + 3)) := ok_callV (mX7_readJoin kn) (good_ws ws_good (fun _ h => h) kw1044) hD (by decide) hl kw1045 kw1046 kw644 ⟨by decide +kernel, by decide +kernel, by decide +kernel⟩ rfl hd
def tX7_read (kn : sKn) : List (Nat × sA) := [(0, a_aload 0 1), (1, a_callV true (fX7_forget kn) 8 1 4), (4, a_aload 0 5), (5, a_stk (q_int 0) 6), (6, a_put 8 5 ckI 9), (9, a_aload 0 10), (10, a_stk (q_int 0) 11), (11, a_put 8 6 ckI 14), (14, a_aload 1 15), (15, a_stk (q_int 200) 18), (18, a_callV true (fX9_begin kn) 10 2 21), (21, a_stk (q_int 1) 22), (22, a_istore 3 23), (23, a_stk (q_int 0) 24), (24, a_istore 4 26), (26, a_iload 4 28), (28, a_stk (q_int 940) 31), (31, a_icmp kn b_gt 4 66 34), (34, a_iload 3 35), (35, a_if kn b_eq 0 66 38), (38, a_aload 0 39), (39, a_aload 1 40), (40, a_aload 2 41), (41, a_callV false (fX7_readOne kn) 8 3 44), (44, a_if kn b_ne 1 49 47), (47, a_stk (q_int 0) 48), (48, a_zret), (49, a_aload 0 50), (50, a_aload 1 51), (51, a_callV true (fX7_closeBrackets kn) 8 2 54), (54, a_aload 0 55), (55, a_aload 1 56), (56, a_callV false (fX7_readJoin kn) 8 2 59), (59, a_istore 3 60), (60, a_iinc 4 1 63), (63, a_goto 26), (66, a_aload 0 67), (67, a_get 8 6 70), (70, a_if kn b_le 5 79 73), (73, a_aload 1 74), (74, a_stk (q_int 1) 75), (75, a_callV false (fX9_refuse kn) 10 2 78), (78, a_zret), (79, a_aload 0 80), (80, a_stk (q_int (-1)) 81), (81, a_callV true (fX7_settle kn) 8 2 84), (84, a_aload 1 85), (85, a_callV false (fX9_takeEnd kn) 10 1 88), (88, a_zret)]
def fX7_read (kn : sKn) : List Value → sW → Option sR := fW (tX7_read kn) 5
set_option maxRecDepth 100000 in
set_option maxHeartbeats 4000000 in
theorem mX7_read (kn : sKn) : mM kn yX7_read (Cond.code yX7_read cX7_read 5 (some .boolean) :: wsL_law) 10 false (fX7_read kn) := mM_W (fun n => mM_of (own := RX7) (ini := false) rfl (by decide +kernel) (by decide +kernel) (all_c (ok_aload_n dX7_read_0 rfl) (all_c (okc_X7_forget (by decide) kw1034 dX7_read_1) (all_c (ok_aload_n dX7_read_4 rfl) (all_c (ok_stk (s_iconst dX7_read_5 (by decide))) (all_c (okp_X7_5 kw997 dX7_read_6) (all_c (ok_aload_n dX7_read_9 rfl) (all_c (ok_stk (s_iconst dX7_read_10 (by decide))) (all_c (okp_X7_6 kw1002 dX7_read_11) (all_c (ok_aload_n dX7_read_14 rfl) (all_c (ok_stk (s_sipush dX7_read_15 (by decide))) (all_c (okc_X9_begin (by decide) kw1035 dX7_read_18) (all_c (ok_stk (s_iconst dX7_read_21 (by decide))) (all_c (ok_istore_n dX7_read_22 rfl (by decide)) (all_c (ok_stk (s_iconst dX7_read_23 (by decide))) (all_c (ok_istore dX7_read_24 (by decide)) (all_c (ok_iload dX7_read_26) (all_c (ok_stk (s_sipush dX7_read_28 (by decide))) (all_c (ok_icmp_gt dX7_read_31 (by decide)) (all_c (ok_iload_n dX7_read_34 rfl) (all_c (ok_if_eq dX7_read_35 (by decide)) (all_c (ok_aload_n dX7_read_38 rfl) (all_c (ok_aload_n dX7_read_39 rfl) (all_c (ok_aload_n dX7_read_40 rfl) (all_c (okc_X7_readOne (by decide) kw1039 dX7_read_41) (all_c (ok_if_ne dX7_read_44 (by decide)) (all_c (ok_stk (s_iconst dX7_read_47 (by decide))) (all_c (ok_zret dX7_read_48) (all_c (ok_aload_n dX7_read_49 rfl) (all_c (ok_aload_n dX7_read_50 rfl) (all_c (okc_X7_closeBrackets (by decide) kw1043 dX7_read_51) (all_c (ok_aload_n dX7_read_54 rfl) (all_c (ok_aload_n dX7_read_55 rfl) (all_c (okc_X7_readJoin (by decide) kw1047 dX7_read_56) (all_c (ok_istore_n dX7_read_59 rfl (by decide)) (all_c (ok_iinc dX7_read_60 (by decide) (by decide)) (all_c (ok_goto dX7_read_63 (by decide)) (all_c (ok_aload_n dX7_read_66 rfl) (all_c (okg_X7_6 kw1002 dX7_read_67) (all_c (ok_if_le dX7_read_70 (by decide)) (all_c (ok_aload_n dX7_read_73 rfl) (all_c (ok_stk (s_iconst dX7_read_74 (by decide))) (all_c (okc_X9_refuse (by decide) kw1026 dX7_read_75) (all_c (ok_zret dX7_read_78) (all_c (ok_aload_n dX7_read_79 rfl) (all_c (ok_stk (s_iconst dX7_read_80 (by decide))) (all_c (okc_X7_settle (by decide) kw1007 dX7_read_81) (all_c (ok_aload_n dX7_read_84 rfl) (all_c (okc_X9_takeEnd (by decide) kw1048 dX7_read_85) (all_c (ok_zret dX7_read_88) all_n))))))))))))))))))))))))))))))))))))))))))))))))) n (fun h => by first | rfl | cases h))
theorem dX11_sentence_0 : decode cX11_sentence 0 = .ok (.aload_n 0, 1) := by decide +kernel
theorem dX11_sentence_1 : decode cX11_sentence 1 = .ok (.getfield 44, 3) := by decide +kernel
theorem dX11_sentence_4 : decode cX11_sentence 4 = .ok (.aload_n 0, 1) := by decide +kernel
theorem dX11_sentence_5 : decode cX11_sentence 5 = .ok (.getfield 10, 3) := by decide +kernel
theorem dX11_sentence_8 : decode cX11_sentence 8 = .ok (.aload_n 0, 1) := by decide +kernel
theorem dX11_sentence_9 : decode cX11_sentence 9 = .ok (.getfield 26, 3) := by decide +kernel
theorem dX11_sentence_12 : decode cX11_sentence 12 = .ok (.invokevirtual 388, 3) := by decide +kernel
theorem dX11_sentence_15 : decode cX11_sentence 15 = .ok (.istore_n 1, 1) := by decide +kernel
theorem dX11_sentence_16 : decode cX11_sentence 16 = .ok (.aload_n 0, 1) := by decide +kernel
theorem dX11_sentence_17 : decode cX11_sentence 17 = .ok (.getfield 10, 3) := by decide +kernel
theorem dX11_sentence_20 : decode cX11_sentence 20 = .ok (.iconst 0, 1) := by decide +kernel
theorem dX11_sentence_21 : decode cX11_sentence 21 = .ok (.putfield 115, 3) := by decide +kernel
theorem dX11_sentence_24 : decode cX11_sentence 24 = .ok (.iload_n 1, 1) := by decide +kernel
theorem dX11_sentence_25 : decode cX11_sentence 25 = .ok (.ifCond .ne 13, 3) := by decide +kernel
theorem dX11_sentence_28 : decode cX11_sentence 28 = .ok (.iconst (-1), 1) := by decide +kernel
theorem dX11_sentence_29 : decode cX11_sentence 29 = .ok (.aload_n 0, 1) := by decide +kernel
theorem dX11_sentence_30 : decode cX11_sentence 30 = .ok (.getfield 10, 3) := by decide +kernel
theorem dX11_sentence_33 : decode cX11_sentence 33 = .ok (.getfield 127, 3) := by decide +kernel
theorem dX11_sentence_36 : decode cX11_sentence 36 = .ok (.isub, 1) := by decide +kernel
theorem dX11_sentence_37 : decode cX11_sentence 37 = .ok (.ireturn, 1) := by decide +kernel
theorem dX11_sentence_38 : decode cX11_sentence 38 = .ok (.aload_n 0, 1) := by decide +kernel
theorem dX11_sentence_39 : decode cX11_sentence 39 = .ok (.getfield 40, 3) := by decide +kernel
theorem dX11_sentence_42 : decode cX11_sentence 42 = .ok (.astore_n 2, 1) := by decide +kernel
theorem dX11_sentence_43 : decode cX11_sentence 43 = .ok (.aload_n 0, 1) := by decide +kernel
theorem dX11_sentence_44 : decode cX11_sentence 44 = .ok (.aload_n 0, 1) := by decide +kernel
theorem dX11_sentence_45 : decode cX11_sentence 45 = .ok (.getfield 44, 3) := by decide +kernel
theorem dX11_sentence_48 : decode cX11_sentence 48 = .ok (.putfield 40, 3) := by decide +kernel
theorem dX11_sentence_51 : decode cX11_sentence 51 = .ok (.aload_n 0, 1) := by decide +kernel
theorem dX11_sentence_52 : decode cX11_sentence 52 = .ok (.aload_n 2, 1) := by decide +kernel
theorem dX11_sentence_53 : decode cX11_sentence 53 = .ok (.putfield 44, 3) := by decide +kernel
theorem dX11_sentence_56 : decode cX11_sentence 56 = .ok (.aload_n 0, 1) := by decide +kernel
theorem dX11_sentence_57 : decode cX11_sentence 57 = .ok (.getfield 40, 3) := by decide +kernel
theorem dX11_sentence_60 : decode cX11_sentence 60 = .ok (.getfield 389, 3) := by decide +kernel
theorem dX11_sentence_63 : decode cX11_sentence 63 = .ok (.ireturn, 1) := by decide +kernel
theorem okc_X7_read {kn : sKn} {cc : ByteArray} {own : String} {nL : Nat} {D : Nat} {ret : Option FieldType} {ini : Bool} {pc index : Nat} (hD : 10 + 1 ≤ D) (hl : Cond.methodLink own index yX7_read ∈ wsL_law) (hd : decode cc pc = .ok (.invokevirtual index, 3)) : mOk kn cc own nL wsL_law D ret ini pc (a_callV false (fX7_read kn) 8 (2 + 1) (pc + 3)) := ok_callV (mX7_read kn) (good_ws ws_good (fun _ h => h) kw1049) hD (by decide) hl kw1050 kw1051 kw644 ⟨by decide +kernel, by decide +kernel, by decide +kernel⟩ rfl hd
def tX11_sentence (kn : sKn) : List (Nat × sA) := [(0, a_aload 0 1), (1, a_get 12 5 4), (4, a_aload 0 5), (5, a_get 12 0 8), (8, a_aload 0 9), (9, a_get 12 2 12), (12, a_callV false (fX7_read kn) 8 3 15), (15, a_istore 1 16), (16, a_aload 0 17), (17, a_get 12 0 20), (20, a_stk (q_int 0) 21), (21, a_put 10 1 ckI 24), (24, a_iload 1 25), (25, a_if kn b_ne 1 38 28), (28, a_stk (q_int (-1)) 29), (29, a_aload 0 30), (30, a_get 12 0 33), (33, a_get 10 12 36), (36, a_stk q_isub 37), (37, a_iret), (38, a_aload 0 39), (39, a_get 12 4 42), (42, a_astore 2 43), (43, a_aload 0 44), (44, a_aload 0 45), (45, a_get 12 5 48), (48, a_put 12 4 ckR 51), (51, a_aload 0 52), (52, a_aload 2 53), (53, a_put 12 5 ckR 56), (56, a_aload 0 57), (57, a_get 12 4 60), (60, a_get 8 8 63), (63, a_iret)]
def fX11_sentence (kn : sKn) : List Value → sW → Option sR := fW (tX11_sentence kn) 3
set_option maxRecDepth 100000 in
set_option maxHeartbeats 4000000 in
theorem mX11_sentence (kn : sKn) : mM kn yX11_sentence (Cond.code yX11_sentence cX11_sentence 3 (some .int) :: wsL_law) 11 false (fX11_sentence kn) := mM_W (fun n => mM_of (own := RX11) (ini := false) rfl (by decide +kernel) (by decide +kernel) (all_c (ok_aload_n dX11_sentence_0 rfl) (all_c (okg_X11_5 kw849 dX11_sentence_1) (all_c (ok_aload_n dX11_sentence_4 rfl) (all_c (okg_X11_0 kw496 dX11_sentence_5) (all_c (ok_aload_n dX11_sentence_8 rfl) (all_c (okg_X11_2 kw291 dX11_sentence_9) (all_c (okc_X7_read (by decide) kw1052 dX11_sentence_12) (all_c (ok_istore_n dX11_sentence_15 rfl (by decide)) (all_c (ok_aload_n dX11_sentence_16 rfl) (all_c (okg_X11_0 kw496 dX11_sentence_17) (all_c (ok_stk (s_iconst dX11_sentence_20 (by decide))) (all_c (okp_X9_1 kw501 dX11_sentence_21) (all_c (ok_iload_n dX11_sentence_24 rfl) (all_c (ok_if_ne dX11_sentence_25 (by decide)) (all_c (ok_stk (s_iconst dX11_sentence_28 (by decide))) (all_c (ok_aload_n dX11_sentence_29 rfl) (all_c (okg_X11_0 kw496 dX11_sentence_30) (all_c (okg_X9_12 kw502 dX11_sentence_33) (all_c (ok_stk (s_isub dX11_sentence_36)) (all_c (ok_iret dX11_sentence_37) (all_c (ok_aload_n dX11_sentence_38 rfl) (all_c (okg_X11_4 kw642 dX11_sentence_39) (all_c (ok_astore_n dX11_sentence_42 rfl (by decide)) (all_c (ok_aload_n dX11_sentence_43 rfl) (all_c (ok_aload_n dX11_sentence_44 rfl) (all_c (okg_X11_5 kw849 dX11_sentence_45) (all_c (okp_X11_4 kw642 dX11_sentence_48) (all_c (ok_aload_n dX11_sentence_51 rfl) (all_c (ok_aload_n dX11_sentence_52 rfl) (all_c (okp_X11_5 kw849 dX11_sentence_53) (all_c (ok_aload_n dX11_sentence_56 rfl) (all_c (okg_X11_4 kw642 dX11_sentence_57) (all_c (okg_X7_8 kw992 dX11_sentence_60) (all_c (ok_iret dX11_sentence_63) all_n)))))))))))))))))))))))))))))))))) n (fun h => by first | rfl | cases h))
theorem dX11_sign_0 : decode cX11_sign 0 = .ok (.aload_n 0, 1) := by decide +kernel
theorem dX11_sign_1 : decode cX11_sign 1 = .ok (.iload_n 1, 1) := by decide +kernel
theorem dX11_sign_2 : decode cX11_sign 2 = .ok (.invokevirtual 150, 3) := by decide +kernel
theorem dX11_sign_5 : decode cX11_sign 5 = .ok (.ifCond .eq 12, 3) := by decide +kernel
theorem dX11_sign_8 : decode cX11_sign 8 = .ok (.aload_n 0, 1) := by decide +kernel
theorem dX11_sign_9 : decode cX11_sign 9 = .ok (.iload_n 2, 1) := by decide +kernel
theorem dX11_sign_10 : decode cX11_sign 10 = .ok (.iload_n 3, 1) := by decide +kernel
theorem dX11_sign_11 : decode cX11_sign 11 = .ok (.invokevirtual 181, 3) := by decide +kernel
theorem dX11_sign_14 : decode cX11_sign 14 = .ok (.ifCond .ne 5, 3) := by decide +kernel
theorem dX11_sign_17 : decode cX11_sign 17 = .ok (.iconst (-1), 1) := by decide +kernel
theorem dX11_sign_18 : decode cX11_sign 18 = .ok (.ireturn, 1) := by decide +kernel
theorem dX11_sign_19 : decode cX11_sign 19 = .ok (.aload_n 0, 1) := by decide +kernel
theorem dX11_sign_20 : decode cX11_sign 20 = .ok (.invokevirtual 237, 3) := by decide +kernel
theorem dX11_sign_23 : decode cX11_sign 23 = .ok (.aload_n 0, 1) := by decide +kernel
theorem dX11_sign_24 : decode cX11_sign 24 = .ok (.aload_n 0, 1) := by decide +kernel
theorem dX11_sign_25 : decode cX11_sign 25 = .ok (.getfield 33, 3) := by decide +kernel
theorem dX11_sign_28 : decode cX11_sign 28 = .ok (.iload_n 1, 1) := by decide +kernel
theorem dX11_sign_29 : decode cX11_sign 29 = .ok (.iconst 3, 1) := by decide +kernel
theorem dX11_sign_30 : decode cX11_sign 30 = .ok (.iload_n 2, 1) := by decide +kernel
theorem dX11_sign_31 : decode cX11_sign 31 = .ok (.imul, 1) := by decide +kernel
theorem dX11_sign_32 : decode cX11_sign 32 = .ok (.iload_n 3, 1) := by decide +kernel
theorem dX11_sign_33 : decode cX11_sign 33 = .ok (.iadd, 1) := by decide +kernel
theorem dX11_sign_34 : decode cX11_sign 34 = .ok (.invokevirtual 240, 3) := by decide +kernel
theorem dX11_sign_37 : decode cX11_sign 37 = .ok (.invokevirtual 243, 3) := by decide +kernel
theorem dX11_sign_40 : decode cX11_sign 40 = .ok (.ireturn, 1) := by decide +kernel
def tX11_sign (kn : sKn) : List (Nat × sA) := [(0, a_aload 0 1), (1, a_iload 1 2), (2, a_callV false (fX11_isSigner kn) 12 2 5), (5, a_if kn b_eq 0 17 8), (8, a_aload 0 9), (9, a_iload 2 10), (10, a_iload 3 11), (11, a_callV false (fX11_isPlace kn) 12 3 14), (14, a_if kn b_ne 1 19 17), (17, a_stk (q_int (-1)) 18), (18, a_iret), (19, a_aload 0 20), (20, a_callV true (fX11_rememberState kn) 12 1 23), (23, a_aload 0 24), (24, a_aload 0 25), (25, a_get 12 3 28), (28, a_iload 1 29), (29, a_stk (q_int 3) 30), (30, a_iload 2 31), (31, a_stk q_imul 32), (32, a_iload 3 33), (33, a_stk q_iadd 34), (34, a_callV false (fX8_putPlank kn) 9 3 37), (37, a_callV false (fX11_keepIfDone kn) 12 2 40), (40, a_iret)]
def fX11_sign (kn : sKn) : List Value → sW → Option sR := fW (tX11_sign kn) 4
set_option maxRecDepth 100000 in
set_option maxHeartbeats 4000000 in
theorem mX11_sign (kn : sKn) : mM kn yX11_sign (Cond.code yX11_sign cX11_sign 4 (some .int) :: wsL_law) 3 false (fX11_sign kn) := mM_W (fun n => mM_of (own := RX11) (ini := false) rfl (by decide +kernel) (by decide +kernel) (all_c (ok_aload_n dX11_sign_0 rfl) (all_c (ok_iload_n dX11_sign_1 rfl) (all_c (okc_X11_isSigner (by decide) kw519 dX11_sign_2) (all_c (ok_if_eq dX11_sign_5 (by decide)) (all_c (ok_aload_n dX11_sign_8 rfl) (all_c (ok_iload_n dX11_sign_9 rfl) (all_c (ok_iload_n dX11_sign_10 rfl) (all_c (okc_X11_isPlace (by decide) kw310 dX11_sign_11) (all_c (ok_if_ne dX11_sign_14 (by decide)) (all_c (ok_stk (s_iconst dX11_sign_17 (by decide))) (all_c (ok_iret dX11_sign_18) (all_c (ok_aload_n dX11_sign_19 rfl) (all_c (okc_X11_rememberState (by decide) kw506 dX11_sign_20) (all_c (ok_aload_n dX11_sign_23 rfl) (all_c (ok_aload_n dX11_sign_24 rfl) (all_c (okg_X11_3 kw292 dX11_sign_25) (all_c (ok_iload_n dX11_sign_28 rfl) (all_c (ok_stk (s_iconst dX11_sign_29 (by decide))) (all_c (ok_iload_n dX11_sign_30 rfl) (all_c (ok_stk (s_imul dX11_sign_31)) (all_c (ok_iload_n dX11_sign_32 rfl) (all_c (ok_stk (s_iadd dX11_sign_33)) (all_c (okc_X8_putPlank (by decide) kw1053 dX11_sign_34) (all_c (okc_X11_keepIfDone (by decide) kw524 dX11_sign_37) (all_c (ok_iret dX11_sign_40) all_n))))))))))))))))))))))))) n (fun h => by first | rfl | cases h))
theorem dX11_signer_0 : decode cX11_signer 0 = .ok (.aload_n 0, 1) := by decide +kernel
theorem dX11_signer_1 : decode cX11_signer 1 = .ok (.iload_n 1, 1) := by decide +kernel
theorem dX11_signer_2 : decode cX11_signer 2 = .ok (.invokevirtual 150, 3) := by decide +kernel
theorem dX11_signer_5 : decode cX11_signer 5 = .ok (.ifCond .ne 11, 3) := by decide +kernel
theorem dX11_signer_8 : decode cX11_signer 8 = .ok (.new 154, 3) := by decide +kernel
theorem dX11_signer_11 : decode cX11_signer 11 = .ok (.dup, 1) := by decide +kernel
theorem dX11_signer_12 : decode cX11_signer 12 = .ok (.invokespecial 156, 3) := by decide +kernel
theorem dX11_signer_15 : decode cX11_signer 15 = .ok (.athrow, 1) := by decide +kernel
theorem dX11_signer_16 : decode cX11_signer 16 = .ok (.iload_n 2, 1) := by decide +kernel
theorem dX11_signer_17 : decode cX11_signer 17 = .ok (.tableswitch 136 0 7 #[47, 57, 67, 79, 89, 99, 116, 126], 47) := by decide +kernel
theorem dX11_signer_64 : decode cX11_signer 64 = .ok (.aload_n 0, 1) := by decide +kernel
theorem dX11_signer_65 : decode cX11_signer 65 = .ok (.getfield 33, 3) := by decide +kernel
theorem dX11_signer_68 : decode cX11_signer 68 = .ok (.getfield 157, 3) := by decide +kernel
theorem dX11_signer_71 : decode cX11_signer 71 = .ok (.iload_n 1, 1) := by decide +kernel
theorem dX11_signer_72 : decode cX11_signer 72 = .ok (.iaload, 1) := by decide +kernel
theorem dX11_signer_73 : decode cX11_signer 73 = .ok (.ireturn, 1) := by decide +kernel
theorem dX11_signer_74 : decode cX11_signer 74 = .ok (.aload_n 0, 1) := by decide +kernel
theorem dX11_signer_75 : decode cX11_signer 75 = .ok (.getfield 26, 3) := by decide +kernel
theorem dX11_signer_78 : decode cX11_signer 78 = .ok (.getfield 161, 3) := by decide +kernel
theorem dX11_signer_81 : decode cX11_signer 81 = .ok (.iload_n 1, 1) := by decide +kernel
theorem dX11_signer_82 : decode cX11_signer 82 = .ok (.iaload, 1) := by decide +kernel
theorem dX11_signer_83 : decode cX11_signer 83 = .ok (.ireturn, 1) := by decide +kernel
theorem dX11_signer_84 : decode cX11_signer 84 = .ok (.aload_n 0, 1) := by decide +kernel
theorem dX11_signer_85 : decode cX11_signer 85 = .ok (.getfield 26, 3) := by decide +kernel
theorem dX11_signer_88 : decode cX11_signer 88 = .ok (.getfield 164, 3) := by decide +kernel
theorem dX11_signer_91 : decode cX11_signer 91 = .ok (.iload_n 1, 1) := by decide +kernel
theorem dX11_signer_92 : decode cX11_signer 92 = .ok (.ishr, 1) := by decide +kernel
theorem dX11_signer_93 : decode cX11_signer 93 = .ok (.iconst 1, 1) := by decide +kernel
theorem dX11_signer_94 : decode cX11_signer 94 = .ok (.iand, 1) := by decide +kernel
theorem dX11_signer_95 : decode cX11_signer 95 = .ok (.ireturn, 1) := by decide +kernel
theorem dX11_signer_96 : decode cX11_signer 96 = .ok (.aload_n 0, 1) := by decide +kernel
theorem dX11_signer_97 : decode cX11_signer 97 = .ok (.getfield 26, 3) := by decide +kernel
theorem dX11_signer_100 : decode cX11_signer 100 = .ok (.getfield 166, 3) := by decide +kernel
theorem dX11_signer_103 : decode cX11_signer 103 = .ok (.iload_n 1, 1) := by decide +kernel
theorem dX11_signer_104 : decode cX11_signer 104 = .ok (.iaload, 1) := by decide +kernel
theorem dX11_signer_105 : decode cX11_signer 105 = .ok (.ireturn, 1) := by decide +kernel
theorem dX11_signer_106 : decode cX11_signer 106 = .ok (.aload_n 0, 1) := by decide +kernel
theorem dX11_signer_107 : decode cX11_signer 107 = .ok (.getfield 26, 3) := by decide +kernel
theorem dX11_signer_110 : decode cX11_signer 110 = .ok (.getfield 169, 3) := by decide +kernel
theorem dX11_signer_113 : decode cX11_signer 113 = .ok (.iload_n 1, 1) := by decide +kernel
theorem dX11_signer_114 : decode cX11_signer 114 = .ok (.iaload, 1) := by decide +kernel
theorem dX11_signer_115 : decode cX11_signer 115 = .ok (.ireturn, 1) := by decide +kernel
theorem dX11_signer_116 : decode cX11_signer 116 = .ok (.aload_n 0, 1) := by decide +kernel
theorem dX11_signer_117 : decode cX11_signer 117 = .ok (.getfield 33, 3) := by decide +kernel
theorem dX11_signer_120 : decode cX11_signer 120 = .ok (.iload_n 1, 1) := by decide +kernel
theorem dX11_signer_121 : decode cX11_signer 121 = .ok (.invokevirtual 172, 3) := by decide +kernel
theorem dX11_signer_124 : decode cX11_signer 124 = .ok (.ifCond .eq 7, 3) := by decide +kernel
theorem dX11_signer_127 : decode cX11_signer 127 = .ok (.iconst 0, 1) := by decide +kernel
theorem dX11_signer_128 : decode cX11_signer 128 = .ok (.goto 4, 3) := by decide +kernel
theorem dX11_signer_131 : decode cX11_signer 131 = .ok (.iconst 1, 1) := by decide +kernel
theorem dX11_signer_132 : decode cX11_signer 132 = .ok (.ireturn, 1) := by decide +kernel
theorem dX11_signer_133 : decode cX11_signer 133 = .ok (.aload_n 0, 1) := by decide +kernel
theorem dX11_signer_134 : decode cX11_signer 134 = .ok (.getfield 33, 3) := by decide +kernel
theorem dX11_signer_137 : decode cX11_signer 137 = .ok (.getfield 175, 3) := by decide +kernel
theorem dX11_signer_140 : decode cX11_signer 140 = .ok (.iload_n 1, 1) := by decide +kernel
theorem dX11_signer_141 : decode cX11_signer 141 = .ok (.iaload, 1) := by decide +kernel
theorem dX11_signer_142 : decode cX11_signer 142 = .ok (.ireturn, 1) := by decide +kernel
theorem dX11_signer_143 : decode cX11_signer 143 = .ok (.aload_n 0, 1) := by decide +kernel
theorem dX11_signer_144 : decode cX11_signer 144 = .ok (.getfield 33, 3) := by decide +kernel
theorem dX11_signer_147 : decode cX11_signer 147 = .ok (.getfield 178, 3) := by decide +kernel
theorem dX11_signer_150 : decode cX11_signer 150 = .ok (.iload_n 1, 1) := by decide +kernel
theorem dX11_signer_151 : decode cX11_signer 151 = .ok (.iaload, 1) := by decide +kernel
theorem dX11_signer_152 : decode cX11_signer 152 = .ok (.ireturn, 1) := by decide +kernel
theorem dX11_signer_153 : decode cX11_signer 153 = .ok (.new 154, 3) := by decide +kernel
theorem dX11_signer_156 : decode cX11_signer 156 = .ok (.dup, 1) := by decide +kernel
theorem dX11_signer_157 : decode cX11_signer 157 = .ok (.invokespecial 156, 3) := by decide +kernel
theorem dX11_signer_160 : decode cX11_signer 160 = .ok (.athrow, 1) := by decide +kernel
def tX11_signer (kn : sKn) : List (Nat × sA) := [(0, a_aload 0 1), (1, a_iload 1 2), (2, a_callV false (fX11_isSigner kn) 12 2 5), (5, a_if kn b_ne 1 16 8), (8, a_throw), (11, a_stk q_dup 12), (12, a_none), (15, a_none), (16, a_iload 2 17), (17, a_table kn 0 7 [64, 74, 84, 96, 106, 116, 133, 143] 153), (64, a_aload 0 65), (65, a_get 12 3 68), (68, a_get 9 3 71), (71, a_iload 1 72), (72, a_iald 73), (73, a_iret), (74, a_aload 0 75), (75, a_get 12 2 78), (78, a_get 7 8 81), (81, a_iload 1 82), (82, a_iald 83), (83, a_iret), (84, a_aload 0 85), (85, a_get 12 2 88), (88, a_get 7 5 91), (91, a_iload 1 92), (92, a_stk q_ishr 93), (93, a_stk (q_int 1) 94), (94, a_stk q_iand 95), (95, a_iret), (96, a_aload 0 97), (97, a_get 12 2 100), (100, a_get 7 9 103), (103, a_iload 1 104), (104, a_iald 105), (105, a_iret), (106, a_aload 0 107), (107, a_get 12 2 110), (110, a_get 7 10 113), (113, a_iload 1 114), (114, a_iald 115), (115, a_iret), (116, a_aload 0 117), (117, a_get 12 3 120), (120, a_iload 1 121), (121, a_callV false (fX8_lives kn) 9 2 124), (124, a_if kn b_eq 0 131 127), (127, a_stk (q_int 0) 128), (128, a_goto 132), (131, a_stk (q_int 1) 132), (132, a_iret), (133, a_aload 0 134), (134, a_get 12 3 137), (137, a_get 9 5 140), (140, a_iload 1 141), (141, a_iald 142), (142, a_iret), (143, a_aload 0 144), (144, a_get 12 3 147), (147, a_get 9 4 150), (150, a_iload 1 151), (151, a_iald 152), (152, a_iret), (153, a_throw), (156, a_stk q_dup 157), (157, a_none), (160, a_none)]
def fX11_signer (kn : sKn) : List Value → sW → Option sR := fW (tX11_signer kn) 3
set_option maxRecDepth 100000 in
set_option maxHeartbeats 4000000 in
theorem mX11_signer (kn : sKn) : mV kn yX11_signer (Cond.code yX11_signer cX11_signer 3 (some .int) :: wsL_law) 6 (fX11_signer kn) := mV_W (fun n => mV_of (own := RX11) rfl (by decide +kernel) (all_c (ok_aload_n dX11_signer_0 rfl) (all_c (ok_iload_n dX11_signer_1 rfl) (all_c (okc_X11_isSigner (by decide) kw519 dX11_signer_2) (all_c (ok_if_ne dX11_signer_5 (by decide)) (all_c (ok_throw (by decide) kw899 kw900 inNse dX11_signer_8 dX11_signer_11 dX11_signer_12 dX11_signer_15) (all_c (ok_stk (s_dup dX11_signer_11)) (all_c (ok_none) (all_c (ok_none) (all_c (ok_iload_n dX11_signer_16 rfl) (all_c (ok_table dX11_signer_17 (by decide) (by decide) (by decide) (by decide)) (all_c (ok_aload_n dX11_signer_64 rfl) (all_c (okg_X11_3 kw292 dX11_signer_65) (all_c (okg_X8_3 kw1054 dX11_signer_68) (all_c (ok_iload_n dX11_signer_71 rfl) (all_c (ok_iald dX11_signer_72) (all_c (ok_iret dX11_signer_73) (all_c (ok_aload_n dX11_signer_74 rfl) (all_c (okg_X11_2 kw291 dX11_signer_75) (all_c (okg_X6_8 kw1055 dX11_signer_78) (all_c (ok_iload_n dX11_signer_81 rfl) (all_c (ok_iald dX11_signer_82) (all_c (ok_iret dX11_signer_83) (all_c (ok_aload_n dX11_signer_84 rfl) (all_c (okg_X11_2 kw291 dX11_signer_85) (all_c (okg_X6_5 kw946 dX11_signer_88) (all_c (ok_iload_n dX11_signer_91 rfl) (all_c (ok_stk (s_ishr dX11_signer_92)) (all_c (ok_stk (s_iconst dX11_signer_93 (by decide))) (all_c (ok_stk (s_iand dX11_signer_94)) (all_c (ok_iret dX11_signer_95) (all_c (ok_aload_n dX11_signer_96 rfl) (all_c (okg_X11_2 kw291 dX11_signer_97) (all_c (okg_X6_9 kw1056 dX11_signer_100) (all_c (ok_iload_n dX11_signer_103 rfl) (all_c (ok_iald dX11_signer_104) (all_c (ok_iret dX11_signer_105) (all_c (ok_aload_n dX11_signer_106 rfl) (all_c (okg_X11_2 kw291 dX11_signer_107) (all_c (okg_X6_10 kw1057 dX11_signer_110) (all_c (ok_iload_n dX11_signer_113 rfl) (all_c (ok_iald dX11_signer_114) (all_c (ok_iret dX11_signer_115) (all_c (ok_aload_n dX11_signer_116 rfl) (all_c (okg_X11_3 kw292 dX11_signer_117) (all_c (ok_iload_n dX11_signer_120 rfl) (all_c (okc_X8_lives (by decide) kw1058 dX11_signer_121) (all_c (ok_if_eq dX11_signer_124 (by decide)) (all_c (ok_stk (s_iconst dX11_signer_127 (by decide))) (all_c (ok_goto dX11_signer_128 (by decide)) (all_c (ok_stk (s_iconst dX11_signer_131 (by decide))) (all_c (ok_iret dX11_signer_132) (all_c (ok_aload_n dX11_signer_133 rfl) (all_c (okg_X11_3 kw292 dX11_signer_134) (all_c (okg_X8_5 kw1059 dX11_signer_137) (all_c (ok_iload_n dX11_signer_140 rfl) (all_c (ok_iald dX11_signer_141) (all_c (ok_iret dX11_signer_142) (all_c (ok_aload_n dX11_signer_143 rfl) (all_c (okg_X11_3 kw292 dX11_signer_144) (all_c (okg_X8_4 kw1060 dX11_signer_147) (all_c (ok_iload_n dX11_signer_150 rfl) (all_c (ok_iald dX11_signer_151) (all_c (ok_iret dX11_signer_152) (all_c (ok_throw (by decide) kw899 kw900 inNse dX11_signer_153 dX11_signer_156 dX11_signer_157 dX11_signer_160) (all_c (ok_stk (s_dup dX11_signer_156)) (all_c (ok_none) (all_c (ok_none) all_n))))))))))))))))))))))))))))))))))))))))))))))))))))))))))))))))))) n)
theorem dX11_spare_0 : decode cX11_spare 0 = .ok (.aload_n 0, 1) := by decide +kernel
theorem dX11_spare_1 : decode cX11_spare 1 = .ok (.iload_n 1, 1) := by decide +kernel
theorem dX11_spare_2 : decode cX11_spare 2 = .ok (.invokevirtual 201, 3) := by decide +kernel
theorem dX11_spare_5 : decode cX11_spare 5 = .ok (.ifCond .ne 5, 3) := by decide +kernel
theorem dX11_spare_8 : decode cX11_spare 8 = .ok (.iconst (-1), 1) := by decide +kernel
theorem dX11_spare_9 : decode cX11_spare 9 = .ok (.ireturn, 1) := by decide +kernel
theorem dX11_spare_10 : decode cX11_spare 10 = .ok (.aload_n 0, 1) := by decide +kernel
theorem dX11_spare_11 : decode cX11_spare 11 = .ok (.getfield 57, 3) := by decide +kernel
theorem dX11_spare_14 : decode cX11_spare 14 = .ok (.aload_n 0, 1) := by decide +kernel
theorem dX11_spare_15 : decode cX11_spare 15 = .ok (.getfield 26, 3) := by decide +kernel
theorem dX11_spare_18 : decode cX11_spare 18 = .ok (.aload_n 0, 1) := by decide +kernel
theorem dX11_spare_19 : decode cX11_spare 19 = .ok (.getfield 33, 3) := by decide +kernel
theorem dX11_spare_22 : decode cX11_spare 22 = .ok (.iload_n 1, 1) := by decide +kernel
theorem dX11_spare_23 : decode cX11_spare 23 = .ok (.invokevirtual 276, 3) := by decide +kernel
theorem dX11_spare_26 : decode cX11_spare 26 = .ok (.ireturn, 1) := by decide +kernel
def tX11_spare (kn : sKn) : List (Nat × sA) := [(0, a_aload 0 1), (1, a_iload 1 2), (2, a_callV false (fX11_isLoad kn) 12 2 5), (5, a_if kn b_ne 1 10 8), (8, a_stk (q_int (-1)) 9), (9, a_iret), (10, a_aload 0 11), (11, a_get 12 7 14), (14, a_aload 0 15), (15, a_get 12 2 18), (18, a_aload 0 19), (19, a_get 12 3 22), (22, a_iload 1 23), (23, a_callV false (fX10_findSafest kn) 11 4 26), (26, a_iret)]
def fX11_spare (kn : sKn) : List Value → sW → Option sR := fW (tX11_spare kn) 2
set_option maxRecDepth 100000 in
set_option maxHeartbeats 4000000 in
theorem mX11_spare (kn : sKn) : mM kn yX11_spare (Cond.code yX11_spare cX11_spare 2 (some .int) :: wsL_law) 5 false (fX11_spare kn) := mM_W (fun n => mM_of (own := RX11) (ini := false) rfl (by decide +kernel) (by decide +kernel) (all_c (ok_aload_n dX11_spare_0 rfl) (all_c (ok_iload_n dX11_spare_1 rfl) (all_c (okc_X11_isLoad (by decide) kw317 dX11_spare_2) (all_c (ok_if_ne dX11_spare_5 (by decide)) (all_c (ok_stk (s_iconst dX11_spare_8 (by decide))) (all_c (ok_iret dX11_spare_9) (all_c (ok_aload_n dX11_spare_10 rfl) (all_c (okg_X11_7 kw290 dX11_spare_11) (all_c (ok_aload_n dX11_spare_14 rfl) (all_c (okg_X11_2 kw291 dX11_spare_15) (all_c (ok_aload_n dX11_spare_18 rfl) (all_c (okg_X11_3 kw292 dX11_spare_19) (all_c (ok_iload_n dX11_spare_22 rfl) (all_c (okc_X10_findSafest (by decide) kw943 dX11_spare_23) (all_c (ok_iret dX11_spare_26) all_n))))))))))))))) n (fun h => by first | rfl | cases h))
theorem dX11_surely_0 : decode cX11_surely 0 = .ok (.aload_n 0, 1) := by decide +kernel
theorem dX11_surely_1 : decode cX11_surely 1 = .ok (.getfield 78, 3) := by decide +kernel
theorem dX11_surely_4 : decode cX11_surely 4 = .ok (.getfield 327, 3) := by decide +kernel
theorem dX11_surely_7 : decode cX11_surely 7 = .ok (.ireturn, 1) := by decide +kernel
def tX11_surely (kn : sKn) : List (Nat × sA) := [(0, a_aload 0 1), (1, a_get 12 10 4), (4, a_get 6 3 7), (7, a_iret)]
def fX11_surely (kn : sKn) : List Value → sW → Option sR := fW (tX11_surely kn) 1
set_option maxRecDepth 100000 in
set_option maxHeartbeats 4000000 in
theorem mX11_surely (kn : sKn) : mM kn yX11_surely (Cond.code yX11_surely cX11_surely 1 (some .int) :: wsL_law) 1 false (fX11_surely kn) := mM_W (fun n => mM_of (own := RX11) (ini := false) rfl (by decide +kernel) (by decide +kernel) (all_c (ok_aload_n dX11_surely_0 rfl) (all_c (okg_X11_10 kw794 dX11_surely_1) (all_c (okg_X5_3 kw1061 dX11_surely_4) (all_c (ok_iret dX11_surely_7) all_n)))) n (fun h => by first | rfl | cases h))
theorem dX11_tells_0 : decode cX11_tells 0 = .ok (.aload_n 0, 1) := by decide +kernel
theorem dX11_tells_1 : decode cX11_tells 1 = .ok (.getfield 78, 3) := by decide +kernel
theorem dX11_tells_4 : decode cX11_tells 4 = .ok (.getfield 330, 3) := by decide +kernel
theorem dX11_tells_7 : decode cX11_tells 7 = .ok (.ireturn, 1) := by decide +kernel
def tX11_tells (kn : sKn) : List (Nat × sA) := [(0, a_aload 0 1), (1, a_get 12 10 4), (4, a_get 6 4 7), (7, a_iret)]
def fX11_tells (kn : sKn) : List Value → sW → Option sR := fW (tX11_tells kn) 1
set_option maxRecDepth 100000 in
set_option maxHeartbeats 4000000 in
theorem mX11_tells (kn : sKn) : mM kn yX11_tells (Cond.code yX11_tells cX11_tells 1 (some .int) :: wsL_law) 1 false (fX11_tells kn) := mM_W (fun n => mM_of (own := RX11) (ini := false) rfl (by decide +kernel) (by decide +kernel) (all_c (ok_aload_n dX11_tells_0 rfl) (all_c (okg_X11_10 kw794 dX11_tells_1) (all_c (okg_X5_4 kw1062 dX11_tells_4) (all_c (ok_iret dX11_tells_7) all_n)))) n (fun h => by first | rfl | cases h))
theorem dX11_told_0 : decode cX11_told 0 = .ok (.iload_n 1, 1) := by decide +kernel
theorem dX11_told_1 : decode cX11_told 1 = .ok (.ifCond .lt 15, 3) := by decide +kernel
theorem dX11_told_4 : decode cX11_told 4 = .ok (.iload_n 1, 1) := by decide +kernel
theorem dX11_told_5 : decode cX11_told 5 = .ok (.aload_n 0, 1) := by decide +kernel
theorem dX11_told_6 : decode cX11_told 6 = .ok (.getfield 50, 3) := by decide +kernel
theorem dX11_told_9 : decode cX11_told 9 = .ok (.getfield 385, 3) := by decide +kernel
theorem dX11_told_12 : decode cX11_told 12 = .ok (.arraylength, 1) := by decide +kernel
theorem dX11_told_13 : decode cX11_told 13 = .ok (.if_icmp .lt 5, 3) := by decide +kernel
theorem dX11_told_16 : decode cX11_told 16 = .ok (.iconst (-1), 1) := by decide +kernel
theorem dX11_told_17 : decode cX11_told 17 = .ok (.ireturn, 1) := by decide +kernel
theorem dX11_told_18 : decode cX11_told 18 = .ok (.aload_n 0, 1) := by decide +kernel
theorem dX11_told_19 : decode cX11_told 19 = .ok (.getfield 50, 3) := by decide +kernel
theorem dX11_told_22 : decode cX11_told 22 = .ok (.getfield 385, 3) := by decide +kernel
theorem dX11_told_25 : decode cX11_told 25 = .ok (.iload_n 1, 1) := by decide +kernel
theorem dX11_told_26 : decode cX11_told 26 = .ok (.iaload, 1) := by decide +kernel
theorem dX11_told_27 : decode cX11_told 27 = .ok (.ireturn, 1) := by decide +kernel
def tX11_told (kn : sKn) : List (Nat × sA) := [(0, a_iload 1 1), (1, a_if kn b_lt 2 16 4), (4, a_iload 1 5), (5, a_aload 0 6), (6, a_get 12 6 9), (9, a_get 2 5 12), (12, a_alen 13), (13, a_icmp kn b_lt 2 18 16), (16, a_stk (q_int (-1)) 17), (17, a_iret), (18, a_aload 0 19), (19, a_get 12 6 22), (22, a_get 2 5 25), (25, a_iload 1 26), (26, a_iald 27), (27, a_iret)]
def fX11_told (kn : sKn) : List Value → sW → Option sR := fW (tX11_told kn) 2
set_option maxRecDepth 100000 in
set_option maxHeartbeats 4000000 in
theorem mX11_told (kn : sKn) : mM kn yX11_told (Cond.code yX11_told cX11_told 2 (some .int) :: wsL_law) 1 false (fX11_told kn) := mM_W (fun n => mM_of (own := RX11) (ini := false) rfl (by decide +kernel) (by decide +kernel) (all_c (ok_iload_n dX11_told_0 rfl) (all_c (ok_if_lt dX11_told_1 (by decide)) (all_c (ok_iload_n dX11_told_4 rfl) (all_c (ok_aload_n dX11_told_5 rfl) (all_c (okg_X11_6 kw495 dX11_told_6) (all_c (okg_X1_5 kw1063 dX11_told_9) (all_c (ok_alen dX11_told_12) (all_c (ok_icmp_lt dX11_told_13 (by decide)) (all_c (ok_stk (s_iconst dX11_told_16 (by decide))) (all_c (ok_iret dX11_told_17) (all_c (ok_aload_n dX11_told_18 rfl) (all_c (okg_X11_6 kw495 dX11_told_19) (all_c (okg_X1_5 kw1063 dX11_told_22) (all_c (ok_iload_n dX11_told_25 rfl) (all_c (ok_iald dX11_told_26) (all_c (ok_iret dX11_told_27) all_n)))))))))))))))) n (fun h => by first | rfl | cases h))
theorem dX11_toll_0 : decode cX11_toll 0 = .ok (.aload_n 0, 1) := by decide +kernel
theorem dX11_toll_1 : decode cX11_toll 1 = .ok (.iload_n 1, 1) := by decide +kernel
theorem dX11_toll_2 : decode cX11_toll 2 = .ok (.invokevirtual 150, 3) := by decide +kernel
theorem dX11_toll_5 : decode cX11_toll 5 = .ok (.ifCond .eq 31, 3) := by decide +kernel
theorem dX11_toll_8 : decode cX11_toll 8 = .ok (.aload_n 0, 1) := by decide +kernel
theorem dX11_toll_9 : decode cX11_toll 9 = .ok (.iload_n 2, 1) := by decide +kernel
theorem dX11_toll_10 : decode cX11_toll 10 = .ok (.invokevirtual 201, 3) := by decide +kernel
theorem dX11_toll_13 : decode cX11_toll 13 = .ok (.ifCond .eq 23, 3) := by decide +kernel
theorem dX11_toll_16 : decode cX11_toll 16 = .ok (.aload_n 0, 1) := by decide +kernel
theorem dX11_toll_17 : decode cX11_toll 17 = .ok (.getfield 57, 3) := by decide +kernel
theorem dX11_toll_20 : decode cX11_toll 20 = .ok (.aload_n 0, 1) := by decide +kernel
theorem dX11_toll_21 : decode cX11_toll 21 = .ok (.getfield 26, 3) := by decide +kernel
theorem dX11_toll_24 : decode cX11_toll 24 = .ok (.aload_n 0, 1) := by decide +kernel
theorem dX11_toll_25 : decode cX11_toll 25 = .ok (.getfield 33, 3) := by decide +kernel
theorem dX11_toll_28 : decode cX11_toll 28 = .ok (.iload_n 2, 1) := by decide +kernel
theorem dX11_toll_29 : decode cX11_toll 29 = .ok (.invokevirtual 276, 3) := by decide +kernel
theorem dX11_toll_32 : decode cX11_toll 32 = .ok (.iconst (-1), 1) := by decide +kernel
theorem dX11_toll_33 : decode cX11_toll 33 = .ok (.if_icmp .ne 5, 3) := by decide +kernel
theorem dX11_toll_36 : decode cX11_toll 36 = .ok (.iconst (-1), 1) := by decide +kernel
theorem dX11_toll_37 : decode cX11_toll 37 = .ok (.ireturn, 1) := by decide +kernel
theorem dX11_toll_38 : decode cX11_toll 38 = .ok (.aload_n 0, 1) := by decide +kernel
theorem dX11_toll_39 : decode cX11_toll 39 = .ok (.getfield 57, 3) := by decide +kernel
theorem dX11_toll_42 : decode cX11_toll 42 = .ok (.aload_n 0, 1) := by decide +kernel
theorem dX11_toll_43 : decode cX11_toll 43 = .ok (.getfield 26, 3) := by decide +kernel
theorem dX11_toll_46 : decode cX11_toll 46 = .ok (.aload_n 0, 1) := by decide +kernel
theorem dX11_toll_47 : decode cX11_toll 47 = .ok (.getfield 33, 3) := by decide +kernel
theorem dX11_toll_50 : decode cX11_toll 50 = .ok (.iload_n 1, 1) := by decide +kernel
theorem dX11_toll_51 : decode cX11_toll 51 = .ok (.iload_n 2, 1) := by decide +kernel
theorem dX11_toll_52 : decode cX11_toll 52 = .ok (.invokevirtual 340, 3) := by decide +kernel
theorem dX11_toll_55 : decode cX11_toll 55 = .ok (.ireturn, 1) := by decide +kernel
theorem okc_X10_countOnPath {kn : sKn} {cc : ByteArray} {own : String} {nL : Nat} {D : Nat} {ret : Option FieldType} {ini : Bool} {pc index : Nat} (hD : 1 + 1 ≤ D) (hl : Cond.methodLink own index yX10_countOnPath ∈ wsL_law) (hd : decode cc pc = .ok (.invokevirtual index, 3)) : mOk kn cc own nL wsL_law D ret ini pc (a_callV false (fX10_countOnPath kn) 11 (4 + 1) (pc + 3)) := ok_callV (mX10_countOnPath kn) (good_ws ws_good (fun _ h => h) kw1064) hD (by decide) hl kw1065 kw1066 kw170 ⟨by decide +kernel, by decide +kernel, by decide +kernel⟩ rfl hd
def tX11_toll (kn : sKn) : List (Nat × sA) := [(0, a_aload 0 1), (1, a_iload 1 2), (2, a_callV false (fX11_isSigner kn) 12 2 5), (5, a_if kn b_eq 0 36 8), (8, a_aload 0 9), (9, a_iload 2 10), (10, a_callV false (fX11_isLoad kn) 12 2 13), (13, a_if kn b_eq 0 36 16), (16, a_aload 0 17), (17, a_get 12 7 20), (20, a_aload 0 21), (21, a_get 12 2 24), (24, a_aload 0 25), (25, a_get 12 3 28), (28, a_iload 2 29), (29, a_callV false (fX10_findSafest kn) 11 4 32), (32, a_stk (q_int (-1)) 33), (33, a_icmp kn b_ne 1 38 36), (36, a_stk (q_int (-1)) 37), (37, a_iret), (38, a_aload 0 39), (39, a_get 12 7 42), (42, a_aload 0 43), (43, a_get 12 2 46), (46, a_aload 0 47), (47, a_get 12 3 50), (50, a_iload 1 51), (51, a_iload 2 52), (52, a_callV false (fX10_countOnPath kn) 11 5 55), (55, a_iret)]
def fX11_toll (kn : sKn) : List Value → sW → Option sR := fW (tX11_toll kn) 3
set_option maxRecDepth 100000 in
set_option maxHeartbeats 4000000 in
theorem mX11_toll (kn : sKn) : mM kn yX11_toll (Cond.code yX11_toll cX11_toll 3 (some .int) :: wsL_law) 5 false (fX11_toll kn) := mM_W (fun n => mM_of (own := RX11) (ini := false) rfl (by decide +kernel) (by decide +kernel) (all_c (ok_aload_n dX11_toll_0 rfl) (all_c (ok_iload_n dX11_toll_1 rfl) (all_c (okc_X11_isSigner (by decide) kw519 dX11_toll_2) (all_c (ok_if_eq dX11_toll_5 (by decide)) (all_c (ok_aload_n dX11_toll_8 rfl) (all_c (ok_iload_n dX11_toll_9 rfl) (all_c (okc_X11_isLoad (by decide) kw317 dX11_toll_10) (all_c (ok_if_eq dX11_toll_13 (by decide)) (all_c (ok_aload_n dX11_toll_16 rfl) (all_c (okg_X11_7 kw290 dX11_toll_17) (all_c (ok_aload_n dX11_toll_20 rfl) (all_c (okg_X11_2 kw291 dX11_toll_21) (all_c (ok_aload_n dX11_toll_24 rfl) (all_c (okg_X11_3 kw292 dX11_toll_25) (all_c (ok_iload_n dX11_toll_28 rfl) (all_c (okc_X10_findSafest (by decide) kw943 dX11_toll_29) (all_c (ok_stk (s_iconst dX11_toll_32 (by decide))) (all_c (ok_icmp_ne dX11_toll_33 (by decide)) (all_c (ok_stk (s_iconst dX11_toll_36 (by decide))) (all_c (ok_iret dX11_toll_37) (all_c (ok_aload_n dX11_toll_38 rfl) (all_c (okg_X11_7 kw290 dX11_toll_39) (all_c (ok_aload_n dX11_toll_42 rfl) (all_c (okg_X11_2 kw291 dX11_toll_43) (all_c (ok_aload_n dX11_toll_46 rfl) (all_c (okg_X11_3 kw292 dX11_toll_47) (all_c (ok_iload_n dX11_toll_50 rfl) (all_c (ok_iload_n dX11_toll_51 rfl) (all_c (okc_X10_countOnPath (by decide) kw1067 dX11_toll_52) (all_c (ok_iret dX11_toll_55) all_n)))))))))))))))))))))))))))))) n (fun h => by first | rfl | cases h))
theorem dX11_undo_0 : decode cX11_undo 0 = .ok (.aload_n 0, 1) := by decide +kernel
theorem dX11_undo_1 : decode cX11_undo 1 = .ok (.getfield 141, 3) := by decide +kernel
theorem dX11_undo_4 : decode cX11_undo 4 = .ok (.ifCond .ne 5, 3) := by decide +kernel
theorem dX11_undo_7 : decode cX11_undo 7 = .ok (.iconst (-1), 1) := by decide +kernel
theorem dX11_undo_8 : decode cX11_undo 8 = .ok (.ireturn, 1) := by decide +kernel
theorem dX11_undo_9 : decode cX11_undo 9 = .ok (.aload_n 0, 1) := by decide +kernel
theorem dX11_undo_10 : decode cX11_undo 10 = .ok (.dup, 1) := by decide +kernel
theorem dX11_undo_11 : decode cX11_undo 11 = .ok (.getfield 141, 3) := by decide +kernel
theorem dX11_undo_14 : decode cX11_undo 14 = .ok (.iconst 1, 1) := by decide +kernel
theorem dX11_undo_15 : decode cX11_undo 15 = .ok (.isub, 1) := by decide +kernel
theorem dX11_undo_16 : decode cX11_undo 16 = .ok (.putfield 141, 3) := by decide +kernel
theorem dX11_undo_19 : decode cX11_undo 19 = .ok (.aload_n 0, 1) := by decide +kernel
theorem dX11_undo_20 : decode cX11_undo 20 = .ok (.aload_n 0, 1) := by decide +kernel
theorem dX11_undo_21 : decode cX11_undo 21 = .ok (.getfield 270, 3) := by decide +kernel
theorem dX11_undo_24 : decode cX11_undo 24 = .ok (.ifCond .ne 8, 3) := by decide +kernel
theorem dX11_undo_27 : decode cX11_undo 27 = .ok (.bipush 8, 2) := by decide +kernel
theorem dX11_undo_29 : decode cX11_undo 29 = .ok (.goto 9, 3) := by decide +kernel
theorem dX11_undo_32 : decode cX11_undo 32 = .ok (.aload_n 0, 1) := by decide +kernel
theorem dX11_undo_33 : decode cX11_undo 33 = .ok (.getfield 270, 3) := by decide +kernel
theorem dX11_undo_36 : decode cX11_undo 36 = .ok (.iconst 1, 1) := by decide +kernel
theorem dX11_undo_37 : decode cX11_undo 37 = .ok (.isub, 1) := by decide +kernel
theorem dX11_undo_38 : decode cX11_undo 38 = .ok (.putfield 270, 3) := by decide +kernel
theorem dX11_undo_41 : decode cX11_undo 41 = .ok (.aload_n 0, 1) := by decide +kernel
theorem dX11_undo_42 : decode cX11_undo 42 = .ok (.getfield 33, 3) := by decide +kernel
theorem dX11_undo_45 : decode cX11_undo 45 = .ok (.aload_n 0, 1) := by decide +kernel
theorem dX11_undo_46 : decode cX11_undo 46 = .ok (.getfield 96, 3) := by decide +kernel
theorem dX11_undo_49 : decode cX11_undo 49 = .ok (.aload_n 0, 1) := by decide +kernel
theorem dX11_undo_50 : decode cX11_undo 50 = .ok (.getfield 270, 3) := by decide +kernel
theorem dX11_undo_53 : decode cX11_undo 53 = .ok (.aaload, 1) := by decide +kernel
theorem dX11_undo_54 : decode cX11_undo 54 = .ok (.invokevirtual 273, 3) := by decide +kernel
theorem dX11_undo_57 : decode cX11_undo 57 = .ok (.aload_n 0, 1) := by decide +kernel
theorem dX11_undo_58 : decode cX11_undo 58 = .ok (.getfield 141, 3) := by decide +kernel
theorem dX11_undo_61 : decode cX11_undo 61 = .ok (.ireturn, 1) := by decide +kernel
def tX11_undo (kn : sKn) : List (Nat × sA) := [(0, a_aload 0 1), (1, a_get 12 15 4), (4, a_if kn b_ne 1 9 7), (7, a_stk (q_int (-1)) 8), (8, a_iret), (9, a_aload 0 10), (10, a_stk q_dup 11), (11, a_get 12 15 14), (14, a_stk (q_int 1) 15), (15, a_stk q_isub 16), (16, a_put 12 15 ckI 19), (19, a_aload 0 20), (20, a_aload 0 21), (21, a_get 12 14 24), (24, a_if kn b_ne 1 32 27), (27, a_stk (q_int 8) 29), (29, a_goto 38), (32, a_aload 0 33), (33, a_get 12 14 36), (36, a_stk (q_int 1) 37), (37, a_stk q_isub 38), (38, a_put 12 14 ckI 41), (41, a_aload 0 42), (42, a_get 12 3 45), (45, a_aload 0 46), (46, a_get 12 13 49), (49, a_aload 0 50), (50, a_get 12 14 53), (53, a_aald 54), (54, a_callV true (fX8_copyOf kn) 9 2 57), (57, a_aload 0 58), (58, a_get 12 15 61), (61, a_iret)]
def fX11_undo (kn : sKn) : List Value → sW → Option sR := fW (tX11_undo kn) 1
set_option maxRecDepth 100000 in
set_option maxHeartbeats 4000000 in
theorem mX11_undo (kn : sKn) : mM kn yX11_undo (Cond.code yX11_undo cX11_undo 1 (some .int) :: wsL_law) 2 false (fX11_undo kn) := mM_W (fun n => mM_of (own := RX11) (ini := false) rfl (by decide +kernel) (by decide +kernel) (all_c (ok_aload_n dX11_undo_0 rfl) (all_c (okg_X11_15 kw323 dX11_undo_1) (all_c (ok_if_ne dX11_undo_4 (by decide)) (all_c (ok_stk (s_iconst dX11_undo_7 (by decide))) (all_c (ok_iret dX11_undo_8) (all_c (ok_aload_n dX11_undo_9 rfl) (all_c (ok_stk (s_dup dX11_undo_10)) (all_c (okg_X11_15 kw323 dX11_undo_11) (all_c (ok_stk (s_iconst dX11_undo_14 (by decide))) (all_c (ok_stk (s_isub dX11_undo_15)) (all_c (okp_X11_15 kw323 dX11_undo_16) (all_c (ok_aload_n dX11_undo_19 rfl) (all_c (ok_aload_n dX11_undo_20 rfl) (all_c (okg_X11_14 kw322 dX11_undo_21) (all_c (ok_if_ne dX11_undo_24 (by decide)) (all_c (ok_stk (s_bipush dX11_undo_27 (by decide))) (all_c (ok_goto dX11_undo_29 (by decide)) (all_c (ok_aload_n dX11_undo_32 rfl) (all_c (okg_X11_14 kw322 dX11_undo_33) (all_c (ok_stk (s_iconst dX11_undo_36 (by decide))) (all_c (ok_stk (s_isub dX11_undo_37)) (all_c (okp_X11_14 kw322 dX11_undo_38) (all_c (ok_aload_n dX11_undo_41 rfl) (all_c (okg_X11_3 kw292 dX11_undo_42) (all_c (ok_aload_n dX11_undo_45 rfl) (all_c (okg_X11_13 kw325 dX11_undo_46) (all_c (ok_aload_n dX11_undo_49 rfl) (all_c (okg_X11_14 kw322 dX11_undo_50) (all_c (ok_aald dX11_undo_53) (all_c (okc_X8_copyOf (by decide) kw326 dX11_undo_54) (all_c (ok_aload_n dX11_undo_57 rfl) (all_c (okg_X11_15 kw323 dX11_undo_58) (all_c (ok_iret dX11_undo_61) all_n))))))))))))))))))))))))))))))))) n (fun h => by first | rfl | cases h))
theorem dX12_layWhose_0 : decode cX12_layWhose 0 = .ok (.iconst 0, 1) := by decide +kernel
theorem dX12_layWhose_1 : decode cX12_layWhose 1 = .ok (.istore_n 1, 1) := by decide +kernel
theorem dX12_layWhose_2 : decode cX12_layWhose 2 = .ok (.iload_n 1, 1) := by decide +kernel
theorem dX12_layWhose_3 : decode cX12_layWhose 3 = .ok (.bipush 36, 2) := by decide +kernel
theorem dX12_layWhose_5 : decode cX12_layWhose 5 = .ok (.if_icmp .ge 24, 3) := by decide +kernel
theorem dX12_layWhose_8 : decode cX12_layWhose 8 = .ok (.aload_n 0, 1) := by decide +kernel
theorem dX12_layWhose_9 : decode cX12_layWhose 9 = .ok (.getfield 127, 3) := by decide +kernel
theorem dX12_layWhose_12 : decode cX12_layWhose 12 = .ok (.iload_n 1, 1) := by decide +kernel
theorem dX12_layWhose_13 : decode cX12_layWhose 13 = .ok (.aload_n 0, 1) := by decide +kernel
theorem dX12_layWhose_14 : decode cX12_layWhose 14 = .ok (.getfield 98, 3) := by decide +kernel
theorem dX12_layWhose_17 : decode cX12_layWhose 17 = .ok (.bipush 118, 2) := by decide +kernel
theorem dX12_layWhose_19 : decode cX12_layWhose 19 = .ok (.iload_n 1, 1) := by decide +kernel
theorem dX12_layWhose_20 : decode cX12_layWhose 20 = .ok (.iadd, 1) := by decide +kernel
theorem dX12_layWhose_21 : decode cX12_layWhose 21 = .ok (.iaload, 1) := by decide +kernel
theorem dX12_layWhose_22 : decode cX12_layWhose 22 = .ok (.iastore, 1) := by decide +kernel
theorem dX12_layWhose_23 : decode cX12_layWhose 23 = .ok (.iinc 1 1, 3) := by decide +kernel
theorem dX12_layWhose_26 : decode cX12_layWhose 26 = .ok (.goto (-24), 3) := by decide +kernel
theorem dX12_layWhose_29 : decode cX12_layWhose 29 = .ok (.aload_n 0, 1) := by decide +kernel
theorem dX12_layWhose_30 : decode cX12_layWhose 30 = .ok (.aload_n 0, 1) := by decide +kernel
theorem dX12_layWhose_31 : decode cX12_layWhose 31 = .ok (.getfield 98, 3) := by decide +kernel
theorem dX12_layWhose_34 : decode cX12_layWhose 34 = .ok (.bipush 25, 2) := by decide +kernel
theorem dX12_layWhose_36 : decode cX12_layWhose 36 = .ok (.iaload, 1) := by decide +kernel
theorem dX12_layWhose_37 : decode cX12_layWhose 37 = .ok (.putfield 267, 3) := by decide +kernel
theorem dX12_layWhose_40 : decode cX12_layWhose 40 = .ok (.return_, 1) := by decide +kernel
def tX12_layWhose (kn : sKn) : List (Nat × sA) := [(0, a_stk (q_int 0) 1), (1, a_istore 1 2), (2, a_iload 1 3), (3, a_stk (q_int 36) 5), (5, a_icmp kn b_ge 3 29 8), (8, a_aload 0 9), (9, a_get 13 27 12), (12, a_iload 1 13), (13, a_aload 0 14), (14, a_get 13 14 17), (17, a_stk (q_int 118) 19), (19, a_iload 1 20), (20, a_stk q_iadd 21), (21, a_iald 22), (22, a_iast 23), (23, a_iinc 1 1 26), (26, a_goto 2), (29, a_aload 0 30), (30, a_aload 0 31), (31, a_get 13 14 34), (34, a_stk (q_int 25) 36), (36, a_iald 37), (37, a_put 13 28 ckI 40), (40, a_vret)]
def fX12_layWhose (kn : sKn) : List Value → sW → Option sR := fW (tX12_layWhose kn) 2
set_option maxRecDepth 100000 in
set_option maxHeartbeats 4000000 in
theorem mX12_layWhose (kn : sKn) : mM kn yX12_layWhose (Cond.code yX12_layWhose cX12_layWhose 2 none :: wsL_law) 1 true (fX12_layWhose kn) := mM_W (fun n => mM_of (own := RX12) (ini := false) rfl (by decide +kernel) (by decide +kernel) (all_c (ok_stk (s_iconst dX12_layWhose_0 (by decide))) (all_c (ok_istore_n dX12_layWhose_1 rfl (by decide)) (all_c (ok_iload_n dX12_layWhose_2 rfl) (all_c (ok_stk (s_bipush dX12_layWhose_3 (by decide))) (all_c (ok_icmp_ge dX12_layWhose_5 (by decide)) (all_c (ok_aload_n dX12_layWhose_8 rfl) (all_c (okg_X12_27 kw1068 dX12_layWhose_9) (all_c (ok_iload_n dX12_layWhose_12 rfl) (all_c (ok_aload_n dX12_layWhose_13 rfl) (all_c (okg_X12_14 kw1069 dX12_layWhose_14) (all_c (ok_stk (s_bipush dX12_layWhose_17 (by decide))) (all_c (ok_iload_n dX12_layWhose_19 rfl) (all_c (ok_stk (s_iadd dX12_layWhose_20)) (all_c (ok_iald dX12_layWhose_21) (all_c (ok_iast dX12_layWhose_22) (all_c (ok_iinc dX12_layWhose_23 (by decide) (by decide)) (all_c (ok_goto dX12_layWhose_26 (by decide)) (all_c (ok_aload_n dX12_layWhose_29 rfl) (all_c (ok_aload_n dX12_layWhose_30 rfl) (all_c (okg_X12_14 kw1069 dX12_layWhose_31) (all_c (ok_stk (s_bipush dX12_layWhose_34 (by decide))) (all_c (ok_iald dX12_layWhose_36) (all_c (okp_X12_28 kw1070 dX12_layWhose_37) (all_c (ok_vret dX12_layWhose_40) all_n)))))))))))))))))))))))) n (fun h => by first | rfl | cases h))
theorem dX12_has_0 : decode cX12_has 0 = .ok (.iload_n 0, 1) := by decide +kernel
theorem dX12_has_1 : decode cX12_has 1 = .ok (.iload_n 1, 1) := by decide +kernel
theorem dX12_has_2 : decode cX12_has 2 = .ok (.ishr, 1) := by decide +kernel
theorem dX12_has_3 : decode cX12_has 3 = .ok (.iconst 1, 1) := by decide +kernel
theorem dX12_has_4 : decode cX12_has 4 = .ok (.iand, 1) := by decide +kernel
theorem dX12_has_5 : decode cX12_has 5 = .ok (.iconst 1, 1) := by decide +kernel
theorem dX12_has_6 : decode cX12_has 6 = .ok (.if_icmp .ne 7, 3) := by decide +kernel
theorem dX12_has_9 : decode cX12_has 9 = .ok (.iconst 1, 1) := by decide +kernel
theorem dX12_has_10 : decode cX12_has 10 = .ok (.goto 4, 3) := by decide +kernel
theorem dX12_has_13 : decode cX12_has 13 = .ok (.iconst 0, 1) := by decide +kernel
theorem dX12_has_14 : decode cX12_has 14 = .ok (.ireturn, 1) := by decide +kernel
def tX12_has (kn : sKn) : List (Nat × sA) := [(0, a_iload 0 1), (1, a_iload 1 2), (2, a_stk q_ishr 3), (3, a_stk (q_int 1) 4), (4, a_stk q_iand 5), (5, a_stk (q_int 1) 6), (6, a_icmp kn b_ne 1 13 9), (9, a_stk (q_int 1) 10), (10, a_goto 14), (13, a_stk (q_int 0) 14), (14, a_zret)]
def fX12_has (kn : sKn) : List Value → sW → Option sR := fW (tX12_has kn) 2
set_option maxRecDepth 100000 in
set_option maxHeartbeats 4000000 in
theorem mX12_has (kn : sKn) : mM kn yX12_has (Cond.code yX12_has cX12_has 2 (some .boolean) :: wsL_law) 1 false (fX12_has kn) := mM_W (fun n => mM_of (own := RX12) (ini := false) rfl (by decide +kernel) (by decide +kernel) (all_c (ok_iload_n dX12_has_0 rfl) (all_c (ok_iload_n dX12_has_1 rfl) (all_c (ok_stk (s_ishr dX12_has_2)) (all_c (ok_stk (s_iconst dX12_has_3 (by decide))) (all_c (ok_stk (s_iand dX12_has_4)) (all_c (ok_stk (s_iconst dX12_has_5 (by decide))) (all_c (ok_icmp_ne dX12_has_6 (by decide)) (all_c (ok_stk (s_iconst dX12_has_9 (by decide))) (all_c (ok_goto dX12_has_10 (by decide)) (all_c (ok_stk (s_iconst dX12_has_13 (by decide))) (all_c (ok_zret dX12_has_14) all_n))))))))))) n (fun h => by first | rfl | cases h))
theorem dX12_size_0 : decode cX12_size 0 = .ok (.iload_n 0, 1) := by decide +kernel
theorem dX12_size_1 : decode cX12_size 1 = .ok (.ifCond .ge 8, 3) := by decide +kernel
theorem dX12_size_4 : decode cX12_size 4 = .ok (.iload_n 0, 1) := by decide +kernel
theorem dX12_size_5 : decode cX12_size 5 = .ok (.ineg, 1) := by decide +kernel
theorem dX12_size_6 : decode cX12_size 6 = .ok (.goto 4, 3) := by decide +kernel
theorem dX12_size_9 : decode cX12_size 9 = .ok (.iload_n 0, 1) := by decide +kernel
theorem dX12_size_10 : decode cX12_size 10 = .ok (.ireturn, 1) := by decide +kernel
def tX12_size (kn : sKn) : List (Nat × sA) := [(0, a_iload 0 1), (1, a_if kn b_ge 3 9 4), (4, a_iload 0 5), (5, a_stk q_ineg 6), (6, a_goto 10), (9, a_iload 0 10), (10, a_iret)]
def fX12_size (kn : sKn) : List Value → sW → Option sR := fW (tX12_size kn) 1
set_option maxRecDepth 100000 in
set_option maxHeartbeats 4000000 in
theorem mX12_size (kn : sKn) : mM kn yX12_size (Cond.code yX12_size cX12_size 1 (some .int) :: wsL_law) 1 false (fX12_size kn) := mM_W (fun n => mM_of (own := RX12) (ini := false) rfl (by decide +kernel) (by decide +kernel) (all_c (ok_iload_n dX12_size_0 rfl) (all_c (ok_if_ge dX12_size_1 (by decide)) (all_c (ok_iload_n dX12_size_4 rfl) (all_c (ok_stk (s_ineg dX12_size_5)) (all_c (ok_goto dX12_size_6 (by decide)) (all_c (ok_iload_n dX12_size_9 rfl) (all_c (ok_iret dX12_size_10) all_n))))))) n (fun h => by first | rfl | cases h))
theorem dX12_follows_0 : decode cX12_follows 0 = .ok (.iload_n 0, 1) := by decide +kernel
theorem dX12_follows_1 : decode cX12_follows 1 = .ok (.iconst 3, 1) := by decide +kernel
theorem dX12_follows_2 : decode cX12_follows 2 = .ok (.if_icmp .ne 16, 3) := by decide +kernel
theorem dX12_follows_5 : decode cX12_follows 5 = .ok (.iload_n 1, 1) := by decide +kernel
theorem dX12_follows_6 : decode cX12_follows 6 = .ok (.iconst 3, 1) := by decide +kernel
theorem dX12_follows_7 : decode cX12_follows 7 = .ok (.if_icmp .eq 7, 3) := by decide +kernel
theorem dX12_follows_10 : decode cX12_follows 10 = .ok (.iconst 1, 1) := by decide +kernel
theorem dX12_follows_11 : decode cX12_follows 11 = .ok (.goto 27, 3) := by decide +kernel
theorem dX12_follows_14 : decode cX12_follows 14 = .ok (.iconst 0, 1) := by decide +kernel
theorem dX12_follows_15 : decode cX12_follows 15 = .ok (.goto 23, 3) := by decide +kernel
theorem dX12_follows_18 : decode cX12_follows 18 = .ok (.iload_n 1, 1) := by decide +kernel
theorem dX12_follows_19 : decode cX12_follows 19 = .ok (.iconst 3, 1) := by decide +kernel
theorem dX12_follows_20 : decode cX12_follows 20 = .ok (.if_icmp .eq 13, 3) := by decide +kernel
theorem dX12_follows_23 : decode cX12_follows 23 = .ok (.iload_n 0, 1) := by decide +kernel
theorem dX12_follows_24 : decode cX12_follows 24 = .ok (.iload_n 1, 1) := by decide +kernel
theorem dX12_follows_25 : decode cX12_follows 25 = .ok (.isub, 1) := by decide +kernel
theorem dX12_follows_26 : decode cX12_follows 26 = .ok (.invokestatic 302, 3) := by decide +kernel
theorem dX12_follows_29 : decode cX12_follows 29 = .ok (.iconst 1, 1) := by decide +kernel
theorem dX12_follows_30 : decode cX12_follows 30 = .ok (.if_icmp .gt 7, 3) := by decide +kernel
theorem dX12_follows_33 : decode cX12_follows 33 = .ok (.iconst 1, 1) := by decide +kernel
theorem dX12_follows_34 : decode cX12_follows 34 = .ok (.goto 4, 3) := by decide +kernel
theorem dX12_follows_37 : decode cX12_follows 37 = .ok (.iconst 0, 1) := by decide +kernel
theorem dX12_follows_38 : decode cX12_follows 38 = .ok (.ireturn, 1) := by decide +kernel
theorem okc_X12_size {kn : sKn} {cc : ByteArray} {own : String} {nL : Nat} {D : Nat} {ret : Option FieldType} {ini : Bool} {pc index : Nat} (hD : 1 + 1 ≤ D) (hl : Cond.methodLink own index yX12_size ∈ wsL_law) (hd : decode cc pc = .ok (.invokestatic index, 3)) : mOk kn cc own nL wsL_law D ret ini pc (a_callS false (fX12_size kn) 1 (pc + 3)) := ok_callS (mX12_size kn) (good_ws ws_good (fun _ h => h) kw1071) hD (by decide) hl kw1073 kw1072 ⟨by decide +kernel, by decide +kernel, by decide +kernel⟩ hd
def tX12_follows (kn : sKn) : List (Nat × sA) := [(0, a_iload 0 1), (1, a_stk (q_int 3) 2), (2, a_icmp kn b_ne 1 18 5), (5, a_iload 1 6), (6, a_stk (q_int 3) 7), (7, a_icmp kn b_eq 0 14 10), (10, a_stk (q_int 1) 11), (11, a_goto 38), (14, a_stk (q_int 0) 15), (15, a_goto 38), (18, a_iload 1 19), (19, a_stk (q_int 3) 20), (20, a_icmp kn b_eq 0 33 23), (23, a_iload 0 24), (24, a_iload 1 25), (25, a_stk q_isub 26), (26, a_callS false (fX12_size kn) 1 29), (29, a_stk (q_int 1) 30), (30, a_icmp kn b_gt 4 37 33), (33, a_stk (q_int 1) 34), (34, a_goto 38), (37, a_stk (q_int 0) 38), (38, a_zret)]
def fX12_follows (kn : sKn) : List Value → sW → Option sR := fW (tX12_follows kn) 2
set_option maxRecDepth 100000 in
set_option maxHeartbeats 4000000 in
theorem mX12_follows (kn : sKn) : mM kn yX12_follows (Cond.code yX12_follows cX12_follows 2 (some .boolean) :: wsL_law) 2 false (fX12_follows kn) := mM_W (fun n => mM_of (own := RX12) (ini := false) rfl (by decide +kernel) (by decide +kernel) (all_c (ok_iload_n dX12_follows_0 rfl) (all_c (ok_stk (s_iconst dX12_follows_1 (by decide))) (all_c (ok_icmp_ne dX12_follows_2 (by decide)) (all_c (ok_iload_n dX12_follows_5 rfl) (all_c (ok_stk (s_iconst dX12_follows_6 (by decide))) (all_c (ok_icmp_eq dX12_follows_7 (by decide)) (all_c (ok_stk (s_iconst dX12_follows_10 (by decide))) (all_c (ok_goto dX12_follows_11 (by decide)) (all_c (ok_stk (s_iconst dX12_follows_14 (by decide))) (all_c (ok_goto dX12_follows_15 (by decide)) (all_c (ok_iload_n dX12_follows_18 rfl) (all_c (ok_stk (s_iconst dX12_follows_19 (by decide))) (all_c (ok_icmp_eq dX12_follows_20 (by decide)) (all_c (ok_iload_n dX12_follows_23 rfl) (all_c (ok_iload_n dX12_follows_24 rfl) (all_c (ok_stk (s_isub dX12_follows_25)) (all_c (okc_X12_size (by decide) kw1074 dX12_follows_26) (all_c (ok_stk (s_iconst dX12_follows_29 (by decide))) (all_c (ok_icmp_gt dX12_follows_30 (by decide)) (all_c (ok_stk (s_iconst dX12_follows_33 (by decide))) (all_c (ok_goto dX12_follows_34 (by decide)) (all_c (ok_stk (s_iconst dX12_follows_37 (by decide))) (all_c (ok_zret dX12_follows_38) all_n))))))))))))))))))))))) n (fun h => by first | rfl | cases h))
theorem dX12_least_0 : decode cX12_least 0 = .ok (.iload_n 0, 1) := by decide +kernel
theorem dX12_least_1 : decode cX12_least 1 = .ok (.iload_n 1, 1) := by decide +kernel
theorem dX12_least_2 : decode cX12_least 2 = .ok (.if_icmp .ge 7, 3) := by decide +kernel
theorem dX12_least_5 : decode cX12_least 5 = .ok (.iload_n 0, 1) := by decide +kernel
theorem dX12_least_6 : decode cX12_least 6 = .ok (.goto 4, 3) := by decide +kernel
theorem dX12_least_9 : decode cX12_least 9 = .ok (.iload_n 1, 1) := by decide +kernel
theorem dX12_least_10 : decode cX12_least 10 = .ok (.ireturn, 1) := by decide +kernel
def tX12_least (kn : sKn) : List (Nat × sA) := [(0, a_iload 0 1), (1, a_iload 1 2), (2, a_icmp kn b_ge 3 9 5), (5, a_iload 0 6), (6, a_goto 10), (9, a_iload 1 10), (10, a_iret)]
def fX12_least (kn : sKn) : List Value → sW → Option sR := fW (tX12_least kn) 2
set_option maxRecDepth 100000 in
set_option maxHeartbeats 4000000 in
theorem mX12_least (kn : sKn) : mM kn yX12_least (Cond.code yX12_least cX12_least 2 (some .int) :: wsL_law) 1 false (fX12_least kn) := mM_W (fun n => mM_of (own := RX12) (ini := false) rfl (by decide +kernel) (by decide +kernel) (all_c (ok_iload_n dX12_least_0 rfl) (all_c (ok_iload_n dX12_least_1 rfl) (all_c (ok_icmp_ge dX12_least_2 (by decide)) (all_c (ok_iload_n dX12_least_5 rfl) (all_c (ok_goto dX12_least_6 (by decide)) (all_c (ok_iload_n dX12_least_9 rfl) (all_c (ok_iret dX12_least_10) all_n))))))) n (fun h => by first | rfl | cases h))
theorem dX12_besides_0 : decode cX12_besides 0 = .ok (.aload_n 0, 1) := by decide +kernel
theorem dX12_besides_1 : decode cX12_besides 1 = .ok (.getfield 127, 3) := by decide +kernel
theorem dX12_besides_4 : decode cX12_besides 4 = .ok (.iload_n 2, 1) := by decide +kernel
theorem dX12_besides_5 : decode cX12_besides 5 = .ok (.iaload, 1) := by decide +kernel
theorem dX12_besides_6 : decode cX12_besides 6 = .ok (.iconst (-1), 1) := by decide +kernel
theorem dX12_besides_7 : decode cX12_besides 7 = .ok (.if_icmp .eq 33, 3) := by decide +kernel
theorem dX12_besides_10 : decode cX12_besides 10 = .ok (.aload_n 0, 1) := by decide +kernel
theorem dX12_besides_11 : decode cX12_besides 11 = .ok (.getfield 98, 3) := by decide +kernel
theorem dX12_besides_14 : decode cX12_besides 14 = .ok (.bipush 36, 2) := by decide +kernel
theorem dX12_besides_16 : decode cX12_besides 16 = .ok (.aload_n 0, 1) := by decide +kernel
theorem dX12_besides_17 : decode cX12_besides 17 = .ok (.getfield 127, 3) := by decide +kernel
theorem dX12_besides_20 : decode cX12_besides 20 = .ok (.iload_n 1, 1) := by decide +kernel
theorem dX12_besides_21 : decode cX12_besides 21 = .ok (.iaload, 1) := by decide +kernel
theorem dX12_besides_22 : decode cX12_besides 22 = .ok (.iadd, 1) := by decide +kernel
theorem dX12_besides_23 : decode cX12_besides 23 = .ok (.iaload, 1) := by decide +kernel
theorem dX12_besides_24 : decode cX12_besides 24 = .ok (.aload_n 0, 1) := by decide +kernel
theorem dX12_besides_25 : decode cX12_besides 25 = .ok (.getfield 127, 3) := by decide +kernel
theorem dX12_besides_28 : decode cX12_besides 28 = .ok (.iload_n 2, 1) := by decide +kernel
theorem dX12_besides_29 : decode cX12_besides 29 = .ok (.iaload, 1) := by decide +kernel
theorem dX12_besides_30 : decode cX12_besides 30 = .ok (.invokestatic 225, 3) := by decide +kernel
theorem dX12_besides_33 : decode cX12_besides 33 = .ok (.ifCond .eq 7, 3) := by decide +kernel
theorem dX12_besides_36 : decode cX12_besides 36 = .ok (.iconst 5, 1) := by decide +kernel
theorem dX12_besides_37 : decode cX12_besides 37 = .ok (.goto 4, 3) := by decide +kernel
theorem dX12_besides_40 : decode cX12_besides 40 = .ok (.iconst 0, 1) := by decide +kernel
theorem dX12_besides_41 : decode cX12_besides 41 = .ok (.ireturn, 1) := by decide +kernel
theorem okc_X12_has {kn : sKn} {cc : ByteArray} {own : String} {nL : Nat} {D : Nat} {ret : Option FieldType} {ini : Bool} {pc index : Nat} (hD : 1 + 1 ≤ D) (hl : Cond.methodLink own index yX12_has ∈ wsL_law) (hd : decode cc pc = .ok (.invokestatic index, 3)) : mOk kn cc own nL wsL_law D ret ini pc (a_callS false (fX12_has kn) 2 (pc + 3)) := ok_callS (mX12_has kn) (good_ws ws_good (fun _ h => h) kw1075) hD (by decide) hl kw1076 kw1072 ⟨by decide +kernel, by decide +kernel, by decide +kernel⟩ hd
def tX12_besides (kn : sKn) : List (Nat × sA) := [(0, a_aload 0 1), (1, a_get 13 27 4), (4, a_iload 2 5), (5, a_iald 6), (6, a_stk (q_int (-1)) 7), (7, a_icmp kn b_eq 0 40 10), (10, a_aload 0 11), (11, a_get 13 14 14), (14, a_stk (q_int 36) 16), (16, a_aload 0 17), (17, a_get 13 27 20), (20, a_iload 1 21), (21, a_iald 22), (22, a_stk q_iadd 23), (23, a_iald 24), (24, a_aload 0 25), (25, a_get 13 27 28), (28, a_iload 2 29), (29, a_iald 30), (30, a_callS false (fX12_has kn) 2 33), (33, a_if kn b_eq 0 40 36), (36, a_stk (q_int 5) 37), (37, a_goto 41), (40, a_stk (q_int 0) 41), (41, a_iret)]
def fX12_besides (kn : sKn) : List Value → sW → Option sR := fW (tX12_besides kn) 3
set_option maxRecDepth 100000 in
set_option maxHeartbeats 4000000 in
theorem mX12_besides (kn : sKn) : mM kn yX12_besides (Cond.code yX12_besides cX12_besides 3 (some .int) :: wsL_law) 2 false (fX12_besides kn) := mM_W (fun n => mM_of (own := RX12) (ini := false) rfl (by decide +kernel) (by decide +kernel) (all_c (ok_aload_n dX12_besides_0 rfl) (all_c (okg_X12_27 kw1068 dX12_besides_1) (all_c (ok_iload_n dX12_besides_4 rfl) (all_c (ok_iald dX12_besides_5) (all_c (ok_stk (s_iconst dX12_besides_6 (by decide))) (all_c (ok_icmp_eq dX12_besides_7 (by decide)) (all_c (ok_aload_n dX12_besides_10 rfl) (all_c (okg_X12_14 kw1069 dX12_besides_11) (all_c (ok_stk (s_bipush dX12_besides_14 (by decide))) (all_c (ok_aload_n dX12_besides_16 rfl) (all_c (okg_X12_27 kw1068 dX12_besides_17) (all_c (ok_iload_n dX12_besides_20 rfl) (all_c (ok_iald dX12_besides_21) (all_c (ok_stk (s_iadd dX12_besides_22)) (all_c (ok_iald dX12_besides_23) (all_c (ok_aload_n dX12_besides_24 rfl) (all_c (okg_X12_27 kw1068 dX12_besides_25) (all_c (ok_iload_n dX12_besides_28 rfl) (all_c (ok_iald dX12_besides_29) (all_c (okc_X12_has (by decide) kw1077 dX12_besides_30) (all_c (ok_if_eq dX12_besides_33 (by decide)) (all_c (ok_stk (s_iconst dX12_besides_36 (by decide))) (all_c (ok_goto dX12_besides_37 (by decide)) (all_c (ok_stk (s_iconst dX12_besides_40 (by decide))) (all_c (ok_iret dX12_besides_41) all_n))))))))))))))))))))))))) n (fun h => by first | rfl | cases h))
theorem dX12_bearsAt_0 : decode cX12_bearsAt 0 = .ok (.aload_n 0, 1) := by decide +kernel
theorem dX12_bearsAt_1 : decode cX12_bearsAt 1 = .ok (.getfield 127, 3) := by decide +kernel
theorem dX12_bearsAt_4 : decode cX12_bearsAt 4 = .ok (.iload_n 1, 1) := by decide +kernel
theorem dX12_bearsAt_5 : decode cX12_bearsAt 5 = .ok (.iaload, 1) := by decide +kernel
theorem dX12_bearsAt_6 : decode cX12_bearsAt 6 = .ok (.istore_n 2, 1) := by decide +kernel
theorem dX12_bearsAt_7 : decode cX12_bearsAt 7 = .ok (.iload_n 2, 1) := by decide +kernel
theorem dX12_bearsAt_8 : decode cX12_bearsAt 8 = .ok (.iconst (-1), 1) := by decide +kernel
theorem dX12_bearsAt_9 : decode cX12_bearsAt 9 = .ok (.if_icmp .eq 14, 3) := by decide +kernel
theorem dX12_bearsAt_12 : decode cX12_bearsAt 12 = .ok (.aload_n 0, 1) := by decide +kernel
theorem dX12_bearsAt_13 : decode cX12_bearsAt 13 = .ok (.getfield 267, 3) := by decide +kernel
theorem dX12_bearsAt_16 : decode cX12_bearsAt 16 = .ok (.iload_n 2, 1) := by decide +kernel
theorem dX12_bearsAt_17 : decode cX12_bearsAt 17 = .ok (.invokestatic 225, 3) := by decide +kernel
theorem dX12_bearsAt_20 : decode cX12_bearsAt 20 = .ok (.ifCond .eq 5, 3) := by decide +kernel
theorem dX12_bearsAt_23 : decode cX12_bearsAt 23 = .ok (.iconst 0, 1) := by decide +kernel
theorem dX12_bearsAt_24 : decode cX12_bearsAt 24 = .ok (.ireturn, 1) := by decide +kernel
theorem dX12_bearsAt_25 : decode cX12_bearsAt 25 = .ok (.bipush 10, 2) := by decide +kernel
theorem dX12_bearsAt_27 : decode cX12_bearsAt 27 = .ok (.aload_n 0, 1) := by decide +kernel
theorem dX12_bearsAt_28 : decode cX12_bearsAt 28 = .ok (.getfield 98, 3) := by decide +kernel
theorem dX12_bearsAt_31 : decode cX12_bearsAt 31 = .ok (.bipush 98, 2) := by decide +kernel
theorem dX12_bearsAt_33 : decode cX12_bearsAt 33 = .ok (.iload_n 2, 1) := by decide +kernel
theorem dX12_bearsAt_34 : decode cX12_bearsAt 34 = .ok (.iadd, 1) := by decide +kernel
theorem dX12_bearsAt_35 : decode cX12_bearsAt 35 = .ok (.iaload, 1) := by decide +kernel
theorem dX12_bearsAt_36 : decode cX12_bearsAt 36 = .ok (.imul, 1) := by decide +kernel
theorem dX12_bearsAt_37 : decode cX12_bearsAt 37 = .ok (.iconst 5, 1) := by decide +kernel
theorem dX12_bearsAt_38 : decode cX12_bearsAt 38 = .ok (.aload_n 0, 1) := by decide +kernel
theorem dX12_bearsAt_39 : decode cX12_bearsAt 39 = .ok (.getfield 98, 3) := by decide +kernel
theorem dX12_bearsAt_42 : decode cX12_bearsAt 42 = .ok (.sipush 154, 3) := by decide +kernel
theorem dX12_bearsAt_45 : decode cX12_bearsAt 45 = .ok (.iload_n 1, 1) := by decide +kernel
theorem dX12_bearsAt_46 : decode cX12_bearsAt 46 = .ok (.iadd, 1) := by decide +kernel
theorem dX12_bearsAt_47 : decode cX12_bearsAt 47 = .ok (.iaload, 1) := by decide +kernel
theorem dX12_bearsAt_48 : decode cX12_bearsAt 48 = .ok (.imul, 1) := by decide +kernel
theorem dX12_bearsAt_49 : decode cX12_bearsAt 49 = .ok (.isub, 1) := by decide +kernel
theorem dX12_bearsAt_50 : decode cX12_bearsAt 50 = .ok (.istore_n 3, 1) := by decide +kernel
theorem dX12_bearsAt_51 : decode cX12_bearsAt 51 = .ok (.iload_n 1, 1) := by decide +kernel
theorem dX12_bearsAt_52 : decode cX12_bearsAt 52 = .ok (.iconst 3, 1) := by decide +kernel
theorem dX12_bearsAt_53 : decode cX12_bearsAt 53 = .ok (.irem, 1) := by decide +kernel
theorem dX12_bearsAt_54 : decode cX12_bearsAt 54 = .ok (.ifCond .le 14, 3) := by decide +kernel
theorem dX12_bearsAt_57 : decode cX12_bearsAt 57 = .ok (.iload_n 3, 1) := by decide +kernel
theorem dX12_bearsAt_58 : decode cX12_bearsAt 58 = .ok (.aload_n 0, 1) := by decide +kernel
theorem dX12_bearsAt_59 : decode cX12_bearsAt 59 = .ok (.iload_n 1, 1) := by decide +kernel
theorem dX12_bearsAt_60 : decode cX12_bearsAt 60 = .ok (.iload_n 1, 1) := by decide +kernel
theorem dX12_bearsAt_61 : decode cX12_bearsAt 61 = .ok (.iconst 1, 1) := by decide +kernel
theorem dX12_bearsAt_62 : decode cX12_bearsAt 62 = .ok (.isub, 1) := by decide +kernel
theorem dX12_bearsAt_63 : decode cX12_bearsAt 63 = .ok (.invokevirtual 270, 3) := by decide +kernel
theorem dX12_bearsAt_66 : decode cX12_bearsAt 66 = .ok (.iadd, 1) := by decide +kernel
theorem dX12_bearsAt_67 : decode cX12_bearsAt 67 = .ok (.istore_n 3, 1) := by decide +kernel
theorem dX12_bearsAt_68 : decode cX12_bearsAt 68 = .ok (.iload_n 1, 1) := by decide +kernel
theorem dX12_bearsAt_69 : decode cX12_bearsAt 69 = .ok (.iconst 3, 1) := by decide +kernel
theorem dX12_bearsAt_70 : decode cX12_bearsAt 70 = .ok (.irem, 1) := by decide +kernel
theorem dX12_bearsAt_71 : decode cX12_bearsAt 71 = .ok (.iconst 2, 1) := by decide +kernel
theorem dX12_bearsAt_72 : decode cX12_bearsAt 72 = .ok (.if_icmp .ge 14, 3) := by decide +kernel
theorem dX12_bearsAt_75 : decode cX12_bearsAt 75 = .ok (.iload_n 3, 1) := by decide +kernel
theorem dX12_bearsAt_76 : decode cX12_bearsAt 76 = .ok (.aload_n 0, 1) := by decide +kernel
theorem dX12_bearsAt_77 : decode cX12_bearsAt 77 = .ok (.iload_n 1, 1) := by decide +kernel
theorem dX12_bearsAt_78 : decode cX12_bearsAt 78 = .ok (.iload_n 1, 1) := by decide +kernel
theorem dX12_bearsAt_79 : decode cX12_bearsAt 79 = .ok (.iconst 1, 1) := by decide +kernel
theorem dX12_bearsAt_80 : decode cX12_bearsAt 80 = .ok (.iadd, 1) := by decide +kernel
theorem dX12_bearsAt_81 : decode cX12_bearsAt 81 = .ok (.invokevirtual 270, 3) := by decide +kernel
theorem dX12_bearsAt_84 : decode cX12_bearsAt 84 = .ok (.iadd, 1) := by decide +kernel
theorem dX12_bearsAt_85 : decode cX12_bearsAt 85 = .ok (.istore_n 3, 1) := by decide +kernel
theorem dX12_bearsAt_86 : decode cX12_bearsAt 86 = .ok (.iload_n 3, 1) := by decide +kernel
theorem dX12_bearsAt_87 : decode cX12_bearsAt 87 = .ok (.ifCond .ge 7, 3) := by decide +kernel
theorem dX12_bearsAt_90 : decode cX12_bearsAt 90 = .ok (.iconst 0, 1) := by decide +kernel
theorem dX12_bearsAt_91 : decode cX12_bearsAt 91 = .ok (.goto 4, 3) := by decide +kernel
theorem dX12_bearsAt_94 : decode cX12_bearsAt 94 = .ok (.iload_n 3, 1) := by decide +kernel
theorem dX12_bearsAt_95 : decode cX12_bearsAt 95 = .ok (.ireturn, 1) := by decide +kernel
theorem okc_X12_besides {kn : sKn} {cc : ByteArray} {own : String} {nL : Nat} {D : Nat} {ret : Option FieldType} {ini : Bool} {pc index : Nat} (hD : 2 + 1 ≤ D) (hl : Cond.methodLink own index yX12_besides ∈ wsL_law) (hd : decode cc pc = .ok (.invokevirtual index, 3)) : mOk kn cc own nL wsL_law D ret ini pc (a_callV false (fX12_besides kn) 13 (2 + 1) (pc + 3)) := ok_callV (mX12_besides kn) (good_ws ws_good (fun _ h => h) kw1078) hD (by decide) hl kw1079 kw1080 kw1072 ⟨by decide +kernel, by decide +kernel, by decide +kernel⟩ rfl hd
def tX12_bearsAt (kn : sKn) : List (Nat × sA) := [(0, a_aload 0 1), (1, a_get 13 27 4), (4, a_iload 1 5), (5, a_iald 6), (6, a_istore 2 7), (7, a_iload 2 8), (8, a_stk (q_int (-1)) 9), (9, a_icmp kn b_eq 0 23 12), (12, a_aload 0 13), (13, a_get 13 28 16), (16, a_iload 2 17), (17, a_callS false (fX12_has kn) 2 20), (20, a_if kn b_eq 0 25 23), (23, a_stk (q_int 0) 24), (24, a_iret), (25, a_stk (q_int 10) 27), (27, a_aload 0 28), (28, a_get 13 14 31), (31, a_stk (q_int 98) 33), (33, a_iload 2 34), (34, a_stk q_iadd 35), (35, a_iald 36), (36, a_stk q_imul 37), (37, a_stk (q_int 5) 38), (38, a_aload 0 39), (39, a_get 13 14 42), (42, a_stk (q_int 154) 45), (45, a_iload 1 46), (46, a_stk q_iadd 47), (47, a_iald 48), (48, a_stk q_imul 49), (49, a_stk q_isub 50), (50, a_istore 3 51), (51, a_iload 1 52), (52, a_stk (q_int 3) 53), (53, a_stk q_irem 54), (54, a_if kn b_le 5 68 57), (57, a_iload 3 58), (58, a_aload 0 59), (59, a_iload 1 60), (60, a_iload 1 61), (61, a_stk (q_int 1) 62), (62, a_stk q_isub 63), (63, a_callV false (fX12_besides kn) 13 3 66), (66, a_stk q_iadd 67), (67, a_istore 3 68), (68, a_iload 1 69), (69, a_stk (q_int 3) 70), (70, a_stk q_irem 71), (71, a_stk (q_int 2) 72), (72, a_icmp kn b_ge 3 86 75), (75, a_iload 3 76), (76, a_aload 0 77), (77, a_iload 1 78), (78, a_iload 1 79), (79, a_stk (q_int 1) 80), (80, a_stk q_iadd 81), (81, a_callV false (fX12_besides kn) 13 3 84), (84, a_stk q_iadd 85), (85, a_istore 3 86), (86, a_iload 3 87), (87, a_if kn b_ge 3 94 90), (90, a_stk (q_int 0) 91), (91, a_goto 95), (94, a_iload 3 95), (95, a_iret)]
def fX12_bearsAt (kn : sKn) : List Value → sW → Option sR := fW (tX12_bearsAt kn) 4
set_option maxRecDepth 100000 in
set_option maxHeartbeats 4000000 in
theorem mX12_bearsAt (kn : sKn) : mM kn yX12_bearsAt (Cond.code yX12_bearsAt cX12_bearsAt 4 (some .int) :: wsL_law) 3 false (fX12_bearsAt kn) := mM_W (fun n => mM_of (own := RX12) (ini := false) rfl (by decide +kernel) (by decide +kernel) (all_c (ok_aload_n dX12_bearsAt_0 rfl) (all_c (okg_X12_27 kw1068 dX12_bearsAt_1) (all_c (ok_iload_n dX12_bearsAt_4 rfl) (all_c (ok_iald dX12_bearsAt_5) (all_c (ok_istore_n dX12_bearsAt_6 rfl (by decide)) (all_c (ok_iload_n dX12_bearsAt_7 rfl) (all_c (ok_stk (s_iconst dX12_bearsAt_8 (by decide))) (all_c (ok_icmp_eq dX12_bearsAt_9 (by decide)) (all_c (ok_aload_n dX12_bearsAt_12 rfl) (all_c (okg_X12_28 kw1070 dX12_bearsAt_13) (all_c (ok_iload_n dX12_bearsAt_16 rfl) (all_c (okc_X12_has (by decide) kw1077 dX12_bearsAt_17) (all_c (ok_if_eq dX12_bearsAt_20 (by decide)) (all_c (ok_stk (s_iconst dX12_bearsAt_23 (by decide))) (all_c (ok_iret dX12_bearsAt_24) (all_c (ok_stk (s_bipush dX12_bearsAt_25 (by decide))) (all_c (ok_aload_n dX12_bearsAt_27 rfl) (all_c (okg_X12_14 kw1069 dX12_bearsAt_28) (all_c (ok_stk (s_bipush dX12_bearsAt_31 (by decide))) (all_c (ok_iload_n dX12_bearsAt_33 rfl) (all_c (ok_stk (s_iadd dX12_bearsAt_34)) (all_c (ok_iald dX12_bearsAt_35) (all_c (ok_stk (s_imul dX12_bearsAt_36)) (all_c (ok_stk (s_iconst dX12_bearsAt_37 (by decide))) (all_c (ok_aload_n dX12_bearsAt_38 rfl) (all_c (okg_X12_14 kw1069 dX12_bearsAt_39) (all_c (ok_stk (s_sipush dX12_bearsAt_42 (by decide))) (all_c (ok_iload_n dX12_bearsAt_45 rfl) (all_c (ok_stk (s_iadd dX12_bearsAt_46)) (all_c (ok_iald dX12_bearsAt_47) (all_c (ok_stk (s_imul dX12_bearsAt_48)) (all_c (ok_stk (s_isub dX12_bearsAt_49)) (all_c (ok_istore_n dX12_bearsAt_50 rfl (by decide)) (all_c (ok_iload_n dX12_bearsAt_51 rfl) (all_c (ok_stk (s_iconst dX12_bearsAt_52 (by decide))) (all_c (ok_stk (s_irem dX12_bearsAt_53)) (all_c (ok_if_le dX12_bearsAt_54 (by decide)) (all_c (ok_iload_n dX12_bearsAt_57 rfl) (all_c (ok_aload_n dX12_bearsAt_58 rfl) (all_c (ok_iload_n dX12_bearsAt_59 rfl) (all_c (ok_iload_n dX12_bearsAt_60 rfl) (all_c (ok_stk (s_iconst dX12_bearsAt_61 (by decide))) (all_c (ok_stk (s_isub dX12_bearsAt_62)) (all_c (okc_X12_besides (by decide) kw1081 dX12_bearsAt_63) (all_c (ok_stk (s_iadd dX12_bearsAt_66)) (all_c (ok_istore_n dX12_bearsAt_67 rfl (by decide)) (all_c (ok_iload_n dX12_bearsAt_68 rfl) (all_c (ok_stk (s_iconst dX12_bearsAt_69 (by decide))) (all_c (ok_stk (s_irem dX12_bearsAt_70)) (all_c (ok_stk (s_iconst dX12_bearsAt_71 (by decide))) (all_c (ok_icmp_ge dX12_bearsAt_72 (by decide)) (all_c (ok_iload_n dX12_bearsAt_75 rfl) (all_c (ok_aload_n dX12_bearsAt_76 rfl) (all_c (ok_iload_n dX12_bearsAt_77 rfl) (all_c (ok_iload_n dX12_bearsAt_78 rfl) (all_c (ok_stk (s_iconst dX12_bearsAt_79 (by decide))) (all_c (ok_stk (s_iadd dX12_bearsAt_80)) (all_c (okc_X12_besides (by decide) kw1081 dX12_bearsAt_81) (all_c (ok_stk (s_iadd dX12_bearsAt_84)) (all_c (ok_istore_n dX12_bearsAt_85 rfl (by decide)) (all_c (ok_iload_n dX12_bearsAt_86 rfl) (all_c (ok_if_ge dX12_bearsAt_87 (by decide)) (all_c (ok_stk (s_iconst dX12_bearsAt_90 (by decide))) (all_c (ok_goto dX12_bearsAt_91 (by decide)) (all_c (ok_iload_n dX12_bearsAt_94 rfl) (all_c (ok_iret dX12_bearsAt_95) all_n)))))))))))))))))))))))))))))))))))))))))))))))))))))))))))))))))) n (fun h => by first | rfl | cases h))
theorem dX12_sumAt_0 : decode cX12_sumAt 0 = .ok (.iload_n 2, 1) := by decide +kernel
theorem dX12_sumAt_1 : decode cX12_sumAt 1 = .ok (.iload_n 3, 1) := by decide +kernel
theorem dX12_sumAt_2 : decode cX12_sumAt 2 = .ok (.iadd, 1) := by decide +kernel
theorem dX12_sumAt_3 : decode cX12_sumAt 3 = .ok (.iconst 3, 1) := by decide +kernel
theorem dX12_sumAt_4 : decode cX12_sumAt 4 = .ok (.if_icmp .le 5, 3) := by decide +kernel
theorem dX12_sumAt_7 : decode cX12_sumAt 7 = .ok (.iconst (-1), 1) := by decide +kernel
theorem dX12_sumAt_8 : decode cX12_sumAt 8 = .ok (.ireturn, 1) := by decide +kernel
theorem dX12_sumAt_9 : decode cX12_sumAt 9 = .ok (.iconst 0, 1) := by decide +kernel
theorem dX12_sumAt_10 : decode cX12_sumAt 10 = .ok (.istore 4, 2) := by decide +kernel
theorem dX12_sumAt_12 : decode cX12_sumAt 12 = .ok (.iload_n 2, 1) := by decide +kernel
theorem dX12_sumAt_13 : decode cX12_sumAt 13 = .ok (.istore 5, 2) := by decide +kernel
theorem dX12_sumAt_15 : decode cX12_sumAt 15 = .ok (.iload 5, 2) := by decide +kernel
theorem dX12_sumAt_17 : decode cX12_sumAt 17 = .ok (.iload_n 2, 1) := by decide +kernel
theorem dX12_sumAt_18 : decode cX12_sumAt 18 = .ok (.iload_n 3, 1) := by decide +kernel
theorem dX12_sumAt_19 : decode cX12_sumAt 19 = .ok (.iadd, 1) := by decide +kernel
theorem dX12_sumAt_20 : decode cX12_sumAt 20 = .ok (.if_icmp .ge 41, 3) := by decide +kernel
theorem dX12_sumAt_23 : decode cX12_sumAt 23 = .ok (.aload_n 0, 1) := by decide +kernel
theorem dX12_sumAt_24 : decode cX12_sumAt 24 = .ok (.getfield 127, 3) := by decide +kernel
theorem dX12_sumAt_27 : decode cX12_sumAt 27 = .ok (.iconst 3, 1) := by decide +kernel
theorem dX12_sumAt_28 : decode cX12_sumAt 28 = .ok (.iload_n 1, 1) := by decide +kernel
theorem dX12_sumAt_29 : decode cX12_sumAt 29 = .ok (.imul, 1) := by decide +kernel
theorem dX12_sumAt_30 : decode cX12_sumAt 30 = .ok (.iload 5, 2) := by decide +kernel
theorem dX12_sumAt_32 : decode cX12_sumAt 32 = .ok (.iadd, 1) := by decide +kernel
theorem dX12_sumAt_33 : decode cX12_sumAt 33 = .ok (.iaload, 1) := by decide +kernel
theorem dX12_sumAt_34 : decode cX12_sumAt 34 = .ok (.iconst (-1), 1) := by decide +kernel
theorem dX12_sumAt_35 : decode cX12_sumAt 35 = .ok (.if_icmp .ne 5, 3) := by decide +kernel
theorem dX12_sumAt_38 : decode cX12_sumAt 38 = .ok (.iconst (-1), 1) := by decide +kernel
theorem dX12_sumAt_39 : decode cX12_sumAt 39 = .ok (.ireturn, 1) := by decide +kernel
theorem dX12_sumAt_40 : decode cX12_sumAt 40 = .ok (.iload 4, 2) := by decide +kernel
theorem dX12_sumAt_42 : decode cX12_sumAt 42 = .ok (.aload_n 0, 1) := by decide +kernel
theorem dX12_sumAt_43 : decode cX12_sumAt 43 = .ok (.iconst 3, 1) := by decide +kernel
theorem dX12_sumAt_44 : decode cX12_sumAt 44 = .ok (.iload_n 1, 1) := by decide +kernel
theorem dX12_sumAt_45 : decode cX12_sumAt 45 = .ok (.imul, 1) := by decide +kernel
theorem dX12_sumAt_46 : decode cX12_sumAt 46 = .ok (.iload 5, 2) := by decide +kernel
theorem dX12_sumAt_48 : decode cX12_sumAt 48 = .ok (.iadd, 1) := by decide +kernel
theorem dX12_sumAt_49 : decode cX12_sumAt 49 = .ok (.invokevirtual 274, 3) := by decide +kernel
theorem dX12_sumAt_52 : decode cX12_sumAt 52 = .ok (.iadd, 1) := by decide +kernel
theorem dX12_sumAt_53 : decode cX12_sumAt 53 = .ok (.istore 4, 2) := by decide +kernel
theorem dX12_sumAt_55 : decode cX12_sumAt 55 = .ok (.iinc 5 1, 3) := by decide +kernel
theorem dX12_sumAt_58 : decode cX12_sumAt 58 = .ok (.goto (-43), 3) := by decide +kernel
theorem dX12_sumAt_61 : decode cX12_sumAt 61 = .ok (.iload 4, 2) := by decide +kernel
theorem dX12_sumAt_63 : decode cX12_sumAt 63 = .ok (.ireturn, 1) := by decide +kernel
theorem okc_X12_bearsAt {kn : sKn} {cc : ByteArray} {own : String} {nL : Nat} {D : Nat} {ret : Option FieldType} {ini : Bool} {pc index : Nat} (hD : 3 + 1 ≤ D) (hl : Cond.methodLink own index yX12_bearsAt ∈ wsL_law) (hd : decode cc pc = .ok (.invokevirtual index, 3)) : mOk kn cc own nL wsL_law D ret ini pc (a_callV false (fX12_bearsAt kn) 13 (1 + 1) (pc + 3)) := ok_callV (mX12_bearsAt kn) (good_ws ws_good (fun _ h => h) kw1082) hD (by decide) hl kw1083 kw1084 kw1072 ⟨by decide +kernel, by decide +kernel, by decide +kernel⟩ rfl hd
def tX12_sumAt (kn : sKn) : List (Nat × sA) := [(0, a_iload 2 1), (1, a_iload 3 2), (2, a_stk q_iadd 3), (3, a_stk (q_int 3) 4), (4, a_icmp kn b_le 5 9 7), (7, a_stk (q_int (-1)) 8), (8, a_iret), (9, a_stk (q_int 0) 10), (10, a_istore 4 12), (12, a_iload 2 13), (13, a_istore 5 15), (15, a_iload 5 17), (17, a_iload 2 18), (18, a_iload 3 19), (19, a_stk q_iadd 20), (20, a_icmp kn b_ge 3 61 23), (23, a_aload 0 24), (24, a_get 13 27 27), (27, a_stk (q_int 3) 28), (28, a_iload 1 29), (29, a_stk q_imul 30), (30, a_iload 5 32), (32, a_stk q_iadd 33), (33, a_iald 34), (34, a_stk (q_int (-1)) 35), (35, a_icmp kn b_ne 1 40 38), (38, a_stk (q_int (-1)) 39), (39, a_iret), (40, a_iload 4 42), (42, a_aload 0 43), (43, a_stk (q_int 3) 44), (44, a_iload 1 45), (45, a_stk q_imul 46), (46, a_iload 5 48), (48, a_stk q_iadd 49), (49, a_callV false (fX12_bearsAt kn) 13 2 52), (52, a_stk q_iadd 53), (53, a_istore 4 55), (55, a_iinc 5 1 58), (58, a_goto 15), (61, a_iload 4 63), (63, a_iret)]
def fX12_sumAt (kn : sKn) : List Value → sW → Option sR := fW (tX12_sumAt kn) 6
set_option maxRecDepth 100000 in
set_option maxHeartbeats 4000000 in
theorem mX12_sumAt (kn : sKn) : mM kn yX12_sumAt (Cond.code yX12_sumAt cX12_sumAt 6 (some .int) :: wsL_law) 4 false (fX12_sumAt kn) := mM_W (fun n => mM_of (own := RX12) (ini := false) rfl (by decide +kernel) (by decide +kernel) (all_c (ok_iload_n dX12_sumAt_0 rfl) (all_c (ok_iload_n dX12_sumAt_1 rfl) (all_c (ok_stk (s_iadd dX12_sumAt_2)) (all_c (ok_stk (s_iconst dX12_sumAt_3 (by decide))) (all_c (ok_icmp_le dX12_sumAt_4 (by decide)) (all_c (ok_stk (s_iconst dX12_sumAt_7 (by decide))) (all_c (ok_iret dX12_sumAt_8) (all_c (ok_stk (s_iconst dX12_sumAt_9 (by decide))) (all_c (ok_istore dX12_sumAt_10 (by decide)) (all_c (ok_iload_n dX12_sumAt_12 rfl) (all_c (ok_istore dX12_sumAt_13 (by decide)) (all_c (ok_iload dX12_sumAt_15) (all_c (ok_iload_n dX12_sumAt_17 rfl) (all_c (ok_iload_n dX12_sumAt_18 rfl) (all_c (ok_stk (s_iadd dX12_sumAt_19)) (all_c (ok_icmp_ge dX12_sumAt_20 (by decide)) (all_c (ok_aload_n dX12_sumAt_23 rfl) (all_c (okg_X12_27 kw1068 dX12_sumAt_24) (all_c (ok_stk (s_iconst dX12_sumAt_27 (by decide))) (all_c (ok_iload_n dX12_sumAt_28 rfl) (all_c (ok_stk (s_imul dX12_sumAt_29)) (all_c (ok_iload dX12_sumAt_30) (all_c (ok_stk (s_iadd dX12_sumAt_32)) (all_c (ok_iald dX12_sumAt_33) (all_c (ok_stk (s_iconst dX12_sumAt_34 (by decide))) (all_c (ok_icmp_ne dX12_sumAt_35 (by decide)) (all_c (ok_stk (s_iconst dX12_sumAt_38 (by decide))) (all_c (ok_iret dX12_sumAt_39) (all_c (ok_iload dX12_sumAt_40) (all_c (ok_aload_n dX12_sumAt_42 rfl) (all_c (ok_stk (s_iconst dX12_sumAt_43 (by decide))) (all_c (ok_iload_n dX12_sumAt_44 rfl) (all_c (ok_stk (s_imul dX12_sumAt_45)) (all_c (ok_iload dX12_sumAt_46) (all_c (ok_stk (s_iadd dX12_sumAt_48)) (all_c (okc_X12_bearsAt (by decide) kw1085 dX12_sumAt_49) (all_c (ok_stk (s_iadd dX12_sumAt_52)) (all_c (ok_istore dX12_sumAt_53 (by decide)) (all_c (ok_iinc dX12_sumAt_55 (by decide) (by decide)) (all_c (ok_goto dX12_sumAt_58 (by decide)) (all_c (ok_iload dX12_sumAt_61) (all_c (ok_iret dX12_sumAt_63) all_n)))))))))))))))))))))))))))))))))))))))))) n (fun h => by first | rfl | cases h))
theorem dX12_spareAt_0 : decode cX12_spareAt 0 = .ok (.iload_n 2, 1) := by decide +kernel
theorem dX12_spareAt_1 : decode cX12_spareAt 1 = .ok (.iconst 3, 1) := by decide +kernel
theorem dX12_spareAt_2 : decode cX12_spareAt 2 = .ok (.if_icmp .ne 18, 3) := by decide +kernel
theorem dX12_spareAt_5 : decode cX12_spareAt 5 = .ok (.iload 4, 2) := by decide +kernel
theorem dX12_spareAt_7 : decode cX12_spareAt 7 = .ok (.bipush 9, 2) := by decide +kernel
theorem dX12_spareAt_9 : decode cX12_spareAt 9 = .ok (.if_icmp .gt 9, 3) := by decide +kernel
theorem dX12_spareAt_12 : decode cX12_spareAt 12 = .ok (.sipush 999, 3) := by decide +kernel
theorem dX12_spareAt_15 : decode cX12_spareAt 15 = .ok (.goto 4, 3) := by decide +kernel
theorem dX12_spareAt_18 : decode cX12_spareAt 18 = .ok (.iconst (-1), 1) := by decide +kernel
theorem dX12_spareAt_19 : decode cX12_spareAt 19 = .ok (.ireturn, 1) := by decide +kernel
theorem dX12_spareAt_20 : decode cX12_spareAt 20 = .ok (.aload_n 0, 1) := by decide +kernel
theorem dX12_spareAt_21 : decode cX12_spareAt 21 = .ok (.iload_n 1, 1) := by decide +kernel
theorem dX12_spareAt_22 : decode cX12_spareAt 22 = .ok (.iload_n 2, 1) := by decide +kernel
theorem dX12_spareAt_23 : decode cX12_spareAt 23 = .ok (.iload_n 3, 1) := by decide +kernel
theorem dX12_spareAt_24 : decode cX12_spareAt 24 = .ok (.invokevirtual 298, 3) := by decide +kernel
theorem dX12_spareAt_27 : decode cX12_spareAt 27 = .ok (.istore 5, 2) := by decide +kernel
theorem dX12_spareAt_29 : decode cX12_spareAt 29 = .ok (.iload 5, 2) := by decide +kernel
theorem dX12_spareAt_31 : decode cX12_spareAt 31 = .ok (.iload 4, 2) := by decide +kernel
theorem dX12_spareAt_33 : decode cX12_spareAt 33 = .ok (.if_icmp .ge 7, 3) := by decide +kernel
theorem dX12_spareAt_36 : decode cX12_spareAt 36 = .ok (.iconst (-1), 1) := by decide +kernel
theorem dX12_spareAt_37 : decode cX12_spareAt 37 = .ok (.goto 8, 3) := by decide +kernel
theorem dX12_spareAt_40 : decode cX12_spareAt 40 = .ok (.iload 5, 2) := by decide +kernel
theorem dX12_spareAt_42 : decode cX12_spareAt 42 = .ok (.iload 4, 2) := by decide +kernel
theorem dX12_spareAt_44 : decode cX12_spareAt 44 = .ok (.isub, 1) := by decide +kernel
theorem dX12_spareAt_45 : decode cX12_spareAt 45 = .ok (.ireturn, 1) := by decide +kernel
theorem okc_X12_sumAt {kn : sKn} {cc : ByteArray} {own : String} {nL : Nat} {D : Nat} {ret : Option FieldType} {ini : Bool} {pc index : Nat} (hD : 4 + 1 ≤ D) (hl : Cond.methodLink own index yX12_sumAt ∈ wsL_law) (hd : decode cc pc = .ok (.invokevirtual index, 3)) : mOk kn cc own nL wsL_law D ret ini pc (a_callV false (fX12_sumAt kn) 13 (3 + 1) (pc + 3)) := ok_callV (mX12_sumAt kn) (good_ws ws_good (fun _ h => h) kw1086) hD (by decide) hl kw1087 kw1088 kw1072 ⟨by decide +kernel, by decide +kernel, by decide +kernel⟩ rfl hd
def tX12_spareAt (kn : sKn) : List (Nat × sA) := [(0, a_iload 2 1), (1, a_stk (q_int 3) 2), (2, a_icmp kn b_ne 1 20 5), (5, a_iload 4 7), (7, a_stk (q_int 9) 9), (9, a_icmp kn b_gt 4 18 12), (12, a_stk (q_int 999) 15), (15, a_goto 19), (18, a_stk (q_int (-1)) 19), (19, a_iret), (20, a_aload 0 21), (21, a_iload 1 22), (22, a_iload 2 23), (23, a_iload 3 24), (24, a_callV false (fX12_sumAt kn) 13 4 27), (27, a_istore 5 29), (29, a_iload 5 31), (31, a_iload 4 33), (33, a_icmp kn b_ge 3 40 36), (36, a_stk (q_int (-1)) 37), (37, a_goto 45), (40, a_iload 5 42), (42, a_iload 4 44), (44, a_stk q_isub 45), (45, a_iret)]
def fX12_spareAt (kn : sKn) : List Value → sW → Option sR := fW (tX12_spareAt kn) 6
set_option maxRecDepth 100000 in
set_option maxHeartbeats 4000000 in
theorem mX12_spareAt (kn : sKn) : mM kn yX12_spareAt (Cond.code yX12_spareAt cX12_spareAt 6 (some .int) :: wsL_law) 5 false (fX12_spareAt kn) := mM_W (fun n => mM_of (own := RX12) (ini := false) rfl (by decide +kernel) (by decide +kernel) (all_c (ok_iload_n dX12_spareAt_0 rfl) (all_c (ok_stk (s_iconst dX12_spareAt_1 (by decide))) (all_c (ok_icmp_ne dX12_spareAt_2 (by decide)) (all_c (ok_iload dX12_spareAt_5) (all_c (ok_stk (s_bipush dX12_spareAt_7 (by decide))) (all_c (ok_icmp_gt dX12_spareAt_9 (by decide)) (all_c (ok_stk (s_sipush dX12_spareAt_12 (by decide))) (all_c (ok_goto dX12_spareAt_15 (by decide)) (all_c (ok_stk (s_iconst dX12_spareAt_18 (by decide))) (all_c (ok_iret dX12_spareAt_19) (all_c (ok_aload_n dX12_spareAt_20 rfl) (all_c (ok_iload_n dX12_spareAt_21 rfl) (all_c (ok_iload_n dX12_spareAt_22 rfl) (all_c (ok_iload_n dX12_spareAt_23 rfl) (all_c (okc_X12_sumAt (by decide) kw1089 dX12_spareAt_24) (all_c (ok_istore dX12_spareAt_27 (by decide)) (all_c (ok_iload dX12_spareAt_29) (all_c (ok_iload dX12_spareAt_31) (all_c (ok_icmp_ge dX12_spareAt_33 (by decide)) (all_c (ok_stk (s_iconst dX12_spareAt_36 (by decide))) (all_c (ok_goto dX12_spareAt_37 (by decide)) (all_c (ok_iload dX12_spareAt_40) (all_c (ok_iload dX12_spareAt_42) (all_c (ok_stk (s_isub dX12_spareAt_44)) (all_c (ok_iret dX12_spareAt_45) all_n))))))))))))))))))))))))) n (fun h => by first | rfl | cases h))
theorem dX12_layBest_0 : decode cX12_layBest 0 = .ok (.aload_n 0, 1) := by decide +kernel
theorem dX12_layBest_1 : decode cX12_layBest 1 = .ok (.getfield 98, 3) := by decide +kernel
theorem dX12_layBest_4 : decode cX12_layBest 4 = .ok (.iconst 0, 1) := by decide +kernel
theorem dX12_layBest_5 : decode cX12_layBest 5 = .ok (.iaload, 1) := by decide +kernel
theorem dX12_layBest_6 : decode cX12_layBest 6 = .ok (.iconst 1, 1) := by decide +kernel
theorem dX12_layBest_7 : decode cX12_layBest 7 = .ok (.isub, 1) := by decide +kernel
theorem dX12_layBest_8 : decode cX12_layBest 8 = .ok (.istore_n 3, 1) := by decide +kernel
theorem dX12_layBest_9 : decode cX12_layBest 9 = .ok (.iload_n 3, 1) := by decide +kernel
theorem dX12_layBest_10 : decode cX12_layBest 10 = .ok (.ifCond .lt 160, 3) := by decide +kernel
theorem dX12_layBest_13 : decode cX12_layBest 13 = .ok (.iconst 0, 1) := by decide +kernel
theorem dX12_layBest_14 : decode cX12_layBest 14 = .ok (.istore 4, 2) := by decide +kernel
theorem dX12_layBest_16 : decode cX12_layBest 16 = .ok (.iload 4, 2) := by decide +kernel
theorem dX12_layBest_18 : decode cX12_layBest 18 = .ok (.iconst 3, 1) := by decide +kernel
theorem dX12_layBest_19 : decode cX12_layBest 19 = .ok (.if_icmp .gt 145, 3) := by decide +kernel
theorem dX12_layBest_22 : decode cX12_layBest 22 = .ok (.aload_n 0, 1) := by decide +kernel
theorem dX12_layBest_23 : decode cX12_layBest 23 = .ok (.iload_n 3, 1) := by decide +kernel
theorem dX12_layBest_24 : decode cX12_layBest 24 = .ok (.iload 4, 2) := by decide +kernel
theorem dX12_layBest_26 : decode cX12_layBest 26 = .ok (.iload_n 1, 1) := by decide +kernel
theorem dX12_layBest_27 : decode cX12_layBest 27 = .ok (.iload_n 2, 1) := by decide +kernel
theorem dX12_layBest_28 : decode cX12_layBest 28 = .ok (.invokevirtual 304, 3) := by decide +kernel
theorem dX12_layBest_31 : decode cX12_layBest 31 = .ok (.istore 5, 2) := by decide +kernel
theorem dX12_layBest_33 : decode cX12_layBest 33 = .ok (.iload_n 3, 1) := by decide +kernel
theorem dX12_layBest_34 : decode cX12_layBest 34 = .ok (.aload_n 0, 1) := by decide +kernel
theorem dX12_layBest_35 : decode cX12_layBest 35 = .ok (.getfield 98, 3) := by decide +kernel
theorem dX12_layBest_38 : decode cX12_layBest 38 = .ok (.iconst 0, 1) := by decide +kernel
theorem dX12_layBest_39 : decode cX12_layBest 39 = .ok (.iaload, 1) := by decide +kernel
theorem dX12_layBest_40 : decode cX12_layBest 40 = .ok (.iconst 1, 1) := by decide +kernel
theorem dX12_layBest_41 : decode cX12_layBest 41 = .ok (.isub, 1) := by decide +kernel
theorem dX12_layBest_42 : decode cX12_layBest 42 = .ok (.if_icmp .ne 9, 3) := by decide +kernel
theorem dX12_layBest_45 : decode cX12_layBest 45 = .ok (.ldc_w 308, 3) := by decide +kernel
theorem dX12_layBest_48 : decode cX12_layBest 48 = .ok (.goto 4, 3) := by decide +kernel
theorem dX12_layBest_51 : decode cX12_layBest 51 = .ok (.iconst (-1), 1) := by decide +kernel
theorem dX12_layBest_52 : decode cX12_layBest 52 = .ok (.istore 6, 2) := by decide +kernel
theorem dX12_layBest_54 : decode cX12_layBest 54 = .ok (.iconst 0, 1) := by decide +kernel
theorem dX12_layBest_55 : decode cX12_layBest 55 = .ok (.istore 7, 2) := by decide +kernel
theorem dX12_layBest_57 : decode cX12_layBest 57 = .ok (.iload 7, 2) := by decide +kernel
theorem dX12_layBest_59 : decode cX12_layBest 59 = .ok (.iconst 3, 1) := by decide +kernel
theorem dX12_layBest_60 : decode cX12_layBest 60 = .ok (.if_icmp .gt 64, 3) := by decide +kernel
theorem dX12_layBest_63 : decode cX12_layBest 63 = .ok (.iload_n 3, 1) := by decide +kernel
theorem dX12_layBest_64 : decode cX12_layBest 64 = .ok (.aload_n 0, 1) := by decide +kernel
theorem dX12_layBest_65 : decode cX12_layBest 65 = .ok (.getfield 98, 3) := by decide +kernel
theorem dX12_layBest_68 : decode cX12_layBest 68 = .ok (.iconst 0, 1) := by decide +kernel
theorem dX12_layBest_69 : decode cX12_layBest 69 = .ok (.iaload, 1) := by decide +kernel
theorem dX12_layBest_70 : decode cX12_layBest 70 = .ok (.iconst 1, 1) := by decide +kernel
theorem dX12_layBest_71 : decode cX12_layBest 71 = .ok (.isub, 1) := by decide +kernel
theorem dX12_layBest_72 : decode cX12_layBest 72 = .ok (.if_icmp .ge 52, 3) := by decide +kernel
theorem dX12_layBest_75 : decode cX12_layBest 75 = .ok (.iload 4, 2) := by decide +kernel
theorem dX12_layBest_77 : decode cX12_layBest 77 = .ok (.iload 7, 2) := by decide +kernel
theorem dX12_layBest_79 : decode cX12_layBest 79 = .ok (.invokestatic 309, 3) := by decide +kernel
theorem dX12_layBest_82 : decode cX12_layBest 82 = .ok (.ifCond .eq 36, 3) := by decide +kernel
theorem dX12_layBest_85 : decode cX12_layBest 85 = .ok (.aload_n 0, 1) := by decide +kernel
theorem dX12_layBest_86 : decode cX12_layBest 86 = .ok (.getfield 130, 3) := by decide +kernel
theorem dX12_layBest_89 : decode cX12_layBest 89 = .ok (.iconst 4, 1) := by decide +kernel
theorem dX12_layBest_90 : decode cX12_layBest 90 = .ok (.iload_n 3, 1) := by decide +kernel
theorem dX12_layBest_91 : decode cX12_layBest 91 = .ok (.imul, 1) := by decide +kernel
theorem dX12_layBest_92 : decode cX12_layBest 92 = .ok (.iconst 4, 1) := by decide +kernel
theorem dX12_layBest_93 : decode cX12_layBest 93 = .ok (.iadd, 1) := by decide +kernel
theorem dX12_layBest_94 : decode cX12_layBest 94 = .ok (.iload 7, 2) := by decide +kernel
theorem dX12_layBest_96 : decode cX12_layBest 96 = .ok (.iadd, 1) := by decide +kernel
theorem dX12_layBest_97 : decode cX12_layBest 97 = .ok (.iaload, 1) := by decide +kernel
theorem dX12_layBest_98 : decode cX12_layBest 98 = .ok (.iload 6, 2) := by decide +kernel
theorem dX12_layBest_100 : decode cX12_layBest 100 = .ok (.if_icmp .le 18, 3) := by decide +kernel
theorem dX12_layBest_103 : decode cX12_layBest 103 = .ok (.aload_n 0, 1) := by decide +kernel
theorem dX12_layBest_104 : decode cX12_layBest 104 = .ok (.getfield 130, 3) := by decide +kernel
theorem dX12_layBest_107 : decode cX12_layBest 107 = .ok (.iconst 4, 1) := by decide +kernel
theorem dX12_layBest_108 : decode cX12_layBest 108 = .ok (.iload_n 3, 1) := by decide +kernel
theorem dX12_layBest_109 : decode cX12_layBest 109 = .ok (.imul, 1) := by decide +kernel
theorem dX12_layBest_110 : decode cX12_layBest 110 = .ok (.iconst 4, 1) := by decide +kernel
theorem dX12_layBest_111 : decode cX12_layBest 111 = .ok (.iadd, 1) := by decide +kernel
theorem dX12_layBest_112 : decode cX12_layBest 112 = .ok (.iload 7, 2) := by decide +kernel
theorem dX12_layBest_114 : decode cX12_layBest 114 = .ok (.iadd, 1) := by decide +kernel
theorem dX12_layBest_115 : decode cX12_layBest 115 = .ok (.iaload, 1) := by decide +kernel
theorem dX12_layBest_116 : decode cX12_layBest 116 = .ok (.istore 6, 2) := by decide +kernel
theorem dX12_layBest_118 : decode cX12_layBest 118 = .ok (.iinc 7 1, 3) := by decide +kernel
theorem dX12_layBest_121 : decode cX12_layBest 121 = .ok (.goto (-64), 3) := by decide +kernel
theorem dX12_layBest_124 : decode cX12_layBest 124 = .ok (.aload_n 0, 1) := by decide +kernel
theorem dX12_layBest_125 : decode cX12_layBest 125 = .ok (.getfield 130, 3) := by decide +kernel
theorem dX12_layBest_128 : decode cX12_layBest 128 = .ok (.iconst 4, 1) := by decide +kernel
theorem dX12_layBest_129 : decode cX12_layBest 129 = .ok (.iload_n 3, 1) := by decide +kernel
theorem dX12_layBest_130 : decode cX12_layBest 130 = .ok (.imul, 1) := by decide +kernel
theorem dX12_layBest_131 : decode cX12_layBest 131 = .ok (.iload 4, 2) := by decide +kernel
theorem dX12_layBest_133 : decode cX12_layBest 133 = .ok (.iadd, 1) := by decide +kernel
theorem dX12_layBest_134 : decode cX12_layBest 134 = .ok (.iload 5, 2) := by decide +kernel
theorem dX12_layBest_136 : decode cX12_layBest 136 = .ok (.iconst (-1), 1) := by decide +kernel
theorem dX12_layBest_137 : decode cX12_layBest 137 = .ok (.if_icmp .eq 9, 3) := by decide +kernel
theorem dX12_layBest_140 : decode cX12_layBest 140 = .ok (.iload 6, 2) := by decide +kernel
theorem dX12_layBest_142 : decode cX12_layBest 142 = .ok (.iconst (-1), 1) := by decide +kernel
theorem dX12_layBest_143 : decode cX12_layBest 143 = .ok (.if_icmp .ne 7, 3) := by decide +kernel
theorem dX12_layBest_146 : decode cX12_layBest 146 = .ok (.iconst (-1), 1) := by decide +kernel
theorem dX12_layBest_147 : decode cX12_layBest 147 = .ok (.goto 10, 3) := by decide +kernel
theorem dX12_layBest_150 : decode cX12_layBest 150 = .ok (.iload 5, 2) := by decide +kernel
theorem dX12_layBest_152 : decode cX12_layBest 152 = .ok (.iload 6, 2) := by decide +kernel
theorem dX12_layBest_154 : decode cX12_layBest 154 = .ok (.invokestatic 312, 3) := by decide +kernel
theorem dX12_layBest_157 : decode cX12_layBest 157 = .ok (.iastore, 1) := by decide +kernel
theorem dX12_layBest_158 : decode cX12_layBest 158 = .ok (.iinc 4 1, 3) := by decide +kernel
theorem dX12_layBest_161 : decode cX12_layBest 161 = .ok (.goto (-145), 3) := by decide +kernel
theorem dX12_layBest_164 : decode cX12_layBest 164 = .ok (.iinc 3 (-1), 3) := by decide +kernel
theorem dX12_layBest_167 : decode cX12_layBest 167 = .ok (.goto (-158), 3) := by decide +kernel
theorem dX12_layBest_170 : decode cX12_layBest 170 = .ok (.return_, 1) := by decide +kernel
theorem okc_X12_spareAt {kn : sKn} {cc : ByteArray} {own : String} {nL : Nat} {D : Nat} {ret : Option FieldType} {ini : Bool} {pc index : Nat} (hD : 5 + 1 ≤ D) (hl : Cond.methodLink own index yX12_spareAt ∈ wsL_law) (hd : decode cc pc = .ok (.invokevirtual index, 3)) : mOk kn cc own nL wsL_law D ret ini pc (a_callV false (fX12_spareAt kn) 13 (4 + 1) (pc + 3)) := ok_callV (mX12_spareAt kn) (good_ws ws_good (fun _ h => h) kw1090) hD (by decide) hl kw1091 kw1092 kw1072 ⟨by decide +kernel, by decide +kernel, by decide +kernel⟩ rfl hd
theorem okc_X12_follows {kn : sKn} {cc : ByteArray} {own : String} {nL : Nat} {D : Nat} {ret : Option FieldType} {ini : Bool} {pc index : Nat} (hD : 2 + 1 ≤ D) (hl : Cond.methodLink own index yX12_follows ∈ wsL_law) (hd : decode cc pc = .ok (.invokestatic index, 3)) : mOk kn cc own nL wsL_law D ret ini pc (a_callS false (fX12_follows kn) 2 (pc + 3)) := ok_callS (mX12_follows kn) (good_ws ws_good (fun _ h => h) kw1095) hD (by decide) hl kw1096 kw1072 ⟨by decide +kernel, by decide +kernel, by decide +kernel⟩ hd
theorem okc_X12_least {kn : sKn} {cc : ByteArray} {own : String} {nL : Nat} {D : Nat} {ret : Option FieldType} {ini : Bool} {pc index : Nat} (hD : 1 + 1 ≤ D) (hl : Cond.methodLink own index yX12_least ∈ wsL_law) (hd : decode cc pc = .ok (.invokestatic index, 3)) : mOk kn cc own nL wsL_law D ret ini pc (a_callS false (fX12_least kn) 2 (pc + 3)) := ok_callS (mX12_least kn) (good_ws ws_good (fun _ h => h) kw1099) hD (by decide) hl kw1100 kw1072 ⟨by decide +kernel, by decide +kernel, by decide +kernel⟩ hd
def tX12_layBest (kn : sKn) : List (Nat × sA) := [(0, a_aload 0 1), (1, a_get 13 14 4), (4, a_stk (q_int 0) 5), (5, a_iald 6), (6, a_stk (q_int 1) 7), (7, a_stk q_isub 8), (8, a_istore 3 9), (9, a_iload 3 10), (10, a_if kn b_lt 2 170 13), (13, a_stk (q_int 0) 14), (14, a_istore 4 16), (16, a_iload 4 18), (18, a_stk (q_int 3) 19), (19, a_icmp kn b_gt 4 164 22), (22, a_aload 0 23), (23, a_iload 3 24), (24, a_iload 4 26), (26, a_iload 1 27), (27, a_iload 2 28), (28, a_callV false (fX12_spareAt kn) 13 5 31), (31, a_istore 5 33), (33, a_iload 3 34), (34, a_aload 0 35), (35, a_get 13 14 38), (38, a_stk (q_int 0) 39), (39, a_iald 40), (40, a_stk (q_int 1) 41), (41, a_stk q_isub 42), (42, a_icmp kn b_ne 1 51 45), (45, a_stk (q_int (100000)) 48), (48, a_goto 52), (51, a_stk (q_int (-1)) 52), (52, a_istore 6 54), (54, a_stk (q_int 0) 55), (55, a_istore 7 57), (57, a_iload 7 59), (59, a_stk (q_int 3) 60), (60, a_icmp kn b_gt 4 124 63), (63, a_iload 3 64), (64, a_aload 0 65), (65, a_get 13 14 68), (68, a_stk (q_int 0) 69), (69, a_iald 70), (70, a_stk (q_int 1) 71), (71, a_stk q_isub 72), (72, a_icmp kn b_ge 3 124 75), (75, a_iload 4 77), (77, a_iload 7 79), (79, a_callS false (fX12_follows kn) 2 82), (82, a_if kn b_eq 0 118 85), (85, a_aload 0 86), (86, a_get 13 29 89), (89, a_stk (q_int 4) 90), (90, a_iload 3 91), (91, a_stk q_imul 92), (92, a_stk (q_int 4) 93), (93, a_stk q_iadd 94), (94, a_iload 7 96), (96, a_stk q_iadd 97), (97, a_iald 98), (98, a_iload 6 100), (100, a_icmp kn b_le 5 118 103), (103, a_aload 0 104), (104, a_get 13 29 107), (107, a_stk (q_int 4) 108), (108, a_iload 3 109), (109, a_stk q_imul 110), (110, a_stk (q_int 4) 111), (111, a_stk q_iadd 112), (112, a_iload 7 114), (114, a_stk q_iadd 115), (115, a_iald 116), (116, a_istore 6 118), (118, a_iinc 7 1 121), (121, a_goto 57), (124, a_aload 0 125), (125, a_get 13 29 128), (128, a_stk (q_int 4) 129), (129, a_iload 3 130), (130, a_stk q_imul 131), (131, a_iload 4 133), (133, a_stk q_iadd 134), (134, a_iload 5 136), (136, a_stk (q_int (-1)) 137), (137, a_icmp kn b_eq 0 146 140), (140, a_iload 6 142), (142, a_stk (q_int (-1)) 143), (143, a_icmp kn b_ne 1 150 146), (146, a_stk (q_int (-1)) 147), (147, a_goto 157), (150, a_iload 5 152), (152, a_iload 6 154), (154, a_callS false (fX12_least kn) 2 157), (157, a_iast 158), (158, a_iinc 4 1 161), (161, a_goto 16), (164, a_iinc 3 (-1) 167), (167, a_goto 9), (170, a_vret)]
def fX12_layBest (kn : sKn) : List Value → sW → Option sR := fW (tX12_layBest kn) 8
set_option maxRecDepth 100000 in
set_option maxHeartbeats 4000000 in
theorem mX12_layBest (kn : sKn) : mM kn yX12_layBest (Cond.code yX12_layBest cX12_layBest 8 none :: wsL_law) 6 true (fX12_layBest kn) := mM_W (fun n => mM_of (own := RX12) (ini := false) rfl (by decide +kernel) (by decide +kernel) (all_c (ok_aload_n dX12_layBest_0 rfl) (all_c (okg_X12_14 kw1069 dX12_layBest_1) (all_c (ok_stk (s_iconst dX12_layBest_4 (by decide))) (all_c (ok_iald dX12_layBest_5) (all_c (ok_stk (s_iconst dX12_layBest_6 (by decide))) (all_c (ok_stk (s_isub dX12_layBest_7)) (all_c (ok_istore_n dX12_layBest_8 rfl (by decide)) (all_c (ok_iload_n dX12_layBest_9 rfl) (all_c (ok_if_lt dX12_layBest_10 (by decide)) (all_c (ok_stk (s_iconst dX12_layBest_13 (by decide))) (all_c (ok_istore dX12_layBest_14 (by decide)) (all_c (ok_iload dX12_layBest_16) (all_c (ok_stk (s_iconst dX12_layBest_18 (by decide))) (all_c (ok_icmp_gt dX12_layBest_19 (by decide)) (all_c (ok_aload_n dX12_layBest_22 rfl) (all_c (ok_iload_n dX12_layBest_23 rfl) (all_c (ok_iload dX12_layBest_24) (all_c (ok_iload_n dX12_layBest_26 rfl) (all_c (ok_iload_n dX12_layBest_27 rfl) (all_c (okc_X12_spareAt (by decide) kw1093 dX12_layBest_28) (all_c (ok_istore dX12_layBest_31 (by decide)) (all_c (ok_iload_n dX12_layBest_33 rfl) (all_c (ok_aload_n dX12_layBest_34 rfl) (all_c (okg_X12_14 kw1069 dX12_layBest_35) (all_c (ok_stk (s_iconst dX12_layBest_38 (by decide))) (all_c (ok_iald dX12_layBest_39) (all_c (ok_stk (s_iconst dX12_layBest_40 (by decide))) (all_c (ok_stk (s_isub dX12_layBest_41)) (all_c (ok_icmp_ne dX12_layBest_42 (by decide)) (all_c (ok_ldcw kw1094 dX12_layBest_45) (all_c (ok_goto dX12_layBest_48 (by decide)) (all_c (ok_stk (s_iconst dX12_layBest_51 (by decide))) (all_c (ok_istore dX12_layBest_52 (by decide)) (all_c (ok_stk (s_iconst dX12_layBest_54 (by decide))) (all_c (ok_istore dX12_layBest_55 (by decide)) (all_c (ok_iload dX12_layBest_57) (all_c (ok_stk (s_iconst dX12_layBest_59 (by decide))) (all_c (ok_icmp_gt dX12_layBest_60 (by decide)) (all_c (ok_iload_n dX12_layBest_63 rfl) (all_c (ok_aload_n dX12_layBest_64 rfl) (all_c (okg_X12_14 kw1069 dX12_layBest_65) (all_c (ok_stk (s_iconst dX12_layBest_68 (by decide))) (all_c (ok_iald dX12_layBest_69) (all_c (ok_stk (s_iconst dX12_layBest_70 (by decide))) (all_c (ok_stk (s_isub dX12_layBest_71)) (all_c (ok_icmp_ge dX12_layBest_72 (by decide)) (all_c (ok_iload dX12_layBest_75) (all_c (ok_iload dX12_layBest_77) (all_c (okc_X12_follows (by decide) kw1097 dX12_layBest_79) (all_c (ok_if_eq dX12_layBest_82 (by decide)) (all_c (ok_aload_n dX12_layBest_85 rfl) (all_c (okg_X12_29 kw1098 dX12_layBest_86) (all_c (ok_stk (s_iconst dX12_layBest_89 (by decide))) (all_c (ok_iload_n dX12_layBest_90 rfl) (all_c (ok_stk (s_imul dX12_layBest_91)) (all_c (ok_stk (s_iconst dX12_layBest_92 (by decide))) (all_c (ok_stk (s_iadd dX12_layBest_93)) (all_c (ok_iload dX12_layBest_94) (all_c (ok_stk (s_iadd dX12_layBest_96)) (all_c (ok_iald dX12_layBest_97) (all_c (ok_iload dX12_layBest_98) (all_c (ok_icmp_le dX12_layBest_100 (by decide)) (all_c (ok_aload_n dX12_layBest_103 rfl) (all_c (okg_X12_29 kw1098 dX12_layBest_104) (all_c (ok_stk (s_iconst dX12_layBest_107 (by decide))) (all_c (ok_iload_n dX12_layBest_108 rfl) (all_c (ok_stk (s_imul dX12_layBest_109)) (all_c (ok_stk (s_iconst dX12_layBest_110 (by decide))) (all_c (ok_stk (s_iadd dX12_layBest_111)) (all_c (ok_iload dX12_layBest_112) (all_c (ok_stk (s_iadd dX12_layBest_114)) (all_c (ok_iald dX12_layBest_115) (all_c (ok_istore dX12_layBest_116 (by decide)) (all_c (ok_iinc dX12_layBest_118 (by decide) (by decide)) (all_c (ok_goto dX12_layBest_121 (by decide)) (all_c (ok_aload_n dX12_layBest_124 rfl) (all_c (okg_X12_29 kw1098 dX12_layBest_125) (all_c (ok_stk (s_iconst dX12_layBest_128 (by decide))) (all_c (ok_iload_n dX12_layBest_129 rfl) (all_c (ok_stk (s_imul dX12_layBest_130)) (all_c (ok_iload dX12_layBest_131) (all_c (ok_stk (s_iadd dX12_layBest_133)) (all_c (ok_iload dX12_layBest_134) (all_c (ok_stk (s_iconst dX12_layBest_136 (by decide))) (all_c (ok_icmp_eq dX12_layBest_137 (by decide)) (all_c (ok_iload dX12_layBest_140) (all_c (ok_stk (s_iconst dX12_layBest_142 (by decide))) (all_c (ok_icmp_ne dX12_layBest_143 (by decide)) (all_c (ok_stk (s_iconst dX12_layBest_146 (by decide))) (all_c (ok_goto dX12_layBest_147 (by decide)) (all_c (ok_iload dX12_layBest_150) (all_c (ok_iload dX12_layBest_152) (all_c (okc_X12_least (by decide) kw1101 dX12_layBest_154) (all_c (ok_iast dX12_layBest_157) (all_c (ok_iinc dX12_layBest_158 (by decide) (by decide)) (all_c (ok_goto dX12_layBest_161 (by decide)) (all_c (ok_iinc dX12_layBest_164 (by decide) (by decide)) (all_c (ok_goto dX12_layBest_167 (by decide)) (all_c (ok_vret dX12_layBest_170) all_n))))))))))))))))))))))))))))))))))))))))))))))))))))))))))))))))))))))))))))))))))))))))))))))))))) n (fun h => by first | rfl | cases h))
theorem dX12_bestOf_0 : decode cX12_bestOf 0 = .ok (.aload_n 0, 1) := by decide +kernel
theorem dX12_bestOf_1 : decode cX12_bestOf 1 = .ok (.aload_n 0, 1) := by decide +kernel
theorem dX12_bestOf_2 : decode cX12_bestOf 2 = .ok (.getfield 98, 3) := by decide +kernel
theorem dX12_bestOf_5 : decode cX12_bestOf 5 = .ok (.bipush 88, 2) := by decide +kernel
theorem dX12_bestOf_7 : decode cX12_bestOf 7 = .ok (.iload_n 1, 1) := by decide +kernel
theorem dX12_bestOf_8 : decode cX12_bestOf 8 = .ok (.iadd, 1) := by decide +kernel
theorem dX12_bestOf_9 : decode cX12_bestOf 9 = .ok (.iaload, 1) := by decide +kernel
theorem dX12_bestOf_10 : decode cX12_bestOf 10 = .ok (.aload_n 0, 1) := by decide +kernel
theorem dX12_bestOf_11 : decode cX12_bestOf 11 = .ok (.getfield 98, 3) := by decide +kernel
theorem dX12_bestOf_14 : decode cX12_bestOf 14 = .ok (.bipush 82, 2) := by decide +kernel
theorem dX12_bestOf_16 : decode cX12_bestOf 16 = .ok (.iload_n 1, 1) := by decide +kernel
theorem dX12_bestOf_17 : decode cX12_bestOf 17 = .ok (.iadd, 1) := by decide +kernel
theorem dX12_bestOf_18 : decode cX12_bestOf 18 = .ok (.iaload, 1) := by decide +kernel
theorem dX12_bestOf_19 : decode cX12_bestOf 19 = .ok (.invokevirtual 315, 3) := by decide +kernel
theorem dX12_bestOf_22 : decode cX12_bestOf 22 = .ok (.iconst (-1), 1) := by decide +kernel
theorem dX12_bestOf_23 : decode cX12_bestOf 23 = .ok (.istore_n 2, 1) := by decide +kernel
theorem dX12_bestOf_24 : decode cX12_bestOf 24 = .ok (.iconst 0, 1) := by decide +kernel
theorem dX12_bestOf_25 : decode cX12_bestOf 25 = .ok (.istore_n 3, 1) := by decide +kernel
theorem dX12_bestOf_26 : decode cX12_bestOf 26 = .ok (.iload_n 3, 1) := by decide +kernel
theorem dX12_bestOf_27 : decode cX12_bestOf 27 = .ok (.iconst 3, 1) := by decide +kernel
theorem dX12_bestOf_28 : decode cX12_bestOf 28 = .ok (.if_icmp .gt 26, 3) := by decide +kernel
theorem dX12_bestOf_31 : decode cX12_bestOf 31 = .ok (.aload_n 0, 1) := by decide +kernel
theorem dX12_bestOf_32 : decode cX12_bestOf 32 = .ok (.getfield 130, 3) := by decide +kernel
theorem dX12_bestOf_35 : decode cX12_bestOf 35 = .ok (.iload_n 3, 1) := by decide +kernel
theorem dX12_bestOf_36 : decode cX12_bestOf 36 = .ok (.iaload, 1) := by decide +kernel
theorem dX12_bestOf_37 : decode cX12_bestOf 37 = .ok (.iload_n 2, 1) := by decide +kernel
theorem dX12_bestOf_38 : decode cX12_bestOf 38 = .ok (.if_icmp .le 10, 3) := by decide +kernel
theorem dX12_bestOf_41 : decode cX12_bestOf 41 = .ok (.aload_n 0, 1) := by decide +kernel
theorem dX12_bestOf_42 : decode cX12_bestOf 42 = .ok (.getfield 130, 3) := by decide +kernel
theorem dX12_bestOf_45 : decode cX12_bestOf 45 = .ok (.iload_n 3, 1) := by decide +kernel
theorem dX12_bestOf_46 : decode cX12_bestOf 46 = .ok (.iaload, 1) := by decide +kernel
theorem dX12_bestOf_47 : decode cX12_bestOf 47 = .ok (.istore_n 2, 1) := by decide +kernel
theorem dX12_bestOf_48 : decode cX12_bestOf 48 = .ok (.iinc 3 1, 3) := by decide +kernel
theorem dX12_bestOf_51 : decode cX12_bestOf 51 = .ok (.goto (-25), 3) := by decide +kernel
theorem dX12_bestOf_54 : decode cX12_bestOf 54 = .ok (.iload_n 2, 1) := by decide +kernel
theorem dX12_bestOf_55 : decode cX12_bestOf 55 = .ok (.ireturn, 1) := by decide +kernel
theorem okc_X12_layBest {kn : sKn} {cc : ByteArray} {own : String} {nL : Nat} {D : Nat} {ret : Option FieldType} {ini : Bool} {pc index : Nat} (hD : 6 + 1 ≤ D) (hl : Cond.methodLink own index yX12_layBest ∈ wsL_law) (hd : decode cc pc = .ok (.invokevirtual index, 3)) : mOk kn cc own nL wsL_law D ret ini pc (a_callV true (fX12_layBest kn) 13 (2 + 1) (pc + 3)) := ok_callV (mX12_layBest kn) (good_ws ws_good (fun _ h => h) kw1102) hD (by decide) hl kw1103 kw1104 kw1072 ⟨by decide +kernel, by decide +kernel, by decide +kernel⟩ rfl hd
def tX12_bestOf (kn : sKn) : List (Nat × sA) := [(0, a_aload 0 1), (1, a_aload 0 2), (2, a_get 13 14 5), (5, a_stk (q_int 88) 7), (7, a_iload 1 8), (8, a_stk q_iadd 9), (9, a_iald 10), (10, a_aload 0 11), (11, a_get 13 14 14), (14, a_stk (q_int 82) 16), (16, a_iload 1 17), (17, a_stk q_iadd 18), (18, a_iald 19), (19, a_callV true (fX12_layBest kn) 13 3 22), (22, a_stk (q_int (-1)) 23), (23, a_istore 2 24), (24, a_stk (q_int 0) 25), (25, a_istore 3 26), (26, a_iload 3 27), (27, a_stk (q_int 3) 28), (28, a_icmp kn b_gt 4 54 31), (31, a_aload 0 32), (32, a_get 13 29 35), (35, a_iload 3 36), (36, a_iald 37), (37, a_iload 2 38), (38, a_icmp kn b_le 5 48 41), (41, a_aload 0 42), (42, a_get 13 29 45), (45, a_iload 3 46), (46, a_iald 47), (47, a_istore 2 48), (48, a_iinc 3 1 51), (51, a_goto 26), (54, a_iload 2 55), (55, a_iret)]
def fX12_bestOf (kn : sKn) : List Value → sW → Option sR := fW (tX12_bestOf kn) 4
set_option maxRecDepth 100000 in
set_option maxHeartbeats 4000000 in
theorem mX12_bestOf (kn : sKn) : mM kn yX12_bestOf (Cond.code yX12_bestOf cX12_bestOf 4 (some .int) :: wsL_law) 7 false (fX12_bestOf kn) := mM_W (fun n => mM_of (own := RX12) (ini := false) rfl (by decide +kernel) (by decide +kernel) (all_c (ok_aload_n dX12_bestOf_0 rfl) (all_c (ok_aload_n dX12_bestOf_1 rfl) (all_c (okg_X12_14 kw1069 dX12_bestOf_2) (all_c (ok_stk (s_bipush dX12_bestOf_5 (by decide))) (all_c (ok_iload_n dX12_bestOf_7 rfl) (all_c (ok_stk (s_iadd dX12_bestOf_8)) (all_c (ok_iald dX12_bestOf_9) (all_c (ok_aload_n dX12_bestOf_10 rfl) (all_c (okg_X12_14 kw1069 dX12_bestOf_11) (all_c (ok_stk (s_bipush dX12_bestOf_14 (by decide))) (all_c (ok_iload_n dX12_bestOf_16 rfl) (all_c (ok_stk (s_iadd dX12_bestOf_17)) (all_c (ok_iald dX12_bestOf_18) (all_c (okc_X12_layBest (by decide) kw1105 dX12_bestOf_19) (all_c (ok_stk (s_iconst dX12_bestOf_22 (by decide))) (all_c (ok_istore_n dX12_bestOf_23 rfl (by decide)) (all_c (ok_stk (s_iconst dX12_bestOf_24 (by decide))) (all_c (ok_istore_n dX12_bestOf_25 rfl (by decide)) (all_c (ok_iload_n dX12_bestOf_26 rfl) (all_c (ok_stk (s_iconst dX12_bestOf_27 (by decide))) (all_c (ok_icmp_gt dX12_bestOf_28 (by decide)) (all_c (ok_aload_n dX12_bestOf_31 rfl) (all_c (okg_X12_29 kw1098 dX12_bestOf_32) (all_c (ok_iload_n dX12_bestOf_35 rfl) (all_c (ok_iald dX12_bestOf_36) (all_c (ok_iload_n dX12_bestOf_37 rfl) (all_c (ok_icmp_le dX12_bestOf_38 (by decide)) (all_c (ok_aload_n dX12_bestOf_41 rfl) (all_c (okg_X12_29 kw1098 dX12_bestOf_42) (all_c (ok_iload_n dX12_bestOf_45 rfl) (all_c (ok_iald dX12_bestOf_46) (all_c (ok_istore_n dX12_bestOf_47 rfl (by decide)) (all_c (ok_iinc dX12_bestOf_48 (by decide) (by decide)) (all_c (ok_goto dX12_bestOf_51 (by decide)) (all_c (ok_iload_n dX12_bestOf_54 rfl) (all_c (ok_iret dX12_bestOf_55) all_n)))))))))))))))))))))))))))))))))))) n (fun h => by first | rfl | cases h))
theorem dX12_hasPath_0 : decode cX12_hasPath 0 = .ok (.aload_n 0, 1) := by decide +kernel
theorem dX12_hasPath_1 : decode cX12_hasPath 1 = .ok (.iload_n 1, 1) := by decide +kernel
theorem dX12_hasPath_2 : decode cX12_hasPath 2 = .ok (.invokevirtual 319, 3) := by decide +kernel
theorem dX12_hasPath_5 : decode cX12_hasPath 5 = .ok (.iconst (-1), 1) := by decide +kernel
theorem dX12_hasPath_6 : decode cX12_hasPath 6 = .ok (.if_icmp .eq 7, 3) := by decide +kernel
theorem dX12_hasPath_9 : decode cX12_hasPath 9 = .ok (.iconst 1, 1) := by decide +kernel
theorem dX12_hasPath_10 : decode cX12_hasPath 10 = .ok (.goto 4, 3) := by decide +kernel
theorem dX12_hasPath_13 : decode cX12_hasPath 13 = .ok (.iconst 0, 1) := by decide +kernel
theorem dX12_hasPath_14 : decode cX12_hasPath 14 = .ok (.ireturn, 1) := by decide +kernel
theorem okc_X12_bestOf {kn : sKn} {cc : ByteArray} {own : String} {nL : Nat} {D : Nat} {ret : Option FieldType} {ini : Bool} {pc index : Nat} (hD : 7 + 1 ≤ D) (hl : Cond.methodLink own index yX12_bestOf ∈ wsL_law) (hd : decode cc pc = .ok (.invokevirtual index, 3)) : mOk kn cc own nL wsL_law D ret ini pc (a_callV false (fX12_bestOf kn) 13 (1 + 1) (pc + 3)) := ok_callV (mX12_bestOf kn) (good_ws ws_good (fun _ h => h) kw1106) hD (by decide) hl kw1107 kw1108 kw1072 ⟨by decide +kernel, by decide +kernel, by decide +kernel⟩ rfl hd
def tX12_hasPath (kn : sKn) : List (Nat × sA) := [(0, a_aload 0 1), (1, a_iload 1 2), (2, a_callV false (fX12_bestOf kn) 13 2 5), (5, a_stk (q_int (-1)) 6), (6, a_icmp kn b_eq 0 13 9), (9, a_stk (q_int 1) 10), (10, a_goto 14), (13, a_stk (q_int 0) 14), (14, a_zret)]
def fX12_hasPath (kn : sKn) : List Value → sW → Option sR := fW (tX12_hasPath kn) 2
set_option maxRecDepth 100000 in
set_option maxHeartbeats 4000000 in
theorem mX12_hasPath (kn : sKn) : mM kn yX12_hasPath (Cond.code yX12_hasPath cX12_hasPath 2 (some .boolean) :: wsL_law) 8 false (fX12_hasPath kn) := mM_W (fun n => mM_of (own := RX12) (ini := false) rfl (by decide +kernel) (by decide +kernel) (all_c (ok_aload_n dX12_hasPath_0 rfl) (all_c (ok_iload_n dX12_hasPath_1 rfl) (all_c (okc_X12_bestOf (by decide) kw1109 dX12_hasPath_2) (all_c (ok_stk (s_iconst dX12_hasPath_5 (by decide))) (all_c (ok_icmp_eq dX12_hasPath_6 (by decide)) (all_c (ok_stk (s_iconst dX12_hasPath_9 (by decide))) (all_c (ok_goto dX12_hasPath_10 (by decide)) (all_c (ok_stk (s_iconst dX12_hasPath_13 (by decide))) (all_c (ok_zret dX12_hasPath_14) all_n))))))))) n (fun h => by first | rfl | cases h))
theorem dX12_pathsNow_0 : decode cX12_pathsNow 0 = .ok (.iconst 0, 1) := by decide +kernel
theorem dX12_pathsNow_1 : decode cX12_pathsNow 1 = .ok (.istore_n 1, 1) := by decide +kernel
theorem dX12_pathsNow_2 : decode cX12_pathsNow 2 = .ok (.iconst 0, 1) := by decide +kernel
theorem dX12_pathsNow_3 : decode cX12_pathsNow 3 = .ok (.istore_n 2, 1) := by decide +kernel
theorem dX12_pathsNow_4 : decode cX12_pathsNow 4 = .ok (.iload_n 2, 1) := by decide +kernel
theorem dX12_pathsNow_5 : decode cX12_pathsNow 5 = .ok (.aload_n 0, 1) := by decide +kernel
theorem dX12_pathsNow_6 : decode cX12_pathsNow 6 = .ok (.getfield 98, 3) := by decide +kernel
theorem dX12_pathsNow_9 : decode cX12_pathsNow 9 = .ok (.iconst 2, 1) := by decide +kernel
theorem dX12_pathsNow_10 : decode cX12_pathsNow 10 = .ok (.iaload, 1) := by decide +kernel
theorem dX12_pathsNow_11 : decode cX12_pathsNow 11 = .ok (.if_icmp .ge 34, 3) := by decide +kernel
theorem dX12_pathsNow_14 : decode cX12_pathsNow 14 = .ok (.aload_n 0, 1) := by decide +kernel
theorem dX12_pathsNow_15 : decode cX12_pathsNow 15 = .ok (.getfield 98, 3) := by decide +kernel
theorem dX12_pathsNow_18 : decode cX12_pathsNow 18 = .ok (.bipush 96, 2) := by decide +kernel
theorem dX12_pathsNow_20 : decode cX12_pathsNow 20 = .ok (.iaload, 1) := by decide +kernel
theorem dX12_pathsNow_21 : decode cX12_pathsNow 21 = .ok (.iload_n 2, 1) := by decide +kernel
theorem dX12_pathsNow_22 : decode cX12_pathsNow 22 = .ok (.invokestatic 225, 3) := by decide +kernel
theorem dX12_pathsNow_25 : decode cX12_pathsNow 25 = .ok (.ifCond .ne 14, 3) := by decide +kernel
theorem dX12_pathsNow_28 : decode cX12_pathsNow 28 = .ok (.aload_n 0, 1) := by decide +kernel
theorem dX12_pathsNow_29 : decode cX12_pathsNow 29 = .ok (.iload_n 2, 1) := by decide +kernel
theorem dX12_pathsNow_30 : decode cX12_pathsNow 30 = .ok (.invokevirtual 334, 3) := by decide +kernel
theorem dX12_pathsNow_33 : decode cX12_pathsNow 33 = .ok (.ifCond .eq 6, 3) := by decide +kernel
theorem dX12_pathsNow_36 : decode cX12_pathsNow 36 = .ok (.iinc 1 1, 3) := by decide +kernel
theorem dX12_pathsNow_39 : decode cX12_pathsNow 39 = .ok (.iinc 2 1, 3) := by decide +kernel
theorem dX12_pathsNow_42 : decode cX12_pathsNow 42 = .ok (.goto (-38), 3) := by decide +kernel
theorem dX12_pathsNow_45 : decode cX12_pathsNow 45 = .ok (.iload_n 1, 1) := by decide +kernel
theorem dX12_pathsNow_46 : decode cX12_pathsNow 46 = .ok (.ireturn, 1) := by decide +kernel
theorem okc_X12_hasPath {kn : sKn} {cc : ByteArray} {own : String} {nL : Nat} {D : Nat} {ret : Option FieldType} {ini : Bool} {pc index : Nat} (hD : 8 + 1 ≤ D) (hl : Cond.methodLink own index yX12_hasPath ∈ wsL_law) (hd : decode cc pc = .ok (.invokevirtual index, 3)) : mOk kn cc own nL wsL_law D ret ini pc (a_callV false (fX12_hasPath kn) 13 (1 + 1) (pc + 3)) := ok_callV (mX12_hasPath kn) (good_ws ws_good (fun _ h => h) kw1110) hD (by decide) hl kw1111 kw1112 kw1072 ⟨by decide +kernel, by decide +kernel, by decide +kernel⟩ rfl hd
def tX12_pathsNow (kn : sKn) : List (Nat × sA) := [(0, a_stk (q_int 0) 1), (1, a_istore 1 2), (2, a_stk (q_int 0) 3), (3, a_istore 2 4), (4, a_iload 2 5), (5, a_aload 0 6), (6, a_get 13 14 9), (9, a_stk (q_int 2) 10), (10, a_iald 11), (11, a_icmp kn b_ge 3 45 14), (14, a_aload 0 15), (15, a_get 13 14 18), (18, a_stk (q_int 96) 20), (20, a_iald 21), (21, a_iload 2 22), (22, a_callS false (fX12_has kn) 2 25), (25, a_if kn b_ne 1 39 28), (28, a_aload 0 29), (29, a_iload 2 30), (30, a_callV false (fX12_hasPath kn) 13 2 33), (33, a_if kn b_eq 0 39 36), (36, a_iinc 1 1 39), (39, a_iinc 2 1 42), (42, a_goto 4), (45, a_iload 1 46), (46, a_iret)]
def fX12_pathsNow (kn : sKn) : List Value → sW → Option sR := fW (tX12_pathsNow kn) 3
set_option maxRecDepth 100000 in
set_option maxHeartbeats 4000000 in
theorem mX12_pathsNow (kn : sKn) : mM kn yX12_pathsNow (Cond.code yX12_pathsNow cX12_pathsNow 3 (some .int) :: wsL_law) 9 false (fX12_pathsNow kn) := mM_W (fun n => mM_of (own := RX12) (ini := false) rfl (by decide +kernel) (by decide +kernel) (all_c (ok_stk (s_iconst dX12_pathsNow_0 (by decide))) (all_c (ok_istore_n dX12_pathsNow_1 rfl (by decide)) (all_c (ok_stk (s_iconst dX12_pathsNow_2 (by decide))) (all_c (ok_istore_n dX12_pathsNow_3 rfl (by decide)) (all_c (ok_iload_n dX12_pathsNow_4 rfl) (all_c (ok_aload_n dX12_pathsNow_5 rfl) (all_c (okg_X12_14 kw1069 dX12_pathsNow_6) (all_c (ok_stk (s_iconst dX12_pathsNow_9 (by decide))) (all_c (ok_iald dX12_pathsNow_10) (all_c (ok_icmp_ge dX12_pathsNow_11 (by decide)) (all_c (ok_aload_n dX12_pathsNow_14 rfl) (all_c (okg_X12_14 kw1069 dX12_pathsNow_15) (all_c (ok_stk (s_bipush dX12_pathsNow_18 (by decide))) (all_c (ok_iald dX12_pathsNow_20) (all_c (ok_iload_n dX12_pathsNow_21 rfl) (all_c (okc_X12_has (by decide) kw1077 dX12_pathsNow_22) (all_c (ok_if_ne dX12_pathsNow_25 (by decide)) (all_c (ok_aload_n dX12_pathsNow_28 rfl) (all_c (ok_iload_n dX12_pathsNow_29 rfl) (all_c (okc_X12_hasPath (by decide) kw1113 dX12_pathsNow_30) (all_c (ok_if_eq dX12_pathsNow_33 (by decide)) (all_c (ok_iinc dX12_pathsNow_36 (by decide) (by decide)) (all_c (ok_iinc dX12_pathsNow_39 (by decide) (by decide)) (all_c (ok_goto dX12_pathsNow_42 (by decide)) (all_c (ok_iload_n dX12_pathsNow_45 rfl) (all_c (ok_iret dX12_pathsNow_46) all_n)))))))))))))))))))))))))) n (fun h => by first | rfl | cases h))
theorem dX12_able_0 : decode cX12_able 0 = .ok (.aload_n 0, 1) := by decide +kernel
theorem dX12_able_1 : decode cX12_able 1 = .ok (.iconst 0, 1) := by decide +kernel
theorem dX12_able_2 : decode cX12_able 2 = .ok (.putfield 1, 3) := by decide +kernel
theorem dX12_able_5 : decode cX12_able 5 = .ok (.aload_n 0, 1) := by decide +kernel
theorem dX12_able_6 : decode cX12_able 6 = .ok (.invokevirtual 292, 3) := by decide +kernel
theorem dX12_able_9 : decode cX12_able 9 = .ok (.aload_n 0, 1) := by decide +kernel
theorem dX12_able_10 : decode cX12_able 10 = .ok (.invokevirtual 383, 3) := by decide +kernel
theorem dX12_able_13 : decode cX12_able 13 = .ok (.ireturn, 1) := by decide +kernel
theorem okc_X12_layWhose {kn : sKn} {cc : ByteArray} {own : String} {nL : Nat} {D : Nat} {ret : Option FieldType} {ini : Bool} {pc index : Nat} (hD : 1 + 1 ≤ D) (hl : Cond.methodLink own index yX12_layWhose ∈ wsL_law) (hd : decode cc pc = .ok (.invokevirtual index, 3)) : mOk kn cc own nL wsL_law D ret ini pc (a_callV true (fX12_layWhose kn) 13 (0 + 1) (pc + 3)) := ok_callV (mX12_layWhose kn) (good_ws ws_good (fun _ h => h) kw1115) hD (by decide) hl kw1116 kw1117 kw1072 ⟨by decide +kernel, by decide +kernel, by decide +kernel⟩ rfl hd
theorem okc_X12_pathsNow {kn : sKn} {cc : ByteArray} {own : String} {nL : Nat} {D : Nat} {ret : Option FieldType} {ini : Bool} {pc index : Nat} (hD : 9 + 1 ≤ D) (hl : Cond.methodLink own index yX12_pathsNow ∈ wsL_law) (hd : decode cc pc = .ok (.invokevirtual index, 3)) : mOk kn cc own nL wsL_law D ret ini pc (a_callV false (fX12_pathsNow kn) 13 (0 + 1) (pc + 3)) := ok_callV (mX12_pathsNow kn) (good_ws ws_good (fun _ h => h) kw1119) hD (by decide) hl kw1120 kw1121 kw1072 ⟨by decide +kernel, by decide +kernel, by decide +kernel⟩ rfl hd
def tX12_able (kn : sKn) : List (Nat × sA) := [(0, a_aload 0 1), (1, a_stk (q_int 0) 2), (2, a_put 13 0 ckI 5), (5, a_aload 0 6), (6, a_callV true (fX12_layWhose kn) 13 1 9), (9, a_aload 0 10), (10, a_callV false (fX12_pathsNow kn) 13 1 13), (13, a_iret)]
def fX12_able (kn : sKn) : List Value → sW → Option sR := fW (tX12_able kn) 1
set_option maxRecDepth 100000 in
set_option maxHeartbeats 4000000 in
theorem mX12_able (kn : sKn) : mM kn yX12_able (Cond.code yX12_able cX12_able 1 (some .int) :: wsL_law) 10 false (fX12_able kn) := mM_W (fun n => mM_of (own := RX12) (ini := false) rfl (by decide +kernel) (by decide +kernel) (all_c (ok_aload_n dX12_able_0 rfl) (all_c (ok_stk (s_iconst dX12_able_1 (by decide))) (all_c (okp_X12_0 kw1114 dX12_able_2) (all_c (ok_aload_n dX12_able_5 rfl) (all_c (okc_X12_layWhose (by decide) kw1118 dX12_able_6) (all_c (ok_aload_n dX12_able_9 rfl) (all_c (okc_X12_pathsNow (by decide) kw1122 dX12_able_10) (all_c (ok_iret dX12_able_13) all_n)))))))) n (fun h => by first | rfl | cases h))
theorem dX12_isIn_0 : decode cX12_isIn 0 = .ok (.iload_n 0, 1) := by decide +kernel
theorem dX12_isIn_1 : decode cX12_isIn 1 = .ok (.iload_n 1, 1) := by decide +kernel
theorem dX12_isIn_2 : decode cX12_isIn 2 = .ok (.if_icmp .lt 12, 3) := by decide +kernel
theorem dX12_isIn_5 : decode cX12_isIn 5 = .ok (.iload_n 0, 1) := by decide +kernel
theorem dX12_isIn_6 : decode cX12_isIn 6 = .ok (.iload_n 2, 1) := by decide +kernel
theorem dX12_isIn_7 : decode cX12_isIn 7 = .ok (.if_icmp .gt 7, 3) := by decide +kernel
theorem dX12_isIn_10 : decode cX12_isIn 10 = .ok (.iconst 1, 1) := by decide +kernel
theorem dX12_isIn_11 : decode cX12_isIn 11 = .ok (.goto 4, 3) := by decide +kernel
theorem dX12_isIn_14 : decode cX12_isIn 14 = .ok (.iconst 0, 1) := by decide +kernel
theorem dX12_isIn_15 : decode cX12_isIn 15 = .ok (.ireturn, 1) := by decide +kernel
def tX12_isIn (kn : sKn) : List (Nat × sA) := [(0, a_iload 0 1), (1, a_iload 1 2), (2, a_icmp kn b_lt 2 14 5), (5, a_iload 0 6), (6, a_iload 2 7), (7, a_icmp kn b_gt 4 14 10), (10, a_stk (q_int 1) 11), (11, a_goto 15), (14, a_stk (q_int 0) 15), (15, a_zret)]
def fX12_isIn (kn : sKn) : List Value → sW → Option sR := fW (tX12_isIn kn) 3
set_option maxRecDepth 100000 in
set_option maxHeartbeats 4000000 in
theorem mX12_isIn (kn : sKn) : mM kn yX12_isIn (Cond.code yX12_isIn cX12_isIn 3 (some .boolean) :: wsL_law) 1 false (fX12_isIn kn) := mM_W (fun n => mM_of (own := RX12) (ini := false) rfl (by decide +kernel) (by decide +kernel) (all_c (ok_iload_n dX12_isIn_0 rfl) (all_c (ok_iload_n dX12_isIn_1 rfl) (all_c (ok_icmp_lt dX12_isIn_2 (by decide)) (all_c (ok_iload_n dX12_isIn_5 rfl) (all_c (ok_iload_n dX12_isIn_6 rfl) (all_c (ok_icmp_gt dX12_isIn_7 (by decide)) (all_c (ok_stk (s_iconst dX12_isIn_10 (by decide))) (all_c (ok_goto dX12_isIn_11 (by decide)) (all_c (ok_stk (s_iconst dX12_isIn_14 (by decide))) (all_c (ok_zret dX12_isIn_15) all_n)))))))))) n (fun h => by first | rfl | cases h))
theorem dX12_asked_0 : decode cX12_asked 0 = .ok (.aload_n 0, 1) := by decide +kernel
theorem dX12_asked_1 : decode cX12_asked 1 = .ok (.iconst 0, 1) := by decide +kernel
theorem dX12_asked_2 : decode cX12_asked 2 = .ok (.putfield 1, 3) := by decide +kernel
theorem dX12_asked_5 : decode cX12_asked 5 = .ok (.iload_n 1, 1) := by decide +kernel
theorem dX12_asked_6 : decode cX12_asked 6 = .ok (.iconst 0, 1) := by decide +kernel
theorem dX12_asked_7 : decode cX12_asked 7 = .ok (.aload_n 0, 1) := by decide +kernel
theorem dX12_asked_8 : decode cX12_asked 8 = .ok (.getfield 380, 3) := by decide +kernel
theorem dX12_asked_11 : decode cX12_asked 11 = .ok (.iconst 1, 1) := by decide +kernel
theorem dX12_asked_12 : decode cX12_asked 12 = .ok (.isub, 1) := by decide +kernel
theorem dX12_asked_13 : decode cX12_asked 13 = .ok (.invokestatic 75, 3) := by decide +kernel
theorem dX12_asked_16 : decode cX12_asked 16 = .ok (.ifCond .eq 25, 3) := by decide +kernel
theorem dX12_asked_19 : decode cX12_asked 19 = .ok (.iload_n 2, 1) := by decide +kernel
theorem dX12_asked_20 : decode cX12_asked 20 = .ok (.iconst 0, 1) := by decide +kernel
theorem dX12_asked_21 : decode cX12_asked 21 = .ok (.iconst 2, 1) := by decide +kernel
theorem dX12_asked_22 : decode cX12_asked 22 = .ok (.invokestatic 75, 3) := by decide +kernel
theorem dX12_asked_25 : decode cX12_asked 25 = .ok (.ifCond .eq 16, 3) := by decide +kernel
theorem dX12_asked_28 : decode cX12_asked 28 = .ok (.aload_n 0, 1) := by decide +kernel
theorem dX12_asked_29 : decode cX12_asked 29 = .ok (.getfield 142, 3) := by decide +kernel
theorem dX12_asked_32 : decode cX12_asked 32 = .ok (.iconst 3, 1) := by decide +kernel
theorem dX12_asked_33 : decode cX12_asked 33 = .ok (.iload_n 1, 1) := by decide +kernel
theorem dX12_asked_34 : decode cX12_asked 34 = .ok (.imul, 1) := by decide +kernel
theorem dX12_asked_35 : decode cX12_asked 35 = .ok (.iload_n 2, 1) := by decide +kernel
theorem dX12_asked_36 : decode cX12_asked 36 = .ok (.iadd, 1) := by decide +kernel
theorem dX12_asked_37 : decode cX12_asked 37 = .ok (.iaload, 1) := by decide +kernel
theorem dX12_asked_38 : decode cX12_asked 38 = .ok (.goto 4, 3) := by decide +kernel
theorem dX12_asked_41 : decode cX12_asked 41 = .ok (.iconst (-1), 1) := by decide +kernel
theorem dX12_asked_42 : decode cX12_asked 42 = .ok (.ireturn, 1) := by decide +kernel
theorem okc_X12_isIn {kn : sKn} {cc : ByteArray} {own : String} {nL : Nat} {D : Nat} {ret : Option FieldType} {ini : Bool} {pc index : Nat} (hD : 1 + 1 ≤ D) (hl : Cond.methodLink own index yX12_isIn ∈ wsL_law) (hd : decode cc pc = .ok (.invokestatic index, 3)) : mOk kn cc own nL wsL_law D ret ini pc (a_callS false (fX12_isIn kn) 3 (pc + 3)) := ok_callS (mX12_isIn kn) (good_ws ws_good (fun _ h => h) kw1124) hD (by decide) hl kw1125 kw1072 ⟨by decide +kernel, by decide +kernel, by decide +kernel⟩ hd
def tX12_asked (kn : sKn) : List (Nat × sA) := [(0, a_aload 0 1), (1, a_stk (q_int 0) 2), (2, a_put 13 0 ckI 5), (5, a_iload 1 6), (6, a_stk (q_int 0) 7), (7, a_aload 0 8), (8, a_get 13 35 11), (11, a_stk (q_int 1) 12), (12, a_stk q_isub 13), (13, a_callS false (fX12_isIn kn) 3 16), (16, a_if kn b_eq 0 41 19), (19, a_iload 2 20), (20, a_stk (q_int 0) 21), (21, a_stk (q_int 2) 22), (22, a_callS false (fX12_isIn kn) 3 25), (25, a_if kn b_eq 0 41 28), (28, a_aload 0 29), (29, a_get 13 33 32), (32, a_stk (q_int 3) 33), (33, a_iload 1 34), (34, a_stk q_imul 35), (35, a_iload 2 36), (36, a_stk q_iadd 37), (37, a_iald 38), (38, a_goto 42), (41, a_stk (q_int (-1)) 42), (42, a_iret)]
def fX12_asked (kn : sKn) : List Value → sW → Option sR := fW (tX12_asked kn) 3
set_option maxRecDepth 100000 in
set_option maxHeartbeats 4000000 in
theorem mX12_asked (kn : sKn) : mM kn yX12_asked (Cond.code yX12_asked cX12_asked 3 (some .int) :: wsL_law) 2 false (fX12_asked kn) := mM_W (fun n => mM_of (own := RX12) (ini := false) rfl (by decide +kernel) (by decide +kernel) (all_c (ok_aload_n dX12_asked_0 rfl) (all_c (ok_stk (s_iconst dX12_asked_1 (by decide))) (all_c (okp_X12_0 kw1114 dX12_asked_2) (all_c (ok_iload_n dX12_asked_5 rfl) (all_c (ok_stk (s_iconst dX12_asked_6 (by decide))) (all_c (ok_aload_n dX12_asked_7 rfl) (all_c (okg_X12_35 kw1123 dX12_asked_8) (all_c (ok_stk (s_iconst dX12_asked_11 (by decide))) (all_c (ok_stk (s_isub dX12_asked_12)) (all_c (okc_X12_isIn (by decide) kw1126 dX12_asked_13) (all_c (ok_if_eq dX12_asked_16 (by decide)) (all_c (ok_iload_n dX12_asked_19 rfl) (all_c (ok_stk (s_iconst dX12_asked_20 (by decide))) (all_c (ok_stk (s_iconst dX12_asked_21 (by decide))) (all_c (okc_X12_isIn (by decide) kw1126 dX12_asked_22) (all_c (ok_if_eq dX12_asked_25 (by decide)) (all_c (ok_aload_n dX12_asked_28 rfl) (all_c (okg_X12_33 kw1127 dX12_asked_29) (all_c (ok_stk (s_iconst dX12_asked_32 (by decide))) (all_c (ok_iload_n dX12_asked_33 rfl) (all_c (ok_stk (s_imul dX12_asked_34)) (all_c (ok_iload_n dX12_asked_35 rfl) (all_c (ok_stk (s_iadd dX12_asked_36)) (all_c (ok_iald dX12_asked_37) (all_c (ok_goto dX12_asked_38 (by decide)) (all_c (ok_stk (s_iconst dX12_asked_41 (by decide))) (all_c (ok_iret dX12_asked_42) all_n))))))))))))))))))))))))))) n (fun h => by first | rfl | cases h))
theorem dX12_isLoad_0 : decode cX12_isLoad 0 = .ok (.iload_n 1, 1) := by decide +kernel
theorem dX12_isLoad_1 : decode cX12_isLoad 1 = .ok (.iconst 0, 1) := by decide +kernel
theorem dX12_isLoad_2 : decode cX12_isLoad 2 = .ok (.aload_n 0, 1) := by decide +kernel
theorem dX12_isLoad_3 : decode cX12_isLoad 3 = .ok (.getfield 98, 3) := by decide +kernel
theorem dX12_isLoad_6 : decode cX12_isLoad 6 = .ok (.iconst 2, 1) := by decide +kernel
theorem dX12_isLoad_7 : decode cX12_isLoad 7 = .ok (.iaload, 1) := by decide +kernel
theorem dX12_isLoad_8 : decode cX12_isLoad 8 = .ok (.iconst 1, 1) := by decide +kernel
theorem dX12_isLoad_9 : decode cX12_isLoad 9 = .ok (.isub, 1) := by decide +kernel
theorem dX12_isLoad_10 : decode cX12_isLoad 10 = .ok (.invokestatic 75, 3) := by decide +kernel
theorem dX12_isLoad_13 : decode cX12_isLoad 13 = .ok (.ireturn, 1) := by decide +kernel
def tX12_isLoad (kn : sKn) : List (Nat × sA) := [(0, a_iload 1 1), (1, a_stk (q_int 0) 2), (2, a_aload 0 3), (3, a_get 13 14 6), (6, a_stk (q_int 2) 7), (7, a_iald 8), (8, a_stk (q_int 1) 9), (9, a_stk q_isub 10), (10, a_callS false (fX12_isIn kn) 3 13), (13, a_zret)]
def fX12_isLoad (kn : sKn) : List Value → sW → Option sR := fW (tX12_isLoad kn) 2
set_option maxRecDepth 100000 in
set_option maxHeartbeats 4000000 in
theorem mX12_isLoad (kn : sKn) : mM kn yX12_isLoad (Cond.code yX12_isLoad cX12_isLoad 2 (some .boolean) :: wsL_law) 2 false (fX12_isLoad kn) := mM_W (fun n => mM_of (own := RX12) (ini := false) rfl (by decide +kernel) (by decide +kernel) (all_c (ok_iload_n dX12_isLoad_0 rfl) (all_c (ok_stk (s_iconst dX12_isLoad_1 (by decide))) (all_c (ok_aload_n dX12_isLoad_2 rfl) (all_c (okg_X12_14 kw1069 dX12_isLoad_3) (all_c (ok_stk (s_iconst dX12_isLoad_6 (by decide))) (all_c (ok_iald dX12_isLoad_7) (all_c (ok_stk (s_iconst dX12_isLoad_8 (by decide))) (all_c (ok_stk (s_isub dX12_isLoad_9)) (all_c (okc_X12_isIn (by decide) kw1126 dX12_isLoad_10) (all_c (ok_zret dX12_isLoad_13) all_n)))))))))) n (fun h => by first | rfl | cases h))
theorem dX12_isDead_0 : decode cX12_isDead 0 = .ok (.aload_n 0, 1) := by decide +kernel
theorem dX12_isDead_1 : decode cX12_isDead 1 = .ok (.getfield 98, 3) := by decide +kernel
theorem dX12_isDead_4 : decode cX12_isDead 4 = .ok (.bipush 95, 2) := by decide +kernel
theorem dX12_isDead_6 : decode cX12_isDead 6 = .ok (.iaload, 1) := by decide +kernel
theorem dX12_isDead_7 : decode cX12_isDead 7 = .ok (.iload_n 1, 1) := by decide +kernel
theorem dX12_isDead_8 : decode cX12_isDead 8 = .ok (.invokestatic 225, 3) := by decide +kernel
theorem dX12_isDead_11 : decode cX12_isDead 11 = .ok (.ireturn, 1) := by decide +kernel
def tX12_isDead (kn : sKn) : List (Nat × sA) := [(0, a_aload 0 1), (1, a_get 13 14 4), (4, a_stk (q_int 95) 6), (6, a_iald 7), (7, a_iload 1 8), (8, a_callS false (fX12_has kn) 2 11), (11, a_zret)]
def fX12_isDead (kn : sKn) : List Value → sW → Option sR := fW (tX12_isDead kn) 2
set_option maxRecDepth 100000 in
set_option maxHeartbeats 4000000 in
theorem mX12_isDead (kn : sKn) : mM kn yX12_isDead (Cond.code yX12_isDead cX12_isDead 2 (some .boolean) :: wsL_law) 2 false (fX12_isDead kn) := mM_W (fun n => mM_of (own := RX12) (ini := false) rfl (by decide +kernel) (by decide +kernel) (all_c (ok_aload_n dX12_isDead_0 rfl) (all_c (okg_X12_14 kw1069 dX12_isDead_1) (all_c (ok_stk (s_bipush dX12_isDead_4 (by decide))) (all_c (ok_iald dX12_isDead_6) (all_c (ok_iload_n dX12_isDead_7 rfl) (all_c (okc_X12_has (by decide) kw1077 dX12_isDead_8) (all_c (ok_zret dX12_isDead_11) all_n))))))) n (fun h => by first | rfl | cases h))
theorem dX12_trySigns_0 : decode cX12_trySigns 0 = .ok (.iload 5, 2) := by decide +kernel
theorem dX12_trySigns_2 : decode cX12_trySigns 2 = .ok (.aload_n 0, 1) := by decide +kernel
theorem dX12_trySigns_3 : decode cX12_trySigns 3 = .ok (.getfield 370, 3) := by decide +kernel
theorem dX12_trySigns_6 : decode cX12_trySigns 6 = .ok (.if_icmp .lt 4, 3) := by decide +kernel
theorem dX12_trySigns_9 : decode cX12_trySigns 9 = .ok (.return_, 1) := by decide +kernel
theorem dX12_trySigns_10 : decode cX12_trySigns 10 = .ok (.iload_n 3, 1) := by decide +kernel
theorem dX12_trySigns_11 : decode cX12_trySigns 11 = .ok (.aload_n 0, 1) := by decide +kernel
theorem dX12_trySigns_12 : decode cX12_trySigns 12 = .ok (.getfield 98, 3) := by decide +kernel
theorem dX12_trySigns_15 : decode cX12_trySigns 15 = .ok (.bipush 88, 2) := by decide +kernel
theorem dX12_trySigns_17 : decode cX12_trySigns 17 = .ok (.iload 4, 2) := by decide +kernel
theorem dX12_trySigns_19 : decode cX12_trySigns 19 = .ok (.iadd, 1) := by decide +kernel
theorem dX12_trySigns_20 : decode cX12_trySigns 20 = .ok (.iaload, 1) := by decide +kernel
theorem dX12_trySigns_21 : decode cX12_trySigns 21 = .ok (.if_icmp .ne 69, 3) := by decide +kernel
theorem dX12_trySigns_24 : decode cX12_trySigns 24 = .ok (.aload_n 0, 1) := by decide +kernel
theorem dX12_trySigns_25 : decode cX12_trySigns 25 = .ok (.iload_n 1, 1) := by decide +kernel
theorem dX12_trySigns_26 : decode cX12_trySigns 26 = .ok (.iload_n 2, 1) := by decide +kernel
theorem dX12_trySigns_27 : decode cX12_trySigns 27 = .ok (.aload_n 0, 1) := by decide +kernel
theorem dX12_trySigns_28 : decode cX12_trySigns 28 = .ok (.getfield 98, 3) := by decide +kernel
theorem dX12_trySigns_31 : decode cX12_trySigns 31 = .ok (.bipush 88, 2) := by decide +kernel
theorem dX12_trySigns_33 : decode cX12_trySigns 33 = .ok (.iload 4, 2) := by decide +kernel
theorem dX12_trySigns_35 : decode cX12_trySigns 35 = .ok (.iadd, 1) := by decide +kernel
theorem dX12_trySigns_36 : decode cX12_trySigns 36 = .ok (.iaload, 1) := by decide +kernel
theorem dX12_trySigns_37 : decode cX12_trySigns 37 = .ok (.invokevirtual 298, 3) := by decide +kernel
theorem dX12_trySigns_40 : decode cX12_trySigns 40 = .ok (.aload_n 0, 1) := by decide +kernel
theorem dX12_trySigns_41 : decode cX12_trySigns 41 = .ok (.getfield 98, 3) := by decide +kernel
theorem dX12_trySigns_44 : decode cX12_trySigns 44 = .ok (.bipush 82, 2) := by decide +kernel
theorem dX12_trySigns_46 : decode cX12_trySigns 46 = .ok (.iload 4, 2) := by decide +kernel
theorem dX12_trySigns_48 : decode cX12_trySigns 48 = .ok (.iadd, 1) := by decide +kernel
theorem dX12_trySigns_49 : decode cX12_trySigns 49 = .ok (.iaload, 1) := by decide +kernel
theorem dX12_trySigns_50 : decode cX12_trySigns 50 = .ok (.if_icmp .ge 4, 3) := by decide +kernel
theorem dX12_trySigns_53 : decode cX12_trySigns 53 = .ok (.return_, 1) := by decide +kernel
theorem dX12_trySigns_54 : decode cX12_trySigns 54 = .ok (.aload_n 0, 1) := by decide +kernel
theorem dX12_trySigns_55 : decode cX12_trySigns 55 = .ok (.iload 5, 2) := by decide +kernel
theorem dX12_trySigns_57 : decode cX12_trySigns 57 = .ok (.putfield 370, 3) := by decide +kernel
theorem dX12_trySigns_60 : decode cX12_trySigns 60 = .ok (.iconst 0, 1) := by decide +kernel
theorem dX12_trySigns_61 : decode cX12_trySigns 61 = .ok (.istore 6, 2) := by decide +kernel
theorem dX12_trySigns_63 : decode cX12_trySigns 63 = .ok (.iload 6, 2) := by decide +kernel
theorem dX12_trySigns_65 : decode cX12_trySigns 65 = .ok (.iconst 3, 1) := by decide +kernel
theorem dX12_trySigns_66 : decode cX12_trySigns 66 = .ok (.if_icmp .ge 23, 3) := by decide +kernel
theorem dX12_trySigns_69 : decode cX12_trySigns 69 = .ok (.aload_n 0, 1) := by decide +kernel
theorem dX12_trySigns_70 : decode cX12_trySigns 70 = .ok (.getfield 139, 3) := by decide +kernel
theorem dX12_trySigns_73 : decode cX12_trySigns 73 = .ok (.iload 6, 2) := by decide +kernel
theorem dX12_trySigns_75 : decode cX12_trySigns 75 = .ok (.aload_n 0, 1) := by decide +kernel
theorem dX12_trySigns_76 : decode cX12_trySigns 76 = .ok (.getfield 145, 3) := by decide +kernel
theorem dX12_trySigns_79 : decode cX12_trySigns 79 = .ok (.iload 6, 2) := by decide +kernel
theorem dX12_trySigns_81 : decode cX12_trySigns 81 = .ok (.iaload, 1) := by decide +kernel
theorem dX12_trySigns_82 : decode cX12_trySigns 82 = .ok (.iastore, 1) := by decide +kernel
theorem dX12_trySigns_83 : decode cX12_trySigns 83 = .ok (.iinc 6 1, 3) := by decide +kernel
theorem dX12_trySigns_86 : decode cX12_trySigns 86 = .ok (.goto (-23), 3) := by decide +kernel
theorem dX12_trySigns_89 : decode cX12_trySigns 89 = .ok (.return_, 1) := by decide +kernel
theorem dX12_trySigns_90 : decode cX12_trySigns 90 = .ok (.iconst 3, 1) := by decide +kernel
theorem dX12_trySigns_91 : decode cX12_trySigns 91 = .ok (.iload_n 1, 1) := by decide +kernel
theorem dX12_trySigns_92 : decode cX12_trySigns 92 = .ok (.imul, 1) := by decide +kernel
theorem dX12_trySigns_93 : decode cX12_trySigns 93 = .ok (.iload_n 2, 1) := by decide +kernel
theorem dX12_trySigns_94 : decode cX12_trySigns 94 = .ok (.iadd, 1) := by decide +kernel
theorem dX12_trySigns_95 : decode cX12_trySigns 95 = .ok (.iload_n 3, 1) := by decide +kernel
theorem dX12_trySigns_96 : decode cX12_trySigns 96 = .ok (.iadd, 1) := by decide +kernel
theorem dX12_trySigns_97 : decode cX12_trySigns 97 = .ok (.istore 6, 2) := by decide +kernel
theorem dX12_trySigns_99 : decode cX12_trySigns 99 = .ok (.aload_n 0, 1) := by decide +kernel
theorem dX12_trySigns_100 : decode cX12_trySigns 100 = .ok (.getfield 145, 3) := by decide +kernel
theorem dX12_trySigns_103 : decode cX12_trySigns 103 = .ok (.iload_n 3, 1) := by decide +kernel
theorem dX12_trySigns_104 : decode cX12_trySigns 104 = .ok (.iconst (-1), 1) := by decide +kernel
theorem dX12_trySigns_105 : decode cX12_trySigns 105 = .ok (.iastore, 1) := by decide +kernel
theorem dX12_trySigns_106 : decode cX12_trySigns 106 = .ok (.aload_n 0, 1) := by decide +kernel
theorem dX12_trySigns_107 : decode cX12_trySigns 107 = .ok (.getfield 127, 3) := by decide +kernel
theorem dX12_trySigns_110 : decode cX12_trySigns 110 = .ok (.iload 6, 2) := by decide +kernel
theorem dX12_trySigns_112 : decode cX12_trySigns 112 = .ok (.iaload, 1) := by decide +kernel
theorem dX12_trySigns_113 : decode cX12_trySigns 113 = .ok (.iconst (-1), 1) := by decide +kernel
theorem dX12_trySigns_114 : decode cX12_trySigns 114 = .ok (.if_icmp .eq 17, 3) := by decide +kernel
theorem dX12_trySigns_117 : decode cX12_trySigns 117 = .ok (.aload_n 0, 1) := by decide +kernel
theorem dX12_trySigns_118 : decode cX12_trySigns 118 = .ok (.iload_n 1, 1) := by decide +kernel
theorem dX12_trySigns_119 : decode cX12_trySigns 119 = .ok (.iload_n 2, 1) := by decide +kernel
theorem dX12_trySigns_120 : decode cX12_trySigns 120 = .ok (.iload_n 3, 1) := by decide +kernel
theorem dX12_trySigns_121 : decode cX12_trySigns 121 = .ok (.iconst 1, 1) := by decide +kernel
theorem dX12_trySigns_122 : decode cX12_trySigns 122 = .ok (.iadd, 1) := by decide +kernel
theorem dX12_trySigns_123 : decode cX12_trySigns 123 = .ok (.iload 4, 2) := by decide +kernel
theorem dX12_trySigns_125 : decode cX12_trySigns 125 = .ok (.iload 5, 2) := by decide +kernel
theorem dX12_trySigns_127 : decode cX12_trySigns 127 = .ok (.invokevirtual 373, 3) := by decide +kernel
theorem dX12_trySigns_130 : decode cX12_trySigns 130 = .ok (.return_, 1) := by decide +kernel
theorem dX12_trySigns_131 : decode cX12_trySigns 131 = .ok (.iconst 0, 1) := by decide +kernel
theorem dX12_trySigns_132 : decode cX12_trySigns 132 = .ok (.istore 7, 2) := by decide +kernel
theorem dX12_trySigns_134 : decode cX12_trySigns 134 = .ok (.iload 7, 2) := by decide +kernel
theorem dX12_trySigns_136 : decode cX12_trySigns 136 = .ok (.aload_n 0, 1) := by decide +kernel
theorem dX12_trySigns_137 : decode cX12_trySigns 137 = .ok (.getfield 98, 3) := by decide +kernel
theorem dX12_trySigns_140 : decode cX12_trySigns 140 = .ok (.iconst 1, 1) := by decide +kernel
theorem dX12_trySigns_141 : decode cX12_trySigns 141 = .ok (.iaload, 1) := by decide +kernel
theorem dX12_trySigns_142 : decode cX12_trySigns 142 = .ok (.if_icmp .ge 62, 3) := by decide +kernel
theorem dX12_trySigns_145 : decode cX12_trySigns 145 = .ok (.aload_n 0, 1) := by decide +kernel
theorem dX12_trySigns_146 : decode cX12_trySigns 146 = .ok (.iload 7, 2) := by decide +kernel
theorem dX12_trySigns_148 : decode cX12_trySigns 148 = .ok (.invokevirtual 283, 3) := by decide +kernel
theorem dX12_trySigns_151 : decode cX12_trySigns 151 = .ok (.ifCond .eq 6, 3) := by decide +kernel
theorem dX12_trySigns_154 : decode cX12_trySigns 154 = .ok (.goto 44, 3) := by decide +kernel
theorem dX12_trySigns_157 : decode cX12_trySigns 157 = .ok (.aload_n 0, 1) := by decide +kernel
theorem dX12_trySigns_158 : decode cX12_trySigns 158 = .ok (.getfield 127, 3) := by decide +kernel
theorem dX12_trySigns_161 : decode cX12_trySigns 161 = .ok (.iload 6, 2) := by decide +kernel
theorem dX12_trySigns_163 : decode cX12_trySigns 163 = .ok (.iload 7, 2) := by decide +kernel
theorem dX12_trySigns_165 : decode cX12_trySigns 165 = .ok (.iastore, 1) := by decide +kernel
theorem dX12_trySigns_166 : decode cX12_trySigns 166 = .ok (.aload_n 0, 1) := by decide +kernel
theorem dX12_trySigns_167 : decode cX12_trySigns 167 = .ok (.getfield 145, 3) := by decide +kernel
theorem dX12_trySigns_170 : decode cX12_trySigns 170 = .ok (.iload_n 3, 1) := by decide +kernel
theorem dX12_trySigns_171 : decode cX12_trySigns 171 = .ok (.iload 7, 2) := by decide +kernel
theorem dX12_trySigns_173 : decode cX12_trySigns 173 = .ok (.iastore, 1) := by decide +kernel
theorem dX12_trySigns_174 : decode cX12_trySigns 174 = .ok (.aload_n 0, 1) := by decide +kernel
theorem dX12_trySigns_175 : decode cX12_trySigns 175 = .ok (.iload_n 1, 1) := by decide +kernel
theorem dX12_trySigns_176 : decode cX12_trySigns 176 = .ok (.iload_n 2, 1) := by decide +kernel
theorem dX12_trySigns_177 : decode cX12_trySigns 177 = .ok (.iload_n 3, 1) := by decide +kernel
theorem dX12_trySigns_178 : decode cX12_trySigns 178 = .ok (.iconst 1, 1) := by decide +kernel
theorem dX12_trySigns_179 : decode cX12_trySigns 179 = .ok (.iadd, 1) := by decide +kernel
theorem dX12_trySigns_180 : decode cX12_trySigns 180 = .ok (.iload 4, 2) := by decide +kernel
theorem dX12_trySigns_182 : decode cX12_trySigns 182 = .ok (.iload 5, 2) := by decide +kernel
theorem dX12_trySigns_184 : decode cX12_trySigns 184 = .ok (.aload_n 0, 1) := by decide +kernel
theorem dX12_trySigns_185 : decode cX12_trySigns 185 = .ok (.getfield 98, 3) := by decide +kernel
theorem dX12_trySigns_188 : decode cX12_trySigns 188 = .ok (.bipush 15, 2) := by decide +kernel
theorem dX12_trySigns_190 : decode cX12_trySigns 190 = .ok (.iload 7, 2) := by decide +kernel
theorem dX12_trySigns_192 : decode cX12_trySigns 192 = .ok (.iadd, 1) := by decide +kernel
theorem dX12_trySigns_193 : decode cX12_trySigns 193 = .ok (.iaload, 1) := by decide +kernel
theorem dX12_trySigns_194 : decode cX12_trySigns 194 = .ok (.iadd, 1) := by decide +kernel
theorem dX12_trySigns_195 : decode cX12_trySigns 195 = .ok (.invokevirtual 373, 3) := by decide +kernel
theorem dX12_trySigns_198 : decode cX12_trySigns 198 = .ok (.iinc 7 1, 3) := by decide +kernel
theorem dX12_trySigns_201 : decode cX12_trySigns 201 = .ok (.goto (-67), 3) := by decide +kernel
theorem dX12_trySigns_204 : decode cX12_trySigns 204 = .ok (.aload_n 0, 1) := by decide +kernel
theorem dX12_trySigns_205 : decode cX12_trySigns 205 = .ok (.getfield 127, 3) := by decide +kernel
theorem dX12_trySigns_208 : decode cX12_trySigns 208 = .ok (.iload 6, 2) := by decide +kernel
theorem dX12_trySigns_210 : decode cX12_trySigns 210 = .ok (.iconst (-1), 1) := by decide +kernel
theorem dX12_trySigns_211 : decode cX12_trySigns 211 = .ok (.iastore, 1) := by decide +kernel
theorem dX12_trySigns_212 : decode cX12_trySigns 212 = .ok (.aload_n 0, 1) := by decide +kernel
theorem dX12_trySigns_213 : decode cX12_trySigns 213 = .ok (.getfield 145, 3) := by decide +kernel
theorem dX12_trySigns_216 : decode cX12_trySigns 216 = .ok (.iload_n 3, 1) := by decide +kernel
theorem dX12_trySigns_217 : decode cX12_trySigns 217 = .ok (.iconst (-1), 1) := by decide +kernel
theorem dX12_trySigns_218 : decode cX12_trySigns 218 = .ok (.iastore, 1) := by decide +kernel
theorem dX12_trySigns_219 : decode cX12_trySigns 219 = .ok (.return_, 1) := by decide +kernel
theorem okc_X12_isDead {kn : sKn} {cc : ByteArray} {own : String} {nL : Nat} {D : Nat} {ret : Option FieldType} {ini : Bool} {pc index : Nat} (hD : 2 + 1 ≤ D) (hl : Cond.methodLink own index yX12_isDead ∈ wsL_law) (hd : decode cc pc = .ok (.invokevirtual index, 3)) : mOk kn cc own nL wsL_law D ret ini pc (a_callV false (fX12_isDead kn) 13 (1 + 1) (pc + 3)) := ok_callV (mX12_isDead kn) (good_ws ws_good (fun _ h => h) kw1135) hD (by decide) hl kw1136 kw1137 kw1072 ⟨by decide +kernel, by decide +kernel, by decide +kernel⟩ rfl hd
def tX12_trySigns_g (kn : sKn) (g : List Value → sW → Option sR) : List (Nat × sA) := [(0, a_iload 5 2), (2, a_aload 0 3), (3, a_get 13 36 6), (6, a_icmp kn b_lt 2 10 9), (9, a_vret), (10, a_iload 3 11), (11, a_aload 0 12), (12, a_get 13 14 15), (15, a_stk (q_int 88) 17), (17, a_iload 4 19), (19, a_stk q_iadd 20), (20, a_iald 21), (21, a_icmp kn b_ne 1 90 24), (24, a_aload 0 25), (25, a_iload 1 26), (26, a_iload 2 27), (27, a_aload 0 28), (28, a_get 13 14 31), (31, a_stk (q_int 88) 33), (33, a_iload 4 35), (35, a_stk q_iadd 36), (36, a_iald 37), (37, a_callV false (fX12_sumAt kn) 13 4 40), (40, a_aload 0 41), (41, a_get 13 14 44), (44, a_stk (q_int 82) 46), (46, a_iload 4 48), (48, a_stk q_iadd 49), (49, a_iald 50), (50, a_icmp kn b_ge 3 54 53), (53, a_vret), (54, a_aload 0 55), (55, a_iload 5 57), (57, a_put 13 36 ckI 60), (60, a_stk (q_int 0) 61), (61, a_istore 6 63), (63, a_iload 6 65), (65, a_stk (q_int 3) 66), (66, a_icmp kn b_ge 3 89 69), (69, a_aload 0 70), (70, a_get 13 32 73), (73, a_iload 6 75), (75, a_aload 0 76), (76, a_get 13 34 79), (79, a_iload 6 81), (81, a_iald 82), (82, a_iast 83), (83, a_iinc 6 1 86), (86, a_goto 63), (89, a_vret), (90, a_stk (q_int 3) 91), (91, a_iload 1 92), (92, a_stk q_imul 93), (93, a_iload 2 94), (94, a_stk q_iadd 95), (95, a_iload 3 96), (96, a_stk q_iadd 97), (97, a_istore 6 99), (99, a_aload 0 100), (100, a_get 13 34 103), (103, a_iload 3 104), (104, a_stk (q_int (-1)) 105), (105, a_iast 106), (106, a_aload 0 107), (107, a_get 13 27 110), (110, a_iload 6 112), (112, a_iald 113), (113, a_stk (q_int (-1)) 114), (114, a_icmp kn b_eq 0 131 117), (117, a_aload 0 118), (118, a_iload 1 119), (119, a_iload 2 120), (120, a_iload 3 121), (121, a_stk (q_int 1) 122), (122, a_stk q_iadd 123), (123, a_iload 4 125), (125, a_iload 5 127), (127, a_callV true g 13 6 130), (130, a_vret), (131, a_stk (q_int 0) 132), (132, a_istore 7 134), (134, a_iload 7 136), (136, a_aload 0 137), (137, a_get 13 14 140), (140, a_stk (q_int 1) 141), (141, a_iald 142), (142, a_icmp kn b_ge 3 204 145), (145, a_aload 0 146), (146, a_iload 7 148), (148, a_callV false (fX12_isDead kn) 13 2 151), (151, a_if kn b_eq 0 157 154), (154, a_goto 198), (157, a_aload 0 158), (158, a_get 13 27 161), (161, a_iload 6 163), (163, a_iload 7 165), (165, a_iast 166), (166, a_aload 0 167), (167, a_get 13 34 170), (170, a_iload 3 171), (171, a_iload 7 173), (173, a_iast 174), (174, a_aload 0 175), (175, a_iload 1 176), (176, a_iload 2 177), (177, a_iload 3 178), (178, a_stk (q_int 1) 179), (179, a_stk q_iadd 180), (180, a_iload 4 182), (182, a_iload 5 184), (184, a_aload 0 185), (185, a_get 13 14 188), (188, a_stk (q_int 15) 190), (190, a_iload 7 192), (192, a_stk q_iadd 193), (193, a_iald 194), (194, a_stk q_iadd 195), (195, a_callV true g 13 6 198), (198, a_iinc 7 1 201), (201, a_goto 134), (204, a_aload 0 205), (205, a_get 13 27 208), (208, a_iload 6 210), (210, a_stk (q_int (-1)) 211), (211, a_iast 212), (212, a_aload 0 213), (213, a_get 13 34 216), (216, a_iload 3 217), (217, a_stk (q_int (-1)) 218), (218, a_iast 219), (219, a_vret)]
def fX12_trySigns_g (kn : sKn) (g : List Value → sW → Option sR) : List Value → sW → Option sR := fW (tX12_trySigns_g kn g) 8
set_option maxRecDepth 100000 in
set_option maxHeartbeats 4000000 in
theorem mX12_trySigns_g (kn : sKn) {g : List Value → sW → Option sR} {Dg : Nat} (hg : mM kn yX12_trySigns (Cond.code yX12_trySigns cX12_trySigns 8 none :: wsL_law) Dg true g) : mM kn yX12_trySigns (Cond.code yX12_trySigns cX12_trySigns 8 none :: wsL_law) (Dg + 5) true (fX12_trySigns_g kn g) := mM_W (fun n => mM_of (own := RX12) (ini := false) rfl (by decide +kernel) (by decide +kernel) (all_c (ok_iload dX12_trySigns_0) (all_c (ok_aload_n dX12_trySigns_2 rfl) (all_c (okg_X12_36 kw1128 dX12_trySigns_3) (all_c (ok_icmp_lt dX12_trySigns_6 (by first | decide | omega)) (all_c (ok_vret dX12_trySigns_9) (all_c (ok_iload_n dX12_trySigns_10 rfl) (all_c (ok_aload_n dX12_trySigns_11 rfl) (all_c (okg_X12_14 kw1069 dX12_trySigns_12) (all_c (ok_stk (s_bipush dX12_trySigns_15 (by first | decide | omega))) (all_c (ok_iload dX12_trySigns_17) (all_c (ok_stk (s_iadd dX12_trySigns_19)) (all_c (ok_iald dX12_trySigns_20) (all_c (ok_icmp_ne dX12_trySigns_21 (by first | decide | omega)) (all_c (ok_aload_n dX12_trySigns_24 rfl) (all_c (ok_iload_n dX12_trySigns_25 rfl) (all_c (ok_iload_n dX12_trySigns_26 rfl) (all_c (ok_aload_n dX12_trySigns_27 rfl) (all_c (okg_X12_14 kw1069 dX12_trySigns_28) (all_c (ok_stk (s_bipush dX12_trySigns_31 (by first | decide | omega))) (all_c (ok_iload dX12_trySigns_33) (all_c (ok_stk (s_iadd dX12_trySigns_35)) (all_c (ok_iald dX12_trySigns_36) (all_c (okc_X12_sumAt (by first | decide | omega) kw1089 dX12_trySigns_37) (all_c (ok_aload_n dX12_trySigns_40 rfl) (all_c (okg_X12_14 kw1069 dX12_trySigns_41) (all_c (ok_stk (s_bipush dX12_trySigns_44 (by first | decide | omega))) (all_c (ok_iload dX12_trySigns_46) (all_c (ok_stk (s_iadd dX12_trySigns_48)) (all_c (ok_iald dX12_trySigns_49) (all_c (ok_icmp_ge dX12_trySigns_50 (by first | decide | omega)) (all_c (ok_vret dX12_trySigns_53) (all_c (ok_aload_n dX12_trySigns_54 rfl) (all_c (ok_iload dX12_trySigns_55) (all_c (okp_X12_36 kw1128 dX12_trySigns_57) (all_c (ok_stk (s_iconst dX12_trySigns_60 (by first | decide | omega))) (all_c (ok_istore dX12_trySigns_61 (by first | decide | omega)) (all_c (ok_iload dX12_trySigns_63) (all_c (ok_stk (s_iconst dX12_trySigns_65 (by first | decide | omega))) (all_c (ok_icmp_ge dX12_trySigns_66 (by first | decide | omega)) (all_c (ok_aload_n dX12_trySigns_69 rfl) (all_c (okg_X12_32 kw1129 dX12_trySigns_70) (all_c (ok_iload dX12_trySigns_73) (all_c (ok_aload_n dX12_trySigns_75 rfl) (all_c (okg_X12_34 kw1130 dX12_trySigns_76) (all_c (ok_iload dX12_trySigns_79) (all_c (ok_iald dX12_trySigns_81) (all_c (ok_iast dX12_trySigns_82) (all_c (ok_iinc dX12_trySigns_83 (by first | decide | omega) (by first | decide | omega)) (all_c (ok_goto dX12_trySigns_86 (by first | decide | omega)) (all_c (ok_vret dX12_trySigns_89) (all_c (ok_stk (s_iconst dX12_trySigns_90 (by first | decide | omega))) (all_c (ok_iload_n dX12_trySigns_91 rfl) (all_c (ok_stk (s_imul dX12_trySigns_92)) (all_c (ok_iload_n dX12_trySigns_93 rfl) (all_c (ok_stk (s_iadd dX12_trySigns_94)) (all_c (ok_iload_n dX12_trySigns_95 rfl) (all_c (ok_stk (s_iadd dX12_trySigns_96)) (all_c (ok_istore dX12_trySigns_97 (by first | decide | omega)) (all_c (ok_aload_n dX12_trySigns_99 rfl) (all_c (okg_X12_34 kw1130 dX12_trySigns_100) (all_c (ok_iload_n dX12_trySigns_103 rfl) (all_c (ok_stk (s_iconst dX12_trySigns_104 (by first | decide | omega))) (all_c (ok_iast dX12_trySigns_105) (all_c (ok_aload_n dX12_trySigns_106 rfl) (all_c (okg_X12_27 kw1068 dX12_trySigns_107) (all_c (ok_iload dX12_trySigns_110) (all_c (ok_iald dX12_trySigns_112) (all_c (ok_stk (s_iconst dX12_trySigns_113 (by first | decide | omega))) (all_c (ok_icmp_eq dX12_trySigns_114 (by first | decide | omega)) (all_c (ok_aload_n dX12_trySigns_117 rfl) (all_c (ok_iload_n dX12_trySigns_118 rfl) (all_c (ok_iload_n dX12_trySigns_119 rfl) (all_c (ok_iload_n dX12_trySigns_120 rfl) (all_c (ok_stk (s_iconst dX12_trySigns_121 (by first | decide | omega))) (all_c (ok_stk (s_iadd dX12_trySigns_122)) (all_c (ok_iload dX12_trySigns_123) (all_c (ok_iload dX12_trySigns_125) (all_c (ok_callV hg (good_ws ws_good (fun _ h => h) kw1133) (by first | decide | omega) (by first | decide | omega) kw1134 kw1131 kw1132 kw1072 ⟨by decide +kernel, by decide +kernel, by decide +kernel⟩ rfl dX12_trySigns_127) (all_c (ok_vret dX12_trySigns_130) (all_c (ok_stk (s_iconst dX12_trySigns_131 (by first | decide | omega))) (all_c (ok_istore dX12_trySigns_132 (by first | decide | omega)) (all_c (ok_iload dX12_trySigns_134) (all_c (ok_aload_n dX12_trySigns_136 rfl) (all_c (okg_X12_14 kw1069 dX12_trySigns_137) (all_c (ok_stk (s_iconst dX12_trySigns_140 (by first | decide | omega))) (all_c (ok_iald dX12_trySigns_141) (all_c (ok_icmp_ge dX12_trySigns_142 (by first | decide | omega)) (all_c (ok_aload_n dX12_trySigns_145 rfl) (all_c (ok_iload dX12_trySigns_146) (all_c (okc_X12_isDead (by first | decide | omega) kw1138 dX12_trySigns_148) (all_c (ok_if_eq dX12_trySigns_151 (by first | decide | omega)) (all_c (ok_goto dX12_trySigns_154 (by first | decide | omega)) (all_c (ok_aload_n dX12_trySigns_157 rfl) (all_c (okg_X12_27 kw1068 dX12_trySigns_158) (all_c (ok_iload dX12_trySigns_161) (all_c (ok_iload dX12_trySigns_163) (all_c (ok_iast dX12_trySigns_165) (all_c (ok_aload_n dX12_trySigns_166 rfl) (all_c (okg_X12_34 kw1130 dX12_trySigns_167) (all_c (ok_iload_n dX12_trySigns_170 rfl) (all_c (ok_iload dX12_trySigns_171) (all_c (ok_iast dX12_trySigns_173) (all_c (ok_aload_n dX12_trySigns_174 rfl) (all_c (ok_iload_n dX12_trySigns_175 rfl) (all_c (ok_iload_n dX12_trySigns_176 rfl) (all_c (ok_iload_n dX12_trySigns_177 rfl) (all_c (ok_stk (s_iconst dX12_trySigns_178 (by first | decide | omega))) (all_c (ok_stk (s_iadd dX12_trySigns_179)) (all_c (ok_iload dX12_trySigns_180) (all_c (ok_iload dX12_trySigns_182) (all_c (ok_aload_n dX12_trySigns_184 rfl) (all_c (okg_X12_14 kw1069 dX12_trySigns_185) (all_c (ok_stk (s_bipush dX12_trySigns_188 (by first | decide | omega))) (all_c (ok_iload dX12_trySigns_190) (all_c (ok_stk (s_iadd dX12_trySigns_192)) (all_c (ok_iald dX12_trySigns_193) (all_c (ok_stk (s_iadd dX12_trySigns_194)) (all_c (ok_callV hg (good_ws ws_good (fun _ h => h) kw1133) (by first | decide | omega) (by first | decide | omega) kw1134 kw1131 kw1132 kw1072 ⟨by decide +kernel, by decide +kernel, by decide +kernel⟩ rfl dX12_trySigns_195) (all_c (ok_iinc dX12_trySigns_198 (by first | decide | omega) (by first | decide | omega)) (all_c (ok_goto dX12_trySigns_201 (by first | decide | omega)) (all_c (ok_aload_n dX12_trySigns_204 rfl) (all_c (okg_X12_27 kw1068 dX12_trySigns_205) (all_c (ok_iload dX12_trySigns_208) (all_c (ok_stk (s_iconst dX12_trySigns_210 (by first | decide | omega))) (all_c (ok_iast dX12_trySigns_211) (all_c (ok_aload_n dX12_trySigns_212 rfl) (all_c (okg_X12_34 kw1130 dX12_trySigns_213) (all_c (ok_iload_n dX12_trySigns_216 rfl) (all_c (ok_stk (s_iconst dX12_trySigns_217 (by first | decide | omega))) (all_c (ok_iast dX12_trySigns_218) (all_c (ok_vret dX12_trySigns_219) all_n))))))))))))))))))))))))))))))))))))))))))))))))))))))))))))))))))))))))))))))))))))))))))))))))))))))))))))))))))))))))))))))))))) n (fun h => by first | rfl | cases h))
def fX12_trySigns_n (kn : sKn) (n : Nat) : List Value → sW → Option sR := Nat.rec (motive := fun _ => List Value → sW → Option sR) f_none (fun _ g => fX12_trySigns_g kn g) n
theorem mX12_trySigns_n (kn : sKn) : ∀ n, mM kn yX12_trySigns (Cond.code yX12_trySigns cX12_trySigns 8 none :: wsL_law) (n * 5) true (fX12_trySigns_n kn n) := by
  intro n
  induction n with
  | zero => exact m_none
  | succ n ih =>
    have h := mX12_trySigns_g kn ih
    rw [Nat.succ_mul]
    exact h
def fX12_trySigns (kn : sKn) : List Value → sW → Option sR := fX12_trySigns_n kn 5
theorem mX12_trySigns (kn : sKn) : mM kn yX12_trySigns (Cond.code yX12_trySigns cX12_trySigns 8 none :: wsL_law) 25 true (fX12_trySigns kn) := mX12_trySigns_n kn 5
end
