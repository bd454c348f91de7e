noncomputable section
theorem dX11_feed_0 : decode cX11_feed 0 = .ok (.aload_n 0, 1) := by decide +kernel
theorem dX11_feed_1 : decode cX11_feed 1 = .ok (.getfield 10, 3) := by decide +kernel
theorem dX11_feed_4 : decode cX11_feed 4 = .ok (.getfield 115, 3) := by decide +kernel
theorem dX11_feed_7 : decode cX11_feed 7 = .ok (.bipush 20, 2) := by decide +kernel
theorem dX11_feed_9 : decode cX11_feed 9 = .ok (.iadd, 1) := by decide +kernel
theorem dX11_feed_10 : decode cX11_feed 10 = .ok (.sipush 940, 3) := by decide +kernel
theorem dX11_feed_13 : decode cX11_feed 13 = .ok (.if_icmp .le 5, 3) := by decide +kernel
theorem dX11_feed_16 : decode cX11_feed 16 = .ok (.iconst (-1), 1) := by decide +kernel
theorem dX11_feed_17 : decode cX11_feed 17 = .ok (.ireturn, 1) := by decide +kernel
theorem dX11_feed_18 : decode cX11_feed 18 = .ok (.aload_n 0, 1) := by decide +kernel
theorem dX11_feed_19 : decode cX11_feed 19 = .ok (.getfield 10, 3) := by decide +kernel
theorem dX11_feed_22 : decode cX11_feed 22 = .ok (.iload_n 1, 1) := by decide +kernel
theorem dX11_feed_23 : decode cX11_feed 23 = .ok (.invokevirtual 119, 3) := by decide +kernel
theorem dX11_feed_26 : decode cX11_feed 26 = .ok (.aload_n 0, 1) := by decide +kernel
theorem dX11_feed_27 : decode cX11_feed 27 = .ok (.getfield 10, 3) := by decide +kernel
theorem dX11_feed_30 : decode cX11_feed 30 = .ok (.iload_n 2, 1) := by decide +kernel
theorem dX11_feed_31 : decode cX11_feed 31 = .ok (.invokevirtual 119, 3) := by decide +kernel
theorem dX11_feed_34 : decode cX11_feed 34 = .ok (.aload_n 0, 1) := by decide +kernel
theorem dX11_feed_35 : decode cX11_feed 35 = .ok (.getfield 10, 3) := by decide +kernel
theorem dX11_feed_38 : decode cX11_feed 38 = .ok (.iload_n 3, 1) := by decide +kernel
theorem dX11_feed_39 : decode cX11_feed 39 = .ok (.invokevirtual 119, 3) := by decide +kernel
theorem dX11_feed_42 : decode cX11_feed 42 = .ok (.aload_n 0, 1) := by decide +kernel
theorem dX11_feed_43 : decode cX11_feed 43 = .ok (.getfield 10, 3) := by decide +kernel
theorem dX11_feed_46 : decode cX11_feed 46 = .ok (.iload 4, 2) := by decide +kernel
theorem dX11_feed_48 : decode cX11_feed 48 = .ok (.invokevirtual 119, 3) := by decide +kernel
theorem dX11_feed_51 : decode cX11_feed 51 = .ok (.aload_n 0, 1) := by decide +kernel
theorem dX11_feed_52 : decode cX11_feed 52 = .ok (.getfield 10, 3) := by decide +kernel
theorem dX11_feed_55 : decode cX11_feed 55 = .ok (.iload 5, 2) := by decide +kernel
theorem dX11_feed_57 : decode cX11_feed 57 = .ok (.invokevirtual 119, 3) := by decide +kernel
theorem dX11_feed_60 : decode cX11_feed 60 = .ok (.aload_n 0, 1) := by decide +kernel
theorem dX11_feed_61 : decode cX11_feed 61 = .ok (.getfield 10, 3) := by decide +kernel
theorem dX11_feed_64 : decode cX11_feed 64 = .ok (.getfield 115, 3) := by decide +kernel
theorem dX11_feed_67 : decode cX11_feed 67 = .ok (.ireturn, 1) := by decide +kernel
theorem okc_X9_put {kn : sKn} {cc : ByteArray} {own : String} {nL : Nat} {D : Nat} {ret : Option FieldType} {ini : Bool} {pc index : Nat} (hD : 1 + 1 ≤ D) (hl : Cond.methodLink own index yX9_put ∈ wsL_law) (hd : decode cc pc = .ok (.invokevirtual index, 3)) : mOk kn cc own nL wsL_law D ret ini pc (a_callV true (fX9_put kn) 10 (1 + 1) (pc + 3)) := ok_callV (mX9_put kn) (good_ws ws_good (fun _ h => h) kw741) hD (by decide) hl kw742 kw743 kw392 ⟨by decide +kernel, by decide +kernel, by decide +kernel⟩ rfl hd
def tX11_feed (kn : sKn) : List (Nat × sA) := [(0, a_aload 0 1), (1, a_get 12 0 4), (4, a_get 10 1 7), (7, a_stk (q_int 20) 9), (9, a_stk q_iadd 10), (10, a_stk (q_int 940) 13), (13, a_icmp kn b_le 5 18 16), (16, a_stk (q_int (-1)) 17), (17, a_iret), (18, a_aload 0 19), (19, a_get 12 0 22), (22, a_iload 1 23), (23, a_callV true (fX9_put kn) 10 2 26), (26, a_aload 0 27), (27, a_get 12 0 30), (30, a_iload 2 31), (31, a_callV true (fX9_put kn) 10 2 34), (34, a_aload 0 35), (35, a_get 12 0 38), (38, a_iload 3 39), (39, a_callV true (fX9_put kn) 10 2 42), (42, a_aload 0 43), (43, a_get 12 0 46), (46, a_iload 4 48), (48, a_callV true (fX9_put kn) 10 2 51), (51, a_aload 0 52), (52, a_get 12 0 55), (55, a_iload 5 57), (57, a_callV true (fX9_put kn) 10 2 60), (60, a_aload 0 61), (61, a_get 12 0 64), (64, a_get 10 1 67), (67, a_iret)]
def fX11_feed (kn : sKn) : List Value → sW → Option sR := fW (tX11_feed kn) 6
set_option maxRecDepth 100000 in
set_option maxHeartbeats 4000000 in
theorem mX11_feed (kn : sKn) : mM kn yX11_feed (Cond.code yX11_feed cX11_feed 6 (some .int) :: wsL_law) 2 false (fX11_feed kn) := mM_W (fun n => mM_of (own := RX11) (ini := false) rfl (by decide +kernel) (by decide +kernel) (all_c (ok_aload_n dX11_feed_0 rfl) (all_c (okg_X11_0 kw496 dX11_feed_1) (all_c (okg_X9_1 kw501 dX11_feed_4) (all_c (ok_stk (s_bipush dX11_feed_7 (by decide))) (all_c (ok_stk (s_iadd dX11_feed_9)) (all_c (ok_stk (s_sipush dX11_feed_10 (by decide))) (all_c (ok_icmp_le dX11_feed_13 (by decide)) (all_c (ok_stk (s_iconst dX11_feed_16 (by decide))) (all_c (ok_iret dX11_feed_17) (all_c (ok_aload_n dX11_feed_18 rfl) (all_c (okg_X11_0 kw496 dX11_feed_19) (all_c (ok_iload_n dX11_feed_22 rfl) (all_c (okc_X9_put (by decide) kw744 dX11_feed_23) (all_c (ok_aload_n dX11_feed_26 rfl) (all_c (okg_X11_0 kw496 dX11_feed_27) (all_c (ok_iload_n dX11_feed_30 rfl) (all_c (okc_X9_put (by decide) kw744 dX11_feed_31) (all_c (ok_aload_n dX11_feed_34 rfl) (all_c (okg_X11_0 kw496 dX11_feed_35) (all_c (ok_iload_n dX11_feed_38 rfl) (all_c (okc_X9_put (by decide) kw744 dX11_feed_39) (all_c (ok_aload_n dX11_feed_42 rfl) (all_c (okg_X11_0 kw496 dX11_feed_43) (all_c (ok_iload dX11_feed_46) (all_c (okc_X9_put (by decide) kw744 dX11_feed_48) (all_c (ok_aload_n dX11_feed_51 rfl) (all_c (okg_X11_0 kw496 dX11_feed_52) (all_c (ok_iload dX11_feed_55) (all_c (okc_X9_put (by decide) kw744 dX11_feed_57) (all_c (ok_aload_n dX11_feed_60 rfl) (all_c (okg_X11_0 kw496 dX11_feed_61) (all_c (okg_X9_1 kw501 dX11_feed_64) (all_c (ok_iret dX11_feed_67) all_n))))))))))))))))))))))))))))))))) n (fun h => by first | rfl | cases h))
theorem dX5_ableLoads_0 : decode cX5_ableLoads 0 = .ok (.iconst 0, 1) := by decide +kernel
theorem dX5_ableLoads_1 : decode cX5_ableLoads 1 = .ok (.istore_n 2, 1) := by decide +kernel
theorem dX5_ableLoads_2 : decode cX5_ableLoads 2 = .ok (.iconst 0, 1) := by decide +kernel
theorem dX5_ableLoads_3 : decode cX5_ableLoads 3 = .ok (.istore_n 3, 1) := by decide +kernel
theorem dX5_ableLoads_4 : decode cX5_ableLoads 4 = .ok (.iload_n 3, 1) := by decide +kernel
theorem dX5_ableLoads_5 : decode cX5_ableLoads 5 = .ok (.aload_n 1, 1) := by decide +kernel
theorem dX5_ableLoads_6 : decode cX5_ableLoads 6 = .ok (.getfield 75, 3) := by decide +kernel
theorem dX5_ableLoads_9 : decode cX5_ableLoads 9 = .ok (.if_icmp .ge 79, 3) := by decide +kernel
theorem dX5_ableLoads_12 : decode cX5_ableLoads 12 = .ok (.bipush 15, 2) := by decide +kernel
theorem dX5_ableLoads_14 : decode cX5_ableLoads 14 = .ok (.istore 4, 2) := by decide +kernel
theorem dX5_ableLoads_16 : decode cX5_ableLoads 16 = .ok (.iconst 0, 1) := by decide +kernel
theorem dX5_ableLoads_17 : decode cX5_ableLoads 17 = .ok (.istore 5, 2) := by decide +kernel
theorem dX5_ableLoads_19 : decode cX5_ableLoads 19 = .ok (.iload 5, 2) := by decide +kernel
theorem dX5_ableLoads_21 : decode cX5_ableLoads 21 = .ok (.aload_n 1, 1) := by decide +kernel
theorem dX5_ableLoads_22 : decode cX5_ableLoads 22 = .ok (.getfield 78, 3) := by decide +kernel
theorem dX5_ableLoads_25 : decode cX5_ableLoads 25 = .ok (.if_icmp .ge 46, 3) := by decide +kernel
theorem dX5_ableLoads_28 : decode cX5_ableLoads 28 = .ok (.iload 4, 2) := by decide +kernel
theorem dX5_ableLoads_30 : decode cX5_ableLoads 30 = .ok (.ifCond .eq 41, 3) := by decide +kernel
theorem dX5_ableLoads_33 : decode cX5_ableLoads 33 = .ok (.getstatic 105, 3) := by decide +kernel
theorem dX5_ableLoads_36 : decode cX5_ableLoads 36 = .ok (.iload 4, 2) := by decide +kernel
theorem dX5_ableLoads_38 : decode cX5_ableLoads 38 = .ok (.aload_n 0, 1) := by decide +kernel
theorem dX5_ableLoads_39 : decode cX5_ableLoads 39 = .ok (.getfield 9, 3) := by decide +kernel
theorem dX5_ableLoads_42 : decode cX5_ableLoads 42 = .ok (.bipush 8, 2) := by decide +kernel
theorem dX5_ableLoads_44 : decode cX5_ableLoads 44 = .ok (.bipush 12, 2) := by decide +kernel
theorem dX5_ableLoads_46 : decode cX5_ableLoads 46 = .ok (.iload_n 3, 1) := by decide +kernel
theorem dX5_ableLoads_47 : decode cX5_ableLoads 47 = .ok (.imul, 1) := by decide +kernel
theorem dX5_ableLoads_48 : decode cX5_ableLoads 48 = .ok (.iload 5, 2) := by decide +kernel
theorem dX5_ableLoads_50 : decode cX5_ableLoads 50 = .ok (.iadd, 1) := by decide +kernel
theorem dX5_ableLoads_51 : decode cX5_ableLoads 51 = .ok (.imul, 1) := by decide +kernel
theorem dX5_ableLoads_52 : decode cX5_ableLoads 52 = .ok (.aload_n 0, 1) := by decide +kernel
theorem dX5_ableLoads_53 : decode cX5_ableLoads 53 = .ok (.getfield 15, 3) := by decide +kernel
theorem dX5_ableLoads_56 : decode cX5_ableLoads 56 = .ok (.iload 5, 2) := by decide +kernel
theorem dX5_ableLoads_58 : decode cX5_ableLoads 58 = .ok (.iaload, 1) := by decide +kernel
theorem dX5_ableLoads_59 : decode cX5_ableLoads 59 = .ok (.iadd, 1) := by decide +kernel
theorem dX5_ableLoads_60 : decode cX5_ableLoads 60 = .ok (.iaload, 1) := by decide +kernel
theorem dX5_ableLoads_61 : decode cX5_ableLoads 61 = .ok (.iand, 1) := by decide +kernel
theorem dX5_ableLoads_62 : decode cX5_ableLoads 62 = .ok (.iaload, 1) := by decide +kernel
theorem dX5_ableLoads_63 : decode cX5_ableLoads 63 = .ok (.istore 4, 2) := by decide +kernel
theorem dX5_ableLoads_65 : decode cX5_ableLoads 65 = .ok (.iinc 5 1, 3) := by decide +kernel
theorem dX5_ableLoads_68 : decode cX5_ableLoads 68 = .ok (.goto (-49), 3) := by decide +kernel
theorem dX5_ableLoads_71 : decode cX5_ableLoads 71 = .ok (.iload 4, 2) := by decide +kernel
theorem dX5_ableLoads_73 : decode cX5_ableLoads 73 = .ok (.ifCond .eq 9, 3) := by decide +kernel
theorem dX5_ableLoads_76 : decode cX5_ableLoads 76 = .ok (.iload_n 2, 1) := by decide +kernel
theorem dX5_ableLoads_77 : decode cX5_ableLoads 77 = .ok (.iconst 1, 1) := by decide +kernel
theorem dX5_ableLoads_78 : decode cX5_ableLoads 78 = .ok (.iload_n 3, 1) := by decide +kernel
theorem dX5_ableLoads_79 : decode cX5_ableLoads 79 = .ok (.ishl, 1) := by decide +kernel
theorem dX5_ableLoads_80 : decode cX5_ableLoads 80 = .ok (.ior, 1) := by decide +kernel
theorem dX5_ableLoads_81 : decode cX5_ableLoads 81 = .ok (.istore_n 2, 1) := by decide +kernel
theorem dX5_ableLoads_82 : decode cX5_ableLoads 82 = .ok (.iinc 3 1, 3) := by decide +kernel
theorem dX5_ableLoads_85 : decode cX5_ableLoads 85 = .ok (.goto (-81), 3) := by decide +kernel
theorem dX5_ableLoads_88 : decode cX5_ableLoads 88 = .ok (.iload_n 2, 1) := by decide +kernel
theorem dX5_ableLoads_89 : decode cX5_ableLoads 89 = .ok (.ireturn, 1) := by decide +kernel
def tX5_ableLoads (kn : sKn) : List (Nat × sA) := [(0, a_stk (q_int 0) 1), (1, a_istore 2 2), (2, a_stk (q_int 0) 3), (3, a_istore 3 4), (4, a_iload 3 5), (5, a_aload 1 6), (6, a_get 7 3 9), (9, a_icmp kn b_ge 3 88 12), (12, a_stk (q_int 15) 14), (14, a_istore 4 16), (16, a_stk (q_int 0) 17), (17, a_istore 5 19), (19, a_iload 5 21), (21, a_aload 1 22), (22, a_get 7 0 25), (25, a_icmp kn b_ge 3 71 28), (28, a_iload 4 30), (30, a_if kn b_eq 0 71 33), (33, a_gets 1000000 36), (36, a_iload 4 38), (38, a_aload 0 39), (39, a_get 6 0 42), (42, a_stk (q_int 8) 44), (44, a_stk (q_int 12) 46), (46, a_iload 3 47), (47, a_stk q_imul 48), (48, a_iload 5 50), (50, a_stk q_iadd 51), (51, a_stk q_imul 52), (52, a_aload 0 53), (53, a_get 6 1 56), (56, a_iload 5 58), (58, a_iald 59), (59, a_stk q_iadd 60), (60, a_iald 61), (61, a_stk q_iand 62), (62, a_iald 63), (63, a_istore 4 65), (65, a_iinc 5 1 68), (68, a_goto 19), (71, a_iload 4 73), (73, a_if kn b_eq 0 82 76), (76, a_iload 2 77), (77, a_stk (q_int 1) 78), (78, a_iload 3 79), (79, a_stk q_ishl 80), (80, a_stk q_ior 81), (81, a_istore 2 82), (82, a_iinc 3 1 85), (85, a_goto 4), (88, a_iload 2 89), (89, a_iret)]
def fX5_ableLoads (kn : sKn) : List Value → sW → Option sR := fW (tX5_ableLoads kn) 6
set_option maxRecDepth 100000 in
set_option maxHeartbeats 4000000 in
theorem mX5_ableLoads (kn : sKn) : mM kn yX5_ableLoads (Cond.code yX5_ableLoads cX5_ableLoads 6 (some .int) :: wsL_law) 1 false (fX5_ableLoads kn) := mM_W (fun n => mM_of (own := RX5) (ini := false) rfl (by decide +kernel) (by decide +kernel) (all_c (ok_stk (s_iconst dX5_ableLoads_0 (by decide))) (all_c (ok_istore_n dX5_ableLoads_1 rfl (by decide)) (all_c (ok_stk (s_iconst dX5_ableLoads_2 (by decide))) (all_c (ok_istore_n dX5_ableLoads_3 rfl (by decide)) (all_c (ok_iload_n dX5_ableLoads_4 rfl) (all_c (ok_aload_n dX5_ableLoads_5 rfl) (all_c (okg_X6_3 kw745 dX5_ableLoads_6) (all_c (ok_icmp_ge dX5_ableLoads_9 (by decide)) (all_c (ok_stk (s_bipush dX5_ableLoads_12 (by decide))) (all_c (ok_istore dX5_ableLoads_14 (by decide)) (all_c (ok_stk (s_iconst dX5_ableLoads_16 (by decide))) (all_c (ok_istore dX5_ableLoads_17 (by decide)) (all_c (ok_iload dX5_ableLoads_19) (all_c (ok_aload_n dX5_ableLoads_21 rfl) (all_c (okg_X6_0 kw746 dX5_ableLoads_22) (all_c (ok_icmp_ge dX5_ableLoads_25 (by decide)) (all_c (ok_iload dX5_ableLoads_28) (all_c (ok_if_eq dX5_ableLoads_30 (by decide)) (all_c (ok_openN (by decide +kernel) dX5_ableLoads_33) (all_c (ok_iload dX5_ableLoads_36) (all_c (ok_aload_n dX5_ableLoads_38 rfl) (all_c (okg_X5_0 kw747 dX5_ableLoads_39) (all_c (ok_stk (s_bipush dX5_ableLoads_42 (by decide))) (all_c (ok_stk (s_bipush dX5_ableLoads_44 (by decide))) (all_c (ok_iload_n dX5_ableLoads_46 rfl) (all_c (ok_stk (s_imul dX5_ableLoads_47)) (all_c (ok_iload dX5_ableLoads_48) (all_c (ok_stk (s_iadd dX5_ableLoads_50)) (all_c (ok_stk (s_imul dX5_ableLoads_51)) (all_c (ok_aload_n dX5_ableLoads_52 rfl) (all_c (okg_X5_1 kw748 dX5_ableLoads_53) (all_c (ok_iload dX5_ableLoads_56) (all_c (ok_iald dX5_ableLoads_58) (all_c (ok_stk (s_iadd dX5_ableLoads_59)) (all_c (ok_iald dX5_ableLoads_60) (all_c (ok_stk (s_iand dX5_ableLoads_61)) (all_c (ok_iald dX5_ableLoads_62) (all_c (ok_istore dX5_ableLoads_63 (by decide)) (all_c (ok_iinc dX5_ableLoads_65 (by decide) (by decide)) (all_c (ok_goto dX5_ableLoads_68 (by decide)) (all_c (ok_iload dX5_ableLoads_71) (all_c (ok_if_eq dX5_ableLoads_73 (by decide)) (all_c (ok_iload_n dX5_ableLoads_76 rfl) (all_c (ok_stk (s_iconst dX5_ableLoads_77 (by decide))) (all_c (ok_iload_n dX5_ableLoads_78 rfl) (all_c (ok_stk (s_ishl dX5_ableLoads_79)) (all_c (ok_stk (s_ior dX5_ableLoads_80)) (all_c (ok_istore_n dX5_ableLoads_81 rfl (by decide)) (all_c (ok_iinc dX5_ableLoads_82 (by decide) (by decide)) (all_c (ok_goto dX5_ableLoads_85 (by decide)) (all_c (ok_iload_n dX5_ableLoads_88 rfl) (all_c (ok_iret dX5_ableLoads_89) all_n)))))))))))))))))))))))))))))))))))))))))))))))))))) n (fun h => by first | rfl | cases h))
theorem dX5_addAble_0 : decode cX5_addAble 0 = .ok (.iconst 0, 1) := by decide +kernel
theorem dX5_addAble_1 : decode cX5_addAble 1 = .ok (.istore_n 3, 1) := by decide +kernel
theorem dX5_addAble_2 : decode cX5_addAble 2 = .ok (.iload_n 3, 1) := by decide +kernel
theorem dX5_addAble_3 : decode cX5_addAble 3 = .ok (.aload_n 1, 1) := by decide +kernel
theorem dX5_addAble_4 : decode cX5_addAble 4 = .ok (.getfield 75, 3) := by decide +kernel
theorem dX5_addAble_7 : decode cX5_addAble 7 = .ok (.if_icmp .ge 23, 3) := by decide +kernel
theorem dX5_addAble_10 : decode cX5_addAble 10 = .ok (.aload_n 0, 1) := by decide +kernel
theorem dX5_addAble_11 : decode cX5_addAble 11 = .ok (.getfield 18, 3) := by decide +kernel
theorem dX5_addAble_14 : decode cX5_addAble 14 = .ok (.iload_n 3, 1) := by decide +kernel
theorem dX5_addAble_15 : decode cX5_addAble 15 = .ok (.dup2, 1) := by decide +kernel
theorem dX5_addAble_16 : decode cX5_addAble 16 = .ok (.iaload, 1) := by decide +kernel
theorem dX5_addAble_17 : decode cX5_addAble 17 = .ok (.iload_n 2, 1) := by decide +kernel
theorem dX5_addAble_18 : decode cX5_addAble 18 = .ok (.iload_n 3, 1) := by decide +kernel
theorem dX5_addAble_19 : decode cX5_addAble 19 = .ok (.ishr, 1) := by decide +kernel
theorem dX5_addAble_20 : decode cX5_addAble 20 = .ok (.iconst 1, 1) := by decide +kernel
theorem dX5_addAble_21 : decode cX5_addAble 21 = .ok (.iand, 1) := by decide +kernel
theorem dX5_addAble_22 : decode cX5_addAble 22 = .ok (.iadd, 1) := by decide +kernel
theorem dX5_addAble_23 : decode cX5_addAble 23 = .ok (.iastore, 1) := by decide +kernel
theorem dX5_addAble_24 : decode cX5_addAble 24 = .ok (.iinc 3 1, 3) := by decide +kernel
theorem dX5_addAble_27 : decode cX5_addAble 27 = .ok (.goto (-25), 3) := by decide +kernel
theorem dX5_addAble_30 : decode cX5_addAble 30 = .ok (.return_, 1) := by decide +kernel
def tX5_addAble (kn : sKn) : List (Nat × sA) := [(0, a_stk (q_int 0) 1), (1, a_istore 3 2), (2, a_iload 3 3), (3, a_aload 1 4), (4, a_get 7 3 7), (7, a_icmp kn b_ge 3 30 10), (10, a_aload 0 11), (11, a_get 6 2 14), (14, a_iload 3 15), (15, a_stk q_dup2 16), (16, a_iald 17), (17, a_iload 2 18), (18, a_iload 3 19), (19, a_stk q_ishr 20), (20, a_stk (q_int 1) 21), (21, a_stk q_iand 22), (22, a_stk q_iadd 23), (23, a_iast 24), (24, a_iinc 3 1 27), (27, a_goto 2), (30, a_vret)]
def fX5_addAble (kn : sKn) : List Value → sW → Option sR := fW (tX5_addAble kn) 4
set_option maxRecDepth 100000 in
set_option maxHeartbeats 4000000 in
theorem mX5_addAble (kn : sKn) : mM kn yX5_addAble (Cond.code yX5_addAble cX5_addAble 4 none :: wsL_law) 1 true (fX5_addAble kn) := mM_W (fun n => mM_of (own := RX5) (ini := false) rfl (by decide +kernel) (by decide +kernel) (all_c (ok_stk (s_iconst dX5_addAble_0 (by decide))) (all_c (ok_istore_n dX5_addAble_1 rfl (by decide)) (all_c (ok_iload_n dX5_addAble_2 rfl) (all_c (ok_aload_n dX5_addAble_3 rfl) (all_c (okg_X6_3 kw745 dX5_addAble_4) (all_c (ok_icmp_ge dX5_addAble_7 (by decide)) (all_c (ok_aload_n dX5_addAble_10 rfl) (all_c (okg_X5_2 kw749 dX5_addAble_11) (all_c (ok_iload_n dX5_addAble_14 rfl) (all_c (ok_stk (s_dup2 dX5_addAble_15)) (all_c (ok_iald dX5_addAble_16) (all_c (ok_iload_n dX5_addAble_17 rfl) (all_c (ok_iload_n dX5_addAble_18 rfl) (all_c (ok_stk (s_ishr dX5_addAble_19)) (all_c (ok_stk (s_iconst dX5_addAble_20 (by decide))) (all_c (ok_stk (s_iand dX5_addAble_21)) (all_c (ok_stk (s_iadd dX5_addAble_22)) (all_c (ok_iast dX5_addAble_23) (all_c (ok_iinc dX5_addAble_24 (by decide) (by decide)) (all_c (ok_goto dX5_addAble_27 (by decide)) (all_c (ok_vret dX5_addAble_30) all_n))))))))))))))))))))) n (fun h => by first | rfl | cases h))
theorem dX5_agrees_0 : decode cX5_agrees 0 = .ok (.iconst 0, 1) := by decide +kernel
theorem dX5_agrees_1 : decode cX5_agrees 1 = .ok (.istore_n 3, 1) := by decide +kernel
theorem dX5_agrees_2 : decode cX5_agrees 2 = .ok (.iload_n 3, 1) := by decide +kernel
theorem dX5_agrees_3 : decode cX5_agrees 3 = .ok (.iconst 1, 1) := by decide +kernel
theorem dX5_agrees_4 : decode cX5_agrees 4 = .ok (.iadd, 1) := by decide +kernel
theorem dX5_agrees_5 : decode cX5_agrees 5 = .ok (.aload_n 1, 1) := by decide +kernel
theorem dX5_agrees_6 : decode cX5_agrees 6 = .ok (.getfield 67, 3) := by decide +kernel
theorem dX5_agrees_9 : decode cX5_agrees 9 = .ok (.if_icmp .ge 32, 3) := by decide +kernel
theorem dX5_agrees_12 : decode cX5_agrees 12 = .ok (.iload_n 2, 1) := by decide +kernel
theorem dX5_agrees_13 : decode cX5_agrees 13 = .ok (.aload_n 1, 1) := by decide +kernel
theorem dX5_agrees_14 : decode cX5_agrees 14 = .ok (.getfield 72, 3) := by decide +kernel
theorem dX5_agrees_17 : decode cX5_agrees 17 = .ok (.iload_n 3, 1) := by decide +kernel
theorem dX5_agrees_18 : decode cX5_agrees 18 = .ok (.iaload, 1) := by decide +kernel
theorem dX5_agrees_19 : decode cX5_agrees 19 = .ok (.ishr, 1) := by decide +kernel
theorem dX5_agrees_20 : decode cX5_agrees 20 = .ok (.iconst 1, 1) := by decide +kernel
theorem dX5_agrees_21 : decode cX5_agrees 21 = .ok (.iand, 1) := by decide +kernel
theorem dX5_agrees_22 : decode cX5_agrees 22 = .ok (.aload_n 1, 1) := by decide +kernel
theorem dX5_agrees_23 : decode cX5_agrees 23 = .ok (.getfield 72, 3) := by decide +kernel
theorem dX5_agrees_26 : decode cX5_agrees 26 = .ok (.iload_n 3, 1) := by decide +kernel
theorem dX5_agrees_27 : decode cX5_agrees 27 = .ok (.iconst 1, 1) := by decide +kernel
theorem dX5_agrees_28 : decode cX5_agrees 28 = .ok (.iadd, 1) := by decide +kernel
theorem dX5_agrees_29 : decode cX5_agrees 29 = .ok (.iaload, 1) := by decide +kernel
theorem dX5_agrees_30 : decode cX5_agrees 30 = .ok (.if_icmp .eq 5, 3) := by decide +kernel
theorem dX5_agrees_33 : decode cX5_agrees 33 = .ok (.iconst 0, 1) := by decide +kernel
theorem dX5_agrees_34 : decode cX5_agrees 34 = .ok (.ireturn, 1) := by decide +kernel
theorem dX5_agrees_35 : decode cX5_agrees 35 = .ok (.iinc 3 2, 3) := by decide +kernel
theorem dX5_agrees_38 : decode cX5_agrees 38 = .ok (.goto (-36), 3) := by decide +kernel
theorem dX5_agrees_41 : decode cX5_agrees 41 = .ok (.iconst 1, 1) := by decide +kernel
theorem dX5_agrees_42 : decode cX5_agrees 42 = .ok (.ireturn, 1) := by decide +kernel
def tX5_agrees (kn : sKn) : List (Nat × sA) := [(0, a_stk (q_int 0) 1), (1, a_istore 3 2), (2, a_iload 3 3), (3, a_stk (q_int 1) 4), (4, a_stk q_iadd 5), (5, a_aload 1 6), (6, a_get 10 1 9), (9, a_icmp kn b_ge 3 41 12), (12, a_iload 2 13), (13, a_aload 1 14), (14, a_get 10 0 17), (17, a_iload 3 18), (18, a_iald 19), (19, a_stk q_ishr 20), (20, a_stk (q_int 1) 21), (21, a_stk q_iand 22), (22, a_aload 1 23), (23, a_get 10 0 26), (26, a_iload 3 27), (27, a_stk (q_int 1) 28), (28, a_stk q_iadd 29), (29, a_iald 30), (30, a_icmp kn b_eq 0 35 33), (33, a_stk (q_int 0) 34), (34, a_zret), (35, a_iinc 3 2 38), (38, a_goto 2), (41, a_stk (q_int 1) 42), (42, a_zret)]
def fX5_agrees (kn : sKn) : List Value → sW → Option sR := fW (tX5_agrees kn) 4
set_option maxRecDepth 100000 in
set_option maxHeartbeats 4000000 in
theorem mX5_agrees (kn : sKn) : mM kn yX5_agrees (Cond.code yX5_agrees cX5_agrees 4 (some .boolean) :: wsL_law) 1 false (fX5_agrees kn) := mM_W (fun n => mM_of (own := RX5) (ini := false) rfl (by decide +kernel) (by decide +kernel) (all_c (ok_stk (s_iconst dX5_agrees_0 (by decide))) (all_c (ok_istore_n dX5_agrees_1 rfl (by decide)) (all_c (ok_iload_n dX5_agrees_2 rfl) (all_c (ok_stk (s_iconst dX5_agrees_3 (by decide))) (all_c (ok_stk (s_iadd dX5_agrees_4)) (all_c (ok_aload_n dX5_agrees_5 rfl) (all_c (okg_X9_1 kw750 dX5_agrees_6) (all_c (ok_icmp_ge dX5_agrees_9 (by decide)) (all_c (ok_iload_n dX5_agrees_12 rfl) (all_c (ok_aload_n dX5_agrees_13 rfl) (all_c (okg_X9_0 kw751 dX5_agrees_14) (all_c (ok_iload_n dX5_agrees_17 rfl) (all_c (ok_iald dX5_agrees_18) (all_c (ok_stk (s_ishr dX5_agrees_19)) (all_c (ok_stk (s_iconst dX5_agrees_20 (by decide))) (all_c (ok_stk (s_iand dX5_agrees_21)) (all_c (ok_aload_n dX5_agrees_22 rfl) (all_c (okg_X9_0 kw751 dX5_agrees_23) (all_c (ok_iload_n dX5_agrees_26 rfl) (all_c (ok_stk (s_iconst dX5_agrees_27 (by decide))) (all_c (ok_stk (s_iadd dX5_agrees_28)) (all_c (ok_iald dX5_agrees_29) (all_c (ok_icmp_eq dX5_agrees_30 (by decide)) (all_c (ok_stk (s_iconst dX5_agrees_33 (by decide))) (all_c (ok_zret dX5_agrees_34) (all_c (ok_iinc dX5_agrees_35 (by decide) (by decide)) (all_c (ok_goto dX5_agrees_38 (by decide)) (all_c (ok_stk (s_iconst dX5_agrees_41 (by decide))) (all_c (ok_zret dX5_agrees_42) all_n))))))))))))))))))))))))))))) n (fun h => by first | rfl | cases h))
theorem dX5_isAsTold_0 : decode cX5_isAsTold 0 = .ok (.aload_n 2, 1) := by decide +kernel
theorem dX5_isAsTold_1 : decode cX5_isAsTold 1 = .ok (.getfield 67, 3) := by decide +kernel
theorem dX5_isAsTold_4 : decode cX5_isAsTold 4 = .ok (.istore_n 3, 1) := by decide +kernel
theorem dX5_isAsTold_5 : decode cX5_isAsTold 5 = .ok (.iload_n 3, 1) := by decide +kernel
theorem dX5_isAsTold_6 : decode cX5_isAsTold 6 = .ok (.iconst 2, 1) := by decide +kernel
theorem dX5_isAsTold_7 : decode cX5_isAsTold 7 = .ok (.if_icmp .lt 15, 3) := by decide +kernel
theorem dX5_isAsTold_10 : decode cX5_isAsTold 10 = .ok (.iload_n 3, 1) := by decide +kernel
theorem dX5_isAsTold_11 : decode cX5_isAsTold 11 = .ok (.bipush 12, 2) := by decide +kernel
theorem dX5_isAsTold_13 : decode cX5_isAsTold 13 = .ok (.if_icmp .gt 9, 3) := by decide +kernel
theorem dX5_isAsTold_16 : decode cX5_isAsTold 16 = .ok (.iload_n 3, 1) := by decide +kernel
theorem dX5_isAsTold_17 : decode cX5_isAsTold 17 = .ok (.iconst 2, 1) := by decide +kernel
theorem dX5_isAsTold_18 : decode cX5_isAsTold 18 = .ok (.irem, 1) := by decide +kernel
theorem dX5_isAsTold_19 : decode cX5_isAsTold 19 = .ok (.ifCond .eq 5, 3) := by decide +kernel
theorem dX5_isAsTold_22 : decode cX5_isAsTold 22 = .ok (.iconst 0, 1) := by decide +kernel
theorem dX5_isAsTold_23 : decode cX5_isAsTold 23 = .ok (.ireturn, 1) := by decide +kernel
theorem dX5_isAsTold_24 : decode cX5_isAsTold 24 = .ok (.iconst 0, 1) := by decide +kernel
theorem dX5_isAsTold_25 : decode cX5_isAsTold 25 = .ok (.istore 4, 2) := by decide +kernel
theorem dX5_isAsTold_27 : decode cX5_isAsTold 27 = .ok (.iload 4, 2) := by decide +kernel
theorem dX5_isAsTold_29 : decode cX5_isAsTold 29 = .ok (.iconst 1, 1) := by decide +kernel
theorem dX5_isAsTold_30 : decode cX5_isAsTold 30 = .ok (.iadd, 1) := by decide +kernel
theorem dX5_isAsTold_31 : decode cX5_isAsTold 31 = .ok (.iload_n 3, 1) := by decide +kernel
theorem dX5_isAsTold_32 : decode cX5_isAsTold 32 = .ok (.if_icmp .ge 38, 3) := by decide +kernel
theorem dX5_isAsTold_35 : decode cX5_isAsTold 35 = .ok (.aload_n 2, 1) := by decide +kernel
theorem dX5_isAsTold_36 : decode cX5_isAsTold 36 = .ok (.getfield 72, 3) := by decide +kernel
theorem dX5_isAsTold_39 : decode cX5_isAsTold 39 = .ok (.iload 4, 2) := by decide +kernel
theorem dX5_isAsTold_41 : decode cX5_isAsTold 41 = .ok (.iaload, 1) := by decide +kernel
theorem dX5_isAsTold_42 : decode cX5_isAsTold 42 = .ok (.aload_n 1, 1) := by decide +kernel
theorem dX5_isAsTold_43 : decode cX5_isAsTold 43 = .ok (.getfield 75, 3) := by decide +kernel
theorem dX5_isAsTold_46 : decode cX5_isAsTold 46 = .ok (.if_icmp .ge 16, 3) := by decide +kernel
theorem dX5_isAsTold_49 : decode cX5_isAsTold 49 = .ok (.aload_n 2, 1) := by decide +kernel
theorem dX5_isAsTold_50 : decode cX5_isAsTold 50 = .ok (.getfield 72, 3) := by decide +kernel
theorem dX5_isAsTold_53 : decode cX5_isAsTold 53 = .ok (.iload 4, 2) := by decide +kernel
theorem dX5_isAsTold_55 : decode cX5_isAsTold 55 = .ok (.iconst 1, 1) := by decide +kernel
theorem dX5_isAsTold_56 : decode cX5_isAsTold 56 = .ok (.iadd, 1) := by decide +kernel
theorem dX5_isAsTold_57 : decode cX5_isAsTold 57 = .ok (.iaload, 1) := by decide +kernel
theorem dX5_isAsTold_58 : decode cX5_isAsTold 58 = .ok (.iconst 1, 1) := by decide +kernel
theorem dX5_isAsTold_59 : decode cX5_isAsTold 59 = .ok (.if_icmp .le 5, 3) := by decide +kernel
theorem dX5_isAsTold_62 : decode cX5_isAsTold 62 = .ok (.iconst 0, 1) := by decide +kernel
theorem dX5_isAsTold_63 : decode cX5_isAsTold 63 = .ok (.ireturn, 1) := by decide +kernel
theorem dX5_isAsTold_64 : decode cX5_isAsTold 64 = .ok (.iinc 4 2, 3) := by decide +kernel
theorem dX5_isAsTold_67 : decode cX5_isAsTold 67 = .ok (.goto (-40), 3) := by decide +kernel
theorem dX5_isAsTold_70 : decode cX5_isAsTold 70 = .ok (.iconst 1, 1) := by decide +kernel
theorem dX5_isAsTold_71 : decode cX5_isAsTold 71 = .ok (.ireturn, 1) := by decide +kernel
def tX5_isAsTold (kn : sKn) : List (Nat × sA) := [(0, a_aload 2 1), (1, a_get 10 1 4), (4, a_istore 3 5), (5, a_iload 3 6), (6, a_stk (q_int 2) 7), (7, a_icmp kn b_lt 2 22 10), (10, a_iload 3 11), (11, a_stk (q_int 12) 13), (13, a_icmp kn b_gt 4 22 16), (16, a_iload 3 17), (17, a_stk (q_int 2) 18), (18, a_stk q_irem 19), (19, a_if kn b_eq 0 24 22), (22, a_stk (q_int 0) 23), (23, a_zret), (24, a_stk (q_int 0) 25), (25, a_istore 4 27), (27, a_iload 4 29), (29, a_stk (q_int 1) 30), (30, a_stk q_iadd 31), (31, a_iload 3 32), (32, a_icmp kn b_ge 3 70 35), (35, a_aload 2 36), (36, a_get 10 0 39), (39, a_iload 4 41), (41, a_iald 42), (42, a_aload 1 43), (43, a_get 7 3 46), (46, a_icmp kn b_ge 3 62 49), (49, a_aload 2 50), (50, a_get 10 0 53), (53, a_iload 4 55), (55, a_stk (q_int 1) 56), (56, a_stk q_iadd 57), (57, a_iald 58), (58, a_stk (q_int 1) 59), (59, a_icmp kn b_le 5 64 62), (62, a_stk (q_int 0) 63), (63, a_zret), (64, a_iinc 4 2 67), (67, a_goto 27), (70, a_stk (q_int 1) 71), (71, a_zret)]
def fX5_isAsTold (kn : sKn) : List Value → sW → Option sR := fW (tX5_isAsTold kn) 5
set_option maxRecDepth 100000 in
set_option maxHeartbeats 4000000 in
theorem mX5_isAsTold (kn : sKn) : mM kn yX5_isAsTold (Cond.code yX5_isAsTold cX5_isAsTold 5 (some .boolean) :: wsL_law) 1 false (fX5_isAsTold kn) := mM_W (fun n => mM_of (own := RX5) (ini := false) rfl (by decide +kernel) (by decide +kernel) (all_c (ok_aload_n dX5_isAsTold_0 rfl) (all_c (okg_X9_1 kw750 dX5_isAsTold_1) (all_c (ok_istore_n dX5_isAsTold_4 rfl (by decide)) (all_c (ok_iload_n dX5_isAsTold_5 rfl) (all_c (ok_stk (s_iconst dX5_isAsTold_6 (by decide))) (all_c (ok_icmp_lt dX5_isAsTold_7 (by decide)) (all_c (ok_iload_n dX5_isAsTold_10 rfl) (all_c (ok_stk (s_bipush dX5_isAsTold_11 (by decide))) (all_c (ok_icmp_gt dX5_isAsTold_13 (by decide)) (all_c (ok_iload_n dX5_isAsTold_16 rfl) (all_c (ok_stk (s_iconst dX5_isAsTold_17 (by decide))) (all_c (ok_stk (s_irem dX5_isAsTold_18)) (all_c (ok_if_eq dX5_isAsTold_19 (by decide)) (all_c (ok_stk (s_iconst dX5_isAsTold_22 (by decide))) (all_c (ok_zret dX5_isAsTold_23) (all_c (ok_stk (s_iconst dX5_isAsTold_24 (by decide))) (all_c (ok_istore dX5_isAsTold_25 (by decide)) (all_c (ok_iload dX5_isAsTold_27) (all_c (ok_stk (s_iconst dX5_isAsTold_29 (by decide))) (all_c (ok_stk (s_iadd dX5_isAsTold_30)) (all_c (ok_iload_n dX5_isAsTold_31 rfl) (all_c (ok_icmp_ge dX5_isAsTold_32 (by decide)) (all_c (ok_aload_n dX5_isAsTold_35 rfl) (all_c (okg_X9_0 kw751 dX5_isAsTold_36) (all_c (ok_iload dX5_isAsTold_39) (all_c (ok_iald dX5_isAsTold_41) (all_c (ok_aload_n dX5_isAsTold_42 rfl) (all_c (okg_X6_3 kw745 dX5_isAsTold_43) (all_c (ok_icmp_ge dX5_isAsTold_46 (by decide)) (all_c (ok_aload_n dX5_isAsTold_49 rfl) (all_c (okg_X9_0 kw751 dX5_isAsTold_50) (all_c (ok_iload dX5_isAsTold_53) (all_c (ok_stk (s_iconst dX5_isAsTold_55 (by decide))) (all_c (ok_stk (s_iadd dX5_isAsTold_56)) (all_c (ok_iald dX5_isAsTold_57) (all_c (ok_stk (s_iconst dX5_isAsTold_58 (by decide))) (all_c (ok_icmp_le dX5_isAsTold_59 (by decide)) (all_c (ok_stk (s_iconst dX5_isAsTold_62 (by decide))) (all_c (ok_zret dX5_isAsTold_63) (all_c (ok_iinc dX5_isAsTold_64 (by decide) (by decide)) (all_c (ok_goto dX5_isAsTold_67 (by decide)) (all_c (ok_stk (s_iconst dX5_isAsTold_70 (by decide))) (all_c (ok_zret dX5_isAsTold_71) all_n))))))))))))))))))))))))))))))))))))))))))) n (fun h => by first | rfl | cases h))
theorem dX5_markForged_0 : decode cX5_markForged 0 = .ok (.iconst 0, 1) := by decide +kernel
theorem dX5_markForged_1 : decode cX5_markForged 1 = .ok (.istore 4, 2) := by decide +kernel
theorem dX5_markForged_3 : decode cX5_markForged 3 = .ok (.iload 4, 2) := by decide +kernel
theorem dX5_markForged_5 : decode cX5_markForged 5 = .ok (.aload_n 1, 1) := by decide +kernel
theorem dX5_markForged_6 : decode cX5_markForged 6 = .ok (.getfield 78, 3) := by decide +kernel
theorem dX5_markForged_9 : decode cX5_markForged 9 = .ok (.if_icmp .ge 70, 3) := by decide +kernel
theorem dX5_markForged_12 : decode cX5_markForged 12 = .ok (.iconst 0, 1) := by decide +kernel
theorem dX5_markForged_13 : decode cX5_markForged 13 = .ok (.istore 5, 2) := by decide +kernel
theorem dX5_markForged_15 : decode cX5_markForged 15 = .ok (.iconst 0, 1) := by decide +kernel
theorem dX5_markForged_16 : decode cX5_markForged 16 = .ok (.istore 6, 2) := by decide +kernel
theorem dX5_markForged_18 : decode cX5_markForged 18 = .ok (.iload 6, 2) := by decide +kernel
theorem dX5_markForged_20 : decode cX5_markForged 20 = .ok (.iconst 3, 1) := by decide +kernel
theorem dX5_markForged_21 : decode cX5_markForged 21 = .ok (.if_icmp .ge 43, 3) := by decide +kernel
theorem dX5_markForged_24 : decode cX5_markForged 24 = .ok (.aload_n 2, 1) := by decide +kernel
theorem dX5_markForged_25 : decode cX5_markForged 25 = .ok (.getfield 100, 3) := by decide +kernel
theorem dX5_markForged_28 : decode cX5_markForged 28 = .ok (.iconst 3, 1) := by decide +kernel
theorem dX5_markForged_29 : decode cX5_markForged 29 = .ok (.iload 4, 2) := by decide +kernel
theorem dX5_markForged_31 : decode cX5_markForged 31 = .ok (.imul, 1) := by decide +kernel
theorem dX5_markForged_32 : decode cX5_markForged 32 = .ok (.iload 6, 2) := by decide +kernel
theorem dX5_markForged_34 : decode cX5_markForged 34 = .ok (.iadd, 1) := by decide +kernel
theorem dX5_markForged_35 : decode cX5_markForged 35 = .ok (.iaload, 1) := by decide +kernel
theorem dX5_markForged_36 : decode cX5_markForged 36 = .ok (.istore 7, 2) := by decide +kernel
theorem dX5_markForged_38 : decode cX5_markForged 38 = .ok (.iload 7, 2) := by decide +kernel
theorem dX5_markForged_40 : decode cX5_markForged 40 = .ok (.iconst (-1), 1) := by decide +kernel
theorem dX5_markForged_41 : decode cX5_markForged 41 = .ok (.if_icmp .eq 17, 3) := by decide +kernel
theorem dX5_markForged_44 : decode cX5_markForged 44 = .ok (.iload 5, 2) := by decide +kernel
theorem dX5_markForged_46 : decode cX5_markForged 46 = .ok (.iload_n 3, 1) := by decide +kernel
theorem dX5_markForged_47 : decode cX5_markForged 47 = .ok (.iload 7, 2) := by decide +kernel
theorem dX5_markForged_49 : decode cX5_markForged 49 = .ok (.ishr, 1) := by decide +kernel
theorem dX5_markForged_50 : decode cX5_markForged 50 = .ok (.iconst 1, 1) := by decide +kernel
theorem dX5_markForged_51 : decode cX5_markForged 51 = .ok (.iand, 1) := by decide +kernel
theorem dX5_markForged_52 : decode cX5_markForged 52 = .ok (.iload 6, 2) := by decide +kernel
theorem dX5_markForged_54 : decode cX5_markForged 54 = .ok (.ishl, 1) := by decide +kernel
theorem dX5_markForged_55 : decode cX5_markForged 55 = .ok (.ior, 1) := by decide +kernel
theorem dX5_markForged_56 : decode cX5_markForged 56 = .ok (.istore 5, 2) := by decide +kernel
theorem dX5_markForged_58 : decode cX5_markForged 58 = .ok (.iinc 6 1, 3) := by decide +kernel
theorem dX5_markForged_61 : decode cX5_markForged 61 = .ok (.goto (-43), 3) := by decide +kernel
theorem dX5_markForged_64 : decode cX5_markForged 64 = .ok (.aload_n 0, 1) := by decide +kernel
theorem dX5_markForged_65 : decode cX5_markForged 65 = .ok (.getfield 15, 3) := by decide +kernel
theorem dX5_markForged_68 : decode cX5_markForged 68 = .ok (.iload 4, 2) := by decide +kernel
theorem dX5_markForged_70 : decode cX5_markForged 70 = .ok (.iload 5, 2) := by decide +kernel
theorem dX5_markForged_72 : decode cX5_markForged 72 = .ok (.iastore, 1) := by decide +kernel
theorem dX5_markForged_73 : decode cX5_markForged 73 = .ok (.iinc 4 1, 3) := by decide +kernel
theorem dX5_markForged_76 : decode cX5_markForged 76 = .ok (.goto (-73), 3) := by decide +kernel
theorem dX5_markForged_79 : decode cX5_markForged 79 = .ok (.return_, 1) := by decide +kernel
def tX5_markForged (kn : sKn) : List (Nat × sA) := [(0, a_stk (q_int 0) 1), (1, a_istore 4 3), (3, a_iload 4 5), (5, a_aload 1 6), (6, a_get 7 0 9), (9, a_icmp kn b_ge 3 79 12), (12, a_stk (q_int 0) 13), (13, a_istore 5 15), (15, a_stk (q_int 0) 16), (16, a_istore 6 18), (18, a_iload 6 20), (20, a_stk (q_int 3) 21), (21, a_icmp kn b_ge 3 64 24), (24, a_aload 2 25), (25, a_get 9 6 28), (28, a_stk (q_int 3) 29), (29, a_iload 4 31), (31, a_stk q_imul 32), (32, a_iload 6 34), (34, a_stk q_iadd 35), (35, a_iald 36), (36, a_istore 7 38), (38, a_iload 7 40), (40, a_stk (q_int (-1)) 41), (41, a_icmp kn b_eq 0 58 44), (44, a_iload 5 46), (46, a_iload 3 47), (47, a_iload 7 49), (49, a_stk q_ishr 50), (50, a_stk (q_int 1) 51), (51, a_stk q_iand 52), (52, a_iload 6 54), (54, a_stk q_ishl 55), (55, a_stk q_ior 56), (56, a_istore 5 58), (58, a_iinc 6 1 61), (61, a_goto 18), (64, a_aload 0 65), (65, a_get 6 1 68), (68, a_iload 4 70), (70, a_iload 5 72), (72, a_iast 73), (73, a_iinc 4 1 76), (76, a_goto 3), (79, a_vret)]
def fX5_markForged (kn : sKn) : List Value → sW → Option sR := fW (tX5_markForged kn) 8
set_option maxRecDepth 100000 in
set_option maxHeartbeats 4000000 in
theorem mX5_markForged (kn : sKn) : mM kn yX5_markForged (Cond.code yX5_markForged cX5_markForged 8 none :: wsL_law) 1 true (fX5_markForged kn) := mM_W (fun n => mM_of (own := RX5) (ini := false) rfl (by decide +kernel) (by decide +kernel) (all_c (ok_stk (s_iconst dX5_markForged_0 (by decide))) (all_c (ok_istore dX5_markForged_1 (by decide)) (all_c (ok_iload dX5_markForged_3) (all_c (ok_aload_n dX5_markForged_5 rfl) (all_c (okg_X6_0 kw746 dX5_markForged_6) (all_c (ok_icmp_ge dX5_markForged_9 (by decide)) (all_c (ok_stk (s_iconst dX5_markForged_12 (by decide))) (all_c (ok_istore dX5_markForged_13 (by decide)) (all_c (ok_stk (s_iconst dX5_markForged_15 (by decide))) (all_c (ok_istore dX5_markForged_16 (by decide)) (all_c (ok_iload dX5_markForged_18) (all_c (ok_stk (s_iconst dX5_markForged_20 (by decide))) (all_c (ok_icmp_ge dX5_markForged_21 (by decide)) (all_c (ok_aload_n dX5_markForged_24 rfl) (all_c (okg_X8_6 kw752 dX5_markForged_25) (all_c (ok_stk (s_iconst dX5_markForged_28 (by decide))) (all_c (ok_iload dX5_markForged_29) (all_c (ok_stk (s_imul dX5_markForged_31)) (all_c (ok_iload dX5_markForged_32) (all_c (ok_stk (s_iadd dX5_markForged_34)) (all_c (ok_iald dX5_markForged_35) (all_c (ok_istore dX5_markForged_36 (by decide)) (all_c (ok_iload dX5_markForged_38) (all_c (ok_stk (s_iconst dX5_markForged_40 (by decide))) (all_c (ok_icmp_eq dX5_markForged_41 (by decide)) (all_c (ok_iload dX5_markForged_44) (all_c (ok_iload_n dX5_markForged_46 rfl) (all_c (ok_iload dX5_markForged_47) (all_c (ok_stk (s_ishr dX5_markForged_49)) (all_c (ok_stk (s_iconst dX5_markForged_50 (by decide))) (all_c (ok_stk (s_iand dX5_markForged_51)) (all_c (ok_iload dX5_markForged_52) (all_c (ok_stk (s_ishl dX5_markForged_54)) (all_c (ok_stk (s_ior dX5_markForged_55)) (all_c (ok_istore dX5_markForged_56 (by decide)) (all_c (ok_iinc dX5_markForged_58 (by decide) (by decide)) (all_c (ok_goto dX5_markForged_61 (by decide)) (all_c (ok_aload_n dX5_markForged_64 rfl) (all_c (okg_X5_1 kw748 dX5_markForged_65) (all_c (ok_iload dX5_markForged_68) (all_c (ok_iload dX5_markForged_70) (all_c (ok_iast dX5_markForged_72) (all_c (ok_iinc dX5_markForged_73 (by decide) (by decide)) (all_c (ok_goto dX5_markForged_76 (by decide)) (all_c (ok_vret dX5_markForged_79) all_n))))))))))))))))))))))))))))))))))))))))))))) n (fun h => by first | rfl | cases h))
theorem dX5_mostTelling_0 : decode cX5_mostTelling 0 = .ok (.iconst 0, 1) := by decide +kernel
theorem dX5_mostTelling_1 : decode cX5_mostTelling 1 = .ok (.istore_n 3, 1) := by decide +kernel
theorem dX5_mostTelling_2 : decode cX5_mostTelling 2 = .ok (.iconst 1, 1) := by decide +kernel
theorem dX5_mostTelling_3 : decode cX5_mostTelling 3 = .ok (.istore 4, 2) := by decide +kernel
theorem dX5_mostTelling_5 : decode cX5_mostTelling 5 = .ok (.iload 4, 2) := by decide +kernel
theorem dX5_mostTelling_7 : decode cX5_mostTelling 7 = .ok (.aload_n 1, 1) := by decide +kernel
theorem dX5_mostTelling_8 : decode cX5_mostTelling 8 = .ok (.getfield 75, 3) := by decide +kernel
theorem dX5_mostTelling_11 : decode cX5_mostTelling 11 = .ok (.if_icmp .ge 42, 3) := by decide +kernel
theorem dX5_mostTelling_14 : decode cX5_mostTelling 14 = .ok (.iconst 2, 1) := by decide +kernel
theorem dX5_mostTelling_15 : decode cX5_mostTelling 15 = .ok (.aload_n 0, 1) := by decide +kernel
theorem dX5_mostTelling_16 : decode cX5_mostTelling 16 = .ok (.getfield 18, 3) := by decide +kernel
theorem dX5_mostTelling_19 : decode cX5_mostTelling 19 = .ok (.iload 4, 2) := by decide +kernel
theorem dX5_mostTelling_21 : decode cX5_mostTelling 21 = .ok (.iaload, 1) := by decide +kernel
theorem dX5_mostTelling_22 : decode cX5_mostTelling 22 = .ok (.imul, 1) := by decide +kernel
theorem dX5_mostTelling_23 : decode cX5_mostTelling 23 = .ok (.iload_n 2, 1) := by decide +kernel
theorem dX5_mostTelling_24 : decode cX5_mostTelling 24 = .ok (.isub, 1) := by decide +kernel
theorem dX5_mostTelling_25 : decode cX5_mostTelling 25 = .ok (.invokestatic 108, 3) := by decide +kernel
theorem dX5_mostTelling_28 : decode cX5_mostTelling 28 = .ok (.iconst 2, 1) := by decide +kernel
theorem dX5_mostTelling_29 : decode cX5_mostTelling 29 = .ok (.aload_n 0, 1) := by decide +kernel
theorem dX5_mostTelling_30 : decode cX5_mostTelling 30 = .ok (.getfield 18, 3) := by decide +kernel
theorem dX5_mostTelling_33 : decode cX5_mostTelling 33 = .ok (.iload_n 3, 1) := by decide +kernel
theorem dX5_mostTelling_34 : decode cX5_mostTelling 34 = .ok (.iaload, 1) := by decide +kernel
theorem dX5_mostTelling_35 : decode cX5_mostTelling 35 = .ok (.imul, 1) := by decide +kernel
theorem dX5_mostTelling_36 : decode cX5_mostTelling 36 = .ok (.iload_n 2, 1) := by decide +kernel
theorem dX5_mostTelling_37 : decode cX5_mostTelling 37 = .ok (.isub, 1) := by decide +kernel
theorem dX5_mostTelling_38 : decode cX5_mostTelling 38 = .ok (.invokestatic 108, 3) := by decide +kernel
theorem dX5_mostTelling_41 : decode cX5_mostTelling 41 = .ok (.if_icmp .ge 6, 3) := by decide +kernel
theorem dX5_mostTelling_44 : decode cX5_mostTelling 44 = .ok (.iload 4, 2) := by decide +kernel
theorem dX5_mostTelling_46 : decode cX5_mostTelling 46 = .ok (.istore_n 3, 1) := by decide +kernel
theorem dX5_mostTelling_47 : decode cX5_mostTelling 47 = .ok (.iinc 4 1, 3) := by decide +kernel
theorem dX5_mostTelling_50 : decode cX5_mostTelling 50 = .ok (.goto (-45), 3) := by decide +kernel
theorem dX5_mostTelling_53 : decode cX5_mostTelling 53 = .ok (.iload_n 3, 1) := by decide +kernel
theorem dX5_mostTelling_54 : decode cX5_mostTelling 54 = .ok (.ireturn, 1) := by decide +kernel
def tX5_mostTelling (kn : sKn) : List (Nat × sA) := [(0, a_stk (q_int 0) 1), (1, a_istore 3 2), (2, a_stk (q_int 1) 3), (3, a_istore 4 5), (5, a_iload 4 7), (7, a_aload 1 8), (8, a_get 7 3 11), (11, a_icmp kn b_ge 3 53 14), (14, a_stk (q_int 2) 15), (15, a_aload 0 16), (16, a_get 6 2 19), (19, a_iload 4 21), (21, a_iald 22), (22, a_stk q_imul 23), (23, a_iload 2 24), (24, a_stk q_isub 25), (25, a_mabs 28), (28, a_stk (q_int 2) 29), (29, a_aload 0 30), (30, a_get 6 2 33), (33, a_iload 3 34), (34, a_iald 35), (35, a_stk q_imul 36), (36, a_iload 2 37), (37, a_stk q_isub 38), (38, a_mabs 41), (41, a_icmp kn b_ge 3 47 44), (44, a_iload 4 46), (46, a_istore 3 47), (47, a_iinc 4 1 50), (50, a_goto 5), (53, a_iload 3 54), (54, a_iret)]
def fX5_mostTelling (kn : sKn) : List Value → sW → Option sR := fW (tX5_mostTelling kn) 5
set_option maxRecDepth 100000 in
set_option maxHeartbeats 4000000 in
theorem mX5_mostTelling (kn : sKn) : mM kn yX5_mostTelling (Cond.code yX5_mostTelling cX5_mostTelling 5 (some .int) :: wsL_law) 1 false (fX5_mostTelling kn) := mM_W (fun n => mM_of (own := RX5) (ini := false) rfl (by decide +kernel) (by decide +kernel) (all_c (ok_stk (s_iconst dX5_mostTelling_0 (by decide))) (all_c (ok_istore_n dX5_mostTelling_1 rfl (by decide)) (all_c (ok_stk (s_iconst dX5_mostTelling_2 (by decide))) (all_c (ok_istore dX5_mostTelling_3 (by decide)) (all_c (ok_iload dX5_mostTelling_5) (all_c (ok_aload_n dX5_mostTelling_7 rfl) (all_c (okg_X6_3 kw745 dX5_mostTelling_8) (all_c (ok_icmp_ge dX5_mostTelling_11 (by decide)) (all_c (ok_stk (s_iconst dX5_mostTelling_14 (by decide))) (all_c (ok_aload_n dX5_mostTelling_15 rfl) (all_c (okg_X5_2 kw749 dX5_mostTelling_16) (all_c (ok_iload dX5_mostTelling_19) (all_c (ok_iald dX5_mostTelling_21) (all_c (ok_stk (s_imul dX5_mostTelling_22)) (all_c (ok_iload_n dX5_mostTelling_23 rfl) (all_c (ok_stk (s_isub dX5_mostTelling_24)) (all_c (ok_mabs (by decide) kw753 kw754 kw38 kw755 dX5_mostTelling_25) (all_c (ok_stk (s_iconst dX5_mostTelling_28 (by decide))) (all_c (ok_aload_n dX5_mostTelling_29 rfl) (all_c (okg_X5_2 kw749 dX5_mostTelling_30) (all_c (ok_iload_n dX5_mostTelling_33 rfl) (all_c (ok_iald dX5_mostTelling_34) (all_c (ok_stk (s_imul dX5_mostTelling_35)) (all_c (ok_iload_n dX5_mostTelling_36 rfl) (all_c (ok_stk (s_isub dX5_mostTelling_37)) (all_c (ok_mabs (by decide) kw753 kw754 kw38 kw755 dX5_mostTelling_38) (all_c (ok_icmp_ge dX5_mostTelling_41 (by decide)) (all_c (ok_iload dX5_mostTelling_44) (all_c (ok_istore_n dX5_mostTelling_46 rfl (by decide)) (all_c (ok_iinc dX5_mostTelling_47 (by decide) (by decide)) (all_c (ok_goto dX5_mostTelling_50 (by decide)) (all_c (ok_iload_n dX5_mostTelling_53 rfl) (all_c (ok_iret dX5_mostTelling_54) all_n))))))))))))))))))))))))))))))))) n (fun h => by first | rfl | cases h))
theorem dX5_weighForged_0 : decode cX5_weighForged 0 = .ok (.iconst 0, 1) := by decide +kernel
theorem dX5_weighForged_1 : decode cX5_weighForged 1 = .ok (.istore 4, 2) := by decide +kernel
theorem dX5_weighForged_3 : decode cX5_weighForged 3 = .ok (.iload 4, 2) := by decide +kernel
theorem dX5_weighForged_5 : decode cX5_weighForged 5 = .ok (.aload_n 1, 1) := by decide +kernel
theorem dX5_weighForged_6 : decode cX5_weighForged 6 = .ok (.getfield 78, 3) := by decide +kernel
theorem dX5_weighForged_9 : decode cX5_weighForged 9 = .ok (.if_icmp .ge 148, 3) := by decide +kernel
theorem dX5_weighForged_12 : decode cX5_weighForged 12 = .ok (.iconst 0, 1) := by decide +kernel
theorem dX5_weighForged_13 : decode cX5_weighForged 13 = .ok (.istore 5, 2) := by decide +kernel
theorem dX5_weighForged_15 : decode cX5_weighForged 15 = .ok (.iload 5, 2) := by decide +kernel
theorem dX5_weighForged_17 : decode cX5_weighForged 17 = .ok (.bipush 8, 2) := by decide +kernel
theorem dX5_weighForged_19 : decode cX5_weighForged 19 = .ok (.if_icmp .ge 132, 3) := by decide +kernel
theorem dX5_weighForged_22 : decode cX5_weighForged 22 = .ok (.aload_n 3, 1) := by decide +kernel
theorem dX5_weighForged_23 : decode cX5_weighForged 23 = .ok (.aload_n 1, 1) := by decide +kernel
theorem dX5_weighForged_24 : decode cX5_weighForged 24 = .ok (.aload_n 2, 1) := by decide +kernel
theorem dX5_weighForged_25 : decode cX5_weighForged 25 = .ok (.iconst 0, 1) := by decide +kernel
theorem dX5_weighForged_26 : decode cX5_weighForged 26 = .ok (.iload 4, 2) := by decide +kernel
theorem dX5_weighForged_28 : decode cX5_weighForged 28 = .ok (.invokevirtual 81, 3) := by decide +kernel
theorem dX5_weighForged_31 : decode cX5_weighForged 31 = .ok (.iconst 0, 1) := by decide +kernel
theorem dX5_weighForged_32 : decode cX5_weighForged 32 = .ok (.istore 6, 2) := by decide +kernel
theorem dX5_weighForged_34 : decode cX5_weighForged 34 = .ok (.iload 6, 2) := by decide +kernel
theorem dX5_weighForged_36 : decode cX5_weighForged 36 = .ok (.iconst 3, 1) := by decide +kernel
theorem dX5_weighForged_37 : decode cX5_weighForged 37 = .ok (.if_icmp .ge 47, 3) := by decide +kernel
theorem dX5_weighForged_40 : decode cX5_weighForged 40 = .ok (.iconst 3, 1) := by decide +kernel
theorem dX5_weighForged_41 : decode cX5_weighForged 41 = .ok (.iload 4, 2) := by decide +kernel
theorem dX5_weighForged_43 : decode cX5_weighForged 43 = .ok (.imul, 1) := by decide +kernel
theorem dX5_weighForged_44 : decode cX5_weighForged 44 = .ok (.iload 6, 2) := by decide +kernel
theorem dX5_weighForged_46 : decode cX5_weighForged 46 = .ok (.iadd, 1) := by decide +kernel
theorem dX5_weighForged_47 : decode cX5_weighForged 47 = .ok (.istore 7, 2) := by decide +kernel
theorem dX5_weighForged_49 : decode cX5_weighForged 49 = .ok (.iload 5, 2) := by decide +kernel
theorem dX5_weighForged_51 : decode cX5_weighForged 51 = .ok (.iload 6, 2) := by decide +kernel
theorem dX5_weighForged_53 : decode cX5_weighForged 53 = .ok (.ishr, 1) := by decide +kernel
theorem dX5_weighForged_54 : decode cX5_weighForged 54 = .ok (.iconst 1, 1) := by decide +kernel
theorem dX5_weighForged_55 : decode cX5_weighForged 55 = .ok (.iand, 1) := by decide +kernel
theorem dX5_weighForged_56 : decode cX5_weighForged 56 = .ok (.ifCond .eq 22, 3) := by decide +kernel
theorem dX5_weighForged_59 : decode cX5_weighForged 59 = .ok (.aload_n 3, 1) := by decide +kernel
theorem dX5_weighForged_60 : decode cX5_weighForged 60 = .ok (.getfield 87, 3) := by decide +kernel
theorem dX5_weighForged_63 : decode cX5_weighForged 63 = .ok (.iload 7, 2) := by decide +kernel
theorem dX5_weighForged_65 : decode cX5_weighForged 65 = .ok (.iaload, 1) := by decide +kernel
theorem dX5_weighForged_66 : decode cX5_weighForged 66 = .ok (.iconst (-1), 1) := by decide +kernel
theorem dX5_weighForged_67 : decode cX5_weighForged 67 = .ok (.if_icmp .eq 11, 3) := by decide +kernel
theorem dX5_weighForged_70 : decode cX5_weighForged 70 = .ok (.aload_n 3, 1) := by decide +kernel
theorem dX5_weighForged_71 : decode cX5_weighForged 71 = .ok (.getfield 87, 3) := by decide +kernel
theorem dX5_weighForged_74 : decode cX5_weighForged 74 = .ok (.iload 7, 2) := by decide +kernel
theorem dX5_weighForged_76 : decode cX5_weighForged 76 = .ok (.iconst 0, 1) := by decide +kernel
theorem dX5_weighForged_77 : decode cX5_weighForged 77 = .ok (.iastore, 1) := by decide +kernel
theorem dX5_weighForged_78 : decode cX5_weighForged 78 = .ok (.iinc 6 1, 3) := by decide +kernel
theorem dX5_weighForged_81 : decode cX5_weighForged 81 = .ok (.goto (-47), 3) := by decide +kernel
theorem dX5_weighForged_84 : decode cX5_weighForged 84 = .ok (.iconst 0, 1) := by decide +kernel
theorem dX5_weighForged_85 : decode cX5_weighForged 85 = .ok (.istore 6, 2) := by decide +kernel
theorem dX5_weighForged_87 : decode cX5_weighForged 87 = .ok (.iload 6, 2) := by decide +kernel
theorem dX5_weighForged_89 : decode cX5_weighForged 89 = .ok (.aload_n 1, 1) := by decide +kernel
theorem dX5_weighForged_90 : decode cX5_weighForged 90 = .ok (.getfield 75, 3) := by decide +kernel
theorem dX5_weighForged_93 : decode cX5_weighForged 93 = .ok (.if_icmp .ge 52, 3) := by decide +kernel
theorem dX5_weighForged_96 : decode cX5_weighForged 96 = .ok (.aload_n 3, 1) := by decide +kernel
theorem dX5_weighForged_97 : decode cX5_weighForged 97 = .ok (.iload 4, 2) := by decide +kernel
theorem dX5_weighForged_99 : decode cX5_weighForged 99 = .ok (.aload_n 1, 1) := by decide +kernel
theorem dX5_weighForged_100 : decode cX5_weighForged 100 = .ok (.getfield 90, 3) := by decide +kernel
theorem dX5_weighForged_103 : decode cX5_weighForged 103 = .ok (.iload 6, 2) := by decide +kernel
theorem dX5_weighForged_105 : decode cX5_weighForged 105 = .ok (.iaload, 1) := by decide +kernel
theorem dX5_weighForged_106 : decode cX5_weighForged 106 = .ok (.aload_n 1, 1) := by decide +kernel
theorem dX5_weighForged_107 : decode cX5_weighForged 107 = .ok (.getfield 93, 3) := by decide +kernel
theorem dX5_weighForged_110 : decode cX5_weighForged 110 = .ok (.iload 6, 2) := by decide +kernel
theorem dX5_weighForged_112 : decode cX5_weighForged 112 = .ok (.iaload, 1) := by decide +kernel
theorem dX5_weighForged_113 : decode cX5_weighForged 113 = .ok (.invokevirtual 96, 3) := by decide +kernel
theorem dX5_weighForged_116 : decode cX5_weighForged 116 = .ok (.istore 7, 2) := by decide +kernel
theorem dX5_weighForged_118 : decode cX5_weighForged 118 = .ok (.aload_n 0, 1) := by decide +kernel
theorem dX5_weighForged_119 : decode cX5_weighForged 119 = .ok (.getfield 9, 3) := by decide +kernel
theorem dX5_weighForged_122 : decode cX5_weighForged 122 = .ok (.bipush 8, 2) := by decide +kernel
theorem dX5_weighForged_124 : decode cX5_weighForged 124 = .ok (.bipush 12, 2) := by decide +kernel
theorem dX5_weighForged_126 : decode cX5_weighForged 126 = .ok (.iload 6, 2) := by decide +kernel
theorem dX5_weighForged_128 : decode cX5_weighForged 128 = .ok (.imul, 1) := by decide +kernel
theorem dX5_weighForged_129 : decode cX5_weighForged 129 = .ok (.iload 4, 2) := by decide +kernel
theorem dX5_weighForged_131 : decode cX5_weighForged 131 = .ok (.iadd, 1) := by decide +kernel
theorem dX5_weighForged_132 : decode cX5_weighForged 132 = .ok (.imul, 1) := by decide +kernel
theorem dX5_weighForged_133 : decode cX5_weighForged 133 = .ok (.iload 5, 2) := by decide +kernel
theorem dX5_weighForged_135 : decode cX5_weighForged 135 = .ok (.iadd, 1) := by decide +kernel
theorem dX5_weighForged_136 : decode cX5_weighForged 136 = .ok (.iload 7, 2) := by decide +kernel
theorem dX5_weighForged_138 : decode cX5_weighForged 138 = .ok (.iastore, 1) := by decide +kernel
theorem dX5_weighForged_139 : decode cX5_weighForged 139 = .ok (.iinc 6 1, 3) := by decide +kernel
theorem dX5_weighForged_142 : decode cX5_weighForged 142 = .ok (.goto (-55), 3) := by decide +kernel
theorem dX5_weighForged_145 : decode cX5_weighForged 145 = .ok (.iinc 5 1, 3) := by decide +kernel
theorem dX5_weighForged_148 : decode cX5_weighForged 148 = .ok (.goto (-133), 3) := by decide +kernel
theorem dX5_weighForged_151 : decode cX5_weighForged 151 = .ok (.iinc 4 1, 3) := by decide +kernel
theorem dX5_weighForged_154 : decode cX5_weighForged 154 = .ok (.goto (-151), 3) := by decide +kernel
theorem dX5_weighForged_157 : decode cX5_weighForged 157 = .ok (.return_, 1) := by decide +kernel
def tX5_weighForged (kn : sKn) : List (Nat × sA) := [(0, a_stk (q_int 0) 1), (1, a_istore 4 3), (3, a_iload 4 5), (5, a_aload 1 6), (6, a_get 7 0 9), (9, a_icmp kn b_ge 3 157 12), (12, a_stk (q_int 0) 13), (13, a_istore 5 15), (15, a_iload 5 17), (17, a_stk (q_int 8) 19), (19, a_icmp kn b_ge 3 151 22), (22, a_aload 3 23), (23, a_aload 1 24), (24, a_aload 2 25), (25, a_stk (q_int 0) 26), (26, a_iload 4 28), (28, a_callV true (fX10_weighRow kn) 11 5 31), (31, a_stk (q_int 0) 32), (32, a_istore 6 34), (34, a_iload 6 36), (36, a_stk (q_int 3) 37), (37, a_icmp kn b_ge 3 84 40), (40, a_stk (q_int 3) 41), (41, a_iload 4 43), (43, a_stk q_imul 44), (44, a_iload 6 46), (46, a_stk q_iadd 47), (47, a_istore 7 49), (49, a_iload 5 51), (51, a_iload 6 53), (53, a_stk q_ishr 54), (54, a_stk (q_int 1) 55), (55, a_stk q_iand 56), (56, a_if kn b_eq 0 78 59), (59, a_aload 3 60), (60, a_get 11 0 63), (63, a_iload 7 65), (65, a_iald 66), (66, a_stk (q_int (-1)) 67), (67, a_icmp kn b_eq 0 78 70), (70, a_aload 3 71), (71, a_get 11 0 74), (74, a_iload 7 76), (76, a_stk (q_int 0) 77), (77, a_iast 78), (78, a_iinc 6 1 81), (81, a_goto 34), (84, a_stk (q_int 0) 85), (85, a_istore 6 87), (87, a_iload 6 89), (89, a_aload 1 90), (90, a_get 7 3 93), (93, a_icmp kn b_ge 3 145 96), (96, a_aload 3 97), (97, a_iload 4 99), (99, a_aload 1 100), (100, a_get 7 13 103), (103, a_iload 6 105), (105, a_iald 106), (106, a_aload 1 107), (107, a_get 7 14 110), (110, a_iload 6 112), (112, a_iald 113), (113, a_callV false (fX10_possibleSteps kn) 11 4 116), (116, a_istore 7 118), (118, a_aload 0 119), (119, a_get 6 0 122), (122, a_stk (q_int 8) 124), (124, a_stk (q_int 12) 126), (126, a_iload 6 128), (128, a_stk q_imul 129), (129, a_iload 4 131), (131, a_stk q_iadd 132), (132, a_stk q_imul 133), (133, a_iload 5 135), (135, a_stk q_iadd 136), (136, a_iload 7 138), (138, a_iast 139), (139, a_iinc 6 1 142), (142, a_goto 87), (145, a_iinc 5 1 148), (148, a_goto 15), (151, a_iinc 4 1 154), (154, a_goto 3), (157, a_vret)]
def fX5_weighForged (kn : sKn) : List Value → sW → Option sR := fW (tX5_weighForged kn) 8
set_option maxRecDepth 100000 in
set_option maxHeartbeats 4000000 in
theorem mX5_weighForged (kn : sKn) : mM kn yX5_weighForged (Cond.code yX5_weighForged cX5_weighForged 8 none :: wsL_law) 4 true (fX5_weighForged kn) := mM_W (fun n => mM_of (own := RX5) (ini := false) rfl (by decide +kernel) (by decide +kernel) (all_c (ok_stk (s_iconst dX5_weighForged_0 (by decide))) (all_c (ok_istore dX5_weighForged_1 (by decide)) (all_c (ok_iload dX5_weighForged_3) (all_c (ok_aload_n dX5_weighForged_5 rfl) (all_c (okg_X6_0 kw746 dX5_weighForged_6) (all_c (ok_icmp_ge dX5_weighForged_9 (by decide)) (all_c (ok_stk (s_iconst dX5_weighForged_12 (by decide))) (all_c (ok_istore dX5_weighForged_13 (by decide)) (all_c (ok_iload dX5_weighForged_15) (all_c (ok_stk (s_bipush dX5_weighForged_17 (by decide))) (all_c (ok_icmp_ge dX5_weighForged_19 (by decide)) (all_c (ok_aload_n dX5_weighForged_22 rfl) (all_c (ok_aload_n dX5_weighForged_23 rfl) (all_c (ok_aload_n dX5_weighForged_24 rfl) (all_c (ok_stk (s_iconst dX5_weighForged_25 (by decide))) (all_c (ok_iload dX5_weighForged_26) (all_c (okc_X10_weighRow (by decide) kw756 dX5_weighForged_28) (all_c (ok_stk (s_iconst dX5_weighForged_31 (by decide))) (all_c (ok_istore dX5_weighForged_32 (by decide)) (all_c (ok_iload dX5_weighForged_34) (all_c (ok_stk (s_iconst dX5_weighForged_36 (by decide))) (all_c (ok_icmp_ge dX5_weighForged_37 (by decide)) (all_c (ok_stk (s_iconst dX5_weighForged_40 (by decide))) (all_c (ok_iload dX5_weighForged_41) (all_c (ok_stk (s_imul dX5_weighForged_43)) (all_c (ok_iload dX5_weighForged_44) (all_c (ok_stk (s_iadd dX5_weighForged_46)) (all_c (ok_istore dX5_weighForged_47 (by decide)) (all_c (ok_iload dX5_weighForged_49) (all_c (ok_iload dX5_weighForged_51) (all_c (ok_stk (s_ishr dX5_weighForged_53)) (all_c (ok_stk (s_iconst dX5_weighForged_54 (by decide))) (all_c (ok_stk (s_iand dX5_weighForged_55)) (all_c (ok_if_eq dX5_weighForged_56 (by decide)) (all_c (ok_aload_n dX5_weighForged_59 rfl) (all_c (okg_X10_0 kw757 dX5_weighForged_60) (all_c (ok_iload dX5_weighForged_63) (all_c (ok_iald dX5_weighForged_65) (all_c (ok_stk (s_iconst dX5_weighForged_66 (by decide))) (all_c (ok_icmp_eq dX5_weighForged_67 (by decide)) (all_c (ok_aload_n dX5_weighForged_70 rfl) (all_c (okg_X10_0 kw757 dX5_weighForged_71) (all_c (ok_iload dX5_weighForged_74) (all_c (ok_stk (s_iconst dX5_weighForged_76 (by decide))) (all_c (ok_iast dX5_weighForged_77) (all_c (ok_iinc dX5_weighForged_78 (by decide) (by decide)) (all_c (ok_goto dX5_weighForged_81 (by decide)) (all_c (ok_stk (s_iconst dX5_weighForged_84 (by decide))) (all_c (ok_istore dX5_weighForged_85 (by decide)) (all_c (ok_iload dX5_weighForged_87) (all_c (ok_aload_n dX5_weighForged_89 rfl) (all_c (okg_X6_3 kw745 dX5_weighForged_90) (all_c (ok_icmp_ge dX5_weighForged_93 (by decide)) (all_c (ok_aload_n dX5_weighForged_96 rfl) (all_c (ok_iload dX5_weighForged_97) (all_c (ok_aload_n dX5_weighForged_99 rfl) (all_c (okg_X6_13 kw758 dX5_weighForged_100) (all_c (ok_iload dX5_weighForged_103) (all_c (ok_iald dX5_weighForged_105) (all_c (ok_aload_n dX5_weighForged_106 rfl) (all_c (okg_X6_14 kw759 dX5_weighForged_107) (all_c (ok_iload dX5_weighForged_110) (all_c (ok_iald dX5_weighForged_112) (all_c (okc_X10_possibleSteps (by decide) kw760 dX5_weighForged_113) (all_c (ok_istore dX5_weighForged_116 (by decide)) (all_c (ok_aload_n dX5_weighForged_118 rfl) (all_c (okg_X5_0 kw747 dX5_weighForged_119) (all_c (ok_stk (s_bipush dX5_weighForged_122 (by decide))) (all_c (ok_stk (s_bipush dX5_weighForged_124 (by decide))) (all_c (ok_iload dX5_weighForged_126) (all_c (ok_stk (s_imul dX5_weighForged_128)) (all_c (ok_iload dX5_weighForged_129) (all_c (ok_stk (s_iadd dX5_weighForged_131)) (all_c (ok_stk (s_imul dX5_weighForged_132)) (all_c (ok_iload dX5_weighForged_133) (all_c (ok_stk (s_iadd dX5_weighForged_135)) (all_c (ok_iload dX5_weighForged_136) (all_c (ok_iast dX5_weighForged_138) (all_c (ok_iinc dX5_weighForged_139 (by decide) (by decide)) (all_c (ok_goto dX5_weighForged_142 (by decide)) (all_c (ok_iinc dX5_weighForged_145 (by decide) (by decide)) (all_c (ok_goto dX5_weighForged_148 (by decide)) (all_c (ok_iinc dX5_weighForged_151 (by decide) (by decide)) (all_c (ok_goto dX5_weighForged_154 (by decide)) (all_c (ok_vret dX5_weighForged_157) all_n))))))))))))))))))))))))))))))))))))))))))))))))))))))))))))))))))))))))))))))))))))) n (fun h => by first | rfl | cases h))
theorem dX5_find_0 : decode cX5_find 0 = .ok (.aload_n 0, 1) := by decide +kernel
theorem dX5_find_1 : decode cX5_find 1 = .ok (.aload_n 1, 1) := by decide +kernel
theorem dX5_find_2 : decode cX5_find 2 = .ok (.aload 4, 2) := by decide +kernel
theorem dX5_find_4 : decode cX5_find 4 = .ok (.invokevirtual 28, 3) := by decide +kernel
theorem dX5_find_7 : decode cX5_find 7 = .ok (.ifCond .ne 5, 3) := by decide +kernel
theorem dX5_find_10 : decode cX5_find 10 = .ok (.iconst (-1), 1) := by decide +kernel
theorem dX5_find_11 : decode cX5_find 11 = .ok (.ireturn, 1) := by decide +kernel
theorem dX5_find_12 : decode cX5_find 12 = .ok (.aload_n 0, 1) := by decide +kernel
theorem dX5_find_13 : decode cX5_find 13 = .ok (.aload_n 1, 1) := by decide +kernel
theorem dX5_find_14 : decode cX5_find 14 = .ok (.aload_n 2, 1) := by decide +kernel
theorem dX5_find_15 : decode cX5_find 15 = .ok (.aload_n 3, 1) := by decide +kernel
theorem dX5_find_16 : decode cX5_find 16 = .ok (.invokevirtual 32, 3) := by decide +kernel
theorem dX5_find_19 : decode cX5_find 19 = .ok (.aload_n 0, 1) := by decide +kernel
theorem dX5_find_20 : decode cX5_find 20 = .ok (.getfield 18, 3) := by decide +kernel
theorem dX5_find_23 : decode cX5_find 23 = .ok (.iconst 0, 1) := by decide +kernel
theorem dX5_find_24 : decode cX5_find 24 = .ok (.invokestatic 36, 3) := by decide +kernel
theorem dX5_find_27 : decode cX5_find 27 = .ok (.iconst 0, 1) := by decide +kernel
theorem dX5_find_28 : decode cX5_find 28 = .ok (.istore 5, 2) := by decide +kernel
theorem dX5_find_30 : decode cX5_find 30 = .ok (.iconst 1, 1) := by decide +kernel
theorem dX5_find_31 : decode cX5_find 31 = .ok (.aload_n 1, 1) := by decide +kernel
theorem dX5_find_32 : decode cX5_find 32 = .ok (.getfield 42, 3) := by decide +kernel
theorem dX5_find_35 : decode cX5_find 35 = .ok (.ishl, 1) := by decide +kernel
theorem dX5_find_36 : decode cX5_find 36 = .ok (.iconst 1, 1) := by decide +kernel
theorem dX5_find_37 : decode cX5_find 37 = .ok (.isub, 1) := by decide +kernel
theorem dX5_find_38 : decode cX5_find 38 = .ok (.istore 6, 2) := by decide +kernel
theorem dX5_find_40 : decode cX5_find 40 = .ok (.iconst 0, 1) := by decide +kernel
theorem dX5_find_41 : decode cX5_find 41 = .ok (.istore 7, 2) := by decide +kernel
theorem dX5_find_43 : decode cX5_find 43 = .ok (.iload 7, 2) := by decide +kernel
theorem dX5_find_45 : decode cX5_find 45 = .ok (.iconst 1, 1) := by decide +kernel
theorem dX5_find_46 : decode cX5_find 46 = .ok (.aload_n 1, 1) := by decide +kernel
theorem dX5_find_47 : decode cX5_find 47 = .ok (.getfield 42, 3) := by decide +kernel
theorem dX5_find_50 : decode cX5_find 50 = .ok (.ishl, 1) := by decide +kernel
theorem dX5_find_51 : decode cX5_find 51 = .ok (.if_icmp .ge 52, 3) := by decide +kernel
theorem dX5_find_54 : decode cX5_find 54 = .ok (.aload_n 0, 1) := by decide +kernel
theorem dX5_find_55 : decode cX5_find 55 = .ok (.aload_n 1, 1) := by decide +kernel
theorem dX5_find_56 : decode cX5_find 56 = .ok (.aload_n 2, 1) := by decide +kernel
theorem dX5_find_57 : decode cX5_find 57 = .ok (.iload 7, 2) := by decide +kernel
theorem dX5_find_59 : decode cX5_find 59 = .ok (.invokevirtual 47, 3) := by decide +kernel
theorem dX5_find_62 : decode cX5_find 62 = .ok (.aload_n 0, 1) := by decide +kernel
theorem dX5_find_63 : decode cX5_find 63 = .ok (.aload_n 1, 1) := by decide +kernel
theorem dX5_find_64 : decode cX5_find 64 = .ok (.invokevirtual 51, 3) := by decide +kernel
theorem dX5_find_67 : decode cX5_find 67 = .ok (.istore 8, 2) := by decide +kernel
theorem dX5_find_69 : decode cX5_find 69 = .ok (.aload_n 0, 1) := by decide +kernel
theorem dX5_find_70 : decode cX5_find 70 = .ok (.aload 4, 2) := by decide +kernel
theorem dX5_find_72 : decode cX5_find 72 = .ok (.iload 8, 2) := by decide +kernel
theorem dX5_find_74 : decode cX5_find 74 = .ok (.invokevirtual 55, 3) := by decide +kernel
theorem dX5_find_77 : decode cX5_find 77 = .ok (.ifCond .eq 20, 3) := by decide +kernel
theorem dX5_find_80 : decode cX5_find 80 = .ok (.iinc 5 1, 3) := by decide +kernel
theorem dX5_find_83 : decode cX5_find 83 = .ok (.iload 6, 2) := by decide +kernel
theorem dX5_find_85 : decode cX5_find 85 = .ok (.iload 7, 2) := by decide +kernel
theorem dX5_find_87 : decode cX5_find 87 = .ok (.iand, 1) := by decide +kernel
theorem dX5_find_88 : decode cX5_find 88 = .ok (.istore 6, 2) := by decide +kernel
theorem dX5_find_90 : decode cX5_find 90 = .ok (.aload_n 0, 1) := by decide +kernel
theorem dX5_find_91 : decode cX5_find 91 = .ok (.aload_n 1, 1) := by decide +kernel
theorem dX5_find_92 : decode cX5_find 92 = .ok (.iload 8, 2) := by decide +kernel
theorem dX5_find_94 : decode cX5_find 94 = .ok (.invokevirtual 59, 3) := by decide +kernel
theorem dX5_find_97 : decode cX5_find 97 = .ok (.iinc 7 1, 3) := by decide +kernel
theorem dX5_find_100 : decode cX5_find 100 = .ok (.goto (-57), 3) := by decide +kernel
theorem dX5_find_103 : decode cX5_find 103 = .ok (.iload 5, 2) := by decide +kernel
theorem dX5_find_105 : decode cX5_find 105 = .ok (.ifCond .le 20, 3) := by decide +kernel
theorem dX5_find_108 : decode cX5_find 108 = .ok (.aload_n 0, 1) := by decide +kernel
theorem dX5_find_109 : decode cX5_find 109 = .ok (.iload 6, 2) := by decide +kernel
theorem dX5_find_111 : decode cX5_find 111 = .ok (.putfield 21, 3) := by decide +kernel
theorem dX5_find_114 : decode cX5_find 114 = .ok (.aload_n 0, 1) := by decide +kernel
theorem dX5_find_115 : decode cX5_find 115 = .ok (.aload_n 0, 1) := by decide +kernel
theorem dX5_find_116 : decode cX5_find 116 = .ok (.aload_n 1, 1) := by decide +kernel
theorem dX5_find_117 : decode cX5_find 117 = .ok (.iload 5, 2) := by decide +kernel
theorem dX5_find_119 : decode cX5_find 119 = .ok (.invokevirtual 63, 3) := by decide +kernel
theorem dX5_find_122 : decode cX5_find 122 = .ok (.putfield 25, 3) := by decide +kernel
theorem dX5_find_125 : decode cX5_find 125 = .ok (.iload 5, 2) := by decide +kernel
theorem dX5_find_127 : decode cX5_find 127 = .ok (.ireturn, 1) := by decide +kernel
theorem okc_X5_isAsTold {kn : sKn} {cc : ByteArray} {own : String} {nL : Nat} {D : Nat} {ret : Option FieldType} {ini : Bool} {pc index : Nat} (hD : 1 + 1 ≤ D) (hl : Cond.methodLink own index yX5_isAsTold ∈ wsL_law) (hd : decode cc pc = .ok (.invokevirtual index, 3)) : mOk kn cc own nL wsL_law D ret ini pc (a_callV false (fX5_isAsTold kn) 6 (2 + 1) (pc + 3)) := ok_callV (mX5_isAsTold kn) (good_ws ws_good (fun _ h => h) kw761) hD (by decide) hl kw763 kw764 kw762 ⟨by decide +kernel, by decide +kernel, by decide +kernel⟩ rfl hd
theorem okc_X5_weighForged {kn : sKn} {cc : ByteArray} {own : String} {nL : Nat} {D : Nat} {ret : Option FieldType} {ini : Bool} {pc index : Nat} (hD : 4 + 1 ≤ D) (hl : Cond.methodLink own index yX5_weighForged ∈ wsL_law) (hd : decode cc pc = .ok (.invokevirtual index, 3)) : mOk kn cc own nL wsL_law D ret ini pc (a_callV true (fX5_weighForged kn) 6 (3 + 1) (pc + 3)) := ok_callV (mX5_weighForged kn) (good_ws ws_good (fun _ h => h) kw766) hD (by decide) hl kw767 kw768 kw762 ⟨by decide +kernel, by decide +kernel, by decide +kernel⟩ rfl hd
theorem okc_X5_markForged {kn : sKn} {cc : ByteArray} {own : String} {nL : Nat} {D : Nat} {ret : Option FieldType} {ini : Bool} {pc index : Nat} (hD : 1 + 1 ≤ D) (hl : Cond.methodLink own index yX5_markForged ∈ wsL_law) (hd : decode cc pc = .ok (.invokevirtual index, 3)) : mOk kn cc own nL wsL_law D ret ini pc (a_callV true (fX5_markForged kn) 6 (3 + 1) (pc + 3)) := ok_callV (mX5_markForged kn) (good_ws ws_good (fun _ h => h) kw772) hD (by decide) hl kw773 kw774 kw762 ⟨by decide +kernel, by decide +kernel, by decide +kernel⟩ rfl hd
theorem okc_X5_ableLoads {kn : sKn} {cc : ByteArray} {own : String} {nL : Nat} {D : Nat} {ret : Option FieldType} {ini : Bool} {pc index : Nat} (hD : 1 + 1 ≤ D) (hl : Cond.methodLink own index yX5_ableLoads ∈ wsL_law) (hd : decode cc pc = .ok (.invokevirtual index, 3)) : mOk kn cc own nL wsL_law D ret ini pc (a_callV false (fX5_ableLoads kn) 6 (1 + 1) (pc + 3)) := ok_callV (mX5_ableLoads kn) (good_ws ws_good (fun _ h => h) kw776) hD (by decide) hl kw777 kw778 kw762 ⟨by decide +kernel, by decide +kernel, by decide +kernel⟩ rfl hd
theorem okc_X5_agrees {kn : sKn} {cc : ByteArray} {own : String} {nL : Nat} {D : Nat} {ret : Option FieldType} {ini : Bool} {pc index : Nat} (hD : 1 + 1 ≤ D) (hl : Cond.methodLink own index yX5_agrees ∈ wsL_law) (hd : decode cc pc = .ok (.invokevirtual index, 3)) : mOk kn cc own nL wsL_law D ret ini pc (a_callV false (fX5_agrees kn) 6 (2 + 1) (pc + 3)) := ok_callV (mX5_agrees kn) (good_ws ws_good (fun _ h => h) kw780) hD (by decide) hl kw781 kw782 kw762 ⟨by decide +kernel, by decide +kernel, by decide +kernel⟩ rfl hd
theorem okc_X5_addAble {kn : sKn} {cc : ByteArray} {own : String} {nL : Nat} {D : Nat} {ret : Option FieldType} {ini : Bool} {pc index : Nat} (hD : 1 + 1 ≤ D) (hl : Cond.methodLink own index yX5_addAble ∈ wsL_law) (hd : decode cc pc = .ok (.invokevirtual index, 3)) : mOk kn cc own nL wsL_law D ret ini pc (a_callV true (fX5_addAble kn) 6 (2 + 1) (pc + 3)) := ok_callV (mX5_addAble kn) (good_ws ws_good (fun _ h => h) kw784) hD (by decide) hl kw785 kw786 kw762 ⟨by decide +kernel, by decide +kernel, by decide +kernel⟩ rfl hd
theorem okc_X5_mostTelling {kn : sKn} {cc : ByteArray} {own : String} {nL : Nat} {D : Nat} {ret : Option FieldType} {ini : Bool} {pc index : Nat} (hD : 1 + 1 ≤ D) (hl : Cond.methodLink own index yX5_mostTelling ∈ wsL_law) (hd : decode cc pc = .ok (.invokevirtual index, 3)) : mOk kn cc own nL wsL_law D ret ini pc (a_callV false (fX5_mostTelling kn) 6 (2 + 1) (pc + 3)) := ok_callV (mX5_mostTelling kn) (good_ws ws_good (fun _ h => h) kw789) hD (by decide) hl kw790 kw791 kw762 ⟨by decide +kernel, by decide +kernel, by decide +kernel⟩ rfl hd
def tX5_find (kn : sKn) : List (Nat × sA) := [(0, a_aload 0 1), (1, a_aload 1 2), (2, a_aload 4 4), (4, a_callV false (fX5_isAsTold kn) 6 3 7), (7, a_if kn b_ne 1 12 10), (10, a_stk (q_int (-1)) 11), (11, a_iret), (12, a_aload 0 13), (13, a_aload 1 14), (14, a_aload 2 15), (15, a_aload 3 16), (16, a_callV true (fX5_weighForged kn) 6 4 19), (19, a_aload 0 20), (20, a_get 6 2 23), (23, a_stk (q_int 0) 24), (24, a_callS true (fJ7_fill_53178 kn) 2 27), (27, a_stk (q_int 0) 28), (28, a_istore 5 30), (30, a_stk (q_int 1) 31), (31, a_aload 1 32), (32, a_get 7 2 35), (35, a_stk q_ishl 36), (36, a_stk (q_int 1) 37), (37, a_stk q_isub 38), (38, a_istore 6 40), (40, a_stk (q_int 0) 41), (41, a_istore 7 43), (43, a_iload 7 45), (45, a_stk (q_int 1) 46), (46, a_aload 1 47), (47, a_get 7 2 50), (50, a_stk q_ishl 51), (51, a_icmp kn b_ge 3 103 54), (54, a_aload 0 55), (55, a_aload 1 56), (56, a_aload 2 57), (57, a_iload 7 59), (59, a_callV true (fX5_markForged kn) 6 4 62), (62, a_aload 0 63), (63, a_aload 1 64), (64, a_callV false (fX5_ableLoads kn) 6 2 67), (67, a_istore 8 69), (69, a_aload 0 70), (70, a_aload 4 72), (72, a_iload 8 74), (74, a_callV false (fX5_agrees kn) 6 3 77), (77, a_if kn b_eq 0 97 80), (80, a_iinc 5 1 83), (83, a_iload 6 85), (85, a_iload 7 87), (87, a_stk q_iand 88), (88, a_istore 6 90), (90, a_aload 0 91), (91, a_aload 1 92), (92, a_iload 8 94), (94, a_callV true (fX5_addAble kn) 6 3 97), (97, a_iinc 7 1 100), (100, a_goto 43), (103, a_iload 5 105), (105, a_if kn b_le 5 125 108), (108, a_aload 0 109), (109, a_iload 6 111), (111, a_put 6 3 ckI 114), (114, a_aload 0 115), (115, a_aload 0 116), (116, a_aload 1 117), (117, a_iload 5 119), (119, a_callV false (fX5_mostTelling kn) 6 3 122), (122, a_put 6 4 ckI 125), (125, a_iload 5 127), (127, a_iret)]
def fX5_find (kn : sKn) : List Value → sW → Option sR := fW (tX5_find kn) 9
set_option maxRecDepth 100000 in
set_option maxHeartbeats 4000000 in
theorem mX5_find (kn : sKn) : mM kn yX5_find (Cond.code yX5_find cX5_find 9 (some .int) :: wsL_law) 5 false (fX5_find kn) := mM_W (fun n => mM_of (own := RX5) (ini := false) rfl (by decide +kernel) (by decide +kernel) (all_c (ok_aload_n dX5_find_0 rfl) (all_c (ok_aload_n dX5_find_1 rfl) (all_c (ok_aload dX5_find_2) (all_c (okc_X5_isAsTold (by decide) kw765 dX5_find_4) (all_c (ok_if_ne dX5_find_7 (by decide)) (all_c (ok_stk (s_iconst dX5_find_10 (by decide))) (all_c (ok_iret dX5_find_11) (all_c (ok_aload_n dX5_find_12 rfl) (all_c (ok_aload_n dX5_find_13 rfl) (all_c (ok_aload_n dX5_find_14 rfl) (all_c (ok_aload_n dX5_find_15 rfl) (all_c (okc_X5_weighForged (by decide) kw769 dX5_find_16) (all_c (ok_aload_n dX5_find_19 rfl) (all_c (okg_X5_2 kw749 dX5_find_20) (all_c (ok_stk (s_iconst dX5_find_23 (by decide))) (all_c (okc_J7_fill_53178 (by decide) kw770 dX5_find_24) (all_c (ok_stk (s_iconst dX5_find_27 (by decide))) (all_c (ok_istore dX5_find_28 (by decide)) (all_c (ok_stk (s_iconst dX5_find_30 (by decide))) (all_c (ok_aload_n dX5_find_31 rfl) (all_c (okg_X6_2 kw771 dX5_find_32) (all_c (ok_stk (s_ishl dX5_find_35)) (all_c (ok_stk (s_iconst dX5_find_36 (by decide))) (all_c (ok_stk (s_isub dX5_find_37)) (all_c (ok_istore dX5_find_38 (by decide)) (all_c (ok_stk (s_iconst dX5_find_40 (by decide))) (all_c (ok_istore dX5_find_41 (by decide)) (all_c (ok_iload dX5_find_43) (all_c (ok_stk (s_iconst dX5_find_45 (by decide))) (all_c (ok_aload_n dX5_find_46 rfl) (all_c (okg_X6_2 kw771 dX5_find_47) (all_c (ok_stk (s_ishl dX5_find_50)) (all_c (ok_icmp_ge dX5_find_51 (by decide)) (all_c (ok_aload_n dX5_find_54 rfl) (all_c (ok_aload_n dX5_find_55 rfl) (all_c (ok_aload_n dX5_find_56 rfl) (all_c (ok_iload dX5_find_57) (all_c (okc_X5_markForged (by decide) kw775 dX5_find_59) (all_c (ok_aload_n dX5_find_62 rfl) (all_c (ok_aload_n dX5_find_63 rfl) (all_c (okc_X5_ableLoads (by decide) kw779 dX5_find_64) (all_c (ok_istore dX5_find_67 (by decide)) (all_c (ok_aload_n dX5_find_69 rfl) (all_c (ok_aload dX5_find_70) (all_c (ok_iload dX5_find_72) (all_c (okc_X5_agrees (by decide) kw783 dX5_find_74) (all_c (ok_if_eq dX5_find_77 (by decide)) (all_c (ok_iinc dX5_find_80 (by decide) (by decide)) (all_c (ok_iload dX5_find_83) (all_c (ok_iload dX5_find_85) (all_c (ok_stk (s_iand dX5_find_87)) (all_c (ok_istore dX5_find_88 (by decide)) (all_c (ok_aload_n dX5_find_90 rfl) (all_c (ok_aload_n dX5_find_91 rfl) (all_c (ok_iload dX5_find_92) (all_c (okc_X5_addAble (by decide) kw787 dX5_find_94) (all_c (ok_iinc dX5_find_97 (by decide) (by decide)) (all_c (ok_goto dX5_find_100 (by decide)) (all_c (ok_iload dX5_find_103) (all_c (ok_if_le dX5_find_105 (by decide)) (all_c (ok_aload_n dX5_find_108 rfl) (all_c (ok_iload dX5_find_109) (all_c (okp_X5_3 kw788 dX5_find_111) (all_c (ok_aload_n dX5_find_114 rfl) (all_c (ok_aload_n dX5_find_115 rfl) (all_c (ok_aload_n dX5_find_116 rfl) (all_c (ok_iload dX5_find_117) (all_c (okc_X5_mostTelling (by decide) kw792 dX5_find_119) (all_c (okp_X5_4 kw793 dX5_find_122) (all_c (ok_iload dX5_find_125) (all_c (ok_iret dX5_find_127) all_n))))))))))))))))))))))))))))))))))))))))))))))))))))))))))))))))))))))) n (fun h => by first | rfl | cases h))
theorem dX11_forgers_0 : decode cX11_forgers 0 = .ok (.aload_n 0, 1) := by decide +kernel
theorem dX11_forgers_1 : decode cX11_forgers 1 = .ok (.getfield 78, 3) := by decide +kernel
theorem dX11_forgers_4 : decode cX11_forgers 4 = .ok (.aload_n 0, 1) := by decide +kernel
theorem dX11_forgers_5 : decode cX11_forgers 5 = .ok (.getfield 26, 3) := by decide +kernel
theorem dX11_forgers_8 : decode cX11_forgers 8 = .ok (.aload_n 0, 1) := by decide +kernel
theorem dX11_forgers_9 : decode cX11_forgers 9 = .ok (.getfield 33, 3) := by decide +kernel
theorem dX11_forgers_12 : decode cX11_forgers 12 = .ok (.aload_n 0, 1) := by decide +kernel
theorem dX11_forgers_13 : decode cX11_forgers 13 = .ok (.getfield 57, 3) := by decide +kernel
theorem dX11_forgers_16 : decode cX11_forgers 16 = .ok (.aload_n 0, 1) := by decide +kernel
theorem dX11_forgers_17 : decode cX11_forgers 17 = .ok (.getfield 10, 3) := by decide +kernel
theorem dX11_forgers_20 : decode cX11_forgers 20 = .ok (.invokevirtual 324, 3) := by decide +kernel
theorem dX11_forgers_23 : decode cX11_forgers 23 = .ok (.istore_n 1, 1) := by decide +kernel
theorem dX11_forgers_24 : decode cX11_forgers 24 = .ok (.aload_n 0, 1) := by decide +kernel
theorem dX11_forgers_25 : decode cX11_forgers 25 = .ok (.getfield 10, 3) := by decide +kernel
theorem dX11_forgers_28 : decode cX11_forgers 28 = .ok (.iconst 0, 1) := by decide +kernel
theorem dX11_forgers_29 : decode cX11_forgers 29 = .ok (.putfield 115, 3) := by decide +kernel
theorem dX11_forgers_32 : decode cX11_forgers 32 = .ok (.iload_n 1, 1) := by decide +kernel
theorem dX11_forgers_33 : decode cX11_forgers 33 = .ok (.ireturn, 1) := by decide +kernel
theorem okc_X5_find {kn : sKn} {cc : ByteArray} {own : String} {nL : Nat} {D : Nat} {ret : Option FieldType} {ini : Bool} {pc index : Nat} (hD : 5 + 1 ≤ D) (hl : Cond.methodLink own index yX5_find ∈ wsL_law) (hd : decode cc pc = .ok (.invokevirtual index, 3)) : mOk kn cc own nL wsL_law D ret ini pc (a_callV false (fX5_find kn) 6 (4 + 1) (pc + 3)) := ok_callV (mX5_find kn) (good_ws ws_good (fun _ h => h) kw795) hD (by decide) hl kw796 kw797 kw762 ⟨by decide +kernel, by decide +kernel, by decide +kernel⟩ rfl hd
def tX11_forgers (kn : sKn) : List (Nat × sA) := [(0, a_aload 0 1), (1, a_get 12 10 4), (4, a_aload 0 5), (5, a_get 12 2 8), (8, a_aload 0 9), (9, a_get 12 3 12), (12, a_aload 0 13), (13, a_get 12 7 16), (16, a_aload 0 17), (17, a_get 12 0 20), (20, a_callV false (fX5_find kn) 6 5 23), (23, a_istore 1 24), (24, a_aload 0 25), (25, a_get 12 0 28), (28, a_stk (q_int 0) 29), (29, a_put 10 1 ckI 32), (32, a_iload 1 33), (33, a_iret)]
def fX11_forgers (kn : sKn) : List Value → sW → Option sR := fW (tX11_forgers kn) 2
set_option maxRecDepth 100000 in
set_option maxHeartbeats 4000000 in
theorem mX11_forgers (kn : sKn) : mM kn yX11_forgers (Cond.code yX11_forgers cX11_forgers 2 (some .int) :: wsL_law) 6 false (fX11_forgers kn) := mM_W (fun n => mM_of (own := RX11) (ini := false) rfl (by decide +kernel) (by decide +kernel) (all_c (ok_aload_n dX11_forgers_0 rfl) (all_c (okg_X11_10 kw794 dX11_forgers_1) (all_c (ok_aload_n dX11_forgers_4 rfl) (all_c (okg_X11_2 kw291 dX11_forgers_5) (all_c (ok_aload_n dX11_forgers_8 rfl) (all_c (okg_X11_3 kw292 dX11_forgers_9) (all_c (ok_aload_n dX11_forgers_12 rfl) (all_c (okg_X11_7 kw290 dX11_forgers_13) (all_c (ok_aload_n dX11_forgers_16 rfl) (all_c (okg_X11_0 kw496 dX11_forgers_17) (all_c (okc_X5_find (by decide) kw798 dX11_forgers_20) (all_c (ok_istore_n dX11_forgers_23 rfl (by decide)) (all_c (ok_aload_n dX11_forgers_24 rfl) (all_c (okg_X11_0 kw496 dX11_forgers_25) (all_c (ok_stk (s_iconst dX11_forgers_28 (by decide))) (all_c (okp_X9_1 kw501 dX11_forgers_29) (all_c (ok_iload_n dX11_forgers_32 rfl) (all_c (ok_iret dX11_forgers_33) all_n)))))))))))))))))) n (fun h => by first | rfl | cases h))
theorem dX11_holds_0 : decode cX11_holds 0 = .ok (.aload_n 0, 1) := by decide +kernel
theorem dX11_holds_1 : decode cX11_holds 1 = .ok (.iload_n 1, 1) := by decide +kernel
theorem dX11_holds_2 : decode cX11_holds 2 = .ok (.invokevirtual 150, 3) := by decide +kernel
theorem dX11_holds_5 : decode cX11_holds 5 = .ok (.ifCond .ne 5, 3) := by decide +kernel
theorem dX11_holds_8 : decode cX11_holds 8 = .ok (.iconst (-1), 1) := by decide +kernel
theorem dX11_holds_9 : decode cX11_holds 9 = .ok (.ireturn, 1) := by decide +kernel
theorem dX11_holds_10 : decode cX11_holds 10 = .ok (.aload_n 0, 1) := by decide +kernel
theorem dX11_holds_11 : decode cX11_holds 11 = .ok (.invokevirtual 237, 3) := by decide +kernel
theorem dX11_holds_14 : decode cX11_holds 14 = .ok (.aload_n 0, 1) := by decide +kernel
theorem dX11_holds_15 : decode cX11_holds 15 = .ok (.aload_n 0, 1) := by decide +kernel
theorem dX11_holds_16 : decode cX11_holds 16 = .ok (.getfield 33, 3) := by decide +kernel
theorem dX11_holds_19 : decode cX11_holds 19 = .ok (.iload_n 1, 1) := by decide +kernel
theorem dX11_holds_20 : decode cX11_holds 20 = .ok (.invokevirtual 253, 3) := by decide +kernel
theorem dX11_holds_23 : decode cX11_holds 23 = .ok (.invokevirtual 243, 3) := by decide +kernel
theorem dX11_holds_26 : decode cX11_holds 26 = .ok (.ireturn, 1) := by decide +kernel
def tX11_holds (kn : sKn) : List (Nat × sA) := [(0, a_aload 0 1), (1, a_iload 1 2), (2, a_callV false (fX11_isSigner kn) 12 2 5), (5, a_if kn b_ne 1 10 8), (8, a_stk (q_int (-1)) 9), (9, a_iret), (10, a_aload 0 11), (11, a_callV true (fX11_rememberState kn) 12 1 14), (14, a_aload 0 15), (15, a_aload 0 16), (16, a_get 12 3 19), (19, a_iload 1 20), (20, a_callV false (fX8_holdWord kn) 9 2 23), (23, a_callV false (fX11_keepIfDone kn) 12 2 26), (26, a_iret)]
def fX11_holds (kn : sKn) : List Value → sW → Option sR := fW (tX11_holds kn) 2
set_option maxRecDepth 100000 in
set_option maxHeartbeats 4000000 in
theorem mX11_holds (kn : sKn) : mM kn yX11_holds (Cond.code yX11_holds cX11_holds 2 (some .int) :: wsL_law) 3 false (fX11_holds kn) := mM_W (fun n => mM_of (own := RX11) (ini := false) rfl (by decide +kernel) (by decide +kernel) (all_c (ok_aload_n dX11_holds_0 rfl) (all_c (ok_iload_n dX11_holds_1 rfl) (all_c (okc_X11_isSigner (by decide) kw519 dX11_holds_2) (all_c (ok_if_ne dX11_holds_5 (by decide)) (all_c (ok_stk (s_iconst dX11_holds_8 (by decide))) (all_c (ok_iret dX11_holds_9) (all_c (ok_aload_n dX11_holds_10 rfl) (all_c (okc_X11_rememberState (by decide) kw506 dX11_holds_11) (all_c (ok_aload_n dX11_holds_14 rfl) (all_c (ok_aload_n dX11_holds_15 rfl) (all_c (okg_X11_3 kw292 dX11_holds_16) (all_c (ok_iload_n dX11_holds_19 rfl) (all_c (okc_X8_holdWord (by decide) kw799 dX11_holds_20) (all_c (okc_X11_keepIfDone (by decide) kw524 dX11_holds_23) (all_c (ok_iret dX11_holds_26) all_n))))))))))))))) n (fun h => by first | rfl | cases h))
theorem dX7_copyOf_0 : decode cX7_copyOf 0 = .ok (.aload_n 0, 1) := by decide +kernel
theorem dX7_copyOf_1 : decode cX7_copyOf 1 = .ok (.aload_n 1, 1) := by decide +kernel
theorem dX7_copyOf_2 : decode cX7_copyOf 2 = .ok (.getfield 27, 3) := by decide +kernel
theorem dX7_copyOf_5 : decode cX7_copyOf 5 = .ok (.putfield 27, 3) := by decide +kernel
theorem dX7_copyOf_8 : decode cX7_copyOf 8 = .ok (.aload_n 0, 1) := by decide +kernel
theorem dX7_copyOf_9 : decode cX7_copyOf 9 = .ok (.aload_n 1, 1) := by decide +kernel
theorem dX7_copyOf_10 : decode cX7_copyOf 10 = .ok (.getfield 31, 3) := by decide +kernel
theorem dX7_copyOf_13 : decode cX7_copyOf 13 = .ok (.putfield 31, 3) := by decide +kernel
theorem dX7_copyOf_16 : decode cX7_copyOf 16 = .ok (.aload_n 1, 1) := by decide +kernel
theorem dX7_copyOf_17 : decode cX7_copyOf 17 = .ok (.getfield 11, 3) := by decide +kernel
theorem dX7_copyOf_20 : decode cX7_copyOf 20 = .ok (.iconst 0, 1) := by decide +kernel
theorem dX7_copyOf_21 : decode cX7_copyOf 21 = .ok (.aload_n 0, 1) := by decide +kernel
theorem dX7_copyOf_22 : decode cX7_copyOf 22 = .ok (.getfield 11, 3) := by decide +kernel
theorem dX7_copyOf_25 : decode cX7_copyOf 25 = .ok (.iconst 0, 1) := by decide +kernel
theorem dX7_copyOf_26 : decode cX7_copyOf 26 = .ok (.bipush 40, 2) := by decide +kernel
theorem dX7_copyOf_28 : decode cX7_copyOf 28 = .ok (.invokestatic 34, 3) := by decide +kernel
theorem dX7_copyOf_31 : decode cX7_copyOf 31 = .ok (.aload_n 1, 1) := by decide +kernel
theorem dX7_copyOf_32 : decode cX7_copyOf 32 = .ok (.getfield 15, 3) := by decide +kernel
theorem dX7_copyOf_35 : decode cX7_copyOf 35 = .ok (.iconst 0, 1) := by decide +kernel
theorem dX7_copyOf_36 : decode cX7_copyOf 36 = .ok (.aload_n 0, 1) := by decide +kernel
theorem dX7_copyOf_37 : decode cX7_copyOf 37 = .ok (.getfield 15, 3) := by decide +kernel
theorem dX7_copyOf_40 : decode cX7_copyOf 40 = .ok (.iconst 0, 1) := by decide +kernel
theorem dX7_copyOf_41 : decode cX7_copyOf 41 = .ok (.bipush 40, 2) := by decide +kernel
theorem dX7_copyOf_43 : decode cX7_copyOf 43 = .ok (.invokestatic 34, 3) := by decide +kernel
theorem dX7_copyOf_46 : decode cX7_copyOf 46 = .ok (.aload_n 1, 1) := by decide +kernel
theorem dX7_copyOf_47 : decode cX7_copyOf 47 = .ok (.getfield 18, 3) := by decide +kernel
theorem dX7_copyOf_50 : decode cX7_copyOf 50 = .ok (.iconst 0, 1) := by decide +kernel
theorem dX7_copyOf_51 : decode cX7_copyOf 51 = .ok (.aload_n 0, 1) := by decide +kernel
theorem dX7_copyOf_52 : decode cX7_copyOf 52 = .ok (.getfield 18, 3) := by decide +kernel
theorem dX7_copyOf_55 : decode cX7_copyOf 55 = .ok (.iconst 0, 1) := by decide +kernel
theorem dX7_copyOf_56 : decode cX7_copyOf 56 = .ok (.bipush 40, 2) := by decide +kernel
theorem dX7_copyOf_58 : decode cX7_copyOf 58 = .ok (.invokestatic 34, 3) := by decide +kernel
theorem dX7_copyOf_61 : decode cX7_copyOf 61 = .ok (.return_, 1) := by decide +kernel
def tX7_copyOf (kn : sKn) : List (Nat × sA) := [(0, a_aload 0 1), (1, a_aload 1 2), (2, a_get 8 8 5), (5, a_put 8 8 ckI 8), (8, a_aload 0 9), (9, a_aload 1 10), (10, a_get 8 3 13), (13, a_put 8 3 ckI 16), (16, a_aload 1 17), (17, a_get 8 0 20), (20, a_stk (q_int 0) 21), (21, a_aload 0 22), (22, a_get 8 0 25), (25, a_stk (q_int 0) 26), (26, a_stk (q_int 40) 28), (28, a_copy 31), (31, a_aload 1 32), (32, a_get 8 1 35), (35, a_stk (q_int 0) 36), (36, a_aload 0 37), (37, a_get 8 1 40), (40, a_stk (q_int 0) 41), (41, a_stk (q_int 40) 43), (43, a_copy 46), (46, a_aload 1 47), (47, a_get 8 2 50), (50, a_stk (q_int 0) 51), (51, a_aload 0 52), (52, a_get 8 2 55), (55, a_stk (q_int 0) 56), (56, a_stk (q_int 40) 58), (58, a_copy 61), (61, a_vret)]
def fX7_copyOf (kn : sKn) : List Value → sW → Option sR := fW (tX7_copyOf kn) 2
set_option maxRecDepth 100000 in
set_option maxHeartbeats 4000000 in
theorem mX7_copyOf (kn : sKn) : mM kn yX7_copyOf (Cond.code yX7_copyOf cX7_copyOf 2 none :: wsL_law) 1 true (fX7_copyOf kn) := mM_W (fun n => mM_of (own := RX7) (ini := false) rfl (by decide +kernel) (by decide +kernel) (all_c (ok_aload_n dX7_copyOf_0 rfl) (all_c (ok_aload_n dX7_copyOf_1 rfl) (all_c (okg_X7_8 kw623 dX7_copyOf_2) (all_c (okp_X7_8 kw623 dX7_copyOf_5) (all_c (ok_aload_n dX7_copyOf_8 rfl) (all_c (ok_aload_n dX7_copyOf_9 rfl) (all_c (okg_X7_3 kw624 dX7_copyOf_10) (all_c (okp_X7_3 kw624 dX7_copyOf_13) (all_c (ok_aload_n dX7_copyOf_16 rfl) (all_c (okg_X7_0 kw800 dX7_copyOf_17) (all_c (ok_stk (s_iconst dX7_copyOf_20 (by decide))) (all_c (ok_aload_n dX7_copyOf_21 rfl) (all_c (okg_X7_0 kw800 dX7_copyOf_22) (all_c (ok_stk (s_iconst dX7_copyOf_25 (by decide))) (all_c (ok_stk (s_bipush dX7_copyOf_26 (by decide))) (all_c (ok_copy (by decide) kw801 kw30 kw31 kw32 dX7_copyOf_28) (all_c (ok_aload_n dX7_copyOf_31 rfl) (all_c (okg_X7_1 kw802 dX7_copyOf_32) (all_c (ok_stk (s_iconst dX7_copyOf_35 (by decide))) (all_c (ok_aload_n dX7_copyOf_36 rfl) (all_c (okg_X7_1 kw802 dX7_copyOf_37) (all_c (ok_stk (s_iconst dX7_copyOf_40 (by decide))) (all_c (ok_stk (s_bipush dX7_copyOf_41 (by decide))) (all_c (ok_copy (by decide) kw801 kw30 kw31 kw32 dX7_copyOf_43) (all_c (ok_aload_n dX7_copyOf_46 rfl) (all_c (okg_X7_2 kw803 dX7_copyOf_47) (all_c (ok_stk (s_iconst dX7_copyOf_50 (by decide))) (all_c (ok_aload_n dX7_copyOf_51 rfl) (all_c (okg_X7_2 kw803 dX7_copyOf_52) (all_c (ok_stk (s_iconst dX7_copyOf_55 (by decide))) (all_c (ok_stk (s_bipush dX7_copyOf_56 (by decide))) (all_c (ok_copy (by decide) kw801 kw30 kw31 kw32 dX7_copyOf_58) (all_c (ok_vret dX7_copyOf_61) all_n))))))))))))))))))))))))))))))))) n (fun h => by first | rfl | cases h))
theorem dX11_image_0 : decode cX11_image 0 = .ok (.iload_n 1, 1) := by decide +kernel
theorem dX11_image_1 : decode cX11_image 1 = .ok (.ifCond .lt 8, 3) := by decide +kernel
theorem dX11_image_4 : decode cX11_image 4 = .ok (.iload_n 1, 1) := by decide +kernel
theorem dX11_image_5 : decode cX11_image 5 = .ok (.iconst 2, 1) := by decide +kernel
theorem dX11_image_6 : decode cX11_image 6 = .ok (.if_icmp .lt 5, 3) := by decide +kernel
theorem dX11_image_9 : decode cX11_image 9 = .ok (.iconst 0, 1) := by decide +kernel
theorem dX11_image_10 : decode cX11_image 10 = .ok (.ireturn, 1) := by decide +kernel
theorem dX11_image_11 : decode cX11_image 11 = .ok (.aload_n 0, 1) := by decide +kernel
theorem dX11_image_12 : decode cX11_image 12 = .ok (.getfield 100, 3) := by decide +kernel
theorem dX11_image_15 : decode cX11_image 15 = .ok (.iload_n 1, 1) := by decide +kernel
theorem dX11_image_16 : decode cX11_image 16 = .ok (.aaload, 1) := by decide +kernel
theorem dX11_image_17 : decode cX11_image 17 = .ok (.aload_n 0, 1) := by decide +kernel
theorem dX11_image_18 : decode cX11_image 18 = .ok (.getfield 26, 3) := by decide +kernel
theorem dX11_image_21 : decode cX11_image 21 = .ok (.invokevirtual 131, 3) := by decide +kernel
theorem dX11_image_24 : decode cX11_image 24 = .ok (.aload_n 0, 1) := by decide +kernel
theorem dX11_image_25 : decode cX11_image 25 = .ok (.getfield 104, 3) := by decide +kernel
theorem dX11_image_28 : decode cX11_image 28 = .ok (.iload_n 1, 1) := by decide +kernel
theorem dX11_image_29 : decode cX11_image 29 = .ok (.aaload, 1) := by decide +kernel
theorem dX11_image_30 : decode cX11_image 30 = .ok (.aload_n 0, 1) := by decide +kernel
theorem dX11_image_31 : decode cX11_image 31 = .ok (.getfield 33, 3) := by decide +kernel
theorem dX11_image_34 : decode cX11_image 34 = .ok (.invokevirtual 273, 3) := by decide +kernel
theorem dX11_image_37 : decode cX11_image 37 = .ok (.aload_n 0, 1) := by decide +kernel
theorem dX11_image_38 : decode cX11_image 38 = .ok (.getfield 107, 3) := by decide +kernel
theorem dX11_image_41 : decode cX11_image 41 = .ok (.iload_n 1, 1) := by decide +kernel
theorem dX11_image_42 : decode cX11_image 42 = .ok (.aaload, 1) := by decide +kernel
theorem dX11_image_43 : decode cX11_image 43 = .ok (.aload_n 0, 1) := by decide +kernel
theorem dX11_image_44 : decode cX11_image 44 = .ok (.getfield 40, 3) := by decide +kernel
theorem dX11_image_47 : decode cX11_image 47 = .ok (.invokevirtual 395, 3) := by decide +kernel
theorem dX11_image_50 : decode cX11_image 50 = .ok (.aload_n 0, 1) := by decide +kernel
theorem dX11_image_51 : decode cX11_image 51 = .ok (.getfield 111, 3) := by decide +kernel
theorem dX11_image_54 : decode cX11_image 54 = .ok (.iload_n 1, 1) := by decide +kernel
theorem dX11_image_55 : decode cX11_image 55 = .ok (.iconst 1, 1) := by decide +kernel
theorem dX11_image_56 : decode cX11_image 56 = .ok (.bastore, 1) := by decide +kernel
theorem dX11_image_57 : decode cX11_image 57 = .ok (.iconst 1, 1) := by decide +kernel
theorem dX11_image_58 : decode cX11_image 58 = .ok (.ireturn, 1) := by decide +kernel
theorem okc_X7_copyOf {kn : sKn} {cc : ByteArray} {own : String} {nL : Nat} {D : Nat} {ret : Option FieldType} {ini : Bool} {pc index : Nat} (hD : 1 + 1 ≤ D) (hl : Cond.methodLink own index yX7_copyOf ∈ wsL_law) (hd : decode cc pc = .ok (.invokevirtual index, 3)) : mOk kn cc own nL wsL_law D ret ini pc (a_callV true (fX7_copyOf kn) 8 (1 + 1) (pc + 3)) := ok_callV (mX7_copyOf kn) (good_ws ws_good (fun _ h => h) kw807) hD (by decide) hl kw808 kw809 kw644 ⟨by decide +kernel, by decide +kernel, by decide +kernel⟩ rfl hd
def tX11_image (kn : sKn) : List (Nat × sA) := [(0, a_iload 1 1), (1, a_if kn b_lt 2 9 4), (4, a_iload 1 5), (5, a_stk (q_int 2) 6), (6, a_icmp kn b_lt 2 11 9), (9, a_stk (q_int 0) 10), (10, a_zret), (11, a_aload 0 12), (12, a_get 12 16 15), (15, a_iload 1 16), (16, a_aald 17), (17, a_aload 0 18), (18, a_get 12 2 21), (21, a_callV true (fX6_copyOf kn) 7 2 24), (24, a_aload 0 25), (25, a_get 12 17 28), (28, a_iload 1 29), (29, a_aald 30), (30, a_aload 0 31), (31, a_get 12 3 34), (34, a_callV true (fX8_copyOf kn) 9 2 37), (37, a_aload 0 38), (38, a_get 12 18 41), (41, a_iload 1 42), (42, a_aald 43), (43, a_aload 0 44), (44, a_get 12 4 47), (47, a_callV true (fX7_copyOf kn) 8 2 50), (50, a_aload 0 51), (51, a_get 12 19 54), (54, a_iload 1 55), (55, a_stk (q_int 1) 56), (56, a_bast 57), (57, a_stk (q_int 1) 58), (58, a_zret)]
def fX11_image (kn : sKn) : List Value → sW → Option sR := fW (tX11_image kn) 2
set_option maxRecDepth 100000 in
set_option maxHeartbeats 4000000 in
theorem mX11_image (kn : sKn) : mM kn yX11_image (Cond.code yX11_image cX11_image 2 (some .boolean) :: wsL_law) 2 false (fX11_image kn) := mM_W (fun n => mM_of (own := RX11) (ini := false) rfl (by decide +kernel) (by decide +kernel) (all_c (ok_iload_n dX11_image_0 rfl) (all_c (ok_if_lt dX11_image_1 (by decide)) (all_c (ok_iload_n dX11_image_4 rfl) (all_c (ok_stk (s_iconst dX11_image_5 (by decide))) (all_c (ok_icmp_lt dX11_image_6 (by decide)) (all_c (ok_stk (s_iconst dX11_image_9 (by decide))) (all_c (ok_zret dX11_image_10) (all_c (ok_aload_n dX11_image_11 rfl) (all_c (okg_X11_16 kw804 dX11_image_12) (all_c (ok_iload_n dX11_image_15 rfl) (all_c (ok_aald dX11_image_16) (all_c (ok_aload_n dX11_image_17 rfl) (all_c (okg_X11_2 kw291 dX11_image_18) (all_c (okc_X6_copyOf (by decide) kw637 dX11_image_21) (all_c (ok_aload_n dX11_image_24 rfl) (all_c (okg_X11_17 kw805 dX11_image_25) (all_c (ok_iload_n dX11_image_28 rfl) (all_c (ok_aald dX11_image_29) (all_c (ok_aload_n dX11_image_30 rfl) (all_c (okg_X11_3 kw292 dX11_image_31) (all_c (okc_X8_copyOf (by decide) kw326 dX11_image_34) (all_c (ok_aload_n dX11_image_37 rfl) (all_c (okg_X11_18 kw806 dX11_image_38) (all_c (ok_iload_n dX11_image_41 rfl) (all_c (ok_aald dX11_image_42) (all_c (ok_aload_n dX11_image_43 rfl) (all_c (okg_X11_4 kw642 dX11_image_44) (all_c (okc_X7_copyOf (by decide) kw810 dX11_image_47) (all_c (ok_aload_n dX11_image_50 rfl) (all_c (okg_X11_19 kw811 dX11_image_51) (all_c (ok_iload_n dX11_image_54 rfl) (all_c (ok_stk (s_iconst dX11_image_55 (by decide))) (all_c (ok_bast dX11_image_56) (all_c (ok_stk (s_iconst dX11_image_57 (by decide))) (all_c (ok_zret dX11_image_58) all_n))))))))))))))))))))))))))))))))))) n (fun h => by first | rfl | cases h))
theorem dX1_init_0 : decode cX1_init 0 = .ok (.aload_n 0, 1) := by decide +kernel
theorem dX1_init_1 : decode cX1_init 1 = .ok (.invokespecial 3, 3) := by decide +kernel
theorem dX1_init_4 : decode cX1_init 4 = .ok (.aload_n 0, 1) := by decide +kernel
theorem dX1_init_5 : decode cX1_init 5 = .ok (.bipush 40, 2) := by decide +kernel
theorem dX1_init_7 : decode cX1_init 7 = .ok (.newarray .int, 2) := by decide +kernel
theorem dX1_init_9 : decode cX1_init 9 = .ok (.putfield 11, 3) := by decide +kernel
theorem dX1_init_12 : decode cX1_init 12 = .ok (.aload_n 0, 1) := by decide +kernel
theorem dX1_init_13 : decode cX1_init 13 = .ok (.bipush 40, 2) := by decide +kernel
theorem dX1_init_15 : decode cX1_init 15 = .ok (.newarray .int, 2) := by decide +kernel
theorem dX1_init_17 : decode cX1_init 17 = .ok (.putfield 15, 3) := by decide +kernel
theorem dX1_init_20 : decode cX1_init 20 = .ok (.aload_n 0, 1) := by decide +kernel
theorem dX1_init_21 : decode cX1_init 21 = .ok (.bipush 40, 2) := by decide +kernel
theorem dX1_init_23 : decode cX1_init 23 = .ok (.newarray .int, 2) := by decide +kernel
theorem dX1_init_25 : decode cX1_init 25 = .ok (.putfield 18, 3) := by decide +kernel
theorem dX1_init_28 : decode cX1_init 28 = .ok (.aload_n 0, 1) := by decide +kernel
theorem dX1_init_29 : decode cX1_init 29 = .ok (.bipush 40, 2) := by decide +kernel
theorem dX1_init_31 : decode cX1_init 31 = .ok (.newarray .int, 2) := by decide +kernel
theorem dX1_init_33 : decode cX1_init 33 = .ok (.putfield 21, 3) := by decide +kernel
theorem dX1_init_36 : decode cX1_init 36 = .ok (.aload_n 0, 1) := by decide +kernel
theorem dX1_init_37 : decode cX1_init 37 = .ok (.iconst 4, 1) := by decide +kernel
theorem dX1_init_38 : decode cX1_init 38 = .ok (.newarray .int, 2) := by decide +kernel
theorem dX1_init_40 : decode cX1_init 40 = .ok (.dup, 1) := by decide +kernel
theorem dX1_init_41 : decode cX1_init 41 = .ok (.iconst 0, 1) := by decide +kernel
theorem dX1_init_42 : decode cX1_init 42 = .ok (.iconst (-1), 1) := by decide +kernel
theorem dX1_init_43 : decode cX1_init 43 = .ok (.iastore, 1) := by decide +kernel
theorem dX1_init_44 : decode cX1_init 44 = .ok (.dup, 1) := by decide +kernel
theorem dX1_init_45 : decode cX1_init 45 = .ok (.iconst 1, 1) := by decide +kernel
theorem dX1_init_46 : decode cX1_init 46 = .ok (.iconst (-1), 1) := by decide +kernel
theorem dX1_init_47 : decode cX1_init 47 = .ok (.iastore, 1) := by decide +kernel
theorem dX1_init_48 : decode cX1_init 48 = .ok (.dup, 1) := by decide +kernel
theorem dX1_init_49 : decode cX1_init 49 = .ok (.iconst 2, 1) := by decide +kernel
theorem dX1_init_50 : decode cX1_init 50 = .ok (.iconst (-1), 1) := by decide +kernel
theorem dX1_init_51 : decode cX1_init 51 = .ok (.iastore, 1) := by decide +kernel
theorem dX1_init_52 : decode cX1_init 52 = .ok (.dup, 1) := by decide +kernel
theorem dX1_init_53 : decode cX1_init 53 = .ok (.iconst 3, 1) := by decide +kernel
theorem dX1_init_54 : decode cX1_init 54 = .ok (.iconst (-1), 1) := by decide +kernel
theorem dX1_init_55 : decode cX1_init 55 = .ok (.iastore, 1) := by decide +kernel
theorem dX1_init_56 : decode cX1_init 56 = .ok (.putfield 24, 3) := by decide +kernel
theorem dX1_init_59 : decode cX1_init 59 = .ok (.return_, 1) := by decide +kernel
def tX1_init (kn : sKn) : List (Nat × sA) := [(0, a_aload 0 1), (1, a_obj 4), (4, a_aload 0 5), (5, a_stk (q_int 40) 7), (7, a_newa 1 9), (9, a_put 2 0 ckR 12), (12, a_aload 0 13), (13, a_stk (q_int 40) 15), (15, a_newa 1 17), (17, a_put 2 1 ckR 20), (20, a_aload 0 21), (21, a_stk (q_int 40) 23), (23, a_newa 1 25), (25, a_put 2 2 ckR 28), (28, a_aload 0 29), (29, a_stk (q_int 40) 31), (31, a_newa 1 33), (33, a_put 2 3 ckR 36), (36, a_aload 0 37), (37, a_stk (q_int 4) 38), (38, a_newa 1 40), (40, a_stk q_dup 41), (41, a_stk (q_int 0) 42), (42, a_stk (q_int (-1)) 43), (43, a_iast 44), (44, a_stk q_dup 45), (45, a_stk (q_int 1) 46), (46, a_stk (q_int (-1)) 47), (47, a_iast 48), (48, a_stk q_dup 49), (49, a_stk (q_int 2) 50), (50, a_stk (q_int (-1)) 51), (51, a_iast 52), (52, a_stk q_dup 53), (53, a_stk (q_int 3) 54), (54, a_stk (q_int (-1)) 55), (55, a_iast 56), (56, a_put 2 5 ckR 59), (59, a_vret)]
def fX1_init (kn : sKn) : List Value → sW → Option sR := fW (tX1_init kn) 1
set_option maxRecDepth 100000 in
set_option maxHeartbeats 4000000 in
theorem mX1_init (kn : sKn) : mM kn yX1_init (Cond.code yX1_init cX1_init 1 none :: wsL_law) 1 true (fX1_init kn) := mM_W (fun n => mM_of (own := RX1) (ini := true) rfl (by decide +kernel) (by decide +kernel) (all_c (ok_aload_n dX1_init_0 rfl) (all_c (ok_obj (by decide) kw812 kw122 kw123 dX1_init_1) (all_c (ok_aload_n dX1_init_4 rfl) (all_c (ok_stk (s_bipush dX1_init_5 (by decide))) (all_c (ok_newI kw229 dX1_init_7) (all_c (okp_X1_0 kw346 dX1_init_9) (all_c (ok_aload_n dX1_init_12 rfl) (all_c (ok_stk (s_bipush dX1_init_13 (by decide))) (all_c (ok_newI kw229 dX1_init_15) (all_c (okp_X1_1 kw348 dX1_init_17) (all_c (ok_aload_n dX1_init_20 rfl) (all_c (ok_stk (s_bipush dX1_init_21 (by decide))) (all_c (ok_newI kw229 dX1_init_23) (all_c (okp_X1_2 kw344 dX1_init_25) (all_c (ok_aload_n dX1_init_28 rfl) (all_c (ok_stk (s_bipush dX1_init_29 (by decide))) (all_c (ok_newI kw229 dX1_init_31) (all_c (okp_X1_3 kw345 dX1_init_33) (all_c (ok_aload_n dX1_init_36 rfl) (all_c (ok_stk (s_iconst dX1_init_37 (by decide))) (all_c (ok_newI kw229 dX1_init_38) (all_c (ok_stk (s_dup dX1_init_40)) (all_c (ok_stk (s_iconst dX1_init_41 (by decide))) (all_c (ok_stk (s_iconst dX1_init_42 (by decide))) (all_c (ok_iast dX1_init_43) (all_c (ok_stk (s_dup dX1_init_44)) (all_c (ok_stk (s_iconst dX1_init_45 (by decide))) (all_c (ok_stk (s_iconst dX1_init_46 (by decide))) (all_c (ok_iast dX1_init_47) (all_c (ok_stk (s_dup dX1_init_48)) (all_c (ok_stk (s_iconst dX1_init_49 (by decide))) (all_c (ok_stk (s_iconst dX1_init_50 (by decide))) (all_c (ok_iast dX1_init_51) (all_c (ok_stk (s_dup dX1_init_52)) (all_c (ok_stk (s_iconst dX1_init_53 (by decide))) (all_c (ok_stk (s_iconst dX1_init_54 (by decide))) (all_c (ok_iast dX1_init_55) (all_c (okp_X1_5 kw387 dX1_init_56) (all_c (ok_vret dX1_init_59) all_n))))))))))))))))))))))))))))))))))))))) n (fun h => by first | rfl | cases h))
theorem dX6_init_0 : decode cX6_init 0 = .ok (.aload_n 0, 1) := by decide +kernel
theorem dX6_init_1 : decode cX6_init 1 = .ok (.invokespecial 3, 3) := by decide +kernel
theorem dX6_init_4 : decode cX6_init 4 = .ok (.aload_n 0, 1) := by decide +kernel
theorem dX6_init_5 : decode cX6_init 5 = .ok (.bipush 10, 2) := by decide +kernel
theorem dX6_init_7 : decode cX6_init 7 = .ok (.newarray .long, 2) := by decide +kernel
theorem dX6_init_9 : decode cX6_init 9 = .ok (.putfield 9, 3) := by decide +kernel
theorem dX6_init_12 : decode cX6_init 12 = .ok (.aload_n 0, 1) := by decide +kernel
theorem dX6_init_13 : decode cX6_init 13 = .ok (.bipush 10, 2) := by decide +kernel
theorem dX6_init_15 : decode cX6_init 15 = .ok (.newarray .int, 2) := by decide +kernel
theorem dX6_init_17 : decode cX6_init 17 = .ok (.putfield 15, 3) := by decide +kernel
theorem dX6_init_20 : decode cX6_init 20 = .ok (.aload_n 0, 1) := by decide +kernel
theorem dX6_init_21 : decode cX6_init 21 = .ok (.bipush 10, 2) := by decide +kernel
theorem dX6_init_23 : decode cX6_init 23 = .ok (.newarray .int, 2) := by decide +kernel
theorem dX6_init_25 : decode cX6_init 25 = .ok (.putfield 19, 3) := by decide +kernel
theorem dX6_init_28 : decode cX6_init 28 = .ok (.aload_n 0, 1) := by decide +kernel
theorem dX6_init_29 : decode cX6_init 29 = .ok (.bipush 10, 2) := by decide +kernel
theorem dX6_init_31 : decode cX6_init 31 = .ok (.newarray .int, 2) := by decide +kernel
theorem dX6_init_33 : decode cX6_init 33 = .ok (.putfield 22, 3) := by decide +kernel
theorem dX6_init_36 : decode cX6_init 36 = .ok (.aload_n 0, 1) := by decide +kernel
theorem dX6_init_37 : decode cX6_init 37 = .ok (.bipush 10, 2) := by decide +kernel
theorem dX6_init_39 : decode cX6_init 39 = .ok (.newarray .int, 2) := by decide +kernel
theorem dX6_init_41 : decode cX6_init 41 = .ok (.putfield 25, 3) := by decide +kernel
theorem dX6_init_44 : decode cX6_init 44 = .ok (.aload_n 0, 1) := by decide +kernel
theorem dX6_init_45 : decode cX6_init 45 = .ok (.bipush 36, 2) := by decide +kernel
theorem dX6_init_47 : decode cX6_init 47 = .ok (.newarray .int, 2) := by decide +kernel
theorem dX6_init_49 : decode cX6_init 49 = .ok (.putfield 28, 3) := by decide +kernel
theorem dX6_init_52 : decode cX6_init 52 = .ok (.aload_n 0, 1) := by decide +kernel
theorem dX6_init_53 : decode cX6_init 53 = .ok (.bipush 6, 2) := by decide +kernel
theorem dX6_init_55 : decode cX6_init 55 = .ok (.newarray .long, 2) := by decide +kernel
theorem dX6_init_57 : decode cX6_init 57 = .ok (.putfield 31, 3) := by decide +kernel
theorem dX6_init_60 : decode cX6_init 60 = .ok (.aload_n 0, 1) := by decide +kernel
theorem dX6_init_61 : decode cX6_init 61 = .ok (.bipush 6, 2) := by decide +kernel
theorem dX6_init_63 : decode cX6_init 63 = .ok (.newarray .int, 2) := by decide +kernel
theorem dX6_init_65 : decode cX6_init 65 = .ok (.putfield 34, 3) := by decide +kernel
theorem dX6_init_68 : decode cX6_init 68 = .ok (.aload_n 0, 1) := by decide +kernel
theorem dX6_init_69 : decode cX6_init 69 = .ok (.bipush 6, 2) := by decide +kernel
theorem dX6_init_71 : decode cX6_init 71 = .ok (.newarray .int, 2) := by decide +kernel
theorem dX6_init_73 : decode cX6_init 73 = .ok (.putfield 37, 3) := by decide +kernel
theorem dX6_init_76 : decode cX6_init 76 = .ok (.aload_n 0, 1) := by decide +kernel
theorem dX6_init_77 : decode cX6_init 77 = .ok (.invokevirtual 40, 3) := by decide +kernel
theorem dX6_init_80 : decode cX6_init 80 = .ok (.return_, 1) := by decide +kernel
def tX6_init (kn : sKn) : List (Nat × sA) := [(0, a_aload 0 1), (1, a_obj 4), (4, a_aload 0 5), (5, a_stk (q_int 10) 7), (7, a_newa 2 9), (9, a_put 7 6 ckR 12), (12, a_aload 0 13), (13, a_stk (q_int 10) 15), (15, a_newa 1 17), (17, a_put 7 7 ckR 20), (20, a_aload 0 21), (21, a_stk (q_int 10) 23), (23, a_newa 1 25), (25, a_put 7 8 ckR 28), (28, a_aload 0 29), (29, a_stk (q_int 10) 31), (31, a_newa 1 33), (33, a_put 7 9 ckR 36), (36, a_aload 0 37), (37, a_stk (q_int 10) 39), (39, a_newa 1 41), (41, a_put 7 10 ckR 44), (44, a_aload 0 45), (45, a_stk (q_int 36) 47), (47, a_newa 1 49), (49, a_put 7 11 ckR 52), (52, a_aload 0 53), (53, a_stk (q_int 6) 55), (55, a_newa 2 57), (57, a_put 7 12 ckR 60), (60, a_aload 0 61), (61, a_stk (q_int 6) 63), (63, a_newa 1 65), (65, a_put 7 13 ckR 68), (68, a_aload 0 69), (69, a_stk (q_int 6) 71), (71, a_newa 1 73), (73, a_put 7 14 ckR 76), (76, a_aload 0 77), (77, a_callV true (fX6_clear kn) 7 1 80), (80, a_vret)]
def fX6_init (kn : sKn) : List Value → sW → Option sR := fW (tX6_init kn) 1
set_option maxRecDepth 100000 in
set_option maxHeartbeats 4000000 in
theorem mX6_init (kn : sKn) : mM kn yX6_init (Cond.code yX6_init cX6_init 1 none :: wsL_law) 3 true (fX6_init kn) := mM_W (fun n => mM_of (own := RX6) (ini := true) rfl (by decide +kernel) (by decide +kernel) (all_c (ok_aload_n dX6_init_0 rfl) (all_c (ok_obj (by decide) kw813 kw122 kw123 dX6_init_1) (all_c (ok_aload_n dX6_init_4 rfl) (all_c (ok_stk (s_bipush dX6_init_5 (by decide))) (all_c (ok_newJ kw814 dX6_init_7) (all_c (okp_X6_6 kw450 dX6_init_9) (all_c (ok_aload_n dX6_init_12 rfl) (all_c (ok_stk (s_bipush dX6_init_13 (by decide))) (all_c (ok_newI kw229 dX6_init_15) (all_c (okp_X6_7 kw619 dX6_init_17) (all_c (ok_aload_n dX6_init_20 rfl) (all_c (ok_stk (s_bipush dX6_init_21 (by decide))) (all_c (ok_newI kw229 dX6_init_23) (all_c (okp_X6_8 kw620 dX6_init_25) (all_c (ok_aload_n dX6_init_28 rfl) (all_c (ok_stk (s_bipush dX6_init_29 (by decide))) (all_c (ok_newI kw229 dX6_init_31) (all_c (okp_X6_9 kw604 dX6_init_33) (all_c (ok_aload_n dX6_init_36 rfl) (all_c (ok_stk (s_bipush dX6_init_37 (by decide))) (all_c (ok_newI kw229 dX6_init_39) (all_c (okp_X6_10 kw157 dX6_init_41) (all_c (ok_aload_n dX6_init_44 rfl) (all_c (ok_stk (s_bipush dX6_init_45 (by decide))) (all_c (ok_newI kw229 dX6_init_47) (all_c (okp_X6_11 kw554 dX6_init_49) (all_c (ok_aload_n dX6_init_52 rfl) (all_c (ok_stk (s_bipush dX6_init_53 (by decide))) (all_c (ok_newJ kw814 dX6_init_55) (all_c (okp_X6_12 kw448 dX6_init_57) (all_c (ok_aload_n dX6_init_60 rfl) (all_c (ok_stk (s_bipush dX6_init_61 (by decide))) (all_c (ok_newI kw229 dX6_init_63) (all_c (okp_X6_13 kw621 dX6_init_65) (all_c (ok_aload_n dX6_init_68 rfl) (all_c (ok_stk (s_bipush dX6_init_69 (by decide))) (all_c (ok_newI kw229 dX6_init_71) (all_c (okp_X6_14 kw622 dX6_init_73) (all_c (ok_aload_n dX6_init_76 rfl) (all_c (okc_X6_clear (by decide) kw815 dX6_init_77) (all_c (ok_vret dX6_init_80) all_n))))))))))))))))))))))))))))))))))))))))) n (fun h => by first | rfl | cases h))
theorem dX2_init_0 : decode cX2_init 0 = .ok (.aload_n 0, 1) := by decide +kernel
theorem dX2_init_1 : decode cX2_init 1 = .ok (.invokespecial 3, 3) := by decide +kernel
theorem dX2_init_4 : decode cX2_init 4 = .ok (.aload_n 0, 1) := by decide +kernel
theorem dX2_init_5 : decode cX2_init 5 = .ok (.new 9, 3) := by decide +kernel
theorem dX2_init_8 : decode cX2_init 8 = .ok (.dup, 1) := by decide +kernel
theorem dX2_init_9 : decode cX2_init 9 = .ok (.invokespecial 11, 3) := by decide +kernel
theorem dX2_init_12 : decode cX2_init 12 = .ok (.putfield 12, 3) := by decide +kernel
theorem dX2_init_15 : decode cX2_init 15 = .ok (.return_, 1) := by decide +kernel
theorem okc_X6_init {kn : sKn} {cc : ByteArray} {own : String} {nL : Nat} {D : Nat} {ret : Option FieldType} {ini : Bool} {pc index : Nat} (hD : 3 + 1 ≤ D) (hl : Cond.methodLink own index yX6_init ∈ wsL_law) (hd : decode cc pc = .ok (.invokespecial index, 3)) : mOk kn cc own nL wsL_law D ret ini pc (a_callI true (fX6_init kn) (0 + 1) (pc + 3)) := ok_callI (mX6_init kn) (good_ws ws_good (fun _ h => h) kw818) hD (by decide) hl kw819 rfl kw162 ⟨by decide +kernel, by decide +kernel, by decide +kernel⟩ hd
def tX2_init (kn : sKn) : List (Nat × sA) := [(0, a_aload 0 1), (1, a_obj 4), (4, a_aload 0 5), (5, a_new 7 8 [.int 0, .int 0, .int 0, .int 0, .int 0, .int 0, .null, .null, .null, .null, .null, .null, .null, .null, .null]), (8, a_stk q_dup 9), (9, a_callI true (fX6_init kn) 1 12), (12, a_put 3 0 ckR 15), (15, a_vret)]
def fX2_init (kn : sKn) : List Value → sW → Option sR := fW (tX2_init kn) 1
set_option maxRecDepth 100000 in
set_option maxHeartbeats 4000000 in
theorem mX2_init (kn : sKn) : mM kn yX2_init (Cond.code yX2_init cX2_init 1 none :: wsL_law) 4 true (fX2_init kn) := mM_W (fun n => mM_of (own := RX2) (ini := true) rfl (by decide +kernel) (by decide +kernel) (all_c (ok_aload_n dX2_init_0 rfl) (all_c (ok_obj (by decide) kw816 kw122 kw123 dX2_init_1) (all_c (ok_aload_n dX2_init_4 rfl) (all_c (okn_X6 kw817 dX2_init_5) (all_c (ok_stk (s_dup dX2_init_8)) (all_c (okc_X6_init (by decide) kw820 dX2_init_9) (all_c (okp_X2_0 kw527 dX2_init_12) (all_c (ok_vret dX2_init_15) all_n)))))))) n (fun h => by first | rfl | cases h))
theorem dX3_init_0 : decode cX3_init 0 = .ok (.aload_n 0, 1) := by decide +kernel
theorem dX3_init_1 : decode cX3_init 1 = .ok (.invokespecial 3, 3) := by decide +kernel
theorem dX3_init_4 : decode cX3_init 4 = .ok (.aload_n 0, 1) := by decide +kernel
theorem dX3_init_5 : decode cX3_init 5 = .ok (.new 9, 3) := by decide +kernel
theorem dX3_init_8 : decode cX3_init 8 = .ok (.dup, 1) := by decide +kernel
theorem dX3_init_9 : decode cX3_init 9 = .ok (.invokespecial 11, 3) := by decide +kernel
theorem dX3_init_12 : decode cX3_init 12 = .ok (.putfield 12, 3) := by decide +kernel
theorem dX3_init_15 : decode cX3_init 15 = .ok (.aload_n 0, 1) := by decide +kernel
theorem dX3_init_16 : decode cX3_init 16 = .ok (.bipush 96, 2) := by decide +kernel
theorem dX3_init_18 : decode cX3_init 18 = .ok (.newarray .int, 2) := by decide +kernel
theorem dX3_init_20 : decode cX3_init 20 = .ok (.putfield 18, 3) := by decide +kernel
theorem dX3_init_23 : decode cX3_init 23 = .ok (.aload_n 0, 1) := by decide +kernel
theorem dX3_init_24 : decode cX3_init 24 = .ok (.sipush 208, 3) := by decide +kernel
theorem dX3_init_27 : decode cX3_init 27 = .ok (.newarray .int, 2) := by decide +kernel
theorem dX3_init_29 : decode cX3_init 29 = .ok (.putfield 22, 3) := by decide +kernel
theorem dX3_init_32 : decode cX3_init 32 = .ok (.aload_n 0, 1) := by decide +kernel
theorem dX3_init_33 : decode cX3_init 33 = .ok (.iconst 3, 1) := by decide +kernel
theorem dX3_init_34 : decode cX3_init 34 = .ok (.newarray .int, 2) := by decide +kernel
theorem dX3_init_36 : decode cX3_init 36 = .ok (.putfield 25, 3) := by decide +kernel
theorem dX3_init_39 : decode cX3_init 39 = .ok (.return_, 1) := by decide +kernel
def tX3_init (kn : sKn) : List (Nat × sA) := [(0, a_aload 0 1), (1, a_obj 4), (4, a_aload 0 5), (5, a_new 9 8 [.int 0, .int 0, .int 0, .null, .null, .null, .null, .null, .null]), (8, a_stk q_dup 9), (9, a_callI true (fX8_init kn) 1 12), (12, a_put 4 0 ckR 15), (15, a_aload 0 16), (16, a_stk (q_int 96) 18), (18, a_newa 1 20), (20, a_put 4 1 ckR 23), (23, a_aload 0 24), (24, a_stk (q_int 208) 27), (27, a_newa 1 29), (29, a_put 4 2 ckR 32), (32, a_aload 0 33), (33, a_stk (q_int 3) 34), (34, a_newa 1 36), (36, a_put 4 3 ckR 39), (39, a_vret)]
def fX3_init (kn : sKn) : List Value → sW → Option sR := fW (tX3_init kn) 1
set_option maxRecDepth 100000 in
set_option maxHeartbeats 4000000 in
theorem mX3_init (kn : sKn) : mM kn yX3_init (Cond.code yX3_init cX3_init 1 none :: wsL_law) 3 true (fX3_init kn) := mM_W (fun n => mM_of (own := RX3) (ini := true) rfl (by decide +kernel) (by decide +kernel) (all_c (ok_aload_n dX3_init_0 rfl) (all_c (ok_obj (by decide) kw821 kw122 kw123 dX3_init_1) (all_c (ok_aload_n dX3_init_4 rfl) (all_c (okn_X8 kw822 dX3_init_5) (all_c (ok_stk (s_dup dX3_init_8)) (all_c (okc_X8_init (by decide) kw823 dX3_init_9) (all_c (okp_X3_0 kw680 dX3_init_12) (all_c (ok_aload_n dX3_init_15 rfl) (all_c (ok_stk (s_bipush dX3_init_16 (by decide))) (all_c (ok_newI kw229 dX3_init_18) (all_c (okp_X3_1 kw663 dX3_init_20) (all_c (ok_aload_n dX3_init_23 rfl) (all_c (ok_stk (s_sipush dX3_init_24 (by decide))) (all_c (ok_newI kw229 dX3_init_27) (all_c (okp_X3_2 kw664 dX3_init_29) (all_c (ok_aload_n dX3_init_32 rfl) (all_c (ok_stk (s_iconst dX3_init_33 (by decide))) (all_c (ok_newI kw229 dX3_init_34) (all_c (okp_X3_3 kw673 dX3_init_36) (all_c (ok_vret dX3_init_39) all_n)))))))))))))))))))) n (fun h => by first | rfl | cases h))
theorem dX4_init_0 : decode cX4_init 0 = .ok (.aload_n 0, 1) := by decide +kernel
theorem dX4_init_1 : decode cX4_init 1 = .ok (.invokespecial 3, 3) := by decide +kernel
theorem dX4_init_4 : decode cX4_init 4 = .ok (.aload_n 0, 1) := by decide +kernel
theorem dX4_init_5 : decode cX4_init 5 = .ok (.new 9, 3) := by decide +kernel
theorem dX4_init_8 : decode cX4_init 8 = .ok (.dup, 1) := by decide +kernel
theorem dX4_init_9 : decode cX4_init 9 = .ok (.invokespecial 11, 3) := by decide +kernel
theorem dX4_init_12 : decode cX4_init 12 = .ok (.putfield 12, 3) := by decide +kernel
theorem dX4_init_15 : decode cX4_init 15 = .ok (.aload_n 0, 1) := by decide +kernel
theorem dX4_init_16 : decode cX4_init 16 = .ok (.new 9, 3) := by decide +kernel
theorem dX4_init_19 : decode cX4_init 19 = .ok (.dup, 1) := by decide +kernel
theorem dX4_init_20 : decode cX4_init 20 = .ok (.invokespecial 11, 3) := by decide +kernel
theorem dX4_init_23 : decode cX4_init 23 = .ok (.putfield 18, 3) := by decide +kernel
theorem dX4_init_26 : decode cX4_init 26 = .ok (.aload_n 0, 1) := by decide +kernel
theorem dX4_init_27 : decode cX4_init 27 = .ok (.bipush 6, 2) := by decide +kernel
theorem dX4_init_29 : decode cX4_init 29 = .ok (.newarray .int, 2) := by decide +kernel
theorem dX4_init_31 : decode cX4_init 31 = .ok (.putfield 21, 3) := by decide +kernel
theorem dX4_init_34 : decode cX4_init 34 = .ok (.return_, 1) := by decide +kernel
def tX4_init (kn : sKn) : List (Nat × sA) := [(0, a_aload 0 1), (1, a_obj 4), (4, a_aload 0 5), (5, a_new 9 8 [.int 0, .int 0, .int 0, .null, .null, .null, .null, .null, .null]), (8, a_stk q_dup 9), (9, a_callI true (fX8_init kn) 1 12), (12, a_put 5 0 ckR 15), (15, a_aload 0 16), (16, a_new 9 19 [.int 0, .int 0, .int 0, .null, .null, .null, .null, .null, .null]), (19, a_stk q_dup 20), (20, a_callI true (fX8_init kn) 1 23), (23, a_put 5 1 ckR 26), (26, a_aload 0 27), (27, a_stk (q_int 6) 29), (29, a_newa 1 31), (31, a_put 5 3 ckR 34), (34, a_vret)]
def fX4_init (kn : sKn) : List Value → sW → Option sR := fW (tX4_init kn) 1
set_option maxRecDepth 100000 in
set_option maxHeartbeats 4000000 in
theorem mX4_init (kn : sKn) : mM kn yX4_init (Cond.code yX4_init cX4_init 1 none :: wsL_law) 3 true (fX4_init kn) := mM_W (fun n => mM_of (own := RX4) (ini := true) rfl (by decide +kernel) (by decide +kernel) (all_c (ok_aload_n dX4_init_0 rfl) (all_c (ok_obj (by decide) kw824 kw122 kw123 dX4_init_1) (all_c (ok_aload_n dX4_init_4 rfl) (all_c (okn_X8 kw825 dX4_init_5) (all_c (ok_stk (s_dup dX4_init_8)) (all_c (okc_X8_init (by decide) kw826 dX4_init_9) (all_c (okp_X4_0 kw827 dX4_init_12) (all_c (ok_aload_n dX4_init_15 rfl) (all_c (okn_X8 kw825 dX4_init_16) (all_c (ok_stk (s_dup dX4_init_19)) (all_c (okc_X8_init (by decide) kw826 dX4_init_20) (all_c (okp_X4_1 kw828 dX4_init_23) (all_c (ok_aload_n dX4_init_26 rfl) (all_c (ok_stk (s_bipush dX4_init_27 (by decide))) (all_c (ok_newI kw229 dX4_init_29) (all_c (okp_X4_3 kw829 dX4_init_31) (all_c (ok_vret dX4_init_34) all_n))))))))))))))))) n (fun h => by first | rfl | cases h))
theorem dX5_init_0 : decode cX5_init 0 = .ok (.aload_n 0, 1) := by decide +kernel
theorem dX5_init_1 : decode cX5_init 1 = .ok (.invokespecial 3, 3) := by decide +kernel
theorem dX5_init_4 : decode cX5_init 4 = .ok (.aload_n 0, 1) := by decide +kernel
theorem dX5_init_5 : decode cX5_init 5 = .ok (.sipush 576, 3) := by decide +kernel
theorem dX5_init_8 : decode cX5_init 8 = .ok (.newarray .int, 2) := by decide +kernel
theorem dX5_init_10 : decode cX5_init 10 = .ok (.putfield 9, 3) := by decide +kernel
theorem dX5_init_13 : decode cX5_init 13 = .ok (.aload_n 0, 1) := by decide +kernel
theorem dX5_init_14 : decode cX5_init 14 = .ok (.bipush 12, 2) := by decide +kernel
theorem dX5_init_16 : decode cX5_init 16 = .ok (.newarray .int, 2) := by decide +kernel
theorem dX5_init_18 : decode cX5_init 18 = .ok (.putfield 15, 3) := by decide +kernel
theorem dX5_init_21 : decode cX5_init 21 = .ok (.aload_n 0, 1) := by decide +kernel
theorem dX5_init_22 : decode cX5_init 22 = .ok (.bipush 6, 2) := by decide +kernel
theorem dX5_init_24 : decode cX5_init 24 = .ok (.newarray .int, 2) := by decide +kernel
theorem dX5_init_26 : decode cX5_init 26 = .ok (.putfield 18, 3) := by decide +kernel
theorem dX5_init_29 : decode cX5_init 29 = .ok (.aload_n 0, 1) := by decide +kernel
theorem dX5_init_30 : decode cX5_init 30 = .ok (.iconst (-1), 1) := by decide +kernel
theorem dX5_init_31 : decode cX5_init 31 = .ok (.putfield 21, 3) := by decide +kernel
theorem dX5_init_34 : decode cX5_init 34 = .ok (.aload_n 0, 1) := by decide +kernel
theorem dX5_init_35 : decode cX5_init 35 = .ok (.iconst (-1), 1) := by decide +kernel
theorem dX5_init_36 : decode cX5_init 36 = .ok (.putfield 25, 3) := by decide +kernel
theorem dX5_init_39 : decode cX5_init 39 = .ok (.return_, 1) := by decide +kernel
def tX5_init (kn : sKn) : List (Nat × sA) := [(0, a_aload 0 1), (1, a_obj 4), (4, a_aload 0 5), (5, a_stk (q_int 576) 8), (8, a_newa 1 10), (10, a_put 6 0 ckR 13), (13, a_aload 0 14), (14, a_stk (q_int 12) 16), (16, a_newa 1 18), (18, a_put 6 1 ckR 21), (21, a_aload 0 22), (22, a_stk (q_int 6) 24), (24, a_newa 1 26), (26, a_put 6 2 ckR 29), (29, a_aload 0 30), (30, a_stk (q_int (-1)) 31), (31, a_put 6 3 ckI 34), (34, a_aload 0 35), (35, a_stk (q_int (-1)) 36), (36, a_put 6 4 ckI 39), (39, a_vret)]
def fX5_init (kn : sKn) : List Value → sW → Option sR := fW (tX5_init kn) 1
set_option maxRecDepth 100000 in
set_option maxHeartbeats 4000000 in
theorem mX5_init (kn : sKn) : mM kn yX5_init (Cond.code yX5_init cX5_init 1 none :: wsL_law) 1 true (fX5_init kn) := mM_W (fun n => mM_of (own := RX5) (ini := true) rfl (by decide +kernel) (by decide +kernel) (all_c (ok_aload_n dX5_init_0 rfl) (all_c (ok_obj (by decide) kw830 kw122 kw123 dX5_init_1) (all_c (ok_aload_n dX5_init_4 rfl) (all_c (ok_stk (s_sipush dX5_init_5 (by decide))) (all_c (ok_newI kw229 dX5_init_8) (all_c (okp_X5_0 kw747 dX5_init_10) (all_c (ok_aload_n dX5_init_13 rfl) (all_c (ok_stk (s_bipush dX5_init_14 (by decide))) (all_c (ok_newI kw229 dX5_init_16) (all_c (okp_X5_1 kw748 dX5_init_18) (all_c (ok_aload_n dX5_init_21 rfl) (all_c (ok_stk (s_bipush dX5_init_22 (by decide))) (all_c (ok_newI kw229 dX5_init_24) (all_c (okp_X5_2 kw749 dX5_init_26) (all_c (ok_aload_n dX5_init_29 rfl) (all_c (ok_stk (s_iconst dX5_init_30 (by decide))) (all_c (okp_X5_3 kw788 dX5_init_31) (all_c (ok_aload_n dX5_init_34 rfl) (all_c (ok_stk (s_iconst dX5_init_35 (by decide))) (all_c (okp_X5_4 kw793 dX5_init_36) (all_c (ok_vret dX5_init_39) all_n))))))))))))))))))))) n (fun h => by first | rfl | cases h))
theorem dX7_init_0 : decode cX7_init 0 = .ok (.aload_n 0, 1) := by decide +kernel
theorem dX7_init_1 : decode cX7_init 1 = .ok (.invokespecial 3, 3) := by decide +kernel
theorem dX7_init_4 : decode cX7_init 4 = .ok (.aload_n 0, 1) := by decide +kernel
theorem dX7_init_5 : decode cX7_init 5 = .ok (.bipush 40, 2) := by decide +kernel
theorem dX7_init_7 : decode cX7_init 7 = .ok (.newarray .int, 2) := by decide +kernel
theorem dX7_init_9 : decode cX7_init 9 = .ok (.putfield 11, 3) := by decide +kernel
theorem dX7_init_12 : decode cX7_init 12 = .ok (.aload_n 0, 1) := by decide +kernel
theorem dX7_init_13 : decode cX7_init 13 = .ok (.bipush 40, 2) := by decide +kernel
theorem dX7_init_15 : decode cX7_init 15 = .ok (.newarray .int, 2) := by decide +kernel
theorem dX7_init_17 : decode cX7_init 17 = .ok (.putfield 15, 3) := by decide +kernel
theorem dX7_init_20 : decode cX7_init 20 = .ok (.aload_n 0, 1) := by decide +kernel
theorem dX7_init_21 : decode cX7_init 21 = .ok (.bipush 40, 2) := by decide +kernel
theorem dX7_init_23 : decode cX7_init 23 = .ok (.newarray .int, 2) := by decide +kernel
theorem dX7_init_25 : decode cX7_init 25 = .ok (.putfield 18, 3) := by decide +kernel
theorem dX7_init_28 : decode cX7_init 28 = .ok (.aload_n 0, 1) := by decide +kernel
theorem dX7_init_29 : decode cX7_init 29 = .ok (.bipush 40, 2) := by decide +kernel
theorem dX7_init_31 : decode cX7_init 31 = .ok (.newarray .int, 2) := by decide +kernel
theorem dX7_init_33 : decode cX7_init 33 = .ok (.putfield 21, 3) := by decide +kernel
theorem dX7_init_36 : decode cX7_init 36 = .ok (.aload_n 0, 1) := by decide +kernel
theorem dX7_init_37 : decode cX7_init 37 = .ok (.bipush 40, 2) := by decide +kernel
theorem dX7_init_39 : decode cX7_init 39 = .ok (.newarray .int, 2) := by decide +kernel
theorem dX7_init_41 : decode cX7_init 41 = .ok (.putfield 24, 3) := by decide +kernel
theorem dX7_init_44 : decode cX7_init 44 = .ok (.return_, 1) := by decide +kernel
def tX7_init (kn : sKn) : List (Nat × sA) := [(0, a_aload 0 1), (1, a_obj 4), (4, a_aload 0 5), (5, a_stk (q_int 40) 7), (7, a_newa 1 9), (9, a_put 8 0 ckR 12), (12, a_aload 0 13), (13, a_stk (q_int 40) 15), (15, a_newa 1 17), (17, a_put 8 1 ckR 20), (20, a_aload 0 21), (21, a_stk (q_int 40) 23), (23, a_newa 1 25), (25, a_put 8 2 ckR 28), (28, a_aload 0 29), (29, a_stk (q_int 40) 31), (31, a_newa 1 33), (33, a_put 8 4 ckR 36), (36, a_aload 0 37), (37, a_stk (q_int 40) 39), (39, a_newa 1 41), (41, a_put 8 7 ckR 44), (44, a_vret)]
def fX7_init (kn : sKn) : List Value → sW → Option sR := fW (tX7_init kn) 1
set_option maxRecDepth 100000 in
set_option maxHeartbeats 4000000 in
theorem mX7_init (kn : sKn) : mM kn yX7_init (Cond.code yX7_init cX7_init 1 none :: wsL_law) 1 true (fX7_init kn) := mM_W (fun n => mM_of (own := RX7) (ini := true) rfl (by decide +kernel) (by decide +kernel) (all_c (ok_aload_n dX7_init_0 rfl) (all_c (ok_obj (by decide) kw831 kw122 kw123 dX7_init_1) (all_c (ok_aload_n dX7_init_4 rfl) (all_c (ok_stk (s_bipush dX7_init_5 (by decide))) (all_c (ok_newI kw229 dX7_init_7) (all_c (okp_X7_0 kw800 dX7_init_9) (all_c (ok_aload_n dX7_init_12 rfl) (all_c (ok_stk (s_bipush dX7_init_13 (by decide))) (all_c (ok_newI kw229 dX7_init_15) (all_c (okp_X7_1 kw802 dX7_init_17) (all_c (ok_aload_n dX7_init_20 rfl) (all_c (ok_stk (s_bipush dX7_init_21 (by decide))) (all_c (ok_newI kw229 dX7_init_23) (all_c (okp_X7_2 kw803 dX7_init_25) (all_c (ok_aload_n dX7_init_28 rfl) (all_c (ok_stk (s_bipush dX7_init_29 (by decide))) (all_c (ok_newI kw229 dX7_init_31) (all_c (okp_X7_4 kw832 dX7_init_33) (all_c (ok_aload_n dX7_init_36 rfl) (all_c (ok_stk (s_bipush dX7_init_37 (by decide))) (all_c (ok_newI kw229 dX7_init_39) (all_c (okp_X7_7 kw833 dX7_init_41) (all_c (ok_vret dX7_init_44) all_n))))))))))))))))))))))) n (fun h => by first | rfl | cases h))
theorem dX9_init_0 : decode cX9_init 0 = .ok (.aload_n 0, 1) := by decide +kernel
theorem dX9_init_1 : decode cX9_init 1 = .ok (.invokespecial 3, 3) := by decide +kernel
theorem dX9_init_4 : decode cX9_init 4 = .ok (.aload_n 0, 1) := by decide +kernel
theorem dX9_init_5 : decode cX9_init 5 = .ok (.sipush 940, 3) := by decide +kernel
theorem dX9_init_8 : decode cX9_init 8 = .ok (.newarray .int, 2) := by decide +kernel
theorem dX9_init_10 : decode cX9_init 10 = .ok (.putfield 9, 3) := by decide +kernel
theorem dX9_init_13 : decode cX9_init 13 = .ok (.return_, 1) := by decide +kernel
def tX9_init (kn : sKn) : List (Nat × sA) := [(0, a_aload 0 1), (1, a_obj 4), (4, a_aload 0 5), (5, a_stk (q_int 940) 8), (8, a_newa 1 10), (10, a_put 10 0 ckR 13), (13, a_vret)]
def fX9_init (kn : sKn) : List Value → sW → Option sR := fW (tX9_init kn) 1
set_option maxRecDepth 100000 in
set_option maxHeartbeats 4000000 in
theorem mX9_init (kn : sKn) : mM kn yX9_init (Cond.code yX9_init cX9_init 1 none :: wsL_law) 1 true (fX9_init kn) := mM_W (fun n => mM_of (own := RX9) (ini := true) rfl (by decide +kernel) (by decide +kernel) (all_c (ok_aload_n dX9_init_0 rfl) (all_c (ok_obj (by decide) kw834 kw122 kw123 dX9_init_1) (all_c (ok_aload_n dX9_init_4 rfl) (all_c (ok_stk (s_sipush dX9_init_5 (by decide))) (all_c (ok_newI kw229 dX9_init_8) (all_c (okp_X9_0 kw398 dX9_init_10) (all_c (ok_vret dX9_init_13) all_n))))))) n (fun h => by first | rfl | cases h))
theorem dX11_init_0 : decode cX11_init 0 = .ok (.aload_n 0, 1) := by decide +kernel
theorem dX11_init_1 : decode cX11_init 1 = .ok (.invokespecial 1, 3) := by decide +kernel
theorem dX11_init_4 : decode cX11_init 4 = .ok (.aload_n 0, 1) := by decide +kernel
theorem dX11_init_5 : decode cX11_init 5 = .ok (.new 7, 3) := by decide +kernel
theorem dX11_init_8 : decode cX11_init 8 = .ok (.dup, 1) := by decide +kernel
theorem dX11_init_9 : decode cX11_init 9 = .ok (.invokespecial 9, 3) := by decide +kernel
theorem dX11_init_12 : decode cX11_init 12 = .ok (.putfield 10, 3) := by decide +kernel
theorem dX11_init_15 : decode cX11_init 15 = .ok (.aload_n 0, 1) := by decide +kernel
theorem dX11_init_16 : decode cX11_init 16 = .ok (.new 16, 3) := by decide +kernel
theorem dX11_init_19 : decode cX11_init 19 = .ok (.dup, 1) := by decide +kernel
theorem dX11_init_20 : decode cX11_init 20 = .ok (.invokespecial 18, 3) := by decide +kernel
theorem dX11_init_23 : decode cX11_init 23 = .ok (.putfield 19, 3) := by decide +kernel
theorem dX11_init_26 : decode cX11_init 26 = .ok (.aload_n 0, 1) := by decide +kernel
theorem dX11_init_27 : decode cX11_init 27 = .ok (.new 23, 3) := by decide +kernel
theorem dX11_init_30 : decode cX11_init 30 = .ok (.dup, 1) := by decide +kernel
theorem dX11_init_31 : decode cX11_init 31 = .ok (.invokespecial 25, 3) := by decide +kernel
theorem dX11_init_34 : decode cX11_init 34 = .ok (.putfield 26, 3) := by decide +kernel
theorem dX11_init_37 : decode cX11_init 37 = .ok (.aload_n 0, 1) := by decide +kernel
theorem dX11_init_38 : decode cX11_init 38 = .ok (.new 30, 3) := by decide +kernel
theorem dX11_init_41 : decode cX11_init 41 = .ok (.dup, 1) := by decide +kernel
theorem dX11_init_42 : decode cX11_init 42 = .ok (.invokespecial 32, 3) := by decide +kernel
theorem dX11_init_45 : decode cX11_init 45 = .ok (.putfield 33, 3) := by decide +kernel
theorem dX11_init_48 : decode cX11_init 48 = .ok (.aload_n 0, 1) := by decide +kernel
theorem dX11_init_49 : decode cX11_init 49 = .ok (.new 37, 3) := by decide +kernel
theorem dX11_init_52 : decode cX11_init 52 = .ok (.dup, 1) := by decide +kernel
theorem dX11_init_53 : decode cX11_init 53 = .ok (.invokespecial 39, 3) := by decide +kernel
theorem dX11_init_56 : decode cX11_init 56 = .ok (.putfield 40, 3) := by decide +kernel
theorem dX11_init_59 : decode cX11_init 59 = .ok (.aload_n 0, 1) := by decide +kernel
theorem dX11_init_60 : decode cX11_init 60 = .ok (.new 37, 3) := by decide +kernel
theorem dX11_init_63 : decode cX11_init 63 = .ok (.dup, 1) := by decide +kernel
theorem dX11_init_64 : decode cX11_init 64 = .ok (.invokespecial 39, 3) := by decide +kernel
theorem dX11_init_67 : decode cX11_init 67 = .ok (.putfield 44, 3) := by decide +kernel
theorem dX11_init_70 : decode cX11_init 70 = .ok (.aload_n 0, 1) := by decide +kernel
theorem dX11_init_71 : decode cX11_init 71 = .ok (.new 47, 3) := by decide +kernel
theorem dX11_init_74 : decode cX11_init 74 = .ok (.dup, 1) := by decide +kernel
theorem dX11_init_75 : decode cX11_init 75 = .ok (.invokespecial 49, 3) := by decide +kernel
theorem dX11_init_78 : decode cX11_init 78 = .ok (.putfield 50, 3) := by decide +kernel
theorem dX11_init_81 : decode cX11_init 81 = .ok (.aload_n 0, 1) := by decide +kernel
theorem dX11_init_82 : decode cX11_init 82 = .ok (.new 54, 3) := by decide +kernel
theorem dX11_init_85 : decode cX11_init 85 = .ok (.dup, 1) := by decide +kernel
theorem dX11_init_86 : decode cX11_init 86 = .ok (.invokespecial 56, 3) := by decide +kernel
theorem dX11_init_89 : decode cX11_init 89 = .ok (.putfield 57, 3) := by decide +kernel
theorem dX11_init_92 : decode cX11_init 92 = .ok (.aload_n 0, 1) := by decide +kernel
theorem dX11_init_93 : decode cX11_init 93 = .ok (.new 61, 3) := by decide +kernel
theorem dX11_init_96 : decode cX11_init 96 = .ok (.dup, 1) := by decide +kernel
theorem dX11_init_97 : decode cX11_init 97 = .ok (.invokespecial 63, 3) := by decide +kernel
theorem dX11_init_100 : decode cX11_init 100 = .ok (.putfield 64, 3) := by decide +kernel
theorem dX11_init_103 : decode cX11_init 103 = .ok (.aload_n 0, 1) := by decide +kernel
theorem dX11_init_104 : decode cX11_init 104 = .ok (.new 68, 3) := by decide +kernel
theorem dX11_init_107 : decode cX11_init 107 = .ok (.dup, 1) := by decide +kernel
theorem dX11_init_108 : decode cX11_init 108 = .ok (.invokespecial 70, 3) := by decide +kernel
theorem dX11_init_111 : decode cX11_init 111 = .ok (.putfield 71, 3) := by decide +kernel
theorem dX11_init_114 : decode cX11_init 114 = .ok (.aload_n 0, 1) := by decide +kernel
theorem dX11_init_115 : decode cX11_init 115 = .ok (.new 75, 3) := by decide +kernel
theorem dX11_init_118 : decode cX11_init 118 = .ok (.dup, 1) := by decide +kernel
theorem dX11_init_119 : decode cX11_init 119 = .ok (.invokespecial 77, 3) := by decide +kernel
theorem dX11_init_122 : decode cX11_init 122 = .ok (.putfield 78, 3) := by decide +kernel
theorem dX11_init_125 : decode cX11_init 125 = .ok (.aload_n 0, 1) := by decide +kernel
theorem dX11_init_126 : decode cX11_init 126 = .ok (.new 82, 3) := by decide +kernel
theorem dX11_init_129 : decode cX11_init 129 = .ok (.dup, 1) := by decide +kernel
theorem dX11_init_130 : decode cX11_init 130 = .ok (.invokespecial 84, 3) := by decide +kernel
theorem dX11_init_133 : decode cX11_init 133 = .ok (.putfield 85, 3) := by decide +kernel
theorem dX11_init_136 : decode cX11_init 136 = .ok (.aload_n 0, 1) := by decide +kernel
theorem dX11_init_137 : decode cX11_init 137 = .ok (.new 89, 3) := by decide +kernel
theorem dX11_init_140 : decode cX11_init 140 = .ok (.dup, 1) := by decide +kernel
theorem dX11_init_141 : decode cX11_init 141 = .ok (.invokespecial 91, 3) := by decide +kernel
theorem dX11_init_144 : decode cX11_init 144 = .ok (.putfield 92, 3) := by decide +kernel
theorem dX11_init_147 : decode cX11_init 147 = .ok (.aload_n 0, 1) := by decide +kernel
theorem dX11_init_148 : decode cX11_init 148 = .ok (.bipush 9, 2) := by decide +kernel
theorem dX11_init_150 : decode cX11_init 150 = .ok (.anewarray 30, 3) := by decide +kernel
theorem dX11_init_153 : decode cX11_init 153 = .ok (.putfield 96, 3) := by decide +kernel
theorem dX11_init_156 : decode cX11_init 156 = .ok (.aload_n 0, 1) := by decide +kernel
theorem dX11_init_157 : decode cX11_init 157 = .ok (.iconst 2, 1) := by decide +kernel
theorem dX11_init_158 : decode cX11_init 158 = .ok (.anewarray 23, 3) := by decide +kernel
theorem dX11_init_161 : decode cX11_init 161 = .ok (.putfield 100, 3) := by decide +kernel
theorem dX11_init_164 : decode cX11_init 164 = .ok (.aload_n 0, 1) := by decide +kernel
theorem dX11_init_165 : decode cX11_init 165 = .ok (.iconst 2, 1) := by decide +kernel
theorem dX11_init_166 : decode cX11_init 166 = .ok (.anewarray 30, 3) := by decide +kernel
theorem dX11_init_169 : decode cX11_init 169 = .ok (.putfield 104, 3) := by decide +kernel
theorem dX11_init_172 : decode cX11_init 172 = .ok (.aload_n 0, 1) := by decide +kernel
theorem dX11_init_173 : decode cX11_init 173 = .ok (.iconst 2, 1) := by decide +kernel
theorem dX11_init_174 : decode cX11_init 174 = .ok (.anewarray 37, 3) := by decide +kernel
theorem dX11_init_177 : decode cX11_init 177 = .ok (.putfield 107, 3) := by decide +kernel
theorem dX11_init_180 : decode cX11_init 180 = .ok (.aload_n 0, 1) := by decide +kernel
theorem dX11_init_181 : decode cX11_init 181 = .ok (.iconst 2, 1) := by decide +kernel
theorem dX11_init_182 : decode cX11_init 182 = .ok (.newarray .boolean, 2) := by decide +kernel
theorem dX11_init_184 : decode cX11_init 184 = .ok (.putfield 111, 3) := by decide +kernel
theorem dX11_init_187 : decode cX11_init 187 = .ok (.iconst 0, 1) := by decide +kernel
theorem dX11_init_188 : decode cX11_init 188 = .ok (.istore_n 1, 1) := by decide +kernel
theorem dX11_init_189 : decode cX11_init 189 = .ok (.iload_n 1, 1) := by decide +kernel
theorem dX11_init_190 : decode cX11_init 190 = .ok (.aload_n 0, 1) := by decide +kernel
theorem dX11_init_191 : decode cX11_init 191 = .ok (.getfield 96, 3) := by decide +kernel
theorem dX11_init_194 : decode cX11_init 194 = .ok (.arraylength, 1) := by decide +kernel
theorem dX11_init_195 : decode cX11_init 195 = .ok (.if_icmp .ge 22, 3) := by decide +kernel
theorem dX11_init_198 : decode cX11_init 198 = .ok (.aload_n 0, 1) := by decide +kernel
theorem dX11_init_199 : decode cX11_init 199 = .ok (.getfield 96, 3) := by decide +kernel
theorem dX11_init_202 : decode cX11_init 202 = .ok (.iload_n 1, 1) := by decide +kernel
theorem dX11_init_203 : decode cX11_init 203 = .ok (.new 30, 3) := by decide +kernel
theorem dX11_init_206 : decode cX11_init 206 = .ok (.dup, 1) := by decide +kernel
theorem dX11_init_207 : decode cX11_init 207 = .ok (.invokespecial 32, 3) := by decide +kernel
theorem dX11_init_210 : decode cX11_init 210 = .ok (.aastore, 1) := by decide +kernel
theorem dX11_init_211 : decode cX11_init 211 = .ok (.iinc 1 1, 3) := by decide +kernel
theorem dX11_init_214 : decode cX11_init 214 = .ok (.goto (-25), 3) := by decide +kernel
theorem dX11_init_217 : decode cX11_init 217 = .ok (.iconst 0, 1) := by decide +kernel
theorem dX11_init_218 : decode cX11_init 218 = .ok (.istore_n 1, 1) := by decide +kernel
theorem dX11_init_219 : decode cX11_init 219 = .ok (.iload_n 1, 1) := by decide +kernel
theorem dX11_init_220 : decode cX11_init 220 = .ok (.iconst 2, 1) := by decide +kernel
theorem dX11_init_221 : decode cX11_init 221 = .ok (.if_icmp .ge 48, 3) := by decide +kernel
theorem dX11_init_224 : decode cX11_init 224 = .ok (.aload_n 0, 1) := by decide +kernel
theorem dX11_init_225 : decode cX11_init 225 = .ok (.getfield 100, 3) := by decide +kernel
theorem dX11_init_228 : decode cX11_init 228 = .ok (.iload_n 1, 1) := by decide +kernel
theorem dX11_init_229 : decode cX11_init 229 = .ok (.new 23, 3) := by decide +kernel
theorem dX11_init_232 : decode cX11_init 232 = .ok (.dup, 1) := by decide +kernel
theorem dX11_init_233 : decode cX11_init 233 = .ok (.invokespecial 25, 3) := by decide +kernel
theorem dX11_init_236 : decode cX11_init 236 = .ok (.aastore, 1) := by decide +kernel
theorem dX11_init_237 : decode cX11_init 237 = .ok (.aload_n 0, 1) := by decide +kernel
theorem dX11_init_238 : decode cX11_init 238 = .ok (.getfield 104, 3) := by decide +kernel
theorem dX11_init_241 : decode cX11_init 241 = .ok (.iload_n 1, 1) := by decide +kernel
theorem dX11_init_242 : decode cX11_init 242 = .ok (.new 30, 3) := by decide +kernel
theorem dX11_init_245 : decode cX11_init 245 = .ok (.dup, 1) := by decide +kernel
theorem dX11_init_246 : decode cX11_init 246 = .ok (.invokespecial 32, 3) := by decide +kernel
theorem dX11_init_249 : decode cX11_init 249 = .ok (.aastore, 1) := by decide +kernel
theorem dX11_init_250 : decode cX11_init 250 = .ok (.aload_n 0, 1) := by decide +kernel
theorem dX11_init_251 : decode cX11_init 251 = .ok (.getfield 107, 3) := by decide +kernel
theorem dX11_init_254 : decode cX11_init 254 = .ok (.iload_n 1, 1) := by decide +kernel
theorem dX11_init_255 : decode cX11_init 255 = .ok (.new 37, 3) := by decide +kernel
theorem dX11_init_258 : decode cX11_init 258 = .ok (.dup, 1) := by decide +kernel
theorem dX11_init_259 : decode cX11_init 259 = .ok (.invokespecial 39, 3) := by decide +kernel
theorem dX11_init_262 : decode cX11_init 262 = .ok (.aastore, 1) := by decide +kernel
theorem dX11_init_263 : decode cX11_init 263 = .ok (.iinc 1 1, 3) := by decide +kernel
theorem dX11_init_266 : decode cX11_init 266 = .ok (.goto (-47), 3) := by decide +kernel
theorem dX11_init_269 : decode cX11_init 269 = .ok (.return_, 1) := by decide +kernel
theorem okc_X0_init {kn : sKn} {cc : ByteArray} {own : String} {nL : Nat} {D : Nat} {ret : Option FieldType} {ini : Bool} {pc index : Nat} (hD : 3 + 1 ≤ D) (hl : Cond.methodLink own index yX0_init ∈ wsL_law) (hd : decode cc pc = .ok (.invokespecial index, 3)) : mOk kn cc own nL wsL_law D ret ini pc (a_callI true (fX0_init kn) (0 + 1) (pc + 3)) := ok_callI (mX0_init kn) (good_ws ws_good (fun _ h => h) kw857) hD (by decide) hl kw858 rfl kw152 ⟨by decide +kernel, by decide +kernel, by decide +kernel⟩ hd
theorem okc_J4_init_da8c8 {kn : sKn} {cc : ByteArray} {own : String} {nL : Nat} {D : Nat} {ret : Option FieldType} {ini : Bool} {pc index : Nat} (hD : 2 + 1 ≤ D) (hl : Cond.methodLink own index yJ4_init_da8c8 ∈ wsL_law) (hd : decode cc pc = .ok (.invokespecial index, 3)) : mOk kn cc own nL wsL_law D ret ini pc (a_callI true (fJ4_init_da8c8 kn) (0 + 1) (pc + 3)) := ok_callI (mJ4_init_da8c8 kn) (good_ws ws_good (fun _ h => h) kw870) hD (by decide) hl kw871 rfl kw652 ⟨by decide +kernel, by decide +kernel, by decide +kernel⟩ hd
def tX11_init (kn : sKn) : List (Nat × sA) := [(0, a_aload 0 1), (1, a_obj 4), (4, a_aload 0 5), (5, a_new 10 8 [.null, .int 0, .int 0, .int 0, .int 0, .int 0, .int 0, .long 0, .int 0, .long 0, .int 0, .int 0, .int 0]), (8, a_stk q_dup 9), (9, a_callI true (fX9_init kn) 1 12), (12, a_put 12 0 ckR 15), (15, a_aload 0 16), (16, a_new 3 19 [.null, .int 0, .int 0, .int 0, .int 0]), (19, a_stk q_dup 20), (20, a_callI true (fX2_init kn) 1 23), (23, a_put 12 1 ckR 26), (26, a_aload 0 27), (27, a_new 7 30 [.int 0, .int 0, .int 0, .int 0, .int 0, .int 0, .null, .null, .null, .null, .null, .null, .null, .null, .null]), (30, a_stk q_dup 31), (31, a_callI true (fX6_init kn) 1 34), (34, a_put 12 2 ckR 37), (37, a_aload 0 38), (38, a_new 9 41 [.int 0, .int 0, .int 0, .null, .null, .null, .null, .null, .null]), (41, a_stk q_dup 42), (42, a_callI true (fX8_init kn) 1 45), (45, a_put 12 3 ckR 48), (48, a_aload 0 49), (49, a_new 8 52 [.null, .null, .null, .int 0, .null, .int 0, .int 0, .null, .int 0]), (52, a_stk q_dup 53), (53, a_callI true (fX7_init kn) 1 56), (56, a_put 12 4 ckR 59), (59, a_aload 0 60), (60, a_new 8 63 [.null, .null, .null, .int 0, .null, .int 0, .int 0, .null, .int 0]), (63, a_stk q_dup 64), (64, a_callI true (fX7_init kn) 1 67), (67, a_put 12 5 ckR 70), (70, a_aload 0 71), (71, a_new 2 74 [.null, .null, .null, .null, .int 0, .null]), (74, a_stk q_dup 75), (75, a_callI true (fX1_init kn) 1 78), (78, a_put 12 6 ckR 81), (81, a_aload 0 82), (82, a_new 11 85 [.null, .null, .null, .null]), (85, a_stk q_dup 86), (86, a_callI true (fX10_init kn) 1 89), (89, a_put 12 7 ckR 92), (92, a_aload 0 93), (93, a_new 1 96 [.null, .null, .null, .null, .null]), (96, a_stk q_dup 97), (97, a_callI true (fX0_init kn) 1 100), (100, a_put 12 8 ckR 103), (103, a_aload 0 104), (104, a_new 4 107 [.null, .null, .null, .null, .int 0]), (107, a_stk q_dup 108), (108, a_callI true (fX3_init kn) 1 111), (111, a_put 12 9 ckR 114), (114, a_aload 0 115), (115, a_new 6 118 [.null, .null, .null, .int 0, .int 0]), (118, a_stk q_dup 119), (119, a_callI true (fX5_init kn) 1 122), (122, a_put 12 10 ckR 125), (125, a_aload 0 126), (126, a_new 5 129 [.null, .null, .int 0, .null, .int 0]), (129, a_stk q_dup 130), (130, a_callI true (fX4_init kn) 1 133), (133, a_put 12 11 ckR 136), (136, a_aload 0 137), (137, a_new 0 140 [.null, .int 0, .int 0, .int 0]), (140, a_stk q_dup 141), (141, a_callI true (fJ4_init_da8c8 kn) 1 144), (144, a_put 12 12 ckR 147), (147, a_aload 0 148), (148, a_stk (q_int 9) 150), (150, a_newa 6 153), (153, a_put 12 13 ckR 156), (156, a_aload 0 157), (157, a_stk (q_int 2) 158), (158, a_newa 4 161), (161, a_put 12 16 ckR 164), (164, a_aload 0 165), (165, a_stk (q_int 2) 166), (166, a_newa 6 169), (169, a_put 12 17 ckR 172), (172, a_aload 0 173), (173, a_stk (q_int 2) 174), (174, a_newa 5 177), (177, a_put 12 18 ckR 180), (180, a_aload 0 181), (181, a_stk (q_int 2) 182), (182, a_newa 3 184), (184, a_put 12 19 ckR 187), (187, a_stk (q_int 0) 188), (188, a_istore 1 189), (189, a_iload 1 190), (190, a_aload 0 191), (191, a_get 12 13 194), (194, a_alen 195), (195, a_icmp kn b_ge 3 217 198), (198, a_aload 0 199), (199, a_get 12 13 202), (202, a_iload 1 203), (203, a_new 9 206 [.int 0, .int 0, .int 0, .null, .null, .null, .null, .null, .null]), (206, a_stk q_dup 207), (207, a_callI true (fX8_init kn) 1 210), (210, a_aast 211), (211, a_iinc 1 1 214), (214, a_goto 189), (217, a_stk (q_int 0) 218), (218, a_istore 1 219), (219, a_iload 1 220), (220, a_stk (q_int 2) 221), (221, a_icmp kn b_ge 3 269 224), (224, a_aload 0 225), (225, a_get 12 16 228), (228, a_iload 1 229), (229, a_new 7 232 [.int 0, .int 0, .int 0, .int 0, .int 0, .int 0, .null, .null, .null, .null, .null, .null, .null, .null, .null]), (232, a_stk q_dup 233), (233, a_callI true (fX6_init kn) 1 236), (236, a_aast 237), (237, a_aload 0 238), (238, a_get 12 17 241), (241, a_iload 1 242), (242, a_new 9 245 [.int 0, .int 0, .int 0, .null, .null, .null, .null, .null, .null]), (245, a_stk q_dup 246), (246, a_callI true (fX8_init kn) 1 249), (249, a_aast 250), (250, a_aload 0 251), (251, a_get 12 18 254), (254, a_iload 1 255), (255, a_new 8 258 [.null, .null, .null, .int 0, .null, .int 0, .int 0, .null, .int 0]), (258, a_stk q_dup 259), (259, a_callI true (fX7_init kn) 1 262), (262, a_aast 263), (263, a_iinc 1 1 266), (266, a_goto 219), (269, a_vret)]
def fX11_init (kn : sKn) : List Value → sW → Option sR := fW (tX11_init kn) 2
set_option maxRecDepth 100000 in
set_option maxHeartbeats 4000000 in
theorem mX11_init (kn : sKn) : mM kn yX11_init (Cond.code yX11_init cX11_init 2 none :: wsL_law) 5 true (fX11_init kn) := mM_W (fun n => mM_of (own := RX11) (ini := true) rfl (by decide +kernel) (by decide +kernel) (all_c (ok_aload_n dX11_init_0 rfl) (all_c (ok_obj (by decide) kw835 kw122 kw123 dX11_init_1) (all_c (ok_aload_n dX11_init_4 rfl) (all_c (okn_X9 kw836 dX11_init_5) (all_c (ok_stk (s_dup dX11_init_8)) (all_c (ok_callIN (mX9_init kn) (good_ws ws_good (fun _ h => h) kw837) (by decide) (by decide) (by decide +kernel) rfl kw838 rfl kw392 ⟨by decide +kernel, by decide +kernel, by decide +kernel⟩ dX11_init_9) (all_c (okp_X11_0 kw496 dX11_init_12) (all_c (ok_aload_n dX11_init_15 rfl) (all_c (okn_X2 kw839 dX11_init_16) (all_c (ok_stk (s_dup dX11_init_19)) (all_c (ok_callIN (mX2_init kn) (good_ws ws_good (fun _ h => h) kw840) (by decide) (by decide) (by decide +kernel) rfl kw841 rfl kw572 ⟨by decide +kernel, by decide +kernel, by decide +kernel⟩ dX11_init_20) (all_c (okp_X11_1 kw628 dX11_init_23) (all_c (ok_aload_n dX11_init_26 rfl) (all_c (okn_X6 kw842 dX11_init_27) (all_c (ok_stk (s_dup dX11_init_30)) (all_c (okc_X6_init (by decide) kw843 dX11_init_31) (all_c (okp_X11_2 kw291 dX11_init_34) (all_c (ok_aload_n dX11_init_37 rfl) (all_c (okn_X8 kw844 dX11_init_38) (all_c (ok_stk (s_dup dX11_init_41)) (all_c (okc_X8_init (by decide) kw845 dX11_init_42) (all_c (okp_X11_3 kw292 dX11_init_45) (all_c (ok_aload_n dX11_init_48 rfl) (all_c (okn_X7 kw846 dX11_init_49) (all_c (ok_stk (s_dup dX11_init_52)) (all_c (ok_callIN (mX7_init kn) (good_ws ws_good (fun _ h => h) kw847) (by decide) (by decide) (by decide +kernel) rfl kw848 rfl kw644 ⟨by decide +kernel, by decide +kernel, by decide +kernel⟩ dX11_init_53) (all_c (okp_X11_4 kw642 dX11_init_56) (all_c (ok_aload_n dX11_init_59 rfl) (all_c (okn_X7 kw846 dX11_init_60) (all_c (ok_stk (s_dup dX11_init_63)) (all_c (ok_callIN (mX7_init kn) (good_ws ws_good (fun _ h => h) kw847) (by decide) (by decide) (by decide +kernel) rfl kw848 rfl kw644 ⟨by decide +kernel, by decide +kernel, by decide +kernel⟩ dX11_init_64) (all_c (okp_X11_5 kw849 dX11_init_67) (all_c (ok_aload_n dX11_init_70 rfl) (all_c (okn_X1 kw850 dX11_init_71) (all_c (ok_stk (s_dup dX11_init_74)) (all_c (ok_callIN (mX1_init kn) (good_ws ws_good (fun _ h => h) kw851) (by decide) (by decide) (by decide +kernel) rfl kw852 rfl kw358 ⟨by decide +kernel, by decide +kernel, by decide +kernel⟩ dX11_init_75) (all_c (okp_X11_6 kw495 dX11_init_78) (all_c (ok_aload_n dX11_init_81 rfl) (all_c (okn_X10 kw853 dX11_init_82) (all_c (ok_stk (s_dup dX11_init_85)) (all_c (ok_callIN (mX10_init kn) (good_ws ws_good (fun _ h => h) kw854) (by decide) (by decide) (by decide +kernel) rfl kw855 rfl kw170 ⟨by decide +kernel, by decide +kernel, by decide +kernel⟩ dX11_init_86) (all_c (okp_X11_7 kw290 dX11_init_89) (all_c (ok_aload_n dX11_init_92 rfl) (all_c (okn_X0 kw856 dX11_init_93) (all_c (ok_stk (s_dup dX11_init_96)) (all_c (okc_X0_init (by decide) kw859 dX11_init_97) (all_c (okp_X11_8 kw311 dX11_init_100) (all_c (ok_aload_n dX11_init_103 rfl) (all_c (okn_X3 kw860 dX11_init_104) (all_c (ok_stk (s_dup dX11_init_107)) (all_c (ok_callIN (mX3_init kn) (good_ws ws_good (fun _ h => h) kw861) (by decide) (by decide) (by decide +kernel) rfl kw862 rfl kw667 ⟨by decide +kernel, by decide +kernel, by decide +kernel⟩ dX11_init_108) (all_c (okp_X11_9 kw704 dX11_init_111) (all_c (ok_aload_n dX11_init_114 rfl) (all_c (okn_X5 kw863 dX11_init_115) (all_c (ok_stk (s_dup dX11_init_118)) (all_c (ok_callIN (mX5_init kn) (good_ws ws_good (fun _ h => h) kw864) (by decide) (by decide) (by decide +kernel) rfl kw865 rfl kw762 ⟨by decide +kernel, by decide +kernel, by decide +kernel⟩ dX11_init_119) (all_c (okp_X11_10 kw794 dX11_init_122) (all_c (ok_aload_n dX11_init_125 rfl) (all_c (okn_X4 kw866 dX11_init_126) (all_c (ok_stk (s_dup dX11_init_129)) (all_c (ok_callIN (mX4_init kn) (good_ws ws_good (fun _ h => h) kw867) (by decide) (by decide) (by decide +kernel) rfl kw868 rfl kw716 ⟨by decide +kernel, by decide +kernel, by decide +kernel⟩ dX11_init_130) (all_c (okp_X11_11 kw735 dX11_init_133) (all_c (ok_aload_n dX11_init_136 rfl) (all_c (okn_J4 kw869 dX11_init_137) (all_c (ok_stk (s_dup dX11_init_140)) (all_c (okc_J4_init_da8c8 (by decide) kw872 dX11_init_141) (all_c (okp_X11_12 kw650 dX11_init_144) (all_c (ok_aload_n dX11_init_147 rfl) (all_c (ok_stk (s_bipush dX11_init_148 (by decide))) (all_c (ok_newq (by decide) (fun _ => rfl) (fun _ h => h.2.2) kw844 dX11_init_150) (all_c (okp_X11_13 kw325 dX11_init_153) (all_c (ok_aload_n dX11_init_156 rfl) (all_c (ok_stk (s_iconst dX11_init_157 (by decide))) (all_c (ok_newq (by decide) (fun _ => rfl) (fun _ h => h.1) kw842 dX11_init_158) (all_c (okp_X11_16 kw804 dX11_init_161) (all_c (ok_aload_n dX11_init_164 rfl) (all_c (ok_stk (s_iconst dX11_init_165 (by decide))) (all_c (ok_newq (by decide) (fun _ => rfl) (fun _ h => h.2.2) kw844 dX11_init_166) (all_c (okp_X11_17 kw805 dX11_init_169) (all_c (ok_aload_n dX11_init_172 rfl) (all_c (ok_stk (s_iconst dX11_init_173 (by decide))) (all_c (ok_newq (by decide) (fun _ => rfl) (fun _ h => h.2.1) kw846 dX11_init_174) (all_c (okp_X11_18 kw806 dX11_init_177) (all_c (ok_aload_n dX11_init_180 rfl) (all_c (ok_stk (s_iconst dX11_init_181 (by decide))) (all_c (ok_newZ kw873 dX11_init_182) (all_c (okp_X11_19 kw811 dX11_init_184) (all_c (ok_stk (s_iconst dX11_init_187 (by decide))) (all_c (ok_istore_n dX11_init_188 rfl (by decide)) (all_c (ok_iload_n dX11_init_189 rfl) (all_c (ok_aload_n dX11_init_190 rfl) (all_c (okg_X11_13 kw325 dX11_init_191) (all_c (ok_alen dX11_init_194) (all_c (ok_icmp_ge dX11_init_195 (by decide)) (all_c (ok_aload_n dX11_init_198 rfl) (all_c (okg_X11_13 kw325 dX11_init_199) (all_c (ok_iload_n dX11_init_202 rfl) (all_c (okn_X8 kw844 dX11_init_203) (all_c (ok_stk (s_dup dX11_init_206)) (all_c (okc_X8_init (by decide) kw845 dX11_init_207) (all_c (ok_aast dX11_init_210) (all_c (ok_iinc dX11_init_211 (by decide) (by decide)) (all_c (ok_goto dX11_init_214 (by decide)) (all_c (ok_stk (s_iconst dX11_init_217 (by decide))) (all_c (ok_istore_n dX11_init_218 rfl (by decide)) (all_c (ok_iload_n dX11_init_219 rfl) (all_c (ok_stk (s_iconst dX11_init_220 (by decide))) (all_c (ok_icmp_ge dX11_init_221 (by decide)) (all_c (ok_aload_n dX11_init_224 rfl) (all_c (okg_X11_16 kw804 dX11_init_225) (all_c (ok_iload_n dX11_init_228 rfl) (all_c (okn_X6 kw842 dX11_init_229) (all_c (ok_stk (s_dup dX11_init_232)) (all_c (okc_X6_init (by decide) kw843 dX11_init_233) (all_c (ok_aast dX11_init_236) (all_c (ok_aload_n dX11_init_237 rfl) (all_c (okg_X11_17 kw805 dX11_init_238) (all_c (ok_iload_n dX11_init_241 rfl) (all_c (okn_X8 kw844 dX11_init_242) (all_c (ok_stk (s_dup dX11_init_245)) (all_c (okc_X8_init (by decide) kw845 dX11_init_246) (all_c (ok_aast dX11_init_249) (all_c (ok_aload_n dX11_init_250 rfl) (all_c (okg_X11_18 kw806 dX11_init_251) (all_c (ok_iload_n dX11_init_254 rfl) (all_c (okn_X7 kw846 dX11_init_255) (all_c (ok_stk (s_dup dX11_init_258)) (all_c (ok_callIN (mX7_init kn) (good_ws ws_good (fun _ h => h) kw847) (by decide) (by decide) (by decide +kernel) rfl kw848 rfl kw644 ⟨by decide +kernel, by decide +kernel, by decide +kernel⟩ dX11_init_259) (all_c (ok_aast dX11_init_262) (all_c (ok_iinc dX11_init_263 (by decide) (by decide)) (all_c (ok_goto dX11_init_266 (by decide)) (all_c (ok_vret dX11_init_269) all_n)))))))))))))))))))))))))))))))))))))))))))))))))))))))))))))))))))))))))))))))))))))))))))))))))))))))))))))))))))))))))))))))))))) n (fun h => by first | rfl | cases h))
theorem dX4_findKeystone_0 : decode cX4_findKeystone 0 = .ok (.bipush 7, 2) := by decide +kernel
theorem dX4_findKeystone_2 : decode cX4_findKeystone 2 = .ok (.istore 4, 2) := by decide +kernel
theorem dX4_findKeystone_4 : decode cX4_findKeystone 4 = .ok (.iconst (-1), 1) := by decide +kernel
theorem dX4_findKeystone_5 : decode cX4_findKeystone 5 = .ok (.istore 5, 2) := by decide +kernel
theorem dX4_findKeystone_7 : decode cX4_findKeystone 7 = .ok (.iconst 0, 1) := by decide +kernel
theorem dX4_findKeystone_8 : decode cX4_findKeystone 8 = .ok (.istore 6, 2) := by decide +kernel
theorem dX4_findKeystone_10 : decode cX4_findKeystone 10 = .ok (.iload 6, 2) := by decide +kernel
theorem dX4_findKeystone_12 : decode cX4_findKeystone 12 = .ok (.aload_n 1, 1) := by decide +kernel
theorem dX4_findKeystone_13 : decode cX4_findKeystone 13 = .ok (.getfield 25, 3) := by decide +kernel
theorem dX4_findKeystone_16 : decode cX4_findKeystone 16 = .ok (.if_icmp .ge 86, 3) := by decide +kernel
theorem dX4_findKeystone_19 : decode cX4_findKeystone 19 = .ok (.aload_n 0, 1) := by decide +kernel
theorem dX4_findKeystone_20 : decode cX4_findKeystone 20 = .ok (.getfield 12, 3) := by decide +kernel
theorem dX4_findKeystone_23 : decode cX4_findKeystone 23 = .ok (.aload_n 2, 1) := by decide +kernel
theorem dX4_findKeystone_24 : decode cX4_findKeystone 24 = .ok (.invokevirtual 31, 3) := by decide +kernel
theorem dX4_findKeystone_27 : decode cX4_findKeystone 27 = .ok (.iconst 0, 1) := by decide +kernel
theorem dX4_findKeystone_28 : decode cX4_findKeystone 28 = .ok (.istore 7, 2) := by decide +kernel
theorem dX4_findKeystone_30 : decode cX4_findKeystone 30 = .ok (.iload 7, 2) := by decide +kernel
theorem dX4_findKeystone_32 : decode cX4_findKeystone 32 = .ok (.bipush 36, 2) := by decide +kernel
theorem dX4_findKeystone_34 : decode cX4_findKeystone 34 = .ok (.if_icmp .ge 33, 3) := by decide +kernel
theorem dX4_findKeystone_37 : decode cX4_findKeystone 37 = .ok (.aload_n 0, 1) := by decide +kernel
theorem dX4_findKeystone_38 : decode cX4_findKeystone 38 = .ok (.getfield 12, 3) := by decide +kernel
theorem dX4_findKeystone_41 : decode cX4_findKeystone 41 = .ok (.getfield 35, 3) := by decide +kernel
theorem dX4_findKeystone_44 : decode cX4_findKeystone 44 = .ok (.iload 7, 2) := by decide +kernel
theorem dX4_findKeystone_46 : decode cX4_findKeystone 46 = .ok (.iaload, 1) := by decide +kernel
theorem dX4_findKeystone_47 : decode cX4_findKeystone 47 = .ok (.iload 6, 2) := by decide +kernel
theorem dX4_findKeystone_49 : decode cX4_findKeystone 49 = .ok (.if_icmp .ne 12, 3) := by decide +kernel
theorem dX4_findKeystone_52 : decode cX4_findKeystone 52 = .ok (.aload_n 0, 1) := by decide +kernel
theorem dX4_findKeystone_53 : decode cX4_findKeystone 53 = .ok (.getfield 12, 3) := by decide +kernel
theorem dX4_findKeystone_56 : decode cX4_findKeystone 56 = .ok (.iload 7, 2) := by decide +kernel
theorem dX4_findKeystone_58 : decode cX4_findKeystone 58 = .ok (.invokevirtual 38, 3) := by decide +kernel
theorem dX4_findKeystone_61 : decode cX4_findKeystone 61 = .ok (.iinc 7 1, 3) := by decide +kernel
theorem dX4_findKeystone_64 : decode cX4_findKeystone 64 = .ok (.goto (-34), 3) := by decide +kernel
theorem dX4_findKeystone_67 : decode cX4_findKeystone 67 = .ok (.aload_n 3, 1) := by decide +kernel
theorem dX4_findKeystone_68 : decode cX4_findKeystone 68 = .ok (.aload_n 1, 1) := by decide +kernel
theorem dX4_findKeystone_69 : decode cX4_findKeystone 69 = .ok (.aload_n 0, 1) := by decide +kernel
theorem dX4_findKeystone_70 : decode cX4_findKeystone 70 = .ok (.getfield 12, 3) := by decide +kernel
theorem dX4_findKeystone_73 : decode cX4_findKeystone 73 = .ok (.invokevirtual 42, 3) := by decide +kernel
theorem dX4_findKeystone_76 : decode cX4_findKeystone 76 = .ok (.invokestatic 48, 3) := by decide +kernel
theorem dX4_findKeystone_79 : decode cX4_findKeystone 79 = .ok (.istore 7, 2) := by decide +kernel
theorem dX4_findKeystone_81 : decode cX4_findKeystone 81 = .ok (.iload 7, 2) := by decide +kernel
theorem dX4_findKeystone_83 : decode cX4_findKeystone 83 = .ok (.iload 4, 2) := by decide +kernel
theorem dX4_findKeystone_85 : decode cX4_findKeystone 85 = .ok (.if_icmp .ge 11, 3) := by decide +kernel
theorem dX4_findKeystone_88 : decode cX4_findKeystone 88 = .ok (.iload 7, 2) := by decide +kernel
theorem dX4_findKeystone_90 : decode cX4_findKeystone 90 = .ok (.istore 4, 2) := by decide +kernel
theorem dX4_findKeystone_92 : decode cX4_findKeystone 92 = .ok (.iload 6, 2) := by decide +kernel
theorem dX4_findKeystone_94 : decode cX4_findKeystone 94 = .ok (.istore 5, 2) := by decide +kernel
theorem dX4_findKeystone_96 : decode cX4_findKeystone 96 = .ok (.iinc 6 1, 3) := by decide +kernel
theorem dX4_findKeystone_99 : decode cX4_findKeystone 99 = .ok (.goto (-89), 3) := by decide +kernel
theorem dX4_findKeystone_102 : decode cX4_findKeystone 102 = .ok (.iload 5, 2) := by decide +kernel
theorem dX4_findKeystone_104 : decode cX4_findKeystone 104 = .ok (.ireturn, 1) := by decide +kernel
def tX4_findKeystone (kn : sKn) : List (Nat × sA) := [(0, a_stk (q_int 7) 2), (2, a_istore 4 4), (4, a_stk (q_int (-1)) 5), (5, a_istore 5 7), (7, a_stk (q_int 0) 8), (8, a_istore 6 10), (10, a_iload 6 12), (12, a_aload 1 13), (13, a_get 7 2 16), (16, a_icmp kn b_ge 3 102 19), (19, a_aload 0 20), (20, a_get 5 0 23), (23, a_aload 2 24), (24, a_callV true (fX8_copyOf kn) 9 2 27), (27, a_stk (q_int 0) 28), (28, a_istore 7 30), (30, a_iload 7 32), (32, a_stk (q_int 36) 34), (34, a_icmp kn b_ge 3 67 37), (37, a_aload 0 38), (38, a_get 5 0 41), (41, a_get 9 6 44), (44, a_iload 7 46), (46, a_iald 47), (47, a_iload 6 49), (49, a_icmp kn b_ne 1 61 52), (52, a_aload 0 53), (53, a_get 5 0 56), (56, a_iload 7 58), (58, a_callV true (fX8_makeGap kn) 9 2 61), (61, a_iinc 7 1 64), (64, a_goto 30), (67, a_aload 3 68), (68, a_aload 1 69), (69, a_aload 0 70), (70, a_get 5 0 73), (73, a_callV false (fX10_ableLoads kn) 11 3 76), (76, a_callS false (fJ6_bitCount_0f7a4 kn) 1 79), (79, a_istore 7 81), (81, a_iload 7 83), (83, a_iload 4 85), (85, a_icmp kn b_ge 3 96 88), (88, a_iload 7 90), (90, a_istore 4 92), (92, a_iload 6 94), (94, a_istore 5 96), (96, a_iinc 6 1 99), (99, a_goto 10), (102, a_iload 5 104), (104, a_iret)]
def fX4_findKeystone (kn : sKn) : List Value → sW → Option sR := fW (tX4_findKeystone kn) 8
set_option maxRecDepth 100000 in
set_option maxHeartbeats 4000000 in
theorem mX4_findKeystone (kn : sKn) : mM kn yX4_findKeystone (Cond.code yX4_findKeystone cX4_findKeystone 8 (some .int) :: wsL_law) 5 false (fX4_findKeystone kn) := mM_W (fun n => mM_of (own := RX4) (ini := false) rfl (by decide +kernel) (by decide +kernel) (all_c (ok_stk (s_bipush dX4_findKeystone_0 (by decide))) (all_c (ok_istore dX4_findKeystone_2 (by decide)) (all_c (ok_stk (s_iconst dX4_findKeystone_4 (by decide))) (all_c (ok_istore dX4_findKeystone_5 (by decide)) (all_c (ok_stk (s_iconst dX4_findKeystone_7 (by decide))) (all_c (ok_istore dX4_findKeystone_8 (by decide)) (all_c (ok_iload dX4_findKeystone_10) (all_c (ok_aload_n dX4_findKeystone_12 rfl) (all_c (okg_X6_2 kw726 dX4_findKeystone_13) (all_c (ok_icmp_ge dX4_findKeystone_16 (by decide)) (all_c (ok_aload_n dX4_findKeystone_19 rfl) (all_c (okg_X4_0 kw827 dX4_findKeystone_20) (all_c (ok_aload_n dX4_findKeystone_23 rfl) (all_c (okc_X8_copyOf (by decide) kw874 dX4_findKeystone_24) (all_c (ok_stk (s_iconst dX4_findKeystone_27 (by decide))) (all_c (ok_istore dX4_findKeystone_28 (by decide)) (all_c (ok_iload dX4_findKeystone_30) (all_c (ok_stk (s_bipush dX4_findKeystone_32 (by decide))) (all_c (ok_icmp_ge dX4_findKeystone_34 (by decide)) (all_c (ok_aload_n dX4_findKeystone_37 rfl) (all_c (okg_X4_0 kw827 dX4_findKeystone_38) (all_c (okg_X8_6 kw875 dX4_findKeystone_41) (all_c (ok_iload dX4_findKeystone_44) (all_c (ok_iald dX4_findKeystone_46) (all_c (ok_iload dX4_findKeystone_47) (all_c (ok_icmp_ne dX4_findKeystone_49 (by decide)) (all_c (ok_aload_n dX4_findKeystone_52 rfl) (all_c (okg_X4_0 kw827 dX4_findKeystone_53) (all_c (ok_iload dX4_findKeystone_56) (all_c (okc_X8_makeGap (by decide) kw876 dX4_findKeystone_58) (all_c (ok_iinc dX4_findKeystone_61 (by decide) (by decide)) (all_c (ok_goto dX4_findKeystone_64 (by decide)) (all_c (ok_aload_n dX4_findKeystone_67 rfl) (all_c (ok_aload_n dX4_findKeystone_68 rfl) (all_c (ok_aload_n dX4_findKeystone_69 rfl) (all_c (okg_X4_0 kw827 dX4_findKeystone_70) (all_c (okc_X10_ableLoads (by decide) kw877 dX4_findKeystone_73) (all_c (okc_J6_bitCount_0f7a4 (by decide) kw878 dX4_findKeystone_76) (all_c (ok_istore dX4_findKeystone_79 (by decide)) (all_c (ok_iload dX4_findKeystone_81) (all_c (ok_iload dX4_findKeystone_83) (all_c (ok_icmp_ge dX4_findKeystone_85 (by decide)) (all_c (ok_iload dX4_findKeystone_88) (all_c (ok_istore dX4_findKeystone_90 (by decide)) (all_c (ok_iload dX4_findKeystone_92) (all_c (ok_istore dX4_findKeystone_94 (by decide)) (all_c (ok_iinc dX4_findKeystone_96 (by decide) (by decide)) (all_c (ok_goto dX4_findKeystone_99 (by decide)) (all_c (ok_iload dX4_findKeystone_102) (all_c (ok_iret dX4_findKeystone_104) all_n)))))))))))))))))))))))))))))))))))))))))))))))))) n (fun h => by first | rfl | cases h))
theorem dX11_keystone_0 : decode cX11_keystone 0 = .ok (.aload_n 0, 1) := by decide +kernel
theorem dX11_keystone_1 : decode cX11_keystone 1 = .ok (.getfield 85, 3) := by decide +kernel
theorem dX11_keystone_4 : decode cX11_keystone 4 = .ok (.aload_n 0, 1) := by decide +kernel
theorem dX11_keystone_5 : decode cX11_keystone 5 = .ok (.getfield 26, 3) := by decide +kernel
theorem dX11_keystone_8 : decode cX11_keystone 8 = .ok (.aload_n 0, 1) := by decide +kernel
theorem dX11_keystone_9 : decode cX11_keystone 9 = .ok (.getfield 33, 3) := by decide +kernel
theorem dX11_keystone_12 : decode cX11_keystone 12 = .ok (.aload_n 0, 1) := by decide +kernel
theorem dX11_keystone_13 : decode cX11_keystone 13 = .ok (.getfield 57, 3) := by decide +kernel
theorem dX11_keystone_16 : decode cX11_keystone 16 = .ok (.invokevirtual 294, 3) := by decide +kernel
theorem dX11_keystone_19 : decode cX11_keystone 19 = .ok (.ireturn, 1) := by decide +kernel
theorem okc_X4_findKeystone {kn : sKn} {cc : ByteArray} {own : String} {nL : Nat} {D : Nat} {ret : Option FieldType} {ini : Bool} {pc index : Nat} (hD : 5 + 1 ≤ D) (hl : Cond.methodLink own index yX4_findKeystone ∈ wsL_law) (hd : decode cc pc = .ok (.invokevirtual index, 3)) : mOk kn cc own nL wsL_law D ret ini pc (a_callV false (fX4_findKeystone kn) 5 (3 + 1) (pc + 3)) := ok_callV (mX4_findKeystone kn) (good_ws ws_good (fun _ h => h) kw879) hD (by decide) hl kw880 kw881 kw716 ⟨by decide +kernel, by decide +kernel, by decide +kernel⟩ rfl hd
def tX11_keystone (kn : sKn) : List (Nat × sA) := [(0, a_aload 0 1), (1, a_get 12 11 4), (4, a_aload 0 5), (5, a_get 12 2 8), (8, a_aload 0 9), (9, a_get 12 3 12), (12, a_aload 0 13), (13, a_get 12 7 16), (16, a_callV false (fX4_findKeystone kn) 5 4 19), (19, a_iret)]
def fX11_keystone (kn : sKn) : List Value → sW → Option sR := fW (tX11_keystone kn) 1
set_option maxRecDepth 100000 in
set_option maxHeartbeats 4000000 in
theorem mX11_keystone (kn : sKn) : mM kn yX11_keystone (Cond.code yX11_keystone cX11_keystone 1 (some .int) :: wsL_law) 6 false (fX11_keystone kn) := mM_W (fun n => mM_of (own := RX11) (ini := false) rfl (by decide +kernel) (by decide +kernel) (all_c (ok_aload_n dX11_keystone_0 rfl) (all_c (okg_X11_11 kw735 dX11_keystone_1) (all_c (ok_aload_n dX11_keystone_4 rfl) (all_c (okg_X11_2 kw291 dX11_keystone_5) (all_c (ok_aload_n dX11_keystone_8 rfl) (all_c (okg_X11_3 kw292 dX11_keystone_9) (all_c (ok_aload_n dX11_keystone_12 rfl) (all_c (okg_X11_7 kw290 dX11_keystone_13) (all_c (okc_X4_findKeystone (by decide) kw882 dX11_keystone_16) (all_c (ok_iret dX11_keystone_19) all_n)))))))))) n (fun h => by first | rfl | cases h))
theorem dX4_findLast_0 : decode cX4_findLast 0 = .ok (.aload_n 0, 1) := by decide +kernel
theorem dX4_findLast_1 : decode cX4_findLast 1 = .ok (.getfield 12, 3) := by decide +kernel
theorem dX4_findLast_4 : decode cX4_findLast 4 = .ok (.aload_n 2, 1) := by decide +kernel
theorem dX4_findLast_5 : decode cX4_findLast 5 = .ok (.invokevirtual 31, 3) := by decide +kernel
theorem dX4_findLast_8 : decode cX4_findLast 8 = .ok (.iconst 1, 1) := by decide +kernel
theorem dX4_findLast_9 : decode cX4_findLast 9 = .ok (.istore 5, 2) := by decide +kernel
theorem dX4_findLast_11 : decode cX4_findLast 11 = .ok (.iconst 0, 1) := by decide +kernel
theorem dX4_findLast_12 : decode cX4_findLast 12 = .ok (.istore 6, 2) := by decide +kernel
theorem dX4_findLast_14 : decode cX4_findLast 14 = .ok (.iload 6, 2) := by decide +kernel
theorem dX4_findLast_16 : decode cX4_findLast 16 = .ok (.sipush 200, 3) := by decide +kernel
theorem dX4_findLast_19 : decode cX4_findLast 19 = .ok (.if_icmp .gt 50, 3) := by decide +kernel
theorem dX4_findLast_22 : decode cX4_findLast 22 = .ok (.iload 5, 2) := by decide +kernel
theorem dX4_findLast_24 : decode cX4_findLast 24 = .ok (.ifCond .eq 25, 3) := by decide +kernel
theorem dX4_findLast_27 : decode cX4_findLast 27 = .ok (.aload_n 3, 1) := by decide +kernel
theorem dX4_findLast_28 : decode cX4_findLast 28 = .ok (.aload_n 1, 1) := by decide +kernel
theorem dX4_findLast_29 : decode cX4_findLast 29 = .ok (.aload_n 0, 1) := by decide +kernel
theorem dX4_findLast_30 : decode cX4_findLast 30 = .ok (.getfield 12, 3) := by decide +kernel
theorem dX4_findLast_33 : decode cX4_findLast 33 = .ok (.iload 4, 2) := by decide +kernel
theorem dX4_findLast_35 : decode cX4_findLast 35 = .ok (.invokevirtual 71, 3) := by decide +kernel
theorem dX4_findLast_38 : decode cX4_findLast 38 = .ok (.ifCond .ne 11, 3) := by decide +kernel
theorem dX4_findLast_41 : decode cX4_findLast 41 = .ok (.aload_n 0, 1) := by decide +kernel
theorem dX4_findLast_42 : decode cX4_findLast 42 = .ok (.getfield 12, 3) := by decide +kernel
theorem dX4_findLast_45 : decode cX4_findLast 45 = .ok (.getfield 79, 3) := by decide +kernel
theorem dX4_findLast_48 : decode cX4_findLast 48 = .ok (.ireturn, 1) := by decide +kernel
theorem dX4_findLast_49 : decode cX4_findLast 49 = .ok (.aload_n 0, 1) := by decide +kernel
theorem dX4_findLast_50 : decode cX4_findLast 50 = .ok (.getfield 12, 3) := by decide +kernel
theorem dX4_findLast_53 : decode cX4_findLast 53 = .ok (.aload_n 1, 1) := by decide +kernel
theorem dX4_findLast_54 : decode cX4_findLast 54 = .ok (.aload_n 1, 1) := by decide +kernel
theorem dX4_findLast_55 : decode cX4_findLast 55 = .ok (.getfield 82, 3) := by decide +kernel
theorem dX4_findLast_58 : decode cX4_findLast 58 = .ok (.invokevirtual 75, 3) := by decide +kernel
theorem dX4_findLast_61 : decode cX4_findLast 61 = .ok (.istore 5, 2) := by decide +kernel
theorem dX4_findLast_63 : decode cX4_findLast 63 = .ok (.iinc 6 1, 3) := by decide +kernel
theorem dX4_findLast_66 : decode cX4_findLast 66 = .ok (.goto (-52), 3) := by decide +kernel
theorem dX4_findLast_69 : decode cX4_findLast 69 = .ok (.iconst (-1), 1) := by decide +kernel
theorem dX4_findLast_70 : decode cX4_findLast 70 = .ok (.ireturn, 1) := by decide +kernel
theorem okc_X10_hasPath {kn : sKn} {cc : ByteArray} {own : String} {nL : Nat} {D : Nat} {ret : Option FieldType} {ini : Bool} {pc index : Nat} (hD : 4 + 1 ≤ D) (hl : Cond.methodLink own index yX10_hasPath ∈ wsL_law) (hd : decode cc pc = .ok (.invokevirtual index, 3)) : mOk kn cc own nL wsL_law D ret ini pc (a_callV false (fX10_hasPath kn) 11 (3 + 1) (pc + 3)) := ok_callV (mX10_hasPath kn) (good_ws ws_good (fun _ h => h) kw883) hD (by decide) hl kw884 kw885 kw170 ⟨by decide +kernel, by decide +kernel, by decide +kernel⟩ rfl hd
def tX4_findLast (kn : sKn) : List (Nat × sA) := [(0, a_aload 0 1), (1, a_get 5 0 4), (4, a_aload 2 5), (5, a_callV true (fX8_copyOf kn) 9 2 8), (8, a_stk (q_int 1) 9), (9, a_istore 5 11), (11, a_stk (q_int 0) 12), (12, a_istore 6 14), (14, a_iload 6 16), (16, a_stk (q_int 200) 19), (19, a_icmp kn b_gt 4 69 22), (22, a_iload 5 24), (24, a_if kn b_eq 0 49 27), (27, a_aload 3 28), (28, a_aload 1 29), (29, a_aload 0 30), (30, a_get 5 0 33), (33, a_iload 4 35), (35, a_callV false (fX10_hasPath kn) 11 4 38), (38, a_if kn b_ne 1 49 41), (41, a_aload 0 42), (42, a_get 5 0 45), (45, a_get 9 0 48), (48, a_iret), (49, a_aload 0 50), (50, a_get 5 0 53), (53, a_aload 1 54), (54, a_aload 1 55), (55, a_get 7 1 58), (58, a_callV false (fX8_passDay kn) 9 3 61), (61, a_istore 5 63), (63, a_iinc 6 1 66), (66, a_goto 14), (69, a_stk (q_int (-1)) 70), (70, a_iret)]
def fX4_findLast (kn : sKn) : List Value → sW → Option sR := fW (tX4_findLast kn) 7
set_option maxRecDepth 100000 in
set_option maxHeartbeats 4000000 in
theorem mX4_findLast (kn : sKn) : mM kn yX4_findLast (Cond.code yX4_findLast cX4_findLast 7 (some .int) :: wsL_law) 5 false (fX4_findLast kn) := mM_W (fun n => mM_of (own := RX4) (ini := false) rfl (by decide +kernel) (by decide +kernel) (all_c (ok_aload_n dX4_findLast_0 rfl) (all_c (okg_X4_0 kw827 dX4_findLast_1) (all_c (ok_aload_n dX4_findLast_4 rfl) (all_c (okc_X8_copyOf (by decide) kw874 dX4_findLast_5) (all_c (ok_stk (s_iconst dX4_findLast_8 (by decide))) (all_c (ok_istore dX4_findLast_9 (by decide)) (all_c (ok_stk (s_iconst dX4_findLast_11 (by decide))) (all_c (ok_istore dX4_findLast_12 (by decide)) (all_c (ok_iload dX4_findLast_14) (all_c (ok_stk (s_sipush dX4_findLast_16 (by decide))) (all_c (ok_icmp_gt dX4_findLast_19 (by decide)) (all_c (ok_iload dX4_findLast_22) (all_c (ok_if_eq dX4_findLast_24 (by decide)) (all_c (ok_aload_n dX4_findLast_27 rfl) (all_c (ok_aload_n dX4_findLast_28 rfl) (all_c (ok_aload_n dX4_findLast_29 rfl) (all_c (okg_X4_0 kw827 dX4_findLast_30) (all_c (ok_iload dX4_findLast_33) (all_c (okc_X10_hasPath (by decide) kw886 dX4_findLast_35) (all_c (ok_if_ne dX4_findLast_38 (by decide)) (all_c (ok_aload_n dX4_findLast_41 rfl) (all_c (okg_X4_0 kw827 dX4_findLast_42) (all_c (okg_X8_0 kw725 dX4_findLast_45) (all_c (ok_iret dX4_findLast_48) (all_c (ok_aload_n dX4_findLast_49 rfl) (all_c (okg_X4_0 kw827 dX4_findLast_50) (all_c (ok_aload_n dX4_findLast_53 rfl) (all_c (ok_aload_n dX4_findLast_54 rfl) (all_c (okg_X6_1 kw733 dX4_findLast_55) (all_c (okc_X8_passDay (by decide) kw734 dX4_findLast_58) (all_c (ok_istore dX4_findLast_61 (by decide)) (all_c (ok_iinc dX4_findLast_63 (by decide) (by decide)) (all_c (ok_goto dX4_findLast_66 (by decide)) (all_c (ok_stk (s_iconst dX4_findLast_69 (by decide))) (all_c (ok_iret dX4_findLast_70) all_n))))))))))))))))))))))))))))))))))) n (fun h => by first | rfl | cases h))
theorem dX11_lasts_0 : decode cX11_lasts 0 = .ok (.aload_n 0, 1) := by decide +kernel
theorem dX11_lasts_1 : decode cX11_lasts 1 = .ok (.iload_n 1, 1) := by decide +kernel
theorem dX11_lasts_2 : decode cX11_lasts 2 = .ok (.invokevirtual 201, 3) := by decide +kernel
theorem dX11_lasts_5 : decode cX11_lasts 5 = .ok (.ifCond .ne 5, 3) := by decide +kernel
theorem dX11_lasts_8 : decode cX11_lasts 8 = .ok (.iconst (-1), 1) := by decide +kernel
theorem dX11_lasts_9 : decode cX11_lasts 9 = .ok (.ireturn, 1) := by decide +kernel
theorem dX11_lasts_10 : decode cX11_lasts 10 = .ok (.aload_n 0, 1) := by decide +kernel
theorem dX11_lasts_11 : decode cX11_lasts 11 = .ok (.getfield 85, 3) := by decide +kernel
theorem dX11_lasts_14 : decode cX11_lasts 14 = .ok (.aload_n 0, 1) := by decide +kernel
theorem dX11_lasts_15 : decode cX11_lasts 15 = .ok (.getfield 26, 3) := by decide +kernel
theorem dX11_lasts_18 : decode cX11_lasts 18 = .ok (.aload_n 0, 1) := by decide +kernel
theorem dX11_lasts_19 : decode cX11_lasts 19 = .ok (.getfield 33, 3) := by decide +kernel
theorem dX11_lasts_22 : decode cX11_lasts 22 = .ok (.aload_n 0, 1) := by decide +kernel
theorem dX11_lasts_23 : decode cX11_lasts 23 = .ok (.getfield 57, 3) := by decide +kernel
theorem dX11_lasts_26 : decode cX11_lasts 26 = .ok (.iload_n 1, 1) := by decide +kernel
theorem dX11_lasts_27 : decode cX11_lasts 27 = .ok (.invokevirtual 337, 3) := by decide +kernel
theorem dX11_lasts_30 : decode cX11_lasts 30 = .ok (.ireturn, 1) := by decide +kernel
theorem okc_X4_findLast {kn : sKn} {cc : ByteArray} {own : String} {nL : Nat} {D : Nat} {ret : Option FieldType} {ini : Bool} {pc index : Nat} (hD : 5 + 1 ≤ D) (hl : Cond.methodLink own index yX4_findLast ∈ wsL_law) (hd : decode cc pc = .ok (.invokevirtual index, 3)) : mOk kn cc own nL wsL_law D ret ini pc (a_callV false (fX4_findLast kn) 5 (4 + 1) (pc + 3)) := ok_callV (mX4_findLast kn) (good_ws ws_good (fun _ h => h) kw887) hD (by decide) hl kw888 kw889 kw716 ⟨by decide +kernel, by decide +kernel, by decide +kernel⟩ rfl hd
def tX11_lasts (kn : sKn) : List (Nat × sA) := [(0, a_aload 0 1), (1, a_iload 1 2), (2, a_callV false (fX11_isLoad kn) 12 2 5), (5, a_if kn b_ne 1 10 8), (8, a_stk (q_int (-1)) 9), (9, a_iret), (10, a_aload 0 11), (11, a_get 12 11 14), (14, a_aload 0 15), (15, a_get 12 2 18), (18, a_aload 0 19), (19, a_get 12 3 22), (22, a_aload 0 23), (23, a_get 12 7 26), (26, a_iload 1 27), (27, a_callV false (fX4_findLast kn) 5 5 30), (30, a_iret)]
def fX11_lasts (kn : sKn) : List Value → sW → Option sR := fW (tX11_lasts kn) 2
set_option maxRecDepth 100000 in
set_option maxHeartbeats 4000000 in
theorem mX11_lasts (kn : sKn) : mM kn yX11_lasts (Cond.code yX11_lasts cX11_lasts 2 (some .int) :: wsL_law) 6 false (fX11_lasts kn) := mM_W (fun n => mM_of (own := RX11) (ini := false) rfl (by decide +kernel) (by decide +kernel) (all_c (ok_aload_n dX11_lasts_0 rfl) (all_c (ok_iload_n dX11_lasts_1 rfl) (all_c (okc_X11_isLoad (by decide) kw317 dX11_lasts_2) (all_c (ok_if_ne dX11_lasts_5 (by decide)) (all_c (ok_stk (s_iconst dX11_lasts_8 (by decide))) (all_c (ok_iret dX11_lasts_9) (all_c (ok_aload_n dX11_lasts_10 rfl) (all_c (okg_X11_11 kw735 dX11_lasts_11) (all_c (ok_aload_n dX11_lasts_14 rfl) (all_c (okg_X11_2 kw291 dX11_lasts_15) (all_c (ok_aload_n dX11_lasts_18 rfl) (all_c (okg_X11_3 kw292 dX11_lasts_19) (all_c (ok_aload_n dX11_lasts_22 rfl) (all_c (okg_X11_7 kw290 dX11_lasts_23) (all_c (ok_iload_n dX11_lasts_26 rfl) (all_c (okc_X4_findLast (by decide) kw890 dX11_lasts_27) (all_c (ok_iret dX11_lasts_30) all_n))))))))))))))))) n (fun h => by first | rfl | cases h))
theorem dX4_findLaw_0 : decode cX4_findLaw 0 = .ok (.iconst 0, 1) := by decide +kernel
theorem dX4_findLaw_1 : decode cX4_findLaw 1 = .ok (.istore 6, 2) := by decide +kernel
theorem dX4_findLaw_3 : decode cX4_findLaw 3 = .ok (.iload 6, 2) := by decide +kernel
theorem dX4_findLaw_5 : decode cX4_findLaw 5 = .ok (.bipush 30, 2) := by decide +kernel
theorem dX4_findLaw_7 : decode cX4_findLaw 7 = .ok (.if_icmp .gt 85, 3) := by decide +kernel
theorem dX4_findLaw_10 : decode cX4_findLaw 10 = .ok (.aload_n 0, 1) := by decide +kernel
theorem dX4_findLaw_11 : decode cX4_findLaw 11 = .ok (.getfield 12, 3) := by decide +kernel
theorem dX4_findLaw_14 : decode cX4_findLaw 14 = .ok (.aload_n 2, 1) := by decide +kernel
theorem dX4_findLaw_15 : decode cX4_findLaw 15 = .ok (.invokevirtual 31, 3) := by decide +kernel
theorem dX4_findLaw_18 : decode cX4_findLaw 18 = .ok (.aload_n 3, 1) := by decide +kernel
theorem dX4_findLaw_19 : decode cX4_findLaw 19 = .ok (.aload_n 1, 1) := by decide +kernel
theorem dX4_findLaw_20 : decode cX4_findLaw 20 = .ok (.aload_n 0, 1) := by decide +kernel
theorem dX4_findLaw_21 : decode cX4_findLaw 21 = .ok (.getfield 12, 3) := by decide +kernel
theorem dX4_findLaw_24 : decode cX4_findLaw 24 = .ok (.iload 4, 2) := by decide +kernel
theorem dX4_findLaw_26 : decode cX4_findLaw 26 = .ok (.invokevirtual 71, 3) := by decide +kernel
theorem dX4_findLaw_29 : decode cX4_findLaw 29 = .ok (.istore 7, 2) := by decide +kernel
theorem dX4_findLaw_31 : decode cX4_findLaw 31 = .ok (.iconst 1, 1) := by decide +kernel
theorem dX4_findLaw_32 : decode cX4_findLaw 32 = .ok (.istore 8, 2) := by decide +kernel
theorem dX4_findLaw_34 : decode cX4_findLaw 34 = .ok (.iload 8, 2) := by decide +kernel
theorem dX4_findLaw_36 : decode cX4_findLaw 36 = .ok (.iload 5, 2) := by decide +kernel
theorem dX4_findLaw_38 : decode cX4_findLaw 38 = .ok (.if_icmp .ge 40, 3) := by decide +kernel
theorem dX4_findLaw_41 : decode cX4_findLaw 41 = .ok (.iload 7, 2) := by decide +kernel
theorem dX4_findLaw_43 : decode cX4_findLaw 43 = .ok (.ifCond .eq 35, 3) := by decide +kernel
theorem dX4_findLaw_46 : decode cX4_findLaw 46 = .ok (.aload_n 0, 1) := by decide +kernel
theorem dX4_findLaw_47 : decode cX4_findLaw 47 = .ok (.getfield 12, 3) := by decide +kernel
theorem dX4_findLaw_50 : decode cX4_findLaw 50 = .ok (.aload_n 1, 1) := by decide +kernel
theorem dX4_findLaw_51 : decode cX4_findLaw 51 = .ok (.iload 6, 2) := by decide +kernel
theorem dX4_findLaw_53 : decode cX4_findLaw 53 = .ok (.invokevirtual 75, 3) := by decide +kernel
theorem dX4_findLaw_56 : decode cX4_findLaw 56 = .ok (.ifCond .eq 16, 3) := by decide +kernel
theorem dX4_findLaw_59 : decode cX4_findLaw 59 = .ok (.aload_n 3, 1) := by decide +kernel
theorem dX4_findLaw_60 : decode cX4_findLaw 60 = .ok (.aload_n 1, 1) := by decide +kernel
theorem dX4_findLaw_61 : decode cX4_findLaw 61 = .ok (.aload_n 0, 1) := by decide +kernel
theorem dX4_findLaw_62 : decode cX4_findLaw 62 = .ok (.getfield 12, 3) := by decide +kernel
theorem dX4_findLaw_65 : decode cX4_findLaw 65 = .ok (.iload 4, 2) := by decide +kernel
theorem dX4_findLaw_67 : decode cX4_findLaw 67 = .ok (.invokevirtual 71, 3) := by decide +kernel
theorem dX4_findLaw_70 : decode cX4_findLaw 70 = .ok (.istore 7, 2) := by decide +kernel
theorem dX4_findLaw_72 : decode cX4_findLaw 72 = .ok (.iinc 8 1, 3) := by decide +kernel
theorem dX4_findLaw_75 : decode cX4_findLaw 75 = .ok (.goto (-41), 3) := by decide +kernel
theorem dX4_findLaw_78 : decode cX4_findLaw 78 = .ok (.iload 7, 2) := by decide +kernel
theorem dX4_findLaw_80 : decode cX4_findLaw 80 = .ok (.ifCond .eq 6, 3) := by decide +kernel
theorem dX4_findLaw_83 : decode cX4_findLaw 83 = .ok (.iload 6, 2) := by decide +kernel
theorem dX4_findLaw_85 : decode cX4_findLaw 85 = .ok (.ireturn, 1) := by decide +kernel
theorem dX4_findLaw_86 : decode cX4_findLaw 86 = .ok (.iinc 6 1, 3) := by decide +kernel
theorem dX4_findLaw_89 : decode cX4_findLaw 89 = .ok (.goto (-86), 3) := by decide +kernel
theorem dX4_findLaw_92 : decode cX4_findLaw 92 = .ok (.iconst (-1), 1) := by decide +kernel
theorem dX4_findLaw_93 : decode cX4_findLaw 93 = .ok (.ireturn, 1) := by decide +kernel
def tX4_findLaw (kn : sKn) : List (Nat × sA) := [(0, a_stk (q_int 0) 1), (1, a_istore 6 3), (3, a_iload 6 5), (5, a_stk (q_int 30) 7), (7, a_icmp kn b_gt 4 92 10), (10, a_aload 0 11), (11, a_get 5 0 14), (14, a_aload 2 15), (15, a_callV true (fX8_copyOf kn) 9 2 18), (18, a_aload 3 19), (19, a_aload 1 20), (20, a_aload 0 21), (21, a_get 5 0 24), (24, a_iload 4 26), (26, a_callV false (fX10_hasPath kn) 11 4 29), (29, a_istore 7 31), (31, a_stk (q_int 1) 32), (32, a_istore 8 34), (34, a_iload 8 36), (36, a_iload 5 38), (38, a_icmp kn b_ge 3 78 41), (41, a_iload 7 43), (43, a_if kn b_eq 0 78 46), (46, a_aload 0 47), (47, a_get 5 0 50), (50, a_aload 1 51), (51, a_iload 6 53), (53, a_callV false (fX8_passDay kn) 9 3 56), (56, a_if kn b_eq 0 72 59), (59, a_aload 3 60), (60, a_aload 1 61), (61, a_aload 0 62), (62, a_get 5 0 65), (65, a_iload 4 67), (67, a_callV false (fX10_hasPath kn) 11 4 70), (70, a_istore 7 72), (72, a_iinc 8 1 75), (75, a_goto 34), (78, a_iload 7 80), (80, a_if kn b_eq 0 86 83), (83, a_iload 6 85), (85, a_iret), (86, a_iinc 6 1 89), (89, a_goto 3), (92, a_stk (q_int (-1)) 93), (93, a_iret)]
def fX4_findLaw (kn : sKn) : List Value → sW → Option sR := fW (tX4_findLaw kn) 9
set_option maxRecDepth 100000 in
set_option maxHeartbeats 4000000 in
theorem mX4_findLaw (kn : sKn) : mM kn yX4_findLaw (Cond.code yX4_findLaw cX4_findLaw 9 (some .int) :: wsL_law) 5 false (fX4_findLaw kn) := mM_W (fun n => mM_of (own := RX4) (ini := false) rfl (by decide +kernel) (by decide +kernel) (all_c (ok_stk (s_iconst dX4_findLaw_0 (by decide))) (all_c (ok_istore dX4_findLaw_1 (by decide)) (all_c (ok_iload dX4_findLaw_3) (all_c (ok_stk (s_bipush dX4_findLaw_5 (by decide))) (all_c (ok_icmp_gt dX4_findLaw_7 (by decide)) (all_c (ok_aload_n dX4_findLaw_10 rfl) (all_c (okg_X4_0 kw827 dX4_findLaw_11) (all_c (ok_aload_n dX4_findLaw_14 rfl) (all_c (okc_X8_copyOf (by decide) kw874 dX4_findLaw_15) (all_c (ok_aload_n dX4_findLaw_18 rfl) (all_c (ok_aload_n dX4_findLaw_19 rfl) (all_c (ok_aload_n dX4_findLaw_20 rfl) (all_c (okg_X4_0 kw827 dX4_findLaw_21) (all_c (ok_iload dX4_findLaw_24) (all_c (okc_X10_hasPath (by decide) kw886 dX4_findLaw_26) (all_c (ok_istore dX4_findLaw_29 (by decide)) (all_c (ok_stk (s_iconst dX4_findLaw_31 (by decide))) (all_c (ok_istore dX4_findLaw_32 (by decide)) (all_c (ok_iload dX4_findLaw_34) (all_c (ok_iload dX4_findLaw_36) (all_c (ok_icmp_ge dX4_findLaw_38 (by decide)) (all_c (ok_iload dX4_findLaw_41) (all_c (ok_if_eq dX4_findLaw_43 (by decide)) (all_c (ok_aload_n dX4_findLaw_46 rfl) (all_c (okg_X4_0 kw827 dX4_findLaw_47) (all_c (ok_aload_n dX4_findLaw_50 rfl) (all_c (ok_iload dX4_findLaw_51) (all_c (okc_X8_passDay (by decide) kw734 dX4_findLaw_53) (all_c (ok_if_eq dX4_findLaw_56 (by decide)) (all_c (ok_aload_n dX4_findLaw_59 rfl) (all_c (ok_aload_n dX4_findLaw_60 rfl) (all_c (ok_aload_n dX4_findLaw_61 rfl) (all_c (okg_X4_0 kw827 dX4_findLaw_62) (all_c (ok_iload dX4_findLaw_65) (all_c (okc_X10_hasPath (by decide) kw886 dX4_findLaw_67) (all_c (ok_istore dX4_findLaw_70 (by decide)) (all_c (ok_iinc dX4_findLaw_72 (by decide) (by decide)) (all_c (ok_goto dX4_findLaw_75 (by decide)) (all_c (ok_iload dX4_findLaw_78) (all_c (ok_if_eq dX4_findLaw_80 (by decide)) (all_c (ok_iload dX4_findLaw_83) (all_c (ok_iret dX4_findLaw_85) (all_c (ok_iinc dX4_findLaw_86 (by decide) (by decide)) (all_c (ok_goto dX4_findLaw_89 (by decide)) (all_c (ok_stk (s_iconst dX4_findLaw_92 (by decide))) (all_c (ok_iret dX4_findLaw_93) all_n)))))))))))))))))))))))))))))))))))))))))))))) n (fun h => by first | rfl | cases h))
theorem dX11_law_0 : decode cX11_law 0 = .ok (.aload_n 0, 1) := by decide +kernel
theorem dX11_law_1 : decode cX11_law 1 = .ok (.iload_n 1, 1) := by decide +kernel
theorem dX11_law_2 : decode cX11_law 2 = .ok (.invokevirtual 201, 3) := by decide +kernel
theorem dX11_law_5 : decode cX11_law 5 = .ok (.ifCond .eq 14, 3) := by decide +kernel
theorem dX11_law_8 : decode cX11_law 8 = .ok (.iload_n 2, 1) := by decide +kernel
theorem dX11_law_9 : decode cX11_law 9 = .ok (.iconst 1, 1) := by decide +kernel
theorem dX11_law_10 : decode cX11_law 10 = .ok (.if_icmp .lt 9, 3) := by decide +kernel
theorem dX11_law_13 : decode cX11_law 13 = .ok (.iload_n 2, 1) := by decide +kernel
theorem dX11_law_14 : decode cX11_law 14 = .ok (.bipush 60, 2) := by decide +kernel
theorem dX11_law_16 : decode cX11_law 16 = .ok (.if_icmp .le 5, 3) := by decide +kernel
theorem dX11_law_19 : decode cX11_law 19 = .ok (.iconst (-1), 1) := by decide +kernel
theorem dX11_law_20 : decode cX11_law 20 = .ok (.ireturn, 1) := by decide +kernel
theorem dX11_law_21 : decode cX11_law 21 = .ok (.aload_n 0, 1) := by decide +kernel
theorem dX11_law_22 : decode cX11_law 22 = .ok (.getfield 85, 3) := by decide +kernel
theorem dX11_law_25 : decode cX11_law 25 = .ok (.aload_n 0, 1) := by decide +kernel
theorem dX11_law_26 : decode cX11_law 26 = .ok (.getfield 26, 3) := by decide +kernel
theorem dX11_law_29 : decode cX11_law 29 = .ok (.aload_n 0, 1) := by decide +kernel
theorem dX11_law_30 : decode cX11_law 30 = .ok (.getfield 33, 3) := by decide +kernel
theorem dX11_law_33 : decode cX11_law 33 = .ok (.aload_n 0, 1) := by decide +kernel
theorem dX11_law_34 : decode cX11_law 34 = .ok (.getfield 57, 3) := by decide +kernel
theorem dX11_law_37 : decode cX11_law 37 = .ok (.iload_n 1, 1) := by decide +kernel
theorem dX11_law_38 : decode cX11_law 38 = .ok (.iload_n 2, 1) := by decide +kernel
theorem dX11_law_39 : decode cX11_law 39 = .ok (.invokevirtual 333, 3) := by decide +kernel
theorem dX11_law_42 : decode cX11_law 42 = .ok (.ireturn, 1) := by decide +kernel
theorem okc_X4_findLaw {kn : sKn} {cc : ByteArray} {own : String} {nL : Nat} {D : Nat} {ret : Option FieldType} {ini : Bool} {pc index : Nat} (hD : 5 + 1 ≤ D) (hl : Cond.methodLink own index yX4_findLaw ∈ wsL_law) (hd : decode cc pc = .ok (.invokevirtual index, 3)) : mOk kn cc own nL wsL_law D ret ini pc (a_callV false (fX4_findLaw kn) 5 (5 + 1) (pc + 3)) := ok_callV (mX4_findLaw kn) (good_ws ws_good (fun _ h => h) kw891) hD (by decide) hl kw892 kw893 kw716 ⟨by decide +kernel, by decide +kernel, by decide +kernel⟩ rfl hd
def tX11_law (kn : sKn) : List (Nat × sA) := [(0, a_aload 0 1), (1, a_iload 1 2), (2, a_callV false (fX11_isLoad kn) 12 2 5), (5, a_if kn b_eq 0 19 8), (8, a_iload 2 9), (9, a_stk (q_int 1) 10), (10, a_icmp kn b_lt 2 19 13), (13, a_iload 2 14), (14, a_stk (q_int 60) 16), (16, a_icmp kn b_le 5 21 19), (19, a_stk (q_int (-1)) 20), (20, a_iret), (21, a_aload 0 22), (22, a_get 12 11 25), (25, a_aload 0 26), (26, a_get 12 2 29), (29, a_aload 0 30), (30, a_get 12 3 33), (33, a_aload 0 34), (34, a_get 12 7 37), (37, a_iload 1 38), (38, a_iload 2 39), (39, a_callV false (fX4_findLaw kn) 5 6 42), (42, a_iret)]
def fX11_law (kn : sKn) : List Value → sW → Option sR := fW (tX11_law kn) 3
set_option maxRecDepth 100000 in
set_option maxHeartbeats 4000000 in
theorem mX11_law (kn : sKn) : mM kn yX11_law (Cond.code yX11_law cX11_law 3 (some .int) :: wsL_law) 6 false (fX11_law kn) := mM_W (fun n => mM_of (own := RX11) (ini := false) rfl (by decide +kernel) (by decide +kernel) (all_c (ok_aload_n dX11_law_0 rfl) (all_c (ok_iload_n dX11_law_1 rfl) (all_c (okc_X11_isLoad (by decide) kw317 dX11_law_2) (all_c (ok_if_eq dX11_law_5 (by decide)) (all_c (ok_iload_n dX11_law_8 rfl) (all_c (ok_stk (s_iconst dX11_law_9 (by decide))) (all_c (ok_icmp_lt dX11_law_10 (by decide)) (all_c (ok_iload_n dX11_law_13 rfl) (all_c (ok_stk (s_bipush dX11_law_14 (by decide))) (all_c (ok_icmp_le dX11_law_16 (by decide)) (all_c (ok_stk (s_iconst dX11_law_19 (by decide))) (all_c (ok_iret dX11_law_20) (all_c (ok_aload_n dX11_law_21 rfl) (all_c (okg_X11_11 kw735 dX11_law_22) (all_c (ok_aload_n dX11_law_25 rfl) (all_c (okg_X11_2 kw291 dX11_law_26) (all_c (ok_aload_n dX11_law_29 rfl) (all_c (okg_X11_3 kw292 dX11_law_30) (all_c (ok_aload_n dX11_law_33 rfl) (all_c (okg_X11_7 kw290 dX11_law_34) (all_c (ok_iload_n dX11_law_37 rfl) (all_c (ok_iload_n dX11_law_38 rfl) (all_c (okc_X4_findLaw (by decide) kw894 dX11_law_39) (all_c (ok_iret dX11_law_42) all_n)))))))))))))))))))))))) n (fun h => by first | rfl | cases h))
theorem dX11_limit_0 : decode cX11_limit 0 = .ok (.iload_n 1, 1) := by decide +kernel
theorem dX11_limit_1 : decode cX11_limit 1 = .ok (.iconst 1, 1) := by decide +kernel
theorem dX11_limit_2 : decode cX11_limit 2 = .ok (.if_icmp .lt 8, 3) := by decide +kernel
theorem dX11_limit_5 : decode cX11_limit 5 = .ok (.iload_n 1, 1) := by decide +kernel
theorem dX11_limit_6 : decode cX11_limit 6 = .ok (.iconst 3, 1) := by decide +kernel
theorem dX11_limit_7 : decode cX11_limit 7 = .ok (.if_icmp .le 5, 3) := by decide +kernel
theorem dX11_limit_10 : decode cX11_limit 10 = .ok (.iconst (-1), 1) := by decide +kernel
theorem dX11_limit_11 : decode cX11_limit 11 = .ok (.ireturn, 1) := by decide +kernel
theorem dX11_limit_12 : decode cX11_limit 12 = .ok (.aload_n 0, 1) := by decide +kernel
theorem dX11_limit_13 : decode cX11_limit 13 = .ok (.getfield 57, 3) := by decide +kernel
theorem dX11_limit_16 : decode cX11_limit 16 = .ok (.aload_n 0, 1) := by decide +kernel
theorem dX11_limit_17 : decode cX11_limit 17 = .ok (.getfield 26, 3) := by decide +kernel
theorem dX11_limit_20 : decode cX11_limit 20 = .ok (.aload_n 0, 1) := by decide +kernel
theorem dX11_limit_21 : decode cX11_limit 21 = .ok (.getfield 33, 3) := by decide +kernel
theorem dX11_limit_24 : decode cX11_limit 24 = .ok (.iload_n 1, 1) := by decide +kernel
theorem dX11_limit_25 : decode cX11_limit 25 = .ok (.invokevirtual 285, 3) := by decide +kernel
theorem dX11_limit_28 : decode cX11_limit 28 = .ok (.ireturn, 1) := by decide +kernel
theorem okc_X10_mostWeight {kn : sKn} {cc : ByteArray} {own : String} {nL : Nat} {D : Nat} {ret : Option FieldType} {ini : Bool} {pc index : Nat} (hD : 4 + 1 ≤ D) (hl : Cond.methodLink own index yX10_mostWeight ∈ wsL_law) (hd : decode cc pc = .ok (.invokevirtual index, 3)) : mOk kn cc own nL wsL_law D ret ini pc (a_callV false (fX10_mostWeight kn) 11 (3 + 1) (pc + 3)) := ok_callV (mX10_mostWeight kn) (good_ws ws_good (fun _ h => h) kw895) hD (by decide) hl kw896 kw897 kw170 ⟨by decide +kernel, by decide +kernel, by decide +kernel⟩ rfl hd
def tX11_limit (kn : sKn) : List (Nat × sA) := [(0, a_iload 1 1), (1, a_stk (q_int 1) 2), (2, a_icmp kn b_lt 2 10 5), (5, a_iload 1 6), (6, a_stk (q_int 3) 7), (7, a_icmp kn b_le 5 12 10), (10, a_stk (q_int (-1)) 11), (11, a_iret), (12, a_aload 0 13), (13, a_get 12 7 16), (16, a_aload 0 17), (17, a_get 12 2 20), (20, a_aload 0 21), (21, a_get 12 3 24), (24, a_iload 1 25), (25, a_callV false (fX10_mostWeight kn) 11 4 28), (28, a_iret)]
def fX11_limit (kn : sKn) : List Value → sW → Option sR := fW (tX11_limit kn) 2
set_option maxRecDepth 100000 in
set_option maxHeartbeats 4000000 in
theorem mX11_limit (kn : sKn) : mM kn yX11_limit (Cond.code yX11_limit cX11_limit 2 (some .int) :: wsL_law) 5 false (fX11_limit kn) := mM_W (fun n => mM_of (own := RX11) (ini := false) rfl (by decide +kernel) (by decide +kernel) (all_c (ok_iload_n dX11_limit_0 rfl) (all_c (ok_stk (s_iconst dX11_limit_1 (by decide))) (all_c (ok_icmp_lt dX11_limit_2 (by decide)) (all_c (ok_iload_n dX11_limit_5 rfl) (all_c (ok_stk (s_iconst dX11_limit_6 (by decide))) (all_c (ok_icmp_le dX11_limit_7 (by decide)) (all_c (ok_stk (s_iconst dX11_limit_10 (by decide))) (all_c (ok_iret dX11_limit_11) (all_c (ok_aload_n dX11_limit_12 rfl) (all_c (okg_X11_7 kw290 dX11_limit_13) (all_c (ok_aload_n dX11_limit_16 rfl) (all_c (okg_X11_2 kw291 dX11_limit_17) (all_c (ok_aload_n dX11_limit_20 rfl) (all_c (okg_X11_3 kw292 dX11_limit_21) (all_c (ok_iload_n dX11_limit_24 rfl) (all_c (okc_X10_mostWeight (by decide) kw898 dX11_limit_25) (all_c (ok_iret dX11_limit_28) all_n))))))))))))))))) n (fun h => by first | rfl | cases h))
theorem dX11_load_0 : decode cX11_load 0 = .ok (.aload_n 0, 1) := by decide +kernel
theorem dX11_load_1 : decode cX11_load 1 = .ok (.iload_n 1, 1) := by decide +kernel
theorem dX11_load_2 : decode cX11_load 2 = .ok (.invokevirtual 201, 3) := by decide +kernel
theorem dX11_load_5 : decode cX11_load 5 = .ok (.ifCond .ne 11, 3) := by decide +kernel
theorem dX11_load_8 : decode cX11_load 8 = .ok (.new 154, 3) := by decide +kernel
theorem dX11_load_11 : decode cX11_load 11 = .ok (.dup, 1) := by decide +kernel
theorem dX11_load_12 : decode cX11_load 12 = .ok (.invokespecial 156, 3) := by decide +kernel
theorem dX11_load_15 : decode cX11_load 15 = .ok (.athrow, 1) := by decide +kernel
theorem dX11_load_16 : decode cX11_load 16 = .ok (.iload_n 2, 1) := by decide +kernel
theorem dX11_load_17 : decode cX11_load 17 = .ok (.tableswitch 73 0 3 #[31, 41, 51, 63], 31) := by decide +kernel
theorem dX11_load_48 : decode cX11_load 48 = .ok (.aload_n 0, 1) := by decide +kernel
theorem dX11_load_49 : decode cX11_load 49 = .ok (.getfield 26, 3) := by decide +kernel
theorem dX11_load_52 : decode cX11_load 52 = .ok (.getfield 204, 3) := by decide +kernel
theorem dX11_load_55 : decode cX11_load 55 = .ok (.iload_n 1, 1) := by decide +kernel
theorem dX11_load_56 : decode cX11_load 56 = .ok (.iaload, 1) := by decide +kernel
theorem dX11_load_57 : decode cX11_load 57 = .ok (.ireturn, 1) := by decide +kernel
theorem dX11_load_58 : decode cX11_load 58 = .ok (.aload_n 0, 1) := by decide +kernel
theorem dX11_load_59 : decode cX11_load 59 = .ok (.getfield 26, 3) := by decide +kernel
theorem dX11_load_62 : decode cX11_load 62 = .ok (.getfield 207, 3) := by decide +kernel
theorem dX11_load_65 : decode cX11_load 65 = .ok (.iload_n 1, 1) := by decide +kernel
theorem dX11_load_66 : decode cX11_load 66 = .ok (.iaload, 1) := by decide +kernel
theorem dX11_load_67 : decode cX11_load 67 = .ok (.ireturn, 1) := by decide +kernel
theorem dX11_load_68 : decode cX11_load 68 = .ok (.aload_n 0, 1) := by decide +kernel
theorem dX11_load_69 : decode cX11_load 69 = .ok (.getfield 33, 3) := by decide +kernel
theorem dX11_load_72 : decode cX11_load 72 = .ok (.getfield 210, 3) := by decide +kernel
theorem dX11_load_75 : decode cX11_load 75 = .ok (.iload_n 1, 1) := by decide +kernel
theorem dX11_load_76 : decode cX11_load 76 = .ok (.ishr, 1) := by decide +kernel
theorem dX11_load_77 : decode cX11_load 77 = .ok (.iconst 1, 1) := by decide +kernel
theorem dX11_load_78 : decode cX11_load 78 = .ok (.iand, 1) := by decide +kernel
theorem dX11_load_79 : decode cX11_load 79 = .ok (.ireturn, 1) := by decide +kernel
theorem dX11_load_80 : decode cX11_load 80 = .ok (.aload_n 0, 1) := by decide +kernel
theorem dX11_load_81 : decode cX11_load 81 = .ok (.getfield 33, 3) := by decide +kernel
theorem dX11_load_84 : decode cX11_load 84 = .ok (.getfield 213, 3) := by decide +kernel
theorem dX11_load_87 : decode cX11_load 87 = .ok (.iload_n 1, 1) := by decide +kernel
theorem dX11_load_88 : decode cX11_load 88 = .ok (.iaload, 1) := by decide +kernel
theorem dX11_load_89 : decode cX11_load 89 = .ok (.ireturn, 1) := by decide +kernel
theorem dX11_load_90 : decode cX11_load 90 = .ok (.new 154, 3) := by decide +kernel
theorem dX11_load_93 : decode cX11_load 93 = .ok (.dup, 1) := by decide +kernel
theorem dX11_load_94 : decode cX11_load 94 = .ok (.invokespecial 156, 3) := by decide +kernel
theorem dX11_load_97 : decode cX11_load 97 = .ok (.athrow, 1) := by decide +kernel
def tX11_load (kn : sKn) : List (Nat × sA) := [(0, a_aload 0 1), (1, a_iload 1 2), (2, a_callV false (fX11_isLoad kn) 12 2 5), (5, a_if kn b_ne 1 16 8), (8, a_throw), (11, a_stk q_dup 12), (12, a_none), (15, a_none), (16, a_iload 2 17), (17, a_table kn 0 3 [48, 58, 68, 80] 90), (48, a_aload 0 49), (49, a_get 12 2 52), (52, a_get 7 13 55), (55, a_iload 1 56), (56, a_iald 57), (57, a_iret), (58, a_aload 0 59), (59, a_get 12 2 62), (62, a_get 7 14 65), (65, a_iload 1 66), (66, a_iald 67), (67, a_iret), (68, a_aload 0 69), (69, a_get 12 3 72), (72, a_get 9 2 75), (75, a_iload 1 76), (76, a_stk q_ishr 77), (77, a_stk (q_int 1) 78), (78, a_stk q_iand 79), (79, a_iret), (80, a_aload 0 81), (81, a_get 12 3 84), (84, a_get 9 8 87), (87, a_iload 1 88), (88, a_iald 89), (89, a_iret), (90, a_throw), (93, a_stk q_dup 94), (94, a_none), (97, a_none)]
def fX11_load (kn : sKn) : List Value → sW → Option sR := fW (tX11_load kn) 3
set_option maxRecDepth 100000 in
set_option maxHeartbeats 4000000 in
theorem mX11_load (kn : sKn) : mV kn yX11_load (Cond.code yX11_load cX11_load 3 (some .int) :: wsL_law) 6 (fX11_load kn) := mV_W (fun n => mV_of (own := RX11) rfl (by decide +kernel) (all_c (ok_aload_n dX11_load_0 rfl) (all_c (ok_iload_n dX11_load_1 rfl) (all_c (okc_X11_isLoad (by decide) kw317 dX11_load_2) (all_c (ok_if_ne dX11_load_5 (by decide)) (all_c (ok_throw (by decide) kw899 kw900 inNse dX11_load_8 dX11_load_11 dX11_load_12 dX11_load_15) (all_c (ok_stk (s_dup dX11_load_11)) (all_c (ok_none) (all_c (ok_none) (all_c (ok_iload_n dX11_load_16 rfl) (all_c (ok_table dX11_load_17 (by decide) (by decide) (by decide) (by decide)) (all_c (ok_aload_n dX11_load_48 rfl) (all_c (okg_X11_2 kw291 dX11_load_49) (all_c (okg_X6_13 kw901 dX11_load_52) (all_c (ok_iload_n dX11_load_55 rfl) (all_c (ok_iald dX11_load_56) (all_c (ok_iret dX11_load_57) (all_c (ok_aload_n dX11_load_58 rfl) (all_c (okg_X11_2 kw291 dX11_load_59) (all_c (okg_X6_14 kw902 dX11_load_62) (all_c (ok_iload_n dX11_load_65 rfl) (all_c (ok_iald dX11_load_66) (all_c (ok_iret dX11_load_67) (all_c (ok_aload_n dX11_load_68 rfl) (all_c (okg_X11_3 kw292 dX11_load_69) (all_c (okg_X8_2 kw903 dX11_load_72) (all_c (ok_iload_n dX11_load_75 rfl) (all_c (ok_stk (s_ishr dX11_load_76)) (all_c (ok_stk (s_iconst dX11_load_77 (by decide))) (all_c (ok_stk (s_iand dX11_load_78)) (all_c (ok_iret dX11_load_79) (all_c (ok_aload_n dX11_load_80 rfl) (all_c (okg_X11_3 kw292 dX11_load_81) (all_c (okg_X8_8 kw904 dX11_load_84) (all_c (ok_iload_n dX11_load_87 rfl) (all_c (ok_iald dX11_load_88) (all_c (ok_iret dX11_load_89) (all_c (ok_throw (by decide) kw899 kw900 inNse dX11_load_90 dX11_load_93 dX11_load_94 dX11_load_97) (all_c (ok_stk (s_dup dX11_load_93)) (all_c (ok_none) (all_c (ok_none) all_n)))))))))))))))))))))))))))))))))))))))) n)
theorem dX8_countCrossings_0 : decode cX8_countCrossings 0 = .ok (.iconst 0, 1) := by decide +kernel
theorem dX8_countCrossings_1 : decode cX8_countCrossings 1 = .ok (.istore_n 1, 1) := by decide +kernel
theorem dX8_countCrossings_2 : decode cX8_countCrossings 2 = .ok (.iconst 0, 1) := by decide +kernel
theorem dX8_countCrossings_3 : decode cX8_countCrossings 3 = .ok (.istore_n 2, 1) := by decide +kernel
theorem dX8_countCrossings_4 : decode cX8_countCrossings 4 = .ok (.iload_n 2, 1) := by decide +kernel
theorem dX8_countCrossings_5 : decode cX8_countCrossings 5 = .ok (.bipush 6, 2) := by decide +kernel
theorem dX8_countCrossings_7 : decode cX8_countCrossings 7 = .ok (.if_icmp .ge 18, 3) := by decide +kernel
theorem dX8_countCrossings_10 : decode cX8_countCrossings 10 = .ok (.iload_n 1, 1) := by decide +kernel
theorem dX8_countCrossings_11 : decode cX8_countCrossings 11 = .ok (.aload_n 0, 1) := by decide +kernel
theorem dX8_countCrossings_12 : decode cX8_countCrossings 12 = .ok (.getfield 27, 3) := by decide +kernel
theorem dX8_countCrossings_15 : decode cX8_countCrossings 15 = .ok (.iload_n 2, 1) := by decide +kernel
theorem dX8_countCrossings_16 : decode cX8_countCrossings 16 = .ok (.iaload, 1) := by decide +kernel
theorem dX8_countCrossings_17 : decode cX8_countCrossings 17 = .ok (.iadd, 1) := by decide +kernel
theorem dX8_countCrossings_18 : decode cX8_countCrossings 18 = .ok (.istore_n 1, 1) := by decide +kernel
theorem dX8_countCrossings_19 : decode cX8_countCrossings 19 = .ok (.iinc 2 1, 3) := by decide +kernel
theorem dX8_countCrossings_22 : decode cX8_countCrossings 22 = .ok (.goto (-18), 3) := by decide +kernel
theorem dX8_countCrossings_25 : decode cX8_countCrossings 25 = .ok (.iload_n 1, 1) := by decide +kernel
theorem dX8_countCrossings_26 : decode cX8_countCrossings 26 = .ok (.ireturn, 1) := by decide +kernel
def tX8_countCrossings (kn : sKn) : List (Nat × sA) := [(0, a_stk (q_int 0) 1), (1, a_istore 1 2), (2, a_stk (q_int 0) 3), (3, a_istore 2 4), (4, a_iload 2 5), (5, a_stk (q_int 6) 7), (7, a_icmp kn b_ge 3 25 10), (10, a_iload 1 11), (11, a_aload 0 12), (12, a_get 9 8 15), (15, a_iload 2 16), (16, a_iald 17), (17, a_stk q_iadd 18), (18, a_istore 1 19), (19, a_iinc 2 1 22), (22, a_goto 4), (25, a_iload 1 26), (26, a_iret)]
def fX8_countCrossings (kn : sKn) : List Value → sW → Option sR := fW (tX8_countCrossings kn) 3
set_option maxRecDepth 100000 in
set_option maxHeartbeats 4000000 in
theorem mX8_countCrossings (kn : sKn) : mM kn yX8_countCrossings (Cond.code yX8_countCrossings cX8_countCrossings 3 (some .int) :: wsL_law) 1 false (fX8_countCrossings kn) := mM_W (fun n => mM_of (own := RX8) (ini := false) rfl (by decide +kernel) (by decide +kernel) (all_c (ok_stk (s_iconst dX8_countCrossings_0 (by decide))) (all_c (ok_istore_n dX8_countCrossings_1 rfl (by decide)) (all_c (ok_stk (s_iconst dX8_countCrossings_2 (by decide))) (all_c (ok_istore_n dX8_countCrossings_3 rfl (by decide)) (all_c (ok_iload_n dX8_countCrossings_4 rfl) (all_c (ok_stk (s_bipush dX8_countCrossings_5 (by decide))) (all_c (ok_icmp_ge dX8_countCrossings_7 (by decide)) (all_c (ok_iload_n dX8_countCrossings_10 rfl) (all_c (ok_aload_n dX8_countCrossings_11 rfl) (all_c (okg_X8_8 kw211 dX8_countCrossings_12) (all_c (ok_iload_n dX8_countCrossings_15 rfl) (all_c (ok_iald dX8_countCrossings_16) (all_c (ok_stk (s_iadd dX8_countCrossings_17)) (all_c (ok_istore_n dX8_countCrossings_18 rfl (by decide)) (all_c (ok_iinc dX8_countCrossings_19 (by decide) (by decide)) (all_c (ok_goto dX8_countCrossings_22 (by decide)) (all_c (ok_iload_n dX8_countCrossings_25 rfl) (all_c (ok_iret dX8_countCrossings_26) all_n)))))))))))))))))) n (fun h => by first | rfl | cases h))
theorem dX8_countPlanks_0 : decode cX8_countPlanks 0 = .ok (.iconst 0, 1) := by decide +kernel
theorem dX8_countPlanks_1 : decode cX8_countPlanks 1 = .ok (.istore_n 1, 1) := by decide +kernel
theorem dX8_countPlanks_2 : decode cX8_countPlanks 2 = .ok (.iconst 0, 1) := by decide +kernel
theorem dX8_countPlanks_3 : decode cX8_countPlanks 3 = .ok (.istore_n 2, 1) := by decide +kernel
theorem dX8_countPlanks_4 : decode cX8_countPlanks 4 = .ok (.iload_n 2, 1) := by decide +kernel
theorem dX8_countPlanks_5 : decode cX8_countPlanks 5 = .ok (.bipush 36, 2) := by decide +kernel
theorem dX8_countPlanks_7 : decode cX8_countPlanks 7 = .ok (.if_icmp .ge 22, 3) := by decide +kernel
theorem dX8_countPlanks_10 : decode cX8_countPlanks 10 = .ok (.aload_n 0, 1) := by decide +kernel
theorem dX8_countPlanks_11 : decode cX8_countPlanks 11 = .ok (.getfield 21, 3) := by decide +kernel
theorem dX8_countPlanks_14 : decode cX8_countPlanks 14 = .ok (.iload_n 2, 1) := by decide +kernel
theorem dX8_countPlanks_15 : decode cX8_countPlanks 15 = .ok (.iaload, 1) := by decide +kernel
theorem dX8_countPlanks_16 : decode cX8_countPlanks 16 = .ok (.iconst (-1), 1) := by decide +kernel
theorem dX8_countPlanks_17 : decode cX8_countPlanks 17 = .ok (.if_icmp .eq 6, 3) := by decide +kernel
theorem dX8_countPlanks_20 : decode cX8_countPlanks 20 = .ok (.iinc 1 1, 3) := by decide +kernel
theorem dX8_countPlanks_23 : decode cX8_countPlanks 23 = .ok (.iinc 2 1, 3) := by decide +kernel
theorem dX8_countPlanks_26 : decode cX8_countPlanks 26 = .ok (.goto (-22), 3) := by decide +kernel
theorem dX8_countPlanks_29 : decode cX8_countPlanks 29 = .ok (.iload_n 1, 1) := by decide +kernel
theorem dX8_countPlanks_30 : decode cX8_countPlanks 30 = .ok (.ireturn, 1) := by decide +kernel
def tX8_countPlanks (kn : sKn) : List (Nat × sA) := [(0, a_stk (q_int 0) 1), (1, a_istore 1 2), (2, a_stk (q_int 0) 3), (3, a_istore 2 4), (4, a_iload 2 5), (5, a_stk (q_int 36) 7), (7, a_icmp kn b_ge 3 29 10), (10, a_aload 0 11), (11, a_get 9 6 14), (14, a_iload 2 15), (15, a_iald 16), (16, a_stk (q_int (-1)) 17), (17, a_icmp kn b_eq 0 23 20), (20, a_iinc 1 1 23), (23, a_iinc 2 1 26), (26, a_goto 4), (29, a_iload 1 30), (30, a_iret)]
def fX8_countPlanks (kn : sKn) : List Value → sW → Option sR := fW (tX8_countPlanks kn) 3
set_option maxRecDepth 100000 in
set_option maxHeartbeats 4000000 in
theorem mX8_countPlanks (kn : sKn) : mM kn yX8_countPlanks (Cond.code yX8_countPlanks cX8_countPlanks 3 (some .int) :: wsL_law) 1 false (fX8_countPlanks kn) := mM_W (fun n => mM_of (own := RX8) (ini := false) rfl (by decide +kernel) (by decide +kernel) (all_c (ok_stk (s_iconst dX8_countPlanks_0 (by decide))) (all_c (ok_istore_n dX8_countPlanks_1 rfl (by decide)) (all_c (ok_stk (s_iconst dX8_countPlanks_2 (by decide))) (all_c (ok_istore_n dX8_countPlanks_3 rfl (by decide)) (all_c (ok_iload_n dX8_countPlanks_4 rfl) (all_c (ok_stk (s_bipush dX8_countPlanks_5 (by decide))) (all_c (ok_icmp_ge dX8_countPlanks_7 (by decide)) (all_c (ok_aload_n dX8_countPlanks_10 rfl) (all_c (okg_X8_6 kw209 dX8_countPlanks_11) (all_c (ok_iload_n dX8_countPlanks_14 rfl) (all_c (ok_iald dX8_countPlanks_15) (all_c (ok_stk (s_iconst dX8_countPlanks_16 (by decide))) (all_c (ok_icmp_eq dX8_countPlanks_17 (by decide)) (all_c (ok_iinc dX8_countPlanks_20 (by decide) (by decide)) (all_c (ok_iinc dX8_countPlanks_23 (by decide) (by decide)) (all_c (ok_goto dX8_countPlanks_26 (by decide)) (all_c (ok_iload_n dX8_countPlanks_29 rfl) (all_c (ok_iret dX8_countPlanks_30) all_n)))))))))))))))))) n (fun h => by first | rfl | cases h))
theorem dX8_deadBits_0 : decode cX8_deadBits 0 = .ok (.iconst 0, 1) := by decide +kernel
theorem dX8_deadBits_1 : decode cX8_deadBits 1 = .ok (.istore_n 2, 1) := by decide +kernel
theorem dX8_deadBits_2 : decode cX8_deadBits 2 = .ok (.iconst 0, 1) := by decide +kernel
theorem dX8_deadBits_3 : decode cX8_deadBits 3 = .ok (.istore_n 3, 1) := by decide +kernel
theorem dX8_deadBits_4 : decode cX8_deadBits 4 = .ok (.iload_n 3, 1) := by decide +kernel
theorem dX8_deadBits_5 : decode cX8_deadBits 5 = .ok (.aload_n 1, 1) := by decide +kernel
theorem dX8_deadBits_6 : decode cX8_deadBits 6 = .ok (.getfield 60, 3) := by decide +kernel
theorem dX8_deadBits_9 : decode cX8_deadBits 9 = .ok (.if_icmp .ge 23, 3) := by decide +kernel
theorem dX8_deadBits_12 : decode cX8_deadBits 12 = .ok (.aload_n 0, 1) := by decide +kernel
theorem dX8_deadBits_13 : decode cX8_deadBits 13 = .ok (.iload_n 3, 1) := by decide +kernel
theorem dX8_deadBits_14 : decode cX8_deadBits 14 = .ok (.invokevirtual 63, 3) := by decide +kernel
theorem dX8_deadBits_17 : decode cX8_deadBits 17 = .ok (.ifCond .ne 9, 3) := by decide +kernel
theorem dX8_deadBits_20 : decode cX8_deadBits 20 = .ok (.iload_n 2, 1) := by decide +kernel
theorem dX8_deadBits_21 : decode cX8_deadBits 21 = .ok (.iconst 1, 1) := by decide +kernel
theorem dX8_deadBits_22 : decode cX8_deadBits 22 = .ok (.iload_n 3, 1) := by decide +kernel
theorem dX8_deadBits_23 : decode cX8_deadBits 23 = .ok (.ishl, 1) := by decide +kernel
theorem dX8_deadBits_24 : decode cX8_deadBits 24 = .ok (.ior, 1) := by decide +kernel
theorem dX8_deadBits_25 : decode cX8_deadBits 25 = .ok (.istore_n 2, 1) := by decide +kernel
theorem dX8_deadBits_26 : decode cX8_deadBits 26 = .ok (.iinc 3 1, 3) := by decide +kernel
theorem dX8_deadBits_29 : decode cX8_deadBits 29 = .ok (.goto (-25), 3) := by decide +kernel
theorem dX8_deadBits_32 : decode cX8_deadBits 32 = .ok (.iload_n 2, 1) := by decide +kernel
theorem dX8_deadBits_33 : decode cX8_deadBits 33 = .ok (.ireturn, 1) := by decide +kernel
def tX8_deadBits (kn : sKn) : List (Nat × sA) := [(0, a_stk (q_int 0) 1), (1, a_istore 2 2), (2, a_stk (q_int 0) 3), (3, a_istore 3 4), (4, a_iload 3 5), (5, a_aload 1 6), (6, a_get 7 2 9), (9, a_icmp kn b_ge 3 32 12), (12, a_aload 0 13), (13, a_iload 3 14), (14, a_callV false (fX8_lives kn) 9 2 17), (17, a_if kn b_ne 1 26 20), (20, a_iload 2 21), (21, a_stk (q_int 1) 22), (22, a_iload 3 23), (23, a_stk q_ishl 24), (24, a_stk q_ior 25), (25, a_istore 2 26), (26, a_iinc 3 1 29), (29, a_goto 4), (32, a_iload 2 33), (33, a_iret)]
def fX8_deadBits (kn : sKn) : List Value → sW → Option sR := fW (tX8_deadBits kn) 4
set_option maxRecDepth 100000 in
set_option maxHeartbeats 4000000 in
theorem mX8_deadBits (kn : sKn) : mM kn yX8_deadBits (Cond.code yX8_deadBits cX8_deadBits 4 (some .int) :: wsL_law) 2 false (fX8_deadBits kn) := mM_W (fun n => mM_of (own := RX8) (ini := false) rfl (by decide +kernel) (by decide +kernel) (all_c (ok_stk (s_iconst dX8_deadBits_0 (by decide))) (all_c (ok_istore_n dX8_deadBits_1 rfl (by decide)) (all_c (ok_stk (s_iconst dX8_deadBits_2 (by decide))) (all_c (ok_istore_n dX8_deadBits_3 rfl (by decide)) (all_c (ok_iload_n dX8_deadBits_4 rfl) (all_c (ok_aload_n dX8_deadBits_5 rfl) (all_c (okg_X6_2 kw333 dX8_deadBits_6) (all_c (ok_icmp_ge dX8_deadBits_9 (by decide)) (all_c (ok_aload_n dX8_deadBits_12 rfl) (all_c (ok_iload_n dX8_deadBits_13 rfl) (all_c (okc_X8_lives (by decide) kw327 dX8_deadBits_14) (all_c (ok_if_ne dX8_deadBits_17 (by decide)) (all_c (ok_iload_n dX8_deadBits_20 rfl) (all_c (ok_stk (s_iconst dX8_deadBits_21 (by decide))) (all_c (ok_iload_n dX8_deadBits_22 rfl) (all_c (ok_stk (s_ishl dX8_deadBits_23)) (all_c (ok_stk (s_ior dX8_deadBits_24)) (all_c (ok_istore_n dX8_deadBits_25 rfl (by decide)) (all_c (ok_iinc dX8_deadBits_26 (by decide) (by decide)) (all_c (ok_goto dX8_deadBits_29 (by decide)) (all_c (ok_iload_n dX8_deadBits_32 rfl) (all_c (ok_iret dX8_deadBits_33) all_n)))))))))))))))))))))) n (fun h => by first | rfl | cases h))
theorem dX11_now_0 : decode cX11_now 0 = .ok (.iload_n 1, 1) := by decide +kernel
theorem dX11_now_1 : decode cX11_now 1 = .ok (.tableswitch 111 0 6 #[43, 51, 63, 71, 79, 87, 95], 43) := by decide +kernel
theorem dX11_now_44 : decode cX11_now 44 = .ok (.aload_n 0, 1) := by decide +kernel
theorem dX11_now_45 : decode cX11_now 45 = .ok (.getfield 33, 3) := by decide +kernel
theorem dX11_now_48 : decode cX11_now 48 = .ok (.getfield 216, 3) := by decide +kernel
theorem dX11_now_51 : decode cX11_now 51 = .ok (.ireturn, 1) := by decide +kernel
theorem dX11_now_52 : decode cX11_now 52 = .ok (.aload_n 0, 1) := by decide +kernel
theorem dX11_now_53 : decode cX11_now 53 = .ok (.getfield 33, 3) := by decide +kernel
theorem dX11_now_56 : decode cX11_now 56 = .ok (.aload_n 0, 1) := by decide +kernel
theorem dX11_now_57 : decode cX11_now 57 = .ok (.getfield 26, 3) := by decide +kernel
theorem dX11_now_60 : decode cX11_now 60 = .ok (.invokevirtual 219, 3) := by decide +kernel
theorem dX11_now_63 : decode cX11_now 63 = .ok (.ireturn, 1) := by decide +kernel
theorem dX11_now_64 : decode cX11_now 64 = .ok (.aload_n 0, 1) := by decide +kernel
theorem dX11_now_65 : decode cX11_now 65 = .ok (.getfield 33, 3) := by decide +kernel
theorem dX11_now_68 : decode cX11_now 68 = .ok (.invokevirtual 223, 3) := by decide +kernel
theorem dX11_now_71 : decode cX11_now 71 = .ok (.ireturn, 1) := by decide +kernel
theorem dX11_now_72 : decode cX11_now 72 = .ok (.aload_n 0, 1) := by decide +kernel
theorem dX11_now_73 : decode cX11_now 73 = .ok (.getfield 33, 3) := by decide +kernel
theorem dX11_now_76 : decode cX11_now 76 = .ok (.getfield 210, 3) := by decide +kernel
theorem dX11_now_79 : decode cX11_now 79 = .ok (.ireturn, 1) := by decide +kernel
theorem dX11_now_80 : decode cX11_now 80 = .ok (.aload_n 0, 1) := by decide +kernel
theorem dX11_now_81 : decode cX11_now 81 = .ok (.getfield 33, 3) := by decide +kernel
theorem dX11_now_84 : decode cX11_now 84 = .ok (.invokevirtual 227, 3) := by decide +kernel
theorem dX11_now_87 : decode cX11_now 87 = .ok (.ireturn, 1) := by decide +kernel
theorem dX11_now_88 : decode cX11_now 88 = .ok (.aload_n 0, 1) := by decide +kernel
theorem dX11_now_89 : decode cX11_now 89 = .ok (.getfield 33, 3) := by decide +kernel
theorem dX11_now_92 : decode cX11_now 92 = .ok (.getfield 230, 3) := by decide +kernel
theorem dX11_now_95 : decode cX11_now 95 = .ok (.ireturn, 1) := by decide +kernel
theorem dX11_now_96 : decode cX11_now 96 = .ok (.aload_n 0, 1) := by decide +kernel
theorem dX11_now_97 : decode cX11_now 97 = .ok (.getfield 57, 3) := by decide +kernel
theorem dX11_now_100 : decode cX11_now 100 = .ok (.aload_n 0, 1) := by decide +kernel
theorem dX11_now_101 : decode cX11_now 101 = .ok (.getfield 26, 3) := by decide +kernel
theorem dX11_now_104 : decode cX11_now 104 = .ok (.aload_n 0, 1) := by decide +kernel
theorem dX11_now_105 : decode cX11_now 105 = .ok (.getfield 33, 3) := by decide +kernel
theorem dX11_now_108 : decode cX11_now 108 = .ok (.invokevirtual 233, 3) := by decide +kernel
theorem dX11_now_111 : decode cX11_now 111 = .ok (.ireturn, 1) := by decide +kernel
theorem dX11_now_112 : decode cX11_now 112 = .ok (.iconst (-1), 1) := by decide +kernel
theorem dX11_now_113 : decode cX11_now 113 = .ok (.ireturn, 1) := by decide +kernel
theorem okc_X8_deadBits {kn : sKn} {cc : ByteArray} {own : String} {nL : Nat} {D : Nat} {ret : Option FieldType} {ini : Bool} {pc index : Nat} (hD : 2 + 1 ≤ D) (hl : Cond.methodLink own index yX8_deadBits ∈ wsL_law) (hd : decode cc pc = .ok (.invokevirtual index, 3)) : mOk kn cc own nL wsL_law D ret ini pc (a_callV false (fX8_deadBits kn) 9 (1 + 1) (pc + 3)) := ok_callV (mX8_deadBits kn) (good_ws ws_good (fun _ h => h) kw906) hD (by decide) hl kw907 kw908 kw184 ⟨by decide +kernel, by decide +kernel, by decide +kernel⟩ rfl hd
theorem okc_X8_countPlanks {kn : sKn} {cc : ByteArray} {own : String} {nL : Nat} {D : Nat} {ret : Option FieldType} {ini : Bool} {pc index : Nat} (hD : 1 + 1 ≤ D) (hl : Cond.methodLink own index yX8_countPlanks ∈ wsL_law) (hd : decode cc pc = .ok (.invokevirtual index, 3)) : mOk kn cc own nL wsL_law D ret ini pc (a_callV false (fX8_countPlanks kn) 9 (0 + 1) (pc + 3)) := ok_callV (mX8_countPlanks kn) (good_ws ws_good (fun _ h => h) kw910) hD (by decide) hl kw911 kw912 kw184 ⟨by decide +kernel, by decide +kernel, by decide +kernel⟩ rfl hd
theorem okc_X8_countCrossings {kn : sKn} {cc : ByteArray} {own : String} {nL : Nat} {D : Nat} {ret : Option FieldType} {ini : Bool} {pc index : Nat} (hD : 1 + 1 ≤ D) (hl : Cond.methodLink own index yX8_countCrossings ∈ wsL_law) (hd : decode cc pc = .ok (.invokevirtual index, 3)) : mOk kn cc own nL wsL_law D ret ini pc (a_callV false (fX8_countCrossings kn) 9 (0 + 1) (pc + 3)) := ok_callV (mX8_countCrossings kn) (good_ws ws_good (fun _ h => h) kw914) hD (by decide) hl kw915 kw916 kw184 ⟨by decide +kernel, by decide +kernel, by decide +kernel⟩ rfl hd
theorem okc_X10_bearInAll {kn : sKn} {cc : ByteArray} {own : String} {nL : Nat} {D : Nat} {ret : Option FieldType} {ini : Bool} {pc index : Nat} (hD : 4 + 1 ≤ D) (hl : Cond.methodLink own index yX10_bearInAll ∈ wsL_law) (hd : decode cc pc = .ok (.invokevirtual index, 3)) : mOk kn cc own nL wsL_law D ret ini pc (a_callV false (fX10_bearInAll kn) 11 (2 + 1) (pc + 3)) := ok_callV (mX10_bearInAll kn) (good_ws ws_good (fun _ h => h) kw919) hD (by decide) hl kw920 kw921 kw170 ⟨by decide +kernel, by decide +kernel, by decide +kernel⟩ rfl hd
def tX11_now (kn : sKn) : List (Nat × sA) := [(0, a_iload 1 1), (1, a_table kn 0 6 [44, 52, 64, 72, 80, 88, 96] 112), (44, a_aload 0 45), (45, a_get 12 3 48), (48, a_get 9 0 51), (51, a_iret), (52, a_aload 0 53), (53, a_get 12 3 56), (56, a_aload 0 57), (57, a_get 12 2 60), (60, a_callV false (fX8_deadBits kn) 9 2 63), (63, a_iret), (64, a_aload 0 65), (65, a_get 12 3 68), (68, a_callV false (fX8_countPlanks kn) 9 1 71), (71, a_iret), (72, a_aload 0 73), (73, a_get 12 3 76), (76, a_get 9 2 79), (79, a_iret), (80, a_aload 0 81), (81, a_get 12 3 84), (84, a_callV false (fX8_countCrossings kn) 9 1 87), (87, a_iret), (88, a_aload 0 89), (89, a_get 12 3 92), (92, a_get 9 1 95), (95, a_iret), (96, a_aload 0 97), (97, a_get 12 7 100), (100, a_aload 0 101), (101, a_get 12 2 104), (104, a_aload 0 105), (105, a_get 12 3 108), (108, a_callV false (fX10_bearInAll kn) 11 3 111), (111, a_iret), (112, a_stk (q_int (-1)) 113), (113, a_iret)]
def fX11_now (kn : sKn) : List Value → sW → Option sR := fW (tX11_now kn) 2
set_option maxRecDepth 100000 in
set_option maxHeartbeats 4000000 in
theorem mX11_now (kn : sKn) : mM kn yX11_now (Cond.code yX11_now cX11_now 2 (some .int) :: wsL_law) 5 false (fX11_now kn) := mM_W (fun n => mM_of (own := RX11) (ini := false) rfl (by decide +kernel) (by decide +kernel) (all_c (ok_iload_n dX11_now_0 rfl) (all_c (ok_table dX11_now_1 (by decide) (by decide) (by decide) (by decide)) (all_c (ok_aload_n dX11_now_44 rfl) (all_c (okg_X11_3 kw292 dX11_now_45) (all_c (okg_X8_0 kw905 dX11_now_48) (all_c (ok_iret dX11_now_51) (all_c (ok_aload_n dX11_now_52 rfl) (all_c (okg_X11_3 kw292 dX11_now_53) (all_c (ok_aload_n dX11_now_56 rfl) (all_c (okg_X11_2 kw291 dX11_now_57) (all_c (okc_X8_deadBits (by decide) kw909 dX11_now_60) (all_c (ok_iret dX11_now_63) (all_c (ok_aload_n dX11_now_64 rfl) (all_c (okg_X11_3 kw292 dX11_now_65) (all_c (okc_X8_countPlanks (by decide) kw913 dX11_now_68) (all_c (ok_iret dX11_now_71) (all_c (ok_aload_n dX11_now_72 rfl) (all_c (okg_X11_3 kw292 dX11_now_73) (all_c (okg_X8_2 kw903 dX11_now_76) (all_c (ok_iret dX11_now_79) (all_c (ok_aload_n dX11_now_80 rfl) (all_c (okg_X11_3 kw292 dX11_now_81) (all_c (okc_X8_countCrossings (by decide) kw917 dX11_now_84) (all_c (ok_iret dX11_now_87) (all_c (ok_aload_n dX11_now_88 rfl) (all_c (okg_X11_3 kw292 dX11_now_89) (all_c (okg_X8_1 kw918 dX11_now_92) (all_c (ok_iret dX11_now_95) (all_c (ok_aload_n dX11_now_96 rfl) (all_c (okg_X11_7 kw290 dX11_now_97) (all_c (ok_aload_n dX11_now_100 rfl) (all_c (okg_X11_2 kw291 dX11_now_101) (all_c (ok_aload_n dX11_now_104 rfl) (all_c (okg_X11_3 kw292 dX11_now_105) (all_c (okc_X10_bearInAll (by decide) kw922 dX11_now_108) (all_c (ok_iret dX11_now_111) (all_c (ok_stk (s_iconst dX11_now_112 (by decide))) (all_c (ok_iret dX11_now_113) all_n)))))))))))))))))))))))))))))))))))))) n (fun h => by first | rfl | cases h))
theorem dX4_countOdds_0 : decode cX4_countOdds 0 = .ok (.iconst 0, 1) := by decide +kernel
theorem dX4_countOdds_1 : decode cX4_countOdds 1 = .ok (.istore 7, 2) := by decide +kernel
theorem dX4_countOdds_3 : decode cX4_countOdds 3 = .ok (.iconst 0, 1) := by decide +kernel
theorem dX4_countOdds_4 : decode cX4_countOdds 4 = .ok (.istore 8, 2) := by decide +kernel
theorem dX4_countOdds_6 : decode cX4_countOdds 6 = .ok (.iload 8, 2) := by decide +kernel
theorem dX4_countOdds_8 : decode cX4_countOdds 8 = .ok (.iload 5, 2) := by decide +kernel
theorem dX4_countOdds_10 : decode cX4_countOdds 10 = .ok (.if_icmp .ge 52, 3) := by decide +kernel
theorem dX4_countOdds_13 : decode cX4_countOdds 13 = .ok (.aload_n 0, 1) := by decide +kernel
theorem dX4_countOdds_14 : decode cX4_countOdds 14 = .ok (.getfield 12, 3) := by decide +kernel
theorem dX4_countOdds_17 : decode cX4_countOdds 17 = .ok (.aload_n 2, 1) := by decide +kernel
theorem dX4_countOdds_18 : decode cX4_countOdds 18 = .ok (.invokevirtual 31, 3) := by decide +kernel
theorem dX4_countOdds_21 : decode cX4_countOdds 21 = .ok (.aload_n 0, 1) := by decide +kernel
theorem dX4_countOdds_22 : decode cX4_countOdds 22 = .ok (.aload_n 1, 1) := by decide +kernel
theorem dX4_countOdds_23 : decode cX4_countOdds 23 = .ok (.aload_n 0, 1) := by decide +kernel
theorem dX4_countOdds_24 : decode cX4_countOdds 24 = .ok (.getfield 12, 3) := by decide +kernel
theorem dX4_countOdds_27 : decode cX4_countOdds 27 = .ok (.aload_n 3, 1) := by decide +kernel
theorem dX4_countOdds_28 : decode cX4_countOdds 28 = .ok (.bipush 20, 2) := by decide +kernel
theorem dX4_countOdds_30 : decode cX4_countOdds 30 = .ok (.iload 6, 2) := by decide +kernel
theorem dX4_countOdds_32 : decode cX4_countOdds 32 = .ok (.iload 8, 2) := by decide +kernel
theorem dX4_countOdds_34 : decode cX4_countOdds 34 = .ok (.iadd, 1) := by decide +kernel
theorem dX4_countOdds_35 : decode cX4_countOdds 35 = .ok (.invokevirtual 85, 3) := by decide +kernel
theorem dX4_countOdds_38 : decode cX4_countOdds 38 = .ok (.pop, 1) := by decide +kernel
theorem dX4_countOdds_39 : decode cX4_countOdds 39 = .ok (.aload_n 3, 1) := by decide +kernel
theorem dX4_countOdds_40 : decode cX4_countOdds 40 = .ok (.aload_n 1, 1) := by decide +kernel
theorem dX4_countOdds_41 : decode cX4_countOdds 41 = .ok (.aload_n 0, 1) := by decide +kernel
theorem dX4_countOdds_42 : decode cX4_countOdds 42 = .ok (.getfield 12, 3) := by decide +kernel
theorem dX4_countOdds_45 : decode cX4_countOdds 45 = .ok (.iload 4, 2) := by decide +kernel
theorem dX4_countOdds_47 : decode cX4_countOdds 47 = .ok (.invokevirtual 71, 3) := by decide +kernel
theorem dX4_countOdds_50 : decode cX4_countOdds 50 = .ok (.ifCond .eq 6, 3) := by decide +kernel
theorem dX4_countOdds_53 : decode cX4_countOdds 53 = .ok (.iinc 7 1, 3) := by decide +kernel
theorem dX4_countOdds_56 : decode cX4_countOdds 56 = .ok (.iinc 8 1, 3) := by decide +kernel
theorem dX4_countOdds_59 : decode cX4_countOdds 59 = .ok (.goto (-53), 3) := by decide +kernel
theorem dX4_countOdds_62 : decode cX4_countOdds 62 = .ok (.iload 7, 2) := by decide +kernel
theorem dX4_countOdds_64 : decode cX4_countOdds 64 = .ok (.ireturn, 1) := by decide +kernel
def tX4_countOdds (kn : sKn) : List (Nat × sA) := [(0, a_stk (q_int 0) 1), (1, a_istore 7 3), (3, a_stk (q_int 0) 4), (4, a_istore 8 6), (6, a_iload 8 8), (8, a_iload 5 10), (10, a_icmp kn b_ge 3 62 13), (13, a_aload 0 14), (14, a_get 5 0 17), (17, a_aload 2 18), (18, a_callV true (fX8_copyOf kn) 9 2 21), (21, a_aload 0 22), (22, a_aload 1 23), (23, a_aload 0 24), (24, a_get 5 0 27), (27, a_aload 3 28), (28, a_stk (q_int 20) 30), (30, a_iload 6 32), (32, a_iload 8 34), (34, a_stk q_iadd 35), (35, a_callV false (fX4_drawDays kn) 5 6 38), (38, a_stk q_pop 39), (39, a_aload 3 40), (40, a_aload 1 41), (41, a_aload 0 42), (42, a_get 5 0 45), (45, a_iload 4 47), (47, a_callV false (fX10_hasPath kn) 11 4 50), (50, a_if kn b_eq 0 56 53), (53, a_iinc 7 1 56), (56, a_iinc 8 1 59), (59, a_goto 6), (62, a_iload 7 64), (64, a_iret)]
def fX4_countOdds (kn : sKn) : List Value → sW → Option sR := fW (tX4_countOdds kn) 9
set_option maxRecDepth 100000 in
set_option maxHeartbeats 4000000 in
theorem mX4_countOdds (kn : sKn) : mM kn yX4_countOdds (Cond.code yX4_countOdds cX4_countOdds 9 (some .int) :: wsL_law) 6 false (fX4_countOdds kn) := mM_W (fun n => mM_of (own := RX4) (ini := false) rfl (by decide +kernel) (by decide +kernel) (all_c (ok_stk (s_iconst dX4_countOdds_0 (by decide))) (all_c (ok_istore dX4_countOdds_1 (by decide)) (all_c (ok_stk (s_iconst dX4_countOdds_3 (by decide))) (all_c (ok_istore dX4_countOdds_4 (by decide)) (all_c (ok_iload dX4_countOdds_6) (all_c (ok_iload dX4_countOdds_8) (all_c (ok_icmp_ge dX4_countOdds_10 (by decide)) (all_c (ok_aload_n dX4_countOdds_13 rfl) (all_c (okg_X4_0 kw827 dX4_countOdds_14) (all_c (ok_aload_n dX4_countOdds_17 rfl) (all_c (okc_X8_copyOf (by decide) kw874 dX4_countOdds_18) (all_c (ok_aload_n dX4_countOdds_21 rfl) (all_c (ok_aload_n dX4_countOdds_22 rfl) (all_c (ok_aload_n dX4_countOdds_23 rfl) (all_c (okg_X4_0 kw827 dX4_countOdds_24) (all_c (ok_aload_n dX4_countOdds_27 rfl) (all_c (ok_stk (s_bipush dX4_countOdds_28 (by decide))) (all_c (ok_iload dX4_countOdds_30) (all_c (ok_iload dX4_countOdds_32) (all_c (ok_stk (s_iadd dX4_countOdds_34)) (all_c (okc_X4_drawDays (by decide) kw923 dX4_countOdds_35) (all_c (ok_stk (s_pop dX4_countOdds_38)) (all_c (ok_aload_n dX4_countOdds_39 rfl) (all_c (ok_aload_n dX4_countOdds_40 rfl) (all_c (ok_aload_n dX4_countOdds_41 rfl) (all_c (okg_X4_0 kw827 dX4_countOdds_42) (all_c (ok_iload dX4_countOdds_45) (all_c (okc_X10_hasPath (by decide) kw886 dX4_countOdds_47) (all_c (ok_if_eq dX4_countOdds_50 (by decide)) (all_c (ok_iinc dX4_countOdds_53 (by decide) (by decide)) (all_c (ok_iinc dX4_countOdds_56 (by decide) (by decide)) (all_c (ok_goto dX4_countOdds_59 (by decide)) (all_c (ok_iload dX4_countOdds_62) (all_c (ok_iret dX4_countOdds_64) all_n)))))))))))))))))))))))))))))))))) n (fun h => by first | rfl | cases h))
theorem dX11_odds_0 : decode cX11_odds 0 = .ok (.aload_n 0, 1) := by decide +kernel
theorem dX11_odds_1 : decode cX11_odds 1 = .ok (.iload_n 1, 1) := by decide +kernel
theorem dX11_odds_2 : decode cX11_odds 2 = .ok (.invokevirtual 201, 3) := by decide +kernel
theorem dX11_odds_5 : decode cX11_odds 5 = .ok (.ifCond .eq 24, 3) := by decide +kernel
theorem dX11_odds_8 : decode cX11_odds 8 = .ok (.iload_n 2, 1) := by decide +kernel
theorem dX11_odds_9 : decode cX11_odds 9 = .ok (.iconst 1, 1) := by decide +kernel
theorem dX11_odds_10 : decode cX11_odds 10 = .ok (.if_icmp .lt 19, 3) := by decide +kernel
theorem dX11_odds_13 : decode cX11_odds 13 = .ok (.iload_n 2, 1) := by decide +kernel
theorem dX11_odds_14 : decode cX11_odds 14 = .ok (.bipush 30, 2) := by decide +kernel
theorem dX11_odds_16 : decode cX11_odds 16 = .ok (.if_icmp .gt 13, 3) := by decide +kernel
theorem dX11_odds_19 : decode cX11_odds 19 = .ok (.aload_n 0, 1) := by decide +kernel
theorem dX11_odds_20 : decode cX11_odds 20 = .ok (.getfield 26, 3) := by decide +kernel
theorem dX11_odds_23 : decode cX11_odds 23 = .ok (.getfield 369, 3) := by decide +kernel
theorem dX11_odds_26 : decode cX11_odds 26 = .ok (.ifCond .ne 5, 3) := by decide +kernel
theorem dX11_odds_29 : decode cX11_odds 29 = .ok (.iconst (-1), 1) := by decide +kernel
theorem dX11_odds_30 : decode cX11_odds 30 = .ok (.ireturn, 1) := by decide +kernel
theorem dX11_odds_31 : decode cX11_odds 31 = .ok (.aload_n 0, 1) := by decide +kernel
theorem dX11_odds_32 : decode cX11_odds 32 = .ok (.getfield 85, 3) := by decide +kernel
theorem dX11_odds_35 : decode cX11_odds 35 = .ok (.aload_n 0, 1) := by decide +kernel
theorem dX11_odds_36 : decode cX11_odds 36 = .ok (.getfield 26, 3) := by decide +kernel
theorem dX11_odds_39 : decode cX11_odds 39 = .ok (.aload_n 0, 1) := by decide +kernel
theorem dX11_odds_40 : decode cX11_odds 40 = .ok (.getfield 33, 3) := by decide +kernel
theorem dX11_odds_43 : decode cX11_odds 43 = .ok (.aload_n 0, 1) := by decide +kernel
theorem dX11_odds_44 : decode cX11_odds 44 = .ok (.getfield 57, 3) := by decide +kernel
theorem dX11_odds_47 : decode cX11_odds 47 = .ok (.iload_n 1, 1) := by decide +kernel
theorem dX11_odds_48 : decode cX11_odds 48 = .ok (.iload_n 2, 1) := by decide +kernel
theorem dX11_odds_49 : decode cX11_odds 49 = .ok (.iload_n 3, 1) := by decide +kernel
theorem dX11_odds_50 : decode cX11_odds 50 = .ok (.invokevirtual 375, 3) := by decide +kernel
theorem dX11_odds_53 : decode cX11_odds 53 = .ok (.ireturn, 1) := by decide +kernel
theorem okc_X4_countOdds {kn : sKn} {cc : ByteArray} {own : String} {nL : Nat} {D : Nat} {ret : Option FieldType} {ini : Bool} {pc index : Nat} (hD : 6 + 1 ≤ D) (hl : Cond.methodLink own index yX4_countOdds ∈ wsL_law) (hd : decode cc pc = .ok (.invokevirtual index, 3)) : mOk kn cc own nL wsL_law D ret ini pc (a_callV false (fX4_countOdds kn) 5 (6 + 1) (pc + 3)) := ok_callV (mX4_countOdds kn) (good_ws ws_good (fun _ h => h) kw924) hD (by decide) hl kw925 kw926 kw716 ⟨by decide +kernel, by decide +kernel, by decide +kernel⟩ rfl hd
def tX11_odds (kn : sKn) : List (Nat × sA) := [(0, a_aload 0 1), (1, a_iload 1 2), (2, a_callV false (fX11_isLoad kn) 12 2 5), (5, a_if kn b_eq 0 29 8), (8, a_iload 2 9), (9, a_stk (q_int 1) 10), (10, a_icmp kn b_lt 2 29 13), (13, a_iload 2 14), (14, a_stk (q_int 30) 16), (16, a_icmp kn b_gt 4 29 19), (19, a_aload 0 20), (20, a_get 12 2 23), (23, a_get 7 2 26), (26, a_if kn b_ne 1 31 29), (29, a_stk (q_int (-1)) 30), (30, a_iret), (31, a_aload 0 32), (32, a_get 12 11 35), (35, a_aload 0 36), (36, a_get 12 2 39), (39, a_aload 0 40), (40, a_get 12 3 43), (43, a_aload 0 44), (44, a_get 12 7 47), (47, a_iload 1 48), (48, a_iload 2 49), (49, a_iload 3 50), (50, a_callV false (fX4_countOdds kn) 5 7 53), (53, a_iret)]
def fX11_odds (kn : sKn) : List Value → sW → Option sR := fW (tX11_odds kn) 4
set_option maxRecDepth 100000 in
set_option maxHeartbeats 4000000 in
theorem mX11_odds (kn : sKn) : mM kn yX11_odds (Cond.code yX11_odds cX11_odds 4 (some .int) :: wsL_law) 7 false (fX11_odds kn) := mM_W (fun n => mM_of (own := RX11) (ini := false) rfl (by decide +kernel) (by decide +kernel) (all_c (ok_aload_n dX11_odds_0 rfl) (all_c (ok_iload_n dX11_odds_1 rfl) (all_c (okc_X11_isLoad (by decide) kw317 dX11_odds_2) (all_c (ok_if_eq dX11_odds_5 (by decide)) (all_c (ok_iload_n dX11_odds_8 rfl) (all_c (ok_stk (s_iconst dX11_odds_9 (by decide))) (all_c (ok_icmp_lt dX11_odds_10 (by decide)) (all_c (ok_iload_n dX11_odds_13 rfl) (all_c (ok_stk (s_bipush dX11_odds_14 (by decide))) (all_c (ok_icmp_gt dX11_odds_16 (by decide)) (all_c (ok_aload_n dX11_odds_19 rfl) (all_c (okg_X11_2 kw291 dX11_odds_20) (all_c (okg_X6_2 kw515 dX11_odds_23) (all_c (ok_if_ne dX11_odds_26 (by decide)) (all_c (ok_stk (s_iconst dX11_odds_29 (by decide))) (all_c (ok_iret dX11_odds_30) (all_c (ok_aload_n dX11_odds_31 rfl) (all_c (okg_X11_11 kw735 dX11_odds_32) (all_c (ok_aload_n dX11_odds_35 rfl) (all_c (okg_X11_2 kw291 dX11_odds_36) (all_c (ok_aload_n dX11_odds_39 rfl) (all_c (okg_X11_3 kw292 dX11_odds_40) (all_c (ok_aload_n dX11_odds_43 rfl) (all_c (okg_X11_7 kw290 dX11_odds_44) (all_c (ok_iload_n dX11_odds_47 rfl) (all_c (ok_iload_n dX11_odds_48 rfl) (all_c (ok_iload_n dX11_odds_49 rfl) (all_c (okc_X4_countOdds (by decide) kw927 dX11_odds_50) (all_c (ok_iret dX11_odds_53) all_n))))))))))))))))))))))))))))) n (fun h => by first | rfl | cases h))
theorem dX4_nextLoad_0 : decode cX4_nextLoad 0 = .ok (.iconst 0, 1) := by decide +kernel
theorem dX4_nextLoad_1 : decode cX4_nextLoad 1 = .ok (.istore 5, 2) := by decide +kernel
theorem dX4_nextLoad_3 : decode cX4_nextLoad 3 = .ok (.iconst 0, 1) := by decide +kernel
theorem dX4_nextLoad_4 : decode cX4_nextLoad 4 = .ok (.istore 6, 2) := by decide +kernel
theorem dX4_nextLoad_6 : decode cX4_nextLoad 6 = .ok (.iload 6, 2) := by decide +kernel
theorem dX4_nextLoad_8 : decode cX4_nextLoad 8 = .ok (.aload_n 1, 1) := by decide +kernel
theorem dX4_nextLoad_9 : decode cX4_nextLoad 9 = .ok (.getfield 54, 3) := by decide +kernel
theorem dX4_nextLoad_12 : decode cX4_nextLoad 12 = .ok (.if_icmp .ge 92, 3) := by decide +kernel
theorem dX4_nextLoad_15 : decode cX4_nextLoad 15 = .ok (.iload_n 3, 1) := by decide +kernel
theorem dX4_nextLoad_16 : decode cX4_nextLoad 16 = .ok (.iload 6, 2) := by decide +kernel
theorem dX4_nextLoad_18 : decode cX4_nextLoad 18 = .ok (.ishr, 1) := by decide +kernel
theorem dX4_nextLoad_19 : decode cX4_nextLoad 19 = .ok (.iconst 1, 1) := by decide +kernel
theorem dX4_nextLoad_20 : decode cX4_nextLoad 20 = .ok (.iand, 1) := by decide +kernel
theorem dX4_nextLoad_21 : decode cX4_nextLoad 21 = .ok (.ifCond .ne 6, 3) := by decide +kernel
theorem dX4_nextLoad_24 : decode cX4_nextLoad 24 = .ok (.goto 74, 3) := by decide +kernel
theorem dX4_nextLoad_27 : decode cX4_nextLoad 27 = .ok (.iload 6, 2) := by decide +kernel
theorem dX4_nextLoad_29 : decode cX4_nextLoad 29 = .ok (.istore 5, 2) := by decide +kernel
theorem dX4_nextLoad_31 : decode cX4_nextLoad 31 = .ok (.iload 4, 2) := by decide +kernel
theorem dX4_nextLoad_33 : decode cX4_nextLoad 33 = .ok (.iload 6, 2) := by decide +kernel
theorem dX4_nextLoad_35 : decode cX4_nextLoad 35 = .ok (.ishr, 1) := by decide +kernel
theorem dX4_nextLoad_36 : decode cX4_nextLoad 36 = .ok (.iconst 1, 1) := by decide +kernel
theorem dX4_nextLoad_37 : decode cX4_nextLoad 37 = .ok (.iand, 1) := by decide +kernel
theorem dX4_nextLoad_38 : decode cX4_nextLoad 38 = .ok (.ifCond .eq 6, 3) := by decide +kernel
theorem dX4_nextLoad_41 : decode cX4_nextLoad 41 = .ok (.iload 6, 2) := by decide +kernel
theorem dX4_nextLoad_43 : decode cX4_nextLoad 43 = .ok (.ireturn, 1) := by decide +kernel
theorem dX4_nextLoad_44 : decode cX4_nextLoad 44 = .ok (.aload_n 0, 1) := by decide +kernel
theorem dX4_nextLoad_45 : decode cX4_nextLoad 45 = .ok (.getfield 18, 3) := by decide +kernel
theorem dX4_nextLoad_48 : decode cX4_nextLoad 48 = .ok (.aload_n 0, 1) := by decide +kernel
theorem dX4_nextLoad_49 : decode cX4_nextLoad 49 = .ok (.getfield 12, 3) := by decide +kernel
theorem dX4_nextLoad_52 : decode cX4_nextLoad 52 = .ok (.invokevirtual 31, 3) := by decide +kernel
theorem dX4_nextLoad_55 : decode cX4_nextLoad 55 = .ok (.aload_n 2, 1) := by decide +kernel
theorem dX4_nextLoad_56 : decode cX4_nextLoad 56 = .ok (.aload_n 1, 1) := by decide +kernel
theorem dX4_nextLoad_57 : decode cX4_nextLoad 57 = .ok (.aload_n 0, 1) := by decide +kernel
theorem dX4_nextLoad_58 : decode cX4_nextLoad 58 = .ok (.getfield 18, 3) := by decide +kernel
theorem dX4_nextLoad_61 : decode cX4_nextLoad 61 = .ok (.iload 6, 2) := by decide +kernel
theorem dX4_nextLoad_63 : decode cX4_nextLoad 63 = .ok (.invokevirtual 67, 3) := by decide +kernel
theorem dX4_nextLoad_66 : decode cX4_nextLoad 66 = .ok (.pop, 1) := by decide +kernel
theorem dX4_nextLoad_67 : decode cX4_nextLoad 67 = .ok (.aload_n 2, 1) := by decide +kernel
theorem dX4_nextLoad_68 : decode cX4_nextLoad 68 = .ok (.aload_n 1, 1) := by decide +kernel
theorem dX4_nextLoad_69 : decode cX4_nextLoad 69 = .ok (.aload_n 0, 1) := by decide +kernel
theorem dX4_nextLoad_70 : decode cX4_nextLoad 70 = .ok (.getfield 18, 3) := by decide +kernel
theorem dX4_nextLoad_73 : decode cX4_nextLoad 73 = .ok (.invokevirtual 42, 3) := by decide +kernel
theorem dX4_nextLoad_76 : decode cX4_nextLoad 76 = .ok (.iload 4, 2) := by decide +kernel
theorem dX4_nextLoad_78 : decode cX4_nextLoad 78 = .ok (.iand, 1) := by decide +kernel
theorem dX4_nextLoad_79 : decode cX4_nextLoad 79 = .ok (.iload 4, 2) := by decide +kernel
theorem dX4_nextLoad_81 : decode cX4_nextLoad 81 = .ok (.if_icmp .ne 17, 3) := by decide +kernel
theorem dX4_nextLoad_84 : decode cX4_nextLoad 84 = .ok (.aload_n 0, 1) := by decide +kernel
theorem dX4_nextLoad_85 : decode cX4_nextLoad 85 = .ok (.getfield 12, 3) := by decide +kernel
theorem dX4_nextLoad_88 : decode cX4_nextLoad 88 = .ok (.aload_n 0, 1) := by decide +kernel
theorem dX4_nextLoad_89 : decode cX4_nextLoad 89 = .ok (.getfield 18, 3) := by decide +kernel
theorem dX4_nextLoad_92 : decode cX4_nextLoad 92 = .ok (.invokevirtual 31, 3) := by decide +kernel
theorem dX4_nextLoad_95 : decode cX4_nextLoad 95 = .ok (.iload 6, 2) := by decide +kernel
theorem dX4_nextLoad_97 : decode cX4_nextLoad 97 = .ok (.ireturn, 1) := by decide +kernel
theorem dX4_nextLoad_98 : decode cX4_nextLoad 98 = .ok (.iinc 6 1, 3) := by decide +kernel
theorem dX4_nextLoad_101 : decode cX4_nextLoad 101 = .ok (.goto (-95), 3) := by decide +kernel
theorem dX4_nextLoad_104 : decode cX4_nextLoad 104 = .ok (.iload 5, 2) := by decide +kernel
theorem dX4_nextLoad_106 : decode cX4_nextLoad 106 = .ok (.ireturn, 1) := by decide +kernel
def tX4_nextLoad (kn : sKn) : List (Nat × sA) := [(0, a_stk (q_int 0) 1), (1, a_istore 5 3), (3, a_stk (q_int 0) 4), (4, a_istore 6 6), (6, a_iload 6 8), (8, a_aload 1 9), (9, a_get 7 3 12), (12, a_icmp kn b_ge 3 104 15), (15, a_iload 3 16), (16, a_iload 6 18), (18, a_stk q_ishr 19), (19, a_stk (q_int 1) 20), (20, a_stk q_iand 21), (21, a_if kn b_ne 1 27 24), (24, a_goto 98), (27, a_iload 6 29), (29, a_istore 5 31), (31, a_iload 4 33), (33, a_iload 6 35), (35, a_stk q_ishr 36), (36, a_stk (q_int 1) 37), (37, a_stk q_iand 38), (38, a_if kn b_eq 0 44 41), (41, a_iload 6 43), (43, a_iret), (44, a_aload 0 45), (45, a_get 5 1 48), (48, a_aload 0 49), (49, a_get 5 0 52), (52, a_callV true (fX8_copyOf kn) 9 2 55), (55, a_aload 2 56), (56, a_aload 1 57), (57, a_aload 0 58), (58, a_get 5 1 61), (61, a_iload 6 63), (63, a_callV false (fX10_tryCrossing kn) 11 4 66), (66, a_stk q_pop 67), (67, a_aload 2 68), (68, a_aload 1 69), (69, a_aload 0 70), (70, a_get 5 1 73), (73, a_callV false (fX10_ableLoads kn) 11 3 76), (76, a_iload 4 78), (78, a_stk q_iand 79), (79, a_iload 4 81), (81, a_icmp kn b_ne 1 98 84), (84, a_aload 0 85), (85, a_get 5 0 88), (88, a_aload 0 89), (89, a_get 5 1 92), (92, a_callV true (fX8_copyOf kn) 9 2 95), (95, a_iload 6 97), (97, a_iret), (98, a_iinc 6 1 101), (101, a_goto 6), (104, a_iload 5 106), (106, a_iret)]
def fX4_nextLoad (kn : sKn) : List Value → sW → Option sR := fW (tX4_nextLoad kn) 7
set_option maxRecDepth 100000 in
set_option maxHeartbeats 4000000 in
theorem mX4_nextLoad (kn : sKn) : mM kn yX4_nextLoad (Cond.code yX4_nextLoad cX4_nextLoad 7 (some .int) :: wsL_law) 5 false (fX4_nextLoad kn) := mM_W (fun n => mM_of (own := RX4) (ini := false) rfl (by decide +kernel) (by decide +kernel) (all_c (ok_stk (s_iconst dX4_nextLoad_0 (by decide))) (all_c (ok_istore dX4_nextLoad_1 (by decide)) (all_c (ok_stk (s_iconst dX4_nextLoad_3 (by decide))) (all_c (ok_istore dX4_nextLoad_4 (by decide)) (all_c (ok_iload dX4_nextLoad_6) (all_c (ok_aload_n dX4_nextLoad_8 rfl) (all_c (okg_X6_3 kw731 dX4_nextLoad_9) (all_c (ok_icmp_ge dX4_nextLoad_12 (by decide)) (all_c (ok_iload_n dX4_nextLoad_15 rfl) (all_c (ok_iload dX4_nextLoad_16) (all_c (ok_stk (s_ishr dX4_nextLoad_18)) (all_c (ok_stk (s_iconst dX4_nextLoad_19 (by decide))) (all_c (ok_stk (s_iand dX4_nextLoad_20)) (all_c (ok_if_ne dX4_nextLoad_21 (by decide)) (all_c (ok_goto dX4_nextLoad_24 (by decide)) (all_c (ok_iload dX4_nextLoad_27) (all_c (ok_istore dX4_nextLoad_29 (by decide)) (all_c (ok_iload dX4_nextLoad_31) (all_c (ok_iload dX4_nextLoad_33) (all_c (ok_stk (s_ishr dX4_nextLoad_35)) (all_c (ok_stk (s_iconst dX4_nextLoad_36 (by decide))) (all_c (ok_stk (s_iand dX4_nextLoad_37)) (all_c (ok_if_eq dX4_nextLoad_38 (by decide)) (all_c (ok_iload dX4_nextLoad_41) (all_c (ok_iret dX4_nextLoad_43) (all_c (ok_aload_n dX4_nextLoad_44 rfl) (all_c (okg_X4_1 kw828 dX4_nextLoad_45) (all_c (ok_aload_n dX4_nextLoad_48 rfl) (all_c (okg_X4_0 kw827 dX4_nextLoad_49) (all_c (okc_X8_copyOf (by decide) kw874 dX4_nextLoad_52) (all_c (ok_aload_n dX4_nextLoad_55 rfl) (all_c (ok_aload_n dX4_nextLoad_56 rfl) (all_c (ok_aload_n dX4_nextLoad_57 rfl) (all_c (okg_X4_1 kw828 dX4_nextLoad_58) (all_c (ok_iload dX4_nextLoad_61) (all_c (okc_X10_tryCrossing (by decide) kw732 dX4_nextLoad_63) (all_c (ok_stk (s_pop dX4_nextLoad_66)) (all_c (ok_aload_n dX4_nextLoad_67 rfl) (all_c (ok_aload_n dX4_nextLoad_68 rfl) (all_c (ok_aload_n dX4_nextLoad_69 rfl) (all_c (okg_X4_1 kw828 dX4_nextLoad_70) (all_c (okc_X10_ableLoads (by decide) kw877 dX4_nextLoad_73) (all_c (ok_iload dX4_nextLoad_76) (all_c (ok_stk (s_iand dX4_nextLoad_78)) (all_c (ok_iload dX4_nextLoad_79) (all_c (ok_icmp_ne dX4_nextLoad_81 (by decide)) (all_c (ok_aload_n dX4_nextLoad_84 rfl) (all_c (okg_X4_0 kw827 dX4_nextLoad_85) (all_c (ok_aload_n dX4_nextLoad_88 rfl) (all_c (okg_X4_1 kw828 dX4_nextLoad_89) (all_c (okc_X8_copyOf (by decide) kw874 dX4_nextLoad_92) (all_c (ok_iload dX4_nextLoad_95) (all_c (ok_iret dX4_nextLoad_97) (all_c (ok_iinc dX4_nextLoad_98 (by decide) (by decide)) (all_c (ok_goto dX4_nextLoad_101 (by decide)) (all_c (ok_iload dX4_nextLoad_104) (all_c (ok_iret dX4_nextLoad_106) all_n))))))))))))))))))))))))))))))))))))))))))))))))))))))))) n (fun h => by first | rfl | cases h))
theorem dX4_findOrder_0 : decode cX4_findOrder 0 = .ok (.aload_n 0, 1) := by decide +kernel
theorem dX4_findOrder_1 : decode cX4_findOrder 1 = .ok (.getfield 12, 3) := by decide +kernel
theorem dX4_findOrder_4 : decode cX4_findOrder 4 = .ok (.aload_n 2, 1) := by decide +kernel
theorem dX4_findOrder_5 : decode cX4_findOrder 5 = .ok (.invokevirtual 31, 3) := by decide +kernel
theorem dX4_findOrder_8 : decode cX4_findOrder 8 = .ok (.aload_n 3, 1) := by decide +kernel
theorem dX4_findOrder_9 : decode cX4_findOrder 9 = .ok (.aload_n 1, 1) := by decide +kernel
theorem dX4_findOrder_10 : decode cX4_findOrder 10 = .ok (.aload_n 2, 1) := by decide +kernel
theorem dX4_findOrder_11 : decode cX4_findOrder 11 = .ok (.invokevirtual 42, 3) := by decide +kernel
theorem dX4_findOrder_14 : decode cX4_findOrder 14 = .ok (.istore 4, 2) := by decide +kernel
theorem dX4_findOrder_16 : decode cX4_findOrder 16 = .ok (.iconst 1, 1) := by decide +kernel
theorem dX4_findOrder_17 : decode cX4_findOrder 17 = .ok (.aload_n 1, 1) := by decide +kernel
theorem dX4_findOrder_18 : decode cX4_findOrder 18 = .ok (.getfield 54, 3) := by decide +kernel
theorem dX4_findOrder_21 : decode cX4_findOrder 21 = .ok (.ishl, 1) := by decide +kernel
theorem dX4_findOrder_22 : decode cX4_findOrder 22 = .ok (.iconst 1, 1) := by decide +kernel
theorem dX4_findOrder_23 : decode cX4_findOrder 23 = .ok (.isub, 1) := by decide +kernel
theorem dX4_findOrder_24 : decode cX4_findOrder 24 = .ok (.aload_n 2, 1) := by decide +kernel
theorem dX4_findOrder_25 : decode cX4_findOrder 25 = .ok (.getfield 57, 3) := by decide +kernel
theorem dX4_findOrder_28 : decode cX4_findOrder 28 = .ok (.iconst (-1), 1) := by decide +kernel
theorem dX4_findOrder_29 : decode cX4_findOrder 29 = .ok (.ixor, 1) := by decide +kernel
theorem dX4_findOrder_30 : decode cX4_findOrder 30 = .ok (.iand, 1) := by decide +kernel
theorem dX4_findOrder_31 : decode cX4_findOrder 31 = .ok (.istore 5, 2) := by decide +kernel
theorem dX4_findOrder_33 : decode cX4_findOrder 33 = .ok (.iload 5, 2) := by decide +kernel
theorem dX4_findOrder_35 : decode cX4_findOrder 35 = .ok (.invokestatic 48, 3) := by decide +kernel
theorem dX4_findOrder_38 : decode cX4_findOrder 38 = .ok (.istore 6, 2) := by decide +kernel
theorem dX4_findOrder_40 : decode cX4_findOrder 40 = .ok (.aload_n 0, 1) := by decide +kernel
theorem dX4_findOrder_41 : decode cX4_findOrder 41 = .ok (.iconst 0, 1) := by decide +kernel
theorem dX4_findOrder_42 : decode cX4_findOrder 42 = .ok (.putfield 60, 3) := by decide +kernel
theorem dX4_findOrder_45 : decode cX4_findOrder 45 = .ok (.aload_n 0, 1) := by decide +kernel
theorem dX4_findOrder_46 : decode cX4_findOrder 46 = .ok (.getfield 60, 3) := by decide +kernel
theorem dX4_findOrder_49 : decode cX4_findOrder 49 = .ok (.iload 6, 2) := by decide +kernel
theorem dX4_findOrder_51 : decode cX4_findOrder 51 = .ok (.if_icmp .ge 53, 3) := by decide +kernel
theorem dX4_findOrder_54 : decode cX4_findOrder 54 = .ok (.aload_n 0, 1) := by decide +kernel
theorem dX4_findOrder_55 : decode cX4_findOrder 55 = .ok (.aload_n 1, 1) := by decide +kernel
theorem dX4_findOrder_56 : decode cX4_findOrder 56 = .ok (.aload_n 3, 1) := by decide +kernel
theorem dX4_findOrder_57 : decode cX4_findOrder 57 = .ok (.iload 5, 2) := by decide +kernel
theorem dX4_findOrder_59 : decode cX4_findOrder 59 = .ok (.iload 4, 2) := by decide +kernel
theorem dX4_findOrder_61 : decode cX4_findOrder 61 = .ok (.iload 5, 2) := by decide +kernel
theorem dX4_findOrder_63 : decode cX4_findOrder 63 = .ok (.iand, 1) := by decide +kernel
theorem dX4_findOrder_64 : decode cX4_findOrder 64 = .ok (.invokevirtual 63, 3) := by decide +kernel
theorem dX4_findOrder_67 : decode cX4_findOrder 67 = .ok (.istore 7, 2) := by decide +kernel
theorem dX4_findOrder_69 : decode cX4_findOrder 69 = .ok (.aload_n 0, 1) := by decide +kernel
theorem dX4_findOrder_70 : decode cX4_findOrder 70 = .ok (.getfield 21, 3) := by decide +kernel
theorem dX4_findOrder_73 : decode cX4_findOrder 73 = .ok (.aload_n 0, 1) := by decide +kernel
theorem dX4_findOrder_74 : decode cX4_findOrder 74 = .ok (.getfield 60, 3) := by decide +kernel
theorem dX4_findOrder_77 : decode cX4_findOrder 77 = .ok (.iload 7, 2) := by decide +kernel
theorem dX4_findOrder_79 : decode cX4_findOrder 79 = .ok (.iastore, 1) := by decide +kernel
theorem dX4_findOrder_80 : decode cX4_findOrder 80 = .ok (.iload 5, 2) := by decide +kernel
theorem dX4_findOrder_82 : decode cX4_findOrder 82 = .ok (.iconst 1, 1) := by decide +kernel
theorem dX4_findOrder_83 : decode cX4_findOrder 83 = .ok (.iload 7, 2) := by decide +kernel
theorem dX4_findOrder_85 : decode cX4_findOrder 85 = .ok (.ishl, 1) := by decide +kernel
theorem dX4_findOrder_86 : decode cX4_findOrder 86 = .ok (.iconst (-1), 1) := by decide +kernel
theorem dX4_findOrder_87 : decode cX4_findOrder 87 = .ok (.ixor, 1) := by decide +kernel
theorem dX4_findOrder_88 : decode cX4_findOrder 88 = .ok (.iand, 1) := by decide +kernel
theorem dX4_findOrder_89 : decode cX4_findOrder 89 = .ok (.istore 5, 2) := by decide +kernel
theorem dX4_findOrder_91 : decode cX4_findOrder 91 = .ok (.aload_n 0, 1) := by decide +kernel
theorem dX4_findOrder_92 : decode cX4_findOrder 92 = .ok (.dup, 1) := by decide +kernel
theorem dX4_findOrder_93 : decode cX4_findOrder 93 = .ok (.getfield 60, 3) := by decide +kernel
theorem dX4_findOrder_96 : decode cX4_findOrder 96 = .ok (.iconst 1, 1) := by decide +kernel
theorem dX4_findOrder_97 : decode cX4_findOrder 97 = .ok (.iadd, 1) := by decide +kernel
theorem dX4_findOrder_98 : decode cX4_findOrder 98 = .ok (.putfield 60, 3) := by decide +kernel
theorem dX4_findOrder_101 : decode cX4_findOrder 101 = .ok (.goto (-56), 3) := by decide +kernel
theorem dX4_findOrder_104 : decode cX4_findOrder 104 = .ok (.iload 4, 2) := by decide +kernel
theorem dX4_findOrder_106 : decode cX4_findOrder 106 = .ok (.invokestatic 48, 3) := by decide +kernel
theorem dX4_findOrder_109 : decode cX4_findOrder 109 = .ok (.ireturn, 1) := by decide +kernel
theorem okc_X4_nextLoad {kn : sKn} {cc : ByteArray} {own : String} {nL : Nat} {D : Nat} {ret : Option FieldType} {ini : Bool} {pc index : Nat} (hD : 5 + 1 ≤ D) (hl : Cond.methodLink own index yX4_nextLoad ∈ wsL_law) (hd : decode cc pc = .ok (.invokevirtual index, 3)) : mOk kn cc own nL wsL_law D ret ini pc (a_callV false (fX4_nextLoad kn) 5 (4 + 1) (pc + 3)) := ok_callV (mX4_nextLoad kn) (good_ws ws_good (fun _ h => h) kw930) hD (by decide) hl kw931 kw932 kw716 ⟨by decide +kernel, by decide +kernel, by decide +kernel⟩ rfl hd
def tX4_findOrder (kn : sKn) : List (Nat × sA) := [(0, a_aload 0 1), (1, a_get 5 0 4), (4, a_aload 2 5), (5, a_callV true (fX8_copyOf kn) 9 2 8), (8, a_aload 3 9), (9, a_aload 1 10), (10, a_aload 2 11), (11, a_callV false (fX10_ableLoads kn) 11 3 14), (14, a_istore 4 16), (16, a_stk (q_int 1) 17), (17, a_aload 1 18), (18, a_get 7 3 21), (21, a_stk q_ishl 22), (22, a_stk (q_int 1) 23), (23, a_stk q_isub 24), (24, a_aload 2 25), (25, a_get 9 2 28), (28, a_stk (q_int (-1)) 29), (29, a_stk q_ixor 30), (30, a_stk q_iand 31), (31, a_istore 5 33), (33, a_iload 5 35), (35, a_callS false (fJ6_bitCount_0f7a4 kn) 1 38), (38, a_istore 6 40), (40, a_aload 0 41), (41, a_stk (q_int 0) 42), (42, a_put 5 4 ckI 45), (45, a_aload 0 46), (46, a_get 5 4 49), (49, a_iload 6 51), (51, a_icmp kn b_ge 3 104 54), (54, a_aload 0 55), (55, a_aload 1 56), (56, a_aload 3 57), (57, a_iload 5 59), (59, a_iload 4 61), (61, a_iload 5 63), (63, a_stk q_iand 64), (64, a_callV false (fX4_nextLoad kn) 5 5 67), (67, a_istore 7 69), (69, a_aload 0 70), (70, a_get 5 3 73), (73, a_aload 0 74), (74, a_get 5 4 77), (77, a_iload 7 79), (79, a_iast 80), (80, a_iload 5 82), (82, a_stk (q_int 1) 83), (83, a_iload 7 85), (85, a_stk q_ishl 86), (86, a_stk (q_int (-1)) 87), (87, a_stk q_ixor 88), (88, a_stk q_iand 89), (89, a_istore 5 91), (91, a_aload 0 92), (92, a_stk q_dup 93), (93, a_get 5 4 96), (96, a_stk (q_int 1) 97), (97, a_stk q_iadd 98), (98, a_put 5 4 ckI 101), (101, a_goto 45), (104, a_iload 4 106), (106, a_callS false (fJ6_bitCount_0f7a4 kn) 1 109), (109, a_iret)]
def fX4_findOrder (kn : sKn) : List Value → sW → Option sR := fW (tX4_findOrder kn) 8
set_option maxRecDepth 100000 in
set_option maxHeartbeats 4000000 in
theorem mX4_findOrder (kn : sKn) : mM kn yX4_findOrder (Cond.code yX4_findOrder cX4_findOrder 8 (some .int) :: wsL_law) 6 false (fX4_findOrder kn) := mM_W (fun n => mM_of (own := RX4) (ini := false) rfl (by decide +kernel) (by decide +kernel) (all_c (ok_aload_n dX4_findOrder_0 rfl) (all_c (okg_X4_0 kw827 dX4_findOrder_1) (all_c (ok_aload_n dX4_findOrder_4 rfl) (all_c (okc_X8_copyOf (by decide) kw874 dX4_findOrder_5) (all_c (ok_aload_n dX4_findOrder_8 rfl) (all_c (ok_aload_n dX4_findOrder_9 rfl) (all_c (ok_aload_n dX4_findOrder_10 rfl) (all_c (okc_X10_ableLoads (by decide) kw877 dX4_findOrder_11) (all_c (ok_istore dX4_findOrder_14 (by decide)) (all_c (ok_stk (s_iconst dX4_findOrder_16 (by decide))) (all_c (ok_aload_n dX4_findOrder_17 rfl) (all_c (okg_X6_3 kw731 dX4_findOrder_18) (all_c (ok_stk (s_ishl dX4_findOrder_21)) (all_c (ok_stk (s_iconst dX4_findOrder_22 (by decide))) (all_c (ok_stk (s_isub dX4_findOrder_23)) (all_c (ok_aload_n dX4_findOrder_24 rfl) (all_c (okg_X8_2 kw928 dX4_findOrder_25) (all_c (ok_stk (s_iconst dX4_findOrder_28 (by decide))) (all_c (ok_stk (s_ixor dX4_findOrder_29)) (all_c (ok_stk (s_iand dX4_findOrder_30)) (all_c (ok_istore dX4_findOrder_31 (by decide)) (all_c (ok_iload dX4_findOrder_33) (all_c (okc_J6_bitCount_0f7a4 (by decide) kw878 dX4_findOrder_35) (all_c (ok_istore dX4_findOrder_38 (by decide)) (all_c (ok_aload_n dX4_findOrder_40 rfl) (all_c (ok_stk (s_iconst dX4_findOrder_41 (by decide))) (all_c (okp_X4_4 kw929 dX4_findOrder_42) (all_c (ok_aload_n dX4_findOrder_45 rfl) (all_c (okg_X4_4 kw929 dX4_findOrder_46) (all_c (ok_iload dX4_findOrder_49) (all_c (ok_icmp_ge dX4_findOrder_51 (by decide)) (all_c (ok_aload_n dX4_findOrder_54 rfl) (all_c (ok_aload_n dX4_findOrder_55 rfl) (all_c (ok_aload_n dX4_findOrder_56 rfl) (all_c (ok_iload dX4_findOrder_57) (all_c (ok_iload dX4_findOrder_59) (all_c (ok_iload dX4_findOrder_61) (all_c (ok_stk (s_iand dX4_findOrder_63)) (all_c (okc_X4_nextLoad (by decide) kw933 dX4_findOrder_64) (all_c (ok_istore dX4_findOrder_67 (by decide)) (all_c (ok_aload_n dX4_findOrder_69 rfl) (all_c (okg_X4_3 kw829 dX4_findOrder_70) (all_c (ok_aload_n dX4_findOrder_73 rfl) (all_c (okg_X4_4 kw929 dX4_findOrder_74) (all_c (ok_iload dX4_findOrder_77) (all_c (ok_iast dX4_findOrder_79) (all_c (ok_iload dX4_findOrder_80) (all_c (ok_stk (s_iconst dX4_findOrder_82 (by decide))) (all_c (ok_iload dX4_findOrder_83) (all_c (ok_stk (s_ishl dX4_findOrder_85)) (all_c (ok_stk (s_iconst dX4_findOrder_86 (by decide))) (all_c (ok_stk (s_ixor dX4_findOrder_87)) (all_c (ok_stk (s_iand dX4_findOrder_88)) (all_c (ok_istore dX4_findOrder_89 (by decide)) (all_c (ok_aload_n dX4_findOrder_91 rfl) (all_c (ok_stk (s_dup dX4_findOrder_92)) (all_c (okg_X4_4 kw929 dX4_findOrder_93) (all_c (ok_stk (s_iconst dX4_findOrder_96 (by decide))) (all_c (ok_stk (s_iadd dX4_findOrder_97)) (all_c (okp_X4_4 kw929 dX4_findOrder_98) (all_c (ok_goto dX4_findOrder_101 (by decide)) (all_c (ok_iload dX4_findOrder_104) (all_c (okc_J6_bitCount_0f7a4 (by decide) kw878 dX4_findOrder_106) (all_c (ok_iret dX4_findOrder_109) all_n)))))))))))))))))))))))))))))))))))))))))))))))))))))))))))))))) n (fun h => by first | rfl | cases h))
theorem dX11_order_0 : decode cX11_order 0 = .ok (.aload_n 0, 1) := by decide +kernel
theorem dX11_order_1 : decode cX11_order 1 = .ok (.getfield 85, 3) := by decide +kernel
theorem dX11_order_4 : decode cX11_order 4 = .ok (.aload_n 0, 1) := by decide +kernel
theorem dX11_order_5 : decode cX11_order 5 = .ok (.getfield 26, 3) := by decide +kernel
theorem dX11_order_8 : decode cX11_order 8 = .ok (.aload_n 0, 1) := by decide +kernel
theorem dX11_order_9 : decode cX11_order 9 = .ok (.getfield 33, 3) := by decide +kernel
theorem dX11_order_12 : decode cX11_order 12 = .ok (.aload_n 0, 1) := by decide +kernel
theorem dX11_order_13 : decode cX11_order 13 = .ok (.getfield 57, 3) := by decide +kernel
theorem dX11_order_16 : decode cX11_order 16 = .ok (.invokevirtual 315, 3) := by decide +kernel
theorem dX11_order_19 : decode cX11_order 19 = .ok (.ireturn, 1) := by decide +kernel
theorem okc_X4_findOrder {kn : sKn} {cc : ByteArray} {own : String} {nL : Nat} {D : Nat} {ret : Option FieldType} {ini : Bool} {pc index : Nat} (hD : 6 + 1 ≤ D) (hl : Cond.methodLink own index yX4_findOrder ∈ wsL_law) (hd : decode cc pc = .ok (.invokevirtual index, 3)) : mOk kn cc own nL wsL_law D ret ini pc (a_callV false (fX4_findOrder kn) 5 (3 + 1) (pc + 3)) := ok_callV (mX4_findOrder kn) (good_ws ws_good (fun _ h => h) kw934) hD (by decide) hl kw935 kw936 kw716 ⟨by decide +kernel, by decide +kernel, by decide +kernel⟩ rfl hd
def tX11_order (kn : sKn) : List (Nat × sA) := [(0, a_aload 0 1), (1, a_get 12 11 4), (4, a_aload 0 5), (5, a_get 12 2 8), (8, a_aload 0 9), (9, a_get 12 3 12), (12, a_aload 0 13), (13, a_get 12 7 16), (16, a_callV false (fX4_findOrder kn) 5 4 19), (19, a_iret)]
def fX11_order (kn : sKn) : List Value → sW → Option sR := fW (tX11_order kn) 1
set_option maxRecDepth 100000 in
set_option maxHeartbeats 4000000 in
theorem mX11_order (kn : sKn) : mM kn yX11_order (Cond.code yX11_order cX11_order 1 (some .int) :: wsL_law) 7 false (fX11_order kn) := mM_W (fun n => mM_of (own := RX11) (ini := false) rfl (by decide +kernel) (by decide +kernel) (all_c (ok_aload_n dX11_order_0 rfl) (all_c (okg_X11_11 kw735 dX11_order_1) (all_c (ok_aload_n dX11_order_4 rfl) (all_c (okg_X11_2 kw291 dX11_order_5) (all_c (ok_aload_n dX11_order_8 rfl) (all_c (okg_X11_3 kw292 dX11_order_9) (all_c (ok_aload_n dX11_order_12 rfl) (all_c (okg_X11_7 kw290 dX11_order_13) (all_c (okc_X4_findOrder (by decide) kw937 dX11_order_16) (all_c (ok_iret dX11_order_19) all_n)))))))))) n (fun h => by first | rfl | cases h))
theorem dX11_orderAt_0 : decode cX11_orderAt 0 = .ok (.iload_n 1, 1) := by decide +kernel
theorem dX11_orderAt_1 : decode cX11_orderAt 1 = .ok (.ifCond .lt 14, 3) := by decide +kernel
theorem dX11_orderAt_4 : decode cX11_orderAt 4 = .ok (.iload_n 1, 1) := by decide +kernel
theorem dX11_orderAt_5 : decode cX11_orderAt 5 = .ok (.aload_n 0, 1) := by decide +kernel
theorem dX11_orderAt_6 : decode cX11_orderAt 6 = .ok (.getfield 85, 3) := by decide +kernel
theorem dX11_orderAt_9 : decode cX11_orderAt 9 = .ok (.getfield 318, 3) := by decide +kernel
theorem dX11_orderAt_12 : decode cX11_orderAt 12 = .ok (.if_icmp .lt 5, 3) := by decide +kernel
theorem dX11_orderAt_15 : decode cX11_orderAt 15 = .ok (.iconst (-1), 1) := by decide +kernel
theorem dX11_orderAt_16 : decode cX11_orderAt 16 = .ok (.ireturn, 1) := by decide +kernel
theorem dX11_orderAt_17 : decode cX11_orderAt 17 = .ok (.aload_n 0, 1) := by decide +kernel
theorem dX11_orderAt_18 : decode cX11_orderAt 18 = .ok (.getfield 85, 3) := by decide +kernel
theorem dX11_orderAt_21 : decode cX11_orderAt 21 = .ok (.getfield 321, 3) := by decide +kernel
theorem dX11_orderAt_24 : decode cX11_orderAt 24 = .ok (.iload_n 1, 1) := by decide +kernel
theorem dX11_orderAt_25 : decode cX11_orderAt 25 = .ok (.iaload, 1) := by decide +kernel
theorem dX11_orderAt_26 : decode cX11_orderAt 26 = .ok (.ireturn, 1) := by decide +kernel
def tX11_orderAt (kn : sKn) : List (Nat × sA) := [(0, a_iload 1 1), (1, a_if kn b_lt 2 15 4), (4, a_iload 1 5), (5, a_aload 0 6), (6, a_get 12 11 9), (9, a_get 5 4 12), (12, a_icmp kn b_lt 2 17 15), (15, a_stk (q_int (-1)) 16), (16, a_iret), (17, a_aload 0 18), (18, a_get 12 11 21), (21, a_get 5 3 24), (24, a_iload 1 25), (25, a_iald 26), (26, a_iret)]
def fX11_orderAt (kn : sKn) : List Value → sW → Option sR := fW (tX11_orderAt kn) 2
set_option maxRecDepth 100000 in
set_option maxHeartbeats 4000000 in
theorem mX11_orderAt (kn : sKn) : mM kn yX11_orderAt (Cond.code yX11_orderAt cX11_orderAt 2 (some .int) :: wsL_law) 1 false (fX11_orderAt kn) := mM_W (fun n => mM_of (own := RX11) (ini := false) rfl (by decide +kernel) (by decide +kernel) (all_c (ok_iload_n dX11_orderAt_0 rfl) (all_c (ok_if_lt dX11_orderAt_1 (by decide)) (all_c (ok_iload_n dX11_orderAt_4 rfl) (all_c (ok_aload_n dX11_orderAt_5 rfl) (all_c (okg_X11_11 kw735 dX11_orderAt_6) (all_c (okg_X4_4 kw938 dX11_orderAt_9) (all_c (ok_icmp_lt dX11_orderAt_12 (by decide)) (all_c (ok_stk (s_iconst dX11_orderAt_15 (by decide))) (all_c (ok_iret dX11_orderAt_16) (all_c (ok_aload_n dX11_orderAt_17 rfl) (all_c (okg_X11_11 kw735 dX11_orderAt_18) (all_c (okg_X4_3 kw939 dX11_orderAt_21) (all_c (ok_iload_n dX11_orderAt_24 rfl) (all_c (ok_iald dX11_orderAt_25) (all_c (ok_iret dX11_orderAt_26) all_n))))))))))))))) n (fun h => by first | rfl | cases h))
theorem dX11_path_0 : decode cX11_path 0 = .ok (.aload_n 0, 1) := by decide +kernel
theorem dX11_path_1 : decode cX11_path 1 = .ok (.iload_n 1, 1) := by decide +kernel
theorem dX11_path_2 : decode cX11_path 2 = .ok (.invokevirtual 201, 3) := by decide +kernel
theorem dX11_path_5 : decode cX11_path 5 = .ok (.ifCond .eq 31, 3) := by decide +kernel
theorem dX11_path_8 : decode cX11_path 8 = .ok (.aload_n 0, 1) := by decide +kernel
theorem dX11_path_9 : decode cX11_path 9 = .ok (.iload_n 2, 1) := by decide +kernel
theorem dX11_path_10 : decode cX11_path 10 = .ok (.invokevirtual 279, 3) := by decide +kernel
theorem dX11_path_13 : decode cX11_path 13 = .ok (.ifCond .eq 23, 3) := by decide +kernel
theorem dX11_path_16 : decode cX11_path 16 = .ok (.aload_n 0, 1) := by decide +kernel
theorem dX11_path_17 : decode cX11_path 17 = .ok (.getfield 57, 3) := by decide +kernel
theorem dX11_path_20 : decode cX11_path 20 = .ok (.aload_n 0, 1) := by decide +kernel
theorem dX11_path_21 : decode cX11_path 21 = .ok (.getfield 26, 3) := by decide +kernel
theorem dX11_path_24 : decode cX11_path 24 = .ok (.aload_n 0, 1) := by decide +kernel
theorem dX11_path_25 : decode cX11_path 25 = .ok (.getfield 33, 3) := by decide +kernel
theorem dX11_path_28 : decode cX11_path 28 = .ok (.iload_n 1, 1) := by decide +kernel
theorem dX11_path_29 : decode cX11_path 29 = .ok (.invokevirtual 276, 3) := by decide +kernel
theorem dX11_path_32 : decode cX11_path 32 = .ok (.iconst (-1), 1) := by decide +kernel
theorem dX11_path_33 : decode cX11_path 33 = .ok (.if_icmp .ne 5, 3) := by decide +kernel
theorem dX11_path_36 : decode cX11_path 36 = .ok (.iconst (-1), 1) := by decide +kernel
theorem dX11_path_37 : decode cX11_path 37 = .ok (.ireturn, 1) := by decide +kernel
theorem dX11_path_38 : decode cX11_path 38 = .ok (.aload_n 0, 1) := by decide +kernel
theorem dX11_path_39 : decode cX11_path 39 = .ok (.getfield 57, 3) := by decide +kernel
theorem dX11_path_42 : decode cX11_path 42 = .ok (.getfield 282, 3) := by decide +kernel
theorem dX11_path_45 : decode cX11_path 45 = .ok (.iload_n 2, 1) := by decide +kernel
theorem dX11_path_46 : decode cX11_path 46 = .ok (.iaload, 1) := by decide +kernel
theorem dX11_path_47 : decode cX11_path 47 = .ok (.ireturn, 1) := by decide +kernel
theorem okc_X10_findSafest {kn : sKn} {cc : ByteArray} {own : String} {nL : Nat} {D : Nat} {ret : Option FieldType} {ini : Bool} {pc index : Nat} (hD : 4 + 1 ≤ D) (hl : Cond.methodLink own index yX10_findSafest ∈ wsL_law) (hd : decode cc pc = .ok (.invokevirtual index, 3)) : mOk kn cc own nL wsL_law D ret ini pc (a_callV false (fX10_findSafest kn) 11 (3 + 1) (pc + 3)) := ok_callV (mX10_findSafest kn) (good_ws ws_good (fun _ h => h) kw940) hD (by decide) hl kw941 kw942 kw170 ⟨by decide +kernel, by decide +kernel, by decide +kernel⟩ rfl hd
def tX11_path (kn : sKn) : List (Nat × sA) := [(0, a_aload 0 1), (1, a_iload 1 2), (2, a_callV false (fX11_isLoad kn) 12 2 5), (5, a_if kn b_eq 0 36 8), (8, a_aload 0 9), (9, a_iload 2 10), (10, a_callV false (fX11_isRow kn) 12 2 13), (13, a_if kn b_eq 0 36 16), (16, a_aload 0 17), (17, a_get 12 7 20), (20, a_aload 0 21), (21, a_get 12 2 24), (24, a_aload 0 25), (25, a_get 12 3 28), (28, a_iload 1 29), (29, a_callV false (fX10_findSafest kn) 11 4 32), (32, a_stk (q_int (-1)) 33), (33, a_icmp kn b_ne 1 38 36), (36, a_stk (q_int (-1)) 37), (37, a_iret), (38, a_aload 0 39), (39, a_get 12 7 42), (42, a_get 11 3 45), (45, a_iload 2 46), (46, a_iald 47), (47, a_iret)]
def fX11_path (kn : sKn) : List Value → sW → Option sR := fW (tX11_path kn) 3
set_option maxRecDepth 100000 in
set_option maxHeartbeats 4000000 in
theorem mX11_path (kn : sKn) : mM kn yX11_path (Cond.code yX11_path cX11_path 3 (some .int) :: wsL_law) 5 false (fX11_path kn) := mM_W (fun n => mM_of (own := RX11) (ini := false) rfl (by decide +kernel) (by decide +kernel) (all_c (ok_aload_n dX11_path_0 rfl) (all_c (ok_iload_n dX11_path_1 rfl) (all_c (okc_X11_isLoad (by decide) kw317 dX11_path_2) (all_c (ok_if_eq dX11_path_5 (by decide)) (all_c (ok_aload_n dX11_path_8 rfl) (all_c (ok_iload_n dX11_path_9 rfl) (all_c (okc_X11_isRow (by decide) kw306 dX11_path_10) (all_c (ok_if_eq dX11_path_13 (by decide)) (all_c (ok_aload_n dX11_path_16 rfl) (all_c (okg_X11_7 kw290 dX11_path_17) (all_c (ok_aload_n dX11_path_20 rfl) (all_c (okg_X11_2 kw291 dX11_path_21) (all_c (ok_aload_n dX11_path_24 rfl) (all_c (okg_X11_3 kw292 dX11_path_25) (all_c (ok_iload_n dX11_path_28 rfl) (all_c (okc_X10_findSafest (by decide) kw943 dX11_path_29) (all_c (ok_stk (s_iconst dX11_path_32 (by decide))) (all_c (ok_icmp_ne dX11_path_33 (by decide)) (all_c (ok_stk (s_iconst dX11_path_36 (by decide))) (all_c (ok_iret dX11_path_37) (all_c (ok_aload_n dX11_path_38 rfl) (all_c (okg_X11_7 kw290 dX11_path_39) (all_c (okg_X10_3 kw944 dX11_path_42) (all_c (ok_iload_n dX11_path_45 rfl) (all_c (ok_iald dX11_path_46) (all_c (ok_iret dX11_path_47) all_n)))))))))))))))))))))))))) n (fun h => by first | rfl | cases h))
theorem dX11_plank_0 : decode cX11_plank 0 = .ok (.aload_n 0, 1) := by decide +kernel
theorem dX11_plank_1 : decode cX11_plank 1 = .ok (.iload_n 1, 1) := by decide +kernel
theorem dX11_plank_2 : decode cX11_plank 2 = .ok (.iload_n 2, 1) := by decide +kernel
theorem dX11_plank_3 : decode cX11_plank 3 = .ok (.invokevirtual 181, 3) := by decide +kernel
theorem dX11_plank_6 : decode cX11_plank 6 = .ok (.ifCond .eq 12, 3) := by decide +kernel
theorem dX11_plank_9 : decode cX11_plank 9 = .ok (.iload_n 3, 1) := by decide +kernel
theorem dX11_plank_10 : decode cX11_plank 10 = .ok (.ifCond .lt 8, 3) := by decide +kernel
theorem dX11_plank_13 : decode cX11_plank 13 = .ok (.iload_n 3, 1) := by decide +kernel
theorem dX11_plank_14 : decode cX11_plank 14 = .ok (.iconst 2, 1) := by decide +kernel
theorem dX11_plank_15 : decode cX11_plank 15 = .ok (.if_icmp .le 11, 3) := by decide +kernel
theorem dX11_plank_18 : decode cX11_plank 18 = .ok (.new 154, 3) := by decide +kernel
theorem dX11_plank_21 : decode cX11_plank 21 = .ok (.dup, 1) := by decide +kernel
theorem dX11_plank_22 : decode cX11_plank 22 = .ok (.invokespecial 156, 3) := by decide +kernel
theorem dX11_plank_25 : decode cX11_plank 25 = .ok (.athrow, 1) := by decide +kernel
theorem dX11_plank_26 : decode cX11_plank 26 = .ok (.iconst 3, 1) := by decide +kernel
theorem dX11_plank_27 : decode cX11_plank 27 = .ok (.iload_n 1, 1) := by decide +kernel
theorem dX11_plank_28 : decode cX11_plank 28 = .ok (.imul, 1) := by decide +kernel
theorem dX11_plank_29 : decode cX11_plank 29 = .ok (.iload_n 2, 1) := by decide +kernel
theorem dX11_plank_30 : decode cX11_plank 30 = .ok (.iadd, 1) := by decide +kernel
theorem dX11_plank_31 : decode cX11_plank 31 = .ok (.istore 4, 2) := by decide +kernel
theorem dX11_plank_33 : decode cX11_plank 33 = .ok (.iload_n 3, 1) := by decide +kernel
theorem dX11_plank_34 : decode cX11_plank 34 = .ok (.ifCond .ne 14, 3) := by decide +kernel
theorem dX11_plank_37 : decode cX11_plank 37 = .ok (.aload_n 0, 1) := by decide +kernel
theorem dX11_plank_38 : decode cX11_plank 38 = .ok (.getfield 33, 3) := by decide +kernel
theorem dX11_plank_41 : decode cX11_plank 41 = .ok (.getfield 185, 3) := by decide +kernel
theorem dX11_plank_44 : decode cX11_plank 44 = .ok (.iload 4, 2) := by decide +kernel
theorem dX11_plank_46 : decode cX11_plank 46 = .ok (.iaload, 1) := by decide +kernel
theorem dX11_plank_47 : decode cX11_plank 47 = .ok (.ireturn, 1) := by decide +kernel
theorem dX11_plank_48 : decode cX11_plank 48 = .ok (.iload_n 3, 1) := by decide +kernel
theorem dX11_plank_49 : decode cX11_plank 49 = .ok (.iconst 1, 1) := by decide +kernel
theorem dX11_plank_50 : decode cX11_plank 50 = .ok (.if_icmp .ne 28, 3) := by decide +kernel
theorem dX11_plank_53 : decode cX11_plank 53 = .ok (.iconst 0, 1) := by decide +kernel
theorem dX11_plank_54 : decode cX11_plank 54 = .ok (.aload_n 0, 1) := by decide +kernel
theorem dX11_plank_55 : decode cX11_plank 55 = .ok (.getfield 26, 3) := by decide +kernel
theorem dX11_plank_58 : decode cX11_plank 58 = .ok (.aload_n 0, 1) := by decide +kernel
theorem dX11_plank_59 : decode cX11_plank 59 = .ok (.getfield 33, 3) := by decide +kernel
theorem dX11_plank_62 : decode cX11_plank 62 = .ok (.aload_n 0, 1) := by decide +kernel
theorem dX11_plank_63 : decode cX11_plank 63 = .ok (.getfield 26, 3) := by decide +kernel
theorem dX11_plank_66 : decode cX11_plank 66 = .ok (.getfield 164, 3) := by decide +kernel
theorem dX11_plank_69 : decode cX11_plank 69 = .ok (.iload 4, 2) := by decide +kernel
theorem dX11_plank_71 : decode cX11_plank 71 = .ok (.invokestatic 188, 3) := by decide +kernel
theorem dX11_plank_74 : decode cX11_plank 74 = .ok (.invokestatic 192, 3) := by decide +kernel
theorem dX11_plank_77 : decode cX11_plank 77 = .ok (.ireturn, 1) := by decide +kernel
theorem dX11_plank_78 : decode cX11_plank 78 = .ok (.aload_n 0, 1) := by decide +kernel
theorem dX11_plank_79 : decode cX11_plank 79 = .ok (.getfield 33, 3) := by decide +kernel
theorem dX11_plank_82 : decode cX11_plank 82 = .ok (.getfield 198, 3) := by decide +kernel
theorem dX11_plank_85 : decode cX11_plank 85 = .ok (.iload 4, 2) := by decide +kernel
theorem dX11_plank_87 : decode cX11_plank 87 = .ok (.iaload, 1) := by decide +kernel
theorem dX11_plank_88 : decode cX11_plank 88 = .ok (.ireturn, 1) := by decide +kernel
def tX11_plank (kn : sKn) : List (Nat × sA) := [(0, a_aload 0 1), (1, a_iload 1 2), (2, a_iload 2 3), (3, a_callV false (fX11_isPlace kn) 12 3 6), (6, a_if kn b_eq 0 18 9), (9, a_iload 3 10), (10, a_if kn b_lt 2 18 13), (13, a_iload 3 14), (14, a_stk (q_int 2) 15), (15, a_icmp kn b_le 5 26 18), (18, a_throw), (21, a_stk q_dup 22), (22, a_none), (25, a_none), (26, a_stk (q_int 3) 27), (27, a_iload 1 28), (28, a_stk q_imul 29), (29, a_iload 2 30), (30, a_stk q_iadd 31), (31, a_istore 4 33), (33, a_iload 3 34), (34, a_if kn b_ne 1 48 37), (37, a_aload 0 38), (38, a_get 12 3 41), (41, a_get 9 6 44), (44, a_iload 4 46), (46, a_iald 47), (47, a_iret), (48, a_iload 3 49), (49, a_stk (q_int 1) 50), (50, a_icmp kn b_ne 1 78 53), (53, a_stk (q_int 0) 54), (54, a_aload 0 55), (55, a_get 12 2 58), (58, a_aload 0 59), (59, a_get 12 3 62), (62, a_aload 0 63), (63, a_get 12 2 66), (66, a_get 7 5 69), (69, a_iload 4 71), (71, a_callS false (fX10_bearing kn) 4 74), (74, a_mmax 77), (77, a_iret), (78, a_aload 0 79), (79, a_get 12 3 82), (82, a_get 9 7 85), (85, a_iload 4 87), (87, a_iald 88), (88, a_iret)]
def fX11_plank (kn : sKn) : List Value → sW → Option sR := fW (tX11_plank kn) 5
set_option maxRecDepth 100000 in
set_option maxHeartbeats 4000000 in
theorem mX11_plank (kn : sKn) : mV kn yX11_plank (Cond.code yX11_plank cX11_plank 5 (some .int) :: wsL_law) 6 (fX11_plank kn) := mV_W (fun n => mV_of (own := RX11) rfl (by decide +kernel) (all_c (ok_aload_n dX11_plank_0 rfl) (all_c (ok_iload_n dX11_plank_1 rfl) (all_c (ok_iload_n dX11_plank_2 rfl) (all_c (okc_X11_isPlace (by decide) kw310 dX11_plank_3) (all_c (ok_if_eq dX11_plank_6 (by decide)) (all_c (ok_iload_n dX11_plank_9 rfl) (all_c (ok_if_lt dX11_plank_10 (by decide)) (all_c (ok_iload_n dX11_plank_13 rfl) (all_c (ok_stk (s_iconst dX11_plank_14 (by decide))) (all_c (ok_icmp_le dX11_plank_15 (by decide)) (all_c (ok_throw (by decide) kw899 kw900 inNse dX11_plank_18 dX11_plank_21 dX11_plank_22 dX11_plank_25) (all_c (ok_stk (s_dup dX11_plank_21)) (all_c (ok_none) (all_c (ok_none) (all_c (ok_stk (s_iconst dX11_plank_26 (by decide))) (all_c (ok_iload_n dX11_plank_27 rfl) (all_c (ok_stk (s_imul dX11_plank_28)) (all_c (ok_iload_n dX11_plank_29 rfl) (all_c (ok_stk (s_iadd dX11_plank_30)) (all_c (ok_istore dX11_plank_31 (by decide)) (all_c (ok_iload_n dX11_plank_33 rfl) (all_c (ok_if_ne dX11_plank_34 (by decide)) (all_c (ok_aload_n dX11_plank_37 rfl) (all_c (okg_X11_3 kw292 dX11_plank_38) (all_c (okg_X8_6 kw945 dX11_plank_41) (all_c (ok_iload dX11_plank_44) (all_c (ok_iald dX11_plank_46) (all_c (ok_iret dX11_plank_47) (all_c (ok_iload_n dX11_plank_48 rfl) (all_c (ok_stk (s_iconst dX11_plank_49 (by decide))) (all_c (ok_icmp_ne dX11_plank_50 (by decide)) (all_c (ok_stk (s_iconst dX11_plank_53 (by decide))) (all_c (ok_aload_n dX11_plank_54 rfl) (all_c (okg_X11_2 kw291 dX11_plank_55) (all_c (ok_aload_n dX11_plank_58 rfl) (all_c (okg_X11_3 kw292 dX11_plank_59) (all_c (ok_aload_n dX11_plank_62 rfl) (all_c (okg_X11_2 kw291 dX11_plank_63) (all_c (okg_X6_5 kw946 dX11_plank_66) (all_c (ok_iload dX11_plank_69) (all_c (okc_X10_bearing (by decide) kw947 dX11_plank_71) (all_c (ok_mmax (by decide) kw948 kw37 kw38 kw39 dX11_plank_74) (all_c (ok_iret dX11_plank_77) (all_c (ok_aload_n dX11_plank_78 rfl) (all_c (okg_X11_3 kw292 dX11_plank_79) (all_c (okg_X8_7 kw949 dX11_plank_82) (all_c (ok_iload dX11_plank_85) (all_c (ok_iald dX11_plank_87) (all_c (ok_iret dX11_plank_88) all_n))))))))))))))))))))))))))))))))))))))))))))))))) n)
theorem dX11_writeName_0 : decode cX11_writeName 0 = .ok (.bipush 6, 2) := by decide +kernel
theorem dX11_writeName_2 : decode cX11_writeName 2 = .ok (.istore_n 3, 1) := by decide +kernel
theorem dX11_writeName_3 : decode cX11_writeName 3 = .ok (.iload_n 3, 1) := by decide +kernel
theorem dX11_writeName_4 : decode cX11_writeName 4 = .ok (.ifCond .lt 40, 3) := by decide +kernel
theorem dX11_writeName_7 : decode cX11_writeName 7 = .ok (.lload_n 1, 1) := by decide +kernel
theorem dX11_writeName_8 : decode cX11_writeName 8 = .ok (.iconst 5, 1) := by decide +kernel
theorem dX11_writeName_9 : decode cX11_writeName 9 = .ok (.iload_n 3, 1) := by decide +kernel
theorem dX11_writeName_10 : decode cX11_writeName 10 = .ok (.imul, 1) := by decide +kernel
theorem dX11_writeName_11 : decode cX11_writeName 11 = .ok (.lushr, 1) := by decide +kernel
theorem dX11_writeName_12 : decode cX11_writeName 12 = .ok (.ldc2_w 410, 3) := by decide +kernel
theorem dX11_writeName_15 : decode cX11_writeName 15 = .ok (.land, 1) := by decide +kernel
theorem dX11_writeName_16 : decode cX11_writeName 16 = .ok (.l2i, 1) := by decide +kernel
theorem dX11_writeName_17 : decode cX11_writeName 17 = .ok (.istore 4, 2) := by decide +kernel
theorem dX11_writeName_19 : decode cX11_writeName 19 = .ok (.iload 4, 2) := by decide +kernel
theorem dX11_writeName_21 : decode cX11_writeName 21 = .ok (.ifCond .eq 17, 3) := by decide +kernel
theorem dX11_writeName_24 : decode cX11_writeName 24 = .ok (.aload_n 0, 1) := by decide +kernel
theorem dX11_writeName_25 : decode cX11_writeName 25 = .ok (.getfield 92, 3) := by decide +kernel
theorem dX11_writeName_28 : decode cX11_writeName 28 = .ok (.bipush 96, 2) := by decide +kernel
theorem dX11_writeName_30 : decode cX11_writeName 30 = .ok (.iload 4, 2) := by decide +kernel
theorem dX11_writeName_32 : decode cX11_writeName 32 = .ok (.iadd, 1) := by decide +kernel
theorem dX11_writeName_33 : decode cX11_writeName 33 = .ok (.i2c, 1) := by decide +kernel
theorem dX11_writeName_34 : decode cX11_writeName 34 = .ok (.invokevirtual 346, 3) := by decide +kernel
theorem dX11_writeName_37 : decode cX11_writeName 37 = .ok (.pop, 1) := by decide +kernel
theorem dX11_writeName_38 : decode cX11_writeName 38 = .ok (.iinc 3 (-1), 3) := by decide +kernel
theorem dX11_writeName_41 : decode cX11_writeName 41 = .ok (.goto (-38), 3) := by decide +kernel
theorem dX11_writeName_44 : decode cX11_writeName 44 = .ok (.return_, 1) := by decide +kernel
theorem okc_J4_append_cf468 {kn : sKn} {cc : ByteArray} {own : String} {nL : Nat} {D : Nat} {ret : Option FieldType} {ini : Bool} {pc index : Nat} (hD : 5 + 1 ≤ D) (hl : Cond.methodLink own index yJ4_append_cf468 ∈ wsL_law) (hd : decode cc pc = .ok (.invokevirtual index, 3)) : mOk kn cc own nL wsL_law D ret ini pc (a_callV false (fJ4_append_cf468 kn) 0 (1 + 1) (pc + 3)) := ok_callV (mJ4_append_cf468 kn) (good_ws ws_good (fun _ h => h) kw951) hD (by decide) hl kw952 kw953 kw652 ⟨by decide +kernel, by decide +kernel, by decide +kernel⟩ rfl hd
def tX11_writeName (kn : sKn) : List (Nat × sA) := [(0, a_stk (q_int 6) 2), (2, a_istore 3 3), (3, a_iload 3 4), (4, a_if kn b_lt 2 44 7), (7, a_lload 1 8), (8, a_stk (q_int 5) 9), (9, a_iload 3 10), (10, a_stk q_imul 11), (11, a_stk q_lushr 12), (12, a_stk (q_long (31)) 15), (15, a_stk q_land 16), (16, a_stk q_l2i 17), (17, a_istore 4 19), (19, a_iload 4 21), (21, a_if kn b_eq 0 38 24), (24, a_aload 0 25), (25, a_get 12 12 28), (28, a_stk (q_int 96) 30), (30, a_iload 4 32), (32, a_stk q_iadd 33), (33, a_stk q_i2c 34), (34, a_callV false (fJ4_append_cf468 kn) 0 2 37), (37, a_stk q_pop 38), (38, a_iinc 3 (-1) 41), (41, a_goto 3), (44, a_vret)]
def fX11_writeName (kn : sKn) : List Value → sW → Option sR := fW (tX11_writeName kn) 5
set_option maxRecDepth 100000 in
set_option maxHeartbeats 4000000 in
theorem mX11_writeName (kn : sKn) : mM kn yX11_writeName (Cond.code yX11_writeName cX11_writeName 5 none :: wsL_law) 6 true (fX11_writeName kn) := mM_W (fun n => mM_of (own := RX11) (ini := false) rfl (by decide +kernel) (by decide +kernel) (all_c (ok_stk (s_bipush dX11_writeName_0 (by decide))) (all_c (ok_istore_n dX11_writeName_2 rfl (by decide)) (all_c (ok_iload_n dX11_writeName_3 rfl) (all_c (ok_if_lt dX11_writeName_4 (by decide)) (all_c (ok_lload_n dX11_writeName_7 rfl) (all_c (ok_stk (s_iconst dX11_writeName_8 (by decide))) (all_c (ok_iload_n dX11_writeName_9 rfl) (all_c (ok_stk (s_imul dX11_writeName_10)) (all_c (ok_stk (s_lushr dX11_writeName_11)) (all_c (ok_ldc2 kw950 dX11_writeName_12) (all_c (ok_stk (s_land dX11_writeName_15)) (all_c (ok_stk (s_l2i dX11_writeName_16)) (all_c (ok_istore dX11_writeName_17 (by decide)) (all_c (ok_iload dX11_writeName_19) (all_c (ok_if_eq dX11_writeName_21 (by decide)) (all_c (ok_aload_n dX11_writeName_24 rfl) (all_c (okg_X11_12 kw650 dX11_writeName_25) (all_c (ok_stk (s_bipush dX11_writeName_28 (by decide))) (all_c (ok_iload dX11_writeName_30) (all_c (ok_stk (s_iadd dX11_writeName_32)) (all_c (ok_stk (s_i2c dX11_writeName_33)) (all_c (okc_J4_append_cf468 (by decide) kw954 dX11_writeName_34) (all_c (ok_stk (s_pop dX11_writeName_37)) (all_c (ok_iinc dX11_writeName_38 (by decide) (by decide)) (all_c (ok_goto dX11_writeName_41 (by decide)) (all_c (ok_vret dX11_writeName_44) all_n)))))))))))))))))))))))))) n (fun h => by first | rfl | cases h))
theorem dX11_plate_0 : decode cX11_plate 0 = .ok (.aload_n 0, 1) := by decide +kernel
theorem dX11_plate_1 : decode cX11_plate 1 = .ok (.iload_n 1, 1) := by decide +kernel
theorem dX11_plate_2 : decode cX11_plate 2 = .ok (.invokevirtual 279, 3) := by decide +kernel
theorem dX11_plate_5 : decode cX11_plate 5 = .ok (.ifCond .ne 5, 3) := by decide +kernel
theorem dX11_plate_8 : decode cX11_plate 8 = .ok (.iconst (-1), 1) := by decide +kernel
theorem dX11_plate_9 : decode cX11_plate 9 = .ok (.ireturn, 1) := by decide +kernel
theorem dX11_plate_10 : decode cX11_plate 10 = .ok (.aload_n 0, 1) := by decide +kernel
theorem dX11_plate_11 : decode cX11_plate 11 = .ok (.getfield 92, 3) := by decide +kernel
theorem dX11_plate_14 : decode cX11_plate 14 = .ok (.iconst 0, 1) := by decide +kernel
theorem dX11_plate_15 : decode cX11_plate 15 = .ok (.invokevirtual 343, 3) := by decide +kernel
theorem dX11_plate_18 : decode cX11_plate 18 = .ok (.iconst 0, 1) := by decide +kernel
theorem dX11_plate_19 : decode cX11_plate 19 = .ok (.istore_n 2, 1) := by decide +kernel
theorem dX11_plate_20 : decode cX11_plate 20 = .ok (.iload_n 2, 1) := by decide +kernel
theorem dX11_plate_21 : decode cX11_plate 21 = .ok (.iconst 3, 1) := by decide +kernel
theorem dX11_plate_22 : decode cX11_plate 22 = .ok (.if_icmp .ge 69, 3) := by decide +kernel
theorem dX11_plate_25 : decode cX11_plate 25 = .ok (.iload_n 2, 1) := by decide +kernel
theorem dX11_plate_26 : decode cX11_plate 26 = .ok (.ifCond .le 13, 3) := by decide +kernel
theorem dX11_plate_29 : decode cX11_plate 29 = .ok (.aload_n 0, 1) := by decide +kernel
theorem dX11_plate_30 : decode cX11_plate 30 = .ok (.getfield 92, 3) := by decide +kernel
theorem dX11_plate_33 : decode cX11_plate 33 = .ok (.bipush 45, 2) := by decide +kernel
theorem dX11_plate_35 : decode cX11_plate 35 = .ok (.invokevirtual 346, 3) := by decide +kernel
theorem dX11_plate_38 : decode cX11_plate 38 = .ok (.pop, 1) := by decide +kernel
theorem dX11_plate_39 : decode cX11_plate 39 = .ok (.aload_n 0, 1) := by decide +kernel
theorem dX11_plate_40 : decode cX11_plate 40 = .ok (.getfield 33, 3) := by decide +kernel
theorem dX11_plate_43 : decode cX11_plate 43 = .ok (.getfield 185, 3) := by decide +kernel
theorem dX11_plate_46 : decode cX11_plate 46 = .ok (.iconst 3, 1) := by decide +kernel
theorem dX11_plate_47 : decode cX11_plate 47 = .ok (.iload_n 1, 1) := by decide +kernel
theorem dX11_plate_48 : decode cX11_plate 48 = .ok (.imul, 1) := by decide +kernel
theorem dX11_plate_49 : decode cX11_plate 49 = .ok (.iload_n 2, 1) := by decide +kernel
theorem dX11_plate_50 : decode cX11_plate 50 = .ok (.iadd, 1) := by decide +kernel
theorem dX11_plate_51 : decode cX11_plate 51 = .ok (.iaload, 1) := by decide +kernel
theorem dX11_plate_52 : decode cX11_plate 52 = .ok (.istore_n 3, 1) := by decide +kernel
theorem dX11_plate_53 : decode cX11_plate 53 = .ok (.iload_n 3, 1) := by decide +kernel
theorem dX11_plate_54 : decode cX11_plate 54 = .ok (.iconst (-1), 1) := by decide +kernel
theorem dX11_plate_55 : decode cX11_plate 55 = .ok (.if_icmp .ne 17, 3) := by decide +kernel
theorem dX11_plate_58 : decode cX11_plate 58 = .ok (.aload_n 0, 1) := by decide +kernel
theorem dX11_plate_59 : decode cX11_plate 59 = .ok (.getfield 92, 3) := by decide +kernel
theorem dX11_plate_62 : decode cX11_plate 62 = .ok (.ldc_w 350, 3) := by decide +kernel
theorem dX11_plate_65 : decode cX11_plate 65 = .ok (.invokevirtual 352, 3) := by decide +kernel
theorem dX11_plate_68 : decode cX11_plate 68 = .ok (.pop, 1) := by decide +kernel
theorem dX11_plate_69 : decode cX11_plate 69 = .ok (.goto 16, 3) := by decide +kernel
theorem dX11_plate_72 : decode cX11_plate 72 = .ok (.aload_n 0, 1) := by decide +kernel
theorem dX11_plate_73 : decode cX11_plate 73 = .ok (.aload_n 0, 1) := by decide +kernel
theorem dX11_plate_74 : decode cX11_plate 74 = .ok (.getfield 26, 3) := by decide +kernel
theorem dX11_plate_77 : decode cX11_plate 77 = .ok (.getfield 355, 3) := by decide +kernel
theorem dX11_plate_80 : decode cX11_plate 80 = .ok (.iload_n 3, 1) := by decide +kernel
theorem dX11_plate_81 : decode cX11_plate 81 = .ok (.laload, 1) := by decide +kernel
theorem dX11_plate_82 : decode cX11_plate 82 = .ok (.invokevirtual 359, 3) := by decide +kernel
theorem dX11_plate_85 : decode cX11_plate 85 = .ok (.iinc 2 1, 3) := by decide +kernel
theorem dX11_plate_88 : decode cX11_plate 88 = .ok (.goto (-68), 3) := by decide +kernel
theorem dX11_plate_91 : decode cX11_plate 91 = .ok (.aload_n 0, 1) := by decide +kernel
theorem dX11_plate_92 : decode cX11_plate 92 = .ok (.getfield 92, 3) := by decide +kernel
theorem dX11_plate_95 : decode cX11_plate 95 = .ok (.invokevirtual 363, 3) := by decide +kernel
theorem dX11_plate_98 : decode cX11_plate 98 = .ok (.ireturn, 1) := by decide +kernel
theorem okc_J4_setLength_d00df {kn : sKn} {cc : ByteArray} {own : String} {nL : Nat} {D : Nat} {ret : Option FieldType} {ini : Bool} {pc index : Nat} (hD : 5 + 1 ≤ D) (hl : Cond.methodLink own index yJ4_setLength_d00df ∈ wsL_law) (hd : decode cc pc = .ok (.invokevirtual index, 3)) : mOk kn cc own nL wsL_law D ret ini pc (a_callV true (fJ4_setLength_d00df kn) 0 (1 + 1) (pc + 3)) := ok_callV (mJ4_setLength_d00df kn) (good_ws ws_good (fun _ h => h) kw955) hD (by decide) hl kw956 kw957 kw652 ⟨by decide +kernel, by decide +kernel, by decide +kernel⟩ rfl hd
theorem okc_J4_append_15ec4 {kn : sKn} {cc : ByteArray} {own : String} {nL : Nat} {D : Nat} {ret : Option FieldType} {ini : Bool} {pc index : Nat} (hD : 5 + 1 ≤ D) (hl : Cond.methodLink own index yJ4_append_15ec4 ∈ wsL_law) (hd : decode cc pc = .ok (.invokevirtual index, 3)) : mOk kn cc own nL wsL_law D ret ini pc (a_callV false (fJ4_append_15ec4 kn) 0 (1 + 1) (pc + 3)) := ok_callV (mJ4_append_15ec4 kn) (good_ws ws_good (fun _ h => h) kw959) hD (by decide) hl kw960 kw961 kw652 ⟨by decide +kernel, by decide +kernel, by decide +kernel⟩ rfl hd
theorem okc_X11_writeName {kn : sKn} {cc : ByteArray} {own : String} {nL : Nat} {D : Nat} {ret : Option FieldType} {ini : Bool} {pc index : Nat} (hD : 6 + 1 ≤ D) (hl : Cond.methodLink own index yX11_writeName ∈ wsL_law) (hd : decode cc pc = .ok (.invokevirtual index, 3)) : mOk kn cc own nL wsL_law D ret ini pc (a_callV true (fX11_writeName kn) 12 (1 + 1) (pc + 3)) := ok_callV (mX11_writeName kn) (good_ws ws_good (fun _ h => h) kw964) hD (by decide) hl kw965 kw966 kw303 ⟨by decide +kernel, by decide +kernel, by decide +kernel⟩ rfl hd
def tX11_plate (kn : sKn) : List (Nat × sA) := [(0, a_aload 0 1), (1, a_iload 1 2), (2, a_callV false (fX11_isRow kn) 12 2 5), (5, a_if kn b_ne 1 10 8), (8, a_stk (q_int (-1)) 9), (9, a_iret), (10, a_aload 0 11), (11, a_get 12 12 14), (14, a_stk (q_int 0) 15), (15, a_callV true (fJ4_setLength_d00df kn) 0 2 18), (18, a_stk (q_int 0) 19), (19, a_istore 2 20), (20, a_iload 2 21), (21, a_stk (q_int 3) 22), (22, a_icmp kn b_ge 3 91 25), (25, a_iload 2 26), (26, a_if kn b_le 5 39 29), (29, a_aload 0 30), (30, a_get 12 12 33), (33, a_stk (q_int 45) 35), (35, a_callV false (fJ4_append_cf468 kn) 0 2 38), (38, a_stk q_pop 39), (39, a_aload 0 40), (40, a_get 12 3 43), (43, a_get 9 6 46), (46, a_stk (q_int 3) 47), (47, a_iload 1 48), (48, a_stk q_imul 49), (49, a_iload 2 50), (50, a_stk q_iadd 51), (51, a_iald 52), (52, a_istore 3 53), (53, a_iload 3 54), (54, a_stk (q_int (-1)) 55), (55, a_icmp kn b_ne 1 72 58), (58, a_aload 0 59), (59, a_get 12 12 62), (62, a_ldcS 65), (65, a_callV false (fJ4_append_15ec4 kn) 0 2 68), (68, a_stk q_pop 69), (69, a_goto 85), (72, a_aload 0 73), (73, a_aload 0 74), (74, a_get 12 2 77), (77, a_get 7 6 80), (80, a_iload 3 81), (81, a_lald 82), (82, a_callV true (fX11_writeName kn) 12 2 85), (85, a_iinc 2 1 88), (88, a_goto 20), (91, a_aload 0 92), (92, a_get 12 12 95), (95, a_callV false (fJ4_length_8abf5 kn) 0 1 98), (98, a_iret)]
def fX11_plate (kn : sKn) : List Value → sW → Option sR := fW (tX11_plate kn) 4
set_option maxRecDepth 100000 in
set_option maxHeartbeats 4000000 in
theorem mX11_plate (kn : sKn) : mM kn yX11_plate (Cond.code yX11_plate cX11_plate 4 (some .int) :: wsL_law) 7 false (fX11_plate kn) := mM_W (fun n => mM_of (own := RX11) (ini := false) rfl (by decide +kernel) (by decide +kernel) (all_c (ok_aload_n dX11_plate_0 rfl) (all_c (ok_iload_n dX11_plate_1 rfl) (all_c (okc_X11_isRow (by decide) kw306 dX11_plate_2) (all_c (ok_if_ne dX11_plate_5 (by decide)) (all_c (ok_stk (s_iconst dX11_plate_8 (by decide))) (all_c (ok_iret dX11_plate_9) (all_c (ok_aload_n dX11_plate_10 rfl) (all_c (okg_X11_12 kw650 dX11_plate_11) (all_c (ok_stk (s_iconst dX11_plate_14 (by decide))) (all_c (okc_J4_setLength_d00df (by decide) kw958 dX11_plate_15) (all_c (ok_stk (s_iconst dX11_plate_18 (by decide))) (all_c (ok_istore_n dX11_plate_19 rfl (by decide)) (all_c (ok_iload_n dX11_plate_20 rfl) (all_c (ok_stk (s_iconst dX11_plate_21 (by decide))) (all_c (ok_icmp_ge dX11_plate_22 (by decide)) (all_c (ok_iload_n dX11_plate_25 rfl) (all_c (ok_if_le dX11_plate_26 (by decide)) (all_c (ok_aload_n dX11_plate_29 rfl) (all_c (okg_X11_12 kw650 dX11_plate_30) (all_c (ok_stk (s_bipush dX11_plate_33 (by decide))) (all_c (okc_J4_append_cf468 (by decide) kw954 dX11_plate_35) (all_c (ok_stk (s_pop dX11_plate_38)) (all_c (ok_aload_n dX11_plate_39 rfl) (all_c (okg_X11_3 kw292 dX11_plate_40) (all_c (okg_X8_6 kw945 dX11_plate_43) (all_c (ok_stk (s_iconst dX11_plate_46 (by decide))) (all_c (ok_iload_n dX11_plate_47 rfl) (all_c (ok_stk (s_imul dX11_plate_48)) (all_c (ok_iload_n dX11_plate_49 rfl) (all_c (ok_stk (s_iadd dX11_plate_50)) (all_c (ok_iald dX11_plate_51) (all_c (ok_istore_n dX11_plate_52 rfl (by decide)) (all_c (ok_iload_n dX11_plate_53 rfl) (all_c (ok_stk (s_iconst dX11_plate_54 (by decide))) (all_c (ok_icmp_ne dX11_plate_55 (by decide)) (all_c (ok_aload_n dX11_plate_58 rfl) (all_c (okg_X11_12 kw650 dX11_plate_59) (all_c (ok_ldcS rfl dX11_plate_62) (all_c (okc_J4_append_15ec4 (by decide) kw962 dX11_plate_65) (all_c (ok_stk (s_pop dX11_plate_68)) (all_c (ok_goto dX11_plate_69 (by decide)) (all_c (ok_aload_n dX11_plate_72 rfl) (all_c (ok_aload_n dX11_plate_73 rfl) (all_c (okg_X11_2 kw291 dX11_plate_74) (all_c (okg_X6_6 kw963 dX11_plate_77) (all_c (ok_iload_n dX11_plate_80 rfl) (all_c (ok_lald dX11_plate_81) (all_c (okc_X11_writeName (by decide) kw967 dX11_plate_82) (all_c (ok_iinc dX11_plate_85 (by decide) (by decide)) (all_c (ok_goto dX11_plate_88 (by decide)) (all_c (ok_aload_n dX11_plate_91 rfl) (all_c (okg_X11_12 kw650 dX11_plate_92) (all_c (okc_J4_length_8abf5 (by decide) kw655 dX11_plate_95) (all_c (ok_iret dX11_plate_98) all_n)))))))))))))))))))))))))))))))))))))))))))))))))))))) n (fun h => by first | rfl | cases h))
end
